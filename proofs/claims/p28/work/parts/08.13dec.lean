def F_X12_fillWays_2 (N : Nat) (x0 : Nat) (x1 : Int32) (x2 : Int32) (again2 : (Int32 × zS) → Option (Unit × zS)) : Int32 × zS → Option (Unit × zS)
  | (x3, σ) =>
  if 1024 ≤ x3 then
    (some ((), σ))
  else
    (zl (gR 12 17 x0 σ) fun v1 =>
    zl (gR 12 1 x0 σ) fun v2 =>
    zl (aI 14 v2 2 σ) fun v3 =>
    if ((1 : Int32) <<< (v3 &&& 31)) ≤ x3 then
      (zl (sI 16 v1 x3 0 σ) fun σ4 =>
      again2 (x3 + 1, σ4))
    else
      (zl (gC 12 x0) fun _ => zb (f_X12_isWay N x0 x3 x1 x2 σ) fun v5 σ6 =>
      if v5 = 0 then
        (zl (sI 16 v1 x3 0 σ6) fun σ7 =>
        again2 (x3 + 1, σ7))
      else
        (zl (sI 16 v1 x3 1 σ6) fun σ8 =>
        again2 (x3 + 1, σ8))))
def f_X12_fillWays (N : Nat) (x0 : Nat) (x1 : Int32) (x2 : Int32) (σ : zS) : Option (Unit × zS) :=
  zlp (F_X12_fillWays_2 N x0 x1 x2) N (0, σ)
set_option maxHeartbeats 4000000 in
set_option maxRecDepth 100000 in
theorem c_X12_fillWays (l : Launch) (D : va_G) (c : zC) (o : Nat) (g : zEp) (N : Nat) {x0 : Nat} {x1 : Int32} {x2 : Int32} {σ : zS} {ρ : Unit × zS} (h : f_X12_fillWays N x0 x1 x2 σ = some ρ) : Met l yX12_fillWays zs_X12_fillWays (zr 8) (va_Pc [.ref (o + x0), .int x1, .int x2] (zG D c o g σ)) (zQu D c o g ρ) 0 0 (zA o) := by
  refine zMetG (by decide) (Nat.le_of_ble_eq_true rfl) ?_
  intro p e s m below meth cd ⟨hx, hb, hr, hml, hown, hts, hlocks⟩ hP hK hE ls hl
  have hS : va_S (zA o) s.heap s.heap [] := va_S.rf
  have hl : lv_has ls 4 [(0, .ref (o + x0)), (1, .int x1), (2, .int x2)] := hl
  rw [f_X12_fillWays.eq_1] at h
  refine lv_iconst (pc := 0) (v := 0) hx hb dX12_fillWays_0 (by decide) ?_
  refine lv_istore_n (pc := 1) (lv' := [(3, .int 0), (0, .ref (o + x0)), (1, .int x1), (2, .int x2)]) hx hb dX12_fillWays_1 rfl hl (by decide) rfl (fun ls hl => ?_)
  have L2_1 : ∀ (n : Nat) (t : Int32 × zS), zlp (F_X12_fillWays_2 N x0 x1 x2) n t = some ρ → ∀ (H : Heap) (locs : List Loc) (ls : Array Slot), zP D c o (zabs o (t.2)) H → va_S (zA o) s.heap H locs → lv_has ls 4 [(3, .int (t.1)), (0, .ref (o + x0)), (1, .int x1), (2, .int x2)] → W p l e (zr 8) s m (([.ref (o + x0), .int x1, .int x2] : List Value).toArray) below meth cd H locs 0 0 (MQ below (zQu D c o g ρ) (([.ref (o + x0), .int x1, .int x2] : List Value).toArray) s 0 0 (zA o)) (F0 m 2 ls []) := by
    refine zlp_ind (fun ag1 ih1 t h H locs ls hP hS hl => ?_)
    obtain ⟨x3_1, σ1⟩ := t
    have hP : zP D c o (zabs o σ1) H := hP
    have hl : lv_has ls 4 [(3, .int x3_1), (0, .ref (o + x0)), (1, .int x1), (2, .int x2)] := hl
    rw [F_X12_fillWays_2.eq_1] at h
    show W p l e (zr 8) s m (([.ref (o + x0), .int x1, .int x2] : List Value).toArray) below meth cd H locs 0 0 (MQ below (zQu D c o g ρ) (([.ref (o + x0), .int x1, .int x2] : List Value).toArray) s 0 0 (zA o)) (F0 m 2 ls [])
    refine lv_iload_n (pc := 2) hx hb dX12_fillWays_2 rfl (lv_at hl 0 rfl) ?_
    refine lv_sipush (pc := 3) (v := 1024) hx hb dX12_fillWays_3 (by decide) ?_
    refine lv_icmp_ge (pc := 6) (tgt := 48) hx hb dX12_fillWays_6 (by decide) (fun c1 => ?_) (fun c1 => ?_)
    · rw [if_pos c1] at h
      exact xretv (pc := 48) hx hb hr hlocks hP hK hE hS h dX12_fillWays_48
    · rw [if_neg c1] at h
      refine lv_aload_n (pc := 9) hx hb dX12_fillWays_9 rfl (lv_at hl 1 rfl) ?_
      obtain ⟨v2, hv, h⟩ := zl_some h
      refine xgR (pc := 10) (j := 17) zc12 hx hb hts hown hK hP hv rfl zf_X12_40 dX12_fillWays_10 ?_
      refine lv_iload_n (pc := 13) hx hb dX12_fillWays_13 rfl (lv_at hl 0 rfl) ?_
      refine lv_iload_n (pc := 14) hx hb dX12_fillWays_14 rfl (lv_at hl 0 rfl) ?_
      refine lv_iconst (pc := 15) (v := 1) hx hb dX12_fillWays_15 (by decide) ?_
      refine lv_aload_n (pc := 16) hx hb dX12_fillWays_16 rfl (lv_at hl 1 rfl) ?_
      obtain ⟨v3, hv, h⟩ := zl_some h
      refine xgR (pc := 17) (j := 1) zc12 hx hb hts hown hK hP hv rfl zf_X12_9 dX12_fillWays_17 ?_
      refine lv_iconst (pc := 20) (v := 2) hx hb dX12_fillWays_20 (by decide) ?_
      obtain ⟨v4, hv, h⟩ := zl_some h
      refine xaI (pc := 21) hx hb hK hP hv dX12_fillWays_21 ?_
      refine lv_ishl (pc := 22) hx hb dX12_fillWays_22 ?_
      refine lv_icmp_ge (pc := 23) (tgt := 40) hx hb dX12_fillWays_23 (by decide) (fun c1 => ?_) (fun c1 => ?_)
      · rw [if_pos c1] at h
        refine lv_iconst (pc := 40) (v := 0) hx hb dX12_fillWays_40 (by decide) ?_
        obtain ⟨σ5, hv, h⟩ := zl_some h
        refine xsZ (pc := 41) hx hb hK hP hS hv dX12_fillWays_41 (fun H locs hP hS => ?_)
        refine lv_iinc (pc := 42) (v := x3_1 + 1) (lv' := [(3, .int (x3_1 + 1)), (0, .ref (o + x0)), (1, .int x1), (2, .int x2)]) hx hb dX12_fillWays_42 hl (k := 0) rfl rfl (by decide) rfl (fun ls hl => ?_)
        refine lv_goto (pc := 45) (tgt := 2) hx hb dX12_fillWays_45 (by decide) ?_
        exact ih1 (x3_1 + 1, σ5) h _ _ ls hP hS (lv_sub hl [0, 1, 2, 3] rfl)
      · rw [if_neg c1] at h
        refine lv_aload_n (pc := 26) hx hb dX12_fillWays_26 rfl (lv_at hl 1 rfl) ?_
        refine lv_iload_n (pc := 27) hx hb dX12_fillWays_27 rfl (lv_at hl 0 rfl) ?_
        refine lv_iload_n (pc := 28) hx hb dX12_fillWays_28 rfl (lv_at hl 2 rfl) ?_
        refine lv_iload_n (pc := 29) hx hb dX12_fillWays_29 rfl (lv_at hl 3 rfl) ?_
        obtain ⟨_, hg, h⟩ := zl_some h
        obtain ⟨v6, σ7, hv, h⟩ := zb_some h
        refine xcallVi (pc := 30) (As := [.int x3_1, .int x1, .int x2]) (rest := [.int x3_1, .ref (o + v2)]) ⟨hx, hb, hml, hown, hts⟩ (c_X12_isWay l D c o g N hv) zc12 zV_X12_426 rfl zd_X12_isWay ⟨Nat.le_of_ble_eq_true rfl, Nat.le_of_ble_eq_true rfl⟩ hK hP hE hS hg hl.1 rfl (Nat.le_of_ble_eq_true rfl) ⟨Nat.zero_le _, Nat.zero_le _⟩ dX12_fillWays_30 (fun H locs hP hS => ?_)
        refine lv_if_eq (pc := 33) (tgt := 40) hx hb dX12_fillWays_33 (by decide) (fun c1 => ?_) (fun c1 => ?_)
        · rw [if_pos c1] at h
          refine lv_iconst (pc := 40) (v := 0) hx hb dX12_fillWays_40 (by decide) ?_
          obtain ⟨σ8, hv, h⟩ := zl_some h
          refine xsZ (pc := 41) hx hb hK hP hS hv dX12_fillWays_41 (fun H locs hP hS => ?_)
          refine lv_iinc (pc := 42) (v := x3_1 + 1) (lv' := [(3, .int (x3_1 + 1)), (0, .ref (o + x0)), (1, .int x1), (2, .int x2)]) hx hb dX12_fillWays_42 hl (k := 0) rfl rfl (by decide) rfl (fun ls hl => ?_)
          refine lv_goto (pc := 45) (tgt := 2) hx hb dX12_fillWays_45 (by decide) ?_
          exact ih1 (x3_1 + 1, σ8) h _ _ ls hP hS (lv_sub hl [0, 1, 2, 3] rfl)
        · rw [if_neg c1] at h
          refine lv_iconst (pc := 36) (v := 1) hx hb dX12_fillWays_36 (by decide) ?_
          refine lv_goto (pc := 37) (tgt := 41) hx hb dX12_fillWays_37 (by decide) ?_
          obtain ⟨σ9, hv, h⟩ := zl_some h
          refine xsZ (pc := 41) hx hb hK hP hS hv dX12_fillWays_41 (fun H locs hP hS => ?_)
          refine lv_iinc (pc := 42) (v := x3_1 + 1) (lv' := [(3, .int (x3_1 + 1)), (0, .ref (o + x0)), (1, .int x1), (2, .int x2)]) hx hb dX12_fillWays_42 hl (k := 0) rfl rfl (by decide) rfl (fun ls hl => ?_)
          refine lv_goto (pc := 45) (tgt := 2) hx hb dX12_fillWays_45 (by decide) ?_
          exact ih1 (x3_1 + 1, σ9) h _ _ ls hP hS (lv_sub hl [0, 1, 2, 3] rfl)
  exact L2_1 N (0, σ) h _ _ ls hP hS (lv_sub hl [0, 1, 2, 3] rfl)
def f_X12_ways (N : Nat) (x0 : Nat) (x1 : Int32) (x2 : Int32) (x3 : Int32) (σ : zS) : Option (Int32 × zS) :=
  zl (gC 12 x0) fun _ => zb (f_X12_isRegister N x0 x1 σ) fun v1 σ2 =>
  if v1 = 0 then
    (some ((-2), σ2))
  else
    (zl (gC 12 x0) fun _ => zb (f_X12_isCrossing N x0 x2 σ2) fun v3 σ4 =>
    if v3 = 0 then
      (some ((-2), σ4))
    else
      (zl (gC 12 x0) fun _ => zb (f_X12_isCrossing N x0 x3 σ4) fun v5 σ6 =>
      if v5 = 0 then
        (some ((-2), σ6))
      else
        (zl (gC 12 x0) fun _ => zb (f_X12_fillWays N x0 x2 x3 σ6) fun v7 σ8 =>
        zl (gC 12 x0) fun _ => zb (f_X12_lays N x0 x1 σ8) fun v9 σ10 =>
        some (v9, σ10))))
set_option maxHeartbeats 4000000 in
set_option maxRecDepth 100000 in
theorem c_X12_ways (l : Launch) (D : va_G) (c : zC) (o : Nat) (g : zEp) (N : Nat) {x0 : Nat} {x1 : Int32} {x2 : Int32} {x3 : Int32} {σ : zS} {ρ : Int32 × zS} (h : f_X12_ways N x0 x1 x2 x3 σ = some ρ) : Met l yX12_ways zs_X12_ways (zr 10) (va_Pc [.ref (o + x0), .int x1, .int x2, .int x3] (zG D c o g σ)) (zQi D c o g ρ) 0 0 (zA o) := by
  refine zMetG (by decide) (Nat.le_of_ble_eq_true rfl) ?_
  intro p e s m below meth cd ⟨hx, hb, hr, hml, hown, hts, hlocks⟩ hP hK hE ls hl
  have hS : va_S (zA o) s.heap s.heap [] := va_S.rf
  have hl : lv_has ls 4 [(0, .ref (o + x0)), (1, .int x1), (2, .int x2), (3, .int x3)] := hl
  rw [f_X12_ways.eq_1] at h
  refine lv_aload_n (pc := 0) hx hb dX12_ways_0 rfl (lv_at hl 0 rfl) ?_
  refine lv_iload_n (pc := 1) hx hb dX12_ways_1 rfl (lv_at hl 1 rfl) ?_
  obtain ⟨_, hg, h⟩ := zl_some h
  obtain ⟨v1, σ2, hv, h⟩ := zb_some h
  refine xcallVi (pc := 2) (As := [.int x1]) (rest := []) ⟨hx, hb, hml, hown, hts⟩ (c_X12_isRegister l D c o g N hv) zc12 zV_X12_321 rfl zd_X12_isRegister ⟨Nat.le_of_ble_eq_true rfl, Nat.le_of_ble_eq_true rfl⟩ hK hP hE hS hg hl.1 rfl (Nat.le_of_ble_eq_true rfl) ⟨Nat.zero_le _, Nat.zero_le _⟩ dX12_ways_2 (fun H locs hP hS => ?_)
  refine lv_if_eq (pc := 5) (tgt := 24) hx hb dX12_ways_5 (by decide) (fun c1 => ?_) (fun c1 => ?_)
  · rw [if_pos c1] at h
    refine lv_bipush (pc := 24) (v := (-2)) hx hb dX12_ways_24 (by decide) ?_
    exact xreti (pc := 26) hx hb hr hlocks hP hK hE hS h dX12_ways_26
  · rw [if_neg c1] at h
    refine lv_aload_n (pc := 8) hx hb dX12_ways_8 rfl (lv_at hl 0 rfl) ?_
    refine lv_iload_n (pc := 9) hx hb dX12_ways_9 rfl (lv_at hl 2 rfl) ?_
    obtain ⟨_, hg, h⟩ := zl_some h
    obtain ⟨v3, σ4, hv, h⟩ := zb_some h
    refine xcallVi (pc := 10) (As := [.int x2]) (rest := []) ⟨hx, hb, hml, hown, hts⟩ (c_X12_isCrossing l D c o g N hv) zc12 zV_X12_430 rfl zd_X12_isCrossing ⟨Nat.le_of_ble_eq_true rfl, Nat.le_of_ble_eq_true rfl⟩ hK hP hE hS hg hl.1 rfl (Nat.le_of_ble_eq_true rfl) ⟨Nat.zero_le _, Nat.zero_le _⟩ dX12_ways_10 (fun H locs hP hS => ?_)
    refine lv_if_eq (pc := 13) (tgt := 24) hx hb dX12_ways_13 (by decide) (fun c1 => ?_) (fun c1 => ?_)
    · rw [if_pos c1] at h
      refine lv_bipush (pc := 24) (v := (-2)) hx hb dX12_ways_24 (by decide) ?_
      exact xreti (pc := 26) hx hb hr hlocks hP hK hE hS h dX12_ways_26
    · rw [if_neg c1] at h
      refine lv_aload_n (pc := 16) hx hb dX12_ways_16 rfl (lv_at hl 0 rfl) ?_
      refine lv_iload_n (pc := 17) hx hb dX12_ways_17 rfl (lv_at hl 3 rfl) ?_
      obtain ⟨_, hg, h⟩ := zl_some h
      obtain ⟨v5, σ6, hv, h⟩ := zb_some h
      refine xcallVi (pc := 18) (As := [.int x3]) (rest := []) ⟨hx, hb, hml, hown, hts⟩ (c_X12_isCrossing l D c o g N hv) zc12 zV_X12_430 rfl zd_X12_isCrossing ⟨Nat.le_of_ble_eq_true rfl, Nat.le_of_ble_eq_true rfl⟩ hK hP hE hS hg hl.1 rfl (Nat.le_of_ble_eq_true rfl) ⟨Nat.zero_le _, Nat.zero_le _⟩ dX12_ways_18 (fun H locs hP hS => ?_)
      refine lv_if_ne (pc := 21) (tgt := 27) hx hb dX12_ways_21 (by decide) (fun c1 => ?_) (fun c1 => ?_)
      · rw [if_neg c1] at h
        refine lv_aload_n (pc := 27) hx hb dX12_ways_27 rfl (lv_at hl 0 rfl) ?_
        refine lv_iload_n (pc := 28) hx hb dX12_ways_28 rfl (lv_at hl 2 rfl) ?_
        refine lv_iload_n (pc := 29) hx hb dX12_ways_29 rfl (lv_at hl 3 rfl) ?_
        obtain ⟨_, hg, h⟩ := zl_some h
        obtain ⟨v7, σ8, hv, h⟩ := zb_some h
        refine xcallVv (pc := 30) (As := [.int x2, .int x3]) (rest := []) ⟨hx, hb, hml, hown, hts⟩ (c_X12_fillWays l D c o g N hv) zc12 zV_X12_433 rfl zd_X12_fillWays ⟨Nat.le_of_ble_eq_true rfl, Nat.le_of_ble_eq_true rfl⟩ hK hP hE hS hg hl.1 rfl (Nat.le_of_ble_eq_true rfl) ⟨Nat.zero_le _, Nat.zero_le _⟩ dX12_ways_30 (fun H locs hP hS => ?_)
        refine lv_aload_n (pc := 33) hx hb dX12_ways_33 rfl (lv_at hl 0 rfl) ?_
        refine lv_iload_n (pc := 34) hx hb dX12_ways_34 rfl (lv_at hl 1 rfl) ?_
        obtain ⟨_, hg, h⟩ := zl_some h
        obtain ⟨v9, σ10, hv, h⟩ := zb_some h
        refine xcallVi (pc := 35) (As := [.int x1]) (rest := []) ⟨hx, hb, hml, hown, hts⟩ (c_X12_lays l D c o g N hv) zc12 zV_X12_324 rfl zd_X12_lays ⟨Nat.le_of_ble_eq_true rfl, Nat.le_of_ble_eq_true rfl⟩ hK hP hE hS hg hl.1 rfl (Nat.le_of_ble_eq_true rfl) ⟨Nat.zero_le _, Nat.zero_le _⟩ dX12_ways_35 (fun H locs hP hS => ?_)
        exact xreti (pc := 38) hx hb hr hlocks hP hK hE hS h dX12_ways_38
      · rw [if_pos c1] at h
        refine lv_bipush (pc := 24) (v := (-2)) hx hb dX12_ways_24 (by decide) ?_
        exact xreti (pc := 26) hx hb hr hlocks hP hK hE hS h dX12_ways_26
def F_X12_crossings_4 (N : Nat) (x0 : Nat) (again4 : (Int32 × Int32 × zS) → Option (Int32 × zS)) : Int32 × Int32 × zS → Option (Int32 × zS)
  | (x1, x2, σ) =>
  zl (gR 12 1 x0 σ) fun v1 =>
  zl (aI 14 v1 2 σ) fun v2 =>
  if v2 ≤ x2 then
    (some (x1, σ))
  else
    (zl (gC 12 x0) fun _ => zb (f_X12_one N x0 x2 σ) fun v3 σ4 =>
    zl (gC 12 x0) fun _ => zb (f_X12_other N x0 x2 σ4) fun v5 σ6 =>
    again4 (x1 ||| (((1 : Int32) <<< (v3 &&& 31)) ||| ((1 : Int32) <<< (v5 &&& 31))), x2 + 1, σ6))
def f_X12_crossings (N : Nat) (x0 : Nat) (σ : zS) : Option (Int32 × zS) :=
  zlp (F_X12_crossings_4 N x0) N (0, 0, σ)
set_option maxHeartbeats 4000000 in
set_option maxRecDepth 100000 in
theorem c_X12_crossings (l : Launch) (D : va_G) (c : zC) (o : Nat) (g : zEp) (N : Nat) {x0 : Nat} {σ : zS} {ρ : Int32 × zS} (h : f_X12_crossings N x0 σ = some ρ) : Met l yX12_crossings zs_X12_crossings (zr 4) (va_Pc [.ref (o + x0)] (zG D c o g σ)) (zQi D c o g ρ) 0 0 (zA o) := by
  refine zMetG (by decide) (Nat.le_of_ble_eq_true rfl) ?_
  intro p e s m below meth cd ⟨hx, hb, hr, hml, hown, hts, hlocks⟩ hP hK hE ls hl
  have hS : va_S (zA o) s.heap s.heap [] := va_S.rf
  have hl : lv_has ls 3 [(0, .ref (o + x0))] := hl
  rw [f_X12_crossings.eq_1] at h
  refine lv_iconst (pc := 0) (v := 0) hx hb dX12_crossings_0 (by decide) ?_
  refine lv_istore_n (pc := 1) (lv' := [(1, .int 0), (0, .ref (o + x0))]) hx hb dX12_crossings_1 rfl hl (by decide) rfl (fun ls hl => ?_)
  refine lv_iconst (pc := 2) (v := 0) hx hb dX12_crossings_2 (by decide) ?_
  refine lv_istore_n (pc := 3) (lv' := [(2, .int 0), (1, .int 0), (0, .ref (o + x0))]) hx hb dX12_crossings_3 rfl hl (by decide) rfl (fun ls hl => ?_)
  have L4_1 : ∀ (n : Nat) (t : Int32 × Int32 × zS), zlp (F_X12_crossings_4 N x0) n t = some ρ → ∀ (H : Heap) (locs : List Loc) (ls : Array Slot), zP D c o (zabs o (t.2.2)) H → va_S (zA o) s.heap H locs → lv_has ls 3 [(1, .int (t.1)), (2, .int (t.2.1)), (0, .ref (o + x0))] → W p l e (zr 4) s m (([.ref (o + x0)] : List Value).toArray) below meth cd H locs 0 0 (MQ below (zQi D c o g ρ) (([.ref (o + x0)] : List Value).toArray) s 0 0 (zA o)) (F0 m 4 ls []) := by
    refine zlp_ind (fun ag1 ih1 t h H locs ls hP hS hl => ?_)
    obtain ⟨x1_1, x2_1, σ1⟩ := t
    have hP : zP D c o (zabs o σ1) H := hP
    have hl : lv_has ls 3 [(1, .int x1_1), (2, .int x2_1), (0, .ref (o + x0))] := hl
    rw [F_X12_crossings_4.eq_1] at h
    show W p l e (zr 4) s m (([.ref (o + x0)] : List Value).toArray) below meth cd H locs 0 0 (MQ below (zQi D c o g ρ) (([.ref (o + x0)] : List Value).toArray) s 0 0 (zA o)) (F0 m 4 ls [])
    refine lv_iload_n (pc := 4) hx hb dX12_crossings_4 rfl (lv_at hl 1 rfl) ?_
    refine lv_aload_n (pc := 5) hx hb dX12_crossings_5 rfl (lv_at hl 2 rfl) ?_
    obtain ⟨v2, hv, h⟩ := zl_some h
    refine xgR (pc := 6) (j := 1) zc12 hx hb hts hown hK hP hv rfl zf_X12_9 dX12_crossings_6 ?_
    refine lv_iconst (pc := 9) (v := 2) hx hb dX12_crossings_9 (by decide) ?_
    obtain ⟨v3, hv, h⟩ := zl_some h
    refine xaI (pc := 10) hx hb hK hP hv dX12_crossings_10 ?_
    refine lv_icmp_ge (pc := 11) (tgt := 38) hx hb dX12_crossings_11 (by decide) (fun c1 => ?_) (fun c1 => ?_)
    · rw [if_pos c1] at h
      refine lv_iload_n (pc := 38) hx hb dX12_crossings_38 rfl (lv_at hl 0 rfl) ?_
      exact xreti (pc := 39) hx hb hr hlocks hP hK hE hS h dX12_crossings_39
    · rw [if_neg c1] at h
      refine lv_iload_n (pc := 14) hx hb dX12_crossings_14 rfl (lv_at hl 0 rfl) ?_
      refine lv_iconst (pc := 15) (v := 1) hx hb dX12_crossings_15 (by decide) ?_
      refine lv_aload_n (pc := 16) hx hb dX12_crossings_16 rfl (lv_at hl 2 rfl) ?_
      refine lv_iload_n (pc := 17) hx hb dX12_crossings_17 rfl (lv_at hl 1 rfl) ?_
      obtain ⟨_, hg, h⟩ := zl_some h
      obtain ⟨v4, σ5, hv, h⟩ := zb_some h
      refine xcallVi (pc := 18) (As := [.int x2_1]) (rest := [.int 1, .int x1_1]) ⟨hx, hb, hml, hown, hts⟩ (c_X12_one l D c o g N hv) zc12 zV_X12_414 rfl zd_X12_one ⟨Nat.le_of_ble_eq_true rfl, Nat.le_of_ble_eq_true rfl⟩ hK hP hE hS hg hl.1 rfl (Nat.le_of_ble_eq_true rfl) ⟨Nat.zero_le _, Nat.zero_le _⟩ dX12_crossings_18 (fun H locs hP hS => ?_)
      refine lv_ishl (pc := 21) hx hb dX12_crossings_21 ?_
      refine lv_iconst (pc := 22) (v := 1) hx hb dX12_crossings_22 (by decide) ?_
      refine lv_aload_n (pc := 23) hx hb dX12_crossings_23 rfl (lv_at hl 2 rfl) ?_
      refine lv_iload_n (pc := 24) hx hb dX12_crossings_24 rfl (lv_at hl 1 rfl) ?_
      obtain ⟨_, hg, h⟩ := zl_some h
      obtain ⟨v6, σ7, hv, h⟩ := zb_some h
      refine xcallVi (pc := 25) (As := [.int x2_1]) (rest := [.int 1, .int ((1 : Int32) <<< (v4 &&& 31)), .int x1_1]) ⟨hx, hb, hml, hown, hts⟩ (c_X12_other l D c o g N hv) zc12 zV_X12_417 rfl zd_X12_other ⟨Nat.le_of_ble_eq_true rfl, Nat.le_of_ble_eq_true rfl⟩ hK hP hE hS hg hl.1 rfl (Nat.le_of_ble_eq_true rfl) ⟨Nat.zero_le _, Nat.zero_le _⟩ dX12_crossings_25 (fun H locs hP hS => ?_)
      refine lv_ishl (pc := 28) hx hb dX12_crossings_28 ?_
      refine lv_ior (pc := 29) hx hb dX12_crossings_29 ?_
      refine lv_ior (pc := 30) hx hb dX12_crossings_30 ?_
      refine lv_istore_n (pc := 31) (lv' := [(1, .int (x1_1 ||| (((1 : Int32) <<< (v4 &&& 31)) ||| ((1 : Int32) <<< (v6 &&& 31))))), (2, .int x2_1), (0, .ref (o + x0))]) hx hb dX12_crossings_31 rfl hl (by decide) rfl (fun ls hl => ?_)
      refine lv_iinc (pc := 32) (v := x2_1 + 1) (lv' := [(2, .int (x2_1 + 1)), (1, .int (x1_1 ||| (((1 : Int32) <<< (v4 &&& 31)) ||| ((1 : Int32) <<< (v6 &&& 31))))), (0, .ref (o + x0))]) hx hb dX12_crossings_32 hl (k := 1) rfl rfl (by decide) rfl (fun ls hl => ?_)
      refine lv_goto (pc := 35) (tgt := 4) hx hb dX12_crossings_35 (by decide) ?_
      exact ih1 (x1_1 ||| (((1 : Int32) <<< (v4 &&& 31)) ||| ((1 : Int32) <<< (v6 &&& 31))), x2_1 + 1, σ7) h _ _ ls hP hS (lv_sub hl [1, 0, 2] rfl)
  exact L4_1 N (0, 0, σ) h _ _ ls hP hS (lv_sub hl [1, 0, 2] rfl)
def F_X12_isTree_16 (N : Nat) (x0 : Nat) (x1 : Int32) (x2 : Int32) (again16 : (Int32 × zS) → Option (Int32 × zS)) : Int32 × zS → Option (Int32 × zS)
  | (x3, σ) =>
  if (((x2 : Int32) >>> (x3 &&& 31)) &&& 1) = 0 then
    (again16 (x3 + 1, σ))
  else
    (zl (gC 12 x0) fun _ => zb (f_X12_hangs N x0 x1 x3 σ) fun v1 σ2 =>
    if v1 = x2 then
      (zb (f_X12_namesOf N x1 σ2) fun v3 σ4 =>
      zb (f_X12_namesOf N x2 σ4) fun v5 σ6 =>
      if v3 = (v5 - 1) then
        (rZ 1 σ6)
      else
        (rZ 0 σ6))
    else
      (rZ 0 σ2))
def f_X12_isTree (N : Nat) (x0 : Nat) (x1 : Int32) (x2 : Int32) (σ : zS) : Option (Int32 × zS) :=
  if x2 = 0 then
    (if x1 = 0 then
      (rZ 1 σ)
    else
      (rZ 0 σ))
  else
    (zlp (F_X12_isTree_16 N x0 x1 x2) N (0, σ))
set_option maxHeartbeats 4000000 in
set_option maxRecDepth 100000 in
theorem c_X12_isTree (l : Launch) (D : va_G) (c : zC) (o : Nat) (g : zEp) (N : Nat) {x0 : Nat} {x1 : Int32} {x2 : Int32} {σ : zS} {ρ : Int32 × zS} (h : f_X12_isTree N x0 x1 x2 σ = some ρ) : Met l yX12_isTree zs_X12_isTree (zr 6) (va_Pc [.ref (o + x0), .int x1, .int x2] (zG D c o g σ)) (zQi D c o g ρ) 0 0 (zA o) := by
  refine zMetG (by decide) (Nat.le_of_ble_eq_true rfl) ?_
  intro p e s m below meth cd ⟨hx, hb, hr, hml, hown, hts, hlocks⟩ hP hK hE ls hl
  have hS : va_S (zA o) s.heap s.heap [] := va_S.rf
  have hl : lv_has ls 4 [(0, .ref (o + x0)), (1, .int x1), (2, .int x2)] := hl
  rw [f_X12_isTree.eq_1] at h
  refine lv_iload_n (pc := 0) hx hb dX12_isTree_0 rfl (lv_at hl 2 rfl) ?_
  refine lv_if_ne (pc := 1) (tgt := 14) hx hb dX12_isTree_1 (by decide) (fun c1 => ?_) (fun c1 => ?_)
  · rw [if_neg c1] at h
    refine lv_iconst (pc := 14) (v := 0) hx hb dX12_isTree_14 (by decide) ?_
    refine lv_istore_n (pc := 15) (lv' := [(3, .int 0), (0, .ref (o + x0)), (1, .int x1), (2, .int x2)]) hx hb dX12_isTree_15 rfl hl (by decide) rfl (fun ls hl => ?_)
    have L16_1 : ∀ (n : Nat) (t : Int32 × zS), zlp (F_X12_isTree_16 N x0 x1 x2) n t = some ρ → ∀ (H : Heap) (locs : List Loc) (ls : Array Slot), zP D c o (zabs o (t.2)) H → va_S (zA o) s.heap H locs → lv_has ls 4 [(3, .int (t.1)), (0, .ref (o + x0)), (1, .int x1), (2, .int x2)] → W p l e (zr 6) s m (([.ref (o + x0), .int x1, .int x2] : List Value).toArray) below meth cd H locs 0 0 (MQ below (zQi D c o g ρ) (([.ref (o + x0), .int x1, .int x2] : List Value).toArray) s 0 0 (zA o)) (F0 m 16 ls []) := by
      refine zlp_ind (fun ag1 ih1 t h H locs ls hP hS hl => ?_)
      obtain ⟨x3_1, σ1⟩ := t
      have hP : zP D c o (zabs o σ1) H := hP
      have hl : lv_has ls 4 [(3, .int x3_1), (0, .ref (o + x0)), (1, .int x1), (2, .int x2)] := hl
      rw [F_X12_isTree_16.eq_1] at h
      show W p l e (zr 6) s m (([.ref (o + x0), .int x1, .int x2] : List Value).toArray) below meth cd H locs 0 0 (MQ below (zQi D c o g ρ) (([.ref (o + x0), .int x1, .int x2] : List Value).toArray) s 0 0 (zA o)) (F0 m 16 ls [])
      refine lv_iload_n (pc := 16) hx hb dX12_isTree_16 rfl (lv_at hl 3 rfl) ?_
      refine lv_iload_n (pc := 17) hx hb dX12_isTree_17 rfl (lv_at hl 0 rfl) ?_
      refine lv_ishr (pc := 18) hx hb dX12_isTree_18 ?_
      refine lv_iconst (pc := 19) (v := 1) hx hb dX12_isTree_19 (by decide) ?_
      refine lv_iand (pc := 20) hx hb dX12_isTree_20 ?_
      refine lv_if_ne (pc := 21) (tgt := 30) hx hb dX12_isTree_21 (by decide) (fun c1 => ?_) (fun c1 => ?_)
      · rw [if_neg c1] at h
        refine lv_aload_n (pc := 30) hx hb dX12_isTree_30 rfl (lv_at hl 1 rfl) ?_
        refine lv_iload_n (pc := 31) hx hb dX12_isTree_31 rfl (lv_at hl 2 rfl) ?_
        refine lv_iload_n (pc := 32) hx hb dX12_isTree_32 rfl (lv_at hl 0 rfl) ?_
        obtain ⟨_, hg, h⟩ := zl_some h
        obtain ⟨v2, σ3, hv, h⟩ := zb_some h
        refine xcallVi (pc := 33) (As := [.int x1, .int x3_1]) (rest := []) ⟨hx, hb, hml, hown, hts⟩ (c_X12_hangs l D c o g N hv) zc12 zV_X12_423 rfl zd_X12_hangs ⟨Nat.le_of_ble_eq_true rfl, Nat.le_of_ble_eq_true rfl⟩ hK hP hE hS hg hl.1 rfl (Nat.le_of_ble_eq_true rfl) ⟨Nat.zero_le _, Nat.zero_le _⟩ dX12_isTree_33 (fun H locs hP hS => ?_)
        refine lv_iload_n (pc := 36) hx hb dX12_isTree_36 rfl (lv_at hl 3 rfl) ?_
        refine lv_icmp_ne (pc := 37) (tgt := 57) hx hb dX12_isTree_37 (by decide) (fun c1 => ?_) (fun c1 => ?_)
        · rw [if_neg c1] at h
          refine lv_iconst (pc := 57) (v := 0) hx hb dX12_isTree_57 (by decide) ?_
          exact xretz (pc := 58) hx hb hr hlocks hP hK hE hS h dX12_isTree_58
        · rw [if_pos c1] at h
          refine lv_iload_n (pc := 40) hx hb dX12_isTree_40 rfl (lv_at hl 2 rfl) ?_
          obtain ⟨v4, σ5, hv, h⟩ := zb_some h
          refine xcallSi (pc := 41) (As := [.int x1]) (rest := []) ⟨hx, hb, hml, hown, hts⟩ (c_X12_namesOf l D c o g N hv) zT_X12_337 rfl zd_X12_namesOf ⟨Nat.le_of_ble_eq_true rfl, Nat.le_of_ble_eq_true rfl⟩ hK hP hE hS hl.1 rfl (Nat.le_of_ble_eq_true rfl) ⟨Nat.zero_le _, Nat.zero_le _⟩ dX12_isTree_41 (fun H locs hP hS => ?_)
          refine lv_iload_n (pc := 44) hx hb dX12_isTree_44 rfl (lv_at hl 3 rfl) ?_
          obtain ⟨v6, σ7, hv, h⟩ := zb_some h
          refine xcallSi (pc := 45) (As := [.int x2]) (rest := [.int v4]) ⟨hx, hb, hml, hown, hts⟩ (c_X12_namesOf l D c o g N hv) zT_X12_337 rfl zd_X12_namesOf ⟨Nat.le_of_ble_eq_true rfl, Nat.le_of_ble_eq_true rfl⟩ hK hP hE hS hl.1 rfl (Nat.le_of_ble_eq_true rfl) ⟨Nat.zero_le _, Nat.zero_le _⟩ dX12_isTree_45 (fun H locs hP hS => ?_)
          refine lv_iconst (pc := 48) (v := 1) hx hb dX12_isTree_48 (by decide) ?_
          refine lv_isub (pc := 49) hx hb dX12_isTree_49 ?_
          refine lv_icmp_ne (pc := 50) (tgt := 57) hx hb dX12_isTree_50 (by decide) (fun c1 => ?_) (fun c1 => ?_)
          · rw [if_neg c1] at h
            refine lv_iconst (pc := 57) (v := 0) hx hb dX12_isTree_57 (by decide) ?_
            exact xretz (pc := 58) hx hb hr hlocks hP hK hE hS h dX12_isTree_58
          · rw [if_pos c1] at h
            refine lv_iconst (pc := 53) (v := 1) hx hb dX12_isTree_53 (by decide) ?_
            refine lv_goto (pc := 54) (tgt := 58) hx hb dX12_isTree_54 (by decide) ?_
            exact xretz (pc := 58) hx hb hr hlocks hP hK hE hS h dX12_isTree_58
      · rw [if_pos c1] at h
        refine lv_iinc (pc := 24) (v := x3_1 + 1) (lv' := [(3, .int (x3_1 + 1)), (0, .ref (o + x0)), (1, .int x1), (2, .int x2)]) hx hb dX12_isTree_24 hl (k := 0) rfl rfl (by decide) rfl (fun ls hl => ?_)
        refine lv_goto (pc := 27) (tgt := 16) hx hb dX12_isTree_27 (by decide) ?_
        exact ih1 (x3_1 + 1, σ1) h _ _ ls hP hS (lv_sub hl [0, 1, 2, 3] rfl)
    exact L16_1 N (0, σ) h _ _ ls hP hS (lv_sub hl [0, 1, 2, 3] rfl)
  · rw [if_pos c1] at h
    refine lv_iload_n (pc := 4) hx hb dX12_isTree_4 rfl (lv_at hl 1 rfl) ?_
    refine lv_if_ne (pc := 5) (tgt := 12) hx hb dX12_isTree_5 (by decide) (fun c1 => ?_) (fun c1 => ?_)
    · rw [if_neg c1] at h
      refine lv_iconst (pc := 12) (v := 0) hx hb dX12_isTree_12 (by decide) ?_
      exact xretz (pc := 13) hx hb hr hlocks hP hK hE hS h dX12_isTree_13
    · rw [if_pos c1] at h
      refine lv_iconst (pc := 8) (v := 1) hx hb dX12_isTree_8 (by decide) ?_
      refine lv_goto (pc := 9) (tgt := 13) hx hb dX12_isTree_9 (by decide) ?_
      exact xretz (pc := 13) hx hb hr hlocks hP hK hE hS h dX12_isTree_13
def F_X12_isPairs_9 (N : Nat) (x0 : Nat) (again9 : (Int32 × Int32 × zS) → Option (Int32 × zS)) : Int32 × Int32 × zS → Option (Int32 × zS)
  | (x2, x3, σ) =>
  if 8 ≤ x3 then
    (rZ x2 σ)
  else
    (if x2 = 0 then
      (again9 (0, x3 + 1, σ))
    else
      (zl (gR 12 34 x0 σ) fun v3 =>
      zl (aI 14 v3 x3 σ) fun v4 =>
      if 2 ≤ v4 then
        (again9 (0, x3 + 1, σ))
      else
        (again9 (1, x3 + 1, σ))))
def f_X12_isPairs (N : Nat) (x0 : Nat) (x1 : Int32) (σ : zS) : Option (Int32 × zS) :=
  zl (gC 12 x0) fun _ => zb (f_X12_fillEnds N x0 x1 σ) fun v1 σ2 =>
  zlp (F_X12_isPairs_9 N x0) N (1, 0, σ2)
set_option maxHeartbeats 4000000 in
set_option maxRecDepth 100000 in
theorem c_X12_isPairs (l : Launch) (D : va_G) (c : zC) (o : Nat) (g : zEp) (N : Nat) {x0 : Nat} {x1 : Int32} {σ : zS} {ρ : Int32 × zS} (h : f_X12_isPairs N x0 x1 σ = some ρ) : Met l yX12_isPairs zs_X12_isPairs (zr 6) (va_Pc [.ref (o + x0), .int x1] (zG D c o g σ)) (zQi D c o g ρ) 0 0 (zA o) := by
  refine zMetG (by decide) (Nat.le_of_ble_eq_true rfl) ?_
  intro p e s m below meth cd ⟨hx, hb, hr, hml, hown, hts, hlocks⟩ hP hK hE ls hl
  have hS : va_S (zA o) s.heap s.heap [] := va_S.rf
  have hl : lv_has ls 4 [(0, .ref (o + x0)), (1, .int x1)] := hl
  rw [f_X12_isPairs.eq_1] at h
  refine lv_aload_n (pc := 0) hx hb dX12_isPairs_0 rfl (lv_at hl 0 rfl) ?_
  refine lv_iload_n (pc := 1) hx hb dX12_isPairs_1 rfl (lv_at hl 1 rfl) ?_
  obtain ⟨_, hg, h⟩ := zl_some h
  obtain ⟨v1, σ2, hv, h⟩ := zb_some h
  refine xcallVv (pc := 2) (As := [.int x1]) (rest := []) ⟨hx, hb, hml, hown, hts⟩ (c_X12_fillEnds l D c o g N hv) zc12 zV_X12_420 rfl zd_X12_fillEnds ⟨Nat.le_of_ble_eq_true rfl, Nat.le_of_ble_eq_true rfl⟩ hK hP hE hS hg hl.1 rfl (Nat.le_of_ble_eq_true rfl) ⟨Nat.zero_le _, Nat.zero_le _⟩ dX12_isPairs_2 (fun H locs hP hS => ?_)
  refine lv_iconst (pc := 5) (v := 1) hx hb dX12_isPairs_5 (by decide) ?_
  refine lv_istore_n (pc := 6) (lv' := [(2, .int 1), (0, .ref (o + x0)), (1, .int x1)]) hx hb dX12_isPairs_6 rfl hl (by decide) rfl (fun ls hl => ?_)
  refine lv_iconst (pc := 7) (v := 0) hx hb dX12_isPairs_7 (by decide) ?_
  refine lv_istore_n (pc := 8) (lv' := [(3, .int 0), (2, .int 1), (0, .ref (o + x0)), (1, .int x1)]) hx hb dX12_isPairs_8 rfl hl (by decide) rfl (fun ls hl => ?_)
  have L9_3 : ∀ (n : Nat) (t : Int32 × Int32 × zS), zlp (F_X12_isPairs_9 N x0) n t = some ρ → ∀ (H : Heap) (locs : List Loc) (ls : Array Slot), zP D c o (zabs o (t.2.2)) H → va_S (zA o) s.heap H locs → lv_has ls 4 [(2, .int (t.1)), (3, .int (t.2.1)), (0, .ref (o + x0))] → W p l e (zr 6) s m (([.ref (o + x0), .int x1] : List Value).toArray) below meth cd H locs 0 0 (MQ below (zQi D c o g ρ) (([.ref (o + x0), .int x1] : List Value).toArray) s 0 0 (zA o)) (F0 m 9 ls []) := by
    refine zlp_ind (fun ag3 ih3 t h H locs ls hP hS hl => ?_)
    obtain ⟨x2_3, x3_3, σ3⟩ := t
    have hP : zP D c o (zabs o σ3) H := hP
    have hl : lv_has ls 4 [(2, .int x2_3), (3, .int x3_3), (0, .ref (o + x0))] := hl
    rw [F_X12_isPairs_9.eq_1] at h
    show W p l e (zr 6) s m (([.ref (o + x0), .int x1] : List Value).toArray) below meth cd H locs 0 0 (MQ below (zQi D c o g ρ) (([.ref (o + x0), .int x1] : List Value).toArray) s 0 0 (zA o)) (F0 m 9 ls [])
    refine lv_iload_n (pc := 9) hx hb dX12_isPairs_9 rfl (lv_at hl 1 rfl) ?_
    refine lv_bipush (pc := 10) (v := 8) hx hb dX12_isPairs_10 (by decide) ?_
    refine lv_icmp_ge (pc := 12) (tgt := 41) hx hb dX12_isPairs_12 (by decide) (fun c1 => ?_) (fun c1 => ?_)
    · rw [if_pos c1] at h
      refine lv_iload_n (pc := 41) hx hb dX12_isPairs_41 rfl (lv_at hl 0 rfl) ?_
      exact xretz (pc := 42) hx hb hr hlocks hP hK hE hS h dX12_isPairs_42
    · rw [if_neg c1] at h
      refine lv_iload_n (pc := 15) hx hb dX12_isPairs_15 rfl (lv_at hl 0 rfl) ?_
      refine lv_if_eq (pc := 16) (tgt := 33) hx hb dX12_isPairs_16 (by decide) (fun c1 => ?_) (fun c1 => ?_)
      · rw [if_pos c1] at h
        refine lv_iconst (pc := 33) (v := 0) hx hb dX12_isPairs_33 (by decide) ?_
        refine lv_istore_n (pc := 34) (lv' := [(2, .int 0), (3, .int x3_3), (0, .ref (o + x0))]) hx hb dX12_isPairs_34 rfl hl (by decide) rfl (fun ls hl => ?_)
        refine lv_iinc (pc := 35) (v := x3_3 + 1) (lv' := [(3, .int (x3_3 + 1)), (2, .int 0), (0, .ref (o + x0))]) hx hb dX12_isPairs_35 hl (k := 1) rfl rfl (by decide) rfl (fun ls hl => ?_)
        refine lv_goto (pc := 38) (tgt := 9) hx hb dX12_isPairs_38 (by decide) ?_
        exact ih3 (0, x3_3 + 1, σ3) h _ _ ls hP hS (lv_sub hl [1, 0, 2] rfl)
      · rw [if_neg c1] at h
        refine lv_aload_n (pc := 19) hx hb dX12_isPairs_19 rfl (lv_at hl 2 rfl) ?_
        obtain ⟨v4, hv, h⟩ := zl_some h
        refine xgR (pc := 20) (j := 34) zc12 hx hb hts hown hK hP hv rfl zf_X12_73 dX12_isPairs_20 ?_
        refine lv_iload_n (pc := 23) hx hb dX12_isPairs_23 rfl (lv_at hl 1 rfl) ?_
        obtain ⟨v5, hv, h⟩ := zl_some h
        refine xaI (pc := 24) hx hb hK hP hv dX12_isPairs_24 ?_
        refine lv_iconst (pc := 25) (v := 2) hx hb dX12_isPairs_25 (by decide) ?_
        refine lv_icmp_ge (pc := 26) (tgt := 33) hx hb dX12_isPairs_26 (by decide) (fun c1 => ?_) (fun c1 => ?_)
        · rw [if_pos c1] at h
          refine lv_iconst (pc := 33) (v := 0) hx hb dX12_isPairs_33 (by decide) ?_
          refine lv_istore_n (pc := 34) (lv' := [(2, .int 0), (3, .int x3_3), (0, .ref (o + x0))]) hx hb dX12_isPairs_34 rfl hl (by decide) rfl (fun ls hl => ?_)
          refine lv_iinc (pc := 35) (v := x3_3 + 1) (lv' := [(3, .int (x3_3 + 1)), (2, .int 0), (0, .ref (o + x0))]) hx hb dX12_isPairs_35 hl (k := 1) rfl rfl (by decide) rfl (fun ls hl => ?_)
          refine lv_goto (pc := 38) (tgt := 9) hx hb dX12_isPairs_38 (by decide) ?_
          exact ih3 (0, x3_3 + 1, σ3) h _ _ ls hP hS (lv_sub hl [1, 0, 2] rfl)
        · rw [if_neg c1] at h
          refine lv_iconst (pc := 29) (v := 1) hx hb dX12_isPairs_29 (by decide) ?_
          refine lv_goto (pc := 30) (tgt := 34) hx hb dX12_isPairs_30 (by decide) ?_
          refine lv_istore_n (pc := 34) (lv' := [(2, .int 1), (3, .int x3_3), (0, .ref (o + x0))]) hx hb dX12_isPairs_34 rfl hl (by decide) rfl (fun ls hl => ?_)
          refine lv_iinc (pc := 35) (v := x3_3 + 1) (lv' := [(3, .int (x3_3 + 1)), (2, .int 1), (0, .ref (o + x0))]) hx hb dX12_isPairs_35 hl (k := 1) rfl rfl (by decide) rfl (fun ls hl => ?_)
          refine lv_goto (pc := 38) (tgt := 9) hx hb dX12_isPairs_38 (by decide) ?_
          exact ih3 (1, x3_3 + 1, σ3) h _ _ ls hP hS (lv_sub hl [1, 0, 2] rfl)
  exact L9_3 N (1, 0, σ2) h _ _ ls hP hS (lv_sub hl [1, 0, 2] rfl)
def F_X12_isCover_10 (N : Nat) (x0 : Nat) (x2 : Int32) (again10 : (Int32 × Int32 × zS) → Option (Int32 × zS)) : Int32 × Int32 × zS → Option (Int32 × zS)
  | (x3, x4, σ) =>
  if 8 ≤ x4 then
    (rZ x3 σ)
  else
    (if x3 = 0 then
      (again10 (0, x4 + 1, σ))
    else
      (if (((x2 : Int32) >>> (x4 &&& 31)) &&& 1) = 0 then
        (again10 (1, x4 + 1, σ))
      else
        (zl (gR 12 34 x0 σ) fun v3 =>
        zl (aI 14 v3 x4 σ) fun v4 =>
        if v4 ≤ 0 then
          (again10 (0, x4 + 1, σ))
        else
          (again10 (1, x4 + 1, σ)))))
def f_X12_isCover (N : Nat) (x0 : Nat) (x1 : Int32) (x2 : Int32) (σ : zS) : Option (Int32 × zS) :=
  zl (gC 12 x0) fun _ => zb (f_X12_fillEnds N x0 x1 σ) fun v1 σ2 =>
  zlp (F_X12_isCover_10 N x0 x2) N (1, 0, σ2)
set_option maxHeartbeats 4000000 in
set_option maxRecDepth 100000 in
theorem c_X12_isCover (l : Launch) (D : va_G) (c : zC) (o : Nat) (g : zEp) (N : Nat) {x0 : Nat} {x1 : Int32} {x2 : Int32} {σ : zS} {ρ : Int32 × zS} (h : f_X12_isCover N x0 x1 x2 σ = some ρ) : Met l yX12_isCover zs_X12_isCover (zr 6) (va_Pc [.ref (o + x0), .int x1, .int x2] (zG D c o g σ)) (zQi D c o g ρ) 0 0 (zA o) := by
  refine zMetG (by decide) (Nat.le_of_ble_eq_true rfl) ?_
  intro p e s m below meth cd ⟨hx, hb, hr, hml, hown, hts, hlocks⟩ hP hK hE ls hl
  have hS : va_S (zA o) s.heap s.heap [] := va_S.rf
  have hl : lv_has ls 5 [(0, .ref (o + x0)), (1, .int x1), (2, .int x2)] := hl
  rw [f_X12_isCover.eq_1] at h
  refine lv_aload_n (pc := 0) hx hb dX12_isCover_0 rfl (lv_at hl 0 rfl) ?_
  refine lv_iload_n (pc := 1) hx hb dX12_isCover_1 rfl (lv_at hl 1 rfl) ?_
  obtain ⟨_, hg, h⟩ := zl_some h
  obtain ⟨v1, σ2, hv, h⟩ := zb_some h
  refine xcallVv (pc := 2) (As := [.int x1]) (rest := []) ⟨hx, hb, hml, hown, hts⟩ (c_X12_fillEnds l D c o g N hv) zc12 zV_X12_420 rfl zd_X12_fillEnds ⟨Nat.le_of_ble_eq_true rfl, Nat.le_of_ble_eq_true rfl⟩ hK hP hE hS hg hl.1 rfl (Nat.le_of_ble_eq_true rfl) ⟨Nat.zero_le _, Nat.zero_le _⟩ dX12_isCover_2 (fun H locs hP hS => ?_)
  refine lv_iconst (pc := 5) (v := 1) hx hb dX12_isCover_5 (by decide) ?_
  refine lv_istore_n (pc := 6) (lv' := [(3, .int 1), (0, .ref (o + x0)), (1, .int x1), (2, .int x2)]) hx hb dX12_isCover_6 rfl hl (by decide) rfl (fun ls hl => ?_)
  refine lv_iconst (pc := 7) (v := 0) hx hb dX12_isCover_7 (by decide) ?_
  refine lv_istore (pc := 8) (lv' := [(4, .int 0), (3, .int 1), (0, .ref (o + x0)), (1, .int x1), (2, .int x2)]) hx hb dX12_isCover_8 hl (by decide) rfl (fun ls hl => ?_)
  have L10_3 : ∀ (n : Nat) (t : Int32 × Int32 × zS), zlp (F_X12_isCover_10 N x0 x2) n t = some ρ → ∀ (H : Heap) (locs : List Loc) (ls : Array Slot), zP D c o (zabs o (t.2.2)) H → va_S (zA o) s.heap H locs → lv_has ls 5 [(3, .int (t.1)), (4, .int (t.2.1)), (0, .ref (o + x0)), (2, .int x2)] → W p l e (zr 6) s m (([.ref (o + x0), .int x1, .int x2] : List Value).toArray) below meth cd H locs 0 0 (MQ below (zQi D c o g ρ) (([.ref (o + x0), .int x1, .int x2] : List Value).toArray) s 0 0 (zA o)) (F0 m 10 ls []) := by
    refine zlp_ind (fun ag3 ih3 t h H locs ls hP hS hl => ?_)
    obtain ⟨x3_3, x4_3, σ3⟩ := t
    have hP : zP D c o (zabs o σ3) H := hP
    have hl : lv_has ls 5 [(3, .int x3_3), (4, .int x4_3), (0, .ref (o + x0)), (2, .int x2)] := hl
    rw [F_X12_isCover_10.eq_1] at h
    show W p l e (zr 6) s m (([.ref (o + x0), .int x1, .int x2] : List Value).toArray) below meth cd H locs 0 0 (MQ below (zQi D c o g ρ) (([.ref (o + x0), .int x1, .int x2] : List Value).toArray) s 0 0 (zA o)) (F0 m 10 ls [])
    refine lv_iload (pc := 10) hx hb dX12_isCover_10 (lv_at hl 1 rfl) ?_
    refine lv_bipush (pc := 12) (v := 8) hx hb dX12_isCover_12 (by decide) ?_
    refine lv_icmp_ge (pc := 14) (tgt := 52) hx hb dX12_isCover_14 (by decide) (fun c1 => ?_) (fun c1 => ?_)
    · rw [if_pos c1] at h
      refine lv_iload_n (pc := 52) hx hb dX12_isCover_52 rfl (lv_at hl 0 rfl) ?_
      exact xretz (pc := 53) hx hb hr hlocks hP hK hE hS h dX12_isCover_53
    · rw [if_neg c1] at h
      refine lv_iload_n (pc := 17) hx hb dX12_isCover_17 rfl (lv_at hl 0 rfl) ?_
      refine lv_if_eq (pc := 18) (tgt := 44) hx hb dX12_isCover_18 (by decide) (fun c1 => ?_) (fun c1 => ?_)
      · rw [if_pos c1] at h
        refine lv_iconst (pc := 44) (v := 0) hx hb dX12_isCover_44 (by decide) ?_
        refine lv_istore_n (pc := 45) (lv' := [(3, .int 0), (4, .int x4_3), (0, .ref (o + x0)), (2, .int x2)]) hx hb dX12_isCover_45 rfl hl (by decide) rfl (fun ls hl => ?_)
        refine lv_iinc (pc := 46) (v := x4_3 + 1) (lv' := [(4, .int (x4_3 + 1)), (3, .int 0), (0, .ref (o + x0)), (2, .int x2)]) hx hb dX12_isCover_46 hl (k := 1) rfl rfl (by decide) rfl (fun ls hl => ?_)
        refine lv_goto (pc := 49) (tgt := 10) hx hb dX12_isCover_49 (by decide) ?_
        exact ih3 (0, x4_3 + 1, σ3) h _ _ ls hP hS (lv_sub hl [1, 0, 2, 3] rfl)
      · rw [if_neg c1] at h
        refine lv_iload_n (pc := 21) hx hb dX12_isCover_21 rfl (lv_at hl 3 rfl) ?_
        refine lv_iload (pc := 22) hx hb dX12_isCover_22 (lv_at hl 1 rfl) ?_
        refine lv_ishr (pc := 24) hx hb dX12_isCover_24 ?_
        refine lv_iconst (pc := 25) (v := 1) hx hb dX12_isCover_25 (by decide) ?_
        refine lv_iand (pc := 26) hx hb dX12_isCover_26 ?_
        refine lv_if_eq (pc := 27) (tgt := 40) hx hb dX12_isCover_27 (by decide) (fun c1 => ?_) (fun c1 => ?_)
        · rw [if_pos c1] at h
          refine lv_iconst (pc := 40) (v := 1) hx hb dX12_isCover_40 (by decide) ?_
          refine lv_goto (pc := 41) (tgt := 45) hx hb dX12_isCover_41 (by decide) ?_
          refine lv_istore_n (pc := 45) (lv' := [(3, .int 1), (4, .int x4_3), (0, .ref (o + x0)), (2, .int x2)]) hx hb dX12_isCover_45 rfl hl (by decide) rfl (fun ls hl => ?_)
          refine lv_iinc (pc := 46) (v := x4_3 + 1) (lv' := [(4, .int (x4_3 + 1)), (3, .int 1), (0, .ref (o + x0)), (2, .int x2)]) hx hb dX12_isCover_46 hl (k := 1) rfl rfl (by decide) rfl (fun ls hl => ?_)
          refine lv_goto (pc := 49) (tgt := 10) hx hb dX12_isCover_49 (by decide) ?_
          exact ih3 (1, x4_3 + 1, σ3) h _ _ ls hP hS (lv_sub hl [1, 0, 2, 3] rfl)
        · rw [if_neg c1] at h
          refine lv_aload_n (pc := 30) hx hb dX12_isCover_30 rfl (lv_at hl 2 rfl) ?_
          obtain ⟨v4, hv, h⟩ := zl_some h
          refine xgR (pc := 31) (j := 34) zc12 hx hb hts hown hK hP hv rfl zf_X12_73 dX12_isCover_31 ?_
          refine lv_iload (pc := 34) hx hb dX12_isCover_34 (lv_at hl 1 rfl) ?_
          obtain ⟨v5, hv, h⟩ := zl_some h
          refine xaI (pc := 36) hx hb hK hP hv dX12_isCover_36 ?_
          refine lv_if_le (pc := 37) (tgt := 44) hx hb dX12_isCover_37 (by decide) (fun c1 => ?_) (fun c1 => ?_)
          · rw [if_pos c1] at h
            refine lv_iconst (pc := 44) (v := 0) hx hb dX12_isCover_44 (by decide) ?_
            refine lv_istore_n (pc := 45) (lv' := [(3, .int 0), (4, .int x4_3), (0, .ref (o + x0)), (2, .int x2)]) hx hb dX12_isCover_45 rfl hl (by decide) rfl (fun ls hl => ?_)
            refine lv_iinc (pc := 46) (v := x4_3 + 1) (lv' := [(4, .int (x4_3 + 1)), (3, .int 0), (0, .ref (o + x0)), (2, .int x2)]) hx hb dX12_isCover_46 hl (k := 1) rfl rfl (by decide) rfl (fun ls hl => ?_)
            refine lv_goto (pc := 49) (tgt := 10) hx hb dX12_isCover_49 (by decide) ?_
            exact ih3 (0, x4_3 + 1, σ3) h _ _ ls hP hS (lv_sub hl [1, 0, 2, 3] rfl)
          · rw [if_neg c1] at h
            refine lv_iconst (pc := 40) (v := 1) hx hb dX12_isCover_40 (by decide) ?_
            refine lv_goto (pc := 41) (tgt := 45) hx hb dX12_isCover_41 (by decide) ?_
            refine lv_istore_n (pc := 45) (lv' := [(3, .int 1), (4, .int x4_3), (0, .ref (o + x0)), (2, .int x2)]) hx hb dX12_isCover_45 rfl hl (by decide) rfl (fun ls hl => ?_)
            refine lv_iinc (pc := 46) (v := x4_3 + 1) (lv' := [(4, .int (x4_3 + 1)), (3, .int 1), (0, .ref (o + x0)), (2, .int x2)]) hx hb dX12_isCover_46 hl (k := 1) rfl rfl (by decide) rfl (fun ls hl => ?_)
            refine lv_goto (pc := 49) (tgt := 10) hx hb dX12_isCover_49 (by decide) ?_
            exact ih3 (1, x4_3 + 1, σ3) h _ _ ls hP hS (lv_sub hl [1, 0, 2, 3] rfl)
  exact L10_3 N (1, 0, σ2) h _ _ ls hP hS (lv_sub hl [1, 0, 2, 4] rfl)
def F_X12_map_31 (N : Nat) (x0 : Nat) (x1 : Int32) (x2 : Int32) (x3 : Int32) (again31 : (Int32 × zS) → Option (Int32 × zS)) : Int32 × zS → Option (Int32 × zS)
  | (x4, σ) =>
  if 1024 ≤ x4 then
    (zl (gC 12 x0) fun _ => zb (f_X12_lays N x0 x1 σ) fun v7 σ8 =>
    some (v7, σ8))
  else
    (zl (gR 12 17 x0 σ) fun v9 =>
    zl (gR 12 1 x0 σ) fun v10 =>
    zl (aI 14 v10 2 σ) fun v11 =>
    if ((1 : Int32) <<< (v11 &&& 31)) ≤ x4 then
      (zl (sI 16 v9 x4 0 σ) fun σ12 =>
      again31 (x4 + 1, σ12))
    else
      (if x2 = 0 then
        (zl (gC 12 x0) fun _ => zb (f_X12_isTree N x0 x4 x3 σ) fun v13 σ14 =>
        if v13 = 0 then
          (zl (sI 16 v9 x4 0 σ14) fun σ15 =>
          again31 (x4 + 1, σ15))
        else
          (zl (sI 16 v9 x4 1 σ14) fun σ16 =>
          again31 (x4 + 1, σ16)))
      else
        (if x2 = 1 then
          (zl (gC 12 x0) fun _ => zb (f_X12_isPairs N x0 x4 σ) fun v17 σ18 =>
          if v17 = 0 then
            (zl (sI 16 v9 x4 0 σ18) fun σ19 =>
            again31 (x4 + 1, σ19))
          else
            (zl (sI 16 v9 x4 1 σ18) fun σ20 =>
            again31 (x4 + 1, σ20)))
        else
          (zl (gC 12 x0) fun _ => zb (f_X12_isCover N x0 x4 x3 σ) fun v21 σ22 =>
          if v21 = 0 then
            (zl (sI 16 v9 x4 0 σ22) fun σ23 =>
            again31 (x4 + 1, σ23))
          else
            (zl (sI 16 v9 x4 1 σ22) fun σ24 =>
            again31 (x4 + 1, σ24))))))
def f_X12_map (N : Nat) (x0 : Nat) (x1 : Int32) (x2 : Int32) (σ : zS) : Option (Int32 × zS) :=
  zl (gC 12 x0) fun _ => zb (f_X12_isRegister N x0 x1 σ) fun v1 σ2 =>
  if v1 = 0 then
    (some ((-2), σ2))
  else
    (zb (f_X12_in N (Int32.toInt64 x2) 0 2 σ2) fun v3 σ4 =>
    if v3 = 0 then
      (some ((-2), σ4))
    else
      (zl (gC 12 x0) fun _ => zb (f_X12_crossings N x0 σ4) fun v5 σ6 =>
      zlp (F_X12_map_31 N x0 x1 x2 v5) N (0, σ6)))
set_option maxHeartbeats 4000000 in
set_option maxRecDepth 100000 in
theorem c_X12_map (l : Launch) (D : va_G) (c : zC) (o : Nat) (g : zEp) (N : Nat) {x0 : Nat} {x1 : Int32} {x2 : Int32} {σ : zS} {ρ : Int32 × zS} (h : f_X12_map N x0 x1 x2 σ = some ρ) : Met l yX12_map zs_X12_map (zr 10) (va_Pc [.ref (o + x0), .int x1, .int x2] (zG D c o g σ)) (zQi D c o g ρ) 0 0 (zA o) := by
  refine zMetG (by decide) (Nat.le_of_ble_eq_true rfl) ?_
  intro p e s m below meth cd ⟨hx, hb, hr, hml, hown, hts, hlocks⟩ hP hK hE ls hl
  have hS : va_S (zA o) s.heap s.heap [] := va_S.rf
  have hl : lv_has ls 5 [(0, .ref (o + x0)), (1, .int x1), (2, .int x2)] := hl
  rw [f_X12_map.eq_1] at h
  refine lv_aload_n (pc := 0) hx hb dX12_map_0 rfl (lv_at hl 0 rfl) ?_
  refine lv_iload_n (pc := 1) hx hb dX12_map_1 rfl (lv_at hl 1 rfl) ?_
  obtain ⟨_, hg, h⟩ := zl_some h
  obtain ⟨v1, σ2, hv, h⟩ := zb_some h
  refine xcallVi (pc := 2) (As := [.int x1]) (rest := []) ⟨hx, hb, hml, hown, hts⟩ (c_X12_isRegister l D c o g N hv) zc12 zV_X12_321 rfl zd_X12_isRegister ⟨Nat.le_of_ble_eq_true rfl, Nat.le_of_ble_eq_true rfl⟩ hK hP hE hS hg hl.1 rfl (Nat.le_of_ble_eq_true rfl) ⟨Nat.zero_le _, Nat.zero_le _⟩ dX12_map_2 (fun H locs hP hS => ?_)
  refine lv_if_eq (pc := 5) (tgt := 20) hx hb dX12_map_5 (by decide) (fun c1 => ?_) (fun c1 => ?_)
  · rw [if_pos c1] at h
    refine lv_bipush (pc := 20) (v := (-2)) hx hb dX12_map_20 (by decide) ?_
    exact xreti (pc := 22) hx hb hr hlocks hP hK hE hS h dX12_map_22
  · rw [if_neg c1] at h
    refine lv_iload_n (pc := 8) hx hb dX12_map_8 rfl (lv_at hl 2 rfl) ?_
    refine lv_i2l (pc := 9) hx hb dX12_map_9 rfl ?_
    refine lv_lconst (pc := 10) (v := 0) hx hb dX12_map_10 (by decide) ?_
    refine lv_ldc2 (pc := 11) hx hb hown (hts _ zk_X12_92) dX12_map_11 ?_
    obtain ⟨v3, σ4, hv, h⟩ := zb_some h
    refine xcallSi (pc := 14) (As := [.long (Int32.toInt64 x2), .long 0, .long 2]) (rest := []) ⟨hx, hb, hml, hown, hts⟩ (c_X12_in l D c o g N hv) zT_X12_94 rfl zd_X12_in ⟨Nat.le_of_ble_eq_true rfl, Nat.le_of_ble_eq_true rfl⟩ hK hP hE hS hl.1 rfl (Nat.le_of_ble_eq_true rfl) ⟨Nat.zero_le _, Nat.zero_le _⟩ dX12_map_14 (fun H locs hP hS => ?_)
    refine lv_if_ne (pc := 17) (tgt := 23) hx hb dX12_map_17 (by decide) (fun c1 => ?_) (fun c1 => ?_)
    · rw [if_neg c1] at h
      refine lv_aload_n (pc := 23) hx hb dX12_map_23 rfl (lv_at hl 0 rfl) ?_
      obtain ⟨_, hg, h⟩ := zl_some h
      obtain ⟨v5, σ6, hv, h⟩ := zb_some h
      refine xcallVi (pc := 24) (As := []) (rest := []) ⟨hx, hb, hml, hown, hts⟩ (c_X12_crossings l D c o g N hv) zc12 zV_X12_436 rfl zd_X12_crossings ⟨Nat.le_of_ble_eq_true rfl, Nat.le_of_ble_eq_true rfl⟩ hK hP hE hS hg hl.1 rfl (Nat.le_of_ble_eq_true rfl) ⟨Nat.zero_le _, Nat.zero_le _⟩ dX12_map_24 (fun H locs hP hS => ?_)
      refine lv_istore_n (pc := 27) (lv' := [(3, .int v5), (0, .ref (o + x0)), (1, .int x1), (2, .int x2)]) hx hb dX12_map_27 rfl hl (by decide) rfl (fun ls hl => ?_)
      refine lv_iconst (pc := 28) (v := 0) hx hb dX12_map_28 (by decide) ?_
      refine lv_istore (pc := 29) (lv' := [(4, .int 0), (3, .int v5), (0, .ref (o + x0)), (1, .int x1), (2, .int x2)]) hx hb dX12_map_29 hl (by decide) rfl (fun ls hl => ?_)
      have L31_7 : ∀ (n : Nat) (t : Int32 × zS), zlp (F_X12_map_31 N x0 x1 x2 v5) n t = some ρ → ∀ (H : Heap) (locs : List Loc) (ls : Array Slot), zP D c o (zabs o (t.2)) H → va_S (zA o) s.heap H locs → lv_has ls 5 [(4, .int (t.1)), (0, .ref (o + x0)), (1, .int x1), (2, .int x2), (3, .int v5)] → W p l e (zr 10) s m (([.ref (o + x0), .int x1, .int x2] : List Value).toArray) below meth cd H locs 0 0 (MQ below (zQi D c o g ρ) (([.ref (o + x0), .int x1, .int x2] : List Value).toArray) s 0 0 (zA o)) (F0 m 31 ls []) := by
        refine zlp_ind (fun ag7 ih7 t h H locs ls hP hS hl => ?_)
        obtain ⟨x4_7, σ7⟩ := t
        have hP : zP D c o (zabs o σ7) H := hP
        have hl : lv_has ls 5 [(4, .int x4_7), (0, .ref (o + x0)), (1, .int x1), (2, .int x2), (3, .int v5)] := hl
        rw [F_X12_map_31.eq_1] at h
        show W p l e (zr 10) s m (([.ref (o + x0), .int x1, .int x2] : List Value).toArray) below meth cd H locs 0 0 (MQ below (zQi D c o g ρ) (([.ref (o + x0), .int x1, .int x2] : List Value).toArray) s 0 0 (zA o)) (F0 m 31 ls [])
        refine lv_iload (pc := 31) hx hb dX12_map_31 (lv_at hl 0 rfl) ?_
        refine lv_sipush (pc := 33) (v := 1024) hx hb dX12_map_33 (by decide) ?_
        refine lv_icmp_ge (pc := 36) (tgt := 114) hx hb dX12_map_36 (by decide) (fun c1 => ?_) (fun c1 => ?_)
        · rw [if_pos c1] at h
          refine lv_aload_n (pc := 114) hx hb dX12_map_114 rfl (lv_at hl 1 rfl) ?_
          refine lv_iload_n (pc := 115) hx hb dX12_map_115 rfl (lv_at hl 2 rfl) ?_
          obtain ⟨_, hg, h⟩ := zl_some h
          obtain ⟨v8, σ9, hv, h⟩ := zb_some h
          refine xcallVi (pc := 116) (As := [.int x1]) (rest := []) ⟨hx, hb, hml, hown, hts⟩ (c_X12_lays l D c o g N hv) zc12 zV_X12_324 rfl zd_X12_lays ⟨Nat.le_of_ble_eq_true rfl, Nat.le_of_ble_eq_true rfl⟩ hK hP hE hS hg hl.1 rfl (Nat.le_of_ble_eq_true rfl) ⟨Nat.zero_le _, Nat.zero_le _⟩ dX12_map_116 (fun H locs hP hS => ?_)
          exact xreti (pc := 119) hx hb hr hlocks hP hK hE hS h dX12_map_119
        · rw [if_neg c1] at h
          refine lv_aload_n (pc := 39) hx hb dX12_map_39 rfl (lv_at hl 1 rfl) ?_
          obtain ⟨v10, hv, h⟩ := zl_some h
          refine xgR (pc := 40) (j := 17) zc12 hx hb hts hown hK hP hv rfl zf_X12_40 dX12_map_40 ?_
          refine lv_iload (pc := 43) hx hb dX12_map_43 (lv_at hl 0 rfl) ?_
          refine lv_iload (pc := 45) hx hb dX12_map_45 (lv_at hl 0 rfl) ?_
          refine lv_iconst (pc := 47) (v := 1) hx hb dX12_map_47 (by decide) ?_
          refine lv_aload_n (pc := 48) hx hb dX12_map_48 rfl (lv_at hl 1 rfl) ?_
          obtain ⟨v11, hv, h⟩ := zl_some h
          refine xgR (pc := 49) (j := 1) zc12 hx hb hts hown hK hP hv rfl zf_X12_9 dX12_map_49 ?_
          refine lv_iconst (pc := 52) (v := 2) hx hb dX12_map_52 (by decide) ?_
          obtain ⟨v12, hv, h⟩ := zl_some h
          refine xaI (pc := 53) hx hb hK hP hv dX12_map_53 ?_
          refine lv_ishl (pc := 54) hx hb dX12_map_54 ?_
          refine lv_icmp_ge (pc := 55) (tgt := 106) hx hb dX12_map_55 (by decide) (fun c1 => ?_) (fun c1 => ?_)
          · rw [if_pos c1] at h
            refine lv_iconst (pc := 106) (v := 0) hx hb dX12_map_106 (by decide) ?_
            obtain ⟨σ13, hv, h⟩ := zl_some h
            refine xsZ (pc := 107) hx hb hK hP hS hv dX12_map_107 (fun H locs hP hS => ?_)
            refine lv_iinc (pc := 108) (v := x4_7 + 1) (lv' := [(4, .int (x4_7 + 1)), (0, .ref (o + x0)), (1, .int x1), (2, .int x2), (3, .int v5)]) hx hb dX12_map_108 hl (k := 0) rfl rfl (by decide) rfl (fun ls hl => ?_)
            refine lv_goto (pc := 111) (tgt := 31) hx hb dX12_map_111 (by decide) ?_
            exact ih7 (x4_7 + 1, σ13) h _ _ ls hP hS (lv_sub hl [0, 1, 2, 3, 4] rfl)
          · rw [if_neg c1] at h
            refine lv_iload_n (pc := 58) hx hb dX12_map_58 rfl (lv_at hl 3 rfl) ?_
            refine lv_if_ne (pc := 59) (tgt := 75) hx hb dX12_map_59 (by decide) (fun c1 => ?_) (fun c1 => ?_)
            · rw [if_neg c1] at h
              refine lv_iload_n (pc := 75) hx hb dX12_map_75 rfl (lv_at hl 3 rfl) ?_
              refine lv_iconst (pc := 76) (v := 1) hx hb dX12_map_76 (by decide) ?_
              refine lv_icmp_ne (pc := 77) (tgt := 92) hx hb dX12_map_77 (by decide) (fun c1 => ?_) (fun c1 => ?_)
              · rw [if_neg c1] at h
                refine lv_aload_n (pc := 92) hx hb dX12_map_92 rfl (lv_at hl 1 rfl) ?_
                refine lv_iload (pc := 93) hx hb dX12_map_93 (lv_at hl 0 rfl) ?_
                refine lv_iload_n (pc := 95) hx hb dX12_map_95 rfl (lv_at hl 4 rfl) ?_
                obtain ⟨_, hg, h⟩ := zl_some h
                obtain ⟨v14, σ15, hv, h⟩ := zb_some h
                refine xcallVi (pc := 96) (As := [.int x4_7, .int v5]) (rest := [.int x4_7, .ref (o + v10)]) ⟨hx, hb, hml, hown, hts⟩ (c_X12_isCover l D c o g N hv) zc12 zV_X12_445 rfl zd_X12_isCover ⟨Nat.le_of_ble_eq_true rfl, Nat.le_of_ble_eq_true rfl⟩ hK hP hE hS hg hl.1 rfl (Nat.le_of_ble_eq_true rfl) ⟨Nat.zero_le _, Nat.zero_le _⟩ dX12_map_96 (fun H locs hP hS => ?_)
                refine lv_if_eq (pc := 99) (tgt := 106) hx hb dX12_map_99 (by decide) (fun c1 => ?_) (fun c1 => ?_)
                · rw [if_pos c1] at h
                  refine lv_iconst (pc := 106) (v := 0) hx hb dX12_map_106 (by decide) ?_
                  obtain ⟨σ16, hv, h⟩ := zl_some h
                  refine xsZ (pc := 107) hx hb hK hP hS hv dX12_map_107 (fun H locs hP hS => ?_)
                  refine lv_iinc (pc := 108) (v := x4_7 + 1) (lv' := [(4, .int (x4_7 + 1)), (0, .ref (o + x0)), (1, .int x1), (2, .int x2), (3, .int v5)]) hx hb dX12_map_108 hl (k := 0) rfl rfl (by decide) rfl (fun ls hl => ?_)
                  refine lv_goto (pc := 111) (tgt := 31) hx hb dX12_map_111 (by decide) ?_
                  exact ih7 (x4_7 + 1, σ16) h _ _ ls hP hS (lv_sub hl [0, 1, 2, 3, 4] rfl)
                · rw [if_neg c1] at h
                  refine lv_iconst (pc := 102) (v := 1) hx hb dX12_map_102 (by decide) ?_
                  refine lv_goto (pc := 103) (tgt := 107) hx hb dX12_map_103 (by decide) ?_
                  obtain ⟨σ17, hv, h⟩ := zl_some h
                  refine xsZ (pc := 107) hx hb hK hP hS hv dX12_map_107 (fun H locs hP hS => ?_)
                  refine lv_iinc (pc := 108) (v := x4_7 + 1) (lv' := [(4, .int (x4_7 + 1)), (0, .ref (o + x0)), (1, .int x1), (2, .int x2), (3, .int v5)]) hx hb dX12_map_108 hl (k := 0) rfl rfl (by decide) rfl (fun ls hl => ?_)
                  refine lv_goto (pc := 111) (tgt := 31) hx hb dX12_map_111 (by decide) ?_
                  exact ih7 (x4_7 + 1, σ17) h _ _ ls hP hS (lv_sub hl [0, 1, 2, 3, 4] rfl)
              · rw [if_pos c1] at h
                refine lv_aload_n (pc := 80) hx hb dX12_map_80 rfl (lv_at hl 1 rfl) ?_
                refine lv_iload (pc := 81) hx hb dX12_map_81 (lv_at hl 0 rfl) ?_
                obtain ⟨_, hg, h⟩ := zl_some h
                obtain ⟨v18, σ19, hv, h⟩ := zb_some h
                refine xcallVi (pc := 83) (As := [.int x4_7]) (rest := [.int x4_7, .ref (o + v10)]) ⟨hx, hb, hml, hown, hts⟩ (c_X12_isPairs l D c o g N hv) zc12 zV_X12_442 rfl zd_X12_isPairs ⟨Nat.le_of_ble_eq_true rfl, Nat.le_of_ble_eq_true rfl⟩ hK hP hE hS hg hl.1 rfl (Nat.le_of_ble_eq_true rfl) ⟨Nat.zero_le _, Nat.zero_le _⟩ dX12_map_83 (fun H locs hP hS => ?_)
                refine lv_if_eq (pc := 86) (tgt := 106) hx hb dX12_map_86 (by decide) (fun c1 => ?_) (fun c1 => ?_)
                · rw [if_pos c1] at h
                  refine lv_iconst (pc := 106) (v := 0) hx hb dX12_map_106 (by decide) ?_
                  obtain ⟨σ20, hv, h⟩ := zl_some h
                  refine xsZ (pc := 107) hx hb hK hP hS hv dX12_map_107 (fun H locs hP hS => ?_)
                  refine lv_iinc (pc := 108) (v := x4_7 + 1) (lv' := [(4, .int (x4_7 + 1)), (0, .ref (o + x0)), (1, .int x1), (2, .int x2), (3, .int v5)]) hx hb dX12_map_108 hl (k := 0) rfl rfl (by decide) rfl (fun ls hl => ?_)
                  refine lv_goto (pc := 111) (tgt := 31) hx hb dX12_map_111 (by decide) ?_
                  exact ih7 (x4_7 + 1, σ20) h _ _ ls hP hS (lv_sub hl [0, 1, 2, 3, 4] rfl)
                · rw [if_neg c1] at h
                  refine lv_goto (pc := 89) (tgt := 102) hx hb dX12_map_89 (by decide) ?_
                  refine lv_iconst (pc := 102) (v := 1) hx hb dX12_map_102 (by decide) ?_
                  refine lv_goto (pc := 103) (tgt := 107) hx hb dX12_map_103 (by decide) ?_
                  obtain ⟨σ21, hv, h⟩ := zl_some h
                  refine xsZ (pc := 107) hx hb hK hP hS hv dX12_map_107 (fun H locs hP hS => ?_)
                  refine lv_iinc (pc := 108) (v := x4_7 + 1) (lv' := [(4, .int (x4_7 + 1)), (0, .ref (o + x0)), (1, .int x1), (2, .int x2), (3, .int v5)]) hx hb dX12_map_108 hl (k := 0) rfl rfl (by decide) rfl (fun ls hl => ?_)
                  refine lv_goto (pc := 111) (tgt := 31) hx hb dX12_map_111 (by decide) ?_
                  exact ih7 (x4_7 + 1, σ21) h _ _ ls hP hS (lv_sub hl [0, 1, 2, 3, 4] rfl)
            · rw [if_pos c1] at h
              refine lv_aload_n (pc := 62) hx hb dX12_map_62 rfl (lv_at hl 1 rfl) ?_
              refine lv_iload (pc := 63) hx hb dX12_map_63 (lv_at hl 0 rfl) ?_
              refine lv_iload_n (pc := 65) hx hb dX12_map_65 rfl (lv_at hl 4 rfl) ?_
              obtain ⟨_, hg, h⟩ := zl_some h
              obtain ⟨v22, σ23, hv, h⟩ := zb_some h
              refine xcallVi (pc := 66) (As := [.int x4_7, .int v5]) (rest := [.int x4_7, .ref (o + v10)]) ⟨hx, hb, hml, hown, hts⟩ (c_X12_isTree l D c o g N hv) zc12 zV_X12_439 rfl zd_X12_isTree ⟨Nat.le_of_ble_eq_true rfl, Nat.le_of_ble_eq_true rfl⟩ hK hP hE hS hg hl.1 rfl (Nat.le_of_ble_eq_true rfl) ⟨Nat.zero_le _, Nat.zero_le _⟩ dX12_map_66 (fun H locs hP hS => ?_)
              refine lv_if_eq (pc := 69) (tgt := 106) hx hb dX12_map_69 (by decide) (fun c1 => ?_) (fun c1 => ?_)
              · rw [if_pos c1] at h
                refine lv_iconst (pc := 106) (v := 0) hx hb dX12_map_106 (by decide) ?_
                obtain ⟨σ24, hv, h⟩ := zl_some h
                refine xsZ (pc := 107) hx hb hK hP hS hv dX12_map_107 (fun H locs hP hS => ?_)
                refine lv_iinc (pc := 108) (v := x4_7 + 1) (lv' := [(4, .int (x4_7 + 1)), (0, .ref (o + x0)), (1, .int x1), (2, .int x2), (3, .int v5)]) hx hb dX12_map_108 hl (k := 0) rfl rfl (by decide) rfl (fun ls hl => ?_)
                refine lv_goto (pc := 111) (tgt := 31) hx hb dX12_map_111 (by decide) ?_
                exact ih7 (x4_7 + 1, σ24) h _ _ ls hP hS (lv_sub hl [0, 1, 2, 3, 4] rfl)
              · rw [if_neg c1] at h
                refine lv_goto (pc := 72) (tgt := 102) hx hb dX12_map_72 (by decide) ?_
                refine lv_iconst (pc := 102) (v := 1) hx hb dX12_map_102 (by decide) ?_
                refine lv_goto (pc := 103) (tgt := 107) hx hb dX12_map_103 (by decide) ?_
                obtain ⟨σ25, hv, h⟩ := zl_some h
                refine xsZ (pc := 107) hx hb hK hP hS hv dX12_map_107 (fun H locs hP hS => ?_)
                refine lv_iinc (pc := 108) (v := x4_7 + 1) (lv' := [(4, .int (x4_7 + 1)), (0, .ref (o + x0)), (1, .int x1), (2, .int x2), (3, .int v5)]) hx hb dX12_map_108 hl (k := 0) rfl rfl (by decide) rfl (fun ls hl => ?_)
                refine lv_goto (pc := 111) (tgt := 31) hx hb dX12_map_111 (by decide) ?_
                exact ih7 (x4_7 + 1, σ25) h _ _ ls hP hS (lv_sub hl [0, 1, 2, 3, 4] rfl)
      exact L31_7 N (0, σ6) h _ _ ls hP hS (lv_sub hl [0, 2, 3, 4, 1] rfl)
    · rw [if_pos c1] at h
      refine lv_bipush (pc := 20) (v := (-2)) hx hb dX12_map_20 (by decide) ?_
      exact xreti (pc := 22) hx hb hr hlocks hP hK hE hS h dX12_map_22
def F_X12_cuts_44 (N : Nat) (x0 : Nat) (x1 : Int32) (again44 : (Int32 × zS) → Option (Int32 × zS)) : Int32 × zS → Option (Int32 × zS)
  | (x4, σ) =>
  if 1024 ≤ x4 then
    (zl (gR 12 19 x0 σ) fun v12 =>
    zl (gC 12 x0) fun _ => zb (f_X12_turns N x0 2 v12 0 σ) fun v13 σ14 =>
    zl (gC 12 x0) fun _ => zb (f_X12_lays N x0 x1 σ14) fun v15 σ16 =>
    some (v15, σ16))
  else
    (zl (gR 12 19 x0 σ) fun v17 =>
    zl (gR 12 17 x0 σ) fun v18 =>
    zl (aI 16 v18 x4 σ) fun v19 =>
    zl (sI 16 v17 x4 v19 σ) fun σ20 =>
    again44 (x4 + 1, σ20))
def f_X12_cuts (N : Nat) (x0 : Nat) (x1 : Int32) (x2 : Int32) (x3 : Int32) (σ : zS) : Option (Int32 × zS) :=
  zl (gC 12 x0) fun _ => zb (f_X12_isRegister N x0 x1 σ) fun v1 σ2 =>
  if v1 = 0 then
    (some ((-2), σ2))
  else
    (zl (gC 12 x0) fun _ => zb (f_X12_isCrossing N x0 x2 σ2) fun v3 σ4 =>
    if v3 = 0 then
      (some ((-2), σ4))
    else
      (zl (gC 12 x0) fun _ => zb (f_X12_isCrossing N x0 x3 σ4) fun v5 σ6 =>
      if v5 = 0 then
        (some ((-2), σ6))
      else
        (zl (gC 12 x0) fun _ => zb (f_X12_many N x0 σ6) fun v7 σ8 =>
        zl (pI 12 20 x0 v7 σ8) fun σ9 =>
        zl (gC 12 x0) fun _ => zb (f_X12_fillWays N x0 x2 x3 σ9) fun v10 σ11 =>
        zlp (F_X12_cuts_44 N x0 x1) N (0, σ11))))
set_option maxHeartbeats 4000000 in
set_option maxRecDepth 100000 in
theorem c_X12_cuts (l : Launch) (D : va_G) (c : zC) (o : Nat) (g : zEp) (N : Nat) {x0 : Nat} {x1 : Int32} {x2 : Int32} {x3 : Int32} {σ : zS} {ρ : Int32 × zS} (h : f_X12_cuts N x0 x1 x2 x3 σ = some ρ) : Met l yX12_cuts zs_X12_cuts (zr 10) (va_Pc [.ref (o + x0), .int x1, .int x2, .int x3] (zG D c o g σ)) (zQi D c o g ρ) 0 0 (zA o) := by
  refine zMetG (by decide) (Nat.le_of_ble_eq_true rfl) ?_
  intro p e s m below meth cd ⟨hx, hb, hr, hml, hown, hts, hlocks⟩ hP hK hE ls hl
  have hS : va_S (zA o) s.heap s.heap [] := va_S.rf
  have hl : lv_has ls 5 [(0, .ref (o + x0)), (1, .int x1), (2, .int x2), (3, .int x3)] := hl
  rw [f_X12_cuts.eq_1] at h
  refine lv_aload_n (pc := 0) hx hb dX12_cuts_0 rfl (lv_at hl 0 rfl) ?_
  refine lv_iload_n (pc := 1) hx hb dX12_cuts_1 rfl (lv_at hl 1 rfl) ?_
  obtain ⟨_, hg, h⟩ := zl_some h
  obtain ⟨v1, σ2, hv, h⟩ := zb_some h
  refine xcallVi (pc := 2) (As := [.int x1]) (rest := []) ⟨hx, hb, hml, hown, hts⟩ (c_X12_isRegister l D c o g N hv) zc12 zV_X12_321 rfl zd_X12_isRegister ⟨Nat.le_of_ble_eq_true rfl, Nat.le_of_ble_eq_true rfl⟩ hK hP hE hS hg hl.1 rfl (Nat.le_of_ble_eq_true rfl) ⟨Nat.zero_le _, Nat.zero_le _⟩ dX12_cuts_2 (fun H locs hP hS => ?_)
  refine lv_if_eq (pc := 5) (tgt := 24) hx hb dX12_cuts_5 (by decide) (fun c1 => ?_) (fun c1 => ?_)
  · rw [if_pos c1] at h
    refine lv_bipush (pc := 24) (v := (-2)) hx hb dX12_cuts_24 (by decide) ?_
    exact xreti (pc := 26) hx hb hr hlocks hP hK hE hS h dX12_cuts_26
  · rw [if_neg c1] at h
    refine lv_aload_n (pc := 8) hx hb dX12_cuts_8 rfl (lv_at hl 0 rfl) ?_
    refine lv_iload_n (pc := 9) hx hb dX12_cuts_9 rfl (lv_at hl 2 rfl) ?_
    obtain ⟨_, hg, h⟩ := zl_some h
    obtain ⟨v3, σ4, hv, h⟩ := zb_some h
    refine xcallVi (pc := 10) (As := [.int x2]) (rest := []) ⟨hx, hb, hml, hown, hts⟩ (c_X12_isCrossing l D c o g N hv) zc12 zV_X12_430 rfl zd_X12_isCrossing ⟨Nat.le_of_ble_eq_true rfl, Nat.le_of_ble_eq_true rfl⟩ hK hP hE hS hg hl.1 rfl (Nat.le_of_ble_eq_true rfl) ⟨Nat.zero_le _, Nat.zero_le _⟩ dX12_cuts_10 (fun H locs hP hS => ?_)
    refine lv_if_eq (pc := 13) (tgt := 24) hx hb dX12_cuts_13 (by decide) (fun c1 => ?_) (fun c1 => ?_)
    · rw [if_pos c1] at h
      refine lv_bipush (pc := 24) (v := (-2)) hx hb dX12_cuts_24 (by decide) ?_
      exact xreti (pc := 26) hx hb hr hlocks hP hK hE hS h dX12_cuts_26
    · rw [if_neg c1] at h
      refine lv_aload_n (pc := 16) hx hb dX12_cuts_16 rfl (lv_at hl 0 rfl) ?_
      refine lv_iload_n (pc := 17) hx hb dX12_cuts_17 rfl (lv_at hl 3 rfl) ?_
      obtain ⟨_, hg, h⟩ := zl_some h
      obtain ⟨v5, σ6, hv, h⟩ := zb_some h
      refine xcallVi (pc := 18) (As := [.int x3]) (rest := []) ⟨hx, hb, hml, hown, hts⟩ (c_X12_isCrossing l D c o g N hv) zc12 zV_X12_430 rfl zd_X12_isCrossing ⟨Nat.le_of_ble_eq_true rfl, Nat.le_of_ble_eq_true rfl⟩ hK hP hE hS hg hl.1 rfl (Nat.le_of_ble_eq_true rfl) ⟨Nat.zero_le _, Nat.zero_le _⟩ dX12_cuts_18 (fun H locs hP hS => ?_)
      refine lv_if_ne (pc := 21) (tgt := 27) hx hb dX12_cuts_21 (by decide) (fun c1 => ?_) (fun c1 => ?_)
      · rw [if_neg c1] at h
        refine lv_aload_n (pc := 27) hx hb dX12_cuts_27 rfl (lv_at hl 0 rfl) ?_
        refine lv_aload_n (pc := 28) hx hb dX12_cuts_28 rfl (lv_at hl 0 rfl) ?_
        obtain ⟨_, hg, h⟩ := zl_some h
        obtain ⟨v7, σ8, hv, h⟩ := zb_some h
        refine xcallVi (pc := 29) (As := []) (rest := [.ref (o + x0)]) ⟨hx, hb, hml, hown, hts⟩ (c_X12_many l D c o g N hv) zc12 zV_X12_104 rfl zd_X12_many ⟨Nat.le_of_ble_eq_true rfl, Nat.le_of_ble_eq_true rfl⟩ hK hP hE hS hg hl.1 rfl (Nat.le_of_ble_eq_true rfl) ⟨Nat.zero_le _, Nat.zero_le _⟩ dX12_cuts_29 (fun H locs hP hS => ?_)
        obtain ⟨σ9, hv, h⟩ := zl_some h
        refine xpI (pc := 32) (j := 20) zc12 hx hb hts hown hK hP hS hv rfl rfl rfl zf_X12_180 dX12_cuts_32 (fun H locs hP hS => ?_)
        refine lv_aload_n (pc := 35) hx hb dX12_cuts_35 rfl (lv_at hl 0 rfl) ?_
        refine lv_iload_n (pc := 36) hx hb dX12_cuts_36 rfl (lv_at hl 2 rfl) ?_
        refine lv_iload_n (pc := 37) hx hb dX12_cuts_37 rfl (lv_at hl 3 rfl) ?_
        obtain ⟨_, hg, h⟩ := zl_some h
        obtain ⟨v10, σ11, hv, h⟩ := zb_some h
        refine xcallVv (pc := 38) (As := [.int x2, .int x3]) (rest := []) ⟨hx, hb, hml, hown, hts⟩ (c_X12_fillWays l D c o g N hv) zc12 zV_X12_433 rfl zd_X12_fillWays ⟨Nat.le_of_ble_eq_true rfl, Nat.le_of_ble_eq_true rfl⟩ hK hP hE hS hg hl.1 rfl (Nat.le_of_ble_eq_true rfl) ⟨Nat.zero_le _, Nat.zero_le _⟩ dX12_cuts_38 (fun H locs hP hS => ?_)
        refine lv_iconst (pc := 41) (v := 0) hx hb dX12_cuts_41 (by decide) ?_
        refine lv_istore (pc := 42) (lv' := [(4, .int 0), (0, .ref (o + x0)), (1, .int x1), (2, .int x2), (3, .int x3)]) hx hb dX12_cuts_42 hl (by decide) rfl (fun ls hl => ?_)
        have L44_12 : ∀ (n : Nat) (t : Int32 × zS), zlp (F_X12_cuts_44 N x0 x1) n t = some ρ → ∀ (H : Heap) (locs : List Loc) (ls : Array Slot), zP D c o (zabs o (t.2)) H → va_S (zA o) s.heap H locs → lv_has ls 5 [(4, .int (t.1)), (0, .ref (o + x0)), (1, .int x1)] → W p l e (zr 10) s m (([.ref (o + x0), .int x1, .int x2, .int x3] : List Value).toArray) below meth cd H locs 0 0 (MQ below (zQi D c o g ρ) (([.ref (o + x0), .int x1, .int x2, .int x3] : List Value).toArray) s 0 0 (zA o)) (F0 m 44 ls []) := by
          refine zlp_ind (fun ag12 ih12 t h H locs ls hP hS hl => ?_)
          obtain ⟨x4_12, σ12⟩ := t
          have hP : zP D c o (zabs o σ12) H := hP
          have hl : lv_has ls 5 [(4, .int x4_12), (0, .ref (o + x0)), (1, .int x1)] := hl
          rw [F_X12_cuts_44.eq_1] at h
          show W p l e (zr 10) s m (([.ref (o + x0), .int x1, .int x2, .int x3] : List Value).toArray) below meth cd H locs 0 0 (MQ below (zQi D c o g ρ) (([.ref (o + x0), .int x1, .int x2, .int x3] : List Value).toArray) s 0 0 (zA o)) (F0 m 44 ls [])
          refine lv_iload (pc := 44) hx hb dX12_cuts_44 (lv_at hl 0 rfl) ?_
          refine lv_sipush (pc := 46) (v := 1024) hx hb dX12_cuts_46 (by decide) ?_
          refine lv_icmp_ge (pc := 49) (tgt := 72) hx hb dX12_cuts_49 (by decide) (fun c1 => ?_) (fun c1 => ?_)
          · rw [if_pos c1] at h
            refine lv_aload_n (pc := 72) hx hb dX12_cuts_72 rfl (lv_at hl 1 rfl) ?_
            refine lv_iconst (pc := 73) (v := 2) hx hb dX12_cuts_73 (by decide) ?_
            refine lv_aload_n (pc := 74) hx hb dX12_cuts_74 rfl (lv_at hl 1 rfl) ?_
            obtain ⟨v13, hv, h⟩ := zl_some h
            refine xgR (pc := 75) (j := 19) zc12 hx hb hts hown hK hP hv rfl zf_X12_46 dX12_cuts_75 ?_
            refine lv_iconst (pc := 78) (v := 0) hx hb dX12_cuts_78 (by decide) ?_
            obtain ⟨_, hg, h⟩ := zl_some h
            obtain ⟨v14, σ15, hv, h⟩ := zb_some h
            refine xcallVv (pc := 79) (As := [.int 2, .ref (o + v13), .int 0]) (rest := []) ⟨hx, hb, hml, hown, hts⟩ (c_X12_turns l D c o g N hv) zc12 zV_X12_209 rfl zd_X12_turns ⟨Nat.le_of_ble_eq_true rfl, Nat.le_of_ble_eq_true rfl⟩ hK hP hE hS hg hl.1 rfl (Nat.le_of_ble_eq_true rfl) ⟨Nat.zero_le _, Nat.zero_le _⟩ dX12_cuts_79 (fun H locs hP hS => ?_)
            refine lv_aload_n (pc := 82) hx hb dX12_cuts_82 rfl (lv_at hl 1 rfl) ?_
            refine lv_iload_n (pc := 83) hx hb dX12_cuts_83 rfl (lv_at hl 2 rfl) ?_
            obtain ⟨_, hg, h⟩ := zl_some h
            obtain ⟨v16, σ17, hv, h⟩ := zb_some h
            refine xcallVi (pc := 84) (As := [.int x1]) (rest := []) ⟨hx, hb, hml, hown, hts⟩ (c_X12_lays l D c o g N hv) zc12 zV_X12_324 rfl zd_X12_lays ⟨Nat.le_of_ble_eq_true rfl, Nat.le_of_ble_eq_true rfl⟩ hK hP hE hS hg hl.1 rfl (Nat.le_of_ble_eq_true rfl) ⟨Nat.zero_le _, Nat.zero_le _⟩ dX12_cuts_84 (fun H locs hP hS => ?_)
            exact xreti (pc := 87) hx hb hr hlocks hP hK hE hS h dX12_cuts_87
          · rw [if_neg c1] at h
            refine lv_aload_n (pc := 52) hx hb dX12_cuts_52 rfl (lv_at hl 1 rfl) ?_
            obtain ⟨v18, hv, h⟩ := zl_some h
            refine xgR (pc := 53) (j := 19) zc12 hx hb hts hown hK hP hv rfl zf_X12_46 dX12_cuts_53 ?_
            refine lv_iload (pc := 56) hx hb dX12_cuts_56 (lv_at hl 0 rfl) ?_
            refine lv_aload_n (pc := 58) hx hb dX12_cuts_58 rfl (lv_at hl 1 rfl) ?_
            obtain ⟨v19, hv, h⟩ := zl_some h
            refine xgR (pc := 59) (j := 17) zc12 hx hb hts hown hK hP hv rfl zf_X12_40 dX12_cuts_59 ?_
            refine lv_iload (pc := 62) hx hb dX12_cuts_62 (lv_at hl 0 rfl) ?_
            obtain ⟨v20, hv, h⟩ := zl_some h
            refine xaZ (pc := 64) hx hb hK hP hv dX12_cuts_64 ?_
            obtain ⟨σ21, hv, h⟩ := zl_some h
            refine xsZ (pc := 65) hx hb hK hP hS hv dX12_cuts_65 (fun H locs hP hS => ?_)
            refine lv_iinc (pc := 66) (v := x4_12 + 1) (lv' := [(4, .int (x4_12 + 1)), (0, .ref (o + x0)), (1, .int x1)]) hx hb dX12_cuts_66 hl (k := 0) rfl rfl (by decide) rfl (fun ls hl => ?_)
            refine lv_goto (pc := 69) (tgt := 44) hx hb dX12_cuts_69 (by decide) ?_
            exact ih12 (x4_12 + 1, σ21) h _ _ ls hP hS (lv_sub hl [0, 1, 2] rfl)
        exact L44_12 N (0, σ11) h _ _ ls hP hS (lv_sub hl [0, 1, 2] rfl)
      · rw [if_pos c1] at h
        refine lv_bipush (pc := 24) (v := (-2)) hx hb dX12_cuts_24 (by decide) ?_
        exact xreti (pc := 26) hx hb hr hlocks hP hK hE hS h dX12_cuts_26
def f_X12_isSlot (N : Nat) (x0 : Int32) (σ : zS) : Option (Int32 × zS) :=
  zb (f_X12_in N (Int32.toInt64 x0) 0 3 σ) fun v1 σ2 =>
  rZ v1 σ2
set_option maxHeartbeats 4000000 in
set_option maxRecDepth 100000 in
theorem c_X12_isSlot (l : Launch) (D : va_G) (c : zC) (o : Nat) (g : zEp) (N : Nat) {x0 : Int32} {σ : zS} {ρ : Int32 × zS} (h : f_X12_isSlot N x0 σ = some ρ) : Met l yX12_isSlot zs_X12_isSlot (zr 4) (va_Pc [.int x0] (zG D c o g σ)) (zQi D c o g ρ) 0 0 (zA o) := by
  refine zMetG (by decide) (Nat.le_of_ble_eq_true rfl) ?_
  intro p e s m below meth cd ⟨hx, hb, hr, hml, hown, hts, hlocks⟩ hP hK hE ls hl
  have hS : va_S (zA o) s.heap s.heap [] := va_S.rf
  have hl : lv_has ls 1 [(0, .int x0)] := hl
  rw [f_X12_isSlot.eq_1] at h
  refine lv_iload_n (pc := 0) hx hb dX12_isSlot_0 rfl (lv_at hl 0 rfl) ?_
  refine lv_i2l (pc := 1) hx hb dX12_isSlot_1 rfl ?_
  refine lv_lconst (pc := 2) (v := 0) hx hb dX12_isSlot_2 (by decide) ?_
  refine lv_ldc2 (pc := 3) hx hb hown (hts _ zk_X12_454) dX12_isSlot_3 ?_
  obtain ⟨v1, σ2, hv, h⟩ := zb_some h
  refine xcallSi (pc := 6) (As := [.long (Int32.toInt64 x0), .long 0, .long 3]) (rest := []) ⟨hx, hb, hml, hown, hts⟩ (c_X12_in l D c o g N hv) zT_X12_94 rfl zd_X12_in ⟨Nat.le_of_ble_eq_true rfl, Nat.le_of_ble_eq_true rfl⟩ hK hP hE hS hl.1 rfl (Nat.le_of_ble_eq_true rfl) ⟨Nat.zero_le _, Nat.zero_le _⟩ dX12_isSlot_6 (fun H locs hP hS => ?_)
  exact xretz (pc := 9) hx hb hr hlocks hP hK hE hS h dX12_isSlot_9
def F_X12_judge_33 (N : Nat) (x0 : Nat) (x1 : Int32) (x2 : Int32) (again33 : (Int32 × zS) → Option (Int32 × zS)) : Int32 × zS → Option (Int32 × zS)
  | (x3, σ) =>
  zl (gR 12 35 x0 σ) fun v7 =>
  zl (aI 14 v7 x1 σ) fun v8 =>
  if v8 ≤ x3 then
    (zl (gR 12 35 x0 σ) fun v9 =>
    zl (aI 14 v9 x1 σ) fun v10 =>
    zl (gC 12 x0) fun _ => zb (f_X12_nthOf N x0 x2 v10 σ) fun v11 σ12 =>
    if v11 = (-1) then
      (zl (gR 12 35 x0 σ12) fun v13 =>
      zl (aI 14 v13 x1 σ12) fun v14 =>
      some (v14, σ12))
    else
      (some ((-1), σ12)))
  else
    (zl (gC 12 x0) fun _ => zb (f_X12_nthOf N x0 x2 x3 σ) fun v15 σ16 =>
    if v15 = (-1) then
      (some (x3, σ16))
    else
      (zl (gR 12 37 x0 σ16) fun v17 =>
      zl (aJ v17 ((60 * x1) + x3) σ16) fun v18 =>
      if (lg_cmp v18 (Int32.toInt64 v15)) = 0 then
        (again33 (x3 + 1, σ16))
      else
        (some (x3, σ16))))
def f_X12_judge (N : Nat) (x0 : Nat) (x1 : Int32) (x2 : Int32) (σ : zS) : Option (Int32 × zS) :=
  zb (f_X12_isSlot N x1 σ) fun v1 σ2 =>
  if v1 = 0 then
    (some ((-2), σ2))
  else
    (zl (gC 12 x0) fun _ => zb (f_X12_isRegister N x0 x2 σ2) fun v3 σ4 =>
    if v3 = 0 then
      (some ((-2), σ4))
    else
      (zl (gR 12 35 x0 σ4) fun v5 =>
      zl (aI 14 v5 x1 σ4) fun v6 =>
      if v6 = (-1) then
        (some ((-6), σ4))
      else
        (zlp (F_X12_judge_33 N x0 x1 x2) N (0, σ4))))
set_option maxHeartbeats 4000000 in
set_option maxRecDepth 100000 in
theorem c_X12_judge (l : Launch) (D : va_G) (c : zC) (o : Nat) (g : zEp) (N : Nat) {x0 : Nat} {x1 : Int32} {x2 : Int32} {σ : zS} {ρ : Int32 × zS} (h : f_X12_judge N x0 x1 x2 σ = some ρ) : Met l yX12_judge zs_X12_judge (zr 8) (va_Pc [.ref (o + x0), .int x1, .int x2] (zG D c o g σ)) (zQi D c o g ρ) 0 0 (zA o) := by
  refine zMetG (by decide) (Nat.le_of_ble_eq_true rfl) ?_
  intro p e s m below meth cd ⟨hx, hb, hr, hml, hown, hts, hlocks⟩ hP hK hE ls hl
  have hS : va_S (zA o) s.heap s.heap [] := va_S.rf
  have hl : lv_has ls 5 [(0, .ref (o + x0)), (1, .int x1), (2, .int x2)] := hl
  rw [f_X12_judge.eq_1] at h
  refine lv_iload_n (pc := 0) hx hb dX12_judge_0 rfl (lv_at hl 1 rfl) ?_
  obtain ⟨v1, σ2, hv, h⟩ := zb_some h
  refine xcallSi (pc := 1) (As := [.int x1]) (rest := []) ⟨hx, hb, hml, hown, hts⟩ (c_X12_isSlot l D c o g N hv) zT_X12_448 rfl zd_X12_isSlot ⟨Nat.le_of_ble_eq_true rfl, Nat.le_of_ble_eq_true rfl⟩ hK hP hE hS hl.1 rfl (Nat.le_of_ble_eq_true rfl) ⟨Nat.zero_le _, Nat.zero_le _⟩ dX12_judge_1 (fun H locs hP hS => ?_)
  refine lv_if_eq (pc := 4) (tgt := 15) hx hb dX12_judge_4 (by decide) (fun c1 => ?_) (fun c1 => ?_)
  · rw [if_pos c1] at h
    refine lv_bipush (pc := 15) (v := (-2)) hx hb dX12_judge_15 (by decide) ?_
    exact xreti (pc := 17) hx hb hr hlocks hP hK hE hS h dX12_judge_17
  · rw [if_neg c1] at h
    refine lv_aload_n (pc := 7) hx hb dX12_judge_7 rfl (lv_at hl 0 rfl) ?_
    refine lv_iload_n (pc := 8) hx hb dX12_judge_8 rfl (lv_at hl 2 rfl) ?_
    obtain ⟨_, hg, h⟩ := zl_some h
    obtain ⟨v3, σ4, hv, h⟩ := zb_some h
    refine xcallVi (pc := 9) (As := [.int x2]) (rest := []) ⟨hx, hb, hml, hown, hts⟩ (c_X12_isRegister l D c o g N hv) zc12 zV_X12_321 rfl zd_X12_isRegister ⟨Nat.le_of_ble_eq_true rfl, Nat.le_of_ble_eq_true rfl⟩ hK hP hE hS hg hl.1 rfl (Nat.le_of_ble_eq_true rfl) ⟨Nat.zero_le _, Nat.zero_le _⟩ dX12_judge_9 (fun H locs hP hS => ?_)
    refine lv_if_ne (pc := 12) (tgt := 18) hx hb dX12_judge_12 (by decide) (fun c1 => ?_) (fun c1 => ?_)
    · rw [if_neg c1] at h
      refine lv_aload_n (pc := 18) hx hb dX12_judge_18 rfl (lv_at hl 0 rfl) ?_
      obtain ⟨v5, hv, h⟩ := zl_some h
      refine xgR (pc := 19) (j := 35) zc12 hx hb hts hown hK hP hv rfl zf_X12_76 dX12_judge_19 ?_
      refine lv_iload_n (pc := 22) hx hb dX12_judge_22 rfl (lv_at hl 1 rfl) ?_
      obtain ⟨v6, hv, h⟩ := zl_some h
      refine xaI (pc := 23) hx hb hK hP hv dX12_judge_23 ?_
      refine lv_iconst (pc := 24) (v := (-1)) hx hb dX12_judge_24 (by decide) ?_
      refine lv_icmp_ne (pc := 25) (tgt := 31) hx hb dX12_judge_25 (by decide) (fun c1 => ?_) (fun c1 => ?_)
      · rw [if_neg c1] at h
        refine lv_iconst (pc := 31) (v := 0) hx hb dX12_judge_31 (by decide) ?_
        refine lv_istore_n (pc := 32) (lv' := [(3, .int 0), (0, .ref (o + x0)), (1, .int x1), (2, .int x2)]) hx hb dX12_judge_32 rfl hl (by decide) rfl (fun ls hl => ?_)
        have L33_7 : ∀ (n : Nat) (t : Int32 × zS), zlp (F_X12_judge_33 N x0 x1 x2) n t = some ρ → ∀ (H : Heap) (locs : List Loc) (ls : Array Slot), zP D c o (zabs o (t.2)) H → va_S (zA o) s.heap H locs → lv_has ls 5 [(3, .int (t.1)), (0, .ref (o + x0)), (1, .int x1), (2, .int x2)] → W p l e (zr 8) s m (([.ref (o + x0), .int x1, .int x2] : List Value).toArray) below meth cd H locs 0 0 (MQ below (zQi D c o g ρ) (([.ref (o + x0), .int x1, .int x2] : List Value).toArray) s 0 0 (zA o)) (F0 m 33 ls []) := by
          refine zlp_ind (fun ag7 ih7 t h H locs ls hP hS hl => ?_)
          obtain ⟨x3_7, σ7⟩ := t
          have hP : zP D c o (zabs o σ7) H := hP
          have hl : lv_has ls 5 [(3, .int x3_7), (0, .ref (o + x0)), (1, .int x1), (2, .int x2)] := hl
          rw [F_X12_judge_33.eq_1] at h
          show W p l e (zr 8) s m (([.ref (o + x0), .int x1, .int x2] : List Value).toArray) below meth cd H locs 0 0 (MQ below (zQi D c o g ρ) (([.ref (o + x0), .int x1, .int x2] : List Value).toArray) s 0 0 (zA o)) (F0 m 33 ls [])
          refine lv_iload_n (pc := 33) hx hb dX12_judge_33 rfl (lv_at hl 0 rfl) ?_
          refine lv_aload_n (pc := 34) hx hb dX12_judge_34 rfl (lv_at hl 1 rfl) ?_
          obtain ⟨v8, hv, h⟩ := zl_some h
          refine xgR (pc := 35) (j := 35) zc12 hx hb hts hown hK hP hv rfl zf_X12_76 dX12_judge_35 ?_
          refine lv_iload_n (pc := 38) hx hb dX12_judge_38 rfl (lv_at hl 2 rfl) ?_
          obtain ⟨v9, hv, h⟩ := zl_some h
          refine xaI (pc := 39) hx hb hK hP hv dX12_judge_39 ?_
          refine lv_icmp_ge (pc := 40) (tgt := 83) hx hb dX12_judge_40 (by decide) (fun c1 => ?_) (fun c1 => ?_)
          · rw [if_pos c1] at h
            refine lv_aload_n (pc := 83) hx hb dX12_judge_83 rfl (lv_at hl 1 rfl) ?_
            refine lv_iload_n (pc := 84) hx hb dX12_judge_84 rfl (lv_at hl 3 rfl) ?_
            refine lv_aload_n (pc := 85) hx hb dX12_judge_85 rfl (lv_at hl 1 rfl) ?_
            obtain ⟨v10, hv, h⟩ := zl_some h
            refine xgR (pc := 86) (j := 35) zc12 hx hb hts hown hK hP hv rfl zf_X12_76 dX12_judge_86 ?_
            refine lv_iload_n (pc := 89) hx hb dX12_judge_89 rfl (lv_at hl 2 rfl) ?_
            obtain ⟨v11, hv, h⟩ := zl_some h
            refine xaI (pc := 90) hx hb hK hP hv dX12_judge_90 ?_
            obtain ⟨_, hg, h⟩ := zl_some h
            obtain ⟨v12, σ13, hv, h⟩ := zb_some h
            refine xcallVi (pc := 91) (As := [.int x2, .int v11]) (rest := []) ⟨hx, hb, hml, hown, hts⟩ (c_X12_nthOf l D c o g N hv) zc12 zV_X12_340 rfl zd_X12_nthOf ⟨Nat.le_of_ble_eq_true rfl, Nat.le_of_ble_eq_true rfl⟩ hK hP hE hS hg hl.1 rfl (Nat.le_of_ble_eq_true rfl) ⟨Nat.zero_le _, Nat.zero_le _⟩ dX12_judge_91 (fun H locs hP hS => ?_)
            refine lv_iconst (pc := 94) (v := (-1)) hx hb dX12_judge_94 (by decide) ?_
            refine lv_icmp_ne (pc := 95) (tgt := 107) hx hb dX12_judge_95 (by decide) (fun c1 => ?_) (fun c1 => ?_)
            · rw [if_neg c1] at h
              refine lv_iconst (pc := 107) (v := (-1)) hx hb dX12_judge_107 (by decide) ?_
              exact xreti (pc := 108) hx hb hr hlocks hP hK hE hS h dX12_judge_108
            · rw [if_pos c1] at h
              refine lv_aload_n (pc := 98) hx hb dX12_judge_98 rfl (lv_at hl 1 rfl) ?_
              obtain ⟨v14, hv, h⟩ := zl_some h
              refine xgR (pc := 99) (j := 35) zc12 hx hb hts hown hK hP hv rfl zf_X12_76 dX12_judge_99 ?_
              refine lv_iload_n (pc := 102) hx hb dX12_judge_102 rfl (lv_at hl 2 rfl) ?_
              obtain ⟨v15, hv, h⟩ := zl_some h
              refine xaI (pc := 103) hx hb hK hP hv dX12_judge_103 ?_
              refine lv_goto (pc := 104) (tgt := 108) hx hb dX12_judge_104 (by decide) ?_
              exact xreti (pc := 108) hx hb hr hlocks hP hK hE hS h dX12_judge_108
          · rw [if_neg c1] at h
            refine lv_aload_n (pc := 43) hx hb dX12_judge_43 rfl (lv_at hl 1 rfl) ?_
            refine lv_iload_n (pc := 44) hx hb dX12_judge_44 rfl (lv_at hl 3 rfl) ?_
            refine lv_iload_n (pc := 45) hx hb dX12_judge_45 rfl (lv_at hl 0 rfl) ?_
            obtain ⟨_, hg, h⟩ := zl_some h
            obtain ⟨v16, σ17, hv, h⟩ := zb_some h
            refine xcallVi (pc := 46) (As := [.int x2, .int x3_7]) (rest := []) ⟨hx, hb, hml, hown, hts⟩ (c_X12_nthOf l D c o g N hv) zc12 zV_X12_340 rfl zd_X12_nthOf ⟨Nat.le_of_ble_eq_true rfl, Nat.le_of_ble_eq_true rfl⟩ hK hP hE hS hg hl.1 rfl (Nat.le_of_ble_eq_true rfl) ⟨Nat.zero_le _, Nat.zero_le _⟩ dX12_judge_46 (fun H locs hP hS => ?_)
            refine lv_istore (pc := 49) (lv' := [(4, .int v16), (3, .int x3_7), (0, .ref (o + x0)), (1, .int x1), (2, .int x2)]) hx hb dX12_judge_49 hl (by decide) rfl (fun ls hl => ?_)
            refine lv_iload (pc := 51) hx hb dX12_judge_51 (lv_at hl 0 rfl) ?_
            refine lv_iconst (pc := 53) (v := (-1)) hx hb dX12_judge_53 (by decide) ?_
            refine lv_icmp_eq (pc := 54) (tgt := 75) hx hb dX12_judge_54 (by decide) (fun c1 => ?_) (fun c1 => ?_)
            · rw [if_pos c1] at h
              refine lv_iload_n (pc := 75) hx hb dX12_judge_75 rfl (lv_at hl 1 rfl) ?_
              exact xreti (pc := 76) hx hb hr hlocks hP hK hE hS h dX12_judge_76
            · rw [if_neg c1] at h
              refine lv_aload_n (pc := 57) hx hb dX12_judge_57 rfl (lv_at hl 2 rfl) ?_
              obtain ⟨v18, hv, h⟩ := zl_some h
              refine xgR (pc := 58) (j := 37) zc12 hx hb hts hown hK hP hv rfl zf_X12_82 dX12_judge_58 ?_
              refine lv_bipush (pc := 61) (v := 60) hx hb dX12_judge_61 (by decide) ?_
              refine lv_iload_n (pc := 63) hx hb dX12_judge_63 rfl (lv_at hl 3 rfl) ?_
              refine lv_imul (pc := 64) hx hb dX12_judge_64 ?_
              refine lv_iload_n (pc := 65) hx hb dX12_judge_65 rfl (lv_at hl 1 rfl) ?_
              refine lv_iadd (pc := 66) hx hb dX12_judge_66 ?_
              obtain ⟨v19, hv, h⟩ := zl_some h
              refine xaJ (pc := 67) hx hb hK hP hv dX12_judge_67 ?_
              refine lv_iload (pc := 68) hx hb dX12_judge_68 (lv_at hl 0 rfl) ?_
              refine lv_i2l (pc := 70) hx hb dX12_judge_70 rfl ?_
              refine W.lcmp (pc := 71) hx hb dX12_judge_71 ?_
              refine lv_if_eq (pc := 72) (tgt := 77) hx hb dX12_judge_72 (by decide) (fun c1 => ?_) (fun c1 => ?_)
              · rw [if_pos c1] at h
                refine lv_iinc (pc := 77) (v := x3_7 + 1) (lv' := [(3, .int (x3_7 + 1)), (4, .int v16), (0, .ref (o + x0)), (1, .int x1), (2, .int x2)]) hx hb dX12_judge_77 hl (k := 1) rfl rfl (by decide) rfl (fun ls hl => ?_)
                refine lv_goto (pc := 80) (tgt := 33) hx hb dX12_judge_80 (by decide) ?_
                exact ih7 (x3_7 + 1, σ17) h _ _ ls hP hS (lv_sub hl [0, 2, 3, 4] rfl)
              · rw [if_neg c1] at h
                refine lv_iload_n (pc := 75) hx hb dX12_judge_75 rfl (lv_at hl 1 rfl) ?_
                exact xreti (pc := 76) hx hb hr hlocks hP hK hE hS h dX12_judge_76
        exact L33_7 N (0, σ4) h _ _ ls hP hS (lv_sub hl [0, 1, 2, 3] rfl)
      · rw [if_pos c1] at h
        refine lv_bipush (pc := 28) (v := (-6)) hx hb dX12_judge_28 (by decide) ?_
        exact xreti (pc := 30) hx hb hr hlocks hP hK hE hS h dX12_judge_30
    · rw [if_pos c1] at h
      refine lv_bipush (pc := 15) (v := (-2)) hx hb dX12_judge_15 (by decide) ?_
      exact xreti (pc := 17) hx hb hr hlocks hP hK hE hS h dX12_judge_17
def F_X12_takes__101 (N : Nat) (x0 : Nat) (x1 : Int32) (x2 : Int32) (again101 : (Int32 × zS) → Option (Int32 × zS)) : Int32 × zS → Option (Int32 × zS)
  | (x3, σ) =>
  zl (gR 12 35 x0 σ) fun v9 =>
  zl (aI 14 v9 x2 σ) fun v10 =>
  if v10 ≤ x3 then
    (zl (gC 12 x0) fun _ => zb (f_X12_lays N x0 x1 σ) fun v11 σ12 =>
    some (v11, σ12))
  else
    (zl (gR 12 17 x0 σ) fun v13 =>
    zl (gR 12 37 x0 σ) fun v14 =>
    zl (aJ v14 ((60 * x2) + x3) σ) fun v15 =>
    zl (sI 16 v13 (Int64.toInt32 v15) 1 σ) fun σ16 =>
    again101 (x3 + 1, σ16))
def F_X12_takes__79 (N : Nat) (x0 : Nat) (x1 : Int32) (x2 : Int32) (again79 : (Int32 × zS) → Option (Int32 × zS)) : Int32 × zS → Option (Int32 × zS)
  | (x3, σ) =>
  if 1024 ≤ x3 then
    (zlp (F_X12_takes__101 N x0 x1 x2) N (0, σ))
  else
    (zl (gR 12 17 x0 σ) fun v17 =>
    zl (sI 16 v17 x3 0 σ) fun σ18 =>
    again79 (x3 + 1, σ18))
def F_X12_takes__33 (N : Nat) (x0 : Nat) (x1 : Int32) (x2 : Int32) (again33 : (Int32 × zS) → Option (Int32 × zS)) : Int32 × zS → Option (Int32 × zS)
  | (x3, σ) =>
  zl (gR 12 35 x0 σ) fun v7 =>
  zl (aI 14 v7 x2 σ) fun v8 =>
  if v8 ≤ x3 then
    (zlp (F_X12_takes__79 N x0 x1 x2) N (0, σ))
  else
    (zl (gR 12 37 x0 σ) fun v19 =>
    zl (aJ v19 ((60 * x2) + x3) σ) fun v20 =>
    zl (gC 12 x0) fun _ => zb (f_X12_many N x0 σ) fun v21 σ22 =>
    zb (f_X12_in N v20 0 (Int32.toInt64 (v21 - 1)) σ22) fun v23 σ24 =>
    if v23 = 0 then
      (some ((-2), σ24))
    else
      (again33 (x3 + 1, σ24)))
def f_X12_takes_ (N : Nat) (x0 : Nat) (x1 : Int32) (x2 : Int32) (σ : zS) : Option (Int32 × zS) :=
  zl (gC 12 x0) fun _ => zb (f_X12_isRegister N x0 x1 σ) fun v1 σ2 =>
  if v1 = 0 then
    (some ((-2), σ2))
  else
    (zb (f_X12_isSlot N x2 σ2) fun v3 σ4 =>
    if v3 = 0 then
      (some ((-2), σ4))
    else
      (zl (gR 12 35 x0 σ4) fun v5 =>
      zl (aI 14 v5 x2 σ4) fun v6 =>
      if v6 = (-1) then
        (some ((-6), σ4))
      else
        (zlp (F_X12_takes__33 N x0 x1 x2) N (0, σ4))))
set_option maxHeartbeats 4000000 in
set_option maxRecDepth 100000 in
theorem c_X12_takes_ (l : Launch) (D : va_G) (c : zC) (o : Nat) (g : zEp) (N : Nat) {x0 : Nat} {x1 : Int32} {x2 : Int32} {σ : zS} {ρ : Int32 × zS} (h : f_X12_takes_ N x0 x1 x2 σ = some ρ) : Met l yX12_takes_ zs_X12_takes_ (zr 10) (va_Pc [.ref (o + x0), .int x1, .int x2] (zG D c o g σ)) (zQi D c o g ρ) 0 0 (zA o) := by
  refine zMetG (by decide) (Nat.le_of_ble_eq_true rfl) ?_
  intro p e s m below meth cd ⟨hx, hb, hr, hml, hown, hts, hlocks⟩ hP hK hE ls hl
  have hS : va_S (zA o) s.heap s.heap [] := va_S.rf
  have hl : lv_has ls 4 [(0, .ref (o + x0)), (1, .int x1), (2, .int x2)] := hl
  rw [f_X12_takes_.eq_1] at h
  refine lv_aload_n (pc := 0) hx hb dX12_takes__0 rfl (lv_at hl 0 rfl) ?_
  refine lv_iload_n (pc := 1) hx hb dX12_takes__1 rfl (lv_at hl 1 rfl) ?_
  obtain ⟨_, hg, h⟩ := zl_some h
  obtain ⟨v1, σ2, hv, h⟩ := zb_some h
  refine xcallVi (pc := 2) (As := [.int x1]) (rest := []) ⟨hx, hb, hml, hown, hts⟩ (c_X12_isRegister l D c o g N hv) zc12 zV_X12_321 rfl zd_X12_isRegister ⟨Nat.le_of_ble_eq_true rfl, Nat.le_of_ble_eq_true rfl⟩ hK hP hE hS hg hl.1 rfl (Nat.le_of_ble_eq_true rfl) ⟨Nat.zero_le _, Nat.zero_le _⟩ dX12_takes__2 (fun H locs hP hS => ?_)
  refine lv_if_eq (pc := 5) (tgt := 15) hx hb dX12_takes__5 (by decide) (fun c1 => ?_) (fun c1 => ?_)
  · rw [if_pos c1] at h
    refine lv_bipush (pc := 15) (v := (-2)) hx hb dX12_takes__15 (by decide) ?_
    exact xreti (pc := 17) hx hb hr hlocks hP hK hE hS h dX12_takes__17
  · rw [if_neg c1] at h
    refine lv_iload_n (pc := 8) hx hb dX12_takes__8 rfl (lv_at hl 2 rfl) ?_
    obtain ⟨v3, σ4, hv, h⟩ := zb_some h
    refine xcallSi (pc := 9) (As := [.int x2]) (rest := []) ⟨hx, hb, hml, hown, hts⟩ (c_X12_isSlot l D c o g N hv) zT_X12_448 rfl zd_X12_isSlot ⟨Nat.le_of_ble_eq_true rfl, Nat.le_of_ble_eq_true rfl⟩ hK hP hE hS hl.1 rfl (Nat.le_of_ble_eq_true rfl) ⟨Nat.zero_le _, Nat.zero_le _⟩ dX12_takes__9 (fun H locs hP hS => ?_)
    refine lv_if_ne (pc := 12) (tgt := 18) hx hb dX12_takes__12 (by decide) (fun c1 => ?_) (fun c1 => ?_)
    · rw [if_neg c1] at h
      refine lv_aload_n (pc := 18) hx hb dX12_takes__18 rfl (lv_at hl 0 rfl) ?_
      obtain ⟨v5, hv, h⟩ := zl_some h
      refine xgR (pc := 19) (j := 35) zc12 hx hb hts hown hK hP hv rfl zf_X12_76 dX12_takes__19 ?_
      refine lv_iload_n (pc := 22) hx hb dX12_takes__22 rfl (lv_at hl 2 rfl) ?_
      obtain ⟨v6, hv, h⟩ := zl_some h
      refine xaI (pc := 23) hx hb hK hP hv dX12_takes__23 ?_
      refine lv_iconst (pc := 24) (v := (-1)) hx hb dX12_takes__24 (by decide) ?_
      refine lv_icmp_ne (pc := 25) (tgt := 31) hx hb dX12_takes__25 (by decide) (fun c1 => ?_) (fun c1 => ?_)
      · rw [if_neg c1] at h
        refine lv_iconst (pc := 31) (v := 0) hx hb dX12_takes__31 (by decide) ?_
        refine lv_istore_n (pc := 32) (lv' := [(3, .int 0), (0, .ref (o + x0)), (1, .int x1), (2, .int x2)]) hx hb dX12_takes__32 rfl hl (by decide) rfl (fun ls hl => ?_)
        have L33_7 : ∀ (n : Nat) (t : Int32 × zS), zlp (F_X12_takes__33 N x0 x1 x2) n t = some ρ → ∀ (H : Heap) (locs : List Loc) (ls : Array Slot), zP D c o (zabs o (t.2)) H → va_S (zA o) s.heap H locs → lv_has ls 4 [(3, .int (t.1)), (0, .ref (o + x0)), (1, .int x1), (2, .int x2)] → W p l e (zr 10) s m (([.ref (o + x0), .int x1, .int x2] : List Value).toArray) below meth cd H locs 0 0 (MQ below (zQi D c o g ρ) (([.ref (o + x0), .int x1, .int x2] : List Value).toArray) s 0 0 (zA o)) (F0 m 33 ls []) := by
          refine zlp_ind (fun ag7 ih7 t h H locs ls hP hS hl => ?_)
          obtain ⟨x3_7, σ7⟩ := t
          have hP : zP D c o (zabs o σ7) H := hP
          have hl : lv_has ls 4 [(3, .int x3_7), (0, .ref (o + x0)), (1, .int x1), (2, .int x2)] := hl
          rw [F_X12_takes__33.eq_1] at h
          show W p l e (zr 10) s m (([.ref (o + x0), .int x1, .int x2] : List Value).toArray) below meth cd H locs 0 0 (MQ below (zQi D c o g ρ) (([.ref (o + x0), .int x1, .int x2] : List Value).toArray) s 0 0 (zA o)) (F0 m 33 ls [])
          refine lv_iload_n (pc := 33) hx hb dX12_takes__33 rfl (lv_at hl 0 rfl) ?_
          refine lv_aload_n (pc := 34) hx hb dX12_takes__34 rfl (lv_at hl 1 rfl) ?_
          obtain ⟨v8, hv, h⟩ := zl_some h
          refine xgR (pc := 35) (j := 35) zc12 hx hb hts hown hK hP hv rfl zf_X12_76 dX12_takes__35 ?_
          refine lv_iload_n (pc := 38) hx hb dX12_takes__38 rfl (lv_at hl 3 rfl) ?_
          obtain ⟨v9, hv, h⟩ := zl_some h
          refine xaI (pc := 39) hx hb hK hP hv dX12_takes__39 ?_
          refine lv_icmp_ge (pc := 40) (tgt := 77) hx hb dX12_takes__40 (by decide) (fun c1 => ?_) (fun c1 => ?_)
          · rw [if_pos c1] at h
            refine lv_iconst (pc := 77) (v := 0) hx hb dX12_takes__77 (by decide) ?_
            refine lv_istore_n (pc := 78) (lv' := [(3, .int 0), (0, .ref (o + x0)), (1, .int x1), (2, .int x2)]) hx hb dX12_takes__78 rfl hl (by decide) rfl (fun ls hl => ?_)
            have L79_10 : ∀ (n : Nat) (t : Int32 × zS), zlp (F_X12_takes__79 N x0 x1 x2) n t = some ρ → ∀ (H : Heap) (locs : List Loc) (ls : Array Slot), zP D c o (zabs o (t.2)) H → va_S (zA o) s.heap H locs → lv_has ls 4 [(3, .int (t.1)), (0, .ref (o + x0)), (1, .int x1), (2, .int x2)] → W p l e (zr 10) s m (([.ref (o + x0), .int x1, .int x2] : List Value).toArray) below meth cd H locs 0 0 (MQ below (zQi D c o g ρ) (([.ref (o + x0), .int x1, .int x2] : List Value).toArray) s 0 0 (zA o)) (F0 m 79 ls []) := by
              refine zlp_ind (fun ag10 ih10 t h H locs ls hP hS hl => ?_)
              obtain ⟨x3_10, σ10⟩ := t
              have hP : zP D c o (zabs o σ10) H := hP
              have hl : lv_has ls 4 [(3, .int x3_10), (0, .ref (o + x0)), (1, .int x1), (2, .int x2)] := hl
              rw [F_X12_takes__79.eq_1] at h
              show W p l e (zr 10) s m (([.ref (o + x0), .int x1, .int x2] : List Value).toArray) below meth cd H locs 0 0 (MQ below (zQi D c o g ρ) (([.ref (o + x0), .int x1, .int x2] : List Value).toArray) s 0 0 (zA o)) (F0 m 79 ls [])
              refine lv_iload_n (pc := 79) hx hb dX12_takes__79 rfl (lv_at hl 0 rfl) ?_
              refine lv_sipush (pc := 80) (v := 1024) hx hb dX12_takes__80 (by decide) ?_
              refine lv_icmp_ge (pc := 83) (tgt := 99) hx hb dX12_takes__83 (by decide) (fun c1 => ?_) (fun c1 => ?_)
              · rw [if_pos c1] at h
                refine lv_iconst (pc := 99) (v := 0) hx hb dX12_takes__99 (by decide) ?_
                refine lv_istore_n (pc := 100) (lv' := [(3, .int 0), (0, .ref (o + x0)), (1, .int x1), (2, .int x2)]) hx hb dX12_takes__100 rfl hl (by decide) rfl (fun ls hl => ?_)
                have L101_11 : ∀ (n : Nat) (t : Int32 × zS), zlp (F_X12_takes__101 N x0 x1 x2) n t = some ρ → ∀ (H : Heap) (locs : List Loc) (ls : Array Slot), zP D c o (zabs o (t.2)) H → va_S (zA o) s.heap H locs → lv_has ls 4 [(3, .int (t.1)), (0, .ref (o + x0)), (1, .int x1), (2, .int x2)] → W p l e (zr 10) s m (([.ref (o + x0), .int x1, .int x2] : List Value).toArray) below meth cd H locs 0 0 (MQ below (zQi D c o g ρ) (([.ref (o + x0), .int x1, .int x2] : List Value).toArray) s 0 0 (zA o)) (F0 m 101 ls []) := by
                  refine zlp_ind (fun ag11 ih11 t h H locs ls hP hS hl => ?_)
                  obtain ⟨x3_11, σ11⟩ := t
                  have hP : zP D c o (zabs o σ11) H := hP
                  have hl : lv_has ls 4 [(3, .int x3_11), (0, .ref (o + x0)), (1, .int x1), (2, .int x2)] := hl
                  rw [F_X12_takes__101.eq_1] at h
                  show W p l e (zr 10) s m (([.ref (o + x0), .int x1, .int x2] : List Value).toArray) below meth cd H locs 0 0 (MQ below (zQi D c o g ρ) (([.ref (o + x0), .int x1, .int x2] : List Value).toArray) s 0 0 (zA o)) (F0 m 101 ls [])
                  refine lv_iload_n (pc := 101) hx hb dX12_takes__101 rfl (lv_at hl 0 rfl) ?_
                  refine lv_aload_n (pc := 102) hx hb dX12_takes__102 rfl (lv_at hl 1 rfl) ?_
                  obtain ⟨v12, hv, h⟩ := zl_some h
                  refine xgR (pc := 103) (j := 35) zc12 hx hb hts hown hK hP hv rfl zf_X12_76 dX12_takes__103 ?_
                  refine lv_iload_n (pc := 106) hx hb dX12_takes__106 rfl (lv_at hl 3 rfl) ?_
                  obtain ⟨v13, hv, h⟩ := zl_some h
                  refine xaI (pc := 107) hx hb hK hP hv dX12_takes__107 ?_
                  refine lv_icmp_ge (pc := 108) (tgt := 135) hx hb dX12_takes__108 (by decide) (fun c1 => ?_) (fun c1 => ?_)
                  · rw [if_pos c1] at h
                    refine lv_aload_n (pc := 135) hx hb dX12_takes__135 rfl (lv_at hl 1 rfl) ?_
                    refine lv_iload_n (pc := 136) hx hb dX12_takes__136 rfl (lv_at hl 2 rfl) ?_
                    obtain ⟨_, hg, h⟩ := zl_some h
                    obtain ⟨v14, σ15, hv, h⟩ := zb_some h
                    refine xcallVi (pc := 137) (As := [.int x1]) (rest := []) ⟨hx, hb, hml, hown, hts⟩ (c_X12_lays l D c o g N hv) zc12 zV_X12_324 rfl zd_X12_lays ⟨Nat.le_of_ble_eq_true rfl, Nat.le_of_ble_eq_true rfl⟩ hK hP hE hS hg hl.1 rfl (Nat.le_of_ble_eq_true rfl) ⟨Nat.zero_le _, Nat.zero_le _⟩ dX12_takes__137 (fun H locs hP hS => ?_)
                    exact xreti (pc := 140) hx hb hr hlocks hP hK hE hS h dX12_takes__140
                  · rw [if_neg c1] at h
                    refine lv_aload_n (pc := 111) hx hb dX12_takes__111 rfl (lv_at hl 1 rfl) ?_
                    obtain ⟨v16, hv, h⟩ := zl_some h
                    refine xgR (pc := 112) (j := 17) zc12 hx hb hts hown hK hP hv rfl zf_X12_40 dX12_takes__112 ?_
                    refine lv_aload_n (pc := 115) hx hb dX12_takes__115 rfl (lv_at hl 1 rfl) ?_
                    obtain ⟨v17, hv, h⟩ := zl_some h
                    refine xgR (pc := 116) (j := 37) zc12 hx hb hts hown hK hP hv rfl zf_X12_82 dX12_takes__116 ?_
                    refine lv_bipush (pc := 119) (v := 60) hx hb dX12_takes__119 (by decide) ?_
                    refine lv_iload_n (pc := 121) hx hb dX12_takes__121 rfl (lv_at hl 3 rfl) ?_
                    refine lv_imul (pc := 122) hx hb dX12_takes__122 ?_
                    refine lv_iload_n (pc := 123) hx hb dX12_takes__123 rfl (lv_at hl 0 rfl) ?_
                    refine lv_iadd (pc := 124) hx hb dX12_takes__124 ?_
                    obtain ⟨v18, hv, h⟩ := zl_some h
                    refine xaJ (pc := 125) hx hb hK hP hv dX12_takes__125 ?_
                    refine lv_l2i (pc := 126) hx hb dX12_takes__126 rfl ?_
                    refine lv_iconst (pc := 127) (v := 1) hx hb dX12_takes__127 (by decide) ?_
                    obtain ⟨σ19, hv, h⟩ := zl_some h
                    refine xsZ (pc := 128) hx hb hK hP hS hv dX12_takes__128 (fun H locs hP hS => ?_)
                    refine lv_iinc (pc := 129) (v := x3_11 + 1) (lv' := [(3, .int (x3_11 + 1)), (0, .ref (o + x0)), (1, .int x1), (2, .int x2)]) hx hb dX12_takes__129 hl (k := 0) rfl rfl (by decide) rfl (fun ls hl => ?_)
                    refine lv_goto (pc := 132) (tgt := 101) hx hb dX12_takes__132 (by decide) ?_
                    exact ih11 (x3_11 + 1, σ19) h _ _ ls hP hS (lv_sub hl [0, 1, 2, 3] rfl)
                exact L101_11 N (0, σ10) h _ _ ls hP hS (lv_sub hl [0, 1, 2, 3] rfl)
              · rw [if_neg c1] at h
                refine lv_aload_n (pc := 86) hx hb dX12_takes__86 rfl (lv_at hl 1 rfl) ?_
                obtain ⟨v20, hv, h⟩ := zl_some h
                refine xgR (pc := 87) (j := 17) zc12 hx hb hts hown hK hP hv rfl zf_X12_40 dX12_takes__87 ?_
                refine lv_iload_n (pc := 90) hx hb dX12_takes__90 rfl (lv_at hl 0 rfl) ?_
                refine lv_iconst (pc := 91) (v := 0) hx hb dX12_takes__91 (by decide) ?_
                obtain ⟨σ21, hv, h⟩ := zl_some h
                refine xsZ (pc := 92) hx hb hK hP hS hv dX12_takes__92 (fun H locs hP hS => ?_)
                refine lv_iinc (pc := 93) (v := x3_10 + 1) (lv' := [(3, .int (x3_10 + 1)), (0, .ref (o + x0)), (1, .int x1), (2, .int x2)]) hx hb dX12_takes__93 hl (k := 0) rfl rfl (by decide) rfl (fun ls hl => ?_)
                refine lv_goto (pc := 96) (tgt := 79) hx hb dX12_takes__96 (by decide) ?_
                exact ih10 (x3_10 + 1, σ21) h _ _ ls hP hS (lv_sub hl [0, 1, 2, 3] rfl)
            exact L79_10 N (0, σ7) h _ _ ls hP hS (lv_sub hl [0, 1, 2, 3] rfl)
          · rw [if_neg c1] at h
            refine lv_aload_n (pc := 43) hx hb dX12_takes__43 rfl (lv_at hl 1 rfl) ?_
            obtain ⟨v22, hv, h⟩ := zl_some h
            refine xgR (pc := 44) (j := 37) zc12 hx hb hts hown hK hP hv rfl zf_X12_82 dX12_takes__44 ?_
            refine lv_bipush (pc := 47) (v := 60) hx hb dX12_takes__47 (by decide) ?_
            refine lv_iload_n (pc := 49) hx hb dX12_takes__49 rfl (lv_at hl 3 rfl) ?_
            refine lv_imul (pc := 50) hx hb dX12_takes__50 ?_
            refine lv_iload_n (pc := 51) hx hb dX12_takes__51 rfl (lv_at hl 0 rfl) ?_
            refine lv_iadd (pc := 52) hx hb dX12_takes__52 ?_
            obtain ⟨v23, hv, h⟩ := zl_some h
            refine xaJ (pc := 53) hx hb hK hP hv dX12_takes__53 ?_
            refine lv_lconst (pc := 54) (v := 0) hx hb dX12_takes__54 (by decide) ?_
            refine lv_aload_n (pc := 55) hx hb dX12_takes__55 rfl (lv_at hl 1 rfl) ?_
            obtain ⟨_, hg, h⟩ := zl_some h
            obtain ⟨v24, σ25, hv, h⟩ := zb_some h
            refine xcallVi (pc := 56) (As := []) (rest := [.long 0, .long v23]) ⟨hx, hb, hml, hown, hts⟩ (c_X12_many l D c o g N hv) zc12 zV_X12_104 rfl zd_X12_many ⟨Nat.le_of_ble_eq_true rfl, Nat.le_of_ble_eq_true rfl⟩ hK hP hE hS hg hl.1 rfl (Nat.le_of_ble_eq_true rfl) ⟨Nat.zero_le _, Nat.zero_le _⟩ dX12_takes__56 (fun H locs hP hS => ?_)
            refine lv_iconst (pc := 59) (v := 1) hx hb dX12_takes__59 (by decide) ?_
            refine lv_isub (pc := 60) hx hb dX12_takes__60 ?_
            refine lv_i2l (pc := 61) hx hb dX12_takes__61 rfl ?_
            obtain ⟨v26, σ27, hv, h⟩ := zb_some h
            refine xcallSi (pc := 62) (As := [.long v23, .long 0, .long (Int32.toInt64 (v24 - 1))]) (rest := []) ⟨hx, hb, hml, hown, hts⟩ (c_X12_in l D c o g N hv) zT_X12_94 rfl zd_X12_in ⟨Nat.le_of_ble_eq_true rfl, Nat.le_of_ble_eq_true rfl⟩ hK hP hE hS hl.1 rfl (Nat.le_of_ble_eq_true rfl) ⟨Nat.zero_le _, Nat.zero_le _⟩ dX12_takes__62 (fun H locs hP hS => ?_)
            refine lv_if_ne (pc := 65) (tgt := 71) hx hb dX12_takes__65 (by decide) (fun c1 => ?_) (fun c1 => ?_)
            · rw [if_neg c1] at h
              refine lv_iinc (pc := 71) (v := x3_7 + 1) (lv' := [(3, .int (x3_7 + 1)), (0, .ref (o + x0)), (1, .int x1), (2, .int x2)]) hx hb dX12_takes__71 hl (k := 0) rfl rfl (by decide) rfl (fun ls hl => ?_)
              refine lv_goto (pc := 74) (tgt := 33) hx hb dX12_takes__74 (by decide) ?_
              exact ih7 (x3_7 + 1, σ27) h _ _ ls hP hS (lv_sub hl [0, 1, 2, 3] rfl)
            · rw [if_pos c1] at h
              refine lv_bipush (pc := 68) (v := (-2)) hx hb dX12_takes__68 (by decide) ?_
              exact xreti (pc := 70) hx hb hr hlocks hP hK hE hS h dX12_takes__70
        exact L33_7 N (0, σ4) h _ _ ls hP hS (lv_sub hl [0, 1, 2, 3] rfl)
      · rw [if_pos c1] at h
        refine lv_bipush (pc := 28) (v := (-6)) hx hb dX12_takes__28 (by decide) ?_
        exact xreti (pc := 30) hx hb hr hlocks hP hK hE hS h dX12_takes__30
    · rw [if_pos c1] at h
      refine lv_bipush (pc := 15) (v := (-2)) hx hb dX12_takes__15 (by decide) ?_
      exact xreti (pc := 17) hx hb hr hlocks hP hK hE hS h dX12_takes__17
def F_X12_unlikeRegisters_22 (N : Nat) (x0 : Nat) (x1 : Int32) (x2 : Int32) (again4 : (Int32 × Int32 × zS) → Option (Int32 × zS)) (again22 : (Int32 × Int32 × zS) → Option (Int32 × zS)) : Int32 × Int32 × zS → Option (Int32 × zS)
  | (x3, x4, σ) =>
  if x2 ≤ x4 then
    (if x3 = 0 then
      (again4 (x1 + 0, x2 + 1, σ))
    else
      (again4 (x1 + 1, x2 + 1, σ)))
  else
    (if x3 = 0 then
      (again22 (0, x4 + 1, σ))
    else
      (zl (gC 12 x0) fun _ => zb (f_X12_differOf N x0 x2 x4 σ) fun v3 σ4 =>
      if v3 = (-1) then
        (again22 (0, x4 + 1, σ4))
      else
        (again22 (1, x4 + 1, σ4))))
def F_X12_unlikeRegisters_4 (N : Nat) (x0 : Nat) (again4 : (Int32 × Int32 × zS) → Option (Int32 × zS)) : Int32 × Int32 × zS → Option (Int32 × zS)
  | (x1, x2, σ) =>
  if 10 ≤ x2 then
    (some (x1, σ))
  else
    (zl (gC 12 x0) fun _ => zb (f_X12_isWorld N x0 σ) fun v1 σ2 =>
    if v1 = 0 then
      (some (x1, σ2))
    else
      (zlp (F_X12_unlikeRegisters_22 N x0 x1 x2 again4) N (1, 0, σ2)))
def f_X12_unlikeRegisters (N : Nat) (x0 : Nat) (σ : zS) : Option (Int32 × zS) :=
  zlp (F_X12_unlikeRegisters_4 N x0) N (0, 0, σ)
set_option maxHeartbeats 4000000 in
set_option maxRecDepth 100000 in
theorem c_X12_unlikeRegisters (l : Launch) (D : va_G) (c : zC) (o : Nat) (g : zEp) (N : Nat) {x0 : Nat} {σ : zS} {ρ : Int32 × zS} (h : f_X12_unlikeRegisters N x0 σ = some ρ) : Met l yX12_unlikeRegisters zs_X12_unlikeRegisters (zr 8) (va_Pc [.ref (o + x0)] (zG D c o g σ)) (zQi D c o g ρ) 0 0 (zA o) := by
  refine zMetG (by decide) (Nat.le_of_ble_eq_true rfl) ?_
  intro p e s m below meth cd ⟨hx, hb, hr, hml, hown, hts, hlocks⟩ hP hK hE ls hl
  have hS : va_S (zA o) s.heap s.heap [] := va_S.rf
  have hl : lv_has ls 5 [(0, .ref (o + x0))] := hl
  rw [f_X12_unlikeRegisters.eq_1] at h
  refine lv_iconst (pc := 0) (v := 0) hx hb dX12_unlikeRegisters_0 (by decide) ?_
  refine lv_istore_n (pc := 1) (lv' := [(1, .int 0), (0, .ref (o + x0))]) hx hb dX12_unlikeRegisters_1 rfl hl (by decide) rfl (fun ls hl => ?_)
  refine lv_iconst (pc := 2) (v := 0) hx hb dX12_unlikeRegisters_2 (by decide) ?_
  refine lv_istore_n (pc := 3) (lv' := [(2, .int 0), (1, .int 0), (0, .ref (o + x0))]) hx hb dX12_unlikeRegisters_3 rfl hl (by decide) rfl (fun ls hl => ?_)
  have L4_1 : ∀ (n : Nat) (t : Int32 × Int32 × zS), zlp (F_X12_unlikeRegisters_4 N x0) n t = some ρ → ∀ (H : Heap) (locs : List Loc) (ls : Array Slot), zP D c o (zabs o (t.2.2)) H → va_S (zA o) s.heap H locs → lv_has ls 5 [(1, .int (t.1)), (2, .int (t.2.1)), (0, .ref (o + x0))] → W p l e (zr 8) s m (([.ref (o + x0)] : List Value).toArray) below meth cd H locs 0 0 (MQ below (zQi D c o g ρ) (([.ref (o + x0)] : List Value).toArray) s 0 0 (zA o)) (F0 m 4 ls []) := by
    refine zlp_ind (fun ag1 ih1 t h H locs ls hP hS hl => ?_)
    obtain ⟨x1_1, x2_1, σ1⟩ := t
    have hP : zP D c o (zabs o σ1) H := hP
    have hl : lv_has ls 5 [(1, .int x1_1), (2, .int x2_1), (0, .ref (o + x0))] := hl
    rw [F_X12_unlikeRegisters_4.eq_1] at h
    show W p l e (zr 8) s m (([.ref (o + x0)] : List Value).toArray) below meth cd H locs 0 0 (MQ below (zQi D c o g ρ) (([.ref (o + x0)] : List Value).toArray) s 0 0 (zA o)) (F0 m 4 ls [])
    refine lv_iload_n (pc := 4) hx hb dX12_unlikeRegisters_4 rfl (lv_at hl 1 rfl) ?_
    refine lv_bipush (pc := 5) (v := 10) hx hb dX12_unlikeRegisters_5 (by decide) ?_
    refine lv_icmp_ge (pc := 7) (tgt := 73) hx hb dX12_unlikeRegisters_7 (by decide) (fun c1 => ?_) (fun c1 => ?_)
    · rw [if_pos c1] at h
      refine lv_iload_n (pc := 73) hx hb dX12_unlikeRegisters_73 rfl (lv_at hl 0 rfl) ?_
      exact xreti (pc := 74) hx hb hr hlocks hP hK hE hS h dX12_unlikeRegisters_74
    · rw [if_neg c1] at h
      refine lv_aload_n (pc := 10) hx hb dX12_unlikeRegisters_10 rfl (lv_at hl 2 rfl) ?_
      obtain ⟨_, hg, h⟩ := zl_some h
      obtain ⟨v2, σ3, hv, h⟩ := zb_some h
      refine xcallVi (pc := 11) (As := []) (rest := []) ⟨hx, hb, hml, hown, hts⟩ (c_X12_isWorld l D c o g N hv) zc12 zV_X12_98 rfl zd_X12_isWorld ⟨Nat.le_of_ble_eq_true rfl, Nat.le_of_ble_eq_true rfl⟩ hK hP hE hS hg hl.1 rfl (Nat.le_of_ble_eq_true rfl) ⟨Nat.zero_le _, Nat.zero_le _⟩ dX12_unlikeRegisters_11 (fun H locs hP hS => ?_)
      refine lv_if_eq (pc := 14) (tgt := 73) hx hb dX12_unlikeRegisters_14 (by decide) (fun c1 => ?_) (fun c1 => ?_)
      · rw [if_pos c1] at h
        refine lv_iload_n (pc := 73) hx hb dX12_unlikeRegisters_73 rfl (lv_at hl 0 rfl) ?_
        exact xreti (pc := 74) hx hb hr hlocks hP hK hE hS h dX12_unlikeRegisters_74
      · rw [if_neg c1] at h
        refine lv_iconst (pc := 17) (v := 1) hx hb dX12_unlikeRegisters_17 (by decide) ?_
        refine lv_istore_n (pc := 18) (lv' := [(3, .int 1), (1, .int x1_1), (2, .int x2_1), (0, .ref (o + x0))]) hx hb dX12_unlikeRegisters_18 rfl hl (by decide) rfl (fun ls hl => ?_)
        refine lv_iconst (pc := 19) (v := 0) hx hb dX12_unlikeRegisters_19 (by decide) ?_
        refine lv_istore (pc := 20) (lv' := [(4, .int 0), (3, .int 1), (1, .int x1_1), (2, .int x2_1), (0, .ref (o + x0))]) hx hb dX12_unlikeRegisters_20 hl (by decide) rfl (fun ls hl => ?_)
        have L22_4 : ∀ (n : Nat) (t : Int32 × Int32 × zS), zlp (F_X12_unlikeRegisters_22 N x0 x1_1 x2_1 ag1) n t = some ρ → ∀ (H : Heap) (locs : List Loc) (ls : Array Slot), zP D c o (zabs o (t.2.2)) H → va_S (zA o) s.heap H locs → lv_has ls 5 [(3, .int (t.1)), (4, .int (t.2.1)), (0, .ref (o + x0)), (1, .int x1_1), (2, .int x2_1)] → W p l e (zr 8) s m (([.ref (o + x0)] : List Value).toArray) below meth cd H locs 0 0 (MQ below (zQi D c o g ρ) (([.ref (o + x0)] : List Value).toArray) s 0 0 (zA o)) (F0 m 22 ls []) := by
          refine zlp_ind (fun ag4 ih4 t h H locs ls hP hS hl => ?_)
          obtain ⟨x3_4, x4_4, σ4⟩ := t
          have hP : zP D c o (zabs o σ4) H := hP
          have hl : lv_has ls 5 [(3, .int x3_4), (4, .int x4_4), (0, .ref (o + x0)), (1, .int x1_1), (2, .int x2_1)] := hl
          rw [F_X12_unlikeRegisters_22.eq_1] at h
          show W p l e (zr 8) s m (([.ref (o + x0)] : List Value).toArray) below meth cd H locs 0 0 (MQ below (zQi D c o g ρ) (([.ref (o + x0)] : List Value).toArray) s 0 0 (zA o)) (F0 m 22 ls [])
          refine lv_iload (pc := 22) hx hb dX12_unlikeRegisters_22 (lv_at hl 1 rfl) ?_
          refine lv_iload_n (pc := 24) hx hb dX12_unlikeRegisters_24 rfl (lv_at hl 4 rfl) ?_
          refine lv_icmp_ge (pc := 25) (tgt := 55) hx hb dX12_unlikeRegisters_25 (by decide) (fun c1 => ?_) (fun c1 => ?_)
          · rw [if_pos c1] at h
            refine lv_iload_n (pc := 55) hx hb dX12_unlikeRegisters_55 rfl (lv_at hl 3 rfl) ?_
            refine lv_iload_n (pc := 56) hx hb dX12_unlikeRegisters_56 rfl (lv_at hl 0 rfl) ?_
            refine lv_if_eq (pc := 57) (tgt := 64) hx hb dX12_unlikeRegisters_57 (by decide) (fun c1 => ?_) (fun c1 => ?_)
            · rw [if_pos c1] at h
              refine lv_iconst (pc := 64) (v := 0) hx hb dX12_unlikeRegisters_64 (by decide) ?_
              refine lv_iadd (pc := 65) hx hb dX12_unlikeRegisters_65 ?_
              refine lv_istore_n (pc := 66) (lv' := [(1, .int (x1_1 + 0)), (3, .int x3_4), (4, .int x4_4), (0, .ref (o + x0)), (2, .int x2_1)]) hx hb dX12_unlikeRegisters_66 rfl hl (by decide) rfl (fun ls hl => ?_)
              refine lv_iinc (pc := 67) (v := x2_1 + 1) (lv' := [(2, .int (x2_1 + 1)), (1, .int (x1_1 + 0)), (3, .int x3_4), (4, .int x4_4), (0, .ref (o + x0))]) hx hb dX12_unlikeRegisters_67 hl (k := 4) rfl rfl (by decide) rfl (fun ls hl => ?_)
              refine lv_goto (pc := 70) (tgt := 4) hx hb dX12_unlikeRegisters_70 (by decide) ?_
              exact ih1 (x1_1 + 0, x2_1 + 1, σ4) h _ _ ls hP hS (lv_sub hl [1, 0, 4] rfl)
            · rw [if_neg c1] at h
              refine lv_iconst (pc := 60) (v := 1) hx hb dX12_unlikeRegisters_60 (by decide) ?_
              refine lv_goto (pc := 61) (tgt := 65) hx hb dX12_unlikeRegisters_61 (by decide) ?_
              refine lv_iadd (pc := 65) hx hb dX12_unlikeRegisters_65 ?_
              refine lv_istore_n (pc := 66) (lv' := [(1, .int (x1_1 + 1)), (3, .int x3_4), (4, .int x4_4), (0, .ref (o + x0)), (2, .int x2_1)]) hx hb dX12_unlikeRegisters_66 rfl hl (by decide) rfl (fun ls hl => ?_)
              refine lv_iinc (pc := 67) (v := x2_1 + 1) (lv' := [(2, .int (x2_1 + 1)), (1, .int (x1_1 + 1)), (3, .int x3_4), (4, .int x4_4), (0, .ref (o + x0))]) hx hb dX12_unlikeRegisters_67 hl (k := 4) rfl rfl (by decide) rfl (fun ls hl => ?_)
              refine lv_goto (pc := 70) (tgt := 4) hx hb dX12_unlikeRegisters_70 (by decide) ?_
              exact ih1 (x1_1 + 1, x2_1 + 1, σ4) h _ _ ls hP hS (lv_sub hl [1, 0, 4] rfl)
          · rw [if_neg c1] at h
            refine lv_iload_n (pc := 28) hx hb dX12_unlikeRegisters_28 rfl (lv_at hl 0 rfl) ?_
            refine lv_if_eq (pc := 29) (tgt := 47) hx hb dX12_unlikeRegisters_29 (by decide) (fun c1 => ?_) (fun c1 => ?_)
            · rw [if_pos c1] at h
              refine lv_iconst (pc := 47) (v := 0) hx hb dX12_unlikeRegisters_47 (by decide) ?_
              refine lv_istore_n (pc := 48) (lv' := [(3, .int 0), (4, .int x4_4), (0, .ref (o + x0)), (1, .int x1_1), (2, .int x2_1)]) hx hb dX12_unlikeRegisters_48 rfl hl (by decide) rfl (fun ls hl => ?_)
              refine lv_iinc (pc := 49) (v := x4_4 + 1) (lv' := [(4, .int (x4_4 + 1)), (3, .int 0), (0, .ref (o + x0)), (1, .int x1_1), (2, .int x2_1)]) hx hb dX12_unlikeRegisters_49 hl (k := 1) rfl rfl (by decide) rfl (fun ls hl => ?_)
              refine lv_goto (pc := 52) (tgt := 22) hx hb dX12_unlikeRegisters_52 (by decide) ?_
              exact ih4 (0, x4_4 + 1, σ4) h _ _ ls hP hS (lv_sub hl [1, 0, 2, 3, 4] rfl)
            · rw [if_neg c1] at h
              refine lv_aload_n (pc := 32) hx hb dX12_unlikeRegisters_32 rfl (lv_at hl 2 rfl) ?_
              refine lv_iload_n (pc := 33) hx hb dX12_unlikeRegisters_33 rfl (lv_at hl 4 rfl) ?_
              refine lv_iload (pc := 34) hx hb dX12_unlikeRegisters_34 (lv_at hl 1 rfl) ?_
              obtain ⟨_, hg, h⟩ := zl_some h
              obtain ⟨v5, σ6, hv, h⟩ := zb_some h
              refine xcallVi (pc := 36) (As := [.int x2_1, .int x4_4]) (rest := []) ⟨hx, hb, hml, hown, hts⟩ (c_X12_differOf l D c o g N hv) zc12 zV_X12_363 rfl zd_X12_differOf ⟨Nat.le_of_ble_eq_true rfl, Nat.le_of_ble_eq_true rfl⟩ hK hP hE hS hg hl.1 rfl (Nat.le_of_ble_eq_true rfl) ⟨Nat.zero_le _, Nat.zero_le _⟩ dX12_unlikeRegisters_36 (fun H locs hP hS => ?_)
              refine lv_iconst (pc := 39) (v := (-1)) hx hb dX12_unlikeRegisters_39 (by decide) ?_
              refine lv_icmp_eq (pc := 40) (tgt := 47) hx hb dX12_unlikeRegisters_40 (by decide) (fun c1 => ?_) (fun c1 => ?_)
              · rw [if_pos c1] at h
                refine lv_iconst (pc := 47) (v := 0) hx hb dX12_unlikeRegisters_47 (by decide) ?_
                refine lv_istore_n (pc := 48) (lv' := [(3, .int 0), (4, .int x4_4), (0, .ref (o + x0)), (1, .int x1_1), (2, .int x2_1)]) hx hb dX12_unlikeRegisters_48 rfl hl (by decide) rfl (fun ls hl => ?_)
                refine lv_iinc (pc := 49) (v := x4_4 + 1) (lv' := [(4, .int (x4_4 + 1)), (3, .int 0), (0, .ref (o + x0)), (1, .int x1_1), (2, .int x2_1)]) hx hb dX12_unlikeRegisters_49 hl (k := 1) rfl rfl (by decide) rfl (fun ls hl => ?_)
                refine lv_goto (pc := 52) (tgt := 22) hx hb dX12_unlikeRegisters_52 (by decide) ?_
                exact ih4 (0, x4_4 + 1, σ6) h _ _ ls hP hS (lv_sub hl [1, 0, 2, 3, 4] rfl)
              · rw [if_neg c1] at h
                refine lv_iconst (pc := 43) (v := 1) hx hb dX12_unlikeRegisters_43 (by decide) ?_
                refine lv_goto (pc := 44) (tgt := 48) hx hb dX12_unlikeRegisters_44 (by decide) ?_
                refine lv_istore_n (pc := 48) (lv' := [(3, .int 1), (4, .int x4_4), (0, .ref (o + x0)), (1, .int x1_1), (2, .int x2_1)]) hx hb dX12_unlikeRegisters_48 rfl hl (by decide) rfl (fun ls hl => ?_)
                refine lv_iinc (pc := 49) (v := x4_4 + 1) (lv' := [(4, .int (x4_4 + 1)), (3, .int 1), (0, .ref (o + x0)), (1, .int x1_1), (2, .int x2_1)]) hx hb dX12_unlikeRegisters_49 hl (k := 1) rfl rfl (by decide) rfl (fun ls hl => ?_)
                refine lv_goto (pc := 52) (tgt := 22) hx hb dX12_unlikeRegisters_52 (by decide) ?_
                exact ih4 (1, x4_4 + 1, σ6) h _ _ ls hP hS (lv_sub hl [1, 0, 2, 3, 4] rfl)
        exact L22_4 N (1, 0, σ3) h _ _ ls hP hS (lv_sub hl [1, 0, 4, 2, 3] rfl)
  exact L4_1 N (0, 0, σ) h _ _ ls hP hS (lv_sub hl [1, 0, 2] rfl)
def F_X12_count_72 (N : Nat) (x0 : Nat) (again72 : (Int32 × Int32 × zS) → Option (Int32 × zS)) : Int32 × Int32 × zS → Option (Int32 × zS)
  | (x2, x3, σ) =>
  if 10 ≤ x3 then
    (some (x2, σ))
  else
    (zl (gC 12 x0) fun _ => zb (f_X12_sizeOf N x0 x3 σ) fun v8 σ9 =>
    if v8 ≤ 0 then
      (again72 (x2 ||| 0, x3 + 1, σ9))
    else
      (again72 (x2 ||| ((1 : Int32) <<< (x3 &&& 31)), x3 + 1, σ9)))
def F_X12_count_111 (N : Nat) (x0 : Nat) (again111 : (Int32 × Int32 × zS) → Option (Int32 × zS)) : Int32 × Int32 × zS → Option (Int32 × zS)
  | (x2, x3, σ) =>
  if 4 ≤ x3 then
    (some (x2, σ))
  else
    (zl (gR 12 35 x0 σ) fun v12 =>
    zl (aI 14 v12 x3 σ) fun v13 =>
    if v13 = (-1) then
      (again111 (x2 + 0, x3 + 1, σ))
    else
      (again111 (x2 + 1, x3 + 1, σ)))
def f_X12_count (N : Nat) (x0 : Nat) (x1 : Int32) (σ : zS) : Option (Int32 × zS) :=
  if x1 = 0 then
    (zl (gR 12 1 x0 σ) fun v1 =>
    zl (aI 14 v1 0 σ) fun v2 =>
    some (v2, σ))
  else if x1 = 1 then
    (zl (gR 12 1 x0 σ) fun v3 =>
    zl (aI 14 v3 1 σ) fun v4 =>
    some (v4, σ))
  else if x1 = 2 then
    (zl (gR 12 1 x0 σ) fun v5 =>
    zl (aI 14 v5 2 σ) fun v6 =>
    some (v6, σ))
  else if x1 = 3 then
    (zl (gI 12 7 x0 σ) fun v7 =>
    some (v7, σ))
  else if x1 = 4 then
    (zlp (F_X12_count_72 N x0) N (0, 0, σ))
  else if x1 = 5 then
    (zl (gC 12 x0) fun _ => zb (f_X12_unlikeRegisters N x0 σ) fun v10 σ11 =>
    some (v10, σ11))
  else if x1 = 6 then
    (zlp (F_X12_count_111 N x0) N (0, 0, σ))
  else (some ((-1), σ))
set_option maxHeartbeats 4000000 in
set_option maxRecDepth 100000 in
theorem c_X12_count (l : Launch) (D : va_G) (c : zC) (o : Nat) (g : zEp) (N : Nat) {x0 : Nat} {x1 : Int32} {σ : zS} {ρ : Int32 × zS} (h : f_X12_count N x0 x1 σ = some ρ) : Met l yX12_count zs_X12_count (zr 10) (va_Pc [.ref (o + x0), .int x1] (zG D c o g σ)) (zQi D c o g ρ) 0 0 (zA o) := by
  refine zMetG (by decide) (Nat.le_of_ble_eq_true rfl) ?_
  intro p e s m below meth cd ⟨hx, hb, hr, hml, hown, hts, hlocks⟩ hP hK hE ls hl
  have hS : va_S (zA o) s.heap s.heap [] := va_S.rf
  have hl : lv_has ls 4 [(0, .ref (o + x0)), (1, .int x1)] := hl
  rw [f_X12_count.eq_1] at h
  refine lv_iconst (pc := 0) (v := 0) hx hb dX12_count_0 (by decide) ?_
  refine lv_istore_n (pc := 1) (lv' := [(2, .int 0), (0, .ref (o + x0)), (1, .int x1)]) hx hb dX12_count_1 rfl hl (by decide) rfl (fun ls hl => ?_)
  refine lv_iload_n (pc := 2) hx hb dX12_count_2 rfl (lv_at hl 2 rfl) ?_
  by_cases w0_3 : x1 = 0
  · rw [if_pos w0_3] at h
    refine lv_tableIn (pc := 3) (tgt := 44) hx hb dX12_count_3 (by rw [w0_3]; decide) (by rw [w0_3]; decide) (by rw [w0_3]; rfl) (by decide) ?_
    refine lv_aload_n (pc := 44) hx hb dX12_count_44 rfl (lv_at hl 1 rfl) ?_
    obtain ⟨v1, hv, h⟩ := zl_some h
    refine xgR (pc := 45) (j := 1) zc12 hx hb hts hown hK hP hv rfl zf_X12_9 dX12_count_45 ?_
    refine lv_iconst (pc := 48) (v := 0) hx hb dX12_count_48 (by decide) ?_
    obtain ⟨v2, hv, h⟩ := zl_some h
    refine xaI (pc := 49) hx hb hK hP hv dX12_count_49 ?_
    exact xreti (pc := 50) hx hb hr hlocks hP hK hE hS h dX12_count_50
  rw [if_neg w0_3] at h
  by_cases w1_3 : x1 = 1
  · rw [if_pos w1_3] at h
    refine lv_tableIn (pc := 3) (tgt := 51) hx hb dX12_count_3 (by rw [w1_3]; decide) (by rw [w1_3]; decide) (by rw [w1_3]; rfl) (by decide) ?_
    refine lv_aload_n (pc := 51) hx hb dX12_count_51 rfl (lv_at hl 1 rfl) ?_
    obtain ⟨v3, hv, h⟩ := zl_some h
    refine xgR (pc := 52) (j := 1) zc12 hx hb hts hown hK hP hv rfl zf_X12_9 dX12_count_52 ?_
    refine lv_iconst (pc := 55) (v := 1) hx hb dX12_count_55 (by decide) ?_
    obtain ⟨v4, hv, h⟩ := zl_some h
    refine xaI (pc := 56) hx hb hK hP hv dX12_count_56 ?_
    exact xreti (pc := 57) hx hb hr hlocks hP hK hE hS h dX12_count_57
  rw [if_neg w1_3] at h
  by_cases w2_3 : x1 = 2
  · rw [if_pos w2_3] at h
    refine lv_tableIn (pc := 3) (tgt := 58) hx hb dX12_count_3 (by rw [w2_3]; decide) (by rw [w2_3]; decide) (by rw [w2_3]; rfl) (by decide) ?_
    refine lv_aload_n (pc := 58) hx hb dX12_count_58 rfl (lv_at hl 1 rfl) ?_
    obtain ⟨v5, hv, h⟩ := zl_some h
    refine xgR (pc := 59) (j := 1) zc12 hx hb hts hown hK hP hv rfl zf_X12_9 dX12_count_59 ?_
    refine lv_iconst (pc := 62) (v := 2) hx hb dX12_count_62 (by decide) ?_
    obtain ⟨v6, hv, h⟩ := zl_some h
    refine xaI (pc := 63) hx hb hK hP hv dX12_count_63 ?_
    exact xreti (pc := 64) hx hb hr hlocks hP hK hE hS h dX12_count_64
  rw [if_neg w2_3] at h
  by_cases w3_3 : x1 = 3
  · rw [if_pos w3_3] at h
    refine lv_tableIn (pc := 3) (tgt := 65) hx hb dX12_count_3 (by rw [w3_3]; decide) (by rw [w3_3]; decide) (by rw [w3_3]; rfl) (by decide) ?_
    refine lv_aload_n (pc := 65) hx hb dX12_count_65 rfl (lv_at hl 1 rfl) ?_
    obtain ⟨v7, hv, h⟩ := zl_some h
    refine xgI (pc := 66) (j := 7) zc12 hx hb hts hown hK hP hv rfl zf_X12_107 dX12_count_66 ?_
    exact xreti (pc := 69) hx hb hr hlocks hP hK hE hS h dX12_count_69
  rw [if_neg w3_3] at h
  by_cases w4_3 : x1 = 4
  · rw [if_pos w4_3] at h
    refine lv_tableIn (pc := 3) (tgt := 70) hx hb dX12_count_3 (by rw [w4_3]; decide) (by rw [w4_3]; decide) (by rw [w4_3]; rfl) (by decide) ?_
    refine lv_iconst (pc := 70) (v := 0) hx hb dX12_count_70 (by decide) ?_
    refine lv_istore_n (pc := 71) (lv' := [(3, .int 0), (2, .int 0), (0, .ref (o + x0)), (1, .int x1)]) hx hb dX12_count_71 rfl hl (by decide) rfl (fun ls hl => ?_)
    have L72_8 : ∀ (n : Nat) (t : Int32 × Int32 × zS), zlp (F_X12_count_72 N x0) n t = some ρ → ∀ (H : Heap) (locs : List Loc) (ls : Array Slot), zP D c o (zabs o (t.2.2)) H → va_S (zA o) s.heap H locs → lv_has ls 4 [(2, .int (t.1)), (3, .int (t.2.1)), (0, .ref (o + x0))] → W p l e (zr 10) s m (([.ref (o + x0), .int x1] : List Value).toArray) below meth cd H locs 0 0 (MQ below (zQi D c o g ρ) (([.ref (o + x0), .int x1] : List Value).toArray) s 0 0 (zA o)) (F0 m 72 ls []) := by
      refine zlp_ind (fun ag8 ih8 t h H locs ls hP hS hl => ?_)
      obtain ⟨x2_8, x3_8, σ8⟩ := t
      have hP : zP D c o (zabs o σ8) H := hP
      have hl : lv_has ls 4 [(2, .int x2_8), (3, .int x3_8), (0, .ref (o + x0))] := hl
      rw [F_X12_count_72.eq_1] at h
      show W p l e (zr 10) s m (([.ref (o + x0), .int x1] : List Value).toArray) below meth cd H locs 0 0 (MQ below (zQi D c o g ρ) (([.ref (o + x0), .int x1] : List Value).toArray) s 0 0 (zA o)) (F0 m 72 ls [])
      refine lv_iload_n (pc := 72) hx hb dX12_count_72 rfl (lv_at hl 1 rfl) ?_
      refine lv_bipush (pc := 73) (v := 10) hx hb dX12_count_73 (by decide) ?_
      refine lv_icmp_ge (pc := 75) (tgt := 102) hx hb dX12_count_75 (by decide) (fun c1 => ?_) (fun c1 => ?_)
      · rw [if_pos c1] at h
        refine lv_iload_n (pc := 102) hx hb dX12_count_102 rfl (lv_at hl 0 rfl) ?_
        exact xreti (pc := 103) hx hb hr hlocks hP hK hE hS h dX12_count_103
      · rw [if_neg c1] at h
        refine lv_iload_n (pc := 78) hx hb dX12_count_78 rfl (lv_at hl 0 rfl) ?_
        refine lv_aload_n (pc := 79) hx hb dX12_count_79 rfl (lv_at hl 2 rfl) ?_
        refine lv_iload_n (pc := 80) hx hb dX12_count_80 rfl (lv_at hl 1 rfl) ?_
        obtain ⟨_, hg, h⟩ := zl_some h
        obtain ⟨v9, σ10, hv, h⟩ := zb_some h
        refine xcallVi (pc := 81) (As := [.int x3_8]) (rest := [.int x2_8]) ⟨hx, hb, hml, hown, hts⟩ (c_X12_sizeOf l D c o g N hv) zc12 zV_X12_318 rfl zd_X12_sizeOf ⟨Nat.le_of_ble_eq_true rfl, Nat.le_of_ble_eq_true rfl⟩ hK hP hE hS hg hl.1 rfl (Nat.le_of_ble_eq_true rfl) ⟨Nat.zero_le _, Nat.zero_le _⟩ dX12_count_81 (fun H locs hP hS => ?_)
        refine lv_if_le (pc := 84) (tgt := 93) hx hb dX12_count_84 (by decide) (fun c1 => ?_) (fun c1 => ?_)
        · rw [if_pos c1] at h
          refine lv_iconst (pc := 93) (v := 0) hx hb dX12_count_93 (by decide) ?_
          refine lv_ior (pc := 94) hx hb dX12_count_94 ?_
          refine lv_istore_n (pc := 95) (lv' := [(2, .int (x2_8 ||| 0)), (3, .int x3_8), (0, .ref (o + x0))]) hx hb dX12_count_95 rfl hl (by decide) rfl (fun ls hl => ?_)
          refine lv_iinc (pc := 96) (v := x3_8 + 1) (lv' := [(3, .int (x3_8 + 1)), (2, .int (x2_8 ||| 0)), (0, .ref (o + x0))]) hx hb dX12_count_96 hl (k := 1) rfl rfl (by decide) rfl (fun ls hl => ?_)
          refine lv_goto (pc := 99) (tgt := 72) hx hb dX12_count_99 (by decide) ?_
          exact ih8 (x2_8 ||| 0, x3_8 + 1, σ10) h _ _ ls hP hS (lv_sub hl [1, 0, 2] rfl)
        · rw [if_neg c1] at h
          refine lv_iconst (pc := 87) (v := 1) hx hb dX12_count_87 (by decide) ?_
          refine lv_iload_n (pc := 88) hx hb dX12_count_88 rfl (lv_at hl 1 rfl) ?_
          refine lv_ishl (pc := 89) hx hb dX12_count_89 ?_
          refine lv_goto (pc := 90) (tgt := 94) hx hb dX12_count_90 (by decide) ?_
          refine lv_ior (pc := 94) hx hb dX12_count_94 ?_
          refine lv_istore_n (pc := 95) (lv' := [(2, .int (x2_8 ||| ((1 : Int32) <<< (x3_8 &&& 31)))), (3, .int x3_8), (0, .ref (o + x0))]) hx hb dX12_count_95 rfl hl (by decide) rfl (fun ls hl => ?_)
          refine lv_iinc (pc := 96) (v := x3_8 + 1) (lv' := [(3, .int (x3_8 + 1)), (2, .int (x2_8 ||| ((1 : Int32) <<< (x3_8 &&& 31)))), (0, .ref (o + x0))]) hx hb dX12_count_96 hl (k := 1) rfl rfl (by decide) rfl (fun ls hl => ?_)
          refine lv_goto (pc := 99) (tgt := 72) hx hb dX12_count_99 (by decide) ?_
          exact ih8 (x2_8 ||| ((1 : Int32) <<< (x3_8 &&& 31)), x3_8 + 1, σ10) h _ _ ls hP hS (lv_sub hl [1, 0, 2] rfl)
    exact L72_8 N (0, 0, σ) h _ _ ls hP hS (lv_sub hl [1, 0, 2] rfl)
  rw [if_neg w4_3] at h
  by_cases w5_3 : x1 = 5
  · rw [if_pos w5_3] at h
    refine lv_tableIn (pc := 3) (tgt := 104) hx hb dX12_count_3 (by rw [w5_3]; decide) (by rw [w5_3]; decide) (by rw [w5_3]; rfl) (by decide) ?_
    refine lv_aload_n (pc := 104) hx hb dX12_count_104 rfl (lv_at hl 1 rfl) ?_
    obtain ⟨_, hg, h⟩ := zl_some h
    obtain ⟨v11, σ12, hv, h⟩ := zb_some h
    refine xcallVi (pc := 105) (As := []) (rest := []) ⟨hx, hb, hml, hown, hts⟩ (c_X12_unlikeRegisters l D c o g N hv) zc12 zV_X12_451 rfl zd_X12_unlikeRegisters ⟨Nat.le_of_ble_eq_true rfl, Nat.le_of_ble_eq_true rfl⟩ hK hP hE hS hg hl.1 rfl (Nat.le_of_ble_eq_true rfl) ⟨Nat.zero_le _, Nat.zero_le _⟩ dX12_count_105 (fun H locs hP hS => ?_)
    exact xreti (pc := 108) hx hb hr hlocks hP hK hE hS h dX12_count_108
  rw [if_neg w5_3] at h
  by_cases w6_3 : x1 = 6
  · rw [if_pos w6_3] at h
    refine lv_tableIn (pc := 3) (tgt := 109) hx hb dX12_count_3 (by rw [w6_3]; decide) (by rw [w6_3]; decide) (by rw [w6_3]; rfl) (by decide) ?_
    refine lv_iconst (pc := 109) (v := 0) hx hb dX12_count_109 (by decide) ?_
    refine lv_istore_n (pc := 110) (lv' := [(3, .int 0), (2, .int 0), (0, .ref (o + x0)), (1, .int x1)]) hx hb dX12_count_110 rfl hl (by decide) rfl (fun ls hl => ?_)
    have L111_13 : ∀ (n : Nat) (t : Int32 × Int32 × zS), zlp (F_X12_count_111 N x0) n t = some ρ → ∀ (H : Heap) (locs : List Loc) (ls : Array Slot), zP D c o (zabs o (t.2.2)) H → va_S (zA o) s.heap H locs → lv_has ls 4 [(2, .int (t.1)), (3, .int (t.2.1)), (0, .ref (o + x0))] → W p l e (zr 10) s m (([.ref (o + x0), .int x1] : List Value).toArray) below meth cd H locs 0 0 (MQ below (zQi D c o g ρ) (([.ref (o + x0), .int x1] : List Value).toArray) s 0 0 (zA o)) (F0 m 111 ls []) := by
      refine zlp_ind (fun ag13 ih13 t h H locs ls hP hS hl => ?_)
      obtain ⟨x2_13, x3_13, σ13⟩ := t
      have hP : zP D c o (zabs o σ13) H := hP
      have hl : lv_has ls 4 [(2, .int x2_13), (3, .int x3_13), (0, .ref (o + x0))] := hl
      rw [F_X12_count_111.eq_1] at h
      show W p l e (zr 10) s m (([.ref (o + x0), .int x1] : List Value).toArray) below meth cd H locs 0 0 (MQ below (zQi D c o g ρ) (([.ref (o + x0), .int x1] : List Value).toArray) s 0 0 (zA o)) (F0 m 111 ls [])
      refine lv_iload_n (pc := 111) hx hb dX12_count_111 rfl (lv_at hl 1 rfl) ?_
      refine lv_iconst (pc := 112) (v := 4) hx hb dX12_count_112 (by decide) ?_
      refine lv_icmp_ge (pc := 113) (tgt := 140) hx hb dX12_count_113 (by decide) (fun c1 => ?_) (fun c1 => ?_)
      · rw [if_pos c1] at h
        refine lv_iload_n (pc := 140) hx hb dX12_count_140 rfl (lv_at hl 0 rfl) ?_
        exact xreti (pc := 141) hx hb hr hlocks hP hK hE hS h dX12_count_141
      · rw [if_neg c1] at h
        refine lv_iload_n (pc := 116) hx hb dX12_count_116 rfl (lv_at hl 0 rfl) ?_
        refine lv_aload_n (pc := 117) hx hb dX12_count_117 rfl (lv_at hl 2 rfl) ?_
        obtain ⟨v14, hv, h⟩ := zl_some h
        refine xgR (pc := 118) (j := 35) zc12 hx hb hts hown hK hP hv rfl zf_X12_76 dX12_count_118 ?_
        refine lv_iload_n (pc := 121) hx hb dX12_count_121 rfl (lv_at hl 1 rfl) ?_
        obtain ⟨v15, hv, h⟩ := zl_some h
        refine xaI (pc := 122) hx hb hK hP hv dX12_count_122 ?_
        refine lv_iconst (pc := 123) (v := (-1)) hx hb dX12_count_123 (by decide) ?_
        refine lv_icmp_ne (pc := 124) (tgt := 131) hx hb dX12_count_124 (by decide) (fun c1 => ?_) (fun c1 => ?_)
        · rw [if_neg c1] at h
          refine lv_iconst (pc := 131) (v := 1) hx hb dX12_count_131 (by decide) ?_
          refine lv_iadd (pc := 132) hx hb dX12_count_132 ?_
          refine lv_istore_n (pc := 133) (lv' := [(2, .int (x2_13 + 1)), (3, .int x3_13), (0, .ref (o + x0))]) hx hb dX12_count_133 rfl hl (by decide) rfl (fun ls hl => ?_)
          refine lv_iinc (pc := 134) (v := x3_13 + 1) (lv' := [(3, .int (x3_13 + 1)), (2, .int (x2_13 + 1)), (0, .ref (o + x0))]) hx hb dX12_count_134 hl (k := 1) rfl rfl (by decide) rfl (fun ls hl => ?_)
          refine lv_goto (pc := 137) (tgt := 111) hx hb dX12_count_137 (by decide) ?_
          exact ih13 (x2_13 + 1, x3_13 + 1, σ13) h _ _ ls hP hS (lv_sub hl [1, 0, 2] rfl)
        · rw [if_pos c1] at h
          refine lv_iconst (pc := 127) (v := 0) hx hb dX12_count_127 (by decide) ?_
          refine lv_goto (pc := 128) (tgt := 132) hx hb dX12_count_128 (by decide) ?_
          refine lv_iadd (pc := 132) hx hb dX12_count_132 ?_
          refine lv_istore_n (pc := 133) (lv' := [(2, .int (x2_13 + 0)), (3, .int x3_13), (0, .ref (o + x0))]) hx hb dX12_count_133 rfl hl (by decide) rfl (fun ls hl => ?_)
          refine lv_iinc (pc := 134) (v := x3_13 + 1) (lv' := [(3, .int (x3_13 + 1)), (2, .int (x2_13 + 0)), (0, .ref (o + x0))]) hx hb dX12_count_134 hl (k := 1) rfl rfl (by decide) rfl (fun ls hl => ?_)
          refine lv_goto (pc := 137) (tgt := 111) hx hb dX12_count_137 (by decide) ?_
          exact ih13 (x2_13 + 0, x3_13 + 1, σ13) h _ _ ls hP hS (lv_sub hl [1, 0, 2] rfl)
    exact L111_13 N (0, 0, σ) h _ _ ls hP hS (lv_sub hl [1, 0, 2] rfl)
  rw [if_neg w6_3] at h
  have wo_3 : x1.toInt < 0 ∨ 6 < x1.toInt := by
    have q0 := lv_neT w0_3 (a := 0) rfl; have q1 := lv_neT w1_3 (a := 1) rfl; have q2 := lv_neT w2_3 (a := 2) rfl; have q3 := lv_neT w3_3 (a := 3) rfl; have q4 := lv_neT w4_3 (a := 4) rfl; have q5 := lv_neT w5_3 (a := 5) rfl; have q6 := lv_neT w6_3 (a := 6) rfl
    omega
  refine lv_tableOut (pc := 3) (tgt := 142) hx hb dX12_count_3 wo_3 (by decide) ?_
  refine lv_iconst (pc := 142) (v := (-1)) hx hb dX12_count_142 (by decide) ?_
  exact xreti (pc := 143) hx hb hr hlocks hP hK hE hS h dX12_count_143
def f_X12_cut (N : Nat) (x0 : Int64) (x2 : Int32) (σ : zS) : Option (Int64 × zS) :=
  some (zsr (zsl x0 (64 - ((8 : Int32) <<< (x2 &&& 31)))) (64 - ((8 : Int32) <<< (x2 &&& 31))), σ)
set_option maxHeartbeats 4000000 in
set_option maxRecDepth 100000 in
theorem c_X12_cut (l : Launch) (D : va_G) (c : zC) (o : Nat) (g : zEp) (N : Nat) {x0 : Int64} {x2 : Int32} {σ : zS} {ρ : Int64 × zS} (h : f_X12_cut N x0 x2 σ = some ρ) : Met l yX12_cut zs_X12_cut (zr 2) (va_Pc [.long x0, .int x2] (zG D c o g σ)) (zQl D c o g ρ) 0 0 (zA o) := by
  refine zMetG (by decide) (Nat.le_of_ble_eq_true rfl) ?_
  intro p e s m below meth cd ⟨hx, hb, hr, hml, hown, hts, hlocks⟩ hP hK hE ls hl
  have hS : va_S (zA o) s.heap s.heap [] := va_S.rf
  have hl : lv_has ls 4 [(0, .long x0), (2, .int x2)] := hl
  rw [f_X12_cut.eq_1] at h
  refine lv_bipush (pc := 0) (v := 64) hx hb dX12_cut_0 (by decide) ?_
  refine lv_bipush (pc := 2) (v := 8) hx hb dX12_cut_2 (by decide) ?_
  refine lv_iload_n (pc := 4) hx hb dX12_cut_4 rfl (lv_at hl 1 rfl) ?_
  refine lv_ishl (pc := 5) hx hb dX12_cut_5 ?_
  refine lv_isub (pc := 6) hx hb dX12_cut_6 ?_
  refine lv_istore_n (pc := 7) (lv' := [(3, .int (64 - ((8 : Int32) <<< (x2 &&& 31)))), (0, .long x0), (2, .int x2)]) hx hb dX12_cut_7 rfl hl (by decide) rfl (fun ls hl => ?_)
  refine lv_lload_n (pc := 8) hx hb dX12_cut_8 rfl (lv_at hl 1 rfl) ?_
  refine lv_iload_n (pc := 9) hx hb dX12_cut_9 rfl (lv_at hl 0 rfl) ?_
  refine lv_lshl (pc := 10) (v := zsl x0 (64 - ((8 : Int32) <<< (x2 &&& 31)))) hx hb dX12_cut_10 rfl ?_
  refine lv_iload_n (pc := 11) hx hb dX12_cut_11 rfl (lv_at hl 0 rfl) ?_
  refine lv_lshr (pc := 12) (v := zsr (zsl x0 (64 - ((8 : Int32) <<< (x2 &&& 31)))) (64 - ((8 : Int32) <<< (x2 &&& 31)))) hx hb dX12_cut_12 rfl ?_
  exact xretl (pc := 13) hx hb hr hlocks hP hK hE hS h dX12_cut_13
def F_X12_row_52 (N : Nat) (x0 : Nat) (x1 : Int32) (again52 : (Int32 × zS) → Option (Int32 × zS)) : Int32 × zS → Option (Int32 × zS)
  | (x4, σ) =>
  if 60 ≤ x4 then
    (some (0, σ))
  else
    (zl (gR 12 37 x0 σ) fun v9 =>
    zl (sJ v9 ((60 * x1) + x4) 0 σ) fun σ10 =>
    again52 (x4 + 1, σ10))
def f_X12_row (N : Nat) (x0 : Nat) (x1 : Int32) (x2 : Int32) (x3 : Int32) (σ : zS) : Option (Int32 × zS) :=
  zb (f_X12_isSlot N x1 σ) fun v1 σ2 =>
  if v1 = 0 then
    (some ((-2), σ2))
  else
    (zb (f_X12_in N (Int32.toInt64 x2) 0 3 σ2) fun v3 σ4 =>
    if v3 = 0 then
      (some ((-2), σ4))
    else
      (if x3 ≤ 60 then
        (if 0 ≤ x3 then
          (zl (gR 12 35 x0 σ4) fun v5 =>
          zl (sI 14 v5 x1 x3 σ4) fun σ6 =>
          zl (gR 12 36 x0 σ6) fun v7 =>
          zl (sI 14 v7 x1 x2 σ6) fun σ8 =>
          zlp (F_X12_row_52 N x0 x1) N (0, σ8))
        else
          (some ((-3), σ4)))
      else
        (some ((-2), σ4))))
set_option maxHeartbeats 4000000 in
set_option maxRecDepth 100000 in
theorem c_X12_row (l : Launch) (D : va_G) (c : zC) (o : Nat) (g : zEp) (N : Nat) {x0 : Nat} {x1 : Int32} {x2 : Int32} {x3 : Int32} {σ : zS} {ρ : Int32 × zS} (h : f_X12_row N x0 x1 x2 x3 σ = some ρ) : Met l yX12_row zs_X12_row (zr 6) (va_Pc [.ref (o + x0), .int x1, .int x2, .int x3] (zG D c o g σ)) (zQi D c o g ρ) 0 0 (zA o) := by
  refine zMetG (by decide) (Nat.le_of_ble_eq_true rfl) ?_
  intro p e s m below meth cd ⟨hx, hb, hr, hml, hown, hts, hlocks⟩ hP hK hE ls hl
  have hS : va_S (zA o) s.heap s.heap [] := va_S.rf
  have hl : lv_has ls 5 [(0, .ref (o + x0)), (1, .int x1), (2, .int x2), (3, .int x3)] := hl
  rw [f_X12_row.eq_1] at h
  refine lv_iload_n (pc := 0) hx hb dX12_row_0 rfl (lv_at hl 1 rfl) ?_
  obtain ⟨v1, σ2, hv, h⟩ := zb_some h
  refine xcallSi (pc := 1) (As := [.int x1]) (rest := []) ⟨hx, hb, hml, hown, hts⟩ (c_X12_isSlot l D c o g N hv) zT_X12_448 rfl zd_X12_isSlot ⟨Nat.le_of_ble_eq_true rfl, Nat.le_of_ble_eq_true rfl⟩ hK hP hE hS hl.1 rfl (Nat.le_of_ble_eq_true rfl) ⟨Nat.zero_le _, Nat.zero_le _⟩ dX12_row_1 (fun H locs hP hS => ?_)
  refine lv_if_eq (pc := 4) (tgt := 25) hx hb dX12_row_4 (by decide) (fun c1 => ?_) (fun c1 => ?_)
  · rw [if_pos c1] at h
    refine lv_bipush (pc := 25) (v := (-2)) hx hb dX12_row_25 (by decide) ?_
    exact xreti (pc := 27) hx hb hr hlocks hP hK hE hS h dX12_row_27
  · rw [if_neg c1] at h
    refine lv_iload_n (pc := 7) hx hb dX12_row_7 rfl (lv_at hl 2 rfl) ?_
    refine lv_i2l (pc := 8) hx hb dX12_row_8 rfl ?_
    refine lv_lconst (pc := 9) (v := 0) hx hb dX12_row_9 (by decide) ?_
    refine lv_ldc2 (pc := 10) hx hb hown (hts _ zk_X12_454) dX12_row_10 ?_
    obtain ⟨v3, σ4, hv, h⟩ := zb_some h
    refine xcallSi (pc := 13) (As := [.long (Int32.toInt64 x2), .long 0, .long 3]) (rest := []) ⟨hx, hb, hml, hown, hts⟩ (c_X12_in l D c o g N hv) zT_X12_94 rfl zd_X12_in ⟨Nat.le_of_ble_eq_true rfl, Nat.le_of_ble_eq_true rfl⟩ hK hP hE hS hl.1 rfl (Nat.le_of_ble_eq_true rfl) ⟨Nat.zero_le _, Nat.zero_le _⟩ dX12_row_13 (fun H locs hP hS => ?_)
    refine lv_if_eq (pc := 16) (tgt := 25) hx hb dX12_row_16 (by decide) (fun c1 => ?_) (fun c1 => ?_)
    · rw [if_pos c1] at h
      refine lv_bipush (pc := 25) (v := (-2)) hx hb dX12_row_25 (by decide) ?_
      exact xreti (pc := 27) hx hb hr hlocks hP hK hE hS h dX12_row_27
    · rw [if_neg c1] at h
      refine lv_iload_n (pc := 19) hx hb dX12_row_19 rfl (lv_at hl 3 rfl) ?_
      refine lv_bipush (pc := 20) (v := 60) hx hb dX12_row_20 (by decide) ?_
      refine lv_icmp_le (pc := 22) (tgt := 28) hx hb dX12_row_22 (by decide) (fun c1 => ?_) (fun c1 => ?_)
      · rw [if_pos c1] at h
        refine lv_iload_n (pc := 28) hx hb dX12_row_28 rfl (lv_at hl 3 rfl) ?_
        refine lv_if_ge (pc := 29) (tgt := 35) hx hb dX12_row_29 (by decide) (fun c1 => ?_) (fun c1 => ?_)
        · rw [if_pos c1] at h
          refine lv_aload_n (pc := 35) hx hb dX12_row_35 rfl (lv_at hl 0 rfl) ?_
          obtain ⟨v5, hv, h⟩ := zl_some h
          refine xgR (pc := 36) (j := 35) zc12 hx hb hts hown hK hP hv rfl zf_X12_76 dX12_row_36 ?_
          refine lv_iload_n (pc := 39) hx hb dX12_row_39 rfl (lv_at hl 1 rfl) ?_
          refine lv_iload_n (pc := 40) hx hb dX12_row_40 rfl (lv_at hl 3 rfl) ?_
          obtain ⟨σ6, hv, h⟩ := zl_some h
          refine xsI (pc := 41) hx hb hK hP hS hv dX12_row_41 (fun H locs hP hS => ?_)
          refine lv_aload_n (pc := 42) hx hb dX12_row_42 rfl (lv_at hl 0 rfl) ?_
          obtain ⟨v7, hv, h⟩ := zl_some h
          refine xgR (pc := 43) (j := 36) zc12 hx hb hts hown hK hP hv rfl zf_X12_79 dX12_row_43 ?_
          refine lv_iload_n (pc := 46) hx hb dX12_row_46 rfl (lv_at hl 1 rfl) ?_
          refine lv_iload_n (pc := 47) hx hb dX12_row_47 rfl (lv_at hl 2 rfl) ?_
          obtain ⟨σ8, hv, h⟩ := zl_some h
          refine xsI (pc := 48) hx hb hK hP hS hv dX12_row_48 (fun H locs hP hS => ?_)
          refine lv_iconst (pc := 49) (v := 0) hx hb dX12_row_49 (by decide) ?_
          refine lv_istore (pc := 50) (lv' := [(4, .int 0), (0, .ref (o + x0)), (1, .int x1), (2, .int x2), (3, .int x3)]) hx hb dX12_row_50 hl (by decide) rfl (fun ls hl => ?_)
          have L52_9 : ∀ (n : Nat) (t : Int32 × zS), zlp (F_X12_row_52 N x0 x1) n t = some ρ → ∀ (H : Heap) (locs : List Loc) (ls : Array Slot), zP D c o (zabs o (t.2)) H → va_S (zA o) s.heap H locs → lv_has ls 5 [(4, .int (t.1)), (0, .ref (o + x0)), (1, .int x1)] → W p l e (zr 6) s m (([.ref (o + x0), .int x1, .int x2, .int x3] : List Value).toArray) below meth cd H locs 0 0 (MQ below (zQi D c o g ρ) (([.ref (o + x0), .int x1, .int x2, .int x3] : List Value).toArray) s 0 0 (zA o)) (F0 m 52 ls []) := by
            refine zlp_ind (fun ag9 ih9 t h H locs ls hP hS hl => ?_)
            obtain ⟨x4_9, σ9⟩ := t
            have hP : zP D c o (zabs o σ9) H := hP
            have hl : lv_has ls 5 [(4, .int x4_9), (0, .ref (o + x0)), (1, .int x1)] := hl
            rw [F_X12_row_52.eq_1] at h
            show W p l e (zr 6) s m (([.ref (o + x0), .int x1, .int x2, .int x3] : List Value).toArray) below meth cd H locs 0 0 (MQ below (zQi D c o g ρ) (([.ref (o + x0), .int x1, .int x2, .int x3] : List Value).toArray) s 0 0 (zA o)) (F0 m 52 ls [])
            refine lv_iload (pc := 52) hx hb dX12_row_52 (lv_at hl 0 rfl) ?_
            refine lv_bipush (pc := 54) (v := 60) hx hb dX12_row_54 (by decide) ?_
            refine lv_icmp_ge (pc := 56) (tgt := 78) hx hb dX12_row_56 (by decide) (fun c1 => ?_) (fun c1 => ?_)
            · rw [if_pos c1] at h
              refine lv_iconst (pc := 78) (v := 0) hx hb dX12_row_78 (by decide) ?_
              exact xreti (pc := 79) hx hb hr hlocks hP hK hE hS h dX12_row_79
            · rw [if_neg c1] at h
              refine lv_aload_n (pc := 59) hx hb dX12_row_59 rfl (lv_at hl 1 rfl) ?_
              obtain ⟨v10, hv, h⟩ := zl_some h
              refine xgR (pc := 60) (j := 37) zc12 hx hb hts hown hK hP hv rfl zf_X12_82 dX12_row_60 ?_
              refine lv_bipush (pc := 63) (v := 60) hx hb dX12_row_63 (by decide) ?_
              refine lv_iload_n (pc := 65) hx hb dX12_row_65 rfl (lv_at hl 2 rfl) ?_
              refine lv_imul (pc := 66) hx hb dX12_row_66 ?_
              refine lv_iload (pc := 67) hx hb dX12_row_67 (lv_at hl 0 rfl) ?_
              refine lv_iadd (pc := 69) hx hb dX12_row_69 ?_
              refine lv_lconst (pc := 70) (v := 0) hx hb dX12_row_70 (by decide) ?_
              obtain ⟨σ11, hv, h⟩ := zl_some h
              refine xsJ (pc := 71) hx hb hK hP hS hv dX12_row_71 (fun H locs hP hS => ?_)
              refine lv_iinc (pc := 72) (v := x4_9 + 1) (lv' := [(4, .int (x4_9 + 1)), (0, .ref (o + x0)), (1, .int x1)]) hx hb dX12_row_72 hl (k := 0) rfl rfl (by decide) rfl (fun ls hl => ?_)
              refine lv_goto (pc := 75) (tgt := 52) hx hb dX12_row_75 (by decide) ?_
              exact ih9 (x4_9 + 1, σ11) h _ _ ls hP hS (lv_sub hl [0, 1, 2] rfl)
          exact L52_9 N (0, σ8) h _ _ ls hP hS (lv_sub hl [0, 1, 2] rfl)
        · rw [if_neg c1] at h
          refine lv_bipush (pc := 32) (v := (-3)) hx hb dX12_row_32 (by decide) ?_
          exact xreti (pc := 34) hx hb hr hlocks hP hK hE hS h dX12_row_34
      · rw [if_neg c1] at h
        refine lv_bipush (pc := 25) (v := (-2)) hx hb dX12_row_25 (by decide) ?_
        exact xreti (pc := 27) hx hb hr hlocks hP hK hE hS h dX12_row_27
def f_X12_write (N : Nat) (x0 : Nat) (x1 : Int32) (x2 : Int32) (x3 : Int64) (σ : zS) : Option (Int32 × zS) :=
  zb (f_X12_isSlot N x1 σ) fun v1 σ2 =>
  if v1 = 0 then
    (some ((-2), σ2))
  else
    (zl (gR 12 35 x0 σ2) fun v3 =>
    zl (aI 14 v3 x1 σ2) fun v4 =>
    if v4 = (-1) then
      (some ((-6), σ2))
    else
      (zl (gR 12 35 x0 σ2) fun v5 =>
      zl (aI 14 v5 x1 σ2) fun v6 =>
      zb (f_X12_in N (Int32.toInt64 x2) 0 (Int32.toInt64 (v6 - 1)) σ2) fun v7 σ8 =>
      if v7 = 0 then
        (some ((-7), σ8))
      else
        (zl (gR 12 37 x0 σ8) fun v9 =>
        zl (gR 12 36 x0 σ8) fun v10 =>
        zl (aI 14 v10 x1 σ8) fun v11 =>
        zb (f_X12_cut N x3 v11 σ8) fun v12 σ13 =>
        zl (sJ v9 ((60 * x1) + x2) v12 σ13) fun σ14 =>
        some (0, σ14))))
set_option maxHeartbeats 4000000 in
set_option maxRecDepth 100000 in
theorem c_X12_write (l : Launch) (D : va_G) (c : zC) (o : Nat) (g : zEp) (N : Nat) {x0 : Nat} {x1 : Int32} {x2 : Int32} {x3 : Int64} {σ : zS} {ρ : Int32 × zS} (h : f_X12_write N x0 x1 x2 x3 σ = some ρ) : Met l yX12_write zs_X12_write (zr 6) (va_Pc [.ref (o + x0), .int x1, .int x2, .long x3] (zG D c o g σ)) (zQi D c o g ρ) 0 0 (zA o) := by
  refine zMetG (by decide) (Nat.le_of_ble_eq_true rfl) ?_
  intro p e s m below meth cd ⟨hx, hb, hr, hml, hown, hts, hlocks⟩ hP hK hE ls hl
  have hS : va_S (zA o) s.heap s.heap [] := va_S.rf
  have hl : lv_has ls 5 [(0, .ref (o + x0)), (1, .int x1), (2, .int x2), (3, .long x3)] := hl
  rw [f_X12_write.eq_1] at h
  refine lv_iload_n (pc := 0) hx hb dX12_write_0 rfl (lv_at hl 1 rfl) ?_
  obtain ⟨v1, σ2, hv, h⟩ := zb_some h
  refine xcallSi (pc := 1) (As := [.int x1]) (rest := []) ⟨hx, hb, hml, hown, hts⟩ (c_X12_isSlot l D c o g N hv) zT_X12_448 rfl zd_X12_isSlot ⟨Nat.le_of_ble_eq_true rfl, Nat.le_of_ble_eq_true rfl⟩ hK hP hE hS hl.1 rfl (Nat.le_of_ble_eq_true rfl) ⟨Nat.zero_le _, Nat.zero_le _⟩ dX12_write_1 (fun H locs hP hS => ?_)
  refine lv_if_ne (pc := 4) (tgt := 10) hx hb dX12_write_4 (by decide) (fun c1 => ?_) (fun c1 => ?_)
  · rw [if_neg c1] at h
    refine lv_aload_n (pc := 10) hx hb dX12_write_10 rfl (lv_at hl 0 rfl) ?_
    obtain ⟨v3, hv, h⟩ := zl_some h
    refine xgR (pc := 11) (j := 35) zc12 hx hb hts hown hK hP hv rfl zf_X12_76 dX12_write_11 ?_
    refine lv_iload_n (pc := 14) hx hb dX12_write_14 rfl (lv_at hl 1 rfl) ?_
    obtain ⟨v4, hv, h⟩ := zl_some h
    refine xaI (pc := 15) hx hb hK hP hv dX12_write_15 ?_
    refine lv_iconst (pc := 16) (v := (-1)) hx hb dX12_write_16 (by decide) ?_
    refine lv_icmp_ne (pc := 17) (tgt := 23) hx hb dX12_write_17 (by decide) (fun c1 => ?_) (fun c1 => ?_)
    · rw [if_neg c1] at h
      refine lv_iload_n (pc := 23) hx hb dX12_write_23 rfl (lv_at hl 2 rfl) ?_
      refine lv_i2l (pc := 24) hx hb dX12_write_24 rfl ?_
      refine lv_lconst (pc := 25) (v := 0) hx hb dX12_write_25 (by decide) ?_
      refine lv_aload_n (pc := 26) hx hb dX12_write_26 rfl (lv_at hl 0 rfl) ?_
      obtain ⟨v5, hv, h⟩ := zl_some h
      refine xgR (pc := 27) (j := 35) zc12 hx hb hts hown hK hP hv rfl zf_X12_76 dX12_write_27 ?_
      refine lv_iload_n (pc := 30) hx hb dX12_write_30 rfl (lv_at hl 1 rfl) ?_
      obtain ⟨v6, hv, h⟩ := zl_some h
      refine xaI (pc := 31) hx hb hK hP hv dX12_write_31 ?_
      refine lv_iconst (pc := 32) (v := 1) hx hb dX12_write_32 (by decide) ?_
      refine lv_isub (pc := 33) hx hb dX12_write_33 ?_
      refine lv_i2l (pc := 34) hx hb dX12_write_34 rfl ?_
      obtain ⟨v7, σ8, hv, h⟩ := zb_some h
      refine xcallSi (pc := 35) (As := [.long (Int32.toInt64 x2), .long 0, .long (Int32.toInt64 (v6 - 1))]) (rest := []) ⟨hx, hb, hml, hown, hts⟩ (c_X12_in l D c o g N hv) zT_X12_94 rfl zd_X12_in ⟨Nat.le_of_ble_eq_true rfl, Nat.le_of_ble_eq_true rfl⟩ hK hP hE hS hl.1 rfl (Nat.le_of_ble_eq_true rfl) ⟨Nat.zero_le _, Nat.zero_le _⟩ dX12_write_35 (fun H locs hP hS => ?_)
      refine lv_if_ne (pc := 38) (tgt := 44) hx hb dX12_write_38 (by decide) (fun c1 => ?_) (fun c1 => ?_)
      · rw [if_neg c1] at h
        refine lv_aload_n (pc := 44) hx hb dX12_write_44 rfl (lv_at hl 0 rfl) ?_
        obtain ⟨v9, hv, h⟩ := zl_some h
        refine xgR (pc := 45) (j := 37) zc12 hx hb hts hown hK hP hv rfl zf_X12_82 dX12_write_45 ?_
        refine lv_bipush (pc := 48) (v := 60) hx hb dX12_write_48 (by decide) ?_
        refine lv_iload_n (pc := 50) hx hb dX12_write_50 rfl (lv_at hl 1 rfl) ?_
        refine lv_imul (pc := 51) hx hb dX12_write_51 ?_
        refine lv_iload_n (pc := 52) hx hb dX12_write_52 rfl (lv_at hl 2 rfl) ?_
        refine lv_iadd (pc := 53) hx hb dX12_write_53 ?_
        refine lv_lload_n (pc := 54) hx hb dX12_write_54 rfl (lv_at hl 3 rfl) ?_
        refine lv_aload_n (pc := 55) hx hb dX12_write_55 rfl (lv_at hl 0 rfl) ?_
        obtain ⟨v10, hv, h⟩ := zl_some h
        refine xgR (pc := 56) (j := 36) zc12 hx hb hts hown hK hP hv rfl zf_X12_79 dX12_write_56 ?_
        refine lv_iload_n (pc := 59) hx hb dX12_write_59 rfl (lv_at hl 1 rfl) ?_
        obtain ⟨v11, hv, h⟩ := zl_some h
        refine xaI (pc := 60) hx hb hK hP hv dX12_write_60 ?_
        obtain ⟨v12, σ13, hv, h⟩ := zb_some h
        refine xcallSl (pc := 61) (As := [.long x3, .int v11]) (rest := [.int ((60 * x1) + x2), .ref (o + v9)]) ⟨hx, hb, hml, hown, hts⟩ (c_X12_cut l D c o g N hv) zT_X12_456 rfl zd_X12_cut ⟨Nat.le_of_ble_eq_true rfl, Nat.le_of_ble_eq_true rfl⟩ hK hP hE hS hl.1 rfl (Nat.le_of_ble_eq_true rfl) ⟨Nat.zero_le _, Nat.zero_le _⟩ dX12_write_61 (fun H locs hP hS => ?_)
        obtain ⟨σ14, hv, h⟩ := zl_some h
        refine xsJ (pc := 64) hx hb hK hP hS hv dX12_write_64 (fun H locs hP hS => ?_)
        refine lv_iconst (pc := 65) (v := 0) hx hb dX12_write_65 (by decide) ?_
        exact xreti (pc := 66) hx hb hr hlocks hP hK hE hS h dX12_write_66
      · rw [if_pos c1] at h
        refine lv_bipush (pc := 41) (v := (-7)) hx hb dX12_write_41 (by decide) ?_
        exact xreti (pc := 43) hx hb hr hlocks hP hK hE hS h dX12_write_43
    · rw [if_pos c1] at h
      refine lv_bipush (pc := 20) (v := (-6)) hx hb dX12_write_20 (by decide) ?_
      exact xreti (pc := 22) hx hb hr hlocks hP hK hE hS h dX12_write_22
  · rw [if_pos c1] at h
    refine lv_bipush (pc := 7) (v := (-2)) hx hb dX12_write_7 (by decide) ?_
    exact xreti (pc := 9) hx hb hr hlocks hP hK hE hS h dX12_write_9
def F_X12_paste_150 (N : Nat) (x0 : Nat) (x3 : Int32) (x4 : Int32) (x5 : Int32) (again150 : (Int32 × zS) → Option (Int32 × zS)) : Int32 × zS → Option (Int32 × zS)
  | (x6, σ) =>
  if x5 ≤ x6 then
    (some (0, σ))
  else
    (zl (gR 12 37 x0 σ) fun v17 =>
    zl (gR 12 38 x0 σ) fun v18 =>
    zl (aJ v18 x6 σ) fun v19 =>
    zl (sJ v17 (((60 * x3) + x4) + x6) v19 σ) fun σ20 =>
    again150 (x6 + 1, σ20))
def F_X12_paste_113 (N : Nat) (x0 : Nat) (x1 : Int32) (x2 : Int32) (x3 : Int32) (x4 : Int32) (x5 : Int32) (again113 : (Int32 × zS) → Option (Int32 × zS)) : Int32 × zS → Option (Int32 × zS)
  | (x6, σ) =>
  if x5 ≤ x6 then
    (zlp (F_X12_paste_150 N x0 x3 x4 x5) N (0, σ))
  else
    (zl (gR 12 38 x0 σ) fun v21 =>
    zl (gR 12 37 x0 σ) fun v22 =>
    zl (aJ v22 (((60 * x1) + x2) + x6) σ) fun v23 =>
    zl (sJ v21 x6 v23 σ) fun σ24 =>
    again113 (x6 + 1, σ24))
def f_X12_paste (N : Nat) (x0 : Nat) (x1 : Int32) (x2 : Int32) (x3 : Int32) (x4 : Int32) (x5 : Int32) (σ : zS) : Option (Int32 × zS) :=
  zb (f_X12_isSlot N x1 σ) fun v1 σ2 =>
  if v1 = 0 then
    (some ((-2), σ2))
  else
    (zb (f_X12_isSlot N x3 σ2) fun v3 σ4 =>
    if v3 = 0 then
      (some ((-2), σ4))
    else
      (zl (gR 12 35 x0 σ4) fun v5 =>
      zl (aI 14 v5 x1 σ4) fun v6 =>
      if v6 = (-1) then
        (some ((-6), σ4))
      else
        (zl (gR 12 35 x0 σ4) fun v7 =>
        zl (aI 14 v7 x3 σ4) fun v8 =>
        if v8 = (-1) then
          (some ((-6), σ4))
        else
          (zl (gR 12 36 x0 σ4) fun v9 =>
          zl (aI 14 v9 x1 σ4) fun v10 =>
          zl (gR 12 36 x0 σ4) fun v11 =>
          zl (aI 14 v11 x3 σ4) fun v12 =>
          if v10 = v12 then
            (if x2 < 0 then
              (some ((-7), σ4))
            else
              (if x4 < 0 then
                (some ((-7), σ4))
              else
                (if x5 < 0 then
                  (some ((-7), σ4))
                else
                  (zl (gR 12 35 x0 σ4) fun v13 =>
                  zl (aI 14 v13 x1 σ4) fun v14 =>
                  if 0 < (lg_cmp ((Int32.toInt64 x2) + (Int32.toInt64 x5)) (Int32.toInt64 v14)) then
                    (some ((-7), σ4))
                  else
                    (zl (gR 12 35 x0 σ4) fun v15 =>
                    zl (aI 14 v15 x3 σ4) fun v16 =>
                    if (lg_cmp ((Int32.toInt64 x4) + (Int32.toInt64 x5)) (Int32.toInt64 v16)) ≤ 0 then
                      (zlp (F_X12_paste_113 N x0 x1 x2 x3 x4 x5) N (0, σ4))
                    else
                      (some ((-7), σ4)))))))
          else
            (some ((-8), σ4))))))
set_option maxHeartbeats 4000000 in
set_option maxRecDepth 100000 in
theorem c_X12_paste (l : Launch) (D : va_G) (c : zC) (o : Nat) (g : zEp) (N : Nat) {x0 : Nat} {x1 : Int32} {x2 : Int32} {x3 : Int32} {x4 : Int32} {x5 : Int32} {σ : zS} {ρ : Int32 × zS} (h : f_X12_paste N x0 x1 x2 x3 x4 x5 σ = some ρ) : Met l yX12_paste zs_X12_paste (zr 6) (va_Pc [.ref (o + x0), .int x1, .int x2, .int x3, .int x4, .int x5] (zG D c o g σ)) (zQi D c o g ρ) 0 0 (zA o) := by
  refine zMetG (by decide) (Nat.le_of_ble_eq_true rfl) ?_
  intro p e s m below meth cd ⟨hx, hb, hr, hml, hown, hts, hlocks⟩ hP hK hE ls hl
  have hS : va_S (zA o) s.heap s.heap [] := va_S.rf
  have hl : lv_has ls 7 [(0, .ref (o + x0)), (1, .int x1), (2, .int x2), (3, .int x3), (4, .int x4), (5, .int x5)] := hl
  rw [f_X12_paste.eq_1] at h
  refine lv_iload_n (pc := 0) hx hb dX12_paste_0 rfl (lv_at hl 1 rfl) ?_
  obtain ⟨v1, σ2, hv, h⟩ := zb_some h
  refine xcallSi (pc := 1) (As := [.int x1]) (rest := []) ⟨hx, hb, hml, hown, hts⟩ (c_X12_isSlot l D c o g N hv) zT_X12_448 rfl zd_X12_isSlot ⟨Nat.le_of_ble_eq_true rfl, Nat.le_of_ble_eq_true rfl⟩ hK hP hE hS hl.1 rfl (Nat.le_of_ble_eq_true rfl) ⟨Nat.zero_le _, Nat.zero_le _⟩ dX12_paste_1 (fun H locs hP hS => ?_)
  refine lv_if_eq (pc := 4) (tgt := 14) hx hb dX12_paste_4 (by decide) (fun c1 => ?_) (fun c1 => ?_)
  · rw [if_pos c1] at h
    refine lv_bipush (pc := 14) (v := (-2)) hx hb dX12_paste_14 (by decide) ?_
    exact xreti (pc := 16) hx hb hr hlocks hP hK hE hS h dX12_paste_16
  · rw [if_neg c1] at h
    refine lv_iload_n (pc := 7) hx hb dX12_paste_7 rfl (lv_at hl 3 rfl) ?_
    obtain ⟨v3, σ4, hv, h⟩ := zb_some h
    refine xcallSi (pc := 8) (As := [.int x3]) (rest := []) ⟨hx, hb, hml, hown, hts⟩ (c_X12_isSlot l D c o g N hv) zT_X12_448 rfl zd_X12_isSlot ⟨Nat.le_of_ble_eq_true rfl, Nat.le_of_ble_eq_true rfl⟩ hK hP hE hS hl.1 rfl (Nat.le_of_ble_eq_true rfl) ⟨Nat.zero_le _, Nat.zero_le _⟩ dX12_paste_8 (fun H locs hP hS => ?_)
    refine lv_if_ne (pc := 11) (tgt := 17) hx hb dX12_paste_11 (by decide) (fun c1 => ?_) (fun c1 => ?_)
    · rw [if_neg c1] at h
      refine lv_aload_n (pc := 17) hx hb dX12_paste_17 rfl (lv_at hl 0 rfl) ?_
      obtain ⟨v5, hv, h⟩ := zl_some h
      refine xgR (pc := 18) (j := 35) zc12 hx hb hts hown hK hP hv rfl zf_X12_76 dX12_paste_18 ?_
      refine lv_iload_n (pc := 21) hx hb dX12_paste_21 rfl (lv_at hl 1 rfl) ?_
      obtain ⟨v6, hv, h⟩ := zl_some h
      refine xaI (pc := 22) hx hb hK hP hv dX12_paste_22 ?_
      refine lv_iconst (pc := 23) (v := (-1)) hx hb dX12_paste_23 (by decide) ?_
      refine lv_icmp_eq (pc := 24) (tgt := 37) hx hb dX12_paste_24 (by decide) (fun c1 => ?_) (fun c1 => ?_)
      · rw [if_pos c1] at h
        refine lv_bipush (pc := 37) (v := (-6)) hx hb dX12_paste_37 (by decide) ?_
        exact xreti (pc := 39) hx hb hr hlocks hP hK hE hS h dX12_paste_39
      · rw [if_neg c1] at h
        refine lv_aload_n (pc := 27) hx hb dX12_paste_27 rfl (lv_at hl 0 rfl) ?_
        obtain ⟨v7, hv, h⟩ := zl_some h
        refine xgR (pc := 28) (j := 35) zc12 hx hb hts hown hK hP hv rfl zf_X12_76 dX12_paste_28 ?_
        refine lv_iload_n (pc := 31) hx hb dX12_paste_31 rfl (lv_at hl 3 rfl) ?_
        obtain ⟨v8, hv, h⟩ := zl_some h
        refine xaI (pc := 32) hx hb hK hP hv dX12_paste_32 ?_
        refine lv_iconst (pc := 33) (v := (-1)) hx hb dX12_paste_33 (by decide) ?_
        refine lv_icmp_ne (pc := 34) (tgt := 40) hx hb dX12_paste_34 (by decide) (fun c1 => ?_) (fun c1 => ?_)
        · rw [if_neg c1] at h
          refine lv_aload_n (pc := 40) hx hb dX12_paste_40 rfl (lv_at hl 0 rfl) ?_
          obtain ⟨v9, hv, h⟩ := zl_some h
          refine xgR (pc := 41) (j := 36) zc12 hx hb hts hown hK hP hv rfl zf_X12_79 dX12_paste_41 ?_
          refine lv_iload_n (pc := 44) hx hb dX12_paste_44 rfl (lv_at hl 1 rfl) ?_
          obtain ⟨v10, hv, h⟩ := zl_some h
          refine xaI (pc := 45) hx hb hK hP hv dX12_paste_45 ?_
          refine lv_aload_n (pc := 46) hx hb dX12_paste_46 rfl (lv_at hl 0 rfl) ?_
          obtain ⟨v11, hv, h⟩ := zl_some h
          refine xgR (pc := 47) (j := 36) zc12 hx hb hts hown hK hP hv rfl zf_X12_79 dX12_paste_47 ?_
          refine lv_iload_n (pc := 50) hx hb dX12_paste_50 rfl (lv_at hl 3 rfl) ?_
          obtain ⟨v12, hv, h⟩ := zl_some h
          refine xaI (pc := 51) hx hb hK hP hv dX12_paste_51 ?_
          refine lv_icmp_eq (pc := 52) (tgt := 58) hx hb dX12_paste_52 (by decide) (fun c1 => ?_) (fun c1 => ?_)
          · rw [if_pos c1] at h
            refine lv_iload_n (pc := 58) hx hb dX12_paste_58 rfl (lv_at hl 2 rfl) ?_
            refine lv_if_lt (pc := 59) (tgt := 107) hx hb dX12_paste_59 (by decide) (fun c1 => ?_) (fun c1 => ?_)
            · rw [if_pos c1] at h
              refine lv_bipush (pc := 107) (v := (-7)) hx hb dX12_paste_107 (by decide) ?_
              exact xreti (pc := 109) hx hb hr hlocks hP hK hE hS h dX12_paste_109
            · rw [if_neg c1] at h
              refine lv_iload (pc := 62) hx hb dX12_paste_62 (lv_at hl 4 rfl) ?_
              refine lv_if_lt (pc := 64) (tgt := 107) hx hb dX12_paste_64 (by decide) (fun c1 => ?_) (fun c1 => ?_)
              · rw [if_pos c1] at h
                refine lv_bipush (pc := 107) (v := (-7)) hx hb dX12_paste_107 (by decide) ?_
                exact xreti (pc := 109) hx hb hr hlocks hP hK hE hS h dX12_paste_109
              · rw [if_neg c1] at h
                refine lv_iload (pc := 67) hx hb dX12_paste_67 (lv_at hl 5 rfl) ?_
                refine lv_if_lt (pc := 69) (tgt := 107) hx hb dX12_paste_69 (by decide) (fun c1 => ?_) (fun c1 => ?_)
                · rw [if_pos c1] at h
                  refine lv_bipush (pc := 107) (v := (-7)) hx hb dX12_paste_107 (by decide) ?_
                  exact xreti (pc := 109) hx hb hr hlocks hP hK hE hS h dX12_paste_109
                · rw [if_neg c1] at h
                  refine lv_iload_n (pc := 72) hx hb dX12_paste_72 rfl (lv_at hl 2 rfl) ?_
                  refine lv_i2l (pc := 73) hx hb dX12_paste_73 rfl ?_
                  refine lv_iload (pc := 74) hx hb dX12_paste_74 (lv_at hl 5 rfl) ?_
                  refine lv_i2l (pc := 76) hx hb dX12_paste_76 rfl ?_
                  refine lv_ladd (pc := 77) hx hb dX12_paste_77 ?_
                  refine lv_aload_n (pc := 78) hx hb dX12_paste_78 rfl (lv_at hl 0 rfl) ?_
                  obtain ⟨v13, hv, h⟩ := zl_some h
                  refine xgR (pc := 79) (j := 35) zc12 hx hb hts hown hK hP hv rfl zf_X12_76 dX12_paste_79 ?_
                  refine lv_iload_n (pc := 82) hx hb dX12_paste_82 rfl (lv_at hl 1 rfl) ?_
                  obtain ⟨v14, hv, h⟩ := zl_some h
                  refine xaI (pc := 83) hx hb hK hP hv dX12_paste_83 ?_
                  refine lv_i2l (pc := 84) hx hb dX12_paste_84 rfl ?_
                  refine W.lcmp (pc := 85) hx hb dX12_paste_85 ?_
                  refine lv_if_gt (pc := 86) (tgt := 107) hx hb dX12_paste_86 (by decide) (fun c1 => ?_) (fun c1 => ?_)
                  · rw [if_pos c1] at h
                    refine lv_bipush (pc := 107) (v := (-7)) hx hb dX12_paste_107 (by decide) ?_
                    exact xreti (pc := 109) hx hb hr hlocks hP hK hE hS h dX12_paste_109
                  · rw [if_neg c1] at h
                    refine lv_iload (pc := 89) hx hb dX12_paste_89 (lv_at hl 4 rfl) ?_
                    refine lv_i2l (pc := 91) hx hb dX12_paste_91 rfl ?_
                    refine lv_iload (pc := 92) hx hb dX12_paste_92 (lv_at hl 5 rfl) ?_
                    refine lv_i2l (pc := 94) hx hb dX12_paste_94 rfl ?_
                    refine lv_ladd (pc := 95) hx hb dX12_paste_95 ?_
                    refine lv_aload_n (pc := 96) hx hb dX12_paste_96 rfl (lv_at hl 0 rfl) ?_
                    obtain ⟨v15, hv, h⟩ := zl_some h
                    refine xgR (pc := 97) (j := 35) zc12 hx hb hts hown hK hP hv rfl zf_X12_76 dX12_paste_97 ?_
                    refine lv_iload_n (pc := 100) hx hb dX12_paste_100 rfl (lv_at hl 3 rfl) ?_
                    obtain ⟨v16, hv, h⟩ := zl_some h
                    refine xaI (pc := 101) hx hb hK hP hv dX12_paste_101 ?_
                    refine lv_i2l (pc := 102) hx hb dX12_paste_102 rfl ?_
                    refine W.lcmp (pc := 103) hx hb dX12_paste_103 ?_
                    refine lv_if_le (pc := 104) (tgt := 110) hx hb dX12_paste_104 (by decide) (fun c1 => ?_) (fun c1 => ?_)
                    · rw [if_pos c1] at h
                      refine lv_iconst (pc := 110) (v := 0) hx hb dX12_paste_110 (by decide) ?_
                      refine lv_istore (pc := 111) (lv' := [(6, .int 0), (0, .ref (o + x0)), (1, .int x1), (2, .int x2), (3, .int x3), (4, .int x4), (5, .int x5)]) hx hb dX12_paste_111 hl (by decide) rfl (fun ls hl => ?_)
                      have L113_17 : ∀ (n : Nat) (t : Int32 × zS), zlp (F_X12_paste_113 N x0 x1 x2 x3 x4 x5) n t = some ρ → ∀ (H : Heap) (locs : List Loc) (ls : Array Slot), zP D c o (zabs o (t.2)) H → va_S (zA o) s.heap H locs → lv_has ls 7 [(6, .int (t.1)), (0, .ref (o + x0)), (1, .int x1), (2, .int x2), (3, .int x3), (4, .int x4), (5, .int x5)] → W p l e (zr 6) s m (([.ref (o + x0), .int x1, .int x2, .int x3, .int x4, .int x5] : List Value).toArray) below meth cd H locs 0 0 (MQ below (zQi D c o g ρ) (([.ref (o + x0), .int x1, .int x2, .int x3, .int x4, .int x5] : List Value).toArray) s 0 0 (zA o)) (F0 m 113 ls []) := by
                        refine zlp_ind (fun ag17 ih17 t h H locs ls hP hS hl => ?_)
                        obtain ⟨x6_17, σ17⟩ := t
                        have hP : zP D c o (zabs o σ17) H := hP
                        have hl : lv_has ls 7 [(6, .int x6_17), (0, .ref (o + x0)), (1, .int x1), (2, .int x2), (3, .int x3), (4, .int x4), (5, .int x5)] := hl
                        rw [F_X12_paste_113.eq_1] at h
                        show W p l e (zr 6) s m (([.ref (o + x0), .int x1, .int x2, .int x3, .int x4, .int x5] : List Value).toArray) below meth cd H locs 0 0 (MQ below (zQi D c o g ρ) (([.ref (o + x0), .int x1, .int x2, .int x3, .int x4, .int x5] : List Value).toArray) s 0 0 (zA o)) (F0 m 113 ls [])
                        refine lv_iload (pc := 113) hx hb dX12_paste_113 (lv_at hl 0 rfl) ?_
                        refine lv_iload (pc := 115) hx hb dX12_paste_115 (lv_at hl 6 rfl) ?_
                        refine lv_icmp_ge (pc := 117) (tgt := 147) hx hb dX12_paste_117 (by decide) (fun c1 => ?_) (fun c1 => ?_)
                        · rw [if_pos c1] at h
                          refine lv_iconst (pc := 147) (v := 0) hx hb dX12_paste_147 (by decide) ?_
                          refine lv_istore (pc := 148) (lv' := [(6, .int 0), (0, .ref (o + x0)), (1, .int x1), (2, .int x2), (3, .int x3), (4, .int x4), (5, .int x5)]) hx hb dX12_paste_148 hl (by decide) rfl (fun ls hl => ?_)
                          have L150_18 : ∀ (n : Nat) (t : Int32 × zS), zlp (F_X12_paste_150 N x0 x3 x4 x5) n t = some ρ → ∀ (H : Heap) (locs : List Loc) (ls : Array Slot), zP D c o (zabs o (t.2)) H → va_S (zA o) s.heap H locs → lv_has ls 7 [(6, .int (t.1)), (0, .ref (o + x0)), (3, .int x3), (4, .int x4), (5, .int x5)] → W p l e (zr 6) s m (([.ref (o + x0), .int x1, .int x2, .int x3, .int x4, .int x5] : List Value).toArray) below meth cd H locs 0 0 (MQ below (zQi D c o g ρ) (([.ref (o + x0), .int x1, .int x2, .int x3, .int x4, .int x5] : List Value).toArray) s 0 0 (zA o)) (F0 m 150 ls []) := by
                            refine zlp_ind (fun ag18 ih18 t h H locs ls hP hS hl => ?_)
                            obtain ⟨x6_18, σ18⟩ := t
                            have hP : zP D c o (zabs o σ18) H := hP
                            have hl : lv_has ls 7 [(6, .int x6_18), (0, .ref (o + x0)), (3, .int x3), (4, .int x4), (5, .int x5)] := hl
                            rw [F_X12_paste_150.eq_1] at h
                            show W p l e (zr 6) s m (([.ref (o + x0), .int x1, .int x2, .int x3, .int x4, .int x5] : List Value).toArray) below meth cd H locs 0 0 (MQ below (zQi D c o g ρ) (([.ref (o + x0), .int x1, .int x2, .int x3, .int x4, .int x5] : List Value).toArray) s 0 0 (zA o)) (F0 m 150 ls [])
                            refine lv_iload (pc := 150) hx hb dX12_paste_150 (lv_at hl 0 rfl) ?_
                            refine lv_iload (pc := 152) hx hb dX12_paste_152 (lv_at hl 4 rfl) ?_
                            refine lv_icmp_ge (pc := 154) (tgt := 185) hx hb dX12_paste_154 (by decide) (fun c1 => ?_) (fun c1 => ?_)
                            · rw [if_pos c1] at h
                              refine lv_iconst (pc := 185) (v := 0) hx hb dX12_paste_185 (by decide) ?_
                              exact xreti (pc := 186) hx hb hr hlocks hP hK hE hS h dX12_paste_186
                            · rw [if_neg c1] at h
                              refine lv_aload_n (pc := 157) hx hb dX12_paste_157 rfl (lv_at hl 1 rfl) ?_
                              obtain ⟨v19, hv, h⟩ := zl_some h
                              refine xgR (pc := 158) (j := 37) zc12 hx hb hts hown hK hP hv rfl zf_X12_82 dX12_paste_158 ?_
                              refine lv_bipush (pc := 161) (v := 60) hx hb dX12_paste_161 (by decide) ?_
                              refine lv_iload_n (pc := 163) hx hb dX12_paste_163 rfl (lv_at hl 2 rfl) ?_
                              refine lv_imul (pc := 164) hx hb dX12_paste_164 ?_
                              refine lv_iload (pc := 165) hx hb dX12_paste_165 (lv_at hl 3 rfl) ?_
                              refine lv_iadd (pc := 167) hx hb dX12_paste_167 ?_
                              refine lv_iload (pc := 168) hx hb dX12_paste_168 (lv_at hl 0 rfl) ?_
                              refine lv_iadd (pc := 170) hx hb dX12_paste_170 ?_
                              refine lv_aload_n (pc := 171) hx hb dX12_paste_171 rfl (lv_at hl 1 rfl) ?_
                              obtain ⟨v20, hv, h⟩ := zl_some h
                              refine xgR (pc := 172) (j := 38) zc12 hx hb hts hown hK hP hv rfl zf_X12_86 dX12_paste_172 ?_
                              refine lv_iload (pc := 175) hx hb dX12_paste_175 (lv_at hl 0 rfl) ?_
                              obtain ⟨v21, hv, h⟩ := zl_some h
                              refine xaJ (pc := 177) hx hb hK hP hv dX12_paste_177 ?_
                              obtain ⟨σ22, hv, h⟩ := zl_some h
                              refine xsJ (pc := 178) hx hb hK hP hS hv dX12_paste_178 (fun H locs hP hS => ?_)
                              refine lv_iinc (pc := 179) (v := x6_18 + 1) (lv' := [(6, .int (x6_18 + 1)), (0, .ref (o + x0)), (3, .int x3), (4, .int x4), (5, .int x5)]) hx hb dX12_paste_179 hl (k := 0) rfl rfl (by decide) rfl (fun ls hl => ?_)
                              refine lv_goto (pc := 182) (tgt := 150) hx hb dX12_paste_182 (by decide) ?_
                              exact ih18 (x6_18 + 1, σ22) h _ _ ls hP hS (lv_sub hl [0, 1, 2, 3, 4] rfl)
                          exact L150_18 N (0, σ17) h _ _ ls hP hS (lv_sub hl [0, 1, 4, 5, 6] rfl)
                        · rw [if_neg c1] at h
                          refine lv_aload_n (pc := 120) hx hb dX12_paste_120 rfl (lv_at hl 1 rfl) ?_
                          obtain ⟨v23, hv, h⟩ := zl_some h
                          refine xgR (pc := 121) (j := 38) zc12 hx hb hts hown hK hP hv rfl zf_X12_86 dX12_paste_121 ?_
                          refine lv_iload (pc := 124) hx hb dX12_paste_124 (lv_at hl 0 rfl) ?_
                          refine lv_aload_n (pc := 126) hx hb dX12_paste_126 rfl (lv_at hl 1 rfl) ?_
                          obtain ⟨v24, hv, h⟩ := zl_some h
                          refine xgR (pc := 127) (j := 37) zc12 hx hb hts hown hK hP hv rfl zf_X12_82 dX12_paste_127 ?_
                          refine lv_bipush (pc := 130) (v := 60) hx hb dX12_paste_130 (by decide) ?_
                          refine lv_iload_n (pc := 132) hx hb dX12_paste_132 rfl (lv_at hl 2 rfl) ?_
                          refine lv_imul (pc := 133) hx hb dX12_paste_133 ?_
                          refine lv_iload_n (pc := 134) hx hb dX12_paste_134 rfl (lv_at hl 3 rfl) ?_
                          refine lv_iadd (pc := 135) hx hb dX12_paste_135 ?_
                          refine lv_iload (pc := 136) hx hb dX12_paste_136 (lv_at hl 0 rfl) ?_
                          refine lv_iadd (pc := 138) hx hb dX12_paste_138 ?_
                          obtain ⟨v25, hv, h⟩ := zl_some h
                          refine xaJ (pc := 139) hx hb hK hP hv dX12_paste_139 ?_
                          obtain ⟨σ26, hv, h⟩ := zl_some h
                          refine xsJ (pc := 140) hx hb hK hP hS hv dX12_paste_140 (fun H locs hP hS => ?_)
                          refine lv_iinc (pc := 141) (v := x6_17 + 1) (lv' := [(6, .int (x6_17 + 1)), (0, .ref (o + x0)), (1, .int x1), (2, .int x2), (3, .int x3), (4, .int x4), (5, .int x5)]) hx hb dX12_paste_141 hl (k := 0) rfl rfl (by decide) rfl (fun ls hl => ?_)
                          refine lv_goto (pc := 144) (tgt := 113) hx hb dX12_paste_144 (by decide) ?_
                          exact ih17 (x6_17 + 1, σ26) h _ _ ls hP hS (lv_sub hl [0, 1, 2, 3, 4, 5, 6] rfl)
                      exact L113_17 N (0, σ4) h _ _ ls hP hS (lv_sub hl [0, 1, 2, 3, 4, 5, 6] rfl)
                    · rw [if_neg c1] at h
                      refine lv_bipush (pc := 107) (v := (-7)) hx hb dX12_paste_107 (by decide) ?_
                      exact xreti (pc := 109) hx hb hr hlocks hP hK hE hS h dX12_paste_109
          · rw [if_neg c1] at h
            refine lv_bipush (pc := 55) (v := (-8)) hx hb dX12_paste_55 (by decide) ?_
            exact xreti (pc := 57) hx hb hr hlocks hP hK hE hS h dX12_paste_57
        · rw [if_pos c1] at h
          refine lv_bipush (pc := 37) (v := (-6)) hx hb dX12_paste_37 (by decide) ?_
          exact xreti (pc := 39) hx hb hr hlocks hP hK hE hS h dX12_paste_39
    · rw [if_pos c1] at h
      refine lv_bipush (pc := 14) (v := (-2)) hx hb dX12_paste_14 (by decide) ?_
      exact xreti (pc := 16) hx hb hr hlocks hP hK hE hS h dX12_paste_16

def F_X2_cutBy_2 (N : Nat) (x0 : Nat) (x1 : Nat) (again2 : (Int32 × zS) → Option (Unit × zS)) : Int32 × zS → Option (Unit × zS)
  | (x2, σ) =>
  if 16 ≤ x2 then
    (some ((), σ))
  else
    (zl (gR 2 0 x0 σ) fun v1 =>
    zl (aJ v1 x2 σ) fun v2 =>
    zl (gR 2 0 x1 σ) fun v3 =>
    zl (aJ v3 x2 σ) fun v4 =>
    zl (sJ v1 x2 (v2 &&& v4) σ) fun σ5 =>
    again2 (x2 + 1, σ5))
def f_X2_cutBy (N : Nat) (x0 : Nat) (x1 : Nat) (σ : zS) : Option (Unit × zS) :=
  zlp (F_X2_cutBy_2 N x0 x1) N (0, σ)
set_option maxHeartbeats 4000000 in
set_option maxRecDepth 100000 in
theorem c_X2_cutBy (l : Launch) (D : va_G) (c : zC) (o : Nat) (g : zEp) (N : Nat) {x0 : Nat} {x1 : Nat} {σ : zS} {ρ : Unit × zS} (h : f_X2_cutBy N x0 x1 σ = some ρ) : Met l yX2_cutBy zs_X2_cutBy (zr 2) (va_Pc [.ref (o + x0), .ref (o + x1)] (zG D c o g σ)) (zQu D c o g ρ) 0 0 (zA o) := by
  refine zMetG (by decide) (Nat.le_of_ble_eq_true rfl) ?_
  intro p e s m below meth cd ⟨hx, hb, hr, hml, hown, hts, hlocks⟩ hP hK hE ls hl
  have hS : va_S (zA o) s.heap s.heap [] := va_S.rf
  have hl : lv_has ls 3 [(0, .ref (o + x0)), (1, .ref (o + x1))] := hl
  rw [f_X2_cutBy.eq_1] at h
  refine lv_iconst (pc := 0) (v := 0) hx hb dX2_cutBy_0 (by decide) ?_
  refine lv_istore_n (pc := 1) (lv' := [(2, .int 0), (0, .ref (o + x0)), (1, .ref (o + x1))]) hx hb dX2_cutBy_1 rfl hl (by decide) rfl (fun ls hl => ?_)
  have L2_1 : ∀ (n : Nat) (t : Int32 × zS), zlp (F_X2_cutBy_2 N x0 x1) n t = some ρ → ∀ (H : Heap) (locs : List Loc) (ls : Array Slot), zP D c o (zabs o (t.2)) H → va_S (zA o) s.heap H locs → lv_has ls 3 [(2, .int (t.1)), (0, .ref (o + x0)), (1, .ref (o + x1))] → W p l e (zr 2) s m (([.ref (o + x0), .ref (o + x1)] : List Value).toArray) below meth cd H locs 0 0 (MQ below (zQu D c o g ρ) (([.ref (o + x0), .ref (o + x1)] : List Value).toArray) s 0 0 (zA o)) (F0 m 2 ls []) := by
    refine zlp_ind (fun ag1 ih1 t h H locs ls hP hS hl => ?_)
    obtain ⟨x2_1, σ1⟩ := t
    have hP : zP D c o (zabs o σ1) H := hP
    have hl : lv_has ls 3 [(2, .int x2_1), (0, .ref (o + x0)), (1, .ref (o + x1))] := hl
    rw [F_X2_cutBy_2.eq_1] at h
    show W p l e (zr 2) s m (([.ref (o + x0), .ref (o + x1)] : List Value).toArray) below meth cd H locs 0 0 (MQ below (zQu D c o g ρ) (([.ref (o + x0), .ref (o + x1)] : List Value).toArray) s 0 0 (zA o)) (F0 m 2 ls [])
    refine lv_iload_n (pc := 2) hx hb dX2_cutBy_2 rfl (lv_at hl 0 rfl) ?_
    refine lv_bipush (pc := 3) (v := 16) hx hb dX2_cutBy_3 (by decide) ?_
    refine lv_icmp_ge (pc := 5) (tgt := 29) hx hb dX2_cutBy_5 (by decide) (fun c1 => ?_) (fun c1 => ?_)
    · rw [if_pos c1] at h
      exact xretv (pc := 29) hx hb hr hlocks hP hK hE hS h dX2_cutBy_29
    · rw [if_neg c1] at h
      refine lv_aload_n (pc := 8) hx hb dX2_cutBy_8 rfl (lv_at hl 1 rfl) ?_
      obtain ⟨v2, hv, h⟩ := zl_some h
      refine xgR (pc := 9) (j := 0) zc2 hx hb hts hown hK hP hv rfl zf_X2_11 dX2_cutBy_9 ?_
      refine lv_iload_n (pc := 12) hx hb dX2_cutBy_12 rfl (lv_at hl 0 rfl) ?_
      refine lv_dup2_11 (pc := 13) hx hb dX2_cutBy_13 rfl rfl ?_
      obtain ⟨v3, hv, h⟩ := zl_some h
      refine xaJ (pc := 14) hx hb hK hP hv dX2_cutBy_14 ?_
      refine lv_aload_n (pc := 15) hx hb dX2_cutBy_15 rfl (lv_at hl 2 rfl) ?_
      obtain ⟨v4, hv, h⟩ := zl_some h
      refine xgR (pc := 16) (j := 0) zc2 hx hb hts hown hK hP hv rfl zf_X2_11 dX2_cutBy_16 ?_
      refine lv_iload_n (pc := 19) hx hb dX2_cutBy_19 rfl (lv_at hl 0 rfl) ?_
      obtain ⟨v5, hv, h⟩ := zl_some h
      refine xaJ (pc := 20) hx hb hK hP hv dX2_cutBy_20 ?_
      refine lv_land (pc := 21) hx hb dX2_cutBy_21 ?_
      obtain ⟨σ6, hv, h⟩ := zl_some h
      refine xsJ (pc := 22) hx hb hK hP hS hv dX2_cutBy_22 (fun H locs hP hS => ?_)
      refine lv_iinc (pc := 23) (v := x2_1 + 1) (lv' := [(2, .int (x2_1 + 1)), (0, .ref (o + x0)), (1, .ref (o + x1))]) hx hb dX2_cutBy_23 hl (k := 0) rfl rfl (by decide) rfl (fun ls hl => ?_)
      refine lv_goto (pc := 26) (tgt := 2) hx hb dX2_cutBy_26 (by decide) ?_
      exact ih1 (x2_1 + 1, σ6) h _ _ ls hP hS (lv_sub hl [0, 1, 2] rfl)
  exact L2_1 N (0, σ) h _ _ ls hP hS (lv_sub hl [0, 1, 2] rfl)
def F_X2_join_2 (N : Nat) (x0 : Nat) (x1 : Nat) (again2 : (Int32 × zS) → Option (Unit × zS)) : Int32 × zS → Option (Unit × zS)
  | (x2, σ) =>
  if 16 ≤ x2 then
    (some ((), σ))
  else
    (zl (gR 2 0 x0 σ) fun v1 =>
    zl (aJ v1 x2 σ) fun v2 =>
    zl (gR 2 0 x1 σ) fun v3 =>
    zl (aJ v3 x2 σ) fun v4 =>
    zl (sJ v1 x2 (v2 ||| v4) σ) fun σ5 =>
    again2 (x2 + 1, σ5))
def f_X2_join (N : Nat) (x0 : Nat) (x1 : Nat) (σ : zS) : Option (Unit × zS) :=
  zlp (F_X2_join_2 N x0 x1) N (0, σ)
set_option maxHeartbeats 4000000 in
set_option maxRecDepth 100000 in
theorem c_X2_join (l : Launch) (D : va_G) (c : zC) (o : Nat) (g : zEp) (N : Nat) {x0 : Nat} {x1 : Nat} {σ : zS} {ρ : Unit × zS} (h : f_X2_join N x0 x1 σ = some ρ) : Met l yX2_join zs_X2_join (zr 2) (va_Pc [.ref (o + x0), .ref (o + x1)] (zG D c o g σ)) (zQu D c o g ρ) 0 0 (zA o) := by
  refine zMetG (by decide) (Nat.le_of_ble_eq_true rfl) ?_
  intro p e s m below meth cd ⟨hx, hb, hr, hml, hown, hts, hlocks⟩ hP hK hE ls hl
  have hS : va_S (zA o) s.heap s.heap [] := va_S.rf
  have hl : lv_has ls 3 [(0, .ref (o + x0)), (1, .ref (o + x1))] := hl
  rw [f_X2_join.eq_1] at h
  refine lv_iconst (pc := 0) (v := 0) hx hb dX2_join_0 (by decide) ?_
  refine lv_istore_n (pc := 1) (lv' := [(2, .int 0), (0, .ref (o + x0)), (1, .ref (o + x1))]) hx hb dX2_join_1 rfl hl (by decide) rfl (fun ls hl => ?_)
  have L2_1 : ∀ (n : Nat) (t : Int32 × zS), zlp (F_X2_join_2 N x0 x1) n t = some ρ → ∀ (H : Heap) (locs : List Loc) (ls : Array Slot), zP D c o (zabs o (t.2)) H → va_S (zA o) s.heap H locs → lv_has ls 3 [(2, .int (t.1)), (0, .ref (o + x0)), (1, .ref (o + x1))] → W p l e (zr 2) s m (([.ref (o + x0), .ref (o + x1)] : List Value).toArray) below meth cd H locs 0 0 (MQ below (zQu D c o g ρ) (([.ref (o + x0), .ref (o + x1)] : List Value).toArray) s 0 0 (zA o)) (F0 m 2 ls []) := by
    refine zlp_ind (fun ag1 ih1 t h H locs ls hP hS hl => ?_)
    obtain ⟨x2_1, σ1⟩ := t
    have hP : zP D c o (zabs o σ1) H := hP
    have hl : lv_has ls 3 [(2, .int x2_1), (0, .ref (o + x0)), (1, .ref (o + x1))] := hl
    rw [F_X2_join_2.eq_1] at h
    show W p l e (zr 2) s m (([.ref (o + x0), .ref (o + x1)] : List Value).toArray) below meth cd H locs 0 0 (MQ below (zQu D c o g ρ) (([.ref (o + x0), .ref (o + x1)] : List Value).toArray) s 0 0 (zA o)) (F0 m 2 ls [])
    refine lv_iload_n (pc := 2) hx hb dX2_join_2 rfl (lv_at hl 0 rfl) ?_
    refine lv_bipush (pc := 3) (v := 16) hx hb dX2_join_3 (by decide) ?_
    refine lv_icmp_ge (pc := 5) (tgt := 29) hx hb dX2_join_5 (by decide) (fun c1 => ?_) (fun c1 => ?_)
    · rw [if_pos c1] at h
      exact xretv (pc := 29) hx hb hr hlocks hP hK hE hS h dX2_join_29
    · rw [if_neg c1] at h
      refine lv_aload_n (pc := 8) hx hb dX2_join_8 rfl (lv_at hl 1 rfl) ?_
      obtain ⟨v2, hv, h⟩ := zl_some h
      refine xgR (pc := 9) (j := 0) zc2 hx hb hts hown hK hP hv rfl zf_X2_11 dX2_join_9 ?_
      refine lv_iload_n (pc := 12) hx hb dX2_join_12 rfl (lv_at hl 0 rfl) ?_
      refine lv_dup2_11 (pc := 13) hx hb dX2_join_13 rfl rfl ?_
      obtain ⟨v3, hv, h⟩ := zl_some h
      refine xaJ (pc := 14) hx hb hK hP hv dX2_join_14 ?_
      refine lv_aload_n (pc := 15) hx hb dX2_join_15 rfl (lv_at hl 2 rfl) ?_
      obtain ⟨v4, hv, h⟩ := zl_some h
      refine xgR (pc := 16) (j := 0) zc2 hx hb hts hown hK hP hv rfl zf_X2_11 dX2_join_16 ?_
      refine lv_iload_n (pc := 19) hx hb dX2_join_19 rfl (lv_at hl 0 rfl) ?_
      obtain ⟨v5, hv, h⟩ := zl_some h
      refine xaJ (pc := 20) hx hb hK hP hv dX2_join_20 ?_
      refine lv_lor (pc := 21) hx hb dX2_join_21 ?_
      obtain ⟨σ6, hv, h⟩ := zl_some h
      refine xsJ (pc := 22) hx hb hK hP hS hv dX2_join_22 (fun H locs hP hS => ?_)
      refine lv_iinc (pc := 23) (v := x2_1 + 1) (lv' := [(2, .int (x2_1 + 1)), (0, .ref (o + x0)), (1, .ref (o + x1))]) hx hb dX2_join_23 hl (k := 0) rfl rfl (by decide) rfl (fun ls hl => ?_)
      refine lv_goto (pc := 26) (tgt := 2) hx hb dX2_join_26 (by decide) ?_
      exact ih1 (x2_1 + 1, σ6) h _ _ ls hP hS (lv_sub hl [0, 1, 2] rfl)
  exact L2_1 N (0, σ) h _ _ ls hP hS (lv_sub hl [0, 1, 2] rfl)
def F_X2_takeAway_2 (N : Nat) (x0 : Nat) (x1 : Nat) (again2 : (Int32 × zS) → Option (Unit × zS)) : Int32 × zS → Option (Unit × zS)
  | (x2, σ) =>
  if 16 ≤ x2 then
    (some ((), σ))
  else
    (zl (gR 2 0 x0 σ) fun v1 =>
    zl (aJ v1 x2 σ) fun v2 =>
    zl (gR 2 0 x1 σ) fun v3 =>
    zl (aJ v3 x2 σ) fun v4 =>
    zl (sJ v1 x2 (v2 &&& (v4 ^^^ (-1))) σ) fun σ5 =>
    again2 (x2 + 1, σ5))
def f_X2_takeAway (N : Nat) (x0 : Nat) (x1 : Nat) (σ : zS) : Option (Unit × zS) :=
  zlp (F_X2_takeAway_2 N x0 x1) N (0, σ)
set_option maxHeartbeats 4000000 in
set_option maxRecDepth 100000 in
theorem c_X2_takeAway (l : Launch) (D : va_G) (c : zC) (o : Nat) (g : zEp) (N : Nat) {x0 : Nat} {x1 : Nat} {σ : zS} {ρ : Unit × zS} (h : f_X2_takeAway N x0 x1 σ = some ρ) : Met l yX2_takeAway zs_X2_takeAway (zr 2) (va_Pc [.ref (o + x0), .ref (o + x1)] (zG D c o g σ)) (zQu D c o g ρ) 0 0 (zA o) := by
  refine zMetG (by decide) (Nat.le_of_ble_eq_true rfl) ?_
  intro p e s m below meth cd ⟨hx, hb, hr, hml, hown, hts, hlocks⟩ hP hK hE ls hl
  have hS : va_S (zA o) s.heap s.heap [] := va_S.rf
  have hl : lv_has ls 3 [(0, .ref (o + x0)), (1, .ref (o + x1))] := hl
  rw [f_X2_takeAway.eq_1] at h
  refine lv_iconst (pc := 0) (v := 0) hx hb dX2_takeAway_0 (by decide) ?_
  refine lv_istore_n (pc := 1) (lv' := [(2, .int 0), (0, .ref (o + x0)), (1, .ref (o + x1))]) hx hb dX2_takeAway_1 rfl hl (by decide) rfl (fun ls hl => ?_)
  have L2_1 : ∀ (n : Nat) (t : Int32 × zS), zlp (F_X2_takeAway_2 N x0 x1) n t = some ρ → ∀ (H : Heap) (locs : List Loc) (ls : Array Slot), zP D c o (zabs o (t.2)) H → va_S (zA o) s.heap H locs → lv_has ls 3 [(2, .int (t.1)), (0, .ref (o + x0)), (1, .ref (o + x1))] → W p l e (zr 2) s m (([.ref (o + x0), .ref (o + x1)] : List Value).toArray) below meth cd H locs 0 0 (MQ below (zQu D c o g ρ) (([.ref (o + x0), .ref (o + x1)] : List Value).toArray) s 0 0 (zA o)) (F0 m 2 ls []) := by
    refine zlp_ind (fun ag1 ih1 t h H locs ls hP hS hl => ?_)
    obtain ⟨x2_1, σ1⟩ := t
    have hP : zP D c o (zabs o σ1) H := hP
    have hl : lv_has ls 3 [(2, .int x2_1), (0, .ref (o + x0)), (1, .ref (o + x1))] := hl
    rw [F_X2_takeAway_2.eq_1] at h
    show W p l e (zr 2) s m (([.ref (o + x0), .ref (o + x1)] : List Value).toArray) below meth cd H locs 0 0 (MQ below (zQu D c o g ρ) (([.ref (o + x0), .ref (o + x1)] : List Value).toArray) s 0 0 (zA o)) (F0 m 2 ls [])
    refine lv_iload_n (pc := 2) hx hb dX2_takeAway_2 rfl (lv_at hl 0 rfl) ?_
    refine lv_bipush (pc := 3) (v := 16) hx hb dX2_takeAway_3 (by decide) ?_
    refine lv_icmp_ge (pc := 5) (tgt := 33) hx hb dX2_takeAway_5 (by decide) (fun c1 => ?_) (fun c1 => ?_)
    · rw [if_pos c1] at h
      exact xretv (pc := 33) hx hb hr hlocks hP hK hE hS h dX2_takeAway_33
    · rw [if_neg c1] at h
      refine lv_aload_n (pc := 8) hx hb dX2_takeAway_8 rfl (lv_at hl 1 rfl) ?_
      obtain ⟨v2, hv, h⟩ := zl_some h
      refine xgR (pc := 9) (j := 0) zc2 hx hb hts hown hK hP hv rfl zf_X2_11 dX2_takeAway_9 ?_
      refine lv_iload_n (pc := 12) hx hb dX2_takeAway_12 rfl (lv_at hl 0 rfl) ?_
      refine lv_dup2_11 (pc := 13) hx hb dX2_takeAway_13 rfl rfl ?_
      obtain ⟨v3, hv, h⟩ := zl_some h
      refine xaJ (pc := 14) hx hb hK hP hv dX2_takeAway_14 ?_
      refine lv_aload_n (pc := 15) hx hb dX2_takeAway_15 rfl (lv_at hl 2 rfl) ?_
      obtain ⟨v4, hv, h⟩ := zl_some h
      refine xgR (pc := 16) (j := 0) zc2 hx hb hts hown hK hP hv rfl zf_X2_11 dX2_takeAway_16 ?_
      refine lv_iload_n (pc := 19) hx hb dX2_takeAway_19 rfl (lv_at hl 0 rfl) ?_
      obtain ⟨v5, hv, h⟩ := zl_some h
      refine xaJ (pc := 20) hx hb hK hP hv dX2_takeAway_20 ?_
      refine lv_ldc2 (pc := 21) hx hb hown (hts _ zk_X2_15) dX2_takeAway_21 ?_
      refine lv_lxor (pc := 24) hx hb dX2_takeAway_24 ?_
      refine lv_land (pc := 25) hx hb dX2_takeAway_25 ?_
      obtain ⟨σ6, hv, h⟩ := zl_some h
      refine xsJ (pc := 26) hx hb hK hP hS hv dX2_takeAway_26 (fun H locs hP hS => ?_)
      refine lv_iinc (pc := 27) (v := x2_1 + 1) (lv' := [(2, .int (x2_1 + 1)), (0, .ref (o + x0)), (1, .ref (o + x1))]) hx hb dX2_takeAway_27 hl (k := 0) rfl rfl (by decide) rfl (fun ls hl => ?_)
      refine lv_goto (pc := 30) (tgt := 2) hx hb dX2_takeAway_30 (by decide) ?_
      exact ih1 (x2_1 + 1, σ6) h _ _ ls hP hS (lv_sub hl [0, 1, 2] rfl)
  exact L2_1 N (0, σ) h _ _ ls hP hS (lv_sub hl [0, 1, 2] rfl)
def f_X0_combine (N : Nat) (x0 : Nat) (x1 : Int32) (x2 : Nat) (x3 : Nat) (x4 : Int32) (σ : zS) : Option (Unit × zS) :=
  if x1 = 0 then
    (zl (gC 2 x2) fun _ => zb (f_X2_join N x2 x3 σ) fun v1 σ2 =>
    some ((), σ2))
  else if x1 = 1 then
    (zl (gC 2 x2) fun _ => zb (f_X2_takeAway N x2 x3 σ) fun v3 σ4 =>
    some ((), σ4))
  else if x1 = 2 then
    (zl (gC 2 x2) fun _ => zb (f_X2_cutBy N x2 x3 σ) fun v5 σ6 =>
    some ((), σ6))
  else if x1 = 3 then
    (zl (gC 0 x0) fun _ => zb (f_X0_multiply N x0 x2 x3 x4 σ) fun v7 σ8 =>
    some ((), σ8))
  else if x1 = 4 then
    (zl (gC 0 x0) fun _ => zb (f_X0_divide N x0 x2 x3 x4 σ) fun v9 σ10 =>
    some ((), σ10))
  else if x1 = 5 then
    (zl (gR 0 2 x0 σ) fun v11 =>
    zl (gC 2 v11) fun _ => zb (f_X2_copyFrom N v11 x2 σ) fun v12 σ13 =>
    zl (gC 0 x0) fun _ => zb (f_X0_divide N x0 x2 x3 x4 σ13) fun v14 σ15 =>
    zl (gC 0 x0) fun _ => zb (f_X0_multiply N x0 x2 x3 x4 σ15) fun v16 σ17 =>
    zl (gR 0 2 x0 σ17) fun v18 =>
    zl (gC 2 v18) fun _ => zb (f_X2_takeAway N v18 x2 σ17) fun v19 σ20 =>
    zl (gR 0 2 x0 σ20) fun v21 =>
    zl (gC 2 x2) fun _ => zb (f_X2_copyFrom N x2 v21 σ20) fun v22 σ23 =>
    some ((), σ23))
  else (zl (gR 0 0 x0 σ) fun v24 =>
    zl (gC 2 v24) fun _ => zb (f_X2_copyFrom N v24 x3 σ) fun v25 σ26 =>
    zl (gR 0 0 x0 σ26) fun v27 =>
    zl (gC 0 x0) fun _ => zb (f_X0_becomeMissing N x0 v27 x4 σ26) fun v28 σ29 =>
    zl (gR 0 0 x0 σ29) fun v30 =>
    zl (gC 2 x2) fun _ => zb (f_X2_takeAway N x2 v30 σ29) fun v31 σ32 =>
    some ((), σ32))
set_option maxHeartbeats 4000000 in
set_option maxRecDepth 100000 in
theorem c_X0_combine (l : Launch) (D : va_G) (c : zC) (o : Nat) (g : zEp) (N : Nat) {x0 : Nat} {x1 : Int32} {x2 : Nat} {x3 : Nat} {x4 : Int32} {σ : zS} {ρ : Unit × zS} (h : f_X0_combine N x0 x1 x2 x3 x4 σ = some ρ) : Met l yX0_combine zs_X0_combine (zr 12) (va_Pc [.ref (o + x0), .int x1, .ref (o + x2), .ref (o + x3), .int x4] (zG D c o g σ)) (zQu D c o g ρ) 0 0 (zA o) := by
  refine zMetG (by decide) (Nat.le_of_ble_eq_true rfl) ?_
  intro p e s m below meth cd ⟨hx, hb, hr, hml, hown, hts, hlocks⟩ hP hK hE ls hl
  have hS : va_S (zA o) s.heap s.heap [] := va_S.rf
  have hl : lv_has ls 5 [(0, .ref (o + x0)), (1, .int x1), (2, .ref (o + x2)), (3, .ref (o + x3)), (4, .int x4)] := hl
  rw [f_X0_combine.eq_1] at h
  refine lv_iload_n (pc := 0) hx hb dX0_combine_0 rfl (lv_at hl 1 rfl) ?_
  by_cases w0_1 : x1 = 0
  · rw [if_pos w0_1] at h
    refine lv_tableIn (pc := 1) (tgt := 40) hx hb dX0_combine_1 (by rw [w0_1]; decide) (by rw [w0_1]; decide) (by rw [w0_1]; rfl) (by decide) ?_
    refine lv_aload_n (pc := 40) hx hb dX0_combine_40 rfl (lv_at hl 2 rfl) ?_
    refine lv_aload_n (pc := 41) hx hb dX0_combine_41 rfl (lv_at hl 3 rfl) ?_
    obtain ⟨_, hg, h⟩ := zl_some h
    obtain ⟨v1, σ2, hv, h⟩ := zb_some h
    refine xcallVv (pc := 42) (As := [.ref (o + x3)]) (rest := []) ⟨hx, hb, hml, hown, hts⟩ (c_X2_join l D c o g N hv) zc2 zV_X0_31 rfl zd_X2_join ⟨Nat.le_of_ble_eq_true rfl, Nat.le_of_ble_eq_true rfl⟩ hK hP hE hS hg hl.1 rfl (Nat.le_of_ble_eq_true rfl) ⟨Nat.zero_le _, Nat.zero_le _⟩ dX0_combine_42 (fun H locs hP hS => ?_)
    refine lv_goto (pc := 45) (tgt := 155) hx hb dX0_combine_45 (by decide) ?_
    exact xretv (pc := 155) hx hb hr hlocks hP hK hE hS h dX0_combine_155
  rw [if_neg w0_1] at h
  by_cases w1_1 : x1 = 1
  · rw [if_pos w1_1] at h
    refine lv_tableIn (pc := 1) (tgt := 48) hx hb dX0_combine_1 (by rw [w1_1]; decide) (by rw [w1_1]; decide) (by rw [w1_1]; rfl) (by decide) ?_
    refine lv_aload_n (pc := 48) hx hb dX0_combine_48 rfl (lv_at hl 2 rfl) ?_
    refine lv_aload_n (pc := 49) hx hb dX0_combine_49 rfl (lv_at hl 3 rfl) ?_
    obtain ⟨_, hg, h⟩ := zl_some h
    obtain ⟨v3, σ4, hv, h⟩ := zb_some h
    refine xcallVv (pc := 50) (As := [.ref (o + x3)]) (rest := []) ⟨hx, hb, hml, hown, hts⟩ (c_X2_takeAway l D c o g N hv) zc2 zV_X0_35 rfl zd_X2_takeAway ⟨Nat.le_of_ble_eq_true rfl, Nat.le_of_ble_eq_true rfl⟩ hK hP hE hS hg hl.1 rfl (Nat.le_of_ble_eq_true rfl) ⟨Nat.zero_le _, Nat.zero_le _⟩ dX0_combine_50 (fun H locs hP hS => ?_)
    refine lv_goto (pc := 53) (tgt := 155) hx hb dX0_combine_53 (by decide) ?_
    exact xretv (pc := 155) hx hb hr hlocks hP hK hE hS h dX0_combine_155
  rw [if_neg w1_1] at h
  by_cases w2_1 : x1 = 2
  · rw [if_pos w2_1] at h
    refine lv_tableIn (pc := 1) (tgt := 56) hx hb dX0_combine_1 (by rw [w2_1]; decide) (by rw [w2_1]; decide) (by rw [w2_1]; rfl) (by decide) ?_
    refine lv_aload_n (pc := 56) hx hb dX0_combine_56 rfl (lv_at hl 2 rfl) ?_
    refine lv_aload_n (pc := 57) hx hb dX0_combine_57 rfl (lv_at hl 3 rfl) ?_
    obtain ⟨_, hg, h⟩ := zl_some h
    obtain ⟨v5, σ6, hv, h⟩ := zb_some h
    refine xcallVv (pc := 58) (As := [.ref (o + x3)]) (rest := []) ⟨hx, hb, hml, hown, hts⟩ (c_X2_cutBy l D c o g N hv) zc2 zV_X0_38 rfl zd_X2_cutBy ⟨Nat.le_of_ble_eq_true rfl, Nat.le_of_ble_eq_true rfl⟩ hK hP hE hS hg hl.1 rfl (Nat.le_of_ble_eq_true rfl) ⟨Nat.zero_le _, Nat.zero_le _⟩ dX0_combine_58 (fun H locs hP hS => ?_)
    refine lv_goto (pc := 61) (tgt := 155) hx hb dX0_combine_61 (by decide) ?_
    exact xretv (pc := 155) hx hb hr hlocks hP hK hE hS h dX0_combine_155
  rw [if_neg w2_1] at h
  by_cases w3_1 : x1 = 3
  · rw [if_pos w3_1] at h
    refine lv_tableIn (pc := 1) (tgt := 64) hx hb dX0_combine_1 (by rw [w3_1]; decide) (by rw [w3_1]; decide) (by rw [w3_1]; rfl) (by decide) ?_
    refine lv_aload_n (pc := 64) hx hb dX0_combine_64 rfl (lv_at hl 0 rfl) ?_
    refine lv_aload_n (pc := 65) hx hb dX0_combine_65 rfl (lv_at hl 2 rfl) ?_
    refine lv_aload_n (pc := 66) hx hb dX0_combine_66 rfl (lv_at hl 3 rfl) ?_
    refine lv_iload (pc := 67) hx hb dX0_combine_67 (lv_at hl 4 rfl) ?_
    obtain ⟨_, hg, h⟩ := zl_some h
    obtain ⟨v7, σ8, hv, h⟩ := zb_some h
    refine xcallVv (pc := 69) (As := [.ref (o + x2), .ref (o + x3), .int x4]) (rest := []) ⟨hx, hb, hml, hown, hts⟩ (c_X0_multiply l D c o g N hv) zc0 zV_X0_41 rfl zd_X0_multiply ⟨Nat.le_of_ble_eq_true rfl, Nat.le_of_ble_eq_true rfl⟩ hK hP hE hS hg hl.1 rfl (Nat.le_of_ble_eq_true rfl) ⟨Nat.zero_le _, Nat.zero_le _⟩ dX0_combine_69 (fun H locs hP hS => ?_)
    refine lv_goto (pc := 72) (tgt := 155) hx hb dX0_combine_72 (by decide) ?_
    exact xretv (pc := 155) hx hb hr hlocks hP hK hE hS h dX0_combine_155
  rw [if_neg w3_1] at h
  by_cases w4_1 : x1 = 4
  · rw [if_pos w4_1] at h
    refine lv_tableIn (pc := 1) (tgt := 75) hx hb dX0_combine_1 (by rw [w4_1]; decide) (by rw [w4_1]; decide) (by rw [w4_1]; rfl) (by decide) ?_
    refine lv_aload_n (pc := 75) hx hb dX0_combine_75 rfl (lv_at hl 0 rfl) ?_
    refine lv_aload_n (pc := 76) hx hb dX0_combine_76 rfl (lv_at hl 2 rfl) ?_
    refine lv_aload_n (pc := 77) hx hb dX0_combine_77 rfl (lv_at hl 3 rfl) ?_
    refine lv_iload (pc := 78) hx hb dX0_combine_78 (lv_at hl 4 rfl) ?_
    obtain ⟨_, hg, h⟩ := zl_some h
    obtain ⟨v9, σ10, hv, h⟩ := zb_some h
    refine xcallVv (pc := 80) (As := [.ref (o + x2), .ref (o + x3), .int x4]) (rest := []) ⟨hx, hb, hml, hown, hts⟩ (c_X0_divide l D c o g N hv) zc0 zV_X0_45 rfl zd_X0_divide ⟨Nat.le_of_ble_eq_true rfl, Nat.le_of_ble_eq_true rfl⟩ hK hP hE hS hg hl.1 rfl (Nat.le_of_ble_eq_true rfl) ⟨Nat.zero_le _, Nat.zero_le _⟩ dX0_combine_80 (fun H locs hP hS => ?_)
    refine lv_goto (pc := 83) (tgt := 155) hx hb dX0_combine_83 (by decide) ?_
    exact xretv (pc := 155) hx hb hr hlocks hP hK hE hS h dX0_combine_155
  rw [if_neg w4_1] at h
  by_cases w5_1 : x1 = 5
  · rw [if_pos w5_1] at h
    refine lv_tableIn (pc := 1) (tgt := 86) hx hb dX0_combine_1 (by rw [w5_1]; decide) (by rw [w5_1]; decide) (by rw [w5_1]; rfl) (by decide) ?_
    refine lv_aload_n (pc := 86) hx hb dX0_combine_86 rfl (lv_at hl 0 rfl) ?_
    obtain ⟨v11, hv, h⟩ := zl_some h
    refine xgR (pc := 87) (j := 2) zc0 hx hb hts hown hK hP hv rfl zf_X0_21 dX0_combine_87 ?_
    refine lv_aload_n (pc := 90) hx hb dX0_combine_90 rfl (lv_at hl 2 rfl) ?_
    obtain ⟨_, hg, h⟩ := zl_some h
    obtain ⟨v12, σ13, hv, h⟩ := zb_some h
    refine xcallVv (pc := 91) (As := [.ref (o + x2)]) (rest := []) ⟨hx, hb, hml, hown, hts⟩ (c_X2_copyFrom l D c o g N hv) zc2 zV_X0_48 rfl zd_X2_copyFrom ⟨Nat.le_of_ble_eq_true rfl, Nat.le_of_ble_eq_true rfl⟩ hK hP hE hS hg hl.1 rfl (Nat.le_of_ble_eq_true rfl) ⟨Nat.zero_le _, Nat.zero_le _⟩ dX0_combine_91 (fun H locs hP hS => ?_)
    refine lv_aload_n (pc := 94) hx hb dX0_combine_94 rfl (lv_at hl 0 rfl) ?_
    refine lv_aload_n (pc := 95) hx hb dX0_combine_95 rfl (lv_at hl 2 rfl) ?_
    refine lv_aload_n (pc := 96) hx hb dX0_combine_96 rfl (lv_at hl 3 rfl) ?_
    refine lv_iload (pc := 97) hx hb dX0_combine_97 (lv_at hl 4 rfl) ?_
    obtain ⟨_, hg, h⟩ := zl_some h
    obtain ⟨v14, σ15, hv, h⟩ := zb_some h
    refine xcallVv (pc := 99) (As := [.ref (o + x2), .ref (o + x3), .int x4]) (rest := []) ⟨hx, hb, hml, hown, hts⟩ (c_X0_divide l D c o g N hv) zc0 zV_X0_45 rfl zd_X0_divide ⟨Nat.le_of_ble_eq_true rfl, Nat.le_of_ble_eq_true rfl⟩ hK hP hE hS hg hl.1 rfl (Nat.le_of_ble_eq_true rfl) ⟨Nat.zero_le _, Nat.zero_le _⟩ dX0_combine_99 (fun H locs hP hS => ?_)
    refine lv_aload_n (pc := 102) hx hb dX0_combine_102 rfl (lv_at hl 0 rfl) ?_
    refine lv_aload_n (pc := 103) hx hb dX0_combine_103 rfl (lv_at hl 2 rfl) ?_
    refine lv_aload_n (pc := 104) hx hb dX0_combine_104 rfl (lv_at hl 3 rfl) ?_
    refine lv_iload (pc := 105) hx hb dX0_combine_105 (lv_at hl 4 rfl) ?_
    obtain ⟨_, hg, h⟩ := zl_some h
    obtain ⟨v16, σ17, hv, h⟩ := zb_some h
    refine xcallVv (pc := 107) (As := [.ref (o + x2), .ref (o + x3), .int x4]) (rest := []) ⟨hx, hb, hml, hown, hts⟩ (c_X0_multiply l D c o g N hv) zc0 zV_X0_41 rfl zd_X0_multiply ⟨Nat.le_of_ble_eq_true rfl, Nat.le_of_ble_eq_true rfl⟩ hK hP hE hS hg hl.1 rfl (Nat.le_of_ble_eq_true rfl) ⟨Nat.zero_le _, Nat.zero_le _⟩ dX0_combine_107 (fun H locs hP hS => ?_)
    refine lv_aload_n (pc := 110) hx hb dX0_combine_110 rfl (lv_at hl 0 rfl) ?_
    obtain ⟨v18, hv, h⟩ := zl_some h
    refine xgR (pc := 111) (j := 2) zc0 hx hb hts hown hK hP hv rfl zf_X0_21 dX0_combine_111 ?_
    refine lv_aload_n (pc := 114) hx hb dX0_combine_114 rfl (lv_at hl 2 rfl) ?_
    obtain ⟨_, hg, h⟩ := zl_some h
    obtain ⟨v19, σ20, hv, h⟩ := zb_some h
    refine xcallVv (pc := 115) (As := [.ref (o + x2)]) (rest := []) ⟨hx, hb, hml, hown, hts⟩ (c_X2_takeAway l D c o g N hv) zc2 zV_X0_35 rfl zd_X2_takeAway ⟨Nat.le_of_ble_eq_true rfl, Nat.le_of_ble_eq_true rfl⟩ hK hP hE hS hg hl.1 rfl (Nat.le_of_ble_eq_true rfl) ⟨Nat.zero_le _, Nat.zero_le _⟩ dX0_combine_115 (fun H locs hP hS => ?_)
    refine lv_aload_n (pc := 118) hx hb dX0_combine_118 rfl (lv_at hl 2 rfl) ?_
    refine lv_aload_n (pc := 119) hx hb dX0_combine_119 rfl (lv_at hl 0 rfl) ?_
    obtain ⟨v21, hv, h⟩ := zl_some h
    refine xgR (pc := 120) (j := 2) zc0 hx hb hts hown hK hP hv rfl zf_X0_21 dX0_combine_120 ?_
    obtain ⟨_, hg, h⟩ := zl_some h
    obtain ⟨v22, σ23, hv, h⟩ := zb_some h
    refine xcallVv (pc := 123) (As := [.ref (o + v21)]) (rest := []) ⟨hx, hb, hml, hown, hts⟩ (c_X2_copyFrom l D c o g N hv) zc2 zV_X0_48 rfl zd_X2_copyFrom ⟨Nat.le_of_ble_eq_true rfl, Nat.le_of_ble_eq_true rfl⟩ hK hP hE hS hg hl.1 rfl (Nat.le_of_ble_eq_true rfl) ⟨Nat.zero_le _, Nat.zero_le _⟩ dX0_combine_123 (fun H locs hP hS => ?_)
    refine lv_goto (pc := 126) (tgt := 155) hx hb dX0_combine_126 (by decide) ?_
    exact xretv (pc := 155) hx hb hr hlocks hP hK hE hS h dX0_combine_155
  rw [if_neg w5_1] at h
  have wo_1 : x1.toInt < 0 ∨ 5 < x1.toInt := by
    have q0 := lv_neT w0_1 (a := 0) rfl; have q1 := lv_neT w1_1 (a := 1) rfl; have q2 := lv_neT w2_1 (a := 2) rfl; have q3 := lv_neT w3_1 (a := 3) rfl; have q4 := lv_neT w4_1 (a := 4) rfl; have q5 := lv_neT w5_1 (a := 5) rfl
    omega
  refine lv_tableOut (pc := 1) (tgt := 129) hx hb dX0_combine_1 wo_1 (by decide) ?_
  refine lv_aload_n (pc := 129) hx hb dX0_combine_129 rfl (lv_at hl 0 rfl) ?_
  obtain ⟨v24, hv, h⟩ := zl_some h
  refine xgR (pc := 130) (j := 0) zc0 hx hb hts hown hK hP hv rfl zf_X0_12 dX0_combine_130 ?_
  refine lv_aload_n (pc := 133) hx hb dX0_combine_133 rfl (lv_at hl 3 rfl) ?_
  obtain ⟨_, hg, h⟩ := zl_some h
  obtain ⟨v25, σ26, hv, h⟩ := zb_some h
  refine xcallVv (pc := 134) (As := [.ref (o + x3)]) (rest := []) ⟨hx, hb, hml, hown, hts⟩ (c_X2_copyFrom l D c o g N hv) zc2 zV_X0_48 rfl zd_X2_copyFrom ⟨Nat.le_of_ble_eq_true rfl, Nat.le_of_ble_eq_true rfl⟩ hK hP hE hS hg hl.1 rfl (Nat.le_of_ble_eq_true rfl) ⟨Nat.zero_le _, Nat.zero_le _⟩ dX0_combine_134 (fun H locs hP hS => ?_)
  refine lv_aload_n (pc := 137) hx hb dX0_combine_137 rfl (lv_at hl 0 rfl) ?_
  refine lv_aload_n (pc := 138) hx hb dX0_combine_138 rfl (lv_at hl 0 rfl) ?_
  obtain ⟨v27, hv, h⟩ := zl_some h
  refine xgR (pc := 139) (j := 0) zc0 hx hb hts hown hK hP hv rfl zf_X0_12 dX0_combine_139 ?_
  refine lv_iload (pc := 142) hx hb dX0_combine_142 (lv_at hl 4 rfl) ?_
  obtain ⟨_, hg, h⟩ := zl_some h
  obtain ⟨v28, σ29, hv, h⟩ := zb_some h
  refine xcallVv (pc := 144) (As := [.ref (o + v27), .int x4]) (rest := []) ⟨hx, hb, hml, hown, hts⟩ (c_X0_becomeMissing l D c o g N hv) zc0 zV_X0_51 rfl zd_X0_becomeMissing ⟨Nat.le_of_ble_eq_true rfl, Nat.le_of_ble_eq_true rfl⟩ hK hP hE hS hg hl.1 rfl (Nat.le_of_ble_eq_true rfl) ⟨Nat.zero_le _, Nat.zero_le _⟩ dX0_combine_144 (fun H locs hP hS => ?_)
  refine lv_aload_n (pc := 147) hx hb dX0_combine_147 rfl (lv_at hl 2 rfl) ?_
  refine lv_aload_n (pc := 148) hx hb dX0_combine_148 rfl (lv_at hl 0 rfl) ?_
  obtain ⟨v30, hv, h⟩ := zl_some h
  refine xgR (pc := 149) (j := 0) zc0 hx hb hts hown hK hP hv rfl zf_X0_12 dX0_combine_149 ?_
  obtain ⟨_, hg, h⟩ := zl_some h
  obtain ⟨v31, σ32, hv, h⟩ := zb_some h
  refine xcallVv (pc := 152) (As := [.ref (o + v30)]) (rest := []) ⟨hx, hb, hml, hown, hts⟩ (c_X2_takeAway l D c o g N hv) zc2 zV_X0_35 rfl zd_X2_takeAway ⟨Nat.le_of_ble_eq_true rfl, Nat.le_of_ble_eq_true rfl⟩ hK hP hE hS hg hl.1 rfl (Nat.le_of_ble_eq_true rfl) ⟨Nat.zero_le _, Nat.zero_le _⟩ dX0_combine_152 (fun H locs hP hS => ?_)
  exact xretv (pc := 155) hx hb hr hlocks hP hK hE hS h dX0_combine_155
def F_X2_becomeAll_26 (N : Nat) (x0 : Nat) (x1 : Int32) (again26 : (Int32 × zS) → Option (Unit × zS)) : Int32 × zS → Option (Unit × zS)
  | (x2, σ) =>
  if 16 ≤ x2 then
    (some ((), σ))
  else
    (if ((1 : Int32) <<< ((x1 - 6) &&& 31)) ≤ x2 then
      (some ((), σ))
    else
      (zl (gR 2 0 x0 σ) fun v3 =>
      zl (sJ v3 x2 (-1) σ) fun σ4 =>
      again26 (x2 + 1, σ4)))
def f_X2_becomeAll (N : Nat) (x0 : Nat) (x1 : Int32) (σ : zS) : Option (Unit × zS) :=
  zl (gC 2 x0) fun _ => zb (f_X2_clear N x0 σ) fun v1 σ2 =>
  if 6 ≤ x1 then
    (zlp (F_X2_becomeAll_26 N x0 x1) N (0, σ2))
  else
    (zl (gR 2 0 x0 σ2) fun v5 =>
    zl (sJ v5 0 ((zsl 1 ((1 : Int32) <<< (x1 &&& 31))) - 1) σ2) fun σ6 =>
    some ((), σ6))
set_option maxHeartbeats 4000000 in
set_option maxRecDepth 100000 in
theorem c_X2_becomeAll (l : Launch) (D : va_G) (c : zC) (o : Nat) (g : zEp) (N : Nat) {x0 : Nat} {x1 : Int32} {σ : zS} {ρ : Unit × zS} (h : f_X2_becomeAll N x0 x1 σ = some ρ) : Met l yX2_becomeAll zs_X2_becomeAll (zr 6) (va_Pc [.ref (o + x0), .int x1] (zG D c o g σ)) (zQu D c o g ρ) 0 0 (zA o) := by
  refine zMetG (by decide) (Nat.le_of_ble_eq_true rfl) ?_
  intro p e s m below meth cd ⟨hx, hb, hr, hml, hown, hts, hlocks⟩ hP hK hE ls hl
  have hS : va_S (zA o) s.heap s.heap [] := va_S.rf
  have hl : lv_has ls 3 [(0, .ref (o + x0)), (1, .int x1)] := hl
  rw [f_X2_becomeAll.eq_1] at h
  refine lv_aload_n (pc := 0) hx hb dX2_becomeAll_0 rfl (lv_at hl 0 rfl) ?_
  obtain ⟨_, hg, h⟩ := zl_some h
  obtain ⟨v1, σ2, hv, h⟩ := zb_some h
  refine xcallVv (pc := 1) (As := []) (rest := []) ⟨hx, hb, hml, hown, hts⟩ (c_X2_clear l D c o g N hv) zc2 zV_X2_29 rfl zd_X2_clear ⟨Nat.le_of_ble_eq_true rfl, Nat.le_of_ble_eq_true rfl⟩ hK hP hE hS hg hl.1 rfl (Nat.le_of_ble_eq_true rfl) ⟨Nat.zero_le _, Nat.zero_le _⟩ dX2_becomeAll_1 (fun H locs hP hS => ?_)
  refine lv_iload_n (pc := 4) hx hb dX2_becomeAll_4 rfl (lv_at hl 1 rfl) ?_
  refine lv_bipush (pc := 5) (v := 6) hx hb dX2_becomeAll_5 (by decide) ?_
  refine lv_icmp_ge (pc := 7) (tgt := 24) hx hb dX2_becomeAll_7 (by decide) (fun c1 => ?_) (fun c1 => ?_)
  · rw [if_pos c1] at h
    refine lv_iconst (pc := 24) (v := 0) hx hb dX2_becomeAll_24 (by decide) ?_
    refine lv_istore_n (pc := 25) (lv' := [(2, .int 0), (0, .ref (o + x0)), (1, .int x1)]) hx hb dX2_becomeAll_25 rfl hl (by decide) rfl (fun ls hl => ?_)
    have L26_3 : ∀ (n : Nat) (t : Int32 × zS), zlp (F_X2_becomeAll_26 N x0 x1) n t = some ρ → ∀ (H : Heap) (locs : List Loc) (ls : Array Slot), zP D c o (zabs o (t.2)) H → va_S (zA o) s.heap H locs → lv_has ls 3 [(2, .int (t.1)), (0, .ref (o + x0)), (1, .int x1)] → W p l e (zr 6) s m (([.ref (o + x0), .int x1] : List Value).toArray) below meth cd H locs 0 0 (MQ below (zQu D c o g ρ) (([.ref (o + x0), .int x1] : List Value).toArray) s 0 0 (zA o)) (F0 m 26 ls []) := by
      refine zlp_ind (fun ag3 ih3 t h H locs ls hP hS hl => ?_)
      obtain ⟨x2_3, σ3⟩ := t
      have hP : zP D c o (zabs o σ3) H := hP
      have hl : lv_has ls 3 [(2, .int x2_3), (0, .ref (o + x0)), (1, .int x1)] := hl
      rw [F_X2_becomeAll_26.eq_1] at h
      show W p l e (zr 6) s m (([.ref (o + x0), .int x1] : List Value).toArray) below meth cd H locs 0 0 (MQ below (zQu D c o g ρ) (([.ref (o + x0), .int x1] : List Value).toArray) s 0 0 (zA o)) (F0 m 26 ls [])
      refine lv_iload_n (pc := 26) hx hb dX2_becomeAll_26 rfl (lv_at hl 0 rfl) ?_
      refine lv_bipush (pc := 27) (v := 16) hx hb dX2_becomeAll_27 (by decide) ?_
      refine lv_icmp_ge (pc := 29) (tgt := 57) hx hb dX2_becomeAll_29 (by decide) (fun c1 => ?_) (fun c1 => ?_)
      · rw [if_pos c1] at h
        exact xretv (pc := 57) hx hb hr hlocks hP hK hE hS h dX2_becomeAll_57
      · rw [if_neg c1] at h
        refine lv_iload_n (pc := 32) hx hb dX2_becomeAll_32 rfl (lv_at hl 0 rfl) ?_
        refine lv_iconst (pc := 33) (v := 1) hx hb dX2_becomeAll_33 (by decide) ?_
        refine lv_iload_n (pc := 34) hx hb dX2_becomeAll_34 rfl (lv_at hl 2 rfl) ?_
        refine lv_bipush (pc := 35) (v := 6) hx hb dX2_becomeAll_35 (by decide) ?_
        refine lv_isub (pc := 37) hx hb dX2_becomeAll_37 ?_
        refine lv_ishl (pc := 38) hx hb dX2_becomeAll_38 ?_
        refine lv_icmp_ge (pc := 39) (tgt := 57) hx hb dX2_becomeAll_39 (by decide) (fun c1 => ?_) (fun c1 => ?_)
        · rw [if_pos c1] at h
          exact xretv (pc := 57) hx hb hr hlocks hP hK hE hS h dX2_becomeAll_57
        · rw [if_neg c1] at h
          refine lv_aload_n (pc := 42) hx hb dX2_becomeAll_42 rfl (lv_at hl 1 rfl) ?_
          obtain ⟨v4, hv, h⟩ := zl_some h
          refine xgR (pc := 43) (j := 0) zc2 hx hb hts hown hK hP hv rfl zf_X2_11 dX2_becomeAll_43 ?_
          refine lv_iload_n (pc := 46) hx hb dX2_becomeAll_46 rfl (lv_at hl 0 rfl) ?_
          refine lv_ldc2 (pc := 47) hx hb hown (hts _ zk_X2_15) dX2_becomeAll_47 ?_
          obtain ⟨σ5, hv, h⟩ := zl_some h
          refine xsJ (pc := 50) hx hb hK hP hS hv dX2_becomeAll_50 (fun H locs hP hS => ?_)
          refine lv_iinc (pc := 51) (v := x2_3 + 1) (lv' := [(2, .int (x2_3 + 1)), (0, .ref (o + x0)), (1, .int x1)]) hx hb dX2_becomeAll_51 hl (k := 0) rfl rfl (by decide) rfl (fun ls hl => ?_)
          refine lv_goto (pc := 54) (tgt := 26) hx hb dX2_becomeAll_54 (by decide) ?_
          exact ih3 (x2_3 + 1, σ5) h _ _ ls hP hS (lv_sub hl [0, 1, 2] rfl)
    exact L26_3 N (0, σ2) h _ _ ls hP hS (lv_sub hl [0, 1, 2] rfl)
  · rw [if_neg c1] at h
    refine lv_aload_n (pc := 10) hx hb dX2_becomeAll_10 rfl (lv_at hl 0 rfl) ?_
    obtain ⟨v6, hv, h⟩ := zl_some h
    refine xgR (pc := 11) (j := 0) zc2 hx hb hts hown hK hP hv rfl zf_X2_11 dX2_becomeAll_11 ?_
    refine lv_iconst (pc := 14) (v := 0) hx hb dX2_becomeAll_14 (by decide) ?_
    refine lv_lconst (pc := 15) (v := 1) hx hb dX2_becomeAll_15 (by decide) ?_
    refine lv_iconst (pc := 16) (v := 1) hx hb dX2_becomeAll_16 (by decide) ?_
    refine lv_iload_n (pc := 17) hx hb dX2_becomeAll_17 rfl (lv_at hl 1 rfl) ?_
    refine lv_ishl (pc := 18) hx hb dX2_becomeAll_18 ?_
    refine lv_lshl (pc := 19) (v := zsl 1 ((1 : Int32) <<< (x1 &&& 31))) hx hb dX2_becomeAll_19 rfl ?_
    refine lv_lconst (pc := 20) (v := 1) hx hb dX2_becomeAll_20 (by decide) ?_
    refine lv_lsub (pc := 21) hx hb dX2_becomeAll_21 ?_
    obtain ⟨σ7, hv, h⟩ := zl_some h
    refine xsJ (pc := 22) hx hb hK hP hS hv dX2_becomeAll_22 (fun H locs hP hS => ?_)
    exact xretv (pc := 23) hx hb hr hlocks hP hK hE hS h dX2_becomeAll_23
def f_X0_complement (N : Nat) (x0 : Nat) (x1 : Nat) (x2 : Int32) (σ : zS) : Option (Unit × zS) :=
  zl (gR 0 0 x0 σ) fun v1 =>
  zl (gC 2 v1) fun _ => zb (f_X2_becomeAll N v1 x2 σ) fun v2 σ3 =>
  zl (gR 0 0 x0 σ3) fun v4 =>
  zl (gC 2 v4) fun _ => zb (f_X2_takeAway N v4 x1 σ3) fun v5 σ6 =>
  zl (gR 0 0 x0 σ6) fun v7 =>
  zl (gC 2 x1) fun _ => zb (f_X2_copyFrom N x1 v7 σ6) fun v8 σ9 =>
  some ((), σ9)
set_option maxHeartbeats 4000000 in
set_option maxRecDepth 100000 in
theorem c_X0_complement (l : Launch) (D : va_G) (c : zC) (o : Nat) (g : zEp) (N : Nat) {x0 : Nat} {x1 : Nat} {x2 : Int32} {σ : zS} {ρ : Unit × zS} (h : f_X0_complement N x0 x1 x2 σ = some ρ) : Met l yX0_complement zs_X0_complement (zr 8) (va_Pc [.ref (o + x0), .ref (o + x1), .int x2] (zG D c o g σ)) (zQu D c o g ρ) 0 0 (zA o) := by
  refine zMetG (by decide) (Nat.le_of_ble_eq_true rfl) ?_
  intro p e s m below meth cd ⟨hx, hb, hr, hml, hown, hts, hlocks⟩ hP hK hE ls hl
  have hS : va_S (zA o) s.heap s.heap [] := va_S.rf
  have hl : lv_has ls 3 [(0, .ref (o + x0)), (1, .ref (o + x1)), (2, .int x2)] := hl
  rw [f_X0_complement.eq_1] at h
  refine lv_aload_n (pc := 0) hx hb dX0_complement_0 rfl (lv_at hl 0 rfl) ?_
  obtain ⟨v1, hv, h⟩ := zl_some h
  refine xgR (pc := 1) (j := 0) zc0 hx hb hts hown hK hP hv rfl zf_X0_12 dX0_complement_1 ?_
  refine lv_iload_n (pc := 4) hx hb dX0_complement_4 rfl (lv_at hl 2 rfl) ?_
  obtain ⟨_, hg, h⟩ := zl_some h
  obtain ⟨v2, σ3, hv, h⟩ := zb_some h
  refine xcallVv (pc := 5) (As := [.int x2]) (rest := []) ⟨hx, hb, hml, hown, hts⟩ (c_X2_becomeAll l D c o g N hv) zc2 zV_X0_70 rfl zd_X2_becomeAll ⟨Nat.le_of_ble_eq_true rfl, Nat.le_of_ble_eq_true rfl⟩ hK hP hE hS hg hl.1 rfl (Nat.le_of_ble_eq_true rfl) ⟨Nat.zero_le _, Nat.zero_le _⟩ dX0_complement_5 (fun H locs hP hS => ?_)
  refine lv_aload_n (pc := 8) hx hb dX0_complement_8 rfl (lv_at hl 0 rfl) ?_
  obtain ⟨v4, hv, h⟩ := zl_some h
  refine xgR (pc := 9) (j := 0) zc0 hx hb hts hown hK hP hv rfl zf_X0_12 dX0_complement_9 ?_
  refine lv_aload_n (pc := 12) hx hb dX0_complement_12 rfl (lv_at hl 1 rfl) ?_
  obtain ⟨_, hg, h⟩ := zl_some h
  obtain ⟨v5, σ6, hv, h⟩ := zb_some h
  refine xcallVv (pc := 13) (As := [.ref (o + x1)]) (rest := []) ⟨hx, hb, hml, hown, hts⟩ (c_X2_takeAway l D c o g N hv) zc2 zV_X0_35 rfl zd_X2_takeAway ⟨Nat.le_of_ble_eq_true rfl, Nat.le_of_ble_eq_true rfl⟩ hK hP hE hS hg hl.1 rfl (Nat.le_of_ble_eq_true rfl) ⟨Nat.zero_le _, Nat.zero_le _⟩ dX0_complement_13 (fun H locs hP hS => ?_)
  refine lv_aload_n (pc := 16) hx hb dX0_complement_16 rfl (lv_at hl 1 rfl) ?_
  refine lv_aload_n (pc := 17) hx hb dX0_complement_17 rfl (lv_at hl 0 rfl) ?_
  obtain ⟨v7, hv, h⟩ := zl_some h
  refine xgR (pc := 18) (j := 0) zc0 hx hb hts hown hK hP hv rfl zf_X0_12 dX0_complement_18 ?_
  obtain ⟨_, hg, h⟩ := zl_some h
  obtain ⟨v8, σ9, hv, h⟩ := zb_some h
  refine xcallVv (pc := 21) (As := [.ref (o + v7)]) (rest := []) ⟨hx, hb, hml, hown, hts⟩ (c_X2_copyFrom l D c o g N hv) zc2 zV_X0_48 rfl zd_X2_copyFrom ⟨Nat.le_of_ble_eq_true rfl, Nat.le_of_ble_eq_true rfl⟩ hK hP hE hS hg hl.1 rfl (Nat.le_of_ble_eq_true rfl) ⟨Nat.zero_le _, Nat.zero_le _⟩ dX0_complement_21 (fun H locs hP hS => ?_)
  exact xretv (pc := 24) hx hb hr hlocks hP hK hE hS h dX0_complement_24
def F_X2_lower_66 (N : Nat) (x0 : Nat) (x2 : Int32) (again66 : (Int32 × zS) → Option (Unit × zS)) : Int32 × zS → Option (Unit × zS)
  | (x3, σ) =>
  if 16 ≤ (x3 + x2) then
    (some ((), σ))
  else
    (if (x3 &&& x2) = 0 then
      (zl (gR 2 0 x0 σ) fun v1 =>
      zl (aJ v1 x3 σ) fun v2 =>
      zl (gR 2 0 x0 σ) fun v3 =>
      zl (aJ v3 (x3 + x2) σ) fun v4 =>
      zl (sJ v1 x3 (v2 ||| v4) σ) fun σ5 =>
      again66 (x3 + 1, σ5))
    else
      (again66 (x3 + 1, σ)))
def F_X2_lower_19 (N : Nat) (x0 : Nat) (x1 : Int32) (again19 : (Int32 × zS) → Option (Unit × zS)) : Int32 × zS → Option (Unit × zS)
  | (x2, σ) =>
  if 16 ≤ x2 then
    (some ((), σ))
  else
    (zl (gR 2 0 x0 σ) fun v6 =>
    zl (aJ v6 x2 σ) fun v7 =>
    zl (gR 2 0 x0 σ) fun v8 =>
    zl (aJ v8 x2 σ) fun v9 =>
    zl (aW x1) fun v10 =>
    zl (sJ v6 x2 (v7 ||| ((zul v9 ((1 : Int32) <<< (x1 &&& 31))) &&& v10)) σ) fun σ11 =>
    again19 (x2 + 1, σ11))
def f_X2_lower (N : Nat) (x0 : Nat) (x1 : Int32) (σ : zS) : Option (Unit × zS) :=
  if x1 < 0 then
    (some ((), σ))
  else
    (if x1 < 10 then
      (if 6 ≤ x1 then
        (zlp (F_X2_lower_66 N x0 ((1 : Int32) <<< ((x1 - 6) &&& 31))) N (0, σ))
      else
        (zlp (F_X2_lower_19 N x0 x1) N (0, σ)))
    else
      (some ((), σ)))
set_option maxHeartbeats 4000000 in
set_option maxRecDepth 100000 in
theorem c_X2_lower (l : Launch) (D : va_G) (c : zC) (o : Nat) (g : zEp) (N : Nat) {x0 : Nat} {x1 : Int32} {σ : zS} {ρ : Unit × zS} (h : f_X2_lower N x0 x1 σ = some ρ) : Met l yX2_lower zs_X2_lower (zr 2) (va_Pc [.ref (o + x0), .int x1] (zG D c o g σ)) (zQu D c o g ρ) 0 0 (zA o) := by
  refine zMetG (by decide) (Nat.le_of_ble_eq_true rfl) ?_
  intro p e s m below meth cd ⟨hx, hb, hr, hml, hown, hts, hlocks⟩ hP hK hE ls hl
  have hS : va_S (zA o) s.heap s.heap [] := va_S.rf
  have hl : lv_has ls 4 [(0, .ref (o + x0)), (1, .int x1)] := hl
  rw [f_X2_lower.eq_1] at h
  refine lv_iload_n (pc := 0) hx hb dX2_lower_0 rfl (lv_at hl 1 rfl) ?_
  refine lv_if_lt (pc := 1) (tgt := 10) hx hb dX2_lower_1 (by decide) (fun c1 => ?_) (fun c1 => ?_)
  · rw [if_pos c1] at h
    exact xretv (pc := 10) hx hb hr hlocks hP hK hE hS h dX2_lower_10
  · rw [if_neg c1] at h
    refine lv_iload_n (pc := 4) hx hb dX2_lower_4 rfl (lv_at hl 1 rfl) ?_
    refine lv_bipush (pc := 5) (v := 10) hx hb dX2_lower_5 (by decide) ?_
    refine lv_icmp_lt (pc := 7) (tgt := 11) hx hb dX2_lower_7 (by decide) (fun c1 => ?_) (fun c1 => ?_)
    · rw [if_pos c1] at h
      refine lv_iload_n (pc := 11) hx hb dX2_lower_11 rfl (lv_at hl 1 rfl) ?_
      refine lv_bipush (pc := 12) (v := 6) hx hb dX2_lower_12 (by decide) ?_
      refine lv_icmp_ge (pc := 14) (tgt := 57) hx hb dX2_lower_14 (by decide) (fun c1 => ?_) (fun c1 => ?_)
      · rw [if_pos c1] at h
        refine lv_iconst (pc := 57) (v := 1) hx hb dX2_lower_57 (by decide) ?_
        refine lv_iload_n (pc := 58) hx hb dX2_lower_58 rfl (lv_at hl 1 rfl) ?_
        refine lv_bipush (pc := 59) (v := 6) hx hb dX2_lower_59 (by decide) ?_
        refine lv_isub (pc := 61) hx hb dX2_lower_61 ?_
        refine lv_ishl (pc := 62) hx hb dX2_lower_62 ?_
        refine lv_istore_n (pc := 63) (lv' := [(2, .int ((1 : Int32) <<< ((x1 - 6) &&& 31))), (0, .ref (o + x0)), (1, .int x1)]) hx hb dX2_lower_63 rfl hl (by decide) rfl (fun ls hl => ?_)
        refine lv_iconst (pc := 64) (v := 0) hx hb dX2_lower_64 (by decide) ?_
        refine lv_istore_n (pc := 65) (lv' := [(3, .int 0), (2, .int ((1 : Int32) <<< ((x1 - 6) &&& 31))), (0, .ref (o + x0)), (1, .int x1)]) hx hb dX2_lower_65 rfl hl (by decide) rfl (fun ls hl => ?_)
        have L66_1 : ∀ (n : Nat) (t : Int32 × zS), zlp (F_X2_lower_66 N x0 ((1 : Int32) <<< ((x1 - 6) &&& 31))) n t = some ρ → ∀ (H : Heap) (locs : List Loc) (ls : Array Slot), zP D c o (zabs o (t.2)) H → va_S (zA o) s.heap H locs → lv_has ls 4 [(3, .int (t.1)), (0, .ref (o + x0)), (2, .int ((1 : Int32) <<< ((x1 - 6) &&& 31)))] → W p l e (zr 2) s m (([.ref (o + x0), .int x1] : List Value).toArray) below meth cd H locs 0 0 (MQ below (zQu D c o g ρ) (([.ref (o + x0), .int x1] : List Value).toArray) s 0 0 (zA o)) (F0 m 66 ls []) := by
          refine zlp_ind (fun ag1 ih1 t h H locs ls hP hS hl => ?_)
          obtain ⟨x3_1, σ1⟩ := t
          have hP : zP D c o (zabs o σ1) H := hP
          have hl : lv_has ls 4 [(3, .int x3_1), (0, .ref (o + x0)), (2, .int ((1 : Int32) <<< ((x1 - 6) &&& 31)))] := hl
          rw [F_X2_lower_66.eq_1] at h
          show W p l e (zr 2) s m (([.ref (o + x0), .int x1] : List Value).toArray) below meth cd H locs 0 0 (MQ below (zQu D c o g ρ) (([.ref (o + x0), .int x1] : List Value).toArray) s 0 0 (zA o)) (F0 m 66 ls [])
          refine lv_iload_n (pc := 66) hx hb dX2_lower_66 rfl (lv_at hl 0 rfl) ?_
          refine lv_iload_n (pc := 67) hx hb dX2_lower_67 rfl (lv_at hl 2 rfl) ?_
          refine lv_iadd (pc := 68) hx hb dX2_lower_68 ?_
          refine lv_bipush (pc := 69) (v := 16) hx hb dX2_lower_69 (by decide) ?_
          refine lv_icmp_ge (pc := 71) (tgt := 103) hx hb dX2_lower_71 (by decide) (fun c1 => ?_) (fun c1 => ?_)
          · rw [if_pos c1] at h
            exact xretv (pc := 103) hx hb hr hlocks hP hK hE hS h dX2_lower_103
          · rw [if_neg c1] at h
            refine lv_iload_n (pc := 74) hx hb dX2_lower_74 rfl (lv_at hl 0 rfl) ?_
            refine lv_iload_n (pc := 75) hx hb dX2_lower_75 rfl (lv_at hl 2 rfl) ?_
            refine lv_iand (pc := 76) hx hb dX2_lower_76 ?_
            refine lv_if_ne (pc := 77) (tgt := 97) hx hb dX2_lower_77 (by decide) (fun c1 => ?_) (fun c1 => ?_)
            · rw [if_neg c1] at h
              refine lv_iinc (pc := 97) (v := x3_1 + 1) (lv' := [(3, .int (x3_1 + 1)), (0, .ref (o + x0)), (2, .int ((1 : Int32) <<< ((x1 - 6) &&& 31)))]) hx hb dX2_lower_97 hl (k := 0) rfl rfl (by decide) rfl (fun ls hl => ?_)
              refine lv_goto (pc := 100) (tgt := 66) hx hb dX2_lower_100 (by decide) ?_
              exact ih1 (x3_1 + 1, σ1) h _ _ ls hP hS (lv_sub hl [0, 1, 2] rfl)
            · rw [if_pos c1] at h
              refine lv_aload_n (pc := 80) hx hb dX2_lower_80 rfl (lv_at hl 1 rfl) ?_
              obtain ⟨v2, hv, h⟩ := zl_some h
              refine xgR (pc := 81) (j := 0) zc2 hx hb hts hown hK hP hv rfl zf_X2_11 dX2_lower_81 ?_
              refine lv_iload_n (pc := 84) hx hb dX2_lower_84 rfl (lv_at hl 0 rfl) ?_
              refine lv_dup2_11 (pc := 85) hx hb dX2_lower_85 rfl rfl ?_
              obtain ⟨v3, hv, h⟩ := zl_some h
              refine xaJ (pc := 86) hx hb hK hP hv dX2_lower_86 ?_
              refine lv_aload_n (pc := 87) hx hb dX2_lower_87 rfl (lv_at hl 1 rfl) ?_
              obtain ⟨v4, hv, h⟩ := zl_some h
              refine xgR (pc := 88) (j := 0) zc2 hx hb hts hown hK hP hv rfl zf_X2_11 dX2_lower_88 ?_
              refine lv_iload_n (pc := 91) hx hb dX2_lower_91 rfl (lv_at hl 0 rfl) ?_
              refine lv_iload_n (pc := 92) hx hb dX2_lower_92 rfl (lv_at hl 2 rfl) ?_
              refine lv_iadd (pc := 93) hx hb dX2_lower_93 ?_
              obtain ⟨v5, hv, h⟩ := zl_some h
              refine xaJ (pc := 94) hx hb hK hP hv dX2_lower_94 ?_
              refine lv_lor (pc := 95) hx hb dX2_lower_95 ?_
              obtain ⟨σ6, hv, h⟩ := zl_some h
              refine xsJ (pc := 96) hx hb hK hP hS hv dX2_lower_96 (fun H locs hP hS => ?_)
              refine lv_iinc (pc := 97) (v := x3_1 + 1) (lv' := [(3, .int (x3_1 + 1)), (0, .ref (o + x0)), (2, .int ((1 : Int32) <<< ((x1 - 6) &&& 31)))]) hx hb dX2_lower_97 hl (k := 0) rfl rfl (by decide) rfl (fun ls hl => ?_)
              refine lv_goto (pc := 100) (tgt := 66) hx hb dX2_lower_100 (by decide) ?_
              exact ih1 (x3_1 + 1, σ6) h _ _ ls hP hS (lv_sub hl [0, 1, 2] rfl)
        exact L66_1 N (0, σ) h _ _ ls hP hS (lv_sub hl [0, 2, 1] rfl)
      · rw [if_neg c1] at h
        refine lv_iconst (pc := 17) (v := 0) hx hb dX2_lower_17 (by decide) ?_
        refine lv_istore_n (pc := 18) (lv' := [(2, .int 0), (0, .ref (o + x0)), (1, .int x1)]) hx hb dX2_lower_18 rfl hl (by decide) rfl (fun ls hl => ?_)
        have L19_7 : ∀ (n : Nat) (t : Int32 × zS), zlp (F_X2_lower_19 N x0 x1) n t = some ρ → ∀ (H : Heap) (locs : List Loc) (ls : Array Slot), zP D c o (zabs o (t.2)) H → va_S (zA o) s.heap H locs → lv_has ls 4 [(2, .int (t.1)), (0, .ref (o + x0)), (1, .int x1)] → W p l e (zr 2) s m (([.ref (o + x0), .int x1] : List Value).toArray) below meth cd H locs 0 0 (MQ below (zQu D c o g ρ) (([.ref (o + x0), .int x1] : List Value).toArray) s 0 0 (zA o)) (F0 m 19 ls []) := by
          refine zlp_ind (fun ag7 ih7 t h H locs ls hP hS hl => ?_)
          obtain ⟨x2_7, σ7⟩ := t
          have hP : zP D c o (zabs o σ7) H := hP
          have hl : lv_has ls 4 [(2, .int x2_7), (0, .ref (o + x0)), (1, .int x1)] := hl
          rw [F_X2_lower_19.eq_1] at h
          show W p l e (zr 2) s m (([.ref (o + x0), .int x1] : List Value).toArray) below meth cd H locs 0 0 (MQ below (zQu D c o g ρ) (([.ref (o + x0), .int x1] : List Value).toArray) s 0 0 (zA o)) (F0 m 19 ls [])
          refine lv_iload_n (pc := 19) hx hb dX2_lower_19 rfl (lv_at hl 0 rfl) ?_
          refine lv_bipush (pc := 20) (v := 16) hx hb dX2_lower_20 (by decide) ?_
          refine lv_icmp_ge (pc := 22) (tgt := 56) hx hb dX2_lower_22 (by decide) (fun c1 => ?_) (fun c1 => ?_)
          · rw [if_pos c1] at h
            exact xretv (pc := 56) hx hb hr hlocks hP hK hE hS h dX2_lower_56
          · rw [if_neg c1] at h
            refine lv_aload_n (pc := 25) hx hb dX2_lower_25 rfl (lv_at hl 1 rfl) ?_
            obtain ⟨v8, hv, h⟩ := zl_some h
            refine xgR (pc := 26) (j := 0) zc2 hx hb hts hown hK hP hv rfl zf_X2_11 dX2_lower_26 ?_
            refine lv_iload_n (pc := 29) hx hb dX2_lower_29 rfl (lv_at hl 0 rfl) ?_
            refine lv_dup2_11 (pc := 30) hx hb dX2_lower_30 rfl rfl ?_
            obtain ⟨v9, hv, h⟩ := zl_some h
            refine xaJ (pc := 31) hx hb hK hP hv dX2_lower_31 ?_
            refine lv_aload_n (pc := 32) hx hb dX2_lower_32 rfl (lv_at hl 1 rfl) ?_
            obtain ⟨v10, hv, h⟩ := zl_some h
            refine xgR (pc := 33) (j := 0) zc2 hx hb hts hown hK hP hv rfl zf_X2_11 dX2_lower_33 ?_
            refine lv_iload_n (pc := 36) hx hb dX2_lower_36 rfl (lv_at hl 0 rfl) ?_
            obtain ⟨v11, hv, h⟩ := zl_some h
            refine xaJ (pc := 37) hx hb hK hP hv dX2_lower_37 ?_
            refine lv_iconst (pc := 38) (v := 1) hx hb dX2_lower_38 (by decide) ?_
            refine lv_iload_n (pc := 39) hx hb dX2_lower_39 rfl (lv_at hl 2 rfl) ?_
            refine lv_ishl (pc := 40) hx hb dX2_lower_40 ?_
            refine lv_lushr (pc := 41) (v := zul v11 ((1 : Int32) <<< (x1 &&& 31))) hx hb dX2_lower_41 rfl ?_
            refine xgW (pc := 42) hx hb hts hown hE hS zf_X2_45 dX2_lower_42 ?_
            refine lv_iload_n (pc := 45) hx hb dX2_lower_45 rfl (lv_at hl 2 rfl) ?_
            obtain ⟨v12, hv, h⟩ := zl_some h
            refine xaW (pc := 46) hx hb hE hS hv dX2_lower_46 ?_
            refine lv_land (pc := 47) hx hb dX2_lower_47 ?_
            refine lv_lor (pc := 48) hx hb dX2_lower_48 ?_
            obtain ⟨σ13, hv, h⟩ := zl_some h
            refine xsJ (pc := 49) hx hb hK hP hS hv dX2_lower_49 (fun H locs hP hS => ?_)
            refine lv_iinc (pc := 50) (v := x2_7 + 1) (lv' := [(2, .int (x2_7 + 1)), (0, .ref (o + x0)), (1, .int x1)]) hx hb dX2_lower_50 hl (k := 0) rfl rfl (by decide) rfl (fun ls hl => ?_)
            refine lv_goto (pc := 53) (tgt := 19) hx hb dX2_lower_53 (by decide) ?_
            exact ih7 (x2_7 + 1, σ13) h _ _ ls hP hS (lv_sub hl [0, 1, 2] rfl)
        exact L19_7 N (0, σ) h _ _ ls hP hS (lv_sub hl [0, 1, 2] rfl)
    · rw [if_neg c1] at h
      exact xretv (pc := 10) hx hb hr hlocks hP hK hE hS h dX2_lower_10
def F_X0_lowerAll_2 (N : Nat) (x1 : Nat) (x2 : Int32) (again2 : (Int32 × zS) → Option (Unit × zS)) : Int32 × zS → Option (Unit × zS)
  | (x3, σ) =>
  if x2 ≤ x3 then
    (some ((), σ))
  else
    (zl (gC 2 x1) fun _ => zb (f_X2_lower N x1 x3 σ) fun v1 σ2 =>
    again2 (x3 + 1, σ2))
def f_X0_lowerAll (N : Nat) (x0 : Nat) (x1 : Nat) (x2 : Int32) (σ : zS) : Option (Unit × zS) :=
  zlp (F_X0_lowerAll_2 N x1 x2) N (0, σ)
set_option maxHeartbeats 4000000 in
set_option maxRecDepth 100000 in
theorem c_X0_lowerAll (l : Launch) (D : va_G) (c : zC) (o : Nat) (g : zEp) (N : Nat) {x0 : Nat} {x1 : Nat} {x2 : Int32} {σ : zS} {ρ : Unit × zS} (h : f_X0_lowerAll N x0 x1 x2 σ = some ρ) : Met l yX0_lowerAll zs_X0_lowerAll (zr 4) (va_Pc [.ref (o + x0), .ref (o + x1), .int x2] (zG D c o g σ)) (zQu D c o g ρ) 0 0 (zA o) := by
  refine zMetG (by decide) (Nat.le_of_ble_eq_true rfl) ?_
  intro p e s m below meth cd ⟨hx, hb, hr, hml, hown, hts, hlocks⟩ hP hK hE ls hl
  have hS : va_S (zA o) s.heap s.heap [] := va_S.rf
  have hl : lv_has ls 4 [(0, .ref (o + x0)), (1, .ref (o + x1)), (2, .int x2)] := hl
  rw [f_X0_lowerAll.eq_1] at h
  refine lv_iconst (pc := 0) (v := 0) hx hb dX0_lowerAll_0 (by decide) ?_
  refine lv_istore_n (pc := 1) (lv' := [(3, .int 0), (0, .ref (o + x0)), (1, .ref (o + x1)), (2, .int x2)]) hx hb dX0_lowerAll_1 rfl hl (by decide) rfl (fun ls hl => ?_)
  have L2_1 : ∀ (n : Nat) (t : Int32 × zS), zlp (F_X0_lowerAll_2 N x1 x2) n t = some ρ → ∀ (H : Heap) (locs : List Loc) (ls : Array Slot), zP D c o (zabs o (t.2)) H → va_S (zA o) s.heap H locs → lv_has ls 4 [(3, .int (t.1)), (1, .ref (o + x1)), (2, .int x2)] → W p l e (zr 4) s m (([.ref (o + x0), .ref (o + x1), .int x2] : List Value).toArray) below meth cd H locs 0 0 (MQ below (zQu D c o g ρ) (([.ref (o + x0), .ref (o + x1), .int x2] : List Value).toArray) s 0 0 (zA o)) (F0 m 2 ls []) := by
    refine zlp_ind (fun ag1 ih1 t h H locs ls hP hS hl => ?_)
    obtain ⟨x3_1, σ1⟩ := t
    have hP : zP D c o (zabs o σ1) H := hP
    have hl : lv_has ls 4 [(3, .int x3_1), (1, .ref (o + x1)), (2, .int x2)] := hl
    rw [F_X0_lowerAll_2.eq_1] at h
    show W p l e (zr 4) s m (([.ref (o + x0), .ref (o + x1), .int x2] : List Value).toArray) below meth cd H locs 0 0 (MQ below (zQu D c o g ρ) (([.ref (o + x0), .ref (o + x1), .int x2] : List Value).toArray) s 0 0 (zA o)) (F0 m 2 ls [])
    refine lv_iload_n (pc := 2) hx hb dX0_lowerAll_2 rfl (lv_at hl 0 rfl) ?_
    refine lv_iload_n (pc := 3) hx hb dX0_lowerAll_3 rfl (lv_at hl 2 rfl) ?_
    refine lv_icmp_ge (pc := 4) (tgt := 18) hx hb dX0_lowerAll_4 (by decide) (fun c1 => ?_) (fun c1 => ?_)
    · rw [if_pos c1] at h
      exact xretv (pc := 18) hx hb hr hlocks hP hK hE hS h dX0_lowerAll_18
    · rw [if_neg c1] at h
      refine lv_aload_n (pc := 7) hx hb dX0_lowerAll_7 rfl (lv_at hl 1 rfl) ?_
      refine lv_iload_n (pc := 8) hx hb dX0_lowerAll_8 rfl (lv_at hl 0 rfl) ?_
      obtain ⟨_, hg, h⟩ := zl_some h
      obtain ⟨v2, σ3, hv, h⟩ := zb_some h
      refine xcallVv (pc := 9) (As := [.int x3_1]) (rest := []) ⟨hx, hb, hml, hown, hts⟩ (c_X2_lower l D c o g N hv) zc2 zV_X0_77 rfl zd_X2_lower ⟨Nat.le_of_ble_eq_true rfl, Nat.le_of_ble_eq_true rfl⟩ hK hP hE hS hg hl.1 rfl (Nat.le_of_ble_eq_true rfl) ⟨Nat.zero_le _, Nat.zero_le _⟩ dX0_lowerAll_9 (fun H locs hP hS => ?_)
      refine lv_iinc (pc := 12) (v := x3_1 + 1) (lv' := [(3, .int (x3_1 + 1)), (1, .ref (o + x1)), (2, .int x2)]) hx hb dX0_lowerAll_12 hl (k := 0) rfl rfl (by decide) rfl (fun ls hl => ?_)
      refine lv_goto (pc := 15) (tgt := 2) hx hb dX0_lowerAll_15 (by decide) ?_
      exact ih1 (x3_1 + 1, σ3) h _ _ ls hP hS (lv_sub hl [0, 1, 2] rfl)
  exact L2_1 N (0, σ) h _ _ ls hP hS (lv_sub hl [0, 2, 3] rfl)
def F_X0_keepGreatest_9 (N : Nat) (x0 : Nat) (x1 : Nat) (x2 : Int32) (again9 : (Int32 × zS) → Option (Unit × zS)) : Int32 × zS → Option (Unit × zS)
  | (x3, σ) =>
  if x2 ≤ x3 then
    (zl (gR 0 0 x0 σ) fun v4 =>
    zl (gC 0 x0) fun _ => zb (f_X0_lowerAll N x0 v4 x2 σ) fun v5 σ6 =>
    zl (gR 0 0 x0 σ6) fun v7 =>
    zl (gC 2 x1) fun _ => zb (f_X2_takeAway N x1 v7 σ6) fun v8 σ9 =>
    some ((), σ9))
  else
    (zl (gR 0 1 x0 σ) fun v10 =>
    zl (gC 2 v10) fun _ => zb (f_X2_copyFrom N v10 x1 σ) fun v11 σ12 =>
    zl (gR 0 1 x0 σ12) fun v13 =>
    zl (gC 2 v13) fun _ => zb (f_X2_flip N v13 x3 σ12) fun v14 σ15 =>
    zl (gR 0 1 x0 σ15) fun v16 =>
    zl (gC 2 v16) fun _ => zb (f_X2_keepWithout N v16 x3 σ15) fun v17 σ18 =>
    zl (gR 0 0 x0 σ18) fun v19 =>
    zl (gR 0 1 x0 σ18) fun v20 =>
    zl (gC 2 v19) fun _ => zb (f_X2_join N v19 v20 σ18) fun v21 σ22 =>
    again9 (x3 + 1, σ22))
def f_X0_keepGreatest (N : Nat) (x0 : Nat) (x1 : Nat) (x2 : Int32) (σ : zS) : Option (Unit × zS) :=
  zl (gR 0 0 x0 σ) fun v1 =>
  zl (gC 2 v1) fun _ => zb (f_X2_clear N v1 σ) fun v2 σ3 =>
  zlp (F_X0_keepGreatest_9 N x0 x1 x2) N (0, σ3)
set_option maxHeartbeats 4000000 in
set_option maxRecDepth 100000 in
theorem c_X0_keepGreatest (l : Launch) (D : va_G) (c : zC) (o : Nat) (g : zEp) (N : Nat) {x0 : Nat} {x1 : Nat} {x2 : Int32} {σ : zS} {ρ : Unit × zS} (h : f_X0_keepGreatest N x0 x1 x2 σ = some ρ) : Met l yX0_keepGreatest zs_X0_keepGreatest (zr 6) (va_Pc [.ref (o + x0), .ref (o + x1), .int x2] (zG D c o g σ)) (zQu D c o g ρ) 0 0 (zA o) := by
  refine zMetG (by decide) (Nat.le_of_ble_eq_true rfl) ?_
  intro p e s m below meth cd ⟨hx, hb, hr, hml, hown, hts, hlocks⟩ hP hK hE ls hl
  have hS : va_S (zA o) s.heap s.heap [] := va_S.rf
  have hl : lv_has ls 4 [(0, .ref (o + x0)), (1, .ref (o + x1)), (2, .int x2)] := hl
  rw [f_X0_keepGreatest.eq_1] at h
  refine lv_aload_n (pc := 0) hx hb dX0_keepGreatest_0 rfl (lv_at hl 0 rfl) ?_
  obtain ⟨v1, hv, h⟩ := zl_some h
  refine xgR (pc := 1) (j := 0) zc0 hx hb hts hown hK hP hv rfl zf_X0_12 dX0_keepGreatest_1 ?_
  obtain ⟨_, hg, h⟩ := zl_some h
  obtain ⟨v2, σ3, hv, h⟩ := zb_some h
  refine xcallVv (pc := 4) (As := []) (rest := []) ⟨hx, hb, hml, hown, hts⟩ (c_X2_clear l D c o g N hv) zc2 zV_X0_83 rfl zd_X2_clear ⟨Nat.le_of_ble_eq_true rfl, Nat.le_of_ble_eq_true rfl⟩ hK hP hE hS hg hl.1 rfl (Nat.le_of_ble_eq_true rfl) ⟨Nat.zero_le _, Nat.zero_le _⟩ dX0_keepGreatest_4 (fun H locs hP hS => ?_)
  refine lv_iconst (pc := 7) (v := 0) hx hb dX0_keepGreatest_7 (by decide) ?_
  refine lv_istore_n (pc := 8) (lv' := [(3, .int 0), (0, .ref (o + x0)), (1, .ref (o + x1)), (2, .int x2)]) hx hb dX0_keepGreatest_8 rfl hl (by decide) rfl (fun ls hl => ?_)
  have L9_4 : ∀ (n : Nat) (t : Int32 × zS), zlp (F_X0_keepGreatest_9 N x0 x1 x2) n t = some ρ → ∀ (H : Heap) (locs : List Loc) (ls : Array Slot), zP D c o (zabs o (t.2)) H → va_S (zA o) s.heap H locs → lv_has ls 4 [(3, .int (t.1)), (0, .ref (o + x0)), (1, .ref (o + x1)), (2, .int x2)] → W p l e (zr 6) s m (([.ref (o + x0), .ref (o + x1), .int x2] : List Value).toArray) below meth cd H locs 0 0 (MQ below (zQu D c o g ρ) (([.ref (o + x0), .ref (o + x1), .int x2] : List Value).toArray) s 0 0 (zA o)) (F0 m 9 ls []) := by
    refine zlp_ind (fun ag4 ih4 t h H locs ls hP hS hl => ?_)
    obtain ⟨x3_4, σ4⟩ := t
    have hP : zP D c o (zabs o σ4) H := hP
    have hl : lv_has ls 4 [(3, .int x3_4), (0, .ref (o + x0)), (1, .ref (o + x1)), (2, .int x2)] := hl
    rw [F_X0_keepGreatest_9.eq_1] at h
    show W p l e (zr 6) s m (([.ref (o + x0), .ref (o + x1), .int x2] : List Value).toArray) below meth cd H locs 0 0 (MQ below (zQu D c o g ρ) (([.ref (o + x0), .ref (o + x1), .int x2] : List Value).toArray) s 0 0 (zA o)) (F0 m 9 ls [])
    refine lv_iload_n (pc := 9) hx hb dX0_keepGreatest_9 rfl (lv_at hl 0 rfl) ?_
    refine lv_iload_n (pc := 10) hx hb dX0_keepGreatest_10 rfl (lv_at hl 3 rfl) ?_
    refine lv_icmp_ge (pc := 11) (tgt := 55) hx hb dX0_keepGreatest_11 (by decide) (fun c1 => ?_) (fun c1 => ?_)
    · rw [if_pos c1] at h
      refine lv_aload_n (pc := 55) hx hb dX0_keepGreatest_55 rfl (lv_at hl 1 rfl) ?_
      refine lv_aload_n (pc := 56) hx hb dX0_keepGreatest_56 rfl (lv_at hl 1 rfl) ?_
      obtain ⟨v5, hv, h⟩ := zl_some h
      refine xgR (pc := 57) (j := 0) zc0 hx hb hts hown hK hP hv rfl zf_X0_12 dX0_keepGreatest_57 ?_
      refine lv_iload_n (pc := 60) hx hb dX0_keepGreatest_60 rfl (lv_at hl 3 rfl) ?_
      obtain ⟨_, hg, h⟩ := zl_some h
      obtain ⟨v6, σ7, hv, h⟩ := zb_some h
      refine xcallVv (pc := 61) (As := [.ref (o + v5), .int x2]) (rest := []) ⟨hx, hb, hml, hown, hts⟩ (c_X0_lowerAll l D c o g N hv) zc0 zV_X0_67 rfl zd_X0_lowerAll ⟨Nat.le_of_ble_eq_true rfl, Nat.le_of_ble_eq_true rfl⟩ hK hP hE hS hg hl.1 rfl (Nat.le_of_ble_eq_true rfl) ⟨Nat.zero_le _, Nat.zero_le _⟩ dX0_keepGreatest_61 (fun H locs hP hS => ?_)
      refine lv_aload_n (pc := 64) hx hb dX0_keepGreatest_64 rfl (lv_at hl 2 rfl) ?_
      refine lv_aload_n (pc := 65) hx hb dX0_keepGreatest_65 rfl (lv_at hl 1 rfl) ?_
      obtain ⟨v8, hv, h⟩ := zl_some h
      refine xgR (pc := 66) (j := 0) zc0 hx hb hts hown hK hP hv rfl zf_X0_12 dX0_keepGreatest_66 ?_
      obtain ⟨_, hg, h⟩ := zl_some h
      obtain ⟨v9, σ10, hv, h⟩ := zb_some h
      refine xcallVv (pc := 69) (As := [.ref (o + v8)]) (rest := []) ⟨hx, hb, hml, hown, hts⟩ (c_X2_takeAway l D c o g N hv) zc2 zV_X0_35 rfl zd_X2_takeAway ⟨Nat.le_of_ble_eq_true rfl, Nat.le_of_ble_eq_true rfl⟩ hK hP hE hS hg hl.1 rfl (Nat.le_of_ble_eq_true rfl) ⟨Nat.zero_le _, Nat.zero_le _⟩ dX0_keepGreatest_69 (fun H locs hP hS => ?_)
      exact xretv (pc := 72) hx hb hr hlocks hP hK hE hS h dX0_keepGreatest_72
    · rw [if_neg c1] at h
      refine lv_aload_n (pc := 14) hx hb dX0_keepGreatest_14 rfl (lv_at hl 1 rfl) ?_
      obtain ⟨v11, hv, h⟩ := zl_some h
      refine xgR (pc := 15) (j := 1) zc0 hx hb hts hown hK hP hv rfl zf_X0_18 dX0_keepGreatest_15 ?_
      refine lv_aload_n (pc := 18) hx hb dX0_keepGreatest_18 rfl (lv_at hl 2 rfl) ?_
      obtain ⟨_, hg, h⟩ := zl_some h
      obtain ⟨v12, σ13, hv, h⟩ := zb_some h
      refine xcallVv (pc := 19) (As := [.ref (o + x1)]) (rest := []) ⟨hx, hb, hml, hown, hts⟩ (c_X2_copyFrom l D c o g N hv) zc2 zV_X0_48 rfl zd_X2_copyFrom ⟨Nat.le_of_ble_eq_true rfl, Nat.le_of_ble_eq_true rfl⟩ hK hP hE hS hg hl.1 rfl (Nat.le_of_ble_eq_true rfl) ⟨Nat.zero_le _, Nat.zero_le _⟩ dX0_keepGreatest_19 (fun H locs hP hS => ?_)
      refine lv_aload_n (pc := 22) hx hb dX0_keepGreatest_22 rfl (lv_at hl 1 rfl) ?_
      obtain ⟨v14, hv, h⟩ := zl_some h
      refine xgR (pc := 23) (j := 1) zc0 hx hb hts hown hK hP hv rfl zf_X0_18 dX0_keepGreatest_23 ?_
      refine lv_iload_n (pc := 26) hx hb dX0_keepGreatest_26 rfl (lv_at hl 0 rfl) ?_
      obtain ⟨_, hg, h⟩ := zl_some h
      obtain ⟨v15, σ16, hv, h⟩ := zb_some h
      refine xcallVv (pc := 27) (As := [.int x3_4]) (rest := []) ⟨hx, hb, hml, hown, hts⟩ (c_X2_flip l D c o g N hv) zc2 zV_X0_80 rfl zd_X2_flip ⟨Nat.le_of_ble_eq_true rfl, Nat.le_of_ble_eq_true rfl⟩ hK hP hE hS hg hl.1 rfl (Nat.le_of_ble_eq_true rfl) ⟨Nat.zero_le _, Nat.zero_le _⟩ dX0_keepGreatest_27 (fun H locs hP hS => ?_)
      refine lv_aload_n (pc := 30) hx hb dX0_keepGreatest_30 rfl (lv_at hl 1 rfl) ?_
      obtain ⟨v17, hv, h⟩ := zl_some h
      refine xgR (pc := 31) (j := 1) zc0 hx hb hts hown hK hP hv rfl zf_X0_18 dX0_keepGreatest_31 ?_
      refine lv_iload_n (pc := 34) hx hb dX0_keepGreatest_34 rfl (lv_at hl 0 rfl) ?_
      obtain ⟨_, hg, h⟩ := zl_some h
      obtain ⟨v18, σ19, hv, h⟩ := zb_some h
      refine xcallVv (pc := 35) (As := [.int x3_4]) (rest := []) ⟨hx, hb, hml, hown, hts⟩ (c_X2_keepWithout l D c o g N hv) zc2 zV_X0_86 rfl zd_X2_keepWithout ⟨Nat.le_of_ble_eq_true rfl, Nat.le_of_ble_eq_true rfl⟩ hK hP hE hS hg hl.1 rfl (Nat.le_of_ble_eq_true rfl) ⟨Nat.zero_le _, Nat.zero_le _⟩ dX0_keepGreatest_35 (fun H locs hP hS => ?_)
      refine lv_aload_n (pc := 38) hx hb dX0_keepGreatest_38 rfl (lv_at hl 1 rfl) ?_
      obtain ⟨v20, hv, h⟩ := zl_some h
      refine xgR (pc := 39) (j := 0) zc0 hx hb hts hown hK hP hv rfl zf_X0_12 dX0_keepGreatest_39 ?_
      refine lv_aload_n (pc := 42) hx hb dX0_keepGreatest_42 rfl (lv_at hl 1 rfl) ?_
      obtain ⟨v21, hv, h⟩ := zl_some h
      refine xgR (pc := 43) (j := 1) zc0 hx hb hts hown hK hP hv rfl zf_X0_18 dX0_keepGreatest_43 ?_
      obtain ⟨_, hg, h⟩ := zl_some h
      obtain ⟨v22, σ23, hv, h⟩ := zb_some h
      refine xcallVv (pc := 46) (As := [.ref (o + v21)]) (rest := []) ⟨hx, hb, hml, hown, hts⟩ (c_X2_join l D c o g N hv) zc2 zV_X0_31 rfl zd_X2_join ⟨Nat.le_of_ble_eq_true rfl, Nat.le_of_ble_eq_true rfl⟩ hK hP hE hS hg hl.1 rfl (Nat.le_of_ble_eq_true rfl) ⟨Nat.zero_le _, Nat.zero_le _⟩ dX0_keepGreatest_46 (fun H locs hP hS => ?_)
      refine lv_iinc (pc := 49) (v := x3_4 + 1) (lv' := [(3, .int (x3_4 + 1)), (0, .ref (o + x0)), (1, .ref (o + x1)), (2, .int x2)]) hx hb dX0_keepGreatest_49 hl (k := 0) rfl rfl (by decide) rfl (fun ls hl => ?_)
      refine lv_goto (pc := 52) (tgt := 9) hx hb dX0_keepGreatest_52 (by decide) ?_
      exact ih4 (x3_4 + 1, σ23) h _ _ ls hP hS (lv_sub hl [0, 1, 2, 3] rfl)
  exact L9_4 N (0, σ3) h _ _ ls hP hS (lv_sub hl [0, 1, 2, 3] rfl)
def F_X0_keepLeast_9 (N : Nat) (x0 : Nat) (x1 : Nat) (x2 : Int32) (again9 : (Int32 × zS) → Option (Unit × zS)) : Int32 × zS → Option (Unit × zS)
  | (x3, σ) =>
  if x2 ≤ x3 then
    (zl (gR 0 0 x0 σ) fun v4 =>
    zl (gC 0 x0) fun _ => zb (f_X0_raiseAll N x0 v4 x2 σ) fun v5 σ6 =>
    zl (gR 0 0 x0 σ6) fun v7 =>
    zl (gC 2 x1) fun _ => zb (f_X2_takeAway N x1 v7 σ6) fun v8 σ9 =>
    some ((), σ9))
  else
    (zl (gR 0 1 x0 σ) fun v10 =>
    zl (gC 2 v10) fun _ => zb (f_X2_copyFrom N v10 x1 σ) fun v11 σ12 =>
    zl (gR 0 1 x0 σ12) fun v13 =>
    zl (gC 2 v13) fun _ => zb (f_X2_keepWithout N v13 x3 σ12) fun v14 σ15 =>
    zl (gR 0 1 x0 σ15) fun v16 =>
    zl (gC 2 v16) fun _ => zb (f_X2_flip N v16 x3 σ15) fun v17 σ18 =>
    zl (gR 0 0 x0 σ18) fun v19 =>
    zl (gR 0 1 x0 σ18) fun v20 =>
    zl (gC 2 v19) fun _ => zb (f_X2_join N v19 v20 σ18) fun v21 σ22 =>
    again9 (x3 + 1, σ22))
def f_X0_keepLeast (N : Nat) (x0 : Nat) (x1 : Nat) (x2 : Int32) (σ : zS) : Option (Unit × zS) :=
  zl (gR 0 0 x0 σ) fun v1 =>
  zl (gC 2 v1) fun _ => zb (f_X2_clear N v1 σ) fun v2 σ3 =>
  zlp (F_X0_keepLeast_9 N x0 x1 x2) N (0, σ3)
set_option maxHeartbeats 4000000 in
set_option maxRecDepth 100000 in
theorem c_X0_keepLeast (l : Launch) (D : va_G) (c : zC) (o : Nat) (g : zEp) (N : Nat) {x0 : Nat} {x1 : Nat} {x2 : Int32} {σ : zS} {ρ : Unit × zS} (h : f_X0_keepLeast N x0 x1 x2 σ = some ρ) : Met l yX0_keepLeast zs_X0_keepLeast (zr 6) (va_Pc [.ref (o + x0), .ref (o + x1), .int x2] (zG D c o g σ)) (zQu D c o g ρ) 0 0 (zA o) := by
  refine zMetG (by decide) (Nat.le_of_ble_eq_true rfl) ?_
  intro p e s m below meth cd ⟨hx, hb, hr, hml, hown, hts, hlocks⟩ hP hK hE ls hl
  have hS : va_S (zA o) s.heap s.heap [] := va_S.rf
  have hl : lv_has ls 4 [(0, .ref (o + x0)), (1, .ref (o + x1)), (2, .int x2)] := hl
  rw [f_X0_keepLeast.eq_1] at h
  refine lv_aload_n (pc := 0) hx hb dX0_keepLeast_0 rfl (lv_at hl 0 rfl) ?_
  obtain ⟨v1, hv, h⟩ := zl_some h
  refine xgR (pc := 1) (j := 0) zc0 hx hb hts hown hK hP hv rfl zf_X0_12 dX0_keepLeast_1 ?_
  obtain ⟨_, hg, h⟩ := zl_some h
  obtain ⟨v2, σ3, hv, h⟩ := zb_some h
  refine xcallVv (pc := 4) (As := []) (rest := []) ⟨hx, hb, hml, hown, hts⟩ (c_X2_clear l D c o g N hv) zc2 zV_X0_83 rfl zd_X2_clear ⟨Nat.le_of_ble_eq_true rfl, Nat.le_of_ble_eq_true rfl⟩ hK hP hE hS hg hl.1 rfl (Nat.le_of_ble_eq_true rfl) ⟨Nat.zero_le _, Nat.zero_le _⟩ dX0_keepLeast_4 (fun H locs hP hS => ?_)
  refine lv_iconst (pc := 7) (v := 0) hx hb dX0_keepLeast_7 (by decide) ?_
  refine lv_istore_n (pc := 8) (lv' := [(3, .int 0), (0, .ref (o + x0)), (1, .ref (o + x1)), (2, .int x2)]) hx hb dX0_keepLeast_8 rfl hl (by decide) rfl (fun ls hl => ?_)
  have L9_4 : ∀ (n : Nat) (t : Int32 × zS), zlp (F_X0_keepLeast_9 N x0 x1 x2) n t = some ρ → ∀ (H : Heap) (locs : List Loc) (ls : Array Slot), zP D c o (zabs o (t.2)) H → va_S (zA o) s.heap H locs → lv_has ls 4 [(3, .int (t.1)), (0, .ref (o + x0)), (1, .ref (o + x1)), (2, .int x2)] → W p l e (zr 6) s m (([.ref (o + x0), .ref (o + x1), .int x2] : List Value).toArray) below meth cd H locs 0 0 (MQ below (zQu D c o g ρ) (([.ref (o + x0), .ref (o + x1), .int x2] : List Value).toArray) s 0 0 (zA o)) (F0 m 9 ls []) := by
    refine zlp_ind (fun ag4 ih4 t h H locs ls hP hS hl => ?_)
    obtain ⟨x3_4, σ4⟩ := t
    have hP : zP D c o (zabs o σ4) H := hP
    have hl : lv_has ls 4 [(3, .int x3_4), (0, .ref (o + x0)), (1, .ref (o + x1)), (2, .int x2)] := hl
    rw [F_X0_keepLeast_9.eq_1] at h
    show W p l e (zr 6) s m (([.ref (o + x0), .ref (o + x1), .int x2] : List Value).toArray) below meth cd H locs 0 0 (MQ below (zQu D c o g ρ) (([.ref (o + x0), .ref (o + x1), .int x2] : List Value).toArray) s 0 0 (zA o)) (F0 m 9 ls [])
    refine lv_iload_n (pc := 9) hx hb dX0_keepLeast_9 rfl (lv_at hl 0 rfl) ?_
    refine lv_iload_n (pc := 10) hx hb dX0_keepLeast_10 rfl (lv_at hl 3 rfl) ?_
    refine lv_icmp_ge (pc := 11) (tgt := 55) hx hb dX0_keepLeast_11 (by decide) (fun c1 => ?_) (fun c1 => ?_)
    · rw [if_pos c1] at h
      refine lv_aload_n (pc := 55) hx hb dX0_keepLeast_55 rfl (lv_at hl 1 rfl) ?_
      refine lv_aload_n (pc := 56) hx hb dX0_keepLeast_56 rfl (lv_at hl 1 rfl) ?_
      obtain ⟨v5, hv, h⟩ := zl_some h
      refine xgR (pc := 57) (j := 0) zc0 hx hb hts hown hK hP hv rfl zf_X0_12 dX0_keepLeast_57 ?_
      refine lv_iload_n (pc := 60) hx hb dX0_keepLeast_60 rfl (lv_at hl 3 rfl) ?_
      obtain ⟨_, hg, h⟩ := zl_some h
      obtain ⟨v6, σ7, hv, h⟩ := zb_some h
      refine xcallVv (pc := 61) (As := [.ref (o + v5), .int x2]) (rest := []) ⟨hx, hb, hml, hown, hts⟩ (c_X0_raiseAll l D c o g N hv) zc0 zV_X0_64 rfl zd_X0_raiseAll ⟨Nat.le_of_ble_eq_true rfl, Nat.le_of_ble_eq_true rfl⟩ hK hP hE hS hg hl.1 rfl (Nat.le_of_ble_eq_true rfl) ⟨Nat.zero_le _, Nat.zero_le _⟩ dX0_keepLeast_61 (fun H locs hP hS => ?_)
      refine lv_aload_n (pc := 64) hx hb dX0_keepLeast_64 rfl (lv_at hl 2 rfl) ?_
      refine lv_aload_n (pc := 65) hx hb dX0_keepLeast_65 rfl (lv_at hl 1 rfl) ?_
      obtain ⟨v8, hv, h⟩ := zl_some h
      refine xgR (pc := 66) (j := 0) zc0 hx hb hts hown hK hP hv rfl zf_X0_12 dX0_keepLeast_66 ?_
      obtain ⟨_, hg, h⟩ := zl_some h
      obtain ⟨v9, σ10, hv, h⟩ := zb_some h
      refine xcallVv (pc := 69) (As := [.ref (o + v8)]) (rest := []) ⟨hx, hb, hml, hown, hts⟩ (c_X2_takeAway l D c o g N hv) zc2 zV_X0_35 rfl zd_X2_takeAway ⟨Nat.le_of_ble_eq_true rfl, Nat.le_of_ble_eq_true rfl⟩ hK hP hE hS hg hl.1 rfl (Nat.le_of_ble_eq_true rfl) ⟨Nat.zero_le _, Nat.zero_le _⟩ dX0_keepLeast_69 (fun H locs hP hS => ?_)
      exact xretv (pc := 72) hx hb hr hlocks hP hK hE hS h dX0_keepLeast_72
    · rw [if_neg c1] at h
      refine lv_aload_n (pc := 14) hx hb dX0_keepLeast_14 rfl (lv_at hl 1 rfl) ?_
      obtain ⟨v11, hv, h⟩ := zl_some h
      refine xgR (pc := 15) (j := 1) zc0 hx hb hts hown hK hP hv rfl zf_X0_18 dX0_keepLeast_15 ?_
      refine lv_aload_n (pc := 18) hx hb dX0_keepLeast_18 rfl (lv_at hl 2 rfl) ?_
      obtain ⟨_, hg, h⟩ := zl_some h
      obtain ⟨v12, σ13, hv, h⟩ := zb_some h
      refine xcallVv (pc := 19) (As := [.ref (o + x1)]) (rest := []) ⟨hx, hb, hml, hown, hts⟩ (c_X2_copyFrom l D c o g N hv) zc2 zV_X0_48 rfl zd_X2_copyFrom ⟨Nat.le_of_ble_eq_true rfl, Nat.le_of_ble_eq_true rfl⟩ hK hP hE hS hg hl.1 rfl (Nat.le_of_ble_eq_true rfl) ⟨Nat.zero_le _, Nat.zero_le _⟩ dX0_keepLeast_19 (fun H locs hP hS => ?_)
      refine lv_aload_n (pc := 22) hx hb dX0_keepLeast_22 rfl (lv_at hl 1 rfl) ?_
      obtain ⟨v14, hv, h⟩ := zl_some h
      refine xgR (pc := 23) (j := 1) zc0 hx hb hts hown hK hP hv rfl zf_X0_18 dX0_keepLeast_23 ?_
      refine lv_iload_n (pc := 26) hx hb dX0_keepLeast_26 rfl (lv_at hl 0 rfl) ?_
      obtain ⟨_, hg, h⟩ := zl_some h
      obtain ⟨v15, σ16, hv, h⟩ := zb_some h
      refine xcallVv (pc := 27) (As := [.int x3_4]) (rest := []) ⟨hx, hb, hml, hown, hts⟩ (c_X2_keepWithout l D c o g N hv) zc2 zV_X0_86 rfl zd_X2_keepWithout ⟨Nat.le_of_ble_eq_true rfl, Nat.le_of_ble_eq_true rfl⟩ hK hP hE hS hg hl.1 rfl (Nat.le_of_ble_eq_true rfl) ⟨Nat.zero_le _, Nat.zero_le _⟩ dX0_keepLeast_27 (fun H locs hP hS => ?_)
      refine lv_aload_n (pc := 30) hx hb dX0_keepLeast_30 rfl (lv_at hl 1 rfl) ?_
      obtain ⟨v17, hv, h⟩ := zl_some h
      refine xgR (pc := 31) (j := 1) zc0 hx hb hts hown hK hP hv rfl zf_X0_18 dX0_keepLeast_31 ?_
      refine lv_iload_n (pc := 34) hx hb dX0_keepLeast_34 rfl (lv_at hl 0 rfl) ?_
      obtain ⟨_, hg, h⟩ := zl_some h
      obtain ⟨v18, σ19, hv, h⟩ := zb_some h
      refine xcallVv (pc := 35) (As := [.int x3_4]) (rest := []) ⟨hx, hb, hml, hown, hts⟩ (c_X2_flip l D c o g N hv) zc2 zV_X0_80 rfl zd_X2_flip ⟨Nat.le_of_ble_eq_true rfl, Nat.le_of_ble_eq_true rfl⟩ hK hP hE hS hg hl.1 rfl (Nat.le_of_ble_eq_true rfl) ⟨Nat.zero_le _, Nat.zero_le _⟩ dX0_keepLeast_35 (fun H locs hP hS => ?_)
      refine lv_aload_n (pc := 38) hx hb dX0_keepLeast_38 rfl (lv_at hl 1 rfl) ?_
      obtain ⟨v20, hv, h⟩ := zl_some h
      refine xgR (pc := 39) (j := 0) zc0 hx hb hts hown hK hP hv rfl zf_X0_12 dX0_keepLeast_39 ?_
      refine lv_aload_n (pc := 42) hx hb dX0_keepLeast_42 rfl (lv_at hl 1 rfl) ?_
      obtain ⟨v21, hv, h⟩ := zl_some h
      refine xgR (pc := 43) (j := 1) zc0 hx hb hts hown hK hP hv rfl zf_X0_18 dX0_keepLeast_43 ?_
      obtain ⟨_, hg, h⟩ := zl_some h
      obtain ⟨v22, σ23, hv, h⟩ := zb_some h
      refine xcallVv (pc := 46) (As := [.ref (o + v21)]) (rest := []) ⟨hx, hb, hml, hown, hts⟩ (c_X2_join l D c o g N hv) zc2 zV_X0_31 rfl zd_X2_join ⟨Nat.le_of_ble_eq_true rfl, Nat.le_of_ble_eq_true rfl⟩ hK hP hE hS hg hl.1 rfl (Nat.le_of_ble_eq_true rfl) ⟨Nat.zero_le _, Nat.zero_le _⟩ dX0_keepLeast_46 (fun H locs hP hS => ?_)
      refine lv_iinc (pc := 49) (v := x3_4 + 1) (lv' := [(3, .int (x3_4 + 1)), (0, .ref (o + x0)), (1, .ref (o + x1)), (2, .int x2)]) hx hb dX0_keepLeast_49 hl (k := 0) rfl rfl (by decide) rfl (fun ls hl => ?_)
      refine lv_goto (pc := 52) (tgt := 9) hx hb dX0_keepLeast_52 (by decide) ?_
      exact ih4 (x3_4 + 1, σ23) h _ _ ls hP hS (lv_sub hl [0, 1, 2, 3] rfl)
  exact L9_4 N (0, σ3) h _ _ ls hP hS (lv_sub hl [0, 1, 2, 3] rfl)
def f_X0_reshape (N : Nat) (x0 : Nat) (x1 : Int32) (x2 : Nat) (x3 : Int32) (σ : zS) : Option (Unit × zS) :=
  if x1 = 0 then
    (zl (gC 0 x0) fun _ => zb (f_X0_keepLeast N x0 x2 x3 σ) fun v1 σ2 =>
    some ((), σ2))
  else if x1 = 1 then
    (zl (gC 0 x0) fun _ => zb (f_X0_keepGreatest N x0 x2 x3 σ) fun v3 σ4 =>
    some ((), σ4))
  else if x1 = 2 then
    (zl (gC 0 x0) fun _ => zb (f_X0_becomeMissing N x0 x2 x3 σ) fun v5 σ6 =>
    zl (gC 0 x0) fun _ => zb (f_X0_complement N x0 x2 x3 σ6) fun v7 σ8 =>
    zl (gC 0 x0) fun _ => zb (f_X0_keepLeast N x0 x2 x3 σ8) fun v9 σ10 =>
    some ((), σ10))
  else if x1 = 3 then
    (zl (gC 0 x0) fun _ => zb (f_X0_complement N x0 x2 x3 σ) fun v11 σ12 =>
    some ((), σ12))
  else if x1 = 4 then
    (zl (gC 0 x0) fun _ => zb (f_X0_raiseAll N x0 x2 x3 σ) fun v13 σ14 =>
    some ((), σ14))
  else if x1 = 5 then
    (zl (gC 0 x0) fun _ => zb (f_X0_lowerAll N x0 x2 x3 σ) fun v15 σ16 =>
    some ((), σ16))
  else (some ((), σ))
set_option maxHeartbeats 4000000 in
set_option maxRecDepth 100000 in
theorem c_X0_reshape (l : Launch) (D : va_G) (c : zC) (o : Nat) (g : zEp) (N : Nat) {x0 : Nat} {x1 : Int32} {x2 : Nat} {x3 : Int32} {σ : zS} {ρ : Unit × zS} (h : f_X0_reshape N x0 x1 x2 x3 σ = some ρ) : Met l yX0_reshape zs_X0_reshape (zr 10) (va_Pc [.ref (o + x0), .int x1, .ref (o + x2), .int x3] (zG D c o g σ)) (zQu D c o g ρ) 0 0 (zA o) := by
  refine zMetG (by decide) (Nat.le_of_ble_eq_true rfl) ?_
  intro p e s m below meth cd ⟨hx, hb, hr, hml, hown, hts, hlocks⟩ hP hK hE ls hl
  have hS : va_S (zA o) s.heap s.heap [] := va_S.rf
  have hl : lv_has ls 4 [(0, .ref (o + x0)), (1, .int x1), (2, .ref (o + x2)), (3, .int x3)] := hl
  rw [f_X0_reshape.eq_1] at h
  refine lv_iload_n (pc := 0) hx hb dX0_reshape_0 rfl (lv_at hl 1 rfl) ?_
  by_cases w0_1 : x1 = 0
  · rw [if_pos w0_1] at h
    refine lv_tableIn (pc := 1) (tgt := 40) hx hb dX0_reshape_1 (by rw [w0_1]; decide) (by rw [w0_1]; decide) (by rw [w0_1]; rfl) (by decide) ?_
    refine lv_aload_n (pc := 40) hx hb dX0_reshape_40 rfl (lv_at hl 0 rfl) ?_
    refine lv_aload_n (pc := 41) hx hb dX0_reshape_41 rfl (lv_at hl 2 rfl) ?_
    refine lv_iload_n (pc := 42) hx hb dX0_reshape_42 rfl (lv_at hl 3 rfl) ?_
    obtain ⟨_, hg, h⟩ := zl_some h
    obtain ⟨v1, σ2, hv, h⟩ := zb_some h
    refine xcallVv (pc := 43) (As := [.ref (o + x2), .int x3]) (rest := []) ⟨hx, hb, hml, hown, hts⟩ (c_X0_keepLeast l D c o g N hv) zc0 zV_X0_55 rfl zd_X0_keepLeast ⟨Nat.le_of_ble_eq_true rfl, Nat.le_of_ble_eq_true rfl⟩ hK hP hE hS hg hl.1 rfl (Nat.le_of_ble_eq_true rfl) ⟨Nat.zero_le _, Nat.zero_le _⟩ dX0_reshape_43 (fun H locs hP hS => ?_)
    refine lv_goto (pc := 46) (tgt := 106) hx hb dX0_reshape_46 (by decide) ?_
    exact xretv (pc := 106) hx hb hr hlocks hP hK hE hS h dX0_reshape_106
  rw [if_neg w0_1] at h
  by_cases w1_1 : x1 = 1
  · rw [if_pos w1_1] at h
    refine lv_tableIn (pc := 1) (tgt := 49) hx hb dX0_reshape_1 (by rw [w1_1]; decide) (by rw [w1_1]; decide) (by rw [w1_1]; rfl) (by decide) ?_
    refine lv_aload_n (pc := 49) hx hb dX0_reshape_49 rfl (lv_at hl 0 rfl) ?_
    refine lv_aload_n (pc := 50) hx hb dX0_reshape_50 rfl (lv_at hl 2 rfl) ?_
    refine lv_iload_n (pc := 51) hx hb dX0_reshape_51 rfl (lv_at hl 3 rfl) ?_
    obtain ⟨_, hg, h⟩ := zl_some h
    obtain ⟨v3, σ4, hv, h⟩ := zb_some h
    refine xcallVv (pc := 52) (As := [.ref (o + x2), .int x3]) (rest := []) ⟨hx, hb, hml, hown, hts⟩ (c_X0_keepGreatest l D c o g N hv) zc0 zV_X0_58 rfl zd_X0_keepGreatest ⟨Nat.le_of_ble_eq_true rfl, Nat.le_of_ble_eq_true rfl⟩ hK hP hE hS hg hl.1 rfl (Nat.le_of_ble_eq_true rfl) ⟨Nat.zero_le _, Nat.zero_le _⟩ dX0_reshape_52 (fun H locs hP hS => ?_)
    refine lv_goto (pc := 55) (tgt := 106) hx hb dX0_reshape_55 (by decide) ?_
    exact xretv (pc := 106) hx hb hr hlocks hP hK hE hS h dX0_reshape_106
  rw [if_neg w1_1] at h
  by_cases w2_1 : x1 = 2
  · rw [if_pos w2_1] at h
    refine lv_tableIn (pc := 1) (tgt := 58) hx hb dX0_reshape_1 (by rw [w2_1]; decide) (by rw [w2_1]; decide) (by rw [w2_1]; rfl) (by decide) ?_
    refine lv_aload_n (pc := 58) hx hb dX0_reshape_58 rfl (lv_at hl 0 rfl) ?_
    refine lv_aload_n (pc := 59) hx hb dX0_reshape_59 rfl (lv_at hl 2 rfl) ?_
    refine lv_iload_n (pc := 60) hx hb dX0_reshape_60 rfl (lv_at hl 3 rfl) ?_
    obtain ⟨_, hg, h⟩ := zl_some h
    obtain ⟨v5, σ6, hv, h⟩ := zb_some h
    refine xcallVv (pc := 61) (As := [.ref (o + x2), .int x3]) (rest := []) ⟨hx, hb, hml, hown, hts⟩ (c_X0_becomeMissing l D c o g N hv) zc0 zV_X0_51 rfl zd_X0_becomeMissing ⟨Nat.le_of_ble_eq_true rfl, Nat.le_of_ble_eq_true rfl⟩ hK hP hE hS hg hl.1 rfl (Nat.le_of_ble_eq_true rfl) ⟨Nat.zero_le _, Nat.zero_le _⟩ dX0_reshape_61 (fun H locs hP hS => ?_)
    refine lv_aload_n (pc := 64) hx hb dX0_reshape_64 rfl (lv_at hl 0 rfl) ?_
    refine lv_aload_n (pc := 65) hx hb dX0_reshape_65 rfl (lv_at hl 2 rfl) ?_
    refine lv_iload_n (pc := 66) hx hb dX0_reshape_66 rfl (lv_at hl 3 rfl) ?_
    obtain ⟨_, hg, h⟩ := zl_some h
    obtain ⟨v7, σ8, hv, h⟩ := zb_some h
    refine xcallVv (pc := 67) (As := [.ref (o + x2), .int x3]) (rest := []) ⟨hx, hb, hml, hown, hts⟩ (c_X0_complement l D c o g N hv) zc0 zV_X0_61 rfl zd_X0_complement ⟨Nat.le_of_ble_eq_true rfl, Nat.le_of_ble_eq_true rfl⟩ hK hP hE hS hg hl.1 rfl (Nat.le_of_ble_eq_true rfl) ⟨Nat.zero_le _, Nat.zero_le _⟩ dX0_reshape_67 (fun H locs hP hS => ?_)
    refine lv_aload_n (pc := 70) hx hb dX0_reshape_70 rfl (lv_at hl 0 rfl) ?_
    refine lv_aload_n (pc := 71) hx hb dX0_reshape_71 rfl (lv_at hl 2 rfl) ?_
    refine lv_iload_n (pc := 72) hx hb dX0_reshape_72 rfl (lv_at hl 3 rfl) ?_
    obtain ⟨_, hg, h⟩ := zl_some h
    obtain ⟨v9, σ10, hv, h⟩ := zb_some h
    refine xcallVv (pc := 73) (As := [.ref (o + x2), .int x3]) (rest := []) ⟨hx, hb, hml, hown, hts⟩ (c_X0_keepLeast l D c o g N hv) zc0 zV_X0_55 rfl zd_X0_keepLeast ⟨Nat.le_of_ble_eq_true rfl, Nat.le_of_ble_eq_true rfl⟩ hK hP hE hS hg hl.1 rfl (Nat.le_of_ble_eq_true rfl) ⟨Nat.zero_le _, Nat.zero_le _⟩ dX0_reshape_73 (fun H locs hP hS => ?_)
    refine lv_goto (pc := 76) (tgt := 106) hx hb dX0_reshape_76 (by decide) ?_
    exact xretv (pc := 106) hx hb hr hlocks hP hK hE hS h dX0_reshape_106
  rw [if_neg w2_1] at h
  by_cases w3_1 : x1 = 3
  · rw [if_pos w3_1] at h
    refine lv_tableIn (pc := 1) (tgt := 79) hx hb dX0_reshape_1 (by rw [w3_1]; decide) (by rw [w3_1]; decide) (by rw [w3_1]; rfl) (by decide) ?_
    refine lv_aload_n (pc := 79) hx hb dX0_reshape_79 rfl (lv_at hl 0 rfl) ?_
    refine lv_aload_n (pc := 80) hx hb dX0_reshape_80 rfl (lv_at hl 2 rfl) ?_
    refine lv_iload_n (pc := 81) hx hb dX0_reshape_81 rfl (lv_at hl 3 rfl) ?_
    obtain ⟨_, hg, h⟩ := zl_some h
    obtain ⟨v11, σ12, hv, h⟩ := zb_some h
    refine xcallVv (pc := 82) (As := [.ref (o + x2), .int x3]) (rest := []) ⟨hx, hb, hml, hown, hts⟩ (c_X0_complement l D c o g N hv) zc0 zV_X0_61 rfl zd_X0_complement ⟨Nat.le_of_ble_eq_true rfl, Nat.le_of_ble_eq_true rfl⟩ hK hP hE hS hg hl.1 rfl (Nat.le_of_ble_eq_true rfl) ⟨Nat.zero_le _, Nat.zero_le _⟩ dX0_reshape_82 (fun H locs hP hS => ?_)
    refine lv_goto (pc := 85) (tgt := 106) hx hb dX0_reshape_85 (by decide) ?_
    exact xretv (pc := 106) hx hb hr hlocks hP hK hE hS h dX0_reshape_106
  rw [if_neg w3_1] at h
  by_cases w4_1 : x1 = 4
  · rw [if_pos w4_1] at h
    refine lv_tableIn (pc := 1) (tgt := 88) hx hb dX0_reshape_1 (by rw [w4_1]; decide) (by rw [w4_1]; decide) (by rw [w4_1]; rfl) (by decide) ?_
    refine lv_aload_n (pc := 88) hx hb dX0_reshape_88 rfl (lv_at hl 0 rfl) ?_
    refine lv_aload_n (pc := 89) hx hb dX0_reshape_89 rfl (lv_at hl 2 rfl) ?_
    refine lv_iload_n (pc := 90) hx hb dX0_reshape_90 rfl (lv_at hl 3 rfl) ?_
    obtain ⟨_, hg, h⟩ := zl_some h
    obtain ⟨v13, σ14, hv, h⟩ := zb_some h
    refine xcallVv (pc := 91) (As := [.ref (o + x2), .int x3]) (rest := []) ⟨hx, hb, hml, hown, hts⟩ (c_X0_raiseAll l D c o g N hv) zc0 zV_X0_64 rfl zd_X0_raiseAll ⟨Nat.le_of_ble_eq_true rfl, Nat.le_of_ble_eq_true rfl⟩ hK hP hE hS hg hl.1 rfl (Nat.le_of_ble_eq_true rfl) ⟨Nat.zero_le _, Nat.zero_le _⟩ dX0_reshape_91 (fun H locs hP hS => ?_)
    refine lv_goto (pc := 94) (tgt := 106) hx hb dX0_reshape_94 (by decide) ?_
    exact xretv (pc := 106) hx hb hr hlocks hP hK hE hS h dX0_reshape_106
  rw [if_neg w4_1] at h
  by_cases w5_1 : x1 = 5
  · rw [if_pos w5_1] at h
    refine lv_tableIn (pc := 1) (tgt := 97) hx hb dX0_reshape_1 (by rw [w5_1]; decide) (by rw [w5_1]; decide) (by rw [w5_1]; rfl) (by decide) ?_
    refine lv_aload_n (pc := 97) hx hb dX0_reshape_97 rfl (lv_at hl 0 rfl) ?_
    refine lv_aload_n (pc := 98) hx hb dX0_reshape_98 rfl (lv_at hl 2 rfl) ?_
    refine lv_iload_n (pc := 99) hx hb dX0_reshape_99 rfl (lv_at hl 3 rfl) ?_
    obtain ⟨_, hg, h⟩ := zl_some h
    obtain ⟨v15, σ16, hv, h⟩ := zb_some h
    refine xcallVv (pc := 100) (As := [.ref (o + x2), .int x3]) (rest := []) ⟨hx, hb, hml, hown, hts⟩ (c_X0_lowerAll l D c o g N hv) zc0 zV_X0_67 rfl zd_X0_lowerAll ⟨Nat.le_of_ble_eq_true rfl, Nat.le_of_ble_eq_true rfl⟩ hK hP hE hS hg hl.1 rfl (Nat.le_of_ble_eq_true rfl) ⟨Nat.zero_le _, Nat.zero_le _⟩ dX0_reshape_100 (fun H locs hP hS => ?_)
    refine lv_goto (pc := 103) (tgt := 106) hx hb dX0_reshape_103 (by decide) ?_
    exact xretv (pc := 106) hx hb hr hlocks hP hK hE hS h dX0_reshape_106
  rw [if_neg w5_1] at h
  have wo_1 : x1.toInt < 0 ∨ 5 < x1.toInt := by
    have q0 := lv_neT w0_1 (a := 0) rfl; have q1 := lv_neT w1_1 (a := 1) rfl; have q2 := lv_neT w2_1 (a := 2) rfl; have q3 := lv_neT w3_1 (a := 3) rfl; have q4 := lv_neT w4_1 (a := 4) rfl; have q5 := lv_neT w5_1 (a := 5) rfl
    omega
  refine lv_tableOut (pc := 1) (tgt := 106) hx hb dX0_reshape_1 wo_1 (by decide) ?_
  exact xretv (pc := 106) hx hb hr hlocks hP hK hE hS h dX0_reshape_106
def F_X0_disjointPairs_22 (N : Nat) (x0 : Nat) (x1 : Nat) (x4 : Int32) (again22 : (Int32 × Int32 × zS) → Option (Int32 × zS)) : Int32 × Int32 × zS → Option (Int32 × zS)
  | (x5, x6, σ) =>
  if x4 ≤ x6 then
    (some (x5, σ))
  else
    (zl (gC 2 x1) fun _ => zb (f_X2_holds N x1 x6 σ) fun v6 σ7 =>
    if v6 = 0 then
      (again22 (x5, x6 + 1, σ7))
    else
      (zl (gR 0 4 x0 σ7) fun v8 =>
      zl (aI 14 v8 ((x4 - 1) - x6) σ7) fun v9 =>
      again22 (x5 + v9, x6 + 1, σ7)))
def f_X0_disjointPairs (N : Nat) (x0 : Nat) (x1 : Nat) (x2 : Nat) (x3 : Int32) (σ : zS) : Option (Int32 × zS) :=
  zl (gR 0 4 x0 σ) fun v1 =>
  zl (gC 0 x0) fun _ => zb (f_X0_countBelow N x0 x2 v1 x3 σ) fun v2 σ3 =>
  zb (f_X0_setsOf N x3 σ3) fun v4 σ5 =>
  zlp (F_X0_disjointPairs_22 N x0 x1 v4) N (0, 0, σ5)
set_option maxHeartbeats 4000000 in
set_option maxRecDepth 100000 in
theorem c_X0_disjointPairs (l : Launch) (D : va_G) (c : zC) (o : Nat) (g : zEp) (N : Nat) {x0 : Nat} {x1 : Nat} {x2 : Nat} {x3 : Int32} {σ : zS} {ρ : Int32 × zS} (h : f_X0_disjointPairs N x0 x1 x2 x3 σ = some ρ) : Met l yX0_disjointPairs zs_X0_disjointPairs (zr 6) (va_Pc [.ref (o + x0), .ref (o + x1), .ref (o + x2), .int x3] (zG D c o g σ)) (zQi D c o g ρ) 0 0 (zA o) := by
  refine zMetG (by decide) (Nat.le_of_ble_eq_true rfl) ?_
  intro p e s m below meth cd ⟨hx, hb, hr, hml, hown, hts, hlocks⟩ hP hK hE ls hl
  have hS : va_S (zA o) s.heap s.heap [] := va_S.rf
  have hl : lv_has ls 7 [(0, .ref (o + x0)), (1, .ref (o + x1)), (2, .ref (o + x2)), (3, .int x3)] := hl
  rw [f_X0_disjointPairs.eq_1] at h
  refine lv_aload_n (pc := 0) hx hb dX0_disjointPairs_0 rfl (lv_at hl 0 rfl) ?_
  refine lv_aload_n (pc := 1) hx hb dX0_disjointPairs_1 rfl (lv_at hl 2 rfl) ?_
  refine lv_aload_n (pc := 2) hx hb dX0_disjointPairs_2 rfl (lv_at hl 0 rfl) ?_
  obtain ⟨v1, hv, h⟩ := zl_some h
  refine xgR (pc := 3) (j := 4) zc0 hx hb hts hown hK hP hv rfl zf_X0_28 dX0_disjointPairs_3 ?_
  refine lv_iload_n (pc := 6) hx hb dX0_disjointPairs_6 rfl (lv_at hl 3 rfl) ?_
  obtain ⟨_, hg, h⟩ := zl_some h
  obtain ⟨v2, σ3, hv, h⟩ := zb_some h
  refine xcallVv (pc := 7) (As := [.ref (o + x2), .ref (o + v1), .int x3]) (rest := []) ⟨hx, hb, hml, hown, hts⟩ (c_X0_countBelow l D c o g N hv) zc0 zV_X0_89 rfl zd_X0_countBelow ⟨Nat.le_of_ble_eq_true rfl, Nat.le_of_ble_eq_true rfl⟩ hK hP hE hS hg hl.1 rfl (Nat.le_of_ble_eq_true rfl) ⟨Nat.zero_le _, Nat.zero_le _⟩ dX0_disjointPairs_7 (fun H locs hP hS => ?_)
  refine lv_iload_n (pc := 10) hx hb dX0_disjointPairs_10 rfl (lv_at hl 3 rfl) ?_
  obtain ⟨v4, σ5, hv, h⟩ := zb_some h
  refine xcallSi (pc := 11) (As := [.int x3]) (rest := []) ⟨hx, hb, hml, hown, hts⟩ (c_X0_setsOf l D c o g N hv) zT_X0_93 rfl zd_X0_setsOf ⟨Nat.le_of_ble_eq_true rfl, Nat.le_of_ble_eq_true rfl⟩ hK hP hE hS hl.1 rfl (Nat.le_of_ble_eq_true rfl) ⟨Nat.zero_le _, Nat.zero_le _⟩ dX0_disjointPairs_11 (fun H locs hP hS => ?_)
  refine lv_istore (pc := 14) (lv' := [(4, .int v4), (0, .ref (o + x0)), (1, .ref (o + x1)), (2, .ref (o + x2)), (3, .int x3)]) hx hb dX0_disjointPairs_14 hl (by decide) rfl (fun ls hl => ?_)
  refine lv_iconst (pc := 16) (v := 0) hx hb dX0_disjointPairs_16 (by decide) ?_
  refine lv_istore (pc := 17) (lv' := [(5, .int 0), (4, .int v4), (0, .ref (o + x0)), (1, .ref (o + x1)), (2, .ref (o + x2)), (3, .int x3)]) hx hb dX0_disjointPairs_17 hl (by decide) rfl (fun ls hl => ?_)
  refine lv_iconst (pc := 19) (v := 0) hx hb dX0_disjointPairs_19 (by decide) ?_
  refine lv_istore (pc := 20) (lv' := [(6, .int 0), (5, .int 0), (4, .int v4), (0, .ref (o + x0)), (1, .ref (o + x1)), (2, .ref (o + x2)), (3, .int x3)]) hx hb dX0_disjointPairs_20 hl (by decide) rfl (fun ls hl => ?_)
  have L22_6 : ∀ (n : Nat) (t : Int32 × Int32 × zS), zlp (F_X0_disjointPairs_22 N x0 x1 v4) n t = some ρ → ∀ (H : Heap) (locs : List Loc) (ls : Array Slot), zP D c o (zabs o (t.2.2)) H → va_S (zA o) s.heap H locs → lv_has ls 7 [(5, .int (t.1)), (6, .int (t.2.1)), (0, .ref (o + x0)), (1, .ref (o + x1)), (4, .int v4)] → W p l e (zr 6) s m (([.ref (o + x0), .ref (o + x1), .ref (o + x2), .int x3] : List Value).toArray) below meth cd H locs 0 0 (MQ below (zQi D c o g ρ) (([.ref (o + x0), .ref (o + x1), .ref (o + x2), .int x3] : List Value).toArray) s 0 0 (zA o)) (F0 m 22 ls []) := by
    refine zlp_ind (fun ag6 ih6 t h H locs ls hP hS hl => ?_)
    obtain ⟨x5_6, x6_6, σ6⟩ := t
    have hP : zP D c o (zabs o σ6) H := hP
    have hl : lv_has ls 7 [(5, .int x5_6), (6, .int x6_6), (0, .ref (o + x0)), (1, .ref (o + x1)), (4, .int v4)] := hl
    rw [F_X0_disjointPairs_22.eq_1] at h
    show W p l e (zr 6) s m (([.ref (o + x0), .ref (o + x1), .ref (o + x2), .int x3] : List Value).toArray) below meth cd H locs 0 0 (MQ below (zQi D c o g ρ) (([.ref (o + x0), .ref (o + x1), .ref (o + x2), .int x3] : List Value).toArray) s 0 0 (zA o)) (F0 m 22 ls [])
    refine lv_iload (pc := 22) hx hb dX0_disjointPairs_22 (lv_at hl 1 rfl) ?_
    refine lv_iload (pc := 24) hx hb dX0_disjointPairs_24 (lv_at hl 4 rfl) ?_
    refine lv_icmp_ge (pc := 26) (tgt := 61) hx hb dX0_disjointPairs_26 (by decide) (fun c1 => ?_) (fun c1 => ?_)
    · rw [if_pos c1] at h
      refine lv_iload (pc := 61) hx hb dX0_disjointPairs_61 (lv_at hl 0 rfl) ?_
      exact xreti (pc := 63) hx hb hr hlocks hP hK hE hS h dX0_disjointPairs_63
    · rw [if_neg c1] at h
      refine lv_aload_n (pc := 29) hx hb dX0_disjointPairs_29 rfl (lv_at hl 3 rfl) ?_
      refine lv_iload (pc := 30) hx hb dX0_disjointPairs_30 (lv_at hl 1 rfl) ?_
      obtain ⟨_, hg, h⟩ := zl_some h
      obtain ⟨v7, σ8, hv, h⟩ := zb_some h
      refine xcallVi (pc := 32) (As := [.int x6_6]) (rest := []) ⟨hx, hb, hml, hown, hts⟩ (c_X2_holds l D c o g N hv) zc2 zV_X0_100 rfl zd_X2_holds ⟨Nat.le_of_ble_eq_true rfl, Nat.le_of_ble_eq_true rfl⟩ hK hP hE hS hg hl.1 rfl (Nat.le_of_ble_eq_true rfl) ⟨Nat.zero_le _, Nat.zero_le _⟩ dX0_disjointPairs_32 (fun H locs hP hS => ?_)
      refine lv_if_eq (pc := 35) (tgt := 55) hx hb dX0_disjointPairs_35 (by decide) (fun c1 => ?_) (fun c1 => ?_)
      · rw [if_pos c1] at h
        refine lv_iinc (pc := 55) (v := x6_6 + 1) (lv' := [(6, .int (x6_6 + 1)), (5, .int x5_6), (0, .ref (o + x0)), (1, .ref (o + x1)), (4, .int v4)]) hx hb dX0_disjointPairs_55 hl (k := 1) rfl rfl (by decide) rfl (fun ls hl => ?_)
        refine lv_goto (pc := 58) (tgt := 22) hx hb dX0_disjointPairs_58 (by decide) ?_
        exact ih6 (x5_6, x6_6 + 1, σ8) h _ _ ls hP hS (lv_sub hl [1, 0, 2, 3, 4] rfl)
      · rw [if_neg c1] at h
        refine lv_iload (pc := 38) hx hb dX0_disjointPairs_38 (lv_at hl 0 rfl) ?_
        refine lv_aload_n (pc := 40) hx hb dX0_disjointPairs_40 rfl (lv_at hl 2 rfl) ?_
        obtain ⟨v9, hv, h⟩ := zl_some h
        refine xgR (pc := 41) (j := 4) zc0 hx hb hts hown hK hP hv rfl zf_X0_28 dX0_disjointPairs_41 ?_
        refine lv_iload (pc := 44) hx hb dX0_disjointPairs_44 (lv_at hl 4 rfl) ?_
        refine lv_iconst (pc := 46) (v := 1) hx hb dX0_disjointPairs_46 (by decide) ?_
        refine lv_isub (pc := 47) hx hb dX0_disjointPairs_47 ?_
        refine lv_iload (pc := 48) hx hb dX0_disjointPairs_48 (lv_at hl 1 rfl) ?_
        refine lv_isub (pc := 50) hx hb dX0_disjointPairs_50 ?_
        obtain ⟨v10, hv, h⟩ := zl_some h
        refine xaI (pc := 51) hx hb hK hP hv dX0_disjointPairs_51 ?_
        refine lv_iadd (pc := 52) hx hb dX0_disjointPairs_52 ?_
        refine lv_istore (pc := 53) (lv' := [(5, .int (x5_6 + v10)), (6, .int x6_6), (0, .ref (o + x0)), (1, .ref (o + x1)), (4, .int v4)]) hx hb dX0_disjointPairs_53 hl (by decide) rfl (fun ls hl => ?_)
        refine lv_iinc (pc := 55) (v := x6_6 + 1) (lv' := [(6, .int (x6_6 + 1)), (5, .int (x5_6 + v10)), (0, .ref (o + x0)), (1, .ref (o + x1)), (4, .int v4)]) hx hb dX0_disjointPairs_55 hl (k := 1) rfl rfl (by decide) rfl (fun ls hl => ?_)
        refine lv_goto (pc := 58) (tgt := 22) hx hb dX0_disjointPairs_58 (by decide) ?_
        exact ih6 (x5_6 + v10, x6_6 + 1, σ8) h _ _ ls hP hS (lv_sub hl [1, 0, 2, 3, 4] rfl)
  exact L22_6 N (0, 0, σ5) h _ _ ls hP hS (lv_sub hl [1, 0, 3, 4, 2] rfl)
def f_X1_headOf (N : Nat) (x0 : Int32) (x1 : Int32) (x2 : Int32) (σ : zS) : Option (Int32 × zS) :=
  some ((((x2 * 613) + (x1 * 37)) + x0) &&& 2047, σ)
set_option maxHeartbeats 4000000 in
set_option maxRecDepth 100000 in
theorem c_X1_headOf (l : Launch) (D : va_G) (c : zC) (o : Nat) (g : zEp) (N : Nat) {x0 : Int32} {x1 : Int32} {x2 : Int32} {σ : zS} {ρ : Int32 × zS} (h : f_X1_headOf N x0 x1 x2 σ = some ρ) : Met l yX1_headOf zs_X1_headOf (zr 2) (va_Pc [.int x0, .int x1, .int x2] (zG D c o g σ)) (zQi D c o g ρ) 0 0 (zA o) := by
  refine zMetG (by decide) (Nat.le_of_ble_eq_true rfl) ?_
  intro p e s m below meth cd ⟨hx, hb, hr, hml, hown, hts, hlocks⟩ hP hK hE ls hl
  have hS : va_S (zA o) s.heap s.heap [] := va_S.rf
  have hl : lv_has ls 3 [(0, .int x0), (1, .int x1), (2, .int x2)] := hl
  rw [f_X1_headOf.eq_1] at h
  refine lv_iload_n (pc := 0) hx hb dX1_headOf_0 rfl (lv_at hl 2 rfl) ?_
  refine lv_sipush (pc := 1) (v := 613) hx hb dX1_headOf_1 (by decide) ?_
  refine lv_imul (pc := 4) hx hb dX1_headOf_4 ?_
  refine lv_iload_n (pc := 5) hx hb dX1_headOf_5 rfl (lv_at hl 1 rfl) ?_
  refine lv_bipush (pc := 6) (v := 37) hx hb dX1_headOf_6 (by decide) ?_
  refine lv_imul (pc := 8) hx hb dX1_headOf_8 ?_
  refine lv_iadd (pc := 9) hx hb dX1_headOf_9 ?_
  refine lv_iload_n (pc := 10) hx hb dX1_headOf_10 rfl (lv_at hl 0 rfl) ?_
  refine lv_iadd (pc := 11) hx hb dX1_headOf_11 ?_
  refine lv_sipush (pc := 12) (v := 2047) hx hb dX1_headOf_12 (by decide) ?_
  refine lv_iand (pc := 15) hx hb dX1_headOf_15 ?_
  exact xreti (pc := 16) hx hb hr hlocks hP hK hE hS h dX1_headOf_16
def J_X1_node_93 (N : Nat) (x0 : Nat) (x1 : Int32) (x2 : Int32) (x3 : Int32) (x4 : Int32) (σ : zS) : Option (Int32 × zS) :=
  zl (gI 1 8 x0 σ) fun v5 =>
  if 1600 ≤ v5 then
    (some (0, σ))
  else
    (if x1 < 0 then
      (some (0, σ))
    else
      (if x1 < 10 then
        (zl (gI 1 8 x0 σ) fun v6 =>
        zl (pI 1 8 x0 (v6 + 1) σ) fun σ7 =>
        zl (gR 1 2 x0 σ7) fun v8 =>
        zl (sI 14 v8 v6 x1 σ7) fun σ9 =>
        zl (gR 1 3 x0 σ9) fun v10 =>
        zl (sI 14 v10 v6 x2 σ9) fun σ11 =>
        zl (gR 1 4 x0 σ11) fun v12 =>
        zl (sI 14 v12 v6 x3 σ11) fun σ13 =>
        zl (gR 1 1 x0 σ13) fun v14 =>
        zl (gR 1 0 x0 σ13) fun v15 =>
        zl (aI 14 v15 x4 σ13) fun v16 =>
        zl (sI 14 v14 v6 v16 σ13) fun σ17 =>
        zl (gR 1 0 x0 σ17) fun v18 =>
        zl (sI 14 v18 x4 v6 σ17) fun σ19 =>
        zl (gR 1 7 x0 σ19) fun v20 =>
        zl (aI 14 v20 x1 σ19) fun v21 =>
        zl (sI 14 v20 x1 (v21 + 1) σ19) fun σ22 =>
        some (v6, σ22))
      else
        (some (0, σ))))
def F_X1_node_20 (N : Nat) (x0 : Nat) (x1 : Int32) (x2 : Int32) (x3 : Int32) (x4 : Int32) (again20 : (Int32 × Int32 × zS) → Option (Int32 × zS)) : Int32 × Int32 × zS → Option (Int32 × zS)
  | (x5, x6, σ) =>
  if 1600 ≤ x6 then
    (J_X1_node_93 N x0 x1 x2 x3 x4 σ)
  else
    (if x5 < 2 then
      (J_X1_node_93 N x0 x1 x2 x3 x4 σ)
    else
      (if 1600 ≤ x5 then
        (J_X1_node_93 N x0 x1 x2 x3 x4 σ)
      else
        (zl (gR 1 2 x0 σ) fun v23 =>
        zl (aI 14 v23 x5 σ) fun v24 =>
        if v24 = x1 then
          (zl (gR 1 3 x0 σ) fun v25 =>
          zl (aI 14 v25 x5 σ) fun v26 =>
          if v26 = x2 then
            (zl (gR 1 4 x0 σ) fun v27 =>
            zl (aI 14 v27 x5 σ) fun v28 =>
            if v28 = x3 then
              (some (x5, σ))
            else
              (zl (gR 1 1 x0 σ) fun v29 =>
              zl (aI 14 v29 x5 σ) fun v30 =>
              again20 (v30, x6 + 1, σ)))
          else
            (zl (gR 1 1 x0 σ) fun v31 =>
            zl (aI 14 v31 x5 σ) fun v32 =>
            again20 (v32, x6 + 1, σ)))
        else
          (zl (gR 1 1 x0 σ) fun v33 =>
          zl (aI 14 v33 x5 σ) fun v34 =>
          again20 (v34, x6 + 1, σ)))))
def f_X1_node (N : Nat) (x0 : Nat) (x1 : Int32) (x2 : Int32) (x3 : Int32) (σ : zS) : Option (Int32 × zS) :=
  zb (f_X1_headOf N x1 x2 x3 σ) fun v1 σ2 =>
  zl (gR 1 0 x0 σ2) fun v3 =>
  zl (aI 14 v3 v1 σ2) fun v4 =>
  zlp (F_X1_node_20 N x0 x1 x2 x3 v1) N (v4, 0, σ2)
set_option maxHeartbeats 4000000 in
set_option maxRecDepth 100000 in
theorem c_X1_node (l : Launch) (D : va_G) (c : zC) (o : Nat) (g : zEp) (N : Nat) {x0 : Nat} {x1 : Int32} {x2 : Int32} {x3 : Int32} {σ : zS} {ρ : Int32 × zS} (h : f_X1_node N x0 x1 x2 x3 σ = some ρ) : Met l yX1_node zs_X1_node (zr 4) (va_Pc [.ref (o + x0), .int x1, .int x2, .int x3] (zG D c o g σ)) (zQi D c o g ρ) 0 0 (zA o) := by
  refine zMetG (by decide) (Nat.le_of_ble_eq_true rfl) ?_
  intro p e s m below meth cd ⟨hx, hb, hr, hml, hown, hts, hlocks⟩ hP hK hE ls hl
  have hS : va_S (zA o) s.heap s.heap [] := va_S.rf
  have hl : lv_has ls 7 [(0, .ref (o + x0)), (1, .int x1), (2, .int x2), (3, .int x3)] := hl
  rw [f_X1_node.eq_1] at h
  refine lv_iload_n (pc := 0) hx hb dX1_node_0 rfl (lv_at hl 1 rfl) ?_
  refine lv_iload_n (pc := 1) hx hb dX1_node_1 rfl (lv_at hl 2 rfl) ?_
  refine lv_iload_n (pc := 2) hx hb dX1_node_2 rfl (lv_at hl 3 rfl) ?_
  obtain ⟨v1, σ2, hv, h⟩ := zb_some h
  refine xcallSi (pc := 3) (As := [.int x1, .int x2, .int x3]) (rest := []) ⟨hx, hb, hml, hown, hts⟩ (c_X1_headOf l D c o g N hv) zT_X1_64 rfl zd_X1_headOf ⟨Nat.le_of_ble_eq_true rfl, Nat.le_of_ble_eq_true rfl⟩ hK hP hE hS hl.1 rfl (Nat.le_of_ble_eq_true rfl) ⟨Nat.zero_le _, Nat.zero_le _⟩ dX1_node_3 (fun H locs hP hS => ?_)
  refine lv_istore (pc := 6) (lv' := [(4, .int v1), (0, .ref (o + x0)), (1, .int x1), (2, .int x2), (3, .int x3)]) hx hb dX1_node_6 hl (by decide) rfl (fun ls hl => ?_)
  refine lv_aload_n (pc := 8) hx hb dX1_node_8 rfl (lv_at hl 1 rfl) ?_
  obtain ⟨v3, hv, h⟩ := zl_some h
  refine xgR (pc := 9) (j := 0) zc1 hx hb hts hown hK hP hv rfl zf_X1_11 dX1_node_9 ?_
  refine lv_iload (pc := 12) hx hb dX1_node_12 (lv_at hl 0 rfl) ?_
  obtain ⟨v4, hv, h⟩ := zl_some h
  refine xaI (pc := 14) hx hb hK hP hv dX1_node_14 ?_
  refine lv_istore (pc := 15) (lv' := [(5, .int v4), (4, .int v1), (0, .ref (o + x0)), (1, .int x1), (2, .int x2), (3, .int x3)]) hx hb dX1_node_15 hl (by decide) rfl (fun ls hl => ?_)
  refine lv_iconst (pc := 17) (v := 0) hx hb dX1_node_17 (by decide) ?_
  refine lv_istore (pc := 18) (lv' := [(6, .int 0), (5, .int v4), (4, .int v1), (0, .ref (o + x0)), (1, .int x1), (2, .int x2), (3, .int x3)]) hx hb dX1_node_18 hl (by decide) rfl (fun ls hl => ?_)
  have L20_5 : ∀ (n : Nat) (t : Int32 × Int32 × zS), zlp (F_X1_node_20 N x0 x1 x2 x3 v1) n t = some ρ → ∀ (H : Heap) (locs : List Loc) (ls : Array Slot), zP D c o (zabs o (t.2.2)) H → va_S (zA o) s.heap H locs → lv_has ls 7 [(5, .int (t.1)), (6, .int (t.2.1)), (0, .ref (o + x0)), (1, .int x1), (2, .int x2), (3, .int x3), (4, .int v1)] → W p l e (zr 4) s m (([.ref (o + x0), .int x1, .int x2, .int x3] : List Value).toArray) below meth cd H locs 0 0 (MQ below (zQi D c o g ρ) (([.ref (o + x0), .int x1, .int x2, .int x3] : List Value).toArray) s 0 0 (zA o)) (F0 m 20 ls []) := by
    refine zlp_ind (fun ag5 ih5 t h H locs ls hP hS hl => ?_)
    obtain ⟨x5_5, x6_5, σ5⟩ := t
    have hP : zP D c o (zabs o σ5) H := hP
    have hl : lv_has ls 7 [(5, .int x5_5), (6, .int x6_5), (0, .ref (o + x0)), (1, .int x1), (2, .int x2), (3, .int x3), (4, .int v1)] := hl
    rw [F_X1_node_20.eq_1] at h
    show W p l e (zr 4) s m (([.ref (o + x0), .int x1, .int x2, .int x3] : List Value).toArray) below meth cd H locs 0 0 (MQ below (zQi D c o g ρ) (([.ref (o + x0), .int x1, .int x2, .int x3] : List Value).toArray) s 0 0 (zA o)) (F0 m 20 ls [])
    refine lv_iload (pc := 20) hx hb dX1_node_20 (lv_at hl 1 rfl) ?_
    refine lv_sipush (pc := 22) (v := 1600) hx hb dX1_node_22 (by decide) ?_
    have hj93_6 : ∀ (σ6 : zS), J_X1_node_93 N x0 x1 x2 x3 v1 σ6 = some ρ → ∀ (H : Heap) (locs : List Loc) (ls : Array Slot), zP D c o (zabs o σ6) H → va_S (zA o) s.heap H locs → lv_has ls 7 [(0, .ref (o + x0)), (1, .int x1), (2, .int x2), (3, .int x3), (4, .int v1)] → W p l e (zr 4) s m (([.ref (o + x0), .int x1, .int x2, .int x3] : List Value).toArray) below meth cd H locs 0 0 (MQ below (zQi D c o g ρ) (([.ref (o + x0), .int x1, .int x2, .int x3] : List Value).toArray) s 0 0 (zA o)) (F0 m 93 ls []) := by
      intro σ6 h H locs ls hP hS hl
      rw [J_X1_node_93.eq_1] at h
      refine lv_aload_n (pc := 93) hx hb dX1_node_93 rfl (lv_at hl 0 rfl) ?_
      obtain ⟨v7, hv, h⟩ := zl_some h
      refine xgI (pc := 94) (j := 8) zc1 hx hb hts hown hK hP hv rfl zf_X1_36 dX1_node_94 ?_
      refine lv_sipush (pc := 97) (v := 1600) hx hb dX1_node_97 (by decide) ?_
      refine lv_icmp_ge (pc := 100) (tgt := 113) hx hb dX1_node_100 (by decide) (fun c1 => ?_) (fun c1 => ?_)
      · rw [if_pos c1] at h
        refine lv_iconst (pc := 113) (v := 0) hx hb dX1_node_113 (by decide) ?_
        exact xreti (pc := 114) hx hb hr hlocks hP hK hE hS h dX1_node_114
      · rw [if_neg c1] at h
        refine lv_iload_n (pc := 103) hx hb dX1_node_103 rfl (lv_at hl 1 rfl) ?_
        refine lv_if_lt (pc := 104) (tgt := 113) hx hb dX1_node_104 (by decide) (fun c1 => ?_) (fun c1 => ?_)
        · rw [if_pos c1] at h
          refine lv_iconst (pc := 113) (v := 0) hx hb dX1_node_113 (by decide) ?_
          exact xreti (pc := 114) hx hb hr hlocks hP hK hE hS h dX1_node_114
        · rw [if_neg c1] at h
          refine lv_iload_n (pc := 107) hx hb dX1_node_107 rfl (lv_at hl 1 rfl) ?_
          refine lv_bipush (pc := 108) (v := 10) hx hb dX1_node_108 (by decide) ?_
          refine lv_icmp_lt (pc := 110) (tgt := 115) hx hb dX1_node_110 (by decide) (fun c1 => ?_) (fun c1 => ?_)
          · rw [if_pos c1] at h
            refine lv_aload_n (pc := 115) hx hb dX1_node_115 rfl (lv_at hl 0 rfl) ?_
            refine lv_dup (pc := 116) hx hb dX1_node_116 rfl ?_
            obtain ⟨v8, hv, h⟩ := zl_some h
            refine xgI (pc := 117) (j := 8) zc1 hx hb hts hown hK hP hv rfl zf_X1_36 dX1_node_117 ?_
            refine lv_dup_x1 (pc := 120) hx hb dX1_node_120 rfl rfl ?_
            refine lv_iconst (pc := 121) (v := 1) hx hb dX1_node_121 (by decide) ?_
            refine lv_iadd (pc := 122) hx hb dX1_node_122 ?_
            obtain ⟨σ9, hv, h⟩ := zl_some h
            refine xpI (pc := 123) (j := 8) zc1 hx hb hts hown hK hP hS hv rfl rfl rfl zf_X1_36 dX1_node_123 (fun H locs hP hS => ?_)
            refine lv_istore (pc := 126) (lv' := [(5, .int v8), (0, .ref (o + x0)), (1, .int x1), (2, .int x2), (3, .int x3), (4, .int v1)]) hx hb dX1_node_126 hl (by decide) rfl (fun ls hl => ?_)
            refine lv_aload_n (pc := 128) hx hb dX1_node_128 rfl (lv_at hl 1 rfl) ?_
            obtain ⟨v10, hv, h⟩ := zl_some h
            refine xgR (pc := 129) (j := 2) zc1 hx hb hts hown hK hP hv rfl zf_X1_18 dX1_node_129 ?_
            refine lv_iload (pc := 132) hx hb dX1_node_132 (lv_at hl 0 rfl) ?_
            refine lv_iload_n (pc := 134) hx hb dX1_node_134 rfl (lv_at hl 2 rfl) ?_
            obtain ⟨σ11, hv, h⟩ := zl_some h
            refine xsI (pc := 135) hx hb hK hP hS hv dX1_node_135 (fun H locs hP hS => ?_)
            refine lv_aload_n (pc := 136) hx hb dX1_node_136 rfl (lv_at hl 1 rfl) ?_
            obtain ⟨v12, hv, h⟩ := zl_some h
            refine xgR (pc := 137) (j := 3) zc1 hx hb hts hown hK hP hv rfl zf_X1_21 dX1_node_137 ?_
            refine lv_iload (pc := 140) hx hb dX1_node_140 (lv_at hl 0 rfl) ?_
            refine lv_iload_n (pc := 142) hx hb dX1_node_142 rfl (lv_at hl 3 rfl) ?_
            obtain ⟨σ13, hv, h⟩ := zl_some h
            refine xsI (pc := 143) hx hb hK hP hS hv dX1_node_143 (fun H locs hP hS => ?_)
            refine lv_aload_n (pc := 144) hx hb dX1_node_144 rfl (lv_at hl 1 rfl) ?_
            obtain ⟨v14, hv, h⟩ := zl_some h
            refine xgR (pc := 145) (j := 4) zc1 hx hb hts hown hK hP hv rfl zf_X1_24 dX1_node_145 ?_
            refine lv_iload (pc := 148) hx hb dX1_node_148 (lv_at hl 0 rfl) ?_
            refine lv_iload_n (pc := 150) hx hb dX1_node_150 rfl (lv_at hl 4 rfl) ?_
            obtain ⟨σ15, hv, h⟩ := zl_some h
            refine xsI (pc := 151) hx hb hK hP hS hv dX1_node_151 (fun H locs hP hS => ?_)
            refine lv_aload_n (pc := 152) hx hb dX1_node_152 rfl (lv_at hl 1 rfl) ?_
            obtain ⟨v16, hv, h⟩ := zl_some h
            refine xgR (pc := 153) (j := 1) zc1 hx hb hts hown hK hP hv rfl zf_X1_15 dX1_node_153 ?_
            refine lv_iload (pc := 156) hx hb dX1_node_156 (lv_at hl 0 rfl) ?_
            refine lv_aload_n (pc := 158) hx hb dX1_node_158 rfl (lv_at hl 1 rfl) ?_
            obtain ⟨v17, hv, h⟩ := zl_some h
            refine xgR (pc := 159) (j := 0) zc1 hx hb hts hown hK hP hv rfl zf_X1_11 dX1_node_159 ?_
            refine lv_iload (pc := 162) hx hb dX1_node_162 (lv_at hl 5 rfl) ?_
            obtain ⟨v18, hv, h⟩ := zl_some h
            refine xaI (pc := 164) hx hb hK hP hv dX1_node_164 ?_
            obtain ⟨σ19, hv, h⟩ := zl_some h
            refine xsI (pc := 165) hx hb hK hP hS hv dX1_node_165 (fun H locs hP hS => ?_)
            refine lv_aload_n (pc := 166) hx hb dX1_node_166 rfl (lv_at hl 1 rfl) ?_
            obtain ⟨v20, hv, h⟩ := zl_some h
            refine xgR (pc := 167) (j := 0) zc1 hx hb hts hown hK hP hv rfl zf_X1_11 dX1_node_167 ?_
            refine lv_iload (pc := 170) hx hb dX1_node_170 (lv_at hl 5 rfl) ?_
            refine lv_iload (pc := 172) hx hb dX1_node_172 (lv_at hl 0 rfl) ?_
            obtain ⟨σ21, hv, h⟩ := zl_some h
            refine xsI (pc := 174) hx hb hK hP hS hv dX1_node_174 (fun H locs hP hS => ?_)
            refine lv_aload_n (pc := 175) hx hb dX1_node_175 rfl (lv_at hl 1 rfl) ?_
            obtain ⟨v22, hv, h⟩ := zl_some h
            refine xgR (pc := 176) (j := 7) zc1 hx hb hts hown hK hP hv rfl zf_X1_33 dX1_node_176 ?_
            refine lv_iload_n (pc := 179) hx hb dX1_node_179 rfl (lv_at hl 2 rfl) ?_
            refine lv_dup2_11 (pc := 180) hx hb dX1_node_180 rfl rfl ?_
            obtain ⟨v23, hv, h⟩ := zl_some h
            refine xaI (pc := 181) hx hb hK hP hv dX1_node_181 ?_
            refine lv_iconst (pc := 182) (v := 1) hx hb dX1_node_182 (by decide) ?_
            refine lv_iadd (pc := 183) hx hb dX1_node_183 ?_
            obtain ⟨σ24, hv, h⟩ := zl_some h
            refine xsI (pc := 184) hx hb hK hP hS hv dX1_node_184 (fun H locs hP hS => ?_)
            refine lv_iload (pc := 185) hx hb dX1_node_185 (lv_at hl 0 rfl) ?_
            exact xreti (pc := 187) hx hb hr hlocks hP hK hE hS h dX1_node_187
          · rw [if_neg c1] at h
            refine lv_iconst (pc := 113) (v := 0) hx hb dX1_node_113 (by decide) ?_
            exact xreti (pc := 114) hx hb hr hlocks hP hK hE hS h dX1_node_114
    refine lv_icmp_ge (pc := 25) (tgt := 93) hx hb dX1_node_25 (by decide) (fun c1 => ?_) (fun c1 => ?_)
    · rw [if_pos c1] at h
      exact hj93_6 σ5 h _ _ ls hP hS (lv_sub hl [2, 3, 4, 5, 6] rfl)
    · rw [if_neg c1] at h
      refine lv_iload (pc := 28) hx hb dX1_node_28 (lv_at hl 0 rfl) ?_
      refine lv_iconst (pc := 30) (v := 2) hx hb dX1_node_30 (by decide) ?_
      refine lv_icmp_lt (pc := 31) (tgt := 93) hx hb dX1_node_31 (by decide) (fun c1 => ?_) (fun c1 => ?_)
      · rw [if_pos c1] at h
        exact hj93_6 σ5 h _ _ ls hP hS (lv_sub hl [2, 3, 4, 5, 6] rfl)
      · rw [if_neg c1] at h
        refine lv_iload (pc := 34) hx hb dX1_node_34 (lv_at hl 0 rfl) ?_
        refine lv_sipush (pc := 36) (v := 1600) hx hb dX1_node_36 (by decide) ?_
        refine lv_icmp_ge (pc := 39) (tgt := 93) hx hb dX1_node_39 (by decide) (fun c1 => ?_) (fun c1 => ?_)
        · rw [if_pos c1] at h
          exact hj93_6 σ5 h _ _ ls hP hS (lv_sub hl [2, 3, 4, 5, 6] rfl)
        · rw [if_neg c1] at h
          refine lv_aload_n (pc := 42) hx hb dX1_node_42 rfl (lv_at hl 2 rfl) ?_
          obtain ⟨v25, hv, h⟩ := zl_some h
          refine xgR (pc := 43) (j := 2) zc1 hx hb hts hown hK hP hv rfl zf_X1_18 dX1_node_43 ?_
          refine lv_iload (pc := 46) hx hb dX1_node_46 (lv_at hl 0 rfl) ?_
          obtain ⟨v26, hv, h⟩ := zl_some h
          refine xaI (pc := 48) hx hb hK hP hv dX1_node_48 ?_
          refine lv_iload_n (pc := 49) hx hb dX1_node_49 rfl (lv_at hl 3 rfl) ?_
          refine lv_icmp_ne (pc := 50) (tgt := 78) hx hb dX1_node_50 (by decide) (fun c1 => ?_) (fun c1 => ?_)
          · rw [if_neg c1] at h
            refine lv_aload_n (pc := 78) hx hb dX1_node_78 rfl (lv_at hl 2 rfl) ?_
            obtain ⟨v27, hv, h⟩ := zl_some h
            refine xgR (pc := 79) (j := 1) zc1 hx hb hts hown hK hP hv rfl zf_X1_15 dX1_node_79 ?_
            refine lv_iload (pc := 82) hx hb dX1_node_82 (lv_at hl 0 rfl) ?_
            obtain ⟨v28, hv, h⟩ := zl_some h
            refine xaI (pc := 84) hx hb hK hP hv dX1_node_84 ?_
            refine lv_istore (pc := 85) (lv' := [(5, .int v28), (6, .int x6_5), (0, .ref (o + x0)), (1, .int x1), (2, .int x2), (3, .int x3), (4, .int v1)]) hx hb dX1_node_85 hl (by decide) rfl (fun ls hl => ?_)
            refine lv_iinc (pc := 87) (v := x6_5 + 1) (lv' := [(6, .int (x6_5 + 1)), (5, .int v28), (0, .ref (o + x0)), (1, .int x1), (2, .int x2), (3, .int x3), (4, .int v1)]) hx hb dX1_node_87 hl (k := 1) rfl rfl (by decide) rfl (fun ls hl => ?_)
            refine lv_goto (pc := 90) (tgt := 20) hx hb dX1_node_90 (by decide) ?_
            exact ih5 (v28, x6_5 + 1, σ5) h _ _ ls hP hS (lv_sub hl [1, 0, 2, 3, 4, 5, 6] rfl)
          · rw [if_pos c1] at h
            refine lv_aload_n (pc := 53) hx hb dX1_node_53 rfl (lv_at hl 2 rfl) ?_
            obtain ⟨v29, hv, h⟩ := zl_some h
            refine xgR (pc := 54) (j := 3) zc1 hx hb hts hown hK hP hv rfl zf_X1_21 dX1_node_54 ?_
            refine lv_iload (pc := 57) hx hb dX1_node_57 (lv_at hl 0 rfl) ?_
            obtain ⟨v30, hv, h⟩ := zl_some h
            refine xaI (pc := 59) hx hb hK hP hv dX1_node_59 ?_
            refine lv_iload_n (pc := 60) hx hb dX1_node_60 rfl (lv_at hl 4 rfl) ?_
            refine lv_icmp_ne (pc := 61) (tgt := 78) hx hb dX1_node_61 (by decide) (fun c1 => ?_) (fun c1 => ?_)
            · rw [if_neg c1] at h
              refine lv_aload_n (pc := 78) hx hb dX1_node_78 rfl (lv_at hl 2 rfl) ?_
              obtain ⟨v31, hv, h⟩ := zl_some h
              refine xgR (pc := 79) (j := 1) zc1 hx hb hts hown hK hP hv rfl zf_X1_15 dX1_node_79 ?_
              refine lv_iload (pc := 82) hx hb dX1_node_82 (lv_at hl 0 rfl) ?_
              obtain ⟨v32, hv, h⟩ := zl_some h
              refine xaI (pc := 84) hx hb hK hP hv dX1_node_84 ?_
              refine lv_istore (pc := 85) (lv' := [(5, .int v32), (6, .int x6_5), (0, .ref (o + x0)), (1, .int x1), (2, .int x2), (3, .int x3), (4, .int v1)]) hx hb dX1_node_85 hl (by decide) rfl (fun ls hl => ?_)
              refine lv_iinc (pc := 87) (v := x6_5 + 1) (lv' := [(6, .int (x6_5 + 1)), (5, .int v32), (0, .ref (o + x0)), (1, .int x1), (2, .int x2), (3, .int x3), (4, .int v1)]) hx hb dX1_node_87 hl (k := 1) rfl rfl (by decide) rfl (fun ls hl => ?_)
              refine lv_goto (pc := 90) (tgt := 20) hx hb dX1_node_90 (by decide) ?_
              exact ih5 (v32, x6_5 + 1, σ5) h _ _ ls hP hS (lv_sub hl [1, 0, 2, 3, 4, 5, 6] rfl)
            · rw [if_pos c1] at h
              refine lv_aload_n (pc := 64) hx hb dX1_node_64 rfl (lv_at hl 2 rfl) ?_
              obtain ⟨v33, hv, h⟩ := zl_some h
              refine xgR (pc := 65) (j := 4) zc1 hx hb hts hown hK hP hv rfl zf_X1_24 dX1_node_65 ?_
              refine lv_iload (pc := 68) hx hb dX1_node_68 (lv_at hl 0 rfl) ?_
              obtain ⟨v34, hv, h⟩ := zl_some h
              refine xaI (pc := 70) hx hb hK hP hv dX1_node_70 ?_
              refine lv_iload_n (pc := 71) hx hb dX1_node_71 rfl (lv_at hl 5 rfl) ?_
              refine lv_icmp_ne (pc := 72) (tgt := 78) hx hb dX1_node_72 (by decide) (fun c1 => ?_) (fun c1 => ?_)
              · rw [if_neg c1] at h
                refine lv_aload_n (pc := 78) hx hb dX1_node_78 rfl (lv_at hl 2 rfl) ?_
                obtain ⟨v35, hv, h⟩ := zl_some h
                refine xgR (pc := 79) (j := 1) zc1 hx hb hts hown hK hP hv rfl zf_X1_15 dX1_node_79 ?_
                refine lv_iload (pc := 82) hx hb dX1_node_82 (lv_at hl 0 rfl) ?_
                obtain ⟨v36, hv, h⟩ := zl_some h
                refine xaI (pc := 84) hx hb hK hP hv dX1_node_84 ?_
                refine lv_istore (pc := 85) (lv' := [(5, .int v36), (6, .int x6_5), (0, .ref (o + x0)), (1, .int x1), (2, .int x2), (3, .int x3), (4, .int v1)]) hx hb dX1_node_85 hl (by decide) rfl (fun ls hl => ?_)
                refine lv_iinc (pc := 87) (v := x6_5 + 1) (lv' := [(6, .int (x6_5 + 1)), (5, .int v36), (0, .ref (o + x0)), (1, .int x1), (2, .int x2), (3, .int x3), (4, .int v1)]) hx hb dX1_node_87 hl (k := 1) rfl rfl (by decide) rfl (fun ls hl => ?_)
                refine lv_goto (pc := 90) (tgt := 20) hx hb dX1_node_90 (by decide) ?_
                exact ih5 (v36, x6_5 + 1, σ5) h _ _ ls hP hS (lv_sub hl [1, 0, 2, 3, 4, 5, 6] rfl)
              · rw [if_pos c1] at h
                refine lv_iload (pc := 75) hx hb dX1_node_75 (lv_at hl 0 rfl) ?_
                exact xreti (pc := 77) hx hb hr hlocks hP hK hE hS h dX1_node_77
  exact L20_5 N (v4, 0, σ2) h _ _ ls hP hS (lv_sub hl [1, 0, 3, 4, 5, 6, 2] rfl)
def F_X1_grow_72 (N : Nat) (x0 : Nat) (x4 : Int32) (again64 : (Int32 × zS) → Option (Unit × zS)) (again72 : (Int32 × zS) → Option (Unit × zS)) : Int32 × zS → Option (Unit × zS)
  | (x5, σ) =>
  if ((1 : Int32) <<< (x4 &&& 31)) ≤ x5 then
    (again64 (x4 + (-1), σ))
  else
    (zl (gR 1 6 x0 σ) fun v1 =>
    zl (aI 14 v1 ((2 * x5) + 1) σ) fun v2 =>
    zl (gR 1 6 x0 σ) fun v3 =>
    if v2 = 0 then
      (zl (gR 1 6 x0 σ) fun v4 =>
      zl (aI 14 v4 (2 * x5) σ) fun v5 =>
      zl (sI 14 v3 x5 v5 σ) fun σ6 =>
      again72 (x5 + 1, σ6))
    else
      (zl (gR 1 6 x0 σ) fun v7 =>
      zl (aI 14 v7 (2 * x5) σ) fun v8 =>
      zl (gC 1 x0) fun _ => zb (f_X1_node N x0 x4 v8 v2 σ) fun v9 σ10 =>
      zl (sI 14 v3 x5 v9 σ10) fun σ11 =>
      again72 (x5 + 1, σ11)))
def F_X1_grow_64 (N : Nat) (x0 : Nat) (again64 : (Int32 × zS) → Option (Unit × zS)) : Int32 × zS → Option (Unit × zS)
  | (x4, σ) =>
  if x4 < 0 then
    (some ((), σ))
  else
    (zlp (F_X1_grow_72 N x0 x4 again64) N (0, σ))
def F_X1_grow_16 (N : Nat) (x0 : Nat) (x1 : Nat) (x2 : Int32) (x3 : Int32) (again16 : (Int32 × zS) → Option (Unit × zS)) : Int32 × zS → Option (Unit × zS)
  | (x4, σ) =>
  if x3 ≤ x4 then
    (zlp (F_X1_grow_64 N x0) N ((zmin 10 x2) - 1, σ))
  else
    (zl (gR 1 6 x0 σ) fun v12 =>
    zl (gR 1 5 x0 σ) fun v13 =>
    zl (aI 14 v13 x4 σ) fun v14 =>
    zl (gC 2 x1) fun _ => zb (f_X2_holds N x1 v14 σ) fun v15 σ16 =>
    if v15 = 0 then
      (zl (sI 14 v12 x4 0 σ16) fun σ17 =>
      again16 (x4 + 1, σ17))
    else
      (zl (sI 14 v12 x4 1 σ16) fun σ18 =>
      again16 (x4 + 1, σ18)))
def f_X1_grow (N : Nat) (x0 : Nat) (x1 : Nat) (x2 : Int32) (σ : zS) : Option (Unit × zS) :=
  zlp (F_X1_grow_16 N x0 x1 x2 ((1 : Int32) <<< ((zmax 0 (zmin 10 x2)) &&& 31))) N (0, σ)
set_option maxHeartbeats 4000000 in
set_option maxRecDepth 100000 in
theorem c_X1_grow (l : Launch) (D : va_G) (c : zC) (o : Nat) (g : zEp) (N : Nat) {x0 : Nat} {x1 : Nat} {x2 : Int32} {σ : zS} {ρ : Unit × zS} (h : f_X1_grow N x0 x1 x2 σ = some ρ) : Met l yX1_grow zs_X1_grow (zr 6) (va_Pc [.ref (o + x0), .ref (o + x1), .int x2] (zG D c o g σ)) (zQu D c o g ρ) 0 0 (zA o) := by
  refine zMetG (by decide) (Nat.le_of_ble_eq_true rfl) ?_
  intro p e s m below meth cd ⟨hx, hb, hr, hml, hown, hts, hlocks⟩ hP hK hE ls hl
  have hS : va_S (zA o) s.heap s.heap [] := va_S.rf
  have hl : lv_has ls 7 [(0, .ref (o + x0)), (1, .ref (o + x1)), (2, .int x2)] := hl
  rw [f_X1_grow.eq_1] at h
  refine lv_iconst (pc := 0) (v := 1) hx hb dX1_grow_0 (by decide) ?_
  refine lv_iconst (pc := 1) (v := 0) hx hb dX1_grow_1 (by decide) ?_
  refine lv_bipush (pc := 2) (v := 10) hx hb dX1_grow_2 (by decide) ?_
  refine lv_iload_n (pc := 4) hx hb dX1_grow_4 rfl (lv_at hl 2 rfl) ?_
  refine xmin (pc := 5) (rest := [.int 0, .int 1]) hx hb (hml.trans hl.1.symm) hown (hts _ zm_X1_77) (hts _ zst_J9_min_7cf53) (hts _ zn_J9) (hts _ (zq_J9_min_7cf53 _ List.mem_cons_self).1) (Nat.le_of_ble_eq_true rfl) (Nat.le_of_ble_eq_true rfl) (Nat.zero_le _) (Nat.zero_le _) dX1_grow_5 ?_
  refine xmax (pc := 8) (rest := [.int 1]) hx hb (hml.trans hl.1.symm) hown (hts _ zm_X1_83) (hts _ zst_J9_max_7cf53) (hts _ zn_J9) (hts _ (zq_J9_max_7cf53 _ List.mem_cons_self).1) (Nat.le_of_ble_eq_true rfl) (Nat.le_of_ble_eq_true rfl) (Nat.zero_le _) (Nat.zero_le _) dX1_grow_8 ?_
  refine lv_ishl (pc := 11) hx hb dX1_grow_11 ?_
  refine lv_istore_n (pc := 12) (lv' := [(3, .int ((1 : Int32) <<< ((zmax 0 (zmin 10 x2)) &&& 31))), (0, .ref (o + x0)), (1, .ref (o + x1)), (2, .int x2)]) hx hb dX1_grow_12 rfl hl (by decide) rfl (fun ls hl => ?_)
  refine lv_iconst (pc := 13) (v := 0) hx hb dX1_grow_13 (by decide) ?_
  refine lv_istore (pc := 14) (lv' := [(4, .int 0), (3, .int ((1 : Int32) <<< ((zmax 0 (zmin 10 x2)) &&& 31))), (0, .ref (o + x0)), (1, .ref (o + x1)), (2, .int x2)]) hx hb dX1_grow_14 hl (by decide) rfl (fun ls hl => ?_)
  have L16_1 : ∀ (n : Nat) (t : Int32 × zS), zlp (F_X1_grow_16 N x0 x1 x2 ((1 : Int32) <<< ((zmax 0 (zmin 10 x2)) &&& 31))) n t = some ρ → ∀ (H : Heap) (locs : List Loc) (ls : Array Slot), zP D c o (zabs o (t.2)) H → va_S (zA o) s.heap H locs → lv_has ls 7 [(4, .int (t.1)), (0, .ref (o + x0)), (1, .ref (o + x1)), (2, .int x2), (3, .int ((1 : Int32) <<< ((zmax 0 (zmin 10 x2)) &&& 31)))] → W p l e (zr 6) s m (([.ref (o + x0), .ref (o + x1), .int x2] : List Value).toArray) below meth cd H locs 0 0 (MQ below (zQu D c o g ρ) (([.ref (o + x0), .ref (o + x1), .int x2] : List Value).toArray) s 0 0 (zA o)) (F0 m 16 ls []) := by
    refine zlp_ind (fun ag1 ih1 t h H locs ls hP hS hl => ?_)
    obtain ⟨x4_1, σ1⟩ := t
    have hP : zP D c o (zabs o σ1) H := hP
    have hl : lv_has ls 7 [(4, .int x4_1), (0, .ref (o + x0)), (1, .ref (o + x1)), (2, .int x2), (3, .int ((1 : Int32) <<< ((zmax 0 (zmin 10 x2)) &&& 31)))] := hl
    rw [F_X1_grow_16.eq_1] at h
    show W p l e (zr 6) s m (([.ref (o + x0), .ref (o + x1), .int x2] : List Value).toArray) below meth cd H locs 0 0 (MQ below (zQu D c o g ρ) (([.ref (o + x0), .ref (o + x1), .int x2] : List Value).toArray) s 0 0 (zA o)) (F0 m 16 ls [])
    refine lv_iload (pc := 16) hx hb dX1_grow_16 (lv_at hl 0 rfl) ?_
    refine lv_iload_n (pc := 18) hx hb dX1_grow_18 rfl (lv_at hl 4 rfl) ?_
    refine lv_icmp_ge (pc := 19) (tgt := 54) hx hb dX1_grow_19 (by decide) (fun c1 => ?_) (fun c1 => ?_)
    · rw [if_pos c1] at h
      refine lv_bipush (pc := 54) (v := 10) hx hb dX1_grow_54 (by decide) ?_
      refine lv_iload_n (pc := 56) hx hb dX1_grow_56 rfl (lv_at hl 3 rfl) ?_
      refine xmin (pc := 57) (rest := []) hx hb (hml.trans hl.1.symm) hown (hts _ zm_X1_77) (hts _ zst_J9_min_7cf53) (hts _ zn_J9) (hts _ (zq_J9_min_7cf53 _ List.mem_cons_self).1) (Nat.le_of_ble_eq_true rfl) (Nat.le_of_ble_eq_true rfl) (Nat.zero_le _) (Nat.zero_le _) dX1_grow_57 ?_
      refine lv_iconst (pc := 60) (v := 1) hx hb dX1_grow_60 (by decide) ?_
      refine lv_isub (pc := 61) hx hb dX1_grow_61 ?_
      refine lv_istore (pc := 62) (lv' := [(4, .int ((zmin 10 x2) - 1)), (0, .ref (o + x0)), (1, .ref (o + x1)), (2, .int x2), (3, .int ((1 : Int32) <<< ((zmax 0 (zmin 10 x2)) &&& 31)))]) hx hb dX1_grow_62 hl (by decide) rfl (fun ls hl => ?_)
      have L64_2 : ∀ (n : Nat) (t : Int32 × zS), zlp (F_X1_grow_64 N x0) n t = some ρ → ∀ (H : Heap) (locs : List Loc) (ls : Array Slot), zP D c o (zabs o (t.2)) H → va_S (zA o) s.heap H locs → lv_has ls 7 [(4, .int (t.1)), (0, .ref (o + x0))] → W p l e (zr 6) s m (([.ref (o + x0), .ref (o + x1), .int x2] : List Value).toArray) below meth cd H locs 0 0 (MQ below (zQu D c o g ρ) (([.ref (o + x0), .ref (o + x1), .int x2] : List Value).toArray) s 0 0 (zA o)) (F0 m 64 ls []) := by
        refine zlp_ind (fun ag2 ih2 t h H locs ls hP hS hl => ?_)
        obtain ⟨x4_2, σ2⟩ := t
        have hP : zP D c o (zabs o σ2) H := hP
        have hl : lv_has ls 7 [(4, .int x4_2), (0, .ref (o + x0))] := hl
        rw [F_X1_grow_64.eq_1] at h
        show W p l e (zr 6) s m (([.ref (o + x0), .ref (o + x1), .int x2] : List Value).toArray) below meth cd H locs 0 0 (MQ below (zQu D c o g ρ) (([.ref (o + x0), .ref (o + x1), .int x2] : List Value).toArray) s 0 0 (zA o)) (F0 m 64 ls [])
        refine lv_iload (pc := 64) hx hb dX1_grow_64 (lv_at hl 0 rfl) ?_
        refine lv_if_lt (pc := 66) (tgt := 147) hx hb dX1_grow_66 (by decide) (fun c1 => ?_) (fun c1 => ?_)
        · rw [if_pos c1] at h
          exact xretv (pc := 147) hx hb hr hlocks hP hK hE hS h dX1_grow_147
        · rw [if_neg c1] at h
          refine lv_iconst (pc := 69) (v := 0) hx hb dX1_grow_69 (by decide) ?_
          refine lv_istore (pc := 70) (lv' := [(5, .int 0), (4, .int x4_2), (0, .ref (o + x0))]) hx hb dX1_grow_70 hl (by decide) rfl (fun ls hl => ?_)
          have L72_3 : ∀ (n : Nat) (t : Int32 × zS), zlp (F_X1_grow_72 N x0 x4_2 ag2) n t = some ρ → ∀ (H : Heap) (locs : List Loc) (ls : Array Slot), zP D c o (zabs o (t.2)) H → va_S (zA o) s.heap H locs → lv_has ls 7 [(5, .int (t.1)), (0, .ref (o + x0)), (4, .int x4_2)] → W p l e (zr 6) s m (([.ref (o + x0), .ref (o + x1), .int x2] : List Value).toArray) below meth cd H locs 0 0 (MQ below (zQu D c o g ρ) (([.ref (o + x0), .ref (o + x1), .int x2] : List Value).toArray) s 0 0 (zA o)) (F0 m 72 ls []) := by
            refine zlp_ind (fun ag3 ih3 t h H locs ls hP hS hl => ?_)
            obtain ⟨x5_3, σ3⟩ := t
            have hP : zP D c o (zabs o σ3) H := hP
            have hl : lv_has ls 7 [(5, .int x5_3), (0, .ref (o + x0)), (4, .int x4_2)] := hl
            rw [F_X1_grow_72.eq_1] at h
            show W p l e (zr 6) s m (([.ref (o + x0), .ref (o + x1), .int x2] : List Value).toArray) below meth cd H locs 0 0 (MQ below (zQu D c o g ρ) (([.ref (o + x0), .ref (o + x1), .int x2] : List Value).toArray) s 0 0 (zA o)) (F0 m 72 ls [])
            refine lv_iload (pc := 72) hx hb dX1_grow_72 (lv_at hl 0 rfl) ?_
            refine lv_iconst (pc := 74) (v := 1) hx hb dX1_grow_74 (by decide) ?_
            refine lv_iload (pc := 75) hx hb dX1_grow_75 (lv_at hl 2 rfl) ?_
            refine lv_ishl (pc := 77) hx hb dX1_grow_77 ?_
            refine lv_icmp_ge (pc := 78) (tgt := 141) hx hb dX1_grow_78 (by decide) (fun c1 => ?_) (fun c1 => ?_)
            · rw [if_pos c1] at h
              refine lv_iinc (pc := 141) (v := x4_2 + (-1)) (lv' := [(4, .int (x4_2 + (-1))), (5, .int x5_3), (0, .ref (o + x0))]) hx hb dX1_grow_141 hl (k := 2) rfl rfl (by decide) rfl (fun ls hl => ?_)
              refine lv_goto (pc := 144) (tgt := 64) hx hb dX1_grow_144 (by decide) ?_
              exact ih2 (x4_2 + (-1), σ3) h _ _ ls hP hS (lv_sub hl [0, 2] rfl)
            · rw [if_neg c1] at h
              refine lv_aload_n (pc := 81) hx hb dX1_grow_81 rfl (lv_at hl 1 rfl) ?_
              obtain ⟨v4, hv, h⟩ := zl_some h
              refine xgR (pc := 82) (j := 6) zc1 hx hb hts hown hK hP hv rfl zf_X1_30 dX1_grow_82 ?_
              refine lv_iconst (pc := 85) (v := 2) hx hb dX1_grow_85 (by decide) ?_
              refine lv_iload (pc := 86) hx hb dX1_grow_86 (lv_at hl 0 rfl) ?_
              refine lv_imul (pc := 88) hx hb dX1_grow_88 ?_
              refine lv_iconst (pc := 89) (v := 1) hx hb dX1_grow_89 (by decide) ?_
              refine lv_iadd (pc := 90) hx hb dX1_grow_90 ?_
              obtain ⟨v5, hv, h⟩ := zl_some h
              refine xaI (pc := 91) hx hb hK hP hv dX1_grow_91 ?_
              refine lv_istore (pc := 92) (lv' := [(6, .int v5), (5, .int x5_3), (0, .ref (o + x0)), (4, .int x4_2)]) hx hb dX1_grow_92 hl (by decide) rfl (fun ls hl => ?_)
              refine lv_aload_n (pc := 94) hx hb dX1_grow_94 rfl (lv_at hl 2 rfl) ?_
              obtain ⟨v6, hv, h⟩ := zl_some h
              refine xgR (pc := 95) (j := 6) zc1 hx hb hts hown hK hP hv rfl zf_X1_30 dX1_grow_95 ?_
              refine lv_iload (pc := 98) hx hb dX1_grow_98 (lv_at hl 1 rfl) ?_
              refine lv_iload (pc := 100) hx hb dX1_grow_100 (lv_at hl 0 rfl) ?_
              refine lv_if_ne (pc := 102) (tgt := 117) hx hb dX1_grow_102 (by decide) (fun c1 => ?_) (fun c1 => ?_)
              · rw [if_neg c1] at h
                refine lv_aload_n (pc := 117) hx hb dX1_grow_117 rfl (lv_at hl 2 rfl) ?_
                refine lv_iload (pc := 118) hx hb dX1_grow_118 (lv_at hl 3 rfl) ?_
                refine lv_aload_n (pc := 120) hx hb dX1_grow_120 rfl (lv_at hl 2 rfl) ?_
                obtain ⟨v7, hv, h⟩ := zl_some h
                refine xgR (pc := 121) (j := 6) zc1 hx hb hts hown hK hP hv rfl zf_X1_30 dX1_grow_121 ?_
                refine lv_iconst (pc := 124) (v := 2) hx hb dX1_grow_124 (by decide) ?_
                refine lv_iload (pc := 125) hx hb dX1_grow_125 (lv_at hl 1 rfl) ?_
                refine lv_imul (pc := 127) hx hb dX1_grow_127 ?_
                obtain ⟨v8, hv, h⟩ := zl_some h
                refine xaI (pc := 128) hx hb hK hP hv dX1_grow_128 ?_
                refine lv_iload (pc := 129) hx hb dX1_grow_129 (lv_at hl 0 rfl) ?_
                obtain ⟨_, hg, h⟩ := zl_some h
                obtain ⟨v9, σ10, hv, h⟩ := zb_some h
                refine xcallVi (pc := 131) (As := [.int x4_2, .int v8, .int v5]) (rest := [.int x5_3, .ref (o + v6)]) ⟨hx, hb, hml, hown, hts⟩ (c_X1_node l D c o g N hv) zc1 zV_X1_92 rfl zd_X1_node ⟨Nat.le_of_ble_eq_true rfl, Nat.le_of_ble_eq_true rfl⟩ hK hP hE hS hg hl.1 rfl (Nat.le_of_ble_eq_true rfl) ⟨Nat.zero_le _, Nat.zero_le _⟩ dX1_grow_131 (fun H locs hP hS => ?_)
                obtain ⟨σ11, hv, h⟩ := zl_some h
                refine xsI (pc := 134) hx hb hK hP hS hv dX1_grow_134 (fun H locs hP hS => ?_)
                refine lv_iinc (pc := 135) (v := x5_3 + 1) (lv' := [(5, .int (x5_3 + 1)), (6, .int v5), (0, .ref (o + x0)), (4, .int x4_2)]) hx hb dX1_grow_135 hl (k := 1) rfl rfl (by decide) rfl (fun ls hl => ?_)
                refine lv_goto (pc := 138) (tgt := 72) hx hb dX1_grow_138 (by decide) ?_
                exact ih3 (x5_3 + 1, σ11) h _ _ ls hP hS (lv_sub hl [0, 2, 3] rfl)
              · rw [if_pos c1] at h
                refine lv_aload_n (pc := 105) hx hb dX1_grow_105 rfl (lv_at hl 2 rfl) ?_
                obtain ⟨v12, hv, h⟩ := zl_some h
                refine xgR (pc := 106) (j := 6) zc1 hx hb hts hown hK hP hv rfl zf_X1_30 dX1_grow_106 ?_
                refine lv_iconst (pc := 109) (v := 2) hx hb dX1_grow_109 (by decide) ?_
                refine lv_iload (pc := 110) hx hb dX1_grow_110 (lv_at hl 1 rfl) ?_
                refine lv_imul (pc := 112) hx hb dX1_grow_112 ?_
                obtain ⟨v13, hv, h⟩ := zl_some h
                refine xaI (pc := 113) hx hb hK hP hv dX1_grow_113 ?_
                refine lv_goto (pc := 114) (tgt := 134) hx hb dX1_grow_114 (by decide) ?_
                obtain ⟨σ14, hv, h⟩ := zl_some h
                refine xsI (pc := 134) hx hb hK hP hS hv dX1_grow_134 (fun H locs hP hS => ?_)
                refine lv_iinc (pc := 135) (v := x5_3 + 1) (lv' := [(5, .int (x5_3 + 1)), (6, .int v5), (0, .ref (o + x0)), (4, .int x4_2)]) hx hb dX1_grow_135 hl (k := 1) rfl rfl (by decide) rfl (fun ls hl => ?_)
                refine lv_goto (pc := 138) (tgt := 72) hx hb dX1_grow_138 (by decide) ?_
                exact ih3 (x5_3 + 1, σ14) h _ _ ls hP hS (lv_sub hl [0, 2, 3] rfl)
          exact L72_3 N (0, σ2) h _ _ ls hP hS (lv_sub hl [0, 2, 1] rfl)
      exact L64_2 N ((zmin 10 x2) - 1, σ1) h _ _ ls hP hS (lv_sub hl [0, 1] rfl)
    · rw [if_neg c1] at h
      refine lv_aload_n (pc := 22) hx hb dX1_grow_22 rfl (lv_at hl 1 rfl) ?_
      obtain ⟨v15, hv, h⟩ := zl_some h
      refine xgR (pc := 23) (j := 6) zc1 hx hb hts hown hK hP hv rfl zf_X1_30 dX1_grow_23 ?_
      refine lv_iload (pc := 26) hx hb dX1_grow_26 (lv_at hl 0 rfl) ?_
      refine lv_aload_n (pc := 28) hx hb dX1_grow_28 rfl (lv_at hl 2 rfl) ?_
      refine lv_aload_n (pc := 29) hx hb dX1_grow_29 rfl (lv_at hl 1 rfl) ?_
      obtain ⟨v16, hv, h⟩ := zl_some h
      refine xgR (pc := 30) (j := 5) zc1 hx hb hts hown hK hP hv rfl zf_X1_27 dX1_grow_30 ?_
      refine lv_iload (pc := 33) hx hb dX1_grow_33 (lv_at hl 0 rfl) ?_
      obtain ⟨v17, hv, h⟩ := zl_some h
      refine xaI (pc := 35) hx hb hK hP hv dX1_grow_35 ?_
      obtain ⟨_, hg, h⟩ := zl_some h
      obtain ⟨v18, σ19, hv, h⟩ := zb_some h
      refine xcallVi (pc := 36) (As := [.int v17]) (rest := [.int x4_1, .ref (o + v15)]) ⟨hx, hb, hml, hown, hts⟩ (c_X2_holds l D c o g N hv) zc2 zV_X1_86 rfl zd_X2_holds ⟨Nat.le_of_ble_eq_true rfl, Nat.le_of_ble_eq_true rfl⟩ hK hP hE hS hg hl.1 rfl (Nat.le_of_ble_eq_true rfl) ⟨Nat.zero_le _, Nat.zero_le _⟩ dX1_grow_36 (fun H locs hP hS => ?_)
      refine lv_if_eq (pc := 39) (tgt := 46) hx hb dX1_grow_39 (by decide) (fun c1 => ?_) (fun c1 => ?_)
      · rw [if_pos c1] at h
        refine lv_iconst (pc := 46) (v := 0) hx hb dX1_grow_46 (by decide) ?_
        obtain ⟨σ20, hv, h⟩ := zl_some h
        refine xsI (pc := 47) hx hb hK hP hS hv dX1_grow_47 (fun H locs hP hS => ?_)
        refine lv_iinc (pc := 48) (v := x4_1 + 1) (lv' := [(4, .int (x4_1 + 1)), (0, .ref (o + x0)), (1, .ref (o + x1)), (2, .int x2), (3, .int ((1 : Int32) <<< ((zmax 0 (zmin 10 x2)) &&& 31)))]) hx hb dX1_grow_48 hl (k := 0) rfl rfl (by decide) rfl (fun ls hl => ?_)
        refine lv_goto (pc := 51) (tgt := 16) hx hb dX1_grow_51 (by decide) ?_
        exact ih1 (x4_1 + 1, σ20) h _ _ ls hP hS (lv_sub hl [0, 1, 2, 3, 4] rfl)
      · rw [if_neg c1] at h
        refine lv_iconst (pc := 42) (v := 1) hx hb dX1_grow_42 (by decide) ?_
        refine lv_goto (pc := 43) (tgt := 47) hx hb dX1_grow_43 (by decide) ?_
        obtain ⟨σ21, hv, h⟩ := zl_some h
        refine xsI (pc := 47) hx hb hK hP hS hv dX1_grow_47 (fun H locs hP hS => ?_)
        refine lv_iinc (pc := 48) (v := x4_1 + 1) (lv' := [(4, .int (x4_1 + 1)), (0, .ref (o + x0)), (1, .ref (o + x1)), (2, .int x2), (3, .int ((1 : Int32) <<< ((zmax 0 (zmin 10 x2)) &&& 31)))]) hx hb dX1_grow_48 hl (k := 0) rfl rfl (by decide) rfl (fun ls hl => ?_)
        refine lv_goto (pc := 51) (tgt := 16) hx hb dX1_grow_51 (by decide) ?_
        exact ih1 (x4_1 + 1, σ21) h _ _ ls hP hS (lv_sub hl [0, 1, 2, 3, 4] rfl)
  exact L16_1 N (0, σ) h _ _ ls hP hS (lv_sub hl [0, 2, 3, 4, 1] rfl)
def F_X1_reset_2 (N : Nat) (x0 : Nat) (again2 : (Int32 × zS) → Option (Unit × zS)) : Int32 × zS → Option (Unit × zS)
  | (x1, σ) =>
  zl (gI 1 8 x0 σ) fun v1 =>
  if v1 ≤ x1 then
    (zl (gR 1 7 x0 σ) fun v2 =>
    zb (f_J7_fill_53178 N v2 0 σ) fun v3 σ4 =>
    zl (pI 1 8 x0 2 σ4) fun σ5 =>
    some ((), σ5))
  else
    (zl (gR 1 0 x0 σ) fun v6 =>
    zl (gR 1 2 x0 σ) fun v7 =>
    zl (aI 14 v7 x1 σ) fun v8 =>
    zl (gR 1 3 x0 σ) fun v9 =>
    zl (aI 14 v9 x1 σ) fun v10 =>
    zl (gR 1 4 x0 σ) fun v11 =>
    zl (aI 14 v11 x1 σ) fun v12 =>
    zb (f_X1_headOf N v8 v10 v12 σ) fun v13 σ14 =>
    zl (sI 14 v6 v13 0 σ14) fun σ15 =>
    again2 (x1 + 1, σ15))
def f_X1_reset (N : Nat) (x0 : Nat) (σ : zS) : Option (Unit × zS) :=
  zlp (F_X1_reset_2 N x0) N (2, σ)
set_option maxHeartbeats 4000000 in
set_option maxRecDepth 100000 in
theorem c_X1_reset (l : Launch) (D : va_G) (c : zC) (o : Nat) (g : zEp) (N : Nat) {x0 : Nat} {σ : zS} {ρ : Unit × zS} (h : f_X1_reset N x0 σ = some ρ) : Met l yX1_reset zs_X1_reset (zr 4) (va_Pc [.ref (o + x0)] (zG D c o g σ)) (zQu D c o g ρ) 0 0 (zA o) := by
  refine zMetG (by decide) (Nat.le_of_ble_eq_true rfl) ?_
  intro p e s m below meth cd ⟨hx, hb, hr, hml, hown, hts, hlocks⟩ hP hK hE ls hl
  have hS : va_S (zA o) s.heap s.heap [] := va_S.rf
  have hl : lv_has ls 2 [(0, .ref (o + x0))] := hl
  rw [f_X1_reset.eq_1] at h
  refine lv_iconst (pc := 0) (v := 2) hx hb dX1_reset_0 (by decide) ?_
  refine lv_istore_n (pc := 1) (lv' := [(1, .int 2), (0, .ref (o + x0))]) hx hb dX1_reset_1 rfl hl (by decide) rfl (fun ls hl => ?_)
  have L2_1 : ∀ (n : Nat) (t : Int32 × zS), zlp (F_X1_reset_2 N x0) n t = some ρ → ∀ (H : Heap) (locs : List Loc) (ls : Array Slot), zP D c o (zabs o (t.2)) H → va_S (zA o) s.heap H locs → lv_has ls 2 [(1, .int (t.1)), (0, .ref (o + x0))] → W p l e (zr 4) s m (([.ref (o + x0)] : List Value).toArray) below meth cd H locs 0 0 (MQ below (zQu D c o g ρ) (([.ref (o + x0)] : List Value).toArray) s 0 0 (zA o)) (F0 m 2 ls []) := by
    refine zlp_ind (fun ag1 ih1 t h H locs ls hP hS hl => ?_)
    obtain ⟨x1_1, σ1⟩ := t
    have hP : zP D c o (zabs o σ1) H := hP
    have hl : lv_has ls 2 [(1, .int x1_1), (0, .ref (o + x0))] := hl
    rw [F_X1_reset_2.eq_1] at h
    show W p l e (zr 4) s m (([.ref (o + x0)] : List Value).toArray) below meth cd H locs 0 0 (MQ below (zQu D c o g ρ) (([.ref (o + x0)] : List Value).toArray) s 0 0 (zA o)) (F0 m 2 ls [])
    refine lv_iload_n (pc := 2) hx hb dX1_reset_2 rfl (lv_at hl 0 rfl) ?_
    refine lv_aload_n (pc := 3) hx hb dX1_reset_3 rfl (lv_at hl 1 rfl) ?_
    obtain ⟨v2, hv, h⟩ := zl_some h
    refine xgI (pc := 4) (j := 8) zc1 hx hb hts hown hK hP hv rfl zf_X1_36 dX1_reset_4 ?_
    refine lv_icmp_ge (pc := 7) (tgt := 43) hx hb dX1_reset_7 (by decide) (fun c1 => ?_) (fun c1 => ?_)
    · rw [if_pos c1] at h
      refine lv_aload_n (pc := 43) hx hb dX1_reset_43 rfl (lv_at hl 1 rfl) ?_
      obtain ⟨v3, hv, h⟩ := zl_some h
      refine xgR (pc := 44) (j := 7) zc1 hx hb hts hown hK hP hv rfl zf_X1_33 dX1_reset_44 ?_
      refine lv_iconst (pc := 47) (v := 0) hx hb dX1_reset_47 (by decide) ?_
      obtain ⟨v4, σ5, hv, h⟩ := zb_some h
      refine xcallSv (pc := 48) (As := [.ref (o + v3), .int 0]) (rest := []) ⟨hx, hb, hml, hown, hts⟩ (c_J7_fill_53178 l D c o g N hv) zT_X1_68 rfl zd_J7_fill_53178 ⟨Nat.le_of_ble_eq_true rfl, Nat.le_of_ble_eq_true rfl⟩ hK hP hE hS hl.1 rfl (Nat.le_of_ble_eq_true rfl) ⟨Nat.zero_le _, Nat.zero_le _⟩ dX1_reset_48 (fun H locs hP hS => ?_)
      refine lv_aload_n (pc := 51) hx hb dX1_reset_51 rfl (lv_at hl 1 rfl) ?_
      refine lv_iconst (pc := 52) (v := 2) hx hb dX1_reset_52 (by decide) ?_
      obtain ⟨σ6, hv, h⟩ := zl_some h
      refine xpI (pc := 53) (j := 8) zc1 hx hb hts hown hK hP hS hv rfl rfl rfl zf_X1_36 dX1_reset_53 (fun H locs hP hS => ?_)
      exact xretv (pc := 56) hx hb hr hlocks hP hK hE hS h dX1_reset_56
    · rw [if_neg c1] at h
      refine lv_aload_n (pc := 10) hx hb dX1_reset_10 rfl (lv_at hl 1 rfl) ?_
      obtain ⟨v7, hv, h⟩ := zl_some h
      refine xgR (pc := 11) (j := 0) zc1 hx hb hts hown hK hP hv rfl zf_X1_11 dX1_reset_11 ?_
      refine lv_aload_n (pc := 14) hx hb dX1_reset_14 rfl (lv_at hl 1 rfl) ?_
      obtain ⟨v8, hv, h⟩ := zl_some h
      refine xgR (pc := 15) (j := 2) zc1 hx hb hts hown hK hP hv rfl zf_X1_18 dX1_reset_15 ?_
      refine lv_iload_n (pc := 18) hx hb dX1_reset_18 rfl (lv_at hl 0 rfl) ?_
      obtain ⟨v9, hv, h⟩ := zl_some h
      refine xaI (pc := 19) hx hb hK hP hv dX1_reset_19 ?_
      refine lv_aload_n (pc := 20) hx hb dX1_reset_20 rfl (lv_at hl 1 rfl) ?_
      obtain ⟨v10, hv, h⟩ := zl_some h
      refine xgR (pc := 21) (j := 3) zc1 hx hb hts hown hK hP hv rfl zf_X1_21 dX1_reset_21 ?_
      refine lv_iload_n (pc := 24) hx hb dX1_reset_24 rfl (lv_at hl 0 rfl) ?_
      obtain ⟨v11, hv, h⟩ := zl_some h
      refine xaI (pc := 25) hx hb hK hP hv dX1_reset_25 ?_
      refine lv_aload_n (pc := 26) hx hb dX1_reset_26 rfl (lv_at hl 1 rfl) ?_
      obtain ⟨v12, hv, h⟩ := zl_some h
      refine xgR (pc := 27) (j := 4) zc1 hx hb hts hown hK hP hv rfl zf_X1_24 dX1_reset_27 ?_
      refine lv_iload_n (pc := 30) hx hb dX1_reset_30 rfl (lv_at hl 0 rfl) ?_
      obtain ⟨v13, hv, h⟩ := zl_some h
      refine xaI (pc := 31) hx hb hK hP hv dX1_reset_31 ?_
      obtain ⟨v14, σ15, hv, h⟩ := zb_some h
      refine xcallSi (pc := 32) (As := [.int v9, .int v11, .int v13]) (rest := [.ref (o + v7)]) ⟨hx, hb, hml, hown, hts⟩ (c_X1_headOf l D c o g N hv) zT_X1_64 rfl zd_X1_headOf ⟨Nat.le_of_ble_eq_true rfl, Nat.le_of_ble_eq_true rfl⟩ hK hP hE hS hl.1 rfl (Nat.le_of_ble_eq_true rfl) ⟨Nat.zero_le _, Nat.zero_le _⟩ dX1_reset_32 (fun H locs hP hS => ?_)
      refine lv_iconst (pc := 35) (v := 0) hx hb dX1_reset_35 (by decide) ?_
      obtain ⟨σ16, hv, h⟩ := zl_some h
      refine xsI (pc := 36) hx hb hK hP hS hv dX1_reset_36 (fun H locs hP hS => ?_)
      refine lv_iinc (pc := 37) (v := x1_1 + 1) (lv' := [(1, .int (x1_1 + 1)), (0, .ref (o + x0))]) hx hb dX1_reset_37 hl (k := 0) rfl rfl (by decide) rfl (fun ls hl => ?_)
      refine lv_goto (pc := 40) (tgt := 2) hx hb dX1_reset_40 (by decide) ?_
      exact ih1 (x1_1 + 1, σ16) h _ _ ls hP hS (lv_sub hl [0, 1] rfl)
  exact L2_1 N (2, σ) h _ _ ls hP hS (lv_sub hl [0, 1] rfl)
def F_X1_spread_47 (N : Nat) (x0 : Nat) (x1 : Nat) (x2 : Int32) (x3 : Int32) (x4 : Int32) (again9 : (Int32 × zS) → Option (Unit × zS)) (again47 : (Int32 × zS) → Option (Unit × zS)) : Int32 × zS → Option (Unit × zS)
  | (x5, σ) =>
  if x3 ≤ x5 then
    (again9 (x2 + 1, σ))
  else
    (zl (gR 1 5 x0 σ) fun v7 =>
    zl (gR 1 5 x0 σ) fun v8 =>
    zl (aI 14 v8 x5 σ) fun v9 =>
    zl (sI 14 v7 (x3 + x5) (v9 ||| x4) σ) fun σ10 =>
    again47 (x5 + 1, σ10))
def F_X1_spread_9 (N : Nat) (x0 : Nat) (x1 : Nat) (again9 : (Int32 × zS) → Option (Unit × zS)) : Int32 × zS → Option (Unit × zS)
  | (x2, σ) =>
  zl (gI 10 0 x1 σ) fun v3 =>
  if v3 ≤ x2 then
    (some ((), σ))
  else
    (if 10 ≤ x2 then
      (some ((), σ))
    else
      (zl (gR 10 6 x1 σ) fun v4 =>
      zl (gI 10 0 x1 σ) fun v5 =>
      zl (aI 14 v4 ((v5 - 1) - x2) σ) fun v6 =>
      zlp (F_X1_spread_47 N x0 x1 x2 ((1 : Int32) <<< (x2 &&& 31)) ((1 : Int32) <<< (v6 &&& 31)) again9) N (0, σ)))
def f_X1_spread (N : Nat) (x0 : Nat) (x1 : Nat) (σ : zS) : Option (Unit × zS) :=
  zl (gR 1 5 x0 σ) fun v1 =>
  zl (sI 14 v1 0 0 σ) fun σ2 =>
  zlp (F_X1_spread_9 N x0 x1) N (0, σ2)
set_option maxHeartbeats 4000000 in
set_option maxRecDepth 100000 in
theorem c_X1_spread (l : Launch) (D : va_G) (c : zC) (o : Nat) (g : zEp) (N : Nat) {x0 : Nat} {x1 : Nat} {σ : zS} {ρ : Unit × zS} (h : f_X1_spread N x0 x1 σ = some ρ) : Met l yX1_spread zs_X1_spread (zr 2) (va_Pc [.ref (o + x0), .ref (o + x1)] (zG D c o g σ)) (zQu D c o g ρ) 0 0 (zA o) := by
  refine zMetG (by decide) (Nat.le_of_ble_eq_true rfl) ?_
  intro p e s m below meth cd ⟨hx, hb, hr, hml, hown, hts, hlocks⟩ hP hK hE ls hl
  have hS : va_S (zA o) s.heap s.heap [] := va_S.rf
  have hl : lv_has ls 6 [(0, .ref (o + x0)), (1, .ref (o + x1))] := hl
  rw [f_X1_spread.eq_1] at h
  refine lv_aload_n (pc := 0) hx hb dX1_spread_0 rfl (lv_at hl 0 rfl) ?_
  obtain ⟨v1, hv, h⟩ := zl_some h
  refine xgR (pc := 1) (j := 5) zc1 hx hb hts hown hK hP hv rfl zf_X1_27 dX1_spread_1 ?_
  refine lv_iconst (pc := 4) (v := 0) hx hb dX1_spread_4 (by decide) ?_
  refine lv_iconst (pc := 5) (v := 0) hx hb dX1_spread_5 (by decide) ?_
  obtain ⟨σ2, hv, h⟩ := zl_some h
  refine xsI (pc := 6) hx hb hK hP hS hv dX1_spread_6 (fun H locs hP hS => ?_)
  refine lv_iconst (pc := 7) (v := 0) hx hb dX1_spread_7 (by decide) ?_
  refine lv_istore_n (pc := 8) (lv' := [(2, .int 0), (0, .ref (o + x0)), (1, .ref (o + x1))]) hx hb dX1_spread_8 rfl hl (by decide) rfl (fun ls hl => ?_)
  have L9_3 : ∀ (n : Nat) (t : Int32 × zS), zlp (F_X1_spread_9 N x0 x1) n t = some ρ → ∀ (H : Heap) (locs : List Loc) (ls : Array Slot), zP D c o (zabs o (t.2)) H → va_S (zA o) s.heap H locs → lv_has ls 6 [(2, .int (t.1)), (0, .ref (o + x0)), (1, .ref (o + x1))] → W p l e (zr 2) s m (([.ref (o + x0), .ref (o + x1)] : List Value).toArray) below meth cd H locs 0 0 (MQ below (zQu D c o g ρ) (([.ref (o + x0), .ref (o + x1)] : List Value).toArray) s 0 0 (zA o)) (F0 m 9 ls []) := by
    refine zlp_ind (fun ag3 ih3 t h H locs ls hP hS hl => ?_)
    obtain ⟨x2_3, σ3⟩ := t
    have hP : zP D c o (zabs o σ3) H := hP
    have hl : lv_has ls 6 [(2, .int x2_3), (0, .ref (o + x0)), (1, .ref (o + x1))] := hl
    rw [F_X1_spread_9.eq_1] at h
    show W p l e (zr 2) s m (([.ref (o + x0), .ref (o + x1)] : List Value).toArray) below meth cd H locs 0 0 (MQ below (zQu D c o g ρ) (([.ref (o + x0), .ref (o + x1)] : List Value).toArray) s 0 0 (zA o)) (F0 m 9 ls [])
    refine lv_iload_n (pc := 9) hx hb dX1_spread_9 rfl (lv_at hl 0 rfl) ?_
    refine lv_aload_n (pc := 10) hx hb dX1_spread_10 rfl (lv_at hl 2 rfl) ?_
    obtain ⟨v4, hv, h⟩ := zl_some h
    refine xgI (pc := 11) (j := 0) zc10 hx hb hts hown hK hP hv rfl zf_X1_47 dX1_spread_11 ?_
    refine lv_icmp_ge (pc := 14) (tgt := 84) hx hb dX1_spread_14 (by decide) (fun c1 => ?_) (fun c1 => ?_)
    · rw [if_pos c1] at h
      exact xretv (pc := 84) hx hb hr hlocks hP hK hE hS h dX1_spread_84
    · rw [if_neg c1] at h
      refine lv_iload_n (pc := 17) hx hb dX1_spread_17 rfl (lv_at hl 0 rfl) ?_
      refine lv_bipush (pc := 18) (v := 10) hx hb dX1_spread_18 (by decide) ?_
      refine lv_icmp_ge (pc := 20) (tgt := 84) hx hb dX1_spread_20 (by decide) (fun c1 => ?_) (fun c1 => ?_)
      · rw [if_pos c1] at h
        exact xretv (pc := 84) hx hb hr hlocks hP hK hE hS h dX1_spread_84
      · rw [if_neg c1] at h
        refine lv_iconst (pc := 23) (v := 1) hx hb dX1_spread_23 (by decide) ?_
        refine lv_iload_n (pc := 24) hx hb dX1_spread_24 rfl (lv_at hl 0 rfl) ?_
        refine lv_ishl (pc := 25) hx hb dX1_spread_25 ?_
        refine lv_istore_n (pc := 26) (lv' := [(3, .int ((1 : Int32) <<< (x2_3 &&& 31))), (2, .int x2_3), (0, .ref (o + x0)), (1, .ref (o + x1))]) hx hb dX1_spread_26 rfl hl (by decide) rfl (fun ls hl => ?_)
        refine lv_iconst (pc := 27) (v := 1) hx hb dX1_spread_27 (by decide) ?_
        refine lv_aload_n (pc := 28) hx hb dX1_spread_28 rfl (lv_at hl 3 rfl) ?_
        obtain ⟨v5, hv, h⟩ := zl_some h
        refine xgR (pc := 29) (j := 6) zc10 hx hb hts hown hK hP hv rfl zf_X1_74 dX1_spread_29 ?_
        refine lv_aload_n (pc := 32) hx hb dX1_spread_32 rfl (lv_at hl 3 rfl) ?_
        obtain ⟨v6, hv, h⟩ := zl_some h
        refine xgI (pc := 33) (j := 0) zc10 hx hb hts hown hK hP hv rfl zf_X1_47 dX1_spread_33 ?_
        refine lv_iconst (pc := 36) (v := 1) hx hb dX1_spread_36 (by decide) ?_
        refine lv_isub (pc := 37) hx hb dX1_spread_37 ?_
        refine lv_iload_n (pc := 38) hx hb dX1_spread_38 rfl (lv_at hl 1 rfl) ?_
        refine lv_isub (pc := 39) hx hb dX1_spread_39 ?_
        obtain ⟨v7, hv, h⟩ := zl_some h
        refine xaI (pc := 40) hx hb hK hP hv dX1_spread_40 ?_
        refine lv_ishl (pc := 41) hx hb dX1_spread_41 ?_
        refine lv_istore (pc := 42) (lv' := [(4, .int ((1 : Int32) <<< (v7 &&& 31))), (3, .int ((1 : Int32) <<< (x2_3 &&& 31))), (2, .int x2_3), (0, .ref (o + x0)), (1, .ref (o + x1))]) hx hb dX1_spread_42 hl (by decide) rfl (fun ls hl => ?_)
        refine lv_iconst (pc := 44) (v := 0) hx hb dX1_spread_44 (by decide) ?_
        refine lv_istore (pc := 45) (lv' := [(5, .int 0), (4, .int ((1 : Int32) <<< (v7 &&& 31))), (3, .int ((1 : Int32) <<< (x2_3 &&& 31))), (2, .int x2_3), (0, .ref (o + x0)), (1, .ref (o + x1))]) hx hb dX1_spread_45 hl (by decide) rfl (fun ls hl => ?_)
        have L47_8 : ∀ (n : Nat) (t : Int32 × zS), zlp (F_X1_spread_47 N x0 x1 x2_3 ((1 : Int32) <<< (x2_3 &&& 31)) ((1 : Int32) <<< (v7 &&& 31)) ag3) n t = some ρ → ∀ (H : Heap) (locs : List Loc) (ls : Array Slot), zP D c o (zabs o (t.2)) H → va_S (zA o) s.heap H locs → lv_has ls 6 [(5, .int (t.1)), (0, .ref (o + x0)), (1, .ref (o + x1)), (2, .int x2_3), (3, .int ((1 : Int32) <<< (x2_3 &&& 31))), (4, .int ((1 : Int32) <<< (v7 &&& 31)))] → W p l e (zr 2) s m (([.ref (o + x0), .ref (o + x1)] : List Value).toArray) below meth cd H locs 0 0 (MQ below (zQu D c o g ρ) (([.ref (o + x0), .ref (o + x1)] : List Value).toArray) s 0 0 (zA o)) (F0 m 47 ls []) := by
          refine zlp_ind (fun ag8 ih8 t h H locs ls hP hS hl => ?_)
          obtain ⟨x5_8, σ8⟩ := t
          have hP : zP D c o (zabs o σ8) H := hP
          have hl : lv_has ls 6 [(5, .int x5_8), (0, .ref (o + x0)), (1, .ref (o + x1)), (2, .int x2_3), (3, .int ((1 : Int32) <<< (x2_3 &&& 31))), (4, .int ((1 : Int32) <<< (v7 &&& 31)))] := hl
          rw [F_X1_spread_47.eq_1] at h
          show W p l e (zr 2) s m (([.ref (o + x0), .ref (o + x1)] : List Value).toArray) below meth cd H locs 0 0 (MQ below (zQu D c o g ρ) (([.ref (o + x0), .ref (o + x1)] : List Value).toArray) s 0 0 (zA o)) (F0 m 47 ls [])
          refine lv_iload (pc := 47) hx hb dX1_spread_47 (lv_at hl 0 rfl) ?_
          refine lv_iload_n (pc := 49) hx hb dX1_spread_49 rfl (lv_at hl 4 rfl) ?_
          refine lv_icmp_ge (pc := 50) (tgt := 78) hx hb dX1_spread_50 (by decide) (fun c1 => ?_) (fun c1 => ?_)
          · rw [if_pos c1] at h
            refine lv_iinc (pc := 78) (v := x2_3 + 1) (lv' := [(2, .int (x2_3 + 1)), (5, .int x5_8), (0, .ref (o + x0)), (1, .ref (o + x1)), (3, .int ((1 : Int32) <<< (x2_3 &&& 31))), (4, .int ((1 : Int32) <<< (v7 &&& 31)))]) hx hb dX1_spread_78 hl (k := 3) rfl rfl (by decide) rfl (fun ls hl => ?_)
            refine lv_goto (pc := 81) (tgt := 9) hx hb dX1_spread_81 (by decide) ?_
            exact ih3 (x2_3 + 1, σ8) h _ _ ls hP hS (lv_sub hl [0, 2, 3] rfl)
          · rw [if_neg c1] at h
            refine lv_aload_n (pc := 53) hx hb dX1_spread_53 rfl (lv_at hl 1 rfl) ?_
            obtain ⟨v9, hv, h⟩ := zl_some h
            refine xgR (pc := 54) (j := 5) zc1 hx hb hts hown hK hP hv rfl zf_X1_27 dX1_spread_54 ?_
            refine lv_iload_n (pc := 57) hx hb dX1_spread_57 rfl (lv_at hl 4 rfl) ?_
            refine lv_iload (pc := 58) hx hb dX1_spread_58 (lv_at hl 0 rfl) ?_
            refine lv_iadd (pc := 60) hx hb dX1_spread_60 ?_
            refine lv_aload_n (pc := 61) hx hb dX1_spread_61 rfl (lv_at hl 1 rfl) ?_
            obtain ⟨v10, hv, h⟩ := zl_some h
            refine xgR (pc := 62) (j := 5) zc1 hx hb hts hown hK hP hv rfl zf_X1_27 dX1_spread_62 ?_
            refine lv_iload (pc := 65) hx hb dX1_spread_65 (lv_at hl 0 rfl) ?_
            obtain ⟨v11, hv, h⟩ := zl_some h
            refine xaI (pc := 67) hx hb hK hP hv dX1_spread_67 ?_
            refine lv_iload (pc := 68) hx hb dX1_spread_68 (lv_at hl 5 rfl) ?_
            refine lv_ior (pc := 70) hx hb dX1_spread_70 ?_
            obtain ⟨σ12, hv, h⟩ := zl_some h
            refine xsI (pc := 71) hx hb hK hP hS hv dX1_spread_71 (fun H locs hP hS => ?_)
            refine lv_iinc (pc := 72) (v := x5_8 + 1) (lv' := [(5, .int (x5_8 + 1)), (0, .ref (o + x0)), (1, .ref (o + x1)), (2, .int x2_3), (3, .int ((1 : Int32) <<< (x2_3 &&& 31))), (4, .int ((1 : Int32) <<< (v7 &&& 31)))]) hx hb dX1_spread_72 hl (k := 0) rfl rfl (by decide) rfl (fun ls hl => ?_)
            refine lv_goto (pc := 75) (tgt := 47) hx hb dX1_spread_75 (by decide) ?_
            exact ih8 (x5_8 + 1, σ12) h _ _ ls hP hS (lv_sub hl [0, 1, 2, 3, 4, 5] rfl)
        exact L47_8 N (0, σ3) h _ _ ls hP hS (lv_sub hl [0, 4, 5, 3, 2, 1] rfl)
  exact L9_3 N (0, σ2) h _ _ ls hP hS (lv_sub hl [0, 1, 2] rfl)
def f_X1_tallyOf (N : Nat) (x0 : Nat) (x1 : Nat) (x2 : Nat) (σ : zS) : Option (Int32 × zS) :=
  zl (gC 1 x0) fun _ => zb (f_X1_reset N x0 σ) fun v1 σ2 =>
  zl (gC 1 x0) fun _ => zb (f_X1_spread N x0 x1 σ2) fun v3 σ4 =>
  zl (gI 10 0 x1 σ4) fun v5 =>
  zl (gC 1 x0) fun _ => zb (f_X1_grow N x0 x2 v5 σ4) fun v6 σ7 =>
  zl (gI 1 8 x0 σ7) fun v8 =>
  some (v8 - 2, σ7)
set_option maxHeartbeats 4000000 in
set_option maxRecDepth 100000 in
theorem c_X1_tallyOf (l : Launch) (D : va_G) (c : zC) (o : Nat) (g : zEp) (N : Nat) {x0 : Nat} {x1 : Nat} {x2 : Nat} {σ : zS} {ρ : Int32 × zS} (h : f_X1_tallyOf N x0 x1 x2 σ = some ρ) : Met l yX1_tallyOf zs_X1_tallyOf (zr 8) (va_Pc [.ref (o + x0), .ref (o + x1), .ref (o + x2)] (zG D c o g σ)) (zQi D c o g ρ) 0 0 (zA o) := by
  refine zMetG (by decide) (Nat.le_of_ble_eq_true rfl) ?_
  intro p e s m below meth cd ⟨hx, hb, hr, hml, hown, hts, hlocks⟩ hP hK hE ls hl
  have hS : va_S (zA o) s.heap s.heap [] := va_S.rf
  have hl : lv_has ls 3 [(0, .ref (o + x0)), (1, .ref (o + x1)), (2, .ref (o + x2))] := hl
  rw [f_X1_tallyOf.eq_1] at h
  refine lv_aload_n (pc := 0) hx hb dX1_tallyOf_0 rfl (lv_at hl 0 rfl) ?_
  obtain ⟨_, hg, h⟩ := zl_some h
  obtain ⟨v1, σ2, hv, h⟩ := zb_some h
  refine xcallVv (pc := 1) (As := []) (rest := []) ⟨hx, hb, hml, hown, hts⟩ (c_X1_reset l D c o g N hv) zc1 zV_X1_40 rfl zd_X1_reset ⟨Nat.le_of_ble_eq_true rfl, Nat.le_of_ble_eq_true rfl⟩ hK hP hE hS hg hl.1 rfl (Nat.le_of_ble_eq_true rfl) ⟨Nat.zero_le _, Nat.zero_le _⟩ dX1_tallyOf_1 (fun H locs hP hS => ?_)
  refine lv_aload_n (pc := 4) hx hb dX1_tallyOf_4 rfl (lv_at hl 0 rfl) ?_
  refine lv_aload_n (pc := 5) hx hb dX1_tallyOf_5 rfl (lv_at hl 1 rfl) ?_
  obtain ⟨_, hg, h⟩ := zl_some h
  obtain ⟨v3, σ4, hv, h⟩ := zb_some h
  refine xcallVv (pc := 6) (As := [.ref (o + x1)]) (rest := []) ⟨hx, hb, hml, hown, hts⟩ (c_X1_spread l D c o g N hv) zc1 zV_X1_43 rfl zd_X1_spread ⟨Nat.le_of_ble_eq_true rfl, Nat.le_of_ble_eq_true rfl⟩ hK hP hE hS hg hl.1 rfl (Nat.le_of_ble_eq_true rfl) ⟨Nat.zero_le _, Nat.zero_le _⟩ dX1_tallyOf_6 (fun H locs hP hS => ?_)
  refine lv_aload_n (pc := 9) hx hb dX1_tallyOf_9 rfl (lv_at hl 0 rfl) ?_
  refine lv_aload_n (pc := 10) hx hb dX1_tallyOf_10 rfl (lv_at hl 2 rfl) ?_
  refine lv_aload_n (pc := 11) hx hb dX1_tallyOf_11 rfl (lv_at hl 1 rfl) ?_
  obtain ⟨v5, hv, h⟩ := zl_some h
  refine xgI (pc := 12) (j := 0) zc10 hx hb hts hown hK hP hv rfl zf_X1_47 dX1_tallyOf_12 ?_
  obtain ⟨_, hg, h⟩ := zl_some h
  obtain ⟨v6, σ7, hv, h⟩ := zb_some h
  refine xcallVv (pc := 15) (As := [.ref (o + x2), .int v5]) (rest := []) ⟨hx, hb, hml, hown, hts⟩ (c_X1_grow l D c o g N hv) zc1 zV_X1_52 rfl zd_X1_grow ⟨Nat.le_of_ble_eq_true rfl, Nat.le_of_ble_eq_true rfl⟩ hK hP hE hS hg hl.1 rfl (Nat.le_of_ble_eq_true rfl) ⟨Nat.zero_le _, Nat.zero_le _⟩ dX1_tallyOf_15 (fun H locs hP hS => ?_)
  refine lv_aload_n (pc := 18) hx hb dX1_tallyOf_18 rfl (lv_at hl 0 rfl) ?_
  obtain ⟨v8, hv, h⟩ := zl_some h
  refine xgI (pc := 19) (j := 8) zc1 hx hb hts hown hK hP hv rfl zf_X1_36 dX1_tallyOf_19 ?_
  refine lv_iconst (pc := 22) (v := 2) hx hb dX1_tallyOf_22 (by decide) ?_
  refine lv_isub (pc := 23) hx hb dX1_tallyOf_23 ?_
  exact xreti (pc := 24) hx hb hr hlocks hP hK hE hS h dX1_tallyOf_24
def F_X10_firstLike_2 (N : Nat) (x0 : Nat) (x1 : Int32) (again2 : (Int32 × zS) → Option (Int32 × zS)) : Int32 × zS → Option (Int32 × zS)
  | (x2, σ) =>
  if x1 ≤ x2 then
    (some (x1, σ))
  else
    (if 10 ≤ x2 then
      (some (x1, σ))
    else
      (if 10 ≤ x1 then
        (again2 (x2 + 1, σ))
      else
        (zl (gR 10 7 x0 σ) fun v1 =>
        zl (aR 17 v1 x2 σ) fun v2 =>
        zl (gR 10 7 x0 σ) fun v3 =>
        zl (aR 17 v3 x1 σ) fun v4 =>
        zl (gC 2 v2) fun _ => zb (f_X2_sameAs N v2 v4 σ) fun v5 σ6 =>
        if v5 = 0 then
          (again2 (x2 + 1, σ6))
        else
          (some (x2, σ6)))))
def f_X10_firstLike (N : Nat) (x0 : Nat) (x1 : Int32) (σ : zS) : Option (Int32 × zS) :=
  zlp (F_X10_firstLike_2 N x0 x1) N (0, σ)
set_option maxHeartbeats 4000000 in
set_option maxRecDepth 100000 in
theorem c_X10_firstLike (l : Launch) (D : va_G) (c : zC) (o : Nat) (g : zEp) (N : Nat) {x0 : Nat} {x1 : Int32} {σ : zS} {ρ : Int32 × zS} (h : f_X10_firstLike N x0 x1 σ = some ρ) : Met l yX10_firstLike zs_X10_firstLike (zr 4) (va_Pc [.ref (o + x0), .int x1] (zG D c o g σ)) (zQi D c o g ρ) 0 0 (zA o) := by
  refine zMetG (by decide) (Nat.le_of_ble_eq_true rfl) ?_
  intro p e s m below meth cd ⟨hx, hb, hr, hml, hown, hts, hlocks⟩ hP hK hE ls hl
  have hS : va_S (zA o) s.heap s.heap [] := va_S.rf
  have hl : lv_has ls 3 [(0, .ref (o + x0)), (1, .int x1)] := hl
  rw [f_X10_firstLike.eq_1] at h
  refine lv_iconst (pc := 0) (v := 0) hx hb dX10_firstLike_0 (by decide) ?_
  refine lv_istore_n (pc := 1) (lv' := [(2, .int 0), (0, .ref (o + x0)), (1, .int x1)]) hx hb dX10_firstLike_1 rfl hl (by decide) rfl (fun ls hl => ?_)
  have L2_1 : ∀ (n : Nat) (t : Int32 × zS), zlp (F_X10_firstLike_2 N x0 x1) n t = some ρ → ∀ (H : Heap) (locs : List Loc) (ls : Array Slot), zP D c o (zabs o (t.2)) H → va_S (zA o) s.heap H locs → lv_has ls 3 [(2, .int (t.1)), (0, .ref (o + x0)), (1, .int x1)] → W p l e (zr 4) s m (([.ref (o + x0), .int x1] : List Value).toArray) below meth cd H locs 0 0 (MQ below (zQi D c o g ρ) (([.ref (o + x0), .int x1] : List Value).toArray) s 0 0 (zA o)) (F0 m 2 ls []) := by
    refine zlp_ind (fun ag1 ih1 t h H locs ls hP hS hl => ?_)
    obtain ⟨x2_1, σ1⟩ := t
    have hP : zP D c o (zabs o σ1) H := hP
    have hl : lv_has ls 3 [(2, .int x2_1), (0, .ref (o + x0)), (1, .int x1)] := hl
    rw [F_X10_firstLike_2.eq_1] at h
    show W p l e (zr 4) s m (([.ref (o + x0), .int x1] : List Value).toArray) below meth cd H locs 0 0 (MQ below (zQi D c o g ρ) (([.ref (o + x0), .int x1] : List Value).toArray) s 0 0 (zA o)) (F0 m 2 ls [])
    refine lv_iload_n (pc := 2) hx hb dX10_firstLike_2 rfl (lv_at hl 0 rfl) ?_
    refine lv_iload_n (pc := 3) hx hb dX10_firstLike_3 rfl (lv_at hl 2 rfl) ?_
    refine lv_icmp_ge (pc := 4) (tgt := 45) hx hb dX10_firstLike_4 (by decide) (fun c1 => ?_) (fun c1 => ?_)
    · rw [if_pos c1] at h
      refine lv_iload_n (pc := 45) hx hb dX10_firstLike_45 rfl (lv_at hl 2 rfl) ?_
      exact xreti (pc := 46) hx hb hr hlocks hP hK hE hS h dX10_firstLike_46
    · rw [if_neg c1] at h
      refine lv_iload_n (pc := 7) hx hb dX10_firstLike_7 rfl (lv_at hl 0 rfl) ?_
      refine lv_bipush (pc := 8) (v := 10) hx hb dX10_firstLike_8 (by decide) ?_
      refine lv_icmp_ge (pc := 10) (tgt := 45) hx hb dX10_firstLike_10 (by decide) (fun c1 => ?_) (fun c1 => ?_)
      · rw [if_pos c1] at h
        refine lv_iload_n (pc := 45) hx hb dX10_firstLike_45 rfl (lv_at hl 2 rfl) ?_
        exact xreti (pc := 46) hx hb hr hlocks hP hK hE hS h dX10_firstLike_46
      · rw [if_neg c1] at h
        refine lv_iload_n (pc := 13) hx hb dX10_firstLike_13 rfl (lv_at hl 2 rfl) ?_
        refine lv_bipush (pc := 14) (v := 10) hx hb dX10_firstLike_14 (by decide) ?_
        refine lv_icmp_ge (pc := 16) (tgt := 39) hx hb dX10_firstLike_16 (by decide) (fun c1 => ?_) (fun c1 => ?_)
        · rw [if_pos c1] at h
          refine lv_iinc (pc := 39) (v := x2_1 + 1) (lv' := [(2, .int (x2_1 + 1)), (0, .ref (o + x0)), (1, .int x1)]) hx hb dX10_firstLike_39 hl (k := 0) rfl rfl (by decide) rfl (fun ls hl => ?_)
          refine lv_goto (pc := 42) (tgt := 2) hx hb dX10_firstLike_42 (by decide) ?_
          exact ih1 (x2_1 + 1, σ1) h _ _ ls hP hS (lv_sub hl [0, 1, 2] rfl)
        · rw [if_neg c1] at h
          refine lv_aload_n (pc := 19) hx hb dX10_firstLike_19 rfl (lv_at hl 1 rfl) ?_
          obtain ⟨v2, hv, h⟩ := zl_some h
          refine xgR (pc := 20) (j := 7) zc10 hx hb hts hown hK hP hv rfl zf_X10_36 dX10_firstLike_20 ?_
          refine lv_iload_n (pc := 23) hx hb dX10_firstLike_23 rfl (lv_at hl 0 rfl) ?_
          obtain ⟨v3, hv, h⟩ := zl_some h
          refine xaF (pc := 24) hx hb hK hP hv dX10_firstLike_24 ?_
          refine lv_aload_n (pc := 25) hx hb dX10_firstLike_25 rfl (lv_at hl 1 rfl) ?_
          obtain ⟨v4, hv, h⟩ := zl_some h
          refine xgR (pc := 26) (j := 7) zc10 hx hb hts hown hK hP hv rfl zf_X10_36 dX10_firstLike_26 ?_
          refine lv_iload_n (pc := 29) hx hb dX10_firstLike_29 rfl (lv_at hl 2 rfl) ?_
          obtain ⟨v5, hv, h⟩ := zl_some h
          refine xaF (pc := 30) hx hb hK hP hv dX10_firstLike_30 ?_
          obtain ⟨_, hg, h⟩ := zl_some h
          obtain ⟨v6, σ7, hv, h⟩ := zb_some h
          refine xcallVi (pc := 31) (As := [.ref (o + v5)]) (rest := []) ⟨hx, hb, hml, hown, hts⟩ (c_X2_sameAs l D c o g N hv) zc2 zV_X10_65 rfl zd_X2_sameAs ⟨Nat.le_of_ble_eq_true rfl, Nat.le_of_ble_eq_true rfl⟩ hK hP hE hS hg hl.1 rfl (Nat.le_of_ble_eq_true rfl) ⟨Nat.zero_le _, Nat.zero_le _⟩ dX10_firstLike_31 (fun H locs hP hS => ?_)
          refine lv_if_eq (pc := 34) (tgt := 39) hx hb dX10_firstLike_34 (by decide) (fun c1 => ?_) (fun c1 => ?_)
          · rw [if_pos c1] at h
            refine lv_iinc (pc := 39) (v := x2_1 + 1) (lv' := [(2, .int (x2_1 + 1)), (0, .ref (o + x0)), (1, .int x1)]) hx hb dX10_firstLike_39 hl (k := 0) rfl rfl (by decide) rfl (fun ls hl => ?_)
            refine lv_goto (pc := 42) (tgt := 2) hx hb dX10_firstLike_42 (by decide) ?_
            exact ih1 (x2_1 + 1, σ7) h _ _ ls hP hS (lv_sub hl [0, 1, 2] rfl)
          · rw [if_neg c1] at h
            refine lv_iload_n (pc := 37) hx hb dX10_firstLike_37 rfl (lv_at hl 0 rfl) ?_
            exact xreti (pc := 38) hx hb hr hlocks hP hK hE hS h dX10_firstLike_38
  exact L2_1 N (0, σ) h _ _ ls hP hS (lv_sub hl [0, 1, 2] rfl)
def F_X1_tallyOfAll_11 (N : Nat) (x0 : Nat) (x1 : Nat) (again11 : (Int32 × zS) → Option (Int32 × zS)) : Int32 × zS → Option (Int32 × zS)
  | (x2, σ) =>
  if 10 ≤ x2 then
    (zl (gI 1 8 x0 σ) fun v5 =>
    some (v5 - 2, σ))
  else
    (zl (gC 10 x1) fun _ => zb (f_X10_firstLike N x1 x2 σ) fun v6 σ7 =>
    if v6 = x2 then
      (zl (gR 10 7 x1 σ7) fun v8 =>
      zl (aR 17 v8 x2 σ7) fun v9 =>
      zl (gI 10 0 x1 σ7) fun v10 =>
      zl (gC 1 x0) fun _ => zb (f_X1_grow N x0 v9 v10 σ7) fun v11 σ12 =>
      again11 (x2 + 1, σ12))
    else
      (again11 (x2 + 1, σ7)))
def f_X1_tallyOfAll (N : Nat) (x0 : Nat) (x1 : Nat) (σ : zS) : Option (Int32 × zS) :=
  zl (gC 1 x0) fun _ => zb (f_X1_reset N x0 σ) fun v1 σ2 =>
  zl (gC 1 x0) fun _ => zb (f_X1_spread N x0 x1 σ2) fun v3 σ4 =>
  zlp (F_X1_tallyOfAll_11 N x0 x1) N (0, σ4)
set_option maxHeartbeats 4000000 in
set_option maxRecDepth 100000 in
theorem c_X1_tallyOfAll (l : Launch) (D : va_G) (c : zC) (o : Nat) (g : zEp) (N : Nat) {x0 : Nat} {x1 : Nat} {σ : zS} {ρ : Int32 × zS} (h : f_X1_tallyOfAll N x0 x1 σ = some ρ) : Met l yX1_tallyOfAll zs_X1_tallyOfAll (zr 8) (va_Pc [.ref (o + x0), .ref (o + x1)] (zG D c o g σ)) (zQi D c o g ρ) 0 0 (zA o) := by
  refine zMetG (by decide) (Nat.le_of_ble_eq_true rfl) ?_
  intro p e s m below meth cd ⟨hx, hb, hr, hml, hown, hts, hlocks⟩ hP hK hE ls hl
  have hS : va_S (zA o) s.heap s.heap [] := va_S.rf
  have hl : lv_has ls 3 [(0, .ref (o + x0)), (1, .ref (o + x1))] := hl
  rw [f_X1_tallyOfAll.eq_1] at h
  refine lv_aload_n (pc := 0) hx hb dX1_tallyOfAll_0 rfl (lv_at hl 0 rfl) ?_
  obtain ⟨_, hg, h⟩ := zl_some h
  obtain ⟨v1, σ2, hv, h⟩ := zb_some h
  refine xcallVv (pc := 1) (As := []) (rest := []) ⟨hx, hb, hml, hown, hts⟩ (c_X1_reset l D c o g N hv) zc1 zV_X1_40 rfl zd_X1_reset ⟨Nat.le_of_ble_eq_true rfl, Nat.le_of_ble_eq_true rfl⟩ hK hP hE hS hg hl.1 rfl (Nat.le_of_ble_eq_true rfl) ⟨Nat.zero_le _, Nat.zero_le _⟩ dX1_tallyOfAll_1 (fun H locs hP hS => ?_)
  refine lv_aload_n (pc := 4) hx hb dX1_tallyOfAll_4 rfl (lv_at hl 0 rfl) ?_
  refine lv_aload_n (pc := 5) hx hb dX1_tallyOfAll_5 rfl (lv_at hl 1 rfl) ?_
  obtain ⟨_, hg, h⟩ := zl_some h
  obtain ⟨v3, σ4, hv, h⟩ := zb_some h
  refine xcallVv (pc := 6) (As := [.ref (o + x1)]) (rest := []) ⟨hx, hb, hml, hown, hts⟩ (c_X1_spread l D c o g N hv) zc1 zV_X1_43 rfl zd_X1_spread ⟨Nat.le_of_ble_eq_true rfl, Nat.le_of_ble_eq_true rfl⟩ hK hP hE hS hg hl.1 rfl (Nat.le_of_ble_eq_true rfl) ⟨Nat.zero_le _, Nat.zero_le _⟩ dX1_tallyOfAll_6 (fun H locs hP hS => ?_)
  refine lv_iconst (pc := 9) (v := 0) hx hb dX1_tallyOfAll_9 (by decide) ?_
  refine lv_istore_n (pc := 10) (lv' := [(2, .int 0), (0, .ref (o + x0)), (1, .ref (o + x1))]) hx hb dX1_tallyOfAll_10 rfl hl (by decide) rfl (fun ls hl => ?_)
  have L11_5 : ∀ (n : Nat) (t : Int32 × zS), zlp (F_X1_tallyOfAll_11 N x0 x1) n t = some ρ → ∀ (H : Heap) (locs : List Loc) (ls : Array Slot), zP D c o (zabs o (t.2)) H → va_S (zA o) s.heap H locs → lv_has ls 3 [(2, .int (t.1)), (0, .ref (o + x0)), (1, .ref (o + x1))] → W p l e (zr 8) s m (([.ref (o + x0), .ref (o + x1)] : List Value).toArray) below meth cd H locs 0 0 (MQ below (zQi D c o g ρ) (([.ref (o + x0), .ref (o + x1)] : List Value).toArray) s 0 0 (zA o)) (F0 m 11 ls []) := by
    refine zlp_ind (fun ag5 ih5 t h H locs ls hP hS hl => ?_)
    obtain ⟨x2_5, σ5⟩ := t
    have hP : zP D c o (zabs o σ5) H := hP
    have hl : lv_has ls 3 [(2, .int x2_5), (0, .ref (o + x0)), (1, .ref (o + x1))] := hl
    rw [F_X1_tallyOfAll_11.eq_1] at h
    show W p l e (zr 8) s m (([.ref (o + x0), .ref (o + x1)] : List Value).toArray) below meth cd H locs 0 0 (MQ below (zQi D c o g ρ) (([.ref (o + x0), .ref (o + x1)] : List Value).toArray) s 0 0 (zA o)) (F0 m 11 ls [])
    refine lv_iload_n (pc := 11) hx hb dX1_tallyOfAll_11 rfl (lv_at hl 0 rfl) ?_
    refine lv_bipush (pc := 12) (v := 10) hx hb dX1_tallyOfAll_12 (by decide) ?_
    refine lv_icmp_ge (pc := 14) (tgt := 46) hx hb dX1_tallyOfAll_14 (by decide) (fun c1 => ?_) (fun c1 => ?_)
    · rw [if_pos c1] at h
      refine lv_aload_n (pc := 46) hx hb dX1_tallyOfAll_46 rfl (lv_at hl 1 rfl) ?_
      obtain ⟨v6, hv, h⟩ := zl_some h
      refine xgI (pc := 47) (j := 8) zc1 hx hb hts hown hK hP hv rfl zf_X1_36 dX1_tallyOfAll_47 ?_
      refine lv_iconst (pc := 50) (v := 2) hx hb dX1_tallyOfAll_50 (by decide) ?_
      refine lv_isub (pc := 51) hx hb dX1_tallyOfAll_51 ?_
      exact xreti (pc := 52) hx hb hr hlocks hP hK hE hS h dX1_tallyOfAll_52
    · rw [if_neg c1] at h
      refine lv_aload_n (pc := 17) hx hb dX1_tallyOfAll_17 rfl (lv_at hl 2 rfl) ?_
      refine lv_iload_n (pc := 18) hx hb dX1_tallyOfAll_18 rfl (lv_at hl 0 rfl) ?_
      obtain ⟨_, hg, h⟩ := zl_some h
      obtain ⟨v7, σ8, hv, h⟩ := zb_some h
      refine xcallVi (pc := 19) (As := [.int x2_5]) (rest := []) ⟨hx, hb, hml, hown, hts⟩ (c_X10_firstLike l D c o g N hv) zc10 zV_X1_56 rfl zd_X10_firstLike ⟨Nat.le_of_ble_eq_true rfl, Nat.le_of_ble_eq_true rfl⟩ hK hP hE hS hg hl.1 rfl (Nat.le_of_ble_eq_true rfl) ⟨Nat.zero_le _, Nat.zero_le _⟩ dX1_tallyOfAll_19 (fun H locs hP hS => ?_)
      refine lv_iload_n (pc := 22) hx hb dX1_tallyOfAll_22 rfl (lv_at hl 0 rfl) ?_
      refine lv_icmp_ne (pc := 23) (tgt := 40) hx hb dX1_tallyOfAll_23 (by decide) (fun c1 => ?_) (fun c1 => ?_)
      · rw [if_neg c1] at h
        refine lv_iinc (pc := 40) (v := x2_5 + 1) (lv' := [(2, .int (x2_5 + 1)), (0, .ref (o + x0)), (1, .ref (o + x1))]) hx hb dX1_tallyOfAll_40 hl (k := 0) rfl rfl (by decide) rfl (fun ls hl => ?_)
        refine lv_goto (pc := 43) (tgt := 11) hx hb dX1_tallyOfAll_43 (by decide) ?_
        exact ih5 (x2_5 + 1, σ8) h _ _ ls hP hS (lv_sub hl [0, 1, 2] rfl)
      · rw [if_pos c1] at h
        refine lv_aload_n (pc := 26) hx hb dX1_tallyOfAll_26 rfl (lv_at hl 1 rfl) ?_
        refine lv_aload_n (pc := 27) hx hb dX1_tallyOfAll_27 rfl (lv_at hl 2 rfl) ?_
        obtain ⟨v9, hv, h⟩ := zl_some h
        refine xgR (pc := 28) (j := 7) zc10 hx hb hts hown hK hP hv rfl zf_X1_60 dX1_tallyOfAll_28 ?_
        refine lv_iload_n (pc := 31) hx hb dX1_tallyOfAll_31 rfl (lv_at hl 0 rfl) ?_
        obtain ⟨v10, hv, h⟩ := zl_some h
        refine xaF (pc := 32) hx hb hK hP hv dX1_tallyOfAll_32 ?_
        refine lv_aload_n (pc := 33) hx hb dX1_tallyOfAll_33 rfl (lv_at hl 2 rfl) ?_
        obtain ⟨v11, hv, h⟩ := zl_some h
        refine xgI (pc := 34) (j := 0) zc10 hx hb hts hown hK hP hv rfl zf_X1_47 dX1_tallyOfAll_34 ?_
        obtain ⟨_, hg, h⟩ := zl_some h
        obtain ⟨v12, σ13, hv, h⟩ := zb_some h
        refine xcallVv (pc := 37) (As := [.ref (o + v10), .int v11]) (rest := []) ⟨hx, hb, hml, hown, hts⟩ (c_X1_grow l D c o g N hv) zc1 zV_X1_52 rfl zd_X1_grow ⟨Nat.le_of_ble_eq_true rfl, Nat.le_of_ble_eq_true rfl⟩ hK hP hE hS hg hl.1 rfl (Nat.le_of_ble_eq_true rfl) ⟨Nat.zero_le _, Nat.zero_le _⟩ dX1_tallyOfAll_37 (fun H locs hP hS => ?_)
        refine lv_iinc (pc := 40) (v := x2_5 + 1) (lv' := [(2, .int (x2_5 + 1)), (0, .ref (o + x0)), (1, .ref (o + x1))]) hx hb dX1_tallyOfAll_40 hl (k := 0) rfl rfl (by decide) rfl (fun ls hl => ?_)
        refine lv_goto (pc := 43) (tgt := 11) hx hb dX1_tallyOfAll_43 (by decide) ?_
        exact ih5 (x2_5 + 1, σ13) h _ _ ls hP hS (lv_sub hl [0, 1, 2] rfl)
  exact L11_5 N (0, σ4) h _ _ ls hP hS (lv_sub hl [0, 1, 2] rfl)
def f_X1_tallyAt (N : Nat) (x0 : Nat) (x1 : Int32) (σ : zS) : Option (Int32 × zS) :=
  if x1 < 0 then
    (some (0, σ))
  else
    (if 10 ≤ x1 then
      (some (0, σ))
    else
      (zl (gR 1 7 x0 σ) fun v1 =>
      zl (aI 14 v1 x1 σ) fun v2 =>
      some (v2, σ)))
set_option maxHeartbeats 4000000 in
set_option maxRecDepth 100000 in
theorem c_X1_tallyAt (l : Launch) (D : va_G) (c : zC) (o : Nat) (g : zEp) (N : Nat) {x0 : Nat} {x1 : Int32} {σ : zS} {ρ : Int32 × zS} (h : f_X1_tallyAt N x0 x1 σ = some ρ) : Met l yX1_tallyAt zs_X1_tallyAt (zr 2) (va_Pc [.ref (o + x0), .int x1] (zG D c o g σ)) (zQi D c o g ρ) 0 0 (zA o) := by
  refine zMetG (by decide) (Nat.le_of_ble_eq_true rfl) ?_
  intro p e s m below meth cd ⟨hx, hb, hr, hml, hown, hts, hlocks⟩ hP hK hE ls hl
  have hS : va_S (zA o) s.heap s.heap [] := va_S.rf
  have hl : lv_has ls 2 [(0, .ref (o + x0)), (1, .int x1)] := hl
  rw [f_X1_tallyAt.eq_1] at h
  refine lv_iload_n (pc := 0) hx hb dX1_tallyAt_0 rfl (lv_at hl 1 rfl) ?_
  refine lv_if_lt (pc := 1) (tgt := 19) hx hb dX1_tallyAt_1 (by decide) (fun c1 => ?_) (fun c1 => ?_)
  · rw [if_pos c1] at h
    refine lv_iconst (pc := 19) (v := 0) hx hb dX1_tallyAt_19 (by decide) ?_
    exact xreti (pc := 20) hx hb hr hlocks hP hK hE hS h dX1_tallyAt_20
  · rw [if_neg c1] at h
    refine lv_iload_n (pc := 4) hx hb dX1_tallyAt_4 rfl (lv_at hl 1 rfl) ?_
    refine lv_bipush (pc := 5) (v := 10) hx hb dX1_tallyAt_5 (by decide) ?_
    refine lv_icmp_ge (pc := 7) (tgt := 19) hx hb dX1_tallyAt_7 (by decide) (fun c1 => ?_) (fun c1 => ?_)
    · rw [if_pos c1] at h
      refine lv_iconst (pc := 19) (v := 0) hx hb dX1_tallyAt_19 (by decide) ?_
      exact xreti (pc := 20) hx hb hr hlocks hP hK hE hS h dX1_tallyAt_20
    · rw [if_neg c1] at h
      refine lv_aload_n (pc := 10) hx hb dX1_tallyAt_10 rfl (lv_at hl 0 rfl) ?_
      obtain ⟨v1, hv, h⟩ := zl_some h
      refine xgR (pc := 11) (j := 7) zc1 hx hb hts hown hK hP hv rfl zf_X1_33 dX1_tallyAt_11 ?_
      refine lv_iload_n (pc := 14) hx hb dX1_tallyAt_14 rfl (lv_at hl 1 rfl) ?_
      obtain ⟨v2, hv, h⟩ := zl_some h
      refine xaI (pc := 15) hx hb hK hP hv dX1_tallyAt_15 ?_
      refine lv_goto (pc := 16) (tgt := 20) hx hb dX1_tallyAt_16 (by decide) ?_
      exact xreti (pc := 20) hx hb hr hlocks hP hK hE hS h dX1_tallyAt_20

def f_X2_exclude (N : Nat) (x0 : Nat) (x1 : Int32) (σ : zS) : Option (Unit × zS) :=
  if x1 < 0 then
    (some ((), σ))
  else
    (if 1024 ≤ x1 then
      (some ((), σ))
    else
      (zl (gR 2 0 x0 σ) fun v1 =>
      zl (aJ v1 ((x1 : Int32) >>> (6 &&& 31)) σ) fun v2 =>
      zl (sJ v1 ((x1 : Int32) >>> (6 &&& 31)) (v2 &&& ((zsl 1 (x1 &&& 63)) ^^^ (-1))) σ) fun σ3 =>
      some ((), σ3)))
set_option maxHeartbeats 4000000 in
set_option maxRecDepth 100000 in
theorem c_X2_exclude (l : Launch) (D : va_G) (c : zC) (o : Nat) (g : zEp) (N : Nat) {x0 : Nat} {x1 : Int32} {σ : zS} {ρ : Unit × zS} (h : f_X2_exclude N x0 x1 σ = some ρ) : Met l yX2_exclude zs_X2_exclude (zr 2) (va_Pc [.ref (o + x0), .int x1] (zG D c o g σ)) (zQu D c o g ρ) 0 0 (zA o) := by
  refine zMetG (by decide) (Nat.le_of_ble_eq_true rfl) ?_
  intro p e s m below meth cd ⟨hx, hb, hr, hml, hown, hts, hlocks⟩ hP hK hE ls hl
  have hS : va_S (zA o) s.heap s.heap [] := va_S.rf
  have hl : lv_has ls 2 [(0, .ref (o + x0)), (1, .int x1)] := hl
  rw [f_X2_exclude.eq_1] at h
  refine lv_iload_n (pc := 0) hx hb dX2_exclude_0 rfl (lv_at hl 1 rfl) ?_
  refine lv_if_lt (pc := 1) (tgt := 33) hx hb dX2_exclude_1 (by decide) (fun c1 => ?_) (fun c1 => ?_)
  · rw [if_pos c1] at h
    exact xretv (pc := 33) hx hb hr hlocks hP hK hE hS h dX2_exclude_33
  · rw [if_neg c1] at h
    refine lv_iload_n (pc := 4) hx hb dX2_exclude_4 rfl (lv_at hl 1 rfl) ?_
    refine lv_sipush (pc := 5) (v := 1024) hx hb dX2_exclude_5 (by decide) ?_
    refine lv_icmp_ge (pc := 8) (tgt := 33) hx hb dX2_exclude_8 (by decide) (fun c1 => ?_) (fun c1 => ?_)
    · rw [if_pos c1] at h
      exact xretv (pc := 33) hx hb hr hlocks hP hK hE hS h dX2_exclude_33
    · rw [if_neg c1] at h
      refine lv_aload_n (pc := 11) hx hb dX2_exclude_11 rfl (lv_at hl 0 rfl) ?_
      obtain ⟨v1, hv, h⟩ := zl_some h
      refine xgR (pc := 12) (j := 0) zc2 hx hb hts hown hK hP hv rfl zf_X2_11 dX2_exclude_12 ?_
      refine lv_iload_n (pc := 15) hx hb dX2_exclude_15 rfl (lv_at hl 1 rfl) ?_
      refine lv_bipush (pc := 16) (v := 6) hx hb dX2_exclude_16 (by decide) ?_
      refine lv_ishr (pc := 18) hx hb dX2_exclude_18 ?_
      refine lv_dup2_11 (pc := 19) hx hb dX2_exclude_19 rfl rfl ?_
      obtain ⟨v2, hv, h⟩ := zl_some h
      refine xaJ (pc := 20) hx hb hK hP hv dX2_exclude_20 ?_
      refine lv_lconst (pc := 21) (v := 1) hx hb dX2_exclude_21 (by decide) ?_
      refine lv_iload_n (pc := 22) hx hb dX2_exclude_22 rfl (lv_at hl 1 rfl) ?_
      refine lv_bipush (pc := 23) (v := 63) hx hb dX2_exclude_23 (by decide) ?_
      refine lv_iand (pc := 25) hx hb dX2_exclude_25 ?_
      refine lv_lshl (pc := 26) (v := zsl 1 (x1 &&& 63)) hx hb dX2_exclude_26 rfl ?_
      refine lv_ldc2 (pc := 27) hx hb hown (hts _ zk_X2_15) dX2_exclude_27 ?_
      refine lv_lxor (pc := 30) hx hb dX2_exclude_30 ?_
      refine lv_land (pc := 31) hx hb dX2_exclude_31 ?_
      obtain ⟨σ3, hv, h⟩ := zl_some h
      refine xsJ (pc := 32) hx hb hK hP hS hv dX2_exclude_32 (fun H locs hP hS => ?_)
      exact xretv (pc := 33) hx hb hr hlocks hP hK hE hS h dX2_exclude_33
def F_X2_tally_4 (N : Nat) (x0 : Nat) (again4 : (Int32 × Int32 × zS) → Option (Int32 × zS)) : Int32 × Int32 × zS → Option (Int32 × zS)
  | (x1, x2, σ) =>
  if 16 ≤ x2 then
    (some (x1, σ))
  else
    (zl (gR 2 0 x0 σ) fun v1 =>
    zl (aJ v1 x2 σ) fun v2 =>
    zb (f_J13_bitCount_95d88 N v2 σ) fun v3 σ4 =>
    again4 (x1 + v3, x2 + 1, σ4))
def f_X2_tally (N : Nat) (x0 : Nat) (σ : zS) : Option (Int32 × zS) :=
  zlp (F_X2_tally_4 N x0) N (0, 0, σ)
set_option maxHeartbeats 4000000 in
set_option maxRecDepth 100000 in
theorem c_X2_tally (l : Launch) (D : va_G) (c : zC) (o : Nat) (g : zEp) (N : Nat) {x0 : Nat} {σ : zS} {ρ : Int32 × zS} (h : f_X2_tally N x0 σ = some ρ) : Met l yX2_tally zs_X2_tally (zr 4) (va_Pc [.ref (o + x0)] (zG D c o g σ)) (zQi D c o g ρ) 0 0 (zA o) := by
  refine zMetG (by decide) (Nat.le_of_ble_eq_true rfl) ?_
  intro p e s m below meth cd ⟨hx, hb, hr, hml, hown, hts, hlocks⟩ hP hK hE ls hl
  have hS : va_S (zA o) s.heap s.heap [] := va_S.rf
  have hl : lv_has ls 3 [(0, .ref (o + x0))] := hl
  rw [f_X2_tally.eq_1] at h
  refine lv_iconst (pc := 0) (v := 0) hx hb dX2_tally_0 (by decide) ?_
  refine lv_istore_n (pc := 1) (lv' := [(1, .int 0), (0, .ref (o + x0))]) hx hb dX2_tally_1 rfl hl (by decide) rfl (fun ls hl => ?_)
  refine lv_iconst (pc := 2) (v := 0) hx hb dX2_tally_2 (by decide) ?_
  refine lv_istore_n (pc := 3) (lv' := [(2, .int 0), (1, .int 0), (0, .ref (o + x0))]) hx hb dX2_tally_3 rfl hl (by decide) rfl (fun ls hl => ?_)
  have L4_1 : ∀ (n : Nat) (t : Int32 × Int32 × zS), zlp (F_X2_tally_4 N x0) n t = some ρ → ∀ (H : Heap) (locs : List Loc) (ls : Array Slot), zP D c o (zabs o (t.2.2)) H → va_S (zA o) s.heap H locs → lv_has ls 3 [(1, .int (t.1)), (2, .int (t.2.1)), (0, .ref (o + x0))] → W p l e (zr 4) s m (([.ref (o + x0)] : List Value).toArray) below meth cd H locs 0 0 (MQ below (zQi D c o g ρ) (([.ref (o + x0)] : List Value).toArray) s 0 0 (zA o)) (F0 m 4 ls []) := by
    refine zlp_ind (fun ag1 ih1 t h H locs ls hP hS hl => ?_)
    obtain ⟨x1_1, x2_1, σ1⟩ := t
    have hP : zP D c o (zabs o σ1) H := hP
    have hl : lv_has ls 3 [(1, .int x1_1), (2, .int x2_1), (0, .ref (o + x0))] := hl
    rw [F_X2_tally_4.eq_1] at h
    show W p l e (zr 4) s m (([.ref (o + x0)] : List Value).toArray) below meth cd H locs 0 0 (MQ below (zQi D c o g ρ) (([.ref (o + x0)] : List Value).toArray) s 0 0 (zA o)) (F0 m 4 ls [])
    refine lv_iload_n (pc := 4) hx hb dX2_tally_4 rfl (lv_at hl 1 rfl) ?_
    refine lv_bipush (pc := 5) (v := 16) hx hb dX2_tally_5 (by decide) ?_
    refine lv_icmp_ge (pc := 7) (tgt := 28) hx hb dX2_tally_7 (by decide) (fun c1 => ?_) (fun c1 => ?_)
    · rw [if_pos c1] at h
      refine lv_iload_n (pc := 28) hx hb dX2_tally_28 rfl (lv_at hl 0 rfl) ?_
      exact xreti (pc := 29) hx hb hr hlocks hP hK hE hS h dX2_tally_29
    · rw [if_neg c1] at h
      refine lv_iload_n (pc := 10) hx hb dX2_tally_10 rfl (lv_at hl 0 rfl) ?_
      refine lv_aload_n (pc := 11) hx hb dX2_tally_11 rfl (lv_at hl 2 rfl) ?_
      obtain ⟨v2, hv, h⟩ := zl_some h
      refine xgR (pc := 12) (j := 0) zc2 hx hb hts hown hK hP hv rfl zf_X2_11 dX2_tally_12 ?_
      refine lv_iload_n (pc := 15) hx hb dX2_tally_15 rfl (lv_at hl 1 rfl) ?_
      obtain ⟨v3, hv, h⟩ := zl_some h
      refine xaJ (pc := 16) hx hb hK hP hv dX2_tally_16 ?_
      obtain ⟨v4, σ5, hv, h⟩ := zb_some h
      refine xcallSi (pc := 17) (As := [.long v3]) (rest := [.int x1_1]) ⟨hx, hb, hml, hown, hts⟩ (c_J13_bitCount_95d88 l D c o g N hv) zT_X2_32 rfl zd_J13_bitCount_95d88 ⟨Nat.le_of_ble_eq_true rfl, Nat.le_of_ble_eq_true rfl⟩ hK hP hE hS hl.1 rfl (Nat.le_of_ble_eq_true rfl) ⟨Nat.zero_le _, Nat.zero_le _⟩ dX2_tally_17 (fun H locs hP hS => ?_)
      refine lv_iadd (pc := 20) hx hb dX2_tally_20 ?_
      refine lv_istore_n (pc := 21) (lv' := [(1, .int (x1_1 + v4)), (2, .int x2_1), (0, .ref (o + x0))]) hx hb dX2_tally_21 rfl hl (by decide) rfl (fun ls hl => ?_)
      refine lv_iinc (pc := 22) (v := x2_1 + 1) (lv' := [(2, .int (x2_1 + 1)), (1, .int (x1_1 + v4)), (0, .ref (o + x0))]) hx hb dX2_tally_22 hl (k := 1) rfl rfl (by decide) rfl (fun ls hl => ?_)
      refine lv_goto (pc := 25) (tgt := 4) hx hb dX2_tally_25 (by decide) ?_
      exact ih1 (x1_1 + v4, x2_1 + 1, σ5) h _ _ ls hP hS (lv_sub hl [1, 0, 2] rfl)
  exact L4_1 N (0, 0, σ) h _ _ ls hP hS (lv_sub hl [1, 0, 2] rfl)
def J_X2_tallyBelow_36 (N : Nat) (x0 : Nat) (x1 : Int32) (x2 : Int32) (σ : zS) : Option (Int32 × zS) :=
  if x1 < 0 then
    (some (x2, σ))
  else
    (if 1024 ≤ x1 then
      (some (x2, σ))
    else
      (zl (gR 2 0 x0 σ) fun v1 =>
      zl (aJ v1 ((x1 : Int32) >>> (6 &&& 31)) σ) fun v2 =>
      zb (f_J13_bitCount_95d88 N (v2 &&& ((zsl 1 (x1 &&& 63)) - 1)) σ) fun v3 σ4 =>
      some (x2 + v3, σ4)))
def F_X2_tallyBelow_4 (N : Nat) (x0 : Nat) (x1 : Int32) (again4 : (Int32 × Int32 × zS) → Option (Int32 × zS)) : Int32 × Int32 × zS → Option (Int32 × zS)
  | (x2, x3, σ) =>
  if 16 ≤ x3 then
    (J_X2_tallyBelow_36 N x0 x1 x2 σ)
  else
    (if ((x1 : Int32) >>> (6 &&& 31)) ≤ x3 then
      (J_X2_tallyBelow_36 N x0 x1 x2 σ)
    else
      (zl (gR 2 0 x0 σ) fun v5 =>
      zl (aJ v5 x3 σ) fun v6 =>
      zb (f_J13_bitCount_95d88 N v6 σ) fun v7 σ8 =>
      again4 (x2 + v7, x3 + 1, σ8)))
def f_X2_tallyBelow (N : Nat) (x0 : Nat) (x1 : Int32) (σ : zS) : Option (Int32 × zS) :=
  zlp (F_X2_tallyBelow_4 N x0 x1) N (0, 0, σ)
set_option maxHeartbeats 4000000 in
set_option maxRecDepth 100000 in
theorem c_X2_tallyBelow (l : Launch) (D : va_G) (c : zC) (o : Nat) (g : zEp) (N : Nat) {x0 : Nat} {x1 : Int32} {σ : zS} {ρ : Int32 × zS} (h : f_X2_tallyBelow N x0 x1 σ = some ρ) : Met l yX2_tallyBelow zs_X2_tallyBelow (zr 4) (va_Pc [.ref (o + x0), .int x1] (zG D c o g σ)) (zQi D c o g ρ) 0 0 (zA o) := by
  refine zMetG (by decide) (Nat.le_of_ble_eq_true rfl) ?_
  intro p e s m below meth cd ⟨hx, hb, hr, hml, hown, hts, hlocks⟩ hP hK hE ls hl
  have hS : va_S (zA o) s.heap s.heap [] := va_S.rf
  have hl : lv_has ls 4 [(0, .ref (o + x0)), (1, .int x1)] := hl
  rw [f_X2_tallyBelow.eq_1] at h
  refine lv_iconst (pc := 0) (v := 0) hx hb dX2_tallyBelow_0 (by decide) ?_
  refine lv_istore_n (pc := 1) (lv' := [(2, .int 0), (0, .ref (o + x0)), (1, .int x1)]) hx hb dX2_tallyBelow_1 rfl hl (by decide) rfl (fun ls hl => ?_)
  refine lv_iconst (pc := 2) (v := 0) hx hb dX2_tallyBelow_2 (by decide) ?_
  refine lv_istore_n (pc := 3) (lv' := [(3, .int 0), (2, .int 0), (0, .ref (o + x0)), (1, .int x1)]) hx hb dX2_tallyBelow_3 rfl hl (by decide) rfl (fun ls hl => ?_)
  have L4_1 : ∀ (n : Nat) (t : Int32 × Int32 × zS), zlp (F_X2_tallyBelow_4 N x0 x1) n t = some ρ → ∀ (H : Heap) (locs : List Loc) (ls : Array Slot), zP D c o (zabs o (t.2.2)) H → va_S (zA o) s.heap H locs → lv_has ls 4 [(2, .int (t.1)), (3, .int (t.2.1)), (0, .ref (o + x0)), (1, .int x1)] → W p l e (zr 4) s m (([.ref (o + x0), .int x1] : List Value).toArray) below meth cd H locs 0 0 (MQ below (zQi D c o g ρ) (([.ref (o + x0), .int x1] : List Value).toArray) s 0 0 (zA o)) (F0 m 4 ls []) := by
    refine zlp_ind (fun ag1 ih1 t h H locs ls hP hS hl => ?_)
    obtain ⟨x2_1, x3_1, σ1⟩ := t
    have hP : zP D c o (zabs o σ1) H := hP
    have hl : lv_has ls 4 [(2, .int x2_1), (3, .int x3_1), (0, .ref (o + x0)), (1, .int x1)] := hl
    rw [F_X2_tallyBelow_4.eq_1] at h
    show W p l e (zr 4) s m (([.ref (o + x0), .int x1] : List Value).toArray) below meth cd H locs 0 0 (MQ below (zQi D c o g ρ) (([.ref (o + x0), .int x1] : List Value).toArray) s 0 0 (zA o)) (F0 m 4 ls [])
    refine lv_iload_n (pc := 4) hx hb dX2_tallyBelow_4 rfl (lv_at hl 1 rfl) ?_
    refine lv_bipush (pc := 5) (v := 16) hx hb dX2_tallyBelow_5 (by decide) ?_
    have hj36_2 : ∀ (x2_2 : Int32) (σ2 : zS), J_X2_tallyBelow_36 N x0 x1 x2_2 σ2 = some ρ → ∀ (H : Heap) (locs : List Loc) (ls : Array Slot), zP D c o (zabs o σ2) H → va_S (zA o) s.heap H locs → lv_has ls 4 [(2, .int x2_2), (0, .ref (o + x0)), (1, .int x1)] → W p l e (zr 4) s m (([.ref (o + x0), .int x1] : List Value).toArray) below meth cd H locs 0 0 (MQ below (zQi D c o g ρ) (([.ref (o + x0), .int x1] : List Value).toArray) s 0 0 (zA o)) (F0 m 36 ls []) := by
      intro x2_2 σ2 h H locs ls hP hS hl
      rw [J_X2_tallyBelow_36.eq_1] at h
      refine lv_iload_n (pc := 36) hx hb dX2_tallyBelow_36 rfl (lv_at hl 2 rfl) ?_
      refine lv_if_lt (pc := 37) (tgt := 71) hx hb dX2_tallyBelow_37 (by decide) (fun c1 => ?_) (fun c1 => ?_)
      · rw [if_pos c1] at h
        refine lv_iload_n (pc := 71) hx hb dX2_tallyBelow_71 rfl (lv_at hl 0 rfl) ?_
        exact xreti (pc := 72) hx hb hr hlocks hP hK hE hS h dX2_tallyBelow_72
      · rw [if_neg c1] at h
        refine lv_iload_n (pc := 40) hx hb dX2_tallyBelow_40 rfl (lv_at hl 2 rfl) ?_
        refine lv_sipush (pc := 41) (v := 1024) hx hb dX2_tallyBelow_41 (by decide) ?_
        refine lv_icmp_ge (pc := 44) (tgt := 71) hx hb dX2_tallyBelow_44 (by decide) (fun c1 => ?_) (fun c1 => ?_)
        · rw [if_pos c1] at h
          refine lv_iload_n (pc := 71) hx hb dX2_tallyBelow_71 rfl (lv_at hl 0 rfl) ?_
          exact xreti (pc := 72) hx hb hr hlocks hP hK hE hS h dX2_tallyBelow_72
        · rw [if_neg c1] at h
          refine lv_iload_n (pc := 47) hx hb dX2_tallyBelow_47 rfl (lv_at hl 0 rfl) ?_
          refine lv_aload_n (pc := 48) hx hb dX2_tallyBelow_48 rfl (lv_at hl 1 rfl) ?_
          obtain ⟨v3, hv, h⟩ := zl_some h
          refine xgR (pc := 49) (j := 0) zc2 hx hb hts hown hK hP hv rfl zf_X2_11 dX2_tallyBelow_49 ?_
          refine lv_iload_n (pc := 52) hx hb dX2_tallyBelow_52 rfl (lv_at hl 2 rfl) ?_
          refine lv_bipush (pc := 53) (v := 6) hx hb dX2_tallyBelow_53 (by decide) ?_
          refine lv_ishr (pc := 55) hx hb dX2_tallyBelow_55 ?_
          obtain ⟨v4, hv, h⟩ := zl_some h
          refine xaJ (pc := 56) hx hb hK hP hv dX2_tallyBelow_56 ?_
          refine lv_lconst (pc := 57) (v := 1) hx hb dX2_tallyBelow_57 (by decide) ?_
          refine lv_iload_n (pc := 58) hx hb dX2_tallyBelow_58 rfl (lv_at hl 2 rfl) ?_
          refine lv_bipush (pc := 59) (v := 63) hx hb dX2_tallyBelow_59 (by decide) ?_
          refine lv_iand (pc := 61) hx hb dX2_tallyBelow_61 ?_
          refine lv_lshl (pc := 62) (v := zsl 1 (x1 &&& 63)) hx hb dX2_tallyBelow_62 rfl ?_
          refine lv_lconst (pc := 63) (v := 1) hx hb dX2_tallyBelow_63 (by decide) ?_
          refine lv_lsub (pc := 64) hx hb dX2_tallyBelow_64 ?_
          refine lv_land (pc := 65) hx hb dX2_tallyBelow_65 ?_
          obtain ⟨v5, σ6, hv, h⟩ := zb_some h
          refine xcallSi (pc := 66) (As := [.long (v4 &&& ((zsl 1 (x1 &&& 63)) - 1))]) (rest := [.int x2_2]) ⟨hx, hb, hml, hown, hts⟩ (c_J13_bitCount_95d88 l D c o g N hv) zT_X2_32 rfl zd_J13_bitCount_95d88 ⟨Nat.le_of_ble_eq_true rfl, Nat.le_of_ble_eq_true rfl⟩ hK hP hE hS hl.1 rfl (Nat.le_of_ble_eq_true rfl) ⟨Nat.zero_le _, Nat.zero_le _⟩ dX2_tallyBelow_66 (fun H locs hP hS => ?_)
          refine lv_iadd (pc := 69) hx hb dX2_tallyBelow_69 ?_
          refine lv_istore_n (pc := 70) (lv' := [(2, .int (x2_2 + v5)), (0, .ref (o + x0)), (1, .int x1)]) hx hb dX2_tallyBelow_70 rfl hl (by decide) rfl (fun ls hl => ?_)
          refine lv_iload_n (pc := 71) hx hb dX2_tallyBelow_71 rfl (lv_at hl 0 rfl) ?_
          exact xreti (pc := 72) hx hb hr hlocks hP hK hE hS h dX2_tallyBelow_72
    refine lv_icmp_ge (pc := 7) (tgt := 36) hx hb dX2_tallyBelow_7 (by decide) (fun c1 => ?_) (fun c1 => ?_)
    · rw [if_pos c1] at h
      exact hj36_2 (x2_1) σ1 h _ _ ls hP hS (lv_sub hl [0, 2, 3] rfl)
    · rw [if_neg c1] at h
      refine lv_iload_n (pc := 10) hx hb dX2_tallyBelow_10 rfl (lv_at hl 1 rfl) ?_
      refine lv_iload_n (pc := 11) hx hb dX2_tallyBelow_11 rfl (lv_at hl 3 rfl) ?_
      refine lv_bipush (pc := 12) (v := 6) hx hb dX2_tallyBelow_12 (by decide) ?_
      refine lv_ishr (pc := 14) hx hb dX2_tallyBelow_14 ?_
      refine lv_icmp_ge (pc := 15) (tgt := 36) hx hb dX2_tallyBelow_15 (by decide) (fun c1 => ?_) (fun c1 => ?_)
      · rw [if_pos c1] at h
        exact hj36_2 (x2_1) σ1 h _ _ ls hP hS (lv_sub hl [0, 2, 3] rfl)
      · rw [if_neg c1] at h
        refine lv_iload_n (pc := 18) hx hb dX2_tallyBelow_18 rfl (lv_at hl 0 rfl) ?_
        refine lv_aload_n (pc := 19) hx hb dX2_tallyBelow_19 rfl (lv_at hl 2 rfl) ?_
        obtain ⟨v7, hv, h⟩ := zl_some h
        refine xgR (pc := 20) (j := 0) zc2 hx hb hts hown hK hP hv rfl zf_X2_11 dX2_tallyBelow_20 ?_
        refine lv_iload_n (pc := 23) hx hb dX2_tallyBelow_23 rfl (lv_at hl 1 rfl) ?_
        obtain ⟨v8, hv, h⟩ := zl_some h
        refine xaJ (pc := 24) hx hb hK hP hv dX2_tallyBelow_24 ?_
        obtain ⟨v9, σ10, hv, h⟩ := zb_some h
        refine xcallSi (pc := 25) (As := [.long v8]) (rest := [.int x2_1]) ⟨hx, hb, hml, hown, hts⟩ (c_J13_bitCount_95d88 l D c o g N hv) zT_X2_32 rfl zd_J13_bitCount_95d88 ⟨Nat.le_of_ble_eq_true rfl, Nat.le_of_ble_eq_true rfl⟩ hK hP hE hS hl.1 rfl (Nat.le_of_ble_eq_true rfl) ⟨Nat.zero_le _, Nat.zero_le _⟩ dX2_tallyBelow_25 (fun H locs hP hS => ?_)
        refine lv_iadd (pc := 28) hx hb dX2_tallyBelow_28 ?_
        refine lv_istore_n (pc := 29) (lv' := [(2, .int (x2_1 + v9)), (3, .int x3_1), (0, .ref (o + x0)), (1, .int x1)]) hx hb dX2_tallyBelow_29 rfl hl (by decide) rfl (fun ls hl => ?_)
        refine lv_iinc (pc := 30) (v := x3_1 + 1) (lv' := [(3, .int (x3_1 + 1)), (2, .int (x2_1 + v9)), (0, .ref (o + x0)), (1, .int x1)]) hx hb dX2_tallyBelow_30 hl (k := 1) rfl rfl (by decide) rfl (fun ls hl => ?_)
        refine lv_goto (pc := 33) (tgt := 4) hx hb dX2_tallyBelow_33 (by decide) ?_
        exact ih1 (x2_1 + v9, x3_1 + 1, σ10) h _ _ ls hP hS (lv_sub hl [1, 0, 2, 3] rfl)
  exact L4_1 N (0, 0, σ) h _ _ ls hP hS (lv_sub hl [1, 0, 2, 3] rfl)
def F_X2_pickInWord_6 (N : Nat) (x3 : Int32) (again6 : (Int64 × Int32 × zS) → Option (Int32 × zS)) : Int64 × Int32 × zS → Option (Int32 × zS)
  | (x4, x6, σ) =>
  if x3 ≤ x6 then
    (zb (f_J13_numberOfTrailingZeros_95d88 N x4 σ) fun v1 σ2 =>
    some (v1, σ2))
  else
    (if 64 ≤ x6 then
      (zb (f_J13_numberOfTrailingZeros_95d88 N x4 σ) fun v3 σ4 =>
      some (v3, σ4))
    else
      (again6 (x4 &&& (x4 - 1), x6 + 1, σ)))
def f_X2_pickInWord (N : Nat) (x0 : Nat) (x1 : Int64) (x3 : Int32) (σ : zS) : Option (Int32 × zS) :=
  zlp (F_X2_pickInWord_6 N x3) N (x1, 0, σ)
set_option maxHeartbeats 4000000 in
set_option maxRecDepth 100000 in
theorem c_X2_pickInWord (l : Launch) (D : va_G) (c : zC) (o : Nat) (g : zEp) (N : Nat) {x0 : Nat} {x1 : Int64} {x3 : Int32} {σ : zS} {ρ : Int32 × zS} (h : f_X2_pickInWord N x0 x1 x3 σ = some ρ) : Met l yX2_pickInWord zs_X2_pickInWord (zr 6) (va_Pc [.ref (o + x0), .long x1, .int x3] (zG D c o g σ)) (zQi D c o g ρ) 0 0 (zA o) := by
  refine zMetG (by decide) (Nat.le_of_ble_eq_true rfl) ?_
  intro p e s m below meth cd ⟨hx, hb, hr, hml, hown, hts, hlocks⟩ hP hK hE ls hl
  have hS : va_S (zA o) s.heap s.heap [] := va_S.rf
  have hl : lv_has ls 7 [(0, .ref (o + x0)), (1, .long x1), (3, .int x3)] := hl
  rw [f_X2_pickInWord.eq_1] at h
  refine lv_lload_n (pc := 0) hx hb dX2_pickInWord_0 rfl (lv_at hl 1 rfl) ?_
  refine lv_lstore (pc := 1) (lv' := [(4, .long x1), (0, .ref (o + x0)), (1, .long x1), (3, .int x3)]) hx hb dX2_pickInWord_1 hl (by decide) rfl (fun ls hl => ?_)
  refine lv_iconst (pc := 3) (v := 0) hx hb dX2_pickInWord_3 (by decide) ?_
  refine lv_istore (pc := 4) (lv' := [(6, .int 0), (4, .long x1), (0, .ref (o + x0)), (1, .long x1), (3, .int x3)]) hx hb dX2_pickInWord_4 hl (by decide) rfl (fun ls hl => ?_)
  have L6_1 : ∀ (n : Nat) (t : Int64 × Int32 × zS), zlp (F_X2_pickInWord_6 N x3) n t = some ρ → ∀ (H : Heap) (locs : List Loc) (ls : Array Slot), zP D c o (zabs o (t.2.2)) H → va_S (zA o) s.heap H locs → lv_has ls 7 [(4, .long (t.1)), (6, .int (t.2.1)), (3, .int x3)] → W p l e (zr 6) s m (([.ref (o + x0), .long x1, .int x3] : List Value).toArray) below meth cd H locs 0 0 (MQ below (zQi D c o g ρ) (([.ref (o + x0), .long x1, .int x3] : List Value).toArray) s 0 0 (zA o)) (F0 m 6 ls []) := by
    refine zlp_ind (fun ag1 ih1 t h H locs ls hP hS hl => ?_)
    obtain ⟨x4_1, x6_1, σ1⟩ := t
    have hP : zP D c o (zabs o σ1) H := hP
    have hl : lv_has ls 7 [(4, .long x4_1), (6, .int x6_1), (3, .int x3)] := hl
    rw [F_X2_pickInWord_6.eq_1] at h
    show W p l e (zr 6) s m (([.ref (o + x0), .long x1, .int x3] : List Value).toArray) below meth cd H locs 0 0 (MQ below (zQi D c o g ρ) (([.ref (o + x0), .long x1, .int x3] : List Value).toArray) s 0 0 (zA o)) (F0 m 6 ls [])
    refine lv_iload (pc := 6) hx hb dX2_pickInWord_6 (lv_at hl 1 rfl) ?_
    refine lv_iload_n (pc := 8) hx hb dX2_pickInWord_8 rfl (lv_at hl 2 rfl) ?_
    refine lv_icmp_ge (pc := 9) (tgt := 34) hx hb dX2_pickInWord_9 (by decide) (fun c1 => ?_) (fun c1 => ?_)
    · rw [if_pos c1] at h
      refine lv_lload (pc := 34) hx hb dX2_pickInWord_34 (lv_at hl 0 rfl) ?_
      obtain ⟨v2, σ3, hv, h⟩ := zb_some h
      refine xcallSi (pc := 36) (As := [.long x4_1]) (rest := []) ⟨hx, hb, hml, hown, hts⟩ (c_J13_numberOfTrailingZeros_95d88 l D c o g N hv) zT_X2_38 rfl zd_J13_numberOfTrailingZeros_95d88 ⟨Nat.le_of_ble_eq_true rfl, Nat.le_of_ble_eq_true rfl⟩ hK hP hE hS hl.1 rfl (Nat.le_of_ble_eq_true rfl) ⟨Nat.zero_le _, Nat.zero_le _⟩ dX2_pickInWord_36 (fun H locs hP hS => ?_)
      exact xreti (pc := 39) hx hb hr hlocks hP hK hE hS h dX2_pickInWord_39
    · rw [if_neg c1] at h
      refine lv_iload (pc := 12) hx hb dX2_pickInWord_12 (lv_at hl 1 rfl) ?_
      refine lv_bipush (pc := 14) (v := 64) hx hb dX2_pickInWord_14 (by decide) ?_
      refine lv_icmp_ge (pc := 16) (tgt := 34) hx hb dX2_pickInWord_16 (by decide) (fun c1 => ?_) (fun c1 => ?_)
      · rw [if_pos c1] at h
        refine lv_lload (pc := 34) hx hb dX2_pickInWord_34 (lv_at hl 0 rfl) ?_
        obtain ⟨v4, σ5, hv, h⟩ := zb_some h
        refine xcallSi (pc := 36) (As := [.long x4_1]) (rest := []) ⟨hx, hb, hml, hown, hts⟩ (c_J13_numberOfTrailingZeros_95d88 l D c o g N hv) zT_X2_38 rfl zd_J13_numberOfTrailingZeros_95d88 ⟨Nat.le_of_ble_eq_true rfl, Nat.le_of_ble_eq_true rfl⟩ hK hP hE hS hl.1 rfl (Nat.le_of_ble_eq_true rfl) ⟨Nat.zero_le _, Nat.zero_le _⟩ dX2_pickInWord_36 (fun H locs hP hS => ?_)
        exact xreti (pc := 39) hx hb hr hlocks hP hK hE hS h dX2_pickInWord_39
      · rw [if_neg c1] at h
        refine lv_lload (pc := 19) hx hb dX2_pickInWord_19 (lv_at hl 0 rfl) ?_
        refine lv_lload (pc := 21) hx hb dX2_pickInWord_21 (lv_at hl 0 rfl) ?_
        refine lv_lconst (pc := 23) (v := 1) hx hb dX2_pickInWord_23 (by decide) ?_
        refine lv_lsub (pc := 24) hx hb dX2_pickInWord_24 ?_
        refine lv_land (pc := 25) hx hb dX2_pickInWord_25 ?_
        refine lv_lstore (pc := 26) (lv' := [(4, .long (x4_1 &&& (x4_1 - 1))), (6, .int x6_1), (3, .int x3)]) hx hb dX2_pickInWord_26 hl (by decide) rfl (fun ls hl => ?_)
        refine lv_iinc (pc := 28) (v := x6_1 + 1) (lv' := [(6, .int (x6_1 + 1)), (4, .long (x4_1 &&& (x4_1 - 1))), (3, .int x3)]) hx hb dX2_pickInWord_28 hl (k := 1) rfl rfl (by decide) rfl (fun ls hl => ?_)
        refine lv_goto (pc := 31) (tgt := 6) hx hb dX2_pickInWord_31 (by decide) ?_
        exact ih1 (x4_1 &&& (x4_1 - 1), x6_1 + 1, σ1) h _ _ ls hP hS (lv_sub hl [1, 0, 2] rfl)
  exact L6_1 N (x1, 0, σ) h _ _ ls hP hS (lv_sub hl [1, 0, 4] rfl)
def F_X2_pick_10 (N : Nat) (x0 : Nat) (again10 : (Int32 × Int32 × zS) → Option (Int32 × zS)) : Int32 × Int32 × zS → Option (Int32 × zS)
  | (x2, x3, σ) =>
  if 16 ≤ x3 then
    (some ((-1), σ))
  else
    (zl (gR 2 0 x0 σ) fun v1 =>
    zl (aJ v1 x3 σ) fun v2 =>
    zb (f_J13_bitCount_95d88 N v2 σ) fun v3 σ4 =>
    if v3 ≤ x2 then
      (again10 (x2 - v3, x3 + 1, σ4))
    else
      (zl (gR 2 0 x0 σ4) fun v5 =>
      zl (aJ v5 x3 σ4) fun v6 =>
      zl (gC 2 x0) fun _ => zb (f_X2_pickInWord N x0 v6 x2 σ4) fun v7 σ8 =>
      some ((x3 * 64) + v7, σ8)))
def f_X2_pick (N : Nat) (x0 : Nat) (x1 : Int32) (σ : zS) : Option (Int32 × zS) :=
  if 0 ≤ x1 then
    (zlp (F_X2_pick_10 N x0) N (x1, 0, σ))
  else
    (some ((-1), σ))
set_option maxHeartbeats 4000000 in
set_option maxRecDepth 100000 in
theorem c_X2_pick (l : Launch) (D : va_G) (c : zC) (o : Nat) (g : zEp) (N : Nat) {x0 : Nat} {x1 : Int32} {σ : zS} {ρ : Int32 × zS} (h : f_X2_pick N x0 x1 σ = some ρ) : Met l yX2_pick zs_X2_pick (zr 8) (va_Pc [.ref (o + x0), .int x1] (zG D c o g σ)) (zQi D c o g ρ) 0 0 (zA o) := by
  refine zMetG (by decide) (Nat.le_of_ble_eq_true rfl) ?_
  intro p e s m below meth cd ⟨hx, hb, hr, hml, hown, hts, hlocks⟩ hP hK hE ls hl
  have hS : va_S (zA o) s.heap s.heap [] := va_S.rf
  have hl : lv_has ls 5 [(0, .ref (o + x0)), (1, .int x1)] := hl
  rw [f_X2_pick.eq_1] at h
  refine lv_iload_n (pc := 0) hx hb dX2_pick_0 rfl (lv_at hl 1 rfl) ?_
  refine lv_if_ge (pc := 1) (tgt := 6) hx hb dX2_pick_1 (by decide) (fun c1 => ?_) (fun c1 => ?_)
  · rw [if_pos c1] at h
    refine lv_iload_n (pc := 6) hx hb dX2_pick_6 rfl (lv_at hl 1 rfl) ?_
    refine lv_istore_n (pc := 7) (lv' := [(2, .int x1), (0, .ref (o + x0)), (1, .int x1)]) hx hb dX2_pick_7 rfl hl (by decide) rfl (fun ls hl => ?_)
    refine lv_iconst (pc := 8) (v := 0) hx hb dX2_pick_8 (by decide) ?_
    refine lv_istore_n (pc := 9) (lv' := [(3, .int 0), (2, .int x1), (0, .ref (o + x0)), (1, .int x1)]) hx hb dX2_pick_9 rfl hl (by decide) rfl (fun ls hl => ?_)
    have L10_1 : ∀ (n : Nat) (t : Int32 × Int32 × zS), zlp (F_X2_pick_10 N x0) n t = some ρ → ∀ (H : Heap) (locs : List Loc) (ls : Array Slot), zP D c o (zabs o (t.2.2)) H → va_S (zA o) s.heap H locs → lv_has ls 5 [(2, .int (t.1)), (3, .int (t.2.1)), (0, .ref (o + x0))] → W p l e (zr 8) s m (([.ref (o + x0), .int x1] : List Value).toArray) below meth cd H locs 0 0 (MQ below (zQi D c o g ρ) (([.ref (o + x0), .int x1] : List Value).toArray) s 0 0 (zA o)) (F0 m 10 ls []) := by
      refine zlp_ind (fun ag1 ih1 t h H locs ls hP hS hl => ?_)
      obtain ⟨x2_1, x3_1, σ1⟩ := t
      have hP : zP D c o (zabs o σ1) H := hP
      have hl : lv_has ls 5 [(2, .int x2_1), (3, .int x3_1), (0, .ref (o + x0))] := hl
      rw [F_X2_pick_10.eq_1] at h
      show W p l e (zr 8) s m (([.ref (o + x0), .int x1] : List Value).toArray) below meth cd H locs 0 0 (MQ below (zQi D c o g ρ) (([.ref (o + x0), .int x1] : List Value).toArray) s 0 0 (zA o)) (F0 m 10 ls [])
      refine lv_iload_n (pc := 10) hx hb dX2_pick_10 rfl (lv_at hl 1 rfl) ?_
      refine lv_bipush (pc := 11) (v := 16) hx hb dX2_pick_11 (by decide) ?_
      refine lv_icmp_ge (pc := 13) (tgt := 61) hx hb dX2_pick_13 (by decide) (fun c1 => ?_) (fun c1 => ?_)
      · rw [if_pos c1] at h
        refine lv_iconst (pc := 61) (v := (-1)) hx hb dX2_pick_61 (by decide) ?_
        exact xreti (pc := 62) hx hb hr hlocks hP hK hE hS h dX2_pick_62
      · rw [if_neg c1] at h
        refine lv_aload_n (pc := 16) hx hb dX2_pick_16 rfl (lv_at hl 2 rfl) ?_
        obtain ⟨v2, hv, h⟩ := zl_some h
        refine xgR (pc := 17) (j := 0) zc2 hx hb hts hown hK hP hv rfl zf_X2_11 dX2_pick_17 ?_
        refine lv_iload_n (pc := 20) hx hb dX2_pick_20 rfl (lv_at hl 1 rfl) ?_
        obtain ⟨v3, hv, h⟩ := zl_some h
        refine xaJ (pc := 21) hx hb hK hP hv dX2_pick_21 ?_
        obtain ⟨v4, σ5, hv, h⟩ := zb_some h
        refine xcallSi (pc := 22) (As := [.long v3]) (rest := []) ⟨hx, hb, hml, hown, hts⟩ (c_J13_bitCount_95d88 l D c o g N hv) zT_X2_32 rfl zd_J13_bitCount_95d88 ⟨Nat.le_of_ble_eq_true rfl, Nat.le_of_ble_eq_true rfl⟩ hK hP hE hS hl.1 rfl (Nat.le_of_ble_eq_true rfl) ⟨Nat.zero_le _, Nat.zero_le _⟩ dX2_pick_22 (fun H locs hP hS => ?_)
        refine lv_istore (pc := 25) (lv' := [(4, .int v4), (2, .int x2_1), (3, .int x3_1), (0, .ref (o + x0))]) hx hb dX2_pick_25 hl (by decide) rfl (fun ls hl => ?_)
        refine lv_iload_n (pc := 27) hx hb dX2_pick_27 rfl (lv_at hl 1 rfl) ?_
        refine lv_iload (pc := 28) hx hb dX2_pick_28 (lv_at hl 0 rfl) ?_
        refine lv_icmp_ge (pc := 30) (tgt := 50) hx hb dX2_pick_30 (by decide) (fun c1 => ?_) (fun c1 => ?_)
        · rw [if_pos c1] at h
          refine lv_iload_n (pc := 50) hx hb dX2_pick_50 rfl (lv_at hl 1 rfl) ?_
          refine lv_iload (pc := 51) hx hb dX2_pick_51 (lv_at hl 0 rfl) ?_
          refine lv_isub (pc := 53) hx hb dX2_pick_53 ?_
          refine lv_istore_n (pc := 54) (lv' := [(2, .int (x2_1 - v4)), (4, .int v4), (3, .int x3_1), (0, .ref (o + x0))]) hx hb dX2_pick_54 rfl hl (by decide) rfl (fun ls hl => ?_)
          refine lv_iinc (pc := 55) (v := x3_1 + 1) (lv' := [(3, .int (x3_1 + 1)), (2, .int (x2_1 - v4)), (4, .int v4), (0, .ref (o + x0))]) hx hb dX2_pick_55 hl (k := 2) rfl rfl (by decide) rfl (fun ls hl => ?_)
          refine lv_goto (pc := 58) (tgt := 10) hx hb dX2_pick_58 (by decide) ?_
          exact ih1 (x2_1 - v4, x3_1 + 1, σ5) h _ _ ls hP hS (lv_sub hl [1, 0, 3] rfl)
        · rw [if_neg c1] at h
          refine lv_iload_n (pc := 33) hx hb dX2_pick_33 rfl (lv_at hl 2 rfl) ?_
          refine lv_bipush (pc := 34) (v := 64) hx hb dX2_pick_34 (by decide) ?_
          refine lv_imul (pc := 36) hx hb dX2_pick_36 ?_
          refine lv_aload_n (pc := 37) hx hb dX2_pick_37 rfl (lv_at hl 3 rfl) ?_
          refine lv_aload_n (pc := 38) hx hb dX2_pick_38 rfl (lv_at hl 3 rfl) ?_
          obtain ⟨v6, hv, h⟩ := zl_some h
          refine xgR (pc := 39) (j := 0) zc2 hx hb hts hown hK hP hv rfl zf_X2_11 dX2_pick_39 ?_
          refine lv_iload_n (pc := 42) hx hb dX2_pick_42 rfl (lv_at hl 2 rfl) ?_
          obtain ⟨v7, hv, h⟩ := zl_some h
          refine xaJ (pc := 43) hx hb hK hP hv dX2_pick_43 ?_
          refine lv_iload_n (pc := 44) hx hb dX2_pick_44 rfl (lv_at hl 1 rfl) ?_
          obtain ⟨_, hg, h⟩ := zl_some h
          obtain ⟨v8, σ9, hv, h⟩ := zb_some h
          refine xcallVi (pc := 45) (As := [.long v7, .int x2_1]) (rest := [.int (x3_1 * 64)]) ⟨hx, hb, hml, hown, hts⟩ (c_X2_pickInWord l D c o g N hv) zc2 zV_X2_41 rfl zd_X2_pickInWord ⟨Nat.le_of_ble_eq_true rfl, Nat.le_of_ble_eq_true rfl⟩ hK hP hE hS hg hl.1 rfl (Nat.le_of_ble_eq_true rfl) ⟨Nat.zero_le _, Nat.zero_le _⟩ dX2_pick_45 (fun H locs hP hS => ?_)
          refine lv_iadd (pc := 48) hx hb dX2_pick_48 ?_
          exact xreti (pc := 49) hx hb hr hlocks hP hK hE hS h dX2_pick_49
    exact L10_1 N (x1, 0, σ) h _ _ ls hP hS (lv_sub hl [1, 0, 2] rfl)
  · rw [if_neg c1] at h
    refine lv_iconst (pc := 4) (v := (-1)) hx hb dX2_pick_4 (by decide) ?_
    exact xreti (pc := 5) hx hb hr hlocks hP hK hE hS h dX2_pick_5
def F_X3_isGathered_3 (N : Nat) (x0 : Nat) (x1 : Int64) (x3 : Int32) (again3 : (Int32 × zS) → Option (Int32 × zS)) : Int32 × zS → Option (Int32 × zS)
  | (x4, σ) =>
  if x3 ≤ x4 then
    (rZ 0 σ)
  else
    (if 64 ≤ x4 then
      (rZ 0 σ)
    else
      (zl (gR 3 0 x0 σ) fun v1 =>
      zl (aJ v1 x4 σ) fun v2 =>
      if (lg_cmp v2 x1) = 0 then
        (rZ 1 σ)
      else
        (again3 (x4 + 1, σ))))
def f_X3_isGathered (N : Nat) (x0 : Nat) (x1 : Int64) (x3 : Int32) (σ : zS) : Option (Int32 × zS) :=
  zlp (F_X3_isGathered_3 N x0 x1 x3) N (0, σ)
set_option maxHeartbeats 4000000 in
set_option maxRecDepth 100000 in
theorem c_X3_isGathered (l : Launch) (D : va_G) (c : zC) (o : Nat) (g : zEp) (N : Nat) {x0 : Nat} {x1 : Int64} {x3 : Int32} {σ : zS} {ρ : Int32 × zS} (h : f_X3_isGathered N x0 x1 x3 σ = some ρ) : Met l yX3_isGathered zs_X3_isGathered (zr 2) (va_Pc [.ref (o + x0), .long x1, .int x3] (zG D c o g σ)) (zQi D c o g ρ) 0 0 (zA o) := by
  refine zMetG (by decide) (Nat.le_of_ble_eq_true rfl) ?_
  intro p e s m below meth cd ⟨hx, hb, hr, hml, hown, hts, hlocks⟩ hP hK hE ls hl
  have hS : va_S (zA o) s.heap s.heap [] := va_S.rf
  have hl : lv_has ls 5 [(0, .ref (o + x0)), (1, .long x1), (3, .int x3)] := hl
  rw [f_X3_isGathered.eq_1] at h
  refine lv_iconst (pc := 0) (v := 0) hx hb dX3_isGathered_0 (by decide) ?_
  refine lv_istore (pc := 1) (lv' := [(4, .int 0), (0, .ref (o + x0)), (1, .long x1), (3, .int x3)]) hx hb dX3_isGathered_1 hl (by decide) rfl (fun ls hl => ?_)
  have L3_1 : ∀ (n : Nat) (t : Int32 × zS), zlp (F_X3_isGathered_3 N x0 x1 x3) n t = some ρ → ∀ (H : Heap) (locs : List Loc) (ls : Array Slot), zP D c o (zabs o (t.2)) H → va_S (zA o) s.heap H locs → lv_has ls 5 [(4, .int (t.1)), (0, .ref (o + x0)), (1, .long x1), (3, .int x3)] → W p l e (zr 2) s m (([.ref (o + x0), .long x1, .int x3] : List Value).toArray) below meth cd H locs 0 0 (MQ below (zQi D c o g ρ) (([.ref (o + x0), .long x1, .int x3] : List Value).toArray) s 0 0 (zA o)) (F0 m 3 ls []) := by
    refine zlp_ind (fun ag1 ih1 t h H locs ls hP hS hl => ?_)
    obtain ⟨x4_1, σ1⟩ := t
    have hP : zP D c o (zabs o σ1) H := hP
    have hl : lv_has ls 5 [(4, .int x4_1), (0, .ref (o + x0)), (1, .long x1), (3, .int x3)] := hl
    rw [F_X3_isGathered_3.eq_1] at h
    show W p l e (zr 2) s m (([.ref (o + x0), .long x1, .int x3] : List Value).toArray) below meth cd H locs 0 0 (MQ below (zQi D c o g ρ) (([.ref (o + x0), .long x1, .int x3] : List Value).toArray) s 0 0 (zA o)) (F0 m 3 ls [])
    refine lv_iload (pc := 3) hx hb dX3_isGathered_3 (lv_at hl 0 rfl) ?_
    refine lv_iload_n (pc := 5) hx hb dX3_isGathered_5 rfl (lv_at hl 3 rfl) ?_
    refine lv_icmp_ge (pc := 6) (tgt := 36) hx hb dX3_isGathered_6 (by decide) (fun c1 => ?_) (fun c1 => ?_)
    · rw [if_pos c1] at h
      refine lv_iconst (pc := 36) (v := 0) hx hb dX3_isGathered_36 (by decide) ?_
      exact xretz (pc := 37) hx hb hr hlocks hP hK hE hS h dX3_isGathered_37
    · rw [if_neg c1] at h
      refine lv_iload (pc := 9) hx hb dX3_isGathered_9 (lv_at hl 0 rfl) ?_
      refine lv_bipush (pc := 11) (v := 64) hx hb dX3_isGathered_11 (by decide) ?_
      refine lv_icmp_ge (pc := 13) (tgt := 36) hx hb dX3_isGathered_13 (by decide) (fun c1 => ?_) (fun c1 => ?_)
      · rw [if_pos c1] at h
        refine lv_iconst (pc := 36) (v := 0) hx hb dX3_isGathered_36 (by decide) ?_
        exact xretz (pc := 37) hx hb hr hlocks hP hK hE hS h dX3_isGathered_37
      · rw [if_neg c1] at h
        refine lv_aload_n (pc := 16) hx hb dX3_isGathered_16 rfl (lv_at hl 1 rfl) ?_
        obtain ⟨v2, hv, h⟩ := zl_some h
        refine xgR (pc := 17) (j := 0) zc3 hx hb hts hown hK hP hv rfl zf_X3_11 dX3_isGathered_17 ?_
        refine lv_iload (pc := 20) hx hb dX3_isGathered_20 (lv_at hl 0 rfl) ?_
        obtain ⟨v3, hv, h⟩ := zl_some h
        refine xaJ (pc := 22) hx hb hK hP hv dX3_isGathered_22 ?_
        refine lv_lload_n (pc := 23) hx hb dX3_isGathered_23 rfl (lv_at hl 2 rfl) ?_
        refine W.lcmp (pc := 24) hx hb dX3_isGathered_24 ?_
        refine lv_if_ne (pc := 25) (tgt := 30) hx hb dX3_isGathered_25 (by decide) (fun c1 => ?_) (fun c1 => ?_)
        · rw [if_neg c1] at h
          refine lv_iinc (pc := 30) (v := x4_1 + 1) (lv' := [(4, .int (x4_1 + 1)), (0, .ref (o + x0)), (1, .long x1), (3, .int x3)]) hx hb dX3_isGathered_30 hl (k := 0) rfl rfl (by decide) rfl (fun ls hl => ?_)
          refine lv_goto (pc := 33) (tgt := 3) hx hb dX3_isGathered_33 (by decide) ?_
          exact ih1 (x4_1 + 1, σ1) h _ _ ls hP hS (lv_sub hl [0, 1, 2, 3] rfl)
        · rw [if_pos c1] at h
          refine lv_iconst (pc := 28) (v := 1) hx hb dX3_isGathered_28 (by decide) ?_
          exact xretz (pc := 29) hx hb hr hlocks hP hK hE hS h dX3_isGathered_29
  exact L3_1 N (0, σ) h _ _ ls hP hS (lv_sub hl [0, 1, 2, 3] rfl)
def J_X3_gatherParts_100 (N : Nat) (again54 : (Int32 × Int32 × Int32 × zS) → Option (Int32 × zS)) (x0 : Nat) (x1 : Int64) (x3 : Int32) (x5 : Int64) (x8 : Int32) (x9 : Int32) (x7 : Int32) (σ : zS) : Option (Int32 × zS) :=
  if ((x8 - x3) &&& x3) = 0 then
    (some (x7, σ))
  else
    (again54 (x7, (x8 - x3) &&& x3, x9 + 1, σ))
def F_X3_gatherParts_54 (N : Nat) (x0 : Nat) (x1 : Int64) (x3 : Int32) (x5 : Int64) (again54 : (Int32 × Int32 × Int32 × zS) → Option (Int32 × zS)) : Int32 × Int32 × Int32 × zS → Option (Int32 × zS)
  | (x7, x8, x9, σ) =>
  if 64 ≤ x9 then
    (some (x7, σ))
  else
    (if 64 ≤ x7 then
      (J_X3_gatherParts_100 N again54 x0 x1 x3 x5 x8 x9 x7 σ)
    else
      (zl (gC 3 x0) fun _ => zb (f_X3_isGathered N x0 ((zul x1 x8) &&& x5) x7 σ) fun v1 σ2 =>
      if v1 = 0 then
        (zl (gR 3 0 x0 σ2) fun v3 =>
        zl (sJ v3 x7 ((zul x1 x8) &&& x5) σ2) fun σ4 =>
        J_X3_gatherParts_100 N again54 x0 x1 x3 x5 x8 x9 (x7 + 1) σ4)
      else
        (J_X3_gatherParts_100 N again54 x0 x1 x3 x5 x8 x9 x7 σ2)))
def F_X3_gatherParts_6 (N : Nat) (x0 : Nat) (x1 : Int64) (x3 : Int32) (x4 : Int32) (again6 : (Int64 × Int32 × zS) → Option (Int32 × zS)) : Int64 × Int32 × zS → Option (Int32 × zS)
  | (x5, x7, σ) =>
  if 6 ≤ x7 then
    (zlp (F_X3_gatherParts_54 N x0 x1 x3 x5) N (0, 0, 0, σ))
  else
    (if (((x4 &&& (x3 ^^^ (-1)) : Int32) >>> (x7 &&& 31)) &&& 1) = 0 then
      (again6 (x5, x7 + 1, σ))
    else
      (again6 (x5 ||| (zsl x5 ((1 : Int32) <<< (x7 &&& 31))), x7 + 1, σ)))
def f_X3_gatherParts (N : Nat) (x0 : Nat) (x1 : Int64) (x3 : Int32) (x4 : Int32) (σ : zS) : Option (Int32 × zS) :=
  zlp (F_X3_gatherParts_6 N x0 x1 x3 x4) N (1, 0, σ)
set_option maxHeartbeats 4000000 in
set_option maxRecDepth 100000 in
theorem c_X3_gatherParts (l : Launch) (D : va_G) (c : zC) (o : Nat) (g : zEp) (N : Nat) {x0 : Nat} {x1 : Int64} {x3 : Int32} {x4 : Int32} {σ : zS} {ρ : Int32 × zS} (h : f_X3_gatherParts N x0 x1 x3 x4 σ = some ρ) : Met l yX3_gatherParts zs_X3_gatherParts (zr 4) (va_Pc [.ref (o + x0), .long x1, .int x3, .int x4] (zG D c o g σ)) (zQi D c o g ρ) 0 0 (zA o) := by
  refine zMetG (by decide) (Nat.le_of_ble_eq_true rfl) ?_
  intro p e s m below meth cd ⟨hx, hb, hr, hml, hown, hts, hlocks⟩ hP hK hE ls hl
  have hS : va_S (zA o) s.heap s.heap [] := va_S.rf
  have hl : lv_has ls 12 [(0, .ref (o + x0)), (1, .long x1), (3, .int x3), (4, .int x4)] := hl
  rw [f_X3_gatherParts.eq_1] at h
  refine lv_lconst (pc := 0) (v := 1) hx hb dX3_gatherParts_0 (by decide) ?_
  refine lv_lstore (pc := 1) (lv' := [(5, .long 1), (0, .ref (o + x0)), (1, .long x1), (3, .int x3), (4, .int x4)]) hx hb dX3_gatherParts_1 hl (by decide) rfl (fun ls hl => ?_)
  refine lv_iconst (pc := 3) (v := 0) hx hb dX3_gatherParts_3 (by decide) ?_
  refine lv_istore (pc := 4) (lv' := [(7, .int 0), (5, .long 1), (0, .ref (o + x0)), (1, .long x1), (3, .int x3), (4, .int x4)]) hx hb dX3_gatherParts_4 hl (by decide) rfl (fun ls hl => ?_)
  have L6_1 : ∀ (n : Nat) (t : Int64 × Int32 × zS), zlp (F_X3_gatherParts_6 N x0 x1 x3 x4) n t = some ρ → ∀ (H : Heap) (locs : List Loc) (ls : Array Slot), zP D c o (zabs o (t.2.2)) H → va_S (zA o) s.heap H locs → lv_has ls 12 [(5, .long (t.1)), (7, .int (t.2.1)), (0, .ref (o + x0)), (1, .long x1), (3, .int x3), (4, .int x4)] → W p l e (zr 4) s m (([.ref (o + x0), .long x1, .int x3, .int x4] : List Value).toArray) below meth cd H locs 0 0 (MQ below (zQi D c o g ρ) (([.ref (o + x0), .long x1, .int x3, .int x4] : List Value).toArray) s 0 0 (zA o)) (F0 m 6 ls []) := by
    refine zlp_ind (fun ag1 ih1 t h H locs ls hP hS hl => ?_)
    obtain ⟨x5_1, x7_1, σ1⟩ := t
    have hP : zP D c o (zabs o σ1) H := hP
    have hl : lv_has ls 12 [(5, .long x5_1), (7, .int x7_1), (0, .ref (o + x0)), (1, .long x1), (3, .int x3), (4, .int x4)] := hl
    rw [F_X3_gatherParts_6.eq_1] at h
    show W p l e (zr 4) s m (([.ref (o + x0), .long x1, .int x3, .int x4] : List Value).toArray) below meth cd H locs 0 0 (MQ below (zQi D c o g ρ) (([.ref (o + x0), .long x1, .int x3, .int x4] : List Value).toArray) s 0 0 (zA o)) (F0 m 6 ls [])
    refine lv_iload (pc := 6) hx hb dX3_gatherParts_6 (lv_at hl 1 rfl) ?_
    refine lv_bipush (pc := 8) (v := 6) hx hb dX3_gatherParts_8 (by decide) ?_
    refine lv_icmp_ge (pc := 10) (tgt := 45) hx hb dX3_gatherParts_10 (by decide) (fun c1 => ?_) (fun c1 => ?_)
    · rw [if_pos c1] at h
      refine lv_iconst (pc := 45) (v := 0) hx hb dX3_gatherParts_45 (by decide) ?_
      refine lv_istore (pc := 46) (lv' := [(7, .int 0), (5, .long x5_1), (0, .ref (o + x0)), (1, .long x1), (3, .int x3), (4, .int x4)]) hx hb dX3_gatherParts_46 hl (by decide) rfl (fun ls hl => ?_)
      refine lv_iconst (pc := 48) (v := 0) hx hb dX3_gatherParts_48 (by decide) ?_
      refine lv_istore (pc := 49) (lv' := [(8, .int 0), (7, .int 0), (5, .long x5_1), (0, .ref (o + x0)), (1, .long x1), (3, .int x3), (4, .int x4)]) hx hb dX3_gatherParts_49 hl (by decide) rfl (fun ls hl => ?_)
      refine lv_iconst (pc := 51) (v := 0) hx hb dX3_gatherParts_51 (by decide) ?_
      refine lv_istore (pc := 52) (lv' := [(9, .int 0), (8, .int 0), (7, .int 0), (5, .long x5_1), (0, .ref (o + x0)), (1, .long x1), (3, .int x3), (4, .int x4)]) hx hb dX3_gatherParts_52 hl (by decide) rfl (fun ls hl => ?_)
      have L54_2 : ∀ (n : Nat) (t : Int32 × Int32 × Int32 × zS), zlp (F_X3_gatherParts_54 N x0 x1 x3 x5_1) n t = some ρ → ∀ (H : Heap) (locs : List Loc) (ls : Array Slot), zP D c o (zabs o (t.2.2.2)) H → va_S (zA o) s.heap H locs → lv_has ls 12 [(7, .int (t.1)), (8, .int (t.2.1)), (9, .int (t.2.2.1)), (0, .ref (o + x0)), (1, .long x1), (3, .int x3), (5, .long x5_1)] → W p l e (zr 4) s m (([.ref (o + x0), .long x1, .int x3, .int x4] : List Value).toArray) below meth cd H locs 0 0 (MQ below (zQi D c o g ρ) (([.ref (o + x0), .long x1, .int x3, .int x4] : List Value).toArray) s 0 0 (zA o)) (F0 m 54 ls []) := by
        refine zlp_ind (fun ag2 ih2 t h H locs ls hP hS hl => ?_)
        obtain ⟨x7_2, x8_2, x9_2, σ2⟩ := t
        have hP : zP D c o (zabs o σ2) H := hP
        have hl : lv_has ls 12 [(7, .int x7_2), (8, .int x8_2), (9, .int x9_2), (0, .ref (o + x0)), (1, .long x1), (3, .int x3), (5, .long x5_1)] := hl
        rw [F_X3_gatherParts_54.eq_1] at h
        show W p l e (zr 4) s m (([.ref (o + x0), .long x1, .int x3, .int x4] : List Value).toArray) below meth cd H locs 0 0 (MQ below (zQi D c o g ρ) (([.ref (o + x0), .long x1, .int x3, .int x4] : List Value).toArray) s 0 0 (zA o)) (F0 m 54 ls [])
        refine lv_iload (pc := 54) hx hb dX3_gatherParts_54 (lv_at hl 2 rfl) ?_
        refine lv_bipush (pc := 56) (v := 64) hx hb dX3_gatherParts_56 (by decide) ?_
        refine lv_icmp_ge (pc := 58) (tgt := 122) hx hb dX3_gatherParts_58 (by decide) (fun c1 => ?_) (fun c1 => ?_)
        · rw [if_pos c1] at h
          refine lv_iload (pc := 122) hx hb dX3_gatherParts_122 (lv_at hl 0 rfl) ?_
          exact xreti (pc := 124) hx hb hr hlocks hP hK hE hS h dX3_gatherParts_124
        · rw [if_neg c1] at h
          refine lv_lload_n (pc := 61) hx hb dX3_gatherParts_61 rfl (lv_at hl 4 rfl) ?_
          refine lv_iload (pc := 62) hx hb dX3_gatherParts_62 (lv_at hl 1 rfl) ?_
          refine lv_lushr (pc := 64) (v := zul x1 x8_2) hx hb dX3_gatherParts_64 rfl ?_
          refine lv_lload (pc := 65) hx hb dX3_gatherParts_65 (lv_at hl 6 rfl) ?_
          refine lv_land (pc := 67) hx hb dX3_gatherParts_67 ?_
          refine lv_lstore (pc := 68) (lv' := [(10, .long ((zul x1 x8_2) &&& x5_1)), (7, .int x7_2), (8, .int x8_2), (9, .int x9_2), (0, .ref (o + x0)), (1, .long x1), (3, .int x3), (5, .long x5_1)]) hx hb dX3_gatherParts_68 hl (by decide) rfl (fun ls hl => ?_)
          refine lv_iload (pc := 70) hx hb dX3_gatherParts_70 (lv_at hl 1 rfl) ?_
          refine lv_bipush (pc := 72) (v := 64) hx hb dX3_gatherParts_72 (by decide) ?_
          have hj100_3 : ∀ (x7_3 : Int32) (σ3 : zS), J_X3_gatherParts_100 N ag2 x0 x1 x3 x5_1 x8_2 x9_2 x7_3 σ3 = some ρ → ∀ (H : Heap) (locs : List Loc) (ls : Array Slot), zP D c o (zabs o σ3) H → va_S (zA o) s.heap H locs → lv_has ls 12 [(7, .int x7_3), (0, .ref (o + x0)), (1, .long x1), (3, .int x3), (5, .long x5_1), (8, .int x8_2), (9, .int x9_2)] → W p l e (zr 4) s m (([.ref (o + x0), .long x1, .int x3, .int x4] : List Value).toArray) below meth cd H locs 0 0 (MQ below (zQi D c o g ρ) (([.ref (o + x0), .long x1, .int x3, .int x4] : List Value).toArray) s 0 0 (zA o)) (F0 m 100 ls []) := by
            intro x7_3 σ3 h H locs ls hP hS hl
            rw [J_X3_gatherParts_100.eq_1] at h
            refine lv_iload (pc := 100) hx hb dX3_gatherParts_100 (lv_at hl 5 rfl) ?_
            refine lv_iload_n (pc := 102) hx hb dX3_gatherParts_102 rfl (lv_at hl 3 rfl) ?_
            refine lv_isub (pc := 103) hx hb dX3_gatherParts_103 ?_
            refine lv_iload_n (pc := 104) hx hb dX3_gatherParts_104 rfl (lv_at hl 3 rfl) ?_
            refine lv_iand (pc := 105) hx hb dX3_gatherParts_105 ?_
            refine lv_istore (pc := 106) (lv' := [(8, .int ((x8_2 - x3) &&& x3)), (7, .int x7_3), (0, .ref (o + x0)), (1, .long x1), (3, .int x3), (5, .long x5_1), (9, .int x9_2)]) hx hb dX3_gatherParts_106 hl (by decide) rfl (fun ls hl => ?_)
            refine lv_iload (pc := 108) hx hb dX3_gatherParts_108 (lv_at hl 0 rfl) ?_
            refine lv_if_ne (pc := 110) (tgt := 116) hx hb dX3_gatherParts_110 (by decide) (fun c1 => ?_) (fun c1 => ?_)
            · rw [if_neg c1] at h
              refine lv_iinc (pc := 116) (v := x9_2 + 1) (lv' := [(9, .int (x9_2 + 1)), (8, .int ((x8_2 - x3) &&& x3)), (7, .int x7_3), (0, .ref (o + x0)), (1, .long x1), (3, .int x3), (5, .long x5_1)]) hx hb dX3_gatherParts_116 hl (k := 6) rfl rfl (by decide) rfl (fun ls hl => ?_)
              refine lv_goto (pc := 119) (tgt := 54) hx hb dX3_gatherParts_119 (by decide) ?_
              exact ih2 (x7_3, (x8_2 - x3) &&& x3, x9_2 + 1, σ3) h _ _ ls hP hS (lv_sub hl [2, 1, 0, 3, 4, 5, 6] rfl)
            · rw [if_pos c1] at h
              refine lv_goto (pc := 113) (tgt := 122) hx hb dX3_gatherParts_113 (by decide) ?_
              refine lv_iload (pc := 122) hx hb dX3_gatherParts_122 (lv_at hl 1 rfl) ?_
              exact xreti (pc := 124) hx hb hr hlocks hP hK hE hS h dX3_gatherParts_124
          refine lv_icmp_ge (pc := 74) (tgt := 100) hx hb dX3_gatherParts_74 (by decide) (fun c1 => ?_) (fun c1 => ?_)
          · rw [if_pos c1] at h
            exact hj100_3 (x7_2) σ2 h _ _ ls hP hS (lv_sub hl [1, 4, 5, 6, 7, 2, 3] rfl)
          · rw [if_neg c1] at h
            refine lv_aload_n (pc := 77) hx hb dX3_gatherParts_77 rfl (lv_at hl 4 rfl) ?_
            refine lv_lload (pc := 78) hx hb dX3_gatherParts_78 (lv_at hl 0 rfl) ?_
            refine lv_iload (pc := 80) hx hb dX3_gatherParts_80 (lv_at hl 1 rfl) ?_
            obtain ⟨_, hg, h⟩ := zl_some h
            obtain ⟨v4, σ5, hv, h⟩ := zb_some h
            refine xcallVi (pc := 82) (As := [.long ((zul x1 x8_2) &&& x5_1), .int x7_2]) (rest := []) ⟨hx, hb, hml, hown, hts⟩ (c_X3_isGathered l D c o g N hv) zc3 zV_X3_44 rfl zd_X3_isGathered ⟨Nat.le_of_ble_eq_true rfl, Nat.le_of_ble_eq_true rfl⟩ hK hP hE hS hg hl.1 rfl (Nat.le_of_ble_eq_true rfl) ⟨Nat.zero_le _, Nat.zero_le _⟩ dX3_gatherParts_82 (fun H locs hP hS => ?_)
            refine lv_if_ne (pc := 85) (tgt := 100) hx hb dX3_gatherParts_85 (by decide) (fun c1 => ?_) (fun c1 => ?_)
            · rw [if_neg c1] at h
              exact hj100_3 (x7_2) σ5 h _ _ ls hP hS (lv_sub hl [1, 4, 5, 6, 7, 2, 3] rfl)
            · rw [if_pos c1] at h
              refine lv_aload_n (pc := 88) hx hb dX3_gatherParts_88 rfl (lv_at hl 4 rfl) ?_
              obtain ⟨v6, hv, h⟩ := zl_some h
              refine xgR (pc := 89) (j := 0) zc3 hx hb hts hown hK hP hv rfl zf_X3_11 dX3_gatherParts_89 ?_
              refine lv_iload (pc := 92) hx hb dX3_gatherParts_92 (lv_at hl 1 rfl) ?_
              refine lv_lload (pc := 94) hx hb dX3_gatherParts_94 (lv_at hl 0 rfl) ?_
              obtain ⟨σ7, hv, h⟩ := zl_some h
              refine xsJ (pc := 96) hx hb hK hP hS hv dX3_gatherParts_96 (fun H locs hP hS => ?_)
              refine lv_iinc (pc := 97) (v := x7_2 + 1) (lv' := [(7, .int (x7_2 + 1)), (10, .long ((zul x1 x8_2) &&& x5_1)), (8, .int x8_2), (9, .int x9_2), (0, .ref (o + x0)), (1, .long x1), (3, .int x3), (5, .long x5_1)]) hx hb dX3_gatherParts_97 hl (k := 1) rfl rfl (by decide) rfl (fun ls hl => ?_)
              exact hj100_3 (x7_2 + 1) σ7 h _ _ ls hP hS (lv_sub hl [0, 4, 5, 6, 7, 2, 3] rfl)
      exact L54_2 N (0, 0, 0, σ1) h _ _ ls hP hS (lv_sub hl [2, 1, 0, 4, 5, 6, 3] rfl)
    · rw [if_neg c1] at h
      refine lv_iload (pc := 13) hx hb dX3_gatherParts_13 (lv_at hl 5 rfl) ?_
      refine lv_iload_n (pc := 15) hx hb dX3_gatherParts_15 rfl (lv_at hl 4 rfl) ?_
      refine lv_iconst (pc := 16) (v := (-1)) hx hb dX3_gatherParts_16 (by decide) ?_
      refine lv_ixor (pc := 17) hx hb dX3_gatherParts_17 ?_
      refine lv_iand (pc := 18) hx hb dX3_gatherParts_18 ?_
      refine lv_iload (pc := 19) hx hb dX3_gatherParts_19 (lv_at hl 1 rfl) ?_
      refine lv_ishr (pc := 21) hx hb dX3_gatherParts_21 ?_
      refine lv_iconst (pc := 22) (v := 1) hx hb dX3_gatherParts_22 (by decide) ?_
      refine lv_iand (pc := 23) hx hb dX3_gatherParts_23 ?_
      refine lv_if_eq (pc := 24) (tgt := 39) hx hb dX3_gatherParts_24 (by decide) (fun c1 => ?_) (fun c1 => ?_)
      · rw [if_pos c1] at h
        refine lv_iinc (pc := 39) (v := x7_1 + 1) (lv' := [(7, .int (x7_1 + 1)), (5, .long x5_1), (0, .ref (o + x0)), (1, .long x1), (3, .int x3), (4, .int x4)]) hx hb dX3_gatherParts_39 hl (k := 1) rfl rfl (by decide) rfl (fun ls hl => ?_)
        refine lv_goto (pc := 42) (tgt := 6) hx hb dX3_gatherParts_42 (by decide) ?_
        exact ih1 (x5_1, x7_1 + 1, σ1) h _ _ ls hP hS (lv_sub hl [1, 0, 2, 3, 4, 5] rfl)
      · rw [if_neg c1] at h
        refine lv_lload (pc := 27) hx hb dX3_gatherParts_27 (lv_at hl 0 rfl) ?_
        refine lv_lload (pc := 29) hx hb dX3_gatherParts_29 (lv_at hl 0 rfl) ?_
        refine lv_iconst (pc := 31) (v := 1) hx hb dX3_gatherParts_31 (by decide) ?_
        refine lv_iload (pc := 32) hx hb dX3_gatherParts_32 (lv_at hl 1 rfl) ?_
        refine lv_ishl (pc := 34) hx hb dX3_gatherParts_34 ?_
        refine lv_lshl (pc := 35) (v := zsl x5_1 ((1 : Int32) <<< (x7_1 &&& 31))) hx hb dX3_gatherParts_35 rfl ?_
        refine lv_lor (pc := 36) hx hb dX3_gatherParts_36 ?_
        refine lv_lstore (pc := 37) (lv' := [(5, .long (x5_1 ||| (zsl x5_1 ((1 : Int32) <<< (x7_1 &&& 31))))), (7, .int x7_1), (0, .ref (o + x0)), (1, .long x1), (3, .int x3), (4, .int x4)]) hx hb dX3_gatherParts_37 hl (by decide) rfl (fun ls hl => ?_)
        refine lv_iinc (pc := 39) (v := x7_1 + 1) (lv' := [(7, .int (x7_1 + 1)), (5, .long (x5_1 ||| (zsl x5_1 ((1 : Int32) <<< (x7_1 &&& 31))))), (0, .ref (o + x0)), (1, .long x1), (3, .int x3), (4, .int x4)]) hx hb dX3_gatherParts_39 hl (k := 1) rfl rfl (by decide) rfl (fun ls hl => ?_)
        refine lv_goto (pc := 42) (tgt := 6) hx hb dX3_gatherParts_42 (by decide) ?_
        exact ih1 (x5_1 ||| (zsl x5_1 ((1 : Int32) <<< (x7_1 &&& 31))), x7_1 + 1, σ1) h _ _ ls hP hS (lv_sub hl [1, 0, 2, 3, 4, 5] rfl)
  exact L6_1 N (1, 0, σ) h _ _ ls hP hS (lv_sub hl [1, 0, 2, 3, 4, 5] rfl)
def F_X3_partsWith_30 (N : Nat) (x0 : Nat) (x2 : Int32) (x3 : Int64) (again30 : (Int32 × Int32 × zS) → Option (Int32 × zS)) : Int32 × Int32 × zS → Option (Int32 × zS)
  | (x5, x6, σ) =>
  if x2 ≤ x6 then
    (some (x5, σ))
  else
    (if 64 ≤ x6 then
      (some (x5, σ))
    else
      (zl (gR 3 0 x0 σ) fun v1 =>
      zl (aJ v1 x6 σ) fun v2 =>
      if (lg_cmp (v2 &&& x3) 0) = 0 then
        (again30 (x5, x6 + 1, σ))
      else
        (again30 (x5 + 1, x6 + 1, σ))))
def J_X3_partsWith_23 (N : Nat) (x0 : Nat) (x2 : Int32) (y0 : Int64) (σ : zS) : Option (Int32 × zS) :=
  zlp (F_X3_partsWith_30 N x0 x2 y0) N (0, 0, σ)
def f_X3_partsWith (N : Nat) (x0 : Nat) (x1 : Int32) (x2 : Int32) (σ : zS) : Option (Int32 × zS) :=
  if x1 < 0 then
    (J_X3_partsWith_23 N x0 x2 0 σ)
  else
    (if 6 ≤ x1 then
      (J_X3_partsWith_23 N x0 x2 0 σ)
    else
      (zl (aW x1) fun v3 =>
      J_X3_partsWith_23 N x0 x2 (v3 ^^^ (-1)) σ))
set_option maxHeartbeats 4000000 in
set_option maxRecDepth 100000 in
theorem c_X3_partsWith (l : Launch) (D : va_G) (c : zC) (o : Nat) (g : zEp) (N : Nat) {x0 : Nat} {x1 : Int32} {x2 : Int32} {σ : zS} {ρ : Int32 × zS} (h : f_X3_partsWith N x0 x1 x2 σ = some ρ) : Met l yX3_partsWith zs_X3_partsWith (zr 2) (va_Pc [.ref (o + x0), .int x1, .int x2] (zG D c o g σ)) (zQi D c o g ρ) 0 0 (zA o) := by
  refine zMetG (by decide) (Nat.le_of_ble_eq_true rfl) ?_
  intro p e s m below meth cd ⟨hx, hb, hr, hml, hown, hts, hlocks⟩ hP hK hE ls hl
  have hS : va_S (zA o) s.heap s.heap [] := va_S.rf
  have hl : lv_has ls 7 [(0, .ref (o + x0)), (1, .int x1), (2, .int x2)] := hl
  rw [f_X3_partsWith.eq_1] at h
  refine lv_iload_n (pc := 0) hx hb dX3_partsWith_0 rfl (lv_at hl 1 rfl) ?_
  have hj23_1 : ∀ (y0_1 : Int64) (σ1 : zS), J_X3_partsWith_23 N x0 x2 y0_1 σ1 = some ρ → ∀ (H : Heap) (locs : List Loc) (ls : Array Slot), zP D c o (zabs o σ1) H → va_S (zA o) s.heap H locs → lv_has ls 7 [(0, .ref (o + x0)), (2, .int x2)] → W p l e (zr 2) s m (([.ref (o + x0), .int x1, .int x2] : List Value).toArray) below meth cd H locs 0 0 (MQ below (zQi D c o g ρ) (([.ref (o + x0), .int x1, .int x2] : List Value).toArray) s 0 0 (zA o)) (F0 m 23 ls [.long y0_1]) := by
    intro y0_1 σ1 h H locs ls hP hS hl
    rw [J_X3_partsWith_23.eq_1] at h
    refine lv_lstore_n (pc := 23) (lv' := [(3, .long y0_1), (0, .ref (o + x0)), (2, .int x2)]) hx hb dX3_partsWith_23 rfl hl (by decide) rfl (fun ls hl => ?_)
    refine lv_iconst (pc := 24) (v := 0) hx hb dX3_partsWith_24 (by decide) ?_
    refine lv_istore (pc := 25) (lv' := [(5, .int 0), (3, .long y0_1), (0, .ref (o + x0)), (2, .int x2)]) hx hb dX3_partsWith_25 hl (by decide) rfl (fun ls hl => ?_)
    refine lv_iconst (pc := 27) (v := 0) hx hb dX3_partsWith_27 (by decide) ?_
    refine lv_istore (pc := 28) (lv' := [(6, .int 0), (5, .int 0), (3, .long y0_1), (0, .ref (o + x0)), (2, .int x2)]) hx hb dX3_partsWith_28 hl (by decide) rfl (fun ls hl => ?_)
    have L30_2 : ∀ (n : Nat) (t : Int32 × Int32 × zS), zlp (F_X3_partsWith_30 N x0 x2 y0_1) n t = some ρ → ∀ (H : Heap) (locs : List Loc) (ls : Array Slot), zP D c o (zabs o (t.2.2)) H → va_S (zA o) s.heap H locs → lv_has ls 7 [(5, .int (t.1)), (6, .int (t.2.1)), (0, .ref (o + x0)), (2, .int x2), (3, .long y0_1)] → W p l e (zr 2) s m (([.ref (o + x0), .int x1, .int x2] : List Value).toArray) below meth cd H locs 0 0 (MQ below (zQi D c o g ρ) (([.ref (o + x0), .int x1, .int x2] : List Value).toArray) s 0 0 (zA o)) (F0 m 30 ls []) := by
      refine zlp_ind (fun ag2 ih2 t h H locs ls hP hS hl => ?_)
      obtain ⟨x5_2, x6_2, σ2⟩ := t
      have hP : zP D c o (zabs o σ2) H := hP
      have hl : lv_has ls 7 [(5, .int x5_2), (6, .int x6_2), (0, .ref (o + x0)), (2, .int x2), (3, .long y0_1)] := hl
      rw [F_X3_partsWith_30.eq_1] at h
      show W p l e (zr 2) s m (([.ref (o + x0), .int x1, .int x2] : List Value).toArray) below meth cd H locs 0 0 (MQ below (zQi D c o g ρ) (([.ref (o + x0), .int x1, .int x2] : List Value).toArray) s 0 0 (zA o)) (F0 m 30 ls [])
      refine lv_iload (pc := 30) hx hb dX3_partsWith_30 (lv_at hl 1 rfl) ?_
      refine lv_iload_n (pc := 32) hx hb dX3_partsWith_32 rfl (lv_at hl 3 rfl) ?_
      refine lv_icmp_ge (pc := 33) (tgt := 66) hx hb dX3_partsWith_33 (by decide) (fun c1 => ?_) (fun c1 => ?_)
      · rw [if_pos c1] at h
        refine lv_iload (pc := 66) hx hb dX3_partsWith_66 (lv_at hl 0 rfl) ?_
        exact xreti (pc := 68) hx hb hr hlocks hP hK hE hS h dX3_partsWith_68
      · rw [if_neg c1] at h
        refine lv_iload (pc := 36) hx hb dX3_partsWith_36 (lv_at hl 1 rfl) ?_
        refine lv_bipush (pc := 38) (v := 64) hx hb dX3_partsWith_38 (by decide) ?_
        refine lv_icmp_ge (pc := 40) (tgt := 66) hx hb dX3_partsWith_40 (by decide) (fun c1 => ?_) (fun c1 => ?_)
        · rw [if_pos c1] at h
          refine lv_iload (pc := 66) hx hb dX3_partsWith_66 (lv_at hl 0 rfl) ?_
          exact xreti (pc := 68) hx hb hr hlocks hP hK hE hS h dX3_partsWith_68
        · rw [if_neg c1] at h
          refine lv_aload_n (pc := 43) hx hb dX3_partsWith_43 rfl (lv_at hl 2 rfl) ?_
          obtain ⟨v3, hv, h⟩ := zl_some h
          refine xgR (pc := 44) (j := 0) zc3 hx hb hts hown hK hP hv rfl zf_X3_11 dX3_partsWith_44 ?_
          refine lv_iload (pc := 47) hx hb dX3_partsWith_47 (lv_at hl 1 rfl) ?_
          obtain ⟨v4, hv, h⟩ := zl_some h
          refine xaJ (pc := 49) hx hb hK hP hv dX3_partsWith_49 ?_
          refine lv_lload_n (pc := 50) hx hb dX3_partsWith_50 rfl (lv_at hl 4 rfl) ?_
          refine lv_land (pc := 51) hx hb dX3_partsWith_51 ?_
          refine lv_lconst (pc := 52) (v := 0) hx hb dX3_partsWith_52 (by decide) ?_
          refine W.lcmp (pc := 53) hx hb dX3_partsWith_53 ?_
          refine lv_if_eq (pc := 54) (tgt := 60) hx hb dX3_partsWith_54 (by decide) (fun c1 => ?_) (fun c1 => ?_)
          · rw [if_pos c1] at h
            refine lv_iinc (pc := 60) (v := x6_2 + 1) (lv' := [(6, .int (x6_2 + 1)), (5, .int x5_2), (0, .ref (o + x0)), (2, .int x2), (3, .long y0_1)]) hx hb dX3_partsWith_60 hl (k := 1) rfl rfl (by decide) rfl (fun ls hl => ?_)
            refine lv_goto (pc := 63) (tgt := 30) hx hb dX3_partsWith_63 (by decide) ?_
            exact ih2 (x5_2, x6_2 + 1, σ2) h _ _ ls hP hS (lv_sub hl [1, 0, 2, 3, 4] rfl)
          · rw [if_neg c1] at h
            refine lv_iinc (pc := 57) (v := x5_2 + 1) (lv' := [(5, .int (x5_2 + 1)), (6, .int x6_2), (0, .ref (o + x0)), (2, .int x2), (3, .long y0_1)]) hx hb dX3_partsWith_57 hl (k := 0) rfl rfl (by decide) rfl (fun ls hl => ?_)
            refine lv_iinc (pc := 60) (v := x6_2 + 1) (lv' := [(6, .int (x6_2 + 1)), (5, .int (x5_2 + 1)), (0, .ref (o + x0)), (2, .int x2), (3, .long y0_1)]) hx hb dX3_partsWith_60 hl (k := 1) rfl rfl (by decide) rfl (fun ls hl => ?_)
            refine lv_goto (pc := 63) (tgt := 30) hx hb dX3_partsWith_63 (by decide) ?_
            exact ih2 (x5_2 + 1, x6_2 + 1, σ2) h _ _ ls hP hS (lv_sub hl [1, 0, 2, 3, 4] rfl)
    exact L30_2 N (0, 0, σ1) h _ _ ls hP hS (lv_sub hl [1, 0, 3, 4, 2] rfl)
  refine lv_if_lt (pc := 1) (tgt := 22) hx hb dX3_partsWith_1 (by decide) (fun c1 => ?_) (fun c1 => ?_)
  · rw [if_pos c1] at h
    refine lv_lconst (pc := 22) (v := 0) hx hb dX3_partsWith_22 (by decide) ?_
    exact hj23_1 (0) σ h _ _ ls hP hS (lv_sub hl [0, 2] rfl)
  · rw [if_neg c1] at h
    refine lv_iload_n (pc := 4) hx hb dX3_partsWith_4 rfl (lv_at hl 1 rfl) ?_
    refine lv_bipush (pc := 5) (v := 6) hx hb dX3_partsWith_5 (by decide) ?_
    refine lv_icmp_ge (pc := 7) (tgt := 22) hx hb dX3_partsWith_7 (by decide) (fun c1 => ?_) (fun c1 => ?_)
    · rw [if_pos c1] at h
      refine lv_lconst (pc := 22) (v := 0) hx hb dX3_partsWith_22 (by decide) ?_
      exact hj23_1 (0) σ h _ _ ls hP hS (lv_sub hl [0, 2] rfl)
    · rw [if_neg c1] at h
      refine xgW (pc := 10) hx hb hts hown hE hS zf_X3_48 dX3_partsWith_10 ?_
      refine lv_iload_n (pc := 13) hx hb dX3_partsWith_13 rfl (lv_at hl 1 rfl) ?_
      obtain ⟨v5, hv, h⟩ := zl_some h
      refine xaW (pc := 14) hx hb hE hS hv dX3_partsWith_14 ?_
      refine lv_ldc2 (pc := 15) hx hb hown (hts _ zk_X3_51) dX3_partsWith_15 ?_
      refine lv_lxor (pc := 18) hx hb dX3_partsWith_18 ?_
      refine lv_goto (pc := 19) (tgt := 23) hx hb dX3_partsWith_19 (by decide) ?_
      exact hj23_1 (v5 ^^^ (-1)) σ h _ _ ls hP hS (lv_sub hl [0, 2] rfl)
def F_X3_weighAll_59 (N : Nat) (x0 : Nat) (x1 : Nat) (x2 : Int32) (x3 : Int32) (x4 : Int32) (x5 : Int32) (again27 : (Int32 × zS) → Option (Unit × zS)) (again59 : (Int32 × zS) → Option (Unit × zS)) : Int32 × zS → Option (Unit × zS)
  | (x6, σ) =>
  if x2 ≤ x6 then
    (again27 (x4 + (-1), σ))
  else
    (if 6 ≤ x6 then
      (again27 (x4 + (-1), σ))
    else
      (if (((x4 : Int32) >>> (x6 &&& 31)) &&& 1) = 0 then
        (zl (gC 3 x0) fun _ => zb (f_X3_partsWith N x0 x6 x5 σ) fun v9 σ10 =>
        zl (gR 3 1 x0 σ10) fun v11 =>
        zl (aI 14 v11 (x4 ||| ((1 : Int32) <<< (x6 &&& 31))) σ10) fun v12 =>
        zl (gR 3 1 x0 σ10) fun v13 =>
        zl (aI 14 v13 x4 σ10) fun v14 =>
        if v14 ≤ (v9 + v12) then
          (again59 (x6 + 1, σ10))
        else
          (zl (gR 3 1 x0 σ10) fun v15 =>
          zl (sI 14 v15 x4 (v9 + v12) σ10) fun σ16 =>
          zl (gR 3 2 x0 σ16) fun v17 =>
          zl (sI 14 v17 x4 x6 σ16) fun σ18 =>
          again59 (x6 + 1, σ18)))
      else
        (again59 (x6 + 1, σ))))
def F_X3_weighAll_27 (N : Nat) (x0 : Nat) (x1 : Nat) (x2 : Int32) (x3 : Int32) (again27 : (Int32 × zS) → Option (Unit × zS)) : Int32 × zS → Option (Unit × zS)
  | (x4, σ) =>
  if x4 < 0 then
    (some ((), σ))
  else
    (zl (gR 2 0 x1 σ) fun v3 =>
    zl (aJ v3 0 σ) fun v4 =>
    zl (gC 3 x0) fun _ => zb (f_X3_gatherParts N x0 v4 x4 x3 σ) fun v5 σ6 =>
    zl (gR 3 1 x0 σ6) fun v7 =>
    zl (sI 14 v7 x4 1000000 σ6) fun σ8 =>
    zlp (F_X3_weighAll_59 N x0 x1 x2 x3 x4 v5 again27) N (0, σ8))
def f_X3_weighAll (N : Nat) (x0 : Nat) (x1 : Nat) (x2 : Int32) (σ : zS) : Option (Unit × zS) :=
  zl (gR 3 1 x0 σ) fun v1 =>
  zl (sI 14 v1 (((1 : Int32) <<< ((zmax 0 (zmin 6 x2)) &&& 31)) - 1) 0 σ) fun σ2 =>
  zlp (F_X3_weighAll_27 N x0 x1 x2 (((1 : Int32) <<< ((zmax 0 (zmin 6 x2)) &&& 31)) - 1)) N ((((1 : Int32) <<< ((zmax 0 (zmin 6 x2)) &&& 31)) - 1) - 1, σ2)
set_option maxHeartbeats 4000000 in
set_option maxRecDepth 100000 in
theorem c_X3_weighAll (l : Launch) (D : va_G) (c : zC) (o : Nat) (g : zEp) (N : Nat) {x0 : Nat} {x1 : Nat} {x2 : Int32} {σ : zS} {ρ : Unit × zS} (h : f_X3_weighAll N x0 x1 x2 σ = some ρ) : Met l yX3_weighAll zs_X3_weighAll (zr 6) (va_Pc [.ref (o + x0), .ref (o + x1), .int x2] (zG D c o g σ)) (zQu D c o g ρ) 0 0 (zA o) := by
  refine zMetG (by decide) (Nat.le_of_ble_eq_true rfl) ?_
  intro p e s m below meth cd ⟨hx, hb, hr, hml, hown, hts, hlocks⟩ hP hK hE ls hl
  have hS : va_S (zA o) s.heap s.heap [] := va_S.rf
  have hl : lv_has ls 8 [(0, .ref (o + x0)), (1, .ref (o + x1)), (2, .int x2)] := hl
  rw [f_X3_weighAll.eq_1] at h
  refine lv_iconst (pc := 0) (v := 1) hx hb dX3_weighAll_0 (by decide) ?_
  refine lv_iconst (pc := 1) (v := 0) hx hb dX3_weighAll_1 (by decide) ?_
  refine lv_bipush (pc := 2) (v := 6) hx hb dX3_weighAll_2 (by decide) ?_
  refine lv_iload_n (pc := 4) hx hb dX3_weighAll_4 rfl (lv_at hl 2 rfl) ?_
  refine xmin (pc := 5) (rest := [.int 0, .int 1]) hx hb (hml.trans hl.1.symm) hown (hts _ zm_X3_22) (hts _ zst_J9_min_7cf53) (hts _ zn_J9) (hts _ (zq_J9_min_7cf53 _ List.mem_cons_self).1) (Nat.le_of_ble_eq_true rfl) (Nat.le_of_ble_eq_true rfl) (Nat.zero_le _) (Nat.zero_le _) dX3_weighAll_5 ?_
  refine xmax (pc := 8) (rest := [.int 1]) hx hb (hml.trans hl.1.symm) hown (hts _ zm_X3_28) (hts _ zst_J9_max_7cf53) (hts _ zn_J9) (hts _ (zq_J9_max_7cf53 _ List.mem_cons_self).1) (Nat.le_of_ble_eq_true rfl) (Nat.le_of_ble_eq_true rfl) (Nat.zero_le _) (Nat.zero_le _) dX3_weighAll_8 ?_
  refine lv_ishl (pc := 11) hx hb dX3_weighAll_11 ?_
  refine lv_iconst (pc := 12) (v := 1) hx hb dX3_weighAll_12 (by decide) ?_
  refine lv_isub (pc := 13) hx hb dX3_weighAll_13 ?_
  refine lv_istore_n (pc := 14) (lv' := [(3, .int (((1 : Int32) <<< ((zmax 0 (zmin 6 x2)) &&& 31)) - 1)), (0, .ref (o + x0)), (1, .ref (o + x1)), (2, .int x2)]) hx hb dX3_weighAll_14 rfl hl (by decide) rfl (fun ls hl => ?_)
  refine lv_aload_n (pc := 15) hx hb dX3_weighAll_15 rfl (lv_at hl 1 rfl) ?_
  obtain ⟨v1, hv, h⟩ := zl_some h
  refine xgR (pc := 16) (j := 1) zc3 hx hb hts hown hK hP hv rfl zf_X3_15 dX3_weighAll_16 ?_
  refine lv_iload_n (pc := 19) hx hb dX3_weighAll_19 rfl (lv_at hl 0 rfl) ?_
  refine lv_iconst (pc := 20) (v := 0) hx hb dX3_weighAll_20 (by decide) ?_
  obtain ⟨σ2, hv, h⟩ := zl_some h
  refine xsI (pc := 21) hx hb hK hP hS hv dX3_weighAll_21 (fun H locs hP hS => ?_)
  refine lv_iload_n (pc := 22) hx hb dX3_weighAll_22 rfl (lv_at hl 0 rfl) ?_
  refine lv_iconst (pc := 23) (v := 1) hx hb dX3_weighAll_23 (by decide) ?_
  refine lv_isub (pc := 24) hx hb dX3_weighAll_24 ?_
  refine lv_istore (pc := 25) (lv' := [(4, .int ((((1 : Int32) <<< ((zmax 0 (zmin 6 x2)) &&& 31)) - 1) - 1)), (3, .int (((1 : Int32) <<< ((zmax 0 (zmin 6 x2)) &&& 31)) - 1)), (0, .ref (o + x0)), (1, .ref (o + x1)), (2, .int x2)]) hx hb dX3_weighAll_25 hl (by decide) rfl (fun ls hl => ?_)
  have L27_3 : ∀ (n : Nat) (t : Int32 × zS), zlp (F_X3_weighAll_27 N x0 x1 x2 (((1 : Int32) <<< ((zmax 0 (zmin 6 x2)) &&& 31)) - 1)) n t = some ρ → ∀ (H : Heap) (locs : List Loc) (ls : Array Slot), zP D c o (zabs o (t.2)) H → va_S (zA o) s.heap H locs → lv_has ls 8 [(4, .int (t.1)), (0, .ref (o + x0)), (1, .ref (o + x1)), (2, .int x2), (3, .int (((1 : Int32) <<< ((zmax 0 (zmin 6 x2)) &&& 31)) - 1))] → W p l e (zr 6) s m (([.ref (o + x0), .ref (o + x1), .int x2] : List Value).toArray) below meth cd H locs 0 0 (MQ below (zQu D c o g ρ) (([.ref (o + x0), .ref (o + x1), .int x2] : List Value).toArray) s 0 0 (zA o)) (F0 m 27 ls []) := by
    refine zlp_ind (fun ag3 ih3 t h H locs ls hP hS hl => ?_)
    obtain ⟨x4_3, σ3⟩ := t
    have hP : zP D c o (zabs o σ3) H := hP
    have hl : lv_has ls 8 [(4, .int x4_3), (0, .ref (o + x0)), (1, .ref (o + x1)), (2, .int x2), (3, .int (((1 : Int32) <<< ((zmax 0 (zmin 6 x2)) &&& 31)) - 1))] := hl
    rw [F_X3_weighAll_27.eq_1] at h
    show W p l e (zr 6) s m (([.ref (o + x0), .ref (o + x1), .int x2] : List Value).toArray) below meth cd H locs 0 0 (MQ below (zQu D c o g ρ) (([.ref (o + x0), .ref (o + x1), .int x2] : List Value).toArray) s 0 0 (zA o)) (F0 m 27 ls [])
    refine lv_iload (pc := 27) hx hb dX3_weighAll_27 (lv_at hl 0 rfl) ?_
    refine lv_if_lt (pc := 29) (tgt := 147) hx hb dX3_weighAll_29 (by decide) (fun c1 => ?_) (fun c1 => ?_)
    · rw [if_pos c1] at h
      exact xretv (pc := 147) hx hb hr hlocks hP hK hE hS h dX3_weighAll_147
    · rw [if_neg c1] at h
      refine lv_aload_n (pc := 32) hx hb dX3_weighAll_32 rfl (lv_at hl 1 rfl) ?_
      refine lv_aload_n (pc := 33) hx hb dX3_weighAll_33 rfl (lv_at hl 2 rfl) ?_
      obtain ⟨v4, hv, h⟩ := zl_some h
      refine xgR (pc := 34) (j := 0) zc2 hx hb hts hown hK hP hv rfl zf_X3_31 dX3_weighAll_34 ?_
      refine lv_iconst (pc := 37) (v := 0) hx hb dX3_weighAll_37 (by decide) ?_
      obtain ⟨v5, hv, h⟩ := zl_some h
      refine xaJ (pc := 38) hx hb hK hP hv dX3_weighAll_38 ?_
      refine lv_iload (pc := 39) hx hb dX3_weighAll_39 (lv_at hl 0 rfl) ?_
      refine lv_iload_n (pc := 41) hx hb dX3_weighAll_41 rfl (lv_at hl 4 rfl) ?_
      obtain ⟨_, hg, h⟩ := zl_some h
      obtain ⟨v6, σ7, hv, h⟩ := zb_some h
      refine xcallVi (pc := 42) (As := [.long v5, .int x4_3, .int (((1 : Int32) <<< ((zmax 0 (zmin 6 x2)) &&& 31)) - 1)]) (rest := []) ⟨hx, hb, hml, hown, hts⟩ (c_X3_gatherParts l D c o g N hv) zc3 zV_X3_36 rfl zd_X3_gatherParts ⟨Nat.le_of_ble_eq_true rfl, Nat.le_of_ble_eq_true rfl⟩ hK hP hE hS hg hl.1 rfl (Nat.le_of_ble_eq_true rfl) ⟨Nat.zero_le _, Nat.zero_le _⟩ dX3_weighAll_42 (fun H locs hP hS => ?_)
      refine lv_istore (pc := 45) (lv' := [(5, .int v6), (4, .int x4_3), (0, .ref (o + x0)), (1, .ref (o + x1)), (2, .int x2), (3, .int (((1 : Int32) <<< ((zmax 0 (zmin 6 x2)) &&& 31)) - 1))]) hx hb dX3_weighAll_45 hl (by decide) rfl (fun ls hl => ?_)
      refine lv_aload_n (pc := 47) hx hb dX3_weighAll_47 rfl (lv_at hl 2 rfl) ?_
      obtain ⟨v8, hv, h⟩ := zl_some h
      refine xgR (pc := 48) (j := 1) zc3 hx hb hts hown hK hP hv rfl zf_X3_15 dX3_weighAll_48 ?_
      refine lv_iload (pc := 51) hx hb dX3_weighAll_51 (lv_at hl 1 rfl) ?_
      refine lv_ldc (pc := 53) hx hb hown (hts _ zk_X3_40) dX3_weighAll_53 ?_
      obtain ⟨σ9, hv, h⟩ := zl_some h
      refine xsI (pc := 55) hx hb hK hP hS hv dX3_weighAll_55 (fun H locs hP hS => ?_)
      refine lv_iconst (pc := 56) (v := 0) hx hb dX3_weighAll_56 (by decide) ?_
      refine lv_istore (pc := 57) (lv' := [(6, .int 0), (5, .int v6), (4, .int x4_3), (0, .ref (o + x0)), (1, .ref (o + x1)), (2, .int x2), (3, .int (((1 : Int32) <<< ((zmax 0 (zmin 6 x2)) &&& 31)) - 1))]) hx hb dX3_weighAll_57 hl (by decide) rfl (fun ls hl => ?_)
      have L59_10 : ∀ (n : Nat) (t : Int32 × zS), zlp (F_X3_weighAll_59 N x0 x1 x2 (((1 : Int32) <<< ((zmax 0 (zmin 6 x2)) &&& 31)) - 1) x4_3 v6 ag3) n t = some ρ → ∀ (H : Heap) (locs : List Loc) (ls : Array Slot), zP D c o (zabs o (t.2)) H → va_S (zA o) s.heap H locs → lv_has ls 8 [(6, .int (t.1)), (0, .ref (o + x0)), (1, .ref (o + x1)), (2, .int x2), (3, .int (((1 : Int32) <<< ((zmax 0 (zmin 6 x2)) &&& 31)) - 1)), (4, .int x4_3), (5, .int v6)] → W p l e (zr 6) s m (([.ref (o + x0), .ref (o + x1), .int x2] : List Value).toArray) below meth cd H locs 0 0 (MQ below (zQu D c o g ρ) (([.ref (o + x0), .ref (o + x1), .int x2] : List Value).toArray) s 0 0 (zA o)) (F0 m 59 ls []) := by
        refine zlp_ind (fun ag10 ih10 t h H locs ls hP hS hl => ?_)
        obtain ⟨x6_10, σ10⟩ := t
        have hP : zP D c o (zabs o σ10) H := hP
        have hl : lv_has ls 8 [(6, .int x6_10), (0, .ref (o + x0)), (1, .ref (o + x1)), (2, .int x2), (3, .int (((1 : Int32) <<< ((zmax 0 (zmin 6 x2)) &&& 31)) - 1)), (4, .int x4_3), (5, .int v6)] := hl
        rw [F_X3_weighAll_59.eq_1] at h
        show W p l e (zr 6) s m (([.ref (o + x0), .ref (o + x1), .int x2] : List Value).toArray) below meth cd H locs 0 0 (MQ below (zQu D c o g ρ) (([.ref (o + x0), .ref (o + x1), .int x2] : List Value).toArray) s 0 0 (zA o)) (F0 m 59 ls [])
        refine lv_iload (pc := 59) hx hb dX3_weighAll_59 (lv_at hl 0 rfl) ?_
        refine lv_iload_n (pc := 61) hx hb dX3_weighAll_61 rfl (lv_at hl 3 rfl) ?_
        refine lv_icmp_ge (pc := 62) (tgt := 141) hx hb dX3_weighAll_62 (by decide) (fun c1 => ?_) (fun c1 => ?_)
        · rw [if_pos c1] at h
          refine lv_iinc (pc := 141) (v := x4_3 + (-1)) (lv' := [(4, .int (x4_3 + (-1))), (6, .int x6_10), (0, .ref (o + x0)), (1, .ref (o + x1)), (2, .int x2), (3, .int (((1 : Int32) <<< ((zmax 0 (zmin 6 x2)) &&& 31)) - 1)), (5, .int v6)]) hx hb dX3_weighAll_141 hl (k := 5) rfl rfl (by decide) rfl (fun ls hl => ?_)
          refine lv_goto (pc := 144) (tgt := 27) hx hb dX3_weighAll_144 (by decide) ?_
          exact ih3 (x4_3 + (-1), σ10) h _ _ ls hP hS (lv_sub hl [0, 2, 3, 4, 5] rfl)
        · rw [if_neg c1] at h
          refine lv_iload (pc := 65) hx hb dX3_weighAll_65 (lv_at hl 0 rfl) ?_
          refine lv_bipush (pc := 67) (v := 6) hx hb dX3_weighAll_67 (by decide) ?_
          refine lv_icmp_ge (pc := 69) (tgt := 141) hx hb dX3_weighAll_69 (by decide) (fun c1 => ?_) (fun c1 => ?_)
          · rw [if_pos c1] at h
            refine lv_iinc (pc := 141) (v := x4_3 + (-1)) (lv' := [(4, .int (x4_3 + (-1))), (6, .int x6_10), (0, .ref (o + x0)), (1, .ref (o + x1)), (2, .int x2), (3, .int (((1 : Int32) <<< ((zmax 0 (zmin 6 x2)) &&& 31)) - 1)), (5, .int v6)]) hx hb dX3_weighAll_141 hl (k := 5) rfl rfl (by decide) rfl (fun ls hl => ?_)
            refine lv_goto (pc := 144) (tgt := 27) hx hb dX3_weighAll_144 (by decide) ?_
            exact ih3 (x4_3 + (-1), σ10) h _ _ ls hP hS (lv_sub hl [0, 2, 3, 4, 5] rfl)
          · rw [if_neg c1] at h
            refine lv_iload (pc := 72) hx hb dX3_weighAll_72 (lv_at hl 5 rfl) ?_
            refine lv_iload (pc := 74) hx hb dX3_weighAll_74 (lv_at hl 0 rfl) ?_
            refine lv_ishr (pc := 76) hx hb dX3_weighAll_76 ?_
            refine lv_iconst (pc := 77) (v := 1) hx hb dX3_weighAll_77 (by decide) ?_
            refine lv_iand (pc := 78) hx hb dX3_weighAll_78 ?_
            refine lv_if_ne (pc := 79) (tgt := 135) hx hb dX3_weighAll_79 (by decide) (fun c1 => ?_) (fun c1 => ?_)
            · rw [if_neg c1] at h
              refine lv_iinc (pc := 135) (v := x6_10 + 1) (lv' := [(6, .int (x6_10 + 1)), (0, .ref (o + x0)), (1, .ref (o + x1)), (2, .int x2), (3, .int (((1 : Int32) <<< ((zmax 0 (zmin 6 x2)) &&& 31)) - 1)), (4, .int x4_3), (5, .int v6)]) hx hb dX3_weighAll_135 hl (k := 0) rfl rfl (by decide) rfl (fun ls hl => ?_)
              refine lv_goto (pc := 138) (tgt := 59) hx hb dX3_weighAll_138 (by decide) ?_
              exact ih10 (x6_10 + 1, σ10) h _ _ ls hP hS (lv_sub hl [0, 1, 2, 3, 4, 5, 6] rfl)
            · rw [if_pos c1] at h
              refine lv_aload_n (pc := 82) hx hb dX3_weighAll_82 rfl (lv_at hl 1 rfl) ?_
              refine lv_iload (pc := 83) hx hb dX3_weighAll_83 (lv_at hl 0 rfl) ?_
              refine lv_iload (pc := 85) hx hb dX3_weighAll_85 (lv_at hl 6 rfl) ?_
              obtain ⟨_, hg, h⟩ := zl_some h
              obtain ⟨v11, σ12, hv, h⟩ := zb_some h
              refine xcallVi (pc := 87) (As := [.int x6_10, .int v6]) (rest := []) ⟨hx, hb, hml, hown, hts⟩ (c_X3_partsWith l D c o g N hv) zc3 zV_X3_41 rfl zd_X3_partsWith ⟨Nat.le_of_ble_eq_true rfl, Nat.le_of_ble_eq_true rfl⟩ hK hP hE hS hg hl.1 rfl (Nat.le_of_ble_eq_true rfl) ⟨Nat.zero_le _, Nat.zero_le _⟩ dX3_weighAll_87 (fun H locs hP hS => ?_)
              refine lv_aload_n (pc := 90) hx hb dX3_weighAll_90 rfl (lv_at hl 1 rfl) ?_
              obtain ⟨v13, hv, h⟩ := zl_some h
              refine xgR (pc := 91) (j := 1) zc3 hx hb hts hown hK hP hv rfl zf_X3_15 dX3_weighAll_91 ?_
              refine lv_iload (pc := 94) hx hb dX3_weighAll_94 (lv_at hl 5 rfl) ?_
              refine lv_iconst (pc := 96) (v := 1) hx hb dX3_weighAll_96 (by decide) ?_
              refine lv_iload (pc := 97) hx hb dX3_weighAll_97 (lv_at hl 0 rfl) ?_
              refine lv_ishl (pc := 99) hx hb dX3_weighAll_99 ?_
              refine lv_ior (pc := 100) hx hb dX3_weighAll_100 ?_
              obtain ⟨v14, hv, h⟩ := zl_some h
              refine xaI (pc := 101) hx hb hK hP hv dX3_weighAll_101 ?_
              refine lv_iadd (pc := 102) hx hb dX3_weighAll_102 ?_
              refine lv_istore (pc := 103) (lv' := [(7, .int (v11 + v14)), (6, .int x6_10), (0, .ref (o + x0)), (1, .ref (o + x1)), (2, .int x2), (3, .int (((1 : Int32) <<< ((zmax 0 (zmin 6 x2)) &&& 31)) - 1)), (4, .int x4_3), (5, .int v6)]) hx hb dX3_weighAll_103 hl (by decide) rfl (fun ls hl => ?_)
              refine lv_iload (pc := 105) hx hb dX3_weighAll_105 (lv_at hl 0 rfl) ?_
              refine lv_aload_n (pc := 107) hx hb dX3_weighAll_107 rfl (lv_at hl 2 rfl) ?_
              obtain ⟨v15, hv, h⟩ := zl_some h
              refine xgR (pc := 108) (j := 1) zc3 hx hb hts hown hK hP hv rfl zf_X3_15 dX3_weighAll_108 ?_
              refine lv_iload (pc := 111) hx hb dX3_weighAll_111 (lv_at hl 6 rfl) ?_
              obtain ⟨v16, hv, h⟩ := zl_some h
              refine xaI (pc := 113) hx hb hK hP hv dX3_weighAll_113 ?_
              refine lv_icmp_ge (pc := 114) (tgt := 135) hx hb dX3_weighAll_114 (by decide) (fun c1 => ?_) (fun c1 => ?_)
              · rw [if_pos c1] at h
                refine lv_iinc (pc := 135) (v := x6_10 + 1) (lv' := [(6, .int (x6_10 + 1)), (7, .int (v11 + v14)), (0, .ref (o + x0)), (1, .ref (o + x1)), (2, .int x2), (3, .int (((1 : Int32) <<< ((zmax 0 (zmin 6 x2)) &&& 31)) - 1)), (4, .int x4_3), (5, .int v6)]) hx hb dX3_weighAll_135 hl (k := 1) rfl rfl (by decide) rfl (fun ls hl => ?_)
                refine lv_goto (pc := 138) (tgt := 59) hx hb dX3_weighAll_138 (by decide) ?_
                exact ih10 (x6_10 + 1, σ12) h _ _ ls hP hS (lv_sub hl [0, 2, 3, 4, 5, 6, 7] rfl)
              · rw [if_neg c1] at h
                refine lv_aload_n (pc := 117) hx hb dX3_weighAll_117 rfl (lv_at hl 2 rfl) ?_
                obtain ⟨v17, hv, h⟩ := zl_some h
                refine xgR (pc := 118) (j := 1) zc3 hx hb hts hown hK hP hv rfl zf_X3_15 dX3_weighAll_118 ?_
                refine lv_iload (pc := 121) hx hb dX3_weighAll_121 (lv_at hl 6 rfl) ?_
                refine lv_iload (pc := 123) hx hb dX3_weighAll_123 (lv_at hl 0 rfl) ?_
                obtain ⟨σ18, hv, h⟩ := zl_some h
                refine xsI (pc := 125) hx hb hK hP hS hv dX3_weighAll_125 (fun H locs hP hS => ?_)
                refine lv_aload_n (pc := 126) hx hb dX3_weighAll_126 rfl (lv_at hl 2 rfl) ?_
                obtain ⟨v19, hv, h⟩ := zl_some h
                refine xgR (pc := 127) (j := 2) zc3 hx hb hts hown hK hP hv rfl zf_X3_19 dX3_weighAll_127 ?_
                refine lv_iload (pc := 130) hx hb dX3_weighAll_130 (lv_at hl 6 rfl) ?_
                refine lv_iload (pc := 132) hx hb dX3_weighAll_132 (lv_at hl 1 rfl) ?_
                obtain ⟨σ20, hv, h⟩ := zl_some h
                refine xsI (pc := 134) hx hb hK hP hS hv dX3_weighAll_134 (fun H locs hP hS => ?_)
                refine lv_iinc (pc := 135) (v := x6_10 + 1) (lv' := [(6, .int (x6_10 + 1)), (7, .int (v11 + v14)), (0, .ref (o + x0)), (1, .ref (o + x1)), (2, .int x2), (3, .int (((1 : Int32) <<< ((zmax 0 (zmin 6 x2)) &&& 31)) - 1)), (4, .int x4_3), (5, .int v6)]) hx hb dX3_weighAll_135 hl (k := 1) rfl rfl (by decide) rfl (fun ls hl => ?_)
                refine lv_goto (pc := 138) (tgt := 59) hx hb dX3_weighAll_138 (by decide) ?_
                exact ih10 (x6_10 + 1, σ20) h _ _ ls hP hS (lv_sub hl [0, 2, 3, 4, 5, 6, 7] rfl)
      exact L59_10 N (0, σ9) h _ _ ls hP hS (lv_sub hl [0, 3, 4, 5, 6, 2, 1] rfl)
  exact L27_3 N ((((1 : Int32) <<< ((zmax 0 (zmin 6 x2)) &&& 31)) - 1) - 1, σ2) h _ _ ls hP hS (lv_sub hl [0, 2, 3, 4, 1] rfl)
def f_X3_fewest (N : Nat) (x0 : Nat) (σ : zS) : Option (Int32 × zS) :=
  zl (gR 3 1 x0 σ) fun v1 =>
  zl (aI 14 v1 0 σ) fun v2 =>
  some (v2, σ)
set_option maxHeartbeats 4000000 in
set_option maxRecDepth 100000 in
theorem c_X3_fewest (l : Launch) (D : va_G) (c : zC) (o : Nat) (g : zEp) (N : Nat) {x0 : Nat} {σ : zS} {ρ : Int32 × zS} (h : f_X3_fewest N x0 σ = some ρ) : Met l yX3_fewest zs_X3_fewest (zr 2) (va_Pc [.ref (o + x0)] (zG D c o g σ)) (zQi D c o g ρ) 0 0 (zA o) := by
  refine zMetG (by decide) (Nat.le_of_ble_eq_true rfl) ?_
  intro p e s m below meth cd ⟨hx, hb, hr, hml, hown, hts, hlocks⟩ hP hK hE ls hl
  have hS : va_S (zA o) s.heap s.heap [] := va_S.rf
  have hl : lv_has ls 1 [(0, .ref (o + x0))] := hl
  rw [f_X3_fewest.eq_1] at h
  refine lv_aload_n (pc := 0) hx hb dX3_fewest_0 rfl (lv_at hl 0 rfl) ?_
  obtain ⟨v1, hv, h⟩ := zl_some h
  refine xgR (pc := 1) (j := 1) zc3 hx hb hts hown hK hP hv rfl zf_X3_15 dX3_fewest_1 ?_
  refine lv_iconst (pc := 4) (v := 0) hx hb dX3_fewest_4 (by decide) ?_
  obtain ⟨v2, hv, h⟩ := zl_some h
  refine xaI (pc := 5) hx hb hK hP hv dX3_fewest_5 ?_
  exact xreti (pc := 6) hx hb hr hlocks hP hK hE hS h dX3_fewest_6
def F_X3_nameAt_4 (N : Nat) (x0 : Nat) (x1 : Int32) (again4 : (Int32 × Int32 × zS) → Option (Int32 × zS)) : Int32 × Int32 × zS → Option (Int32 × zS)
  | (x2, x3, σ) =>
  if x1 ≤ x3 then
    (zl (gR 3 2 x0 σ) fun v1 =>
    zl (aI 14 v1 (x2 &&& 63) σ) fun v2 =>
    some (v2, σ))
  else
    (if 6 ≤ x3 then
      (zl (gR 3 2 x0 σ) fun v3 =>
      zl (aI 14 v3 (x2 &&& 63) σ) fun v4 =>
      some (v4, σ))
    else
      (zl (gR 3 2 x0 σ) fun v5 =>
      zl (aI 14 v5 (x2 &&& 63) σ) fun v6 =>
      again4 (x2 ||| ((1 : Int32) <<< (v6 &&& 31)), x3 + 1, σ)))
def f_X3_nameAt (N : Nat) (x0 : Nat) (x1 : Int32) (σ : zS) : Option (Int32 × zS) :=
  zlp (F_X3_nameAt_4 N x0 x1) N (0, 0, σ)
set_option maxHeartbeats 4000000 in
set_option maxRecDepth 100000 in
theorem c_X3_nameAt (l : Launch) (D : va_G) (c : zC) (o : Nat) (g : zEp) (N : Nat) {x0 : Nat} {x1 : Int32} {σ : zS} {ρ : Int32 × zS} (h : f_X3_nameAt N x0 x1 σ = some ρ) : Met l yX3_nameAt zs_X3_nameAt (zr 2) (va_Pc [.ref (o + x0), .int x1] (zG D c o g σ)) (zQi D c o g ρ) 0 0 (zA o) := by
  refine zMetG (by decide) (Nat.le_of_ble_eq_true rfl) ?_
  intro p e s m below meth cd ⟨hx, hb, hr, hml, hown, hts, hlocks⟩ hP hK hE ls hl
  have hS : va_S (zA o) s.heap s.heap [] := va_S.rf
  have hl : lv_has ls 4 [(0, .ref (o + x0)), (1, .int x1)] := hl
  rw [f_X3_nameAt.eq_1] at h
  refine lv_iconst (pc := 0) (v := 0) hx hb dX3_nameAt_0 (by decide) ?_
  refine lv_istore_n (pc := 1) (lv' := [(2, .int 0), (0, .ref (o + x0)), (1, .int x1)]) hx hb dX3_nameAt_1 rfl hl (by decide) rfl (fun ls hl => ?_)
  refine lv_iconst (pc := 2) (v := 0) hx hb dX3_nameAt_2 (by decide) ?_
  refine lv_istore_n (pc := 3) (lv' := [(3, .int 0), (2, .int 0), (0, .ref (o + x0)), (1, .int x1)]) hx hb dX3_nameAt_3 rfl hl (by decide) rfl (fun ls hl => ?_)
  have L4_1 : ∀ (n : Nat) (t : Int32 × Int32 × zS), zlp (F_X3_nameAt_4 N x0 x1) n t = some ρ → ∀ (H : Heap) (locs : List Loc) (ls : Array Slot), zP D c o (zabs o (t.2.2)) H → va_S (zA o) s.heap H locs → lv_has ls 4 [(2, .int (t.1)), (3, .int (t.2.1)), (0, .ref (o + x0)), (1, .int x1)] → W p l e (zr 2) s m (([.ref (o + x0), .int x1] : List Value).toArray) below meth cd H locs 0 0 (MQ below (zQi D c o g ρ) (([.ref (o + x0), .int x1] : List Value).toArray) s 0 0 (zA o)) (F0 m 4 ls []) := by
    refine zlp_ind (fun ag1 ih1 t h H locs ls hP hS hl => ?_)
    obtain ⟨x2_1, x3_1, σ1⟩ := t
    have hP : zP D c o (zabs o σ1) H := hP
    have hl : lv_has ls 4 [(2, .int x2_1), (3, .int x3_1), (0, .ref (o + x0)), (1, .int x1)] := hl
    rw [F_X3_nameAt_4.eq_1] at h
    show W p l e (zr 2) s m (([.ref (o + x0), .int x1] : List Value).toArray) below meth cd H locs 0 0 (MQ below (zQi D c o g ρ) (([.ref (o + x0), .int x1] : List Value).toArray) s 0 0 (zA o)) (F0 m 4 ls [])
    refine lv_iload_n (pc := 4) hx hb dX3_nameAt_4 rfl (lv_at hl 1 rfl) ?_
    refine lv_iload_n (pc := 5) hx hb dX3_nameAt_5 rfl (lv_at hl 3 rfl) ?_
    refine lv_icmp_ge (pc := 6) (tgt := 35) hx hb dX3_nameAt_6 (by decide) (fun c1 => ?_) (fun c1 => ?_)
    · rw [if_pos c1] at h
      refine lv_aload_n (pc := 35) hx hb dX3_nameAt_35 rfl (lv_at hl 2 rfl) ?_
      obtain ⟨v2, hv, h⟩ := zl_some h
      refine xgR (pc := 36) (j := 2) zc3 hx hb hts hown hK hP hv rfl zf_X3_19 dX3_nameAt_36 ?_
      refine lv_iload_n (pc := 39) hx hb dX3_nameAt_39 rfl (lv_at hl 0 rfl) ?_
      refine lv_bipush (pc := 40) (v := 63) hx hb dX3_nameAt_40 (by decide) ?_
      refine lv_iand (pc := 42) hx hb dX3_nameAt_42 ?_
      obtain ⟨v3, hv, h⟩ := zl_some h
      refine xaI (pc := 43) hx hb hK hP hv dX3_nameAt_43 ?_
      exact xreti (pc := 44) hx hb hr hlocks hP hK hE hS h dX3_nameAt_44
    · rw [if_neg c1] at h
      refine lv_iload_n (pc := 9) hx hb dX3_nameAt_9 rfl (lv_at hl 1 rfl) ?_
      refine lv_bipush (pc := 10) (v := 6) hx hb dX3_nameAt_10 (by decide) ?_
      refine lv_icmp_ge (pc := 12) (tgt := 35) hx hb dX3_nameAt_12 (by decide) (fun c1 => ?_) (fun c1 => ?_)
      · rw [if_pos c1] at h
        refine lv_aload_n (pc := 35) hx hb dX3_nameAt_35 rfl (lv_at hl 2 rfl) ?_
        obtain ⟨v4, hv, h⟩ := zl_some h
        refine xgR (pc := 36) (j := 2) zc3 hx hb hts hown hK hP hv rfl zf_X3_19 dX3_nameAt_36 ?_
        refine lv_iload_n (pc := 39) hx hb dX3_nameAt_39 rfl (lv_at hl 0 rfl) ?_
        refine lv_bipush (pc := 40) (v := 63) hx hb dX3_nameAt_40 (by decide) ?_
        refine lv_iand (pc := 42) hx hb dX3_nameAt_42 ?_
        obtain ⟨v5, hv, h⟩ := zl_some h
        refine xaI (pc := 43) hx hb hK hP hv dX3_nameAt_43 ?_
        exact xreti (pc := 44) hx hb hr hlocks hP hK hE hS h dX3_nameAt_44
      · rw [if_neg c1] at h
        refine lv_iload_n (pc := 15) hx hb dX3_nameAt_15 rfl (lv_at hl 0 rfl) ?_
        refine lv_iconst (pc := 16) (v := 1) hx hb dX3_nameAt_16 (by decide) ?_
        refine lv_aload_n (pc := 17) hx hb dX3_nameAt_17 rfl (lv_at hl 2 rfl) ?_
        obtain ⟨v6, hv, h⟩ := zl_some h
        refine xgR (pc := 18) (j := 2) zc3 hx hb hts hown hK hP hv rfl zf_X3_19 dX3_nameAt_18 ?_
        refine lv_iload_n (pc := 21) hx hb dX3_nameAt_21 rfl (lv_at hl 0 rfl) ?_
        refine lv_bipush (pc := 22) (v := 63) hx hb dX3_nameAt_22 (by decide) ?_
        refine lv_iand (pc := 24) hx hb dX3_nameAt_24 ?_
        obtain ⟨v7, hv, h⟩ := zl_some h
        refine xaI (pc := 25) hx hb hK hP hv dX3_nameAt_25 ?_
        refine lv_ishl (pc := 26) hx hb dX3_nameAt_26 ?_
        refine lv_ior (pc := 27) hx hb dX3_nameAt_27 ?_
        refine lv_istore_n (pc := 28) (lv' := [(2, .int (x2_1 ||| ((1 : Int32) <<< (v7 &&& 31)))), (3, .int x3_1), (0, .ref (o + x0)), (1, .int x1)]) hx hb dX3_nameAt_28 rfl hl (by decide) rfl (fun ls hl => ?_)
        refine lv_iinc (pc := 29) (v := x3_1 + 1) (lv' := [(3, .int (x3_1 + 1)), (2, .int (x2_1 ||| ((1 : Int32) <<< (v7 &&& 31)))), (0, .ref (o + x0)), (1, .int x1)]) hx hb dX3_nameAt_29 hl (k := 1) rfl rfl (by decide) rfl (fun ls hl => ?_)
        refine lv_goto (pc := 32) (tgt := 4) hx hb dX3_nameAt_32 (by decide) ?_
        exact ih1 (x2_1 ||| ((1 : Int32) <<< (v7 &&& 31)), x3_1 + 1, σ1) h _ _ ls hP hS (lv_sub hl [1, 0, 2, 3] rfl)
  exact L4_1 N (0, 0, σ) h _ _ ls hP hS (lv_sub hl [1, 0, 2, 3] rfl)
def F_X10_placeOf_2 (N : Nat) (x0 : Nat) (x1 : Int32) (again2 : (Int32 × zS) → Option (Int32 × zS)) : Int32 × zS → Option (Int32 × zS)
  | (x2, σ) =>
  zl (gI 10 0 x0 σ) fun v1 =>
  if v1 ≤ x2 then
    (some ((-1), σ))
  else
    (if 10 ≤ x2 then
      (some ((-1), σ))
    else
      (zl (gR 10 6 x0 σ) fun v2 =>
      zl (aI 14 v2 x2 σ) fun v3 =>
      if v3 = x1 then
        (some (x2, σ))
      else
        (again2 (x2 + 1, σ))))
def f_X10_placeOf (N : Nat) (x0 : Nat) (x1 : Int32) (σ : zS) : Option (Int32 × zS) :=
  zlp (F_X10_placeOf_2 N x0 x1) N (0, σ)
set_option maxHeartbeats 4000000 in
set_option maxRecDepth 100000 in
theorem c_X10_placeOf (l : Launch) (D : va_G) (c : zC) (o : Nat) (g : zEp) (N : Nat) {x0 : Nat} {x1 : Int32} {σ : zS} {ρ : Int32 × zS} (h : f_X10_placeOf N x0 x1 σ = some ρ) : Met l yX10_placeOf zs_X10_placeOf (zr 2) (va_Pc [.ref (o + x0), .int x1] (zG D c o g σ)) (zQi D c o g ρ) 0 0 (zA o) := by
  refine zMetG (by decide) (Nat.le_of_ble_eq_true rfl) ?_
  intro p e s m below meth cd ⟨hx, hb, hr, hml, hown, hts, hlocks⟩ hP hK hE ls hl
  have hS : va_S (zA o) s.heap s.heap [] := va_S.rf
  have hl : lv_has ls 3 [(0, .ref (o + x0)), (1, .int x1)] := hl
  rw [f_X10_placeOf.eq_1] at h
  refine lv_iconst (pc := 0) (v := 0) hx hb dX10_placeOf_0 (by decide) ?_
  refine lv_istore_n (pc := 1) (lv' := [(2, .int 0), (0, .ref (o + x0)), (1, .int x1)]) hx hb dX10_placeOf_1 rfl hl (by decide) rfl (fun ls hl => ?_)
  have L2_1 : ∀ (n : Nat) (t : Int32 × zS), zlp (F_X10_placeOf_2 N x0 x1) n t = some ρ → ∀ (H : Heap) (locs : List Loc) (ls : Array Slot), zP D c o (zabs o (t.2)) H → va_S (zA o) s.heap H locs → lv_has ls 3 [(2, .int (t.1)), (0, .ref (o + x0)), (1, .int x1)] → W p l e (zr 2) s m (([.ref (o + x0), .int x1] : List Value).toArray) below meth cd H locs 0 0 (MQ below (zQi D c o g ρ) (([.ref (o + x0), .int x1] : List Value).toArray) s 0 0 (zA o)) (F0 m 2 ls []) := by
    refine zlp_ind (fun ag1 ih1 t h H locs ls hP hS hl => ?_)
    obtain ⟨x2_1, σ1⟩ := t
    have hP : zP D c o (zabs o σ1) H := hP
    have hl : lv_has ls 3 [(2, .int x2_1), (0, .ref (o + x0)), (1, .int x1)] := hl
    rw [F_X10_placeOf_2.eq_1] at h
    show W p l e (zr 2) s m (([.ref (o + x0), .int x1] : List Value).toArray) below meth cd H locs 0 0 (MQ below (zQi D c o g ρ) (([.ref (o + x0), .int x1] : List Value).toArray) s 0 0 (zA o)) (F0 m 2 ls [])
    refine lv_iload_n (pc := 2) hx hb dX10_placeOf_2 rfl (lv_at hl 0 rfl) ?_
    refine lv_aload_n (pc := 3) hx hb dX10_placeOf_3 rfl (lv_at hl 1 rfl) ?_
    obtain ⟨v2, hv, h⟩ := zl_some h
    refine xgI (pc := 4) (j := 0) zc10 hx hb hts hown hK hP hv rfl zf_X10_9 dX10_placeOf_4 ?_
    refine lv_icmp_ge (pc := 7) (tgt := 34) hx hb dX10_placeOf_7 (by decide) (fun c1 => ?_) (fun c1 => ?_)
    · rw [if_pos c1] at h
      refine lv_iconst (pc := 34) (v := (-1)) hx hb dX10_placeOf_34 (by decide) ?_
      exact xreti (pc := 35) hx hb hr hlocks hP hK hE hS h dX10_placeOf_35
    · rw [if_neg c1] at h
      refine lv_iload_n (pc := 10) hx hb dX10_placeOf_10 rfl (lv_at hl 0 rfl) ?_
      refine lv_bipush (pc := 11) (v := 10) hx hb dX10_placeOf_11 (by decide) ?_
      refine lv_icmp_ge (pc := 13) (tgt := 34) hx hb dX10_placeOf_13 (by decide) (fun c1 => ?_) (fun c1 => ?_)
      · rw [if_pos c1] at h
        refine lv_iconst (pc := 34) (v := (-1)) hx hb dX10_placeOf_34 (by decide) ?_
        exact xreti (pc := 35) hx hb hr hlocks hP hK hE hS h dX10_placeOf_35
      · rw [if_neg c1] at h
        refine lv_aload_n (pc := 16) hx hb dX10_placeOf_16 rfl (lv_at hl 1 rfl) ?_
        obtain ⟨v3, hv, h⟩ := zl_some h
        refine xgR (pc := 17) (j := 6) zc10 hx hb hts hown hK hP hv rfl zf_X10_31 dX10_placeOf_17 ?_
        refine lv_iload_n (pc := 20) hx hb dX10_placeOf_20 rfl (lv_at hl 0 rfl) ?_
        obtain ⟨v4, hv, h⟩ := zl_some h
        refine xaI (pc := 21) hx hb hK hP hv dX10_placeOf_21 ?_
        refine lv_iload_n (pc := 22) hx hb dX10_placeOf_22 rfl (lv_at hl 2 rfl) ?_
        refine lv_icmp_ne (pc := 23) (tgt := 28) hx hb dX10_placeOf_23 (by decide) (fun c1 => ?_) (fun c1 => ?_)
        · rw [if_neg c1] at h
          refine lv_iinc (pc := 28) (v := x2_1 + 1) (lv' := [(2, .int (x2_1 + 1)), (0, .ref (o + x0)), (1, .int x1)]) hx hb dX10_placeOf_28 hl (k := 0) rfl rfl (by decide) rfl (fun ls hl => ?_)
          refine lv_goto (pc := 31) (tgt := 2) hx hb dX10_placeOf_31 (by decide) ?_
          exact ih1 (x2_1 + 1, σ1) h _ _ ls hP hS (lv_sub hl [0, 1, 2] rfl)
        · rw [if_pos c1] at h
          refine lv_iload_n (pc := 26) hx hb dX10_placeOf_26 rfl (lv_at hl 0 rfl) ?_
          exact xreti (pc := 27) hx hb hr hlocks hP hK hE hS h dX10_placeOf_27
  exact L2_1 N (0, σ) h _ _ ls hP hS (lv_sub hl [0, 1, 2] rfl)
def F_X10_moveName_37 (N : Nat) (x0 : Nat) (x1 : Int32) (x2 : Int32) (x3 : Int32) (x4 : Int32) (again37 : (Int32 × zS) → Option (Int32 × zS)) : Int32 × zS → Option (Int32 × zS)
  | (x5, σ) =>
  if x5 = x2 then
    (zl (gR 10 6 x0 σ) fun v3 =>
    zl (sI 14 v3 x2 x1 σ) fun σ4 =>
    some (x3, σ4))
  else
    (if x5 < 0 then
      (zl (gR 10 6 x0 σ) fun v5 =>
      zl (sI 14 v5 x2 x1 σ) fun σ6 =>
      some (x3, σ6))
    else
      (if 10 ≤ x5 then
        (zl (gR 10 6 x0 σ) fun v7 =>
        zl (sI 14 v7 x2 x1 σ) fun σ8 =>
        some (x3, σ8))
      else
        (zl (gR 10 6 x0 σ) fun v9 =>
        zl (gR 10 6 x0 σ) fun v10 =>
        zl (aI 14 v10 (x5 + x4) σ) fun v11 =>
        zl (sI 14 v9 x5 v11 σ) fun σ12 =>
        again37 (x5 + x4, σ12))))
def J_X10_moveName_32 (N : Nat) (x0 : Nat) (x1 : Int32) (x2 : Int32) (x3 : Int32) (y0 : Int32) (σ : zS) : Option (Int32 × zS) :=
  zlp (F_X10_moveName_37 N x0 x1 x2 x3 y0) N (x3, σ)
def f_X10_moveName (N : Nat) (x0 : Nat) (x1 : Int32) (x2 : Int32) (σ : zS) : Option (Int32 × zS) :=
  zl (gC 10 x0) fun _ => zb (f_X10_placeOf N x0 x1 σ) fun v1 σ2 =>
  if v1 < 0 then
    (some ((-1), σ2))
  else
    (if x2 < 0 then
      (some ((-1), σ2))
    else
      (if x2 < 10 then
        (if x2 ≤ v1 then
          (J_X10_moveName_32 N x0 x1 x2 v1 (-1) σ2)
        else
          (J_X10_moveName_32 N x0 x1 x2 v1 1 σ2))
      else
        (some ((-1), σ2))))
set_option maxHeartbeats 4000000 in
set_option maxRecDepth 100000 in
theorem c_X10_moveName (l : Launch) (D : va_G) (c : zC) (o : Nat) (g : zEp) (N : Nat) {x0 : Nat} {x1 : Int32} {x2 : Int32} {σ : zS} {ρ : Int32 × zS} (h : f_X10_moveName N x0 x1 x2 σ = some ρ) : Met l yX10_moveName zs_X10_moveName (zr 4) (va_Pc [.ref (o + x0), .int x1, .int x2] (zG D c o g σ)) (zQi D c o g ρ) 0 0 (zA o) := by
  refine zMetG (by decide) (Nat.le_of_ble_eq_true rfl) ?_
  intro p e s m below meth cd ⟨hx, hb, hr, hml, hown, hts, hlocks⟩ hP hK hE ls hl
  have hS : va_S (zA o) s.heap s.heap [] := va_S.rf
  have hl : lv_has ls 6 [(0, .ref (o + x0)), (1, .int x1), (2, .int x2)] := hl
  rw [f_X10_moveName.eq_1] at h
  refine lv_aload_n (pc := 0) hx hb dX10_moveName_0 rfl (lv_at hl 0 rfl) ?_
  refine lv_iload_n (pc := 1) hx hb dX10_moveName_1 rfl (lv_at hl 1 rfl) ?_
  obtain ⟨_, hg, h⟩ := zl_some h
  obtain ⟨v1, σ2, hv, h⟩ := zb_some h
  refine xcallVi (pc := 2) (As := [.int x1]) (rest := []) ⟨hx, hb, hml, hown, hts⟩ (c_X10_placeOf l D c o g N hv) zc10 zV_X10_54 rfl zd_X10_placeOf ⟨Nat.le_of_ble_eq_true rfl, Nat.le_of_ble_eq_true rfl⟩ hK hP hE hS hg hl.1 rfl (Nat.le_of_ble_eq_true rfl) ⟨Nat.zero_le _, Nat.zero_le _⟩ dX10_moveName_2 (fun H locs hP hS => ?_)
  refine lv_istore_n (pc := 5) (lv' := [(3, .int v1), (0, .ref (o + x0)), (1, .int x1), (2, .int x2)]) hx hb dX10_moveName_5 rfl hl (by decide) rfl (fun ls hl => ?_)
  refine lv_iload_n (pc := 6) hx hb dX10_moveName_6 rfl (lv_at hl 0 rfl) ?_
  refine lv_if_lt (pc := 7) (tgt := 20) hx hb dX10_moveName_7 (by decide) (fun c1 => ?_) (fun c1 => ?_)
  · rw [if_pos c1] at h
    refine lv_iconst (pc := 20) (v := (-1)) hx hb dX10_moveName_20 (by decide) ?_
    exact xreti (pc := 21) hx hb hr hlocks hP hK hE hS h dX10_moveName_21
  · rw [if_neg c1] at h
    refine lv_iload_n (pc := 10) hx hb dX10_moveName_10 rfl (lv_at hl 3 rfl) ?_
    refine lv_if_lt (pc := 11) (tgt := 20) hx hb dX10_moveName_11 (by decide) (fun c1 => ?_) (fun c1 => ?_)
    · rw [if_pos c1] at h
      refine lv_iconst (pc := 20) (v := (-1)) hx hb dX10_moveName_20 (by decide) ?_
      exact xreti (pc := 21) hx hb hr hlocks hP hK hE hS h dX10_moveName_21
    · rw [if_neg c1] at h
      refine lv_iload_n (pc := 14) hx hb dX10_moveName_14 rfl (lv_at hl 3 rfl) ?_
      refine lv_bipush (pc := 15) (v := 10) hx hb dX10_moveName_15 (by decide) ?_
      refine lv_icmp_lt (pc := 17) (tgt := 22) hx hb dX10_moveName_17 (by decide) (fun c1 => ?_) (fun c1 => ?_)
      · rw [if_pos c1] at h
        refine lv_iload_n (pc := 22) hx hb dX10_moveName_22 rfl (lv_at hl 0 rfl) ?_
        refine lv_iload_n (pc := 23) hx hb dX10_moveName_23 rfl (lv_at hl 3 rfl) ?_
        have hj32_3 : ∀ (y0_3 : Int32) (σ3 : zS), J_X10_moveName_32 N x0 x1 x2 v1 y0_3 σ3 = some ρ → ∀ (H : Heap) (locs : List Loc) (ls : Array Slot), zP D c o (zabs o σ3) H → va_S (zA o) s.heap H locs → lv_has ls 6 [(0, .ref (o + x0)), (1, .int x1), (2, .int x2), (3, .int v1)] → W p l e (zr 4) s m (([.ref (o + x0), .int x1, .int x2] : List Value).toArray) below meth cd H locs 0 0 (MQ below (zQi D c o g ρ) (([.ref (o + x0), .int x1, .int x2] : List Value).toArray) s 0 0 (zA o)) (F0 m 32 ls [.int y0_3]) := by
          intro y0_3 σ3 h H locs ls hP hS hl
          rw [J_X10_moveName_32.eq_1] at h
          refine lv_istore (pc := 32) (lv' := [(4, .int y0_3), (0, .ref (o + x0)), (1, .int x1), (2, .int x2), (3, .int v1)]) hx hb dX10_moveName_32 hl (by decide) rfl (fun ls hl => ?_)
          refine lv_iload_n (pc := 34) hx hb dX10_moveName_34 rfl (lv_at hl 4 rfl) ?_
          refine lv_istore (pc := 35) (lv' := [(5, .int v1), (4, .int y0_3), (0, .ref (o + x0)), (1, .int x1), (2, .int x2), (3, .int v1)]) hx hb dX10_moveName_35 hl (by decide) rfl (fun ls hl => ?_)
          have L37_4 : ∀ (n : Nat) (t : Int32 × zS), zlp (F_X10_moveName_37 N x0 x1 x2 v1 y0_3) n t = some ρ → ∀ (H : Heap) (locs : List Loc) (ls : Array Slot), zP D c o (zabs o (t.2)) H → va_S (zA o) s.heap H locs → lv_has ls 6 [(5, .int (t.1)), (0, .ref (o + x0)), (1, .int x1), (2, .int x2), (3, .int v1), (4, .int y0_3)] → W p l e (zr 4) s m (([.ref (o + x0), .int x1, .int x2] : List Value).toArray) below meth cd H locs 0 0 (MQ below (zQi D c o g ρ) (([.ref (o + x0), .int x1, .int x2] : List Value).toArray) s 0 0 (zA o)) (F0 m 37 ls []) := by
            refine zlp_ind (fun ag4 ih4 t h H locs ls hP hS hl => ?_)
            obtain ⟨x5_4, σ4⟩ := t
            have hP : zP D c o (zabs o σ4) H := hP
            have hl : lv_has ls 6 [(5, .int x5_4), (0, .ref (o + x0)), (1, .int x1), (2, .int x2), (3, .int v1), (4, .int y0_3)] := hl
            rw [F_X10_moveName_37.eq_1] at h
            show W p l e (zr 4) s m (([.ref (o + x0), .int x1, .int x2] : List Value).toArray) below meth cd H locs 0 0 (MQ below (zQi D c o g ρ) (([.ref (o + x0), .int x1, .int x2] : List Value).toArray) s 0 0 (zA o)) (F0 m 37 ls [])
            refine lv_iload (pc := 37) hx hb dX10_moveName_37 (lv_at hl 0 rfl) ?_
            refine lv_iload_n (pc := 39) hx hb dX10_moveName_39 rfl (lv_at hl 3 rfl) ?_
            refine lv_icmp_eq (pc := 40) (tgt := 82) hx hb dX10_moveName_40 (by decide) (fun c1 => ?_) (fun c1 => ?_)
            · rw [if_pos c1] at h
              refine lv_aload_n (pc := 82) hx hb dX10_moveName_82 rfl (lv_at hl 1 rfl) ?_
              obtain ⟨v5, hv, h⟩ := zl_some h
              refine xgR (pc := 83) (j := 6) zc10 hx hb hts hown hK hP hv rfl zf_X10_31 dX10_moveName_83 ?_
              refine lv_iload_n (pc := 86) hx hb dX10_moveName_86 rfl (lv_at hl 3 rfl) ?_
              refine lv_iload_n (pc := 87) hx hb dX10_moveName_87 rfl (lv_at hl 2 rfl) ?_
              obtain ⟨σ6, hv, h⟩ := zl_some h
              refine xsI (pc := 88) hx hb hK hP hS hv dX10_moveName_88 (fun H locs hP hS => ?_)
              refine lv_iload_n (pc := 89) hx hb dX10_moveName_89 rfl (lv_at hl 4 rfl) ?_
              exact xreti (pc := 90) hx hb hr hlocks hP hK hE hS h dX10_moveName_90
            · rw [if_neg c1] at h
              refine lv_iload (pc := 43) hx hb dX10_moveName_43 (lv_at hl 0 rfl) ?_
              refine lv_if_lt (pc := 45) (tgt := 82) hx hb dX10_moveName_45 (by decide) (fun c1 => ?_) (fun c1 => ?_)
              · rw [if_pos c1] at h
                refine lv_aload_n (pc := 82) hx hb dX10_moveName_82 rfl (lv_at hl 1 rfl) ?_
                obtain ⟨v7, hv, h⟩ := zl_some h
                refine xgR (pc := 83) (j := 6) zc10 hx hb hts hown hK hP hv rfl zf_X10_31 dX10_moveName_83 ?_
                refine lv_iload_n (pc := 86) hx hb dX10_moveName_86 rfl (lv_at hl 3 rfl) ?_
                refine lv_iload_n (pc := 87) hx hb dX10_moveName_87 rfl (lv_at hl 2 rfl) ?_
                obtain ⟨σ8, hv, h⟩ := zl_some h
                refine xsI (pc := 88) hx hb hK hP hS hv dX10_moveName_88 (fun H locs hP hS => ?_)
                refine lv_iload_n (pc := 89) hx hb dX10_moveName_89 rfl (lv_at hl 4 rfl) ?_
                exact xreti (pc := 90) hx hb hr hlocks hP hK hE hS h dX10_moveName_90
              · rw [if_neg c1] at h
                refine lv_iload (pc := 48) hx hb dX10_moveName_48 (lv_at hl 0 rfl) ?_
                refine lv_bipush (pc := 50) (v := 10) hx hb dX10_moveName_50 (by decide) ?_
                refine lv_icmp_ge (pc := 52) (tgt := 82) hx hb dX10_moveName_52 (by decide) (fun c1 => ?_) (fun c1 => ?_)
                · rw [if_pos c1] at h
                  refine lv_aload_n (pc := 82) hx hb dX10_moveName_82 rfl (lv_at hl 1 rfl) ?_
                  obtain ⟨v9, hv, h⟩ := zl_some h
                  refine xgR (pc := 83) (j := 6) zc10 hx hb hts hown hK hP hv rfl zf_X10_31 dX10_moveName_83 ?_
                  refine lv_iload_n (pc := 86) hx hb dX10_moveName_86 rfl (lv_at hl 3 rfl) ?_
                  refine lv_iload_n (pc := 87) hx hb dX10_moveName_87 rfl (lv_at hl 2 rfl) ?_
                  obtain ⟨σ10, hv, h⟩ := zl_some h
                  refine xsI (pc := 88) hx hb hK hP hS hv dX10_moveName_88 (fun H locs hP hS => ?_)
                  refine lv_iload_n (pc := 89) hx hb dX10_moveName_89 rfl (lv_at hl 4 rfl) ?_
                  exact xreti (pc := 90) hx hb hr hlocks hP hK hE hS h dX10_moveName_90
                · rw [if_neg c1] at h
                  refine lv_aload_n (pc := 55) hx hb dX10_moveName_55 rfl (lv_at hl 1 rfl) ?_
                  obtain ⟨v11, hv, h⟩ := zl_some h
                  refine xgR (pc := 56) (j := 6) zc10 hx hb hts hown hK hP hv rfl zf_X10_31 dX10_moveName_56 ?_
                  refine lv_iload (pc := 59) hx hb dX10_moveName_59 (lv_at hl 0 rfl) ?_
                  refine lv_aload_n (pc := 61) hx hb dX10_moveName_61 rfl (lv_at hl 1 rfl) ?_
                  obtain ⟨v12, hv, h⟩ := zl_some h
                  refine xgR (pc := 62) (j := 6) zc10 hx hb hts hown hK hP hv rfl zf_X10_31 dX10_moveName_62 ?_
                  refine lv_iload (pc := 65) hx hb dX10_moveName_65 (lv_at hl 0 rfl) ?_
                  refine lv_iload (pc := 67) hx hb dX10_moveName_67 (lv_at hl 5 rfl) ?_
                  refine lv_iadd (pc := 69) hx hb dX10_moveName_69 ?_
                  obtain ⟨v13, hv, h⟩ := zl_some h
                  refine xaI (pc := 70) hx hb hK hP hv dX10_moveName_70 ?_
                  obtain ⟨σ14, hv, h⟩ := zl_some h
                  refine xsI (pc := 71) hx hb hK hP hS hv dX10_moveName_71 (fun H locs hP hS => ?_)
                  refine lv_iload (pc := 72) hx hb dX10_moveName_72 (lv_at hl 0 rfl) ?_
                  refine lv_iload (pc := 74) hx hb dX10_moveName_74 (lv_at hl 5 rfl) ?_
                  refine lv_iadd (pc := 76) hx hb dX10_moveName_76 ?_
                  refine lv_istore (pc := 77) (lv' := [(5, .int (x5_4 + y0_3)), (0, .ref (o + x0)), (1, .int x1), (2, .int x2), (3, .int v1), (4, .int y0_3)]) hx hb dX10_moveName_77 hl (by decide) rfl (fun ls hl => ?_)
                  refine lv_goto (pc := 79) (tgt := 37) hx hb dX10_moveName_79 (by decide) ?_
                  exact ih4 (x5_4 + y0_3, σ14) h _ _ ls hP hS (lv_sub hl [0, 1, 2, 3, 4, 5] rfl)
          exact L37_4 N (v1, σ3) h _ _ ls hP hS (lv_sub hl [0, 2, 3, 4, 5, 1] rfl)
        refine lv_icmp_ge (pc := 24) (tgt := 31) hx hb dX10_moveName_24 (by decide) (fun c1 => ?_) (fun c1 => ?_)
        · rw [if_pos c1] at h
          refine lv_iconst (pc := 31) (v := (-1)) hx hb dX10_moveName_31 (by decide) ?_
          exact hj32_3 ((-1)) σ2 h _ _ ls hP hS (lv_sub hl [1, 2, 3, 0] rfl)
        · rw [if_neg c1] at h
          refine lv_iconst (pc := 27) (v := 1) hx hb dX10_moveName_27 (by decide) ?_
          refine lv_goto (pc := 28) (tgt := 32) hx hb dX10_moveName_28 (by decide) ?_
          exact hj32_3 (1) σ2 h _ _ ls hP hS (lv_sub hl [1, 2, 3, 0] rfl)
      · rw [if_neg c1] at h
        refine lv_iconst (pc := 20) (v := (-1)) hx hb dX10_moveName_20 (by decide) ?_
        exact xreti (pc := 21) hx hb hr hlocks hP hK hE hS h dX10_moveName_21
def F_X3_siftAll_32 (N : Nat) (x1 : Nat) (x2 : Nat) (x3 : Nat) (x5 : Int32) (again6 : (Int32 × Int32 × zS) → Option (Int32 × zS)) (again32 : (Int32 × Int32 × Int32 × zS) → Option (Int32 × zS)) : Int32 × Int32 × Int32 × zS → Option (Int32 × zS)
  | (x4, x6, x7, σ) =>
  zl (gI 10 0 x1 σ) fun v2 =>
  if v2 ≤ x7 then
    (zl (gC 10 x1) fun _ => zb (f_X10_moveName N x1 x5 x6 σ) fun v3 σ4 =>
    again6 (x4, x5 + 1, σ4))
  else
    (if 10 ≤ x7 then
      (zl (gC 10 x1) fun _ => zb (f_X10_moveName N x1 x5 x6 σ) fun v5 σ6 =>
      again6 (x4, x5 + 1, σ6))
    else
      (zl (gC 10 x1) fun _ => zb (f_X10_moveName N x1 x5 x7 σ) fun v7 σ8 =>
      zl (gC 1 x3) fun _ => zb (f_X1_tallyOf N x3 x1 x2 σ8) fun v9 σ10 =>
      if x4 ≤ v9 then
        (again32 (x4, x6, x7 + 1, σ10))
      else
        (again32 (v9, x7, x7 + 1, σ10))))
def F_X3_siftAll_6 (N : Nat) (x1 : Nat) (x2 : Nat) (x3 : Nat) (again6 : (Int32 × Int32 × zS) → Option (Int32 × zS)) : Int32 × Int32 × zS → Option (Int32 × zS)
  | (x4, x5, σ) =>
  zl (gI 10 0 x1 σ) fun v1 =>
  if v1 ≤ x5 then
    (some (x4, σ))
  else
    (if 10 ≤ x5 then
      (some (x4, σ))
    else
      (zlp (F_X3_siftAll_32 N x1 x2 x3 x5 again6) N (1000000, 0, 0, σ)))
def f_X3_siftAll (N : Nat) (x0 : Nat) (x1 : Nat) (x2 : Nat) (x3 : Nat) (σ : zS) : Option (Int32 × zS) :=
  zlp (F_X3_siftAll_6 N x1 x2 x3) N (0, 0, σ)
set_option maxHeartbeats 4000000 in
set_option maxRecDepth 100000 in
theorem c_X3_siftAll (l : Launch) (D : va_G) (c : zC) (o : Nat) (g : zEp) (N : Nat) {x0 : Nat} {x1 : Nat} {x2 : Nat} {x3 : Nat} {σ : zS} {ρ : Int32 × zS} (h : f_X3_siftAll N x0 x1 x2 x3 σ = some ρ) : Met l yX3_siftAll zs_X3_siftAll (zr 10) (va_Pc [.ref (o + x0), .ref (o + x1), .ref (o + x2), .ref (o + x3)] (zG D c o g σ)) (zQi D c o g ρ) 0 0 (zA o) := by
  refine zMetG (by decide) (Nat.le_of_ble_eq_true rfl) ?_
  intro p e s m below meth cd ⟨hx, hb, hr, hml, hown, hts, hlocks⟩ hP hK hE ls hl
  have hS : va_S (zA o) s.heap s.heap [] := va_S.rf
  have hl : lv_has ls 9 [(0, .ref (o + x0)), (1, .ref (o + x1)), (2, .ref (o + x2)), (3, .ref (o + x3))] := hl
  rw [f_X3_siftAll.eq_1] at h
  refine lv_iconst (pc := 0) (v := 0) hx hb dX3_siftAll_0 (by decide) ?_
  refine lv_istore (pc := 1) (lv' := [(4, .int 0), (0, .ref (o + x0)), (1, .ref (o + x1)), (2, .ref (o + x2)), (3, .ref (o + x3))]) hx hb dX3_siftAll_1 hl (by decide) rfl (fun ls hl => ?_)
  refine lv_iconst (pc := 3) (v := 0) hx hb dX3_siftAll_3 (by decide) ?_
  refine lv_istore (pc := 4) (lv' := [(5, .int 0), (4, .int 0), (0, .ref (o + x0)), (1, .ref (o + x1)), (2, .ref (o + x2)), (3, .ref (o + x3))]) hx hb dX3_siftAll_4 hl (by decide) rfl (fun ls hl => ?_)
  have L6_1 : ∀ (n : Nat) (t : Int32 × Int32 × zS), zlp (F_X3_siftAll_6 N x1 x2 x3) n t = some ρ → ∀ (H : Heap) (locs : List Loc) (ls : Array Slot), zP D c o (zabs o (t.2.2)) H → va_S (zA o) s.heap H locs → lv_has ls 9 [(4, .int (t.1)), (5, .int (t.2.1)), (1, .ref (o + x1)), (2, .ref (o + x2)), (3, .ref (o + x3))] → W p l e (zr 10) s m (([.ref (o + x0), .ref (o + x1), .ref (o + x2), .ref (o + x3)] : List Value).toArray) below meth cd H locs 0 0 (MQ below (zQi D c o g ρ) (([.ref (o + x0), .ref (o + x1), .ref (o + x2), .ref (o + x3)] : List Value).toArray) s 0 0 (zA o)) (F0 m 6 ls []) := by
    refine zlp_ind (fun ag1 ih1 t h H locs ls hP hS hl => ?_)
    obtain ⟨x4_1, x5_1, σ1⟩ := t
    have hP : zP D c o (zabs o σ1) H := hP
    have hl : lv_has ls 9 [(4, .int x4_1), (5, .int x5_1), (1, .ref (o + x1)), (2, .ref (o + x2)), (3, .ref (o + x3))] := hl
    rw [F_X3_siftAll_6.eq_1] at h
    show W p l e (zr 10) s m (([.ref (o + x0), .ref (o + x1), .ref (o + x2), .ref (o + x3)] : List Value).toArray) below meth cd H locs 0 0 (MQ below (zQi D c o g ρ) (([.ref (o + x0), .ref (o + x1), .ref (o + x2), .ref (o + x3)] : List Value).toArray) s 0 0 (zA o)) (F0 m 6 ls [])
    refine lv_iload (pc := 6) hx hb dX3_siftAll_6 (lv_at hl 1 rfl) ?_
    refine lv_aload_n (pc := 8) hx hb dX3_siftAll_8 rfl (lv_at hl 2 rfl) ?_
    obtain ⟨v2, hv, h⟩ := zl_some h
    refine xgI (pc := 9) (j := 0) zc10 hx hb hts hown hK hP hv rfl zf_X3_53 dX3_siftAll_9 ?_
    refine lv_icmp_ge (pc := 12) (tgt := 101) hx hb dX3_siftAll_12 (by decide) (fun c1 => ?_) (fun c1 => ?_)
    · rw [if_pos c1] at h
      refine lv_iload (pc := 101) hx hb dX3_siftAll_101 (lv_at hl 0 rfl) ?_
      exact xreti (pc := 103) hx hb hr hlocks hP hK hE hS h dX3_siftAll_103
    · rw [if_neg c1] at h
      refine lv_iload (pc := 15) hx hb dX3_siftAll_15 (lv_at hl 1 rfl) ?_
      refine lv_bipush (pc := 17) (v := 10) hx hb dX3_siftAll_17 (by decide) ?_
      refine lv_icmp_ge (pc := 19) (tgt := 101) hx hb dX3_siftAll_19 (by decide) (fun c1 => ?_) (fun c1 => ?_)
      · rw [if_pos c1] at h
        refine lv_iload (pc := 101) hx hb dX3_siftAll_101 (lv_at hl 0 rfl) ?_
        exact xreti (pc := 103) hx hb hr hlocks hP hK hE hS h dX3_siftAll_103
      · rw [if_neg c1] at h
        refine lv_ldc (pc := 22) hx hb hown (hts _ zk_X3_40) dX3_siftAll_22 ?_
        refine lv_istore (pc := 24) (lv' := [(4, .int 1000000), (5, .int x5_1), (1, .ref (o + x1)), (2, .ref (o + x2)), (3, .ref (o + x3))]) hx hb dX3_siftAll_24 hl (by decide) rfl (fun ls hl => ?_)
        refine lv_iconst (pc := 26) (v := 0) hx hb dX3_siftAll_26 (by decide) ?_
        refine lv_istore (pc := 27) (lv' := [(6, .int 0), (4, .int 1000000), (5, .int x5_1), (1, .ref (o + x1)), (2, .ref (o + x2)), (3, .ref (o + x3))]) hx hb dX3_siftAll_27 hl (by decide) rfl (fun ls hl => ?_)
        refine lv_iconst (pc := 29) (v := 0) hx hb dX3_siftAll_29 (by decide) ?_
        refine lv_istore (pc := 30) (lv' := [(7, .int 0), (6, .int 0), (4, .int 1000000), (5, .int x5_1), (1, .ref (o + x1)), (2, .ref (o + x2)), (3, .ref (o + x3))]) hx hb dX3_siftAll_30 hl (by decide) rfl (fun ls hl => ?_)
        have L32_3 : ∀ (n : Nat) (t : Int32 × Int32 × Int32 × zS), zlp (F_X3_siftAll_32 N x1 x2 x3 x5_1 ag1) n t = some ρ → ∀ (H : Heap) (locs : List Loc) (ls : Array Slot), zP D c o (zabs o (t.2.2.2)) H → va_S (zA o) s.heap H locs → lv_has ls 9 [(4, .int (t.1)), (6, .int (t.2.1)), (7, .int (t.2.2.1)), (1, .ref (o + x1)), (2, .ref (o + x2)), (3, .ref (o + x3)), (5, .int x5_1)] → W p l e (zr 10) s m (([.ref (o + x0), .ref (o + x1), .ref (o + x2), .ref (o + x3)] : List Value).toArray) below meth cd H locs 0 0 (MQ below (zQi D c o g ρ) (([.ref (o + x0), .ref (o + x1), .ref (o + x2), .ref (o + x3)] : List Value).toArray) s 0 0 (zA o)) (F0 m 32 ls []) := by
          refine zlp_ind (fun ag3 ih3 t h H locs ls hP hS hl => ?_)
          obtain ⟨x4_3, x6_3, x7_3, σ3⟩ := t
          have hP : zP D c o (zabs o σ3) H := hP
          have hl : lv_has ls 9 [(4, .int x4_3), (6, .int x6_3), (7, .int x7_3), (1, .ref (o + x1)), (2, .ref (o + x2)), (3, .ref (o + x3)), (5, .int x5_1)] := hl
          rw [F_X3_siftAll_32.eq_1] at h
          show W p l e (zr 10) s m (([.ref (o + x0), .ref (o + x1), .ref (o + x2), .ref (o + x3)] : List Value).toArray) below meth cd H locs 0 0 (MQ below (zQi D c o g ρ) (([.ref (o + x0), .ref (o + x1), .ref (o + x2), .ref (o + x3)] : List Value).toArray) s 0 0 (zA o)) (F0 m 32 ls [])
          refine lv_iload (pc := 32) hx hb dX3_siftAll_32 (lv_at hl 2 rfl) ?_
          refine lv_aload_n (pc := 34) hx hb dX3_siftAll_34 rfl (lv_at hl 3 rfl) ?_
          obtain ⟨v4, hv, h⟩ := zl_some h
          refine xgI (pc := 35) (j := 0) zc10 hx hb hts hown hK hP hv rfl zf_X3_53 dX3_siftAll_35 ?_
          refine lv_icmp_ge (pc := 38) (tgt := 86) hx hb dX3_siftAll_38 (by decide) (fun c1 => ?_) (fun c1 => ?_)
          · rw [if_pos c1] at h
            refine lv_aload_n (pc := 86) hx hb dX3_siftAll_86 rfl (lv_at hl 3 rfl) ?_
            refine lv_iload (pc := 87) hx hb dX3_siftAll_87 (lv_at hl 6 rfl) ?_
            refine lv_iload (pc := 89) hx hb dX3_siftAll_89 (lv_at hl 1 rfl) ?_
            obtain ⟨_, hg, h⟩ := zl_some h
            obtain ⟨v5, σ6, hv, h⟩ := zb_some h
            refine xcallVi (pc := 91) (As := [.int x5_1, .int x6_3]) (rest := []) ⟨hx, hb, hml, hown, hts⟩ (c_X10_moveName l D c o g N hv) zc10 zV_X3_59 rfl zd_X10_moveName ⟨Nat.le_of_ble_eq_true rfl, Nat.le_of_ble_eq_true rfl⟩ hK hP hE hS hg hl.1 rfl (Nat.le_of_ble_eq_true rfl) ⟨Nat.zero_le _, Nat.zero_le _⟩ dX3_siftAll_91 (fun H locs hP hS => ?_)
            refine lv_pop (pc := 94) hx hb dX3_siftAll_94 rfl ?_
            refine lv_iinc (pc := 95) (v := x5_1 + 1) (lv' := [(5, .int (x5_1 + 1)), (4, .int x4_3), (6, .int x6_3), (7, .int x7_3), (1, .ref (o + x1)), (2, .ref (o + x2)), (3, .ref (o + x3))]) hx hb dX3_siftAll_95 hl (k := 6) rfl rfl (by decide) rfl (fun ls hl => ?_)
            refine lv_goto (pc := 98) (tgt := 6) hx hb dX3_siftAll_98 (by decide) ?_
            exact ih1 (x4_3, x5_1 + 1, σ6) h _ _ ls hP hS (lv_sub hl [1, 0, 4, 5, 6] rfl)
          · rw [if_neg c1] at h
            refine lv_iload (pc := 41) hx hb dX3_siftAll_41 (lv_at hl 2 rfl) ?_
            refine lv_bipush (pc := 43) (v := 10) hx hb dX3_siftAll_43 (by decide) ?_
            refine lv_icmp_ge (pc := 45) (tgt := 86) hx hb dX3_siftAll_45 (by decide) (fun c1 => ?_) (fun c1 => ?_)
            · rw [if_pos c1] at h
              refine lv_aload_n (pc := 86) hx hb dX3_siftAll_86 rfl (lv_at hl 3 rfl) ?_
              refine lv_iload (pc := 87) hx hb dX3_siftAll_87 (lv_at hl 6 rfl) ?_
              refine lv_iload (pc := 89) hx hb dX3_siftAll_89 (lv_at hl 1 rfl) ?_
              obtain ⟨_, hg, h⟩ := zl_some h
              obtain ⟨v7, σ8, hv, h⟩ := zb_some h
              refine xcallVi (pc := 91) (As := [.int x5_1, .int x6_3]) (rest := []) ⟨hx, hb, hml, hown, hts⟩ (c_X10_moveName l D c o g N hv) zc10 zV_X3_59 rfl zd_X10_moveName ⟨Nat.le_of_ble_eq_true rfl, Nat.le_of_ble_eq_true rfl⟩ hK hP hE hS hg hl.1 rfl (Nat.le_of_ble_eq_true rfl) ⟨Nat.zero_le _, Nat.zero_le _⟩ dX3_siftAll_91 (fun H locs hP hS => ?_)
              refine lv_pop (pc := 94) hx hb dX3_siftAll_94 rfl ?_
              refine lv_iinc (pc := 95) (v := x5_1 + 1) (lv' := [(5, .int (x5_1 + 1)), (4, .int x4_3), (6, .int x6_3), (7, .int x7_3), (1, .ref (o + x1)), (2, .ref (o + x2)), (3, .ref (o + x3))]) hx hb dX3_siftAll_95 hl (k := 6) rfl rfl (by decide) rfl (fun ls hl => ?_)
              refine lv_goto (pc := 98) (tgt := 6) hx hb dX3_siftAll_98 (by decide) ?_
              exact ih1 (x4_3, x5_1 + 1, σ8) h _ _ ls hP hS (lv_sub hl [1, 0, 4, 5, 6] rfl)
            · rw [if_neg c1] at h
              refine lv_aload_n (pc := 48) hx hb dX3_siftAll_48 rfl (lv_at hl 3 rfl) ?_
              refine lv_iload (pc := 49) hx hb dX3_siftAll_49 (lv_at hl 6 rfl) ?_
              refine lv_iload (pc := 51) hx hb dX3_siftAll_51 (lv_at hl 2 rfl) ?_
              obtain ⟨_, hg, h⟩ := zl_some h
              obtain ⟨v9, σ10, hv, h⟩ := zb_some h
              refine xcallVi (pc := 53) (As := [.int x5_1, .int x7_3]) (rest := []) ⟨hx, hb, hml, hown, hts⟩ (c_X10_moveName l D c o g N hv) zc10 zV_X3_59 rfl zd_X10_moveName ⟨Nat.le_of_ble_eq_true rfl, Nat.le_of_ble_eq_true rfl⟩ hK hP hE hS hg hl.1 rfl (Nat.le_of_ble_eq_true rfl) ⟨Nat.zero_le _, Nat.zero_le _⟩ dX3_siftAll_53 (fun H locs hP hS => ?_)
              refine lv_pop (pc := 56) hx hb dX3_siftAll_56 rfl ?_
              refine lv_aload_n (pc := 57) hx hb dX3_siftAll_57 rfl (lv_at hl 5 rfl) ?_
              refine lv_aload_n (pc := 58) hx hb dX3_siftAll_58 rfl (lv_at hl 3 rfl) ?_
              refine lv_aload_n (pc := 59) hx hb dX3_siftAll_59 rfl (lv_at hl 4 rfl) ?_
              obtain ⟨_, hg, h⟩ := zl_some h
              obtain ⟨v11, σ12, hv, h⟩ := zb_some h
              refine xcallVi (pc := 60) (As := [.ref (o + x1), .ref (o + x2)]) (rest := []) ⟨hx, hb, hml, hown, hts⟩ (c_X1_tallyOf l D c o g N hv) zc1 zV_X3_62 rfl zd_X1_tallyOf ⟨Nat.le_of_ble_eq_true rfl, Nat.le_of_ble_eq_true rfl⟩ hK hP hE hS hg hl.1 rfl (Nat.le_of_ble_eq_true rfl) ⟨Nat.zero_le _, Nat.zero_le _⟩ dX3_siftAll_60 (fun H locs hP hS => ?_)
              refine lv_istore (pc := 63) (lv' := [(8, .int v11), (4, .int x4_3), (6, .int x6_3), (7, .int x7_3), (1, .ref (o + x1)), (2, .ref (o + x2)), (3, .ref (o + x3)), (5, .int x5_1)]) hx hb dX3_siftAll_63 hl (by decide) rfl (fun ls hl => ?_)
              refine lv_iload (pc := 65) hx hb dX3_siftAll_65 (lv_at hl 0 rfl) ?_
              refine lv_iload (pc := 67) hx hb dX3_siftAll_67 (lv_at hl 1 rfl) ?_
              refine lv_icmp_ge (pc := 69) (tgt := 80) hx hb dX3_siftAll_69 (by decide) (fun c1 => ?_) (fun c1 => ?_)
              · rw [if_pos c1] at h
                refine lv_iinc (pc := 80) (v := x7_3 + 1) (lv' := [(7, .int (x7_3 + 1)), (8, .int v11), (4, .int x4_3), (6, .int x6_3), (1, .ref (o + x1)), (2, .ref (o + x2)), (3, .ref (o + x3)), (5, .int x5_1)]) hx hb dX3_siftAll_80 hl (k := 3) rfl rfl (by decide) rfl (fun ls hl => ?_)
                refine lv_goto (pc := 83) (tgt := 32) hx hb dX3_siftAll_83 (by decide) ?_
                exact ih3 (x4_3, x6_3, x7_3 + 1, σ12) h _ _ ls hP hS (lv_sub hl [2, 3, 0, 4, 5, 6, 7] rfl)
              · rw [if_neg c1] at h
                refine lv_iload (pc := 72) hx hb dX3_siftAll_72 (lv_at hl 0 rfl) ?_
                refine lv_istore (pc := 74) (lv' := [(4, .int v11), (8, .int v11), (6, .int x6_3), (7, .int x7_3), (1, .ref (o + x1)), (2, .ref (o + x2)), (3, .ref (o + x3)), (5, .int x5_1)]) hx hb dX3_siftAll_74 hl (by decide) rfl (fun ls hl => ?_)
                refine lv_iload (pc := 76) hx hb dX3_siftAll_76 (lv_at hl 3 rfl) ?_
                refine lv_istore (pc := 78) (lv' := [(6, .int x7_3), (4, .int v11), (8, .int v11), (7, .int x7_3), (1, .ref (o + x1)), (2, .ref (o + x2)), (3, .ref (o + x3)), (5, .int x5_1)]) hx hb dX3_siftAll_78 hl (by decide) rfl (fun ls hl => ?_)
                refine lv_iinc (pc := 80) (v := x7_3 + 1) (lv' := [(7, .int (x7_3 + 1)), (6, .int x7_3), (4, .int v11), (8, .int v11), (1, .ref (o + x1)), (2, .ref (o + x2)), (3, .ref (o + x3)), (5, .int x5_1)]) hx hb dX3_siftAll_80 hl (k := 3) rfl rfl (by decide) rfl (fun ls hl => ?_)
                refine lv_goto (pc := 83) (tgt := 32) hx hb dX3_siftAll_83 (by decide) ?_
                exact ih3 (v11, x7_3, x7_3 + 1, σ12) h _ _ ls hP hS (lv_sub hl [2, 1, 0, 4, 5, 6, 7] rfl)
        exact L32_3 N (1000000, 0, 0, σ1) h _ _ ls hP hS (lv_sub hl [2, 1, 0, 4, 5, 6, 3] rfl)
  exact L6_1 N (0, 0, σ) h _ _ ls hP hS (lv_sub hl [1, 0, 3, 4, 5] rfl)
def F_X4_load_18 (N : Nat) (x0 : Nat) (x1 : Nat) (again18 : (Int32 × Int32 × zS) → Option (Unit × zS)) : Int32 × Int32 × zS → Option (Unit × zS)
  | (x2, x3, σ) =>
  if 12 ≤ x3 then
    (some ((), σ))
  else
    (if x2 < 0 then
      (some ((), σ))
    else
      (zl (gR 4 0 x0 σ) fun v5 =>
      zl (sI 14 v5 x3 x2 σ) fun σ6 =>
      zl (gI 4 1 x0 σ6) fun v7 =>
      zl (pI 4 1 x0 (v7 + 1) σ6) fun σ8 =>
      zl (gI 4 2 x0 σ8) fun v9 =>
      zl (pI 4 2 x0 (v9 ||| x2) σ8) fun σ10 =>
      zl (gC 2 x1) fun _ => zb (f_X2_firstFrom N x1 (x2 + 1) σ10) fun v11 σ12 =>
      again18 (v11, x3 + 1, σ12)))
def f_X4_load (N : Nat) (x0 : Nat) (x1 : Nat) (σ : zS) : Option (Unit × zS) :=
  zl (pI 4 1 x0 0 σ) fun σ1 =>
  zl (pI 4 2 x0 0 σ1) fun σ2 =>
  zl (gC 2 x1) fun _ => zb (f_X2_firstFrom N x1 0 σ2) fun v3 σ4 =>
  zlp (F_X4_load_18 N x0 x1) N (v3, 0, σ4)
set_option maxHeartbeats 4000000 in
set_option maxRecDepth 100000 in
theorem c_X4_load (l : Launch) (D : va_G) (c : zC) (o : Nat) (g : zEp) (N : Nat) {x0 : Nat} {x1 : Nat} {σ : zS} {ρ : Unit × zS} (h : f_X4_load N x0 x1 σ = some ρ) : Met l yX4_load zs_X4_load (zr 8) (va_Pc [.ref (o + x0), .ref (o + x1)] (zG D c o g σ)) (zQu D c o g ρ) 0 0 (zA o) := by
  refine zMetG (by decide) (Nat.le_of_ble_eq_true rfl) ?_
  intro p e s m below meth cd ⟨hx, hb, hr, hml, hown, hts, hlocks⟩ hP hK hE ls hl
  have hS : va_S (zA o) s.heap s.heap [] := va_S.rf
  have hl : lv_has ls 4 [(0, .ref (o + x0)), (1, .ref (o + x1))] := hl
  rw [f_X4_load.eq_1] at h
  refine lv_aload_n (pc := 0) hx hb dX4_load_0 rfl (lv_at hl 0 rfl) ?_
  refine lv_iconst (pc := 1) (v := 0) hx hb dX4_load_1 (by decide) ?_
  obtain ⟨σ1, hv, h⟩ := zl_some h
  refine xpI (pc := 2) (j := 1) zc4 hx hb hts hown hK hP hS hv rfl rfl rfl zf_X4_15 dX4_load_2 (fun H locs hP hS => ?_)
  refine lv_aload_n (pc := 5) hx hb dX4_load_5 rfl (lv_at hl 0 rfl) ?_
  refine lv_iconst (pc := 6) (v := 0) hx hb dX4_load_6 (by decide) ?_
  obtain ⟨σ2, hv, h⟩ := zl_some h
  refine xpI (pc := 7) (j := 2) zc4 hx hb hts hown hK hP hS hv rfl rfl rfl zf_X4_19 dX4_load_7 (fun H locs hP hS => ?_)
  refine lv_aload_n (pc := 10) hx hb dX4_load_10 rfl (lv_at hl 1 rfl) ?_
  refine lv_iconst (pc := 11) (v := 0) hx hb dX4_load_11 (by decide) ?_
  obtain ⟨_, hg, h⟩ := zl_some h
  obtain ⟨v3, σ4, hv, h⟩ := zb_some h
  refine xcallVi (pc := 12) (As := [.int 0]) (rest := []) ⟨hx, hb, hml, hown, hts⟩ (c_X2_firstFrom l D c o g N hv) zc2 zV_X4_22 rfl zd_X2_firstFrom ⟨Nat.le_of_ble_eq_true rfl, Nat.le_of_ble_eq_true rfl⟩ hK hP hE hS hg hl.1 rfl (Nat.le_of_ble_eq_true rfl) ⟨Nat.zero_le _, Nat.zero_le _⟩ dX4_load_12 (fun H locs hP hS => ?_)
  refine lv_istore_n (pc := 15) (lv' := [(2, .int v3), (0, .ref (o + x0)), (1, .ref (o + x1))]) hx hb dX4_load_15 rfl hl (by decide) rfl (fun ls hl => ?_)
  refine lv_iconst (pc := 16) (v := 0) hx hb dX4_load_16 (by decide) ?_
  refine lv_istore_n (pc := 17) (lv' := [(3, .int 0), (2, .int v3), (0, .ref (o + x0)), (1, .ref (o + x1))]) hx hb dX4_load_17 rfl hl (by decide) rfl (fun ls hl => ?_)
  have L18_5 : ∀ (n : Nat) (t : Int32 × Int32 × zS), zlp (F_X4_load_18 N x0 x1) n t = some ρ → ∀ (H : Heap) (locs : List Loc) (ls : Array Slot), zP D c o (zabs o (t.2.2)) H → va_S (zA o) s.heap H locs → lv_has ls 4 [(2, .int (t.1)), (3, .int (t.2.1)), (0, .ref (o + x0)), (1, .ref (o + x1))] → W p l e (zr 8) s m (([.ref (o + x0), .ref (o + x1)] : List Value).toArray) below meth cd H locs 0 0 (MQ below (zQu D c o g ρ) (([.ref (o + x0), .ref (o + x1)] : List Value).toArray) s 0 0 (zA o)) (F0 m 18 ls []) := by
    refine zlp_ind (fun ag5 ih5 t h H locs ls hP hS hl => ?_)
    obtain ⟨x2_5, x3_5, σ5⟩ := t
    have hP : zP D c o (zabs o σ5) H := hP
    have hl : lv_has ls 4 [(2, .int x2_5), (3, .int x3_5), (0, .ref (o + x0)), (1, .ref (o + x1))] := hl
    rw [F_X4_load_18.eq_1] at h
    show W p l e (zr 8) s m (([.ref (o + x0), .ref (o + x1)] : List Value).toArray) below meth cd H locs 0 0 (MQ below (zQu D c o g ρ) (([.ref (o + x0), .ref (o + x1)] : List Value).toArray) s 0 0 (zA o)) (F0 m 18 ls [])
    refine lv_iload_n (pc := 18) hx hb dX4_load_18 rfl (lv_at hl 1 rfl) ?_
    refine lv_bipush (pc := 19) (v := 12) hx hb dX4_load_19 (by decide) ?_
    refine lv_icmp_ge (pc := 21) (tgt := 69) hx hb dX4_load_21 (by decide) (fun c1 => ?_) (fun c1 => ?_)
    · rw [if_pos c1] at h
      exact xretv (pc := 69) hx hb hr hlocks hP hK hE hS h dX4_load_69
    · rw [if_neg c1] at h
      refine lv_iload_n (pc := 24) hx hb dX4_load_24 rfl (lv_at hl 0 rfl) ?_
      refine lv_if_lt (pc := 25) (tgt := 69) hx hb dX4_load_25 (by decide) (fun c1 => ?_) (fun c1 => ?_)
      · rw [if_pos c1] at h
        exact xretv (pc := 69) hx hb hr hlocks hP hK hE hS h dX4_load_69
      · rw [if_neg c1] at h
        refine lv_aload_n (pc := 28) hx hb dX4_load_28 rfl (lv_at hl 2 rfl) ?_
        obtain ⟨v6, hv, h⟩ := zl_some h
        refine xgR (pc := 29) (j := 0) zc4 hx hb hts hown hK hP hv rfl zf_X4_9 dX4_load_29 ?_
        refine lv_iload_n (pc := 32) hx hb dX4_load_32 rfl (lv_at hl 1 rfl) ?_
        refine lv_iload_n (pc := 33) hx hb dX4_load_33 rfl (lv_at hl 0 rfl) ?_
        obtain ⟨σ7, hv, h⟩ := zl_some h
        refine xsI (pc := 34) hx hb hK hP hS hv dX4_load_34 (fun H locs hP hS => ?_)
        refine lv_aload_n (pc := 35) hx hb dX4_load_35 rfl (lv_at hl 2 rfl) ?_
        refine lv_dup (pc := 36) hx hb dX4_load_36 rfl ?_
        obtain ⟨v8, hv, h⟩ := zl_some h
        refine xgI (pc := 37) (j := 1) zc4 hx hb hts hown hK hP hv rfl zf_X4_15 dX4_load_37 ?_
        refine lv_iconst (pc := 40) (v := 1) hx hb dX4_load_40 (by decide) ?_
        refine lv_iadd (pc := 41) hx hb dX4_load_41 ?_
        obtain ⟨σ9, hv, h⟩ := zl_some h
        refine xpI (pc := 42) (j := 1) zc4 hx hb hts hown hK hP hS hv rfl rfl rfl zf_X4_15 dX4_load_42 (fun H locs hP hS => ?_)
        refine lv_aload_n (pc := 45) hx hb dX4_load_45 rfl (lv_at hl 2 rfl) ?_
        refine lv_dup (pc := 46) hx hb dX4_load_46 rfl ?_
        obtain ⟨v10, hv, h⟩ := zl_some h
        refine xgI (pc := 47) (j := 2) zc4 hx hb hts hown hK hP hv rfl zf_X4_19 dX4_load_47 ?_
        refine lv_iload_n (pc := 50) hx hb dX4_load_50 rfl (lv_at hl 0 rfl) ?_
        refine lv_ior (pc := 51) hx hb dX4_load_51 ?_
        obtain ⟨σ11, hv, h⟩ := zl_some h
        refine xpI (pc := 52) (j := 2) zc4 hx hb hts hown hK hP hS hv rfl rfl rfl zf_X4_19 dX4_load_52 (fun H locs hP hS => ?_)
        refine lv_aload_n (pc := 55) hx hb dX4_load_55 rfl (lv_at hl 3 rfl) ?_
        refine lv_iload_n (pc := 56) hx hb dX4_load_56 rfl (lv_at hl 0 rfl) ?_
        refine lv_iconst (pc := 57) (v := 1) hx hb dX4_load_57 (by decide) ?_
        refine lv_iadd (pc := 58) hx hb dX4_load_58 ?_
        obtain ⟨_, hg, h⟩ := zl_some h
        obtain ⟨v12, σ13, hv, h⟩ := zb_some h
        refine xcallVi (pc := 59) (As := [.int (x2_5 + 1)]) (rest := []) ⟨hx, hb, hml, hown, hts⟩ (c_X2_firstFrom l D c o g N hv) zc2 zV_X4_22 rfl zd_X2_firstFrom ⟨Nat.le_of_ble_eq_true rfl, Nat.le_of_ble_eq_true rfl⟩ hK hP hE hS hg hl.1 rfl (Nat.le_of_ble_eq_true rfl) ⟨Nat.zero_le _, Nat.zero_le _⟩ dX4_load_59 (fun H locs hP hS => ?_)
        refine lv_istore_n (pc := 62) (lv' := [(2, .int v12), (3, .int x3_5), (0, .ref (o + x0)), (1, .ref (o + x1))]) hx hb dX4_load_62 rfl hl (by decide) rfl (fun ls hl => ?_)
        refine lv_iinc (pc := 63) (v := x3_5 + 1) (lv' := [(3, .int (x3_5 + 1)), (2, .int v12), (0, .ref (o + x0)), (1, .ref (o + x1))]) hx hb dX4_load_63 hl (k := 1) rfl rfl (by decide) rfl (fun ls hl => ?_)
        refine lv_goto (pc := 66) (tgt := 18) hx hb dX4_load_66 (by decide) ?_
        exact ih5 (v12, x3_5 + 1, σ13) h _ _ ls hP hS (lv_sub hl [1, 0, 2, 3] rfl)
  exact L18_5 N (v3, 0, σ4) h _ _ ls hP hS (lv_sub hl [1, 0, 2, 3] rfl)
def B_X4_fewestFrom (N : Nat) (r0 : Nat → Int32 → Int32 → Int32 → Int32 → zS → Option (Int32 × zS)) (x0 : Nat) (x1 : Int32) (x2 : Int32) (x3 : Int32) (x4 : Int32) (σ : zS) : Option (Int32 × zS) :=
  if x4 = x2 then
    (some (0, σ))
  else
    (if x3 < 0 then
      (some (13, σ))
    else
      (if x1 ≤ x3 then
        (some (13, σ))
      else
        (zl (aL 14 x0) fun v1 =>
        if x3 < v1 then
          (zb (r0 x0 x1 x2 (x3 + 1) x4 σ) fun v2 σ3 =>
          zl (aI 14 x0 x3 σ3) fun v4 =>
          zb (r0 x0 x1 x2 (x3 + 1) (x4 ||| v4) σ3) fun v5 σ6 =>
          some (zmin v2 (1 + v5), σ6))
        else
          (some (13, σ)))))
def G_X4_fewestFrom (N : Nat) : Nat → (Nat → Int32 → Int32 → Int32 → Int32 → zS → Option (Int32 × zS))
  | 0 => (fun _ _ _ _ _ _ => none)
  | dd + 1 => (B_X4_fewestFrom N ((G_X4_fewestFrom N dd)))
def f_X4_fewestFrom (N dd : Nat) : Nat → Int32 → Int32 → Int32 → Int32 → zS → Option (Int32 × zS) := (G_X4_fewestFrom N dd)
set_option maxHeartbeats 4000000 in
set_option maxRecDepth 100000 in
theorem K_X4_fewestFrom (l : Launch) (D : va_G) (c : zC) (o : Nat) (g : zEp) (N : Nat) : ∀ dd : Nat, (∀ (x0 : Nat) (x1 : Int32) (x2 : Int32) (x3 : Int32) (x4 : Int32) (σ : zS) (ρ : Int32 × zS), f_X4_fewestFrom N dd x0 x1 x2 x3 x4 σ = some ρ → Met l yX4_fewestFrom zs_X4_fewestFrom (zr (dd + 2)) (va_Pc [.ref (o + x0), .int x1, .int x2, .int x3, .int x4] (zG D c o g σ)) (zQi D c o g ρ) 0 0 (zA o)) := by
  intro dd
  induction dd with
  | zero => exact fun _ _ _ _ _ _ _ h => absurd h (by intro h; cases h)
  | succ dd ih =>
    have ih0 := ih
    intro x0 x1 x2 x3 x4 σ ρ h
    have h : B_X4_fewestFrom N (f_X4_fewestFrom N dd) x0 x1 x2 x3 x4 σ = some ρ := h
    refine zMetG (by decide) (Nat.le_of_ble_eq_true rfl) ?_
    intro p e s m below meth cd ⟨hx, hb, hr, hml, hown, hts, hlocks⟩ hP hK hE ls hl
    have hS : va_S (zA o) s.heap s.heap [] := va_S.rf
    have hl : lv_has ls 6 [(0, .ref (o + x0)), (1, .int x1), (2, .int x2), (3, .int x3), (4, .int x4)] := hl
    rw [B_X4_fewestFrom.eq_1] at h
    refine lv_iload (pc := 0) hx hb dX4_fewestFrom_0 (lv_at hl 4 rfl) ?_
    refine lv_iload_n (pc := 2) hx hb dX4_fewestFrom_2 rfl (lv_at hl 2 rfl) ?_
    refine lv_icmp_ne (pc := 3) (tgt := 8) hx hb dX4_fewestFrom_3 (by decide) (fun c1 => ?_) (fun c1 => ?_)
    · rw [if_neg c1] at h
      refine lv_iload_n (pc := 8) hx hb dX4_fewestFrom_8 rfl (lv_at hl 3 rfl) ?_
      refine lv_if_lt (pc := 9) (tgt := 23) hx hb dX4_fewestFrom_9 (by decide) (fun c1 => ?_) (fun c1 => ?_)
      · rw [if_pos c1] at h
        refine lv_bipush (pc := 23) (v := 13) hx hb dX4_fewestFrom_23 (by decide) ?_
        exact xreti (pc := 25) hx hb hr hlocks hP hK hE hS h dX4_fewestFrom_25
      · rw [if_neg c1] at h
        refine lv_iload_n (pc := 12) hx hb dX4_fewestFrom_12 rfl (lv_at hl 3 rfl) ?_
        refine lv_iload_n (pc := 13) hx hb dX4_fewestFrom_13 rfl (lv_at hl 1 rfl) ?_
        refine lv_icmp_ge (pc := 14) (tgt := 23) hx hb dX4_fewestFrom_14 (by decide) (fun c1 => ?_) (fun c1 => ?_)
        · rw [if_pos c1] at h
          refine lv_bipush (pc := 23) (v := 13) hx hb dX4_fewestFrom_23 (by decide) ?_
          exact xreti (pc := 25) hx hb hr hlocks hP hK hE hS h dX4_fewestFrom_25
        · rw [if_neg c1] at h
          refine lv_iload_n (pc := 17) hx hb dX4_fewestFrom_17 rfl (lv_at hl 3 rfl) ?_
          refine lv_aload_n (pc := 18) hx hb dX4_fewestFrom_18 rfl (lv_at hl 0 rfl) ?_
          obtain ⟨v1, hv, h⟩ := zl_some h
          refine xLI (pc := 19) hx hb hK hP hv dX4_fewestFrom_19 ?_
          refine lv_icmp_lt (pc := 20) (tgt := 26) hx hb dX4_fewestFrom_20 (by decide) (fun c1 => ?_) (fun c1 => ?_)
          · rw [if_pos c1] at h
            refine lv_aload_n (pc := 26) hx hb dX4_fewestFrom_26 rfl (lv_at hl 0 rfl) ?_
            refine lv_iload_n (pc := 27) hx hb dX4_fewestFrom_27 rfl (lv_at hl 1 rfl) ?_
            refine lv_iload_n (pc := 28) hx hb dX4_fewestFrom_28 rfl (lv_at hl 2 rfl) ?_
            refine lv_iload_n (pc := 29) hx hb dX4_fewestFrom_29 rfl (lv_at hl 3 rfl) ?_
            refine lv_iconst (pc := 30) (v := 1) hx hb dX4_fewestFrom_30 (by decide) ?_
            refine lv_iadd (pc := 31) hx hb dX4_fewestFrom_31 ?_
            refine lv_iload (pc := 32) hx hb dX4_fewestFrom_32 (lv_at hl 4 rfl) ?_
            obtain ⟨v2, σ3, hv, h⟩ := zb_some h
            refine xcallSi (pc := 34) (As := [.ref (o + x0), .int x1, .int x2, .int (x3 + 1), .int x4]) (rest := []) ⟨hx, hb, hml, hown, hts⟩ (ih0 _ _ _ _ _ _ _ hv) zT_X4_28 rfl zd_X4_fewestFrom ⟨by show (dd + 2) + 1 ≤ dd + 1 + 2; omega, by show 8 + (6 + 11) + 60 * (dd + 2) ≤ 60 * (dd + 1 + 2); omega⟩ hK hP hE hS hl.1 rfl (Nat.le_of_ble_eq_true rfl) ⟨Nat.zero_le _, Nat.zero_le _⟩ dX4_fewestFrom_34 (fun H locs hP hS => ?_)
            refine lv_istore (pc := 37) (lv' := [(5, .int v2), (0, .ref (o + x0)), (1, .int x1), (2, .int x2), (3, .int x3), (4, .int x4)]) hx hb dX4_fewestFrom_37 hl (by decide) rfl (fun ls hl => ?_)
            refine lv_iload (pc := 39) hx hb dX4_fewestFrom_39 (lv_at hl 0 rfl) ?_
            refine lv_iconst (pc := 41) (v := 1) hx hb dX4_fewestFrom_41 (by decide) ?_
            refine lv_aload_n (pc := 42) hx hb dX4_fewestFrom_42 rfl (lv_at hl 1 rfl) ?_
            refine lv_iload_n (pc := 43) hx hb dX4_fewestFrom_43 rfl (lv_at hl 2 rfl) ?_
            refine lv_iload_n (pc := 44) hx hb dX4_fewestFrom_44 rfl (lv_at hl 3 rfl) ?_
            refine lv_iload_n (pc := 45) hx hb dX4_fewestFrom_45 rfl (lv_at hl 4 rfl) ?_
            refine lv_iconst (pc := 46) (v := 1) hx hb dX4_fewestFrom_46 (by decide) ?_
            refine lv_iadd (pc := 47) hx hb dX4_fewestFrom_47 ?_
            refine lv_iload (pc := 48) hx hb dX4_fewestFrom_48 (lv_at hl 5 rfl) ?_
            refine lv_aload_n (pc := 50) hx hb dX4_fewestFrom_50 rfl (lv_at hl 1 rfl) ?_
            refine lv_iload_n (pc := 51) hx hb dX4_fewestFrom_51 rfl (lv_at hl 4 rfl) ?_
            obtain ⟨v4, hv, h⟩ := zl_some h
            refine xaI (pc := 52) hx hb hK hP hv dX4_fewestFrom_52 ?_
            refine lv_ior (pc := 53) hx hb dX4_fewestFrom_53 ?_
            obtain ⟨v5, σ6, hv, h⟩ := zb_some h
            refine xcallSi (pc := 54) (As := [.ref (o + x0), .int x1, .int x2, .int (x3 + 1), .int (x4 ||| v4)]) (rest := [.int 1, .int v2]) ⟨hx, hb, hml, hown, hts⟩ (ih0 _ _ _ _ _ _ _ hv) zT_X4_28 rfl zd_X4_fewestFrom ⟨by show (dd + 2) + 1 ≤ dd + 1 + 2; omega, by show 8 + (6 + 11) + 60 * (dd + 2) ≤ 60 * (dd + 1 + 2); omega⟩ hK hP hE hS hl.1 rfl (Nat.le_of_ble_eq_true rfl) ⟨Nat.zero_le _, Nat.zero_le _⟩ dX4_fewestFrom_54 (fun H locs hP hS => ?_)
            refine lv_iadd (pc := 57) hx hb dX4_fewestFrom_57 ?_
            refine xmin (pc := 58) (rest := []) hx hb (hml.trans hl.1.symm) hown (hts _ zm_X4_36) (hts _ zst_J9_min_7cf53) (hts _ zn_J9) (hts _ (zq_J9_min_7cf53 _ List.mem_cons_self).1) (by show 1 ≤ dd + 1 + _; omega) (Nat.le_trans (Nat.le_of_ble_eq_true rfl : _ ≤ 40) (by show 40 ≤ 60 * (dd + 1 + _); omega)) (Nat.zero_le _) (Nat.zero_le _) dX4_fewestFrom_58 ?_
            exact xreti (pc := 61) hx hb hr hlocks hP hK hE hS h dX4_fewestFrom_61
          · rw [if_neg c1] at h
            refine lv_bipush (pc := 23) (v := 13) hx hb dX4_fewestFrom_23 (by decide) ?_
            exact xreti (pc := 25) hx hb hr hlocks hP hK hE hS h dX4_fewestFrom_25
    · rw [if_pos c1] at h
      refine lv_iconst (pc := 6) (v := 0) hx hb dX4_fewestFrom_6 (by decide) ?_
      exact xreti (pc := 7) hx hb hr hlocks hP hK hE hS h dX4_fewestFrom_7
theorem c_X4_fewestFrom (l : Launch) (D : va_G) (c : zC) (o : Nat) (g : zEp) (N dd : Nat) {x0 : Nat} {x1 : Int32} {x2 : Int32} {x3 : Int32} {x4 : Int32} {σ : zS} {ρ : Int32 × zS} (h : f_X4_fewestFrom N dd x0 x1 x2 x3 x4 σ = some ρ) : Met l yX4_fewestFrom zs_X4_fewestFrom (zr (dd + 2)) (va_Pc [.ref (o + x0), .int x1, .int x2, .int x3, .int x4] (zG D c o g σ)) (zQi D c o g ρ) 0 0 (zA o) := (K_X4_fewestFrom l D c o g N dd) _ _ _ _ _ _ _ h
def f_X4_fewestForAll (N : Nat) (x0 : Nat) (σ : zS) : Option (Int32 × zS) :=
  zl (gR 4 0 x0 σ) fun v1 =>
  zl (gI 4 1 x0 σ) fun v2 =>
  zl (gI 4 2 x0 σ) fun v3 =>
  zb (f_X4_fewestFrom N 14 v1 v2 v3 0 0 σ) fun v4 σ5 =>
  some (v4, σ5)
set_option maxHeartbeats 4000000 in
set_option maxRecDepth 100000 in
theorem c_X4_fewestForAll (l : Launch) (D : va_G) (c : zC) (o : Nat) (g : zEp) (N : Nat) {x0 : Nat} {σ : zS} {ρ : Int32 × zS} (h : f_X4_fewestForAll N x0 σ = some ρ) : Met l yX4_fewestForAll zs_X4_fewestForAll (zr 18) (va_Pc [.ref (o + x0)] (zG D c o g σ)) (zQi D c o g ρ) 0 0 (zA o) := by
  refine zMetG (by decide) (Nat.le_of_ble_eq_true rfl) ?_
  intro p e s m below meth cd ⟨hx, hb, hr, hml, hown, hts, hlocks⟩ hP hK hE ls hl
  have hS : va_S (zA o) s.heap s.heap [] := va_S.rf
  have hl : lv_has ls 1 [(0, .ref (o + x0))] := hl
  rw [f_X4_fewestForAll.eq_1] at h
  refine lv_aload_n (pc := 0) hx hb dX4_fewestForAll_0 rfl (lv_at hl 0 rfl) ?_
  obtain ⟨v1, hv, h⟩ := zl_some h
  refine xgR (pc := 1) (j := 0) zc4 hx hb hts hown hK hP hv rfl zf_X4_9 dX4_fewestForAll_1 ?_
  refine lv_aload_n (pc := 4) hx hb dX4_fewestForAll_4 rfl (lv_at hl 0 rfl) ?_
  obtain ⟨v2, hv, h⟩ := zl_some h
  refine xgI (pc := 5) (j := 1) zc4 hx hb hts hown hK hP hv rfl zf_X4_15 dX4_fewestForAll_5 ?_
  refine lv_aload_n (pc := 8) hx hb dX4_fewestForAll_8 rfl (lv_at hl 0 rfl) ?_
  obtain ⟨v3, hv, h⟩ := zl_some h
  refine xgI (pc := 9) (j := 2) zc4 hx hb hts hown hK hP hv rfl zf_X4_19 dX4_fewestForAll_9 ?_
  refine lv_iconst (pc := 12) (v := 0) hx hb dX4_fewestForAll_12 (by decide) ?_
  refine lv_iconst (pc := 13) (v := 0) hx hb dX4_fewestForAll_13 (by decide) ?_
  obtain ⟨v4, σ5, hv, h⟩ := zb_some h
  refine xcallSi (pc := 14) (As := [.ref (o + v1), .int v2, .int v3, .int 0, .int 0]) (rest := []) ⟨hx, hb, hml, hown, hts⟩ (c_X4_fewestFrom l D c o g N _ hv) zT_X4_28 rfl zd_X4_fewestFrom ⟨Nat.le_of_ble_eq_true rfl, Nat.le_of_ble_eq_true rfl⟩ hK hP hE hS hl.1 rfl (Nat.le_of_ble_eq_true rfl) ⟨Nat.zero_le _, Nat.zero_le _⟩ dX4_fewestForAll_14 (fun H locs hP hS => ?_)
  exact xreti (pc := 17) hx hb hr hlocks hP hK hE hS h dX4_fewestForAll_17
def B_X4_mostFrom (N : Nat) (r0 : Nat → Int32 → Int32 → Int32 → zS → Option (Int32 × zS)) (x0 : Nat) (x1 : Int32) (x2 : Int32) (x3 : Int32) (σ : zS) : Option (Int32 × zS) :=
  if x2 < 0 then
    (some (0, σ))
  else
    (if x1 ≤ x2 then
      (some (0, σ))
    else
      (zl (aL 14 x0) fun v1 =>
      if x2 < v1 then
        (zb (r0 x0 x1 (x2 + 1) x3 σ) fun v2 σ3 =>
        zl (aI 14 x0 x2 σ3) fun v4 =>
        if (v4 &&& x3) = 0 then
          (zl (aI 14 x0 x2 σ3) fun v5 =>
          zb (r0 x0 x1 (x2 + 1) (x3 ||| v5) σ3) fun v6 σ7 =>
          some (zmax v2 (1 + v6), σ7))
        else
          (some (v2, σ3)))
      else
        (some (0, σ))))
def G_X4_mostFrom (N : Nat) : Nat → (Nat → Int32 → Int32 → Int32 → zS → Option (Int32 × zS))
  | 0 => (fun _ _ _ _ _ => none)
  | dd + 1 => (B_X4_mostFrom N ((G_X4_mostFrom N dd)))
def f_X4_mostFrom (N dd : Nat) : Nat → Int32 → Int32 → Int32 → zS → Option (Int32 × zS) := (G_X4_mostFrom N dd)
set_option maxHeartbeats 4000000 in
set_option maxRecDepth 100000 in
theorem K_X4_mostFrom (l : Launch) (D : va_G) (c : zC) (o : Nat) (g : zEp) (N : Nat) : ∀ dd : Nat, (∀ (x0 : Nat) (x1 : Int32) (x2 : Int32) (x3 : Int32) (σ : zS) (ρ : Int32 × zS), f_X4_mostFrom N dd x0 x1 x2 x3 σ = some ρ → Met l yX4_mostFrom zs_X4_mostFrom (zr (dd + 2)) (va_Pc [.ref (o + x0), .int x1, .int x2, .int x3] (zG D c o g σ)) (zQi D c o g ρ) 0 0 (zA o)) := by
  intro dd
  induction dd with
  | zero => exact fun _ _ _ _ _ _ h => absurd h (by intro h; cases h)
  | succ dd ih =>
    have ih0 := ih
    intro x0 x1 x2 x3 σ ρ h
    have h : B_X4_mostFrom N (f_X4_mostFrom N dd) x0 x1 x2 x3 σ = some ρ := h
    refine zMetG (by decide) (Nat.le_of_ble_eq_true rfl) ?_
    intro p e s m below meth cd ⟨hx, hb, hr, hml, hown, hts, hlocks⟩ hP hK hE ls hl
    have hS : va_S (zA o) s.heap s.heap [] := va_S.rf
    have hl : lv_has ls 5 [(0, .ref (o + x0)), (1, .int x1), (2, .int x2), (3, .int x3)] := hl
    rw [B_X4_mostFrom.eq_1] at h
    refine lv_iload_n (pc := 0) hx hb dX4_mostFrom_0 rfl (lv_at hl 2 rfl) ?_
    refine lv_if_lt (pc := 1) (tgt := 15) hx hb dX4_mostFrom_1 (by decide) (fun c1 => ?_) (fun c1 => ?_)
    · rw [if_pos c1] at h
      refine lv_iconst (pc := 15) (v := 0) hx hb dX4_mostFrom_15 (by decide) ?_
      exact xreti (pc := 16) hx hb hr hlocks hP hK hE hS h dX4_mostFrom_16
    · rw [if_neg c1] at h
      refine lv_iload_n (pc := 4) hx hb dX4_mostFrom_4 rfl (lv_at hl 2 rfl) ?_
      refine lv_iload_n (pc := 5) hx hb dX4_mostFrom_5 rfl (lv_at hl 1 rfl) ?_
      refine lv_icmp_ge (pc := 6) (tgt := 15) hx hb dX4_mostFrom_6 (by decide) (fun c1 => ?_) (fun c1 => ?_)
      · rw [if_pos c1] at h
        refine lv_iconst (pc := 15) (v := 0) hx hb dX4_mostFrom_15 (by decide) ?_
        exact xreti (pc := 16) hx hb hr hlocks hP hK hE hS h dX4_mostFrom_16
      · rw [if_neg c1] at h
        refine lv_iload_n (pc := 9) hx hb dX4_mostFrom_9 rfl (lv_at hl 2 rfl) ?_
        refine lv_aload_n (pc := 10) hx hb dX4_mostFrom_10 rfl (lv_at hl 0 rfl) ?_
        obtain ⟨v1, hv, h⟩ := zl_some h
        refine xLI (pc := 11) hx hb hK hP hv dX4_mostFrom_11 ?_
        refine lv_icmp_lt (pc := 12) (tgt := 17) hx hb dX4_mostFrom_12 (by decide) (fun c1 => ?_) (fun c1 => ?_)
        · rw [if_pos c1] at h
          refine lv_aload_n (pc := 17) hx hb dX4_mostFrom_17 rfl (lv_at hl 0 rfl) ?_
          refine lv_iload_n (pc := 18) hx hb dX4_mostFrom_18 rfl (lv_at hl 1 rfl) ?_
          refine lv_iload_n (pc := 19) hx hb dX4_mostFrom_19 rfl (lv_at hl 2 rfl) ?_
          refine lv_iconst (pc := 20) (v := 1) hx hb dX4_mostFrom_20 (by decide) ?_
          refine lv_iadd (pc := 21) hx hb dX4_mostFrom_21 ?_
          refine lv_iload_n (pc := 22) hx hb dX4_mostFrom_22 rfl (lv_at hl 3 rfl) ?_
          obtain ⟨v2, σ3, hv, h⟩ := zb_some h
          refine xcallSi (pc := 23) (As := [.ref (o + x0), .int x1, .int (x2 + 1), .int x3]) (rest := []) ⟨hx, hb, hml, hown, hts⟩ (ih0 _ _ _ _ _ _ hv) zT_X4_32 rfl zd_X4_mostFrom ⟨by show (dd + 2) + 1 ≤ dd + 1 + 2; omega, by show 8 + (5 + 11) + 60 * (dd + 2) ≤ 60 * (dd + 1 + 2); omega⟩ hK hP hE hS hl.1 rfl (Nat.le_of_ble_eq_true rfl) ⟨Nat.zero_le _, Nat.zero_le _⟩ dX4_mostFrom_23 (fun H locs hP hS => ?_)
          refine lv_istore (pc := 26) (lv' := [(4, .int v2), (0, .ref (o + x0)), (1, .int x1), (2, .int x2), (3, .int x3)]) hx hb dX4_mostFrom_26 hl (by decide) rfl (fun ls hl => ?_)
          refine lv_aload_n (pc := 28) hx hb dX4_mostFrom_28 rfl (lv_at hl 1 rfl) ?_
          refine lv_iload_n (pc := 29) hx hb dX4_mostFrom_29 rfl (lv_at hl 3 rfl) ?_
          obtain ⟨v4, hv, h⟩ := zl_some h
          refine xaI (pc := 30) hx hb hK hP hv dX4_mostFrom_30 ?_
          refine lv_iload_n (pc := 31) hx hb dX4_mostFrom_31 rfl (lv_at hl 4 rfl) ?_
          refine lv_iand (pc := 32) hx hb dX4_mostFrom_32 ?_
          refine lv_if_eq (pc := 33) (tgt := 39) hx hb dX4_mostFrom_33 (by decide) (fun c1 => ?_) (fun c1 => ?_)
          · rw [if_pos c1] at h
            refine lv_iload (pc := 39) hx hb dX4_mostFrom_39 (lv_at hl 0 rfl) ?_
            refine lv_iconst (pc := 41) (v := 1) hx hb dX4_mostFrom_41 (by decide) ?_
            refine lv_aload_n (pc := 42) hx hb dX4_mostFrom_42 rfl (lv_at hl 1 rfl) ?_
            refine lv_iload_n (pc := 43) hx hb dX4_mostFrom_43 rfl (lv_at hl 2 rfl) ?_
            refine lv_iload_n (pc := 44) hx hb dX4_mostFrom_44 rfl (lv_at hl 3 rfl) ?_
            refine lv_iconst (pc := 45) (v := 1) hx hb dX4_mostFrom_45 (by decide) ?_
            refine lv_iadd (pc := 46) hx hb dX4_mostFrom_46 ?_
            refine lv_iload_n (pc := 47) hx hb dX4_mostFrom_47 rfl (lv_at hl 4 rfl) ?_
            refine lv_aload_n (pc := 48) hx hb dX4_mostFrom_48 rfl (lv_at hl 1 rfl) ?_
            refine lv_iload_n (pc := 49) hx hb dX4_mostFrom_49 rfl (lv_at hl 3 rfl) ?_
            obtain ⟨v5, hv, h⟩ := zl_some h
            refine xaI (pc := 50) hx hb hK hP hv dX4_mostFrom_50 ?_
            refine lv_ior (pc := 51) hx hb dX4_mostFrom_51 ?_
            obtain ⟨v6, σ7, hv, h⟩ := zb_some h
            refine xcallSi (pc := 52) (As := [.ref (o + x0), .int x1, .int (x2 + 1), .int (x3 ||| v5)]) (rest := [.int 1, .int v2]) ⟨hx, hb, hml, hown, hts⟩ (ih0 _ _ _ _ _ _ hv) zT_X4_32 rfl zd_X4_mostFrom ⟨by show (dd + 2) + 1 ≤ dd + 1 + 2; omega, by show 8 + (5 + 11) + 60 * (dd + 2) ≤ 60 * (dd + 1 + 2); omega⟩ hK hP hE hS hl.1 rfl (Nat.le_of_ble_eq_true rfl) ⟨Nat.zero_le _, Nat.zero_le _⟩ dX4_mostFrom_52 (fun H locs hP hS => ?_)
            refine lv_iadd (pc := 55) hx hb dX4_mostFrom_55 ?_
            refine xmax (pc := 56) (rest := []) hx hb (hml.trans hl.1.symm) hown (hts _ zm_X4_42) (hts _ zst_J9_max_7cf53) (hts _ zn_J9) (hts _ (zq_J9_max_7cf53 _ List.mem_cons_self).1) (by show 1 ≤ dd + 1 + _; omega) (Nat.le_trans (Nat.le_of_ble_eq_true rfl : _ ≤ 40) (by show 40 ≤ 60 * (dd + 1 + _); omega)) (Nat.zero_le _) (Nat.zero_le _) dX4_mostFrom_56 ?_
            exact xreti (pc := 59) hx hb hr hlocks hP hK hE hS h dX4_mostFrom_59
          · rw [if_neg c1] at h
            refine lv_iload (pc := 36) hx hb dX4_mostFrom_36 (lv_at hl 0 rfl) ?_
            exact xreti (pc := 38) hx hb hr hlocks hP hK hE hS h dX4_mostFrom_38
        · rw [if_neg c1] at h
          refine lv_iconst (pc := 15) (v := 0) hx hb dX4_mostFrom_15 (by decide) ?_
          exact xreti (pc := 16) hx hb hr hlocks hP hK hE hS h dX4_mostFrom_16
theorem c_X4_mostFrom (l : Launch) (D : va_G) (c : zC) (o : Nat) (g : zEp) (N dd : Nat) {x0 : Nat} {x1 : Int32} {x2 : Int32} {x3 : Int32} {σ : zS} {ρ : Int32 × zS} (h : f_X4_mostFrom N dd x0 x1 x2 x3 σ = some ρ) : Met l yX4_mostFrom zs_X4_mostFrom (zr (dd + 2)) (va_Pc [.ref (o + x0), .int x1, .int x2, .int x3] (zG D c o g σ)) (zQi D c o g ρ) 0 0 (zA o) := (K_X4_mostFrom l D c o g N dd) _ _ _ _ _ _ h
def f_X4_mostDisjoint (N : Nat) (x0 : Nat) (σ : zS) : Option (Int32 × zS) :=
  zl (gR 4 0 x0 σ) fun v1 =>
  zl (gI 4 1 x0 σ) fun v2 =>
  zb (f_X4_mostFrom N 14 v1 v2 0 0 σ) fun v3 σ4 =>
  some (v3, σ4)
set_option maxHeartbeats 4000000 in
set_option maxRecDepth 100000 in
theorem c_X4_mostDisjoint (l : Launch) (D : va_G) (c : zC) (o : Nat) (g : zEp) (N : Nat) {x0 : Nat} {σ : zS} {ρ : Int32 × zS} (h : f_X4_mostDisjoint N x0 σ = some ρ) : Met l yX4_mostDisjoint zs_X4_mostDisjoint (zr 18) (va_Pc [.ref (o + x0)] (zG D c o g σ)) (zQi D c o g ρ) 0 0 (zA o) := by
  refine zMetG (by decide) (Nat.le_of_ble_eq_true rfl) ?_
  intro p e s m below meth cd ⟨hx, hb, hr, hml, hown, hts, hlocks⟩ hP hK hE ls hl
  have hS : va_S (zA o) s.heap s.heap [] := va_S.rf
  have hl : lv_has ls 1 [(0, .ref (o + x0))] := hl
  rw [f_X4_mostDisjoint.eq_1] at h
  refine lv_aload_n (pc := 0) hx hb dX4_mostDisjoint_0 rfl (lv_at hl 0 rfl) ?_
  obtain ⟨v1, hv, h⟩ := zl_some h
  refine xgR (pc := 1) (j := 0) zc4 hx hb hts hown hK hP hv rfl zf_X4_9 dX4_mostDisjoint_1 ?_
  refine lv_aload_n (pc := 4) hx hb dX4_mostDisjoint_4 rfl (lv_at hl 0 rfl) ?_
  obtain ⟨v2, hv, h⟩ := zl_some h
  refine xgI (pc := 5) (j := 1) zc4 hx hb hts hown hK hP hv rfl zf_X4_15 dX4_mostDisjoint_5 ?_
  refine lv_iconst (pc := 8) (v := 0) hx hb dX4_mostDisjoint_8 (by decide) ?_
  refine lv_iconst (pc := 9) (v := 0) hx hb dX4_mostDisjoint_9 (by decide) ?_
  obtain ⟨v3, σ4, hv, h⟩ := zb_some h
  refine xcallSi (pc := 10) (As := [.ref (o + v1), .int v2, .int 0, .int 0]) (rest := []) ⟨hx, hb, hml, hown, hts⟩ (c_X4_mostFrom l D c o g N _ hv) zT_X4_32 rfl zd_X4_mostFrom ⟨Nat.le_of_ble_eq_true rfl, Nat.le_of_ble_eq_true rfl⟩ hK hP hE hS hl.1 rfl (Nat.le_of_ble_eq_true rfl) ⟨Nat.zero_le _, Nat.zero_le _⟩ dX4_mostDisjoint_10 (fun H locs hP hS => ?_)
  exact xreti (pc := 13) hx hb hr hlocks hP hK hE hS h dX4_mostDisjoint_13
def f_X5_isDigit (N : Nat) (x0 : Int32) (σ : zS) : Option (Int32 × zS) :=
  if x0 < 48 then
    (rZ 0 σ)
  else
    (if 57 < x0 then
      (rZ 0 σ)
    else
      (rZ 1 σ))
set_option maxHeartbeats 4000000 in
set_option maxRecDepth 100000 in
theorem c_X5_isDigit (l : Launch) (D : va_G) (c : zC) (o : Nat) (g : zEp) (N : Nat) {x0 : Int32} {σ : zS} {ρ : Int32 × zS} (h : f_X5_isDigit N x0 σ = some ρ) : Met l yX5_isDigit zs_X5_isDigit (zr 2) (va_Pc [.int x0] (zG D c o g σ)) (zQi D c o g ρ) 0 0 (zA o) := by
  refine zMetG (by decide) (Nat.le_of_ble_eq_true rfl) ?_
  intro p e s m below meth cd ⟨hx, hb, hr, hml, hown, hts, hlocks⟩ hP hK hE ls hl
  have hS : va_S (zA o) s.heap s.heap [] := va_S.rf
  have hl : lv_has ls 1 [(0, .int x0)] := hl
  rw [f_X5_isDigit.eq_1] at h
  refine lv_iload_n (pc := 0) hx hb dX5_isDigit_0 rfl (lv_at hl 0 rfl) ?_
  refine lv_bipush (pc := 1) (v := 48) hx hb dX5_isDigit_1 (by decide) ?_
  refine lv_icmp_lt (pc := 3) (tgt := 16) hx hb dX5_isDigit_3 (by decide) (fun c1 => ?_) (fun c1 => ?_)
  · rw [if_pos c1] at h
    refine lv_iconst (pc := 16) (v := 0) hx hb dX5_isDigit_16 (by decide) ?_
    exact xretz (pc := 17) hx hb hr hlocks hP hK hE hS h dX5_isDigit_17
  · rw [if_neg c1] at h
    refine lv_iload_n (pc := 6) hx hb dX5_isDigit_6 rfl (lv_at hl 0 rfl) ?_
    refine lv_bipush (pc := 7) (v := 57) hx hb dX5_isDigit_7 (by decide) ?_
    refine lv_icmp_gt (pc := 9) (tgt := 16) hx hb dX5_isDigit_9 (by decide) (fun c1 => ?_) (fun c1 => ?_)
    · rw [if_pos c1] at h
      refine lv_iconst (pc := 16) (v := 0) hx hb dX5_isDigit_16 (by decide) ?_
      exact xretz (pc := 17) hx hb hr hlocks hP hK hE hS h dX5_isDigit_17
    · rw [if_neg c1] at h
      refine lv_iconst (pc := 12) (v := 1) hx hb dX5_isDigit_12 (by decide) ?_
      refine lv_goto (pc := 13) (tgt := 17) hx hb dX5_isDigit_13 (by decide) ?_
      exact xretz (pc := 17) hx hb hr hlocks hP hK hE hS h dX5_isDigit_17
def f_X5_isLetter (N : Nat) (x0 : Int32) (σ : zS) : Option (Int32 × zS) :=
  if x0 < 97 then
    (rZ 0 σ)
  else
    (if 122 < x0 then
      (rZ 0 σ)
    else
      (rZ 1 σ))
set_option maxHeartbeats 4000000 in
set_option maxRecDepth 100000 in
theorem c_X5_isLetter (l : Launch) (D : va_G) (c : zC) (o : Nat) (g : zEp) (N : Nat) {x0 : Int32} {σ : zS} {ρ : Int32 × zS} (h : f_X5_isLetter N x0 σ = some ρ) : Met l yX5_isLetter zs_X5_isLetter (zr 2) (va_Pc [.int x0] (zG D c o g σ)) (zQi D c o g ρ) 0 0 (zA o) := by
  refine zMetG (by decide) (Nat.le_of_ble_eq_true rfl) ?_
  intro p e s m below meth cd ⟨hx, hb, hr, hml, hown, hts, hlocks⟩ hP hK hE ls hl
  have hS : va_S (zA o) s.heap s.heap [] := va_S.rf
  have hl : lv_has ls 1 [(0, .int x0)] := hl
  rw [f_X5_isLetter.eq_1] at h
  refine lv_iload_n (pc := 0) hx hb dX5_isLetter_0 rfl (lv_at hl 0 rfl) ?_
  refine lv_bipush (pc := 1) (v := 97) hx hb dX5_isLetter_1 (by decide) ?_
  refine lv_icmp_lt (pc := 3) (tgt := 16) hx hb dX5_isLetter_3 (by decide) (fun c1 => ?_) (fun c1 => ?_)
  · rw [if_pos c1] at h
    refine lv_iconst (pc := 16) (v := 0) hx hb dX5_isLetter_16 (by decide) ?_
    exact xretz (pc := 17) hx hb hr hlocks hP hK hE hS h dX5_isLetter_17
  · rw [if_neg c1] at h
    refine lv_iload_n (pc := 6) hx hb dX5_isLetter_6 rfl (lv_at hl 0 rfl) ?_
    refine lv_bipush (pc := 7) (v := 122) hx hb dX5_isLetter_7 (by decide) ?_
    refine lv_icmp_gt (pc := 9) (tgt := 16) hx hb dX5_isLetter_9 (by decide) (fun c1 => ?_) (fun c1 => ?_)
    · rw [if_pos c1] at h
      refine lv_iconst (pc := 16) (v := 0) hx hb dX5_isLetter_16 (by decide) ?_
      exact xretz (pc := 17) hx hb hr hlocks hP hK hE hS h dX5_isLetter_17
    · rw [if_neg c1] at h
      refine lv_iconst (pc := 12) (v := 1) hx hb dX5_isLetter_12 (by decide) ?_
      refine lv_goto (pc := 13) (tgt := 17) hx hb dX5_isLetter_13 (by decide) ?_
      exact xretz (pc := 17) hx hb hr hlocks hP hK hE hS h dX5_isLetter_17
def f_X5_combination (N : Nat) (x0 : Int32) (σ : zS) : Option (Int32 × zS) :=
  if x0 = 35 then
    (some (6, σ))
  else if x0 = 36 then
    (some ((-1), σ))
  else if x0 = 37 then
    (some (5, σ))
  else if x0 = 38 then
    (some (2, σ))
  else if x0 = 39 then
    (some ((-1), σ))
  else if x0 = 40 then
    (some ((-1), σ))
  else if x0 = 41 then
    (some ((-1), σ))
  else if x0 = 42 then
    (some (3, σ))
  else if x0 = 43 then
    (some (0, σ))
  else if x0 = 44 then
    (some ((-1), σ))
  else if x0 = 45 then
    (some (1, σ))
  else if x0 = 46 then
    (some ((-1), σ))
  else if x0 = 47 then
    (some (4, σ))
  else (some ((-1), σ))
set_option maxHeartbeats 4000000 in
set_option maxRecDepth 100000 in
theorem c_X5_combination (l : Launch) (D : va_G) (c : zC) (o : Nat) (g : zEp) (N : Nat) {x0 : Int32} {σ : zS} {ρ : Int32 × zS} (h : f_X5_combination N x0 σ = some ρ) : Met l yX5_combination zs_X5_combination (zr 2) (va_Pc [.int x0] (zG D c o g σ)) (zQi D c o g ρ) 0 0 (zA o) := by
  refine zMetG (by decide) (Nat.le_of_ble_eq_true rfl) ?_
  intro p e s m below meth cd ⟨hx, hb, hr, hml, hown, hts, hlocks⟩ hP hK hE ls hl
  have hS : va_S (zA o) s.heap s.heap [] := va_S.rf
  have hl : lv_has ls 1 [(0, .int x0)] := hl
  rw [f_X5_combination.eq_1] at h
  refine lv_iload_n (pc := 0) hx hb dX5_combination_0 rfl (lv_at hl 0 rfl) ?_
  by_cases w35_1 : x0 = 35
  · rw [if_pos w35_1] at h
    refine lv_tableIn (pc := 1) (tgt := 80) hx hb dX5_combination_1 (by rw [w35_1]; decide) (by rw [w35_1]; decide) (by rw [w35_1]; rfl) (by decide) ?_
    refine lv_bipush (pc := 80) (v := 6) hx hb dX5_combination_80 (by decide) ?_
    exact xreti (pc := 82) hx hb hr hlocks hP hK hE hS h dX5_combination_82
  rw [if_neg w35_1] at h
  by_cases w36_1 : x0 = 36
  · rw [if_pos w36_1] at h
    refine lv_tableIn (pc := 1) (tgt := 83) hx hb dX5_combination_1 (by rw [w36_1]; decide) (by rw [w36_1]; decide) (by rw [w36_1]; rfl) (by decide) ?_
    refine lv_iconst (pc := 83) (v := (-1)) hx hb dX5_combination_83 (by decide) ?_
    exact xreti (pc := 84) hx hb hr hlocks hP hK hE hS h dX5_combination_84
  rw [if_neg w36_1] at h
  by_cases w37_1 : x0 = 37
  · rw [if_pos w37_1] at h
    refine lv_tableIn (pc := 1) (tgt := 78) hx hb dX5_combination_1 (by rw [w37_1]; decide) (by rw [w37_1]; decide) (by rw [w37_1]; rfl) (by decide) ?_
    refine lv_iconst (pc := 78) (v := 5) hx hb dX5_combination_78 (by decide) ?_
    exact xreti (pc := 79) hx hb hr hlocks hP hK hE hS h dX5_combination_79
  rw [if_neg w37_1] at h
  by_cases w38_1 : x0 = 38
  · rw [if_pos w38_1] at h
    refine lv_tableIn (pc := 1) (tgt := 72) hx hb dX5_combination_1 (by rw [w38_1]; decide) (by rw [w38_1]; decide) (by rw [w38_1]; rfl) (by decide) ?_
    refine lv_iconst (pc := 72) (v := 2) hx hb dX5_combination_72 (by decide) ?_
    exact xreti (pc := 73) hx hb hr hlocks hP hK hE hS h dX5_combination_73
  rw [if_neg w38_1] at h
  by_cases w39_1 : x0 = 39
  · rw [if_pos w39_1] at h
    refine lv_tableIn (pc := 1) (tgt := 83) hx hb dX5_combination_1 (by rw [w39_1]; decide) (by rw [w39_1]; decide) (by rw [w39_1]; rfl) (by decide) ?_
    refine lv_iconst (pc := 83) (v := (-1)) hx hb dX5_combination_83 (by decide) ?_
    exact xreti (pc := 84) hx hb hr hlocks hP hK hE hS h dX5_combination_84
  rw [if_neg w39_1] at h
  by_cases w40_1 : x0 = 40
  · rw [if_pos w40_1] at h
    refine lv_tableIn (pc := 1) (tgt := 83) hx hb dX5_combination_1 (by rw [w40_1]; decide) (by rw [w40_1]; decide) (by rw [w40_1]; rfl) (by decide) ?_
    refine lv_iconst (pc := 83) (v := (-1)) hx hb dX5_combination_83 (by decide) ?_
    exact xreti (pc := 84) hx hb hr hlocks hP hK hE hS h dX5_combination_84
  rw [if_neg w40_1] at h
  by_cases w41_1 : x0 = 41
  · rw [if_pos w41_1] at h
    refine lv_tableIn (pc := 1) (tgt := 83) hx hb dX5_combination_1 (by rw [w41_1]; decide) (by rw [w41_1]; decide) (by rw [w41_1]; rfl) (by decide) ?_
    refine lv_iconst (pc := 83) (v := (-1)) hx hb dX5_combination_83 (by decide) ?_
    exact xreti (pc := 84) hx hb hr hlocks hP hK hE hS h dX5_combination_84
  rw [if_neg w41_1] at h
  by_cases w42_1 : x0 = 42
  · rw [if_pos w42_1] at h
    refine lv_tableIn (pc := 1) (tgt := 74) hx hb dX5_combination_1 (by rw [w42_1]; decide) (by rw [w42_1]; decide) (by rw [w42_1]; rfl) (by decide) ?_
    refine lv_iconst (pc := 74) (v := 3) hx hb dX5_combination_74 (by decide) ?_
    exact xreti (pc := 75) hx hb hr hlocks hP hK hE hS h dX5_combination_75
  rw [if_neg w42_1] at h
  by_cases w43_1 : x0 = 43
  · rw [if_pos w43_1] at h
    refine lv_tableIn (pc := 1) (tgt := 68) hx hb dX5_combination_1 (by rw [w43_1]; decide) (by rw [w43_1]; decide) (by rw [w43_1]; rfl) (by decide) ?_
    refine lv_iconst (pc := 68) (v := 0) hx hb dX5_combination_68 (by decide) ?_
    exact xreti (pc := 69) hx hb hr hlocks hP hK hE hS h dX5_combination_69
  rw [if_neg w43_1] at h
  by_cases w44_1 : x0 = 44
  · rw [if_pos w44_1] at h
    refine lv_tableIn (pc := 1) (tgt := 83) hx hb dX5_combination_1 (by rw [w44_1]; decide) (by rw [w44_1]; decide) (by rw [w44_1]; rfl) (by decide) ?_
    refine lv_iconst (pc := 83) (v := (-1)) hx hb dX5_combination_83 (by decide) ?_
    exact xreti (pc := 84) hx hb hr hlocks hP hK hE hS h dX5_combination_84
  rw [if_neg w44_1] at h
  by_cases w45_1 : x0 = 45
  · rw [if_pos w45_1] at h
    refine lv_tableIn (pc := 1) (tgt := 70) hx hb dX5_combination_1 (by rw [w45_1]; decide) (by rw [w45_1]; decide) (by rw [w45_1]; rfl) (by decide) ?_
    refine lv_iconst (pc := 70) (v := 1) hx hb dX5_combination_70 (by decide) ?_
    exact xreti (pc := 71) hx hb hr hlocks hP hK hE hS h dX5_combination_71
  rw [if_neg w45_1] at h
  by_cases w46_1 : x0 = 46
  · rw [if_pos w46_1] at h
    refine lv_tableIn (pc := 1) (tgt := 83) hx hb dX5_combination_1 (by rw [w46_1]; decide) (by rw [w46_1]; decide) (by rw [w46_1]; rfl) (by decide) ?_
    refine lv_iconst (pc := 83) (v := (-1)) hx hb dX5_combination_83 (by decide) ?_
    exact xreti (pc := 84) hx hb hr hlocks hP hK hE hS h dX5_combination_84
  rw [if_neg w46_1] at h
  by_cases w47_1 : x0 = 47
  · rw [if_pos w47_1] at h
    refine lv_tableIn (pc := 1) (tgt := 76) hx hb dX5_combination_1 (by rw [w47_1]; decide) (by rw [w47_1]; decide) (by rw [w47_1]; rfl) (by decide) ?_
    refine lv_iconst (pc := 76) (v := 4) hx hb dX5_combination_76 (by decide) ?_
    exact xreti (pc := 77) hx hb hr hlocks hP hK hE hS h dX5_combination_77
  rw [if_neg w47_1] at h
  have wo_1 : x0.toInt < 35 ∨ 47 < x0.toInt := by
    have q35 := lv_neT w35_1 (a := 35) rfl; have q36 := lv_neT w36_1 (a := 36) rfl; have q37 := lv_neT w37_1 (a := 37) rfl; have q38 := lv_neT w38_1 (a := 38) rfl; have q39 := lv_neT w39_1 (a := 39) rfl; have q40 := lv_neT w40_1 (a := 40) rfl; have q41 := lv_neT w41_1 (a := 41) rfl; have q42 := lv_neT w42_1 (a := 42) rfl; have q43 := lv_neT w43_1 (a := 43) rfl; have q44 := lv_neT w44_1 (a := 44) rfl; have q45 := lv_neT w45_1 (a := 45) rfl; have q46 := lv_neT w46_1 (a := 46) rfl; have q47 := lv_neT w47_1 (a := 47) rfl
    omega
  refine lv_tableOut (pc := 1) (tgt := 83) hx hb dX5_combination_1 wo_1 (by decide) ?_
  refine lv_iconst (pc := 83) (v := (-1)) hx hb dX5_combination_83 (by decide) ?_
  exact xreti (pc := 84) hx hb hr hlocks hP hK hE hS h dX5_combination_84
def f_X5_isSign (N : Nat) (x0 : Int32) (σ : zS) : Option (Int32 × zS) :=
  if x0 = 59 then
    (rZ 1 σ)
  else
    (if x0 = 61 then
      (rZ 1 σ)
    else
      (if x0 = 40 then
        (rZ 1 σ)
      else
        (if x0 = 41 then
          (rZ 1 σ)
        else
          (if x0 = 123 then
            (rZ 1 σ)
          else
            (if x0 = 125 then
              (rZ 1 σ)
            else
              (if x0 = 44 then
                (rZ 1 σ)
              else
                (zb (f_X5_combination N x0 σ) fun v1 σ2 =>
                if v1 < 0 then
                  (rZ 0 σ2)
                else
                  (rZ 1 σ2))))))))
set_option maxHeartbeats 4000000 in
set_option maxRecDepth 100000 in
theorem c_X5_isSign (l : Launch) (D : va_G) (c : zC) (o : Nat) (g : zEp) (N : Nat) {x0 : Int32} {σ : zS} {ρ : Int32 × zS} (h : f_X5_isSign N x0 σ = some ρ) : Met l yX5_isSign zs_X5_isSign (zr 4) (va_Pc [.int x0] (zG D c o g σ)) (zQi D c o g ρ) 0 0 (zA o) := by
  refine zMetG (by decide) (Nat.le_of_ble_eq_true rfl) ?_
  intro p e s m below meth cd ⟨hx, hb, hr, hml, hown, hts, hlocks⟩ hP hK hE ls hl
  have hS : va_S (zA o) s.heap s.heap [] := va_S.rf
  have hl : lv_has ls 1 [(0, .int x0)] := hl
  rw [f_X5_isSign.eq_1] at h
  refine lv_iload_n (pc := 0) hx hb dX5_isSign_0 rfl (lv_at hl 0 rfl) ?_
  refine lv_bipush (pc := 1) (v := 59) hx hb dX5_isSign_1 (by decide) ?_
  refine lv_icmp_eq (pc := 3) (tgt := 49) hx hb dX5_isSign_3 (by decide) (fun c1 => ?_) (fun c1 => ?_)
  · rw [if_pos c1] at h
    refine lv_iconst (pc := 49) (v := 1) hx hb dX5_isSign_49 (by decide) ?_
    refine lv_goto (pc := 50) (tgt := 54) hx hb dX5_isSign_50 (by decide) ?_
    exact xretz (pc := 54) hx hb hr hlocks hP hK hE hS h dX5_isSign_54
  · rw [if_neg c1] at h
    refine lv_iload_n (pc := 6) hx hb dX5_isSign_6 rfl (lv_at hl 0 rfl) ?_
    refine lv_bipush (pc := 7) (v := 61) hx hb dX5_isSign_7 (by decide) ?_
    refine lv_icmp_eq (pc := 9) (tgt := 49) hx hb dX5_isSign_9 (by decide) (fun c1 => ?_) (fun c1 => ?_)
    · rw [if_pos c1] at h
      refine lv_iconst (pc := 49) (v := 1) hx hb dX5_isSign_49 (by decide) ?_
      refine lv_goto (pc := 50) (tgt := 54) hx hb dX5_isSign_50 (by decide) ?_
      exact xretz (pc := 54) hx hb hr hlocks hP hK hE hS h dX5_isSign_54
    · rw [if_neg c1] at h
      refine lv_iload_n (pc := 12) hx hb dX5_isSign_12 rfl (lv_at hl 0 rfl) ?_
      refine lv_bipush (pc := 13) (v := 40) hx hb dX5_isSign_13 (by decide) ?_
      refine lv_icmp_eq (pc := 15) (tgt := 49) hx hb dX5_isSign_15 (by decide) (fun c1 => ?_) (fun c1 => ?_)
      · rw [if_pos c1] at h
        refine lv_iconst (pc := 49) (v := 1) hx hb dX5_isSign_49 (by decide) ?_
        refine lv_goto (pc := 50) (tgt := 54) hx hb dX5_isSign_50 (by decide) ?_
        exact xretz (pc := 54) hx hb hr hlocks hP hK hE hS h dX5_isSign_54
      · rw [if_neg c1] at h
        refine lv_iload_n (pc := 18) hx hb dX5_isSign_18 rfl (lv_at hl 0 rfl) ?_
        refine lv_bipush (pc := 19) (v := 41) hx hb dX5_isSign_19 (by decide) ?_
        refine lv_icmp_eq (pc := 21) (tgt := 49) hx hb dX5_isSign_21 (by decide) (fun c1 => ?_) (fun c1 => ?_)
        · rw [if_pos c1] at h
          refine lv_iconst (pc := 49) (v := 1) hx hb dX5_isSign_49 (by decide) ?_
          refine lv_goto (pc := 50) (tgt := 54) hx hb dX5_isSign_50 (by decide) ?_
          exact xretz (pc := 54) hx hb hr hlocks hP hK hE hS h dX5_isSign_54
        · rw [if_neg c1] at h
          refine lv_iload_n (pc := 24) hx hb dX5_isSign_24 rfl (lv_at hl 0 rfl) ?_
          refine lv_bipush (pc := 25) (v := 123) hx hb dX5_isSign_25 (by decide) ?_
          refine lv_icmp_eq (pc := 27) (tgt := 49) hx hb dX5_isSign_27 (by decide) (fun c1 => ?_) (fun c1 => ?_)
          · rw [if_pos c1] at h
            refine lv_iconst (pc := 49) (v := 1) hx hb dX5_isSign_49 (by decide) ?_
            refine lv_goto (pc := 50) (tgt := 54) hx hb dX5_isSign_50 (by decide) ?_
            exact xretz (pc := 54) hx hb hr hlocks hP hK hE hS h dX5_isSign_54
          · rw [if_neg c1] at h
            refine lv_iload_n (pc := 30) hx hb dX5_isSign_30 rfl (lv_at hl 0 rfl) ?_
            refine lv_bipush (pc := 31) (v := 125) hx hb dX5_isSign_31 (by decide) ?_
            refine lv_icmp_eq (pc := 33) (tgt := 49) hx hb dX5_isSign_33 (by decide) (fun c1 => ?_) (fun c1 => ?_)
            · rw [if_pos c1] at h
              refine lv_iconst (pc := 49) (v := 1) hx hb dX5_isSign_49 (by decide) ?_
              refine lv_goto (pc := 50) (tgt := 54) hx hb dX5_isSign_50 (by decide) ?_
              exact xretz (pc := 54) hx hb hr hlocks hP hK hE hS h dX5_isSign_54
            · rw [if_neg c1] at h
              refine lv_iload_n (pc := 36) hx hb dX5_isSign_36 rfl (lv_at hl 0 rfl) ?_
              refine lv_bipush (pc := 37) (v := 44) hx hb dX5_isSign_37 (by decide) ?_
              refine lv_icmp_eq (pc := 39) (tgt := 49) hx hb dX5_isSign_39 (by decide) (fun c1 => ?_) (fun c1 => ?_)
              · rw [if_pos c1] at h
                refine lv_iconst (pc := 49) (v := 1) hx hb dX5_isSign_49 (by decide) ?_
                refine lv_goto (pc := 50) (tgt := 54) hx hb dX5_isSign_50 (by decide) ?_
                exact xretz (pc := 54) hx hb hr hlocks hP hK hE hS h dX5_isSign_54
              · rw [if_neg c1] at h
                refine lv_iload_n (pc := 42) hx hb dX5_isSign_42 rfl (lv_at hl 0 rfl) ?_
                obtain ⟨v1, σ2, hv, h⟩ := zb_some h
                refine xcallSi (pc := 43) (As := [.int x0]) (rest := []) ⟨hx, hb, hml, hown, hts⟩ (c_X5_combination l D c o g N hv) zT_X5_111 rfl zd_X5_combination ⟨Nat.le_of_ble_eq_true rfl, Nat.le_of_ble_eq_true rfl⟩ hK hP hE hS hl.1 rfl (Nat.le_of_ble_eq_true rfl) ⟨Nat.zero_le _, Nat.zero_le _⟩ dX5_isSign_43 (fun H locs hP hS => ?_)
                refine lv_if_lt (pc := 46) (tgt := 53) hx hb dX5_isSign_46 (by decide) (fun c1 => ?_) (fun c1 => ?_)
                · rw [if_pos c1] at h
                  refine lv_iconst (pc := 53) (v := 0) hx hb dX5_isSign_53 (by decide) ?_
                  exact xretz (pc := 54) hx hb hr hlocks hP hK hE hS h dX5_isSign_54
                · rw [if_neg c1] at h
                  refine lv_iconst (pc := 49) (v := 1) hx hb dX5_isSign_49 (by decide) ?_
                  refine lv_goto (pc := 50) (tgt := 54) hx hb dX5_isSign_50 (by decide) ?_
                  exact xretz (pc := 54) hx hb hr hlocks hP hK hE hS h dX5_isSign_54
def F_X5_splitNumber_5 (N : Nat) (x0 : Nat) (x1 : Int32) (again5 : (Int32 × Int32 × zS) → Option (Int32 × zS)) : Int32 × Int32 × zS → Option (Int32 × zS)
  | (x3, x4, σ) =>
  zl (gI 5 6 x0 σ) fun v1 =>
  if v1 ≤ x3 then
    (zl (gR 5 10 x0 σ) fun v2 =>
    zl (sI 14 v2 x1 3 σ) fun σ3 =>
    zl (gR 5 11 x0 σ3) fun v4 =>
    zl (sI 14 v4 x1 x4 σ3) fun σ5 =>
    some (x3, σ5))
  else
    (zl (gR 5 5 x0 σ) fun v6 =>
    zl (aI 13 v6 x3 σ) fun v7 =>
    zb (f_X5_isDigit N v7 σ) fun v8 σ9 =>
    if v8 = 0 then
      (zl (gR 5 10 x0 σ9) fun v10 =>
      zl (sI 14 v10 x1 3 σ9) fun σ11 =>
      zl (gR 5 11 x0 σ11) fun v12 =>
      zl (sI 14 v12 x1 x4 σ11) fun σ13 =>
      some (x3, σ13))
    else
      (zl (gR 5 5 x0 σ9) fun v14 =>
      zl (aI 13 v14 x3 σ9) fun v15 =>
      again5 (x3 + 1, zmin 1000000 (((x4 * 10) + v15) - 48), σ9)))
def f_X5_splitNumber (N : Nat) (x0 : Nat) (x1 : Int32) (x2 : Int32) (σ : zS) : Option (Int32 × zS) :=
  zlp (F_X5_splitNumber_5 N x0 x1) N (x2, 0, σ)
set_option maxHeartbeats 4000000 in
set_option maxRecDepth 100000 in
theorem c_X5_splitNumber (l : Launch) (D : va_G) (c : zC) (o : Nat) (g : zEp) (N : Nat) {x0 : Nat} {x1 : Int32} {x2 : Int32} {σ : zS} {ρ : Int32 × zS} (h : f_X5_splitNumber N x0 x1 x2 σ = some ρ) : Met l yX5_splitNumber zs_X5_splitNumber (zr 4) (va_Pc [.ref (o + x0), .int x1, .int x2] (zG D c o g σ)) (zQi D c o g ρ) 0 0 (zA o) := by
  refine zMetG (by decide) (Nat.le_of_ble_eq_true rfl) ?_
  intro p e s m below meth cd ⟨hx, hb, hr, hml, hown, hts, hlocks⟩ hP hK hE ls hl
  have hS : va_S (zA o) s.heap s.heap [] := va_S.rf
  have hl : lv_has ls 5 [(0, .ref (o + x0)), (1, .int x1), (2, .int x2)] := hl
  rw [f_X5_splitNumber.eq_1] at h
  refine lv_iload_n (pc := 0) hx hb dX5_splitNumber_0 rfl (lv_at hl 2 rfl) ?_
  refine lv_istore_n (pc := 1) (lv' := [(3, .int x2), (0, .ref (o + x0)), (1, .int x1), (2, .int x2)]) hx hb dX5_splitNumber_1 rfl hl (by decide) rfl (fun ls hl => ?_)
  refine lv_iconst (pc := 2) (v := 0) hx hb dX5_splitNumber_2 (by decide) ?_
  refine lv_istore (pc := 3) (lv' := [(4, .int 0), (3, .int x2), (0, .ref (o + x0)), (1, .int x1), (2, .int x2)]) hx hb dX5_splitNumber_3 hl (by decide) rfl (fun ls hl => ?_)
  have L5_1 : ∀ (n : Nat) (t : Int32 × Int32 × zS), zlp (F_X5_splitNumber_5 N x0 x1) n t = some ρ → ∀ (H : Heap) (locs : List Loc) (ls : Array Slot), zP D c o (zabs o (t.2.2)) H → va_S (zA o) s.heap H locs → lv_has ls 5 [(3, .int (t.1)), (4, .int (t.2.1)), (0, .ref (o + x0)), (1, .int x1)] → W p l e (zr 4) s m (([.ref (o + x0), .int x1, .int x2] : List Value).toArray) below meth cd H locs 0 0 (MQ below (zQi D c o g ρ) (([.ref (o + x0), .int x1, .int x2] : List Value).toArray) s 0 0 (zA o)) (F0 m 5 ls []) := by
    refine zlp_ind (fun ag1 ih1 t h H locs ls hP hS hl => ?_)
    obtain ⟨x3_1, x4_1, σ1⟩ := t
    have hP : zP D c o (zabs o σ1) H := hP
    have hl : lv_has ls 5 [(3, .int x3_1), (4, .int x4_1), (0, .ref (o + x0)), (1, .int x1)] := hl
    rw [F_X5_splitNumber_5.eq_1] at h
    show W p l e (zr 4) s m (([.ref (o + x0), .int x1, .int x2] : List Value).toArray) below meth cd H locs 0 0 (MQ below (zQi D c o g ρ) (([.ref (o + x0), .int x1, .int x2] : List Value).toArray) s 0 0 (zA o)) (F0 m 5 ls [])
    refine lv_iload_n (pc := 5) hx hb dX5_splitNumber_5 rfl (lv_at hl 0 rfl) ?_
    refine lv_aload_n (pc := 6) hx hb dX5_splitNumber_6 rfl (lv_at hl 2 rfl) ?_
    obtain ⟨v2, hv, h⟩ := zl_some h
    refine xgI (pc := 7) (j := 6) zc5 hx hb hts hown hK hP hv rfl zf_X5_32 dX5_splitNumber_7 ?_
    refine lv_icmp_ge (pc := 10) (tgt := 53) hx hb dX5_splitNumber_10 (by decide) (fun c1 => ?_) (fun c1 => ?_)
    · rw [if_pos c1] at h
      refine lv_aload_n (pc := 53) hx hb dX5_splitNumber_53 rfl (lv_at hl 2 rfl) ?_
      obtain ⟨v3, hv, h⟩ := zl_some h
      refine xgR (pc := 54) (j := 10) zc5 hx hb hts hown hK hP hv rfl zf_X5_44 dX5_splitNumber_54 ?_
      refine lv_iload_n (pc := 57) hx hb dX5_splitNumber_57 rfl (lv_at hl 3 rfl) ?_
      refine lv_iconst (pc := 58) (v := 3) hx hb dX5_splitNumber_58 (by decide) ?_
      obtain ⟨σ4, hv, h⟩ := zl_some h
      refine xsI (pc := 59) hx hb hK hP hS hv dX5_splitNumber_59 (fun H locs hP hS => ?_)
      refine lv_aload_n (pc := 60) hx hb dX5_splitNumber_60 rfl (lv_at hl 2 rfl) ?_
      obtain ⟨v5, hv, h⟩ := zl_some h
      refine xgR (pc := 61) (j := 11) zc5 hx hb hts hown hK hP hv rfl zf_X5_47 dX5_splitNumber_61 ?_
      refine lv_iload_n (pc := 64) hx hb dX5_splitNumber_64 rfl (lv_at hl 3 rfl) ?_
      refine lv_iload (pc := 65) hx hb dX5_splitNumber_65 (lv_at hl 1 rfl) ?_
      obtain ⟨σ6, hv, h⟩ := zl_some h
      refine xsI (pc := 67) hx hb hK hP hS hv dX5_splitNumber_67 (fun H locs hP hS => ?_)
      refine lv_iload_n (pc := 68) hx hb dX5_splitNumber_68 rfl (lv_at hl 0 rfl) ?_
      exact xreti (pc := 69) hx hb hr hlocks hP hK hE hS h dX5_splitNumber_69
    · rw [if_neg c1] at h
      refine lv_aload_n (pc := 13) hx hb dX5_splitNumber_13 rfl (lv_at hl 2 rfl) ?_
      obtain ⟨v7, hv, h⟩ := zl_some h
      refine xgR (pc := 14) (j := 5) zc5 hx hb hts hown hK hP hv rfl zf_X5_28 dX5_splitNumber_14 ?_
      refine lv_iload_n (pc := 17) hx hb dX5_splitNumber_17 rfl (lv_at hl 0 rfl) ?_
      obtain ⟨v8, hv, h⟩ := zl_some h
      refine xaB (pc := 18) hx hb hK hP hv dX5_splitNumber_18 ?_
      obtain ⟨v9, σ10, hv, h⟩ := zb_some h
      refine xcallSi (pc := 19) (As := [.int v8]) (rest := []) ⟨hx, hb, hml, hown, hts⟩ (c_X5_isDigit l D c o g N hv) zT_X5_98 rfl zd_X5_isDigit ⟨Nat.le_of_ble_eq_true rfl, Nat.le_of_ble_eq_true rfl⟩ hK hP hE hS hl.1 rfl (Nat.le_of_ble_eq_true rfl) ⟨Nat.zero_le _, Nat.zero_le _⟩ dX5_splitNumber_19 (fun H locs hP hS => ?_)
      refine lv_if_eq (pc := 22) (tgt := 53) hx hb dX5_splitNumber_22 (by decide) (fun c1 => ?_) (fun c1 => ?_)
      · rw [if_pos c1] at h
        refine lv_aload_n (pc := 53) hx hb dX5_splitNumber_53 rfl (lv_at hl 2 rfl) ?_
        obtain ⟨v11, hv, h⟩ := zl_some h
        refine xgR (pc := 54) (j := 10) zc5 hx hb hts hown hK hP hv rfl zf_X5_44 dX5_splitNumber_54 ?_
        refine lv_iload_n (pc := 57) hx hb dX5_splitNumber_57 rfl (lv_at hl 3 rfl) ?_
        refine lv_iconst (pc := 58) (v := 3) hx hb dX5_splitNumber_58 (by decide) ?_
        obtain ⟨σ12, hv, h⟩ := zl_some h
        refine xsI (pc := 59) hx hb hK hP hS hv dX5_splitNumber_59 (fun H locs hP hS => ?_)
        refine lv_aload_n (pc := 60) hx hb dX5_splitNumber_60 rfl (lv_at hl 2 rfl) ?_
        obtain ⟨v13, hv, h⟩ := zl_some h
        refine xgR (pc := 61) (j := 11) zc5 hx hb hts hown hK hP hv rfl zf_X5_47 dX5_splitNumber_61 ?_
        refine lv_iload_n (pc := 64) hx hb dX5_splitNumber_64 rfl (lv_at hl 3 rfl) ?_
        refine lv_iload (pc := 65) hx hb dX5_splitNumber_65 (lv_at hl 1 rfl) ?_
        obtain ⟨σ14, hv, h⟩ := zl_some h
        refine xsI (pc := 67) hx hb hK hP hS hv dX5_splitNumber_67 (fun H locs hP hS => ?_)
        refine lv_iload_n (pc := 68) hx hb dX5_splitNumber_68 rfl (lv_at hl 0 rfl) ?_
        exact xreti (pc := 69) hx hb hr hlocks hP hK hE hS h dX5_splitNumber_69
      · rw [if_neg c1] at h
        refine lv_ldc (pc := 25) hx hb hown (hts _ zk_X5_110) dX5_splitNumber_25 ?_
        refine lv_iload (pc := 27) hx hb dX5_splitNumber_27 (lv_at hl 1 rfl) ?_
        refine lv_bipush (pc := 29) (v := 10) hx hb dX5_splitNumber_29 (by decide) ?_
        refine lv_imul (pc := 31) hx hb dX5_splitNumber_31 ?_
        refine lv_aload_n (pc := 32) hx hb dX5_splitNumber_32 rfl (lv_at hl 2 rfl) ?_
        obtain ⟨v15, hv, h⟩ := zl_some h
        refine xgR (pc := 33) (j := 5) zc5 hx hb hts hown hK hP hv rfl zf_X5_28 dX5_splitNumber_33 ?_
        refine lv_iload_n (pc := 36) hx hb dX5_splitNumber_36 rfl (lv_at hl 0 rfl) ?_
        obtain ⟨v16, hv, h⟩ := zl_some h
        refine xaB (pc := 37) hx hb hK hP hv dX5_splitNumber_37 ?_
        refine lv_iadd (pc := 38) hx hb dX5_splitNumber_38 ?_
        refine lv_bipush (pc := 39) (v := 48) hx hb dX5_splitNumber_39 (by decide) ?_
        refine lv_isub (pc := 41) hx hb dX5_splitNumber_41 ?_
        refine xmin (pc := 42) (rest := []) hx hb (hml.trans hl.1.symm) hown (hts _ zm_X5_80) (hts _ zst_J9_min_7cf53) (hts _ zn_J9) (hts _ (zq_J9_min_7cf53 _ List.mem_cons_self).1) (Nat.le_of_ble_eq_true rfl) (Nat.le_of_ble_eq_true rfl) (Nat.zero_le _) (Nat.zero_le _) dX5_splitNumber_42 ?_
        refine lv_istore (pc := 45) (lv' := [(4, .int (zmin 1000000 (((x4_1 * 10) + v16) - 48))), (3, .int x3_1), (0, .ref (o + x0)), (1, .int x1)]) hx hb dX5_splitNumber_45 hl (by decide) rfl (fun ls hl => ?_)
        refine lv_iinc (pc := 47) (v := x3_1 + 1) (lv' := [(3, .int (x3_1 + 1)), (4, .int (zmin 1000000 (((x4_1 * 10) + v16) - 48))), (0, .ref (o + x0)), (1, .int x1)]) hx hb dX5_splitNumber_47 hl (k := 1) rfl rfl (by decide) rfl (fun ls hl => ?_)
        refine lv_goto (pc := 50) (tgt := 5) hx hb dX5_splitNumber_50 (by decide) ?_
        exact ih1 (x3_1 + 1, zmin 1000000 (((x4_1 * 10) + v16) - 48), σ10) h _ _ ls hP hS (lv_sub hl [0, 1, 2, 3] rfl)
  exact L5_1 N (x2, 0, σ) h _ _ ls hP hS (lv_sub hl [1, 0, 2, 3] rfl)

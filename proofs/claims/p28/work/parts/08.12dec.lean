def F_X12_adds_73 (N : Nat) (x0 : Nat) (x2 : Int32) (x3 : Int32) (again9 : (Int32 × zS) → Option (Unit × zS)) (again73 : (Int32 × zS) → Option (Unit × zS)) : Int32 × zS → Option (Unit × zS)
  | (x5, σ) =>
  if x2 ≤ x5 then
    (zl (gI 12 32 x0 σ) fun v7 =>
    zl (pI 12 32 x0 (v7 + 1) σ) fun σ8 =>
    again9 (x3 + x2, σ8))
  else
    (zl (gR 12 31 x0 σ) fun v9 =>
    zl (gI 12 32 x0 σ) fun v10 =>
    zl (gR 12 29 x0 σ) fun v11 =>
    zl (aI 16 v11 (x3 + x5) σ) fun v12 =>
    zl (sI 16 v9 ((x2 * v10) + x5) v12 σ) fun σ13 =>
    again73 (x5 + 1, σ13))
def J_X12_adds_53 (N : Nat) (again9 : (Int32 × zS) → Option (Unit × zS)) (x0 : Nat) (x2 : Int32) (x3 : Int32) (x4 : Int32) (σ : zS) : Option (Unit × zS) :=
  if x4 = 0 then
    (again9 (x3 + x2, σ))
  else
    (zl (gC 12 x0) fun _ => zb (f_X12_isKnown N x0 x3 x2 σ) fun v5 σ6 =>
    if v5 = 0 then
      (zlp (F_X12_adds_73 N x0 x2 x3 again9) N (0, σ6))
    else
      (again9 (x3 + x2, σ6)))
def F_X12_adds_25 (N : Nat) (x0 : Nat) (x2 : Int32) (x3 : Int32) (again9 : (Int32 × zS) → Option (Unit × zS)) (again25 : (Int32 × Int32 × zS) → Option (Unit × zS)) : Int32 × Int32 × zS → Option (Unit × zS)
  | (x4, x5, σ) =>
  if x2 ≤ x5 then
    (J_X12_adds_53 N again9 x0 x2 x3 x4 σ)
  else
    (if x4 = 0 then
      (zl (gR 12 29 x0 σ) fun v14 =>
      zl (aI 16 v14 (x3 + x5) σ) fun v15 =>
      again25 (v15, x5 + 1, σ))
    else
      (J_X12_adds_53 N again9 x0 x2 x3 x4 σ))
def F_X12_adds_9 (N : Nat) (x0 : Nat) (x2 : Int32) (again9 : (Int32 × zS) → Option (Unit × zS)) : Int32 × zS → Option (Unit × zS)
  | (x3, σ) =>
  zl (gC 12 x0) fun _ => zb (f_X12_many N x0 σ) fun v3 σ4 =>
  if v3 ≤ x3 then
    (some ((), σ4))
  else
    (zl (nzI 2) fun _ =>
    zlp (F_X12_adds_25 N x0 x2 x3 again9) N (0, x2 / 2, σ4))
def f_X12_adds (N : Nat) (x0 : Nat) (x1 : Int32) (σ : zS) : Option (Unit × zS) :=
  zl (gC 12 x0) fun _ => zb (f_X12_many N x0 σ) fun v1 σ2 =>
  zlp (F_X12_adds_9 N x0 ((v1 : Int32) >>> (x1 &&& 31))) N (0, σ2)
set_option maxHeartbeats 4000000 in
set_option maxRecDepth 100000 in
theorem c_X12_adds (l : Launch) (D : va_G) (c : zC) (o : Nat) (g : zEp) (N : Nat) {x0 : Nat} {x1 : Int32} {σ : zS} {ρ : Unit × zS} (h : f_X12_adds N x0 x1 σ = some ρ) : Met l yX12_adds zs_X12_adds (zr 6) (va_Pc [.ref (o + x0), .int x1] (zG D c o g σ)) (zQu D c o g ρ) 0 0 (zA o) := by
  refine zMetG (by decide) (Nat.le_of_ble_eq_true rfl) ?_
  intro p e s m below meth cd ⟨hx, hb, hr, hml, hown, hts, hlocks⟩ hP hK hE ls hl
  have hS : va_S (zA o) s.heap s.heap [] := va_S.rf
  have hl : lv_has ls 6 [(0, .ref (o + x0)), (1, .int x1)] := hl
  rw [f_X12_adds.eq_1] at h
  refine lv_aload_n (pc := 0) hx hb dX12_adds_0 rfl (lv_at hl 0 rfl) ?_
  obtain ⟨_, hg, h⟩ := zl_some h
  obtain ⟨v1, σ2, hv, h⟩ := zb_some h
  refine xcallVi (pc := 1) (As := []) (rest := []) ⟨hx, hb, hml, hown, hts⟩ (c_X12_many l D c o g N hv) zc12 zV_X12_104 rfl zd_X12_many ⟨Nat.le_of_ble_eq_true rfl, Nat.le_of_ble_eq_true rfl⟩ hK hP hE hS hg hl.1 rfl (Nat.le_of_ble_eq_true rfl) ⟨Nat.zero_le _, Nat.zero_le _⟩ dX12_adds_1 (fun H locs hP hS => ?_)
  refine lv_iload_n (pc := 4) hx hb dX12_adds_4 rfl (lv_at hl 1 rfl) ?_
  refine lv_ishr (pc := 5) hx hb dX12_adds_5 ?_
  refine lv_istore_n (pc := 6) (lv' := [(2, .int ((v1 : Int32) >>> (x1 &&& 31))), (0, .ref (o + x0)), (1, .int x1)]) hx hb dX12_adds_6 rfl hl (by decide) rfl (fun ls hl => ?_)
  refine lv_iconst (pc := 7) (v := 0) hx hb dX12_adds_7 (by decide) ?_
  refine lv_istore_n (pc := 8) (lv' := [(3, .int 0), (2, .int ((v1 : Int32) >>> (x1 &&& 31))), (0, .ref (o + x0)), (1, .int x1)]) hx hb dX12_adds_8 rfl hl (by decide) rfl (fun ls hl => ?_)
  have L9_3 : ∀ (n : Nat) (t : Int32 × zS), zlp (F_X12_adds_9 N x0 ((v1 : Int32) >>> (x1 &&& 31))) n t = some ρ → ∀ (H : Heap) (locs : List Loc) (ls : Array Slot), zP D c o (zabs o (t.2)) H → va_S (zA o) s.heap H locs → lv_has ls 6 [(3, .int (t.1)), (0, .ref (o + x0)), (2, .int ((v1 : Int32) >>> (x1 &&& 31)))] → W p l e (zr 6) s m (([.ref (o + x0), .int x1] : List Value).toArray) below meth cd H locs 0 0 (MQ below (zQu D c o g ρ) (([.ref (o + x0), .int x1] : List Value).toArray) s 0 0 (zA o)) (F0 m 9 ls []) := by
    refine zlp_ind (fun ag3 ih3 t h H locs ls hP hS hl => ?_)
    obtain ⟨x3_3, σ3⟩ := t
    have hP : zP D c o (zabs o σ3) H := hP
    have hl : lv_has ls 6 [(3, .int x3_3), (0, .ref (o + x0)), (2, .int ((v1 : Int32) >>> (x1 &&& 31)))] := hl
    rw [F_X12_adds_9.eq_1] at h
    show W p l e (zr 6) s m (([.ref (o + x0), .int x1] : List Value).toArray) below meth cd H locs 0 0 (MQ below (zQu D c o g ρ) (([.ref (o + x0), .int x1] : List Value).toArray) s 0 0 (zA o)) (F0 m 9 ls [])
    refine lv_iload_n (pc := 9) hx hb dX12_adds_9 rfl (lv_at hl 0 rfl) ?_
    refine lv_aload_n (pc := 10) hx hb dX12_adds_10 rfl (lv_at hl 1 rfl) ?_
    obtain ⟨_, hg, h⟩ := zl_some h
    obtain ⟨v4, σ5, hv, h⟩ := zb_some h
    refine xcallVi (pc := 11) (As := []) (rest := [.int x3_3]) ⟨hx, hb, hml, hown, hts⟩ (c_X12_many l D c o g N hv) zc12 zV_X12_104 rfl zd_X12_many ⟨Nat.le_of_ble_eq_true rfl, Nat.le_of_ble_eq_true rfl⟩ hK hP hE hS hg hl.1 rfl (Nat.le_of_ble_eq_true rfl) ⟨Nat.zero_le _, Nat.zero_le _⟩ dX12_adds_11 (fun H locs hP hS => ?_)
    refine lv_icmp_ge (pc := 14) (tgt := 125) hx hb dX12_adds_14 (by decide) (fun c1 => ?_) (fun c1 => ?_)
    · rw [if_pos c1] at h
      exact xretv (pc := 125) hx hb hr hlocks hP hK hE hS h dX12_adds_125
    · rw [if_neg c1] at h
      refine lv_iconst (pc := 17) (v := 0) hx hb dX12_adds_17 (by decide) ?_
      refine lv_istore (pc := 18) (lv' := [(4, .int 0), (3, .int x3_3), (0, .ref (o + x0)), (2, .int ((v1 : Int32) >>> (x1 &&& 31)))]) hx hb dX12_adds_18 hl (by decide) rfl (fun ls hl => ?_)
      refine lv_iload_n (pc := 20) hx hb dX12_adds_20 rfl (lv_at hl 3 rfl) ?_
      refine lv_iconst (pc := 21) (v := 2) hx hb dX12_adds_21 (by decide) ?_
      obtain ⟨_, hv, h⟩ := zl_some h
      refine lv_idiv (pc := 22) hx hb dX12_adds_22 (xnzI hv) ?_
      refine lv_istore (pc := 23) (lv' := [(5, .int (((v1 : Int32) >>> (x1 &&& 31)) / 2)), (4, .int 0), (3, .int x3_3), (0, .ref (o + x0)), (2, .int ((v1 : Int32) >>> (x1 &&& 31)))]) hx hb dX12_adds_23 hl (by decide) rfl (fun ls hl => ?_)
      have L25_6 : ∀ (n : Nat) (t : Int32 × Int32 × zS), zlp (F_X12_adds_25 N x0 ((v1 : Int32) >>> (x1 &&& 31)) x3_3 ag3) n t = some ρ → ∀ (H : Heap) (locs : List Loc) (ls : Array Slot), zP D c o (zabs o (t.2.2)) H → va_S (zA o) s.heap H locs → lv_has ls 6 [(4, .int (t.1)), (5, .int (t.2.1)), (0, .ref (o + x0)), (2, .int ((v1 : Int32) >>> (x1 &&& 31))), (3, .int x3_3)] → W p l e (zr 6) s m (([.ref (o + x0), .int x1] : List Value).toArray) below meth cd H locs 0 0 (MQ below (zQu D c o g ρ) (([.ref (o + x0), .int x1] : List Value).toArray) s 0 0 (zA o)) (F0 m 25 ls []) := by
        refine zlp_ind (fun ag6 ih6 t h H locs ls hP hS hl => ?_)
        obtain ⟨x4_6, x5_6, σ6⟩ := t
        have hP : zP D c o (zabs o σ6) H := hP
        have hl : lv_has ls 6 [(4, .int x4_6), (5, .int x5_6), (0, .ref (o + x0)), (2, .int ((v1 : Int32) >>> (x1 &&& 31))), (3, .int x3_3)] := hl
        rw [F_X12_adds_25.eq_1] at h
        show W p l e (zr 6) s m (([.ref (o + x0), .int x1] : List Value).toArray) below meth cd H locs 0 0 (MQ below (zQu D c o g ρ) (([.ref (o + x0), .int x1] : List Value).toArray) s 0 0 (zA o)) (F0 m 25 ls [])
        refine lv_iload (pc := 25) hx hb dX12_adds_25 (lv_at hl 1 rfl) ?_
        refine lv_iload_n (pc := 27) hx hb dX12_adds_27 rfl (lv_at hl 3 rfl) ?_
        have hj53_7 : ∀ (x4_7 : Int32) (σ7 : zS), J_X12_adds_53 N ag3 x0 ((v1 : Int32) >>> (x1 &&& 31)) x3_3 x4_7 σ7 = some ρ → ∀ (H : Heap) (locs : List Loc) (ls : Array Slot), zP D c o (zabs o σ7) H → va_S (zA o) s.heap H locs → lv_has ls 6 [(4, .int x4_7), (0, .ref (o + x0)), (2, .int ((v1 : Int32) >>> (x1 &&& 31))), (3, .int x3_3)] → W p l e (zr 6) s m (([.ref (o + x0), .int x1] : List Value).toArray) below meth cd H locs 0 0 (MQ below (zQu D c o g ρ) (([.ref (o + x0), .int x1] : List Value).toArray) s 0 0 (zA o)) (F0 m 53 ls []) := by
          intro x4_7 σ7 h H locs ls hP hS hl
          rw [J_X12_adds_53.eq_1] at h
          refine lv_iload (pc := 53) hx hb dX12_adds_53 (lv_at hl 0 rfl) ?_
          refine lv_if_eq (pc := 55) (tgt := 118) hx hb dX12_adds_55 (by decide) (fun c1 => ?_) (fun c1 => ?_)
          · rw [if_pos c1] at h
            refine lv_iload_n (pc := 118) hx hb dX12_adds_118 rfl (lv_at hl 3 rfl) ?_
            refine lv_iload_n (pc := 119) hx hb dX12_adds_119 rfl (lv_at hl 2 rfl) ?_
            refine lv_iadd (pc := 120) hx hb dX12_adds_120 ?_
            refine lv_istore_n (pc := 121) (lv' := [(3, .int (x3_3 + ((v1 : Int32) >>> (x1 &&& 31)))), (4, .int x4_7), (0, .ref (o + x0)), (2, .int ((v1 : Int32) >>> (x1 &&& 31)))]) hx hb dX12_adds_121 rfl hl (by decide) rfl (fun ls hl => ?_)
            refine lv_goto (pc := 122) (tgt := 9) hx hb dX12_adds_122 (by decide) ?_
            exact ih3 (x3_3 + ((v1 : Int32) >>> (x1 &&& 31)), σ7) h _ _ ls hP hS (lv_sub hl [0, 2, 3] rfl)
          · rw [if_neg c1] at h
            refine lv_aload_n (pc := 58) hx hb dX12_adds_58 rfl (lv_at hl 1 rfl) ?_
            refine lv_iload_n (pc := 59) hx hb dX12_adds_59 rfl (lv_at hl 3 rfl) ?_
            refine lv_iload_n (pc := 60) hx hb dX12_adds_60 rfl (lv_at hl 2 rfl) ?_
            obtain ⟨_, hg, h⟩ := zl_some h
            obtain ⟨v8, σ9, hv, h⟩ := zb_some h
            refine xcallVi (pc := 61) (As := [.int x3_3, .int ((v1 : Int32) >>> (x1 &&& 31))]) (rest := []) ⟨hx, hb, hml, hown, hts⟩ (c_X12_isKnown l D c o g N hv) zc12 zV_X12_375 rfl zd_X12_isKnown ⟨Nat.le_of_ble_eq_true rfl, Nat.le_of_ble_eq_true rfl⟩ hK hP hE hS hg hl.1 rfl (Nat.le_of_ble_eq_true rfl) ⟨Nat.zero_le _, Nat.zero_le _⟩ dX12_adds_61 (fun H locs hP hS => ?_)
            refine lv_if_eq (pc := 64) (tgt := 70) hx hb dX12_adds_64 (by decide) (fun c1 => ?_) (fun c1 => ?_)
            · rw [if_pos c1] at h
              refine lv_iconst (pc := 70) (v := 0) hx hb dX12_adds_70 (by decide) ?_
              refine lv_istore (pc := 71) (lv' := [(5, .int 0), (4, .int x4_7), (0, .ref (o + x0)), (2, .int ((v1 : Int32) >>> (x1 &&& 31))), (3, .int x3_3)]) hx hb dX12_adds_71 hl (by decide) rfl (fun ls hl => ?_)
              have L73_10 : ∀ (n : Nat) (t : Int32 × zS), zlp (F_X12_adds_73 N x0 ((v1 : Int32) >>> (x1 &&& 31)) x3_3 ag3) n t = some ρ → ∀ (H : Heap) (locs : List Loc) (ls : Array Slot), zP D c o (zabs o (t.2)) H → va_S (zA o) s.heap H locs → lv_has ls 6 [(5, .int (t.1)), (0, .ref (o + x0)), (2, .int ((v1 : Int32) >>> (x1 &&& 31))), (3, .int x3_3)] → W p l e (zr 6) s m (([.ref (o + x0), .int x1] : List Value).toArray) below meth cd H locs 0 0 (MQ below (zQu D c o g ρ) (([.ref (o + x0), .int x1] : List Value).toArray) s 0 0 (zA o)) (F0 m 73 ls []) := by
                refine zlp_ind (fun ag10 ih10 t h H locs ls hP hS hl => ?_)
                obtain ⟨x5_10, σ10⟩ := t
                have hP : zP D c o (zabs o σ10) H := hP
                have hl : lv_has ls 6 [(5, .int x5_10), (0, .ref (o + x0)), (2, .int ((v1 : Int32) >>> (x1 &&& 31))), (3, .int x3_3)] := hl
                rw [F_X12_adds_73.eq_1] at h
                show W p l e (zr 6) s m (([.ref (o + x0), .int x1] : List Value).toArray) below meth cd H locs 0 0 (MQ below (zQu D c o g ρ) (([.ref (o + x0), .int x1] : List Value).toArray) s 0 0 (zA o)) (F0 m 73 ls [])
                refine lv_iload (pc := 73) hx hb dX12_adds_73 (lv_at hl 0 rfl) ?_
                refine lv_iload_n (pc := 75) hx hb dX12_adds_75 rfl (lv_at hl 2 rfl) ?_
                refine lv_icmp_ge (pc := 76) (tgt := 108) hx hb dX12_adds_76 (by decide) (fun c1 => ?_) (fun c1 => ?_)
                · rw [if_pos c1] at h
                  refine lv_aload_n (pc := 108) hx hb dX12_adds_108 rfl (lv_at hl 1 rfl) ?_
                  refine lv_dup (pc := 109) hx hb dX12_adds_109 rfl ?_
                  obtain ⟨v11, hv, h⟩ := zl_some h
                  refine xgI (pc := 110) (j := 32) zc12 hx hb hts hown hK hP hv rfl zf_X12_372 dX12_adds_110 ?_
                  refine lv_iconst (pc := 113) (v := 1) hx hb dX12_adds_113 (by decide) ?_
                  refine lv_iadd (pc := 114) hx hb dX12_adds_114 ?_
                  obtain ⟨σ12, hv, h⟩ := zl_some h
                  refine xpI (pc := 115) (j := 32) zc12 hx hb hts hown hK hP hS hv rfl rfl rfl zf_X12_372 dX12_adds_115 (fun H locs hP hS => ?_)
                  refine lv_iload_n (pc := 118) hx hb dX12_adds_118 rfl (lv_at hl 3 rfl) ?_
                  refine lv_iload_n (pc := 119) hx hb dX12_adds_119 rfl (lv_at hl 2 rfl) ?_
                  refine lv_iadd (pc := 120) hx hb dX12_adds_120 ?_
                  refine lv_istore_n (pc := 121) (lv' := [(3, .int (x3_3 + ((v1 : Int32) >>> (x1 &&& 31)))), (5, .int x5_10), (0, .ref (o + x0)), (2, .int ((v1 : Int32) >>> (x1 &&& 31)))]) hx hb dX12_adds_121 rfl hl (by decide) rfl (fun ls hl => ?_)
                  refine lv_goto (pc := 122) (tgt := 9) hx hb dX12_adds_122 (by decide) ?_
                  exact ih3 (x3_3 + ((v1 : Int32) >>> (x1 &&& 31)), σ12) h _ _ ls hP hS (lv_sub hl [0, 2, 3] rfl)
                · rw [if_neg c1] at h
                  refine lv_aload_n (pc := 79) hx hb dX12_adds_79 rfl (lv_at hl 1 rfl) ?_
                  obtain ⟨v13, hv, h⟩ := zl_some h
                  refine xgR (pc := 80) (j := 31) zc12 hx hb hts hown hK hP hv rfl zf_X12_67 dX12_adds_80 ?_
                  refine lv_iload_n (pc := 83) hx hb dX12_adds_83 rfl (lv_at hl 2 rfl) ?_
                  refine lv_aload_n (pc := 84) hx hb dX12_adds_84 rfl (lv_at hl 1 rfl) ?_
                  obtain ⟨v14, hv, h⟩ := zl_some h
                  refine xgI (pc := 85) (j := 32) zc12 hx hb hts hown hK hP hv rfl zf_X12_372 dX12_adds_85 ?_
                  refine lv_imul (pc := 88) hx hb dX12_adds_88 ?_
                  refine lv_iload (pc := 89) hx hb dX12_adds_89 (lv_at hl 0 rfl) ?_
                  refine lv_iadd (pc := 91) hx hb dX12_adds_91 ?_
                  refine lv_aload_n (pc := 92) hx hb dX12_adds_92 rfl (lv_at hl 1 rfl) ?_
                  obtain ⟨v15, hv, h⟩ := zl_some h
                  refine xgR (pc := 93) (j := 29) zc12 hx hb hts hown hK hP hv rfl zf_X12_61 dX12_adds_93 ?_
                  refine lv_iload_n (pc := 96) hx hb dX12_adds_96 rfl (lv_at hl 3 rfl) ?_
                  refine lv_iload (pc := 97) hx hb dX12_adds_97 (lv_at hl 0 rfl) ?_
                  refine lv_iadd (pc := 99) hx hb dX12_adds_99 ?_
                  obtain ⟨v16, hv, h⟩ := zl_some h
                  refine xaZ (pc := 100) hx hb hK hP hv dX12_adds_100 ?_
                  obtain ⟨σ17, hv, h⟩ := zl_some h
                  refine xsZ (pc := 101) hx hb hK hP hS hv dX12_adds_101 (fun H locs hP hS => ?_)
                  refine lv_iinc (pc := 102) (v := x5_10 + 1) (lv' := [(5, .int (x5_10 + 1)), (0, .ref (o + x0)), (2, .int ((v1 : Int32) >>> (x1 &&& 31))), (3, .int x3_3)]) hx hb dX12_adds_102 hl (k := 0) rfl rfl (by decide) rfl (fun ls hl => ?_)
                  refine lv_goto (pc := 105) (tgt := 73) hx hb dX12_adds_105 (by decide) ?_
                  exact ih10 (x5_10 + 1, σ17) h _ _ ls hP hS (lv_sub hl [0, 1, 2, 3] rfl)
              exact L73_10 N (0, σ9) h _ _ ls hP hS (lv_sub hl [0, 2, 3, 4] rfl)
            · rw [if_neg c1] at h
              refine lv_goto (pc := 67) (tgt := 118) hx hb dX12_adds_67 (by decide) ?_
              refine lv_iload_n (pc := 118) hx hb dX12_adds_118 rfl (lv_at hl 3 rfl) ?_
              refine lv_iload_n (pc := 119) hx hb dX12_adds_119 rfl (lv_at hl 2 rfl) ?_
              refine lv_iadd (pc := 120) hx hb dX12_adds_120 ?_
              refine lv_istore_n (pc := 121) (lv' := [(3, .int (x3_3 + ((v1 : Int32) >>> (x1 &&& 31)))), (4, .int x4_7), (0, .ref (o + x0)), (2, .int ((v1 : Int32) >>> (x1 &&& 31)))]) hx hb dX12_adds_121 rfl hl (by decide) rfl (fun ls hl => ?_)
              refine lv_goto (pc := 122) (tgt := 9) hx hb dX12_adds_122 (by decide) ?_
              exact ih3 (x3_3 + ((v1 : Int32) >>> (x1 &&& 31)), σ9) h _ _ ls hP hS (lv_sub hl [0, 2, 3] rfl)
        refine lv_icmp_ge (pc := 28) (tgt := 53) hx hb dX12_adds_28 (by decide) (fun c1 => ?_) (fun c1 => ?_)
        · rw [if_pos c1] at h
          exact hj53_7 (x4_6) σ6 h _ _ ls hP hS (lv_sub hl [0, 2, 3, 4] rfl)
        · rw [if_neg c1] at h
          refine lv_iload (pc := 31) hx hb dX12_adds_31 (lv_at hl 0 rfl) ?_
          refine lv_if_ne (pc := 33) (tgt := 53) hx hb dX12_adds_33 (by decide) (fun c1 => ?_) (fun c1 => ?_)
          · rw [if_neg c1] at h
            exact hj53_7 (x4_6) σ6 h _ _ ls hP hS (lv_sub hl [0, 2, 3, 4] rfl)
          · rw [if_pos c1] at h
            refine lv_aload_n (pc := 36) hx hb dX12_adds_36 rfl (lv_at hl 2 rfl) ?_
            obtain ⟨v18, hv, h⟩ := zl_some h
            refine xgR (pc := 37) (j := 29) zc12 hx hb hts hown hK hP hv rfl zf_X12_61 dX12_adds_37 ?_
            refine lv_iload_n (pc := 40) hx hb dX12_adds_40 rfl (lv_at hl 4 rfl) ?_
            refine lv_iload (pc := 41) hx hb dX12_adds_41 (lv_at hl 1 rfl) ?_
            refine lv_iadd (pc := 43) hx hb dX12_adds_43 ?_
            obtain ⟨v19, hv, h⟩ := zl_some h
            refine xaZ (pc := 44) hx hb hK hP hv dX12_adds_44 ?_
            refine lv_istore (pc := 45) (lv' := [(4, .int v19), (5, .int x5_6), (0, .ref (o + x0)), (2, .int ((v1 : Int32) >>> (x1 &&& 31))), (3, .int x3_3)]) hx hb dX12_adds_45 hl (by decide) rfl (fun ls hl => ?_)
            refine lv_iinc (pc := 47) (v := x5_6 + 1) (lv' := [(5, .int (x5_6 + 1)), (4, .int v19), (0, .ref (o + x0)), (2, .int ((v1 : Int32) >>> (x1 &&& 31))), (3, .int x3_3)]) hx hb dX12_adds_47 hl (k := 1) rfl rfl (by decide) rfl (fun ls hl => ?_)
            refine lv_goto (pc := 50) (tgt := 25) hx hb dX12_adds_50 (by decide) ?_
            exact ih6 (v19, x5_6 + 1, σ6) h _ _ ls hP hS (lv_sub hl [1, 0, 2, 3, 4] rfl)
      exact L25_6 N (0, ((v1 : Int32) >>> (x1 &&& 31)) / 2, σ5) h _ _ ls hP hS (lv_sub hl [1, 0, 3, 4, 2] rfl)
  exact L9_3 N (0, σ2) h _ _ ls hP hS (lv_sub hl [0, 2, 1] rfl)
def f_X12_wideOf (N : Nat) (x0 : Nat) (x1 : Int32) (x2 : Int32) (σ : zS) : Option (Int32 × zS) :=
  zl (gC 12 x0) fun _ => zb (f_X12_laysOut N x0 x1 σ) fun v1 σ2 =>
  zl (pI 12 32 x0 0 σ2) fun σ3 =>
  zl (gC 12 x0) fun _ => zb (f_X12_adds N x0 x2 σ3) fun v4 σ5 =>
  zl (gI 12 32 x0 σ5) fun v6 =>
  some (v6, σ5)
set_option maxHeartbeats 4000000 in
set_option maxRecDepth 100000 in
theorem c_X12_wideOf (l : Launch) (D : va_G) (c : zC) (o : Nat) (g : zEp) (N : Nat) {x0 : Nat} {x1 : Int32} {x2 : Int32} {σ : zS} {ρ : Int32 × zS} (h : f_X12_wideOf N x0 x1 x2 σ = some ρ) : Met l yX12_wideOf zs_X12_wideOf (zr 8) (va_Pc [.ref (o + x0), .int x1, .int x2] (zG D c o g σ)) (zQi D c o g ρ) 0 0 (zA o) := by
  refine zMetG (by decide) (Nat.le_of_ble_eq_true rfl) ?_
  intro p e s m below meth cd ⟨hx, hb, hr, hml, hown, hts, hlocks⟩ hP hK hE ls hl
  have hS : va_S (zA o) s.heap s.heap [] := va_S.rf
  have hl : lv_has ls 3 [(0, .ref (o + x0)), (1, .int x1), (2, .int x2)] := hl
  rw [f_X12_wideOf.eq_1] at h
  refine lv_aload_n (pc := 0) hx hb dX12_wideOf_0 rfl (lv_at hl 0 rfl) ?_
  refine lv_iload_n (pc := 1) hx hb dX12_wideOf_1 rfl (lv_at hl 1 rfl) ?_
  obtain ⟨_, hg, h⟩ := zl_some h
  obtain ⟨v1, σ2, hv, h⟩ := zb_some h
  refine xcallVv (pc := 2) (As := [.int x1]) (rest := []) ⟨hx, hb, hml, hown, hts⟩ (c_X12_laysOut l D c o g N hv) zc12 zV_X12_378 rfl zd_X12_laysOut ⟨Nat.le_of_ble_eq_true rfl, Nat.le_of_ble_eq_true rfl⟩ hK hP hE hS hg hl.1 rfl (Nat.le_of_ble_eq_true rfl) ⟨Nat.zero_le _, Nat.zero_le _⟩ dX12_wideOf_2 (fun H locs hP hS => ?_)
  refine lv_aload_n (pc := 5) hx hb dX12_wideOf_5 rfl (lv_at hl 0 rfl) ?_
  refine lv_iconst (pc := 6) (v := 0) hx hb dX12_wideOf_6 (by decide) ?_
  obtain ⟨σ3, hv, h⟩ := zl_some h
  refine xpI (pc := 7) (j := 32) zc12 hx hb hts hown hK hP hS hv rfl rfl rfl zf_X12_372 dX12_wideOf_7 (fun H locs hP hS => ?_)
  refine lv_aload_n (pc := 10) hx hb dX12_wideOf_10 rfl (lv_at hl 0 rfl) ?_
  refine lv_iload_n (pc := 11) hx hb dX12_wideOf_11 rfl (lv_at hl 2 rfl) ?_
  obtain ⟨_, hg, h⟩ := zl_some h
  obtain ⟨v4, σ5, hv, h⟩ := zb_some h
  refine xcallVv (pc := 12) (As := [.int x2]) (rest := []) ⟨hx, hb, hml, hown, hts⟩ (c_X12_adds l D c o g N hv) zc12 zV_X12_381 rfl zd_X12_adds ⟨Nat.le_of_ble_eq_true rfl, Nat.le_of_ble_eq_true rfl⟩ hK hP hE hS hg hl.1 rfl (Nat.le_of_ble_eq_true rfl) ⟨Nat.zero_le _, Nat.zero_le _⟩ dX12_wideOf_12 (fun H locs hP hS => ?_)
  refine lv_aload_n (pc := 15) hx hb dX12_wideOf_15 rfl (lv_at hl 0 rfl) ?_
  obtain ⟨v6, hv, h⟩ := zl_some h
  refine xgI (pc := 16) (j := 32) zc12 hx hb hts hown hK hP hv rfl zf_X12_372 dX12_wideOf_16 ?_
  exact xreti (pc := 19) hx hb hr hlocks hP hK hE hS h dX12_wideOf_19
def F_X12_nodesOf_4 (N : Nat) (x0 : Nat) (x1 : Int32) (again4 : (Int32 × Int32 × zS) → Option (Int32 × zS)) : Int32 × Int32 × zS → Option (Int32 × zS)
  | (x2, x3, σ) =>
  zl (gR 12 1 x0 σ) fun v1 =>
  zl (aI 14 v1 0 σ) fun v2 =>
  if v2 ≤ x3 then
    (some (x2, σ))
  else
    (zl (gC 12 x0) fun _ => zb (f_X12_wideOf N x0 x1 x3 σ) fun v3 σ4 =>
    again4 (x2 + v3, x3 + 1, σ4))
def f_X12_nodesOf (N : Nat) (x0 : Nat) (x1 : Int32) (σ : zS) : Option (Int32 × zS) :=
  zlp (F_X12_nodesOf_4 N x0 x1) N (0, 0, σ)
set_option maxHeartbeats 4000000 in
set_option maxRecDepth 100000 in
theorem c_X12_nodesOf (l : Launch) (D : va_G) (c : zC) (o : Nat) (g : zEp) (N : Nat) {x0 : Nat} {x1 : Int32} {σ : zS} {ρ : Int32 × zS} (h : f_X12_nodesOf N x0 x1 σ = some ρ) : Met l yX12_nodesOf zs_X12_nodesOf (zr 10) (va_Pc [.ref (o + x0), .int x1] (zG D c o g σ)) (zQi D c o g ρ) 0 0 (zA o) := by
  refine zMetG (by decide) (Nat.le_of_ble_eq_true rfl) ?_
  intro p e s m below meth cd ⟨hx, hb, hr, hml, hown, hts, hlocks⟩ hP hK hE ls hl
  have hS : va_S (zA o) s.heap s.heap [] := va_S.rf
  have hl : lv_has ls 4 [(0, .ref (o + x0)), (1, .int x1)] := hl
  rw [f_X12_nodesOf.eq_1] at h
  refine lv_iconst (pc := 0) (v := 0) hx hb dX12_nodesOf_0 (by decide) ?_
  refine lv_istore_n (pc := 1) (lv' := [(2, .int 0), (0, .ref (o + x0)), (1, .int x1)]) hx hb dX12_nodesOf_1 rfl hl (by decide) rfl (fun ls hl => ?_)
  refine lv_iconst (pc := 2) (v := 0) hx hb dX12_nodesOf_2 (by decide) ?_
  refine lv_istore_n (pc := 3) (lv' := [(3, .int 0), (2, .int 0), (0, .ref (o + x0)), (1, .int x1)]) hx hb dX12_nodesOf_3 rfl hl (by decide) rfl (fun ls hl => ?_)
  have L4_1 : ∀ (n : Nat) (t : Int32 × Int32 × zS), zlp (F_X12_nodesOf_4 N x0 x1) n t = some ρ → ∀ (H : Heap) (locs : List Loc) (ls : Array Slot), zP D c o (zabs o (t.2.2)) H → va_S (zA o) s.heap H locs → lv_has ls 4 [(2, .int (t.1)), (3, .int (t.2.1)), (0, .ref (o + x0)), (1, .int x1)] → W p l e (zr 10) s m (([.ref (o + x0), .int x1] : List Value).toArray) below meth cd H locs 0 0 (MQ below (zQi D c o g ρ) (([.ref (o + x0), .int x1] : List Value).toArray) s 0 0 (zA o)) (F0 m 4 ls []) := by
    refine zlp_ind (fun ag1 ih1 t h H locs ls hP hS hl => ?_)
    obtain ⟨x2_1, x3_1, σ1⟩ := t
    have hP : zP D c o (zabs o σ1) H := hP
    have hl : lv_has ls 4 [(2, .int x2_1), (3, .int x3_1), (0, .ref (o + x0)), (1, .int x1)] := hl
    rw [F_X12_nodesOf_4.eq_1] at h
    show W p l e (zr 10) s m (([.ref (o + x0), .int x1] : List Value).toArray) below meth cd H locs 0 0 (MQ below (zQi D c o g ρ) (([.ref (o + x0), .int x1] : List Value).toArray) s 0 0 (zA o)) (F0 m 4 ls [])
    refine lv_iload_n (pc := 4) hx hb dX12_nodesOf_4 rfl (lv_at hl 1 rfl) ?_
    refine lv_aload_n (pc := 5) hx hb dX12_nodesOf_5 rfl (lv_at hl 2 rfl) ?_
    obtain ⟨v2, hv, h⟩ := zl_some h
    refine xgR (pc := 6) (j := 1) zc12 hx hb hts hown hK hP hv rfl zf_X12_9 dX12_nodesOf_6 ?_
    refine lv_iconst (pc := 9) (v := 0) hx hb dX12_nodesOf_9 (by decide) ?_
    obtain ⟨v3, hv, h⟩ := zl_some h
    refine xaI (pc := 10) hx hb hK hP hv dX12_nodesOf_10 ?_
    refine lv_icmp_ge (pc := 11) (tgt := 29) hx hb dX12_nodesOf_11 (by decide) (fun c1 => ?_) (fun c1 => ?_)
    · rw [if_pos c1] at h
      refine lv_iload_n (pc := 29) hx hb dX12_nodesOf_29 rfl (lv_at hl 0 rfl) ?_
      exact xreti (pc := 30) hx hb hr hlocks hP hK hE hS h dX12_nodesOf_30
    · rw [if_neg c1] at h
      refine lv_iload_n (pc := 14) hx hb dX12_nodesOf_14 rfl (lv_at hl 0 rfl) ?_
      refine lv_aload_n (pc := 15) hx hb dX12_nodesOf_15 rfl (lv_at hl 2 rfl) ?_
      refine lv_iload_n (pc := 16) hx hb dX12_nodesOf_16 rfl (lv_at hl 3 rfl) ?_
      refine lv_iload_n (pc := 17) hx hb dX12_nodesOf_17 rfl (lv_at hl 1 rfl) ?_
      obtain ⟨_, hg, h⟩ := zl_some h
      obtain ⟨v4, σ5, hv, h⟩ := zb_some h
      refine xcallVi (pc := 18) (As := [.int x1, .int x3_1]) (rest := [.int x2_1]) ⟨hx, hb, hml, hown, hts⟩ (c_X12_wideOf l D c o g N hv) zc12 zV_X12_384 rfl zd_X12_wideOf ⟨Nat.le_of_ble_eq_true rfl, Nat.le_of_ble_eq_true rfl⟩ hK hP hE hS hg hl.1 rfl (Nat.le_of_ble_eq_true rfl) ⟨Nat.zero_le _, Nat.zero_le _⟩ dX12_nodesOf_18 (fun H locs hP hS => ?_)
      refine lv_iadd (pc := 21) hx hb dX12_nodesOf_21 ?_
      refine lv_istore_n (pc := 22) (lv' := [(2, .int (x2_1 + v4)), (3, .int x3_1), (0, .ref (o + x0)), (1, .int x1)]) hx hb dX12_nodesOf_22 rfl hl (by decide) rfl (fun ls hl => ?_)
      refine lv_iinc (pc := 23) (v := x3_1 + 1) (lv' := [(3, .int (x3_1 + 1)), (2, .int (x2_1 + v4)), (0, .ref (o + x0)), (1, .int x1)]) hx hb dX12_nodesOf_23 hl (k := 1) rfl rfl (by decide) rfl (fun ls hl => ?_)
      refine lv_goto (pc := 26) (tgt := 4) hx hb dX12_nodesOf_26 (by decide) ?_
      exact ih1 (x2_1 + v4, x3_1 + 1, σ5) h _ _ ls hP hS (lv_sub hl [1, 0, 2, 3] rfl)
  exact L4_1 N (0, 0, σ) h _ _ ls hP hS (lv_sub hl [1, 0, 2, 3] rfl)
def f_X12_nodes (N : Nat) (x0 : Nat) (x1 : Int32) (σ : zS) : Option (Int32 × zS) :=
  zl (gC 12 x0) fun _ => zb (f_X12_isRegister N x0 x1 σ) fun v1 σ2 =>
  if v1 = 0 then
    (some ((-2), σ2))
  else
    (zl (gC 12 x0) fun _ => zb (f_X12_takesOrder N x0 σ2) fun v3 σ4 =>
    zl (gC 12 x0) fun _ => zb (f_X12_nodesOf N x0 x1 σ4) fun v5 σ6 =>
    some (v5, σ6))
set_option maxHeartbeats 4000000 in
set_option maxRecDepth 100000 in
theorem c_X12_nodes (l : Launch) (D : va_G) (c : zC) (o : Nat) (g : zEp) (N : Nat) {x0 : Nat} {x1 : Int32} {σ : zS} {ρ : Int32 × zS} (h : f_X12_nodes N x0 x1 σ = some ρ) : Met l yX12_nodes zs_X12_nodes (zr 12) (va_Pc [.ref (o + x0), .int x1] (zG D c o g σ)) (zQi D c o g ρ) 0 0 (zA o) := by
  refine zMetG (by decide) (Nat.le_of_ble_eq_true rfl) ?_
  intro p e s m below meth cd ⟨hx, hb, hr, hml, hown, hts, hlocks⟩ hP hK hE ls hl
  have hS : va_S (zA o) s.heap s.heap [] := va_S.rf
  have hl : lv_has ls 2 [(0, .ref (o + x0)), (1, .int x1)] := hl
  rw [f_X12_nodes.eq_1] at h
  refine lv_aload_n (pc := 0) hx hb dX12_nodes_0 rfl (lv_at hl 0 rfl) ?_
  refine lv_iload_n (pc := 1) hx hb dX12_nodes_1 rfl (lv_at hl 1 rfl) ?_
  obtain ⟨_, hg, h⟩ := zl_some h
  obtain ⟨v1, σ2, hv, h⟩ := zb_some h
  refine xcallVi (pc := 2) (As := [.int x1]) (rest := []) ⟨hx, hb, hml, hown, hts⟩ (c_X12_isRegister l D c o g N hv) zc12 zV_X12_321 rfl zd_X12_isRegister ⟨Nat.le_of_ble_eq_true rfl, Nat.le_of_ble_eq_true rfl⟩ hK hP hE hS hg hl.1 rfl (Nat.le_of_ble_eq_true rfl) ⟨Nat.zero_le _, Nat.zero_le _⟩ dX12_nodes_2 (fun H locs hP hS => ?_)
  refine lv_if_ne (pc := 5) (tgt := 11) hx hb dX12_nodes_5 (by decide) (fun c1 => ?_) (fun c1 => ?_)
  · rw [if_neg c1] at h
    refine lv_aload_n (pc := 11) hx hb dX12_nodes_11 rfl (lv_at hl 0 rfl) ?_
    obtain ⟨_, hg, h⟩ := zl_some h
    obtain ⟨v3, σ4, hv, h⟩ := zb_some h
    refine xcallVv (pc := 12) (As := []) (rest := []) ⟨hx, hb, hml, hown, hts⟩ (c_X12_takesOrder l D c o g N hv) zc12 zV_X12_387 rfl zd_X12_takesOrder ⟨Nat.le_of_ble_eq_true rfl, Nat.le_of_ble_eq_true rfl⟩ hK hP hE hS hg hl.1 rfl (Nat.le_of_ble_eq_true rfl) ⟨Nat.zero_le _, Nat.zero_le _⟩ dX12_nodes_12 (fun H locs hP hS => ?_)
    refine lv_aload_n (pc := 15) hx hb dX12_nodes_15 rfl (lv_at hl 0 rfl) ?_
    refine lv_iload_n (pc := 16) hx hb dX12_nodes_16 rfl (lv_at hl 1 rfl) ?_
    obtain ⟨_, hg, h⟩ := zl_some h
    obtain ⟨v5, σ6, hv, h⟩ := zb_some h
    refine xcallVi (pc := 17) (As := [.int x1]) (rest := []) ⟨hx, hb, hml, hown, hts⟩ (c_X12_nodesOf l D c o g N hv) zc12 zV_X12_390 rfl zd_X12_nodesOf ⟨Nat.le_of_ble_eq_true rfl, Nat.le_of_ble_eq_true rfl⟩ hK hP hE hS hg hl.1 rfl (Nat.le_of_ble_eq_true rfl) ⟨Nat.zero_le _, Nat.zero_le _⟩ dX12_nodes_17 (fun H locs hP hS => ?_)
    exact xreti (pc := 20) hx hb hr hlocks hP hK hE hS h dX12_nodes_20
  · rw [if_pos c1] at h
    refine lv_bipush (pc := 8) (v := (-2)) hx hb dX12_nodes_8 (by decide) ?_
    exact xreti (pc := 10) hx hb hr hlocks hP hK hE hS h dX12_nodes_10
def F_X12_netOf_25 (N : Nat) (x0 : Nat) (x1 : Int32) (x2 : Int32) (again8 : (Int32 × Int32 × zS) → Option (Int32 × zS)) (again25 : (Int32 × zS) → Option (Int32 × zS)) : Int32 × zS → Option (Int32 × zS)
  | (x3, σ) =>
  if 10 ≤ x3 then
    (zl (gI 12 32 x0 σ) fun v6 =>
    again8 (x1 + v6, x2 + 1, σ))
  else
    (zl (gC 12 x0) fun _ => zb (f_X12_laysOut N x0 x3 σ) fun v7 σ8 =>
    zl (gC 12 x0) fun _ => zb (f_X12_adds N x0 x2 σ8) fun v9 σ10 =>
    again25 (x3 + 1, σ10))
def F_X12_netOf_8 (N : Nat) (x0 : Nat) (again8 : (Int32 × Int32 × zS) → Option (Int32 × zS)) : Int32 × Int32 × zS → Option (Int32 × zS)
  | (x1, x2, σ) =>
  zl (gR 12 1 x0 σ) fun v3 =>
  zl (aI 14 v3 0 σ) fun v4 =>
  if v4 ≤ x2 then
    (some (x1, σ))
  else
    (zl (pI 12 32 x0 0 σ) fun σ5 =>
    zlp (F_X12_netOf_25 N x0 x1 x2 again8) N (0, σ5))
def f_X12_netOf (N : Nat) (x0 : Nat) (σ : zS) : Option (Int32 × zS) :=
  zl (gC 12 x0) fun _ => zb (f_X12_takesOrder N x0 σ) fun v1 σ2 =>
  zlp (F_X12_netOf_8 N x0) N (0, 0, σ2)
set_option maxHeartbeats 4000000 in
set_option maxRecDepth 100000 in
theorem c_X12_netOf (l : Launch) (D : va_G) (c : zC) (o : Nat) (g : zEp) (N : Nat) {x0 : Nat} {σ : zS} {ρ : Int32 × zS} (h : f_X12_netOf N x0 σ = some ρ) : Met l yX12_netOf zs_X12_netOf (zr 8) (va_Pc [.ref (o + x0)] (zG D c o g σ)) (zQi D c o g ρ) 0 0 (zA o) := by
  refine zMetG (by decide) (Nat.le_of_ble_eq_true rfl) ?_
  intro p e s m below meth cd ⟨hx, hb, hr, hml, hown, hts, hlocks⟩ hP hK hE ls hl
  have hS : va_S (zA o) s.heap s.heap [] := va_S.rf
  have hl : lv_has ls 4 [(0, .ref (o + x0))] := hl
  rw [f_X12_netOf.eq_1] at h
  refine lv_aload_n (pc := 0) hx hb dX12_netOf_0 rfl (lv_at hl 0 rfl) ?_
  obtain ⟨_, hg, h⟩ := zl_some h
  obtain ⟨v1, σ2, hv, h⟩ := zb_some h
  refine xcallVv (pc := 1) (As := []) (rest := []) ⟨hx, hb, hml, hown, hts⟩ (c_X12_takesOrder l D c o g N hv) zc12 zV_X12_387 rfl zd_X12_takesOrder ⟨Nat.le_of_ble_eq_true rfl, Nat.le_of_ble_eq_true rfl⟩ hK hP hE hS hg hl.1 rfl (Nat.le_of_ble_eq_true rfl) ⟨Nat.zero_le _, Nat.zero_le _⟩ dX12_netOf_1 (fun H locs hP hS => ?_)
  refine lv_iconst (pc := 4) (v := 0) hx hb dX12_netOf_4 (by decide) ?_
  refine lv_istore_n (pc := 5) (lv' := [(1, .int 0), (0, .ref (o + x0))]) hx hb dX12_netOf_5 rfl hl (by decide) rfl (fun ls hl => ?_)
  refine lv_iconst (pc := 6) (v := 0) hx hb dX12_netOf_6 (by decide) ?_
  refine lv_istore_n (pc := 7) (lv' := [(2, .int 0), (1, .int 0), (0, .ref (o + x0))]) hx hb dX12_netOf_7 rfl hl (by decide) rfl (fun ls hl => ?_)
  have L8_3 : ∀ (n : Nat) (t : Int32 × Int32 × zS), zlp (F_X12_netOf_8 N x0) n t = some ρ → ∀ (H : Heap) (locs : List Loc) (ls : Array Slot), zP D c o (zabs o (t.2.2)) H → va_S (zA o) s.heap H locs → lv_has ls 4 [(1, .int (t.1)), (2, .int (t.2.1)), (0, .ref (o + x0))] → W p l e (zr 8) s m (([.ref (o + x0)] : List Value).toArray) below meth cd H locs 0 0 (MQ below (zQi D c o g ρ) (([.ref (o + x0)] : List Value).toArray) s 0 0 (zA o)) (F0 m 8 ls []) := by
    refine zlp_ind (fun ag3 ih3 t h H locs ls hP hS hl => ?_)
    obtain ⟨x1_3, x2_3, σ3⟩ := t
    have hP : zP D c o (zabs o σ3) H := hP
    have hl : lv_has ls 4 [(1, .int x1_3), (2, .int x2_3), (0, .ref (o + x0))] := hl
    rw [F_X12_netOf_8.eq_1] at h
    show W p l e (zr 8) s m (([.ref (o + x0)] : List Value).toArray) below meth cd H locs 0 0 (MQ below (zQi D c o g ρ) (([.ref (o + x0)] : List Value).toArray) s 0 0 (zA o)) (F0 m 8 ls [])
    refine lv_iload_n (pc := 8) hx hb dX12_netOf_8 rfl (lv_at hl 1 rfl) ?_
    refine lv_aload_n (pc := 9) hx hb dX12_netOf_9 rfl (lv_at hl 2 rfl) ?_
    obtain ⟨v4, hv, h⟩ := zl_some h
    refine xgR (pc := 10) (j := 1) zc12 hx hb hts hown hK hP hv rfl zf_X12_9 dX12_netOf_10 ?_
    refine lv_iconst (pc := 13) (v := 0) hx hb dX12_netOf_13 (by decide) ?_
    obtain ⟨v5, hv, h⟩ := zl_some h
    refine xaI (pc := 14) hx hb hK hP hv dX12_netOf_14 ?_
    refine lv_icmp_ge (pc := 15) (tgt := 60) hx hb dX12_netOf_15 (by decide) (fun c1 => ?_) (fun c1 => ?_)
    · rw [if_pos c1] at h
      refine lv_iload_n (pc := 60) hx hb dX12_netOf_60 rfl (lv_at hl 0 rfl) ?_
      exact xreti (pc := 61) hx hb hr hlocks hP hK hE hS h dX12_netOf_61
    · rw [if_neg c1] at h
      refine lv_aload_n (pc := 18) hx hb dX12_netOf_18 rfl (lv_at hl 2 rfl) ?_
      refine lv_iconst (pc := 19) (v := 0) hx hb dX12_netOf_19 (by decide) ?_
      obtain ⟨σ6, hv, h⟩ := zl_some h
      refine xpI (pc := 20) (j := 32) zc12 hx hb hts hown hK hP hS hv rfl rfl rfl zf_X12_372 dX12_netOf_20 (fun H locs hP hS => ?_)
      refine lv_iconst (pc := 23) (v := 0) hx hb dX12_netOf_23 (by decide) ?_
      refine lv_istore_n (pc := 24) (lv' := [(3, .int 0), (1, .int x1_3), (2, .int x2_3), (0, .ref (o + x0))]) hx hb dX12_netOf_24 rfl hl (by decide) rfl (fun ls hl => ?_)
      have L25_7 : ∀ (n : Nat) (t : Int32 × zS), zlp (F_X12_netOf_25 N x0 x1_3 x2_3 ag3) n t = some ρ → ∀ (H : Heap) (locs : List Loc) (ls : Array Slot), zP D c o (zabs o (t.2)) H → va_S (zA o) s.heap H locs → lv_has ls 4 [(3, .int (t.1)), (0, .ref (o + x0)), (1, .int x1_3), (2, .int x2_3)] → W p l e (zr 8) s m (([.ref (o + x0)] : List Value).toArray) below meth cd H locs 0 0 (MQ below (zQi D c o g ρ) (([.ref (o + x0)] : List Value).toArray) s 0 0 (zA o)) (F0 m 25 ls []) := by
        refine zlp_ind (fun ag7 ih7 t h H locs ls hP hS hl => ?_)
        obtain ⟨x3_7, σ7⟩ := t
        have hP : zP D c o (zabs o σ7) H := hP
        have hl : lv_has ls 4 [(3, .int x3_7), (0, .ref (o + x0)), (1, .int x1_3), (2, .int x2_3)] := hl
        rw [F_X12_netOf_25.eq_1] at h
        show W p l e (zr 8) s m (([.ref (o + x0)] : List Value).toArray) below meth cd H locs 0 0 (MQ below (zQi D c o g ρ) (([.ref (o + x0)] : List Value).toArray) s 0 0 (zA o)) (F0 m 25 ls [])
        refine lv_iload_n (pc := 25) hx hb dX12_netOf_25 rfl (lv_at hl 0 rfl) ?_
        refine lv_bipush (pc := 26) (v := 10) hx hb dX12_netOf_26 (by decide) ?_
        refine lv_icmp_ge (pc := 28) (tgt := 47) hx hb dX12_netOf_28 (by decide) (fun c1 => ?_) (fun c1 => ?_)
        · rw [if_pos c1] at h
          refine lv_iload_n (pc := 47) hx hb dX12_netOf_47 rfl (lv_at hl 2 rfl) ?_
          refine lv_aload_n (pc := 48) hx hb dX12_netOf_48 rfl (lv_at hl 1 rfl) ?_
          obtain ⟨v8, hv, h⟩ := zl_some h
          refine xgI (pc := 49) (j := 32) zc12 hx hb hts hown hK hP hv rfl zf_X12_372 dX12_netOf_49 ?_
          refine lv_iadd (pc := 52) hx hb dX12_netOf_52 ?_
          refine lv_istore_n (pc := 53) (lv' := [(1, .int (x1_3 + v8)), (3, .int x3_7), (0, .ref (o + x0)), (2, .int x2_3)]) hx hb dX12_netOf_53 rfl hl (by decide) rfl (fun ls hl => ?_)
          refine lv_iinc (pc := 54) (v := x2_3 + 1) (lv' := [(2, .int (x2_3 + 1)), (1, .int (x1_3 + v8)), (3, .int x3_7), (0, .ref (o + x0))]) hx hb dX12_netOf_54 hl (k := 3) rfl rfl (by decide) rfl (fun ls hl => ?_)
          refine lv_goto (pc := 57) (tgt := 8) hx hb dX12_netOf_57 (by decide) ?_
          exact ih3 (x1_3 + v8, x2_3 + 1, σ7) h _ _ ls hP hS (lv_sub hl [1, 0, 3] rfl)
        · rw [if_neg c1] at h
          refine lv_aload_n (pc := 31) hx hb dX12_netOf_31 rfl (lv_at hl 1 rfl) ?_
          refine lv_iload_n (pc := 32) hx hb dX12_netOf_32 rfl (lv_at hl 0 rfl) ?_
          obtain ⟨_, hg, h⟩ := zl_some h
          obtain ⟨v9, σ10, hv, h⟩ := zb_some h
          refine xcallVv (pc := 33) (As := [.int x3_7]) (rest := []) ⟨hx, hb, hml, hown, hts⟩ (c_X12_laysOut l D c o g N hv) zc12 zV_X12_378 rfl zd_X12_laysOut ⟨Nat.le_of_ble_eq_true rfl, Nat.le_of_ble_eq_true rfl⟩ hK hP hE hS hg hl.1 rfl (Nat.le_of_ble_eq_true rfl) ⟨Nat.zero_le _, Nat.zero_le _⟩ dX12_netOf_33 (fun H locs hP hS => ?_)
          refine lv_aload_n (pc := 36) hx hb dX12_netOf_36 rfl (lv_at hl 1 rfl) ?_
          refine lv_iload_n (pc := 37) hx hb dX12_netOf_37 rfl (lv_at hl 3 rfl) ?_
          obtain ⟨_, hg, h⟩ := zl_some h
          obtain ⟨v11, σ12, hv, h⟩ := zb_some h
          refine xcallVv (pc := 38) (As := [.int x2_3]) (rest := []) ⟨hx, hb, hml, hown, hts⟩ (c_X12_adds l D c o g N hv) zc12 zV_X12_381 rfl zd_X12_adds ⟨Nat.le_of_ble_eq_true rfl, Nat.le_of_ble_eq_true rfl⟩ hK hP hE hS hg hl.1 rfl (Nat.le_of_ble_eq_true rfl) ⟨Nat.zero_le _, Nat.zero_le _⟩ dX12_netOf_38 (fun H locs hP hS => ?_)
          refine lv_iinc (pc := 41) (v := x3_7 + 1) (lv' := [(3, .int (x3_7 + 1)), (0, .ref (o + x0)), (1, .int x1_3), (2, .int x2_3)]) hx hb dX12_netOf_41 hl (k := 0) rfl rfl (by decide) rfl (fun ls hl => ?_)
          refine lv_goto (pc := 44) (tgt := 25) hx hb dX12_netOf_44 (by decide) ?_
          exact ih7 (x3_7 + 1, σ12) h _ _ ls hP hS (lv_sub hl [0, 1, 2, 3] rfl)
      exact L25_7 N (0, σ6) h _ _ ls hP hS (lv_sub hl [0, 3, 1, 2] rfl)
  exact L8_3 N (0, 0, σ2) h _ _ ls hP hS (lv_sub hl [1, 0, 2] rfl)
def f_X12_net (N : Nat) (x0 : Nat) (σ : zS) : Option (Int32 × zS) :=
  zl (gC 12 x0) fun _ => zb (f_X12_isWorld N x0 σ) fun v1 σ2 =>
  if v1 = 0 then
    (some ((-2), σ2))
  else
    (zl (gC 12 x0) fun _ => zb (f_X12_netOf N x0 σ2) fun v3 σ4 =>
    some (v3, σ4))
set_option maxHeartbeats 4000000 in
set_option maxRecDepth 100000 in
theorem c_X12_net (l : Launch) (D : va_G) (c : zC) (o : Nat) (g : zEp) (N : Nat) {x0 : Nat} {σ : zS} {ρ : Int32 × zS} (h : f_X12_net N x0 σ = some ρ) : Met l yX12_net zs_X12_net (zr 10) (va_Pc [.ref (o + x0)] (zG D c o g σ)) (zQi D c o g ρ) 0 0 (zA o) := by
  refine zMetG (by decide) (Nat.le_of_ble_eq_true rfl) ?_
  intro p e s m below meth cd ⟨hx, hb, hr, hml, hown, hts, hlocks⟩ hP hK hE ls hl
  have hS : va_S (zA o) s.heap s.heap [] := va_S.rf
  have hl : lv_has ls 1 [(0, .ref (o + x0))] := hl
  rw [f_X12_net.eq_1] at h
  refine lv_aload_n (pc := 0) hx hb dX12_net_0 rfl (lv_at hl 0 rfl) ?_
  obtain ⟨_, hg, h⟩ := zl_some h
  obtain ⟨v1, σ2, hv, h⟩ := zb_some h
  refine xcallVi (pc := 1) (As := []) (rest := []) ⟨hx, hb, hml, hown, hts⟩ (c_X12_isWorld l D c o g N hv) zc12 zV_X12_98 rfl zd_X12_isWorld ⟨Nat.le_of_ble_eq_true rfl, Nat.le_of_ble_eq_true rfl⟩ hK hP hE hS hg hl.1 rfl (Nat.le_of_ble_eq_true rfl) ⟨Nat.zero_le _, Nat.zero_le _⟩ dX12_net_1 (fun H locs hP hS => ?_)
  refine lv_if_eq (pc := 4) (tgt := 14) hx hb dX12_net_4 (by decide) (fun c1 => ?_) (fun c1 => ?_)
  · rw [if_pos c1] at h
    refine lv_bipush (pc := 14) (v := (-2)) hx hb dX12_net_14 (by decide) ?_
    exact xreti (pc := 16) hx hb hr hlocks hP hK hE hS h dX12_net_16
  · rw [if_neg c1] at h
    refine lv_aload_n (pc := 7) hx hb dX12_net_7 rfl (lv_at hl 0 rfl) ?_
    obtain ⟨_, hg, h⟩ := zl_some h
    obtain ⟨v3, σ4, hv, h⟩ := zb_some h
    refine xcallVi (pc := 8) (As := []) (rest := []) ⟨hx, hb, hml, hown, hts⟩ (c_X12_netOf l D c o g N hv) zc12 zV_X12_393 rfl zd_X12_netOf ⟨Nat.le_of_ble_eq_true rfl, Nat.le_of_ble_eq_true rfl⟩ hK hP hE hS hg hl.1 rfl (Nat.le_of_ble_eq_true rfl) ⟨Nat.zero_le _, Nat.zero_le _⟩ dX12_net_8 (fun H locs hP hS => ?_)
    refine lv_goto (pc := 11) (tgt := 16) hx hb dX12_net_11 (by decide) ?_
    exact xreti (pc := 16) hx hb hr hlocks hP hK hE hS h dX12_net_16
def f_X12_wide (N : Nat) (x0 : Nat) (x1 : Int32) (x2 : Int32) (σ : zS) : Option (Int32 × zS) :=
  zl (gC 12 x0) fun _ => zb (f_X12_isRegister N x0 x1 σ) fun v1 σ2 =>
  if v1 = 0 then
    (some ((-2), σ2))
  else
    (zl (gC 12 x0) fun _ => zb (f_X12_isName N x0 x2 σ2) fun v3 σ4 =>
    if v3 = 0 then
      (some ((-2), σ4))
    else
      (zl (gC 12 x0) fun _ => zb (f_X12_takesOrder N x0 σ4) fun v5 σ6 =>
      zl (gC 12 x0) fun _ => zb (f_X12_wideOf N x0 x1 x2 σ6) fun v7 σ8 =>
      some (v7, σ8)))
set_option maxHeartbeats 4000000 in
set_option maxRecDepth 100000 in
theorem c_X12_wide (l : Launch) (D : va_G) (c : zC) (o : Nat) (g : zEp) (N : Nat) {x0 : Nat} {x1 : Int32} {x2 : Int32} {σ : zS} {ρ : Int32 × zS} (h : f_X12_wide N x0 x1 x2 σ = some ρ) : Met l yX12_wide zs_X12_wide (zr 10) (va_Pc [.ref (o + x0), .int x1, .int x2] (zG D c o g σ)) (zQi D c o g ρ) 0 0 (zA o) := by
  refine zMetG (by decide) (Nat.le_of_ble_eq_true rfl) ?_
  intro p e s m below meth cd ⟨hx, hb, hr, hml, hown, hts, hlocks⟩ hP hK hE ls hl
  have hS : va_S (zA o) s.heap s.heap [] := va_S.rf
  have hl : lv_has ls 3 [(0, .ref (o + x0)), (1, .int x1), (2, .int x2)] := hl
  rw [f_X12_wide.eq_1] at h
  refine lv_aload_n (pc := 0) hx hb dX12_wide_0 rfl (lv_at hl 0 rfl) ?_
  refine lv_iload_n (pc := 1) hx hb dX12_wide_1 rfl (lv_at hl 1 rfl) ?_
  obtain ⟨_, hg, h⟩ := zl_some h
  obtain ⟨v1, σ2, hv, h⟩ := zb_some h
  refine xcallVi (pc := 2) (As := [.int x1]) (rest := []) ⟨hx, hb, hml, hown, hts⟩ (c_X12_isRegister l D c o g N hv) zc12 zV_X12_321 rfl zd_X12_isRegister ⟨Nat.le_of_ble_eq_true rfl, Nat.le_of_ble_eq_true rfl⟩ hK hP hE hS hg hl.1 rfl (Nat.le_of_ble_eq_true rfl) ⟨Nat.zero_le _, Nat.zero_le _⟩ dX12_wide_2 (fun H locs hP hS => ?_)
  refine lv_if_eq (pc := 5) (tgt := 16) hx hb dX12_wide_5 (by decide) (fun c1 => ?_) (fun c1 => ?_)
  · rw [if_pos c1] at h
    refine lv_bipush (pc := 16) (v := (-2)) hx hb dX12_wide_16 (by decide) ?_
    exact xreti (pc := 18) hx hb hr hlocks hP hK hE hS h dX12_wide_18
  · rw [if_neg c1] at h
    refine lv_aload_n (pc := 8) hx hb dX12_wide_8 rfl (lv_at hl 0 rfl) ?_
    refine lv_iload_n (pc := 9) hx hb dX12_wide_9 rfl (lv_at hl 2 rfl) ?_
    obtain ⟨_, hg, h⟩ := zl_some h
    obtain ⟨v3, σ4, hv, h⟩ := zb_some h
    refine xcallVi (pc := 10) (As := [.int x2]) (rest := []) ⟨hx, hb, hml, hown, hts⟩ (c_X12_isName l D c o g N hv) zc12 zV_X12_332 rfl zd_X12_isName ⟨Nat.le_of_ble_eq_true rfl, Nat.le_of_ble_eq_true rfl⟩ hK hP hE hS hg hl.1 rfl (Nat.le_of_ble_eq_true rfl) ⟨Nat.zero_le _, Nat.zero_le _⟩ dX12_wide_10 (fun H locs hP hS => ?_)
    refine lv_if_ne (pc := 13) (tgt := 19) hx hb dX12_wide_13 (by decide) (fun c1 => ?_) (fun c1 => ?_)
    · rw [if_neg c1] at h
      refine lv_aload_n (pc := 19) hx hb dX12_wide_19 rfl (lv_at hl 0 rfl) ?_
      obtain ⟨_, hg, h⟩ := zl_some h
      obtain ⟨v5, σ6, hv, h⟩ := zb_some h
      refine xcallVv (pc := 20) (As := []) (rest := []) ⟨hx, hb, hml, hown, hts⟩ (c_X12_takesOrder l D c o g N hv) zc12 zV_X12_387 rfl zd_X12_takesOrder ⟨Nat.le_of_ble_eq_true rfl, Nat.le_of_ble_eq_true rfl⟩ hK hP hE hS hg hl.1 rfl (Nat.le_of_ble_eq_true rfl) ⟨Nat.zero_le _, Nat.zero_le _⟩ dX12_wide_20 (fun H locs hP hS => ?_)
      refine lv_aload_n (pc := 23) hx hb dX12_wide_23 rfl (lv_at hl 0 rfl) ?_
      refine lv_iload_n (pc := 24) hx hb dX12_wide_24 rfl (lv_at hl 1 rfl) ?_
      refine lv_iload_n (pc := 25) hx hb dX12_wide_25 rfl (lv_at hl 2 rfl) ?_
      obtain ⟨_, hg, h⟩ := zl_some h
      obtain ⟨v7, σ8, hv, h⟩ := zb_some h
      refine xcallVi (pc := 26) (As := [.int x1, .int x2]) (rest := []) ⟨hx, hb, hml, hown, hts⟩ (c_X12_wideOf l D c o g N hv) zc12 zV_X12_384 rfl zd_X12_wideOf ⟨Nat.le_of_ble_eq_true rfl, Nat.le_of_ble_eq_true rfl⟩ hK hP hE hS hg hl.1 rfl (Nat.le_of_ble_eq_true rfl) ⟨Nat.zero_le _, Nat.zero_le _⟩ dX12_wide_26 (fun H locs hP hS => ?_)
      exact xreti (pc := 29) hx hb hr hlocks hP hK hE hS h dX12_wide_29
    · rw [if_pos c1] at h
      refine lv_bipush (pc := 16) (v := (-2)) hx hb dX12_wide_16 (by decide) ?_
      exact xreti (pc := 18) hx hb hr hlocks hP hK hE hS h dX12_wide_18
def f_X12_order (N : Nat) (x0 : Nat) (x1 : Int32) (σ : zS) : Option (Int32 × zS) :=
  zl (gC 12 x0) fun _ => zb (f_X12_isName N x0 x1 σ) fun v1 σ2 =>
  if v1 = 0 then
    (some ((-2), σ2))
  else
    (zl (gR 12 1 x0 σ2) fun v3 =>
    zl (aI 14 v3 (33 + x1) σ2) fun v4 =>
    some (v4, σ2))
set_option maxHeartbeats 4000000 in
set_option maxRecDepth 100000 in
theorem c_X12_order (l : Launch) (D : va_G) (c : zC) (o : Nat) (g : zEp) (N : Nat) {x0 : Nat} {x1 : Int32} {σ : zS} {ρ : Int32 × zS} (h : f_X12_order N x0 x1 σ = some ρ) : Met l yX12_order zs_X12_order (zr 6) (va_Pc [.ref (o + x0), .int x1] (zG D c o g σ)) (zQi D c o g ρ) 0 0 (zA o) := by
  refine zMetG (by decide) (Nat.le_of_ble_eq_true rfl) ?_
  intro p e s m below meth cd ⟨hx, hb, hr, hml, hown, hts, hlocks⟩ hP hK hE ls hl
  have hS : va_S (zA o) s.heap s.heap [] := va_S.rf
  have hl : lv_has ls 2 [(0, .ref (o + x0)), (1, .int x1)] := hl
  rw [f_X12_order.eq_1] at h
  refine lv_aload_n (pc := 0) hx hb dX12_order_0 rfl (lv_at hl 0 rfl) ?_
  refine lv_iload_n (pc := 1) hx hb dX12_order_1 rfl (lv_at hl 1 rfl) ?_
  obtain ⟨_, hg, h⟩ := zl_some h
  obtain ⟨v1, σ2, hv, h⟩ := zb_some h
  refine xcallVi (pc := 2) (As := [.int x1]) (rest := []) ⟨hx, hb, hml, hown, hts⟩ (c_X12_isName l D c o g N hv) zc12 zV_X12_332 rfl zd_X12_isName ⟨Nat.le_of_ble_eq_true rfl, Nat.le_of_ble_eq_true rfl⟩ hK hP hE hS hg hl.1 rfl (Nat.le_of_ble_eq_true rfl) ⟨Nat.zero_le _, Nat.zero_le _⟩ dX12_order_2 (fun H locs hP hS => ?_)
  refine lv_if_eq (pc := 5) (tgt := 20) hx hb dX12_order_5 (by decide) (fun c1 => ?_) (fun c1 => ?_)
  · rw [if_pos c1] at h
    refine lv_bipush (pc := 20) (v := (-2)) hx hb dX12_order_20 (by decide) ?_
    exact xreti (pc := 22) hx hb hr hlocks hP hK hE hS h dX12_order_22
  · rw [if_neg c1] at h
    refine lv_aload_n (pc := 8) hx hb dX12_order_8 rfl (lv_at hl 0 rfl) ?_
    obtain ⟨v3, hv, h⟩ := zl_some h
    refine xgR (pc := 9) (j := 1) zc12 hx hb hts hown hK hP hv rfl zf_X12_9 dX12_order_9 ?_
    refine lv_bipush (pc := 12) (v := 33) hx hb dX12_order_12 (by decide) ?_
    refine lv_iload_n (pc := 14) hx hb dX12_order_14 rfl (lv_at hl 1 rfl) ?_
    refine lv_iadd (pc := 15) hx hb dX12_order_15 ?_
    obtain ⟨v4, hv, h⟩ := zl_some h
    refine xaI (pc := 16) hx hb hK hP hv dX12_order_16 ?_
    refine lv_goto (pc := 17) (tgt := 22) hx hb dX12_order_17 (by decide) ?_
    exact xreti (pc := 22) hx hb hr hlocks hP hK hE hS h dX12_order_22
def f_X12_swap (N : Nat) (x0 : Nat) (x1 : Int32) (σ : zS) : Option (Int32 × zS) :=
  zl (gC 12 x0) fun _ => zb (f_X12_isName N x0 x1 σ) fun v1 σ2 =>
  if v1 = 0 then
    (some ((-2), σ2))
  else
    (zl (gC 12 x0) fun _ => zb (f_X12_isName N x0 (x1 + 1) σ2) fun v3 σ4 =>
    if v3 = 0 then
      (some ((-2), σ4))
    else
      (zl (gR 12 1 x0 σ4) fun v5 =>
      zl (aI 14 v5 (33 + x1) σ4) fun v6 =>
      zl (gR 12 1 x0 σ4) fun v7 =>
      zl (gR 12 1 x0 σ4) fun v8 =>
      zl (aI 14 v8 ((33 + x1) + 1) σ4) fun v9 =>
      zl (sI 14 v7 (33 + x1) v9 σ4) fun σ10 =>
      zl (gR 12 1 x0 σ10) fun v11 =>
      zl (sI 14 v11 ((33 + x1) + 1) v6 σ10) fun σ12 =>
      zl (gC 12 x0) fun _ => zb (f_X12_netOf N x0 σ12) fun v13 σ14 =>
      some (v13, σ14)))
set_option maxHeartbeats 4000000 in
set_option maxRecDepth 100000 in
theorem c_X12_swap (l : Launch) (D : va_G) (c : zC) (o : Nat) (g : zEp) (N : Nat) {x0 : Nat} {x1 : Int32} {σ : zS} {ρ : Int32 × zS} (h : f_X12_swap N x0 x1 σ = some ρ) : Met l yX12_swap zs_X12_swap (zr 10) (va_Pc [.ref (o + x0), .int x1] (zG D c o g σ)) (zQi D c o g ρ) 0 0 (zA o) := by
  refine zMetG (by decide) (Nat.le_of_ble_eq_true rfl) ?_
  intro p e s m below meth cd ⟨hx, hb, hr, hml, hown, hts, hlocks⟩ hP hK hE ls hl
  have hS : va_S (zA o) s.heap s.heap [] := va_S.rf
  have hl : lv_has ls 3 [(0, .ref (o + x0)), (1, .int x1)] := hl
  rw [f_X12_swap.eq_1] at h
  refine lv_aload_n (pc := 0) hx hb dX12_swap_0 rfl (lv_at hl 0 rfl) ?_
  refine lv_iload_n (pc := 1) hx hb dX12_swap_1 rfl (lv_at hl 1 rfl) ?_
  obtain ⟨_, hg, h⟩ := zl_some h
  obtain ⟨v1, σ2, hv, h⟩ := zb_some h
  refine xcallVi (pc := 2) (As := [.int x1]) (rest := []) ⟨hx, hb, hml, hown, hts⟩ (c_X12_isName l D c o g N hv) zc12 zV_X12_332 rfl zd_X12_isName ⟨Nat.le_of_ble_eq_true rfl, Nat.le_of_ble_eq_true rfl⟩ hK hP hE hS hg hl.1 rfl (Nat.le_of_ble_eq_true rfl) ⟨Nat.zero_le _, Nat.zero_le _⟩ dX12_swap_2 (fun H locs hP hS => ?_)
  refine lv_if_eq (pc := 5) (tgt := 18) hx hb dX12_swap_5 (by decide) (fun c1 => ?_) (fun c1 => ?_)
  · rw [if_pos c1] at h
    refine lv_bipush (pc := 18) (v := (-2)) hx hb dX12_swap_18 (by decide) ?_
    exact xreti (pc := 20) hx hb hr hlocks hP hK hE hS h dX12_swap_20
  · rw [if_neg c1] at h
    refine lv_aload_n (pc := 8) hx hb dX12_swap_8 rfl (lv_at hl 0 rfl) ?_
    refine lv_iload_n (pc := 9) hx hb dX12_swap_9 rfl (lv_at hl 1 rfl) ?_
    refine lv_iconst (pc := 10) (v := 1) hx hb dX12_swap_10 (by decide) ?_
    refine lv_iadd (pc := 11) hx hb dX12_swap_11 ?_
    obtain ⟨_, hg, h⟩ := zl_some h
    obtain ⟨v3, σ4, hv, h⟩ := zb_some h
    refine xcallVi (pc := 12) (As := [.int (x1 + 1)]) (rest := []) ⟨hx, hb, hml, hown, hts⟩ (c_X12_isName l D c o g N hv) zc12 zV_X12_332 rfl zd_X12_isName ⟨Nat.le_of_ble_eq_true rfl, Nat.le_of_ble_eq_true rfl⟩ hK hP hE hS hg hl.1 rfl (Nat.le_of_ble_eq_true rfl) ⟨Nat.zero_le _, Nat.zero_le _⟩ dX12_swap_12 (fun H locs hP hS => ?_)
    refine lv_if_ne (pc := 15) (tgt := 21) hx hb dX12_swap_15 (by decide) (fun c1 => ?_) (fun c1 => ?_)
    · rw [if_neg c1] at h
      refine lv_aload_n (pc := 21) hx hb dX12_swap_21 rfl (lv_at hl 0 rfl) ?_
      obtain ⟨v5, hv, h⟩ := zl_some h
      refine xgR (pc := 22) (j := 1) zc12 hx hb hts hown hK hP hv rfl zf_X12_9 dX12_swap_22 ?_
      refine lv_bipush (pc := 25) (v := 33) hx hb dX12_swap_25 (by decide) ?_
      refine lv_iload_n (pc := 27) hx hb dX12_swap_27 rfl (lv_at hl 1 rfl) ?_
      refine lv_iadd (pc := 28) hx hb dX12_swap_28 ?_
      obtain ⟨v6, hv, h⟩ := zl_some h
      refine xaI (pc := 29) hx hb hK hP hv dX12_swap_29 ?_
      refine lv_istore_n (pc := 30) (lv' := [(2, .int v6), (0, .ref (o + x0)), (1, .int x1)]) hx hb dX12_swap_30 rfl hl (by decide) rfl (fun ls hl => ?_)
      refine lv_aload_n (pc := 31) hx hb dX12_swap_31 rfl (lv_at hl 1 rfl) ?_
      obtain ⟨v7, hv, h⟩ := zl_some h
      refine xgR (pc := 32) (j := 1) zc12 hx hb hts hown hK hP hv rfl zf_X12_9 dX12_swap_32 ?_
      refine lv_bipush (pc := 35) (v := 33) hx hb dX12_swap_35 (by decide) ?_
      refine lv_iload_n (pc := 37) hx hb dX12_swap_37 rfl (lv_at hl 2 rfl) ?_
      refine lv_iadd (pc := 38) hx hb dX12_swap_38 ?_
      refine lv_aload_n (pc := 39) hx hb dX12_swap_39 rfl (lv_at hl 1 rfl) ?_
      obtain ⟨v8, hv, h⟩ := zl_some h
      refine xgR (pc := 40) (j := 1) zc12 hx hb hts hown hK hP hv rfl zf_X12_9 dX12_swap_40 ?_
      refine lv_bipush (pc := 43) (v := 33) hx hb dX12_swap_43 (by decide) ?_
      refine lv_iload_n (pc := 45) hx hb dX12_swap_45 rfl (lv_at hl 2 rfl) ?_
      refine lv_iadd (pc := 46) hx hb dX12_swap_46 ?_
      refine lv_iconst (pc := 47) (v := 1) hx hb dX12_swap_47 (by decide) ?_
      refine lv_iadd (pc := 48) hx hb dX12_swap_48 ?_
      obtain ⟨v9, hv, h⟩ := zl_some h
      refine xaI (pc := 49) hx hb hK hP hv dX12_swap_49 ?_
      obtain ⟨σ10, hv, h⟩ := zl_some h
      refine xsI (pc := 50) hx hb hK hP hS hv dX12_swap_50 (fun H locs hP hS => ?_)
      refine lv_aload_n (pc := 51) hx hb dX12_swap_51 rfl (lv_at hl 1 rfl) ?_
      obtain ⟨v11, hv, h⟩ := zl_some h
      refine xgR (pc := 52) (j := 1) zc12 hx hb hts hown hK hP hv rfl zf_X12_9 dX12_swap_52 ?_
      refine lv_bipush (pc := 55) (v := 33) hx hb dX12_swap_55 (by decide) ?_
      refine lv_iload_n (pc := 57) hx hb dX12_swap_57 rfl (lv_at hl 2 rfl) ?_
      refine lv_iadd (pc := 58) hx hb dX12_swap_58 ?_
      refine lv_iconst (pc := 59) (v := 1) hx hb dX12_swap_59 (by decide) ?_
      refine lv_iadd (pc := 60) hx hb dX12_swap_60 ?_
      refine lv_iload_n (pc := 61) hx hb dX12_swap_61 rfl (lv_at hl 0 rfl) ?_
      obtain ⟨σ12, hv, h⟩ := zl_some h
      refine xsI (pc := 62) hx hb hK hP hS hv dX12_swap_62 (fun H locs hP hS => ?_)
      refine lv_aload_n (pc := 63) hx hb dX12_swap_63 rfl (lv_at hl 1 rfl) ?_
      obtain ⟨_, hg, h⟩ := zl_some h
      obtain ⟨v13, σ14, hv, h⟩ := zb_some h
      refine xcallVi (pc := 64) (As := []) (rest := []) ⟨hx, hb, hml, hown, hts⟩ (c_X12_netOf l D c o g N hv) zc12 zV_X12_393 rfl zd_X12_netOf ⟨Nat.le_of_ble_eq_true rfl, Nat.le_of_ble_eq_true rfl⟩ hK hP hE hS hg hl.1 rfl (Nat.le_of_ble_eq_true rfl) ⟨Nat.zero_le _, Nat.zero_le _⟩ dX12_swap_64 (fun H locs hP hS => ?_)
      exact xreti (pc := 67) hx hb hr hlocks hP hK hE hS h dX12_swap_67
    · rw [if_pos c1] at h
      refine lv_bipush (pc := 18) (v := (-2)) hx hb dX12_swap_18 (by decide) ?_
      exact xreti (pc := 20) hx hb hr hlocks hP hK hE hS h dX12_swap_20
def F_X12_placeOf_2 (N : Nat) (x0 : Nat) (x1 : Int32) (again2 : (Int32 × zS) → Option (Int32 × zS)) : Int32 × zS → Option (Int32 × zS)
  | (x2, σ) =>
  zl (gR 12 1 x0 σ) fun v1 =>
  zl (aI 14 v1 (33 + x2) σ) fun v2 =>
  if v2 = x1 then
    (some (x2, σ))
  else
    (again2 (x2 + 1, σ))
def f_X12_placeOf (N : Nat) (x0 : Nat) (x1 : Int32) (σ : zS) : Option (Int32 × zS) :=
  zlp (F_X12_placeOf_2 N x0 x1) N (0, σ)
set_option maxHeartbeats 4000000 in
set_option maxRecDepth 100000 in
theorem c_X12_placeOf (l : Launch) (D : va_G) (c : zC) (o : Nat) (g : zEp) (N : Nat) {x0 : Nat} {x1 : Int32} {σ : zS} {ρ : Int32 × zS} (h : f_X12_placeOf N x0 x1 σ = some ρ) : Met l yX12_placeOf zs_X12_placeOf (zr 2) (va_Pc [.ref (o + x0), .int x1] (zG D c o g σ)) (zQi D c o g ρ) 0 0 (zA o) := by
  refine zMetG (by decide) (Nat.le_of_ble_eq_true rfl) ?_
  intro p e s m below meth cd ⟨hx, hb, hr, hml, hown, hts, hlocks⟩ hP hK hE ls hl
  have hS : va_S (zA o) s.heap s.heap [] := va_S.rf
  have hl : lv_has ls 3 [(0, .ref (o + x0)), (1, .int x1)] := hl
  rw [f_X12_placeOf.eq_1] at h
  refine lv_iconst (pc := 0) (v := 0) hx hb dX12_placeOf_0 (by decide) ?_
  refine lv_istore_n (pc := 1) (lv' := [(2, .int 0), (0, .ref (o + x0)), (1, .int x1)]) hx hb dX12_placeOf_1 rfl hl (by decide) rfl (fun ls hl => ?_)
  have L2_1 : ∀ (n : Nat) (t : Int32 × zS), zlp (F_X12_placeOf_2 N x0 x1) n t = some ρ → ∀ (H : Heap) (locs : List Loc) (ls : Array Slot), zP D c o (zabs o (t.2)) H → va_S (zA o) s.heap H locs → lv_has ls 3 [(2, .int (t.1)), (0, .ref (o + x0)), (1, .int x1)] → W p l e (zr 2) s m (([.ref (o + x0), .int x1] : List Value).toArray) below meth cd H locs 0 0 (MQ below (zQi D c o g ρ) (([.ref (o + x0), .int x1] : List Value).toArray) s 0 0 (zA o)) (F0 m 2 ls []) := by
    refine zlp_ind (fun ag1 ih1 t h H locs ls hP hS hl => ?_)
    obtain ⟨x2_1, σ1⟩ := t
    have hP : zP D c o (zabs o σ1) H := hP
    have hl : lv_has ls 3 [(2, .int x2_1), (0, .ref (o + x0)), (1, .int x1)] := hl
    rw [F_X12_placeOf_2.eq_1] at h
    show W p l e (zr 2) s m (([.ref (o + x0), .int x1] : List Value).toArray) below meth cd H locs 0 0 (MQ below (zQi D c o g ρ) (([.ref (o + x0), .int x1] : List Value).toArray) s 0 0 (zA o)) (F0 m 2 ls [])
    refine lv_aload_n (pc := 2) hx hb dX12_placeOf_2 rfl (lv_at hl 1 rfl) ?_
    obtain ⟨v2, hv, h⟩ := zl_some h
    refine xgR (pc := 3) (j := 1) zc12 hx hb hts hown hK hP hv rfl zf_X12_9 dX12_placeOf_3 ?_
    refine lv_bipush (pc := 6) (v := 33) hx hb dX12_placeOf_6 (by decide) ?_
    refine lv_iload_n (pc := 8) hx hb dX12_placeOf_8 rfl (lv_at hl 0 rfl) ?_
    refine lv_iadd (pc := 9) hx hb dX12_placeOf_9 ?_
    obtain ⟨v3, hv, h⟩ := zl_some h
    refine xaI (pc := 10) hx hb hK hP hv dX12_placeOf_10 ?_
    refine lv_iload_n (pc := 11) hx hb dX12_placeOf_11 rfl (lv_at hl 2 rfl) ?_
    refine lv_icmp_eq (pc := 12) (tgt := 21) hx hb dX12_placeOf_12 (by decide) (fun c1 => ?_) (fun c1 => ?_)
    · rw [if_pos c1] at h
      refine lv_iload_n (pc := 21) hx hb dX12_placeOf_21 rfl (lv_at hl 0 rfl) ?_
      exact xreti (pc := 22) hx hb hr hlocks hP hK hE hS h dX12_placeOf_22
    · rw [if_neg c1] at h
      refine lv_iinc (pc := 15) (v := x2_1 + 1) (lv' := [(2, .int (x2_1 + 1)), (0, .ref (o + x0)), (1, .int x1)]) hx hb dX12_placeOf_15 hl (k := 0) rfl rfl (by decide) rfl (fun ls hl => ?_)
      refine lv_goto (pc := 18) (tgt := 2) hx hb dX12_placeOf_18 (by decide) ?_
      exact ih1 (x2_1 + 1, σ1) h _ _ ls hP hS (lv_sub hl [0, 1, 2] rfl)
  exact L2_1 N (0, σ) h _ _ ls hP hS (lv_sub hl [0, 1, 2] rfl)
def F_X12_goesTo_37 (N : Nat) (x0 : Nat) (x1 : Int32) (x2 : Int32) (again37 : (Int32 × zS) → Option (Unit × zS)) : Int32 × zS → Option (Unit × zS)
  | (x3, σ) =>
  if x3 ≤ x2 then
    (zl (gR 12 1 x0 σ) fun v3 =>
    zl (sI 14 v3 (33 + x2) x1 σ) fun σ4 =>
    some ((), σ4))
  else
    (zl (gR 12 1 x0 σ) fun v5 =>
    zl (gR 12 1 x0 σ) fun v6 =>
    zl (aI 14 v6 ((33 + x3) - 1) σ) fun v7 =>
    zl (sI 14 v5 (33 + x3) v7 σ) fun σ8 =>
    again37 (x3 + (-1), σ8))
def F_X12_goesTo_6 (N : Nat) (x0 : Nat) (x1 : Int32) (x2 : Int32) (again6 : (Int32 × zS) → Option (Unit × zS)) : Int32 × zS → Option (Unit × zS)
  | (x3, σ) =>
  if x2 ≤ x3 then
    (zlp (F_X12_goesTo_37 N x0 x1 x2) N (x3, σ))
  else
    (zl (gR 12 1 x0 σ) fun v9 =>
    zl (gR 12 1 x0 σ) fun v10 =>
    zl (aI 14 v10 ((33 + x3) + 1) σ) fun v11 =>
    zl (sI 14 v9 (33 + x3) v11 σ) fun σ12 =>
    again6 (x3 + 1, σ12))
def f_X12_goesTo (N : Nat) (x0 : Nat) (x1 : Int32) (x2 : Int32) (σ : zS) : Option (Unit × zS) :=
  zl (gC 12 x0) fun _ => zb (f_X12_placeOf N x0 x1 σ) fun v1 σ2 =>
  zlp (F_X12_goesTo_6 N x0 x1 x2) N (v1, σ2)
set_option maxHeartbeats 4000000 in
set_option maxRecDepth 100000 in
theorem c_X12_goesTo (l : Launch) (D : va_G) (c : zC) (o : Nat) (g : zEp) (N : Nat) {x0 : Nat} {x1 : Int32} {x2 : Int32} {σ : zS} {ρ : Unit × zS} (h : f_X12_goesTo N x0 x1 x2 σ = some ρ) : Met l yX12_goesTo zs_X12_goesTo (zr 4) (va_Pc [.ref (o + x0), .int x1, .int x2] (zG D c o g σ)) (zQu D c o g ρ) 0 0 (zA o) := by
  refine zMetG (by decide) (Nat.le_of_ble_eq_true rfl) ?_
  intro p e s m below meth cd ⟨hx, hb, hr, hml, hown, hts, hlocks⟩ hP hK hE ls hl
  have hS : va_S (zA o) s.heap s.heap [] := va_S.rf
  have hl : lv_has ls 4 [(0, .ref (o + x0)), (1, .int x1), (2, .int x2)] := hl
  rw [f_X12_goesTo.eq_1] at h
  refine lv_aload_n (pc := 0) hx hb dX12_goesTo_0 rfl (lv_at hl 0 rfl) ?_
  refine lv_iload_n (pc := 1) hx hb dX12_goesTo_1 rfl (lv_at hl 1 rfl) ?_
  obtain ⟨_, hg, h⟩ := zl_some h
  obtain ⟨v1, σ2, hv, h⟩ := zb_some h
  refine xcallVi (pc := 2) (As := [.int x1]) (rest := []) ⟨hx, hb, hml, hown, hts⟩ (c_X12_placeOf l D c o g N hv) zc12 zV_X12_396 rfl zd_X12_placeOf ⟨Nat.le_of_ble_eq_true rfl, Nat.le_of_ble_eq_true rfl⟩ hK hP hE hS hg hl.1 rfl (Nat.le_of_ble_eq_true rfl) ⟨Nat.zero_le _, Nat.zero_le _⟩ dX12_goesTo_2 (fun H locs hP hS => ?_)
  refine lv_istore_n (pc := 5) (lv' := [(3, .int v1), (0, .ref (o + x0)), (1, .int x1), (2, .int x2)]) hx hb dX12_goesTo_5 rfl hl (by decide) rfl (fun ls hl => ?_)
  have L6_3 : ∀ (n : Nat) (t : Int32 × zS), zlp (F_X12_goesTo_6 N x0 x1 x2) n t = some ρ → ∀ (H : Heap) (locs : List Loc) (ls : Array Slot), zP D c o (zabs o (t.2)) H → va_S (zA o) s.heap H locs → lv_has ls 4 [(3, .int (t.1)), (0, .ref (o + x0)), (1, .int x1), (2, .int x2)] → W p l e (zr 4) s m (([.ref (o + x0), .int x1, .int x2] : List Value).toArray) below meth cd H locs 0 0 (MQ below (zQu D c o g ρ) (([.ref (o + x0), .int x1, .int x2] : List Value).toArray) s 0 0 (zA o)) (F0 m 6 ls []) := by
    refine zlp_ind (fun ag3 ih3 t h H locs ls hP hS hl => ?_)
    obtain ⟨x3_3, σ3⟩ := t
    have hP : zP D c o (zabs o σ3) H := hP
    have hl : lv_has ls 4 [(3, .int x3_3), (0, .ref (o + x0)), (1, .int x1), (2, .int x2)] := hl
    rw [F_X12_goesTo_6.eq_1] at h
    show W p l e (zr 4) s m (([.ref (o + x0), .int x1, .int x2] : List Value).toArray) below meth cd H locs 0 0 (MQ below (zQu D c o g ρ) (([.ref (o + x0), .int x1, .int x2] : List Value).toArray) s 0 0 (zA o)) (F0 m 6 ls [])
    refine lv_iload_n (pc := 6) hx hb dX12_goesTo_6 rfl (lv_at hl 0 rfl) ?_
    refine lv_iload_n (pc := 7) hx hb dX12_goesTo_7 rfl (lv_at hl 3 rfl) ?_
    refine lv_icmp_ge (pc := 8) (tgt := 37) hx hb dX12_goesTo_8 (by decide) (fun c1 => ?_) (fun c1 => ?_)
    · rw [if_pos c1] at h
      have L37_4 : ∀ (n : Nat) (t : Int32 × zS), zlp (F_X12_goesTo_37 N x0 x1 x2) n t = some ρ → ∀ (H : Heap) (locs : List Loc) (ls : Array Slot), zP D c o (zabs o (t.2)) H → va_S (zA o) s.heap H locs → lv_has ls 4 [(3, .int (t.1)), (0, .ref (o + x0)), (1, .int x1), (2, .int x2)] → W p l e (zr 4) s m (([.ref (o + x0), .int x1, .int x2] : List Value).toArray) below meth cd H locs 0 0 (MQ below (zQu D c o g ρ) (([.ref (o + x0), .int x1, .int x2] : List Value).toArray) s 0 0 (zA o)) (F0 m 37 ls []) := by
        refine zlp_ind (fun ag4 ih4 t h H locs ls hP hS hl => ?_)
        obtain ⟨x3_4, σ4⟩ := t
        have hP : zP D c o (zabs o σ4) H := hP
        have hl : lv_has ls 4 [(3, .int x3_4), (0, .ref (o + x0)), (1, .int x1), (2, .int x2)] := hl
        rw [F_X12_goesTo_37.eq_1] at h
        show W p l e (zr 4) s m (([.ref (o + x0), .int x1, .int x2] : List Value).toArray) below meth cd H locs 0 0 (MQ below (zQu D c o g ρ) (([.ref (o + x0), .int x1, .int x2] : List Value).toArray) s 0 0 (zA o)) (F0 m 37 ls [])
        refine lv_iload_n (pc := 37) hx hb dX12_goesTo_37 rfl (lv_at hl 0 rfl) ?_
        refine lv_iload_n (pc := 38) hx hb dX12_goesTo_38 rfl (lv_at hl 3 rfl) ?_
        refine lv_icmp_le (pc := 39) (tgt := 68) hx hb dX12_goesTo_39 (by decide) (fun c1 => ?_) (fun c1 => ?_)
        · rw [if_pos c1] at h
          refine lv_aload_n (pc := 68) hx hb dX12_goesTo_68 rfl (lv_at hl 1 rfl) ?_
          obtain ⟨v5, hv, h⟩ := zl_some h
          refine xgR (pc := 69) (j := 1) zc12 hx hb hts hown hK hP hv rfl zf_X12_9 dX12_goesTo_69 ?_
          refine lv_bipush (pc := 72) (v := 33) hx hb dX12_goesTo_72 (by decide) ?_
          refine lv_iload_n (pc := 74) hx hb dX12_goesTo_74 rfl (lv_at hl 3 rfl) ?_
          refine lv_iadd (pc := 75) hx hb dX12_goesTo_75 ?_
          refine lv_iload_n (pc := 76) hx hb dX12_goesTo_76 rfl (lv_at hl 2 rfl) ?_
          obtain ⟨σ6, hv, h⟩ := zl_some h
          refine xsI (pc := 77) hx hb hK hP hS hv dX12_goesTo_77 (fun H locs hP hS => ?_)
          exact xretv (pc := 78) hx hb hr hlocks hP hK hE hS h dX12_goesTo_78
        · rw [if_neg c1] at h
          refine lv_aload_n (pc := 42) hx hb dX12_goesTo_42 rfl (lv_at hl 1 rfl) ?_
          obtain ⟨v7, hv, h⟩ := zl_some h
          refine xgR (pc := 43) (j := 1) zc12 hx hb hts hown hK hP hv rfl zf_X12_9 dX12_goesTo_43 ?_
          refine lv_bipush (pc := 46) (v := 33) hx hb dX12_goesTo_46 (by decide) ?_
          refine lv_iload_n (pc := 48) hx hb dX12_goesTo_48 rfl (lv_at hl 0 rfl) ?_
          refine lv_iadd (pc := 49) hx hb dX12_goesTo_49 ?_
          refine lv_aload_n (pc := 50) hx hb dX12_goesTo_50 rfl (lv_at hl 1 rfl) ?_
          obtain ⟨v8, hv, h⟩ := zl_some h
          refine xgR (pc := 51) (j := 1) zc12 hx hb hts hown hK hP hv rfl zf_X12_9 dX12_goesTo_51 ?_
          refine lv_bipush (pc := 54) (v := 33) hx hb dX12_goesTo_54 (by decide) ?_
          refine lv_iload_n (pc := 56) hx hb dX12_goesTo_56 rfl (lv_at hl 0 rfl) ?_
          refine lv_iadd (pc := 57) hx hb dX12_goesTo_57 ?_
          refine lv_iconst (pc := 58) (v := 1) hx hb dX12_goesTo_58 (by decide) ?_
          refine lv_isub (pc := 59) hx hb dX12_goesTo_59 ?_
          obtain ⟨v9, hv, h⟩ := zl_some h
          refine xaI (pc := 60) hx hb hK hP hv dX12_goesTo_60 ?_
          obtain ⟨σ10, hv, h⟩ := zl_some h
          refine xsI (pc := 61) hx hb hK hP hS hv dX12_goesTo_61 (fun H locs hP hS => ?_)
          refine lv_iinc (pc := 62) (v := x3_4 + (-1)) (lv' := [(3, .int (x3_4 + (-1))), (0, .ref (o + x0)), (1, .int x1), (2, .int x2)]) hx hb dX12_goesTo_62 hl (k := 0) rfl rfl (by decide) rfl (fun ls hl => ?_)
          refine lv_goto (pc := 65) (tgt := 37) hx hb dX12_goesTo_65 (by decide) ?_
          exact ih4 (x3_4 + (-1), σ10) h _ _ ls hP hS (lv_sub hl [0, 1, 2, 3] rfl)
      exact L37_4 N (x3_3, σ3) h _ _ ls hP hS (lv_sub hl [0, 1, 2, 3] rfl)
    · rw [if_neg c1] at h
      refine lv_aload_n (pc := 11) hx hb dX12_goesTo_11 rfl (lv_at hl 1 rfl) ?_
      obtain ⟨v11, hv, h⟩ := zl_some h
      refine xgR (pc := 12) (j := 1) zc12 hx hb hts hown hK hP hv rfl zf_X12_9 dX12_goesTo_12 ?_
      refine lv_bipush (pc := 15) (v := 33) hx hb dX12_goesTo_15 (by decide) ?_
      refine lv_iload_n (pc := 17) hx hb dX12_goesTo_17 rfl (lv_at hl 0 rfl) ?_
      refine lv_iadd (pc := 18) hx hb dX12_goesTo_18 ?_
      refine lv_aload_n (pc := 19) hx hb dX12_goesTo_19 rfl (lv_at hl 1 rfl) ?_
      obtain ⟨v12, hv, h⟩ := zl_some h
      refine xgR (pc := 20) (j := 1) zc12 hx hb hts hown hK hP hv rfl zf_X12_9 dX12_goesTo_20 ?_
      refine lv_bipush (pc := 23) (v := 33) hx hb dX12_goesTo_23 (by decide) ?_
      refine lv_iload_n (pc := 25) hx hb dX12_goesTo_25 rfl (lv_at hl 0 rfl) ?_
      refine lv_iadd (pc := 26) hx hb dX12_goesTo_26 ?_
      refine lv_iconst (pc := 27) (v := 1) hx hb dX12_goesTo_27 (by decide) ?_
      refine lv_iadd (pc := 28) hx hb dX12_goesTo_28 ?_
      obtain ⟨v13, hv, h⟩ := zl_some h
      refine xaI (pc := 29) hx hb hK hP hv dX12_goesTo_29 ?_
      obtain ⟨σ14, hv, h⟩ := zl_some h
      refine xsI (pc := 30) hx hb hK hP hS hv dX12_goesTo_30 (fun H locs hP hS => ?_)
      refine lv_iinc (pc := 31) (v := x3_3 + 1) (lv' := [(3, .int (x3_3 + 1)), (0, .ref (o + x0)), (1, .int x1), (2, .int x2)]) hx hb dX12_goesTo_31 hl (k := 0) rfl rfl (by decide) rfl (fun ls hl => ?_)
      refine lv_goto (pc := 34) (tgt := 6) hx hb dX12_goesTo_34 (by decide) ?_
      exact ih3 (x3_3 + 1, σ14) h _ _ ls hP hS (lv_sub hl [0, 1, 2, 3] rfl)
  exact L6_3 N (v1, σ2) h _ _ ls hP hS (lv_sub hl [0, 1, 2, 3] rfl)
def f_X12_move (N : Nat) (x0 : Nat) (x1 : Int32) (x2 : Int32) (σ : zS) : Option (Int32 × zS) :=
  zl (gC 12 x0) fun _ => zb (f_X12_isName N x0 x1 σ) fun v1 σ2 =>
  if v1 = 0 then
    (some ((-2), σ2))
  else
    (zl (gC 12 x0) fun _ => zb (f_X12_isName N x0 x2 σ2) fun v3 σ4 =>
    if v3 = 0 then
      (some ((-2), σ4))
    else
      (zl (gC 12 x0) fun _ => zb (f_X12_placeOf N x0 x1 σ4) fun v5 σ6 =>
      zl (gC 12 x0) fun _ => zb (f_X12_goesTo N x0 x1 x2 σ6) fun v7 σ8 =>
      some (v5, σ8)))
set_option maxHeartbeats 4000000 in
set_option maxRecDepth 100000 in
theorem c_X12_move (l : Launch) (D : va_G) (c : zC) (o : Nat) (g : zEp) (N : Nat) {x0 : Nat} {x1 : Int32} {x2 : Int32} {σ : zS} {ρ : Int32 × zS} (h : f_X12_move N x0 x1 x2 σ = some ρ) : Met l yX12_move zs_X12_move (zr 6) (va_Pc [.ref (o + x0), .int x1, .int x2] (zG D c o g σ)) (zQi D c o g ρ) 0 0 (zA o) := by
  refine zMetG (by decide) (Nat.le_of_ble_eq_true rfl) ?_
  intro p e s m below meth cd ⟨hx, hb, hr, hml, hown, hts, hlocks⟩ hP hK hE ls hl
  have hS : va_S (zA o) s.heap s.heap [] := va_S.rf
  have hl : lv_has ls 4 [(0, .ref (o + x0)), (1, .int x1), (2, .int x2)] := hl
  rw [f_X12_move.eq_1] at h
  refine lv_aload_n (pc := 0) hx hb dX12_move_0 rfl (lv_at hl 0 rfl) ?_
  refine lv_iload_n (pc := 1) hx hb dX12_move_1 rfl (lv_at hl 1 rfl) ?_
  obtain ⟨_, hg, h⟩ := zl_some h
  obtain ⟨v1, σ2, hv, h⟩ := zb_some h
  refine xcallVi (pc := 2) (As := [.int x1]) (rest := []) ⟨hx, hb, hml, hown, hts⟩ (c_X12_isName l D c o g N hv) zc12 zV_X12_332 rfl zd_X12_isName ⟨Nat.le_of_ble_eq_true rfl, Nat.le_of_ble_eq_true rfl⟩ hK hP hE hS hg hl.1 rfl (Nat.le_of_ble_eq_true rfl) ⟨Nat.zero_le _, Nat.zero_le _⟩ dX12_move_2 (fun H locs hP hS => ?_)
  refine lv_if_eq (pc := 5) (tgt := 16) hx hb dX12_move_5 (by decide) (fun c1 => ?_) (fun c1 => ?_)
  · rw [if_pos c1] at h
    refine lv_bipush (pc := 16) (v := (-2)) hx hb dX12_move_16 (by decide) ?_
    exact xreti (pc := 18) hx hb hr hlocks hP hK hE hS h dX12_move_18
  · rw [if_neg c1] at h
    refine lv_aload_n (pc := 8) hx hb dX12_move_8 rfl (lv_at hl 0 rfl) ?_
    refine lv_iload_n (pc := 9) hx hb dX12_move_9 rfl (lv_at hl 2 rfl) ?_
    obtain ⟨_, hg, h⟩ := zl_some h
    obtain ⟨v3, σ4, hv, h⟩ := zb_some h
    refine xcallVi (pc := 10) (As := [.int x2]) (rest := []) ⟨hx, hb, hml, hown, hts⟩ (c_X12_isName l D c o g N hv) zc12 zV_X12_332 rfl zd_X12_isName ⟨Nat.le_of_ble_eq_true rfl, Nat.le_of_ble_eq_true rfl⟩ hK hP hE hS hg hl.1 rfl (Nat.le_of_ble_eq_true rfl) ⟨Nat.zero_le _, Nat.zero_le _⟩ dX12_move_10 (fun H locs hP hS => ?_)
    refine lv_if_ne (pc := 13) (tgt := 19) hx hb dX12_move_13 (by decide) (fun c1 => ?_) (fun c1 => ?_)
    · rw [if_neg c1] at h
      refine lv_aload_n (pc := 19) hx hb dX12_move_19 rfl (lv_at hl 0 rfl) ?_
      refine lv_iload_n (pc := 20) hx hb dX12_move_20 rfl (lv_at hl 1 rfl) ?_
      obtain ⟨_, hg, h⟩ := zl_some h
      obtain ⟨v5, σ6, hv, h⟩ := zb_some h
      refine xcallVi (pc := 21) (As := [.int x1]) (rest := []) ⟨hx, hb, hml, hown, hts⟩ (c_X12_placeOf l D c o g N hv) zc12 zV_X12_396 rfl zd_X12_placeOf ⟨Nat.le_of_ble_eq_true rfl, Nat.le_of_ble_eq_true rfl⟩ hK hP hE hS hg hl.1 rfl (Nat.le_of_ble_eq_true rfl) ⟨Nat.zero_le _, Nat.zero_le _⟩ dX12_move_21 (fun H locs hP hS => ?_)
      refine lv_istore_n (pc := 24) (lv' := [(3, .int v5), (0, .ref (o + x0)), (1, .int x1), (2, .int x2)]) hx hb dX12_move_24 rfl hl (by decide) rfl (fun ls hl => ?_)
      refine lv_aload_n (pc := 25) hx hb dX12_move_25 rfl (lv_at hl 1 rfl) ?_
      refine lv_iload_n (pc := 26) hx hb dX12_move_26 rfl (lv_at hl 2 rfl) ?_
      refine lv_iload_n (pc := 27) hx hb dX12_move_27 rfl (lv_at hl 3 rfl) ?_
      obtain ⟨_, hg, h⟩ := zl_some h
      obtain ⟨v7, σ8, hv, h⟩ := zb_some h
      refine xcallVv (pc := 28) (As := [.int x1, .int x2]) (rest := []) ⟨hx, hb, hml, hown, hts⟩ (c_X12_goesTo l D c o g N hv) zc12 zV_X12_399 rfl zd_X12_goesTo ⟨Nat.le_of_ble_eq_true rfl, Nat.le_of_ble_eq_true rfl⟩ hK hP hE hS hg hl.1 rfl (Nat.le_of_ble_eq_true rfl) ⟨Nat.zero_le _, Nat.zero_le _⟩ dX12_move_28 (fun H locs hP hS => ?_)
      refine lv_iload_n (pc := 31) hx hb dX12_move_31 rfl (lv_at hl 0 rfl) ?_
      exact xreti (pc := 32) hx hb hr hlocks hP hK hE hS h dX12_move_32
    · rw [if_pos c1] at h
      refine lv_bipush (pc := 16) (v := (-2)) hx hb dX12_move_16 (by decide) ?_
      exact xreti (pc := 18) hx hb hr hlocks hP hK hE hS h dX12_move_18
def f_X12_trades (N : Nat) (x0 : Nat) (x1 : Int32) (x2 : Int32) (σ : zS) : Option (Unit × zS) :=
  zl (gR 12 30 x0 σ) fun v1 =>
  zl (aI 14 v1 x1 σ) fun v2 =>
  zl (gR 12 30 x0 σ) fun v3 =>
  zl (gR 12 30 x0 σ) fun v4 =>
  zl (aI 14 v4 x2 σ) fun v5 =>
  zl (sI 14 v3 x1 v5 σ) fun σ6 =>
  zl (gR 12 30 x0 σ6) fun v7 =>
  zl (sI 14 v7 x2 v2 σ6) fun σ8 =>
  some ((), σ8)
set_option maxHeartbeats 4000000 in
set_option maxRecDepth 100000 in
theorem c_X12_trades (l : Launch) (D : va_G) (c : zC) (o : Nat) (g : zEp) (N : Nat) {x0 : Nat} {x1 : Int32} {x2 : Int32} {σ : zS} {ρ : Unit × zS} (h : f_X12_trades N x0 x1 x2 σ = some ρ) : Met l yX12_trades zs_X12_trades (zr 2) (va_Pc [.ref (o + x0), .int x1, .int x2] (zG D c o g σ)) (zQu D c o g ρ) 0 0 (zA o) := by
  refine zMetG (by decide) (Nat.le_of_ble_eq_true rfl) ?_
  intro p e s m below meth cd ⟨hx, hb, hr, hml, hown, hts, hlocks⟩ hP hK hE ls hl
  have hS : va_S (zA o) s.heap s.heap [] := va_S.rf
  have hl : lv_has ls 4 [(0, .ref (o + x0)), (1, .int x1), (2, .int x2)] := hl
  rw [f_X12_trades.eq_1] at h
  refine lv_aload_n (pc := 0) hx hb dX12_trades_0 rfl (lv_at hl 0 rfl) ?_
  obtain ⟨v1, hv, h⟩ := zl_some h
  refine xgR (pc := 1) (j := 30) zc12 hx hb hts hown hK hP hv rfl zf_X12_64 dX12_trades_1 ?_
  refine lv_iload_n (pc := 4) hx hb dX12_trades_4 rfl (lv_at hl 1 rfl) ?_
  obtain ⟨v2, hv, h⟩ := zl_some h
  refine xaI (pc := 5) hx hb hK hP hv dX12_trades_5 ?_
  refine lv_istore_n (pc := 6) (lv' := [(3, .int v2), (0, .ref (o + x0)), (1, .int x1), (2, .int x2)]) hx hb dX12_trades_6 rfl hl (by decide) rfl (fun ls hl => ?_)
  refine lv_aload_n (pc := 7) hx hb dX12_trades_7 rfl (lv_at hl 1 rfl) ?_
  obtain ⟨v3, hv, h⟩ := zl_some h
  refine xgR (pc := 8) (j := 30) zc12 hx hb hts hown hK hP hv rfl zf_X12_64 dX12_trades_8 ?_
  refine lv_iload_n (pc := 11) hx hb dX12_trades_11 rfl (lv_at hl 2 rfl) ?_
  refine lv_aload_n (pc := 12) hx hb dX12_trades_12 rfl (lv_at hl 1 rfl) ?_
  obtain ⟨v4, hv, h⟩ := zl_some h
  refine xgR (pc := 13) (j := 30) zc12 hx hb hts hown hK hP hv rfl zf_X12_64 dX12_trades_13 ?_
  refine lv_iload_n (pc := 16) hx hb dX12_trades_16 rfl (lv_at hl 3 rfl) ?_
  obtain ⟨v5, hv, h⟩ := zl_some h
  refine xaI (pc := 17) hx hb hK hP hv dX12_trades_17 ?_
  obtain ⟨σ6, hv, h⟩ := zl_some h
  refine xsI (pc := 18) hx hb hK hP hS hv dX12_trades_18 (fun H locs hP hS => ?_)
  refine lv_aload_n (pc := 19) hx hb dX12_trades_19 rfl (lv_at hl 1 rfl) ?_
  obtain ⟨v7, hv, h⟩ := zl_some h
  refine xgR (pc := 20) (j := 30) zc12 hx hb hts hown hK hP hv rfl zf_X12_64 dX12_trades_20 ?_
  refine lv_iload_n (pc := 23) hx hb dX12_trades_23 rfl (lv_at hl 3 rfl) ?_
  refine lv_iload_n (pc := 24) hx hb dX12_trades_24 rfl (lv_at hl 0 rfl) ?_
  obtain ⟨σ8, hv, h⟩ := zl_some h
  refine xsI (pc := 25) hx hb hK hP hS hv dX12_trades_25 (fun H locs hP hS => ?_)
  exact xretv (pc := 26) hx hb hr hlocks hP hK hE hS h dX12_trades_26
def F_X12_nextOrder_78 (N : Nat) (x0 : Nat) (again78 : (Int32 × Int32 × zS) → Option (Int32 × zS)) : Int32 × Int32 × zS → Option (Int32 × zS)
  | (x4, x5, σ) =>
  if x5 ≤ x4 then
    (rZ 1 σ)
  else
    (zl (gC 12 x0) fun _ => zb (f_X12_trades N x0 x4 x5 σ) fun v7 σ8 =>
    again78 (x4 + 1, x5 + (-1), σ8))
def F_X12_nextOrder_41 (N : Nat) (x0 : Nat) (x1 : Int32) (x2 : Int32) (again41 : (Int32 × zS) → Option (Int32 × zS)) : Int32 × zS → Option (Int32 × zS)
  | (x3, σ) =>
  zl (gR 12 30 x0 σ) fun v1 =>
  zl (aI 14 v1 x3 σ) fun v2 =>
  zl (gR 12 30 x0 σ) fun v3 =>
  zl (aI 14 v3 x2 σ) fun v4 =>
  if v4 ≤ v2 then
    (zl (gC 12 x0) fun _ => zb (f_X12_trades N x0 x2 x3 σ) fun v5 σ6 =>
    zlp (F_X12_nextOrder_78 N x0) N (x2 + 1, x1 - 1, σ6))
  else
    (again41 (x3 + (-1), σ))
def J_X12_nextOrder_31 (N : Nat) (x0 : Nat) (x1 : Int32) (x2 : Int32) (σ : zS) : Option (Int32 × zS) :=
  if 0 ≤ x2 then
    (zlp (F_X12_nextOrder_41 N x0 x1 x2) N (x1 - 1, σ))
  else
    (rZ 0 σ)
def F_X12_nextOrder_4 (N : Nat) (x0 : Nat) (x1 : Int32) (again4 : (Int32 × zS) → Option (Int32 × zS)) : Int32 × zS → Option (Int32 × zS)
  | (x2, σ) =>
  if x2 < 0 then
    (J_X12_nextOrder_31 N x0 x1 x2 σ)
  else
    (zl (gR 12 30 x0 σ) fun v9 =>
    zl (aI 14 v9 x2 σ) fun v10 =>
    zl (gR 12 30 x0 σ) fun v11 =>
    zl (aI 14 v11 (x2 + 1) σ) fun v12 =>
    if v10 ≤ v12 then
      (J_X12_nextOrder_31 N x0 x1 x2 σ)
    else
      (again4 (x2 + (-1), σ)))
def f_X12_nextOrder (N : Nat) (x0 : Nat) (x1 : Int32) (σ : zS) : Option (Int32 × zS) :=
  zlp (F_X12_nextOrder_4 N x0 x1) N (x1 - 2, σ)
set_option maxHeartbeats 4000000 in
set_option maxRecDepth 100000 in
theorem c_X12_nextOrder (l : Launch) (D : va_G) (c : zC) (o : Nat) (g : zEp) (N : Nat) {x0 : Nat} {x1 : Int32} {σ : zS} {ρ : Int32 × zS} (h : f_X12_nextOrder N x0 x1 σ = some ρ) : Met l yX12_nextOrder zs_X12_nextOrder (zr 4) (va_Pc [.ref (o + x0), .int x1] (zG D c o g σ)) (zQi D c o g ρ) 0 0 (zA o) := by
  refine zMetG (by decide) (Nat.le_of_ble_eq_true rfl) ?_
  intro p e s m below meth cd ⟨hx, hb, hr, hml, hown, hts, hlocks⟩ hP hK hE ls hl
  have hS : va_S (zA o) s.heap s.heap [] := va_S.rf
  have hl : lv_has ls 6 [(0, .ref (o + x0)), (1, .int x1)] := hl
  rw [f_X12_nextOrder.eq_1] at h
  refine lv_iload_n (pc := 0) hx hb dX12_nextOrder_0 rfl (lv_at hl 1 rfl) ?_
  refine lv_iconst (pc := 1) (v := 2) hx hb dX12_nextOrder_1 (by decide) ?_
  refine lv_isub (pc := 2) hx hb dX12_nextOrder_2 ?_
  refine lv_istore_n (pc := 3) (lv' := [(2, .int (x1 - 2)), (0, .ref (o + x0)), (1, .int x1)]) hx hb dX12_nextOrder_3 rfl hl (by decide) rfl (fun ls hl => ?_)
  have L4_1 : ∀ (n : Nat) (t : Int32 × zS), zlp (F_X12_nextOrder_4 N x0 x1) n t = some ρ → ∀ (H : Heap) (locs : List Loc) (ls : Array Slot), zP D c o (zabs o (t.2)) H → va_S (zA o) s.heap H locs → lv_has ls 6 [(2, .int (t.1)), (0, .ref (o + x0)), (1, .int x1)] → W p l e (zr 4) s m (([.ref (o + x0), .int x1] : List Value).toArray) below meth cd H locs 0 0 (MQ below (zQi D c o g ρ) (([.ref (o + x0), .int x1] : List Value).toArray) s 0 0 (zA o)) (F0 m 4 ls []) := by
    refine zlp_ind (fun ag1 ih1 t h H locs ls hP hS hl => ?_)
    obtain ⟨x2_1, σ1⟩ := t
    have hP : zP D c o (zabs o σ1) H := hP
    have hl : lv_has ls 6 [(2, .int x2_1), (0, .ref (o + x0)), (1, .int x1)] := hl
    rw [F_X12_nextOrder_4.eq_1] at h
    show W p l e (zr 4) s m (([.ref (o + x0), .int x1] : List Value).toArray) below meth cd H locs 0 0 (MQ below (zQi D c o g ρ) (([.ref (o + x0), .int x1] : List Value).toArray) s 0 0 (zA o)) (F0 m 4 ls [])
    refine lv_iload_n (pc := 4) hx hb dX12_nextOrder_4 rfl (lv_at hl 0 rfl) ?_
    have hj31_2 : ∀ (x2_2 : Int32) (σ2 : zS), J_X12_nextOrder_31 N x0 x1 x2_2 σ2 = some ρ → ∀ (H : Heap) (locs : List Loc) (ls : Array Slot), zP D c o (zabs o σ2) H → va_S (zA o) s.heap H locs → lv_has ls 6 [(2, .int x2_2), (0, .ref (o + x0)), (1, .int x1)] → W p l e (zr 4) s m (([.ref (o + x0), .int x1] : List Value).toArray) below meth cd H locs 0 0 (MQ below (zQi D c o g ρ) (([.ref (o + x0), .int x1] : List Value).toArray) s 0 0 (zA o)) (F0 m 31 ls []) := by
      intro x2_2 σ2 h H locs ls hP hS hl
      rw [J_X12_nextOrder_31.eq_1] at h
      refine lv_iload_n (pc := 31) hx hb dX12_nextOrder_31 rfl (lv_at hl 0 rfl) ?_
      refine lv_if_ge (pc := 32) (tgt := 37) hx hb dX12_nextOrder_32 (by decide) (fun c1 => ?_) (fun c1 => ?_)
      · rw [if_pos c1] at h
        refine lv_iload_n (pc := 37) hx hb dX12_nextOrder_37 rfl (lv_at hl 2 rfl) ?_
        refine lv_iconst (pc := 38) (v := 1) hx hb dX12_nextOrder_38 (by decide) ?_
        refine lv_isub (pc := 39) hx hb dX12_nextOrder_39 ?_
        refine lv_istore_n (pc := 40) (lv' := [(3, .int (x1 - 1)), (2, .int x2_2), (0, .ref (o + x0)), (1, .int x1)]) hx hb dX12_nextOrder_40 rfl hl (by decide) rfl (fun ls hl => ?_)
        have L41_3 : ∀ (n : Nat) (t : Int32 × zS), zlp (F_X12_nextOrder_41 N x0 x1 x2_2) n t = some ρ → ∀ (H : Heap) (locs : List Loc) (ls : Array Slot), zP D c o (zabs o (t.2)) H → va_S (zA o) s.heap H locs → lv_has ls 6 [(3, .int (t.1)), (0, .ref (o + x0)), (1, .int x1), (2, .int x2_2)] → W p l e (zr 4) s m (([.ref (o + x0), .int x1] : List Value).toArray) below meth cd H locs 0 0 (MQ below (zQi D c o g ρ) (([.ref (o + x0), .int x1] : List Value).toArray) s 0 0 (zA o)) (F0 m 41 ls []) := by
          refine zlp_ind (fun ag3 ih3 t h H locs ls hP hS hl => ?_)
          obtain ⟨x3_3, σ3⟩ := t
          have hP : zP D c o (zabs o σ3) H := hP
          have hl : lv_has ls 6 [(3, .int x3_3), (0, .ref (o + x0)), (1, .int x1), (2, .int x2_2)] := hl
          rw [F_X12_nextOrder_41.eq_1] at h
          show W p l e (zr 4) s m (([.ref (o + x0), .int x1] : List Value).toArray) below meth cd H locs 0 0 (MQ below (zQi D c o g ρ) (([.ref (o + x0), .int x1] : List Value).toArray) s 0 0 (zA o)) (F0 m 41 ls [])
          refine lv_aload_n (pc := 41) hx hb dX12_nextOrder_41 rfl (lv_at hl 1 rfl) ?_
          obtain ⟨v4, hv, h⟩ := zl_some h
          refine xgR (pc := 42) (j := 30) zc12 hx hb hts hown hK hP hv rfl zf_X12_64 dX12_nextOrder_42 ?_
          refine lv_iload_n (pc := 45) hx hb dX12_nextOrder_45 rfl (lv_at hl 0 rfl) ?_
          obtain ⟨v5, hv, h⟩ := zl_some h
          refine xaI (pc := 46) hx hb hK hP hv dX12_nextOrder_46 ?_
          refine lv_aload_n (pc := 47) hx hb dX12_nextOrder_47 rfl (lv_at hl 1 rfl) ?_
          obtain ⟨v6, hv, h⟩ := zl_some h
          refine xgR (pc := 48) (j := 30) zc12 hx hb hts hown hK hP hv rfl zf_X12_64 dX12_nextOrder_48 ?_
          refine lv_iload_n (pc := 51) hx hb dX12_nextOrder_51 rfl (lv_at hl 3 rfl) ?_
          obtain ⟨v7, hv, h⟩ := zl_some h
          refine xaI (pc := 52) hx hb hK hP hv dX12_nextOrder_52 ?_
          refine lv_icmp_ge (pc := 53) (tgt := 62) hx hb dX12_nextOrder_53 (by decide) (fun c1 => ?_) (fun c1 => ?_)
          · rw [if_pos c1] at h
            refine lv_aload_n (pc := 62) hx hb dX12_nextOrder_62 rfl (lv_at hl 1 rfl) ?_
            refine lv_iload_n (pc := 63) hx hb dX12_nextOrder_63 rfl (lv_at hl 3 rfl) ?_
            refine lv_iload_n (pc := 64) hx hb dX12_nextOrder_64 rfl (lv_at hl 0 rfl) ?_
            obtain ⟨_, hg, h⟩ := zl_some h
            obtain ⟨v8, σ9, hv, h⟩ := zb_some h
            refine xcallVv (pc := 65) (As := [.int x2_2, .int x3_3]) (rest := []) ⟨hx, hb, hml, hown, hts⟩ (c_X12_trades l D c o g N hv) zc12 zV_X12_403 rfl zd_X12_trades ⟨Nat.le_of_ble_eq_true rfl, Nat.le_of_ble_eq_true rfl⟩ hK hP hE hS hg hl.1 rfl (Nat.le_of_ble_eq_true rfl) ⟨Nat.zero_le _, Nat.zero_le _⟩ dX12_nextOrder_65 (fun H locs hP hS => ?_)
            refine lv_iload_n (pc := 68) hx hb dX12_nextOrder_68 rfl (lv_at hl 3 rfl) ?_
            refine lv_iconst (pc := 69) (v := 1) hx hb dX12_nextOrder_69 (by decide) ?_
            refine lv_iadd (pc := 70) hx hb dX12_nextOrder_70 ?_
            refine lv_istore (pc := 71) (lv' := [(4, .int (x2_2 + 1)), (3, .int x3_3), (0, .ref (o + x0)), (1, .int x1), (2, .int x2_2)]) hx hb dX12_nextOrder_71 hl (by decide) rfl (fun ls hl => ?_)
            refine lv_iload_n (pc := 73) hx hb dX12_nextOrder_73 rfl (lv_at hl 3 rfl) ?_
            refine lv_iconst (pc := 74) (v := 1) hx hb dX12_nextOrder_74 (by decide) ?_
            refine lv_isub (pc := 75) hx hb dX12_nextOrder_75 ?_
            refine lv_istore (pc := 76) (lv' := [(5, .int (x1 - 1)), (4, .int (x2_2 + 1)), (3, .int x3_3), (0, .ref (o + x0)), (1, .int x1), (2, .int x2_2)]) hx hb dX12_nextOrder_76 hl (by decide) rfl (fun ls hl => ?_)
            have L78_10 : ∀ (n : Nat) (t : Int32 × Int32 × zS), zlp (F_X12_nextOrder_78 N x0) n t = some ρ → ∀ (H : Heap) (locs : List Loc) (ls : Array Slot), zP D c o (zabs o (t.2.2)) H → va_S (zA o) s.heap H locs → lv_has ls 6 [(4, .int (t.1)), (5, .int (t.2.1)), (0, .ref (o + x0))] → W p l e (zr 4) s m (([.ref (o + x0), .int x1] : List Value).toArray) below meth cd H locs 0 0 (MQ below (zQi D c o g ρ) (([.ref (o + x0), .int x1] : List Value).toArray) s 0 0 (zA o)) (F0 m 78 ls []) := by
              refine zlp_ind (fun ag10 ih10 t h H locs ls hP hS hl => ?_)
              obtain ⟨x4_10, x5_10, σ10⟩ := t
              have hP : zP D c o (zabs o σ10) H := hP
              have hl : lv_has ls 6 [(4, .int x4_10), (5, .int x5_10), (0, .ref (o + x0))] := hl
              rw [F_X12_nextOrder_78.eq_1] at h
              show W p l e (zr 4) s m (([.ref (o + x0), .int x1] : List Value).toArray) below meth cd H locs 0 0 (MQ below (zQi D c o g ρ) (([.ref (o + x0), .int x1] : List Value).toArray) s 0 0 (zA o)) (F0 m 78 ls [])
              refine lv_iload (pc := 78) hx hb dX12_nextOrder_78 (lv_at hl 0 rfl) ?_
              refine lv_iload (pc := 80) hx hb dX12_nextOrder_80 (lv_at hl 1 rfl) ?_
              refine lv_icmp_ge (pc := 82) (tgt := 102) hx hb dX12_nextOrder_82 (by decide) (fun c1 => ?_) (fun c1 => ?_)
              · rw [if_pos c1] at h
                refine lv_iconst (pc := 102) (v := 1) hx hb dX12_nextOrder_102 (by decide) ?_
                exact xretz (pc := 103) hx hb hr hlocks hP hK hE hS h dX12_nextOrder_103
              · rw [if_neg c1] at h
                refine lv_aload_n (pc := 85) hx hb dX12_nextOrder_85 rfl (lv_at hl 2 rfl) ?_
                refine lv_iload (pc := 86) hx hb dX12_nextOrder_86 (lv_at hl 0 rfl) ?_
                refine lv_iload (pc := 88) hx hb dX12_nextOrder_88 (lv_at hl 1 rfl) ?_
                obtain ⟨_, hg, h⟩ := zl_some h
                obtain ⟨v11, σ12, hv, h⟩ := zb_some h
                refine xcallVv (pc := 90) (As := [.int x4_10, .int x5_10]) (rest := []) ⟨hx, hb, hml, hown, hts⟩ (c_X12_trades l D c o g N hv) zc12 zV_X12_403 rfl zd_X12_trades ⟨Nat.le_of_ble_eq_true rfl, Nat.le_of_ble_eq_true rfl⟩ hK hP hE hS hg hl.1 rfl (Nat.le_of_ble_eq_true rfl) ⟨Nat.zero_le _, Nat.zero_le _⟩ dX12_nextOrder_90 (fun H locs hP hS => ?_)
                refine lv_iinc (pc := 93) (v := x4_10 + 1) (lv' := [(4, .int (x4_10 + 1)), (5, .int x5_10), (0, .ref (o + x0))]) hx hb dX12_nextOrder_93 hl (k := 0) rfl rfl (by decide) rfl (fun ls hl => ?_)
                refine lv_iinc (pc := 96) (v := x5_10 + (-1)) (lv' := [(5, .int (x5_10 + (-1))), (4, .int (x4_10 + 1)), (0, .ref (o + x0))]) hx hb dX12_nextOrder_96 hl (k := 1) rfl rfl (by decide) rfl (fun ls hl => ?_)
                refine lv_goto (pc := 99) (tgt := 78) hx hb dX12_nextOrder_99 (by decide) ?_
                exact ih10 (x4_10 + 1, x5_10 + (-1), σ12) h _ _ ls hP hS (lv_sub hl [1, 0, 2] rfl)
            exact L78_10 N (x2_2 + 1, x1 - 1, σ9) h _ _ ls hP hS (lv_sub hl [1, 0, 3] rfl)
          · rw [if_neg c1] at h
            refine lv_iinc (pc := 56) (v := x3_3 + (-1)) (lv' := [(3, .int (x3_3 + (-1))), (0, .ref (o + x0)), (1, .int x1), (2, .int x2_2)]) hx hb dX12_nextOrder_56 hl (k := 0) rfl rfl (by decide) rfl (fun ls hl => ?_)
            refine lv_goto (pc := 59) (tgt := 41) hx hb dX12_nextOrder_59 (by decide) ?_
            exact ih3 (x3_3 + (-1), σ3) h _ _ ls hP hS (lv_sub hl [0, 1, 2, 3] rfl)
        exact L41_3 N (x1 - 1, σ2) h _ _ ls hP hS (lv_sub hl [0, 2, 3, 1] rfl)
      · rw [if_neg c1] at h
        refine lv_iconst (pc := 35) (v := 0) hx hb dX12_nextOrder_35 (by decide) ?_
        exact xretz (pc := 36) hx hb hr hlocks hP hK hE hS h dX12_nextOrder_36
    refine lv_if_lt (pc := 5) (tgt := 31) hx hb dX12_nextOrder_5 (by decide) (fun c1 => ?_) (fun c1 => ?_)
    · rw [if_pos c1] at h
      exact hj31_2 (x2_1) σ1 h _ _ ls hP hS (lv_sub hl [0, 1, 2] rfl)
    · rw [if_neg c1] at h
      refine lv_aload_n (pc := 8) hx hb dX12_nextOrder_8 rfl (lv_at hl 1 rfl) ?_
      obtain ⟨v13, hv, h⟩ := zl_some h
      refine xgR (pc := 9) (j := 30) zc12 hx hb hts hown hK hP hv rfl zf_X12_64 dX12_nextOrder_9 ?_
      refine lv_iload_n (pc := 12) hx hb dX12_nextOrder_12 rfl (lv_at hl 0 rfl) ?_
      obtain ⟨v14, hv, h⟩ := zl_some h
      refine xaI (pc := 13) hx hb hK hP hv dX12_nextOrder_13 ?_
      refine lv_aload_n (pc := 14) hx hb dX12_nextOrder_14 rfl (lv_at hl 1 rfl) ?_
      obtain ⟨v15, hv, h⟩ := zl_some h
      refine xgR (pc := 15) (j := 30) zc12 hx hb hts hown hK hP hv rfl zf_X12_64 dX12_nextOrder_15 ?_
      refine lv_iload_n (pc := 18) hx hb dX12_nextOrder_18 rfl (lv_at hl 0 rfl) ?_
      refine lv_iconst (pc := 19) (v := 1) hx hb dX12_nextOrder_19 (by decide) ?_
      refine lv_iadd (pc := 20) hx hb dX12_nextOrder_20 ?_
      obtain ⟨v16, hv, h⟩ := zl_some h
      refine xaI (pc := 21) hx hb hK hP hv dX12_nextOrder_21 ?_
      refine lv_icmp_le (pc := 22) (tgt := 31) hx hb dX12_nextOrder_22 (by decide) (fun c1 => ?_) (fun c1 => ?_)
      · rw [if_pos c1] at h
        exact hj31_2 (x2_1) σ1 h _ _ ls hP hS (lv_sub hl [0, 1, 2] rfl)
      · rw [if_neg c1] at h
        refine lv_iinc (pc := 25) (v := x2_1 + (-1)) (lv' := [(2, .int (x2_1 + (-1))), (0, .ref (o + x0)), (1, .int x1)]) hx hb dX12_nextOrder_25 hl (k := 0) rfl rfl (by decide) rfl (fun ls hl => ?_)
        refine lv_goto (pc := 28) (tgt := 4) hx hb dX12_nextOrder_28 (by decide) ?_
        exact ih1 (x2_1 + (-1), σ1) h _ _ ls hP hS (lv_sub hl [0, 1, 2] rfl)
  exact L4_1 N (x1 - 2, σ) h _ _ ls hP hS (lv_sub hl [0, 1, 2] rfl)
def F_X12_findsBest_53 (N : Nat) (x0 : Nat) (x1 : Int32) (x2 : Int32) (again25 : (Int32 × Int32 × zS) → Option (Int32 × zS)) (again53 : (Int32 × zS) → Option (Int32 × zS)) : Int32 × zS → Option (Int32 × zS)
  | (x5, σ) =>
  if 10 ≤ x5 then
    (zl (gR 12 1 x0 σ) fun v3 =>
    zl (aI 14 v3 0 σ) fun v4 =>
    zl (gC 12 x0) fun _ => zb (f_X12_nextOrder N x0 v4 σ) fun v5 σ6 =>
    again25 (x2, v5, σ6))
  else
    (zl (gR 12 33 x0 σ) fun v7 =>
    zl (gR 12 30 x0 σ) fun v8 =>
    zl (aI 14 v8 x5 σ) fun v9 =>
    zl (sI 14 v7 x5 v9 σ) fun σ10 =>
    again53 (x5 + 1, σ10))
def J_X12_findsBest_47 (N : Nat) (again25 : (Int32 × Int32 × zS) → Option (Int32 × zS)) (x0 : Nat) (x1 : Int32) (x4 : Int32) (σ : zS) : Option (Int32 × zS) :=
  zlp (F_X12_findsBest_53 N x0 x1 x4 again25) N (0, σ)
def F_X12_findsBest_25 (N : Nat) (x0 : Nat) (x1 : Int32) (again25 : (Int32 × Int32 × zS) → Option (Int32 × zS)) : Int32 × Int32 × zS → Option (Int32 × zS)
  | (x2, x3, σ) =>
  if x3 = 0 then
    (some (x2, σ))
  else
    (zl (gC 12 x0) fun _ => zb (f_X12_nodesOf N x0 x1 σ) fun v1 σ2 =>
    if x2 = (-1) then
      (J_X12_findsBest_47 N again25 x0 x1 v1 σ2)
    else
      (if x2 ≤ v1 then
        (zl (gR 12 1 x0 σ2) fun v11 =>
        zl (aI 14 v11 0 σ2) fun v12 =>
        zl (gC 12 x0) fun _ => zb (f_X12_nextOrder N x0 v12 σ2) fun v13 σ14 =>
        again25 (x2, v13, σ14))
      else
        (J_X12_findsBest_47 N again25 x0 x1 v1 σ2)))
def F_X12_findsBest_4 (N : Nat) (x0 : Nat) (x1 : Int32) (x2 : Int32) (again4 : (Int32 × zS) → Option (Int32 × zS)) : Int32 × zS → Option (Int32 × zS)
  | (x3, σ) =>
  if 10 ≤ x3 then
    (zlp (F_X12_findsBest_25 N x0 x1) N (x2, 1, σ))
  else
    (zl (gR 12 30 x0 σ) fun v15 =>
    zl (sI 14 v15 x3 x3 σ) fun σ16 =>
    again4 (x3 + 1, σ16))
def f_X12_findsBest (N : Nat) (x0 : Nat) (x1 : Int32) (σ : zS) : Option (Int32 × zS) :=
  zlp (F_X12_findsBest_4 N x0 x1 (-1)) N (0, σ)
set_option maxHeartbeats 4000000 in
set_option maxRecDepth 100000 in
theorem c_X12_findsBest (l : Launch) (D : va_G) (c : zC) (o : Nat) (g : zEp) (N : Nat) {x0 : Nat} {x1 : Int32} {σ : zS} {ρ : Int32 × zS} (h : f_X12_findsBest N x0 x1 σ = some ρ) : Met l yX12_findsBest zs_X12_findsBest (zr 12) (va_Pc [.ref (o + x0), .int x1] (zG D c o g σ)) (zQi D c o g ρ) 0 0 (zA o) := by
  refine zMetG (by decide) (Nat.le_of_ble_eq_true rfl) ?_
  intro p e s m below meth cd ⟨hx, hb, hr, hml, hown, hts, hlocks⟩ hP hK hE ls hl
  have hS : va_S (zA o) s.heap s.heap [] := va_S.rf
  have hl : lv_has ls 6 [(0, .ref (o + x0)), (1, .int x1)] := hl
  rw [f_X12_findsBest.eq_1] at h
  refine lv_iconst (pc := 0) (v := (-1)) hx hb dX12_findsBest_0 (by decide) ?_
  refine lv_istore_n (pc := 1) (lv' := [(2, .int (-1)), (0, .ref (o + x0)), (1, .int x1)]) hx hb dX12_findsBest_1 rfl hl (by decide) rfl (fun ls hl => ?_)
  refine lv_iconst (pc := 2) (v := 0) hx hb dX12_findsBest_2 (by decide) ?_
  refine lv_istore_n (pc := 3) (lv' := [(3, .int 0), (2, .int (-1)), (0, .ref (o + x0)), (1, .int x1)]) hx hb dX12_findsBest_3 rfl hl (by decide) rfl (fun ls hl => ?_)
  have L4_1 : ∀ (n : Nat) (t : Int32 × zS), zlp (F_X12_findsBest_4 N x0 x1 (-1)) n t = some ρ → ∀ (H : Heap) (locs : List Loc) (ls : Array Slot), zP D c o (zabs o (t.2)) H → va_S (zA o) s.heap H locs → lv_has ls 6 [(3, .int (t.1)), (0, .ref (o + x0)), (1, .int x1), (2, .int (-1))] → W p l e (zr 12) s m (([.ref (o + x0), .int x1] : List Value).toArray) below meth cd H locs 0 0 (MQ below (zQi D c o g ρ) (([.ref (o + x0), .int x1] : List Value).toArray) s 0 0 (zA o)) (F0 m 4 ls []) := by
    refine zlp_ind (fun ag1 ih1 t h H locs ls hP hS hl => ?_)
    obtain ⟨x3_1, σ1⟩ := t
    have hP : zP D c o (zabs o σ1) H := hP
    have hl : lv_has ls 6 [(3, .int x3_1), (0, .ref (o + x0)), (1, .int x1), (2, .int (-1))] := hl
    rw [F_X12_findsBest_4.eq_1] at h
    show W p l e (zr 12) s m (([.ref (o + x0), .int x1] : List Value).toArray) below meth cd H locs 0 0 (MQ below (zQi D c o g ρ) (([.ref (o + x0), .int x1] : List Value).toArray) s 0 0 (zA o)) (F0 m 4 ls [])
    refine lv_iload_n (pc := 4) hx hb dX12_findsBest_4 rfl (lv_at hl 0 rfl) ?_
    refine lv_bipush (pc := 5) (v := 10) hx hb dX12_findsBest_5 (by decide) ?_
    refine lv_icmp_ge (pc := 7) (tgt := 23) hx hb dX12_findsBest_7 (by decide) (fun c1 => ?_) (fun c1 => ?_)
    · rw [if_pos c1] at h
      refine lv_iconst (pc := 23) (v := 1) hx hb dX12_findsBest_23 (by decide) ?_
      refine lv_istore_n (pc := 24) (lv' := [(3, .int 1), (0, .ref (o + x0)), (1, .int x1), (2, .int (-1))]) hx hb dX12_findsBest_24 rfl hl (by decide) rfl (fun ls hl => ?_)
      have L25_2 : ∀ (n : Nat) (t : Int32 × Int32 × zS), zlp (F_X12_findsBest_25 N x0 x1) n t = some ρ → ∀ (H : Heap) (locs : List Loc) (ls : Array Slot), zP D c o (zabs o (t.2.2)) H → va_S (zA o) s.heap H locs → lv_has ls 6 [(2, .int (t.1)), (3, .int (t.2.1)), (0, .ref (o + x0)), (1, .int x1)] → W p l e (zr 12) s m (([.ref (o + x0), .int x1] : List Value).toArray) below meth cd H locs 0 0 (MQ below (zQi D c o g ρ) (([.ref (o + x0), .int x1] : List Value).toArray) s 0 0 (zA o)) (F0 m 25 ls []) := by
        refine zlp_ind (fun ag2 ih2 t h H locs ls hP hS hl => ?_)
        obtain ⟨x2_2, x3_2, σ2⟩ := t
        have hP : zP D c o (zabs o σ2) H := hP
        have hl : lv_has ls 6 [(2, .int x2_2), (3, .int x3_2), (0, .ref (o + x0)), (1, .int x1)] := hl
        rw [F_X12_findsBest_25.eq_1] at h
        show W p l e (zr 12) s m (([.ref (o + x0), .int x1] : List Value).toArray) below meth cd H locs 0 0 (MQ below (zQi D c o g ρ) (([.ref (o + x0), .int x1] : List Value).toArray) s 0 0 (zA o)) (F0 m 25 ls [])
        refine lv_iload_n (pc := 25) hx hb dX12_findsBest_25 rfl (lv_at hl 1 rfl) ?_
        refine lv_if_eq (pc := 26) (tgt := 94) hx hb dX12_findsBest_26 (by decide) (fun c1 => ?_) (fun c1 => ?_)
        · rw [if_pos c1] at h
          refine lv_iload_n (pc := 94) hx hb dX12_findsBest_94 rfl (lv_at hl 0 rfl) ?_
          exact xreti (pc := 95) hx hb hr hlocks hP hK hE hS h dX12_findsBest_95
        · rw [if_neg c1] at h
          refine lv_aload_n (pc := 29) hx hb dX12_findsBest_29 rfl (lv_at hl 2 rfl) ?_
          refine lv_iload_n (pc := 30) hx hb dX12_findsBest_30 rfl (lv_at hl 3 rfl) ?_
          obtain ⟨_, hg, h⟩ := zl_some h
          obtain ⟨v3, σ4, hv, h⟩ := zb_some h
          refine xcallVi (pc := 31) (As := [.int x1]) (rest := []) ⟨hx, hb, hml, hown, hts⟩ (c_X12_nodesOf l D c o g N hv) zc12 zV_X12_390 rfl zd_X12_nodesOf ⟨Nat.le_of_ble_eq_true rfl, Nat.le_of_ble_eq_true rfl⟩ hK hP hE hS hg hl.1 rfl (Nat.le_of_ble_eq_true rfl) ⟨Nat.zero_le _, Nat.zero_le _⟩ dX12_findsBest_31 (fun H locs hP hS => ?_)
          refine lv_istore (pc := 34) (lv' := [(4, .int v3), (2, .int x2_2), (3, .int x3_2), (0, .ref (o + x0)), (1, .int x1)]) hx hb dX12_findsBest_34 hl (by decide) rfl (fun ls hl => ?_)
          refine lv_iload_n (pc := 36) hx hb dX12_findsBest_36 rfl (lv_at hl 1 rfl) ?_
          refine lv_iconst (pc := 37) (v := (-1)) hx hb dX12_findsBest_37 (by decide) ?_
          have hj47_5 : ∀ (σ5 : zS), J_X12_findsBest_47 N ag2 x0 x1 v3 σ5 = some ρ → ∀ (H : Heap) (locs : List Loc) (ls : Array Slot), zP D c o (zabs o σ5) H → va_S (zA o) s.heap H locs → lv_has ls 6 [(0, .ref (o + x0)), (1, .int x1), (4, .int v3)] → W p l e (zr 12) s m (([.ref (o + x0), .int x1] : List Value).toArray) below meth cd H locs 0 0 (MQ below (zQi D c o g ρ) (([.ref (o + x0), .int x1] : List Value).toArray) s 0 0 (zA o)) (F0 m 47 ls []) := by
            intro σ5 h H locs ls hP hS hl
            rw [J_X12_findsBest_47.eq_1] at h
            refine lv_iload (pc := 47) hx hb dX12_findsBest_47 (lv_at hl 2 rfl) ?_
            refine lv_istore_n (pc := 49) (lv' := [(2, .int v3), (0, .ref (o + x0)), (1, .int x1), (4, .int v3)]) hx hb dX12_findsBest_49 rfl hl (by decide) rfl (fun ls hl => ?_)
            refine lv_iconst (pc := 50) (v := 0) hx hb dX12_findsBest_50 (by decide) ?_
            refine lv_istore (pc := 51) (lv' := [(5, .int 0), (2, .int v3), (0, .ref (o + x0)), (1, .int x1), (4, .int v3)]) hx hb dX12_findsBest_51 hl (by decide) rfl (fun ls hl => ?_)
            have L53_6 : ∀ (n : Nat) (t : Int32 × zS), zlp (F_X12_findsBest_53 N x0 x1 v3 ag2) n t = some ρ → ∀ (H : Heap) (locs : List Loc) (ls : Array Slot), zP D c o (zabs o (t.2)) H → va_S (zA o) s.heap H locs → lv_has ls 6 [(5, .int (t.1)), (0, .ref (o + x0)), (1, .int x1), (2, .int v3)] → W p l e (zr 12) s m (([.ref (o + x0), .int x1] : List Value).toArray) below meth cd H locs 0 0 (MQ below (zQi D c o g ρ) (([.ref (o + x0), .int x1] : List Value).toArray) s 0 0 (zA o)) (F0 m 53 ls []) := by
              refine zlp_ind (fun ag6 ih6 t h H locs ls hP hS hl => ?_)
              obtain ⟨x5_6, σ6⟩ := t
              have hP : zP D c o (zabs o σ6) H := hP
              have hl : lv_has ls 6 [(5, .int x5_6), (0, .ref (o + x0)), (1, .int x1), (2, .int v3)] := hl
              rw [F_X12_findsBest_53.eq_1] at h
              show W p l e (zr 12) s m (([.ref (o + x0), .int x1] : List Value).toArray) below meth cd H locs 0 0 (MQ below (zQi D c o g ρ) (([.ref (o + x0), .int x1] : List Value).toArray) s 0 0 (zA o)) (F0 m 53 ls [])
              refine lv_iload (pc := 53) hx hb dX12_findsBest_53 (lv_at hl 0 rfl) ?_
              refine lv_bipush (pc := 55) (v := 10) hx hb dX12_findsBest_55 (by decide) ?_
              refine lv_icmp_ge (pc := 57) (tgt := 80) hx hb dX12_findsBest_57 (by decide) (fun c1 => ?_) (fun c1 => ?_)
              · rw [if_pos c1] at h
                refine lv_aload_n (pc := 80) hx hb dX12_findsBest_80 rfl (lv_at hl 1 rfl) ?_
                refine lv_aload_n (pc := 81) hx hb dX12_findsBest_81 rfl (lv_at hl 1 rfl) ?_
                obtain ⟨v7, hv, h⟩ := zl_some h
                refine xgR (pc := 82) (j := 1) zc12 hx hb hts hown hK hP hv rfl zf_X12_9 dX12_findsBest_82 ?_
                refine lv_iconst (pc := 85) (v := 0) hx hb dX12_findsBest_85 (by decide) ?_
                obtain ⟨v8, hv, h⟩ := zl_some h
                refine xaI (pc := 86) hx hb hK hP hv dX12_findsBest_86 ?_
                obtain ⟨_, hg, h⟩ := zl_some h
                obtain ⟨v9, σ10, hv, h⟩ := zb_some h
                refine xcallVi (pc := 87) (As := [.int v8]) (rest := []) ⟨hx, hb, hml, hown, hts⟩ (c_X12_nextOrder l D c o g N hv) zc12 zV_X12_406 rfl zd_X12_nextOrder ⟨Nat.le_of_ble_eq_true rfl, Nat.le_of_ble_eq_true rfl⟩ hK hP hE hS hg hl.1 rfl (Nat.le_of_ble_eq_true rfl) ⟨Nat.zero_le _, Nat.zero_le _⟩ dX12_findsBest_87 (fun H locs hP hS => ?_)
                refine lv_istore_n (pc := 90) (lv' := [(3, .int v9), (5, .int x5_6), (0, .ref (o + x0)), (1, .int x1), (2, .int v3)]) hx hb dX12_findsBest_90 rfl hl (by decide) rfl (fun ls hl => ?_)
                refine lv_goto (pc := 91) (tgt := 25) hx hb dX12_findsBest_91 (by decide) ?_
                exact ih2 (v3, v9, σ10) h _ _ ls hP hS (lv_sub hl [4, 0, 2, 3] rfl)
              · rw [if_neg c1] at h
                refine lv_aload_n (pc := 60) hx hb dX12_findsBest_60 rfl (lv_at hl 1 rfl) ?_
                obtain ⟨v11, hv, h⟩ := zl_some h
                refine xgR (pc := 61) (j := 33) zc12 hx hb hts hown hK hP hv rfl zf_X12_70 dX12_findsBest_61 ?_
                refine lv_iload (pc := 64) hx hb dX12_findsBest_64 (lv_at hl 0 rfl) ?_
                refine lv_aload_n (pc := 66) hx hb dX12_findsBest_66 rfl (lv_at hl 1 rfl) ?_
                obtain ⟨v12, hv, h⟩ := zl_some h
                refine xgR (pc := 67) (j := 30) zc12 hx hb hts hown hK hP hv rfl zf_X12_64 dX12_findsBest_67 ?_
                refine lv_iload (pc := 70) hx hb dX12_findsBest_70 (lv_at hl 0 rfl) ?_
                obtain ⟨v13, hv, h⟩ := zl_some h
                refine xaI (pc := 72) hx hb hK hP hv dX12_findsBest_72 ?_
                obtain ⟨σ14, hv, h⟩ := zl_some h
                refine xsI (pc := 73) hx hb hK hP hS hv dX12_findsBest_73 (fun H locs hP hS => ?_)
                refine lv_iinc (pc := 74) (v := x5_6 + 1) (lv' := [(5, .int (x5_6 + 1)), (0, .ref (o + x0)), (1, .int x1), (2, .int v3)]) hx hb dX12_findsBest_74 hl (k := 0) rfl rfl (by decide) rfl (fun ls hl => ?_)
                refine lv_goto (pc := 77) (tgt := 53) hx hb dX12_findsBest_77 (by decide) ?_
                exact ih6 (x5_6 + 1, σ14) h _ _ ls hP hS (lv_sub hl [0, 1, 2, 3] rfl)
            exact L53_6 N (0, σ5) h _ _ ls hP hS (lv_sub hl [0, 2, 3, 1] rfl)
          refine lv_icmp_eq (pc := 38) (tgt := 47) hx hb dX12_findsBest_38 (by decide) (fun c1 => ?_) (fun c1 => ?_)
          · rw [if_pos c1] at h
            exact hj47_5 σ4 h _ _ ls hP hS (lv_sub hl [3, 4, 0] rfl)
          · rw [if_neg c1] at h
            refine lv_iload (pc := 41) hx hb dX12_findsBest_41 (lv_at hl 0 rfl) ?_
            refine lv_iload_n (pc := 43) hx hb dX12_findsBest_43 rfl (lv_at hl 1 rfl) ?_
            refine lv_icmp_ge (pc := 44) (tgt := 80) hx hb dX12_findsBest_44 (by decide) (fun c1 => ?_) (fun c1 => ?_)
            · rw [if_pos c1] at h
              refine lv_aload_n (pc := 80) hx hb dX12_findsBest_80 rfl (lv_at hl 3 rfl) ?_
              refine lv_aload_n (pc := 81) hx hb dX12_findsBest_81 rfl (lv_at hl 3 rfl) ?_
              obtain ⟨v15, hv, h⟩ := zl_some h
              refine xgR (pc := 82) (j := 1) zc12 hx hb hts hown hK hP hv rfl zf_X12_9 dX12_findsBest_82 ?_
              refine lv_iconst (pc := 85) (v := 0) hx hb dX12_findsBest_85 (by decide) ?_
              obtain ⟨v16, hv, h⟩ := zl_some h
              refine xaI (pc := 86) hx hb hK hP hv dX12_findsBest_86 ?_
              obtain ⟨_, hg, h⟩ := zl_some h
              obtain ⟨v17, σ18, hv, h⟩ := zb_some h
              refine xcallVi (pc := 87) (As := [.int v16]) (rest := []) ⟨hx, hb, hml, hown, hts⟩ (c_X12_nextOrder l D c o g N hv) zc12 zV_X12_406 rfl zd_X12_nextOrder ⟨Nat.le_of_ble_eq_true rfl, Nat.le_of_ble_eq_true rfl⟩ hK hP hE hS hg hl.1 rfl (Nat.le_of_ble_eq_true rfl) ⟨Nat.zero_le _, Nat.zero_le _⟩ dX12_findsBest_87 (fun H locs hP hS => ?_)
              refine lv_istore_n (pc := 90) (lv' := [(3, .int v17), (4, .int v3), (2, .int x2_2), (0, .ref (o + x0)), (1, .int x1)]) hx hb dX12_findsBest_90 rfl hl (by decide) rfl (fun ls hl => ?_)
              refine lv_goto (pc := 91) (tgt := 25) hx hb dX12_findsBest_91 (by decide) ?_
              exact ih2 (x2_2, v17, σ18) h _ _ ls hP hS (lv_sub hl [2, 0, 3, 4] rfl)
            · rw [if_neg c1] at h
              exact hj47_5 σ4 h _ _ ls hP hS (lv_sub hl [3, 4, 0] rfl)
      exact L25_2 N ((-1), 1, σ1) h _ _ ls hP hS (lv_sub hl [3, 0, 1, 2] rfl)
    · rw [if_neg c1] at h
      refine lv_aload_n (pc := 10) hx hb dX12_findsBest_10 rfl (lv_at hl 1 rfl) ?_
      obtain ⟨v19, hv, h⟩ := zl_some h
      refine xgR (pc := 11) (j := 30) zc12 hx hb hts hown hK hP hv rfl zf_X12_64 dX12_findsBest_11 ?_
      refine lv_iload_n (pc := 14) hx hb dX12_findsBest_14 rfl (lv_at hl 0 rfl) ?_
      refine lv_iload_n (pc := 15) hx hb dX12_findsBest_15 rfl (lv_at hl 0 rfl) ?_
      obtain ⟨σ20, hv, h⟩ := zl_some h
      refine xsI (pc := 16) hx hb hK hP hS hv dX12_findsBest_16 (fun H locs hP hS => ?_)
      refine lv_iinc (pc := 17) (v := x3_1 + 1) (lv' := [(3, .int (x3_1 + 1)), (0, .ref (o + x0)), (1, .int x1), (2, .int (-1))]) hx hb dX12_findsBest_17 hl (k := 0) rfl rfl (by decide) rfl (fun ls hl => ?_)
      refine lv_goto (pc := 20) (tgt := 4) hx hb dX12_findsBest_20 (by decide) ?_
      exact ih1 (x3_1 + 1, σ20) h _ _ ls hP hS (lv_sub hl [0, 1, 2, 3] rfl)
  exact L4_1 N (0, σ) h _ _ ls hP hS (lv_sub hl [0, 2, 3, 1] rfl)
def f_X12_best (N : Nat) (x0 : Nat) (x1 : Int32) (x2 : Int32) (σ : zS) : Option (Int32 × zS) :=
  zl (gC 12 x0) fun _ => zb (f_X12_isRegister N x0 x1 σ) fun v1 σ2 =>
  if v1 = 0 then
    (some ((-2), σ2))
  else
    (zb (f_X12_in N (Int32.toInt64 x2) 0 10 σ2) fun v3 σ4 =>
    if v3 = 0 then
      (some ((-2), σ4))
    else
      (zl (gR 12 1 x0 σ4) fun v5 =>
      zl (aI 14 v5 0 σ4) fun v6 =>
      if v6 ≤ 6 then
        (zl (gC 12 x0) fun _ => zb (f_X12_findsBest N x0 x1 σ4) fun v7 σ8 =>
        if x2 = 0 then
          (some (v7, σ8))
        else
          (zl (gR 12 1 x0 σ8) fun v9 =>
          zl (aI 14 v9 0 σ8) fun v10 =>
          if x2 ≤ v10 then
            (zl (gR 12 33 x0 σ8) fun v11 =>
            zl (aI 14 v11 (x2 - 1) σ8) fun v12 =>
            some (v12, σ8))
          else
            (some ((-1), σ8))))
      else
        (some ((-3), σ4))))
set_option maxHeartbeats 4000000 in
set_option maxRecDepth 100000 in
theorem c_X12_best (l : Launch) (D : va_G) (c : zC) (o : Nat) (g : zEp) (N : Nat) {x0 : Nat} {x1 : Int32} {x2 : Int32} {σ : zS} {ρ : Int32 × zS} (h : f_X12_best N x0 x1 x2 σ = some ρ) : Met l yX12_best zs_X12_best (zr 14) (va_Pc [.ref (o + x0), .int x1, .int x2] (zG D c o g σ)) (zQi D c o g ρ) 0 0 (zA o) := by
  refine zMetG (by decide) (Nat.le_of_ble_eq_true rfl) ?_
  intro p e s m below meth cd ⟨hx, hb, hr, hml, hown, hts, hlocks⟩ hP hK hE ls hl
  have hS : va_S (zA o) s.heap s.heap [] := va_S.rf
  have hl : lv_has ls 4 [(0, .ref (o + x0)), (1, .int x1), (2, .int x2)] := hl
  rw [f_X12_best.eq_1] at h
  refine lv_aload_n (pc := 0) hx hb dX12_best_0 rfl (lv_at hl 0 rfl) ?_
  refine lv_iload_n (pc := 1) hx hb dX12_best_1 rfl (lv_at hl 1 rfl) ?_
  obtain ⟨_, hg, h⟩ := zl_some h
  obtain ⟨v1, σ2, hv, h⟩ := zb_some h
  refine xcallVi (pc := 2) (As := [.int x1]) (rest := []) ⟨hx, hb, hml, hown, hts⟩ (c_X12_isRegister l D c o g N hv) zc12 zV_X12_321 rfl zd_X12_isRegister ⟨Nat.le_of_ble_eq_true rfl, Nat.le_of_ble_eq_true rfl⟩ hK hP hE hS hg hl.1 rfl (Nat.le_of_ble_eq_true rfl) ⟨Nat.zero_le _, Nat.zero_le _⟩ dX12_best_2 (fun H locs hP hS => ?_)
  refine lv_if_eq (pc := 5) (tgt := 20) hx hb dX12_best_5 (by decide) (fun c1 => ?_) (fun c1 => ?_)
  · rw [if_pos c1] at h
    refine lv_bipush (pc := 20) (v := (-2)) hx hb dX12_best_20 (by decide) ?_
    exact xreti (pc := 22) hx hb hr hlocks hP hK hE hS h dX12_best_22
  · rw [if_neg c1] at h
    refine lv_iload_n (pc := 8) hx hb dX12_best_8 rfl (lv_at hl 2 rfl) ?_
    refine lv_i2l (pc := 9) hx hb dX12_best_9 rfl ?_
    refine lv_lconst (pc := 10) (v := 0) hx hb dX12_best_10 (by decide) ?_
    refine lv_ldc2 (pc := 11) hx hb hown (hts _ zk_X12_335) dX12_best_11 ?_
    obtain ⟨v3, σ4, hv, h⟩ := zb_some h
    refine xcallSi (pc := 14) (As := [.long (Int32.toInt64 x2), .long 0, .long 10]) (rest := []) ⟨hx, hb, hml, hown, hts⟩ (c_X12_in l D c o g N hv) zT_X12_94 rfl zd_X12_in ⟨Nat.le_of_ble_eq_true rfl, Nat.le_of_ble_eq_true rfl⟩ hK hP hE hS hl.1 rfl (Nat.le_of_ble_eq_true rfl) ⟨Nat.zero_le _, Nat.zero_le _⟩ dX12_best_14 (fun H locs hP hS => ?_)
    refine lv_if_ne (pc := 17) (tgt := 23) hx hb dX12_best_17 (by decide) (fun c1 => ?_) (fun c1 => ?_)
    · rw [if_neg c1] at h
      refine lv_aload_n (pc := 23) hx hb dX12_best_23 rfl (lv_at hl 0 rfl) ?_
      obtain ⟨v5, hv, h⟩ := zl_some h
      refine xgR (pc := 24) (j := 1) zc12 hx hb hts hown hK hP hv rfl zf_X12_9 dX12_best_24 ?_
      refine lv_iconst (pc := 27) (v := 0) hx hb dX12_best_27 (by decide) ?_
      obtain ⟨v6, hv, h⟩ := zl_some h
      refine xaI (pc := 28) hx hb hK hP hv dX12_best_28 ?_
      refine lv_bipush (pc := 29) (v := 6) hx hb dX12_best_29 (by decide) ?_
      refine lv_icmp_le (pc := 31) (tgt := 37) hx hb dX12_best_31 (by decide) (fun c1 => ?_) (fun c1 => ?_)
      · rw [if_pos c1] at h
        refine lv_aload_n (pc := 37) hx hb dX12_best_37 rfl (lv_at hl 0 rfl) ?_
        refine lv_iload_n (pc := 38) hx hb dX12_best_38 rfl (lv_at hl 1 rfl) ?_
        obtain ⟨_, hg, h⟩ := zl_some h
        obtain ⟨v7, σ8, hv, h⟩ := zb_some h
        refine xcallVi (pc := 39) (As := [.int x1]) (rest := []) ⟨hx, hb, hml, hown, hts⟩ (c_X12_findsBest l D c o g N hv) zc12 zV_X12_409 rfl zd_X12_findsBest ⟨Nat.le_of_ble_eq_true rfl, Nat.le_of_ble_eq_true rfl⟩ hK hP hE hS hg hl.1 rfl (Nat.le_of_ble_eq_true rfl) ⟨Nat.zero_le _, Nat.zero_le _⟩ dX12_best_39 (fun H locs hP hS => ?_)
        refine lv_istore_n (pc := 42) (lv' := [(3, .int v7), (0, .ref (o + x0)), (1, .int x1), (2, .int x2)]) hx hb dX12_best_42 rfl hl (by decide) rfl (fun ls hl => ?_)
        refine lv_iload_n (pc := 43) hx hb dX12_best_43 rfl (lv_at hl 3 rfl) ?_
        refine lv_if_ne (pc := 44) (tgt := 51) hx hb dX12_best_44 (by decide) (fun c1 => ?_) (fun c1 => ?_)
        · rw [if_neg c1] at h
          refine lv_iload_n (pc := 51) hx hb dX12_best_51 rfl (lv_at hl 3 rfl) ?_
          refine lv_aload_n (pc := 52) hx hb dX12_best_52 rfl (lv_at hl 1 rfl) ?_
          obtain ⟨v9, hv, h⟩ := zl_some h
          refine xgR (pc := 53) (j := 1) zc12 hx hb hts hown hK hP hv rfl zf_X12_9 dX12_best_53 ?_
          refine lv_iconst (pc := 56) (v := 0) hx hb dX12_best_56 (by decide) ?_
          obtain ⟨v10, hv, h⟩ := zl_some h
          refine xaI (pc := 57) hx hb hK hP hv dX12_best_57 ?_
          refine lv_icmp_le (pc := 58) (tgt := 65) hx hb dX12_best_58 (by decide) (fun c1 => ?_) (fun c1 => ?_)
          · rw [if_pos c1] at h
            refine lv_aload_n (pc := 65) hx hb dX12_best_65 rfl (lv_at hl 1 rfl) ?_
            obtain ⟨v11, hv, h⟩ := zl_some h
            refine xgR (pc := 66) (j := 33) zc12 hx hb hts hown hK hP hv rfl zf_X12_70 dX12_best_66 ?_
            refine lv_iload_n (pc := 69) hx hb dX12_best_69 rfl (lv_at hl 3 rfl) ?_
            refine lv_iconst (pc := 70) (v := 1) hx hb dX12_best_70 (by decide) ?_
            refine lv_isub (pc := 71) hx hb dX12_best_71 ?_
            obtain ⟨v12, hv, h⟩ := zl_some h
            refine xaI (pc := 72) hx hb hK hP hv dX12_best_72 ?_
            exact xreti (pc := 73) hx hb hr hlocks hP hK hE hS h dX12_best_73
          · rw [if_neg c1] at h
            refine lv_iconst (pc := 61) (v := (-1)) hx hb dX12_best_61 (by decide) ?_
            refine lv_goto (pc := 62) (tgt := 73) hx hb dX12_best_62 (by decide) ?_
            exact xreti (pc := 73) hx hb hr hlocks hP hK hE hS h dX12_best_73
        · rw [if_pos c1] at h
          refine lv_iload_n (pc := 47) hx hb dX12_best_47 rfl (lv_at hl 0 rfl) ?_
          refine lv_goto (pc := 48) (tgt := 73) hx hb dX12_best_48 (by decide) ?_
          exact xreti (pc := 73) hx hb hr hlocks hP hK hE hS h dX12_best_73
      · rw [if_neg c1] at h
        refine lv_bipush (pc := 34) (v := (-3)) hx hb dX12_best_34 (by decide) ?_
        exact xreti (pc := 36) hx hb hr hlocks hP hK hE hS h dX12_best_36
    · rw [if_pos c1] at h
      refine lv_bipush (pc := 20) (v := (-2)) hx hb dX12_best_20 (by decide) ?_
      exact xreti (pc := 22) hx hb hr hlocks hP hK hE hS h dX12_best_22
def F_X12_sift_31 (N : Nat) (x0 : Nat) (x1 : Int32) (x3 : Int32) (again15 : (Int32 × Int32 × zS) → Option (Int32 × zS)) (again31 : (Int32 × Int32 × Int32 × zS) → Option (Int32 × zS)) : Int32 × Int32 × Int32 × zS → Option (Int32 × zS)
  | (x2, x4, x5, σ) =>
  zl (gR 12 1 x0 σ) fun v5 =>
  zl (aI 14 v5 0 σ) fun v6 =>
  if v6 ≤ x5 then
    (zl (gC 12 x0) fun _ => zb (f_X12_goesTo N x0 x3 x4 σ) fun v7 σ8 =>
    again15 (x2, x3 + 1, σ8))
  else
    (zl (gC 12 x0) fun _ => zb (f_X12_goesTo N x0 x3 x5 σ) fun v9 σ10 =>
    zl (gC 12 x0) fun _ => zb (f_X12_takesOrder N x0 σ10) fun v11 σ12 =>
    zl (gC 12 x0) fun _ => zb (f_X12_nodesOf N x0 x1 σ12) fun v13 σ14 =>
    if x4 = (-1) then
      (again31 (v13, x5, x5 + 1, σ14))
    else
      (if v13 < x2 then
        (again31 (v13, x5, x5 + 1, σ14))
      else
        (again31 (x2, x4, x5 + 1, σ14))))
def F_X12_sift_15 (N : Nat) (x0 : Nat) (x1 : Int32) (again15 : (Int32 × Int32 × zS) → Option (Int32 × zS)) : Int32 × Int32 × zS → Option (Int32 × zS)
  | (x2, x3, σ) =>
  zl (gR 12 1 x0 σ) fun v3 =>
  zl (aI 14 v3 0 σ) fun v4 =>
  if v4 ≤ x3 then
    (some (x2, σ))
  else
    (zlp (F_X12_sift_31 N x0 x1 x3 again15) N (x2, (-1), 0, σ))
def f_X12_sift (N : Nat) (x0 : Nat) (x1 : Int32) (σ : zS) : Option (Int32 × zS) :=
  zl (gC 12 x0) fun _ => zb (f_X12_isRegister N x0 x1 σ) fun v1 σ2 =>
  if v1 = 0 then
    (some ((-2), σ2))
  else
    (zlp (F_X12_sift_15 N x0 x1) N (0, 0, σ2))
set_option maxHeartbeats 4000000 in
set_option maxRecDepth 100000 in
theorem c_X12_sift (l : Launch) (D : va_G) (c : zC) (o : Nat) (g : zEp) (N : Nat) {x0 : Nat} {x1 : Int32} {σ : zS} {ρ : Int32 × zS} (h : f_X12_sift N x0 x1 σ = some ρ) : Met l yX12_sift zs_X12_sift (zr 12) (va_Pc [.ref (o + x0), .int x1] (zG D c o g σ)) (zQi D c o g ρ) 0 0 (zA o) := by
  refine zMetG (by decide) (Nat.le_of_ble_eq_true rfl) ?_
  intro p e s m below meth cd ⟨hx, hb, hr, hml, hown, hts, hlocks⟩ hP hK hE ls hl
  have hS : va_S (zA o) s.heap s.heap [] := va_S.rf
  have hl : lv_has ls 7 [(0, .ref (o + x0)), (1, .int x1)] := hl
  rw [f_X12_sift.eq_1] at h
  refine lv_aload_n (pc := 0) hx hb dX12_sift_0 rfl (lv_at hl 0 rfl) ?_
  refine lv_iload_n (pc := 1) hx hb dX12_sift_1 rfl (lv_at hl 1 rfl) ?_
  obtain ⟨_, hg, h⟩ := zl_some h
  obtain ⟨v1, σ2, hv, h⟩ := zb_some h
  refine xcallVi (pc := 2) (As := [.int x1]) (rest := []) ⟨hx, hb, hml, hown, hts⟩ (c_X12_isRegister l D c o g N hv) zc12 zV_X12_321 rfl zd_X12_isRegister ⟨Nat.le_of_ble_eq_true rfl, Nat.le_of_ble_eq_true rfl⟩ hK hP hE hS hg hl.1 rfl (Nat.le_of_ble_eq_true rfl) ⟨Nat.zero_le _, Nat.zero_le _⟩ dX12_sift_2 (fun H locs hP hS => ?_)
  refine lv_if_ne (pc := 5) (tgt := 11) hx hb dX12_sift_5 (by decide) (fun c1 => ?_) (fun c1 => ?_)
  · rw [if_neg c1] at h
    refine lv_iconst (pc := 11) (v := 0) hx hb dX12_sift_11 (by decide) ?_
    refine lv_istore_n (pc := 12) (lv' := [(2, .int 0), (0, .ref (o + x0)), (1, .int x1)]) hx hb dX12_sift_12 rfl hl (by decide) rfl (fun ls hl => ?_)
    refine lv_iconst (pc := 13) (v := 0) hx hb dX12_sift_13 (by decide) ?_
    refine lv_istore_n (pc := 14) (lv' := [(3, .int 0), (2, .int 0), (0, .ref (o + x0)), (1, .int x1)]) hx hb dX12_sift_14 rfl hl (by decide) rfl (fun ls hl => ?_)
    have L15_3 : ∀ (n : Nat) (t : Int32 × Int32 × zS), zlp (F_X12_sift_15 N x0 x1) n t = some ρ → ∀ (H : Heap) (locs : List Loc) (ls : Array Slot), zP D c o (zabs o (t.2.2)) H → va_S (zA o) s.heap H locs → lv_has ls 7 [(2, .int (t.1)), (3, .int (t.2.1)), (0, .ref (o + x0)), (1, .int x1)] → W p l e (zr 12) s m (([.ref (o + x0), .int x1] : List Value).toArray) below meth cd H locs 0 0 (MQ below (zQi D c o g ρ) (([.ref (o + x0), .int x1] : List Value).toArray) s 0 0 (zA o)) (F0 m 15 ls []) := by
      refine zlp_ind (fun ag3 ih3 t h H locs ls hP hS hl => ?_)
      obtain ⟨x2_3, x3_3, σ3⟩ := t
      have hP : zP D c o (zabs o σ3) H := hP
      have hl : lv_has ls 7 [(2, .int x2_3), (3, .int x3_3), (0, .ref (o + x0)), (1, .int x1)] := hl
      rw [F_X12_sift_15.eq_1] at h
      show W p l e (zr 12) s m (([.ref (o + x0), .int x1] : List Value).toArray) below meth cd H locs 0 0 (MQ below (zQi D c o g ρ) (([.ref (o + x0), .int x1] : List Value).toArray) s 0 0 (zA o)) (F0 m 15 ls [])
      refine lv_iload_n (pc := 15) hx hb dX12_sift_15 rfl (lv_at hl 1 rfl) ?_
      refine lv_aload_n (pc := 16) hx hb dX12_sift_16 rfl (lv_at hl 2 rfl) ?_
      obtain ⟨v4, hv, h⟩ := zl_some h
      refine xgR (pc := 17) (j := 1) zc12 hx hb hts hown hK hP hv rfl zf_X12_9 dX12_sift_17 ?_
      refine lv_iconst (pc := 20) (v := 0) hx hb dX12_sift_20 (by decide) ?_
      obtain ⟨v5, hv, h⟩ := zl_some h
      refine xaI (pc := 21) hx hb hK hP hv dX12_sift_21 ?_
      refine lv_icmp_ge (pc := 22) (tgt := 101) hx hb dX12_sift_22 (by decide) (fun c1 => ?_) (fun c1 => ?_)
      · rw [if_pos c1] at h
        refine lv_iload_n (pc := 101) hx hb dX12_sift_101 rfl (lv_at hl 0 rfl) ?_
        exact xreti (pc := 102) hx hb hr hlocks hP hK hE hS h dX12_sift_102
      · rw [if_neg c1] at h
        refine lv_iconst (pc := 25) (v := (-1)) hx hb dX12_sift_25 (by decide) ?_
        refine lv_istore (pc := 26) (lv' := [(4, .int (-1)), (2, .int x2_3), (3, .int x3_3), (0, .ref (o + x0)), (1, .int x1)]) hx hb dX12_sift_26 hl (by decide) rfl (fun ls hl => ?_)
        refine lv_iconst (pc := 28) (v := 0) hx hb dX12_sift_28 (by decide) ?_
        refine lv_istore (pc := 29) (lv' := [(5, .int 0), (4, .int (-1)), (2, .int x2_3), (3, .int x3_3), (0, .ref (o + x0)), (1, .int x1)]) hx hb dX12_sift_29 hl (by decide) rfl (fun ls hl => ?_)
        have L31_6 : ∀ (n : Nat) (t : Int32 × Int32 × Int32 × zS), zlp (F_X12_sift_31 N x0 x1 x3_3 ag3) n t = some ρ → ∀ (H : Heap) (locs : List Loc) (ls : Array Slot), zP D c o (zabs o (t.2.2.2)) H → va_S (zA o) s.heap H locs → lv_has ls 7 [(2, .int (t.1)), (4, .int (t.2.1)), (5, .int (t.2.2.1)), (0, .ref (o + x0)), (1, .int x1), (3, .int x3_3)] → W p l e (zr 12) s m (([.ref (o + x0), .int x1] : List Value).toArray) below meth cd H locs 0 0 (MQ below (zQi D c o g ρ) (([.ref (o + x0), .int x1] : List Value).toArray) s 0 0 (zA o)) (F0 m 31 ls []) := by
          refine zlp_ind (fun ag6 ih6 t h H locs ls hP hS hl => ?_)
          obtain ⟨x2_6, x4_6, x5_6, σ6⟩ := t
          have hP : zP D c o (zabs o σ6) H := hP
          have hl : lv_has ls 7 [(2, .int x2_6), (4, .int x4_6), (5, .int x5_6), (0, .ref (o + x0)), (1, .int x1), (3, .int x3_3)] := hl
          rw [F_X12_sift_31.eq_1] at h
          show W p l e (zr 12) s m (([.ref (o + x0), .int x1] : List Value).toArray) below meth cd H locs 0 0 (MQ below (zQi D c o g ρ) (([.ref (o + x0), .int x1] : List Value).toArray) s 0 0 (zA o)) (F0 m 31 ls [])
          refine lv_iload (pc := 31) hx hb dX12_sift_31 (lv_at hl 2 rfl) ?_
          refine lv_aload_n (pc := 33) hx hb dX12_sift_33 rfl (lv_at hl 3 rfl) ?_
          obtain ⟨v7, hv, h⟩ := zl_some h
          refine xgR (pc := 34) (j := 1) zc12 hx hb hts hown hK hP hv rfl zf_X12_9 dX12_sift_34 ?_
          refine lv_iconst (pc := 37) (v := 0) hx hb dX12_sift_37 (by decide) ?_
          obtain ⟨v8, hv, h⟩ := zl_some h
          refine xaI (pc := 38) hx hb hK hP hv dX12_sift_38 ?_
          refine lv_icmp_ge (pc := 39) (tgt := 88) hx hb dX12_sift_39 (by decide) (fun c1 => ?_) (fun c1 => ?_)
          · rw [if_pos c1] at h
            refine lv_aload_n (pc := 88) hx hb dX12_sift_88 rfl (lv_at hl 3 rfl) ?_
            refine lv_iload_n (pc := 89) hx hb dX12_sift_89 rfl (lv_at hl 5 rfl) ?_
            refine lv_iload (pc := 90) hx hb dX12_sift_90 (lv_at hl 1 rfl) ?_
            obtain ⟨_, hg, h⟩ := zl_some h
            obtain ⟨v9, σ10, hv, h⟩ := zb_some h
            refine xcallVv (pc := 92) (As := [.int x3_3, .int x4_6]) (rest := []) ⟨hx, hb, hml, hown, hts⟩ (c_X12_goesTo l D c o g N hv) zc12 zV_X12_399 rfl zd_X12_goesTo ⟨Nat.le_of_ble_eq_true rfl, Nat.le_of_ble_eq_true rfl⟩ hK hP hE hS hg hl.1 rfl (Nat.le_of_ble_eq_true rfl) ⟨Nat.zero_le _, Nat.zero_le _⟩ dX12_sift_92 (fun H locs hP hS => ?_)
            refine lv_iinc (pc := 95) (v := x3_3 + 1) (lv' := [(3, .int (x3_3 + 1)), (2, .int x2_6), (4, .int x4_6), (5, .int x5_6), (0, .ref (o + x0)), (1, .int x1)]) hx hb dX12_sift_95 hl (k := 5) rfl rfl (by decide) rfl (fun ls hl => ?_)
            refine lv_goto (pc := 98) (tgt := 15) hx hb dX12_sift_98 (by decide) ?_
            exact ih3 (x2_6, x3_3 + 1, σ10) h _ _ ls hP hS (lv_sub hl [1, 0, 4, 5] rfl)
          · rw [if_neg c1] at h
            refine lv_aload_n (pc := 42) hx hb dX12_sift_42 rfl (lv_at hl 3 rfl) ?_
            refine lv_iload_n (pc := 43) hx hb dX12_sift_43 rfl (lv_at hl 5 rfl) ?_
            refine lv_iload (pc := 44) hx hb dX12_sift_44 (lv_at hl 2 rfl) ?_
            obtain ⟨_, hg, h⟩ := zl_some h
            obtain ⟨v11, σ12, hv, h⟩ := zb_some h
            refine xcallVv (pc := 46) (As := [.int x3_3, .int x5_6]) (rest := []) ⟨hx, hb, hml, hown, hts⟩ (c_X12_goesTo l D c o g N hv) zc12 zV_X12_399 rfl zd_X12_goesTo ⟨Nat.le_of_ble_eq_true rfl, Nat.le_of_ble_eq_true rfl⟩ hK hP hE hS hg hl.1 rfl (Nat.le_of_ble_eq_true rfl) ⟨Nat.zero_le _, Nat.zero_le _⟩ dX12_sift_46 (fun H locs hP hS => ?_)
            refine lv_aload_n (pc := 49) hx hb dX12_sift_49 rfl (lv_at hl 3 rfl) ?_
            obtain ⟨_, hg, h⟩ := zl_some h
            obtain ⟨v13, σ14, hv, h⟩ := zb_some h
            refine xcallVv (pc := 50) (As := []) (rest := []) ⟨hx, hb, hml, hown, hts⟩ (c_X12_takesOrder l D c o g N hv) zc12 zV_X12_387 rfl zd_X12_takesOrder ⟨Nat.le_of_ble_eq_true rfl, Nat.le_of_ble_eq_true rfl⟩ hK hP hE hS hg hl.1 rfl (Nat.le_of_ble_eq_true rfl) ⟨Nat.zero_le _, Nat.zero_le _⟩ dX12_sift_50 (fun H locs hP hS => ?_)
            refine lv_aload_n (pc := 53) hx hb dX12_sift_53 rfl (lv_at hl 3 rfl) ?_
            refine lv_iload_n (pc := 54) hx hb dX12_sift_54 rfl (lv_at hl 4 rfl) ?_
            obtain ⟨_, hg, h⟩ := zl_some h
            obtain ⟨v15, σ16, hv, h⟩ := zb_some h
            refine xcallVi (pc := 55) (As := [.int x1]) (rest := []) ⟨hx, hb, hml, hown, hts⟩ (c_X12_nodesOf l D c o g N hv) zc12 zV_X12_390 rfl zd_X12_nodesOf ⟨Nat.le_of_ble_eq_true rfl, Nat.le_of_ble_eq_true rfl⟩ hK hP hE hS hg hl.1 rfl (Nat.le_of_ble_eq_true rfl) ⟨Nat.zero_le _, Nat.zero_le _⟩ dX12_sift_55 (fun H locs hP hS => ?_)
            refine lv_istore (pc := 58) (lv' := [(6, .int v15), (2, .int x2_6), (4, .int x4_6), (5, .int x5_6), (0, .ref (o + x0)), (1, .int x1), (3, .int x3_3)]) hx hb dX12_sift_58 hl (by decide) rfl (fun ls hl => ?_)
            refine lv_iload (pc := 60) hx hb dX12_sift_60 (lv_at hl 2 rfl) ?_
            refine lv_iconst (pc := 62) (v := (-1)) hx hb dX12_sift_62 (by decide) ?_
            refine lv_icmp_eq (pc := 63) (tgt := 75) hx hb dX12_sift_63 (by decide) (fun c1 => ?_) (fun c1 => ?_)
            · rw [if_pos c1] at h
              refine lv_iload (pc := 75) hx hb dX12_sift_75 (lv_at hl 3 rfl) ?_
              refine lv_istore (pc := 77) (lv' := [(4, .int x5_6), (6, .int v15), (2, .int x2_6), (5, .int x5_6), (0, .ref (o + x0)), (1, .int x1), (3, .int x3_3)]) hx hb dX12_sift_77 hl (by decide) rfl (fun ls hl => ?_)
              refine lv_iload (pc := 79) hx hb dX12_sift_79 (lv_at hl 1 rfl) ?_
              refine lv_istore_n (pc := 81) (lv' := [(2, .int v15), (4, .int x5_6), (6, .int v15), (5, .int x5_6), (0, .ref (o + x0)), (1, .int x1), (3, .int x3_3)]) hx hb dX12_sift_81 rfl hl (by decide) rfl (fun ls hl => ?_)
              refine lv_iinc (pc := 82) (v := x5_6 + 1) (lv' := [(5, .int (x5_6 + 1)), (2, .int v15), (4, .int x5_6), (6, .int v15), (0, .ref (o + x0)), (1, .int x1), (3, .int x3_3)]) hx hb dX12_sift_82 hl (k := 3) rfl rfl (by decide) rfl (fun ls hl => ?_)
              refine lv_goto (pc := 85) (tgt := 31) hx hb dX12_sift_85 (by decide) ?_
              exact ih6 (v15, x5_6, x5_6 + 1, σ16) h _ _ ls hP hS (lv_sub hl [1, 2, 0, 4, 5, 6] rfl)
            · rw [if_neg c1] at h
              refine lv_iload (pc := 66) hx hb dX12_sift_66 (lv_at hl 0 rfl) ?_
              refine lv_iload_n (pc := 68) hx hb dX12_sift_68 rfl (lv_at hl 1 rfl) ?_
              refine lv_icmp_lt (pc := 69) (tgt := 75) hx hb dX12_sift_69 (by decide) (fun c1 => ?_) (fun c1 => ?_)
              · rw [if_pos c1] at h
                refine lv_iload (pc := 75) hx hb dX12_sift_75 (lv_at hl 3 rfl) ?_
                refine lv_istore (pc := 77) (lv' := [(4, .int x5_6), (6, .int v15), (2, .int x2_6), (5, .int x5_6), (0, .ref (o + x0)), (1, .int x1), (3, .int x3_3)]) hx hb dX12_sift_77 hl (by decide) rfl (fun ls hl => ?_)
                refine lv_iload (pc := 79) hx hb dX12_sift_79 (lv_at hl 1 rfl) ?_
                refine lv_istore_n (pc := 81) (lv' := [(2, .int v15), (4, .int x5_6), (6, .int v15), (5, .int x5_6), (0, .ref (o + x0)), (1, .int x1), (3, .int x3_3)]) hx hb dX12_sift_81 rfl hl (by decide) rfl (fun ls hl => ?_)
                refine lv_iinc (pc := 82) (v := x5_6 + 1) (lv' := [(5, .int (x5_6 + 1)), (2, .int v15), (4, .int x5_6), (6, .int v15), (0, .ref (o + x0)), (1, .int x1), (3, .int x3_3)]) hx hb dX12_sift_82 hl (k := 3) rfl rfl (by decide) rfl (fun ls hl => ?_)
                refine lv_goto (pc := 85) (tgt := 31) hx hb dX12_sift_85 (by decide) ?_
                exact ih6 (v15, x5_6, x5_6 + 1, σ16) h _ _ ls hP hS (lv_sub hl [1, 2, 0, 4, 5, 6] rfl)
              · rw [if_neg c1] at h
                refine lv_goto (pc := 72) (tgt := 82) hx hb dX12_sift_72 (by decide) ?_
                refine lv_iinc (pc := 82) (v := x5_6 + 1) (lv' := [(5, .int (x5_6 + 1)), (6, .int v15), (2, .int x2_6), (4, .int x4_6), (0, .ref (o + x0)), (1, .int x1), (3, .int x3_3)]) hx hb dX12_sift_82 hl (k := 3) rfl rfl (by decide) rfl (fun ls hl => ?_)
                refine lv_goto (pc := 85) (tgt := 31) hx hb dX12_sift_85 (by decide) ?_
                exact ih6 (x2_6, x4_6, x5_6 + 1, σ16) h _ _ ls hP hS (lv_sub hl [2, 3, 0, 4, 5, 6] rfl)
        exact L31_6 N (x2_3, (-1), 0, σ3) h _ _ ls hP hS (lv_sub hl [2, 1, 0, 4, 5, 3] rfl)
    exact L15_3 N (0, 0, σ2) h _ _ ls hP hS (lv_sub hl [1, 0, 2, 3] rfl)
  · rw [if_pos c1] at h
    refine lv_bipush (pc := 8) (v := (-2)) hx hb dX12_sift_8 (by decide) ?_
    exact xreti (pc := 10) hx hb hr hlocks hP hK hE hS h dX12_sift_10
def f_X12_isCrossing (N : Nat) (x0 : Nat) (x1 : Int32) (σ : zS) : Option (Int32 × zS) :=
  zl (gC 12 x0) fun _ => zb (f_X12_isWorld N x0 σ) fun v1 σ2 =>
  if v1 = 0 then
    (rZ 0 σ2)
  else
    (zb (f_X12_in N (Int32.toInt64 x1) 0 7 σ2) fun v3 σ4 =>
    if v3 = 0 then
      (rZ 0 σ4)
    else
      (rZ 1 σ4))
set_option maxHeartbeats 4000000 in
set_option maxRecDepth 100000 in
theorem c_X12_isCrossing (l : Launch) (D : va_G) (c : zC) (o : Nat) (g : zEp) (N : Nat) {x0 : Nat} {x1 : Int32} {σ : zS} {ρ : Int32 × zS} (h : f_X12_isCrossing N x0 x1 σ = some ρ) : Met l yX12_isCrossing zs_X12_isCrossing (zr 4) (va_Pc [.ref (o + x0), .int x1] (zG D c o g σ)) (zQi D c o g ρ) 0 0 (zA o) := by
  refine zMetG (by decide) (Nat.le_of_ble_eq_true rfl) ?_
  intro p e s m below meth cd ⟨hx, hb, hr, hml, hown, hts, hlocks⟩ hP hK hE ls hl
  have hS : va_S (zA o) s.heap s.heap [] := va_S.rf
  have hl : lv_has ls 2 [(0, .ref (o + x0)), (1, .int x1)] := hl
  rw [f_X12_isCrossing.eq_1] at h
  refine lv_aload_n (pc := 0) hx hb dX12_isCrossing_0 rfl (lv_at hl 0 rfl) ?_
  obtain ⟨_, hg, h⟩ := zl_some h
  obtain ⟨v1, σ2, hv, h⟩ := zb_some h
  refine xcallVi (pc := 1) (As := []) (rest := []) ⟨hx, hb, hml, hown, hts⟩ (c_X12_isWorld l D c o g N hv) zc12 zV_X12_98 rfl zd_X12_isWorld ⟨Nat.le_of_ble_eq_true rfl, Nat.le_of_ble_eq_true rfl⟩ hK hP hE hS hg hl.1 rfl (Nat.le_of_ble_eq_true rfl) ⟨Nat.zero_le _, Nat.zero_le _⟩ dX12_isCrossing_1 (fun H locs hP hS => ?_)
  refine lv_if_eq (pc := 4) (tgt := 23) hx hb dX12_isCrossing_4 (by decide) (fun c1 => ?_) (fun c1 => ?_)
  · rw [if_pos c1] at h
    refine lv_iconst (pc := 23) (v := 0) hx hb dX12_isCrossing_23 (by decide) ?_
    exact xretz (pc := 24) hx hb hr hlocks hP hK hE hS h dX12_isCrossing_24
  · rw [if_neg c1] at h
    refine lv_iload_n (pc := 7) hx hb dX12_isCrossing_7 rfl (lv_at hl 1 rfl) ?_
    refine lv_i2l (pc := 8) hx hb dX12_isCrossing_8 rfl ?_
    refine lv_lconst (pc := 9) (v := 0) hx hb dX12_isCrossing_9 (by decide) ?_
    refine lv_ldc2 (pc := 10) hx hb hown (hts _ zk_X12_412) dX12_isCrossing_10 ?_
    obtain ⟨v3, σ4, hv, h⟩ := zb_some h
    refine xcallSi (pc := 13) (As := [.long (Int32.toInt64 x1), .long 0, .long 7]) (rest := []) ⟨hx, hb, hml, hown, hts⟩ (c_X12_in l D c o g N hv) zT_X12_94 rfl zd_X12_in ⟨Nat.le_of_ble_eq_true rfl, Nat.le_of_ble_eq_true rfl⟩ hK hP hE hS hl.1 rfl (Nat.le_of_ble_eq_true rfl) ⟨Nat.zero_le _, Nat.zero_le _⟩ dX12_isCrossing_13 (fun H locs hP hS => ?_)
    refine lv_if_eq (pc := 16) (tgt := 23) hx hb dX12_isCrossing_16 (by decide) (fun c1 => ?_) (fun c1 => ?_)
    · rw [if_pos c1] at h
      refine lv_iconst (pc := 23) (v := 0) hx hb dX12_isCrossing_23 (by decide) ?_
      exact xretz (pc := 24) hx hb hr hlocks hP hK hE hS h dX12_isCrossing_24
    · rw [if_neg c1] at h
      refine lv_iconst (pc := 19) (v := 1) hx hb dX12_isCrossing_19 (by decide) ?_
      refine lv_goto (pc := 20) (tgt := 24) hx hb dX12_isCrossing_20 (by decide) ?_
      exact xretz (pc := 24) hx hb hr hlocks hP hK hE hS h dX12_isCrossing_24
def f_X12_one (N : Nat) (x0 : Nat) (x1 : Int32) (σ : zS) : Option (Int32 × zS) :=
  zl (gR 12 1 x0 σ) fun v1 =>
  zl (aI 14 v1 (13 + x1) σ) fun v2 =>
  some (v2, σ)
set_option maxHeartbeats 4000000 in
set_option maxRecDepth 100000 in
theorem c_X12_one (l : Launch) (D : va_G) (c : zC) (o : Nat) (g : zEp) (N : Nat) {x0 : Nat} {x1 : Int32} {σ : zS} {ρ : Int32 × zS} (h : f_X12_one N x0 x1 σ = some ρ) : Met l yX12_one zs_X12_one (zr 2) (va_Pc [.ref (o + x0), .int x1] (zG D c o g σ)) (zQi D c o g ρ) 0 0 (zA o) := by
  refine zMetG (by decide) (Nat.le_of_ble_eq_true rfl) ?_
  intro p e s m below meth cd ⟨hx, hb, hr, hml, hown, hts, hlocks⟩ hP hK hE ls hl
  have hS : va_S (zA o) s.heap s.heap [] := va_S.rf
  have hl : lv_has ls 2 [(0, .ref (o + x0)), (1, .int x1)] := hl
  rw [f_X12_one.eq_1] at h
  refine lv_aload_n (pc := 0) hx hb dX12_one_0 rfl (lv_at hl 0 rfl) ?_
  obtain ⟨v1, hv, h⟩ := zl_some h
  refine xgR (pc := 1) (j := 1) zc12 hx hb hts hown hK hP hv rfl zf_X12_9 dX12_one_1 ?_
  refine lv_bipush (pc := 4) (v := 13) hx hb dX12_one_4 (by decide) ?_
  refine lv_iload_n (pc := 6) hx hb dX12_one_6 rfl (lv_at hl 1 rfl) ?_
  refine lv_iadd (pc := 7) hx hb dX12_one_7 ?_
  obtain ⟨v2, hv, h⟩ := zl_some h
  refine xaI (pc := 8) hx hb hK hP hv dX12_one_8 ?_
  exact xreti (pc := 9) hx hb hr hlocks hP hK hE hS h dX12_one_9
def f_X12_other (N : Nat) (x0 : Nat) (x1 : Int32) (σ : zS) : Option (Int32 × zS) :=
  zl (gR 12 1 x0 σ) fun v1 =>
  zl (aI 14 v1 (23 + x1) σ) fun v2 =>
  some (v2, σ)
set_option maxHeartbeats 4000000 in
set_option maxRecDepth 100000 in
theorem c_X12_other (l : Launch) (D : va_G) (c : zC) (o : Nat) (g : zEp) (N : Nat) {x0 : Nat} {x1 : Int32} {σ : zS} {ρ : Int32 × zS} (h : f_X12_other N x0 x1 σ = some ρ) : Met l yX12_other zs_X12_other (zr 2) (va_Pc [.ref (o + x0), .int x1] (zG D c o g σ)) (zQi D c o g ρ) 0 0 (zA o) := by
  refine zMetG (by decide) (Nat.le_of_ble_eq_true rfl) ?_
  intro p e s m below meth cd ⟨hx, hb, hr, hml, hown, hts, hlocks⟩ hP hK hE ls hl
  have hS : va_S (zA o) s.heap s.heap [] := va_S.rf
  have hl : lv_has ls 2 [(0, .ref (o + x0)), (1, .int x1)] := hl
  rw [f_X12_other.eq_1] at h
  refine lv_aload_n (pc := 0) hx hb dX12_other_0 rfl (lv_at hl 0 rfl) ?_
  obtain ⟨v1, hv, h⟩ := zl_some h
  refine xgR (pc := 1) (j := 1) zc12 hx hb hts hown hK hP hv rfl zf_X12_9 dX12_other_1 ?_
  refine lv_bipush (pc := 4) (v := 23) hx hb dX12_other_4 (by decide) ?_
  refine lv_iload_n (pc := 6) hx hb dX12_other_6 rfl (lv_at hl 1 rfl) ?_
  refine lv_iadd (pc := 7) hx hb dX12_other_7 ?_
  obtain ⟨v2, hv, h⟩ := zl_some h
  refine xaI (pc := 8) hx hb hK hP hv dX12_other_8 ?_
  exact xreti (pc := 9) hx hb hr hlocks hP hK hE hS h dX12_other_9
def F_X12_fillEnds_23 (N : Nat) (x0 : Nat) (x1 : Int32) (again23 : (Int32 × zS) → Option (Unit × zS)) : Int32 × zS → Option (Unit × zS)
  | (x2, σ) =>
  zl (gR 12 1 x0 σ) fun v1 =>
  zl (aI 14 v1 2 σ) fun v2 =>
  if v2 ≤ x2 then
    (some ((), σ))
  else
    (zl (gR 12 34 x0 σ) fun v3 =>
    zl (gC 12 x0) fun _ => zb (f_X12_one N x0 x2 σ) fun v4 σ5 =>
    zl (aI 14 v3 v4 σ5) fun v6 =>
    zl (sI 14 v3 v4 (v6 + (((x1 : Int32) >>> (x2 &&& 31)) &&& 1)) σ5) fun σ7 =>
    zl (gR 12 34 x0 σ7) fun v8 =>
    zl (gC 12 x0) fun _ => zb (f_X12_other N x0 x2 σ7) fun v9 σ10 =>
    zl (aI 14 v8 v9 σ10) fun v11 =>
    zl (sI 14 v8 v9 (v11 + (((x1 : Int32) >>> (x2 &&& 31)) &&& 1)) σ10) fun σ12 =>
    again23 (x2 + 1, σ12))
def F_X12_fillEnds_2 (N : Nat) (x0 : Nat) (x1 : Int32) (again2 : (Int32 × zS) → Option (Unit × zS)) : Int32 × zS → Option (Unit × zS)
  | (x2, σ) =>
  if 8 ≤ x2 then
    (zlp (F_X12_fillEnds_23 N x0 x1) N (0, σ))
  else
    (zl (gR 12 34 x0 σ) fun v13 =>
    zl (sI 14 v13 x2 0 σ) fun σ14 =>
    again2 (x2 + 1, σ14))
def f_X12_fillEnds (N : Nat) (x0 : Nat) (x1 : Int32) (σ : zS) : Option (Unit × zS) :=
  zlp (F_X12_fillEnds_2 N x0 x1) N (0, σ)
set_option maxHeartbeats 4000000 in
set_option maxRecDepth 100000 in
theorem c_X12_fillEnds (l : Launch) (D : va_G) (c : zC) (o : Nat) (g : zEp) (N : Nat) {x0 : Nat} {x1 : Int32} {σ : zS} {ρ : Unit × zS} (h : f_X12_fillEnds N x0 x1 σ = some ρ) : Met l yX12_fillEnds zs_X12_fillEnds (zr 4) (va_Pc [.ref (o + x0), .int x1] (zG D c o g σ)) (zQu D c o g ρ) 0 0 (zA o) := by
  refine zMetG (by decide) (Nat.le_of_ble_eq_true rfl) ?_
  intro p e s m below meth cd ⟨hx, hb, hr, hml, hown, hts, hlocks⟩ hP hK hE ls hl
  have hS : va_S (zA o) s.heap s.heap [] := va_S.rf
  have hl : lv_has ls 3 [(0, .ref (o + x0)), (1, .int x1)] := hl
  rw [f_X12_fillEnds.eq_1] at h
  refine lv_iconst (pc := 0) (v := 0) hx hb dX12_fillEnds_0 (by decide) ?_
  refine lv_istore_n (pc := 1) (lv' := [(2, .int 0), (0, .ref (o + x0)), (1, .int x1)]) hx hb dX12_fillEnds_1 rfl hl (by decide) rfl (fun ls hl => ?_)
  have L2_1 : ∀ (n : Nat) (t : Int32 × zS), zlp (F_X12_fillEnds_2 N x0 x1) n t = some ρ → ∀ (H : Heap) (locs : List Loc) (ls : Array Slot), zP D c o (zabs o (t.2)) H → va_S (zA o) s.heap H locs → lv_has ls 3 [(2, .int (t.1)), (0, .ref (o + x0)), (1, .int x1)] → W p l e (zr 4) s m (([.ref (o + x0), .int x1] : List Value).toArray) below meth cd H locs 0 0 (MQ below (zQu D c o g ρ) (([.ref (o + x0), .int x1] : List Value).toArray) s 0 0 (zA o)) (F0 m 2 ls []) := by
    refine zlp_ind (fun ag1 ih1 t h H locs ls hP hS hl => ?_)
    obtain ⟨x2_1, σ1⟩ := t
    have hP : zP D c o (zabs o σ1) H := hP
    have hl : lv_has ls 3 [(2, .int x2_1), (0, .ref (o + x0)), (1, .int x1)] := hl
    rw [F_X12_fillEnds_2.eq_1] at h
    show W p l e (zr 4) s m (([.ref (o + x0), .int x1] : List Value).toArray) below meth cd H locs 0 0 (MQ below (zQu D c o g ρ) (([.ref (o + x0), .int x1] : List Value).toArray) s 0 0 (zA o)) (F0 m 2 ls [])
    refine lv_iload_n (pc := 2) hx hb dX12_fillEnds_2 rfl (lv_at hl 0 rfl) ?_
    refine lv_bipush (pc := 3) (v := 8) hx hb dX12_fillEnds_3 (by decide) ?_
    refine lv_icmp_ge (pc := 5) (tgt := 21) hx hb dX12_fillEnds_5 (by decide) (fun c1 => ?_) (fun c1 => ?_)
    · rw [if_pos c1] at h
      refine lv_iconst (pc := 21) (v := 0) hx hb dX12_fillEnds_21 (by decide) ?_
      refine lv_istore_n (pc := 22) (lv' := [(2, .int 0), (0, .ref (o + x0)), (1, .int x1)]) hx hb dX12_fillEnds_22 rfl hl (by decide) rfl (fun ls hl => ?_)
      have L23_2 : ∀ (n : Nat) (t : Int32 × zS), zlp (F_X12_fillEnds_23 N x0 x1) n t = some ρ → ∀ (H : Heap) (locs : List Loc) (ls : Array Slot), zP D c o (zabs o (t.2)) H → va_S (zA o) s.heap H locs → lv_has ls 3 [(2, .int (t.1)), (0, .ref (o + x0)), (1, .int x1)] → W p l e (zr 4) s m (([.ref (o + x0), .int x1] : List Value).toArray) below meth cd H locs 0 0 (MQ below (zQu D c o g ρ) (([.ref (o + x0), .int x1] : List Value).toArray) s 0 0 (zA o)) (F0 m 23 ls []) := by
        refine zlp_ind (fun ag2 ih2 t h H locs ls hP hS hl => ?_)
        obtain ⟨x2_2, σ2⟩ := t
        have hP : zP D c o (zabs o σ2) H := hP
        have hl : lv_has ls 3 [(2, .int x2_2), (0, .ref (o + x0)), (1, .int x1)] := hl
        rw [F_X12_fillEnds_23.eq_1] at h
        show W p l e (zr 4) s m (([.ref (o + x0), .int x1] : List Value).toArray) below meth cd H locs 0 0 (MQ below (zQu D c o g ρ) (([.ref (o + x0), .int x1] : List Value).toArray) s 0 0 (zA o)) (F0 m 23 ls [])
        refine lv_iload_n (pc := 23) hx hb dX12_fillEnds_23 rfl (lv_at hl 0 rfl) ?_
        refine lv_aload_n (pc := 24) hx hb dX12_fillEnds_24 rfl (lv_at hl 1 rfl) ?_
        obtain ⟨v3, hv, h⟩ := zl_some h
        refine xgR (pc := 25) (j := 1) zc12 hx hb hts hown hK hP hv rfl zf_X12_9 dX12_fillEnds_25 ?_
        refine lv_iconst (pc := 28) (v := 2) hx hb dX12_fillEnds_28 (by decide) ?_
        obtain ⟨v4, hv, h⟩ := zl_some h
        refine xaI (pc := 29) hx hb hK hP hv dX12_fillEnds_29 ?_
        refine lv_icmp_ge (pc := 30) (tgt := 75) hx hb dX12_fillEnds_30 (by decide) (fun c1 => ?_) (fun c1 => ?_)
        · rw [if_pos c1] at h
          exact xretv (pc := 75) hx hb hr hlocks hP hK hE hS h dX12_fillEnds_75
        · rw [if_neg c1] at h
          refine lv_aload_n (pc := 33) hx hb dX12_fillEnds_33 rfl (lv_at hl 1 rfl) ?_
          obtain ⟨v5, hv, h⟩ := zl_some h
          refine xgR (pc := 34) (j := 34) zc12 hx hb hts hown hK hP hv rfl zf_X12_73 dX12_fillEnds_34 ?_
          refine lv_aload_n (pc := 37) hx hb dX12_fillEnds_37 rfl (lv_at hl 1 rfl) ?_
          refine lv_iload_n (pc := 38) hx hb dX12_fillEnds_38 rfl (lv_at hl 0 rfl) ?_
          obtain ⟨_, hg, h⟩ := zl_some h
          obtain ⟨v6, σ7, hv, h⟩ := zb_some h
          refine xcallVi (pc := 39) (As := [.int x2_2]) (rest := [.ref (o + v5)]) ⟨hx, hb, hml, hown, hts⟩ (c_X12_one l D c o g N hv) zc12 zV_X12_414 rfl zd_X12_one ⟨Nat.le_of_ble_eq_true rfl, Nat.le_of_ble_eq_true rfl⟩ hK hP hE hS hg hl.1 rfl (Nat.le_of_ble_eq_true rfl) ⟨Nat.zero_le _, Nat.zero_le _⟩ dX12_fillEnds_39 (fun H locs hP hS => ?_)
          refine lv_dup2_11 (pc := 42) hx hb dX12_fillEnds_42 rfl rfl ?_
          obtain ⟨v8, hv, h⟩ := zl_some h
          refine xaI (pc := 43) hx hb hK hP hv dX12_fillEnds_43 ?_
          refine lv_iload_n (pc := 44) hx hb dX12_fillEnds_44 rfl (lv_at hl 2 rfl) ?_
          refine lv_iload_n (pc := 45) hx hb dX12_fillEnds_45 rfl (lv_at hl 0 rfl) ?_
          refine lv_ishr (pc := 46) hx hb dX12_fillEnds_46 ?_
          refine lv_iconst (pc := 47) (v := 1) hx hb dX12_fillEnds_47 (by decide) ?_
          refine lv_iand (pc := 48) hx hb dX12_fillEnds_48 ?_
          refine lv_iadd (pc := 49) hx hb dX12_fillEnds_49 ?_
          obtain ⟨σ9, hv, h⟩ := zl_some h
          refine xsI (pc := 50) hx hb hK hP hS hv dX12_fillEnds_50 (fun H locs hP hS => ?_)
          refine lv_aload_n (pc := 51) hx hb dX12_fillEnds_51 rfl (lv_at hl 1 rfl) ?_
          obtain ⟨v10, hv, h⟩ := zl_some h
          refine xgR (pc := 52) (j := 34) zc12 hx hb hts hown hK hP hv rfl zf_X12_73 dX12_fillEnds_52 ?_
          refine lv_aload_n (pc := 55) hx hb dX12_fillEnds_55 rfl (lv_at hl 1 rfl) ?_
          refine lv_iload_n (pc := 56) hx hb dX12_fillEnds_56 rfl (lv_at hl 0 rfl) ?_
          obtain ⟨_, hg, h⟩ := zl_some h
          obtain ⟨v11, σ12, hv, h⟩ := zb_some h
          refine xcallVi (pc := 57) (As := [.int x2_2]) (rest := [.ref (o + v10)]) ⟨hx, hb, hml, hown, hts⟩ (c_X12_other l D c o g N hv) zc12 zV_X12_417 rfl zd_X12_other ⟨Nat.le_of_ble_eq_true rfl, Nat.le_of_ble_eq_true rfl⟩ hK hP hE hS hg hl.1 rfl (Nat.le_of_ble_eq_true rfl) ⟨Nat.zero_le _, Nat.zero_le _⟩ dX12_fillEnds_57 (fun H locs hP hS => ?_)
          refine lv_dup2_11 (pc := 60) hx hb dX12_fillEnds_60 rfl rfl ?_
          obtain ⟨v13, hv, h⟩ := zl_some h
          refine xaI (pc := 61) hx hb hK hP hv dX12_fillEnds_61 ?_
          refine lv_iload_n (pc := 62) hx hb dX12_fillEnds_62 rfl (lv_at hl 2 rfl) ?_
          refine lv_iload_n (pc := 63) hx hb dX12_fillEnds_63 rfl (lv_at hl 0 rfl) ?_
          refine lv_ishr (pc := 64) hx hb dX12_fillEnds_64 ?_
          refine lv_iconst (pc := 65) (v := 1) hx hb dX12_fillEnds_65 (by decide) ?_
          refine lv_iand (pc := 66) hx hb dX12_fillEnds_66 ?_
          refine lv_iadd (pc := 67) hx hb dX12_fillEnds_67 ?_
          obtain ⟨σ14, hv, h⟩ := zl_some h
          refine xsI (pc := 68) hx hb hK hP hS hv dX12_fillEnds_68 (fun H locs hP hS => ?_)
          refine lv_iinc (pc := 69) (v := x2_2 + 1) (lv' := [(2, .int (x2_2 + 1)), (0, .ref (o + x0)), (1, .int x1)]) hx hb dX12_fillEnds_69 hl (k := 0) rfl rfl (by decide) rfl (fun ls hl => ?_)
          refine lv_goto (pc := 72) (tgt := 23) hx hb dX12_fillEnds_72 (by decide) ?_
          exact ih2 (x2_2 + 1, σ14) h _ _ ls hP hS (lv_sub hl [0, 1, 2] rfl)
      exact L23_2 N (0, σ1) h _ _ ls hP hS (lv_sub hl [0, 1, 2] rfl)
    · rw [if_neg c1] at h
      refine lv_aload_n (pc := 8) hx hb dX12_fillEnds_8 rfl (lv_at hl 1 rfl) ?_
      obtain ⟨v15, hv, h⟩ := zl_some h
      refine xgR (pc := 9) (j := 34) zc12 hx hb hts hown hK hP hv rfl zf_X12_73 dX12_fillEnds_9 ?_
      refine lv_iload_n (pc := 12) hx hb dX12_fillEnds_12 rfl (lv_at hl 0 rfl) ?_
      refine lv_iconst (pc := 13) (v := 0) hx hb dX12_fillEnds_13 (by decide) ?_
      obtain ⟨σ16, hv, h⟩ := zl_some h
      refine xsI (pc := 14) hx hb hK hP hS hv dX12_fillEnds_14 (fun H locs hP hS => ?_)
      refine lv_iinc (pc := 15) (v := x2_1 + 1) (lv' := [(2, .int (x2_1 + 1)), (0, .ref (o + x0)), (1, .int x1)]) hx hb dX12_fillEnds_15 hl (k := 0) rfl rfl (by decide) rfl (fun ls hl => ?_)
      refine lv_goto (pc := 18) (tgt := 2) hx hb dX12_fillEnds_18 (by decide) ?_
      exact ih1 (x2_1 + 1, σ16) h _ _ ls hP hS (lv_sub hl [0, 1, 2] rfl)
  exact L2_1 N (0, σ) h _ _ ls hP hS (lv_sub hl [0, 1, 2] rfl)
def F_X12_hangs_17 (N : Nat) (x0 : Nat) (x1 : Int32) (x4 : Int32) (again7 : (Int32 × Int32 × zS) → Option (Int32 × zS)) (again17 : (Int32 × Int32 × zS) → Option (Int32 × zS)) : Int32 × Int32 × zS → Option (Int32 × zS)
  | (x3, x5, σ) =>
  zl (gR 12 1 x0 σ) fun v1 =>
  zl (aI 14 v1 2 σ) fun v2 =>
  if v2 ≤ x5 then
    (again7 (x3, x4 + 1, σ))
  else
    (if (((x1 : Int32) >>> (x5 &&& 31)) &&& 1) = 1 then
      (zl (gC 12 x0) fun _ => zb (f_X12_one N x0 x5 σ) fun v3 σ4 =>
      zl (gC 12 x0) fun _ => zb (f_X12_other N x0 x5 σ4) fun v5 σ6 =>
      if ((((x3 : Int32) >>> (v3 &&& 31)) &&& 1) ||| (((x3 : Int32) >>> (v5 &&& 31)) &&& 1)) = 1 then
        (zl (gC 12 x0) fun _ => zb (f_X12_one N x0 x5 σ6) fun v7 σ8 =>
        zl (gC 12 x0) fun _ => zb (f_X12_other N x0 x5 σ8) fun v9 σ10 =>
        again17 (x3 ||| (((1 : Int32) <<< (v7 &&& 31)) ||| ((1 : Int32) <<< (v9 &&& 31))), x5 + 1, σ10))
      else
        (again17 (x3, x5 + 1, σ6)))
    else
      (again17 (x3, x5 + 1, σ)))
def F_X12_hangs_7 (N : Nat) (x0 : Nat) (x1 : Int32) (again7 : (Int32 × Int32 × zS) → Option (Int32 × zS)) : Int32 × Int32 × zS → Option (Int32 × zS)
  | (x3, x4, σ) =>
  if 8 ≤ x4 then
    (some (x3, σ))
  else
    (zlp (F_X12_hangs_17 N x0 x1 x4 again7) N (x3, 0, σ))
def f_X12_hangs (N : Nat) (x0 : Nat) (x1 : Int32) (x2 : Int32) (σ : zS) : Option (Int32 × zS) :=
  zlp (F_X12_hangs_7 N x0 x1) N ((1 : Int32) <<< (x2 &&& 31), 0, σ)
set_option maxHeartbeats 4000000 in
set_option maxRecDepth 100000 in
theorem c_X12_hangs (l : Launch) (D : va_G) (c : zC) (o : Nat) (g : zEp) (N : Nat) {x0 : Nat} {x1 : Int32} {x2 : Int32} {σ : zS} {ρ : Int32 × zS} (h : f_X12_hangs N x0 x1 x2 σ = some ρ) : Met l yX12_hangs zs_X12_hangs (zr 4) (va_Pc [.ref (o + x0), .int x1, .int x2] (zG D c o g σ)) (zQi D c o g ρ) 0 0 (zA o) := by
  refine zMetG (by decide) (Nat.le_of_ble_eq_true rfl) ?_
  intro p e s m below meth cd ⟨hx, hb, hr, hml, hown, hts, hlocks⟩ hP hK hE ls hl
  have hS : va_S (zA o) s.heap s.heap [] := va_S.rf
  have hl : lv_has ls 6 [(0, .ref (o + x0)), (1, .int x1), (2, .int x2)] := hl
  rw [f_X12_hangs.eq_1] at h
  refine lv_iconst (pc := 0) (v := 1) hx hb dX12_hangs_0 (by decide) ?_
  refine lv_iload_n (pc := 1) hx hb dX12_hangs_1 rfl (lv_at hl 2 rfl) ?_
  refine lv_ishl (pc := 2) hx hb dX12_hangs_2 ?_
  refine lv_istore_n (pc := 3) (lv' := [(3, .int ((1 : Int32) <<< (x2 &&& 31))), (0, .ref (o + x0)), (1, .int x1), (2, .int x2)]) hx hb dX12_hangs_3 rfl hl (by decide) rfl (fun ls hl => ?_)
  refine lv_iconst (pc := 4) (v := 0) hx hb dX12_hangs_4 (by decide) ?_
  refine lv_istore (pc := 5) (lv' := [(4, .int 0), (3, .int ((1 : Int32) <<< (x2 &&& 31))), (0, .ref (o + x0)), (1, .int x1), (2, .int x2)]) hx hb dX12_hangs_5 hl (by decide) rfl (fun ls hl => ?_)
  have L7_1 : ∀ (n : Nat) (t : Int32 × Int32 × zS), zlp (F_X12_hangs_7 N x0 x1) n t = some ρ → ∀ (H : Heap) (locs : List Loc) (ls : Array Slot), zP D c o (zabs o (t.2.2)) H → va_S (zA o) s.heap H locs → lv_has ls 6 [(3, .int (t.1)), (4, .int (t.2.1)), (0, .ref (o + x0)), (1, .int x1)] → W p l e (zr 4) s m (([.ref (o + x0), .int x1, .int x2] : List Value).toArray) below meth cd H locs 0 0 (MQ below (zQi D c o g ρ) (([.ref (o + x0), .int x1, .int x2] : List Value).toArray) s 0 0 (zA o)) (F0 m 7 ls []) := by
    refine zlp_ind (fun ag1 ih1 t h H locs ls hP hS hl => ?_)
    obtain ⟨x3_1, x4_1, σ1⟩ := t
    have hP : zP D c o (zabs o σ1) H := hP
    have hl : lv_has ls 6 [(3, .int x3_1), (4, .int x4_1), (0, .ref (o + x0)), (1, .int x1)] := hl
    rw [F_X12_hangs_7.eq_1] at h
    show W p l e (zr 4) s m (([.ref (o + x0), .int x1, .int x2] : List Value).toArray) below meth cd H locs 0 0 (MQ below (zQi D c o g ρ) (([.ref (o + x0), .int x1, .int x2] : List Value).toArray) s 0 0 (zA o)) (F0 m 7 ls [])
    refine lv_iload (pc := 7) hx hb dX12_hangs_7 (lv_at hl 1 rfl) ?_
    refine lv_bipush (pc := 9) (v := 8) hx hb dX12_hangs_9 (by decide) ?_
    refine lv_icmp_ge (pc := 11) (tgt := 95) hx hb dX12_hangs_11 (by decide) (fun c1 => ?_) (fun c1 => ?_)
    · rw [if_pos c1] at h
      refine lv_iload_n (pc := 95) hx hb dX12_hangs_95 rfl (lv_at hl 0 rfl) ?_
      exact xreti (pc := 96) hx hb hr hlocks hP hK hE hS h dX12_hangs_96
    · rw [if_neg c1] at h
      refine lv_iconst (pc := 14) (v := 0) hx hb dX12_hangs_14 (by decide) ?_
      refine lv_istore (pc := 15) (lv' := [(5, .int 0), (3, .int x3_1), (4, .int x4_1), (0, .ref (o + x0)), (1, .int x1)]) hx hb dX12_hangs_15 hl (by decide) rfl (fun ls hl => ?_)
      have L17_2 : ∀ (n : Nat) (t : Int32 × Int32 × zS), zlp (F_X12_hangs_17 N x0 x1 x4_1 ag1) n t = some ρ → ∀ (H : Heap) (locs : List Loc) (ls : Array Slot), zP D c o (zabs o (t.2.2)) H → va_S (zA o) s.heap H locs → lv_has ls 6 [(3, .int (t.1)), (5, .int (t.2.1)), (0, .ref (o + x0)), (1, .int x1), (4, .int x4_1)] → W p l e (zr 4) s m (([.ref (o + x0), .int x1, .int x2] : List Value).toArray) below meth cd H locs 0 0 (MQ below (zQi D c o g ρ) (([.ref (o + x0), .int x1, .int x2] : List Value).toArray) s 0 0 (zA o)) (F0 m 17 ls []) := by
        refine zlp_ind (fun ag2 ih2 t h H locs ls hP hS hl => ?_)
        obtain ⟨x3_2, x5_2, σ2⟩ := t
        have hP : zP D c o (zabs o σ2) H := hP
        have hl : lv_has ls 6 [(3, .int x3_2), (5, .int x5_2), (0, .ref (o + x0)), (1, .int x1), (4, .int x4_1)] := hl
        rw [F_X12_hangs_17.eq_1] at h
        show W p l e (zr 4) s m (([.ref (o + x0), .int x1, .int x2] : List Value).toArray) below meth cd H locs 0 0 (MQ below (zQi D c o g ρ) (([.ref (o + x0), .int x1, .int x2] : List Value).toArray) s 0 0 (zA o)) (F0 m 17 ls [])
        refine lv_iload (pc := 17) hx hb dX12_hangs_17 (lv_at hl 1 rfl) ?_
        refine lv_aload_n (pc := 19) hx hb dX12_hangs_19 rfl (lv_at hl 2 rfl) ?_
        obtain ⟨v3, hv, h⟩ := zl_some h
        refine xgR (pc := 20) (j := 1) zc12 hx hb hts hown hK hP hv rfl zf_X12_9 dX12_hangs_20 ?_
        refine lv_iconst (pc := 23) (v := 2) hx hb dX12_hangs_23 (by decide) ?_
        obtain ⟨v4, hv, h⟩ := zl_some h
        refine xaI (pc := 24) hx hb hK hP hv dX12_hangs_24 ?_
        refine lv_icmp_ge (pc := 25) (tgt := 89) hx hb dX12_hangs_25 (by decide) (fun c1 => ?_) (fun c1 => ?_)
        · rw [if_pos c1] at h
          refine lv_iinc (pc := 89) (v := x4_1 + 1) (lv' := [(4, .int (x4_1 + 1)), (3, .int x3_2), (5, .int x5_2), (0, .ref (o + x0)), (1, .int x1)]) hx hb dX12_hangs_89 hl (k := 4) rfl rfl (by decide) rfl (fun ls hl => ?_)
          refine lv_goto (pc := 92) (tgt := 7) hx hb dX12_hangs_92 (by decide) ?_
          exact ih1 (x3_2, x4_1 + 1, σ2) h _ _ ls hP hS (lv_sub hl [1, 0, 3, 4] rfl)
        · rw [if_neg c1] at h
          refine lv_iload_n (pc := 28) hx hb dX12_hangs_28 rfl (lv_at hl 3 rfl) ?_
          refine lv_iload (pc := 29) hx hb dX12_hangs_29 (lv_at hl 1 rfl) ?_
          refine lv_ishr (pc := 31) hx hb dX12_hangs_31 ?_
          refine lv_iconst (pc := 32) (v := 1) hx hb dX12_hangs_32 (by decide) ?_
          refine lv_iand (pc := 33) hx hb dX12_hangs_33 ?_
          refine lv_iconst (pc := 34) (v := 1) hx hb dX12_hangs_34 (by decide) ?_
          refine lv_icmp_ne (pc := 35) (tgt := 83) hx hb dX12_hangs_35 (by decide) (fun c1 => ?_) (fun c1 => ?_)
          · rw [if_neg c1] at h
            refine lv_iinc (pc := 83) (v := x5_2 + 1) (lv' := [(5, .int (x5_2 + 1)), (3, .int x3_2), (0, .ref (o + x0)), (1, .int x1), (4, .int x4_1)]) hx hb dX12_hangs_83 hl (k := 1) rfl rfl (by decide) rfl (fun ls hl => ?_)
            refine lv_goto (pc := 86) (tgt := 17) hx hb dX12_hangs_86 (by decide) ?_
            exact ih2 (x3_2, x5_2 + 1, σ2) h _ _ ls hP hS (lv_sub hl [1, 0, 2, 3, 4] rfl)
          · rw [if_pos c1] at h
            refine lv_iload_n (pc := 38) hx hb dX12_hangs_38 rfl (lv_at hl 0 rfl) ?_
            refine lv_aload_n (pc := 39) hx hb dX12_hangs_39 rfl (lv_at hl 2 rfl) ?_
            refine lv_iload (pc := 40) hx hb dX12_hangs_40 (lv_at hl 1 rfl) ?_
            obtain ⟨_, hg, h⟩ := zl_some h
            obtain ⟨v5, σ6, hv, h⟩ := zb_some h
            refine xcallVi (pc := 42) (As := [.int x5_2]) (rest := [.int x3_2]) ⟨hx, hb, hml, hown, hts⟩ (c_X12_one l D c o g N hv) zc12 zV_X12_414 rfl zd_X12_one ⟨Nat.le_of_ble_eq_true rfl, Nat.le_of_ble_eq_true rfl⟩ hK hP hE hS hg hl.1 rfl (Nat.le_of_ble_eq_true rfl) ⟨Nat.zero_le _, Nat.zero_le _⟩ dX12_hangs_42 (fun H locs hP hS => ?_)
            refine lv_ishr (pc := 45) hx hb dX12_hangs_45 ?_
            refine lv_iconst (pc := 46) (v := 1) hx hb dX12_hangs_46 (by decide) ?_
            refine lv_iand (pc := 47) hx hb dX12_hangs_47 ?_
            refine lv_iload_n (pc := 48) hx hb dX12_hangs_48 rfl (lv_at hl 0 rfl) ?_
            refine lv_aload_n (pc := 49) hx hb dX12_hangs_49 rfl (lv_at hl 2 rfl) ?_
            refine lv_iload (pc := 50) hx hb dX12_hangs_50 (lv_at hl 1 rfl) ?_
            obtain ⟨_, hg, h⟩ := zl_some h
            obtain ⟨v7, σ8, hv, h⟩ := zb_some h
            refine xcallVi (pc := 52) (As := [.int x5_2]) (rest := [.int x3_2, .int (((x3_2 : Int32) >>> (v5 &&& 31)) &&& 1)]) ⟨hx, hb, hml, hown, hts⟩ (c_X12_other l D c o g N hv) zc12 zV_X12_417 rfl zd_X12_other ⟨Nat.le_of_ble_eq_true rfl, Nat.le_of_ble_eq_true rfl⟩ hK hP hE hS hg hl.1 rfl (Nat.le_of_ble_eq_true rfl) ⟨Nat.zero_le _, Nat.zero_le _⟩ dX12_hangs_52 (fun H locs hP hS => ?_)
            refine lv_ishr (pc := 55) hx hb dX12_hangs_55 ?_
            refine lv_iconst (pc := 56) (v := 1) hx hb dX12_hangs_56 (by decide) ?_
            refine lv_iand (pc := 57) hx hb dX12_hangs_57 ?_
            refine lv_ior (pc := 58) hx hb dX12_hangs_58 ?_
            refine lv_iconst (pc := 59) (v := 1) hx hb dX12_hangs_59 (by decide) ?_
            refine lv_icmp_ne (pc := 60) (tgt := 83) hx hb dX12_hangs_60 (by decide) (fun c1 => ?_) (fun c1 => ?_)
            · rw [if_neg c1] at h
              refine lv_iinc (pc := 83) (v := x5_2 + 1) (lv' := [(5, .int (x5_2 + 1)), (3, .int x3_2), (0, .ref (o + x0)), (1, .int x1), (4, .int x4_1)]) hx hb dX12_hangs_83 hl (k := 1) rfl rfl (by decide) rfl (fun ls hl => ?_)
              refine lv_goto (pc := 86) (tgt := 17) hx hb dX12_hangs_86 (by decide) ?_
              exact ih2 (x3_2, x5_2 + 1, σ8) h _ _ ls hP hS (lv_sub hl [1, 0, 2, 3, 4] rfl)
            · rw [if_pos c1] at h
              refine lv_iload_n (pc := 63) hx hb dX12_hangs_63 rfl (lv_at hl 0 rfl) ?_
              refine lv_iconst (pc := 64) (v := 1) hx hb dX12_hangs_64 (by decide) ?_
              refine lv_aload_n (pc := 65) hx hb dX12_hangs_65 rfl (lv_at hl 2 rfl) ?_
              refine lv_iload (pc := 66) hx hb dX12_hangs_66 (lv_at hl 1 rfl) ?_
              obtain ⟨_, hg, h⟩ := zl_some h
              obtain ⟨v9, σ10, hv, h⟩ := zb_some h
              refine xcallVi (pc := 68) (As := [.int x5_2]) (rest := [.int 1, .int x3_2]) ⟨hx, hb, hml, hown, hts⟩ (c_X12_one l D c o g N hv) zc12 zV_X12_414 rfl zd_X12_one ⟨Nat.le_of_ble_eq_true rfl, Nat.le_of_ble_eq_true rfl⟩ hK hP hE hS hg hl.1 rfl (Nat.le_of_ble_eq_true rfl) ⟨Nat.zero_le _, Nat.zero_le _⟩ dX12_hangs_68 (fun H locs hP hS => ?_)
              refine lv_ishl (pc := 71) hx hb dX12_hangs_71 ?_
              refine lv_iconst (pc := 72) (v := 1) hx hb dX12_hangs_72 (by decide) ?_
              refine lv_aload_n (pc := 73) hx hb dX12_hangs_73 rfl (lv_at hl 2 rfl) ?_
              refine lv_iload (pc := 74) hx hb dX12_hangs_74 (lv_at hl 1 rfl) ?_
              obtain ⟨_, hg, h⟩ := zl_some h
              obtain ⟨v11, σ12, hv, h⟩ := zb_some h
              refine xcallVi (pc := 76) (As := [.int x5_2]) (rest := [.int 1, .int ((1 : Int32) <<< (v9 &&& 31)), .int x3_2]) ⟨hx, hb, hml, hown, hts⟩ (c_X12_other l D c o g N hv) zc12 zV_X12_417 rfl zd_X12_other ⟨Nat.le_of_ble_eq_true rfl, Nat.le_of_ble_eq_true rfl⟩ hK hP hE hS hg hl.1 rfl (Nat.le_of_ble_eq_true rfl) ⟨Nat.zero_le _, Nat.zero_le _⟩ dX12_hangs_76 (fun H locs hP hS => ?_)
              refine lv_ishl (pc := 79) hx hb dX12_hangs_79 ?_
              refine lv_ior (pc := 80) hx hb dX12_hangs_80 ?_
              refine lv_ior (pc := 81) hx hb dX12_hangs_81 ?_
              refine lv_istore_n (pc := 82) (lv' := [(3, .int (x3_2 ||| (((1 : Int32) <<< (v9 &&& 31)) ||| ((1 : Int32) <<< (v11 &&& 31))))), (5, .int x5_2), (0, .ref (o + x0)), (1, .int x1), (4, .int x4_1)]) hx hb dX12_hangs_82 rfl hl (by decide) rfl (fun ls hl => ?_)
              refine lv_iinc (pc := 83) (v := x5_2 + 1) (lv' := [(5, .int (x5_2 + 1)), (3, .int (x3_2 ||| (((1 : Int32) <<< (v9 &&& 31)) ||| ((1 : Int32) <<< (v11 &&& 31))))), (0, .ref (o + x0)), (1, .int x1), (4, .int x4_1)]) hx hb dX12_hangs_83 hl (k := 1) rfl rfl (by decide) rfl (fun ls hl => ?_)
              refine lv_goto (pc := 86) (tgt := 17) hx hb dX12_hangs_86 (by decide) ?_
              exact ih2 (x3_2 ||| (((1 : Int32) <<< (v9 &&& 31)) ||| ((1 : Int32) <<< (v11 &&& 31))), x5_2 + 1, σ12) h _ _ ls hP hS (lv_sub hl [1, 0, 2, 3, 4] rfl)
      exact L17_2 N (x3_1, 0, σ1) h _ _ ls hP hS (lv_sub hl [1, 0, 3, 4, 2] rfl)
  exact L7_1 N ((1 : Int32) <<< (x2 &&& 31), 0, σ) h _ _ ls hP hS (lv_sub hl [1, 0, 2, 3] rfl)
def J_X12_isWay_80 (N : Nat) (again53 : (Int32 × zS) → Option (Int32 × zS)) (x0 : Nat) (x2 : Int32) (x3 : Int32) (x4 : Int32) (x5 : Int32) (σ : zS) : Option (Int32 × zS) :=
  if x5 = x2 then
    (again53 (x5 + 1, σ))
  else
    (if x5 = x3 then
      (again53 (x5 + 1, σ))
    else
      (zl (gR 12 34 x0 σ) fun v11 =>
      zl (aI 14 v11 x5 σ) fun v12 =>
      if v12 = 0 then
        (again53 (x5 + 1, σ))
      else
        (zl (gR 12 34 x0 σ) fun v13 =>
        zl (aI 14 v13 x5 σ) fun v14 =>
        if v14 = 2 then
          (again53 (x5 + 1, σ))
        else
          (rZ 0 σ))))
def F_X12_isWay_53 (N : Nat) (x0 : Nat) (x2 : Int32) (x3 : Int32) (x4 : Int32) (again53 : (Int32 × zS) → Option (Int32 × zS)) : Int32 × zS → Option (Int32 × zS)
  | (x5, σ) =>
  if 8 ≤ x5 then
    (rZ 1 σ)
  else
    (if (((x4 : Int32) >>> (x5 &&& 31)) &&& 1) = 0 then
      (zl (gR 12 34 x0 σ) fun v9 =>
      zl (aI 14 v9 x5 σ) fun v10 =>
      if 0 < v10 then
        (rZ 0 σ)
      else
        (J_X12_isWay_80 N again53 x0 x2 x3 x4 x5 σ))
    else
      (J_X12_isWay_80 N again53 x0 x2 x3 x4 x5 σ))
def f_X12_isWay (N : Nat) (x0 : Nat) (x1 : Int32) (x2 : Int32) (x3 : Int32) (σ : zS) : Option (Int32 × zS) :=
  if x2 = x3 then
    (if x1 = 0 then
      (rZ 1 σ)
    else
      (rZ 0 σ))
  else
    (zl (gC 12 x0) fun _ => zb (f_X12_fillEnds N x0 x1 σ) fun v1 σ2 =>
    zl (gR 12 34 x0 σ2) fun v3 =>
    zl (aI 14 v3 x2 σ2) fun v4 =>
    if v4 = 1 then
      (zl (gR 12 34 x0 σ2) fun v5 =>
      zl (aI 14 v5 x3 σ2) fun v6 =>
      if v6 = 1 then
        (zl (gC 12 x0) fun _ => zb (f_X12_hangs N x0 x1 x2 σ2) fun v7 σ8 =>
        zlp (F_X12_isWay_53 N x0 x2 x3 v7) N (0, σ8))
      else
        (rZ 0 σ2))
    else
      (rZ 0 σ2))
set_option maxHeartbeats 4000000 in
set_option maxRecDepth 100000 in
theorem c_X12_isWay (l : Launch) (D : va_G) (c : zC) (o : Nat) (g : zEp) (N : Nat) {x0 : Nat} {x1 : Int32} {x2 : Int32} {x3 : Int32} {σ : zS} {ρ : Int32 × zS} (h : f_X12_isWay N x0 x1 x2 x3 σ = some ρ) : Met l yX12_isWay zs_X12_isWay (zr 6) (va_Pc [.ref (o + x0), .int x1, .int x2, .int x3] (zG D c o g σ)) (zQi D c o g ρ) 0 0 (zA o) := by
  refine zMetG (by decide) (Nat.le_of_ble_eq_true rfl) ?_
  intro p e s m below meth cd ⟨hx, hb, hr, hml, hown, hts, hlocks⟩ hP hK hE ls hl
  have hS : va_S (zA o) s.heap s.heap [] := va_S.rf
  have hl : lv_has ls 6 [(0, .ref (o + x0)), (1, .int x1), (2, .int x2), (3, .int x3)] := hl
  rw [f_X12_isWay.eq_1] at h
  refine lv_iload_n (pc := 0) hx hb dX12_isWay_0 rfl (lv_at hl 2 rfl) ?_
  refine lv_iload_n (pc := 1) hx hb dX12_isWay_1 rfl (lv_at hl 3 rfl) ?_
  refine lv_icmp_ne (pc := 2) (tgt := 15) hx hb dX12_isWay_2 (by decide) (fun c1 => ?_) (fun c1 => ?_)
  · rw [if_neg c1] at h
    refine lv_aload_n (pc := 15) hx hb dX12_isWay_15 rfl (lv_at hl 0 rfl) ?_
    refine lv_iload_n (pc := 16) hx hb dX12_isWay_16 rfl (lv_at hl 1 rfl) ?_
    obtain ⟨_, hg, h⟩ := zl_some h
    obtain ⟨v1, σ2, hv, h⟩ := zb_some h
    refine xcallVv (pc := 17) (As := [.int x1]) (rest := []) ⟨hx, hb, hml, hown, hts⟩ (c_X12_fillEnds l D c o g N hv) zc12 zV_X12_420 rfl zd_X12_fillEnds ⟨Nat.le_of_ble_eq_true rfl, Nat.le_of_ble_eq_true rfl⟩ hK hP hE hS hg hl.1 rfl (Nat.le_of_ble_eq_true rfl) ⟨Nat.zero_le _, Nat.zero_le _⟩ dX12_isWay_17 (fun H locs hP hS => ?_)
    refine lv_aload_n (pc := 20) hx hb dX12_isWay_20 rfl (lv_at hl 0 rfl) ?_
    obtain ⟨v3, hv, h⟩ := zl_some h
    refine xgR (pc := 21) (j := 34) zc12 hx hb hts hown hK hP hv rfl zf_X12_73 dX12_isWay_21 ?_
    refine lv_iload_n (pc := 24) hx hb dX12_isWay_24 rfl (lv_at hl 2 rfl) ?_
    obtain ⟨v4, hv, h⟩ := zl_some h
    refine xaI (pc := 25) hx hb hK hP hv dX12_isWay_25 ?_
    refine lv_iconst (pc := 26) (v := 1) hx hb dX12_isWay_26 (by decide) ?_
    refine lv_icmp_ne (pc := 27) (tgt := 40) hx hb dX12_isWay_27 (by decide) (fun c1 => ?_) (fun c1 => ?_)
    · rw [if_neg c1] at h
      refine lv_iconst (pc := 40) (v := 0) hx hb dX12_isWay_40 (by decide) ?_
      exact xretz (pc := 41) hx hb hr hlocks hP hK hE hS h dX12_isWay_41
    · rw [if_pos c1] at h
      refine lv_aload_n (pc := 30) hx hb dX12_isWay_30 rfl (lv_at hl 0 rfl) ?_
      obtain ⟨v5, hv, h⟩ := zl_some h
      refine xgR (pc := 31) (j := 34) zc12 hx hb hts hown hK hP hv rfl zf_X12_73 dX12_isWay_31 ?_
      refine lv_iload_n (pc := 34) hx hb dX12_isWay_34 rfl (lv_at hl 3 rfl) ?_
      obtain ⟨v6, hv, h⟩ := zl_some h
      refine xaI (pc := 35) hx hb hK hP hv dX12_isWay_35 ?_
      refine lv_iconst (pc := 36) (v := 1) hx hb dX12_isWay_36 (by decide) ?_
      refine lv_icmp_eq (pc := 37) (tgt := 42) hx hb dX12_isWay_37 (by decide) (fun c1 => ?_) (fun c1 => ?_)
      · rw [if_pos c1] at h
        refine lv_aload_n (pc := 42) hx hb dX12_isWay_42 rfl (lv_at hl 0 rfl) ?_
        refine lv_iload_n (pc := 43) hx hb dX12_isWay_43 rfl (lv_at hl 1 rfl) ?_
        refine lv_iload_n (pc := 44) hx hb dX12_isWay_44 rfl (lv_at hl 2 rfl) ?_
        obtain ⟨_, hg, h⟩ := zl_some h
        obtain ⟨v7, σ8, hv, h⟩ := zb_some h
        refine xcallVi (pc := 45) (As := [.int x1, .int x2]) (rest := []) ⟨hx, hb, hml, hown, hts⟩ (c_X12_hangs l D c o g N hv) zc12 zV_X12_423 rfl zd_X12_hangs ⟨Nat.le_of_ble_eq_true rfl, Nat.le_of_ble_eq_true rfl⟩ hK hP hE hS hg hl.1 rfl (Nat.le_of_ble_eq_true rfl) ⟨Nat.zero_le _, Nat.zero_le _⟩ dX12_isWay_45 (fun H locs hP hS => ?_)
        refine lv_istore (pc := 48) (lv' := [(4, .int v7), (0, .ref (o + x0)), (1, .int x1), (2, .int x2), (3, .int x3)]) hx hb dX12_isWay_48 hl (by decide) rfl (fun ls hl => ?_)
        refine lv_iconst (pc := 50) (v := 0) hx hb dX12_isWay_50 (by decide) ?_
        refine lv_istore (pc := 51) (lv' := [(5, .int 0), (4, .int v7), (0, .ref (o + x0)), (1, .int x1), (2, .int x2), (3, .int x3)]) hx hb dX12_isWay_51 hl (by decide) rfl (fun ls hl => ?_)
        have L53_9 : ∀ (n : Nat) (t : Int32 × zS), zlp (F_X12_isWay_53 N x0 x2 x3 v7) n t = some ρ → ∀ (H : Heap) (locs : List Loc) (ls : Array Slot), zP D c o (zabs o (t.2)) H → va_S (zA o) s.heap H locs → lv_has ls 6 [(5, .int (t.1)), (0, .ref (o + x0)), (2, .int x2), (3, .int x3), (4, .int v7)] → W p l e (zr 6) s m (([.ref (o + x0), .int x1, .int x2, .int x3] : List Value).toArray) below meth cd H locs 0 0 (MQ below (zQi D c o g ρ) (([.ref (o + x0), .int x1, .int x2, .int x3] : List Value).toArray) s 0 0 (zA o)) (F0 m 53 ls []) := by
          refine zlp_ind (fun ag9 ih9 t h H locs ls hP hS hl => ?_)
          obtain ⟨x5_9, σ9⟩ := t
          have hP : zP D c o (zabs o σ9) H := hP
          have hl : lv_has ls 6 [(5, .int x5_9), (0, .ref (o + x0)), (2, .int x2), (3, .int x3), (4, .int v7)] := hl
          rw [F_X12_isWay_53.eq_1] at h
          show W p l e (zr 6) s m (([.ref (o + x0), .int x1, .int x2, .int x3] : List Value).toArray) below meth cd H locs 0 0 (MQ below (zQi D c o g ρ) (([.ref (o + x0), .int x1, .int x2, .int x3] : List Value).toArray) s 0 0 (zA o)) (F0 m 53 ls [])
          refine lv_iload (pc := 53) hx hb dX12_isWay_53 (lv_at hl 0 rfl) ?_
          refine lv_bipush (pc := 55) (v := 8) hx hb dX12_isWay_55 (by decide) ?_
          refine lv_icmp_ge (pc := 57) (tgt := 121) hx hb dX12_isWay_57 (by decide) (fun c1 => ?_) (fun c1 => ?_)
          · rw [if_pos c1] at h
            refine lv_iconst (pc := 121) (v := 1) hx hb dX12_isWay_121 (by decide) ?_
            exact xretz (pc := 122) hx hb hr hlocks hP hK hE hS h dX12_isWay_122
          · rw [if_neg c1] at h
            refine lv_iload (pc := 60) hx hb dX12_isWay_60 (lv_at hl 4 rfl) ?_
            refine lv_iload (pc := 62) hx hb dX12_isWay_62 (lv_at hl 0 rfl) ?_
            refine lv_ishr (pc := 64) hx hb dX12_isWay_64 ?_
            refine lv_iconst (pc := 65) (v := 1) hx hb dX12_isWay_65 (by decide) ?_
            refine lv_iand (pc := 66) hx hb dX12_isWay_66 ?_
            have hj80_10 : ∀ (σ10 : zS), J_X12_isWay_80 N ag9 x0 x2 x3 v7 x5_9 σ10 = some ρ → ∀ (H : Heap) (locs : List Loc) (ls : Array Slot), zP D c o (zabs o σ10) H → va_S (zA o) s.heap H locs → lv_has ls 6 [(0, .ref (o + x0)), (2, .int x2), (3, .int x3), (4, .int v7), (5, .int x5_9)] → W p l e (zr 6) s m (([.ref (o + x0), .int x1, .int x2, .int x3] : List Value).toArray) below meth cd H locs 0 0 (MQ below (zQi D c o g ρ) (([.ref (o + x0), .int x1, .int x2, .int x3] : List Value).toArray) s 0 0 (zA o)) (F0 m 80 ls []) := by
              intro σ10 h H locs ls hP hS hl
              rw [J_X12_isWay_80.eq_1] at h
              refine lv_iload (pc := 80) hx hb dX12_isWay_80 (lv_at hl 4 rfl) ?_
              refine lv_iload_n (pc := 82) hx hb dX12_isWay_82 rfl (lv_at hl 1 rfl) ?_
              refine lv_icmp_eq (pc := 83) (tgt := 115) hx hb dX12_isWay_83 (by decide) (fun c1 => ?_) (fun c1 => ?_)
              · rw [if_pos c1] at h
                refine lv_iinc (pc := 115) (v := x5_9 + 1) (lv' := [(5, .int (x5_9 + 1)), (0, .ref (o + x0)), (2, .int x2), (3, .int x3), (4, .int v7)]) hx hb dX12_isWay_115 hl (k := 4) rfl rfl (by decide) rfl (fun ls hl => ?_)
                refine lv_goto (pc := 118) (tgt := 53) hx hb dX12_isWay_118 (by decide) ?_
                exact ih9 (x5_9 + 1, σ10) h _ _ ls hP hS (lv_sub hl [0, 1, 2, 3, 4] rfl)
              · rw [if_neg c1] at h
                refine lv_iload (pc := 86) hx hb dX12_isWay_86 (lv_at hl 4 rfl) ?_
                refine lv_iload_n (pc := 88) hx hb dX12_isWay_88 rfl (lv_at hl 2 rfl) ?_
                refine lv_icmp_eq (pc := 89) (tgt := 115) hx hb dX12_isWay_89 (by decide) (fun c1 => ?_) (fun c1 => ?_)
                · rw [if_pos c1] at h
                  refine lv_iinc (pc := 115) (v := x5_9 + 1) (lv' := [(5, .int (x5_9 + 1)), (0, .ref (o + x0)), (2, .int x2), (3, .int x3), (4, .int v7)]) hx hb dX12_isWay_115 hl (k := 4) rfl rfl (by decide) rfl (fun ls hl => ?_)
                  refine lv_goto (pc := 118) (tgt := 53) hx hb dX12_isWay_118 (by decide) ?_
                  exact ih9 (x5_9 + 1, σ10) h _ _ ls hP hS (lv_sub hl [0, 1, 2, 3, 4] rfl)
                · rw [if_neg c1] at h
                  refine lv_aload_n (pc := 92) hx hb dX12_isWay_92 rfl (lv_at hl 0 rfl) ?_
                  obtain ⟨v11, hv, h⟩ := zl_some h
                  refine xgR (pc := 93) (j := 34) zc12 hx hb hts hown hK hP hv rfl zf_X12_73 dX12_isWay_93 ?_
                  refine lv_iload (pc := 96) hx hb dX12_isWay_96 (lv_at hl 4 rfl) ?_
                  obtain ⟨v12, hv, h⟩ := zl_some h
                  refine xaI (pc := 98) hx hb hK hP hv dX12_isWay_98 ?_
                  refine lv_if_eq (pc := 99) (tgt := 115) hx hb dX12_isWay_99 (by decide) (fun c1 => ?_) (fun c1 => ?_)
                  · rw [if_pos c1] at h
                    refine lv_iinc (pc := 115) (v := x5_9 + 1) (lv' := [(5, .int (x5_9 + 1)), (0, .ref (o + x0)), (2, .int x2), (3, .int x3), (4, .int v7)]) hx hb dX12_isWay_115 hl (k := 4) rfl rfl (by decide) rfl (fun ls hl => ?_)
                    refine lv_goto (pc := 118) (tgt := 53) hx hb dX12_isWay_118 (by decide) ?_
                    exact ih9 (x5_9 + 1, σ10) h _ _ ls hP hS (lv_sub hl [0, 1, 2, 3, 4] rfl)
                  · rw [if_neg c1] at h
                    refine lv_aload_n (pc := 102) hx hb dX12_isWay_102 rfl (lv_at hl 0 rfl) ?_
                    obtain ⟨v13, hv, h⟩ := zl_some h
                    refine xgR (pc := 103) (j := 34) zc12 hx hb hts hown hK hP hv rfl zf_X12_73 dX12_isWay_103 ?_
                    refine lv_iload (pc := 106) hx hb dX12_isWay_106 (lv_at hl 4 rfl) ?_
                    obtain ⟨v14, hv, h⟩ := zl_some h
                    refine xaI (pc := 108) hx hb hK hP hv dX12_isWay_108 ?_
                    refine lv_iconst (pc := 109) (v := 2) hx hb dX12_isWay_109 (by decide) ?_
                    refine lv_icmp_eq (pc := 110) (tgt := 115) hx hb dX12_isWay_110 (by decide) (fun c1 => ?_) (fun c1 => ?_)
                    · rw [if_pos c1] at h
                      refine lv_iinc (pc := 115) (v := x5_9 + 1) (lv' := [(5, .int (x5_9 + 1)), (0, .ref (o + x0)), (2, .int x2), (3, .int x3), (4, .int v7)]) hx hb dX12_isWay_115 hl (k := 4) rfl rfl (by decide) rfl (fun ls hl => ?_)
                      refine lv_goto (pc := 118) (tgt := 53) hx hb dX12_isWay_118 (by decide) ?_
                      exact ih9 (x5_9 + 1, σ10) h _ _ ls hP hS (lv_sub hl [0, 1, 2, 3, 4] rfl)
                    · rw [if_neg c1] at h
                      refine lv_iconst (pc := 113) (v := 0) hx hb dX12_isWay_113 (by decide) ?_
                      exact xretz (pc := 114) hx hb hr hlocks hP hK hE hS h dX12_isWay_114
            refine lv_if_ne (pc := 67) (tgt := 80) hx hb dX12_isWay_67 (by decide) (fun c1 => ?_) (fun c1 => ?_)
            · rw [if_neg c1] at h
              exact hj80_10 σ9 h _ _ ls hP hS (lv_sub hl [1, 2, 3, 4, 0] rfl)
            · rw [if_pos c1] at h
              refine lv_aload_n (pc := 70) hx hb dX12_isWay_70 rfl (lv_at hl 1 rfl) ?_
              obtain ⟨v15, hv, h⟩ := zl_some h
              refine xgR (pc := 71) (j := 34) zc12 hx hb hts hown hK hP hv rfl zf_X12_73 dX12_isWay_71 ?_
              refine lv_iload (pc := 74) hx hb dX12_isWay_74 (lv_at hl 0 rfl) ?_
              obtain ⟨v16, hv, h⟩ := zl_some h
              refine xaI (pc := 76) hx hb hK hP hv dX12_isWay_76 ?_
              refine lv_if_gt (pc := 77) (tgt := 113) hx hb dX12_isWay_77 (by decide) (fun c1 => ?_) (fun c1 => ?_)
              · rw [if_pos c1] at h
                refine lv_iconst (pc := 113) (v := 0) hx hb dX12_isWay_113 (by decide) ?_
                exact xretz (pc := 114) hx hb hr hlocks hP hK hE hS h dX12_isWay_114
              · rw [if_neg c1] at h
                exact hj80_10 σ9 h _ _ ls hP hS (lv_sub hl [1, 2, 3, 4, 0] rfl)
        exact L53_9 N (0, σ8) h _ _ ls hP hS (lv_sub hl [0, 2, 4, 5, 1] rfl)
      · rw [if_neg c1] at h
        refine lv_iconst (pc := 40) (v := 0) hx hb dX12_isWay_40 (by decide) ?_
        exact xretz (pc := 41) hx hb hr hlocks hP hK hE hS h dX12_isWay_41
  · rw [if_pos c1] at h
    refine lv_iload_n (pc := 5) hx hb dX12_isWay_5 rfl (lv_at hl 1 rfl) ?_
    refine lv_if_ne (pc := 6) (tgt := 13) hx hb dX12_isWay_6 (by decide) (fun c1 => ?_) (fun c1 => ?_)
    · rw [if_neg c1] at h
      refine lv_iconst (pc := 13) (v := 0) hx hb dX12_isWay_13 (by decide) ?_
      exact xretz (pc := 14) hx hb hr hlocks hP hK hE hS h dX12_isWay_14
    · rw [if_pos c1] at h
      refine lv_iconst (pc := 9) (v := 1) hx hb dX12_isWay_9 (by decide) ?_
      refine lv_goto (pc := 10) (tgt := 14) hx hb dX12_isWay_10 (by decide) ?_
      exact xretz (pc := 14) hx hb hr hlocks hP hK hE hS h dX12_isWay_14

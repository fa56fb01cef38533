def F_X5_spells_27 (N : Nat) (x0 : Nat) (x1 : Nat) (x2 : Int32) (again27 : (Int32 × zS) → Option (Int32 × zS)) : Int32 × zS → Option (Int32 × zS)
  | (x4, σ) =>
  zb (f_J0_length_8abf5 N x1 σ) fun v4 σ5 =>
  if v4 ≤ x4 then
    (rZ 1 σ5)
  else
    (zl (gR 5 5 x0 σ5) fun v6 =>
    zl (aI 13 v6 (x2 + x4) σ5) fun v7 =>
    zb (f_J0_charAt_5068e N x1 x4 σ5) fun v8 σ9 =>
    if v7 = v8 then
      (again27 (x4 + 1, σ9))
    else
      (rZ 0 σ9))
def f_X5_spells (N : Nat) (x0 : Nat) (x1 : Nat) (x2 : Int32) (x3 : Int32) (σ : zS) : Option (Int32 × zS) :=
  zb (f_J0_length_8abf5 N x1 σ) fun v1 σ2 =>
  if (x3 - x2) = v1 then
    (if x2 < 0 then
      (rZ 0 σ2)
    else
      (zl (gI 5 6 x0 σ2) fun v3 =>
      if x3 ≤ v3 then
        (zlp (F_X5_spells_27 N x0 x1 x2) N (0, σ2))
      else
        (rZ 0 σ2)))
  else
    (rZ 0 σ2)
set_option maxHeartbeats 4000000 in
set_option maxRecDepth 100000 in
theorem c_X5_spells (l : Launch) (D : va_G) (c : zC) (o : Nat) (g : zEp) (N : Nat) {x0 : Nat} {x1 : Nat} {x2 : Int32} {x3 : Int32} {σ : zS} {ρ : Int32 × zS} (h : f_X5_spells N x0 x1 x2 x3 σ = some ρ) : Met l yX5_spells zs_X5_spells (zr 14) (va_Pc [.ref (o + x0), .ref (g.2.1 x1), .int x2, .int x3] (zG D c o g σ)) (zQi D c o g ρ) 0 0 (zA o) := by
  refine zMetG (by decide) (Nat.le_of_ble_eq_true rfl) ?_
  intro p e s m below meth cd ⟨hx, hb, hr, hml, hown, hts, hlocks⟩ hP hK hE ls hl
  have hS : va_S (zA o) s.heap s.heap [] := va_S.rf
  have hl : lv_has ls 5 [(0, .ref (o + x0)), (1, .ref (g.2.1 x1)), (2, .int x2), (3, .int x3)] := hl
  rw [f_X5_spells.eq_1] at h
  refine lv_iload_n (pc := 0) hx hb dX5_spells_0 rfl (lv_at hl 3 rfl) ?_
  refine lv_iload_n (pc := 1) hx hb dX5_spells_1 rfl (lv_at hl 2 rfl) ?_
  refine lv_isub (pc := 2) hx hb dX5_spells_2 ?_
  refine lv_aload_n (pc := 3) hx hb dX5_spells_3 rfl (lv_at hl 1 rfl) ?_
  obtain ⟨v1, σ2, hv, h⟩ := zb_some h
  refine xcallTi (pc := 4) (As := []) (rest := [.int (x3 - x2)]) ⟨hx, hb, hml, hown, hts⟩ (c_J0_length_8abf5 l D c o g N hv) (xtextL hv) zV_X5_140 rfl zd_J0_length_8abf5 ⟨Nat.le_of_ble_eq_true rfl, Nat.le_of_ble_eq_true rfl⟩ hK hP hE hS hl.1 rfl (Nat.le_of_ble_eq_true rfl) ⟨Nat.zero_le _, Nat.zero_le _⟩ dX5_spells_4 (fun H locs hP hS => ?_)
  refine lv_icmp_ne (pc := 7) (tgt := 22) hx hb dX5_spells_7 (by decide) (fun c1 => ?_) (fun c1 => ?_)
  · rw [if_neg c1] at h
    refine lv_iconst (pc := 22) (v := 0) hx hb dX5_spells_22 (by decide) ?_
    exact xretz (pc := 23) hx hb hr hlocks hP hK hE hS h dX5_spells_23
  · rw [if_pos c1] at h
    refine lv_iload_n (pc := 10) hx hb dX5_spells_10 rfl (lv_at hl 2 rfl) ?_
    refine lv_if_lt (pc := 11) (tgt := 22) hx hb dX5_spells_11 (by decide) (fun c1 => ?_) (fun c1 => ?_)
    · rw [if_pos c1] at h
      refine lv_iconst (pc := 22) (v := 0) hx hb dX5_spells_22 (by decide) ?_
      exact xretz (pc := 23) hx hb hr hlocks hP hK hE hS h dX5_spells_23
    · rw [if_neg c1] at h
      refine lv_iload_n (pc := 14) hx hb dX5_spells_14 rfl (lv_at hl 3 rfl) ?_
      refine lv_aload_n (pc := 15) hx hb dX5_spells_15 rfl (lv_at hl 0 rfl) ?_
      obtain ⟨v3, hv, h⟩ := zl_some h
      refine xgI (pc := 16) (j := 6) zc5 hx hb hts hown hK hP hv rfl zf_X5_32 dX5_spells_16 ?_
      refine lv_icmp_le (pc := 19) (tgt := 24) hx hb dX5_spells_19 (by decide) (fun c1 => ?_) (fun c1 => ?_)
      · rw [if_pos c1] at h
        refine lv_iconst (pc := 24) (v := 0) hx hb dX5_spells_24 (by decide) ?_
        refine lv_istore (pc := 25) (lv' := [(4, .int 0), (0, .ref (o + x0)), (1, .ref (g.2.1 x1)), (2, .int x2), (3, .int x3)]) hx hb dX5_spells_25 hl (by decide) rfl (fun ls hl => ?_)
        have L27_4 : ∀ (n : Nat) (t : Int32 × zS), zlp (F_X5_spells_27 N x0 x1 x2) n t = some ρ → ∀ (H : Heap) (locs : List Loc) (ls : Array Slot), zP D c o (zabs o (t.2)) H → va_S (zA o) s.heap H locs → lv_has ls 5 [(4, .int (t.1)), (0, .ref (o + x0)), (1, .ref (g.2.1 x1)), (2, .int x2)] → W p l e (zr 14) s m (([.ref (o + x0), .ref (g.2.1 x1), .int x2, .int x3] : List Value).toArray) below meth cd H locs 0 0 (MQ below (zQi D c o g ρ) (([.ref (o + x0), .ref (g.2.1 x1), .int x2, .int x3] : List Value).toArray) s 0 0 (zA o)) (F0 m 27 ls []) := by
          refine zlp_ind (fun ag4 ih4 t h H locs ls hP hS hl => ?_)
          obtain ⟨x4_4, σ4⟩ := t
          have hP : zP D c o (zabs o σ4) H := hP
          have hl : lv_has ls 5 [(4, .int x4_4), (0, .ref (o + x0)), (1, .ref (g.2.1 x1)), (2, .int x2)] := hl
          rw [F_X5_spells_27.eq_1] at h
          show W p l e (zr 14) s m (([.ref (o + x0), .ref (g.2.1 x1), .int x2, .int x3] : List Value).toArray) below meth cd H locs 0 0 (MQ below (zQi D c o g ρ) (([.ref (o + x0), .ref (g.2.1 x1), .int x2, .int x3] : List Value).toArray) s 0 0 (zA o)) (F0 m 27 ls [])
          refine lv_iload (pc := 27) hx hb dX5_spells_27 (lv_at hl 0 rfl) ?_
          refine lv_aload_n (pc := 29) hx hb dX5_spells_29 rfl (lv_at hl 2 rfl) ?_
          obtain ⟨v5, σ6, hv, h⟩ := zb_some h
          refine xcallTi (pc := 30) (As := []) (rest := [.int x4_4]) ⟨hx, hb, hml, hown, hts⟩ (c_J0_length_8abf5 l D c o g N hv) (xtextL hv) zV_X5_140 rfl zd_J0_length_8abf5 ⟨Nat.le_of_ble_eq_true rfl, Nat.le_of_ble_eq_true rfl⟩ hK hP hE hS hl.1 rfl (Nat.le_of_ble_eq_true rfl) ⟨Nat.zero_le _, Nat.zero_le _⟩ dX5_spells_30 (fun H locs hP hS => ?_)
          refine lv_icmp_ge (pc := 33) (tgt := 62) hx hb dX5_spells_33 (by decide) (fun c1 => ?_) (fun c1 => ?_)
          · rw [if_pos c1] at h
            refine lv_iconst (pc := 62) (v := 1) hx hb dX5_spells_62 (by decide) ?_
            exact xretz (pc := 63) hx hb hr hlocks hP hK hE hS h dX5_spells_63
          · rw [if_neg c1] at h
            refine lv_aload_n (pc := 36) hx hb dX5_spells_36 rfl (lv_at hl 1 rfl) ?_
            obtain ⟨v7, hv, h⟩ := zl_some h
            refine xgR (pc := 37) (j := 5) zc5 hx hb hts hown hK hP hv rfl zf_X5_28 dX5_spells_37 ?_
            refine lv_iload_n (pc := 40) hx hb dX5_spells_40 rfl (lv_at hl 3 rfl) ?_
            refine lv_iload (pc := 41) hx hb dX5_spells_41 (lv_at hl 0 rfl) ?_
            refine lv_iadd (pc := 43) hx hb dX5_spells_43 ?_
            obtain ⟨v8, hv, h⟩ := zl_some h
            refine xaB (pc := 44) hx hb hK hP hv dX5_spells_44 ?_
            refine lv_aload_n (pc := 45) hx hb dX5_spells_45 rfl (lv_at hl 2 rfl) ?_
            refine lv_iload (pc := 46) hx hb dX5_spells_46 (lv_at hl 0 rfl) ?_
            obtain ⟨v9, σ10, hv, h⟩ := zb_some h
            refine xcallTi (pc := 48) (As := [.int x4_4]) (rest := [.int v8]) ⟨hx, hb, hml, hown, hts⟩ (c_J0_charAt_5068e l D c o g N hv) (xtextC hv) zV_X5_145 rfl zd_J0_charAt_5068e ⟨Nat.le_of_ble_eq_true rfl, Nat.le_of_ble_eq_true rfl⟩ hK hP hE hS hl.1 rfl (Nat.le_of_ble_eq_true rfl) ⟨Nat.zero_le _, Nat.zero_le _⟩ dX5_spells_48 (fun H locs hP hS => ?_)
            refine lv_icmp_eq (pc := 51) (tgt := 56) hx hb dX5_spells_51 (by decide) (fun c1 => ?_) (fun c1 => ?_)
            · rw [if_pos c1] at h
              refine lv_iinc (pc := 56) (v := x4_4 + 1) (lv' := [(4, .int (x4_4 + 1)), (0, .ref (o + x0)), (1, .ref (g.2.1 x1)), (2, .int x2)]) hx hb dX5_spells_56 hl (k := 0) rfl rfl (by decide) rfl (fun ls hl => ?_)
              refine lv_goto (pc := 59) (tgt := 27) hx hb dX5_spells_59 (by decide) ?_
              exact ih4 (x4_4 + 1, σ10) h _ _ ls hP hS (lv_sub hl [0, 1, 2, 3] rfl)
            · rw [if_neg c1] at h
              refine lv_iconst (pc := 54) (v := 0) hx hb dX5_spells_54 (by decide) ?_
              exact xretz (pc := 55) hx hb hr hlocks hP hK hE hS h dX5_spells_55
        exact L27_4 N (0, σ2) h _ _ ls hP hS (lv_sub hl [0, 1, 2, 3] rfl)
      · rw [if_neg c1] at h
        refine lv_iconst (pc := 22) (v := 0) hx hb dX5_spells_22 (by decide) ?_
        exact xretz (pc := 23) hx hb hr hlocks hP hK hE hS h dX5_spells_23
def f_X5_wordValue (N : Nat) (x0 : Nat) (x1 : Int32) (x2 : Int32) (σ : zS) : Option (Int32 × zS) :=
  zl (gC 5 x0) fun _ => zb (f_X5_spells N x0 0 x1 x2 σ) fun v1 σ2 =>
  if v1 = 0 then
    (zl (gC 5 x0) fun _ => zb (f_X5_spells N x0 1 x1 x2 σ2) fun v3 σ4 =>
    if v3 = 0 then
      (zl (gC 5 x0) fun _ => zb (f_X5_spells N x0 2 x1 x2 σ4) fun v5 σ6 =>
      if v5 = 0 then
        (zl (gC 5 x0) fun _ => zb (f_X5_spells N x0 3 x1 x2 σ6) fun v7 σ8 =>
        if v7 = 0 then
          (zl (gC 5 x0) fun _ => zb (f_X5_spells N x0 4 x1 x2 σ8) fun v9 σ10 =>
          if v9 = 0 then
            (zl (gC 5 x0) fun _ => zb (f_X5_spells N x0 5 x1 x2 σ10) fun v11 σ12 =>
            if v11 = 0 then
              (zl (gC 5 x0) fun _ => zb (f_X5_spells N x0 6 x1 x2 σ12) fun v13 σ14 =>
              if v13 = 0 then
                (zl (gC 5 x0) fun _ => zb (f_X5_spells N x0 7 x1 x2 σ14) fun v15 σ16 =>
                if v15 = 0 then
                  (zl (gC 5 x0) fun _ => zb (f_X5_spells N x0 8 x1 x2 σ16) fun v17 σ18 =>
                  if v17 = 0 then
                    (zl (gC 5 x0) fun _ => zb (f_X5_spells N x0 9 x1 x2 σ18) fun v19 σ20 =>
                    if v19 = 0 then
                      (zl (gC 5 x0) fun _ => zb (f_X5_spells N x0 10 x1 x2 σ20) fun v21 σ22 =>
                      if v21 = 0 then
                        (some ((-1), σ22))
                      else
                        (some (15, σ22)))
                    else
                      (some (14, σ20)))
                  else
                    (some (13, σ18)))
                else
                  (some (12, σ16)))
              else
                (some (11, σ14)))
            else
              (some (10, σ12)))
          else
            (some (5, σ10)))
        else
          (some (4, σ8)))
      else
        (some (3, σ6)))
    else
      (some (2, σ4)))
  else
    (some (1, σ2))
set_option maxHeartbeats 4000000 in
set_option maxRecDepth 100000 in
theorem c_X5_wordValue (l : Launch) (D : va_G) (c : zC) (o : Nat) (g : zEp) (N : Nat) {x0 : Nat} {x1 : Int32} {x2 : Int32} {σ : zS} {ρ : Int32 × zS} (h : f_X5_wordValue N x0 x1 x2 σ = some ρ) : Met l yX5_wordValue zs_X5_wordValue (zr 16) (va_Pc [.ref (o + x0), .int x1, .int x2] (zG D c o g σ)) (zQi D c o g ρ) 0 0 (zA o) := by
  refine zMetG (by decide) (Nat.le_of_ble_eq_true rfl) ?_
  intro p e s m below meth cd ⟨hx, hb, hr, hml, hown, hts, hlocks⟩ hP hK hE ls hl
  have hS : va_S (zA o) s.heap s.heap [] := va_S.rf
  have hl : lv_has ls 3 [(0, .ref (o + x0)), (1, .int x1), (2, .int x2)] := hl
  rw [f_X5_wordValue.eq_1] at h
  refine lv_aload_n (pc := 0) hx hb dX5_wordValue_0 rfl (lv_at hl 0 rfl) ?_
  refine va_ldcS (pc := 1) hx hb hown (hE.2.2.2.2.2 (RX5, 117, "names", 0) (by decide)) dX5_wordValue_1 ?_
  refine lv_iload_n (pc := 3) hx hb dX5_wordValue_3 rfl (lv_at hl 1 rfl) ?_
  refine lv_iload_n (pc := 4) hx hb dX5_wordValue_4 rfl (lv_at hl 2 rfl) ?_
  obtain ⟨_, hg, h⟩ := zl_some h
  obtain ⟨v1, σ2, hv, h⟩ := zb_some h
  refine xcallVi (pc := 5) (As := [.ref (g.2.1 0), .int x1, .int x2]) (rest := []) ⟨hx, hb, hml, hown, hts⟩ (c_X5_spells l D c o g N hv) zc5 zV_X5_118 rfl zd_X5_spells ⟨Nat.le_of_ble_eq_true rfl, Nat.le_of_ble_eq_true rfl⟩ hK hP hE hS hg hl.1 rfl (Nat.le_of_ble_eq_true rfl) ⟨Nat.zero_le _, Nat.zero_le _⟩ dX5_wordValue_5 (fun H locs hP hS => ?_)
  refine lv_if_eq (pc := 8) (tgt := 13) hx hb dX5_wordValue_8 (by decide) (fun c1 => ?_) (fun c1 => ?_)
  · rw [if_pos c1] at h
    refine lv_aload_n (pc := 13) hx hb dX5_wordValue_13 rfl (lv_at hl 0 rfl) ?_
    refine va_ldcS (pc := 14) hx hb hown (hE.2.2.2.2.2 (RX5, 122, "weight", 1) (by decide)) dX5_wordValue_14 ?_
    refine lv_iload_n (pc := 16) hx hb dX5_wordValue_16 rfl (lv_at hl 1 rfl) ?_
    refine lv_iload_n (pc := 17) hx hb dX5_wordValue_17 rfl (lv_at hl 2 rfl) ?_
    obtain ⟨_, hg, h⟩ := zl_some h
    obtain ⟨v3, σ4, hv, h⟩ := zb_some h
    refine xcallVi (pc := 18) (As := [.ref (g.2.1 1), .int x1, .int x2]) (rest := []) ⟨hx, hb, hml, hown, hts⟩ (c_X5_spells l D c o g N hv) zc5 zV_X5_118 rfl zd_X5_spells ⟨Nat.le_of_ble_eq_true rfl, Nat.le_of_ble_eq_true rfl⟩ hK hP hE hS hg hl.1 rfl (Nat.le_of_ble_eq_true rfl) ⟨Nat.zero_le _, Nat.zero_le _⟩ dX5_wordValue_18 (fun H locs hP hS => ?_)
    refine lv_if_eq (pc := 21) (tgt := 26) hx hb dX5_wordValue_21 (by decide) (fun c1 => ?_) (fun c1 => ?_)
    · rw [if_pos c1] at h
      refine lv_aload_n (pc := 26) hx hb dX5_wordValue_26 rfl (lv_at hl 0 rfl) ?_
      refine va_ldcS (pc := 27) hx hb hown (hE.2.2.2.2.2 (RX5, 124, "edge", 2) (by decide)) dX5_wordValue_27 ?_
      refine lv_iload_n (pc := 29) hx hb dX5_wordValue_29 rfl (lv_at hl 1 rfl) ?_
      refine lv_iload_n (pc := 30) hx hb dX5_wordValue_30 rfl (lv_at hl 2 rfl) ?_
      obtain ⟨_, hg, h⟩ := zl_some h
      obtain ⟨v5, σ6, hv, h⟩ := zb_some h
      refine xcallVi (pc := 31) (As := [.ref (g.2.1 2), .int x1, .int x2]) (rest := []) ⟨hx, hb, hml, hown, hts⟩ (c_X5_spells l D c o g N hv) zc5 zV_X5_118 rfl zd_X5_spells ⟨Nat.le_of_ble_eq_true rfl, Nat.le_of_ble_eq_true rfl⟩ hK hP hE hS hg hl.1 rfl (Nat.le_of_ble_eq_true rfl) ⟨Nat.zero_le _, Nat.zero_le _⟩ dX5_wordValue_31 (fun H locs hP hS => ?_)
      refine lv_if_eq (pc := 34) (tgt := 39) hx hb dX5_wordValue_34 (by decide) (fun c1 => ?_) (fun c1 => ?_)
      · rw [if_pos c1] at h
        refine lv_aload_n (pc := 39) hx hb dX5_wordValue_39 rfl (lv_at hl 0 rfl) ?_
        refine va_ldcS (pc := 40) hx hb hown (hE.2.2.2.2.2 (RX5, 126, "let", 3) (by decide)) dX5_wordValue_40 ?_
        refine lv_iload_n (pc := 42) hx hb dX5_wordValue_42 rfl (lv_at hl 1 rfl) ?_
        refine lv_iload_n (pc := 43) hx hb dX5_wordValue_43 rfl (lv_at hl 2 rfl) ?_
        obtain ⟨_, hg, h⟩ := zl_some h
        obtain ⟨v7, σ8, hv, h⟩ := zb_some h
        refine xcallVi (pc := 44) (As := [.ref (g.2.1 3), .int x1, .int x2]) (rest := []) ⟨hx, hb, hml, hown, hts⟩ (c_X5_spells l D c o g N hv) zc5 zV_X5_118 rfl zd_X5_spells ⟨Nat.le_of_ble_eq_true rfl, Nat.le_of_ble_eq_true rfl⟩ hK hP hE hS hg hl.1 rfl (Nat.le_of_ble_eq_true rfl) ⟨Nat.zero_le _, Nat.zero_le _⟩ dX5_wordValue_44 (fun H locs hP hS => ?_)
        refine lv_if_eq (pc := 47) (tgt := 52) hx hb dX5_wordValue_47 (by decide) (fun c1 => ?_) (fun c1 => ?_)
        · rw [if_pos c1] at h
          refine lv_aload_n (pc := 52) hx hb dX5_wordValue_52 rfl (lv_at hl 0 rfl) ?_
          refine va_ldcS (pc := 53) hx hb hown (hE.2.2.2.2.2 (RX5, 128, "all", 4) (by decide)) dX5_wordValue_53 ?_
          refine lv_iload_n (pc := 55) hx hb dX5_wordValue_55 rfl (lv_at hl 1 rfl) ?_
          refine lv_iload_n (pc := 56) hx hb dX5_wordValue_56 rfl (lv_at hl 2 rfl) ?_
          obtain ⟨_, hg, h⟩ := zl_some h
          obtain ⟨v9, σ10, hv, h⟩ := zb_some h
          refine xcallVi (pc := 57) (As := [.ref (g.2.1 4), .int x1, .int x2]) (rest := []) ⟨hx, hb, hml, hown, hts⟩ (c_X5_spells l D c o g N hv) zc5 zV_X5_118 rfl zd_X5_spells ⟨Nat.le_of_ble_eq_true rfl, Nat.le_of_ble_eq_true rfl⟩ hK hP hE hS hg hl.1 rfl (Nat.le_of_ble_eq_true rfl) ⟨Nat.zero_le _, Nat.zero_le _⟩ dX5_wordValue_57 (fun H locs hP hS => ?_)
          refine lv_if_eq (pc := 60) (tgt := 65) hx hb dX5_wordValue_60 (by decide) (fun c1 => ?_) (fun c1 => ?_)
          · rw [if_pos c1] at h
            refine lv_aload_n (pc := 65) hx hb dX5_wordValue_65 rfl (lv_at hl 0 rfl) ?_
            refine va_ldcS (pc := 66) hx hb hown (hE.2.2.2.2.2 (RX5, 130, "min", 5) (by decide)) dX5_wordValue_66 ?_
            refine lv_iload_n (pc := 68) hx hb dX5_wordValue_68 rfl (lv_at hl 1 rfl) ?_
            refine lv_iload_n (pc := 69) hx hb dX5_wordValue_69 rfl (lv_at hl 2 rfl) ?_
            obtain ⟨_, hg, h⟩ := zl_some h
            obtain ⟨v11, σ12, hv, h⟩ := zb_some h
            refine xcallVi (pc := 70) (As := [.ref (g.2.1 5), .int x1, .int x2]) (rest := []) ⟨hx, hb, hml, hown, hts⟩ (c_X5_spells l D c o g N hv) zc5 zV_X5_118 rfl zd_X5_spells ⟨Nat.le_of_ble_eq_true rfl, Nat.le_of_ble_eq_true rfl⟩ hK hP hE hS hg hl.1 rfl (Nat.le_of_ble_eq_true rfl) ⟨Nat.zero_le _, Nat.zero_le _⟩ dX5_wordValue_70 (fun H locs hP hS => ?_)
            refine lv_if_eq (pc := 73) (tgt := 79) hx hb dX5_wordValue_73 (by decide) (fun c1 => ?_) (fun c1 => ?_)
            · rw [if_pos c1] at h
              refine lv_aload_n (pc := 79) hx hb dX5_wordValue_79 rfl (lv_at hl 0 rfl) ?_
              refine va_ldcS (pc := 80) hx hb hown (hE.2.2.2.2.2 (RX5, 131, "max", 6) (by decide)) dX5_wordValue_80 ?_
              refine lv_iload_n (pc := 82) hx hb dX5_wordValue_82 rfl (lv_at hl 1 rfl) ?_
              refine lv_iload_n (pc := 83) hx hb dX5_wordValue_83 rfl (lv_at hl 2 rfl) ?_
              obtain ⟨_, hg, h⟩ := zl_some h
              obtain ⟨v13, σ14, hv, h⟩ := zb_some h
              refine xcallVi (pc := 84) (As := [.ref (g.2.1 6), .int x1, .int x2]) (rest := []) ⟨hx, hb, hml, hown, hts⟩ (c_X5_spells l D c o g N hv) zc5 zV_X5_118 rfl zd_X5_spells ⟨Nat.le_of_ble_eq_true rfl, Nat.le_of_ble_eq_true rfl⟩ hK hP hE hS hg hl.1 rfl (Nat.le_of_ble_eq_true rfl) ⟨Nat.zero_le _, Nat.zero_le _⟩ dX5_wordValue_84 (fun H locs hP hS => ?_)
              refine lv_if_eq (pc := 87) (tgt := 93) hx hb dX5_wordValue_87 (by decide) (fun c1 => ?_) (fun c1 => ?_)
              · rw [if_pos c1] at h
                refine lv_aload_n (pc := 93) hx hb dX5_wordValue_93 rfl (lv_at hl 0 rfl) ?_
                refine va_ldcS (pc := 94) hx hb hown (hE.2.2.2.2.2 (RX5, 132, "hit", 7) (by decide)) dX5_wordValue_94 ?_
                refine lv_iload_n (pc := 96) hx hb dX5_wordValue_96 rfl (lv_at hl 1 rfl) ?_
                refine lv_iload_n (pc := 97) hx hb dX5_wordValue_97 rfl (lv_at hl 2 rfl) ?_
                obtain ⟨_, hg, h⟩ := zl_some h
                obtain ⟨v15, σ16, hv, h⟩ := zb_some h
                refine xcallVi (pc := 98) (As := [.ref (g.2.1 7), .int x1, .int x2]) (rest := []) ⟨hx, hb, hml, hown, hts⟩ (c_X5_spells l D c o g N hv) zc5 zV_X5_118 rfl zd_X5_spells ⟨Nat.le_of_ble_eq_true rfl, Nat.le_of_ble_eq_true rfl⟩ hK hP hE hS hg hl.1 rfl (Nat.le_of_ble_eq_true rfl) ⟨Nat.zero_le _, Nat.zero_le _⟩ dX5_wordValue_98 (fun H locs hP hS => ?_)
                refine lv_if_eq (pc := 101) (tgt := 107) hx hb dX5_wordValue_101 (by decide) (fun c1 => ?_) (fun c1 => ?_)
                · rw [if_pos c1] at h
                  refine lv_aload_n (pc := 107) hx hb dX5_wordValue_107 rfl (lv_at hl 0 rfl) ?_
                  refine va_ldcS (pc := 108) hx hb hown (hE.2.2.2.2.2 (RX5, 134, "not", 8) (by decide)) dX5_wordValue_108 ?_
                  refine lv_iload_n (pc := 110) hx hb dX5_wordValue_110 rfl (lv_at hl 1 rfl) ?_
                  refine lv_iload_n (pc := 111) hx hb dX5_wordValue_111 rfl (lv_at hl 2 rfl) ?_
                  obtain ⟨_, hg, h⟩ := zl_some h
                  obtain ⟨v17, σ18, hv, h⟩ := zb_some h
                  refine xcallVi (pc := 112) (As := [.ref (g.2.1 8), .int x1, .int x2]) (rest := []) ⟨hx, hb, hml, hown, hts⟩ (c_X5_spells l D c o g N hv) zc5 zV_X5_118 rfl zd_X5_spells ⟨Nat.le_of_ble_eq_true rfl, Nat.le_of_ble_eq_true rfl⟩ hK hP hE hS hg hl.1 rfl (Nat.le_of_ble_eq_true rfl) ⟨Nat.zero_le _, Nat.zero_le _⟩ dX5_wordValue_112 (fun H locs hP hS => ?_)
                  refine lv_if_eq (pc := 115) (tgt := 121) hx hb dX5_wordValue_115 (by decide) (fun c1 => ?_) (fun c1 => ?_)
                  · rw [if_pos c1] at h
                    refine lv_aload_n (pc := 121) hx hb dX5_wordValue_121 rfl (lv_at hl 0 rfl) ?_
                    refine va_ldcS (pc := 122) hx hb hown (hE.2.2.2.2.2 (RX5, 136, "up", 9) (by decide)) dX5_wordValue_122 ?_
                    refine lv_iload_n (pc := 124) hx hb dX5_wordValue_124 rfl (lv_at hl 1 rfl) ?_
                    refine lv_iload_n (pc := 125) hx hb dX5_wordValue_125 rfl (lv_at hl 2 rfl) ?_
                    obtain ⟨_, hg, h⟩ := zl_some h
                    obtain ⟨v19, σ20, hv, h⟩ := zb_some h
                    refine xcallVi (pc := 126) (As := [.ref (g.2.1 9), .int x1, .int x2]) (rest := []) ⟨hx, hb, hml, hown, hts⟩ (c_X5_spells l D c o g N hv) zc5 zV_X5_118 rfl zd_X5_spells ⟨Nat.le_of_ble_eq_true rfl, Nat.le_of_ble_eq_true rfl⟩ hK hP hE hS hg hl.1 rfl (Nat.le_of_ble_eq_true rfl) ⟨Nat.zero_le _, Nat.zero_le _⟩ dX5_wordValue_126 (fun H locs hP hS => ?_)
                    refine lv_if_eq (pc := 129) (tgt := 135) hx hb dX5_wordValue_129 (by decide) (fun c1 => ?_) (fun c1 => ?_)
                    · rw [if_pos c1] at h
                      refine lv_aload_n (pc := 135) hx hb dX5_wordValue_135 rfl (lv_at hl 0 rfl) ?_
                      refine va_ldcS (pc := 136) hx hb hown (hE.2.2.2.2.2 (RX5, 138, "down", 10) (by decide)) dX5_wordValue_136 ?_
                      refine lv_iload_n (pc := 138) hx hb dX5_wordValue_138 rfl (lv_at hl 1 rfl) ?_
                      refine lv_iload_n (pc := 139) hx hb dX5_wordValue_139 rfl (lv_at hl 2 rfl) ?_
                      obtain ⟨_, hg, h⟩ := zl_some h
                      obtain ⟨v21, σ22, hv, h⟩ := zb_some h
                      refine xcallVi (pc := 140) (As := [.ref (g.2.1 10), .int x1, .int x2]) (rest := []) ⟨hx, hb, hml, hown, hts⟩ (c_X5_spells l D c o g N hv) zc5 zV_X5_118 rfl zd_X5_spells ⟨Nat.le_of_ble_eq_true rfl, Nat.le_of_ble_eq_true rfl⟩ hK hP hE hS hg hl.1 rfl (Nat.le_of_ble_eq_true rfl) ⟨Nat.zero_le _, Nat.zero_le _⟩ dX5_wordValue_140 (fun H locs hP hS => ?_)
                      refine lv_if_eq (pc := 143) (tgt := 149) hx hb dX5_wordValue_143 (by decide) (fun c1 => ?_) (fun c1 => ?_)
                      · rw [if_pos c1] at h
                        refine lv_iconst (pc := 149) (v := (-1)) hx hb dX5_wordValue_149 (by decide) ?_
                        exact xreti (pc := 150) hx hb hr hlocks hP hK hE hS h dX5_wordValue_150
                      · rw [if_neg c1] at h
                        refine lv_bipush (pc := 146) (v := 15) hx hb dX5_wordValue_146 (by decide) ?_
                        exact xreti (pc := 148) hx hb hr hlocks hP hK hE hS h dX5_wordValue_148
                    · rw [if_neg c1] at h
                      refine lv_bipush (pc := 132) (v := 14) hx hb dX5_wordValue_132 (by decide) ?_
                      exact xreti (pc := 134) hx hb hr hlocks hP hK hE hS h dX5_wordValue_134
                  · rw [if_neg c1] at h
                    refine lv_bipush (pc := 118) (v := 13) hx hb dX5_wordValue_118 (by decide) ?_
                    exact xreti (pc := 120) hx hb hr hlocks hP hK hE hS h dX5_wordValue_120
                · rw [if_neg c1] at h
                  refine lv_bipush (pc := 104) (v := 12) hx hb dX5_wordValue_104 (by decide) ?_
                  exact xreti (pc := 106) hx hb hr hlocks hP hK hE hS h dX5_wordValue_106
              · rw [if_neg c1] at h
                refine lv_bipush (pc := 90) (v := 11) hx hb dX5_wordValue_90 (by decide) ?_
                exact xreti (pc := 92) hx hb hr hlocks hP hK hE hS h dX5_wordValue_92
            · rw [if_neg c1] at h
              refine lv_bipush (pc := 76) (v := 10) hx hb dX5_wordValue_76 (by decide) ?_
              exact xreti (pc := 78) hx hb hr hlocks hP hK hE hS h dX5_wordValue_78
          · rw [if_neg c1] at h
            refine lv_iconst (pc := 63) (v := 5) hx hb dX5_wordValue_63 (by decide) ?_
            exact xreti (pc := 64) hx hb hr hlocks hP hK hE hS h dX5_wordValue_64
        · rw [if_neg c1] at h
          refine lv_iconst (pc := 50) (v := 4) hx hb dX5_wordValue_50 (by decide) ?_
          exact xreti (pc := 51) hx hb hr hlocks hP hK hE hS h dX5_wordValue_51
      · rw [if_neg c1] at h
        refine lv_iconst (pc := 37) (v := 3) hx hb dX5_wordValue_37 (by decide) ?_
        exact xreti (pc := 38) hx hb hr hlocks hP hK hE hS h dX5_wordValue_38
    · rw [if_neg c1] at h
      refine lv_iconst (pc := 24) (v := 2) hx hb dX5_wordValue_24 (by decide) ?_
      exact xreti (pc := 25) hx hb hr hlocks hP hK hE hS h dX5_wordValue_25
  · rw [if_neg c1] at h
    refine lv_iconst (pc := 11) (v := 1) hx hb dX5_wordValue_11 (by decide) ?_
    exact xreti (pc := 12) hx hb hr hlocks hP hK hE hS h dX5_wordValue_12
def J_X5_splitWord_28 (N : Nat) (x0 : Nat) (x1 : Int32) (x2 : Int32) (x3 : Int32) (σ : zS) : Option (Int32 × zS) :=
  zl (gR 5 10 x0 σ) fun v2 =>
  zl (sI 14 v2 x1 2 σ) fun σ3 =>
  zl (gR 5 11 x0 σ3) fun v4 =>
  zl (gC 5 x0) fun _ => zb (f_X5_wordValue N x0 x2 x3 σ3) fun v5 σ6 =>
  zl (sI 14 v4 x1 v5 σ6) fun σ7 =>
  some (x3, σ7)
def F_X5_splitWord_2 (N : Nat) (x0 : Nat) (x1 : Int32) (x2 : Int32) (again2 : (Int32 × zS) → Option (Int32 × zS)) : Int32 × zS → Option (Int32 × zS)
  | (x3, σ) =>
  zl (gI 5 6 x0 σ) fun v1 =>
  if v1 ≤ x3 then
    (J_X5_splitWord_28 N x0 x1 x2 x3 σ)
  else
    (zl (gR 5 5 x0 σ) fun v8 =>
    zl (aI 13 v8 x3 σ) fun v9 =>
    zb (f_X5_isLetter N v9 σ) fun v10 σ11 =>
    if v10 = 0 then
      (J_X5_splitWord_28 N x0 x1 x2 x3 σ11)
    else
      (again2 (x3 + 1, σ11)))
def f_X5_splitWord (N : Nat) (x0 : Nat) (x1 : Int32) (x2 : Int32) (σ : zS) : Option (Int32 × zS) :=
  zlp (F_X5_splitWord_2 N x0 x1 x2) N (x2, σ)
set_option maxHeartbeats 4000000 in
set_option maxRecDepth 100000 in
theorem c_X5_splitWord (l : Launch) (D : va_G) (c : zC) (o : Nat) (g : zEp) (N : Nat) {x0 : Nat} {x1 : Int32} {x2 : Int32} {σ : zS} {ρ : Int32 × zS} (h : f_X5_splitWord N x0 x1 x2 σ = some ρ) : Met l yX5_splitWord zs_X5_splitWord (zr 18) (va_Pc [.ref (o + x0), .int x1, .int x2] (zG D c o g σ)) (zQi D c o g ρ) 0 0 (zA o) := by
  refine zMetG (by decide) (Nat.le_of_ble_eq_true rfl) ?_
  intro p e s m below meth cd ⟨hx, hb, hr, hml, hown, hts, hlocks⟩ hP hK hE ls hl
  have hS : va_S (zA o) s.heap s.heap [] := va_S.rf
  have hl : lv_has ls 4 [(0, .ref (o + x0)), (1, .int x1), (2, .int x2)] := hl
  rw [f_X5_splitWord.eq_1] at h
  refine lv_iload_n (pc := 0) hx hb dX5_splitWord_0 rfl (lv_at hl 2 rfl) ?_
  refine lv_istore_n (pc := 1) (lv' := [(3, .int x2), (0, .ref (o + x0)), (1, .int x1), (2, .int x2)]) hx hb dX5_splitWord_1 rfl hl (by decide) rfl (fun ls hl => ?_)
  have L2_1 : ∀ (n : Nat) (t : Int32 × zS), zlp (F_X5_splitWord_2 N x0 x1 x2) n t = some ρ → ∀ (H : Heap) (locs : List Loc) (ls : Array Slot), zP D c o (zabs o (t.2)) H → va_S (zA o) s.heap H locs → lv_has ls 4 [(3, .int (t.1)), (0, .ref (o + x0)), (1, .int x1), (2, .int x2)] → W p l e (zr 18) s m (([.ref (o + x0), .int x1, .int x2] : List Value).toArray) below meth cd H locs 0 0 (MQ below (zQi D c o g ρ) (([.ref (o + x0), .int x1, .int x2] : List Value).toArray) s 0 0 (zA o)) (F0 m 2 ls []) := by
    refine zlp_ind (fun ag1 ih1 t h H locs ls hP hS hl => ?_)
    obtain ⟨x3_1, σ1⟩ := t
    have hP : zP D c o (zabs o σ1) H := hP
    have hl : lv_has ls 4 [(3, .int x3_1), (0, .ref (o + x0)), (1, .int x1), (2, .int x2)] := hl
    rw [F_X5_splitWord_2.eq_1] at h
    show W p l e (zr 18) s m (([.ref (o + x0), .int x1, .int x2] : List Value).toArray) below meth cd H locs 0 0 (MQ below (zQi D c o g ρ) (([.ref (o + x0), .int x1, .int x2] : List Value).toArray) s 0 0 (zA o)) (F0 m 2 ls [])
    refine lv_iload_n (pc := 2) hx hb dX5_splitWord_2 rfl (lv_at hl 0 rfl) ?_
    refine lv_aload_n (pc := 3) hx hb dX5_splitWord_3 rfl (lv_at hl 1 rfl) ?_
    obtain ⟨v2, hv, h⟩ := zl_some h
    refine xgI (pc := 4) (j := 6) zc5 hx hb hts hown hK hP hv rfl zf_X5_32 dX5_splitWord_4 ?_
    have hj28_3 : ∀ (x3_3 : Int32) (σ3 : zS), J_X5_splitWord_28 N x0 x1 x2 x3_3 σ3 = some ρ → ∀ (H : Heap) (locs : List Loc) (ls : Array Slot), zP D c o (zabs o σ3) H → va_S (zA o) s.heap H locs → lv_has ls 4 [(3, .int x3_3), (0, .ref (o + x0)), (1, .int x1), (2, .int x2)] → W p l e (zr 18) s m (([.ref (o + x0), .int x1, .int x2] : List Value).toArray) below meth cd H locs 0 0 (MQ below (zQi D c o g ρ) (([.ref (o + x0), .int x1, .int x2] : List Value).toArray) s 0 0 (zA o)) (F0 m 28 ls []) := by
      intro x3_3 σ3 h H locs ls hP hS hl
      rw [J_X5_splitWord_28.eq_1] at h
      refine lv_aload_n (pc := 28) hx hb dX5_splitWord_28 rfl (lv_at hl 1 rfl) ?_
      obtain ⟨v4, hv, h⟩ := zl_some h
      refine xgR (pc := 29) (j := 10) zc5 hx hb hts hown hK hP hv rfl zf_X5_44 dX5_splitWord_29 ?_
      refine lv_iload_n (pc := 32) hx hb dX5_splitWord_32 rfl (lv_at hl 2 rfl) ?_
      refine lv_iconst (pc := 33) (v := 2) hx hb dX5_splitWord_33 (by decide) ?_
      obtain ⟨σ5, hv, h⟩ := zl_some h
      refine xsI (pc := 34) hx hb hK hP hS hv dX5_splitWord_34 (fun H locs hP hS => ?_)
      refine lv_aload_n (pc := 35) hx hb dX5_splitWord_35 rfl (lv_at hl 1 rfl) ?_
      obtain ⟨v6, hv, h⟩ := zl_some h
      refine xgR (pc := 36) (j := 11) zc5 hx hb hts hown hK hP hv rfl zf_X5_47 dX5_splitWord_36 ?_
      refine lv_iload_n (pc := 39) hx hb dX5_splitWord_39 rfl (lv_at hl 2 rfl) ?_
      refine lv_aload_n (pc := 40) hx hb dX5_splitWord_40 rfl (lv_at hl 1 rfl) ?_
      refine lv_iload_n (pc := 41) hx hb dX5_splitWord_41 rfl (lv_at hl 3 rfl) ?_
      refine lv_iload_n (pc := 42) hx hb dX5_splitWord_42 rfl (lv_at hl 0 rfl) ?_
      obtain ⟨_, hg, h⟩ := zl_some h
      obtain ⟨v7, σ8, hv, h⟩ := zb_some h
      refine xcallVi (pc := 43) (As := [.int x2, .int x3_3]) (rest := [.int x1, .ref (o + v6)]) ⟨hx, hb, hml, hown, hts⟩ (c_X5_wordValue l D c o g N hv) zc5 zV_X5_107 rfl zd_X5_wordValue ⟨Nat.le_of_ble_eq_true rfl, Nat.le_of_ble_eq_true rfl⟩ hK hP hE hS hg hl.1 rfl (Nat.le_of_ble_eq_true rfl) ⟨Nat.zero_le _, Nat.zero_le _⟩ dX5_splitWord_43 (fun H locs hP hS => ?_)
      obtain ⟨σ9, hv, h⟩ := zl_some h
      refine xsI (pc := 46) hx hb hK hP hS hv dX5_splitWord_46 (fun H locs hP hS => ?_)
      refine lv_iload_n (pc := 47) hx hb dX5_splitWord_47 rfl (lv_at hl 0 rfl) ?_
      exact xreti (pc := 48) hx hb hr hlocks hP hK hE hS h dX5_splitWord_48
    refine lv_icmp_ge (pc := 7) (tgt := 28) hx hb dX5_splitWord_7 (by decide) (fun c1 => ?_) (fun c1 => ?_)
    · rw [if_pos c1] at h
      exact hj28_3 (x3_1) σ1 h _ _ ls hP hS (lv_sub hl [0, 1, 2, 3] rfl)
    · rw [if_neg c1] at h
      refine lv_aload_n (pc := 10) hx hb dX5_splitWord_10 rfl (lv_at hl 1 rfl) ?_
      obtain ⟨v10, hv, h⟩ := zl_some h
      refine xgR (pc := 11) (j := 5) zc5 hx hb hts hown hK hP hv rfl zf_X5_28 dX5_splitWord_11 ?_
      refine lv_iload_n (pc := 14) hx hb dX5_splitWord_14 rfl (lv_at hl 0 rfl) ?_
      obtain ⟨v11, hv, h⟩ := zl_some h
      refine xaB (pc := 15) hx hb hK hP hv dX5_splitWord_15 ?_
      obtain ⟨v12, σ13, hv, h⟩ := zb_some h
      refine xcallSi (pc := 16) (As := [.int v11]) (rest := []) ⟨hx, hb, hml, hown, hts⟩ (c_X5_isLetter l D c o g N hv) zT_X5_92 rfl zd_X5_isLetter ⟨Nat.le_of_ble_eq_true rfl, Nat.le_of_ble_eq_true rfl⟩ hK hP hE hS hl.1 rfl (Nat.le_of_ble_eq_true rfl) ⟨Nat.zero_le _, Nat.zero_le _⟩ dX5_splitWord_16 (fun H locs hP hS => ?_)
      refine lv_if_eq (pc := 19) (tgt := 28) hx hb dX5_splitWord_19 (by decide) (fun c1 => ?_) (fun c1 => ?_)
      · rw [if_pos c1] at h
        exact hj28_3 (x3_1) σ13 h _ _ ls hP hS (lv_sub hl [0, 1, 2, 3] rfl)
      · rw [if_neg c1] at h
        refine lv_iinc (pc := 22) (v := x3_1 + 1) (lv' := [(3, .int (x3_1 + 1)), (0, .ref (o + x0)), (1, .int x1), (2, .int x2)]) hx hb dX5_splitWord_22 hl (k := 0) rfl rfl (by decide) rfl (fun ls hl => ?_)
        refine lv_goto (pc := 25) (tgt := 2) hx hb dX5_splitWord_25 (by decide) ?_
        exact ih1 (x3_1 + 1, σ13) h _ _ ls hP hS (lv_sub hl [0, 1, 2, 3] rfl)
  exact L2_1 N (x2, σ) h _ _ ls hP hS (lv_sub hl [0, 1, 2, 3] rfl)
def J_X5_split_142 (N : Nat) (x0 : Nat) (x1 : Int32) (σ : zS) : Option (Unit × zS) :=
  zl (gR 5 10 x0 σ) fun v2 =>
  zl (sI 14 v2 x1 0 σ) fun σ3 =>
  zl (gR 5 12 x0 σ3) fun v4 =>
  zl (gI 5 6 x0 σ3) fun v5 =>
  zl (sI 14 v4 x1 v5 σ3) fun σ6 =>
  zl (gR 5 13 x0 σ6) fun v7 =>
  zl (gI 5 6 x0 σ6) fun v8 =>
  zl (sI 14 v7 x1 v8 σ6) fun σ9 =>
  some ((), σ9)
def F_X5_split_4 (N : Nat) (x0 : Nat) (again4 : (Int32 × Int32 × zS) → Option (Unit × zS)) : Int32 × Int32 × zS → Option (Unit × zS)
  | (x1, x2, σ) =>
  zl (gI 5 6 x0 σ) fun v1 =>
  if v1 ≤ x2 then
    (J_X5_split_142 N x0 x1 σ)
  else
    (if 600 ≤ x1 then
      (J_X5_split_142 N x0 x1 σ)
    else
      (zl (gR 5 5 x0 σ) fun v10 =>
      zl (aI 13 v10 x2 σ) fun v11 =>
      if v11 = 32 then
        (again4 (x1, x2 + 1, σ))
      else
        (zl (gR 5 5 x0 σ) fun v12 =>
        zl (aI 13 v12 x2 σ) fun v13 =>
        if v13 = 10 then
          (again4 (x1, x2 + 1, σ))
        else
          (zl (gR 5 12 x0 σ) fun v14 =>
          zl (sI 14 v14 x1 x2 σ) fun σ15 =>
          zl (gR 5 5 x0 σ15) fun v16 =>
          zl (aI 13 v16 x2 σ15) fun v17 =>
          zb (f_X5_isLetter N v17 σ15) fun v18 σ19 =>
          if v18 = 0 then
            (zl (gR 5 5 x0 σ19) fun v20 =>
            zl (aI 13 v20 x2 σ19) fun v21 =>
            zb (f_X5_isDigit N v21 σ19) fun v22 σ23 =>
            if v22 = 0 then
              (zl (gR 5 10 x0 σ23) fun v24 =>
              zl (gR 5 5 x0 σ23) fun v25 =>
              zl (aI 13 v25 x2 σ23) fun v26 =>
              zb (f_X5_isSign N v26 σ23) fun v27 σ28 =>
              if v27 = 0 then
                (zl (sI 14 v24 x1 1 σ28) fun σ29 =>
                zl (gR 5 13 x0 σ29) fun v30 =>
                zl (sI 14 v30 x1 (x2 + 1) σ29) fun σ31 =>
                again4 (x1 + 1, x2 + 1, σ31))
              else
                (zl (gR 5 5 x0 σ28) fun v32 =>
                zl (aI 13 v32 x2 σ28) fun v33 =>
                zl (sI 14 v24 x1 v33 σ28) fun σ34 =>
                zl (gR 5 13 x0 σ34) fun v35 =>
                zl (sI 14 v35 x1 (x2 + 1) σ34) fun σ36 =>
                again4 (x1 + 1, x2 + 1, σ36)))
            else
              (zl (gC 5 x0) fun _ => zb (f_X5_splitNumber N x0 x1 x2 σ23) fun v37 σ38 =>
              zl (gR 5 13 x0 σ38) fun v39 =>
              zl (sI 14 v39 x1 v37 σ38) fun σ40 =>
              again4 (x1 + 1, v37, σ40)))
          else
            (zl (gC 5 x0) fun _ => zb (f_X5_splitWord N x0 x1 x2 σ19) fun v41 σ42 =>
            zl (gR 5 13 x0 σ42) fun v43 =>
            zl (sI 14 v43 x1 v41 σ42) fun σ44 =>
            again4 (x1 + 1, v41, σ44))))))
def f_X5_split (N : Nat) (x0 : Nat) (σ : zS) : Option (Unit × zS) :=
  zlp (F_X5_split_4 N x0) N (0, 0, σ)
set_option maxHeartbeats 4000000 in
set_option maxRecDepth 100000 in
theorem c_X5_split (l : Launch) (D : va_G) (c : zC) (o : Nat) (g : zEp) (N : Nat) {x0 : Nat} {σ : zS} {ρ : Unit × zS} (h : f_X5_split N x0 σ = some ρ) : Met l yX5_split zs_X5_split (zr 20) (va_Pc [.ref (o + x0)] (zG D c o g σ)) (zQu D c o g ρ) 0 0 (zA o) := by
  refine zMetG (by decide) (Nat.le_of_ble_eq_true rfl) ?_
  intro p e s m below meth cd ⟨hx, hb, hr, hml, hown, hts, hlocks⟩ hP hK hE ls hl
  have hS : va_S (zA o) s.heap s.heap [] := va_S.rf
  have hl : lv_has ls 3 [(0, .ref (o + x0))] := hl
  rw [f_X5_split.eq_1] at h
  refine lv_iconst (pc := 0) (v := 0) hx hb dX5_split_0 (by decide) ?_
  refine lv_istore_n (pc := 1) (lv' := [(1, .int 0), (0, .ref (o + x0))]) hx hb dX5_split_1 rfl hl (by decide) rfl (fun ls hl => ?_)
  refine lv_iconst (pc := 2) (v := 0) hx hb dX5_split_2 (by decide) ?_
  refine lv_istore_n (pc := 3) (lv' := [(2, .int 0), (1, .int 0), (0, .ref (o + x0))]) hx hb dX5_split_3 rfl hl (by decide) rfl (fun ls hl => ?_)
  have L4_1 : ∀ (n : Nat) (t : Int32 × Int32 × zS), zlp (F_X5_split_4 N x0) n t = some ρ → ∀ (H : Heap) (locs : List Loc) (ls : Array Slot), zP D c o (zabs o (t.2.2)) H → va_S (zA o) s.heap H locs → lv_has ls 3 [(1, .int (t.1)), (2, .int (t.2.1)), (0, .ref (o + x0))] → W p l e (zr 20) s m (([.ref (o + x0)] : List Value).toArray) below meth cd H locs 0 0 (MQ below (zQu D c o g ρ) (([.ref (o + x0)] : List Value).toArray) s 0 0 (zA o)) (F0 m 4 ls []) := by
    refine zlp_ind (fun ag1 ih1 t h H locs ls hP hS hl => ?_)
    obtain ⟨x1_1, x2_1, σ1⟩ := t
    have hP : zP D c o (zabs o σ1) H := hP
    have hl : lv_has ls 3 [(1, .int x1_1), (2, .int x2_1), (0, .ref (o + x0))] := hl
    rw [F_X5_split_4.eq_1] at h
    show W p l e (zr 20) s m (([.ref (o + x0)] : List Value).toArray) below meth cd H locs 0 0 (MQ below (zQu D c o g ρ) (([.ref (o + x0)] : List Value).toArray) s 0 0 (zA o)) (F0 m 4 ls [])
    refine lv_iload_n (pc := 4) hx hb dX5_split_4 rfl (lv_at hl 1 rfl) ?_
    refine lv_aload_n (pc := 5) hx hb dX5_split_5 rfl (lv_at hl 2 rfl) ?_
    obtain ⟨v2, hv, h⟩ := zl_some h
    refine xgI (pc := 6) (j := 6) zc5 hx hb hts hown hK hP hv rfl zf_X5_32 dX5_split_6 ?_
    have hj142_3 : ∀ (x1_3 : Int32) (σ3 : zS), J_X5_split_142 N x0 x1_3 σ3 = some ρ → ∀ (H : Heap) (locs : List Loc) (ls : Array Slot), zP D c o (zabs o σ3) H → va_S (zA o) s.heap H locs → lv_has ls 3 [(1, .int x1_3), (0, .ref (o + x0))] → W p l e (zr 20) s m (([.ref (o + x0)] : List Value).toArray) below meth cd H locs 0 0 (MQ below (zQu D c o g ρ) (([.ref (o + x0)] : List Value).toArray) s 0 0 (zA o)) (F0 m 142 ls []) := by
      intro x1_3 σ3 h H locs ls hP hS hl
      rw [J_X5_split_142.eq_1] at h
      refine lv_aload_n (pc := 142) hx hb dX5_split_142 rfl (lv_at hl 1 rfl) ?_
      obtain ⟨v4, hv, h⟩ := zl_some h
      refine xgR (pc := 143) (j := 10) zc5 hx hb hts hown hK hP hv rfl zf_X5_44 dX5_split_143 ?_
      refine lv_iload_n (pc := 146) hx hb dX5_split_146 rfl (lv_at hl 0 rfl) ?_
      refine lv_iconst (pc := 147) (v := 0) hx hb dX5_split_147 (by decide) ?_
      obtain ⟨σ5, hv, h⟩ := zl_some h
      refine xsI (pc := 148) hx hb hK hP hS hv dX5_split_148 (fun H locs hP hS => ?_)
      refine lv_aload_n (pc := 149) hx hb dX5_split_149 rfl (lv_at hl 1 rfl) ?_
      obtain ⟨v6, hv, h⟩ := zl_some h
      refine xgR (pc := 150) (j := 12) zc5 hx hb hts hown hK hP hv rfl zf_X5_50 dX5_split_150 ?_
      refine lv_iload_n (pc := 153) hx hb dX5_split_153 rfl (lv_at hl 0 rfl) ?_
      refine lv_aload_n (pc := 154) hx hb dX5_split_154 rfl (lv_at hl 1 rfl) ?_
      obtain ⟨v7, hv, h⟩ := zl_some h
      refine xgI (pc := 155) (j := 6) zc5 hx hb hts hown hK hP hv rfl zf_X5_32 dX5_split_155 ?_
      obtain ⟨σ8, hv, h⟩ := zl_some h
      refine xsI (pc := 158) hx hb hK hP hS hv dX5_split_158 (fun H locs hP hS => ?_)
      refine lv_aload_n (pc := 159) hx hb dX5_split_159 rfl (lv_at hl 1 rfl) ?_
      obtain ⟨v9, hv, h⟩ := zl_some h
      refine xgR (pc := 160) (j := 13) zc5 hx hb hts hown hK hP hv rfl zf_X5_53 dX5_split_160 ?_
      refine lv_iload_n (pc := 163) hx hb dX5_split_163 rfl (lv_at hl 0 rfl) ?_
      refine lv_aload_n (pc := 164) hx hb dX5_split_164 rfl (lv_at hl 1 rfl) ?_
      obtain ⟨v10, hv, h⟩ := zl_some h
      refine xgI (pc := 165) (j := 6) zc5 hx hb hts hown hK hP hv rfl zf_X5_32 dX5_split_165 ?_
      obtain ⟨σ11, hv, h⟩ := zl_some h
      refine xsI (pc := 168) hx hb hK hP hS hv dX5_split_168 (fun H locs hP hS => ?_)
      exact xretv (pc := 169) hx hb hr hlocks hP hK hE hS h dX5_split_169
    refine lv_icmp_ge (pc := 9) (tgt := 142) hx hb dX5_split_9 (by decide) (fun c1 => ?_) (fun c1 => ?_)
    · rw [if_pos c1] at h
      exact hj142_3 (x1_1) σ1 h _ _ ls hP hS (lv_sub hl [0, 2] rfl)
    · rw [if_neg c1] at h
      refine lv_iload_n (pc := 12) hx hb dX5_split_12 rfl (lv_at hl 0 rfl) ?_
      refine lv_sipush (pc := 13) (v := 600) hx hb dX5_split_13 (by decide) ?_
      refine lv_icmp_ge (pc := 16) (tgt := 142) hx hb dX5_split_16 (by decide) (fun c1 => ?_) (fun c1 => ?_)
      · rw [if_pos c1] at h
        exact hj142_3 (x1_1) σ1 h _ _ ls hP hS (lv_sub hl [0, 2] rfl)
      · rw [if_neg c1] at h
        refine lv_aload_n (pc := 19) hx hb dX5_split_19 rfl (lv_at hl 2 rfl) ?_
        obtain ⟨v12, hv, h⟩ := zl_some h
        refine xgR (pc := 20) (j := 5) zc5 hx hb hts hown hK hP hv rfl zf_X5_28 dX5_split_20 ?_
        refine lv_iload_n (pc := 23) hx hb dX5_split_23 rfl (lv_at hl 1 rfl) ?_
        obtain ⟨v13, hv, h⟩ := zl_some h
        refine xaB (pc := 24) hx hb hK hP hv dX5_split_24 ?_
        refine lv_bipush (pc := 25) (v := 32) hx hb dX5_split_25 (by decide) ?_
        refine lv_icmp_eq (pc := 27) (tgt := 41) hx hb dX5_split_27 (by decide) (fun c1 => ?_) (fun c1 => ?_)
        · rw [if_pos c1] at h
          refine lv_iinc (pc := 41) (v := x2_1 + 1) (lv' := [(2, .int (x2_1 + 1)), (1, .int x1_1), (0, .ref (o + x0))]) hx hb dX5_split_41 hl (k := 1) rfl rfl (by decide) rfl (fun ls hl => ?_)
          refine lv_goto (pc := 44) (tgt := 4) hx hb dX5_split_44 (by decide) ?_
          exact ih1 (x1_1, x2_1 + 1, σ1) h _ _ ls hP hS (lv_sub hl [1, 0, 2] rfl)
        · rw [if_neg c1] at h
          refine lv_aload_n (pc := 30) hx hb dX5_split_30 rfl (lv_at hl 2 rfl) ?_
          obtain ⟨v14, hv, h⟩ := zl_some h
          refine xgR (pc := 31) (j := 5) zc5 hx hb hts hown hK hP hv rfl zf_X5_28 dX5_split_31 ?_
          refine lv_iload_n (pc := 34) hx hb dX5_split_34 rfl (lv_at hl 1 rfl) ?_
          obtain ⟨v15, hv, h⟩ := zl_some h
          refine xaB (pc := 35) hx hb hK hP hv dX5_split_35 ?_
          refine lv_bipush (pc := 36) (v := 10) hx hb dX5_split_36 (by decide) ?_
          refine lv_icmp_ne (pc := 38) (tgt := 47) hx hb dX5_split_38 (by decide) (fun c1 => ?_) (fun c1 => ?_)
          · rw [if_neg c1] at h
            refine lv_aload_n (pc := 47) hx hb dX5_split_47 rfl (lv_at hl 2 rfl) ?_
            obtain ⟨v16, hv, h⟩ := zl_some h
            refine xgR (pc := 48) (j := 12) zc5 hx hb hts hown hK hP hv rfl zf_X5_50 dX5_split_48 ?_
            refine lv_iload_n (pc := 51) hx hb dX5_split_51 rfl (lv_at hl 0 rfl) ?_
            refine lv_iload_n (pc := 52) hx hb dX5_split_52 rfl (lv_at hl 1 rfl) ?_
            obtain ⟨σ17, hv, h⟩ := zl_some h
            refine xsI (pc := 53) hx hb hK hP hS hv dX5_split_53 (fun H locs hP hS => ?_)
            refine lv_aload_n (pc := 54) hx hb dX5_split_54 rfl (lv_at hl 2 rfl) ?_
            obtain ⟨v18, hv, h⟩ := zl_some h
            refine xgR (pc := 55) (j := 5) zc5 hx hb hts hown hK hP hv rfl zf_X5_28 dX5_split_55 ?_
            refine lv_iload_n (pc := 58) hx hb dX5_split_58 rfl (lv_at hl 1 rfl) ?_
            obtain ⟨v19, hv, h⟩ := zl_some h
            refine xaB (pc := 59) hx hb hK hP hv dX5_split_59 ?_
            obtain ⟨v20, σ21, hv, h⟩ := zb_some h
            refine xcallSi (pc := 60) (As := [.int v19]) (rest := []) ⟨hx, hb, hml, hown, hts⟩ (c_X5_isLetter l D c o g N hv) zT_X5_92 rfl zd_X5_isLetter ⟨Nat.le_of_ble_eq_true rfl, Nat.le_of_ble_eq_true rfl⟩ hK hP hE hS hl.1 rfl (Nat.le_of_ble_eq_true rfl) ⟨Nat.zero_le _, Nat.zero_le _⟩ dX5_split_60 (fun H locs hP hS => ?_)
            refine lv_if_eq (pc := 63) (tgt := 76) hx hb dX5_split_63 (by decide) (fun c1 => ?_) (fun c1 => ?_)
            · rw [if_pos c1] at h
              refine lv_aload_n (pc := 76) hx hb dX5_split_76 rfl (lv_at hl 2 rfl) ?_
              obtain ⟨v22, hv, h⟩ := zl_some h
              refine xgR (pc := 77) (j := 5) zc5 hx hb hts hown hK hP hv rfl zf_X5_28 dX5_split_77 ?_
              refine lv_iload_n (pc := 80) hx hb dX5_split_80 rfl (lv_at hl 1 rfl) ?_
              obtain ⟨v23, hv, h⟩ := zl_some h
              refine xaB (pc := 81) hx hb hK hP hv dX5_split_81 ?_
              obtain ⟨v24, σ25, hv, h⟩ := zb_some h
              refine xcallSi (pc := 82) (As := [.int v23]) (rest := []) ⟨hx, hb, hml, hown, hts⟩ (c_X5_isDigit l D c o g N hv) zT_X5_98 rfl zd_X5_isDigit ⟨Nat.le_of_ble_eq_true rfl, Nat.le_of_ble_eq_true rfl⟩ hK hP hE hS hl.1 rfl (Nat.le_of_ble_eq_true rfl) ⟨Nat.zero_le _, Nat.zero_le _⟩ dX5_split_82 (fun H locs hP hS => ?_)
              refine lv_if_eq (pc := 85) (tgt := 98) hx hb dX5_split_85 (by decide) (fun c1 => ?_) (fun c1 => ?_)
              · rw [if_pos c1] at h
                refine lv_aload_n (pc := 98) hx hb dX5_split_98 rfl (lv_at hl 2 rfl) ?_
                obtain ⟨v26, hv, h⟩ := zl_some h
                refine xgR (pc := 99) (j := 10) zc5 hx hb hts hown hK hP hv rfl zf_X5_44 dX5_split_99 ?_
                refine lv_iload_n (pc := 102) hx hb dX5_split_102 rfl (lv_at hl 0 rfl) ?_
                refine lv_aload_n (pc := 103) hx hb dX5_split_103 rfl (lv_at hl 2 rfl) ?_
                obtain ⟨v27, hv, h⟩ := zl_some h
                refine xgR (pc := 104) (j := 5) zc5 hx hb hts hown hK hP hv rfl zf_X5_28 dX5_split_104 ?_
                refine lv_iload_n (pc := 107) hx hb dX5_split_107 rfl (lv_at hl 1 rfl) ?_
                obtain ⟨v28, hv, h⟩ := zl_some h
                refine xaB (pc := 108) hx hb hK hP hv dX5_split_108 ?_
                obtain ⟨v29, σ30, hv, h⟩ := zb_some h
                refine xcallSi (pc := 109) (As := [.int v28]) (rest := [.int x1_1, .ref (o + v26)]) ⟨hx, hb, hml, hown, hts⟩ (c_X5_isSign l D c o g N hv) zT_X5_104 rfl zd_X5_isSign ⟨Nat.le_of_ble_eq_true rfl, Nat.le_of_ble_eq_true rfl⟩ hK hP hE hS hl.1 rfl (Nat.le_of_ble_eq_true rfl) ⟨Nat.zero_le _, Nat.zero_le _⟩ dX5_split_109 (fun H locs hP hS => ?_)
                refine lv_if_eq (pc := 112) (tgt := 124) hx hb dX5_split_112 (by decide) (fun c1 => ?_) (fun c1 => ?_)
                · rw [if_pos c1] at h
                  refine lv_iconst (pc := 124) (v := 1) hx hb dX5_split_124 (by decide) ?_
                  obtain ⟨σ31, hv, h⟩ := zl_some h
                  refine xsI (pc := 125) hx hb hK hP hS hv dX5_split_125 (fun H locs hP hS => ?_)
                  refine lv_iinc (pc := 126) (v := x2_1 + 1) (lv' := [(2, .int (x2_1 + 1)), (1, .int x1_1), (0, .ref (o + x0))]) hx hb dX5_split_126 hl (k := 1) rfl rfl (by decide) rfl (fun ls hl => ?_)
                  refine lv_aload_n (pc := 129) hx hb dX5_split_129 rfl (lv_at hl 2 rfl) ?_
                  obtain ⟨v32, hv, h⟩ := zl_some h
                  refine xgR (pc := 130) (j := 13) zc5 hx hb hts hown hK hP hv rfl zf_X5_53 dX5_split_130 ?_
                  refine lv_iload_n (pc := 133) hx hb dX5_split_133 rfl (lv_at hl 1 rfl) ?_
                  refine lv_iload_n (pc := 134) hx hb dX5_split_134 rfl (lv_at hl 0 rfl) ?_
                  obtain ⟨σ33, hv, h⟩ := zl_some h
                  refine xsI (pc := 135) hx hb hK hP hS hv dX5_split_135 (fun H locs hP hS => ?_)
                  refine lv_iinc (pc := 136) (v := x1_1 + 1) (lv' := [(1, .int (x1_1 + 1)), (2, .int (x2_1 + 1)), (0, .ref (o + x0))]) hx hb dX5_split_136 hl (k := 1) rfl rfl (by decide) rfl (fun ls hl => ?_)
                  refine lv_goto (pc := 139) (tgt := 4) hx hb dX5_split_139 (by decide) ?_
                  exact ih1 (x1_1 + 1, x2_1 + 1, σ33) h _ _ ls hP hS (lv_sub hl [0, 1, 2] rfl)
                · rw [if_neg c1] at h
                  refine lv_aload_n (pc := 115) hx hb dX5_split_115 rfl (lv_at hl 2 rfl) ?_
                  obtain ⟨v34, hv, h⟩ := zl_some h
                  refine xgR (pc := 116) (j := 5) zc5 hx hb hts hown hK hP hv rfl zf_X5_28 dX5_split_116 ?_
                  refine lv_iload_n (pc := 119) hx hb dX5_split_119 rfl (lv_at hl 1 rfl) ?_
                  obtain ⟨v35, hv, h⟩ := zl_some h
                  refine xaB (pc := 120) hx hb hK hP hv dX5_split_120 ?_
                  refine lv_goto (pc := 121) (tgt := 125) hx hb dX5_split_121 (by decide) ?_
                  obtain ⟨σ36, hv, h⟩ := zl_some h
                  refine xsI (pc := 125) hx hb hK hP hS hv dX5_split_125 (fun H locs hP hS => ?_)
                  refine lv_iinc (pc := 126) (v := x2_1 + 1) (lv' := [(2, .int (x2_1 + 1)), (1, .int x1_1), (0, .ref (o + x0))]) hx hb dX5_split_126 hl (k := 1) rfl rfl (by decide) rfl (fun ls hl => ?_)
                  refine lv_aload_n (pc := 129) hx hb dX5_split_129 rfl (lv_at hl 2 rfl) ?_
                  obtain ⟨v37, hv, h⟩ := zl_some h
                  refine xgR (pc := 130) (j := 13) zc5 hx hb hts hown hK hP hv rfl zf_X5_53 dX5_split_130 ?_
                  refine lv_iload_n (pc := 133) hx hb dX5_split_133 rfl (lv_at hl 1 rfl) ?_
                  refine lv_iload_n (pc := 134) hx hb dX5_split_134 rfl (lv_at hl 0 rfl) ?_
                  obtain ⟨σ38, hv, h⟩ := zl_some h
                  refine xsI (pc := 135) hx hb hK hP hS hv dX5_split_135 (fun H locs hP hS => ?_)
                  refine lv_iinc (pc := 136) (v := x1_1 + 1) (lv' := [(1, .int (x1_1 + 1)), (2, .int (x2_1 + 1)), (0, .ref (o + x0))]) hx hb dX5_split_136 hl (k := 1) rfl rfl (by decide) rfl (fun ls hl => ?_)
                  refine lv_goto (pc := 139) (tgt := 4) hx hb dX5_split_139 (by decide) ?_
                  exact ih1 (x1_1 + 1, x2_1 + 1, σ38) h _ _ ls hP hS (lv_sub hl [0, 1, 2] rfl)
              · rw [if_neg c1] at h
                refine lv_aload_n (pc := 88) hx hb dX5_split_88 rfl (lv_at hl 2 rfl) ?_
                refine lv_iload_n (pc := 89) hx hb dX5_split_89 rfl (lv_at hl 0 rfl) ?_
                refine lv_iload_n (pc := 90) hx hb dX5_split_90 rfl (lv_at hl 1 rfl) ?_
                obtain ⟨_, hg, h⟩ := zl_some h
                obtain ⟨v39, σ40, hv, h⟩ := zb_some h
                refine xcallVi (pc := 91) (As := [.int x1_1, .int x2_1]) (rest := []) ⟨hx, hb, hml, hown, hts⟩ (c_X5_splitNumber l D c o g N hv) zc5 zV_X5_101 rfl zd_X5_splitNumber ⟨Nat.le_of_ble_eq_true rfl, Nat.le_of_ble_eq_true rfl⟩ hK hP hE hS hg hl.1 rfl (Nat.le_of_ble_eq_true rfl) ⟨Nat.zero_le _, Nat.zero_le _⟩ dX5_split_91 (fun H locs hP hS => ?_)
                refine lv_istore_n (pc := 94) (lv' := [(2, .int v39), (1, .int x1_1), (0, .ref (o + x0))]) hx hb dX5_split_94 rfl hl (by decide) rfl (fun ls hl => ?_)
                refine lv_goto (pc := 95) (tgt := 129) hx hb dX5_split_95 (by decide) ?_
                refine lv_aload_n (pc := 129) hx hb dX5_split_129 rfl (lv_at hl 2 rfl) ?_
                obtain ⟨v41, hv, h⟩ := zl_some h
                refine xgR (pc := 130) (j := 13) zc5 hx hb hts hown hK hP hv rfl zf_X5_53 dX5_split_130 ?_
                refine lv_iload_n (pc := 133) hx hb dX5_split_133 rfl (lv_at hl 1 rfl) ?_
                refine lv_iload_n (pc := 134) hx hb dX5_split_134 rfl (lv_at hl 0 rfl) ?_
                obtain ⟨σ42, hv, h⟩ := zl_some h
                refine xsI (pc := 135) hx hb hK hP hS hv dX5_split_135 (fun H locs hP hS => ?_)
                refine lv_iinc (pc := 136) (v := x1_1 + 1) (lv' := [(1, .int (x1_1 + 1)), (2, .int v39), (0, .ref (o + x0))]) hx hb dX5_split_136 hl (k := 1) rfl rfl (by decide) rfl (fun ls hl => ?_)
                refine lv_goto (pc := 139) (tgt := 4) hx hb dX5_split_139 (by decide) ?_
                exact ih1 (x1_1 + 1, v39, σ42) h _ _ ls hP hS (lv_sub hl [0, 1, 2] rfl)
            · rw [if_neg c1] at h
              refine lv_aload_n (pc := 66) hx hb dX5_split_66 rfl (lv_at hl 2 rfl) ?_
              refine lv_iload_n (pc := 67) hx hb dX5_split_67 rfl (lv_at hl 0 rfl) ?_
              refine lv_iload_n (pc := 68) hx hb dX5_split_68 rfl (lv_at hl 1 rfl) ?_
              obtain ⟨_, hg, h⟩ := zl_some h
              obtain ⟨v43, σ44, hv, h⟩ := zb_some h
              refine xcallVi (pc := 69) (As := [.int x1_1, .int x2_1]) (rest := []) ⟨hx, hb, hml, hown, hts⟩ (c_X5_splitWord l D c o g N hv) zc5 zV_X5_95 rfl zd_X5_splitWord ⟨Nat.le_of_ble_eq_true rfl, Nat.le_of_ble_eq_true rfl⟩ hK hP hE hS hg hl.1 rfl (Nat.le_of_ble_eq_true rfl) ⟨Nat.zero_le _, Nat.zero_le _⟩ dX5_split_69 (fun H locs hP hS => ?_)
              refine lv_istore_n (pc := 72) (lv' := [(2, .int v43), (1, .int x1_1), (0, .ref (o + x0))]) hx hb dX5_split_72 rfl hl (by decide) rfl (fun ls hl => ?_)
              refine lv_goto (pc := 73) (tgt := 129) hx hb dX5_split_73 (by decide) ?_
              refine lv_aload_n (pc := 129) hx hb dX5_split_129 rfl (lv_at hl 2 rfl) ?_
              obtain ⟨v45, hv, h⟩ := zl_some h
              refine xgR (pc := 130) (j := 13) zc5 hx hb hts hown hK hP hv rfl zf_X5_53 dX5_split_130 ?_
              refine lv_iload_n (pc := 133) hx hb dX5_split_133 rfl (lv_at hl 1 rfl) ?_
              refine lv_iload_n (pc := 134) hx hb dX5_split_134 rfl (lv_at hl 0 rfl) ?_
              obtain ⟨σ46, hv, h⟩ := zl_some h
              refine xsI (pc := 135) hx hb hK hP hS hv dX5_split_135 (fun H locs hP hS => ?_)
              refine lv_iinc (pc := 136) (v := x1_1 + 1) (lv' := [(1, .int (x1_1 + 1)), (2, .int v43), (0, .ref (o + x0))]) hx hb dX5_split_136 hl (k := 1) rfl rfl (by decide) rfl (fun ls hl => ?_)
              refine lv_goto (pc := 139) (tgt := 4) hx hb dX5_split_139 (by decide) ?_
              exact ih1 (x1_1 + 1, v43, σ46) h _ _ ls hP hS (lv_sub hl [0, 1, 2] rfl)
          · rw [if_pos c1] at h
            refine lv_iinc (pc := 41) (v := x2_1 + 1) (lv' := [(2, .int (x2_1 + 1)), (1, .int x1_1), (0, .ref (o + x0))]) hx hb dX5_split_41 hl (k := 1) rfl rfl (by decide) rfl (fun ls hl => ?_)
            refine lv_goto (pc := 44) (tgt := 4) hx hb dX5_split_44 (by decide) ?_
            exact ih1 (x1_1, x2_1 + 1, σ1) h _ _ ls hP hS (lv_sub hl [1, 0, 2] rfl)
  exact L4_1 N (0, 0, σ) h _ _ ls hP hS (lv_sub hl [1, 0, 2] rfl)
def f_X5_open (N : Nat) (x0 : Nat) (x1 : Nat) (x2 : Int32) (σ : zS) : Option (Unit × zS) :=
  zl (pR 5 5 x0 x1 σ) fun σ1 =>
  zl (aL 13 x1) fun v2 =>
  zl (pI 5 6 x0 (zmax 0 (zmin x2 (zmin v2 600))) σ1) fun σ3 =>
  zl (pI 5 0 x0 0 σ3) fun σ4 =>
  zl (pI 5 1 x0 (-1) σ4) fun σ5 =>
  zl (pI 5 2 x0 0 σ5) fun σ6 =>
  zl (pI 5 7 x0 0 σ6) fun σ7 =>
  zl (pI 5 8 x0 0 σ7) fun σ8 =>
  zl (pI 5 9 x0 0 σ8) fun σ9 =>
  zl (gC 5 x0) fun _ => zb (f_X5_split N x0 σ9) fun v10 σ11 =>
  some ((), σ11)
set_option maxHeartbeats 4000000 in
set_option maxRecDepth 100000 in
theorem c_X5_open (l : Launch) (D : va_G) (c : zC) (o : Nat) (g : zEp) (N : Nat) {x0 : Nat} {x1 : Nat} {x2 : Int32} {σ : zS} {ρ : Unit × zS} (h : f_X5_open N x0 x1 x2 σ = some ρ) : Met l yX5_open zs_X5_open (zr 22) (va_Pc [.ref (o + x0), .ref (o + x1), .int x2] (zG D c o g σ)) (zQu D c o g ρ) 0 0 (zA o) := by
  refine zMetG (by decide) (Nat.le_of_ble_eq_true rfl) ?_
  intro p e s m below meth cd ⟨hx, hb, hr, hml, hown, hts, hlocks⟩ hP hK hE ls hl
  have hS : va_S (zA o) s.heap s.heap [] := va_S.rf
  have hl : lv_has ls 3 [(0, .ref (o + x0)), (1, .ref (o + x1)), (2, .int x2)] := hl
  rw [f_X5_open.eq_1] at h
  refine lv_aload_n (pc := 0) hx hb dX5_open_0 rfl (lv_at hl 0 rfl) ?_
  refine lv_aload_n (pc := 1) hx hb dX5_open_1 rfl (lv_at hl 1 rfl) ?_
  obtain ⟨σ1, hv, h⟩ := zl_some h
  refine xpR (pc := 2) (j := 5) zc5 hx hb hts hown hK hP hS hv rfl rfl rfl rfl zf_X5_28 dX5_open_2 (fun H locs hP hS => ?_)
  refine lv_aload_n (pc := 5) hx hb dX5_open_5 rfl (lv_at hl 0 rfl) ?_
  refine lv_iconst (pc := 6) (v := 0) hx hb dX5_open_6 (by decide) ?_
  refine lv_iload_n (pc := 7) hx hb dX5_open_7 rfl (lv_at hl 2 rfl) ?_
  refine lv_aload_n (pc := 8) hx hb dX5_open_8 rfl (lv_at hl 1 rfl) ?_
  obtain ⟨v2, hv, h⟩ := zl_some h
  refine xLB (pc := 9) hx hb hK hP hv dX5_open_9 ?_
  refine lv_sipush (pc := 10) (v := 600) hx hb dX5_open_10 (by decide) ?_
  refine xmin (pc := 13) (rest := [.int x2, .int 0, .ref (o + x0)]) hx hb (hml.trans hl.1.symm) hown (hts _ zm_X5_80) (hts _ zst_J9_min_7cf53) (hts _ zn_J9) (hts _ (zq_J9_min_7cf53 _ List.mem_cons_self).1) (Nat.le_of_ble_eq_true rfl) (Nat.le_of_ble_eq_true rfl) (Nat.zero_le _) (Nat.zero_le _) dX5_open_13 ?_
  refine xmin (pc := 16) (rest := [.int 0, .ref (o + x0)]) hx hb (hml.trans hl.1.symm) hown (hts _ zm_X5_80) (hts _ zst_J9_min_7cf53) (hts _ zn_J9) (hts _ (zq_J9_min_7cf53 _ List.mem_cons_self).1) (Nat.le_of_ble_eq_true rfl) (Nat.le_of_ble_eq_true rfl) (Nat.zero_le _) (Nat.zero_le _) dX5_open_16 ?_
  refine xmax (pc := 19) (rest := [.ref (o + x0)]) hx hb (hml.trans hl.1.symm) hown (hts _ zm_X5_86) (hts _ zst_J9_max_7cf53) (hts _ zn_J9) (hts _ (zq_J9_max_7cf53 _ List.mem_cons_self).1) (Nat.le_of_ble_eq_true rfl) (Nat.le_of_ble_eq_true rfl) (Nat.zero_le _) (Nat.zero_le _) dX5_open_19 ?_
  obtain ⟨σ3, hv, h⟩ := zl_some h
  refine xpI (pc := 22) (j := 6) zc5 hx hb hts hown hK hP hS hv rfl rfl rfl zf_X5_32 dX5_open_22 (fun H locs hP hS => ?_)
  refine lv_aload_n (pc := 25) hx hb dX5_open_25 rfl (lv_at hl 0 rfl) ?_
  refine lv_iconst (pc := 26) (v := 0) hx hb dX5_open_26 (by decide) ?_
  obtain ⟨σ4, hv, h⟩ := zl_some h
  refine xpI (pc := 27) (j := 0) zc5 hx hb hts hown hK hP hS hv rfl rfl rfl zf_X5_9 dX5_open_27 (fun H locs hP hS => ?_)
  refine lv_aload_n (pc := 30) hx hb dX5_open_30 rfl (lv_at hl 0 rfl) ?_
  refine lv_iconst (pc := 31) (v := (-1)) hx hb dX5_open_31 (by decide) ?_
  obtain ⟨σ5, hv, h⟩ := zl_some h
  refine xpI (pc := 32) (j := 1) zc5 hx hb hts hown hK hP hS hv rfl rfl rfl zf_X5_15 dX5_open_32 (fun H locs hP hS => ?_)
  refine lv_aload_n (pc := 35) hx hb dX5_open_35 rfl (lv_at hl 0 rfl) ?_
  refine lv_iconst (pc := 36) (v := 0) hx hb dX5_open_36 (by decide) ?_
  obtain ⟨σ6, hv, h⟩ := zl_some h
  refine xpI (pc := 37) (j := 2) zc5 hx hb hts hown hK hP hS hv rfl rfl rfl zf_X5_18 dX5_open_37 (fun H locs hP hS => ?_)
  refine lv_aload_n (pc := 40) hx hb dX5_open_40 rfl (lv_at hl 0 rfl) ?_
  refine lv_iconst (pc := 41) (v := 0) hx hb dX5_open_41 (by decide) ?_
  obtain ⟨σ7, hv, h⟩ := zl_some h
  refine xpI (pc := 42) (j := 7) zc5 hx hb hts hown hK hP hS hv rfl rfl rfl zf_X5_35 dX5_open_42 (fun H locs hP hS => ?_)
  refine lv_aload_n (pc := 45) hx hb dX5_open_45 rfl (lv_at hl 0 rfl) ?_
  refine lv_iconst (pc := 46) (v := 0) hx hb dX5_open_46 (by decide) ?_
  obtain ⟨σ8, hv, h⟩ := zl_some h
  refine xpI (pc := 47) (j := 8) zc5 hx hb hts hown hK hP hS hv rfl rfl rfl zf_X5_38 dX5_open_47 (fun H locs hP hS => ?_)
  refine lv_aload_n (pc := 50) hx hb dX5_open_50 rfl (lv_at hl 0 rfl) ?_
  refine lv_iconst (pc := 51) (v := 0) hx hb dX5_open_51 (by decide) ?_
  obtain ⟨σ9, hv, h⟩ := zl_some h
  refine xpI (pc := 52) (j := 9) zc5 hx hb hts hown hK hP hS hv rfl rfl rfl zf_X5_41 dX5_open_52 (fun H locs hP hS => ?_)
  refine lv_aload_n (pc := 55) hx hb dX5_open_55 rfl (lv_at hl 0 rfl) ?_
  obtain ⟨_, hg, h⟩ := zl_some h
  obtain ⟨v10, σ11, hv, h⟩ := zb_some h
  refine xcallVv (pc := 56) (As := []) (rest := []) ⟨hx, hb, hml, hown, hts⟩ (c_X5_split l D c o g N hv) zc5 zV_X5_89 rfl zd_X5_split ⟨Nat.le_of_ble_eq_true rfl, Nat.le_of_ble_eq_true rfl⟩ hK hP hE hS hg hl.1 rfl (Nat.le_of_ble_eq_true rfl) ⟨Nat.zero_le _, Nat.zero_le _⟩ dX5_open_56 (fun H locs hP hS => ?_)
  exact xretv (pc := 59) hx hb hr hlocks hP hK hE hS h dX5_open_59
def f_X5_emit (N : Nat) (x0 : Nat) (x1 : Int32) (x2 : Int32) (σ : zS) : Option (Int32 × zS) :=
  zl (gI 5 2 x0 σ) fun v1 =>
  if v1 < 0 then
    (rZ 1 σ)
  else
    (zl (gI 5 2 x0 σ) fun v2 =>
    if 601 ≤ v2 then
      (rZ 1 σ)
    else
      (zl (gR 5 3 x0 σ) fun v3 =>
      zl (gI 5 2 x0 σ) fun v4 =>
      zl (sI 14 v3 v4 x1 σ) fun σ5 =>
      zl (gR 5 4 x0 σ5) fun v6 =>
      zl (gI 5 2 x0 σ5) fun v7 =>
      zl (sI 14 v6 v7 x2 σ5) fun σ8 =>
      zl (gI 5 2 x0 σ8) fun v9 =>
      zl (pI 5 2 x0 (v9 + 1) σ8) fun σ10 =>
      rZ 1 σ10))
set_option maxHeartbeats 4000000 in
set_option maxRecDepth 100000 in
theorem c_X5_emit (l : Launch) (D : va_G) (c : zC) (o : Nat) (g : zEp) (N : Nat) {x0 : Nat} {x1 : Int32} {x2 : Int32} {σ : zS} {ρ : Int32 × zS} (h : f_X5_emit N x0 x1 x2 σ = some ρ) : Met l yX5_emit zs_X5_emit (zr 2) (va_Pc [.ref (o + x0), .int x1, .int x2] (zG D c o g σ)) (zQi D c o g ρ) 0 0 (zA o) := by
  refine zMetG (by decide) (Nat.le_of_ble_eq_true rfl) ?_
  intro p e s m below meth cd ⟨hx, hb, hr, hml, hown, hts, hlocks⟩ hP hK hE ls hl
  have hS : va_S (zA o) s.heap s.heap [] := va_S.rf
  have hl : lv_has ls 3 [(0, .ref (o + x0)), (1, .int x1), (2, .int x2)] := hl
  rw [f_X5_emit.eq_1] at h
  refine lv_aload_n (pc := 0) hx hb dX5_emit_0 rfl (lv_at hl 0 rfl) ?_
  obtain ⟨v1, hv, h⟩ := zl_some h
  refine xgI (pc := 1) (j := 2) zc5 hx hb hts hown hK hP hv rfl zf_X5_18 dX5_emit_1 ?_
  refine lv_if_lt (pc := 4) (tgt := 47) hx hb dX5_emit_4 (by decide) (fun c1 => ?_) (fun c1 => ?_)
  · rw [if_pos c1] at h
    refine lv_iconst (pc := 47) (v := 1) hx hb dX5_emit_47 (by decide) ?_
    exact xretz (pc := 48) hx hb hr hlocks hP hK hE hS h dX5_emit_48
  · rw [if_neg c1] at h
    refine lv_aload_n (pc := 7) hx hb dX5_emit_7 rfl (lv_at hl 0 rfl) ?_
    obtain ⟨v2, hv, h⟩ := zl_some h
    refine xgI (pc := 8) (j := 2) zc5 hx hb hts hown hK hP hv rfl zf_X5_18 dX5_emit_8 ?_
    refine lv_sipush (pc := 11) (v := 601) hx hb dX5_emit_11 (by decide) ?_
    refine lv_icmp_ge (pc := 14) (tgt := 47) hx hb dX5_emit_14 (by decide) (fun c1 => ?_) (fun c1 => ?_)
    · rw [if_pos c1] at h
      refine lv_iconst (pc := 47) (v := 1) hx hb dX5_emit_47 (by decide) ?_
      exact xretz (pc := 48) hx hb hr hlocks hP hK hE hS h dX5_emit_48
    · rw [if_neg c1] at h
      refine lv_aload_n (pc := 17) hx hb dX5_emit_17 rfl (lv_at hl 0 rfl) ?_
      obtain ⟨v3, hv, h⟩ := zl_some h
      refine xgR (pc := 18) (j := 3) zc5 hx hb hts hown hK hP hv rfl zf_X5_21 dX5_emit_18 ?_
      refine lv_aload_n (pc := 21) hx hb dX5_emit_21 rfl (lv_at hl 0 rfl) ?_
      obtain ⟨v4, hv, h⟩ := zl_some h
      refine xgI (pc := 22) (j := 2) zc5 hx hb hts hown hK hP hv rfl zf_X5_18 dX5_emit_22 ?_
      refine lv_iload_n (pc := 25) hx hb dX5_emit_25 rfl (lv_at hl 1 rfl) ?_
      obtain ⟨σ5, hv, h⟩ := zl_some h
      refine xsI (pc := 26) hx hb hK hP hS hv dX5_emit_26 (fun H locs hP hS => ?_)
      refine lv_aload_n (pc := 27) hx hb dX5_emit_27 rfl (lv_at hl 0 rfl) ?_
      obtain ⟨v6, hv, h⟩ := zl_some h
      refine xgR (pc := 28) (j := 4) zc5 hx hb hts hown hK hP hv rfl zf_X5_25 dX5_emit_28 ?_
      refine lv_aload_n (pc := 31) hx hb dX5_emit_31 rfl (lv_at hl 0 rfl) ?_
      obtain ⟨v7, hv, h⟩ := zl_some h
      refine xgI (pc := 32) (j := 2) zc5 hx hb hts hown hK hP hv rfl zf_X5_18 dX5_emit_32 ?_
      refine lv_iload_n (pc := 35) hx hb dX5_emit_35 rfl (lv_at hl 2 rfl) ?_
      obtain ⟨σ8, hv, h⟩ := zl_some h
      refine xsI (pc := 36) hx hb hK hP hS hv dX5_emit_36 (fun H locs hP hS => ?_)
      refine lv_aload_n (pc := 37) hx hb dX5_emit_37 rfl (lv_at hl 0 rfl) ?_
      refine lv_dup (pc := 38) hx hb dX5_emit_38 rfl ?_
      obtain ⟨v9, hv, h⟩ := zl_some h
      refine xgI (pc := 39) (j := 2) zc5 hx hb hts hown hK hP hv rfl zf_X5_18 dX5_emit_39 ?_
      refine lv_iconst (pc := 42) (v := 1) hx hb dX5_emit_42 (by decide) ?_
      refine lv_iadd (pc := 43) hx hb dX5_emit_43 ?_
      obtain ⟨σ10, hv, h⟩ := zl_some h
      refine xpI (pc := 44) (j := 2) zc5 hx hb hts hown hK hP hS hv rfl rfl rfl zf_X5_18 dX5_emit_44 (fun H locs hP hS => ?_)
      refine lv_iconst (pc := 47) (v := 1) hx hb dX5_emit_47 (by decide) ?_
      exact xretz (pc := 48) hx hb hr hlocks hP hK hE hS h dX5_emit_48
def f_X5_advance (N : Nat) (x0 : Nat) (x1 : Int32) (x2 : Int32) (σ : zS) : Option (Int32 × zS) :=
  if x1 = 0 then
    (zl (pI 5 0 x0 x2 σ) fun σ1 =>
    zl (gR 5 12 x0 σ1) fun v2 =>
    zl (gI 5 9 x0 σ1) fun v3 =>
    zl (aI 14 v2 v3 σ1) fun v4 =>
    zl (pI 5 1 x0 v4 σ1) fun σ5 =>
    rZ x1 σ5)
  else
    (zl (gR 5 10 x0 σ) fun v6 =>
    zl (gI 5 9 x0 σ) fun v7 =>
    zl (aI 14 v6 v7 σ) fun v8 =>
    if v8 = 0 then
      (rZ x1 σ)
    else
      (zl (gI 5 9 x0 σ) fun v9 =>
      if 600 ≤ v9 then
        (rZ x1 σ)
      else
        (zl (gI 5 9 x0 σ) fun v10 =>
        zl (pI 5 9 x0 (v10 + 1) σ) fun σ11 =>
        rZ x1 σ11)))
set_option maxHeartbeats 4000000 in
set_option maxRecDepth 100000 in
theorem c_X5_advance (l : Launch) (D : va_G) (c : zC) (o : Nat) (g : zEp) (N : Nat) {x0 : Nat} {x1 : Int32} {x2 : Int32} {σ : zS} {ρ : Int32 × zS} (h : f_X5_advance N x0 x1 x2 σ = some ρ) : Met l yX5_advance zs_X5_advance (zr 2) (va_Pc [.ref (o + x0), .int x1, .int x2] (zG D c o g σ)) (zQi D c o g ρ) 0 0 (zA o) := by
  refine zMetG (by decide) (Nat.le_of_ble_eq_true rfl) ?_
  intro p e s m below meth cd ⟨hx, hb, hr, hml, hown, hts, hlocks⟩ hP hK hE ls hl
  have hS : va_S (zA o) s.heap s.heap [] := va_S.rf
  have hl : lv_has ls 3 [(0, .ref (o + x0)), (1, .int x1), (2, .int x2)] := hl
  rw [f_X5_advance.eq_1] at h
  refine lv_iload_n (pc := 0) hx hb dX5_advance_0 rfl (lv_at hl 1 rfl) ?_
  refine lv_if_ne (pc := 1) (tgt := 25) hx hb dX5_advance_1 (by decide) (fun c1 => ?_) (fun c1 => ?_)
  · rw [if_neg c1] at h
    refine lv_aload_n (pc := 25) hx hb dX5_advance_25 rfl (lv_at hl 0 rfl) ?_
    obtain ⟨v1, hv, h⟩ := zl_some h
    refine xgR (pc := 26) (j := 10) zc5 hx hb hts hown hK hP hv rfl zf_X5_44 dX5_advance_26 ?_
    refine lv_aload_n (pc := 29) hx hb dX5_advance_29 rfl (lv_at hl 0 rfl) ?_
    obtain ⟨v2, hv, h⟩ := zl_some h
    refine xgI (pc := 30) (j := 9) zc5 hx hb hts hown hK hP hv rfl zf_X5_41 dX5_advance_30 ?_
    obtain ⟨v3, hv, h⟩ := zl_some h
    refine xaI (pc := 33) hx hb hK hP hv dX5_advance_33 ?_
    refine lv_if_eq (pc := 34) (tgt := 57) hx hb dX5_advance_34 (by decide) (fun c1 => ?_) (fun c1 => ?_)
    · rw [if_pos c1] at h
      refine lv_iload_n (pc := 57) hx hb dX5_advance_57 rfl (lv_at hl 1 rfl) ?_
      exact xretz (pc := 58) hx hb hr hlocks hP hK hE hS h dX5_advance_58
    · rw [if_neg c1] at h
      refine lv_aload_n (pc := 37) hx hb dX5_advance_37 rfl (lv_at hl 0 rfl) ?_
      obtain ⟨v4, hv, h⟩ := zl_some h
      refine xgI (pc := 38) (j := 9) zc5 hx hb hts hown hK hP hv rfl zf_X5_41 dX5_advance_38 ?_
      refine lv_sipush (pc := 41) (v := 600) hx hb dX5_advance_41 (by decide) ?_
      refine lv_icmp_ge (pc := 44) (tgt := 57) hx hb dX5_advance_44 (by decide) (fun c1 => ?_) (fun c1 => ?_)
      · rw [if_pos c1] at h
        refine lv_iload_n (pc := 57) hx hb dX5_advance_57 rfl (lv_at hl 1 rfl) ?_
        exact xretz (pc := 58) hx hb hr hlocks hP hK hE hS h dX5_advance_58
      · rw [if_neg c1] at h
        refine lv_aload_n (pc := 47) hx hb dX5_advance_47 rfl (lv_at hl 0 rfl) ?_
        refine lv_dup (pc := 48) hx hb dX5_advance_48 rfl ?_
        obtain ⟨v5, hv, h⟩ := zl_some h
        refine xgI (pc := 49) (j := 9) zc5 hx hb hts hown hK hP hv rfl zf_X5_41 dX5_advance_49 ?_
        refine lv_iconst (pc := 52) (v := 1) hx hb dX5_advance_52 (by decide) ?_
        refine lv_iadd (pc := 53) hx hb dX5_advance_53 ?_
        obtain ⟨σ6, hv, h⟩ := zl_some h
        refine xpI (pc := 54) (j := 9) zc5 hx hb hts hown hK hP hS hv rfl rfl rfl zf_X5_41 dX5_advance_54 (fun H locs hP hS => ?_)
        refine lv_iload_n (pc := 57) hx hb dX5_advance_57 rfl (lv_at hl 1 rfl) ?_
        exact xretz (pc := 58) hx hb hr hlocks hP hK hE hS h dX5_advance_58
  · rw [if_pos c1] at h
    refine lv_aload_n (pc := 4) hx hb dX5_advance_4 rfl (lv_at hl 0 rfl) ?_
    refine lv_iload_n (pc := 5) hx hb dX5_advance_5 rfl (lv_at hl 2 rfl) ?_
    obtain ⟨σ7, hv, h⟩ := zl_some h
    refine xpI (pc := 6) (j := 0) zc5 hx hb hts hown hK hP hS hv rfl rfl rfl zf_X5_9 dX5_advance_6 (fun H locs hP hS => ?_)
    refine lv_aload_n (pc := 9) hx hb dX5_advance_9 rfl (lv_at hl 0 rfl) ?_
    refine lv_aload_n (pc := 10) hx hb dX5_advance_10 rfl (lv_at hl 0 rfl) ?_
    obtain ⟨v8, hv, h⟩ := zl_some h
    refine xgR (pc := 11) (j := 12) zc5 hx hb hts hown hK hP hv rfl zf_X5_50 dX5_advance_11 ?_
    refine lv_aload_n (pc := 14) hx hb dX5_advance_14 rfl (lv_at hl 0 rfl) ?_
    obtain ⟨v9, hv, h⟩ := zl_some h
    refine xgI (pc := 15) (j := 9) zc5 hx hb hts hown hK hP hv rfl zf_X5_41 dX5_advance_15 ?_
    obtain ⟨v10, hv, h⟩ := zl_some h
    refine xaI (pc := 18) hx hb hK hP hv dX5_advance_18 ?_
    obtain ⟨σ11, hv, h⟩ := zl_some h
    refine xpI (pc := 19) (j := 1) zc5 hx hb hts hown hK hP hS hv rfl rfl rfl zf_X5_15 dX5_advance_19 (fun H locs hP hS => ?_)
    refine lv_goto (pc := 22) (tgt := 57) hx hb dX5_advance_22 (by decide) ?_
    refine lv_iload_n (pc := 57) hx hb dX5_advance_57 rfl (lv_at hl 1 rfl) ?_
    exact xretz (pc := 58) hx hb hr hlocks hP hK hE hS h dX5_advance_58
def f_X5_fail (N : Nat) (x0 : Nat) (x1 : Int32) (σ : zS) : Option (Int32 × zS) :=
  zl (gC 5 x0) fun _ => zb (f_X5_advance N x0 0 x1 σ) fun v1 σ2 =>
  rZ v1 σ2
set_option maxHeartbeats 4000000 in
set_option maxRecDepth 100000 in
theorem c_X5_fail (l : Launch) (D : va_G) (c : zC) (o : Nat) (g : zEp) (N : Nat) {x0 : Nat} {x1 : Int32} {σ : zS} {ρ : Int32 × zS} (h : f_X5_fail N x0 x1 σ = some ρ) : Met l yX5_fail zs_X5_fail (zr 4) (va_Pc [.ref (o + x0), .int x1] (zG D c o g σ)) (zQi D c o g ρ) 0 0 (zA o) := by
  refine zMetG (by decide) (Nat.le_of_ble_eq_true rfl) ?_
  intro p e s m below meth cd ⟨hx, hb, hr, hml, hown, hts, hlocks⟩ hP hK hE ls hl
  have hS : va_S (zA o) s.heap s.heap [] := va_S.rf
  have hl : lv_has ls 2 [(0, .ref (o + x0)), (1, .int x1)] := hl
  rw [f_X5_fail.eq_1] at h
  refine lv_aload_n (pc := 0) hx hb dX5_fail_0 rfl (lv_at hl 0 rfl) ?_
  refine lv_iconst (pc := 1) (v := 0) hx hb dX5_fail_1 (by decide) ?_
  refine lv_iload_n (pc := 2) hx hb dX5_fail_2 rfl (lv_at hl 1 rfl) ?_
  obtain ⟨_, hg, h⟩ := zl_some h
  obtain ⟨v1, σ2, hv, h⟩ := zb_some h
  refine xcallVi (pc := 3) (As := [.int 0, .int x1]) (rest := []) ⟨hx, hb, hml, hown, hts⟩ (c_X5_advance l D c o g N hv) zc5 zV_X5_149 rfl zd_X5_advance ⟨Nat.le_of_ble_eq_true rfl, Nat.le_of_ble_eq_true rfl⟩ hK hP hE hS hg hl.1 rfl (Nat.le_of_ble_eq_true rfl) ⟨Nat.zero_le _, Nat.zero_le _⟩ dX5_fail_3 (fun H locs hP hS => ?_)
  exact xretz (pc := 6) hx hb hr hlocks hP hK hE hS h dX5_fail_6
def f_X5_pass (N : Nat) (x0 : Nat) (x1 : Int32) (σ : zS) : Option (Int32 × zS) :=
  zl (gR 5 10 x0 σ) fun v1 =>
  zl (gI 5 9 x0 σ) fun v2 =>
  zl (aI 14 v1 v2 σ) fun v3 =>
  if v3 = x1 then
    (zl (gC 5 x0) fun _ => zb (f_X5_advance N x0 1 1 σ) fun v4 σ5 =>
    rZ v4 σ5)
  else
    (zl (gC 5 x0) fun _ => zb (f_X5_advance N x0 0 1 σ) fun v6 σ7 =>
    rZ v6 σ7)
set_option maxHeartbeats 4000000 in
set_option maxRecDepth 100000 in
theorem c_X5_pass (l : Launch) (D : va_G) (c : zC) (o : Nat) (g : zEp) (N : Nat) {x0 : Nat} {x1 : Int32} {σ : zS} {ρ : Int32 × zS} (h : f_X5_pass N x0 x1 σ = some ρ) : Met l yX5_pass zs_X5_pass (zr 4) (va_Pc [.ref (o + x0), .int x1] (zG D c o g σ)) (zQi D c o g ρ) 0 0 (zA o) := by
  refine zMetG (by decide) (Nat.le_of_ble_eq_true rfl) ?_
  intro p e s m below meth cd ⟨hx, hb, hr, hml, hown, hts, hlocks⟩ hP hK hE ls hl
  have hS : va_S (zA o) s.heap s.heap [] := va_S.rf
  have hl : lv_has ls 2 [(0, .ref (o + x0)), (1, .int x1)] := hl
  rw [f_X5_pass.eq_1] at h
  refine lv_aload_n (pc := 0) hx hb dX5_pass_0 rfl (lv_at hl 0 rfl) ?_
  refine lv_aload_n (pc := 1) hx hb dX5_pass_1 rfl (lv_at hl 0 rfl) ?_
  obtain ⟨v1, hv, h⟩ := zl_some h
  refine xgR (pc := 2) (j := 10) zc5 hx hb hts hown hK hP hv rfl zf_X5_44 dX5_pass_2 ?_
  refine lv_aload_n (pc := 5) hx hb dX5_pass_5 rfl (lv_at hl 0 rfl) ?_
  obtain ⟨v2, hv, h⟩ := zl_some h
  refine xgI (pc := 6) (j := 9) zc5 hx hb hts hown hK hP hv rfl zf_X5_41 dX5_pass_6 ?_
  obtain ⟨v3, hv, h⟩ := zl_some h
  refine xaI (pc := 9) hx hb hK hP hv dX5_pass_9 ?_
  refine lv_iload_n (pc := 10) hx hb dX5_pass_10 rfl (lv_at hl 1 rfl) ?_
  refine lv_icmp_ne (pc := 11) (tgt := 18) hx hb dX5_pass_11 (by decide) (fun c1 => ?_) (fun c1 => ?_)
  · rw [if_neg c1] at h
    refine lv_iconst (pc := 18) (v := 0) hx hb dX5_pass_18 (by decide) ?_
    refine lv_iconst (pc := 19) (v := 1) hx hb dX5_pass_19 (by decide) ?_
    obtain ⟨_, hg, h⟩ := zl_some h
    obtain ⟨v4, σ5, hv, h⟩ := zb_some h
    refine xcallVi (pc := 20) (As := [.int 0, .int 1]) (rest := []) ⟨hx, hb, hml, hown, hts⟩ (c_X5_advance l D c o g N hv) zc5 zV_X5_149 rfl zd_X5_advance ⟨Nat.le_of_ble_eq_true rfl, Nat.le_of_ble_eq_true rfl⟩ hK hP hE hS hg hl.1 rfl (Nat.le_of_ble_eq_true rfl) ⟨Nat.zero_le _, Nat.zero_le _⟩ dX5_pass_20 (fun H locs hP hS => ?_)
    exact xretz (pc := 23) hx hb hr hlocks hP hK hE hS h dX5_pass_23
  · rw [if_pos c1] at h
    refine lv_iconst (pc := 14) (v := 1) hx hb dX5_pass_14 (by decide) ?_
    refine lv_goto (pc := 15) (tgt := 19) hx hb dX5_pass_15 (by decide) ?_
    refine lv_iconst (pc := 19) (v := 1) hx hb dX5_pass_19 (by decide) ?_
    obtain ⟨_, hg, h⟩ := zl_some h
    obtain ⟨v6, σ7, hv, h⟩ := zb_some h
    refine xcallVi (pc := 20) (As := [.int 1, .int 1]) (rest := []) ⟨hx, hb, hml, hown, hts⟩ (c_X5_advance l D c o g N hv) zc5 zV_X5_149 rfl zd_X5_advance ⟨Nat.le_of_ble_eq_true rfl, Nat.le_of_ble_eq_true rfl⟩ hK hP hE hS hg hl.1 rfl (Nat.le_of_ble_eq_true rfl) ⟨Nat.zero_le _, Nat.zero_le _⟩ dX5_pass_20 (fun H locs hP hS => ?_)
    exact xretz (pc := 23) hx hb hr hlocks hP hK hE hS h dX5_pass_23
def f_X5_passNumber (N : Nat) (x0 : Nat) (x1 : Int32) (x2 : Int32) (σ : zS) : Option (Int32 × zS) :=
  zl (gR 5 10 x0 σ) fun v1 =>
  zl (gI 5 9 x0 σ) fun v2 =>
  zl (aI 14 v1 v2 σ) fun v3 =>
  if v3 = 3 then
    (zl (gR 5 11 x0 σ) fun v4 =>
    zl (gI 5 9 x0 σ) fun v5 =>
    zl (aI 14 v4 v5 σ) fun v6 =>
    if v6 < x1 then
      (zl (gC 5 x0) fun _ => zb (f_X5_advance N x0 0 2 σ) fun v7 σ8 =>
      rZ v7 σ8)
    else
      (zl (gR 5 11 x0 σ) fun v9 =>
      zl (gI 5 9 x0 σ) fun v10 =>
      zl (aI 14 v9 v10 σ) fun v11 =>
      if x2 < v11 then
        (zl (gC 5 x0) fun _ => zb (f_X5_advance N x0 0 2 σ) fun v12 σ13 =>
        rZ v12 σ13)
      else
        (zl (gC 5 x0) fun _ => zb (f_X5_advance N x0 1 2 σ) fun v14 σ15 =>
        rZ v14 σ15)))
  else
    (zl (gC 5 x0) fun _ => zb (f_X5_fail N x0 1 σ) fun v16 σ17 =>
    rZ v16 σ17)
set_option maxHeartbeats 4000000 in
set_option maxRecDepth 100000 in
theorem c_X5_passNumber (l : Launch) (D : va_G) (c : zC) (o : Nat) (g : zEp) (N : Nat) {x0 : Nat} {x1 : Int32} {x2 : Int32} {σ : zS} {ρ : Int32 × zS} (h : f_X5_passNumber N x0 x1 x2 σ = some ρ) : Met l yX5_passNumber zs_X5_passNumber (zr 6) (va_Pc [.ref (o + x0), .int x1, .int x2] (zG D c o g σ)) (zQi D c o g ρ) 0 0 (zA o) := by
  refine zMetG (by decide) (Nat.le_of_ble_eq_true rfl) ?_
  intro p e s m below meth cd ⟨hx, hb, hr, hml, hown, hts, hlocks⟩ hP hK hE ls hl
  have hS : va_S (zA o) s.heap s.heap [] := va_S.rf
  have hl : lv_has ls 3 [(0, .ref (o + x0)), (1, .int x1), (2, .int x2)] := hl
  rw [f_X5_passNumber.eq_1] at h
  refine lv_aload_n (pc := 0) hx hb dX5_passNumber_0 rfl (lv_at hl 0 rfl) ?_
  obtain ⟨v1, hv, h⟩ := zl_some h
  refine xgR (pc := 1) (j := 10) zc5 hx hb hts hown hK hP hv rfl zf_X5_44 dX5_passNumber_1 ?_
  refine lv_aload_n (pc := 4) hx hb dX5_passNumber_4 rfl (lv_at hl 0 rfl) ?_
  obtain ⟨v2, hv, h⟩ := zl_some h
  refine xgI (pc := 5) (j := 9) zc5 hx hb hts hown hK hP hv rfl zf_X5_41 dX5_passNumber_5 ?_
  obtain ⟨v3, hv, h⟩ := zl_some h
  refine xaI (pc := 8) hx hb hK hP hv dX5_passNumber_8 ?_
  refine lv_iconst (pc := 9) (v := 3) hx hb dX5_passNumber_9 (by decide) ?_
  refine lv_icmp_eq (pc := 10) (tgt := 19) hx hb dX5_passNumber_10 (by decide) (fun c1 => ?_) (fun c1 => ?_)
  · rw [if_pos c1] at h
    refine lv_aload_n (pc := 19) hx hb dX5_passNumber_19 rfl (lv_at hl 0 rfl) ?_
    refine lv_aload_n (pc := 20) hx hb dX5_passNumber_20 rfl (lv_at hl 0 rfl) ?_
    obtain ⟨v4, hv, h⟩ := zl_some h
    refine xgR (pc := 21) (j := 11) zc5 hx hb hts hown hK hP hv rfl zf_X5_47 dX5_passNumber_21 ?_
    refine lv_aload_n (pc := 24) hx hb dX5_passNumber_24 rfl (lv_at hl 0 rfl) ?_
    obtain ⟨v5, hv, h⟩ := zl_some h
    refine xgI (pc := 25) (j := 9) zc5 hx hb hts hown hK hP hv rfl zf_X5_41 dX5_passNumber_25 ?_
    obtain ⟨v6, hv, h⟩ := zl_some h
    refine xaI (pc := 28) hx hb hK hP hv dX5_passNumber_28 ?_
    refine lv_iload_n (pc := 29) hx hb dX5_passNumber_29 rfl (lv_at hl 1 rfl) ?_
    refine lv_icmp_lt (pc := 30) (tgt := 50) hx hb dX5_passNumber_30 (by decide) (fun c1 => ?_) (fun c1 => ?_)
    · rw [if_pos c1] at h
      refine lv_iconst (pc := 50) (v := 0) hx hb dX5_passNumber_50 (by decide) ?_
      refine lv_iconst (pc := 51) (v := 2) hx hb dX5_passNumber_51 (by decide) ?_
      obtain ⟨_, hg, h⟩ := zl_some h
      obtain ⟨v7, σ8, hv, h⟩ := zb_some h
      refine xcallVi (pc := 52) (As := [.int 0, .int 2]) (rest := []) ⟨hx, hb, hml, hown, hts⟩ (c_X5_advance l D c o g N hv) zc5 zV_X5_149 rfl zd_X5_advance ⟨Nat.le_of_ble_eq_true rfl, Nat.le_of_ble_eq_true rfl⟩ hK hP hE hS hg hl.1 rfl (Nat.le_of_ble_eq_true rfl) ⟨Nat.zero_le _, Nat.zero_le _⟩ dX5_passNumber_52 (fun H locs hP hS => ?_)
      exact xretz (pc := 55) hx hb hr hlocks hP hK hE hS h dX5_passNumber_55
    · rw [if_neg c1] at h
      refine lv_aload_n (pc := 33) hx hb dX5_passNumber_33 rfl (lv_at hl 0 rfl) ?_
      obtain ⟨v9, hv, h⟩ := zl_some h
      refine xgR (pc := 34) (j := 11) zc5 hx hb hts hown hK hP hv rfl zf_X5_47 dX5_passNumber_34 ?_
      refine lv_aload_n (pc := 37) hx hb dX5_passNumber_37 rfl (lv_at hl 0 rfl) ?_
      obtain ⟨v10, hv, h⟩ := zl_some h
      refine xgI (pc := 38) (j := 9) zc5 hx hb hts hown hK hP hv rfl zf_X5_41 dX5_passNumber_38 ?_
      obtain ⟨v11, hv, h⟩ := zl_some h
      refine xaI (pc := 41) hx hb hK hP hv dX5_passNumber_41 ?_
      refine lv_iload_n (pc := 42) hx hb dX5_passNumber_42 rfl (lv_at hl 2 rfl) ?_
      refine lv_icmp_gt (pc := 43) (tgt := 50) hx hb dX5_passNumber_43 (by decide) (fun c1 => ?_) (fun c1 => ?_)
      · rw [if_pos c1] at h
        refine lv_iconst (pc := 50) (v := 0) hx hb dX5_passNumber_50 (by decide) ?_
        refine lv_iconst (pc := 51) (v := 2) hx hb dX5_passNumber_51 (by decide) ?_
        obtain ⟨_, hg, h⟩ := zl_some h
        obtain ⟨v12, σ13, hv, h⟩ := zb_some h
        refine xcallVi (pc := 52) (As := [.int 0, .int 2]) (rest := []) ⟨hx, hb, hml, hown, hts⟩ (c_X5_advance l D c o g N hv) zc5 zV_X5_149 rfl zd_X5_advance ⟨Nat.le_of_ble_eq_true rfl, Nat.le_of_ble_eq_true rfl⟩ hK hP hE hS hg hl.1 rfl (Nat.le_of_ble_eq_true rfl) ⟨Nat.zero_le _, Nat.zero_le _⟩ dX5_passNumber_52 (fun H locs hP hS => ?_)
        exact xretz (pc := 55) hx hb hr hlocks hP hK hE hS h dX5_passNumber_55
      · rw [if_neg c1] at h
        refine lv_iconst (pc := 46) (v := 1) hx hb dX5_passNumber_46 (by decide) ?_
        refine lv_goto (pc := 47) (tgt := 51) hx hb dX5_passNumber_47 (by decide) ?_
        refine lv_iconst (pc := 51) (v := 2) hx hb dX5_passNumber_51 (by decide) ?_
        obtain ⟨_, hg, h⟩ := zl_some h
        obtain ⟨v14, σ15, hv, h⟩ := zb_some h
        refine xcallVi (pc := 52) (As := [.int 1, .int 2]) (rest := []) ⟨hx, hb, hml, hown, hts⟩ (c_X5_advance l D c o g N hv) zc5 zV_X5_149 rfl zd_X5_advance ⟨Nat.le_of_ble_eq_true rfl, Nat.le_of_ble_eq_true rfl⟩ hK hP hE hS hg hl.1 rfl (Nat.le_of_ble_eq_true rfl) ⟨Nat.zero_le _, Nat.zero_le _⟩ dX5_passNumber_52 (fun H locs hP hS => ?_)
        exact xretz (pc := 55) hx hb hr hlocks hP hK hE hS h dX5_passNumber_55
  · rw [if_neg c1] at h
    refine lv_aload_n (pc := 13) hx hb dX5_passNumber_13 rfl (lv_at hl 0 rfl) ?_
    refine lv_iconst (pc := 14) (v := 1) hx hb dX5_passNumber_14 (by decide) ?_
    obtain ⟨_, hg, h⟩ := zl_some h
    obtain ⟨v16, σ17, hv, h⟩ := zb_some h
    refine xcallVi (pc := 15) (As := [.int 1]) (rest := []) ⟨hx, hb, hml, hown, hts⟩ (c_X5_fail l D c o g N hv) zc5 zV_X5_153 rfl zd_X5_fail ⟨Nat.le_of_ble_eq_true rfl, Nat.le_of_ble_eq_true rfl⟩ hK hP hE hS hg hl.1 rfl (Nat.le_of_ble_eq_true rfl) ⟨Nat.zero_le _, Nat.zero_le _⟩ dX5_passNumber_15 (fun H locs hP hS => ?_)
    exact xretz (pc := 18) hx hb hr hlocks hP hK hE hS h dX5_passNumber_18
def f_X10_addEdge (N : Nat) (x0 : Nat) (x1 : Int32) (x2 : Int32) (σ : zS) : Option (Unit × zS) :=
  zl (gI 10 2 x0 σ) fun v1 =>
  if v1 < 0 then
    (some ((), σ))
  else
    (zl (gI 10 2 x0 σ) fun v2 =>
    if 10 ≤ v2 then
      (some ((), σ))
    else
      (zl (gR 10 3 x0 σ) fun v3 =>
      zl (gI 10 2 x0 σ) fun v4 =>
      zl (sI 14 v3 v4 x1 σ) fun σ5 =>
      zl (gR 10 4 x0 σ5) fun v6 =>
      zl (gI 10 2 x0 σ5) fun v7 =>
      zl (sI 14 v6 v7 x2 σ5) fun σ8 =>
      zl (gI 10 2 x0 σ8) fun v9 =>
      zl (pI 10 2 x0 (v9 + 1) σ8) fun σ10 =>
      some ((), σ10)))
set_option maxHeartbeats 4000000 in
set_option maxRecDepth 100000 in
theorem c_X10_addEdge (l : Launch) (D : va_G) (c : zC) (o : Nat) (g : zEp) (N : Nat) {x0 : Nat} {x1 : Int32} {x2 : Int32} {σ : zS} {ρ : Unit × zS} (h : f_X10_addEdge N x0 x1 x2 σ = some ρ) : Met l yX10_addEdge zs_X10_addEdge (zr 2) (va_Pc [.ref (o + x0), .int x1, .int x2] (zG D c o g σ)) (zQu D c o g ρ) 0 0 (zA o) := by
  refine zMetG (by decide) (Nat.le_of_ble_eq_true rfl) ?_
  intro p e s m below meth cd ⟨hx, hb, hr, hml, hown, hts, hlocks⟩ hP hK hE ls hl
  have hS : va_S (zA o) s.heap s.heap [] := va_S.rf
  have hl : lv_has ls 3 [(0, .ref (o + x0)), (1, .int x1), (2, .int x2)] := hl
  rw [f_X10_addEdge.eq_1] at h
  refine lv_aload_n (pc := 0) hx hb dX10_addEdge_0 rfl (lv_at hl 0 rfl) ?_
  obtain ⟨v1, hv, h⟩ := zl_some h
  refine xgI (pc := 1) (j := 2) zc10 hx hb hts hown hK hP hv rfl zf_X10_18 dX10_addEdge_1 ?_
  refine lv_if_lt (pc := 4) (tgt := 46) hx hb dX10_addEdge_4 (by decide) (fun c1 => ?_) (fun c1 => ?_)
  · rw [if_pos c1] at h
    exact xretv (pc := 46) hx hb hr hlocks hP hK hE hS h dX10_addEdge_46
  · rw [if_neg c1] at h
    refine lv_aload_n (pc := 7) hx hb dX10_addEdge_7 rfl (lv_at hl 0 rfl) ?_
    obtain ⟨v2, hv, h⟩ := zl_some h
    refine xgI (pc := 8) (j := 2) zc10 hx hb hts hown hK hP hv rfl zf_X10_18 dX10_addEdge_8 ?_
    refine lv_bipush (pc := 11) (v := 10) hx hb dX10_addEdge_11 (by decide) ?_
    refine lv_icmp_ge (pc := 13) (tgt := 46) hx hb dX10_addEdge_13 (by decide) (fun c1 => ?_) (fun c1 => ?_)
    · rw [if_pos c1] at h
      exact xretv (pc := 46) hx hb hr hlocks hP hK hE hS h dX10_addEdge_46
    · rw [if_neg c1] at h
      refine lv_aload_n (pc := 16) hx hb dX10_addEdge_16 rfl (lv_at hl 0 rfl) ?_
      obtain ⟨v3, hv, h⟩ := zl_some h
      refine xgR (pc := 17) (j := 3) zc10 hx hb hts hown hK hP hv rfl zf_X10_21 dX10_addEdge_17 ?_
      refine lv_aload_n (pc := 20) hx hb dX10_addEdge_20 rfl (lv_at hl 0 rfl) ?_
      obtain ⟨v4, hv, h⟩ := zl_some h
      refine xgI (pc := 21) (j := 2) zc10 hx hb hts hown hK hP hv rfl zf_X10_18 dX10_addEdge_21 ?_
      refine lv_iload_n (pc := 24) hx hb dX10_addEdge_24 rfl (lv_at hl 1 rfl) ?_
      obtain ⟨σ5, hv, h⟩ := zl_some h
      refine xsI (pc := 25) hx hb hK hP hS hv dX10_addEdge_25 (fun H locs hP hS => ?_)
      refine lv_aload_n (pc := 26) hx hb dX10_addEdge_26 rfl (lv_at hl 0 rfl) ?_
      obtain ⟨v6, hv, h⟩ := zl_some h
      refine xgR (pc := 27) (j := 4) zc10 hx hb hts hown hK hP hv rfl zf_X10_25 dX10_addEdge_27 ?_
      refine lv_aload_n (pc := 30) hx hb dX10_addEdge_30 rfl (lv_at hl 0 rfl) ?_
      obtain ⟨v7, hv, h⟩ := zl_some h
      refine xgI (pc := 31) (j := 2) zc10 hx hb hts hown hK hP hv rfl zf_X10_18 dX10_addEdge_31 ?_
      refine lv_iload_n (pc := 34) hx hb dX10_addEdge_34 rfl (lv_at hl 2 rfl) ?_
      obtain ⟨σ8, hv, h⟩ := zl_some h
      refine xsI (pc := 35) hx hb hK hP hS hv dX10_addEdge_35 (fun H locs hP hS => ?_)
      refine lv_aload_n (pc := 36) hx hb dX10_addEdge_36 rfl (lv_at hl 0 rfl) ?_
      refine lv_dup (pc := 37) hx hb dX10_addEdge_37 rfl ?_
      obtain ⟨v9, hv, h⟩ := zl_some h
      refine xgI (pc := 38) (j := 2) zc10 hx hb hts hown hK hP hv rfl zf_X10_18 dX10_addEdge_38 ?_
      refine lv_iconst (pc := 41) (v := 1) hx hb dX10_addEdge_41 (by decide) ?_
      refine lv_iadd (pc := 42) hx hb dX10_addEdge_42 ?_
      obtain ⟨σ10, hv, h⟩ := zl_some h
      refine xpI (pc := 43) (j := 2) zc10 hx hb hts hown hK hP hS hv rfl rfl rfl zf_X10_18 dX10_addEdge_43 (fun H locs hP hS => ?_)
      exact xretv (pc := 46) hx hb hr hlocks hP hK hE hS h dX10_addEdge_46
def f_X5_passed (N : Nat) (x0 : Nat) (σ : zS) : Option (Int32 × zS) :=
  zl (gI 5 9 x0 σ) fun v1 =>
  if v1 ≤ 0 then
    (some (0, σ))
  else
    (zl (gR 5 11 x0 σ) fun v2 =>
    zl (gI 5 9 x0 σ) fun v3 =>
    zl (aI 14 v2 (v3 - 1) σ) fun v4 =>
    some (v4, σ))
set_option maxHeartbeats 4000000 in
set_option maxRecDepth 100000 in
theorem c_X5_passed (l : Launch) (D : va_G) (c : zC) (o : Nat) (g : zEp) (N : Nat) {x0 : Nat} {σ : zS} {ρ : Int32 × zS} (h : f_X5_passed N x0 σ = some ρ) : Met l yX5_passed zs_X5_passed (zr 2) (va_Pc [.ref (o + x0)] (zG D c o g σ)) (zQi D c o g ρ) 0 0 (zA o) := by
  refine zMetG (by decide) (Nat.le_of_ble_eq_true rfl) ?_
  intro p e s m below meth cd ⟨hx, hb, hr, hml, hown, hts, hlocks⟩ hP hK hE ls hl
  have hS : va_S (zA o) s.heap s.heap [] := va_S.rf
  have hl : lv_has ls 1 [(0, .ref (o + x0))] := hl
  rw [f_X5_passed.eq_1] at h
  refine lv_aload_n (pc := 0) hx hb dX5_passed_0 rfl (lv_at hl 0 rfl) ?_
  obtain ⟨v1, hv, h⟩ := zl_some h
  refine xgI (pc := 1) (j := 9) zc5 hx hb hts hown hK hP hv rfl zf_X5_41 dX5_passed_1 ?_
  refine lv_if_le (pc := 4) (tgt := 21) hx hb dX5_passed_4 (by decide) (fun c1 => ?_) (fun c1 => ?_)
  · rw [if_pos c1] at h
    refine lv_iconst (pc := 21) (v := 0) hx hb dX5_passed_21 (by decide) ?_
    exact xreti (pc := 22) hx hb hr hlocks hP hK hE hS h dX5_passed_22
  · rw [if_neg c1] at h
    refine lv_aload_n (pc := 7) hx hb dX5_passed_7 rfl (lv_at hl 0 rfl) ?_
    obtain ⟨v2, hv, h⟩ := zl_some h
    refine xgR (pc := 8) (j := 11) zc5 hx hb hts hown hK hP hv rfl zf_X5_47 dX5_passed_8 ?_
    refine lv_aload_n (pc := 11) hx hb dX5_passed_11 rfl (lv_at hl 0 rfl) ?_
    obtain ⟨v3, hv, h⟩ := zl_some h
    refine xgI (pc := 12) (j := 9) zc5 hx hb hts hown hK hP hv rfl zf_X5_41 dX5_passed_12 ?_
    refine lv_iconst (pc := 15) (v := 1) hx hb dX5_passed_15 (by decide) ?_
    refine lv_isub (pc := 16) hx hb dX5_passed_16 ?_
    obtain ⟨v4, hv, h⟩ := zl_some h
    refine xaI (pc := 17) hx hb hK hP hv dX5_passed_17 ?_
    refine lv_goto (pc := 18) (tgt := 22) hx hb dX5_passed_18 (by decide) ?_
    exact xreti (pc := 22) hx hb hr hlocks hP hK hE hS h dX5_passed_22
def J_X5_readEdge_49 (N : Nat) (x0 : Nat) (x1 : Nat) (x2 : Int32) (σ : zS) : Option (Int32 × zS) :=
  zl (gC 5 x0) fun _ => zb (f_X5_passNumber N x0 0 7 σ) fun v13 σ14 =>
  if v13 = 0 then
    (rZ 0 σ14)
  else
    (zl (gC 5 x0) fun _ => zb (f_X5_passed N x0 σ14) fun v15 σ16 =>
    zl (gC 10 x1) fun _ => zb (f_X10_addEdge N x1 x2 v15 σ16) fun v17 σ18 =>
    rZ 1 σ18)
def f_X5_readEdge (N : Nat) (x0 : Nat) (x1 : Nat) (σ : zS) : Option (Int32 × zS) :=
  zl (gC 5 x0) fun _ => zb (f_X5_passNumber N x0 0 7 σ) fun v1 σ2 =>
  if v1 = 0 then
    (rZ 0 σ2)
  else
    (zl (gC 5 x0) fun _ => zb (f_X5_passed N x0 σ2) fun v3 σ4 =>
    zl (gR 5 10 x0 σ4) fun v5 =>
    zl (gI 5 9 x0 σ4) fun v6 =>
    zl (aI 14 v5 v6 σ4) fun v7 =>
    if v7 = 3 then
      (zl (gR 5 11 x0 σ4) fun v8 =>
      zl (gI 5 9 x0 σ4) fun v9 =>
      zl (aI 14 v8 v9 σ4) fun v10 =>
      if v10 = v3 then
        (zl (gC 5 x0) fun _ => zb (f_X5_fail N x0 2 σ4) fun v11 σ12 =>
        rZ v11 σ12)
      else
        (J_X5_readEdge_49 N x0 x1 v3 σ4))
    else
      (J_X5_readEdge_49 N x0 x1 v3 σ4))
set_option maxHeartbeats 4000000 in
set_option maxRecDepth 100000 in
theorem c_X5_readEdge (l : Launch) (D : va_G) (c : zC) (o : Nat) (g : zEp) (N : Nat) {x0 : Nat} {x1 : Nat} {σ : zS} {ρ : Int32 × zS} (h : f_X5_readEdge N x0 x1 σ = some ρ) : Met l yX5_readEdge zs_X5_readEdge (zr 8) (va_Pc [.ref (o + x0), .ref (o + x1)] (zG D c o g σ)) (zQi D c o g ρ) 0 0 (zA o) := by
  refine zMetG (by decide) (Nat.le_of_ble_eq_true rfl) ?_
  intro p e s m below meth cd ⟨hx, hb, hr, hml, hown, hts, hlocks⟩ hP hK hE ls hl
  have hS : va_S (zA o) s.heap s.heap [] := va_S.rf
  have hl : lv_has ls 3 [(0, .ref (o + x0)), (1, .ref (o + x1))] := hl
  rw [f_X5_readEdge.eq_1] at h
  refine lv_aload_n (pc := 0) hx hb dX5_readEdge_0 rfl (lv_at hl 0 rfl) ?_
  refine lv_iconst (pc := 1) (v := 0) hx hb dX5_readEdge_1 (by decide) ?_
  refine lv_bipush (pc := 2) (v := 7) hx hb dX5_readEdge_2 (by decide) ?_
  obtain ⟨_, hg, h⟩ := zl_some h
  obtain ⟨v1, σ2, hv, h⟩ := zb_some h
  refine xcallVi (pc := 4) (As := [.int 0, .int 7]) (rest := []) ⟨hx, hb, hml, hown, hts⟩ (c_X5_passNumber l D c o g N hv) zc5 zV_X5_168 rfl zd_X5_passNumber ⟨Nat.le_of_ble_eq_true rfl, Nat.le_of_ble_eq_true rfl⟩ hK hP hE hS hg hl.1 rfl (Nat.le_of_ble_eq_true rfl) ⟨Nat.zero_le _, Nat.zero_le _⟩ dX5_readEdge_4 (fun H locs hP hS => ?_)
  refine lv_if_ne (pc := 7) (tgt := 12) hx hb dX5_readEdge_7 (by decide) (fun c1 => ?_) (fun c1 => ?_)
  · rw [if_neg c1] at h
    refine lv_aload_n (pc := 12) hx hb dX5_readEdge_12 rfl (lv_at hl 0 rfl) ?_
    obtain ⟨_, hg, h⟩ := zl_some h
    obtain ⟨v3, σ4, hv, h⟩ := zb_some h
    refine xcallVi (pc := 13) (As := []) (rest := []) ⟨hx, hb, hml, hown, hts⟩ (c_X5_passed l D c o g N hv) zc5 zV_X5_171 rfl zd_X5_passed ⟨Nat.le_of_ble_eq_true rfl, Nat.le_of_ble_eq_true rfl⟩ hK hP hE hS hg hl.1 rfl (Nat.le_of_ble_eq_true rfl) ⟨Nat.zero_le _, Nat.zero_le _⟩ dX5_readEdge_13 (fun H locs hP hS => ?_)
    refine lv_istore_n (pc := 16) (lv' := [(2, .int v3), (0, .ref (o + x0)), (1, .ref (o + x1))]) hx hb dX5_readEdge_16 rfl hl (by decide) rfl (fun ls hl => ?_)
    refine lv_aload_n (pc := 17) hx hb dX5_readEdge_17 rfl (lv_at hl 1 rfl) ?_
    obtain ⟨v5, hv, h⟩ := zl_some h
    refine xgR (pc := 18) (j := 10) zc5 hx hb hts hown hK hP hv rfl zf_X5_44 dX5_readEdge_18 ?_
    refine lv_aload_n (pc := 21) hx hb dX5_readEdge_21 rfl (lv_at hl 1 rfl) ?_
    obtain ⟨v6, hv, h⟩ := zl_some h
    refine xgI (pc := 22) (j := 9) zc5 hx hb hts hown hK hP hv rfl zf_X5_41 dX5_readEdge_22 ?_
    obtain ⟨v7, hv, h⟩ := zl_some h
    refine xaI (pc := 25) hx hb hK hP hv dX5_readEdge_25 ?_
    refine lv_iconst (pc := 26) (v := 3) hx hb dX5_readEdge_26 (by decide) ?_
    have hj49_8 : ∀ (σ8 : zS), J_X5_readEdge_49 N x0 x1 v3 σ8 = some ρ → ∀ (H : Heap) (locs : List Loc) (ls : Array Slot), zP D c o (zabs o σ8) H → va_S (zA o) s.heap H locs → lv_has ls 3 [(0, .ref (o + x0)), (1, .ref (o + x1)), (2, .int v3)] → W p l e (zr 8) s m (([.ref (o + x0), .ref (o + x1)] : List Value).toArray) below meth cd H locs 0 0 (MQ below (zQi D c o g ρ) (([.ref (o + x0), .ref (o + x1)] : List Value).toArray) s 0 0 (zA o)) (F0 m 49 ls []) := by
      intro σ8 h H locs ls hP hS hl
      rw [J_X5_readEdge_49.eq_1] at h
      refine lv_aload_n (pc := 49) hx hb dX5_readEdge_49 rfl (lv_at hl 0 rfl) ?_
      refine lv_iconst (pc := 50) (v := 0) hx hb dX5_readEdge_50 (by decide) ?_
      refine lv_bipush (pc := 51) (v := 7) hx hb dX5_readEdge_51 (by decide) ?_
      obtain ⟨_, hg, h⟩ := zl_some h
      obtain ⟨v9, σ10, hv, h⟩ := zb_some h
      refine xcallVi (pc := 53) (As := [.int 0, .int 7]) (rest := []) ⟨hx, hb, hml, hown, hts⟩ (c_X5_passNumber l D c o g N hv) zc5 zV_X5_168 rfl zd_X5_passNumber ⟨Nat.le_of_ble_eq_true rfl, Nat.le_of_ble_eq_true rfl⟩ hK hP hE hS hg hl.1 rfl (Nat.le_of_ble_eq_true rfl) ⟨Nat.zero_le _, Nat.zero_le _⟩ dX5_readEdge_53 (fun H locs hP hS => ?_)
      refine lv_if_ne (pc := 56) (tgt := 61) hx hb dX5_readEdge_56 (by decide) (fun c1 => ?_) (fun c1 => ?_)
      · rw [if_neg c1] at h
        refine lv_aload_n (pc := 61) hx hb dX5_readEdge_61 rfl (lv_at hl 1 rfl) ?_
        refine lv_iload_n (pc := 62) hx hb dX5_readEdge_62 rfl (lv_at hl 2 rfl) ?_
        refine lv_aload_n (pc := 63) hx hb dX5_readEdge_63 rfl (lv_at hl 0 rfl) ?_
        obtain ⟨_, hg, h⟩ := zl_some h
        obtain ⟨v11, σ12, hv, h⟩ := zb_some h
        refine xcallVi (pc := 64) (As := []) (rest := [.int v3, .ref (o + x1)]) ⟨hx, hb, hml, hown, hts⟩ (c_X5_passed l D c o g N hv) zc5 zV_X5_171 rfl zd_X5_passed ⟨Nat.le_of_ble_eq_true rfl, Nat.le_of_ble_eq_true rfl⟩ hK hP hE hS hg hl.1 rfl (Nat.le_of_ble_eq_true rfl) ⟨Nat.zero_le _, Nat.zero_le _⟩ dX5_readEdge_64 (fun H locs hP hS => ?_)
        obtain ⟨_, hg, h⟩ := zl_some h
        obtain ⟨v13, σ14, hv, h⟩ := zb_some h
        refine xcallVv (pc := 67) (As := [.int v3, .int v11]) (rest := []) ⟨hx, hb, hml, hown, hts⟩ (c_X10_addEdge l D c o g N hv) zc10 zV_X5_178 rfl zd_X10_addEdge ⟨Nat.le_of_ble_eq_true rfl, Nat.le_of_ble_eq_true rfl⟩ hK hP hE hS hg hl.1 rfl (Nat.le_of_ble_eq_true rfl) ⟨Nat.zero_le _, Nat.zero_le _⟩ dX5_readEdge_67 (fun H locs hP hS => ?_)
        refine lv_iconst (pc := 70) (v := 1) hx hb dX5_readEdge_70 (by decide) ?_
        exact xretz (pc := 71) hx hb hr hlocks hP hK hE hS h dX5_readEdge_71
      · rw [if_pos c1] at h
        refine lv_iconst (pc := 59) (v := 0) hx hb dX5_readEdge_59 (by decide) ?_
        exact xretz (pc := 60) hx hb hr hlocks hP hK hE hS h dX5_readEdge_60
    refine lv_icmp_ne (pc := 27) (tgt := 49) hx hb dX5_readEdge_27 (by decide) (fun c1 => ?_) (fun c1 => ?_)
    · rw [if_neg c1] at h
      exact hj49_8 σ4 h _ _ ls hP hS (lv_sub hl [1, 2, 0] rfl)
    · rw [if_pos c1] at h
      refine lv_aload_n (pc := 30) hx hb dX5_readEdge_30 rfl (lv_at hl 1 rfl) ?_
      obtain ⟨v15, hv, h⟩ := zl_some h
      refine xgR (pc := 31) (j := 11) zc5 hx hb hts hown hK hP hv rfl zf_X5_47 dX5_readEdge_31 ?_
      refine lv_aload_n (pc := 34) hx hb dX5_readEdge_34 rfl (lv_at hl 1 rfl) ?_
      obtain ⟨v16, hv, h⟩ := zl_some h
      refine xgI (pc := 35) (j := 9) zc5 hx hb hts hown hK hP hv rfl zf_X5_41 dX5_readEdge_35 ?_
      obtain ⟨v17, hv, h⟩ := zl_some h
      refine xaI (pc := 38) hx hb hK hP hv dX5_readEdge_38 ?_
      refine lv_iload_n (pc := 39) hx hb dX5_readEdge_39 rfl (lv_at hl 0 rfl) ?_
      refine lv_icmp_ne (pc := 40) (tgt := 49) hx hb dX5_readEdge_40 (by decide) (fun c1 => ?_) (fun c1 => ?_)
      · rw [if_neg c1] at h
        exact hj49_8 σ4 h _ _ ls hP hS (lv_sub hl [1, 2, 0] rfl)
      · rw [if_pos c1] at h
        refine lv_aload_n (pc := 43) hx hb dX5_readEdge_43 rfl (lv_at hl 1 rfl) ?_
        refine lv_iconst (pc := 44) (v := 2) hx hb dX5_readEdge_44 (by decide) ?_
        obtain ⟨_, hg, h⟩ := zl_some h
        obtain ⟨v18, σ19, hv, h⟩ := zb_some h
        refine xcallVi (pc := 45) (As := [.int 2]) (rest := []) ⟨hx, hb, hml, hown, hts⟩ (c_X5_fail l D c o g N hv) zc5 zV_X5_153 rfl zd_X5_fail ⟨Nat.le_of_ble_eq_true rfl, Nat.le_of_ble_eq_true rfl⟩ hK hP hE hS hg hl.1 rfl (Nat.le_of_ble_eq_true rfl) ⟨Nat.zero_le _, Nat.zero_le _⟩ dX5_readEdge_45 (fun H locs hP hS => ?_)
        exact xretz (pc := 48) hx hb hr hlocks hP hK hE hS h dX5_readEdge_48
  · rw [if_pos c1] at h
    refine lv_iconst (pc := 10) (v := 0) hx hb dX5_readEdge_10 (by decide) ?_
    exact xretz (pc := 11) hx hb hr hlocks hP hK hE hS h dX5_readEdge_11
def f_X5_readNames (N : Nat) (x0 : Nat) (x1 : Nat) (σ : zS) : Option (Int32 × zS) :=
  zl (gC 5 x0) fun _ => zb (f_X5_passNumber N x0 1 10 σ) fun v1 σ2 =>
  if v1 = 0 then
    (rZ 0 σ2)
  else
    (zl (gC 5 x0) fun _ => zb (f_X5_passed N x0 σ2) fun v3 σ4 =>
    zl (pI 5 7 x0 v3 σ4) fun σ5 =>
    zl (gI 5 7 x0 σ5) fun v6 =>
    zl (pI 10 0 x1 v6 σ5) fun σ7 =>
    rZ 1 σ7)
set_option maxHeartbeats 4000000 in
set_option maxRecDepth 100000 in
theorem c_X5_readNames (l : Launch) (D : va_G) (c : zC) (o : Nat) (g : zEp) (N : Nat) {x0 : Nat} {x1 : Nat} {σ : zS} {ρ : Int32 × zS} (h : f_X5_readNames N x0 x1 σ = some ρ) : Met l yX5_readNames zs_X5_readNames (zr 8) (va_Pc [.ref (o + x0), .ref (o + x1)] (zG D c o g σ)) (zQi D c o g ρ) 0 0 (zA o) := by
  refine zMetG (by decide) (Nat.le_of_ble_eq_true rfl) ?_
  intro p e s m below meth cd ⟨hx, hb, hr, hml, hown, hts, hlocks⟩ hP hK hE ls hl
  have hS : va_S (zA o) s.heap s.heap [] := va_S.rf
  have hl : lv_has ls 2 [(0, .ref (o + x0)), (1, .ref (o + x1))] := hl
  rw [f_X5_readNames.eq_1] at h
  refine lv_aload_n (pc := 0) hx hb dX5_readNames_0 rfl (lv_at hl 0 rfl) ?_
  refine lv_iconst (pc := 1) (v := 1) hx hb dX5_readNames_1 (by decide) ?_
  refine lv_bipush (pc := 2) (v := 10) hx hb dX5_readNames_2 (by decide) ?_
  obtain ⟨_, hg, h⟩ := zl_some h
  obtain ⟨v1, σ2, hv, h⟩ := zb_some h
  refine xcallVi (pc := 4) (As := [.int 1, .int 10]) (rest := []) ⟨hx, hb, hml, hown, hts⟩ (c_X5_passNumber l D c o g N hv) zc5 zV_X5_168 rfl zd_X5_passNumber ⟨Nat.le_of_ble_eq_true rfl, Nat.le_of_ble_eq_true rfl⟩ hK hP hE hS hg hl.1 rfl (Nat.le_of_ble_eq_true rfl) ⟨Nat.zero_le _, Nat.zero_le _⟩ dX5_readNames_4 (fun H locs hP hS => ?_)
  refine lv_if_ne (pc := 7) (tgt := 12) hx hb dX5_readNames_7 (by decide) (fun c1 => ?_) (fun c1 => ?_)
  · rw [if_neg c1] at h
    refine lv_aload_n (pc := 12) hx hb dX5_readNames_12 rfl (lv_at hl 0 rfl) ?_
    refine lv_aload_n (pc := 13) hx hb dX5_readNames_13 rfl (lv_at hl 0 rfl) ?_
    obtain ⟨_, hg, h⟩ := zl_some h
    obtain ⟨v3, σ4, hv, h⟩ := zb_some h
    refine xcallVi (pc := 14) (As := []) (rest := [.ref (o + x0)]) ⟨hx, hb, hml, hown, hts⟩ (c_X5_passed l D c o g N hv) zc5 zV_X5_171 rfl zd_X5_passed ⟨Nat.le_of_ble_eq_true rfl, Nat.le_of_ble_eq_true rfl⟩ hK hP hE hS hg hl.1 rfl (Nat.le_of_ble_eq_true rfl) ⟨Nat.zero_le _, Nat.zero_le _⟩ dX5_readNames_14 (fun H locs hP hS => ?_)
    obtain ⟨σ5, hv, h⟩ := zl_some h
    refine xpI (pc := 17) (j := 7) zc5 hx hb hts hown hK hP hS hv rfl rfl rfl zf_X5_35 dX5_readNames_17 (fun H locs hP hS => ?_)
    refine lv_aload_n (pc := 20) hx hb dX5_readNames_20 rfl (lv_at hl 1 rfl) ?_
    refine lv_aload_n (pc := 21) hx hb dX5_readNames_21 rfl (lv_at hl 0 rfl) ?_
    obtain ⟨v6, hv, h⟩ := zl_some h
    refine xgI (pc := 22) (j := 7) zc5 hx hb hts hown hK hP hv rfl zf_X5_35 dX5_readNames_22 ?_
    obtain ⟨σ7, hv, h⟩ := zl_some h
    refine xpI (pc := 25) (j := 0) zc10 hx hb hts hown hK hP hS hv rfl rfl rfl zf_X5_174 dX5_readNames_25 (fun H locs hP hS => ?_)
    refine lv_iconst (pc := 28) (v := 1) hx hb dX5_readNames_28 (by decide) ?_
    exact xretz (pc := 29) hx hb hr hlocks hP hK hE hS h dX5_readNames_29
  · rw [if_pos c1] at h
    refine lv_iconst (pc := 10) (v := 0) hx hb dX5_readNames_10 (by decide) ?_
    exact xretz (pc := 11) hx hb hr hlocks hP hK hE hS h dX5_readNames_11
def J_X5_readWeight_83 (N : Nat) (x0 : Nat) (x1 : Nat) (x2 : Int32) (y0 : Int32) (σ : zS) : Option (Int32 × zS) :=
  zl (gC 5 x0) fun _ => zb (f_X5_advance N x0 y0 2 σ) fun v15 σ16 =>
  if v15 = 0 then
    (rZ 0 σ16)
  else
    (zl (gC 5 x0) fun _ => zb (f_X5_passNumber N x0 0 99 σ16) fun v17 σ18 =>
    if v17 = 0 then
      (rZ 0 σ18)
    else
      (zl (gR 10 5 x1 σ18) fun v19 =>
      zl (gC 5 x0) fun _ => zb (f_X5_passed N x0 σ18) fun v20 σ21 =>
      zl (sI 14 v19 x2 v20 σ21) fun σ22 =>
      rZ 1 σ22))
def f_X5_readWeight (N : Nat) (x0 : Nat) (x1 : Nat) (σ : zS) : Option (Int32 × zS) :=
  zl (gR 5 10 x0 σ) fun v1 =>
  zl (gI 5 9 x0 σ) fun v2 =>
  zl (aI 14 v1 v2 σ) fun v3 =>
  if v3 = 2 then
    (zl (gR 5 13 x0 σ) fun v4 =>
    zl (gI 5 9 x0 σ) fun v5 =>
    zl (aI 14 v4 v5 σ) fun v6 =>
    zl (gR 5 12 x0 σ) fun v7 =>
    zl (gI 5 9 x0 σ) fun v8 =>
    zl (aI 14 v7 v8 σ) fun v9 =>
    if (v6 - v9) = 1 then
      (zl (gR 5 5 x0 σ) fun v10 =>
      zl (gR 5 12 x0 σ) fun v11 =>
      zl (gI 5 9 x0 σ) fun v12 =>
      zl (aI 14 v11 v12 σ) fun v13 =>
      zl (aI 13 v10 v13 σ) fun v14 =>
      if (v14 - 97) < 0 then
        (J_X5_readWeight_83 N x0 x1 (v14 - 97) 0 σ)
      else
        (zl (gI 5 7 x0 σ) fun v23 =>
        if v23 ≤ (v14 - 97) then
          (J_X5_readWeight_83 N x0 x1 (v14 - 97) 0 σ)
        else
          (if 10 ≤ (v14 - 97) then
            (J_X5_readWeight_83 N x0 x1 (v14 - 97) 0 σ)
          else
            (J_X5_readWeight_83 N x0 x1 (v14 - 97) 1 σ))))
    else
      (zl (gC 5 x0) fun _ => zb (f_X5_fail N x0 1 σ) fun v24 σ25 =>
      rZ v24 σ25))
  else
    (zl (gC 5 x0) fun _ => zb (f_X5_fail N x0 1 σ) fun v26 σ27 =>
    rZ v26 σ27)
set_option maxHeartbeats 4000000 in
set_option maxRecDepth 100000 in
theorem c_X5_readWeight (l : Launch) (D : va_G) (c : zC) (o : Nat) (g : zEp) (N : Nat) {x0 : Nat} {x1 : Nat} {σ : zS} {ρ : Int32 × zS} (h : f_X5_readWeight N x0 x1 σ = some ρ) : Met l yX5_readWeight zs_X5_readWeight (zr 8) (va_Pc [.ref (o + x0), .ref (o + x1)] (zG D c o g σ)) (zQi D c o g ρ) 0 0 (zA o) := by
  refine zMetG (by decide) (Nat.le_of_ble_eq_true rfl) ?_
  intro p e s m below meth cd ⟨hx, hb, hr, hml, hown, hts, hlocks⟩ hP hK hE ls hl
  have hS : va_S (zA o) s.heap s.heap [] := va_S.rf
  have hl : lv_has ls 4 [(0, .ref (o + x0)), (1, .ref (o + x1))] := hl
  rw [f_X5_readWeight.eq_1] at h
  refine lv_aload_n (pc := 0) hx hb dX5_readWeight_0 rfl (lv_at hl 0 rfl) ?_
  obtain ⟨v1, hv, h⟩ := zl_some h
  refine xgR (pc := 1) (j := 10) zc5 hx hb hts hown hK hP hv rfl zf_X5_44 dX5_readWeight_1 ?_
  refine lv_aload_n (pc := 4) hx hb dX5_readWeight_4 rfl (lv_at hl 0 rfl) ?_
  obtain ⟨v2, hv, h⟩ := zl_some h
  refine xgI (pc := 5) (j := 9) zc5 hx hb hts hown hK hP hv rfl zf_X5_41 dX5_readWeight_5 ?_
  obtain ⟨v3, hv, h⟩ := zl_some h
  refine xaI (pc := 8) hx hb hK hP hv dX5_readWeight_8 ?_
  refine lv_iconst (pc := 9) (v := 2) hx hb dX5_readWeight_9 (by decide) ?_
  refine lv_icmp_ne (pc := 10) (tgt := 36) hx hb dX5_readWeight_10 (by decide) (fun c1 => ?_) (fun c1 => ?_)
  · rw [if_neg c1] at h
    refine lv_aload_n (pc := 36) hx hb dX5_readWeight_36 rfl (lv_at hl 0 rfl) ?_
    refine lv_iconst (pc := 37) (v := 1) hx hb dX5_readWeight_37 (by decide) ?_
    obtain ⟨_, hg, h⟩ := zl_some h
    obtain ⟨v4, σ5, hv, h⟩ := zb_some h
    refine xcallVi (pc := 38) (As := [.int 1]) (rest := []) ⟨hx, hb, hml, hown, hts⟩ (c_X5_fail l D c o g N hv) zc5 zV_X5_153 rfl zd_X5_fail ⟨Nat.le_of_ble_eq_true rfl, Nat.le_of_ble_eq_true rfl⟩ hK hP hE hS hg hl.1 rfl (Nat.le_of_ble_eq_true rfl) ⟨Nat.zero_le _, Nat.zero_le _⟩ dX5_readWeight_38 (fun H locs hP hS => ?_)
    exact xretz (pc := 41) hx hb hr hlocks hP hK hE hS h dX5_readWeight_41
  · rw [if_pos c1] at h
    refine lv_aload_n (pc := 13) hx hb dX5_readWeight_13 rfl (lv_at hl 0 rfl) ?_
    obtain ⟨v6, hv, h⟩ := zl_some h
    refine xgR (pc := 14) (j := 13) zc5 hx hb hts hown hK hP hv rfl zf_X5_53 dX5_readWeight_14 ?_
    refine lv_aload_n (pc := 17) hx hb dX5_readWeight_17 rfl (lv_at hl 0 rfl) ?_
    obtain ⟨v7, hv, h⟩ := zl_some h
    refine xgI (pc := 18) (j := 9) zc5 hx hb hts hown hK hP hv rfl zf_X5_41 dX5_readWeight_18 ?_
    obtain ⟨v8, hv, h⟩ := zl_some h
    refine xaI (pc := 21) hx hb hK hP hv dX5_readWeight_21 ?_
    refine lv_aload_n (pc := 22) hx hb dX5_readWeight_22 rfl (lv_at hl 0 rfl) ?_
    obtain ⟨v9, hv, h⟩ := zl_some h
    refine xgR (pc := 23) (j := 12) zc5 hx hb hts hown hK hP hv rfl zf_X5_50 dX5_readWeight_23 ?_
    refine lv_aload_n (pc := 26) hx hb dX5_readWeight_26 rfl (lv_at hl 0 rfl) ?_
    obtain ⟨v10, hv, h⟩ := zl_some h
    refine xgI (pc := 27) (j := 9) zc5 hx hb hts hown hK hP hv rfl zf_X5_41 dX5_readWeight_27 ?_
    obtain ⟨v11, hv, h⟩ := zl_some h
    refine xaI (pc := 30) hx hb hK hP hv dX5_readWeight_30 ?_
    refine lv_isub (pc := 31) hx hb dX5_readWeight_31 ?_
    refine lv_iconst (pc := 32) (v := 1) hx hb dX5_readWeight_32 (by decide) ?_
    refine lv_icmp_eq (pc := 33) (tgt := 42) hx hb dX5_readWeight_33 (by decide) (fun c1 => ?_) (fun c1 => ?_)
    · rw [if_pos c1] at h
      refine lv_aload_n (pc := 42) hx hb dX5_readWeight_42 rfl (lv_at hl 0 rfl) ?_
      obtain ⟨v12, hv, h⟩ := zl_some h
      refine xgR (pc := 43) (j := 5) zc5 hx hb hts hown hK hP hv rfl zf_X5_28 dX5_readWeight_43 ?_
      refine lv_aload_n (pc := 46) hx hb dX5_readWeight_46 rfl (lv_at hl 0 rfl) ?_
      obtain ⟨v13, hv, h⟩ := zl_some h
      refine xgR (pc := 47) (j := 12) zc5 hx hb hts hown hK hP hv rfl zf_X5_50 dX5_readWeight_47 ?_
      refine lv_aload_n (pc := 50) hx hb dX5_readWeight_50 rfl (lv_at hl 0 rfl) ?_
      obtain ⟨v14, hv, h⟩ := zl_some h
      refine xgI (pc := 51) (j := 9) zc5 hx hb hts hown hK hP hv rfl zf_X5_41 dX5_readWeight_51 ?_
      obtain ⟨v15, hv, h⟩ := zl_some h
      refine xaI (pc := 54) hx hb hK hP hv dX5_readWeight_54 ?_
      obtain ⟨v16, hv, h⟩ := zl_some h
      refine xaB (pc := 55) hx hb hK hP hv dX5_readWeight_55 ?_
      refine lv_bipush (pc := 56) (v := 97) hx hb dX5_readWeight_56 (by decide) ?_
      refine lv_isub (pc := 58) hx hb dX5_readWeight_58 ?_
      refine lv_istore_n (pc := 59) (lv' := [(2, .int (v16 - 97)), (0, .ref (o + x0)), (1, .ref (o + x1))]) hx hb dX5_readWeight_59 rfl hl (by decide) rfl (fun ls hl => ?_)
      refine lv_iload_n (pc := 60) hx hb dX5_readWeight_60 rfl (lv_at hl 0 rfl) ?_
      have hj83_17 : ∀ (y0_17 : Int32) (σ17 : zS), J_X5_readWeight_83 N x0 x1 (v16 - 97) y0_17 σ17 = some ρ → ∀ (H : Heap) (locs : List Loc) (ls : Array Slot), zP D c o (zabs o σ17) H → va_S (zA o) s.heap H locs → lv_has ls 4 [(0, .ref (o + x0)), (1, .ref (o + x1)), (2, .int (v16 - 97))] → W p l e (zr 8) s m (([.ref (o + x0), .ref (o + x1)] : List Value).toArray) below meth cd H locs 0 0 (MQ below (zQi D c o g ρ) (([.ref (o + x0), .ref (o + x1)] : List Value).toArray) s 0 0 (zA o)) (F0 m 83 ls [.int y0_17]) := by
        intro y0_17 σ17 h H locs ls hP hS hl
        rw [J_X5_readWeight_83.eq_1] at h
        refine lv_istore_n (pc := 83) (lv' := [(3, .int y0_17), (0, .ref (o + x0)), (1, .ref (o + x1)), (2, .int (v16 - 97))]) hx hb dX5_readWeight_83 rfl hl (by decide) rfl (fun ls hl => ?_)
        refine lv_aload_n (pc := 84) hx hb dX5_readWeight_84 rfl (lv_at hl 1 rfl) ?_
        refine lv_iload_n (pc := 85) hx hb dX5_readWeight_85 rfl (lv_at hl 0 rfl) ?_
        refine lv_iconst (pc := 86) (v := 2) hx hb dX5_readWeight_86 (by decide) ?_
        obtain ⟨_, hg, h⟩ := zl_some h
        obtain ⟨v18, σ19, hv, h⟩ := zb_some h
        refine xcallVi (pc := 87) (As := [.int y0_17, .int 2]) (rest := []) ⟨hx, hb, hml, hown, hts⟩ (c_X5_advance l D c o g N hv) zc5 zV_X5_149 rfl zd_X5_advance ⟨Nat.le_of_ble_eq_true rfl, Nat.le_of_ble_eq_true rfl⟩ hK hP hE hS hg hl.1 rfl (Nat.le_of_ble_eq_true rfl) ⟨Nat.zero_le _, Nat.zero_le _⟩ dX5_readWeight_87 (fun H locs hP hS => ?_)
        refine lv_if_eq (pc := 90) (tgt := 103) hx hb dX5_readWeight_90 (by decide) (fun c1 => ?_) (fun c1 => ?_)
        · rw [if_pos c1] at h
          refine lv_iconst (pc := 103) (v := 0) hx hb dX5_readWeight_103 (by decide) ?_
          exact xretz (pc := 104) hx hb hr hlocks hP hK hE hS h dX5_readWeight_104
        · rw [if_neg c1] at h
          refine lv_aload_n (pc := 93) hx hb dX5_readWeight_93 rfl (lv_at hl 1 rfl) ?_
          refine lv_iconst (pc := 94) (v := 0) hx hb dX5_readWeight_94 (by decide) ?_
          refine lv_bipush (pc := 95) (v := 99) hx hb dX5_readWeight_95 (by decide) ?_
          obtain ⟨_, hg, h⟩ := zl_some h
          obtain ⟨v20, σ21, hv, h⟩ := zb_some h
          refine xcallVi (pc := 97) (As := [.int 0, .int 99]) (rest := []) ⟨hx, hb, hml, hown, hts⟩ (c_X5_passNumber l D c o g N hv) zc5 zV_X5_168 rfl zd_X5_passNumber ⟨Nat.le_of_ble_eq_true rfl, Nat.le_of_ble_eq_true rfl⟩ hK hP hE hS hg hl.1 rfl (Nat.le_of_ble_eq_true rfl) ⟨Nat.zero_le _, Nat.zero_le _⟩ dX5_readWeight_97 (fun H locs hP hS => ?_)
          refine lv_if_ne (pc := 100) (tgt := 105) hx hb dX5_readWeight_100 (by decide) (fun c1 => ?_) (fun c1 => ?_)
          · rw [if_neg c1] at h
            refine lv_aload_n (pc := 105) hx hb dX5_readWeight_105 rfl (lv_at hl 2 rfl) ?_
            obtain ⟨v22, hv, h⟩ := zl_some h
            refine xgR (pc := 106) (j := 5) zc10 hx hb hts hown hK hP hv rfl zf_X5_175 dX5_readWeight_106 ?_
            refine lv_iload_n (pc := 109) hx hb dX5_readWeight_109 rfl (lv_at hl 3 rfl) ?_
            refine lv_aload_n (pc := 110) hx hb dX5_readWeight_110 rfl (lv_at hl 1 rfl) ?_
            obtain ⟨_, hg, h⟩ := zl_some h
            obtain ⟨v23, σ24, hv, h⟩ := zb_some h
            refine xcallVi (pc := 111) (As := []) (rest := [.int (v16 - 97), .ref (o + v22)]) ⟨hx, hb, hml, hown, hts⟩ (c_X5_passed l D c o g N hv) zc5 zV_X5_171 rfl zd_X5_passed ⟨Nat.le_of_ble_eq_true rfl, Nat.le_of_ble_eq_true rfl⟩ hK hP hE hS hg hl.1 rfl (Nat.le_of_ble_eq_true rfl) ⟨Nat.zero_le _, Nat.zero_le _⟩ dX5_readWeight_111 (fun H locs hP hS => ?_)
            obtain ⟨σ25, hv, h⟩ := zl_some h
            refine xsI (pc := 114) hx hb hK hP hS hv dX5_readWeight_114 (fun H locs hP hS => ?_)
            refine lv_iconst (pc := 115) (v := 1) hx hb dX5_readWeight_115 (by decide) ?_
            exact xretz (pc := 116) hx hb hr hlocks hP hK hE hS h dX5_readWeight_116
          · rw [if_pos c1] at h
            refine lv_iconst (pc := 103) (v := 0) hx hb dX5_readWeight_103 (by decide) ?_
            exact xretz (pc := 104) hx hb hr hlocks hP hK hE hS h dX5_readWeight_104
      refine lv_if_lt (pc := 61) (tgt := 82) hx hb dX5_readWeight_61 (by decide) (fun c1 => ?_) (fun c1 => ?_)
      · rw [if_pos c1] at h
        refine lv_iconst (pc := 82) (v := 0) hx hb dX5_readWeight_82 (by decide) ?_
        exact hj83_17 (0) σ h _ _ ls hP hS (lv_sub hl [1, 2, 0] rfl)
      · rw [if_neg c1] at h
        refine lv_iload_n (pc := 64) hx hb dX5_readWeight_64 rfl (lv_at hl 0 rfl) ?_
        refine lv_aload_n (pc := 65) hx hb dX5_readWeight_65 rfl (lv_at hl 1 rfl) ?_
        obtain ⟨v26, hv, h⟩ := zl_some h
        refine xgI (pc := 66) (j := 7) zc5 hx hb hts hown hK hP hv rfl zf_X5_35 dX5_readWeight_66 ?_
        refine lv_icmp_ge (pc := 69) (tgt := 82) hx hb dX5_readWeight_69 (by decide) (fun c1 => ?_) (fun c1 => ?_)
        · rw [if_pos c1] at h
          refine lv_iconst (pc := 82) (v := 0) hx hb dX5_readWeight_82 (by decide) ?_
          exact hj83_17 (0) σ h _ _ ls hP hS (lv_sub hl [1, 2, 0] rfl)
        · rw [if_neg c1] at h
          refine lv_iload_n (pc := 72) hx hb dX5_readWeight_72 rfl (lv_at hl 0 rfl) ?_
          refine lv_bipush (pc := 73) (v := 10) hx hb dX5_readWeight_73 (by decide) ?_
          refine lv_icmp_ge (pc := 75) (tgt := 82) hx hb dX5_readWeight_75 (by decide) (fun c1 => ?_) (fun c1 => ?_)
          · rw [if_pos c1] at h
            refine lv_iconst (pc := 82) (v := 0) hx hb dX5_readWeight_82 (by decide) ?_
            exact hj83_17 (0) σ h _ _ ls hP hS (lv_sub hl [1, 2, 0] rfl)
          · rw [if_neg c1] at h
            refine lv_iconst (pc := 78) (v := 1) hx hb dX5_readWeight_78 (by decide) ?_
            refine lv_goto (pc := 79) (tgt := 83) hx hb dX5_readWeight_79 (by decide) ?_
            exact hj83_17 (1) σ h _ _ ls hP hS (lv_sub hl [1, 2, 0] rfl)
    · rw [if_neg c1] at h
      refine lv_aload_n (pc := 36) hx hb dX5_readWeight_36 rfl (lv_at hl 0 rfl) ?_
      refine lv_iconst (pc := 37) (v := 1) hx hb dX5_readWeight_37 (by decide) ?_
      obtain ⟨_, hg, h⟩ := zl_some h
      obtain ⟨v27, σ28, hv, h⟩ := zb_some h
      refine xcallVi (pc := 38) (As := [.int 1]) (rest := []) ⟨hx, hb, hml, hown, hts⟩ (c_X5_fail l D c o g N hv) zc5 zV_X5_153 rfl zd_X5_fail ⟨Nat.le_of_ble_eq_true rfl, Nat.le_of_ble_eq_true rfl⟩ hK hP hE hS hg hl.1 rfl (Nat.le_of_ble_eq_true rfl) ⟨Nat.zero_le _, Nat.zero_le _⟩ dX5_readWeight_38 (fun H locs hP hS => ?_)
      exact xretz (pc := 41) hx hb hr hlocks hP hK hE hS h dX5_readWeight_41
def J_X5_member_31 (N : Nat) (x0 : Nat) (y0 : Int32) (y1 : Nat) (σ : zS) : Option (Int32 × zS) :=
  zl (gC 5 y1) fun _ => zb (f_X5_advance N y1 y0 2 σ) fun v7 σ8 =>
  if v7 = 0 then
    (rZ 0 σ8)
  else
    (zl (gC 5 x0) fun _ => zb (f_X5_emit N x0 3 0 σ8) fun v9 σ10 =>
    if v9 = 0 then
      (rZ 0 σ10)
    else
      (rZ 1 σ10))
def J_X5_member_173 (N : Nat) (x0 : Nat) (x1 : Int32) (x2 : Int32) (σ : zS) : Option (Int32 × zS) :=
  zl (gC 5 x0) fun _ => zb (f_X5_advance N x0 x2 2 σ) fun v20 σ21 =>
  if v20 = 0 then
    (rZ 0 σ21)
  else
    (zl (gC 5 x0) fun _ => zb (f_X5_emit N x0 3 x1 σ21) fun v22 σ23 =>
    if v22 = 0 then
      (rZ 0 σ23)
    else
      (rZ 1 σ23))
def J_X5_member_151 (N : Nat) (again87 : (Int32 × Int32 × Int32 × zS) → Option (Int32 × zS)) (x0 : Nat) (x1 : Int32) (x3 : Int32) (x4 : Int32) (y0 : Int32) (σ : zS) : Option (Int32 × zS) :=
  if y0 = 0 then
    (again87 (x1 ||| 0, y0, x3 + 1, σ))
  else
    (again87 (x1 ||| ((1 : Int32) <<< (x4 &&& 31)), y0, x3 + 1, σ))
def F_X5_member_87 (N : Nat) (x0 : Nat) (again87 : (Int32 × Int32 × Int32 × zS) → Option (Int32 × zS)) : Int32 × Int32 × Int32 × zS → Option (Int32 × zS)
  | (x1, x2, x3, σ) =>
  zl (gR 5 13 x0 σ) fun v17 =>
  zl (gI 5 9 x0 σ) fun v18 =>
  zl (aI 14 v17 v18 σ) fun v19 =>
  if v19 ≤ x3 then
    (J_X5_member_173 N x0 x1 x2 σ)
  else
    (zl (gI 5 6 x0 σ) fun v24 =>
    if v24 ≤ x3 then
      (J_X5_member_173 N x0 x1 x2 σ)
    else
      (zl (gR 5 5 x0 σ) fun v25 =>
      zl (aI 13 v25 x3 σ) fun v26 =>
      if x2 = 0 then
        (J_X5_member_151 N again87 x0 x1 x3 (v26 - 97) 0 σ)
      else
        (if (v26 - 97) < 0 then
          (J_X5_member_151 N again87 x0 x1 x3 (v26 - 97) 0 σ)
        else
          (zl (gI 5 7 x0 σ) fun v27 =>
          if v27 ≤ (v26 - 97) then
            (J_X5_member_151 N again87 x0 x1 x3 (v26 - 97) 0 σ)
          else
            (if (((x1 : Int32) >>> ((v26 - 97) &&& 31)) &&& 1) = 0 then
              (J_X5_member_151 N again87 x0 x1 x3 (v26 - 97) 1 σ)
            else
              (J_X5_member_151 N again87 x0 x1 x3 (v26 - 97) 0 σ))))))
def f_X5_member (N : Nat) (x0 : Nat) (σ : zS) : Option (Int32 × zS) :=
  zl (gR 5 10 x0 σ) fun v1 =>
  zl (gI 5 9 x0 σ) fun v2 =>
  zl (aI 14 v1 v2 σ) fun v3 =>
  if v3 = 3 then
    (zl (gR 5 11 x0 σ) fun v4 =>
    zl (gI 5 9 x0 σ) fun v5 =>
    zl (aI 14 v4 v5 σ) fun v6 =>
    if v6 = 0 then
      (J_X5_member_31 N x0 1 x0 σ)
    else
      (J_X5_member_31 N x0 0 x0 σ))
  else
    (zl (gR 5 10 x0 σ) fun v11 =>
    zl (gI 5 9 x0 σ) fun v12 =>
    zl (aI 14 v11 v12 σ) fun v13 =>
    if v13 = 2 then
      (zl (gR 5 12 x0 σ) fun v14 =>
      zl (gI 5 9 x0 σ) fun v15 =>
      zl (aI 14 v14 v15 σ) fun v16 =>
      zlp (F_X5_member_87 N x0) N (0, 1, v16, σ))
    else
      (zl (gC 5 x0) fun _ => zb (f_X5_advance N x0 0 1 σ) fun v28 σ29 =>
      rZ v28 σ29))
set_option maxHeartbeats 4000000 in
set_option maxRecDepth 100000 in
theorem c_X5_member (l : Launch) (D : va_G) (c : zC) (o : Nat) (g : zEp) (N : Nat) {x0 : Nat} {σ : zS} {ρ : Int32 × zS} (h : f_X5_member N x0 σ = some ρ) : Met l yX5_member zs_X5_member (zr 4) (va_Pc [.ref (o + x0)] (zG D c o g σ)) (zQi D c o g ρ) 0 0 (zA o) := by
  refine zMetG (by decide) (Nat.le_of_ble_eq_true rfl) ?_
  intro p e s m below meth cd ⟨hx, hb, hr, hml, hown, hts, hlocks⟩ hP hK hE ls hl
  have hS : va_S (zA o) s.heap s.heap [] := va_S.rf
  have hl : lv_has ls 5 [(0, .ref (o + x0))] := hl
  rw [f_X5_member.eq_1] at h
  refine lv_aload_n (pc := 0) hx hb dX5_member_0 rfl (lv_at hl 0 rfl) ?_
  obtain ⟨v1, hv, h⟩ := zl_some h
  refine xgR (pc := 1) (j := 10) zc5 hx hb hts hown hK hP hv rfl zf_X5_44 dX5_member_1 ?_
  refine lv_aload_n (pc := 4) hx hb dX5_member_4 rfl (lv_at hl 0 rfl) ?_
  obtain ⟨v2, hv, h⟩ := zl_some h
  refine xgI (pc := 5) (j := 9) zc5 hx hb hts hown hK hP hv rfl zf_X5_41 dX5_member_5 ?_
  obtain ⟨v3, hv, h⟩ := zl_some h
  refine xaI (pc := 8) hx hb hK hP hv dX5_member_8 ?_
  refine lv_iconst (pc := 9) (v := 3) hx hb dX5_member_9 (by decide) ?_
  refine lv_icmp_ne (pc := 10) (tgt := 53) hx hb dX5_member_10 (by decide) (fun c1 => ?_) (fun c1 => ?_)
  · rw [if_neg c1] at h
    refine lv_aload_n (pc := 53) hx hb dX5_member_53 rfl (lv_at hl 0 rfl) ?_
    obtain ⟨v4, hv, h⟩ := zl_some h
    refine xgR (pc := 54) (j := 10) zc5 hx hb hts hown hK hP hv rfl zf_X5_44 dX5_member_54 ?_
    refine lv_aload_n (pc := 57) hx hb dX5_member_57 rfl (lv_at hl 0 rfl) ?_
    obtain ⟨v5, hv, h⟩ := zl_some h
    refine xgI (pc := 58) (j := 9) zc5 hx hb hts hown hK hP hv rfl zf_X5_41 dX5_member_58 ?_
    obtain ⟨v6, hv, h⟩ := zl_some h
    refine xaI (pc := 61) hx hb hK hP hv dX5_member_61 ?_
    refine lv_iconst (pc := 62) (v := 2) hx hb dX5_member_62 (by decide) ?_
    refine lv_icmp_eq (pc := 63) (tgt := 73) hx hb dX5_member_63 (by decide) (fun c1 => ?_) (fun c1 => ?_)
    · rw [if_pos c1] at h
      refine lv_iconst (pc := 73) (v := 0) hx hb dX5_member_73 (by decide) ?_
      refine lv_istore_n (pc := 74) (lv' := [(1, .int 0), (0, .ref (o + x0))]) hx hb dX5_member_74 rfl hl (by decide) rfl (fun ls hl => ?_)
      refine lv_iconst (pc := 75) (v := 1) hx hb dX5_member_75 (by decide) ?_
      refine lv_istore_n (pc := 76) (lv' := [(2, .int 1), (1, .int 0), (0, .ref (o + x0))]) hx hb dX5_member_76 rfl hl (by decide) rfl (fun ls hl => ?_)
      refine lv_aload_n (pc := 77) hx hb dX5_member_77 rfl (lv_at hl 2 rfl) ?_
      obtain ⟨v7, hv, h⟩ := zl_some h
      refine xgR (pc := 78) (j := 12) zc5 hx hb hts hown hK hP hv rfl zf_X5_50 dX5_member_78 ?_
      refine lv_aload_n (pc := 81) hx hb dX5_member_81 rfl (lv_at hl 2 rfl) ?_
      obtain ⟨v8, hv, h⟩ := zl_some h
      refine xgI (pc := 82) (j := 9) zc5 hx hb hts hown hK hP hv rfl zf_X5_41 dX5_member_82 ?_
      obtain ⟨v9, hv, h⟩ := zl_some h
      refine xaI (pc := 85) hx hb hK hP hv dX5_member_85 ?_
      refine lv_istore_n (pc := 86) (lv' := [(3, .int v9), (2, .int 1), (1, .int 0), (0, .ref (o + x0))]) hx hb dX5_member_86 rfl hl (by decide) rfl (fun ls hl => ?_)
      have L87_10 : ∀ (n : Nat) (t : Int32 × Int32 × Int32 × zS), zlp (F_X5_member_87 N x0) n t = some ρ → ∀ (H : Heap) (locs : List Loc) (ls : Array Slot), zP D c o (zabs o (t.2.2.2)) H → va_S (zA o) s.heap H locs → lv_has ls 5 [(1, .int (t.1)), (2, .int (t.2.1)), (3, .int (t.2.2.1)), (0, .ref (o + x0))] → W p l e (zr 4) s m (([.ref (o + x0)] : List Value).toArray) below meth cd H locs 0 0 (MQ below (zQi D c o g ρ) (([.ref (o + x0)] : List Value).toArray) s 0 0 (zA o)) (F0 m 87 ls []) := by
        refine zlp_ind (fun ag10 ih10 t h H locs ls hP hS hl => ?_)
        obtain ⟨x1_10, x2_10, x3_10, σ10⟩ := t
        have hP : zP D c o (zabs o σ10) H := hP
        have hl : lv_has ls 5 [(1, .int x1_10), (2, .int x2_10), (3, .int x3_10), (0, .ref (o + x0))] := hl
        rw [F_X5_member_87.eq_1] at h
        show W p l e (zr 4) s m (([.ref (o + x0)] : List Value).toArray) below meth cd H locs 0 0 (MQ below (zQi D c o g ρ) (([.ref (o + x0)] : List Value).toArray) s 0 0 (zA o)) (F0 m 87 ls [])
        refine lv_iload_n (pc := 87) hx hb dX5_member_87 rfl (lv_at hl 2 rfl) ?_
        refine lv_aload_n (pc := 88) hx hb dX5_member_88 rfl (lv_at hl 3 rfl) ?_
        obtain ⟨v11, hv, h⟩ := zl_some h
        refine xgR (pc := 89) (j := 13) zc5 hx hb hts hown hK hP hv rfl zf_X5_53 dX5_member_89 ?_
        refine lv_aload_n (pc := 92) hx hb dX5_member_92 rfl (lv_at hl 3 rfl) ?_
        obtain ⟨v12, hv, h⟩ := zl_some h
        refine xgI (pc := 93) (j := 9) zc5 hx hb hts hown hK hP hv rfl zf_X5_41 dX5_member_93 ?_
        obtain ⟨v13, hv, h⟩ := zl_some h
        refine xaI (pc := 96) hx hb hK hP hv dX5_member_96 ?_
        have hj173_14 : ∀ (x1_14 : Int32) (x2_14 : Int32) (σ14 : zS), J_X5_member_173 N x0 x1_14 x2_14 σ14 = some ρ → ∀ (H : Heap) (locs : List Loc) (ls : Array Slot), zP D c o (zabs o σ14) H → va_S (zA o) s.heap H locs → lv_has ls 5 [(1, .int x1_14), (2, .int x2_14), (0, .ref (o + x0))] → W p l e (zr 4) s m (([.ref (o + x0)] : List Value).toArray) below meth cd H locs 0 0 (MQ below (zQi D c o g ρ) (([.ref (o + x0)] : List Value).toArray) s 0 0 (zA o)) (F0 m 173 ls []) := by
          intro x1_14 x2_14 σ14 h H locs ls hP hS hl
          rw [J_X5_member_173.eq_1] at h
          refine lv_aload_n (pc := 173) hx hb dX5_member_173 rfl (lv_at hl 2 rfl) ?_
          refine lv_iload_n (pc := 174) hx hb dX5_member_174 rfl (lv_at hl 1 rfl) ?_
          refine lv_iconst (pc := 175) (v := 2) hx hb dX5_member_175 (by decide) ?_
          obtain ⟨_, hg, h⟩ := zl_some h
          obtain ⟨v15, σ16, hv, h⟩ := zb_some h
          refine xcallVi (pc := 176) (As := [.int x2_14, .int 2]) (rest := []) ⟨hx, hb, hml, hown, hts⟩ (c_X5_advance l D c o g N hv) zc5 zV_X5_149 rfl zd_X5_advance ⟨Nat.le_of_ble_eq_true rfl, Nat.le_of_ble_eq_true rfl⟩ hK hP hE hS hg hl.1 rfl (Nat.le_of_ble_eq_true rfl) ⟨Nat.zero_le _, Nat.zero_le _⟩ dX5_member_176 (fun H locs hP hS => ?_)
          refine lv_if_eq (pc := 179) (tgt := 195) hx hb dX5_member_179 (by decide) (fun c1 => ?_) (fun c1 => ?_)
          · rw [if_pos c1] at h
            refine lv_iconst (pc := 195) (v := 0) hx hb dX5_member_195 (by decide) ?_
            exact xretz (pc := 196) hx hb hr hlocks hP hK hE hS h dX5_member_196
          · rw [if_neg c1] at h
            refine lv_aload_n (pc := 182) hx hb dX5_member_182 rfl (lv_at hl 2 rfl) ?_
            refine lv_iconst (pc := 183) (v := 3) hx hb dX5_member_183 (by decide) ?_
            refine lv_iload_n (pc := 184) hx hb dX5_member_184 rfl (lv_at hl 0 rfl) ?_
            obtain ⟨_, hg, h⟩ := zl_some h
            obtain ⟨v17, σ18, hv, h⟩ := zb_some h
            refine xcallVi (pc := 185) (As := [.int 3, .int x1_14]) (rest := []) ⟨hx, hb, hml, hown, hts⟩ (c_X5_emit l D c o g N hv) zc5 zV_X5_76 rfl zd_X5_emit ⟨Nat.le_of_ble_eq_true rfl, Nat.le_of_ble_eq_true rfl⟩ hK hP hE hS hg hl.1 rfl (Nat.le_of_ble_eq_true rfl) ⟨Nat.zero_le _, Nat.zero_le _⟩ dX5_member_185 (fun H locs hP hS => ?_)
            refine lv_if_eq (pc := 188) (tgt := 195) hx hb dX5_member_188 (by decide) (fun c1 => ?_) (fun c1 => ?_)
            · rw [if_pos c1] at h
              refine lv_iconst (pc := 195) (v := 0) hx hb dX5_member_195 (by decide) ?_
              exact xretz (pc := 196) hx hb hr hlocks hP hK hE hS h dX5_member_196
            · rw [if_neg c1] at h
              refine lv_iconst (pc := 191) (v := 1) hx hb dX5_member_191 (by decide) ?_
              refine lv_goto (pc := 192) (tgt := 196) hx hb dX5_member_192 (by decide) ?_
              exact xretz (pc := 196) hx hb hr hlocks hP hK hE hS h dX5_member_196
        refine lv_icmp_ge (pc := 97) (tgt := 173) hx hb dX5_member_97 (by decide) (fun c1 => ?_) (fun c1 => ?_)
        · rw [if_pos c1] at h
          exact hj173_14 (x1_10) (x2_10) σ10 h _ _ ls hP hS (lv_sub hl [0, 1, 3] rfl)
        · rw [if_neg c1] at h
          refine lv_iload_n (pc := 100) hx hb dX5_member_100 rfl (lv_at hl 2 rfl) ?_
          refine lv_aload_n (pc := 101) hx hb dX5_member_101 rfl (lv_at hl 3 rfl) ?_
          obtain ⟨v19, hv, h⟩ := zl_some h
          refine xgI (pc := 102) (j := 6) zc5 hx hb hts hown hK hP hv rfl zf_X5_32 dX5_member_102 ?_
          refine lv_icmp_ge (pc := 105) (tgt := 173) hx hb dX5_member_105 (by decide) (fun c1 => ?_) (fun c1 => ?_)
          · rw [if_pos c1] at h
            exact hj173_14 (x1_10) (x2_10) σ10 h _ _ ls hP hS (lv_sub hl [0, 1, 3] rfl)
          · rw [if_neg c1] at h
            refine lv_aload_n (pc := 108) hx hb dX5_member_108 rfl (lv_at hl 3 rfl) ?_
            obtain ⟨v20, hv, h⟩ := zl_some h
            refine xgR (pc := 109) (j := 5) zc5 hx hb hts hown hK hP hv rfl zf_X5_28 dX5_member_109 ?_
            refine lv_iload_n (pc := 112) hx hb dX5_member_112 rfl (lv_at hl 2 rfl) ?_
            obtain ⟨v21, hv, h⟩ := zl_some h
            refine xaB (pc := 113) hx hb hK hP hv dX5_member_113 ?_
            refine lv_bipush (pc := 114) (v := 97) hx hb dX5_member_114 (by decide) ?_
            refine lv_isub (pc := 116) hx hb dX5_member_116 ?_
            refine lv_istore (pc := 117) (lv' := [(4, .int (v21 - 97)), (1, .int x1_10), (2, .int x2_10), (3, .int x3_10), (0, .ref (o + x0))]) hx hb dX5_member_117 hl (by decide) rfl (fun ls hl => ?_)
            refine lv_iload_n (pc := 119) hx hb dX5_member_119 rfl (lv_at hl 2 rfl) ?_
            have hj151_22 : ∀ (y0_22 : Int32) (σ22 : zS), J_X5_member_151 N ag10 x0 x1_10 x3_10 (v21 - 97) y0_22 σ22 = some ρ → ∀ (H : Heap) (locs : List Loc) (ls : Array Slot), zP D c o (zabs o σ22) H → va_S (zA o) s.heap H locs → lv_has ls 5 [(0, .ref (o + x0)), (1, .int x1_10), (3, .int x3_10), (4, .int (v21 - 97))] → W p l e (zr 4) s m (([.ref (o + x0)] : List Value).toArray) below meth cd H locs 0 0 (MQ below (zQi D c o g ρ) (([.ref (o + x0)] : List Value).toArray) s 0 0 (zA o)) (F0 m 151 ls [.int y0_22]) := by
              intro y0_22 σ22 h H locs ls hP hS hl
              rw [J_X5_member_151.eq_1] at h
              refine lv_istore_n (pc := 151) (lv' := [(2, .int y0_22), (0, .ref (o + x0)), (1, .int x1_10), (3, .int x3_10), (4, .int (v21 - 97))]) hx hb dX5_member_151 rfl hl (by decide) rfl (fun ls hl => ?_)
              refine lv_iload_n (pc := 152) hx hb dX5_member_152 rfl (lv_at hl 2 rfl) ?_
              refine lv_iload_n (pc := 153) hx hb dX5_member_153 rfl (lv_at hl 0 rfl) ?_
              refine lv_if_eq (pc := 154) (tgt := 164) hx hb dX5_member_154 (by decide) (fun c1 => ?_) (fun c1 => ?_)
              · rw [if_pos c1] at h
                refine lv_iconst (pc := 164) (v := 0) hx hb dX5_member_164 (by decide) ?_
                refine lv_ior (pc := 165) hx hb dX5_member_165 ?_
                refine lv_istore_n (pc := 166) (lv' := [(1, .int (x1_10 ||| 0)), (2, .int y0_22), (0, .ref (o + x0)), (3, .int x3_10), (4, .int (v21 - 97))]) hx hb dX5_member_166 rfl hl (by decide) rfl (fun ls hl => ?_)
                refine lv_iinc (pc := 167) (v := x3_10 + 1) (lv' := [(3, .int (x3_10 + 1)), (1, .int (x1_10 ||| 0)), (2, .int y0_22), (0, .ref (o + x0)), (4, .int (v21 - 97))]) hx hb dX5_member_167 hl (k := 3) rfl rfl (by decide) rfl (fun ls hl => ?_)
                refine lv_goto (pc := 170) (tgt := 87) hx hb dX5_member_170 (by decide) ?_
                exact ih10 (x1_10 ||| 0, y0_22, x3_10 + 1, σ22) h _ _ ls hP hS (lv_sub hl [1, 2, 0, 3] rfl)
              · rw [if_neg c1] at h
                refine lv_iconst (pc := 157) (v := 1) hx hb dX5_member_157 (by decide) ?_
                refine lv_iload (pc := 158) hx hb dX5_member_158 (lv_at hl 4 rfl) ?_
                refine lv_ishl (pc := 160) hx hb dX5_member_160 ?_
                refine lv_goto (pc := 161) (tgt := 165) hx hb dX5_member_161 (by decide) ?_
                refine lv_ior (pc := 165) hx hb dX5_member_165 ?_
                refine lv_istore_n (pc := 166) (lv' := [(1, .int (x1_10 ||| ((1 : Int32) <<< ((v21 - 97) &&& 31)))), (2, .int y0_22), (0, .ref (o + x0)), (3, .int x3_10), (4, .int (v21 - 97))]) hx hb dX5_member_166 rfl hl (by decide) rfl (fun ls hl => ?_)
                refine lv_iinc (pc := 167) (v := x3_10 + 1) (lv' := [(3, .int (x3_10 + 1)), (1, .int (x1_10 ||| ((1 : Int32) <<< ((v21 - 97) &&& 31)))), (2, .int y0_22), (0, .ref (o + x0)), (4, .int (v21 - 97))]) hx hb dX5_member_167 hl (k := 3) rfl rfl (by decide) rfl (fun ls hl => ?_)
                refine lv_goto (pc := 170) (tgt := 87) hx hb dX5_member_170 (by decide) ?_
                exact ih10 (x1_10 ||| ((1 : Int32) <<< ((v21 - 97) &&& 31)), y0_22, x3_10 + 1, σ22) h _ _ ls hP hS (lv_sub hl [1, 2, 0, 3] rfl)
            refine lv_if_eq (pc := 120) (tgt := 150) hx hb dX5_member_120 (by decide) (fun c1 => ?_) (fun c1 => ?_)
            · rw [if_pos c1] at h
              refine lv_iconst (pc := 150) (v := 0) hx hb dX5_member_150 (by decide) ?_
              exact hj151_22 (0) σ10 h _ _ ls hP hS (lv_sub hl [4, 1, 3, 0] rfl)
            · rw [if_neg c1] at h
              refine lv_iload (pc := 123) hx hb dX5_member_123 (lv_at hl 0 rfl) ?_
              refine lv_if_lt (pc := 125) (tgt := 150) hx hb dX5_member_125 (by decide) (fun c1 => ?_) (fun c1 => ?_)
              · rw [if_pos c1] at h
                refine lv_iconst (pc := 150) (v := 0) hx hb dX5_member_150 (by decide) ?_
                exact hj151_22 (0) σ10 h _ _ ls hP hS (lv_sub hl [4, 1, 3, 0] rfl)
              · rw [if_neg c1] at h
                refine lv_iload (pc := 128) hx hb dX5_member_128 (lv_at hl 0 rfl) ?_
                refine lv_aload_n (pc := 130) hx hb dX5_member_130 rfl (lv_at hl 4 rfl) ?_
                obtain ⟨v23, hv, h⟩ := zl_some h
                refine xgI (pc := 131) (j := 7) zc5 hx hb hts hown hK hP hv rfl zf_X5_35 dX5_member_131 ?_
                refine lv_icmp_ge (pc := 134) (tgt := 150) hx hb dX5_member_134 (by decide) (fun c1 => ?_) (fun c1 => ?_)
                · rw [if_pos c1] at h
                  refine lv_iconst (pc := 150) (v := 0) hx hb dX5_member_150 (by decide) ?_
                  exact hj151_22 (0) σ10 h _ _ ls hP hS (lv_sub hl [4, 1, 3, 0] rfl)
                · rw [if_neg c1] at h
                  refine lv_iload_n (pc := 137) hx hb dX5_member_137 rfl (lv_at hl 1 rfl) ?_
                  refine lv_iload (pc := 138) hx hb dX5_member_138 (lv_at hl 0 rfl) ?_
                  refine lv_ishr (pc := 140) hx hb dX5_member_140 ?_
                  refine lv_iconst (pc := 141) (v := 1) hx hb dX5_member_141 (by decide) ?_
                  refine lv_iand (pc := 142) hx hb dX5_member_142 ?_
                  refine lv_if_ne (pc := 143) (tgt := 150) hx hb dX5_member_143 (by decide) (fun c1 => ?_) (fun c1 => ?_)
                  · rw [if_neg c1] at h
                    refine lv_iconst (pc := 150) (v := 0) hx hb dX5_member_150 (by decide) ?_
                    exact hj151_22 (0) σ10 h _ _ ls hP hS (lv_sub hl [4, 1, 3, 0] rfl)
                  · rw [if_pos c1] at h
                    refine lv_iconst (pc := 146) (v := 1) hx hb dX5_member_146 (by decide) ?_
                    refine lv_goto (pc := 147) (tgt := 151) hx hb dX5_member_147 (by decide) ?_
                    exact hj151_22 (1) σ10 h _ _ ls hP hS (lv_sub hl [4, 1, 3, 0] rfl)
      exact L87_10 N (0, 1, v9, σ) h _ _ ls hP hS (lv_sub hl [2, 1, 0, 3] rfl)
    · rw [if_neg c1] at h
      refine lv_aload_n (pc := 66) hx hb dX5_member_66 rfl (lv_at hl 0 rfl) ?_
      refine lv_iconst (pc := 67) (v := 0) hx hb dX5_member_67 (by decide) ?_
      refine lv_iconst (pc := 68) (v := 1) hx hb dX5_member_68 (by decide) ?_
      obtain ⟨_, hg, h⟩ := zl_some h
      obtain ⟨v24, σ25, hv, h⟩ := zb_some h
      refine xcallVi (pc := 69) (As := [.int 0, .int 1]) (rest := []) ⟨hx, hb, hml, hown, hts⟩ (c_X5_advance l D c o g N hv) zc5 zV_X5_149 rfl zd_X5_advance ⟨Nat.le_of_ble_eq_true rfl, Nat.le_of_ble_eq_true rfl⟩ hK hP hE hS hg hl.1 rfl (Nat.le_of_ble_eq_true rfl) ⟨Nat.zero_le _, Nat.zero_le _⟩ dX5_member_69 (fun H locs hP hS => ?_)
      exact xretz (pc := 72) hx hb hr hlocks hP hK hE hS h dX5_member_72
  · rw [if_pos c1] at h
    refine lv_aload_n (pc := 13) hx hb dX5_member_13 rfl (lv_at hl 0 rfl) ?_
    refine lv_aload_n (pc := 14) hx hb dX5_member_14 rfl (lv_at hl 0 rfl) ?_
    obtain ⟨v26, hv, h⟩ := zl_some h
    refine xgR (pc := 15) (j := 11) zc5 hx hb hts hown hK hP hv rfl zf_X5_47 dX5_member_15 ?_
    refine lv_aload_n (pc := 18) hx hb dX5_member_18 rfl (lv_at hl 0 rfl) ?_
    obtain ⟨v27, hv, h⟩ := zl_some h
    refine xgI (pc := 19) (j := 9) zc5 hx hb hts hown hK hP hv rfl zf_X5_41 dX5_member_19 ?_
    obtain ⟨v28, hv, h⟩ := zl_some h
    refine xaI (pc := 22) hx hb hK hP hv dX5_member_22 ?_
    have hj31_29 : ∀ (y0_29 : Int32) (y1_29 : Nat) (σ29 : zS), J_X5_member_31 N x0 y0_29 y1_29 σ29 = some ρ → ∀ (H : Heap) (locs : List Loc) (ls : Array Slot), zP D c o (zabs o σ29) H → va_S (zA o) s.heap H locs → lv_has ls 5 [(0, .ref (o + x0))] → W p l e (zr 4) s m (([.ref (o + x0)] : List Value).toArray) below meth cd H locs 0 0 (MQ below (zQi D c o g ρ) (([.ref (o + x0)] : List Value).toArray) s 0 0 (zA o)) (F0 m 31 ls [.int y0_29, .ref (o + y1_29)]) := by
      intro y0_29 y1_29 σ29 h H locs ls hP hS hl
      rw [J_X5_member_31.eq_1] at h
      refine lv_iconst (pc := 31) (v := 2) hx hb dX5_member_31 (by decide) ?_
      obtain ⟨_, hg, h⟩ := zl_some h
      obtain ⟨v30, σ31, hv, h⟩ := zb_some h
      refine xcallVi (pc := 32) (As := [.int y0_29, .int 2]) (rest := []) ⟨hx, hb, hml, hown, hts⟩ (c_X5_advance l D c o g N hv) zc5 zV_X5_149 rfl zd_X5_advance ⟨Nat.le_of_ble_eq_true rfl, Nat.le_of_ble_eq_true rfl⟩ hK hP hE hS hg hl.1 rfl (Nat.le_of_ble_eq_true rfl) ⟨Nat.zero_le _, Nat.zero_le _⟩ dX5_member_32 (fun H locs hP hS => ?_)
      refine lv_if_eq (pc := 35) (tgt := 51) hx hb dX5_member_35 (by decide) (fun c1 => ?_) (fun c1 => ?_)
      · rw [if_pos c1] at h
        refine lv_iconst (pc := 51) (v := 0) hx hb dX5_member_51 (by decide) ?_
        exact xretz (pc := 52) hx hb hr hlocks hP hK hE hS h dX5_member_52
      · rw [if_neg c1] at h
        refine lv_aload_n (pc := 38) hx hb dX5_member_38 rfl (lv_at hl 0 rfl) ?_
        refine lv_iconst (pc := 39) (v := 3) hx hb dX5_member_39 (by decide) ?_
        refine lv_iconst (pc := 40) (v := 0) hx hb dX5_member_40 (by decide) ?_
        obtain ⟨_, hg, h⟩ := zl_some h
        obtain ⟨v32, σ33, hv, h⟩ := zb_some h
        refine xcallVi (pc := 41) (As := [.int 3, .int 0]) (rest := []) ⟨hx, hb, hml, hown, hts⟩ (c_X5_emit l D c o g N hv) zc5 zV_X5_76 rfl zd_X5_emit ⟨Nat.le_of_ble_eq_true rfl, Nat.le_of_ble_eq_true rfl⟩ hK hP hE hS hg hl.1 rfl (Nat.le_of_ble_eq_true rfl) ⟨Nat.zero_le _, Nat.zero_le _⟩ dX5_member_41 (fun H locs hP hS => ?_)
        refine lv_if_eq (pc := 44) (tgt := 51) hx hb dX5_member_44 (by decide) (fun c1 => ?_) (fun c1 => ?_)
        · rw [if_pos c1] at h
          refine lv_iconst (pc := 51) (v := 0) hx hb dX5_member_51 (by decide) ?_
          exact xretz (pc := 52) hx hb hr hlocks hP hK hE hS h dX5_member_52
        · rw [if_neg c1] at h
          refine lv_iconst (pc := 47) (v := 1) hx hb dX5_member_47 (by decide) ?_
          refine lv_goto (pc := 48) (tgt := 52) hx hb dX5_member_48 (by decide) ?_
          exact xretz (pc := 52) hx hb hr hlocks hP hK hE hS h dX5_member_52
    refine lv_if_ne (pc := 23) (tgt := 30) hx hb dX5_member_23 (by decide) (fun c1 => ?_) (fun c1 => ?_)
    · rw [if_neg c1] at h
      refine lv_iconst (pc := 30) (v := 0) hx hb dX5_member_30 (by decide) ?_
      exact hj31_29 (0) (x0) σ h _ _ ls hP hS (lv_sub hl [0] rfl)
    · rw [if_pos c1] at h
      refine lv_iconst (pc := 26) (v := 1) hx hb dX5_member_26 (by decide) ?_
      refine lv_goto (pc := 27) (tgt := 31) hx hb dX5_member_27 (by decide) ?_
      exact hj31_29 (1) (x0) σ h _ _ ls hP hS (lv_sub hl [0] rfl)
def F_X5_family_37 (N : Nat) (x0 : Nat) (again37 : (Int32 × zS) → Option (Int32 × zS)) : Int32 × zS → Option (Int32 × zS)
  | (x1, σ) =>
  if 601 ≤ x1 then
    (zl (gC 5 x0) fun _ => zb (f_X5_fail N x0 1 σ) fun v10 σ11 =>
    rZ v10 σ11)
  else
    (zl (gC 5 x0) fun _ => zb (f_X5_member N x0 σ) fun v12 σ13 =>
    if v12 = 0 then
      (rZ 0 σ13)
    else
      (zl (gR 5 10 x0 σ13) fun v14 =>
      zl (gI 5 9 x0 σ13) fun v15 =>
      zl (aI 14 v14 v15 σ13) fun v16 =>
      if v16 = 44 then
        (zl (gC 5 x0) fun _ => zb (f_X5_pass N x0 44 σ13) fun v17 σ18 =>
        again37 (x1 + 1, σ18))
      else
        (zl (gC 5 x0) fun _ => zb (f_X5_pass N x0 125 σ13) fun v19 σ20 =>
        rZ v19 σ20)))
def f_X5_family (N : Nat) (x0 : Nat) (σ : zS) : Option (Int32 × zS) :=
  zl (gC 5 x0) fun _ => zb (f_X5_pass N x0 123 σ) fun v1 σ2 =>
  zl (gC 5 x0) fun _ => zb (f_X5_emit N x0 1 0 σ2) fun v3 σ4 =>
  zl (gR 5 10 x0 σ4) fun v5 =>
  zl (gI 5 9 x0 σ4) fun v6 =>
  zl (aI 14 v5 v6 σ4) fun v7 =>
  if v7 = 125 then
    (zl (gC 5 x0) fun _ => zb (f_X5_pass N x0 125 σ4) fun v8 σ9 =>
    rZ v8 σ9)
  else
    (zlp (F_X5_family_37 N x0) N (0, σ4))
set_option maxHeartbeats 4000000 in
set_option maxRecDepth 100000 in
theorem c_X5_family (l : Launch) (D : va_G) (c : zC) (o : Nat) (g : zEp) (N : Nat) {x0 : Nat} {σ : zS} {ρ : Int32 × zS} (h : f_X5_family N x0 σ = some ρ) : Met l yX5_family zs_X5_family (zr 6) (va_Pc [.ref (o + x0)] (zG D c o g σ)) (zQi D c o g ρ) 0 0 (zA o) := by
  refine zMetG (by decide) (Nat.le_of_ble_eq_true rfl) ?_
  intro p e s m below meth cd ⟨hx, hb, hr, hml, hown, hts, hlocks⟩ hP hK hE ls hl
  have hS : va_S (zA o) s.heap s.heap [] := va_S.rf
  have hl : lv_has ls 2 [(0, .ref (o + x0))] := hl
  rw [f_X5_family.eq_1] at h
  refine lv_aload_n (pc := 0) hx hb dX5_family_0 rfl (lv_at hl 0 rfl) ?_
  refine lv_bipush (pc := 1) (v := 123) hx hb dX5_family_1 (by decide) ?_
  obtain ⟨_, hg, h⟩ := zl_some h
  obtain ⟨v1, σ2, hv, h⟩ := zb_some h
  refine xcallVi (pc := 3) (As := [.int 123]) (rest := []) ⟨hx, hb, hml, hown, hts⟩ (c_X5_pass l D c o g N hv) zc5 zV_X5_73 rfl zd_X5_pass ⟨Nat.le_of_ble_eq_true rfl, Nat.le_of_ble_eq_true rfl⟩ hK hP hE hS hg hl.1 rfl (Nat.le_of_ble_eq_true rfl) ⟨Nat.zero_le _, Nat.zero_le _⟩ dX5_family_3 (fun H locs hP hS => ?_)
  refine lv_pop (pc := 6) hx hb dX5_family_6 rfl ?_
  refine lv_aload_n (pc := 7) hx hb dX5_family_7 rfl (lv_at hl 0 rfl) ?_
  refine lv_iconst (pc := 8) (v := 1) hx hb dX5_family_8 (by decide) ?_
  refine lv_iconst (pc := 9) (v := 0) hx hb dX5_family_9 (by decide) ?_
  obtain ⟨_, hg, h⟩ := zl_some h
  obtain ⟨v3, σ4, hv, h⟩ := zb_some h
  refine xcallVi (pc := 10) (As := [.int 1, .int 0]) (rest := []) ⟨hx, hb, hml, hown, hts⟩ (c_X5_emit l D c o g N hv) zc5 zV_X5_76 rfl zd_X5_emit ⟨Nat.le_of_ble_eq_true rfl, Nat.le_of_ble_eq_true rfl⟩ hK hP hE hS hg hl.1 rfl (Nat.le_of_ble_eq_true rfl) ⟨Nat.zero_le _, Nat.zero_le _⟩ dX5_family_10 (fun H locs hP hS => ?_)
  refine lv_pop (pc := 13) hx hb dX5_family_13 rfl ?_
  refine lv_aload_n (pc := 14) hx hb dX5_family_14 rfl (lv_at hl 0 rfl) ?_
  obtain ⟨v5, hv, h⟩ := zl_some h
  refine xgR (pc := 15) (j := 10) zc5 hx hb hts hown hK hP hv rfl zf_X5_44 dX5_family_15 ?_
  refine lv_aload_n (pc := 18) hx hb dX5_family_18 rfl (lv_at hl 0 rfl) ?_
  obtain ⟨v6, hv, h⟩ := zl_some h
  refine xgI (pc := 19) (j := 9) zc5 hx hb hts hown hK hP hv rfl zf_X5_41 dX5_family_19 ?_
  obtain ⟨v7, hv, h⟩ := zl_some h
  refine xaI (pc := 22) hx hb hK hP hv dX5_family_22 ?_
  refine lv_bipush (pc := 23) (v := 125) hx hb dX5_family_23 (by decide) ?_
  refine lv_icmp_ne (pc := 25) (tgt := 35) hx hb dX5_family_25 (by decide) (fun c1 => ?_) (fun c1 => ?_)
  · rw [if_neg c1] at h
    refine lv_iconst (pc := 35) (v := 0) hx hb dX5_family_35 (by decide) ?_
    refine lv_istore_n (pc := 36) (lv' := [(1, .int 0), (0, .ref (o + x0))]) hx hb dX5_family_36 rfl hl (by decide) rfl (fun ls hl => ?_)
    have L37_8 : ∀ (n : Nat) (t : Int32 × zS), zlp (F_X5_family_37 N x0) n t = some ρ → ∀ (H : Heap) (locs : List Loc) (ls : Array Slot), zP D c o (zabs o (t.2)) H → va_S (zA o) s.heap H locs → lv_has ls 2 [(1, .int (t.1)), (0, .ref (o + x0))] → W p l e (zr 6) s m (([.ref (o + x0)] : List Value).toArray) below meth cd H locs 0 0 (MQ below (zQi D c o g ρ) (([.ref (o + x0)] : List Value).toArray) s 0 0 (zA o)) (F0 m 37 ls []) := by
      refine zlp_ind (fun ag8 ih8 t h H locs ls hP hS hl => ?_)
      obtain ⟨x1_8, σ8⟩ := t
      have hP : zP D c o (zabs o σ8) H := hP
      have hl : lv_has ls 2 [(1, .int x1_8), (0, .ref (o + x0))] := hl
      rw [F_X5_family_37.eq_1] at h
      show W p l e (zr 6) s m (([.ref (o + x0)] : List Value).toArray) below meth cd H locs 0 0 (MQ below (zQi D c o g ρ) (([.ref (o + x0)] : List Value).toArray) s 0 0 (zA o)) (F0 m 37 ls [])
      refine lv_iload_n (pc := 37) hx hb dX5_family_37 rfl (lv_at hl 0 rfl) ?_
      refine lv_sipush (pc := 38) (v := 601) hx hb dX5_family_38 (by decide) ?_
      refine lv_icmp_ge (pc := 41) (tgt := 87) hx hb dX5_family_41 (by decide) (fun c1 => ?_) (fun c1 => ?_)
      · rw [if_pos c1] at h
        refine lv_aload_n (pc := 87) hx hb dX5_family_87 rfl (lv_at hl 1 rfl) ?_
        refine lv_iconst (pc := 88) (v := 1) hx hb dX5_family_88 (by decide) ?_
        obtain ⟨_, hg, h⟩ := zl_some h
        obtain ⟨v9, σ10, hv, h⟩ := zb_some h
        refine xcallVi (pc := 89) (As := [.int 1]) (rest := []) ⟨hx, hb, hml, hown, hts⟩ (c_X5_fail l D c o g N hv) zc5 zV_X5_153 rfl zd_X5_fail ⟨Nat.le_of_ble_eq_true rfl, Nat.le_of_ble_eq_true rfl⟩ hK hP hE hS hg hl.1 rfl (Nat.le_of_ble_eq_true rfl) ⟨Nat.zero_le _, Nat.zero_le _⟩ dX5_family_89 (fun H locs hP hS => ?_)
        exact xretz (pc := 92) hx hb hr hlocks hP hK hE hS h dX5_family_92
      · rw [if_neg c1] at h
        refine lv_aload_n (pc := 44) hx hb dX5_family_44 rfl (lv_at hl 1 rfl) ?_
        obtain ⟨_, hg, h⟩ := zl_some h
        obtain ⟨v11, σ12, hv, h⟩ := zb_some h
        refine xcallVi (pc := 45) (As := []) (rest := []) ⟨hx, hb, hml, hown, hts⟩ (c_X5_member l D c o g N hv) zc5 zV_X5_192 rfl zd_X5_member ⟨Nat.le_of_ble_eq_true rfl, Nat.le_of_ble_eq_true rfl⟩ hK hP hE hS hg hl.1 rfl (Nat.le_of_ble_eq_true rfl) ⟨Nat.zero_le _, Nat.zero_le _⟩ dX5_family_45 (fun H locs hP hS => ?_)
        refine lv_if_ne (pc := 48) (tgt := 53) hx hb dX5_family_48 (by decide) (fun c1 => ?_) (fun c1 => ?_)
        · rw [if_neg c1] at h
          refine lv_aload_n (pc := 53) hx hb dX5_family_53 rfl (lv_at hl 1 rfl) ?_
          obtain ⟨v13, hv, h⟩ := zl_some h
          refine xgR (pc := 54) (j := 10) zc5 hx hb hts hown hK hP hv rfl zf_X5_44 dX5_family_54 ?_
          refine lv_aload_n (pc := 57) hx hb dX5_family_57 rfl (lv_at hl 1 rfl) ?_
          obtain ⟨v14, hv, h⟩ := zl_some h
          refine xgI (pc := 58) (j := 9) zc5 hx hb hts hown hK hP hv rfl zf_X5_41 dX5_family_58 ?_
          obtain ⟨v15, hv, h⟩ := zl_some h
          refine xaI (pc := 61) hx hb hK hP hv dX5_family_61 ?_
          refine lv_bipush (pc := 62) (v := 44) hx hb dX5_family_62 (by decide) ?_
          refine lv_icmp_eq (pc := 64) (tgt := 74) hx hb dX5_family_64 (by decide) (fun c1 => ?_) (fun c1 => ?_)
          · rw [if_pos c1] at h
            refine lv_aload_n (pc := 74) hx hb dX5_family_74 rfl (lv_at hl 1 rfl) ?_
            refine lv_bipush (pc := 75) (v := 44) hx hb dX5_family_75 (by decide) ?_
            obtain ⟨_, hg, h⟩ := zl_some h
            obtain ⟨v16, σ17, hv, h⟩ := zb_some h
            refine xcallVi (pc := 77) (As := [.int 44]) (rest := []) ⟨hx, hb, hml, hown, hts⟩ (c_X5_pass l D c o g N hv) zc5 zV_X5_73 rfl zd_X5_pass ⟨Nat.le_of_ble_eq_true rfl, Nat.le_of_ble_eq_true rfl⟩ hK hP hE hS hg hl.1 rfl (Nat.le_of_ble_eq_true rfl) ⟨Nat.zero_le _, Nat.zero_le _⟩ dX5_family_77 (fun H locs hP hS => ?_)
            refine lv_pop (pc := 80) hx hb dX5_family_80 rfl ?_
            refine lv_iinc (pc := 81) (v := x1_8 + 1) (lv' := [(1, .int (x1_8 + 1)), (0, .ref (o + x0))]) hx hb dX5_family_81 hl (k := 0) rfl rfl (by decide) rfl (fun ls hl => ?_)
            refine lv_goto (pc := 84) (tgt := 37) hx hb dX5_family_84 (by decide) ?_
            exact ih8 (x1_8 + 1, σ17) h _ _ ls hP hS (lv_sub hl [0, 1] rfl)
          · rw [if_neg c1] at h
            refine lv_aload_n (pc := 67) hx hb dX5_family_67 rfl (lv_at hl 1 rfl) ?_
            refine lv_bipush (pc := 68) (v := 125) hx hb dX5_family_68 (by decide) ?_
            obtain ⟨_, hg, h⟩ := zl_some h
            obtain ⟨v18, σ19, hv, h⟩ := zb_some h
            refine xcallVi (pc := 70) (As := [.int 125]) (rest := []) ⟨hx, hb, hml, hown, hts⟩ (c_X5_pass l D c o g N hv) zc5 zV_X5_73 rfl zd_X5_pass ⟨Nat.le_of_ble_eq_true rfl, Nat.le_of_ble_eq_true rfl⟩ hK hP hE hS hg hl.1 rfl (Nat.le_of_ble_eq_true rfl) ⟨Nat.zero_le _, Nat.zero_le _⟩ dX5_family_70 (fun H locs hP hS => ?_)
            exact xretz (pc := 73) hx hb hr hlocks hP hK hE hS h dX5_family_73
        · rw [if_pos c1] at h
          refine lv_iconst (pc := 51) (v := 0) hx hb dX5_family_51 (by decide) ?_
          exact xretz (pc := 52) hx hb hr hlocks hP hK hE hS h dX5_family_52
    exact L37_8 N (0, σ4) h _ _ ls hP hS (lv_sub hl [0, 1] rfl)
  · rw [if_pos c1] at h
    refine lv_aload_n (pc := 28) hx hb dX5_family_28 rfl (lv_at hl 0 rfl) ?_
    refine lv_bipush (pc := 29) (v := 125) hx hb dX5_family_29 (by decide) ?_
    obtain ⟨_, hg, h⟩ := zl_some h
    obtain ⟨v20, σ21, hv, h⟩ := zb_some h
    refine xcallVi (pc := 31) (As := [.int 125]) (rest := []) ⟨hx, hb, hml, hown, hts⟩ (c_X5_pass l D c o g N hv) zc5 zV_X5_73 rfl zd_X5_pass ⟨Nat.le_of_ble_eq_true rfl, Nat.le_of_ble_eq_true rfl⟩ hK hP hE hS hg hl.1 rfl (Nat.le_of_ble_eq_true rfl) ⟨Nat.zero_le _, Nat.zero_le _⟩ dX5_family_31 (fun H locs hP hS => ?_)
    exact xretz (pc := 34) hx hb hr hlocks hP hK hE hS h dX5_family_34
def J_X5_sum_151 (N : Nat) (r0 : Nat → Int32 → zS → Option (Int32 × zS)) (r1 : Nat → Int32 → zS → Option (Int32 × zS)) (r2 : Nat → Int32 → Int32 → zS → Option (Int32 × zS)) (x0 : Nat) (x2 : Int32) (σ : zS) : Option (Int32 × zS) :=
  if x2 < 0 then
    (rZ 1 σ)
  else
    (zl (gC 5 x0) fun _ => zb (f_X5_emit N x0 4 x2 σ) fun v3 σ4 =>
    if v3 = 0 then
      (rZ 0 σ4)
    else
      (rZ 1 σ4))
def J_X5_sum_109 (N : Nat) (r0 : Nat → Int32 → zS → Option (Int32 × zS)) (r1 : Nat → Int32 → zS → Option (Int32 × zS)) (r2 : Nat → Int32 → Int32 → zS → Option (Int32 × zS)) (again14 : (Int32 × Int32 × zS) → Option (Int32 × zS)) (x0 : Nat) (x1 : Int32) (x2 : Int32) (x3 : Int32) (x4 : Int32) (x5 : Int32) (y0 : Int32) (y1 : Nat) (σ : zS) : Option (Int32 × zS) :=
  zl (gC 5 y1) fun _ => zb (f_X5_advance N y1 y0 3 σ) fun v18 σ19 =>
  if v18 = 0 then
    (rZ 0 σ19)
  else
    (zl (gC 5 x0) fun _ => zb (r1 x0 x1 σ19) fun v20 σ21 =>
    if v20 = 0 then
      (rZ 0 σ21)
    else
      (if x5 = 0 then
        (zl (gC 5 x0) fun _ => zb (f_X5_emit N x0 4 x4 σ21) fun v22 σ23 =>
        again14 (x2, x3 + 1, σ23))
      else
        (again14 (x4, x3 + 1, σ21))))
def J_X5_sum_84 (N : Nat) (r0 : Nat → Int32 → zS → Option (Int32 × zS)) (r1 : Nat → Int32 → zS → Option (Int32 × zS)) (r2 : Nat → Int32 → Int32 → zS → Option (Int32 × zS)) (again14 : (Int32 × Int32 × zS) → Option (Int32 × zS)) (x0 : Nat) (x1 : Int32) (x2 : Int32) (x3 : Int32) (x4 : Int32) (x5 : Int32) (σ : zS) : Option (Int32 × zS) :=
  zl (gI 5 8 x0 σ) fun v15 =>
  zl (pI 5 8 x0 (v15 + 1) σ) fun σ16 =>
  zl (gI 5 8 x0 σ16) fun v17 =>
  if 24 < v17 then
    (J_X5_sum_109 N r0 r1 r2 again14 x0 x1 x2 x3 x4 x5 0 x0 σ16)
  else
    (J_X5_sum_109 N r0 r1 r2 again14 x0 x1 x2 x3 x4 x5 1 x0 σ16)
def J_X5_sum_66 (N : Nat) (r0 : Nat → Int32 → zS → Option (Int32 × zS)) (r1 : Nat → Int32 → zS → Option (Int32 × zS)) (r2 : Nat → Int32 → Int32 → zS → Option (Int32 × zS)) (again14 : (Int32 × Int32 × zS) → Option (Int32 × zS)) (x0 : Nat) (x1 : Int32) (x2 : Int32) (x3 : Int32) (x4 : Int32) (y0 : Int32) (σ : zS) : Option (Int32 × zS) :=
  if y0 = 0 then
    (J_X5_sum_84 N r0 r1 r2 again14 x0 x1 x2 x3 x4 y0 σ)
  else
    (if x2 < 0 then
      (J_X5_sum_84 N r0 r1 r2 again14 x0 x1 x2 x3 x4 y0 σ)
    else
      (zl (gC 5 x0) fun _ => zb (f_X5_emit N x0 4 x2 σ) fun v24 σ25 =>
      J_X5_sum_84 N r0 r1 r2 again14 x0 x1 x2 x3 x4 y0 σ25))
def F_X5_sum_14 (N : Nat) (r0 : Nat → Int32 → zS → Option (Int32 × zS)) (r1 : Nat → Int32 → zS → Option (Int32 × zS)) (r2 : Nat → Int32 → Int32 → zS → Option (Int32 × zS)) (x0 : Nat) (x1 : Int32) (again14 : (Int32 × Int32 × zS) → Option (Int32 × zS)) : Int32 × Int32 × zS → Option (Int32 × zS)
  | (x2, x3, σ) =>
  if 601 ≤ x3 then
    (J_X5_sum_151 N r0 r1 r2 x0 x2 σ)
  else
    (zl (gR 5 10 x0 σ) fun v5 =>
    zl (gI 5 9 x0 σ) fun v6 =>
    zl (aI 14 v5 v6 σ) fun v7 =>
    zb (f_X5_combination N v7 σ) fun v8 σ9 =>
    if v8 < 0 then
      (J_X5_sum_151 N r0 r1 r2 x0 x2 σ9)
    else
      (zl (gR 5 10 x0 σ9) fun v10 =>
      zl (gI 5 9 x0 σ9) fun v11 =>
      zl (aI 14 v10 v11 σ9) fun v12 =>
      zb (f_X5_combination N v12 σ9) fun v13 σ14 =>
      if v13 = 0 then
        (J_X5_sum_66 N r0 r1 r2 again14 x0 x1 x2 x3 v13 1 σ14)
      else
        (if v13 = 1 then
          (J_X5_sum_66 N r0 r1 r2 again14 x0 x1 x2 x3 v13 1 σ14)
        else
          (J_X5_sum_66 N r0 r1 r2 again14 x0 x1 x2 x3 v13 0 σ14))))
def B_X5_sum (N : Nat) (r0 : Nat → Int32 → zS → Option (Int32 × zS)) (r1 : Nat → Int32 → zS → Option (Int32 × zS)) (r2 : Nat → Int32 → Int32 → zS → Option (Int32 × zS)) (x0 : Nat) (x1 : Int32) (σ : zS) : Option (Int32 × zS) :=
  zl (gC 5 x0) fun _ => zb (r1 x0 x1 σ) fun v1 σ2 =>
  if v1 = 0 then
    (rZ 0 σ2)
  else
    (zlp (F_X5_sum_14 N r0 r1 r2 x0 x1) N ((-1), 0, σ2))
def J_X5_part_97 (N : Nat) (r0 : Nat → Int32 → zS → Option (Int32 × zS)) (r1 : Nat → Int32 → zS → Option (Int32 × zS)) (r2 : Nat → Int32 → Int32 → zS → Option (Int32 × zS)) (x0 : Nat) (x1 : Int32) (y0 : Int32) (y1 : Nat) (σ : zS) : Option (Int32 × zS) :=
  zl (gC 5 y1) fun _ => zb (f_X5_advance N y1 y0 3 σ) fun v15 σ16 =>
  if v15 = 0 then
    (rZ 0 σ16)
  else
    (zl (gC 5 x0) fun _ => zb (r0 x0 (x1 + 1) σ16) fun v17 σ18 =>
    if v17 = 0 then
      (rZ 0 σ18)
    else
      (zl (gC 5 x0) fun _ => zb (f_X5_pass N x0 41 σ18) fun v19 σ20 =>
      if v19 = 0 then
        (rZ 0 σ20)
      else
        (rZ 1 σ20)))
def B_X5_part (N : Nat) (r0 : Nat → Int32 → zS → Option (Int32 × zS)) (r1 : Nat → Int32 → zS → Option (Int32 × zS)) (r2 : Nat → Int32 → Int32 → zS → Option (Int32 × zS)) (x0 : Nat) (x1 : Int32) (σ : zS) : Option (Int32 × zS) :=
  zl (gR 5 10 x0 σ) fun v1 =>
  zl (gI 5 9 x0 σ) fun v2 =>
  zl (aI 14 v1 v2 σ) fun v3 =>
  if v3 = 2 then
    (zl (gR 5 11 x0 σ) fun v4 =>
    zl (gI 5 9 x0 σ) fun v5 =>
    zl (aI 14 v4 v5 σ) fun v6 =>
    zl (gC 5 x0) fun _ => zb (r2 x0 v6 x1 σ) fun v7 σ8 =>
    rZ v7 σ8)
  else if v3 = 3 then
    (zl (gC 5 x0) fun _ => zb (f_X5_passNumber N x0 0 9 σ) fun v9 σ10 =>
    if v9 = 0 then
      (rZ 0 σ10)
    else
      (zl (gC 5 x0) fun _ => zb (f_X5_passed N x0 σ10) fun v11 σ12 =>
      zl (gC 5 x0) fun _ => zb (f_X5_emit N x0 0 v11 σ12) fun v13 σ14 =>
      if v13 = 0 then
        (rZ 0 σ14)
      else
        (rZ 1 σ14)))
  else if v3 = 40 then
    (if 6 ≤ x1 then
      (J_X5_part_97 N r0 r1 r2 x0 x1 0 x0 σ)
    else
      (J_X5_part_97 N r0 r1 r2 x0 x1 1 x0 σ))
  else if v3 = 123 then
    (zl (gC 5 x0) fun _ => zb (f_X5_family N x0 σ) fun v21 σ22 =>
    rZ v21 σ22)
  else (zl (gC 5 x0) fun _ => zb (f_X5_fail N x0 1 σ) fun v23 σ24 =>
    rZ v23 σ24)
def J_X5_wordPart_52 (N : Nat) (r0 : Nat → Int32 → zS → Option (Int32 × zS)) (r1 : Nat → Int32 → zS → Option (Int32 × zS)) (r2 : Nat → Int32 → Int32 → zS → Option (Int32 × zS)) (x0 : Nat) (x1 : Int32) (x2 : Int32) (y0 : Int32) (y1 : Nat) (σ : zS) : Option (Int32 × zS) :=
  zl (gC 5 y1) fun _ => zb (f_X5_advance N y1 y0 3 σ) fun v5 σ6 =>
  if v5 = 0 then
    (rZ 0 σ6)
  else
    (zl (gC 5 x0) fun _ => zb (r1 x0 (x2 + 1) σ6) fun v7 σ8 =>
    if v7 = 0 then
      (rZ 0 σ8)
    else
      (zl (gC 5 x0) fun _ => zb (f_X5_emit N x0 5 (x1 - 10) σ8) fun v9 σ10 =>
      if v9 = 0 then
        (rZ 0 σ10)
      else
        (rZ 1 σ10)))
def B_X5_wordPart (N : Nat) (r0 : Nat → Int32 → zS → Option (Int32 × zS)) (r1 : Nat → Int32 → zS → Option (Int32 × zS)) (r2 : Nat → Int32 → Int32 → zS → Option (Int32 × zS)) (x0 : Nat) (x1 : Int32) (x2 : Int32) (σ : zS) : Option (Int32 × zS) :=
  if x1 = 5 then
    (zl (gC 5 x0) fun _ => zb (f_X5_pass N x0 2 σ) fun v1 σ2 =>
    if v1 = 0 then
      (rZ 0 σ2)
    else
      (zl (gC 5 x0) fun _ => zb (f_X5_emit N x0 2 0 σ2) fun v3 σ4 =>
      if v3 = 0 then
        (rZ 0 σ4)
      else
        (rZ 1 σ4)))
  else
    (if 10 ≤ x1 then
      (if 6 ≤ x2 then
        (J_X5_wordPart_52 N r0 r1 r2 x0 x1 x2 0 x0 σ)
      else
        (J_X5_wordPart_52 N r0 r1 r2 x0 x1 x2 1 x0 σ))
    else
      (zl (gC 5 x0) fun _ => zb (f_X5_fail N x0 1 σ) fun v11 σ12 =>
      rZ v11 σ12))
def G_X5_sum (N : Nat) : Nat → (Nat → Int32 → zS → Option (Int32 × zS)) × (Nat → Int32 → zS → Option (Int32 × zS)) × (Nat → Int32 → Int32 → zS → Option (Int32 × zS))
  | 0 => (fun _ _ _ => none, fun _ _ _ => none, fun _ _ _ _ => none)
  | dd + 1 => (B_X5_sum N ((G_X5_sum N dd).1) ((G_X5_sum N dd).2.1) ((G_X5_sum N dd).2.2), B_X5_part N ((G_X5_sum N dd).1) ((G_X5_sum N dd).2.1) ((G_X5_sum N dd).2.2), B_X5_wordPart N ((G_X5_sum N dd).1) ((G_X5_sum N dd).2.1) ((G_X5_sum N dd).2.2))
def f_X5_sum (N dd : Nat) : Nat → Int32 → zS → Option (Int32 × zS) := (G_X5_sum N dd).1
def f_X5_part (N dd : Nat) : Nat → Int32 → zS → Option (Int32 × zS) := (G_X5_sum N dd).2.1
def f_X5_wordPart (N dd : Nat) : Nat → Int32 → Int32 → zS → Option (Int32 × zS) := (G_X5_sum N dd).2.2
set_option maxHeartbeats 4000000 in
set_option maxRecDepth 100000 in
theorem K_X5_sum (l : Launch) (D : va_G) (c : zC) (o : Nat) (g : zEp) (N : Nat) : ∀ dd : Nat, (∀ (x0 : Nat) (x1 : Int32) (σ : zS) (ρ : Int32 × zS), f_X5_sum N dd x0 x1 σ = some ρ → Met l yX5_sum zs_X5_sum (zr (dd + 8)) (va_Pc [.ref (o + x0), .int x1] (zG D c o g σ)) (zQi D c o g ρ) 0 0 (zA o)) ∧ (∀ (x0 : Nat) (x1 : Int32) (σ : zS) (ρ : Int32 × zS), f_X5_part N dd x0 x1 σ = some ρ → Met l yX5_part zs_X5_part (zr (dd + 8)) (va_Pc [.ref (o + x0), .int x1] (zG D c o g σ)) (zQi D c o g ρ) 0 0 (zA o)) ∧ (∀ (x0 : Nat) (x1 : Int32) (x2 : Int32) (σ : zS) (ρ : Int32 × zS), f_X5_wordPart N dd x0 x1 x2 σ = some ρ → Met l yX5_wordPart zs_X5_wordPart (zr (dd + 8)) (va_Pc [.ref (o + x0), .int x1, .int x2] (zG D c o g σ)) (zQi D c o g ρ) 0 0 (zA o)) := by
  intro dd
  induction dd with
  | zero => exact ⟨fun _ _ _ _ h => absurd h (by intro h; cases h), fun _ _ _ _ h => absurd h (by intro h; cases h), fun _ _ _ _ _ h => absurd h (by intro h; cases h)⟩
  | succ dd ih =>
    obtain ⟨ih0, ih1, ih2⟩ := ih
    refine ⟨?_, ?_, ?_⟩
    · intro x0 x1 σ ρ h
      have h : B_X5_sum N (f_X5_sum N dd) (f_X5_part N dd) (f_X5_wordPart N dd) x0 x1 σ = some ρ := h
      refine zMetG (by decide) (Nat.le_of_ble_eq_true rfl) ?_
      intro p e s m below meth cd ⟨hx, hb, hr, hml, hown, hts, hlocks⟩ hP hK hE ls hl
      have hS : va_S (zA o) s.heap s.heap [] := va_S.rf
      have hl : lv_has ls 6 [(0, .ref (o + x0)), (1, .int x1)] := hl
      rw [B_X5_sum.eq_1] at h
      refine lv_iconst (pc := 0) (v := (-1)) hx hb dX5_sum_0 (by decide) ?_
      refine lv_istore_n (pc := 1) (lv' := [(2, .int (-1)), (0, .ref (o + x0)), (1, .int x1)]) hx hb dX5_sum_1 rfl hl (by decide) rfl (fun ls hl => ?_)
      refine lv_aload_n (pc := 2) hx hb dX5_sum_2 rfl (lv_at hl 1 rfl) ?_
      refine lv_iload_n (pc := 3) hx hb dX5_sum_3 rfl (lv_at hl 2 rfl) ?_
      obtain ⟨_, hg, h⟩ := zl_some h
      obtain ⟨v1, σ2, hv, h⟩ := zb_some h
      refine xcallVi (pc := 4) (As := [.int x1]) (rest := []) ⟨hx, hb, hml, hown, hts⟩ (ih1 _ _ _ _ hv) zc5 zV_X5_182 rfl zd_X5_part ⟨by show (dd + 8) + 1 ≤ dd + 1 + 8; omega, by show 8 + (2 + 11) + 60 * (dd + 8) ≤ 60 * (dd + 1 + 8); omega⟩ hK hP hE hS hg hl.1 rfl (Nat.le_of_ble_eq_true rfl) ⟨Nat.zero_le _, Nat.zero_le _⟩ dX5_sum_4 (fun H locs hP hS => ?_)
      refine lv_if_ne (pc := 7) (tgt := 12) hx hb dX5_sum_7 (by decide) (fun c1 => ?_) (fun c1 => ?_)
      · rw [if_neg c1] at h
        refine lv_iconst (pc := 12) (v := 0) hx hb dX5_sum_12 (by decide) ?_
        refine lv_istore_n (pc := 13) (lv' := [(3, .int 0), (2, .int (-1)), (0, .ref (o + x0)), (1, .int x1)]) hx hb dX5_sum_13 rfl hl (by decide) rfl (fun ls hl => ?_)
        have L14_3 : ∀ (n : Nat) (t : Int32 × Int32 × zS), zlp (F_X5_sum_14 N (f_X5_sum N dd) (f_X5_part N dd) (f_X5_wordPart N dd) x0 x1) n t = some ρ → ∀ (H : Heap) (locs : List Loc) (ls : Array Slot), zP D c o (zabs o (t.2.2)) H → va_S (zA o) s.heap H locs → lv_has ls 6 [(2, .int (t.1)), (3, .int (t.2.1)), (0, .ref (o + x0)), (1, .int x1)] → W p l e (zr (dd + 1 + 8)) s m (([.ref (o + x0), .int x1] : List Value).toArray) below meth cd H locs 0 0 (MQ below (zQi D c o g ρ) (([.ref (o + x0), .int x1] : List Value).toArray) s 0 0 (zA o)) (F0 m 14 ls []) := by
          refine zlp_ind (fun ag3 ih3 t h H locs ls hP hS hl => ?_)
          obtain ⟨x2_3, x3_3, σ3⟩ := t
          have hP : zP D c o (zabs o σ3) H := hP
          have hl : lv_has ls 6 [(2, .int x2_3), (3, .int x3_3), (0, .ref (o + x0)), (1, .int x1)] := hl
          rw [F_X5_sum_14.eq_1] at h
          show W p l e (zr (dd + 1 + 8)) s m (([.ref (o + x0), .int x1] : List Value).toArray) below meth cd H locs 0 0 (MQ below (zQi D c o g ρ) (([.ref (o + x0), .int x1] : List Value).toArray) s 0 0 (zA o)) (F0 m 14 ls [])
          refine lv_iload_n (pc := 14) hx hb dX5_sum_14 rfl (lv_at hl 1 rfl) ?_
          refine lv_sipush (pc := 15) (v := 601) hx hb dX5_sum_15 (by decide) ?_
          have hj151_4 : ∀ (x2_4 : Int32) (σ4 : zS), J_X5_sum_151 N (f_X5_sum N dd) (f_X5_part N dd) (f_X5_wordPart N dd) x0 x2_4 σ4 = some ρ → ∀ (H : Heap) (locs : List Loc) (ls : Array Slot), zP D c o (zabs o σ4) H → va_S (zA o) s.heap H locs → lv_has ls 6 [(2, .int x2_4), (0, .ref (o + x0))] → W p l e (zr (dd + 1 + 8)) s m (([.ref (o + x0), .int x1] : List Value).toArray) below meth cd H locs 0 0 (MQ below (zQi D c o g ρ) (([.ref (o + x0), .int x1] : List Value).toArray) s 0 0 (zA o)) (F0 m 151 ls []) := by
            intro x2_4 σ4 h H locs ls hP hS hl
            rw [J_X5_sum_151.eq_1] at h
            refine lv_iload_n (pc := 151) hx hb dX5_sum_151 rfl (lv_at hl 0 rfl) ?_
            refine lv_if_lt (pc := 152) (tgt := 164) hx hb dX5_sum_152 (by decide) (fun c1 => ?_) (fun c1 => ?_)
            · rw [if_pos c1] at h
              refine lv_iconst (pc := 164) (v := 1) hx hb dX5_sum_164 (by decide) ?_
              refine lv_goto (pc := 165) (tgt := 169) hx hb dX5_sum_165 (by decide) ?_
              exact xretz (pc := 169) hx hb hr hlocks hP hK hE hS h dX5_sum_169
            · rw [if_neg c1] at h
              refine lv_aload_n (pc := 155) hx hb dX5_sum_155 rfl (lv_at hl 1 rfl) ?_
              refine lv_iconst (pc := 156) (v := 4) hx hb dX5_sum_156 (by decide) ?_
              refine lv_iload_n (pc := 157) hx hb dX5_sum_157 rfl (lv_at hl 0 rfl) ?_
              obtain ⟨_, hg, h⟩ := zl_some h
              obtain ⟨v5, σ6, hv, h⟩ := zb_some h
              refine xcallVi (pc := 158) (As := [.int 4, .int x2_4]) (rest := []) ⟨hx, hb, hml, hown, hts⟩ (c_X5_emit l D c o g N hv) zc5 zV_X5_76 rfl zd_X5_emit ⟨by show 2 + 1 ≤ dd + 1 + 8; omega, by show 8 + (3 + 11) + 60 * 2 ≤ 60 * (dd + 1 + 8); omega⟩ hK hP hE hS hg hl.1 rfl (Nat.le_of_ble_eq_true rfl) ⟨Nat.zero_le _, Nat.zero_le _⟩ dX5_sum_158 (fun H locs hP hS => ?_)
              refine lv_if_eq (pc := 161) (tgt := 168) hx hb dX5_sum_161 (by decide) (fun c1 => ?_) (fun c1 => ?_)
              · rw [if_pos c1] at h
                refine lv_iconst (pc := 168) (v := 0) hx hb dX5_sum_168 (by decide) ?_
                exact xretz (pc := 169) hx hb hr hlocks hP hK hE hS h dX5_sum_169
              · rw [if_neg c1] at h
                refine lv_iconst (pc := 164) (v := 1) hx hb dX5_sum_164 (by decide) ?_
                refine lv_goto (pc := 165) (tgt := 169) hx hb dX5_sum_165 (by decide) ?_
                exact xretz (pc := 169) hx hb hr hlocks hP hK hE hS h dX5_sum_169
          refine lv_icmp_ge (pc := 18) (tgt := 151) hx hb dX5_sum_18 (by decide) (fun c1 => ?_) (fun c1 => ?_)
          · rw [if_pos c1] at h
            exact hj151_4 (x2_3) σ3 h _ _ ls hP hS (lv_sub hl [0, 2] rfl)
          · rw [if_neg c1] at h
            refine lv_aload_n (pc := 21) hx hb dX5_sum_21 rfl (lv_at hl 2 rfl) ?_
            obtain ⟨v7, hv, h⟩ := zl_some h
            refine xgR (pc := 22) (j := 10) zc5 hx hb hts hown hK hP hv rfl zf_X5_44 dX5_sum_22 ?_
            refine lv_aload_n (pc := 25) hx hb dX5_sum_25 rfl (lv_at hl 2 rfl) ?_
            obtain ⟨v8, hv, h⟩ := zl_some h
            refine xgI (pc := 26) (j := 9) zc5 hx hb hts hown hK hP hv rfl zf_X5_41 dX5_sum_26 ?_
            obtain ⟨v9, hv, h⟩ := zl_some h
            refine xaI (pc := 29) hx hb hK hP hv dX5_sum_29 ?_
            obtain ⟨v10, σ11, hv, h⟩ := zb_some h
            refine xcallSi (pc := 30) (As := [.int v9]) (rest := []) ⟨hx, hb, hml, hown, hts⟩ (c_X5_combination l D c o g N hv) zT_X5_111 rfl zd_X5_combination ⟨by show 2 + 1 ≤ dd + 1 + 8; omega, by show 8 + (1 + 11) + 60 * 2 ≤ 60 * (dd + 1 + 8); omega⟩ hK hP hE hS hl.1 rfl (Nat.le_of_ble_eq_true rfl) ⟨Nat.zero_le _, Nat.zero_le _⟩ dX5_sum_30 (fun H locs hP hS => ?_)
            refine lv_if_lt (pc := 33) (tgt := 151) hx hb dX5_sum_33 (by decide) (fun c1 => ?_) (fun c1 => ?_)
            · rw [if_pos c1] at h
              exact hj151_4 (x2_3) σ11 h _ _ ls hP hS (lv_sub hl [0, 2] rfl)
            · rw [if_neg c1] at h
              refine lv_aload_n (pc := 36) hx hb dX5_sum_36 rfl (lv_at hl 2 rfl) ?_
              obtain ⟨v12, hv, h⟩ := zl_some h
              refine xgR (pc := 37) (j := 10) zc5 hx hb hts hown hK hP hv rfl zf_X5_44 dX5_sum_37 ?_
              refine lv_aload_n (pc := 40) hx hb dX5_sum_40 rfl (lv_at hl 2 rfl) ?_
              obtain ⟨v13, hv, h⟩ := zl_some h
              refine xgI (pc := 41) (j := 9) zc5 hx hb hts hown hK hP hv rfl zf_X5_41 dX5_sum_41 ?_
              obtain ⟨v14, hv, h⟩ := zl_some h
              refine xaI (pc := 44) hx hb hK hP hv dX5_sum_44 ?_
              obtain ⟨v15, σ16, hv, h⟩ := zb_some h
              refine xcallSi (pc := 45) (As := [.int v14]) (rest := []) ⟨hx, hb, hml, hown, hts⟩ (c_X5_combination l D c o g N hv) zT_X5_111 rfl zd_X5_combination ⟨by show 2 + 1 ≤ dd + 1 + 8; omega, by show 8 + (1 + 11) + 60 * 2 ≤ 60 * (dd + 1 + 8); omega⟩ hK hP hE hS hl.1 rfl (Nat.le_of_ble_eq_true rfl) ⟨Nat.zero_le _, Nat.zero_le _⟩ dX5_sum_45 (fun H locs hP hS => ?_)
              refine lv_istore (pc := 48) (lv' := [(4, .int v15), (2, .int x2_3), (3, .int x3_3), (0, .ref (o + x0)), (1, .int x1)]) hx hb dX5_sum_48 hl (by decide) rfl (fun ls hl => ?_)
              refine lv_iload (pc := 50) hx hb dX5_sum_50 (lv_at hl 0 rfl) ?_
              have hj66_17 : ∀ (y0_17 : Int32) (σ17 : zS), J_X5_sum_66 N (f_X5_sum N dd) (f_X5_part N dd) (f_X5_wordPart N dd) ag3 x0 x1 x2_3 x3_3 v15 y0_17 σ17 = some ρ → ∀ (H : Heap) (locs : List Loc) (ls : Array Slot), zP D c o (zabs o σ17) H → va_S (zA o) s.heap H locs → lv_has ls 6 [(0, .ref (o + x0)), (1, .int x1), (2, .int x2_3), (3, .int x3_3), (4, .int v15)] → W p l e (zr (dd + 1 + 8)) s m (([.ref (o + x0), .int x1] : List Value).toArray) below meth cd H locs 0 0 (MQ below (zQi D c o g ρ) (([.ref (o + x0), .int x1] : List Value).toArray) s 0 0 (zA o)) (F0 m 66 ls [.int y0_17]) := by
                intro y0_17 σ17 h H locs ls hP hS hl
                rw [J_X5_sum_66.eq_1] at h
                refine lv_istore (pc := 66) (lv' := [(5, .int y0_17), (0, .ref (o + x0)), (1, .int x1), (2, .int x2_3), (3, .int x3_3), (4, .int v15)]) hx hb dX5_sum_66 hl (by decide) rfl (fun ls hl => ?_)
                refine lv_iload (pc := 68) hx hb dX5_sum_68 (lv_at hl 0 rfl) ?_
                have hj84_18 : ∀ (σ18 : zS), J_X5_sum_84 N (f_X5_sum N dd) (f_X5_part N dd) (f_X5_wordPart N dd) ag3 x0 x1 x2_3 x3_3 v15 y0_17 σ18 = some ρ → ∀ (H : Heap) (locs : List Loc) (ls : Array Slot), zP D c o (zabs o σ18) H → va_S (zA o) s.heap H locs → lv_has ls 6 [(0, .ref (o + x0)), (1, .int x1), (2, .int x2_3), (3, .int x3_3), (4, .int v15), (5, .int y0_17)] → W p l e (zr (dd + 1 + 8)) s m (([.ref (o + x0), .int x1] : List Value).toArray) below meth cd H locs 0 0 (MQ below (zQi D c o g ρ) (([.ref (o + x0), .int x1] : List Value).toArray) s 0 0 (zA o)) (F0 m 84 ls []) := by
                  intro σ18 h H locs ls hP hS hl
                  rw [J_X5_sum_84.eq_1] at h
                  refine lv_aload_n (pc := 84) hx hb dX5_sum_84 rfl (lv_at hl 0 rfl) ?_
                  refine lv_dup (pc := 85) hx hb dX5_sum_85 rfl ?_
                  obtain ⟨v19, hv, h⟩ := zl_some h
                  refine xgI (pc := 86) (j := 8) zc5 hx hb hts hown hK hP hv rfl zf_X5_38 dX5_sum_86 ?_
                  refine lv_iconst (pc := 89) (v := 1) hx hb dX5_sum_89 (by decide) ?_
                  refine lv_iadd (pc := 90) hx hb dX5_sum_90 ?_
                  obtain ⟨σ20, hv, h⟩ := zl_some h
                  refine xpI (pc := 91) (j := 8) zc5 hx hb hts hown hK hP hS hv rfl rfl rfl zf_X5_38 dX5_sum_91 (fun H locs hP hS => ?_)
                  refine lv_aload_n (pc := 94) hx hb dX5_sum_94 rfl (lv_at hl 0 rfl) ?_
                  refine lv_aload_n (pc := 95) hx hb dX5_sum_95 rfl (lv_at hl 0 rfl) ?_
                  obtain ⟨v21, hv, h⟩ := zl_some h
                  refine xgI (pc := 96) (j := 8) zc5 hx hb hts hown hK hP hv rfl zf_X5_38 dX5_sum_96 ?_
                  refine lv_bipush (pc := 99) (v := 24) hx hb dX5_sum_99 (by decide) ?_
                  have hj109_22 : ∀ (y0_22 : Int32) (y1_22 : Nat) (σ22 : zS), J_X5_sum_109 N (f_X5_sum N dd) (f_X5_part N dd) (f_X5_wordPart N dd) ag3 x0 x1 x2_3 x3_3 v15 y0_17 y0_22 y1_22 σ22 = some ρ → ∀ (H : Heap) (locs : List Loc) (ls : Array Slot), zP D c o (zabs o σ22) H → va_S (zA o) s.heap H locs → lv_has ls 6 [(0, .ref (o + x0)), (1, .int x1), (2, .int x2_3), (3, .int x3_3), (4, .int v15), (5, .int y0_17)] → W p l e (zr (dd + 1 + 8)) s m (([.ref (o + x0), .int x1] : List Value).toArray) below meth cd H locs 0 0 (MQ below (zQi D c o g ρ) (([.ref (o + x0), .int x1] : List Value).toArray) s 0 0 (zA o)) (F0 m 109 ls [.int y0_22, .ref (o + y1_22)]) := by
                    intro y0_22 y1_22 σ22 h H locs ls hP hS hl
                    rw [J_X5_sum_109.eq_1] at h
                    refine lv_iconst (pc := 109) (v := 3) hx hb dX5_sum_109 (by decide) ?_
                    obtain ⟨_, hg, h⟩ := zl_some h
                    obtain ⟨v23, σ24, hv, h⟩ := zb_some h
                    refine xcallVi (pc := 110) (As := [.int y0_22, .int 3]) (rest := []) ⟨hx, hb, hml, hown, hts⟩ (c_X5_advance l D c o g N hv) zc5 zV_X5_149 rfl zd_X5_advance ⟨by show 2 + 1 ≤ dd + 1 + 8; omega, by show 8 + (3 + 11) + 60 * 2 ≤ 60 * (dd + 1 + 8); omega⟩ hK hP hE hS hg hl.1 rfl (Nat.le_of_ble_eq_true rfl) ⟨Nat.zero_le _, Nat.zero_le _⟩ dX5_sum_110 (fun H locs hP hS => ?_)
                    refine lv_if_eq (pc := 113) (tgt := 124) hx hb dX5_sum_113 (by decide) (fun c1 => ?_) (fun c1 => ?_)
                    · rw [if_pos c1] at h
                      refine lv_iconst (pc := 124) (v := 0) hx hb dX5_sum_124 (by decide) ?_
                      exact xretz (pc := 125) hx hb hr hlocks hP hK hE hS h dX5_sum_125
                    · rw [if_neg c1] at h
                      refine lv_aload_n (pc := 116) hx hb dX5_sum_116 rfl (lv_at hl 0 rfl) ?_
                      refine lv_iload_n (pc := 117) hx hb dX5_sum_117 rfl (lv_at hl 1 rfl) ?_
                      obtain ⟨_, hg, h⟩ := zl_some h
                      obtain ⟨v25, σ26, hv, h⟩ := zb_some h
                      refine xcallVi (pc := 118) (As := [.int x1]) (rest := []) ⟨hx, hb, hml, hown, hts⟩ (ih1 _ _ _ _ hv) zc5 zV_X5_182 rfl zd_X5_part ⟨by show (dd + 8) + 1 ≤ dd + 1 + 8; omega, by show 8 + (2 + 11) + 60 * (dd + 8) ≤ 60 * (dd + 1 + 8); omega⟩ hK hP hE hS hg hl.1 rfl (Nat.le_of_ble_eq_true rfl) ⟨Nat.zero_le _, Nat.zero_le _⟩ dX5_sum_118 (fun H locs hP hS => ?_)
                      refine lv_if_ne (pc := 121) (tgt := 126) hx hb dX5_sum_121 (by decide) (fun c1 => ?_) (fun c1 => ?_)
                      · rw [if_neg c1] at h
                        refine lv_iload (pc := 126) hx hb dX5_sum_126 (lv_at hl 5 rfl) ?_
                        refine lv_if_eq (pc := 128) (tgt := 137) hx hb dX5_sum_128 (by decide) (fun c1 => ?_) (fun c1 => ?_)
                        · rw [if_pos c1] at h
                          refine lv_aload_n (pc := 137) hx hb dX5_sum_137 rfl (lv_at hl 0 rfl) ?_
                          refine lv_iconst (pc := 138) (v := 4) hx hb dX5_sum_138 (by decide) ?_
                          refine lv_iload (pc := 139) hx hb dX5_sum_139 (lv_at hl 4 rfl) ?_
                          obtain ⟨_, hg, h⟩ := zl_some h
                          obtain ⟨v27, σ28, hv, h⟩ := zb_some h
                          refine xcallVi (pc := 141) (As := [.int 4, .int v15]) (rest := []) ⟨hx, hb, hml, hown, hts⟩ (c_X5_emit l D c o g N hv) zc5 zV_X5_76 rfl zd_X5_emit ⟨by show 2 + 1 ≤ dd + 1 + 8; omega, by show 8 + (3 + 11) + 60 * 2 ≤ 60 * (dd + 1 + 8); omega⟩ hK hP hE hS hg hl.1 rfl (Nat.le_of_ble_eq_true rfl) ⟨Nat.zero_le _, Nat.zero_le _⟩ dX5_sum_141 (fun H locs hP hS => ?_)
                          refine lv_pop (pc := 144) hx hb dX5_sum_144 rfl ?_
                          refine lv_iinc (pc := 145) (v := x3_3 + 1) (lv' := [(3, .int (x3_3 + 1)), (0, .ref (o + x0)), (1, .int x1), (2, .int x2_3), (4, .int v15), (5, .int y0_17)]) hx hb dX5_sum_145 hl (k := 3) rfl rfl (by decide) rfl (fun ls hl => ?_)
                          refine lv_goto (pc := 148) (tgt := 14) hx hb dX5_sum_148 (by decide) ?_
                          exact ih3 (x2_3, x3_3 + 1, σ28) h _ _ ls hP hS (lv_sub hl [3, 0, 1, 2] rfl)
                        · rw [if_neg c1] at h
                          refine lv_iload (pc := 131) hx hb dX5_sum_131 (lv_at hl 4 rfl) ?_
                          refine lv_istore_n (pc := 133) (lv' := [(2, .int v15), (0, .ref (o + x0)), (1, .int x1), (3, .int x3_3), (4, .int v15), (5, .int y0_17)]) hx hb dX5_sum_133 rfl hl (by decide) rfl (fun ls hl => ?_)
                          refine lv_goto (pc := 134) (tgt := 145) hx hb dX5_sum_134 (by decide) ?_
                          refine lv_iinc (pc := 145) (v := x3_3 + 1) (lv' := [(3, .int (x3_3 + 1)), (2, .int v15), (0, .ref (o + x0)), (1, .int x1), (4, .int v15), (5, .int y0_17)]) hx hb dX5_sum_145 hl (k := 3) rfl rfl (by decide) rfl (fun ls hl => ?_)
                          refine lv_goto (pc := 148) (tgt := 14) hx hb dX5_sum_148 (by decide) ?_
                          exact ih3 (v15, x3_3 + 1, σ26) h _ _ ls hP hS (lv_sub hl [1, 0, 2, 3] rfl)
                      · rw [if_pos c1] at h
                        refine lv_iconst (pc := 124) (v := 0) hx hb dX5_sum_124 (by decide) ?_
                        exact xretz (pc := 125) hx hb hr hlocks hP hK hE hS h dX5_sum_125
                  refine lv_icmp_gt (pc := 101) (tgt := 108) hx hb dX5_sum_101 (by decide) (fun c1 => ?_) (fun c1 => ?_)
                  · rw [if_pos c1] at h
                    refine lv_iconst (pc := 108) (v := 0) hx hb dX5_sum_108 (by decide) ?_
                    exact hj109_22 (0) (x0) σ20 h _ _ ls hP hS (lv_sub hl [0, 1, 2, 3, 4, 5] rfl)
                  · rw [if_neg c1] at h
                    refine lv_iconst (pc := 104) (v := 1) hx hb dX5_sum_104 (by decide) ?_
                    refine lv_goto (pc := 105) (tgt := 109) hx hb dX5_sum_105 (by decide) ?_
                    exact hj109_22 (1) (x0) σ20 h _ _ ls hP hS (lv_sub hl [0, 1, 2, 3, 4, 5] rfl)
                refine lv_if_eq (pc := 70) (tgt := 84) hx hb dX5_sum_70 (by decide) (fun c1 => ?_) (fun c1 => ?_)
                · rw [if_pos c1] at h
                  exact hj84_18 σ17 h _ _ ls hP hS (lv_sub hl [1, 2, 3, 4, 5, 0] rfl)
                · rw [if_neg c1] at h
                  refine lv_iload_n (pc := 73) hx hb dX5_sum_73 rfl (lv_at hl 3 rfl) ?_
                  refine lv_if_lt (pc := 74) (tgt := 84) hx hb dX5_sum_74 (by decide) (fun c1 => ?_) (fun c1 => ?_)
                  · rw [if_pos c1] at h
                    exact hj84_18 σ17 h _ _ ls hP hS (lv_sub hl [1, 2, 3, 4, 5, 0] rfl)
                  · rw [if_neg c1] at h
                    refine lv_aload_n (pc := 77) hx hb dX5_sum_77 rfl (lv_at hl 1 rfl) ?_
                    refine lv_iconst (pc := 78) (v := 4) hx hb dX5_sum_78 (by decide) ?_
                    refine lv_iload_n (pc := 79) hx hb dX5_sum_79 rfl (lv_at hl 3 rfl) ?_
                    obtain ⟨_, hg, h⟩ := zl_some h
                    obtain ⟨v29, σ30, hv, h⟩ := zb_some h
                    refine xcallVi (pc := 80) (As := [.int 4, .int x2_3]) (rest := []) ⟨hx, hb, hml, hown, hts⟩ (c_X5_emit l D c o g N hv) zc5 zV_X5_76 rfl zd_X5_emit ⟨by show 2 + 1 ≤ dd + 1 + 8; omega, by show 8 + (3 + 11) + 60 * 2 ≤ 60 * (dd + 1 + 8); omega⟩ hK hP hE hS hg hl.1 rfl (Nat.le_of_ble_eq_true rfl) ⟨Nat.zero_le _, Nat.zero_le _⟩ dX5_sum_80 (fun H locs hP hS => ?_)
                    refine lv_pop (pc := 83) hx hb dX5_sum_83 rfl ?_
                    exact hj84_18 σ30 h _ _ ls hP hS (lv_sub hl [1, 2, 3, 4, 5, 0] rfl)
              refine lv_if_eq (pc := 52) (tgt := 61) hx hb dX5_sum_52 (by decide) (fun c1 => ?_) (fun c1 => ?_)
              · rw [if_pos c1] at h
                refine lv_iconst (pc := 61) (v := 1) hx hb dX5_sum_61 (by decide) ?_
                refine lv_goto (pc := 62) (tgt := 66) hx hb dX5_sum_62 (by decide) ?_
                exact hj66_17 (1) σ16 h _ _ ls hP hS (lv_sub hl [3, 4, 1, 2, 0] rfl)
              · rw [if_neg c1] at h
                refine lv_iload (pc := 55) hx hb dX5_sum_55 (lv_at hl 0 rfl) ?_
                refine lv_iconst (pc := 57) (v := 1) hx hb dX5_sum_57 (by decide) ?_
                refine lv_icmp_ne (pc := 58) (tgt := 65) hx hb dX5_sum_58 (by decide) (fun c1 => ?_) (fun c1 => ?_)
                · rw [if_neg c1] at h
                  refine lv_iconst (pc := 65) (v := 0) hx hb dX5_sum_65 (by decide) ?_
                  exact hj66_17 (0) σ16 h _ _ ls hP hS (lv_sub hl [3, 4, 1, 2, 0] rfl)
                · rw [if_pos c1] at h
                  refine lv_iconst (pc := 61) (v := 1) hx hb dX5_sum_61 (by decide) ?_
                  refine lv_goto (pc := 62) (tgt := 66) hx hb dX5_sum_62 (by decide) ?_
                  exact hj66_17 (1) σ16 h _ _ ls hP hS (lv_sub hl [3, 4, 1, 2, 0] rfl)
        exact L14_3 N ((-1), 0, σ2) h _ _ ls hP hS (lv_sub hl [1, 0, 2, 3] rfl)
      · rw [if_pos c1] at h
        refine lv_iconst (pc := 10) (v := 0) hx hb dX5_sum_10 (by decide) ?_
        exact xretz (pc := 11) hx hb hr hlocks hP hK hE hS h dX5_sum_11
    · intro x0 x1 σ ρ h
      have h : B_X5_part N (f_X5_sum N dd) (f_X5_part N dd) (f_X5_wordPart N dd) x0 x1 σ = some ρ := h
      refine zMetG (by decide) (Nat.le_of_ble_eq_true rfl) ?_
      intro p e s m below meth cd ⟨hx, hb, hr, hml, hown, hts, hlocks⟩ hP hK hE ls hl
      have hS : va_S (zA o) s.heap s.heap [] := va_S.rf
      have hl : lv_has ls 2 [(0, .ref (o + x0)), (1, .int x1)] := hl
      rw [B_X5_part.eq_1] at h
      refine lv_aload_n (pc := 0) hx hb dX5_part_0 rfl (lv_at hl 0 rfl) ?_
      obtain ⟨v1, hv, h⟩ := zl_some h
      refine xgR (pc := 1) (j := 10) zc5 hx hb hts hown hK hP hv rfl zf_X5_44 dX5_part_1 ?_
      refine lv_aload_n (pc := 4) hx hb dX5_part_4 rfl (lv_at hl 0 rfl) ?_
      obtain ⟨v2, hv, h⟩ := zl_some h
      refine xgI (pc := 5) (j := 9) zc5 hx hb hts hown hK hP hv rfl zf_X5_41 dX5_part_5 ?_
      obtain ⟨v3, hv, h⟩ := zl_some h
      refine xaI (pc := 8) hx hb hK hP hv dX5_part_8 ?_
      by_cases w2_9 : v3 = 2
      · rw [if_pos w2_9] at h
        refine lv_lookup (pc := 9) (tgt := 129) hx hb dX5_part_9 (by decide) (by rw [w2_9] <;> rfl) (by decide) ?_
        refine lv_aload_n (pc := 129) hx hb dX5_part_129 rfl (lv_at hl 0 rfl) ?_
        refine lv_aload_n (pc := 130) hx hb dX5_part_130 rfl (lv_at hl 0 rfl) ?_
        obtain ⟨v4, hv, h⟩ := zl_some h
        refine xgR (pc := 131) (j := 11) zc5 hx hb hts hown hK hP hv rfl zf_X5_47 dX5_part_131 ?_
        refine lv_aload_n (pc := 134) hx hb dX5_part_134 rfl (lv_at hl 0 rfl) ?_
        obtain ⟨v5, hv, h⟩ := zl_some h
        refine xgI (pc := 135) (j := 9) zc5 hx hb hts hown hK hP hv rfl zf_X5_41 dX5_part_135 ?_
        obtain ⟨v6, hv, h⟩ := zl_some h
        refine xaI (pc := 138) hx hb hK hP hv dX5_part_138 ?_
        refine lv_iload_n (pc := 139) hx hb dX5_part_139 rfl (lv_at hl 1 rfl) ?_
        obtain ⟨_, hg, h⟩ := zl_some h
        obtain ⟨v7, σ8, hv, h⟩ := zb_some h
        refine xcallVi (pc := 140) (As := [.int v6, .int x1]) (rest := []) ⟨hx, hb, hml, hown, hts⟩ (ih2 _ _ _ _ _ hv) zc5 zV_X5_189 rfl zd_X5_wordPart ⟨by show (dd + 8) + 1 ≤ dd + 1 + 8; omega, by show 8 + (3 + 11) + 60 * (dd + 8) ≤ 60 * (dd + 1 + 8); omega⟩ hK hP hE hS hg hl.1 rfl (Nat.le_of_ble_eq_true rfl) ⟨Nat.zero_le _, Nat.zero_le _⟩ dX5_part_140 (fun H locs hP hS => ?_)
        exact xretz (pc := 143) hx hb hr hlocks hP hK hE hS h dX5_part_143
      rw [if_neg w2_9] at h
      by_cases w3_9 : v3 = 3
      · rw [if_pos w3_9] at h
        refine lv_lookup (pc := 9) (tgt := 52) hx hb dX5_part_9 (by decide) (by rw [w3_9] <;> rfl) (by decide) ?_
        refine lv_aload_n (pc := 52) hx hb dX5_part_52 rfl (lv_at hl 0 rfl) ?_
        refine lv_iconst (pc := 53) (v := 0) hx hb dX5_part_53 (by decide) ?_
        refine lv_bipush (pc := 54) (v := 9) hx hb dX5_part_54 (by decide) ?_
        obtain ⟨_, hg, h⟩ := zl_some h
        obtain ⟨v9, σ10, hv, h⟩ := zb_some h
        refine xcallVi (pc := 56) (As := [.int 0, .int 9]) (rest := []) ⟨hx, hb, hml, hown, hts⟩ (c_X5_passNumber l D c o g N hv) zc5 zV_X5_168 rfl zd_X5_passNumber ⟨by show 6 + 1 ≤ dd + 1 + 8; omega, by show 8 + (3 + 11) + 60 * 6 ≤ 60 * (dd + 1 + 8); omega⟩ hK hP hE hS hg hl.1 rfl (Nat.le_of_ble_eq_true rfl) ⟨Nat.zero_le _, Nat.zero_le _⟩ dX5_part_56 (fun H locs hP hS => ?_)
        refine lv_if_eq (pc := 59) (tgt := 78) hx hb dX5_part_59 (by decide) (fun c1 => ?_) (fun c1 => ?_)
        · rw [if_pos c1] at h
          refine lv_iconst (pc := 78) (v := 0) hx hb dX5_part_78 (by decide) ?_
          exact xretz (pc := 79) hx hb hr hlocks hP hK hE hS h dX5_part_79
        · rw [if_neg c1] at h
          refine lv_aload_n (pc := 62) hx hb dX5_part_62 rfl (lv_at hl 0 rfl) ?_
          refine lv_iconst (pc := 63) (v := 0) hx hb dX5_part_63 (by decide) ?_
          refine lv_aload_n (pc := 64) hx hb dX5_part_64 rfl (lv_at hl 0 rfl) ?_
          obtain ⟨_, hg, h⟩ := zl_some h
          obtain ⟨v11, σ12, hv, h⟩ := zb_some h
          refine xcallVi (pc := 65) (As := []) (rest := [.int 0, .ref (o + x0)]) ⟨hx, hb, hml, hown, hts⟩ (c_X5_passed l D c o g N hv) zc5 zV_X5_171 rfl zd_X5_passed ⟨by show 2 + 1 ≤ dd + 1 + 8; omega, by show 8 + (1 + 11) + 60 * 2 ≤ 60 * (dd + 1 + 8); omega⟩ hK hP hE hS hg hl.1 rfl (Nat.le_of_ble_eq_true rfl) ⟨Nat.zero_le _, Nat.zero_le _⟩ dX5_part_65 (fun H locs hP hS => ?_)
          obtain ⟨_, hg, h⟩ := zl_some h
          obtain ⟨v13, σ14, hv, h⟩ := zb_some h
          refine xcallVi (pc := 68) (As := [.int 0, .int v11]) (rest := []) ⟨hx, hb, hml, hown, hts⟩ (c_X5_emit l D c o g N hv) zc5 zV_X5_76 rfl zd_X5_emit ⟨by show 2 + 1 ≤ dd + 1 + 8; omega, by show 8 + (3 + 11) + 60 * 2 ≤ 60 * (dd + 1 + 8); omega⟩ hK hP hE hS hg hl.1 rfl (Nat.le_of_ble_eq_true rfl) ⟨Nat.zero_le _, Nat.zero_le _⟩ dX5_part_68 (fun H locs hP hS => ?_)
          refine lv_if_eq (pc := 71) (tgt := 78) hx hb dX5_part_71 (by decide) (fun c1 => ?_) (fun c1 => ?_)
          · rw [if_pos c1] at h
            refine lv_iconst (pc := 78) (v := 0) hx hb dX5_part_78 (by decide) ?_
            exact xretz (pc := 79) hx hb hr hlocks hP hK hE hS h dX5_part_79
          · rw [if_neg c1] at h
            refine lv_iconst (pc := 74) (v := 1) hx hb dX5_part_74 (by decide) ?_
            refine lv_goto (pc := 75) (tgt := 79) hx hb dX5_part_75 (by decide) ?_
            exact xretz (pc := 79) hx hb hr hlocks hP hK hE hS h dX5_part_79
      rw [if_neg w3_9] at h
      by_cases w40_9 : v3 = 40
      · rw [if_pos w40_9] at h
        refine lv_lookup (pc := 9) (tgt := 85) hx hb dX5_part_9 (by decide) (by rw [w40_9] <;> rfl) (by decide) ?_
        refine lv_aload_n (pc := 85) hx hb dX5_part_85 rfl (lv_at hl 0 rfl) ?_
        refine lv_iload_n (pc := 86) hx hb dX5_part_86 rfl (lv_at hl 1 rfl) ?_
        refine lv_bipush (pc := 87) (v := 6) hx hb dX5_part_87 (by decide) ?_
        have hj97_15 : ∀ (y0_15 : Int32) (y1_15 : Nat) (σ15 : zS), J_X5_part_97 N (f_X5_sum N dd) (f_X5_part N dd) (f_X5_wordPart N dd) x0 x1 y0_15 y1_15 σ15 = some ρ → ∀ (H : Heap) (locs : List Loc) (ls : Array Slot), zP D c o (zabs o σ15) H → va_S (zA o) s.heap H locs → lv_has ls 2 [(0, .ref (o + x0)), (1, .int x1)] → W p l e (zr (dd + 1 + 8)) s m (([.ref (o + x0), .int x1] : List Value).toArray) below meth cd H locs 0 0 (MQ below (zQi D c o g ρ) (([.ref (o + x0), .int x1] : List Value).toArray) s 0 0 (zA o)) (F0 m 97 ls [.int y0_15, .ref (o + y1_15)]) := by
          intro y0_15 y1_15 σ15 h H locs ls hP hS hl
          rw [J_X5_part_97.eq_1] at h
          refine lv_iconst (pc := 97) (v := 3) hx hb dX5_part_97 (by decide) ?_
          obtain ⟨_, hg, h⟩ := zl_some h
          obtain ⟨v16, σ17, hv, h⟩ := zb_some h
          refine xcallVi (pc := 98) (As := [.int y0_15, .int 3]) (rest := []) ⟨hx, hb, hml, hown, hts⟩ (c_X5_advance l D c o g N hv) zc5 zV_X5_149 rfl zd_X5_advance ⟨by show 2 + 1 ≤ dd + 1 + 8; omega, by show 8 + (3 + 11) + 60 * 2 ≤ 60 * (dd + 1 + 8); omega⟩ hK hP hE hS hg hl.1 rfl (Nat.le_of_ble_eq_true rfl) ⟨Nat.zero_le _, Nat.zero_le _⟩ dX5_part_98 (fun H locs hP hS => ?_)
          refine lv_if_eq (pc := 101) (tgt := 127) hx hb dX5_part_101 (by decide) (fun c1 => ?_) (fun c1 => ?_)
          · rw [if_pos c1] at h
            refine lv_iconst (pc := 127) (v := 0) hx hb dX5_part_127 (by decide) ?_
            exact xretz (pc := 128) hx hb hr hlocks hP hK hE hS h dX5_part_128
          · rw [if_neg c1] at h
            refine lv_aload_n (pc := 104) hx hb dX5_part_104 rfl (lv_at hl 0 rfl) ?_
            refine lv_iload_n (pc := 105) hx hb dX5_part_105 rfl (lv_at hl 1 rfl) ?_
            refine lv_iconst (pc := 106) (v := 1) hx hb dX5_part_106 (by decide) ?_
            refine lv_iadd (pc := 107) hx hb dX5_part_107 ?_
            obtain ⟨_, hg, h⟩ := zl_some h
            obtain ⟨v18, σ19, hv, h⟩ := zb_some h
            refine xcallVi (pc := 108) (As := [.int (x1 + 1)]) (rest := []) ⟨hx, hb, hml, hown, hts⟩ (ih0 _ _ _ _ hv) zc5 zV_X5_69 rfl zd_X5_sum ⟨by show (dd + 8) + 1 ≤ dd + 1 + 8; omega, by show 8 + (6 + 11) + 60 * (dd + 8) ≤ 60 * (dd + 1 + 8); omega⟩ hK hP hE hS hg hl.1 rfl (Nat.le_of_ble_eq_true rfl) ⟨Nat.zero_le _, Nat.zero_le _⟩ dX5_part_108 (fun H locs hP hS => ?_)
            refine lv_if_eq (pc := 111) (tgt := 127) hx hb dX5_part_111 (by decide) (fun c1 => ?_) (fun c1 => ?_)
            · rw [if_pos c1] at h
              refine lv_iconst (pc := 127) (v := 0) hx hb dX5_part_127 (by decide) ?_
              exact xretz (pc := 128) hx hb hr hlocks hP hK hE hS h dX5_part_128
            · rw [if_neg c1] at h
              refine lv_aload_n (pc := 114) hx hb dX5_part_114 rfl (lv_at hl 0 rfl) ?_
              refine lv_bipush (pc := 115) (v := 41) hx hb dX5_part_115 (by decide) ?_
              obtain ⟨_, hg, h⟩ := zl_some h
              obtain ⟨v20, σ21, hv, h⟩ := zb_some h
              refine xcallVi (pc := 117) (As := [.int 41]) (rest := []) ⟨hx, hb, hml, hown, hts⟩ (c_X5_pass l D c o g N hv) zc5 zV_X5_73 rfl zd_X5_pass ⟨by show 4 + 1 ≤ dd + 1 + 8; omega, by show 8 + (2 + 11) + 60 * 4 ≤ 60 * (dd + 1 + 8); omega⟩ hK hP hE hS hg hl.1 rfl (Nat.le_of_ble_eq_true rfl) ⟨Nat.zero_le _, Nat.zero_le _⟩ dX5_part_117 (fun H locs hP hS => ?_)
              refine lv_if_eq (pc := 120) (tgt := 127) hx hb dX5_part_120 (by decide) (fun c1 => ?_) (fun c1 => ?_)
              · rw [if_pos c1] at h
                refine lv_iconst (pc := 127) (v := 0) hx hb dX5_part_127 (by decide) ?_
                exact xretz (pc := 128) hx hb hr hlocks hP hK hE hS h dX5_part_128
              · rw [if_neg c1] at h
                refine lv_iconst (pc := 123) (v := 1) hx hb dX5_part_123 (by decide) ?_
                refine lv_goto (pc := 124) (tgt := 128) hx hb dX5_part_124 (by decide) ?_
                exact xretz (pc := 128) hx hb hr hlocks hP hK hE hS h dX5_part_128
        refine lv_icmp_ge (pc := 89) (tgt := 96) hx hb dX5_part_89 (by decide) (fun c1 => ?_) (fun c1 => ?_)
        · rw [if_pos c1] at h
          refine lv_iconst (pc := 96) (v := 0) hx hb dX5_part_96 (by decide) ?_
          exact hj97_15 (0) (x0) σ h _ _ ls hP hS (lv_sub hl [0, 1] rfl)
        · rw [if_neg c1] at h
          refine lv_iconst (pc := 92) (v := 1) hx hb dX5_part_92 (by decide) ?_
          refine lv_goto (pc := 93) (tgt := 97) hx hb dX5_part_93 (by decide) ?_
          exact hj97_15 (1) (x0) σ h _ _ ls hP hS (lv_sub hl [0, 1] rfl)
      rw [if_neg w40_9] at h
      by_cases w123_9 : v3 = 123
      · rw [if_pos w123_9] at h
        refine lv_lookup (pc := 9) (tgt := 80) hx hb dX5_part_9 (by decide) (by rw [w123_9] <;> rfl) (by decide) ?_
        refine lv_aload_n (pc := 80) hx hb dX5_part_80 rfl (lv_at hl 0 rfl) ?_
        obtain ⟨_, hg, h⟩ := zl_some h
        obtain ⟨v22, σ23, hv, h⟩ := zb_some h
        refine xcallVi (pc := 81) (As := []) (rest := []) ⟨hx, hb, hml, hown, hts⟩ (c_X5_family l D c o g N hv) zc5 zV_X5_185 rfl zd_X5_family ⟨by show 6 + 1 ≤ dd + 1 + 8; omega, by show 8 + (2 + 11) + 60 * 6 ≤ 60 * (dd + 1 + 8); omega⟩ hK hP hE hS hg hl.1 rfl (Nat.le_of_ble_eq_true rfl) ⟨Nat.zero_le _, Nat.zero_le _⟩ dX5_part_81 (fun H locs hP hS => ?_)
        exact xretz (pc := 84) hx hb hr hlocks hP hK hE hS h dX5_part_84
      rw [if_neg w123_9] at h
      refine lv_lookup (pc := 9) (tgt := 144) hx hb dX5_part_9 (by decide) (xlk4 (lv_neT w2_9 (a := 2) rfl) (lv_neT w3_9 (a := 3) rfl) (lv_neT w40_9 (a := 40) rfl) (lv_neT w123_9 (a := 123) rfl)) (by decide) ?_
      refine lv_aload_n (pc := 144) hx hb dX5_part_144 rfl (lv_at hl 0 rfl) ?_
      refine lv_iconst (pc := 145) (v := 1) hx hb dX5_part_145 (by decide) ?_
      obtain ⟨_, hg, h⟩ := zl_some h
      obtain ⟨v24, σ25, hv, h⟩ := zb_some h
      refine xcallVi (pc := 146) (As := [.int 1]) (rest := []) ⟨hx, hb, hml, hown, hts⟩ (c_X5_fail l D c o g N hv) zc5 zV_X5_153 rfl zd_X5_fail ⟨by show 4 + 1 ≤ dd + 1 + 8; omega, by show 8 + (2 + 11) + 60 * 4 ≤ 60 * (dd + 1 + 8); omega⟩ hK hP hE hS hg hl.1 rfl (Nat.le_of_ble_eq_true rfl) ⟨Nat.zero_le _, Nat.zero_le _⟩ dX5_part_146 (fun H locs hP hS => ?_)
      exact xretz (pc := 149) hx hb hr hlocks hP hK hE hS h dX5_part_149
    · intro x0 x1 x2 σ ρ h
      have h : B_X5_wordPart N (f_X5_sum N dd) (f_X5_part N dd) (f_X5_wordPart N dd) x0 x1 x2 σ = some ρ := h
      refine zMetG (by decide) (Nat.le_of_ble_eq_true rfl) ?_
      intro p e s m below meth cd ⟨hx, hb, hr, hml, hown, hts, hlocks⟩ hP hK hE ls hl
      have hS : va_S (zA o) s.heap s.heap [] := va_S.rf
      have hl : lv_has ls 3 [(0, .ref (o + x0)), (1, .int x1), (2, .int x2)] := hl
      rw [B_X5_wordPart.eq_1] at h
      refine lv_iload_n (pc := 0) hx hb dX5_wordPart_0 rfl (lv_at hl 1 rfl) ?_
      refine lv_iconst (pc := 1) (v := 5) hx hb dX5_wordPart_1 (by decide) ?_
      refine lv_icmp_ne (pc := 2) (tgt := 28) hx hb dX5_wordPart_2 (by decide) (fun c1 => ?_) (fun c1 => ?_)
      · rw [if_neg c1] at h
        refine lv_iload_n (pc := 28) hx hb dX5_wordPart_28 rfl (lv_at hl 1 rfl) ?_
        refine lv_bipush (pc := 29) (v := 10) hx hb dX5_wordPart_29 (by decide) ?_
        refine lv_icmp_ge (pc := 31) (tgt := 40) hx hb dX5_wordPart_31 (by decide) (fun c1 => ?_) (fun c1 => ?_)
        · rw [if_pos c1] at h
          refine lv_aload_n (pc := 40) hx hb dX5_wordPart_40 rfl (lv_at hl 0 rfl) ?_
          refine lv_iload_n (pc := 41) hx hb dX5_wordPart_41 rfl (lv_at hl 2 rfl) ?_
          refine lv_bipush (pc := 42) (v := 6) hx hb dX5_wordPart_42 (by decide) ?_
          have hj52_1 : ∀ (y0_1 : Int32) (y1_1 : Nat) (σ1 : zS), J_X5_wordPart_52 N (f_X5_sum N dd) (f_X5_part N dd) (f_X5_wordPart N dd) x0 x1 x2 y0_1 y1_1 σ1 = some ρ → ∀ (H : Heap) (locs : List Loc) (ls : Array Slot), zP D c o (zabs o σ1) H → va_S (zA o) s.heap H locs → lv_has ls 3 [(0, .ref (o + x0)), (1, .int x1), (2, .int x2)] → W p l e (zr (dd + 1 + 8)) s m (([.ref (o + x0), .int x1, .int x2] : List Value).toArray) below meth cd H locs 0 0 (MQ below (zQi D c o g ρ) (([.ref (o + x0), .int x1, .int x2] : List Value).toArray) s 0 0 (zA o)) (F0 m 52 ls [.int y0_1, .ref (o + y1_1)]) := by
            intro y0_1 y1_1 σ1 h H locs ls hP hS hl
            rw [J_X5_wordPart_52.eq_1] at h
            refine lv_iconst (pc := 52) (v := 3) hx hb dX5_wordPart_52 (by decide) ?_
            obtain ⟨_, hg, h⟩ := zl_some h
            obtain ⟨v2, σ3, hv, h⟩ := zb_some h
            refine xcallVi (pc := 53) (As := [.int y0_1, .int 3]) (rest := []) ⟨hx, hb, hml, hown, hts⟩ (c_X5_advance l D c o g N hv) zc5 zV_X5_149 rfl zd_X5_advance ⟨by show 2 + 1 ≤ dd + 1 + 8; omega, by show 8 + (3 + 11) + 60 * 2 ≤ 60 * (dd + 1 + 8); omega⟩ hK hP hE hS hg hl.1 rfl (Nat.le_of_ble_eq_true rfl) ⟨Nat.zero_le _, Nat.zero_le _⟩ dX5_wordPart_53 (fun H locs hP hS => ?_)
            refine lv_if_eq (pc := 56) (tgt := 85) hx hb dX5_wordPart_56 (by decide) (fun c1 => ?_) (fun c1 => ?_)
            · rw [if_pos c1] at h
              refine lv_iconst (pc := 85) (v := 0) hx hb dX5_wordPart_85 (by decide) ?_
              exact xretz (pc := 86) hx hb hr hlocks hP hK hE hS h dX5_wordPart_86
            · rw [if_neg c1] at h
              refine lv_aload_n (pc := 59) hx hb dX5_wordPart_59 rfl (lv_at hl 0 rfl) ?_
              refine lv_iload_n (pc := 60) hx hb dX5_wordPart_60 rfl (lv_at hl 2 rfl) ?_
              refine lv_iconst (pc := 61) (v := 1) hx hb dX5_wordPart_61 (by decide) ?_
              refine lv_iadd (pc := 62) hx hb dX5_wordPart_62 ?_
              obtain ⟨_, hg, h⟩ := zl_some h
              obtain ⟨v4, σ5, hv, h⟩ := zb_some h
              refine xcallVi (pc := 63) (As := [.int (x2 + 1)]) (rest := []) ⟨hx, hb, hml, hown, hts⟩ (ih1 _ _ _ _ hv) zc5 zV_X5_182 rfl zd_X5_part ⟨by show (dd + 8) + 1 ≤ dd + 1 + 8; omega, by show 8 + (2 + 11) + 60 * (dd + 8) ≤ 60 * (dd + 1 + 8); omega⟩ hK hP hE hS hg hl.1 rfl (Nat.le_of_ble_eq_true rfl) ⟨Nat.zero_le _, Nat.zero_le _⟩ dX5_wordPart_63 (fun H locs hP hS => ?_)
              refine lv_if_eq (pc := 66) (tgt := 85) hx hb dX5_wordPart_66 (by decide) (fun c1 => ?_) (fun c1 => ?_)
              · rw [if_pos c1] at h
                refine lv_iconst (pc := 85) (v := 0) hx hb dX5_wordPart_85 (by decide) ?_
                exact xretz (pc := 86) hx hb hr hlocks hP hK hE hS h dX5_wordPart_86
              · rw [if_neg c1] at h
                refine lv_aload_n (pc := 69) hx hb dX5_wordPart_69 rfl (lv_at hl 0 rfl) ?_
                refine lv_iconst (pc := 70) (v := 5) hx hb dX5_wordPart_70 (by decide) ?_
                refine lv_iload_n (pc := 71) hx hb dX5_wordPart_71 rfl (lv_at hl 1 rfl) ?_
                refine lv_bipush (pc := 72) (v := 10) hx hb dX5_wordPart_72 (by decide) ?_
                refine lv_isub (pc := 74) hx hb dX5_wordPart_74 ?_
                obtain ⟨_, hg, h⟩ := zl_some h
                obtain ⟨v6, σ7, hv, h⟩ := zb_some h
                refine xcallVi (pc := 75) (As := [.int 5, .int (x1 - 10)]) (rest := []) ⟨hx, hb, hml, hown, hts⟩ (c_X5_emit l D c o g N hv) zc5 zV_X5_76 rfl zd_X5_emit ⟨by show 2 + 1 ≤ dd + 1 + 8; omega, by show 8 + (3 + 11) + 60 * 2 ≤ 60 * (dd + 1 + 8); omega⟩ hK hP hE hS hg hl.1 rfl (Nat.le_of_ble_eq_true rfl) ⟨Nat.zero_le _, Nat.zero_le _⟩ dX5_wordPart_75 (fun H locs hP hS => ?_)
                refine lv_if_eq (pc := 78) (tgt := 85) hx hb dX5_wordPart_78 (by decide) (fun c1 => ?_) (fun c1 => ?_)
                · rw [if_pos c1] at h
                  refine lv_iconst (pc := 85) (v := 0) hx hb dX5_wordPart_85 (by decide) ?_
                  exact xretz (pc := 86) hx hb hr hlocks hP hK hE hS h dX5_wordPart_86
                · rw [if_neg c1] at h
                  refine lv_iconst (pc := 81) (v := 1) hx hb dX5_wordPart_81 (by decide) ?_
                  refine lv_goto (pc := 82) (tgt := 86) hx hb dX5_wordPart_82 (by decide) ?_
                  exact xretz (pc := 86) hx hb hr hlocks hP hK hE hS h dX5_wordPart_86
          refine lv_icmp_ge (pc := 44) (tgt := 51) hx hb dX5_wordPart_44 (by decide) (fun c1 => ?_) (fun c1 => ?_)
          · rw [if_pos c1] at h
            refine lv_iconst (pc := 51) (v := 0) hx hb dX5_wordPart_51 (by decide) ?_
            exact hj52_1 (0) (x0) σ h _ _ ls hP hS (lv_sub hl [0, 1, 2] rfl)
          · rw [if_neg c1] at h
            refine lv_iconst (pc := 47) (v := 1) hx hb dX5_wordPart_47 (by decide) ?_
            refine lv_goto (pc := 48) (tgt := 52) hx hb dX5_wordPart_48 (by decide) ?_
            exact hj52_1 (1) (x0) σ h _ _ ls hP hS (lv_sub hl [0, 1, 2] rfl)
        · rw [if_neg c1] at h
          refine lv_aload_n (pc := 34) hx hb dX5_wordPart_34 rfl (lv_at hl 0 rfl) ?_
          refine lv_iconst (pc := 35) (v := 1) hx hb dX5_wordPart_35 (by decide) ?_
          obtain ⟨_, hg, h⟩ := zl_some h
          obtain ⟨v8, σ9, hv, h⟩ := zb_some h
          refine xcallVi (pc := 36) (As := [.int 1]) (rest := []) ⟨hx, hb, hml, hown, hts⟩ (c_X5_fail l D c o g N hv) zc5 zV_X5_153 rfl zd_X5_fail ⟨by show 4 + 1 ≤ dd + 1 + 8; omega, by show 8 + (2 + 11) + 60 * 4 ≤ 60 * (dd + 1 + 8); omega⟩ hK hP hE hS hg hl.1 rfl (Nat.le_of_ble_eq_true rfl) ⟨Nat.zero_le _, Nat.zero_le _⟩ dX5_wordPart_36 (fun H locs hP hS => ?_)
          exact xretz (pc := 39) hx hb hr hlocks hP hK hE hS h dX5_wordPart_39
      · rw [if_pos c1] at h
        refine lv_aload_n (pc := 5) hx hb dX5_wordPart_5 rfl (lv_at hl 0 rfl) ?_
        refine lv_iconst (pc := 6) (v := 2) hx hb dX5_wordPart_6 (by decide) ?_
        obtain ⟨_, hg, h⟩ := zl_some h
        obtain ⟨v10, σ11, hv, h⟩ := zb_some h
        refine xcallVi (pc := 7) (As := [.int 2]) (rest := []) ⟨hx, hb, hml, hown, hts⟩ (c_X5_pass l D c o g N hv) zc5 zV_X5_73 rfl zd_X5_pass ⟨by show 4 + 1 ≤ dd + 1 + 8; omega, by show 8 + (2 + 11) + 60 * 4 ≤ 60 * (dd + 1 + 8); omega⟩ hK hP hE hS hg hl.1 rfl (Nat.le_of_ble_eq_true rfl) ⟨Nat.zero_le _, Nat.zero_le _⟩ dX5_wordPart_7 (fun H locs hP hS => ?_)
        refine lv_if_eq (pc := 10) (tgt := 26) hx hb dX5_wordPart_10 (by decide) (fun c1 => ?_) (fun c1 => ?_)
        · rw [if_pos c1] at h
          refine lv_iconst (pc := 26) (v := 0) hx hb dX5_wordPart_26 (by decide) ?_
          exact xretz (pc := 27) hx hb hr hlocks hP hK hE hS h dX5_wordPart_27
        · rw [if_neg c1] at h
          refine lv_aload_n (pc := 13) hx hb dX5_wordPart_13 rfl (lv_at hl 0 rfl) ?_
          refine lv_iconst (pc := 14) (v := 2) hx hb dX5_wordPart_14 (by decide) ?_
          refine lv_iconst (pc := 15) (v := 0) hx hb dX5_wordPart_15 (by decide) ?_
          obtain ⟨_, hg, h⟩ := zl_some h
          obtain ⟨v12, σ13, hv, h⟩ := zb_some h
          refine xcallVi (pc := 16) (As := [.int 2, .int 0]) (rest := []) ⟨hx, hb, hml, hown, hts⟩ (c_X5_emit l D c o g N hv) zc5 zV_X5_76 rfl zd_X5_emit ⟨by show 2 + 1 ≤ dd + 1 + 8; omega, by show 8 + (3 + 11) + 60 * 2 ≤ 60 * (dd + 1 + 8); omega⟩ hK hP hE hS hg hl.1 rfl (Nat.le_of_ble_eq_true rfl) ⟨Nat.zero_le _, Nat.zero_le _⟩ dX5_wordPart_16 (fun H locs hP hS => ?_)
          refine lv_if_eq (pc := 19) (tgt := 26) hx hb dX5_wordPart_19 (by decide) (fun c1 => ?_) (fun c1 => ?_)
          · rw [if_pos c1] at h
            refine lv_iconst (pc := 26) (v := 0) hx hb dX5_wordPart_26 (by decide) ?_
            exact xretz (pc := 27) hx hb hr hlocks hP hK hE hS h dX5_wordPart_27
          · rw [if_neg c1] at h
            refine lv_iconst (pc := 22) (v := 1) hx hb dX5_wordPart_22 (by decide) ?_
            refine lv_goto (pc := 23) (tgt := 27) hx hb dX5_wordPart_23 (by decide) ?_
            exact xretz (pc := 27) hx hb hr hlocks hP hK hE hS h dX5_wordPart_27
theorem c_X5_sum (l : Launch) (D : va_G) (c : zC) (o : Nat) (g : zEp) (N dd : Nat) {x0 : Nat} {x1 : Int32} {σ : zS} {ρ : Int32 × zS} (h : f_X5_sum N dd x0 x1 σ = some ρ) : Met l yX5_sum zs_X5_sum (zr (dd + 8)) (va_Pc [.ref (o + x0), .int x1] (zG D c o g σ)) (zQi D c o g ρ) 0 0 (zA o) := (K_X5_sum l D c o g N dd).1 _ _ _ _ h
theorem c_X5_part (l : Launch) (D : va_G) (c : zC) (o : Nat) (g : zEp) (N dd : Nat) {x0 : Nat} {x1 : Int32} {σ : zS} {ρ : Int32 × zS} (h : f_X5_part N dd x0 x1 σ = some ρ) : Met l yX5_part zs_X5_part (zr (dd + 8)) (va_Pc [.ref (o + x0), .int x1] (zG D c o g σ)) (zQi D c o g ρ) 0 0 (zA o) := (K_X5_sum l D c o g N dd).2.1 _ _ _ _ h
theorem c_X5_wordPart (l : Launch) (D : va_G) (c : zC) (o : Nat) (g : zEp) (N dd : Nat) {x0 : Nat} {x1 : Int32} {x2 : Int32} {σ : zS} {ρ : Int32 × zS} (h : f_X5_wordPart N dd x0 x1 x2 σ = some ρ) : Met l yX5_wordPart zs_X5_wordPart (zr (dd + 8)) (va_Pc [.ref (o + x0), .int x1, .int x2] (zG D c o g σ)) (zQi D c o g ρ) 0 0 (zA o) := (K_X5_sum l D c o g N dd).2.2 _ _ _ _ _ h

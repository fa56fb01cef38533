def J_X5_readLine_211 (N : Nat) (x0 : Nat) (x5 : Int32) (σ : zS) : Option (Int32 × zS) :=
  if x5 = 0 then
    (rZ 0 σ)
  else
    (zl (gC 5 x0) fun _ => zb (f_X5_pass N x0 59 σ) fun v19 σ20 =>
    if v19 = 0 then
      (rZ 0 σ20)
    else
      (rZ 1 σ20))
def J_X5_readLine_92 (N : Nat) (x0 : Nat) (x1 : Nat) (x2 : Int32) (σ : zS) : Option (Int32 × zS) :=
  zl (gC 5 x0) fun _ => zb (f_X5_pass N x0 2 σ) fun v12 σ13 =>
  zl (gR 5 11 x0 σ13) fun v14 =>
  zl (gI 5 9 x0 σ13) fun v15 =>
  zl (aI 14 v14 v15 σ13) fun v16 =>
  if x2 = 1 then
    (zl (gC 5 x0) fun _ => zb (f_X5_readNames N x0 x1 σ13) fun v17 σ18 =>
    J_X5_readLine_211 N x0 v17 σ18)
  else if x2 = 2 then
    (zl (gC 5 x0) fun _ => zb (f_X5_readWeight N x0 x1 σ13) fun v21 σ22 =>
    J_X5_readLine_211 N x0 v21 σ22)
  else if x2 = 3 then
    (zl (gC 5 x0) fun _ => zb (f_X5_readEdge N x0 x1 σ13) fun v23 σ24 =>
    J_X5_readLine_211 N x0 v23 σ24)
  else (zl (gC 5 x0) fun _ => zb (f_X5_passNumber N x0 0 9 σ13) fun v25 σ26 =>
    if v25 = 0 then
      (J_X5_readLine_211 N x0 0 σ26)
    else
      (zl (gC 5 x0) fun _ => zb (f_X5_pass N x0 61 σ26) fun v27 σ28 =>
      if v27 = 0 then
        (J_X5_readLine_211 N x0 0 σ28)
      else
        (zl (gC 5 x0) fun _ => zb (f_X5_sum N 24 x0 0 σ28) fun v29 σ30 =>
        if v29 = 0 then
          (J_X5_readLine_211 N x0 0 σ30)
        else
          (zl (gC 5 x0) fun _ => zb (f_X5_emit N x0 6 v16 σ30) fun v31 σ32 =>
          if v31 = 0 then
            (J_X5_readLine_211 N x0 0 σ32)
          else
            (J_X5_readLine_211 N x0 1 σ32)))))
def J_X5_readLine_51 (N : Nat) (x0 : Nat) (x1 : Nat) (x2 : Int32) (y0 : Int32) (y1 : Int32) (σ : zS) : Option (Int32 × zS) :=
  if y1 = y0 then
    (if x2 < 1 then
      (zl (gC 5 x0) fun _ => zb (f_X5_fail N x0 1 σ) fun v8 σ9 =>
      rZ v8 σ9)
    else
      (if x2 ≤ 4 then
        (if x2 = 3 then
          (zl (gI 10 2 x1 σ) fun v10 =>
          zl (gI 5 7 x0 σ) fun v11 =>
          if v10 < v11 then
            (J_X5_readLine_92 N x0 x1 x2 σ)
          else
            (zl (gC 5 x0) fun _ => zb (f_X5_fail N x0 3 σ) fun v33 σ34 =>
            rZ v33 σ34))
        else
          (J_X5_readLine_92 N x0 x1 x2 σ))
      else
        (zl (gC 5 x0) fun _ => zb (f_X5_fail N x0 1 σ) fun v35 σ36 =>
        rZ v35 σ36)))
  else
    (zl (gC 5 x0) fun _ => zb (f_X5_fail N x0 1 σ) fun v37 σ38 =>
    rZ v37 σ38)
def J_X5_readLine_39 (N : Nat) (x0 : Nat) (x1 : Nat) (x2 : Int32) (y0 : Int32) (σ : zS) : Option (Int32 × zS) :=
  if x2 = 1 then
    (J_X5_readLine_51 N x0 x1 x2 1 y0 σ)
  else
    (J_X5_readLine_51 N x0 x1 x2 0 y0 σ)
def J_X5_readLine_26 (N : Nat) (x0 : Nat) (x1 : Nat) (y0 : Int32) (σ : zS) : Option (Int32 × zS) :=
  zl (gI 10 1 x1 σ) fun v7 =>
  if v7 = 0 then
    (J_X5_readLine_39 N x0 x1 y0 1 σ)
  else
    (J_X5_readLine_39 N x0 x1 y0 0 σ)
def f_X5_readLine (N : Nat) (x0 : Nat) (x1 : Nat) (σ : zS) : Option (Int32 × zS) :=
  zl (gR 5 10 x0 σ) fun v1 =>
  zl (gI 5 9 x0 σ) fun v2 =>
  zl (aI 14 v1 v2 σ) fun v3 =>
  if v3 = 2 then
    (zl (gR 5 11 x0 σ) fun v4 =>
    zl (gI 5 9 x0 σ) fun v5 =>
    zl (aI 14 v4 v5 σ) fun v6 =>
    J_X5_readLine_26 N x0 x1 v6 σ)
  else
    (J_X5_readLine_26 N x0 x1 (-1) σ)
set_option maxHeartbeats 4000000 in
set_option maxRecDepth 100000 in
theorem c_X5_readLine (l : Launch) (D : va_G) (c : zC) (o : Nat) (g : zEp) (N : Nat) {x0 : Nat} {x1 : Nat} {σ : zS} {ρ : Int32 × zS} (h : f_X5_readLine N x0 x1 σ = some ρ) : Met l yX5_readLine zs_X5_readLine (zr 34) (va_Pc [.ref (o + x0), .ref (o + x1)] (zG D c o g σ)) (zQi D c o g ρ) 0 0 (zA o) := by
  refine zMetG (by decide) (Nat.le_of_ble_eq_true rfl) ?_
  intro p e s m below meth cd ⟨hx, hb, hr, hml, hown, hts, hlocks⟩ hP hK hE ls hl
  have hS : va_S (zA o) s.heap s.heap [] := va_S.rf
  have hl : lv_has ls 6 [(0, .ref (o + x0)), (1, .ref (o + x1))] := hl
  rw [f_X5_readLine.eq_1] at h
  refine lv_aload_n (pc := 0) hx hb dX5_readLine_0 rfl (lv_at hl 0 rfl) ?_
  obtain ⟨v1, hv, h⟩ := zl_some h
  refine xgR (pc := 1) (j := 10) zc5 hx hb hts hown hK hP hv rfl zf_X5_44 dX5_readLine_1 ?_
  refine lv_aload_n (pc := 4) hx hb dX5_readLine_4 rfl (lv_at hl 0 rfl) ?_
  obtain ⟨v2, hv, h⟩ := zl_some h
  refine xgI (pc := 5) (j := 9) zc5 hx hb hts hown hK hP hv rfl zf_X5_41 dX5_readLine_5 ?_
  obtain ⟨v3, hv, h⟩ := zl_some h
  refine xaI (pc := 8) hx hb hK hP hv dX5_readLine_8 ?_
  refine lv_iconst (pc := 9) (v := 2) hx hb dX5_readLine_9 (by decide) ?_
  have hj26_4 : ∀ (y0_4 : Int32) (σ4 : zS), J_X5_readLine_26 N x0 x1 y0_4 σ4 = some ρ → ∀ (H : Heap) (locs : List Loc) (ls : Array Slot), zP D c o (zabs o σ4) H → va_S (zA o) s.heap H locs → lv_has ls 6 [(0, .ref (o + x0)), (1, .ref (o + x1))] → W p l e (zr 34) s m (([.ref (o + x0), .ref (o + x1)] : List Value).toArray) below meth cd H locs 0 0 (MQ below (zQi D c o g ρ) (([.ref (o + x0), .ref (o + x1)] : List Value).toArray) s 0 0 (zA o)) (F0 m 26 ls [.int y0_4]) := by
    intro y0_4 σ4 h H locs ls hP hS hl
    rw [J_X5_readLine_26.eq_1] at h
    refine lv_istore_n (pc := 26) (lv' := [(2, .int y0_4), (0, .ref (o + x0)), (1, .ref (o + x1))]) hx hb dX5_readLine_26 rfl hl (by decide) rfl (fun ls hl => ?_)
    refine lv_aload_n (pc := 27) hx hb dX5_readLine_27 rfl (lv_at hl 2 rfl) ?_
    obtain ⟨v5, hv, h⟩ := zl_some h
    refine xgI (pc := 28) (j := 1) zc10 hx hb hts hown hK hP hv rfl zf_X5_64 dX5_readLine_28 ?_
    have hj39_6 : ∀ (y0_6 : Int32) (σ6 : zS), J_X5_readLine_39 N x0 x1 y0_4 y0_6 σ6 = some ρ → ∀ (H : Heap) (locs : List Loc) (ls : Array Slot), zP D c o (zabs o σ6) H → va_S (zA o) s.heap H locs → lv_has ls 6 [(0, .ref (o + x0)), (1, .ref (o + x1)), (2, .int y0_4)] → W p l e (zr 34) s m (([.ref (o + x0), .ref (o + x1)] : List Value).toArray) below meth cd H locs 0 0 (MQ below (zQi D c o g ρ) (([.ref (o + x0), .ref (o + x1)] : List Value).toArray) s 0 0 (zA o)) (F0 m 39 ls [.int y0_6]) := by
      intro y0_6 σ6 h H locs ls hP hS hl
      rw [J_X5_readLine_39.eq_1] at h
      refine lv_istore_n (pc := 39) (lv' := [(3, .int y0_6), (0, .ref (o + x0)), (1, .ref (o + x1)), (2, .int y0_4)]) hx hb dX5_readLine_39 rfl hl (by decide) rfl (fun ls hl => ?_)
      refine lv_iload_n (pc := 40) hx hb dX5_readLine_40 rfl (lv_at hl 0 rfl) ?_
      refine lv_iload_n (pc := 41) hx hb dX5_readLine_41 rfl (lv_at hl 3 rfl) ?_
      refine lv_iconst (pc := 42) (v := 1) hx hb dX5_readLine_42 (by decide) ?_
      have hj51_7 : ∀ (y0_7 : Int32) (y1_7 : Int32) (σ7 : zS), J_X5_readLine_51 N x0 x1 y0_4 y0_7 y1_7 σ7 = some ρ → ∀ (H : Heap) (locs : List Loc) (ls : Array Slot), zP D c o (zabs o σ7) H → va_S (zA o) s.heap H locs → lv_has ls 6 [(0, .ref (o + x0)), (1, .ref (o + x1)), (2, .int y0_4)] → W p l e (zr 34) s m (([.ref (o + x0), .ref (o + x1)] : List Value).toArray) below meth cd H locs 0 0 (MQ below (zQi D c o g ρ) (([.ref (o + x0), .ref (o + x1)] : List Value).toArray) s 0 0 (zA o)) (F0 m 51 ls [.int y0_7, .int y1_7]) := by
        intro y0_7 y1_7 σ7 h H locs ls hP hS hl
        rw [J_X5_readLine_51.eq_1] at h
        refine lv_icmp_ne (pc := 51) (tgt := 64) hx hb dX5_readLine_51 (by decide) (fun c1 => ?_) (fun c1 => ?_)
        · rw [if_neg c1] at h
          refine lv_aload_n (pc := 64) hx hb dX5_readLine_64 rfl (lv_at hl 0 rfl) ?_
          refine lv_iconst (pc := 65) (v := 1) hx hb dX5_readLine_65 (by decide) ?_
          obtain ⟨_, hg, h⟩ := zl_some h
          obtain ⟨v8, σ9, hv, h⟩ := zb_some h
          refine xcallVi (pc := 66) (As := [.int 1]) (rest := []) ⟨hx, hb, hml, hown, hts⟩ (c_X5_fail l D c o g N hv) zc5 zV_X5_153 rfl zd_X5_fail ⟨Nat.le_of_ble_eq_true rfl, Nat.le_of_ble_eq_true rfl⟩ hK hP hE hS hg hl.1 rfl (Nat.le_of_ble_eq_true rfl) ⟨Nat.zero_le _, Nat.zero_le _⟩ dX5_readLine_66 (fun H locs hP hS => ?_)
          exact xretz (pc := 69) hx hb hr hlocks hP hK hE hS h dX5_readLine_69
        · rw [if_pos c1] at h
          refine lv_iload_n (pc := 54) hx hb dX5_readLine_54 rfl (lv_at hl 2 rfl) ?_
          refine lv_iconst (pc := 55) (v := 1) hx hb dX5_readLine_55 (by decide) ?_
          refine lv_icmp_lt (pc := 56) (tgt := 64) hx hb dX5_readLine_56 (by decide) (fun c1 => ?_) (fun c1 => ?_)
          · rw [if_pos c1] at h
            refine lv_aload_n (pc := 64) hx hb dX5_readLine_64 rfl (lv_at hl 0 rfl) ?_
            refine lv_iconst (pc := 65) (v := 1) hx hb dX5_readLine_65 (by decide) ?_
            obtain ⟨_, hg, h⟩ := zl_some h
            obtain ⟨v10, σ11, hv, h⟩ := zb_some h
            refine xcallVi (pc := 66) (As := [.int 1]) (rest := []) ⟨hx, hb, hml, hown, hts⟩ (c_X5_fail l D c o g N hv) zc5 zV_X5_153 rfl zd_X5_fail ⟨Nat.le_of_ble_eq_true rfl, Nat.le_of_ble_eq_true rfl⟩ hK hP hE hS hg hl.1 rfl (Nat.le_of_ble_eq_true rfl) ⟨Nat.zero_le _, Nat.zero_le _⟩ dX5_readLine_66 (fun H locs hP hS => ?_)
            exact xretz (pc := 69) hx hb hr hlocks hP hK hE hS h dX5_readLine_69
          · rw [if_neg c1] at h
            refine lv_iload_n (pc := 59) hx hb dX5_readLine_59 rfl (lv_at hl 2 rfl) ?_
            refine lv_iconst (pc := 60) (v := 4) hx hb dX5_readLine_60 (by decide) ?_
            refine lv_icmp_le (pc := 61) (tgt := 70) hx hb dX5_readLine_61 (by decide) (fun c1 => ?_) (fun c1 => ?_)
            · rw [if_pos c1] at h
              refine lv_iload_n (pc := 70) hx hb dX5_readLine_70 rfl (lv_at hl 2 rfl) ?_
              refine lv_iconst (pc := 71) (v := 3) hx hb dX5_readLine_71 (by decide) ?_
              have hj92_12 : ∀ (σ12 : zS), J_X5_readLine_92 N x0 x1 y0_4 σ12 = some ρ → ∀ (H : Heap) (locs : List Loc) (ls : Array Slot), zP D c o (zabs o σ12) H → va_S (zA o) s.heap H locs → lv_has ls 6 [(0, .ref (o + x0)), (1, .ref (o + x1)), (2, .int y0_4)] → W p l e (zr 34) s m (([.ref (o + x0), .ref (o + x1)] : List Value).toArray) below meth cd H locs 0 0 (MQ below (zQi D c o g ρ) (([.ref (o + x0), .ref (o + x1)] : List Value).toArray) s 0 0 (zA o)) (F0 m 92 ls []) := by
                intro σ12 h H locs ls hP hS hl
                rw [J_X5_readLine_92.eq_1] at h
                refine lv_aload_n (pc := 92) hx hb dX5_readLine_92 rfl (lv_at hl 0 rfl) ?_
                refine lv_iconst (pc := 93) (v := 2) hx hb dX5_readLine_93 (by decide) ?_
                obtain ⟨_, hg, h⟩ := zl_some h
                obtain ⟨v13, σ14, hv, h⟩ := zb_some h
                refine xcallVi (pc := 94) (As := [.int 2]) (rest := []) ⟨hx, hb, hml, hown, hts⟩ (c_X5_pass l D c o g N hv) zc5 zV_X5_73 rfl zd_X5_pass ⟨Nat.le_of_ble_eq_true rfl, Nat.le_of_ble_eq_true rfl⟩ hK hP hE hS hg hl.1 rfl (Nat.le_of_ble_eq_true rfl) ⟨Nat.zero_le _, Nat.zero_le _⟩ dX5_readLine_94 (fun H locs hP hS => ?_)
                refine lv_pop (pc := 97) hx hb dX5_readLine_97 rfl ?_
                refine lv_aload_n (pc := 98) hx hb dX5_readLine_98 rfl (lv_at hl 0 rfl) ?_
                obtain ⟨v15, hv, h⟩ := zl_some h
                refine xgR (pc := 99) (j := 11) zc5 hx hb hts hown hK hP hv rfl zf_X5_47 dX5_readLine_99 ?_
                refine lv_aload_n (pc := 102) hx hb dX5_readLine_102 rfl (lv_at hl 0 rfl) ?_
                obtain ⟨v16, hv, h⟩ := zl_some h
                refine xgI (pc := 103) (j := 9) zc5 hx hb hts hown hK hP hv rfl zf_X5_41 dX5_readLine_103 ?_
                obtain ⟨v17, hv, h⟩ := zl_some h
                refine xaI (pc := 106) hx hb hK hP hv dX5_readLine_106 ?_
                refine lv_istore (pc := 107) (lv' := [(4, .int v17), (0, .ref (o + x0)), (1, .ref (o + x1)), (2, .int y0_4)]) hx hb dX5_readLine_107 hl (by decide) rfl (fun ls hl => ?_)
                refine lv_iload_n (pc := 109) hx hb dX5_readLine_109 rfl (lv_at hl 3 rfl) ?_
                have hj211_18 : ∀ (x5_18 : Int32) (σ18 : zS), J_X5_readLine_211 N x0 x5_18 σ18 = some ρ → ∀ (H : Heap) (locs : List Loc) (ls : Array Slot), zP D c o (zabs o σ18) H → va_S (zA o) s.heap H locs → lv_has ls 6 [(5, .int x5_18), (0, .ref (o + x0))] → W p l e (zr 34) s m (([.ref (o + x0), .ref (o + x1)] : List Value).toArray) below meth cd H locs 0 0 (MQ below (zQi D c o g ρ) (([.ref (o + x0), .ref (o + x1)] : List Value).toArray) s 0 0 (zA o)) (F0 m 211 ls []) := by
                  intro x5_18 σ18 h H locs ls hP hS hl
                  rw [J_X5_readLine_211.eq_1] at h
                  refine lv_iload (pc := 211) hx hb dX5_readLine_211 (lv_at hl 0 rfl) ?_
                  refine lv_if_eq (pc := 213) (tgt := 229) hx hb dX5_readLine_213 (by decide) (fun c1 => ?_) (fun c1 => ?_)
                  · rw [if_pos c1] at h
                    refine lv_iconst (pc := 229) (v := 0) hx hb dX5_readLine_229 (by decide) ?_
                    exact xretz (pc := 230) hx hb hr hlocks hP hK hE hS h dX5_readLine_230
                  · rw [if_neg c1] at h
                    refine lv_aload_n (pc := 216) hx hb dX5_readLine_216 rfl (lv_at hl 1 rfl) ?_
                    refine lv_bipush (pc := 217) (v := 59) hx hb dX5_readLine_217 (by decide) ?_
                    obtain ⟨_, hg, h⟩ := zl_some h
                    obtain ⟨v19, σ20, hv, h⟩ := zb_some h
                    refine xcallVi (pc := 219) (As := [.int 59]) (rest := []) ⟨hx, hb, hml, hown, hts⟩ (c_X5_pass l D c o g N hv) zc5 zV_X5_73 rfl zd_X5_pass ⟨Nat.le_of_ble_eq_true rfl, Nat.le_of_ble_eq_true rfl⟩ hK hP hE hS hg hl.1 rfl (Nat.le_of_ble_eq_true rfl) ⟨Nat.zero_le _, Nat.zero_le _⟩ dX5_readLine_219 (fun H locs hP hS => ?_)
                    refine lv_if_eq (pc := 222) (tgt := 229) hx hb dX5_readLine_222 (by decide) (fun c1 => ?_) (fun c1 => ?_)
                    · rw [if_pos c1] at h
                      refine lv_iconst (pc := 229) (v := 0) hx hb dX5_readLine_229 (by decide) ?_
                      exact xretz (pc := 230) hx hb hr hlocks hP hK hE hS h dX5_readLine_230
                    · rw [if_neg c1] at h
                      refine lv_iconst (pc := 225) (v := 1) hx hb dX5_readLine_225 (by decide) ?_
                      refine lv_goto (pc := 226) (tgt := 230) hx hb dX5_readLine_226 (by decide) ?_
                      exact xretz (pc := 230) hx hb hr hlocks hP hK hE hS h dX5_readLine_230
                by_cases w1_110 : y0_4 = 1
                · rw [if_pos w1_110] at h
                  refine lv_tableIn (pc := 110) (tgt := 136) hx hb dX5_readLine_110 (by rw [w1_110]; decide) (by rw [w1_110]; decide) (by rw [w1_110]; rfl) (by decide) ?_
                  refine lv_aload_n (pc := 136) hx hb dX5_readLine_136 rfl (lv_at hl 1 rfl) ?_
                  refine lv_aload_n (pc := 137) hx hb dX5_readLine_137 rfl (lv_at hl 2 rfl) ?_
                  obtain ⟨_, hg, h⟩ := zl_some h
                  obtain ⟨v21, σ22, hv, h⟩ := zb_some h
                  refine xcallVi (pc := 138) (As := [.ref (o + x1)]) (rest := []) ⟨hx, hb, hml, hown, hts⟩ (c_X5_readNames l D c o g N hv) zc5 zV_X5_159 rfl zd_X5_readNames ⟨Nat.le_of_ble_eq_true rfl, Nat.le_of_ble_eq_true rfl⟩ hK hP hE hS hg hl.1 rfl (Nat.le_of_ble_eq_true rfl) ⟨Nat.zero_le _, Nat.zero_le _⟩ dX5_readLine_138 (fun H locs hP hS => ?_)
                  refine lv_istore (pc := 141) (lv' := [(5, .int v21), (4, .int v17), (0, .ref (o + x0)), (1, .ref (o + x1)), (2, .int y0_4)]) hx hb dX5_readLine_141 hl (by decide) rfl (fun ls hl => ?_)
                  refine lv_goto (pc := 143) (tgt := 211) hx hb dX5_readLine_143 (by decide) ?_
                  exact hj211_18 (v21) σ22 h _ _ ls hP hS (lv_sub hl [0, 2] rfl)
                rw [if_neg w1_110] at h
                by_cases w2_110 : y0_4 = 2
                · rw [if_pos w2_110] at h
                  refine lv_tableIn (pc := 110) (tgt := 146) hx hb dX5_readLine_110 (by rw [w2_110]; decide) (by rw [w2_110]; decide) (by rw [w2_110]; rfl) (by decide) ?_
                  refine lv_aload_n (pc := 146) hx hb dX5_readLine_146 rfl (lv_at hl 1 rfl) ?_
                  refine lv_aload_n (pc := 147) hx hb dX5_readLine_147 rfl (lv_at hl 2 rfl) ?_
                  obtain ⟨_, hg, h⟩ := zl_some h
                  obtain ⟨v23, σ24, hv, h⟩ := zb_some h
                  refine xcallVi (pc := 148) (As := [.ref (o + x1)]) (rest := []) ⟨hx, hb, hml, hown, hts⟩ (c_X5_readWeight l D c o g N hv) zc5 zV_X5_162 rfl zd_X5_readWeight ⟨Nat.le_of_ble_eq_true rfl, Nat.le_of_ble_eq_true rfl⟩ hK hP hE hS hg hl.1 rfl (Nat.le_of_ble_eq_true rfl) ⟨Nat.zero_le _, Nat.zero_le _⟩ dX5_readLine_148 (fun H locs hP hS => ?_)
                  refine lv_istore (pc := 151) (lv' := [(5, .int v23), (4, .int v17), (0, .ref (o + x0)), (1, .ref (o + x1)), (2, .int y0_4)]) hx hb dX5_readLine_151 hl (by decide) rfl (fun ls hl => ?_)
                  refine lv_goto (pc := 153) (tgt := 211) hx hb dX5_readLine_153 (by decide) ?_
                  exact hj211_18 (v23) σ24 h _ _ ls hP hS (lv_sub hl [0, 2] rfl)
                rw [if_neg w2_110] at h
                by_cases w3_110 : y0_4 = 3
                · rw [if_pos w3_110] at h
                  refine lv_tableIn (pc := 110) (tgt := 156) hx hb dX5_readLine_110 (by rw [w3_110]; decide) (by rw [w3_110]; decide) (by rw [w3_110]; rfl) (by decide) ?_
                  refine lv_aload_n (pc := 156) hx hb dX5_readLine_156 rfl (lv_at hl 1 rfl) ?_
                  refine lv_aload_n (pc := 157) hx hb dX5_readLine_157 rfl (lv_at hl 2 rfl) ?_
                  obtain ⟨_, hg, h⟩ := zl_some h
                  obtain ⟨v25, σ26, hv, h⟩ := zb_some h
                  refine xcallVi (pc := 158) (As := [.ref (o + x1)]) (rest := []) ⟨hx, hb, hml, hown, hts⟩ (c_X5_readEdge l D c o g N hv) zc5 zV_X5_165 rfl zd_X5_readEdge ⟨Nat.le_of_ble_eq_true rfl, Nat.le_of_ble_eq_true rfl⟩ hK hP hE hS hg hl.1 rfl (Nat.le_of_ble_eq_true rfl) ⟨Nat.zero_le _, Nat.zero_le _⟩ dX5_readLine_158 (fun H locs hP hS => ?_)
                  refine lv_istore (pc := 161) (lv' := [(5, .int v25), (4, .int v17), (0, .ref (o + x0)), (1, .ref (o + x1)), (2, .int y0_4)]) hx hb dX5_readLine_161 hl (by decide) rfl (fun ls hl => ?_)
                  refine lv_goto (pc := 163) (tgt := 211) hx hb dX5_readLine_163 (by decide) ?_
                  exact hj211_18 (v25) σ26 h _ _ ls hP hS (lv_sub hl [0, 2] rfl)
                rw [if_neg w3_110] at h
                have wo_110 : y0_4.toInt < 1 ∨ 3 < y0_4.toInt := by
                  have q1 := lv_neT w1_110 (a := 1) rfl; have q2 := lv_neT w2_110 (a := 2) rfl; have q3 := lv_neT w3_110 (a := 3) rfl
                  omega
                refine lv_tableOut (pc := 110) (tgt := 166) hx hb dX5_readLine_110 wo_110 (by decide) ?_
                refine lv_aload_n (pc := 166) hx hb dX5_readLine_166 rfl (lv_at hl 1 rfl) ?_
                refine lv_iconst (pc := 167) (v := 0) hx hb dX5_readLine_167 (by decide) ?_
                refine lv_bipush (pc := 168) (v := 9) hx hb dX5_readLine_168 (by decide) ?_
                obtain ⟨_, hg, h⟩ := zl_some h
                obtain ⟨v27, σ28, hv, h⟩ := zb_some h
                refine xcallVi (pc := 170) (As := [.int 0, .int 9]) (rest := []) ⟨hx, hb, hml, hown, hts⟩ (c_X5_passNumber l D c o g N hv) zc5 zV_X5_168 rfl zd_X5_passNumber ⟨Nat.le_of_ble_eq_true rfl, Nat.le_of_ble_eq_true rfl⟩ hK hP hE hS hg hl.1 rfl (Nat.le_of_ble_eq_true rfl) ⟨Nat.zero_le _, Nat.zero_le _⟩ dX5_readLine_170 (fun H locs hP hS => ?_)
                refine lv_if_eq (pc := 173) (tgt := 208) hx hb dX5_readLine_173 (by decide) (fun c1 => ?_) (fun c1 => ?_)
                · rw [if_pos c1] at h
                  refine lv_iconst (pc := 208) (v := 0) hx hb dX5_readLine_208 (by decide) ?_
                  refine lv_istore (pc := 209) (lv' := [(5, .int 0), (4, .int v17), (0, .ref (o + x0)), (1, .ref (o + x1)), (2, .int y0_4)]) hx hb dX5_readLine_209 hl (by decide) rfl (fun ls hl => ?_)
                  exact hj211_18 (0) σ28 h _ _ ls hP hS (lv_sub hl [0, 2] rfl)
                · rw [if_neg c1] at h
                  refine lv_aload_n (pc := 176) hx hb dX5_readLine_176 rfl (lv_at hl 1 rfl) ?_
                  refine lv_bipush (pc := 177) (v := 61) hx hb dX5_readLine_177 (by decide) ?_
                  obtain ⟨_, hg, h⟩ := zl_some h
                  obtain ⟨v29, σ30, hv, h⟩ := zb_some h
                  refine xcallVi (pc := 179) (As := [.int 61]) (rest := []) ⟨hx, hb, hml, hown, hts⟩ (c_X5_pass l D c o g N hv) zc5 zV_X5_73 rfl zd_X5_pass ⟨Nat.le_of_ble_eq_true rfl, Nat.le_of_ble_eq_true rfl⟩ hK hP hE hS hg hl.1 rfl (Nat.le_of_ble_eq_true rfl) ⟨Nat.zero_le _, Nat.zero_le _⟩ dX5_readLine_179 (fun H locs hP hS => ?_)
                  refine lv_if_eq (pc := 182) (tgt := 208) hx hb dX5_readLine_182 (by decide) (fun c1 => ?_) (fun c1 => ?_)
                  · rw [if_pos c1] at h
                    refine lv_iconst (pc := 208) (v := 0) hx hb dX5_readLine_208 (by decide) ?_
                    refine lv_istore (pc := 209) (lv' := [(5, .int 0), (4, .int v17), (0, .ref (o + x0)), (1, .ref (o + x1)), (2, .int y0_4)]) hx hb dX5_readLine_209 hl (by decide) rfl (fun ls hl => ?_)
                    exact hj211_18 (0) σ30 h _ _ ls hP hS (lv_sub hl [0, 2] rfl)
                  · rw [if_neg c1] at h
                    refine lv_aload_n (pc := 185) hx hb dX5_readLine_185 rfl (lv_at hl 1 rfl) ?_
                    refine lv_iconst (pc := 186) (v := 0) hx hb dX5_readLine_186 (by decide) ?_
                    obtain ⟨_, hg, h⟩ := zl_some h
                    obtain ⟨v31, σ32, hv, h⟩ := zb_some h
                    refine xcallVi (pc := 187) (As := [.int 0]) (rest := []) ⟨hx, hb, hml, hown, hts⟩ (c_X5_sum l D c o g N _ hv) zc5 zV_X5_69 rfl zd_X5_sum ⟨Nat.le_of_ble_eq_true rfl, Nat.le_of_ble_eq_true rfl⟩ hK hP hE hS hg hl.1 rfl (Nat.le_of_ble_eq_true rfl) ⟨Nat.zero_le _, Nat.zero_le _⟩ dX5_readLine_187 (fun H locs hP hS => ?_)
                    refine lv_if_eq (pc := 190) (tgt := 208) hx hb dX5_readLine_190 (by decide) (fun c1 => ?_) (fun c1 => ?_)
                    · rw [if_pos c1] at h
                      refine lv_iconst (pc := 208) (v := 0) hx hb dX5_readLine_208 (by decide) ?_
                      refine lv_istore (pc := 209) (lv' := [(5, .int 0), (4, .int v17), (0, .ref (o + x0)), (1, .ref (o + x1)), (2, .int y0_4)]) hx hb dX5_readLine_209 hl (by decide) rfl (fun ls hl => ?_)
                      exact hj211_18 (0) σ32 h _ _ ls hP hS (lv_sub hl [0, 2] rfl)
                    · rw [if_neg c1] at h
                      refine lv_aload_n (pc := 193) hx hb dX5_readLine_193 rfl (lv_at hl 1 rfl) ?_
                      refine lv_bipush (pc := 194) (v := 6) hx hb dX5_readLine_194 (by decide) ?_
                      refine lv_iload (pc := 196) hx hb dX5_readLine_196 (lv_at hl 0 rfl) ?_
                      obtain ⟨_, hg, h⟩ := zl_some h
                      obtain ⟨v33, σ34, hv, h⟩ := zb_some h
                      refine xcallVi (pc := 198) (As := [.int 6, .int v17]) (rest := []) ⟨hx, hb, hml, hown, hts⟩ (c_X5_emit l D c o g N hv) zc5 zV_X5_76 rfl zd_X5_emit ⟨Nat.le_of_ble_eq_true rfl, Nat.le_of_ble_eq_true rfl⟩ hK hP hE hS hg hl.1 rfl (Nat.le_of_ble_eq_true rfl) ⟨Nat.zero_le _, Nat.zero_le _⟩ dX5_readLine_198 (fun H locs hP hS => ?_)
                      refine lv_if_eq (pc := 201) (tgt := 208) hx hb dX5_readLine_201 (by decide) (fun c1 => ?_) (fun c1 => ?_)
                      · rw [if_pos c1] at h
                        refine lv_iconst (pc := 208) (v := 0) hx hb dX5_readLine_208 (by decide) ?_
                        refine lv_istore (pc := 209) (lv' := [(5, .int 0), (4, .int v17), (0, .ref (o + x0)), (1, .ref (o + x1)), (2, .int y0_4)]) hx hb dX5_readLine_209 hl (by decide) rfl (fun ls hl => ?_)
                        exact hj211_18 (0) σ34 h _ _ ls hP hS (lv_sub hl [0, 2] rfl)
                      · rw [if_neg c1] at h
                        refine lv_iconst (pc := 204) (v := 1) hx hb dX5_readLine_204 (by decide) ?_
                        refine lv_goto (pc := 205) (tgt := 209) hx hb dX5_readLine_205 (by decide) ?_
                        refine lv_istore (pc := 209) (lv' := [(5, .int 1), (4, .int v17), (0, .ref (o + x0)), (1, .ref (o + x1)), (2, .int y0_4)]) hx hb dX5_readLine_209 hl (by decide) rfl (fun ls hl => ?_)
                        exact hj211_18 (1) σ34 h _ _ ls hP hS (lv_sub hl [0, 2] rfl)
              refine lv_icmp_ne (pc := 72) (tgt := 92) hx hb dX5_readLine_72 (by decide) (fun c1 => ?_) (fun c1 => ?_)
              · rw [if_neg c1] at h
                exact hj92_12 σ7 h _ _ ls hP hS (lv_sub hl [0, 1, 2] rfl)
              · rw [if_pos c1] at h
                refine lv_aload_n (pc := 75) hx hb dX5_readLine_75 rfl (lv_at hl 1 rfl) ?_
                obtain ⟨v35, hv, h⟩ := zl_some h
                refine xgI (pc := 76) (j := 2) zc10 hx hb hts hown hK hP hv rfl zf_X5_156 dX5_readLine_76 ?_
                refine lv_aload_n (pc := 79) hx hb dX5_readLine_79 rfl (lv_at hl 0 rfl) ?_
                obtain ⟨v36, hv, h⟩ := zl_some h
                refine xgI (pc := 80) (j := 7) zc5 hx hb hts hown hK hP hv rfl zf_X5_35 dX5_readLine_80 ?_
                refine lv_icmp_lt (pc := 83) (tgt := 92) hx hb dX5_readLine_83 (by decide) (fun c1 => ?_) (fun c1 => ?_)
                · rw [if_pos c1] at h
                  exact hj92_12 σ7 h _ _ ls hP hS (lv_sub hl [0, 1, 2] rfl)
                · rw [if_neg c1] at h
                  refine lv_aload_n (pc := 86) hx hb dX5_readLine_86 rfl (lv_at hl 0 rfl) ?_
                  refine lv_iconst (pc := 87) (v := 3) hx hb dX5_readLine_87 (by decide) ?_
                  obtain ⟨_, hg, h⟩ := zl_some h
                  obtain ⟨v37, σ38, hv, h⟩ := zb_some h
                  refine xcallVi (pc := 88) (As := [.int 3]) (rest := []) ⟨hx, hb, hml, hown, hts⟩ (c_X5_fail l D c o g N hv) zc5 zV_X5_153 rfl zd_X5_fail ⟨Nat.le_of_ble_eq_true rfl, Nat.le_of_ble_eq_true rfl⟩ hK hP hE hS hg hl.1 rfl (Nat.le_of_ble_eq_true rfl) ⟨Nat.zero_le _, Nat.zero_le _⟩ dX5_readLine_88 (fun H locs hP hS => ?_)
                  exact xretz (pc := 91) hx hb hr hlocks hP hK hE hS h dX5_readLine_91
            · rw [if_neg c1] at h
              refine lv_aload_n (pc := 64) hx hb dX5_readLine_64 rfl (lv_at hl 0 rfl) ?_
              refine lv_iconst (pc := 65) (v := 1) hx hb dX5_readLine_65 (by decide) ?_
              obtain ⟨_, hg, h⟩ := zl_some h
              obtain ⟨v39, σ40, hv, h⟩ := zb_some h
              refine xcallVi (pc := 66) (As := [.int 1]) (rest := []) ⟨hx, hb, hml, hown, hts⟩ (c_X5_fail l D c o g N hv) zc5 zV_X5_153 rfl zd_X5_fail ⟨Nat.le_of_ble_eq_true rfl, Nat.le_of_ble_eq_true rfl⟩ hK hP hE hS hg hl.1 rfl (Nat.le_of_ble_eq_true rfl) ⟨Nat.zero_le _, Nat.zero_le _⟩ dX5_readLine_66 (fun H locs hP hS => ?_)
              exact xretz (pc := 69) hx hb hr hlocks hP hK hE hS h dX5_readLine_69
      refine lv_icmp_ne (pc := 43) (tgt := 50) hx hb dX5_readLine_43 (by decide) (fun c1 => ?_) (fun c1 => ?_)
      · rw [if_neg c1] at h
        refine lv_iconst (pc := 50) (v := 0) hx hb dX5_readLine_50 (by decide) ?_
        exact hj51_7 (0) (y0_6) σ6 h _ _ ls hP hS (lv_sub hl [1, 2, 3] rfl)
      · rw [if_pos c1] at h
        refine lv_iconst (pc := 46) (v := 1) hx hb dX5_readLine_46 (by decide) ?_
        refine lv_goto (pc := 47) (tgt := 51) hx hb dX5_readLine_47 (by decide) ?_
        exact hj51_7 (1) (y0_6) σ6 h _ _ ls hP hS (lv_sub hl [1, 2, 3] rfl)
    refine lv_if_ne (pc := 31) (tgt := 38) hx hb dX5_readLine_31 (by decide) (fun c1 => ?_) (fun c1 => ?_)
    · rw [if_neg c1] at h
      refine lv_iconst (pc := 38) (v := 0) hx hb dX5_readLine_38 (by decide) ?_
      exact hj39_6 (0) σ4 h _ _ ls hP hS (lv_sub hl [1, 2, 0] rfl)
    · rw [if_pos c1] at h
      refine lv_iconst (pc := 34) (v := 1) hx hb dX5_readLine_34 (by decide) ?_
      refine lv_goto (pc := 35) (tgt := 39) hx hb dX5_readLine_35 (by decide) ?_
      exact hj39_6 (1) σ4 h _ _ ls hP hS (lv_sub hl [1, 2, 0] rfl)
  refine lv_icmp_ne (pc := 10) (tgt := 25) hx hb dX5_readLine_10 (by decide) (fun c1 => ?_) (fun c1 => ?_)
  · rw [if_neg c1] at h
    refine lv_iconst (pc := 25) (v := (-1)) hx hb dX5_readLine_25 (by decide) ?_
    exact hj26_4 ((-1)) σ h _ _ ls hP hS (lv_sub hl [0, 1] rfl)
  · rw [if_pos c1] at h
    refine lv_aload_n (pc := 13) hx hb dX5_readLine_13 rfl (lv_at hl 0 rfl) ?_
    obtain ⟨v41, hv, h⟩ := zl_some h
    refine xgR (pc := 14) (j := 11) zc5 hx hb hts hown hK hP hv rfl zf_X5_47 dX5_readLine_14 ?_
    refine lv_aload_n (pc := 17) hx hb dX5_readLine_17 rfl (lv_at hl 0 rfl) ?_
    obtain ⟨v42, hv, h⟩ := zl_some h
    refine xgI (pc := 18) (j := 9) zc5 hx hb hts hown hK hP hv rfl zf_X5_41 dX5_readLine_18 ?_
    obtain ⟨v43, hv, h⟩ := zl_some h
    refine xaI (pc := 21) hx hb hK hP hv dX5_readLine_21 ?_
    refine lv_goto (pc := 22) (tgt := 26) hx hb dX5_readLine_22 (by decide) ?_
    exact hj26_4 (v43) σ h _ _ ls hP hS (lv_sub hl [0, 1] rfl)
def F_X5_readWorld_9 (N : Nat) (x0 : Nat) (x3 : Nat) (again9 : (Int32 × zS) → Option (Int32 × zS)) : Int32 × zS → Option (Int32 × zS)
  | (x4, σ) =>
  if 601 ≤ x4 then
    (rZ 1 σ)
  else
    (zl (gR 5 10 x0 σ) fun v3 =>
    zl (gI 5 9 x0 σ) fun v4 =>
    zl (aI 14 v3 v4 σ) fun v5 =>
    if v5 = 0 then
      (rZ 1 σ)
    else
      (zl (gC 5 x0) fun _ => zb (f_X5_readLine N x0 x3 σ) fun v6 σ7 =>
      if v6 = 0 then
        (rZ 0 σ7)
      else
        (zl (gI 10 1 x3 σ7) fun v8 =>
        zl (pI 10 1 x3 (v8 + 1) σ7) fun σ9 =>
        again9 (x4 + 1, σ9))))
def f_X5_readWorld (N : Nat) (x0 : Nat) (x1 : Nat) (x2 : Int32) (x3 : Nat) (σ : zS) : Option (Int32 × zS) :=
  zl (gC 5 x0) fun _ => zb (f_X5_open N x0 x1 x2 σ) fun v1 σ2 =>
  zlp (F_X5_readWorld_9 N x0 x3) N (0, σ2)
set_option maxHeartbeats 4000000 in
set_option maxRecDepth 100000 in
theorem c_X5_readWorld (l : Launch) (D : va_G) (c : zC) (o : Nat) (g : zEp) (N : Nat) {x0 : Nat} {x1 : Nat} {x2 : Int32} {x3 : Nat} {σ : zS} {ρ : Int32 × zS} (h : f_X5_readWorld N x0 x1 x2 x3 σ = some ρ) : Met l yX5_readWorld zs_X5_readWorld (zr 36) (va_Pc [.ref (o + x0), .ref (o + x1), .int x2, .ref (o + x3)] (zG D c o g σ)) (zQi D c o g ρ) 0 0 (zA o) := by
  refine zMetG (by decide) (Nat.le_of_ble_eq_true rfl) ?_
  intro p e s m below meth cd ⟨hx, hb, hr, hml, hown, hts, hlocks⟩ hP hK hE ls hl
  have hS : va_S (zA o) s.heap s.heap [] := va_S.rf
  have hl : lv_has ls 5 [(0, .ref (o + x0)), (1, .ref (o + x1)), (2, .int x2), (3, .ref (o + x3))] := hl
  rw [f_X5_readWorld.eq_1] at h
  refine lv_aload_n (pc := 0) hx hb dX5_readWorld_0 rfl (lv_at hl 0 rfl) ?_
  refine lv_aload_n (pc := 1) hx hb dX5_readWorld_1 rfl (lv_at hl 1 rfl) ?_
  refine lv_iload_n (pc := 2) hx hb dX5_readWorld_2 rfl (lv_at hl 2 rfl) ?_
  obtain ⟨_, hg, h⟩ := zl_some h
  obtain ⟨v1, σ2, hv, h⟩ := zb_some h
  refine xcallVv (pc := 3) (As := [.ref (o + x1), .int x2]) (rest := []) ⟨hx, hb, hml, hown, hts⟩ (c_X5_open l D c o g N hv) zc5 zV_X5_56 rfl zd_X5_open ⟨Nat.le_of_ble_eq_true rfl, Nat.le_of_ble_eq_true rfl⟩ hK hP hE hS hg hl.1 rfl (Nat.le_of_ble_eq_true rfl) ⟨Nat.zero_le _, Nat.zero_le _⟩ dX5_readWorld_3 (fun H locs hP hS => ?_)
  refine lv_iconst (pc := 6) (v := 0) hx hb dX5_readWorld_6 (by decide) ?_
  refine lv_istore (pc := 7) (lv' := [(4, .int 0), (0, .ref (o + x0)), (1, .ref (o + x1)), (2, .int x2), (3, .ref (o + x3))]) hx hb dX5_readWorld_7 hl (by decide) rfl (fun ls hl => ?_)
  have L9_3 : ∀ (n : Nat) (t : Int32 × zS), zlp (F_X5_readWorld_9 N x0 x3) n t = some ρ → ∀ (H : Heap) (locs : List Loc) (ls : Array Slot), zP D c o (zabs o (t.2)) H → va_S (zA o) s.heap H locs → lv_has ls 5 [(4, .int (t.1)), (0, .ref (o + x0)), (3, .ref (o + x3))] → W p l e (zr 36) s m (([.ref (o + x0), .ref (o + x1), .int x2, .ref (o + x3)] : List Value).toArray) below meth cd H locs 0 0 (MQ below (zQi D c o g ρ) (([.ref (o + x0), .ref (o + x1), .int x2, .ref (o + x3)] : List Value).toArray) s 0 0 (zA o)) (F0 m 9 ls []) := by
    refine zlp_ind (fun ag3 ih3 t h H locs ls hP hS hl => ?_)
    obtain ⟨x4_3, σ3⟩ := t
    have hP : zP D c o (zabs o σ3) H := hP
    have hl : lv_has ls 5 [(4, .int x4_3), (0, .ref (o + x0)), (3, .ref (o + x3))] := hl
    rw [F_X5_readWorld_9.eq_1] at h
    show W p l e (zr 36) s m (([.ref (o + x0), .ref (o + x1), .int x2, .ref (o + x3)] : List Value).toArray) below meth cd H locs 0 0 (MQ below (zQi D c o g ρ) (([.ref (o + x0), .ref (o + x1), .int x2, .ref (o + x3)] : List Value).toArray) s 0 0 (zA o)) (F0 m 9 ls [])
    refine lv_iload (pc := 9) hx hb dX5_readWorld_9 (lv_at hl 0 rfl) ?_
    refine lv_sipush (pc := 11) (v := 601) hx hb dX5_readWorld_11 (by decide) ?_
    refine lv_icmp_ge (pc := 14) (tgt := 55) hx hb dX5_readWorld_14 (by decide) (fun c1 => ?_) (fun c1 => ?_)
    · rw [if_pos c1] at h
      refine lv_iconst (pc := 55) (v := 1) hx hb dX5_readWorld_55 (by decide) ?_
      exact xretz (pc := 56) hx hb hr hlocks hP hK hE hS h dX5_readWorld_56
    · rw [if_neg c1] at h
      refine lv_aload_n (pc := 17) hx hb dX5_readWorld_17 rfl (lv_at hl 1 rfl) ?_
      obtain ⟨v4, hv, h⟩ := zl_some h
      refine xgR (pc := 18) (j := 10) zc5 hx hb hts hown hK hP hv rfl zf_X5_44 dX5_readWorld_18 ?_
      refine lv_aload_n (pc := 21) hx hb dX5_readWorld_21 rfl (lv_at hl 1 rfl) ?_
      obtain ⟨v5, hv, h⟩ := zl_some h
      refine xgI (pc := 22) (j := 9) zc5 hx hb hts hown hK hP hv rfl zf_X5_41 dX5_readWorld_22 ?_
      obtain ⟨v6, hv, h⟩ := zl_some h
      refine xaI (pc := 25) hx hb hK hP hv dX5_readWorld_25 ?_
      refine lv_if_eq (pc := 26) (tgt := 55) hx hb dX5_readWorld_26 (by decide) (fun c1 => ?_) (fun c1 => ?_)
      · rw [if_pos c1] at h
        refine lv_iconst (pc := 55) (v := 1) hx hb dX5_readWorld_55 (by decide) ?_
        exact xretz (pc := 56) hx hb hr hlocks hP hK hE hS h dX5_readWorld_56
      · rw [if_neg c1] at h
        refine lv_aload_n (pc := 29) hx hb dX5_readWorld_29 rfl (lv_at hl 1 rfl) ?_
        refine lv_aload_n (pc := 30) hx hb dX5_readWorld_30 rfl (lv_at hl 2 rfl) ?_
        obtain ⟨_, hg, h⟩ := zl_some h
        obtain ⟨v7, σ8, hv, h⟩ := zb_some h
        refine xcallVi (pc := 31) (As := [.ref (o + x3)]) (rest := []) ⟨hx, hb, hml, hown, hts⟩ (c_X5_readLine l D c o g N hv) zc5 zV_X5_60 rfl zd_X5_readLine ⟨Nat.le_of_ble_eq_true rfl, Nat.le_of_ble_eq_true rfl⟩ hK hP hE hS hg hl.1 rfl (Nat.le_of_ble_eq_true rfl) ⟨Nat.zero_le _, Nat.zero_le _⟩ dX5_readWorld_31 (fun H locs hP hS => ?_)
        refine lv_if_ne (pc := 34) (tgt := 39) hx hb dX5_readWorld_34 (by decide) (fun c1 => ?_) (fun c1 => ?_)
        · rw [if_neg c1] at h
          refine lv_aload_n (pc := 39) hx hb dX5_readWorld_39 rfl (lv_at hl 2 rfl) ?_
          refine lv_dup (pc := 40) hx hb dX5_readWorld_40 rfl ?_
          obtain ⟨v9, hv, h⟩ := zl_some h
          refine xgI (pc := 41) (j := 1) zc10 hx hb hts hown hK hP hv rfl zf_X5_64 dX5_readWorld_41 ?_
          refine lv_iconst (pc := 44) (v := 1) hx hb dX5_readWorld_44 (by decide) ?_
          refine lv_iadd (pc := 45) hx hb dX5_readWorld_45 ?_
          obtain ⟨σ10, hv, h⟩ := zl_some h
          refine xpI (pc := 46) (j := 1) zc10 hx hb hts hown hK hP hS hv rfl rfl rfl zf_X5_64 dX5_readWorld_46 (fun H locs hP hS => ?_)
          refine lv_iinc (pc := 49) (v := x4_3 + 1) (lv' := [(4, .int (x4_3 + 1)), (0, .ref (o + x0)), (3, .ref (o + x3))]) hx hb dX5_readWorld_49 hl (k := 0) rfl rfl (by decide) rfl (fun ls hl => ?_)
          refine lv_goto (pc := 52) (tgt := 9) hx hb dX5_readWorld_52 (by decide) ?_
          exact ih3 (x4_3 + 1, σ10) h _ _ ls hP hS (lv_sub hl [0, 1, 2] rfl)
        · rw [if_pos c1] at h
          refine lv_iconst (pc := 37) (v := 0) hx hb dX5_readWorld_37 (by decide) ?_
          exact xretz (pc := 38) hx hb hr hlocks hP hK hE hS h dX5_readWorld_38
  exact L9_3 N (0, σ2) h _ _ ls hP hS (lv_sub hl [0, 1, 4] rfl)
def f_X5_readSum (N : Nat) (x0 : Nat) (x1 : Nat) (x2 : Int32) (x3 : Int32) (x4 : Int32) (σ : zS) : Option (Int32 × zS) :=
  zl (gC 5 x0) fun _ => zb (f_X5_open N x0 x1 x2 σ) fun v1 σ2 =>
  zl (pI 5 7 x0 x3 σ2) fun σ3 =>
  zl (gC 5 x0) fun _ => zb (f_X5_sum N 24 x0 0 σ3) fun v4 σ5 =>
  if v4 = 0 then
    (rZ 0 σ5)
  else
    (zl (gC 5 x0) fun _ => zb (f_X5_pass N x0 0 σ5) fun v6 σ7 =>
    if v6 = 0 then
      (rZ 0 σ7)
    else
      (zl (gC 5 x0) fun _ => zb (f_X5_emit N x0 6 x4 σ7) fun v8 σ9 =>
      if v8 = 0 then
        (rZ 0 σ9)
      else
        (rZ 1 σ9)))
set_option maxHeartbeats 4000000 in
set_option maxRecDepth 100000 in
theorem c_X5_readSum (l : Launch) (D : va_G) (c : zC) (o : Nat) (g : zEp) (N : Nat) {x0 : Nat} {x1 : Nat} {x2 : Int32} {x3 : Int32} {x4 : Int32} {σ : zS} {ρ : Int32 × zS} (h : f_X5_readSum N x0 x1 x2 x3 x4 σ = some ρ) : Met l yX5_readSum zs_X5_readSum (zr 34) (va_Pc [.ref (o + x0), .ref (o + x1), .int x2, .int x3, .int x4] (zG D c o g σ)) (zQi D c o g ρ) 0 0 (zA o) := by
  refine zMetG (by decide) (Nat.le_of_ble_eq_true rfl) ?_
  intro p e s m below meth cd ⟨hx, hb, hr, hml, hown, hts, hlocks⟩ hP hK hE ls hl
  have hS : va_S (zA o) s.heap s.heap [] := va_S.rf
  have hl : lv_has ls 5 [(0, .ref (o + x0)), (1, .ref (o + x1)), (2, .int x2), (3, .int x3), (4, .int x4)] := hl
  rw [f_X5_readSum.eq_1] at h
  refine lv_aload_n (pc := 0) hx hb dX5_readSum_0 rfl (lv_at hl 0 rfl) ?_
  refine lv_aload_n (pc := 1) hx hb dX5_readSum_1 rfl (lv_at hl 1 rfl) ?_
  refine lv_iload_n (pc := 2) hx hb dX5_readSum_2 rfl (lv_at hl 2 rfl) ?_
  obtain ⟨_, hg, h⟩ := zl_some h
  obtain ⟨v1, σ2, hv, h⟩ := zb_some h
  refine xcallVv (pc := 3) (As := [.ref (o + x1), .int x2]) (rest := []) ⟨hx, hb, hml, hown, hts⟩ (c_X5_open l D c o g N hv) zc5 zV_X5_56 rfl zd_X5_open ⟨Nat.le_of_ble_eq_true rfl, Nat.le_of_ble_eq_true rfl⟩ hK hP hE hS hg hl.1 rfl (Nat.le_of_ble_eq_true rfl) ⟨Nat.zero_le _, Nat.zero_le _⟩ dX5_readSum_3 (fun H locs hP hS => ?_)
  refine lv_aload_n (pc := 6) hx hb dX5_readSum_6 rfl (lv_at hl 0 rfl) ?_
  refine lv_iload_n (pc := 7) hx hb dX5_readSum_7 rfl (lv_at hl 3 rfl) ?_
  obtain ⟨σ3, hv, h⟩ := zl_some h
  refine xpI (pc := 8) (j := 7) zc5 hx hb hts hown hK hP hS hv rfl rfl rfl zf_X5_35 dX5_readSum_8 (fun H locs hP hS => ?_)
  refine lv_aload_n (pc := 11) hx hb dX5_readSum_11 rfl (lv_at hl 0 rfl) ?_
  refine lv_iconst (pc := 12) (v := 0) hx hb dX5_readSum_12 (by decide) ?_
  obtain ⟨_, hg, h⟩ := zl_some h
  obtain ⟨v4, σ5, hv, h⟩ := zb_some h
  refine xcallVi (pc := 13) (As := [.int 0]) (rest := []) ⟨hx, hb, hml, hown, hts⟩ (c_X5_sum l D c o g N _ hv) zc5 zV_X5_69 rfl zd_X5_sum ⟨Nat.le_of_ble_eq_true rfl, Nat.le_of_ble_eq_true rfl⟩ hK hP hE hS hg hl.1 rfl (Nat.le_of_ble_eq_true rfl) ⟨Nat.zero_le _, Nat.zero_le _⟩ dX5_readSum_13 (fun H locs hP hS => ?_)
  refine lv_if_eq (pc := 16) (tgt := 42) hx hb dX5_readSum_16 (by decide) (fun c1 => ?_) (fun c1 => ?_)
  · rw [if_pos c1] at h
    refine lv_iconst (pc := 42) (v := 0) hx hb dX5_readSum_42 (by decide) ?_
    exact xretz (pc := 43) hx hb hr hlocks hP hK hE hS h dX5_readSum_43
  · rw [if_neg c1] at h
    refine lv_aload_n (pc := 19) hx hb dX5_readSum_19 rfl (lv_at hl 0 rfl) ?_
    refine lv_iconst (pc := 20) (v := 0) hx hb dX5_readSum_20 (by decide) ?_
    obtain ⟨_, hg, h⟩ := zl_some h
    obtain ⟨v6, σ7, hv, h⟩ := zb_some h
    refine xcallVi (pc := 21) (As := [.int 0]) (rest := []) ⟨hx, hb, hml, hown, hts⟩ (c_X5_pass l D c o g N hv) zc5 zV_X5_73 rfl zd_X5_pass ⟨Nat.le_of_ble_eq_true rfl, Nat.le_of_ble_eq_true rfl⟩ hK hP hE hS hg hl.1 rfl (Nat.le_of_ble_eq_true rfl) ⟨Nat.zero_le _, Nat.zero_le _⟩ dX5_readSum_21 (fun H locs hP hS => ?_)
    refine lv_if_eq (pc := 24) (tgt := 42) hx hb dX5_readSum_24 (by decide) (fun c1 => ?_) (fun c1 => ?_)
    · rw [if_pos c1] at h
      refine lv_iconst (pc := 42) (v := 0) hx hb dX5_readSum_42 (by decide) ?_
      exact xretz (pc := 43) hx hb hr hlocks hP hK hE hS h dX5_readSum_43
    · rw [if_neg c1] at h
      refine lv_aload_n (pc := 27) hx hb dX5_readSum_27 rfl (lv_at hl 0 rfl) ?_
      refine lv_bipush (pc := 28) (v := 6) hx hb dX5_readSum_28 (by decide) ?_
      refine lv_iload (pc := 30) hx hb dX5_readSum_30 (lv_at hl 4 rfl) ?_
      obtain ⟨_, hg, h⟩ := zl_some h
      obtain ⟨v8, σ9, hv, h⟩ := zb_some h
      refine xcallVi (pc := 32) (As := [.int 6, .int x4]) (rest := []) ⟨hx, hb, hml, hown, hts⟩ (c_X5_emit l D c o g N hv) zc5 zV_X5_76 rfl zd_X5_emit ⟨Nat.le_of_ble_eq_true rfl, Nat.le_of_ble_eq_true rfl⟩ hK hP hE hS hg hl.1 rfl (Nat.le_of_ble_eq_true rfl) ⟨Nat.zero_le _, Nat.zero_le _⟩ dX5_readSum_32 (fun H locs hP hS => ?_)
      refine lv_if_eq (pc := 35) (tgt := 42) hx hb dX5_readSum_35 (by decide) (fun c1 => ?_) (fun c1 => ?_)
      · rw [if_pos c1] at h
        refine lv_iconst (pc := 42) (v := 0) hx hb dX5_readSum_42 (by decide) ?_
        exact xretz (pc := 43) hx hb hr hlocks hP hK hE hS h dX5_readSum_43
      · rw [if_neg c1] at h
        refine lv_iconst (pc := 38) (v := 1) hx hb dX5_readSum_38 (by decide) ?_
        refine lv_goto (pc := 39) (tgt := 43) hx hb dX5_readSum_39 (by decide) ?_
        exact xretz (pc := 43) hx hb hr hlocks hP hK hE hS h dX5_readSum_43
def f_X6_acrossFrom (N : Nat) (x0 : Nat) (x1 : Int32) (x2 : Int32) (σ : zS) : Option (Int32 × zS) :=
  if x1 < 0 then
    (some ((-1), σ))
  else
    (if x1 < 10 then
      (zl (gR 10 3 x0 σ) fun v1 =>
      zl (aI 14 v1 x1 σ) fun v2 =>
      if v2 = x2 then
        (zl (gR 10 4 x0 σ) fun v3 =>
        zl (aI 14 v3 x1 σ) fun v4 =>
        some (v4, σ))
      else
        (zl (gR 10 4 x0 σ) fun v5 =>
        zl (aI 14 v5 x1 σ) fun v6 =>
        if v6 = x2 then
          (zl (gR 10 3 x0 σ) fun v7 =>
          zl (aI 14 v7 x1 σ) fun v8 =>
          some (v8, σ))
        else
          (some ((-1), σ))))
    else
      (some ((-1), σ)))
set_option maxHeartbeats 4000000 in
set_option maxRecDepth 100000 in
theorem c_X6_acrossFrom (l : Launch) (D : va_G) (c : zC) (o : Nat) (g : zEp) (N : Nat) {x0 : Nat} {x1 : Int32} {x2 : Int32} {σ : zS} {ρ : Int32 × zS} (h : f_X6_acrossFrom N x0 x1 x2 σ = some ρ) : Met l yX6_acrossFrom zs_X6_acrossFrom (zr 2) (va_Pc [.ref (o + x0), .int x1, .int x2] (zG D c o g σ)) (zQi D c o g ρ) 0 0 (zA o) := by
  refine zMetG (by decide) (Nat.le_of_ble_eq_true rfl) ?_
  intro p e s m below meth cd ⟨hx, hb, hr, hml, hown, hts, hlocks⟩ hP hK hE ls hl
  have hS : va_S (zA o) s.heap s.heap [] := va_S.rf
  have hl : lv_has ls 3 [(0, .ref (o + x0)), (1, .int x1), (2, .int x2)] := hl
  rw [f_X6_acrossFrom.eq_1] at h
  refine lv_iload_n (pc := 0) hx hb dX6_acrossFrom_0 rfl (lv_at hl 1 rfl) ?_
  refine lv_if_lt (pc := 1) (tgt := 10) hx hb dX6_acrossFrom_1 (by decide) (fun c1 => ?_) (fun c1 => ?_)
  · rw [if_pos c1] at h
    refine lv_iconst (pc := 10) (v := (-1)) hx hb dX6_acrossFrom_10 (by decide) ?_
    exact xreti (pc := 11) hx hb hr hlocks hP hK hE hS h dX6_acrossFrom_11
  · rw [if_neg c1] at h
    refine lv_iload_n (pc := 4) hx hb dX6_acrossFrom_4 rfl (lv_at hl 1 rfl) ?_
    refine lv_bipush (pc := 5) (v := 10) hx hb dX6_acrossFrom_5 (by decide) ?_
    refine lv_icmp_lt (pc := 7) (tgt := 12) hx hb dX6_acrossFrom_7 (by decide) (fun c1 => ?_) (fun c1 => ?_)
    · rw [if_pos c1] at h
      refine lv_aload_n (pc := 12) hx hb dX6_acrossFrom_12 rfl (lv_at hl 0 rfl) ?_
      obtain ⟨v1, hv, h⟩ := zl_some h
      refine xgR (pc := 13) (j := 3) zc10 hx hb hts hown hK hP hv rfl zf_X6_44 dX6_acrossFrom_13 ?_
      refine lv_iload_n (pc := 16) hx hb dX6_acrossFrom_16 rfl (lv_at hl 1 rfl) ?_
      obtain ⟨v2, hv, h⟩ := zl_some h
      refine xaI (pc := 17) hx hb hK hP hv dX6_acrossFrom_17 ?_
      refine lv_iload_n (pc := 18) hx hb dX6_acrossFrom_18 rfl (lv_at hl 2 rfl) ?_
      refine lv_icmp_ne (pc := 19) (tgt := 29) hx hb dX6_acrossFrom_19 (by decide) (fun c1 => ?_) (fun c1 => ?_)
      · rw [if_neg c1] at h
        refine lv_aload_n (pc := 29) hx hb dX6_acrossFrom_29 rfl (lv_at hl 0 rfl) ?_
        obtain ⟨v3, hv, h⟩ := zl_some h
        refine xgR (pc := 30) (j := 4) zc10 hx hb hts hown hK hP hv rfl zf_X6_47 dX6_acrossFrom_30 ?_
        refine lv_iload_n (pc := 33) hx hb dX6_acrossFrom_33 rfl (lv_at hl 1 rfl) ?_
        obtain ⟨v4, hv, h⟩ := zl_some h
        refine xaI (pc := 34) hx hb hK hP hv dX6_acrossFrom_34 ?_
        refine lv_iload_n (pc := 35) hx hb dX6_acrossFrom_35 rfl (lv_at hl 2 rfl) ?_
        refine lv_icmp_ne (pc := 36) (tgt := 48) hx hb dX6_acrossFrom_36 (by decide) (fun c1 => ?_) (fun c1 => ?_)
        · rw [if_neg c1] at h
          refine lv_iconst (pc := 48) (v := (-1)) hx hb dX6_acrossFrom_48 (by decide) ?_
          exact xreti (pc := 49) hx hb hr hlocks hP hK hE hS h dX6_acrossFrom_49
        · rw [if_pos c1] at h
          refine lv_aload_n (pc := 39) hx hb dX6_acrossFrom_39 rfl (lv_at hl 0 rfl) ?_
          obtain ⟨v5, hv, h⟩ := zl_some h
          refine xgR (pc := 40) (j := 3) zc10 hx hb hts hown hK hP hv rfl zf_X6_44 dX6_acrossFrom_40 ?_
          refine lv_iload_n (pc := 43) hx hb dX6_acrossFrom_43 rfl (lv_at hl 1 rfl) ?_
          obtain ⟨v6, hv, h⟩ := zl_some h
          refine xaI (pc := 44) hx hb hK hP hv dX6_acrossFrom_44 ?_
          refine lv_goto (pc := 45) (tgt := 49) hx hb dX6_acrossFrom_45 (by decide) ?_
          exact xreti (pc := 49) hx hb hr hlocks hP hK hE hS h dX6_acrossFrom_49
      · rw [if_pos c1] at h
        refine lv_aload_n (pc := 22) hx hb dX6_acrossFrom_22 rfl (lv_at hl 0 rfl) ?_
        obtain ⟨v7, hv, h⟩ := zl_some h
        refine xgR (pc := 23) (j := 4) zc10 hx hb hts hown hK hP hv rfl zf_X6_47 dX6_acrossFrom_23 ?_
        refine lv_iload_n (pc := 26) hx hb dX6_acrossFrom_26 rfl (lv_at hl 1 rfl) ?_
        obtain ⟨v8, hv, h⟩ := zl_some h
        refine xaI (pc := 27) hx hb hK hP hv dX6_acrossFrom_27 ?_
        exact xreti (pc := 28) hx hb hr hlocks hP hK hE hS h dX6_acrossFrom_28
    · rw [if_neg c1] at h
      refine lv_iconst (pc := 10) (v := (-1)) hx hb dX6_acrossFrom_10 (by decide) ?_
      exact xreti (pc := 11) hx hb hr hlocks hP hK hE hS h dX6_acrossFrom_11
def F_X6_walk_3 (N : Nat) (r0 : Nat → Int32 → Int32 → Int32 → Int32 → Nat → zS → Option (Unit × zS)) (x0 : Nat) (x1 : Int32) (x2 : Int32) (x3 : Int32) (x4 : Int32) (x5 : Nat) (again3 : (Int32 × zS) → Option (Unit × zS)) : Int32 × zS → Option (Unit × zS)
  | (x6, σ) =>
  zl (gI 10 2 x0 σ) fun v1 =>
  if v1 ≤ x6 then
    (some ((), σ))
  else
    (if 10 ≤ x6 then
      (some ((), σ))
    else
      (zb (f_X6_acrossFrom N x0 x6 x1 σ) fun v2 σ3 =>
      if v2 < 0 then
        (again3 (x6 + 1, σ3))
      else
        (if (((x3 : Int32) >>> (v2 &&& 31)) &&& 1) = 0 then
          (if v2 = x2 then
            (zl (gC 2 x5) fun _ => zb (f_X2_include N x5 (x4 ||| ((1 : Int32) <<< (x6 &&& 31))) σ3) fun v4 σ5 =>
            again3 (x6 + 1, σ5))
          else
            (zb (f_J6_bitCount_0f7a4 N x3 σ3) fun v6 σ7 =>
            if 8 ≤ v6 then
              (again3 (x6 + 1, σ7))
            else
              (zb (r0 x0 v2 x2 (x3 ||| ((1 : Int32) <<< (v2 &&& 31))) (x4 ||| ((1 : Int32) <<< (x6 &&& 31))) x5 σ7) fun v8 σ9 =>
              again3 (x6 + 1, σ9))))
        else
          (again3 (x6 + 1, σ3)))))
def B_X6_walk (N : Nat) (r0 : Nat → Int32 → Int32 → Int32 → Int32 → Nat → zS → Option (Unit × zS)) (x0 : Nat) (x1 : Int32) (x2 : Int32) (x3 : Int32) (x4 : Int32) (x5 : Nat) (σ : zS) : Option (Unit × zS) :=
  zlp (F_X6_walk_3 N r0 x0 x1 x2 x3 x4 x5) N (0, σ)
def G_X6_walk (N : Nat) : Nat → (Nat → Int32 → Int32 → Int32 → Int32 → Nat → zS → Option (Unit × zS))
  | 0 => (fun _ _ _ _ _ _ _ => none)
  | dd + 1 => (B_X6_walk N ((G_X6_walk N dd)))
def f_X6_walk (N dd : Nat) : Nat → Int32 → Int32 → Int32 → Int32 → Nat → zS → Option (Unit × zS) := (G_X6_walk N dd)
set_option maxHeartbeats 4000000 in
set_option maxRecDepth 100000 in
theorem K_X6_walk (l : Launch) (D : va_G) (c : zC) (o : Nat) (g : zEp) (N : Nat) : ∀ dd : Nat, (∀ (x0 : Nat) (x1 : Int32) (x2 : Int32) (x3 : Int32) (x4 : Int32) (x5 : Nat) (σ : zS) (ρ : Unit × zS), f_X6_walk N dd x0 x1 x2 x3 x4 x5 σ = some ρ → Met l yX6_walk zs_X6_walk (zr (dd + 4)) (va_Pc [.ref (o + x0), .int x1, .int x2, .int x3, .int x4, .ref (o + x5)] (zG D c o g σ)) (zQu D c o g ρ) 0 0 (zA o)) := by
  intro dd
  induction dd with
  | zero => exact fun _ _ _ _ _ _ _ _ h => absurd h (by intro h; cases h)
  | succ dd ih =>
    have ih0 := ih
    intro x0 x1 x2 x3 x4 x5 σ ρ h
    have h : B_X6_walk N (f_X6_walk N dd) x0 x1 x2 x3 x4 x5 σ = some ρ := h
    refine zMetG (by decide) (Nat.le_of_ble_eq_true rfl) ?_
    intro p e s m below meth cd ⟨hx, hb, hr, hml, hown, hts, hlocks⟩ hP hK hE ls hl
    have hS : va_S (zA o) s.heap s.heap [] := va_S.rf
    have hl : lv_has ls 8 [(0, .ref (o + x0)), (1, .int x1), (2, .int x2), (3, .int x3), (4, .int x4), (5, .ref (o + x5))] := hl
    rw [B_X6_walk.eq_1] at h
    refine lv_iconst (pc := 0) (v := 0) hx hb dX6_walk_0 (by decide) ?_
    refine lv_istore (pc := 1) (lv' := [(6, .int 0), (0, .ref (o + x0)), (1, .int x1), (2, .int x2), (3, .int x3), (4, .int x4), (5, .ref (o + x5))]) hx hb dX6_walk_1 hl (by decide) rfl (fun ls hl => ?_)
    have L3_1 : ∀ (n : Nat) (t : Int32 × zS), zlp (F_X6_walk_3 N (f_X6_walk N dd) x0 x1 x2 x3 x4 x5) n t = some ρ → ∀ (H : Heap) (locs : List Loc) (ls : Array Slot), zP D c o (zabs o (t.2)) H → va_S (zA o) s.heap H locs → lv_has ls 8 [(6, .int (t.1)), (0, .ref (o + x0)), (1, .int x1), (2, .int x2), (3, .int x3), (4, .int x4), (5, .ref (o + x5))] → W p l e (zr (dd + 1 + 4)) s m (([.ref (o + x0), .int x1, .int x2, .int x3, .int x4, .ref (o + x5)] : List Value).toArray) below meth cd H locs 0 0 (MQ below (zQu D c o g ρ) (([.ref (o + x0), .int x1, .int x2, .int x3, .int x4, .ref (o + x5)] : List Value).toArray) s 0 0 (zA o)) (F0 m 3 ls []) := by
      refine zlp_ind (fun ag1 ih1 t h H locs ls hP hS hl => ?_)
      obtain ⟨x6_1, σ1⟩ := t
      have hP : zP D c o (zabs o σ1) H := hP
      have hl : lv_has ls 8 [(6, .int x6_1), (0, .ref (o + x0)), (1, .int x1), (2, .int x2), (3, .int x3), (4, .int x4), (5, .ref (o + x5))] := hl
      rw [F_X6_walk_3.eq_1] at h
      show W p l e (zr (dd + 1 + 4)) s m (([.ref (o + x0), .int x1, .int x2, .int x3, .int x4, .ref (o + x5)] : List Value).toArray) below meth cd H locs 0 0 (MQ below (zQu D c o g ρ) (([.ref (o + x0), .int x1, .int x2, .int x3, .int x4, .ref (o + x5)] : List Value).toArray) s 0 0 (zA o)) (F0 m 3 ls [])
      refine lv_iload (pc := 3) hx hb dX6_walk_3 (lv_at hl 0 rfl) ?_
      refine lv_aload_n (pc := 5) hx hb dX6_walk_5 rfl (lv_at hl 1 rfl) ?_
      obtain ⟨v2, hv, h⟩ := zl_some h
      refine xgI (pc := 6) (j := 2) zc10 hx hb hts hown hK hP hv rfl zf_X6_28 dX6_walk_6 ?_
      refine lv_icmp_ge (pc := 9) (tgt := 103) hx hb dX6_walk_9 (by decide) (fun c1 => ?_) (fun c1 => ?_)
      · rw [if_pos c1] at h
        exact xretv (pc := 103) hx hb hr hlocks hP hK hE hS h dX6_walk_103
      · rw [if_neg c1] at h
        refine lv_iload (pc := 12) hx hb dX6_walk_12 (lv_at hl 0 rfl) ?_
        refine lv_bipush (pc := 14) (v := 10) hx hb dX6_walk_14 (by decide) ?_
        refine lv_icmp_ge (pc := 16) (tgt := 103) hx hb dX6_walk_16 (by decide) (fun c1 => ?_) (fun c1 => ?_)
        · rw [if_pos c1] at h
          exact xretv (pc := 103) hx hb hr hlocks hP hK hE hS h dX6_walk_103
        · rw [if_neg c1] at h
          refine lv_aload_n (pc := 19) hx hb dX6_walk_19 rfl (lv_at hl 1 rfl) ?_
          refine lv_iload (pc := 20) hx hb dX6_walk_20 (lv_at hl 0 rfl) ?_
          refine lv_iload_n (pc := 22) hx hb dX6_walk_22 rfl (lv_at hl 2 rfl) ?_
          obtain ⟨v3, σ4, hv, h⟩ := zb_some h
          refine xcallSi (pc := 23) (As := [.ref (o + x0), .int x6_1, .int x1]) (rest := []) ⟨hx, hb, hml, hown, hts⟩ (c_X6_acrossFrom l D c o g N hv) zT_X6_34 rfl zd_X6_acrossFrom ⟨by show 2 + 1 ≤ dd + 1 + 4; omega, by show 8 + (3 + 11) + 60 * 2 ≤ 60 * (dd + 1 + 4); omega⟩ hK hP hE hS hl.1 rfl (Nat.le_of_ble_eq_true rfl) ⟨Nat.zero_le _, Nat.zero_le _⟩ dX6_walk_23 (fun H locs hP hS => ?_)
          refine lv_istore (pc := 26) (lv' := [(7, .int v3), (6, .int x6_1), (0, .ref (o + x0)), (1, .int x1), (2, .int x2), (3, .int x3), (4, .int x4), (5, .ref (o + x5))]) hx hb dX6_walk_26 hl (by decide) rfl (fun ls hl => ?_)
          refine lv_iload (pc := 28) hx hb dX6_walk_28 (lv_at hl 0 rfl) ?_
          refine lv_if_lt (pc := 30) (tgt := 97) hx hb dX6_walk_30 (by decide) (fun c1 => ?_) (fun c1 => ?_)
          · rw [if_pos c1] at h
            refine lv_iinc (pc := 97) (v := x6_1 + 1) (lv' := [(6, .int (x6_1 + 1)), (7, .int v3), (0, .ref (o + x0)), (1, .int x1), (2, .int x2), (3, .int x3), (4, .int x4), (5, .ref (o + x5))]) hx hb dX6_walk_97 hl (k := 1) rfl rfl (by decide) rfl (fun ls hl => ?_)
            refine lv_goto (pc := 100) (tgt := 3) hx hb dX6_walk_100 (by decide) ?_
            exact ih1 (x6_1 + 1, σ4) h _ _ ls hP hS (lv_sub hl [0, 2, 3, 4, 5, 6, 7] rfl)
          · rw [if_neg c1] at h
            refine lv_iload_n (pc := 33) hx hb dX6_walk_33 rfl (lv_at hl 5 rfl) ?_
            refine lv_iload (pc := 34) hx hb dX6_walk_34 (lv_at hl 0 rfl) ?_
            refine lv_ishr (pc := 36) hx hb dX6_walk_36 ?_
            refine lv_iconst (pc := 37) (v := 1) hx hb dX6_walk_37 (by decide) ?_
            refine lv_iand (pc := 38) hx hb dX6_walk_38 ?_
            refine lv_if_eq (pc := 39) (tgt := 45) hx hb dX6_walk_39 (by decide) (fun c1 => ?_) (fun c1 => ?_)
            · rw [if_pos c1] at h
              refine lv_iload (pc := 45) hx hb dX6_walk_45 (lv_at hl 0 rfl) ?_
              refine lv_iload_n (pc := 47) hx hb dX6_walk_47 rfl (lv_at hl 4 rfl) ?_
              refine lv_icmp_ne (pc := 48) (tgt := 66) hx hb dX6_walk_48 (by decide) (fun c1 => ?_) (fun c1 => ?_)
              · rw [if_neg c1] at h
                refine lv_iload_n (pc := 66) hx hb dX6_walk_66 rfl (lv_at hl 5 rfl) ?_
                obtain ⟨v5, σ6, hv, h⟩ := zb_some h
                refine xcallSi (pc := 67) (As := [.int x3]) (rest := []) ⟨hx, hb, hml, hown, hts⟩ (c_J6_bitCount_0f7a4 l D c o g N hv) zT_X6_38 rfl zd_J6_bitCount_0f7a4 ⟨by show 2 + 1 ≤ dd + 1 + 4; omega, by show 8 + (1 + 11) + 60 * 2 ≤ 60 * (dd + 1 + 4); omega⟩ hK hP hE hS hl.1 rfl (Nat.le_of_ble_eq_true rfl) ⟨Nat.zero_le _, Nat.zero_le _⟩ dX6_walk_67 (fun H locs hP hS => ?_)
                refine lv_bipush (pc := 70) (v := 8) hx hb dX6_walk_70 (by decide) ?_
                refine lv_icmp_ge (pc := 72) (tgt := 97) hx hb dX6_walk_72 (by decide) (fun c1 => ?_) (fun c1 => ?_)
                · rw [if_pos c1] at h
                  refine lv_iinc (pc := 97) (v := x6_1 + 1) (lv' := [(6, .int (x6_1 + 1)), (7, .int v3), (0, .ref (o + x0)), (1, .int x1), (2, .int x2), (3, .int x3), (4, .int x4), (5, .ref (o + x5))]) hx hb dX6_walk_97 hl (k := 1) rfl rfl (by decide) rfl (fun ls hl => ?_)
                  refine lv_goto (pc := 100) (tgt := 3) hx hb dX6_walk_100 (by decide) ?_
                  exact ih1 (x6_1 + 1, σ6) h _ _ ls hP hS (lv_sub hl [0, 2, 3, 4, 5, 6, 7] rfl)
                · rw [if_neg c1] at h
                  refine lv_aload_n (pc := 75) hx hb dX6_walk_75 rfl (lv_at hl 2 rfl) ?_
                  refine lv_iload (pc := 76) hx hb dX6_walk_76 (lv_at hl 0 rfl) ?_
                  refine lv_iload_n (pc := 78) hx hb dX6_walk_78 rfl (lv_at hl 4 rfl) ?_
                  refine lv_iload_n (pc := 79) hx hb dX6_walk_79 rfl (lv_at hl 5 rfl) ?_
                  refine lv_iconst (pc := 80) (v := 1) hx hb dX6_walk_80 (by decide) ?_
                  refine lv_iload (pc := 81) hx hb dX6_walk_81 (lv_at hl 0 rfl) ?_
                  refine lv_ishl (pc := 83) hx hb dX6_walk_83 ?_
                  refine lv_ior (pc := 84) hx hb dX6_walk_84 ?_
                  refine lv_iload (pc := 85) hx hb dX6_walk_85 (lv_at hl 6 rfl) ?_
                  refine lv_iconst (pc := 87) (v := 1) hx hb dX6_walk_87 (by decide) ?_
                  refine lv_iload (pc := 88) hx hb dX6_walk_88 (lv_at hl 1 rfl) ?_
                  refine lv_ishl (pc := 90) hx hb dX6_walk_90 ?_
                  refine lv_ior (pc := 91) hx hb dX6_walk_91 ?_
                  refine lv_aload (pc := 92) hx hb dX6_walk_92 (lv_at hl 7 rfl) ?_
                  obtain ⟨v7, σ8, hv, h⟩ := zb_some h
                  refine xcallSv (pc := 94) (As := [.ref (o + x0), .int v3, .int x2, .int (x3 ||| ((1 : Int32) <<< (v3 &&& 31))), .int (x4 ||| ((1 : Int32) <<< (x6_1 &&& 31))), .ref (o + x5)]) (rest := []) ⟨hx, hb, hml, hown, hts⟩ (ih0 _ _ _ _ _ _ _ _ hv) zT_X6_24 rfl zd_X6_walk ⟨by show (dd + 4) + 1 ≤ dd + 1 + 4; omega, by show 8 + (8 + 11) + 60 * (dd + 4) ≤ 60 * (dd + 1 + 4); omega⟩ hK hP hE hS hl.1 rfl (Nat.le_of_ble_eq_true rfl) ⟨Nat.zero_le _, Nat.zero_le _⟩ dX6_walk_94 (fun H locs hP hS => ?_)
                  refine lv_iinc (pc := 97) (v := x6_1 + 1) (lv' := [(6, .int (x6_1 + 1)), (7, .int v3), (0, .ref (o + x0)), (1, .int x1), (2, .int x2), (3, .int x3), (4, .int x4), (5, .ref (o + x5))]) hx hb dX6_walk_97 hl (k := 1) rfl rfl (by decide) rfl (fun ls hl => ?_)
                  refine lv_goto (pc := 100) (tgt := 3) hx hb dX6_walk_100 (by decide) ?_
                  exact ih1 (x6_1 + 1, σ8) h _ _ ls hP hS (lv_sub hl [0, 2, 3, 4, 5, 6, 7] rfl)
              · rw [if_pos c1] at h
                refine lv_aload (pc := 51) hx hb dX6_walk_51 (lv_at hl 7 rfl) ?_
                refine lv_iload (pc := 53) hx hb dX6_walk_53 (lv_at hl 6 rfl) ?_
                refine lv_iconst (pc := 55) (v := 1) hx hb dX6_walk_55 (by decide) ?_
                refine lv_iload (pc := 56) hx hb dX6_walk_56 (lv_at hl 1 rfl) ?_
                refine lv_ishl (pc := 58) hx hb dX6_walk_58 ?_
                refine lv_ior (pc := 59) hx hb dX6_walk_59 ?_
                obtain ⟨_, hg, h⟩ := zl_some h
                obtain ⟨v9, σ10, hv, h⟩ := zb_some h
                refine xcallVv (pc := 60) (As := [.int (x4 ||| ((1 : Int32) <<< (x6_1 &&& 31)))]) (rest := []) ⟨hx, hb, hml, hown, hts⟩ (c_X2_include l D c o g N hv) zc2 zV_X6_20 rfl zd_X2_include ⟨by show 2 + 1 ≤ dd + 1 + 4; omega, by show 8 + (2 + 11) + 60 * 2 ≤ 60 * (dd + 1 + 4); omega⟩ hK hP hE hS hg hl.1 rfl (Nat.le_of_ble_eq_true rfl) ⟨Nat.zero_le _, Nat.zero_le _⟩ dX6_walk_60 (fun H locs hP hS => ?_)
                refine lv_goto (pc := 63) (tgt := 97) hx hb dX6_walk_63 (by decide) ?_
                refine lv_iinc (pc := 97) (v := x6_1 + 1) (lv' := [(6, .int (x6_1 + 1)), (7, .int v3), (0, .ref (o + x0)), (1, .int x1), (2, .int x2), (3, .int x3), (4, .int x4), (5, .ref (o + x5))]) hx hb dX6_walk_97 hl (k := 1) rfl rfl (by decide) rfl (fun ls hl => ?_)
                refine lv_goto (pc := 100) (tgt := 3) hx hb dX6_walk_100 (by decide) ?_
                exact ih1 (x6_1 + 1, σ10) h _ _ ls hP hS (lv_sub hl [0, 2, 3, 4, 5, 6, 7] rfl)
            · rw [if_neg c1] at h
              refine lv_goto (pc := 42) (tgt := 97) hx hb dX6_walk_42 (by decide) ?_
              refine lv_iinc (pc := 97) (v := x6_1 + 1) (lv' := [(6, .int (x6_1 + 1)), (7, .int v3), (0, .ref (o + x0)), (1, .int x1), (2, .int x2), (3, .int x3), (4, .int x4), (5, .ref (o + x5))]) hx hb dX6_walk_97 hl (k := 1) rfl rfl (by decide) rfl (fun ls hl => ?_)
              refine lv_goto (pc := 100) (tgt := 3) hx hb dX6_walk_100 (by decide) ?_
              exact ih1 (x6_1 + 1, σ4) h _ _ ls hP hS (lv_sub hl [0, 2, 3, 4, 5, 6, 7] rfl)
    exact L3_1 N (0, σ) h _ _ ls hP hS (lv_sub hl [0, 1, 2, 3, 4, 5, 6] rfl)
theorem c_X6_walk (l : Launch) (D : va_G) (c : zC) (o : Nat) (g : zEp) (N dd : Nat) {x0 : Nat} {x1 : Int32} {x2 : Int32} {x3 : Int32} {x4 : Int32} {x5 : Nat} {σ : zS} {ρ : Unit × zS} (h : f_X6_walk N dd x0 x1 x2 x3 x4 x5 σ = some ρ) : Met l yX6_walk zs_X6_walk (zr (dd + 4)) (va_Pc [.ref (o + x0), .int x1, .int x2, .int x3, .int x4, .ref (o + x5)] (zG D c o g σ)) (zQu D c o g ρ) 0 0 (zA o) := (K_X6_walk l D c o g N dd) _ _ _ _ _ _ _ _ h
def f_X6_findWays (N : Nat) (x0 : Nat) (x1 : Nat) (x2 : Int32) (x3 : Int32) (x4 : Nat) (σ : zS) : Option (Unit × zS) :=
  zl (gC 2 x4) fun _ => zb (f_X2_clear N x4 σ) fun v1 σ2 =>
  if x2 = x3 then
    (zl (gC 2 x4) fun _ => zb (f_X2_include N x4 0 σ2) fun v3 σ4 =>
    some ((), σ4))
  else
    (zb (f_X6_walk N 10 x1 x2 x3 ((1 : Int32) <<< (x2 &&& 31)) 0 x4 σ2) fun v5 σ6 =>
    some ((), σ6))
set_option maxHeartbeats 4000000 in
set_option maxRecDepth 100000 in
theorem c_X6_findWays (l : Launch) (D : va_G) (c : zC) (o : Nat) (g : zEp) (N : Nat) {x0 : Nat} {x1 : Nat} {x2 : Int32} {x3 : Int32} {x4 : Nat} {σ : zS} {ρ : Unit × zS} (h : f_X6_findWays N x0 x1 x2 x3 x4 σ = some ρ) : Met l yX6_findWays zs_X6_findWays (zr 16) (va_Pc [.ref (o + x0), .ref (o + x1), .int x2, .int x3, .ref (o + x4)] (zG D c o g σ)) (zQu D c o g ρ) 0 0 (zA o) := by
  refine zMetG (by decide) (Nat.le_of_ble_eq_true rfl) ?_
  intro p e s m below meth cd ⟨hx, hb, hr, hml, hown, hts, hlocks⟩ hP hK hE ls hl
  have hS : va_S (zA o) s.heap s.heap [] := va_S.rf
  have hl : lv_has ls 5 [(0, .ref (o + x0)), (1, .ref (o + x1)), (2, .int x2), (3, .int x3), (4, .ref (o + x4))] := hl
  rw [f_X6_findWays.eq_1] at h
  refine lv_aload (pc := 0) hx hb dX6_findWays_0 (lv_at hl 4 rfl) ?_
  obtain ⟨_, hg, h⟩ := zl_some h
  obtain ⟨v1, σ2, hv, h⟩ := zb_some h
  refine xcallVv (pc := 2) (As := []) (rest := []) ⟨hx, hb, hml, hown, hts⟩ (c_X2_clear l D c o g N hv) zc2 zV_X6_15 rfl zd_X2_clear ⟨Nat.le_of_ble_eq_true rfl, Nat.le_of_ble_eq_true rfl⟩ hK hP hE hS hg hl.1 rfl (Nat.le_of_ble_eq_true rfl) ⟨Nat.zero_le _, Nat.zero_le _⟩ dX6_findWays_2 (fun H locs hP hS => ?_)
  refine lv_iload_n (pc := 5) hx hb dX6_findWays_5 rfl (lv_at hl 2 rfl) ?_
  refine lv_iload_n (pc := 6) hx hb dX6_findWays_6 rfl (lv_at hl 3 rfl) ?_
  refine lv_icmp_ne (pc := 7) (tgt := 17) hx hb dX6_findWays_7 (by decide) (fun c1 => ?_) (fun c1 => ?_)
  · rw [if_neg c1] at h
    refine lv_aload_n (pc := 17) hx hb dX6_findWays_17 rfl (lv_at hl 1 rfl) ?_
    refine lv_iload_n (pc := 18) hx hb dX6_findWays_18 rfl (lv_at hl 2 rfl) ?_
    refine lv_iload_n (pc := 19) hx hb dX6_findWays_19 rfl (lv_at hl 3 rfl) ?_
    refine lv_iconst (pc := 20) (v := 1) hx hb dX6_findWays_20 (by decide) ?_
    refine lv_iload_n (pc := 21) hx hb dX6_findWays_21 rfl (lv_at hl 2 rfl) ?_
    refine lv_ishl (pc := 22) hx hb dX6_findWays_22 ?_
    refine lv_iconst (pc := 23) (v := 0) hx hb dX6_findWays_23 (by decide) ?_
    refine lv_aload (pc := 24) hx hb dX6_findWays_24 (lv_at hl 4 rfl) ?_
    obtain ⟨v3, σ4, hv, h⟩ := zb_some h
    refine xcallSv (pc := 26) (As := [.ref (o + x1), .int x2, .int x3, .int ((1 : Int32) <<< (x2 &&& 31)), .int 0, .ref (o + x4)]) (rest := []) ⟨hx, hb, hml, hown, hts⟩ (c_X6_walk l D c o g N _ hv) zT_X6_24 rfl zd_X6_walk ⟨Nat.le_of_ble_eq_true rfl, Nat.le_of_ble_eq_true rfl⟩ hK hP hE hS hl.1 rfl (Nat.le_of_ble_eq_true rfl) ⟨Nat.zero_le _, Nat.zero_le _⟩ dX6_findWays_26 (fun H locs hP hS => ?_)
    exact xretv (pc := 29) hx hb hr hlocks hP hK hE hS h dX6_findWays_29
  · rw [if_pos c1] at h
    refine lv_aload (pc := 10) hx hb dX6_findWays_10 (lv_at hl 4 rfl) ?_
    refine lv_iconst (pc := 12) (v := 0) hx hb dX6_findWays_12 (by decide) ?_
    obtain ⟨_, hg, h⟩ := zl_some h
    obtain ⟨v5, σ6, hv, h⟩ := zb_some h
    refine xcallVv (pc := 13) (As := [.int 0]) (rest := []) ⟨hx, hb, hml, hown, hts⟩ (c_X2_include l D c o g N hv) zc2 zV_X6_20 rfl zd_X2_include ⟨Nat.le_of_ble_eq_true rfl, Nat.le_of_ble_eq_true rfl⟩ hK hP hE hS hg hl.1 rfl (Nat.le_of_ble_eq_true rfl) ⟨Nat.zero_le _, Nat.zero_le _⟩ dX6_findWays_13 (fun H locs hP hS => ?_)
    exact xretv (pc := 16) hx hb hr hlocks hP hK hE hS h dX6_findWays_16
def F_X6_joinClumps_47 (N : Nat) (x0 : Nat) (x1 : Int32) (x3 : Int32) (again47 : (Int32 × zS) → Option (Int32 × zS)) : Int32 × zS → Option (Int32 × zS)
  | (x4, σ) =>
  if 8 ≤ x4 then
    (rZ 1 σ)
  else
    (zl (gR 6 0 x0 σ) fun v7 =>
    zl (aI 14 v7 x4 σ) fun v8 =>
    if v8 = x3 then
      (zl (gR 6 0 x0 σ) fun v9 =>
      zl (gR 6 0 x0 σ) fun v10 =>
      zl (aI 14 v10 x1 σ) fun v11 =>
      zl (sI 14 v9 x4 v11 σ) fun σ12 =>
      again47 (x4 + 1, σ12))
    else
      (again47 (x4 + 1, σ)))
def f_X6_joinClumps (N : Nat) (x0 : Nat) (x1 : Int32) (x2 : Int32) (σ : zS) : Option (Int32 × zS) :=
  if x1 < 0 then
    (rZ 0 σ)
  else
    (if 8 ≤ x1 then
      (rZ 0 σ)
    else
      (if x2 < 0 then
        (rZ 0 σ)
      else
        (if 8 ≤ x2 then
          (rZ 0 σ)
        else
          (zl (gR 6 0 x0 σ) fun v1 =>
          zl (aI 14 v1 x1 σ) fun v2 =>
          zl (gR 6 0 x0 σ) fun v3 =>
          zl (aI 14 v3 x2 σ) fun v4 =>
          if v2 = v4 then
            (rZ 0 σ)
          else
            (zl (gR 6 0 x0 σ) fun v5 =>
            zl (aI 14 v5 x2 σ) fun v6 =>
            zlp (F_X6_joinClumps_47 N x0 x1 v6) N (0, σ))))))
set_option maxHeartbeats 4000000 in
set_option maxRecDepth 100000 in
theorem c_X6_joinClumps (l : Launch) (D : va_G) (c : zC) (o : Nat) (g : zEp) (N : Nat) {x0 : Nat} {x1 : Int32} {x2 : Int32} {σ : zS} {ρ : Int32 × zS} (h : f_X6_joinClumps N x0 x1 x2 σ = some ρ) : Met l yX6_joinClumps zs_X6_joinClumps (zr 2) (va_Pc [.ref (o + x0), .int x1, .int x2] (zG D c o g σ)) (zQi D c o g ρ) 0 0 (zA o) := by
  refine zMetG (by decide) (Nat.le_of_ble_eq_true rfl) ?_
  intro p e s m below meth cd ⟨hx, hb, hr, hml, hown, hts, hlocks⟩ hP hK hE ls hl
  have hS : va_S (zA o) s.heap s.heap [] := va_S.rf
  have hl : lv_has ls 5 [(0, .ref (o + x0)), (1, .int x1), (2, .int x2)] := hl
  rw [f_X6_joinClumps.eq_1] at h
  refine lv_iload_n (pc := 0) hx hb dX6_joinClumps_0 rfl (lv_at hl 1 rfl) ?_
  refine lv_if_lt (pc := 1) (tgt := 35) hx hb dX6_joinClumps_1 (by decide) (fun c1 => ?_) (fun c1 => ?_)
  · rw [if_pos c1] at h
    refine lv_iconst (pc := 35) (v := 0) hx hb dX6_joinClumps_35 (by decide) ?_
    exact xretz (pc := 36) hx hb hr hlocks hP hK hE hS h dX6_joinClumps_36
  · rw [if_neg c1] at h
    refine lv_iload_n (pc := 4) hx hb dX6_joinClumps_4 rfl (lv_at hl 1 rfl) ?_
    refine lv_bipush (pc := 5) (v := 8) hx hb dX6_joinClumps_5 (by decide) ?_
    refine lv_icmp_ge (pc := 7) (tgt := 35) hx hb dX6_joinClumps_7 (by decide) (fun c1 => ?_) (fun c1 => ?_)
    · rw [if_pos c1] at h
      refine lv_iconst (pc := 35) (v := 0) hx hb dX6_joinClumps_35 (by decide) ?_
      exact xretz (pc := 36) hx hb hr hlocks hP hK hE hS h dX6_joinClumps_36
    · rw [if_neg c1] at h
      refine lv_iload_n (pc := 10) hx hb dX6_joinClumps_10 rfl (lv_at hl 2 rfl) ?_
      refine lv_if_lt (pc := 11) (tgt := 35) hx hb dX6_joinClumps_11 (by decide) (fun c1 => ?_) (fun c1 => ?_)
      · rw [if_pos c1] at h
        refine lv_iconst (pc := 35) (v := 0) hx hb dX6_joinClumps_35 (by decide) ?_
        exact xretz (pc := 36) hx hb hr hlocks hP hK hE hS h dX6_joinClumps_36
      · rw [if_neg c1] at h
        refine lv_iload_n (pc := 14) hx hb dX6_joinClumps_14 rfl (lv_at hl 2 rfl) ?_
        refine lv_bipush (pc := 15) (v := 8) hx hb dX6_joinClumps_15 (by decide) ?_
        refine lv_icmp_ge (pc := 17) (tgt := 35) hx hb dX6_joinClumps_17 (by decide) (fun c1 => ?_) (fun c1 => ?_)
        · rw [if_pos c1] at h
          refine lv_iconst (pc := 35) (v := 0) hx hb dX6_joinClumps_35 (by decide) ?_
          exact xretz (pc := 36) hx hb hr hlocks hP hK hE hS h dX6_joinClumps_36
        · rw [if_neg c1] at h
          refine lv_aload_n (pc := 20) hx hb dX6_joinClumps_20 rfl (lv_at hl 0 rfl) ?_
          obtain ⟨v1, hv, h⟩ := zl_some h
          refine xgR (pc := 21) (j := 0) zc6 hx hb hts hown hK hP hv rfl zf_X6_9 dX6_joinClumps_21 ?_
          refine lv_iload_n (pc := 24) hx hb dX6_joinClumps_24 rfl (lv_at hl 1 rfl) ?_
          obtain ⟨v2, hv, h⟩ := zl_some h
          refine xaI (pc := 25) hx hb hK hP hv dX6_joinClumps_25 ?_
          refine lv_aload_n (pc := 26) hx hb dX6_joinClumps_26 rfl (lv_at hl 0 rfl) ?_
          obtain ⟨v3, hv, h⟩ := zl_some h
          refine xgR (pc := 27) (j := 0) zc6 hx hb hts hown hK hP hv rfl zf_X6_9 dX6_joinClumps_27 ?_
          refine lv_iload_n (pc := 30) hx hb dX6_joinClumps_30 rfl (lv_at hl 2 rfl) ?_
          obtain ⟨v4, hv, h⟩ := zl_some h
          refine xaI (pc := 31) hx hb hK hP hv dX6_joinClumps_31 ?_
          refine lv_icmp_ne (pc := 32) (tgt := 37) hx hb dX6_joinClumps_32 (by decide) (fun c1 => ?_) (fun c1 => ?_)
          · rw [if_neg c1] at h
            refine lv_aload_n (pc := 37) hx hb dX6_joinClumps_37 rfl (lv_at hl 0 rfl) ?_
            obtain ⟨v5, hv, h⟩ := zl_some h
            refine xgR (pc := 38) (j := 0) zc6 hx hb hts hown hK hP hv rfl zf_X6_9 dX6_joinClumps_38 ?_
            refine lv_iload_n (pc := 41) hx hb dX6_joinClumps_41 rfl (lv_at hl 2 rfl) ?_
            obtain ⟨v6, hv, h⟩ := zl_some h
            refine xaI (pc := 42) hx hb hK hP hv dX6_joinClumps_42 ?_
            refine lv_istore_n (pc := 43) (lv' := [(3, .int v6), (0, .ref (o + x0)), (1, .int x1), (2, .int x2)]) hx hb dX6_joinClumps_43 rfl hl (by decide) rfl (fun ls hl => ?_)
            refine lv_iconst (pc := 44) (v := 0) hx hb dX6_joinClumps_44 (by decide) ?_
            refine lv_istore (pc := 45) (lv' := [(4, .int 0), (3, .int v6), (0, .ref (o + x0)), (1, .int x1), (2, .int x2)]) hx hb dX6_joinClumps_45 hl (by decide) rfl (fun ls hl => ?_)
            have L47_7 : ∀ (n : Nat) (t : Int32 × zS), zlp (F_X6_joinClumps_47 N x0 x1 v6) n t = some ρ → ∀ (H : Heap) (locs : List Loc) (ls : Array Slot), zP D c o (zabs o (t.2)) H → va_S (zA o) s.heap H locs → lv_has ls 5 [(4, .int (t.1)), (0, .ref (o + x0)), (1, .int x1), (3, .int v6)] → W p l e (zr 2) s m (([.ref (o + x0), .int x1, .int x2] : List Value).toArray) below meth cd H locs 0 0 (MQ below (zQi D c o g ρ) (([.ref (o + x0), .int x1, .int x2] : List Value).toArray) s 0 0 (zA o)) (F0 m 47 ls []) := by
              refine zlp_ind (fun ag7 ih7 t h H locs ls hP hS hl => ?_)
              obtain ⟨x4_7, σ7⟩ := t
              have hP : zP D c o (zabs o σ7) H := hP
              have hl : lv_has ls 5 [(4, .int x4_7), (0, .ref (o + x0)), (1, .int x1), (3, .int v6)] := hl
              rw [F_X6_joinClumps_47.eq_1] at h
              show W p l e (zr 2) s m (([.ref (o + x0), .int x1, .int x2] : List Value).toArray) below meth cd H locs 0 0 (MQ below (zQi D c o g ρ) (([.ref (o + x0), .int x1, .int x2] : List Value).toArray) s 0 0 (zA o)) (F0 m 47 ls [])
              refine lv_iload (pc := 47) hx hb dX6_joinClumps_47 (lv_at hl 0 rfl) ?_
              refine lv_bipush (pc := 49) (v := 8) hx hb dX6_joinClumps_49 (by decide) ?_
              refine lv_icmp_ge (pc := 51) (tgt := 84) hx hb dX6_joinClumps_51 (by decide) (fun c1 => ?_) (fun c1 => ?_)
              · rw [if_pos c1] at h
                refine lv_iconst (pc := 84) (v := 1) hx hb dX6_joinClumps_84 (by decide) ?_
                exact xretz (pc := 85) hx hb hr hlocks hP hK hE hS h dX6_joinClumps_85
              · rw [if_neg c1] at h
                refine lv_aload_n (pc := 54) hx hb dX6_joinClumps_54 rfl (lv_at hl 1 rfl) ?_
                obtain ⟨v8, hv, h⟩ := zl_some h
                refine xgR (pc := 55) (j := 0) zc6 hx hb hts hown hK hP hv rfl zf_X6_9 dX6_joinClumps_55 ?_
                refine lv_iload (pc := 58) hx hb dX6_joinClumps_58 (lv_at hl 0 rfl) ?_
                obtain ⟨v9, hv, h⟩ := zl_some h
                refine xaI (pc := 60) hx hb hK hP hv dX6_joinClumps_60 ?_
                refine lv_iload_n (pc := 61) hx hb dX6_joinClumps_61 rfl (lv_at hl 3 rfl) ?_
                refine lv_icmp_ne (pc := 62) (tgt := 78) hx hb dX6_joinClumps_62 (by decide) (fun c1 => ?_) (fun c1 => ?_)
                · rw [if_neg c1] at h
                  refine lv_iinc (pc := 78) (v := x4_7 + 1) (lv' := [(4, .int (x4_7 + 1)), (0, .ref (o + x0)), (1, .int x1), (3, .int v6)]) hx hb dX6_joinClumps_78 hl (k := 0) rfl rfl (by decide) rfl (fun ls hl => ?_)
                  refine lv_goto (pc := 81) (tgt := 47) hx hb dX6_joinClumps_81 (by decide) ?_
                  exact ih7 (x4_7 + 1, σ7) h _ _ ls hP hS (lv_sub hl [0, 1, 2, 3] rfl)
                · rw [if_pos c1] at h
                  refine lv_aload_n (pc := 65) hx hb dX6_joinClumps_65 rfl (lv_at hl 1 rfl) ?_
                  obtain ⟨v10, hv, h⟩ := zl_some h
                  refine xgR (pc := 66) (j := 0) zc6 hx hb hts hown hK hP hv rfl zf_X6_9 dX6_joinClumps_66 ?_
                  refine lv_iload (pc := 69) hx hb dX6_joinClumps_69 (lv_at hl 0 rfl) ?_
                  refine lv_aload_n (pc := 71) hx hb dX6_joinClumps_71 rfl (lv_at hl 1 rfl) ?_
                  obtain ⟨v11, hv, h⟩ := zl_some h
                  refine xgR (pc := 72) (j := 0) zc6 hx hb hts hown hK hP hv rfl zf_X6_9 dX6_joinClumps_72 ?_
                  refine lv_iload_n (pc := 75) hx hb dX6_joinClumps_75 rfl (lv_at hl 2 rfl) ?_
                  obtain ⟨v12, hv, h⟩ := zl_some h
                  refine xaI (pc := 76) hx hb hK hP hv dX6_joinClumps_76 ?_
                  obtain ⟨σ13, hv, h⟩ := zl_some h
                  refine xsI (pc := 77) hx hb hK hP hS hv dX6_joinClumps_77 (fun H locs hP hS => ?_)
                  refine lv_iinc (pc := 78) (v := x4_7 + 1) (lv' := [(4, .int (x4_7 + 1)), (0, .ref (o + x0)), (1, .int x1), (3, .int v6)]) hx hb dX6_joinClumps_78 hl (k := 0) rfl rfl (by decide) rfl (fun ls hl => ?_)
                  refine lv_goto (pc := 81) (tgt := 47) hx hb dX6_joinClumps_81 (by decide) ?_
                  exact ih7 (x4_7 + 1, σ13) h _ _ ls hP hS (lv_sub hl [0, 1, 2, 3] rfl)
            exact L47_7 N (0, σ) h _ _ ls hP hS (lv_sub hl [0, 2, 3, 1] rfl)
          · rw [if_pos c1] at h
            refine lv_iconst (pc := 35) (v := 0) hx hb dX6_joinClumps_35 (by decide) ?_
            exact xretz (pc := 36) hx hb hr hlocks hP hK hE hS h dX6_joinClumps_36
def F_X6_isWithoutRing_23 (N : Nat) (x0 : Nat) (x1 : Nat) (x2 : Int32) (again23 : (Int32 × zS) → Option (Int32 × zS)) : Int32 × zS → Option (Int32 × zS)
  | (x3, σ) =>
  zl (gI 10 2 x1 σ) fun v1 =>
  if v1 ≤ x3 then
    (rZ 1 σ)
  else
    (if 10 ≤ x3 then
      (rZ 1 σ)
    else
      (if (((x2 : Int32) >>> (x3 &&& 31)) &&& 1) = 0 then
        (again23 (x3 + 1, σ))
      else
        (zl (gR 10 3 x1 σ) fun v2 =>
        zl (aI 14 v2 x3 σ) fun v3 =>
        zl (gR 10 4 x1 σ) fun v4 =>
        zl (aI 14 v4 x3 σ) fun v5 =>
        zl (gC 6 x0) fun _ => zb (f_X6_joinClumps N x0 v3 v5 σ) fun v6 σ7 =>
        if v6 = 0 then
          (rZ 0 σ7)
        else
          (again23 (x3 + 1, σ7)))))
def F_X6_isWithoutRing_2 (N : Nat) (x0 : Nat) (x1 : Nat) (x2 : Int32) (again2 : (Int32 × zS) → Option (Int32 × zS)) : Int32 × zS → Option (Int32 × zS)
  | (x3, σ) =>
  if 8 ≤ x3 then
    (zlp (F_X6_isWithoutRing_23 N x0 x1 x2) N (0, σ))
  else
    (zl (gR 6 0 x0 σ) fun v8 =>
    zl (sI 14 v8 x3 x3 σ) fun σ9 =>
    again2 (x3 + 1, σ9))
def f_X6_isWithoutRing (N : Nat) (x0 : Nat) (x1 : Nat) (x2 : Int32) (σ : zS) : Option (Int32 × zS) :=
  zlp (F_X6_isWithoutRing_2 N x0 x1 x2) N (0, σ)
set_option maxHeartbeats 4000000 in
set_option maxRecDepth 100000 in
theorem c_X6_isWithoutRing (l : Launch) (D : va_G) (c : zC) (o : Nat) (g : zEp) (N : Nat) {x0 : Nat} {x1 : Nat} {x2 : Int32} {σ : zS} {ρ : Int32 × zS} (h : f_X6_isWithoutRing N x0 x1 x2 σ = some ρ) : Met l yX6_isWithoutRing zs_X6_isWithoutRing (zr 4) (va_Pc [.ref (o + x0), .ref (o + x1), .int x2] (zG D c o g σ)) (zQi D c o g ρ) 0 0 (zA o) := by
  refine zMetG (by decide) (Nat.le_of_ble_eq_true rfl) ?_
  intro p e s m below meth cd ⟨hx, hb, hr, hml, hown, hts, hlocks⟩ hP hK hE ls hl
  have hS : va_S (zA o) s.heap s.heap [] := va_S.rf
  have hl : lv_has ls 4 [(0, .ref (o + x0)), (1, .ref (o + x1)), (2, .int x2)] := hl
  rw [f_X6_isWithoutRing.eq_1] at h
  refine lv_iconst (pc := 0) (v := 0) hx hb dX6_isWithoutRing_0 (by decide) ?_
  refine lv_istore_n (pc := 1) (lv' := [(3, .int 0), (0, .ref (o + x0)), (1, .ref (o + x1)), (2, .int x2)]) hx hb dX6_isWithoutRing_1 rfl hl (by decide) rfl (fun ls hl => ?_)
  have L2_1 : ∀ (n : Nat) (t : Int32 × zS), zlp (F_X6_isWithoutRing_2 N x0 x1 x2) n t = some ρ → ∀ (H : Heap) (locs : List Loc) (ls : Array Slot), zP D c o (zabs o (t.2)) H → va_S (zA o) s.heap H locs → lv_has ls 4 [(3, .int (t.1)), (0, .ref (o + x0)), (1, .ref (o + x1)), (2, .int x2)] → W p l e (zr 4) s m (([.ref (o + x0), .ref (o + x1), .int x2] : List Value).toArray) below meth cd H locs 0 0 (MQ below (zQi D c o g ρ) (([.ref (o + x0), .ref (o + x1), .int x2] : List Value).toArray) s 0 0 (zA o)) (F0 m 2 ls []) := by
    refine zlp_ind (fun ag1 ih1 t h H locs ls hP hS hl => ?_)
    obtain ⟨x3_1, σ1⟩ := t
    have hP : zP D c o (zabs o σ1) H := hP
    have hl : lv_has ls 4 [(3, .int x3_1), (0, .ref (o + x0)), (1, .ref (o + x1)), (2, .int x2)] := hl
    rw [F_X6_isWithoutRing_2.eq_1] at h
    show W p l e (zr 4) s m (([.ref (o + x0), .ref (o + x1), .int x2] : List Value).toArray) below meth cd H locs 0 0 (MQ below (zQi D c o g ρ) (([.ref (o + x0), .ref (o + x1), .int x2] : List Value).toArray) s 0 0 (zA o)) (F0 m 2 ls [])
    refine lv_iload_n (pc := 2) hx hb dX6_isWithoutRing_2 rfl (lv_at hl 0 rfl) ?_
    refine lv_bipush (pc := 3) (v := 8) hx hb dX6_isWithoutRing_3 (by decide) ?_
    refine lv_icmp_ge (pc := 5) (tgt := 21) hx hb dX6_isWithoutRing_5 (by decide) (fun c1 => ?_) (fun c1 => ?_)
    · rw [if_pos c1] at h
      refine lv_iconst (pc := 21) (v := 0) hx hb dX6_isWithoutRing_21 (by decide) ?_
      refine lv_istore_n (pc := 22) (lv' := [(3, .int 0), (0, .ref (o + x0)), (1, .ref (o + x1)), (2, .int x2)]) hx hb dX6_isWithoutRing_22 rfl hl (by decide) rfl (fun ls hl => ?_)
      have L23_2 : ∀ (n : Nat) (t : Int32 × zS), zlp (F_X6_isWithoutRing_23 N x0 x1 x2) n t = some ρ → ∀ (H : Heap) (locs : List Loc) (ls : Array Slot), zP D c o (zabs o (t.2)) H → va_S (zA o) s.heap H locs → lv_has ls 4 [(3, .int (t.1)), (0, .ref (o + x0)), (1, .ref (o + x1)), (2, .int x2)] → W p l e (zr 4) s m (([.ref (o + x0), .ref (o + x1), .int x2] : List Value).toArray) below meth cd H locs 0 0 (MQ below (zQi D c o g ρ) (([.ref (o + x0), .ref (o + x1), .int x2] : List Value).toArray) s 0 0 (zA o)) (F0 m 23 ls []) := by
        refine zlp_ind (fun ag2 ih2 t h H locs ls hP hS hl => ?_)
        obtain ⟨x3_2, σ2⟩ := t
        have hP : zP D c o (zabs o σ2) H := hP
        have hl : lv_has ls 4 [(3, .int x3_2), (0, .ref (o + x0)), (1, .ref (o + x1)), (2, .int x2)] := hl
        rw [F_X6_isWithoutRing_23.eq_1] at h
        show W p l e (zr 4) s m (([.ref (o + x0), .ref (o + x1), .int x2] : List Value).toArray) below meth cd H locs 0 0 (MQ below (zQi D c o g ρ) (([.ref (o + x0), .ref (o + x1), .int x2] : List Value).toArray) s 0 0 (zA o)) (F0 m 23 ls [])
        refine lv_iload_n (pc := 23) hx hb dX6_isWithoutRing_23 rfl (lv_at hl 0 rfl) ?_
        refine lv_aload_n (pc := 24) hx hb dX6_isWithoutRing_24 rfl (lv_at hl 2 rfl) ?_
        obtain ⟨v3, hv, h⟩ := zl_some h
        refine xgI (pc := 25) (j := 2) zc10 hx hb hts hown hK hP hv rfl zf_X6_28 dX6_isWithoutRing_25 ?_
        refine lv_icmp_ge (pc := 28) (tgt := 72) hx hb dX6_isWithoutRing_28 (by decide) (fun c1 => ?_) (fun c1 => ?_)
        · rw [if_pos c1] at h
          refine lv_iconst (pc := 72) (v := 1) hx hb dX6_isWithoutRing_72 (by decide) ?_
          exact xretz (pc := 73) hx hb hr hlocks hP hK hE hS h dX6_isWithoutRing_73
        · rw [if_neg c1] at h
          refine lv_iload_n (pc := 31) hx hb dX6_isWithoutRing_31 rfl (lv_at hl 0 rfl) ?_
          refine lv_bipush (pc := 32) (v := 10) hx hb dX6_isWithoutRing_32 (by decide) ?_
          refine lv_icmp_ge (pc := 34) (tgt := 72) hx hb dX6_isWithoutRing_34 (by decide) (fun c1 => ?_) (fun c1 => ?_)
          · rw [if_pos c1] at h
            refine lv_iconst (pc := 72) (v := 1) hx hb dX6_isWithoutRing_72 (by decide) ?_
            exact xretz (pc := 73) hx hb hr hlocks hP hK hE hS h dX6_isWithoutRing_73
          · rw [if_neg c1] at h
            refine lv_iload_n (pc := 37) hx hb dX6_isWithoutRing_37 rfl (lv_at hl 3 rfl) ?_
            refine lv_iload_n (pc := 38) hx hb dX6_isWithoutRing_38 rfl (lv_at hl 0 rfl) ?_
            refine lv_ishr (pc := 39) hx hb dX6_isWithoutRing_39 ?_
            refine lv_iconst (pc := 40) (v := 1) hx hb dX6_isWithoutRing_40 (by decide) ?_
            refine lv_iand (pc := 41) hx hb dX6_isWithoutRing_41 ?_
            refine lv_if_eq (pc := 42) (tgt := 66) hx hb dX6_isWithoutRing_42 (by decide) (fun c1 => ?_) (fun c1 => ?_)
            · rw [if_pos c1] at h
              refine lv_iinc (pc := 66) (v := x3_2 + 1) (lv' := [(3, .int (x3_2 + 1)), (0, .ref (o + x0)), (1, .ref (o + x1)), (2, .int x2)]) hx hb dX6_isWithoutRing_66 hl (k := 0) rfl rfl (by decide) rfl (fun ls hl => ?_)
              refine lv_goto (pc := 69) (tgt := 23) hx hb dX6_isWithoutRing_69 (by decide) ?_
              exact ih2 (x3_2 + 1, σ2) h _ _ ls hP hS (lv_sub hl [0, 1, 2, 3] rfl)
            · rw [if_neg c1] at h
              refine lv_aload_n (pc := 45) hx hb dX6_isWithoutRing_45 rfl (lv_at hl 1 rfl) ?_
              refine lv_aload_n (pc := 46) hx hb dX6_isWithoutRing_46 rfl (lv_at hl 2 rfl) ?_
              obtain ⟨v4, hv, h⟩ := zl_some h
              refine xgR (pc := 47) (j := 3) zc10 hx hb hts hown hK hP hv rfl zf_X6_44 dX6_isWithoutRing_47 ?_
              refine lv_iload_n (pc := 50) hx hb dX6_isWithoutRing_50 rfl (lv_at hl 0 rfl) ?_
              obtain ⟨v5, hv, h⟩ := zl_some h
              refine xaI (pc := 51) hx hb hK hP hv dX6_isWithoutRing_51 ?_
              refine lv_aload_n (pc := 52) hx hb dX6_isWithoutRing_52 rfl (lv_at hl 2 rfl) ?_
              obtain ⟨v6, hv, h⟩ := zl_some h
              refine xgR (pc := 53) (j := 4) zc10 hx hb hts hown hK hP hv rfl zf_X6_47 dX6_isWithoutRing_53 ?_
              refine lv_iload_n (pc := 56) hx hb dX6_isWithoutRing_56 rfl (lv_at hl 0 rfl) ?_
              obtain ⟨v7, hv, h⟩ := zl_some h
              refine xaI (pc := 57) hx hb hK hP hv dX6_isWithoutRing_57 ?_
              obtain ⟨_, hg, h⟩ := zl_some h
              obtain ⟨v8, σ9, hv, h⟩ := zb_some h
              refine xcallVi (pc := 58) (As := [.int v5, .int v7]) (rest := []) ⟨hx, hb, hml, hown, hts⟩ (c_X6_joinClumps l D c o g N hv) zc6 zV_X6_68 rfl zd_X6_joinClumps ⟨Nat.le_of_ble_eq_true rfl, Nat.le_of_ble_eq_true rfl⟩ hK hP hE hS hg hl.1 rfl (Nat.le_of_ble_eq_true rfl) ⟨Nat.zero_le _, Nat.zero_le _⟩ dX6_isWithoutRing_58 (fun H locs hP hS => ?_)
              refine lv_if_ne (pc := 61) (tgt := 66) hx hb dX6_isWithoutRing_61 (by decide) (fun c1 => ?_) (fun c1 => ?_)
              · rw [if_neg c1] at h
                refine lv_iinc (pc := 66) (v := x3_2 + 1) (lv' := [(3, .int (x3_2 + 1)), (0, .ref (o + x0)), (1, .ref (o + x1)), (2, .int x2)]) hx hb dX6_isWithoutRing_66 hl (k := 0) rfl rfl (by decide) rfl (fun ls hl => ?_)
                refine lv_goto (pc := 69) (tgt := 23) hx hb dX6_isWithoutRing_69 (by decide) ?_
                exact ih2 (x3_2 + 1, σ9) h _ _ ls hP hS (lv_sub hl [0, 1, 2, 3] rfl)
              · rw [if_pos c1] at h
                refine lv_iconst (pc := 64) (v := 0) hx hb dX6_isWithoutRing_64 (by decide) ?_
                exact xretz (pc := 65) hx hb hr hlocks hP hK hE hS h dX6_isWithoutRing_65
      exact L23_2 N (0, σ1) h _ _ ls hP hS (lv_sub hl [0, 1, 2, 3] rfl)
    · rw [if_neg c1] at h
      refine lv_aload_n (pc := 8) hx hb dX6_isWithoutRing_8 rfl (lv_at hl 1 rfl) ?_
      obtain ⟨v10, hv, h⟩ := zl_some h
      refine xgR (pc := 9) (j := 0) zc6 hx hb hts hown hK hP hv rfl zf_X6_9 dX6_isWithoutRing_9 ?_
      refine lv_iload_n (pc := 12) hx hb dX6_isWithoutRing_12 rfl (lv_at hl 0 rfl) ?_
      refine lv_iload_n (pc := 13) hx hb dX6_isWithoutRing_13 rfl (lv_at hl 0 rfl) ?_
      obtain ⟨σ11, hv, h⟩ := zl_some h
      refine xsI (pc := 14) hx hb hK hP hS hv dX6_isWithoutRing_14 (fun H locs hP hS => ?_)
      refine lv_iinc (pc := 15) (v := x3_1 + 1) (lv' := [(3, .int (x3_1 + 1)), (0, .ref (o + x0)), (1, .ref (o + x1)), (2, .int x2)]) hx hb dX6_isWithoutRing_15 hl (k := 0) rfl rfl (by decide) rfl (fun ls hl => ?_)
      refine lv_goto (pc := 18) (tgt := 2) hx hb dX6_isWithoutRing_18 (by decide) ?_
      exact ih1 (x3_1 + 1, σ11) h _ _ ls hP hS (lv_sub hl [0, 1, 2, 3] rfl)
  exact L2_1 N (0, σ) h _ _ ls hP hS (lv_sub hl [0, 1, 2, 3] rfl)
def F_X6_touchedBy_4 (N : Nat) (x0 : Nat) (x1 : Int32) (again4 : (Int32 × Int32 × zS) → Option (Int32 × zS)) : Int32 × Int32 × zS → Option (Int32 × zS)
  | (x2, x3, σ) =>
  zl (gI 10 2 x0 σ) fun v1 =>
  if v1 ≤ x3 then
    (some (x2, σ))
  else
    (if 10 ≤ x3 then
      (some (x2, σ))
    else
      (if (((x1 : Int32) >>> (x3 &&& 31)) &&& 1) = 0 then
        (again4 (x2, x3 + 1, σ))
      else
        (zl (gR 10 3 x0 σ) fun v2 =>
        zl (aI 14 v2 x3 σ) fun v3 =>
        zl (gR 10 4 x0 σ) fun v4 =>
        zl (aI 14 v4 x3 σ) fun v5 =>
        again4 (x2 ||| (((1 : Int32) <<< (v3 &&& 31)) ||| ((1 : Int32) <<< (v5 &&& 31))), x3 + 1, σ))))
def f_X6_touchedBy (N : Nat) (x0 : Nat) (x1 : Int32) (σ : zS) : Option (Int32 × zS) :=
  zlp (F_X6_touchedBy_4 N x0 x1) N (0, 0, σ)
set_option maxHeartbeats 4000000 in
set_option maxRecDepth 100000 in
theorem c_X6_touchedBy (l : Launch) (D : va_G) (c : zC) (o : Nat) (g : zEp) (N : Nat) {x0 : Nat} {x1 : Int32} {σ : zS} {ρ : Int32 × zS} (h : f_X6_touchedBy N x0 x1 σ = some ρ) : Met l yX6_touchedBy zs_X6_touchedBy (zr 2) (va_Pc [.ref (o + x0), .int x1] (zG D c o g σ)) (zQi D c o g ρ) 0 0 (zA o) := by
  refine zMetG (by decide) (Nat.le_of_ble_eq_true rfl) ?_
  intro p e s m below meth cd ⟨hx, hb, hr, hml, hown, hts, hlocks⟩ hP hK hE ls hl
  have hS : va_S (zA o) s.heap s.heap [] := va_S.rf
  have hl : lv_has ls 4 [(0, .ref (o + x0)), (1, .int x1)] := hl
  rw [f_X6_touchedBy.eq_1] at h
  refine lv_iconst (pc := 0) (v := 0) hx hb dX6_touchedBy_0 (by decide) ?_
  refine lv_istore_n (pc := 1) (lv' := [(2, .int 0), (0, .ref (o + x0)), (1, .int x1)]) hx hb dX6_touchedBy_1 rfl hl (by decide) rfl (fun ls hl => ?_)
  refine lv_iconst (pc := 2) (v := 0) hx hb dX6_touchedBy_2 (by decide) ?_
  refine lv_istore_n (pc := 3) (lv' := [(3, .int 0), (2, .int 0), (0, .ref (o + x0)), (1, .int x1)]) hx hb dX6_touchedBy_3 rfl hl (by decide) rfl (fun ls hl => ?_)
  have L4_1 : ∀ (n : Nat) (t : Int32 × Int32 × zS), zlp (F_X6_touchedBy_4 N x0 x1) n t = some ρ → ∀ (H : Heap) (locs : List Loc) (ls : Array Slot), zP D c o (zabs o (t.2.2)) H → va_S (zA o) s.heap H locs → lv_has ls 4 [(2, .int (t.1)), (3, .int (t.2.1)), (0, .ref (o + x0)), (1, .int x1)] → W p l e (zr 2) s m (([.ref (o + x0), .int x1] : List Value).toArray) below meth cd H locs 0 0 (MQ below (zQi D c o g ρ) (([.ref (o + x0), .int x1] : List Value).toArray) s 0 0 (zA o)) (F0 m 4 ls []) := by
    refine zlp_ind (fun ag1 ih1 t h H locs ls hP hS hl => ?_)
    obtain ⟨x2_1, x3_1, σ1⟩ := t
    have hP : zP D c o (zabs o σ1) H := hP
    have hl : lv_has ls 4 [(2, .int x2_1), (3, .int x3_1), (0, .ref (o + x0)), (1, .int x1)] := hl
    rw [F_X6_touchedBy_4.eq_1] at h
    show W p l e (zr 2) s m (([.ref (o + x0), .int x1] : List Value).toArray) below meth cd H locs 0 0 (MQ below (zQi D c o g ρ) (([.ref (o + x0), .int x1] : List Value).toArray) s 0 0 (zA o)) (F0 m 4 ls [])
    refine lv_iload_n (pc := 4) hx hb dX6_touchedBy_4 rfl (lv_at hl 1 rfl) ?_
    refine lv_aload_n (pc := 5) hx hb dX6_touchedBy_5 rfl (lv_at hl 2 rfl) ?_
    obtain ⟨v2, hv, h⟩ := zl_some h
    refine xgI (pc := 6) (j := 2) zc10 hx hb hts hown hK hP hv rfl zf_X6_28 dX6_touchedBy_6 ?_
    refine lv_icmp_ge (pc := 9) (tgt := 52) hx hb dX6_touchedBy_9 (by decide) (fun c1 => ?_) (fun c1 => ?_)
    · rw [if_pos c1] at h
      refine lv_iload_n (pc := 52) hx hb dX6_touchedBy_52 rfl (lv_at hl 0 rfl) ?_
      exact xreti (pc := 53) hx hb hr hlocks hP hK hE hS h dX6_touchedBy_53
    · rw [if_neg c1] at h
      refine lv_iload_n (pc := 12) hx hb dX6_touchedBy_12 rfl (lv_at hl 1 rfl) ?_
      refine lv_bipush (pc := 13) (v := 10) hx hb dX6_touchedBy_13 (by decide) ?_
      refine lv_icmp_ge (pc := 15) (tgt := 52) hx hb dX6_touchedBy_15 (by decide) (fun c1 => ?_) (fun c1 => ?_)
      · rw [if_pos c1] at h
        refine lv_iload_n (pc := 52) hx hb dX6_touchedBy_52 rfl (lv_at hl 0 rfl) ?_
        exact xreti (pc := 53) hx hb hr hlocks hP hK hE hS h dX6_touchedBy_53
      · rw [if_neg c1] at h
        refine lv_iload_n (pc := 18) hx hb dX6_touchedBy_18 rfl (lv_at hl 3 rfl) ?_
        refine lv_iload_n (pc := 19) hx hb dX6_touchedBy_19 rfl (lv_at hl 1 rfl) ?_
        refine lv_ishr (pc := 20) hx hb dX6_touchedBy_20 ?_
        refine lv_iconst (pc := 21) (v := 1) hx hb dX6_touchedBy_21 (by decide) ?_
        refine lv_iand (pc := 22) hx hb dX6_touchedBy_22 ?_
        refine lv_if_eq (pc := 23) (tgt := 46) hx hb dX6_touchedBy_23 (by decide) (fun c1 => ?_) (fun c1 => ?_)
        · rw [if_pos c1] at h
          refine lv_iinc (pc := 46) (v := x3_1 + 1) (lv' := [(3, .int (x3_1 + 1)), (2, .int x2_1), (0, .ref (o + x0)), (1, .int x1)]) hx hb dX6_touchedBy_46 hl (k := 1) rfl rfl (by decide) rfl (fun ls hl => ?_)
          refine lv_goto (pc := 49) (tgt := 4) hx hb dX6_touchedBy_49 (by decide) ?_
          exact ih1 (x2_1, x3_1 + 1, σ1) h _ _ ls hP hS (lv_sub hl [1, 0, 2, 3] rfl)
        · rw [if_neg c1] at h
          refine lv_iload_n (pc := 26) hx hb dX6_touchedBy_26 rfl (lv_at hl 0 rfl) ?_
          refine lv_iconst (pc := 27) (v := 1) hx hb dX6_touchedBy_27 (by decide) ?_
          refine lv_aload_n (pc := 28) hx hb dX6_touchedBy_28 rfl (lv_at hl 2 rfl) ?_
          obtain ⟨v3, hv, h⟩ := zl_some h
          refine xgR (pc := 29) (j := 3) zc10 hx hb hts hown hK hP hv rfl zf_X6_44 dX6_touchedBy_29 ?_
          refine lv_iload_n (pc := 32) hx hb dX6_touchedBy_32 rfl (lv_at hl 1 rfl) ?_
          obtain ⟨v4, hv, h⟩ := zl_some h
          refine xaI (pc := 33) hx hb hK hP hv dX6_touchedBy_33 ?_
          refine lv_ishl (pc := 34) hx hb dX6_touchedBy_34 ?_
          refine lv_iconst (pc := 35) (v := 1) hx hb dX6_touchedBy_35 (by decide) ?_
          refine lv_aload_n (pc := 36) hx hb dX6_touchedBy_36 rfl (lv_at hl 2 rfl) ?_
          obtain ⟨v5, hv, h⟩ := zl_some h
          refine xgR (pc := 37) (j := 4) zc10 hx hb hts hown hK hP hv rfl zf_X6_47 dX6_touchedBy_37 ?_
          refine lv_iload_n (pc := 40) hx hb dX6_touchedBy_40 rfl (lv_at hl 1 rfl) ?_
          obtain ⟨v6, hv, h⟩ := zl_some h
          refine xaI (pc := 41) hx hb hK hP hv dX6_touchedBy_41 ?_
          refine lv_ishl (pc := 42) hx hb dX6_touchedBy_42 ?_
          refine lv_ior (pc := 43) hx hb dX6_touchedBy_43 ?_
          refine lv_ior (pc := 44) hx hb dX6_touchedBy_44 ?_
          refine lv_istore_n (pc := 45) (lv' := [(2, .int (x2_1 ||| (((1 : Int32) <<< (v4 &&& 31)) ||| ((1 : Int32) <<< (v6 &&& 31))))), (3, .int x3_1), (0, .ref (o + x0)), (1, .int x1)]) hx hb dX6_touchedBy_45 rfl hl (by decide) rfl (fun ls hl => ?_)
          refine lv_iinc (pc := 46) (v := x3_1 + 1) (lv' := [(3, .int (x3_1 + 1)), (2, .int (x2_1 ||| (((1 : Int32) <<< (v4 &&& 31)) ||| ((1 : Int32) <<< (v6 &&& 31))))), (0, .ref (o + x0)), (1, .int x1)]) hx hb dX6_touchedBy_46 hl (k := 1) rfl rfl (by decide) rfl (fun ls hl => ?_)
          refine lv_goto (pc := 49) (tgt := 4) hx hb dX6_touchedBy_49 (by decide) ?_
          exact ih1 (x2_1 ||| (((1 : Int32) <<< (v4 &&& 31)) ||| ((1 : Int32) <<< (v6 &&& 31))), x3_1 + 1, σ1) h _ _ ls hP hS (lv_sub hl [1, 0, 2, 3] rfl)
  exact L4_1 N (0, 0, σ) h _ _ ls hP hS (lv_sub hl [1, 0, 2, 3] rfl)
def f_X6_isOneOf (N : Nat) (x0 : Nat) (x1 : Nat) (x2 : Int32) (x3 : Int32) (x4 : Int32) (σ : zS) : Option (Int32 × zS) :=
  zb (f_J6_bitCount_0f7a4 N x4 σ) fun v1 σ2 =>
  zb (f_J6_bitCount_0f7a4 N x3 σ2) fun v3 σ4 =>
  if x2 = 0 then
    (if v3 = (zmax 0 (v1 - 1)) then
      (zl (gC 6 x0) fun _ => zb (f_X6_isWithoutRing N x0 x1 x3 σ4) fun v5 σ6 =>
      if v5 = 0 then
        (rZ 0 σ6)
      else
        (rZ 1 σ6))
    else
      (rZ 0 σ4))
  else if x2 = 1 then
    (zb (f_X6_touchedBy N x1 x3 σ4) fun v7 σ8 =>
    zb (f_J6_bitCount_0f7a4 N v7 σ8) fun v9 σ10 =>
    if v9 = (2 * v3) then
      (rZ 1 σ10)
    else
      (rZ 0 σ10))
  else (zb (f_X6_touchedBy N x1 x3 σ4) fun v11 σ12 =>
    if v11 = x4 then
      (rZ 1 σ12)
    else
      (rZ 0 σ12))
set_option maxHeartbeats 4000000 in
set_option maxRecDepth 100000 in
theorem c_X6_isOneOf (l : Launch) (D : va_G) (c : zC) (o : Nat) (g : zEp) (N : Nat) {x0 : Nat} {x1 : Nat} {x2 : Int32} {x3 : Int32} {x4 : Int32} {σ : zS} {ρ : Int32 × zS} (h : f_X6_isOneOf N x0 x1 x2 x3 x4 σ = some ρ) : Met l yX6_isOneOf zs_X6_isOneOf (zr 6) (va_Pc [.ref (o + x0), .ref (o + x1), .int x2, .int x3, .int x4] (zG D c o g σ)) (zQi D c o g ρ) 0 0 (zA o) := by
  refine zMetG (by decide) (Nat.le_of_ble_eq_true rfl) ?_
  intro p e s m below meth cd ⟨hx, hb, hr, hml, hown, hts, hlocks⟩ hP hK hE ls hl
  have hS : va_S (zA o) s.heap s.heap [] := va_S.rf
  have hl : lv_has ls 7 [(0, .ref (o + x0)), (1, .ref (o + x1)), (2, .int x2), (3, .int x3), (4, .int x4)] := hl
  rw [f_X6_isOneOf.eq_1] at h
  refine lv_iload (pc := 0) hx hb dX6_isOneOf_0 (lv_at hl 4 rfl) ?_
  obtain ⟨v1, σ2, hv, h⟩ := zb_some h
  refine xcallSi (pc := 2) (As := [.int x4]) (rest := []) ⟨hx, hb, hml, hown, hts⟩ (c_J6_bitCount_0f7a4 l D c o g N hv) zT_X6_38 rfl zd_J6_bitCount_0f7a4 ⟨Nat.le_of_ble_eq_true rfl, Nat.le_of_ble_eq_true rfl⟩ hK hP hE hS hl.1 rfl (Nat.le_of_ble_eq_true rfl) ⟨Nat.zero_le _, Nat.zero_le _⟩ dX6_isOneOf_2 (fun H locs hP hS => ?_)
  refine lv_istore (pc := 5) (lv' := [(5, .int v1), (0, .ref (o + x0)), (1, .ref (o + x1)), (2, .int x2), (3, .int x3), (4, .int x4)]) hx hb dX6_isOneOf_5 hl (by decide) rfl (fun ls hl => ?_)
  refine lv_iload_n (pc := 7) hx hb dX6_isOneOf_7 rfl (lv_at hl 4 rfl) ?_
  obtain ⟨v3, σ4, hv, h⟩ := zb_some h
  refine xcallSi (pc := 8) (As := [.int x3]) (rest := []) ⟨hx, hb, hml, hown, hts⟩ (c_J6_bitCount_0f7a4 l D c o g N hv) zT_X6_38 rfl zd_J6_bitCount_0f7a4 ⟨Nat.le_of_ble_eq_true rfl, Nat.le_of_ble_eq_true rfl⟩ hK hP hE hS hl.1 rfl (Nat.le_of_ble_eq_true rfl) ⟨Nat.zero_le _, Nat.zero_le _⟩ dX6_isOneOf_8 (fun H locs hP hS => ?_)
  refine lv_istore (pc := 11) (lv' := [(6, .int v3), (5, .int v1), (0, .ref (o + x0)), (1, .ref (o + x1)), (2, .int x2), (3, .int x3), (4, .int x4)]) hx hb dX6_isOneOf_11 hl (by decide) rfl (fun ls hl => ?_)
  refine lv_iload_n (pc := 13) hx hb dX6_isOneOf_13 rfl (lv_at hl 4 rfl) ?_
  by_cases w0_14 : x2 = 0
  · rw [if_pos w0_14] at h
    refine lv_lookup (pc := 14) (tgt := 40) hx hb dX6_isOneOf_14 (by decide) (by rw [w0_14] <;> rfl) (by decide) ?_
    refine lv_iload (pc := 40) hx hb dX6_isOneOf_40 (lv_at hl 0 rfl) ?_
    refine lv_iconst (pc := 42) (v := 0) hx hb dX6_isOneOf_42 (by decide) ?_
    refine lv_iload (pc := 43) hx hb dX6_isOneOf_43 (lv_at hl 1 rfl) ?_
    refine lv_iconst (pc := 45) (v := 1) hx hb dX6_isOneOf_45 (by decide) ?_
    refine lv_isub (pc := 46) hx hb dX6_isOneOf_46 ?_
    refine xmax (pc := 47) (rest := [.int v3]) hx hb (hml.trans hl.1.symm) hown (hts _ zm_X6_58) (hts _ zst_J9_max_7cf53) (hts _ zn_J9) (hts _ (zq_J9_max_7cf53 _ List.mem_cons_self).1) (Nat.le_of_ble_eq_true rfl) (Nat.le_of_ble_eq_true rfl) (Nat.zero_le _) (Nat.zero_le _) dX6_isOneOf_47 ?_
    refine lv_icmp_ne (pc := 50) (tgt := 66) hx hb dX6_isOneOf_50 (by decide) (fun c1 => ?_) (fun c1 => ?_)
    · rw [if_neg c1] at h
      refine lv_iconst (pc := 66) (v := 0) hx hb dX6_isOneOf_66 (by decide) ?_
      exact xretz (pc := 67) hx hb hr hlocks hP hK hE hS h dX6_isOneOf_67
    · rw [if_pos c1] at h
      refine lv_aload_n (pc := 53) hx hb dX6_isOneOf_53 rfl (lv_at hl 2 rfl) ?_
      refine lv_aload_n (pc := 54) hx hb dX6_isOneOf_54 rfl (lv_at hl 3 rfl) ?_
      refine lv_iload_n (pc := 55) hx hb dX6_isOneOf_55 rfl (lv_at hl 5 rfl) ?_
      obtain ⟨_, hg, h⟩ := zl_some h
      obtain ⟨v5, σ6, hv, h⟩ := zb_some h
      refine xcallVi (pc := 56) (As := [.ref (o + x1), .int x3]) (rest := []) ⟨hx, hb, hml, hown, hts⟩ (c_X6_isWithoutRing l D c o g N hv) zc6 zV_X6_64 rfl zd_X6_isWithoutRing ⟨Nat.le_of_ble_eq_true rfl, Nat.le_of_ble_eq_true rfl⟩ hK hP hE hS hg hl.1 rfl (Nat.le_of_ble_eq_true rfl) ⟨Nat.zero_le _, Nat.zero_le _⟩ dX6_isOneOf_56 (fun H locs hP hS => ?_)
      refine lv_if_eq (pc := 59) (tgt := 66) hx hb dX6_isOneOf_59 (by decide) (fun c1 => ?_) (fun c1 => ?_)
      · rw [if_pos c1] at h
        refine lv_iconst (pc := 66) (v := 0) hx hb dX6_isOneOf_66 (by decide) ?_
        exact xretz (pc := 67) hx hb hr hlocks hP hK hE hS h dX6_isOneOf_67
      · rw [if_neg c1] at h
        refine lv_iconst (pc := 62) (v := 1) hx hb dX6_isOneOf_62 (by decide) ?_
        refine lv_goto (pc := 63) (tgt := 67) hx hb dX6_isOneOf_63 (by decide) ?_
        exact xretz (pc := 67) hx hb hr hlocks hP hK hE hS h dX6_isOneOf_67
  rw [if_neg w0_14] at h
  by_cases w1_14 : x2 = 1
  · rw [if_pos w1_14] at h
    refine lv_lookup (pc := 14) (tgt := 68) hx hb dX6_isOneOf_14 (by decide) (by rw [w1_14] <;> rfl) (by decide) ?_
    refine lv_aload_n (pc := 68) hx hb dX6_isOneOf_68 rfl (lv_at hl 3 rfl) ?_
    refine lv_iload_n (pc := 69) hx hb dX6_isOneOf_69 rfl (lv_at hl 5 rfl) ?_
    obtain ⟨v7, σ8, hv, h⟩ := zb_some h
    refine xcallSi (pc := 70) (As := [.ref (o + x1), .int x3]) (rest := []) ⟨hx, hb, hml, hown, hts⟩ (c_X6_touchedBy l D c o g N hv) zT_X6_50 rfl zd_X6_touchedBy ⟨Nat.le_of_ble_eq_true rfl, Nat.le_of_ble_eq_true rfl⟩ hK hP hE hS hl.1 rfl (Nat.le_of_ble_eq_true rfl) ⟨Nat.zero_le _, Nat.zero_le _⟩ dX6_isOneOf_70 (fun H locs hP hS => ?_)
    obtain ⟨v9, σ10, hv, h⟩ := zb_some h
    refine xcallSi (pc := 73) (As := [.int v7]) (rest := []) ⟨hx, hb, hml, hown, hts⟩ (c_J6_bitCount_0f7a4 l D c o g N hv) zT_X6_38 rfl zd_J6_bitCount_0f7a4 ⟨Nat.le_of_ble_eq_true rfl, Nat.le_of_ble_eq_true rfl⟩ hK hP hE hS hl.1 rfl (Nat.le_of_ble_eq_true rfl) ⟨Nat.zero_le _, Nat.zero_le _⟩ dX6_isOneOf_73 (fun H locs hP hS => ?_)
    refine lv_iconst (pc := 76) (v := 2) hx hb dX6_isOneOf_76 (by decide) ?_
    refine lv_iload (pc := 77) hx hb dX6_isOneOf_77 (lv_at hl 0 rfl) ?_
    refine lv_imul (pc := 79) hx hb dX6_isOneOf_79 ?_
    refine lv_icmp_ne (pc := 80) (tgt := 87) hx hb dX6_isOneOf_80 (by decide) (fun c1 => ?_) (fun c1 => ?_)
    · rw [if_neg c1] at h
      refine lv_iconst (pc := 87) (v := 0) hx hb dX6_isOneOf_87 (by decide) ?_
      exact xretz (pc := 88) hx hb hr hlocks hP hK hE hS h dX6_isOneOf_88
    · rw [if_pos c1] at h
      refine lv_iconst (pc := 83) (v := 1) hx hb dX6_isOneOf_83 (by decide) ?_
      refine lv_goto (pc := 84) (tgt := 88) hx hb dX6_isOneOf_84 (by decide) ?_
      exact xretz (pc := 88) hx hb hr hlocks hP hK hE hS h dX6_isOneOf_88
  rw [if_neg w1_14] at h
  refine lv_lookup (pc := 14) (tgt := 89) hx hb dX6_isOneOf_14 (by decide) (xlk2 (lv_neT w0_14 (a := 0) rfl) (lv_neT w1_14 (a := 1) rfl)) (by decide) ?_
  refine lv_aload_n (pc := 89) hx hb dX6_isOneOf_89 rfl (lv_at hl 3 rfl) ?_
  refine lv_iload_n (pc := 90) hx hb dX6_isOneOf_90 rfl (lv_at hl 5 rfl) ?_
  obtain ⟨v11, σ12, hv, h⟩ := zb_some h
  refine xcallSi (pc := 91) (As := [.ref (o + x1), .int x3]) (rest := []) ⟨hx, hb, hml, hown, hts⟩ (c_X6_touchedBy l D c o g N hv) zT_X6_50 rfl zd_X6_touchedBy ⟨Nat.le_of_ble_eq_true rfl, Nat.le_of_ble_eq_true rfl⟩ hK hP hE hS hl.1 rfl (Nat.le_of_ble_eq_true rfl) ⟨Nat.zero_le _, Nat.zero_le _⟩ dX6_isOneOf_91 (fun H locs hP hS => ?_)
  refine lv_iload (pc := 94) hx hb dX6_isOneOf_94 (lv_at hl 6 rfl) ?_
  refine lv_icmp_ne (pc := 96) (tgt := 103) hx hb dX6_isOneOf_96 (by decide) (fun c1 => ?_) (fun c1 => ?_)
  · rw [if_neg c1] at h
    refine lv_iconst (pc := 103) (v := 0) hx hb dX6_isOneOf_103 (by decide) ?_
    exact xretz (pc := 104) hx hb hr hlocks hP hK hE hS h dX6_isOneOf_104
  · rw [if_pos c1] at h
    refine lv_iconst (pc := 99) (v := 1) hx hb dX6_isOneOf_99 (by decide) ?_
    refine lv_goto (pc := 100) (tgt := 104) hx hb dX6_isOneOf_100 (by decide) ?_
    exact xretz (pc := 104) hx hb hr hlocks hP hK hE hS h dX6_isOneOf_104
def F_X6_findSets_21 (N : Nat) (x0 : Nat) (x1 : Nat) (x2 : Int32) (x3 : Nat) (x4 : Int32) (again21 : (Int32 × zS) → Option (Unit × zS)) : Int32 × zS → Option (Unit × zS)
  | (x5, σ) =>
  zl (gI 10 2 x1 σ) fun v6 =>
  if ((1 : Int32) <<< (v6 &&& 31)) ≤ x5 then
    (some ((), σ))
  else
    (if 1024 ≤ x5 then
      (some ((), σ))
    else
      (zl (gC 6 x0) fun _ => zb (f_X6_isOneOf N x0 x1 x2 x5 x4 σ) fun v7 σ8 =>
      if v7 = 0 then
        (again21 (x5 + 1, σ8))
      else
        (zl (gC 2 x3) fun _ => zb (f_X2_include N x3 x5 σ8) fun v9 σ10 =>
        again21 (x5 + 1, σ10))))
def f_X6_findSets (N : Nat) (x0 : Nat) (x1 : Nat) (x2 : Int32) (x3 : Nat) (σ : zS) : Option (Unit × zS) :=
  zl (gC 2 x3) fun _ => zb (f_X2_clear N x3 σ) fun v1 σ2 =>
  zl (gI 10 2 x1 σ2) fun v3 =>
  zb (f_X6_touchedBy N x1 (((1 : Int32) <<< (v3 &&& 31)) - 1) σ2) fun v4 σ5 =>
  zlp (F_X6_findSets_21 N x0 x1 x2 x3 v4) N (0, σ5)
set_option maxHeartbeats 4000000 in
set_option maxRecDepth 100000 in
theorem c_X6_findSets (l : Launch) (D : va_G) (c : zC) (o : Nat) (g : zEp) (N : Nat) {x0 : Nat} {x1 : Nat} {x2 : Int32} {x3 : Nat} {σ : zS} {ρ : Unit × zS} (h : f_X6_findSets N x0 x1 x2 x3 σ = some ρ) : Met l yX6_findSets zs_X6_findSets (zr 8) (va_Pc [.ref (o + x0), .ref (o + x1), .int x2, .ref (o + x3)] (zG D c o g σ)) (zQu D c o g ρ) 0 0 (zA o) := by
  refine zMetG (by decide) (Nat.le_of_ble_eq_true rfl) ?_
  intro p e s m below meth cd ⟨hx, hb, hr, hml, hown, hts, hlocks⟩ hP hK hE ls hl
  have hS : va_S (zA o) s.heap s.heap [] := va_S.rf
  have hl : lv_has ls 6 [(0, .ref (o + x0)), (1, .ref (o + x1)), (2, .int x2), (3, .ref (o + x3))] := hl
  rw [f_X6_findSets.eq_1] at h
  refine lv_aload_n (pc := 0) hx hb dX6_findSets_0 rfl (lv_at hl 3 rfl) ?_
  obtain ⟨_, hg, h⟩ := zl_some h
  obtain ⟨v1, σ2, hv, h⟩ := zb_some h
  refine xcallVv (pc := 1) (As := []) (rest := []) ⟨hx, hb, hml, hown, hts⟩ (c_X2_clear l D c o g N hv) zc2 zV_X6_15 rfl zd_X2_clear ⟨Nat.le_of_ble_eq_true rfl, Nat.le_of_ble_eq_true rfl⟩ hK hP hE hS hg hl.1 rfl (Nat.le_of_ble_eq_true rfl) ⟨Nat.zero_le _, Nat.zero_le _⟩ dX6_findSets_1 (fun H locs hP hS => ?_)
  refine lv_aload_n (pc := 4) hx hb dX6_findSets_4 rfl (lv_at hl 1 rfl) ?_
  refine lv_iconst (pc := 5) (v := 1) hx hb dX6_findSets_5 (by decide) ?_
  refine lv_aload_n (pc := 6) hx hb dX6_findSets_6 rfl (lv_at hl 1 rfl) ?_
  obtain ⟨v3, hv, h⟩ := zl_some h
  refine xgI (pc := 7) (j := 2) zc10 hx hb hts hown hK hP hv rfl zf_X6_28 dX6_findSets_7 ?_
  refine lv_ishl (pc := 10) hx hb dX6_findSets_10 ?_
  refine lv_iconst (pc := 11) (v := 1) hx hb dX6_findSets_11 (by decide) ?_
  refine lv_isub (pc := 12) hx hb dX6_findSets_12 ?_
  obtain ⟨v4, σ5, hv, h⟩ := zb_some h
  refine xcallSi (pc := 13) (As := [.ref (o + x1), .int (((1 : Int32) <<< (v3 &&& 31)) - 1)]) (rest := []) ⟨hx, hb, hml, hown, hts⟩ (c_X6_touchedBy l D c o g N hv) zT_X6_50 rfl zd_X6_touchedBy ⟨Nat.le_of_ble_eq_true rfl, Nat.le_of_ble_eq_true rfl⟩ hK hP hE hS hl.1 rfl (Nat.le_of_ble_eq_true rfl) ⟨Nat.zero_le _, Nat.zero_le _⟩ dX6_findSets_13 (fun H locs hP hS => ?_)
  refine lv_istore (pc := 16) (lv' := [(4, .int v4), (0, .ref (o + x0)), (1, .ref (o + x1)), (2, .int x2), (3, .ref (o + x3))]) hx hb dX6_findSets_16 hl (by decide) rfl (fun ls hl => ?_)
  refine lv_iconst (pc := 18) (v := 0) hx hb dX6_findSets_18 (by decide) ?_
  refine lv_istore (pc := 19) (lv' := [(5, .int 0), (4, .int v4), (0, .ref (o + x0)), (1, .ref (o + x1)), (2, .int x2), (3, .ref (o + x3))]) hx hb dX6_findSets_19 hl (by decide) rfl (fun ls hl => ?_)
  have L21_6 : ∀ (n : Nat) (t : Int32 × zS), zlp (F_X6_findSets_21 N x0 x1 x2 x3 v4) n t = some ρ → ∀ (H : Heap) (locs : List Loc) (ls : Array Slot), zP D c o (zabs o (t.2)) H → va_S (zA o) s.heap H locs → lv_has ls 6 [(5, .int (t.1)), (0, .ref (o + x0)), (1, .ref (o + x1)), (2, .int x2), (3, .ref (o + x3)), (4, .int v4)] → W p l e (zr 8) s m (([.ref (o + x0), .ref (o + x1), .int x2, .ref (o + x3)] : List Value).toArray) below meth cd H locs 0 0 (MQ below (zQu D c o g ρ) (([.ref (o + x0), .ref (o + x1), .int x2, .ref (o + x3)] : List Value).toArray) s 0 0 (zA o)) (F0 m 21 ls []) := by
    refine zlp_ind (fun ag6 ih6 t h H locs ls hP hS hl => ?_)
    obtain ⟨x5_6, σ6⟩ := t
    have hP : zP D c o (zabs o σ6) H := hP
    have hl : lv_has ls 6 [(5, .int x5_6), (0, .ref (o + x0)), (1, .ref (o + x1)), (2, .int x2), (3, .ref (o + x3)), (4, .int v4)] := hl
    rw [F_X6_findSets_21.eq_1] at h
    show W p l e (zr 8) s m (([.ref (o + x0), .ref (o + x1), .int x2, .ref (o + x3)] : List Value).toArray) below meth cd H locs 0 0 (MQ below (zQu D c o g ρ) (([.ref (o + x0), .ref (o + x1), .int x2, .ref (o + x3)] : List Value).toArray) s 0 0 (zA o)) (F0 m 21 ls [])
    refine lv_iload (pc := 21) hx hb dX6_findSets_21 (lv_at hl 0 rfl) ?_
    refine lv_iconst (pc := 23) (v := 1) hx hb dX6_findSets_23 (by decide) ?_
    refine lv_aload_n (pc := 24) hx hb dX6_findSets_24 rfl (lv_at hl 2 rfl) ?_
    obtain ⟨v7, hv, h⟩ := zl_some h
    refine xgI (pc := 25) (j := 2) zc10 hx hb hts hown hK hP hv rfl zf_X6_28 dX6_findSets_25 ?_
    refine lv_ishl (pc := 28) hx hb dX6_findSets_28 ?_
    refine lv_icmp_ge (pc := 29) (tgt := 65) hx hb dX6_findSets_29 (by decide) (fun c1 => ?_) (fun c1 => ?_)
    · rw [if_pos c1] at h
      exact xretv (pc := 65) hx hb hr hlocks hP hK hE hS h dX6_findSets_65
    · rw [if_neg c1] at h
      refine lv_iload (pc := 32) hx hb dX6_findSets_32 (lv_at hl 0 rfl) ?_
      refine lv_sipush (pc := 34) (v := 1024) hx hb dX6_findSets_34 (by decide) ?_
      refine lv_icmp_ge (pc := 37) (tgt := 65) hx hb dX6_findSets_37 (by decide) (fun c1 => ?_) (fun c1 => ?_)
      · rw [if_pos c1] at h
        exact xretv (pc := 65) hx hb hr hlocks hP hK hE hS h dX6_findSets_65
      · rw [if_neg c1] at h
        refine lv_aload_n (pc := 40) hx hb dX6_findSets_40 rfl (lv_at hl 1 rfl) ?_
        refine lv_aload_n (pc := 41) hx hb dX6_findSets_41 rfl (lv_at hl 2 rfl) ?_
        refine lv_iload_n (pc := 42) hx hb dX6_findSets_42 rfl (lv_at hl 3 rfl) ?_
        refine lv_iload (pc := 43) hx hb dX6_findSets_43 (lv_at hl 0 rfl) ?_
        refine lv_iload (pc := 45) hx hb dX6_findSets_45 (lv_at hl 5 rfl) ?_
        obtain ⟨_, hg, h⟩ := zl_some h
        obtain ⟨v8, σ9, hv, h⟩ := zb_some h
        refine xcallVi (pc := 47) (As := [.ref (o + x1), .int x2, .int x5_6, .int v4]) (rest := []) ⟨hx, hb, hml, hown, hts⟩ (c_X6_isOneOf l D c o g N hv) zc6 zV_X6_54 rfl zd_X6_isOneOf ⟨Nat.le_of_ble_eq_true rfl, Nat.le_of_ble_eq_true rfl⟩ hK hP hE hS hg hl.1 rfl (Nat.le_of_ble_eq_true rfl) ⟨Nat.zero_le _, Nat.zero_le _⟩ dX6_findSets_47 (fun H locs hP hS => ?_)
        refine lv_if_eq (pc := 50) (tgt := 59) hx hb dX6_findSets_50 (by decide) (fun c1 => ?_) (fun c1 => ?_)
        · rw [if_pos c1] at h
          refine lv_iinc (pc := 59) (v := x5_6 + 1) (lv' := [(5, .int (x5_6 + 1)), (0, .ref (o + x0)), (1, .ref (o + x1)), (2, .int x2), (3, .ref (o + x3)), (4, .int v4)]) hx hb dX6_findSets_59 hl (k := 0) rfl rfl (by decide) rfl (fun ls hl => ?_)
          refine lv_goto (pc := 62) (tgt := 21) hx hb dX6_findSets_62 (by decide) ?_
          exact ih6 (x5_6 + 1, σ9) h _ _ ls hP hS (lv_sub hl [0, 1, 2, 3, 4, 5] rfl)
        · rw [if_neg c1] at h
          refine lv_aload_n (pc := 53) hx hb dX6_findSets_53 rfl (lv_at hl 4 rfl) ?_
          refine lv_iload (pc := 54) hx hb dX6_findSets_54 (lv_at hl 0 rfl) ?_
          obtain ⟨_, hg, h⟩ := zl_some h
          obtain ⟨v10, σ11, hv, h⟩ := zb_some h
          refine xcallVv (pc := 56) (As := [.int x5_6]) (rest := []) ⟨hx, hb, hml, hown, hts⟩ (c_X2_include l D c o g N hv) zc2 zV_X6_20 rfl zd_X2_include ⟨Nat.le_of_ble_eq_true rfl, Nat.le_of_ble_eq_true rfl⟩ hK hP hE hS hg hl.1 rfl (Nat.le_of_ble_eq_true rfl) ⟨Nat.zero_le _, Nat.zero_le _⟩ dX6_findSets_56 (fun H locs hP hS => ?_)
          refine lv_iinc (pc := 59) (v := x5_6 + 1) (lv' := [(5, .int (x5_6 + 1)), (0, .ref (o + x0)), (1, .ref (o + x1)), (2, .int x2), (3, .ref (o + x3)), (4, .int v4)]) hx hb dX6_findSets_59 hl (k := 0) rfl rfl (by decide) rfl (fun ls hl => ?_)
          refine lv_goto (pc := 62) (tgt := 21) hx hb dX6_findSets_62 (by decide) ?_
          exact ih6 (x5_6 + 1, σ11) h _ _ ls hP hS (lv_sub hl [0, 1, 2, 3, 4, 5] rfl)
  exact L21_6 N (0, σ5) h _ _ ls hP hS (lv_sub hl [0, 2, 3, 4, 5, 1] rfl)
def f_X7_isRegisterNumber (N : Nat) (x0 : Int32) (σ : zS) : Option (Int32 × zS) :=
  if x0 < 0 then
    (rZ 0 σ)
  else
    (if 10 ≤ x0 then
      (rZ 0 σ)
    else
      (rZ 1 σ))
set_option maxHeartbeats 4000000 in
set_option maxRecDepth 100000 in
theorem c_X7_isRegisterNumber (l : Launch) (D : va_G) (c : zC) (o : Nat) (g : zEp) (N : Nat) {x0 : Int32} {σ : zS} {ρ : Int32 × zS} (h : f_X7_isRegisterNumber N x0 σ = some ρ) : Met l yX7_isRegisterNumber zs_X7_isRegisterNumber (zr 2) (va_Pc [.int x0] (zG D c o g σ)) (zQi D c o g ρ) 0 0 (zA o) := by
  refine zMetG (by decide) (Nat.le_of_ble_eq_true rfl) ?_
  intro p e s m below meth cd ⟨hx, hb, hr, hml, hown, hts, hlocks⟩ hP hK hE ls hl
  have hS : va_S (zA o) s.heap s.heap [] := va_S.rf
  have hl : lv_has ls 1 [(0, .int x0)] := hl
  rw [f_X7_isRegisterNumber.eq_1] at h
  refine lv_iload_n (pc := 0) hx hb dX7_isRegisterNumber_0 rfl (lv_at hl 0 rfl) ?_
  refine lv_if_lt (pc := 1) (tgt := 14) hx hb dX7_isRegisterNumber_1 (by decide) (fun c1 => ?_) (fun c1 => ?_)
  · rw [if_pos c1] at h
    refine lv_iconst (pc := 14) (v := 0) hx hb dX7_isRegisterNumber_14 (by decide) ?_
    exact xretz (pc := 15) hx hb hr hlocks hP hK hE hS h dX7_isRegisterNumber_15
  · rw [if_neg c1] at h
    refine lv_iload_n (pc := 4) hx hb dX7_isRegisterNumber_4 rfl (lv_at hl 0 rfl) ?_
    refine lv_bipush (pc := 5) (v := 10) hx hb dX7_isRegisterNumber_5 (by decide) ?_
    refine lv_icmp_ge (pc := 7) (tgt := 14) hx hb dX7_isRegisterNumber_7 (by decide) (fun c1 => ?_) (fun c1 => ?_)
    · rw [if_pos c1] at h
      refine lv_iconst (pc := 14) (v := 0) hx hb dX7_isRegisterNumber_14 (by decide) ?_
      exact xretz (pc := 15) hx hb hr hlocks hP hK hE hS h dX7_isRegisterNumber_15
    · rw [if_neg c1] at h
      refine lv_iconst (pc := 10) (v := 1) hx hb dX7_isRegisterNumber_10 (by decide) ?_
      refine lv_goto (pc := 11) (tgt := 15) hx hb dX7_isRegisterNumber_11 (by decide) ?_
      exact xretz (pc := 15) hx hb hr hlocks hP hK hE hS h dX7_isRegisterNumber_15
def f_X7_top (N : Nat) (x0 : Nat) (x1 : Int32) (σ : zS) : Option (Nat × zS) :=
  zl (gI 7 1 x0 σ) fun v1 =>
  zl (gR 7 0 x0 σ) fun v2 =>
  zl (aR 17 v2 (zmax 0 (zmin 15 ((v1 - 1) - x1))) σ) fun v3 =>
  some (v3, σ)
set_option maxHeartbeats 4000000 in
set_option maxRecDepth 100000 in
theorem c_X7_top (l : Launch) (D : va_G) (c : zC) (o : Nat) (g : zEp) (N : Nat) {x0 : Nat} {x1 : Int32} {σ : zS} {ρ : Nat × zS} (h : f_X7_top N x0 x1 σ = some ρ) : Met l yX7_top zs_X7_top (zr 2) (va_Pc [.ref (o + x0), .int x1] (zG D c o g σ)) (zQr D c o g ρ) 0 0 (zA o) := by
  refine zMetG (by decide) (Nat.le_of_ble_eq_true rfl) ?_
  intro p e s m below meth cd ⟨hx, hb, hr, hml, hown, hts, hlocks⟩ hP hK hE ls hl
  have hS : va_S (zA o) s.heap s.heap [] := va_S.rf
  have hl : lv_has ls 3 [(0, .ref (o + x0)), (1, .int x1)] := hl
  rw [f_X7_top.eq_1] at h
  refine lv_iconst (pc := 0) (v := 0) hx hb dX7_top_0 (by decide) ?_
  refine lv_bipush (pc := 1) (v := 15) hx hb dX7_top_1 (by decide) ?_
  refine lv_aload_n (pc := 3) hx hb dX7_top_3 rfl (lv_at hl 0 rfl) ?_
  obtain ⟨v1, hv, h⟩ := zl_some h
  refine xgI (pc := 4) (j := 1) zc7 hx hb hts hown hK hP hv rfl zf_X7_17 dX7_top_4 ?_
  refine lv_iconst (pc := 7) (v := 1) hx hb dX7_top_7 (by decide) ?_
  refine lv_isub (pc := 8) hx hb dX7_top_8 ?_
  refine lv_iload_n (pc := 9) hx hb dX7_top_9 rfl (lv_at hl 1 rfl) ?_
  refine lv_isub (pc := 10) hx hb dX7_top_10 ?_
  refine xmin (pc := 11) (rest := [.int 0]) hx hb (hml.trans hl.1.symm) hown (hts _ zm_X7_88) (hts _ zst_J9_min_7cf53) (hts _ zn_J9) (hts _ (zq_J9_min_7cf53 _ List.mem_cons_self).1) (Nat.le_of_ble_eq_true rfl) (Nat.le_of_ble_eq_true rfl) (Nat.zero_le _) (Nat.zero_le _) dX7_top_11 ?_
  refine xmax (pc := 14) (rest := []) hx hb (hml.trans hl.1.symm) hown (hts _ zm_X7_78) (hts _ zst_J9_max_7cf53) (hts _ zn_J9) (hts _ (zq_J9_max_7cf53 _ List.mem_cons_self).1) (Nat.le_of_ble_eq_true rfl) (Nat.le_of_ble_eq_true rfl) (Nat.zero_le _) (Nat.zero_le _) dX7_top_14 ?_
  refine lv_istore_n (pc := 17) (lv' := [(2, .int (zmax 0 (zmin 15 ((v1 - 1) - x1)))), (0, .ref (o + x0)), (1, .int x1)]) hx hb dX7_top_17 rfl hl (by decide) rfl (fun ls hl => ?_)
  refine lv_aload_n (pc := 18) hx hb dX7_top_18 rfl (lv_at hl 1 rfl) ?_
  obtain ⟨v2, hv, h⟩ := zl_some h
  refine xgR (pc := 19) (j := 0) zc7 hx hb hts hown hK hP hv rfl zf_X7_13 dX7_top_19 ?_
  refine lv_iload_n (pc := 22) hx hb dX7_top_22 rfl (lv_at hl 0 rfl) ?_
  obtain ⟨v3, hv, h⟩ := zl_some h
  refine xaF (pc := 23) hx hb hK hP hv dX7_top_23 ?_
  exact xretr (pc := 24) hx hb hr hlocks hP hK hE hS h dX7_top_24
def f_X7_pushed (N : Nat) (x0 : Nat) (σ : zS) : Option (Nat × zS) :=
  zl (gI 7 1 x0 σ) fun v1 =>
  zl (pI 7 1 x0 (zmin 16 (v1 + 1)) σ) fun σ2 =>
  zl (gC 7 x0) fun _ => zb (f_X7_top N x0 0 σ2) fun v3 σ4 =>
  some (v3, σ4)
set_option maxHeartbeats 4000000 in
set_option maxRecDepth 100000 in
theorem c_X7_pushed (l : Launch) (D : va_G) (c : zC) (o : Nat) (g : zEp) (N : Nat) {x0 : Nat} {σ : zS} {ρ : Nat × zS} (h : f_X7_pushed N x0 σ = some ρ) : Met l yX7_pushed zs_X7_pushed (zr 4) (va_Pc [.ref (o + x0)] (zG D c o g σ)) (zQr D c o g ρ) 0 0 (zA o) := by
  refine zMetG (by decide) (Nat.le_of_ble_eq_true rfl) ?_
  intro p e s m below meth cd ⟨hx, hb, hr, hml, hown, hts, hlocks⟩ hP hK hE ls hl
  have hS : va_S (zA o) s.heap s.heap [] := va_S.rf
  have hl : lv_has ls 1 [(0, .ref (o + x0))] := hl
  rw [f_X7_pushed.eq_1] at h
  refine lv_aload_n (pc := 0) hx hb dX7_pushed_0 rfl (lv_at hl 0 rfl) ?_
  refine lv_bipush (pc := 1) (v := 16) hx hb dX7_pushed_1 (by decide) ?_
  refine lv_aload_n (pc := 3) hx hb dX7_pushed_3 rfl (lv_at hl 0 rfl) ?_
  obtain ⟨v1, hv, h⟩ := zl_some h
  refine xgI (pc := 4) (j := 1) zc7 hx hb hts hown hK hP hv rfl zf_X7_17 dX7_pushed_4 ?_
  refine lv_iconst (pc := 7) (v := 1) hx hb dX7_pushed_7 (by decide) ?_
  refine lv_iadd (pc := 8) hx hb dX7_pushed_8 ?_
  refine xmin (pc := 9) (rest := [.ref (o + x0)]) hx hb (hml.trans hl.1.symm) hown (hts _ zm_X7_88) (hts _ zst_J9_min_7cf53) (hts _ zn_J9) (hts _ (zq_J9_min_7cf53 _ List.mem_cons_self).1) (Nat.le_of_ble_eq_true rfl) (Nat.le_of_ble_eq_true rfl) (Nat.zero_le _) (Nat.zero_le _) dX7_pushed_9 ?_
  obtain ⟨σ2, hv, h⟩ := zl_some h
  refine xpI (pc := 12) (j := 1) zc7 hx hb hts hown hK hP hS hv rfl rfl rfl zf_X7_17 dX7_pushed_12 (fun H locs hP hS => ?_)
  refine lv_aload_n (pc := 15) hx hb dX7_pushed_15 rfl (lv_at hl 0 rfl) ?_
  refine lv_iconst (pc := 16) (v := 0) hx hb dX7_pushed_16 (by decide) ?_
  obtain ⟨_, hg, h⟩ := zl_some h
  obtain ⟨v3, σ4, hv, h⟩ := zb_some h
  refine xcallVr (pc := 17) (As := [.int 0]) (rest := []) ⟨hx, hb, hml, hown, hts⟩ (c_X7_top l D c o g N hv) zc7 zV_X7_65 rfl zd_X7_top ⟨Nat.le_of_ble_eq_true rfl, Nat.le_of_ble_eq_true rfl⟩ hK hP hE hS hg hl.1 rfl (Nat.le_of_ble_eq_true rfl) ⟨Nat.zero_le _, Nat.zero_le _⟩ dX7_pushed_17 (fun H locs hP hS => ?_)
  exact xretr (pc := 20) hx hb hr hlocks hP hK hE hS h dX7_pushed_20
def f_X7_doStep (N : Nat) (x0 : Nat) (x1 : Int32) (x2 : Int32) (x3 : Nat) (x4 : Nat) (σ : zS) : Option (Unit × zS) :=
  if x1 = 0 then
    (zb (f_X7_isRegisterNumber N x2 σ) fun v1 σ2 =>
    if v1 = 0 then
      (some ((), σ2))
    else
      (zl (gC 7 x0) fun _ => zb (f_X7_pushed N x0 σ2) fun v3 σ4 =>
      zl (gR 10 7 x3 σ4) fun v5 =>
      zl (aR 17 v5 x2 σ4) fun v6 =>
      zl (gC 2 v3) fun _ => zb (f_X2_copyFrom N v3 v6 σ4) fun v7 σ8 =>
      some ((), σ8)))
  else if x1 = 1 then
    (zl (gC 7 x0) fun _ => zb (f_X7_pushed N x0 σ) fun v9 σ10 =>
    zl (gC 2 v9) fun _ => zb (f_X2_clear N v9 σ10) fun v11 σ12 =>
    some ((), σ12))
  else if x1 = 2 then
    (zl (gC 7 x0) fun _ => zb (f_X7_pushed N x0 σ) fun v13 σ14 =>
    zl (gI 10 0 x3 σ14) fun v15 =>
    zl (gC 2 v13) fun _ => zb (f_X2_becomeAll N v13 v15 σ14) fun v16 σ17 =>
    some ((), σ17))
  else if x1 = 3 then
    (zl (gC 7 x0) fun _ => zb (f_X7_top N x0 0 σ) fun v18 σ19 =>
    zl (gC 2 v18) fun _ => zb (f_X2_include N v18 x2 σ19) fun v20 σ21 =>
    some ((), σ21))
  else if x1 = 4 then
    (zl (gC 7 x0) fun _ => zb (f_X7_top N x0 1 σ) fun v22 σ23 =>
    zl (gC 7 x0) fun _ => zb (f_X7_top N x0 0 σ23) fun v24 σ25 =>
    zl (gI 10 0 x3 σ25) fun v26 =>
    zl (gC 0 x4) fun _ => zb (f_X0_combine N x4 x2 v22 v24 v26 σ25) fun v27 σ28 =>
    zl (gI 7 1 x0 σ28) fun v29 =>
    zl (pI 7 1 x0 (zmax 0 (v29 - 1)) σ28) fun σ30 =>
    some ((), σ30))
  else if x1 = 5 then
    (zl (gC 7 x0) fun _ => zb (f_X7_top N x0 0 σ) fun v31 σ32 =>
    zl (gI 10 0 x3 σ32) fun v33 =>
    zl (gC 0 x4) fun _ => zb (f_X0_reshape N x4 x2 v31 v33 σ32) fun v34 σ35 =>
    some ((), σ35))
  else (zb (f_X7_isRegisterNumber N x2 σ) fun v36 σ37 =>
    if v36 = 0 then
      (zl (pI 7 1 x0 0 σ37) fun σ38 =>
      some ((), σ38))
    else
      (zl (gR 10 7 x3 σ37) fun v39 =>
      zl (aR 17 v39 x2 σ37) fun v40 =>
      zl (gC 7 x0) fun _ => zb (f_X7_top N x0 0 σ37) fun v41 σ42 =>
      zl (gC 2 v40) fun _ => zb (f_X2_copyFrom N v40 v41 σ42) fun v43 σ44 =>
      zl (pI 7 1 x0 0 σ44) fun σ45 =>
      some ((), σ45)))
set_option maxHeartbeats 4000000 in
set_option maxRecDepth 100000 in
theorem c_X7_doStep (l : Launch) (D : va_G) (c : zC) (o : Nat) (g : zEp) (N : Nat) {x0 : Nat} {x1 : Int32} {x2 : Int32} {x3 : Nat} {x4 : Nat} {σ : zS} {ρ : Unit × zS} (h : f_X7_doStep N x0 x1 x2 x3 x4 σ = some ρ) : Met l yX7_doStep zs_X7_doStep (zr 14) (va_Pc [.ref (o + x0), .int x1, .int x2, .ref (o + x3), .ref (o + x4)] (zG D c o g σ)) (zQu D c o g ρ) 0 0 (zA o) := by
  refine zMetG (by decide) (Nat.le_of_ble_eq_true rfl) ?_
  intro p e s m below meth cd ⟨hx, hb, hr, hml, hown, hts, hlocks⟩ hP hK hE ls hl
  have hS : va_S (zA o) s.heap s.heap [] := va_S.rf
  have hl : lv_has ls 5 [(0, .ref (o + x0)), (1, .int x1), (2, .int x2), (3, .ref (o + x3)), (4, .ref (o + x4))] := hl
  rw [f_X7_doStep.eq_1] at h
  refine lv_iload_n (pc := 0) hx hb dX7_doStep_0 rfl (lv_at hl 1 rfl) ?_
  by_cases w0_1 : x1 = 0
  · rw [if_pos w0_1] at h
    refine lv_tableIn (pc := 1) (tgt := 40) hx hb dX7_doStep_1 (by rw [w0_1]; decide) (by rw [w0_1]; decide) (by rw [w0_1]; rfl) (by decide) ?_
    refine lv_iload_n (pc := 40) hx hb dX7_doStep_40 rfl (lv_at hl 2 rfl) ?_
    obtain ⟨v1, σ2, hv, h⟩ := zb_some h
    refine xcallSi (pc := 41) (As := [.int x2]) (rest := []) ⟨hx, hb, hml, hown, hts⟩ (c_X7_isRegisterNumber l D c o g N hv) zT_X7_38 rfl zd_X7_isRegisterNumber ⟨Nat.le_of_ble_eq_true rfl, Nat.le_of_ble_eq_true rfl⟩ hK hP hE hS hl.1 rfl (Nat.le_of_ble_eq_true rfl) ⟨Nat.zero_le _, Nat.zero_le _⟩ dX7_doStep_41 (fun H locs hP hS => ?_)
    refine lv_if_eq (pc := 44) (tgt := 180) hx hb dX7_doStep_44 (by decide) (fun c1 => ?_) (fun c1 => ?_)
    · rw [if_pos c1] at h
      exact xretv (pc := 180) hx hb hr hlocks hP hK hE hS h dX7_doStep_180
    · rw [if_neg c1] at h
      refine lv_aload_n (pc := 47) hx hb dX7_doStep_47 rfl (lv_at hl 0 rfl) ?_
      obtain ⟨_, hg, h⟩ := zl_some h
      obtain ⟨v3, σ4, hv, h⟩ := zb_some h
      refine xcallVr (pc := 48) (As := []) (rest := []) ⟨hx, hb, hml, hown, hts⟩ (c_X7_pushed l D c o g N hv) zc7 zV_X7_42 rfl zd_X7_pushed ⟨Nat.le_of_ble_eq_true rfl, Nat.le_of_ble_eq_true rfl⟩ hK hP hE hS hg hl.1 rfl (Nat.le_of_ble_eq_true rfl) ⟨Nat.zero_le _, Nat.zero_le _⟩ dX7_doStep_48 (fun H locs hP hS => ?_)
      refine lv_aload_n (pc := 51) hx hb dX7_doStep_51 rfl (lv_at hl 3 rfl) ?_
      obtain ⟨v5, hv, h⟩ := zl_some h
      refine xgR (pc := 52) (j := 7) zc10 hx hb hts hown hK hP hv rfl zf_X7_46 dX7_doStep_52 ?_
      refine lv_iload_n (pc := 55) hx hb dX7_doStep_55 rfl (lv_at hl 2 rfl) ?_
      obtain ⟨v6, hv, h⟩ := zl_some h
      refine xaF (pc := 56) hx hb hK hP hv dX7_doStep_56 ?_
      obtain ⟨_, hg, h⟩ := zl_some h
      obtain ⟨v7, σ8, hv, h⟩ := zb_some h
      refine xcallVv (pc := 57) (As := [.ref (o + v6)]) (rest := []) ⟨hx, hb, hml, hown, hts⟩ (c_X2_copyFrom l D c o g N hv) zc2 zV_X7_51 rfl zd_X2_copyFrom ⟨Nat.le_of_ble_eq_true rfl, Nat.le_of_ble_eq_true rfl⟩ hK hP hE hS hg hl.1 rfl (Nat.le_of_ble_eq_true rfl) ⟨Nat.zero_le _, Nat.zero_le _⟩ dX7_doStep_57 (fun H locs hP hS => ?_)
      refine lv_goto (pc := 60) (tgt := 180) hx hb dX7_doStep_60 (by decide) ?_
      exact xretv (pc := 180) hx hb hr hlocks hP hK hE hS h dX7_doStep_180
  rw [if_neg w0_1] at h
  by_cases w1_1 : x1 = 1
  · rw [if_pos w1_1] at h
    refine lv_tableIn (pc := 1) (tgt := 63) hx hb dX7_doStep_1 (by rw [w1_1]; decide) (by rw [w1_1]; decide) (by rw [w1_1]; rfl) (by decide) ?_
    refine lv_aload_n (pc := 63) hx hb dX7_doStep_63 rfl (lv_at hl 0 rfl) ?_
    obtain ⟨_, hg, h⟩ := zl_some h
    obtain ⟨v9, σ10, hv, h⟩ := zb_some h
    refine xcallVr (pc := 64) (As := []) (rest := []) ⟨hx, hb, hml, hown, hts⟩ (c_X7_pushed l D c o g N hv) zc7 zV_X7_42 rfl zd_X7_pushed ⟨Nat.le_of_ble_eq_true rfl, Nat.le_of_ble_eq_true rfl⟩ hK hP hE hS hg hl.1 rfl (Nat.le_of_ble_eq_true rfl) ⟨Nat.zero_le _, Nat.zero_le _⟩ dX7_doStep_64 (fun H locs hP hS => ?_)
    obtain ⟨_, hg, h⟩ := zl_some h
    obtain ⟨v11, σ12, hv, h⟩ := zb_some h
    refine xcallVv (pc := 67) (As := []) (rest := []) ⟨hx, hb, hml, hown, hts⟩ (c_X2_clear l D c o g N hv) zc2 zV_X7_55 rfl zd_X2_clear ⟨Nat.le_of_ble_eq_true rfl, Nat.le_of_ble_eq_true rfl⟩ hK hP hE hS hg hl.1 rfl (Nat.le_of_ble_eq_true rfl) ⟨Nat.zero_le _, Nat.zero_le _⟩ dX7_doStep_67 (fun H locs hP hS => ?_)
    refine lv_goto (pc := 70) (tgt := 180) hx hb dX7_doStep_70 (by decide) ?_
    exact xretv (pc := 180) hx hb hr hlocks hP hK hE hS h dX7_doStep_180
  rw [if_neg w1_1] at h
  by_cases w2_1 : x1 = 2
  · rw [if_pos w2_1] at h
    refine lv_tableIn (pc := 1) (tgt := 73) hx hb dX7_doStep_1 (by rw [w2_1]; decide) (by rw [w2_1]; decide) (by rw [w2_1]; rfl) (by decide) ?_
    refine lv_aload_n (pc := 73) hx hb dX7_doStep_73 rfl (lv_at hl 0 rfl) ?_
    obtain ⟨_, hg, h⟩ := zl_some h
    obtain ⟨v13, σ14, hv, h⟩ := zb_some h
    refine xcallVr (pc := 74) (As := []) (rest := []) ⟨hx, hb, hml, hown, hts⟩ (c_X7_pushed l D c o g N hv) zc7 zV_X7_42 rfl zd_X7_pushed ⟨Nat.le_of_ble_eq_true rfl, Nat.le_of_ble_eq_true rfl⟩ hK hP hE hS hg hl.1 rfl (Nat.le_of_ble_eq_true rfl) ⟨Nat.zero_le _, Nat.zero_le _⟩ dX7_doStep_74 (fun H locs hP hS => ?_)
    refine lv_aload_n (pc := 77) hx hb dX7_doStep_77 rfl (lv_at hl 3 rfl) ?_
    obtain ⟨v15, hv, h⟩ := zl_some h
    refine xgI (pc := 78) (j := 0) zc10 hx hb hts hown hK hP hv rfl zf_X7_58 dX7_doStep_78 ?_
    obtain ⟨_, hg, h⟩ := zl_some h
    obtain ⟨v16, σ17, hv, h⟩ := zb_some h
    refine xcallVv (pc := 81) (As := [.int v15]) (rest := []) ⟨hx, hb, hml, hown, hts⟩ (c_X2_becomeAll l D c o g N hv) zc2 zV_X7_61 rfl zd_X2_becomeAll ⟨Nat.le_of_ble_eq_true rfl, Nat.le_of_ble_eq_true rfl⟩ hK hP hE hS hg hl.1 rfl (Nat.le_of_ble_eq_true rfl) ⟨Nat.zero_le _, Nat.zero_le _⟩ dX7_doStep_81 (fun H locs hP hS => ?_)
    refine lv_goto (pc := 84) (tgt := 180) hx hb dX7_doStep_84 (by decide) ?_
    exact xretv (pc := 180) hx hb hr hlocks hP hK hE hS h dX7_doStep_180
  rw [if_neg w2_1] at h
  by_cases w3_1 : x1 = 3
  · rw [if_pos w3_1] at h
    refine lv_tableIn (pc := 1) (tgt := 87) hx hb dX7_doStep_1 (by rw [w3_1]; decide) (by rw [w3_1]; decide) (by rw [w3_1]; rfl) (by decide) ?_
    refine lv_aload_n (pc := 87) hx hb dX7_doStep_87 rfl (lv_at hl 0 rfl) ?_
    refine lv_iconst (pc := 88) (v := 0) hx hb dX7_doStep_88 (by decide) ?_
    obtain ⟨_, hg, h⟩ := zl_some h
    obtain ⟨v18, σ19, hv, h⟩ := zb_some h
    refine xcallVr (pc := 89) (As := [.int 0]) (rest := []) ⟨hx, hb, hml, hown, hts⟩ (c_X7_top l D c o g N hv) zc7 zV_X7_65 rfl zd_X7_top ⟨Nat.le_of_ble_eq_true rfl, Nat.le_of_ble_eq_true rfl⟩ hK hP hE hS hg hl.1 rfl (Nat.le_of_ble_eq_true rfl) ⟨Nat.zero_le _, Nat.zero_le _⟩ dX7_doStep_89 (fun H locs hP hS => ?_)
    refine lv_iload_n (pc := 92) hx hb dX7_doStep_92 rfl (lv_at hl 2 rfl) ?_
    obtain ⟨_, hg, h⟩ := zl_some h
    obtain ⟨v20, σ21, hv, h⟩ := zb_some h
    refine xcallVv (pc := 93) (As := [.int x2]) (rest := []) ⟨hx, hb, hml, hown, hts⟩ (c_X2_include l D c o g N hv) zc2 zV_X7_69 rfl zd_X2_include ⟨Nat.le_of_ble_eq_true rfl, Nat.le_of_ble_eq_true rfl⟩ hK hP hE hS hg hl.1 rfl (Nat.le_of_ble_eq_true rfl) ⟨Nat.zero_le _, Nat.zero_le _⟩ dX7_doStep_93 (fun H locs hP hS => ?_)
    refine lv_goto (pc := 96) (tgt := 180) hx hb dX7_doStep_96 (by decide) ?_
    exact xretv (pc := 180) hx hb hr hlocks hP hK hE hS h dX7_doStep_180
  rw [if_neg w3_1] at h
  by_cases w4_1 : x1 = 4
  · rw [if_pos w4_1] at h
    refine lv_tableIn (pc := 1) (tgt := 99) hx hb dX7_doStep_1 (by rw [w4_1]; decide) (by rw [w4_1]; decide) (by rw [w4_1]; rfl) (by decide) ?_
    refine lv_aload (pc := 99) hx hb dX7_doStep_99 (lv_at hl 4 rfl) ?_
    refine lv_iload_n (pc := 101) hx hb dX7_doStep_101 rfl (lv_at hl 2 rfl) ?_
    refine lv_aload_n (pc := 102) hx hb dX7_doStep_102 rfl (lv_at hl 0 rfl) ?_
    refine lv_iconst (pc := 103) (v := 1) hx hb dX7_doStep_103 (by decide) ?_
    obtain ⟨_, hg, h⟩ := zl_some h
    obtain ⟨v22, σ23, hv, h⟩ := zb_some h
    refine xcallVr (pc := 104) (As := [.int 1]) (rest := [.int x2, .ref (o + x4)]) ⟨hx, hb, hml, hown, hts⟩ (c_X7_top l D c o g N hv) zc7 zV_X7_65 rfl zd_X7_top ⟨Nat.le_of_ble_eq_true rfl, Nat.le_of_ble_eq_true rfl⟩ hK hP hE hS hg hl.1 rfl (Nat.le_of_ble_eq_true rfl) ⟨Nat.zero_le _, Nat.zero_le _⟩ dX7_doStep_104 (fun H locs hP hS => ?_)
    refine lv_aload_n (pc := 107) hx hb dX7_doStep_107 rfl (lv_at hl 0 rfl) ?_
    refine lv_iconst (pc := 108) (v := 0) hx hb dX7_doStep_108 (by decide) ?_
    obtain ⟨_, hg, h⟩ := zl_some h
    obtain ⟨v24, σ25, hv, h⟩ := zb_some h
    refine xcallVr (pc := 109) (As := [.int 0]) (rest := [.ref (o + v22), .int x2, .ref (o + x4)]) ⟨hx, hb, hml, hown, hts⟩ (c_X7_top l D c o g N hv) zc7 zV_X7_65 rfl zd_X7_top ⟨Nat.le_of_ble_eq_true rfl, Nat.le_of_ble_eq_true rfl⟩ hK hP hE hS hg hl.1 rfl (Nat.le_of_ble_eq_true rfl) ⟨Nat.zero_le _, Nat.zero_le _⟩ dX7_doStep_109 (fun H locs hP hS => ?_)
    refine lv_aload_n (pc := 112) hx hb dX7_doStep_112 rfl (lv_at hl 3 rfl) ?_
    obtain ⟨v26, hv, h⟩ := zl_some h
    refine xgI (pc := 113) (j := 0) zc10 hx hb hts hown hK hP hv rfl zf_X7_58 dX7_doStep_113 ?_
    obtain ⟨_, hg, h⟩ := zl_some h
    obtain ⟨v27, σ28, hv, h⟩ := zb_some h
    refine xcallVv (pc := 116) (As := [.int x2, .ref (o + v22), .ref (o + v24), .int v26]) (rest := []) ⟨hx, hb, hml, hown, hts⟩ (c_X0_combine l D c o g N hv) zc0 zV_X7_72 rfl zd_X0_combine ⟨Nat.le_of_ble_eq_true rfl, Nat.le_of_ble_eq_true rfl⟩ hK hP hE hS hg hl.1 rfl (Nat.le_of_ble_eq_true rfl) ⟨Nat.zero_le _, Nat.zero_le _⟩ dX7_doStep_116 (fun H locs hP hS => ?_)
    refine lv_aload_n (pc := 119) hx hb dX7_doStep_119 rfl (lv_at hl 0 rfl) ?_
    refine lv_iconst (pc := 120) (v := 0) hx hb dX7_doStep_120 (by decide) ?_
    refine lv_aload_n (pc := 121) hx hb dX7_doStep_121 rfl (lv_at hl 0 rfl) ?_
    obtain ⟨v29, hv, h⟩ := zl_some h
    refine xgI (pc := 122) (j := 1) zc7 hx hb hts hown hK hP hv rfl zf_X7_17 dX7_doStep_122 ?_
    refine lv_iconst (pc := 125) (v := 1) hx hb dX7_doStep_125 (by decide) ?_
    refine lv_isub (pc := 126) hx hb dX7_doStep_126 ?_
    refine xmax (pc := 127) (rest := [.ref (o + x0)]) hx hb (hml.trans hl.1.symm) hown (hts _ zm_X7_78) (hts _ zst_J9_max_7cf53) (hts _ zn_J9) (hts _ (zq_J9_max_7cf53 _ List.mem_cons_self).1) (Nat.le_of_ble_eq_true rfl) (Nat.le_of_ble_eq_true rfl) (Nat.zero_le _) (Nat.zero_le _) dX7_doStep_127 ?_
    obtain ⟨σ30, hv, h⟩ := zl_some h
    refine xpI (pc := 130) (j := 1) zc7 hx hb hts hown hK hP hS hv rfl rfl rfl zf_X7_17 dX7_doStep_130 (fun H locs hP hS => ?_)
    refine lv_goto (pc := 133) (tgt := 180) hx hb dX7_doStep_133 (by decide) ?_
    exact xretv (pc := 180) hx hb hr hlocks hP hK hE hS h dX7_doStep_180
  rw [if_neg w4_1] at h
  by_cases w5_1 : x1 = 5
  · rw [if_pos w5_1] at h
    refine lv_tableIn (pc := 1) (tgt := 136) hx hb dX7_doStep_1 (by rw [w5_1]; decide) (by rw [w5_1]; decide) (by rw [w5_1]; rfl) (by decide) ?_
    refine lv_aload (pc := 136) hx hb dX7_doStep_136 (lv_at hl 4 rfl) ?_
    refine lv_iload_n (pc := 138) hx hb dX7_doStep_138 rfl (lv_at hl 2 rfl) ?_
    refine lv_aload_n (pc := 139) hx hb dX7_doStep_139 rfl (lv_at hl 0 rfl) ?_
    refine lv_iconst (pc := 140) (v := 0) hx hb dX7_doStep_140 (by decide) ?_
    obtain ⟨_, hg, h⟩ := zl_some h
    obtain ⟨v31, σ32, hv, h⟩ := zb_some h
    refine xcallVr (pc := 141) (As := [.int 0]) (rest := [.int x2, .ref (o + x4)]) ⟨hx, hb, hml, hown, hts⟩ (c_X7_top l D c o g N hv) zc7 zV_X7_65 rfl zd_X7_top ⟨Nat.le_of_ble_eq_true rfl, Nat.le_of_ble_eq_true rfl⟩ hK hP hE hS hg hl.1 rfl (Nat.le_of_ble_eq_true rfl) ⟨Nat.zero_le _, Nat.zero_le _⟩ dX7_doStep_141 (fun H locs hP hS => ?_)
    refine lv_aload_n (pc := 144) hx hb dX7_doStep_144 rfl (lv_at hl 3 rfl) ?_
    obtain ⟨v33, hv, h⟩ := zl_some h
    refine xgI (pc := 145) (j := 0) zc10 hx hb hts hown hK hP hv rfl zf_X7_58 dX7_doStep_145 ?_
    obtain ⟨_, hg, h⟩ := zl_some h
    obtain ⟨v34, σ35, hv, h⟩ := zb_some h
    refine xcallVv (pc := 148) (As := [.int x2, .ref (o + v31), .int v33]) (rest := []) ⟨hx, hb, hml, hown, hts⟩ (c_X0_reshape l D c o g N hv) zc0 zV_X7_84 rfl zd_X0_reshape ⟨Nat.le_of_ble_eq_true rfl, Nat.le_of_ble_eq_true rfl⟩ hK hP hE hS hg hl.1 rfl (Nat.le_of_ble_eq_true rfl) ⟨Nat.zero_le _, Nat.zero_le _⟩ dX7_doStep_148 (fun H locs hP hS => ?_)
    refine lv_goto (pc := 151) (tgt := 180) hx hb dX7_doStep_151 (by decide) ?_
    exact xretv (pc := 180) hx hb hr hlocks hP hK hE hS h dX7_doStep_180
  rw [if_neg w5_1] at h
  have wo_1 : x1.toInt < 0 ∨ 5 < x1.toInt := by
    have q0 := lv_neT w0_1 (a := 0) rfl; have q1 := lv_neT w1_1 (a := 1) rfl; have q2 := lv_neT w2_1 (a := 2) rfl; have q3 := lv_neT w3_1 (a := 3) rfl; have q4 := lv_neT w4_1 (a := 4) rfl; have q5 := lv_neT w5_1 (a := 5) rfl
    omega
  refine lv_tableOut (pc := 1) (tgt := 154) hx hb dX7_doStep_1 wo_1 (by decide) ?_
  refine lv_iload_n (pc := 154) hx hb dX7_doStep_154 rfl (lv_at hl 2 rfl) ?_
  obtain ⟨v36, σ37, hv, h⟩ := zb_some h
  refine xcallSi (pc := 155) (As := [.int x2]) (rest := []) ⟨hx, hb, hml, hown, hts⟩ (c_X7_isRegisterNumber l D c o g N hv) zT_X7_38 rfl zd_X7_isRegisterNumber ⟨Nat.le_of_ble_eq_true rfl, Nat.le_of_ble_eq_true rfl⟩ hK hP hE hS hl.1 rfl (Nat.le_of_ble_eq_true rfl) ⟨Nat.zero_le _, Nat.zero_le _⟩ dX7_doStep_155 (fun H locs hP hS => ?_)
  refine lv_if_eq (pc := 158) (tgt := 175) hx hb dX7_doStep_158 (by decide) (fun c1 => ?_) (fun c1 => ?_)
  · rw [if_pos c1] at h
    refine lv_aload_n (pc := 175) hx hb dX7_doStep_175 rfl (lv_at hl 0 rfl) ?_
    refine lv_iconst (pc := 176) (v := 0) hx hb dX7_doStep_176 (by decide) ?_
    obtain ⟨σ38, hv, h⟩ := zl_some h
    refine xpI (pc := 177) (j := 1) zc7 hx hb hts hown hK hP hS hv rfl rfl rfl zf_X7_17 dX7_doStep_177 (fun H locs hP hS => ?_)
    exact xretv (pc := 180) hx hb hr hlocks hP hK hE hS h dX7_doStep_180
  · rw [if_neg c1] at h
    refine lv_aload_n (pc := 161) hx hb dX7_doStep_161 rfl (lv_at hl 3 rfl) ?_
    obtain ⟨v39, hv, h⟩ := zl_some h
    refine xgR (pc := 162) (j := 7) zc10 hx hb hts hown hK hP hv rfl zf_X7_46 dX7_doStep_162 ?_
    refine lv_iload_n (pc := 165) hx hb dX7_doStep_165 rfl (lv_at hl 2 rfl) ?_
    obtain ⟨v40, hv, h⟩ := zl_some h
    refine xaF (pc := 166) hx hb hK hP hv dX7_doStep_166 ?_
    refine lv_aload_n (pc := 167) hx hb dX7_doStep_167 rfl (lv_at hl 0 rfl) ?_
    refine lv_iconst (pc := 168) (v := 0) hx hb dX7_doStep_168 (by decide) ?_
    obtain ⟨_, hg, h⟩ := zl_some h
    obtain ⟨v41, σ42, hv, h⟩ := zb_some h
    refine xcallVr (pc := 169) (As := [.int 0]) (rest := [.ref (o + v40)]) ⟨hx, hb, hml, hown, hts⟩ (c_X7_top l D c o g N hv) zc7 zV_X7_65 rfl zd_X7_top ⟨Nat.le_of_ble_eq_true rfl, Nat.le_of_ble_eq_true rfl⟩ hK hP hE hS hg hl.1 rfl (Nat.le_of_ble_eq_true rfl) ⟨Nat.zero_le _, Nat.zero_le _⟩ dX7_doStep_169 (fun H locs hP hS => ?_)
    obtain ⟨_, hg, h⟩ := zl_some h
    obtain ⟨v43, σ44, hv, h⟩ := zb_some h
    refine xcallVv (pc := 172) (As := [.ref (o + v41)]) (rest := []) ⟨hx, hb, hml, hown, hts⟩ (c_X2_copyFrom l D c o g N hv) zc2 zV_X7_51 rfl zd_X2_copyFrom ⟨Nat.le_of_ble_eq_true rfl, Nat.le_of_ble_eq_true rfl⟩ hK hP hE hS hg hl.1 rfl (Nat.le_of_ble_eq_true rfl) ⟨Nat.zero_le _, Nat.zero_le _⟩ dX7_doStep_172 (fun H locs hP hS => ?_)
    refine lv_aload_n (pc := 175) hx hb dX7_doStep_175 rfl (lv_at hl 0 rfl) ?_
    refine lv_iconst (pc := 176) (v := 0) hx hb dX7_doStep_176 (by decide) ?_
    obtain ⟨σ45, hv, h⟩ := zl_some h
    refine xpI (pc := 177) (j := 1) zc7 hx hb hts hown hK hP hS hv rfl rfl rfl zf_X7_17 dX7_doStep_177 (fun H locs hP hS => ?_)
    exact xretv (pc := 180) hx hb hr hlocks hP hK hE hS h dX7_doStep_180
def F_X7_run_8 (N : Nat) (x0 : Nat) (x1 : Nat) (x2 : Nat) (x3 : Nat) (again8 : (Int32 × zS) → Option (Unit × zS)) : Int32 × zS → Option (Unit × zS)
  | (x4, σ) =>
  zl (gI 5 2 x1 σ) fun v2 =>
  if v2 ≤ x4 then
    (some ((), σ))
  else
    (zl (gR 5 3 x1 σ) fun v3 =>
    zl (aL 14 v3) fun v4 =>
    if v4 ≤ x4 then
      (some ((), σ))
    else
      (zl (gR 5 3 x1 σ) fun v5 =>
      zl (aI 14 v5 x4 σ) fun v6 =>
      zl (gR 5 4 x1 σ) fun v7 =>
      zl (aI 14 v7 x4 σ) fun v8 =>
      zl (gC 7 x0) fun _ => zb (f_X7_doStep N x0 v6 v8 x2 x3 σ) fun v9 σ10 =>
      again8 (x4 + 1, σ10)))
def f_X7_run (N : Nat) (x0 : Nat) (x1 : Nat) (x2 : Nat) (x3 : Nat) (σ : zS) : Option (Unit × zS) :=
  zl (pI 7 1 x0 0 σ) fun σ1 =>
  zlp (F_X7_run_8 N x0 x1 x2 x3) N (0, σ1)
set_option maxHeartbeats 4000000 in
set_option maxRecDepth 100000 in
theorem c_X7_run (l : Launch) (D : va_G) (c : zC) (o : Nat) (g : zEp) (N : Nat) {x0 : Nat} {x1 : Nat} {x2 : Nat} {x3 : Nat} {σ : zS} {ρ : Unit × zS} (h : f_X7_run N x0 x1 x2 x3 σ = some ρ) : Met l yX7_run zs_X7_run (zr 16) (va_Pc [.ref (o + x0), .ref (o + x1), .ref (o + x2), .ref (o + x3)] (zG D c o g σ)) (zQu D c o g ρ) 0 0 (zA o) := by
  refine zMetG (by decide) (Nat.le_of_ble_eq_true rfl) ?_
  intro p e s m below meth cd ⟨hx, hb, hr, hml, hown, hts, hlocks⟩ hP hK hE ls hl
  have hS : va_S (zA o) s.heap s.heap [] := va_S.rf
  have hl : lv_has ls 5 [(0, .ref (o + x0)), (1, .ref (o + x1)), (2, .ref (o + x2)), (3, .ref (o + x3))] := hl
  rw [f_X7_run.eq_1] at h
  refine lv_aload_n (pc := 0) hx hb dX7_run_0 rfl (lv_at hl 0 rfl) ?_
  refine lv_iconst (pc := 1) (v := 0) hx hb dX7_run_1 (by decide) ?_
  obtain ⟨σ1, hv, h⟩ := zl_some h
  refine xpI (pc := 2) (j := 1) zc7 hx hb hts hown hK hP hS hv rfl rfl rfl zf_X7_17 dX7_run_2 (fun H locs hP hS => ?_)
  refine lv_iconst (pc := 5) (v := 0) hx hb dX7_run_5 (by decide) ?_
  refine lv_istore (pc := 6) (lv' := [(4, .int 0), (0, .ref (o + x0)), (1, .ref (o + x1)), (2, .ref (o + x2)), (3, .ref (o + x3))]) hx hb dX7_run_6 hl (by decide) rfl (fun ls hl => ?_)
  have L8_2 : ∀ (n : Nat) (t : Int32 × zS), zlp (F_X7_run_8 N x0 x1 x2 x3) n t = some ρ → ∀ (H : Heap) (locs : List Loc) (ls : Array Slot), zP D c o (zabs o (t.2)) H → va_S (zA o) s.heap H locs → lv_has ls 5 [(4, .int (t.1)), (0, .ref (o + x0)), (1, .ref (o + x1)), (2, .ref (o + x2)), (3, .ref (o + x3))] → W p l e (zr 16) s m (([.ref (o + x0), .ref (o + x1), .ref (o + x2), .ref (o + x3)] : List Value).toArray) below meth cd H locs 0 0 (MQ below (zQu D c o g ρ) (([.ref (o + x0), .ref (o + x1), .ref (o + x2), .ref (o + x3)] : List Value).toArray) s 0 0 (zA o)) (F0 m 8 ls []) := by
    refine zlp_ind (fun ag2 ih2 t h H locs ls hP hS hl => ?_)
    obtain ⟨x4_2, σ2⟩ := t
    have hP : zP D c o (zabs o σ2) H := hP
    have hl : lv_has ls 5 [(4, .int x4_2), (0, .ref (o + x0)), (1, .ref (o + x1)), (2, .ref (o + x2)), (3, .ref (o + x3))] := hl
    rw [F_X7_run_8.eq_1] at h
    show W p l e (zr 16) s m (([.ref (o + x0), .ref (o + x1), .ref (o + x2), .ref (o + x3)] : List Value).toArray) below meth cd H locs 0 0 (MQ below (zQu D c o g ρ) (([.ref (o + x0), .ref (o + x1), .ref (o + x2), .ref (o + x3)] : List Value).toArray) s 0 0 (zA o)) (F0 m 8 ls [])
    refine lv_iload (pc := 8) hx hb dX7_run_8 (lv_at hl 0 rfl) ?_
    refine lv_aload_n (pc := 10) hx hb dX7_run_10 rfl (lv_at hl 2 rfl) ?_
    obtain ⟨v3, hv, h⟩ := zl_some h
    refine xgI (pc := 11) (j := 2) zc5 hx hb hts hown hK hP hv rfl zf_X7_22 dX7_run_11 ?_
    refine lv_icmp_ge (pc := 14) (tgt := 53) hx hb dX7_run_14 (by decide) (fun c1 => ?_) (fun c1 => ?_)
    · rw [if_pos c1] at h
      exact xretv (pc := 53) hx hb hr hlocks hP hK hE hS h dX7_run_53
    · rw [if_neg c1] at h
      refine lv_iload (pc := 17) hx hb dX7_run_17 (lv_at hl 0 rfl) ?_
      refine lv_aload_n (pc := 19) hx hb dX7_run_19 rfl (lv_at hl 2 rfl) ?_
      obtain ⟨v4, hv, h⟩ := zl_some h
      refine xgR (pc := 20) (j := 3) zc5 hx hb hts hown hK hP hv rfl zf_X7_27 dX7_run_20 ?_
      obtain ⟨v5, hv, h⟩ := zl_some h
      refine xLI (pc := 23) hx hb hK hP hv dX7_run_23 ?_
      refine lv_icmp_ge (pc := 24) (tgt := 53) hx hb dX7_run_24 (by decide) (fun c1 => ?_) (fun c1 => ?_)
      · rw [if_pos c1] at h
        exact xretv (pc := 53) hx hb hr hlocks hP hK hE hS h dX7_run_53
      · rw [if_neg c1] at h
        refine lv_aload_n (pc := 27) hx hb dX7_run_27 rfl (lv_at hl 1 rfl) ?_
        refine lv_aload_n (pc := 28) hx hb dX7_run_28 rfl (lv_at hl 2 rfl) ?_
        obtain ⟨v6, hv, h⟩ := zl_some h
        refine xgR (pc := 29) (j := 3) zc5 hx hb hts hown hK hP hv rfl zf_X7_27 dX7_run_29 ?_
        refine lv_iload (pc := 32) hx hb dX7_run_32 (lv_at hl 0 rfl) ?_
        obtain ⟨v7, hv, h⟩ := zl_some h
        refine xaI (pc := 34) hx hb hK hP hv dX7_run_34 ?_
        refine lv_aload_n (pc := 35) hx hb dX7_run_35 rfl (lv_at hl 2 rfl) ?_
        obtain ⟨v8, hv, h⟩ := zl_some h
        refine xgR (pc := 36) (j := 4) zc5 hx hb hts hown hK hP hv rfl zf_X7_31 dX7_run_36 ?_
        refine lv_iload (pc := 39) hx hb dX7_run_39 (lv_at hl 0 rfl) ?_
        obtain ⟨v9, hv, h⟩ := zl_some h
        refine xaI (pc := 41) hx hb hK hP hv dX7_run_41 ?_
        refine lv_aload_n (pc := 42) hx hb dX7_run_42 rfl (lv_at hl 3 rfl) ?_
        refine lv_aload_n (pc := 43) hx hb dX7_run_43 rfl (lv_at hl 4 rfl) ?_
        obtain ⟨_, hg, h⟩ := zl_some h
        obtain ⟨v10, σ11, hv, h⟩ := zb_some h
        refine xcallVv (pc := 44) (As := [.int v7, .int v9, .ref (o + x2), .ref (o + x3)]) (rest := []) ⟨hx, hb, hml, hown, hts⟩ (c_X7_doStep l D c o g N hv) zc7 zV_X7_34 rfl zd_X7_doStep ⟨Nat.le_of_ble_eq_true rfl, Nat.le_of_ble_eq_true rfl⟩ hK hP hE hS hg hl.1 rfl (Nat.le_of_ble_eq_true rfl) ⟨Nat.zero_le _, Nat.zero_le _⟩ dX7_run_44 (fun H locs hP hS => ?_)
        refine lv_iinc (pc := 47) (v := x4_2 + 1) (lv' := [(4, .int (x4_2 + 1)), (0, .ref (o + x0)), (1, .ref (o + x1)), (2, .ref (o + x2)), (3, .ref (o + x3))]) hx hb dX7_run_47 hl (k := 0) rfl rfl (by decide) rfl (fun ls hl => ?_)
        refine lv_goto (pc := 50) (tgt := 8) hx hb dX7_run_50 (by decide) ?_
        exact ih2 (x4_2 + 1, σ11) h _ _ ls hP hS (lv_sub hl [0, 1, 2, 3, 4] rfl)
  exact L8_2 N (0, σ1) h _ _ ls hP hS (lv_sub hl [0, 1, 2, 3, 4] rfl)
def F_X8_weighSets_30 (N : Nat) (x0 : Nat) (x1 : Nat) (x2 : Int32) (x3 : Int32) (again9 : (Int32 × zS) → Option (Unit × zS)) (again30 : (Int32 × zS) → Option (Unit × zS)) : Int32 × zS → Option (Unit × zS)
  | (x4, σ) =>
  if x3 ≤ x4 then
    (again9 (x2 + 1, σ))
  else
    (zl (gR 8 0 x0 σ) fun v4 =>
    zl (gR 8 0 x0 σ) fun v5 =>
    zl (aI 14 v5 x4 σ) fun v6 =>
    zl (gR 10 5 x1 σ) fun v7 =>
    zl (aI 14 v7 x2 σ) fun v8 =>
    zl (sI 14 v4 (x3 + x4) (v6 + v8) σ) fun σ9 =>
    again30 (x4 + 1, σ9))
def F_X8_weighSets_9 (N : Nat) (x0 : Nat) (x1 : Nat) (again9 : (Int32 × zS) → Option (Unit × zS)) : Int32 × zS → Option (Unit × zS)
  | (x2, σ) =>
  zl (gI 10 0 x1 σ) fun v3 =>
  if v3 ≤ x2 then
    (some ((), σ))
  else
    (if 10 ≤ x2 then
      (some ((), σ))
    else
      (zlp (F_X8_weighSets_30 N x0 x1 x2 ((1 : Int32) <<< (x2 &&& 31)) again9) N (0, σ)))
def f_X8_weighSets (N : Nat) (x0 : Nat) (x1 : Nat) (σ : zS) : Option (Unit × zS) :=
  zl (gR 8 0 x0 σ) fun v1 =>
  zl (sI 14 v1 0 0 σ) fun σ2 =>
  zlp (F_X8_weighSets_9 N x0 x1) N (0, σ2)
set_option maxHeartbeats 4000000 in
set_option maxRecDepth 100000 in
theorem c_X8_weighSets (l : Launch) (D : va_G) (c : zC) (o : Nat) (g : zEp) (N : Nat) {x0 : Nat} {x1 : Nat} {σ : zS} {ρ : Unit × zS} (h : f_X8_weighSets N x0 x1 σ = some ρ) : Met l yX8_weighSets zs_X8_weighSets (zr 2) (va_Pc [.ref (o + x0), .ref (o + x1)] (zG D c o g σ)) (zQu D c o g ρ) 0 0 (zA o) := by
  refine zMetG (by decide) (Nat.le_of_ble_eq_true rfl) ?_
  intro p e s m below meth cd ⟨hx, hb, hr, hml, hown, hts, hlocks⟩ hP hK hE ls hl
  have hS : va_S (zA o) s.heap s.heap [] := va_S.rf
  have hl : lv_has ls 5 [(0, .ref (o + x0)), (1, .ref (o + x1))] := hl
  rw [f_X8_weighSets.eq_1] at h
  refine lv_aload_n (pc := 0) hx hb dX8_weighSets_0 rfl (lv_at hl 0 rfl) ?_
  obtain ⟨v1, hv, h⟩ := zl_some h
  refine xgR (pc := 1) (j := 0) zc8 hx hb hts hown hK hP hv rfl zf_X8_9 dX8_weighSets_1 ?_
  refine lv_iconst (pc := 4) (v := 0) hx hb dX8_weighSets_4 (by decide) ?_
  refine lv_iconst (pc := 5) (v := 0) hx hb dX8_weighSets_5 (by decide) ?_
  obtain ⟨σ2, hv, h⟩ := zl_some h
  refine xsI (pc := 6) hx hb hK hP hS hv dX8_weighSets_6 (fun H locs hP hS => ?_)
  refine lv_iconst (pc := 7) (v := 0) hx hb dX8_weighSets_7 (by decide) ?_
  refine lv_istore_n (pc := 8) (lv' := [(2, .int 0), (0, .ref (o + x0)), (1, .ref (o + x1))]) hx hb dX8_weighSets_8 rfl hl (by decide) rfl (fun ls hl => ?_)
  have L9_3 : ∀ (n : Nat) (t : Int32 × zS), zlp (F_X8_weighSets_9 N x0 x1) n t = some ρ → ∀ (H : Heap) (locs : List Loc) (ls : Array Slot), zP D c o (zabs o (t.2)) H → va_S (zA o) s.heap H locs → lv_has ls 5 [(2, .int (t.1)), (0, .ref (o + x0)), (1, .ref (o + x1))] → W p l e (zr 2) s m (([.ref (o + x0), .ref (o + x1)] : List Value).toArray) below meth cd H locs 0 0 (MQ below (zQu D c o g ρ) (([.ref (o + x0), .ref (o + x1)] : List Value).toArray) s 0 0 (zA o)) (F0 m 9 ls []) := by
    refine zlp_ind (fun ag3 ih3 t h H locs ls hP hS hl => ?_)
    obtain ⟨x2_3, σ3⟩ := t
    have hP : zP D c o (zabs o σ3) H := hP
    have hl : lv_has ls 5 [(2, .int x2_3), (0, .ref (o + x0)), (1, .ref (o + x1))] := hl
    rw [F_X8_weighSets_9.eq_1] at h
    show W p l e (zr 2) s m (([.ref (o + x0), .ref (o + x1)] : List Value).toArray) below meth cd H locs 0 0 (MQ below (zQu D c o g ρ) (([.ref (o + x0), .ref (o + x1)] : List Value).toArray) s 0 0 (zA o)) (F0 m 9 ls [])
    refine lv_iload_n (pc := 9) hx hb dX8_weighSets_9 rfl (lv_at hl 0 rfl) ?_
    refine lv_aload_n (pc := 10) hx hb dX8_weighSets_10 rfl (lv_at hl 2 rfl) ?_
    obtain ⟨v4, hv, h⟩ := zl_some h
    refine xgI (pc := 11) (j := 0) zc10 hx hb hts hown hK hP hv rfl zf_X8_18 dX8_weighSets_11 ?_
    refine lv_icmp_ge (pc := 14) (tgt := 71) hx hb dX8_weighSets_14 (by decide) (fun c1 => ?_) (fun c1 => ?_)
    · rw [if_pos c1] at h
      exact xretv (pc := 71) hx hb hr hlocks hP hK hE hS h dX8_weighSets_71
    · rw [if_neg c1] at h
      refine lv_iload_n (pc := 17) hx hb dX8_weighSets_17 rfl (lv_at hl 0 rfl) ?_
      refine lv_bipush (pc := 18) (v := 10) hx hb dX8_weighSets_18 (by decide) ?_
      refine lv_icmp_ge (pc := 20) (tgt := 71) hx hb dX8_weighSets_20 (by decide) (fun c1 => ?_) (fun c1 => ?_)
      · rw [if_pos c1] at h
        exact xretv (pc := 71) hx hb hr hlocks hP hK hE hS h dX8_weighSets_71
      · rw [if_neg c1] at h
        refine lv_iconst (pc := 23) (v := 1) hx hb dX8_weighSets_23 (by decide) ?_
        refine lv_iload_n (pc := 24) hx hb dX8_weighSets_24 rfl (lv_at hl 0 rfl) ?_
        refine lv_ishl (pc := 25) hx hb dX8_weighSets_25 ?_
        refine lv_istore_n (pc := 26) (lv' := [(3, .int ((1 : Int32) <<< (x2_3 &&& 31))), (2, .int x2_3), (0, .ref (o + x0)), (1, .ref (o + x1))]) hx hb dX8_weighSets_26 rfl hl (by decide) rfl (fun ls hl => ?_)
        refine lv_iconst (pc := 27) (v := 0) hx hb dX8_weighSets_27 (by decide) ?_
        refine lv_istore (pc := 28) (lv' := [(4, .int 0), (3, .int ((1 : Int32) <<< (x2_3 &&& 31))), (2, .int x2_3), (0, .ref (o + x0)), (1, .ref (o + x1))]) hx hb dX8_weighSets_28 hl (by decide) rfl (fun ls hl => ?_)
        have L30_5 : ∀ (n : Nat) (t : Int32 × zS), zlp (F_X8_weighSets_30 N x0 x1 x2_3 ((1 : Int32) <<< (x2_3 &&& 31)) ag3) n t = some ρ → ∀ (H : Heap) (locs : List Loc) (ls : Array Slot), zP D c o (zabs o (t.2)) H → va_S (zA o) s.heap H locs → lv_has ls 5 [(4, .int (t.1)), (0, .ref (o + x0)), (1, .ref (o + x1)), (2, .int x2_3), (3, .int ((1 : Int32) <<< (x2_3 &&& 31)))] → W p l e (zr 2) s m (([.ref (o + x0), .ref (o + x1)] : List Value).toArray) below meth cd H locs 0 0 (MQ below (zQu D c o g ρ) (([.ref (o + x0), .ref (o + x1)] : List Value).toArray) s 0 0 (zA o)) (F0 m 30 ls []) := by
          refine zlp_ind (fun ag5 ih5 t h H locs ls hP hS hl => ?_)
          obtain ⟨x4_5, σ5⟩ := t
          have hP : zP D c o (zabs o σ5) H := hP
          have hl : lv_has ls 5 [(4, .int x4_5), (0, .ref (o + x0)), (1, .ref (o + x1)), (2, .int x2_3), (3, .int ((1 : Int32) <<< (x2_3 &&& 31)))] := hl
          rw [F_X8_weighSets_30.eq_1] at h
          show W p l e (zr 2) s m (([.ref (o + x0), .ref (o + x1)] : List Value).toArray) below meth cd H locs 0 0 (MQ below (zQu D c o g ρ) (([.ref (o + x0), .ref (o + x1)] : List Value).toArray) s 0 0 (zA o)) (F0 m 30 ls [])
          refine lv_iload (pc := 30) hx hb dX8_weighSets_30 (lv_at hl 0 rfl) ?_
          refine lv_iload_n (pc := 32) hx hb dX8_weighSets_32 rfl (lv_at hl 4 rfl) ?_
          refine lv_icmp_ge (pc := 33) (tgt := 65) hx hb dX8_weighSets_33 (by decide) (fun c1 => ?_) (fun c1 => ?_)
          · rw [if_pos c1] at h
            refine lv_iinc (pc := 65) (v := x2_3 + 1) (lv' := [(2, .int (x2_3 + 1)), (4, .int x4_5), (0, .ref (o + x0)), (1, .ref (o + x1)), (3, .int ((1 : Int32) <<< (x2_3 &&& 31)))]) hx hb dX8_weighSets_65 hl (k := 3) rfl rfl (by decide) rfl (fun ls hl => ?_)
            refine lv_goto (pc := 68) (tgt := 9) hx hb dX8_weighSets_68 (by decide) ?_
            exact ih3 (x2_3 + 1, σ5) h _ _ ls hP hS (lv_sub hl [0, 2, 3] rfl)
          · rw [if_neg c1] at h
            refine lv_aload_n (pc := 36) hx hb dX8_weighSets_36 rfl (lv_at hl 1 rfl) ?_
            obtain ⟨v6, hv, h⟩ := zl_some h
            refine xgR (pc := 37) (j := 0) zc8 hx hb hts hown hK hP hv rfl zf_X8_9 dX8_weighSets_37 ?_
            refine lv_iload_n (pc := 40) hx hb dX8_weighSets_40 rfl (lv_at hl 4 rfl) ?_
            refine lv_iload (pc := 41) hx hb dX8_weighSets_41 (lv_at hl 0 rfl) ?_
            refine lv_iadd (pc := 43) hx hb dX8_weighSets_43 ?_
            refine lv_aload_n (pc := 44) hx hb dX8_weighSets_44 rfl (lv_at hl 1 rfl) ?_
            obtain ⟨v7, hv, h⟩ := zl_some h
            refine xgR (pc := 45) (j := 0) zc8 hx hb hts hown hK hP hv rfl zf_X8_9 dX8_weighSets_45 ?_
            refine lv_iload (pc := 48) hx hb dX8_weighSets_48 (lv_at hl 0 rfl) ?_
            obtain ⟨v8, hv, h⟩ := zl_some h
            refine xaI (pc := 50) hx hb hK hP hv dX8_weighSets_50 ?_
            refine lv_aload_n (pc := 51) hx hb dX8_weighSets_51 rfl (lv_at hl 2 rfl) ?_
            obtain ⟨v9, hv, h⟩ := zl_some h
            refine xgR (pc := 52) (j := 5) zc10 hx hb hts hown hK hP hv rfl zf_X8_24 dX8_weighSets_52 ?_
            refine lv_iload_n (pc := 55) hx hb dX8_weighSets_55 rfl (lv_at hl 3 rfl) ?_
            obtain ⟨v10, hv, h⟩ := zl_some h
            refine xaI (pc := 56) hx hb hK hP hv dX8_weighSets_56 ?_
            refine lv_iadd (pc := 57) hx hb dX8_weighSets_57 ?_
            obtain ⟨σ11, hv, h⟩ := zl_some h
            refine xsI (pc := 58) hx hb hK hP hS hv dX8_weighSets_58 (fun H locs hP hS => ?_)
            refine lv_iinc (pc := 59) (v := x4_5 + 1) (lv' := [(4, .int (x4_5 + 1)), (0, .ref (o + x0)), (1, .ref (o + x1)), (2, .int x2_3), (3, .int ((1 : Int32) <<< (x2_3 &&& 31)))]) hx hb dX8_weighSets_59 hl (k := 0) rfl rfl (by decide) rfl (fun ls hl => ?_)
            refine lv_goto (pc := 62) (tgt := 30) hx hb dX8_weighSets_62 (by decide) ?_
            exact ih5 (x4_5 + 1, σ11) h _ _ ls hP hS (lv_sub hl [0, 1, 2, 3, 4] rfl)
        exact L30_5 N (0, σ3) h _ _ ls hP hS (lv_sub hl [0, 3, 4, 2, 1] rfl)
  exact L9_3 N (0, σ2) h _ _ ls hP hS (lv_sub hl [0, 1, 2] rfl)
def J_X8_sum_113 (N : Nat) (x3 : Int32) (x4 : Int32) (x5 : Int32) (x6 : Int32) (σ : zS) : Option (Int32 × zS) :=
  if x3 = 0 then
    (some (x4, σ))
  else
    (if x3 = 1 then
      (some (x5, σ))
    else
      (some (x6, σ)))
def F_X8_sum_44 (N : Nat) (x0 : Nat) (x2 : Nat) (x3 : Int32) (again44 : (Int32 × Int32 × Int32 × Int32 × Int32 × zS) → Option (Int32 × zS)) : Int32 × Int32 × Int32 × Int32 × Int32 × zS → Option (Int32 × zS)
  | (x4, x5, x6, x7, x8, σ) =>
  if 1024 ≤ x8 then
    (J_X8_sum_113 N x3 x4 x5 x6 σ)
  else
    (if x7 < 0 then
      (J_X8_sum_113 N x3 x4 x5 x6 σ)
    else
      (zl (gR 8 0 x0 σ) fun v7 =>
      zl (aI 14 v7 x7 σ) fun v8 =>
      zl (gR 8 0 x0 σ) fun v9 =>
      zl (aI 14 v9 x7 σ) fun v10 =>
      zl (gR 8 0 x0 σ) fun v11 =>
      zl (aI 14 v11 x7 σ) fun v12 =>
      zl (gC 2 x2) fun _ => zb (f_X2_firstFrom N x2 (x7 + 1) σ) fun v13 σ14 =>
      again44 (zmin x4 v8, zmax x5 v10, x6 + v12, v13, x8 + 1, σ14)))
def f_X8_sum (N : Nat) (x0 : Nat) (x1 : Nat) (x2 : Nat) (x3 : Int32) (σ : zS) : Option (Int32 × zS) :=
  zl (gC 2 x2) fun _ => zb (f_X2_isEmpty N x2 σ) fun v1 σ2 =>
  if v1 = 0 then
    (zl (gC 8 x0) fun _ => zb (f_X8_weighSets N x0 x1 σ2) fun v3 σ4 =>
    zl (gC 2 x2) fun _ => zb (f_X2_firstFrom N x2 0 σ4) fun v5 σ6 =>
    zlp (F_X8_sum_44 N x0 x2 x3) N (990, 0, 0, v5, 0, σ6))
  else
    (if x3 = 2 then
      (some (0, σ2))
    else
      (some ((-1), σ2)))
set_option maxHeartbeats 4000000 in
set_option maxRecDepth 100000 in
theorem c_X8_sum (l : Launch) (D : va_G) (c : zC) (o : Nat) (g : zEp) (N : Nat) {x0 : Nat} {x1 : Nat} {x2 : Nat} {x3 : Int32} {σ : zS} {ρ : Int32 × zS} (h : f_X8_sum N x0 x1 x2 x3 σ = some ρ) : Met l yX8_sum zs_X8_sum (zr 8) (va_Pc [.ref (o + x0), .ref (o + x1), .ref (o + x2), .int x3] (zG D c o g σ)) (zQi D c o g ρ) 0 0 (zA o) := by
  refine zMetG (by decide) (Nat.le_of_ble_eq_true rfl) ?_
  intro p e s m below meth cd ⟨hx, hb, hr, hml, hown, hts, hlocks⟩ hP hK hE ls hl
  have hS : va_S (zA o) s.heap s.heap [] := va_S.rf
  have hl : lv_has ls 9 [(0, .ref (o + x0)), (1, .ref (o + x1)), (2, .ref (o + x2)), (3, .int x3)] := hl
  rw [f_X8_sum.eq_1] at h
  refine lv_aload_n (pc := 0) hx hb dX8_sum_0 rfl (lv_at hl 2 rfl) ?_
  obtain ⟨_, hg, h⟩ := zl_some h
  obtain ⟨v1, σ2, hv, h⟩ := zb_some h
  refine xcallVi (pc := 1) (As := []) (rest := []) ⟨hx, hb, hml, hown, hts⟩ (c_X2_isEmpty l D c o g N hv) zc2 zV_X8_27 rfl zd_X2_isEmpty ⟨Nat.le_of_ble_eq_true rfl, Nat.le_of_ble_eq_true rfl⟩ hK hP hE hS hg hl.1 rfl (Nat.le_of_ble_eq_true rfl) ⟨Nat.zero_le _, Nat.zero_le _⟩ dX8_sum_1 (fun H locs hP hS => ?_)
  refine lv_if_eq (pc := 4) (tgt := 18) hx hb dX8_sum_4 (by decide) (fun c1 => ?_) (fun c1 => ?_)
  · rw [if_pos c1] at h
    refine lv_aload_n (pc := 18) hx hb dX8_sum_18 rfl (lv_at hl 0 rfl) ?_
    refine lv_aload_n (pc := 19) hx hb dX8_sum_19 rfl (lv_at hl 1 rfl) ?_
    obtain ⟨_, hg, h⟩ := zl_some h
    obtain ⟨v3, σ4, hv, h⟩ := zb_some h
    refine xcallVv (pc := 20) (As := [.ref (o + x1)]) (rest := []) ⟨hx, hb, hml, hown, hts⟩ (c_X8_weighSets l D c o g N hv) zc8 zV_X8_33 rfl zd_X8_weighSets ⟨Nat.le_of_ble_eq_true rfl, Nat.le_of_ble_eq_true rfl⟩ hK hP hE hS hg hl.1 rfl (Nat.le_of_ble_eq_true rfl) ⟨Nat.zero_le _, Nat.zero_le _⟩ dX8_sum_20 (fun H locs hP hS => ?_)
    refine lv_sipush (pc := 23) (v := 990) hx hb dX8_sum_23 (by decide) ?_
    refine lv_istore (pc := 26) (lv' := [(4, .int 990), (0, .ref (o + x0)), (1, .ref (o + x1)), (2, .ref (o + x2)), (3, .int x3)]) hx hb dX8_sum_26 hl (by decide) rfl (fun ls hl => ?_)
    refine lv_iconst (pc := 28) (v := 0) hx hb dX8_sum_28 (by decide) ?_
    refine lv_istore (pc := 29) (lv' := [(5, .int 0), (4, .int 990), (0, .ref (o + x0)), (1, .ref (o + x1)), (2, .ref (o + x2)), (3, .int x3)]) hx hb dX8_sum_29 hl (by decide) rfl (fun ls hl => ?_)
    refine lv_iconst (pc := 31) (v := 0) hx hb dX8_sum_31 (by decide) ?_
    refine lv_istore (pc := 32) (lv' := [(6, .int 0), (5, .int 0), (4, .int 990), (0, .ref (o + x0)), (1, .ref (o + x1)), (2, .ref (o + x2)), (3, .int x3)]) hx hb dX8_sum_32 hl (by decide) rfl (fun ls hl => ?_)
    refine lv_aload_n (pc := 34) hx hb dX8_sum_34 rfl (lv_at hl 5 rfl) ?_
    refine lv_iconst (pc := 35) (v := 0) hx hb dX8_sum_35 (by decide) ?_
    obtain ⟨_, hg, h⟩ := zl_some h
    obtain ⟨v5, σ6, hv, h⟩ := zb_some h
    refine xcallVi (pc := 36) (As := [.int 0]) (rest := []) ⟨hx, hb, hml, hown, hts⟩ (c_X2_firstFrom l D c o g N hv) zc2 zV_X8_37 rfl zd_X2_firstFrom ⟨Nat.le_of_ble_eq_true rfl, Nat.le_of_ble_eq_true rfl⟩ hK hP hE hS hg hl.1 rfl (Nat.le_of_ble_eq_true rfl) ⟨Nat.zero_le _, Nat.zero_le _⟩ dX8_sum_36 (fun H locs hP hS => ?_)
    refine lv_istore (pc := 39) (lv' := [(7, .int v5), (6, .int 0), (5, .int 0), (4, .int 990), (0, .ref (o + x0)), (1, .ref (o + x1)), (2, .ref (o + x2)), (3, .int x3)]) hx hb dX8_sum_39 hl (by decide) rfl (fun ls hl => ?_)
    refine lv_iconst (pc := 41) (v := 0) hx hb dX8_sum_41 (by decide) ?_
    refine lv_istore (pc := 42) (lv' := [(8, .int 0), (7, .int v5), (6, .int 0), (5, .int 0), (4, .int 990), (0, .ref (o + x0)), (1, .ref (o + x1)), (2, .ref (o + x2)), (3, .int x3)]) hx hb dX8_sum_42 hl (by decide) rfl (fun ls hl => ?_)
    have L44_7 : ∀ (n : Nat) (t : Int32 × Int32 × Int32 × Int32 × Int32 × zS), zlp (F_X8_sum_44 N x0 x2 x3) n t = some ρ → ∀ (H : Heap) (locs : List Loc) (ls : Array Slot), zP D c o (zabs o (t.2.2.2.2.2)) H → va_S (zA o) s.heap H locs → lv_has ls 9 [(4, .int (t.1)), (5, .int (t.2.1)), (6, .int (t.2.2.1)), (7, .int (t.2.2.2.1)), (8, .int (t.2.2.2.2.1)), (0, .ref (o + x0)), (2, .ref (o + x2)), (3, .int x3)] → W p l e (zr 8) s m (([.ref (o + x0), .ref (o + x1), .ref (o + x2), .int x3] : List Value).toArray) below meth cd H locs 0 0 (MQ below (zQi D c o g ρ) (([.ref (o + x0), .ref (o + x1), .ref (o + x2), .int x3] : List Value).toArray) s 0 0 (zA o)) (F0 m 44 ls []) := by
      refine zlp_ind (fun ag7 ih7 t h H locs ls hP hS hl => ?_)
      obtain ⟨x4_7, x5_7, x6_7, x7_7, x8_7, σ7⟩ := t
      have hP : zP D c o (zabs o σ7) H := hP
      have hl : lv_has ls 9 [(4, .int x4_7), (5, .int x5_7), (6, .int x6_7), (7, .int x7_7), (8, .int x8_7), (0, .ref (o + x0)), (2, .ref (o + x2)), (3, .int x3)] := hl
      rw [F_X8_sum_44.eq_1] at h
      show W p l e (zr 8) s m (([.ref (o + x0), .ref (o + x1), .ref (o + x2), .int x3] : List Value).toArray) below meth cd H locs 0 0 (MQ below (zQi D c o g ρ) (([.ref (o + x0), .ref (o + x1), .ref (o + x2), .int x3] : List Value).toArray) s 0 0 (zA o)) (F0 m 44 ls [])
      refine lv_iload (pc := 44) hx hb dX8_sum_44 (lv_at hl 4 rfl) ?_
      refine lv_sipush (pc := 46) (v := 1024) hx hb dX8_sum_46 (by decide) ?_
      have hj113_8 : ∀ (x4_8 : Int32) (x5_8 : Int32) (x6_8 : Int32) (σ8 : zS), J_X8_sum_113 N x3 x4_8 x5_8 x6_8 σ8 = some ρ → ∀ (H : Heap) (locs : List Loc) (ls : Array Slot), zP D c o (zabs o σ8) H → va_S (zA o) s.heap H locs → lv_has ls 9 [(4, .int x4_8), (5, .int x5_8), (6, .int x6_8), (3, .int x3)] → W p l e (zr 8) s m (([.ref (o + x0), .ref (o + x1), .ref (o + x2), .int x3] : List Value).toArray) below meth cd H locs 0 0 (MQ below (zQi D c o g ρ) (([.ref (o + x0), .ref (o + x1), .ref (o + x2), .int x3] : List Value).toArray) s 0 0 (zA o)) (F0 m 113 ls []) := by
        intro x4_8 x5_8 x6_8 σ8 h H locs ls hP hS hl
        rw [J_X8_sum_113.eq_1] at h
        refine lv_iload_n (pc := 113) hx hb dX8_sum_113 rfl (lv_at hl 3 rfl) ?_
        refine lv_if_ne (pc := 114) (tgt := 120) hx hb dX8_sum_114 (by decide) (fun c1 => ?_) (fun c1 => ?_)
        · rw [if_neg c1] at h
          refine lv_iload_n (pc := 120) hx hb dX8_sum_120 rfl (lv_at hl 3 rfl) ?_
          refine lv_iconst (pc := 121) (v := 1) hx hb dX8_sum_121 (by decide) ?_
          refine lv_icmp_ne (pc := 122) (tgt := 130) hx hb dX8_sum_122 (by decide) (fun c1 => ?_) (fun c1 => ?_)
          · rw [if_neg c1] at h
            refine lv_iload (pc := 130) hx hb dX8_sum_130 (lv_at hl 2 rfl) ?_
            exact xreti (pc := 132) hx hb hr hlocks hP hK hE hS h dX8_sum_132
          · rw [if_pos c1] at h
            refine lv_iload (pc := 125) hx hb dX8_sum_125 (lv_at hl 1 rfl) ?_
            refine lv_goto (pc := 127) (tgt := 132) hx hb dX8_sum_127 (by decide) ?_
            exact xreti (pc := 132) hx hb hr hlocks hP hK hE hS h dX8_sum_132
        · rw [if_pos c1] at h
          refine lv_iload (pc := 117) hx hb dX8_sum_117 (lv_at hl 0 rfl) ?_
          exact xreti (pc := 119) hx hb hr hlocks hP hK hE hS h dX8_sum_119
      refine lv_icmp_ge (pc := 49) (tgt := 113) hx hb dX8_sum_49 (by decide) (fun c1 => ?_) (fun c1 => ?_)
      · rw [if_pos c1] at h
        exact hj113_8 (x4_7) (x5_7) (x6_7) σ7 h _ _ ls hP hS (lv_sub hl [0, 1, 2, 7] rfl)
      · rw [if_neg c1] at h
        refine lv_iload (pc := 52) hx hb dX8_sum_52 (lv_at hl 3 rfl) ?_
        refine lv_if_lt (pc := 54) (tgt := 113) hx hb dX8_sum_54 (by decide) (fun c1 => ?_) (fun c1 => ?_)
        · rw [if_pos c1] at h
          exact hj113_8 (x4_7) (x5_7) (x6_7) σ7 h _ _ ls hP hS (lv_sub hl [0, 1, 2, 7] rfl)
        · rw [if_neg c1] at h
          refine lv_iload (pc := 57) hx hb dX8_sum_57 (lv_at hl 0 rfl) ?_
          refine lv_aload_n (pc := 59) hx hb dX8_sum_59 rfl (lv_at hl 5 rfl) ?_
          obtain ⟨v9, hv, h⟩ := zl_some h
          refine xgR (pc := 60) (j := 0) zc8 hx hb hts hown hK hP hv rfl zf_X8_9 dX8_sum_60 ?_
          refine lv_iload (pc := 63) hx hb dX8_sum_63 (lv_at hl 3 rfl) ?_
          obtain ⟨v10, hv, h⟩ := zl_some h
          refine xaI (pc := 65) hx hb hK hP hv dX8_sum_65 ?_
          refine xmin (pc := 66) (rest := []) hx hb (hml.trans hl.1.symm) hown (hts _ zm_X8_41) (hts _ zst_J9_min_7cf53) (hts _ zn_J9) (hts _ (zq_J9_min_7cf53 _ List.mem_cons_self).1) (Nat.le_of_ble_eq_true rfl) (Nat.le_of_ble_eq_true rfl) (Nat.zero_le _) (Nat.zero_le _) dX8_sum_66 ?_
          refine lv_istore (pc := 69) (lv' := [(4, .int (zmin x4_7 v10)), (5, .int x5_7), (6, .int x6_7), (7, .int x7_7), (8, .int x8_7), (0, .ref (o + x0)), (2, .ref (o + x2)), (3, .int x3)]) hx hb dX8_sum_69 hl (by decide) rfl (fun ls hl => ?_)
          refine lv_iload (pc := 71) hx hb dX8_sum_71 (lv_at hl 1 rfl) ?_
          refine lv_aload_n (pc := 73) hx hb dX8_sum_73 rfl (lv_at hl 5 rfl) ?_
          obtain ⟨v11, hv, h⟩ := zl_some h
          refine xgR (pc := 74) (j := 0) zc8 hx hb hts hown hK hP hv rfl zf_X8_9 dX8_sum_74 ?_
          refine lv_iload (pc := 77) hx hb dX8_sum_77 (lv_at hl 3 rfl) ?_
          obtain ⟨v12, hv, h⟩ := zl_some h
          refine xaI (pc := 79) hx hb hK hP hv dX8_sum_79 ?_
          refine xmax (pc := 80) (rest := []) hx hb (hml.trans hl.1.symm) hown (hts _ zm_X8_47) (hts _ zst_J9_max_7cf53) (hts _ zn_J9) (hts _ (zq_J9_max_7cf53 _ List.mem_cons_self).1) (Nat.le_of_ble_eq_true rfl) (Nat.le_of_ble_eq_true rfl) (Nat.zero_le _) (Nat.zero_le _) dX8_sum_80 ?_
          refine lv_istore (pc := 83) (lv' := [(5, .int (zmax x5_7 v12)), (4, .int (zmin x4_7 v10)), (6, .int x6_7), (7, .int x7_7), (8, .int x8_7), (0, .ref (o + x0)), (2, .ref (o + x2)), (3, .int x3)]) hx hb dX8_sum_83 hl (by decide) rfl (fun ls hl => ?_)
          refine lv_iload (pc := 85) hx hb dX8_sum_85 (lv_at hl 2 rfl) ?_
          refine lv_aload_n (pc := 87) hx hb dX8_sum_87 rfl (lv_at hl 5 rfl) ?_
          obtain ⟨v13, hv, h⟩ := zl_some h
          refine xgR (pc := 88) (j := 0) zc8 hx hb hts hown hK hP hv rfl zf_X8_9 dX8_sum_88 ?_
          refine lv_iload (pc := 91) hx hb dX8_sum_91 (lv_at hl 3 rfl) ?_
          obtain ⟨v14, hv, h⟩ := zl_some h
          refine xaI (pc := 93) hx hb hK hP hv dX8_sum_93 ?_
          refine lv_iadd (pc := 94) hx hb dX8_sum_94 ?_
          refine lv_istore (pc := 95) (lv' := [(6, .int (x6_7 + v14)), (5, .int (zmax x5_7 v12)), (4, .int (zmin x4_7 v10)), (7, .int x7_7), (8, .int x8_7), (0, .ref (o + x0)), (2, .ref (o + x2)), (3, .int x3)]) hx hb dX8_sum_95 hl (by decide) rfl (fun ls hl => ?_)
          refine lv_aload_n (pc := 97) hx hb dX8_sum_97 rfl (lv_at hl 6 rfl) ?_
          refine lv_iload (pc := 98) hx hb dX8_sum_98 (lv_at hl 3 rfl) ?_
          refine lv_iconst (pc := 100) (v := 1) hx hb dX8_sum_100 (by decide) ?_
          refine lv_iadd (pc := 101) hx hb dX8_sum_101 ?_
          obtain ⟨_, hg, h⟩ := zl_some h
          obtain ⟨v15, σ16, hv, h⟩ := zb_some h
          refine xcallVi (pc := 102) (As := [.int (x7_7 + 1)]) (rest := []) ⟨hx, hb, hml, hown, hts⟩ (c_X2_firstFrom l D c o g N hv) zc2 zV_X8_37 rfl zd_X2_firstFrom ⟨Nat.le_of_ble_eq_true rfl, Nat.le_of_ble_eq_true rfl⟩ hK hP hE hS hg hl.1 rfl (Nat.le_of_ble_eq_true rfl) ⟨Nat.zero_le _, Nat.zero_le _⟩ dX8_sum_102 (fun H locs hP hS => ?_)
          refine lv_istore (pc := 105) (lv' := [(7, .int v15), (6, .int (x6_7 + v14)), (5, .int (zmax x5_7 v12)), (4, .int (zmin x4_7 v10)), (8, .int x8_7), (0, .ref (o + x0)), (2, .ref (o + x2)), (3, .int x3)]) hx hb dX8_sum_105 hl (by decide) rfl (fun ls hl => ?_)
          refine lv_iinc (pc := 107) (v := x8_7 + 1) (lv' := [(8, .int (x8_7 + 1)), (7, .int v15), (6, .int (x6_7 + v14)), (5, .int (zmax x5_7 v12)), (4, .int (zmin x4_7 v10)), (0, .ref (o + x0)), (2, .ref (o + x2)), (3, .int x3)]) hx hb dX8_sum_107 hl (k := 4) rfl rfl (by decide) rfl (fun ls hl => ?_)
          refine lv_goto (pc := 110) (tgt := 44) hx hb dX8_sum_110 (by decide) ?_
          exact ih7 (zmin x4_7 v10, zmax x5_7 v12, x6_7 + v14, v15, x8_7 + 1, σ16) h _ _ ls hP hS (lv_sub hl [4, 3, 2, 1, 0, 5, 6, 7] rfl)
    exact L44_7 N (990, 0, 0, v5, 0, σ6) h _ _ ls hP hS (lv_sub hl [4, 3, 2, 1, 0, 5, 7, 8] rfl)
  · rw [if_neg c1] at h
    refine lv_iload_n (pc := 7) hx hb dX8_sum_7 rfl (lv_at hl 3 rfl) ?_
    refine lv_iconst (pc := 8) (v := 2) hx hb dX8_sum_8 (by decide) ?_
    refine lv_icmp_ne (pc := 9) (tgt := 16) hx hb dX8_sum_9 (by decide) (fun c1 => ?_) (fun c1 => ?_)
    · rw [if_neg c1] at h
      refine lv_iconst (pc := 16) (v := (-1)) hx hb dX8_sum_16 (by decide) ?_
      exact xreti (pc := 17) hx hb hr hlocks hP hK hE hS h dX8_sum_17
    · rw [if_pos c1] at h
      refine lv_iconst (pc := 12) (v := 0) hx hb dX8_sum_12 (by decide) ?_
      refine lv_goto (pc := 13) (tgt := 17) hx hb dX8_sum_13 (by decide) ?_
      exact xreti (pc := 17) hx hb hr hlocks hP hK hE hS h dX8_sum_17

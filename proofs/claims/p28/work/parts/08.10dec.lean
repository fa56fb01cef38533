def J_X12_readsLine_65 (N : Nat) (x0 : Nat) (σ : zS) : Option (Unit × zS) :=
  zl (gC 12 x0) fun _ => zb (f_X12_good N x0 σ) fun v11 σ12 =>
  if v11 = 0 then
    (some ((), σ12))
  else
    (zl (gC 12 x0) fun _ => zb (f_X12_takes N x0 12 σ12) fun v13 σ14 =>
    if v13 = 0 then
      (zl (gC 12 x0) fun _ => zb (f_X12_takes N x0 13 σ14) fun v15 σ16 =>
      if v15 = 0 then
        (zl (gC 12 x0) fun _ => zb (f_X12_advance N x0 σ16) fun v17 σ18 =>
        zl (gC 12 x0) fun _ => zb (f_X12_readsLet N x0 σ18) fun v19 σ20 =>
        some ((), σ20))
      else
        (zl (gC 12 x0) fun _ => zb (f_X12_readsEdge N x0 σ16) fun v21 σ22 =>
        some ((), σ22)))
    else
      (zl (gC 12 x0) fun _ => zb (f_X12_readsName N x0 σ14) fun v23 σ24 =>
      zl (gR 12 26 x0 σ24) fun v25 =>
      zl (gC 12 x0) fun _ => zb (f_X12_number N x0 0 99 σ24) fun v26 σ27 =>
      zl (sI 14 v25 (3 + v23) v26 σ27) fun σ28 =>
      some ((), σ28)))
def J_X12_readsLine_35 (N : Nat) (x0 : Nat) (σ : zS) : Option (Unit × zS) :=
  zl (gC 12 x0) fun _ => zb (f_X12_is N x0 13 σ) fun v9 σ10 =>
  if v9 = 0 then
    (J_X12_readsLine_65 N x0 σ10)
  else
    (zl (gR 12 26 x0 σ10) fun v29 =>
    zl (aI 14 v29 2 σ10) fun v30 =>
    zl (gR 12 26 x0 σ10) fun v31 =>
    zl (aI 14 v31 0 σ10) fun v32 =>
    if v30 = v32 then
      (zl (gC 12 x0) fun _ => zb (f_X12_errs N x0 3 σ10) fun v33 σ34 =>
      J_X12_readsLine_65 N x0 σ34)
    else
      (J_X12_readsLine_65 N x0 σ10))
def f_X12_readsLine (N : Nat) (x0 : Nat) (σ : zS) : Option (Unit × zS) :=
  zl (gC 12 x0) fun _ => zb (f_X12_is N x0 12 σ) fun v1 σ2 =>
  if v1 = 0 then
    (zl (gC 12 x0) fun _ => zb (f_X12_is N x0 13 σ2) fun v3 σ4 =>
    if v3 = 0 then
      (zl (gC 12 x0) fun _ => zb (f_X12_is N x0 14 σ4) fun v5 σ6 =>
      if v5 = 0 then
        (zl (gC 12 x0) fun _ => zb (f_X12_errs N x0 1 σ6) fun v7 σ8 =>
        J_X12_readsLine_35 N x0 σ8)
      else
        (J_X12_readsLine_35 N x0 σ6))
    else
      (J_X12_readsLine_35 N x0 σ4))
  else
    (J_X12_readsLine_35 N x0 σ2)
set_option maxHeartbeats 4000000 in
set_option maxRecDepth 100000 in
theorem c_X12_readsLine (l : Launch) (D : va_G) (c : zC) (o : Nat) (g : zEp) (N : Nat) {x0 : Nat} {σ : zS} {ρ : Unit × zS} (h : f_X12_readsLine N x0 σ = some ρ) : Met l yX12_readsLine zs_X12_readsLine (zr 24) (va_Pc [.ref (o + x0)] (zG D c o g σ)) (zQu D c o g ρ) 0 0 (zA o) := by
  refine zMetG (by decide) (Nat.le_of_ble_eq_true rfl) ?_
  intro p e s m below meth cd ⟨hx, hb, hr, hml, hown, hts, hlocks⟩ hP hK hE ls hl
  have hS : va_S (zA o) s.heap s.heap [] := va_S.rf
  have hl : lv_has ls 2 [(0, .ref (o + x0))] := hl
  rw [f_X12_readsLine.eq_1] at h
  refine lv_aload_n (pc := 0) hx hb dX12_readsLine_0 rfl (lv_at hl 0 rfl) ?_
  refine xldcSw (pc := 1) hx hb hown (hE.2.2.2.2.2 (RX12, 290, "weight", 12) (by decide)) dX12_readsLine_1 ?_
  obtain ⟨_, hg, h⟩ := zl_some h
  obtain ⟨v1, σ2, hv, h⟩ := zb_some h
  refine xcallVi (pc := 4) (As := [.ref (g.2.1 12)]) (rest := []) ⟨hx, hb, hml, hown, hts⟩ (c_X12_is l D c o g N hv) zc12 zV_X12_169 rfl zd_X12_is ⟨Nat.le_of_ble_eq_true rfl, Nat.le_of_ble_eq_true rfl⟩ hK hP hE hS hg hl.1 rfl (Nat.le_of_ble_eq_true rfl) ⟨Nat.zero_le _, Nat.zero_le _⟩ dX12_readsLine_4 (fun H locs hP hS => ?_)
  have hj35_3 : ∀ (σ3 : zS), J_X12_readsLine_35 N x0 σ3 = some ρ → ∀ (H : Heap) (locs : List Loc) (ls : Array Slot), zP D c o (zabs o σ3) H → va_S (zA o) s.heap H locs → lv_has ls 2 [(0, .ref (o + x0))] → W p l e (zr 24) s m (([.ref (o + x0)] : List Value).toArray) below meth cd H locs 0 0 (MQ below (zQu D c o g ρ) (([.ref (o + x0)] : List Value).toArray) s 0 0 (zA o)) (F0 m 35 ls []) := by
    intro σ3 h H locs ls hP hS hl
    rw [J_X12_readsLine_35.eq_1] at h
    refine lv_aload_n (pc := 35) hx hb dX12_readsLine_35 rfl (lv_at hl 0 rfl) ?_
    refine xldcSw (pc := 36) hx hb hown (hE.2.2.2.2.2 (RX12, 292, "edge", 13) (by decide)) dX12_readsLine_36 ?_
    obtain ⟨_, hg, h⟩ := zl_some h
    obtain ⟨v4, σ5, hv, h⟩ := zb_some h
    refine xcallVi (pc := 39) (As := [.ref (g.2.1 13)]) (rest := []) ⟨hx, hb, hml, hown, hts⟩ (c_X12_is l D c o g N hv) zc12 zV_X12_169 rfl zd_X12_is ⟨Nat.le_of_ble_eq_true rfl, Nat.le_of_ble_eq_true rfl⟩ hK hP hE hS hg hl.1 rfl (Nat.le_of_ble_eq_true rfl) ⟨Nat.zero_le _, Nat.zero_le _⟩ dX12_readsLine_39 (fun H locs hP hS => ?_)
    have hj65_6 : ∀ (σ6 : zS), J_X12_readsLine_65 N x0 σ6 = some ρ → ∀ (H : Heap) (locs : List Loc) (ls : Array Slot), zP D c o (zabs o σ6) H → va_S (zA o) s.heap H locs → lv_has ls 2 [(0, .ref (o + x0))] → W p l e (zr 24) s m (([.ref (o + x0)] : List Value).toArray) below meth cd H locs 0 0 (MQ below (zQu D c o g ρ) (([.ref (o + x0)] : List Value).toArray) s 0 0 (zA o)) (F0 m 65 ls []) := by
      intro σ6 h H locs ls hP hS hl
      rw [J_X12_readsLine_65.eq_1] at h
      refine lv_aload_n (pc := 65) hx hb dX12_readsLine_65 rfl (lv_at hl 0 rfl) ?_
      obtain ⟨_, hg, h⟩ := zl_some h
      obtain ⟨v7, σ8, hv, h⟩ := zb_some h
      refine xcallVi (pc := 66) (As := []) (rest := []) ⟨hx, hb, hml, hown, hts⟩ (c_X12_good l D c o g N hv) zc12 zV_X12_157 rfl zd_X12_good ⟨Nat.le_of_ble_eq_true rfl, Nat.le_of_ble_eq_true rfl⟩ hK hP hE hS hg hl.1 rfl (Nat.le_of_ble_eq_true rfl) ⟨Nat.zero_le _, Nat.zero_le _⟩ dX12_readsLine_66 (fun H locs hP hS => ?_)
      refine lv_if_ne (pc := 69) (tgt := 73) hx hb dX12_readsLine_69 (by decide) (fun c1 => ?_) (fun c1 => ?_)
      · rw [if_neg c1] at h
        refine lv_aload_n (pc := 73) hx hb dX12_readsLine_73 rfl (lv_at hl 0 rfl) ?_
        refine xldcSw (pc := 74) hx hb hown (hE.2.2.2.2.2 (RX12, 290, "weight", 12) (by decide)) dX12_readsLine_74 ?_
        obtain ⟨_, hg, h⟩ := zl_some h
        obtain ⟨v9, σ10, hv, h⟩ := zb_some h
        refine xcallVi (pc := 77) (As := [.ref (g.2.1 12)]) (rest := []) ⟨hx, hb, hml, hown, hts⟩ (c_X12_takes l D c o g N hv) zc12 zV_X12_173 rfl zd_X12_takes ⟨Nat.le_of_ble_eq_true rfl, Nat.le_of_ble_eq_true rfl⟩ hK hP hE hS hg hl.1 rfl (Nat.le_of_ble_eq_true rfl) ⟨Nat.zero_le _, Nat.zero_le _⟩ dX12_readsLine_77 (fun H locs hP hS => ?_)
        refine lv_if_eq (pc := 80) (tgt := 106) hx hb dX12_readsLine_80 (by decide) (fun c1 => ?_) (fun c1 => ?_)
        · rw [if_pos c1] at h
          refine lv_aload_n (pc := 106) hx hb dX12_readsLine_106 rfl (lv_at hl 0 rfl) ?_
          refine xldcSw (pc := 107) hx hb hown (hE.2.2.2.2.2 (RX12, 292, "edge", 13) (by decide)) dX12_readsLine_107 ?_
          obtain ⟨_, hg, h⟩ := zl_some h
          obtain ⟨v11, σ12, hv, h⟩ := zb_some h
          refine xcallVi (pc := 110) (As := [.ref (g.2.1 13)]) (rest := []) ⟨hx, hb, hml, hown, hts⟩ (c_X12_takes l D c o g N hv) zc12 zV_X12_173 rfl zd_X12_takes ⟨Nat.le_of_ble_eq_true rfl, Nat.le_of_ble_eq_true rfl⟩ hK hP hE hS hg hl.1 rfl (Nat.le_of_ble_eq_true rfl) ⟨Nat.zero_le _, Nat.zero_le _⟩ dX12_readsLine_110 (fun H locs hP hS => ?_)
          refine lv_if_eq (pc := 113) (tgt := 123) hx hb dX12_readsLine_113 (by decide) (fun c1 => ?_) (fun c1 => ?_)
          · rw [if_pos c1] at h
            refine lv_aload_n (pc := 123) hx hb dX12_readsLine_123 rfl (lv_at hl 0 rfl) ?_
            obtain ⟨_, hg, h⟩ := zl_some h
            obtain ⟨v13, σ14, hv, h⟩ := zb_some h
            refine xcallVv (pc := 124) (As := []) (rest := []) ⟨hx, hb, hml, hown, hts⟩ (c_X12_advance l D c o g N hv) zc12 zV_X12_154 rfl zd_X12_advance ⟨Nat.le_of_ble_eq_true rfl, Nat.le_of_ble_eq_true rfl⟩ hK hP hE hS hg hl.1 rfl (Nat.le_of_ble_eq_true rfl) ⟨Nat.zero_le _, Nat.zero_le _⟩ dX12_readsLine_124 (fun H locs hP hS => ?_)
            refine lv_aload_n (pc := 127) hx hb dX12_readsLine_127 rfl (lv_at hl 0 rfl) ?_
            obtain ⟨_, hg, h⟩ := zl_some h
            obtain ⟨v15, σ16, hv, h⟩ := zb_some h
            refine xcallVv (pc := 128) (As := []) (rest := []) ⟨hx, hb, hml, hown, hts⟩ (c_X12_readsLet l D c o g N hv) zc12 zV_X12_302 rfl zd_X12_readsLet ⟨Nat.le_of_ble_eq_true rfl, Nat.le_of_ble_eq_true rfl⟩ hK hP hE hS hg hl.1 rfl (Nat.le_of_ble_eq_true rfl) ⟨Nat.zero_le _, Nat.zero_le _⟩ dX12_readsLine_128 (fun H locs hP hS => ?_)
            exact xretv (pc := 131) hx hb hr hlocks hP hK hE hS h dX12_readsLine_131
          · rw [if_neg c1] at h
            refine lv_aload_n (pc := 116) hx hb dX12_readsLine_116 rfl (lv_at hl 0 rfl) ?_
            obtain ⟨_, hg, h⟩ := zl_some h
            obtain ⟨v17, σ18, hv, h⟩ := zb_some h
            refine xcallVv (pc := 117) (As := []) (rest := []) ⟨hx, hb, hml, hown, hts⟩ (c_X12_readsEdge l D c o g N hv) zc12 zV_X12_299 rfl zd_X12_readsEdge ⟨Nat.le_of_ble_eq_true rfl, Nat.le_of_ble_eq_true rfl⟩ hK hP hE hS hg hl.1 rfl (Nat.le_of_ble_eq_true rfl) ⟨Nat.zero_le _, Nat.zero_le _⟩ dX12_readsLine_117 (fun H locs hP hS => ?_)
            refine lv_goto (pc := 120) (tgt := 131) hx hb dX12_readsLine_120 (by decide) ?_
            exact xretv (pc := 131) hx hb hr hlocks hP hK hE hS h dX12_readsLine_131
        · rw [if_neg c1] at h
          refine lv_aload_n (pc := 83) hx hb dX12_readsLine_83 rfl (lv_at hl 0 rfl) ?_
          obtain ⟨_, hg, h⟩ := zl_some h
          obtain ⟨v19, σ20, hv, h⟩ := zb_some h
          refine xcallVi (pc := 84) (As := []) (rest := []) ⟨hx, hb, hml, hown, hts⟩ (c_X12_readsName l D c o g N hv) zc12 zV_X12_296 rfl zd_X12_readsName ⟨Nat.le_of_ble_eq_true rfl, Nat.le_of_ble_eq_true rfl⟩ hK hP hE hS hg hl.1 rfl (Nat.le_of_ble_eq_true rfl) ⟨Nat.zero_le _, Nat.zero_le _⟩ dX12_readsLine_84 (fun H locs hP hS => ?_)
          refine lv_istore_n (pc := 87) (lv' := [(1, .int v19), (0, .ref (o + x0))]) hx hb dX12_readsLine_87 rfl hl (by decide) rfl (fun ls hl => ?_)
          refine lv_aload_n (pc := 88) hx hb dX12_readsLine_88 rfl (lv_at hl 1 rfl) ?_
          obtain ⟨v21, hv, h⟩ := zl_some h
          refine xgR (pc := 89) (j := 26) zc12 hx hb hts hown hK hP hv rfl zf_X12_52 dX12_readsLine_89 ?_
          refine lv_iconst (pc := 92) (v := 3) hx hb dX12_readsLine_92 (by decide) ?_
          refine lv_iload_n (pc := 93) hx hb dX12_readsLine_93 rfl (lv_at hl 0 rfl) ?_
          refine lv_iadd (pc := 94) hx hb dX12_readsLine_94 ?_
          refine lv_aload_n (pc := 95) hx hb dX12_readsLine_95 rfl (lv_at hl 1 rfl) ?_
          refine lv_iconst (pc := 96) (v := 0) hx hb dX12_readsLine_96 (by decide) ?_
          refine lv_bipush (pc := 97) (v := 99) hx hb dX12_readsLine_97 (by decide) ?_
          obtain ⟨_, hg, h⟩ := zl_some h
          obtain ⟨v22, σ23, hv, h⟩ := zb_some h
          refine xcallVi (pc := 99) (As := [.int 0, .int 99]) (rest := [.int (3 + v19), .ref (o + v21)]) ⟨hx, hb, hml, hown, hts⟩ (c_X12_number l D c o g N hv) zc12 zV_X12_239 rfl zd_X12_number ⟨Nat.le_of_ble_eq_true rfl, Nat.le_of_ble_eq_true rfl⟩ hK hP hE hS hg hl.1 rfl (Nat.le_of_ble_eq_true rfl) ⟨Nat.zero_le _, Nat.zero_le _⟩ dX12_readsLine_99 (fun H locs hP hS => ?_)
          obtain ⟨σ24, hv, h⟩ := zl_some h
          refine xsI (pc := 102) hx hb hK hP hS hv dX12_readsLine_102 (fun H locs hP hS => ?_)
          refine lv_goto (pc := 103) (tgt := 131) hx hb dX12_readsLine_103 (by decide) ?_
          exact xretv (pc := 131) hx hb hr hlocks hP hK hE hS h dX12_readsLine_131
      · rw [if_pos c1] at h
        exact xretv (pc := 72) hx hb hr hlocks hP hK hE hS h dX12_readsLine_72
    refine lv_if_eq (pc := 42) (tgt := 65) hx hb dX12_readsLine_42 (by decide) (fun c1 => ?_) (fun c1 => ?_)
    · rw [if_pos c1] at h
      exact hj65_6 σ5 h _ _ ls hP hS (lv_sub hl [0] rfl)
    · rw [if_neg c1] at h
      refine lv_aload_n (pc := 45) hx hb dX12_readsLine_45 rfl (lv_at hl 0 rfl) ?_
      obtain ⟨v25, hv, h⟩ := zl_some h
      refine xgR (pc := 46) (j := 26) zc12 hx hb hts hown hK hP hv rfl zf_X12_52 dX12_readsLine_46 ?_
      refine lv_iconst (pc := 49) (v := 2) hx hb dX12_readsLine_49 (by decide) ?_
      obtain ⟨v26, hv, h⟩ := zl_some h
      refine xaI (pc := 50) hx hb hK hP hv dX12_readsLine_50 ?_
      refine lv_aload_n (pc := 51) hx hb dX12_readsLine_51 rfl (lv_at hl 0 rfl) ?_
      obtain ⟨v27, hv, h⟩ := zl_some h
      refine xgR (pc := 52) (j := 26) zc12 hx hb hts hown hK hP hv rfl zf_X12_52 dX12_readsLine_52 ?_
      refine lv_iconst (pc := 55) (v := 0) hx hb dX12_readsLine_55 (by decide) ?_
      obtain ⟨v28, hv, h⟩ := zl_some h
      refine xaI (pc := 56) hx hb hK hP hv dX12_readsLine_56 ?_
      refine lv_icmp_ne (pc := 57) (tgt := 65) hx hb dX12_readsLine_57 (by decide) (fun c1 => ?_) (fun c1 => ?_)
      · rw [if_neg c1] at h
        exact hj65_6 σ5 h _ _ ls hP hS (lv_sub hl [0] rfl)
      · rw [if_pos c1] at h
        refine lv_aload_n (pc := 60) hx hb dX12_readsLine_60 rfl (lv_at hl 0 rfl) ?_
        refine lv_iconst (pc := 61) (v := 3) hx hb dX12_readsLine_61 (by decide) ?_
        obtain ⟨_, hg, h⟩ := zl_some h
        obtain ⟨v29, σ30, hv, h⟩ := zb_some h
        refine xcallVv (pc := 62) (As := [.int 3]) (rest := []) ⟨hx, hb, hml, hown, hts⟩ (c_X12_errs l D c o g N hv) zc12 zV_X12_176 rfl zd_X12_errs ⟨Nat.le_of_ble_eq_true rfl, Nat.le_of_ble_eq_true rfl⟩ hK hP hE hS hg hl.1 rfl (Nat.le_of_ble_eq_true rfl) ⟨Nat.zero_le _, Nat.zero_le _⟩ dX12_readsLine_62 (fun H locs hP hS => ?_)
        exact hj65_6 σ30 h _ _ ls hP hS (lv_sub hl [0] rfl)
  refine lv_if_ne (pc := 7) (tgt := 35) hx hb dX12_readsLine_7 (by decide) (fun c1 => ?_) (fun c1 => ?_)
  · rw [if_neg c1] at h
    exact hj35_3 σ2 h _ _ ls hP hS (lv_sub hl [0] rfl)
  · rw [if_pos c1] at h
    refine lv_aload_n (pc := 10) hx hb dX12_readsLine_10 rfl (lv_at hl 0 rfl) ?_
    refine xldcSw (pc := 11) hx hb hown (hE.2.2.2.2.2 (RX12, 292, "edge", 13) (by decide)) dX12_readsLine_11 ?_
    obtain ⟨_, hg, h⟩ := zl_some h
    obtain ⟨v31, σ32, hv, h⟩ := zb_some h
    refine xcallVi (pc := 14) (As := [.ref (g.2.1 13)]) (rest := []) ⟨hx, hb, hml, hown, hts⟩ (c_X12_is l D c o g N hv) zc12 zV_X12_169 rfl zd_X12_is ⟨Nat.le_of_ble_eq_true rfl, Nat.le_of_ble_eq_true rfl⟩ hK hP hE hS hg hl.1 rfl (Nat.le_of_ble_eq_true rfl) ⟨Nat.zero_le _, Nat.zero_le _⟩ dX12_readsLine_14 (fun H locs hP hS => ?_)
    refine lv_if_ne (pc := 17) (tgt := 35) hx hb dX12_readsLine_17 (by decide) (fun c1 => ?_) (fun c1 => ?_)
    · rw [if_neg c1] at h
      exact hj35_3 σ32 h _ _ ls hP hS (lv_sub hl [0] rfl)
    · rw [if_pos c1] at h
      refine lv_aload_n (pc := 20) hx hb dX12_readsLine_20 rfl (lv_at hl 0 rfl) ?_
      refine xldcSw (pc := 21) hx hb hown (hE.2.2.2.2.2 (RX12, 294, "let", 14) (by decide)) dX12_readsLine_21 ?_
      obtain ⟨_, hg, h⟩ := zl_some h
      obtain ⟨v33, σ34, hv, h⟩ := zb_some h
      refine xcallVi (pc := 24) (As := [.ref (g.2.1 14)]) (rest := []) ⟨hx, hb, hml, hown, hts⟩ (c_X12_is l D c o g N hv) zc12 zV_X12_169 rfl zd_X12_is ⟨Nat.le_of_ble_eq_true rfl, Nat.le_of_ble_eq_true rfl⟩ hK hP hE hS hg hl.1 rfl (Nat.le_of_ble_eq_true rfl) ⟨Nat.zero_le _, Nat.zero_le _⟩ dX12_readsLine_24 (fun H locs hP hS => ?_)
      refine lv_if_ne (pc := 27) (tgt := 35) hx hb dX12_readsLine_27 (by decide) (fun c1 => ?_) (fun c1 => ?_)
      · rw [if_neg c1] at h
        exact hj35_3 σ34 h _ _ ls hP hS (lv_sub hl [0] rfl)
      · rw [if_pos c1] at h
        refine lv_aload_n (pc := 30) hx hb dX12_readsLine_30 rfl (lv_at hl 0 rfl) ?_
        refine lv_iconst (pc := 31) (v := 1) hx hb dX12_readsLine_31 (by decide) ?_
        obtain ⟨_, hg, h⟩ := zl_some h
        obtain ⟨v35, σ36, hv, h⟩ := zb_some h
        refine xcallVv (pc := 32) (As := [.int 1]) (rest := []) ⟨hx, hb, hml, hown, hts⟩ (c_X12_errs l D c o g N hv) zc12 zV_X12_176 rfl zd_X12_errs ⟨Nat.le_of_ble_eq_true rfl, Nat.le_of_ble_eq_true rfl⟩ hK hP hE hS hg hl.1 rfl (Nat.le_of_ble_eq_true rfl) ⟨Nat.zero_le _, Nat.zero_le _⟩ dX12_readsLine_32 (fun H locs hP hS => ?_)
        exact hj35_3 σ36 h _ _ ls hP hS (lv_sub hl [0] rfl)
def F_X12_world_138 (N : Nat) (x0 : Nat) (again138 : (Int32 × zS) → Option (Int32 × zS)) : Int32 × zS → Option (Int32 × zS)
  | (x1, σ) =>
  if 10240 ≤ x1 then
    (zl (gR 12 1 x0 σ) fun v7 =>
    zl (aI 14 v7 1 σ) fun v8 =>
    some (v8, σ))
  else
    (zl (gR 12 2 x0 σ) fun v9 =>
    zl (gR 12 27 x0 σ) fun v10 =>
    zl (aI 16 v10 x1 σ) fun v11 =>
    zl (sI 16 v9 x1 v11 σ) fun σ12 =>
    again138 (x1 + 1, σ12))
def F_X12_world_112 (N : Nat) (x0 : Nat) (again112 : (Int32 × zS) → Option (Int32 × zS)) : Int32 × zS → Option (Int32 × zS)
  | (x1, σ) =>
  if 43 ≤ x1 then
    (zlp (F_X12_world_138 N x0) N (0, σ))
  else
    (zl (gR 12 1 x0 σ) fun v13 =>
    zl (gR 12 26 x0 σ) fun v14 =>
    zl (aI 14 v14 x1 σ) fun v15 =>
    zl (sI 14 v13 x1 v15 σ) fun σ16 =>
    again112 (x1 + 1, σ16))
def J_X12_world_100 (N : Nat) (x0 : Nat) (σ : zS) : Option (Int32 × zS) :=
  zl (gC 12 x0) fun _ => zb (f_X12_good N x0 σ) fun v5 σ6 =>
  if v5 = 0 then
    (some ((-4), σ6))
  else
    (zlp (F_X12_world_112 N x0) N (0, σ6))
def F_X12_world_47 (N : Nat) (x0 : Nat) (again47 : zS → Option (Int32 × zS)) : zS → Option (Int32 × zS)
  | σ =>
  zl (gC 12 x0) fun _ => zb (f_X12_good N x0 σ) fun v3 σ4 =>
  if v3 = 0 then
    (J_X12_world_100 N x0 σ4)
  else
    (zl (gI 12 12 x0 σ4) fun v17 =>
    if v17 = 0 then
      (J_X12_world_100 N x0 σ4)
    else
      (zl (gR 12 26 x0 σ4) fun v18 =>
      zl (aI 14 v18 1 σ4) fun v19 =>
      if v19 = 0 then
        (zl (gC 12 x0) fun _ => zb (f_X12_readsNames N x0 σ4) fun v20 σ21 =>
        zl (gC 12 x0) fun _ => zb (f_X12_needsSign N x0 59 σ21) fun v22 σ23 =>
        zl (gR 12 26 x0 σ23) fun v24 =>
        zl (aI 14 v24 1 σ23) fun v25 =>
        zl (sI 14 v24 1 (v25 + 1) σ23) fun σ26 =>
        again47 (σ26))
      else
        (zl (gC 12 x0) fun _ => zb (f_X12_readsLine N x0 σ4) fun v27 σ28 =>
        zl (gC 12 x0) fun _ => zb (f_X12_needsSign N x0 59 σ28) fun v29 σ30 =>
        zl (gR 12 26 x0 σ30) fun v31 =>
        zl (aI 14 v31 1 σ30) fun v32 =>
        zl (sI 14 v31 1 (v32 + 1) σ30) fun σ33 =>
        again47 (σ33))))
def F_X12_world_27 (N : Nat) (x0 : Nat) (again27 : (Int32 × zS) → Option (Int32 × zS)) : Int32 × zS → Option (Int32 × zS)
  | (x1, σ) =>
  if 10240 ≤ x1 then
    (zlp (F_X12_world_47 N x0) N σ)
  else
    (zl (gR 12 27 x0 σ) fun v34 =>
    zl (sI 16 v34 x1 0 σ) fun σ35 =>
    again27 (x1 + 1, σ35))
def F_X12_world_6 (N : Nat) (x0 : Nat) (again6 : (Int32 × zS) → Option (Int32 × zS)) : Int32 × zS → Option (Int32 × zS)
  | (x1, σ) =>
  if 43 ≤ x1 then
    (zlp (F_X12_world_27 N x0) N (0, σ))
  else
    (zl (gR 12 26 x0 σ) fun v36 =>
    zl (sI 14 v36 x1 0 σ) fun σ37 =>
    again6 (x1 + 1, σ37))
def f_X12_world (N : Nat) (x0 : Nat) (σ : zS) : Option (Int32 × zS) :=
  zl (gC 12 x0) fun _ => zb (f_X12_begins N x0 σ) fun v1 σ2 =>
  zlp (F_X12_world_6 N x0) N (0, σ2)
set_option maxHeartbeats 4000000 in
set_option maxRecDepth 100000 in
theorem c_X12_world (l : Launch) (D : va_G) (c : zC) (o : Nat) (g : zEp) (N : Nat) {x0 : Nat} {σ : zS} {ρ : Int32 × zS} (h : f_X12_world N x0 σ = some ρ) : Met l yX12_world zs_X12_world (zr 26) (va_Pc [.ref (o + x0)] (zG D c o g σ)) (zQi D c o g ρ) 0 0 (zA o) := by
  refine zMetG (by decide) (Nat.le_of_ble_eq_true rfl) ?_
  intro p e s m below meth cd ⟨hx, hb, hr, hml, hown, hts, hlocks⟩ hP hK hE ls hl
  have hS : va_S (zA o) s.heap s.heap [] := va_S.rf
  have hl : lv_has ls 2 [(0, .ref (o + x0))] := hl
  rw [f_X12_world.eq_1] at h
  refine lv_aload_n (pc := 0) hx hb dX12_world_0 rfl (lv_at hl 0 rfl) ?_
  obtain ⟨_, hg, h⟩ := zl_some h
  obtain ⟨v1, σ2, hv, h⟩ := zb_some h
  refine xcallVv (pc := 1) (As := []) (rest := []) ⟨hx, hb, hml, hown, hts⟩ (c_X12_begins l D c o g N hv) zc12 zV_X12_305 rfl zd_X12_begins ⟨Nat.le_of_ble_eq_true rfl, Nat.le_of_ble_eq_true rfl⟩ hK hP hE hS hg hl.1 rfl (Nat.le_of_ble_eq_true rfl) ⟨Nat.zero_le _, Nat.zero_le _⟩ dX12_world_1 (fun H locs hP hS => ?_)
  refine lv_iconst (pc := 4) (v := 0) hx hb dX12_world_4 (by decide) ?_
  refine lv_istore_n (pc := 5) (lv' := [(1, .int 0), (0, .ref (o + x0))]) hx hb dX12_world_5 rfl hl (by decide) rfl (fun ls hl => ?_)
  have L6_3 : ∀ (n : Nat) (t : Int32 × zS), zlp (F_X12_world_6 N x0) n t = some ρ → ∀ (H : Heap) (locs : List Loc) (ls : Array Slot), zP D c o (zabs o (t.2)) H → va_S (zA o) s.heap H locs → lv_has ls 2 [(1, .int (t.1)), (0, .ref (o + x0))] → W p l e (zr 26) s m (([.ref (o + x0)] : List Value).toArray) below meth cd H locs 0 0 (MQ below (zQi D c o g ρ) (([.ref (o + x0)] : List Value).toArray) s 0 0 (zA o)) (F0 m 6 ls []) := by
    refine zlp_ind (fun ag3 ih3 t h H locs ls hP hS hl => ?_)
    obtain ⟨x1_3, σ3⟩ := t
    have hP : zP D c o (zabs o σ3) H := hP
    have hl : lv_has ls 2 [(1, .int x1_3), (0, .ref (o + x0))] := hl
    rw [F_X12_world_6.eq_1] at h
    show W p l e (zr 26) s m (([.ref (o + x0)] : List Value).toArray) below meth cd H locs 0 0 (MQ below (zQi D c o g ρ) (([.ref (o + x0)] : List Value).toArray) s 0 0 (zA o)) (F0 m 6 ls [])
    refine lv_iload_n (pc := 6) hx hb dX12_world_6 rfl (lv_at hl 0 rfl) ?_
    refine lv_bipush (pc := 7) (v := 43) hx hb dX12_world_7 (by decide) ?_
    refine lv_icmp_ge (pc := 9) (tgt := 25) hx hb dX12_world_9 (by decide) (fun c1 => ?_) (fun c1 => ?_)
    · rw [if_pos c1] at h
      refine lv_iconst (pc := 25) (v := 0) hx hb dX12_world_25 (by decide) ?_
      refine lv_istore_n (pc := 26) (lv' := [(1, .int 0), (0, .ref (o + x0))]) hx hb dX12_world_26 rfl hl (by decide) rfl (fun ls hl => ?_)
      have L27_4 : ∀ (n : Nat) (t : Int32 × zS), zlp (F_X12_world_27 N x0) n t = some ρ → ∀ (H : Heap) (locs : List Loc) (ls : Array Slot), zP D c o (zabs o (t.2)) H → va_S (zA o) s.heap H locs → lv_has ls 2 [(1, .int (t.1)), (0, .ref (o + x0))] → W p l e (zr 26) s m (([.ref (o + x0)] : List Value).toArray) below meth cd H locs 0 0 (MQ below (zQi D c o g ρ) (([.ref (o + x0)] : List Value).toArray) s 0 0 (zA o)) (F0 m 27 ls []) := by
        refine zlp_ind (fun ag4 ih4 t h H locs ls hP hS hl => ?_)
        obtain ⟨x1_4, σ4⟩ := t
        have hP : zP D c o (zabs o σ4) H := hP
        have hl : lv_has ls 2 [(1, .int x1_4), (0, .ref (o + x0))] := hl
        rw [F_X12_world_27.eq_1] at h
        show W p l e (zr 26) s m (([.ref (o + x0)] : List Value).toArray) below meth cd H locs 0 0 (MQ below (zQi D c o g ρ) (([.ref (o + x0)] : List Value).toArray) s 0 0 (zA o)) (F0 m 27 ls [])
        refine lv_iload_n (pc := 27) hx hb dX12_world_27 rfl (lv_at hl 0 rfl) ?_
        refine lv_sipush (pc := 28) (v := 10240) hx hb dX12_world_28 (by decide) ?_
        refine lv_icmp_ge (pc := 31) (tgt := 47) hx hb dX12_world_31 (by decide) (fun c1 => ?_) (fun c1 => ?_)
        · rw [if_pos c1] at h
          have L47_5 : ∀ (n : Nat) (t : zS), zlp (F_X12_world_47 N x0) n t = some ρ → ∀ (H : Heap) (locs : List Loc) (ls : Array Slot), zP D c o (zabs o (t)) H → va_S (zA o) s.heap H locs → lv_has ls 2 [(0, .ref (o + x0))] → W p l e (zr 26) s m (([.ref (o + x0)] : List Value).toArray) below meth cd H locs 0 0 (MQ below (zQi D c o g ρ) (([.ref (o + x0)] : List Value).toArray) s 0 0 (zA o)) (F0 m 47 ls []) := by
            refine zlp_ind (fun ag5 ih5 t h H locs ls hP hS hl => ?_)
            obtain ⟨σ5, rfl⟩ : ∃ x, x = t := ⟨t, rfl⟩
            have hP : zP D c o (zabs o σ5) H := hP
            have hl : lv_has ls 2 [(0, .ref (o + x0))] := hl
            rw [F_X12_world_47.eq_1] at h
            show W p l e (zr 26) s m (([.ref (o + x0)] : List Value).toArray) below meth cd H locs 0 0 (MQ below (zQi D c o g ρ) (([.ref (o + x0)] : List Value).toArray) s 0 0 (zA o)) (F0 m 47 ls [])
            refine lv_aload_n (pc := 47) hx hb dX12_world_47 rfl (lv_at hl 0 rfl) ?_
            obtain ⟨_, hg, h⟩ := zl_some h
            obtain ⟨v6, σ7, hv, h⟩ := zb_some h
            refine xcallVi (pc := 48) (As := []) (rest := []) ⟨hx, hb, hml, hown, hts⟩ (c_X12_good l D c o g N hv) zc12 zV_X12_157 rfl zd_X12_good ⟨Nat.le_of_ble_eq_true rfl, Nat.le_of_ble_eq_true rfl⟩ hK hP hE hS hg hl.1 rfl (Nat.le_of_ble_eq_true rfl) ⟨Nat.zero_le _, Nat.zero_le _⟩ dX12_world_48 (fun H locs hP hS => ?_)
            have hj100_8 : ∀ (σ8 : zS), J_X12_world_100 N x0 σ8 = some ρ → ∀ (H : Heap) (locs : List Loc) (ls : Array Slot), zP D c o (zabs o σ8) H → va_S (zA o) s.heap H locs → lv_has ls 2 [(0, .ref (o + x0))] → W p l e (zr 26) s m (([.ref (o + x0)] : List Value).toArray) below meth cd H locs 0 0 (MQ below (zQi D c o g ρ) (([.ref (o + x0)] : List Value).toArray) s 0 0 (zA o)) (F0 m 100 ls []) := by
              intro σ8 h H locs ls hP hS hl
              rw [J_X12_world_100.eq_1] at h
              refine lv_aload_n (pc := 100) hx hb dX12_world_100 rfl (lv_at hl 0 rfl) ?_
              obtain ⟨_, hg, h⟩ := zl_some h
              obtain ⟨v9, σ10, hv, h⟩ := zb_some h
              refine xcallVi (pc := 101) (As := []) (rest := []) ⟨hx, hb, hml, hown, hts⟩ (c_X12_good l D c o g N hv) zc12 zV_X12_157 rfl zd_X12_good ⟨Nat.le_of_ble_eq_true rfl, Nat.le_of_ble_eq_true rfl⟩ hK hP hE hS hg hl.1 rfl (Nat.le_of_ble_eq_true rfl) ⟨Nat.zero_le _, Nat.zero_le _⟩ dX12_world_101 (fun H locs hP hS => ?_)
              refine lv_if_ne (pc := 104) (tgt := 110) hx hb dX12_world_104 (by decide) (fun c1 => ?_) (fun c1 => ?_)
              · rw [if_neg c1] at h
                refine lv_iconst (pc := 110) (v := 0) hx hb dX12_world_110 (by decide) ?_
                refine lv_istore_n (pc := 111) (lv' := [(1, .int 0), (0, .ref (o + x0))]) hx hb dX12_world_111 rfl hl (by decide) rfl (fun ls hl => ?_)
                have L112_11 : ∀ (n : Nat) (t : Int32 × zS), zlp (F_X12_world_112 N x0) n t = some ρ → ∀ (H : Heap) (locs : List Loc) (ls : Array Slot), zP D c o (zabs o (t.2)) H → va_S (zA o) s.heap H locs → lv_has ls 2 [(1, .int (t.1)), (0, .ref (o + x0))] → W p l e (zr 26) s m (([.ref (o + x0)] : List Value).toArray) below meth cd H locs 0 0 (MQ below (zQi D c o g ρ) (([.ref (o + x0)] : List Value).toArray) s 0 0 (zA o)) (F0 m 112 ls []) := by
                  refine zlp_ind (fun ag11 ih11 t h H locs ls hP hS hl => ?_)
                  obtain ⟨x1_11, σ11⟩ := t
                  have hP : zP D c o (zabs o σ11) H := hP
                  have hl : lv_has ls 2 [(1, .int x1_11), (0, .ref (o + x0))] := hl
                  rw [F_X12_world_112.eq_1] at h
                  show W p l e (zr 26) s m (([.ref (o + x0)] : List Value).toArray) below meth cd H locs 0 0 (MQ below (zQi D c o g ρ) (([.ref (o + x0)] : List Value).toArray) s 0 0 (zA o)) (F0 m 112 ls [])
                  refine lv_iload_n (pc := 112) hx hb dX12_world_112 rfl (lv_at hl 0 rfl) ?_
                  refine lv_bipush (pc := 113) (v := 43) hx hb dX12_world_113 (by decide) ?_
                  refine lv_icmp_ge (pc := 115) (tgt := 136) hx hb dX12_world_115 (by decide) (fun c1 => ?_) (fun c1 => ?_)
                  · rw [if_pos c1] at h
                    refine lv_iconst (pc := 136) (v := 0) hx hb dX12_world_136 (by decide) ?_
                    refine lv_istore_n (pc := 137) (lv' := [(1, .int 0), (0, .ref (o + x0))]) hx hb dX12_world_137 rfl hl (by decide) rfl (fun ls hl => ?_)
                    have L138_12 : ∀ (n : Nat) (t : Int32 × zS), zlp (F_X12_world_138 N x0) n t = some ρ → ∀ (H : Heap) (locs : List Loc) (ls : Array Slot), zP D c o (zabs o (t.2)) H → va_S (zA o) s.heap H locs → lv_has ls 2 [(1, .int (t.1)), (0, .ref (o + x0))] → W p l e (zr 26) s m (([.ref (o + x0)] : List Value).toArray) below meth cd H locs 0 0 (MQ below (zQi D c o g ρ) (([.ref (o + x0)] : List Value).toArray) s 0 0 (zA o)) (F0 m 138 ls []) := by
                      refine zlp_ind (fun ag12 ih12 t h H locs ls hP hS hl => ?_)
                      obtain ⟨x1_12, σ12⟩ := t
                      have hP : zP D c o (zabs o σ12) H := hP
                      have hl : lv_has ls 2 [(1, .int x1_12), (0, .ref (o + x0))] := hl
                      rw [F_X12_world_138.eq_1] at h
                      show W p l e (zr 26) s m (([.ref (o + x0)] : List Value).toArray) below meth cd H locs 0 0 (MQ below (zQi D c o g ρ) (([.ref (o + x0)] : List Value).toArray) s 0 0 (zA o)) (F0 m 138 ls [])
                      refine lv_iload_n (pc := 138) hx hb dX12_world_138 rfl (lv_at hl 0 rfl) ?_
                      refine lv_sipush (pc := 139) (v := 10240) hx hb dX12_world_139 (by decide) ?_
                      refine lv_icmp_ge (pc := 142) (tgt := 163) hx hb dX12_world_142 (by decide) (fun c1 => ?_) (fun c1 => ?_)
                      · rw [if_pos c1] at h
                        refine lv_aload_n (pc := 163) hx hb dX12_world_163 rfl (lv_at hl 1 rfl) ?_
                        obtain ⟨v13, hv, h⟩ := zl_some h
                        refine xgR (pc := 164) (j := 1) zc12 hx hb hts hown hK hP hv rfl zf_X12_9 dX12_world_164 ?_
                        refine lv_iconst (pc := 167) (v := 1) hx hb dX12_world_167 (by decide) ?_
                        obtain ⟨v14, hv, h⟩ := zl_some h
                        refine xaI (pc := 168) hx hb hK hP hv dX12_world_168 ?_
                        exact xreti (pc := 169) hx hb hr hlocks hP hK hE hS h dX12_world_169
                      · rw [if_neg c1] at h
                        refine lv_aload_n (pc := 145) hx hb dX12_world_145 rfl (lv_at hl 1 rfl) ?_
                        obtain ⟨v15, hv, h⟩ := zl_some h
                        refine xgR (pc := 146) (j := 2) zc12 hx hb hts hown hK hP hv rfl zf_X12_13 dX12_world_146 ?_
                        refine lv_iload_n (pc := 149) hx hb dX12_world_149 rfl (lv_at hl 0 rfl) ?_
                        refine lv_aload_n (pc := 150) hx hb dX12_world_150 rfl (lv_at hl 1 rfl) ?_
                        obtain ⟨v16, hv, h⟩ := zl_some h
                        refine xgR (pc := 151) (j := 27) zc12 hx hb hts hown hK hP hv rfl zf_X12_55 dX12_world_151 ?_
                        refine lv_iload_n (pc := 154) hx hb dX12_world_154 rfl (lv_at hl 0 rfl) ?_
                        obtain ⟨v17, hv, h⟩ := zl_some h
                        refine xaZ (pc := 155) hx hb hK hP hv dX12_world_155 ?_
                        obtain ⟨σ18, hv, h⟩ := zl_some h
                        refine xsZ (pc := 156) hx hb hK hP hS hv dX12_world_156 (fun H locs hP hS => ?_)
                        refine lv_iinc (pc := 157) (v := x1_12 + 1) (lv' := [(1, .int (x1_12 + 1)), (0, .ref (o + x0))]) hx hb dX12_world_157 hl (k := 0) rfl rfl (by decide) rfl (fun ls hl => ?_)
                        refine lv_goto (pc := 160) (tgt := 138) hx hb dX12_world_160 (by decide) ?_
                        exact ih12 (x1_12 + 1, σ18) h _ _ ls hP hS (lv_sub hl [0, 1] rfl)
                    exact L138_12 N (0, σ11) h _ _ ls hP hS (lv_sub hl [0, 1] rfl)
                  · rw [if_neg c1] at h
                    refine lv_aload_n (pc := 118) hx hb dX12_world_118 rfl (lv_at hl 1 rfl) ?_
                    obtain ⟨v19, hv, h⟩ := zl_some h
                    refine xgR (pc := 119) (j := 1) zc12 hx hb hts hown hK hP hv rfl zf_X12_9 dX12_world_119 ?_
                    refine lv_iload_n (pc := 122) hx hb dX12_world_122 rfl (lv_at hl 0 rfl) ?_
                    refine lv_aload_n (pc := 123) hx hb dX12_world_123 rfl (lv_at hl 1 rfl) ?_
                    obtain ⟨v20, hv, h⟩ := zl_some h
                    refine xgR (pc := 124) (j := 26) zc12 hx hb hts hown hK hP hv rfl zf_X12_52 dX12_world_124 ?_
                    refine lv_iload_n (pc := 127) hx hb dX12_world_127 rfl (lv_at hl 0 rfl) ?_
                    obtain ⟨v21, hv, h⟩ := zl_some h
                    refine xaI (pc := 128) hx hb hK hP hv dX12_world_128 ?_
                    obtain ⟨σ22, hv, h⟩ := zl_some h
                    refine xsI (pc := 129) hx hb hK hP hS hv dX12_world_129 (fun H locs hP hS => ?_)
                    refine lv_iinc (pc := 130) (v := x1_11 + 1) (lv' := [(1, .int (x1_11 + 1)), (0, .ref (o + x0))]) hx hb dX12_world_130 hl (k := 0) rfl rfl (by decide) rfl (fun ls hl => ?_)
                    refine lv_goto (pc := 133) (tgt := 112) hx hb dX12_world_133 (by decide) ?_
                    exact ih11 (x1_11 + 1, σ22) h _ _ ls hP hS (lv_sub hl [0, 1] rfl)
                exact L112_11 N (0, σ10) h _ _ ls hP hS (lv_sub hl [0, 1] rfl)
              · rw [if_pos c1] at h
                refine lv_bipush (pc := 107) (v := (-4)) hx hb dX12_world_107 (by decide) ?_
                exact xreti (pc := 109) hx hb hr hlocks hP hK hE hS h dX12_world_109
            refine lv_if_eq (pc := 51) (tgt := 100) hx hb dX12_world_51 (by decide) (fun c1 => ?_) (fun c1 => ?_)
            · rw [if_pos c1] at h
              exact hj100_8 σ7 h _ _ ls hP hS (lv_sub hl [0] rfl)
            · rw [if_neg c1] at h
              refine lv_aload_n (pc := 54) hx hb dX12_world_54 rfl (lv_at hl 0 rfl) ?_
              obtain ⟨v23, hv, h⟩ := zl_some h
              refine xgI (pc := 55) (j := 12) zc12 hx hb hts hown hK hP hv rfl zf_X12_123 dX12_world_55 ?_
              refine lv_if_eq (pc := 58) (tgt := 100) hx hb dX12_world_58 (by decide) (fun c1 => ?_) (fun c1 => ?_)
              · rw [if_pos c1] at h
                exact hj100_8 σ7 h _ _ ls hP hS (lv_sub hl [0] rfl)
              · rw [if_neg c1] at h
                refine lv_aload_n (pc := 61) hx hb dX12_world_61 rfl (lv_at hl 0 rfl) ?_
                obtain ⟨v24, hv, h⟩ := zl_some h
                refine xgR (pc := 62) (j := 26) zc12 hx hb hts hown hK hP hv rfl zf_X12_52 dX12_world_62 ?_
                refine lv_iconst (pc := 65) (v := 1) hx hb dX12_world_65 (by decide) ?_
                obtain ⟨v25, hv, h⟩ := zl_some h
                refine xaI (pc := 66) hx hb hK hP hv dX12_world_66 ?_
                refine lv_if_ne (pc := 67) (tgt := 77) hx hb dX12_world_67 (by decide) (fun c1 => ?_) (fun c1 => ?_)
                · rw [if_neg c1] at h
                  refine lv_aload_n (pc := 77) hx hb dX12_world_77 rfl (lv_at hl 0 rfl) ?_
                  obtain ⟨_, hg, h⟩ := zl_some h
                  obtain ⟨v26, σ27, hv, h⟩ := zb_some h
                  refine xcallVv (pc := 78) (As := []) (rest := []) ⟨hx, hb, hml, hown, hts⟩ (c_X12_readsLine l D c o g N hv) zc12 zV_X12_311 rfl zd_X12_readsLine ⟨Nat.le_of_ble_eq_true rfl, Nat.le_of_ble_eq_true rfl⟩ hK hP hE hS hg hl.1 rfl (Nat.le_of_ble_eq_true rfl) ⟨Nat.zero_le _, Nat.zero_le _⟩ dX12_world_78 (fun H locs hP hS => ?_)
                  refine lv_aload_n (pc := 81) hx hb dX12_world_81 rfl (lv_at hl 0 rfl) ?_
                  refine lv_bipush (pc := 82) (v := 59) hx hb dX12_world_82 (by decide) ?_
                  obtain ⟨_, hg, h⟩ := zl_some h
                  obtain ⟨v28, σ29, hv, h⟩ := zb_some h
                  refine xcallVv (pc := 84) (As := [.int 59]) (rest := []) ⟨hx, hb, hml, hown, hts⟩ (c_X12_needsSign l D c o g N hv) zc12 zV_X12_251 rfl zd_X12_needsSign ⟨Nat.le_of_ble_eq_true rfl, Nat.le_of_ble_eq_true rfl⟩ hK hP hE hS hg hl.1 rfl (Nat.le_of_ble_eq_true rfl) ⟨Nat.zero_le _, Nat.zero_le _⟩ dX12_world_84 (fun H locs hP hS => ?_)
                  refine lv_aload_n (pc := 87) hx hb dX12_world_87 rfl (lv_at hl 0 rfl) ?_
                  obtain ⟨v30, hv, h⟩ := zl_some h
                  refine xgR (pc := 88) (j := 26) zc12 hx hb hts hown hK hP hv rfl zf_X12_52 dX12_world_88 ?_
                  refine lv_iconst (pc := 91) (v := 1) hx hb dX12_world_91 (by decide) ?_
                  refine lv_dup2_11 (pc := 92) hx hb dX12_world_92 rfl rfl ?_
                  obtain ⟨v31, hv, h⟩ := zl_some h
                  refine xaI (pc := 93) hx hb hK hP hv dX12_world_93 ?_
                  refine lv_iconst (pc := 94) (v := 1) hx hb dX12_world_94 (by decide) ?_
                  refine lv_iadd (pc := 95) hx hb dX12_world_95 ?_
                  obtain ⟨σ32, hv, h⟩ := zl_some h
                  refine xsI (pc := 96) hx hb hK hP hS hv dX12_world_96 (fun H locs hP hS => ?_)
                  refine lv_goto (pc := 97) (tgt := 47) hx hb dX12_world_97 (by decide) ?_
                  exact ih5 σ32 h _ _ ls hP hS (lv_sub hl [0] rfl)
                · rw [if_pos c1] at h
                  refine lv_aload_n (pc := 70) hx hb dX12_world_70 rfl (lv_at hl 0 rfl) ?_
                  obtain ⟨_, hg, h⟩ := zl_some h
                  obtain ⟨v33, σ34, hv, h⟩ := zb_some h
                  refine xcallVv (pc := 71) (As := []) (rest := []) ⟨hx, hb, hml, hown, hts⟩ (c_X12_readsNames l D c o g N hv) zc12 zV_X12_308 rfl zd_X12_readsNames ⟨Nat.le_of_ble_eq_true rfl, Nat.le_of_ble_eq_true rfl⟩ hK hP hE hS hg hl.1 rfl (Nat.le_of_ble_eq_true rfl) ⟨Nat.zero_le _, Nat.zero_le _⟩ dX12_world_71 (fun H locs hP hS => ?_)
                  refine lv_goto (pc := 74) (tgt := 81) hx hb dX12_world_74 (by decide) ?_
                  refine lv_aload_n (pc := 81) hx hb dX12_world_81 rfl (lv_at hl 0 rfl) ?_
                  refine lv_bipush (pc := 82) (v := 59) hx hb dX12_world_82 (by decide) ?_
                  obtain ⟨_, hg, h⟩ := zl_some h
                  obtain ⟨v35, σ36, hv, h⟩ := zb_some h
                  refine xcallVv (pc := 84) (As := [.int 59]) (rest := []) ⟨hx, hb, hml, hown, hts⟩ (c_X12_needsSign l D c o g N hv) zc12 zV_X12_251 rfl zd_X12_needsSign ⟨Nat.le_of_ble_eq_true rfl, Nat.le_of_ble_eq_true rfl⟩ hK hP hE hS hg hl.1 rfl (Nat.le_of_ble_eq_true rfl) ⟨Nat.zero_le _, Nat.zero_le _⟩ dX12_world_84 (fun H locs hP hS => ?_)
                  refine lv_aload_n (pc := 87) hx hb dX12_world_87 rfl (lv_at hl 0 rfl) ?_
                  obtain ⟨v37, hv, h⟩ := zl_some h
                  refine xgR (pc := 88) (j := 26) zc12 hx hb hts hown hK hP hv rfl zf_X12_52 dX12_world_88 ?_
                  refine lv_iconst (pc := 91) (v := 1) hx hb dX12_world_91 (by decide) ?_
                  refine lv_dup2_11 (pc := 92) hx hb dX12_world_92 rfl rfl ?_
                  obtain ⟨v38, hv, h⟩ := zl_some h
                  refine xaI (pc := 93) hx hb hK hP hv dX12_world_93 ?_
                  refine lv_iconst (pc := 94) (v := 1) hx hb dX12_world_94 (by decide) ?_
                  refine lv_iadd (pc := 95) hx hb dX12_world_95 ?_
                  obtain ⟨σ39, hv, h⟩ := zl_some h
                  refine xsI (pc := 96) hx hb hK hP hS hv dX12_world_96 (fun H locs hP hS => ?_)
                  refine lv_goto (pc := 97) (tgt := 47) hx hb dX12_world_97 (by decide) ?_
                  exact ih5 σ39 h _ _ ls hP hS (lv_sub hl [0] rfl)
          exact L47_5 N σ4 h _ _ ls hP hS (lv_sub hl [1] rfl)
        · rw [if_neg c1] at h
          refine lv_aload_n (pc := 34) hx hb dX12_world_34 rfl (lv_at hl 1 rfl) ?_
          obtain ⟨v40, hv, h⟩ := zl_some h
          refine xgR (pc := 35) (j := 27) zc12 hx hb hts hown hK hP hv rfl zf_X12_55 dX12_world_35 ?_
          refine lv_iload_n (pc := 38) hx hb dX12_world_38 rfl (lv_at hl 0 rfl) ?_
          refine lv_iconst (pc := 39) (v := 0) hx hb dX12_world_39 (by decide) ?_
          obtain ⟨σ41, hv, h⟩ := zl_some h
          refine xsZ (pc := 40) hx hb hK hP hS hv dX12_world_40 (fun H locs hP hS => ?_)
          refine lv_iinc (pc := 41) (v := x1_4 + 1) (lv' := [(1, .int (x1_4 + 1)), (0, .ref (o + x0))]) hx hb dX12_world_41 hl (k := 0) rfl rfl (by decide) rfl (fun ls hl => ?_)
          refine lv_goto (pc := 44) (tgt := 27) hx hb dX12_world_44 (by decide) ?_
          exact ih4 (x1_4 + 1, σ41) h _ _ ls hP hS (lv_sub hl [0, 1] rfl)
      exact L27_4 N (0, σ3) h _ _ ls hP hS (lv_sub hl [0, 1] rfl)
    · rw [if_neg c1] at h
      refine lv_aload_n (pc := 12) hx hb dX12_world_12 rfl (lv_at hl 1 rfl) ?_
      obtain ⟨v42, hv, h⟩ := zl_some h
      refine xgR (pc := 13) (j := 26) zc12 hx hb hts hown hK hP hv rfl zf_X12_52 dX12_world_13 ?_
      refine lv_iload_n (pc := 16) hx hb dX12_world_16 rfl (lv_at hl 0 rfl) ?_
      refine lv_iconst (pc := 17) (v := 0) hx hb dX12_world_17 (by decide) ?_
      obtain ⟨σ43, hv, h⟩ := zl_some h
      refine xsI (pc := 18) hx hb hK hP hS hv dX12_world_18 (fun H locs hP hS => ?_)
      refine lv_iinc (pc := 19) (v := x1_3 + 1) (lv' := [(1, .int (x1_3 + 1)), (0, .ref (o + x0))]) hx hb dX12_world_19 hl (k := 0) rfl rfl (by decide) rfl (fun ls hl => ?_)
      refine lv_goto (pc := 22) (tgt := 6) hx hb dX12_world_22 (by decide) ?_
      exact ih3 (x1_3 + 1, σ43) h _ _ ls hP hS (lv_sub hl [0, 1] rfl)
  exact L6_3 N (0, σ2) h _ _ ls hP hS (lv_sub hl [0, 1] rfl)
def F_X12_sizeOf_4 (N : Nat) (x0 : Nat) (x1 : Int32) (again4 : (Int32 × Int32 × zS) → Option (Int32 × zS)) : Int32 × Int32 × zS → Option (Int32 × zS)
  | (x2, x3, σ) =>
  zl (gC 12 x0) fun _ => zb (f_X12_many N x0 σ) fun v1 σ2 =>
  if v1 ≤ x3 then
    (some (x2, σ2))
  else
    (zl (gC 12 x0) fun _ => zb (f_X12_of N x0 x1 x3 σ2) fun v3 σ4 =>
    if v3 = 0 then
      (again4 (x2 + 0, x3 + 1, σ4))
    else
      (again4 (x2 + 1, x3 + 1, σ4)))
def f_X12_sizeOf (N : Nat) (x0 : Nat) (x1 : Int32) (σ : zS) : Option (Int32 × zS) :=
  zlp (F_X12_sizeOf_4 N x0 x1) N (0, 0, σ)
set_option maxHeartbeats 4000000 in
set_option maxRecDepth 100000 in
theorem c_X12_sizeOf (l : Launch) (D : va_G) (c : zC) (o : Nat) (g : zEp) (N : Nat) {x0 : Nat} {x1 : Int32} {σ : zS} {ρ : Int32 × zS} (h : f_X12_sizeOf N x0 x1 σ = some ρ) : Met l yX12_sizeOf zs_X12_sizeOf (zr 6) (va_Pc [.ref (o + x0), .int x1] (zG D c o g σ)) (zQi D c o g ρ) 0 0 (zA o) := by
  refine zMetG (by decide) (Nat.le_of_ble_eq_true rfl) ?_
  intro p e s m below meth cd ⟨hx, hb, hr, hml, hown, hts, hlocks⟩ hP hK hE ls hl
  have hS : va_S (zA o) s.heap s.heap [] := va_S.rf
  have hl : lv_has ls 4 [(0, .ref (o + x0)), (1, .int x1)] := hl
  rw [f_X12_sizeOf.eq_1] at h
  refine lv_iconst (pc := 0) (v := 0) hx hb dX12_sizeOf_0 (by decide) ?_
  refine lv_istore_n (pc := 1) (lv' := [(2, .int 0), (0, .ref (o + x0)), (1, .int x1)]) hx hb dX12_sizeOf_1 rfl hl (by decide) rfl (fun ls hl => ?_)
  refine lv_iconst (pc := 2) (v := 0) hx hb dX12_sizeOf_2 (by decide) ?_
  refine lv_istore_n (pc := 3) (lv' := [(3, .int 0), (2, .int 0), (0, .ref (o + x0)), (1, .int x1)]) hx hb dX12_sizeOf_3 rfl hl (by decide) rfl (fun ls hl => ?_)
  have L4_1 : ∀ (n : Nat) (t : Int32 × Int32 × zS), zlp (F_X12_sizeOf_4 N x0 x1) n t = some ρ → ∀ (H : Heap) (locs : List Loc) (ls : Array Slot), zP D c o (zabs o (t.2.2)) H → va_S (zA o) s.heap H locs → lv_has ls 4 [(2, .int (t.1)), (3, .int (t.2.1)), (0, .ref (o + x0)), (1, .int x1)] → W p l e (zr 6) s m (([.ref (o + x0), .int x1] : List Value).toArray) below meth cd H locs 0 0 (MQ below (zQi D c o g ρ) (([.ref (o + x0), .int x1] : List Value).toArray) s 0 0 (zA o)) (F0 m 4 ls []) := by
    refine zlp_ind (fun ag1 ih1 t h H locs ls hP hS hl => ?_)
    obtain ⟨x2_1, x3_1, σ1⟩ := t
    have hP : zP D c o (zabs o σ1) H := hP
    have hl : lv_has ls 4 [(2, .int x2_1), (3, .int x3_1), (0, .ref (o + x0)), (1, .int x1)] := hl
    rw [F_X12_sizeOf_4.eq_1] at h
    show W p l e (zr 6) s m (([.ref (o + x0), .int x1] : List Value).toArray) below meth cd H locs 0 0 (MQ below (zQi D c o g ρ) (([.ref (o + x0), .int x1] : List Value).toArray) s 0 0 (zA o)) (F0 m 4 ls [])
    refine lv_iload_n (pc := 4) hx hb dX12_sizeOf_4 rfl (lv_at hl 1 rfl) ?_
    refine lv_aload_n (pc := 5) hx hb dX12_sizeOf_5 rfl (lv_at hl 2 rfl) ?_
    obtain ⟨_, hg, h⟩ := zl_some h
    obtain ⟨v2, σ3, hv, h⟩ := zb_some h
    refine xcallVi (pc := 6) (As := []) (rest := [.int x3_1]) ⟨hx, hb, hml, hown, hts⟩ (c_X12_many l D c o g N hv) zc12 zV_X12_104 rfl zd_X12_many ⟨Nat.le_of_ble_eq_true rfl, Nat.le_of_ble_eq_true rfl⟩ hK hP hE hS hg hl.1 rfl (Nat.le_of_ble_eq_true rfl) ⟨Nat.zero_le _, Nat.zero_le _⟩ dX12_sizeOf_6 (fun H locs hP hS => ?_)
    refine lv_icmp_ge (pc := 9) (tgt := 35) hx hb dX12_sizeOf_9 (by decide) (fun c1 => ?_) (fun c1 => ?_)
    · rw [if_pos c1] at h
      refine lv_iload_n (pc := 35) hx hb dX12_sizeOf_35 rfl (lv_at hl 0 rfl) ?_
      exact xreti (pc := 36) hx hb hr hlocks hP hK hE hS h dX12_sizeOf_36
    · rw [if_neg c1] at h
      refine lv_iload_n (pc := 12) hx hb dX12_sizeOf_12 rfl (lv_at hl 0 rfl) ?_
      refine lv_aload_n (pc := 13) hx hb dX12_sizeOf_13 rfl (lv_at hl 2 rfl) ?_
      refine lv_iload_n (pc := 14) hx hb dX12_sizeOf_14 rfl (lv_at hl 3 rfl) ?_
      refine lv_iload_n (pc := 15) hx hb dX12_sizeOf_15 rfl (lv_at hl 1 rfl) ?_
      obtain ⟨_, hg, h⟩ := zl_some h
      obtain ⟨v4, σ5, hv, h⟩ := zb_some h
      refine xcallVi (pc := 16) (As := [.int x1, .int x3_1]) (rest := [.int x2_1]) ⟨hx, hb, hml, hown, hts⟩ (c_X12_of l D c o g N hv) zc12 zV_X12_314 rfl zd_X12_of ⟨Nat.le_of_ble_eq_true rfl, Nat.le_of_ble_eq_true rfl⟩ hK hP hE hS hg hl.1 rfl (Nat.le_of_ble_eq_true rfl) ⟨Nat.zero_le _, Nat.zero_le _⟩ dX12_sizeOf_16 (fun H locs hP hS => ?_)
      refine lv_if_eq (pc := 19) (tgt := 26) hx hb dX12_sizeOf_19 (by decide) (fun c1 => ?_) (fun c1 => ?_)
      · rw [if_pos c1] at h
        refine lv_iconst (pc := 26) (v := 0) hx hb dX12_sizeOf_26 (by decide) ?_
        refine lv_iadd (pc := 27) hx hb dX12_sizeOf_27 ?_
        refine lv_istore_n (pc := 28) (lv' := [(2, .int (x2_1 + 0)), (3, .int x3_1), (0, .ref (o + x0)), (1, .int x1)]) hx hb dX12_sizeOf_28 rfl hl (by decide) rfl (fun ls hl => ?_)
        refine lv_iinc (pc := 29) (v := x3_1 + 1) (lv' := [(3, .int (x3_1 + 1)), (2, .int (x2_1 + 0)), (0, .ref (o + x0)), (1, .int x1)]) hx hb dX12_sizeOf_29 hl (k := 1) rfl rfl (by decide) rfl (fun ls hl => ?_)
        refine lv_goto (pc := 32) (tgt := 4) hx hb dX12_sizeOf_32 (by decide) ?_
        exact ih1 (x2_1 + 0, x3_1 + 1, σ5) h _ _ ls hP hS (lv_sub hl [1, 0, 2, 3] rfl)
      · rw [if_neg c1] at h
        refine lv_iconst (pc := 22) (v := 1) hx hb dX12_sizeOf_22 (by decide) ?_
        refine lv_goto (pc := 23) (tgt := 27) hx hb dX12_sizeOf_23 (by decide) ?_
        refine lv_iadd (pc := 27) hx hb dX12_sizeOf_27 ?_
        refine lv_istore_n (pc := 28) (lv' := [(2, .int (x2_1 + 1)), (3, .int x3_1), (0, .ref (o + x0)), (1, .int x1)]) hx hb dX12_sizeOf_28 rfl hl (by decide) rfl (fun ls hl => ?_)
        refine lv_iinc (pc := 29) (v := x3_1 + 1) (lv' := [(3, .int (x3_1 + 1)), (2, .int (x2_1 + 1)), (0, .ref (o + x0)), (1, .int x1)]) hx hb dX12_sizeOf_29 hl (k := 1) rfl rfl (by decide) rfl (fun ls hl => ?_)
        refine lv_goto (pc := 32) (tgt := 4) hx hb dX12_sizeOf_32 (by decide) ?_
        exact ih1 (x2_1 + 1, x3_1 + 1, σ5) h _ _ ls hP hS (lv_sub hl [1, 0, 2, 3] rfl)
  exact L4_1 N (0, 0, σ) h _ _ ls hP hS (lv_sub hl [1, 0, 2, 3] rfl)
def F_X12_lays_2 (N : Nat) (x0 : Nat) (x1 : Int32) (again2 : (Int32 × zS) → Option (Int32 × zS)) : Int32 × zS → Option (Int32 × zS)
  | (x2, σ) =>
  if 1024 ≤ x2 then
    (zl (gC 12 x0) fun _ => zb (f_X12_sizeOf N x0 x1 σ) fun v1 σ2 =>
    some (v1, σ2))
  else
    (zl (gR 12 2 x0 σ) fun v3 =>
    zl (gR 12 17 x0 σ) fun v4 =>
    zl (aI 16 v4 x2 σ) fun v5 =>
    zl (sI 16 v3 ((1024 * x1) + x2) v5 σ) fun σ6 =>
    again2 (x2 + 1, σ6))
def f_X12_lays (N : Nat) (x0 : Nat) (x1 : Int32) (σ : zS) : Option (Int32 × zS) :=
  zlp (F_X12_lays_2 N x0 x1) N (0, σ)
set_option maxHeartbeats 4000000 in
set_option maxRecDepth 100000 in
theorem c_X12_lays (l : Launch) (D : va_G) (c : zC) (o : Nat) (g : zEp) (N : Nat) {x0 : Nat} {x1 : Int32} {σ : zS} {ρ : Int32 × zS} (h : f_X12_lays N x0 x1 σ = some ρ) : Met l yX12_lays zs_X12_lays (zr 8) (va_Pc [.ref (o + x0), .int x1] (zG D c o g σ)) (zQi D c o g ρ) 0 0 (zA o) := by
  refine zMetG (by decide) (Nat.le_of_ble_eq_true rfl) ?_
  intro p e s m below meth cd ⟨hx, hb, hr, hml, hown, hts, hlocks⟩ hP hK hE ls hl
  have hS : va_S (zA o) s.heap s.heap [] := va_S.rf
  have hl : lv_has ls 3 [(0, .ref (o + x0)), (1, .int x1)] := hl
  rw [f_X12_lays.eq_1] at h
  refine lv_iconst (pc := 0) (v := 0) hx hb dX12_lays_0 (by decide) ?_
  refine lv_istore_n (pc := 1) (lv' := [(2, .int 0), (0, .ref (o + x0)), (1, .int x1)]) hx hb dX12_lays_1 rfl hl (by decide) rfl (fun ls hl => ?_)
  have L2_1 : ∀ (n : Nat) (t : Int32 × zS), zlp (F_X12_lays_2 N x0 x1) n t = some ρ → ∀ (H : Heap) (locs : List Loc) (ls : Array Slot), zP D c o (zabs o (t.2)) H → va_S (zA o) s.heap H locs → lv_has ls 3 [(2, .int (t.1)), (0, .ref (o + x0)), (1, .int x1)] → W p l e (zr 8) s m (([.ref (o + x0), .int x1] : List Value).toArray) below meth cd H locs 0 0 (MQ below (zQi D c o g ρ) (([.ref (o + x0), .int x1] : List Value).toArray) s 0 0 (zA o)) (F0 m 2 ls []) := by
    refine zlp_ind (fun ag1 ih1 t h H locs ls hP hS hl => ?_)
    obtain ⟨x2_1, σ1⟩ := t
    have hP : zP D c o (zabs o σ1) H := hP
    have hl : lv_has ls 3 [(2, .int x2_1), (0, .ref (o + x0)), (1, .int x1)] := hl
    rw [F_X12_lays_2.eq_1] at h
    show W p l e (zr 8) s m (([.ref (o + x0), .int x1] : List Value).toArray) below meth cd H locs 0 0 (MQ below (zQi D c o g ρ) (([.ref (o + x0), .int x1] : List Value).toArray) s 0 0 (zA o)) (F0 m 2 ls [])
    refine lv_iload_n (pc := 2) hx hb dX12_lays_2 rfl (lv_at hl 0 rfl) ?_
    refine lv_sipush (pc := 3) (v := 1024) hx hb dX12_lays_3 (by decide) ?_
    refine lv_icmp_ge (pc := 6) (tgt := 33) hx hb dX12_lays_6 (by decide) (fun c1 => ?_) (fun c1 => ?_)
    · rw [if_pos c1] at h
      refine lv_aload_n (pc := 33) hx hb dX12_lays_33 rfl (lv_at hl 1 rfl) ?_
      refine lv_iload_n (pc := 34) hx hb dX12_lays_34 rfl (lv_at hl 2 rfl) ?_
      obtain ⟨_, hg, h⟩ := zl_some h
      obtain ⟨v2, σ3, hv, h⟩ := zb_some h
      refine xcallVi (pc := 35) (As := [.int x1]) (rest := []) ⟨hx, hb, hml, hown, hts⟩ (c_X12_sizeOf l D c o g N hv) zc12 zV_X12_318 rfl zd_X12_sizeOf ⟨Nat.le_of_ble_eq_true rfl, Nat.le_of_ble_eq_true rfl⟩ hK hP hE hS hg hl.1 rfl (Nat.le_of_ble_eq_true rfl) ⟨Nat.zero_le _, Nat.zero_le _⟩ dX12_lays_35 (fun H locs hP hS => ?_)
      exact xreti (pc := 38) hx hb hr hlocks hP hK hE hS h dX12_lays_38
    · rw [if_neg c1] at h
      refine lv_aload_n (pc := 9) hx hb dX12_lays_9 rfl (lv_at hl 1 rfl) ?_
      obtain ⟨v4, hv, h⟩ := zl_some h
      refine xgR (pc := 10) (j := 2) zc12 hx hb hts hown hK hP hv rfl zf_X12_13 dX12_lays_10 ?_
      refine lv_sipush (pc := 13) (v := 1024) hx hb dX12_lays_13 (by decide) ?_
      refine lv_iload_n (pc := 16) hx hb dX12_lays_16 rfl (lv_at hl 2 rfl) ?_
      refine lv_imul (pc := 17) hx hb dX12_lays_17 ?_
      refine lv_iload_n (pc := 18) hx hb dX12_lays_18 rfl (lv_at hl 0 rfl) ?_
      refine lv_iadd (pc := 19) hx hb dX12_lays_19 ?_
      refine lv_aload_n (pc := 20) hx hb dX12_lays_20 rfl (lv_at hl 1 rfl) ?_
      obtain ⟨v5, hv, h⟩ := zl_some h
      refine xgR (pc := 21) (j := 17) zc12 hx hb hts hown hK hP hv rfl zf_X12_40 dX12_lays_21 ?_
      refine lv_iload_n (pc := 24) hx hb dX12_lays_24 rfl (lv_at hl 0 rfl) ?_
      obtain ⟨v6, hv, h⟩ := zl_some h
      refine xaZ (pc := 25) hx hb hK hP hv dX12_lays_25 ?_
      obtain ⟨σ7, hv, h⟩ := zl_some h
      refine xsZ (pc := 26) hx hb hK hP hS hv dX12_lays_26 (fun H locs hP hS => ?_)
      refine lv_iinc (pc := 27) (v := x2_1 + 1) (lv' := [(2, .int (x2_1 + 1)), (0, .ref (o + x0)), (1, .int x1)]) hx hb dX12_lays_27 hl (k := 0) rfl rfl (by decide) rfl (fun ls hl => ?_)
      refine lv_goto (pc := 30) (tgt := 2) hx hb dX12_lays_30 (by decide) ?_
      exact ih1 (x2_1 + 1, σ7) h _ _ ls hP hS (lv_sub hl [0, 1, 2] rfl)
  exact L2_1 N (0, σ) h _ _ ls hP hS (lv_sub hl [0, 1, 2] rfl)
def F_X12_put_65 (N : Nat) (x0 : Nat) (x1 : Int32) (again65 : (Int32 × zS) → Option (Int32 × zS)) : Int32 × zS → Option (Int32 × zS)
  | (x2, σ) =>
  if 1024 ≤ x2 then
    (zl (gC 12 x0) fun _ => zb (f_X12_lays N x0 x1 σ) fun v15 σ16 =>
    some (v15, σ16))
  else
    (zl (gR 12 17 x0 σ) fun v17 =>
    zl (gR 12 16 x0 σ) fun v18 =>
    zl (aI 16 v18 x2 σ) fun v19 =>
    zl (sI 16 v17 x2 v19 σ) fun σ20 =>
    again65 (x2 + 1, σ20))
def J_X12_put_53 (N : Nat) (x0 : Nat) (x1 : Int32) (σ : zS) : Option (Int32 × zS) :=
  zl (gC 12 x0) fun _ => zb (f_X12_good N x0 σ) fun v13 σ14 =>
  if v13 = 0 then
    (some ((-4), σ14))
  else
    (zlp (F_X12_put_65 N x0 x1) N (0, σ14))
def f_X12_put (N : Nat) (x0 : Nat) (x1 : Int32) (σ : zS) : Option (Int32 × zS) :=
  zl (gC 12 x0) fun _ => zb (f_X12_isRegister N x0 x1 σ) fun v1 σ2 =>
  if v1 = 0 then
    (zl (pI 12 7 x0 0 σ2) fun σ3 =>
    some ((-2), σ3))
  else
    (zl (gC 12 x0) fun _ => zb (f_X12_begins N x0 σ2) fun v4 σ5 =>
    zl (gR 12 1 x0 σ5) fun v6 =>
    zl (aI 14 v6 0 σ5) fun v7 =>
    zl (gR 12 2 x0 σ5) fun v8 =>
    zl (gC 12 x0) fun _ => zb (f_X12_readsSum N x0 v7 v8 σ5) fun v9 σ10 =>
    zl (gC 12 x0) fun _ => zb (f_X12_good N x0 σ10) fun v11 σ12 =>
    if v11 = 0 then
      (J_X12_put_53 N x0 x1 σ12)
    else
      (zl (gI 12 12 x0 σ12) fun v21 =>
      if v21 = 0 then
        (J_X12_put_53 N x0 x1 σ12)
      else
        (zl (gC 12 x0) fun _ => zb (f_X12_errs N x0 1 σ12) fun v22 σ23 =>
        J_X12_put_53 N x0 x1 σ23)))
set_option maxHeartbeats 4000000 in
set_option maxRecDepth 100000 in
theorem c_X12_put (l : Launch) (D : va_G) (c : zC) (o : Nat) (g : zEp) (N : Nat) {x0 : Nat} {x1 : Int32} {σ : zS} {ρ : Int32 × zS} (h : f_X12_put N x0 x1 σ = some ρ) : Met l yX12_put zs_X12_put (zr 22) (va_Pc [.ref (o + x0), .int x1] (zG D c o g σ)) (zQi D c o g ρ) 0 0 (zA o) := by
  refine zMetG (by decide) (Nat.le_of_ble_eq_true rfl) ?_
  intro p e s m below meth cd ⟨hx, hb, hr, hml, hown, hts, hlocks⟩ hP hK hE ls hl
  have hS : va_S (zA o) s.heap s.heap [] := va_S.rf
  have hl : lv_has ls 3 [(0, .ref (o + x0)), (1, .int x1)] := hl
  rw [f_X12_put.eq_1] at h
  refine lv_aload_n (pc := 0) hx hb dX12_put_0 rfl (lv_at hl 0 rfl) ?_
  refine lv_iload_n (pc := 1) hx hb dX12_put_1 rfl (lv_at hl 1 rfl) ?_
  obtain ⟨_, hg, h⟩ := zl_some h
  obtain ⟨v1, σ2, hv, h⟩ := zb_some h
  refine xcallVi (pc := 2) (As := [.int x1]) (rest := []) ⟨hx, hb, hml, hown, hts⟩ (c_X12_isRegister l D c o g N hv) zc12 zV_X12_321 rfl zd_X12_isRegister ⟨Nat.le_of_ble_eq_true rfl, Nat.le_of_ble_eq_true rfl⟩ hK hP hE hS hg hl.1 rfl (Nat.le_of_ble_eq_true rfl) ⟨Nat.zero_le _, Nat.zero_le _⟩ dX12_put_2 (fun H locs hP hS => ?_)
  refine lv_if_ne (pc := 5) (tgt := 16) hx hb dX12_put_5 (by decide) (fun c1 => ?_) (fun c1 => ?_)
  · rw [if_neg c1] at h
    refine lv_aload_n (pc := 16) hx hb dX12_put_16 rfl (lv_at hl 0 rfl) ?_
    obtain ⟨_, hg, h⟩ := zl_some h
    obtain ⟨v3, σ4, hv, h⟩ := zb_some h
    refine xcallVv (pc := 17) (As := []) (rest := []) ⟨hx, hb, hml, hown, hts⟩ (c_X12_begins l D c o g N hv) zc12 zV_X12_305 rfl zd_X12_begins ⟨Nat.le_of_ble_eq_true rfl, Nat.le_of_ble_eq_true rfl⟩ hK hP hE hS hg hl.1 rfl (Nat.le_of_ble_eq_true rfl) ⟨Nat.zero_le _, Nat.zero_le _⟩ dX12_put_17 (fun H locs hP hS => ?_)
    refine lv_aload_n (pc := 20) hx hb dX12_put_20 rfl (lv_at hl 0 rfl) ?_
    refine lv_aload_n (pc := 21) hx hb dX12_put_21 rfl (lv_at hl 0 rfl) ?_
    obtain ⟨v5, hv, h⟩ := zl_some h
    refine xgR (pc := 22) (j := 1) zc12 hx hb hts hown hK hP hv rfl zf_X12_9 dX12_put_22 ?_
    refine lv_iconst (pc := 25) (v := 0) hx hb dX12_put_25 (by decide) ?_
    obtain ⟨v6, hv, h⟩ := zl_some h
    refine xaI (pc := 26) hx hb hK hP hv dX12_put_26 ?_
    refine lv_aload_n (pc := 27) hx hb dX12_put_27 rfl (lv_at hl 0 rfl) ?_
    obtain ⟨v7, hv, h⟩ := zl_some h
    refine xgR (pc := 28) (j := 2) zc12 hx hb hts hown hK hP hv rfl zf_X12_13 dX12_put_28 ?_
    obtain ⟨_, hg, h⟩ := zl_some h
    obtain ⟨v8, σ9, hv, h⟩ := zb_some h
    refine xcallVv (pc := 31) (As := [.int v6, .ref (o + v7)]) (rest := []) ⟨hx, hb, hml, hown, hts⟩ (c_X12_readsSum l D c o g N hv) zc12 zV_X12_286 rfl zd_X12_readsSum ⟨Nat.le_of_ble_eq_true rfl, Nat.le_of_ble_eq_true rfl⟩ hK hP hE hS hg hl.1 rfl (Nat.le_of_ble_eq_true rfl) ⟨Nat.zero_le _, Nat.zero_le _⟩ dX12_put_31 (fun H locs hP hS => ?_)
    refine lv_aload_n (pc := 34) hx hb dX12_put_34 rfl (lv_at hl 0 rfl) ?_
    obtain ⟨_, hg, h⟩ := zl_some h
    obtain ⟨v10, σ11, hv, h⟩ := zb_some h
    refine xcallVi (pc := 35) (As := []) (rest := []) ⟨hx, hb, hml, hown, hts⟩ (c_X12_good l D c o g N hv) zc12 zV_X12_157 rfl zd_X12_good ⟨Nat.le_of_ble_eq_true rfl, Nat.le_of_ble_eq_true rfl⟩ hK hP hE hS hg hl.1 rfl (Nat.le_of_ble_eq_true rfl) ⟨Nat.zero_le _, Nat.zero_le _⟩ dX12_put_35 (fun H locs hP hS => ?_)
    have hj53_12 : ∀ (σ12 : zS), J_X12_put_53 N x0 x1 σ12 = some ρ → ∀ (H : Heap) (locs : List Loc) (ls : Array Slot), zP D c o (zabs o σ12) H → va_S (zA o) s.heap H locs → lv_has ls 3 [(0, .ref (o + x0)), (1, .int x1)] → W p l e (zr 22) s m (([.ref (o + x0), .int x1] : List Value).toArray) below meth cd H locs 0 0 (MQ below (zQi D c o g ρ) (([.ref (o + x0), .int x1] : List Value).toArray) s 0 0 (zA o)) (F0 m 53 ls []) := by
      intro σ12 h H locs ls hP hS hl
      rw [J_X12_put_53.eq_1] at h
      refine lv_aload_n (pc := 53) hx hb dX12_put_53 rfl (lv_at hl 0 rfl) ?_
      obtain ⟨_, hg, h⟩ := zl_some h
      obtain ⟨v13, σ14, hv, h⟩ := zb_some h
      refine xcallVi (pc := 54) (As := []) (rest := []) ⟨hx, hb, hml, hown, hts⟩ (c_X12_good l D c o g N hv) zc12 zV_X12_157 rfl zd_X12_good ⟨Nat.le_of_ble_eq_true rfl, Nat.le_of_ble_eq_true rfl⟩ hK hP hE hS hg hl.1 rfl (Nat.le_of_ble_eq_true rfl) ⟨Nat.zero_le _, Nat.zero_le _⟩ dX12_put_54 (fun H locs hP hS => ?_)
      refine lv_if_ne (pc := 57) (tgt := 63) hx hb dX12_put_57 (by decide) (fun c1 => ?_) (fun c1 => ?_)
      · rw [if_neg c1] at h
        refine lv_iconst (pc := 63) (v := 0) hx hb dX12_put_63 (by decide) ?_
        refine lv_istore_n (pc := 64) (lv' := [(2, .int 0), (0, .ref (o + x0)), (1, .int x1)]) hx hb dX12_put_64 rfl hl (by decide) rfl (fun ls hl => ?_)
        have L65_15 : ∀ (n : Nat) (t : Int32 × zS), zlp (F_X12_put_65 N x0 x1) n t = some ρ → ∀ (H : Heap) (locs : List Loc) (ls : Array Slot), zP D c o (zabs o (t.2)) H → va_S (zA o) s.heap H locs → lv_has ls 3 [(2, .int (t.1)), (0, .ref (o + x0)), (1, .int x1)] → W p l e (zr 22) s m (([.ref (o + x0), .int x1] : List Value).toArray) below meth cd H locs 0 0 (MQ below (zQi D c o g ρ) (([.ref (o + x0), .int x1] : List Value).toArray) s 0 0 (zA o)) (F0 m 65 ls []) := by
          refine zlp_ind (fun ag15 ih15 t h H locs ls hP hS hl => ?_)
          obtain ⟨x2_15, σ15⟩ := t
          have hP : zP D c o (zabs o σ15) H := hP
          have hl : lv_has ls 3 [(2, .int x2_15), (0, .ref (o + x0)), (1, .int x1)] := hl
          rw [F_X12_put_65.eq_1] at h
          show W p l e (zr 22) s m (([.ref (o + x0), .int x1] : List Value).toArray) below meth cd H locs 0 0 (MQ below (zQi D c o g ρ) (([.ref (o + x0), .int x1] : List Value).toArray) s 0 0 (zA o)) (F0 m 65 ls [])
          refine lv_iload_n (pc := 65) hx hb dX12_put_65 rfl (lv_at hl 0 rfl) ?_
          refine lv_sipush (pc := 66) (v := 1024) hx hb dX12_put_66 (by decide) ?_
          refine lv_icmp_ge (pc := 69) (tgt := 90) hx hb dX12_put_69 (by decide) (fun c1 => ?_) (fun c1 => ?_)
          · rw [if_pos c1] at h
            refine lv_aload_n (pc := 90) hx hb dX12_put_90 rfl (lv_at hl 1 rfl) ?_
            refine lv_iload_n (pc := 91) hx hb dX12_put_91 rfl (lv_at hl 2 rfl) ?_
            obtain ⟨_, hg, h⟩ := zl_some h
            obtain ⟨v16, σ17, hv, h⟩ := zb_some h
            refine xcallVi (pc := 92) (As := [.int x1]) (rest := []) ⟨hx, hb, hml, hown, hts⟩ (c_X12_lays l D c o g N hv) zc12 zV_X12_324 rfl zd_X12_lays ⟨Nat.le_of_ble_eq_true rfl, Nat.le_of_ble_eq_true rfl⟩ hK hP hE hS hg hl.1 rfl (Nat.le_of_ble_eq_true rfl) ⟨Nat.zero_le _, Nat.zero_le _⟩ dX12_put_92 (fun H locs hP hS => ?_)
            exact xreti (pc := 95) hx hb hr hlocks hP hK hE hS h dX12_put_95
          · rw [if_neg c1] at h
            refine lv_aload_n (pc := 72) hx hb dX12_put_72 rfl (lv_at hl 1 rfl) ?_
            obtain ⟨v18, hv, h⟩ := zl_some h
            refine xgR (pc := 73) (j := 17) zc12 hx hb hts hown hK hP hv rfl zf_X12_40 dX12_put_73 ?_
            refine lv_iload_n (pc := 76) hx hb dX12_put_76 rfl (lv_at hl 0 rfl) ?_
            refine lv_aload_n (pc := 77) hx hb dX12_put_77 rfl (lv_at hl 1 rfl) ?_
            obtain ⟨v19, hv, h⟩ := zl_some h
            refine xgR (pc := 78) (j := 16) zc12 hx hb hts hown hK hP hv rfl zf_X12_37 dX12_put_78 ?_
            refine lv_iload_n (pc := 81) hx hb dX12_put_81 rfl (lv_at hl 0 rfl) ?_
            obtain ⟨v20, hv, h⟩ := zl_some h
            refine xaZ (pc := 82) hx hb hK hP hv dX12_put_82 ?_
            obtain ⟨σ21, hv, h⟩ := zl_some h
            refine xsZ (pc := 83) hx hb hK hP hS hv dX12_put_83 (fun H locs hP hS => ?_)
            refine lv_iinc (pc := 84) (v := x2_15 + 1) (lv' := [(2, .int (x2_15 + 1)), (0, .ref (o + x0)), (1, .int x1)]) hx hb dX12_put_84 hl (k := 0) rfl rfl (by decide) rfl (fun ls hl => ?_)
            refine lv_goto (pc := 87) (tgt := 65) hx hb dX12_put_87 (by decide) ?_
            exact ih15 (x2_15 + 1, σ21) h _ _ ls hP hS (lv_sub hl [0, 1, 2] rfl)
        exact L65_15 N (0, σ14) h _ _ ls hP hS (lv_sub hl [0, 1, 2] rfl)
      · rw [if_pos c1] at h
        refine lv_bipush (pc := 60) (v := (-4)) hx hb dX12_put_60 (by decide) ?_
        exact xreti (pc := 62) hx hb hr hlocks hP hK hE hS h dX12_put_62
    refine lv_if_eq (pc := 38) (tgt := 53) hx hb dX12_put_38 (by decide) (fun c1 => ?_) (fun c1 => ?_)
    · rw [if_pos c1] at h
      exact hj53_12 σ11 h _ _ ls hP hS (lv_sub hl [0, 1] rfl)
    · rw [if_neg c1] at h
      refine lv_aload_n (pc := 41) hx hb dX12_put_41 rfl (lv_at hl 0 rfl) ?_
      obtain ⟨v22, hv, h⟩ := zl_some h
      refine xgI (pc := 42) (j := 12) zc12 hx hb hts hown hK hP hv rfl zf_X12_123 dX12_put_42 ?_
      refine lv_if_eq (pc := 45) (tgt := 53) hx hb dX12_put_45 (by decide) (fun c1 => ?_) (fun c1 => ?_)
      · rw [if_pos c1] at h
        exact hj53_12 σ11 h _ _ ls hP hS (lv_sub hl [0, 1] rfl)
      · rw [if_neg c1] at h
        refine lv_aload_n (pc := 48) hx hb dX12_put_48 rfl (lv_at hl 0 rfl) ?_
        refine lv_iconst (pc := 49) (v := 1) hx hb dX12_put_49 (by decide) ?_
        obtain ⟨_, hg, h⟩ := zl_some h
        obtain ⟨v23, σ24, hv, h⟩ := zb_some h
        refine xcallVv (pc := 50) (As := [.int 1]) (rest := []) ⟨hx, hb, hml, hown, hts⟩ (c_X12_errs l D c o g N hv) zc12 zV_X12_176 rfl zd_X12_errs ⟨Nat.le_of_ble_eq_true rfl, Nat.le_of_ble_eq_true rfl⟩ hK hP hE hS hg hl.1 rfl (Nat.le_of_ble_eq_true rfl) ⟨Nat.zero_le _, Nat.zero_le _⟩ dX12_put_50 (fun H locs hP hS => ?_)
        exact hj53_12 σ24 h _ _ ls hP hS (lv_sub hl [0, 1] rfl)
  · rw [if_pos c1] at h
    refine lv_aload_n (pc := 8) hx hb dX12_put_8 rfl (lv_at hl 0 rfl) ?_
    refine lv_iconst (pc := 9) (v := 0) hx hb dX12_put_9 (by decide) ?_
    obtain ⟨σ25, hv, h⟩ := zl_some h
    refine xpI (pc := 10) (j := 7) zc12 hx hb hts hown hK hP hS hv rfl rfl rfl zf_X12_107 dX12_put_10 (fun H locs hP hS => ?_)
    refine lv_bipush (pc := 13) (v := (-2)) hx hb dX12_put_13 (by decide) ?_
    exact xreti (pc := 15) hx hb hr hlocks hP hK hE hS h dX12_put_15
def f_X12_size (N : Nat) (x0 : Nat) (x1 : Int32) (σ : zS) : Option (Int32 × zS) :=
  zl (gC 12 x0) fun _ => zb (f_X12_isRegister N x0 x1 σ) fun v1 σ2 =>
  if v1 = 0 then
    (some ((-2), σ2))
  else
    (zl (gC 12 x0) fun _ => zb (f_X12_sizeOf N x0 x1 σ2) fun v3 σ4 =>
    some (v3, σ4))
set_option maxHeartbeats 4000000 in
set_option maxRecDepth 100000 in
theorem c_X12_size (l : Launch) (D : va_G) (c : zC) (o : Nat) (g : zEp) (N : Nat) {x0 : Nat} {x1 : Int32} {σ : zS} {ρ : Int32 × zS} (h : f_X12_size N x0 x1 σ = some ρ) : Met l yX12_size zs_X12_size (zr 8) (va_Pc [.ref (o + x0), .int x1] (zG D c o g σ)) (zQi D c o g ρ) 0 0 (zA o) := by
  refine zMetG (by decide) (Nat.le_of_ble_eq_true rfl) ?_
  intro p e s m below meth cd ⟨hx, hb, hr, hml, hown, hts, hlocks⟩ hP hK hE ls hl
  have hS : va_S (zA o) s.heap s.heap [] := va_S.rf
  have hl : lv_has ls 2 [(0, .ref (o + x0)), (1, .int x1)] := hl
  rw [f_X12_size.eq_1] at h
  refine lv_aload_n (pc := 0) hx hb dX12_size_0 rfl (lv_at hl 0 rfl) ?_
  refine lv_iload_n (pc := 1) hx hb dX12_size_1 rfl (lv_at hl 1 rfl) ?_
  obtain ⟨_, hg, h⟩ := zl_some h
  obtain ⟨v1, σ2, hv, h⟩ := zb_some h
  refine xcallVi (pc := 2) (As := [.int x1]) (rest := []) ⟨hx, hb, hml, hown, hts⟩ (c_X12_isRegister l D c o g N hv) zc12 zV_X12_321 rfl zd_X12_isRegister ⟨Nat.le_of_ble_eq_true rfl, Nat.le_of_ble_eq_true rfl⟩ hK hP hE hS hg hl.1 rfl (Nat.le_of_ble_eq_true rfl) ⟨Nat.zero_le _, Nat.zero_le _⟩ dX12_size_2 (fun H locs hP hS => ?_)
  refine lv_if_eq (pc := 5) (tgt := 16) hx hb dX12_size_5 (by decide) (fun c1 => ?_) (fun c1 => ?_)
  · rw [if_pos c1] at h
    refine lv_bipush (pc := 16) (v := (-2)) hx hb dX12_size_16 (by decide) ?_
    exact xreti (pc := 18) hx hb hr hlocks hP hK hE hS h dX12_size_18
  · rw [if_neg c1] at h
    refine lv_aload_n (pc := 8) hx hb dX12_size_8 rfl (lv_at hl 0 rfl) ?_
    refine lv_iload_n (pc := 9) hx hb dX12_size_9 rfl (lv_at hl 1 rfl) ?_
    obtain ⟨_, hg, h⟩ := zl_some h
    obtain ⟨v3, σ4, hv, h⟩ := zb_some h
    refine xcallVi (pc := 10) (As := [.int x1]) (rest := []) ⟨hx, hb, hml, hown, hts⟩ (c_X12_sizeOf l D c o g N hv) zc12 zV_X12_318 rfl zd_X12_sizeOf ⟨Nat.le_of_ble_eq_true rfl, Nat.le_of_ble_eq_true rfl⟩ hK hP hE hS hg hl.1 rfl (Nat.le_of_ble_eq_true rfl) ⟨Nat.zero_le _, Nat.zero_le _⟩ dX12_size_10 (fun H locs hP hS => ?_)
    refine lv_goto (pc := 13) (tgt := 18) hx hb dX12_size_13 (by decide) ?_
    exact xreti (pc := 18) hx hb hr hlocks hP hK hE hS h dX12_size_18
def f_X12_has (N : Nat) (x0 : Nat) (x1 : Int32) (x2 : Int32) (σ : zS) : Option (Int32 × zS) :=
  zl (gC 12 x0) fun _ => zb (f_X12_isRegister N x0 x1 σ) fun v1 σ2 =>
  if v1 = 0 then
    (some ((-2), σ2))
  else
    (zl (gC 12 x0) fun _ => zb (f_X12_isSet N x0 x2 σ2) fun v3 σ4 =>
    if v3 = 0 then
      (some ((-2), σ4))
    else
      (zl (gC 12 x0) fun _ => zb (f_X12_of N x0 x1 x2 σ4) fun v5 σ6 =>
      if v5 = 0 then
        (some (0, σ6))
      else
        (some (1, σ6))))
set_option maxHeartbeats 4000000 in
set_option maxRecDepth 100000 in
theorem c_X12_has (l : Launch) (D : va_G) (c : zC) (o : Nat) (g : zEp) (N : Nat) {x0 : Nat} {x1 : Int32} {x2 : Int32} {σ : zS} {ρ : Int32 × zS} (h : f_X12_has N x0 x1 x2 σ = some ρ) : Met l yX12_has zs_X12_has (zr 8) (va_Pc [.ref (o + x0), .int x1, .int x2] (zG D c o g σ)) (zQi D c o g ρ) 0 0 (zA o) := by
  refine zMetG (by decide) (Nat.le_of_ble_eq_true rfl) ?_
  intro p e s m below meth cd ⟨hx, hb, hr, hml, hown, hts, hlocks⟩ hP hK hE ls hl
  have hS : va_S (zA o) s.heap s.heap [] := va_S.rf
  have hl : lv_has ls 3 [(0, .ref (o + x0)), (1, .int x1), (2, .int x2)] := hl
  rw [f_X12_has.eq_1] at h
  refine lv_aload_n (pc := 0) hx hb dX12_has_0 rfl (lv_at hl 0 rfl) ?_
  refine lv_iload_n (pc := 1) hx hb dX12_has_1 rfl (lv_at hl 1 rfl) ?_
  obtain ⟨_, hg, h⟩ := zl_some h
  obtain ⟨v1, σ2, hv, h⟩ := zb_some h
  refine xcallVi (pc := 2) (As := [.int x1]) (rest := []) ⟨hx, hb, hml, hown, hts⟩ (c_X12_isRegister l D c o g N hv) zc12 zV_X12_321 rfl zd_X12_isRegister ⟨Nat.le_of_ble_eq_true rfl, Nat.le_of_ble_eq_true rfl⟩ hK hP hE hS hg hl.1 rfl (Nat.le_of_ble_eq_true rfl) ⟨Nat.zero_le _, Nat.zero_le _⟩ dX12_has_2 (fun H locs hP hS => ?_)
  refine lv_if_eq (pc := 5) (tgt := 33) hx hb dX12_has_5 (by decide) (fun c1 => ?_) (fun c1 => ?_)
  · rw [if_pos c1] at h
    refine lv_bipush (pc := 33) (v := (-2)) hx hb dX12_has_33 (by decide) ?_
    exact xreti (pc := 35) hx hb hr hlocks hP hK hE hS h dX12_has_35
  · rw [if_neg c1] at h
    refine lv_aload_n (pc := 8) hx hb dX12_has_8 rfl (lv_at hl 0 rfl) ?_
    refine lv_iload_n (pc := 9) hx hb dX12_has_9 rfl (lv_at hl 2 rfl) ?_
    obtain ⟨_, hg, h⟩ := zl_some h
    obtain ⟨v3, σ4, hv, h⟩ := zb_some h
    refine xcallVi (pc := 10) (As := [.int x2]) (rest := []) ⟨hx, hb, hml, hown, hts⟩ (c_X12_isSet l D c o g N hv) zc12 zV_X12_327 rfl zd_X12_isSet ⟨Nat.le_of_ble_eq_true rfl, Nat.le_of_ble_eq_true rfl⟩ hK hP hE hS hg hl.1 rfl (Nat.le_of_ble_eq_true rfl) ⟨Nat.zero_le _, Nat.zero_le _⟩ dX12_has_10 (fun H locs hP hS => ?_)
    refine lv_if_eq (pc := 13) (tgt := 33) hx hb dX12_has_13 (by decide) (fun c1 => ?_) (fun c1 => ?_)
    · rw [if_pos c1] at h
      refine lv_bipush (pc := 33) (v := (-2)) hx hb dX12_has_33 (by decide) ?_
      exact xreti (pc := 35) hx hb hr hlocks hP hK hE hS h dX12_has_35
    · rw [if_neg c1] at h
      refine lv_aload_n (pc := 16) hx hb dX12_has_16 rfl (lv_at hl 0 rfl) ?_
      refine lv_iload_n (pc := 17) hx hb dX12_has_17 rfl (lv_at hl 1 rfl) ?_
      refine lv_iload_n (pc := 18) hx hb dX12_has_18 rfl (lv_at hl 2 rfl) ?_
      obtain ⟨_, hg, h⟩ := zl_some h
      obtain ⟨v5, σ6, hv, h⟩ := zb_some h
      refine xcallVi (pc := 19) (As := [.int x1, .int x2]) (rest := []) ⟨hx, hb, hml, hown, hts⟩ (c_X12_of l D c o g N hv) zc12 zV_X12_314 rfl zd_X12_of ⟨Nat.le_of_ble_eq_true rfl, Nat.le_of_ble_eq_true rfl⟩ hK hP hE hS hg hl.1 rfl (Nat.le_of_ble_eq_true rfl) ⟨Nat.zero_le _, Nat.zero_le _⟩ dX12_has_19 (fun H locs hP hS => ?_)
      refine lv_if_eq (pc := 22) (tgt := 29) hx hb dX12_has_22 (by decide) (fun c1 => ?_) (fun c1 => ?_)
      · rw [if_pos c1] at h
        refine lv_iconst (pc := 29) (v := 0) hx hb dX12_has_29 (by decide) ?_
        refine lv_goto (pc := 30) (tgt := 35) hx hb dX12_has_30 (by decide) ?_
        exact xreti (pc := 35) hx hb hr hlocks hP hK hE hS h dX12_has_35
      · rw [if_neg c1] at h
        refine lv_iconst (pc := 25) (v := 1) hx hb dX12_has_25 (by decide) ?_
        refine lv_goto (pc := 26) (tgt := 35) hx hb dX12_has_26 (by decide) ?_
        exact xreti (pc := 35) hx hb hr hlocks hP hK hE hS h dX12_has_35
def f_X12_makes (N : Nat) (x0 : Nat) (x1 : Int32) (x2 : Int32) (x3 : Int32) (x4 : Int32) (σ : zS) : Option (Int32 × zS) :=
  zl (gC 12 x0) fun _ => zb (f_X12_isRegister N x0 x1 σ) fun v1 σ2 =>
  if v1 = 0 then
    (some ((-2), σ2))
  else
    (zb (f_X12_in N (Int32.toInt64 x2) 0 6 σ2) fun v3 σ4 =>
    if v3 = 0 then
      (some ((-2), σ4))
    else
      (zl (gC 12 x0) fun _ => zb (f_X12_isRegister N x0 x3 σ4) fun v5 σ6 =>
      if v5 = 0 then
        (some ((-2), σ6))
      else
        (zl (gC 12 x0) fun _ => zb (f_X12_isRegister N x0 x4 σ6) fun v7 σ8 =>
        if v7 = 0 then
          (some ((-2), σ8))
        else
          (zl (gC 12 x0) fun _ => zb (f_X12_many N x0 σ8) fun v9 σ10 =>
          zl (pI 12 20 x0 v9 σ10) fun σ11 =>
          zl (gR 12 2 x0 σ11) fun v12 =>
          zl (gR 12 2 x0 σ11) fun v13 =>
          zl (gC 12 x0) fun _ => zb (f_X12_gives N x0 x2 v12 (1024 * x3) v13 (1024 * x4) σ11) fun v14 σ15 =>
          zl (gC 12 x0) fun _ => zb (f_X12_lays N x0 x1 σ15) fun v16 σ17 =>
          some (v16, σ17)))))
set_option maxHeartbeats 4000000 in
set_option maxRecDepth 100000 in
theorem c_X12_makes (l : Launch) (D : va_G) (c : zC) (o : Nat) (g : zEp) (N : Nat) {x0 : Nat} {x1 : Int32} {x2 : Int32} {x3 : Int32} {x4 : Int32} {σ : zS} {ρ : Int32 × zS} (h : f_X12_makes N x0 x1 x2 x3 x4 σ = some ρ) : Met l yX12_makes zs_X12_makes (zr 10) (va_Pc [.ref (o + x0), .int x1, .int x2, .int x3, .int x4] (zG D c o g σ)) (zQi D c o g ρ) 0 0 (zA o) := by
  refine zMetG (by decide) (Nat.le_of_ble_eq_true rfl) ?_
  intro p e s m below meth cd ⟨hx, hb, hr, hml, hown, hts, hlocks⟩ hP hK hE ls hl
  have hS : va_S (zA o) s.heap s.heap [] := va_S.rf
  have hl : lv_has ls 5 [(0, .ref (o + x0)), (1, .int x1), (2, .int x2), (3, .int x3), (4, .int x4)] := hl
  rw [f_X12_makes.eq_1] at h
  refine lv_aload_n (pc := 0) hx hb dX12_makes_0 rfl (lv_at hl 0 rfl) ?_
  refine lv_iload_n (pc := 1) hx hb dX12_makes_1 rfl (lv_at hl 1 rfl) ?_
  obtain ⟨_, hg, h⟩ := zl_some h
  obtain ⟨v1, σ2, hv, h⟩ := zb_some h
  refine xcallVi (pc := 2) (As := [.int x1]) (rest := []) ⟨hx, hb, hml, hown, hts⟩ (c_X12_isRegister l D c o g N hv) zc12 zV_X12_321 rfl zd_X12_isRegister ⟨Nat.le_of_ble_eq_true rfl, Nat.le_of_ble_eq_true rfl⟩ hK hP hE hS hg hl.1 rfl (Nat.le_of_ble_eq_true rfl) ⟨Nat.zero_le _, Nat.zero_le _⟩ dX12_makes_2 (fun H locs hP hS => ?_)
  refine lv_if_eq (pc := 5) (tgt := 37) hx hb dX12_makes_5 (by decide) (fun c1 => ?_) (fun c1 => ?_)
  · rw [if_pos c1] at h
    refine lv_bipush (pc := 37) (v := (-2)) hx hb dX12_makes_37 (by decide) ?_
    exact xreti (pc := 39) hx hb hr hlocks hP hK hE hS h dX12_makes_39
  · rw [if_neg c1] at h
    refine lv_iload_n (pc := 8) hx hb dX12_makes_8 rfl (lv_at hl 2 rfl) ?_
    refine lv_i2l (pc := 9) hx hb dX12_makes_9 rfl ?_
    refine lv_lconst (pc := 10) (v := 0) hx hb dX12_makes_10 (by decide) ?_
    refine lv_ldc2 (pc := 11) hx hb hown (hts _ zk_X12_330) dX12_makes_11 ?_
    obtain ⟨v3, σ4, hv, h⟩ := zb_some h
    refine xcallSi (pc := 14) (As := [.long (Int32.toInt64 x2), .long 0, .long 6]) (rest := []) ⟨hx, hb, hml, hown, hts⟩ (c_X12_in l D c o g N hv) zT_X12_94 rfl zd_X12_in ⟨Nat.le_of_ble_eq_true rfl, Nat.le_of_ble_eq_true rfl⟩ hK hP hE hS hl.1 rfl (Nat.le_of_ble_eq_true rfl) ⟨Nat.zero_le _, Nat.zero_le _⟩ dX12_makes_14 (fun H locs hP hS => ?_)
    refine lv_if_eq (pc := 17) (tgt := 37) hx hb dX12_makes_17 (by decide) (fun c1 => ?_) (fun c1 => ?_)
    · rw [if_pos c1] at h
      refine lv_bipush (pc := 37) (v := (-2)) hx hb dX12_makes_37 (by decide) ?_
      exact xreti (pc := 39) hx hb hr hlocks hP hK hE hS h dX12_makes_39
    · rw [if_neg c1] at h
      refine lv_aload_n (pc := 20) hx hb dX12_makes_20 rfl (lv_at hl 0 rfl) ?_
      refine lv_iload_n (pc := 21) hx hb dX12_makes_21 rfl (lv_at hl 3 rfl) ?_
      obtain ⟨_, hg, h⟩ := zl_some h
      obtain ⟨v5, σ6, hv, h⟩ := zb_some h
      refine xcallVi (pc := 22) (As := [.int x3]) (rest := []) ⟨hx, hb, hml, hown, hts⟩ (c_X12_isRegister l D c o g N hv) zc12 zV_X12_321 rfl zd_X12_isRegister ⟨Nat.le_of_ble_eq_true rfl, Nat.le_of_ble_eq_true rfl⟩ hK hP hE hS hg hl.1 rfl (Nat.le_of_ble_eq_true rfl) ⟨Nat.zero_le _, Nat.zero_le _⟩ dX12_makes_22 (fun H locs hP hS => ?_)
      refine lv_if_eq (pc := 25) (tgt := 37) hx hb dX12_makes_25 (by decide) (fun c1 => ?_) (fun c1 => ?_)
      · rw [if_pos c1] at h
        refine lv_bipush (pc := 37) (v := (-2)) hx hb dX12_makes_37 (by decide) ?_
        exact xreti (pc := 39) hx hb hr hlocks hP hK hE hS h dX12_makes_39
      · rw [if_neg c1] at h
        refine lv_aload_n (pc := 28) hx hb dX12_makes_28 rfl (lv_at hl 0 rfl) ?_
        refine lv_iload (pc := 29) hx hb dX12_makes_29 (lv_at hl 4 rfl) ?_
        obtain ⟨_, hg, h⟩ := zl_some h
        obtain ⟨v7, σ8, hv, h⟩ := zb_some h
        refine xcallVi (pc := 31) (As := [.int x4]) (rest := []) ⟨hx, hb, hml, hown, hts⟩ (c_X12_isRegister l D c o g N hv) zc12 zV_X12_321 rfl zd_X12_isRegister ⟨Nat.le_of_ble_eq_true rfl, Nat.le_of_ble_eq_true rfl⟩ hK hP hE hS hg hl.1 rfl (Nat.le_of_ble_eq_true rfl) ⟨Nat.zero_le _, Nat.zero_le _⟩ dX12_makes_31 (fun H locs hP hS => ?_)
        refine lv_if_ne (pc := 34) (tgt := 40) hx hb dX12_makes_34 (by decide) (fun c1 => ?_) (fun c1 => ?_)
        · rw [if_neg c1] at h
          refine lv_aload_n (pc := 40) hx hb dX12_makes_40 rfl (lv_at hl 0 rfl) ?_
          refine lv_aload_n (pc := 41) hx hb dX12_makes_41 rfl (lv_at hl 0 rfl) ?_
          obtain ⟨_, hg, h⟩ := zl_some h
          obtain ⟨v9, σ10, hv, h⟩ := zb_some h
          refine xcallVi (pc := 42) (As := []) (rest := [.ref (o + x0)]) ⟨hx, hb, hml, hown, hts⟩ (c_X12_many l D c o g N hv) zc12 zV_X12_104 rfl zd_X12_many ⟨Nat.le_of_ble_eq_true rfl, Nat.le_of_ble_eq_true rfl⟩ hK hP hE hS hg hl.1 rfl (Nat.le_of_ble_eq_true rfl) ⟨Nat.zero_le _, Nat.zero_le _⟩ dX12_makes_42 (fun H locs hP hS => ?_)
          obtain ⟨σ11, hv, h⟩ := zl_some h
          refine xpI (pc := 45) (j := 20) zc12 hx hb hts hown hK hP hS hv rfl rfl rfl zf_X12_180 dX12_makes_45 (fun H locs hP hS => ?_)
          refine lv_aload_n (pc := 48) hx hb dX12_makes_48 rfl (lv_at hl 0 rfl) ?_
          refine lv_iload_n (pc := 49) hx hb dX12_makes_49 rfl (lv_at hl 2 rfl) ?_
          refine lv_aload_n (pc := 50) hx hb dX12_makes_50 rfl (lv_at hl 0 rfl) ?_
          obtain ⟨v12, hv, h⟩ := zl_some h
          refine xgR (pc := 51) (j := 2) zc12 hx hb hts hown hK hP hv rfl zf_X12_13 dX12_makes_51 ?_
          refine lv_sipush (pc := 54) (v := 1024) hx hb dX12_makes_54 (by decide) ?_
          refine lv_iload_n (pc := 57) hx hb dX12_makes_57 rfl (lv_at hl 3 rfl) ?_
          refine lv_imul (pc := 58) hx hb dX12_makes_58 ?_
          refine lv_aload_n (pc := 59) hx hb dX12_makes_59 rfl (lv_at hl 0 rfl) ?_
          obtain ⟨v13, hv, h⟩ := zl_some h
          refine xgR (pc := 60) (j := 2) zc12 hx hb hts hown hK hP hv rfl zf_X12_13 dX12_makes_60 ?_
          refine lv_sipush (pc := 63) (v := 1024) hx hb dX12_makes_63 (by decide) ?_
          refine lv_iload (pc := 66) hx hb dX12_makes_66 (lv_at hl 4 rfl) ?_
          refine lv_imul (pc := 68) hx hb dX12_makes_68 ?_
          obtain ⟨_, hg, h⟩ := zl_some h
          obtain ⟨v14, σ15, hv, h⟩ := zb_some h
          refine xcallVv (pc := 69) (As := [.int x2, .ref (o + v12), .int (1024 * x3), .ref (o + v13), .int (1024 * x4)]) (rest := []) ⟨hx, hb, hml, hown, hts⟩ (c_X12_gives l D c o g N hv) zc12 zV_X12_218 rfl zd_X12_gives ⟨Nat.le_of_ble_eq_true rfl, Nat.le_of_ble_eq_true rfl⟩ hK hP hE hS hg hl.1 rfl (Nat.le_of_ble_eq_true rfl) ⟨Nat.zero_le _, Nat.zero_le _⟩ dX12_makes_69 (fun H locs hP hS => ?_)
          refine lv_aload_n (pc := 72) hx hb dX12_makes_72 rfl (lv_at hl 0 rfl) ?_
          refine lv_iload_n (pc := 73) hx hb dX12_makes_73 rfl (lv_at hl 1 rfl) ?_
          obtain ⟨_, hg, h⟩ := zl_some h
          obtain ⟨v16, σ17, hv, h⟩ := zb_some h
          refine xcallVi (pc := 74) (As := [.int x1]) (rest := []) ⟨hx, hb, hml, hown, hts⟩ (c_X12_lays l D c o g N hv) zc12 zV_X12_324 rfl zd_X12_lays ⟨Nat.le_of_ble_eq_true rfl, Nat.le_of_ble_eq_true rfl⟩ hK hP hE hS hg hl.1 rfl (Nat.le_of_ble_eq_true rfl) ⟨Nat.zero_le _, Nat.zero_le _⟩ dX12_makes_74 (fun H locs hP hS => ?_)
          exact xreti (pc := 77) hx hb hr hlocks hP hK hE hS h dX12_makes_77
        · rw [if_pos c1] at h
          refine lv_bipush (pc := 37) (v := (-2)) hx hb dX12_makes_37 (by decide) ?_
          exact xreti (pc := 39) hx hb hr hlocks hP hK hE hS h dX12_makes_39
def f_X12_turn (N : Nat) (x0 : Nat) (x1 : Int32) (x2 : Int32) (x3 : Int32) (σ : zS) : Option (Int32 × zS) :=
  zl (gC 12 x0) fun _ => zb (f_X12_isRegister N x0 x1 σ) fun v1 σ2 =>
  if v1 = 0 then
    (some ((-2), σ2))
  else
    (zb (f_X12_in N (Int32.toInt64 x2) 0 6 σ2) fun v3 σ4 =>
    if v3 = 0 then
      (some ((-2), σ4))
    else
      (zl (gC 12 x0) fun _ => zb (f_X12_isRegister N x0 x3 σ4) fun v5 σ6 =>
      if v5 = 0 then
        (some ((-2), σ6))
      else
        (zl (gC 12 x0) fun _ => zb (f_X12_many N x0 σ6) fun v7 σ8 =>
        zl (pI 12 20 x0 v7 σ8) fun σ9 =>
        zl (gR 12 2 x0 σ9) fun v10 =>
        zl (gC 12 x0) fun _ => zb (f_X12_turns N x0 x2 v10 (1024 * x3) σ9) fun v11 σ12 =>
        zl (gC 12 x0) fun _ => zb (f_X12_lays N x0 x1 σ12) fun v13 σ14 =>
        some (v13, σ14))))
set_option maxHeartbeats 4000000 in
set_option maxRecDepth 100000 in
theorem c_X12_turn (l : Launch) (D : va_G) (c : zC) (o : Nat) (g : zEp) (N : Nat) {x0 : Nat} {x1 : Int32} {x2 : Int32} {x3 : Int32} {σ : zS} {ρ : Int32 × zS} (h : f_X12_turn N x0 x1 x2 x3 σ = some ρ) : Met l yX12_turn zs_X12_turn (zr 10) (va_Pc [.ref (o + x0), .int x1, .int x2, .int x3] (zG D c o g σ)) (zQi D c o g ρ) 0 0 (zA o) := by
  refine zMetG (by decide) (Nat.le_of_ble_eq_true rfl) ?_
  intro p e s m below meth cd ⟨hx, hb, hr, hml, hown, hts, hlocks⟩ hP hK hE ls hl
  have hS : va_S (zA o) s.heap s.heap [] := va_S.rf
  have hl : lv_has ls 4 [(0, .ref (o + x0)), (1, .int x1), (2, .int x2), (3, .int x3)] := hl
  rw [f_X12_turn.eq_1] at h
  refine lv_aload_n (pc := 0) hx hb dX12_turn_0 rfl (lv_at hl 0 rfl) ?_
  refine lv_iload_n (pc := 1) hx hb dX12_turn_1 rfl (lv_at hl 1 rfl) ?_
  obtain ⟨_, hg, h⟩ := zl_some h
  obtain ⟨v1, σ2, hv, h⟩ := zb_some h
  refine xcallVi (pc := 2) (As := [.int x1]) (rest := []) ⟨hx, hb, hml, hown, hts⟩ (c_X12_isRegister l D c o g N hv) zc12 zV_X12_321 rfl zd_X12_isRegister ⟨Nat.le_of_ble_eq_true rfl, Nat.le_of_ble_eq_true rfl⟩ hK hP hE hS hg hl.1 rfl (Nat.le_of_ble_eq_true rfl) ⟨Nat.zero_le _, Nat.zero_le _⟩ dX12_turn_2 (fun H locs hP hS => ?_)
  refine lv_if_eq (pc := 5) (tgt := 28) hx hb dX12_turn_5 (by decide) (fun c1 => ?_) (fun c1 => ?_)
  · rw [if_pos c1] at h
    refine lv_bipush (pc := 28) (v := (-2)) hx hb dX12_turn_28 (by decide) ?_
    exact xreti (pc := 30) hx hb hr hlocks hP hK hE hS h dX12_turn_30
  · rw [if_neg c1] at h
    refine lv_iload_n (pc := 8) hx hb dX12_turn_8 rfl (lv_at hl 2 rfl) ?_
    refine lv_i2l (pc := 9) hx hb dX12_turn_9 rfl ?_
    refine lv_lconst (pc := 10) (v := 0) hx hb dX12_turn_10 (by decide) ?_
    refine lv_ldc2 (pc := 11) hx hb hown (hts _ zk_X12_330) dX12_turn_11 ?_
    obtain ⟨v3, σ4, hv, h⟩ := zb_some h
    refine xcallSi (pc := 14) (As := [.long (Int32.toInt64 x2), .long 0, .long 6]) (rest := []) ⟨hx, hb, hml, hown, hts⟩ (c_X12_in l D c o g N hv) zT_X12_94 rfl zd_X12_in ⟨Nat.le_of_ble_eq_true rfl, Nat.le_of_ble_eq_true rfl⟩ hK hP hE hS hl.1 rfl (Nat.le_of_ble_eq_true rfl) ⟨Nat.zero_le _, Nat.zero_le _⟩ dX12_turn_14 (fun H locs hP hS => ?_)
    refine lv_if_eq (pc := 17) (tgt := 28) hx hb dX12_turn_17 (by decide) (fun c1 => ?_) (fun c1 => ?_)
    · rw [if_pos c1] at h
      refine lv_bipush (pc := 28) (v := (-2)) hx hb dX12_turn_28 (by decide) ?_
      exact xreti (pc := 30) hx hb hr hlocks hP hK hE hS h dX12_turn_30
    · rw [if_neg c1] at h
      refine lv_aload_n (pc := 20) hx hb dX12_turn_20 rfl (lv_at hl 0 rfl) ?_
      refine lv_iload_n (pc := 21) hx hb dX12_turn_21 rfl (lv_at hl 3 rfl) ?_
      obtain ⟨_, hg, h⟩ := zl_some h
      obtain ⟨v5, σ6, hv, h⟩ := zb_some h
      refine xcallVi (pc := 22) (As := [.int x3]) (rest := []) ⟨hx, hb, hml, hown, hts⟩ (c_X12_isRegister l D c o g N hv) zc12 zV_X12_321 rfl zd_X12_isRegister ⟨Nat.le_of_ble_eq_true rfl, Nat.le_of_ble_eq_true rfl⟩ hK hP hE hS hg hl.1 rfl (Nat.le_of_ble_eq_true rfl) ⟨Nat.zero_le _, Nat.zero_le _⟩ dX12_turn_22 (fun H locs hP hS => ?_)
      refine lv_if_ne (pc := 25) (tgt := 31) hx hb dX12_turn_25 (by decide) (fun c1 => ?_) (fun c1 => ?_)
      · rw [if_neg c1] at h
        refine lv_aload_n (pc := 31) hx hb dX12_turn_31 rfl (lv_at hl 0 rfl) ?_
        refine lv_aload_n (pc := 32) hx hb dX12_turn_32 rfl (lv_at hl 0 rfl) ?_
        obtain ⟨_, hg, h⟩ := zl_some h
        obtain ⟨v7, σ8, hv, h⟩ := zb_some h
        refine xcallVi (pc := 33) (As := []) (rest := [.ref (o + x0)]) ⟨hx, hb, hml, hown, hts⟩ (c_X12_many l D c o g N hv) zc12 zV_X12_104 rfl zd_X12_many ⟨Nat.le_of_ble_eq_true rfl, Nat.le_of_ble_eq_true rfl⟩ hK hP hE hS hg hl.1 rfl (Nat.le_of_ble_eq_true rfl) ⟨Nat.zero_le _, Nat.zero_le _⟩ dX12_turn_33 (fun H locs hP hS => ?_)
        obtain ⟨σ9, hv, h⟩ := zl_some h
        refine xpI (pc := 36) (j := 20) zc12 hx hb hts hown hK hP hS hv rfl rfl rfl zf_X12_180 dX12_turn_36 (fun H locs hP hS => ?_)
        refine lv_aload_n (pc := 39) hx hb dX12_turn_39 rfl (lv_at hl 0 rfl) ?_
        refine lv_iload_n (pc := 40) hx hb dX12_turn_40 rfl (lv_at hl 2 rfl) ?_
        refine lv_aload_n (pc := 41) hx hb dX12_turn_41 rfl (lv_at hl 0 rfl) ?_
        obtain ⟨v10, hv, h⟩ := zl_some h
        refine xgR (pc := 42) (j := 2) zc12 hx hb hts hown hK hP hv rfl zf_X12_13 dX12_turn_42 ?_
        refine lv_sipush (pc := 45) (v := 1024) hx hb dX12_turn_45 (by decide) ?_
        refine lv_iload_n (pc := 48) hx hb dX12_turn_48 rfl (lv_at hl 3 rfl) ?_
        refine lv_imul (pc := 49) hx hb dX12_turn_49 ?_
        obtain ⟨_, hg, h⟩ := zl_some h
        obtain ⟨v11, σ12, hv, h⟩ := zb_some h
        refine xcallVv (pc := 50) (As := [.int x2, .ref (o + v10), .int (1024 * x3)]) (rest := []) ⟨hx, hb, hml, hown, hts⟩ (c_X12_turns l D c o g N hv) zc12 zV_X12_209 rfl zd_X12_turns ⟨Nat.le_of_ble_eq_true rfl, Nat.le_of_ble_eq_true rfl⟩ hK hP hE hS hg hl.1 rfl (Nat.le_of_ble_eq_true rfl) ⟨Nat.zero_le _, Nat.zero_le _⟩ dX12_turn_50 (fun H locs hP hS => ?_)
        refine lv_aload_n (pc := 53) hx hb dX12_turn_53 rfl (lv_at hl 0 rfl) ?_
        refine lv_iload_n (pc := 54) hx hb dX12_turn_54 rfl (lv_at hl 1 rfl) ?_
        obtain ⟨_, hg, h⟩ := zl_some h
        obtain ⟨v13, σ14, hv, h⟩ := zb_some h
        refine xcallVi (pc := 55) (As := [.int x1]) (rest := []) ⟨hx, hb, hml, hown, hts⟩ (c_X12_lays l D c o g N hv) zc12 zV_X12_324 rfl zd_X12_lays ⟨Nat.le_of_ble_eq_true rfl, Nat.le_of_ble_eq_true rfl⟩ hK hP hE hS hg hl.1 rfl (Nat.le_of_ble_eq_true rfl) ⟨Nat.zero_le _, Nat.zero_le _⟩ dX12_turn_55 (fun H locs hP hS => ?_)
        exact xreti (pc := 58) hx hb hr hlocks hP hK hE hS h dX12_turn_58
      · rw [if_pos c1] at h
        refine lv_bipush (pc := 28) (v := (-2)) hx hb dX12_turn_28 (by decide) ?_
        exact xreti (pc := 30) hx hb hr hlocks hP hK hE hS h dX12_turn_30
def f_X12_sets (N : Nat) (x0 : Nat) (x1 : Int32) (x2 : Int32) (x3 : Int32) (σ : zS) : Option (Int32 × zS) :=
  zl (gC 12 x0) fun _ => zb (f_X12_isRegister N x0 x1 σ) fun v1 σ2 =>
  if v1 = 0 then
    (some ((-2), σ2))
  else
    (zl (gC 12 x0) fun _ => zb (f_X12_isSet N x0 x2 σ2) fun v3 σ4 =>
    if v3 = 0 then
      (some ((-2), σ4))
    else
      (zl (gC 12 x0) fun _ => zb (f_X12_of N x0 x1 x2 σ4) fun v5 σ6 =>
      zl (gR 12 2 x0 σ6) fun v7 =>
      zl (sI 16 v7 ((1024 * x1) + x2) x3 σ6) fun σ8 =>
      if v5 = x3 then
        (some (0, σ8))
      else
        (some (1, σ8))))
set_option maxHeartbeats 4000000 in
set_option maxRecDepth 100000 in
theorem c_X12_sets (l : Launch) (D : va_G) (c : zC) (o : Nat) (g : zEp) (N : Nat) {x0 : Nat} {x1 : Int32} {x2 : Int32} {x3 : Int32} {σ : zS} {ρ : Int32 × zS} (h : f_X12_sets N x0 x1 x2 x3 σ = some ρ) : Met l yX12_sets zs_X12_sets (zr 8) (va_Pc [.ref (o + x0), .int x1, .int x2, .int x3] (zG D c o g σ)) (zQi D c o g ρ) 0 0 (zA o) := by
  refine zMetG (by decide) (Nat.le_of_ble_eq_true rfl) ?_
  intro p e s m below meth cd ⟨hx, hb, hr, hml, hown, hts, hlocks⟩ hP hK hE ls hl
  have hS : va_S (zA o) s.heap s.heap [] := va_S.rf
  have hl : lv_has ls 5 [(0, .ref (o + x0)), (1, .int x1), (2, .int x2), (3, .int x3)] := hl
  rw [f_X12_sets.eq_1] at h
  refine lv_aload_n (pc := 0) hx hb dX12_sets_0 rfl (lv_at hl 0 rfl) ?_
  refine lv_iload_n (pc := 1) hx hb dX12_sets_1 rfl (lv_at hl 1 rfl) ?_
  obtain ⟨_, hg, h⟩ := zl_some h
  obtain ⟨v1, σ2, hv, h⟩ := zb_some h
  refine xcallVi (pc := 2) (As := [.int x1]) (rest := []) ⟨hx, hb, hml, hown, hts⟩ (c_X12_isRegister l D c o g N hv) zc12 zV_X12_321 rfl zd_X12_isRegister ⟨Nat.le_of_ble_eq_true rfl, Nat.le_of_ble_eq_true rfl⟩ hK hP hE hS hg hl.1 rfl (Nat.le_of_ble_eq_true rfl) ⟨Nat.zero_le _, Nat.zero_le _⟩ dX12_sets_2 (fun H locs hP hS => ?_)
  refine lv_if_eq (pc := 5) (tgt := 16) hx hb dX12_sets_5 (by decide) (fun c1 => ?_) (fun c1 => ?_)
  · rw [if_pos c1] at h
    refine lv_bipush (pc := 16) (v := (-2)) hx hb dX12_sets_16 (by decide) ?_
    exact xreti (pc := 18) hx hb hr hlocks hP hK hE hS h dX12_sets_18
  · rw [if_neg c1] at h
    refine lv_aload_n (pc := 8) hx hb dX12_sets_8 rfl (lv_at hl 0 rfl) ?_
    refine lv_iload_n (pc := 9) hx hb dX12_sets_9 rfl (lv_at hl 2 rfl) ?_
    obtain ⟨_, hg, h⟩ := zl_some h
    obtain ⟨v3, σ4, hv, h⟩ := zb_some h
    refine xcallVi (pc := 10) (As := [.int x2]) (rest := []) ⟨hx, hb, hml, hown, hts⟩ (c_X12_isSet l D c o g N hv) zc12 zV_X12_327 rfl zd_X12_isSet ⟨Nat.le_of_ble_eq_true rfl, Nat.le_of_ble_eq_true rfl⟩ hK hP hE hS hg hl.1 rfl (Nat.le_of_ble_eq_true rfl) ⟨Nat.zero_le _, Nat.zero_le _⟩ dX12_sets_10 (fun H locs hP hS => ?_)
    refine lv_if_ne (pc := 13) (tgt := 19) hx hb dX12_sets_13 (by decide) (fun c1 => ?_) (fun c1 => ?_)
    · rw [if_neg c1] at h
      refine lv_aload_n (pc := 19) hx hb dX12_sets_19 rfl (lv_at hl 0 rfl) ?_
      refine lv_iload_n (pc := 20) hx hb dX12_sets_20 rfl (lv_at hl 1 rfl) ?_
      refine lv_iload_n (pc := 21) hx hb dX12_sets_21 rfl (lv_at hl 2 rfl) ?_
      obtain ⟨_, hg, h⟩ := zl_some h
      obtain ⟨v5, σ6, hv, h⟩ := zb_some h
      refine xcallVi (pc := 22) (As := [.int x1, .int x2]) (rest := []) ⟨hx, hb, hml, hown, hts⟩ (c_X12_of l D c o g N hv) zc12 zV_X12_314 rfl zd_X12_of ⟨Nat.le_of_ble_eq_true rfl, Nat.le_of_ble_eq_true rfl⟩ hK hP hE hS hg hl.1 rfl (Nat.le_of_ble_eq_true rfl) ⟨Nat.zero_le _, Nat.zero_le _⟩ dX12_sets_22 (fun H locs hP hS => ?_)
      refine lv_istore (pc := 25) (lv' := [(4, .int v5), (0, .ref (o + x0)), (1, .int x1), (2, .int x2), (3, .int x3)]) hx hb dX12_sets_25 hl (by decide) rfl (fun ls hl => ?_)
      refine lv_aload_n (pc := 27) hx hb dX12_sets_27 rfl (lv_at hl 1 rfl) ?_
      obtain ⟨v7, hv, h⟩ := zl_some h
      refine xgR (pc := 28) (j := 2) zc12 hx hb hts hown hK hP hv rfl zf_X12_13 dX12_sets_28 ?_
      refine lv_sipush (pc := 31) (v := 1024) hx hb dX12_sets_31 (by decide) ?_
      refine lv_iload_n (pc := 34) hx hb dX12_sets_34 rfl (lv_at hl 2 rfl) ?_
      refine lv_imul (pc := 35) hx hb dX12_sets_35 ?_
      refine lv_iload_n (pc := 36) hx hb dX12_sets_36 rfl (lv_at hl 3 rfl) ?_
      refine lv_iadd (pc := 37) hx hb dX12_sets_37 ?_
      refine lv_iload_n (pc := 38) hx hb dX12_sets_38 rfl (lv_at hl 4 rfl) ?_
      obtain ⟨σ8, hv, h⟩ := zl_some h
      refine xsZ (pc := 39) hx hb hK hP hS hv dX12_sets_39 (fun H locs hP hS => ?_)
      refine lv_iload (pc := 40) hx hb dX12_sets_40 (lv_at hl 0 rfl) ?_
      refine lv_iload_n (pc := 42) hx hb dX12_sets_42 rfl (lv_at hl 4 rfl) ?_
      refine lv_icmp_ne (pc := 43) (tgt := 50) hx hb dX12_sets_43 (by decide) (fun c1 => ?_) (fun c1 => ?_)
      · rw [if_neg c1] at h
        refine lv_iconst (pc := 50) (v := 1) hx hb dX12_sets_50 (by decide) ?_
        exact xreti (pc := 51) hx hb hr hlocks hP hK hE hS h dX12_sets_51
      · rw [if_pos c1] at h
        refine lv_iconst (pc := 46) (v := 0) hx hb dX12_sets_46 (by decide) ?_
        refine lv_goto (pc := 47) (tgt := 51) hx hb dX12_sets_47 (by decide) ?_
        exact xreti (pc := 51) hx hb hr hlocks hP hK hE hS h dX12_sets_51
    · rw [if_pos c1] at h
      refine lv_bipush (pc := 16) (v := (-2)) hx hb dX12_sets_16 (by decide) ?_
      exact xreti (pc := 18) hx hb hr hlocks hP hK hE hS h dX12_sets_18
def F_X12_change_30 (N : Nat) (x0 : Nat) (x1 : Int32) (x2 : Int32) (x3 : Int32) (again30 : (Int32 × zS) → Option (Int32 × zS)) : Int32 × zS → Option (Int32 × zS)
  | (x4, σ) =>
  if 1024 ≤ x4 then
    (zl (gC 12 x0) fun _ => zb (f_X12_lays N x0 x1 σ) fun v7 σ8 =>
    some (v7, σ8))
  else
    (zl (gR 12 17 x0 σ) fun v9 =>
    zl (gC 12 x0) fun _ => zb (f_X12_many N x0 σ) fun v10 σ11 =>
    if v10 ≤ x4 then
      (zl (sI 16 v9 x4 0 σ11) fun σ12 =>
      again30 (x4 + 1, σ12))
    else
      (zl (gC 12 x0) fun _ => zb (f_X12_of N x0 x2 (x4 ^^^ ((1 : Int32) <<< (x3 &&& 31))) σ11) fun v13 σ14 =>
      if v13 = 0 then
        (zl (sI 16 v9 x4 0 σ14) fun σ15 =>
        again30 (x4 + 1, σ15))
      else
        (zl (sI 16 v9 x4 1 σ14) fun σ16 =>
        again30 (x4 + 1, σ16))))
def f_X12_change (N : Nat) (x0 : Nat) (x1 : Int32) (x2 : Int32) (x3 : Int32) (σ : zS) : Option (Int32 × zS) :=
  zl (gC 12 x0) fun _ => zb (f_X12_isRegister N x0 x1 σ) fun v1 σ2 =>
  if v1 = 0 then
    (some ((-2), σ2))
  else
    (zl (gC 12 x0) fun _ => zb (f_X12_isRegister N x0 x2 σ2) fun v3 σ4 =>
    if v3 = 0 then
      (some ((-2), σ4))
    else
      (zl (gC 12 x0) fun _ => zb (f_X12_isName N x0 x3 σ4) fun v5 σ6 =>
      if v5 = 0 then
        (some ((-2), σ6))
      else
        (zlp (F_X12_change_30 N x0 x1 x2 x3) N (0, σ6))))
set_option maxHeartbeats 4000000 in
set_option maxRecDepth 100000 in
theorem c_X12_change (l : Launch) (D : va_G) (c : zC) (o : Nat) (g : zEp) (N : Nat) {x0 : Nat} {x1 : Int32} {x2 : Int32} {x3 : Int32} {σ : zS} {ρ : Int32 × zS} (h : f_X12_change N x0 x1 x2 x3 σ = some ρ) : Met l yX12_change zs_X12_change (zr 10) (va_Pc [.ref (o + x0), .int x1, .int x2, .int x3] (zG D c o g σ)) (zQi D c o g ρ) 0 0 (zA o) := by
  refine zMetG (by decide) (Nat.le_of_ble_eq_true rfl) ?_
  intro p e s m below meth cd ⟨hx, hb, hr, hml, hown, hts, hlocks⟩ hP hK hE ls hl
  have hS : va_S (zA o) s.heap s.heap [] := va_S.rf
  have hl : lv_has ls 5 [(0, .ref (o + x0)), (1, .int x1), (2, .int x2), (3, .int x3)] := hl
  rw [f_X12_change.eq_1] at h
  refine lv_aload_n (pc := 0) hx hb dX12_change_0 rfl (lv_at hl 0 rfl) ?_
  refine lv_iload_n (pc := 1) hx hb dX12_change_1 rfl (lv_at hl 1 rfl) ?_
  obtain ⟨_, hg, h⟩ := zl_some h
  obtain ⟨v1, σ2, hv, h⟩ := zb_some h
  refine xcallVi (pc := 2) (As := [.int x1]) (rest := []) ⟨hx, hb, hml, hown, hts⟩ (c_X12_isRegister l D c o g N hv) zc12 zV_X12_321 rfl zd_X12_isRegister ⟨Nat.le_of_ble_eq_true rfl, Nat.le_of_ble_eq_true rfl⟩ hK hP hE hS hg hl.1 rfl (Nat.le_of_ble_eq_true rfl) ⟨Nat.zero_le _, Nat.zero_le _⟩ dX12_change_2 (fun H locs hP hS => ?_)
  refine lv_if_eq (pc := 5) (tgt := 24) hx hb dX12_change_5 (by decide) (fun c1 => ?_) (fun c1 => ?_)
  · rw [if_pos c1] at h
    refine lv_bipush (pc := 24) (v := (-2)) hx hb dX12_change_24 (by decide) ?_
    exact xreti (pc := 26) hx hb hr hlocks hP hK hE hS h dX12_change_26
  · rw [if_neg c1] at h
    refine lv_aload_n (pc := 8) hx hb dX12_change_8 rfl (lv_at hl 0 rfl) ?_
    refine lv_iload_n (pc := 9) hx hb dX12_change_9 rfl (lv_at hl 2 rfl) ?_
    obtain ⟨_, hg, h⟩ := zl_some h
    obtain ⟨v3, σ4, hv, h⟩ := zb_some h
    refine xcallVi (pc := 10) (As := [.int x2]) (rest := []) ⟨hx, hb, hml, hown, hts⟩ (c_X12_isRegister l D c o g N hv) zc12 zV_X12_321 rfl zd_X12_isRegister ⟨Nat.le_of_ble_eq_true rfl, Nat.le_of_ble_eq_true rfl⟩ hK hP hE hS hg hl.1 rfl (Nat.le_of_ble_eq_true rfl) ⟨Nat.zero_le _, Nat.zero_le _⟩ dX12_change_10 (fun H locs hP hS => ?_)
    refine lv_if_eq (pc := 13) (tgt := 24) hx hb dX12_change_13 (by decide) (fun c1 => ?_) (fun c1 => ?_)
    · rw [if_pos c1] at h
      refine lv_bipush (pc := 24) (v := (-2)) hx hb dX12_change_24 (by decide) ?_
      exact xreti (pc := 26) hx hb hr hlocks hP hK hE hS h dX12_change_26
    · rw [if_neg c1] at h
      refine lv_aload_n (pc := 16) hx hb dX12_change_16 rfl (lv_at hl 0 rfl) ?_
      refine lv_iload_n (pc := 17) hx hb dX12_change_17 rfl (lv_at hl 3 rfl) ?_
      obtain ⟨_, hg, h⟩ := zl_some h
      obtain ⟨v5, σ6, hv, h⟩ := zb_some h
      refine xcallVi (pc := 18) (As := [.int x3]) (rest := []) ⟨hx, hb, hml, hown, hts⟩ (c_X12_isName l D c o g N hv) zc12 zV_X12_332 rfl zd_X12_isName ⟨Nat.le_of_ble_eq_true rfl, Nat.le_of_ble_eq_true rfl⟩ hK hP hE hS hg hl.1 rfl (Nat.le_of_ble_eq_true rfl) ⟨Nat.zero_le _, Nat.zero_le _⟩ dX12_change_18 (fun H locs hP hS => ?_)
      refine lv_if_ne (pc := 21) (tgt := 27) hx hb dX12_change_21 (by decide) (fun c1 => ?_) (fun c1 => ?_)
      · rw [if_neg c1] at h
        refine lv_iconst (pc := 27) (v := 0) hx hb dX12_change_27 (by decide) ?_
        refine lv_istore (pc := 28) (lv' := [(4, .int 0), (0, .ref (o + x0)), (1, .int x1), (2, .int x2), (3, .int x3)]) hx hb dX12_change_28 hl (by decide) rfl (fun ls hl => ?_)
        have L30_7 : ∀ (n : Nat) (t : Int32 × zS), zlp (F_X12_change_30 N x0 x1 x2 x3) n t = some ρ → ∀ (H : Heap) (locs : List Loc) (ls : Array Slot), zP D c o (zabs o (t.2)) H → va_S (zA o) s.heap H locs → lv_has ls 5 [(4, .int (t.1)), (0, .ref (o + x0)), (1, .int x1), (2, .int x2), (3, .int x3)] → W p l e (zr 10) s m (([.ref (o + x0), .int x1, .int x2, .int x3] : List Value).toArray) below meth cd H locs 0 0 (MQ below (zQi D c o g ρ) (([.ref (o + x0), .int x1, .int x2, .int x3] : List Value).toArray) s 0 0 (zA o)) (F0 m 30 ls []) := by
          refine zlp_ind (fun ag7 ih7 t h H locs ls hP hS hl => ?_)
          obtain ⟨x4_7, σ7⟩ := t
          have hP : zP D c o (zabs o σ7) H := hP
          have hl : lv_has ls 5 [(4, .int x4_7), (0, .ref (o + x0)), (1, .int x1), (2, .int x2), (3, .int x3)] := hl
          rw [F_X12_change_30.eq_1] at h
          show W p l e (zr 10) s m (([.ref (o + x0), .int x1, .int x2, .int x3] : List Value).toArray) below meth cd H locs 0 0 (MQ below (zQi D c o g ρ) (([.ref (o + x0), .int x1, .int x2, .int x3] : List Value).toArray) s 0 0 (zA o)) (F0 m 30 ls [])
          refine lv_iload (pc := 30) hx hb dX12_change_30 (lv_at hl 0 rfl) ?_
          refine lv_sipush (pc := 32) (v := 1024) hx hb dX12_change_32 (by decide) ?_
          refine lv_icmp_ge (pc := 35) (tgt := 79) hx hb dX12_change_35 (by decide) (fun c1 => ?_) (fun c1 => ?_)
          · rw [if_pos c1] at h
            refine lv_aload_n (pc := 79) hx hb dX12_change_79 rfl (lv_at hl 1 rfl) ?_
            refine lv_iload_n (pc := 80) hx hb dX12_change_80 rfl (lv_at hl 2 rfl) ?_
            obtain ⟨_, hg, h⟩ := zl_some h
            obtain ⟨v8, σ9, hv, h⟩ := zb_some h
            refine xcallVi (pc := 81) (As := [.int x1]) (rest := []) ⟨hx, hb, hml, hown, hts⟩ (c_X12_lays l D c o g N hv) zc12 zV_X12_324 rfl zd_X12_lays ⟨Nat.le_of_ble_eq_true rfl, Nat.le_of_ble_eq_true rfl⟩ hK hP hE hS hg hl.1 rfl (Nat.le_of_ble_eq_true rfl) ⟨Nat.zero_le _, Nat.zero_le _⟩ dX12_change_81 (fun H locs hP hS => ?_)
            exact xreti (pc := 84) hx hb hr hlocks hP hK hE hS h dX12_change_84
          · rw [if_neg c1] at h
            refine lv_aload_n (pc := 38) hx hb dX12_change_38 rfl (lv_at hl 1 rfl) ?_
            obtain ⟨v10, hv, h⟩ := zl_some h
            refine xgR (pc := 39) (j := 17) zc12 hx hb hts hown hK hP hv rfl zf_X12_40 dX12_change_39 ?_
            refine lv_iload (pc := 42) hx hb dX12_change_42 (lv_at hl 0 rfl) ?_
            refine lv_iload (pc := 44) hx hb dX12_change_44 (lv_at hl 0 rfl) ?_
            refine lv_aload_n (pc := 46) hx hb dX12_change_46 rfl (lv_at hl 1 rfl) ?_
            obtain ⟨_, hg, h⟩ := zl_some h
            obtain ⟨v11, σ12, hv, h⟩ := zb_some h
            refine xcallVi (pc := 47) (As := []) (rest := [.int x4_7, .int x4_7, .ref (o + v10)]) ⟨hx, hb, hml, hown, hts⟩ (c_X12_many l D c o g N hv) zc12 zV_X12_104 rfl zd_X12_many ⟨Nat.le_of_ble_eq_true rfl, Nat.le_of_ble_eq_true rfl⟩ hK hP hE hS hg hl.1 rfl (Nat.le_of_ble_eq_true rfl) ⟨Nat.zero_le _, Nat.zero_le _⟩ dX12_change_47 (fun H locs hP hS => ?_)
            refine lv_icmp_ge (pc := 50) (tgt := 71) hx hb dX12_change_50 (by decide) (fun c1 => ?_) (fun c1 => ?_)
            · rw [if_pos c1] at h
              refine lv_iconst (pc := 71) (v := 0) hx hb dX12_change_71 (by decide) ?_
              obtain ⟨σ13, hv, h⟩ := zl_some h
              refine xsZ (pc := 72) hx hb hK hP hS hv dX12_change_72 (fun H locs hP hS => ?_)
              refine lv_iinc (pc := 73) (v := x4_7 + 1) (lv' := [(4, .int (x4_7 + 1)), (0, .ref (o + x0)), (1, .int x1), (2, .int x2), (3, .int x3)]) hx hb dX12_change_73 hl (k := 0) rfl rfl (by decide) rfl (fun ls hl => ?_)
              refine lv_goto (pc := 76) (tgt := 30) hx hb dX12_change_76 (by decide) ?_
              exact ih7 (x4_7 + 1, σ13) h _ _ ls hP hS (lv_sub hl [0, 1, 2, 3, 4] rfl)
            · rw [if_neg c1] at h
              refine lv_aload_n (pc := 53) hx hb dX12_change_53 rfl (lv_at hl 1 rfl) ?_
              refine lv_iload_n (pc := 54) hx hb dX12_change_54 rfl (lv_at hl 3 rfl) ?_
              refine lv_iload (pc := 55) hx hb dX12_change_55 (lv_at hl 0 rfl) ?_
              refine lv_iconst (pc := 57) (v := 1) hx hb dX12_change_57 (by decide) ?_
              refine lv_iload_n (pc := 58) hx hb dX12_change_58 rfl (lv_at hl 4 rfl) ?_
              refine lv_ishl (pc := 59) hx hb dX12_change_59 ?_
              refine lv_ixor (pc := 60) hx hb dX12_change_60 ?_
              obtain ⟨_, hg, h⟩ := zl_some h
              obtain ⟨v14, σ15, hv, h⟩ := zb_some h
              refine xcallVi (pc := 61) (As := [.int x2, .int (x4_7 ^^^ ((1 : Int32) <<< (x3 &&& 31)))]) (rest := [.int x4_7, .ref (o + v10)]) ⟨hx, hb, hml, hown, hts⟩ (c_X12_of l D c o g N hv) zc12 zV_X12_314 rfl zd_X12_of ⟨Nat.le_of_ble_eq_true rfl, Nat.le_of_ble_eq_true rfl⟩ hK hP hE hS hg hl.1 rfl (Nat.le_of_ble_eq_true rfl) ⟨Nat.zero_le _, Nat.zero_le _⟩ dX12_change_61 (fun H locs hP hS => ?_)
              refine lv_if_eq (pc := 64) (tgt := 71) hx hb dX12_change_64 (by decide) (fun c1 => ?_) (fun c1 => ?_)
              · rw [if_pos c1] at h
                refine lv_iconst (pc := 71) (v := 0) hx hb dX12_change_71 (by decide) ?_
                obtain ⟨σ16, hv, h⟩ := zl_some h
                refine xsZ (pc := 72) hx hb hK hP hS hv dX12_change_72 (fun H locs hP hS => ?_)
                refine lv_iinc (pc := 73) (v := x4_7 + 1) (lv' := [(4, .int (x4_7 + 1)), (0, .ref (o + x0)), (1, .int x1), (2, .int x2), (3, .int x3)]) hx hb dX12_change_73 hl (k := 0) rfl rfl (by decide) rfl (fun ls hl => ?_)
                refine lv_goto (pc := 76) (tgt := 30) hx hb dX12_change_76 (by decide) ?_
                exact ih7 (x4_7 + 1, σ16) h _ _ ls hP hS (lv_sub hl [0, 1, 2, 3, 4] rfl)
              · rw [if_neg c1] at h
                refine lv_iconst (pc := 67) (v := 1) hx hb dX12_change_67 (by decide) ?_
                refine lv_goto (pc := 68) (tgt := 72) hx hb dX12_change_68 (by decide) ?_
                obtain ⟨σ17, hv, h⟩ := zl_some h
                refine xsZ (pc := 72) hx hb hK hP hS hv dX12_change_72 (fun H locs hP hS => ?_)
                refine lv_iinc (pc := 73) (v := x4_7 + 1) (lv' := [(4, .int (x4_7 + 1)), (0, .ref (o + x0)), (1, .int x1), (2, .int x2), (3, .int x3)]) hx hb dX12_change_73 hl (k := 0) rfl rfl (by decide) rfl (fun ls hl => ?_)
                refine lv_goto (pc := 76) (tgt := 30) hx hb dX12_change_76 (by decide) ?_
                exact ih7 (x4_7 + 1, σ17) h _ _ ls hP hS (lv_sub hl [0, 1, 2, 3, 4] rfl)
        exact L30_7 N (0, σ6) h _ _ ls hP hS (lv_sub hl [0, 1, 2, 3, 4] rfl)
      · rw [if_pos c1] at h
        refine lv_bipush (pc := 24) (v := (-2)) hx hb dX12_change_24 (by decide) ?_
        exact xreti (pc := 26) hx hb hr hlocks hP hK hE hS h dX12_change_26
def J_X12_half_83 (N : Nat) (again35 : (Int32 × zS) → Option (Int32 × zS)) (x0 : Nat) (x1 : Int32) (x2 : Int32) (x4 : Int32) (x5 : Int32) (x6 : Int32) (y0 : Int32) (y1 : Int32) (y2 : Nat) (y3 : Int32) (y4 : Nat) (σ : zS) : Option (Int32 × zS) :=
  zl (gC 12 y2) fun _ => zb (f_X12_of N y2 y1 y0 σ) fun v13 σ14 =>
  if v13 = 0 then
    (zl (sI 16 y4 y3 0 σ14) fun σ15 =>
    again35 (x6 + 1, σ15))
  else
    (zl (sI 16 y4 y3 1 σ14) fun σ16 =>
    again35 (x6 + 1, σ16))
def F_X12_half_35 (N : Nat) (x0 : Nat) (x1 : Int32) (x2 : Int32) (x4 : Int32) (x5 : Int32) (again35 : (Int32 × zS) → Option (Int32 × zS)) : Int32 × zS → Option (Int32 × zS)
  | (x6, σ) =>
  if 1024 ≤ x6 then
    (zl (gC 12 x0) fun _ => zb (f_X12_lays N x0 x1 σ) fun v7 σ8 =>
    some (v7, σ8))
  else
    (zl (gR 12 17 x0 σ) fun v9 =>
    zl (gC 12 x0) fun _ => zb (f_X12_many N x0 σ) fun v10 σ11 =>
    if v10 ≤ x6 then
      (zl (sI 16 v9 x6 0 σ11) fun σ12 =>
      again35 (x6 + 1, σ12))
    else
      (if (x6 &&& x5) = 0 then
        (if x4 = 0 then
          (J_X12_half_83 N again35 x0 x1 x2 x4 x5 x6 x6 x2 x0 x6 v9 σ11)
        else
          (J_X12_half_83 N again35 x0 x1 x2 x4 x5 x6 (x6 ||| x5) x2 x0 x6 v9 σ11))
      else
        (zl (sI 16 v9 x6 0 σ11) fun σ17 =>
        again35 (x6 + 1, σ17))))
def f_X12_half (N : Nat) (x0 : Nat) (x1 : Int32) (x2 : Int32) (x3 : Int32) (x4 : Int32) (σ : zS) : Option (Int32 × zS) :=
  zl (gC 12 x0) fun _ => zb (f_X12_isRegister N x0 x1 σ) fun v1 σ2 =>
  if v1 = 0 then
    (some ((-2), σ2))
  else
    (zl (gC 12 x0) fun _ => zb (f_X12_isRegister N x0 x2 σ2) fun v3 σ4 =>
    if v3 = 0 then
      (some ((-2), σ4))
    else
      (zl (gC 12 x0) fun _ => zb (f_X12_isName N x0 x3 σ4) fun v5 σ6 =>
      if v5 = 0 then
        (some ((-2), σ6))
      else
        (zlp (F_X12_half_35 N x0 x1 x2 x4 ((1 : Int32) <<< (x3 &&& 31))) N (0, σ6))))
set_option maxHeartbeats 4000000 in
set_option maxRecDepth 100000 in
theorem c_X12_half (l : Launch) (D : va_G) (c : zC) (o : Nat) (g : zEp) (N : Nat) {x0 : Nat} {x1 : Int32} {x2 : Int32} {x3 : Int32} {x4 : Int32} {σ : zS} {ρ : Int32 × zS} (h : f_X12_half N x0 x1 x2 x3 x4 σ = some ρ) : Met l yX12_half zs_X12_half (zr 10) (va_Pc [.ref (o + x0), .int x1, .int x2, .int x3, .int x4] (zG D c o g σ)) (zQi D c o g ρ) 0 0 (zA o) := by
  refine zMetG (by decide) (Nat.le_of_ble_eq_true rfl) ?_
  intro p e s m below meth cd ⟨hx, hb, hr, hml, hown, hts, hlocks⟩ hP hK hE ls hl
  have hS : va_S (zA o) s.heap s.heap [] := va_S.rf
  have hl : lv_has ls 7 [(0, .ref (o + x0)), (1, .int x1), (2, .int x2), (3, .int x3), (4, .int x4)] := hl
  rw [f_X12_half.eq_1] at h
  refine lv_aload_n (pc := 0) hx hb dX12_half_0 rfl (lv_at hl 0 rfl) ?_
  refine lv_iload_n (pc := 1) hx hb dX12_half_1 rfl (lv_at hl 1 rfl) ?_
  obtain ⟨_, hg, h⟩ := zl_some h
  obtain ⟨v1, σ2, hv, h⟩ := zb_some h
  refine xcallVi (pc := 2) (As := [.int x1]) (rest := []) ⟨hx, hb, hml, hown, hts⟩ (c_X12_isRegister l D c o g N hv) zc12 zV_X12_321 rfl zd_X12_isRegister ⟨Nat.le_of_ble_eq_true rfl, Nat.le_of_ble_eq_true rfl⟩ hK hP hE hS hg hl.1 rfl (Nat.le_of_ble_eq_true rfl) ⟨Nat.zero_le _, Nat.zero_le _⟩ dX12_half_2 (fun H locs hP hS => ?_)
  refine lv_if_eq (pc := 5) (tgt := 24) hx hb dX12_half_5 (by decide) (fun c1 => ?_) (fun c1 => ?_)
  · rw [if_pos c1] at h
    refine lv_bipush (pc := 24) (v := (-2)) hx hb dX12_half_24 (by decide) ?_
    exact xreti (pc := 26) hx hb hr hlocks hP hK hE hS h dX12_half_26
  · rw [if_neg c1] at h
    refine lv_aload_n (pc := 8) hx hb dX12_half_8 rfl (lv_at hl 0 rfl) ?_
    refine lv_iload_n (pc := 9) hx hb dX12_half_9 rfl (lv_at hl 2 rfl) ?_
    obtain ⟨_, hg, h⟩ := zl_some h
    obtain ⟨v3, σ4, hv, h⟩ := zb_some h
    refine xcallVi (pc := 10) (As := [.int x2]) (rest := []) ⟨hx, hb, hml, hown, hts⟩ (c_X12_isRegister l D c o g N hv) zc12 zV_X12_321 rfl zd_X12_isRegister ⟨Nat.le_of_ble_eq_true rfl, Nat.le_of_ble_eq_true rfl⟩ hK hP hE hS hg hl.1 rfl (Nat.le_of_ble_eq_true rfl) ⟨Nat.zero_le _, Nat.zero_le _⟩ dX12_half_10 (fun H locs hP hS => ?_)
    refine lv_if_eq (pc := 13) (tgt := 24) hx hb dX12_half_13 (by decide) (fun c1 => ?_) (fun c1 => ?_)
    · rw [if_pos c1] at h
      refine lv_bipush (pc := 24) (v := (-2)) hx hb dX12_half_24 (by decide) ?_
      exact xreti (pc := 26) hx hb hr hlocks hP hK hE hS h dX12_half_26
    · rw [if_neg c1] at h
      refine lv_aload_n (pc := 16) hx hb dX12_half_16 rfl (lv_at hl 0 rfl) ?_
      refine lv_iload_n (pc := 17) hx hb dX12_half_17 rfl (lv_at hl 3 rfl) ?_
      obtain ⟨_, hg, h⟩ := zl_some h
      obtain ⟨v5, σ6, hv, h⟩ := zb_some h
      refine xcallVi (pc := 18) (As := [.int x3]) (rest := []) ⟨hx, hb, hml, hown, hts⟩ (c_X12_isName l D c o g N hv) zc12 zV_X12_332 rfl zd_X12_isName ⟨Nat.le_of_ble_eq_true rfl, Nat.le_of_ble_eq_true rfl⟩ hK hP hE hS hg hl.1 rfl (Nat.le_of_ble_eq_true rfl) ⟨Nat.zero_le _, Nat.zero_le _⟩ dX12_half_18 (fun H locs hP hS => ?_)
      refine lv_if_ne (pc := 21) (tgt := 27) hx hb dX12_half_21 (by decide) (fun c1 => ?_) (fun c1 => ?_)
      · rw [if_neg c1] at h
        refine lv_iconst (pc := 27) (v := 1) hx hb dX12_half_27 (by decide) ?_
        refine lv_iload_n (pc := 28) hx hb dX12_half_28 rfl (lv_at hl 3 rfl) ?_
        refine lv_ishl (pc := 29) hx hb dX12_half_29 ?_
        refine lv_istore (pc := 30) (lv' := [(5, .int ((1 : Int32) <<< (x3 &&& 31))), (0, .ref (o + x0)), (1, .int x1), (2, .int x2), (3, .int x3), (4, .int x4)]) hx hb dX12_half_30 hl (by decide) rfl (fun ls hl => ?_)
        refine lv_iconst (pc := 32) (v := 0) hx hb dX12_half_32 (by decide) ?_
        refine lv_istore (pc := 33) (lv' := [(6, .int 0), (5, .int ((1 : Int32) <<< (x3 &&& 31))), (0, .ref (o + x0)), (1, .int x1), (2, .int x2), (3, .int x3), (4, .int x4)]) hx hb dX12_half_33 hl (by decide) rfl (fun ls hl => ?_)
        have L35_7 : ∀ (n : Nat) (t : Int32 × zS), zlp (F_X12_half_35 N x0 x1 x2 x4 ((1 : Int32) <<< (x3 &&& 31))) n t = some ρ → ∀ (H : Heap) (locs : List Loc) (ls : Array Slot), zP D c o (zabs o (t.2)) H → va_S (zA o) s.heap H locs → lv_has ls 7 [(6, .int (t.1)), (0, .ref (o + x0)), (1, .int x1), (2, .int x2), (4, .int x4), (5, .int ((1 : Int32) <<< (x3 &&& 31)))] → W p l e (zr 10) s m (([.ref (o + x0), .int x1, .int x2, .int x3, .int x4] : List Value).toArray) below meth cd H locs 0 0 (MQ below (zQi D c o g ρ) (([.ref (o + x0), .int x1, .int x2, .int x3, .int x4] : List Value).toArray) s 0 0 (zA o)) (F0 m 35 ls []) := by
          refine zlp_ind (fun ag7 ih7 t h H locs ls hP hS hl => ?_)
          obtain ⟨x6_7, σ7⟩ := t
          have hP : zP D c o (zabs o σ7) H := hP
          have hl : lv_has ls 7 [(6, .int x6_7), (0, .ref (o + x0)), (1, .int x1), (2, .int x2), (4, .int x4), (5, .int ((1 : Int32) <<< (x3 &&& 31)))] := hl
          rw [F_X12_half_35.eq_1] at h
          show W p l e (zr 10) s m (([.ref (o + x0), .int x1, .int x2, .int x3, .int x4] : List Value).toArray) below meth cd H locs 0 0 (MQ below (zQi D c o g ρ) (([.ref (o + x0), .int x1, .int x2, .int x3, .int x4] : List Value).toArray) s 0 0 (zA o)) (F0 m 35 ls [])
          refine lv_iload (pc := 35) hx hb dX12_half_35 (lv_at hl 0 rfl) ?_
          refine lv_sipush (pc := 37) (v := 1024) hx hb dX12_half_37 (by decide) ?_
          refine lv_icmp_ge (pc := 40) (tgt := 101) hx hb dX12_half_40 (by decide) (fun c1 => ?_) (fun c1 => ?_)
          · rw [if_pos c1] at h
            refine lv_aload_n (pc := 101) hx hb dX12_half_101 rfl (lv_at hl 1 rfl) ?_
            refine lv_iload_n (pc := 102) hx hb dX12_half_102 rfl (lv_at hl 2 rfl) ?_
            obtain ⟨_, hg, h⟩ := zl_some h
            obtain ⟨v8, σ9, hv, h⟩ := zb_some h
            refine xcallVi (pc := 103) (As := [.int x1]) (rest := []) ⟨hx, hb, hml, hown, hts⟩ (c_X12_lays l D c o g N hv) zc12 zV_X12_324 rfl zd_X12_lays ⟨Nat.le_of_ble_eq_true rfl, Nat.le_of_ble_eq_true rfl⟩ hK hP hE hS hg hl.1 rfl (Nat.le_of_ble_eq_true rfl) ⟨Nat.zero_le _, Nat.zero_le _⟩ dX12_half_103 (fun H locs hP hS => ?_)
            exact xreti (pc := 106) hx hb hr hlocks hP hK hE hS h dX12_half_106
          · rw [if_neg c1] at h
            refine lv_aload_n (pc := 43) hx hb dX12_half_43 rfl (lv_at hl 1 rfl) ?_
            obtain ⟨v10, hv, h⟩ := zl_some h
            refine xgR (pc := 44) (j := 17) zc12 hx hb hts hown hK hP hv rfl zf_X12_40 dX12_half_44 ?_
            refine lv_iload (pc := 47) hx hb dX12_half_47 (lv_at hl 0 rfl) ?_
            refine lv_iload (pc := 49) hx hb dX12_half_49 (lv_at hl 0 rfl) ?_
            refine lv_aload_n (pc := 51) hx hb dX12_half_51 rfl (lv_at hl 1 rfl) ?_
            obtain ⟨_, hg, h⟩ := zl_some h
            obtain ⟨v11, σ12, hv, h⟩ := zb_some h
            refine xcallVi (pc := 52) (As := []) (rest := [.int x6_7, .int x6_7, .ref (o + v10)]) ⟨hx, hb, hml, hown, hts⟩ (c_X12_many l D c o g N hv) zc12 zV_X12_104 rfl zd_X12_many ⟨Nat.le_of_ble_eq_true rfl, Nat.le_of_ble_eq_true rfl⟩ hK hP hE hS hg hl.1 rfl (Nat.le_of_ble_eq_true rfl) ⟨Nat.zero_le _, Nat.zero_le _⟩ dX12_half_52 (fun H locs hP hS => ?_)
            refine lv_icmp_ge (pc := 55) (tgt := 93) hx hb dX12_half_55 (by decide) (fun c1 => ?_) (fun c1 => ?_)
            · rw [if_pos c1] at h
              refine lv_iconst (pc := 93) (v := 0) hx hb dX12_half_93 (by decide) ?_
              obtain ⟨σ13, hv, h⟩ := zl_some h
              refine xsZ (pc := 94) hx hb hK hP hS hv dX12_half_94 (fun H locs hP hS => ?_)
              refine lv_iinc (pc := 95) (v := x6_7 + 1) (lv' := [(6, .int (x6_7 + 1)), (0, .ref (o + x0)), (1, .int x1), (2, .int x2), (4, .int x4), (5, .int ((1 : Int32) <<< (x3 &&& 31)))]) hx hb dX12_half_95 hl (k := 0) rfl rfl (by decide) rfl (fun ls hl => ?_)
              refine lv_goto (pc := 98) (tgt := 35) hx hb dX12_half_98 (by decide) ?_
              exact ih7 (x6_7 + 1, σ13) h _ _ ls hP hS (lv_sub hl [0, 1, 2, 3, 4, 5] rfl)
            · rw [if_neg c1] at h
              refine lv_iload (pc := 58) hx hb dX12_half_58 (lv_at hl 0 rfl) ?_
              refine lv_iload (pc := 60) hx hb dX12_half_60 (lv_at hl 5 rfl) ?_
              refine lv_iand (pc := 62) hx hb dX12_half_62 ?_
              refine lv_if_ne (pc := 63) (tgt := 93) hx hb dX12_half_63 (by decide) (fun c1 => ?_) (fun c1 => ?_)
              · rw [if_neg c1] at h
                refine lv_iconst (pc := 93) (v := 0) hx hb dX12_half_93 (by decide) ?_
                obtain ⟨σ14, hv, h⟩ := zl_some h
                refine xsZ (pc := 94) hx hb hK hP hS hv dX12_half_94 (fun H locs hP hS => ?_)
                refine lv_iinc (pc := 95) (v := x6_7 + 1) (lv' := [(6, .int (x6_7 + 1)), (0, .ref (o + x0)), (1, .int x1), (2, .int x2), (4, .int x4), (5, .int ((1 : Int32) <<< (x3 &&& 31)))]) hx hb dX12_half_95 hl (k := 0) rfl rfl (by decide) rfl (fun ls hl => ?_)
                refine lv_goto (pc := 98) (tgt := 35) hx hb dX12_half_98 (by decide) ?_
                exact ih7 (x6_7 + 1, σ14) h _ _ ls hP hS (lv_sub hl [0, 1, 2, 3, 4, 5] rfl)
              · rw [if_pos c1] at h
                refine lv_aload_n (pc := 66) hx hb dX12_half_66 rfl (lv_at hl 1 rfl) ?_
                refine lv_iload_n (pc := 67) hx hb dX12_half_67 rfl (lv_at hl 3 rfl) ?_
                refine lv_iload (pc := 68) hx hb dX12_half_68 (lv_at hl 4 rfl) ?_
                have hj83_15 : ∀ (y0_15 : Int32) (y1_15 : Int32) (y2_15 : Nat) (y3_15 : Int32) (y4_15 : Nat) (σ15 : zS), J_X12_half_83 N ag7 x0 x1 x2 x4 ((1 : Int32) <<< (x3 &&& 31)) x6_7 y0_15 y1_15 y2_15 y3_15 y4_15 σ15 = some ρ → ∀ (H : Heap) (locs : List Loc) (ls : Array Slot), zP D c o (zabs o σ15) H → va_S (zA o) s.heap H locs → lv_has ls 7 [(0, .ref (o + x0)), (1, .int x1), (2, .int x2), (4, .int x4), (5, .int ((1 : Int32) <<< (x3 &&& 31))), (6, .int x6_7)] → W p l e (zr 10) s m (([.ref (o + x0), .int x1, .int x2, .int x3, .int x4] : List Value).toArray) below meth cd H locs 0 0 (MQ below (zQi D c o g ρ) (([.ref (o + x0), .int x1, .int x2, .int x3, .int x4] : List Value).toArray) s 0 0 (zA o)) (F0 m 83 ls [.int y0_15, .int y1_15, .ref (o + y2_15), .int y3_15, .ref (o + y4_15)]) := by
                  intro y0_15 y1_15 y2_15 y3_15 y4_15 σ15 h H locs ls hP hS hl
                  rw [J_X12_half_83.eq_1] at h
                  obtain ⟨_, hg, h⟩ := zl_some h
                  obtain ⟨v16, σ17, hv, h⟩ := zb_some h
                  refine xcallVi (pc := 83) (As := [.int y1_15, .int y0_15]) (rest := [.int y3_15, .ref (o + y4_15)]) ⟨hx, hb, hml, hown, hts⟩ (c_X12_of l D c o g N hv) zc12 zV_X12_314 rfl zd_X12_of ⟨Nat.le_of_ble_eq_true rfl, Nat.le_of_ble_eq_true rfl⟩ hK hP hE hS hg hl.1 rfl (Nat.le_of_ble_eq_true rfl) ⟨Nat.zero_le _, Nat.zero_le _⟩ dX12_half_83 (fun H locs hP hS => ?_)
                  refine lv_if_eq (pc := 86) (tgt := 93) hx hb dX12_half_86 (by decide) (fun c1 => ?_) (fun c1 => ?_)
                  · rw [if_pos c1] at h
                    refine lv_iconst (pc := 93) (v := 0) hx hb dX12_half_93 (by decide) ?_
                    obtain ⟨σ18, hv, h⟩ := zl_some h
                    refine xsZ (pc := 94) hx hb hK hP hS hv dX12_half_94 (fun H locs hP hS => ?_)
                    refine lv_iinc (pc := 95) (v := x6_7 + 1) (lv' := [(6, .int (x6_7 + 1)), (0, .ref (o + x0)), (1, .int x1), (2, .int x2), (4, .int x4), (5, .int ((1 : Int32) <<< (x3 &&& 31)))]) hx hb dX12_half_95 hl (k := 5) rfl rfl (by decide) rfl (fun ls hl => ?_)
                    refine lv_goto (pc := 98) (tgt := 35) hx hb dX12_half_98 (by decide) ?_
                    exact ih7 (x6_7 + 1, σ18) h _ _ ls hP hS (lv_sub hl [0, 1, 2, 3, 4, 5] rfl)
                  · rw [if_neg c1] at h
                    refine lv_iconst (pc := 89) (v := 1) hx hb dX12_half_89 (by decide) ?_
                    refine lv_goto (pc := 90) (tgt := 94) hx hb dX12_half_90 (by decide) ?_
                    obtain ⟨σ19, hv, h⟩ := zl_some h
                    refine xsZ (pc := 94) hx hb hK hP hS hv dX12_half_94 (fun H locs hP hS => ?_)
                    refine lv_iinc (pc := 95) (v := x6_7 + 1) (lv' := [(6, .int (x6_7 + 1)), (0, .ref (o + x0)), (1, .int x1), (2, .int x2), (4, .int x4), (5, .int ((1 : Int32) <<< (x3 &&& 31)))]) hx hb dX12_half_95 hl (k := 5) rfl rfl (by decide) rfl (fun ls hl => ?_)
                    refine lv_goto (pc := 98) (tgt := 35) hx hb dX12_half_98 (by decide) ?_
                    exact ih7 (x6_7 + 1, σ19) h _ _ ls hP hS (lv_sub hl [0, 1, 2, 3, 4, 5] rfl)
                refine lv_if_eq (pc := 70) (tgt := 81) hx hb dX12_half_70 (by decide) (fun c1 => ?_) (fun c1 => ?_)
                · rw [if_pos c1] at h
                  refine lv_iload (pc := 81) hx hb dX12_half_81 (lv_at hl 0 rfl) ?_
                  exact hj83_15 (x6_7) (x2) (x0) (x6_7) (v10) σ12 h _ _ ls hP hS (lv_sub hl [1, 2, 3, 4, 5, 0] rfl)
                · rw [if_neg c1] at h
                  refine lv_iload (pc := 73) hx hb dX12_half_73 (lv_at hl 0 rfl) ?_
                  refine lv_iload (pc := 75) hx hb dX12_half_75 (lv_at hl 5 rfl) ?_
                  refine lv_ior (pc := 77) hx hb dX12_half_77 ?_
                  refine lv_goto (pc := 78) (tgt := 83) hx hb dX12_half_78 (by decide) ?_
                  exact hj83_15 (x6_7 ||| ((1 : Int32) <<< (x3 &&& 31))) (x2) (x0) (x6_7) (v10) σ12 h _ _ ls hP hS (lv_sub hl [1, 2, 3, 4, 5, 0] rfl)
        exact L35_7 N (0, σ6) h _ _ ls hP hS (lv_sub hl [0, 2, 3, 4, 6, 1] rfl)
      · rw [if_pos c1] at h
        refine lv_bipush (pc := 24) (v := (-2)) hx hb dX12_half_24 (by decide) ?_
        exact xreti (pc := 26) hx hb hr hlocks hP hK hE hS h dX12_half_26
def F_X12_level_34 (N : Nat) (x0 : Nat) (x1 : Int32) (x2 : Int32) (x3 : Int32) (again34 : (Int32 × zS) → Option (Int32 × zS)) : Int32 × zS → Option (Int32 × zS)
  | (x4, σ) =>
  if 1024 ≤ x4 then
    (zl (gC 12 x0) fun _ => zb (f_X12_lays N x0 x1 σ) fun v7 σ8 =>
    some (v7, σ8))
  else
    (zl (gR 12 17 x0 σ) fun v9 =>
    zl (gC 12 x0) fun _ => zb (f_X12_many N x0 σ) fun v10 σ11 =>
    if v10 ≤ x4 then
      (zl (sI 16 v9 x4 0 σ11) fun σ12 =>
      again34 (x4 + 1, σ12))
    else
      (zl (gC 12 x0) fun _ => zb (f_X12_of N x0 x2 x4 σ11) fun v13 σ14 =>
      if v13 = 0 then
        (zl (sI 16 v9 x4 0 σ14) fun σ15 =>
        again34 (x4 + 1, σ15))
      else
        (zb (f_X12_namesOf N x4 σ14) fun v16 σ17 =>
        if v16 = x3 then
          (zl (sI 16 v9 x4 1 σ17) fun σ18 =>
          again34 (x4 + 1, σ18))
        else
          (zl (sI 16 v9 x4 0 σ17) fun σ19 =>
          again34 (x4 + 1, σ19)))))
def f_X12_level (N : Nat) (x0 : Nat) (x1 : Int32) (x2 : Int32) (x3 : Int32) (σ : zS) : Option (Int32 × zS) :=
  zl (gC 12 x0) fun _ => zb (f_X12_isRegister N x0 x1 σ) fun v1 σ2 =>
  if v1 = 0 then
    (some ((-2), σ2))
  else
    (zl (gC 12 x0) fun _ => zb (f_X12_isRegister N x0 x2 σ2) fun v3 σ4 =>
    if v3 = 0 then
      (some ((-2), σ4))
    else
      (zb (f_X12_in N (Int32.toInt64 x3) 0 10 σ4) fun v5 σ6 =>
      if v5 = 0 then
        (some ((-2), σ6))
      else
        (zlp (F_X12_level_34 N x0 x1 x2 x3) N (0, σ6))))
set_option maxHeartbeats 4000000 in
set_option maxRecDepth 100000 in
theorem c_X12_level (l : Launch) (D : va_G) (c : zC) (o : Nat) (g : zEp) (N : Nat) {x0 : Nat} {x1 : Int32} {x2 : Int32} {x3 : Int32} {σ : zS} {ρ : Int32 × zS} (h : f_X12_level N x0 x1 x2 x3 σ = some ρ) : Met l yX12_level zs_X12_level (zr 10) (va_Pc [.ref (o + x0), .int x1, .int x2, .int x3] (zG D c o g σ)) (zQi D c o g ρ) 0 0 (zA o) := by
  refine zMetG (by decide) (Nat.le_of_ble_eq_true rfl) ?_
  intro p e s m below meth cd ⟨hx, hb, hr, hml, hown, hts, hlocks⟩ hP hK hE ls hl
  have hS : va_S (zA o) s.heap s.heap [] := va_S.rf
  have hl : lv_has ls 5 [(0, .ref (o + x0)), (1, .int x1), (2, .int x2), (3, .int x3)] := hl
  rw [f_X12_level.eq_1] at h
  refine lv_aload_n (pc := 0) hx hb dX12_level_0 rfl (lv_at hl 0 rfl) ?_
  refine lv_iload_n (pc := 1) hx hb dX12_level_1 rfl (lv_at hl 1 rfl) ?_
  obtain ⟨_, hg, h⟩ := zl_some h
  obtain ⟨v1, σ2, hv, h⟩ := zb_some h
  refine xcallVi (pc := 2) (As := [.int x1]) (rest := []) ⟨hx, hb, hml, hown, hts⟩ (c_X12_isRegister l D c o g N hv) zc12 zV_X12_321 rfl zd_X12_isRegister ⟨Nat.le_of_ble_eq_true rfl, Nat.le_of_ble_eq_true rfl⟩ hK hP hE hS hg hl.1 rfl (Nat.le_of_ble_eq_true rfl) ⟨Nat.zero_le _, Nat.zero_le _⟩ dX12_level_2 (fun H locs hP hS => ?_)
  refine lv_if_eq (pc := 5) (tgt := 28) hx hb dX12_level_5 (by decide) (fun c1 => ?_) (fun c1 => ?_)
  · rw [if_pos c1] at h
    refine lv_bipush (pc := 28) (v := (-2)) hx hb dX12_level_28 (by decide) ?_
    exact xreti (pc := 30) hx hb hr hlocks hP hK hE hS h dX12_level_30
  · rw [if_neg c1] at h
    refine lv_aload_n (pc := 8) hx hb dX12_level_8 rfl (lv_at hl 0 rfl) ?_
    refine lv_iload_n (pc := 9) hx hb dX12_level_9 rfl (lv_at hl 2 rfl) ?_
    obtain ⟨_, hg, h⟩ := zl_some h
    obtain ⟨v3, σ4, hv, h⟩ := zb_some h
    refine xcallVi (pc := 10) (As := [.int x2]) (rest := []) ⟨hx, hb, hml, hown, hts⟩ (c_X12_isRegister l D c o g N hv) zc12 zV_X12_321 rfl zd_X12_isRegister ⟨Nat.le_of_ble_eq_true rfl, Nat.le_of_ble_eq_true rfl⟩ hK hP hE hS hg hl.1 rfl (Nat.le_of_ble_eq_true rfl) ⟨Nat.zero_le _, Nat.zero_le _⟩ dX12_level_10 (fun H locs hP hS => ?_)
    refine lv_if_eq (pc := 13) (tgt := 28) hx hb dX12_level_13 (by decide) (fun c1 => ?_) (fun c1 => ?_)
    · rw [if_pos c1] at h
      refine lv_bipush (pc := 28) (v := (-2)) hx hb dX12_level_28 (by decide) ?_
      exact xreti (pc := 30) hx hb hr hlocks hP hK hE hS h dX12_level_30
    · rw [if_neg c1] at h
      refine lv_iload_n (pc := 16) hx hb dX12_level_16 rfl (lv_at hl 3 rfl) ?_
      refine lv_i2l (pc := 17) hx hb dX12_level_17 rfl ?_
      refine lv_lconst (pc := 18) (v := 0) hx hb dX12_level_18 (by decide) ?_
      refine lv_ldc2 (pc := 19) hx hb hown (hts _ zk_X12_335) dX12_level_19 ?_
      obtain ⟨v5, σ6, hv, h⟩ := zb_some h
      refine xcallSi (pc := 22) (As := [.long (Int32.toInt64 x3), .long 0, .long 10]) (rest := []) ⟨hx, hb, hml, hown, hts⟩ (c_X12_in l D c o g N hv) zT_X12_94 rfl zd_X12_in ⟨Nat.le_of_ble_eq_true rfl, Nat.le_of_ble_eq_true rfl⟩ hK hP hE hS hl.1 rfl (Nat.le_of_ble_eq_true rfl) ⟨Nat.zero_le _, Nat.zero_le _⟩ dX12_level_22 (fun H locs hP hS => ?_)
      refine lv_if_ne (pc := 25) (tgt := 31) hx hb dX12_level_25 (by decide) (fun c1 => ?_) (fun c1 => ?_)
      · rw [if_neg c1] at h
        refine lv_iconst (pc := 31) (v := 0) hx hb dX12_level_31 (by decide) ?_
        refine lv_istore (pc := 32) (lv' := [(4, .int 0), (0, .ref (o + x0)), (1, .int x1), (2, .int x2), (3, .int x3)]) hx hb dX12_level_32 hl (by decide) rfl (fun ls hl => ?_)
        have L34_7 : ∀ (n : Nat) (t : Int32 × zS), zlp (F_X12_level_34 N x0 x1 x2 x3) n t = some ρ → ∀ (H : Heap) (locs : List Loc) (ls : Array Slot), zP D c o (zabs o (t.2)) H → va_S (zA o) s.heap H locs → lv_has ls 5 [(4, .int (t.1)), (0, .ref (o + x0)), (1, .int x1), (2, .int x2), (3, .int x3)] → W p l e (zr 10) s m (([.ref (o + x0), .int x1, .int x2, .int x3] : List Value).toArray) below meth cd H locs 0 0 (MQ below (zQi D c o g ρ) (([.ref (o + x0), .int x1, .int x2, .int x3] : List Value).toArray) s 0 0 (zA o)) (F0 m 34 ls []) := by
          refine zlp_ind (fun ag7 ih7 t h H locs ls hP hS hl => ?_)
          obtain ⟨x4_7, σ7⟩ := t
          have hP : zP D c o (zabs o σ7) H := hP
          have hl : lv_has ls 5 [(4, .int x4_7), (0, .ref (o + x0)), (1, .int x1), (2, .int x2), (3, .int x3)] := hl
          rw [F_X12_level_34.eq_1] at h
          show W p l e (zr 10) s m (([.ref (o + x0), .int x1, .int x2, .int x3] : List Value).toArray) below meth cd H locs 0 0 (MQ below (zQi D c o g ρ) (([.ref (o + x0), .int x1, .int x2, .int x3] : List Value).toArray) s 0 0 (zA o)) (F0 m 34 ls [])
          refine lv_iload (pc := 34) hx hb dX12_level_34 (lv_at hl 0 rfl) ?_
          refine lv_sipush (pc := 36) (v := 1024) hx hb dX12_level_36 (by decide) ?_
          refine lv_icmp_ge (pc := 39) (tgt := 88) hx hb dX12_level_39 (by decide) (fun c1 => ?_) (fun c1 => ?_)
          · rw [if_pos c1] at h
            refine lv_aload_n (pc := 88) hx hb dX12_level_88 rfl (lv_at hl 1 rfl) ?_
            refine lv_iload_n (pc := 89) hx hb dX12_level_89 rfl (lv_at hl 2 rfl) ?_
            obtain ⟨_, hg, h⟩ := zl_some h
            obtain ⟨v8, σ9, hv, h⟩ := zb_some h
            refine xcallVi (pc := 90) (As := [.int x1]) (rest := []) ⟨hx, hb, hml, hown, hts⟩ (c_X12_lays l D c o g N hv) zc12 zV_X12_324 rfl zd_X12_lays ⟨Nat.le_of_ble_eq_true rfl, Nat.le_of_ble_eq_true rfl⟩ hK hP hE hS hg hl.1 rfl (Nat.le_of_ble_eq_true rfl) ⟨Nat.zero_le _, Nat.zero_le _⟩ dX12_level_90 (fun H locs hP hS => ?_)
            exact xreti (pc := 93) hx hb hr hlocks hP hK hE hS h dX12_level_93
          · rw [if_neg c1] at h
            refine lv_aload_n (pc := 42) hx hb dX12_level_42 rfl (lv_at hl 1 rfl) ?_
            obtain ⟨v10, hv, h⟩ := zl_some h
            refine xgR (pc := 43) (j := 17) zc12 hx hb hts hown hK hP hv rfl zf_X12_40 dX12_level_43 ?_
            refine lv_iload (pc := 46) hx hb dX12_level_46 (lv_at hl 0 rfl) ?_
            refine lv_iload (pc := 48) hx hb dX12_level_48 (lv_at hl 0 rfl) ?_
            refine lv_aload_n (pc := 50) hx hb dX12_level_50 rfl (lv_at hl 1 rfl) ?_
            obtain ⟨_, hg, h⟩ := zl_some h
            obtain ⟨v11, σ12, hv, h⟩ := zb_some h
            refine xcallVi (pc := 51) (As := []) (rest := [.int x4_7, .int x4_7, .ref (o + v10)]) ⟨hx, hb, hml, hown, hts⟩ (c_X12_many l D c o g N hv) zc12 zV_X12_104 rfl zd_X12_many ⟨Nat.le_of_ble_eq_true rfl, Nat.le_of_ble_eq_true rfl⟩ hK hP hE hS hg hl.1 rfl (Nat.le_of_ble_eq_true rfl) ⟨Nat.zero_le _, Nat.zero_le _⟩ dX12_level_51 (fun H locs hP hS => ?_)
            refine lv_icmp_ge (pc := 54) (tgt := 80) hx hb dX12_level_54 (by decide) (fun c1 => ?_) (fun c1 => ?_)
            · rw [if_pos c1] at h
              refine lv_iconst (pc := 80) (v := 0) hx hb dX12_level_80 (by decide) ?_
              obtain ⟨σ13, hv, h⟩ := zl_some h
              refine xsZ (pc := 81) hx hb hK hP hS hv dX12_level_81 (fun H locs hP hS => ?_)
              refine lv_iinc (pc := 82) (v := x4_7 + 1) (lv' := [(4, .int (x4_7 + 1)), (0, .ref (o + x0)), (1, .int x1), (2, .int x2), (3, .int x3)]) hx hb dX12_level_82 hl (k := 0) rfl rfl (by decide) rfl (fun ls hl => ?_)
              refine lv_goto (pc := 85) (tgt := 34) hx hb dX12_level_85 (by decide) ?_
              exact ih7 (x4_7 + 1, σ13) h _ _ ls hP hS (lv_sub hl [0, 1, 2, 3, 4] rfl)
            · rw [if_neg c1] at h
              refine lv_aload_n (pc := 57) hx hb dX12_level_57 rfl (lv_at hl 1 rfl) ?_
              refine lv_iload_n (pc := 58) hx hb dX12_level_58 rfl (lv_at hl 3 rfl) ?_
              refine lv_iload (pc := 59) hx hb dX12_level_59 (lv_at hl 0 rfl) ?_
              obtain ⟨_, hg, h⟩ := zl_some h
              obtain ⟨v14, σ15, hv, h⟩ := zb_some h
              refine xcallVi (pc := 61) (As := [.int x2, .int x4_7]) (rest := [.int x4_7, .ref (o + v10)]) ⟨hx, hb, hml, hown, hts⟩ (c_X12_of l D c o g N hv) zc12 zV_X12_314 rfl zd_X12_of ⟨Nat.le_of_ble_eq_true rfl, Nat.le_of_ble_eq_true rfl⟩ hK hP hE hS hg hl.1 rfl (Nat.le_of_ble_eq_true rfl) ⟨Nat.zero_le _, Nat.zero_le _⟩ dX12_level_61 (fun H locs hP hS => ?_)
              refine lv_if_eq (pc := 64) (tgt := 80) hx hb dX12_level_64 (by decide) (fun c1 => ?_) (fun c1 => ?_)
              · rw [if_pos c1] at h
                refine lv_iconst (pc := 80) (v := 0) hx hb dX12_level_80 (by decide) ?_
                obtain ⟨σ16, hv, h⟩ := zl_some h
                refine xsZ (pc := 81) hx hb hK hP hS hv dX12_level_81 (fun H locs hP hS => ?_)
                refine lv_iinc (pc := 82) (v := x4_7 + 1) (lv' := [(4, .int (x4_7 + 1)), (0, .ref (o + x0)), (1, .int x1), (2, .int x2), (3, .int x3)]) hx hb dX12_level_82 hl (k := 0) rfl rfl (by decide) rfl (fun ls hl => ?_)
                refine lv_goto (pc := 85) (tgt := 34) hx hb dX12_level_85 (by decide) ?_
                exact ih7 (x4_7 + 1, σ16) h _ _ ls hP hS (lv_sub hl [0, 1, 2, 3, 4] rfl)
              · rw [if_neg c1] at h
                refine lv_iload (pc := 67) hx hb dX12_level_67 (lv_at hl 0 rfl) ?_
                obtain ⟨v17, σ18, hv, h⟩ := zb_some h
                refine xcallSi (pc := 69) (As := [.int x4_7]) (rest := [.int x4_7, .ref (o + v10)]) ⟨hx, hb, hml, hown, hts⟩ (c_X12_namesOf l D c o g N hv) zT_X12_337 rfl zd_X12_namesOf ⟨Nat.le_of_ble_eq_true rfl, Nat.le_of_ble_eq_true rfl⟩ hK hP hE hS hl.1 rfl (Nat.le_of_ble_eq_true rfl) ⟨Nat.zero_le _, Nat.zero_le _⟩ dX12_level_69 (fun H locs hP hS => ?_)
                refine lv_iload_n (pc := 72) hx hb dX12_level_72 rfl (lv_at hl 4 rfl) ?_
                refine lv_icmp_ne (pc := 73) (tgt := 80) hx hb dX12_level_73 (by decide) (fun c1 => ?_) (fun c1 => ?_)
                · rw [if_neg c1] at h
                  refine lv_iconst (pc := 80) (v := 0) hx hb dX12_level_80 (by decide) ?_
                  obtain ⟨σ19, hv, h⟩ := zl_some h
                  refine xsZ (pc := 81) hx hb hK hP hS hv dX12_level_81 (fun H locs hP hS => ?_)
                  refine lv_iinc (pc := 82) (v := x4_7 + 1) (lv' := [(4, .int (x4_7 + 1)), (0, .ref (o + x0)), (1, .int x1), (2, .int x2), (3, .int x3)]) hx hb dX12_level_82 hl (k := 0) rfl rfl (by decide) rfl (fun ls hl => ?_)
                  refine lv_goto (pc := 85) (tgt := 34) hx hb dX12_level_85 (by decide) ?_
                  exact ih7 (x4_7 + 1, σ19) h _ _ ls hP hS (lv_sub hl [0, 1, 2, 3, 4] rfl)
                · rw [if_pos c1] at h
                  refine lv_iconst (pc := 76) (v := 1) hx hb dX12_level_76 (by decide) ?_
                  refine lv_goto (pc := 77) (tgt := 81) hx hb dX12_level_77 (by decide) ?_
                  obtain ⟨σ20, hv, h⟩ := zl_some h
                  refine xsZ (pc := 81) hx hb hK hP hS hv dX12_level_81 (fun H locs hP hS => ?_)
                  refine lv_iinc (pc := 82) (v := x4_7 + 1) (lv' := [(4, .int (x4_7 + 1)), (0, .ref (o + x0)), (1, .int x1), (2, .int x2), (3, .int x3)]) hx hb dX12_level_82 hl (k := 0) rfl rfl (by decide) rfl (fun ls hl => ?_)
                  refine lv_goto (pc := 85) (tgt := 34) hx hb dX12_level_85 (by decide) ?_
                  exact ih7 (x4_7 + 1, σ20) h _ _ ls hP hS (lv_sub hl [0, 1, 2, 3, 4] rfl)
        exact L34_7 N (0, σ6) h _ _ ls hP hS (lv_sub hl [0, 1, 2, 3, 4] rfl)
      · rw [if_pos c1] at h
        refine lv_bipush (pc := 28) (v := (-2)) hx hb dX12_level_28 (by decide) ?_
        exact xreti (pc := 30) hx hb hr hlocks hP hK hE hS h dX12_level_30
def F_X12_nthOf_5 (N : Nat) (x0 : Nat) (x1 : Int32) (x2 : Int32) (again5 : (Int32 × Int32 × zS) → Option (Int32 × zS)) : Int32 × Int32 × zS → Option (Int32 × zS)
  | (x3, x4, σ) =>
  zl (gC 12 x0) fun _ => zb (f_X12_many N x0 σ) fun v1 σ2 =>
  if v1 ≤ x4 then
    (some ((-1), σ2))
  else
    (zl (gC 12 x0) fun _ => zb (f_X12_of N x0 x1 x4 σ2) fun v3 σ4 =>
    if v3 = 0 then
      (again5 (x3, x4 + 1, σ4))
    else
      (if x3 = x2 then
        (some (x4, σ4))
      else
        (again5 (x3 + 1, x4 + 1, σ4))))
def f_X12_nthOf (N : Nat) (x0 : Nat) (x1 : Int32) (x2 : Int32) (σ : zS) : Option (Int32 × zS) :=
  zlp (F_X12_nthOf_5 N x0 x1 x2) N (0, 0, σ)
set_option maxHeartbeats 4000000 in
set_option maxRecDepth 100000 in
theorem c_X12_nthOf (l : Launch) (D : va_G) (c : zC) (o : Nat) (g : zEp) (N : Nat) {x0 : Nat} {x1 : Int32} {x2 : Int32} {σ : zS} {ρ : Int32 × zS} (h : f_X12_nthOf N x0 x1 x2 σ = some ρ) : Met l yX12_nthOf zs_X12_nthOf (zr 6) (va_Pc [.ref (o + x0), .int x1, .int x2] (zG D c o g σ)) (zQi D c o g ρ) 0 0 (zA o) := by
  refine zMetG (by decide) (Nat.le_of_ble_eq_true rfl) ?_
  intro p e s m below meth cd ⟨hx, hb, hr, hml, hown, hts, hlocks⟩ hP hK hE ls hl
  have hS : va_S (zA o) s.heap s.heap [] := va_S.rf
  have hl : lv_has ls 5 [(0, .ref (o + x0)), (1, .int x1), (2, .int x2)] := hl
  rw [f_X12_nthOf.eq_1] at h
  refine lv_iconst (pc := 0) (v := 0) hx hb dX12_nthOf_0 (by decide) ?_
  refine lv_istore_n (pc := 1) (lv' := [(3, .int 0), (0, .ref (o + x0)), (1, .int x1), (2, .int x2)]) hx hb dX12_nthOf_1 rfl hl (by decide) rfl (fun ls hl => ?_)
  refine lv_iconst (pc := 2) (v := 0) hx hb dX12_nthOf_2 (by decide) ?_
  refine lv_istore (pc := 3) (lv' := [(4, .int 0), (3, .int 0), (0, .ref (o + x0)), (1, .int x1), (2, .int x2)]) hx hb dX12_nthOf_3 hl (by decide) rfl (fun ls hl => ?_)
  have L5_1 : ∀ (n : Nat) (t : Int32 × Int32 × zS), zlp (F_X12_nthOf_5 N x0 x1 x2) n t = some ρ → ∀ (H : Heap) (locs : List Loc) (ls : Array Slot), zP D c o (zabs o (t.2.2)) H → va_S (zA o) s.heap H locs → lv_has ls 5 [(3, .int (t.1)), (4, .int (t.2.1)), (0, .ref (o + x0)), (1, .int x1), (2, .int x2)] → W p l e (zr 6) s m (([.ref (o + x0), .int x1, .int x2] : List Value).toArray) below meth cd H locs 0 0 (MQ below (zQi D c o g ρ) (([.ref (o + x0), .int x1, .int x2] : List Value).toArray) s 0 0 (zA o)) (F0 m 5 ls []) := by
    refine zlp_ind (fun ag1 ih1 t h H locs ls hP hS hl => ?_)
    obtain ⟨x3_1, x4_1, σ1⟩ := t
    have hP : zP D c o (zabs o σ1) H := hP
    have hl : lv_has ls 5 [(3, .int x3_1), (4, .int x4_1), (0, .ref (o + x0)), (1, .int x1), (2, .int x2)] := hl
    rw [F_X12_nthOf_5.eq_1] at h
    show W p l e (zr 6) s m (([.ref (o + x0), .int x1, .int x2] : List Value).toArray) below meth cd H locs 0 0 (MQ below (zQi D c o g ρ) (([.ref (o + x0), .int x1, .int x2] : List Value).toArray) s 0 0 (zA o)) (F0 m 5 ls [])
    refine lv_iload (pc := 5) hx hb dX12_nthOf_5 (lv_at hl 1 rfl) ?_
    refine lv_aload_n (pc := 7) hx hb dX12_nthOf_7 rfl (lv_at hl 2 rfl) ?_
    obtain ⟨_, hg, h⟩ := zl_some h
    obtain ⟨v2, σ3, hv, h⟩ := zb_some h
    refine xcallVi (pc := 8) (As := []) (rest := [.int x4_1]) ⟨hx, hb, hml, hown, hts⟩ (c_X12_many l D c o g N hv) zc12 zV_X12_104 rfl zd_X12_many ⟨Nat.le_of_ble_eq_true rfl, Nat.le_of_ble_eq_true rfl⟩ hK hP hE hS hg hl.1 rfl (Nat.le_of_ble_eq_true rfl) ⟨Nat.zero_le _, Nat.zero_le _⟩ dX12_nthOf_8 (fun H locs hP hS => ?_)
    refine lv_icmp_ge (pc := 11) (tgt := 44) hx hb dX12_nthOf_11 (by decide) (fun c1 => ?_) (fun c1 => ?_)
    · rw [if_pos c1] at h
      refine lv_iconst (pc := 44) (v := (-1)) hx hb dX12_nthOf_44 (by decide) ?_
      exact xreti (pc := 45) hx hb hr hlocks hP hK hE hS h dX12_nthOf_45
    · rw [if_neg c1] at h
      refine lv_aload_n (pc := 14) hx hb dX12_nthOf_14 rfl (lv_at hl 2 rfl) ?_
      refine lv_iload_n (pc := 15) hx hb dX12_nthOf_15 rfl (lv_at hl 3 rfl) ?_
      refine lv_iload (pc := 16) hx hb dX12_nthOf_16 (lv_at hl 1 rfl) ?_
      obtain ⟨_, hg, h⟩ := zl_some h
      obtain ⟨v4, σ5, hv, h⟩ := zb_some h
      refine xcallVi (pc := 18) (As := [.int x1, .int x4_1]) (rest := []) ⟨hx, hb, hml, hown, hts⟩ (c_X12_of l D c o g N hv) zc12 zV_X12_314 rfl zd_X12_of ⟨Nat.le_of_ble_eq_true rfl, Nat.le_of_ble_eq_true rfl⟩ hK hP hE hS hg hl.1 rfl (Nat.le_of_ble_eq_true rfl) ⟨Nat.zero_le _, Nat.zero_le _⟩ dX12_nthOf_18 (fun H locs hP hS => ?_)
      refine lv_if_ne (pc := 21) (tgt := 27) hx hb dX12_nthOf_21 (by decide) (fun c1 => ?_) (fun c1 => ?_)
      · rw [if_neg c1] at h
        refine lv_iload_n (pc := 27) hx hb dX12_nthOf_27 rfl (lv_at hl 0 rfl) ?_
        refine lv_iload_n (pc := 28) hx hb dX12_nthOf_28 rfl (lv_at hl 4 rfl) ?_
        refine lv_icmp_ne (pc := 29) (tgt := 35) hx hb dX12_nthOf_29 (by decide) (fun c1 => ?_) (fun c1 => ?_)
        · rw [if_neg c1] at h
          refine lv_iinc (pc := 35) (v := x3_1 + 1) (lv' := [(3, .int (x3_1 + 1)), (4, .int x4_1), (0, .ref (o + x0)), (1, .int x1), (2, .int x2)]) hx hb dX12_nthOf_35 hl (k := 0) rfl rfl (by decide) rfl (fun ls hl => ?_)
          refine lv_iinc (pc := 38) (v := x4_1 + 1) (lv' := [(4, .int (x4_1 + 1)), (3, .int (x3_1 + 1)), (0, .ref (o + x0)), (1, .int x1), (2, .int x2)]) hx hb dX12_nthOf_38 hl (k := 1) rfl rfl (by decide) rfl (fun ls hl => ?_)
          refine lv_goto (pc := 41) (tgt := 5) hx hb dX12_nthOf_41 (by decide) ?_
          exact ih1 (x3_1 + 1, x4_1 + 1, σ5) h _ _ ls hP hS (lv_sub hl [1, 0, 2, 3, 4] rfl)
        · rw [if_pos c1] at h
          refine lv_iload (pc := 32) hx hb dX12_nthOf_32 (lv_at hl 1 rfl) ?_
          exact xreti (pc := 34) hx hb hr hlocks hP hK hE hS h dX12_nthOf_34
      · rw [if_pos c1] at h
        refine lv_goto (pc := 24) (tgt := 38) hx hb dX12_nthOf_24 (by decide) ?_
        refine lv_iinc (pc := 38) (v := x4_1 + 1) (lv' := [(4, .int (x4_1 + 1)), (3, .int x3_1), (0, .ref (o + x0)), (1, .int x1), (2, .int x2)]) hx hb dX12_nthOf_38 hl (k := 1) rfl rfl (by decide) rfl (fun ls hl => ?_)
        refine lv_goto (pc := 41) (tgt := 5) hx hb dX12_nthOf_41 (by decide) ?_
        exact ih1 (x3_1, x4_1 + 1, σ5) h _ _ ls hP hS (lv_sub hl [1, 0, 2, 3, 4] rfl)
  exact L5_1 N (0, 0, σ) h _ _ ls hP hS (lv_sub hl [1, 0, 2, 3, 4] rfl)
def f_X12_nth (N : Nat) (x0 : Nat) (x1 : Int32) (x2 : Int32) (σ : zS) : Option (Int32 × zS) :=
  zl (gC 12 x0) fun _ => zb (f_X12_isRegister N x0 x1 σ) fun v1 σ2 =>
  if v1 = 0 then
    (some ((-2), σ2))
  else
    (zl (gC 12 x0) fun _ => zb (f_X12_nthOf N x0 x1 x2 σ2) fun v3 σ4 =>
    some (v3, σ4))
set_option maxHeartbeats 4000000 in
set_option maxRecDepth 100000 in
theorem c_X12_nth (l : Launch) (D : va_G) (c : zC) (o : Nat) (g : zEp) (N : Nat) {x0 : Nat} {x1 : Int32} {x2 : Int32} {σ : zS} {ρ : Int32 × zS} (h : f_X12_nth N x0 x1 x2 σ = some ρ) : Met l yX12_nth zs_X12_nth (zr 8) (va_Pc [.ref (o + x0), .int x1, .int x2] (zG D c o g σ)) (zQi D c o g ρ) 0 0 (zA o) := by
  refine zMetG (by decide) (Nat.le_of_ble_eq_true rfl) ?_
  intro p e s m below meth cd ⟨hx, hb, hr, hml, hown, hts, hlocks⟩ hP hK hE ls hl
  have hS : va_S (zA o) s.heap s.heap [] := va_S.rf
  have hl : lv_has ls 3 [(0, .ref (o + x0)), (1, .int x1), (2, .int x2)] := hl
  rw [f_X12_nth.eq_1] at h
  refine lv_aload_n (pc := 0) hx hb dX12_nth_0 rfl (lv_at hl 0 rfl) ?_
  refine lv_iload_n (pc := 1) hx hb dX12_nth_1 rfl (lv_at hl 1 rfl) ?_
  obtain ⟨_, hg, h⟩ := zl_some h
  obtain ⟨v1, σ2, hv, h⟩ := zb_some h
  refine xcallVi (pc := 2) (As := [.int x1]) (rest := []) ⟨hx, hb, hml, hown, hts⟩ (c_X12_isRegister l D c o g N hv) zc12 zV_X12_321 rfl zd_X12_isRegister ⟨Nat.le_of_ble_eq_true rfl, Nat.le_of_ble_eq_true rfl⟩ hK hP hE hS hg hl.1 rfl (Nat.le_of_ble_eq_true rfl) ⟨Nat.zero_le _, Nat.zero_le _⟩ dX12_nth_2 (fun H locs hP hS => ?_)
  refine lv_if_eq (pc := 5) (tgt := 17) hx hb dX12_nth_5 (by decide) (fun c1 => ?_) (fun c1 => ?_)
  · rw [if_pos c1] at h
    refine lv_bipush (pc := 17) (v := (-2)) hx hb dX12_nth_17 (by decide) ?_
    exact xreti (pc := 19) hx hb hr hlocks hP hK hE hS h dX12_nth_19
  · rw [if_neg c1] at h
    refine lv_aload_n (pc := 8) hx hb dX12_nth_8 rfl (lv_at hl 0 rfl) ?_
    refine lv_iload_n (pc := 9) hx hb dX12_nth_9 rfl (lv_at hl 1 rfl) ?_
    refine lv_iload_n (pc := 10) hx hb dX12_nth_10 rfl (lv_at hl 2 rfl) ?_
    obtain ⟨_, hg, h⟩ := zl_some h
    obtain ⟨v3, σ4, hv, h⟩ := zb_some h
    refine xcallVi (pc := 11) (As := [.int x1, .int x2]) (rest := []) ⟨hx, hb, hml, hown, hts⟩ (c_X12_nthOf l D c o g N hv) zc12 zV_X12_340 rfl zd_X12_nthOf ⟨Nat.le_of_ble_eq_true rfl, Nat.le_of_ble_eq_true rfl⟩ hK hP hE hS hg hl.1 rfl (Nat.le_of_ble_eq_true rfl) ⟨Nat.zero_le _, Nat.zero_le _⟩ dX12_nth_11 (fun H locs hP hS => ?_)
    refine lv_goto (pc := 14) (tgt := 19) hx hb dX12_nth_14 (by decide) ?_
    exact xreti (pc := 19) hx hb hr hlocks hP hK hE hS h dX12_nth_19
def F_X12_rank__24 (N : Nat) (x0 : Nat) (x1 : Int32) (x2 : Int32) (again24 : (Int32 × Int32 × zS) → Option (Int32 × zS)) : Int32 × Int32 × zS → Option (Int32 × zS)
  | (x3, x4, σ) =>
  if x2 ≤ x4 then
    (some (x3, σ))
  else
    (zl (gC 12 x0) fun _ => zb (f_X12_of N x0 x1 x4 σ) fun v5 σ6 =>
    if v5 = 0 then
      (again24 (x3 + 0, x4 + 1, σ6))
    else
      (again24 (x3 + 1, x4 + 1, σ6)))
def f_X12_rank_ (N : Nat) (x0 : Nat) (x1 : Int32) (x2 : Int32) (σ : zS) : Option (Int32 × zS) :=
  zl (gC 12 x0) fun _ => zb (f_X12_isRegister N x0 x1 σ) fun v1 σ2 =>
  if v1 = 0 then
    (some ((-2), σ2))
  else
    (zl (gC 12 x0) fun _ => zb (f_X12_isSet N x0 x2 σ2) fun v3 σ4 =>
    if v3 = 0 then
      (some ((-2), σ4))
    else
      (zlp (F_X12_rank__24 N x0 x1 x2) N (0, 0, σ4)))
set_option maxHeartbeats 4000000 in
set_option maxRecDepth 100000 in
theorem c_X12_rank_ (l : Launch) (D : va_G) (c : zC) (o : Nat) (g : zEp) (N : Nat) {x0 : Nat} {x1 : Int32} {x2 : Int32} {σ : zS} {ρ : Int32 × zS} (h : f_X12_rank_ N x0 x1 x2 σ = some ρ) : Met l yX12_rank_ zs_X12_rank_ (zr 8) (va_Pc [.ref (o + x0), .int x1, .int x2] (zG D c o g σ)) (zQi D c o g ρ) 0 0 (zA o) := by
  refine zMetG (by decide) (Nat.le_of_ble_eq_true rfl) ?_
  intro p e s m below meth cd ⟨hx, hb, hr, hml, hown, hts, hlocks⟩ hP hK hE ls hl
  have hS : va_S (zA o) s.heap s.heap [] := va_S.rf
  have hl : lv_has ls 5 [(0, .ref (o + x0)), (1, .int x1), (2, .int x2)] := hl
  rw [f_X12_rank_.eq_1] at h
  refine lv_aload_n (pc := 0) hx hb dX12_rank__0 rfl (lv_at hl 0 rfl) ?_
  refine lv_iload_n (pc := 1) hx hb dX12_rank__1 rfl (lv_at hl 1 rfl) ?_
  obtain ⟨_, hg, h⟩ := zl_some h
  obtain ⟨v1, σ2, hv, h⟩ := zb_some h
  refine xcallVi (pc := 2) (As := [.int x1]) (rest := []) ⟨hx, hb, hml, hown, hts⟩ (c_X12_isRegister l D c o g N hv) zc12 zV_X12_321 rfl zd_X12_isRegister ⟨Nat.le_of_ble_eq_true rfl, Nat.le_of_ble_eq_true rfl⟩ hK hP hE hS hg hl.1 rfl (Nat.le_of_ble_eq_true rfl) ⟨Nat.zero_le _, Nat.zero_le _⟩ dX12_rank__2 (fun H locs hP hS => ?_)
  refine lv_if_eq (pc := 5) (tgt := 16) hx hb dX12_rank__5 (by decide) (fun c1 => ?_) (fun c1 => ?_)
  · rw [if_pos c1] at h
    refine lv_bipush (pc := 16) (v := (-2)) hx hb dX12_rank__16 (by decide) ?_
    exact xreti (pc := 18) hx hb hr hlocks hP hK hE hS h dX12_rank__18
  · rw [if_neg c1] at h
    refine lv_aload_n (pc := 8) hx hb dX12_rank__8 rfl (lv_at hl 0 rfl) ?_
    refine lv_iload_n (pc := 9) hx hb dX12_rank__9 rfl (lv_at hl 2 rfl) ?_
    obtain ⟨_, hg, h⟩ := zl_some h
    obtain ⟨v3, σ4, hv, h⟩ := zb_some h
    refine xcallVi (pc := 10) (As := [.int x2]) (rest := []) ⟨hx, hb, hml, hown, hts⟩ (c_X12_isSet l D c o g N hv) zc12 zV_X12_327 rfl zd_X12_isSet ⟨Nat.le_of_ble_eq_true rfl, Nat.le_of_ble_eq_true rfl⟩ hK hP hE hS hg hl.1 rfl (Nat.le_of_ble_eq_true rfl) ⟨Nat.zero_le _, Nat.zero_le _⟩ dX12_rank__10 (fun H locs hP hS => ?_)
    refine lv_if_ne (pc := 13) (tgt := 19) hx hb dX12_rank__13 (by decide) (fun c1 => ?_) (fun c1 => ?_)
    · rw [if_neg c1] at h
      refine lv_iconst (pc := 19) (v := 0) hx hb dX12_rank__19 (by decide) ?_
      refine lv_istore_n (pc := 20) (lv' := [(3, .int 0), (0, .ref (o + x0)), (1, .int x1), (2, .int x2)]) hx hb dX12_rank__20 rfl hl (by decide) rfl (fun ls hl => ?_)
      refine lv_iconst (pc := 21) (v := 0) hx hb dX12_rank__21 (by decide) ?_
      refine lv_istore (pc := 22) (lv' := [(4, .int 0), (3, .int 0), (0, .ref (o + x0)), (1, .int x1), (2, .int x2)]) hx hb dX12_rank__22 hl (by decide) rfl (fun ls hl => ?_)
      have L24_5 : ∀ (n : Nat) (t : Int32 × Int32 × zS), zlp (F_X12_rank__24 N x0 x1 x2) n t = some ρ → ∀ (H : Heap) (locs : List Loc) (ls : Array Slot), zP D c o (zabs o (t.2.2)) H → va_S (zA o) s.heap H locs → lv_has ls 5 [(3, .int (t.1)), (4, .int (t.2.1)), (0, .ref (o + x0)), (1, .int x1), (2, .int x2)] → W p l e (zr 8) s m (([.ref (o + x0), .int x1, .int x2] : List Value).toArray) below meth cd H locs 0 0 (MQ below (zQi D c o g ρ) (([.ref (o + x0), .int x1, .int x2] : List Value).toArray) s 0 0 (zA o)) (F0 m 24 ls []) := by
        refine zlp_ind (fun ag5 ih5 t h H locs ls hP hS hl => ?_)
        obtain ⟨x3_5, x4_5, σ5⟩ := t
        have hP : zP D c o (zabs o σ5) H := hP
        have hl : lv_has ls 5 [(3, .int x3_5), (4, .int x4_5), (0, .ref (o + x0)), (1, .int x1), (2, .int x2)] := hl
        rw [F_X12_rank__24.eq_1] at h
        show W p l e (zr 8) s m (([.ref (o + x0), .int x1, .int x2] : List Value).toArray) below meth cd H locs 0 0 (MQ below (zQi D c o g ρ) (([.ref (o + x0), .int x1, .int x2] : List Value).toArray) s 0 0 (zA o)) (F0 m 24 ls [])
        refine lv_iload (pc := 24) hx hb dX12_rank__24 (lv_at hl 1 rfl) ?_
        refine lv_iload_n (pc := 26) hx hb dX12_rank__26 rfl (lv_at hl 4 rfl) ?_
        refine lv_icmp_ge (pc := 27) (tgt := 54) hx hb dX12_rank__27 (by decide) (fun c1 => ?_) (fun c1 => ?_)
        · rw [if_pos c1] at h
          refine lv_iload_n (pc := 54) hx hb dX12_rank__54 rfl (lv_at hl 0 rfl) ?_
          exact xreti (pc := 55) hx hb hr hlocks hP hK hE hS h dX12_rank__55
        · rw [if_neg c1] at h
          refine lv_iload_n (pc := 30) hx hb dX12_rank__30 rfl (lv_at hl 0 rfl) ?_
          refine lv_aload_n (pc := 31) hx hb dX12_rank__31 rfl (lv_at hl 2 rfl) ?_
          refine lv_iload_n (pc := 32) hx hb dX12_rank__32 rfl (lv_at hl 3 rfl) ?_
          refine lv_iload (pc := 33) hx hb dX12_rank__33 (lv_at hl 1 rfl) ?_
          obtain ⟨_, hg, h⟩ := zl_some h
          obtain ⟨v6, σ7, hv, h⟩ := zb_some h
          refine xcallVi (pc := 35) (As := [.int x1, .int x4_5]) (rest := [.int x3_5]) ⟨hx, hb, hml, hown, hts⟩ (c_X12_of l D c o g N hv) zc12 zV_X12_314 rfl zd_X12_of ⟨Nat.le_of_ble_eq_true rfl, Nat.le_of_ble_eq_true rfl⟩ hK hP hE hS hg hl.1 rfl (Nat.le_of_ble_eq_true rfl) ⟨Nat.zero_le _, Nat.zero_le _⟩ dX12_rank__35 (fun H locs hP hS => ?_)
          refine lv_if_eq (pc := 38) (tgt := 45) hx hb dX12_rank__38 (by decide) (fun c1 => ?_) (fun c1 => ?_)
          · rw [if_pos c1] at h
            refine lv_iconst (pc := 45) (v := 0) hx hb dX12_rank__45 (by decide) ?_
            refine lv_iadd (pc := 46) hx hb dX12_rank__46 ?_
            refine lv_istore_n (pc := 47) (lv' := [(3, .int (x3_5 + 0)), (4, .int x4_5), (0, .ref (o + x0)), (1, .int x1), (2, .int x2)]) hx hb dX12_rank__47 rfl hl (by decide) rfl (fun ls hl => ?_)
            refine lv_iinc (pc := 48) (v := x4_5 + 1) (lv' := [(4, .int (x4_5 + 1)), (3, .int (x3_5 + 0)), (0, .ref (o + x0)), (1, .int x1), (2, .int x2)]) hx hb dX12_rank__48 hl (k := 1) rfl rfl (by decide) rfl (fun ls hl => ?_)
            refine lv_goto (pc := 51) (tgt := 24) hx hb dX12_rank__51 (by decide) ?_
            exact ih5 (x3_5 + 0, x4_5 + 1, σ7) h _ _ ls hP hS (lv_sub hl [1, 0, 2, 3, 4] rfl)
          · rw [if_neg c1] at h
            refine lv_iconst (pc := 41) (v := 1) hx hb dX12_rank__41 (by decide) ?_
            refine lv_goto (pc := 42) (tgt := 46) hx hb dX12_rank__42 (by decide) ?_
            refine lv_iadd (pc := 46) hx hb dX12_rank__46 ?_
            refine lv_istore_n (pc := 47) (lv' := [(3, .int (x3_5 + 1)), (4, .int x4_5), (0, .ref (o + x0)), (1, .int x1), (2, .int x2)]) hx hb dX12_rank__47 rfl hl (by decide) rfl (fun ls hl => ?_)
            refine lv_iinc (pc := 48) (v := x4_5 + 1) (lv' := [(4, .int (x4_5 + 1)), (3, .int (x3_5 + 1)), (0, .ref (o + x0)), (1, .int x1), (2, .int x2)]) hx hb dX12_rank__48 hl (k := 1) rfl rfl (by decide) rfl (fun ls hl => ?_)
            refine lv_goto (pc := 51) (tgt := 24) hx hb dX12_rank__51 (by decide) ?_
            exact ih5 (x3_5 + 1, x4_5 + 1, σ7) h _ _ ls hP hS (lv_sub hl [1, 0, 2, 3, 4] rfl)
      exact L24_5 N (0, 0, σ4) h _ _ ls hP hS (lv_sub hl [1, 0, 2, 3, 4] rfl)
    · rw [if_pos c1] at h
      refine lv_bipush (pc := 16) (v := (-2)) hx hb dX12_rank__16 (by decide) ?_
      exact xreti (pc := 18) hx hb hr hlocks hP hK hE hS h dX12_rank__18
def F_X12_weightOf_4 (N : Nat) (x0 : Nat) (x1 : Int32) (again4 : (Int32 × Int32 × zS) → Option (Int32 × zS)) : Int32 × Int32 × zS → Option (Int32 × zS)
  | (x2, x3, σ) =>
  if 10 ≤ x3 then
    (some (x2, σ))
  else
    (zl (gR 12 1 x0 σ) fun v1 =>
    zl (aI 14 v1 (3 + x3) σ) fun v2 =>
    again4 (x2 + ((((x1 : Int32) >>> (x3 &&& 31)) &&& 1) * v2), x3 + 1, σ))
def f_X12_weightOf (N : Nat) (x0 : Nat) (x1 : Int32) (σ : zS) : Option (Int32 × zS) :=
  zlp (F_X12_weightOf_4 N x0 x1) N (0, 0, σ)
set_option maxHeartbeats 4000000 in
set_option maxRecDepth 100000 in
theorem c_X12_weightOf (l : Launch) (D : va_G) (c : zC) (o : Nat) (g : zEp) (N : Nat) {x0 : Nat} {x1 : Int32} {σ : zS} {ρ : Int32 × zS} (h : f_X12_weightOf N x0 x1 σ = some ρ) : Met l yX12_weightOf zs_X12_weightOf (zr 2) (va_Pc [.ref (o + x0), .int x1] (zG D c o g σ)) (zQi D c o g ρ) 0 0 (zA o) := by
  refine zMetG (by decide) (Nat.le_of_ble_eq_true rfl) ?_
  intro p e s m below meth cd ⟨hx, hb, hr, hml, hown, hts, hlocks⟩ hP hK hE ls hl
  have hS : va_S (zA o) s.heap s.heap [] := va_S.rf
  have hl : lv_has ls 4 [(0, .ref (o + x0)), (1, .int x1)] := hl
  rw [f_X12_weightOf.eq_1] at h
  refine lv_iconst (pc := 0) (v := 0) hx hb dX12_weightOf_0 (by decide) ?_
  refine lv_istore_n (pc := 1) (lv' := [(2, .int 0), (0, .ref (o + x0)), (1, .int x1)]) hx hb dX12_weightOf_1 rfl hl (by decide) rfl (fun ls hl => ?_)
  refine lv_iconst (pc := 2) (v := 0) hx hb dX12_weightOf_2 (by decide) ?_
  refine lv_istore_n (pc := 3) (lv' := [(3, .int 0), (2, .int 0), (0, .ref (o + x0)), (1, .int x1)]) hx hb dX12_weightOf_3 rfl hl (by decide) rfl (fun ls hl => ?_)
  have L4_1 : ∀ (n : Nat) (t : Int32 × Int32 × zS), zlp (F_X12_weightOf_4 N x0 x1) n t = some ρ → ∀ (H : Heap) (locs : List Loc) (ls : Array Slot), zP D c o (zabs o (t.2.2)) H → va_S (zA o) s.heap H locs → lv_has ls 4 [(2, .int (t.1)), (3, .int (t.2.1)), (0, .ref (o + x0)), (1, .int x1)] → W p l e (zr 2) s m (([.ref (o + x0), .int x1] : List Value).toArray) below meth cd H locs 0 0 (MQ below (zQi D c o g ρ) (([.ref (o + x0), .int x1] : List Value).toArray) s 0 0 (zA o)) (F0 m 4 ls []) := by
    refine zlp_ind (fun ag1 ih1 t h H locs ls hP hS hl => ?_)
    obtain ⟨x2_1, x3_1, σ1⟩ := t
    have hP : zP D c o (zabs o σ1) H := hP
    have hl : lv_has ls 4 [(2, .int x2_1), (3, .int x3_1), (0, .ref (o + x0)), (1, .int x1)] := hl
    rw [F_X12_weightOf_4.eq_1] at h
    show W p l e (zr 2) s m (([.ref (o + x0), .int x1] : List Value).toArray) below meth cd H locs 0 0 (MQ below (zQi D c o g ρ) (([.ref (o + x0), .int x1] : List Value).toArray) s 0 0 (zA o)) (F0 m 4 ls [])
    refine lv_iload_n (pc := 4) hx hb dX12_weightOf_4 rfl (lv_at hl 1 rfl) ?_
    refine lv_bipush (pc := 5) (v := 10) hx hb dX12_weightOf_5 (by decide) ?_
    refine lv_icmp_ge (pc := 7) (tgt := 33) hx hb dX12_weightOf_7 (by decide) (fun c1 => ?_) (fun c1 => ?_)
    · rw [if_pos c1] at h
      refine lv_iload_n (pc := 33) hx hb dX12_weightOf_33 rfl (lv_at hl 0 rfl) ?_
      exact xreti (pc := 34) hx hb hr hlocks hP hK hE hS h dX12_weightOf_34
    · rw [if_neg c1] at h
      refine lv_iload_n (pc := 10) hx hb dX12_weightOf_10 rfl (lv_at hl 0 rfl) ?_
      refine lv_iload_n (pc := 11) hx hb dX12_weightOf_11 rfl (lv_at hl 3 rfl) ?_
      refine lv_iload_n (pc := 12) hx hb dX12_weightOf_12 rfl (lv_at hl 1 rfl) ?_
      refine lv_ishr (pc := 13) hx hb dX12_weightOf_13 ?_
      refine lv_iconst (pc := 14) (v := 1) hx hb dX12_weightOf_14 (by decide) ?_
      refine lv_iand (pc := 15) hx hb dX12_weightOf_15 ?_
      refine lv_aload_n (pc := 16) hx hb dX12_weightOf_16 rfl (lv_at hl 2 rfl) ?_
      obtain ⟨v2, hv, h⟩ := zl_some h
      refine xgR (pc := 17) (j := 1) zc12 hx hb hts hown hK hP hv rfl zf_X12_9 dX12_weightOf_17 ?_
      refine lv_iconst (pc := 20) (v := 3) hx hb dX12_weightOf_20 (by decide) ?_
      refine lv_iload_n (pc := 21) hx hb dX12_weightOf_21 rfl (lv_at hl 1 rfl) ?_
      refine lv_iadd (pc := 22) hx hb dX12_weightOf_22 ?_
      obtain ⟨v3, hv, h⟩ := zl_some h
      refine xaI (pc := 23) hx hb hK hP hv dX12_weightOf_23 ?_
      refine lv_imul (pc := 24) hx hb dX12_weightOf_24 ?_
      refine lv_iadd (pc := 25) hx hb dX12_weightOf_25 ?_
      refine lv_istore_n (pc := 26) (lv' := [(2, .int (x2_1 + ((((x1 : Int32) >>> (x3_1 &&& 31)) &&& 1) * v3))), (3, .int x3_1), (0, .ref (o + x0)), (1, .int x1)]) hx hb dX12_weightOf_26 rfl hl (by decide) rfl (fun ls hl => ?_)
      refine lv_iinc (pc := 27) (v := x3_1 + 1) (lv' := [(3, .int (x3_1 + 1)), (2, .int (x2_1 + ((((x1 : Int32) >>> (x3_1 &&& 31)) &&& 1) * v3))), (0, .ref (o + x0)), (1, .int x1)]) hx hb dX12_weightOf_27 hl (k := 1) rfl rfl (by decide) rfl (fun ls hl => ?_)
      refine lv_goto (pc := 30) (tgt := 4) hx hb dX12_weightOf_30 (by decide) ?_
      exact ih1 (x2_1 + ((((x1 : Int32) >>> (x3_1 &&& 31)) &&& 1) * v3), x3_1 + 1, σ1) h _ _ ls hP hS (lv_sub hl [1, 0, 2, 3] rfl)
  exact L4_1 N (0, 0, σ) h _ _ ls hP hS (lv_sub hl [1, 0, 2, 3] rfl)
def F_X12_light_27 (N : Nat) (x0 : Nat) (x1 : Int32) (x2 : Int32) (x4 : Int32) (again16 : (Int32 × Int32 × zS) → Option (Int32 × zS)) (again27 : (Int32 × Int32 × zS) → Option (Int32 × zS)) : Int32 × Int32 × zS → Option (Int32 × zS)
  | (x3, x5, σ) =>
  zl (gC 12 x0) fun _ => zb (f_X12_many N x0 σ) fun v3 σ4 =>
  if v3 ≤ x5 then
    (again16 (x3, x4 + 1, σ4))
  else
    (zl (gC 12 x0) fun _ => zb (f_X12_of N x0 x1 x5 σ4) fun v5 σ6 =>
    if v5 = 0 then
      (again27 (x3, x5 + 1, σ6))
    else
      (zl (gC 12 x0) fun _ => zb (f_X12_weightOf N x0 x5 σ6) fun v7 σ8 =>
      if v7 = x4 then
        (if x3 = x2 then
          (some (x5, σ8))
        else
          (again27 (x3 + 1, x5 + 1, σ8)))
      else
        (again27 (x3, x5 + 1, σ8))))
def F_X12_light_16 (N : Nat) (x0 : Nat) (x1 : Int32) (x2 : Int32) (again16 : (Int32 × Int32 × zS) → Option (Int32 × zS)) : Int32 × Int32 × zS → Option (Int32 × zS)
  | (x3, x4, σ) =>
  if 990 < x4 then
    (some ((-1), σ))
  else
    (zlp (F_X12_light_27 N x0 x1 x2 x4 again16) N (x3, 0, σ))
def f_X12_light (N : Nat) (x0 : Nat) (x1 : Int32) (x2 : Int32) (σ : zS) : Option (Int32 × zS) :=
  zl (gC 12 x0) fun _ => zb (f_X12_isRegister N x0 x1 σ) fun v1 σ2 =>
  if v1 = 0 then
    (some ((-2), σ2))
  else
    (zlp (F_X12_light_16 N x0 x1 x2) N (0, 0, σ2))
set_option maxHeartbeats 4000000 in
set_option maxRecDepth 100000 in
theorem c_X12_light (l : Launch) (D : va_G) (c : zC) (o : Nat) (g : zEp) (N : Nat) {x0 : Nat} {x1 : Int32} {x2 : Int32} {σ : zS} {ρ : Int32 × zS} (h : f_X12_light N x0 x1 x2 σ = some ρ) : Met l yX12_light zs_X12_light (zr 6) (va_Pc [.ref (o + x0), .int x1, .int x2] (zG D c o g σ)) (zQi D c o g ρ) 0 0 (zA o) := by
  refine zMetG (by decide) (Nat.le_of_ble_eq_true rfl) ?_
  intro p e s m below meth cd ⟨hx, hb, hr, hml, hown, hts, hlocks⟩ hP hK hE ls hl
  have hS : va_S (zA o) s.heap s.heap [] := va_S.rf
  have hl : lv_has ls 6 [(0, .ref (o + x0)), (1, .int x1), (2, .int x2)] := hl
  rw [f_X12_light.eq_1] at h
  refine lv_aload_n (pc := 0) hx hb dX12_light_0 rfl (lv_at hl 0 rfl) ?_
  refine lv_iload_n (pc := 1) hx hb dX12_light_1 rfl (lv_at hl 1 rfl) ?_
  obtain ⟨_, hg, h⟩ := zl_some h
  obtain ⟨v1, σ2, hv, h⟩ := zb_some h
  refine xcallVi (pc := 2) (As := [.int x1]) (rest := []) ⟨hx, hb, hml, hown, hts⟩ (c_X12_isRegister l D c o g N hv) zc12 zV_X12_321 rfl zd_X12_isRegister ⟨Nat.le_of_ble_eq_true rfl, Nat.le_of_ble_eq_true rfl⟩ hK hP hE hS hg hl.1 rfl (Nat.le_of_ble_eq_true rfl) ⟨Nat.zero_le _, Nat.zero_le _⟩ dX12_light_2 (fun H locs hP hS => ?_)
  refine lv_if_ne (pc := 5) (tgt := 11) hx hb dX12_light_5 (by decide) (fun c1 => ?_) (fun c1 => ?_)
  · rw [if_neg c1] at h
    refine lv_iconst (pc := 11) (v := 0) hx hb dX12_light_11 (by decide) ?_
    refine lv_istore_n (pc := 12) (lv' := [(3, .int 0), (0, .ref (o + x0)), (1, .int x1), (2, .int x2)]) hx hb dX12_light_12 rfl hl (by decide) rfl (fun ls hl => ?_)
    refine lv_iconst (pc := 13) (v := 0) hx hb dX12_light_13 (by decide) ?_
    refine lv_istore (pc := 14) (lv' := [(4, .int 0), (3, .int 0), (0, .ref (o + x0)), (1, .int x1), (2, .int x2)]) hx hb dX12_light_14 hl (by decide) rfl (fun ls hl => ?_)
    have L16_3 : ∀ (n : Nat) (t : Int32 × Int32 × zS), zlp (F_X12_light_16 N x0 x1 x2) n t = some ρ → ∀ (H : Heap) (locs : List Loc) (ls : Array Slot), zP D c o (zabs o (t.2.2)) H → va_S (zA o) s.heap H locs → lv_has ls 6 [(3, .int (t.1)), (4, .int (t.2.1)), (0, .ref (o + x0)), (1, .int x1), (2, .int x2)] → W p l e (zr 6) s m (([.ref (o + x0), .int x1, .int x2] : List Value).toArray) below meth cd H locs 0 0 (MQ below (zQi D c o g ρ) (([.ref (o + x0), .int x1, .int x2] : List Value).toArray) s 0 0 (zA o)) (F0 m 16 ls []) := by
      refine zlp_ind (fun ag3 ih3 t h H locs ls hP hS hl => ?_)
      obtain ⟨x3_3, x4_3, σ3⟩ := t
      have hP : zP D c o (zabs o σ3) H := hP
      have hl : lv_has ls 6 [(3, .int x3_3), (4, .int x4_3), (0, .ref (o + x0)), (1, .int x1), (2, .int x2)] := hl
      rw [F_X12_light_16.eq_1] at h
      show W p l e (zr 6) s m (([.ref (o + x0), .int x1, .int x2] : List Value).toArray) below meth cd H locs 0 0 (MQ below (zQi D c o g ρ) (([.ref (o + x0), .int x1, .int x2] : List Value).toArray) s 0 0 (zA o)) (F0 m 16 ls [])
      refine lv_iload (pc := 16) hx hb dX12_light_16 (lv_at hl 1 rfl) ?_
      refine lv_sipush (pc := 18) (v := 990) hx hb dX12_light_18 (by decide) ?_
      refine lv_icmp_gt (pc := 21) (tgt := 83) hx hb dX12_light_21 (by decide) (fun c1 => ?_) (fun c1 => ?_)
      · rw [if_pos c1] at h
        refine lv_iconst (pc := 83) (v := (-1)) hx hb dX12_light_83 (by decide) ?_
        exact xreti (pc := 84) hx hb hr hlocks hP hK hE hS h dX12_light_84
      · rw [if_neg c1] at h
        refine lv_iconst (pc := 24) (v := 0) hx hb dX12_light_24 (by decide) ?_
        refine lv_istore (pc := 25) (lv' := [(5, .int 0), (3, .int x3_3), (4, .int x4_3), (0, .ref (o + x0)), (1, .int x1), (2, .int x2)]) hx hb dX12_light_25 hl (by decide) rfl (fun ls hl => ?_)
        have L27_4 : ∀ (n : Nat) (t : Int32 × Int32 × zS), zlp (F_X12_light_27 N x0 x1 x2 x4_3 ag3) n t = some ρ → ∀ (H : Heap) (locs : List Loc) (ls : Array Slot), zP D c o (zabs o (t.2.2)) H → va_S (zA o) s.heap H locs → lv_has ls 6 [(3, .int (t.1)), (5, .int (t.2.1)), (0, .ref (o + x0)), (1, .int x1), (2, .int x2), (4, .int x4_3)] → W p l e (zr 6) s m (([.ref (o + x0), .int x1, .int x2] : List Value).toArray) below meth cd H locs 0 0 (MQ below (zQi D c o g ρ) (([.ref (o + x0), .int x1, .int x2] : List Value).toArray) s 0 0 (zA o)) (F0 m 27 ls []) := by
          refine zlp_ind (fun ag4 ih4 t h H locs ls hP hS hl => ?_)
          obtain ⟨x3_4, x5_4, σ4⟩ := t
          have hP : zP D c o (zabs o σ4) H := hP
          have hl : lv_has ls 6 [(3, .int x3_4), (5, .int x5_4), (0, .ref (o + x0)), (1, .int x1), (2, .int x2), (4, .int x4_3)] := hl
          rw [F_X12_light_27.eq_1] at h
          show W p l e (zr 6) s m (([.ref (o + x0), .int x1, .int x2] : List Value).toArray) below meth cd H locs 0 0 (MQ below (zQi D c o g ρ) (([.ref (o + x0), .int x1, .int x2] : List Value).toArray) s 0 0 (zA o)) (F0 m 27 ls [])
          refine lv_iload (pc := 27) hx hb dX12_light_27 (lv_at hl 1 rfl) ?_
          refine lv_aload_n (pc := 29) hx hb dX12_light_29 rfl (lv_at hl 2 rfl) ?_
          obtain ⟨_, hg, h⟩ := zl_some h
          obtain ⟨v5, σ6, hv, h⟩ := zb_some h
          refine xcallVi (pc := 30) (As := []) (rest := [.int x5_4]) ⟨hx, hb, hml, hown, hts⟩ (c_X12_many l D c o g N hv) zc12 zV_X12_104 rfl zd_X12_many ⟨Nat.le_of_ble_eq_true rfl, Nat.le_of_ble_eq_true rfl⟩ hK hP hE hS hg hl.1 rfl (Nat.le_of_ble_eq_true rfl) ⟨Nat.zero_le _, Nat.zero_le _⟩ dX12_light_30 (fun H locs hP hS => ?_)
          refine lv_icmp_ge (pc := 33) (tgt := 77) hx hb dX12_light_33 (by decide) (fun c1 => ?_) (fun c1 => ?_)
          · rw [if_pos c1] at h
            refine lv_iinc (pc := 77) (v := x4_3 + 1) (lv' := [(4, .int (x4_3 + 1)), (3, .int x3_4), (5, .int x5_4), (0, .ref (o + x0)), (1, .int x1), (2, .int x2)]) hx hb dX12_light_77 hl (k := 5) rfl rfl (by decide) rfl (fun ls hl => ?_)
            refine lv_goto (pc := 80) (tgt := 16) hx hb dX12_light_80 (by decide) ?_
            exact ih3 (x3_4, x4_3 + 1, σ6) h _ _ ls hP hS (lv_sub hl [1, 0, 3, 4, 5] rfl)
          · rw [if_neg c1] at h
            refine lv_aload_n (pc := 36) hx hb dX12_light_36 rfl (lv_at hl 2 rfl) ?_
            refine lv_iload_n (pc := 37) hx hb dX12_light_37 rfl (lv_at hl 3 rfl) ?_
            refine lv_iload (pc := 38) hx hb dX12_light_38 (lv_at hl 1 rfl) ?_
            obtain ⟨_, hg, h⟩ := zl_some h
            obtain ⟨v7, σ8, hv, h⟩ := zb_some h
            refine xcallVi (pc := 40) (As := [.int x1, .int x5_4]) (rest := []) ⟨hx, hb, hml, hown, hts⟩ (c_X12_of l D c o g N hv) zc12 zV_X12_314 rfl zd_X12_of ⟨Nat.le_of_ble_eq_true rfl, Nat.le_of_ble_eq_true rfl⟩ hK hP hE hS hg hl.1 rfl (Nat.le_of_ble_eq_true rfl) ⟨Nat.zero_le _, Nat.zero_le _⟩ dX12_light_40 (fun H locs hP hS => ?_)
            refine lv_if_eq (pc := 43) (tgt := 71) hx hb dX12_light_43 (by decide) (fun c1 => ?_) (fun c1 => ?_)
            · rw [if_pos c1] at h
              refine lv_iinc (pc := 71) (v := x5_4 + 1) (lv' := [(5, .int (x5_4 + 1)), (3, .int x3_4), (0, .ref (o + x0)), (1, .int x1), (2, .int x2), (4, .int x4_3)]) hx hb dX12_light_71 hl (k := 1) rfl rfl (by decide) rfl (fun ls hl => ?_)
              refine lv_goto (pc := 74) (tgt := 27) hx hb dX12_light_74 (by decide) ?_
              exact ih4 (x3_4, x5_4 + 1, σ8) h _ _ ls hP hS (lv_sub hl [1, 0, 2, 3, 4, 5] rfl)
            · rw [if_neg c1] at h
              refine lv_aload_n (pc := 46) hx hb dX12_light_46 rfl (lv_at hl 2 rfl) ?_
              refine lv_iload (pc := 47) hx hb dX12_light_47 (lv_at hl 1 rfl) ?_
              obtain ⟨_, hg, h⟩ := zl_some h
              obtain ⟨v9, σ10, hv, h⟩ := zb_some h
              refine xcallVi (pc := 49) (As := [.int x5_4]) (rest := []) ⟨hx, hb, hml, hown, hts⟩ (c_X12_weightOf l D c o g N hv) zc12 zV_X12_343 rfl zd_X12_weightOf ⟨Nat.le_of_ble_eq_true rfl, Nat.le_of_ble_eq_true rfl⟩ hK hP hE hS hg hl.1 rfl (Nat.le_of_ble_eq_true rfl) ⟨Nat.zero_le _, Nat.zero_le _⟩ dX12_light_49 (fun H locs hP hS => ?_)
              refine lv_iload (pc := 52) hx hb dX12_light_52 (lv_at hl 5 rfl) ?_
              refine lv_icmp_eq (pc := 54) (tgt := 60) hx hb dX12_light_54 (by decide) (fun c1 => ?_) (fun c1 => ?_)
              · rw [if_pos c1] at h
                refine lv_iload_n (pc := 60) hx hb dX12_light_60 rfl (lv_at hl 0 rfl) ?_
                refine lv_iload_n (pc := 61) hx hb dX12_light_61 rfl (lv_at hl 4 rfl) ?_
                refine lv_icmp_ne (pc := 62) (tgt := 68) hx hb dX12_light_62 (by decide) (fun c1 => ?_) (fun c1 => ?_)
                · rw [if_neg c1] at h
                  refine lv_iinc (pc := 68) (v := x3_4 + 1) (lv' := [(3, .int (x3_4 + 1)), (5, .int x5_4), (0, .ref (o + x0)), (1, .int x1), (2, .int x2), (4, .int x4_3)]) hx hb dX12_light_68 hl (k := 0) rfl rfl (by decide) rfl (fun ls hl => ?_)
                  refine lv_iinc (pc := 71) (v := x5_4 + 1) (lv' := [(5, .int (x5_4 + 1)), (3, .int (x3_4 + 1)), (0, .ref (o + x0)), (1, .int x1), (2, .int x2), (4, .int x4_3)]) hx hb dX12_light_71 hl (k := 1) rfl rfl (by decide) rfl (fun ls hl => ?_)
                  refine lv_goto (pc := 74) (tgt := 27) hx hb dX12_light_74 (by decide) ?_
                  exact ih4 (x3_4 + 1, x5_4 + 1, σ10) h _ _ ls hP hS (lv_sub hl [1, 0, 2, 3, 4, 5] rfl)
                · rw [if_pos c1] at h
                  refine lv_iload (pc := 65) hx hb dX12_light_65 (lv_at hl 1 rfl) ?_
                  exact xreti (pc := 67) hx hb hr hlocks hP hK hE hS h dX12_light_67
              · rw [if_neg c1] at h
                refine lv_goto (pc := 57) (tgt := 71) hx hb dX12_light_57 (by decide) ?_
                refine lv_iinc (pc := 71) (v := x5_4 + 1) (lv' := [(5, .int (x5_4 + 1)), (3, .int x3_4), (0, .ref (o + x0)), (1, .int x1), (2, .int x2), (4, .int x4_3)]) hx hb dX12_light_71 hl (k := 1) rfl rfl (by decide) rfl (fun ls hl => ?_)
                refine lv_goto (pc := 74) (tgt := 27) hx hb dX12_light_74 (by decide) ?_
                exact ih4 (x3_4, x5_4 + 1, σ10) h _ _ ls hP hS (lv_sub hl [1, 0, 2, 3, 4, 5] rfl)
        exact L27_4 N (x3_3, 0, σ3) h _ _ ls hP hS (lv_sub hl [1, 0, 3, 4, 5, 2] rfl)
    exact L16_3 N (0, 0, σ2) h _ _ ls hP hS (lv_sub hl [1, 0, 2, 3, 4] rfl)
  · rw [if_pos c1] at h
    refine lv_bipush (pc := 8) (v := (-2)) hx hb dX12_light_8 (by decide) ?_
    exact xreti (pc := 10) hx hb hr hlocks hP hK hE hS h dX12_light_10

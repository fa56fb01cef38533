def f_X12_rank (N : Nat) (x0 : Int32) (σ : zS) : Option (Int32 × zS) :=
  if x0 = 100 then
    (some (0, σ))
  else
    (if x0 < 50 then
      (if x0 = 0 then
        (some (1, σ))
      else
        (if x0 = 1 then
          (some (1, σ))
        else
          (some (2, σ))))
    else
      (some (3, σ)))
set_option maxHeartbeats 4000000 in
set_option maxRecDepth 100000 in
theorem c_X12_rank (l : Launch) (D : va_G) (c : zC) (o : Nat) (g : zEp) (N : Nat) {x0 : Int32} {σ : zS} {ρ : Int32 × zS} (h : f_X12_rank N x0 σ = some ρ) : Met l yX12_rank zs_X12_rank (zr 2) (va_Pc [.int x0] (zG D c o g σ)) (zQi D c o g ρ) 0 0 (zA o) := by
  refine zMetG (by decide) (Nat.le_of_ble_eq_true rfl) ?_
  intro p e s m below meth cd ⟨hx, hb, hr, hml, hown, hts, hlocks⟩ hP hK hE ls hl
  have hS : va_S (zA o) s.heap s.heap [] := va_S.rf
  have hl : lv_has ls 1 [(0, .int x0)] := hl
  rw [f_X12_rank.eq_1] at h
  refine lv_iload_n (pc := 0) hx hb dX12_rank_0 rfl (lv_at hl 0 rfl) ?_
  refine lv_bipush (pc := 1) (v := 100) hx hb dX12_rank_1 (by decide) ?_
  refine lv_icmp_ne (pc := 3) (tgt := 10) hx hb dX12_rank_3 (by decide) (fun c1 => ?_) (fun c1 => ?_)
  · rw [if_neg c1] at h
    refine lv_iload_n (pc := 10) hx hb dX12_rank_10 rfl (lv_at hl 0 rfl) ?_
    refine lv_bipush (pc := 11) (v := 50) hx hb dX12_rank_11 (by decide) ?_
    refine lv_icmp_lt (pc := 13) (tgt := 20) hx hb dX12_rank_13 (by decide) (fun c1 => ?_) (fun c1 => ?_)
    · rw [if_pos c1] at h
      refine lv_iload_n (pc := 20) hx hb dX12_rank_20 rfl (lv_at hl 0 rfl) ?_
      refine lv_if_eq (pc := 21) (tgt := 29) hx hb dX12_rank_21 (by decide) (fun c1 => ?_) (fun c1 => ?_)
      · rw [if_pos c1] at h
        refine lv_iconst (pc := 29) (v := 1) hx hb dX12_rank_29 (by decide) ?_
        refine lv_goto (pc := 30) (tgt := 34) hx hb dX12_rank_30 (by decide) ?_
        exact xreti (pc := 34) hx hb hr hlocks hP hK hE hS h dX12_rank_34
      · rw [if_neg c1] at h
        refine lv_iload_n (pc := 24) hx hb dX12_rank_24 rfl (lv_at hl 0 rfl) ?_
        refine lv_iconst (pc := 25) (v := 1) hx hb dX12_rank_25 (by decide) ?_
        refine lv_icmp_ne (pc := 26) (tgt := 33) hx hb dX12_rank_26 (by decide) (fun c1 => ?_) (fun c1 => ?_)
        · rw [if_neg c1] at h
          refine lv_iconst (pc := 33) (v := 2) hx hb dX12_rank_33 (by decide) ?_
          exact xreti (pc := 34) hx hb hr hlocks hP hK hE hS h dX12_rank_34
        · rw [if_pos c1] at h
          refine lv_iconst (pc := 29) (v := 1) hx hb dX12_rank_29 (by decide) ?_
          refine lv_goto (pc := 30) (tgt := 34) hx hb dX12_rank_30 (by decide) ?_
          exact xreti (pc := 34) hx hb hr hlocks hP hK hE hS h dX12_rank_34
    · rw [if_neg c1] at h
      refine lv_iconst (pc := 16) (v := 3) hx hb dX12_rank_16 (by decide) ?_
      refine lv_goto (pc := 17) (tgt := 34) hx hb dX12_rank_17 (by decide) ?_
      exact xreti (pc := 34) hx hb hr hlocks hP hK hE hS h dX12_rank_34
  · rw [if_pos c1] at h
    refine lv_iconst (pc := 6) (v := 0) hx hb dX12_rank_6 (by decide) ?_
    refine lv_goto (pc := 7) (tgt := 34) hx hb dX12_rank_7 (by decide) ?_
    exact xreti (pc := 34) hx hb hr hlocks hP hK hE hS h dX12_rank_34
def F_X12_copiesMade_2 (N : Nat) (x0 : Nat) (x1 : Int32) (again2 : (Int32 × zS) → Option (Unit × zS)) : Int32 × zS → Option (Unit × zS)
  | (x2, σ) =>
  if 1024 ≤ x2 then
    (some ((), σ))
  else
    (zl (gR 12 16 x0 σ) fun v1 =>
    zl (gR 12 17 x0 σ) fun v2 =>
    zl (aI 16 v2 x2 σ) fun v3 =>
    zl (sI 16 v1 ((1024 * x1) + x2) v3 σ) fun σ4 =>
    again2 (x2 + 1, σ4))
def f_X12_copiesMade (N : Nat) (x0 : Nat) (x1 : Int32) (σ : zS) : Option (Unit × zS) :=
  zlp (F_X12_copiesMade_2 N x0 x1) N (0, σ)
set_option maxHeartbeats 4000000 in
set_option maxRecDepth 100000 in
theorem c_X12_copiesMade (l : Launch) (D : va_G) (c : zC) (o : Nat) (g : zEp) (N : Nat) {x0 : Nat} {x1 : Int32} {σ : zS} {ρ : Unit × zS} (h : f_X12_copiesMade N x0 x1 σ = some ρ) : Met l yX12_copiesMade zs_X12_copiesMade (zr 2) (va_Pc [.ref (o + x0), .int x1] (zG D c o g σ)) (zQu D c o g ρ) 0 0 (zA o) := by
  refine zMetG (by decide) (Nat.le_of_ble_eq_true rfl) ?_
  intro p e s m below meth cd ⟨hx, hb, hr, hml, hown, hts, hlocks⟩ hP hK hE ls hl
  have hS : va_S (zA o) s.heap s.heap [] := va_S.rf
  have hl : lv_has ls 3 [(0, .ref (o + x0)), (1, .int x1)] := hl
  rw [f_X12_copiesMade.eq_1] at h
  refine lv_iconst (pc := 0) (v := 0) hx hb dX12_copiesMade_0 (by decide) ?_
  refine lv_istore_n (pc := 1) (lv' := [(2, .int 0), (0, .ref (o + x0)), (1, .int x1)]) hx hb dX12_copiesMade_1 rfl hl (by decide) rfl (fun ls hl => ?_)
  have L2_1 : ∀ (n : Nat) (t : Int32 × zS), zlp (F_X12_copiesMade_2 N x0 x1) n t = some ρ → ∀ (H : Heap) (locs : List Loc) (ls : Array Slot), zP D c o (zabs o (t.2)) H → va_S (zA o) s.heap H locs → lv_has ls 3 [(2, .int (t.1)), (0, .ref (o + x0)), (1, .int x1)] → W p l e (zr 2) s m (([.ref (o + x0), .int x1] : List Value).toArray) below meth cd H locs 0 0 (MQ below (zQu D c o g ρ) (([.ref (o + x0), .int x1] : List Value).toArray) s 0 0 (zA o)) (F0 m 2 ls []) := by
    refine zlp_ind (fun ag1 ih1 t h H locs ls hP hS hl => ?_)
    obtain ⟨x2_1, σ1⟩ := t
    have hP : zP D c o (zabs o σ1) H := hP
    have hl : lv_has ls 3 [(2, .int x2_1), (0, .ref (o + x0)), (1, .int x1)] := hl
    rw [F_X12_copiesMade_2.eq_1] at h
    show W p l e (zr 2) s m (([.ref (o + x0), .int x1] : List Value).toArray) below meth cd H locs 0 0 (MQ below (zQu D c o g ρ) (([.ref (o + x0), .int x1] : List Value).toArray) s 0 0 (zA o)) (F0 m 2 ls [])
    refine lv_iload_n (pc := 2) hx hb dX12_copiesMade_2 rfl (lv_at hl 0 rfl) ?_
    refine lv_sipush (pc := 3) (v := 1024) hx hb dX12_copiesMade_3 (by decide) ?_
    refine lv_icmp_ge (pc := 6) (tgt := 33) hx hb dX12_copiesMade_6 (by decide) (fun c1 => ?_) (fun c1 => ?_)
    · rw [if_pos c1] at h
      exact xretv (pc := 33) hx hb hr hlocks hP hK hE hS h dX12_copiesMade_33
    · rw [if_neg c1] at h
      refine lv_aload_n (pc := 9) hx hb dX12_copiesMade_9 rfl (lv_at hl 1 rfl) ?_
      obtain ⟨v2, hv, h⟩ := zl_some h
      refine xgR (pc := 10) (j := 16) zc12 hx hb hts hown hK hP hv rfl zf_X12_37 dX12_copiesMade_10 ?_
      refine lv_sipush (pc := 13) (v := 1024) hx hb dX12_copiesMade_13 (by decide) ?_
      refine lv_iload_n (pc := 16) hx hb dX12_copiesMade_16 rfl (lv_at hl 2 rfl) ?_
      refine lv_imul (pc := 17) hx hb dX12_copiesMade_17 ?_
      refine lv_iload_n (pc := 18) hx hb dX12_copiesMade_18 rfl (lv_at hl 0 rfl) ?_
      refine lv_iadd (pc := 19) hx hb dX12_copiesMade_19 ?_
      refine lv_aload_n (pc := 20) hx hb dX12_copiesMade_20 rfl (lv_at hl 1 rfl) ?_
      obtain ⟨v3, hv, h⟩ := zl_some h
      refine xgR (pc := 21) (j := 17) zc12 hx hb hts hown hK hP hv rfl zf_X12_40 dX12_copiesMade_21 ?_
      refine lv_iload_n (pc := 24) hx hb dX12_copiesMade_24 rfl (lv_at hl 0 rfl) ?_
      obtain ⟨v4, hv, h⟩ := zl_some h
      refine xaZ (pc := 25) hx hb hK hP hv dX12_copiesMade_25 ?_
      obtain ⟨σ5, hv, h⟩ := zl_some h
      refine xsZ (pc := 26) hx hb hK hP hS hv dX12_copiesMade_26 (fun H locs hP hS => ?_)
      refine lv_iinc (pc := 27) (v := x2_1 + 1) (lv' := [(2, .int (x2_1 + 1)), (0, .ref (o + x0)), (1, .int x1)]) hx hb dX12_copiesMade_27 hl (k := 0) rfl rfl (by decide) rfl (fun ls hl => ?_)
      refine lv_goto (pc := 30) (tgt := 2) hx hb dX12_copiesMade_30 (by decide) ?_
      exact ih1 (x2_1 + 1, σ5) h _ _ ls hP hS (lv_sub hl [0, 1, 2] rfl)
  exact L2_1 N (0, σ) h _ _ ls hP hS (lv_sub hl [0, 1, 2] rfl)
def f_X12_settles (N : Nat) (x0 : Nat) (σ : zS) : Option (Unit × zS) :=
  zl (gI 12 22 x0 σ) fun v1 =>
  zl (pI 12 22 x0 (v1 - 1) σ) fun σ2 =>
  zl (gR 12 21 x0 σ2) fun v3 =>
  zl (gI 12 22 x0 σ2) fun v4 =>
  zl (aI 14 v3 v4 σ2) fun v5 =>
  if v5 < 50 then
    (zl (gR 12 16 x0 σ2) fun v6 =>
    zl (gI 12 23 x0 σ2) fun v7 =>
    zl (gR 12 16 x0 σ2) fun v8 =>
    zl (gI 12 23 x0 σ2) fun v9 =>
    zl (gC 12 x0) fun _ => zb (f_X12_gives N x0 v5 v6 (1024 * (v7 - 2)) v8 (1024 * (v9 - 1)) σ2) fun v10 σ11 =>
    zl (gI 12 23 x0 σ11) fun v12 =>
    zl (pI 12 23 x0 (v12 - 1) σ11) fun σ13 =>
    zl (gI 12 23 x0 σ13) fun v14 =>
    zl (gC 12 x0) fun _ => zb (f_X12_copiesMade N x0 (v14 - 1) σ13) fun v15 σ16 =>
    some ((), σ16))
  else
    (zl (gR 12 16 x0 σ2) fun v17 =>
    zl (gI 12 23 x0 σ2) fun v18 =>
    zl (gC 12 x0) fun _ => zb (f_X12_turns N x0 (v5 - 50) v17 (1024 * (v18 - 1)) σ2) fun v19 σ20 =>
    zl (gI 12 23 x0 σ20) fun v21 =>
    zl (gC 12 x0) fun _ => zb (f_X12_copiesMade N x0 (v21 - 1) σ20) fun v22 σ23 =>
    zl (gI 12 24 x0 σ23) fun v24 =>
    zl (pI 12 24 x0 (v24 - 1) σ23) fun σ25 =>
    some ((), σ25))
set_option maxHeartbeats 4000000 in
set_option maxRecDepth 100000 in
theorem c_X12_settles (l : Launch) (D : va_G) (c : zC) (o : Nat) (g : zEp) (N : Nat) {x0 : Nat} {σ : zS} {ρ : Unit × zS} (h : f_X12_settles N x0 σ = some ρ) : Met l yX12_settles zs_X12_settles (zr 8) (va_Pc [.ref (o + x0)] (zG D c o g σ)) (zQu D c o g ρ) 0 0 (zA o) := by
  refine zMetG (by decide) (Nat.le_of_ble_eq_true rfl) ?_
  intro p e s m below meth cd ⟨hx, hb, hr, hml, hown, hts, hlocks⟩ hP hK hE ls hl
  have hS : va_S (zA o) s.heap s.heap [] := va_S.rf
  have hl : lv_has ls 2 [(0, .ref (o + x0))] := hl
  rw [f_X12_settles.eq_1] at h
  refine lv_aload_n (pc := 0) hx hb dX12_settles_0 rfl (lv_at hl 0 rfl) ?_
  refine lv_dup (pc := 1) hx hb dX12_settles_1 rfl ?_
  obtain ⟨v1, hv, h⟩ := zl_some h
  refine xgI (pc := 2) (j := 22) zc12 hx hb hts hown hK hP hv rfl zf_X12_203 dX12_settles_2 ?_
  refine lv_iconst (pc := 5) (v := 1) hx hb dX12_settles_5 (by decide) ?_
  refine lv_isub (pc := 6) hx hb dX12_settles_6 ?_
  obtain ⟨σ2, hv, h⟩ := zl_some h
  refine xpI (pc := 7) (j := 22) zc12 hx hb hts hown hK hP hS hv rfl rfl rfl zf_X12_203 dX12_settles_7 (fun H locs hP hS => ?_)
  refine lv_aload_n (pc := 10) hx hb dX12_settles_10 rfl (lv_at hl 0 rfl) ?_
  obtain ⟨v3, hv, h⟩ := zl_some h
  refine xgR (pc := 11) (j := 21) zc12 hx hb hts hown hK hP hv rfl zf_X12_49 dX12_settles_11 ?_
  refine lv_aload_n (pc := 14) hx hb dX12_settles_14 rfl (lv_at hl 0 rfl) ?_
  obtain ⟨v4, hv, h⟩ := zl_some h
  refine xgI (pc := 15) (j := 22) zc12 hx hb hts hown hK hP hv rfl zf_X12_203 dX12_settles_15 ?_
  obtain ⟨v5, hv, h⟩ := zl_some h
  refine xaI (pc := 18) hx hb hK hP hv dX12_settles_18 ?_
  refine lv_istore_n (pc := 19) (lv' := [(1, .int v5), (0, .ref (o + x0))]) hx hb dX12_settles_19 rfl hl (by decide) rfl (fun ls hl => ?_)
  refine lv_iload_n (pc := 20) hx hb dX12_settles_20 rfl (lv_at hl 0 rfl) ?_
  refine lv_bipush (pc := 21) (v := 50) hx hb dX12_settles_21 (by decide) ?_
  refine lv_icmp_lt (pc := 23) (tgt := 69) hx hb dX12_settles_23 (by decide) (fun c1 => ?_) (fun c1 => ?_)
  · rw [if_pos c1] at h
    refine lv_aload_n (pc := 69) hx hb dX12_settles_69 rfl (lv_at hl 1 rfl) ?_
    refine lv_iload_n (pc := 70) hx hb dX12_settles_70 rfl (lv_at hl 0 rfl) ?_
    refine lv_aload_n (pc := 71) hx hb dX12_settles_71 rfl (lv_at hl 1 rfl) ?_
    obtain ⟨v6, hv, h⟩ := zl_some h
    refine xgR (pc := 72) (j := 16) zc12 hx hb hts hown hK hP hv rfl zf_X12_37 dX12_settles_72 ?_
    refine lv_sipush (pc := 75) (v := 1024) hx hb dX12_settles_75 (by decide) ?_
    refine lv_aload_n (pc := 78) hx hb dX12_settles_78 rfl (lv_at hl 1 rfl) ?_
    obtain ⟨v7, hv, h⟩ := zl_some h
    refine xgI (pc := 79) (j := 23) zc12 hx hb hts hown hK hP hv rfl zf_X12_206 dX12_settles_79 ?_
    refine lv_iconst (pc := 82) (v := 2) hx hb dX12_settles_82 (by decide) ?_
    refine lv_isub (pc := 83) hx hb dX12_settles_83 ?_
    refine lv_imul (pc := 84) hx hb dX12_settles_84 ?_
    refine lv_aload_n (pc := 85) hx hb dX12_settles_85 rfl (lv_at hl 1 rfl) ?_
    obtain ⟨v8, hv, h⟩ := zl_some h
    refine xgR (pc := 86) (j := 16) zc12 hx hb hts hown hK hP hv rfl zf_X12_37 dX12_settles_86 ?_
    refine lv_sipush (pc := 89) (v := 1024) hx hb dX12_settles_89 (by decide) ?_
    refine lv_aload_n (pc := 92) hx hb dX12_settles_92 rfl (lv_at hl 1 rfl) ?_
    obtain ⟨v9, hv, h⟩ := zl_some h
    refine xgI (pc := 93) (j := 23) zc12 hx hb hts hown hK hP hv rfl zf_X12_206 dX12_settles_93 ?_
    refine lv_iconst (pc := 96) (v := 1) hx hb dX12_settles_96 (by decide) ?_
    refine lv_isub (pc := 97) hx hb dX12_settles_97 ?_
    refine lv_imul (pc := 98) hx hb dX12_settles_98 ?_
    obtain ⟨_, hg, h⟩ := zl_some h
    obtain ⟨v10, σ11, hv, h⟩ := zb_some h
    refine xcallVv (pc := 99) (As := [.int v5, .ref (o + v6), .int (1024 * (v7 - 2)), .ref (o + v8), .int (1024 * (v9 - 1))]) (rest := []) ⟨hx, hb, hml, hown, hts⟩ (c_X12_gives l D c o g N hv) zc12 zV_X12_218 rfl zd_X12_gives ⟨Nat.le_of_ble_eq_true rfl, Nat.le_of_ble_eq_true rfl⟩ hK hP hE hS hg hl.1 rfl (Nat.le_of_ble_eq_true rfl) ⟨Nat.zero_le _, Nat.zero_le _⟩ dX12_settles_99 (fun H locs hP hS => ?_)
    refine lv_aload_n (pc := 102) hx hb dX12_settles_102 rfl (lv_at hl 1 rfl) ?_
    refine lv_dup (pc := 103) hx hb dX12_settles_103 rfl ?_
    obtain ⟨v12, hv, h⟩ := zl_some h
    refine xgI (pc := 104) (j := 23) zc12 hx hb hts hown hK hP hv rfl zf_X12_206 dX12_settles_104 ?_
    refine lv_iconst (pc := 107) (v := 1) hx hb dX12_settles_107 (by decide) ?_
    refine lv_isub (pc := 108) hx hb dX12_settles_108 ?_
    obtain ⟨σ13, hv, h⟩ := zl_some h
    refine xpI (pc := 109) (j := 23) zc12 hx hb hts hown hK hP hS hv rfl rfl rfl zf_X12_206 dX12_settles_109 (fun H locs hP hS => ?_)
    refine lv_aload_n (pc := 112) hx hb dX12_settles_112 rfl (lv_at hl 1 rfl) ?_
    refine lv_aload_n (pc := 113) hx hb dX12_settles_113 rfl (lv_at hl 1 rfl) ?_
    obtain ⟨v14, hv, h⟩ := zl_some h
    refine xgI (pc := 114) (j := 23) zc12 hx hb hts hown hK hP hv rfl zf_X12_206 dX12_settles_114 ?_
    refine lv_iconst (pc := 117) (v := 1) hx hb dX12_settles_117 (by decide) ?_
    refine lv_isub (pc := 118) hx hb dX12_settles_118 ?_
    obtain ⟨_, hg, h⟩ := zl_some h
    obtain ⟨v15, σ16, hv, h⟩ := zb_some h
    refine xcallVv (pc := 119) (As := [.int (v14 - 1)]) (rest := []) ⟨hx, hb, hml, hown, hts⟩ (c_X12_copiesMade l D c o g N hv) zc12 zV_X12_212 rfl zd_X12_copiesMade ⟨Nat.le_of_ble_eq_true rfl, Nat.le_of_ble_eq_true rfl⟩ hK hP hE hS hg hl.1 rfl (Nat.le_of_ble_eq_true rfl) ⟨Nat.zero_le _, Nat.zero_le _⟩ dX12_settles_119 (fun H locs hP hS => ?_)
    exact xretv (pc := 122) hx hb hr hlocks hP hK hE hS h dX12_settles_122
  · rw [if_neg c1] at h
    refine lv_aload_n (pc := 26) hx hb dX12_settles_26 rfl (lv_at hl 1 rfl) ?_
    refine lv_iload_n (pc := 27) hx hb dX12_settles_27 rfl (lv_at hl 0 rfl) ?_
    refine lv_bipush (pc := 28) (v := 50) hx hb dX12_settles_28 (by decide) ?_
    refine lv_isub (pc := 30) hx hb dX12_settles_30 ?_
    refine lv_aload_n (pc := 31) hx hb dX12_settles_31 rfl (lv_at hl 1 rfl) ?_
    obtain ⟨v17, hv, h⟩ := zl_some h
    refine xgR (pc := 32) (j := 16) zc12 hx hb hts hown hK hP hv rfl zf_X12_37 dX12_settles_32 ?_
    refine lv_sipush (pc := 35) (v := 1024) hx hb dX12_settles_35 (by decide) ?_
    refine lv_aload_n (pc := 38) hx hb dX12_settles_38 rfl (lv_at hl 1 rfl) ?_
    obtain ⟨v18, hv, h⟩ := zl_some h
    refine xgI (pc := 39) (j := 23) zc12 hx hb hts hown hK hP hv rfl zf_X12_206 dX12_settles_39 ?_
    refine lv_iconst (pc := 42) (v := 1) hx hb dX12_settles_42 (by decide) ?_
    refine lv_isub (pc := 43) hx hb dX12_settles_43 ?_
    refine lv_imul (pc := 44) hx hb dX12_settles_44 ?_
    obtain ⟨_, hg, h⟩ := zl_some h
    obtain ⟨v19, σ20, hv, h⟩ := zb_some h
    refine xcallVv (pc := 45) (As := [.int (v5 - 50), .ref (o + v17), .int (1024 * (v18 - 1))]) (rest := []) ⟨hx, hb, hml, hown, hts⟩ (c_X12_turns l D c o g N hv) zc12 zV_X12_209 rfl zd_X12_turns ⟨Nat.le_of_ble_eq_true rfl, Nat.le_of_ble_eq_true rfl⟩ hK hP hE hS hg hl.1 rfl (Nat.le_of_ble_eq_true rfl) ⟨Nat.zero_le _, Nat.zero_le _⟩ dX12_settles_45 (fun H locs hP hS => ?_)
    refine lv_aload_n (pc := 48) hx hb dX12_settles_48 rfl (lv_at hl 1 rfl) ?_
    refine lv_aload_n (pc := 49) hx hb dX12_settles_49 rfl (lv_at hl 1 rfl) ?_
    obtain ⟨v21, hv, h⟩ := zl_some h
    refine xgI (pc := 50) (j := 23) zc12 hx hb hts hown hK hP hv rfl zf_X12_206 dX12_settles_50 ?_
    refine lv_iconst (pc := 53) (v := 1) hx hb dX12_settles_53 (by decide) ?_
    refine lv_isub (pc := 54) hx hb dX12_settles_54 ?_
    obtain ⟨_, hg, h⟩ := zl_some h
    obtain ⟨v22, σ23, hv, h⟩ := zb_some h
    refine xcallVv (pc := 55) (As := [.int (v21 - 1)]) (rest := []) ⟨hx, hb, hml, hown, hts⟩ (c_X12_copiesMade l D c o g N hv) zc12 zV_X12_212 rfl zd_X12_copiesMade ⟨Nat.le_of_ble_eq_true rfl, Nat.le_of_ble_eq_true rfl⟩ hK hP hE hS hg hl.1 rfl (Nat.le_of_ble_eq_true rfl) ⟨Nat.zero_le _, Nat.zero_le _⟩ dX12_settles_55 (fun H locs hP hS => ?_)
    refine lv_aload_n (pc := 58) hx hb dX12_settles_58 rfl (lv_at hl 1 rfl) ?_
    refine lv_dup (pc := 59) hx hb dX12_settles_59 rfl ?_
    obtain ⟨v24, hv, h⟩ := zl_some h
    refine xgI (pc := 60) (j := 24) zc12 hx hb hts hown hK hP hv rfl zf_X12_215 dX12_settles_60 ?_
    refine lv_iconst (pc := 63) (v := 1) hx hb dX12_settles_63 (by decide) ?_
    refine lv_isub (pc := 64) hx hb dX12_settles_64 ?_
    obtain ⟨σ25, hv, h⟩ := zl_some h
    refine xpI (pc := 65) (j := 24) zc12 hx hb hts hown hK hP hS hv rfl rfl rfl zf_X12_215 dX12_settles_65 (fun H locs hP hS => ?_)
    exact xretv (pc := 68) hx hb hr hlocks hP hK hE hS h dX12_settles_68
def F_X12_settlesTo_0 (N : Nat) (x0 : Nat) (x1 : Int32) (again0 : zS → Option (Unit × zS)) : zS → Option (Unit × zS)
  | σ =>
  zl (gI 12 22 x0 σ) fun v1 =>
  if v1 ≤ 0 then
    (some ((), σ))
  else
    (zl (gR 12 21 x0 σ) fun v2 =>
    zl (gI 12 22 x0 σ) fun v3 =>
    zl (aI 14 v2 (v3 - 1) σ) fun v4 =>
    zb (f_X12_rank N v4 σ) fun v5 σ6 =>
    if v5 < x1 then
      (some ((), σ6))
    else
      (zl (gC 12 x0) fun _ => zb (f_X12_settles N x0 σ6) fun v7 σ8 =>
      again0 (σ8)))
def f_X12_settlesTo (N : Nat) (x0 : Nat) (x1 : Int32) (σ : zS) : Option (Unit × zS) :=
  zlp (F_X12_settlesTo_0 N x0 x1) N σ
set_option maxHeartbeats 4000000 in
set_option maxRecDepth 100000 in
theorem c_X12_settlesTo (l : Launch) (D : va_G) (c : zC) (o : Nat) (g : zEp) (N : Nat) {x0 : Nat} {x1 : Int32} {σ : zS} {ρ : Unit × zS} (h : f_X12_settlesTo N x0 x1 σ = some ρ) : Met l yX12_settlesTo zs_X12_settlesTo (zr 10) (va_Pc [.ref (o + x0), .int x1] (zG D c o g σ)) (zQu D c o g ρ) 0 0 (zA o) := by
  refine zMetG (by decide) (Nat.le_of_ble_eq_true rfl) ?_
  intro p e s m below meth cd ⟨hx, hb, hr, hml, hown, hts, hlocks⟩ hP hK hE ls hl
  have hS : va_S (zA o) s.heap s.heap [] := va_S.rf
  have hl : lv_has ls 2 [(0, .ref (o + x0)), (1, .int x1)] := hl
  rw [f_X12_settlesTo.eq_1] at h
  have L0_1 : ∀ (n : Nat) (t : zS), zlp (F_X12_settlesTo_0 N x0 x1) n t = some ρ → ∀ (H : Heap) (locs : List Loc) (ls : Array Slot), zP D c o (zabs o (t)) H → va_S (zA o) s.heap H locs → lv_has ls 2 [(0, .ref (o + x0)), (1, .int x1)] → W p l e (zr 10) s m (([.ref (o + x0), .int x1] : List Value).toArray) below meth cd H locs 0 0 (MQ below (zQu D c o g ρ) (([.ref (o + x0), .int x1] : List Value).toArray) s 0 0 (zA o)) (F0 m 0 ls []) := by
    refine zlp_ind (fun ag1 ih1 t h H locs ls hP hS hl => ?_)
    obtain ⟨σ1, rfl⟩ : ∃ x, x = t := ⟨t, rfl⟩
    have hP : zP D c o (zabs o σ1) H := hP
    have hl : lv_has ls 2 [(0, .ref (o + x0)), (1, .int x1)] := hl
    rw [F_X12_settlesTo_0.eq_1] at h
    show W p l e (zr 10) s m (([.ref (o + x0), .int x1] : List Value).toArray) below meth cd H locs 0 0 (MQ below (zQu D c o g ρ) (([.ref (o + x0), .int x1] : List Value).toArray) s 0 0 (zA o)) (F0 m 0 ls [])
    refine lv_aload_n (pc := 0) hx hb dX12_settlesTo_0 rfl (lv_at hl 0 rfl) ?_
    obtain ⟨v2, hv, h⟩ := zl_some h
    refine xgI (pc := 1) (j := 22) zc12 hx hb hts hown hK hP hv rfl zf_X12_203 dX12_settlesTo_1 ?_
    refine lv_if_le (pc := 4) (tgt := 32) hx hb dX12_settlesTo_4 (by decide) (fun c1 => ?_) (fun c1 => ?_)
    · rw [if_pos c1] at h
      exact xretv (pc := 32) hx hb hr hlocks hP hK hE hS h dX12_settlesTo_32
    · rw [if_neg c1] at h
      refine lv_aload_n (pc := 7) hx hb dX12_settlesTo_7 rfl (lv_at hl 0 rfl) ?_
      obtain ⟨v3, hv, h⟩ := zl_some h
      refine xgR (pc := 8) (j := 21) zc12 hx hb hts hown hK hP hv rfl zf_X12_49 dX12_settlesTo_8 ?_
      refine lv_aload_n (pc := 11) hx hb dX12_settlesTo_11 rfl (lv_at hl 0 rfl) ?_
      obtain ⟨v4, hv, h⟩ := zl_some h
      refine xgI (pc := 12) (j := 22) zc12 hx hb hts hown hK hP hv rfl zf_X12_203 dX12_settlesTo_12 ?_
      refine lv_iconst (pc := 15) (v := 1) hx hb dX12_settlesTo_15 (by decide) ?_
      refine lv_isub (pc := 16) hx hb dX12_settlesTo_16 ?_
      obtain ⟨v5, hv, h⟩ := zl_some h
      refine xaI (pc := 17) hx hb hK hP hv dX12_settlesTo_17 ?_
      obtain ⟨v6, σ7, hv, h⟩ := zb_some h
      refine xcallSi (pc := 18) (As := [.int v5]) (rest := []) ⟨hx, hb, hml, hown, hts⟩ (c_X12_rank l D c o g N hv) zT_X12_222 rfl zd_X12_rank ⟨Nat.le_of_ble_eq_true rfl, Nat.le_of_ble_eq_true rfl⟩ hK hP hE hS hl.1 rfl (Nat.le_of_ble_eq_true rfl) ⟨Nat.zero_le _, Nat.zero_le _⟩ dX12_settlesTo_18 (fun H locs hP hS => ?_)
      refine lv_iload_n (pc := 21) hx hb dX12_settlesTo_21 rfl (lv_at hl 1 rfl) ?_
      refine lv_icmp_lt (pc := 22) (tgt := 32) hx hb dX12_settlesTo_22 (by decide) (fun c1 => ?_) (fun c1 => ?_)
      · rw [if_pos c1] at h
        exact xretv (pc := 32) hx hb hr hlocks hP hK hE hS h dX12_settlesTo_32
      · rw [if_neg c1] at h
        refine lv_aload_n (pc := 25) hx hb dX12_settlesTo_25 rfl (lv_at hl 0 rfl) ?_
        obtain ⟨_, hg, h⟩ := zl_some h
        obtain ⟨v8, σ9, hv, h⟩ := zb_some h
        refine xcallVv (pc := 26) (As := []) (rest := []) ⟨hx, hb, hml, hown, hts⟩ (c_X12_settles l D c o g N hv) zc12 zV_X12_225 rfl zd_X12_settles ⟨Nat.le_of_ble_eq_true rfl, Nat.le_of_ble_eq_true rfl⟩ hK hP hE hS hg hl.1 rfl (Nat.le_of_ble_eq_true rfl) ⟨Nat.zero_le _, Nat.zero_le _⟩ dX12_settlesTo_26 (fun H locs hP hS => ?_)
        refine lv_goto (pc := 29) (tgt := 0) hx hb dX12_settlesTo_29 (by decide) ?_
        exact ih1 σ9 h _ _ ls hP hS (lv_sub hl [0, 1] rfl)
  exact L0_1 N σ h _ _ ls hP hS (lv_sub hl [0, 1] rfl)
def J_X12_opens_14 (N : Nat) (x0 : Nat) (x1 : Int32) (σ : zS) : Option (Unit × zS) :=
  zl (gC 12 x0) fun _ => zb (f_X12_good N x0 σ) fun v4 σ5 =>
  if v4 = 0 then
    (some ((), σ5))
  else
    (zl (gC 12 x0) fun _ => zb (f_X12_advance N x0 σ5) fun v6 σ7 =>
    zl (gI 12 24 x0 σ7) fun v8 =>
    zl (pI 12 24 x0 (v8 + 1) σ7) fun σ9 =>
    zl (gR 12 21 x0 σ9) fun v10 =>
    zl (gI 12 22 x0 σ9) fun v11 =>
    zl (sI 14 v10 v11 x1 σ9) fun σ12 =>
    zl (gI 12 22 x0 σ12) fun v13 =>
    zl (pI 12 22 x0 (v13 + 1) σ12) fun σ14 =>
    some ((), σ14))
def f_X12_opens (N : Nat) (x0 : Nat) (x1 : Int32) (σ : zS) : Option (Unit × zS) :=
  zl (gI 12 24 x0 σ) fun v1 =>
  if v1 = 6 then
    (zl (gC 12 x0) fun _ => zb (f_X12_errs N x0 3 σ) fun v2 σ3 =>
    J_X12_opens_14 N x0 x1 σ3)
  else
    (J_X12_opens_14 N x0 x1 σ)
set_option maxHeartbeats 4000000 in
set_option maxRecDepth 100000 in
theorem c_X12_opens (l : Launch) (D : va_G) (c : zC) (o : Nat) (g : zEp) (N : Nat) {x0 : Nat} {x1 : Int32} {σ : zS} {ρ : Unit × zS} (h : f_X12_opens N x0 x1 σ = some ρ) : Met l yX12_opens zs_X12_opens (zr 6) (va_Pc [.ref (o + x0), .int x1] (zG D c o g σ)) (zQu D c o g ρ) 0 0 (zA o) := by
  refine zMetG (by decide) (Nat.le_of_ble_eq_true rfl) ?_
  intro p e s m below meth cd ⟨hx, hb, hr, hml, hown, hts, hlocks⟩ hP hK hE ls hl
  have hS : va_S (zA o) s.heap s.heap [] := va_S.rf
  have hl : lv_has ls 2 [(0, .ref (o + x0)), (1, .int x1)] := hl
  rw [f_X12_opens.eq_1] at h
  refine lv_aload_n (pc := 0) hx hb dX12_opens_0 rfl (lv_at hl 0 rfl) ?_
  obtain ⟨v1, hv, h⟩ := zl_some h
  refine xgI (pc := 1) (j := 24) zc12 hx hb hts hown hK hP hv rfl zf_X12_215 dX12_opens_1 ?_
  refine lv_bipush (pc := 4) (v := 6) hx hb dX12_opens_4 (by decide) ?_
  have hj14_2 : ∀ (σ2 : zS), J_X12_opens_14 N x0 x1 σ2 = some ρ → ∀ (H : Heap) (locs : List Loc) (ls : Array Slot), zP D c o (zabs o σ2) H → va_S (zA o) s.heap H locs → lv_has ls 2 [(0, .ref (o + x0)), (1, .int x1)] → W p l e (zr 6) s m (([.ref (o + x0), .int x1] : List Value).toArray) below meth cd H locs 0 0 (MQ below (zQu D c o g ρ) (([.ref (o + x0), .int x1] : List Value).toArray) s 0 0 (zA o)) (F0 m 14 ls []) := by
    intro σ2 h H locs ls hP hS hl
    rw [J_X12_opens_14.eq_1] at h
    refine lv_aload_n (pc := 14) hx hb dX12_opens_14 rfl (lv_at hl 0 rfl) ?_
    obtain ⟨_, hg, h⟩ := zl_some h
    obtain ⟨v3, σ4, hv, h⟩ := zb_some h
    refine xcallVi (pc := 15) (As := []) (rest := []) ⟨hx, hb, hml, hown, hts⟩ (c_X12_good l D c o g N hv) zc12 zV_X12_157 rfl zd_X12_good ⟨Nat.le_of_ble_eq_true rfl, Nat.le_of_ble_eq_true rfl⟩ hK hP hE hS hg hl.1 rfl (Nat.le_of_ble_eq_true rfl) ⟨Nat.zero_le _, Nat.zero_le _⟩ dX12_opens_15 (fun H locs hP hS => ?_)
    refine lv_if_ne (pc := 18) (tgt := 22) hx hb dX12_opens_18 (by decide) (fun c1 => ?_) (fun c1 => ?_)
    · rw [if_neg c1] at h
      refine lv_aload_n (pc := 22) hx hb dX12_opens_22 rfl (lv_at hl 0 rfl) ?_
      obtain ⟨_, hg, h⟩ := zl_some h
      obtain ⟨v5, σ6, hv, h⟩ := zb_some h
      refine xcallVv (pc := 23) (As := []) (rest := []) ⟨hx, hb, hml, hown, hts⟩ (c_X12_advance l D c o g N hv) zc12 zV_X12_154 rfl zd_X12_advance ⟨Nat.le_of_ble_eq_true rfl, Nat.le_of_ble_eq_true rfl⟩ hK hP hE hS hg hl.1 rfl (Nat.le_of_ble_eq_true rfl) ⟨Nat.zero_le _, Nat.zero_le _⟩ dX12_opens_23 (fun H locs hP hS => ?_)
      refine lv_aload_n (pc := 26) hx hb dX12_opens_26 rfl (lv_at hl 0 rfl) ?_
      refine lv_dup (pc := 27) hx hb dX12_opens_27 rfl ?_
      obtain ⟨v7, hv, h⟩ := zl_some h
      refine xgI (pc := 28) (j := 24) zc12 hx hb hts hown hK hP hv rfl zf_X12_215 dX12_opens_28 ?_
      refine lv_iconst (pc := 31) (v := 1) hx hb dX12_opens_31 (by decide) ?_
      refine lv_iadd (pc := 32) hx hb dX12_opens_32 ?_
      obtain ⟨σ8, hv, h⟩ := zl_some h
      refine xpI (pc := 33) (j := 24) zc12 hx hb hts hown hK hP hS hv rfl rfl rfl zf_X12_215 dX12_opens_33 (fun H locs hP hS => ?_)
      refine lv_aload_n (pc := 36) hx hb dX12_opens_36 rfl (lv_at hl 0 rfl) ?_
      obtain ⟨v9, hv, h⟩ := zl_some h
      refine xgR (pc := 37) (j := 21) zc12 hx hb hts hown hK hP hv rfl zf_X12_49 dX12_opens_37 ?_
      refine lv_aload_n (pc := 40) hx hb dX12_opens_40 rfl (lv_at hl 0 rfl) ?_
      obtain ⟨v10, hv, h⟩ := zl_some h
      refine xgI (pc := 41) (j := 22) zc12 hx hb hts hown hK hP hv rfl zf_X12_203 dX12_opens_41 ?_
      refine lv_iload_n (pc := 44) hx hb dX12_opens_44 rfl (lv_at hl 1 rfl) ?_
      obtain ⟨σ11, hv, h⟩ := zl_some h
      refine xsI (pc := 45) hx hb hK hP hS hv dX12_opens_45 (fun H locs hP hS => ?_)
      refine lv_aload_n (pc := 46) hx hb dX12_opens_46 rfl (lv_at hl 0 rfl) ?_
      refine lv_dup (pc := 47) hx hb dX12_opens_47 rfl ?_
      obtain ⟨v12, hv, h⟩ := zl_some h
      refine xgI (pc := 48) (j := 22) zc12 hx hb hts hown hK hP hv rfl zf_X12_203 dX12_opens_48 ?_
      refine lv_iconst (pc := 51) (v := 1) hx hb dX12_opens_51 (by decide) ?_
      refine lv_iadd (pc := 52) hx hb dX12_opens_52 ?_
      obtain ⟨σ13, hv, h⟩ := zl_some h
      refine xpI (pc := 53) (j := 22) zc12 hx hb hts hown hK hP hS hv rfl rfl rfl zf_X12_203 dX12_opens_53 (fun H locs hP hS => ?_)
      exact xretv (pc := 56) hx hb hr hlocks hP hK hE hS h dX12_opens_56
    · rw [if_pos c1] at h
      exact xretv (pc := 21) hx hb hr hlocks hP hK hE hS h dX12_opens_21
  refine lv_icmp_ne (pc := 6) (tgt := 14) hx hb dX12_opens_6 (by decide) (fun c1 => ?_) (fun c1 => ?_)
  · rw [if_neg c1] at h
    exact hj14_2 σ h _ _ ls hP hS (lv_sub hl [0, 1] rfl)
  · rw [if_pos c1] at h
    refine lv_aload_n (pc := 9) hx hb dX12_opens_9 rfl (lv_at hl 0 rfl) ?_
    refine lv_iconst (pc := 10) (v := 3) hx hb dX12_opens_10 (by decide) ?_
    obtain ⟨_, hg, h⟩ := zl_some h
    obtain ⟨v14, σ15, hv, h⟩ := zb_some h
    refine xcallVv (pc := 11) (As := [.int 3]) (rest := []) ⟨hx, hb, hml, hown, hts⟩ (c_X12_errs l D c o g N hv) zc12 zV_X12_176 rfl zd_X12_errs ⟨Nat.le_of_ble_eq_true rfl, Nat.le_of_ble_eq_true rfl⟩ hK hP hE hS hg hl.1 rfl (Nat.le_of_ble_eq_true rfl) ⟨Nat.zero_le _, Nat.zero_le _⟩ dX12_opens_11 (fun H locs hP hS => ?_)
    exact hj14_2 σ15 h _ _ ls hP hS (lv_sub hl [0, 1] rfl)
def f_X12_prefixOf (N : Nat) (x0 : Nat) (σ : zS) : Option (Int32 × zS) :=
  zl (gC 12 x0) fun _ => zb (f_X12_is N x0 16 σ) fun v1 σ2 =>
  if v1 = 0 then
    (zl (gC 12 x0) fun _ => zb (f_X12_is N x0 17 σ2) fun v3 σ4 =>
    if v3 = 0 then
      (zl (gC 12 x0) fun _ => zb (f_X12_is N x0 18 σ4) fun v5 σ6 =>
      if v5 = 0 then
        (zl (gC 12 x0) fun _ => zb (f_X12_is N x0 19 σ6) fun v7 σ8 =>
        if v7 = 0 then
          (zl (gC 12 x0) fun _ => zb (f_X12_is N x0 20 σ8) fun v9 σ10 =>
          if v9 = 0 then
            (zl (gC 12 x0) fun _ => zb (f_X12_is N x0 21 σ10) fun v11 σ12 =>
            if v11 = 0 then
              (some ((-1), σ12))
            else
              (some (5, σ12)))
          else
            (some (4, σ10)))
        else
          (some (3, σ8)))
      else
        (some (2, σ6)))
    else
      (some (1, σ4)))
  else
    (some (0, σ2))
set_option maxHeartbeats 4000000 in
set_option maxRecDepth 100000 in
theorem c_X12_prefixOf (l : Launch) (D : va_G) (c : zC) (o : Nat) (g : zEp) (N : Nat) {x0 : Nat} {σ : zS} {ρ : Int32 × zS} (h : f_X12_prefixOf N x0 σ = some ρ) : Met l yX12_prefixOf zs_X12_prefixOf (zr 16) (va_Pc [.ref (o + x0)] (zG D c o g σ)) (zQi D c o g ρ) 0 0 (zA o) := by
  refine zMetG (by decide) (Nat.le_of_ble_eq_true rfl) ?_
  intro p e s m below meth cd ⟨hx, hb, hr, hml, hown, hts, hlocks⟩ hP hK hE ls hl
  have hS : va_S (zA o) s.heap s.heap [] := va_S.rf
  have hl : lv_has ls 1 [(0, .ref (o + x0))] := hl
  rw [f_X12_prefixOf.eq_1] at h
  refine lv_aload_n (pc := 0) hx hb dX12_prefixOf_0 rfl (lv_at hl 0 rfl) ?_
  refine va_ldcS (pc := 1) hx hb hown (hE.2.2.2.2.2 (RX12, 228, "min", 16) (by decide)) dX12_prefixOf_1 ?_
  obtain ⟨_, hg, h⟩ := zl_some h
  obtain ⟨v1, σ2, hv, h⟩ := zb_some h
  refine xcallVi (pc := 3) (As := [.ref (g.2.1 16)]) (rest := []) ⟨hx, hb, hml, hown, hts⟩ (c_X12_is l D c o g N hv) zc12 zV_X12_169 rfl zd_X12_is ⟨Nat.le_of_ble_eq_true rfl, Nat.le_of_ble_eq_true rfl⟩ hK hP hE hS hg hl.1 rfl (Nat.le_of_ble_eq_true rfl) ⟨Nat.zero_le _, Nat.zero_le _⟩ dX12_prefixOf_3 (fun H locs hP hS => ?_)
  refine lv_if_eq (pc := 6) (tgt := 13) hx hb dX12_prefixOf_6 (by decide) (fun c1 => ?_) (fun c1 => ?_)
  · rw [if_pos c1] at h
    refine lv_aload_n (pc := 13) hx hb dX12_prefixOf_13 rfl (lv_at hl 0 rfl) ?_
    refine va_ldcS (pc := 14) hx hb hown (hE.2.2.2.2.2 (RX12, 229, "max", 17) (by decide)) dX12_prefixOf_14 ?_
    obtain ⟨_, hg, h⟩ := zl_some h
    obtain ⟨v3, σ4, hv, h⟩ := zb_some h
    refine xcallVi (pc := 16) (As := [.ref (g.2.1 17)]) (rest := []) ⟨hx, hb, hml, hown, hts⟩ (c_X12_is l D c o g N hv) zc12 zV_X12_169 rfl zd_X12_is ⟨Nat.le_of_ble_eq_true rfl, Nat.le_of_ble_eq_true rfl⟩ hK hP hE hS hg hl.1 rfl (Nat.le_of_ble_eq_true rfl) ⟨Nat.zero_le _, Nat.zero_le _⟩ dX12_prefixOf_16 (fun H locs hP hS => ?_)
    refine lv_if_eq (pc := 19) (tgt := 26) hx hb dX12_prefixOf_19 (by decide) (fun c1 => ?_) (fun c1 => ?_)
    · rw [if_pos c1] at h
      refine lv_aload_n (pc := 26) hx hb dX12_prefixOf_26 rfl (lv_at hl 0 rfl) ?_
      refine va_ldcS (pc := 27) hx hb hown (hE.2.2.2.2.2 (RX12, 231, "hit", 18) (by decide)) dX12_prefixOf_27 ?_
      obtain ⟨_, hg, h⟩ := zl_some h
      obtain ⟨v5, σ6, hv, h⟩ := zb_some h
      refine xcallVi (pc := 29) (As := [.ref (g.2.1 18)]) (rest := []) ⟨hx, hb, hml, hown, hts⟩ (c_X12_is l D c o g N hv) zc12 zV_X12_169 rfl zd_X12_is ⟨Nat.le_of_ble_eq_true rfl, Nat.le_of_ble_eq_true rfl⟩ hK hP hE hS hg hl.1 rfl (Nat.le_of_ble_eq_true rfl) ⟨Nat.zero_le _, Nat.zero_le _⟩ dX12_prefixOf_29 (fun H locs hP hS => ?_)
      refine lv_if_eq (pc := 32) (tgt := 39) hx hb dX12_prefixOf_32 (by decide) (fun c1 => ?_) (fun c1 => ?_)
      · rw [if_pos c1] at h
        refine lv_aload_n (pc := 39) hx hb dX12_prefixOf_39 rfl (lv_at hl 0 rfl) ?_
        refine va_ldcS (pc := 40) hx hb hown (hE.2.2.2.2.2 (RX12, 233, "not", 19) (by decide)) dX12_prefixOf_40 ?_
        obtain ⟨_, hg, h⟩ := zl_some h
        obtain ⟨v7, σ8, hv, h⟩ := zb_some h
        refine xcallVi (pc := 42) (As := [.ref (g.2.1 19)]) (rest := []) ⟨hx, hb, hml, hown, hts⟩ (c_X12_is l D c o g N hv) zc12 zV_X12_169 rfl zd_X12_is ⟨Nat.le_of_ble_eq_true rfl, Nat.le_of_ble_eq_true rfl⟩ hK hP hE hS hg hl.1 rfl (Nat.le_of_ble_eq_true rfl) ⟨Nat.zero_le _, Nat.zero_le _⟩ dX12_prefixOf_42 (fun H locs hP hS => ?_)
        refine lv_if_eq (pc := 45) (tgt := 52) hx hb dX12_prefixOf_45 (by decide) (fun c1 => ?_) (fun c1 => ?_)
        · rw [if_pos c1] at h
          refine lv_aload_n (pc := 52) hx hb dX12_prefixOf_52 rfl (lv_at hl 0 rfl) ?_
          refine va_ldcS (pc := 53) hx hb hown (hE.2.2.2.2.2 (RX12, 235, "up", 20) (by decide)) dX12_prefixOf_53 ?_
          obtain ⟨_, hg, h⟩ := zl_some h
          obtain ⟨v9, σ10, hv, h⟩ := zb_some h
          refine xcallVi (pc := 55) (As := [.ref (g.2.1 20)]) (rest := []) ⟨hx, hb, hml, hown, hts⟩ (c_X12_is l D c o g N hv) zc12 zV_X12_169 rfl zd_X12_is ⟨Nat.le_of_ble_eq_true rfl, Nat.le_of_ble_eq_true rfl⟩ hK hP hE hS hg hl.1 rfl (Nat.le_of_ble_eq_true rfl) ⟨Nat.zero_le _, Nat.zero_le _⟩ dX12_prefixOf_55 (fun H locs hP hS => ?_)
          refine lv_if_eq (pc := 58) (tgt := 65) hx hb dX12_prefixOf_58 (by decide) (fun c1 => ?_) (fun c1 => ?_)
          · rw [if_pos c1] at h
            refine lv_aload_n (pc := 65) hx hb dX12_prefixOf_65 rfl (lv_at hl 0 rfl) ?_
            refine va_ldcS (pc := 66) hx hb hown (hE.2.2.2.2.2 (RX12, 237, "down", 21) (by decide)) dX12_prefixOf_66 ?_
            obtain ⟨_, hg, h⟩ := zl_some h
            obtain ⟨v11, σ12, hv, h⟩ := zb_some h
            refine xcallVi (pc := 68) (As := [.ref (g.2.1 21)]) (rest := []) ⟨hx, hb, hml, hown, hts⟩ (c_X12_is l D c o g N hv) zc12 zV_X12_169 rfl zd_X12_is ⟨Nat.le_of_ble_eq_true rfl, Nat.le_of_ble_eq_true rfl⟩ hK hP hE hS hg hl.1 rfl (Nat.le_of_ble_eq_true rfl) ⟨Nat.zero_le _, Nat.zero_le _⟩ dX12_prefixOf_68 (fun H locs hP hS => ?_)
            refine lv_if_eq (pc := 71) (tgt := 78) hx hb dX12_prefixOf_71 (by decide) (fun c1 => ?_) (fun c1 => ?_)
            · rw [if_pos c1] at h
              refine lv_iconst (pc := 78) (v := (-1)) hx hb dX12_prefixOf_78 (by decide) ?_
              exact xreti (pc := 79) hx hb hr hlocks hP hK hE hS h dX12_prefixOf_79
            · rw [if_neg c1] at h
              refine lv_iconst (pc := 74) (v := 5) hx hb dX12_prefixOf_74 (by decide) ?_
              refine lv_goto (pc := 75) (tgt := 79) hx hb dX12_prefixOf_75 (by decide) ?_
              exact xreti (pc := 79) hx hb hr hlocks hP hK hE hS h dX12_prefixOf_79
          · rw [if_neg c1] at h
            refine lv_iconst (pc := 61) (v := 4) hx hb dX12_prefixOf_61 (by decide) ?_
            refine lv_goto (pc := 62) (tgt := 79) hx hb dX12_prefixOf_62 (by decide) ?_
            exact xreti (pc := 79) hx hb hr hlocks hP hK hE hS h dX12_prefixOf_79
        · rw [if_neg c1] at h
          refine lv_iconst (pc := 48) (v := 3) hx hb dX12_prefixOf_48 (by decide) ?_
          refine lv_goto (pc := 49) (tgt := 79) hx hb dX12_prefixOf_49 (by decide) ?_
          exact xreti (pc := 79) hx hb hr hlocks hP hK hE hS h dX12_prefixOf_79
      · rw [if_neg c1] at h
        refine lv_iconst (pc := 35) (v := 2) hx hb dX12_prefixOf_35 (by decide) ?_
        refine lv_goto (pc := 36) (tgt := 79) hx hb dX12_prefixOf_36 (by decide) ?_
        exact xreti (pc := 79) hx hb hr hlocks hP hK hE hS h dX12_prefixOf_79
    · rw [if_neg c1] at h
      refine lv_iconst (pc := 22) (v := 1) hx hb dX12_prefixOf_22 (by decide) ?_
      refine lv_goto (pc := 23) (tgt := 79) hx hb dX12_prefixOf_23 (by decide) ?_
      exact xreti (pc := 79) hx hb hr hlocks hP hK hE hS h dX12_prefixOf_79
  · rw [if_neg c1] at h
    refine lv_iconst (pc := 9) (v := 0) hx hb dX12_prefixOf_9 (by decide) ?_
    refine lv_goto (pc := 10) (tgt := 79) hx hb dX12_prefixOf_10 (by decide) ?_
    exact xreti (pc := 79) hx hb hr hlocks hP hK hE hS h dX12_prefixOf_79
def f_X12_signOf (N : Nat) (x0 : Int32) (σ : zS) : Option (Int32 × zS) :=
  if x0 = 43 then
    (some (0, σ))
  else
    (if x0 = 45 then
      (some (1, σ))
    else
      (if x0 = 38 then
        (some (2, σ))
      else
        (if x0 = 42 then
          (some (3, σ))
        else
          (if x0 = 47 then
            (some (4, σ))
          else
            (if x0 = 37 then
              (some (5, σ))
            else
              (if x0 = 35 then
                (some (6, σ))
              else
                (some ((-1), σ))))))))
set_option maxHeartbeats 4000000 in
set_option maxRecDepth 100000 in
theorem c_X12_signOf (l : Launch) (D : va_G) (c : zC) (o : Nat) (g : zEp) (N : Nat) {x0 : Int32} {σ : zS} {ρ : Int32 × zS} (h : f_X12_signOf N x0 σ = some ρ) : Met l yX12_signOf zs_X12_signOf (zr 2) (va_Pc [.int x0] (zG D c o g σ)) (zQi D c o g ρ) 0 0 (zA o) := by
  refine zMetG (by decide) (Nat.le_of_ble_eq_true rfl) ?_
  intro p e s m below meth cd ⟨hx, hb, hr, hml, hown, hts, hlocks⟩ hP hK hE ls hl
  have hS : va_S (zA o) s.heap s.heap [] := va_S.rf
  have hl : lv_has ls 1 [(0, .int x0)] := hl
  rw [f_X12_signOf.eq_1] at h
  refine lv_iload_n (pc := 0) hx hb dX12_signOf_0 rfl (lv_at hl 0 rfl) ?_
  refine lv_bipush (pc := 1) (v := 43) hx hb dX12_signOf_1 (by decide) ?_
  refine lv_icmp_ne (pc := 3) (tgt := 10) hx hb dX12_signOf_3 (by decide) (fun c1 => ?_) (fun c1 => ?_)
  · rw [if_neg c1] at h
    refine lv_iload_n (pc := 10) hx hb dX12_signOf_10 rfl (lv_at hl 0 rfl) ?_
    refine lv_bipush (pc := 11) (v := 45) hx hb dX12_signOf_11 (by decide) ?_
    refine lv_icmp_ne (pc := 13) (tgt := 20) hx hb dX12_signOf_13 (by decide) (fun c1 => ?_) (fun c1 => ?_)
    · rw [if_neg c1] at h
      refine lv_iload_n (pc := 20) hx hb dX12_signOf_20 rfl (lv_at hl 0 rfl) ?_
      refine lv_bipush (pc := 21) (v := 38) hx hb dX12_signOf_21 (by decide) ?_
      refine lv_icmp_ne (pc := 23) (tgt := 30) hx hb dX12_signOf_23 (by decide) (fun c1 => ?_) (fun c1 => ?_)
      · rw [if_neg c1] at h
        refine lv_iload_n (pc := 30) hx hb dX12_signOf_30 rfl (lv_at hl 0 rfl) ?_
        refine lv_bipush (pc := 31) (v := 42) hx hb dX12_signOf_31 (by decide) ?_
        refine lv_icmp_ne (pc := 33) (tgt := 40) hx hb dX12_signOf_33 (by decide) (fun c1 => ?_) (fun c1 => ?_)
        · rw [if_neg c1] at h
          refine lv_iload_n (pc := 40) hx hb dX12_signOf_40 rfl (lv_at hl 0 rfl) ?_
          refine lv_bipush (pc := 41) (v := 47) hx hb dX12_signOf_41 (by decide) ?_
          refine lv_icmp_ne (pc := 43) (tgt := 50) hx hb dX12_signOf_43 (by decide) (fun c1 => ?_) (fun c1 => ?_)
          · rw [if_neg c1] at h
            refine lv_iload_n (pc := 50) hx hb dX12_signOf_50 rfl (lv_at hl 0 rfl) ?_
            refine lv_bipush (pc := 51) (v := 37) hx hb dX12_signOf_51 (by decide) ?_
            refine lv_icmp_ne (pc := 53) (tgt := 60) hx hb dX12_signOf_53 (by decide) (fun c1 => ?_) (fun c1 => ?_)
            · rw [if_neg c1] at h
              refine lv_iload_n (pc := 60) hx hb dX12_signOf_60 rfl (lv_at hl 0 rfl) ?_
              refine lv_bipush (pc := 61) (v := 35) hx hb dX12_signOf_61 (by decide) ?_
              refine lv_icmp_ne (pc := 63) (tgt := 71) hx hb dX12_signOf_63 (by decide) (fun c1 => ?_) (fun c1 => ?_)
              · rw [if_neg c1] at h
                refine lv_iconst (pc := 71) (v := (-1)) hx hb dX12_signOf_71 (by decide) ?_
                exact xreti (pc := 72) hx hb hr hlocks hP hK hE hS h dX12_signOf_72
              · rw [if_pos c1] at h
                refine lv_bipush (pc := 66) (v := 6) hx hb dX12_signOf_66 (by decide) ?_
                refine lv_goto (pc := 68) (tgt := 72) hx hb dX12_signOf_68 (by decide) ?_
                exact xreti (pc := 72) hx hb hr hlocks hP hK hE hS h dX12_signOf_72
            · rw [if_pos c1] at h
              refine lv_iconst (pc := 56) (v := 5) hx hb dX12_signOf_56 (by decide) ?_
              refine lv_goto (pc := 57) (tgt := 72) hx hb dX12_signOf_57 (by decide) ?_
              exact xreti (pc := 72) hx hb hr hlocks hP hK hE hS h dX12_signOf_72
          · rw [if_pos c1] at h
            refine lv_iconst (pc := 46) (v := 4) hx hb dX12_signOf_46 (by decide) ?_
            refine lv_goto (pc := 47) (tgt := 72) hx hb dX12_signOf_47 (by decide) ?_
            exact xreti (pc := 72) hx hb hr hlocks hP hK hE hS h dX12_signOf_72
        · rw [if_pos c1] at h
          refine lv_iconst (pc := 36) (v := 3) hx hb dX12_signOf_36 (by decide) ?_
          refine lv_goto (pc := 37) (tgt := 72) hx hb dX12_signOf_37 (by decide) ?_
          exact xreti (pc := 72) hx hb hr hlocks hP hK hE hS h dX12_signOf_72
      · rw [if_pos c1] at h
        refine lv_iconst (pc := 26) (v := 2) hx hb dX12_signOf_26 (by decide) ?_
        refine lv_goto (pc := 27) (tgt := 72) hx hb dX12_signOf_27 (by decide) ?_
        exact xreti (pc := 72) hx hb hr hlocks hP hK hE hS h dX12_signOf_72
    · rw [if_pos c1] at h
      refine lv_iconst (pc := 16) (v := 1) hx hb dX12_signOf_16 (by decide) ?_
      refine lv_goto (pc := 17) (tgt := 72) hx hb dX12_signOf_17 (by decide) ?_
      exact xreti (pc := 72) hx hb hr hlocks hP hK hE hS h dX12_signOf_72
  · rw [if_pos c1] at h
    refine lv_iconst (pc := 6) (v := 0) hx hb dX12_signOf_6 (by decide) ?_
    refine lv_goto (pc := 7) (tgt := 72) hx hb dX12_signOf_7 (by decide) ?_
    exact xreti (pc := 72) hx hb hr hlocks hP hK hE hS h dX12_signOf_72
def F_X12_wordSet_7 (N : Nat) (x0 : Nat) (x1 : Int32) (again7 : (Int32 × Int32 × zS) → Option (Int32 × zS)) : Int32 × Int32 × zS → Option (Int32 × zS)
  | (x2, x3, σ) =>
  zl (gI 12 10 x0 σ) fun v2 =>
  if v2 ≤ x3 then
    (some (x2, σ))
  else
    (zl (gR 12 6 x0 σ) fun v3 =>
    zl (aI 13 v3 x3 σ) fun v4 =>
    if x1 ≤ (v4 - 97) then
      (zl (gC 12 x0) fun _ => zb (f_X12_errs N x0 2 σ) fun v5 σ6 =>
      some (0, σ6))
    else
      (if (((x2 : Int32) >>> ((v4 - 97) &&& 31)) &&& 1) = 1 then
        (zl (gC 12 x0) fun _ => zb (f_X12_errs N x0 2 σ) fun v7 σ8 =>
        some (0, σ8))
      else
        (again7 (x2 ||| ((1 : Int32) <<< ((v4 - 97) &&& 31)), x3 + 1, σ))))
def f_X12_wordSet (N : Nat) (x0 : Nat) (x1 : Int32) (σ : zS) : Option (Int32 × zS) :=
  zl (gI 12 11 x0 σ) fun v1 =>
  zlp (F_X12_wordSet_7 N x0 x1) N (0, v1, σ)
set_option maxHeartbeats 4000000 in
set_option maxRecDepth 100000 in
theorem c_X12_wordSet (l : Launch) (D : va_G) (c : zC) (o : Nat) (g : zEp) (N : Nat) {x0 : Nat} {x1 : Int32} {σ : zS} {ρ : Int32 × zS} (h : f_X12_wordSet N x0 x1 σ = some ρ) : Met l yX12_wordSet zs_X12_wordSet (zr 6) (va_Pc [.ref (o + x0), .int x1] (zG D c o g σ)) (zQi D c o g ρ) 0 0 (zA o) := by
  refine zMetG (by decide) (Nat.le_of_ble_eq_true rfl) ?_
  intro p e s m below meth cd ⟨hx, hb, hr, hml, hown, hts, hlocks⟩ hP hK hE ls hl
  have hS : va_S (zA o) s.heap s.heap [] := va_S.rf
  have hl : lv_has ls 5 [(0, .ref (o + x0)), (1, .int x1)] := hl
  rw [f_X12_wordSet.eq_1] at h
  refine lv_iconst (pc := 0) (v := 0) hx hb dX12_wordSet_0 (by decide) ?_
  refine lv_istore_n (pc := 1) (lv' := [(2, .int 0), (0, .ref (o + x0)), (1, .int x1)]) hx hb dX12_wordSet_1 rfl hl (by decide) rfl (fun ls hl => ?_)
  refine lv_aload_n (pc := 2) hx hb dX12_wordSet_2 rfl (lv_at hl 1 rfl) ?_
  obtain ⟨v1, hv, h⟩ := zl_some h
  refine xgI (pc := 3) (j := 11) zc12 hx hb hts hown hK hP hv rfl zf_X12_120 dX12_wordSet_3 ?_
  refine lv_istore_n (pc := 6) (lv' := [(3, .int v1), (2, .int 0), (0, .ref (o + x0)), (1, .int x1)]) hx hb dX12_wordSet_6 rfl hl (by decide) rfl (fun ls hl => ?_)
  have L7_2 : ∀ (n : Nat) (t : Int32 × Int32 × zS), zlp (F_X12_wordSet_7 N x0 x1) n t = some ρ → ∀ (H : Heap) (locs : List Loc) (ls : Array Slot), zP D c o (zabs o (t.2.2)) H → va_S (zA o) s.heap H locs → lv_has ls 5 [(2, .int (t.1)), (3, .int (t.2.1)), (0, .ref (o + x0)), (1, .int x1)] → W p l e (zr 6) s m (([.ref (o + x0), .int x1] : List Value).toArray) below meth cd H locs 0 0 (MQ below (zQi D c o g ρ) (([.ref (o + x0), .int x1] : List Value).toArray) s 0 0 (zA o)) (F0 m 7 ls []) := by
    refine zlp_ind (fun ag2 ih2 t h H locs ls hP hS hl => ?_)
    obtain ⟨x2_2, x3_2, σ2⟩ := t
    have hP : zP D c o (zabs o σ2) H := hP
    have hl : lv_has ls 5 [(2, .int x2_2), (3, .int x3_2), (0, .ref (o + x0)), (1, .int x1)] := hl
    rw [F_X12_wordSet_7.eq_1] at h
    show W p l e (zr 6) s m (([.ref (o + x0), .int x1] : List Value).toArray) below meth cd H locs 0 0 (MQ below (zQi D c o g ρ) (([.ref (o + x0), .int x1] : List Value).toArray) s 0 0 (zA o)) (F0 m 7 ls [])
    refine lv_iload_n (pc := 7) hx hb dX12_wordSet_7 rfl (lv_at hl 1 rfl) ?_
    refine lv_aload_n (pc := 8) hx hb dX12_wordSet_8 rfl (lv_at hl 2 rfl) ?_
    obtain ⟨v3, hv, h⟩ := zl_some h
    refine xgI (pc := 9) (j := 10) zc12 hx hb hts hown hK hP hv rfl zf_X12_113 dX12_wordSet_9 ?_
    refine lv_icmp_ge (pc := 12) (tgt := 62) hx hb dX12_wordSet_12 (by decide) (fun c1 => ?_) (fun c1 => ?_)
    · rw [if_pos c1] at h
      refine lv_iload_n (pc := 62) hx hb dX12_wordSet_62 rfl (lv_at hl 0 rfl) ?_
      exact xreti (pc := 63) hx hb hr hlocks hP hK hE hS h dX12_wordSet_63
    · rw [if_neg c1] at h
      refine lv_aload_n (pc := 15) hx hb dX12_wordSet_15 rfl (lv_at hl 2 rfl) ?_
      obtain ⟨v4, hv, h⟩ := zl_some h
      refine xgR (pc := 16) (j := 6) zc12 hx hb hts hown hK hP hv rfl zf_X12_26 dX12_wordSet_16 ?_
      refine lv_iload_n (pc := 19) hx hb dX12_wordSet_19 rfl (lv_at hl 1 rfl) ?_
      obtain ⟨v5, hv, h⟩ := zl_some h
      refine xaB (pc := 20) hx hb hK hP hv dX12_wordSet_20 ?_
      refine lv_bipush (pc := 21) (v := 97) hx hb dX12_wordSet_21 (by decide) ?_
      refine lv_isub (pc := 23) hx hb dX12_wordSet_23 ?_
      refine lv_istore (pc := 24) (lv' := [(4, .int (v5 - 97)), (2, .int x2_2), (3, .int x3_2), (0, .ref (o + x0)), (1, .int x1)]) hx hb dX12_wordSet_24 hl (by decide) rfl (fun ls hl => ?_)
      refine lv_iload (pc := 26) hx hb dX12_wordSet_26 (lv_at hl 0 rfl) ?_
      refine lv_iload_n (pc := 28) hx hb dX12_wordSet_28 rfl (lv_at hl 4 rfl) ?_
      refine lv_icmp_ge (pc := 29) (tgt := 42) hx hb dX12_wordSet_29 (by decide) (fun c1 => ?_) (fun c1 => ?_)
      · rw [if_pos c1] at h
        refine lv_aload_n (pc := 42) hx hb dX12_wordSet_42 rfl (lv_at hl 3 rfl) ?_
        refine lv_iconst (pc := 43) (v := 2) hx hb dX12_wordSet_43 (by decide) ?_
        obtain ⟨_, hg, h⟩ := zl_some h
        obtain ⟨v6, σ7, hv, h⟩ := zb_some h
        refine xcallVv (pc := 44) (As := [.int 2]) (rest := []) ⟨hx, hb, hml, hown, hts⟩ (c_X12_errs l D c o g N hv) zc12 zV_X12_176 rfl zd_X12_errs ⟨Nat.le_of_ble_eq_true rfl, Nat.le_of_ble_eq_true rfl⟩ hK hP hE hS hg hl.1 rfl (Nat.le_of_ble_eq_true rfl) ⟨Nat.zero_le _, Nat.zero_le _⟩ dX12_wordSet_44 (fun H locs hP hS => ?_)
        refine lv_iconst (pc := 47) (v := 0) hx hb dX12_wordSet_47 (by decide) ?_
        exact xreti (pc := 48) hx hb hr hlocks hP hK hE hS h dX12_wordSet_48
      · rw [if_neg c1] at h
        refine lv_iload_n (pc := 32) hx hb dX12_wordSet_32 rfl (lv_at hl 1 rfl) ?_
        refine lv_iload (pc := 33) hx hb dX12_wordSet_33 (lv_at hl 0 rfl) ?_
        refine lv_ishr (pc := 35) hx hb dX12_wordSet_35 ?_
        refine lv_iconst (pc := 36) (v := 1) hx hb dX12_wordSet_36 (by decide) ?_
        refine lv_iand (pc := 37) hx hb dX12_wordSet_37 ?_
        refine lv_iconst (pc := 38) (v := 1) hx hb dX12_wordSet_38 (by decide) ?_
        refine lv_icmp_ne (pc := 39) (tgt := 49) hx hb dX12_wordSet_39 (by decide) (fun c1 => ?_) (fun c1 => ?_)
        · rw [if_neg c1] at h
          refine lv_iload_n (pc := 49) hx hb dX12_wordSet_49 rfl (lv_at hl 1 rfl) ?_
          refine lv_iconst (pc := 50) (v := 1) hx hb dX12_wordSet_50 (by decide) ?_
          refine lv_iload (pc := 51) hx hb dX12_wordSet_51 (lv_at hl 0 rfl) ?_
          refine lv_ishl (pc := 53) hx hb dX12_wordSet_53 ?_
          refine lv_ior (pc := 54) hx hb dX12_wordSet_54 ?_
          refine lv_istore_n (pc := 55) (lv' := [(2, .int (x2_2 ||| ((1 : Int32) <<< ((v5 - 97) &&& 31)))), (4, .int (v5 - 97)), (3, .int x3_2), (0, .ref (o + x0)), (1, .int x1)]) hx hb dX12_wordSet_55 rfl hl (by decide) rfl (fun ls hl => ?_)
          refine lv_iinc (pc := 56) (v := x3_2 + 1) (lv' := [(3, .int (x3_2 + 1)), (2, .int (x2_2 ||| ((1 : Int32) <<< ((v5 - 97) &&& 31)))), (4, .int (v5 - 97)), (0, .ref (o + x0)), (1, .int x1)]) hx hb dX12_wordSet_56 hl (k := 2) rfl rfl (by decide) rfl (fun ls hl => ?_)
          refine lv_goto (pc := 59) (tgt := 7) hx hb dX12_wordSet_59 (by decide) ?_
          exact ih2 (x2_2 ||| ((1 : Int32) <<< ((v5 - 97) &&& 31)), x3_2 + 1, σ2) h _ _ ls hP hS (lv_sub hl [1, 0, 3, 4] rfl)
        · rw [if_pos c1] at h
          refine lv_aload_n (pc := 42) hx hb dX12_wordSet_42 rfl (lv_at hl 3 rfl) ?_
          refine lv_iconst (pc := 43) (v := 2) hx hb dX12_wordSet_43 (by decide) ?_
          obtain ⟨_, hg, h⟩ := zl_some h
          obtain ⟨v8, σ9, hv, h⟩ := zb_some h
          refine xcallVv (pc := 44) (As := [.int 2]) (rest := []) ⟨hx, hb, hml, hown, hts⟩ (c_X12_errs l D c o g N hv) zc12 zV_X12_176 rfl zd_X12_errs ⟨Nat.le_of_ble_eq_true rfl, Nat.le_of_ble_eq_true rfl⟩ hK hP hE hS hg hl.1 rfl (Nat.le_of_ble_eq_true rfl) ⟨Nat.zero_le _, Nat.zero_le _⟩ dX12_wordSet_44 (fun H locs hP hS => ?_)
          refine lv_iconst (pc := 47) (v := 0) hx hb dX12_wordSet_47 (by decide) ?_
          exact xreti (pc := 48) hx hb hr hlocks hP hK hE hS h dX12_wordSet_48
  exact L7_2 N (0, v1, σ) h _ _ ls hP hS (lv_sub hl [1, 0, 2, 3] rfl)
def J_X12_readsSet_53 (N : Nat) (x0 : Nat) (x2 : Int32) (σ : zS) : Option (Unit × zS) :=
  zl (gC 12 x0) fun _ => zb (f_X12_good N x0 σ) fun v4 σ5 =>
  if v4 = 0 then
    (some ((), σ5))
  else
    (zl (gR 12 16 x0 σ5) fun v6 =>
    zl (gI 12 23 x0 σ5) fun v7 =>
    zl (sI 16 v6 ((1024 * (v7 - 1)) + x2) 1 σ5) fun σ8 =>
    some ((), σ8))
def f_X12_readsSet (N : Nat) (x0 : Nat) (x1 : Int32) (σ : zS) : Option (Unit × zS) :=
  zl (gI 12 12 x0 σ) fun v1 =>
  if v1 = 2 then
    (zl (gC 12 x0) fun _ => zb (f_X12_number N x0 0 0 σ) fun v2 σ3 =>
    J_X12_readsSet_53 N x0 v2 σ3)
  else
    (zl (gI 12 12 x0 σ) fun v9 =>
    if v9 = 1 then
      (zl (gC 12 x0) fun _ => zb (f_X12_wordSet N x0 x1 σ) fun v10 σ11 =>
      zl (gC 12 x0) fun _ => zb (f_X12_good N x0 σ11) fun v12 σ13 =>
      if v12 = 0 then
        (J_X12_readsSet_53 N x0 v10 σ13)
      else
        (zl (gC 12 x0) fun _ => zb (f_X12_advance N x0 σ13) fun v14 σ15 =>
        J_X12_readsSet_53 N x0 v10 σ15))
    else
      (zl (gC 12 x0) fun _ => zb (f_X12_errs N x0 1 σ) fun v16 σ17 =>
      J_X12_readsSet_53 N x0 0 σ17))
set_option maxHeartbeats 4000000 in
set_option maxRecDepth 100000 in
theorem c_X12_readsSet (l : Launch) (D : va_G) (c : zC) (o : Nat) (g : zEp) (N : Nat) {x0 : Nat} {x1 : Int32} {σ : zS} {ρ : Unit × zS} (h : f_X12_readsSet N x0 x1 σ = some ρ) : Met l yX12_readsSet zs_X12_readsSet (zr 8) (va_Pc [.ref (o + x0), .int x1] (zG D c o g σ)) (zQu D c o g ρ) 0 0 (zA o) := by
  refine zMetG (by decide) (Nat.le_of_ble_eq_true rfl) ?_
  intro p e s m below meth cd ⟨hx, hb, hr, hml, hown, hts, hlocks⟩ hP hK hE ls hl
  have hS : va_S (zA o) s.heap s.heap [] := va_S.rf
  have hl : lv_has ls 3 [(0, .ref (o + x0)), (1, .int x1)] := hl
  rw [f_X12_readsSet.eq_1] at h
  refine lv_iconst (pc := 0) (v := 0) hx hb dX12_readsSet_0 (by decide) ?_
  refine lv_istore_n (pc := 1) (lv' := [(2, .int 0), (0, .ref (o + x0)), (1, .int x1)]) hx hb dX12_readsSet_1 rfl hl (by decide) rfl (fun ls hl => ?_)
  refine lv_aload_n (pc := 2) hx hb dX12_readsSet_2 rfl (lv_at hl 1 rfl) ?_
  obtain ⟨v1, hv, h⟩ := zl_some h
  refine xgI (pc := 3) (j := 12) zc12 hx hb hts hown hK hP hv rfl zf_X12_123 dX12_readsSet_3 ?_
  refine lv_iconst (pc := 6) (v := 2) hx hb dX12_readsSet_6 (by decide) ?_
  have hj53_2 : ∀ (x2_2 : Int32) (σ2 : zS), J_X12_readsSet_53 N x0 x2_2 σ2 = some ρ → ∀ (H : Heap) (locs : List Loc) (ls : Array Slot), zP D c o (zabs o σ2) H → va_S (zA o) s.heap H locs → lv_has ls 3 [(2, .int x2_2), (0, .ref (o + x0))] → W p l e (zr 8) s m (([.ref (o + x0), .int x1] : List Value).toArray) below meth cd H locs 0 0 (MQ below (zQu D c o g ρ) (([.ref (o + x0), .int x1] : List Value).toArray) s 0 0 (zA o)) (F0 m 53 ls []) := by
    intro x2_2 σ2 h H locs ls hP hS hl
    rw [J_X12_readsSet_53.eq_1] at h
    refine lv_aload_n (pc := 53) hx hb dX12_readsSet_53 rfl (lv_at hl 1 rfl) ?_
    obtain ⟨_, hg, h⟩ := zl_some h
    obtain ⟨v3, σ4, hv, h⟩ := zb_some h
    refine xcallVi (pc := 54) (As := []) (rest := []) ⟨hx, hb, hml, hown, hts⟩ (c_X12_good l D c o g N hv) zc12 zV_X12_157 rfl zd_X12_good ⟨Nat.le_of_ble_eq_true rfl, Nat.le_of_ble_eq_true rfl⟩ hK hP hE hS hg hl.1 rfl (Nat.le_of_ble_eq_true rfl) ⟨Nat.zero_le _, Nat.zero_le _⟩ dX12_readsSet_54 (fun H locs hP hS => ?_)
    refine lv_if_eq (pc := 57) (tgt := 78) hx hb dX12_readsSet_57 (by decide) (fun c1 => ?_) (fun c1 => ?_)
    · rw [if_pos c1] at h
      exact xretv (pc := 78) hx hb hr hlocks hP hK hE hS h dX12_readsSet_78
    · rw [if_neg c1] at h
      refine lv_aload_n (pc := 60) hx hb dX12_readsSet_60 rfl (lv_at hl 1 rfl) ?_
      obtain ⟨v5, hv, h⟩ := zl_some h
      refine xgR (pc := 61) (j := 16) zc12 hx hb hts hown hK hP hv rfl zf_X12_37 dX12_readsSet_61 ?_
      refine lv_sipush (pc := 64) (v := 1024) hx hb dX12_readsSet_64 (by decide) ?_
      refine lv_aload_n (pc := 67) hx hb dX12_readsSet_67 rfl (lv_at hl 1 rfl) ?_
      obtain ⟨v6, hv, h⟩ := zl_some h
      refine xgI (pc := 68) (j := 23) zc12 hx hb hts hown hK hP hv rfl zf_X12_206 dX12_readsSet_68 ?_
      refine lv_iconst (pc := 71) (v := 1) hx hb dX12_readsSet_71 (by decide) ?_
      refine lv_isub (pc := 72) hx hb dX12_readsSet_72 ?_
      refine lv_imul (pc := 73) hx hb dX12_readsSet_73 ?_
      refine lv_iload_n (pc := 74) hx hb dX12_readsSet_74 rfl (lv_at hl 0 rfl) ?_
      refine lv_iadd (pc := 75) hx hb dX12_readsSet_75 ?_
      refine lv_iconst (pc := 76) (v := 1) hx hb dX12_readsSet_76 (by decide) ?_
      obtain ⟨σ7, hv, h⟩ := zl_some h
      refine xsZ (pc := 77) hx hb hK hP hS hv dX12_readsSet_77 (fun H locs hP hS => ?_)
      exact xretv (pc := 78) hx hb hr hlocks hP hK hE hS h dX12_readsSet_78
  refine lv_icmp_ne (pc := 7) (tgt := 20) hx hb dX12_readsSet_7 (by decide) (fun c1 => ?_) (fun c1 => ?_)
  · rw [if_neg c1] at h
    refine lv_aload_n (pc := 20) hx hb dX12_readsSet_20 rfl (lv_at hl 1 rfl) ?_
    obtain ⟨v8, hv, h⟩ := zl_some h
    refine xgI (pc := 21) (j := 12) zc12 hx hb hts hown hK hP hv rfl zf_X12_123 dX12_readsSet_21 ?_
    refine lv_iconst (pc := 24) (v := 1) hx hb dX12_readsSet_24 (by decide) ?_
    refine lv_icmp_ne (pc := 25) (tgt := 48) hx hb dX12_readsSet_25 (by decide) (fun c1 => ?_) (fun c1 => ?_)
    · rw [if_neg c1] at h
      refine lv_aload_n (pc := 48) hx hb dX12_readsSet_48 rfl (lv_at hl 1 rfl) ?_
      refine lv_iconst (pc := 49) (v := 1) hx hb dX12_readsSet_49 (by decide) ?_
      obtain ⟨_, hg, h⟩ := zl_some h
      obtain ⟨v9, σ10, hv, h⟩ := zb_some h
      refine xcallVv (pc := 50) (As := [.int 1]) (rest := []) ⟨hx, hb, hml, hown, hts⟩ (c_X12_errs l D c o g N hv) zc12 zV_X12_176 rfl zd_X12_errs ⟨Nat.le_of_ble_eq_true rfl, Nat.le_of_ble_eq_true rfl⟩ hK hP hE hS hg hl.1 rfl (Nat.le_of_ble_eq_true rfl) ⟨Nat.zero_le _, Nat.zero_le _⟩ dX12_readsSet_50 (fun H locs hP hS => ?_)
      exact hj53_2 (0) σ10 h _ _ ls hP hS (lv_sub hl [0, 1] rfl)
    · rw [if_pos c1] at h
      refine lv_aload_n (pc := 28) hx hb dX12_readsSet_28 rfl (lv_at hl 1 rfl) ?_
      refine lv_iload_n (pc := 29) hx hb dX12_readsSet_29 rfl (lv_at hl 2 rfl) ?_
      obtain ⟨_, hg, h⟩ := zl_some h
      obtain ⟨v11, σ12, hv, h⟩ := zb_some h
      refine xcallVi (pc := 30) (As := [.int x1]) (rest := []) ⟨hx, hb, hml, hown, hts⟩ (c_X12_wordSet l D c o g N hv) zc12 zV_X12_242 rfl zd_X12_wordSet ⟨Nat.le_of_ble_eq_true rfl, Nat.le_of_ble_eq_true rfl⟩ hK hP hE hS hg hl.1 rfl (Nat.le_of_ble_eq_true rfl) ⟨Nat.zero_le _, Nat.zero_le _⟩ dX12_readsSet_30 (fun H locs hP hS => ?_)
      refine lv_istore_n (pc := 33) (lv' := [(2, .int v11), (0, .ref (o + x0)), (1, .int x1)]) hx hb dX12_readsSet_33 rfl hl (by decide) rfl (fun ls hl => ?_)
      refine lv_aload_n (pc := 34) hx hb dX12_readsSet_34 rfl (lv_at hl 1 rfl) ?_
      obtain ⟨_, hg, h⟩ := zl_some h
      obtain ⟨v13, σ14, hv, h⟩ := zb_some h
      refine xcallVi (pc := 35) (As := []) (rest := []) ⟨hx, hb, hml, hown, hts⟩ (c_X12_good l D c o g N hv) zc12 zV_X12_157 rfl zd_X12_good ⟨Nat.le_of_ble_eq_true rfl, Nat.le_of_ble_eq_true rfl⟩ hK hP hE hS hg hl.1 rfl (Nat.le_of_ble_eq_true rfl) ⟨Nat.zero_le _, Nat.zero_le _⟩ dX12_readsSet_35 (fun H locs hP hS => ?_)
      refine lv_if_eq (pc := 38) (tgt := 53) hx hb dX12_readsSet_38 (by decide) (fun c1 => ?_) (fun c1 => ?_)
      · rw [if_pos c1] at h
        exact hj53_2 (v11) σ14 h _ _ ls hP hS (lv_sub hl [0, 1] rfl)
      · rw [if_neg c1] at h
        refine lv_aload_n (pc := 41) hx hb dX12_readsSet_41 rfl (lv_at hl 1 rfl) ?_
        obtain ⟨_, hg, h⟩ := zl_some h
        obtain ⟨v15, σ16, hv, h⟩ := zb_some h
        refine xcallVv (pc := 42) (As := []) (rest := []) ⟨hx, hb, hml, hown, hts⟩ (c_X12_advance l D c o g N hv) zc12 zV_X12_154 rfl zd_X12_advance ⟨Nat.le_of_ble_eq_true rfl, Nat.le_of_ble_eq_true rfl⟩ hK hP hE hS hg hl.1 rfl (Nat.le_of_ble_eq_true rfl) ⟨Nat.zero_le _, Nat.zero_le _⟩ dX12_readsSet_42 (fun H locs hP hS => ?_)
        refine lv_goto (pc := 45) (tgt := 53) hx hb dX12_readsSet_45 (by decide) ?_
        exact hj53_2 (v11) σ16 h _ _ ls hP hS (lv_sub hl [0, 1] rfl)
  · rw [if_pos c1] at h
    refine lv_aload_n (pc := 10) hx hb dX12_readsSet_10 rfl (lv_at hl 1 rfl) ?_
    refine lv_iconst (pc := 11) (v := 0) hx hb dX12_readsSet_11 (by decide) ?_
    refine lv_iconst (pc := 12) (v := 0) hx hb dX12_readsSet_12 (by decide) ?_
    obtain ⟨_, hg, h⟩ := zl_some h
    obtain ⟨v17, σ18, hv, h⟩ := zb_some h
    refine xcallVi (pc := 13) (As := [.int 0, .int 0]) (rest := []) ⟨hx, hb, hml, hown, hts⟩ (c_X12_number l D c o g N hv) zc12 zV_X12_239 rfl zd_X12_number ⟨Nat.le_of_ble_eq_true rfl, Nat.le_of_ble_eq_true rfl⟩ hK hP hE hS hg hl.1 rfl (Nat.le_of_ble_eq_true rfl) ⟨Nat.zero_le _, Nat.zero_le _⟩ dX12_readsSet_13 (fun H locs hP hS => ?_)
    refine lv_istore_n (pc := 16) (lv' := [(2, .int v17), (0, .ref (o + x0)), (1, .int x1)]) hx hb dX12_readsSet_16 rfl hl (by decide) rfl (fun ls hl => ?_)
    refine lv_goto (pc := 17) (tgt := 53) hx hb dX12_readsSet_17 (by decide) ?_
    exact hj53_2 (v17) σ18 h _ _ ls hP hS (lv_sub hl [0, 1] rfl)
def F_X12_pushesEmpty_2 (N : Nat) (x0 : Nat) (again2 : (Int32 × zS) → Option (Unit × zS)) : Int32 × zS → Option (Unit × zS)
  | (x1, σ) =>
  if 1024 ≤ x1 then
    (zl (gI 12 23 x0 σ) fun v1 =>
    zl (pI 12 23 x0 (v1 + 1) σ) fun σ2 =>
    some ((), σ2))
  else
    (zl (gR 12 16 x0 σ) fun v3 =>
    zl (gI 12 23 x0 σ) fun v4 =>
    zl (sI 16 v3 ((1024 * v4) + x1) 0 σ) fun σ5 =>
    again2 (x1 + 1, σ5))
def f_X12_pushesEmpty (N : Nat) (x0 : Nat) (σ : zS) : Option (Unit × zS) :=
  zlp (F_X12_pushesEmpty_2 N x0) N (0, σ)
set_option maxHeartbeats 4000000 in
set_option maxRecDepth 100000 in
theorem c_X12_pushesEmpty (l : Launch) (D : va_G) (c : zC) (o : Nat) (g : zEp) (N : Nat) {x0 : Nat} {σ : zS} {ρ : Unit × zS} (h : f_X12_pushesEmpty N x0 σ = some ρ) : Met l yX12_pushesEmpty zs_X12_pushesEmpty (zr 2) (va_Pc [.ref (o + x0)] (zG D c o g σ)) (zQu D c o g ρ) 0 0 (zA o) := by
  refine zMetG (by decide) (Nat.le_of_ble_eq_true rfl) ?_
  intro p e s m below meth cd ⟨hx, hb, hr, hml, hown, hts, hlocks⟩ hP hK hE ls hl
  have hS : va_S (zA o) s.heap s.heap [] := va_S.rf
  have hl : lv_has ls 2 [(0, .ref (o + x0))] := hl
  rw [f_X12_pushesEmpty.eq_1] at h
  refine lv_iconst (pc := 0) (v := 0) hx hb dX12_pushesEmpty_0 (by decide) ?_
  refine lv_istore_n (pc := 1) (lv' := [(1, .int 0), (0, .ref (o + x0))]) hx hb dX12_pushesEmpty_1 rfl hl (by decide) rfl (fun ls hl => ?_)
  have L2_1 : ∀ (n : Nat) (t : Int32 × zS), zlp (F_X12_pushesEmpty_2 N x0) n t = some ρ → ∀ (H : Heap) (locs : List Loc) (ls : Array Slot), zP D c o (zabs o (t.2)) H → va_S (zA o) s.heap H locs → lv_has ls 2 [(1, .int (t.1)), (0, .ref (o + x0))] → W p l e (zr 2) s m (([.ref (o + x0)] : List Value).toArray) below meth cd H locs 0 0 (MQ below (zQu D c o g ρ) (([.ref (o + x0)] : List Value).toArray) s 0 0 (zA o)) (F0 m 2 ls []) := by
    refine zlp_ind (fun ag1 ih1 t h H locs ls hP hS hl => ?_)
    obtain ⟨x1_1, σ1⟩ := t
    have hP : zP D c o (zabs o σ1) H := hP
    have hl : lv_has ls 2 [(1, .int x1_1), (0, .ref (o + x0))] := hl
    rw [F_X12_pushesEmpty_2.eq_1] at h
    show W p l e (zr 2) s m (([.ref (o + x0)] : List Value).toArray) below meth cd H locs 0 0 (MQ below (zQu D c o g ρ) (([.ref (o + x0)] : List Value).toArray) s 0 0 (zA o)) (F0 m 2 ls [])
    refine lv_iload_n (pc := 2) hx hb dX12_pushesEmpty_2 rfl (lv_at hl 0 rfl) ?_
    refine lv_sipush (pc := 3) (v := 1024) hx hb dX12_pushesEmpty_3 (by decide) ?_
    refine lv_icmp_ge (pc := 6) (tgt := 31) hx hb dX12_pushesEmpty_6 (by decide) (fun c1 => ?_) (fun c1 => ?_)
    · rw [if_pos c1] at h
      refine lv_aload_n (pc := 31) hx hb dX12_pushesEmpty_31 rfl (lv_at hl 1 rfl) ?_
      refine lv_dup (pc := 32) hx hb dX12_pushesEmpty_32 rfl ?_
      obtain ⟨v2, hv, h⟩ := zl_some h
      refine xgI (pc := 33) (j := 23) zc12 hx hb hts hown hK hP hv rfl zf_X12_206 dX12_pushesEmpty_33 ?_
      refine lv_iconst (pc := 36) (v := 1) hx hb dX12_pushesEmpty_36 (by decide) ?_
      refine lv_iadd (pc := 37) hx hb dX12_pushesEmpty_37 ?_
      obtain ⟨σ3, hv, h⟩ := zl_some h
      refine xpI (pc := 38) (j := 23) zc12 hx hb hts hown hK hP hS hv rfl rfl rfl zf_X12_206 dX12_pushesEmpty_38 (fun H locs hP hS => ?_)
      exact xretv (pc := 41) hx hb hr hlocks hP hK hE hS h dX12_pushesEmpty_41
    · rw [if_neg c1] at h
      refine lv_aload_n (pc := 9) hx hb dX12_pushesEmpty_9 rfl (lv_at hl 1 rfl) ?_
      obtain ⟨v4, hv, h⟩ := zl_some h
      refine xgR (pc := 10) (j := 16) zc12 hx hb hts hown hK hP hv rfl zf_X12_37 dX12_pushesEmpty_10 ?_
      refine lv_sipush (pc := 13) (v := 1024) hx hb dX12_pushesEmpty_13 (by decide) ?_
      refine lv_aload_n (pc := 16) hx hb dX12_pushesEmpty_16 rfl (lv_at hl 1 rfl) ?_
      obtain ⟨v5, hv, h⟩ := zl_some h
      refine xgI (pc := 17) (j := 23) zc12 hx hb hts hown hK hP hv rfl zf_X12_206 dX12_pushesEmpty_17 ?_
      refine lv_imul (pc := 20) hx hb dX12_pushesEmpty_20 ?_
      refine lv_iload_n (pc := 21) hx hb dX12_pushesEmpty_21 rfl (lv_at hl 0 rfl) ?_
      refine lv_iadd (pc := 22) hx hb dX12_pushesEmpty_22 ?_
      refine lv_iconst (pc := 23) (v := 0) hx hb dX12_pushesEmpty_23 (by decide) ?_
      obtain ⟨σ6, hv, h⟩ := zl_some h
      refine xsZ (pc := 24) hx hb hK hP hS hv dX12_pushesEmpty_24 (fun H locs hP hS => ?_)
      refine lv_iinc (pc := 25) (v := x1_1 + 1) (lv' := [(1, .int (x1_1 + 1)), (0, .ref (o + x0))]) hx hb dX12_pushesEmpty_25 hl (k := 0) rfl rfl (by decide) rfl (fun ls hl => ?_)
      refine lv_goto (pc := 28) (tgt := 2) hx hb dX12_pushesEmpty_28 (by decide) ?_
      exact ih1 (x1_1 + 1, σ6) h _ _ ls hP hS (lv_sub hl [0, 1] rfl)
  exact L2_1 N (0, σ) h _ _ ls hP hS (lv_sub hl [0, 1] rfl)
def F_X12_readsSets_22 (N : Nat) (x0 : Nat) (x1 : Int32) (again22 : zS → Option (Unit × zS)) : zS → Option (Unit × zS)
  | σ =>
  zl (gC 12 x0) fun _ => zb (f_X12_good N x0 σ) fun v10 σ11 =>
  if v10 = 0 then
    (zl (gC 12 x0) fun _ => zb (f_X12_needsSign N x0 125 σ11) fun v12 σ13 =>
    some ((), σ13))
  else
    (zl (gI 12 12 x0 σ11) fun v14 =>
    if v14 = 44 then
      (zl (gC 12 x0) fun _ => zb (f_X12_advance N x0 σ11) fun v15 σ16 =>
      zl (gC 12 x0) fun _ => zb (f_X12_readsSet N x0 x1 σ16) fun v17 σ18 =>
      again22 (σ18))
    else
      (zl (gC 12 x0) fun _ => zb (f_X12_needsSign N x0 125 σ11) fun v19 σ20 =>
      some ((), σ20)))
def f_X12_readsSets (N : Nat) (x0 : Nat) (x1 : Int32) (σ : zS) : Option (Unit × zS) :=
  zl (gC 12 x0) fun _ => zb (f_X12_advance N x0 σ) fun v1 σ2 =>
  zl (gC 12 x0) fun _ => zb (f_X12_pushesEmpty N x0 σ2) fun v3 σ4 =>
  zl (gI 12 12 x0 σ4) fun v5 =>
  if v5 = 125 then
    (zl (gC 12 x0) fun _ => zb (f_X12_needsSign N x0 125 σ4) fun v6 σ7 =>
    some ((), σ7))
  else
    (zl (gC 12 x0) fun _ => zb (f_X12_readsSet N x0 x1 σ4) fun v8 σ9 =>
    zlp (F_X12_readsSets_22 N x0 x1) N σ9)
set_option maxHeartbeats 4000000 in
set_option maxRecDepth 100000 in
theorem c_X12_readsSets (l : Launch) (D : va_G) (c : zC) (o : Nat) (g : zEp) (N : Nat) {x0 : Nat} {x1 : Int32} {σ : zS} {ρ : Unit × zS} (h : f_X12_readsSets N x0 x1 σ = some ρ) : Met l yX12_readsSets zs_X12_readsSets (zr 10) (va_Pc [.ref (o + x0), .int x1] (zG D c o g σ)) (zQu D c o g ρ) 0 0 (zA o) := by
  refine zMetG (by decide) (Nat.le_of_ble_eq_true rfl) ?_
  intro p e s m below meth cd ⟨hx, hb, hr, hml, hown, hts, hlocks⟩ hP hK hE ls hl
  have hS : va_S (zA o) s.heap s.heap [] := va_S.rf
  have hl : lv_has ls 2 [(0, .ref (o + x0)), (1, .int x1)] := hl
  rw [f_X12_readsSets.eq_1] at h
  refine lv_aload_n (pc := 0) hx hb dX12_readsSets_0 rfl (lv_at hl 0 rfl) ?_
  obtain ⟨_, hg, h⟩ := zl_some h
  obtain ⟨v1, σ2, hv, h⟩ := zb_some h
  refine xcallVv (pc := 1) (As := []) (rest := []) ⟨hx, hb, hml, hown, hts⟩ (c_X12_advance l D c o g N hv) zc12 zV_X12_154 rfl zd_X12_advance ⟨Nat.le_of_ble_eq_true rfl, Nat.le_of_ble_eq_true rfl⟩ hK hP hE hS hg hl.1 rfl (Nat.le_of_ble_eq_true rfl) ⟨Nat.zero_le _, Nat.zero_le _⟩ dX12_readsSets_1 (fun H locs hP hS => ?_)
  refine lv_aload_n (pc := 4) hx hb dX12_readsSets_4 rfl (lv_at hl 0 rfl) ?_
  obtain ⟨_, hg, h⟩ := zl_some h
  obtain ⟨v3, σ4, hv, h⟩ := zb_some h
  refine xcallVv (pc := 5) (As := []) (rest := []) ⟨hx, hb, hml, hown, hts⟩ (c_X12_pushesEmpty l D c o g N hv) zc12 zV_X12_245 rfl zd_X12_pushesEmpty ⟨Nat.le_of_ble_eq_true rfl, Nat.le_of_ble_eq_true rfl⟩ hK hP hE hS hg hl.1 rfl (Nat.le_of_ble_eq_true rfl) ⟨Nat.zero_le _, Nat.zero_le _⟩ dX12_readsSets_5 (fun H locs hP hS => ?_)
  refine lv_aload_n (pc := 8) hx hb dX12_readsSets_8 rfl (lv_at hl 0 rfl) ?_
  obtain ⟨v5, hv, h⟩ := zl_some h
  refine xgI (pc := 9) (j := 12) zc12 hx hb hts hown hK hP hv rfl zf_X12_123 dX12_readsSets_9 ?_
  refine lv_bipush (pc := 12) (v := 125) hx hb dX12_readsSets_12 (by decide) ?_
  refine lv_icmp_eq (pc := 14) (tgt := 50) hx hb dX12_readsSets_14 (by decide) (fun c1 => ?_) (fun c1 => ?_)
  · rw [if_pos c1] at h
    refine lv_aload_n (pc := 50) hx hb dX12_readsSets_50 rfl (lv_at hl 0 rfl) ?_
    refine lv_bipush (pc := 51) (v := 125) hx hb dX12_readsSets_51 (by decide) ?_
    obtain ⟨_, hg, h⟩ := zl_some h
    obtain ⟨v6, σ7, hv, h⟩ := zb_some h
    refine xcallVv (pc := 53) (As := [.int 125]) (rest := []) ⟨hx, hb, hml, hown, hts⟩ (c_X12_needsSign l D c o g N hv) zc12 zV_X12_251 rfl zd_X12_needsSign ⟨Nat.le_of_ble_eq_true rfl, Nat.le_of_ble_eq_true rfl⟩ hK hP hE hS hg hl.1 rfl (Nat.le_of_ble_eq_true rfl) ⟨Nat.zero_le _, Nat.zero_le _⟩ dX12_readsSets_53 (fun H locs hP hS => ?_)
    exact xretv (pc := 56) hx hb hr hlocks hP hK hE hS h dX12_readsSets_56
  · rw [if_neg c1] at h
    refine lv_aload_n (pc := 17) hx hb dX12_readsSets_17 rfl (lv_at hl 0 rfl) ?_
    refine lv_iload_n (pc := 18) hx hb dX12_readsSets_18 rfl (lv_at hl 1 rfl) ?_
    obtain ⟨_, hg, h⟩ := zl_some h
    obtain ⟨v8, σ9, hv, h⟩ := zb_some h
    refine xcallVv (pc := 19) (As := [.int x1]) (rest := []) ⟨hx, hb, hml, hown, hts⟩ (c_X12_readsSet l D c o g N hv) zc12 zV_X12_248 rfl zd_X12_readsSet ⟨Nat.le_of_ble_eq_true rfl, Nat.le_of_ble_eq_true rfl⟩ hK hP hE hS hg hl.1 rfl (Nat.le_of_ble_eq_true rfl) ⟨Nat.zero_le _, Nat.zero_le _⟩ dX12_readsSets_19 (fun H locs hP hS => ?_)
    have L22_10 : ∀ (n : Nat) (t : zS), zlp (F_X12_readsSets_22 N x0 x1) n t = some ρ → ∀ (H : Heap) (locs : List Loc) (ls : Array Slot), zP D c o (zabs o (t)) H → va_S (zA o) s.heap H locs → lv_has ls 2 [(0, .ref (o + x0)), (1, .int x1)] → W p l e (zr 10) s m (([.ref (o + x0), .int x1] : List Value).toArray) below meth cd H locs 0 0 (MQ below (zQu D c o g ρ) (([.ref (o + x0), .int x1] : List Value).toArray) s 0 0 (zA o)) (F0 m 22 ls []) := by
      refine zlp_ind (fun ag10 ih10 t h H locs ls hP hS hl => ?_)
      obtain ⟨σ10, rfl⟩ : ∃ x, x = t := ⟨t, rfl⟩
      have hP : zP D c o (zabs o σ10) H := hP
      have hl : lv_has ls 2 [(0, .ref (o + x0)), (1, .int x1)] := hl
      rw [F_X12_readsSets_22.eq_1] at h
      show W p l e (zr 10) s m (([.ref (o + x0), .int x1] : List Value).toArray) below meth cd H locs 0 0 (MQ below (zQu D c o g ρ) (([.ref (o + x0), .int x1] : List Value).toArray) s 0 0 (zA o)) (F0 m 22 ls [])
      refine lv_aload_n (pc := 22) hx hb dX12_readsSets_22 rfl (lv_at hl 0 rfl) ?_
      obtain ⟨_, hg, h⟩ := zl_some h
      obtain ⟨v11, σ12, hv, h⟩ := zb_some h
      refine xcallVi (pc := 23) (As := []) (rest := []) ⟨hx, hb, hml, hown, hts⟩ (c_X12_good l D c o g N hv) zc12 zV_X12_157 rfl zd_X12_good ⟨Nat.le_of_ble_eq_true rfl, Nat.le_of_ble_eq_true rfl⟩ hK hP hE hS hg hl.1 rfl (Nat.le_of_ble_eq_true rfl) ⟨Nat.zero_le _, Nat.zero_le _⟩ dX12_readsSets_23 (fun H locs hP hS => ?_)
      refine lv_if_eq (pc := 26) (tgt := 50) hx hb dX12_readsSets_26 (by decide) (fun c1 => ?_) (fun c1 => ?_)
      · rw [if_pos c1] at h
        refine lv_aload_n (pc := 50) hx hb dX12_readsSets_50 rfl (lv_at hl 0 rfl) ?_
        refine lv_bipush (pc := 51) (v := 125) hx hb dX12_readsSets_51 (by decide) ?_
        obtain ⟨_, hg, h⟩ := zl_some h
        obtain ⟨v13, σ14, hv, h⟩ := zb_some h
        refine xcallVv (pc := 53) (As := [.int 125]) (rest := []) ⟨hx, hb, hml, hown, hts⟩ (c_X12_needsSign l D c o g N hv) zc12 zV_X12_251 rfl zd_X12_needsSign ⟨Nat.le_of_ble_eq_true rfl, Nat.le_of_ble_eq_true rfl⟩ hK hP hE hS hg hl.1 rfl (Nat.le_of_ble_eq_true rfl) ⟨Nat.zero_le _, Nat.zero_le _⟩ dX12_readsSets_53 (fun H locs hP hS => ?_)
        exact xretv (pc := 56) hx hb hr hlocks hP hK hE hS h dX12_readsSets_56
      · rw [if_neg c1] at h
        refine lv_aload_n (pc := 29) hx hb dX12_readsSets_29 rfl (lv_at hl 0 rfl) ?_
        obtain ⟨v15, hv, h⟩ := zl_some h
        refine xgI (pc := 30) (j := 12) zc12 hx hb hts hown hK hP hv rfl zf_X12_123 dX12_readsSets_30 ?_
        refine lv_bipush (pc := 33) (v := 44) hx hb dX12_readsSets_33 (by decide) ?_
        refine lv_icmp_ne (pc := 35) (tgt := 50) hx hb dX12_readsSets_35 (by decide) (fun c1 => ?_) (fun c1 => ?_)
        · rw [if_neg c1] at h
          refine lv_aload_n (pc := 50) hx hb dX12_readsSets_50 rfl (lv_at hl 0 rfl) ?_
          refine lv_bipush (pc := 51) (v := 125) hx hb dX12_readsSets_51 (by decide) ?_
          obtain ⟨_, hg, h⟩ := zl_some h
          obtain ⟨v16, σ17, hv, h⟩ := zb_some h
          refine xcallVv (pc := 53) (As := [.int 125]) (rest := []) ⟨hx, hb, hml, hown, hts⟩ (c_X12_needsSign l D c o g N hv) zc12 zV_X12_251 rfl zd_X12_needsSign ⟨Nat.le_of_ble_eq_true rfl, Nat.le_of_ble_eq_true rfl⟩ hK hP hE hS hg hl.1 rfl (Nat.le_of_ble_eq_true rfl) ⟨Nat.zero_le _, Nat.zero_le _⟩ dX12_readsSets_53 (fun H locs hP hS => ?_)
          exact xretv (pc := 56) hx hb hr hlocks hP hK hE hS h dX12_readsSets_56
        · rw [if_pos c1] at h
          refine lv_aload_n (pc := 38) hx hb dX12_readsSets_38 rfl (lv_at hl 0 rfl) ?_
          obtain ⟨_, hg, h⟩ := zl_some h
          obtain ⟨v18, σ19, hv, h⟩ := zb_some h
          refine xcallVv (pc := 39) (As := []) (rest := []) ⟨hx, hb, hml, hown, hts⟩ (c_X12_advance l D c o g N hv) zc12 zV_X12_154 rfl zd_X12_advance ⟨Nat.le_of_ble_eq_true rfl, Nat.le_of_ble_eq_true rfl⟩ hK hP hE hS hg hl.1 rfl (Nat.le_of_ble_eq_true rfl) ⟨Nat.zero_le _, Nat.zero_le _⟩ dX12_readsSets_39 (fun H locs hP hS => ?_)
          refine lv_aload_n (pc := 42) hx hb dX12_readsSets_42 rfl (lv_at hl 0 rfl) ?_
          refine lv_iload_n (pc := 43) hx hb dX12_readsSets_43 rfl (lv_at hl 1 rfl) ?_
          obtain ⟨_, hg, h⟩ := zl_some h
          obtain ⟨v20, σ21, hv, h⟩ := zb_some h
          refine xcallVv (pc := 44) (As := [.int x1]) (rest := []) ⟨hx, hb, hml, hown, hts⟩ (c_X12_readsSet l D c o g N hv) zc12 zV_X12_248 rfl zd_X12_readsSet ⟨Nat.le_of_ble_eq_true rfl, Nat.le_of_ble_eq_true rfl⟩ hK hP hE hS hg hl.1 rfl (Nat.le_of_ble_eq_true rfl) ⟨Nat.zero_le _, Nat.zero_le _⟩ dX12_readsSets_44 (fun H locs hP hS => ?_)
          refine lv_goto (pc := 47) (tgt := 22) hx hb dX12_readsSets_47 (by decide) ?_
          exact ih10 σ21 h _ _ ls hP hS (lv_sub hl [0, 1] rfl)
    exact L22_10 N σ9 h _ _ ls hP hS (lv_sub hl [0, 1] rfl)
def J_X12_readsPart_19 (N : Nat) (x0 : Nat) (x3 : Int32) (σ : zS) : Option (Int32 × zS) :=
  if x3 = (-1) then
    (zl (gC 12 x0) fun _ => zb (f_X12_opens N x0 100 σ) fun v4 σ5 =>
    rZ 0 σ5)
  else
    (zl (gC 12 x0) fun _ => zb (f_X12_opens N x0 (50 + x3) σ) fun v6 σ7 =>
    rZ 0 σ7)
def J_X12_readsPart_192 (N : Nat) (x0 : Nat) (σ : zS) : Option (Int32 × zS) :=
  zl (gC 12 x0) fun _ => zb (f_X12_good N x0 σ) fun v13 σ14 =>
  if v13 = 0 then
    (rZ 1 σ14)
  else
    (zl (gC 12 x0) fun _ => zb (f_X12_settlesTo N x0 3 σ14) fun v15 σ16 =>
    rZ 1 σ16)
def F_X12_readsPart_63 (N : Nat) (x0 : Nat) (x2 : Nat) (x4 : Int32) (again63 : (Int32 × zS) → Option (Int32 × zS)) : Int32 × zS → Option (Int32 × zS)
  | (x5, σ) =>
  if 1024 ≤ x5 then
    (J_X12_readsPart_192 N x0 σ)
  else
    (zl (gC 12 x0) fun _ => zb (f_X12_good N x0 σ) fun v17 σ18 =>
    if v17 = 0 then
      (J_X12_readsPart_192 N x0 σ18)
    else
      (zl (gR 12 16 x0 σ18) fun v19 =>
      zl (gI 12 23 x0 σ18) fun v20 =>
      zl (aI 16 x2 ((1024 * x4) + x5) σ18) fun v21 =>
      zl (sI 16 v19 ((1024 * (v20 - 1)) + x5) v21 σ18) fun σ22 =>
      again63 (x5 + 1, σ22)))
def F_X12_readsPart_150 (N : Nat) (x0 : Nat) (again150 : (Int32 × zS) → Option (Int32 × zS)) : Int32 × zS → Option (Int32 × zS)
  | (x4, σ) =>
  zl (gI 12 20 x0 σ) fun v32 =>
  if v32 ≤ x4 then
    (J_X12_readsPart_192 N x0 σ)
  else
    (zl (gR 12 16 x0 σ) fun v33 =>
    zl (gI 12 23 x0 σ) fun v34 =>
    zl (sI 16 v33 ((1024 * (v34 - 1)) + x4) 1 σ) fun σ35 =>
    again150 (x4 + 1, σ35))
def f_X12_readsPart (N : Nat) (x0 : Nat) (x1 : Int32) (x2 : Nat) (σ : zS) : Option (Int32 × zS) :=
  zl (gC 12 x0) fun _ => zb (f_X12_prefixOf N x0 σ) fun v1 σ2 =>
  if v1 = (-1) then
    (zl (gI 12 12 x0 σ2) fun v3 =>
    if v3 = 40 then
      (J_X12_readsPart_19 N x0 v1 σ2)
    else
      (zl (gI 12 12 x0 σ2) fun v8 =>
      if v8 = 2 then
        (zl (gC 12 x0) fun _ => zb (f_X12_number N x0 0 9 σ2) fun v9 σ10 =>
        zl (gC 12 x0) fun _ => zb (f_X12_pushesEmpty N x0 σ10) fun v11 σ12 =>
        zlp (F_X12_readsPart_63 N x0 x2 v9) N (0, σ12))
      else
        (zl (gI 12 12 x0 σ2) fun v23 =>
        if v23 = 123 then
          (zl (gC 12 x0) fun _ => zb (f_X12_readsSets N x0 x1 σ2) fun v24 σ25 =>
          J_X12_readsPart_192 N x0 σ25)
        else
          (zl (gC 12 x0) fun _ => zb (f_X12_takes N x0 15 σ2) fun v26 σ27 =>
          if v26 = 0 then
            (zl (gC 12 x0) fun _ => zb (f_X12_errs N x0 1 σ27) fun v28 σ29 =>
            J_X12_readsPart_192 N x0 σ29)
          else
            (zl (gC 12 x0) fun _ => zb (f_X12_pushesEmpty N x0 σ27) fun v30 σ31 =>
            zlp (F_X12_readsPart_150 N x0) N (0, σ31))))))
  else
    (J_X12_readsPart_19 N x0 v1 σ2)
set_option maxHeartbeats 4000000 in
set_option maxRecDepth 100000 in
theorem c_X12_readsPart (l : Launch) (D : va_G) (c : zC) (o : Nat) (g : zEp) (N : Nat) {x0 : Nat} {x1 : Int32} {x2 : Nat} {σ : zS} {ρ : Int32 × zS} (h : f_X12_readsPart N x0 x1 x2 σ = some ρ) : Met l yX12_readsPart zs_X12_readsPart (zr 18) (va_Pc [.ref (o + x0), .int x1, .ref (o + x2)] (zG D c o g σ)) (zQi D c o g ρ) 0 0 (zA o) := by
  refine zMetG (by decide) (Nat.le_of_ble_eq_true rfl) ?_
  intro p e s m below meth cd ⟨hx, hb, hr, hml, hown, hts, hlocks⟩ hP hK hE ls hl
  have hS : va_S (zA o) s.heap s.heap [] := va_S.rf
  have hl : lv_has ls 6 [(0, .ref (o + x0)), (1, .int x1), (2, .ref (o + x2))] := hl
  rw [f_X12_readsPart.eq_1] at h
  refine lv_aload_n (pc := 0) hx hb dX12_readsPart_0 rfl (lv_at hl 0 rfl) ?_
  obtain ⟨_, hg, h⟩ := zl_some h
  obtain ⟨v1, σ2, hv, h⟩ := zb_some h
  refine xcallVi (pc := 1) (As := []) (rest := []) ⟨hx, hb, hml, hown, hts⟩ (c_X12_prefixOf l D c o g N hv) zc12 zV_X12_254 rfl zd_X12_prefixOf ⟨Nat.le_of_ble_eq_true rfl, Nat.le_of_ble_eq_true rfl⟩ hK hP hE hS hg hl.1 rfl (Nat.le_of_ble_eq_true rfl) ⟨Nat.zero_le _, Nat.zero_le _⟩ dX12_readsPart_1 (fun H locs hP hS => ?_)
  refine lv_istore_n (pc := 4) (lv' := [(3, .int v1), (0, .ref (o + x0)), (1, .int x1), (2, .ref (o + x2))]) hx hb dX12_readsPart_4 rfl hl (by decide) rfl (fun ls hl => ?_)
  refine lv_iload_n (pc := 5) hx hb dX12_readsPart_5 rfl (lv_at hl 0 rfl) ?_
  refine lv_iconst (pc := 6) (v := (-1)) hx hb dX12_readsPart_6 (by decide) ?_
  have hj19_3 : ∀ (σ3 : zS), J_X12_readsPart_19 N x0 v1 σ3 = some ρ → ∀ (H : Heap) (locs : List Loc) (ls : Array Slot), zP D c o (zabs o σ3) H → va_S (zA o) s.heap H locs → lv_has ls 6 [(0, .ref (o + x0)), (3, .int v1)] → W p l e (zr 18) s m (([.ref (o + x0), .int x1, .ref (o + x2)] : List Value).toArray) below meth cd H locs 0 0 (MQ below (zQi D c o g ρ) (([.ref (o + x0), .int x1, .ref (o + x2)] : List Value).toArray) s 0 0 (zA o)) (F0 m 19 ls []) := by
    intro σ3 h H locs ls hP hS hl
    rw [J_X12_readsPart_19.eq_1] at h
    refine lv_aload_n (pc := 19) hx hb dX12_readsPart_19 rfl (lv_at hl 0 rfl) ?_
    refine lv_iload_n (pc := 20) hx hb dX12_readsPart_20 rfl (lv_at hl 1 rfl) ?_
    refine lv_iconst (pc := 21) (v := (-1)) hx hb dX12_readsPart_21 (by decide) ?_
    refine lv_icmp_eq (pc := 22) (tgt := 32) hx hb dX12_readsPart_22 (by decide) (fun c1 => ?_) (fun c1 => ?_)
    · rw [if_pos c1] at h
      refine lv_bipush (pc := 32) (v := 100) hx hb dX12_readsPart_32 (by decide) ?_
      obtain ⟨_, hg, h⟩ := zl_some h
      obtain ⟨v4, σ5, hv, h⟩ := zb_some h
      refine xcallVv (pc := 34) (As := [.int 100]) (rest := []) ⟨hx, hb, hml, hown, hts⟩ (c_X12_opens l D c o g N hv) zc12 zV_X12_257 rfl zd_X12_opens ⟨Nat.le_of_ble_eq_true rfl, Nat.le_of_ble_eq_true rfl⟩ hK hP hE hS hg hl.1 rfl (Nat.le_of_ble_eq_true rfl) ⟨Nat.zero_le _, Nat.zero_le _⟩ dX12_readsPart_34 (fun H locs hP hS => ?_)
      refine lv_iconst (pc := 37) (v := 0) hx hb dX12_readsPart_37 (by decide) ?_
      exact xretz (pc := 38) hx hb hr hlocks hP hK hE hS h dX12_readsPart_38
    · rw [if_neg c1] at h
      refine lv_bipush (pc := 25) (v := 50) hx hb dX12_readsPart_25 (by decide) ?_
      refine lv_iload_n (pc := 27) hx hb dX12_readsPart_27 rfl (lv_at hl 1 rfl) ?_
      refine lv_iadd (pc := 28) hx hb dX12_readsPart_28 ?_
      refine lv_goto (pc := 29) (tgt := 34) hx hb dX12_readsPart_29 (by decide) ?_
      obtain ⟨_, hg, h⟩ := zl_some h
      obtain ⟨v6, σ7, hv, h⟩ := zb_some h
      refine xcallVv (pc := 34) (As := [.int (50 + v1)]) (rest := []) ⟨hx, hb, hml, hown, hts⟩ (c_X12_opens l D c o g N hv) zc12 zV_X12_257 rfl zd_X12_opens ⟨Nat.le_of_ble_eq_true rfl, Nat.le_of_ble_eq_true rfl⟩ hK hP hE hS hg hl.1 rfl (Nat.le_of_ble_eq_true rfl) ⟨Nat.zero_le _, Nat.zero_le _⟩ dX12_readsPart_34 (fun H locs hP hS => ?_)
      refine lv_iconst (pc := 37) (v := 0) hx hb dX12_readsPart_37 (by decide) ?_
      exact xretz (pc := 38) hx hb hr hlocks hP hK hE hS h dX12_readsPart_38
  refine lv_icmp_ne (pc := 7) (tgt := 19) hx hb dX12_readsPart_7 (by decide) (fun c1 => ?_) (fun c1 => ?_)
  · rw [if_neg c1] at h
    exact hj19_3 σ2 h _ _ ls hP hS (lv_sub hl [1, 0] rfl)
  · rw [if_pos c1] at h
    refine lv_aload_n (pc := 10) hx hb dX12_readsPart_10 rfl (lv_at hl 1 rfl) ?_
    obtain ⟨v8, hv, h⟩ := zl_some h
    refine xgI (pc := 11) (j := 12) zc12 hx hb hts hown hK hP hv rfl zf_X12_123 dX12_readsPart_11 ?_
    refine lv_bipush (pc := 14) (v := 40) hx hb dX12_readsPart_14 (by decide) ?_
    refine lv_icmp_ne (pc := 16) (tgt := 39) hx hb dX12_readsPart_16 (by decide) (fun c1 => ?_) (fun c1 => ?_)
    · rw [if_neg c1] at h
      refine lv_aload_n (pc := 39) hx hb dX12_readsPart_39 rfl (lv_at hl 1 rfl) ?_
      obtain ⟨v9, hv, h⟩ := zl_some h
      refine xgI (pc := 40) (j := 12) zc12 hx hb hts hown hK hP hv rfl zf_X12_123 dX12_readsPart_40 ?_
      refine lv_iconst (pc := 43) (v := 2) hx hb dX12_readsPart_43 (by decide) ?_
      have hj192_10 : ∀ (σ10 : zS), J_X12_readsPart_192 N x0 σ10 = some ρ → ∀ (H : Heap) (locs : List Loc) (ls : Array Slot), zP D c o (zabs o σ10) H → va_S (zA o) s.heap H locs → lv_has ls 6 [(0, .ref (o + x0))] → W p l e (zr 18) s m (([.ref (o + x0), .int x1, .ref (o + x2)] : List Value).toArray) below meth cd H locs 0 0 (MQ below (zQi D c o g ρ) (([.ref (o + x0), .int x1, .ref (o + x2)] : List Value).toArray) s 0 0 (zA o)) (F0 m 192 ls []) := by
        intro σ10 h H locs ls hP hS hl
        rw [J_X12_readsPart_192.eq_1] at h
        refine lv_aload_n (pc := 192) hx hb dX12_readsPart_192 rfl (lv_at hl 0 rfl) ?_
        obtain ⟨_, hg, h⟩ := zl_some h
        obtain ⟨v11, σ12, hv, h⟩ := zb_some h
        refine xcallVi (pc := 193) (As := []) (rest := []) ⟨hx, hb, hml, hown, hts⟩ (c_X12_good l D c o g N hv) zc12 zV_X12_157 rfl zd_X12_good ⟨Nat.le_of_ble_eq_true rfl, Nat.le_of_ble_eq_true rfl⟩ hK hP hE hS hg hl.1 rfl (Nat.le_of_ble_eq_true rfl) ⟨Nat.zero_le _, Nat.zero_le _⟩ dX12_readsPart_193 (fun H locs hP hS => ?_)
        refine lv_if_eq (pc := 196) (tgt := 204) hx hb dX12_readsPart_196 (by decide) (fun c1 => ?_) (fun c1 => ?_)
        · rw [if_pos c1] at h
          refine lv_iconst (pc := 204) (v := 1) hx hb dX12_readsPart_204 (by decide) ?_
          exact xretz (pc := 205) hx hb hr hlocks hP hK hE hS h dX12_readsPart_205
        · rw [if_neg c1] at h
          refine lv_aload_n (pc := 199) hx hb dX12_readsPart_199 rfl (lv_at hl 0 rfl) ?_
          refine lv_iconst (pc := 200) (v := 3) hx hb dX12_readsPart_200 (by decide) ?_
          obtain ⟨_, hg, h⟩ := zl_some h
          obtain ⟨v13, σ14, hv, h⟩ := zb_some h
          refine xcallVv (pc := 201) (As := [.int 3]) (rest := []) ⟨hx, hb, hml, hown, hts⟩ (c_X12_settlesTo l D c o g N hv) zc12 zV_X12_264 rfl zd_X12_settlesTo ⟨Nat.le_of_ble_eq_true rfl, Nat.le_of_ble_eq_true rfl⟩ hK hP hE hS hg hl.1 rfl (Nat.le_of_ble_eq_true rfl) ⟨Nat.zero_le _, Nat.zero_le _⟩ dX12_readsPart_201 (fun H locs hP hS => ?_)
          refine lv_iconst (pc := 204) (v := 1) hx hb dX12_readsPart_204 (by decide) ?_
          exact xretz (pc := 205) hx hb hr hlocks hP hK hE hS h dX12_readsPart_205
      refine lv_icmp_ne (pc := 44) (tgt := 116) hx hb dX12_readsPart_44 (by decide) (fun c1 => ?_) (fun c1 => ?_)
      · rw [if_neg c1] at h
        refine lv_aload_n (pc := 116) hx hb dX12_readsPart_116 rfl (lv_at hl 1 rfl) ?_
        obtain ⟨v15, hv, h⟩ := zl_some h
        refine xgI (pc := 117) (j := 12) zc12 hx hb hts hown hK hP hv rfl zf_X12_123 dX12_readsPart_117 ?_
        refine lv_bipush (pc := 120) (v := 123) hx hb dX12_readsPart_120 (by decide) ?_
        refine lv_icmp_ne (pc := 122) (tgt := 133) hx hb dX12_readsPart_122 (by decide) (fun c1 => ?_) (fun c1 => ?_)
        · rw [if_neg c1] at h
          refine lv_aload_n (pc := 133) hx hb dX12_readsPart_133 rfl (lv_at hl 1 rfl) ?_
          refine xldcSw (pc := 134) hx hb hown (hE.2.2.2.2.2 (RX12, 263, "all", 15) (by decide)) dX12_readsPart_134 ?_
          obtain ⟨_, hg, h⟩ := zl_some h
          obtain ⟨v16, σ17, hv, h⟩ := zb_some h
          refine xcallVi (pc := 137) (As := [.ref (g.2.1 15)]) (rest := []) ⟨hx, hb, hml, hown, hts⟩ (c_X12_takes l D c o g N hv) zc12 zV_X12_173 rfl zd_X12_takes ⟨Nat.le_of_ble_eq_true rfl, Nat.le_of_ble_eq_true rfl⟩ hK hP hE hS hg hl.1 rfl (Nat.le_of_ble_eq_true rfl) ⟨Nat.zero_le _, Nat.zero_le _⟩ dX12_readsPart_137 (fun H locs hP hS => ?_)
          refine lv_if_eq (pc := 140) (tgt := 187) hx hb dX12_readsPart_140 (by decide) (fun c1 => ?_) (fun c1 => ?_)
          · rw [if_pos c1] at h
            refine lv_aload_n (pc := 187) hx hb dX12_readsPart_187 rfl (lv_at hl 1 rfl) ?_
            refine lv_iconst (pc := 188) (v := 1) hx hb dX12_readsPart_188 (by decide) ?_
            obtain ⟨_, hg, h⟩ := zl_some h
            obtain ⟨v18, σ19, hv, h⟩ := zb_some h
            refine xcallVv (pc := 189) (As := [.int 1]) (rest := []) ⟨hx, hb, hml, hown, hts⟩ (c_X12_errs l D c o g N hv) zc12 zV_X12_176 rfl zd_X12_errs ⟨Nat.le_of_ble_eq_true rfl, Nat.le_of_ble_eq_true rfl⟩ hK hP hE hS hg hl.1 rfl (Nat.le_of_ble_eq_true rfl) ⟨Nat.zero_le _, Nat.zero_le _⟩ dX12_readsPart_189 (fun H locs hP hS => ?_)
            exact hj192_10 σ19 h _ _ ls hP hS (lv_sub hl [1] rfl)
          · rw [if_neg c1] at h
            refine lv_aload_n (pc := 143) hx hb dX12_readsPart_143 rfl (lv_at hl 1 rfl) ?_
            obtain ⟨_, hg, h⟩ := zl_some h
            obtain ⟨v20, σ21, hv, h⟩ := zb_some h
            refine xcallVv (pc := 144) (As := []) (rest := []) ⟨hx, hb, hml, hown, hts⟩ (c_X12_pushesEmpty l D c o g N hv) zc12 zV_X12_245 rfl zd_X12_pushesEmpty ⟨Nat.le_of_ble_eq_true rfl, Nat.le_of_ble_eq_true rfl⟩ hK hP hE hS hg hl.1 rfl (Nat.le_of_ble_eq_true rfl) ⟨Nat.zero_le _, Nat.zero_le _⟩ dX12_readsPart_144 (fun H locs hP hS => ?_)
            refine lv_iconst (pc := 147) (v := 0) hx hb dX12_readsPart_147 (by decide) ?_
            refine lv_istore (pc := 148) (lv' := [(4, .int 0), (3, .int v1), (0, .ref (o + x0)), (1, .int x1), (2, .ref (o + x2))]) hx hb dX12_readsPart_148 hl (by decide) rfl (fun ls hl => ?_)
            have L150_22 : ∀ (n : Nat) (t : Int32 × zS), zlp (F_X12_readsPart_150 N x0) n t = some ρ → ∀ (H : Heap) (locs : List Loc) (ls : Array Slot), zP D c o (zabs o (t.2)) H → va_S (zA o) s.heap H locs → lv_has ls 6 [(4, .int (t.1)), (0, .ref (o + x0))] → W p l e (zr 18) s m (([.ref (o + x0), .int x1, .ref (o + x2)] : List Value).toArray) below meth cd H locs 0 0 (MQ below (zQi D c o g ρ) (([.ref (o + x0), .int x1, .ref (o + x2)] : List Value).toArray) s 0 0 (zA o)) (F0 m 150 ls []) := by
              refine zlp_ind (fun ag22 ih22 t h H locs ls hP hS hl => ?_)
              obtain ⟨x4_22, σ22⟩ := t
              have hP : zP D c o (zabs o σ22) H := hP
              have hl : lv_has ls 6 [(4, .int x4_22), (0, .ref (o + x0))] := hl
              rw [F_X12_readsPart_150.eq_1] at h
              show W p l e (zr 18) s m (([.ref (o + x0), .int x1, .ref (o + x2)] : List Value).toArray) below meth cd H locs 0 0 (MQ below (zQi D c o g ρ) (([.ref (o + x0), .int x1, .ref (o + x2)] : List Value).toArray) s 0 0 (zA o)) (F0 m 150 ls [])
              refine lv_iload (pc := 150) hx hb dX12_readsPart_150 (lv_at hl 0 rfl) ?_
              refine lv_aload_n (pc := 152) hx hb dX12_readsPart_152 rfl (lv_at hl 1 rfl) ?_
              obtain ⟨v23, hv, h⟩ := zl_some h
              refine xgI (pc := 153) (j := 20) zc12 hx hb hts hown hK hP hv rfl zf_X12_180 dX12_readsPart_153 ?_
              refine lv_icmp_ge (pc := 156) (tgt := 184) hx hb dX12_readsPart_156 (by decide) (fun c1 => ?_) (fun c1 => ?_)
              · rw [if_pos c1] at h
                refine lv_goto (pc := 184) (tgt := 192) hx hb dX12_readsPart_184 (by decide) ?_
                exact hj192_10 σ22 h _ _ ls hP hS (lv_sub hl [1] rfl)
              · rw [if_neg c1] at h
                refine lv_aload_n (pc := 159) hx hb dX12_readsPart_159 rfl (lv_at hl 1 rfl) ?_
                obtain ⟨v24, hv, h⟩ := zl_some h
                refine xgR (pc := 160) (j := 16) zc12 hx hb hts hown hK hP hv rfl zf_X12_37 dX12_readsPart_160 ?_
                refine lv_sipush (pc := 163) (v := 1024) hx hb dX12_readsPart_163 (by decide) ?_
                refine lv_aload_n (pc := 166) hx hb dX12_readsPart_166 rfl (lv_at hl 1 rfl) ?_
                obtain ⟨v25, hv, h⟩ := zl_some h
                refine xgI (pc := 167) (j := 23) zc12 hx hb hts hown hK hP hv rfl zf_X12_206 dX12_readsPart_167 ?_
                refine lv_iconst (pc := 170) (v := 1) hx hb dX12_readsPart_170 (by decide) ?_
                refine lv_isub (pc := 171) hx hb dX12_readsPart_171 ?_
                refine lv_imul (pc := 172) hx hb dX12_readsPart_172 ?_
                refine lv_iload (pc := 173) hx hb dX12_readsPart_173 (lv_at hl 0 rfl) ?_
                refine lv_iadd (pc := 175) hx hb dX12_readsPart_175 ?_
                refine lv_iconst (pc := 176) (v := 1) hx hb dX12_readsPart_176 (by decide) ?_
                obtain ⟨σ26, hv, h⟩ := zl_some h
                refine xsZ (pc := 177) hx hb hK hP hS hv dX12_readsPart_177 (fun H locs hP hS => ?_)
                refine lv_iinc (pc := 178) (v := x4_22 + 1) (lv' := [(4, .int (x4_22 + 1)), (0, .ref (o + x0))]) hx hb dX12_readsPart_178 hl (k := 0) rfl rfl (by decide) rfl (fun ls hl => ?_)
                refine lv_goto (pc := 181) (tgt := 150) hx hb dX12_readsPart_181 (by decide) ?_
                exact ih22 (x4_22 + 1, σ26) h _ _ ls hP hS (lv_sub hl [0, 1] rfl)
            exact L150_22 N (0, σ21) h _ _ ls hP hS (lv_sub hl [0, 2] rfl)
        · rw [if_pos c1] at h
          refine lv_aload_n (pc := 125) hx hb dX12_readsPart_125 rfl (lv_at hl 1 rfl) ?_
          refine lv_iload_n (pc := 126) hx hb dX12_readsPart_126 rfl (lv_at hl 2 rfl) ?_
          obtain ⟨_, hg, h⟩ := zl_some h
          obtain ⟨v27, σ28, hv, h⟩ := zb_some h
          refine xcallVv (pc := 127) (As := [.int x1]) (rest := []) ⟨hx, hb, hml, hown, hts⟩ (c_X12_readsSets l D c o g N hv) zc12 zV_X12_260 rfl zd_X12_readsSets ⟨Nat.le_of_ble_eq_true rfl, Nat.le_of_ble_eq_true rfl⟩ hK hP hE hS hg hl.1 rfl (Nat.le_of_ble_eq_true rfl) ⟨Nat.zero_le _, Nat.zero_le _⟩ dX12_readsPart_127 (fun H locs hP hS => ?_)
          refine lv_goto (pc := 130) (tgt := 192) hx hb dX12_readsPart_130 (by decide) ?_
          exact hj192_10 σ28 h _ _ ls hP hS (lv_sub hl [1] rfl)
      · rw [if_pos c1] at h
        refine lv_aload_n (pc := 47) hx hb dX12_readsPart_47 rfl (lv_at hl 1 rfl) ?_
        refine lv_iconst (pc := 48) (v := 0) hx hb dX12_readsPart_48 (by decide) ?_
        refine lv_bipush (pc := 49) (v := 9) hx hb dX12_readsPart_49 (by decide) ?_
        obtain ⟨_, hg, h⟩ := zl_some h
        obtain ⟨v29, σ30, hv, h⟩ := zb_some h
        refine xcallVi (pc := 51) (As := [.int 0, .int 9]) (rest := []) ⟨hx, hb, hml, hown, hts⟩ (c_X12_number l D c o g N hv) zc12 zV_X12_239 rfl zd_X12_number ⟨Nat.le_of_ble_eq_true rfl, Nat.le_of_ble_eq_true rfl⟩ hK hP hE hS hg hl.1 rfl (Nat.le_of_ble_eq_true rfl) ⟨Nat.zero_le _, Nat.zero_le _⟩ dX12_readsPart_51 (fun H locs hP hS => ?_)
        refine lv_istore (pc := 54) (lv' := [(4, .int v29), (3, .int v1), (0, .ref (o + x0)), (1, .int x1), (2, .ref (o + x2))]) hx hb dX12_readsPart_54 hl (by decide) rfl (fun ls hl => ?_)
        refine lv_aload_n (pc := 56) hx hb dX12_readsPart_56 rfl (lv_at hl 2 rfl) ?_
        obtain ⟨_, hg, h⟩ := zl_some h
        obtain ⟨v31, σ32, hv, h⟩ := zb_some h
        refine xcallVv (pc := 57) (As := []) (rest := []) ⟨hx, hb, hml, hown, hts⟩ (c_X12_pushesEmpty l D c o g N hv) zc12 zV_X12_245 rfl zd_X12_pushesEmpty ⟨Nat.le_of_ble_eq_true rfl, Nat.le_of_ble_eq_true rfl⟩ hK hP hE hS hg hl.1 rfl (Nat.le_of_ble_eq_true rfl) ⟨Nat.zero_le _, Nat.zero_le _⟩ dX12_readsPart_57 (fun H locs hP hS => ?_)
        refine lv_iconst (pc := 60) (v := 0) hx hb dX12_readsPart_60 (by decide) ?_
        refine lv_istore (pc := 61) (lv' := [(5, .int 0), (4, .int v29), (3, .int v1), (0, .ref (o + x0)), (1, .int x1), (2, .ref (o + x2))]) hx hb dX12_readsPart_61 hl (by decide) rfl (fun ls hl => ?_)
        have L63_33 : ∀ (n : Nat) (t : Int32 × zS), zlp (F_X12_readsPart_63 N x0 x2 v29) n t = some ρ → ∀ (H : Heap) (locs : List Loc) (ls : Array Slot), zP D c o (zabs o (t.2)) H → va_S (zA o) s.heap H locs → lv_has ls 6 [(5, .int (t.1)), (0, .ref (o + x0)), (2, .ref (o + x2)), (4, .int v29)] → W p l e (zr 18) s m (([.ref (o + x0), .int x1, .ref (o + x2)] : List Value).toArray) below meth cd H locs 0 0 (MQ below (zQi D c o g ρ) (([.ref (o + x0), .int x1, .ref (o + x2)] : List Value).toArray) s 0 0 (zA o)) (F0 m 63 ls []) := by
          refine zlp_ind (fun ag33 ih33 t h H locs ls hP hS hl => ?_)
          obtain ⟨x5_33, σ33⟩ := t
          have hP : zP D c o (zabs o σ33) H := hP
          have hl : lv_has ls 6 [(5, .int x5_33), (0, .ref (o + x0)), (2, .ref (o + x2)), (4, .int v29)] := hl
          rw [F_X12_readsPart_63.eq_1] at h
          show W p l e (zr 18) s m (([.ref (o + x0), .int x1, .ref (o + x2)] : List Value).toArray) below meth cd H locs 0 0 (MQ below (zQi D c o g ρ) (([.ref (o + x0), .int x1, .ref (o + x2)] : List Value).toArray) s 0 0 (zA o)) (F0 m 63 ls [])
          refine lv_iload (pc := 63) hx hb dX12_readsPart_63 (lv_at hl 0 rfl) ?_
          refine lv_sipush (pc := 65) (v := 1024) hx hb dX12_readsPart_65 (by decide) ?_
          refine lv_icmp_ge (pc := 68) (tgt := 113) hx hb dX12_readsPart_68 (by decide) (fun c1 => ?_) (fun c1 => ?_)
          · rw [if_pos c1] at h
            refine lv_goto (pc := 113) (tgt := 192) hx hb dX12_readsPart_113 (by decide) ?_
            exact hj192_10 σ33 h _ _ ls hP hS (lv_sub hl [1] rfl)
          · rw [if_neg c1] at h
            refine lv_aload_n (pc := 71) hx hb dX12_readsPart_71 rfl (lv_at hl 1 rfl) ?_
            obtain ⟨_, hg, h⟩ := zl_some h
            obtain ⟨v34, σ35, hv, h⟩ := zb_some h
            refine xcallVi (pc := 72) (As := []) (rest := []) ⟨hx, hb, hml, hown, hts⟩ (c_X12_good l D c o g N hv) zc12 zV_X12_157 rfl zd_X12_good ⟨Nat.le_of_ble_eq_true rfl, Nat.le_of_ble_eq_true rfl⟩ hK hP hE hS hg hl.1 rfl (Nat.le_of_ble_eq_true rfl) ⟨Nat.zero_le _, Nat.zero_le _⟩ dX12_readsPart_72 (fun H locs hP hS => ?_)
            refine lv_if_eq (pc := 75) (tgt := 113) hx hb dX12_readsPart_75 (by decide) (fun c1 => ?_) (fun c1 => ?_)
            · rw [if_pos c1] at h
              refine lv_goto (pc := 113) (tgt := 192) hx hb dX12_readsPart_113 (by decide) ?_
              exact hj192_10 σ35 h _ _ ls hP hS (lv_sub hl [1] rfl)
            · rw [if_neg c1] at h
              refine lv_aload_n (pc := 78) hx hb dX12_readsPart_78 rfl (lv_at hl 1 rfl) ?_
              obtain ⟨v36, hv, h⟩ := zl_some h
              refine xgR (pc := 79) (j := 16) zc12 hx hb hts hown hK hP hv rfl zf_X12_37 dX12_readsPart_79 ?_
              refine lv_sipush (pc := 82) (v := 1024) hx hb dX12_readsPart_82 (by decide) ?_
              refine lv_aload_n (pc := 85) hx hb dX12_readsPart_85 rfl (lv_at hl 1 rfl) ?_
              obtain ⟨v37, hv, h⟩ := zl_some h
              refine xgI (pc := 86) (j := 23) zc12 hx hb hts hown hK hP hv rfl zf_X12_206 dX12_readsPart_86 ?_
              refine lv_iconst (pc := 89) (v := 1) hx hb dX12_readsPart_89 (by decide) ?_
              refine lv_isub (pc := 90) hx hb dX12_readsPart_90 ?_
              refine lv_imul (pc := 91) hx hb dX12_readsPart_91 ?_
              refine lv_iload (pc := 92) hx hb dX12_readsPart_92 (lv_at hl 0 rfl) ?_
              refine lv_iadd (pc := 94) hx hb dX12_readsPart_94 ?_
              refine lv_aload_n (pc := 95) hx hb dX12_readsPart_95 rfl (lv_at hl 2 rfl) ?_
              refine lv_sipush (pc := 96) (v := 1024) hx hb dX12_readsPart_96 (by decide) ?_
              refine lv_iload (pc := 99) hx hb dX12_readsPart_99 (lv_at hl 3 rfl) ?_
              refine lv_imul (pc := 101) hx hb dX12_readsPart_101 ?_
              refine lv_iload (pc := 102) hx hb dX12_readsPart_102 (lv_at hl 0 rfl) ?_
              refine lv_iadd (pc := 104) hx hb dX12_readsPart_104 ?_
              obtain ⟨v38, hv, h⟩ := zl_some h
              refine xaZ (pc := 105) hx hb hK hP hv dX12_readsPart_105 ?_
              obtain ⟨σ39, hv, h⟩ := zl_some h
              refine xsZ (pc := 106) hx hb hK hP hS hv dX12_readsPart_106 (fun H locs hP hS => ?_)
              refine lv_iinc (pc := 107) (v := x5_33 + 1) (lv' := [(5, .int (x5_33 + 1)), (0, .ref (o + x0)), (2, .ref (o + x2)), (4, .int v29)]) hx hb dX12_readsPart_107 hl (k := 0) rfl rfl (by decide) rfl (fun ls hl => ?_)
              refine lv_goto (pc := 110) (tgt := 63) hx hb dX12_readsPart_110 (by decide) ?_
              exact ih33 (x5_33 + 1, σ39) h _ _ ls hP hS (lv_sub hl [0, 1, 2, 3] rfl)
        exact L63_33 N (0, σ32) h _ _ ls hP hS (lv_sub hl [0, 3, 5, 1] rfl)
    · rw [if_pos c1] at h
      exact hj19_3 σ2 h _ _ ls hP hS (lv_sub hl [1, 0] rfl)
def F_X12_isOpen_2 (N : Nat) (x0 : Nat) (again2 : (Int32 × zS) → Option (Int32 × zS)) : Int32 × zS → Option (Int32 × zS)
  | (x1, σ) =>
  zl (gI 12 22 x0 σ) fun v1 =>
  if v1 ≤ x1 then
    (rZ 0 σ)
  else
    (zl (gR 12 21 x0 σ) fun v2 =>
    zl (aI 14 v2 x1 σ) fun v3 =>
    if v3 = 100 then
      (rZ 1 σ)
    else
      (again2 (x1 + 1, σ)))
def f_X12_isOpen (N : Nat) (x0 : Nat) (σ : zS) : Option (Int32 × zS) :=
  zlp (F_X12_isOpen_2 N x0) N (0, σ)
set_option maxHeartbeats 4000000 in
set_option maxRecDepth 100000 in
theorem c_X12_isOpen (l : Launch) (D : va_G) (c : zC) (o : Nat) (g : zEp) (N : Nat) {x0 : Nat} {σ : zS} {ρ : Int32 × zS} (h : f_X12_isOpen N x0 σ = some ρ) : Met l yX12_isOpen zs_X12_isOpen (zr 2) (va_Pc [.ref (o + x0)] (zG D c o g σ)) (zQi D c o g ρ) 0 0 (zA o) := by
  refine zMetG (by decide) (Nat.le_of_ble_eq_true rfl) ?_
  intro p e s m below meth cd ⟨hx, hb, hr, hml, hown, hts, hlocks⟩ hP hK hE ls hl
  have hS : va_S (zA o) s.heap s.heap [] := va_S.rf
  have hl : lv_has ls 2 [(0, .ref (o + x0))] := hl
  rw [f_X12_isOpen.eq_1] at h
  refine lv_iconst (pc := 0) (v := 0) hx hb dX12_isOpen_0 (by decide) ?_
  refine lv_istore_n (pc := 1) (lv' := [(1, .int 0), (0, .ref (o + x0))]) hx hb dX12_isOpen_1 rfl hl (by decide) rfl (fun ls hl => ?_)
  have L2_1 : ∀ (n : Nat) (t : Int32 × zS), zlp (F_X12_isOpen_2 N x0) n t = some ρ → ∀ (H : Heap) (locs : List Loc) (ls : Array Slot), zP D c o (zabs o (t.2)) H → va_S (zA o) s.heap H locs → lv_has ls 2 [(1, .int (t.1)), (0, .ref (o + x0))] → W p l e (zr 2) s m (([.ref (o + x0)] : List Value).toArray) below meth cd H locs 0 0 (MQ below (zQi D c o g ρ) (([.ref (o + x0)] : List Value).toArray) s 0 0 (zA o)) (F0 m 2 ls []) := by
    refine zlp_ind (fun ag1 ih1 t h H locs ls hP hS hl => ?_)
    obtain ⟨x1_1, σ1⟩ := t
    have hP : zP D c o (zabs o σ1) H := hP
    have hl : lv_has ls 2 [(1, .int x1_1), (0, .ref (o + x0))] := hl
    rw [F_X12_isOpen_2.eq_1] at h
    show W p l e (zr 2) s m (([.ref (o + x0)] : List Value).toArray) below meth cd H locs 0 0 (MQ below (zQi D c o g ρ) (([.ref (o + x0)] : List Value).toArray) s 0 0 (zA o)) (F0 m 2 ls [])
    refine lv_iload_n (pc := 2) hx hb dX12_isOpen_2 rfl (lv_at hl 0 rfl) ?_
    refine lv_aload_n (pc := 3) hx hb dX12_isOpen_3 rfl (lv_at hl 1 rfl) ?_
    obtain ⟨v2, hv, h⟩ := zl_some h
    refine xgI (pc := 4) (j := 22) zc12 hx hb hts hown hK hP hv rfl zf_X12_203 dX12_isOpen_4 ?_
    refine lv_icmp_ge (pc := 7) (tgt := 29) hx hb dX12_isOpen_7 (by decide) (fun c1 => ?_) (fun c1 => ?_)
    · rw [if_pos c1] at h
      refine lv_iconst (pc := 29) (v := 0) hx hb dX12_isOpen_29 (by decide) ?_
      exact xretz (pc := 30) hx hb hr hlocks hP hK hE hS h dX12_isOpen_30
    · rw [if_neg c1] at h
      refine lv_aload_n (pc := 10) hx hb dX12_isOpen_10 rfl (lv_at hl 1 rfl) ?_
      obtain ⟨v3, hv, h⟩ := zl_some h
      refine xgR (pc := 11) (j := 21) zc12 hx hb hts hown hK hP hv rfl zf_X12_49 dX12_isOpen_11 ?_
      refine lv_iload_n (pc := 14) hx hb dX12_isOpen_14 rfl (lv_at hl 0 rfl) ?_
      obtain ⟨v4, hv, h⟩ := zl_some h
      refine xaI (pc := 15) hx hb hK hP hv dX12_isOpen_15 ?_
      refine lv_bipush (pc := 16) (v := 100) hx hb dX12_isOpen_16 (by decide) ?_
      refine lv_icmp_ne (pc := 18) (tgt := 23) hx hb dX12_isOpen_18 (by decide) (fun c1 => ?_) (fun c1 => ?_)
      · rw [if_neg c1] at h
        refine lv_iinc (pc := 23) (v := x1_1 + 1) (lv' := [(1, .int (x1_1 + 1)), (0, .ref (o + x0))]) hx hb dX12_isOpen_23 hl (k := 0) rfl rfl (by decide) rfl (fun ls hl => ?_)
        refine lv_goto (pc := 26) (tgt := 2) hx hb dX12_isOpen_26 (by decide) ?_
        exact ih1 (x1_1 + 1, σ1) h _ _ ls hP hS (lv_sub hl [0, 1] rfl)
      · rw [if_pos c1] at h
        refine lv_iconst (pc := 21) (v := 1) hx hb dX12_isOpen_21 (by decide) ?_
        exact xretz (pc := 22) hx hb hr hlocks hP hK hE hS h dX12_isOpen_22
  exact L2_1 N (0, σ) h _ _ ls hP hS (lv_sub hl [0, 1] rfl)
def J_X12_goesBehind_27 (N : Nat) (x0 : Nat) (x1 : Int32) (σ : zS) : Option (Int32 × zS) :=
  zl (gC 12 x0) fun _ => zb (f_X12_good N x0 σ) fun v20 σ21 =>
  if v20 = 0 then
    (some ((-1), σ21))
  else
    (zl (gI 12 25 x0 σ21) fun v22 =>
    zl (pI 12 25 x0 (v22 + 1) σ21) fun σ23 =>
    zb (f_X12_rank N x1 σ23) fun v24 σ25 =>
    zl (gC 12 x0) fun _ => zb (f_X12_settlesTo N x0 v24 σ25) fun v26 σ27 =>
    zl (gR 12 21 x0 σ27) fun v28 =>
    zl (gI 12 22 x0 σ27) fun v29 =>
    zl (sI 14 v28 v29 x1 σ27) fun σ30 =>
    zl (gI 12 22 x0 σ30) fun v31 =>
    zl (pI 12 22 x0 (v31 + 1) σ30) fun σ32 =>
    zl (gC 12 x0) fun _ => zb (f_X12_advance N x0 σ32) fun v33 σ34 =>
    some (1, σ34))
def f_X12_goesBehind (N : Nat) (x0 : Nat) (σ : zS) : Option (Int32 × zS) :=
  zl (gI 12 12 x0 σ) fun v1 =>
  zb (f_X12_signOf N v1 σ) fun v2 σ3 =>
  if v2 = (-1) then
    (zl (gI 12 12 x0 σ3) fun v4 =>
    if v4 = 41 then
      (zl (gC 12 x0) fun _ => zb (f_X12_isOpen N x0 σ3) fun v5 σ6 =>
      if v5 = 0 then
        (some ((-1), σ6))
      else
        (zl (gC 12 x0) fun _ => zb (f_X12_settlesTo N x0 1 σ6) fun v7 σ8 =>
        zl (gI 12 22 x0 σ8) fun v9 =>
        zl (pI 12 22 x0 (v9 - 1) σ8) fun σ10 =>
        zl (gI 12 24 x0 σ10) fun v11 =>
        zl (pI 12 24 x0 (v11 - 1) σ10) fun σ12 =>
        zl (gC 12 x0) fun _ => zb (f_X12_advance N x0 σ12) fun v13 σ14 =>
        zl (gC 12 x0) fun _ => zb (f_X12_settlesTo N x0 3 σ14) fun v15 σ16 =>
        some (0, σ16)))
    else
      (some ((-1), σ3)))
  else
    (zl (gI 12 25 x0 σ3) fun v17 =>
    if v17 = 24 then
      (zl (gC 12 x0) fun _ => zb (f_X12_errs N x0 3 σ3) fun v18 σ19 =>
      J_X12_goesBehind_27 N x0 v2 σ19)
    else
      (J_X12_goesBehind_27 N x0 v2 σ3))
set_option maxHeartbeats 4000000 in
set_option maxRecDepth 100000 in
theorem c_X12_goesBehind (l : Launch) (D : va_G) (c : zC) (o : Nat) (g : zEp) (N : Nat) {x0 : Nat} {σ : zS} {ρ : Int32 × zS} (h : f_X12_goesBehind N x0 σ = some ρ) : Met l yX12_goesBehind zs_X12_goesBehind (zr 12) (va_Pc [.ref (o + x0)] (zG D c o g σ)) (zQi D c o g ρ) 0 0 (zA o) := by
  refine zMetG (by decide) (Nat.le_of_ble_eq_true rfl) ?_
  intro p e s m below meth cd ⟨hx, hb, hr, hml, hown, hts, hlocks⟩ hP hK hE ls hl
  have hS : va_S (zA o) s.heap s.heap [] := va_S.rf
  have hl : lv_has ls 2 [(0, .ref (o + x0))] := hl
  rw [f_X12_goesBehind.eq_1] at h
  refine lv_aload_n (pc := 0) hx hb dX12_goesBehind_0 rfl (lv_at hl 0 rfl) ?_
  obtain ⟨v1, hv, h⟩ := zl_some h
  refine xgI (pc := 1) (j := 12) zc12 hx hb hts hown hK hP hv rfl zf_X12_123 dX12_goesBehind_1 ?_
  obtain ⟨v2, σ3, hv, h⟩ := zb_some h
  refine xcallSi (pc := 4) (As := [.int v1]) (rest := []) ⟨hx, hb, hml, hown, hts⟩ (c_X12_signOf l D c o g N hv) zT_X12_267 rfl zd_X12_signOf ⟨Nat.le_of_ble_eq_true rfl, Nat.le_of_ble_eq_true rfl⟩ hK hP hE hS hl.1 rfl (Nat.le_of_ble_eq_true rfl) ⟨Nat.zero_le _, Nat.zero_le _⟩ dX12_goesBehind_4 (fun H locs hP hS => ?_)
  refine lv_istore_n (pc := 7) (lv' := [(1, .int v2), (0, .ref (o + x0))]) hx hb dX12_goesBehind_7 rfl hl (by decide) rfl (fun ls hl => ?_)
  refine lv_iload_n (pc := 8) hx hb dX12_goesBehind_8 rfl (lv_at hl 0 rfl) ?_
  refine lv_iconst (pc := 9) (v := (-1)) hx hb dX12_goesBehind_9 (by decide) ?_
  refine lv_icmp_eq (pc := 10) (tgt := 80) hx hb dX12_goesBehind_10 (by decide) (fun c1 => ?_) (fun c1 => ?_)
  · rw [if_pos c1] at h
    refine lv_aload_n (pc := 80) hx hb dX12_goesBehind_80 rfl (lv_at hl 1 rfl) ?_
    obtain ⟨v4, hv, h⟩ := zl_some h
    refine xgI (pc := 81) (j := 12) zc12 hx hb hts hown hK hP hv rfl zf_X12_123 dX12_goesBehind_81 ?_
    refine lv_bipush (pc := 84) (v := 41) hx hb dX12_goesBehind_84 (by decide) ?_
    refine lv_icmp_ne (pc := 86) (tgt := 96) hx hb dX12_goesBehind_86 (by decide) (fun c1 => ?_) (fun c1 => ?_)
    · rw [if_neg c1] at h
      refine lv_iconst (pc := 96) (v := (-1)) hx hb dX12_goesBehind_96 (by decide) ?_
      exact xreti (pc := 97) hx hb hr hlocks hP hK hE hS h dX12_goesBehind_97
    · rw [if_pos c1] at h
      refine lv_aload_n (pc := 89) hx hb dX12_goesBehind_89 rfl (lv_at hl 1 rfl) ?_
      obtain ⟨_, hg, h⟩ := zl_some h
      obtain ⟨v5, σ6, hv, h⟩ := zb_some h
      refine xcallVi (pc := 90) (As := []) (rest := []) ⟨hx, hb, hml, hown, hts⟩ (c_X12_isOpen l D c o g N hv) zc12 zV_X12_270 rfl zd_X12_isOpen ⟨Nat.le_of_ble_eq_true rfl, Nat.le_of_ble_eq_true rfl⟩ hK hP hE hS hg hl.1 rfl (Nat.le_of_ble_eq_true rfl) ⟨Nat.zero_le _, Nat.zero_le _⟩ dX12_goesBehind_90 (fun H locs hP hS => ?_)
      refine lv_if_ne (pc := 93) (tgt := 98) hx hb dX12_goesBehind_93 (by decide) (fun c1 => ?_) (fun c1 => ?_)
      · rw [if_neg c1] at h
        refine lv_aload_n (pc := 98) hx hb dX12_goesBehind_98 rfl (lv_at hl 1 rfl) ?_
        refine lv_iconst (pc := 99) (v := 1) hx hb dX12_goesBehind_99 (by decide) ?_
        obtain ⟨_, hg, h⟩ := zl_some h
        obtain ⟨v7, σ8, hv, h⟩ := zb_some h
        refine xcallVv (pc := 100) (As := [.int 1]) (rest := []) ⟨hx, hb, hml, hown, hts⟩ (c_X12_settlesTo l D c o g N hv) zc12 zV_X12_264 rfl zd_X12_settlesTo ⟨Nat.le_of_ble_eq_true rfl, Nat.le_of_ble_eq_true rfl⟩ hK hP hE hS hg hl.1 rfl (Nat.le_of_ble_eq_true rfl) ⟨Nat.zero_le _, Nat.zero_le _⟩ dX12_goesBehind_100 (fun H locs hP hS => ?_)
        refine lv_aload_n (pc := 103) hx hb dX12_goesBehind_103 rfl (lv_at hl 1 rfl) ?_
        refine lv_dup (pc := 104) hx hb dX12_goesBehind_104 rfl ?_
        obtain ⟨v9, hv, h⟩ := zl_some h
        refine xgI (pc := 105) (j := 22) zc12 hx hb hts hown hK hP hv rfl zf_X12_203 dX12_goesBehind_105 ?_
        refine lv_iconst (pc := 108) (v := 1) hx hb dX12_goesBehind_108 (by decide) ?_
        refine lv_isub (pc := 109) hx hb dX12_goesBehind_109 ?_
        obtain ⟨σ10, hv, h⟩ := zl_some h
        refine xpI (pc := 110) (j := 22) zc12 hx hb hts hown hK hP hS hv rfl rfl rfl zf_X12_203 dX12_goesBehind_110 (fun H locs hP hS => ?_)
        refine lv_aload_n (pc := 113) hx hb dX12_goesBehind_113 rfl (lv_at hl 1 rfl) ?_
        refine lv_dup (pc := 114) hx hb dX12_goesBehind_114 rfl ?_
        obtain ⟨v11, hv, h⟩ := zl_some h
        refine xgI (pc := 115) (j := 24) zc12 hx hb hts hown hK hP hv rfl zf_X12_215 dX12_goesBehind_115 ?_
        refine lv_iconst (pc := 118) (v := 1) hx hb dX12_goesBehind_118 (by decide) ?_
        refine lv_isub (pc := 119) hx hb dX12_goesBehind_119 ?_
        obtain ⟨σ12, hv, h⟩ := zl_some h
        refine xpI (pc := 120) (j := 24) zc12 hx hb hts hown hK hP hS hv rfl rfl rfl zf_X12_215 dX12_goesBehind_120 (fun H locs hP hS => ?_)
        refine lv_aload_n (pc := 123) hx hb dX12_goesBehind_123 rfl (lv_at hl 1 rfl) ?_
        obtain ⟨_, hg, h⟩ := zl_some h
        obtain ⟨v13, σ14, hv, h⟩ := zb_some h
        refine xcallVv (pc := 124) (As := []) (rest := []) ⟨hx, hb, hml, hown, hts⟩ (c_X12_advance l D c o g N hv) zc12 zV_X12_154 rfl zd_X12_advance ⟨Nat.le_of_ble_eq_true rfl, Nat.le_of_ble_eq_true rfl⟩ hK hP hE hS hg hl.1 rfl (Nat.le_of_ble_eq_true rfl) ⟨Nat.zero_le _, Nat.zero_le _⟩ dX12_goesBehind_124 (fun H locs hP hS => ?_)
        refine lv_aload_n (pc := 127) hx hb dX12_goesBehind_127 rfl (lv_at hl 1 rfl) ?_
        refine lv_iconst (pc := 128) (v := 3) hx hb dX12_goesBehind_128 (by decide) ?_
        obtain ⟨_, hg, h⟩ := zl_some h
        obtain ⟨v15, σ16, hv, h⟩ := zb_some h
        refine xcallVv (pc := 129) (As := [.int 3]) (rest := []) ⟨hx, hb, hml, hown, hts⟩ (c_X12_settlesTo l D c o g N hv) zc12 zV_X12_264 rfl zd_X12_settlesTo ⟨Nat.le_of_ble_eq_true rfl, Nat.le_of_ble_eq_true rfl⟩ hK hP hE hS hg hl.1 rfl (Nat.le_of_ble_eq_true rfl) ⟨Nat.zero_le _, Nat.zero_le _⟩ dX12_goesBehind_129 (fun H locs hP hS => ?_)
        refine lv_iconst (pc := 132) (v := 0) hx hb dX12_goesBehind_132 (by decide) ?_
        exact xreti (pc := 133) hx hb hr hlocks hP hK hE hS h dX12_goesBehind_133
      · rw [if_pos c1] at h
        refine lv_iconst (pc := 96) (v := (-1)) hx hb dX12_goesBehind_96 (by decide) ?_
        exact xreti (pc := 97) hx hb hr hlocks hP hK hE hS h dX12_goesBehind_97
  · rw [if_neg c1] at h
    refine lv_aload_n (pc := 13) hx hb dX12_goesBehind_13 rfl (lv_at hl 1 rfl) ?_
    obtain ⟨v17, hv, h⟩ := zl_some h
    refine xgI (pc := 14) (j := 25) zc12 hx hb hts hown hK hP hv rfl zf_X12_151 dX12_goesBehind_14 ?_
    refine lv_bipush (pc := 17) (v := 24) hx hb dX12_goesBehind_17 (by decide) ?_
    have hj27_18 : ∀ (σ18 : zS), J_X12_goesBehind_27 N x0 v2 σ18 = some ρ → ∀ (H : Heap) (locs : List Loc) (ls : Array Slot), zP D c o (zabs o σ18) H → va_S (zA o) s.heap H locs → lv_has ls 2 [(0, .ref (o + x0)), (1, .int v2)] → W p l e (zr 12) s m (([.ref (o + x0)] : List Value).toArray) below meth cd H locs 0 0 (MQ below (zQi D c o g ρ) (([.ref (o + x0)] : List Value).toArray) s 0 0 (zA o)) (F0 m 27 ls []) := by
      intro σ18 h H locs ls hP hS hl
      rw [J_X12_goesBehind_27.eq_1] at h
      refine lv_aload_n (pc := 27) hx hb dX12_goesBehind_27 rfl (lv_at hl 0 rfl) ?_
      obtain ⟨_, hg, h⟩ := zl_some h
      obtain ⟨v19, σ20, hv, h⟩ := zb_some h
      refine xcallVi (pc := 28) (As := []) (rest := []) ⟨hx, hb, hml, hown, hts⟩ (c_X12_good l D c o g N hv) zc12 zV_X12_157 rfl zd_X12_good ⟨Nat.le_of_ble_eq_true rfl, Nat.le_of_ble_eq_true rfl⟩ hK hP hE hS hg hl.1 rfl (Nat.le_of_ble_eq_true rfl) ⟨Nat.zero_le _, Nat.zero_le _⟩ dX12_goesBehind_28 (fun H locs hP hS => ?_)
      refine lv_if_ne (pc := 31) (tgt := 36) hx hb dX12_goesBehind_31 (by decide) (fun c1 => ?_) (fun c1 => ?_)
      · rw [if_neg c1] at h
        refine lv_aload_n (pc := 36) hx hb dX12_goesBehind_36 rfl (lv_at hl 0 rfl) ?_
        refine lv_dup (pc := 37) hx hb dX12_goesBehind_37 rfl ?_
        obtain ⟨v21, hv, h⟩ := zl_some h
        refine xgI (pc := 38) (j := 25) zc12 hx hb hts hown hK hP hv rfl zf_X12_151 dX12_goesBehind_38 ?_
        refine lv_iconst (pc := 41) (v := 1) hx hb dX12_goesBehind_41 (by decide) ?_
        refine lv_iadd (pc := 42) hx hb dX12_goesBehind_42 ?_
        obtain ⟨σ22, hv, h⟩ := zl_some h
        refine xpI (pc := 43) (j := 25) zc12 hx hb hts hown hK hP hS hv rfl rfl rfl zf_X12_151 dX12_goesBehind_43 (fun H locs hP hS => ?_)
        refine lv_aload_n (pc := 46) hx hb dX12_goesBehind_46 rfl (lv_at hl 0 rfl) ?_
        refine lv_iload_n (pc := 47) hx hb dX12_goesBehind_47 rfl (lv_at hl 1 rfl) ?_
        obtain ⟨v23, σ24, hv, h⟩ := zb_some h
        refine xcallSi (pc := 48) (As := [.int v2]) (rest := [.ref (o + x0)]) ⟨hx, hb, hml, hown, hts⟩ (c_X12_rank l D c o g N hv) zT_X12_222 rfl zd_X12_rank ⟨Nat.le_of_ble_eq_true rfl, Nat.le_of_ble_eq_true rfl⟩ hK hP hE hS hl.1 rfl (Nat.le_of_ble_eq_true rfl) ⟨Nat.zero_le _, Nat.zero_le _⟩ dX12_goesBehind_48 (fun H locs hP hS => ?_)
        obtain ⟨_, hg, h⟩ := zl_some h
        obtain ⟨v25, σ26, hv, h⟩ := zb_some h
        refine xcallVv (pc := 51) (As := [.int v23]) (rest := []) ⟨hx, hb, hml, hown, hts⟩ (c_X12_settlesTo l D c o g N hv) zc12 zV_X12_264 rfl zd_X12_settlesTo ⟨Nat.le_of_ble_eq_true rfl, Nat.le_of_ble_eq_true rfl⟩ hK hP hE hS hg hl.1 rfl (Nat.le_of_ble_eq_true rfl) ⟨Nat.zero_le _, Nat.zero_le _⟩ dX12_goesBehind_51 (fun H locs hP hS => ?_)
        refine lv_aload_n (pc := 54) hx hb dX12_goesBehind_54 rfl (lv_at hl 0 rfl) ?_
        obtain ⟨v27, hv, h⟩ := zl_some h
        refine xgR (pc := 55) (j := 21) zc12 hx hb hts hown hK hP hv rfl zf_X12_49 dX12_goesBehind_55 ?_
        refine lv_aload_n (pc := 58) hx hb dX12_goesBehind_58 rfl (lv_at hl 0 rfl) ?_
        obtain ⟨v28, hv, h⟩ := zl_some h
        refine xgI (pc := 59) (j := 22) zc12 hx hb hts hown hK hP hv rfl zf_X12_203 dX12_goesBehind_59 ?_
        refine lv_iload_n (pc := 62) hx hb dX12_goesBehind_62 rfl (lv_at hl 1 rfl) ?_
        obtain ⟨σ29, hv, h⟩ := zl_some h
        refine xsI (pc := 63) hx hb hK hP hS hv dX12_goesBehind_63 (fun H locs hP hS => ?_)
        refine lv_aload_n (pc := 64) hx hb dX12_goesBehind_64 rfl (lv_at hl 0 rfl) ?_
        refine lv_dup (pc := 65) hx hb dX12_goesBehind_65 rfl ?_
        obtain ⟨v30, hv, h⟩ := zl_some h
        refine xgI (pc := 66) (j := 22) zc12 hx hb hts hown hK hP hv rfl zf_X12_203 dX12_goesBehind_66 ?_
        refine lv_iconst (pc := 69) (v := 1) hx hb dX12_goesBehind_69 (by decide) ?_
        refine lv_iadd (pc := 70) hx hb dX12_goesBehind_70 ?_
        obtain ⟨σ31, hv, h⟩ := zl_some h
        refine xpI (pc := 71) (j := 22) zc12 hx hb hts hown hK hP hS hv rfl rfl rfl zf_X12_203 dX12_goesBehind_71 (fun H locs hP hS => ?_)
        refine lv_aload_n (pc := 74) hx hb dX12_goesBehind_74 rfl (lv_at hl 0 rfl) ?_
        obtain ⟨_, hg, h⟩ := zl_some h
        obtain ⟨v32, σ33, hv, h⟩ := zb_some h
        refine xcallVv (pc := 75) (As := []) (rest := []) ⟨hx, hb, hml, hown, hts⟩ (c_X12_advance l D c o g N hv) zc12 zV_X12_154 rfl zd_X12_advance ⟨Nat.le_of_ble_eq_true rfl, Nat.le_of_ble_eq_true rfl⟩ hK hP hE hS hg hl.1 rfl (Nat.le_of_ble_eq_true rfl) ⟨Nat.zero_le _, Nat.zero_le _⟩ dX12_goesBehind_75 (fun H locs hP hS => ?_)
        refine lv_iconst (pc := 78) (v := 1) hx hb dX12_goesBehind_78 (by decide) ?_
        exact xreti (pc := 79) hx hb hr hlocks hP hK hE hS h dX12_goesBehind_79
      · rw [if_pos c1] at h
        refine lv_iconst (pc := 34) (v := (-1)) hx hb dX12_goesBehind_34 (by decide) ?_
        exact xreti (pc := 35) hx hb hr hlocks hP hK hE hS h dX12_goesBehind_35
    refine lv_icmp_ne (pc := 19) (tgt := 27) hx hb dX12_goesBehind_19 (by decide) (fun c1 => ?_) (fun c1 => ?_)
    · rw [if_neg c1] at h
      exact hj27_18 σ3 h _ _ ls hP hS (lv_sub hl [1, 0] rfl)
    · rw [if_pos c1] at h
      refine lv_aload_n (pc := 22) hx hb dX12_goesBehind_22 rfl (lv_at hl 1 rfl) ?_
      refine lv_iconst (pc := 23) (v := 3) hx hb dX12_goesBehind_23 (by decide) ?_
      obtain ⟨_, hg, h⟩ := zl_some h
      obtain ⟨v34, σ35, hv, h⟩ := zb_some h
      refine xcallVv (pc := 24) (As := [.int 3]) (rest := []) ⟨hx, hb, hml, hown, hts⟩ (c_X12_errs l D c o g N hv) zc12 zV_X12_176 rfl zd_X12_errs ⟨Nat.le_of_ble_eq_true rfl, Nat.le_of_ble_eq_true rfl⟩ hK hP hE hS hg hl.1 rfl (Nat.le_of_ble_eq_true rfl) ⟨Nat.zero_le _, Nat.zero_le _⟩ dX12_goesBehind_24 (fun H locs hP hS => ?_)
      exact hj27_18 σ35 h _ _ ls hP hS (lv_sub hl [1, 0] rfl)
def J_X12_readsSum_98 (N : Nat) (x0 : Nat) (σ : zS) : Option (Unit × zS) :=
  zl (gC 12 x0) fun _ => zb (f_X12_good N x0 σ) fun v9 σ10 =>
  if v9 = 0 then
    (some ((), σ10))
  else
    (zl (gC 12 x0) fun _ => zb (f_X12_settlesTo N x0 1 σ10) fun v11 σ12 =>
    some ((), σ12))
def J_X12_readsSum_86 (N : Nat) (x0 : Nat) (σ : zS) : Option (Unit × zS) :=
  zl (gC 12 x0) fun _ => zb (f_X12_isOpen N x0 σ) fun v7 σ8 =>
  if v7 = 0 then
    (J_X12_readsSum_98 N x0 σ8)
  else
    (zl (gC 12 x0) fun _ => zb (f_X12_errs N x0 1 σ8) fun v13 σ14 =>
    J_X12_readsSum_98 N x0 σ14)
def J_X12_readsSum_69 (N : Nat) (again27 : (Int32 × Int32 × zS) → Option (Unit × zS)) (x0 : Nat) (x1 : Int32) (x2 : Nat) (x5 : Int32) (y0 : Int32) (σ : zS) : Option (Unit × zS) :=
  if x5 = (-1) then
    (again27 (y0, 0, σ))
  else
    (again27 (y0, 1, σ))
def F_X12_readsSum_27 (N : Nat) (x0 : Nat) (x1 : Int32) (x2 : Nat) (again27 : (Int32 × Int32 × zS) → Option (Unit × zS)) : Int32 × Int32 × zS → Option (Unit × zS)
  | (x3, x4, σ) =>
  zl (gC 12 x0) fun _ => zb (f_X12_good N x0 σ) fun v5 σ6 =>
  if v5 = 0 then
    (J_X12_readsSum_86 N x0 σ6)
  else
    (if x4 = 0 then
      (J_X12_readsSum_86 N x0 σ6)
    else
      (if x3 = 0 then
        (zl (gC 12 x0) fun _ => zb (f_X12_readsPart N x0 x1 x2 σ6) fun v15 σ16 =>
        again27 (v15, x4, σ16))
      else
        (zl (gC 12 x0) fun _ => zb (f_X12_goesBehind N x0 σ6) fun v17 σ18 =>
        if v17 = 0 then
          (J_X12_readsSum_69 N again27 x0 x1 x2 v17 1 σ18)
        else
          (J_X12_readsSum_69 N again27 x0 x1 x2 v17 0 σ18))))
def f_X12_readsSum (N : Nat) (x0 : Nat) (x1 : Int32) (x2 : Nat) (σ : zS) : Option (Unit × zS) :=
  zl (pI 12 20 x0 ((1 : Int32) <<< (x1 &&& 31)) σ) fun σ1 =>
  zl (pI 12 22 x0 0 σ1) fun σ2 =>
  zl (pI 12 23 x0 0 σ2) fun σ3 =>
  zl (pI 12 24 x0 0 σ3) fun σ4 =>
  zlp (F_X12_readsSum_27 N x0 x1 x2) N (0, 1, σ4)
set_option maxHeartbeats 4000000 in
set_option maxRecDepth 100000 in
theorem c_X12_readsSum (l : Launch) (D : va_G) (c : zC) (o : Nat) (g : zEp) (N : Nat) {x0 : Nat} {x1 : Int32} {x2 : Nat} {σ : zS} {ρ : Unit × zS} (h : f_X12_readsSum N x0 x1 x2 σ = some ρ) : Met l yX12_readsSum zs_X12_readsSum (zr 20) (va_Pc [.ref (o + x0), .int x1, .ref (o + x2)] (zG D c o g σ)) (zQu D c o g ρ) 0 0 (zA o) := by
  refine zMetG (by decide) (Nat.le_of_ble_eq_true rfl) ?_
  intro p e s m below meth cd ⟨hx, hb, hr, hml, hown, hts, hlocks⟩ hP hK hE ls hl
  have hS : va_S (zA o) s.heap s.heap [] := va_S.rf
  have hl : lv_has ls 6 [(0, .ref (o + x0)), (1, .int x1), (2, .ref (o + x2))] := hl
  rw [f_X12_readsSum.eq_1] at h
  refine lv_aload_n (pc := 0) hx hb dX12_readsSum_0 rfl (lv_at hl 0 rfl) ?_
  refine lv_iconst (pc := 1) (v := 1) hx hb dX12_readsSum_1 (by decide) ?_
  refine lv_iload_n (pc := 2) hx hb dX12_readsSum_2 rfl (lv_at hl 1 rfl) ?_
  refine lv_ishl (pc := 3) hx hb dX12_readsSum_3 ?_
  obtain ⟨σ1, hv, h⟩ := zl_some h
  refine xpI (pc := 4) (j := 20) zc12 hx hb hts hown hK hP hS hv rfl rfl rfl zf_X12_180 dX12_readsSum_4 (fun H locs hP hS => ?_)
  refine lv_aload_n (pc := 7) hx hb dX12_readsSum_7 rfl (lv_at hl 0 rfl) ?_
  refine lv_iconst (pc := 8) (v := 0) hx hb dX12_readsSum_8 (by decide) ?_
  obtain ⟨σ2, hv, h⟩ := zl_some h
  refine xpI (pc := 9) (j := 22) zc12 hx hb hts hown hK hP hS hv rfl rfl rfl zf_X12_203 dX12_readsSum_9 (fun H locs hP hS => ?_)
  refine lv_aload_n (pc := 12) hx hb dX12_readsSum_12 rfl (lv_at hl 0 rfl) ?_
  refine lv_iconst (pc := 13) (v := 0) hx hb dX12_readsSum_13 (by decide) ?_
  obtain ⟨σ3, hv, h⟩ := zl_some h
  refine xpI (pc := 14) (j := 23) zc12 hx hb hts hown hK hP hS hv rfl rfl rfl zf_X12_206 dX12_readsSum_14 (fun H locs hP hS => ?_)
  refine lv_aload_n (pc := 17) hx hb dX12_readsSum_17 rfl (lv_at hl 0 rfl) ?_
  refine lv_iconst (pc := 18) (v := 0) hx hb dX12_readsSum_18 (by decide) ?_
  obtain ⟨σ4, hv, h⟩ := zl_some h
  refine xpI (pc := 19) (j := 24) zc12 hx hb hts hown hK hP hS hv rfl rfl rfl zf_X12_215 dX12_readsSum_19 (fun H locs hP hS => ?_)
  refine lv_iconst (pc := 22) (v := 0) hx hb dX12_readsSum_22 (by decide) ?_
  refine lv_istore_n (pc := 23) (lv' := [(3, .int 0), (0, .ref (o + x0)), (1, .int x1), (2, .ref (o + x2))]) hx hb dX12_readsSum_23 rfl hl (by decide) rfl (fun ls hl => ?_)
  refine lv_iconst (pc := 24) (v := 1) hx hb dX12_readsSum_24 (by decide) ?_
  refine lv_istore (pc := 25) (lv' := [(4, .int 1), (3, .int 0), (0, .ref (o + x0)), (1, .int x1), (2, .ref (o + x2))]) hx hb dX12_readsSum_25 hl (by decide) rfl (fun ls hl => ?_)
  have L27_5 : ∀ (n : Nat) (t : Int32 × Int32 × zS), zlp (F_X12_readsSum_27 N x0 x1 x2) n t = some ρ → ∀ (H : Heap) (locs : List Loc) (ls : Array Slot), zP D c o (zabs o (t.2.2)) H → va_S (zA o) s.heap H locs → lv_has ls 6 [(3, .int (t.1)), (4, .int (t.2.1)), (0, .ref (o + x0)), (1, .int x1), (2, .ref (o + x2))] → W p l e (zr 20) s m (([.ref (o + x0), .int x1, .ref (o + x2)] : List Value).toArray) below meth cd H locs 0 0 (MQ below (zQu D c o g ρ) (([.ref (o + x0), .int x1, .ref (o + x2)] : List Value).toArray) s 0 0 (zA o)) (F0 m 27 ls []) := by
    refine zlp_ind (fun ag5 ih5 t h H locs ls hP hS hl => ?_)
    obtain ⟨x3_5, x4_5, σ5⟩ := t
    have hP : zP D c o (zabs o σ5) H := hP
    have hl : lv_has ls 6 [(3, .int x3_5), (4, .int x4_5), (0, .ref (o + x0)), (1, .int x1), (2, .ref (o + x2))] := hl
    rw [F_X12_readsSum_27.eq_1] at h
    show W p l e (zr 20) s m (([.ref (o + x0), .int x1, .ref (o + x2)] : List Value).toArray) below meth cd H locs 0 0 (MQ below (zQu D c o g ρ) (([.ref (o + x0), .int x1, .ref (o + x2)] : List Value).toArray) s 0 0 (zA o)) (F0 m 27 ls [])
    refine lv_aload_n (pc := 27) hx hb dX12_readsSum_27 rfl (lv_at hl 2 rfl) ?_
    obtain ⟨_, hg, h⟩ := zl_some h
    obtain ⟨v6, σ7, hv, h⟩ := zb_some h
    refine xcallVi (pc := 28) (As := []) (rest := []) ⟨hx, hb, hml, hown, hts⟩ (c_X12_good l D c o g N hv) zc12 zV_X12_157 rfl zd_X12_good ⟨Nat.le_of_ble_eq_true rfl, Nat.le_of_ble_eq_true rfl⟩ hK hP hE hS hg hl.1 rfl (Nat.le_of_ble_eq_true rfl) ⟨Nat.zero_le _, Nat.zero_le _⟩ dX12_readsSum_28 (fun H locs hP hS => ?_)
    have hj86_8 : ∀ (σ8 : zS), J_X12_readsSum_86 N x0 σ8 = some ρ → ∀ (H : Heap) (locs : List Loc) (ls : Array Slot), zP D c o (zabs o σ8) H → va_S (zA o) s.heap H locs → lv_has ls 6 [(0, .ref (o + x0))] → W p l e (zr 20) s m (([.ref (o + x0), .int x1, .ref (o + x2)] : List Value).toArray) below meth cd H locs 0 0 (MQ below (zQu D c o g ρ) (([.ref (o + x0), .int x1, .ref (o + x2)] : List Value).toArray) s 0 0 (zA o)) (F0 m 86 ls []) := by
      intro σ8 h H locs ls hP hS hl
      rw [J_X12_readsSum_86.eq_1] at h
      refine lv_aload_n (pc := 86) hx hb dX12_readsSum_86 rfl (lv_at hl 0 rfl) ?_
      obtain ⟨_, hg, h⟩ := zl_some h
      obtain ⟨v9, σ10, hv, h⟩ := zb_some h
      refine xcallVi (pc := 87) (As := []) (rest := []) ⟨hx, hb, hml, hown, hts⟩ (c_X12_isOpen l D c o g N hv) zc12 zV_X12_270 rfl zd_X12_isOpen ⟨Nat.le_of_ble_eq_true rfl, Nat.le_of_ble_eq_true rfl⟩ hK hP hE hS hg hl.1 rfl (Nat.le_of_ble_eq_true rfl) ⟨Nat.zero_le _, Nat.zero_le _⟩ dX12_readsSum_87 (fun H locs hP hS => ?_)
      have hj98_11 : ∀ (σ11 : zS), J_X12_readsSum_98 N x0 σ11 = some ρ → ∀ (H : Heap) (locs : List Loc) (ls : Array Slot), zP D c o (zabs o σ11) H → va_S (zA o) s.heap H locs → lv_has ls 6 [(0, .ref (o + x0))] → W p l e (zr 20) s m (([.ref (o + x0), .int x1, .ref (o + x2)] : List Value).toArray) below meth cd H locs 0 0 (MQ below (zQu D c o g ρ) (([.ref (o + x0), .int x1, .ref (o + x2)] : List Value).toArray) s 0 0 (zA o)) (F0 m 98 ls []) := by
        intro σ11 h H locs ls hP hS hl
        rw [J_X12_readsSum_98.eq_1] at h
        refine lv_aload_n (pc := 98) hx hb dX12_readsSum_98 rfl (lv_at hl 0 rfl) ?_
        obtain ⟨_, hg, h⟩ := zl_some h
        obtain ⟨v12, σ13, hv, h⟩ := zb_some h
        refine xcallVi (pc := 99) (As := []) (rest := []) ⟨hx, hb, hml, hown, hts⟩ (c_X12_good l D c o g N hv) zc12 zV_X12_157 rfl zd_X12_good ⟨Nat.le_of_ble_eq_true rfl, Nat.le_of_ble_eq_true rfl⟩ hK hP hE hS hg hl.1 rfl (Nat.le_of_ble_eq_true rfl) ⟨Nat.zero_le _, Nat.zero_le _⟩ dX12_readsSum_99 (fun H locs hP hS => ?_)
        refine lv_if_eq (pc := 102) (tgt := 110) hx hb dX12_readsSum_102 (by decide) (fun c1 => ?_) (fun c1 => ?_)
        · rw [if_pos c1] at h
          exact xretv (pc := 110) hx hb hr hlocks hP hK hE hS h dX12_readsSum_110
        · rw [if_neg c1] at h
          refine lv_aload_n (pc := 105) hx hb dX12_readsSum_105 rfl (lv_at hl 0 rfl) ?_
          refine lv_iconst (pc := 106) (v := 1) hx hb dX12_readsSum_106 (by decide) ?_
          obtain ⟨_, hg, h⟩ := zl_some h
          obtain ⟨v14, σ15, hv, h⟩ := zb_some h
          refine xcallVv (pc := 107) (As := [.int 1]) (rest := []) ⟨hx, hb, hml, hown, hts⟩ (c_X12_settlesTo l D c o g N hv) zc12 zV_X12_264 rfl zd_X12_settlesTo ⟨Nat.le_of_ble_eq_true rfl, Nat.le_of_ble_eq_true rfl⟩ hK hP hE hS hg hl.1 rfl (Nat.le_of_ble_eq_true rfl) ⟨Nat.zero_le _, Nat.zero_le _⟩ dX12_readsSum_107 (fun H locs hP hS => ?_)
          exact xretv (pc := 110) hx hb hr hlocks hP hK hE hS h dX12_readsSum_110
      refine lv_if_eq (pc := 90) (tgt := 98) hx hb dX12_readsSum_90 (by decide) (fun c1 => ?_) (fun c1 => ?_)
      · rw [if_pos c1] at h
        exact hj98_11 σ10 h _ _ ls hP hS (lv_sub hl [0] rfl)
      · rw [if_neg c1] at h
        refine lv_aload_n (pc := 93) hx hb dX12_readsSum_93 rfl (lv_at hl 0 rfl) ?_
        refine lv_iconst (pc := 94) (v := 1) hx hb dX12_readsSum_94 (by decide) ?_
        obtain ⟨_, hg, h⟩ := zl_some h
        obtain ⟨v16, σ17, hv, h⟩ := zb_some h
        refine xcallVv (pc := 95) (As := [.int 1]) (rest := []) ⟨hx, hb, hml, hown, hts⟩ (c_X12_errs l D c o g N hv) zc12 zV_X12_176 rfl zd_X12_errs ⟨Nat.le_of_ble_eq_true rfl, Nat.le_of_ble_eq_true rfl⟩ hK hP hE hS hg hl.1 rfl (Nat.le_of_ble_eq_true rfl) ⟨Nat.zero_le _, Nat.zero_le _⟩ dX12_readsSum_95 (fun H locs hP hS => ?_)
        exact hj98_11 σ17 h _ _ ls hP hS (lv_sub hl [0] rfl)
    refine lv_if_eq (pc := 31) (tgt := 86) hx hb dX12_readsSum_31 (by decide) (fun c1 => ?_) (fun c1 => ?_)
    · rw [if_pos c1] at h
      exact hj86_8 σ7 h _ _ ls hP hS (lv_sub hl [2] rfl)
    · rw [if_neg c1] at h
      refine lv_iload (pc := 34) hx hb dX12_readsSum_34 (lv_at hl 1 rfl) ?_
      refine lv_if_eq (pc := 36) (tgt := 86) hx hb dX12_readsSum_36 (by decide) (fun c1 => ?_) (fun c1 => ?_)
      · rw [if_pos c1] at h
        exact hj86_8 σ7 h _ _ ls hP hS (lv_sub hl [2] rfl)
      · rw [if_neg c1] at h
        refine lv_iload_n (pc := 39) hx hb dX12_readsSum_39 rfl (lv_at hl 0 rfl) ?_
        refine lv_if_ne (pc := 40) (tgt := 53) hx hb dX12_readsSum_40 (by decide) (fun c1 => ?_) (fun c1 => ?_)
        · rw [if_neg c1] at h
          refine lv_aload_n (pc := 53) hx hb dX12_readsSum_53 rfl (lv_at hl 2 rfl) ?_
          obtain ⟨_, hg, h⟩ := zl_some h
          obtain ⟨v18, σ19, hv, h⟩ := zb_some h
          refine xcallVi (pc := 54) (As := []) (rest := []) ⟨hx, hb, hml, hown, hts⟩ (c_X12_goesBehind l D c o g N hv) zc12 zV_X12_277 rfl zd_X12_goesBehind ⟨Nat.le_of_ble_eq_true rfl, Nat.le_of_ble_eq_true rfl⟩ hK hP hE hS hg hl.1 rfl (Nat.le_of_ble_eq_true rfl) ⟨Nat.zero_le _, Nat.zero_le _⟩ dX12_readsSum_54 (fun H locs hP hS => ?_)
          refine lv_istore (pc := 57) (lv' := [(5, .int v18), (3, .int x3_5), (4, .int x4_5), (0, .ref (o + x0)), (1, .int x1), (2, .ref (o + x2))]) hx hb dX12_readsSum_57 hl (by decide) rfl (fun ls hl => ?_)
          refine lv_iload (pc := 59) hx hb dX12_readsSum_59 (lv_at hl 0 rfl) ?_
          have hj69_20 : ∀ (y0_20 : Int32) (σ20 : zS), J_X12_readsSum_69 N ag5 x0 x1 x2 v18 y0_20 σ20 = some ρ → ∀ (H : Heap) (locs : List Loc) (ls : Array Slot), zP D c o (zabs o σ20) H → va_S (zA o) s.heap H locs → lv_has ls 6 [(0, .ref (o + x0)), (1, .int x1), (2, .ref (o + x2)), (5, .int v18)] → W p l e (zr 20) s m (([.ref (o + x0), .int x1, .ref (o + x2)] : List Value).toArray) below meth cd H locs 0 0 (MQ below (zQu D c o g ρ) (([.ref (o + x0), .int x1, .ref (o + x2)] : List Value).toArray) s 0 0 (zA o)) (F0 m 69 ls [.int y0_20]) := by
            intro y0_20 σ20 h H locs ls hP hS hl
            rw [J_X12_readsSum_69.eq_1] at h
            refine lv_istore_n (pc := 69) (lv' := [(3, .int y0_20), (0, .ref (o + x0)), (1, .int x1), (2, .ref (o + x2)), (5, .int v18)]) hx hb dX12_readsSum_69 rfl hl (by decide) rfl (fun ls hl => ?_)
            refine lv_iload (pc := 70) hx hb dX12_readsSum_70 (lv_at hl 4 rfl) ?_
            refine lv_iconst (pc := 72) (v := (-1)) hx hb dX12_readsSum_72 (by decide) ?_
            refine lv_icmp_eq (pc := 73) (tgt := 80) hx hb dX12_readsSum_73 (by decide) (fun c1 => ?_) (fun c1 => ?_)
            · rw [if_pos c1] at h
              refine lv_iconst (pc := 80) (v := 0) hx hb dX12_readsSum_80 (by decide) ?_
              refine lv_istore (pc := 81) (lv' := [(4, .int 0), (3, .int y0_20), (0, .ref (o + x0)), (1, .int x1), (2, .ref (o + x2)), (5, .int v18)]) hx hb dX12_readsSum_81 hl (by decide) rfl (fun ls hl => ?_)
              refine lv_goto (pc := 83) (tgt := 27) hx hb dX12_readsSum_83 (by decide) ?_
              exact ih5 (y0_20, 0, σ20) h _ _ ls hP hS (lv_sub hl [1, 0, 2, 3, 4] rfl)
            · rw [if_neg c1] at h
              refine lv_iconst (pc := 76) (v := 1) hx hb dX12_readsSum_76 (by decide) ?_
              refine lv_goto (pc := 77) (tgt := 81) hx hb dX12_readsSum_77 (by decide) ?_
              refine lv_istore (pc := 81) (lv' := [(4, .int 1), (3, .int y0_20), (0, .ref (o + x0)), (1, .int x1), (2, .ref (o + x2)), (5, .int v18)]) hx hb dX12_readsSum_81 hl (by decide) rfl (fun ls hl => ?_)
              refine lv_goto (pc := 83) (tgt := 27) hx hb dX12_readsSum_83 (by decide) ?_
              exact ih5 (y0_20, 1, σ20) h _ _ ls hP hS (lv_sub hl [1, 0, 2, 3, 4] rfl)
          refine lv_if_ne (pc := 61) (tgt := 68) hx hb dX12_readsSum_61 (by decide) (fun c1 => ?_) (fun c1 => ?_)
          · rw [if_neg c1] at h
            refine lv_iconst (pc := 68) (v := 0) hx hb dX12_readsSum_68 (by decide) ?_
            exact hj69_20 (0) σ19 h _ _ ls hP hS (lv_sub hl [3, 4, 5, 0] rfl)
          · rw [if_pos c1] at h
            refine lv_iconst (pc := 64) (v := 1) hx hb dX12_readsSum_64 (by decide) ?_
            refine lv_goto (pc := 65) (tgt := 69) hx hb dX12_readsSum_65 (by decide) ?_
            exact hj69_20 (1) σ19 h _ _ ls hP hS (lv_sub hl [3, 4, 5, 0] rfl)
        · rw [if_pos c1] at h
          refine lv_aload_n (pc := 43) hx hb dX12_readsSum_43 rfl (lv_at hl 2 rfl) ?_
          refine lv_iload_n (pc := 44) hx hb dX12_readsSum_44 rfl (lv_at hl 3 rfl) ?_
          refine lv_aload_n (pc := 45) hx hb dX12_readsSum_45 rfl (lv_at hl 4 rfl) ?_
          obtain ⟨_, hg, h⟩ := zl_some h
          obtain ⟨v21, σ22, hv, h⟩ := zb_some h
          refine xcallVi (pc := 46) (As := [.int x1, .ref (o + x2)]) (rest := []) ⟨hx, hb, hml, hown, hts⟩ (c_X12_readsPart l D c o g N hv) zc12 zV_X12_273 rfl zd_X12_readsPart ⟨Nat.le_of_ble_eq_true rfl, Nat.le_of_ble_eq_true rfl⟩ hK hP hE hS hg hl.1 rfl (Nat.le_of_ble_eq_true rfl) ⟨Nat.zero_le _, Nat.zero_le _⟩ dX12_readsSum_46 (fun H locs hP hS => ?_)
          refine lv_istore_n (pc := 49) (lv' := [(3, .int v21), (4, .int x4_5), (0, .ref (o + x0)), (1, .int x1), (2, .ref (o + x2))]) hx hb dX12_readsSum_49 rfl hl (by decide) rfl (fun ls hl => ?_)
          refine lv_goto (pc := 50) (tgt := 27) hx hb dX12_readsSum_50 (by decide) ?_
          exact ih5 (v21, x4_5, σ22) h _ _ ls hP hS (lv_sub hl [0, 1, 2, 3, 4] rfl)
  exact L27_5 N (0, 1, σ4) h _ _ ls hP hS (lv_sub hl [1, 0, 2, 3, 4] rfl)
def F_X12_readsNames_22 (N : Nat) (x0 : Nat) (again22 : (Int32 × zS) → Option (Unit × zS)) : Int32 × zS → Option (Unit × zS)
  | (x1, σ) =>
  if 10 ≤ x1 then
    (some ((), σ))
  else
    (zl (gR 12 26 x0 σ) fun v7 =>
    zl (sI 14 v7 (3 + x1) 1 σ) fun σ8 =>
    zl (gR 12 26 x0 σ8) fun v9 =>
    zl (sI 14 v9 (33 + x1) x1 σ8) fun σ10 =>
    again22 (x1 + 1, σ10))
def f_X12_readsNames (N : Nat) (x0 : Nat) (σ : zS) : Option (Unit × zS) :=
  zl (gC 12 x0) fun _ => zb (f_X12_needs N x0 11 σ) fun v1 σ2 =>
  zl (gR 12 26 x0 σ2) fun v3 =>
  zl (gC 12 x0) fun _ => zb (f_X12_number N x0 1 10 σ2) fun v4 σ5 =>
  zl (sI 14 v3 0 v4 σ5) fun σ6 =>
  zlp (F_X12_readsNames_22 N x0) N (0, σ6)
set_option maxHeartbeats 4000000 in
set_option maxRecDepth 100000 in
theorem c_X12_readsNames (l : Launch) (D : va_G) (c : zC) (o : Nat) (g : zEp) (N : Nat) {x0 : Nat} {σ : zS} {ρ : Unit × zS} (h : f_X12_readsNames N x0 σ = some ρ) : Met l yX12_readsNames zs_X12_readsNames (zr 20) (va_Pc [.ref (o + x0)] (zG D c o g σ)) (zQu D c o g ρ) 0 0 (zA o) := by
  refine zMetG (by decide) (Nat.le_of_ble_eq_true rfl) ?_
  intro p e s m below meth cd ⟨hx, hb, hr, hml, hown, hts, hlocks⟩ hP hK hE ls hl
  have hS : va_S (zA o) s.heap s.heap [] := va_S.rf
  have hl : lv_has ls 2 [(0, .ref (o + x0))] := hl
  rw [f_X12_readsNames.eq_1] at h
  refine lv_aload_n (pc := 0) hx hb dX12_readsNames_0 rfl (lv_at hl 0 rfl) ?_
  refine xldcSw (pc := 1) hx hb hown (hE.2.2.2.2.2 (RX12, 280, "names", 11) (by decide)) dX12_readsNames_1 ?_
  obtain ⟨_, hg, h⟩ := zl_some h
  obtain ⟨v1, σ2, hv, h⟩ := zb_some h
  refine xcallVv (pc := 4) (As := [.ref (g.2.1 11)]) (rest := []) ⟨hx, hb, hml, hown, hts⟩ (c_X12_needs l D c o g N hv) zc12 zV_X12_282 rfl zd_X12_needs ⟨Nat.le_of_ble_eq_true rfl, Nat.le_of_ble_eq_true rfl⟩ hK hP hE hS hg hl.1 rfl (Nat.le_of_ble_eq_true rfl) ⟨Nat.zero_le _, Nat.zero_le _⟩ dX12_readsNames_4 (fun H locs hP hS => ?_)
  refine lv_aload_n (pc := 7) hx hb dX12_readsNames_7 rfl (lv_at hl 0 rfl) ?_
  obtain ⟨v3, hv, h⟩ := zl_some h
  refine xgR (pc := 8) (j := 26) zc12 hx hb hts hown hK hP hv rfl zf_X12_52 dX12_readsNames_8 ?_
  refine lv_iconst (pc := 11) (v := 0) hx hb dX12_readsNames_11 (by decide) ?_
  refine lv_aload_n (pc := 12) hx hb dX12_readsNames_12 rfl (lv_at hl 0 rfl) ?_
  refine lv_iconst (pc := 13) (v := 1) hx hb dX12_readsNames_13 (by decide) ?_
  refine lv_bipush (pc := 14) (v := 10) hx hb dX12_readsNames_14 (by decide) ?_
  obtain ⟨_, hg, h⟩ := zl_some h
  obtain ⟨v4, σ5, hv, h⟩ := zb_some h
  refine xcallVi (pc := 16) (As := [.int 1, .int 10]) (rest := [.int 0, .ref (o + v3)]) ⟨hx, hb, hml, hown, hts⟩ (c_X12_number l D c o g N hv) zc12 zV_X12_239 rfl zd_X12_number ⟨Nat.le_of_ble_eq_true rfl, Nat.le_of_ble_eq_true rfl⟩ hK hP hE hS hg hl.1 rfl (Nat.le_of_ble_eq_true rfl) ⟨Nat.zero_le _, Nat.zero_le _⟩ dX12_readsNames_16 (fun H locs hP hS => ?_)
  obtain ⟨σ6, hv, h⟩ := zl_some h
  refine xsI (pc := 19) hx hb hK hP hS hv dX12_readsNames_19 (fun H locs hP hS => ?_)
  refine lv_iconst (pc := 20) (v := 0) hx hb dX12_readsNames_20 (by decide) ?_
  refine lv_istore_n (pc := 21) (lv' := [(1, .int 0), (0, .ref (o + x0))]) hx hb dX12_readsNames_21 rfl hl (by decide) rfl (fun ls hl => ?_)
  have L22_7 : ∀ (n : Nat) (t : Int32 × zS), zlp (F_X12_readsNames_22 N x0) n t = some ρ → ∀ (H : Heap) (locs : List Loc) (ls : Array Slot), zP D c o (zabs o (t.2)) H → va_S (zA o) s.heap H locs → lv_has ls 2 [(1, .int (t.1)), (0, .ref (o + x0))] → W p l e (zr 20) s m (([.ref (o + x0)] : List Value).toArray) below meth cd H locs 0 0 (MQ below (zQu D c o g ρ) (([.ref (o + x0)] : List Value).toArray) s 0 0 (zA o)) (F0 m 22 ls []) := by
    refine zlp_ind (fun ag7 ih7 t h H locs ls hP hS hl => ?_)
    obtain ⟨x1_7, σ7⟩ := t
    have hP : zP D c o (zabs o σ7) H := hP
    have hl : lv_has ls 2 [(1, .int x1_7), (0, .ref (o + x0))] := hl
    rw [F_X12_readsNames_22.eq_1] at h
    show W p l e (zr 20) s m (([.ref (o + x0)] : List Value).toArray) below meth cd H locs 0 0 (MQ below (zQu D c o g ρ) (([.ref (o + x0)] : List Value).toArray) s 0 0 (zA o)) (F0 m 22 ls [])
    refine lv_iload_n (pc := 22) hx hb dX12_readsNames_22 rfl (lv_at hl 0 rfl) ?_
    refine lv_bipush (pc := 23) (v := 10) hx hb dX12_readsNames_23 (by decide) ?_
    refine lv_icmp_ge (pc := 25) (tgt := 53) hx hb dX12_readsNames_25 (by decide) (fun c1 => ?_) (fun c1 => ?_)
    · rw [if_pos c1] at h
      exact xretv (pc := 53) hx hb hr hlocks hP hK hE hS h dX12_readsNames_53
    · rw [if_neg c1] at h
      refine lv_aload_n (pc := 28) hx hb dX12_readsNames_28 rfl (lv_at hl 1 rfl) ?_
      obtain ⟨v8, hv, h⟩ := zl_some h
      refine xgR (pc := 29) (j := 26) zc12 hx hb hts hown hK hP hv rfl zf_X12_52 dX12_readsNames_29 ?_
      refine lv_iconst (pc := 32) (v := 3) hx hb dX12_readsNames_32 (by decide) ?_
      refine lv_iload_n (pc := 33) hx hb dX12_readsNames_33 rfl (lv_at hl 0 rfl) ?_
      refine lv_iadd (pc := 34) hx hb dX12_readsNames_34 ?_
      refine lv_iconst (pc := 35) (v := 1) hx hb dX12_readsNames_35 (by decide) ?_
      obtain ⟨σ9, hv, h⟩ := zl_some h
      refine xsI (pc := 36) hx hb hK hP hS hv dX12_readsNames_36 (fun H locs hP hS => ?_)
      refine lv_aload_n (pc := 37) hx hb dX12_readsNames_37 rfl (lv_at hl 1 rfl) ?_
      obtain ⟨v10, hv, h⟩ := zl_some h
      refine xgR (pc := 38) (j := 26) zc12 hx hb hts hown hK hP hv rfl zf_X12_52 dX12_readsNames_38 ?_
      refine lv_bipush (pc := 41) (v := 33) hx hb dX12_readsNames_41 (by decide) ?_
      refine lv_iload_n (pc := 43) hx hb dX12_readsNames_43 rfl (lv_at hl 0 rfl) ?_
      refine lv_iadd (pc := 44) hx hb dX12_readsNames_44 ?_
      refine lv_iload_n (pc := 45) hx hb dX12_readsNames_45 rfl (lv_at hl 0 rfl) ?_
      obtain ⟨σ11, hv, h⟩ := zl_some h
      refine xsI (pc := 46) hx hb hK hP hS hv dX12_readsNames_46 (fun H locs hP hS => ?_)
      refine lv_iinc (pc := 47) (v := x1_7 + 1) (lv' := [(1, .int (x1_7 + 1)), (0, .ref (o + x0))]) hx hb dX12_readsNames_47 hl (k := 0) rfl rfl (by decide) rfl (fun ls hl => ?_)
      refine lv_goto (pc := 50) (tgt := 22) hx hb dX12_readsNames_50 (by decide) ?_
      exact ih7 (x1_7 + 1, σ11) h _ _ ls hP hS (lv_sub hl [0, 1] rfl)
  exact L22_7 N (0, σ6) h _ _ ls hP hS (lv_sub hl [0, 1] rfl)
def J_X12_readsName_89 (N : Nat) (x0 : Nat) (y0 : Int32) (σ : zS) : Option (Int32 × zS) :=
  zl (gC 12 x0) fun _ => zb (f_X12_good N x0 σ) fun v7 σ8 =>
  if v7 = 0 then
    (some (y0, σ8))
  else
    (zl (gC 12 x0) fun _ => zb (f_X12_advance N x0 σ8) fun v9 σ10 =>
    some (y0, σ10))
def J_X12_readsName_66 (N : Nat) (x0 : Nat) (σ : zS) : Option (Int32 × zS) :=
  zl (gC 12 x0) fun _ => zb (f_X12_good N x0 σ) fun v5 σ6 =>
  if v5 = 0 then
    (J_X12_readsName_89 N x0 0 σ6)
  else
    (zl (gR 12 6 x0 σ6) fun v11 =>
    zl (gI 12 11 x0 σ6) fun v12 =>
    zl (aI 13 v11 v12 σ6) fun v13 =>
    J_X12_readsName_89 N x0 (v13 - 97) σ6)
def J_X12_readsName_20 (N : Nat) (x0 : Nat) (σ : zS) : Option (Int32 × zS) :=
  zl (gC 12 x0) fun _ => zb (f_X12_good N x0 σ) fun v3 σ4 =>
  if v3 = 0 then
    (J_X12_readsName_66 N x0 σ4)
  else
    (zl (gI 12 10 x0 σ4) fun v14 =>
    zl (gI 12 11 x0 σ4) fun v15 =>
    if 1 < (v14 - v15) then
      (zl (gC 12 x0) fun _ => zb (f_X12_errs N x0 2 σ4) fun v16 σ17 =>
      J_X12_readsName_66 N x0 σ17)
    else
      (zl (gR 12 6 x0 σ4) fun v18 =>
      zl (gI 12 11 x0 σ4) fun v19 =>
      zl (aI 13 v18 v19 σ4) fun v20 =>
      zl (gR 12 26 x0 σ4) fun v21 =>
      zl (aI 14 v21 0 σ4) fun v22 =>
      if (v20 - 97) < v22 then
        (J_X12_readsName_66 N x0 σ4)
      else
        (zl (gC 12 x0) fun _ => zb (f_X12_errs N x0 2 σ4) fun v23 σ24 =>
        J_X12_readsName_66 N x0 σ24)))
def f_X12_readsName (N : Nat) (x0 : Nat) (σ : zS) : Option (Int32 × zS) :=
  zl (gC 12 x0) fun _ => zb (f_X12_good N x0 σ) fun v1 σ2 =>
  if v1 = 0 then
    (J_X12_readsName_20 N x0 σ2)
  else
    (zl (gI 12 12 x0 σ2) fun v25 =>
    if v25 = 1 then
      (J_X12_readsName_20 N x0 σ2)
    else
      (zl (gC 12 x0) fun _ => zb (f_X12_errs N x0 1 σ2) fun v26 σ27 =>
      J_X12_readsName_20 N x0 σ27))
set_option maxHeartbeats 4000000 in
set_option maxRecDepth 100000 in
theorem c_X12_readsName (l : Launch) (D : va_G) (c : zC) (o : Nat) (g : zEp) (N : Nat) {x0 : Nat} {σ : zS} {ρ : Int32 × zS} (h : f_X12_readsName N x0 σ = some ρ) : Met l yX12_readsName zs_X12_readsName (zr 6) (va_Pc [.ref (o + x0)] (zG D c o g σ)) (zQi D c o g ρ) 0 0 (zA o) := by
  refine zMetG (by decide) (Nat.le_of_ble_eq_true rfl) ?_
  intro p e s m below meth cd ⟨hx, hb, hr, hml, hown, hts, hlocks⟩ hP hK hE ls hl
  have hS : va_S (zA o) s.heap s.heap [] := va_S.rf
  have hl : lv_has ls 2 [(0, .ref (o + x0))] := hl
  rw [f_X12_readsName.eq_1] at h
  refine lv_aload_n (pc := 0) hx hb dX12_readsName_0 rfl (lv_at hl 0 rfl) ?_
  obtain ⟨_, hg, h⟩ := zl_some h
  obtain ⟨v1, σ2, hv, h⟩ := zb_some h
  refine xcallVi (pc := 1) (As := []) (rest := []) ⟨hx, hb, hml, hown, hts⟩ (c_X12_good l D c o g N hv) zc12 zV_X12_157 rfl zd_X12_good ⟨Nat.le_of_ble_eq_true rfl, Nat.le_of_ble_eq_true rfl⟩ hK hP hE hS hg hl.1 rfl (Nat.le_of_ble_eq_true rfl) ⟨Nat.zero_le _, Nat.zero_le _⟩ dX12_readsName_1 (fun H locs hP hS => ?_)
  have hj20_3 : ∀ (σ3 : zS), J_X12_readsName_20 N x0 σ3 = some ρ → ∀ (H : Heap) (locs : List Loc) (ls : Array Slot), zP D c o (zabs o σ3) H → va_S (zA o) s.heap H locs → lv_has ls 2 [(0, .ref (o + x0))] → W p l e (zr 6) s m (([.ref (o + x0)] : List Value).toArray) below meth cd H locs 0 0 (MQ below (zQi D c o g ρ) (([.ref (o + x0)] : List Value).toArray) s 0 0 (zA o)) (F0 m 20 ls []) := by
    intro σ3 h H locs ls hP hS hl
    rw [J_X12_readsName_20.eq_1] at h
    refine lv_aload_n (pc := 20) hx hb dX12_readsName_20 rfl (lv_at hl 0 rfl) ?_
    obtain ⟨_, hg, h⟩ := zl_some h
    obtain ⟨v4, σ5, hv, h⟩ := zb_some h
    refine xcallVi (pc := 21) (As := []) (rest := []) ⟨hx, hb, hml, hown, hts⟩ (c_X12_good l D c o g N hv) zc12 zV_X12_157 rfl zd_X12_good ⟨Nat.le_of_ble_eq_true rfl, Nat.le_of_ble_eq_true rfl⟩ hK hP hE hS hg hl.1 rfl (Nat.le_of_ble_eq_true rfl) ⟨Nat.zero_le _, Nat.zero_le _⟩ dX12_readsName_21 (fun H locs hP hS => ?_)
    have hj66_6 : ∀ (σ6 : zS), J_X12_readsName_66 N x0 σ6 = some ρ → ∀ (H : Heap) (locs : List Loc) (ls : Array Slot), zP D c o (zabs o σ6) H → va_S (zA o) s.heap H locs → lv_has ls 2 [(0, .ref (o + x0))] → W p l e (zr 6) s m (([.ref (o + x0)] : List Value).toArray) below meth cd H locs 0 0 (MQ below (zQi D c o g ρ) (([.ref (o + x0)] : List Value).toArray) s 0 0 (zA o)) (F0 m 66 ls []) := by
      intro σ6 h H locs ls hP hS hl
      rw [J_X12_readsName_66.eq_1] at h
      refine lv_aload_n (pc := 66) hx hb dX12_readsName_66 rfl (lv_at hl 0 rfl) ?_
      obtain ⟨_, hg, h⟩ := zl_some h
      obtain ⟨v7, σ8, hv, h⟩ := zb_some h
      refine xcallVi (pc := 67) (As := []) (rest := []) ⟨hx, hb, hml, hown, hts⟩ (c_X12_good l D c o g N hv) zc12 zV_X12_157 rfl zd_X12_good ⟨Nat.le_of_ble_eq_true rfl, Nat.le_of_ble_eq_true rfl⟩ hK hP hE hS hg hl.1 rfl (Nat.le_of_ble_eq_true rfl) ⟨Nat.zero_le _, Nat.zero_le _⟩ dX12_readsName_67 (fun H locs hP hS => ?_)
      have hj89_9 : ∀ (y0_9 : Int32) (σ9 : zS), J_X12_readsName_89 N x0 y0_9 σ9 = some ρ → ∀ (H : Heap) (locs : List Loc) (ls : Array Slot), zP D c o (zabs o σ9) H → va_S (zA o) s.heap H locs → lv_has ls 2 [(0, .ref (o + x0))] → W p l e (zr 6) s m (([.ref (o + x0)] : List Value).toArray) below meth cd H locs 0 0 (MQ below (zQi D c o g ρ) (([.ref (o + x0)] : List Value).toArray) s 0 0 (zA o)) (F0 m 89 ls [.int y0_9]) := by
        intro y0_9 σ9 h H locs ls hP hS hl
        rw [J_X12_readsName_89.eq_1] at h
        refine lv_istore_n (pc := 89) (lv' := [(1, .int y0_9), (0, .ref (o + x0))]) hx hb dX12_readsName_89 rfl hl (by decide) rfl (fun ls hl => ?_)
        refine lv_aload_n (pc := 90) hx hb dX12_readsName_90 rfl (lv_at hl 1 rfl) ?_
        obtain ⟨_, hg, h⟩ := zl_some h
        obtain ⟨v10, σ11, hv, h⟩ := zb_some h
        refine xcallVi (pc := 91) (As := []) (rest := []) ⟨hx, hb, hml, hown, hts⟩ (c_X12_good l D c o g N hv) zc12 zV_X12_157 rfl zd_X12_good ⟨Nat.le_of_ble_eq_true rfl, Nat.le_of_ble_eq_true rfl⟩ hK hP hE hS hg hl.1 rfl (Nat.le_of_ble_eq_true rfl) ⟨Nat.zero_le _, Nat.zero_le _⟩ dX12_readsName_91 (fun H locs hP hS => ?_)
        refine lv_if_eq (pc := 94) (tgt := 101) hx hb dX12_readsName_94 (by decide) (fun c1 => ?_) (fun c1 => ?_)
        · rw [if_pos c1] at h
          refine lv_iload_n (pc := 101) hx hb dX12_readsName_101 rfl (lv_at hl 0 rfl) ?_
          exact xreti (pc := 102) hx hb hr hlocks hP hK hE hS h dX12_readsName_102
        · rw [if_neg c1] at h
          refine lv_aload_n (pc := 97) hx hb dX12_readsName_97 rfl (lv_at hl 1 rfl) ?_
          obtain ⟨_, hg, h⟩ := zl_some h
          obtain ⟨v12, σ13, hv, h⟩ := zb_some h
          refine xcallVv (pc := 98) (As := []) (rest := []) ⟨hx, hb, hml, hown, hts⟩ (c_X12_advance l D c o g N hv) zc12 zV_X12_154 rfl zd_X12_advance ⟨Nat.le_of_ble_eq_true rfl, Nat.le_of_ble_eq_true rfl⟩ hK hP hE hS hg hl.1 rfl (Nat.le_of_ble_eq_true rfl) ⟨Nat.zero_le _, Nat.zero_le _⟩ dX12_readsName_98 (fun H locs hP hS => ?_)
          refine lv_iload_n (pc := 101) hx hb dX12_readsName_101 rfl (lv_at hl 0 rfl) ?_
          exact xreti (pc := 102) hx hb hr hlocks hP hK hE hS h dX12_readsName_102
      refine lv_if_eq (pc := 70) (tgt := 88) hx hb dX12_readsName_70 (by decide) (fun c1 => ?_) (fun c1 => ?_)
      · rw [if_pos c1] at h
        refine lv_iconst (pc := 88) (v := 0) hx hb dX12_readsName_88 (by decide) ?_
        exact hj89_9 (0) σ8 h _ _ ls hP hS (lv_sub hl [0] rfl)
      · rw [if_neg c1] at h
        refine lv_aload_n (pc := 73) hx hb dX12_readsName_73 rfl (lv_at hl 0 rfl) ?_
        obtain ⟨v14, hv, h⟩ := zl_some h
        refine xgR (pc := 74) (j := 6) zc12 hx hb hts hown hK hP hv rfl zf_X12_26 dX12_readsName_74 ?_
        refine lv_aload_n (pc := 77) hx hb dX12_readsName_77 rfl (lv_at hl 0 rfl) ?_
        obtain ⟨v15, hv, h⟩ := zl_some h
        refine xgI (pc := 78) (j := 11) zc12 hx hb hts hown hK hP hv rfl zf_X12_120 dX12_readsName_78 ?_
        obtain ⟨v16, hv, h⟩ := zl_some h
        refine xaB (pc := 81) hx hb hK hP hv dX12_readsName_81 ?_
        refine lv_bipush (pc := 82) (v := 97) hx hb dX12_readsName_82 (by decide) ?_
        refine lv_isub (pc := 84) hx hb dX12_readsName_84 ?_
        refine lv_goto (pc := 85) (tgt := 89) hx hb dX12_readsName_85 (by decide) ?_
        exact hj89_9 (v16 - 97) σ8 h _ _ ls hP hS (lv_sub hl [0] rfl)
    refine lv_if_eq (pc := 24) (tgt := 66) hx hb dX12_readsName_24 (by decide) (fun c1 => ?_) (fun c1 => ?_)
    · rw [if_pos c1] at h
      exact hj66_6 σ5 h _ _ ls hP hS (lv_sub hl [0] rfl)
    · rw [if_neg c1] at h
      refine lv_aload_n (pc := 27) hx hb dX12_readsName_27 rfl (lv_at hl 0 rfl) ?_
      obtain ⟨v17, hv, h⟩ := zl_some h
      refine xgI (pc := 28) (j := 10) zc12 hx hb hts hown hK hP hv rfl zf_X12_113 dX12_readsName_28 ?_
      refine lv_aload_n (pc := 31) hx hb dX12_readsName_31 rfl (lv_at hl 0 rfl) ?_
      obtain ⟨v18, hv, h⟩ := zl_some h
      refine xgI (pc := 32) (j := 11) zc12 hx hb hts hown hK hP hv rfl zf_X12_120 dX12_readsName_32 ?_
      refine lv_isub (pc := 35) hx hb dX12_readsName_35 ?_
      refine lv_iconst (pc := 36) (v := 1) hx hb dX12_readsName_36 (by decide) ?_
      refine lv_icmp_gt (pc := 37) (tgt := 61) hx hb dX12_readsName_37 (by decide) (fun c1 => ?_) (fun c1 => ?_)
      · rw [if_pos c1] at h
        refine lv_aload_n (pc := 61) hx hb dX12_readsName_61 rfl (lv_at hl 0 rfl) ?_
        refine lv_iconst (pc := 62) (v := 2) hx hb dX12_readsName_62 (by decide) ?_
        obtain ⟨_, hg, h⟩ := zl_some h
        obtain ⟨v19, σ20, hv, h⟩ := zb_some h
        refine xcallVv (pc := 63) (As := [.int 2]) (rest := []) ⟨hx, hb, hml, hown, hts⟩ (c_X12_errs l D c o g N hv) zc12 zV_X12_176 rfl zd_X12_errs ⟨Nat.le_of_ble_eq_true rfl, Nat.le_of_ble_eq_true rfl⟩ hK hP hE hS hg hl.1 rfl (Nat.le_of_ble_eq_true rfl) ⟨Nat.zero_le _, Nat.zero_le _⟩ dX12_readsName_63 (fun H locs hP hS => ?_)
        exact hj66_6 σ20 h _ _ ls hP hS (lv_sub hl [0] rfl)
      · rw [if_neg c1] at h
        refine lv_aload_n (pc := 40) hx hb dX12_readsName_40 rfl (lv_at hl 0 rfl) ?_
        obtain ⟨v21, hv, h⟩ := zl_some h
        refine xgR (pc := 41) (j := 6) zc12 hx hb hts hown hK hP hv rfl zf_X12_26 dX12_readsName_41 ?_
        refine lv_aload_n (pc := 44) hx hb dX12_readsName_44 rfl (lv_at hl 0 rfl) ?_
        obtain ⟨v22, hv, h⟩ := zl_some h
        refine xgI (pc := 45) (j := 11) zc12 hx hb hts hown hK hP hv rfl zf_X12_120 dX12_readsName_45 ?_
        obtain ⟨v23, hv, h⟩ := zl_some h
        refine xaB (pc := 48) hx hb hK hP hv dX12_readsName_48 ?_
        refine lv_bipush (pc := 49) (v := 97) hx hb dX12_readsName_49 (by decide) ?_
        refine lv_isub (pc := 51) hx hb dX12_readsName_51 ?_
        refine lv_aload_n (pc := 52) hx hb dX12_readsName_52 rfl (lv_at hl 0 rfl) ?_
        obtain ⟨v24, hv, h⟩ := zl_some h
        refine xgR (pc := 53) (j := 26) zc12 hx hb hts hown hK hP hv rfl zf_X12_52 dX12_readsName_53 ?_
        refine lv_iconst (pc := 56) (v := 0) hx hb dX12_readsName_56 (by decide) ?_
        obtain ⟨v25, hv, h⟩ := zl_some h
        refine xaI (pc := 57) hx hb hK hP hv dX12_readsName_57 ?_
        refine lv_icmp_lt (pc := 58) (tgt := 66) hx hb dX12_readsName_58 (by decide) (fun c1 => ?_) (fun c1 => ?_)
        · rw [if_pos c1] at h
          exact hj66_6 σ5 h _ _ ls hP hS (lv_sub hl [0] rfl)
        · rw [if_neg c1] at h
          refine lv_aload_n (pc := 61) hx hb dX12_readsName_61 rfl (lv_at hl 0 rfl) ?_
          refine lv_iconst (pc := 62) (v := 2) hx hb dX12_readsName_62 (by decide) ?_
          obtain ⟨_, hg, h⟩ := zl_some h
          obtain ⟨v26, σ27, hv, h⟩ := zb_some h
          refine xcallVv (pc := 63) (As := [.int 2]) (rest := []) ⟨hx, hb, hml, hown, hts⟩ (c_X12_errs l D c o g N hv) zc12 zV_X12_176 rfl zd_X12_errs ⟨Nat.le_of_ble_eq_true rfl, Nat.le_of_ble_eq_true rfl⟩ hK hP hE hS hg hl.1 rfl (Nat.le_of_ble_eq_true rfl) ⟨Nat.zero_le _, Nat.zero_le _⟩ dX12_readsName_63 (fun H locs hP hS => ?_)
          exact hj66_6 σ27 h _ _ ls hP hS (lv_sub hl [0] rfl)
  refine lv_if_eq (pc := 4) (tgt := 20) hx hb dX12_readsName_4 (by decide) (fun c1 => ?_) (fun c1 => ?_)
  · rw [if_pos c1] at h
    exact hj20_3 σ2 h _ _ ls hP hS (lv_sub hl [0] rfl)
  · rw [if_neg c1] at h
    refine lv_aload_n (pc := 7) hx hb dX12_readsName_7 rfl (lv_at hl 0 rfl) ?_
    obtain ⟨v28, hv, h⟩ := zl_some h
    refine xgI (pc := 8) (j := 12) zc12 hx hb hts hown hK hP hv rfl zf_X12_123 dX12_readsName_8 ?_
    refine lv_iconst (pc := 11) (v := 1) hx hb dX12_readsName_11 (by decide) ?_
    refine lv_icmp_eq (pc := 12) (tgt := 20) hx hb dX12_readsName_12 (by decide) (fun c1 => ?_) (fun c1 => ?_)
    · rw [if_pos c1] at h
      exact hj20_3 σ2 h _ _ ls hP hS (lv_sub hl [0] rfl)
    · rw [if_neg c1] at h
      refine lv_aload_n (pc := 15) hx hb dX12_readsName_15 rfl (lv_at hl 0 rfl) ?_
      refine lv_iconst (pc := 16) (v := 1) hx hb dX12_readsName_16 (by decide) ?_
      obtain ⟨_, hg, h⟩ := zl_some h
      obtain ⟨v29, σ30, hv, h⟩ := zb_some h
      refine xcallVv (pc := 17) (As := [.int 1]) (rest := []) ⟨hx, hb, hml, hown, hts⟩ (c_X12_errs l D c o g N hv) zc12 zV_X12_176 rfl zd_X12_errs ⟨Nat.le_of_ble_eq_true rfl, Nat.le_of_ble_eq_true rfl⟩ hK hP hE hS hg hl.1 rfl (Nat.le_of_ble_eq_true rfl) ⟨Nat.zero_le _, Nat.zero_le _⟩ dX12_readsName_17 (fun H locs hP hS => ?_)
      exact hj20_3 σ30 h _ _ ls hP hS (lv_sub hl [0] rfl)
def J_X12_readsEdge_36 (N : Nat) (x0 : Nat) (x1 : Int32) (σ : zS) : Option (Unit × zS) :=
  zl (gC 12 x0) fun _ => zb (f_X12_number N x0 0 7 σ) fun v5 σ6 =>
  zl (gC 12 x0) fun _ => zb (f_X12_good N x0 σ6) fun v7 σ8 =>
  if v7 = 0 then
    (some ((), σ8))
  else
    (zl (gR 12 26 x0 σ8) fun v9 =>
    zl (gR 12 26 x0 σ8) fun v10 =>
    zl (aI 14 v10 2 σ8) fun v11 =>
    zl (sI 14 v9 (13 + v11) x1 σ8) fun σ12 =>
    zl (gR 12 26 x0 σ12) fun v13 =>
    zl (gR 12 26 x0 σ12) fun v14 =>
    zl (aI 14 v14 2 σ12) fun v15 =>
    zl (sI 14 v13 (23 + v15) v5 σ12) fun σ16 =>
    zl (gR 12 26 x0 σ16) fun v17 =>
    zl (aI 14 v17 2 σ16) fun v18 =>
    zl (sI 14 v17 2 (v18 + 1) σ16) fun σ19 =>
    some ((), σ19))
def f_X12_readsEdge (N : Nat) (x0 : Nat) (σ : zS) : Option (Unit × zS) :=
  zl (gC 12 x0) fun _ => zb (f_X12_number N x0 0 7 σ) fun v1 σ2 =>
  zl (gC 12 x0) fun _ => zb (f_X12_good N x0 σ2) fun v3 σ4 =>
  if v3 = 0 then
    (J_X12_readsEdge_36 N x0 v1 σ4)
  else
    (zl (gI 12 12 x0 σ4) fun v20 =>
    if v20 = 2 then
      (zl (gI 12 13 x0 σ4) fun v21 =>
      if v21 = v1 then
        (zl (gC 12 x0) fun _ => zb (f_X12_errs N x0 2 σ4) fun v22 σ23 =>
        J_X12_readsEdge_36 N x0 v1 σ23)
      else
        (J_X12_readsEdge_36 N x0 v1 σ4))
    else
      (J_X12_readsEdge_36 N x0 v1 σ4))
set_option maxHeartbeats 4000000 in
set_option maxRecDepth 100000 in
theorem c_X12_readsEdge (l : Launch) (D : va_G) (c : zC) (o : Nat) (g : zEp) (N : Nat) {x0 : Nat} {σ : zS} {ρ : Unit × zS} (h : f_X12_readsEdge N x0 σ = some ρ) : Met l yX12_readsEdge zs_X12_readsEdge (zr 8) (va_Pc [.ref (o + x0)] (zG D c o g σ)) (zQu D c o g ρ) 0 0 (zA o) := by
  refine zMetG (by decide) (Nat.le_of_ble_eq_true rfl) ?_
  intro p e s m below meth cd ⟨hx, hb, hr, hml, hown, hts, hlocks⟩ hP hK hE ls hl
  have hS : va_S (zA o) s.heap s.heap [] := va_S.rf
  have hl : lv_has ls 3 [(0, .ref (o + x0))] := hl
  rw [f_X12_readsEdge.eq_1] at h
  refine lv_aload_n (pc := 0) hx hb dX12_readsEdge_0 rfl (lv_at hl 0 rfl) ?_
  refine lv_iconst (pc := 1) (v := 0) hx hb dX12_readsEdge_1 (by decide) ?_
  refine lv_bipush (pc := 2) (v := 7) hx hb dX12_readsEdge_2 (by decide) ?_
  obtain ⟨_, hg, h⟩ := zl_some h
  obtain ⟨v1, σ2, hv, h⟩ := zb_some h
  refine xcallVi (pc := 4) (As := [.int 0, .int 7]) (rest := []) ⟨hx, hb, hml, hown, hts⟩ (c_X12_number l D c o g N hv) zc12 zV_X12_239 rfl zd_X12_number ⟨Nat.le_of_ble_eq_true rfl, Nat.le_of_ble_eq_true rfl⟩ hK hP hE hS hg hl.1 rfl (Nat.le_of_ble_eq_true rfl) ⟨Nat.zero_le _, Nat.zero_le _⟩ dX12_readsEdge_4 (fun H locs hP hS => ?_)
  refine lv_istore_n (pc := 7) (lv' := [(1, .int v1), (0, .ref (o + x0))]) hx hb dX12_readsEdge_7 rfl hl (by decide) rfl (fun ls hl => ?_)
  refine lv_aload_n (pc := 8) hx hb dX12_readsEdge_8 rfl (lv_at hl 1 rfl) ?_
  obtain ⟨_, hg, h⟩ := zl_some h
  obtain ⟨v3, σ4, hv, h⟩ := zb_some h
  refine xcallVi (pc := 9) (As := []) (rest := []) ⟨hx, hb, hml, hown, hts⟩ (c_X12_good l D c o g N hv) zc12 zV_X12_157 rfl zd_X12_good ⟨Nat.le_of_ble_eq_true rfl, Nat.le_of_ble_eq_true rfl⟩ hK hP hE hS hg hl.1 rfl (Nat.le_of_ble_eq_true rfl) ⟨Nat.zero_le _, Nat.zero_le _⟩ dX12_readsEdge_9 (fun H locs hP hS => ?_)
  have hj36_5 : ∀ (σ5 : zS), J_X12_readsEdge_36 N x0 v1 σ5 = some ρ → ∀ (H : Heap) (locs : List Loc) (ls : Array Slot), zP D c o (zabs o σ5) H → va_S (zA o) s.heap H locs → lv_has ls 3 [(0, .ref (o + x0)), (1, .int v1)] → W p l e (zr 8) s m (([.ref (o + x0)] : List Value).toArray) below meth cd H locs 0 0 (MQ below (zQu D c o g ρ) (([.ref (o + x0)] : List Value).toArray) s 0 0 (zA o)) (F0 m 36 ls []) := by
    intro σ5 h H locs ls hP hS hl
    rw [J_X12_readsEdge_36.eq_1] at h
    refine lv_aload_n (pc := 36) hx hb dX12_readsEdge_36 rfl (lv_at hl 0 rfl) ?_
    refine lv_iconst (pc := 37) (v := 0) hx hb dX12_readsEdge_37 (by decide) ?_
    refine lv_bipush (pc := 38) (v := 7) hx hb dX12_readsEdge_38 (by decide) ?_
    obtain ⟨_, hg, h⟩ := zl_some h
    obtain ⟨v6, σ7, hv, h⟩ := zb_some h
    refine xcallVi (pc := 40) (As := [.int 0, .int 7]) (rest := []) ⟨hx, hb, hml, hown, hts⟩ (c_X12_number l D c o g N hv) zc12 zV_X12_239 rfl zd_X12_number ⟨Nat.le_of_ble_eq_true rfl, Nat.le_of_ble_eq_true rfl⟩ hK hP hE hS hg hl.1 rfl (Nat.le_of_ble_eq_true rfl) ⟨Nat.zero_le _, Nat.zero_le _⟩ dX12_readsEdge_40 (fun H locs hP hS => ?_)
    refine lv_istore_n (pc := 43) (lv' := [(2, .int v6), (0, .ref (o + x0)), (1, .int v1)]) hx hb dX12_readsEdge_43 rfl hl (by decide) rfl (fun ls hl => ?_)
    refine lv_aload_n (pc := 44) hx hb dX12_readsEdge_44 rfl (lv_at hl 1 rfl) ?_
    obtain ⟨_, hg, h⟩ := zl_some h
    obtain ⟨v8, σ9, hv, h⟩ := zb_some h
    refine xcallVi (pc := 45) (As := []) (rest := []) ⟨hx, hb, hml, hown, hts⟩ (c_X12_good l D c o g N hv) zc12 zV_X12_157 rfl zd_X12_good ⟨Nat.le_of_ble_eq_true rfl, Nat.le_of_ble_eq_true rfl⟩ hK hP hE hS hg hl.1 rfl (Nat.le_of_ble_eq_true rfl) ⟨Nat.zero_le _, Nat.zero_le _⟩ dX12_readsEdge_45 (fun H locs hP hS => ?_)
    refine lv_if_ne (pc := 48) (tgt := 52) hx hb dX12_readsEdge_48 (by decide) (fun c1 => ?_) (fun c1 => ?_)
    · rw [if_neg c1] at h
      refine lv_aload_n (pc := 52) hx hb dX12_readsEdge_52 rfl (lv_at hl 1 rfl) ?_
      obtain ⟨v10, hv, h⟩ := zl_some h
      refine xgR (pc := 53) (j := 26) zc12 hx hb hts hown hK hP hv rfl zf_X12_52 dX12_readsEdge_53 ?_
      refine lv_bipush (pc := 56) (v := 13) hx hb dX12_readsEdge_56 (by decide) ?_
      refine lv_aload_n (pc := 58) hx hb dX12_readsEdge_58 rfl (lv_at hl 1 rfl) ?_
      obtain ⟨v11, hv, h⟩ := zl_some h
      refine xgR (pc := 59) (j := 26) zc12 hx hb hts hown hK hP hv rfl zf_X12_52 dX12_readsEdge_59 ?_
      refine lv_iconst (pc := 62) (v := 2) hx hb dX12_readsEdge_62 (by decide) ?_
      obtain ⟨v12, hv, h⟩ := zl_some h
      refine xaI (pc := 63) hx hb hK hP hv dX12_readsEdge_63 ?_
      refine lv_iadd (pc := 64) hx hb dX12_readsEdge_64 ?_
      refine lv_iload_n (pc := 65) hx hb dX12_readsEdge_65 rfl (lv_at hl 2 rfl) ?_
      obtain ⟨σ13, hv, h⟩ := zl_some h
      refine xsI (pc := 66) hx hb hK hP hS hv dX12_readsEdge_66 (fun H locs hP hS => ?_)
      refine lv_aload_n (pc := 67) hx hb dX12_readsEdge_67 rfl (lv_at hl 1 rfl) ?_
      obtain ⟨v14, hv, h⟩ := zl_some h
      refine xgR (pc := 68) (j := 26) zc12 hx hb hts hown hK hP hv rfl zf_X12_52 dX12_readsEdge_68 ?_
      refine lv_bipush (pc := 71) (v := 23) hx hb dX12_readsEdge_71 (by decide) ?_
      refine lv_aload_n (pc := 73) hx hb dX12_readsEdge_73 rfl (lv_at hl 1 rfl) ?_
      obtain ⟨v15, hv, h⟩ := zl_some h
      refine xgR (pc := 74) (j := 26) zc12 hx hb hts hown hK hP hv rfl zf_X12_52 dX12_readsEdge_74 ?_
      refine lv_iconst (pc := 77) (v := 2) hx hb dX12_readsEdge_77 (by decide) ?_
      obtain ⟨v16, hv, h⟩ := zl_some h
      refine xaI (pc := 78) hx hb hK hP hv dX12_readsEdge_78 ?_
      refine lv_iadd (pc := 79) hx hb dX12_readsEdge_79 ?_
      refine lv_iload_n (pc := 80) hx hb dX12_readsEdge_80 rfl (lv_at hl 0 rfl) ?_
      obtain ⟨σ17, hv, h⟩ := zl_some h
      refine xsI (pc := 81) hx hb hK hP hS hv dX12_readsEdge_81 (fun H locs hP hS => ?_)
      refine lv_aload_n (pc := 82) hx hb dX12_readsEdge_82 rfl (lv_at hl 1 rfl) ?_
      obtain ⟨v18, hv, h⟩ := zl_some h
      refine xgR (pc := 83) (j := 26) zc12 hx hb hts hown hK hP hv rfl zf_X12_52 dX12_readsEdge_83 ?_
      refine lv_iconst (pc := 86) (v := 2) hx hb dX12_readsEdge_86 (by decide) ?_
      refine lv_dup2_11 (pc := 87) hx hb dX12_readsEdge_87 rfl rfl ?_
      obtain ⟨v19, hv, h⟩ := zl_some h
      refine xaI (pc := 88) hx hb hK hP hv dX12_readsEdge_88 ?_
      refine lv_iconst (pc := 89) (v := 1) hx hb dX12_readsEdge_89 (by decide) ?_
      refine lv_iadd (pc := 90) hx hb dX12_readsEdge_90 ?_
      obtain ⟨σ20, hv, h⟩ := zl_some h
      refine xsI (pc := 91) hx hb hK hP hS hv dX12_readsEdge_91 (fun H locs hP hS => ?_)
      exact xretv (pc := 92) hx hb hr hlocks hP hK hE hS h dX12_readsEdge_92
    · rw [if_pos c1] at h
      exact xretv (pc := 51) hx hb hr hlocks hP hK hE hS h dX12_readsEdge_51
  refine lv_if_eq (pc := 12) (tgt := 36) hx hb dX12_readsEdge_12 (by decide) (fun c1 => ?_) (fun c1 => ?_)
  · rw [if_pos c1] at h
    exact hj36_5 σ4 h _ _ ls hP hS (lv_sub hl [1, 0] rfl)
  · rw [if_neg c1] at h
    refine lv_aload_n (pc := 15) hx hb dX12_readsEdge_15 rfl (lv_at hl 1 rfl) ?_
    obtain ⟨v21, hv, h⟩ := zl_some h
    refine xgI (pc := 16) (j := 12) zc12 hx hb hts hown hK hP hv rfl zf_X12_123 dX12_readsEdge_16 ?_
    refine lv_iconst (pc := 19) (v := 2) hx hb dX12_readsEdge_19 (by decide) ?_
    refine lv_icmp_ne (pc := 20) (tgt := 36) hx hb dX12_readsEdge_20 (by decide) (fun c1 => ?_) (fun c1 => ?_)
    · rw [if_neg c1] at h
      exact hj36_5 σ4 h _ _ ls hP hS (lv_sub hl [1, 0] rfl)
    · rw [if_pos c1] at h
      refine lv_aload_n (pc := 23) hx hb dX12_readsEdge_23 rfl (lv_at hl 1 rfl) ?_
      obtain ⟨v22, hv, h⟩ := zl_some h
      refine xgI (pc := 24) (j := 13) zc12 hx hb hts hown hK hP hv rfl zf_X12_134 dX12_readsEdge_24 ?_
      refine lv_iload_n (pc := 27) hx hb dX12_readsEdge_27 rfl (lv_at hl 0 rfl) ?_
      refine lv_icmp_ne (pc := 28) (tgt := 36) hx hb dX12_readsEdge_28 (by decide) (fun c1 => ?_) (fun c1 => ?_)
      · rw [if_neg c1] at h
        exact hj36_5 σ4 h _ _ ls hP hS (lv_sub hl [1, 0] rfl)
      · rw [if_pos c1] at h
        refine lv_aload_n (pc := 31) hx hb dX12_readsEdge_31 rfl (lv_at hl 1 rfl) ?_
        refine lv_iconst (pc := 32) (v := 2) hx hb dX12_readsEdge_32 (by decide) ?_
        obtain ⟨_, hg, h⟩ := zl_some h
        obtain ⟨v23, σ24, hv, h⟩ := zb_some h
        refine xcallVv (pc := 33) (As := [.int 2]) (rest := []) ⟨hx, hb, hml, hown, hts⟩ (c_X12_errs l D c o g N hv) zc12 zV_X12_176 rfl zd_X12_errs ⟨Nat.le_of_ble_eq_true rfl, Nat.le_of_ble_eq_true rfl⟩ hK hP hE hS hg hl.1 rfl (Nat.le_of_ble_eq_true rfl) ⟨Nat.zero_le _, Nat.zero_le _⟩ dX12_readsEdge_33 (fun H locs hP hS => ?_)
        exact hj36_5 σ24 h _ _ ls hP hS (lv_sub hl [1, 0] rfl)
def F_X12_readsLet_37 (N : Nat) (x0 : Nat) (x1 : Int32) (again37 : (Int32 × zS) → Option (Unit × zS)) : Int32 × zS → Option (Unit × zS)
  | (x2, σ) =>
  if 1024 ≤ x2 then
    (some ((), σ))
  else
    (zl (gC 12 x0) fun _ => zb (f_X12_good N x0 σ) fun v7 σ8 =>
    if v7 = 0 then
      (some ((), σ8))
    else
      (zl (gR 12 27 x0 σ8) fun v9 =>
      zl (gR 12 16 x0 σ8) fun v10 =>
      zl (aI 16 v10 x2 σ8) fun v11 =>
      zl (sI 16 v9 ((1024 * x1) + x2) v11 σ8) fun σ12 =>
      again37 (x2 + 1, σ12)))
def J_X12_readsLet_35 (N : Nat) (x0 : Nat) (x1 : Int32) (σ : zS) : Option (Unit × zS) :=
  zlp (F_X12_readsLet_37 N x0 x1) N (0, σ)
def f_X12_readsLet (N : Nat) (x0 : Nat) (σ : zS) : Option (Unit × zS) :=
  zl (gC 12 x0) fun _ => zb (f_X12_number N x0 0 9 σ) fun v1 σ2 =>
  zl (gC 12 x0) fun _ => zb (f_X12_needsSign N x0 61 σ2) fun v3 σ4 =>
  zl (gC 12 x0) fun _ => zb (f_X12_good N x0 σ4) fun v5 σ6 =>
  if v5 = 0 then
    (J_X12_readsLet_35 N x0 v1 σ6)
  else
    (zl (gR 12 26 x0 σ6) fun v13 =>
    zl (aI 14 v13 0 σ6) fun v14 =>
    zl (gR 12 27 x0 σ6) fun v15 =>
    zl (gC 12 x0) fun _ => zb (f_X12_readsSum N x0 v14 v15 σ6) fun v16 σ17 =>
    J_X12_readsLet_35 N x0 v1 σ17)
set_option maxHeartbeats 4000000 in
set_option maxRecDepth 100000 in
theorem c_X12_readsLet (l : Launch) (D : va_G) (c : zC) (o : Nat) (g : zEp) (N : Nat) {x0 : Nat} {σ : zS} {ρ : Unit × zS} (h : f_X12_readsLet N x0 σ = some ρ) : Met l yX12_readsLet zs_X12_readsLet (zr 22) (va_Pc [.ref (o + x0)] (zG D c o g σ)) (zQu D c o g ρ) 0 0 (zA o) := by
  refine zMetG (by decide) (Nat.le_of_ble_eq_true rfl) ?_
  intro p e s m below meth cd ⟨hx, hb, hr, hml, hown, hts, hlocks⟩ hP hK hE ls hl
  have hS : va_S (zA o) s.heap s.heap [] := va_S.rf
  have hl : lv_has ls 3 [(0, .ref (o + x0))] := hl
  rw [f_X12_readsLet.eq_1] at h
  refine lv_aload_n (pc := 0) hx hb dX12_readsLet_0 rfl (lv_at hl 0 rfl) ?_
  refine lv_iconst (pc := 1) (v := 0) hx hb dX12_readsLet_1 (by decide) ?_
  refine lv_bipush (pc := 2) (v := 9) hx hb dX12_readsLet_2 (by decide) ?_
  obtain ⟨_, hg, h⟩ := zl_some h
  obtain ⟨v1, σ2, hv, h⟩ := zb_some h
  refine xcallVi (pc := 4) (As := [.int 0, .int 9]) (rest := []) ⟨hx, hb, hml, hown, hts⟩ (c_X12_number l D c o g N hv) zc12 zV_X12_239 rfl zd_X12_number ⟨Nat.le_of_ble_eq_true rfl, Nat.le_of_ble_eq_true rfl⟩ hK hP hE hS hg hl.1 rfl (Nat.le_of_ble_eq_true rfl) ⟨Nat.zero_le _, Nat.zero_le _⟩ dX12_readsLet_4 (fun H locs hP hS => ?_)
  refine lv_istore_n (pc := 7) (lv' := [(1, .int v1), (0, .ref (o + x0))]) hx hb dX12_readsLet_7 rfl hl (by decide) rfl (fun ls hl => ?_)
  refine lv_aload_n (pc := 8) hx hb dX12_readsLet_8 rfl (lv_at hl 1 rfl) ?_
  refine lv_bipush (pc := 9) (v := 61) hx hb dX12_readsLet_9 (by decide) ?_
  obtain ⟨_, hg, h⟩ := zl_some h
  obtain ⟨v3, σ4, hv, h⟩ := zb_some h
  refine xcallVv (pc := 11) (As := [.int 61]) (rest := []) ⟨hx, hb, hml, hown, hts⟩ (c_X12_needsSign l D c o g N hv) zc12 zV_X12_251 rfl zd_X12_needsSign ⟨Nat.le_of_ble_eq_true rfl, Nat.le_of_ble_eq_true rfl⟩ hK hP hE hS hg hl.1 rfl (Nat.le_of_ble_eq_true rfl) ⟨Nat.zero_le _, Nat.zero_le _⟩ dX12_readsLet_11 (fun H locs hP hS => ?_)
  refine lv_aload_n (pc := 14) hx hb dX12_readsLet_14 rfl (lv_at hl 1 rfl) ?_
  obtain ⟨_, hg, h⟩ := zl_some h
  obtain ⟨v5, σ6, hv, h⟩ := zb_some h
  refine xcallVi (pc := 15) (As := []) (rest := []) ⟨hx, hb, hml, hown, hts⟩ (c_X12_good l D c o g N hv) zc12 zV_X12_157 rfl zd_X12_good ⟨Nat.le_of_ble_eq_true rfl, Nat.le_of_ble_eq_true rfl⟩ hK hP hE hS hg hl.1 rfl (Nat.le_of_ble_eq_true rfl) ⟨Nat.zero_le _, Nat.zero_le _⟩ dX12_readsLet_15 (fun H locs hP hS => ?_)
  have hj35_7 : ∀ (σ7 : zS), J_X12_readsLet_35 N x0 v1 σ7 = some ρ → ∀ (H : Heap) (locs : List Loc) (ls : Array Slot), zP D c o (zabs o σ7) H → va_S (zA o) s.heap H locs → lv_has ls 3 [(0, .ref (o + x0)), (1, .int v1)] → W p l e (zr 22) s m (([.ref (o + x0)] : List Value).toArray) below meth cd H locs 0 0 (MQ below (zQu D c o g ρ) (([.ref (o + x0)] : List Value).toArray) s 0 0 (zA o)) (F0 m 35 ls []) := by
    intro σ7 h H locs ls hP hS hl
    rw [J_X12_readsLet_35.eq_1] at h
    refine lv_iconst (pc := 35) (v := 0) hx hb dX12_readsLet_35 (by decide) ?_
    refine lv_istore_n (pc := 36) (lv' := [(2, .int 0), (0, .ref (o + x0)), (1, .int v1)]) hx hb dX12_readsLet_36 rfl hl (by decide) rfl (fun ls hl => ?_)
    have L37_8 : ∀ (n : Nat) (t : Int32 × zS), zlp (F_X12_readsLet_37 N x0 v1) n t = some ρ → ∀ (H : Heap) (locs : List Loc) (ls : Array Slot), zP D c o (zabs o (t.2)) H → va_S (zA o) s.heap H locs → lv_has ls 3 [(2, .int (t.1)), (0, .ref (o + x0)), (1, .int v1)] → W p l e (zr 22) s m (([.ref (o + x0)] : List Value).toArray) below meth cd H locs 0 0 (MQ below (zQu D c o g ρ) (([.ref (o + x0)] : List Value).toArray) s 0 0 (zA o)) (F0 m 37 ls []) := by
      refine zlp_ind (fun ag8 ih8 t h H locs ls hP hS hl => ?_)
      obtain ⟨x2_8, σ8⟩ := t
      have hP : zP D c o (zabs o σ8) H := hP
      have hl : lv_has ls 3 [(2, .int x2_8), (0, .ref (o + x0)), (1, .int v1)] := hl
      rw [F_X12_readsLet_37.eq_1] at h
      show W p l e (zr 22) s m (([.ref (o + x0)] : List Value).toArray) below meth cd H locs 0 0 (MQ below (zQu D c o g ρ) (([.ref (o + x0)] : List Value).toArray) s 0 0 (zA o)) (F0 m 37 ls [])
      refine lv_iload_n (pc := 37) hx hb dX12_readsLet_37 rfl (lv_at hl 0 rfl) ?_
      refine lv_sipush (pc := 38) (v := 1024) hx hb dX12_readsLet_38 (by decide) ?_
      refine lv_icmp_ge (pc := 41) (tgt := 75) hx hb dX12_readsLet_41 (by decide) (fun c1 => ?_) (fun c1 => ?_)
      · rw [if_pos c1] at h
        exact xretv (pc := 75) hx hb hr hlocks hP hK hE hS h dX12_readsLet_75
      · rw [if_neg c1] at h
        refine lv_aload_n (pc := 44) hx hb dX12_readsLet_44 rfl (lv_at hl 1 rfl) ?_
        obtain ⟨_, hg, h⟩ := zl_some h
        obtain ⟨v9, σ10, hv, h⟩ := zb_some h
        refine xcallVi (pc := 45) (As := []) (rest := []) ⟨hx, hb, hml, hown, hts⟩ (c_X12_good l D c o g N hv) zc12 zV_X12_157 rfl zd_X12_good ⟨Nat.le_of_ble_eq_true rfl, Nat.le_of_ble_eq_true rfl⟩ hK hP hE hS hg hl.1 rfl (Nat.le_of_ble_eq_true rfl) ⟨Nat.zero_le _, Nat.zero_le _⟩ dX12_readsLet_45 (fun H locs hP hS => ?_)
        refine lv_if_eq (pc := 48) (tgt := 75) hx hb dX12_readsLet_48 (by decide) (fun c1 => ?_) (fun c1 => ?_)
        · rw [if_pos c1] at h
          exact xretv (pc := 75) hx hb hr hlocks hP hK hE hS h dX12_readsLet_75
        · rw [if_neg c1] at h
          refine lv_aload_n (pc := 51) hx hb dX12_readsLet_51 rfl (lv_at hl 1 rfl) ?_
          obtain ⟨v11, hv, h⟩ := zl_some h
          refine xgR (pc := 52) (j := 27) zc12 hx hb hts hown hK hP hv rfl zf_X12_55 dX12_readsLet_52 ?_
          refine lv_sipush (pc := 55) (v := 1024) hx hb dX12_readsLet_55 (by decide) ?_
          refine lv_iload_n (pc := 58) hx hb dX12_readsLet_58 rfl (lv_at hl 2 rfl) ?_
          refine lv_imul (pc := 59) hx hb dX12_readsLet_59 ?_
          refine lv_iload_n (pc := 60) hx hb dX12_readsLet_60 rfl (lv_at hl 0 rfl) ?_
          refine lv_iadd (pc := 61) hx hb dX12_readsLet_61 ?_
          refine lv_aload_n (pc := 62) hx hb dX12_readsLet_62 rfl (lv_at hl 1 rfl) ?_
          obtain ⟨v12, hv, h⟩ := zl_some h
          refine xgR (pc := 63) (j := 16) zc12 hx hb hts hown hK hP hv rfl zf_X12_37 dX12_readsLet_63 ?_
          refine lv_iload_n (pc := 66) hx hb dX12_readsLet_66 rfl (lv_at hl 0 rfl) ?_
          obtain ⟨v13, hv, h⟩ := zl_some h
          refine xaZ (pc := 67) hx hb hK hP hv dX12_readsLet_67 ?_
          obtain ⟨σ14, hv, h⟩ := zl_some h
          refine xsZ (pc := 68) hx hb hK hP hS hv dX12_readsLet_68 (fun H locs hP hS => ?_)
          refine lv_iinc (pc := 69) (v := x2_8 + 1) (lv' := [(2, .int (x2_8 + 1)), (0, .ref (o + x0)), (1, .int v1)]) hx hb dX12_readsLet_69 hl (k := 0) rfl rfl (by decide) rfl (fun ls hl => ?_)
          refine lv_goto (pc := 72) (tgt := 37) hx hb dX12_readsLet_72 (by decide) ?_
          exact ih8 (x2_8 + 1, σ14) h _ _ ls hP hS (lv_sub hl [0, 1, 2] rfl)
    exact L37_8 N (0, σ7) h _ _ ls hP hS (lv_sub hl [0, 1, 2] rfl)
  refine lv_if_eq (pc := 18) (tgt := 35) hx hb dX12_readsLet_18 (by decide) (fun c1 => ?_) (fun c1 => ?_)
  · rw [if_pos c1] at h
    exact hj35_7 σ6 h _ _ ls hP hS (lv_sub hl [1, 0] rfl)
  · rw [if_neg c1] at h
    refine lv_aload_n (pc := 21) hx hb dX12_readsLet_21 rfl (lv_at hl 1 rfl) ?_
    refine lv_aload_n (pc := 22) hx hb dX12_readsLet_22 rfl (lv_at hl 1 rfl) ?_
    obtain ⟨v15, hv, h⟩ := zl_some h
    refine xgR (pc := 23) (j := 26) zc12 hx hb hts hown hK hP hv rfl zf_X12_52 dX12_readsLet_23 ?_
    refine lv_iconst (pc := 26) (v := 0) hx hb dX12_readsLet_26 (by decide) ?_
    obtain ⟨v16, hv, h⟩ := zl_some h
    refine xaI (pc := 27) hx hb hK hP hv dX12_readsLet_27 ?_
    refine lv_aload_n (pc := 28) hx hb dX12_readsLet_28 rfl (lv_at hl 1 rfl) ?_
    obtain ⟨v17, hv, h⟩ := zl_some h
    refine xgR (pc := 29) (j := 27) zc12 hx hb hts hown hK hP hv rfl zf_X12_55 dX12_readsLet_29 ?_
    obtain ⟨_, hg, h⟩ := zl_some h
    obtain ⟨v18, σ19, hv, h⟩ := zb_some h
    refine xcallVv (pc := 32) (As := [.int v16, .ref (o + v17)]) (rest := []) ⟨hx, hb, hml, hown, hts⟩ (c_X12_readsSum l D c o g N hv) zc12 zV_X12_286 rfl zd_X12_readsSum ⟨Nat.le_of_ble_eq_true rfl, Nat.le_of_ble_eq_true rfl⟩ hK hP hE hS hg hl.1 rfl (Nat.le_of_ble_eq_true rfl) ⟨Nat.zero_le _, Nat.zero_le _⟩ dX12_readsLet_32 (fun H locs hP hS => ?_)
    exact hj35_7 σ19 h _ _ ls hP hS (lv_sub hl [1, 0] rfl)

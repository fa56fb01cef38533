set_option maxHeartbeats 4000000 in
set_option maxRecDepth 100000 in
theorem cs_X11_isSlot (l : Launch) (D : va_G) (c : zC) (o : Nat) (σ : zS) (p0 : Int32) : Met l yX11_isSlot zs_X11_isSlot (zr 1) (va_Pc [.ref (o + 0), .int p0] (zQ D c o σ)) (va_Qi (fun (r : Int32) (σ1 : zS) => r = zin3 p0.toInt 0 3 ∧ σ = σ1) (zQ D c o) (zA o)) 0 0 (zA o) := by
  refine zMet (by decide) (Nat.le_of_ble_eq_true rfl) ?_
  intro p e s m below meth cd ⟨hx, hb, hr, hml, hown, hts, hlocks⟩ hP hK ls hl
  have hS : va_S (zA o) s.heap s.heap [] := va_S.rf
  have hl : lv_has ls 2 [(0, .ref (o + 0)), (1, .int p0)] := hl
  refine lv_iload_n (pc := 0) hx hb dX11_isSlot_0 rfl (lv_at hl 1 rfl) ?_
  refine lv_if_lt (pc := 1) (tgt := 13) hx hb dX11_isSlot_1 (by decide) (fun c1 => ?_) (fun c1 => ?_)
  · refine lv_iconst (pc := 13) (v := 0) hx hb dX11_isSlot_13 (by decide) ?_
    exact zretz (pc := 14) hx hb hr hlocks hP hK hS (by decide) ⟨by (try simp only [Int32.lt_iff_toInt_lt, Int32.le_iff_toInt_le, zt0, zt1, zt2, zt3, zt4, zt6, zt60] at c1); unfold zin3; split <;> first | rfl | omega, rfl⟩ dX11_isSlot_14
  · refine lv_iload_n (pc := 4) hx hb dX11_isSlot_4 rfl (lv_at hl 1 rfl) ?_
    refine lv_iconst (pc := 5) (v := 4) hx hb dX11_isSlot_5 (by decide) ?_
    refine lv_icmp_ge (pc := 6) (tgt := 13) hx hb dX11_isSlot_6 (by decide) (fun c2 => ?_) (fun c2 => ?_)
    · refine lv_iconst (pc := 13) (v := 0) hx hb dX11_isSlot_13 (by decide) ?_
      exact zretz (pc := 14) hx hb hr hlocks hP hK hS (by decide) ⟨by (try simp only [Int32.lt_iff_toInt_lt, Int32.le_iff_toInt_le, zt0, zt1, zt2, zt3, zt4, zt6, zt60] at c1 c2); unfold zin3; split <;> first | rfl | omega, rfl⟩ dX11_isSlot_14
    · refine lv_iconst (pc := 9) (v := 1) hx hb dX11_isSlot_9 (by decide) ?_
      refine lv_goto (pc := 10) (tgt := 14) hx hb dX11_isSlot_10 (by decide) ?_
      exact zretz (pc := 14) hx hb hr hlocks hP hK hS (by decide) ⟨by (try simp only [Int32.lt_iff_toInt_lt, Int32.le_iff_toInt_le, zt0, zt1, zt2, zt3, zt4, zt6, zt60] at c1 c2); unfold zin3; split <;> first | rfl | omega, rfl⟩ dX11_isSlot_14

set_option maxHeartbeats 4000000 in
set_option maxRecDepth 100000 in
theorem nw_X11_judge (l : Launch) (D : va_G) (c : zC) (o : Nat) (σ : zS) (p0 p1 : Int32) (hR : zRef o σ.2.2) (hN : σ.2.2 0 4 = o + 2) (h0 : σ.1 2 0 = 0) : Met l yX11_judge zs_X11_judge (zr 3) (va_Pc [.ref (o + 0), .int p0, .int p1] (zQ D c o σ)) (va_Qi (fun (r : Int32) (σ1 : zS) => r = -2 ∧ σ = σ1) (zQ D c o) (zA o)) 0 0 (zA o) := by
  refine zMet (by decide) (Nat.le_of_ble_eq_true rfl) ?_
  intro p e s m below meth cd ⟨hx, hb, hr, hml, hown, hts, hlocks⟩ hP hK ls hl
  have hS : va_S (zA o) s.heap s.heap [] := va_S.rf
  have hl : lv_has ls 8 [(0, .ref (o + 0)), (1, .int p0), (2, .int p1)] := hl
  refine lv_aload_n (pc := 0) hx hb dX11_judge_0 rfl (lv_at hl 0 rfl) ?_
  refine lv_iload_n (pc := 1) hx hb dX11_judge_1 rfl (lv_at hl 1 rfl) ?_
  refine zcallVi (pc := 2) (k := 0) (As := [.int p0]) (rest := []) ⟨hx, hb, hml, hown, hts⟩ (cs_X11_isSlot l D c o σ p0) zc11 zV_X11_302 rfl zd_X11_isSlot ⟨Nat.le_of_ble_eq_true rfl, Nat.le_of_ble_eq_true rfl⟩ hK hP hS rfl (by decide) hl.1 rfl (Nat.le_of_ble_eq_true rfl) ⟨Nat.zero_le _, Nat.zero_le _⟩ dX11_judge_2 (fun r1 σ2 H locs hw3 hP hS => ?_)
  obtain ⟨er1, rfl⟩ := hw3
  refine lv_if_eq (pc := 5) (tgt := 16) hx hb dX11_judge_5 (by decide) (fun c4 => ?_) (fun c4 => ?_)
  · refine lv_bipush (pc := 16) (v := (-2)) hx hb dX11_judge_16 (by decide) ?_
    exact zreti (pc := 18) hx hb hr hlocks hP hK hS ⟨rfl, rfl⟩ dX11_judge_18
  · refine lv_aload_n (pc := 8) hx hb dX11_judge_8 rfl (lv_at hl 0 rfl) ?_
    refine lv_iload_n (pc := 9) hx hb dX11_judge_9 rfl (lv_at hl 2 rfl) ?_
    refine zcallVi (pc := 10) (k := 0) (As := [.int p1]) (rest := []) ⟨hx, hb, hml, hown, hts⟩ (nw_X11_isRegister l D c o σ p1 hR hN h0) zc11 zV_X11_135 rfl zd_X11_isRegister ⟨Nat.le_of_ble_eq_true rfl, Nat.le_of_ble_eq_true rfl⟩ hK hP hS rfl (by decide) hl.1 rfl (Nat.le_of_ble_eq_true rfl) ⟨Nat.zero_le _, Nat.zero_le _⟩ dX11_judge_10 (fun r5 σ6 H locs hw7 hP hS => ?_)
    obtain ⟨rfl, rfl⟩ := hw7
    refine lv_if_ne (pc := 13) (tgt := 19) hx hb dX11_judge_13 (by decide) (fun c8 => absurd c8 (by decide)) (fun _ => ?_)
    refine lv_bipush (pc := 16) (v := (-2)) hx hb dX11_judge_16 (by decide) ?_
    exact zreti (pc := 18) hx hb hr hlocks hP hK hS ⟨rfl, rfl⟩ dX11_judge_18

set_option maxHeartbeats 4000000 in
set_option maxRecDepth 100000 in
theorem nw_X11_put (l : Launch) (D : va_G) (c : zC) (o : Nat) (σ : zS) (p0 : Int32) (hR : zRef o σ.2.2) (hN : σ.2.2 0 4 = o + 2) (h0 : σ.1 2 0 = 0) : Met l yX11_put zs_X11_put (zr 3) (va_Pc [.ref (o + 0), .int p0] (zQ D c o σ)) (va_Qi (fun (r : Int32) (σ1 : zS) => r = -2 ∧ zMd o σ σ1) (zQ D c o) (zA o)) 0 0 (zA o) := by
  refine zMet (by decide) (Nat.le_of_ble_eq_true rfl) ?_
  intro p e s m below meth cd ⟨hx, hb, hr, hml, hown, hts, hlocks⟩ hP hK ls hl
  have hS : va_S (zA o) s.heap s.heap [] := va_S.rf
  have hl : lv_has ls 3 [(0, .ref (o + 0)), (1, .int p0)] := hl
  have hH : ∀ a, 218 ≤ a → σ.1 a = σ.1 a := fun _ _ => rfl
  refine lv_aload_n (pc := 0) hx hb dX11_put_0 rfl (lv_at hl 0 rfl) ?_
  refine lv_iload_n (pc := 1) hx hb dX11_put_1 rfl (lv_at hl 1 rfl) ?_
  refine zcallVi (pc := 2) (k := 0) (As := [.int p0]) (rest := []) ⟨hx, hb, hml, hown, hts⟩ (nw_X11_isRegister l D c o σ p0 hR hN h0) zc11 zV_X11_135 rfl zd_X11_isRegister ⟨Nat.le_of_ble_eq_true rfl, Nat.le_of_ble_eq_true rfl⟩ hK hP hS rfl (by decide) hl.1 rfl (Nat.le_of_ble_eq_true rfl) ⟨Nat.zero_le _, Nat.zero_le _⟩ dX11_put_2 (fun r1 σ2 H locs hw3 hP hS => ?_)
  obtain ⟨rfl, rfl⟩ := hw3
  refine lv_if_ne (pc := 5) (tgt := 16) hx hb dX11_put_5 (by decide) (fun c4 => absurd c4 (by decide)) (fun _ => ?_)
  refine lv_aload_n (pc := 8) hx hb dX11_put_8 rfl (lv_at hl 0 rfl) ?_
  refine lv_iconst (pc := 9) (v := 0) hx hb dX11_put_9 (by decide) ?_
  refine zputI (pc := 10) (k := 0) (j := 1) zc11 hx hb hts hown hK hP hS rfl (by decide) rfl rfl rfl zf_X11_13 dX11_put_10 (fun H locs hP hS => ?_)
  obtain ⟨σ5, eσ5⟩ : ∃ x : zS, x = zI σ 0 (upd (σ.1 0) 1 0) := ⟨_, rfl⟩
  have hP : zP D c o σ5 H := by rw [eσ5]; exact hP
  have h0 : σ5.1 2 0 = 0 := zI_ne eσ5 (by decide) h0
  have f0_1 : σ5.1 0 1 = 0 := zI_eq eσ5 pk_us
  have hN : σ5.2.2 0 4 = o + 2 := zI_r eσ5 hN
  have hR : zRef o σ5.2.2 := zI_ref eσ5 hR
  have hH : ∀ a, 218 ≤ a → σ5.1 a = σ.1 a := zI_hi eσ5 (by decide) hH
  refine lv_bipush (pc := 13) (v := (-2)) hx hb dX11_put_13 (by decide) ?_
  exact zreti (pc := 15) hx hb hr hlocks hP hK hS ⟨rfl, hR, hH⟩ dX11_put_15

set_option maxHeartbeats 4000000 in
set_option maxRecDepth 100000 in
theorem fr_X11_end (l : Launch) (D : va_G) (c : zC) (o : Nat) (σ : zS) (p0 : Int32) (hR : zRef o σ.2.2) (ht : σ.1 0 1 = 0) : Met l yX11_end zs_X11_end (zr 1) (va_Pc [.ref (o + 0), .int p0] (zQ D c o σ)) (va_Qi (fun (r : Int32) (σ1 : zS) => r = zsp_end p0 ∧ zMd o σ σ1) (zQ D c o) (zA o)) 0 0 (zA o) := by
  refine zMet (by decide) (Nat.le_of_ble_eq_true rfl) ?_
  intro p e s m below meth cd ⟨hx, hb, hr, hml, hown, hts, hlocks⟩ hP hK ls hl
  have hS : va_S (zA o) s.heap s.heap [] := va_S.rf
  have hl : lv_has ls 2 [(0, .ref (o + 0)), (1, .int p0)] := hl
  have hH : ∀ a, 218 ≤ a → σ.1 a = σ.1 a := fun _ _ => rfl
  refine lv_iload_n (pc := 0) hx hb dX11_end_0 rfl (lv_at hl 1 rfl) ?_
  refine lv_if_lt (pc := 1) (tgt := 12) hx hb dX11_end_1 (by decide) (fun c1 => ?_) (fun c1 => ?_)
  · refine lv_iconst (pc := 12) (v := (-1)) hx hb dX11_end_12 (by decide) ?_
    exact zreti (pc := 13) hx hb hr hlocks hP hK hS ⟨(if_neg (fun h => by subst h; exact absurd c1 (by decide))).symm, hR, hH⟩ dX11_end_13
  · refine lv_iload_n (pc := 4) hx hb dX11_end_4 rfl (lv_at hl 1 rfl) ?_
    refine lv_aload_n (pc := 5) hx hb dX11_end_5 rfl (lv_at hl 0 rfl) ?_
    refine zgetI (pc := 6) (k := 0) (j := 1) (v := 0) zc11 hx hb hts hown hK hP rfl (by decide) rfl ht zf_X11_13 dX11_end_6 ?_
    refine lv_icmp_le (pc := 9) (tgt := 14) hx hb dX11_end_9 (by decide) (fun c2 => ?_) (fun c2 => ?_)
    · refine lv_aload_n (pc := 14) hx hb dX11_end_14 rfl (lv_at hl 0 rfl) ?_
      refine lv_iload_n (pc := 15) hx hb dX11_end_15 rfl (lv_at hl 1 rfl) ?_
      refine zputI (pc := 16) (k := 0) (j := 1) zc11 hx hb hts hown hK hP hS rfl (by decide) rfl rfl rfl zf_X11_13 dX11_end_16 (fun H locs hP hS => ?_)
      obtain ⟨σ3, eσ3⟩ : ∃ x : zS, x = zI σ 0 (upd (σ.1 0) 1 p0) := ⟨_, rfl⟩
      have hP : zP D c o σ3 H := by rw [eσ3]; exact hP
      have f0_1 : σ3.1 0 1 = p0 := zI_eq eσ3 pk_us
      have hR : zRef o σ3.2.2 := zI_ref eσ3 hR
      have hH : ∀ a, 218 ≤ a → σ3.1 a = σ.1 a := zI_hi eσ3 (by decide) hH
      refine lv_iload_n (pc := 19) hx hb dX11_end_19 rfl (lv_at hl 1 rfl) ?_
      exact zreti (pc := 20) hx hb hr hlocks hP hK hS ⟨by have h := zeq0 c1 c2; subst h; rfl, hR, hH⟩ dX11_end_20
    · refine lv_iconst (pc := 12) (v := (-1)) hx hb dX11_end_12 (by decide) ?_
      exact zreti (pc := 13) hx hb hr hlocks hP hK hS ⟨(if_neg (fun h => by subst h; exact absurd c2 (by decide))).symm, hR, hH⟩ dX11_end_13

set_option maxHeartbeats 4000000 in
set_option maxRecDepth 100000 in
theorem fr_X11_fault (l : Launch) (D : va_G) (c : zC) (o : Nat) (σ : zS) (p0 : Int32) (hk : σ.1 0 2 = 0) (hp : σ.1 0 3 = -1) : Met l yX11_fault zs_X11_fault (zr 1) (va_Pc [.ref (o + 0), .int p0] (zQ D c o σ)) (va_Qi (fun (r : Int32) (σ1 : zS) => r = zsp_fault p0 ∧ σ = σ1) (zQ D c o) (zA o)) 0 0 (zA o) := by
  refine zMet (by decide) (Nat.le_of_ble_eq_true rfl) ?_
  intro p e s m below meth cd ⟨hx, hb, hr, hml, hown, hts, hlocks⟩ hP hK ls hl
  have hS : va_S (zA o) s.heap s.heap [] := va_S.rf
  have hl : lv_has ls 2 [(0, .ref (o + 0)), (1, .int p0)] := hl
  refine lv_iload_n (pc := 0) hx hb dX11_fault_0 rfl (lv_at hl 1 rfl) ?_
  refine lv_if_ne (pc := 1) (tgt := 9) hx hb dX11_fault_1 (by decide) (fun c1 => ?_) (fun c1 => ?_)
  · refine lv_iload_n (pc := 9) hx hb dX11_fault_9 rfl (lv_at hl 1 rfl) ?_
    refine lv_iconst (pc := 10) (v := 1) hx hb dX11_fault_10 (by decide) ?_
    refine lv_icmp_ne (pc := 11) (tgt := 21) hx hb dX11_fault_11 (by decide) (fun c2 => ?_) (fun c2 => ?_)
    · refine lv_iconst (pc := 21) (v := (-1)) hx hb dX11_fault_21 (by decide) ?_
      exact zreti (pc := 22) hx hb hr hlocks hP hK hS ⟨(if_neg c1).symm, rfl⟩ dX11_fault_22
    · refine lv_aload_n (pc := 14) hx hb dX11_fault_14 rfl (lv_at hl 0 rfl) ?_
      refine zgetI (pc := 15) (k := 0) (j := 3) (v := (-1)) zc11 hx hb hts hown hK hP rfl (by decide) rfl hp zf_X11_20 dX11_fault_15 ?_
      refine lv_goto (pc := 18) (tgt := 22) hx hb dX11_fault_18 (by decide) ?_
      exact zreti (pc := 22) hx hb hr hlocks hP hK hS ⟨(if_neg c1).symm, rfl⟩ dX11_fault_22
  · refine lv_aload_n (pc := 4) hx hb dX11_fault_4 rfl (lv_at hl 0 rfl) ?_
    refine zgetI (pc := 5) (k := 0) (j := 2) (v := 0) zc11 hx hb hts hown hK hP rfl (by decide) rfl hk zf_X11_17 dX11_fault_5 ?_
    exact zreti (pc := 8) hx hb hr hlocks hP hK hS ⟨(if_pos c1).symm, rfl⟩ dX11_fault_8

set_option maxHeartbeats 4000000 in
set_option maxRecDepth 100000 in
theorem fr_tape0 (l : Launch) (D : va_G) (c : zC) (o : Nat) (σ : zS) (p0 : Int32) (hR : zRef o σ.2.2) : Met l yX11_tapeNumber zs_X11_tapeNumber (zr 1) (va_Pc [.ref (o + 0), .int p0, .int 0] (zQ D c o σ)) (va_Qv (fun (σ1 : zS) => zFr [1] σ σ1) (zQ D c o) (zA o)) 0 0 (zA o) := by
  refine zMet (by decide) (Nat.le_of_ble_eq_true rfl) ?_
  intro p e s m below meth cd ⟨hx, hb, hr, hml, hown, hts, hlocks⟩ hP hK ls hl
  have hS : va_S (zA o) s.heap s.heap [] := va_S.rf
  have hl : lv_has ls 4 [(0, .ref (o + 0)), (1, .int p0), (2, .int 0)] := hl
  have hF : zFr [1] σ σ := zFr_rf
  refine lv_iconst (pc := 0) (v := 0) hx hb dX11_tapeNumber_0 (by decide) ?_
  refine lv_istore_n (pc := 1) (lv' := [(3, .int 0), (0, .ref (o + 0)), (1, .int p0), (2, .int 0)]) hx hb dX11_tapeNumber_1 rfl hl (by decide) rfl (fun ls hl => ?_)
  refine lv_iload_n (pc := 2) hx hb dX11_tapeNumber_2 rfl (lv_at hl 0 rfl) ?_
  refine lv_iconst (pc := 3) (v := 4) hx hb dX11_tapeNumber_3 (by decide) ?_
  refine lv_icmp_ge (pc := 4) (tgt := 44) hx hb dX11_tapeNumber_4 (by decide) (fun c1 => absurd c1 (by decide)) (fun _ => ?_)
  refine lv_iload_n (pc := 7) hx hb dX11_tapeNumber_7 rfl (lv_at hl 3 rfl) ?_
  refine lv_if_lt (pc := 8) (tgt := 38) hx hb dX11_tapeNumber_8 (by decide) (fun c2 => absurd c2 (by decide)) (fun _ => ?_)
  refine lv_iload_n (pc := 11) hx hb dX11_tapeNumber_11 rfl (lv_at hl 3 rfl) ?_
  refine lv_iload_n (pc := 12) hx hb dX11_tapeNumber_12 rfl (lv_at hl 0 rfl) ?_
  refine lv_iadd (pc := 13) hx hb dX11_tapeNumber_13 ?_
  refine lv_topi (pc := 14) (fun v3 ev3 => ?_)
  obtain rfl : v3 = 0 := ev3.trans (by decide)
  refine lv_sipush (pc := 14) (v := 600) hx hb dX11_tapeNumber_14 (by decide) ?_
  refine lv_icmp_ge (pc := 17) (tgt := 38) hx hb dX11_tapeNumber_17 (by decide) (fun c4 => absurd c4 (by decide)) (fun _ => ?_)
  refine lv_aload_n (pc := 20) hx hb dX11_tapeNumber_20 rfl (lv_at hl 1 rfl) ?_
  refine zgetR (pc := 21) (k := 0) (j := 0) (a := o + 1) zc11 hx hb hts hown hK hP rfl (by decide) rfl (hR 0 0 rfl) zf_X11_9 dX11_tapeNumber_21 ?_
  refine lv_iload_n (pc := 24) hx hb dX11_tapeNumber_24 rfl (lv_at hl 3 rfl) ?_
  refine lv_iload_n (pc := 25) hx hb dX11_tapeNumber_25 rfl (lv_at hl 0 rfl) ?_
  refine lv_iadd (pc := 26) hx hb dX11_tapeNumber_26 ?_
  refine lv_topi (pc := 27) (fun v5 ev5 => ?_)
  obtain rfl : v5 = 0 := ev5.trans (by decide)
  refine lv_iload_n (pc := 27) hx hb dX11_tapeNumber_27 rfl (lv_at hl 2 rfl) ?_
  refine lv_bipush (pc := 28) (v := 24) hx hb dX11_tapeNumber_28 (by decide) ?_
  refine lv_bipush (pc := 30) (v := 8) hx hb dX11_tapeNumber_30 (by decide) ?_
  refine lv_iload_n (pc := 32) hx hb dX11_tapeNumber_32 rfl (lv_at hl 0 rfl) ?_
  refine lv_imul (pc := 33) hx hb dX11_tapeNumber_33 ?_
  refine lv_topi (pc := 34) (fun v6 ev6 => ?_)
  obtain rfl : v6 = 0 := ev6.trans (by decide)
  refine lv_isub (pc := 34) hx hb dX11_tapeNumber_34 ?_
  refine lv_topi (pc := 35) (fun v7 ev7 => ?_)
  obtain rfl : v7 = 24 := ev7.trans (by decide)
  refine lv_iushr (pc := 35) hx hb dX11_tapeNumber_35 rfl ?_
  refine lv_topi (pc := 36) (fun v8 ev8 => ?_)
  refine lv_i2b (pc := 36) hx hb dX11_tapeNumber_36 rfl ?_
  refine lv_topi (pc := 37) (fun v9 ev9 => ?_)
  refine zbast (pc := 37) (k := 1) (n := 600) hx hb hK hP hS rfl (by decide) (vp_in_iff.mpr ⟨by decide, by decide⟩) dX11_tapeNumber_37 (fun H locs hP hS => ?_)
  obtain ⟨σ10, eσ10⟩ : ∃ x : zS, x = zI σ 1 (upd (σ.1 1) 0 (vp_nar .byte v9)) := ⟨_, rfl⟩
  have hP : zP D c o σ10 H := by rw [eσ10]; exact hP
  have hR : zRef o σ10.2.2 := zI_ref eσ10 hR
  have hF : zFr [1] σ σ10 := zFr_I eσ10 hF (by decide)
  refine lv_iinc (pc := 38) (v := 1) (lv' := [(3, .int 1), (0, .ref (o + 0)), (1, .int p0), (2, .int 0)]) hx hb dX11_tapeNumber_38 hl (k := 0) rfl (by decide) (by decide) rfl (fun ls hl => ?_)
  refine lv_goto (pc := 41) (tgt := 2) hx hb dX11_tapeNumber_41 (by decide) ?_
  refine lv_iload_n (pc := 2) hx hb dX11_tapeNumber_2 rfl (lv_at hl 0 rfl) ?_
  refine lv_iconst (pc := 3) (v := 4) hx hb dX11_tapeNumber_3 (by decide) ?_
  refine lv_icmp_ge (pc := 4) (tgt := 44) hx hb dX11_tapeNumber_4 (by decide) (fun c11 => absurd c11 (by decide)) (fun _ => ?_)
  refine lv_iload_n (pc := 7) hx hb dX11_tapeNumber_7 rfl (lv_at hl 3 rfl) ?_
  refine lv_if_lt (pc := 8) (tgt := 38) hx hb dX11_tapeNumber_8 (by decide) (fun c12 => absurd c12 (by decide)) (fun _ => ?_)
  refine lv_iload_n (pc := 11) hx hb dX11_tapeNumber_11 rfl (lv_at hl 3 rfl) ?_
  refine lv_iload_n (pc := 12) hx hb dX11_tapeNumber_12 rfl (lv_at hl 0 rfl) ?_
  refine lv_iadd (pc := 13) hx hb dX11_tapeNumber_13 ?_
  refine lv_topi (pc := 14) (fun v13 ev13 => ?_)
  obtain rfl : v13 = 1 := ev13.trans (by decide)
  refine lv_sipush (pc := 14) (v := 600) hx hb dX11_tapeNumber_14 (by decide) ?_
  refine lv_icmp_ge (pc := 17) (tgt := 38) hx hb dX11_tapeNumber_17 (by decide) (fun c14 => absurd c14 (by decide)) (fun _ => ?_)
  refine lv_aload_n (pc := 20) hx hb dX11_tapeNumber_20 rfl (lv_at hl 1 rfl) ?_
  refine zgetR (pc := 21) (k := 0) (j := 0) (a := o + 1) zc11 hx hb hts hown hK hP rfl (by decide) rfl (hR 0 0 rfl) zf_X11_9 dX11_tapeNumber_21 ?_
  refine lv_iload_n (pc := 24) hx hb dX11_tapeNumber_24 rfl (lv_at hl 3 rfl) ?_
  refine lv_iload_n (pc := 25) hx hb dX11_tapeNumber_25 rfl (lv_at hl 0 rfl) ?_
  refine lv_iadd (pc := 26) hx hb dX11_tapeNumber_26 ?_
  refine lv_topi (pc := 27) (fun v15 ev15 => ?_)
  obtain rfl : v15 = 1 := ev15.trans (by decide)
  refine lv_iload_n (pc := 27) hx hb dX11_tapeNumber_27 rfl (lv_at hl 2 rfl) ?_
  refine lv_bipush (pc := 28) (v := 24) hx hb dX11_tapeNumber_28 (by decide) ?_
  refine lv_bipush (pc := 30) (v := 8) hx hb dX11_tapeNumber_30 (by decide) ?_
  refine lv_iload_n (pc := 32) hx hb dX11_tapeNumber_32 rfl (lv_at hl 0 rfl) ?_
  refine lv_imul (pc := 33) hx hb dX11_tapeNumber_33 ?_
  refine lv_topi (pc := 34) (fun v16 ev16 => ?_)
  obtain rfl : v16 = 8 := ev16.trans (by decide)
  refine lv_isub (pc := 34) hx hb dX11_tapeNumber_34 ?_
  refine lv_topi (pc := 35) (fun v17 ev17 => ?_)
  obtain rfl : v17 = 16 := ev17.trans (by decide)
  refine lv_iushr (pc := 35) hx hb dX11_tapeNumber_35 rfl ?_
  refine lv_topi (pc := 36) (fun v18 ev18 => ?_)
  refine lv_i2b (pc := 36) hx hb dX11_tapeNumber_36 rfl ?_
  refine lv_topi (pc := 37) (fun v19 ev19 => ?_)
  refine zbast (pc := 37) (k := 1) (n := 600) hx hb hK hP hS rfl (by decide) (vp_in_iff.mpr ⟨by decide, by decide⟩) dX11_tapeNumber_37 (fun H locs hP hS => ?_)
  obtain ⟨σ20, eσ20⟩ : ∃ x : zS, x = zI σ10 1 (upd (σ10.1 1) 1 (vp_nar .byte v19)) := ⟨_, rfl⟩
  have hP : zP D c o σ20 H := by rw [eσ20]; exact hP
  have hR : zRef o σ20.2.2 := zI_ref eσ20 hR
  have hF : zFr [1] σ σ20 := zFr_I eσ20 hF (by decide)
  refine lv_iinc (pc := 38) (v := 2) (lv' := [(3, .int 2), (0, .ref (o + 0)), (1, .int p0), (2, .int 0)]) hx hb dX11_tapeNumber_38 hl (k := 0) rfl (by decide) (by decide) rfl (fun ls hl => ?_)
  refine lv_goto (pc := 41) (tgt := 2) hx hb dX11_tapeNumber_41 (by decide) ?_
  refine lv_iload_n (pc := 2) hx hb dX11_tapeNumber_2 rfl (lv_at hl 0 rfl) ?_
  refine lv_iconst (pc := 3) (v := 4) hx hb dX11_tapeNumber_3 (by decide) ?_
  refine lv_icmp_ge (pc := 4) (tgt := 44) hx hb dX11_tapeNumber_4 (by decide) (fun c21 => absurd c21 (by decide)) (fun _ => ?_)
  refine lv_iload_n (pc := 7) hx hb dX11_tapeNumber_7 rfl (lv_at hl 3 rfl) ?_
  refine lv_if_lt (pc := 8) (tgt := 38) hx hb dX11_tapeNumber_8 (by decide) (fun c22 => absurd c22 (by decide)) (fun _ => ?_)
  refine lv_iload_n (pc := 11) hx hb dX11_tapeNumber_11 rfl (lv_at hl 3 rfl) ?_
  refine lv_iload_n (pc := 12) hx hb dX11_tapeNumber_12 rfl (lv_at hl 0 rfl) ?_
  refine lv_iadd (pc := 13) hx hb dX11_tapeNumber_13 ?_
  refine lv_topi (pc := 14) (fun v23 ev23 => ?_)
  obtain rfl : v23 = 2 := ev23.trans (by decide)
  refine lv_sipush (pc := 14) (v := 600) hx hb dX11_tapeNumber_14 (by decide) ?_
  refine lv_icmp_ge (pc := 17) (tgt := 38) hx hb dX11_tapeNumber_17 (by decide) (fun c24 => absurd c24 (by decide)) (fun _ => ?_)
  refine lv_aload_n (pc := 20) hx hb dX11_tapeNumber_20 rfl (lv_at hl 1 rfl) ?_
  refine zgetR (pc := 21) (k := 0) (j := 0) (a := o + 1) zc11 hx hb hts hown hK hP rfl (by decide) rfl (hR 0 0 rfl) zf_X11_9 dX11_tapeNumber_21 ?_
  refine lv_iload_n (pc := 24) hx hb dX11_tapeNumber_24 rfl (lv_at hl 3 rfl) ?_
  refine lv_iload_n (pc := 25) hx hb dX11_tapeNumber_25 rfl (lv_at hl 0 rfl) ?_
  refine lv_iadd (pc := 26) hx hb dX11_tapeNumber_26 ?_
  refine lv_topi (pc := 27) (fun v25 ev25 => ?_)
  obtain rfl : v25 = 2 := ev25.trans (by decide)
  refine lv_iload_n (pc := 27) hx hb dX11_tapeNumber_27 rfl (lv_at hl 2 rfl) ?_
  refine lv_bipush (pc := 28) (v := 24) hx hb dX11_tapeNumber_28 (by decide) ?_
  refine lv_bipush (pc := 30) (v := 8) hx hb dX11_tapeNumber_30 (by decide) ?_
  refine lv_iload_n (pc := 32) hx hb dX11_tapeNumber_32 rfl (lv_at hl 0 rfl) ?_
  refine lv_imul (pc := 33) hx hb dX11_tapeNumber_33 ?_
  refine lv_topi (pc := 34) (fun v26 ev26 => ?_)
  obtain rfl : v26 = 16 := ev26.trans (by decide)
  refine lv_isub (pc := 34) hx hb dX11_tapeNumber_34 ?_
  refine lv_topi (pc := 35) (fun v27 ev27 => ?_)
  obtain rfl : v27 = 8 := ev27.trans (by decide)
  refine lv_iushr (pc := 35) hx hb dX11_tapeNumber_35 rfl ?_
  refine lv_topi (pc := 36) (fun v28 ev28 => ?_)
  refine lv_i2b (pc := 36) hx hb dX11_tapeNumber_36 rfl ?_
  refine lv_topi (pc := 37) (fun v29 ev29 => ?_)
  refine zbast (pc := 37) (k := 1) (n := 600) hx hb hK hP hS rfl (by decide) (vp_in_iff.mpr ⟨by decide, by decide⟩) dX11_tapeNumber_37 (fun H locs hP hS => ?_)
  obtain ⟨σ30, eσ30⟩ : ∃ x : zS, x = zI σ20 1 (upd (σ20.1 1) 2 (vp_nar .byte v29)) := ⟨_, rfl⟩
  have hP : zP D c o σ30 H := by rw [eσ30]; exact hP
  have hR : zRef o σ30.2.2 := zI_ref eσ30 hR
  have hF : zFr [1] σ σ30 := zFr_I eσ30 hF (by decide)
  refine lv_iinc (pc := 38) (v := 3) (lv' := [(3, .int 3), (0, .ref (o + 0)), (1, .int p0), (2, .int 0)]) hx hb dX11_tapeNumber_38 hl (k := 0) rfl (by decide) (by decide) rfl (fun ls hl => ?_)
  refine lv_goto (pc := 41) (tgt := 2) hx hb dX11_tapeNumber_41 (by decide) ?_
  refine lv_iload_n (pc := 2) hx hb dX11_tapeNumber_2 rfl (lv_at hl 0 rfl) ?_
  refine lv_iconst (pc := 3) (v := 4) hx hb dX11_tapeNumber_3 (by decide) ?_
  refine lv_icmp_ge (pc := 4) (tgt := 44) hx hb dX11_tapeNumber_4 (by decide) (fun c31 => absurd c31 (by decide)) (fun _ => ?_)
  refine lv_iload_n (pc := 7) hx hb dX11_tapeNumber_7 rfl (lv_at hl 3 rfl) ?_
  refine lv_if_lt (pc := 8) (tgt := 38) hx hb dX11_tapeNumber_8 (by decide) (fun c32 => absurd c32 (by decide)) (fun _ => ?_)
  refine lv_iload_n (pc := 11) hx hb dX11_tapeNumber_11 rfl (lv_at hl 3 rfl) ?_
  refine lv_iload_n (pc := 12) hx hb dX11_tapeNumber_12 rfl (lv_at hl 0 rfl) ?_
  refine lv_iadd (pc := 13) hx hb dX11_tapeNumber_13 ?_
  refine lv_topi (pc := 14) (fun v33 ev33 => ?_)
  obtain rfl : v33 = 3 := ev33.trans (by decide)
  refine lv_sipush (pc := 14) (v := 600) hx hb dX11_tapeNumber_14 (by decide) ?_
  refine lv_icmp_ge (pc := 17) (tgt := 38) hx hb dX11_tapeNumber_17 (by decide) (fun c34 => absurd c34 (by decide)) (fun _ => ?_)
  refine lv_aload_n (pc := 20) hx hb dX11_tapeNumber_20 rfl (lv_at hl 1 rfl) ?_
  refine zgetR (pc := 21) (k := 0) (j := 0) (a := o + 1) zc11 hx hb hts hown hK hP rfl (by decide) rfl (hR 0 0 rfl) zf_X11_9 dX11_tapeNumber_21 ?_
  refine lv_iload_n (pc := 24) hx hb dX11_tapeNumber_24 rfl (lv_at hl 3 rfl) ?_
  refine lv_iload_n (pc := 25) hx hb dX11_tapeNumber_25 rfl (lv_at hl 0 rfl) ?_
  refine lv_iadd (pc := 26) hx hb dX11_tapeNumber_26 ?_
  refine lv_topi (pc := 27) (fun v35 ev35 => ?_)
  obtain rfl : v35 = 3 := ev35.trans (by decide)
  refine lv_iload_n (pc := 27) hx hb dX11_tapeNumber_27 rfl (lv_at hl 2 rfl) ?_
  refine lv_bipush (pc := 28) (v := 24) hx hb dX11_tapeNumber_28 (by decide) ?_
  refine lv_bipush (pc := 30) (v := 8) hx hb dX11_tapeNumber_30 (by decide) ?_
  refine lv_iload_n (pc := 32) hx hb dX11_tapeNumber_32 rfl (lv_at hl 0 rfl) ?_
  refine lv_imul (pc := 33) hx hb dX11_tapeNumber_33 ?_
  refine lv_topi (pc := 34) (fun v36 ev36 => ?_)
  obtain rfl : v36 = 24 := ev36.trans (by decide)
  refine lv_isub (pc := 34) hx hb dX11_tapeNumber_34 ?_
  refine lv_topi (pc := 35) (fun v37 ev37 => ?_)
  obtain rfl : v37 = 0 := ev37.trans (by decide)
  refine lv_iushr (pc := 35) hx hb dX11_tapeNumber_35 rfl ?_
  refine lv_topi (pc := 36) (fun v38 ev38 => ?_)
  refine lv_i2b (pc := 36) hx hb dX11_tapeNumber_36 rfl ?_
  refine lv_topi (pc := 37) (fun v39 ev39 => ?_)
  refine zbast (pc := 37) (k := 1) (n := 600) hx hb hK hP hS rfl (by decide) (vp_in_iff.mpr ⟨by decide, by decide⟩) dX11_tapeNumber_37 (fun H locs hP hS => ?_)
  obtain ⟨σ40, eσ40⟩ : ∃ x : zS, x = zI σ30 1 (upd (σ30.1 1) 3 (vp_nar .byte v39)) := ⟨_, rfl⟩
  have hP : zP D c o σ40 H := by rw [eσ40]; exact hP
  have hR : zRef o σ40.2.2 := zI_ref eσ40 hR
  have hF : zFr [1] σ σ40 := zFr_I eσ40 hF (by decide)
  refine lv_iinc (pc := 38) (v := 4) (lv' := [(3, .int 4), (0, .ref (o + 0)), (1, .int p0), (2, .int 0)]) hx hb dX11_tapeNumber_38 hl (k := 0) rfl (by decide) (by decide) rfl (fun ls hl => ?_)
  refine lv_goto (pc := 41) (tgt := 2) hx hb dX11_tapeNumber_41 (by decide) ?_
  refine lv_iload_n (pc := 2) hx hb dX11_tapeNumber_2 rfl (lv_at hl 0 rfl) ?_
  refine lv_iconst (pc := 3) (v := 4) hx hb dX11_tapeNumber_3 (by decide) ?_
  refine lv_icmp_ge (pc := 4) (tgt := 44) hx hb dX11_tapeNumber_4 (by decide) (fun _ => ?_) (fun c41 => absurd c41 (by decide))
  exact zretv (pc := 44) hx hb hr hlocks hP hK hS hF dX11_tapeNumber_44

set_option maxHeartbeats 4000000 in
set_option maxRecDepth 100000 in
theorem fr_tape4 (l : Launch) (D : va_G) (c : zC) (o : Nat) (σ : zS) (p0 : Int32) (hR : zRef o σ.2.2) : Met l yX11_tapeNumber zs_X11_tapeNumber (zr 1) (va_Pc [.ref (o + 0), .int p0, .int 4] (zQ D c o σ)) (va_Qv (fun (σ1 : zS) => zFr [1] σ σ1) (zQ D c o) (zA o)) 0 0 (zA o) := by
  refine zMet (by decide) (Nat.le_of_ble_eq_true rfl) ?_
  intro p e s m below meth cd ⟨hx, hb, hr, hml, hown, hts, hlocks⟩ hP hK ls hl
  have hS : va_S (zA o) s.heap s.heap [] := va_S.rf
  have hl : lv_has ls 4 [(0, .ref (o + 0)), (1, .int p0), (2, .int 4)] := hl
  have hF : zFr [1] σ σ := zFr_rf
  refine lv_iconst (pc := 0) (v := 0) hx hb dX11_tapeNumber_0 (by decide) ?_
  refine lv_istore_n (pc := 1) (lv' := [(3, .int 0), (0, .ref (o + 0)), (1, .int p0), (2, .int 4)]) hx hb dX11_tapeNumber_1 rfl hl (by decide) rfl (fun ls hl => ?_)
  refine lv_iload_n (pc := 2) hx hb dX11_tapeNumber_2 rfl (lv_at hl 0 rfl) ?_
  refine lv_iconst (pc := 3) (v := 4) hx hb dX11_tapeNumber_3 (by decide) ?_
  refine lv_icmp_ge (pc := 4) (tgt := 44) hx hb dX11_tapeNumber_4 (by decide) (fun c1 => absurd c1 (by decide)) (fun _ => ?_)
  refine lv_iload_n (pc := 7) hx hb dX11_tapeNumber_7 rfl (lv_at hl 3 rfl) ?_
  refine lv_if_lt (pc := 8) (tgt := 38) hx hb dX11_tapeNumber_8 (by decide) (fun c2 => absurd c2 (by decide)) (fun _ => ?_)
  refine lv_iload_n (pc := 11) hx hb dX11_tapeNumber_11 rfl (lv_at hl 3 rfl) ?_
  refine lv_iload_n (pc := 12) hx hb dX11_tapeNumber_12 rfl (lv_at hl 0 rfl) ?_
  refine lv_iadd (pc := 13) hx hb dX11_tapeNumber_13 ?_
  refine lv_topi (pc := 14) (fun v3 ev3 => ?_)
  obtain rfl : v3 = 4 := ev3.trans (by decide)
  refine lv_sipush (pc := 14) (v := 600) hx hb dX11_tapeNumber_14 (by decide) ?_
  refine lv_icmp_ge (pc := 17) (tgt := 38) hx hb dX11_tapeNumber_17 (by decide) (fun c4 => absurd c4 (by decide)) (fun _ => ?_)
  refine lv_aload_n (pc := 20) hx hb dX11_tapeNumber_20 rfl (lv_at hl 1 rfl) ?_
  refine zgetR (pc := 21) (k := 0) (j := 0) (a := o + 1) zc11 hx hb hts hown hK hP rfl (by decide) rfl (hR 0 0 rfl) zf_X11_9 dX11_tapeNumber_21 ?_
  refine lv_iload_n (pc := 24) hx hb dX11_tapeNumber_24 rfl (lv_at hl 3 rfl) ?_
  refine lv_iload_n (pc := 25) hx hb dX11_tapeNumber_25 rfl (lv_at hl 0 rfl) ?_
  refine lv_iadd (pc := 26) hx hb dX11_tapeNumber_26 ?_
  refine lv_topi (pc := 27) (fun v5 ev5 => ?_)
  obtain rfl : v5 = 4 := ev5.trans (by decide)
  refine lv_iload_n (pc := 27) hx hb dX11_tapeNumber_27 rfl (lv_at hl 2 rfl) ?_
  refine lv_bipush (pc := 28) (v := 24) hx hb dX11_tapeNumber_28 (by decide) ?_
  refine lv_bipush (pc := 30) (v := 8) hx hb dX11_tapeNumber_30 (by decide) ?_
  refine lv_iload_n (pc := 32) hx hb dX11_tapeNumber_32 rfl (lv_at hl 0 rfl) ?_
  refine lv_imul (pc := 33) hx hb dX11_tapeNumber_33 ?_
  refine lv_topi (pc := 34) (fun v6 ev6 => ?_)
  obtain rfl : v6 = 0 := ev6.trans (by decide)
  refine lv_isub (pc := 34) hx hb dX11_tapeNumber_34 ?_
  refine lv_topi (pc := 35) (fun v7 ev7 => ?_)
  obtain rfl : v7 = 24 := ev7.trans (by decide)
  refine lv_iushr (pc := 35) hx hb dX11_tapeNumber_35 rfl ?_
  refine lv_topi (pc := 36) (fun v8 ev8 => ?_)
  refine lv_i2b (pc := 36) hx hb dX11_tapeNumber_36 rfl ?_
  refine lv_topi (pc := 37) (fun v9 ev9 => ?_)
  refine zbast (pc := 37) (k := 1) (n := 600) hx hb hK hP hS rfl (by decide) (vp_in_iff.mpr ⟨by decide, by decide⟩) dX11_tapeNumber_37 (fun H locs hP hS => ?_)
  obtain ⟨σ10, eσ10⟩ : ∃ x : zS, x = zI σ 1 (upd (σ.1 1) 4 (vp_nar .byte v9)) := ⟨_, rfl⟩
  have hP : zP D c o σ10 H := by rw [eσ10]; exact hP
  have hR : zRef o σ10.2.2 := zI_ref eσ10 hR
  have hF : zFr [1] σ σ10 := zFr_I eσ10 hF (by decide)
  refine lv_iinc (pc := 38) (v := 1) (lv' := [(3, .int 1), (0, .ref (o + 0)), (1, .int p0), (2, .int 4)]) hx hb dX11_tapeNumber_38 hl (k := 0) rfl (by decide) (by decide) rfl (fun ls hl => ?_)
  refine lv_goto (pc := 41) (tgt := 2) hx hb dX11_tapeNumber_41 (by decide) ?_
  refine lv_iload_n (pc := 2) hx hb dX11_tapeNumber_2 rfl (lv_at hl 0 rfl) ?_
  refine lv_iconst (pc := 3) (v := 4) hx hb dX11_tapeNumber_3 (by decide) ?_
  refine lv_icmp_ge (pc := 4) (tgt := 44) hx hb dX11_tapeNumber_4 (by decide) (fun c11 => absurd c11 (by decide)) (fun _ => ?_)
  refine lv_iload_n (pc := 7) hx hb dX11_tapeNumber_7 rfl (lv_at hl 3 rfl) ?_
  refine lv_if_lt (pc := 8) (tgt := 38) hx hb dX11_tapeNumber_8 (by decide) (fun c12 => absurd c12 (by decide)) (fun _ => ?_)
  refine lv_iload_n (pc := 11) hx hb dX11_tapeNumber_11 rfl (lv_at hl 3 rfl) ?_
  refine lv_iload_n (pc := 12) hx hb dX11_tapeNumber_12 rfl (lv_at hl 0 rfl) ?_
  refine lv_iadd (pc := 13) hx hb dX11_tapeNumber_13 ?_
  refine lv_topi (pc := 14) (fun v13 ev13 => ?_)
  obtain rfl : v13 = 5 := ev13.trans (by decide)
  refine lv_sipush (pc := 14) (v := 600) hx hb dX11_tapeNumber_14 (by decide) ?_
  refine lv_icmp_ge (pc := 17) (tgt := 38) hx hb dX11_tapeNumber_17 (by decide) (fun c14 => absurd c14 (by decide)) (fun _ => ?_)
  refine lv_aload_n (pc := 20) hx hb dX11_tapeNumber_20 rfl (lv_at hl 1 rfl) ?_
  refine zgetR (pc := 21) (k := 0) (j := 0) (a := o + 1) zc11 hx hb hts hown hK hP rfl (by decide) rfl (hR 0 0 rfl) zf_X11_9 dX11_tapeNumber_21 ?_
  refine lv_iload_n (pc := 24) hx hb dX11_tapeNumber_24 rfl (lv_at hl 3 rfl) ?_
  refine lv_iload_n (pc := 25) hx hb dX11_tapeNumber_25 rfl (lv_at hl 0 rfl) ?_
  refine lv_iadd (pc := 26) hx hb dX11_tapeNumber_26 ?_
  refine lv_topi (pc := 27) (fun v15 ev15 => ?_)
  obtain rfl : v15 = 5 := ev15.trans (by decide)
  refine lv_iload_n (pc := 27) hx hb dX11_tapeNumber_27 rfl (lv_at hl 2 rfl) ?_
  refine lv_bipush (pc := 28) (v := 24) hx hb dX11_tapeNumber_28 (by decide) ?_
  refine lv_bipush (pc := 30) (v := 8) hx hb dX11_tapeNumber_30 (by decide) ?_
  refine lv_iload_n (pc := 32) hx hb dX11_tapeNumber_32 rfl (lv_at hl 0 rfl) ?_
  refine lv_imul (pc := 33) hx hb dX11_tapeNumber_33 ?_
  refine lv_topi (pc := 34) (fun v16 ev16 => ?_)
  obtain rfl : v16 = 8 := ev16.trans (by decide)
  refine lv_isub (pc := 34) hx hb dX11_tapeNumber_34 ?_
  refine lv_topi (pc := 35) (fun v17 ev17 => ?_)
  obtain rfl : v17 = 16 := ev17.trans (by decide)
  refine lv_iushr (pc := 35) hx hb dX11_tapeNumber_35 rfl ?_
  refine lv_topi (pc := 36) (fun v18 ev18 => ?_)
  refine lv_i2b (pc := 36) hx hb dX11_tapeNumber_36 rfl ?_
  refine lv_topi (pc := 37) (fun v19 ev19 => ?_)
  refine zbast (pc := 37) (k := 1) (n := 600) hx hb hK hP hS rfl (by decide) (vp_in_iff.mpr ⟨by decide, by decide⟩) dX11_tapeNumber_37 (fun H locs hP hS => ?_)
  obtain ⟨σ20, eσ20⟩ : ∃ x : zS, x = zI σ10 1 (upd (σ10.1 1) 5 (vp_nar .byte v19)) := ⟨_, rfl⟩
  have hP : zP D c o σ20 H := by rw [eσ20]; exact hP
  have hR : zRef o σ20.2.2 := zI_ref eσ20 hR
  have hF : zFr [1] σ σ20 := zFr_I eσ20 hF (by decide)
  refine lv_iinc (pc := 38) (v := 2) (lv' := [(3, .int 2), (0, .ref (o + 0)), (1, .int p0), (2, .int 4)]) hx hb dX11_tapeNumber_38 hl (k := 0) rfl (by decide) (by decide) rfl (fun ls hl => ?_)
  refine lv_goto (pc := 41) (tgt := 2) hx hb dX11_tapeNumber_41 (by decide) ?_
  refine lv_iload_n (pc := 2) hx hb dX11_tapeNumber_2 rfl (lv_at hl 0 rfl) ?_
  refine lv_iconst (pc := 3) (v := 4) hx hb dX11_tapeNumber_3 (by decide) ?_
  refine lv_icmp_ge (pc := 4) (tgt := 44) hx hb dX11_tapeNumber_4 (by decide) (fun c21 => absurd c21 (by decide)) (fun _ => ?_)
  refine lv_iload_n (pc := 7) hx hb dX11_tapeNumber_7 rfl (lv_at hl 3 rfl) ?_
  refine lv_if_lt (pc := 8) (tgt := 38) hx hb dX11_tapeNumber_8 (by decide) (fun c22 => absurd c22 (by decide)) (fun _ => ?_)
  refine lv_iload_n (pc := 11) hx hb dX11_tapeNumber_11 rfl (lv_at hl 3 rfl) ?_
  refine lv_iload_n (pc := 12) hx hb dX11_tapeNumber_12 rfl (lv_at hl 0 rfl) ?_
  refine lv_iadd (pc := 13) hx hb dX11_tapeNumber_13 ?_
  refine lv_topi (pc := 14) (fun v23 ev23 => ?_)
  obtain rfl : v23 = 6 := ev23.trans (by decide)
  refine lv_sipush (pc := 14) (v := 600) hx hb dX11_tapeNumber_14 (by decide) ?_
  refine lv_icmp_ge (pc := 17) (tgt := 38) hx hb dX11_tapeNumber_17 (by decide) (fun c24 => absurd c24 (by decide)) (fun _ => ?_)
  refine lv_aload_n (pc := 20) hx hb dX11_tapeNumber_20 rfl (lv_at hl 1 rfl) ?_
  refine zgetR (pc := 21) (k := 0) (j := 0) (a := o + 1) zc11 hx hb hts hown hK hP rfl (by decide) rfl (hR 0 0 rfl) zf_X11_9 dX11_tapeNumber_21 ?_
  refine lv_iload_n (pc := 24) hx hb dX11_tapeNumber_24 rfl (lv_at hl 3 rfl) ?_
  refine lv_iload_n (pc := 25) hx hb dX11_tapeNumber_25 rfl (lv_at hl 0 rfl) ?_
  refine lv_iadd (pc := 26) hx hb dX11_tapeNumber_26 ?_
  refine lv_topi (pc := 27) (fun v25 ev25 => ?_)
  obtain rfl : v25 = 6 := ev25.trans (by decide)
  refine lv_iload_n (pc := 27) hx hb dX11_tapeNumber_27 rfl (lv_at hl 2 rfl) ?_
  refine lv_bipush (pc := 28) (v := 24) hx hb dX11_tapeNumber_28 (by decide) ?_
  refine lv_bipush (pc := 30) (v := 8) hx hb dX11_tapeNumber_30 (by decide) ?_
  refine lv_iload_n (pc := 32) hx hb dX11_tapeNumber_32 rfl (lv_at hl 0 rfl) ?_
  refine lv_imul (pc := 33) hx hb dX11_tapeNumber_33 ?_
  refine lv_topi (pc := 34) (fun v26 ev26 => ?_)
  obtain rfl : v26 = 16 := ev26.trans (by decide)
  refine lv_isub (pc := 34) hx hb dX11_tapeNumber_34 ?_
  refine lv_topi (pc := 35) (fun v27 ev27 => ?_)
  obtain rfl : v27 = 8 := ev27.trans (by decide)
  refine lv_iushr (pc := 35) hx hb dX11_tapeNumber_35 rfl ?_
  refine lv_topi (pc := 36) (fun v28 ev28 => ?_)
  refine lv_i2b (pc := 36) hx hb dX11_tapeNumber_36 rfl ?_
  refine lv_topi (pc := 37) (fun v29 ev29 => ?_)
  refine zbast (pc := 37) (k := 1) (n := 600) hx hb hK hP hS rfl (by decide) (vp_in_iff.mpr ⟨by decide, by decide⟩) dX11_tapeNumber_37 (fun H locs hP hS => ?_)
  obtain ⟨σ30, eσ30⟩ : ∃ x : zS, x = zI σ20 1 (upd (σ20.1 1) 6 (vp_nar .byte v29)) := ⟨_, rfl⟩
  have hP : zP D c o σ30 H := by rw [eσ30]; exact hP
  have hR : zRef o σ30.2.2 := zI_ref eσ30 hR
  have hF : zFr [1] σ σ30 := zFr_I eσ30 hF (by decide)
  refine lv_iinc (pc := 38) (v := 3) (lv' := [(3, .int 3), (0, .ref (o + 0)), (1, .int p0), (2, .int 4)]) hx hb dX11_tapeNumber_38 hl (k := 0) rfl (by decide) (by decide) rfl (fun ls hl => ?_)
  refine lv_goto (pc := 41) (tgt := 2) hx hb dX11_tapeNumber_41 (by decide) ?_
  refine lv_iload_n (pc := 2) hx hb dX11_tapeNumber_2 rfl (lv_at hl 0 rfl) ?_
  refine lv_iconst (pc := 3) (v := 4) hx hb dX11_tapeNumber_3 (by decide) ?_
  refine lv_icmp_ge (pc := 4) (tgt := 44) hx hb dX11_tapeNumber_4 (by decide) (fun c31 => absurd c31 (by decide)) (fun _ => ?_)
  refine lv_iload_n (pc := 7) hx hb dX11_tapeNumber_7 rfl (lv_at hl 3 rfl) ?_
  refine lv_if_lt (pc := 8) (tgt := 38) hx hb dX11_tapeNumber_8 (by decide) (fun c32 => absurd c32 (by decide)) (fun _ => ?_)
  refine lv_iload_n (pc := 11) hx hb dX11_tapeNumber_11 rfl (lv_at hl 3 rfl) ?_
  refine lv_iload_n (pc := 12) hx hb dX11_tapeNumber_12 rfl (lv_at hl 0 rfl) ?_
  refine lv_iadd (pc := 13) hx hb dX11_tapeNumber_13 ?_
  refine lv_topi (pc := 14) (fun v33 ev33 => ?_)
  obtain rfl : v33 = 7 := ev33.trans (by decide)
  refine lv_sipush (pc := 14) (v := 600) hx hb dX11_tapeNumber_14 (by decide) ?_
  refine lv_icmp_ge (pc := 17) (tgt := 38) hx hb dX11_tapeNumber_17 (by decide) (fun c34 => absurd c34 (by decide)) (fun _ => ?_)
  refine lv_aload_n (pc := 20) hx hb dX11_tapeNumber_20 rfl (lv_at hl 1 rfl) ?_
  refine zgetR (pc := 21) (k := 0) (j := 0) (a := o + 1) zc11 hx hb hts hown hK hP rfl (by decide) rfl (hR 0 0 rfl) zf_X11_9 dX11_tapeNumber_21 ?_
  refine lv_iload_n (pc := 24) hx hb dX11_tapeNumber_24 rfl (lv_at hl 3 rfl) ?_
  refine lv_iload_n (pc := 25) hx hb dX11_tapeNumber_25 rfl (lv_at hl 0 rfl) ?_
  refine lv_iadd (pc := 26) hx hb dX11_tapeNumber_26 ?_
  refine lv_topi (pc := 27) (fun v35 ev35 => ?_)
  obtain rfl : v35 = 7 := ev35.trans (by decide)
  refine lv_iload_n (pc := 27) hx hb dX11_tapeNumber_27 rfl (lv_at hl 2 rfl) ?_
  refine lv_bipush (pc := 28) (v := 24) hx hb dX11_tapeNumber_28 (by decide) ?_
  refine lv_bipush (pc := 30) (v := 8) hx hb dX11_tapeNumber_30 (by decide) ?_
  refine lv_iload_n (pc := 32) hx hb dX11_tapeNumber_32 rfl (lv_at hl 0 rfl) ?_
  refine lv_imul (pc := 33) hx hb dX11_tapeNumber_33 ?_
  refine lv_topi (pc := 34) (fun v36 ev36 => ?_)
  obtain rfl : v36 = 24 := ev36.trans (by decide)
  refine lv_isub (pc := 34) hx hb dX11_tapeNumber_34 ?_
  refine lv_topi (pc := 35) (fun v37 ev37 => ?_)
  obtain rfl : v37 = 0 := ev37.trans (by decide)
  refine lv_iushr (pc := 35) hx hb dX11_tapeNumber_35 rfl ?_
  refine lv_topi (pc := 36) (fun v38 ev38 => ?_)
  refine lv_i2b (pc := 36) hx hb dX11_tapeNumber_36 rfl ?_
  refine lv_topi (pc := 37) (fun v39 ev39 => ?_)
  refine zbast (pc := 37) (k := 1) (n := 600) hx hb hK hP hS rfl (by decide) (vp_in_iff.mpr ⟨by decide, by decide⟩) dX11_tapeNumber_37 (fun H locs hP hS => ?_)
  obtain ⟨σ40, eσ40⟩ : ∃ x : zS, x = zI σ30 1 (upd (σ30.1 1) 7 (vp_nar .byte v39)) := ⟨_, rfl⟩
  have hP : zP D c o σ40 H := by rw [eσ40]; exact hP
  have hR : zRef o σ40.2.2 := zI_ref eσ40 hR
  have hF : zFr [1] σ σ40 := zFr_I eσ40 hF (by decide)
  refine lv_iinc (pc := 38) (v := 4) (lv' := [(3, .int 4), (0, .ref (o + 0)), (1, .int p0), (2, .int 4)]) hx hb dX11_tapeNumber_38 hl (k := 0) rfl (by decide) (by decide) rfl (fun ls hl => ?_)
  refine lv_goto (pc := 41) (tgt := 2) hx hb dX11_tapeNumber_41 (by decide) ?_
  refine lv_iload_n (pc := 2) hx hb dX11_tapeNumber_2 rfl (lv_at hl 0 rfl) ?_
  refine lv_iconst (pc := 3) (v := 4) hx hb dX11_tapeNumber_3 (by decide) ?_
  refine lv_icmp_ge (pc := 4) (tgt := 44) hx hb dX11_tapeNumber_4 (by decide) (fun _ => ?_) (fun c41 => absurd c41 (by decide))
  exact zretv (pc := 44) hx hb hr hlocks hP hK hS hF dX11_tapeNumber_44

set_option maxHeartbeats 4000000 in
set_option maxRecDepth 100000 in
theorem fr_tape8 (l : Launch) (D : va_G) (c : zC) (o : Nat) (σ : zS) (p0 : Int32) (hR : zRef o σ.2.2) : Met l yX11_tapeNumber zs_X11_tapeNumber (zr 1) (va_Pc [.ref (o + 0), .int p0, .int 8] (zQ D c o σ)) (va_Qv (fun (σ1 : zS) => zFr [1] σ σ1) (zQ D c o) (zA o)) 0 0 (zA o) := by
  refine zMet (by decide) (Nat.le_of_ble_eq_true rfl) ?_
  intro p e s m below meth cd ⟨hx, hb, hr, hml, hown, hts, hlocks⟩ hP hK ls hl
  have hS : va_S (zA o) s.heap s.heap [] := va_S.rf
  have hl : lv_has ls 4 [(0, .ref (o + 0)), (1, .int p0), (2, .int 8)] := hl
  have hF : zFr [1] σ σ := zFr_rf
  refine lv_iconst (pc := 0) (v := 0) hx hb dX11_tapeNumber_0 (by decide) ?_
  refine lv_istore_n (pc := 1) (lv' := [(3, .int 0), (0, .ref (o + 0)), (1, .int p0), (2, .int 8)]) hx hb dX11_tapeNumber_1 rfl hl (by decide) rfl (fun ls hl => ?_)
  refine lv_iload_n (pc := 2) hx hb dX11_tapeNumber_2 rfl (lv_at hl 0 rfl) ?_
  refine lv_iconst (pc := 3) (v := 4) hx hb dX11_tapeNumber_3 (by decide) ?_
  refine lv_icmp_ge (pc := 4) (tgt := 44) hx hb dX11_tapeNumber_4 (by decide) (fun c1 => absurd c1 (by decide)) (fun _ => ?_)
  refine lv_iload_n (pc := 7) hx hb dX11_tapeNumber_7 rfl (lv_at hl 3 rfl) ?_
  refine lv_if_lt (pc := 8) (tgt := 38) hx hb dX11_tapeNumber_8 (by decide) (fun c2 => absurd c2 (by decide)) (fun _ => ?_)
  refine lv_iload_n (pc := 11) hx hb dX11_tapeNumber_11 rfl (lv_at hl 3 rfl) ?_
  refine lv_iload_n (pc := 12) hx hb dX11_tapeNumber_12 rfl (lv_at hl 0 rfl) ?_
  refine lv_iadd (pc := 13) hx hb dX11_tapeNumber_13 ?_
  refine lv_topi (pc := 14) (fun v3 ev3 => ?_)
  obtain rfl : v3 = 8 := ev3.trans (by decide)
  refine lv_sipush (pc := 14) (v := 600) hx hb dX11_tapeNumber_14 (by decide) ?_
  refine lv_icmp_ge (pc := 17) (tgt := 38) hx hb dX11_tapeNumber_17 (by decide) (fun c4 => absurd c4 (by decide)) (fun _ => ?_)
  refine lv_aload_n (pc := 20) hx hb dX11_tapeNumber_20 rfl (lv_at hl 1 rfl) ?_
  refine zgetR (pc := 21) (k := 0) (j := 0) (a := o + 1) zc11 hx hb hts hown hK hP rfl (by decide) rfl (hR 0 0 rfl) zf_X11_9 dX11_tapeNumber_21 ?_
  refine lv_iload_n (pc := 24) hx hb dX11_tapeNumber_24 rfl (lv_at hl 3 rfl) ?_
  refine lv_iload_n (pc := 25) hx hb dX11_tapeNumber_25 rfl (lv_at hl 0 rfl) ?_
  refine lv_iadd (pc := 26) hx hb dX11_tapeNumber_26 ?_
  refine lv_topi (pc := 27) (fun v5 ev5 => ?_)
  obtain rfl : v5 = 8 := ev5.trans (by decide)
  refine lv_iload_n (pc := 27) hx hb dX11_tapeNumber_27 rfl (lv_at hl 2 rfl) ?_
  refine lv_bipush (pc := 28) (v := 24) hx hb dX11_tapeNumber_28 (by decide) ?_
  refine lv_bipush (pc := 30) (v := 8) hx hb dX11_tapeNumber_30 (by decide) ?_
  refine lv_iload_n (pc := 32) hx hb dX11_tapeNumber_32 rfl (lv_at hl 0 rfl) ?_
  refine lv_imul (pc := 33) hx hb dX11_tapeNumber_33 ?_
  refine lv_topi (pc := 34) (fun v6 ev6 => ?_)
  obtain rfl : v6 = 0 := ev6.trans (by decide)
  refine lv_isub (pc := 34) hx hb dX11_tapeNumber_34 ?_
  refine lv_topi (pc := 35) (fun v7 ev7 => ?_)
  obtain rfl : v7 = 24 := ev7.trans (by decide)
  refine lv_iushr (pc := 35) hx hb dX11_tapeNumber_35 rfl ?_
  refine lv_topi (pc := 36) (fun v8 ev8 => ?_)
  refine lv_i2b (pc := 36) hx hb dX11_tapeNumber_36 rfl ?_
  refine lv_topi (pc := 37) (fun v9 ev9 => ?_)
  refine zbast (pc := 37) (k := 1) (n := 600) hx hb hK hP hS rfl (by decide) (vp_in_iff.mpr ⟨by decide, by decide⟩) dX11_tapeNumber_37 (fun H locs hP hS => ?_)
  obtain ⟨σ10, eσ10⟩ : ∃ x : zS, x = zI σ 1 (upd (σ.1 1) 8 (vp_nar .byte v9)) := ⟨_, rfl⟩
  have hP : zP D c o σ10 H := by rw [eσ10]; exact hP
  have hR : zRef o σ10.2.2 := zI_ref eσ10 hR
  have hF : zFr [1] σ σ10 := zFr_I eσ10 hF (by decide)
  refine lv_iinc (pc := 38) (v := 1) (lv' := [(3, .int 1), (0, .ref (o + 0)), (1, .int p0), (2, .int 8)]) hx hb dX11_tapeNumber_38 hl (k := 0) rfl (by decide) (by decide) rfl (fun ls hl => ?_)
  refine lv_goto (pc := 41) (tgt := 2) hx hb dX11_tapeNumber_41 (by decide) ?_
  refine lv_iload_n (pc := 2) hx hb dX11_tapeNumber_2 rfl (lv_at hl 0 rfl) ?_
  refine lv_iconst (pc := 3) (v := 4) hx hb dX11_tapeNumber_3 (by decide) ?_
  refine lv_icmp_ge (pc := 4) (tgt := 44) hx hb dX11_tapeNumber_4 (by decide) (fun c11 => absurd c11 (by decide)) (fun _ => ?_)
  refine lv_iload_n (pc := 7) hx hb dX11_tapeNumber_7 rfl (lv_at hl 3 rfl) ?_
  refine lv_if_lt (pc := 8) (tgt := 38) hx hb dX11_tapeNumber_8 (by decide) (fun c12 => absurd c12 (by decide)) (fun _ => ?_)
  refine lv_iload_n (pc := 11) hx hb dX11_tapeNumber_11 rfl (lv_at hl 3 rfl) ?_
  refine lv_iload_n (pc := 12) hx hb dX11_tapeNumber_12 rfl (lv_at hl 0 rfl) ?_
  refine lv_iadd (pc := 13) hx hb dX11_tapeNumber_13 ?_
  refine lv_topi (pc := 14) (fun v13 ev13 => ?_)
  obtain rfl : v13 = 9 := ev13.trans (by decide)
  refine lv_sipush (pc := 14) (v := 600) hx hb dX11_tapeNumber_14 (by decide) ?_
  refine lv_icmp_ge (pc := 17) (tgt := 38) hx hb dX11_tapeNumber_17 (by decide) (fun c14 => absurd c14 (by decide)) (fun _ => ?_)
  refine lv_aload_n (pc := 20) hx hb dX11_tapeNumber_20 rfl (lv_at hl 1 rfl) ?_
  refine zgetR (pc := 21) (k := 0) (j := 0) (a := o + 1) zc11 hx hb hts hown hK hP rfl (by decide) rfl (hR 0 0 rfl) zf_X11_9 dX11_tapeNumber_21 ?_
  refine lv_iload_n (pc := 24) hx hb dX11_tapeNumber_24 rfl (lv_at hl 3 rfl) ?_
  refine lv_iload_n (pc := 25) hx hb dX11_tapeNumber_25 rfl (lv_at hl 0 rfl) ?_
  refine lv_iadd (pc := 26) hx hb dX11_tapeNumber_26 ?_
  refine lv_topi (pc := 27) (fun v15 ev15 => ?_)
  obtain rfl : v15 = 9 := ev15.trans (by decide)
  refine lv_iload_n (pc := 27) hx hb dX11_tapeNumber_27 rfl (lv_at hl 2 rfl) ?_
  refine lv_bipush (pc := 28) (v := 24) hx hb dX11_tapeNumber_28 (by decide) ?_
  refine lv_bipush (pc := 30) (v := 8) hx hb dX11_tapeNumber_30 (by decide) ?_
  refine lv_iload_n (pc := 32) hx hb dX11_tapeNumber_32 rfl (lv_at hl 0 rfl) ?_
  refine lv_imul (pc := 33) hx hb dX11_tapeNumber_33 ?_
  refine lv_topi (pc := 34) (fun v16 ev16 => ?_)
  obtain rfl : v16 = 8 := ev16.trans (by decide)
  refine lv_isub (pc := 34) hx hb dX11_tapeNumber_34 ?_
  refine lv_topi (pc := 35) (fun v17 ev17 => ?_)
  obtain rfl : v17 = 16 := ev17.trans (by decide)
  refine lv_iushr (pc := 35) hx hb dX11_tapeNumber_35 rfl ?_
  refine lv_topi (pc := 36) (fun v18 ev18 => ?_)
  refine lv_i2b (pc := 36) hx hb dX11_tapeNumber_36 rfl ?_
  refine lv_topi (pc := 37) (fun v19 ev19 => ?_)
  refine zbast (pc := 37) (k := 1) (n := 600) hx hb hK hP hS rfl (by decide) (vp_in_iff.mpr ⟨by decide, by decide⟩) dX11_tapeNumber_37 (fun H locs hP hS => ?_)
  obtain ⟨σ20, eσ20⟩ : ∃ x : zS, x = zI σ10 1 (upd (σ10.1 1) 9 (vp_nar .byte v19)) := ⟨_, rfl⟩
  have hP : zP D c o σ20 H := by rw [eσ20]; exact hP
  have hR : zRef o σ20.2.2 := zI_ref eσ20 hR
  have hF : zFr [1] σ σ20 := zFr_I eσ20 hF (by decide)
  refine lv_iinc (pc := 38) (v := 2) (lv' := [(3, .int 2), (0, .ref (o + 0)), (1, .int p0), (2, .int 8)]) hx hb dX11_tapeNumber_38 hl (k := 0) rfl (by decide) (by decide) rfl (fun ls hl => ?_)
  refine lv_goto (pc := 41) (tgt := 2) hx hb dX11_tapeNumber_41 (by decide) ?_
  refine lv_iload_n (pc := 2) hx hb dX11_tapeNumber_2 rfl (lv_at hl 0 rfl) ?_
  refine lv_iconst (pc := 3) (v := 4) hx hb dX11_tapeNumber_3 (by decide) ?_
  refine lv_icmp_ge (pc := 4) (tgt := 44) hx hb dX11_tapeNumber_4 (by decide) (fun c21 => absurd c21 (by decide)) (fun _ => ?_)
  refine lv_iload_n (pc := 7) hx hb dX11_tapeNumber_7 rfl (lv_at hl 3 rfl) ?_
  refine lv_if_lt (pc := 8) (tgt := 38) hx hb dX11_tapeNumber_8 (by decide) (fun c22 => absurd c22 (by decide)) (fun _ => ?_)
  refine lv_iload_n (pc := 11) hx hb dX11_tapeNumber_11 rfl (lv_at hl 3 rfl) ?_
  refine lv_iload_n (pc := 12) hx hb dX11_tapeNumber_12 rfl (lv_at hl 0 rfl) ?_
  refine lv_iadd (pc := 13) hx hb dX11_tapeNumber_13 ?_
  refine lv_topi (pc := 14) (fun v23 ev23 => ?_)
  obtain rfl : v23 = 10 := ev23.trans (by decide)
  refine lv_sipush (pc := 14) (v := 600) hx hb dX11_tapeNumber_14 (by decide) ?_
  refine lv_icmp_ge (pc := 17) (tgt := 38) hx hb dX11_tapeNumber_17 (by decide) (fun c24 => absurd c24 (by decide)) (fun _ => ?_)
  refine lv_aload_n (pc := 20) hx hb dX11_tapeNumber_20 rfl (lv_at hl 1 rfl) ?_
  refine zgetR (pc := 21) (k := 0) (j := 0) (a := o + 1) zc11 hx hb hts hown hK hP rfl (by decide) rfl (hR 0 0 rfl) zf_X11_9 dX11_tapeNumber_21 ?_
  refine lv_iload_n (pc := 24) hx hb dX11_tapeNumber_24 rfl (lv_at hl 3 rfl) ?_
  refine lv_iload_n (pc := 25) hx hb dX11_tapeNumber_25 rfl (lv_at hl 0 rfl) ?_
  refine lv_iadd (pc := 26) hx hb dX11_tapeNumber_26 ?_
  refine lv_topi (pc := 27) (fun v25 ev25 => ?_)
  obtain rfl : v25 = 10 := ev25.trans (by decide)
  refine lv_iload_n (pc := 27) hx hb dX11_tapeNumber_27 rfl (lv_at hl 2 rfl) ?_
  refine lv_bipush (pc := 28) (v := 24) hx hb dX11_tapeNumber_28 (by decide) ?_
  refine lv_bipush (pc := 30) (v := 8) hx hb dX11_tapeNumber_30 (by decide) ?_
  refine lv_iload_n (pc := 32) hx hb dX11_tapeNumber_32 rfl (lv_at hl 0 rfl) ?_
  refine lv_imul (pc := 33) hx hb dX11_tapeNumber_33 ?_
  refine lv_topi (pc := 34) (fun v26 ev26 => ?_)
  obtain rfl : v26 = 16 := ev26.trans (by decide)
  refine lv_isub (pc := 34) hx hb dX11_tapeNumber_34 ?_
  refine lv_topi (pc := 35) (fun v27 ev27 => ?_)
  obtain rfl : v27 = 8 := ev27.trans (by decide)
  refine lv_iushr (pc := 35) hx hb dX11_tapeNumber_35 rfl ?_
  refine lv_topi (pc := 36) (fun v28 ev28 => ?_)
  refine lv_i2b (pc := 36) hx hb dX11_tapeNumber_36 rfl ?_
  refine lv_topi (pc := 37) (fun v29 ev29 => ?_)
  refine zbast (pc := 37) (k := 1) (n := 600) hx hb hK hP hS rfl (by decide) (vp_in_iff.mpr ⟨by decide, by decide⟩) dX11_tapeNumber_37 (fun H locs hP hS => ?_)
  obtain ⟨σ30, eσ30⟩ : ∃ x : zS, x = zI σ20 1 (upd (σ20.1 1) 10 (vp_nar .byte v29)) := ⟨_, rfl⟩
  have hP : zP D c o σ30 H := by rw [eσ30]; exact hP
  have hR : zRef o σ30.2.2 := zI_ref eσ30 hR
  have hF : zFr [1] σ σ30 := zFr_I eσ30 hF (by decide)
  refine lv_iinc (pc := 38) (v := 3) (lv' := [(3, .int 3), (0, .ref (o + 0)), (1, .int p0), (2, .int 8)]) hx hb dX11_tapeNumber_38 hl (k := 0) rfl (by decide) (by decide) rfl (fun ls hl => ?_)
  refine lv_goto (pc := 41) (tgt := 2) hx hb dX11_tapeNumber_41 (by decide) ?_
  refine lv_iload_n (pc := 2) hx hb dX11_tapeNumber_2 rfl (lv_at hl 0 rfl) ?_
  refine lv_iconst (pc := 3) (v := 4) hx hb dX11_tapeNumber_3 (by decide) ?_
  refine lv_icmp_ge (pc := 4) (tgt := 44) hx hb dX11_tapeNumber_4 (by decide) (fun c31 => absurd c31 (by decide)) (fun _ => ?_)
  refine lv_iload_n (pc := 7) hx hb dX11_tapeNumber_7 rfl (lv_at hl 3 rfl) ?_
  refine lv_if_lt (pc := 8) (tgt := 38) hx hb dX11_tapeNumber_8 (by decide) (fun c32 => absurd c32 (by decide)) (fun _ => ?_)
  refine lv_iload_n (pc := 11) hx hb dX11_tapeNumber_11 rfl (lv_at hl 3 rfl) ?_
  refine lv_iload_n (pc := 12) hx hb dX11_tapeNumber_12 rfl (lv_at hl 0 rfl) ?_
  refine lv_iadd (pc := 13) hx hb dX11_tapeNumber_13 ?_
  refine lv_topi (pc := 14) (fun v33 ev33 => ?_)
  obtain rfl : v33 = 11 := ev33.trans (by decide)
  refine lv_sipush (pc := 14) (v := 600) hx hb dX11_tapeNumber_14 (by decide) ?_
  refine lv_icmp_ge (pc := 17) (tgt := 38) hx hb dX11_tapeNumber_17 (by decide) (fun c34 => absurd c34 (by decide)) (fun _ => ?_)
  refine lv_aload_n (pc := 20) hx hb dX11_tapeNumber_20 rfl (lv_at hl 1 rfl) ?_
  refine zgetR (pc := 21) (k := 0) (j := 0) (a := o + 1) zc11 hx hb hts hown hK hP rfl (by decide) rfl (hR 0 0 rfl) zf_X11_9 dX11_tapeNumber_21 ?_
  refine lv_iload_n (pc := 24) hx hb dX11_tapeNumber_24 rfl (lv_at hl 3 rfl) ?_
  refine lv_iload_n (pc := 25) hx hb dX11_tapeNumber_25 rfl (lv_at hl 0 rfl) ?_
  refine lv_iadd (pc := 26) hx hb dX11_tapeNumber_26 ?_
  refine lv_topi (pc := 27) (fun v35 ev35 => ?_)
  obtain rfl : v35 = 11 := ev35.trans (by decide)
  refine lv_iload_n (pc := 27) hx hb dX11_tapeNumber_27 rfl (lv_at hl 2 rfl) ?_
  refine lv_bipush (pc := 28) (v := 24) hx hb dX11_tapeNumber_28 (by decide) ?_
  refine lv_bipush (pc := 30) (v := 8) hx hb dX11_tapeNumber_30 (by decide) ?_
  refine lv_iload_n (pc := 32) hx hb dX11_tapeNumber_32 rfl (lv_at hl 0 rfl) ?_
  refine lv_imul (pc := 33) hx hb dX11_tapeNumber_33 ?_
  refine lv_topi (pc := 34) (fun v36 ev36 => ?_)
  obtain rfl : v36 = 24 := ev36.trans (by decide)
  refine lv_isub (pc := 34) hx hb dX11_tapeNumber_34 ?_
  refine lv_topi (pc := 35) (fun v37 ev37 => ?_)
  obtain rfl : v37 = 0 := ev37.trans (by decide)
  refine lv_iushr (pc := 35) hx hb dX11_tapeNumber_35 rfl ?_
  refine lv_topi (pc := 36) (fun v38 ev38 => ?_)
  refine lv_i2b (pc := 36) hx hb dX11_tapeNumber_36 rfl ?_
  refine lv_topi (pc := 37) (fun v39 ev39 => ?_)
  refine zbast (pc := 37) (k := 1) (n := 600) hx hb hK hP hS rfl (by decide) (vp_in_iff.mpr ⟨by decide, by decide⟩) dX11_tapeNumber_37 (fun H locs hP hS => ?_)
  obtain ⟨σ40, eσ40⟩ : ∃ x : zS, x = zI σ30 1 (upd (σ30.1 1) 11 (vp_nar .byte v39)) := ⟨_, rfl⟩
  have hP : zP D c o σ40 H := by rw [eσ40]; exact hP
  have hR : zRef o σ40.2.2 := zI_ref eσ40 hR
  have hF : zFr [1] σ σ40 := zFr_I eσ40 hF (by decide)
  refine lv_iinc (pc := 38) (v := 4) (lv' := [(3, .int 4), (0, .ref (o + 0)), (1, .int p0), (2, .int 8)]) hx hb dX11_tapeNumber_38 hl (k := 0) rfl (by decide) (by decide) rfl (fun ls hl => ?_)
  refine lv_goto (pc := 41) (tgt := 2) hx hb dX11_tapeNumber_41 (by decide) ?_
  refine lv_iload_n (pc := 2) hx hb dX11_tapeNumber_2 rfl (lv_at hl 0 rfl) ?_
  refine lv_iconst (pc := 3) (v := 4) hx hb dX11_tapeNumber_3 (by decide) ?_
  refine lv_icmp_ge (pc := 4) (tgt := 44) hx hb dX11_tapeNumber_4 (by decide) (fun _ => ?_) (fun c41 => absurd c41 (by decide))
  exact zretv (pc := 44) hx hb hr hlocks hP hK hS hF dX11_tapeNumber_44

set_option maxHeartbeats 4000000 in
set_option maxRecDepth 100000 in
theorem fr_tape12 (l : Launch) (D : va_G) (c : zC) (o : Nat) (σ : zS) (p0 : Int32) (hR : zRef o σ.2.2) : Met l yX11_tapeNumber zs_X11_tapeNumber (zr 1) (va_Pc [.ref (o + 0), .int p0, .int 12] (zQ D c o σ)) (va_Qv (fun (σ1 : zS) => zFr [1] σ σ1) (zQ D c o) (zA o)) 0 0 (zA o) := by
  refine zMet (by decide) (Nat.le_of_ble_eq_true rfl) ?_
  intro p e s m below meth cd ⟨hx, hb, hr, hml, hown, hts, hlocks⟩ hP hK ls hl
  have hS : va_S (zA o) s.heap s.heap [] := va_S.rf
  have hl : lv_has ls 4 [(0, .ref (o + 0)), (1, .int p0), (2, .int 12)] := hl
  have hF : zFr [1] σ σ := zFr_rf
  refine lv_iconst (pc := 0) (v := 0) hx hb dX11_tapeNumber_0 (by decide) ?_
  refine lv_istore_n (pc := 1) (lv' := [(3, .int 0), (0, .ref (o + 0)), (1, .int p0), (2, .int 12)]) hx hb dX11_tapeNumber_1 rfl hl (by decide) rfl (fun ls hl => ?_)
  refine lv_iload_n (pc := 2) hx hb dX11_tapeNumber_2 rfl (lv_at hl 0 rfl) ?_
  refine lv_iconst (pc := 3) (v := 4) hx hb dX11_tapeNumber_3 (by decide) ?_
  refine lv_icmp_ge (pc := 4) (tgt := 44) hx hb dX11_tapeNumber_4 (by decide) (fun c1 => absurd c1 (by decide)) (fun _ => ?_)
  refine lv_iload_n (pc := 7) hx hb dX11_tapeNumber_7 rfl (lv_at hl 3 rfl) ?_
  refine lv_if_lt (pc := 8) (tgt := 38) hx hb dX11_tapeNumber_8 (by decide) (fun c2 => absurd c2 (by decide)) (fun _ => ?_)
  refine lv_iload_n (pc := 11) hx hb dX11_tapeNumber_11 rfl (lv_at hl 3 rfl) ?_
  refine lv_iload_n (pc := 12) hx hb dX11_tapeNumber_12 rfl (lv_at hl 0 rfl) ?_
  refine lv_iadd (pc := 13) hx hb dX11_tapeNumber_13 ?_
  refine lv_topi (pc := 14) (fun v3 ev3 => ?_)
  obtain rfl : v3 = 12 := ev3.trans (by decide)
  refine lv_sipush (pc := 14) (v := 600) hx hb dX11_tapeNumber_14 (by decide) ?_
  refine lv_icmp_ge (pc := 17) (tgt := 38) hx hb dX11_tapeNumber_17 (by decide) (fun c4 => absurd c4 (by decide)) (fun _ => ?_)
  refine lv_aload_n (pc := 20) hx hb dX11_tapeNumber_20 rfl (lv_at hl 1 rfl) ?_
  refine zgetR (pc := 21) (k := 0) (j := 0) (a := o + 1) zc11 hx hb hts hown hK hP rfl (by decide) rfl (hR 0 0 rfl) zf_X11_9 dX11_tapeNumber_21 ?_
  refine lv_iload_n (pc := 24) hx hb dX11_tapeNumber_24 rfl (lv_at hl 3 rfl) ?_
  refine lv_iload_n (pc := 25) hx hb dX11_tapeNumber_25 rfl (lv_at hl 0 rfl) ?_
  refine lv_iadd (pc := 26) hx hb dX11_tapeNumber_26 ?_
  refine lv_topi (pc := 27) (fun v5 ev5 => ?_)
  obtain rfl : v5 = 12 := ev5.trans (by decide)
  refine lv_iload_n (pc := 27) hx hb dX11_tapeNumber_27 rfl (lv_at hl 2 rfl) ?_
  refine lv_bipush (pc := 28) (v := 24) hx hb dX11_tapeNumber_28 (by decide) ?_
  refine lv_bipush (pc := 30) (v := 8) hx hb dX11_tapeNumber_30 (by decide) ?_
  refine lv_iload_n (pc := 32) hx hb dX11_tapeNumber_32 rfl (lv_at hl 0 rfl) ?_
  refine lv_imul (pc := 33) hx hb dX11_tapeNumber_33 ?_
  refine lv_topi (pc := 34) (fun v6 ev6 => ?_)
  obtain rfl : v6 = 0 := ev6.trans (by decide)
  refine lv_isub (pc := 34) hx hb dX11_tapeNumber_34 ?_
  refine lv_topi (pc := 35) (fun v7 ev7 => ?_)
  obtain rfl : v7 = 24 := ev7.trans (by decide)
  refine lv_iushr (pc := 35) hx hb dX11_tapeNumber_35 rfl ?_
  refine lv_topi (pc := 36) (fun v8 ev8 => ?_)
  refine lv_i2b (pc := 36) hx hb dX11_tapeNumber_36 rfl ?_
  refine lv_topi (pc := 37) (fun v9 ev9 => ?_)
  refine zbast (pc := 37) (k := 1) (n := 600) hx hb hK hP hS rfl (by decide) (vp_in_iff.mpr ⟨by decide, by decide⟩) dX11_tapeNumber_37 (fun H locs hP hS => ?_)
  obtain ⟨σ10, eσ10⟩ : ∃ x : zS, x = zI σ 1 (upd (σ.1 1) 12 (vp_nar .byte v9)) := ⟨_, rfl⟩
  have hP : zP D c o σ10 H := by rw [eσ10]; exact hP
  have hR : zRef o σ10.2.2 := zI_ref eσ10 hR
  have hF : zFr [1] σ σ10 := zFr_I eσ10 hF (by decide)
  refine lv_iinc (pc := 38) (v := 1) (lv' := [(3, .int 1), (0, .ref (o + 0)), (1, .int p0), (2, .int 12)]) hx hb dX11_tapeNumber_38 hl (k := 0) rfl (by decide) (by decide) rfl (fun ls hl => ?_)
  refine lv_goto (pc := 41) (tgt := 2) hx hb dX11_tapeNumber_41 (by decide) ?_
  refine lv_iload_n (pc := 2) hx hb dX11_tapeNumber_2 rfl (lv_at hl 0 rfl) ?_
  refine lv_iconst (pc := 3) (v := 4) hx hb dX11_tapeNumber_3 (by decide) ?_
  refine lv_icmp_ge (pc := 4) (tgt := 44) hx hb dX11_tapeNumber_4 (by decide) (fun c11 => absurd c11 (by decide)) (fun _ => ?_)
  refine lv_iload_n (pc := 7) hx hb dX11_tapeNumber_7 rfl (lv_at hl 3 rfl) ?_
  refine lv_if_lt (pc := 8) (tgt := 38) hx hb dX11_tapeNumber_8 (by decide) (fun c12 => absurd c12 (by decide)) (fun _ => ?_)
  refine lv_iload_n (pc := 11) hx hb dX11_tapeNumber_11 rfl (lv_at hl 3 rfl) ?_
  refine lv_iload_n (pc := 12) hx hb dX11_tapeNumber_12 rfl (lv_at hl 0 rfl) ?_
  refine lv_iadd (pc := 13) hx hb dX11_tapeNumber_13 ?_
  refine lv_topi (pc := 14) (fun v13 ev13 => ?_)
  obtain rfl : v13 = 13 := ev13.trans (by decide)
  refine lv_sipush (pc := 14) (v := 600) hx hb dX11_tapeNumber_14 (by decide) ?_
  refine lv_icmp_ge (pc := 17) (tgt := 38) hx hb dX11_tapeNumber_17 (by decide) (fun c14 => absurd c14 (by decide)) (fun _ => ?_)
  refine lv_aload_n (pc := 20) hx hb dX11_tapeNumber_20 rfl (lv_at hl 1 rfl) ?_
  refine zgetR (pc := 21) (k := 0) (j := 0) (a := o + 1) zc11 hx hb hts hown hK hP rfl (by decide) rfl (hR 0 0 rfl) zf_X11_9 dX11_tapeNumber_21 ?_
  refine lv_iload_n (pc := 24) hx hb dX11_tapeNumber_24 rfl (lv_at hl 3 rfl) ?_
  refine lv_iload_n (pc := 25) hx hb dX11_tapeNumber_25 rfl (lv_at hl 0 rfl) ?_
  refine lv_iadd (pc := 26) hx hb dX11_tapeNumber_26 ?_
  refine lv_topi (pc := 27) (fun v15 ev15 => ?_)
  obtain rfl : v15 = 13 := ev15.trans (by decide)
  refine lv_iload_n (pc := 27) hx hb dX11_tapeNumber_27 rfl (lv_at hl 2 rfl) ?_
  refine lv_bipush (pc := 28) (v := 24) hx hb dX11_tapeNumber_28 (by decide) ?_
  refine lv_bipush (pc := 30) (v := 8) hx hb dX11_tapeNumber_30 (by decide) ?_
  refine lv_iload_n (pc := 32) hx hb dX11_tapeNumber_32 rfl (lv_at hl 0 rfl) ?_
  refine lv_imul (pc := 33) hx hb dX11_tapeNumber_33 ?_
  refine lv_topi (pc := 34) (fun v16 ev16 => ?_)
  obtain rfl : v16 = 8 := ev16.trans (by decide)
  refine lv_isub (pc := 34) hx hb dX11_tapeNumber_34 ?_
  refine lv_topi (pc := 35) (fun v17 ev17 => ?_)
  obtain rfl : v17 = 16 := ev17.trans (by decide)
  refine lv_iushr (pc := 35) hx hb dX11_tapeNumber_35 rfl ?_
  refine lv_topi (pc := 36) (fun v18 ev18 => ?_)
  refine lv_i2b (pc := 36) hx hb dX11_tapeNumber_36 rfl ?_
  refine lv_topi (pc := 37) (fun v19 ev19 => ?_)
  refine zbast (pc := 37) (k := 1) (n := 600) hx hb hK hP hS rfl (by decide) (vp_in_iff.mpr ⟨by decide, by decide⟩) dX11_tapeNumber_37 (fun H locs hP hS => ?_)
  obtain ⟨σ20, eσ20⟩ : ∃ x : zS, x = zI σ10 1 (upd (σ10.1 1) 13 (vp_nar .byte v19)) := ⟨_, rfl⟩
  have hP : zP D c o σ20 H := by rw [eσ20]; exact hP
  have hR : zRef o σ20.2.2 := zI_ref eσ20 hR
  have hF : zFr [1] σ σ20 := zFr_I eσ20 hF (by decide)
  refine lv_iinc (pc := 38) (v := 2) (lv' := [(3, .int 2), (0, .ref (o + 0)), (1, .int p0), (2, .int 12)]) hx hb dX11_tapeNumber_38 hl (k := 0) rfl (by decide) (by decide) rfl (fun ls hl => ?_)
  refine lv_goto (pc := 41) (tgt := 2) hx hb dX11_tapeNumber_41 (by decide) ?_
  refine lv_iload_n (pc := 2) hx hb dX11_tapeNumber_2 rfl (lv_at hl 0 rfl) ?_
  refine lv_iconst (pc := 3) (v := 4) hx hb dX11_tapeNumber_3 (by decide) ?_
  refine lv_icmp_ge (pc := 4) (tgt := 44) hx hb dX11_tapeNumber_4 (by decide) (fun c21 => absurd c21 (by decide)) (fun _ => ?_)
  refine lv_iload_n (pc := 7) hx hb dX11_tapeNumber_7 rfl (lv_at hl 3 rfl) ?_
  refine lv_if_lt (pc := 8) (tgt := 38) hx hb dX11_tapeNumber_8 (by decide) (fun c22 => absurd c22 (by decide)) (fun _ => ?_)
  refine lv_iload_n (pc := 11) hx hb dX11_tapeNumber_11 rfl (lv_at hl 3 rfl) ?_
  refine lv_iload_n (pc := 12) hx hb dX11_tapeNumber_12 rfl (lv_at hl 0 rfl) ?_
  refine lv_iadd (pc := 13) hx hb dX11_tapeNumber_13 ?_
  refine lv_topi (pc := 14) (fun v23 ev23 => ?_)
  obtain rfl : v23 = 14 := ev23.trans (by decide)
  refine lv_sipush (pc := 14) (v := 600) hx hb dX11_tapeNumber_14 (by decide) ?_
  refine lv_icmp_ge (pc := 17) (tgt := 38) hx hb dX11_tapeNumber_17 (by decide) (fun c24 => absurd c24 (by decide)) (fun _ => ?_)
  refine lv_aload_n (pc := 20) hx hb dX11_tapeNumber_20 rfl (lv_at hl 1 rfl) ?_
  refine zgetR (pc := 21) (k := 0) (j := 0) (a := o + 1) zc11 hx hb hts hown hK hP rfl (by decide) rfl (hR 0 0 rfl) zf_X11_9 dX11_tapeNumber_21 ?_
  refine lv_iload_n (pc := 24) hx hb dX11_tapeNumber_24 rfl (lv_at hl 3 rfl) ?_
  refine lv_iload_n (pc := 25) hx hb dX11_tapeNumber_25 rfl (lv_at hl 0 rfl) ?_
  refine lv_iadd (pc := 26) hx hb dX11_tapeNumber_26 ?_
  refine lv_topi (pc := 27) (fun v25 ev25 => ?_)
  obtain rfl : v25 = 14 := ev25.trans (by decide)
  refine lv_iload_n (pc := 27) hx hb dX11_tapeNumber_27 rfl (lv_at hl 2 rfl) ?_
  refine lv_bipush (pc := 28) (v := 24) hx hb dX11_tapeNumber_28 (by decide) ?_
  refine lv_bipush (pc := 30) (v := 8) hx hb dX11_tapeNumber_30 (by decide) ?_
  refine lv_iload_n (pc := 32) hx hb dX11_tapeNumber_32 rfl (lv_at hl 0 rfl) ?_
  refine lv_imul (pc := 33) hx hb dX11_tapeNumber_33 ?_
  refine lv_topi (pc := 34) (fun v26 ev26 => ?_)
  obtain rfl : v26 = 16 := ev26.trans (by decide)
  refine lv_isub (pc := 34) hx hb dX11_tapeNumber_34 ?_
  refine lv_topi (pc := 35) (fun v27 ev27 => ?_)
  obtain rfl : v27 = 8 := ev27.trans (by decide)
  refine lv_iushr (pc := 35) hx hb dX11_tapeNumber_35 rfl ?_
  refine lv_topi (pc := 36) (fun v28 ev28 => ?_)
  refine lv_i2b (pc := 36) hx hb dX11_tapeNumber_36 rfl ?_
  refine lv_topi (pc := 37) (fun v29 ev29 => ?_)
  refine zbast (pc := 37) (k := 1) (n := 600) hx hb hK hP hS rfl (by decide) (vp_in_iff.mpr ⟨by decide, by decide⟩) dX11_tapeNumber_37 (fun H locs hP hS => ?_)
  obtain ⟨σ30, eσ30⟩ : ∃ x : zS, x = zI σ20 1 (upd (σ20.1 1) 14 (vp_nar .byte v29)) := ⟨_, rfl⟩
  have hP : zP D c o σ30 H := by rw [eσ30]; exact hP
  have hR : zRef o σ30.2.2 := zI_ref eσ30 hR
  have hF : zFr [1] σ σ30 := zFr_I eσ30 hF (by decide)
  refine lv_iinc (pc := 38) (v := 3) (lv' := [(3, .int 3), (0, .ref (o + 0)), (1, .int p0), (2, .int 12)]) hx hb dX11_tapeNumber_38 hl (k := 0) rfl (by decide) (by decide) rfl (fun ls hl => ?_)
  refine lv_goto (pc := 41) (tgt := 2) hx hb dX11_tapeNumber_41 (by decide) ?_
  refine lv_iload_n (pc := 2) hx hb dX11_tapeNumber_2 rfl (lv_at hl 0 rfl) ?_
  refine lv_iconst (pc := 3) (v := 4) hx hb dX11_tapeNumber_3 (by decide) ?_
  refine lv_icmp_ge (pc := 4) (tgt := 44) hx hb dX11_tapeNumber_4 (by decide) (fun c31 => absurd c31 (by decide)) (fun _ => ?_)
  refine lv_iload_n (pc := 7) hx hb dX11_tapeNumber_7 rfl (lv_at hl 3 rfl) ?_
  refine lv_if_lt (pc := 8) (tgt := 38) hx hb dX11_tapeNumber_8 (by decide) (fun c32 => absurd c32 (by decide)) (fun _ => ?_)
  refine lv_iload_n (pc := 11) hx hb dX11_tapeNumber_11 rfl (lv_at hl 3 rfl) ?_
  refine lv_iload_n (pc := 12) hx hb dX11_tapeNumber_12 rfl (lv_at hl 0 rfl) ?_
  refine lv_iadd (pc := 13) hx hb dX11_tapeNumber_13 ?_
  refine lv_topi (pc := 14) (fun v33 ev33 => ?_)
  obtain rfl : v33 = 15 := ev33.trans (by decide)
  refine lv_sipush (pc := 14) (v := 600) hx hb dX11_tapeNumber_14 (by decide) ?_
  refine lv_icmp_ge (pc := 17) (tgt := 38) hx hb dX11_tapeNumber_17 (by decide) (fun c34 => absurd c34 (by decide)) (fun _ => ?_)
  refine lv_aload_n (pc := 20) hx hb dX11_tapeNumber_20 rfl (lv_at hl 1 rfl) ?_
  refine zgetR (pc := 21) (k := 0) (j := 0) (a := o + 1) zc11 hx hb hts hown hK hP rfl (by decide) rfl (hR 0 0 rfl) zf_X11_9 dX11_tapeNumber_21 ?_
  refine lv_iload_n (pc := 24) hx hb dX11_tapeNumber_24 rfl (lv_at hl 3 rfl) ?_
  refine lv_iload_n (pc := 25) hx hb dX11_tapeNumber_25 rfl (lv_at hl 0 rfl) ?_
  refine lv_iadd (pc := 26) hx hb dX11_tapeNumber_26 ?_
  refine lv_topi (pc := 27) (fun v35 ev35 => ?_)
  obtain rfl : v35 = 15 := ev35.trans (by decide)
  refine lv_iload_n (pc := 27) hx hb dX11_tapeNumber_27 rfl (lv_at hl 2 rfl) ?_
  refine lv_bipush (pc := 28) (v := 24) hx hb dX11_tapeNumber_28 (by decide) ?_
  refine lv_bipush (pc := 30) (v := 8) hx hb dX11_tapeNumber_30 (by decide) ?_
  refine lv_iload_n (pc := 32) hx hb dX11_tapeNumber_32 rfl (lv_at hl 0 rfl) ?_
  refine lv_imul (pc := 33) hx hb dX11_tapeNumber_33 ?_
  refine lv_topi (pc := 34) (fun v36 ev36 => ?_)
  obtain rfl : v36 = 24 := ev36.trans (by decide)
  refine lv_isub (pc := 34) hx hb dX11_tapeNumber_34 ?_
  refine lv_topi (pc := 35) (fun v37 ev37 => ?_)
  obtain rfl : v37 = 0 := ev37.trans (by decide)
  refine lv_iushr (pc := 35) hx hb dX11_tapeNumber_35 rfl ?_
  refine lv_topi (pc := 36) (fun v38 ev38 => ?_)
  refine lv_i2b (pc := 36) hx hb dX11_tapeNumber_36 rfl ?_
  refine lv_topi (pc := 37) (fun v39 ev39 => ?_)
  refine zbast (pc := 37) (k := 1) (n := 600) hx hb hK hP hS rfl (by decide) (vp_in_iff.mpr ⟨by decide, by decide⟩) dX11_tapeNumber_37 (fun H locs hP hS => ?_)
  obtain ⟨σ40, eσ40⟩ : ∃ x : zS, x = zI σ30 1 (upd (σ30.1 1) 15 (vp_nar .byte v39)) := ⟨_, rfl⟩
  have hP : zP D c o σ40 H := by rw [eσ40]; exact hP
  have hR : zRef o σ40.2.2 := zI_ref eσ40 hR
  have hF : zFr [1] σ σ40 := zFr_I eσ40 hF (by decide)
  refine lv_iinc (pc := 38) (v := 4) (lv' := [(3, .int 4), (0, .ref (o + 0)), (1, .int p0), (2, .int 12)]) hx hb dX11_tapeNumber_38 hl (k := 0) rfl (by decide) (by decide) rfl (fun ls hl => ?_)
  refine lv_goto (pc := 41) (tgt := 2) hx hb dX11_tapeNumber_41 (by decide) ?_
  refine lv_iload_n (pc := 2) hx hb dX11_tapeNumber_2 rfl (lv_at hl 0 rfl) ?_
  refine lv_iconst (pc := 3) (v := 4) hx hb dX11_tapeNumber_3 (by decide) ?_
  refine lv_icmp_ge (pc := 4) (tgt := 44) hx hb dX11_tapeNumber_4 (by decide) (fun _ => ?_) (fun c41 => absurd c41 (by decide))
  exact zretv (pc := 44) hx hb hr hlocks hP hK hS hF dX11_tapeNumber_44

set_option maxHeartbeats 4000000 in
set_option maxRecDepth 100000 in
theorem fr_tape16 (l : Launch) (D : va_G) (c : zC) (o : Nat) (σ : zS) (p0 : Int32) (hR : zRef o σ.2.2) : Met l yX11_tapeNumber zs_X11_tapeNumber (zr 1) (va_Pc [.ref (o + 0), .int p0, .int 16] (zQ D c o σ)) (va_Qv (fun (σ1 : zS) => zFr [1] σ σ1) (zQ D c o) (zA o)) 0 0 (zA o) := by
  refine zMet (by decide) (Nat.le_of_ble_eq_true rfl) ?_
  intro p e s m below meth cd ⟨hx, hb, hr, hml, hown, hts, hlocks⟩ hP hK ls hl
  have hS : va_S (zA o) s.heap s.heap [] := va_S.rf
  have hl : lv_has ls 4 [(0, .ref (o + 0)), (1, .int p0), (2, .int 16)] := hl
  have hF : zFr [1] σ σ := zFr_rf
  refine lv_iconst (pc := 0) (v := 0) hx hb dX11_tapeNumber_0 (by decide) ?_
  refine lv_istore_n (pc := 1) (lv' := [(3, .int 0), (0, .ref (o + 0)), (1, .int p0), (2, .int 16)]) hx hb dX11_tapeNumber_1 rfl hl (by decide) rfl (fun ls hl => ?_)
  refine lv_iload_n (pc := 2) hx hb dX11_tapeNumber_2 rfl (lv_at hl 0 rfl) ?_
  refine lv_iconst (pc := 3) (v := 4) hx hb dX11_tapeNumber_3 (by decide) ?_
  refine lv_icmp_ge (pc := 4) (tgt := 44) hx hb dX11_tapeNumber_4 (by decide) (fun c1 => absurd c1 (by decide)) (fun _ => ?_)
  refine lv_iload_n (pc := 7) hx hb dX11_tapeNumber_7 rfl (lv_at hl 3 rfl) ?_
  refine lv_if_lt (pc := 8) (tgt := 38) hx hb dX11_tapeNumber_8 (by decide) (fun c2 => absurd c2 (by decide)) (fun _ => ?_)
  refine lv_iload_n (pc := 11) hx hb dX11_tapeNumber_11 rfl (lv_at hl 3 rfl) ?_
  refine lv_iload_n (pc := 12) hx hb dX11_tapeNumber_12 rfl (lv_at hl 0 rfl) ?_
  refine lv_iadd (pc := 13) hx hb dX11_tapeNumber_13 ?_
  refine lv_topi (pc := 14) (fun v3 ev3 => ?_)
  obtain rfl : v3 = 16 := ev3.trans (by decide)
  refine lv_sipush (pc := 14) (v := 600) hx hb dX11_tapeNumber_14 (by decide) ?_
  refine lv_icmp_ge (pc := 17) (tgt := 38) hx hb dX11_tapeNumber_17 (by decide) (fun c4 => absurd c4 (by decide)) (fun _ => ?_)
  refine lv_aload_n (pc := 20) hx hb dX11_tapeNumber_20 rfl (lv_at hl 1 rfl) ?_
  refine zgetR (pc := 21) (k := 0) (j := 0) (a := o + 1) zc11 hx hb hts hown hK hP rfl (by decide) rfl (hR 0 0 rfl) zf_X11_9 dX11_tapeNumber_21 ?_
  refine lv_iload_n (pc := 24) hx hb dX11_tapeNumber_24 rfl (lv_at hl 3 rfl) ?_
  refine lv_iload_n (pc := 25) hx hb dX11_tapeNumber_25 rfl (lv_at hl 0 rfl) ?_
  refine lv_iadd (pc := 26) hx hb dX11_tapeNumber_26 ?_
  refine lv_topi (pc := 27) (fun v5 ev5 => ?_)
  obtain rfl : v5 = 16 := ev5.trans (by decide)
  refine lv_iload_n (pc := 27) hx hb dX11_tapeNumber_27 rfl (lv_at hl 2 rfl) ?_
  refine lv_bipush (pc := 28) (v := 24) hx hb dX11_tapeNumber_28 (by decide) ?_
  refine lv_bipush (pc := 30) (v := 8) hx hb dX11_tapeNumber_30 (by decide) ?_
  refine lv_iload_n (pc := 32) hx hb dX11_tapeNumber_32 rfl (lv_at hl 0 rfl) ?_
  refine lv_imul (pc := 33) hx hb dX11_tapeNumber_33 ?_
  refine lv_topi (pc := 34) (fun v6 ev6 => ?_)
  obtain rfl : v6 = 0 := ev6.trans (by decide)
  refine lv_isub (pc := 34) hx hb dX11_tapeNumber_34 ?_
  refine lv_topi (pc := 35) (fun v7 ev7 => ?_)
  obtain rfl : v7 = 24 := ev7.trans (by decide)
  refine lv_iushr (pc := 35) hx hb dX11_tapeNumber_35 rfl ?_
  refine lv_topi (pc := 36) (fun v8 ev8 => ?_)
  refine lv_i2b (pc := 36) hx hb dX11_tapeNumber_36 rfl ?_
  refine lv_topi (pc := 37) (fun v9 ev9 => ?_)
  refine zbast (pc := 37) (k := 1) (n := 600) hx hb hK hP hS rfl (by decide) (vp_in_iff.mpr ⟨by decide, by decide⟩) dX11_tapeNumber_37 (fun H locs hP hS => ?_)
  obtain ⟨σ10, eσ10⟩ : ∃ x : zS, x = zI σ 1 (upd (σ.1 1) 16 (vp_nar .byte v9)) := ⟨_, rfl⟩
  have hP : zP D c o σ10 H := by rw [eσ10]; exact hP
  have hR : zRef o σ10.2.2 := zI_ref eσ10 hR
  have hF : zFr [1] σ σ10 := zFr_I eσ10 hF (by decide)
  refine lv_iinc (pc := 38) (v := 1) (lv' := [(3, .int 1), (0, .ref (o + 0)), (1, .int p0), (2, .int 16)]) hx hb dX11_tapeNumber_38 hl (k := 0) rfl (by decide) (by decide) rfl (fun ls hl => ?_)
  refine lv_goto (pc := 41) (tgt := 2) hx hb dX11_tapeNumber_41 (by decide) ?_
  refine lv_iload_n (pc := 2) hx hb dX11_tapeNumber_2 rfl (lv_at hl 0 rfl) ?_
  refine lv_iconst (pc := 3) (v := 4) hx hb dX11_tapeNumber_3 (by decide) ?_
  refine lv_icmp_ge (pc := 4) (tgt := 44) hx hb dX11_tapeNumber_4 (by decide) (fun c11 => absurd c11 (by decide)) (fun _ => ?_)
  refine lv_iload_n (pc := 7) hx hb dX11_tapeNumber_7 rfl (lv_at hl 3 rfl) ?_
  refine lv_if_lt (pc := 8) (tgt := 38) hx hb dX11_tapeNumber_8 (by decide) (fun c12 => absurd c12 (by decide)) (fun _ => ?_)
  refine lv_iload_n (pc := 11) hx hb dX11_tapeNumber_11 rfl (lv_at hl 3 rfl) ?_
  refine lv_iload_n (pc := 12) hx hb dX11_tapeNumber_12 rfl (lv_at hl 0 rfl) ?_
  refine lv_iadd (pc := 13) hx hb dX11_tapeNumber_13 ?_
  refine lv_topi (pc := 14) (fun v13 ev13 => ?_)
  obtain rfl : v13 = 17 := ev13.trans (by decide)
  refine lv_sipush (pc := 14) (v := 600) hx hb dX11_tapeNumber_14 (by decide) ?_
  refine lv_icmp_ge (pc := 17) (tgt := 38) hx hb dX11_tapeNumber_17 (by decide) (fun c14 => absurd c14 (by decide)) (fun _ => ?_)
  refine lv_aload_n (pc := 20) hx hb dX11_tapeNumber_20 rfl (lv_at hl 1 rfl) ?_
  refine zgetR (pc := 21) (k := 0) (j := 0) (a := o + 1) zc11 hx hb hts hown hK hP rfl (by decide) rfl (hR 0 0 rfl) zf_X11_9 dX11_tapeNumber_21 ?_
  refine lv_iload_n (pc := 24) hx hb dX11_tapeNumber_24 rfl (lv_at hl 3 rfl) ?_
  refine lv_iload_n (pc := 25) hx hb dX11_tapeNumber_25 rfl (lv_at hl 0 rfl) ?_
  refine lv_iadd (pc := 26) hx hb dX11_tapeNumber_26 ?_
  refine lv_topi (pc := 27) (fun v15 ev15 => ?_)
  obtain rfl : v15 = 17 := ev15.trans (by decide)
  refine lv_iload_n (pc := 27) hx hb dX11_tapeNumber_27 rfl (lv_at hl 2 rfl) ?_
  refine lv_bipush (pc := 28) (v := 24) hx hb dX11_tapeNumber_28 (by decide) ?_
  refine lv_bipush (pc := 30) (v := 8) hx hb dX11_tapeNumber_30 (by decide) ?_
  refine lv_iload_n (pc := 32) hx hb dX11_tapeNumber_32 rfl (lv_at hl 0 rfl) ?_
  refine lv_imul (pc := 33) hx hb dX11_tapeNumber_33 ?_
  refine lv_topi (pc := 34) (fun v16 ev16 => ?_)
  obtain rfl : v16 = 8 := ev16.trans (by decide)
  refine lv_isub (pc := 34) hx hb dX11_tapeNumber_34 ?_
  refine lv_topi (pc := 35) (fun v17 ev17 => ?_)
  obtain rfl : v17 = 16 := ev17.trans (by decide)
  refine lv_iushr (pc := 35) hx hb dX11_tapeNumber_35 rfl ?_
  refine lv_topi (pc := 36) (fun v18 ev18 => ?_)
  refine lv_i2b (pc := 36) hx hb dX11_tapeNumber_36 rfl ?_
  refine lv_topi (pc := 37) (fun v19 ev19 => ?_)
  refine zbast (pc := 37) (k := 1) (n := 600) hx hb hK hP hS rfl (by decide) (vp_in_iff.mpr ⟨by decide, by decide⟩) dX11_tapeNumber_37 (fun H locs hP hS => ?_)
  obtain ⟨σ20, eσ20⟩ : ∃ x : zS, x = zI σ10 1 (upd (σ10.1 1) 17 (vp_nar .byte v19)) := ⟨_, rfl⟩
  have hP : zP D c o σ20 H := by rw [eσ20]; exact hP
  have hR : zRef o σ20.2.2 := zI_ref eσ20 hR
  have hF : zFr [1] σ σ20 := zFr_I eσ20 hF (by decide)
  refine lv_iinc (pc := 38) (v := 2) (lv' := [(3, .int 2), (0, .ref (o + 0)), (1, .int p0), (2, .int 16)]) hx hb dX11_tapeNumber_38 hl (k := 0) rfl (by decide) (by decide) rfl (fun ls hl => ?_)
  refine lv_goto (pc := 41) (tgt := 2) hx hb dX11_tapeNumber_41 (by decide) ?_
  refine lv_iload_n (pc := 2) hx hb dX11_tapeNumber_2 rfl (lv_at hl 0 rfl) ?_
  refine lv_iconst (pc := 3) (v := 4) hx hb dX11_tapeNumber_3 (by decide) ?_
  refine lv_icmp_ge (pc := 4) (tgt := 44) hx hb dX11_tapeNumber_4 (by decide) (fun c21 => absurd c21 (by decide)) (fun _ => ?_)
  refine lv_iload_n (pc := 7) hx hb dX11_tapeNumber_7 rfl (lv_at hl 3 rfl) ?_
  refine lv_if_lt (pc := 8) (tgt := 38) hx hb dX11_tapeNumber_8 (by decide) (fun c22 => absurd c22 (by decide)) (fun _ => ?_)
  refine lv_iload_n (pc := 11) hx hb dX11_tapeNumber_11 rfl (lv_at hl 3 rfl) ?_
  refine lv_iload_n (pc := 12) hx hb dX11_tapeNumber_12 rfl (lv_at hl 0 rfl) ?_
  refine lv_iadd (pc := 13) hx hb dX11_tapeNumber_13 ?_
  refine lv_topi (pc := 14) (fun v23 ev23 => ?_)
  obtain rfl : v23 = 18 := ev23.trans (by decide)
  refine lv_sipush (pc := 14) (v := 600) hx hb dX11_tapeNumber_14 (by decide) ?_
  refine lv_icmp_ge (pc := 17) (tgt := 38) hx hb dX11_tapeNumber_17 (by decide) (fun c24 => absurd c24 (by decide)) (fun _ => ?_)
  refine lv_aload_n (pc := 20) hx hb dX11_tapeNumber_20 rfl (lv_at hl 1 rfl) ?_
  refine zgetR (pc := 21) (k := 0) (j := 0) (a := o + 1) zc11 hx hb hts hown hK hP rfl (by decide) rfl (hR 0 0 rfl) zf_X11_9 dX11_tapeNumber_21 ?_
  refine lv_iload_n (pc := 24) hx hb dX11_tapeNumber_24 rfl (lv_at hl 3 rfl) ?_
  refine lv_iload_n (pc := 25) hx hb dX11_tapeNumber_25 rfl (lv_at hl 0 rfl) ?_
  refine lv_iadd (pc := 26) hx hb dX11_tapeNumber_26 ?_
  refine lv_topi (pc := 27) (fun v25 ev25 => ?_)
  obtain rfl : v25 = 18 := ev25.trans (by decide)
  refine lv_iload_n (pc := 27) hx hb dX11_tapeNumber_27 rfl (lv_at hl 2 rfl) ?_
  refine lv_bipush (pc := 28) (v := 24) hx hb dX11_tapeNumber_28 (by decide) ?_
  refine lv_bipush (pc := 30) (v := 8) hx hb dX11_tapeNumber_30 (by decide) ?_
  refine lv_iload_n (pc := 32) hx hb dX11_tapeNumber_32 rfl (lv_at hl 0 rfl) ?_
  refine lv_imul (pc := 33) hx hb dX11_tapeNumber_33 ?_
  refine lv_topi (pc := 34) (fun v26 ev26 => ?_)
  obtain rfl : v26 = 16 := ev26.trans (by decide)
  refine lv_isub (pc := 34) hx hb dX11_tapeNumber_34 ?_
  refine lv_topi (pc := 35) (fun v27 ev27 => ?_)
  obtain rfl : v27 = 8 := ev27.trans (by decide)
  refine lv_iushr (pc := 35) hx hb dX11_tapeNumber_35 rfl ?_
  refine lv_topi (pc := 36) (fun v28 ev28 => ?_)
  refine lv_i2b (pc := 36) hx hb dX11_tapeNumber_36 rfl ?_
  refine lv_topi (pc := 37) (fun v29 ev29 => ?_)
  refine zbast (pc := 37) (k := 1) (n := 600) hx hb hK hP hS rfl (by decide) (vp_in_iff.mpr ⟨by decide, by decide⟩) dX11_tapeNumber_37 (fun H locs hP hS => ?_)
  obtain ⟨σ30, eσ30⟩ : ∃ x : zS, x = zI σ20 1 (upd (σ20.1 1) 18 (vp_nar .byte v29)) := ⟨_, rfl⟩
  have hP : zP D c o σ30 H := by rw [eσ30]; exact hP
  have hR : zRef o σ30.2.2 := zI_ref eσ30 hR
  have hF : zFr [1] σ σ30 := zFr_I eσ30 hF (by decide)
  refine lv_iinc (pc := 38) (v := 3) (lv' := [(3, .int 3), (0, .ref (o + 0)), (1, .int p0), (2, .int 16)]) hx hb dX11_tapeNumber_38 hl (k := 0) rfl (by decide) (by decide) rfl (fun ls hl => ?_)
  refine lv_goto (pc := 41) (tgt := 2) hx hb dX11_tapeNumber_41 (by decide) ?_
  refine lv_iload_n (pc := 2) hx hb dX11_tapeNumber_2 rfl (lv_at hl 0 rfl) ?_
  refine lv_iconst (pc := 3) (v := 4) hx hb dX11_tapeNumber_3 (by decide) ?_
  refine lv_icmp_ge (pc := 4) (tgt := 44) hx hb dX11_tapeNumber_4 (by decide) (fun c31 => absurd c31 (by decide)) (fun _ => ?_)
  refine lv_iload_n (pc := 7) hx hb dX11_tapeNumber_7 rfl (lv_at hl 3 rfl) ?_
  refine lv_if_lt (pc := 8) (tgt := 38) hx hb dX11_tapeNumber_8 (by decide) (fun c32 => absurd c32 (by decide)) (fun _ => ?_)
  refine lv_iload_n (pc := 11) hx hb dX11_tapeNumber_11 rfl (lv_at hl 3 rfl) ?_
  refine lv_iload_n (pc := 12) hx hb dX11_tapeNumber_12 rfl (lv_at hl 0 rfl) ?_
  refine lv_iadd (pc := 13) hx hb dX11_tapeNumber_13 ?_
  refine lv_topi (pc := 14) (fun v33 ev33 => ?_)
  obtain rfl : v33 = 19 := ev33.trans (by decide)
  refine lv_sipush (pc := 14) (v := 600) hx hb dX11_tapeNumber_14 (by decide) ?_
  refine lv_icmp_ge (pc := 17) (tgt := 38) hx hb dX11_tapeNumber_17 (by decide) (fun c34 => absurd c34 (by decide)) (fun _ => ?_)
  refine lv_aload_n (pc := 20) hx hb dX11_tapeNumber_20 rfl (lv_at hl 1 rfl) ?_
  refine zgetR (pc := 21) (k := 0) (j := 0) (a := o + 1) zc11 hx hb hts hown hK hP rfl (by decide) rfl (hR 0 0 rfl) zf_X11_9 dX11_tapeNumber_21 ?_
  refine lv_iload_n (pc := 24) hx hb dX11_tapeNumber_24 rfl (lv_at hl 3 rfl) ?_
  refine lv_iload_n (pc := 25) hx hb dX11_tapeNumber_25 rfl (lv_at hl 0 rfl) ?_
  refine lv_iadd (pc := 26) hx hb dX11_tapeNumber_26 ?_
  refine lv_topi (pc := 27) (fun v35 ev35 => ?_)
  obtain rfl : v35 = 19 := ev35.trans (by decide)
  refine lv_iload_n (pc := 27) hx hb dX11_tapeNumber_27 rfl (lv_at hl 2 rfl) ?_
  refine lv_bipush (pc := 28) (v := 24) hx hb dX11_tapeNumber_28 (by decide) ?_
  refine lv_bipush (pc := 30) (v := 8) hx hb dX11_tapeNumber_30 (by decide) ?_
  refine lv_iload_n (pc := 32) hx hb dX11_tapeNumber_32 rfl (lv_at hl 0 rfl) ?_
  refine lv_imul (pc := 33) hx hb dX11_tapeNumber_33 ?_
  refine lv_topi (pc := 34) (fun v36 ev36 => ?_)
  obtain rfl : v36 = 24 := ev36.trans (by decide)
  refine lv_isub (pc := 34) hx hb dX11_tapeNumber_34 ?_
  refine lv_topi (pc := 35) (fun v37 ev37 => ?_)
  obtain rfl : v37 = 0 := ev37.trans (by decide)
  refine lv_iushr (pc := 35) hx hb dX11_tapeNumber_35 rfl ?_
  refine lv_topi (pc := 36) (fun v38 ev38 => ?_)
  refine lv_i2b (pc := 36) hx hb dX11_tapeNumber_36 rfl ?_
  refine lv_topi (pc := 37) (fun v39 ev39 => ?_)
  refine zbast (pc := 37) (k := 1) (n := 600) hx hb hK hP hS rfl (by decide) (vp_in_iff.mpr ⟨by decide, by decide⟩) dX11_tapeNumber_37 (fun H locs hP hS => ?_)
  obtain ⟨σ40, eσ40⟩ : ∃ x : zS, x = zI σ30 1 (upd (σ30.1 1) 19 (vp_nar .byte v39)) := ⟨_, rfl⟩
  have hP : zP D c o σ40 H := by rw [eσ40]; exact hP
  have hR : zRef o σ40.2.2 := zI_ref eσ40 hR
  have hF : zFr [1] σ σ40 := zFr_I eσ40 hF (by decide)
  refine lv_iinc (pc := 38) (v := 4) (lv' := [(3, .int 4), (0, .ref (o + 0)), (1, .int p0), (2, .int 16)]) hx hb dX11_tapeNumber_38 hl (k := 0) rfl (by decide) (by decide) rfl (fun ls hl => ?_)
  refine lv_goto (pc := 41) (tgt := 2) hx hb dX11_tapeNumber_41 (by decide) ?_
  refine lv_iload_n (pc := 2) hx hb dX11_tapeNumber_2 rfl (lv_at hl 0 rfl) ?_
  refine lv_iconst (pc := 3) (v := 4) hx hb dX11_tapeNumber_3 (by decide) ?_
  refine lv_icmp_ge (pc := 4) (tgt := 44) hx hb dX11_tapeNumber_4 (by decide) (fun _ => ?_) (fun c41 => absurd c41 (by decide))
  exact zretv (pc := 44) hx hb hr hlocks hP hK hS hF dX11_tapeNumber_44

set_option maxHeartbeats 4000000 in
set_option maxRecDepth 100000 in
theorem fr_X11_feed (l : Launch) (D : va_G) (c : zC) (o : Nat) (σ : zS) (p0 p1 p2 p3 p4 : Int32) (hR : zRef o σ.2.2) (ht : σ.1 0 1 = 0) : Met l yX11_feed zs_X11_feed (zr 2) (va_Pc [.ref (o + 0), .int p0, .int p1, .int p2, .int p3, .int p4] (zQ D c o σ)) (va_Qi (fun (r : Int32) (σ1 : zS) => r = 20 ∧ zMd o σ σ1) (zQ D c o) (zA o)) 0 0 (zA o) := by
  refine zMet (by decide) (Nat.le_of_ble_eq_true rfl) ?_
  intro p e s m below meth cd ⟨hx, hb, hr, hml, hown, hts, hlocks⟩ hP hK ls hl
  have hS : va_S (zA o) s.heap s.heap [] := va_S.rf
  have hl : lv_has ls 6 [(0, .ref (o + 0)), (1, .int p0), (2, .int p1), (3, .int p2), (4, .int p3), (5, .int p4)] := hl
  have hH : ∀ a, 218 ≤ a → σ.1 a = σ.1 a := fun _ _ => rfl
  refine lv_aload_n (pc := 0) hx hb dX11_feed_0 rfl (lv_at hl 0 rfl) ?_
  refine zgetI (pc := 1) (k := 0) (j := 1) (v := 0) zc11 hx hb hts hown hK hP rfl (by decide) rfl ht zf_X11_13 dX11_feed_1 ?_
  refine lv_if_lt (pc := 4) (tgt := 20) hx hb dX11_feed_4 (by decide) (fun c1 => absurd c1 (by decide)) (fun _ => ?_)
  refine lv_aload_n (pc := 7) hx hb dX11_feed_7 rfl (lv_at hl 0 rfl) ?_
  refine zgetI (pc := 8) (k := 0) (j := 1) (v := 0) zc11 hx hb hts hown hK hP rfl (by decide) rfl ht zf_X11_13 dX11_feed_8 ?_
  refine lv_bipush (pc := 11) (v := 20) hx hb dX11_feed_11 (by decide) ?_
  refine lv_iadd (pc := 13) hx hb dX11_feed_13 ?_
  refine lv_topi (pc := 14) (fun v2 ev2 => ?_)
  obtain rfl : v2 = 20 := ev2.trans (by decide)
  refine lv_sipush (pc := 14) (v := 600) hx hb dX11_feed_14 (by decide) ?_
  refine lv_icmp_le (pc := 17) (tgt := 22) hx hb dX11_feed_17 (by decide) (fun _ => ?_) (fun c3 => absurd c3 (by decide))
  refine lv_aload_n (pc := 22) hx hb dX11_feed_22 rfl (lv_at hl 0 rfl) ?_
  refine lv_iload_n (pc := 23) hx hb dX11_feed_23 rfl (lv_at hl 1 rfl) ?_
  refine lv_aload_n (pc := 24) hx hb dX11_feed_24 rfl (lv_at hl 0 rfl) ?_
  refine zgetI (pc := 25) (k := 0) (j := 1) (v := 0) zc11 hx hb hts hown hK hP rfl (by decide) rfl ht zf_X11_13 dX11_feed_25 ?_
  refine zcallVv (pc := 28) (k := 0) (As := [.int p0, .int 0]) (rest := []) ⟨hx, hb, hml, hown, hts⟩ (fr_tape0 l D c o σ p0 hR) zc11 zV_X11_114 rfl zd_X11_tapeNumber ⟨Nat.le_of_ble_eq_true rfl, Nat.le_of_ble_eq_true rfl⟩ hK hP hS rfl (by decide) hl.1 rfl (Nat.le_of_ble_eq_true rfl) ⟨Nat.zero_le _, Nat.zero_le _⟩ dX11_feed_28 (fun σ5 H locs hw6 hP hS => ?_)
  have ht : σ5.1 0 1 = 0 := zFr_i hw6 (by decide) ht
  have hR : zRef o σ5.2.2 := zFr_ref hw6 hR
  have hH : ∀ a, 218 ≤ a → σ5.1 a = σ.1 a := zFr_hi hw6 (by decide) hH
  refine lv_aload_n (pc := 31) hx hb dX11_feed_31 rfl (lv_at hl 0 rfl) ?_
  refine lv_iload_n (pc := 32) hx hb dX11_feed_32 rfl (lv_at hl 2 rfl) ?_
  refine lv_aload_n (pc := 33) hx hb dX11_feed_33 rfl (lv_at hl 0 rfl) ?_
  refine zgetI (pc := 34) (k := 0) (j := 1) (v := 0) zc11 hx hb hts hown hK hP rfl (by decide) rfl ht zf_X11_13 dX11_feed_34 ?_
  refine lv_iconst (pc := 37) (v := 4) hx hb dX11_feed_37 (by decide) ?_
  refine lv_iadd (pc := 38) hx hb dX11_feed_38 ?_
  refine lv_topi (pc := 39) (fun v7 ev7 => ?_)
  obtain rfl : v7 = 4 := ev7.trans (by decide)
  refine zcallVv (pc := 39) (k := 0) (As := [.int p1, .int 4]) (rest := []) ⟨hx, hb, hml, hown, hts⟩ (fr_tape4 l D c o σ5 p1 hR) zc11 zV_X11_114 rfl zd_X11_tapeNumber ⟨Nat.le_of_ble_eq_true rfl, Nat.le_of_ble_eq_true rfl⟩ hK hP hS rfl (by decide) hl.1 rfl (Nat.le_of_ble_eq_true rfl) ⟨Nat.zero_le _, Nat.zero_le _⟩ dX11_feed_39 (fun σ9 H locs hw10 hP hS => ?_)
  have ht : σ9.1 0 1 = 0 := zFr_i hw10 (by decide) ht
  have hR : zRef o σ9.2.2 := zFr_ref hw10 hR
  have hH : ∀ a, 218 ≤ a → σ9.1 a = σ.1 a := zFr_hi hw10 (by decide) hH
  refine lv_aload_n (pc := 42) hx hb dX11_feed_42 rfl (lv_at hl 0 rfl) ?_
  refine lv_iload_n (pc := 43) hx hb dX11_feed_43 rfl (lv_at hl 3 rfl) ?_
  refine lv_aload_n (pc := 44) hx hb dX11_feed_44 rfl (lv_at hl 0 rfl) ?_
  refine zgetI (pc := 45) (k := 0) (j := 1) (v := 0) zc11 hx hb hts hown hK hP rfl (by decide) rfl ht zf_X11_13 dX11_feed_45 ?_
  refine lv_bipush (pc := 48) (v := 8) hx hb dX11_feed_48 (by decide) ?_
  refine lv_iadd (pc := 50) hx hb dX11_feed_50 ?_
  refine lv_topi (pc := 51) (fun v11 ev11 => ?_)
  obtain rfl : v11 = 8 := ev11.trans (by decide)
  refine zcallVv (pc := 51) (k := 0) (As := [.int p2, .int 8]) (rest := []) ⟨hx, hb, hml, hown, hts⟩ (fr_tape8 l D c o σ9 p2 hR) zc11 zV_X11_114 rfl zd_X11_tapeNumber ⟨Nat.le_of_ble_eq_true rfl, Nat.le_of_ble_eq_true rfl⟩ hK hP hS rfl (by decide) hl.1 rfl (Nat.le_of_ble_eq_true rfl) ⟨Nat.zero_le _, Nat.zero_le _⟩ dX11_feed_51 (fun σ13 H locs hw14 hP hS => ?_)
  have ht : σ13.1 0 1 = 0 := zFr_i hw14 (by decide) ht
  have hR : zRef o σ13.2.2 := zFr_ref hw14 hR
  have hH : ∀ a, 218 ≤ a → σ13.1 a = σ.1 a := zFr_hi hw14 (by decide) hH
  refine lv_aload_n (pc := 54) hx hb dX11_feed_54 rfl (lv_at hl 0 rfl) ?_
  refine lv_iload (pc := 55) hx hb dX11_feed_55 (lv_at hl 4 rfl) ?_
  refine lv_aload_n (pc := 57) hx hb dX11_feed_57 rfl (lv_at hl 0 rfl) ?_
  refine zgetI (pc := 58) (k := 0) (j := 1) (v := 0) zc11 hx hb hts hown hK hP rfl (by decide) rfl ht zf_X11_13 dX11_feed_58 ?_
  refine lv_bipush (pc := 61) (v := 12) hx hb dX11_feed_61 (by decide) ?_
  refine lv_iadd (pc := 63) hx hb dX11_feed_63 ?_
  refine lv_topi (pc := 64) (fun v15 ev15 => ?_)
  obtain rfl : v15 = 12 := ev15.trans (by decide)
  refine zcallVv (pc := 64) (k := 0) (As := [.int p3, .int 12]) (rest := []) ⟨hx, hb, hml, hown, hts⟩ (fr_tape12 l D c o σ13 p3 hR) zc11 zV_X11_114 rfl zd_X11_tapeNumber ⟨Nat.le_of_ble_eq_true rfl, Nat.le_of_ble_eq_true rfl⟩ hK hP hS rfl (by decide) hl.1 rfl (Nat.le_of_ble_eq_true rfl) ⟨Nat.zero_le _, Nat.zero_le _⟩ dX11_feed_64 (fun σ17 H locs hw18 hP hS => ?_)
  have ht : σ17.1 0 1 = 0 := zFr_i hw18 (by decide) ht
  have hR : zRef o σ17.2.2 := zFr_ref hw18 hR
  have hH : ∀ a, 218 ≤ a → σ17.1 a = σ.1 a := zFr_hi hw18 (by decide) hH
  refine lv_aload_n (pc := 67) hx hb dX11_feed_67 rfl (lv_at hl 0 rfl) ?_
  refine lv_iload (pc := 68) hx hb dX11_feed_68 (lv_at hl 5 rfl) ?_
  refine lv_aload_n (pc := 70) hx hb dX11_feed_70 rfl (lv_at hl 0 rfl) ?_
  refine zgetI (pc := 71) (k := 0) (j := 1) (v := 0) zc11 hx hb hts hown hK hP rfl (by decide) rfl ht zf_X11_13 dX11_feed_71 ?_
  refine lv_bipush (pc := 74) (v := 16) hx hb dX11_feed_74 (by decide) ?_
  refine lv_iadd (pc := 76) hx hb dX11_feed_76 ?_
  refine lv_topi (pc := 77) (fun v19 ev19 => ?_)
  obtain rfl : v19 = 16 := ev19.trans (by decide)
  refine zcallVv (pc := 77) (k := 0) (As := [.int p4, .int 16]) (rest := []) ⟨hx, hb, hml, hown, hts⟩ (fr_tape16 l D c o σ17 p4 hR) zc11 zV_X11_114 rfl zd_X11_tapeNumber ⟨Nat.le_of_ble_eq_true rfl, Nat.le_of_ble_eq_true rfl⟩ hK hP hS rfl (by decide) hl.1 rfl (Nat.le_of_ble_eq_true rfl) ⟨Nat.zero_le _, Nat.zero_le _⟩ dX11_feed_77 (fun σ21 H locs hw22 hP hS => ?_)
  have ht : σ21.1 0 1 = 0 := zFr_i hw22 (by decide) ht
  have hR : zRef o σ21.2.2 := zFr_ref hw22 hR
  have hH : ∀ a, 218 ≤ a → σ21.1 a = σ.1 a := zFr_hi hw22 (by decide) hH
  refine lv_aload_n (pc := 80) hx hb dX11_feed_80 rfl (lv_at hl 0 rfl) ?_
  refine lv_dup (pc := 81) hx hb dX11_feed_81 rfl ?_
  refine zgetI (pc := 82) (k := 0) (j := 1) (v := 0) zc11 hx hb hts hown hK hP rfl (by decide) rfl ht zf_X11_13 dX11_feed_82 ?_
  refine lv_bipush (pc := 85) (v := 20) hx hb dX11_feed_85 (by decide) ?_
  refine lv_iadd (pc := 87) hx hb dX11_feed_87 ?_
  refine lv_topi (pc := 88) (fun v23 ev23 => ?_)
  obtain rfl : v23 = 20 := ev23.trans (by decide)
  refine zputI (pc := 88) (k := 0) (j := 1) zc11 hx hb hts hown hK hP hS rfl (by decide) rfl rfl rfl zf_X11_13 dX11_feed_88 (fun H locs hP hS => ?_)
  obtain ⟨σ24, eσ24⟩ : ∃ x : zS, x = zI σ21 0 (upd (σ21.1 0) 1 20) := ⟨_, rfl⟩
  have hP : zP D c o σ24 H := by rw [eσ24]; exact hP
  have f0_1 : σ24.1 0 1 = 20 := zI_eq eσ24 pk_us
  have hR : zRef o σ24.2.2 := zI_ref eσ24 hR
  have hH : ∀ a, 218 ≤ a → σ24.1 a = σ.1 a := zI_hi eσ24 (by decide) hH
  refine lv_aload_n (pc := 91) hx hb dX11_feed_91 rfl (lv_at hl 0 rfl) ?_
  refine zgetI (pc := 92) (k := 0) (j := 1) (v := 20) zc11 hx hb hts hown hK hP rfl (by decide) rfl f0_1 zf_X11_13 dX11_feed_92 ?_
  exact zreti (pc := 95) hx hb hr hlocks hP hK hS ⟨rfl, hR, hH⟩ dX11_feed_95

set_option maxHeartbeats 4000000 in
set_option maxRecDepth 100000 in
theorem cs_in (l : Launch) (D : va_G) (c : zC) (o : Nat) (σ : zS) (p0 p1 p2 : Int64) : Met l yX12_in zs_X12_in (zr 1) (va_Pc [.long p0, .long p1, .long p2] (zQ D c o σ)) (va_Qi (fun (r : Int32) (σ1 : zS) => r = zin3 p0.toInt p1.toInt p2.toInt ∧ σ = σ1) (zQ D c o) (zA o)) 0 0 (zA o) := by
  refine zMet (by decide) (Nat.le_of_ble_eq_true rfl) ?_
  intro p e s m below meth cd ⟨hx, hb, hr, hml, hown, hts, hlocks⟩ hP hK ls hl
  have hS : va_S (zA o) s.heap s.heap [] := va_S.rf
  have hl : lv_has ls 6 [(0, .long p0), (2, .long p1), (4, .long p2)] := hl
  refine lv_lload_n (pc := 0) hx hb dX12_in_0 rfl (lv_at hl 0 rfl) ?_
  refine lv_lload_n (pc := 1) hx hb dX12_in_1 rfl (lv_at hl 1 rfl) ?_
  refine W.lcmp (pc := 2) hx hb dX12_in_2 ?_
  refine lv_if_lt (pc := 3) (tgt := 17) hx hb dX12_in_3 (by decide) (fun c1 => ?_) (fun c1 => ?_)
  · refine lv_iconst (pc := 17) (v := 0) hx hb dX12_in_17 (by decide) ?_
    exact zretz (pc := 18) hx hb hr hlocks hP hK hS (by decide) ⟨by simp only [zcmp_lt, zcmp_gt] at c1; unfold zin3; split <;> first | rfl | omega, rfl⟩ dX12_in_18
  · refine lv_lload_n (pc := 6) hx hb dX12_in_6 rfl (lv_at hl 0 rfl) ?_
    refine lv_lload (pc := 7) hx hb dX12_in_7 (lv_at hl 2 rfl) ?_
    refine W.lcmp (pc := 9) hx hb dX12_in_9 ?_
    refine lv_if_gt (pc := 10) (tgt := 17) hx hb dX12_in_10 (by decide) (fun c2 => ?_) (fun c2 => ?_)
    · refine lv_iconst (pc := 17) (v := 0) hx hb dX12_in_17 (by decide) ?_
      exact zretz (pc := 18) hx hb hr hlocks hP hK hS (by decide) ⟨by simp only [zcmp_lt, zcmp_gt] at c1 c2; unfold zin3; split <;> first | rfl | omega, rfl⟩ dX12_in_18
    · refine lv_iconst (pc := 13) (v := 1) hx hb dX12_in_13 (by decide) ?_
      refine lv_goto (pc := 14) (tgt := 18) hx hb dX12_in_14 (by decide) ?_
      exact zretz (pc := 18) hx hb hr hlocks hP hK hS (by decide) ⟨by simp only [zcmp_lt, zcmp_gt] at c1 c2; unfold zin3; split <;> first | rfl | omega, rfl⟩ dX12_in_18

set_option maxHeartbeats 4000000 in
set_option maxRecDepth 100000 in
theorem nw_X12_isWorld (l : Launch) (D : va_G) (c : zC) (o : Nat) (σ : zS) (hR : zRef o σ.2.2) (h0 : σ.1 219 0 = 0) : Met l yX12_isWorld zs_X12_isWorld (zr 1) (va_Pc [.ref (o + 218)] (zQ D c o σ)) (va_Qi (fun (r : Int32) (σ1 : zS) => r = 0 ∧ σ = σ1) (zQ D c o) (zA o)) 0 0 (zA o) := by
  refine zMet (by decide) (Nat.le_of_ble_eq_true rfl) ?_
  intro p e s m below meth cd ⟨hx, hb, hr, hml, hown, hts, hlocks⟩ hP hK ls hl
  have hS : va_S (zA o) s.heap s.heap [] := va_S.rf
  have hl : lv_has ls 1 [(0, .ref (o + 218))] := hl
  refine lv_aload_n (pc := 0) hx hb dX12_isWorld_0 rfl (lv_at hl 0 rfl) ?_
  refine zgetR (pc := 1) (k := 218) (j := 1) (a := o + 219) zc12 hx hb hts hown hK hP rfl (by decide) rfl (hR 218 1 rfl) zf_X12_9 dX12_isWorld_1 ?_
  refine lv_iconst (pc := 4) (v := 0) hx hb dX12_isWorld_4 (by decide) ?_
  refine ziald (pc := 5) (k := 219) (n := 43) hx hb hK hP rfl (by decide) (vp_in_iff.mpr ⟨by decide, by decide⟩) dX12_isWorld_5 ?_
  refine lv_topi (pc := 6) (fun v1 ev1 => ?_)
  obtain rfl : v1 = 0 := ev1.trans h0
  refine lv_if_le (pc := 6) (tgt := 13) hx hb dX12_isWorld_6 (by decide) (fun _ => ?_) (fun c2 => absurd c2 (by decide))
  refine lv_iconst (pc := 13) (v := 0) hx hb dX12_isWorld_13 (by decide) ?_
  exact zretz (pc := 14) hx hb hr hlocks hP hK hS (by decide) ⟨rfl, rfl⟩ dX12_isWorld_14

set_option maxHeartbeats 4000000 in
set_option maxRecDepth 100000 in
theorem nw_X12_isRegister (l : Launch) (D : va_G) (c : zC) (o : Nat) (σ : zS) (p0 : Int32) (hR : zRef o σ.2.2) (h0 : σ.1 219 0 = 0) : Met l yX12_isRegister zs_X12_isRegister (zr 3) (va_Pc [.ref (o + 218), .int p0] (zQ D c o σ)) (va_Qi (fun (r : Int32) (σ1 : zS) => r = 0 ∧ σ = σ1) (zQ D c o) (zA o)) 0 0 (zA o) := by
  refine zMet (by decide) (Nat.le_of_ble_eq_true rfl) ?_
  intro p e s m below meth cd ⟨hx, hb, hr, hml, hown, hts, hlocks⟩ hP hK ls hl
  have hS : va_S (zA o) s.heap s.heap [] := va_S.rf
  have hl : lv_has ls 2 [(0, .ref (o + 218)), (1, .int p0)] := hl
  refine lv_aload_n (pc := 0) hx hb dX12_isRegister_0 rfl (lv_at hl 0 rfl) ?_
  refine zcallVi (pc := 1) (k := 218) (As := []) (rest := []) ⟨hx, hb, hml, hown, hts⟩ (nw_X12_isWorld l D c o σ hR h0) zc12 zV_X12_98 rfl zd_X12_isWorld ⟨Nat.le_of_ble_eq_true rfl, Nat.le_of_ble_eq_true rfl⟩ hK hP hS rfl (by decide) hl.1 rfl (Nat.le_of_ble_eq_true rfl) ⟨Nat.zero_le _, Nat.zero_le _⟩ dX12_isRegister_1 (fun r1 σ2 H locs hw3 hP hS => ?_)
  obtain ⟨rfl, rfl⟩ := hw3
  refine lv_if_eq (pc := 4) (tgt := 23) hx hb dX12_isRegister_4 (by decide) (fun _ => ?_) (fun c4 => absurd c4 (by decide))
  refine lv_iconst (pc := 23) (v := 0) hx hb dX12_isRegister_23 (by decide) ?_
  exact zretz (pc := 24) hx hb hr hlocks hP hK hS (by decide) ⟨rfl, rfl⟩ dX12_isRegister_24

set_option maxHeartbeats 4000000 in
set_option maxRecDepth 100000 in
theorem nw_X12_many (l : Launch) (D : va_G) (c : zC) (o : Nat) (σ : zS) (hR : zRef o σ.2.2) (h0 : σ.1 219 0 = 0) : Met l yX12_many zs_X12_many (zr 3) (va_Pc [.ref (o + 218)] (zQ D c o σ)) (va_Qi (fun (r : Int32) (σ1 : zS) => r = 0 ∧ σ = σ1) (zQ D c o) (zA o)) 0 0 (zA o) := by
  refine zMet (by decide) (Nat.le_of_ble_eq_true rfl) ?_
  intro p e s m below meth cd ⟨hx, hb, hr, hml, hown, hts, hlocks⟩ hP hK ls hl
  have hS : va_S (zA o) s.heap s.heap [] := va_S.rf
  have hl : lv_has ls 1 [(0, .ref (o + 218))] := hl
  refine lv_aload_n (pc := 0) hx hb dX12_many_0 rfl (lv_at hl 0 rfl) ?_
  refine zcallVi (pc := 1) (k := 218) (As := []) (rest := []) ⟨hx, hb, hml, hown, hts⟩ (nw_X12_isWorld l D c o σ hR h0) zc12 zV_X12_98 rfl zd_X12_isWorld ⟨Nat.le_of_ble_eq_true rfl, Nat.le_of_ble_eq_true rfl⟩ hK hP hS rfl (by decide) hl.1 rfl (Nat.le_of_ble_eq_true rfl) ⟨Nat.zero_le _, Nat.zero_le _⟩ dX12_many_1 (fun r1 σ2 H locs hw3 hP hS => ?_)
  obtain ⟨rfl, rfl⟩ := hw3
  refine lv_if_eq (pc := 4) (tgt := 18) hx hb dX12_many_4 (by decide) (fun _ => ?_) (fun c4 => absurd c4 (by decide))
  refine lv_iconst (pc := 18) (v := 0) hx hb dX12_many_18 (by decide) ?_
  exact zreti (pc := 19) hx hb hr hlocks hP hK hS ⟨rfl, rfl⟩ dX12_many_19

set_option maxHeartbeats 4000000 in
set_option maxRecDepth 100000 in
theorem nw_X12_isSet (l : Launch) (D : va_G) (c : zC) (o : Nat) (σ : zS) (p0 : Int32) (hR : zRef o σ.2.2) (h0 : σ.1 219 0 = 0) : Met l yX12_isSet zs_X12_isSet (zr 5) (va_Pc [.ref (o + 218), .int p0] (zQ D c o σ)) (va_Qi (fun (r : Int32) (σ1 : zS) => r = 0 ∧ σ = σ1) (zQ D c o) (zA o)) 0 0 (zA o) := by
  refine zMet (by decide) (Nat.le_of_ble_eq_true rfl) ?_
  intro p e s m below meth cd ⟨hx, hb, hr, hml, hown, hts, hlocks⟩ hP hK ls hl
  have hS : va_S (zA o) s.heap s.heap [] := va_S.rf
  have hl : lv_has ls 2 [(0, .ref (o + 218)), (1, .int p0)] := hl
  refine lv_iload_n (pc := 0) hx hb dX12_isSet_0 rfl (lv_at hl 1 rfl) ?_
  refine lv_i2l (pc := 1) hx hb dX12_isSet_1 rfl ?_
  refine lv_lconst (pc := 2) (v := 0) hx hb dX12_isSet_2 (by decide) ?_
  refine lv_aload_n (pc := 3) hx hb dX12_isSet_3 rfl (lv_at hl 0 rfl) ?_
  refine zcallVi (pc := 4) (k := 218) (As := []) (rest := [.long 0, .long p0.toInt64]) ⟨hx, hb, hml, hown, hts⟩ (nw_X12_many l D c o σ hR h0) zc12 zV_X12_104 rfl zd_X12_many ⟨Nat.le_of_ble_eq_true rfl, Nat.le_of_ble_eq_true rfl⟩ hK hP hS rfl (by decide) hl.1 rfl (Nat.le_of_ble_eq_true rfl) ⟨Nat.zero_le _, Nat.zero_le _⟩ dX12_isSet_4 (fun r1 σ2 H locs hw3 hP hS => ?_)
  obtain ⟨rfl, rfl⟩ := hw3
  refine lv_iconst (pc := 7) (v := 1) hx hb dX12_isSet_7 (by decide) ?_
  refine lv_isub (pc := 8) hx hb dX12_isSet_8 ?_
  refine lv_topi (pc := 9) (fun v4 ev4 => ?_)
  obtain rfl : v4 = (-1) := ev4.trans (by decide)
  refine lv_i2l (pc := 9) (v := (-1)) hx hb dX12_isSet_9 (by decide) ?_
  refine zcallSi (pc := 10) (As := [.long p0.toInt64, .long 0, .long ((-1))]) (rest := []) ⟨hx, hb, hml, hown, hts⟩ (cs_in l D c o σ p0.toInt64 0 (-1)) zT_X12_94 rfl zd_X12_in ⟨Nat.le_of_ble_eq_true rfl, Nat.le_of_ble_eq_true rfl⟩ hK hP hS hl.1 rfl (Nat.le_of_ble_eq_true rfl) ⟨Nat.zero_le _, Nat.zero_le _⟩ dX12_isSet_10 (fun r5 σ6 H locs hw7 hP hS => ?_)
  obtain ⟨er5, rfl⟩ := hw7
  have er5 : r5 = zin3 p0.toInt 0 (-1) := er5.trans (by (try simp only [Int32.toInt_toInt64]); rfl)
  obtain rfl : r5 = 0 := er5.trans (zin3_none _)
  exact zretz (pc := 13) hx hb hr hlocks hP hK hS (by decide) ⟨rfl, rfl⟩ dX12_isSet_13

set_option maxHeartbeats 4000000 in
set_option maxRecDepth 100000 in
theorem nw_X12_isName (l : Launch) (D : va_G) (c : zC) (o : Nat) (σ : zS) (p0 : Int32) (hR : zRef o σ.2.2) (h0 : σ.1 219 0 = 0) : Met l yX12_isName zs_X12_isName (zr 5) (va_Pc [.ref (o + 218), .int p0] (zQ D c o σ)) (va_Qi (fun (r : Int32) (σ1 : zS) => r = 0 ∧ σ = σ1) (zQ D c o) (zA o)) 0 0 (zA o) := by
  refine zMet (by decide) (Nat.le_of_ble_eq_true rfl) ?_
  intro p e s m below meth cd ⟨hx, hb, hr, hml, hown, hts, hlocks⟩ hP hK ls hl
  have hS : va_S (zA o) s.heap s.heap [] := va_S.rf
  have hl : lv_has ls 2 [(0, .ref (o + 218)), (1, .int p0)] := hl
  refine lv_iload_n (pc := 0) hx hb dX12_isName_0 rfl (lv_at hl 1 rfl) ?_
  refine lv_i2l (pc := 1) hx hb dX12_isName_1 rfl ?_
  refine lv_lconst (pc := 2) (v := 0) hx hb dX12_isName_2 (by decide) ?_
  refine lv_aload_n (pc := 3) hx hb dX12_isName_3 rfl (lv_at hl 0 rfl) ?_
  refine zgetR (pc := 4) (k := 218) (j := 1) (a := o + 219) zc12 hx hb hts hown hK hP rfl (by decide) rfl (hR 218 1 rfl) zf_X12_9 dX12_isName_4 ?_
  refine lv_iconst (pc := 7) (v := 0) hx hb dX12_isName_7 (by decide) ?_
  refine ziald (pc := 8) (k := 219) (n := 43) hx hb hK hP rfl (by decide) (vp_in_iff.mpr ⟨by decide, by decide⟩) dX12_isName_8 ?_
  refine lv_topi (pc := 9) (fun v1 ev1 => ?_)
  obtain rfl : v1 = 0 := ev1.trans h0
  refine lv_iconst (pc := 9) (v := 1) hx hb dX12_isName_9 (by decide) ?_
  refine lv_isub (pc := 10) hx hb dX12_isName_10 ?_
  refine lv_topi (pc := 11) (fun v2 ev2 => ?_)
  obtain rfl : v2 = (-1) := ev2.trans (by decide)
  refine lv_i2l (pc := 11) (v := (-1)) hx hb dX12_isName_11 (by decide) ?_
  refine zcallSi (pc := 12) (As := [.long p0.toInt64, .long 0, .long ((-1))]) (rest := []) ⟨hx, hb, hml, hown, hts⟩ (cs_in l D c o σ p0.toInt64 0 (-1)) zT_X12_94 rfl zd_X12_in ⟨Nat.le_of_ble_eq_true rfl, Nat.le_of_ble_eq_true rfl⟩ hK hP hS hl.1 rfl (Nat.le_of_ble_eq_true rfl) ⟨Nat.zero_le _, Nat.zero_le _⟩ dX12_isName_12 (fun r3 σ4 H locs hw5 hP hS => ?_)
  obtain ⟨er3, rfl⟩ := hw5
  have er3 : r3 = zin3 p0.toInt 0 (-1) := er3.trans (by (try simp only [Int32.toInt_toInt64]); rfl)
  obtain rfl : r3 = 0 := er3.trans (zin3_none _)
  exact zretz (pc := 15) hx hb hr hlocks hP hK hS (by decide) ⟨rfl, rfl⟩ dX12_isName_15

set_option maxHeartbeats 4000000 in
set_option maxRecDepth 100000 in
theorem nw_X12_areRegisters (l : Launch) (D : va_G) (c : zC) (o : Nat) (σ : zS) (p0 : Int32) (p1 : Int32) (hR : zRef o σ.2.2) (h0 : σ.1 219 0 = 0) : Met l yX12_areRegisters zs_X12_areRegisters (zr 5) (va_Pc [.ref (o + 218), .int p0, .int p1] (zQ D c o σ)) (va_Qi (fun (r : Int32) (σ1 : zS) => r = 0 ∧ σ = σ1) (zQ D c o) (zA o)) 0 0 (zA o) := by
  refine zMet (by decide) (Nat.le_of_ble_eq_true rfl) ?_
  intro p e s m below meth cd ⟨hx, hb, hr, hml, hown, hts, hlocks⟩ hP hK ls hl
  have hS : va_S (zA o) s.heap s.heap [] := va_S.rf
  have hl : lv_has ls 3 [(0, .ref (o + 218)), (1, .int p0), (2, .int p1)] := hl
  refine lv_aload_n (pc := 0) hx hb dX12_areRegisters_0 rfl (lv_at hl 0 rfl) ?_
  refine lv_iload_n (pc := 1) hx hb dX12_areRegisters_1 rfl (lv_at hl 1 rfl) ?_
  refine zcallVi (pc := 2) (k := 218) (As := [.int p0]) (rest := []) ⟨hx, hb, hml, hown, hts⟩ (nw_X12_isRegister l D c o σ p0 hR h0) zc12 zV_X12_321 rfl zd_X12_isRegister ⟨Nat.le_of_ble_eq_true rfl, Nat.le_of_ble_eq_true rfl⟩ hK hP hS rfl (by decide) hl.1 rfl (Nat.le_of_ble_eq_true rfl) ⟨Nat.zero_le _, Nat.zero_le _⟩ dX12_areRegisters_2 (fun r1 σ2 H locs hw3 hP hS => ?_)
  obtain ⟨rfl, rfl⟩ := hw3
  refine lv_if_eq (pc := 5) (tgt := 20) hx hb dX12_areRegisters_5 (by decide) (fun _ => ?_) (fun c4 => absurd c4 (by decide))
  refine lv_iconst (pc := 20) (v := 0) hx hb dX12_areRegisters_20 (by decide) ?_
  exact zretz (pc := 21) hx hb hr hlocks hP hK hS (by decide) ⟨rfl, rfl⟩ dX12_areRegisters_21

set_option maxHeartbeats 4000000 in
set_option maxRecDepth 100000 in
theorem nw_X12_size (l : Launch) (D : va_G) (c : zC) (o : Nat) (σ : zS) (p0 : Int32) (hR : zRef o σ.2.2) (h0 : σ.1 219 0 = 0) : Met l yX12_size zs_X12_size (zr 8) (va_Pc [.ref (o + 218), .int p0] (zQ D c o σ)) (va_Qi (fun (r : Int32) (σ1 : zS) => r = (-2) ∧ σ = σ1) (zQ D c o) (zA o)) 0 0 (zA o) := by
  refine zMet (by decide) (Nat.le_of_ble_eq_true rfl) ?_
  intro p e s m below meth cd ⟨hx, hb, hr, hml, hown, hts, hlocks⟩ hP hK ls hl
  have hS : va_S (zA o) s.heap s.heap [] := va_S.rf
  have hl : lv_has ls 2 [(0, .ref (o + 218)), (1, .int p0)] := hl
  refine lv_aload_n (pc := 0) hx hb dX12_size_0 rfl (lv_at hl 0 rfl) ?_
  refine lv_iload_n (pc := 1) hx hb dX12_size_1 rfl (lv_at hl 1 rfl) ?_
  refine zcallVi (pc := 2) (k := 218) (As := [.int p0]) (rest := []) ⟨hx, hb, hml, hown, hts⟩ (nw_X12_isRegister l D c o σ p0 hR h0) zc12 zV_X12_321 rfl zd_X12_isRegister ⟨Nat.le_of_ble_eq_true rfl, Nat.le_of_ble_eq_true rfl⟩ hK hP hS rfl (by decide) hl.1 rfl (Nat.le_of_ble_eq_true rfl) ⟨Nat.zero_le _, Nat.zero_le _⟩ dX12_size_2 (fun r1 σ2 H locs hw3 hP hS => ?_)
  obtain ⟨rfl, rfl⟩ := hw3
  refine lv_if_eq (pc := 5) (tgt := 16) hx hb dX12_size_5 (by decide) (fun _ => ?_) (fun c4 => absurd c4 (by decide))
  refine lv_bipush (pc := 16) (v := (-2)) hx hb dX12_size_16 (by decide) ?_
  exact zreti (pc := 18) hx hb hr hlocks hP hK hS ⟨rfl, rfl⟩ dX12_size_18

set_option maxHeartbeats 4000000 in
set_option maxRecDepth 100000 in
theorem nw_X12_has (l : Launch) (D : va_G) (c : zC) (o : Nat) (σ : zS) (p0 : Int32) (p1 : Int32) (hR : zRef o σ.2.2) (h0 : σ.1 219 0 = 0) : Met l yX12_has zs_X12_has (zr 8) (va_Pc [.ref (o + 218), .int p0, .int p1] (zQ D c o σ)) (va_Qi (fun (r : Int32) (σ1 : zS) => r = (-2) ∧ σ = σ1) (zQ D c o) (zA o)) 0 0 (zA o) := by
  refine zMet (by decide) (Nat.le_of_ble_eq_true rfl) ?_
  intro p e s m below meth cd ⟨hx, hb, hr, hml, hown, hts, hlocks⟩ hP hK ls hl
  have hS : va_S (zA o) s.heap s.heap [] := va_S.rf
  have hl : lv_has ls 3 [(0, .ref (o + 218)), (1, .int p0), (2, .int p1)] := hl
  refine lv_aload_n (pc := 0) hx hb dX12_has_0 rfl (lv_at hl 0 rfl) ?_
  refine lv_iload_n (pc := 1) hx hb dX12_has_1 rfl (lv_at hl 1 rfl) ?_
  refine zcallVi (pc := 2) (k := 218) (As := [.int p0]) (rest := []) ⟨hx, hb, hml, hown, hts⟩ (nw_X12_isRegister l D c o σ p0 hR h0) zc12 zV_X12_321 rfl zd_X12_isRegister ⟨Nat.le_of_ble_eq_true rfl, Nat.le_of_ble_eq_true rfl⟩ hK hP hS rfl (by decide) hl.1 rfl (Nat.le_of_ble_eq_true rfl) ⟨Nat.zero_le _, Nat.zero_le _⟩ dX12_has_2 (fun r1 σ2 H locs hw3 hP hS => ?_)
  obtain ⟨rfl, rfl⟩ := hw3
  refine lv_if_eq (pc := 5) (tgt := 33) hx hb dX12_has_5 (by decide) (fun _ => ?_) (fun c4 => absurd c4 (by decide))
  refine lv_bipush (pc := 33) (v := (-2)) hx hb dX12_has_33 (by decide) ?_
  exact zreti (pc := 35) hx hb hr hlocks hP hK hS ⟨rfl, rfl⟩ dX12_has_35

set_option maxHeartbeats 4000000 in
set_option maxRecDepth 100000 in
theorem nw_X12_makes (l : Launch) (D : va_G) (c : zC) (o : Nat) (σ : zS) (p0 : Int32) (p1 : Int32) (p2 : Int32) (p3 : Int32) (hR : zRef o σ.2.2) (h0 : σ.1 219 0 = 0) : Met l yX12_makes zs_X12_makes (zr 8) (va_Pc [.ref (o + 218), .int p0, .int p1, .int p2, .int p3] (zQ D c o σ)) (va_Qi (fun (r : Int32) (σ1 : zS) => r = (-2) ∧ σ = σ1) (zQ D c o) (zA o)) 0 0 (zA o) := by
  refine zMet (by decide) (Nat.le_of_ble_eq_true rfl) ?_
  intro p e s m below meth cd ⟨hx, hb, hr, hml, hown, hts, hlocks⟩ hP hK ls hl
  have hS : va_S (zA o) s.heap s.heap [] := va_S.rf
  have hl : lv_has ls 5 [(0, .ref (o + 218)), (1, .int p0), (2, .int p1), (3, .int p2), (4, .int p3)] := hl
  refine lv_aload_n (pc := 0) hx hb dX12_makes_0 rfl (lv_at hl 0 rfl) ?_
  refine lv_iload_n (pc := 1) hx hb dX12_makes_1 rfl (lv_at hl 1 rfl) ?_
  refine zcallVi (pc := 2) (k := 218) (As := [.int p0]) (rest := []) ⟨hx, hb, hml, hown, hts⟩ (nw_X12_isRegister l D c o σ p0 hR h0) zc12 zV_X12_321 rfl zd_X12_isRegister ⟨Nat.le_of_ble_eq_true rfl, Nat.le_of_ble_eq_true rfl⟩ hK hP hS rfl (by decide) hl.1 rfl (Nat.le_of_ble_eq_true rfl) ⟨Nat.zero_le _, Nat.zero_le _⟩ dX12_makes_2 (fun r1 σ2 H locs hw3 hP hS => ?_)
  obtain ⟨rfl, rfl⟩ := hw3
  refine lv_if_eq (pc := 5) (tgt := 37) hx hb dX12_makes_5 (by decide) (fun _ => ?_) (fun c4 => absurd c4 (by decide))
  refine lv_bipush (pc := 37) (v := (-2)) hx hb dX12_makes_37 (by decide) ?_
  exact zreti (pc := 39) hx hb hr hlocks hP hK hS ⟨rfl, rfl⟩ dX12_makes_39

set_option maxHeartbeats 4000000 in
set_option maxRecDepth 100000 in
theorem nw_X12_turn (l : Launch) (D : va_G) (c : zC) (o : Nat) (σ : zS) (p0 : Int32) (p1 : Int32) (p2 : Int32) (hR : zRef o σ.2.2) (h0 : σ.1 219 0 = 0) : Met l yX12_turn zs_X12_turn (zr 8) (va_Pc [.ref (o + 218), .int p0, .int p1, .int p2] (zQ D c o σ)) (va_Qi (fun (r : Int32) (σ1 : zS) => r = (-2) ∧ σ = σ1) (zQ D c o) (zA o)) 0 0 (zA o) := by
  refine zMet (by decide) (Nat.le_of_ble_eq_true rfl) ?_
  intro p e s m below meth cd ⟨hx, hb, hr, hml, hown, hts, hlocks⟩ hP hK ls hl
  have hS : va_S (zA o) s.heap s.heap [] := va_S.rf
  have hl : lv_has ls 4 [(0, .ref (o + 218)), (1, .int p0), (2, .int p1), (3, .int p2)] := hl
  refine lv_aload_n (pc := 0) hx hb dX12_turn_0 rfl (lv_at hl 0 rfl) ?_
  refine lv_iload_n (pc := 1) hx hb dX12_turn_1 rfl (lv_at hl 1 rfl) ?_
  refine zcallVi (pc := 2) (k := 218) (As := [.int p0]) (rest := []) ⟨hx, hb, hml, hown, hts⟩ (nw_X12_isRegister l D c o σ p0 hR h0) zc12 zV_X12_321 rfl zd_X12_isRegister ⟨Nat.le_of_ble_eq_true rfl, Nat.le_of_ble_eq_true rfl⟩ hK hP hS rfl (by decide) hl.1 rfl (Nat.le_of_ble_eq_true rfl) ⟨Nat.zero_le _, Nat.zero_le _⟩ dX12_turn_2 (fun r1 σ2 H locs hw3 hP hS => ?_)
  obtain ⟨rfl, rfl⟩ := hw3
  refine lv_if_eq (pc := 5) (tgt := 28) hx hb dX12_turn_5 (by decide) (fun _ => ?_) (fun c4 => absurd c4 (by decide))
  refine lv_bipush (pc := 28) (v := (-2)) hx hb dX12_turn_28 (by decide) ?_
  exact zreti (pc := 30) hx hb hr hlocks hP hK hS ⟨rfl, rfl⟩ dX12_turn_30

set_option maxHeartbeats 4000000 in
set_option maxRecDepth 100000 in
theorem nw_X12_sets (l : Launch) (D : va_G) (c : zC) (o : Nat) (σ : zS) (p0 : Int32) (p1 : Int32) (p2 : Int32) (hR : zRef o σ.2.2) (h0 : σ.1 219 0 = 0) : Met l yX12_sets zs_X12_sets (zr 8) (va_Pc [.ref (o + 218), .int p0, .int p1, .int p2] (zQ D c o σ)) (va_Qi (fun (r : Int32) (σ1 : zS) => r = (-2) ∧ σ = σ1) (zQ D c o) (zA o)) 0 0 (zA o) := by
  refine zMet (by decide) (Nat.le_of_ble_eq_true rfl) ?_
  intro p e s m below meth cd ⟨hx, hb, hr, hml, hown, hts, hlocks⟩ hP hK ls hl
  have hS : va_S (zA o) s.heap s.heap [] := va_S.rf
  have hl : lv_has ls 5 [(0, .ref (o + 218)), (1, .int p0), (2, .int p1), (3, .int p2)] := hl
  refine lv_aload_n (pc := 0) hx hb dX12_sets_0 rfl (lv_at hl 0 rfl) ?_
  refine lv_iload_n (pc := 1) hx hb dX12_sets_1 rfl (lv_at hl 1 rfl) ?_
  refine zcallVi (pc := 2) (k := 218) (As := [.int p0]) (rest := []) ⟨hx, hb, hml, hown, hts⟩ (nw_X12_isRegister l D c o σ p0 hR h0) zc12 zV_X12_321 rfl zd_X12_isRegister ⟨Nat.le_of_ble_eq_true rfl, Nat.le_of_ble_eq_true rfl⟩ hK hP hS rfl (by decide) hl.1 rfl (Nat.le_of_ble_eq_true rfl) ⟨Nat.zero_le _, Nat.zero_le _⟩ dX12_sets_2 (fun r1 σ2 H locs hw3 hP hS => ?_)
  obtain ⟨rfl, rfl⟩ := hw3
  refine lv_if_eq (pc := 5) (tgt := 16) hx hb dX12_sets_5 (by decide) (fun _ => ?_) (fun c4 => absurd c4 (by decide))
  refine lv_bipush (pc := 16) (v := (-2)) hx hb dX12_sets_16 (by decide) ?_
  exact zreti (pc := 18) hx hb hr hlocks hP hK hS ⟨rfl, rfl⟩ dX12_sets_18

set_option maxHeartbeats 4000000 in
set_option maxRecDepth 100000 in
theorem nw_X12_change (l : Launch) (D : va_G) (c : zC) (o : Nat) (σ : zS) (p0 : Int32) (p1 : Int32) (p2 : Int32) (hR : zRef o σ.2.2) (h0 : σ.1 219 0 = 0) : Met l yX12_change zs_X12_change (zr 8) (va_Pc [.ref (o + 218), .int p0, .int p1, .int p2] (zQ D c o σ)) (va_Qi (fun (r : Int32) (σ1 : zS) => r = (-2) ∧ σ = σ1) (zQ D c o) (zA o)) 0 0 (zA o) := by
  refine zMet (by decide) (Nat.le_of_ble_eq_true rfl) ?_
  intro p e s m below meth cd ⟨hx, hb, hr, hml, hown, hts, hlocks⟩ hP hK ls hl
  have hS : va_S (zA o) s.heap s.heap [] := va_S.rf
  have hl : lv_has ls 5 [(0, .ref (o + 218)), (1, .int p0), (2, .int p1), (3, .int p2)] := hl
  refine lv_aload_n (pc := 0) hx hb dX12_change_0 rfl (lv_at hl 0 rfl) ?_
  refine lv_iload_n (pc := 1) hx hb dX12_change_1 rfl (lv_at hl 1 rfl) ?_
  refine zcallVi (pc := 2) (k := 218) (As := [.int p0]) (rest := []) ⟨hx, hb, hml, hown, hts⟩ (nw_X12_isRegister l D c o σ p0 hR h0) zc12 zV_X12_321 rfl zd_X12_isRegister ⟨Nat.le_of_ble_eq_true rfl, Nat.le_of_ble_eq_true rfl⟩ hK hP hS rfl (by decide) hl.1 rfl (Nat.le_of_ble_eq_true rfl) ⟨Nat.zero_le _, Nat.zero_le _⟩ dX12_change_2 (fun r1 σ2 H locs hw3 hP hS => ?_)
  obtain ⟨rfl, rfl⟩ := hw3
  refine lv_if_eq (pc := 5) (tgt := 24) hx hb dX12_change_5 (by decide) (fun _ => ?_) (fun c4 => absurd c4 (by decide))
  refine lv_bipush (pc := 24) (v := (-2)) hx hb dX12_change_24 (by decide) ?_
  exact zreti (pc := 26) hx hb hr hlocks hP hK hS ⟨rfl, rfl⟩ dX12_change_26

set_option maxHeartbeats 4000000 in
set_option maxRecDepth 100000 in
theorem nw_X12_half (l : Launch) (D : va_G) (c : zC) (o : Nat) (σ : zS) (p0 : Int32) (p1 : Int32) (p2 : Int32) (p3 : Int32) (hR : zRef o σ.2.2) (h0 : σ.1 219 0 = 0) : Met l yX12_half zs_X12_half (zr 8) (va_Pc [.ref (o + 218), .int p0, .int p1, .int p2, .int p3] (zQ D c o σ)) (va_Qi (fun (r : Int32) (σ1 : zS) => r = (-2) ∧ σ = σ1) (zQ D c o) (zA o)) 0 0 (zA o) := by
  refine zMet (by decide) (Nat.le_of_ble_eq_true rfl) ?_
  intro p e s m below meth cd ⟨hx, hb, hr, hml, hown, hts, hlocks⟩ hP hK ls hl
  have hS : va_S (zA o) s.heap s.heap [] := va_S.rf
  have hl : lv_has ls 7 [(0, .ref (o + 218)), (1, .int p0), (2, .int p1), (3, .int p2), (4, .int p3)] := hl
  refine lv_aload_n (pc := 0) hx hb dX12_half_0 rfl (lv_at hl 0 rfl) ?_
  refine lv_iload_n (pc := 1) hx hb dX12_half_1 rfl (lv_at hl 1 rfl) ?_
  refine zcallVi (pc := 2) (k := 218) (As := [.int p0]) (rest := []) ⟨hx, hb, hml, hown, hts⟩ (nw_X12_isRegister l D c o σ p0 hR h0) zc12 zV_X12_321 rfl zd_X12_isRegister ⟨Nat.le_of_ble_eq_true rfl, Nat.le_of_ble_eq_true rfl⟩ hK hP hS rfl (by decide) hl.1 rfl (Nat.le_of_ble_eq_true rfl) ⟨Nat.zero_le _, Nat.zero_le _⟩ dX12_half_2 (fun r1 σ2 H locs hw3 hP hS => ?_)
  obtain ⟨rfl, rfl⟩ := hw3
  refine lv_if_eq (pc := 5) (tgt := 24) hx hb dX12_half_5 (by decide) (fun _ => ?_) (fun c4 => absurd c4 (by decide))
  refine lv_bipush (pc := 24) (v := (-2)) hx hb dX12_half_24 (by decide) ?_
  exact zreti (pc := 26) hx hb hr hlocks hP hK hS ⟨rfl, rfl⟩ dX12_half_26

set_option maxHeartbeats 4000000 in
set_option maxRecDepth 100000 in
theorem nw_X12_level (l : Launch) (D : va_G) (c : zC) (o : Nat) (σ : zS) (p0 : Int32) (p1 : Int32) (p2 : Int32) (hR : zRef o σ.2.2) (h0 : σ.1 219 0 = 0) : Met l yX12_level zs_X12_level (zr 8) (va_Pc [.ref (o + 218), .int p0, .int p1, .int p2] (zQ D c o σ)) (va_Qi (fun (r : Int32) (σ1 : zS) => r = (-2) ∧ σ = σ1) (zQ D c o) (zA o)) 0 0 (zA o) := by
  refine zMet (by decide) (Nat.le_of_ble_eq_true rfl) ?_
  intro p e s m below meth cd ⟨hx, hb, hr, hml, hown, hts, hlocks⟩ hP hK ls hl
  have hS : va_S (zA o) s.heap s.heap [] := va_S.rf
  have hl : lv_has ls 5 [(0, .ref (o + 218)), (1, .int p0), (2, .int p1), (3, .int p2)] := hl
  refine lv_aload_n (pc := 0) hx hb dX12_level_0 rfl (lv_at hl 0 rfl) ?_
  refine lv_iload_n (pc := 1) hx hb dX12_level_1 rfl (lv_at hl 1 rfl) ?_
  refine zcallVi (pc := 2) (k := 218) (As := [.int p0]) (rest := []) ⟨hx, hb, hml, hown, hts⟩ (nw_X12_isRegister l D c o σ p0 hR h0) zc12 zV_X12_321 rfl zd_X12_isRegister ⟨Nat.le_of_ble_eq_true rfl, Nat.le_of_ble_eq_true rfl⟩ hK hP hS rfl (by decide) hl.1 rfl (Nat.le_of_ble_eq_true rfl) ⟨Nat.zero_le _, Nat.zero_le _⟩ dX12_level_2 (fun r1 σ2 H locs hw3 hP hS => ?_)
  obtain ⟨rfl, rfl⟩ := hw3
  refine lv_if_eq (pc := 5) (tgt := 28) hx hb dX12_level_5 (by decide) (fun _ => ?_) (fun c4 => absurd c4 (by decide))
  refine lv_bipush (pc := 28) (v := (-2)) hx hb dX12_level_28 (by decide) ?_
  exact zreti (pc := 30) hx hb hr hlocks hP hK hS ⟨rfl, rfl⟩ dX12_level_30

set_option maxHeartbeats 4000000 in
set_option maxRecDepth 100000 in
theorem nw_X12_nth (l : Launch) (D : va_G) (c : zC) (o : Nat) (σ : zS) (p0 : Int32) (p1 : Int32) (hR : zRef o σ.2.2) (h0 : σ.1 219 0 = 0) : Met l yX12_nth zs_X12_nth (zr 8) (va_Pc [.ref (o + 218), .int p0, .int p1] (zQ D c o σ)) (va_Qi (fun (r : Int32) (σ1 : zS) => r = (-2) ∧ σ = σ1) (zQ D c o) (zA o)) 0 0 (zA o) := by
  refine zMet (by decide) (Nat.le_of_ble_eq_true rfl) ?_
  intro p e s m below meth cd ⟨hx, hb, hr, hml, hown, hts, hlocks⟩ hP hK ls hl
  have hS : va_S (zA o) s.heap s.heap [] := va_S.rf
  have hl : lv_has ls 3 [(0, .ref (o + 218)), (1, .int p0), (2, .int p1)] := hl
  refine lv_aload_n (pc := 0) hx hb dX12_nth_0 rfl (lv_at hl 0 rfl) ?_
  refine lv_iload_n (pc := 1) hx hb dX12_nth_1 rfl (lv_at hl 1 rfl) ?_
  refine zcallVi (pc := 2) (k := 218) (As := [.int p0]) (rest := []) ⟨hx, hb, hml, hown, hts⟩ (nw_X12_isRegister l D c o σ p0 hR h0) zc12 zV_X12_321 rfl zd_X12_isRegister ⟨Nat.le_of_ble_eq_true rfl, Nat.le_of_ble_eq_true rfl⟩ hK hP hS rfl (by decide) hl.1 rfl (Nat.le_of_ble_eq_true rfl) ⟨Nat.zero_le _, Nat.zero_le _⟩ dX12_nth_2 (fun r1 σ2 H locs hw3 hP hS => ?_)
  obtain ⟨rfl, rfl⟩ := hw3
  refine lv_if_eq (pc := 5) (tgt := 17) hx hb dX12_nth_5 (by decide) (fun _ => ?_) (fun c4 => absurd c4 (by decide))
  refine lv_bipush (pc := 17) (v := (-2)) hx hb dX12_nth_17 (by decide) ?_
  exact zreti (pc := 19) hx hb hr hlocks hP hK hS ⟨rfl, rfl⟩ dX12_nth_19

set_option maxHeartbeats 4000000 in
set_option maxRecDepth 100000 in
theorem nw_X12_rank_ (l : Launch) (D : va_G) (c : zC) (o : Nat) (σ : zS) (p0 : Int32) (p1 : Int32) (hR : zRef o σ.2.2) (h0 : σ.1 219 0 = 0) : Met l yX12_rank_ zs_X12_rank_ (zr 8) (va_Pc [.ref (o + 218), .int p0, .int p1] (zQ D c o σ)) (va_Qi (fun (r : Int32) (σ1 : zS) => r = (-2) ∧ σ = σ1) (zQ D c o) (zA o)) 0 0 (zA o) := by
  refine zMet (by decide) (Nat.le_of_ble_eq_true rfl) ?_
  intro p e s m below meth cd ⟨hx, hb, hr, hml, hown, hts, hlocks⟩ hP hK ls hl
  have hS : va_S (zA o) s.heap s.heap [] := va_S.rf
  have hl : lv_has ls 5 [(0, .ref (o + 218)), (1, .int p0), (2, .int p1)] := hl
  refine lv_aload_n (pc := 0) hx hb dX12_rank__0 rfl (lv_at hl 0 rfl) ?_
  refine lv_iload_n (pc := 1) hx hb dX12_rank__1 rfl (lv_at hl 1 rfl) ?_
  refine zcallVi (pc := 2) (k := 218) (As := [.int p0]) (rest := []) ⟨hx, hb, hml, hown, hts⟩ (nw_X12_isRegister l D c o σ p0 hR h0) zc12 zV_X12_321 rfl zd_X12_isRegister ⟨Nat.le_of_ble_eq_true rfl, Nat.le_of_ble_eq_true rfl⟩ hK hP hS rfl (by decide) hl.1 rfl (Nat.le_of_ble_eq_true rfl) ⟨Nat.zero_le _, Nat.zero_le _⟩ dX12_rank__2 (fun r1 σ2 H locs hw3 hP hS => ?_)
  obtain ⟨rfl, rfl⟩ := hw3
  refine lv_if_eq (pc := 5) (tgt := 16) hx hb dX12_rank__5 (by decide) (fun _ => ?_) (fun c4 => absurd c4 (by decide))
  refine lv_bipush (pc := 16) (v := (-2)) hx hb dX12_rank__16 (by decide) ?_
  exact zreti (pc := 18) hx hb hr hlocks hP hK hS ⟨rfl, rfl⟩ dX12_rank__18

set_option maxHeartbeats 4000000 in
set_option maxRecDepth 100000 in
theorem nw_X12_light (l : Launch) (D : va_G) (c : zC) (o : Nat) (σ : zS) (p0 : Int32) (p1 : Int32) (hR : zRef o σ.2.2) (h0 : σ.1 219 0 = 0) : Met l yX12_light zs_X12_light (zr 8) (va_Pc [.ref (o + 218), .int p0, .int p1] (zQ D c o σ)) (va_Qi (fun (r : Int32) (σ1 : zS) => r = (-2) ∧ σ = σ1) (zQ D c o) (zA o)) 0 0 (zA o) := by
  refine zMet (by decide) (Nat.le_of_ble_eq_true rfl) ?_
  intro p e s m below meth cd ⟨hx, hb, hr, hml, hown, hts, hlocks⟩ hP hK ls hl
  have hS : va_S (zA o) s.heap s.heap [] := va_S.rf
  have hl : lv_has ls 6 [(0, .ref (o + 218)), (1, .int p0), (2, .int p1)] := hl
  refine lv_aload_n (pc := 0) hx hb dX12_light_0 rfl (lv_at hl 0 rfl) ?_
  refine lv_iload_n (pc := 1) hx hb dX12_light_1 rfl (lv_at hl 1 rfl) ?_
  refine zcallVi (pc := 2) (k := 218) (As := [.int p0]) (rest := []) ⟨hx, hb, hml, hown, hts⟩ (nw_X12_isRegister l D c o σ p0 hR h0) zc12 zV_X12_321 rfl zd_X12_isRegister ⟨Nat.le_of_ble_eq_true rfl, Nat.le_of_ble_eq_true rfl⟩ hK hP hS rfl (by decide) hl.1 rfl (Nat.le_of_ble_eq_true rfl) ⟨Nat.zero_le _, Nat.zero_le _⟩ dX12_light_2 (fun r1 σ2 H locs hw3 hP hS => ?_)
  obtain ⟨rfl, rfl⟩ := hw3
  refine lv_if_ne (pc := 5) (tgt := 11) hx hb dX12_light_5 (by decide) (fun c4 => absurd c4 (by decide)) (fun _ => ?_)
  refine lv_bipush (pc := 8) (v := (-2)) hx hb dX12_light_8 (by decide) ?_
  exact zreti (pc := 10) hx hb hr hlocks hP hK hS ⟨rfl, rfl⟩ dX12_light_10

set_option maxHeartbeats 4000000 in
set_option maxRecDepth 100000 in
theorem nw_X12_weight (l : Launch) (D : va_G) (c : zC) (o : Nat) (σ : zS) (p0 : Int32) (hR : zRef o σ.2.2) (h0 : σ.1 219 0 = 0) : Met l yX12_weight zs_X12_weight (zr 8) (va_Pc [.ref (o + 218), .int p0] (zQ D c o σ)) (va_Qi (fun (r : Int32) (σ1 : zS) => r = (-2) ∧ σ = σ1) (zQ D c o) (zA o)) 0 0 (zA o) := by
  refine zMet (by decide) (Nat.le_of_ble_eq_true rfl) ?_
  intro p e s m below meth cd ⟨hx, hb, hr, hml, hown, hts, hlocks⟩ hP hK ls hl
  have hS : va_S (zA o) s.heap s.heap [] := va_S.rf
  have hl : lv_has ls 2 [(0, .ref (o + 218)), (1, .int p0)] := hl
  refine lv_aload_n (pc := 0) hx hb dX12_weight_0 rfl (lv_at hl 0 rfl) ?_
  refine lv_iload_n (pc := 1) hx hb dX12_weight_1 rfl (lv_at hl 1 rfl) ?_
  refine zcallVi (pc := 2) (k := 218) (As := [.int p0]) (rest := []) ⟨hx, hb, hml, hown, hts⟩ (nw_X12_isSet l D c o σ p0 hR h0) zc12 zV_X12_327 rfl zd_X12_isSet ⟨Nat.le_of_ble_eq_true rfl, Nat.le_of_ble_eq_true rfl⟩ hK hP hS rfl (by decide) hl.1 rfl (Nat.le_of_ble_eq_true rfl) ⟨Nat.zero_le _, Nat.zero_le _⟩ dX12_weight_2 (fun r1 σ2 H locs hw3 hP hS => ?_)
  obtain ⟨rfl, rfl⟩ := hw3
  refine lv_if_eq (pc := 5) (tgt := 16) hx hb dX12_weight_5 (by decide) (fun _ => ?_) (fun c4 => absurd c4 (by decide))
  refine lv_bipush (pc := 16) (v := (-2)) hx hb dX12_weight_16 (by decide) ?_
  exact zreti (pc := 18) hx hb hr hlocks hP hK hS ⟨rfl, rfl⟩ dX12_weight_18

set_option maxHeartbeats 4000000 in
set_option maxRecDepth 100000 in
theorem nw_X12_weigh (l : Launch) (D : va_G) (c : zC) (o : Nat) (σ : zS) (p0 : Int32) (p1 : Int32) (hR : zRef o σ.2.2) (h0 : σ.1 219 0 = 0) : Met l yX12_weigh zs_X12_weigh (zr 8) (va_Pc [.ref (o + 218), .int p0, .int p1] (zQ D c o σ)) (va_Qi (fun (r : Int32) (σ1 : zS) => r = (-2) ∧ σ = σ1) (zQ D c o) (zA o)) 0 0 (zA o) := by
  refine zMet (by decide) (Nat.le_of_ble_eq_true rfl) ?_
  intro p e s m below meth cd ⟨hx, hb, hr, hml, hown, hts, hlocks⟩ hP hK ls hl
  have hS : va_S (zA o) s.heap s.heap [] := va_S.rf
  have hl : lv_has ls 4 [(0, .ref (o + 218)), (1, .int p0), (2, .int p1)] := hl
  refine lv_aload_n (pc := 0) hx hb dX12_weigh_0 rfl (lv_at hl 0 rfl) ?_
  refine lv_iload_n (pc := 1) hx hb dX12_weigh_1 rfl (lv_at hl 1 rfl) ?_
  refine zcallVi (pc := 2) (k := 218) (As := [.int p0]) (rest := []) ⟨hx, hb, hml, hown, hts⟩ (nw_X12_isName l D c o σ p0 hR h0) zc12 zV_X12_332 rfl zd_X12_isName ⟨Nat.le_of_ble_eq_true rfl, Nat.le_of_ble_eq_true rfl⟩ hK hP hS rfl (by decide) hl.1 rfl (Nat.le_of_ble_eq_true rfl) ⟨Nat.zero_le _, Nat.zero_le _⟩ dX12_weigh_2 (fun r1 σ2 H locs hw3 hP hS => ?_)
  obtain ⟨rfl, rfl⟩ := hw3
  refine lv_if_eq (pc := 5) (tgt := 20) hx hb dX12_weigh_5 (by decide) (fun _ => ?_) (fun c4 => absurd c4 (by decide))
  refine lv_bipush (pc := 20) (v := (-2)) hx hb dX12_weigh_20 (by decide) ?_
  exact zreti (pc := 22) hx hb hr hlocks hP hK hS ⟨rfl, rfl⟩ dX12_weigh_22

set_option maxHeartbeats 4000000 in
set_option maxRecDepth 100000 in
theorem nw_X12_weighs (l : Launch) (D : va_G) (c : zC) (o : Nat) (σ : zS) (p0 : Int32) (p1 : Int32) (hR : zRef o σ.2.2) (h0 : σ.1 219 0 = 0) : Met l yX12_weighs zs_X12_weighs (zr 8) (va_Pc [.ref (o + 218), .int p0, .int p1] (zQ D c o σ)) (va_Qi (fun (r : Int32) (σ1 : zS) => r = (-2) ∧ σ = σ1) (zQ D c o) (zA o)) 0 0 (zA o) := by
  refine zMet (by decide) (Nat.le_of_ble_eq_true rfl) ?_
  intro p e s m below meth cd ⟨hx, hb, hr, hml, hown, hts, hlocks⟩ hP hK ls hl
  have hS : va_S (zA o) s.heap s.heap [] := va_S.rf
  have hl : lv_has ls 8 [(0, .ref (o + 218)), (1, .int p0), (2, .int p1)] := hl
  refine lv_aload_n (pc := 0) hx hb dX12_weighs_0 rfl (lv_at hl 0 rfl) ?_
  refine lv_iload_n (pc := 1) hx hb dX12_weighs_1 rfl (lv_at hl 1 rfl) ?_
  refine zcallVi (pc := 2) (k := 218) (As := [.int p0]) (rest := []) ⟨hx, hb, hml, hown, hts⟩ (nw_X12_isRegister l D c o σ p0 hR h0) zc12 zV_X12_321 rfl zd_X12_isRegister ⟨Nat.le_of_ble_eq_true rfl, Nat.le_of_ble_eq_true rfl⟩ hK hP hS rfl (by decide) hl.1 rfl (Nat.le_of_ble_eq_true rfl) ⟨Nat.zero_le _, Nat.zero_le _⟩ dX12_weighs_2 (fun r1 σ2 H locs hw3 hP hS => ?_)
  obtain ⟨rfl, rfl⟩ := hw3
  refine lv_if_eq (pc := 5) (tgt := 20) hx hb dX12_weighs_5 (by decide) (fun _ => ?_) (fun c4 => absurd c4 (by decide))
  refine lv_bipush (pc := 20) (v := (-2)) hx hb dX12_weighs_20 (by decide) ?_
  exact zreti (pc := 22) hx hb hr hlocks hP hK hS ⟨rfl, rfl⟩ dX12_weighs_22

set_option maxHeartbeats 4000000 in
set_option maxRecDepth 100000 in
theorem nw_X12_each (l : Launch) (D : va_G) (c : zC) (o : Nat) (σ : zS) (p0 : Int32) (p1 : Int32) (hR : zRef o σ.2.2) (h0 : σ.1 219 0 = 0) : Met l yX12_each zs_X12_each (zr 8) (va_Pc [.ref (o + 218), .int p0, .int p1] (zQ D c o σ)) (va_Qi (fun (r : Int32) (σ1 : zS) => r = (-2) ∧ σ = σ1) (zQ D c o) (zA o)) 0 0 (zA o) := by
  refine zMet (by decide) (Nat.le_of_ble_eq_true rfl) ?_
  intro p e s m below meth cd ⟨hx, hb, hr, hml, hown, hts, hlocks⟩ hP hK ls hl
  have hS : va_S (zA o) s.heap s.heap [] := va_S.rf
  have hl : lv_has ls 5 [(0, .ref (o + 218)), (1, .int p0), (2, .int p1)] := hl
  refine lv_aload_n (pc := 0) hx hb dX12_each_0 rfl (lv_at hl 0 rfl) ?_
  refine lv_iload_n (pc := 1) hx hb dX12_each_1 rfl (lv_at hl 1 rfl) ?_
  refine zcallVi (pc := 2) (k := 218) (As := [.int p0]) (rest := []) ⟨hx, hb, hml, hown, hts⟩ (nw_X12_isRegister l D c o σ p0 hR h0) zc12 zV_X12_321 rfl zd_X12_isRegister ⟨Nat.le_of_ble_eq_true rfl, Nat.le_of_ble_eq_true rfl⟩ hK hP hS rfl (by decide) hl.1 rfl (Nat.le_of_ble_eq_true rfl) ⟨Nat.zero_le _, Nat.zero_le _⟩ dX12_each_2 (fun r1 σ2 H locs hw3 hP hS => ?_)
  obtain ⟨rfl, rfl⟩ := hw3
  refine lv_if_eq (pc := 5) (tgt := 16) hx hb dX12_each_5 (by decide) (fun _ => ?_) (fun c4 => absurd c4 (by decide))
  refine lv_bipush (pc := 16) (v := (-2)) hx hb dX12_each_16 (by decide) ?_
  exact zreti (pc := 18) hx hb hr hlocks hP hK hS ⟨rfl, rfl⟩ dX12_each_18

set_option maxHeartbeats 4000000 in
set_option maxRecDepth 100000 in
theorem nw_X12_names (l : Launch) (D : va_G) (c : zC) (o : Nat) (σ : zS) (p0 : Int32) (p1 : Int32) (hR : zRef o σ.2.2) (h0 : σ.1 219 0 = 0) : Met l yX12_names zs_X12_names (zr 8) (va_Pc [.ref (o + 218), .int p0, .int p1] (zQ D c o σ)) (va_Qi (fun (r : Int32) (σ1 : zS) => r = (-2) ∧ σ = σ1) (zQ D c o) (zA o)) 0 0 (zA o) := by
  refine zMet (by decide) (Nat.le_of_ble_eq_true rfl) ?_
  intro p e s m below meth cd ⟨hx, hb, hr, hml, hown, hts, hlocks⟩ hP hK ls hl
  have hS : va_S (zA o) s.heap s.heap [] := va_S.rf
  have hl : lv_has ls 8 [(0, .ref (o + 218)), (1, .int p0), (2, .int p1)] := hl
  refine lv_aload_n (pc := 0) hx hb dX12_names_0 rfl (lv_at hl 0 rfl) ?_
  refine lv_iload_n (pc := 1) hx hb dX12_names_1 rfl (lv_at hl 1 rfl) ?_
  refine zcallVi (pc := 2) (k := 218) (As := [.int p0]) (rest := []) ⟨hx, hb, hml, hown, hts⟩ (nw_X12_isRegister l D c o σ p0 hR h0) zc12 zV_X12_321 rfl zd_X12_isRegister ⟨Nat.le_of_ble_eq_true rfl, Nat.le_of_ble_eq_true rfl⟩ hK hP hS rfl (by decide) hl.1 rfl (Nat.le_of_ble_eq_true rfl) ⟨Nat.zero_le _, Nat.zero_le _⟩ dX12_names_2 (fun r1 σ2 H locs hw3 hP hS => ?_)
  obtain ⟨rfl, rfl⟩ := hw3
  refine lv_if_eq (pc := 5) (tgt := 20) hx hb dX12_names_5 (by decide) (fun _ => ?_) (fun c4 => absurd c4 (by decide))
  refine lv_bipush (pc := 20) (v := (-2)) hx hb dX12_names_20 (by decide) ?_
  exact zreti (pc := 22) hx hb hr hlocks hP hK hS ⟨rfl, rfl⟩ dX12_names_22

set_option maxHeartbeats 4000000 in
set_option maxRecDepth 100000 in
theorem nw_X12_draw (l : Launch) (D : va_G) (c : zC) (o : Nat) (σ : zS) (p0 : Int32) (p1 : Int32) (hR : zRef o σ.2.2) (h0 : σ.1 219 0 = 0) : Met l yX12_draw zs_X12_draw (zr 8) (va_Pc [.ref (o + 218), .int p0, .int p1] (zQ D c o σ)) (va_Qi (fun (r : Int32) (σ1 : zS) => r = (-2) ∧ σ = σ1) (zQ D c o) (zA o)) 0 0 (zA o) := by
  refine zMet (by decide) (Nat.le_of_ble_eq_true rfl) ?_
  intro p e s m below meth cd ⟨hx, hb, hr, hml, hown, hts, hlocks⟩ hP hK ls hl
  have hS : va_S (zA o) s.heap s.heap [] := va_S.rf
  have hl : lv_has ls 6 [(0, .ref (o + 218)), (1, .int p0), (2, .int p1)] := hl
  refine lv_aload_n (pc := 0) hx hb dX12_draw_0 rfl (lv_at hl 0 rfl) ?_
  refine lv_iload_n (pc := 1) hx hb dX12_draw_1 rfl (lv_at hl 1 rfl) ?_
  refine zcallVi (pc := 2) (k := 218) (As := [.int p0]) (rest := []) ⟨hx, hb, hml, hown, hts⟩ (nw_X12_isRegister l D c o σ p0 hR h0) zc12 zV_X12_321 rfl zd_X12_isRegister ⟨Nat.le_of_ble_eq_true rfl, Nat.le_of_ble_eq_true rfl⟩ hK hP hS rfl (by decide) hl.1 rfl (Nat.le_of_ble_eq_true rfl) ⟨Nat.zero_le _, Nat.zero_le _⟩ dX12_draw_2 (fun r1 σ2 H locs hw3 hP hS => ?_)
  obtain ⟨rfl, rfl⟩ := hw3
  refine lv_if_eq (pc := 5) (tgt := 20) hx hb dX12_draw_5 (by decide) (fun _ => ?_) (fun c4 => absurd c4 (by decide))
  refine lv_bipush (pc := 20) (v := (-2)) hx hb dX12_draw_20 (by decide) ?_
  exact zreti (pc := 22) hx hb hr hlocks hP hK hS ⟨rfl, rfl⟩ dX12_draw_22

set_option maxHeartbeats 4000000 in
set_option maxRecDepth 100000 in
theorem nw_X12_alike (l : Launch) (D : va_G) (c : zC) (o : Nat) (σ : zS) (p0 : Int32) (p1 : Int32) (hR : zRef o σ.2.2) (h0 : σ.1 219 0 = 0) : Met l yX12_alike zs_X12_alike (zr 8) (va_Pc [.ref (o + 218), .int p0, .int p1] (zQ D c o σ)) (va_Qi (fun (r : Int32) (σ1 : zS) => r = (-2) ∧ σ = σ1) (zQ D c o) (zA o)) 0 0 (zA o) := by
  refine zMet (by decide) (Nat.le_of_ble_eq_true rfl) ?_
  intro p e s m below meth cd ⟨hx, hb, hr, hml, hown, hts, hlocks⟩ hP hK ls hl
  have hS : va_S (zA o) s.heap s.heap [] := va_S.rf
  have hl : lv_has ls 3 [(0, .ref (o + 218)), (1, .int p0), (2, .int p1)] := hl
  refine lv_aload_n (pc := 0) hx hb dX12_alike_0 rfl (lv_at hl 0 rfl) ?_
  refine lv_iload_n (pc := 1) hx hb dX12_alike_1 rfl (lv_at hl 1 rfl) ?_
  refine lv_iload_n (pc := 2) hx hb dX12_alike_2 rfl (lv_at hl 2 rfl) ?_
  refine zcallVi (pc := 3) (k := 218) (As := [.int p0, .int p1]) (rest := []) ⟨hx, hb, hml, hown, hts⟩ (nw_X12_areRegisters l D c o σ p0 p1 hR h0) zc12 zV_X12_360 rfl zd_X12_areRegisters ⟨Nat.le_of_ble_eq_true rfl, Nat.le_of_ble_eq_true rfl⟩ hK hP hS rfl (by decide) hl.1 rfl (Nat.le_of_ble_eq_true rfl) ⟨Nat.zero_le _, Nat.zero_le _⟩ dX12_alike_3 (fun r1 σ2 H locs hw3 hP hS => ?_)
  obtain ⟨rfl, rfl⟩ := hw3
  refine lv_if_eq (pc := 6) (tgt := 27) hx hb dX12_alike_6 (by decide) (fun _ => ?_) (fun c4 => absurd c4 (by decide))
  refine lv_bipush (pc := 27) (v := (-2)) hx hb dX12_alike_27 (by decide) ?_
  exact zreti (pc := 29) hx hb hr hlocks hP hK hS ⟨rfl, rfl⟩ dX12_alike_29

set_option maxHeartbeats 4000000 in
set_option maxRecDepth 100000 in
theorem nw_X12_differ (l : Launch) (D : va_G) (c : zC) (o : Nat) (σ : zS) (p0 : Int32) (p1 : Int32) (hR : zRef o σ.2.2) (h0 : σ.1 219 0 = 0) : Met l yX12_differ zs_X12_differ (zr 8) (va_Pc [.ref (o + 218), .int p0, .int p1] (zQ D c o σ)) (va_Qi (fun (r : Int32) (σ1 : zS) => r = (-2) ∧ σ = σ1) (zQ D c o) (zA o)) 0 0 (zA o) := by
  refine zMet (by decide) (Nat.le_of_ble_eq_true rfl) ?_
  intro p e s m below meth cd ⟨hx, hb, hr, hml, hown, hts, hlocks⟩ hP hK ls hl
  have hS : va_S (zA o) s.heap s.heap [] := va_S.rf
  have hl : lv_has ls 3 [(0, .ref (o + 218)), (1, .int p0), (2, .int p1)] := hl
  refine lv_aload_n (pc := 0) hx hb dX12_differ_0 rfl (lv_at hl 0 rfl) ?_
  refine lv_iload_n (pc := 1) hx hb dX12_differ_1 rfl (lv_at hl 1 rfl) ?_
  refine lv_iload_n (pc := 2) hx hb dX12_differ_2 rfl (lv_at hl 2 rfl) ?_
  refine zcallVi (pc := 3) (k := 218) (As := [.int p0, .int p1]) (rest := []) ⟨hx, hb, hml, hown, hts⟩ (nw_X12_areRegisters l D c o σ p0 p1 hR h0) zc12 zV_X12_360 rfl zd_X12_areRegisters ⟨Nat.le_of_ble_eq_true rfl, Nat.le_of_ble_eq_true rfl⟩ hK hP hS rfl (by decide) hl.1 rfl (Nat.le_of_ble_eq_true rfl) ⟨Nat.zero_le _, Nat.zero_le _⟩ dX12_differ_3 (fun r1 σ2 H locs hw3 hP hS => ?_)
  obtain ⟨rfl, rfl⟩ := hw3
  refine lv_if_eq (pc := 6) (tgt := 18) hx hb dX12_differ_6 (by decide) (fun _ => ?_) (fun c4 => absurd c4 (by decide))
  refine lv_bipush (pc := 18) (v := (-2)) hx hb dX12_differ_18 (by decide) ?_
  exact zreti (pc := 20) hx hb hr hlocks hP hK hS ⟨rfl, rfl⟩ dX12_differ_20

set_option maxHeartbeats 4000000 in
set_option maxRecDepth 100000 in
theorem nw_X12_within (l : Launch) (D : va_G) (c : zC) (o : Nat) (σ : zS) (p0 : Int32) (p1 : Int32) (hR : zRef o σ.2.2) (h0 : σ.1 219 0 = 0) : Met l yX12_within zs_X12_within (zr 8) (va_Pc [.ref (o + 218), .int p0, .int p1] (zQ D c o σ)) (va_Qi (fun (r : Int32) (σ1 : zS) => r = (-2) ∧ σ = σ1) (zQ D c o) (zA o)) 0 0 (zA o) := by
  refine zMet (by decide) (Nat.le_of_ble_eq_true rfl) ?_
  intro p e s m below meth cd ⟨hx, hb, hr, hml, hown, hts, hlocks⟩ hP hK ls hl
  have hS : va_S (zA o) s.heap s.heap [] := va_S.rf
  have hl : lv_has ls 4 [(0, .ref (o + 218)), (1, .int p0), (2, .int p1)] := hl
  refine lv_aload_n (pc := 0) hx hb dX12_within_0 rfl (lv_at hl 0 rfl) ?_
  refine lv_iload_n (pc := 1) hx hb dX12_within_1 rfl (lv_at hl 1 rfl) ?_
  refine lv_iload_n (pc := 2) hx hb dX12_within_2 rfl (lv_at hl 2 rfl) ?_
  refine zcallVi (pc := 3) (k := 218) (As := [.int p0, .int p1]) (rest := []) ⟨hx, hb, hml, hown, hts⟩ (nw_X12_areRegisters l D c o σ p0 p1 hR h0) zc12 zV_X12_360 rfl zd_X12_areRegisters ⟨Nat.le_of_ble_eq_true rfl, Nat.le_of_ble_eq_true rfl⟩ hK hP hS rfl (by decide) hl.1 rfl (Nat.le_of_ble_eq_true rfl) ⟨Nat.zero_le _, Nat.zero_le _⟩ dX12_within_3 (fun r1 σ2 H locs hw3 hP hS => ?_)
  obtain ⟨rfl, rfl⟩ := hw3
  refine lv_if_ne (pc := 6) (tgt := 12) hx hb dX12_within_6 (by decide) (fun c4 => absurd c4 (by decide)) (fun _ => ?_)
  refine lv_bipush (pc := 9) (v := (-2)) hx hb dX12_within_9 (by decide) ?_
  exact zreti (pc := 11) hx hb hr hlocks hP hK hS ⟨rfl, rfl⟩ dX12_within_11

set_option maxHeartbeats 4000000 in
set_option maxRecDepth 100000 in
theorem nw_X12_dual (l : Launch) (D : va_G) (c : zC) (o : Nat) (σ : zS) (p0 : Int32) (p1 : Int32) (hR : zRef o σ.2.2) (h0 : σ.1 219 0 = 0) : Met l yX12_dual zs_X12_dual (zr 8) (va_Pc [.ref (o + 218), .int p0, .int p1] (zQ D c o σ)) (va_Qi (fun (r : Int32) (σ1 : zS) => r = (-2) ∧ σ = σ1) (zQ D c o) (zA o)) 0 0 (zA o) := by
  refine zMet (by decide) (Nat.le_of_ble_eq_true rfl) ?_
  intro p e s m below meth cd ⟨hx, hb, hr, hml, hown, hts, hlocks⟩ hP hK ls hl
  have hS : va_S (zA o) s.heap s.heap [] := va_S.rf
  have hl : lv_has ls 3 [(0, .ref (o + 218)), (1, .int p0), (2, .int p1)] := hl
  refine lv_aload_n (pc := 0) hx hb dX12_dual_0 rfl (lv_at hl 0 rfl) ?_
  refine lv_iload_n (pc := 1) hx hb dX12_dual_1 rfl (lv_at hl 1 rfl) ?_
  refine lv_iload_n (pc := 2) hx hb dX12_dual_2 rfl (lv_at hl 2 rfl) ?_
  refine zcallVi (pc := 3) (k := 218) (As := [.int p0, .int p1]) (rest := []) ⟨hx, hb, hml, hown, hts⟩ (nw_X12_areRegisters l D c o σ p0 p1 hR h0) zc12 zV_X12_360 rfl zd_X12_areRegisters ⟨Nat.le_of_ble_eq_true rfl, Nat.le_of_ble_eq_true rfl⟩ hK hP hS rfl (by decide) hl.1 rfl (Nat.le_of_ble_eq_true rfl) ⟨Nat.zero_le _, Nat.zero_le _⟩ dX12_dual_3 (fun r1 σ2 H locs hw3 hP hS => ?_)
  obtain ⟨rfl, rfl⟩ := hw3
  refine lv_if_eq (pc := 6) (tgt := 35) hx hb dX12_dual_6 (by decide) (fun _ => ?_) (fun c4 => absurd c4 (by decide))
  refine lv_bipush (pc := 35) (v := (-2)) hx hb dX12_dual_35 (by decide) ?_
  exact zreti (pc := 37) hx hb hr hlocks hP hK hS ⟨rfl, rfl⟩ dX12_dual_37

set_option maxHeartbeats 4000000 in
set_option maxRecDepth 100000 in
theorem nw_X12_apart (l : Launch) (D : va_G) (c : zC) (o : Nat) (σ : zS) (p0 : Int32) (p1 : Int32) (hR : zRef o σ.2.2) (h0 : σ.1 219 0 = 0) : Met l yX12_apart zs_X12_apart (zr 8) (va_Pc [.ref (o + 218), .int p0, .int p1] (zQ D c o σ)) (va_Qi (fun (r : Int32) (σ1 : zS) => r = (-2) ∧ σ = σ1) (zQ D c o) (zA o)) 0 0 (zA o) := by
  refine zMet (by decide) (Nat.le_of_ble_eq_true rfl) ?_
  intro p e s m below meth cd ⟨hx, hb, hr, hml, hown, hts, hlocks⟩ hP hK ls hl
  have hS : va_S (zA o) s.heap s.heap [] := va_S.rf
  have hl : lv_has ls 6 [(0, .ref (o + 218)), (1, .int p0), (2, .int p1)] := hl
  refine lv_aload_n (pc := 0) hx hb dX12_apart_0 rfl (lv_at hl 0 rfl) ?_
  refine lv_iload_n (pc := 1) hx hb dX12_apart_1 rfl (lv_at hl 1 rfl) ?_
  refine lv_iload_n (pc := 2) hx hb dX12_apart_2 rfl (lv_at hl 2 rfl) ?_
  refine zcallVi (pc := 3) (k := 218) (As := [.int p0, .int p1]) (rest := []) ⟨hx, hb, hml, hown, hts⟩ (nw_X12_areRegisters l D c o σ p0 p1 hR h0) zc12 zV_X12_360 rfl zd_X12_areRegisters ⟨Nat.le_of_ble_eq_true rfl, Nat.le_of_ble_eq_true rfl⟩ hK hP hS rfl (by decide) hl.1 rfl (Nat.le_of_ble_eq_true rfl) ⟨Nat.zero_le _, Nat.zero_le _⟩ dX12_apart_3 (fun r1 σ2 H locs hw3 hP hS => ?_)
  obtain ⟨rfl, rfl⟩ := hw3
  refine lv_if_ne (pc := 6) (tgt := 12) hx hb dX12_apart_6 (by decide) (fun c4 => absurd c4 (by decide)) (fun _ => ?_)
  refine lv_bipush (pc := 9) (v := (-2)) hx hb dX12_apart_9 (by decide) ?_
  exact zreti (pc := 11) hx hb hr hlocks hP hK hS ⟨rfl, rfl⟩ dX12_apart_11

set_option maxHeartbeats 4000000 in
set_option maxRecDepth 100000 in
theorem nw_X12_packs (l : Launch) (D : va_G) (c : zC) (o : Nat) (σ : zS) (p0 : Int32) (p1 : Int32) (hR : zRef o σ.2.2) (h0 : σ.1 219 0 = 0) : Met l yX12_packs zs_X12_packs (zr 8) (va_Pc [.ref (o + 218), .int p0, .int p1] (zQ D c o σ)) (va_Qi (fun (r : Int32) (σ1 : zS) => r = (-2) ∧ σ = σ1) (zQ D c o) (zA o)) 0 0 (zA o) := by
  refine zMet (by decide) (Nat.le_of_ble_eq_true rfl) ?_
  intro p e s m below meth cd ⟨hx, hb, hr, hml, hown, hts, hlocks⟩ hP hK ls hl
  have hS : va_S (zA o) s.heap s.heap [] := va_S.rf
  have hl : lv_has ls 12 [(0, .ref (o + 218)), (1, .int p0), (2, .int p1)] := hl
  refine lv_aload_n (pc := 0) hx hb dX12_packs_0 rfl (lv_at hl 0 rfl) ?_
  refine lv_iload_n (pc := 1) hx hb dX12_packs_1 rfl (lv_at hl 1 rfl) ?_
  refine zcallVi (pc := 2) (k := 218) (As := [.int p0]) (rest := []) ⟨hx, hb, hml, hown, hts⟩ (nw_X12_isRegister l D c o σ p0 hR h0) zc12 zV_X12_321 rfl zd_X12_isRegister ⟨Nat.le_of_ble_eq_true rfl, Nat.le_of_ble_eq_true rfl⟩ hK hP hS rfl (by decide) hl.1 rfl (Nat.le_of_ble_eq_true rfl) ⟨Nat.zero_le _, Nat.zero_le _⟩ dX12_packs_2 (fun r1 σ2 H locs hw3 hP hS => ?_)
  obtain ⟨rfl, rfl⟩ := hw3
  refine lv_if_eq (pc := 5) (tgt := 18) hx hb dX12_packs_5 (by decide) (fun _ => ?_) (fun c4 => absurd c4 (by decide))
  refine lv_bipush (pc := 18) (v := (-2)) hx hb dX12_packs_18 (by decide) ?_
  exact zreti (pc := 20) hx hb hr hlocks hP hK hS ⟨rfl, rfl⟩ dX12_packs_20

set_option maxHeartbeats 4000000 in
set_option maxRecDepth 100000 in
theorem nw_X12_nodes (l : Launch) (D : va_G) (c : zC) (o : Nat) (σ : zS) (p0 : Int32) (hR : zRef o σ.2.2) (h0 : σ.1 219 0 = 0) : Met l yX12_nodes zs_X12_nodes (zr 8) (va_Pc [.ref (o + 218), .int p0] (zQ D c o σ)) (va_Qi (fun (r : Int32) (σ1 : zS) => r = (-2) ∧ σ = σ1) (zQ D c o) (zA o)) 0 0 (zA o) := by
  refine zMet (by decide) (Nat.le_of_ble_eq_true rfl) ?_
  intro p e s m below meth cd ⟨hx, hb, hr, hml, hown, hts, hlocks⟩ hP hK ls hl
  have hS : va_S (zA o) s.heap s.heap [] := va_S.rf
  have hl : lv_has ls 2 [(0, .ref (o + 218)), (1, .int p0)] := hl
  refine lv_aload_n (pc := 0) hx hb dX12_nodes_0 rfl (lv_at hl 0 rfl) ?_
  refine lv_iload_n (pc := 1) hx hb dX12_nodes_1 rfl (lv_at hl 1 rfl) ?_
  refine zcallVi (pc := 2) (k := 218) (As := [.int p0]) (rest := []) ⟨hx, hb, hml, hown, hts⟩ (nw_X12_isRegister l D c o σ p0 hR h0) zc12 zV_X12_321 rfl zd_X12_isRegister ⟨Nat.le_of_ble_eq_true rfl, Nat.le_of_ble_eq_true rfl⟩ hK hP hS rfl (by decide) hl.1 rfl (Nat.le_of_ble_eq_true rfl) ⟨Nat.zero_le _, Nat.zero_le _⟩ dX12_nodes_2 (fun r1 σ2 H locs hw3 hP hS => ?_)
  obtain ⟨rfl, rfl⟩ := hw3
  refine lv_if_ne (pc := 5) (tgt := 11) hx hb dX12_nodes_5 (by decide) (fun c4 => absurd c4 (by decide)) (fun _ => ?_)
  refine lv_bipush (pc := 8) (v := (-2)) hx hb dX12_nodes_8 (by decide) ?_
  exact zreti (pc := 10) hx hb hr hlocks hP hK hS ⟨rfl, rfl⟩ dX12_nodes_10

set_option maxHeartbeats 4000000 in
set_option maxRecDepth 100000 in
theorem nw_X12_net (l : Launch) (D : va_G) (c : zC) (o : Nat) (σ : zS) (hR : zRef o σ.2.2) (h0 : σ.1 219 0 = 0) : Met l yX12_net zs_X12_net (zr 8) (va_Pc [.ref (o + 218)] (zQ D c o σ)) (va_Qi (fun (r : Int32) (σ1 : zS) => r = (-2) ∧ σ = σ1) (zQ D c o) (zA o)) 0 0 (zA o) := by
  refine zMet (by decide) (Nat.le_of_ble_eq_true rfl) ?_
  intro p e s m below meth cd ⟨hx, hb, hr, hml, hown, hts, hlocks⟩ hP hK ls hl
  have hS : va_S (zA o) s.heap s.heap [] := va_S.rf
  have hl : lv_has ls 1 [(0, .ref (o + 218))] := hl
  refine lv_aload_n (pc := 0) hx hb dX12_net_0 rfl (lv_at hl 0 rfl) ?_
  refine zcallVi (pc := 1) (k := 218) (As := []) (rest := []) ⟨hx, hb, hml, hown, hts⟩ (nw_X12_isWorld l D c o σ hR h0) zc12 zV_X12_98 rfl zd_X12_isWorld ⟨Nat.le_of_ble_eq_true rfl, Nat.le_of_ble_eq_true rfl⟩ hK hP hS rfl (by decide) hl.1 rfl (Nat.le_of_ble_eq_true rfl) ⟨Nat.zero_le _, Nat.zero_le _⟩ dX12_net_1 (fun r1 σ2 H locs hw3 hP hS => ?_)
  obtain ⟨rfl, rfl⟩ := hw3
  refine lv_if_eq (pc := 4) (tgt := 14) hx hb dX12_net_4 (by decide) (fun _ => ?_) (fun c4 => absurd c4 (by decide))
  refine lv_bipush (pc := 14) (v := (-2)) hx hb dX12_net_14 (by decide) ?_
  exact zreti (pc := 16) hx hb hr hlocks hP hK hS ⟨rfl, rfl⟩ dX12_net_16

set_option maxHeartbeats 4000000 in
set_option maxRecDepth 100000 in
theorem nw_X12_wide (l : Launch) (D : va_G) (c : zC) (o : Nat) (σ : zS) (p0 : Int32) (p1 : Int32) (hR : zRef o σ.2.2) (h0 : σ.1 219 0 = 0) : Met l yX12_wide zs_X12_wide (zr 8) (va_Pc [.ref (o + 218), .int p0, .int p1] (zQ D c o σ)) (va_Qi (fun (r : Int32) (σ1 : zS) => r = (-2) ∧ σ = σ1) (zQ D c o) (zA o)) 0 0 (zA o) := by
  refine zMet (by decide) (Nat.le_of_ble_eq_true rfl) ?_
  intro p e s m below meth cd ⟨hx, hb, hr, hml, hown, hts, hlocks⟩ hP hK ls hl
  have hS : va_S (zA o) s.heap s.heap [] := va_S.rf
  have hl : lv_has ls 3 [(0, .ref (o + 218)), (1, .int p0), (2, .int p1)] := hl
  refine lv_aload_n (pc := 0) hx hb dX12_wide_0 rfl (lv_at hl 0 rfl) ?_
  refine lv_iload_n (pc := 1) hx hb dX12_wide_1 rfl (lv_at hl 1 rfl) ?_
  refine zcallVi (pc := 2) (k := 218) (As := [.int p0]) (rest := []) ⟨hx, hb, hml, hown, hts⟩ (nw_X12_isRegister l D c o σ p0 hR h0) zc12 zV_X12_321 rfl zd_X12_isRegister ⟨Nat.le_of_ble_eq_true rfl, Nat.le_of_ble_eq_true rfl⟩ hK hP hS rfl (by decide) hl.1 rfl (Nat.le_of_ble_eq_true rfl) ⟨Nat.zero_le _, Nat.zero_le _⟩ dX12_wide_2 (fun r1 σ2 H locs hw3 hP hS => ?_)
  obtain ⟨rfl, rfl⟩ := hw3
  refine lv_if_eq (pc := 5) (tgt := 16) hx hb dX12_wide_5 (by decide) (fun _ => ?_) (fun c4 => absurd c4 (by decide))
  refine lv_bipush (pc := 16) (v := (-2)) hx hb dX12_wide_16 (by decide) ?_
  exact zreti (pc := 18) hx hb hr hlocks hP hK hS ⟨rfl, rfl⟩ dX12_wide_18

set_option maxHeartbeats 4000000 in
set_option maxRecDepth 100000 in
theorem nw_X12_order (l : Launch) (D : va_G) (c : zC) (o : Nat) (σ : zS) (p0 : Int32) (hR : zRef o σ.2.2) (h0 : σ.1 219 0 = 0) : Met l yX12_order zs_X12_order (zr 8) (va_Pc [.ref (o + 218), .int p0] (zQ D c o σ)) (va_Qi (fun (r : Int32) (σ1 : zS) => r = (-2) ∧ σ = σ1) (zQ D c o) (zA o)) 0 0 (zA o) := by
  refine zMet (by decide) (Nat.le_of_ble_eq_true rfl) ?_
  intro p e s m below meth cd ⟨hx, hb, hr, hml, hown, hts, hlocks⟩ hP hK ls hl
  have hS : va_S (zA o) s.heap s.heap [] := va_S.rf
  have hl : lv_has ls 2 [(0, .ref (o + 218)), (1, .int p0)] := hl
  refine lv_aload_n (pc := 0) hx hb dX12_order_0 rfl (lv_at hl 0 rfl) ?_
  refine lv_iload_n (pc := 1) hx hb dX12_order_1 rfl (lv_at hl 1 rfl) ?_
  refine zcallVi (pc := 2) (k := 218) (As := [.int p0]) (rest := []) ⟨hx, hb, hml, hown, hts⟩ (nw_X12_isName l D c o σ p0 hR h0) zc12 zV_X12_332 rfl zd_X12_isName ⟨Nat.le_of_ble_eq_true rfl, Nat.le_of_ble_eq_true rfl⟩ hK hP hS rfl (by decide) hl.1 rfl (Nat.le_of_ble_eq_true rfl) ⟨Nat.zero_le _, Nat.zero_le _⟩ dX12_order_2 (fun r1 σ2 H locs hw3 hP hS => ?_)
  obtain ⟨rfl, rfl⟩ := hw3
  refine lv_if_eq (pc := 5) (tgt := 20) hx hb dX12_order_5 (by decide) (fun _ => ?_) (fun c4 => absurd c4 (by decide))
  refine lv_bipush (pc := 20) (v := (-2)) hx hb dX12_order_20 (by decide) ?_
  exact zreti (pc := 22) hx hb hr hlocks hP hK hS ⟨rfl, rfl⟩ dX12_order_22

set_option maxHeartbeats 4000000 in
set_option maxRecDepth 100000 in
theorem nw_X12_swap (l : Launch) (D : va_G) (c : zC) (o : Nat) (σ : zS) (p0 : Int32) (hR : zRef o σ.2.2) (h0 : σ.1 219 0 = 0) : Met l yX12_swap zs_X12_swap (zr 8) (va_Pc [.ref (o + 218), .int p0] (zQ D c o σ)) (va_Qi (fun (r : Int32) (σ1 : zS) => r = (-2) ∧ σ = σ1) (zQ D c o) (zA o)) 0 0 (zA o) := by
  refine zMet (by decide) (Nat.le_of_ble_eq_true rfl) ?_
  intro p e s m below meth cd ⟨hx, hb, hr, hml, hown, hts, hlocks⟩ hP hK ls hl
  have hS : va_S (zA o) s.heap s.heap [] := va_S.rf
  have hl : lv_has ls 3 [(0, .ref (o + 218)), (1, .int p0)] := hl
  refine lv_aload_n (pc := 0) hx hb dX12_swap_0 rfl (lv_at hl 0 rfl) ?_
  refine lv_iload_n (pc := 1) hx hb dX12_swap_1 rfl (lv_at hl 1 rfl) ?_
  refine zcallVi (pc := 2) (k := 218) (As := [.int p0]) (rest := []) ⟨hx, hb, hml, hown, hts⟩ (nw_X12_isName l D c o σ p0 hR h0) zc12 zV_X12_332 rfl zd_X12_isName ⟨Nat.le_of_ble_eq_true rfl, Nat.le_of_ble_eq_true rfl⟩ hK hP hS rfl (by decide) hl.1 rfl (Nat.le_of_ble_eq_true rfl) ⟨Nat.zero_le _, Nat.zero_le _⟩ dX12_swap_2 (fun r1 σ2 H locs hw3 hP hS => ?_)
  obtain ⟨rfl, rfl⟩ := hw3
  refine lv_if_eq (pc := 5) (tgt := 18) hx hb dX12_swap_5 (by decide) (fun _ => ?_) (fun c4 => absurd c4 (by decide))
  refine lv_bipush (pc := 18) (v := (-2)) hx hb dX12_swap_18 (by decide) ?_
  exact zreti (pc := 20) hx hb hr hlocks hP hK hS ⟨rfl, rfl⟩ dX12_swap_20

set_option maxHeartbeats 4000000 in
set_option maxRecDepth 100000 in
theorem nw_X12_move (l : Launch) (D : va_G) (c : zC) (o : Nat) (σ : zS) (p0 : Int32) (p1 : Int32) (hR : zRef o σ.2.2) (h0 : σ.1 219 0 = 0) : Met l yX12_move zs_X12_move (zr 8) (va_Pc [.ref (o + 218), .int p0, .int p1] (zQ D c o σ)) (va_Qi (fun (r : Int32) (σ1 : zS) => r = (-2) ∧ σ = σ1) (zQ D c o) (zA o)) 0 0 (zA o) := by
  refine zMet (by decide) (Nat.le_of_ble_eq_true rfl) ?_
  intro p e s m below meth cd ⟨hx, hb, hr, hml, hown, hts, hlocks⟩ hP hK ls hl
  have hS : va_S (zA o) s.heap s.heap [] := va_S.rf
  have hl : lv_has ls 4 [(0, .ref (o + 218)), (1, .int p0), (2, .int p1)] := hl
  refine lv_aload_n (pc := 0) hx hb dX12_move_0 rfl (lv_at hl 0 rfl) ?_
  refine lv_iload_n (pc := 1) hx hb dX12_move_1 rfl (lv_at hl 1 rfl) ?_
  refine zcallVi (pc := 2) (k := 218) (As := [.int p0]) (rest := []) ⟨hx, hb, hml, hown, hts⟩ (nw_X12_isName l D c o σ p0 hR h0) zc12 zV_X12_332 rfl zd_X12_isName ⟨Nat.le_of_ble_eq_true rfl, Nat.le_of_ble_eq_true rfl⟩ hK hP hS rfl (by decide) hl.1 rfl (Nat.le_of_ble_eq_true rfl) ⟨Nat.zero_le _, Nat.zero_le _⟩ dX12_move_2 (fun r1 σ2 H locs hw3 hP hS => ?_)
  obtain ⟨rfl, rfl⟩ := hw3
  refine lv_if_eq (pc := 5) (tgt := 16) hx hb dX12_move_5 (by decide) (fun _ => ?_) (fun c4 => absurd c4 (by decide))
  refine lv_bipush (pc := 16) (v := (-2)) hx hb dX12_move_16 (by decide) ?_
  exact zreti (pc := 18) hx hb hr hlocks hP hK hS ⟨rfl, rfl⟩ dX12_move_18

set_option maxHeartbeats 4000000 in
set_option maxRecDepth 100000 in
theorem nw_X12_best (l : Launch) (D : va_G) (c : zC) (o : Nat) (σ : zS) (p0 : Int32) (p1 : Int32) (hR : zRef o σ.2.2) (h0 : σ.1 219 0 = 0) : Met l yX12_best zs_X12_best (zr 8) (va_Pc [.ref (o + 218), .int p0, .int p1] (zQ D c o σ)) (va_Qi (fun (r : Int32) (σ1 : zS) => r = (-2) ∧ σ = σ1) (zQ D c o) (zA o)) 0 0 (zA o) := by
  refine zMet (by decide) (Nat.le_of_ble_eq_true rfl) ?_
  intro p e s m below meth cd ⟨hx, hb, hr, hml, hown, hts, hlocks⟩ hP hK ls hl
  have hS : va_S (zA o) s.heap s.heap [] := va_S.rf
  have hl : lv_has ls 4 [(0, .ref (o + 218)), (1, .int p0), (2, .int p1)] := hl
  refine lv_aload_n (pc := 0) hx hb dX12_best_0 rfl (lv_at hl 0 rfl) ?_
  refine lv_iload_n (pc := 1) hx hb dX12_best_1 rfl (lv_at hl 1 rfl) ?_
  refine zcallVi (pc := 2) (k := 218) (As := [.int p0]) (rest := []) ⟨hx, hb, hml, hown, hts⟩ (nw_X12_isRegister l D c o σ p0 hR h0) zc12 zV_X12_321 rfl zd_X12_isRegister ⟨Nat.le_of_ble_eq_true rfl, Nat.le_of_ble_eq_true rfl⟩ hK hP hS rfl (by decide) hl.1 rfl (Nat.le_of_ble_eq_true rfl) ⟨Nat.zero_le _, Nat.zero_le _⟩ dX12_best_2 (fun r1 σ2 H locs hw3 hP hS => ?_)
  obtain ⟨rfl, rfl⟩ := hw3
  refine lv_if_eq (pc := 5) (tgt := 20) hx hb dX12_best_5 (by decide) (fun _ => ?_) (fun c4 => absurd c4 (by decide))
  refine lv_bipush (pc := 20) (v := (-2)) hx hb dX12_best_20 (by decide) ?_
  exact zreti (pc := 22) hx hb hr hlocks hP hK hS ⟨rfl, rfl⟩ dX12_best_22

set_option maxHeartbeats 4000000 in
set_option maxRecDepth 100000 in
theorem nw_X12_sift (l : Launch) (D : va_G) (c : zC) (o : Nat) (σ : zS) (p0 : Int32) (hR : zRef o σ.2.2) (h0 : σ.1 219 0 = 0) : Met l yX12_sift zs_X12_sift (zr 8) (va_Pc [.ref (o + 218), .int p0] (zQ D c o σ)) (va_Qi (fun (r : Int32) (σ1 : zS) => r = (-2) ∧ σ = σ1) (zQ D c o) (zA o)) 0 0 (zA o) := by
  refine zMet (by decide) (Nat.le_of_ble_eq_true rfl) ?_
  intro p e s m below meth cd ⟨hx, hb, hr, hml, hown, hts, hlocks⟩ hP hK ls hl
  have hS : va_S (zA o) s.heap s.heap [] := va_S.rf
  have hl : lv_has ls 7 [(0, .ref (o + 218)), (1, .int p0)] := hl
  refine lv_aload_n (pc := 0) hx hb dX12_sift_0 rfl (lv_at hl 0 rfl) ?_
  refine lv_iload_n (pc := 1) hx hb dX12_sift_1 rfl (lv_at hl 1 rfl) ?_
  refine zcallVi (pc := 2) (k := 218) (As := [.int p0]) (rest := []) ⟨hx, hb, hml, hown, hts⟩ (nw_X12_isRegister l D c o σ p0 hR h0) zc12 zV_X12_321 rfl zd_X12_isRegister ⟨Nat.le_of_ble_eq_true rfl, Nat.le_of_ble_eq_true rfl⟩ hK hP hS rfl (by decide) hl.1 rfl (Nat.le_of_ble_eq_true rfl) ⟨Nat.zero_le _, Nat.zero_le _⟩ dX12_sift_2 (fun r1 σ2 H locs hw3 hP hS => ?_)
  obtain ⟨rfl, rfl⟩ := hw3
  refine lv_if_ne (pc := 5) (tgt := 11) hx hb dX12_sift_5 (by decide) (fun c4 => absurd c4 (by decide)) (fun _ => ?_)
  refine lv_bipush (pc := 8) (v := (-2)) hx hb dX12_sift_8 (by decide) ?_
  exact zreti (pc := 10) hx hb hr hlocks hP hK hS ⟨rfl, rfl⟩ dX12_sift_10

set_option maxHeartbeats 4000000 in
set_option maxRecDepth 100000 in
theorem nw_X12_ways (l : Launch) (D : va_G) (c : zC) (o : Nat) (σ : zS) (p0 : Int32) (p1 : Int32) (p2 : Int32) (hR : zRef o σ.2.2) (h0 : σ.1 219 0 = 0) : Met l yX12_ways zs_X12_ways (zr 8) (va_Pc [.ref (o + 218), .int p0, .int p1, .int p2] (zQ D c o σ)) (va_Qi (fun (r : Int32) (σ1 : zS) => r = (-2) ∧ σ = σ1) (zQ D c o) (zA o)) 0 0 (zA o) := by
  refine zMet (by decide) (Nat.le_of_ble_eq_true rfl) ?_
  intro p e s m below meth cd ⟨hx, hb, hr, hml, hown, hts, hlocks⟩ hP hK ls hl
  have hS : va_S (zA o) s.heap s.heap [] := va_S.rf
  have hl : lv_has ls 4 [(0, .ref (o + 218)), (1, .int p0), (2, .int p1), (3, .int p2)] := hl
  refine lv_aload_n (pc := 0) hx hb dX12_ways_0 rfl (lv_at hl 0 rfl) ?_
  refine lv_iload_n (pc := 1) hx hb dX12_ways_1 rfl (lv_at hl 1 rfl) ?_
  refine zcallVi (pc := 2) (k := 218) (As := [.int p0]) (rest := []) ⟨hx, hb, hml, hown, hts⟩ (nw_X12_isRegister l D c o σ p0 hR h0) zc12 zV_X12_321 rfl zd_X12_isRegister ⟨Nat.le_of_ble_eq_true rfl, Nat.le_of_ble_eq_true rfl⟩ hK hP hS rfl (by decide) hl.1 rfl (Nat.le_of_ble_eq_true rfl) ⟨Nat.zero_le _, Nat.zero_le _⟩ dX12_ways_2 (fun r1 σ2 H locs hw3 hP hS => ?_)
  obtain ⟨rfl, rfl⟩ := hw3
  refine lv_if_eq (pc := 5) (tgt := 24) hx hb dX12_ways_5 (by decide) (fun _ => ?_) (fun c4 => absurd c4 (by decide))
  refine lv_bipush (pc := 24) (v := (-2)) hx hb dX12_ways_24 (by decide) ?_
  exact zreti (pc := 26) hx hb hr hlocks hP hK hS ⟨rfl, rfl⟩ dX12_ways_26

set_option maxHeartbeats 4000000 in
set_option maxRecDepth 100000 in
theorem nw_X12_map (l : Launch) (D : va_G) (c : zC) (o : Nat) (σ : zS) (p0 : Int32) (p1 : Int32) (hR : zRef o σ.2.2) (h0 : σ.1 219 0 = 0) : Met l yX12_map zs_X12_map (zr 8) (va_Pc [.ref (o + 218), .int p0, .int p1] (zQ D c o σ)) (va_Qi (fun (r : Int32) (σ1 : zS) => r = (-2) ∧ σ = σ1) (zQ D c o) (zA o)) 0 0 (zA o) := by
  refine zMet (by decide) (Nat.le_of_ble_eq_true rfl) ?_
  intro p e s m below meth cd ⟨hx, hb, hr, hml, hown, hts, hlocks⟩ hP hK ls hl
  have hS : va_S (zA o) s.heap s.heap [] := va_S.rf
  have hl : lv_has ls 5 [(0, .ref (o + 218)), (1, .int p0), (2, .int p1)] := hl
  refine lv_aload_n (pc := 0) hx hb dX12_map_0 rfl (lv_at hl 0 rfl) ?_
  refine lv_iload_n (pc := 1) hx hb dX12_map_1 rfl (lv_at hl 1 rfl) ?_
  refine zcallVi (pc := 2) (k := 218) (As := [.int p0]) (rest := []) ⟨hx, hb, hml, hown, hts⟩ (nw_X12_isRegister l D c o σ p0 hR h0) zc12 zV_X12_321 rfl zd_X12_isRegister ⟨Nat.le_of_ble_eq_true rfl, Nat.le_of_ble_eq_true rfl⟩ hK hP hS rfl (by decide) hl.1 rfl (Nat.le_of_ble_eq_true rfl) ⟨Nat.zero_le _, Nat.zero_le _⟩ dX12_map_2 (fun r1 σ2 H locs hw3 hP hS => ?_)
  obtain ⟨rfl, rfl⟩ := hw3
  refine lv_if_eq (pc := 5) (tgt := 20) hx hb dX12_map_5 (by decide) (fun _ => ?_) (fun c4 => absurd c4 (by decide))
  refine lv_bipush (pc := 20) (v := (-2)) hx hb dX12_map_20 (by decide) ?_
  exact zreti (pc := 22) hx hb hr hlocks hP hK hS ⟨rfl, rfl⟩ dX12_map_22

set_option maxHeartbeats 4000000 in
set_option maxRecDepth 100000 in
theorem nw_X12_cuts (l : Launch) (D : va_G) (c : zC) (o : Nat) (σ : zS) (p0 : Int32) (p1 : Int32) (p2 : Int32) (hR : zRef o σ.2.2) (h0 : σ.1 219 0 = 0) : Met l yX12_cuts zs_X12_cuts (zr 8) (va_Pc [.ref (o + 218), .int p0, .int p1, .int p2] (zQ D c o σ)) (va_Qi (fun (r : Int32) (σ1 : zS) => r = (-2) ∧ σ = σ1) (zQ D c o) (zA o)) 0 0 (zA o) := by
  refine zMet (by decide) (Nat.le_of_ble_eq_true rfl) ?_
  intro p e s m below meth cd ⟨hx, hb, hr, hml, hown, hts, hlocks⟩ hP hK ls hl
  have hS : va_S (zA o) s.heap s.heap [] := va_S.rf
  have hl : lv_has ls 5 [(0, .ref (o + 218)), (1, .int p0), (2, .int p1), (3, .int p2)] := hl
  refine lv_aload_n (pc := 0) hx hb dX12_cuts_0 rfl (lv_at hl 0 rfl) ?_
  refine lv_iload_n (pc := 1) hx hb dX12_cuts_1 rfl (lv_at hl 1 rfl) ?_
  refine zcallVi (pc := 2) (k := 218) (As := [.int p0]) (rest := []) ⟨hx, hb, hml, hown, hts⟩ (nw_X12_isRegister l D c o σ p0 hR h0) zc12 zV_X12_321 rfl zd_X12_isRegister ⟨Nat.le_of_ble_eq_true rfl, Nat.le_of_ble_eq_true rfl⟩ hK hP hS rfl (by decide) hl.1 rfl (Nat.le_of_ble_eq_true rfl) ⟨Nat.zero_le _, Nat.zero_le _⟩ dX12_cuts_2 (fun r1 σ2 H locs hw3 hP hS => ?_)
  obtain ⟨rfl, rfl⟩ := hw3
  refine lv_if_eq (pc := 5) (tgt := 24) hx hb dX12_cuts_5 (by decide) (fun _ => ?_) (fun c4 => absurd c4 (by decide))
  refine lv_bipush (pc := 24) (v := (-2)) hx hb dX12_cuts_24 (by decide) ?_
  exact zreti (pc := 26) hx hb hr hlocks hP hK hS ⟨rfl, rfl⟩ dX12_cuts_26

set_option maxHeartbeats 4000000 in
set_option maxRecDepth 100000 in
theorem nw_X12_takes_ (l : Launch) (D : va_G) (c : zC) (o : Nat) (σ : zS) (p0 : Int32) (p1 : Int32) (hR : zRef o σ.2.2) (h0 : σ.1 219 0 = 0) : Met l yX12_takes_ zs_X12_takes_ (zr 8) (va_Pc [.ref (o + 218), .int p0, .int p1] (zQ D c o σ)) (va_Qi (fun (r : Int32) (σ1 : zS) => r = (-2) ∧ σ = σ1) (zQ D c o) (zA o)) 0 0 (zA o) := by
  refine zMet (by decide) (Nat.le_of_ble_eq_true rfl) ?_
  intro p e s m below meth cd ⟨hx, hb, hr, hml, hown, hts, hlocks⟩ hP hK ls hl
  have hS : va_S (zA o) s.heap s.heap [] := va_S.rf
  have hl : lv_has ls 4 [(0, .ref (o + 218)), (1, .int p0), (2, .int p1)] := hl
  refine lv_aload_n (pc := 0) hx hb dX12_takes__0 rfl (lv_at hl 0 rfl) ?_
  refine lv_iload_n (pc := 1) hx hb dX12_takes__1 rfl (lv_at hl 1 rfl) ?_
  refine zcallVi (pc := 2) (k := 218) (As := [.int p0]) (rest := []) ⟨hx, hb, hml, hown, hts⟩ (nw_X12_isRegister l D c o σ p0 hR h0) zc12 zV_X12_321 rfl zd_X12_isRegister ⟨Nat.le_of_ble_eq_true rfl, Nat.le_of_ble_eq_true rfl⟩ hK hP hS rfl (by decide) hl.1 rfl (Nat.le_of_ble_eq_true rfl) ⟨Nat.zero_le _, Nat.zero_le _⟩ dX12_takes__2 (fun r1 σ2 H locs hw3 hP hS => ?_)
  obtain ⟨rfl, rfl⟩ := hw3
  refine lv_if_eq (pc := 5) (tgt := 15) hx hb dX12_takes__5 (by decide) (fun _ => ?_) (fun c4 => absurd c4 (by decide))
  refine lv_bipush (pc := 15) (v := (-2)) hx hb dX12_takes__15 (by decide) ?_
  exact zreti (pc := 17) hx hb hr hlocks hP hK hS ⟨rfl, rfl⟩ dX12_takes__17

set_option maxHeartbeats 4000000 in
set_option maxRecDepth 100000 in
theorem nw_X12_sizeOf (l : Launch) (D : va_G) (c : zC) (o : Nat) (σ : zS) (p0 : Int32) (hR : zRef o σ.2.2) (h0 : σ.1 219 0 = 0) : Met l yX12_sizeOf zs_X12_sizeOf (zr 5) (va_Pc [.ref (o + 218), .int p0] (zQ D c o σ)) (va_Qi (fun (r : Int32) (σ1 : zS) => r = 0 ∧ σ = σ1) (zQ D c o) (zA o)) 0 0 (zA o) := by
  refine zMet (by decide) (Nat.le_of_ble_eq_true rfl) ?_
  intro p e s m below meth cd ⟨hx, hb, hr, hml, hown, hts, hlocks⟩ hP hK ls hl
  have hS : va_S (zA o) s.heap s.heap [] := va_S.rf
  have hl : lv_has ls 4 [(0, .ref (o + 218)), (1, .int p0)] := hl
  refine lv_iconst (pc := 0) (v := 0) hx hb dX12_sizeOf_0 (by decide) ?_
  refine lv_istore_n (pc := 1) (lv' := [(2, .int 0), (0, .ref (o + 218)), (1, .int p0)]) hx hb dX12_sizeOf_1 rfl hl (by decide) rfl (fun ls hl => ?_)
  refine lv_iconst (pc := 2) (v := 0) hx hb dX12_sizeOf_2 (by decide) ?_
  refine lv_istore_n (pc := 3) (lv' := [(3, .int 0), (2, .int 0), (0, .ref (o + 218)), (1, .int p0)]) hx hb dX12_sizeOf_3 rfl hl (by decide) rfl (fun ls hl => ?_)
  refine lv_iload_n (pc := 4) hx hb dX12_sizeOf_4 rfl (lv_at hl 0 rfl) ?_
  refine lv_aload_n (pc := 5) hx hb dX12_sizeOf_5 rfl (lv_at hl 2 rfl) ?_
  refine zcallVi (pc := 6) (k := 218) (As := []) (rest := [.int 0]) ⟨hx, hb, hml, hown, hts⟩ (nw_X12_many l D c o σ hR h0) zc12 zV_X12_104 rfl zd_X12_many ⟨Nat.le_of_ble_eq_true rfl, Nat.le_of_ble_eq_true rfl⟩ hK hP hS rfl (by decide) hl.1 rfl (Nat.le_of_ble_eq_true rfl) ⟨Nat.zero_le _, Nat.zero_le _⟩ dX12_sizeOf_6 (fun r1 σ2 H locs hw3 hP hS => ?_)
  obtain ⟨rfl, rfl⟩ := hw3
  refine lv_icmp_ge (pc := 9) (tgt := 35) hx hb dX12_sizeOf_9 (by decide) (fun _ => ?_) (fun c4 => absurd c4 (by decide))
  refine lv_iload_n (pc := 35) hx hb dX12_sizeOf_35 rfl (lv_at hl 1 rfl) ?_
  exact zreti (pc := 36) hx hb hr hlocks hP hK hS ⟨rfl, rfl⟩ dX12_sizeOf_36

set_option maxHeartbeats 4000000 in
set_option maxRecDepth 100000 in
theorem nw_X12_unlikeRegisters (l : Launch) (D : va_G) (c : zC) (o : Nat) (σ : zS) (hR : zRef o σ.2.2) (h0 : σ.1 219 0 = 0) : Met l yX12_unlikeRegisters zs_X12_unlikeRegisters (zr 5) (va_Pc [.ref (o + 218)] (zQ D c o σ)) (va_Qi (fun (r : Int32) (σ1 : zS) => r = 0 ∧ σ = σ1) (zQ D c o) (zA o)) 0 0 (zA o) := by
  refine zMet (by decide) (Nat.le_of_ble_eq_true rfl) ?_
  intro p e s m below meth cd ⟨hx, hb, hr, hml, hown, hts, hlocks⟩ hP hK ls hl
  have hS : va_S (zA o) s.heap s.heap [] := va_S.rf
  have hl : lv_has ls 5 [(0, .ref (o + 218))] := hl
  refine lv_iconst (pc := 0) (v := 0) hx hb dX12_unlikeRegisters_0 (by decide) ?_
  refine lv_istore_n (pc := 1) (lv' := [(1, .int 0), (0, .ref (o + 218))]) hx hb dX12_unlikeRegisters_1 rfl hl (by decide) rfl (fun ls hl => ?_)
  refine lv_iconst (pc := 2) (v := 0) hx hb dX12_unlikeRegisters_2 (by decide) ?_
  refine lv_istore_n (pc := 3) (lv' := [(2, .int 0), (1, .int 0), (0, .ref (o + 218))]) hx hb dX12_unlikeRegisters_3 rfl hl (by decide) rfl (fun ls hl => ?_)
  refine lv_iload_n (pc := 4) hx hb dX12_unlikeRegisters_4 rfl (lv_at hl 0 rfl) ?_
  refine lv_bipush (pc := 5) (v := 10) hx hb dX12_unlikeRegisters_5 (by decide) ?_
  refine lv_icmp_ge (pc := 7) (tgt := 73) hx hb dX12_unlikeRegisters_7 (by decide) (fun c1 => absurd c1 (by decide)) (fun _ => ?_)
  refine lv_aload_n (pc := 10) hx hb dX12_unlikeRegisters_10 rfl (lv_at hl 2 rfl) ?_
  refine zcallVi (pc := 11) (k := 218) (As := []) (rest := []) ⟨hx, hb, hml, hown, hts⟩ (nw_X12_isWorld l D c o σ hR h0) zc12 zV_X12_98 rfl zd_X12_isWorld ⟨Nat.le_of_ble_eq_true rfl, Nat.le_of_ble_eq_true rfl⟩ hK hP hS rfl (by decide) hl.1 rfl (Nat.le_of_ble_eq_true rfl) ⟨Nat.zero_le _, Nat.zero_le _⟩ dX12_unlikeRegisters_11 (fun r2 σ3 H locs hw4 hP hS => ?_)
  obtain ⟨rfl, rfl⟩ := hw4
  refine lv_if_eq (pc := 14) (tgt := 73) hx hb dX12_unlikeRegisters_14 (by decide) (fun _ => ?_) (fun c5 => absurd c5 (by decide))
  refine lv_iload_n (pc := 73) hx hb dX12_unlikeRegisters_73 rfl (lv_at hl 1 rfl) ?_
  exact zreti (pc := 74) hx hb hr hlocks hP hK hS ⟨rfl, rfl⟩ dX12_unlikeRegisters_74

set_option maxHeartbeats 4000000 in
set_option maxRecDepth 100000 in
theorem cs_X12_isSlot (l : Launch) (D : va_G) (c : zC) (o : Nat) (σ : zS) (p0 : Int32) : Met l yX12_isSlot zs_X12_isSlot (zr 3) (va_Pc [.int p0] (zQ D c o σ)) (va_Qi (fun (r : Int32) (σ1 : zS) => r = zin3 p0.toInt 0 3 ∧ σ = σ1) (zQ D c o) (zA o)) 0 0 (zA o) := by
  refine zMet (by decide) (Nat.le_of_ble_eq_true rfl) ?_
  intro p e s m below meth cd ⟨hx, hb, hr, hml, hown, hts, hlocks⟩ hP hK ls hl
  have hS : va_S (zA o) s.heap s.heap [] := va_S.rf
  have hl : lv_has ls 1 [(0, .int p0)] := hl
  refine lv_iload_n (pc := 0) hx hb dX12_isSlot_0 rfl (lv_at hl 0 rfl) ?_
  refine lv_i2l (pc := 1) hx hb dX12_isSlot_1 rfl ?_
  refine lv_lconst (pc := 2) (v := 0) hx hb dX12_isSlot_2 (by decide) ?_
  refine lv_ldc2 (pc := 3) hx hb hown (hts _ zk_X12_454) dX12_isSlot_3 ?_
  refine zcallSi (pc := 6) (As := [.long p0.toInt64, .long 0, .long 3]) (rest := []) ⟨hx, hb, hml, hown, hts⟩ (cs_in l D c o σ p0.toInt64 0 3) zT_X12_94 rfl zd_X12_in ⟨Nat.le_of_ble_eq_true rfl, Nat.le_of_ble_eq_true rfl⟩ hK hP hS hl.1 rfl (Nat.le_of_ble_eq_true rfl) ⟨Nat.zero_le _, Nat.zero_le _⟩ dX12_isSlot_6 (fun r1 σ2 H locs hw3 hP hS => ?_)
  obtain ⟨er1, rfl⟩ := hw3
  have er1 : r1 = zin3 p0.toInt 0 3 := er1.trans (by (try simp only [Int32.toInt_toInt64]); rfl)
  exact zretz (pc := 9) hx hb hr hlocks hP hK hS (znar3 er1) ⟨er1, rfl⟩ dX12_isSlot_9

set_option maxHeartbeats 4000000 in
set_option maxRecDepth 100000 in
theorem nw_X12_judge (l : Launch) (D : va_G) (c : zC) (o : Nat) (σ : zS) (p0 p1 : Int32) (hR : zRef o σ.2.2) (h0 : σ.1 219 0 = 0) : Met l yX12_judge zs_X12_judge (zr 8) (va_Pc [.ref (o + 218), .int p0, .int p1] (zQ D c o σ)) (va_Qi (fun (r : Int32) (σ1 : zS) => r = -2 ∧ σ = σ1) (zQ D c o) (zA o)) 0 0 (zA o) := by
  refine zMet (by decide) (Nat.le_of_ble_eq_true rfl) ?_
  intro p e s m below meth cd ⟨hx, hb, hr, hml, hown, hts, hlocks⟩ hP hK ls hl
  have hS : va_S (zA o) s.heap s.heap [] := va_S.rf
  have hl : lv_has ls 5 [(0, .ref (o + 218)), (1, .int p0), (2, .int p1)] := hl
  refine lv_iload_n (pc := 0) hx hb dX12_judge_0 rfl (lv_at hl 1 rfl) ?_
  refine zcallSi (pc := 1) (As := [.int p0]) (rest := []) ⟨hx, hb, hml, hown, hts⟩ (cs_X12_isSlot l D c o σ p0) zT_X12_448 rfl zd_X12_isSlot ⟨Nat.le_of_ble_eq_true rfl, Nat.le_of_ble_eq_true rfl⟩ hK hP hS hl.1 rfl (Nat.le_of_ble_eq_true rfl) ⟨Nat.zero_le _, Nat.zero_le _⟩ dX12_judge_1 (fun r1 σ2 H locs hw3 hP hS => ?_)
  obtain ⟨er1, rfl⟩ := hw3
  refine lv_if_eq (pc := 4) (tgt := 15) hx hb dX12_judge_4 (by decide) (fun c4 => ?_) (fun c4 => ?_)
  · refine lv_bipush (pc := 15) (v := (-2)) hx hb dX12_judge_15 (by decide) ?_
    exact zreti (pc := 17) hx hb hr hlocks hP hK hS ⟨rfl, rfl⟩ dX12_judge_17
  · refine lv_aload_n (pc := 7) hx hb dX12_judge_7 rfl (lv_at hl 0 rfl) ?_
    refine lv_iload_n (pc := 8) hx hb dX12_judge_8 rfl (lv_at hl 2 rfl) ?_
    refine zcallVi (pc := 9) (k := 218) (As := [.int p1]) (rest := []) ⟨hx, hb, hml, hown, hts⟩ (nw_X12_isRegister l D c o σ p1 hR h0) zc12 zV_X12_321 rfl zd_X12_isRegister ⟨Nat.le_of_ble_eq_true rfl, Nat.le_of_ble_eq_true rfl⟩ hK hP hS rfl (by decide) hl.1 rfl (Nat.le_of_ble_eq_true rfl) ⟨Nat.zero_le _, Nat.zero_le _⟩ dX12_judge_9 (fun r5 σ6 H locs hw7 hP hS => ?_)
    obtain ⟨rfl, rfl⟩ := hw7
    refine lv_if_ne (pc := 12) (tgt := 18) hx hb dX12_judge_12 (by decide) (fun c8 => absurd c8 (by decide)) (fun _ => ?_)
    refine lv_bipush (pc := 15) (v := (-2)) hx hb dX12_judge_15 (by decide) ?_
    exact zreti (pc := 17) hx hb hr hlocks hP hK hS ⟨rfl, rfl⟩ dX12_judge_17

set_option maxHeartbeats 4000000 in
set_option maxRecDepth 100000 in
theorem nw_X12_put (l : Launch) (D : va_G) (c : zC) (o : Nat) (σ : zS) (p0 : Int32) (hR : zRef o σ.2.2) (h0 : σ.1 219 0 = 0) : Met l yX12_put zs_X12_put (zr 8) (va_Pc [.ref (o + 218), .int p0] (zQ D c o σ)) (va_Qi (fun (r : Int32) (σ1 : zS) => r = -2) (zQ D c o) (zA o)) 0 0 (zA o) := by
  refine zMet (by decide) (Nat.le_of_ble_eq_true rfl) ?_
  intro p e s m below meth cd ⟨hx, hb, hr, hml, hown, hts, hlocks⟩ hP hK ls hl
  have hS : va_S (zA o) s.heap s.heap [] := va_S.rf
  have hl : lv_has ls 3 [(0, .ref (o + 218)), (1, .int p0)] := hl
  refine lv_aload_n (pc := 0) hx hb dX12_put_0 rfl (lv_at hl 0 rfl) ?_
  refine lv_iload_n (pc := 1) hx hb dX12_put_1 rfl (lv_at hl 1 rfl) ?_
  refine zcallVi (pc := 2) (k := 218) (As := [.int p0]) (rest := []) ⟨hx, hb, hml, hown, hts⟩ (nw_X12_isRegister l D c o σ p0 hR h0) zc12 zV_X12_321 rfl zd_X12_isRegister ⟨Nat.le_of_ble_eq_true rfl, Nat.le_of_ble_eq_true rfl⟩ hK hP hS rfl (by decide) hl.1 rfl (Nat.le_of_ble_eq_true rfl) ⟨Nat.zero_le _, Nat.zero_le _⟩ dX12_put_2 (fun r1 σ2 H locs hw3 hP hS => ?_)
  obtain ⟨rfl, rfl⟩ := hw3
  refine lv_if_ne (pc := 5) (tgt := 16) hx hb dX12_put_5 (by decide) (fun c4 => absurd c4 (by decide)) (fun _ => ?_)
  refine lv_aload_n (pc := 8) hx hb dX12_put_8 rfl (lv_at hl 0 rfl) ?_
  refine lv_iconst (pc := 9) (v := 0) hx hb dX12_put_9 (by decide) ?_
  refine zputI (pc := 10) (k := 218) (j := 7) zc12 hx hb hts hown hK hP hS rfl (by decide) rfl rfl rfl zf_X12_107 dX12_put_10 (fun H locs hP hS => ?_)
  obtain ⟨σ5, eσ5⟩ : ∃ x : zS, x = zI σ 218 (upd (σ.1 218) 7 0) := ⟨_, rfl⟩
  have hP : zP D c o σ5 H := by rw [eσ5]; exact hP
  have h0 : σ5.1 219 0 = 0 := zI_ne eσ5 (by decide) h0
  have f218_7 : σ5.1 218 7 = 0 := zI_eq eσ5 pk_us
  have hR : zRef o σ5.2.2 := zI_ref eσ5 hR
  refine lv_bipush (pc := 13) (v := (-2)) hx hb dX12_put_13 (by decide) ?_
  exact zreti (pc := 15) hx hb hr hlocks hP hK hS rfl dX12_put_15

set_option maxHeartbeats 4000000 in
set_option maxRecDepth 100000 in
theorem fr_X12_end (l : Launch) (D : va_G) (c : zC) (o : Nat) (σ : zS) (p0 : Int32) (hR : zRef o σ.2.2) (ht : σ.1 218 7 = 0) : Met l yX12_end zs_X12_end (zr 3) (va_Pc [.ref (o + 218), .int p0] (zQ D c o σ)) (va_Qi (fun (r : Int32) (σ1 : zS) => r = zsp_end p0) (zQ D c o) (zA o)) 0 0 (zA o) := by
  refine zMet (by decide) (Nat.le_of_ble_eq_true rfl) ?_
  intro p e s m below meth cd ⟨hx, hb, hr, hml, hown, hts, hlocks⟩ hP hK ls hl
  have hS : va_S (zA o) s.heap s.heap [] := va_S.rf
  have hl : lv_has ls 2 [(0, .ref (o + 218)), (1, .int p0)] := hl
  refine lv_iload_n (pc := 0) hx hb dX12_end_0 rfl (lv_at hl 1 rfl) ?_
  refine lv_i2l (pc := 1) hx hb dX12_end_1 rfl ?_
  refine lv_lconst (pc := 2) (v := 0) hx hb dX12_end_2 (by decide) ?_
  refine lv_aload_n (pc := 3) hx hb dX12_end_3 rfl (lv_at hl 0 rfl) ?_
  refine zgetI (pc := 4) (k := 218) (j := 7) (v := 0) zc12 hx hb hts hown hK hP rfl (by decide) rfl ht zf_X12_107 dX12_end_4 ?_
  refine lv_i2l (pc := 7) (v := 0) hx hb dX12_end_7 (by decide) ?_
  refine zcallSi (pc := 8) (As := [.long p0.toInt64, .long 0, .long 0]) (rest := []) ⟨hx, hb, hml, hown, hts⟩ (cs_in l D c o σ p0.toInt64 0 0) zT_X12_94 rfl zd_X12_in ⟨Nat.le_of_ble_eq_true rfl, Nat.le_of_ble_eq_true rfl⟩ hK hP hS hl.1 rfl (Nat.le_of_ble_eq_true rfl) ⟨Nat.zero_le _, Nat.zero_le _⟩ dX12_end_8 (fun r1 σ2 H locs hw3 hP hS => ?_)
  obtain ⟨er1, rfl⟩ := hw3
  have er1 : r1 = zin3 p0.toInt 0 0 := er1.trans (by (try simp only [Int32.toInt_toInt64]); rfl)
  refine lv_if_ne (pc := 11) (tgt := 16) hx hb dX12_end_11 (by decide) (fun c4 => ?_) (fun c4 => ?_)
  · refine lv_aload_n (pc := 16) hx hb dX12_end_16 rfl (lv_at hl 0 rfl) ?_
    refine lv_iload_n (pc := 17) hx hb dX12_end_17 rfl (lv_at hl 1 rfl) ?_
    refine zputI (pc := 18) (k := 218) (j := 7) zc12 hx hb hts hown hK hP hS rfl (by decide) rfl rfl rfl zf_X12_107 dX12_end_18 (fun H locs hP hS => ?_)
    obtain ⟨σ5, eσ5⟩ : ∃ x : zS, x = zI σ 218 (upd (σ.1 218) 7 p0) := ⟨_, rfl⟩
    have hP : zP D c o σ5 H := by rw [eσ5]; exact hP
    have f218_7 : σ5.1 218 7 = p0 := zI_eq eσ5 pk_us
    have hR : zRef o σ5.2.2 := zI_ref eσ5 hR
    refine lv_iload_n (pc := 21) hx hb dX12_end_21 rfl (lv_at hl 1 rfl) ?_
    exact zreti (pc := 22) hx hb hr hlocks hP hK hS (by have h := zin_ne er1 c4; have h2 : p0 = 0 := zcase (by rw [zt0]; omega); subst h2; rfl) dX12_end_22
  · refine lv_iconst (pc := 14) (v := (-1)) hx hb dX12_end_14 (by decide) ?_
    exact zreti (pc := 15) hx hb hr hlocks hP hK hS (if_neg (fun h => by subst h; exact zin_eq er1 c4 (by decide))).symm dX12_end_15

set_option maxHeartbeats 4000000 in
set_option maxRecDepth 100000 in
theorem fr_X12_fault (l : Launch) (D : va_G) (c : zC) (o : Nat) (σ : zS) (p0 : Int32) (hk : σ.1 218 14 = 0) (hp : σ.1 218 15 = -1) : Met l yX12_fault zs_X12_fault (zr 1) (va_Pc [.ref (o + 218), .int p0] (zQ D c o σ)) (va_Qi (fun (r : Int32) (σ1 : zS) => r = zsp_fault p0) (zQ D c o) (zA o)) 0 0 (zA o) := by
  refine zMet (by decide) (Nat.le_of_ble_eq_true rfl) ?_
  intro p e s m below meth cd ⟨hx, hb, hr, hml, hown, hts, hlocks⟩ hP hK ls hl
  have hS : va_S (zA o) s.heap s.heap [] := va_S.rf
  have hl : lv_has ls 2 [(0, .ref (o + 218)), (1, .int p0)] := hl
  refine lv_iload_n (pc := 0) hx hb dX12_fault_0 rfl (lv_at hl 1 rfl) ?_
  refine lv_if_ne (pc := 1) (tgt := 11) hx hb dX12_fault_1 (by decide) (fun c1 => ?_) (fun c1 => ?_)
  · refine lv_iload_n (pc := 11) hx hb dX12_fault_11 rfl (lv_at hl 1 rfl) ?_
    refine lv_iconst (pc := 12) (v := 1) hx hb dX12_fault_12 (by decide) ?_
    refine lv_icmp_ne (pc := 13) (tgt := 23) hx hb dX12_fault_13 (by decide) (fun c2 => ?_) (fun c2 => ?_)
    · refine lv_iconst (pc := 23) (v := (-1)) hx hb dX12_fault_23 (by decide) ?_
      exact zreti (pc := 24) hx hb hr hlocks hP hK hS (if_neg c1).symm dX12_fault_24
    · refine lv_aload_n (pc := 16) hx hb dX12_fault_16 rfl (lv_at hl 0 rfl) ?_
      refine zgetI (pc := 17) (k := 218) (j := 15) (v := (-1)) zc12 hx hb hts hown hK hP rfl (by decide) rfl hp zf_X12_33 dX12_fault_17 ?_
      refine lv_goto (pc := 20) (tgt := 24) hx hb dX12_fault_20 (by decide) ?_
      exact zreti (pc := 24) hx hb hr hlocks hP hK hS (if_neg c1).symm dX12_fault_24
  · refine lv_aload_n (pc := 4) hx hb dX12_fault_4 rfl (lv_at hl 0 rfl) ?_
    refine zgetI (pc := 5) (k := 218) (j := 14) (v := 0) zc12 hx hb hts hown hK hP rfl (by decide) rfl hk zf_X12_148 dX12_fault_5 ?_
    refine lv_goto (pc := 8) (tgt := 24) hx hb dX12_fault_8 (by decide) ?_
    exact zreti (pc := 24) hx hb hr hlocks hP hK hS (if_pos c1).symm dX12_fault_24

set_option maxHeartbeats 4000000 in
set_option maxRecDepth 100000 in
theorem fr_X12_feed (l : Launch) (D : va_G) (c : zC) (o : Nat) (σ : zS) (p0 p1 p2 p3 p4 : Int32) (hR : zRef o σ.2.2) (ht : σ.1 218 7 = 0) : Met l yX12_feed zs_X12_feed (zr 2) (va_Pc [.ref (o + 218), .int p0, .int p1, .int p2, .int p3, .int p4] (zQ D c o σ)) (va_Qi (fun (r : Int32) (σ1 : zS) => r = 20) (zQ D c o) (zA o)) 0 0 (zA o) := by
  refine zMet (by decide) (Nat.le_of_ble_eq_true rfl) ?_
  intro p e s m below meth cd ⟨hx, hb, hr, hml, hown, hts, hlocks⟩ hP hK ls hl
  have hS : va_S (zA o) s.heap s.heap [] := va_S.rf
  have hl : lv_has ls 7 [(0, .ref (o + 218)), (1, .int p0), (2, .int p1), (3, .int p2), (4, .int p3), (5, .int p4)] := hl
  refine lv_aload_n (pc := 0) hx hb dX12_feed_0 rfl (lv_at hl 0 rfl) ?_
  refine zgetI (pc := 1) (k := 218) (j := 7) (v := 0) zc12 hx hb hts hown hK hP rfl (by decide) rfl ht zf_X12_107 dX12_feed_1 ?_
  refine lv_bipush (pc := 4) (v := 20) hx hb dX12_feed_4 (by decide) ?_
  refine lv_iadd (pc := 6) hx hb dX12_feed_6 ?_
  refine lv_topi (pc := 7) (fun v1 ev1 => ?_)
  obtain rfl : v1 = 20 := ev1.trans (by decide)
  refine lv_sipush (pc := 7) (v := 600) hx hb dX12_feed_7 (by decide) ?_
  refine lv_icmp_le (pc := 10) (tgt := 15) hx hb dX12_feed_10 (by decide) (fun _ => ?_) (fun c2 => absurd c2 (by decide))
  refine lv_aload_n (pc := 15) hx hb dX12_feed_15 rfl (lv_at hl 0 rfl) ?_
  refine zgetR (pc := 16) (k := 218) (j := 8) (a := o + 225) zc12 hx hb hts hown hK hP rfl (by decide) rfl (hR 218 8 rfl) zf_X12_30 dX12_feed_16 ?_
  refine lv_iconst (pc := 19) (v := 0) hx hb dX12_feed_19 (by decide) ?_
  refine lv_iload_n (pc := 20) hx hb dX12_feed_20 rfl (lv_at hl 1 rfl) ?_
  refine ziast (pc := 21) (k := 225) (n := 5) hx hb hK hP hS rfl (by decide) (vp_in_iff.mpr ⟨by decide, by decide⟩) dX12_feed_21 (fun H locs hP hS => ?_)
  obtain ⟨σ3, eσ3⟩ : ∃ x : zS, x = zI σ 225 (upd (σ.1 225) 0 p0) := ⟨_, rfl⟩
  have hP : zP D c o σ3 H := by rw [eσ3]; exact hP
  have ht : σ3.1 218 7 = 0 := zI_ne eσ3 (by decide) ht
  have f225_0 : σ3.1 225 0 = p0 := zI_eq eσ3 pk_us
  have hR : zRef o σ3.2.2 := zI_ref eσ3 hR
  refine lv_aload_n (pc := 22) hx hb dX12_feed_22 rfl (lv_at hl 0 rfl) ?_
  refine zgetR (pc := 23) (k := 218) (j := 8) (a := o + 225) zc12 hx hb hts hown hK hP rfl (by decide) rfl (hR 218 8 rfl) zf_X12_30 dX12_feed_23 ?_
  refine lv_iconst (pc := 26) (v := 1) hx hb dX12_feed_26 (by decide) ?_
  refine lv_iload_n (pc := 27) hx hb dX12_feed_27 rfl (lv_at hl 2 rfl) ?_
  refine ziast (pc := 28) (k := 225) (n := 5) hx hb hK hP hS rfl (by decide) (vp_in_iff.mpr ⟨by decide, by decide⟩) dX12_feed_28 (fun H locs hP hS => ?_)
  obtain ⟨σ4, eσ4⟩ : ∃ x : zS, x = zI σ3 225 (upd (σ3.1 225) 1 p1) := ⟨_, rfl⟩
  have hP : zP D c o σ4 H := by rw [eσ4]; exact hP
  have ht : σ4.1 218 7 = 0 := zI_ne eσ4 (by decide) ht
  have f225_0 : σ4.1 225 0 = p0 := zI_eq eσ4 ((pk_un (by decide)).trans f225_0)
  have f225_1 : σ4.1 225 1 = p1 := zI_eq eσ4 pk_us
  have hR : zRef o σ4.2.2 := zI_ref eσ4 hR
  refine lv_aload_n (pc := 29) hx hb dX12_feed_29 rfl (lv_at hl 0 rfl) ?_
  refine zgetR (pc := 30) (k := 218) (j := 8) (a := o + 225) zc12 hx hb hts hown hK hP rfl (by decide) rfl (hR 218 8 rfl) zf_X12_30 dX12_feed_30 ?_
  refine lv_iconst (pc := 33) (v := 2) hx hb dX12_feed_33 (by decide) ?_
  refine lv_iload_n (pc := 34) hx hb dX12_feed_34 rfl (lv_at hl 3 rfl) ?_
  refine ziast (pc := 35) (k := 225) (n := 5) hx hb hK hP hS rfl (by decide) (vp_in_iff.mpr ⟨by decide, by decide⟩) dX12_feed_35 (fun H locs hP hS => ?_)
  obtain ⟨σ5, eσ5⟩ : ∃ x : zS, x = zI σ4 225 (upd (σ4.1 225) 2 p2) := ⟨_, rfl⟩
  have hP : zP D c o σ5 H := by rw [eσ5]; exact hP
  have ht : σ5.1 218 7 = 0 := zI_ne eσ5 (by decide) ht
  have f225_0 : σ5.1 225 0 = p0 := zI_eq eσ5 ((pk_un (by decide)).trans f225_0)
  have f225_1 : σ5.1 225 1 = p1 := zI_eq eσ5 ((pk_un (by decide)).trans f225_1)
  have f225_2 : σ5.1 225 2 = p2 := zI_eq eσ5 pk_us
  have hR : zRef o σ5.2.2 := zI_ref eσ5 hR
  refine lv_aload_n (pc := 36) hx hb dX12_feed_36 rfl (lv_at hl 0 rfl) ?_
  refine zgetR (pc := 37) (k := 218) (j := 8) (a := o + 225) zc12 hx hb hts hown hK hP rfl (by decide) rfl (hR 218 8 rfl) zf_X12_30 dX12_feed_37 ?_
  refine lv_iconst (pc := 40) (v := 3) hx hb dX12_feed_40 (by decide) ?_
  refine lv_iload (pc := 41) hx hb dX12_feed_41 (lv_at hl 4 rfl) ?_
  refine ziast (pc := 43) (k := 225) (n := 5) hx hb hK hP hS rfl (by decide) (vp_in_iff.mpr ⟨by decide, by decide⟩) dX12_feed_43 (fun H locs hP hS => ?_)
  obtain ⟨σ6, eσ6⟩ : ∃ x : zS, x = zI σ5 225 (upd (σ5.1 225) 3 p3) := ⟨_, rfl⟩
  have hP : zP D c o σ6 H := by rw [eσ6]; exact hP
  have ht : σ6.1 218 7 = 0 := zI_ne eσ6 (by decide) ht
  have f225_0 : σ6.1 225 0 = p0 := zI_eq eσ6 ((pk_un (by decide)).trans f225_0)
  have f225_1 : σ6.1 225 1 = p1 := zI_eq eσ6 ((pk_un (by decide)).trans f225_1)
  have f225_2 : σ6.1 225 2 = p2 := zI_eq eσ6 ((pk_un (by decide)).trans f225_2)
  have f225_3 : σ6.1 225 3 = p3 := zI_eq eσ6 pk_us
  have hR : zRef o σ6.2.2 := zI_ref eσ6 hR
  refine lv_aload_n (pc := 44) hx hb dX12_feed_44 rfl (lv_at hl 0 rfl) ?_
  refine zgetR (pc := 45) (k := 218) (j := 8) (a := o + 225) zc12 hx hb hts hown hK hP rfl (by decide) rfl (hR 218 8 rfl) zf_X12_30 dX12_feed_45 ?_
  refine lv_iconst (pc := 48) (v := 4) hx hb dX12_feed_48 (by decide) ?_
  refine lv_iload (pc := 49) hx hb dX12_feed_49 (lv_at hl 5 rfl) ?_
  refine ziast (pc := 51) (k := 225) (n := 5) hx hb hK hP hS rfl (by decide) (vp_in_iff.mpr ⟨by decide, by decide⟩) dX12_feed_51 (fun H locs hP hS => ?_)
  obtain ⟨σ7, eσ7⟩ : ∃ x : zS, x = zI σ6 225 (upd (σ6.1 225) 4 p4) := ⟨_, rfl⟩
  have hP : zP D c o σ7 H := by rw [eσ7]; exact hP
  have ht : σ7.1 218 7 = 0 := zI_ne eσ7 (by decide) ht
  have f225_0 : σ7.1 225 0 = p0 := zI_eq eσ7 ((pk_un (by decide)).trans f225_0)
  have f225_1 : σ7.1 225 1 = p1 := zI_eq eσ7 ((pk_un (by decide)).trans f225_1)
  have f225_2 : σ7.1 225 2 = p2 := zI_eq eσ7 ((pk_un (by decide)).trans f225_2)
  have f225_3 : σ7.1 225 3 = p3 := zI_eq eσ7 ((pk_un (by decide)).trans f225_3)
  have f225_4 : σ7.1 225 4 = p4 := zI_eq eσ7 pk_us
  have hR : zRef o σ7.2.2 := zI_ref eσ7 hR
  refine lv_iconst (pc := 52) (v := 0) hx hb dX12_feed_52 (by decide) ?_
  refine lv_istore (pc := 53) (lv' := [(6, .int 0), (0, .ref (o + 218)), (1, .int p0), (2, .int p1), (3, .int p2), (4, .int p3), (5, .int p4)]) hx hb dX12_feed_53 hl (by decide) rfl (fun ls hl => ?_)
  refine lv_iload (pc := 55) hx hb dX12_feed_55 (lv_at hl 0 rfl) ?_
  refine lv_bipush (pc := 57) (v := 20) hx hb dX12_feed_57 (by decide) ?_
  refine lv_icmp_ge (pc := 59) (tgt := 101) hx hb dX12_feed_59 (by decide) (fun c8 => absurd c8 (by decide)) (fun _ => ?_)
  refine lv_aload_n (pc := 62) hx hb dX12_feed_62 rfl (lv_at hl 1 rfl) ?_
  refine zgetR (pc := 63) (k := 218) (j := 6) (a := o + 224) zc12 hx hb hts hown hK hP rfl (by decide) rfl (hR 218 6 rfl) zf_X12_26 dX12_feed_63 ?_
  refine lv_aload_n (pc := 66) hx hb dX12_feed_66 rfl (lv_at hl 1 rfl) ?_
  refine zgetI (pc := 67) (k := 218) (j := 7) (v := 0) zc12 hx hb hts hown hK hP rfl (by decide) rfl ht zf_X12_107 dX12_feed_67 ?_
  refine lv_iload (pc := 70) hx hb dX12_feed_70 (lv_at hl 0 rfl) ?_
  refine lv_iadd (pc := 72) hx hb dX12_feed_72 ?_
  refine lv_topi (pc := 73) (fun v9 ev9 => ?_)
  obtain rfl : v9 = 0 := ev9.trans (by decide)
  refine lv_aload_n (pc := 73) hx hb dX12_feed_73 rfl (lv_at hl 1 rfl) ?_
  refine zgetR (pc := 74) (k := 218) (j := 8) (a := o + 225) zc12 hx hb hts hown hK hP rfl (by decide) rfl (hR 218 8 rfl) zf_X12_30 dX12_feed_74 ?_
  refine lv_iload (pc := 77) hx hb dX12_feed_77 (lv_at hl 0 rfl) ?_
  refine lv_iconst (pc := 79) (v := 4) hx hb dX12_feed_79 (by decide) ?_
  refine lv_idiv (pc := 80) hx hb dX12_feed_80 (by decide) ?_
  refine lv_topi (pc := 81) (fun v10 ev10 => ?_)
  obtain rfl : v10 = 0 := ev10.trans (by decide)
  refine ziald (pc := 81) (k := 225) (n := 5) hx hb hK hP rfl (by decide) (vp_in_iff.mpr ⟨by decide, by decide⟩) dX12_feed_81 ?_
  refine lv_topi (pc := 82) (fun v11 ev11 => ?_)
  refine lv_bipush (pc := 82) (v := 24) hx hb dX12_feed_82 (by decide) ?_
  refine lv_bipush (pc := 84) (v := 8) hx hb dX12_feed_84 (by decide) ?_
  refine lv_iload (pc := 86) hx hb dX12_feed_86 (lv_at hl 0 rfl) ?_
  refine lv_iconst (pc := 88) (v := 4) hx hb dX12_feed_88 (by decide) ?_
  refine lv_irem (pc := 89) hx hb dX12_feed_89 (by decide) ?_
  refine lv_topi (pc := 90) (fun v12 ev12 => ?_)
  obtain rfl : v12 = 0 := ev12.trans (by decide)
  refine lv_imul (pc := 90) hx hb dX12_feed_90 ?_
  refine lv_topi (pc := 91) (fun v13 ev13 => ?_)
  obtain rfl : v13 = 0 := ev13.trans (by decide)
  refine lv_isub (pc := 91) hx hb dX12_feed_91 ?_
  refine lv_topi (pc := 92) (fun v14 ev14 => ?_)
  obtain rfl : v14 = 24 := ev14.trans (by decide)
  refine lv_ishr (pc := 92) hx hb dX12_feed_92 ?_
  refine lv_topi (pc := 93) (fun v15 ev15 => ?_)
  refine lv_i2b (pc := 93) hx hb dX12_feed_93 rfl ?_
  refine lv_topi (pc := 94) (fun v16 ev16 => ?_)
  refine zbast (pc := 94) (k := 224) (n := 600) hx hb hK hP hS rfl (by decide) (vp_in_iff.mpr ⟨by decide, by decide⟩) dX12_feed_94 (fun H locs hP hS => ?_)
  obtain ⟨σ17, eσ17⟩ : ∃ x : zS, x = zI σ7 224 (upd (σ7.1 224) 0 (vp_nar .byte v16)) := ⟨_, rfl⟩
  have hP : zP D c o σ17 H := by rw [eσ17]; exact hP
  have ht : σ17.1 218 7 = 0 := zI_ne eσ17 (by decide) ht
  have f225_0 : σ17.1 225 0 = p0 := zI_ne eσ17 (by decide) f225_0
  have f225_1 : σ17.1 225 1 = p1 := zI_ne eσ17 (by decide) f225_1
  have f225_2 : σ17.1 225 2 = p2 := zI_ne eσ17 (by decide) f225_2
  have f225_3 : σ17.1 225 3 = p3 := zI_ne eσ17 (by decide) f225_3
  have f225_4 : σ17.1 225 4 = p4 := zI_ne eσ17 (by decide) f225_4
  have hR : zRef o σ17.2.2 := zI_ref eσ17 hR
  refine lv_iinc (pc := 95) (v := 1) (lv' := [(6, .int 1), (0, .ref (o + 218)), (1, .int p0), (2, .int p1), (3, .int p2), (4, .int p3), (5, .int p4)]) hx hb dX12_feed_95 hl (k := 0) rfl (by decide) (by decide) rfl (fun ls hl => ?_)
  refine lv_goto (pc := 98) (tgt := 55) hx hb dX12_feed_98 (by decide) ?_
  refine lv_iload (pc := 55) hx hb dX12_feed_55 (lv_at hl 0 rfl) ?_
  refine lv_bipush (pc := 57) (v := 20) hx hb dX12_feed_57 (by decide) ?_
  refine lv_icmp_ge (pc := 59) (tgt := 101) hx hb dX12_feed_59 (by decide) (fun c18 => absurd c18 (by decide)) (fun _ => ?_)
  refine lv_aload_n (pc := 62) hx hb dX12_feed_62 rfl (lv_at hl 1 rfl) ?_
  refine zgetR (pc := 63) (k := 218) (j := 6) (a := o + 224) zc12 hx hb hts hown hK hP rfl (by decide) rfl (hR 218 6 rfl) zf_X12_26 dX12_feed_63 ?_
  refine lv_aload_n (pc := 66) hx hb dX12_feed_66 rfl (lv_at hl 1 rfl) ?_
  refine zgetI (pc := 67) (k := 218) (j := 7) (v := 0) zc12 hx hb hts hown hK hP rfl (by decide) rfl ht zf_X12_107 dX12_feed_67 ?_
  refine lv_iload (pc := 70) hx hb dX12_feed_70 (lv_at hl 0 rfl) ?_
  refine lv_iadd (pc := 72) hx hb dX12_feed_72 ?_
  refine lv_topi (pc := 73) (fun v19 ev19 => ?_)
  obtain rfl : v19 = 1 := ev19.trans (by decide)
  refine lv_aload_n (pc := 73) hx hb dX12_feed_73 rfl (lv_at hl 1 rfl) ?_
  refine zgetR (pc := 74) (k := 218) (j := 8) (a := o + 225) zc12 hx hb hts hown hK hP rfl (by decide) rfl (hR 218 8 rfl) zf_X12_30 dX12_feed_74 ?_
  refine lv_iload (pc := 77) hx hb dX12_feed_77 (lv_at hl 0 rfl) ?_
  refine lv_iconst (pc := 79) (v := 4) hx hb dX12_feed_79 (by decide) ?_
  refine lv_idiv (pc := 80) hx hb dX12_feed_80 (by decide) ?_
  refine lv_topi (pc := 81) (fun v20 ev20 => ?_)
  obtain rfl : v20 = 0 := ev20.trans (by decide)
  refine ziald (pc := 81) (k := 225) (n := 5) hx hb hK hP rfl (by decide) (vp_in_iff.mpr ⟨by decide, by decide⟩) dX12_feed_81 ?_
  refine lv_topi (pc := 82) (fun v21 ev21 => ?_)
  refine lv_bipush (pc := 82) (v := 24) hx hb dX12_feed_82 (by decide) ?_
  refine lv_bipush (pc := 84) (v := 8) hx hb dX12_feed_84 (by decide) ?_
  refine lv_iload (pc := 86) hx hb dX12_feed_86 (lv_at hl 0 rfl) ?_
  refine lv_iconst (pc := 88) (v := 4) hx hb dX12_feed_88 (by decide) ?_
  refine lv_irem (pc := 89) hx hb dX12_feed_89 (by decide) ?_
  refine lv_topi (pc := 90) (fun v22 ev22 => ?_)
  obtain rfl : v22 = 1 := ev22.trans (by decide)
  refine lv_imul (pc := 90) hx hb dX12_feed_90 ?_
  refine lv_topi (pc := 91) (fun v23 ev23 => ?_)
  obtain rfl : v23 = 8 := ev23.trans (by decide)
  refine lv_isub (pc := 91) hx hb dX12_feed_91 ?_
  refine lv_topi (pc := 92) (fun v24 ev24 => ?_)
  obtain rfl : v24 = 16 := ev24.trans (by decide)
  refine lv_ishr (pc := 92) hx hb dX12_feed_92 ?_
  refine lv_topi (pc := 93) (fun v25 ev25 => ?_)
  refine lv_i2b (pc := 93) hx hb dX12_feed_93 rfl ?_
  refine lv_topi (pc := 94) (fun v26 ev26 => ?_)
  refine zbast (pc := 94) (k := 224) (n := 600) hx hb hK hP hS rfl (by decide) (vp_in_iff.mpr ⟨by decide, by decide⟩) dX12_feed_94 (fun H locs hP hS => ?_)
  obtain ⟨σ27, eσ27⟩ : ∃ x : zS, x = zI σ17 224 (upd (σ17.1 224) 1 (vp_nar .byte v26)) := ⟨_, rfl⟩
  have hP : zP D c o σ27 H := by rw [eσ27]; exact hP
  have ht : σ27.1 218 7 = 0 := zI_ne eσ27 (by decide) ht
  have f225_0 : σ27.1 225 0 = p0 := zI_ne eσ27 (by decide) f225_0
  have f225_1 : σ27.1 225 1 = p1 := zI_ne eσ27 (by decide) f225_1
  have f225_2 : σ27.1 225 2 = p2 := zI_ne eσ27 (by decide) f225_2
  have f225_3 : σ27.1 225 3 = p3 := zI_ne eσ27 (by decide) f225_3
  have f225_4 : σ27.1 225 4 = p4 := zI_ne eσ27 (by decide) f225_4
  have hR : zRef o σ27.2.2 := zI_ref eσ27 hR
  refine lv_iinc (pc := 95) (v := 2) (lv' := [(6, .int 2), (0, .ref (o + 218)), (1, .int p0), (2, .int p1), (3, .int p2), (4, .int p3), (5, .int p4)]) hx hb dX12_feed_95 hl (k := 0) rfl (by decide) (by decide) rfl (fun ls hl => ?_)
  refine lv_goto (pc := 98) (tgt := 55) hx hb dX12_feed_98 (by decide) ?_
  refine lv_iload (pc := 55) hx hb dX12_feed_55 (lv_at hl 0 rfl) ?_
  refine lv_bipush (pc := 57) (v := 20) hx hb dX12_feed_57 (by decide) ?_
  refine lv_icmp_ge (pc := 59) (tgt := 101) hx hb dX12_feed_59 (by decide) (fun c28 => absurd c28 (by decide)) (fun _ => ?_)
  refine lv_aload_n (pc := 62) hx hb dX12_feed_62 rfl (lv_at hl 1 rfl) ?_
  refine zgetR (pc := 63) (k := 218) (j := 6) (a := o + 224) zc12 hx hb hts hown hK hP rfl (by decide) rfl (hR 218 6 rfl) zf_X12_26 dX12_feed_63 ?_
  refine lv_aload_n (pc := 66) hx hb dX12_feed_66 rfl (lv_at hl 1 rfl) ?_
  refine zgetI (pc := 67) (k := 218) (j := 7) (v := 0) zc12 hx hb hts hown hK hP rfl (by decide) rfl ht zf_X12_107 dX12_feed_67 ?_
  refine lv_iload (pc := 70) hx hb dX12_feed_70 (lv_at hl 0 rfl) ?_
  refine lv_iadd (pc := 72) hx hb dX12_feed_72 ?_
  refine lv_topi (pc := 73) (fun v29 ev29 => ?_)
  obtain rfl : v29 = 2 := ev29.trans (by decide)
  refine lv_aload_n (pc := 73) hx hb dX12_feed_73 rfl (lv_at hl 1 rfl) ?_
  refine zgetR (pc := 74) (k := 218) (j := 8) (a := o + 225) zc12 hx hb hts hown hK hP rfl (by decide) rfl (hR 218 8 rfl) zf_X12_30 dX12_feed_74 ?_
  refine lv_iload (pc := 77) hx hb dX12_feed_77 (lv_at hl 0 rfl) ?_
  refine lv_iconst (pc := 79) (v := 4) hx hb dX12_feed_79 (by decide) ?_
  refine lv_idiv (pc := 80) hx hb dX12_feed_80 (by decide) ?_
  refine lv_topi (pc := 81) (fun v30 ev30 => ?_)
  obtain rfl : v30 = 0 := ev30.trans (by decide)
  refine ziald (pc := 81) (k := 225) (n := 5) hx hb hK hP rfl (by decide) (vp_in_iff.mpr ⟨by decide, by decide⟩) dX12_feed_81 ?_
  refine lv_topi (pc := 82) (fun v31 ev31 => ?_)
  refine lv_bipush (pc := 82) (v := 24) hx hb dX12_feed_82 (by decide) ?_
  refine lv_bipush (pc := 84) (v := 8) hx hb dX12_feed_84 (by decide) ?_
  refine lv_iload (pc := 86) hx hb dX12_feed_86 (lv_at hl 0 rfl) ?_
  refine lv_iconst (pc := 88) (v := 4) hx hb dX12_feed_88 (by decide) ?_
  refine lv_irem (pc := 89) hx hb dX12_feed_89 (by decide) ?_
  refine lv_topi (pc := 90) (fun v32 ev32 => ?_)
  obtain rfl : v32 = 2 := ev32.trans (by decide)
  refine lv_imul (pc := 90) hx hb dX12_feed_90 ?_
  refine lv_topi (pc := 91) (fun v33 ev33 => ?_)
  obtain rfl : v33 = 16 := ev33.trans (by decide)
  refine lv_isub (pc := 91) hx hb dX12_feed_91 ?_
  refine lv_topi (pc := 92) (fun v34 ev34 => ?_)
  obtain rfl : v34 = 8 := ev34.trans (by decide)
  refine lv_ishr (pc := 92) hx hb dX12_feed_92 ?_
  refine lv_topi (pc := 93) (fun v35 ev35 => ?_)
  refine lv_i2b (pc := 93) hx hb dX12_feed_93 rfl ?_
  refine lv_topi (pc := 94) (fun v36 ev36 => ?_)
  refine zbast (pc := 94) (k := 224) (n := 600) hx hb hK hP hS rfl (by decide) (vp_in_iff.mpr ⟨by decide, by decide⟩) dX12_feed_94 (fun H locs hP hS => ?_)
  obtain ⟨σ37, eσ37⟩ : ∃ x : zS, x = zI σ27 224 (upd (σ27.1 224) 2 (vp_nar .byte v36)) := ⟨_, rfl⟩
  have hP : zP D c o σ37 H := by rw [eσ37]; exact hP
  have ht : σ37.1 218 7 = 0 := zI_ne eσ37 (by decide) ht
  have f225_0 : σ37.1 225 0 = p0 := zI_ne eσ37 (by decide) f225_0
  have f225_1 : σ37.1 225 1 = p1 := zI_ne eσ37 (by decide) f225_1
  have f225_2 : σ37.1 225 2 = p2 := zI_ne eσ37 (by decide) f225_2
  have f225_3 : σ37.1 225 3 = p3 := zI_ne eσ37 (by decide) f225_3
  have f225_4 : σ37.1 225 4 = p4 := zI_ne eσ37 (by decide) f225_4
  have hR : zRef o σ37.2.2 := zI_ref eσ37 hR
  refine lv_iinc (pc := 95) (v := 3) (lv' := [(6, .int 3), (0, .ref (o + 218)), (1, .int p0), (2, .int p1), (3, .int p2), (4, .int p3), (5, .int p4)]) hx hb dX12_feed_95 hl (k := 0) rfl (by decide) (by decide) rfl (fun ls hl => ?_)
  refine lv_goto (pc := 98) (tgt := 55) hx hb dX12_feed_98 (by decide) ?_
  refine lv_iload (pc := 55) hx hb dX12_feed_55 (lv_at hl 0 rfl) ?_
  refine lv_bipush (pc := 57) (v := 20) hx hb dX12_feed_57 (by decide) ?_
  refine lv_icmp_ge (pc := 59) (tgt := 101) hx hb dX12_feed_59 (by decide) (fun c38 => absurd c38 (by decide)) (fun _ => ?_)
  refine lv_aload_n (pc := 62) hx hb dX12_feed_62 rfl (lv_at hl 1 rfl) ?_
  refine zgetR (pc := 63) (k := 218) (j := 6) (a := o + 224) zc12 hx hb hts hown hK hP rfl (by decide) rfl (hR 218 6 rfl) zf_X12_26 dX12_feed_63 ?_
  refine lv_aload_n (pc := 66) hx hb dX12_feed_66 rfl (lv_at hl 1 rfl) ?_
  refine zgetI (pc := 67) (k := 218) (j := 7) (v := 0) zc12 hx hb hts hown hK hP rfl (by decide) rfl ht zf_X12_107 dX12_feed_67 ?_
  refine lv_iload (pc := 70) hx hb dX12_feed_70 (lv_at hl 0 rfl) ?_
  refine lv_iadd (pc := 72) hx hb dX12_feed_72 ?_
  refine lv_topi (pc := 73) (fun v39 ev39 => ?_)
  obtain rfl : v39 = 3 := ev39.trans (by decide)
  refine lv_aload_n (pc := 73) hx hb dX12_feed_73 rfl (lv_at hl 1 rfl) ?_
  refine zgetR (pc := 74) (k := 218) (j := 8) (a := o + 225) zc12 hx hb hts hown hK hP rfl (by decide) rfl (hR 218 8 rfl) zf_X12_30 dX12_feed_74 ?_
  refine lv_iload (pc := 77) hx hb dX12_feed_77 (lv_at hl 0 rfl) ?_
  refine lv_iconst (pc := 79) (v := 4) hx hb dX12_feed_79 (by decide) ?_
  refine lv_idiv (pc := 80) hx hb dX12_feed_80 (by decide) ?_
  refine lv_topi (pc := 81) (fun v40 ev40 => ?_)
  obtain rfl : v40 = 0 := ev40.trans (by decide)
  refine ziald (pc := 81) (k := 225) (n := 5) hx hb hK hP rfl (by decide) (vp_in_iff.mpr ⟨by decide, by decide⟩) dX12_feed_81 ?_
  refine lv_topi (pc := 82) (fun v41 ev41 => ?_)
  refine lv_bipush (pc := 82) (v := 24) hx hb dX12_feed_82 (by decide) ?_
  refine lv_bipush (pc := 84) (v := 8) hx hb dX12_feed_84 (by decide) ?_
  refine lv_iload (pc := 86) hx hb dX12_feed_86 (lv_at hl 0 rfl) ?_
  refine lv_iconst (pc := 88) (v := 4) hx hb dX12_feed_88 (by decide) ?_
  refine lv_irem (pc := 89) hx hb dX12_feed_89 (by decide) ?_
  refine lv_topi (pc := 90) (fun v42 ev42 => ?_)
  obtain rfl : v42 = 3 := ev42.trans (by decide)
  refine lv_imul (pc := 90) hx hb dX12_feed_90 ?_
  refine lv_topi (pc := 91) (fun v43 ev43 => ?_)
  obtain rfl : v43 = 24 := ev43.trans (by decide)
  refine lv_isub (pc := 91) hx hb dX12_feed_91 ?_
  refine lv_topi (pc := 92) (fun v44 ev44 => ?_)
  obtain rfl : v44 = 0 := ev44.trans (by decide)
  refine lv_ishr (pc := 92) hx hb dX12_feed_92 ?_
  refine lv_topi (pc := 93) (fun v45 ev45 => ?_)
  refine lv_i2b (pc := 93) hx hb dX12_feed_93 rfl ?_
  refine lv_topi (pc := 94) (fun v46 ev46 => ?_)
  refine zbast (pc := 94) (k := 224) (n := 600) hx hb hK hP hS rfl (by decide) (vp_in_iff.mpr ⟨by decide, by decide⟩) dX12_feed_94 (fun H locs hP hS => ?_)
  obtain ⟨σ47, eσ47⟩ : ∃ x : zS, x = zI σ37 224 (upd (σ37.1 224) 3 (vp_nar .byte v46)) := ⟨_, rfl⟩
  have hP : zP D c o σ47 H := by rw [eσ47]; exact hP
  have ht : σ47.1 218 7 = 0 := zI_ne eσ47 (by decide) ht
  have f225_0 : σ47.1 225 0 = p0 := zI_ne eσ47 (by decide) f225_0
  have f225_1 : σ47.1 225 1 = p1 := zI_ne eσ47 (by decide) f225_1
  have f225_2 : σ47.1 225 2 = p2 := zI_ne eσ47 (by decide) f225_2
  have f225_3 : σ47.1 225 3 = p3 := zI_ne eσ47 (by decide) f225_3
  have f225_4 : σ47.1 225 4 = p4 := zI_ne eσ47 (by decide) f225_4
  have hR : zRef o σ47.2.2 := zI_ref eσ47 hR
  refine lv_iinc (pc := 95) (v := 4) (lv' := [(6, .int 4), (0, .ref (o + 218)), (1, .int p0), (2, .int p1), (3, .int p2), (4, .int p3), (5, .int p4)]) hx hb dX12_feed_95 hl (k := 0) rfl (by decide) (by decide) rfl (fun ls hl => ?_)
  refine lv_goto (pc := 98) (tgt := 55) hx hb dX12_feed_98 (by decide) ?_
  refine lv_iload (pc := 55) hx hb dX12_feed_55 (lv_at hl 0 rfl) ?_
  refine lv_bipush (pc := 57) (v := 20) hx hb dX12_feed_57 (by decide) ?_
  refine lv_icmp_ge (pc := 59) (tgt := 101) hx hb dX12_feed_59 (by decide) (fun c48 => absurd c48 (by decide)) (fun _ => ?_)
  refine lv_aload_n (pc := 62) hx hb dX12_feed_62 rfl (lv_at hl 1 rfl) ?_
  refine zgetR (pc := 63) (k := 218) (j := 6) (a := o + 224) zc12 hx hb hts hown hK hP rfl (by decide) rfl (hR 218 6 rfl) zf_X12_26 dX12_feed_63 ?_
  refine lv_aload_n (pc := 66) hx hb dX12_feed_66 rfl (lv_at hl 1 rfl) ?_
  refine zgetI (pc := 67) (k := 218) (j := 7) (v := 0) zc12 hx hb hts hown hK hP rfl (by decide) rfl ht zf_X12_107 dX12_feed_67 ?_
  refine lv_iload (pc := 70) hx hb dX12_feed_70 (lv_at hl 0 rfl) ?_
  refine lv_iadd (pc := 72) hx hb dX12_feed_72 ?_
  refine lv_topi (pc := 73) (fun v49 ev49 => ?_)
  obtain rfl : v49 = 4 := ev49.trans (by decide)
  refine lv_aload_n (pc := 73) hx hb dX12_feed_73 rfl (lv_at hl 1 rfl) ?_
  refine zgetR (pc := 74) (k := 218) (j := 8) (a := o + 225) zc12 hx hb hts hown hK hP rfl (by decide) rfl (hR 218 8 rfl) zf_X12_30 dX12_feed_74 ?_
  refine lv_iload (pc := 77) hx hb dX12_feed_77 (lv_at hl 0 rfl) ?_
  refine lv_iconst (pc := 79) (v := 4) hx hb dX12_feed_79 (by decide) ?_
  refine lv_idiv (pc := 80) hx hb dX12_feed_80 (by decide) ?_
  refine lv_topi (pc := 81) (fun v50 ev50 => ?_)
  obtain rfl : v50 = 1 := ev50.trans (by decide)
  refine ziald (pc := 81) (k := 225) (n := 5) hx hb hK hP rfl (by decide) (vp_in_iff.mpr ⟨by decide, by decide⟩) dX12_feed_81 ?_
  refine lv_topi (pc := 82) (fun v51 ev51 => ?_)
  refine lv_bipush (pc := 82) (v := 24) hx hb dX12_feed_82 (by decide) ?_
  refine lv_bipush (pc := 84) (v := 8) hx hb dX12_feed_84 (by decide) ?_
  refine lv_iload (pc := 86) hx hb dX12_feed_86 (lv_at hl 0 rfl) ?_
  refine lv_iconst (pc := 88) (v := 4) hx hb dX12_feed_88 (by decide) ?_
  refine lv_irem (pc := 89) hx hb dX12_feed_89 (by decide) ?_
  refine lv_topi (pc := 90) (fun v52 ev52 => ?_)
  obtain rfl : v52 = 0 := ev52.trans (by decide)
  refine lv_imul (pc := 90) hx hb dX12_feed_90 ?_
  refine lv_topi (pc := 91) (fun v53 ev53 => ?_)
  obtain rfl : v53 = 0 := ev53.trans (by decide)
  refine lv_isub (pc := 91) hx hb dX12_feed_91 ?_
  refine lv_topi (pc := 92) (fun v54 ev54 => ?_)
  obtain rfl : v54 = 24 := ev54.trans (by decide)
  refine lv_ishr (pc := 92) hx hb dX12_feed_92 ?_
  refine lv_topi (pc := 93) (fun v55 ev55 => ?_)
  refine lv_i2b (pc := 93) hx hb dX12_feed_93 rfl ?_
  refine lv_topi (pc := 94) (fun v56 ev56 => ?_)
  refine zbast (pc := 94) (k := 224) (n := 600) hx hb hK hP hS rfl (by decide) (vp_in_iff.mpr ⟨by decide, by decide⟩) dX12_feed_94 (fun H locs hP hS => ?_)
  obtain ⟨σ57, eσ57⟩ : ∃ x : zS, x = zI σ47 224 (upd (σ47.1 224) 4 (vp_nar .byte v56)) := ⟨_, rfl⟩
  have hP : zP D c o σ57 H := by rw [eσ57]; exact hP
  have ht : σ57.1 218 7 = 0 := zI_ne eσ57 (by decide) ht
  have f225_0 : σ57.1 225 0 = p0 := zI_ne eσ57 (by decide) f225_0
  have f225_1 : σ57.1 225 1 = p1 := zI_ne eσ57 (by decide) f225_1
  have f225_2 : σ57.1 225 2 = p2 := zI_ne eσ57 (by decide) f225_2
  have f225_3 : σ57.1 225 3 = p3 := zI_ne eσ57 (by decide) f225_3
  have f225_4 : σ57.1 225 4 = p4 := zI_ne eσ57 (by decide) f225_4
  have hR : zRef o σ57.2.2 := zI_ref eσ57 hR
  refine lv_iinc (pc := 95) (v := 5) (lv' := [(6, .int 5), (0, .ref (o + 218)), (1, .int p0), (2, .int p1), (3, .int p2), (4, .int p3), (5, .int p4)]) hx hb dX12_feed_95 hl (k := 0) rfl (by decide) (by decide) rfl (fun ls hl => ?_)
  refine lv_goto (pc := 98) (tgt := 55) hx hb dX12_feed_98 (by decide) ?_
  refine lv_iload (pc := 55) hx hb dX12_feed_55 (lv_at hl 0 rfl) ?_
  refine lv_bipush (pc := 57) (v := 20) hx hb dX12_feed_57 (by decide) ?_
  refine lv_icmp_ge (pc := 59) (tgt := 101) hx hb dX12_feed_59 (by decide) (fun c58 => absurd c58 (by decide)) (fun _ => ?_)
  refine lv_aload_n (pc := 62) hx hb dX12_feed_62 rfl (lv_at hl 1 rfl) ?_
  refine zgetR (pc := 63) (k := 218) (j := 6) (a := o + 224) zc12 hx hb hts hown hK hP rfl (by decide) rfl (hR 218 6 rfl) zf_X12_26 dX12_feed_63 ?_
  refine lv_aload_n (pc := 66) hx hb dX12_feed_66 rfl (lv_at hl 1 rfl) ?_
  refine zgetI (pc := 67) (k := 218) (j := 7) (v := 0) zc12 hx hb hts hown hK hP rfl (by decide) rfl ht zf_X12_107 dX12_feed_67 ?_
  refine lv_iload (pc := 70) hx hb dX12_feed_70 (lv_at hl 0 rfl) ?_
  refine lv_iadd (pc := 72) hx hb dX12_feed_72 ?_
  refine lv_topi (pc := 73) (fun v59 ev59 => ?_)
  obtain rfl : v59 = 5 := ev59.trans (by decide)
  refine lv_aload_n (pc := 73) hx hb dX12_feed_73 rfl (lv_at hl 1 rfl) ?_
  refine zgetR (pc := 74) (k := 218) (j := 8) (a := o + 225) zc12 hx hb hts hown hK hP rfl (by decide) rfl (hR 218 8 rfl) zf_X12_30 dX12_feed_74 ?_
  refine lv_iload (pc := 77) hx hb dX12_feed_77 (lv_at hl 0 rfl) ?_
  refine lv_iconst (pc := 79) (v := 4) hx hb dX12_feed_79 (by decide) ?_
  refine lv_idiv (pc := 80) hx hb dX12_feed_80 (by decide) ?_
  refine lv_topi (pc := 81) (fun v60 ev60 => ?_)
  obtain rfl : v60 = 1 := ev60.trans (by decide)
  refine ziald (pc := 81) (k := 225) (n := 5) hx hb hK hP rfl (by decide) (vp_in_iff.mpr ⟨by decide, by decide⟩) dX12_feed_81 ?_
  refine lv_topi (pc := 82) (fun v61 ev61 => ?_)
  refine lv_bipush (pc := 82) (v := 24) hx hb dX12_feed_82 (by decide) ?_
  refine lv_bipush (pc := 84) (v := 8) hx hb dX12_feed_84 (by decide) ?_
  refine lv_iload (pc := 86) hx hb dX12_feed_86 (lv_at hl 0 rfl) ?_
  refine lv_iconst (pc := 88) (v := 4) hx hb dX12_feed_88 (by decide) ?_
  refine lv_irem (pc := 89) hx hb dX12_feed_89 (by decide) ?_
  refine lv_topi (pc := 90) (fun v62 ev62 => ?_)
  obtain rfl : v62 = 1 := ev62.trans (by decide)
  refine lv_imul (pc := 90) hx hb dX12_feed_90 ?_
  refine lv_topi (pc := 91) (fun v63 ev63 => ?_)
  obtain rfl : v63 = 8 := ev63.trans (by decide)
  refine lv_isub (pc := 91) hx hb dX12_feed_91 ?_
  refine lv_topi (pc := 92) (fun v64 ev64 => ?_)
  obtain rfl : v64 = 16 := ev64.trans (by decide)
  refine lv_ishr (pc := 92) hx hb dX12_feed_92 ?_
  refine lv_topi (pc := 93) (fun v65 ev65 => ?_)
  refine lv_i2b (pc := 93) hx hb dX12_feed_93 rfl ?_
  refine lv_topi (pc := 94) (fun v66 ev66 => ?_)
  refine zbast (pc := 94) (k := 224) (n := 600) hx hb hK hP hS rfl (by decide) (vp_in_iff.mpr ⟨by decide, by decide⟩) dX12_feed_94 (fun H locs hP hS => ?_)
  obtain ⟨σ67, eσ67⟩ : ∃ x : zS, x = zI σ57 224 (upd (σ57.1 224) 5 (vp_nar .byte v66)) := ⟨_, rfl⟩
  have hP : zP D c o σ67 H := by rw [eσ67]; exact hP
  have ht : σ67.1 218 7 = 0 := zI_ne eσ67 (by decide) ht
  have f225_0 : σ67.1 225 0 = p0 := zI_ne eσ67 (by decide) f225_0
  have f225_1 : σ67.1 225 1 = p1 := zI_ne eσ67 (by decide) f225_1
  have f225_2 : σ67.1 225 2 = p2 := zI_ne eσ67 (by decide) f225_2
  have f225_3 : σ67.1 225 3 = p3 := zI_ne eσ67 (by decide) f225_3
  have f225_4 : σ67.1 225 4 = p4 := zI_ne eσ67 (by decide) f225_4
  have hR : zRef o σ67.2.2 := zI_ref eσ67 hR
  refine lv_iinc (pc := 95) (v := 6) (lv' := [(6, .int 6), (0, .ref (o + 218)), (1, .int p0), (2, .int p1), (3, .int p2), (4, .int p3), (5, .int p4)]) hx hb dX12_feed_95 hl (k := 0) rfl (by decide) (by decide) rfl (fun ls hl => ?_)
  refine lv_goto (pc := 98) (tgt := 55) hx hb dX12_feed_98 (by decide) ?_
  refine lv_iload (pc := 55) hx hb dX12_feed_55 (lv_at hl 0 rfl) ?_
  refine lv_bipush (pc := 57) (v := 20) hx hb dX12_feed_57 (by decide) ?_
  refine lv_icmp_ge (pc := 59) (tgt := 101) hx hb dX12_feed_59 (by decide) (fun c68 => absurd c68 (by decide)) (fun _ => ?_)
  refine lv_aload_n (pc := 62) hx hb dX12_feed_62 rfl (lv_at hl 1 rfl) ?_
  refine zgetR (pc := 63) (k := 218) (j := 6) (a := o + 224) zc12 hx hb hts hown hK hP rfl (by decide) rfl (hR 218 6 rfl) zf_X12_26 dX12_feed_63 ?_
  refine lv_aload_n (pc := 66) hx hb dX12_feed_66 rfl (lv_at hl 1 rfl) ?_
  refine zgetI (pc := 67) (k := 218) (j := 7) (v := 0) zc12 hx hb hts hown hK hP rfl (by decide) rfl ht zf_X12_107 dX12_feed_67 ?_
  refine lv_iload (pc := 70) hx hb dX12_feed_70 (lv_at hl 0 rfl) ?_
  refine lv_iadd (pc := 72) hx hb dX12_feed_72 ?_
  refine lv_topi (pc := 73) (fun v69 ev69 => ?_)
  obtain rfl : v69 = 6 := ev69.trans (by decide)
  refine lv_aload_n (pc := 73) hx hb dX12_feed_73 rfl (lv_at hl 1 rfl) ?_
  refine zgetR (pc := 74) (k := 218) (j := 8) (a := o + 225) zc12 hx hb hts hown hK hP rfl (by decide) rfl (hR 218 8 rfl) zf_X12_30 dX12_feed_74 ?_
  refine lv_iload (pc := 77) hx hb dX12_feed_77 (lv_at hl 0 rfl) ?_
  refine lv_iconst (pc := 79) (v := 4) hx hb dX12_feed_79 (by decide) ?_
  refine lv_idiv (pc := 80) hx hb dX12_feed_80 (by decide) ?_
  refine lv_topi (pc := 81) (fun v70 ev70 => ?_)
  obtain rfl : v70 = 1 := ev70.trans (by decide)
  refine ziald (pc := 81) (k := 225) (n := 5) hx hb hK hP rfl (by decide) (vp_in_iff.mpr ⟨by decide, by decide⟩) dX12_feed_81 ?_
  refine lv_topi (pc := 82) (fun v71 ev71 => ?_)
  refine lv_bipush (pc := 82) (v := 24) hx hb dX12_feed_82 (by decide) ?_
  refine lv_bipush (pc := 84) (v := 8) hx hb dX12_feed_84 (by decide) ?_
  refine lv_iload (pc := 86) hx hb dX12_feed_86 (lv_at hl 0 rfl) ?_
  refine lv_iconst (pc := 88) (v := 4) hx hb dX12_feed_88 (by decide) ?_
  refine lv_irem (pc := 89) hx hb dX12_feed_89 (by decide) ?_
  refine lv_topi (pc := 90) (fun v72 ev72 => ?_)
  obtain rfl : v72 = 2 := ev72.trans (by decide)
  refine lv_imul (pc := 90) hx hb dX12_feed_90 ?_
  refine lv_topi (pc := 91) (fun v73 ev73 => ?_)
  obtain rfl : v73 = 16 := ev73.trans (by decide)
  refine lv_isub (pc := 91) hx hb dX12_feed_91 ?_
  refine lv_topi (pc := 92) (fun v74 ev74 => ?_)
  obtain rfl : v74 = 8 := ev74.trans (by decide)
  refine lv_ishr (pc := 92) hx hb dX12_feed_92 ?_
  refine lv_topi (pc := 93) (fun v75 ev75 => ?_)
  refine lv_i2b (pc := 93) hx hb dX12_feed_93 rfl ?_
  refine lv_topi (pc := 94) (fun v76 ev76 => ?_)
  refine zbast (pc := 94) (k := 224) (n := 600) hx hb hK hP hS rfl (by decide) (vp_in_iff.mpr ⟨by decide, by decide⟩) dX12_feed_94 (fun H locs hP hS => ?_)
  obtain ⟨σ77, eσ77⟩ : ∃ x : zS, x = zI σ67 224 (upd (σ67.1 224) 6 (vp_nar .byte v76)) := ⟨_, rfl⟩
  have hP : zP D c o σ77 H := by rw [eσ77]; exact hP
  have ht : σ77.1 218 7 = 0 := zI_ne eσ77 (by decide) ht
  have f225_0 : σ77.1 225 0 = p0 := zI_ne eσ77 (by decide) f225_0
  have f225_1 : σ77.1 225 1 = p1 := zI_ne eσ77 (by decide) f225_1
  have f225_2 : σ77.1 225 2 = p2 := zI_ne eσ77 (by decide) f225_2
  have f225_3 : σ77.1 225 3 = p3 := zI_ne eσ77 (by decide) f225_3
  have f225_4 : σ77.1 225 4 = p4 := zI_ne eσ77 (by decide) f225_4
  have hR : zRef o σ77.2.2 := zI_ref eσ77 hR
  refine lv_iinc (pc := 95) (v := 7) (lv' := [(6, .int 7), (0, .ref (o + 218)), (1, .int p0), (2, .int p1), (3, .int p2), (4, .int p3), (5, .int p4)]) hx hb dX12_feed_95 hl (k := 0) rfl (by decide) (by decide) rfl (fun ls hl => ?_)
  refine lv_goto (pc := 98) (tgt := 55) hx hb dX12_feed_98 (by decide) ?_
  refine lv_iload (pc := 55) hx hb dX12_feed_55 (lv_at hl 0 rfl) ?_
  refine lv_bipush (pc := 57) (v := 20) hx hb dX12_feed_57 (by decide) ?_
  refine lv_icmp_ge (pc := 59) (tgt := 101) hx hb dX12_feed_59 (by decide) (fun c78 => absurd c78 (by decide)) (fun _ => ?_)
  refine lv_aload_n (pc := 62) hx hb dX12_feed_62 rfl (lv_at hl 1 rfl) ?_
  refine zgetR (pc := 63) (k := 218) (j := 6) (a := o + 224) zc12 hx hb hts hown hK hP rfl (by decide) rfl (hR 218 6 rfl) zf_X12_26 dX12_feed_63 ?_
  refine lv_aload_n (pc := 66) hx hb dX12_feed_66 rfl (lv_at hl 1 rfl) ?_
  refine zgetI (pc := 67) (k := 218) (j := 7) (v := 0) zc12 hx hb hts hown hK hP rfl (by decide) rfl ht zf_X12_107 dX12_feed_67 ?_
  refine lv_iload (pc := 70) hx hb dX12_feed_70 (lv_at hl 0 rfl) ?_
  refine lv_iadd (pc := 72) hx hb dX12_feed_72 ?_
  refine lv_topi (pc := 73) (fun v79 ev79 => ?_)
  obtain rfl : v79 = 7 := ev79.trans (by decide)
  refine lv_aload_n (pc := 73) hx hb dX12_feed_73 rfl (lv_at hl 1 rfl) ?_
  refine zgetR (pc := 74) (k := 218) (j := 8) (a := o + 225) zc12 hx hb hts hown hK hP rfl (by decide) rfl (hR 218 8 rfl) zf_X12_30 dX12_feed_74 ?_
  refine lv_iload (pc := 77) hx hb dX12_feed_77 (lv_at hl 0 rfl) ?_
  refine lv_iconst (pc := 79) (v := 4) hx hb dX12_feed_79 (by decide) ?_
  refine lv_idiv (pc := 80) hx hb dX12_feed_80 (by decide) ?_
  refine lv_topi (pc := 81) (fun v80 ev80 => ?_)
  obtain rfl : v80 = 1 := ev80.trans (by decide)
  refine ziald (pc := 81) (k := 225) (n := 5) hx hb hK hP rfl (by decide) (vp_in_iff.mpr ⟨by decide, by decide⟩) dX12_feed_81 ?_
  refine lv_topi (pc := 82) (fun v81 ev81 => ?_)
  refine lv_bipush (pc := 82) (v := 24) hx hb dX12_feed_82 (by decide) ?_
  refine lv_bipush (pc := 84) (v := 8) hx hb dX12_feed_84 (by decide) ?_
  refine lv_iload (pc := 86) hx hb dX12_feed_86 (lv_at hl 0 rfl) ?_
  refine lv_iconst (pc := 88) (v := 4) hx hb dX12_feed_88 (by decide) ?_
  refine lv_irem (pc := 89) hx hb dX12_feed_89 (by decide) ?_
  refine lv_topi (pc := 90) (fun v82 ev82 => ?_)
  obtain rfl : v82 = 3 := ev82.trans (by decide)
  refine lv_imul (pc := 90) hx hb dX12_feed_90 ?_
  refine lv_topi (pc := 91) (fun v83 ev83 => ?_)
  obtain rfl : v83 = 24 := ev83.trans (by decide)
  refine lv_isub (pc := 91) hx hb dX12_feed_91 ?_
  refine lv_topi (pc := 92) (fun v84 ev84 => ?_)
  obtain rfl : v84 = 0 := ev84.trans (by decide)
  refine lv_ishr (pc := 92) hx hb dX12_feed_92 ?_
  refine lv_topi (pc := 93) (fun v85 ev85 => ?_)
  refine lv_i2b (pc := 93) hx hb dX12_feed_93 rfl ?_
  refine lv_topi (pc := 94) (fun v86 ev86 => ?_)
  refine zbast (pc := 94) (k := 224) (n := 600) hx hb hK hP hS rfl (by decide) (vp_in_iff.mpr ⟨by decide, by decide⟩) dX12_feed_94 (fun H locs hP hS => ?_)
  obtain ⟨σ87, eσ87⟩ : ∃ x : zS, x = zI σ77 224 (upd (σ77.1 224) 7 (vp_nar .byte v86)) := ⟨_, rfl⟩
  have hP : zP D c o σ87 H := by rw [eσ87]; exact hP
  have ht : σ87.1 218 7 = 0 := zI_ne eσ87 (by decide) ht
  have f225_0 : σ87.1 225 0 = p0 := zI_ne eσ87 (by decide) f225_0
  have f225_1 : σ87.1 225 1 = p1 := zI_ne eσ87 (by decide) f225_1
  have f225_2 : σ87.1 225 2 = p2 := zI_ne eσ87 (by decide) f225_2
  have f225_3 : σ87.1 225 3 = p3 := zI_ne eσ87 (by decide) f225_3
  have f225_4 : σ87.1 225 4 = p4 := zI_ne eσ87 (by decide) f225_4
  have hR : zRef o σ87.2.2 := zI_ref eσ87 hR
  refine lv_iinc (pc := 95) (v := 8) (lv' := [(6, .int 8), (0, .ref (o + 218)), (1, .int p0), (2, .int p1), (3, .int p2), (4, .int p3), (5, .int p4)]) hx hb dX12_feed_95 hl (k := 0) rfl (by decide) (by decide) rfl (fun ls hl => ?_)
  refine lv_goto (pc := 98) (tgt := 55) hx hb dX12_feed_98 (by decide) ?_
  refine lv_iload (pc := 55) hx hb dX12_feed_55 (lv_at hl 0 rfl) ?_
  refine lv_bipush (pc := 57) (v := 20) hx hb dX12_feed_57 (by decide) ?_
  refine lv_icmp_ge (pc := 59) (tgt := 101) hx hb dX12_feed_59 (by decide) (fun c88 => absurd c88 (by decide)) (fun _ => ?_)
  refine lv_aload_n (pc := 62) hx hb dX12_feed_62 rfl (lv_at hl 1 rfl) ?_
  refine zgetR (pc := 63) (k := 218) (j := 6) (a := o + 224) zc12 hx hb hts hown hK hP rfl (by decide) rfl (hR 218 6 rfl) zf_X12_26 dX12_feed_63 ?_
  refine lv_aload_n (pc := 66) hx hb dX12_feed_66 rfl (lv_at hl 1 rfl) ?_
  refine zgetI (pc := 67) (k := 218) (j := 7) (v := 0) zc12 hx hb hts hown hK hP rfl (by decide) rfl ht zf_X12_107 dX12_feed_67 ?_
  refine lv_iload (pc := 70) hx hb dX12_feed_70 (lv_at hl 0 rfl) ?_
  refine lv_iadd (pc := 72) hx hb dX12_feed_72 ?_
  refine lv_topi (pc := 73) (fun v89 ev89 => ?_)
  obtain rfl : v89 = 8 := ev89.trans (by decide)
  refine lv_aload_n (pc := 73) hx hb dX12_feed_73 rfl (lv_at hl 1 rfl) ?_
  refine zgetR (pc := 74) (k := 218) (j := 8) (a := o + 225) zc12 hx hb hts hown hK hP rfl (by decide) rfl (hR 218 8 rfl) zf_X12_30 dX12_feed_74 ?_
  refine lv_iload (pc := 77) hx hb dX12_feed_77 (lv_at hl 0 rfl) ?_
  refine lv_iconst (pc := 79) (v := 4) hx hb dX12_feed_79 (by decide) ?_
  refine lv_idiv (pc := 80) hx hb dX12_feed_80 (by decide) ?_
  refine lv_topi (pc := 81) (fun v90 ev90 => ?_)
  obtain rfl : v90 = 2 := ev90.trans (by decide)
  refine ziald (pc := 81) (k := 225) (n := 5) hx hb hK hP rfl (by decide) (vp_in_iff.mpr ⟨by decide, by decide⟩) dX12_feed_81 ?_
  refine lv_topi (pc := 82) (fun v91 ev91 => ?_)
  refine lv_bipush (pc := 82) (v := 24) hx hb dX12_feed_82 (by decide) ?_
  refine lv_bipush (pc := 84) (v := 8) hx hb dX12_feed_84 (by decide) ?_
  refine lv_iload (pc := 86) hx hb dX12_feed_86 (lv_at hl 0 rfl) ?_
  refine lv_iconst (pc := 88) (v := 4) hx hb dX12_feed_88 (by decide) ?_
  refine lv_irem (pc := 89) hx hb dX12_feed_89 (by decide) ?_
  refine lv_topi (pc := 90) (fun v92 ev92 => ?_)
  obtain rfl : v92 = 0 := ev92.trans (by decide)
  refine lv_imul (pc := 90) hx hb dX12_feed_90 ?_
  refine lv_topi (pc := 91) (fun v93 ev93 => ?_)
  obtain rfl : v93 = 0 := ev93.trans (by decide)
  refine lv_isub (pc := 91) hx hb dX12_feed_91 ?_
  refine lv_topi (pc := 92) (fun v94 ev94 => ?_)
  obtain rfl : v94 = 24 := ev94.trans (by decide)
  refine lv_ishr (pc := 92) hx hb dX12_feed_92 ?_
  refine lv_topi (pc := 93) (fun v95 ev95 => ?_)
  refine lv_i2b (pc := 93) hx hb dX12_feed_93 rfl ?_
  refine lv_topi (pc := 94) (fun v96 ev96 => ?_)
  refine zbast (pc := 94) (k := 224) (n := 600) hx hb hK hP hS rfl (by decide) (vp_in_iff.mpr ⟨by decide, by decide⟩) dX12_feed_94 (fun H locs hP hS => ?_)
  obtain ⟨σ97, eσ97⟩ : ∃ x : zS, x = zI σ87 224 (upd (σ87.1 224) 8 (vp_nar .byte v96)) := ⟨_, rfl⟩
  have hP : zP D c o σ97 H := by rw [eσ97]; exact hP
  have ht : σ97.1 218 7 = 0 := zI_ne eσ97 (by decide) ht
  have f225_0 : σ97.1 225 0 = p0 := zI_ne eσ97 (by decide) f225_0
  have f225_1 : σ97.1 225 1 = p1 := zI_ne eσ97 (by decide) f225_1
  have f225_2 : σ97.1 225 2 = p2 := zI_ne eσ97 (by decide) f225_2
  have f225_3 : σ97.1 225 3 = p3 := zI_ne eσ97 (by decide) f225_3
  have f225_4 : σ97.1 225 4 = p4 := zI_ne eσ97 (by decide) f225_4
  have hR : zRef o σ97.2.2 := zI_ref eσ97 hR
  refine lv_iinc (pc := 95) (v := 9) (lv' := [(6, .int 9), (0, .ref (o + 218)), (1, .int p0), (2, .int p1), (3, .int p2), (4, .int p3), (5, .int p4)]) hx hb dX12_feed_95 hl (k := 0) rfl (by decide) (by decide) rfl (fun ls hl => ?_)
  refine lv_goto (pc := 98) (tgt := 55) hx hb dX12_feed_98 (by decide) ?_
  refine lv_iload (pc := 55) hx hb dX12_feed_55 (lv_at hl 0 rfl) ?_
  refine lv_bipush (pc := 57) (v := 20) hx hb dX12_feed_57 (by decide) ?_
  refine lv_icmp_ge (pc := 59) (tgt := 101) hx hb dX12_feed_59 (by decide) (fun c98 => absurd c98 (by decide)) (fun _ => ?_)
  refine lv_aload_n (pc := 62) hx hb dX12_feed_62 rfl (lv_at hl 1 rfl) ?_
  refine zgetR (pc := 63) (k := 218) (j := 6) (a := o + 224) zc12 hx hb hts hown hK hP rfl (by decide) rfl (hR 218 6 rfl) zf_X12_26 dX12_feed_63 ?_
  refine lv_aload_n (pc := 66) hx hb dX12_feed_66 rfl (lv_at hl 1 rfl) ?_
  refine zgetI (pc := 67) (k := 218) (j := 7) (v := 0) zc12 hx hb hts hown hK hP rfl (by decide) rfl ht zf_X12_107 dX12_feed_67 ?_
  refine lv_iload (pc := 70) hx hb dX12_feed_70 (lv_at hl 0 rfl) ?_
  refine lv_iadd (pc := 72) hx hb dX12_feed_72 ?_
  refine lv_topi (pc := 73) (fun v99 ev99 => ?_)
  obtain rfl : v99 = 9 := ev99.trans (by decide)
  refine lv_aload_n (pc := 73) hx hb dX12_feed_73 rfl (lv_at hl 1 rfl) ?_
  refine zgetR (pc := 74) (k := 218) (j := 8) (a := o + 225) zc12 hx hb hts hown hK hP rfl (by decide) rfl (hR 218 8 rfl) zf_X12_30 dX12_feed_74 ?_
  refine lv_iload (pc := 77) hx hb dX12_feed_77 (lv_at hl 0 rfl) ?_
  refine lv_iconst (pc := 79) (v := 4) hx hb dX12_feed_79 (by decide) ?_
  refine lv_idiv (pc := 80) hx hb dX12_feed_80 (by decide) ?_
  refine lv_topi (pc := 81) (fun v100 ev100 => ?_)
  obtain rfl : v100 = 2 := ev100.trans (by decide)
  refine ziald (pc := 81) (k := 225) (n := 5) hx hb hK hP rfl (by decide) (vp_in_iff.mpr ⟨by decide, by decide⟩) dX12_feed_81 ?_
  refine lv_topi (pc := 82) (fun v101 ev101 => ?_)
  refine lv_bipush (pc := 82) (v := 24) hx hb dX12_feed_82 (by decide) ?_
  refine lv_bipush (pc := 84) (v := 8) hx hb dX12_feed_84 (by decide) ?_
  refine lv_iload (pc := 86) hx hb dX12_feed_86 (lv_at hl 0 rfl) ?_
  refine lv_iconst (pc := 88) (v := 4) hx hb dX12_feed_88 (by decide) ?_
  refine lv_irem (pc := 89) hx hb dX12_feed_89 (by decide) ?_
  refine lv_topi (pc := 90) (fun v102 ev102 => ?_)
  obtain rfl : v102 = 1 := ev102.trans (by decide)
  refine lv_imul (pc := 90) hx hb dX12_feed_90 ?_
  refine lv_topi (pc := 91) (fun v103 ev103 => ?_)
  obtain rfl : v103 = 8 := ev103.trans (by decide)
  refine lv_isub (pc := 91) hx hb dX12_feed_91 ?_
  refine lv_topi (pc := 92) (fun v104 ev104 => ?_)
  obtain rfl : v104 = 16 := ev104.trans (by decide)
  refine lv_ishr (pc := 92) hx hb dX12_feed_92 ?_
  refine lv_topi (pc := 93) (fun v105 ev105 => ?_)
  refine lv_i2b (pc := 93) hx hb dX12_feed_93 rfl ?_
  refine lv_topi (pc := 94) (fun v106 ev106 => ?_)
  refine zbast (pc := 94) (k := 224) (n := 600) hx hb hK hP hS rfl (by decide) (vp_in_iff.mpr ⟨by decide, by decide⟩) dX12_feed_94 (fun H locs hP hS => ?_)
  obtain ⟨σ107, eσ107⟩ : ∃ x : zS, x = zI σ97 224 (upd (σ97.1 224) 9 (vp_nar .byte v106)) := ⟨_, rfl⟩
  have hP : zP D c o σ107 H := by rw [eσ107]; exact hP
  have ht : σ107.1 218 7 = 0 := zI_ne eσ107 (by decide) ht
  have f225_0 : σ107.1 225 0 = p0 := zI_ne eσ107 (by decide) f225_0
  have f225_1 : σ107.1 225 1 = p1 := zI_ne eσ107 (by decide) f225_1
  have f225_2 : σ107.1 225 2 = p2 := zI_ne eσ107 (by decide) f225_2
  have f225_3 : σ107.1 225 3 = p3 := zI_ne eσ107 (by decide) f225_3
  have f225_4 : σ107.1 225 4 = p4 := zI_ne eσ107 (by decide) f225_4
  have hR : zRef o σ107.2.2 := zI_ref eσ107 hR
  refine lv_iinc (pc := 95) (v := 10) (lv' := [(6, .int 10), (0, .ref (o + 218)), (1, .int p0), (2, .int p1), (3, .int p2), (4, .int p3), (5, .int p4)]) hx hb dX12_feed_95 hl (k := 0) rfl (by decide) (by decide) rfl (fun ls hl => ?_)
  refine lv_goto (pc := 98) (tgt := 55) hx hb dX12_feed_98 (by decide) ?_
  refine lv_iload (pc := 55) hx hb dX12_feed_55 (lv_at hl 0 rfl) ?_
  refine lv_bipush (pc := 57) (v := 20) hx hb dX12_feed_57 (by decide) ?_
  refine lv_icmp_ge (pc := 59) (tgt := 101) hx hb dX12_feed_59 (by decide) (fun c108 => absurd c108 (by decide)) (fun _ => ?_)
  refine lv_aload_n (pc := 62) hx hb dX12_feed_62 rfl (lv_at hl 1 rfl) ?_
  refine zgetR (pc := 63) (k := 218) (j := 6) (a := o + 224) zc12 hx hb hts hown hK hP rfl (by decide) rfl (hR 218 6 rfl) zf_X12_26 dX12_feed_63 ?_
  refine lv_aload_n (pc := 66) hx hb dX12_feed_66 rfl (lv_at hl 1 rfl) ?_
  refine zgetI (pc := 67) (k := 218) (j := 7) (v := 0) zc12 hx hb hts hown hK hP rfl (by decide) rfl ht zf_X12_107 dX12_feed_67 ?_
  refine lv_iload (pc := 70) hx hb dX12_feed_70 (lv_at hl 0 rfl) ?_
  refine lv_iadd (pc := 72) hx hb dX12_feed_72 ?_
  refine lv_topi (pc := 73) (fun v109 ev109 => ?_)
  obtain rfl : v109 = 10 := ev109.trans (by decide)
  refine lv_aload_n (pc := 73) hx hb dX12_feed_73 rfl (lv_at hl 1 rfl) ?_
  refine zgetR (pc := 74) (k := 218) (j := 8) (a := o + 225) zc12 hx hb hts hown hK hP rfl (by decide) rfl (hR 218 8 rfl) zf_X12_30 dX12_feed_74 ?_
  refine lv_iload (pc := 77) hx hb dX12_feed_77 (lv_at hl 0 rfl) ?_
  refine lv_iconst (pc := 79) (v := 4) hx hb dX12_feed_79 (by decide) ?_
  refine lv_idiv (pc := 80) hx hb dX12_feed_80 (by decide) ?_
  refine lv_topi (pc := 81) (fun v110 ev110 => ?_)
  obtain rfl : v110 = 2 := ev110.trans (by decide)
  refine ziald (pc := 81) (k := 225) (n := 5) hx hb hK hP rfl (by decide) (vp_in_iff.mpr ⟨by decide, by decide⟩) dX12_feed_81 ?_
  refine lv_topi (pc := 82) (fun v111 ev111 => ?_)
  refine lv_bipush (pc := 82) (v := 24) hx hb dX12_feed_82 (by decide) ?_
  refine lv_bipush (pc := 84) (v := 8) hx hb dX12_feed_84 (by decide) ?_
  refine lv_iload (pc := 86) hx hb dX12_feed_86 (lv_at hl 0 rfl) ?_
  refine lv_iconst (pc := 88) (v := 4) hx hb dX12_feed_88 (by decide) ?_
  refine lv_irem (pc := 89) hx hb dX12_feed_89 (by decide) ?_
  refine lv_topi (pc := 90) (fun v112 ev112 => ?_)
  obtain rfl : v112 = 2 := ev112.trans (by decide)
  refine lv_imul (pc := 90) hx hb dX12_feed_90 ?_
  refine lv_topi (pc := 91) (fun v113 ev113 => ?_)
  obtain rfl : v113 = 16 := ev113.trans (by decide)
  refine lv_isub (pc := 91) hx hb dX12_feed_91 ?_
  refine lv_topi (pc := 92) (fun v114 ev114 => ?_)
  obtain rfl : v114 = 8 := ev114.trans (by decide)
  refine lv_ishr (pc := 92) hx hb dX12_feed_92 ?_
  refine lv_topi (pc := 93) (fun v115 ev115 => ?_)
  refine lv_i2b (pc := 93) hx hb dX12_feed_93 rfl ?_
  refine lv_topi (pc := 94) (fun v116 ev116 => ?_)
  refine zbast (pc := 94) (k := 224) (n := 600) hx hb hK hP hS rfl (by decide) (vp_in_iff.mpr ⟨by decide, by decide⟩) dX12_feed_94 (fun H locs hP hS => ?_)
  obtain ⟨σ117, eσ117⟩ : ∃ x : zS, x = zI σ107 224 (upd (σ107.1 224) 10 (vp_nar .byte v116)) := ⟨_, rfl⟩
  have hP : zP D c o σ117 H := by rw [eσ117]; exact hP
  have ht : σ117.1 218 7 = 0 := zI_ne eσ117 (by decide) ht
  have f225_0 : σ117.1 225 0 = p0 := zI_ne eσ117 (by decide) f225_0
  have f225_1 : σ117.1 225 1 = p1 := zI_ne eσ117 (by decide) f225_1
  have f225_2 : σ117.1 225 2 = p2 := zI_ne eσ117 (by decide) f225_2
  have f225_3 : σ117.1 225 3 = p3 := zI_ne eσ117 (by decide) f225_3
  have f225_4 : σ117.1 225 4 = p4 := zI_ne eσ117 (by decide) f225_4
  have hR : zRef o σ117.2.2 := zI_ref eσ117 hR
  refine lv_iinc (pc := 95) (v := 11) (lv' := [(6, .int 11), (0, .ref (o + 218)), (1, .int p0), (2, .int p1), (3, .int p2), (4, .int p3), (5, .int p4)]) hx hb dX12_feed_95 hl (k := 0) rfl (by decide) (by decide) rfl (fun ls hl => ?_)
  refine lv_goto (pc := 98) (tgt := 55) hx hb dX12_feed_98 (by decide) ?_
  refine lv_iload (pc := 55) hx hb dX12_feed_55 (lv_at hl 0 rfl) ?_
  refine lv_bipush (pc := 57) (v := 20) hx hb dX12_feed_57 (by decide) ?_
  refine lv_icmp_ge (pc := 59) (tgt := 101) hx hb dX12_feed_59 (by decide) (fun c118 => absurd c118 (by decide)) (fun _ => ?_)
  refine lv_aload_n (pc := 62) hx hb dX12_feed_62 rfl (lv_at hl 1 rfl) ?_
  refine zgetR (pc := 63) (k := 218) (j := 6) (a := o + 224) zc12 hx hb hts hown hK hP rfl (by decide) rfl (hR 218 6 rfl) zf_X12_26 dX12_feed_63 ?_
  refine lv_aload_n (pc := 66) hx hb dX12_feed_66 rfl (lv_at hl 1 rfl) ?_
  refine zgetI (pc := 67) (k := 218) (j := 7) (v := 0) zc12 hx hb hts hown hK hP rfl (by decide) rfl ht zf_X12_107 dX12_feed_67 ?_
  refine lv_iload (pc := 70) hx hb dX12_feed_70 (lv_at hl 0 rfl) ?_
  refine lv_iadd (pc := 72) hx hb dX12_feed_72 ?_
  refine lv_topi (pc := 73) (fun v119 ev119 => ?_)
  obtain rfl : v119 = 11 := ev119.trans (by decide)
  refine lv_aload_n (pc := 73) hx hb dX12_feed_73 rfl (lv_at hl 1 rfl) ?_
  refine zgetR (pc := 74) (k := 218) (j := 8) (a := o + 225) zc12 hx hb hts hown hK hP rfl (by decide) rfl (hR 218 8 rfl) zf_X12_30 dX12_feed_74 ?_
  refine lv_iload (pc := 77) hx hb dX12_feed_77 (lv_at hl 0 rfl) ?_
  refine lv_iconst (pc := 79) (v := 4) hx hb dX12_feed_79 (by decide) ?_
  refine lv_idiv (pc := 80) hx hb dX12_feed_80 (by decide) ?_
  refine lv_topi (pc := 81) (fun v120 ev120 => ?_)
  obtain rfl : v120 = 2 := ev120.trans (by decide)
  refine ziald (pc := 81) (k := 225) (n := 5) hx hb hK hP rfl (by decide) (vp_in_iff.mpr ⟨by decide, by decide⟩) dX12_feed_81 ?_
  refine lv_topi (pc := 82) (fun v121 ev121 => ?_)
  refine lv_bipush (pc := 82) (v := 24) hx hb dX12_feed_82 (by decide) ?_
  refine lv_bipush (pc := 84) (v := 8) hx hb dX12_feed_84 (by decide) ?_
  refine lv_iload (pc := 86) hx hb dX12_feed_86 (lv_at hl 0 rfl) ?_
  refine lv_iconst (pc := 88) (v := 4) hx hb dX12_feed_88 (by decide) ?_
  refine lv_irem (pc := 89) hx hb dX12_feed_89 (by decide) ?_
  refine lv_topi (pc := 90) (fun v122 ev122 => ?_)
  obtain rfl : v122 = 3 := ev122.trans (by decide)
  refine lv_imul (pc := 90) hx hb dX12_feed_90 ?_
  refine lv_topi (pc := 91) (fun v123 ev123 => ?_)
  obtain rfl : v123 = 24 := ev123.trans (by decide)
  refine lv_isub (pc := 91) hx hb dX12_feed_91 ?_
  refine lv_topi (pc := 92) (fun v124 ev124 => ?_)
  obtain rfl : v124 = 0 := ev124.trans (by decide)
  refine lv_ishr (pc := 92) hx hb dX12_feed_92 ?_
  refine lv_topi (pc := 93) (fun v125 ev125 => ?_)
  refine lv_i2b (pc := 93) hx hb dX12_feed_93 rfl ?_
  refine lv_topi (pc := 94) (fun v126 ev126 => ?_)
  refine zbast (pc := 94) (k := 224) (n := 600) hx hb hK hP hS rfl (by decide) (vp_in_iff.mpr ⟨by decide, by decide⟩) dX12_feed_94 (fun H locs hP hS => ?_)
  obtain ⟨σ127, eσ127⟩ : ∃ x : zS, x = zI σ117 224 (upd (σ117.1 224) 11 (vp_nar .byte v126)) := ⟨_, rfl⟩
  have hP : zP D c o σ127 H := by rw [eσ127]; exact hP
  have ht : σ127.1 218 7 = 0 := zI_ne eσ127 (by decide) ht
  have f225_0 : σ127.1 225 0 = p0 := zI_ne eσ127 (by decide) f225_0
  have f225_1 : σ127.1 225 1 = p1 := zI_ne eσ127 (by decide) f225_1
  have f225_2 : σ127.1 225 2 = p2 := zI_ne eσ127 (by decide) f225_2
  have f225_3 : σ127.1 225 3 = p3 := zI_ne eσ127 (by decide) f225_3
  have f225_4 : σ127.1 225 4 = p4 := zI_ne eσ127 (by decide) f225_4
  have hR : zRef o σ127.2.2 := zI_ref eσ127 hR
  refine lv_iinc (pc := 95) (v := 12) (lv' := [(6, .int 12), (0, .ref (o + 218)), (1, .int p0), (2, .int p1), (3, .int p2), (4, .int p3), (5, .int p4)]) hx hb dX12_feed_95 hl (k := 0) rfl (by decide) (by decide) rfl (fun ls hl => ?_)
  refine lv_goto (pc := 98) (tgt := 55) hx hb dX12_feed_98 (by decide) ?_
  refine lv_iload (pc := 55) hx hb dX12_feed_55 (lv_at hl 0 rfl) ?_
  refine lv_bipush (pc := 57) (v := 20) hx hb dX12_feed_57 (by decide) ?_
  refine lv_icmp_ge (pc := 59) (tgt := 101) hx hb dX12_feed_59 (by decide) (fun c128 => absurd c128 (by decide)) (fun _ => ?_)
  refine lv_aload_n (pc := 62) hx hb dX12_feed_62 rfl (lv_at hl 1 rfl) ?_
  refine zgetR (pc := 63) (k := 218) (j := 6) (a := o + 224) zc12 hx hb hts hown hK hP rfl (by decide) rfl (hR 218 6 rfl) zf_X12_26 dX12_feed_63 ?_
  refine lv_aload_n (pc := 66) hx hb dX12_feed_66 rfl (lv_at hl 1 rfl) ?_
  refine zgetI (pc := 67) (k := 218) (j := 7) (v := 0) zc12 hx hb hts hown hK hP rfl (by decide) rfl ht zf_X12_107 dX12_feed_67 ?_
  refine lv_iload (pc := 70) hx hb dX12_feed_70 (lv_at hl 0 rfl) ?_
  refine lv_iadd (pc := 72) hx hb dX12_feed_72 ?_
  refine lv_topi (pc := 73) (fun v129 ev129 => ?_)
  obtain rfl : v129 = 12 := ev129.trans (by decide)
  refine lv_aload_n (pc := 73) hx hb dX12_feed_73 rfl (lv_at hl 1 rfl) ?_
  refine zgetR (pc := 74) (k := 218) (j := 8) (a := o + 225) zc12 hx hb hts hown hK hP rfl (by decide) rfl (hR 218 8 rfl) zf_X12_30 dX12_feed_74 ?_
  refine lv_iload (pc := 77) hx hb dX12_feed_77 (lv_at hl 0 rfl) ?_
  refine lv_iconst (pc := 79) (v := 4) hx hb dX12_feed_79 (by decide) ?_
  refine lv_idiv (pc := 80) hx hb dX12_feed_80 (by decide) ?_
  refine lv_topi (pc := 81) (fun v130 ev130 => ?_)
  obtain rfl : v130 = 3 := ev130.trans (by decide)
  refine ziald (pc := 81) (k := 225) (n := 5) hx hb hK hP rfl (by decide) (vp_in_iff.mpr ⟨by decide, by decide⟩) dX12_feed_81 ?_
  refine lv_topi (pc := 82) (fun v131 ev131 => ?_)
  refine lv_bipush (pc := 82) (v := 24) hx hb dX12_feed_82 (by decide) ?_
  refine lv_bipush (pc := 84) (v := 8) hx hb dX12_feed_84 (by decide) ?_
  refine lv_iload (pc := 86) hx hb dX12_feed_86 (lv_at hl 0 rfl) ?_
  refine lv_iconst (pc := 88) (v := 4) hx hb dX12_feed_88 (by decide) ?_
  refine lv_irem (pc := 89) hx hb dX12_feed_89 (by decide) ?_
  refine lv_topi (pc := 90) (fun v132 ev132 => ?_)
  obtain rfl : v132 = 0 := ev132.trans (by decide)
  refine lv_imul (pc := 90) hx hb dX12_feed_90 ?_
  refine lv_topi (pc := 91) (fun v133 ev133 => ?_)
  obtain rfl : v133 = 0 := ev133.trans (by decide)
  refine lv_isub (pc := 91) hx hb dX12_feed_91 ?_
  refine lv_topi (pc := 92) (fun v134 ev134 => ?_)
  obtain rfl : v134 = 24 := ev134.trans (by decide)
  refine lv_ishr (pc := 92) hx hb dX12_feed_92 ?_
  refine lv_topi (pc := 93) (fun v135 ev135 => ?_)
  refine lv_i2b (pc := 93) hx hb dX12_feed_93 rfl ?_
  refine lv_topi (pc := 94) (fun v136 ev136 => ?_)
  refine zbast (pc := 94) (k := 224) (n := 600) hx hb hK hP hS rfl (by decide) (vp_in_iff.mpr ⟨by decide, by decide⟩) dX12_feed_94 (fun H locs hP hS => ?_)
  obtain ⟨σ137, eσ137⟩ : ∃ x : zS, x = zI σ127 224 (upd (σ127.1 224) 12 (vp_nar .byte v136)) := ⟨_, rfl⟩
  have hP : zP D c o σ137 H := by rw [eσ137]; exact hP
  have ht : σ137.1 218 7 = 0 := zI_ne eσ137 (by decide) ht
  have f225_0 : σ137.1 225 0 = p0 := zI_ne eσ137 (by decide) f225_0
  have f225_1 : σ137.1 225 1 = p1 := zI_ne eσ137 (by decide) f225_1
  have f225_2 : σ137.1 225 2 = p2 := zI_ne eσ137 (by decide) f225_2
  have f225_3 : σ137.1 225 3 = p3 := zI_ne eσ137 (by decide) f225_3
  have f225_4 : σ137.1 225 4 = p4 := zI_ne eσ137 (by decide) f225_4
  have hR : zRef o σ137.2.2 := zI_ref eσ137 hR
  refine lv_iinc (pc := 95) (v := 13) (lv' := [(6, .int 13), (0, .ref (o + 218)), (1, .int p0), (2, .int p1), (3, .int p2), (4, .int p3), (5, .int p4)]) hx hb dX12_feed_95 hl (k := 0) rfl (by decide) (by decide) rfl (fun ls hl => ?_)
  refine lv_goto (pc := 98) (tgt := 55) hx hb dX12_feed_98 (by decide) ?_
  refine lv_iload (pc := 55) hx hb dX12_feed_55 (lv_at hl 0 rfl) ?_
  refine lv_bipush (pc := 57) (v := 20) hx hb dX12_feed_57 (by decide) ?_
  refine lv_icmp_ge (pc := 59) (tgt := 101) hx hb dX12_feed_59 (by decide) (fun c138 => absurd c138 (by decide)) (fun _ => ?_)
  refine lv_aload_n (pc := 62) hx hb dX12_feed_62 rfl (lv_at hl 1 rfl) ?_
  refine zgetR (pc := 63) (k := 218) (j := 6) (a := o + 224) zc12 hx hb hts hown hK hP rfl (by decide) rfl (hR 218 6 rfl) zf_X12_26 dX12_feed_63 ?_
  refine lv_aload_n (pc := 66) hx hb dX12_feed_66 rfl (lv_at hl 1 rfl) ?_
  refine zgetI (pc := 67) (k := 218) (j := 7) (v := 0) zc12 hx hb hts hown hK hP rfl (by decide) rfl ht zf_X12_107 dX12_feed_67 ?_
  refine lv_iload (pc := 70) hx hb dX12_feed_70 (lv_at hl 0 rfl) ?_
  refine lv_iadd (pc := 72) hx hb dX12_feed_72 ?_
  refine lv_topi (pc := 73) (fun v139 ev139 => ?_)
  obtain rfl : v139 = 13 := ev139.trans (by decide)
  refine lv_aload_n (pc := 73) hx hb dX12_feed_73 rfl (lv_at hl 1 rfl) ?_
  refine zgetR (pc := 74) (k := 218) (j := 8) (a := o + 225) zc12 hx hb hts hown hK hP rfl (by decide) rfl (hR 218 8 rfl) zf_X12_30 dX12_feed_74 ?_
  refine lv_iload (pc := 77) hx hb dX12_feed_77 (lv_at hl 0 rfl) ?_
  refine lv_iconst (pc := 79) (v := 4) hx hb dX12_feed_79 (by decide) ?_
  refine lv_idiv (pc := 80) hx hb dX12_feed_80 (by decide) ?_
  refine lv_topi (pc := 81) (fun v140 ev140 => ?_)
  obtain rfl : v140 = 3 := ev140.trans (by decide)
  refine ziald (pc := 81) (k := 225) (n := 5) hx hb hK hP rfl (by decide) (vp_in_iff.mpr ⟨by decide, by decide⟩) dX12_feed_81 ?_
  refine lv_topi (pc := 82) (fun v141 ev141 => ?_)
  refine lv_bipush (pc := 82) (v := 24) hx hb dX12_feed_82 (by decide) ?_
  refine lv_bipush (pc := 84) (v := 8) hx hb dX12_feed_84 (by decide) ?_
  refine lv_iload (pc := 86) hx hb dX12_feed_86 (lv_at hl 0 rfl) ?_
  refine lv_iconst (pc := 88) (v := 4) hx hb dX12_feed_88 (by decide) ?_
  refine lv_irem (pc := 89) hx hb dX12_feed_89 (by decide) ?_
  refine lv_topi (pc := 90) (fun v142 ev142 => ?_)
  obtain rfl : v142 = 1 := ev142.trans (by decide)
  refine lv_imul (pc := 90) hx hb dX12_feed_90 ?_
  refine lv_topi (pc := 91) (fun v143 ev143 => ?_)
  obtain rfl : v143 = 8 := ev143.trans (by decide)
  refine lv_isub (pc := 91) hx hb dX12_feed_91 ?_
  refine lv_topi (pc := 92) (fun v144 ev144 => ?_)
  obtain rfl : v144 = 16 := ev144.trans (by decide)
  refine lv_ishr (pc := 92) hx hb dX12_feed_92 ?_
  refine lv_topi (pc := 93) (fun v145 ev145 => ?_)
  refine lv_i2b (pc := 93) hx hb dX12_feed_93 rfl ?_
  refine lv_topi (pc := 94) (fun v146 ev146 => ?_)
  refine zbast (pc := 94) (k := 224) (n := 600) hx hb hK hP hS rfl (by decide) (vp_in_iff.mpr ⟨by decide, by decide⟩) dX12_feed_94 (fun H locs hP hS => ?_)
  obtain ⟨σ147, eσ147⟩ : ∃ x : zS, x = zI σ137 224 (upd (σ137.1 224) 13 (vp_nar .byte v146)) := ⟨_, rfl⟩
  have hP : zP D c o σ147 H := by rw [eσ147]; exact hP
  have ht : σ147.1 218 7 = 0 := zI_ne eσ147 (by decide) ht
  have f225_0 : σ147.1 225 0 = p0 := zI_ne eσ147 (by decide) f225_0
  have f225_1 : σ147.1 225 1 = p1 := zI_ne eσ147 (by decide) f225_1
  have f225_2 : σ147.1 225 2 = p2 := zI_ne eσ147 (by decide) f225_2
  have f225_3 : σ147.1 225 3 = p3 := zI_ne eσ147 (by decide) f225_3
  have f225_4 : σ147.1 225 4 = p4 := zI_ne eσ147 (by decide) f225_4
  have hR : zRef o σ147.2.2 := zI_ref eσ147 hR
  refine lv_iinc (pc := 95) (v := 14) (lv' := [(6, .int 14), (0, .ref (o + 218)), (1, .int p0), (2, .int p1), (3, .int p2), (4, .int p3), (5, .int p4)]) hx hb dX12_feed_95 hl (k := 0) rfl (by decide) (by decide) rfl (fun ls hl => ?_)
  refine lv_goto (pc := 98) (tgt := 55) hx hb dX12_feed_98 (by decide) ?_
  refine lv_iload (pc := 55) hx hb dX12_feed_55 (lv_at hl 0 rfl) ?_
  refine lv_bipush (pc := 57) (v := 20) hx hb dX12_feed_57 (by decide) ?_
  refine lv_icmp_ge (pc := 59) (tgt := 101) hx hb dX12_feed_59 (by decide) (fun c148 => absurd c148 (by decide)) (fun _ => ?_)
  refine lv_aload_n (pc := 62) hx hb dX12_feed_62 rfl (lv_at hl 1 rfl) ?_
  refine zgetR (pc := 63) (k := 218) (j := 6) (a := o + 224) zc12 hx hb hts hown hK hP rfl (by decide) rfl (hR 218 6 rfl) zf_X12_26 dX12_feed_63 ?_
  refine lv_aload_n (pc := 66) hx hb dX12_feed_66 rfl (lv_at hl 1 rfl) ?_
  refine zgetI (pc := 67) (k := 218) (j := 7) (v := 0) zc12 hx hb hts hown hK hP rfl (by decide) rfl ht zf_X12_107 dX12_feed_67 ?_
  refine lv_iload (pc := 70) hx hb dX12_feed_70 (lv_at hl 0 rfl) ?_
  refine lv_iadd (pc := 72) hx hb dX12_feed_72 ?_
  refine lv_topi (pc := 73) (fun v149 ev149 => ?_)
  obtain rfl : v149 = 14 := ev149.trans (by decide)
  refine lv_aload_n (pc := 73) hx hb dX12_feed_73 rfl (lv_at hl 1 rfl) ?_
  refine zgetR (pc := 74) (k := 218) (j := 8) (a := o + 225) zc12 hx hb hts hown hK hP rfl (by decide) rfl (hR 218 8 rfl) zf_X12_30 dX12_feed_74 ?_
  refine lv_iload (pc := 77) hx hb dX12_feed_77 (lv_at hl 0 rfl) ?_
  refine lv_iconst (pc := 79) (v := 4) hx hb dX12_feed_79 (by decide) ?_
  refine lv_idiv (pc := 80) hx hb dX12_feed_80 (by decide) ?_
  refine lv_topi (pc := 81) (fun v150 ev150 => ?_)
  obtain rfl : v150 = 3 := ev150.trans (by decide)
  refine ziald (pc := 81) (k := 225) (n := 5) hx hb hK hP rfl (by decide) (vp_in_iff.mpr ⟨by decide, by decide⟩) dX12_feed_81 ?_
  refine lv_topi (pc := 82) (fun v151 ev151 => ?_)
  refine lv_bipush (pc := 82) (v := 24) hx hb dX12_feed_82 (by decide) ?_
  refine lv_bipush (pc := 84) (v := 8) hx hb dX12_feed_84 (by decide) ?_
  refine lv_iload (pc := 86) hx hb dX12_feed_86 (lv_at hl 0 rfl) ?_
  refine lv_iconst (pc := 88) (v := 4) hx hb dX12_feed_88 (by decide) ?_
  refine lv_irem (pc := 89) hx hb dX12_feed_89 (by decide) ?_
  refine lv_topi (pc := 90) (fun v152 ev152 => ?_)
  obtain rfl : v152 = 2 := ev152.trans (by decide)
  refine lv_imul (pc := 90) hx hb dX12_feed_90 ?_
  refine lv_topi (pc := 91) (fun v153 ev153 => ?_)
  obtain rfl : v153 = 16 := ev153.trans (by decide)
  refine lv_isub (pc := 91) hx hb dX12_feed_91 ?_
  refine lv_topi (pc := 92) (fun v154 ev154 => ?_)
  obtain rfl : v154 = 8 := ev154.trans (by decide)
  refine lv_ishr (pc := 92) hx hb dX12_feed_92 ?_
  refine lv_topi (pc := 93) (fun v155 ev155 => ?_)
  refine lv_i2b (pc := 93) hx hb dX12_feed_93 rfl ?_
  refine lv_topi (pc := 94) (fun v156 ev156 => ?_)
  refine zbast (pc := 94) (k := 224) (n := 600) hx hb hK hP hS rfl (by decide) (vp_in_iff.mpr ⟨by decide, by decide⟩) dX12_feed_94 (fun H locs hP hS => ?_)
  obtain ⟨σ157, eσ157⟩ : ∃ x : zS, x = zI σ147 224 (upd (σ147.1 224) 14 (vp_nar .byte v156)) := ⟨_, rfl⟩
  have hP : zP D c o σ157 H := by rw [eσ157]; exact hP
  have ht : σ157.1 218 7 = 0 := zI_ne eσ157 (by decide) ht
  have f225_0 : σ157.1 225 0 = p0 := zI_ne eσ157 (by decide) f225_0
  have f225_1 : σ157.1 225 1 = p1 := zI_ne eσ157 (by decide) f225_1
  have f225_2 : σ157.1 225 2 = p2 := zI_ne eσ157 (by decide) f225_2
  have f225_3 : σ157.1 225 3 = p3 := zI_ne eσ157 (by decide) f225_3
  have f225_4 : σ157.1 225 4 = p4 := zI_ne eσ157 (by decide) f225_4
  have hR : zRef o σ157.2.2 := zI_ref eσ157 hR
  refine lv_iinc (pc := 95) (v := 15) (lv' := [(6, .int 15), (0, .ref (o + 218)), (1, .int p0), (2, .int p1), (3, .int p2), (4, .int p3), (5, .int p4)]) hx hb dX12_feed_95 hl (k := 0) rfl (by decide) (by decide) rfl (fun ls hl => ?_)
  refine lv_goto (pc := 98) (tgt := 55) hx hb dX12_feed_98 (by decide) ?_
  refine lv_iload (pc := 55) hx hb dX12_feed_55 (lv_at hl 0 rfl) ?_
  refine lv_bipush (pc := 57) (v := 20) hx hb dX12_feed_57 (by decide) ?_
  refine lv_icmp_ge (pc := 59) (tgt := 101) hx hb dX12_feed_59 (by decide) (fun c158 => absurd c158 (by decide)) (fun _ => ?_)
  refine lv_aload_n (pc := 62) hx hb dX12_feed_62 rfl (lv_at hl 1 rfl) ?_
  refine zgetR (pc := 63) (k := 218) (j := 6) (a := o + 224) zc12 hx hb hts hown hK hP rfl (by decide) rfl (hR 218 6 rfl) zf_X12_26 dX12_feed_63 ?_
  refine lv_aload_n (pc := 66) hx hb dX12_feed_66 rfl (lv_at hl 1 rfl) ?_
  refine zgetI (pc := 67) (k := 218) (j := 7) (v := 0) zc12 hx hb hts hown hK hP rfl (by decide) rfl ht zf_X12_107 dX12_feed_67 ?_
  refine lv_iload (pc := 70) hx hb dX12_feed_70 (lv_at hl 0 rfl) ?_
  refine lv_iadd (pc := 72) hx hb dX12_feed_72 ?_
  refine lv_topi (pc := 73) (fun v159 ev159 => ?_)
  obtain rfl : v159 = 15 := ev159.trans (by decide)
  refine lv_aload_n (pc := 73) hx hb dX12_feed_73 rfl (lv_at hl 1 rfl) ?_
  refine zgetR (pc := 74) (k := 218) (j := 8) (a := o + 225) zc12 hx hb hts hown hK hP rfl (by decide) rfl (hR 218 8 rfl) zf_X12_30 dX12_feed_74 ?_
  refine lv_iload (pc := 77) hx hb dX12_feed_77 (lv_at hl 0 rfl) ?_
  refine lv_iconst (pc := 79) (v := 4) hx hb dX12_feed_79 (by decide) ?_
  refine lv_idiv (pc := 80) hx hb dX12_feed_80 (by decide) ?_
  refine lv_topi (pc := 81) (fun v160 ev160 => ?_)
  obtain rfl : v160 = 3 := ev160.trans (by decide)
  refine ziald (pc := 81) (k := 225) (n := 5) hx hb hK hP rfl (by decide) (vp_in_iff.mpr ⟨by decide, by decide⟩) dX12_feed_81 ?_
  refine lv_topi (pc := 82) (fun v161 ev161 => ?_)
  refine lv_bipush (pc := 82) (v := 24) hx hb dX12_feed_82 (by decide) ?_
  refine lv_bipush (pc := 84) (v := 8) hx hb dX12_feed_84 (by decide) ?_
  refine lv_iload (pc := 86) hx hb dX12_feed_86 (lv_at hl 0 rfl) ?_
  refine lv_iconst (pc := 88) (v := 4) hx hb dX12_feed_88 (by decide) ?_
  refine lv_irem (pc := 89) hx hb dX12_feed_89 (by decide) ?_
  refine lv_topi (pc := 90) (fun v162 ev162 => ?_)
  obtain rfl : v162 = 3 := ev162.trans (by decide)
  refine lv_imul (pc := 90) hx hb dX12_feed_90 ?_
  refine lv_topi (pc := 91) (fun v163 ev163 => ?_)
  obtain rfl : v163 = 24 := ev163.trans (by decide)
  refine lv_isub (pc := 91) hx hb dX12_feed_91 ?_
  refine lv_topi (pc := 92) (fun v164 ev164 => ?_)
  obtain rfl : v164 = 0 := ev164.trans (by decide)
  refine lv_ishr (pc := 92) hx hb dX12_feed_92 ?_
  refine lv_topi (pc := 93) (fun v165 ev165 => ?_)
  refine lv_i2b (pc := 93) hx hb dX12_feed_93 rfl ?_
  refine lv_topi (pc := 94) (fun v166 ev166 => ?_)
  refine zbast (pc := 94) (k := 224) (n := 600) hx hb hK hP hS rfl (by decide) (vp_in_iff.mpr ⟨by decide, by decide⟩) dX12_feed_94 (fun H locs hP hS => ?_)
  obtain ⟨σ167, eσ167⟩ : ∃ x : zS, x = zI σ157 224 (upd (σ157.1 224) 15 (vp_nar .byte v166)) := ⟨_, rfl⟩
  have hP : zP D c o σ167 H := by rw [eσ167]; exact hP
  have ht : σ167.1 218 7 = 0 := zI_ne eσ167 (by decide) ht
  have f225_0 : σ167.1 225 0 = p0 := zI_ne eσ167 (by decide) f225_0
  have f225_1 : σ167.1 225 1 = p1 := zI_ne eσ167 (by decide) f225_1
  have f225_2 : σ167.1 225 2 = p2 := zI_ne eσ167 (by decide) f225_2
  have f225_3 : σ167.1 225 3 = p3 := zI_ne eσ167 (by decide) f225_3
  have f225_4 : σ167.1 225 4 = p4 := zI_ne eσ167 (by decide) f225_4
  have hR : zRef o σ167.2.2 := zI_ref eσ167 hR
  refine lv_iinc (pc := 95) (v := 16) (lv' := [(6, .int 16), (0, .ref (o + 218)), (1, .int p0), (2, .int p1), (3, .int p2), (4, .int p3), (5, .int p4)]) hx hb dX12_feed_95 hl (k := 0) rfl (by decide) (by decide) rfl (fun ls hl => ?_)
  refine lv_goto (pc := 98) (tgt := 55) hx hb dX12_feed_98 (by decide) ?_
  refine lv_iload (pc := 55) hx hb dX12_feed_55 (lv_at hl 0 rfl) ?_
  refine lv_bipush (pc := 57) (v := 20) hx hb dX12_feed_57 (by decide) ?_
  refine lv_icmp_ge (pc := 59) (tgt := 101) hx hb dX12_feed_59 (by decide) (fun c168 => absurd c168 (by decide)) (fun _ => ?_)
  refine lv_aload_n (pc := 62) hx hb dX12_feed_62 rfl (lv_at hl 1 rfl) ?_
  refine zgetR (pc := 63) (k := 218) (j := 6) (a := o + 224) zc12 hx hb hts hown hK hP rfl (by decide) rfl (hR 218 6 rfl) zf_X12_26 dX12_feed_63 ?_
  refine lv_aload_n (pc := 66) hx hb dX12_feed_66 rfl (lv_at hl 1 rfl) ?_
  refine zgetI (pc := 67) (k := 218) (j := 7) (v := 0) zc12 hx hb hts hown hK hP rfl (by decide) rfl ht zf_X12_107 dX12_feed_67 ?_
  refine lv_iload (pc := 70) hx hb dX12_feed_70 (lv_at hl 0 rfl) ?_
  refine lv_iadd (pc := 72) hx hb dX12_feed_72 ?_
  refine lv_topi (pc := 73) (fun v169 ev169 => ?_)
  obtain rfl : v169 = 16 := ev169.trans (by decide)
  refine lv_aload_n (pc := 73) hx hb dX12_feed_73 rfl (lv_at hl 1 rfl) ?_
  refine zgetR (pc := 74) (k := 218) (j := 8) (a := o + 225) zc12 hx hb hts hown hK hP rfl (by decide) rfl (hR 218 8 rfl) zf_X12_30 dX12_feed_74 ?_
  refine lv_iload (pc := 77) hx hb dX12_feed_77 (lv_at hl 0 rfl) ?_
  refine lv_iconst (pc := 79) (v := 4) hx hb dX12_feed_79 (by decide) ?_
  refine lv_idiv (pc := 80) hx hb dX12_feed_80 (by decide) ?_
  refine lv_topi (pc := 81) (fun v170 ev170 => ?_)
  obtain rfl : v170 = 4 := ev170.trans (by decide)
  refine ziald (pc := 81) (k := 225) (n := 5) hx hb hK hP rfl (by decide) (vp_in_iff.mpr ⟨by decide, by decide⟩) dX12_feed_81 ?_
  refine lv_topi (pc := 82) (fun v171 ev171 => ?_)
  refine lv_bipush (pc := 82) (v := 24) hx hb dX12_feed_82 (by decide) ?_
  refine lv_bipush (pc := 84) (v := 8) hx hb dX12_feed_84 (by decide) ?_
  refine lv_iload (pc := 86) hx hb dX12_feed_86 (lv_at hl 0 rfl) ?_
  refine lv_iconst (pc := 88) (v := 4) hx hb dX12_feed_88 (by decide) ?_
  refine lv_irem (pc := 89) hx hb dX12_feed_89 (by decide) ?_
  refine lv_topi (pc := 90) (fun v172 ev172 => ?_)
  obtain rfl : v172 = 0 := ev172.trans (by decide)
  refine lv_imul (pc := 90) hx hb dX12_feed_90 ?_
  refine lv_topi (pc := 91) (fun v173 ev173 => ?_)
  obtain rfl : v173 = 0 := ev173.trans (by decide)
  refine lv_isub (pc := 91) hx hb dX12_feed_91 ?_
  refine lv_topi (pc := 92) (fun v174 ev174 => ?_)
  obtain rfl : v174 = 24 := ev174.trans (by decide)
  refine lv_ishr (pc := 92) hx hb dX12_feed_92 ?_
  refine lv_topi (pc := 93) (fun v175 ev175 => ?_)
  refine lv_i2b (pc := 93) hx hb dX12_feed_93 rfl ?_
  refine lv_topi (pc := 94) (fun v176 ev176 => ?_)
  refine zbast (pc := 94) (k := 224) (n := 600) hx hb hK hP hS rfl (by decide) (vp_in_iff.mpr ⟨by decide, by decide⟩) dX12_feed_94 (fun H locs hP hS => ?_)
  obtain ⟨σ177, eσ177⟩ : ∃ x : zS, x = zI σ167 224 (upd (σ167.1 224) 16 (vp_nar .byte v176)) := ⟨_, rfl⟩
  have hP : zP D c o σ177 H := by rw [eσ177]; exact hP
  have ht : σ177.1 218 7 = 0 := zI_ne eσ177 (by decide) ht
  have f225_0 : σ177.1 225 0 = p0 := zI_ne eσ177 (by decide) f225_0
  have f225_1 : σ177.1 225 1 = p1 := zI_ne eσ177 (by decide) f225_1
  have f225_2 : σ177.1 225 2 = p2 := zI_ne eσ177 (by decide) f225_2
  have f225_3 : σ177.1 225 3 = p3 := zI_ne eσ177 (by decide) f225_3
  have f225_4 : σ177.1 225 4 = p4 := zI_ne eσ177 (by decide) f225_4
  have hR : zRef o σ177.2.2 := zI_ref eσ177 hR
  refine lv_iinc (pc := 95) (v := 17) (lv' := [(6, .int 17), (0, .ref (o + 218)), (1, .int p0), (2, .int p1), (3, .int p2), (4, .int p3), (5, .int p4)]) hx hb dX12_feed_95 hl (k := 0) rfl (by decide) (by decide) rfl (fun ls hl => ?_)
  refine lv_goto (pc := 98) (tgt := 55) hx hb dX12_feed_98 (by decide) ?_
  refine lv_iload (pc := 55) hx hb dX12_feed_55 (lv_at hl 0 rfl) ?_
  refine lv_bipush (pc := 57) (v := 20) hx hb dX12_feed_57 (by decide) ?_
  refine lv_icmp_ge (pc := 59) (tgt := 101) hx hb dX12_feed_59 (by decide) (fun c178 => absurd c178 (by decide)) (fun _ => ?_)
  refine lv_aload_n (pc := 62) hx hb dX12_feed_62 rfl (lv_at hl 1 rfl) ?_
  refine zgetR (pc := 63) (k := 218) (j := 6) (a := o + 224) zc12 hx hb hts hown hK hP rfl (by decide) rfl (hR 218 6 rfl) zf_X12_26 dX12_feed_63 ?_
  refine lv_aload_n (pc := 66) hx hb dX12_feed_66 rfl (lv_at hl 1 rfl) ?_
  refine zgetI (pc := 67) (k := 218) (j := 7) (v := 0) zc12 hx hb hts hown hK hP rfl (by decide) rfl ht zf_X12_107 dX12_feed_67 ?_
  refine lv_iload (pc := 70) hx hb dX12_feed_70 (lv_at hl 0 rfl) ?_
  refine lv_iadd (pc := 72) hx hb dX12_feed_72 ?_
  refine lv_topi (pc := 73) (fun v179 ev179 => ?_)
  obtain rfl : v179 = 17 := ev179.trans (by decide)
  refine lv_aload_n (pc := 73) hx hb dX12_feed_73 rfl (lv_at hl 1 rfl) ?_
  refine zgetR (pc := 74) (k := 218) (j := 8) (a := o + 225) zc12 hx hb hts hown hK hP rfl (by decide) rfl (hR 218 8 rfl) zf_X12_30 dX12_feed_74 ?_
  refine lv_iload (pc := 77) hx hb dX12_feed_77 (lv_at hl 0 rfl) ?_
  refine lv_iconst (pc := 79) (v := 4) hx hb dX12_feed_79 (by decide) ?_
  refine lv_idiv (pc := 80) hx hb dX12_feed_80 (by decide) ?_
  refine lv_topi (pc := 81) (fun v180 ev180 => ?_)
  obtain rfl : v180 = 4 := ev180.trans (by decide)
  refine ziald (pc := 81) (k := 225) (n := 5) hx hb hK hP rfl (by decide) (vp_in_iff.mpr ⟨by decide, by decide⟩) dX12_feed_81 ?_
  refine lv_topi (pc := 82) (fun v181 ev181 => ?_)
  refine lv_bipush (pc := 82) (v := 24) hx hb dX12_feed_82 (by decide) ?_
  refine lv_bipush (pc := 84) (v := 8) hx hb dX12_feed_84 (by decide) ?_
  refine lv_iload (pc := 86) hx hb dX12_feed_86 (lv_at hl 0 rfl) ?_
  refine lv_iconst (pc := 88) (v := 4) hx hb dX12_feed_88 (by decide) ?_
  refine lv_irem (pc := 89) hx hb dX12_feed_89 (by decide) ?_
  refine lv_topi (pc := 90) (fun v182 ev182 => ?_)
  obtain rfl : v182 = 1 := ev182.trans (by decide)
  refine lv_imul (pc := 90) hx hb dX12_feed_90 ?_
  refine lv_topi (pc := 91) (fun v183 ev183 => ?_)
  obtain rfl : v183 = 8 := ev183.trans (by decide)
  refine lv_isub (pc := 91) hx hb dX12_feed_91 ?_
  refine lv_topi (pc := 92) (fun v184 ev184 => ?_)
  obtain rfl : v184 = 16 := ev184.trans (by decide)
  refine lv_ishr (pc := 92) hx hb dX12_feed_92 ?_
  refine lv_topi (pc := 93) (fun v185 ev185 => ?_)
  refine lv_i2b (pc := 93) hx hb dX12_feed_93 rfl ?_
  refine lv_topi (pc := 94) (fun v186 ev186 => ?_)
  refine zbast (pc := 94) (k := 224) (n := 600) hx hb hK hP hS rfl (by decide) (vp_in_iff.mpr ⟨by decide, by decide⟩) dX12_feed_94 (fun H locs hP hS => ?_)
  obtain ⟨σ187, eσ187⟩ : ∃ x : zS, x = zI σ177 224 (upd (σ177.1 224) 17 (vp_nar .byte v186)) := ⟨_, rfl⟩
  have hP : zP D c o σ187 H := by rw [eσ187]; exact hP
  have ht : σ187.1 218 7 = 0 := zI_ne eσ187 (by decide) ht
  have f225_0 : σ187.1 225 0 = p0 := zI_ne eσ187 (by decide) f225_0
  have f225_1 : σ187.1 225 1 = p1 := zI_ne eσ187 (by decide) f225_1
  have f225_2 : σ187.1 225 2 = p2 := zI_ne eσ187 (by decide) f225_2
  have f225_3 : σ187.1 225 3 = p3 := zI_ne eσ187 (by decide) f225_3
  have f225_4 : σ187.1 225 4 = p4 := zI_ne eσ187 (by decide) f225_4
  have hR : zRef o σ187.2.2 := zI_ref eσ187 hR
  refine lv_iinc (pc := 95) (v := 18) (lv' := [(6, .int 18), (0, .ref (o + 218)), (1, .int p0), (2, .int p1), (3, .int p2), (4, .int p3), (5, .int p4)]) hx hb dX12_feed_95 hl (k := 0) rfl (by decide) (by decide) rfl (fun ls hl => ?_)
  refine lv_goto (pc := 98) (tgt := 55) hx hb dX12_feed_98 (by decide) ?_
  refine lv_iload (pc := 55) hx hb dX12_feed_55 (lv_at hl 0 rfl) ?_
  refine lv_bipush (pc := 57) (v := 20) hx hb dX12_feed_57 (by decide) ?_
  refine lv_icmp_ge (pc := 59) (tgt := 101) hx hb dX12_feed_59 (by decide) (fun c188 => absurd c188 (by decide)) (fun _ => ?_)
  refine lv_aload_n (pc := 62) hx hb dX12_feed_62 rfl (lv_at hl 1 rfl) ?_
  refine zgetR (pc := 63) (k := 218) (j := 6) (a := o + 224) zc12 hx hb hts hown hK hP rfl (by decide) rfl (hR 218 6 rfl) zf_X12_26 dX12_feed_63 ?_
  refine lv_aload_n (pc := 66) hx hb dX12_feed_66 rfl (lv_at hl 1 rfl) ?_
  refine zgetI (pc := 67) (k := 218) (j := 7) (v := 0) zc12 hx hb hts hown hK hP rfl (by decide) rfl ht zf_X12_107 dX12_feed_67 ?_
  refine lv_iload (pc := 70) hx hb dX12_feed_70 (lv_at hl 0 rfl) ?_
  refine lv_iadd (pc := 72) hx hb dX12_feed_72 ?_
  refine lv_topi (pc := 73) (fun v189 ev189 => ?_)
  obtain rfl : v189 = 18 := ev189.trans (by decide)
  refine lv_aload_n (pc := 73) hx hb dX12_feed_73 rfl (lv_at hl 1 rfl) ?_
  refine zgetR (pc := 74) (k := 218) (j := 8) (a := o + 225) zc12 hx hb hts hown hK hP rfl (by decide) rfl (hR 218 8 rfl) zf_X12_30 dX12_feed_74 ?_
  refine lv_iload (pc := 77) hx hb dX12_feed_77 (lv_at hl 0 rfl) ?_
  refine lv_iconst (pc := 79) (v := 4) hx hb dX12_feed_79 (by decide) ?_
  refine lv_idiv (pc := 80) hx hb dX12_feed_80 (by decide) ?_
  refine lv_topi (pc := 81) (fun v190 ev190 => ?_)
  obtain rfl : v190 = 4 := ev190.trans (by decide)
  refine ziald (pc := 81) (k := 225) (n := 5) hx hb hK hP rfl (by decide) (vp_in_iff.mpr ⟨by decide, by decide⟩) dX12_feed_81 ?_
  refine lv_topi (pc := 82) (fun v191 ev191 => ?_)
  refine lv_bipush (pc := 82) (v := 24) hx hb dX12_feed_82 (by decide) ?_
  refine lv_bipush (pc := 84) (v := 8) hx hb dX12_feed_84 (by decide) ?_
  refine lv_iload (pc := 86) hx hb dX12_feed_86 (lv_at hl 0 rfl) ?_
  refine lv_iconst (pc := 88) (v := 4) hx hb dX12_feed_88 (by decide) ?_
  refine lv_irem (pc := 89) hx hb dX12_feed_89 (by decide) ?_
  refine lv_topi (pc := 90) (fun v192 ev192 => ?_)
  obtain rfl : v192 = 2 := ev192.trans (by decide)
  refine lv_imul (pc := 90) hx hb dX12_feed_90 ?_
  refine lv_topi (pc := 91) (fun v193 ev193 => ?_)
  obtain rfl : v193 = 16 := ev193.trans (by decide)
  refine lv_isub (pc := 91) hx hb dX12_feed_91 ?_
  refine lv_topi (pc := 92) (fun v194 ev194 => ?_)
  obtain rfl : v194 = 8 := ev194.trans (by decide)
  refine lv_ishr (pc := 92) hx hb dX12_feed_92 ?_
  refine lv_topi (pc := 93) (fun v195 ev195 => ?_)
  refine lv_i2b (pc := 93) hx hb dX12_feed_93 rfl ?_
  refine lv_topi (pc := 94) (fun v196 ev196 => ?_)
  refine zbast (pc := 94) (k := 224) (n := 600) hx hb hK hP hS rfl (by decide) (vp_in_iff.mpr ⟨by decide, by decide⟩) dX12_feed_94 (fun H locs hP hS => ?_)
  obtain ⟨σ197, eσ197⟩ : ∃ x : zS, x = zI σ187 224 (upd (σ187.1 224) 18 (vp_nar .byte v196)) := ⟨_, rfl⟩
  have hP : zP D c o σ197 H := by rw [eσ197]; exact hP
  have ht : σ197.1 218 7 = 0 := zI_ne eσ197 (by decide) ht
  have f225_0 : σ197.1 225 0 = p0 := zI_ne eσ197 (by decide) f225_0
  have f225_1 : σ197.1 225 1 = p1 := zI_ne eσ197 (by decide) f225_1
  have f225_2 : σ197.1 225 2 = p2 := zI_ne eσ197 (by decide) f225_2
  have f225_3 : σ197.1 225 3 = p3 := zI_ne eσ197 (by decide) f225_3
  have f225_4 : σ197.1 225 4 = p4 := zI_ne eσ197 (by decide) f225_4
  have hR : zRef o σ197.2.2 := zI_ref eσ197 hR
  refine lv_iinc (pc := 95) (v := 19) (lv' := [(6, .int 19), (0, .ref (o + 218)), (1, .int p0), (2, .int p1), (3, .int p2), (4, .int p3), (5, .int p4)]) hx hb dX12_feed_95 hl (k := 0) rfl (by decide) (by decide) rfl (fun ls hl => ?_)
  refine lv_goto (pc := 98) (tgt := 55) hx hb dX12_feed_98 (by decide) ?_
  refine lv_iload (pc := 55) hx hb dX12_feed_55 (lv_at hl 0 rfl) ?_
  refine lv_bipush (pc := 57) (v := 20) hx hb dX12_feed_57 (by decide) ?_
  refine lv_icmp_ge (pc := 59) (tgt := 101) hx hb dX12_feed_59 (by decide) (fun c198 => absurd c198 (by decide)) (fun _ => ?_)
  refine lv_aload_n (pc := 62) hx hb dX12_feed_62 rfl (lv_at hl 1 rfl) ?_
  refine zgetR (pc := 63) (k := 218) (j := 6) (a := o + 224) zc12 hx hb hts hown hK hP rfl (by decide) rfl (hR 218 6 rfl) zf_X12_26 dX12_feed_63 ?_
  refine lv_aload_n (pc := 66) hx hb dX12_feed_66 rfl (lv_at hl 1 rfl) ?_
  refine zgetI (pc := 67) (k := 218) (j := 7) (v := 0) zc12 hx hb hts hown hK hP rfl (by decide) rfl ht zf_X12_107 dX12_feed_67 ?_
  refine lv_iload (pc := 70) hx hb dX12_feed_70 (lv_at hl 0 rfl) ?_
  refine lv_iadd (pc := 72) hx hb dX12_feed_72 ?_
  refine lv_topi (pc := 73) (fun v199 ev199 => ?_)
  obtain rfl : v199 = 19 := ev199.trans (by decide)
  refine lv_aload_n (pc := 73) hx hb dX12_feed_73 rfl (lv_at hl 1 rfl) ?_
  refine zgetR (pc := 74) (k := 218) (j := 8) (a := o + 225) zc12 hx hb hts hown hK hP rfl (by decide) rfl (hR 218 8 rfl) zf_X12_30 dX12_feed_74 ?_
  refine lv_iload (pc := 77) hx hb dX12_feed_77 (lv_at hl 0 rfl) ?_
  refine lv_iconst (pc := 79) (v := 4) hx hb dX12_feed_79 (by decide) ?_
  refine lv_idiv (pc := 80) hx hb dX12_feed_80 (by decide) ?_
  refine lv_topi (pc := 81) (fun v200 ev200 => ?_)
  obtain rfl : v200 = 4 := ev200.trans (by decide)
  refine ziald (pc := 81) (k := 225) (n := 5) hx hb hK hP rfl (by decide) (vp_in_iff.mpr ⟨by decide, by decide⟩) dX12_feed_81 ?_
  refine lv_topi (pc := 82) (fun v201 ev201 => ?_)
  refine lv_bipush (pc := 82) (v := 24) hx hb dX12_feed_82 (by decide) ?_
  refine lv_bipush (pc := 84) (v := 8) hx hb dX12_feed_84 (by decide) ?_
  refine lv_iload (pc := 86) hx hb dX12_feed_86 (lv_at hl 0 rfl) ?_
  refine lv_iconst (pc := 88) (v := 4) hx hb dX12_feed_88 (by decide) ?_
  refine lv_irem (pc := 89) hx hb dX12_feed_89 (by decide) ?_
  refine lv_topi (pc := 90) (fun v202 ev202 => ?_)
  obtain rfl : v202 = 3 := ev202.trans (by decide)
  refine lv_imul (pc := 90) hx hb dX12_feed_90 ?_
  refine lv_topi (pc := 91) (fun v203 ev203 => ?_)
  obtain rfl : v203 = 24 := ev203.trans (by decide)
  refine lv_isub (pc := 91) hx hb dX12_feed_91 ?_
  refine lv_topi (pc := 92) (fun v204 ev204 => ?_)
  obtain rfl : v204 = 0 := ev204.trans (by decide)
  refine lv_ishr (pc := 92) hx hb dX12_feed_92 ?_
  refine lv_topi (pc := 93) (fun v205 ev205 => ?_)
  refine lv_i2b (pc := 93) hx hb dX12_feed_93 rfl ?_
  refine lv_topi (pc := 94) (fun v206 ev206 => ?_)
  refine zbast (pc := 94) (k := 224) (n := 600) hx hb hK hP hS rfl (by decide) (vp_in_iff.mpr ⟨by decide, by decide⟩) dX12_feed_94 (fun H locs hP hS => ?_)
  obtain ⟨σ207, eσ207⟩ : ∃ x : zS, x = zI σ197 224 (upd (σ197.1 224) 19 (vp_nar .byte v206)) := ⟨_, rfl⟩
  have hP : zP D c o σ207 H := by rw [eσ207]; exact hP
  have ht : σ207.1 218 7 = 0 := zI_ne eσ207 (by decide) ht
  have f225_0 : σ207.1 225 0 = p0 := zI_ne eσ207 (by decide) f225_0
  have f225_1 : σ207.1 225 1 = p1 := zI_ne eσ207 (by decide) f225_1
  have f225_2 : σ207.1 225 2 = p2 := zI_ne eσ207 (by decide) f225_2
  have f225_3 : σ207.1 225 3 = p3 := zI_ne eσ207 (by decide) f225_3
  have f225_4 : σ207.1 225 4 = p4 := zI_ne eσ207 (by decide) f225_4
  have hR : zRef o σ207.2.2 := zI_ref eσ207 hR
  refine lv_iinc (pc := 95) (v := 20) (lv' := [(6, .int 20), (0, .ref (o + 218)), (1, .int p0), (2, .int p1), (3, .int p2), (4, .int p3), (5, .int p4)]) hx hb dX12_feed_95 hl (k := 0) rfl (by decide) (by decide) rfl (fun ls hl => ?_)
  refine lv_goto (pc := 98) (tgt := 55) hx hb dX12_feed_98 (by decide) ?_
  refine lv_iload (pc := 55) hx hb dX12_feed_55 (lv_at hl 0 rfl) ?_
  refine lv_bipush (pc := 57) (v := 20) hx hb dX12_feed_57 (by decide) ?_
  refine lv_icmp_ge (pc := 59) (tgt := 101) hx hb dX12_feed_59 (by decide) (fun _ => ?_) (fun c208 => absurd c208 (by decide))
  refine lv_aload_n (pc := 101) hx hb dX12_feed_101 rfl (lv_at hl 1 rfl) ?_
  refine lv_dup (pc := 102) hx hb dX12_feed_102 rfl ?_
  refine zgetI (pc := 103) (k := 218) (j := 7) (v := 0) zc12 hx hb hts hown hK hP rfl (by decide) rfl ht zf_X12_107 dX12_feed_103 ?_
  refine lv_bipush (pc := 106) (v := 20) hx hb dX12_feed_106 (by decide) ?_
  refine lv_iadd (pc := 108) hx hb dX12_feed_108 ?_
  refine lv_topi (pc := 109) (fun v209 ev209 => ?_)
  obtain rfl : v209 = 20 := ev209.trans (by decide)
  refine zputI (pc := 109) (k := 218) (j := 7) zc12 hx hb hts hown hK hP hS rfl (by decide) rfl rfl rfl zf_X12_107 dX12_feed_109 (fun H locs hP hS => ?_)
  obtain ⟨σ210, eσ210⟩ : ∃ x : zS, x = zI σ207 218 (upd (σ207.1 218) 7 20) := ⟨_, rfl⟩
  have hP : zP D c o σ210 H := by rw [eσ210]; exact hP
  have f225_0 : σ210.1 225 0 = p0 := zI_ne eσ210 (by decide) f225_0
  have f225_1 : σ210.1 225 1 = p1 := zI_ne eσ210 (by decide) f225_1
  have f225_2 : σ210.1 225 2 = p2 := zI_ne eσ210 (by decide) f225_2
  have f225_3 : σ210.1 225 3 = p3 := zI_ne eσ210 (by decide) f225_3
  have f225_4 : σ210.1 225 4 = p4 := zI_ne eσ210 (by decide) f225_4
  have f218_7 : σ210.1 218 7 = 20 := zI_eq eσ210 pk_us
  have hR : zRef o σ210.2.2 := zI_ref eσ210 hR
  refine lv_aload_n (pc := 112) hx hb dX12_feed_112 rfl (lv_at hl 1 rfl) ?_
  refine zgetI (pc := 113) (k := 218) (j := 7) (v := 20) zc12 hx hb hts hown hK hP rfl (by decide) rfl f218_7 zf_X12_107 dX12_feed_113 ?_
  exact zreti (pc := 116) hx hb hr hlocks hP hK hS rfl dX12_feed_116

set_option maxHeartbeats 4000000 in
set_option maxRecDepth 100000 in
theorem fr_X12_keep (l : Launch) (D : va_G) (c : zC) (o : Nat) (σ : zS) (p0 : Int32) (hR : zRef o σ.2.2) : Met l yX12_keep zs_X12_keep (zr 3) (va_Pc [.ref (o + 218), .int p0] (zQ D c o σ)) (va_Qi (fun (r : Int32) (σ1 : zS) => r = zsp_keep p0) (zQ D c o) (zA o)) 0 0 (zA o) := by
  refine zMet (by decide) (Nat.le_of_ble_eq_true rfl) ?_
  intro p e s m below meth cd ⟨hx, hb, hr, hml, hown, hts, hlocks⟩ hP hK ls hl
  have hS : va_S (zA o) s.heap s.heap [] := va_S.rf
  have hl : lv_has ls 3 [(0, .ref (o + 218)), (1, .int p0)] := hl
  refine lv_iload_n (pc := 0) hx hb dX12_keep_0 rfl (lv_at hl 1 rfl) ?_
  refine lv_i2l (pc := 1) hx hb dX12_keep_1 rfl ?_
  refine lv_lconst (pc := 2) (v := 0) hx hb dX12_keep_2 (by decide) ?_
  refine lv_ldc2 (pc := 3) hx hb hown (hts _ zk_X12_92) dX12_keep_3 ?_
  refine zcallSi (pc := 6) (As := [.long p0.toInt64, .long 0, .long 2]) (rest := []) ⟨hx, hb, hml, hown, hts⟩ (cs_in l D c o σ p0.toInt64 0 2) zT_X12_94 rfl zd_X12_in ⟨Nat.le_of_ble_eq_true rfl, Nat.le_of_ble_eq_true rfl⟩ hK hP hS hl.1 rfl (Nat.le_of_ble_eq_true rfl) ⟨Nat.zero_le _, Nat.zero_le _⟩ dX12_keep_6 (fun r1 σ2 H locs hw3 hP hS => ?_)
  obtain ⟨er1, rfl⟩ := hw3
  have er1 : r1 = zin3 p0.toInt 0 2 := er1.trans (by (try simp only [Int32.toInt_toInt64]); rfl)
  refine lv_if_ne (pc := 9) (tgt := 15) hx hb dX12_keep_9 (by decide) (fun c4 => ?_) (fun c4 => ?_)
  · rcases zcase3 (x := p0) (zin_ne er1 c4) with w5 | w6 | w7
    · subst w5
      refine lv_iconst (pc := 15) (v := 0) hx hb dX12_keep_15 (by decide) ?_
      refine lv_istore_n (pc := 16) (lv' := [(2, .int 0), (0, .ref (o + 218)), (1, .int 0)]) hx hb dX12_keep_16 rfl hl (by decide) rfl (fun ls hl => ?_)
      have loop_17 : ∀ (n i : Nat) (τ8 : zS) (H : Heap) (locs : List Loc) (ls : Array Slot), i ≤ 43 → 43 - i < n → (zRef o τ8.2.2) → zP D c o τ8 H → va_S (zA o) s.heap H locs → lv_has ls 3 [(2, .int (nI i)), (0, .ref (o + 218)), (1, .int 0)] → W p l e (zr 3) s m (([.ref (o + 218), .int 0] : List Value).toArray) below meth cd H locs 0 0 (MQ below (va_Qi (fun (r : Int32) (σ1 : zS) => r = zsp_keep 0) (zQ D c o) (zA o)) (([.ref (o + 218), .int 0] : List Value).toArray) s 0 0 (zA o)) (F0 m 17 ls []) := by
        intro n
        induction n with
        | zero => intro i _ _ _ _ _ h2; exact absurd h2 (by omega)
        | succ n ih =>
          intro i τ8 H locs ls hi hn hR hP hS hl
          refine lv_iload_n (pc := 17) hx hb dX12_keep_17 rfl (lv_at hl 0 rfl) ?_
          refine lv_bipush (pc := 18) (v := 43) hx hb dX12_keep_18 (by decide) ?_
          refine lv_icmp_ge (pc := 20) (tgt := 46) hx hb dX12_keep_20 (by decide) (fun c9 => ?_) (fun c9 => ?_)
          · refine lv_iconst (pc := 46) (v := 0) hx hb dX12_keep_46 (by decide) ?_
            refine lv_istore_n (pc := 47) (lv' := [(2, .int 0), (0, .ref (o + 218)), (1, .int 0)]) hx hb dX12_keep_47 rfl hl (by decide) rfl (fun ls hl => ?_)
            have loop_48 : ∀ (n i : Nat) (τ10 : zS) (H : Heap) (locs : List Loc) (ls : Array Slot), i ≤ 10240 → 10240 - i < n → (zRef o τ10.2.2) → zP D c o τ10 H → va_S (zA o) s.heap H locs → lv_has ls 3 [(2, .int (nI i)), (0, .ref (o + 218)), (1, .int 0)] → W p l e (zr 3) s m (([.ref (o + 218), .int 0] : List Value).toArray) below meth cd H locs 0 0 (MQ below (va_Qi (fun (r : Int32) (σ1 : zS) => r = zsp_keep 0) (zQ D c o) (zA o)) (([.ref (o + 218), .int 0] : List Value).toArray) s 0 0 (zA o)) (F0 m 48 ls []) := by
              intro n
              induction n with
              | zero => intro i _ _ _ _ _ h2; exact absurd h2 (by omega)
              | succ n ih =>
                intro i τ10 H locs ls hi hn hR hP hS hl
                refine lv_iload_n (pc := 48) hx hb dX12_keep_48 rfl (lv_at hl 0 rfl) ?_
                refine lv_sipush (pc := 49) (v := 10240) hx hb dX12_keep_49 (by decide) ?_
                refine lv_icmp_ge (pc := 52) (tgt := 79) hx hb dX12_keep_52 (by decide) (fun c11 => ?_) (fun c11 => ?_)
                · refine lv_aload_n (pc := 79) hx hb dX12_keep_79 rfl (lv_at hl 1 rfl) ?_
                  refine zgetR (pc := 80) (k := 218) (j := 5) (a := o + 223) zc12 hx hb hts hown hK hP rfl (by decide) rfl (hR 218 5 rfl) zf_X12_23 dX12_keep_80 ?_
                  refine lv_iload_n (pc := 83) hx hb dX12_keep_83 rfl (lv_at hl 2 rfl) ?_
                  refine lv_iconst (pc := 84) (v := 1) hx hb dX12_keep_84 (by decide) ?_
                  refine zzast (pc := 85) (k := 223) (n := 3) hx hb hK hP hS rfl (by decide) (vp_in_iff.mpr ⟨by decide, by decide⟩) dX12_keep_85 (fun H locs hP hS => ?_)
                  obtain ⟨σ12, eσ12⟩ : ∃ x : zS, x = zI τ10 223 (upd (τ10.1 223) 0 (vp_nar .boolean 1)) := ⟨_, rfl⟩
                  have hP : zP D c o σ12 H := by rw [eσ12]; exact hP
                  have hR : zRef o σ12.2.2 := zI_ref eσ12 hR
                  refine lv_iconst (pc := 86) (v := 0) hx hb dX12_keep_86 (by decide) ?_
                  exact zreti (pc := 87) hx hb hr hlocks hP hK hS rfl dX12_keep_87
                · have hlt : i < 10240 := zlit (N := 10240) (by omega) (by omega) (by assumption)
                  refine lv_aload_n (pc := 55) hx hb dX12_keep_55 rfl (lv_at hl 1 rfl) ?_
                  refine zgetR (pc := 56) (k := 218) (j := 4) (a := o + 222) zc12 hx hb hts hown hK hP rfl (by decide) rfl (hR 218 4 rfl) zf_X12_20 dX12_keep_56 ?_
                  refine lv_sipush (pc := 59) (v := 10240) hx hb dX12_keep_59 (by decide) ?_
                  refine lv_iload_n (pc := 62) hx hb dX12_keep_62 rfl (lv_at hl 2 rfl) ?_
                  refine lv_imul (pc := 63) hx hb dX12_keep_63 ?_
                  refine lv_topi (pc := 64) (fun v13 ev13 => ?_)
                  obtain rfl : v13 = 0 := ev13.trans (by decide)
                  refine lv_iload_n (pc := 64) hx hb dX12_keep_64 rfl (lv_at hl 0 rfl) ?_
                  refine lv_iadd (pc := 65) hx hb dX12_keep_65 ?_
                  refine lv_topi (pc := 66) (fun v14 ev14 => ?_)
                  refine lv_aload_n (pc := 66) hx hb dX12_keep_66 rfl (lv_at hl 1 rfl) ?_
                  refine zgetR (pc := 67) (k := 218) (j := 2) (a := o + 220) zc12 hx hb hts hown hK hP rfl (by decide) rfl (hR 218 2 rfl) zf_X12_13 dX12_keep_67 ?_
                  refine lv_iload_n (pc := 70) hx hb dX12_keep_70 rfl (lv_at hl 0 rfl) ?_
                  refine zzald (pc := 71) (k := 220) (n := 10240) hx hb hK hP rfl (by decide) (vp_in_nI (by omega) (by omega)) dX12_keep_71 ?_
                  refine lv_topi (pc := 72) (fun v15 ev15 => ?_)
                  refine zzast (pc := 72) (k := 222) (n := 30720) hx hb hK hP hS rfl (by decide) (by rw [show v14 = nI (0 + i) from ev14.trans (nI_add 0 i)]; exact vp_in_nI (by omega) (by omega)) dX12_keep_72 (fun H locs hP hS => ?_)
                  obtain ⟨σ16, eσ16⟩ : ∃ x : zS, x = zI τ10 222 (upd (τ10.1 222) v14.toNatClampNeg (vp_nar .boolean v15)) := ⟨_, rfl⟩
                  have hP : zP D c o σ16 H := by rw [eσ16]; exact hP
                  have hR : zRef o σ16.2.2 := zI_ref eσ16 hR
                  obtain ⟨v17, ev17⟩ : ∃ y : Int32, y = nI i + 1 := ⟨_, rfl⟩
                  refine lv_iinc (pc := 73) (v := v17) (lv' := [(2, .int v17), (0, .ref (o + 218)), (1, .int 0)]) hx hb dX12_keep_73 hl (k := 0) rfl (by rw [ev17]; rfl) (by decide) rfl (fun ls hl => ?_)
                  refine lv_goto (pc := 76) (tgt := 48) hx hb dX12_keep_76 (by decide) ?_
                  have hl : lv_has ls 3 [(2, .int (nI (i + 1))), (0, .ref (o + 218)), (1, .int 0)] := by have h9 := lv_sub hl [0, 1, 2] rfl; rw [show v17 = nI (i + 1) from by rw [ev17]; exact nI_1 i] at h9; exact h9
                  exact ih (i + 1) σ16 H locs ls (by omega) (by omega) hR hP hS hl
            exact loop_48 (10240 + 1) 0 τ8 _ _ ls (Nat.zero_le _) (by omega) hR hP hS (lv_sub hl [0, 1, 2] rfl)
          · have hlt : i < 43 := zlit (N := 43) (by omega) (by omega) (by assumption)
            refine lv_aload_n (pc := 23) hx hb dX12_keep_23 rfl (lv_at hl 1 rfl) ?_
            refine zgetR (pc := 24) (k := 218) (j := 3) (a := o + 221) zc12 hx hb hts hown hK hP rfl (by decide) rfl (hR 218 3 rfl) zf_X12_17 dX12_keep_24 ?_
            refine lv_bipush (pc := 27) (v := 43) hx hb dX12_keep_27 (by decide) ?_
            refine lv_iload_n (pc := 29) hx hb dX12_keep_29 rfl (lv_at hl 2 rfl) ?_
            refine lv_imul (pc := 30) hx hb dX12_keep_30 ?_
            refine lv_topi (pc := 31) (fun v18 ev18 => ?_)
            obtain rfl : v18 = 0 := ev18.trans (by decide)
            refine lv_iload_n (pc := 31) hx hb dX12_keep_31 rfl (lv_at hl 0 rfl) ?_
            refine lv_iadd (pc := 32) hx hb dX12_keep_32 ?_
            refine lv_topi (pc := 33) (fun v19 ev19 => ?_)
            refine lv_aload_n (pc := 33) hx hb dX12_keep_33 rfl (lv_at hl 1 rfl) ?_
            refine zgetR (pc := 34) (k := 218) (j := 1) (a := o + 219) zc12 hx hb hts hown hK hP rfl (by decide) rfl (hR 218 1 rfl) zf_X12_9 dX12_keep_34 ?_
            refine lv_iload_n (pc := 37) hx hb dX12_keep_37 rfl (lv_at hl 0 rfl) ?_
            refine ziald (pc := 38) (k := 219) (n := 43) hx hb hK hP rfl (by decide) (vp_in_nI (by omega) (by omega)) dX12_keep_38 ?_
            refine lv_topi (pc := 39) (fun v20 ev20 => ?_)
            refine ziast (pc := 39) (k := 221) (n := 129) hx hb hK hP hS rfl (by decide) (by rw [show v19 = nI (0 + i) from ev19.trans (nI_add 0 i)]; exact vp_in_nI (by omega) (by omega)) dX12_keep_39 (fun H locs hP hS => ?_)
            obtain ⟨σ21, eσ21⟩ : ∃ x : zS, x = zI τ8 221 (upd (τ8.1 221) v19.toNatClampNeg v20) := ⟨_, rfl⟩
            have hP : zP D c o σ21 H := by rw [eσ21]; exact hP
            have hR : zRef o σ21.2.2 := zI_ref eσ21 hR
            obtain ⟨v22, ev22⟩ : ∃ y : Int32, y = nI i + 1 := ⟨_, rfl⟩
            refine lv_iinc (pc := 40) (v := v22) (lv' := [(2, .int v22), (0, .ref (o + 218)), (1, .int 0)]) hx hb dX12_keep_40 hl (k := 0) rfl (by rw [ev22]; rfl) (by decide) rfl (fun ls hl => ?_)
            refine lv_goto (pc := 43) (tgt := 17) hx hb dX12_keep_43 (by decide) ?_
            have hl : lv_has ls 3 [(2, .int (nI (i + 1))), (0, .ref (o + 218)), (1, .int 0)] := by have h9 := lv_sub hl [0, 1, 2] rfl; rw [show v22 = nI (i + 1) from by rw [ev22]; exact nI_1 i] at h9; exact h9
            exact ih (i + 1) σ21 H locs ls (by omega) (by omega) hR hP hS hl
      exact loop_17 (43 + 1) 0 σ _ _ ls (Nat.zero_le _) (by omega) hR hP hS (lv_sub hl [0, 1, 2] rfl)
    · subst w6
      refine lv_iconst (pc := 15) (v := 0) hx hb dX12_keep_15 (by decide) ?_
      refine lv_istore_n (pc := 16) (lv' := [(2, .int 0), (0, .ref (o + 218)), (1, .int 1)]) hx hb dX12_keep_16 rfl hl (by decide) rfl (fun ls hl => ?_)
      have loop_17 : ∀ (n i : Nat) (τ23 : zS) (H : Heap) (locs : List Loc) (ls : Array Slot), i ≤ 43 → 43 - i < n → (zRef o τ23.2.2) → zP D c o τ23 H → va_S (zA o) s.heap H locs → lv_has ls 3 [(2, .int (nI i)), (0, .ref (o + 218)), (1, .int 1)] → W p l e (zr 3) s m (([.ref (o + 218), .int 1] : List Value).toArray) below meth cd H locs 0 0 (MQ below (va_Qi (fun (r : Int32) (σ1 : zS) => r = zsp_keep 1) (zQ D c o) (zA o)) (([.ref (o + 218), .int 1] : List Value).toArray) s 0 0 (zA o)) (F0 m 17 ls []) := by
        intro n
        induction n with
        | zero => intro i _ _ _ _ _ h2; exact absurd h2 (by omega)
        | succ n ih =>
          intro i τ23 H locs ls hi hn hR hP hS hl
          refine lv_iload_n (pc := 17) hx hb dX12_keep_17 rfl (lv_at hl 0 rfl) ?_
          refine lv_bipush (pc := 18) (v := 43) hx hb dX12_keep_18 (by decide) ?_
          refine lv_icmp_ge (pc := 20) (tgt := 46) hx hb dX12_keep_20 (by decide) (fun c24 => ?_) (fun c24 => ?_)
          · refine lv_iconst (pc := 46) (v := 0) hx hb dX12_keep_46 (by decide) ?_
            refine lv_istore_n (pc := 47) (lv' := [(2, .int 0), (0, .ref (o + 218)), (1, .int 1)]) hx hb dX12_keep_47 rfl hl (by decide) rfl (fun ls hl => ?_)
            have loop_48 : ∀ (n i : Nat) (τ25 : zS) (H : Heap) (locs : List Loc) (ls : Array Slot), i ≤ 10240 → 10240 - i < n → (zRef o τ25.2.2) → zP D c o τ25 H → va_S (zA o) s.heap H locs → lv_has ls 3 [(2, .int (nI i)), (0, .ref (o + 218)), (1, .int 1)] → W p l e (zr 3) s m (([.ref (o + 218), .int 1] : List Value).toArray) below meth cd H locs 0 0 (MQ below (va_Qi (fun (r : Int32) (σ1 : zS) => r = zsp_keep 1) (zQ D c o) (zA o)) (([.ref (o + 218), .int 1] : List Value).toArray) s 0 0 (zA o)) (F0 m 48 ls []) := by
              intro n
              induction n with
              | zero => intro i _ _ _ _ _ h2; exact absurd h2 (by omega)
              | succ n ih =>
                intro i τ25 H locs ls hi hn hR hP hS hl
                refine lv_iload_n (pc := 48) hx hb dX12_keep_48 rfl (lv_at hl 0 rfl) ?_
                refine lv_sipush (pc := 49) (v := 10240) hx hb dX12_keep_49 (by decide) ?_
                refine lv_icmp_ge (pc := 52) (tgt := 79) hx hb dX12_keep_52 (by decide) (fun c26 => ?_) (fun c26 => ?_)
                · refine lv_aload_n (pc := 79) hx hb dX12_keep_79 rfl (lv_at hl 1 rfl) ?_
                  refine zgetR (pc := 80) (k := 218) (j := 5) (a := o + 223) zc12 hx hb hts hown hK hP rfl (by decide) rfl (hR 218 5 rfl) zf_X12_23 dX12_keep_80 ?_
                  refine lv_iload_n (pc := 83) hx hb dX12_keep_83 rfl (lv_at hl 2 rfl) ?_
                  refine lv_iconst (pc := 84) (v := 1) hx hb dX12_keep_84 (by decide) ?_
                  refine zzast (pc := 85) (k := 223) (n := 3) hx hb hK hP hS rfl (by decide) (vp_in_iff.mpr ⟨by decide, by decide⟩) dX12_keep_85 (fun H locs hP hS => ?_)
                  obtain ⟨σ27, eσ27⟩ : ∃ x : zS, x = zI τ25 223 (upd (τ25.1 223) 1 (vp_nar .boolean 1)) := ⟨_, rfl⟩
                  have hP : zP D c o σ27 H := by rw [eσ27]; exact hP
                  have hR : zRef o σ27.2.2 := zI_ref eσ27 hR
                  refine lv_iconst (pc := 86) (v := 0) hx hb dX12_keep_86 (by decide) ?_
                  exact zreti (pc := 87) hx hb hr hlocks hP hK hS rfl dX12_keep_87
                · have hlt : i < 10240 := zlit (N := 10240) (by omega) (by omega) (by assumption)
                  refine lv_aload_n (pc := 55) hx hb dX12_keep_55 rfl (lv_at hl 1 rfl) ?_
                  refine zgetR (pc := 56) (k := 218) (j := 4) (a := o + 222) zc12 hx hb hts hown hK hP rfl (by decide) rfl (hR 218 4 rfl) zf_X12_20 dX12_keep_56 ?_
                  refine lv_sipush (pc := 59) (v := 10240) hx hb dX12_keep_59 (by decide) ?_
                  refine lv_iload_n (pc := 62) hx hb dX12_keep_62 rfl (lv_at hl 2 rfl) ?_
                  refine lv_imul (pc := 63) hx hb dX12_keep_63 ?_
                  refine lv_topi (pc := 64) (fun v28 ev28 => ?_)
                  obtain rfl : v28 = 10240 := ev28.trans (by decide)
                  refine lv_iload_n (pc := 64) hx hb dX12_keep_64 rfl (lv_at hl 0 rfl) ?_
                  refine lv_iadd (pc := 65) hx hb dX12_keep_65 ?_
                  refine lv_topi (pc := 66) (fun v29 ev29 => ?_)
                  refine lv_aload_n (pc := 66) hx hb dX12_keep_66 rfl (lv_at hl 1 rfl) ?_
                  refine zgetR (pc := 67) (k := 218) (j := 2) (a := o + 220) zc12 hx hb hts hown hK hP rfl (by decide) rfl (hR 218 2 rfl) zf_X12_13 dX12_keep_67 ?_
                  refine lv_iload_n (pc := 70) hx hb dX12_keep_70 rfl (lv_at hl 0 rfl) ?_
                  refine zzald (pc := 71) (k := 220) (n := 10240) hx hb hK hP rfl (by decide) (vp_in_nI (by omega) (by omega)) dX12_keep_71 ?_
                  refine lv_topi (pc := 72) (fun v30 ev30 => ?_)
                  refine zzast (pc := 72) (k := 222) (n := 30720) hx hb hK hP hS rfl (by decide) (by rw [show v29 = nI (10240 + i) from ev29.trans (nI_add 10240 i)]; exact vp_in_nI (by omega) (by omega)) dX12_keep_72 (fun H locs hP hS => ?_)
                  obtain ⟨σ31, eσ31⟩ : ∃ x : zS, x = zI τ25 222 (upd (τ25.1 222) v29.toNatClampNeg (vp_nar .boolean v30)) := ⟨_, rfl⟩
                  have hP : zP D c o σ31 H := by rw [eσ31]; exact hP
                  have hR : zRef o σ31.2.2 := zI_ref eσ31 hR
                  obtain ⟨v32, ev32⟩ : ∃ y : Int32, y = nI i + 1 := ⟨_, rfl⟩
                  refine lv_iinc (pc := 73) (v := v32) (lv' := [(2, .int v32), (0, .ref (o + 218)), (1, .int 1)]) hx hb dX12_keep_73 hl (k := 0) rfl (by rw [ev32]; rfl) (by decide) rfl (fun ls hl => ?_)
                  refine lv_goto (pc := 76) (tgt := 48) hx hb dX12_keep_76 (by decide) ?_
                  have hl : lv_has ls 3 [(2, .int (nI (i + 1))), (0, .ref (o + 218)), (1, .int 1)] := by have h9 := lv_sub hl [0, 1, 2] rfl; rw [show v32 = nI (i + 1) from by rw [ev32]; exact nI_1 i] at h9; exact h9
                  exact ih (i + 1) σ31 H locs ls (by omega) (by omega) hR hP hS hl
            exact loop_48 (10240 + 1) 0 τ23 _ _ ls (Nat.zero_le _) (by omega) hR hP hS (lv_sub hl [0, 1, 2] rfl)
          · have hlt : i < 43 := zlit (N := 43) (by omega) (by omega) (by assumption)
            refine lv_aload_n (pc := 23) hx hb dX12_keep_23 rfl (lv_at hl 1 rfl) ?_
            refine zgetR (pc := 24) (k := 218) (j := 3) (a := o + 221) zc12 hx hb hts hown hK hP rfl (by decide) rfl (hR 218 3 rfl) zf_X12_17 dX12_keep_24 ?_
            refine lv_bipush (pc := 27) (v := 43) hx hb dX12_keep_27 (by decide) ?_
            refine lv_iload_n (pc := 29) hx hb dX12_keep_29 rfl (lv_at hl 2 rfl) ?_
            refine lv_imul (pc := 30) hx hb dX12_keep_30 ?_
            refine lv_topi (pc := 31) (fun v33 ev33 => ?_)
            obtain rfl : v33 = 43 := ev33.trans (by decide)
            refine lv_iload_n (pc := 31) hx hb dX12_keep_31 rfl (lv_at hl 0 rfl) ?_
            refine lv_iadd (pc := 32) hx hb dX12_keep_32 ?_
            refine lv_topi (pc := 33) (fun v34 ev34 => ?_)
            refine lv_aload_n (pc := 33) hx hb dX12_keep_33 rfl (lv_at hl 1 rfl) ?_
            refine zgetR (pc := 34) (k := 218) (j := 1) (a := o + 219) zc12 hx hb hts hown hK hP rfl (by decide) rfl (hR 218 1 rfl) zf_X12_9 dX12_keep_34 ?_
            refine lv_iload_n (pc := 37) hx hb dX12_keep_37 rfl (lv_at hl 0 rfl) ?_
            refine ziald (pc := 38) (k := 219) (n := 43) hx hb hK hP rfl (by decide) (vp_in_nI (by omega) (by omega)) dX12_keep_38 ?_
            refine lv_topi (pc := 39) (fun v35 ev35 => ?_)
            refine ziast (pc := 39) (k := 221) (n := 129) hx hb hK hP hS rfl (by decide) (by rw [show v34 = nI (43 + i) from ev34.trans (nI_add 43 i)]; exact vp_in_nI (by omega) (by omega)) dX12_keep_39 (fun H locs hP hS => ?_)
            obtain ⟨σ36, eσ36⟩ : ∃ x : zS, x = zI τ23 221 (upd (τ23.1 221) v34.toNatClampNeg v35) := ⟨_, rfl⟩
            have hP : zP D c o σ36 H := by rw [eσ36]; exact hP
            have hR : zRef o σ36.2.2 := zI_ref eσ36 hR
            obtain ⟨v37, ev37⟩ : ∃ y : Int32, y = nI i + 1 := ⟨_, rfl⟩
            refine lv_iinc (pc := 40) (v := v37) (lv' := [(2, .int v37), (0, .ref (o + 218)), (1, .int 1)]) hx hb dX12_keep_40 hl (k := 0) rfl (by rw [ev37]; rfl) (by decide) rfl (fun ls hl => ?_)
            refine lv_goto (pc := 43) (tgt := 17) hx hb dX12_keep_43 (by decide) ?_
            have hl : lv_has ls 3 [(2, .int (nI (i + 1))), (0, .ref (o + 218)), (1, .int 1)] := by have h9 := lv_sub hl [0, 1, 2] rfl; rw [show v37 = nI (i + 1) from by rw [ev37]; exact nI_1 i] at h9; exact h9
            exact ih (i + 1) σ36 H locs ls (by omega) (by omega) hR hP hS hl
      exact loop_17 (43 + 1) 0 σ _ _ ls (Nat.zero_le _) (by omega) hR hP hS (lv_sub hl [0, 1, 2] rfl)
    · subst w7
      refine lv_iconst (pc := 15) (v := 0) hx hb dX12_keep_15 (by decide) ?_
      refine lv_istore_n (pc := 16) (lv' := [(2, .int 0), (0, .ref (o + 218)), (1, .int 2)]) hx hb dX12_keep_16 rfl hl (by decide) rfl (fun ls hl => ?_)
      have loop_17 : ∀ (n i : Nat) (τ38 : zS) (H : Heap) (locs : List Loc) (ls : Array Slot), i ≤ 43 → 43 - i < n → (zRef o τ38.2.2) → zP D c o τ38 H → va_S (zA o) s.heap H locs → lv_has ls 3 [(2, .int (nI i)), (0, .ref (o + 218)), (1, .int 2)] → W p l e (zr 3) s m (([.ref (o + 218), .int 2] : List Value).toArray) below meth cd H locs 0 0 (MQ below (va_Qi (fun (r : Int32) (σ1 : zS) => r = zsp_keep 2) (zQ D c o) (zA o)) (([.ref (o + 218), .int 2] : List Value).toArray) s 0 0 (zA o)) (F0 m 17 ls []) := by
        intro n
        induction n with
        | zero => intro i _ _ _ _ _ h2; exact absurd h2 (by omega)
        | succ n ih =>
          intro i τ38 H locs ls hi hn hR hP hS hl
          refine lv_iload_n (pc := 17) hx hb dX12_keep_17 rfl (lv_at hl 0 rfl) ?_
          refine lv_bipush (pc := 18) (v := 43) hx hb dX12_keep_18 (by decide) ?_
          refine lv_icmp_ge (pc := 20) (tgt := 46) hx hb dX12_keep_20 (by decide) (fun c39 => ?_) (fun c39 => ?_)
          · refine lv_iconst (pc := 46) (v := 0) hx hb dX12_keep_46 (by decide) ?_
            refine lv_istore_n (pc := 47) (lv' := [(2, .int 0), (0, .ref (o + 218)), (1, .int 2)]) hx hb dX12_keep_47 rfl hl (by decide) rfl (fun ls hl => ?_)
            have loop_48 : ∀ (n i : Nat) (τ40 : zS) (H : Heap) (locs : List Loc) (ls : Array Slot), i ≤ 10240 → 10240 - i < n → (zRef o τ40.2.2) → zP D c o τ40 H → va_S (zA o) s.heap H locs → lv_has ls 3 [(2, .int (nI i)), (0, .ref (o + 218)), (1, .int 2)] → W p l e (zr 3) s m (([.ref (o + 218), .int 2] : List Value).toArray) below meth cd H locs 0 0 (MQ below (va_Qi (fun (r : Int32) (σ1 : zS) => r = zsp_keep 2) (zQ D c o) (zA o)) (([.ref (o + 218), .int 2] : List Value).toArray) s 0 0 (zA o)) (F0 m 48 ls []) := by
              intro n
              induction n with
              | zero => intro i _ _ _ _ _ h2; exact absurd h2 (by omega)
              | succ n ih =>
                intro i τ40 H locs ls hi hn hR hP hS hl
                refine lv_iload_n (pc := 48) hx hb dX12_keep_48 rfl (lv_at hl 0 rfl) ?_
                refine lv_sipush (pc := 49) (v := 10240) hx hb dX12_keep_49 (by decide) ?_
                refine lv_icmp_ge (pc := 52) (tgt := 79) hx hb dX12_keep_52 (by decide) (fun c41 => ?_) (fun c41 => ?_)
                · refine lv_aload_n (pc := 79) hx hb dX12_keep_79 rfl (lv_at hl 1 rfl) ?_
                  refine zgetR (pc := 80) (k := 218) (j := 5) (a := o + 223) zc12 hx hb hts hown hK hP rfl (by decide) rfl (hR 218 5 rfl) zf_X12_23 dX12_keep_80 ?_
                  refine lv_iload_n (pc := 83) hx hb dX12_keep_83 rfl (lv_at hl 2 rfl) ?_
                  refine lv_iconst (pc := 84) (v := 1) hx hb dX12_keep_84 (by decide) ?_
                  refine zzast (pc := 85) (k := 223) (n := 3) hx hb hK hP hS rfl (by decide) (vp_in_iff.mpr ⟨by decide, by decide⟩) dX12_keep_85 (fun H locs hP hS => ?_)
                  obtain ⟨σ42, eσ42⟩ : ∃ x : zS, x = zI τ40 223 (upd (τ40.1 223) 2 (vp_nar .boolean 1)) := ⟨_, rfl⟩
                  have hP : zP D c o σ42 H := by rw [eσ42]; exact hP
                  have hR : zRef o σ42.2.2 := zI_ref eσ42 hR
                  refine lv_iconst (pc := 86) (v := 0) hx hb dX12_keep_86 (by decide) ?_
                  exact zreti (pc := 87) hx hb hr hlocks hP hK hS rfl dX12_keep_87
                · have hlt : i < 10240 := zlit (N := 10240) (by omega) (by omega) (by assumption)
                  refine lv_aload_n (pc := 55) hx hb dX12_keep_55 rfl (lv_at hl 1 rfl) ?_
                  refine zgetR (pc := 56) (k := 218) (j := 4) (a := o + 222) zc12 hx hb hts hown hK hP rfl (by decide) rfl (hR 218 4 rfl) zf_X12_20 dX12_keep_56 ?_
                  refine lv_sipush (pc := 59) (v := 10240) hx hb dX12_keep_59 (by decide) ?_
                  refine lv_iload_n (pc := 62) hx hb dX12_keep_62 rfl (lv_at hl 2 rfl) ?_
                  refine lv_imul (pc := 63) hx hb dX12_keep_63 ?_
                  refine lv_topi (pc := 64) (fun v43 ev43 => ?_)
                  obtain rfl : v43 = 20480 := ev43.trans (by decide)
                  refine lv_iload_n (pc := 64) hx hb dX12_keep_64 rfl (lv_at hl 0 rfl) ?_
                  refine lv_iadd (pc := 65) hx hb dX12_keep_65 ?_
                  refine lv_topi (pc := 66) (fun v44 ev44 => ?_)
                  refine lv_aload_n (pc := 66) hx hb dX12_keep_66 rfl (lv_at hl 1 rfl) ?_
                  refine zgetR (pc := 67) (k := 218) (j := 2) (a := o + 220) zc12 hx hb hts hown hK hP rfl (by decide) rfl (hR 218 2 rfl) zf_X12_13 dX12_keep_67 ?_
                  refine lv_iload_n (pc := 70) hx hb dX12_keep_70 rfl (lv_at hl 0 rfl) ?_
                  refine zzald (pc := 71) (k := 220) (n := 10240) hx hb hK hP rfl (by decide) (vp_in_nI (by omega) (by omega)) dX12_keep_71 ?_
                  refine lv_topi (pc := 72) (fun v45 ev45 => ?_)
                  refine zzast (pc := 72) (k := 222) (n := 30720) hx hb hK hP hS rfl (by decide) (by rw [show v44 = nI (20480 + i) from ev44.trans (nI_add 20480 i)]; exact vp_in_nI (by omega) (by omega)) dX12_keep_72 (fun H locs hP hS => ?_)
                  obtain ⟨σ46, eσ46⟩ : ∃ x : zS, x = zI τ40 222 (upd (τ40.1 222) v44.toNatClampNeg (vp_nar .boolean v45)) := ⟨_, rfl⟩
                  have hP : zP D c o σ46 H := by rw [eσ46]; exact hP
                  have hR : zRef o σ46.2.2 := zI_ref eσ46 hR
                  obtain ⟨v47, ev47⟩ : ∃ y : Int32, y = nI i + 1 := ⟨_, rfl⟩
                  refine lv_iinc (pc := 73) (v := v47) (lv' := [(2, .int v47), (0, .ref (o + 218)), (1, .int 2)]) hx hb dX12_keep_73 hl (k := 0) rfl (by rw [ev47]; rfl) (by decide) rfl (fun ls hl => ?_)
                  refine lv_goto (pc := 76) (tgt := 48) hx hb dX12_keep_76 (by decide) ?_
                  have hl : lv_has ls 3 [(2, .int (nI (i + 1))), (0, .ref (o + 218)), (1, .int 2)] := by have h9 := lv_sub hl [0, 1, 2] rfl; rw [show v47 = nI (i + 1) from by rw [ev47]; exact nI_1 i] at h9; exact h9
                  exact ih (i + 1) σ46 H locs ls (by omega) (by omega) hR hP hS hl
            exact loop_48 (10240 + 1) 0 τ38 _ _ ls (Nat.zero_le _) (by omega) hR hP hS (lv_sub hl [0, 1, 2] rfl)
          · have hlt : i < 43 := zlit (N := 43) (by omega) (by omega) (by assumption)
            refine lv_aload_n (pc := 23) hx hb dX12_keep_23 rfl (lv_at hl 1 rfl) ?_
            refine zgetR (pc := 24) (k := 218) (j := 3) (a := o + 221) zc12 hx hb hts hown hK hP rfl (by decide) rfl (hR 218 3 rfl) zf_X12_17 dX12_keep_24 ?_
            refine lv_bipush (pc := 27) (v := 43) hx hb dX12_keep_27 (by decide) ?_
            refine lv_iload_n (pc := 29) hx hb dX12_keep_29 rfl (lv_at hl 2 rfl) ?_
            refine lv_imul (pc := 30) hx hb dX12_keep_30 ?_
            refine lv_topi (pc := 31) (fun v48 ev48 => ?_)
            obtain rfl : v48 = 86 := ev48.trans (by decide)
            refine lv_iload_n (pc := 31) hx hb dX12_keep_31 rfl (lv_at hl 0 rfl) ?_
            refine lv_iadd (pc := 32) hx hb dX12_keep_32 ?_
            refine lv_topi (pc := 33) (fun v49 ev49 => ?_)
            refine lv_aload_n (pc := 33) hx hb dX12_keep_33 rfl (lv_at hl 1 rfl) ?_
            refine zgetR (pc := 34) (k := 218) (j := 1) (a := o + 219) zc12 hx hb hts hown hK hP rfl (by decide) rfl (hR 218 1 rfl) zf_X12_9 dX12_keep_34 ?_
            refine lv_iload_n (pc := 37) hx hb dX12_keep_37 rfl (lv_at hl 0 rfl) ?_
            refine ziald (pc := 38) (k := 219) (n := 43) hx hb hK hP rfl (by decide) (vp_in_nI (by omega) (by omega)) dX12_keep_38 ?_
            refine lv_topi (pc := 39) (fun v50 ev50 => ?_)
            refine ziast (pc := 39) (k := 221) (n := 129) hx hb hK hP hS rfl (by decide) (by rw [show v49 = nI (86 + i) from ev49.trans (nI_add 86 i)]; exact vp_in_nI (by omega) (by omega)) dX12_keep_39 (fun H locs hP hS => ?_)
            obtain ⟨σ51, eσ51⟩ : ∃ x : zS, x = zI τ38 221 (upd (τ38.1 221) v49.toNatClampNeg v50) := ⟨_, rfl⟩
            have hP : zP D c o σ51 H := by rw [eσ51]; exact hP
            have hR : zRef o σ51.2.2 := zI_ref eσ51 hR
            obtain ⟨v52, ev52⟩ : ∃ y : Int32, y = nI i + 1 := ⟨_, rfl⟩
            refine lv_iinc (pc := 40) (v := v52) (lv' := [(2, .int v52), (0, .ref (o + 218)), (1, .int 2)]) hx hb dX12_keep_40 hl (k := 0) rfl (by rw [ev52]; rfl) (by decide) rfl (fun ls hl => ?_)
            refine lv_goto (pc := 43) (tgt := 17) hx hb dX12_keep_43 (by decide) ?_
            have hl : lv_has ls 3 [(2, .int (nI (i + 1))), (0, .ref (o + 218)), (1, .int 2)] := by have h9 := lv_sub hl [0, 1, 2] rfl; rw [show v52 = nI (i + 1) from by rw [ev52]; exact nI_1 i] at h9; exact h9
            exact ih (i + 1) σ51 H locs ls (by omega) (by omega) hR hP hS hl
      exact loop_17 (43 + 1) 0 σ _ _ ls (Nat.zero_le _) (by omega) hR hP hS (lv_sub hl [0, 1, 2] rfl)
  · refine lv_bipush (pc := 12) (v := (-2)) hx hb dX12_keep_12 (by decide) ?_
    exact zreti (pc := 14) hx hb hr hlocks hP hK hS (by have qr1 := zin_eq er1 c4; unfold zsp_keep; (repeat' split) <;> first | rfl | omega) dX12_keep_14

set_option maxHeartbeats 4000000 in
set_option maxRecDepth 100000 in
theorem fr_X12_back (l : Launch) (D : va_G) (c : zC) (o : Nat) (σ : zS) (p0 : Int32) (hR : zRef o σ.2.2) (hk0 : σ.1 223 0 = 0) (hk1 : σ.1 223 1 = 0) (hk2 : σ.1 223 2 = 0) : Met l yX12_back zs_X12_back (zr 3) (va_Pc [.ref (o + 218), .int p0] (zQ D c o σ)) (va_Qi (fun (r : Int32) (σ1 : zS) => r = zsp_back p0) (zQ D c o) (zA o)) 0 0 (zA o) := by
  refine zMet (by decide) (Nat.le_of_ble_eq_true rfl) ?_
  intro p e s m below meth cd ⟨hx, hb, hr, hml, hown, hts, hlocks⟩ hP hK ls hl
  have hS : va_S (zA o) s.heap s.heap [] := va_S.rf
  have hl : lv_has ls 3 [(0, .ref (o + 218)), (1, .int p0)] := hl
  refine lv_iload_n (pc := 0) hx hb dX12_back_0 rfl (lv_at hl 1 rfl) ?_
  refine lv_i2l (pc := 1) hx hb dX12_back_1 rfl ?_
  refine lv_lconst (pc := 2) (v := 0) hx hb dX12_back_2 (by decide) ?_
  refine lv_ldc2 (pc := 3) hx hb hown (hts _ zk_X12_92) dX12_back_3 ?_
  refine zcallSi (pc := 6) (As := [.long p0.toInt64, .long 0, .long 2]) (rest := []) ⟨hx, hb, hml, hown, hts⟩ (cs_in l D c o σ p0.toInt64 0 2) zT_X12_94 rfl zd_X12_in ⟨Nat.le_of_ble_eq_true rfl, Nat.le_of_ble_eq_true rfl⟩ hK hP hS hl.1 rfl (Nat.le_of_ble_eq_true rfl) ⟨Nat.zero_le _, Nat.zero_le _⟩ dX12_back_6 (fun r1 σ2 H locs hw3 hP hS => ?_)
  obtain ⟨er1, rfl⟩ := hw3
  have er1 : r1 = zin3 p0.toInt 0 2 := er1.trans (by (try simp only [Int32.toInt_toInt64]); rfl)
  refine lv_if_ne (pc := 9) (tgt := 15) hx hb dX12_back_9 (by decide) (fun c4 => ?_) (fun c4 => ?_)
  · rcases zcase3 (x := p0) (zin_ne er1 c4) with w5 | w6 | w7
    · subst w5
      refine lv_aload_n (pc := 15) hx hb dX12_back_15 rfl (lv_at hl 0 rfl) ?_
      refine zgetR (pc := 16) (k := 218) (j := 5) (a := o + 223) zc12 hx hb hts hown hK hP rfl (by decide) rfl (hR 218 5 rfl) zf_X12_23 dX12_back_16 ?_
      refine lv_iload_n (pc := 19) hx hb dX12_back_19 rfl (lv_at hl 1 rfl) ?_
      refine zzald (pc := 20) (k := 223) (n := 3) hx hb hK hP rfl (by decide) (vp_in_iff.mpr ⟨by decide, by decide⟩) dX12_back_20 ?_
      refine lv_topi (pc := 21) (fun v8 ev8 => ?_)
      obtain rfl : v8 = 0 := ev8.trans hk0
      refine lv_if_ne (pc := 21) (tgt := 27) hx hb dX12_back_21 (by decide) (fun c9 => absurd c9 (by decide)) (fun _ => ?_)
      refine lv_bipush (pc := 24) (v := (-6)) hx hb dX12_back_24 (by decide) ?_
      exact zreti (pc := 26) hx hb hr hlocks hP hK hS rfl dX12_back_26
    · subst w6
      refine lv_aload_n (pc := 15) hx hb dX12_back_15 rfl (lv_at hl 0 rfl) ?_
      refine zgetR (pc := 16) (k := 218) (j := 5) (a := o + 223) zc12 hx hb hts hown hK hP rfl (by decide) rfl (hR 218 5 rfl) zf_X12_23 dX12_back_16 ?_
      refine lv_iload_n (pc := 19) hx hb dX12_back_19 rfl (lv_at hl 1 rfl) ?_
      refine zzald (pc := 20) (k := 223) (n := 3) hx hb hK hP rfl (by decide) (vp_in_iff.mpr ⟨by decide, by decide⟩) dX12_back_20 ?_
      refine lv_topi (pc := 21) (fun v10 ev10 => ?_)
      obtain rfl : v10 = 0 := ev10.trans hk1
      refine lv_if_ne (pc := 21) (tgt := 27) hx hb dX12_back_21 (by decide) (fun c11 => absurd c11 (by decide)) (fun _ => ?_)
      refine lv_bipush (pc := 24) (v := (-6)) hx hb dX12_back_24 (by decide) ?_
      exact zreti (pc := 26) hx hb hr hlocks hP hK hS rfl dX12_back_26
    · subst w7
      refine lv_aload_n (pc := 15) hx hb dX12_back_15 rfl (lv_at hl 0 rfl) ?_
      refine zgetR (pc := 16) (k := 218) (j := 5) (a := o + 223) zc12 hx hb hts hown hK hP rfl (by decide) rfl (hR 218 5 rfl) zf_X12_23 dX12_back_16 ?_
      refine lv_iload_n (pc := 19) hx hb dX12_back_19 rfl (lv_at hl 1 rfl) ?_
      refine zzald (pc := 20) (k := 223) (n := 3) hx hb hK hP rfl (by decide) (vp_in_iff.mpr ⟨by decide, by decide⟩) dX12_back_20 ?_
      refine lv_topi (pc := 21) (fun v12 ev12 => ?_)
      obtain rfl : v12 = 0 := ev12.trans hk2
      refine lv_if_ne (pc := 21) (tgt := 27) hx hb dX12_back_21 (by decide) (fun c13 => absurd c13 (by decide)) (fun _ => ?_)
      refine lv_bipush (pc := 24) (v := (-6)) hx hb dX12_back_24 (by decide) ?_
      exact zreti (pc := 26) hx hb hr hlocks hP hK hS rfl dX12_back_26
  · refine lv_bipush (pc := 12) (v := (-2)) hx hb dX12_back_12 (by decide) ?_
    exact zreti (pc := 14) hx hb hr hlocks hP hK hS (by have qr1 := zin_eq er1 c4; unfold zsp_back; (repeat' split) <;> first | rfl | omega) dX12_back_14

set_option maxHeartbeats 4000000 in
set_option maxRecDepth 100000 in
theorem fr_X12_row (l : Launch) (D : va_G) (c : zC) (o : Nat) (σ : zS) (p0 p1 p2 : Int32) (hR : zRef o σ.2.2) : Met l yX12_row zs_X12_row (zr 5) (va_Pc [.ref (o + 218), .int p0, .int p1, .int p2] (zQ D c o σ)) (va_Qi (fun (r : Int32) (σ1 : zS) => r = zsp_row p0 p1 p2) (zQ D c o) (zA o)) 0 0 (zA o) := by
  refine zMet (by decide) (Nat.le_of_ble_eq_true rfl) ?_
  intro p e s m below meth cd ⟨hx, hb, hr, hml, hown, hts, hlocks⟩ hP hK ls hl
  have hS : va_S (zA o) s.heap s.heap [] := va_S.rf
  have hl : lv_has ls 5 [(0, .ref (o + 218)), (1, .int p0), (2, .int p1), (3, .int p2)] := hl
  refine lv_iload_n (pc := 0) hx hb dX12_row_0 rfl (lv_at hl 1 rfl) ?_
  refine zcallSi (pc := 1) (As := [.int p0]) (rest := []) ⟨hx, hb, hml, hown, hts⟩ (cs_X12_isSlot l D c o σ p0) zT_X12_448 rfl zd_X12_isSlot ⟨Nat.le_of_ble_eq_true rfl, Nat.le_of_ble_eq_true rfl⟩ hK hP hS hl.1 rfl (Nat.le_of_ble_eq_true rfl) ⟨Nat.zero_le _, Nat.zero_le _⟩ dX12_row_1 (fun r1 σ2 H locs hw3 hP hS => ?_)
  obtain ⟨er1, rfl⟩ := hw3
  refine lv_if_eq (pc := 4) (tgt := 25) hx hb dX12_row_4 (by decide) (fun c4 => ?_) (fun c4 => ?_)
  · refine lv_bipush (pc := 25) (v := (-2)) hx hb dX12_row_25 (by decide) ?_
    exact zreti (pc := 27) hx hb hr hlocks hP hK hS (by have qr1 := zin_eq er1 c4; unfold zsp_row; (repeat' split) <;> first | rfl | omega) dX12_row_27
  · refine lv_iload_n (pc := 7) hx hb dX12_row_7 rfl (lv_at hl 2 rfl) ?_
    refine lv_i2l (pc := 8) hx hb dX12_row_8 rfl ?_
    refine lv_lconst (pc := 9) (v := 0) hx hb dX12_row_9 (by decide) ?_
    refine lv_ldc2 (pc := 10) hx hb hown (hts _ zk_X12_454) dX12_row_10 ?_
    refine zcallSi (pc := 13) (As := [.long p1.toInt64, .long 0, .long 3]) (rest := []) ⟨hx, hb, hml, hown, hts⟩ (cs_in l D c o σ p1.toInt64 0 3) zT_X12_94 rfl zd_X12_in ⟨Nat.le_of_ble_eq_true rfl, Nat.le_of_ble_eq_true rfl⟩ hK hP hS hl.1 rfl (Nat.le_of_ble_eq_true rfl) ⟨Nat.zero_le _, Nat.zero_le _⟩ dX12_row_13 (fun r5 σ6 H locs hw7 hP hS => ?_)
    obtain ⟨er5, rfl⟩ := hw7
    have er5 : r5 = zin3 p1.toInt 0 3 := er5.trans (by (try simp only [Int32.toInt_toInt64]); rfl)
    refine lv_if_eq (pc := 16) (tgt := 25) hx hb dX12_row_16 (by decide) (fun c8 => ?_) (fun c8 => ?_)
    · refine lv_bipush (pc := 25) (v := (-2)) hx hb dX12_row_25 (by decide) ?_
      exact zreti (pc := 27) hx hb hr hlocks hP hK hS (by have qr1 := zin_ne er1 c4; have qr5 := zin_eq er5 c8; unfold zsp_row; (repeat' split) <;> first | rfl | omega) dX12_row_27
    · refine lv_iload_n (pc := 19) hx hb dX12_row_19 rfl (lv_at hl 3 rfl) ?_
      refine lv_bipush (pc := 20) (v := 60) hx hb dX12_row_20 (by decide) ?_
      refine lv_icmp_le (pc := 22) (tgt := 28) hx hb dX12_row_22 (by decide) (fun c9 => ?_) (fun c9 => ?_)
      · refine lv_iload_n (pc := 28) hx hb dX12_row_28 rfl (lv_at hl 3 rfl) ?_
        refine lv_if_ge (pc := 29) (tgt := 35) hx hb dX12_row_29 (by decide) (fun c10 => ?_) (fun c10 => ?_)
        · rcases zcase4 (x := p0) (zin_ne er1 c4) with w11 | w12 | w13 | w14
          · subst w11
            refine lv_aload_n (pc := 35) hx hb dX12_row_35 rfl (lv_at hl 0 rfl) ?_
            refine zgetR (pc := 36) (k := 218) (j := 35) (a := o + 239) zc12 hx hb hts hown hK hP rfl (by decide) rfl (hR 218 35 rfl) zf_X12_76 dX12_row_36 ?_
            refine lv_iload_n (pc := 39) hx hb dX12_row_39 rfl (lv_at hl 1 rfl) ?_
            refine lv_iload_n (pc := 40) hx hb dX12_row_40 rfl (lv_at hl 3 rfl) ?_
            refine ziast (pc := 41) (k := 239) (n := 4) hx hb hK hP hS rfl (by decide) (vp_in_iff.mpr ⟨by decide, by decide⟩) dX12_row_41 (fun H locs hP hS => ?_)
            obtain ⟨σ15, eσ15⟩ : ∃ x : zS, x = zI σ 239 (upd (σ.1 239) 0 p2) := ⟨_, rfl⟩
            have hP : zP D c o σ15 H := by rw [eσ15]; exact hP
            have f239_0 : σ15.1 239 0 = p2 := zI_eq eσ15 pk_us
            have hR : zRef o σ15.2.2 := zI_ref eσ15 hR
            refine lv_aload_n (pc := 42) hx hb dX12_row_42 rfl (lv_at hl 0 rfl) ?_
            refine zgetR (pc := 43) (k := 218) (j := 36) (a := o + 240) zc12 hx hb hts hown hK hP rfl (by decide) rfl (hR 218 36 rfl) zf_X12_79 dX12_row_43 ?_
            refine lv_iload_n (pc := 46) hx hb dX12_row_46 rfl (lv_at hl 1 rfl) ?_
            refine lv_iload_n (pc := 47) hx hb dX12_row_47 rfl (lv_at hl 2 rfl) ?_
            refine ziast (pc := 48) (k := 240) (n := 4) hx hb hK hP hS rfl (by decide) (vp_in_iff.mpr ⟨by decide, by decide⟩) dX12_row_48 (fun H locs hP hS => ?_)
            obtain ⟨σ16, eσ16⟩ : ∃ x : zS, x = zI σ15 240 (upd (σ15.1 240) 0 p1) := ⟨_, rfl⟩
            have hP : zP D c o σ16 H := by rw [eσ16]; exact hP
            have f239_0 : σ16.1 239 0 = p2 := zI_ne eσ16 (by decide) f239_0
            have f240_0 : σ16.1 240 0 = p1 := zI_eq eσ16 pk_us
            have hR : zRef o σ16.2.2 := zI_ref eσ16 hR
            refine lv_iconst (pc := 49) (v := 0) hx hb dX12_row_49 (by decide) ?_
            refine lv_istore (pc := 50) (lv' := [(4, .int 0), (0, .ref (o + 218)), (1, .int 0), (2, .int p1), (3, .int p2)]) hx hb dX12_row_50 hl (by decide) rfl (fun ls hl => ?_)
            have loop_52 : ∀ (n i : Nat) (τ17 : zS) (H : Heap) (locs : List Loc) (ls : Array Slot), i ≤ 60 → 60 - i < n → (τ17.1 239 0 = p2) → (τ17.1 240 0 = p1) → (zRef o τ17.2.2) → zP D c o τ17 H → va_S (zA o) s.heap H locs → lv_has ls 5 [(4, .int (nI i)), (0, .ref (o + 218)), (1, .int 0), (2, .int p1), (3, .int p2)] → W p l e (zr 5) s m (([.ref (o + 218), .int 0, .int p1, .int p2] : List Value).toArray) below meth cd H locs 0 0 (MQ below (va_Qi (fun (r : Int32) (σ1 : zS) => r = zsp_row 0 p1 p2) (zQ D c o) (zA o)) (([.ref (o + 218), .int 0, .int p1, .int p2] : List Value).toArray) s 0 0 (zA o)) (F0 m 52 ls []) := by
              intro n
              induction n with
              | zero => intro i _ _ _ _ _ h2; exact absurd h2 (by omega)
              | succ n ih =>
                intro i τ17 H locs ls hi hn f239_0 f240_0 hR hP hS hl
                refine lv_iload (pc := 52) hx hb dX12_row_52 (lv_at hl 0 rfl) ?_
                refine lv_bipush (pc := 54) (v := 60) hx hb dX12_row_54 (by decide) ?_
                refine lv_icmp_ge (pc := 56) (tgt := 78) hx hb dX12_row_56 (by decide) (fun c18 => ?_) (fun c18 => ?_)
                · refine lv_iconst (pc := 78) (v := 0) hx hb dX12_row_78 (by decide) ?_
                  exact zreti (pc := 79) hx hb hr hlocks hP hK hS (by have qr1 := zin_ne er1 c4; have qr5 := zin_ne er5 c8; (try simp only [Int32.lt_iff_toInt_lt, Int32.le_iff_toInt_le, zt0, zt1, zt2, zt3, zt4, zt6, zt60] at c9 c10 c18); unfold zsp_row; (repeat' split) <;> first | rfl | omega) dX12_row_79
                · have hlt : i < 60 := zlit (N := 60) (by omega) (by omega) (by assumption)
                  refine lv_aload_n (pc := 59) hx hb dX12_row_59 rfl (lv_at hl 1 rfl) ?_
                  refine zgetR (pc := 60) (k := 218) (j := 37) (a := o + 241) zc12 hx hb hts hown hK hP rfl (by decide) rfl (hR 218 37 rfl) zf_X12_82 dX12_row_60 ?_
                  refine lv_bipush (pc := 63) (v := 60) hx hb dX12_row_63 (by decide) ?_
                  refine lv_iload_n (pc := 65) hx hb dX12_row_65 rfl (lv_at hl 2 rfl) ?_
                  refine lv_imul (pc := 66) hx hb dX12_row_66 ?_
                  refine lv_topi (pc := 67) (fun v19 ev19 => ?_)
                  obtain rfl : v19 = 0 := ev19.trans (by decide)
                  refine lv_iload (pc := 67) hx hb dX12_row_67 (lv_at hl 0 rfl) ?_
                  refine lv_iadd (pc := 69) hx hb dX12_row_69 ?_
                  refine lv_topi (pc := 70) (fun v20 ev20 => ?_)
                  refine lv_lconst (pc := 70) (v := 0) hx hb dX12_row_70 (by decide) ?_
                  refine zlast (pc := 71) (k := 241) (n := 240) hx hb hK hP hS rfl (by decide) (by rw [show v20 = nI (0 + i) from ev20.trans (nI_add 0 i)]; exact vp_in_nI (by omega) (by omega)) dX12_row_71 (fun H locs hP hS => ?_)
                  obtain ⟨σ21, eσ21⟩ : ∃ x : zS, x = zJ τ17 241 (vp_updL (τ17.2.1 241) v20.toNatClampNeg 0) := ⟨_, rfl⟩
                  have hP : zP D c o σ21 H := by rw [eσ21]; exact hP
                  have f239_0 : σ21.1 239 0 = p2 := zJ_i eσ21 f239_0
                  have f240_0 : σ21.1 240 0 = p1 := zJ_i eσ21 f240_0
                  have hR : zRef o σ21.2.2 := zJ_ref eσ21 hR
                  obtain ⟨v22, ev22⟩ : ∃ y : Int32, y = nI i + 1 := ⟨_, rfl⟩
                  refine lv_iinc (pc := 72) (v := v22) (lv' := [(4, .int v22), (0, .ref (o + 218)), (1, .int 0), (2, .int p1), (3, .int p2)]) hx hb dX12_row_72 hl (k := 0) rfl (by rw [ev22]; rfl) (by decide) rfl (fun ls hl => ?_)
                  refine lv_goto (pc := 75) (tgt := 52) hx hb dX12_row_75 (by decide) ?_
                  have hl : lv_has ls 5 [(4, .int (nI (i + 1))), (0, .ref (o + 218)), (1, .int 0), (2, .int p1), (3, .int p2)] := by have h9 := lv_sub hl [0, 1, 2, 3, 4] rfl; rw [show v22 = nI (i + 1) from by rw [ev22]; exact nI_1 i] at h9; exact h9
                  exact ih (i + 1) σ21 H locs ls (by omega) (by omega) f239_0 f240_0 hR hP hS hl
            exact loop_52 (60 + 1) 0 σ16 _ _ ls (Nat.zero_le _) (by omega) f239_0 f240_0 hR hP hS (lv_sub hl [0, 1, 2, 3, 4] rfl)
          · subst w12
            refine lv_aload_n (pc := 35) hx hb dX12_row_35 rfl (lv_at hl 0 rfl) ?_
            refine zgetR (pc := 36) (k := 218) (j := 35) (a := o + 239) zc12 hx hb hts hown hK hP rfl (by decide) rfl (hR 218 35 rfl) zf_X12_76 dX12_row_36 ?_
            refine lv_iload_n (pc := 39) hx hb dX12_row_39 rfl (lv_at hl 1 rfl) ?_
            refine lv_iload_n (pc := 40) hx hb dX12_row_40 rfl (lv_at hl 3 rfl) ?_
            refine ziast (pc := 41) (k := 239) (n := 4) hx hb hK hP hS rfl (by decide) (vp_in_iff.mpr ⟨by decide, by decide⟩) dX12_row_41 (fun H locs hP hS => ?_)
            obtain ⟨σ23, eσ23⟩ : ∃ x : zS, x = zI σ 239 (upd (σ.1 239) 1 p2) := ⟨_, rfl⟩
            have hP : zP D c o σ23 H := by rw [eσ23]; exact hP
            have f239_1 : σ23.1 239 1 = p2 := zI_eq eσ23 pk_us
            have hR : zRef o σ23.2.2 := zI_ref eσ23 hR
            refine lv_aload_n (pc := 42) hx hb dX12_row_42 rfl (lv_at hl 0 rfl) ?_
            refine zgetR (pc := 43) (k := 218) (j := 36) (a := o + 240) zc12 hx hb hts hown hK hP rfl (by decide) rfl (hR 218 36 rfl) zf_X12_79 dX12_row_43 ?_
            refine lv_iload_n (pc := 46) hx hb dX12_row_46 rfl (lv_at hl 1 rfl) ?_
            refine lv_iload_n (pc := 47) hx hb dX12_row_47 rfl (lv_at hl 2 rfl) ?_
            refine ziast (pc := 48) (k := 240) (n := 4) hx hb hK hP hS rfl (by decide) (vp_in_iff.mpr ⟨by decide, by decide⟩) dX12_row_48 (fun H locs hP hS => ?_)
            obtain ⟨σ24, eσ24⟩ : ∃ x : zS, x = zI σ23 240 (upd (σ23.1 240) 1 p1) := ⟨_, rfl⟩
            have hP : zP D c o σ24 H := by rw [eσ24]; exact hP
            have f239_1 : σ24.1 239 1 = p2 := zI_ne eσ24 (by decide) f239_1
            have f240_1 : σ24.1 240 1 = p1 := zI_eq eσ24 pk_us
            have hR : zRef o σ24.2.2 := zI_ref eσ24 hR
            refine lv_iconst (pc := 49) (v := 0) hx hb dX12_row_49 (by decide) ?_
            refine lv_istore (pc := 50) (lv' := [(4, .int 0), (0, .ref (o + 218)), (1, .int 1), (2, .int p1), (3, .int p2)]) hx hb dX12_row_50 hl (by decide) rfl (fun ls hl => ?_)
            have loop_52 : ∀ (n i : Nat) (τ25 : zS) (H : Heap) (locs : List Loc) (ls : Array Slot), i ≤ 60 → 60 - i < n → (τ25.1 239 1 = p2) → (τ25.1 240 1 = p1) → (zRef o τ25.2.2) → zP D c o τ25 H → va_S (zA o) s.heap H locs → lv_has ls 5 [(4, .int (nI i)), (0, .ref (o + 218)), (1, .int 1), (2, .int p1), (3, .int p2)] → W p l e (zr 5) s m (([.ref (o + 218), .int 1, .int p1, .int p2] : List Value).toArray) below meth cd H locs 0 0 (MQ below (va_Qi (fun (r : Int32) (σ1 : zS) => r = zsp_row 1 p1 p2) (zQ D c o) (zA o)) (([.ref (o + 218), .int 1, .int p1, .int p2] : List Value).toArray) s 0 0 (zA o)) (F0 m 52 ls []) := by
              intro n
              induction n with
              | zero => intro i _ _ _ _ _ h2; exact absurd h2 (by omega)
              | succ n ih =>
                intro i τ25 H locs ls hi hn f239_1 f240_1 hR hP hS hl
                refine lv_iload (pc := 52) hx hb dX12_row_52 (lv_at hl 0 rfl) ?_
                refine lv_bipush (pc := 54) (v := 60) hx hb dX12_row_54 (by decide) ?_
                refine lv_icmp_ge (pc := 56) (tgt := 78) hx hb dX12_row_56 (by decide) (fun c26 => ?_) (fun c26 => ?_)
                · refine lv_iconst (pc := 78) (v := 0) hx hb dX12_row_78 (by decide) ?_
                  exact zreti (pc := 79) hx hb hr hlocks hP hK hS (by have qr1 := zin_ne er1 c4; have qr5 := zin_ne er5 c8; (try simp only [Int32.lt_iff_toInt_lt, Int32.le_iff_toInt_le, zt0, zt1, zt2, zt3, zt4, zt6, zt60] at c9 c10 c26); unfold zsp_row; (repeat' split) <;> first | rfl | omega) dX12_row_79
                · have hlt : i < 60 := zlit (N := 60) (by omega) (by omega) (by assumption)
                  refine lv_aload_n (pc := 59) hx hb dX12_row_59 rfl (lv_at hl 1 rfl) ?_
                  refine zgetR (pc := 60) (k := 218) (j := 37) (a := o + 241) zc12 hx hb hts hown hK hP rfl (by decide) rfl (hR 218 37 rfl) zf_X12_82 dX12_row_60 ?_
                  refine lv_bipush (pc := 63) (v := 60) hx hb dX12_row_63 (by decide) ?_
                  refine lv_iload_n (pc := 65) hx hb dX12_row_65 rfl (lv_at hl 2 rfl) ?_
                  refine lv_imul (pc := 66) hx hb dX12_row_66 ?_
                  refine lv_topi (pc := 67) (fun v27 ev27 => ?_)
                  obtain rfl : v27 = 60 := ev27.trans (by decide)
                  refine lv_iload (pc := 67) hx hb dX12_row_67 (lv_at hl 0 rfl) ?_
                  refine lv_iadd (pc := 69) hx hb dX12_row_69 ?_
                  refine lv_topi (pc := 70) (fun v28 ev28 => ?_)
                  refine lv_lconst (pc := 70) (v := 0) hx hb dX12_row_70 (by decide) ?_
                  refine zlast (pc := 71) (k := 241) (n := 240) hx hb hK hP hS rfl (by decide) (by rw [show v28 = nI (60 + i) from ev28.trans (nI_add 60 i)]; exact vp_in_nI (by omega) (by omega)) dX12_row_71 (fun H locs hP hS => ?_)
                  obtain ⟨σ29, eσ29⟩ : ∃ x : zS, x = zJ τ25 241 (vp_updL (τ25.2.1 241) v28.toNatClampNeg 0) := ⟨_, rfl⟩
                  have hP : zP D c o σ29 H := by rw [eσ29]; exact hP
                  have f239_1 : σ29.1 239 1 = p2 := zJ_i eσ29 f239_1
                  have f240_1 : σ29.1 240 1 = p1 := zJ_i eσ29 f240_1
                  have hR : zRef o σ29.2.2 := zJ_ref eσ29 hR
                  obtain ⟨v30, ev30⟩ : ∃ y : Int32, y = nI i + 1 := ⟨_, rfl⟩
                  refine lv_iinc (pc := 72) (v := v30) (lv' := [(4, .int v30), (0, .ref (o + 218)), (1, .int 1), (2, .int p1), (3, .int p2)]) hx hb dX12_row_72 hl (k := 0) rfl (by rw [ev30]; rfl) (by decide) rfl (fun ls hl => ?_)
                  refine lv_goto (pc := 75) (tgt := 52) hx hb dX12_row_75 (by decide) ?_
                  have hl : lv_has ls 5 [(4, .int (nI (i + 1))), (0, .ref (o + 218)), (1, .int 1), (2, .int p1), (3, .int p2)] := by have h9 := lv_sub hl [0, 1, 2, 3, 4] rfl; rw [show v30 = nI (i + 1) from by rw [ev30]; exact nI_1 i] at h9; exact h9
                  exact ih (i + 1) σ29 H locs ls (by omega) (by omega) f239_1 f240_1 hR hP hS hl
            exact loop_52 (60 + 1) 0 σ24 _ _ ls (Nat.zero_le _) (by omega) f239_1 f240_1 hR hP hS (lv_sub hl [0, 1, 2, 3, 4] rfl)
          · subst w13
            refine lv_aload_n (pc := 35) hx hb dX12_row_35 rfl (lv_at hl 0 rfl) ?_
            refine zgetR (pc := 36) (k := 218) (j := 35) (a := o + 239) zc12 hx hb hts hown hK hP rfl (by decide) rfl (hR 218 35 rfl) zf_X12_76 dX12_row_36 ?_
            refine lv_iload_n (pc := 39) hx hb dX12_row_39 rfl (lv_at hl 1 rfl) ?_
            refine lv_iload_n (pc := 40) hx hb dX12_row_40 rfl (lv_at hl 3 rfl) ?_
            refine ziast (pc := 41) (k := 239) (n := 4) hx hb hK hP hS rfl (by decide) (vp_in_iff.mpr ⟨by decide, by decide⟩) dX12_row_41 (fun H locs hP hS => ?_)
            obtain ⟨σ31, eσ31⟩ : ∃ x : zS, x = zI σ 239 (upd (σ.1 239) 2 p2) := ⟨_, rfl⟩
            have hP : zP D c o σ31 H := by rw [eσ31]; exact hP
            have f239_2 : σ31.1 239 2 = p2 := zI_eq eσ31 pk_us
            have hR : zRef o σ31.2.2 := zI_ref eσ31 hR
            refine lv_aload_n (pc := 42) hx hb dX12_row_42 rfl (lv_at hl 0 rfl) ?_
            refine zgetR (pc := 43) (k := 218) (j := 36) (a := o + 240) zc12 hx hb hts hown hK hP rfl (by decide) rfl (hR 218 36 rfl) zf_X12_79 dX12_row_43 ?_
            refine lv_iload_n (pc := 46) hx hb dX12_row_46 rfl (lv_at hl 1 rfl) ?_
            refine lv_iload_n (pc := 47) hx hb dX12_row_47 rfl (lv_at hl 2 rfl) ?_
            refine ziast (pc := 48) (k := 240) (n := 4) hx hb hK hP hS rfl (by decide) (vp_in_iff.mpr ⟨by decide, by decide⟩) dX12_row_48 (fun H locs hP hS => ?_)
            obtain ⟨σ32, eσ32⟩ : ∃ x : zS, x = zI σ31 240 (upd (σ31.1 240) 2 p1) := ⟨_, rfl⟩
            have hP : zP D c o σ32 H := by rw [eσ32]; exact hP
            have f239_2 : σ32.1 239 2 = p2 := zI_ne eσ32 (by decide) f239_2
            have f240_2 : σ32.1 240 2 = p1 := zI_eq eσ32 pk_us
            have hR : zRef o σ32.2.2 := zI_ref eσ32 hR
            refine lv_iconst (pc := 49) (v := 0) hx hb dX12_row_49 (by decide) ?_
            refine lv_istore (pc := 50) (lv' := [(4, .int 0), (0, .ref (o + 218)), (1, .int 2), (2, .int p1), (3, .int p2)]) hx hb dX12_row_50 hl (by decide) rfl (fun ls hl => ?_)
            have loop_52 : ∀ (n i : Nat) (τ33 : zS) (H : Heap) (locs : List Loc) (ls : Array Slot), i ≤ 60 → 60 - i < n → (τ33.1 239 2 = p2) → (τ33.1 240 2 = p1) → (zRef o τ33.2.2) → zP D c o τ33 H → va_S (zA o) s.heap H locs → lv_has ls 5 [(4, .int (nI i)), (0, .ref (o + 218)), (1, .int 2), (2, .int p1), (3, .int p2)] → W p l e (zr 5) s m (([.ref (o + 218), .int 2, .int p1, .int p2] : List Value).toArray) below meth cd H locs 0 0 (MQ below (va_Qi (fun (r : Int32) (σ1 : zS) => r = zsp_row 2 p1 p2) (zQ D c o) (zA o)) (([.ref (o + 218), .int 2, .int p1, .int p2] : List Value).toArray) s 0 0 (zA o)) (F0 m 52 ls []) := by
              intro n
              induction n with
              | zero => intro i _ _ _ _ _ h2; exact absurd h2 (by omega)
              | succ n ih =>
                intro i τ33 H locs ls hi hn f239_2 f240_2 hR hP hS hl
                refine lv_iload (pc := 52) hx hb dX12_row_52 (lv_at hl 0 rfl) ?_
                refine lv_bipush (pc := 54) (v := 60) hx hb dX12_row_54 (by decide) ?_
                refine lv_icmp_ge (pc := 56) (tgt := 78) hx hb dX12_row_56 (by decide) (fun c34 => ?_) (fun c34 => ?_)
                · refine lv_iconst (pc := 78) (v := 0) hx hb dX12_row_78 (by decide) ?_
                  exact zreti (pc := 79) hx hb hr hlocks hP hK hS (by have qr1 := zin_ne er1 c4; have qr5 := zin_ne er5 c8; (try simp only [Int32.lt_iff_toInt_lt, Int32.le_iff_toInt_le, zt0, zt1, zt2, zt3, zt4, zt6, zt60] at c9 c10 c34); unfold zsp_row; (repeat' split) <;> first | rfl | omega) dX12_row_79
                · have hlt : i < 60 := zlit (N := 60) (by omega) (by omega) (by assumption)
                  refine lv_aload_n (pc := 59) hx hb dX12_row_59 rfl (lv_at hl 1 rfl) ?_
                  refine zgetR (pc := 60) (k := 218) (j := 37) (a := o + 241) zc12 hx hb hts hown hK hP rfl (by decide) rfl (hR 218 37 rfl) zf_X12_82 dX12_row_60 ?_
                  refine lv_bipush (pc := 63) (v := 60) hx hb dX12_row_63 (by decide) ?_
                  refine lv_iload_n (pc := 65) hx hb dX12_row_65 rfl (lv_at hl 2 rfl) ?_
                  refine lv_imul (pc := 66) hx hb dX12_row_66 ?_
                  refine lv_topi (pc := 67) (fun v35 ev35 => ?_)
                  obtain rfl : v35 = 120 := ev35.trans (by decide)
                  refine lv_iload (pc := 67) hx hb dX12_row_67 (lv_at hl 0 rfl) ?_
                  refine lv_iadd (pc := 69) hx hb dX12_row_69 ?_
                  refine lv_topi (pc := 70) (fun v36 ev36 => ?_)
                  refine lv_lconst (pc := 70) (v := 0) hx hb dX12_row_70 (by decide) ?_
                  refine zlast (pc := 71) (k := 241) (n := 240) hx hb hK hP hS rfl (by decide) (by rw [show v36 = nI (120 + i) from ev36.trans (nI_add 120 i)]; exact vp_in_nI (by omega) (by omega)) dX12_row_71 (fun H locs hP hS => ?_)
                  obtain ⟨σ37, eσ37⟩ : ∃ x : zS, x = zJ τ33 241 (vp_updL (τ33.2.1 241) v36.toNatClampNeg 0) := ⟨_, rfl⟩
                  have hP : zP D c o σ37 H := by rw [eσ37]; exact hP
                  have f239_2 : σ37.1 239 2 = p2 := zJ_i eσ37 f239_2
                  have f240_2 : σ37.1 240 2 = p1 := zJ_i eσ37 f240_2
                  have hR : zRef o σ37.2.2 := zJ_ref eσ37 hR
                  obtain ⟨v38, ev38⟩ : ∃ y : Int32, y = nI i + 1 := ⟨_, rfl⟩
                  refine lv_iinc (pc := 72) (v := v38) (lv' := [(4, .int v38), (0, .ref (o + 218)), (1, .int 2), (2, .int p1), (3, .int p2)]) hx hb dX12_row_72 hl (k := 0) rfl (by rw [ev38]; rfl) (by decide) rfl (fun ls hl => ?_)
                  refine lv_goto (pc := 75) (tgt := 52) hx hb dX12_row_75 (by decide) ?_
                  have hl : lv_has ls 5 [(4, .int (nI (i + 1))), (0, .ref (o + 218)), (1, .int 2), (2, .int p1), (3, .int p2)] := by have h9 := lv_sub hl [0, 1, 2, 3, 4] rfl; rw [show v38 = nI (i + 1) from by rw [ev38]; exact nI_1 i] at h9; exact h9
                  exact ih (i + 1) σ37 H locs ls (by omega) (by omega) f239_2 f240_2 hR hP hS hl
            exact loop_52 (60 + 1) 0 σ32 _ _ ls (Nat.zero_le _) (by omega) f239_2 f240_2 hR hP hS (lv_sub hl [0, 1, 2, 3, 4] rfl)
          · subst w14
            refine lv_aload_n (pc := 35) hx hb dX12_row_35 rfl (lv_at hl 0 rfl) ?_
            refine zgetR (pc := 36) (k := 218) (j := 35) (a := o + 239) zc12 hx hb hts hown hK hP rfl (by decide) rfl (hR 218 35 rfl) zf_X12_76 dX12_row_36 ?_
            refine lv_iload_n (pc := 39) hx hb dX12_row_39 rfl (lv_at hl 1 rfl) ?_
            refine lv_iload_n (pc := 40) hx hb dX12_row_40 rfl (lv_at hl 3 rfl) ?_
            refine ziast (pc := 41) (k := 239) (n := 4) hx hb hK hP hS rfl (by decide) (vp_in_iff.mpr ⟨by decide, by decide⟩) dX12_row_41 (fun H locs hP hS => ?_)
            obtain ⟨σ39, eσ39⟩ : ∃ x : zS, x = zI σ 239 (upd (σ.1 239) 3 p2) := ⟨_, rfl⟩
            have hP : zP D c o σ39 H := by rw [eσ39]; exact hP
            have f239_3 : σ39.1 239 3 = p2 := zI_eq eσ39 pk_us
            have hR : zRef o σ39.2.2 := zI_ref eσ39 hR
            refine lv_aload_n (pc := 42) hx hb dX12_row_42 rfl (lv_at hl 0 rfl) ?_
            refine zgetR (pc := 43) (k := 218) (j := 36) (a := o + 240) zc12 hx hb hts hown hK hP rfl (by decide) rfl (hR 218 36 rfl) zf_X12_79 dX12_row_43 ?_
            refine lv_iload_n (pc := 46) hx hb dX12_row_46 rfl (lv_at hl 1 rfl) ?_
            refine lv_iload_n (pc := 47) hx hb dX12_row_47 rfl (lv_at hl 2 rfl) ?_
            refine ziast (pc := 48) (k := 240) (n := 4) hx hb hK hP hS rfl (by decide) (vp_in_iff.mpr ⟨by decide, by decide⟩) dX12_row_48 (fun H locs hP hS => ?_)
            obtain ⟨σ40, eσ40⟩ : ∃ x : zS, x = zI σ39 240 (upd (σ39.1 240) 3 p1) := ⟨_, rfl⟩
            have hP : zP D c o σ40 H := by rw [eσ40]; exact hP
            have f239_3 : σ40.1 239 3 = p2 := zI_ne eσ40 (by decide) f239_3
            have f240_3 : σ40.1 240 3 = p1 := zI_eq eσ40 pk_us
            have hR : zRef o σ40.2.2 := zI_ref eσ40 hR
            refine lv_iconst (pc := 49) (v := 0) hx hb dX12_row_49 (by decide) ?_
            refine lv_istore (pc := 50) (lv' := [(4, .int 0), (0, .ref (o + 218)), (1, .int 3), (2, .int p1), (3, .int p2)]) hx hb dX12_row_50 hl (by decide) rfl (fun ls hl => ?_)
            have loop_52 : ∀ (n i : Nat) (τ41 : zS) (H : Heap) (locs : List Loc) (ls : Array Slot), i ≤ 60 → 60 - i < n → (τ41.1 239 3 = p2) → (τ41.1 240 3 = p1) → (zRef o τ41.2.2) → zP D c o τ41 H → va_S (zA o) s.heap H locs → lv_has ls 5 [(4, .int (nI i)), (0, .ref (o + 218)), (1, .int 3), (2, .int p1), (3, .int p2)] → W p l e (zr 5) s m (([.ref (o + 218), .int 3, .int p1, .int p2] : List Value).toArray) below meth cd H locs 0 0 (MQ below (va_Qi (fun (r : Int32) (σ1 : zS) => r = zsp_row 3 p1 p2) (zQ D c o) (zA o)) (([.ref (o + 218), .int 3, .int p1, .int p2] : List Value).toArray) s 0 0 (zA o)) (F0 m 52 ls []) := by
              intro n
              induction n with
              | zero => intro i _ _ _ _ _ h2; exact absurd h2 (by omega)
              | succ n ih =>
                intro i τ41 H locs ls hi hn f239_3 f240_3 hR hP hS hl
                refine lv_iload (pc := 52) hx hb dX12_row_52 (lv_at hl 0 rfl) ?_
                refine lv_bipush (pc := 54) (v := 60) hx hb dX12_row_54 (by decide) ?_
                refine lv_icmp_ge (pc := 56) (tgt := 78) hx hb dX12_row_56 (by decide) (fun c42 => ?_) (fun c42 => ?_)
                · refine lv_iconst (pc := 78) (v := 0) hx hb dX12_row_78 (by decide) ?_
                  exact zreti (pc := 79) hx hb hr hlocks hP hK hS (by have qr1 := zin_ne er1 c4; have qr5 := zin_ne er5 c8; (try simp only [Int32.lt_iff_toInt_lt, Int32.le_iff_toInt_le, zt0, zt1, zt2, zt3, zt4, zt6, zt60] at c9 c10 c42); unfold zsp_row; (repeat' split) <;> first | rfl | omega) dX12_row_79
                · have hlt : i < 60 := zlit (N := 60) (by omega) (by omega) (by assumption)
                  refine lv_aload_n (pc := 59) hx hb dX12_row_59 rfl (lv_at hl 1 rfl) ?_
                  refine zgetR (pc := 60) (k := 218) (j := 37) (a := o + 241) zc12 hx hb hts hown hK hP rfl (by decide) rfl (hR 218 37 rfl) zf_X12_82 dX12_row_60 ?_
                  refine lv_bipush (pc := 63) (v := 60) hx hb dX12_row_63 (by decide) ?_
                  refine lv_iload_n (pc := 65) hx hb dX12_row_65 rfl (lv_at hl 2 rfl) ?_
                  refine lv_imul (pc := 66) hx hb dX12_row_66 ?_
                  refine lv_topi (pc := 67) (fun v43 ev43 => ?_)
                  obtain rfl : v43 = 180 := ev43.trans (by decide)
                  refine lv_iload (pc := 67) hx hb dX12_row_67 (lv_at hl 0 rfl) ?_
                  refine lv_iadd (pc := 69) hx hb dX12_row_69 ?_
                  refine lv_topi (pc := 70) (fun v44 ev44 => ?_)
                  refine lv_lconst (pc := 70) (v := 0) hx hb dX12_row_70 (by decide) ?_
                  refine zlast (pc := 71) (k := 241) (n := 240) hx hb hK hP hS rfl (by decide) (by rw [show v44 = nI (180 + i) from ev44.trans (nI_add 180 i)]; exact vp_in_nI (by omega) (by omega)) dX12_row_71 (fun H locs hP hS => ?_)
                  obtain ⟨σ45, eσ45⟩ : ∃ x : zS, x = zJ τ41 241 (vp_updL (τ41.2.1 241) v44.toNatClampNeg 0) := ⟨_, rfl⟩
                  have hP : zP D c o σ45 H := by rw [eσ45]; exact hP
                  have f239_3 : σ45.1 239 3 = p2 := zJ_i eσ45 f239_3
                  have f240_3 : σ45.1 240 3 = p1 := zJ_i eσ45 f240_3
                  have hR : zRef o σ45.2.2 := zJ_ref eσ45 hR
                  obtain ⟨v46, ev46⟩ : ∃ y : Int32, y = nI i + 1 := ⟨_, rfl⟩
                  refine lv_iinc (pc := 72) (v := v46) (lv' := [(4, .int v46), (0, .ref (o + 218)), (1, .int 3), (2, .int p1), (3, .int p2)]) hx hb dX12_row_72 hl (k := 0) rfl (by rw [ev46]; rfl) (by decide) rfl (fun ls hl => ?_)
                  refine lv_goto (pc := 75) (tgt := 52) hx hb dX12_row_75 (by decide) ?_
                  have hl : lv_has ls 5 [(4, .int (nI (i + 1))), (0, .ref (o + 218)), (1, .int 3), (2, .int p1), (3, .int p2)] := by have h9 := lv_sub hl [0, 1, 2, 3, 4] rfl; rw [show v46 = nI (i + 1) from by rw [ev46]; exact nI_1 i] at h9; exact h9
                  exact ih (i + 1) σ45 H locs ls (by omega) (by omega) f239_3 f240_3 hR hP hS hl
            exact loop_52 (60 + 1) 0 σ40 _ _ ls (Nat.zero_le _) (by omega) f239_3 f240_3 hR hP hS (lv_sub hl [0, 1, 2, 3, 4] rfl)
        · refine lv_bipush (pc := 32) (v := (-3)) hx hb dX12_row_32 (by decide) ?_
          exact zreti (pc := 34) hx hb hr hlocks hP hK hS (by have qr1 := zin_ne er1 c4; have qr5 := zin_ne er5 c8; (try simp only [Int32.lt_iff_toInt_lt, Int32.le_iff_toInt_le, zt0, zt1, zt2, zt3, zt4, zt6, zt60] at c9 c10); unfold zsp_row; (repeat' split) <;> first | rfl | omega) dX12_row_34
      · refine lv_bipush (pc := 25) (v := (-2)) hx hb dX12_row_25 (by decide) ?_
        exact zreti (pc := 27) hx hb hr hlocks hP hK hS (by have qr1 := zin_ne er1 c4; have qr5 := zin_ne er5 c8; (try simp only [Int32.lt_iff_toInt_lt, Int32.le_iff_toInt_le, zt0, zt1, zt2, zt3, zt4, zt6, zt60] at c9); unfold zsp_row; (repeat' split) <;> first | rfl | omega) dX12_row_27

set_option maxHeartbeats 4000000 in
set_option maxRecDepth 100000 in
theorem fr_X12_write (l : Launch) (D : va_G) (c : zC) (o : Nat) (σ : zS) (p0 p1 : Int32) (p2 : Int64) (hR : zRef o σ.2.2) (hm0 : σ.1 239 0 = -1) (hm1 : σ.1 239 1 = -1) (hm2 : σ.1 239 2 = -1) (hm3 : σ.1 239 3 = -1) : Met l yX12_write zs_X12_write (zr 5) (va_Pc [.ref (o + 218), .int p0, .int p1, .long p2] (zQ D c o σ)) (va_Qi (fun (r : Int32) (σ1 : zS) => r = zsp_write p0) (zQ D c o) (zA o)) 0 0 (zA o) := by
  refine zMet (by decide) (Nat.le_of_ble_eq_true rfl) ?_
  intro p e s m below meth cd ⟨hx, hb, hr, hml, hown, hts, hlocks⟩ hP hK ls hl
  have hS : va_S (zA o) s.heap s.heap [] := va_S.rf
  have hl : lv_has ls 5 [(0, .ref (o + 218)), (1, .int p0), (2, .int p1), (3, .long p2)] := hl
  refine lv_iload_n (pc := 0) hx hb dX12_write_0 rfl (lv_at hl 1 rfl) ?_
  refine zcallSi (pc := 1) (As := [.int p0]) (rest := []) ⟨hx, hb, hml, hown, hts⟩ (cs_X12_isSlot l D c o σ p0) zT_X12_448 rfl zd_X12_isSlot ⟨Nat.le_of_ble_eq_true rfl, Nat.le_of_ble_eq_true rfl⟩ hK hP hS hl.1 rfl (Nat.le_of_ble_eq_true rfl) ⟨Nat.zero_le _, Nat.zero_le _⟩ dX12_write_1 (fun r1 σ2 H locs hw3 hP hS => ?_)
  obtain ⟨er1, rfl⟩ := hw3
  refine lv_if_ne (pc := 4) (tgt := 10) hx hb dX12_write_4 (by decide) (fun c4 => ?_) (fun c4 => ?_)
  · rcases zcase4 (x := p0) (zin_ne er1 c4) with w5 | w6 | w7 | w8
    · subst w5
      refine lv_aload_n (pc := 10) hx hb dX12_write_10 rfl (lv_at hl 0 rfl) ?_
      refine zgetR (pc := 11) (k := 218) (j := 35) (a := o + 239) zc12 hx hb hts hown hK hP rfl (by decide) rfl (hR 218 35 rfl) zf_X12_76 dX12_write_11 ?_
      refine lv_iload_n (pc := 14) hx hb dX12_write_14 rfl (lv_at hl 1 rfl) ?_
      refine ziald (pc := 15) (k := 239) (n := 4) hx hb hK hP rfl (by decide) (vp_in_iff.mpr ⟨by decide, by decide⟩) dX12_write_15 ?_
      refine lv_topi (pc := 16) (fun v9 ev9 => ?_)
      obtain rfl : v9 = (-1) := ev9.trans hm0
      refine lv_iconst (pc := 16) (v := (-1)) hx hb dX12_write_16 (by decide) ?_
      refine lv_icmp_ne (pc := 17) (tgt := 23) hx hb dX12_write_17 (by decide) (fun c10 => absurd c10 (by decide)) (fun _ => ?_)
      refine lv_bipush (pc := 20) (v := (-6)) hx hb dX12_write_20 (by decide) ?_
      exact zreti (pc := 22) hx hb hr hlocks hP hK hS rfl dX12_write_22
    · subst w6
      refine lv_aload_n (pc := 10) hx hb dX12_write_10 rfl (lv_at hl 0 rfl) ?_
      refine zgetR (pc := 11) (k := 218) (j := 35) (a := o + 239) zc12 hx hb hts hown hK hP rfl (by decide) rfl (hR 218 35 rfl) zf_X12_76 dX12_write_11 ?_
      refine lv_iload_n (pc := 14) hx hb dX12_write_14 rfl (lv_at hl 1 rfl) ?_
      refine ziald (pc := 15) (k := 239) (n := 4) hx hb hK hP rfl (by decide) (vp_in_iff.mpr ⟨by decide, by decide⟩) dX12_write_15 ?_
      refine lv_topi (pc := 16) (fun v11 ev11 => ?_)
      obtain rfl : v11 = (-1) := ev11.trans hm1
      refine lv_iconst (pc := 16) (v := (-1)) hx hb dX12_write_16 (by decide) ?_
      refine lv_icmp_ne (pc := 17) (tgt := 23) hx hb dX12_write_17 (by decide) (fun c12 => absurd c12 (by decide)) (fun _ => ?_)
      refine lv_bipush (pc := 20) (v := (-6)) hx hb dX12_write_20 (by decide) ?_
      exact zreti (pc := 22) hx hb hr hlocks hP hK hS rfl dX12_write_22
    · subst w7
      refine lv_aload_n (pc := 10) hx hb dX12_write_10 rfl (lv_at hl 0 rfl) ?_
      refine zgetR (pc := 11) (k := 218) (j := 35) (a := o + 239) zc12 hx hb hts hown hK hP rfl (by decide) rfl (hR 218 35 rfl) zf_X12_76 dX12_write_11 ?_
      refine lv_iload_n (pc := 14) hx hb dX12_write_14 rfl (lv_at hl 1 rfl) ?_
      refine ziald (pc := 15) (k := 239) (n := 4) hx hb hK hP rfl (by decide) (vp_in_iff.mpr ⟨by decide, by decide⟩) dX12_write_15 ?_
      refine lv_topi (pc := 16) (fun v13 ev13 => ?_)
      obtain rfl : v13 = (-1) := ev13.trans hm2
      refine lv_iconst (pc := 16) (v := (-1)) hx hb dX12_write_16 (by decide) ?_
      refine lv_icmp_ne (pc := 17) (tgt := 23) hx hb dX12_write_17 (by decide) (fun c14 => absurd c14 (by decide)) (fun _ => ?_)
      refine lv_bipush (pc := 20) (v := (-6)) hx hb dX12_write_20 (by decide) ?_
      exact zreti (pc := 22) hx hb hr hlocks hP hK hS rfl dX12_write_22
    · subst w8
      refine lv_aload_n (pc := 10) hx hb dX12_write_10 rfl (lv_at hl 0 rfl) ?_
      refine zgetR (pc := 11) (k := 218) (j := 35) (a := o + 239) zc12 hx hb hts hown hK hP rfl (by decide) rfl (hR 218 35 rfl) zf_X12_76 dX12_write_11 ?_
      refine lv_iload_n (pc := 14) hx hb dX12_write_14 rfl (lv_at hl 1 rfl) ?_
      refine ziald (pc := 15) (k := 239) (n := 4) hx hb hK hP rfl (by decide) (vp_in_iff.mpr ⟨by decide, by decide⟩) dX12_write_15 ?_
      refine lv_topi (pc := 16) (fun v15 ev15 => ?_)
      obtain rfl : v15 = (-1) := ev15.trans hm3
      refine lv_iconst (pc := 16) (v := (-1)) hx hb dX12_write_16 (by decide) ?_
      refine lv_icmp_ne (pc := 17) (tgt := 23) hx hb dX12_write_17 (by decide) (fun c16 => absurd c16 (by decide)) (fun _ => ?_)
      refine lv_bipush (pc := 20) (v := (-6)) hx hb dX12_write_20 (by decide) ?_
      exact zreti (pc := 22) hx hb hr hlocks hP hK hS rfl dX12_write_22
  · refine lv_bipush (pc := 7) (v := (-2)) hx hb dX12_write_7 (by decide) ?_
    exact zreti (pc := 9) hx hb hr hlocks hP hK hS (by have qr1 := zin_eq er1 c4; unfold zsp_write; (repeat' split) <;> first | rfl | omega) dX12_write_9

set_option maxHeartbeats 4000000 in
set_option maxRecDepth 100000 in
theorem fr_X12_paste (l : Launch) (D : va_G) (c : zC) (o : Nat) (σ : zS) (p0 p1 p2 p3 p4 : Int32) (hR : zRef o σ.2.2) (hm0 : σ.1 239 0 = -1) (hm1 : σ.1 239 1 = -1) (hm2 : σ.1 239 2 = -1) (hm3 : σ.1 239 3 = -1) : Met l yX12_paste zs_X12_paste (zr 5) (va_Pc [.ref (o + 218), .int p0, .int p1, .int p2, .int p3, .int p4] (zQ D c o σ)) (va_Qi (fun (r : Int32) (σ1 : zS) => r = zsp_paste p0 p2) (zQ D c o) (zA o)) 0 0 (zA o) := by
  refine zMet (by decide) (Nat.le_of_ble_eq_true rfl) ?_
  intro p e s m below meth cd ⟨hx, hb, hr, hml, hown, hts, hlocks⟩ hP hK ls hl
  have hS : va_S (zA o) s.heap s.heap [] := va_S.rf
  have hl : lv_has ls 7 [(0, .ref (o + 218)), (1, .int p0), (2, .int p1), (3, .int p2), (4, .int p3), (5, .int p4)] := hl
  refine lv_iload_n (pc := 0) hx hb dX12_paste_0 rfl (lv_at hl 1 rfl) ?_
  refine zcallSi (pc := 1) (As := [.int p0]) (rest := []) ⟨hx, hb, hml, hown, hts⟩ (cs_X12_isSlot l D c o σ p0) zT_X12_448 rfl zd_X12_isSlot ⟨Nat.le_of_ble_eq_true rfl, Nat.le_of_ble_eq_true rfl⟩ hK hP hS hl.1 rfl (Nat.le_of_ble_eq_true rfl) ⟨Nat.zero_le _, Nat.zero_le _⟩ dX12_paste_1 (fun r1 σ2 H locs hw3 hP hS => ?_)
  obtain ⟨er1, rfl⟩ := hw3
  refine lv_if_eq (pc := 4) (tgt := 14) hx hb dX12_paste_4 (by decide) (fun c4 => ?_) (fun c4 => ?_)
  · refine lv_bipush (pc := 14) (v := (-2)) hx hb dX12_paste_14 (by decide) ?_
    exact zreti (pc := 16) hx hb hr hlocks hP hK hS (by have qr1 := zin_eq er1 c4; unfold zsp_paste; (repeat' split) <;> first | rfl | omega) dX12_paste_16
  · refine lv_iload_n (pc := 7) hx hb dX12_paste_7 rfl (lv_at hl 3 rfl) ?_
    refine zcallSi (pc := 8) (As := [.int p2]) (rest := []) ⟨hx, hb, hml, hown, hts⟩ (cs_X12_isSlot l D c o σ p2) zT_X12_448 rfl zd_X12_isSlot ⟨Nat.le_of_ble_eq_true rfl, Nat.le_of_ble_eq_true rfl⟩ hK hP hS hl.1 rfl (Nat.le_of_ble_eq_true rfl) ⟨Nat.zero_le _, Nat.zero_le _⟩ dX12_paste_8 (fun r5 σ6 H locs hw7 hP hS => ?_)
    obtain ⟨er5, rfl⟩ := hw7
    refine lv_if_ne (pc := 11) (tgt := 17) hx hb dX12_paste_11 (by decide) (fun c8 => ?_) (fun c8 => ?_)
    · rcases zcase4 (x := p0) (zin_ne er1 c4) with w9 | w10 | w11 | w12
      · subst w9
        refine lv_aload_n (pc := 17) hx hb dX12_paste_17 rfl (lv_at hl 0 rfl) ?_
        refine zgetR (pc := 18) (k := 218) (j := 35) (a := o + 239) zc12 hx hb hts hown hK hP rfl (by decide) rfl (hR 218 35 rfl) zf_X12_76 dX12_paste_18 ?_
        refine lv_iload_n (pc := 21) hx hb dX12_paste_21 rfl (lv_at hl 1 rfl) ?_
        refine ziald (pc := 22) (k := 239) (n := 4) hx hb hK hP rfl (by decide) (vp_in_iff.mpr ⟨by decide, by decide⟩) dX12_paste_22 ?_
        refine lv_topi (pc := 23) (fun v13 ev13 => ?_)
        obtain rfl : v13 = (-1) := ev13.trans hm0
        refine lv_iconst (pc := 23) (v := (-1)) hx hb dX12_paste_23 (by decide) ?_
        refine lv_icmp_eq (pc := 24) (tgt := 37) hx hb dX12_paste_24 (by decide) (fun _ => ?_) (fun c14 => absurd c14 (by decide))
        refine lv_bipush (pc := 37) (v := (-6)) hx hb dX12_paste_37 (by decide) ?_
        exact zreti (pc := 39) hx hb hr hlocks hP hK hS (by have qr1 := zin_ne er1 c4; have qr5 := zin_ne er5 c8; unfold zsp_paste; (repeat' split) <;> first | rfl | omega) dX12_paste_39
      · subst w10
        refine lv_aload_n (pc := 17) hx hb dX12_paste_17 rfl (lv_at hl 0 rfl) ?_
        refine zgetR (pc := 18) (k := 218) (j := 35) (a := o + 239) zc12 hx hb hts hown hK hP rfl (by decide) rfl (hR 218 35 rfl) zf_X12_76 dX12_paste_18 ?_
        refine lv_iload_n (pc := 21) hx hb dX12_paste_21 rfl (lv_at hl 1 rfl) ?_
        refine ziald (pc := 22) (k := 239) (n := 4) hx hb hK hP rfl (by decide) (vp_in_iff.mpr ⟨by decide, by decide⟩) dX12_paste_22 ?_
        refine lv_topi (pc := 23) (fun v15 ev15 => ?_)
        obtain rfl : v15 = (-1) := ev15.trans hm1
        refine lv_iconst (pc := 23) (v := (-1)) hx hb dX12_paste_23 (by decide) ?_
        refine lv_icmp_eq (pc := 24) (tgt := 37) hx hb dX12_paste_24 (by decide) (fun _ => ?_) (fun c16 => absurd c16 (by decide))
        refine lv_bipush (pc := 37) (v := (-6)) hx hb dX12_paste_37 (by decide) ?_
        exact zreti (pc := 39) hx hb hr hlocks hP hK hS (by have qr1 := zin_ne er1 c4; have qr5 := zin_ne er5 c8; unfold zsp_paste; (repeat' split) <;> first | rfl | omega) dX12_paste_39
      · subst w11
        refine lv_aload_n (pc := 17) hx hb dX12_paste_17 rfl (lv_at hl 0 rfl) ?_
        refine zgetR (pc := 18) (k := 218) (j := 35) (a := o + 239) zc12 hx hb hts hown hK hP rfl (by decide) rfl (hR 218 35 rfl) zf_X12_76 dX12_paste_18 ?_
        refine lv_iload_n (pc := 21) hx hb dX12_paste_21 rfl (lv_at hl 1 rfl) ?_
        refine ziald (pc := 22) (k := 239) (n := 4) hx hb hK hP rfl (by decide) (vp_in_iff.mpr ⟨by decide, by decide⟩) dX12_paste_22 ?_
        refine lv_topi (pc := 23) (fun v17 ev17 => ?_)
        obtain rfl : v17 = (-1) := ev17.trans hm2
        refine lv_iconst (pc := 23) (v := (-1)) hx hb dX12_paste_23 (by decide) ?_
        refine lv_icmp_eq (pc := 24) (tgt := 37) hx hb dX12_paste_24 (by decide) (fun _ => ?_) (fun c18 => absurd c18 (by decide))
        refine lv_bipush (pc := 37) (v := (-6)) hx hb dX12_paste_37 (by decide) ?_
        exact zreti (pc := 39) hx hb hr hlocks hP hK hS (by have qr1 := zin_ne er1 c4; have qr5 := zin_ne er5 c8; unfold zsp_paste; (repeat' split) <;> first | rfl | omega) dX12_paste_39
      · subst w12
        refine lv_aload_n (pc := 17) hx hb dX12_paste_17 rfl (lv_at hl 0 rfl) ?_
        refine zgetR (pc := 18) (k := 218) (j := 35) (a := o + 239) zc12 hx hb hts hown hK hP rfl (by decide) rfl (hR 218 35 rfl) zf_X12_76 dX12_paste_18 ?_
        refine lv_iload_n (pc := 21) hx hb dX12_paste_21 rfl (lv_at hl 1 rfl) ?_
        refine ziald (pc := 22) (k := 239) (n := 4) hx hb hK hP rfl (by decide) (vp_in_iff.mpr ⟨by decide, by decide⟩) dX12_paste_22 ?_
        refine lv_topi (pc := 23) (fun v19 ev19 => ?_)
        obtain rfl : v19 = (-1) := ev19.trans hm3
        refine lv_iconst (pc := 23) (v := (-1)) hx hb dX12_paste_23 (by decide) ?_
        refine lv_icmp_eq (pc := 24) (tgt := 37) hx hb dX12_paste_24 (by decide) (fun _ => ?_) (fun c20 => absurd c20 (by decide))
        refine lv_bipush (pc := 37) (v := (-6)) hx hb dX12_paste_37 (by decide) ?_
        exact zreti (pc := 39) hx hb hr hlocks hP hK hS (by have qr1 := zin_ne er1 c4; have qr5 := zin_ne er5 c8; unfold zsp_paste; (repeat' split) <;> first | rfl | omega) dX12_paste_39
    · refine lv_bipush (pc := 14) (v := (-2)) hx hb dX12_paste_14 (by decide) ?_
      exact zreti (pc := 16) hx hb hr hlocks hP hK hS (by have qr1 := zin_ne er1 c4; have qr5 := zin_eq er5 c8; unfold zsp_paste; (repeat' split) <;> first | rfl | omega) dX12_paste_16

set_option maxHeartbeats 4000000 in
set_option maxRecDepth 100000 in
theorem fr_X12_count (l : Launch) (D : va_G) (c : zC) (o : Nat) (σ : zS) (p0 : Int32) (hR : zRef o σ.2.2) (h0 : σ.1 219 0 = 0) (h1 : σ.1 219 1 = 0) (h2 : σ.1 219 2 = 0) (ht : σ.1 218 7 = 0) (hm0 : σ.1 239 0 = -1) (hm1 : σ.1 239 1 = -1) (hm2 : σ.1 239 2 = -1) (hm3 : σ.1 239 3 = -1) : Met l yX12_count zs_X12_count (zr 8) (va_Pc [.ref (o + 218), .int p0] (zQ D c o σ)) (va_Qi (fun (r : Int32) (σ1 : zS) => r = zsp_count p0) (zQ D c o) (zA o)) 0 0 (zA o) := by
  refine zMet (by decide) (Nat.le_of_ble_eq_true rfl) ?_
  intro p e s m below meth cd ⟨hx, hb, hr, hml, hown, hts, hlocks⟩ hP hK ls hl
  have hS : va_S (zA o) s.heap s.heap [] := va_S.rf
  have hl : lv_has ls 4 [(0, .ref (o + 218)), (1, .int p0)] := hl
  refine lv_iconst (pc := 0) (v := 0) hx hb dX12_count_0 (by decide) ?_
  refine lv_istore_n (pc := 1) (lv' := [(2, .int 0), (0, .ref (o + 218)), (1, .int p0)]) hx hb dX12_count_1 rfl hl (by decide) rfl (fun ls hl => ?_)
  refine lv_iload_n (pc := 2) hx hb dX12_count_2 rfl (lv_at hl 2 rfl) ?_
  by_cases w1 : p0 = 0
  · subst w1
    refine lv_tableIn (pc := 3) (tgt := 44) hx hb dX12_count_3 (by decide) (by decide) rfl (by decide) ?_
    refine lv_aload_n (pc := 44) hx hb dX12_count_44 rfl (lv_at hl 1 rfl) ?_
    refine zgetR (pc := 45) (k := 218) (j := 1) (a := o + 219) zc12 hx hb hts hown hK hP rfl (by decide) rfl (hR 218 1 rfl) zf_X12_9 dX12_count_45 ?_
    refine lv_iconst (pc := 48) (v := 0) hx hb dX12_count_48 (by decide) ?_
    refine ziald (pc := 49) (k := 219) (n := 43) hx hb hK hP rfl (by decide) (vp_in_iff.mpr ⟨by decide, by decide⟩) dX12_count_49 ?_
    refine lv_topi (pc := 50) (fun v2 ev2 => ?_)
    obtain rfl : v2 = 0 := ev2.trans h0
    exact zreti (pc := 50) hx hb hr hlocks hP hK hS rfl dX12_count_50
  by_cases w3 : p0 = 1
  · subst w3
    refine lv_tableIn (pc := 3) (tgt := 51) hx hb dX12_count_3 (by decide) (by decide) rfl (by decide) ?_
    refine lv_aload_n (pc := 51) hx hb dX12_count_51 rfl (lv_at hl 1 rfl) ?_
    refine zgetR (pc := 52) (k := 218) (j := 1) (a := o + 219) zc12 hx hb hts hown hK hP rfl (by decide) rfl (hR 218 1 rfl) zf_X12_9 dX12_count_52 ?_
    refine lv_iconst (pc := 55) (v := 1) hx hb dX12_count_55 (by decide) ?_
    refine ziald (pc := 56) (k := 219) (n := 43) hx hb hK hP rfl (by decide) (vp_in_iff.mpr ⟨by decide, by decide⟩) dX12_count_56 ?_
    refine lv_topi (pc := 57) (fun v4 ev4 => ?_)
    obtain rfl : v4 = 0 := ev4.trans h1
    exact zreti (pc := 57) hx hb hr hlocks hP hK hS rfl dX12_count_57
  by_cases w5 : p0 = 2
  · subst w5
    refine lv_tableIn (pc := 3) (tgt := 58) hx hb dX12_count_3 (by decide) (by decide) rfl (by decide) ?_
    refine lv_aload_n (pc := 58) hx hb dX12_count_58 rfl (lv_at hl 1 rfl) ?_
    refine zgetR (pc := 59) (k := 218) (j := 1) (a := o + 219) zc12 hx hb hts hown hK hP rfl (by decide) rfl (hR 218 1 rfl) zf_X12_9 dX12_count_59 ?_
    refine lv_iconst (pc := 62) (v := 2) hx hb dX12_count_62 (by decide) ?_
    refine ziald (pc := 63) (k := 219) (n := 43) hx hb hK hP rfl (by decide) (vp_in_iff.mpr ⟨by decide, by decide⟩) dX12_count_63 ?_
    refine lv_topi (pc := 64) (fun v6 ev6 => ?_)
    obtain rfl : v6 = 0 := ev6.trans h2
    exact zreti (pc := 64) hx hb hr hlocks hP hK hS rfl dX12_count_64
  by_cases w7 : p0 = 3
  · subst w7
    refine lv_tableIn (pc := 3) (tgt := 65) hx hb dX12_count_3 (by decide) (by decide) rfl (by decide) ?_
    refine lv_aload_n (pc := 65) hx hb dX12_count_65 rfl (lv_at hl 1 rfl) ?_
    refine zgetI (pc := 66) (k := 218) (j := 7) (v := 0) zc12 hx hb hts hown hK hP rfl (by decide) rfl ht zf_X12_107 dX12_count_66 ?_
    exact zreti (pc := 69) hx hb hr hlocks hP hK hS rfl dX12_count_69
  by_cases w8 : p0 = 4
  · subst w8
    refine lv_tableIn (pc := 3) (tgt := 70) hx hb dX12_count_3 (by decide) (by decide) rfl (by decide) ?_
    refine lv_iconst (pc := 70) (v := 0) hx hb dX12_count_70 (by decide) ?_
    refine lv_istore_n (pc := 71) (lv' := [(3, .int 0), (2, .int 0), (0, .ref (o + 218)), (1, .int 4)]) hx hb dX12_count_71 rfl hl (by decide) rfl (fun ls hl => ?_)
    refine lv_iload_n (pc := 72) hx hb dX12_count_72 rfl (lv_at hl 0 rfl) ?_
    refine lv_bipush (pc := 73) (v := 10) hx hb dX12_count_73 (by decide) ?_
    refine lv_icmp_ge (pc := 75) (tgt := 102) hx hb dX12_count_75 (by decide) (fun c9 => absurd c9 (by decide)) (fun _ => ?_)
    refine lv_iload_n (pc := 78) hx hb dX12_count_78 rfl (lv_at hl 1 rfl) ?_
    refine lv_aload_n (pc := 79) hx hb dX12_count_79 rfl (lv_at hl 2 rfl) ?_
    refine lv_iload_n (pc := 80) hx hb dX12_count_80 rfl (lv_at hl 0 rfl) ?_
    refine zcallVi (pc := 81) (k := 218) (As := [.int 0]) (rest := [.int 0]) ⟨hx, hb, hml, hown, hts⟩ (nw_X12_sizeOf l D c o σ 0 hR h0) zc12 zV_X12_318 rfl zd_X12_sizeOf ⟨Nat.le_of_ble_eq_true rfl, Nat.le_of_ble_eq_true rfl⟩ hK hP hS rfl (by decide) hl.1 rfl (Nat.le_of_ble_eq_true rfl) ⟨Nat.zero_le _, Nat.zero_le _⟩ dX12_count_81 (fun r10 σ11 H locs hw12 hP hS => ?_)
    obtain ⟨rfl, rfl⟩ := hw12
    refine lv_if_le (pc := 84) (tgt := 93) hx hb dX12_count_84 (by decide) (fun _ => ?_) (fun c13 => absurd c13 (by decide))
    refine lv_iconst (pc := 93) (v := 0) hx hb dX12_count_93 (by decide) ?_
    refine lv_ior (pc := 94) hx hb dX12_count_94 ?_
    refine lv_topi (pc := 95) (fun v14 ev14 => ?_)
    obtain rfl : v14 = 0 := ev14.trans (by decide)
    refine lv_istore_n (pc := 95) (lv' := [(2, .int 0), (3, .int 0), (0, .ref (o + 218)), (1, .int 4)]) hx hb dX12_count_95 rfl hl (by decide) rfl (fun ls hl => ?_)
    refine lv_iinc (pc := 96) (v := 1) (lv' := [(3, .int 1), (2, .int 0), (0, .ref (o + 218)), (1, .int 4)]) hx hb dX12_count_96 hl (k := 1) rfl (by decide) (by decide) rfl (fun ls hl => ?_)
    refine lv_goto (pc := 99) (tgt := 72) hx hb dX12_count_99 (by decide) ?_
    refine lv_iload_n (pc := 72) hx hb dX12_count_72 rfl (lv_at hl 0 rfl) ?_
    refine lv_bipush (pc := 73) (v := 10) hx hb dX12_count_73 (by decide) ?_
    refine lv_icmp_ge (pc := 75) (tgt := 102) hx hb dX12_count_75 (by decide) (fun c15 => absurd c15 (by decide)) (fun _ => ?_)
    refine lv_iload_n (pc := 78) hx hb dX12_count_78 rfl (lv_at hl 1 rfl) ?_
    refine lv_aload_n (pc := 79) hx hb dX12_count_79 rfl (lv_at hl 2 rfl) ?_
    refine lv_iload_n (pc := 80) hx hb dX12_count_80 rfl (lv_at hl 0 rfl) ?_
    refine zcallVi (pc := 81) (k := 218) (As := [.int 1]) (rest := [.int 0]) ⟨hx, hb, hml, hown, hts⟩ (nw_X12_sizeOf l D c o σ 1 hR h0) zc12 zV_X12_318 rfl zd_X12_sizeOf ⟨Nat.le_of_ble_eq_true rfl, Nat.le_of_ble_eq_true rfl⟩ hK hP hS rfl (by decide) hl.1 rfl (Nat.le_of_ble_eq_true rfl) ⟨Nat.zero_le _, Nat.zero_le _⟩ dX12_count_81 (fun r16 σ17 H locs hw18 hP hS => ?_)
    obtain ⟨rfl, rfl⟩ := hw18
    refine lv_if_le (pc := 84) (tgt := 93) hx hb dX12_count_84 (by decide) (fun _ => ?_) (fun c19 => absurd c19 (by decide))
    refine lv_iconst (pc := 93) (v := 0) hx hb dX12_count_93 (by decide) ?_
    refine lv_ior (pc := 94) hx hb dX12_count_94 ?_
    refine lv_topi (pc := 95) (fun v20 ev20 => ?_)
    obtain rfl : v20 = 0 := ev20.trans (by decide)
    refine lv_istore_n (pc := 95) (lv' := [(2, .int 0), (3, .int 1), (0, .ref (o + 218)), (1, .int 4)]) hx hb dX12_count_95 rfl hl (by decide) rfl (fun ls hl => ?_)
    refine lv_iinc (pc := 96) (v := 2) (lv' := [(3, .int 2), (2, .int 0), (0, .ref (o + 218)), (1, .int 4)]) hx hb dX12_count_96 hl (k := 1) rfl (by decide) (by decide) rfl (fun ls hl => ?_)
    refine lv_goto (pc := 99) (tgt := 72) hx hb dX12_count_99 (by decide) ?_
    refine lv_iload_n (pc := 72) hx hb dX12_count_72 rfl (lv_at hl 0 rfl) ?_
    refine lv_bipush (pc := 73) (v := 10) hx hb dX12_count_73 (by decide) ?_
    refine lv_icmp_ge (pc := 75) (tgt := 102) hx hb dX12_count_75 (by decide) (fun c21 => absurd c21 (by decide)) (fun _ => ?_)
    refine lv_iload_n (pc := 78) hx hb dX12_count_78 rfl (lv_at hl 1 rfl) ?_
    refine lv_aload_n (pc := 79) hx hb dX12_count_79 rfl (lv_at hl 2 rfl) ?_
    refine lv_iload_n (pc := 80) hx hb dX12_count_80 rfl (lv_at hl 0 rfl) ?_
    refine zcallVi (pc := 81) (k := 218) (As := [.int 2]) (rest := [.int 0]) ⟨hx, hb, hml, hown, hts⟩ (nw_X12_sizeOf l D c o σ 2 hR h0) zc12 zV_X12_318 rfl zd_X12_sizeOf ⟨Nat.le_of_ble_eq_true rfl, Nat.le_of_ble_eq_true rfl⟩ hK hP hS rfl (by decide) hl.1 rfl (Nat.le_of_ble_eq_true rfl) ⟨Nat.zero_le _, Nat.zero_le _⟩ dX12_count_81 (fun r22 σ23 H locs hw24 hP hS => ?_)
    obtain ⟨rfl, rfl⟩ := hw24
    refine lv_if_le (pc := 84) (tgt := 93) hx hb dX12_count_84 (by decide) (fun _ => ?_) (fun c25 => absurd c25 (by decide))
    refine lv_iconst (pc := 93) (v := 0) hx hb dX12_count_93 (by decide) ?_
    refine lv_ior (pc := 94) hx hb dX12_count_94 ?_
    refine lv_topi (pc := 95) (fun v26 ev26 => ?_)
    obtain rfl : v26 = 0 := ev26.trans (by decide)
    refine lv_istore_n (pc := 95) (lv' := [(2, .int 0), (3, .int 2), (0, .ref (o + 218)), (1, .int 4)]) hx hb dX12_count_95 rfl hl (by decide) rfl (fun ls hl => ?_)
    refine lv_iinc (pc := 96) (v := 3) (lv' := [(3, .int 3), (2, .int 0), (0, .ref (o + 218)), (1, .int 4)]) hx hb dX12_count_96 hl (k := 1) rfl (by decide) (by decide) rfl (fun ls hl => ?_)
    refine lv_goto (pc := 99) (tgt := 72) hx hb dX12_count_99 (by decide) ?_
    refine lv_iload_n (pc := 72) hx hb dX12_count_72 rfl (lv_at hl 0 rfl) ?_
    refine lv_bipush (pc := 73) (v := 10) hx hb dX12_count_73 (by decide) ?_
    refine lv_icmp_ge (pc := 75) (tgt := 102) hx hb dX12_count_75 (by decide) (fun c27 => absurd c27 (by decide)) (fun _ => ?_)
    refine lv_iload_n (pc := 78) hx hb dX12_count_78 rfl (lv_at hl 1 rfl) ?_
    refine lv_aload_n (pc := 79) hx hb dX12_count_79 rfl (lv_at hl 2 rfl) ?_
    refine lv_iload_n (pc := 80) hx hb dX12_count_80 rfl (lv_at hl 0 rfl) ?_
    refine zcallVi (pc := 81) (k := 218) (As := [.int 3]) (rest := [.int 0]) ⟨hx, hb, hml, hown, hts⟩ (nw_X12_sizeOf l D c o σ 3 hR h0) zc12 zV_X12_318 rfl zd_X12_sizeOf ⟨Nat.le_of_ble_eq_true rfl, Nat.le_of_ble_eq_true rfl⟩ hK hP hS rfl (by decide) hl.1 rfl (Nat.le_of_ble_eq_true rfl) ⟨Nat.zero_le _, Nat.zero_le _⟩ dX12_count_81 (fun r28 σ29 H locs hw30 hP hS => ?_)
    obtain ⟨rfl, rfl⟩ := hw30
    refine lv_if_le (pc := 84) (tgt := 93) hx hb dX12_count_84 (by decide) (fun _ => ?_) (fun c31 => absurd c31 (by decide))
    refine lv_iconst (pc := 93) (v := 0) hx hb dX12_count_93 (by decide) ?_
    refine lv_ior (pc := 94) hx hb dX12_count_94 ?_
    refine lv_topi (pc := 95) (fun v32 ev32 => ?_)
    obtain rfl : v32 = 0 := ev32.trans (by decide)
    refine lv_istore_n (pc := 95) (lv' := [(2, .int 0), (3, .int 3), (0, .ref (o + 218)), (1, .int 4)]) hx hb dX12_count_95 rfl hl (by decide) rfl (fun ls hl => ?_)
    refine lv_iinc (pc := 96) (v := 4) (lv' := [(3, .int 4), (2, .int 0), (0, .ref (o + 218)), (1, .int 4)]) hx hb dX12_count_96 hl (k := 1) rfl (by decide) (by decide) rfl (fun ls hl => ?_)
    refine lv_goto (pc := 99) (tgt := 72) hx hb dX12_count_99 (by decide) ?_
    refine lv_iload_n (pc := 72) hx hb dX12_count_72 rfl (lv_at hl 0 rfl) ?_
    refine lv_bipush (pc := 73) (v := 10) hx hb dX12_count_73 (by decide) ?_
    refine lv_icmp_ge (pc := 75) (tgt := 102) hx hb dX12_count_75 (by decide) (fun c33 => absurd c33 (by decide)) (fun _ => ?_)
    refine lv_iload_n (pc := 78) hx hb dX12_count_78 rfl (lv_at hl 1 rfl) ?_
    refine lv_aload_n (pc := 79) hx hb dX12_count_79 rfl (lv_at hl 2 rfl) ?_
    refine lv_iload_n (pc := 80) hx hb dX12_count_80 rfl (lv_at hl 0 rfl) ?_
    refine zcallVi (pc := 81) (k := 218) (As := [.int 4]) (rest := [.int 0]) ⟨hx, hb, hml, hown, hts⟩ (nw_X12_sizeOf l D c o σ 4 hR h0) zc12 zV_X12_318 rfl zd_X12_sizeOf ⟨Nat.le_of_ble_eq_true rfl, Nat.le_of_ble_eq_true rfl⟩ hK hP hS rfl (by decide) hl.1 rfl (Nat.le_of_ble_eq_true rfl) ⟨Nat.zero_le _, Nat.zero_le _⟩ dX12_count_81 (fun r34 σ35 H locs hw36 hP hS => ?_)
    obtain ⟨rfl, rfl⟩ := hw36
    refine lv_if_le (pc := 84) (tgt := 93) hx hb dX12_count_84 (by decide) (fun _ => ?_) (fun c37 => absurd c37 (by decide))
    refine lv_iconst (pc := 93) (v := 0) hx hb dX12_count_93 (by decide) ?_
    refine lv_ior (pc := 94) hx hb dX12_count_94 ?_
    refine lv_topi (pc := 95) (fun v38 ev38 => ?_)
    obtain rfl : v38 = 0 := ev38.trans (by decide)
    refine lv_istore_n (pc := 95) (lv' := [(2, .int 0), (3, .int 4), (0, .ref (o + 218)), (1, .int 4)]) hx hb dX12_count_95 rfl hl (by decide) rfl (fun ls hl => ?_)
    refine lv_iinc (pc := 96) (v := 5) (lv' := [(3, .int 5), (2, .int 0), (0, .ref (o + 218)), (1, .int 4)]) hx hb dX12_count_96 hl (k := 1) rfl (by decide) (by decide) rfl (fun ls hl => ?_)
    refine lv_goto (pc := 99) (tgt := 72) hx hb dX12_count_99 (by decide) ?_
    refine lv_iload_n (pc := 72) hx hb dX12_count_72 rfl (lv_at hl 0 rfl) ?_
    refine lv_bipush (pc := 73) (v := 10) hx hb dX12_count_73 (by decide) ?_
    refine lv_icmp_ge (pc := 75) (tgt := 102) hx hb dX12_count_75 (by decide) (fun c39 => absurd c39 (by decide)) (fun _ => ?_)
    refine lv_iload_n (pc := 78) hx hb dX12_count_78 rfl (lv_at hl 1 rfl) ?_
    refine lv_aload_n (pc := 79) hx hb dX12_count_79 rfl (lv_at hl 2 rfl) ?_
    refine lv_iload_n (pc := 80) hx hb dX12_count_80 rfl (lv_at hl 0 rfl) ?_
    refine zcallVi (pc := 81) (k := 218) (As := [.int 5]) (rest := [.int 0]) ⟨hx, hb, hml, hown, hts⟩ (nw_X12_sizeOf l D c o σ 5 hR h0) zc12 zV_X12_318 rfl zd_X12_sizeOf ⟨Nat.le_of_ble_eq_true rfl, Nat.le_of_ble_eq_true rfl⟩ hK hP hS rfl (by decide) hl.1 rfl (Nat.le_of_ble_eq_true rfl) ⟨Nat.zero_le _, Nat.zero_le _⟩ dX12_count_81 (fun r40 σ41 H locs hw42 hP hS => ?_)
    obtain ⟨rfl, rfl⟩ := hw42
    refine lv_if_le (pc := 84) (tgt := 93) hx hb dX12_count_84 (by decide) (fun _ => ?_) (fun c43 => absurd c43 (by decide))
    refine lv_iconst (pc := 93) (v := 0) hx hb dX12_count_93 (by decide) ?_
    refine lv_ior (pc := 94) hx hb dX12_count_94 ?_
    refine lv_topi (pc := 95) (fun v44 ev44 => ?_)
    obtain rfl : v44 = 0 := ev44.trans (by decide)
    refine lv_istore_n (pc := 95) (lv' := [(2, .int 0), (3, .int 5), (0, .ref (o + 218)), (1, .int 4)]) hx hb dX12_count_95 rfl hl (by decide) rfl (fun ls hl => ?_)
    refine lv_iinc (pc := 96) (v := 6) (lv' := [(3, .int 6), (2, .int 0), (0, .ref (o + 218)), (1, .int 4)]) hx hb dX12_count_96 hl (k := 1) rfl (by decide) (by decide) rfl (fun ls hl => ?_)
    refine lv_goto (pc := 99) (tgt := 72) hx hb dX12_count_99 (by decide) ?_
    refine lv_iload_n (pc := 72) hx hb dX12_count_72 rfl (lv_at hl 0 rfl) ?_
    refine lv_bipush (pc := 73) (v := 10) hx hb dX12_count_73 (by decide) ?_
    refine lv_icmp_ge (pc := 75) (tgt := 102) hx hb dX12_count_75 (by decide) (fun c45 => absurd c45 (by decide)) (fun _ => ?_)
    refine lv_iload_n (pc := 78) hx hb dX12_count_78 rfl (lv_at hl 1 rfl) ?_
    refine lv_aload_n (pc := 79) hx hb dX12_count_79 rfl (lv_at hl 2 rfl) ?_
    refine lv_iload_n (pc := 80) hx hb dX12_count_80 rfl (lv_at hl 0 rfl) ?_
    refine zcallVi (pc := 81) (k := 218) (As := [.int 6]) (rest := [.int 0]) ⟨hx, hb, hml, hown, hts⟩ (nw_X12_sizeOf l D c o σ 6 hR h0) zc12 zV_X12_318 rfl zd_X12_sizeOf ⟨Nat.le_of_ble_eq_true rfl, Nat.le_of_ble_eq_true rfl⟩ hK hP hS rfl (by decide) hl.1 rfl (Nat.le_of_ble_eq_true rfl) ⟨Nat.zero_le _, Nat.zero_le _⟩ dX12_count_81 (fun r46 σ47 H locs hw48 hP hS => ?_)
    obtain ⟨rfl, rfl⟩ := hw48
    refine lv_if_le (pc := 84) (tgt := 93) hx hb dX12_count_84 (by decide) (fun _ => ?_) (fun c49 => absurd c49 (by decide))
    refine lv_iconst (pc := 93) (v := 0) hx hb dX12_count_93 (by decide) ?_
    refine lv_ior (pc := 94) hx hb dX12_count_94 ?_
    refine lv_topi (pc := 95) (fun v50 ev50 => ?_)
    obtain rfl : v50 = 0 := ev50.trans (by decide)
    refine lv_istore_n (pc := 95) (lv' := [(2, .int 0), (3, .int 6), (0, .ref (o + 218)), (1, .int 4)]) hx hb dX12_count_95 rfl hl (by decide) rfl (fun ls hl => ?_)
    refine lv_iinc (pc := 96) (v := 7) (lv' := [(3, .int 7), (2, .int 0), (0, .ref (o + 218)), (1, .int 4)]) hx hb dX12_count_96 hl (k := 1) rfl (by decide) (by decide) rfl (fun ls hl => ?_)
    refine lv_goto (pc := 99) (tgt := 72) hx hb dX12_count_99 (by decide) ?_
    refine lv_iload_n (pc := 72) hx hb dX12_count_72 rfl (lv_at hl 0 rfl) ?_
    refine lv_bipush (pc := 73) (v := 10) hx hb dX12_count_73 (by decide) ?_
    refine lv_icmp_ge (pc := 75) (tgt := 102) hx hb dX12_count_75 (by decide) (fun c51 => absurd c51 (by decide)) (fun _ => ?_)
    refine lv_iload_n (pc := 78) hx hb dX12_count_78 rfl (lv_at hl 1 rfl) ?_
    refine lv_aload_n (pc := 79) hx hb dX12_count_79 rfl (lv_at hl 2 rfl) ?_
    refine lv_iload_n (pc := 80) hx hb dX12_count_80 rfl (lv_at hl 0 rfl) ?_
    refine zcallVi (pc := 81) (k := 218) (As := [.int 7]) (rest := [.int 0]) ⟨hx, hb, hml, hown, hts⟩ (nw_X12_sizeOf l D c o σ 7 hR h0) zc12 zV_X12_318 rfl zd_X12_sizeOf ⟨Nat.le_of_ble_eq_true rfl, Nat.le_of_ble_eq_true rfl⟩ hK hP hS rfl (by decide) hl.1 rfl (Nat.le_of_ble_eq_true rfl) ⟨Nat.zero_le _, Nat.zero_le _⟩ dX12_count_81 (fun r52 σ53 H locs hw54 hP hS => ?_)
    obtain ⟨rfl, rfl⟩ := hw54
    refine lv_if_le (pc := 84) (tgt := 93) hx hb dX12_count_84 (by decide) (fun _ => ?_) (fun c55 => absurd c55 (by decide))
    refine lv_iconst (pc := 93) (v := 0) hx hb dX12_count_93 (by decide) ?_
    refine lv_ior (pc := 94) hx hb dX12_count_94 ?_
    refine lv_topi (pc := 95) (fun v56 ev56 => ?_)
    obtain rfl : v56 = 0 := ev56.trans (by decide)
    refine lv_istore_n (pc := 95) (lv' := [(2, .int 0), (3, .int 7), (0, .ref (o + 218)), (1, .int 4)]) hx hb dX12_count_95 rfl hl (by decide) rfl (fun ls hl => ?_)
    refine lv_iinc (pc := 96) (v := 8) (lv' := [(3, .int 8), (2, .int 0), (0, .ref (o + 218)), (1, .int 4)]) hx hb dX12_count_96 hl (k := 1) rfl (by decide) (by decide) rfl (fun ls hl => ?_)
    refine lv_goto (pc := 99) (tgt := 72) hx hb dX12_count_99 (by decide) ?_
    refine lv_iload_n (pc := 72) hx hb dX12_count_72 rfl (lv_at hl 0 rfl) ?_
    refine lv_bipush (pc := 73) (v := 10) hx hb dX12_count_73 (by decide) ?_
    refine lv_icmp_ge (pc := 75) (tgt := 102) hx hb dX12_count_75 (by decide) (fun c57 => absurd c57 (by decide)) (fun _ => ?_)
    refine lv_iload_n (pc := 78) hx hb dX12_count_78 rfl (lv_at hl 1 rfl) ?_
    refine lv_aload_n (pc := 79) hx hb dX12_count_79 rfl (lv_at hl 2 rfl) ?_
    refine lv_iload_n (pc := 80) hx hb dX12_count_80 rfl (lv_at hl 0 rfl) ?_
    refine zcallVi (pc := 81) (k := 218) (As := [.int 8]) (rest := [.int 0]) ⟨hx, hb, hml, hown, hts⟩ (nw_X12_sizeOf l D c o σ 8 hR h0) zc12 zV_X12_318 rfl zd_X12_sizeOf ⟨Nat.le_of_ble_eq_true rfl, Nat.le_of_ble_eq_true rfl⟩ hK hP hS rfl (by decide) hl.1 rfl (Nat.le_of_ble_eq_true rfl) ⟨Nat.zero_le _, Nat.zero_le _⟩ dX12_count_81 (fun r58 σ59 H locs hw60 hP hS => ?_)
    obtain ⟨rfl, rfl⟩ := hw60
    refine lv_if_le (pc := 84) (tgt := 93) hx hb dX12_count_84 (by decide) (fun _ => ?_) (fun c61 => absurd c61 (by decide))
    refine lv_iconst (pc := 93) (v := 0) hx hb dX12_count_93 (by decide) ?_
    refine lv_ior (pc := 94) hx hb dX12_count_94 ?_
    refine lv_topi (pc := 95) (fun v62 ev62 => ?_)
    obtain rfl : v62 = 0 := ev62.trans (by decide)
    refine lv_istore_n (pc := 95) (lv' := [(2, .int 0), (3, .int 8), (0, .ref (o + 218)), (1, .int 4)]) hx hb dX12_count_95 rfl hl (by decide) rfl (fun ls hl => ?_)
    refine lv_iinc (pc := 96) (v := 9) (lv' := [(3, .int 9), (2, .int 0), (0, .ref (o + 218)), (1, .int 4)]) hx hb dX12_count_96 hl (k := 1) rfl (by decide) (by decide) rfl (fun ls hl => ?_)
    refine lv_goto (pc := 99) (tgt := 72) hx hb dX12_count_99 (by decide) ?_
    refine lv_iload_n (pc := 72) hx hb dX12_count_72 rfl (lv_at hl 0 rfl) ?_
    refine lv_bipush (pc := 73) (v := 10) hx hb dX12_count_73 (by decide) ?_
    refine lv_icmp_ge (pc := 75) (tgt := 102) hx hb dX12_count_75 (by decide) (fun c63 => absurd c63 (by decide)) (fun _ => ?_)
    refine lv_iload_n (pc := 78) hx hb dX12_count_78 rfl (lv_at hl 1 rfl) ?_
    refine lv_aload_n (pc := 79) hx hb dX12_count_79 rfl (lv_at hl 2 rfl) ?_
    refine lv_iload_n (pc := 80) hx hb dX12_count_80 rfl (lv_at hl 0 rfl) ?_
    refine zcallVi (pc := 81) (k := 218) (As := [.int 9]) (rest := [.int 0]) ⟨hx, hb, hml, hown, hts⟩ (nw_X12_sizeOf l D c o σ 9 hR h0) zc12 zV_X12_318 rfl zd_X12_sizeOf ⟨Nat.le_of_ble_eq_true rfl, Nat.le_of_ble_eq_true rfl⟩ hK hP hS rfl (by decide) hl.1 rfl (Nat.le_of_ble_eq_true rfl) ⟨Nat.zero_le _, Nat.zero_le _⟩ dX12_count_81 (fun r64 σ65 H locs hw66 hP hS => ?_)
    obtain ⟨rfl, rfl⟩ := hw66
    refine lv_if_le (pc := 84) (tgt := 93) hx hb dX12_count_84 (by decide) (fun _ => ?_) (fun c67 => absurd c67 (by decide))
    refine lv_iconst (pc := 93) (v := 0) hx hb dX12_count_93 (by decide) ?_
    refine lv_ior (pc := 94) hx hb dX12_count_94 ?_
    refine lv_topi (pc := 95) (fun v68 ev68 => ?_)
    obtain rfl : v68 = 0 := ev68.trans (by decide)
    refine lv_istore_n (pc := 95) (lv' := [(2, .int 0), (3, .int 9), (0, .ref (o + 218)), (1, .int 4)]) hx hb dX12_count_95 rfl hl (by decide) rfl (fun ls hl => ?_)
    refine lv_iinc (pc := 96) (v := 10) (lv' := [(3, .int 10), (2, .int 0), (0, .ref (o + 218)), (1, .int 4)]) hx hb dX12_count_96 hl (k := 1) rfl (by decide) (by decide) rfl (fun ls hl => ?_)
    refine lv_goto (pc := 99) (tgt := 72) hx hb dX12_count_99 (by decide) ?_
    refine lv_iload_n (pc := 72) hx hb dX12_count_72 rfl (lv_at hl 0 rfl) ?_
    refine lv_bipush (pc := 73) (v := 10) hx hb dX12_count_73 (by decide) ?_
    refine lv_icmp_ge (pc := 75) (tgt := 102) hx hb dX12_count_75 (by decide) (fun _ => ?_) (fun c69 => absurd c69 (by decide))
    refine lv_iload_n (pc := 102) hx hb dX12_count_102 rfl (lv_at hl 1 rfl) ?_
    exact zreti (pc := 103) hx hb hr hlocks hP hK hS rfl dX12_count_103
  by_cases w70 : p0 = 5
  · subst w70
    refine lv_tableIn (pc := 3) (tgt := 104) hx hb dX12_count_3 (by decide) (by decide) rfl (by decide) ?_
    refine lv_aload_n (pc := 104) hx hb dX12_count_104 rfl (lv_at hl 1 rfl) ?_
    refine zcallVi (pc := 105) (k := 218) (As := []) (rest := []) ⟨hx, hb, hml, hown, hts⟩ (nw_X12_unlikeRegisters l D c o σ hR h0) zc12 zV_X12_451 rfl zd_X12_unlikeRegisters ⟨Nat.le_of_ble_eq_true rfl, Nat.le_of_ble_eq_true rfl⟩ hK hP hS rfl (by decide) hl.1 rfl (Nat.le_of_ble_eq_true rfl) ⟨Nat.zero_le _, Nat.zero_le _⟩ dX12_count_105 (fun r71 σ72 H locs hw73 hP hS => ?_)
    obtain ⟨rfl, rfl⟩ := hw73
    exact zreti (pc := 108) hx hb hr hlocks hP hK hS rfl dX12_count_108
  by_cases w74 : p0 = 6
  · subst w74
    refine lv_tableIn (pc := 3) (tgt := 109) hx hb dX12_count_3 (by decide) (by decide) rfl (by decide) ?_
    refine lv_iconst (pc := 109) (v := 0) hx hb dX12_count_109 (by decide) ?_
    refine lv_istore_n (pc := 110) (lv' := [(3, .int 0), (2, .int 0), (0, .ref (o + 218)), (1, .int 6)]) hx hb dX12_count_110 rfl hl (by decide) rfl (fun ls hl => ?_)
    refine lv_iload_n (pc := 111) hx hb dX12_count_111 rfl (lv_at hl 0 rfl) ?_
    refine lv_iconst (pc := 112) (v := 4) hx hb dX12_count_112 (by decide) ?_
    refine lv_icmp_ge (pc := 113) (tgt := 140) hx hb dX12_count_113 (by decide) (fun c75 => absurd c75 (by decide)) (fun _ => ?_)
    refine lv_iload_n (pc := 116) hx hb dX12_count_116 rfl (lv_at hl 1 rfl) ?_
    refine lv_aload_n (pc := 117) hx hb dX12_count_117 rfl (lv_at hl 2 rfl) ?_
    refine zgetR (pc := 118) (k := 218) (j := 35) (a := o + 239) zc12 hx hb hts hown hK hP rfl (by decide) rfl (hR 218 35 rfl) zf_X12_76 dX12_count_118 ?_
    refine lv_iload_n (pc := 121) hx hb dX12_count_121 rfl (lv_at hl 0 rfl) ?_
    refine ziald (pc := 122) (k := 239) (n := 4) hx hb hK hP rfl (by decide) (vp_in_iff.mpr ⟨by decide, by decide⟩) dX12_count_122 ?_
    refine lv_topi (pc := 123) (fun v76 ev76 => ?_)
    obtain rfl : v76 = (-1) := ev76.trans hm0
    refine lv_iconst (pc := 123) (v := (-1)) hx hb dX12_count_123 (by decide) ?_
    refine lv_icmp_ne (pc := 124) (tgt := 131) hx hb dX12_count_124 (by decide) (fun c77 => absurd c77 (by decide)) (fun _ => ?_)
    refine lv_iconst (pc := 127) (v := 0) hx hb dX12_count_127 (by decide) ?_
    refine lv_goto (pc := 128) (tgt := 132) hx hb dX12_count_128 (by decide) ?_
    refine lv_iadd (pc := 132) hx hb dX12_count_132 ?_
    refine lv_topi (pc := 133) (fun v78 ev78 => ?_)
    obtain rfl : v78 = 0 := ev78.trans (by decide)
    refine lv_istore_n (pc := 133) (lv' := [(2, .int 0), (3, .int 0), (0, .ref (o + 218)), (1, .int 6)]) hx hb dX12_count_133 rfl hl (by decide) rfl (fun ls hl => ?_)
    refine lv_iinc (pc := 134) (v := 1) (lv' := [(3, .int 1), (2, .int 0), (0, .ref (o + 218)), (1, .int 6)]) hx hb dX12_count_134 hl (k := 1) rfl (by decide) (by decide) rfl (fun ls hl => ?_)
    refine lv_goto (pc := 137) (tgt := 111) hx hb dX12_count_137 (by decide) ?_
    refine lv_iload_n (pc := 111) hx hb dX12_count_111 rfl (lv_at hl 0 rfl) ?_
    refine lv_iconst (pc := 112) (v := 4) hx hb dX12_count_112 (by decide) ?_
    refine lv_icmp_ge (pc := 113) (tgt := 140) hx hb dX12_count_113 (by decide) (fun c79 => absurd c79 (by decide)) (fun _ => ?_)
    refine lv_iload_n (pc := 116) hx hb dX12_count_116 rfl (lv_at hl 1 rfl) ?_
    refine lv_aload_n (pc := 117) hx hb dX12_count_117 rfl (lv_at hl 2 rfl) ?_
    refine zgetR (pc := 118) (k := 218) (j := 35) (a := o + 239) zc12 hx hb hts hown hK hP rfl (by decide) rfl (hR 218 35 rfl) zf_X12_76 dX12_count_118 ?_
    refine lv_iload_n (pc := 121) hx hb dX12_count_121 rfl (lv_at hl 0 rfl) ?_
    refine ziald (pc := 122) (k := 239) (n := 4) hx hb hK hP rfl (by decide) (vp_in_iff.mpr ⟨by decide, by decide⟩) dX12_count_122 ?_
    refine lv_topi (pc := 123) (fun v80 ev80 => ?_)
    obtain rfl : v80 = (-1) := ev80.trans hm1
    refine lv_iconst (pc := 123) (v := (-1)) hx hb dX12_count_123 (by decide) ?_
    refine lv_icmp_ne (pc := 124) (tgt := 131) hx hb dX12_count_124 (by decide) (fun c81 => absurd c81 (by decide)) (fun _ => ?_)
    refine lv_iconst (pc := 127) (v := 0) hx hb dX12_count_127 (by decide) ?_
    refine lv_goto (pc := 128) (tgt := 132) hx hb dX12_count_128 (by decide) ?_
    refine lv_iadd (pc := 132) hx hb dX12_count_132 ?_
    refine lv_topi (pc := 133) (fun v82 ev82 => ?_)
    obtain rfl : v82 = 0 := ev82.trans (by decide)
    refine lv_istore_n (pc := 133) (lv' := [(2, .int 0), (3, .int 1), (0, .ref (o + 218)), (1, .int 6)]) hx hb dX12_count_133 rfl hl (by decide) rfl (fun ls hl => ?_)
    refine lv_iinc (pc := 134) (v := 2) (lv' := [(3, .int 2), (2, .int 0), (0, .ref (o + 218)), (1, .int 6)]) hx hb dX12_count_134 hl (k := 1) rfl (by decide) (by decide) rfl (fun ls hl => ?_)
    refine lv_goto (pc := 137) (tgt := 111) hx hb dX12_count_137 (by decide) ?_
    refine lv_iload_n (pc := 111) hx hb dX12_count_111 rfl (lv_at hl 0 rfl) ?_
    refine lv_iconst (pc := 112) (v := 4) hx hb dX12_count_112 (by decide) ?_
    refine lv_icmp_ge (pc := 113) (tgt := 140) hx hb dX12_count_113 (by decide) (fun c83 => absurd c83 (by decide)) (fun _ => ?_)
    refine lv_iload_n (pc := 116) hx hb dX12_count_116 rfl (lv_at hl 1 rfl) ?_
    refine lv_aload_n (pc := 117) hx hb dX12_count_117 rfl (lv_at hl 2 rfl) ?_
    refine zgetR (pc := 118) (k := 218) (j := 35) (a := o + 239) zc12 hx hb hts hown hK hP rfl (by decide) rfl (hR 218 35 rfl) zf_X12_76 dX12_count_118 ?_
    refine lv_iload_n (pc := 121) hx hb dX12_count_121 rfl (lv_at hl 0 rfl) ?_
    refine ziald (pc := 122) (k := 239) (n := 4) hx hb hK hP rfl (by decide) (vp_in_iff.mpr ⟨by decide, by decide⟩) dX12_count_122 ?_
    refine lv_topi (pc := 123) (fun v84 ev84 => ?_)
    obtain rfl : v84 = (-1) := ev84.trans hm2
    refine lv_iconst (pc := 123) (v := (-1)) hx hb dX12_count_123 (by decide) ?_
    refine lv_icmp_ne (pc := 124) (tgt := 131) hx hb dX12_count_124 (by decide) (fun c85 => absurd c85 (by decide)) (fun _ => ?_)
    refine lv_iconst (pc := 127) (v := 0) hx hb dX12_count_127 (by decide) ?_
    refine lv_goto (pc := 128) (tgt := 132) hx hb dX12_count_128 (by decide) ?_
    refine lv_iadd (pc := 132) hx hb dX12_count_132 ?_
    refine lv_topi (pc := 133) (fun v86 ev86 => ?_)
    obtain rfl : v86 = 0 := ev86.trans (by decide)
    refine lv_istore_n (pc := 133) (lv' := [(2, .int 0), (3, .int 2), (0, .ref (o + 218)), (1, .int 6)]) hx hb dX12_count_133 rfl hl (by decide) rfl (fun ls hl => ?_)
    refine lv_iinc (pc := 134) (v := 3) (lv' := [(3, .int 3), (2, .int 0), (0, .ref (o + 218)), (1, .int 6)]) hx hb dX12_count_134 hl (k := 1) rfl (by decide) (by decide) rfl (fun ls hl => ?_)
    refine lv_goto (pc := 137) (tgt := 111) hx hb dX12_count_137 (by decide) ?_
    refine lv_iload_n (pc := 111) hx hb dX12_count_111 rfl (lv_at hl 0 rfl) ?_
    refine lv_iconst (pc := 112) (v := 4) hx hb dX12_count_112 (by decide) ?_
    refine lv_icmp_ge (pc := 113) (tgt := 140) hx hb dX12_count_113 (by decide) (fun c87 => absurd c87 (by decide)) (fun _ => ?_)
    refine lv_iload_n (pc := 116) hx hb dX12_count_116 rfl (lv_at hl 1 rfl) ?_
    refine lv_aload_n (pc := 117) hx hb dX12_count_117 rfl (lv_at hl 2 rfl) ?_
    refine zgetR (pc := 118) (k := 218) (j := 35) (a := o + 239) zc12 hx hb hts hown hK hP rfl (by decide) rfl (hR 218 35 rfl) zf_X12_76 dX12_count_118 ?_
    refine lv_iload_n (pc := 121) hx hb dX12_count_121 rfl (lv_at hl 0 rfl) ?_
    refine ziald (pc := 122) (k := 239) (n := 4) hx hb hK hP rfl (by decide) (vp_in_iff.mpr ⟨by decide, by decide⟩) dX12_count_122 ?_
    refine lv_topi (pc := 123) (fun v88 ev88 => ?_)
    obtain rfl : v88 = (-1) := ev88.trans hm3
    refine lv_iconst (pc := 123) (v := (-1)) hx hb dX12_count_123 (by decide) ?_
    refine lv_icmp_ne (pc := 124) (tgt := 131) hx hb dX12_count_124 (by decide) (fun c89 => absurd c89 (by decide)) (fun _ => ?_)
    refine lv_iconst (pc := 127) (v := 0) hx hb dX12_count_127 (by decide) ?_
    refine lv_goto (pc := 128) (tgt := 132) hx hb dX12_count_128 (by decide) ?_
    refine lv_iadd (pc := 132) hx hb dX12_count_132 ?_
    refine lv_topi (pc := 133) (fun v90 ev90 => ?_)
    obtain rfl : v90 = 0 := ev90.trans (by decide)
    refine lv_istore_n (pc := 133) (lv' := [(2, .int 0), (3, .int 3), (0, .ref (o + 218)), (1, .int 6)]) hx hb dX12_count_133 rfl hl (by decide) rfl (fun ls hl => ?_)
    refine lv_iinc (pc := 134) (v := 4) (lv' := [(3, .int 4), (2, .int 0), (0, .ref (o + 218)), (1, .int 6)]) hx hb dX12_count_134 hl (k := 1) rfl (by decide) (by decide) rfl (fun ls hl => ?_)
    refine lv_goto (pc := 137) (tgt := 111) hx hb dX12_count_137 (by decide) ?_
    refine lv_iload_n (pc := 111) hx hb dX12_count_111 rfl (lv_at hl 0 rfl) ?_
    refine lv_iconst (pc := 112) (v := 4) hx hb dX12_count_112 (by decide) ?_
    refine lv_icmp_ge (pc := 113) (tgt := 140) hx hb dX12_count_113 (by decide) (fun _ => ?_) (fun c91 => absurd c91 (by decide))
    refine lv_iload_n (pc := 140) hx hb dX12_count_140 rfl (lv_at hl 1 rfl) ?_
    exact zreti (pc := 141) hx hb hr hlocks hP hK hS rfl dX12_count_141
  have w92 : p0.toInt < 0 ∨ 6 < p0.toInt := by
    have q0 := lv_neT w1 (a := 0) rfl; have q1 := lv_neT w3 (a := 1) rfl; have q2 := lv_neT w5 (a := 2) rfl; have q3 := lv_neT w7 (a := 3) rfl; have q4 := lv_neT w8 (a := 4) rfl; have q5 := lv_neT w70 (a := 5) rfl; have q6 := lv_neT w74 (a := 6) rfl
    omega
  refine lv_tableOut (pc := 3) (tgt := 142) hx hb dX12_count_3 w92 (by decide) ?_
  refine lv_iconst (pc := 142) (v := (-1)) hx hb dX12_count_142 (by decide) ?_
  exact zreti (pc := 143) hx hb hr hlocks hP hK hS (by unfold zsp_count; rw [if_neg (by omega)]) dX12_count_143

set_option maxHeartbeats 4000000 in
set_option maxRecDepth 100000 in
theorem em_X12_see (l : Launch) (D : va_G) (c : zC) (o : Nat) (σ : zS) (hR : zRef o σ.2.2) (hz : σ.1 218 9 = 0) : Met l yX12_see zs_X12_see (zr 1) (va_Pc [.ref (o + 218), .int 0] (zQ D c o σ)) (va_Qi (fun (r : Int32) (σ1 : zS) => r = -1 ∧ σ = σ1) (zQ D c o) (zA o)) 0 0 (zA o) := by
  refine zMet (by decide) (Nat.le_of_ble_eq_true rfl) ?_
  intro p e s m below meth cd ⟨hx, hb, hr, hml, hown, hts, hlocks⟩ hP hK ls hl
  have hS : va_S (zA o) s.heap s.heap [] := va_S.rf
  have hl : lv_has ls 2 [(0, .ref (o + 218)), (1, .int 0)] := hl
  refine lv_iload_n (pc := 0) hx hb dX12_see_0 rfl (lv_at hl 1 rfl) ?_
  refine lv_aload_n (pc := 1) hx hb dX12_see_1 rfl (lv_at hl 0 rfl) ?_
  refine zgetI (pc := 2) (k := 218) (j := 9) (v := 0) zc12 hx hb hts hown hK hP rfl (by decide) rfl hz zf_X12_110 dX12_see_2 ?_
  refine lv_icmp_ge (pc := 5) (tgt := 21) hx hb dX12_see_5 (by decide) (fun _ => ?_) (fun c1 => absurd c1 (by decide))
  refine lv_iconst (pc := 21) (v := (-1)) hx hb dX12_see_21 (by decide) ?_
  exact zreti (pc := 22) hx hb hr hlocks hP hK hS ⟨rfl, rfl⟩ dX12_see_22

set_option maxHeartbeats 4000000 in
set_option maxRecDepth 100000 in
theorem em_X12_advance (l : Launch) (D : va_G) (c : zC) (o : Nat) (σ : zS) (hR : zRef o σ.2.2) (hz : σ.1 218 9 = 0) (ha : σ.1 218 10 = 0) (hk : σ.1 218 14 = 0) : Met l yX12_advance zs_X12_advance (zr 3) (va_Pc [.ref (o + 218)] (zQ D c o σ)) (va_Qv (fun (σ1 : zS) => zFr [218] σ σ1 ∧ σ1.1 218 12 = 0 ∧ σ1.1 218 14 = 0) (zQ D c o) (zA o)) 0 0 (zA o) := by
  refine zMet (by decide) (Nat.le_of_ble_eq_true rfl) ?_
  intro p e s m below meth cd ⟨hx, hb, hr, hml, hown, hts, hlocks⟩ hP hK ls hl
  have hS : va_S (zA o) s.heap s.heap [] := va_S.rf
  have hl : lv_has ls 2 [(0, .ref (o + 218))] := hl
  have hF : zFr [218] σ σ := zFr_rf
  refine lv_aload_n (pc := 0) hx hb dX12_advance_0 rfl (lv_at hl 0 rfl) ?_
  refine lv_aload_n (pc := 1) hx hb dX12_advance_1 rfl (lv_at hl 0 rfl) ?_
  refine zgetI (pc := 2) (k := 218) (j := 10) (v := 0) zc12 hx hb hts hown hK hP rfl (by decide) rfl ha zf_X12_113 dX12_advance_2 ?_
  refine zcallVi (pc := 5) (k := 218) (As := [.int 0]) (rest := []) ⟨hx, hb, hml, hown, hts⟩ (em_X12_see l D c o σ hR hz) zc12 zV_X12_116 rfl zd_X12_see ⟨Nat.le_of_ble_eq_true rfl, Nat.le_of_ble_eq_true rfl⟩ hK hP hS rfl (by decide) hl.1 rfl (Nat.le_of_ble_eq_true rfl) ⟨Nat.zero_le _, Nat.zero_le _⟩ dX12_advance_5 (fun r1 σ2 H locs hw3 hP hS => ?_)
  obtain ⟨rfl, rfl⟩ := hw3
  refine lv_bipush (pc := 8) (v := 32) hx hb dX12_advance_8 (by decide) ?_
  refine lv_icmp_eq (pc := 10) (tgt := 26) hx hb dX12_advance_10 (by decide) (fun c4 => absurd c4 (by decide)) (fun _ => ?_)
  refine lv_aload_n (pc := 13) hx hb dX12_advance_13 rfl (lv_at hl 0 rfl) ?_
  refine lv_aload_n (pc := 14) hx hb dX12_advance_14 rfl (lv_at hl 0 rfl) ?_
  refine zgetI (pc := 15) (k := 218) (j := 10) (v := 0) zc12 hx hb hts hown hK hP rfl (by decide) rfl ha zf_X12_113 dX12_advance_15 ?_
  refine zcallVi (pc := 18) (k := 218) (As := [.int 0]) (rest := []) ⟨hx, hb, hml, hown, hts⟩ (em_X12_see l D c o σ hR hz) zc12 zV_X12_116 rfl zd_X12_see ⟨Nat.le_of_ble_eq_true rfl, Nat.le_of_ble_eq_true rfl⟩ hK hP hS rfl (by decide) hl.1 rfl (Nat.le_of_ble_eq_true rfl) ⟨Nat.zero_le _, Nat.zero_le _⟩ dX12_advance_18 (fun r5 σ6 H locs hw7 hP hS => ?_)
  obtain ⟨rfl, rfl⟩ := hw7
  refine lv_bipush (pc := 21) (v := 10) hx hb dX12_advance_21 (by decide) ?_
  refine lv_icmp_ne (pc := 23) (tgt := 39) hx hb dX12_advance_23 (by decide) (fun _ => ?_) (fun c8 => absurd c8 (by decide))
  refine lv_aload_n (pc := 39) hx hb dX12_advance_39 rfl (lv_at hl 0 rfl) ?_
  refine lv_aload_n (pc := 40) hx hb dX12_advance_40 rfl (lv_at hl 0 rfl) ?_
  refine zgetI (pc := 41) (k := 218) (j := 10) (v := 0) zc12 hx hb hts hown hK hP rfl (by decide) rfl ha zf_X12_113 dX12_advance_41 ?_
  refine zputI (pc := 44) (k := 218) (j := 11) zc12 hx hb hts hown hK hP hS rfl (by decide) rfl rfl rfl zf_X12_120 dX12_advance_44 (fun H locs hP hS => ?_)
  obtain ⟨σ9, eσ9⟩ : ∃ x : zS, x = zI σ 218 (upd (σ.1 218) 11 0) := ⟨_, rfl⟩
  have hP : zP D c o σ9 H := by rw [eσ9]; exact hP
  have hz : σ9.1 218 9 = 0 := zI_eq eσ9 ((pk_un (by decide)).trans hz)
  have ha : σ9.1 218 10 = 0 := zI_eq eσ9 ((pk_un (by decide)).trans ha)
  have hk : σ9.1 218 14 = 0 := zI_eq eσ9 ((pk_un (by decide)).trans hk)
  have f218_11 : σ9.1 218 11 = 0 := zI_eq eσ9 pk_us
  have hR : zRef o σ9.2.2 := zI_ref eσ9 hR
  have hF : zFr [218] σ σ9 := zFr_I eσ9 hF (by decide)
  refine lv_aload_n (pc := 47) hx hb dX12_advance_47 rfl (lv_at hl 0 rfl) ?_
  refine lv_aload_n (pc := 48) hx hb dX12_advance_48 rfl (lv_at hl 0 rfl) ?_
  refine zgetI (pc := 49) (k := 218) (j := 10) (v := 0) zc12 hx hb hts hown hK hP rfl (by decide) rfl ha zf_X12_113 dX12_advance_49 ?_
  refine zcallVi (pc := 52) (k := 218) (As := [.int 0]) (rest := []) ⟨hx, hb, hml, hown, hts⟩ (em_X12_see l D c o σ9 hR hz) zc12 zV_X12_116 rfl zd_X12_see ⟨Nat.le_of_ble_eq_true rfl, Nat.le_of_ble_eq_true rfl⟩ hK hP hS rfl (by decide) hl.1 rfl (Nat.le_of_ble_eq_true rfl) ⟨Nat.zero_le _, Nat.zero_le _⟩ dX12_advance_52 (fun r10 σ11 H locs hw12 hP hS => ?_)
  obtain ⟨rfl, rfl⟩ := hw12
  refine lv_istore_n (pc := 55) (lv' := [(1, .int ((-1))), (0, .ref (o + 218))]) hx hb dX12_advance_55 rfl hl (by decide) rfl (fun ls hl => ?_)
  refine lv_iload_n (pc := 56) hx hb dX12_advance_56 rfl (lv_at hl 0 rfl) ?_
  refine lv_iconst (pc := 57) (v := (-1)) hx hb dX12_advance_57 (by decide) ?_
  refine lv_icmp_ne (pc := 58) (tgt := 69) hx hb dX12_advance_58 (by decide) (fun c13 => absurd c13 (by decide)) (fun _ => ?_)
  refine lv_aload_n (pc := 61) hx hb dX12_advance_61 rfl (lv_at hl 1 rfl) ?_
  refine lv_iconst (pc := 62) (v := 0) hx hb dX12_advance_62 (by decide) ?_
  refine zputI (pc := 63) (k := 218) (j := 12) zc12 hx hb hts hown hK hP hS rfl (by decide) rfl rfl rfl zf_X12_123 dX12_advance_63 (fun H locs hP hS => ?_)
  obtain ⟨σ14, eσ14⟩ : ∃ x : zS, x = zI σ9 218 (upd (σ9.1 218) 12 0) := ⟨_, rfl⟩
  have hP : zP D c o σ14 H := by rw [eσ14]; exact hP
  have hz : σ14.1 218 9 = 0 := zI_eq eσ14 ((pk_un (by decide)).trans hz)
  have ha : σ14.1 218 10 = 0 := zI_eq eσ14 ((pk_un (by decide)).trans ha)
  have hk : σ14.1 218 14 = 0 := zI_eq eσ14 ((pk_un (by decide)).trans hk)
  have f218_11 : σ14.1 218 11 = 0 := zI_eq eσ14 ((pk_un (by decide)).trans f218_11)
  have f218_12 : σ14.1 218 12 = 0 := zI_eq eσ14 pk_us
  have hR : zRef o σ14.2.2 := zI_ref eσ14 hR
  have hF : zFr [218] σ σ14 := zFr_I eσ14 hF (by decide)
  refine lv_goto (pc := 66) (tgt := 240) hx hb dX12_advance_66 (by decide) ?_
  exact zretv (pc := 240) hx hb hr hlocks hP hK hS ⟨hF, f218_12, hk⟩ dX12_advance_240

set_option maxHeartbeats 4000000 in
set_option maxRecDepth 100000 in
theorem em_X12_begins (l : Launch) (D : va_G) (c : zC) (o : Nat) (σ : zS) (hR : zRef o σ.2.2) (ht : σ.1 218 7 = 0) : Met l yX12_begins zs_X12_begins (zr 5) (va_Pc [.ref (o + 218)] (zQ D c o σ)) (va_Qv (fun (σ1 : zS) => zFr [218] σ σ1 ∧ σ1.1 218 12 = 0 ∧ σ1.1 218 14 = 0) (zQ D c o) (zA o)) 0 0 (zA o) := by
  refine zMet (by decide) (Nat.le_of_ble_eq_true rfl) ?_
  intro p e s m below meth cd ⟨hx, hb, hr, hml, hown, hts, hlocks⟩ hP hK ls hl
  have hS : va_S (zA o) s.heap s.heap [] := va_S.rf
  have hl : lv_has ls 1 [(0, .ref (o + 218))] := hl
  have hF : zFr [218] σ σ := zFr_rf
  refine lv_aload_n (pc := 0) hx hb dX12_begins_0 rfl (lv_at hl 0 rfl) ?_
  refine lv_aload_n (pc := 1) hx hb dX12_begins_1 rfl (lv_at hl 0 rfl) ?_
  refine zgetI (pc := 2) (k := 218) (j := 7) (v := 0) zc12 hx hb hts hown hK hP rfl (by decide) rfl ht zf_X12_107 dX12_begins_2 ?_
  refine zputI (pc := 5) (k := 218) (j := 9) zc12 hx hb hts hown hK hP hS rfl (by decide) rfl rfl rfl zf_X12_110 dX12_begins_5 (fun H locs hP hS => ?_)
  obtain ⟨σ1, eσ1⟩ : ∃ x : zS, x = zI σ 218 (upd (σ.1 218) 9 0) := ⟨_, rfl⟩
  have hP : zP D c o σ1 H := by rw [eσ1]; exact hP
  have ht : σ1.1 218 7 = 0 := zI_eq eσ1 ((pk_un (by decide)).trans ht)
  have f218_9 : σ1.1 218 9 = 0 := zI_eq eσ1 pk_us
  have hR : zRef o σ1.2.2 := zI_ref eσ1 hR
  have hF : zFr [218] σ σ1 := zFr_I eσ1 hF (by decide)
  refine lv_aload_n (pc := 8) hx hb dX12_begins_8 rfl (lv_at hl 0 rfl) ?_
  refine lv_iconst (pc := 9) (v := 0) hx hb dX12_begins_9 (by decide) ?_
  refine zputI (pc := 10) (k := 218) (j := 7) zc12 hx hb hts hown hK hP hS rfl (by decide) rfl rfl rfl zf_X12_107 dX12_begins_10 (fun H locs hP hS => ?_)
  obtain ⟨σ2, eσ2⟩ : ∃ x : zS, x = zI σ1 218 (upd (σ1.1 218) 7 0) := ⟨_, rfl⟩
  have hP : zP D c o σ2 H := by rw [eσ2]; exact hP
  have f218_9 : σ2.1 218 9 = 0 := zI_eq eσ2 ((pk_un (by decide)).trans f218_9)
  have f218_7 : σ2.1 218 7 = 0 := zI_eq eσ2 pk_us
  have hR : zRef o σ2.2.2 := zI_ref eσ2 hR
  have hF : zFr [218] σ σ2 := zFr_I eσ2 hF (by decide)
  refine lv_aload_n (pc := 13) hx hb dX12_begins_13 rfl (lv_at hl 0 rfl) ?_
  refine lv_iconst (pc := 14) (v := 0) hx hb dX12_begins_14 (by decide) ?_
  refine zputI (pc := 15) (k := 218) (j := 10) zc12 hx hb hts hown hK hP hS rfl (by decide) rfl rfl rfl zf_X12_113 dX12_begins_15 (fun H locs hP hS => ?_)
  obtain ⟨σ3, eσ3⟩ : ∃ x : zS, x = zI σ2 218 (upd (σ2.1 218) 10 0) := ⟨_, rfl⟩
  have hP : zP D c o σ3 H := by rw [eσ3]; exact hP
  have f218_9 : σ3.1 218 9 = 0 := zI_eq eσ3 ((pk_un (by decide)).trans f218_9)
  have f218_7 : σ3.1 218 7 = 0 := zI_eq eσ3 ((pk_un (by decide)).trans f218_7)
  have f218_10 : σ3.1 218 10 = 0 := zI_eq eσ3 pk_us
  have hR : zRef o σ3.2.2 := zI_ref eσ3 hR
  have hF : zFr [218] σ σ3 := zFr_I eσ3 hF (by decide)
  refine lv_aload_n (pc := 18) hx hb dX12_begins_18 rfl (lv_at hl 0 rfl) ?_
  refine lv_iconst (pc := 19) (v := 0) hx hb dX12_begins_19 (by decide) ?_
  refine zputI (pc := 20) (k := 218) (j := 14) zc12 hx hb hts hown hK hP hS rfl (by decide) rfl rfl rfl zf_X12_148 dX12_begins_20 (fun H locs hP hS => ?_)
  obtain ⟨σ4, eσ4⟩ : ∃ x : zS, x = zI σ3 218 (upd (σ3.1 218) 14 0) := ⟨_, rfl⟩
  have hP : zP D c o σ4 H := by rw [eσ4]; exact hP
  have f218_9 : σ4.1 218 9 = 0 := zI_eq eσ4 ((pk_un (by decide)).trans f218_9)
  have f218_7 : σ4.1 218 7 = 0 := zI_eq eσ4 ((pk_un (by decide)).trans f218_7)
  have f218_10 : σ4.1 218 10 = 0 := zI_eq eσ4 ((pk_un (by decide)).trans f218_10)
  have f218_14 : σ4.1 218 14 = 0 := zI_eq eσ4 pk_us
  have hR : zRef o σ4.2.2 := zI_ref eσ4 hR
  have hF : zFr [218] σ σ4 := zFr_I eσ4 hF (by decide)
  refine lv_aload_n (pc := 23) hx hb dX12_begins_23 rfl (lv_at hl 0 rfl) ?_
  refine lv_iconst (pc := 24) (v := (-1)) hx hb dX12_begins_24 (by decide) ?_
  refine zputI (pc := 25) (k := 218) (j := 15) zc12 hx hb hts hown hK hP hS rfl (by decide) rfl rfl rfl zf_X12_33 dX12_begins_25 (fun H locs hP hS => ?_)
  obtain ⟨σ5, eσ5⟩ : ∃ x : zS, x = zI σ4 218 (upd (σ4.1 218) 15 (-1)) := ⟨_, rfl⟩
  have hP : zP D c o σ5 H := by rw [eσ5]; exact hP
  have f218_9 : σ5.1 218 9 = 0 := zI_eq eσ5 ((pk_un (by decide)).trans f218_9)
  have f218_7 : σ5.1 218 7 = 0 := zI_eq eσ5 ((pk_un (by decide)).trans f218_7)
  have f218_10 : σ5.1 218 10 = 0 := zI_eq eσ5 ((pk_un (by decide)).trans f218_10)
  have f218_14 : σ5.1 218 14 = 0 := zI_eq eσ5 ((pk_un (by decide)).trans f218_14)
  have f218_15 : σ5.1 218 15 = (-1) := zI_eq eσ5 pk_us
  have hR : zRef o σ5.2.2 := zI_ref eσ5 hR
  have hF : zFr [218] σ σ5 := zFr_I eσ5 hF (by decide)
  refine lv_aload_n (pc := 28) hx hb dX12_begins_28 rfl (lv_at hl 0 rfl) ?_
  refine lv_iconst (pc := 29) (v := 0) hx hb dX12_begins_29 (by decide) ?_
  refine zputI (pc := 30) (k := 218) (j := 25) zc12 hx hb hts hown hK hP hS rfl (by decide) rfl rfl rfl zf_X12_151 dX12_begins_30 (fun H locs hP hS => ?_)
  obtain ⟨σ6, eσ6⟩ : ∃ x : zS, x = zI σ5 218 (upd (σ5.1 218) 25 0) := ⟨_, rfl⟩
  have hP : zP D c o σ6 H := by rw [eσ6]; exact hP
  have f218_9 : σ6.1 218 9 = 0 := zI_eq eσ6 ((pk_un (by decide)).trans f218_9)
  have f218_7 : σ6.1 218 7 = 0 := zI_eq eσ6 ((pk_un (by decide)).trans f218_7)
  have f218_10 : σ6.1 218 10 = 0 := zI_eq eσ6 ((pk_un (by decide)).trans f218_10)
  have f218_14 : σ6.1 218 14 = 0 := zI_eq eσ6 ((pk_un (by decide)).trans f218_14)
  have f218_15 : σ6.1 218 15 = (-1) := zI_eq eσ6 ((pk_un (by decide)).trans f218_15)
  have f218_25 : σ6.1 218 25 = 0 := zI_eq eσ6 pk_us
  have hR : zRef o σ6.2.2 := zI_ref eσ6 hR
  have hF : zFr [218] σ σ6 := zFr_I eσ6 hF (by decide)
  refine lv_aload_n (pc := 33) hx hb dX12_begins_33 rfl (lv_at hl 0 rfl) ?_
  refine zcallVv (pc := 34) (k := 218) (As := []) (rest := []) ⟨hx, hb, hml, hown, hts⟩ (em_X12_advance l D c o σ6 hR f218_9 f218_10 f218_14) zc12 zV_X12_154 rfl zd_X12_advance ⟨Nat.le_of_ble_eq_true rfl, Nat.le_of_ble_eq_true rfl⟩ hK hP hS rfl (by decide) hl.1 rfl (Nat.le_of_ble_eq_true rfl) ⟨Nat.zero_le _, Nat.zero_le _⟩ dX12_begins_34 (fun σ8 H locs hw9 hP hS => ?_)
  obtain ⟨hw9, f218_12, f218_14⟩ := hw9
  have hR : zRef o σ8.2.2 := zFr_ref hw9 hR
  have hF : zFr [218] σ σ8 := zFr_tr hF hw9 (by decide)
  exact zretv (pc := 37) hx hb hr hlocks hP hK hS ⟨hF, f218_12, f218_14⟩ dX12_begins_37

set_option maxHeartbeats 4000000 in
set_option maxRecDepth 100000 in
theorem em_X12_good (l : Launch) (D : va_G) (c : zC) (o : Nat) (σ : zS) (hk : σ.1 218 14 = 0) : Met l yX12_good zs_X12_good (zr 1) (va_Pc [.ref (o + 218)] (zQ D c o σ)) (va_Qi (fun (r : Int32) (σ1 : zS) => r = 1 ∧ σ = σ1) (zQ D c o) (zA o)) 0 0 (zA o) := by
  refine zMet (by decide) (Nat.le_of_ble_eq_true rfl) ?_
  intro p e s m below meth cd ⟨hx, hb, hr, hml, hown, hts, hlocks⟩ hP hK ls hl
  have hS : va_S (zA o) s.heap s.heap [] := va_S.rf
  have hl : lv_has ls 1 [(0, .ref (o + 218))] := hl
  refine lv_aload_n (pc := 0) hx hb dX12_good_0 rfl (lv_at hl 0 rfl) ?_
  refine zgetI (pc := 1) (k := 218) (j := 14) (v := 0) zc12 hx hb hts hown hK hP rfl (by decide) rfl hk zf_X12_148 dX12_good_1 ?_
  refine lv_if_ne (pc := 4) (tgt := 11) hx hb dX12_good_4 (by decide) (fun c1 => absurd c1 (by decide)) (fun _ => ?_)
  refine lv_iconst (pc := 7) (v := 1) hx hb dX12_good_7 (by decide) ?_
  refine lv_goto (pc := 8) (tgt := 12) hx hb dX12_good_8 (by decide) ?_
  exact zretz (pc := 12) hx hb hr hlocks hP hK hS (by decide) ⟨rfl, rfl⟩ dX12_good_12

set_option maxHeartbeats 4000000 in
set_option maxRecDepth 100000 in
theorem fr_X12_world (l : Launch) (D : va_G) (c : zC) (o : Nat) (σ : zS) (hR : zRef o σ.2.2) (ht : σ.1 218 7 = 0) : Met l yX12_world zs_X12_world (zr 8) (va_Pc [.ref (o + 218)] (zQ D c o σ)) (va_Qi (fun (r : Int32) (σ1 : zS) => r = 0) (zQ D c o) (zA o)) 0 0 (zA o) := by
  refine zMet (by decide) (Nat.le_of_ble_eq_true rfl) ?_
  intro p e s m below meth cd ⟨hx, hb, hr, hml, hown, hts, hlocks⟩ hP hK ls hl
  have hS : va_S (zA o) s.heap s.heap [] := va_S.rf
  have hl : lv_has ls 2 [(0, .ref (o + 218))] := hl
  refine lv_aload_n (pc := 0) hx hb dX12_world_0 rfl (lv_at hl 0 rfl) ?_
  refine zcallVv (pc := 1) (k := 218) (As := []) (rest := []) ⟨hx, hb, hml, hown, hts⟩ (em_X12_begins l D c o σ hR ht) zc12 zV_X12_305 rfl zd_X12_begins ⟨Nat.le_of_ble_eq_true rfl, Nat.le_of_ble_eq_true rfl⟩ hK hP hS rfl (by decide) hl.1 rfl (Nat.le_of_ble_eq_true rfl) ⟨Nat.zero_le _, Nat.zero_le _⟩ dX12_world_1 (fun σ2 H locs hw3 hP hS => ?_)
  obtain ⟨hw3, f218_12, f218_14⟩ := hw3
  have hR : zRef o σ2.2.2 := zFr_ref hw3 hR
  refine lv_iconst (pc := 4) (v := 0) hx hb dX12_world_4 (by decide) ?_
  refine lv_istore_n (pc := 5) (lv' := [(1, .int 0), (0, .ref (o + 218))]) hx hb dX12_world_5 rfl hl (by decide) rfl (fun ls hl => ?_)
  have loop_6 : ∀ (n i : Nat) (τ4 : zS) (H : Heap) (locs : List Loc) (ls : Array Slot), i ≤ 43 → 43 - i < n → (τ4.1 218 12 = 0) → (τ4.1 218 14 = 0) → (zRef o τ4.2.2) → (∀ j, j < i → τ4.1 231 j = 0) → zP D c o τ4 H → va_S (zA o) s.heap H locs → lv_has ls 2 [(1, .int (nI i)), (0, .ref (o + 218))] → W p l e (zr 8) s m (([.ref (o + 218)] : List Value).toArray) below meth cd H locs 0 0 (MQ below (va_Qi (fun (r : Int32) (σ1 : zS) => r = 0) (zQ D c o) (zA o)) (([.ref (o + 218)] : List Value).toArray) s 0 0 (zA o)) (F0 m 6 ls []) := by
    intro n
    induction n with
    | zero => intro i _ _ _ _ _ h2; exact absurd h2 (by omega)
    | succ n ih =>
      intro i τ4 H locs ls hi hn f218_12 f218_14 hR hA hP hS hl
      refine lv_iload_n (pc := 6) hx hb dX12_world_6 rfl (lv_at hl 0 rfl) ?_
      refine lv_bipush (pc := 7) (v := 43) hx hb dX12_world_7 (by decide) ?_
      refine lv_icmp_ge (pc := 9) (tgt := 25) hx hb dX12_world_9 (by decide) (fun c5 => ?_) (fun c5 => ?_)
      · have hB : ∀ j, j < 43 → τ4.1 231 j = 0 := fun j hj => hA j (by have h9 := zlit2 (N := 43) (by omega) c5; omega)
        refine lv_iconst (pc := 25) (v := 0) hx hb dX12_world_25 (by decide) ?_
        refine lv_istore_n (pc := 26) (lv' := [(1, .int 0), (0, .ref (o + 218))]) hx hb dX12_world_26 rfl hl (by decide) rfl (fun ls hl => ?_)
        have loop_27 : ∀ (n i : Nat) (τ6 : zS) (H : Heap) (locs : List Loc) (ls : Array Slot), i ≤ 10240 → 10240 - i < n → (τ6.1 218 12 = 0) → (τ6.1 218 14 = 0) → (zRef o τ6.2.2) → (∀ j, j < 43 → τ6.1 231 j = 0) → zP D c o τ6 H → va_S (zA o) s.heap H locs → lv_has ls 2 [(1, .int (nI i)), (0, .ref (o + 218))] → W p l e (zr 8) s m (([.ref (o + 218)] : List Value).toArray) below meth cd H locs 0 0 (MQ below (va_Qi (fun (r : Int32) (σ1 : zS) => r = 0) (zQ D c o) (zA o)) (([.ref (o + 218)] : List Value).toArray) s 0 0 (zA o)) (F0 m 27 ls []) := by
          intro n
          induction n with
          | zero => intro i _ _ _ _ _ h2; exact absurd h2 (by omega)
          | succ n ih =>
            intro i τ6 H locs ls hi hn f218_12 f218_14 hR hB hP hS hl
            refine lv_iload_n (pc := 27) hx hb dX12_world_27 rfl (lv_at hl 0 rfl) ?_
            refine lv_sipush (pc := 28) (v := 10240) hx hb dX12_world_28 (by decide) ?_
            refine lv_icmp_ge (pc := 31) (tgt := 47) hx hb dX12_world_31 (by decide) (fun c7 => ?_) (fun c7 => ?_)
            · refine lv_aload_n (pc := 47) hx hb dX12_world_47 rfl (lv_at hl 1 rfl) ?_
              refine zcallVi (pc := 48) (k := 218) (As := []) (rest := []) ⟨hx, hb, hml, hown, hts⟩ (em_X12_good l D c o τ6 f218_14) zc12 zV_X12_157 rfl zd_X12_good ⟨Nat.le_of_ble_eq_true rfl, Nat.le_of_ble_eq_true rfl⟩ hK hP hS rfl (by decide) hl.1 rfl (Nat.le_of_ble_eq_true rfl) ⟨Nat.zero_le _, Nat.zero_le _⟩ dX12_world_48 (fun r8 σ9 H locs hw10 hP hS => ?_)
              obtain ⟨rfl, rfl⟩ := hw10
              refine lv_if_eq (pc := 51) (tgt := 100) hx hb dX12_world_51 (by decide) (fun c11 => absurd c11 (by decide)) (fun _ => ?_)
              refine lv_aload_n (pc := 54) hx hb dX12_world_54 rfl (lv_at hl 1 rfl) ?_
              refine zgetI (pc := 55) (k := 218) (j := 12) (v := 0) zc12 hx hb hts hown hK hP rfl (by decide) rfl f218_12 zf_X12_123 dX12_world_55 ?_
              refine lv_if_eq (pc := 58) (tgt := 100) hx hb dX12_world_58 (by decide) (fun _ => ?_) (fun c12 => absurd c12 (by decide))
              refine lv_aload_n (pc := 100) hx hb dX12_world_100 rfl (lv_at hl 1 rfl) ?_
              refine zcallVi (pc := 101) (k := 218) (As := []) (rest := []) ⟨hx, hb, hml, hown, hts⟩ (em_X12_good l D c o τ6 f218_14) zc12 zV_X12_157 rfl zd_X12_good ⟨Nat.le_of_ble_eq_true rfl, Nat.le_of_ble_eq_true rfl⟩ hK hP hS rfl (by decide) hl.1 rfl (Nat.le_of_ble_eq_true rfl) ⟨Nat.zero_le _, Nat.zero_le _⟩ dX12_world_101 (fun r13 σ14 H locs hw15 hP hS => ?_)
              obtain ⟨rfl, rfl⟩ := hw15
              refine lv_if_ne (pc := 104) (tgt := 110) hx hb dX12_world_104 (by decide) (fun _ => ?_) (fun c16 => absurd c16 (by decide))
              refine lv_iconst (pc := 110) (v := 0) hx hb dX12_world_110 (by decide) ?_
              refine lv_istore_n (pc := 111) (lv' := [(1, .int 0), (0, .ref (o + 218))]) hx hb dX12_world_111 rfl hl (by decide) rfl (fun ls hl => ?_)
              have loop_112 : ∀ (n i : Nat) (τ17 : zS) (H : Heap) (locs : List Loc) (ls : Array Slot), i ≤ 43 → 43 - i < n → (τ17.1 218 12 = 0) → (τ17.1 218 14 = 0) → (zRef o τ17.2.2) → (∀ j, j < 43 → τ17.1 231 j = 0) → (∀ j, j < i → τ17.1 219 j = 0) → zP D c o τ17 H → va_S (zA o) s.heap H locs → lv_has ls 2 [(1, .int (nI i)), (0, .ref (o + 218))] → W p l e (zr 8) s m (([.ref (o + 218)] : List Value).toArray) below meth cd H locs 0 0 (MQ below (va_Qi (fun (r : Int32) (σ1 : zS) => r = 0) (zQ D c o) (zA o)) (([.ref (o + 218)] : List Value).toArray) s 0 0 (zA o)) (F0 m 112 ls []) := by
                intro n
                induction n with
                | zero => intro i _ _ _ _ _ h2; exact absurd h2 (by omega)
                | succ n ih =>
                  intro i τ17 H locs ls hi hn f218_12 f218_14 hR hB hC hP hS hl
                  refine lv_iload_n (pc := 112) hx hb dX12_world_112 rfl (lv_at hl 0 rfl) ?_
                  refine lv_bipush (pc := 113) (v := 43) hx hb dX12_world_113 (by decide) ?_
                  refine lv_icmp_ge (pc := 115) (tgt := 136) hx hb dX12_world_115 (by decide) (fun c18 => ?_) (fun c18 => ?_)
                  · have hC : ∀ j, j < 43 → τ17.1 219 j = 0 := fun j hj => hC j (by have h9 := zlit2 (N := 43) (by omega) c18; omega)
                    refine lv_iconst (pc := 136) (v := 0) hx hb dX12_world_136 (by decide) ?_
                    refine lv_istore_n (pc := 137) (lv' := [(1, .int 0), (0, .ref (o + 218))]) hx hb dX12_world_137 rfl hl (by decide) rfl (fun ls hl => ?_)
                    have loop_138 : ∀ (n i : Nat) (τ19 : zS) (H : Heap) (locs : List Loc) (ls : Array Slot), i ≤ 10240 → 10240 - i < n → (τ19.1 218 12 = 0) → (τ19.1 218 14 = 0) → (zRef o τ19.2.2) → (∀ j, j < 43 → τ19.1 219 j = 0) → zP D c o τ19 H → va_S (zA o) s.heap H locs → lv_has ls 2 [(1, .int (nI i)), (0, .ref (o + 218))] → W p l e (zr 8) s m (([.ref (o + 218)] : List Value).toArray) below meth cd H locs 0 0 (MQ below (va_Qi (fun (r : Int32) (σ1 : zS) => r = 0) (zQ D c o) (zA o)) (([.ref (o + 218)] : List Value).toArray) s 0 0 (zA o)) (F0 m 138 ls []) := by
                      intro n
                      induction n with
                      | zero => intro i _ _ _ _ _ h2; exact absurd h2 (by omega)
                      | succ n ih =>
                        intro i τ19 H locs ls hi hn f218_12 f218_14 hR hC hP hS hl
                        refine lv_iload_n (pc := 138) hx hb dX12_world_138 rfl (lv_at hl 0 rfl) ?_
                        refine lv_sipush (pc := 139) (v := 10240) hx hb dX12_world_139 (by decide) ?_
                        refine lv_icmp_ge (pc := 142) (tgt := 163) hx hb dX12_world_142 (by decide) (fun c20 => ?_) (fun c20 => ?_)
                        · refine lv_aload_n (pc := 163) hx hb dX12_world_163 rfl (lv_at hl 1 rfl) ?_
                          refine zgetR (pc := 164) (k := 218) (j := 1) (a := o + 219) zc12 hx hb hts hown hK hP rfl (by decide) rfl (hR 218 1 rfl) zf_X12_9 dX12_world_164 ?_
                          refine lv_iconst (pc := 167) (v := 1) hx hb dX12_world_167 (by decide) ?_
                          refine ziald (pc := 168) (k := 219) (n := 43) hx hb hK hP rfl (by decide) (vp_in_iff.mpr ⟨by decide, by decide⟩) dX12_world_168 ?_
                          refine lv_topi (pc := 169) (fun v21 ev21 => ?_)
                          exact zreti (pc := 169) hx hb hr hlocks hP hK hS (ev21.trans (hC 1 (by decide))) dX12_world_169
                        · have hlt : i < 10240 := zlit (N := 10240) (by omega) (by omega) (by assumption)
                          refine lv_aload_n (pc := 145) hx hb dX12_world_145 rfl (lv_at hl 1 rfl) ?_
                          refine zgetR (pc := 146) (k := 218) (j := 2) (a := o + 220) zc12 hx hb hts hown hK hP rfl (by decide) rfl (hR 218 2 rfl) zf_X12_13 dX12_world_146 ?_
                          refine lv_iload_n (pc := 149) hx hb dX12_world_149 rfl (lv_at hl 0 rfl) ?_
                          refine lv_aload_n (pc := 150) hx hb dX12_world_150 rfl (lv_at hl 1 rfl) ?_
                          refine zgetR (pc := 151) (k := 218) (j := 27) (a := o + 232) zc12 hx hb hts hown hK hP rfl (by decide) rfl (hR 218 27 rfl) zf_X12_55 dX12_world_151 ?_
                          refine lv_iload_n (pc := 154) hx hb dX12_world_154 rfl (lv_at hl 0 rfl) ?_
                          refine zzald (pc := 155) (k := 232) (n := 10240) hx hb hK hP rfl (by decide) (vp_in_nI (by omega) (by omega)) dX12_world_155 ?_
                          refine lv_topi (pc := 156) (fun v22 ev22 => ?_)
                          refine zzast (pc := 156) (k := 220) (n := 10240) hx hb hK hP hS rfl (by decide) (vp_in_nI (by omega) (by omega)) dX12_world_156 (fun H locs hP hS => ?_)
                          obtain ⟨σ23, eσ23⟩ : ∃ x : zS, x = zI τ19 220 (upd (τ19.1 220) (nI i).toNatClampNeg (vp_nar .boolean v22)) := ⟨_, rfl⟩
                          have hP : zP D c o σ23 H := by rw [eσ23]; exact hP
                          have f218_12 : σ23.1 218 12 = 0 := zI_ne eσ23 (by decide) f218_12
                          have f218_14 : σ23.1 218 14 = 0 := zI_ne eσ23 (by decide) f218_14
                          have hR : zRef o σ23.2.2 := zI_ref eσ23 hR
                          have hC : ∀ j, j < 43 → σ23.1 219 j = 0 := zrow_ne eσ23 (by decide) hC
                          obtain ⟨v24, ev24⟩ : ∃ y : Int32, y = nI i + 1 := ⟨_, rfl⟩
                          refine lv_iinc (pc := 157) (v := v24) (lv' := [(1, .int v24), (0, .ref (o + 218))]) hx hb dX12_world_157 hl (k := 0) rfl (by rw [ev24]; rfl) (by decide) rfl (fun ls hl => ?_)
                          refine lv_goto (pc := 160) (tgt := 138) hx hb dX12_world_160 (by decide) ?_
                          have hl : lv_has ls 2 [(1, .int (nI (i + 1))), (0, .ref (o + 218))] := by have h9 := lv_sub hl [0, 1] rfl; rw [show v24 = nI (i + 1) from by rw [ev24]; exact nI_1 i] at h9; exact h9
                          exact ih (i + 1) σ23 H locs ls (by omega) (by omega) f218_12 f218_14 hR hC hP hS hl
                    exact loop_138 (10240 + 1) 0 τ17 _ _ ls (Nat.zero_le _) (by omega) f218_12 f218_14 hR hC hP hS (lv_sub hl [0, 1] rfl)
                  · have hlt : i < 43 := zlit (N := 43) (by omega) (by omega) (by assumption)
                    refine lv_aload_n (pc := 118) hx hb dX12_world_118 rfl (lv_at hl 1 rfl) ?_
                    refine zgetR (pc := 119) (k := 218) (j := 1) (a := o + 219) zc12 hx hb hts hown hK hP rfl (by decide) rfl (hR 218 1 rfl) zf_X12_9 dX12_world_119 ?_
                    refine lv_iload_n (pc := 122) hx hb dX12_world_122 rfl (lv_at hl 0 rfl) ?_
                    refine lv_aload_n (pc := 123) hx hb dX12_world_123 rfl (lv_at hl 1 rfl) ?_
                    refine zgetR (pc := 124) (k := 218) (j := 26) (a := o + 231) zc12 hx hb hts hown hK hP rfl (by decide) rfl (hR 218 26 rfl) zf_X12_52 dX12_world_124 ?_
                    refine lv_iload_n (pc := 127) hx hb dX12_world_127 rfl (lv_at hl 0 rfl) ?_
                    refine ziald (pc := 128) (k := 231) (n := 43) hx hb hK hP rfl (by decide) (vp_in_nI (by omega) (by omega)) dX12_world_128 ?_
                    refine lv_topi (pc := 129) (fun v25 ev25 => ?_)
                    refine ziast (pc := 129) (k := 219) (n := 43) hx hb hK hP hS rfl (by decide) (vp_in_nI (by omega) (by omega)) dX12_world_129 (fun H locs hP hS => ?_)
                    obtain ⟨σ26, eσ26⟩ : ∃ x : zS, x = zI τ17 219 (upd (τ17.1 219) (nI i).toNatClampNeg v25) := ⟨_, rfl⟩
                    have hP : zP D c o σ26 H := by rw [eσ26]; exact hP
                    have f218_12 : σ26.1 218 12 = 0 := zI_ne eσ26 (by decide) f218_12
                    have f218_14 : σ26.1 218 14 = 0 := zI_ne eσ26 (by decide) f218_14
                    have hR : zRef o σ26.2.2 := zI_ref eσ26 hR
                    have hC : ∀ j, j < i + 1 → σ26.1 219 j = 0 := zrow_step (by rw [eσ26, show v25 = 0 from ev25.trans (hB _ (by rw [nI_clamp (by omega)]; exact hlt))]) (by omega) hC
                    have hB : ∀ j, j < 43 → σ26.1 231 j = 0 := zrow_ne eσ26 (by decide) hB
                    obtain ⟨v27, ev27⟩ : ∃ y : Int32, y = nI i + 1 := ⟨_, rfl⟩
                    refine lv_iinc (pc := 130) (v := v27) (lv' := [(1, .int v27), (0, .ref (o + 218))]) hx hb dX12_world_130 hl (k := 0) rfl (by rw [ev27]; rfl) (by decide) rfl (fun ls hl => ?_)
                    refine lv_goto (pc := 133) (tgt := 112) hx hb dX12_world_133 (by decide) ?_
                    have hl : lv_has ls 2 [(1, .int (nI (i + 1))), (0, .ref (o + 218))] := by have h9 := lv_sub hl [0, 1] rfl; rw [show v27 = nI (i + 1) from by rw [ev27]; exact nI_1 i] at h9; exact h9
                    exact ih (i + 1) σ26 H locs ls (by omega) (by omega) f218_12 f218_14 hR hB hC hP hS hl
              have hC : ∀ j, j < 0 → τ6.1 219 j = 0 := fun j hj => absurd hj (by omega)
              exact loop_112 (43 + 1) 0 τ6 _ _ ls (Nat.zero_le _) (by omega) f218_12 f218_14 hR hB hC hP hS (lv_sub hl [0, 1] rfl)
            · have hlt : i < 10240 := zlit (N := 10240) (by omega) (by omega) (by assumption)
              refine lv_aload_n (pc := 34) hx hb dX12_world_34 rfl (lv_at hl 1 rfl) ?_
              refine zgetR (pc := 35) (k := 218) (j := 27) (a := o + 232) zc12 hx hb hts hown hK hP rfl (by decide) rfl (hR 218 27 rfl) zf_X12_55 dX12_world_35 ?_
              refine lv_iload_n (pc := 38) hx hb dX12_world_38 rfl (lv_at hl 0 rfl) ?_
              refine lv_iconst (pc := 39) (v := 0) hx hb dX12_world_39 (by decide) ?_
              refine zzast (pc := 40) (k := 232) (n := 10240) hx hb hK hP hS rfl (by decide) (vp_in_nI (by omega) (by omega)) dX12_world_40 (fun H locs hP hS => ?_)
              obtain ⟨σ28, eσ28⟩ : ∃ x : zS, x = zI τ6 232 (upd (τ6.1 232) (nI i).toNatClampNeg (vp_nar .boolean 0)) := ⟨_, rfl⟩
              have hP : zP D c o σ28 H := by rw [eσ28]; exact hP
              have f218_12 : σ28.1 218 12 = 0 := zI_ne eσ28 (by decide) f218_12
              have f218_14 : σ28.1 218 14 = 0 := zI_ne eσ28 (by decide) f218_14
              have hR : zRef o σ28.2.2 := zI_ref eσ28 hR
              have hB : ∀ j, j < 43 → σ28.1 231 j = 0 := zrow_ne eσ28 (by decide) hB
              obtain ⟨v29, ev29⟩ : ∃ y : Int32, y = nI i + 1 := ⟨_, rfl⟩
              refine lv_iinc (pc := 41) (v := v29) (lv' := [(1, .int v29), (0, .ref (o + 218))]) hx hb dX12_world_41 hl (k := 0) rfl (by rw [ev29]; rfl) (by decide) rfl (fun ls hl => ?_)
              refine lv_goto (pc := 44) (tgt := 27) hx hb dX12_world_44 (by decide) ?_
              have hl : lv_has ls 2 [(1, .int (nI (i + 1))), (0, .ref (o + 218))] := by have h9 := lv_sub hl [0, 1] rfl; rw [show v29 = nI (i + 1) from by rw [ev29]; exact nI_1 i] at h9; exact h9
              exact ih (i + 1) σ28 H locs ls (by omega) (by omega) f218_12 f218_14 hR hB hP hS hl
        exact loop_27 (10240 + 1) 0 τ4 _ _ ls (Nat.zero_le _) (by omega) f218_12 f218_14 hR hB hP hS (lv_sub hl [0, 1] rfl)
      · have hlt : i < 43 := zlit (N := 43) (by omega) (by omega) (by assumption)
        refine lv_aload_n (pc := 12) hx hb dX12_world_12 rfl (lv_at hl 1 rfl) ?_
        refine zgetR (pc := 13) (k := 218) (j := 26) (a := o + 231) zc12 hx hb hts hown hK hP rfl (by decide) rfl (hR 218 26 rfl) zf_X12_52 dX12_world_13 ?_
        refine lv_iload_n (pc := 16) hx hb dX12_world_16 rfl (lv_at hl 0 rfl) ?_
        refine lv_iconst (pc := 17) (v := 0) hx hb dX12_world_17 (by decide) ?_
        refine ziast (pc := 18) (k := 231) (n := 43) hx hb hK hP hS rfl (by decide) (vp_in_nI (by omega) (by omega)) dX12_world_18 (fun H locs hP hS => ?_)
        obtain ⟨σ30, eσ30⟩ : ∃ x : zS, x = zI τ4 231 (upd (τ4.1 231) (nI i).toNatClampNeg 0) := ⟨_, rfl⟩
        have hP : zP D c o σ30 H := by rw [eσ30]; exact hP
        have f218_12 : σ30.1 218 12 = 0 := zI_ne eσ30 (by decide) f218_12
        have f218_14 : σ30.1 218 14 = 0 := zI_ne eσ30 (by decide) f218_14
        have hR : zRef o σ30.2.2 := zI_ref eσ30 hR
        have hA : ∀ j, j < i + 1 → σ30.1 231 j = 0 := zrow_step eσ30 (by omega) hA
        obtain ⟨v31, ev31⟩ : ∃ y : Int32, y = nI i + 1 := ⟨_, rfl⟩
        refine lv_iinc (pc := 19) (v := v31) (lv' := [(1, .int v31), (0, .ref (o + 218))]) hx hb dX12_world_19 hl (k := 0) rfl (by rw [ev31]; rfl) (by decide) rfl (fun ls hl => ?_)
        refine lv_goto (pc := 22) (tgt := 6) hx hb dX12_world_22 (by decide) ?_
        have hl : lv_has ls 2 [(1, .int (nI (i + 1))), (0, .ref (o + 218))] := by have h9 := lv_sub hl [0, 1] rfl; rw [show v31 = nI (i + 1) from by rw [ev31]; exact nI_1 i] at h9; exact h9
        exact ih (i + 1) σ30 H locs ls (by omega) (by omega) f218_12 f218_14 hR hA hP hS hl
  have hA : ∀ j, j < 0 → σ2.1 231 j = 0 := fun j hj => absurd hj (by omega)
  exact loop_6 (43 + 1) 0 σ2 _ _ ls (Nat.zero_le _) (by omega) f218_12 f218_14 hR hA hP hS (lv_sub hl [0, 1] rfl)

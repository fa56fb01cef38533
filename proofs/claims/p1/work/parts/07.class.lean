set_option maxHeartbeats 4000000 in
set_option maxRecDepth 100000 in
theorem nw_X11_isWorld (l : Launch) (D : va_G) (c : zC) (o : Nat) (σ : zS) (hR : zRef o σ.2.2) (hN : σ.2.2 0 4 = o + 2) (h0 : σ.1 2 0 = 0) : Met l yX11_isWorld zs_X11_isWorld (zr 1) (va_Pc [.ref (o + 0)] (zQ D c o σ)) (va_Qi (fun (r : Int32) (σ1 : zS) => r = 0 ∧ σ = σ1) (zQ D c o) (zA o)) 0 0 (zA o) := by
  refine zMet (by decide) (Nat.le_of_ble_eq_true rfl) ?_
  intro p e s m below meth cd ⟨hx, hb, hr, hml, hown, hts, hlocks⟩ hP hK ls hl
  have hS : va_S (zA o) s.heap s.heap [] := va_S.rf
  have hl : lv_has ls 1 [(0, .ref (o + 0))] := hl
  refine lv_aload_n (pc := 0) hx hb dX11_isWorld_0 rfl (lv_at hl 0 rfl) ?_
  refine zgetR (pc := 1) (k := 0) (j := 4) (a := o + 2) zc11 hx hb hts hown hK hP rfl (by decide) rfl hN zf_X11_26 dX11_isWorld_1 ?_
  refine zgetI (pc := 4) (k := 2) (j := 0) (v := 0) zc10 hx hb hts hown hK hP rfl (by decide) rfl h0 zf_X11_139 dX11_isWorld_4 ?_
  refine lv_if_le (pc := 7) (tgt := 14) hx hb dX11_isWorld_7 (by decide) (fun _ => ?_) (fun c1 => absurd c1 (by decide))
  refine lv_iconst (pc := 14) (v := 0) hx hb dX11_isWorld_14 (by decide) ?_
  exact zretz (pc := 15) hx hb hr hlocks hP hK hS (by decide) ⟨rfl, rfl⟩ dX11_isWorld_15

set_option maxHeartbeats 4000000 in
set_option maxRecDepth 100000 in
theorem nw_X11_isRegister (l : Launch) (D : va_G) (c : zC) (o : Nat) (σ : zS) (p0 : Int32) (hR : zRef o σ.2.2) (hN : σ.2.2 0 4 = o + 2) (h0 : σ.1 2 0 = 0) : Met l yX11_isRegister zs_X11_isRegister (zr 2) (va_Pc [.ref (o + 0), .int p0] (zQ D c o σ)) (va_Qi (fun (r : Int32) (σ1 : zS) => r = 0 ∧ σ = σ1) (zQ D c o) (zA o)) 0 0 (zA o) := by
  refine zMet (by decide) (Nat.le_of_ble_eq_true rfl) ?_
  intro p e s m below meth cd ⟨hx, hb, hr, hml, hown, hts, hlocks⟩ hP hK ls hl
  have hS : va_S (zA o) s.heap s.heap [] := va_S.rf
  have hl : lv_has ls 2 [(0, .ref (o + 0)), (1, .int p0)] := hl
  refine lv_aload_n (pc := 0) hx hb dX11_isRegister_0 rfl (lv_at hl 0 rfl) ?_
  refine zcallVi (pc := 1) (k := 0) (As := []) (rest := []) ⟨hx, hb, hml, hown, hts⟩ (nw_X11_isWorld l D c o σ hR hN h0) zc11 zV_X11_260 rfl zd_X11_isWorld ⟨Nat.le_of_ble_eq_true rfl, Nat.le_of_ble_eq_true rfl⟩ hK hP hS rfl (by decide) hl.1 rfl (Nat.le_of_ble_eq_true rfl) ⟨Nat.zero_le _, Nat.zero_le _⟩ dX11_isRegister_1 (fun r1 σ2 H locs hw3 hP hS => ?_)
  obtain ⟨rfl, rfl⟩ := hw3
  refine lv_if_eq (pc := 4) (tgt := 21) hx hb dX11_isRegister_4 (by decide) (fun _ => ?_) (fun c4 => absurd c4 (by decide))
  refine lv_iconst (pc := 21) (v := 0) hx hb dX11_isRegister_21 (by decide) ?_
  exact zretz (pc := 22) hx hb hr hlocks hP hK hS (by decide) ⟨rfl, rfl⟩ dX11_isRegister_22

set_option maxHeartbeats 4000000 in
set_option maxRecDepth 100000 in
theorem nw_X11_isSet (l : Launch) (D : va_G) (c : zC) (o : Nat) (σ : zS) (p0 : Int32) (hR : zRef o σ.2.2) (hN : σ.2.2 0 4 = o + 2) (h0 : σ.1 2 0 = 0) : Met l yX11_isSet zs_X11_isSet (zr 2) (va_Pc [.ref (o + 0), .int p0] (zQ D c o σ)) (va_Qi (fun (r : Int32) (σ1 : zS) => r = 0 ∧ σ = σ1) (zQ D c o) (zA o)) 0 0 (zA o) := by
  refine zMet (by decide) (Nat.le_of_ble_eq_true rfl) ?_
  intro p e s m below meth cd ⟨hx, hb, hr, hml, hown, hts, hlocks⟩ hP hK ls hl
  have hS : va_S (zA o) s.heap s.heap [] := va_S.rf
  have hl : lv_has ls 2 [(0, .ref (o + 0)), (1, .int p0)] := hl
  refine lv_aload_n (pc := 0) hx hb dX11_isSet_0 rfl (lv_at hl 0 rfl) ?_
  refine zcallVi (pc := 1) (k := 0) (As := []) (rest := []) ⟨hx, hb, hml, hown, hts⟩ (nw_X11_isWorld l D c o σ hR hN h0) zc11 zV_X11_260 rfl zd_X11_isWorld ⟨Nat.le_of_ble_eq_true rfl, Nat.le_of_ble_eq_true rfl⟩ hK hP hS rfl (by decide) hl.1 rfl (Nat.le_of_ble_eq_true rfl) ⟨Nat.zero_le _, Nat.zero_le _⟩ dX11_isSet_1 (fun r1 σ2 H locs hw3 hP hS => ?_)
  obtain ⟨rfl, rfl⟩ := hw3
  refine lv_if_eq (pc := 4) (tgt := 28) hx hb dX11_isSet_4 (by decide) (fun _ => ?_) (fun c4 => absurd c4 (by decide))
  refine lv_iconst (pc := 28) (v := 0) hx hb dX11_isSet_28 (by decide) ?_
  exact zretz (pc := 29) hx hb hr hlocks hP hK hS (by decide) ⟨rfl, rfl⟩ dX11_isSet_29

set_option maxHeartbeats 4000000 in
set_option maxRecDepth 100000 in
theorem nw_X11_isName (l : Launch) (D : va_G) (c : zC) (o : Nat) (σ : zS) (p0 : Int32) (hR : zRef o σ.2.2) (hN : σ.2.2 0 4 = o + 2) (h0 : σ.1 2 0 = 0) : Met l yX11_isName zs_X11_isName (zr 1) (va_Pc [.ref (o + 0), .int p0] (zQ D c o σ)) (va_Qi (fun (r : Int32) (σ1 : zS) => r = 0 ∧ σ = σ1) (zQ D c o) (zA o)) 0 0 (zA o) := by
  refine zMet (by decide) (Nat.le_of_ble_eq_true rfl) ?_
  intro p e s m below meth cd ⟨hx, hb, hr, hml, hown, hts, hlocks⟩ hP hK ls hl
  have hS : va_S (zA o) s.heap s.heap [] := va_S.rf
  have hl : lv_has ls 2 [(0, .ref (o + 0)), (1, .int p0)] := hl
  refine lv_iload_n (pc := 0) hx hb dX11_isName_0 rfl (lv_at hl 1 rfl) ?_
  refine lv_if_lt (pc := 1) (tgt := 19) hx hb dX11_isName_1 (by decide) (fun c1 => ?_) (fun c1 => ?_)
  · refine lv_iconst (pc := 19) (v := 0) hx hb dX11_isName_19 (by decide) ?_
    exact zretz (pc := 20) hx hb hr hlocks hP hK hS (by decide) ⟨rfl, rfl⟩ dX11_isName_20
  · refine lv_iload_n (pc := 4) hx hb dX11_isName_4 rfl (lv_at hl 1 rfl) ?_
    refine lv_aload_n (pc := 5) hx hb dX11_isName_5 rfl (lv_at hl 0 rfl) ?_
    refine zgetR (pc := 6) (k := 0) (j := 4) (a := o + 2) zc11 hx hb hts hown hK hP rfl (by decide) rfl hN zf_X11_26 dX11_isName_6 ?_
    refine zgetI (pc := 9) (k := 2) (j := 0) (v := 0) zc10 hx hb hts hown hK hP rfl (by decide) rfl h0 zf_X11_139 dX11_isName_9 ?_
    refine lv_icmp_ge (pc := 12) (tgt := 19) hx hb dX11_isName_12 (by decide) (fun c2 => ?_) (fun c2 => absurd (zlt_le c1) c2)
    refine lv_iconst (pc := 19) (v := 0) hx hb dX11_isName_19 (by decide) ?_
    exact zretz (pc := 20) hx hb hr hlocks hP hK hS (by decide) ⟨rfl, rfl⟩ dX11_isName_20

set_option maxHeartbeats 4000000 in
set_option maxRecDepth 100000 in
theorem nw_X11_size (l : Launch) (D : va_G) (c : zC) (o : Nat) (σ : zS) (p0 : Int32) (hR : zRef o σ.2.2) (hN : σ.2.2 0 4 = o + 2) (h0 : σ.1 2 0 = 0) : Met l yX11_size zs_X11_size (zr 3) (va_Pc [.ref (o + 0), .int p0] (zQ D c o σ)) (va_Qi (fun (r : Int32) (σ1 : zS) => r = (-2) ∧ σ = σ1) (zQ D c o) (zA o)) 0 0 (zA o) := by
  refine zMet (by decide) (Nat.le_of_ble_eq_true rfl) ?_
  intro p e s m below meth cd ⟨hx, hb, hr, hml, hown, hts, hlocks⟩ hP hK ls hl
  have hS : va_S (zA o) s.heap s.heap [] := va_S.rf
  have hl : lv_has ls 2 [(0, .ref (o + 0)), (1, .int p0)] := hl
  refine lv_aload_n (pc := 0) hx hb dX11_size_0 rfl (lv_at hl 0 rfl) ?_
  refine lv_iload_n (pc := 1) hx hb dX11_size_1 rfl (lv_at hl 1 rfl) ?_
  refine zcallVi (pc := 2) (k := 0) (As := [.int p0]) (rest := []) ⟨hx, hb, hml, hown, hts⟩ (nw_X11_isRegister l D c o σ p0 hR hN h0) zc11 zV_X11_135 rfl zd_X11_isRegister ⟨Nat.le_of_ble_eq_true rfl, Nat.le_of_ble_eq_true rfl⟩ hK hP hS rfl (by decide) hl.1 rfl (Nat.le_of_ble_eq_true rfl) ⟨Nat.zero_le _, Nat.zero_le _⟩ dX11_size_2 (fun r1 σ2 H locs hw3 hP hS => ?_)
  obtain ⟨rfl, rfl⟩ := hw3
  refine lv_if_eq (pc := 5) (tgt := 23) hx hb dX11_size_5 (by decide) (fun _ => ?_) (fun c4 => absurd c4 (by decide))
  refine lv_bipush (pc := 23) (v := (-2)) hx hb dX11_size_23 (by decide) ?_
  exact zreti (pc := 25) hx hb hr hlocks hP hK hS ⟨rfl, rfl⟩ dX11_size_25

set_option maxHeartbeats 4000000 in
set_option maxRecDepth 100000 in
theorem nw_X11_has (l : Launch) (D : va_G) (c : zC) (o : Nat) (σ : zS) (p0 : Int32) (p1 : Int32) (hR : zRef o σ.2.2) (hN : σ.2.2 0 4 = o + 2) (h0 : σ.1 2 0 = 0) : Met l yX11_has zs_X11_has (zr 3) (va_Pc [.ref (o + 0), .int p0, .int p1] (zQ D c o σ)) (va_Qi (fun (r : Int32) (σ1 : zS) => r = (-2) ∧ σ = σ1) (zQ D c o) (zA o)) 0 0 (zA o) := by
  refine zMet (by decide) (Nat.le_of_ble_eq_true rfl) ?_
  intro p e s m below meth cd ⟨hx, hb, hr, hml, hown, hts, hlocks⟩ hP hK ls hl
  have hS : va_S (zA o) s.heap s.heap [] := va_S.rf
  have hl : lv_has ls 3 [(0, .ref (o + 0)), (1, .int p0), (2, .int p1)] := hl
  refine lv_aload_n (pc := 0) hx hb dX11_has_0 rfl (lv_at hl 0 rfl) ?_
  refine lv_iload_n (pc := 1) hx hb dX11_has_1 rfl (lv_at hl 1 rfl) ?_
  refine zcallVi (pc := 2) (k := 0) (As := [.int p0]) (rest := []) ⟨hx, hb, hml, hown, hts⟩ (nw_X11_isRegister l D c o σ p0 hR hN h0) zc11 zV_X11_135 rfl zd_X11_isRegister ⟨Nat.le_of_ble_eq_true rfl, Nat.le_of_ble_eq_true rfl⟩ hK hP hS rfl (by decide) hl.1 rfl (Nat.le_of_ble_eq_true rfl) ⟨Nat.zero_le _, Nat.zero_le _⟩ dX11_has_2 (fun r1 σ2 H locs hw3 hP hS => ?_)
  obtain ⟨rfl, rfl⟩ := hw3
  refine lv_if_eq (pc := 5) (tgt := 16) hx hb dX11_has_5 (by decide) (fun _ => ?_) (fun c4 => absurd c4 (by decide))
  refine lv_bipush (pc := 16) (v := (-2)) hx hb dX11_has_16 (by decide) ?_
  exact zreti (pc := 18) hx hb hr hlocks hP hK hS ⟨rfl, rfl⟩ dX11_has_18

set_option maxHeartbeats 4000000 in
set_option maxRecDepth 100000 in
theorem nw_X11_makes (l : Launch) (D : va_G) (c : zC) (o : Nat) (σ : zS) (p0 : Int32) (p1 : Int32) (p2 : Int32) (p3 : Int32) (hR : zRef o σ.2.2) (hN : σ.2.2 0 4 = o + 2) (h0 : σ.1 2 0 = 0) : Met l yX11_makes zs_X11_makes (zr 3) (va_Pc [.ref (o + 0), .int p0, .int p1, .int p2, .int p3] (zQ D c o σ)) (va_Qi (fun (r : Int32) (σ1 : zS) => r = (-2) ∧ σ = σ1) (zQ D c o) (zA o)) 0 0 (zA o) := by
  refine zMet (by decide) (Nat.le_of_ble_eq_true rfl) ?_
  intro p e s m below meth cd ⟨hx, hb, hr, hml, hown, hts, hlocks⟩ hP hK ls hl
  have hS : va_S (zA o) s.heap s.heap [] := va_S.rf
  have hl : lv_has ls 5 [(0, .ref (o + 0)), (1, .int p0), (2, .int p1), (3, .int p2), (4, .int p3)] := hl
  refine lv_aload_n (pc := 0) hx hb dX11_makes_0 rfl (lv_at hl 0 rfl) ?_
  refine lv_iload_n (pc := 1) hx hb dX11_makes_1 rfl (lv_at hl 1 rfl) ?_
  refine zcallVi (pc := 2) (k := 0) (As := [.int p0]) (rest := []) ⟨hx, hb, hml, hown, hts⟩ (nw_X11_isRegister l D c o σ p0 hR hN h0) zc11 zV_X11_135 rfl zd_X11_isRegister ⟨Nat.le_of_ble_eq_true rfl, Nat.le_of_ble_eq_true rfl⟩ hK hP hS rfl (by decide) hl.1 rfl (Nat.le_of_ble_eq_true rfl) ⟨Nat.zero_le _, Nat.zero_le _⟩ dX11_makes_2 (fun r1 σ2 H locs hw3 hP hS => ?_)
  obtain ⟨rfl, rfl⟩ := hw3
  refine lv_if_eq (pc := 5) (tgt := 35) hx hb dX11_makes_5 (by decide) (fun _ => ?_) (fun c4 => absurd c4 (by decide))
  refine lv_bipush (pc := 35) (v := (-2)) hx hb dX11_makes_35 (by decide) ?_
  exact zreti (pc := 37) hx hb hr hlocks hP hK hS ⟨rfl, rfl⟩ dX11_makes_37

set_option maxHeartbeats 4000000 in
set_option maxRecDepth 100000 in
theorem nw_X11_turn (l : Launch) (D : va_G) (c : zC) (o : Nat) (σ : zS) (p0 : Int32) (p1 : Int32) (p2 : Int32) (hR : zRef o σ.2.2) (hN : σ.2.2 0 4 = o + 2) (h0 : σ.1 2 0 = 0) : Met l yX11_turn zs_X11_turn (zr 3) (va_Pc [.ref (o + 0), .int p0, .int p1, .int p2] (zQ D c o σ)) (va_Qi (fun (r : Int32) (σ1 : zS) => r = (-2) ∧ σ = σ1) (zQ D c o) (zA o)) 0 0 (zA o) := by
  refine zMet (by decide) (Nat.le_of_ble_eq_true rfl) ?_
  intro p e s m below meth cd ⟨hx, hb, hr, hml, hown, hts, hlocks⟩ hP hK ls hl
  have hS : va_S (zA o) s.heap s.heap [] := va_S.rf
  have hl : lv_has ls 4 [(0, .ref (o + 0)), (1, .int p0), (2, .int p1), (3, .int p2)] := hl
  refine lv_aload_n (pc := 0) hx hb dX11_turn_0 rfl (lv_at hl 0 rfl) ?_
  refine lv_iload_n (pc := 1) hx hb dX11_turn_1 rfl (lv_at hl 1 rfl) ?_
  refine zcallVi (pc := 2) (k := 0) (As := [.int p0]) (rest := []) ⟨hx, hb, hml, hown, hts⟩ (nw_X11_isRegister l D c o σ p0 hR hN h0) zc11 zV_X11_135 rfl zd_X11_isRegister ⟨Nat.le_of_ble_eq_true rfl, Nat.le_of_ble_eq_true rfl⟩ hK hP hS rfl (by decide) hl.1 rfl (Nat.le_of_ble_eq_true rfl) ⟨Nat.zero_le _, Nat.zero_le _⟩ dX11_turn_2 (fun r1 σ2 H locs hw3 hP hS => ?_)
  obtain ⟨rfl, rfl⟩ := hw3
  refine lv_if_eq (pc := 5) (tgt := 26) hx hb dX11_turn_5 (by decide) (fun _ => ?_) (fun c4 => absurd c4 (by decide))
  refine lv_bipush (pc := 26) (v := (-2)) hx hb dX11_turn_26 (by decide) ?_
  exact zreti (pc := 28) hx hb hr hlocks hP hK hS ⟨rfl, rfl⟩ dX11_turn_28

set_option maxHeartbeats 4000000 in
set_option maxRecDepth 100000 in
theorem nw_X11_sets (l : Launch) (D : va_G) (c : zC) (o : Nat) (σ : zS) (p0 : Int32) (p1 : Int32) (p2 : Int32) (hR : zRef o σ.2.2) (hN : σ.2.2 0 4 = o + 2) (h0 : σ.1 2 0 = 0) : Met l yX11_sets zs_X11_sets (zr 3) (va_Pc [.ref (o + 0), .int p0, .int p1, .int p2] (zQ D c o σ)) (va_Qi (fun (r : Int32) (σ1 : zS) => r = (-2) ∧ σ = σ1) (zQ D c o) (zA o)) 0 0 (zA o) := by
  refine zMet (by decide) (Nat.le_of_ble_eq_true rfl) ?_
  intro p e s m below meth cd ⟨hx, hb, hr, hml, hown, hts, hlocks⟩ hP hK ls hl
  have hS : va_S (zA o) s.heap s.heap [] := va_S.rf
  have hl : lv_has ls 5 [(0, .ref (o + 0)), (1, .int p0), (2, .int p1), (3, .int p2)] := hl
  refine lv_aload_n (pc := 0) hx hb dX11_sets_0 rfl (lv_at hl 0 rfl) ?_
  refine lv_iload_n (pc := 1) hx hb dX11_sets_1 rfl (lv_at hl 1 rfl) ?_
  refine zcallVi (pc := 2) (k := 0) (As := [.int p0]) (rest := []) ⟨hx, hb, hml, hown, hts⟩ (nw_X11_isRegister l D c o σ p0 hR hN h0) zc11 zV_X11_135 rfl zd_X11_isRegister ⟨Nat.le_of_ble_eq_true rfl, Nat.le_of_ble_eq_true rfl⟩ hK hP hS rfl (by decide) hl.1 rfl (Nat.le_of_ble_eq_true rfl) ⟨Nat.zero_le _, Nat.zero_le _⟩ dX11_sets_2 (fun r1 σ2 H locs hw3 hP hS => ?_)
  obtain ⟨rfl, rfl⟩ := hw3
  refine lv_if_eq (pc := 5) (tgt := 16) hx hb dX11_sets_5 (by decide) (fun _ => ?_) (fun c4 => absurd c4 (by decide))
  refine lv_bipush (pc := 16) (v := (-2)) hx hb dX11_sets_16 (by decide) ?_
  exact zreti (pc := 18) hx hb hr hlocks hP hK hS ⟨rfl, rfl⟩ dX11_sets_18

set_option maxHeartbeats 4000000 in
set_option maxRecDepth 100000 in
theorem nw_X11_change (l : Launch) (D : va_G) (c : zC) (o : Nat) (σ : zS) (p0 : Int32) (p1 : Int32) (p2 : Int32) (hR : zRef o σ.2.2) (hN : σ.2.2 0 4 = o + 2) (h0 : σ.1 2 0 = 0) : Met l yX11_change zs_X11_change (zr 3) (va_Pc [.ref (o + 0), .int p0, .int p1, .int p2] (zQ D c o σ)) (va_Qi (fun (r : Int32) (σ1 : zS) => r = (-2) ∧ σ = σ1) (zQ D c o) (zA o)) 0 0 (zA o) := by
  refine zMet (by decide) (Nat.le_of_ble_eq_true rfl) ?_
  intro p e s m below meth cd ⟨hx, hb, hr, hml, hown, hts, hlocks⟩ hP hK ls hl
  have hS : va_S (zA o) s.heap s.heap [] := va_S.rf
  have hl : lv_has ls 4 [(0, .ref (o + 0)), (1, .int p0), (2, .int p1), (3, .int p2)] := hl
  refine lv_aload_n (pc := 0) hx hb dX11_change_0 rfl (lv_at hl 0 rfl) ?_
  refine lv_iload_n (pc := 1) hx hb dX11_change_1 rfl (lv_at hl 1 rfl) ?_
  refine zcallVi (pc := 2) (k := 0) (As := [.int p0]) (rest := []) ⟨hx, hb, hml, hown, hts⟩ (nw_X11_isRegister l D c o σ p0 hR hN h0) zc11 zV_X11_135 rfl zd_X11_isRegister ⟨Nat.le_of_ble_eq_true rfl, Nat.le_of_ble_eq_true rfl⟩ hK hP hS rfl (by decide) hl.1 rfl (Nat.le_of_ble_eq_true rfl) ⟨Nat.zero_le _, Nat.zero_le _⟩ dX11_change_2 (fun r1 σ2 H locs hw3 hP hS => ?_)
  obtain ⟨rfl, rfl⟩ := hw3
  refine lv_if_eq (pc := 5) (tgt := 24) hx hb dX11_change_5 (by decide) (fun _ => ?_) (fun c4 => absurd c4 (by decide))
  refine lv_bipush (pc := 24) (v := (-2)) hx hb dX11_change_24 (by decide) ?_
  exact zreti (pc := 26) hx hb hr hlocks hP hK hS ⟨rfl, rfl⟩ dX11_change_26

set_option maxHeartbeats 4000000 in
set_option maxRecDepth 100000 in
theorem nw_X11_half (l : Launch) (D : va_G) (c : zC) (o : Nat) (σ : zS) (p0 : Int32) (p1 : Int32) (p2 : Int32) (p3 : Int32) (hR : zRef o σ.2.2) (hN : σ.2.2 0 4 = o + 2) (h0 : σ.1 2 0 = 0) : Met l yX11_half zs_X11_half (zr 3) (va_Pc [.ref (o + 0), .int p0, .int p1, .int p2, .int p3] (zQ D c o σ)) (va_Qi (fun (r : Int32) (σ1 : zS) => r = (-2) ∧ σ = σ1) (zQ D c o) (zA o)) 0 0 (zA o) := by
  refine zMet (by decide) (Nat.le_of_ble_eq_true rfl) ?_
  intro p e s m below meth cd ⟨hx, hb, hr, hml, hown, hts, hlocks⟩ hP hK ls hl
  have hS : va_S (zA o) s.heap s.heap [] := va_S.rf
  have hl : lv_has ls 5 [(0, .ref (o + 0)), (1, .int p0), (2, .int p1), (3, .int p2), (4, .int p3)] := hl
  refine lv_aload_n (pc := 0) hx hb dX11_half_0 rfl (lv_at hl 0 rfl) ?_
  refine lv_iload_n (pc := 1) hx hb dX11_half_1 rfl (lv_at hl 1 rfl) ?_
  refine zcallVi (pc := 2) (k := 0) (As := [.int p0]) (rest := []) ⟨hx, hb, hml, hown, hts⟩ (nw_X11_isRegister l D c o σ p0 hR hN h0) zc11 zV_X11_135 rfl zd_X11_isRegister ⟨Nat.le_of_ble_eq_true rfl, Nat.le_of_ble_eq_true rfl⟩ hK hP hS rfl (by decide) hl.1 rfl (Nat.le_of_ble_eq_true rfl) ⟨Nat.zero_le _, Nat.zero_le _⟩ dX11_half_2 (fun r1 σ2 H locs hw3 hP hS => ?_)
  obtain ⟨rfl, rfl⟩ := hw3
  refine lv_if_eq (pc := 5) (tgt := 24) hx hb dX11_half_5 (by decide) (fun _ => ?_) (fun c4 => absurd c4 (by decide))
  refine lv_bipush (pc := 24) (v := (-2)) hx hb dX11_half_24 (by decide) ?_
  exact zreti (pc := 26) hx hb hr hlocks hP hK hS ⟨rfl, rfl⟩ dX11_half_26

set_option maxHeartbeats 4000000 in
set_option maxRecDepth 100000 in
theorem nw_X11_level (l : Launch) (D : va_G) (c : zC) (o : Nat) (σ : zS) (p0 : Int32) (p1 : Int32) (p2 : Int32) (hR : zRef o σ.2.2) (hN : σ.2.2 0 4 = o + 2) (h0 : σ.1 2 0 = 0) : Met l yX11_level zs_X11_level (zr 3) (va_Pc [.ref (o + 0), .int p0, .int p1, .int p2] (zQ D c o σ)) (va_Qi (fun (r : Int32) (σ1 : zS) => r = (-2) ∧ σ = σ1) (zQ D c o) (zA o)) 0 0 (zA o) := by
  refine zMet (by decide) (Nat.le_of_ble_eq_true rfl) ?_
  intro p e s m below meth cd ⟨hx, hb, hr, hml, hown, hts, hlocks⟩ hP hK ls hl
  have hS : va_S (zA o) s.heap s.heap [] := va_S.rf
  have hl : lv_has ls 6 [(0, .ref (o + 0)), (1, .int p0), (2, .int p1), (3, .int p2)] := hl
  refine lv_aload_n (pc := 0) hx hb dX11_level_0 rfl (lv_at hl 0 rfl) ?_
  refine lv_iload_n (pc := 1) hx hb dX11_level_1 rfl (lv_at hl 1 rfl) ?_
  refine zcallVi (pc := 2) (k := 0) (As := [.int p0]) (rest := []) ⟨hx, hb, hml, hown, hts⟩ (nw_X11_isRegister l D c o σ p0 hR hN h0) zc11 zV_X11_135 rfl zd_X11_isRegister ⟨Nat.le_of_ble_eq_true rfl, Nat.le_of_ble_eq_true rfl⟩ hK hP hS rfl (by decide) hl.1 rfl (Nat.le_of_ble_eq_true rfl) ⟨Nat.zero_le _, Nat.zero_le _⟩ dX11_level_2 (fun r1 σ2 H locs hw3 hP hS => ?_)
  obtain ⟨rfl, rfl⟩ := hw3
  refine lv_if_eq (pc := 5) (tgt := 26) hx hb dX11_level_5 (by decide) (fun _ => ?_) (fun c4 => absurd c4 (by decide))
  refine lv_bipush (pc := 26) (v := (-2)) hx hb dX11_level_26 (by decide) ?_
  exact zreti (pc := 28) hx hb hr hlocks hP hK hS ⟨rfl, rfl⟩ dX11_level_28

set_option maxHeartbeats 4000000 in
set_option maxRecDepth 100000 in
theorem nw_X11_nth (l : Launch) (D : va_G) (c : zC) (o : Nat) (σ : zS) (p0 : Int32) (p1 : Int32) (hR : zRef o σ.2.2) (hN : σ.2.2 0 4 = o + 2) (h0 : σ.1 2 0 = 0) : Met l yX11_nth zs_X11_nth (zr 3) (va_Pc [.ref (o + 0), .int p0, .int p1] (zQ D c o σ)) (va_Qi (fun (r : Int32) (σ1 : zS) => r = (-2) ∧ σ = σ1) (zQ D c o) (zA o)) 0 0 (zA o) := by
  refine zMet (by decide) (Nat.le_of_ble_eq_true rfl) ?_
  intro p e s m below meth cd ⟨hx, hb, hr, hml, hown, hts, hlocks⟩ hP hK ls hl
  have hS : va_S (zA o) s.heap s.heap [] := va_S.rf
  have hl : lv_has ls 3 [(0, .ref (o + 0)), (1, .int p0), (2, .int p1)] := hl
  refine lv_aload_n (pc := 0) hx hb dX11_nth_0 rfl (lv_at hl 0 rfl) ?_
  refine lv_iload_n (pc := 1) hx hb dX11_nth_1 rfl (lv_at hl 1 rfl) ?_
  refine zcallVi (pc := 2) (k := 0) (As := [.int p0]) (rest := []) ⟨hx, hb, hml, hown, hts⟩ (nw_X11_isRegister l D c o σ p0 hR hN h0) zc11 zV_X11_135 rfl zd_X11_isRegister ⟨Nat.le_of_ble_eq_true rfl, Nat.le_of_ble_eq_true rfl⟩ hK hP hS rfl (by decide) hl.1 rfl (Nat.le_of_ble_eq_true rfl) ⟨Nat.zero_le _, Nat.zero_le _⟩ dX11_nth_2 (fun r1 σ2 H locs hw3 hP hS => ?_)
  obtain ⟨rfl, rfl⟩ := hw3
  refine lv_if_eq (pc := 5) (tgt := 24) hx hb dX11_nth_5 (by decide) (fun _ => ?_) (fun c4 => absurd c4 (by decide))
  refine lv_bipush (pc := 24) (v := (-2)) hx hb dX11_nth_24 (by decide) ?_
  exact zreti (pc := 26) hx hb hr hlocks hP hK hS ⟨rfl, rfl⟩ dX11_nth_26

set_option maxHeartbeats 4000000 in
set_option maxRecDepth 100000 in
theorem nw_X11_rank (l : Launch) (D : va_G) (c : zC) (o : Nat) (σ : zS) (p0 : Int32) (p1 : Int32) (hR : zRef o σ.2.2) (hN : σ.2.2 0 4 = o + 2) (h0 : σ.1 2 0 = 0) : Met l yX11_rank zs_X11_rank (zr 3) (va_Pc [.ref (o + 0), .int p0, .int p1] (zQ D c o σ)) (va_Qi (fun (r : Int32) (σ1 : zS) => r = (-2) ∧ σ = σ1) (zQ D c o) (zA o)) 0 0 (zA o) := by
  refine zMet (by decide) (Nat.le_of_ble_eq_true rfl) ?_
  intro p e s m below meth cd ⟨hx, hb, hr, hml, hown, hts, hlocks⟩ hP hK ls hl
  have hS : va_S (zA o) s.heap s.heap [] := va_S.rf
  have hl : lv_has ls 3 [(0, .ref (o + 0)), (1, .int p0), (2, .int p1)] := hl
  refine lv_aload_n (pc := 0) hx hb dX11_rank_0 rfl (lv_at hl 0 rfl) ?_
  refine lv_iload_n (pc := 1) hx hb dX11_rank_1 rfl (lv_at hl 1 rfl) ?_
  refine zcallVi (pc := 2) (k := 0) (As := [.int p0]) (rest := []) ⟨hx, hb, hml, hown, hts⟩ (nw_X11_isRegister l D c o σ p0 hR hN h0) zc11 zV_X11_135 rfl zd_X11_isRegister ⟨Nat.le_of_ble_eq_true rfl, Nat.le_of_ble_eq_true rfl⟩ hK hP hS rfl (by decide) hl.1 rfl (Nat.le_of_ble_eq_true rfl) ⟨Nat.zero_le _, Nat.zero_le _⟩ dX11_rank_2 (fun r1 σ2 H locs hw3 hP hS => ?_)
  obtain ⟨rfl, rfl⟩ := hw3
  refine lv_if_eq (pc := 5) (tgt := 16) hx hb dX11_rank_5 (by decide) (fun _ => ?_) (fun c4 => absurd c4 (by decide))
  refine lv_bipush (pc := 16) (v := (-2)) hx hb dX11_rank_16 (by decide) ?_
  exact zreti (pc := 18) hx hb hr hlocks hP hK hS ⟨rfl, rfl⟩ dX11_rank_18

set_option maxHeartbeats 4000000 in
set_option maxRecDepth 100000 in
theorem nw_X11_light (l : Launch) (D : va_G) (c : zC) (o : Nat) (σ : zS) (p0 : Int32) (p1 : Int32) (hR : zRef o σ.2.2) (hN : σ.2.2 0 4 = o + 2) (h0 : σ.1 2 0 = 0) : Met l yX11_light zs_X11_light (zr 3) (va_Pc [.ref (o + 0), .int p0, .int p1] (zQ D c o σ)) (va_Qi (fun (r : Int32) (σ1 : zS) => r = (-2) ∧ σ = σ1) (zQ D c o) (zA o)) 0 0 (zA o) := by
  refine zMet (by decide) (Nat.le_of_ble_eq_true rfl) ?_
  intro p e s m below meth cd ⟨hx, hb, hr, hml, hown, hts, hlocks⟩ hP hK ls hl
  have hS : va_S (zA o) s.heap s.heap [] := va_S.rf
  have hl : lv_has ls 3 [(0, .ref (o + 0)), (1, .int p0), (2, .int p1)] := hl
  refine lv_aload_n (pc := 0) hx hb dX11_light_0 rfl (lv_at hl 0 rfl) ?_
  refine lv_iload_n (pc := 1) hx hb dX11_light_1 rfl (lv_at hl 1 rfl) ?_
  refine zcallVi (pc := 2) (k := 0) (As := [.int p0]) (rest := []) ⟨hx, hb, hml, hown, hts⟩ (nw_X11_isRegister l D c o σ p0 hR hN h0) zc11 zV_X11_135 rfl zd_X11_isRegister ⟨Nat.le_of_ble_eq_true rfl, Nat.le_of_ble_eq_true rfl⟩ hK hP hS rfl (by decide) hl.1 rfl (Nat.le_of_ble_eq_true rfl) ⟨Nat.zero_le _, Nat.zero_le _⟩ dX11_light_2 (fun r1 σ2 H locs hw3 hP hS => ?_)
  obtain ⟨rfl, rfl⟩ := hw3
  refine lv_if_eq (pc := 5) (tgt := 32) hx hb dX11_light_5 (by decide) (fun _ => ?_) (fun c4 => absurd c4 (by decide))
  refine lv_bipush (pc := 32) (v := (-2)) hx hb dX11_light_32 (by decide) ?_
  exact zreti (pc := 34) hx hb hr hlocks hP hK hS ⟨rfl, rfl⟩ dX11_light_34

set_option maxHeartbeats 4000000 in
set_option maxRecDepth 100000 in
theorem nw_X11_weight (l : Launch) (D : va_G) (c : zC) (o : Nat) (σ : zS) (p0 : Int32) (hR : zRef o σ.2.2) (hN : σ.2.2 0 4 = o + 2) (h0 : σ.1 2 0 = 0) : Met l yX11_weight zs_X11_weight (zr 3) (va_Pc [.ref (o + 0), .int p0] (zQ D c o σ)) (va_Qi (fun (r : Int32) (σ1 : zS) => r = (-2) ∧ σ = σ1) (zQ D c o) (zA o)) 0 0 (zA o) := by
  refine zMet (by decide) (Nat.le_of_ble_eq_true rfl) ?_
  intro p e s m below meth cd ⟨hx, hb, hr, hml, hown, hts, hlocks⟩ hP hK ls hl
  have hS : va_S (zA o) s.heap s.heap [] := va_S.rf
  have hl : lv_has ls 2 [(0, .ref (o + 0)), (1, .int p0)] := hl
  refine lv_aload_n (pc := 0) hx hb dX11_weight_0 rfl (lv_at hl 0 rfl) ?_
  refine lv_iload_n (pc := 1) hx hb dX11_weight_1 rfl (lv_at hl 1 rfl) ?_
  refine zcallVi (pc := 2) (k := 0) (As := [.int p0]) (rest := []) ⟨hx, hb, hml, hown, hts⟩ (nw_X11_isSet l D c o σ p0 hR hN h0) zc11 zV_X11_154 rfl zd_X11_isSet ⟨Nat.le_of_ble_eq_true rfl, Nat.le_of_ble_eq_true rfl⟩ hK hP hS rfl (by decide) hl.1 rfl (Nat.le_of_ble_eq_true rfl) ⟨Nat.zero_le _, Nat.zero_le _⟩ dX11_weight_2 (fun r1 σ2 H locs hw3 hP hS => ?_)
  obtain ⟨rfl, rfl⟩ := hw3
  refine lv_if_eq (pc := 5) (tgt := 19) hx hb dX11_weight_5 (by decide) (fun _ => ?_) (fun c4 => absurd c4 (by decide))
  refine lv_bipush (pc := 19) (v := (-2)) hx hb dX11_weight_19 (by decide) ?_
  exact zreti (pc := 21) hx hb hr hlocks hP hK hS ⟨rfl, rfl⟩ dX11_weight_21

set_option maxHeartbeats 4000000 in
set_option maxRecDepth 100000 in
theorem nw_X11_weigh (l : Launch) (D : va_G) (c : zC) (o : Nat) (σ : zS) (p0 : Int32) (p1 : Int32) (hR : zRef o σ.2.2) (hN : σ.2.2 0 4 = o + 2) (h0 : σ.1 2 0 = 0) : Met l yX11_weigh zs_X11_weigh (zr 3) (va_Pc [.ref (o + 0), .int p0, .int p1] (zQ D c o σ)) (va_Qi (fun (r : Int32) (σ1 : zS) => r = (-2) ∧ σ = σ1) (zQ D c o) (zA o)) 0 0 (zA o) := by
  refine zMet (by decide) (Nat.le_of_ble_eq_true rfl) ?_
  intro p e s m below meth cd ⟨hx, hb, hr, hml, hown, hts, hlocks⟩ hP hK ls hl
  have hS : va_S (zA o) s.heap s.heap [] := va_S.rf
  have hl : lv_has ls 4 [(0, .ref (o + 0)), (1, .int p0), (2, .int p1)] := hl
  refine lv_aload_n (pc := 0) hx hb dX11_weigh_0 rfl (lv_at hl 0 rfl) ?_
  refine lv_iload_n (pc := 1) hx hb dX11_weigh_1 rfl (lv_at hl 1 rfl) ?_
  refine zcallVi (pc := 2) (k := 0) (As := [.int p0]) (rest := []) ⟨hx, hb, hml, hown, hts⟩ (nw_X11_isName l D c o σ p0 hR hN h0) zc11 zV_X11_183 rfl zd_X11_isName ⟨Nat.le_of_ble_eq_true rfl, Nat.le_of_ble_eq_true rfl⟩ hK hP hS rfl (by decide) hl.1 rfl (Nat.le_of_ble_eq_true rfl) ⟨Nat.zero_le _, Nat.zero_le _⟩ dX11_weigh_2 (fun r1 σ2 H locs hw3 hP hS => ?_)
  obtain ⟨rfl, rfl⟩ := hw3
  refine lv_if_eq (pc := 5) (tgt := 18) hx hb dX11_weigh_5 (by decide) (fun _ => ?_) (fun c4 => absurd c4 (by decide))
  refine lv_bipush (pc := 18) (v := (-2)) hx hb dX11_weigh_18 (by decide) ?_
  exact zreti (pc := 20) hx hb hr hlocks hP hK hS ⟨rfl, rfl⟩ dX11_weigh_20

set_option maxHeartbeats 4000000 in
set_option maxRecDepth 100000 in
theorem nw_X11_weighs (l : Launch) (D : va_G) (c : zC) (o : Nat) (σ : zS) (p0 : Int32) (p1 : Int32) (hR : zRef o σ.2.2) (hN : σ.2.2 0 4 = o + 2) (h0 : σ.1 2 0 = 0) : Met l yX11_weighs zs_X11_weighs (zr 3) (va_Pc [.ref (o + 0), .int p0, .int p1] (zQ D c o σ)) (va_Qi (fun (r : Int32) (σ1 : zS) => r = (-2) ∧ σ = σ1) (zQ D c o) (zA o)) 0 0 (zA o) := by
  refine zMet (by decide) (Nat.le_of_ble_eq_true rfl) ?_
  intro p e s m below meth cd ⟨hx, hb, hr, hml, hown, hts, hlocks⟩ hP hK ls hl
  have hS : va_S (zA o) s.heap s.heap [] := va_S.rf
  have hl : lv_has ls 3 [(0, .ref (o + 0)), (1, .int p0), (2, .int p1)] := hl
  refine lv_aload_n (pc := 0) hx hb dX11_weighs_0 rfl (lv_at hl 0 rfl) ?_
  refine lv_iload_n (pc := 1) hx hb dX11_weighs_1 rfl (lv_at hl 1 rfl) ?_
  refine zcallVi (pc := 2) (k := 0) (As := [.int p0]) (rest := []) ⟨hx, hb, hml, hown, hts⟩ (nw_X11_isRegister l D c o σ p0 hR hN h0) zc11 zV_X11_135 rfl zd_X11_isRegister ⟨Nat.le_of_ble_eq_true rfl, Nat.le_of_ble_eq_true rfl⟩ hK hP hS rfl (by decide) hl.1 rfl (Nat.le_of_ble_eq_true rfl) ⟨Nat.zero_le _, Nat.zero_le _⟩ dX11_weighs_2 (fun r1 σ2 H locs hw3 hP hS => ?_)
  obtain ⟨rfl, rfl⟩ := hw3
  refine lv_if_eq (pc := 5) (tgt := 17) hx hb dX11_weighs_5 (by decide) (fun _ => ?_) (fun c4 => absurd c4 (by decide))
  refine lv_bipush (pc := 17) (v := (-2)) hx hb dX11_weighs_17 (by decide) ?_
  exact zreti (pc := 19) hx hb hr hlocks hP hK hS ⟨rfl, rfl⟩ dX11_weighs_19

set_option maxHeartbeats 4000000 in
set_option maxRecDepth 100000 in
theorem nw_X11_each (l : Launch) (D : va_G) (c : zC) (o : Nat) (σ : zS) (p0 : Int32) (p1 : Int32) (hR : zRef o σ.2.2) (hN : σ.2.2 0 4 = o + 2) (h0 : σ.1 2 0 = 0) : Met l yX11_each zs_X11_each (zr 3) (va_Pc [.ref (o + 0), .int p0, .int p1] (zQ D c o σ)) (va_Qi (fun (r : Int32) (σ1 : zS) => r = (-2) ∧ σ = σ1) (zQ D c o) (zA o)) 0 0 (zA o) := by
  refine zMet (by decide) (Nat.le_of_ble_eq_true rfl) ?_
  intro p e s m below meth cd ⟨hx, hb, hr, hml, hown, hts, hlocks⟩ hP hK ls hl
  have hS : va_S (zA o) s.heap s.heap [] := va_S.rf
  have hl : lv_has ls 3 [(0, .ref (o + 0)), (1, .int p0), (2, .int p1)] := hl
  refine lv_aload_n (pc := 0) hx hb dX11_each_0 rfl (lv_at hl 0 rfl) ?_
  refine lv_iload_n (pc := 1) hx hb dX11_each_1 rfl (lv_at hl 1 rfl) ?_
  refine zcallVi (pc := 2) (k := 0) (As := [.int p0]) (rest := []) ⟨hx, hb, hml, hown, hts⟩ (nw_X11_isRegister l D c o σ p0 hR hN h0) zc11 zV_X11_135 rfl zd_X11_isRegister ⟨Nat.le_of_ble_eq_true rfl, Nat.le_of_ble_eq_true rfl⟩ hK hP hS rfl (by decide) hl.1 rfl (Nat.le_of_ble_eq_true rfl) ⟨Nat.zero_le _, Nat.zero_le _⟩ dX11_each_2 (fun r1 σ2 H locs hw3 hP hS => ?_)
  obtain ⟨rfl, rfl⟩ := hw3
  refine lv_if_eq (pc := 5) (tgt := 16) hx hb dX11_each_5 (by decide) (fun _ => ?_) (fun c4 => absurd c4 (by decide))
  refine lv_bipush (pc := 16) (v := (-2)) hx hb dX11_each_16 (by decide) ?_
  exact zreti (pc := 18) hx hb hr hlocks hP hK hS ⟨rfl, rfl⟩ dX11_each_18

set_option maxHeartbeats 4000000 in
set_option maxRecDepth 100000 in
theorem nw_X11_names (l : Launch) (D : va_G) (c : zC) (o : Nat) (σ : zS) (p0 : Int32) (p1 : Int32) (hR : zRef o σ.2.2) (hN : σ.2.2 0 4 = o + 2) (h0 : σ.1 2 0 = 0) : Met l yX11_names zs_X11_names (zr 3) (va_Pc [.ref (o + 0), .int p0, .int p1] (zQ D c o σ)) (va_Qi (fun (r : Int32) (σ1 : zS) => r = (-2) ∧ σ = σ1) (zQ D c o) (zA o)) 0 0 (zA o) := by
  refine zMet (by decide) (Nat.le_of_ble_eq_true rfl) ?_
  intro p e s m below meth cd ⟨hx, hb, hr, hml, hown, hts, hlocks⟩ hP hK ls hl
  have hS : va_S (zA o) s.heap s.heap [] := va_S.rf
  have hl : lv_has ls 6 [(0, .ref (o + 0)), (1, .int p0), (2, .int p1)] := hl
  refine lv_aload_n (pc := 0) hx hb dX11_names_0 rfl (lv_at hl 0 rfl) ?_
  refine lv_iload_n (pc := 1) hx hb dX11_names_1 rfl (lv_at hl 1 rfl) ?_
  refine zcallVi (pc := 2) (k := 0) (As := [.int p0]) (rest := []) ⟨hx, hb, hml, hown, hts⟩ (nw_X11_isRegister l D c o σ p0 hR hN h0) zc11 zV_X11_135 rfl zd_X11_isRegister ⟨Nat.le_of_ble_eq_true rfl, Nat.le_of_ble_eq_true rfl⟩ hK hP hS rfl (by decide) hl.1 rfl (Nat.le_of_ble_eq_true rfl) ⟨Nat.zero_le _, Nat.zero_le _⟩ dX11_names_2 (fun r1 σ2 H locs hw3 hP hS => ?_)
  obtain ⟨rfl, rfl⟩ := hw3
  refine lv_if_eq (pc := 5) (tgt := 17) hx hb dX11_names_5 (by decide) (fun _ => ?_) (fun c4 => absurd c4 (by decide))
  refine lv_bipush (pc := 17) (v := (-2)) hx hb dX11_names_17 (by decide) ?_
  exact zreti (pc := 19) hx hb hr hlocks hP hK hS ⟨rfl, rfl⟩ dX11_names_19

set_option maxHeartbeats 4000000 in
set_option maxRecDepth 100000 in
theorem nw_X11_draw (l : Launch) (D : va_G) (c : zC) (o : Nat) (σ : zS) (p0 : Int32) (p1 : Int32) (hR : zRef o σ.2.2) (hN : σ.2.2 0 4 = o + 2) (h0 : σ.1 2 0 = 0) : Met l yX11_draw zs_X11_draw (zr 3) (va_Pc [.ref (o + 0), .int p0, .int p1] (zQ D c o σ)) (va_Qi (fun (r : Int32) (σ1 : zS) => r = (-2) ∧ σ = σ1) (zQ D c o) (zA o)) 0 0 (zA o) := by
  refine zMet (by decide) (Nat.le_of_ble_eq_true rfl) ?_
  intro p e s m below meth cd ⟨hx, hb, hr, hml, hown, hts, hlocks⟩ hP hK ls hl
  have hS : va_S (zA o) s.heap s.heap [] := va_S.rf
  have hl : lv_has ls 6 [(0, .ref (o + 0)), (1, .int p0), (2, .int p1)] := hl
  refine lv_aload_n (pc := 0) hx hb dX11_draw_0 rfl (lv_at hl 0 rfl) ?_
  refine lv_iload_n (pc := 1) hx hb dX11_draw_1 rfl (lv_at hl 1 rfl) ?_
  refine zcallVi (pc := 2) (k := 0) (As := [.int p0]) (rest := []) ⟨hx, hb, hml, hown, hts⟩ (nw_X11_isRegister l D c o σ p0 hR hN h0) zc11 zV_X11_135 rfl zd_X11_isRegister ⟨Nat.le_of_ble_eq_true rfl, Nat.le_of_ble_eq_true rfl⟩ hK hP hS rfl (by decide) hl.1 rfl (Nat.le_of_ble_eq_true rfl) ⟨Nat.zero_le _, Nat.zero_le _⟩ dX11_draw_2 (fun r1 σ2 H locs hw3 hP hS => ?_)
  obtain ⟨rfl, rfl⟩ := hw3
  refine lv_if_eq (pc := 5) (tgt := 18) hx hb dX11_draw_5 (by decide) (fun _ => ?_) (fun c4 => absurd c4 (by decide))
  refine lv_bipush (pc := 18) (v := (-2)) hx hb dX11_draw_18 (by decide) ?_
  exact zreti (pc := 20) hx hb hr hlocks hP hK hS ⟨rfl, rfl⟩ dX11_draw_20

set_option maxHeartbeats 4000000 in
set_option maxRecDepth 100000 in
theorem nw_X11_alike (l : Launch) (D : va_G) (c : zC) (o : Nat) (σ : zS) (p0 : Int32) (p1 : Int32) (hR : zRef o σ.2.2) (hN : σ.2.2 0 4 = o + 2) (h0 : σ.1 2 0 = 0) : Met l yX11_alike zs_X11_alike (zr 3) (va_Pc [.ref (o + 0), .int p0, .int p1] (zQ D c o σ)) (va_Qi (fun (r : Int32) (σ1 : zS) => r = (-2) ∧ σ = σ1) (zQ D c o) (zA o)) 0 0 (zA o) := by
  refine zMet (by decide) (Nat.le_of_ble_eq_true rfl) ?_
  intro p e s m below meth cd ⟨hx, hb, hr, hml, hown, hts, hlocks⟩ hP hK ls hl
  have hS : va_S (zA o) s.heap s.heap [] := va_S.rf
  have hl : lv_has ls 3 [(0, .ref (o + 0)), (1, .int p0), (2, .int p1)] := hl
  refine lv_aload_n (pc := 0) hx hb dX11_alike_0 rfl (lv_at hl 0 rfl) ?_
  refine lv_iload_n (pc := 1) hx hb dX11_alike_1 rfl (lv_at hl 1 rfl) ?_
  refine zcallVi (pc := 2) (k := 0) (As := [.int p0]) (rest := []) ⟨hx, hb, hml, hown, hts⟩ (nw_X11_isRegister l D c o σ p0 hR hN h0) zc11 zV_X11_135 rfl zd_X11_isRegister ⟨Nat.le_of_ble_eq_true rfl, Nat.le_of_ble_eq_true rfl⟩ hK hP hS rfl (by decide) hl.1 rfl (Nat.le_of_ble_eq_true rfl) ⟨Nat.zero_le _, Nat.zero_le _⟩ dX11_alike_2 (fun r1 σ2 H locs hw3 hP hS => ?_)
  obtain ⟨rfl, rfl⟩ := hw3
  refine lv_if_eq (pc := 5) (tgt := 16) hx hb dX11_alike_5 (by decide) (fun _ => ?_) (fun c4 => absurd c4 (by decide))
  refine lv_bipush (pc := 16) (v := (-2)) hx hb dX11_alike_16 (by decide) ?_
  exact zreti (pc := 18) hx hb hr hlocks hP hK hS ⟨rfl, rfl⟩ dX11_alike_18

set_option maxHeartbeats 4000000 in
set_option maxRecDepth 100000 in
theorem nw_X11_differ (l : Launch) (D : va_G) (c : zC) (o : Nat) (σ : zS) (p0 : Int32) (p1 : Int32) (hR : zRef o σ.2.2) (hN : σ.2.2 0 4 = o + 2) (h0 : σ.1 2 0 = 0) : Met l yX11_differ zs_X11_differ (zr 3) (va_Pc [.ref (o + 0), .int p0, .int p1] (zQ D c o σ)) (va_Qi (fun (r : Int32) (σ1 : zS) => r = (-2) ∧ σ = σ1) (zQ D c o) (zA o)) 0 0 (zA o) := by
  refine zMet (by decide) (Nat.le_of_ble_eq_true rfl) ?_
  intro p e s m below meth cd ⟨hx, hb, hr, hml, hown, hts, hlocks⟩ hP hK ls hl
  have hS : va_S (zA o) s.heap s.heap [] := va_S.rf
  have hl : lv_has ls 3 [(0, .ref (o + 0)), (1, .int p0), (2, .int p1)] := hl
  refine lv_aload_n (pc := 0) hx hb dX11_differ_0 rfl (lv_at hl 0 rfl) ?_
  refine lv_iload_n (pc := 1) hx hb dX11_differ_1 rfl (lv_at hl 1 rfl) ?_
  refine zcallVi (pc := 2) (k := 0) (As := [.int p0]) (rest := []) ⟨hx, hb, hml, hown, hts⟩ (nw_X11_isRegister l D c o σ p0 hR hN h0) zc11 zV_X11_135 rfl zd_X11_isRegister ⟨Nat.le_of_ble_eq_true rfl, Nat.le_of_ble_eq_true rfl⟩ hK hP hS rfl (by decide) hl.1 rfl (Nat.le_of_ble_eq_true rfl) ⟨Nat.zero_le _, Nat.zero_le _⟩ dX11_differ_2 (fun r1 σ2 H locs hw3 hP hS => ?_)
  obtain ⟨rfl, rfl⟩ := hw3
  refine lv_if_eq (pc := 5) (tgt := 16) hx hb dX11_differ_5 (by decide) (fun _ => ?_) (fun c4 => absurd c4 (by decide))
  refine lv_bipush (pc := 16) (v := (-2)) hx hb dX11_differ_16 (by decide) ?_
  exact zreti (pc := 18) hx hb hr hlocks hP hK hS ⟨rfl, rfl⟩ dX11_differ_18

set_option maxHeartbeats 4000000 in
set_option maxRecDepth 100000 in
theorem nw_X11_within (l : Launch) (D : va_G) (c : zC) (o : Nat) (σ : zS) (p0 : Int32) (p1 : Int32) (hR : zRef o σ.2.2) (hN : σ.2.2 0 4 = o + 2) (h0 : σ.1 2 0 = 0) : Met l yX11_within zs_X11_within (zr 3) (va_Pc [.ref (o + 0), .int p0, .int p1] (zQ D c o σ)) (va_Qi (fun (r : Int32) (σ1 : zS) => r = (-2) ∧ σ = σ1) (zQ D c o) (zA o)) 0 0 (zA o) := by
  refine zMet (by decide) (Nat.le_of_ble_eq_true rfl) ?_
  intro p e s m below meth cd ⟨hx, hb, hr, hml, hown, hts, hlocks⟩ hP hK ls hl
  have hS : va_S (zA o) s.heap s.heap [] := va_S.rf
  have hl : lv_has ls 3 [(0, .ref (o + 0)), (1, .int p0), (2, .int p1)] := hl
  refine lv_aload_n (pc := 0) hx hb dX11_within_0 rfl (lv_at hl 0 rfl) ?_
  refine lv_iload_n (pc := 1) hx hb dX11_within_1 rfl (lv_at hl 1 rfl) ?_
  refine zcallVi (pc := 2) (k := 0) (As := [.int p0]) (rest := []) ⟨hx, hb, hml, hown, hts⟩ (nw_X11_isRegister l D c o σ p0 hR hN h0) zc11 zV_X11_135 rfl zd_X11_isRegister ⟨Nat.le_of_ble_eq_true rfl, Nat.le_of_ble_eq_true rfl⟩ hK hP hS rfl (by decide) hl.1 rfl (Nat.le_of_ble_eq_true rfl) ⟨Nat.zero_le _, Nat.zero_le _⟩ dX11_within_2 (fun r1 σ2 H locs hw3 hP hS => ?_)
  obtain ⟨rfl, rfl⟩ := hw3
  refine lv_if_eq (pc := 5) (tgt := 16) hx hb dX11_within_5 (by decide) (fun _ => ?_) (fun c4 => absurd c4 (by decide))
  refine lv_bipush (pc := 16) (v := (-2)) hx hb dX11_within_16 (by decide) ?_
  exact zreti (pc := 18) hx hb hr hlocks hP hK hS ⟨rfl, rfl⟩ dX11_within_18

set_option maxHeartbeats 4000000 in
set_option maxRecDepth 100000 in
theorem nw_X11_dual (l : Launch) (D : va_G) (c : zC) (o : Nat) (σ : zS) (p0 : Int32) (p1 : Int32) (hR : zRef o σ.2.2) (hN : σ.2.2 0 4 = o + 2) (h0 : σ.1 2 0 = 0) : Met l yX11_dual zs_X11_dual (zr 3) (va_Pc [.ref (o + 0), .int p0, .int p1] (zQ D c o σ)) (va_Qi (fun (r : Int32) (σ1 : zS) => r = (-2) ∧ σ = σ1) (zQ D c o) (zA o)) 0 0 (zA o) := by
  refine zMet (by decide) (Nat.le_of_ble_eq_true rfl) ?_
  intro p e s m below meth cd ⟨hx, hb, hr, hml, hown, hts, hlocks⟩ hP hK ls hl
  have hS : va_S (zA o) s.heap s.heap [] := va_S.rf
  have hl : lv_has ls 3 [(0, .ref (o + 0)), (1, .int p0), (2, .int p1)] := hl
  refine lv_aload_n (pc := 0) hx hb dX11_dual_0 rfl (lv_at hl 0 rfl) ?_
  refine lv_iload_n (pc := 1) hx hb dX11_dual_1 rfl (lv_at hl 1 rfl) ?_
  refine zcallVi (pc := 2) (k := 0) (As := [.int p0]) (rest := []) ⟨hx, hb, hml, hown, hts⟩ (nw_X11_isRegister l D c o σ p0 hR hN h0) zc11 zV_X11_135 rfl zd_X11_isRegister ⟨Nat.le_of_ble_eq_true rfl, Nat.le_of_ble_eq_true rfl⟩ hK hP hS rfl (by decide) hl.1 rfl (Nat.le_of_ble_eq_true rfl) ⟨Nat.zero_le _, Nat.zero_le _⟩ dX11_dual_2 (fun r1 σ2 H locs hw3 hP hS => ?_)
  obtain ⟨rfl, rfl⟩ := hw3
  refine lv_if_eq (pc := 5) (tgt := 16) hx hb dX11_dual_5 (by decide) (fun _ => ?_) (fun c4 => absurd c4 (by decide))
  refine lv_bipush (pc := 16) (v := (-2)) hx hb dX11_dual_16 (by decide) ?_
  exact zreti (pc := 18) hx hb hr hlocks hP hK hS ⟨rfl, rfl⟩ dX11_dual_18

set_option maxHeartbeats 4000000 in
set_option maxRecDepth 100000 in
theorem nw_X11_apart (l : Launch) (D : va_G) (c : zC) (o : Nat) (σ : zS) (p0 : Int32) (p1 : Int32) (hR : zRef o σ.2.2) (hN : σ.2.2 0 4 = o + 2) (h0 : σ.1 2 0 = 0) : Met l yX11_apart zs_X11_apart (zr 3) (va_Pc [.ref (o + 0), .int p0, .int p1] (zQ D c o σ)) (va_Qi (fun (r : Int32) (σ1 : zS) => r = (-2) ∧ σ = σ1) (zQ D c o) (zA o)) 0 0 (zA o) := by
  refine zMet (by decide) (Nat.le_of_ble_eq_true rfl) ?_
  intro p e s m below meth cd ⟨hx, hb, hr, hml, hown, hts, hlocks⟩ hP hK ls hl
  have hS : va_S (zA o) s.heap s.heap [] := va_S.rf
  have hl : lv_has ls 3 [(0, .ref (o + 0)), (1, .int p0), (2, .int p1)] := hl
  refine lv_aload_n (pc := 0) hx hb dX11_apart_0 rfl (lv_at hl 0 rfl) ?_
  refine lv_iload_n (pc := 1) hx hb dX11_apart_1 rfl (lv_at hl 1 rfl) ?_
  refine zcallVi (pc := 2) (k := 0) (As := [.int p0]) (rest := []) ⟨hx, hb, hml, hown, hts⟩ (nw_X11_isRegister l D c o σ p0 hR hN h0) zc11 zV_X11_135 rfl zd_X11_isRegister ⟨Nat.le_of_ble_eq_true rfl, Nat.le_of_ble_eq_true rfl⟩ hK hP hS rfl (by decide) hl.1 rfl (Nat.le_of_ble_eq_true rfl) ⟨Nat.zero_le _, Nat.zero_le _⟩ dX11_apart_2 (fun r1 σ2 H locs hw3 hP hS => ?_)
  obtain ⟨rfl, rfl⟩ := hw3
  refine lv_if_eq (pc := 5) (tgt := 16) hx hb dX11_apart_5 (by decide) (fun _ => ?_) (fun c4 => absurd c4 (by decide))
  refine lv_bipush (pc := 16) (v := (-2)) hx hb dX11_apart_16 (by decide) ?_
  exact zreti (pc := 18) hx hb hr hlocks hP hK hS ⟨rfl, rfl⟩ dX11_apart_18

set_option maxHeartbeats 4000000 in
set_option maxRecDepth 100000 in
theorem nw_X11_packs (l : Launch) (D : va_G) (c : zC) (o : Nat) (σ : zS) (p0 : Int32) (p1 : Int32) (hR : zRef o σ.2.2) (hN : σ.2.2 0 4 = o + 2) (h0 : σ.1 2 0 = 0) : Met l yX11_packs zs_X11_packs (zr 3) (va_Pc [.ref (o + 0), .int p0, .int p1] (zQ D c o σ)) (va_Qi (fun (r : Int32) (σ1 : zS) => r = (-2) ∧ σ = σ1) (zQ D c o) (zA o)) 0 0 (zA o) := by
  refine zMet (by decide) (Nat.le_of_ble_eq_true rfl) ?_
  intro p e s m below meth cd ⟨hx, hb, hr, hml, hown, hts, hlocks⟩ hP hK ls hl
  have hS : va_S (zA o) s.heap s.heap [] := va_S.rf
  have hl : lv_has ls 5 [(0, .ref (o + 0)), (1, .int p0), (2, .int p1)] := hl
  refine lv_aload_n (pc := 0) hx hb dX11_packs_0 rfl (lv_at hl 0 rfl) ?_
  refine lv_iload_n (pc := 1) hx hb dX11_packs_1 rfl (lv_at hl 1 rfl) ?_
  refine zcallVi (pc := 2) (k := 0) (As := [.int p0]) (rest := []) ⟨hx, hb, hml, hown, hts⟩ (nw_X11_isRegister l D c o σ p0 hR hN h0) zc11 zV_X11_135 rfl zd_X11_isRegister ⟨Nat.le_of_ble_eq_true rfl, Nat.le_of_ble_eq_true rfl⟩ hK hP hS rfl (by decide) hl.1 rfl (Nat.le_of_ble_eq_true rfl) ⟨Nat.zero_le _, Nat.zero_le _⟩ dX11_packs_2 (fun r1 σ2 H locs hw3 hP hS => ?_)
  obtain ⟨rfl, rfl⟩ := hw3
  refine lv_if_eq (pc := 5) (tgt := 17) hx hb dX11_packs_5 (by decide) (fun _ => ?_) (fun c4 => absurd c4 (by decide))
  refine lv_bipush (pc := 17) (v := (-2)) hx hb dX11_packs_17 (by decide) ?_
  exact zreti (pc := 19) hx hb hr hlocks hP hK hS ⟨rfl, rfl⟩ dX11_packs_19

set_option maxHeartbeats 4000000 in
set_option maxRecDepth 100000 in
theorem nw_X11_nodes (l : Launch) (D : va_G) (c : zC) (o : Nat) (σ : zS) (p0 : Int32) (hR : zRef o σ.2.2) (hN : σ.2.2 0 4 = o + 2) (h0 : σ.1 2 0 = 0) : Met l yX11_nodes zs_X11_nodes (zr 3) (va_Pc [.ref (o + 0), .int p0] (zQ D c o σ)) (va_Qi (fun (r : Int32) (σ1 : zS) => r = (-2) ∧ σ = σ1) (zQ D c o) (zA o)) 0 0 (zA o) := by
  refine zMet (by decide) (Nat.le_of_ble_eq_true rfl) ?_
  intro p e s m below meth cd ⟨hx, hb, hr, hml, hown, hts, hlocks⟩ hP hK ls hl
  have hS : va_S (zA o) s.heap s.heap [] := va_S.rf
  have hl : lv_has ls 2 [(0, .ref (o + 0)), (1, .int p0)] := hl
  refine lv_aload_n (pc := 0) hx hb dX11_nodes_0 rfl (lv_at hl 0 rfl) ?_
  refine lv_iload_n (pc := 1) hx hb dX11_nodes_1 rfl (lv_at hl 1 rfl) ?_
  refine zcallVi (pc := 2) (k := 0) (As := [.int p0]) (rest := []) ⟨hx, hb, hml, hown, hts⟩ (nw_X11_isRegister l D c o σ p0 hR hN h0) zc11 zV_X11_135 rfl zd_X11_isRegister ⟨Nat.le_of_ble_eq_true rfl, Nat.le_of_ble_eq_true rfl⟩ hK hP hS rfl (by decide) hl.1 rfl (Nat.le_of_ble_eq_true rfl) ⟨Nat.zero_le _, Nat.zero_le _⟩ dX11_nodes_2 (fun r1 σ2 H locs hw3 hP hS => ?_)
  obtain ⟨rfl, rfl⟩ := hw3
  refine lv_if_eq (pc := 5) (tgt := 31) hx hb dX11_nodes_5 (by decide) (fun _ => ?_) (fun c4 => absurd c4 (by decide))
  refine lv_bipush (pc := 31) (v := (-2)) hx hb dX11_nodes_31 (by decide) ?_
  exact zreti (pc := 33) hx hb hr hlocks hP hK hS ⟨rfl, rfl⟩ dX11_nodes_33

set_option maxHeartbeats 4000000 in
set_option maxRecDepth 100000 in
theorem nw_X11_net (l : Launch) (D : va_G) (c : zC) (o : Nat) (σ : zS) (hR : zRef o σ.2.2) (hN : σ.2.2 0 4 = o + 2) (h0 : σ.1 2 0 = 0) : Met l yX11_net zs_X11_net (zr 3) (va_Pc [.ref (o + 0)] (zQ D c o σ)) (va_Qi (fun (r : Int32) (σ1 : zS) => r = (-2) ∧ σ = σ1) (zQ D c o) (zA o)) 0 0 (zA o) := by
  refine zMet (by decide) (Nat.le_of_ble_eq_true rfl) ?_
  intro p e s m below meth cd ⟨hx, hb, hr, hml, hown, hts, hlocks⟩ hP hK ls hl
  have hS : va_S (zA o) s.heap s.heap [] := va_S.rf
  have hl : lv_has ls 1 [(0, .ref (o + 0))] := hl
  refine lv_aload_n (pc := 0) hx hb dX11_net_0 rfl (lv_at hl 0 rfl) ?_
  refine zcallVi (pc := 1) (k := 0) (As := []) (rest := []) ⟨hx, hb, hml, hown, hts⟩ (nw_X11_isWorld l D c o σ hR hN h0) zc11 zV_X11_260 rfl zd_X11_isWorld ⟨Nat.le_of_ble_eq_true rfl, Nat.le_of_ble_eq_true rfl⟩ hK hP hS rfl (by decide) hl.1 rfl (Nat.le_of_ble_eq_true rfl) ⟨Nat.zero_le _, Nat.zero_le _⟩ dX11_net_1 (fun r1 σ2 H locs hw3 hP hS => ?_)
  obtain ⟨rfl, rfl⟩ := hw3
  refine lv_if_eq (pc := 4) (tgt := 21) hx hb dX11_net_4 (by decide) (fun _ => ?_) (fun c4 => absurd c4 (by decide))
  refine lv_bipush (pc := 21) (v := (-2)) hx hb dX11_net_21 (by decide) ?_
  exact zreti (pc := 23) hx hb hr hlocks hP hK hS ⟨rfl, rfl⟩ dX11_net_23

set_option maxHeartbeats 4000000 in
set_option maxRecDepth 100000 in
theorem nw_X11_wide (l : Launch) (D : va_G) (c : zC) (o : Nat) (σ : zS) (p0 : Int32) (p1 : Int32) (hR : zRef o σ.2.2) (hN : σ.2.2 0 4 = o + 2) (h0 : σ.1 2 0 = 0) : Met l yX11_wide zs_X11_wide (zr 3) (va_Pc [.ref (o + 0), .int p0, .int p1] (zQ D c o σ)) (va_Qi (fun (r : Int32) (σ1 : zS) => r = (-2) ∧ σ = σ1) (zQ D c o) (zA o)) 0 0 (zA o) := by
  refine zMet (by decide) (Nat.le_of_ble_eq_true rfl) ?_
  intro p e s m below meth cd ⟨hx, hb, hr, hml, hown, hts, hlocks⟩ hP hK ls hl
  have hS : va_S (zA o) s.heap s.heap [] := va_S.rf
  have hl : lv_has ls 3 [(0, .ref (o + 0)), (1, .int p0), (2, .int p1)] := hl
  refine lv_aload_n (pc := 0) hx hb dX11_wide_0 rfl (lv_at hl 0 rfl) ?_
  refine lv_iload_n (pc := 1) hx hb dX11_wide_1 rfl (lv_at hl 1 rfl) ?_
  refine zcallVi (pc := 2) (k := 0) (As := [.int p0]) (rest := []) ⟨hx, hb, hml, hown, hts⟩ (nw_X11_isRegister l D c o σ p0 hR hN h0) zc11 zV_X11_135 rfl zd_X11_isRegister ⟨Nat.le_of_ble_eq_true rfl, Nat.le_of_ble_eq_true rfl⟩ hK hP hS rfl (by decide) hl.1 rfl (Nat.le_of_ble_eq_true rfl) ⟨Nat.zero_le _, Nat.zero_le _⟩ dX11_wide_2 (fun r1 σ2 H locs hw3 hP hS => ?_)
  obtain ⟨rfl, rfl⟩ := hw3
  refine lv_if_eq (pc := 5) (tgt := 16) hx hb dX11_wide_5 (by decide) (fun _ => ?_) (fun c4 => absurd c4 (by decide))
  refine lv_bipush (pc := 16) (v := (-2)) hx hb dX11_wide_16 (by decide) ?_
  exact zreti (pc := 18) hx hb hr hlocks hP hK hS ⟨rfl, rfl⟩ dX11_wide_18

set_option maxHeartbeats 4000000 in
set_option maxRecDepth 100000 in
theorem nw_X11_order (l : Launch) (D : va_G) (c : zC) (o : Nat) (σ : zS) (p0 : Int32) (hR : zRef o σ.2.2) (hN : σ.2.2 0 4 = o + 2) (h0 : σ.1 2 0 = 0) : Met l yX11_order zs_X11_order (zr 3) (va_Pc [.ref (o + 0), .int p0] (zQ D c o σ)) (va_Qi (fun (r : Int32) (σ1 : zS) => r = (-2) ∧ σ = σ1) (zQ D c o) (zA o)) 0 0 (zA o) := by
  refine zMet (by decide) (Nat.le_of_ble_eq_true rfl) ?_
  intro p e s m below meth cd ⟨hx, hb, hr, hml, hown, hts, hlocks⟩ hP hK ls hl
  have hS : va_S (zA o) s.heap s.heap [] := va_S.rf
  have hl : lv_has ls 2 [(0, .ref (o + 0)), (1, .int p0)] := hl
  refine lv_aload_n (pc := 0) hx hb dX11_order_0 rfl (lv_at hl 0 rfl) ?_
  refine lv_iload_n (pc := 1) hx hb dX11_order_1 rfl (lv_at hl 1 rfl) ?_
  refine zcallVi (pc := 2) (k := 0) (As := [.int p0]) (rest := []) ⟨hx, hb, hml, hown, hts⟩ (nw_X11_isName l D c o σ p0 hR hN h0) zc11 zV_X11_183 rfl zd_X11_isName ⟨Nat.le_of_ble_eq_true rfl, Nat.le_of_ble_eq_true rfl⟩ hK hP hS rfl (by decide) hl.1 rfl (Nat.le_of_ble_eq_true rfl) ⟨Nat.zero_le _, Nat.zero_le _⟩ dX11_order_2 (fun r1 σ2 H locs hw3 hP hS => ?_)
  obtain ⟨rfl, rfl⟩ := hw3
  refine lv_if_eq (pc := 5) (tgt := 20) hx hb dX11_order_5 (by decide) (fun _ => ?_) (fun c4 => absurd c4 (by decide))
  refine lv_bipush (pc := 20) (v := (-2)) hx hb dX11_order_20 (by decide) ?_
  exact zreti (pc := 22) hx hb hr hlocks hP hK hS ⟨rfl, rfl⟩ dX11_order_22

set_option maxHeartbeats 4000000 in
set_option maxRecDepth 100000 in
theorem nw_X11_swap (l : Launch) (D : va_G) (c : zC) (o : Nat) (σ : zS) (p0 : Int32) (hR : zRef o σ.2.2) (hN : σ.2.2 0 4 = o + 2) (h0 : σ.1 2 0 = 0) : Met l yX11_swap zs_X11_swap (zr 3) (va_Pc [.ref (o + 0), .int p0] (zQ D c o σ)) (va_Qi (fun (r : Int32) (σ1 : zS) => r = (-2) ∧ σ = σ1) (zQ D c o) (zA o)) 0 0 (zA o) := by
  refine zMet (by decide) (Nat.le_of_ble_eq_true rfl) ?_
  intro p e s m below meth cd ⟨hx, hb, hr, hml, hown, hts, hlocks⟩ hP hK ls hl
  have hS : va_S (zA o) s.heap s.heap [] := va_S.rf
  have hl : lv_has ls 2 [(0, .ref (o + 0)), (1, .int p0)] := hl
  refine lv_aload_n (pc := 0) hx hb dX11_swap_0 rfl (lv_at hl 0 rfl) ?_
  refine lv_iload_n (pc := 1) hx hb dX11_swap_1 rfl (lv_at hl 1 rfl) ?_
  refine zcallVi (pc := 2) (k := 0) (As := [.int p0]) (rest := []) ⟨hx, hb, hml, hown, hts⟩ (nw_X11_isName l D c o σ p0 hR hN h0) zc11 zV_X11_183 rfl zd_X11_isName ⟨Nat.le_of_ble_eq_true rfl, Nat.le_of_ble_eq_true rfl⟩ hK hP hS rfl (by decide) hl.1 rfl (Nat.le_of_ble_eq_true rfl) ⟨Nat.zero_le _, Nat.zero_le _⟩ dX11_swap_2 (fun r1 σ2 H locs hw3 hP hS => ?_)
  obtain ⟨rfl, rfl⟩ := hw3
  refine lv_if_eq (pc := 5) (tgt := 21) hx hb dX11_swap_5 (by decide) (fun _ => ?_) (fun c4 => absurd c4 (by decide))
  refine lv_bipush (pc := 21) (v := (-2)) hx hb dX11_swap_21 (by decide) ?_
  exact zreti (pc := 23) hx hb hr hlocks hP hK hS ⟨rfl, rfl⟩ dX11_swap_23

set_option maxHeartbeats 4000000 in
set_option maxRecDepth 100000 in
theorem nw_X11_move (l : Launch) (D : va_G) (c : zC) (o : Nat) (σ : zS) (p0 : Int32) (p1 : Int32) (hR : zRef o σ.2.2) (hN : σ.2.2 0 4 = o + 2) (h0 : σ.1 2 0 = 0) : Met l yX11_move zs_X11_move (zr 3) (va_Pc [.ref (o + 0), .int p0, .int p1] (zQ D c o σ)) (va_Qi (fun (r : Int32) (σ1 : zS) => r = (-2) ∧ σ = σ1) (zQ D c o) (zA o)) 0 0 (zA o) := by
  refine zMet (by decide) (Nat.le_of_ble_eq_true rfl) ?_
  intro p e s m below meth cd ⟨hx, hb, hr, hml, hown, hts, hlocks⟩ hP hK ls hl
  have hS : va_S (zA o) s.heap s.heap [] := va_S.rf
  have hl : lv_has ls 3 [(0, .ref (o + 0)), (1, .int p0), (2, .int p1)] := hl
  refine lv_aload_n (pc := 0) hx hb dX11_move_0 rfl (lv_at hl 0 rfl) ?_
  refine lv_iload_n (pc := 1) hx hb dX11_move_1 rfl (lv_at hl 1 rfl) ?_
  refine zcallVi (pc := 2) (k := 0) (As := [.int p0]) (rest := []) ⟨hx, hb, hml, hown, hts⟩ (nw_X11_isName l D c o σ p0 hR hN h0) zc11 zV_X11_183 rfl zd_X11_isName ⟨Nat.le_of_ble_eq_true rfl, Nat.le_of_ble_eq_true rfl⟩ hK hP hS rfl (by decide) hl.1 rfl (Nat.le_of_ble_eq_true rfl) ⟨Nat.zero_le _, Nat.zero_le _⟩ dX11_move_2 (fun r1 σ2 H locs hw3 hP hS => ?_)
  obtain ⟨rfl, rfl⟩ := hw3
  refine lv_if_eq (pc := 5) (tgt := 16) hx hb dX11_move_5 (by decide) (fun _ => ?_) (fun c4 => absurd c4 (by decide))
  refine lv_bipush (pc := 16) (v := (-2)) hx hb dX11_move_16 (by decide) ?_
  exact zreti (pc := 18) hx hb hr hlocks hP hK hS ⟨rfl, rfl⟩ dX11_move_18

set_option maxHeartbeats 4000000 in
set_option maxRecDepth 100000 in
theorem nw_X11_best (l : Launch) (D : va_G) (c : zC) (o : Nat) (σ : zS) (p0 : Int32) (p1 : Int32) (hR : zRef o σ.2.2) (hN : σ.2.2 0 4 = o + 2) (h0 : σ.1 2 0 = 0) : Met l yX11_best zs_X11_best (zr 3) (va_Pc [.ref (o + 0), .int p0, .int p1] (zQ D c o σ)) (va_Qi (fun (r : Int32) (σ1 : zS) => r = (-2) ∧ σ = σ1) (zQ D c o) (zA o)) 0 0 (zA o) := by
  refine zMet (by decide) (Nat.le_of_ble_eq_true rfl) ?_
  intro p e s m below meth cd ⟨hx, hb, hr, hml, hown, hts, hlocks⟩ hP hK ls hl
  have hS : va_S (zA o) s.heap s.heap [] := va_S.rf
  have hl : lv_has ls 3 [(0, .ref (o + 0)), (1, .int p0), (2, .int p1)] := hl
  refine lv_aload_n (pc := 0) hx hb dX11_best_0 rfl (lv_at hl 0 rfl) ?_
  refine lv_iload_n (pc := 1) hx hb dX11_best_1 rfl (lv_at hl 1 rfl) ?_
  refine zcallVi (pc := 2) (k := 0) (As := [.int p0]) (rest := []) ⟨hx, hb, hml, hown, hts⟩ (nw_X11_isRegister l D c o σ p0 hR hN h0) zc11 zV_X11_135 rfl zd_X11_isRegister ⟨Nat.le_of_ble_eq_true rfl, Nat.le_of_ble_eq_true rfl⟩ hK hP hS rfl (by decide) hl.1 rfl (Nat.le_of_ble_eq_true rfl) ⟨Nat.zero_le _, Nat.zero_le _⟩ dX11_best_2 (fun r1 σ2 H locs hw3 hP hS => ?_)
  obtain ⟨rfl, rfl⟩ := hw3
  refine lv_if_eq (pc := 5) (tgt := 18) hx hb dX11_best_5 (by decide) (fun _ => ?_) (fun c4 => absurd c4 (by decide))
  refine lv_bipush (pc := 18) (v := (-2)) hx hb dX11_best_18 (by decide) ?_
  exact zreti (pc := 20) hx hb hr hlocks hP hK hS ⟨rfl, rfl⟩ dX11_best_20

set_option maxHeartbeats 4000000 in
set_option maxRecDepth 100000 in
theorem nw_X11_sift (l : Launch) (D : va_G) (c : zC) (o : Nat) (σ : zS) (p0 : Int32) (hR : zRef o σ.2.2) (hN : σ.2.2 0 4 = o + 2) (h0 : σ.1 2 0 = 0) : Met l yX11_sift zs_X11_sift (zr 3) (va_Pc [.ref (o + 0), .int p0] (zQ D c o σ)) (va_Qi (fun (r : Int32) (σ1 : zS) => r = (-2) ∧ σ = σ1) (zQ D c o) (zA o)) 0 0 (zA o) := by
  refine zMet (by decide) (Nat.le_of_ble_eq_true rfl) ?_
  intro p e s m below meth cd ⟨hx, hb, hr, hml, hown, hts, hlocks⟩ hP hK ls hl
  have hS : va_S (zA o) s.heap s.heap [] := va_S.rf
  have hl : lv_has ls 2 [(0, .ref (o + 0)), (1, .int p0)] := hl
  refine lv_aload_n (pc := 0) hx hb dX11_sift_0 rfl (lv_at hl 0 rfl) ?_
  refine lv_iload_n (pc := 1) hx hb dX11_sift_1 rfl (lv_at hl 1 rfl) ?_
  refine zcallVi (pc := 2) (k := 0) (As := [.int p0]) (rest := []) ⟨hx, hb, hml, hown, hts⟩ (nw_X11_isRegister l D c o σ p0 hR hN h0) zc11 zV_X11_135 rfl zd_X11_isRegister ⟨Nat.le_of_ble_eq_true rfl, Nat.le_of_ble_eq_true rfl⟩ hK hP hS rfl (by decide) hl.1 rfl (Nat.le_of_ble_eq_true rfl) ⟨Nat.zero_le _, Nat.zero_le _⟩ dX11_sift_2 (fun r1 σ2 H locs hw3 hP hS => ?_)
  obtain ⟨rfl, rfl⟩ := hw3
  refine lv_if_ne (pc := 5) (tgt := 11) hx hb dX11_sift_5 (by decide) (fun c4 => absurd c4 (by decide)) (fun _ => ?_)
  refine lv_bipush (pc := 8) (v := (-2)) hx hb dX11_sift_8 (by decide) ?_
  exact zreti (pc := 10) hx hb hr hlocks hP hK hS ⟨rfl, rfl⟩ dX11_sift_10

set_option maxHeartbeats 4000000 in
set_option maxRecDepth 100000 in
theorem nw_X11_ways (l : Launch) (D : va_G) (c : zC) (o : Nat) (σ : zS) (p0 : Int32) (p1 : Int32) (p2 : Int32) (hR : zRef o σ.2.2) (hN : σ.2.2 0 4 = o + 2) (h0 : σ.1 2 0 = 0) : Met l yX11_ways zs_X11_ways (zr 3) (va_Pc [.ref (o + 0), .int p0, .int p1, .int p2] (zQ D c o σ)) (va_Qi (fun (r : Int32) (σ1 : zS) => r = (-2) ∧ σ = σ1) (zQ D c o) (zA o)) 0 0 (zA o) := by
  refine zMet (by decide) (Nat.le_of_ble_eq_true rfl) ?_
  intro p e s m below meth cd ⟨hx, hb, hr, hml, hown, hts, hlocks⟩ hP hK ls hl
  have hS : va_S (zA o) s.heap s.heap [] := va_S.rf
  have hl : lv_has ls 4 [(0, .ref (o + 0)), (1, .int p0), (2, .int p1), (3, .int p2)] := hl
  refine lv_aload_n (pc := 0) hx hb dX11_ways_0 rfl (lv_at hl 0 rfl) ?_
  refine lv_iload_n (pc := 1) hx hb dX11_ways_1 rfl (lv_at hl 1 rfl) ?_
  refine zcallVi (pc := 2) (k := 0) (As := [.int p0]) (rest := []) ⟨hx, hb, hml, hown, hts⟩ (nw_X11_isRegister l D c o σ p0 hR hN h0) zc11 zV_X11_135 rfl zd_X11_isRegister ⟨Nat.le_of_ble_eq_true rfl, Nat.le_of_ble_eq_true rfl⟩ hK hP hS rfl (by decide) hl.1 rfl (Nat.le_of_ble_eq_true rfl) ⟨Nat.zero_le _, Nat.zero_le _⟩ dX11_ways_2 (fun r1 σ2 H locs hw3 hP hS => ?_)
  obtain ⟨rfl, rfl⟩ := hw3
  refine lv_if_eq (pc := 5) (tgt := 24) hx hb dX11_ways_5 (by decide) (fun _ => ?_) (fun c4 => absurd c4 (by decide))
  refine lv_bipush (pc := 24) (v := (-2)) hx hb dX11_ways_24 (by decide) ?_
  exact zreti (pc := 26) hx hb hr hlocks hP hK hS ⟨rfl, rfl⟩ dX11_ways_26

set_option maxHeartbeats 4000000 in
set_option maxRecDepth 100000 in
theorem nw_X11_map (l : Launch) (D : va_G) (c : zC) (o : Nat) (σ : zS) (p0 : Int32) (p1 : Int32) (hR : zRef o σ.2.2) (hN : σ.2.2 0 4 = o + 2) (h0 : σ.1 2 0 = 0) : Met l yX11_map zs_X11_map (zr 3) (va_Pc [.ref (o + 0), .int p0, .int p1] (zQ D c o σ)) (va_Qi (fun (r : Int32) (σ1 : zS) => r = (-2) ∧ σ = σ1) (zQ D c o) (zA o)) 0 0 (zA o) := by
  refine zMet (by decide) (Nat.le_of_ble_eq_true rfl) ?_
  intro p e s m below meth cd ⟨hx, hb, hr, hml, hown, hts, hlocks⟩ hP hK ls hl
  have hS : va_S (zA o) s.heap s.heap [] := va_S.rf
  have hl : lv_has ls 3 [(0, .ref (o + 0)), (1, .int p0), (2, .int p1)] := hl
  refine lv_aload_n (pc := 0) hx hb dX11_map_0 rfl (lv_at hl 0 rfl) ?_
  refine lv_iload_n (pc := 1) hx hb dX11_map_1 rfl (lv_at hl 1 rfl) ?_
  refine zcallVi (pc := 2) (k := 0) (As := [.int p0]) (rest := []) ⟨hx, hb, hml, hown, hts⟩ (nw_X11_isRegister l D c o σ p0 hR hN h0) zc11 zV_X11_135 rfl zd_X11_isRegister ⟨Nat.le_of_ble_eq_true rfl, Nat.le_of_ble_eq_true rfl⟩ hK hP hS rfl (by decide) hl.1 rfl (Nat.le_of_ble_eq_true rfl) ⟨Nat.zero_le _, Nat.zero_le _⟩ dX11_map_2 (fun r1 σ2 H locs hw3 hP hS => ?_)
  obtain ⟨rfl, rfl⟩ := hw3
  refine lv_if_eq (pc := 5) (tgt := 17) hx hb dX11_map_5 (by decide) (fun _ => ?_) (fun c4 => absurd c4 (by decide))
  refine lv_bipush (pc := 17) (v := (-2)) hx hb dX11_map_17 (by decide) ?_
  exact zreti (pc := 19) hx hb hr hlocks hP hK hS ⟨rfl, rfl⟩ dX11_map_19

set_option maxHeartbeats 4000000 in
set_option maxRecDepth 100000 in
theorem nw_X11_cuts (l : Launch) (D : va_G) (c : zC) (o : Nat) (σ : zS) (p0 : Int32) (p1 : Int32) (p2 : Int32) (hR : zRef o σ.2.2) (hN : σ.2.2 0 4 = o + 2) (h0 : σ.1 2 0 = 0) : Met l yX11_cuts zs_X11_cuts (zr 3) (va_Pc [.ref (o + 0), .int p0, .int p1, .int p2] (zQ D c o σ)) (va_Qi (fun (r : Int32) (σ1 : zS) => r = (-2) ∧ σ = σ1) (zQ D c o) (zA o)) 0 0 (zA o) := by
  refine zMet (by decide) (Nat.le_of_ble_eq_true rfl) ?_
  intro p e s m below meth cd ⟨hx, hb, hr, hml, hown, hts, hlocks⟩ hP hK ls hl
  have hS : va_S (zA o) s.heap s.heap [] := va_S.rf
  have hl : lv_has ls 4 [(0, .ref (o + 0)), (1, .int p0), (2, .int p1), (3, .int p2)] := hl
  refine lv_aload_n (pc := 0) hx hb dX11_cuts_0 rfl (lv_at hl 0 rfl) ?_
  refine lv_iload_n (pc := 1) hx hb dX11_cuts_1 rfl (lv_at hl 1 rfl) ?_
  refine zcallVi (pc := 2) (k := 0) (As := [.int p0]) (rest := []) ⟨hx, hb, hml, hown, hts⟩ (nw_X11_isRegister l D c o σ p0 hR hN h0) zc11 zV_X11_135 rfl zd_X11_isRegister ⟨Nat.le_of_ble_eq_true rfl, Nat.le_of_ble_eq_true rfl⟩ hK hP hS rfl (by decide) hl.1 rfl (Nat.le_of_ble_eq_true rfl) ⟨Nat.zero_le _, Nat.zero_le _⟩ dX11_cuts_2 (fun r1 σ2 H locs hw3 hP hS => ?_)
  obtain ⟨rfl, rfl⟩ := hw3
  refine lv_if_eq (pc := 5) (tgt := 24) hx hb dX11_cuts_5 (by decide) (fun _ => ?_) (fun c4 => absurd c4 (by decide))
  refine lv_bipush (pc := 24) (v := (-2)) hx hb dX11_cuts_24 (by decide) ?_
  exact zreti (pc := 26) hx hb hr hlocks hP hK hS ⟨rfl, rfl⟩ dX11_cuts_26

set_option maxHeartbeats 4000000 in
set_option maxRecDepth 100000 in
theorem nw_X11_takes (l : Launch) (D : va_G) (c : zC) (o : Nat) (σ : zS) (p0 : Int32) (p1 : Int32) (hR : zRef o σ.2.2) (hN : σ.2.2 0 4 = o + 2) (h0 : σ.1 2 0 = 0) : Met l yX11_takes zs_X11_takes (zr 3) (va_Pc [.ref (o + 0), .int p0, .int p1] (zQ D c o σ)) (va_Qi (fun (r : Int32) (σ1 : zS) => r = (-2) ∧ σ = σ1) (zQ D c o) (zA o)) 0 0 (zA o) := by
  refine zMet (by decide) (Nat.le_of_ble_eq_true rfl) ?_
  intro p e s m below meth cd ⟨hx, hb, hr, hml, hown, hts, hlocks⟩ hP hK ls hl
  have hS : va_S (zA o) s.heap s.heap [] := va_S.rf
  have hl : lv_has ls 7 [(0, .ref (o + 0)), (1, .int p0), (2, .int p1)] := hl
  refine lv_aload_n (pc := 0) hx hb dX11_takes_0 rfl (lv_at hl 0 rfl) ?_
  refine lv_iload_n (pc := 1) hx hb dX11_takes_1 rfl (lv_at hl 1 rfl) ?_
  refine zcallVi (pc := 2) (k := 0) (As := [.int p0]) (rest := []) ⟨hx, hb, hml, hown, hts⟩ (nw_X11_isRegister l D c o σ p0 hR hN h0) zc11 zV_X11_135 rfl zd_X11_isRegister ⟨Nat.le_of_ble_eq_true rfl, Nat.le_of_ble_eq_true rfl⟩ hK hP hS rfl (by decide) hl.1 rfl (Nat.le_of_ble_eq_true rfl) ⟨Nat.zero_le _, Nat.zero_le _⟩ dX11_takes_2 (fun r1 σ2 H locs hw3 hP hS => ?_)
  obtain ⟨rfl, rfl⟩ := hw3
  refine lv_if_eq (pc := 5) (tgt := 16) hx hb dX11_takes_5 (by decide) (fun _ => ?_) (fun c4 => absurd c4 (by decide))
  refine lv_bipush (pc := 16) (v := (-2)) hx hb dX11_takes_16 (by decide) ?_
  exact zreti (pc := 18) hx hb hr hlocks hP hK hS ⟨rfl, rfl⟩ dX11_takes_18

set_option maxHeartbeats 4000000 in
set_option maxRecDepth 100000 in
theorem cs_fill16 (l : Launch) (D : va_G) (c : zC) (o : Nat) (σ : zS) (w : Nat) (p0 : Int64) (hw : zK w = (15, 16)) (hwl : w < 243) : Met l yJ7_fill_d0a16 zs_J7_fill_d0a16 (zr 5) (va_Pc [.ref (o + w), .long p0] (zQ D c o σ)) (va_Qv (fun (σ1 : zS) => zFr [] σ σ1) (zQ D c o) (zA o)) 0 0 (zA o) := by
  refine zMet (by decide) (Nat.le_of_ble_eq_true rfl) ?_
  intro p e s m below meth cd ⟨hx, hb, hr, hml, hown, hts, hlocks⟩ hP hK ls hl
  have hS : va_S (zA o) s.heap s.heap [] := va_S.rf
  have hl : lv_has ls 5 [(0, .ref (o + w)), (1, .long p0)] := hl
  have hF : zFr [] σ σ := zFr_rf
  refine lv_iconst (pc := 0) (v := 0) hx hb dJ7_fill_d0a16_0 (by decide) ?_
  refine lv_istore_n (pc := 1) (lv' := [(3, .int 0), (0, .ref (o + w)), (1, .long p0)]) hx hb dJ7_fill_d0a16_1 rfl hl (by decide) rfl (fun ls hl => ?_)
  refine lv_aload_n (pc := 2) hx hb dJ7_fill_d0a16_2 rfl (lv_at hl 1 rfl) ?_
  refine zlenL (pc := 3) (k := w) (n := 16) (v := 16) hx hb hK hP hw hwl (by decide) dJ7_fill_d0a16_3 ?_
  refine lv_istore (pc := 4) (lv' := [(4, .int 16), (3, .int 0), (0, .ref (o + w)), (1, .long p0)]) hx hb dJ7_fill_d0a16_4 hl (by decide) rfl (fun ls hl => ?_)
  have loop_6 : ∀ (n i : Nat) (τ1 : zS) (H : Heap) (locs : List Loc) (ls : Array Slot), i ≤ 16 → 16 - i < n → (zFr [] σ τ1) → zP D c o τ1 H → va_S (zA o) s.heap H locs → lv_has ls 5 [(3, .int (nI i)), (4, .int 16), (0, .ref (o + w)), (1, .long p0)] → W p l e (zr 5) s m (([.ref (o + w), .long p0] : List Value).toArray) below meth cd H locs 0 0 (MQ below (va_Qv (fun (σ1 : zS) => zFr [] σ σ1) (zQ D c o) (zA o)) (([.ref (o + w), .long p0] : List Value).toArray) s 0 0 (zA o)) (F0 m 6 ls []) := by
    intro n
    induction n with
    | zero => intro i _ _ _ _ _ h2; exact absurd h2 (by omega)
    | succ n ih =>
      intro i τ1 H locs ls hi hn hF hP hS hl
      refine lv_iload_n (pc := 6) hx hb dJ7_fill_d0a16_6 rfl (lv_at hl 0 rfl) ?_
      refine lv_iload (pc := 7) hx hb dJ7_fill_d0a16_7 (lv_at hl 1 rfl) ?_
      refine lv_icmp_ge (pc := 9) (tgt := 22) hx hb dJ7_fill_d0a16_9 (by decide) (fun c2 => ?_) (fun c2 => ?_)
      · exact zretv (pc := 22) hx hb hr hlocks hP hK hS hF dJ7_fill_d0a16_22
      · have hlt : i < 16 := zlit (N := 16) (by omega) (by omega) (by assumption)
        refine lv_aload_n (pc := 12) hx hb dJ7_fill_d0a16_12 rfl (lv_at hl 2 rfl) ?_
        refine lv_iload_n (pc := 13) hx hb dJ7_fill_d0a16_13 rfl (lv_at hl 0 rfl) ?_
        refine lv_lload_n (pc := 14) hx hb dJ7_fill_d0a16_14 rfl (lv_at hl 3 rfl) ?_
        refine zlast (pc := 15) (k := w) (n := 16) hx hb hK hP hS hw hwl (vp_in_nI (by omega) (by omega)) dJ7_fill_d0a16_15 (fun H locs hP hS => ?_)
        obtain ⟨σ3, eσ3⟩ : ∃ x : zS, x = zJ τ1 w (vp_updL (τ1.2.1 w) (nI i).toNatClampNeg p0) := ⟨_, rfl⟩
        have hP : zP D c o σ3 H := by rw [eσ3]; exact hP
        have hF : zFr [] σ σ3 := zFr_J eσ3 hF
        obtain ⟨v4, ev4⟩ : ∃ y : Int32, y = nI i + 1 := ⟨_, rfl⟩
        refine lv_iinc (pc := 16) (v := v4) (lv' := [(3, .int v4), (4, .int 16), (0, .ref (o + w)), (1, .long p0)]) hx hb dJ7_fill_d0a16_16 hl (k := 0) rfl (by rw [ev4]; rfl) (by decide) rfl (fun ls hl => ?_)
        refine lv_goto (pc := 19) (tgt := 6) hx hb dJ7_fill_d0a16_19 (by decide) ?_
        have hl : lv_has ls 5 [(3, .int (nI (i + 1))), (4, .int 16), (0, .ref (o + w)), (1, .long p0)] := by have h9 := lv_sub hl [0, 1, 2, 3] rfl; rw [show v4 = nI (i + 1) from by rw [ev4]; exact nI_1 i] at h9; exact h9
        exact ih (i + 1) σ3 H locs ls (by omega) (by omega) hF hP hS hl
  exact loop_6 (16 + 1) 0 σ _ _ ls (Nat.zero_le _) (by omega) hF hP hS (lv_sub hl [1, 0, 2, 3] rfl)

set_option maxHeartbeats 4000000 in
set_option maxRecDepth 100000 in
theorem cs_fill60 (l : Launch) (D : va_G) (c : zC) (o : Nat) (σ : zS) (w : Nat) (p0 : Int64) (hw : zK w = (15, 60)) (hwl : w < 243) : Met l yJ7_fill_d0a16 zs_J7_fill_d0a16 (zr 5) (va_Pc [.ref (o + w), .long p0] (zQ D c o σ)) (va_Qv (fun (σ1 : zS) => zFr [] σ σ1) (zQ D c o) (zA o)) 0 0 (zA o) := by
  refine zMet (by decide) (Nat.le_of_ble_eq_true rfl) ?_
  intro p e s m below meth cd ⟨hx, hb, hr, hml, hown, hts, hlocks⟩ hP hK ls hl
  have hS : va_S (zA o) s.heap s.heap [] := va_S.rf
  have hl : lv_has ls 5 [(0, .ref (o + w)), (1, .long p0)] := hl
  have hF : zFr [] σ σ := zFr_rf
  refine lv_iconst (pc := 0) (v := 0) hx hb dJ7_fill_d0a16_0 (by decide) ?_
  refine lv_istore_n (pc := 1) (lv' := [(3, .int 0), (0, .ref (o + w)), (1, .long p0)]) hx hb dJ7_fill_d0a16_1 rfl hl (by decide) rfl (fun ls hl => ?_)
  refine lv_aload_n (pc := 2) hx hb dJ7_fill_d0a16_2 rfl (lv_at hl 1 rfl) ?_
  refine zlenL (pc := 3) (k := w) (n := 60) (v := 60) hx hb hK hP hw hwl (by decide) dJ7_fill_d0a16_3 ?_
  refine lv_istore (pc := 4) (lv' := [(4, .int 60), (3, .int 0), (0, .ref (o + w)), (1, .long p0)]) hx hb dJ7_fill_d0a16_4 hl (by decide) rfl (fun ls hl => ?_)
  have loop_6 : ∀ (n i : Nat) (τ1 : zS) (H : Heap) (locs : List Loc) (ls : Array Slot), i ≤ 60 → 60 - i < n → (zFr [] σ τ1) → zP D c o τ1 H → va_S (zA o) s.heap H locs → lv_has ls 5 [(3, .int (nI i)), (4, .int 60), (0, .ref (o + w)), (1, .long p0)] → W p l e (zr 5) s m (([.ref (o + w), .long p0] : List Value).toArray) below meth cd H locs 0 0 (MQ below (va_Qv (fun (σ1 : zS) => zFr [] σ σ1) (zQ D c o) (zA o)) (([.ref (o + w), .long p0] : List Value).toArray) s 0 0 (zA o)) (F0 m 6 ls []) := by
    intro n
    induction n with
    | zero => intro i _ _ _ _ _ h2; exact absurd h2 (by omega)
    | succ n ih =>
      intro i τ1 H locs ls hi hn hF hP hS hl
      refine lv_iload_n (pc := 6) hx hb dJ7_fill_d0a16_6 rfl (lv_at hl 0 rfl) ?_
      refine lv_iload (pc := 7) hx hb dJ7_fill_d0a16_7 (lv_at hl 1 rfl) ?_
      refine lv_icmp_ge (pc := 9) (tgt := 22) hx hb dJ7_fill_d0a16_9 (by decide) (fun c2 => ?_) (fun c2 => ?_)
      · exact zretv (pc := 22) hx hb hr hlocks hP hK hS hF dJ7_fill_d0a16_22
      · have hlt : i < 60 := zlit (N := 60) (by omega) (by omega) (by assumption)
        refine lv_aload_n (pc := 12) hx hb dJ7_fill_d0a16_12 rfl (lv_at hl 2 rfl) ?_
        refine lv_iload_n (pc := 13) hx hb dJ7_fill_d0a16_13 rfl (lv_at hl 0 rfl) ?_
        refine lv_lload_n (pc := 14) hx hb dJ7_fill_d0a16_14 rfl (lv_at hl 3 rfl) ?_
        refine zlast (pc := 15) (k := w) (n := 60) hx hb hK hP hS hw hwl (vp_in_nI (by omega) (by omega)) dJ7_fill_d0a16_15 (fun H locs hP hS => ?_)
        obtain ⟨σ3, eσ3⟩ : ∃ x : zS, x = zJ τ1 w (vp_updL (τ1.2.1 w) (nI i).toNatClampNeg p0) := ⟨_, rfl⟩
        have hP : zP D c o σ3 H := by rw [eσ3]; exact hP
        have hF : zFr [] σ σ3 := zFr_J eσ3 hF
        obtain ⟨v4, ev4⟩ : ∃ y : Int32, y = nI i + 1 := ⟨_, rfl⟩
        refine lv_iinc (pc := 16) (v := v4) (lv' := [(3, .int v4), (4, .int 60), (0, .ref (o + w)), (1, .long p0)]) hx hb dJ7_fill_d0a16_16 hl (k := 0) rfl (by rw [ev4]; rfl) (by decide) rfl (fun ls hl => ?_)
        refine lv_goto (pc := 19) (tgt := 6) hx hb dJ7_fill_d0a16_19 (by decide) ?_
        have hl : lv_has ls 5 [(3, .int (nI (i + 1))), (4, .int 60), (0, .ref (o + w)), (1, .long p0)] := by have h9 := lv_sub hl [0, 1, 2, 3] rfl; rw [show v4 = nI (i + 1) from by rw [ev4]; exact nI_1 i] at h9; exact h9
        exact ih (i + 1) σ3 H locs ls (by omega) (by omega) hF hP hS hl
  exact loop_6 (60 + 1) 0 σ _ _ ls (Nat.zero_le _) (by omega) hF hP hS (lv_sub hl [1, 0, 2, 3] rfl)

set_option maxHeartbeats 4000000 in
set_option maxRecDepth 100000 in
theorem cs_X2_clear (l : Launch) (D : va_G) (c : zC) (o : Nat) (σ : zS) (f w : Nat) (hf : zK f = (2, 0)) (hfl : f < 243) (hw : zK w = (15, 16)) (hwl : w < 243) (hr0 : σ.2.2 f 0 = o + w) : Met l yX2_clear zs_X2_clear (zr 6) (va_Pc [.ref (o + f)] (zQ D c o σ)) (va_Qv (fun (σ1 : zS) => zFr [] σ σ1) (zQ D c o) (zA o)) 0 0 (zA o) := by
  refine zMet (by decide) (Nat.le_of_ble_eq_true rfl) ?_
  intro p e s m below meth cd ⟨hx, hb, hr, hml, hown, hts, hlocks⟩ hP hK ls hl
  have hS : va_S (zA o) s.heap s.heap [] := va_S.rf
  have hl : lv_has ls 1 [(0, .ref (o + f))] := hl
  have hF : zFr [] σ σ := zFr_rf
  refine lv_aload_n (pc := 0) hx hb dX2_clear_0 rfl (lv_at hl 0 rfl) ?_
  refine zgetR (pc := 1) (k := f) (j := 0) (a := o + w) zc2 hx hb hts hown hK hP hf hfl rfl hr0 zf_X2_11 dX2_clear_1 ?_
  refine lv_lconst (pc := 4) (v := 0) hx hb dX2_clear_4 (by decide) ?_
  refine zcallSv (pc := 5) (As := [.ref (o + w), .long 0]) (rest := []) ⟨hx, hb, hml, hown, hts⟩ (cs_fill16 l D c o σ w 0 hw hwl) zT_X2_17 rfl zd_J7_fill_d0a16 ⟨Nat.le_of_ble_eq_true rfl, Nat.le_of_ble_eq_true rfl⟩ hK hP hS hl.1 rfl (Nat.le_of_ble_eq_true rfl) ⟨Nat.zero_le _, Nat.zero_le _⟩ dX2_clear_5 (fun σ2 H locs hw3 hP hS => ?_)
  have hr0 : σ2.2.2 f 0 = o + w := zFr_r hw3 hr0
  have hF : zFr [] σ σ2 := zFr_tr hF hw3 (fun _ h9 => absurd h9 List.not_mem_nil)
  exact zretv (pc := 8) hx hb hr hlocks hP hK hS hF dX2_clear_8

set_option maxHeartbeats 4000000 in
set_option maxRecDepth 100000 in
theorem cs_X2_copyFrom (l : Launch) (D : va_G) (c : zC) (o : Nat) (σ : zS) (f w : Nat) (hf : zK f = (2, 0)) (hfl : f < 243) (hw : zK w = (15, 16)) (hwl : w < 243) (hr0 : σ.2.2 f 0 = o + w) (f2 w2 : Nat) (hf2 : zK f2 = (2, 0)) (hfl2 : f2 < 243) (hw2 : zK w2 = (15, 16)) (hwl2 : w2 < 243) (hr2 : σ.2.2 f2 0 = o + w2) : Met l yX2_copyFrom zs_X2_copyFrom (zr 6) (va_Pc [.ref (o + f), .ref (o + f2)] (zQ D c o σ)) (va_Qv (fun (σ1 : zS) => zFr [] σ σ1) (zQ D c o) (zA o)) 0 0 (zA o) := by
  refine zMet (by decide) (Nat.le_of_ble_eq_true rfl) ?_
  intro p e s m below meth cd ⟨hx, hb, hr, hml, hown, hts, hlocks⟩ hP hK ls hl
  have hS : va_S (zA o) s.heap s.heap [] := va_S.rf
  have hl : lv_has ls 2 [(0, .ref (o + f)), (1, .ref (o + f2))] := hl
  have hF : zFr [] σ σ := zFr_rf
  refine lv_aload_n (pc := 0) hx hb dX2_copyFrom_0 rfl (lv_at hl 1 rfl) ?_
  refine zgetR (pc := 1) (k := f2) (j := 0) (a := o + w2) zc2 hx hb hts hown hK hP hf2 hfl2 rfl hr2 zf_X2_11 dX2_copyFrom_1 ?_
  refine lv_iconst (pc := 4) (v := 0) hx hb dX2_copyFrom_4 (by decide) ?_
  refine lv_aload_n (pc := 5) hx hb dX2_copyFrom_5 rfl (lv_at hl 0 rfl) ?_
  refine zgetR (pc := 6) (k := f) (j := 0) (a := o + w) zc2 hx hb hts hown hK hP hf hfl rfl hr0 zf_X2_11 dX2_copyFrom_6 ?_
  refine lv_iconst (pc := 9) (v := 0) hx hb dX2_copyFrom_9 (by decide) ?_
  refine lv_bipush (pc := 10) (v := 16) hx hb dX2_copyFrom_10 (by decide) ?_
  refine zcopyL (pc := 12) (k0 := w2) (k1 := w) (rest := []) hx hb (hml.trans hl.1.symm) hown hts zm_X2_23 hK hP hS hw2 hwl2 hw hwl (by decide) (by decide) (by decide) (Nat.le_of_ble_eq_true rfl) (Nat.le_of_ble_eq_true rfl) (by decide) (by decide) dX2_copyFrom_12 (fun H locs hP hS => ?_)
  obtain ⟨σ1, eσ1⟩ : ∃ x : zS, x = zJ σ w (va_cpy (σ.2.1 w2) (σ.2.1 w) 0 0 16) := ⟨_, rfl⟩
  have hP : zP D c o σ1 H := by rw [eσ1]; exact hP
  have hr0 : σ1.2.2 f 0 = o + w := zJ_r eσ1 hr0
  have hr2 : σ1.2.2 f2 0 = o + w2 := zJ_r eσ1 hr2
  have hF : zFr [] σ σ1 := zFr_J eσ1 hF
  exact zretv (pc := 15) hx hb hr hlocks hP hK hS hF dX2_copyFrom_15

set_option maxHeartbeats 4000000 in
set_option maxRecDepth 100000 in
theorem nz_X2_isEmpty (l : Launch) (D : va_G) (c : zC) (o : Nat) (σ : zS) (f w : Nat) (hf : zK f = (2, 0)) (hfl : f < 243) (hw : zK w = (15, 16)) (hwl : w < 243) (hr0 : σ.2.2 f 0 = o + w) (hz : ∀ j, σ.2.1 w j = 0) : Met l yX2_isEmpty zs_X2_isEmpty (zr 5) (va_Pc [.ref (o + f)] (zQ D c o σ)) (va_Qi (fun (r : Int32) (σ1 : zS) => r = 1 ∧ σ = σ1) (zQ D c o) (zA o)) 0 0 (zA o) := by
  refine zMet (by decide) (Nat.le_of_ble_eq_true rfl) ?_
  intro p e s m below meth cd ⟨hx, hb, hr, hml, hown, hts, hlocks⟩ hP hK ls hl
  have hS : va_S (zA o) s.heap s.heap [] := va_S.rf
  have hl : lv_has ls 2 [(0, .ref (o + f))] := hl
  refine lv_iconst (pc := 0) (v := 0) hx hb dX2_isEmpty_0 (by decide) ?_
  refine lv_istore_n (pc := 1) (lv' := [(1, .int 0), (0, .ref (o + f))]) hx hb dX2_isEmpty_1 rfl hl (by decide) rfl (fun ls hl => ?_)
  have loop_2 : ∀ (n i : Nat) (τ1 : zS) (H : Heap) (locs : List Loc) (ls : Array Slot), i ≤ 16 → 16 - i < n → (τ1.2.2 f 0 = o + w) → (∀ j, τ1.2.1 w j = 0) → (σ = τ1) → zP D c o τ1 H → va_S (zA o) s.heap H locs → lv_has ls 2 [(1, .int (nI i)), (0, .ref (o + f))] → W p l e (zr 5) s m (([.ref (o + f)] : List Value).toArray) below meth cd H locs 0 0 (MQ below (va_Qi (fun (r : Int32) (σ1 : zS) => r = 1 ∧ σ = σ1) (zQ D c o) (zA o)) (([.ref (o + f)] : List Value).toArray) s 0 0 (zA o)) (F0 m 2 ls []) := by
    intro n
    induction n with
    | zero => intro i _ _ _ _ _ h2; exact absurd h2 (by omega)
    | succ n ih =>
      intro i τ1 H locs ls hi hn hr0 hz hs hP hS hl
      refine lv_iload_n (pc := 2) hx hb dX2_isEmpty_2 rfl (lv_at hl 0 rfl) ?_
      refine lv_bipush (pc := 3) (v := 16) hx hb dX2_isEmpty_3 (by decide) ?_
      refine lv_icmp_ge (pc := 5) (tgt := 27) hx hb dX2_isEmpty_5 (by decide) (fun c2 => ?_) (fun c2 => ?_)
      · refine lv_iconst (pc := 27) (v := 1) hx hb dX2_isEmpty_27 (by decide) ?_
        exact zretz (pc := 28) hx hb hr hlocks hP hK hS (by decide) ⟨rfl, hs⟩ dX2_isEmpty_28
      · have hlt : i < 16 := zlit (N := 16) (by omega) (by omega) (by assumption)
        refine lv_aload_n (pc := 8) hx hb dX2_isEmpty_8 rfl (lv_at hl 1 rfl) ?_
        refine zgetR (pc := 9) (k := f) (j := 0) (a := o + w) zc2 hx hb hts hown hK hP hf hfl rfl hr0 zf_X2_11 dX2_isEmpty_9 ?_
        refine lv_iload_n (pc := 12) hx hb dX2_isEmpty_12 rfl (lv_at hl 0 rfl) ?_
        refine zlald (pc := 13) (k := w) (n := 16) hx hb hK hP hw hwl (vp_in_nI (by omega) (by omega)) dX2_isEmpty_13 ?_
        refine lv_topl (pc := 14) (fun v3 ev3 => ?_)
        obtain rfl : v3 = 0 := ev3.trans (hz _)
        refine lv_lconst (pc := 14) (v := 0) hx hb dX2_isEmpty_14 (by decide) ?_
        refine W.lcmp (pc := 15) hx hb dX2_isEmpty_15 ?_
        refine lv_topi (pc := 16) (fun v4 ev4 => ?_)
        obtain rfl : v4 = 0 := ev4.trans (by decide)
        refine lv_if_eq (pc := 16) (tgt := 21) hx hb dX2_isEmpty_16 (by decide) (fun _ => ?_) (fun c5 => absurd c5 (by decide))
        obtain ⟨v6, ev6⟩ : ∃ y : Int32, y = nI i + 1 := ⟨_, rfl⟩
        refine lv_iinc (pc := 21) (v := v6) (lv' := [(1, .int v6), (0, .ref (o + f))]) hx hb dX2_isEmpty_21 hl (k := 0) rfl (by rw [ev6]; rfl) (by decide) rfl (fun ls hl => ?_)
        refine lv_goto (pc := 24) (tgt := 2) hx hb dX2_isEmpty_24 (by decide) ?_
        have hl : lv_has ls 2 [(1, .int (nI (i + 1))), (0, .ref (o + f))] := by have h9 := lv_sub hl [0, 1] rfl; rw [show v6 = nI (i + 1) from by rw [ev6]; exact nI_1 i] at h9; exact h9
        exact ih (i + 1) τ1 H locs ls (by omega) (by omega) hr0 hz hs hP hS hl
  have hs : σ = σ := rfl
  exact loop_2 (16 + 1) 0 σ _ _ ls (Nat.zero_le _) (by omega) hr0 hz hs hP hS (lv_sub hl [0, 1] rfl)

set_option maxHeartbeats 4000000 in
set_option maxRecDepth 100000 in
theorem nz_X10_filled (l : Launch) (D : va_G) (c : zC) (o : Nat) (σ : zS) (hR : zRef o σ.2.2) (hz : ∀ k j, σ.2.1 k j = 0) : Met l yX10_filledRegisters zs_X10_filledRegisters (zr 8) (va_Pc [.ref (o + 2)] (zQ D c o σ)) (va_Qi (fun (r : Int32) (σ1 : zS) => r = 0 ∧ σ = σ1) (zQ D c o) (zA o)) 0 0 (zA o) := by
  refine zMet (by decide) (Nat.le_of_ble_eq_true rfl) ?_
  intro p e s m below meth cd ⟨hx, hb, hr, hml, hown, hts, hlocks⟩ hP hK ls hl
  have hS : va_S (zA o) s.heap s.heap [] := va_S.rf
  have hl : lv_has ls 3 [(0, .ref (o + 2))] := hl
  refine lv_iconst (pc := 0) (v := 0) hx hb dX10_filledRegisters_0 (by decide) ?_
  refine lv_istore_n (pc := 1) (lv' := [(1, .int 0), (0, .ref (o + 2))]) hx hb dX10_filledRegisters_1 rfl hl (by decide) rfl (fun ls hl => ?_)
  refine lv_iconst (pc := 2) (v := 0) hx hb dX10_filledRegisters_2 (by decide) ?_
  refine lv_istore_n (pc := 3) (lv' := [(2, .int 0), (1, .int 0), (0, .ref (o + 2))]) hx hb dX10_filledRegisters_3 rfl hl (by decide) rfl (fun ls hl => ?_)
  refine lv_iload_n (pc := 4) hx hb dX10_filledRegisters_4 rfl (lv_at hl 0 rfl) ?_
  refine lv_bipush (pc := 5) (v := 10) hx hb dX10_filledRegisters_5 (by decide) ?_
  refine lv_icmp_ge (pc := 7) (tgt := 34) hx hb dX10_filledRegisters_7 (by decide) (fun c1 => absurd c1 (by decide)) (fun _ => ?_)
  refine lv_aload_n (pc := 10) hx hb dX10_filledRegisters_10 rfl (lv_at hl 2 rfl) ?_
  refine zgetR (pc := 11) (k := 2) (j := 7) (a := o + 7) zc10 hx hb hts hown hK hP rfl (by decide) rfl (hR 2 7 rfl) zf_X10_36 dX10_filledRegisters_11 ?_
  refine lv_iload_n (pc := 14) hx hb dX10_filledRegisters_14 rfl (lv_at hl 0 rfl) ?_
  refine zFald (pc := 15) (k := 7) (n := 10) (a := o + 8) hx hb hK hP rfl (by decide) (vp_in_iff.mpr ⟨by decide, by decide⟩) (hR 7 0 rfl) dX10_filledRegisters_15 ?_
  refine zcallVi (pc := 16) (k := 8) (As := []) (rest := []) ⟨hx, hb, hml, hown, hts⟩ (nz_X2_isEmpty l D c o σ 8 9 rfl (by decide) rfl (by decide) (hR 8 0 rfl) (fun j => hz 9 j)) zc2 zV_X10_58 rfl zd_X2_isEmpty ⟨Nat.le_of_ble_eq_true rfl, Nat.le_of_ble_eq_true rfl⟩ hK hP hS rfl (by decide) hl.1 rfl (Nat.le_of_ble_eq_true rfl) ⟨Nat.zero_le _, Nat.zero_le _⟩ dX10_filledRegisters_16 (fun r2 σ3 H locs hw4 hP hS => ?_)
  obtain ⟨rfl, rfl⟩ := hw4
  refine lv_if_ne (pc := 19) (tgt := 28) hx hb dX10_filledRegisters_19 (by decide) (fun _ => ?_) (fun c5 => absurd c5 (by decide))
  refine lv_iinc (pc := 28) (v := 1) (lv' := [(2, .int 1), (1, .int 0), (0, .ref (o + 2))]) hx hb dX10_filledRegisters_28 hl (k := 0) rfl (by decide) (by decide) rfl (fun ls hl => ?_)
  refine lv_goto (pc := 31) (tgt := 4) hx hb dX10_filledRegisters_31 (by decide) ?_
  refine lv_iload_n (pc := 4) hx hb dX10_filledRegisters_4 rfl (lv_at hl 0 rfl) ?_
  refine lv_bipush (pc := 5) (v := 10) hx hb dX10_filledRegisters_5 (by decide) ?_
  refine lv_icmp_ge (pc := 7) (tgt := 34) hx hb dX10_filledRegisters_7 (by decide) (fun c6 => absurd c6 (by decide)) (fun _ => ?_)
  refine lv_aload_n (pc := 10) hx hb dX10_filledRegisters_10 rfl (lv_at hl 2 rfl) ?_
  refine zgetR (pc := 11) (k := 2) (j := 7) (a := o + 7) zc10 hx hb hts hown hK hP rfl (by decide) rfl (hR 2 7 rfl) zf_X10_36 dX10_filledRegisters_11 ?_
  refine lv_iload_n (pc := 14) hx hb dX10_filledRegisters_14 rfl (lv_at hl 0 rfl) ?_
  refine zFald (pc := 15) (k := 7) (n := 10) (a := o + 10) hx hb hK hP rfl (by decide) (vp_in_iff.mpr ⟨by decide, by decide⟩) (hR 7 1 rfl) dX10_filledRegisters_15 ?_
  refine zcallVi (pc := 16) (k := 10) (As := []) (rest := []) ⟨hx, hb, hml, hown, hts⟩ (nz_X2_isEmpty l D c o σ 10 11 rfl (by decide) rfl (by decide) (hR 10 0 rfl) (fun j => hz 11 j)) zc2 zV_X10_58 rfl zd_X2_isEmpty ⟨Nat.le_of_ble_eq_true rfl, Nat.le_of_ble_eq_true rfl⟩ hK hP hS rfl (by decide) hl.1 rfl (Nat.le_of_ble_eq_true rfl) ⟨Nat.zero_le _, Nat.zero_le _⟩ dX10_filledRegisters_16 (fun r7 σ8 H locs hw9 hP hS => ?_)
  obtain ⟨rfl, rfl⟩ := hw9
  refine lv_if_ne (pc := 19) (tgt := 28) hx hb dX10_filledRegisters_19 (by decide) (fun _ => ?_) (fun c10 => absurd c10 (by decide))
  refine lv_iinc (pc := 28) (v := 2) (lv' := [(2, .int 2), (1, .int 0), (0, .ref (o + 2))]) hx hb dX10_filledRegisters_28 hl (k := 0) rfl (by decide) (by decide) rfl (fun ls hl => ?_)
  refine lv_goto (pc := 31) (tgt := 4) hx hb dX10_filledRegisters_31 (by decide) ?_
  refine lv_iload_n (pc := 4) hx hb dX10_filledRegisters_4 rfl (lv_at hl 0 rfl) ?_
  refine lv_bipush (pc := 5) (v := 10) hx hb dX10_filledRegisters_5 (by decide) ?_
  refine lv_icmp_ge (pc := 7) (tgt := 34) hx hb dX10_filledRegisters_7 (by decide) (fun c11 => absurd c11 (by decide)) (fun _ => ?_)
  refine lv_aload_n (pc := 10) hx hb dX10_filledRegisters_10 rfl (lv_at hl 2 rfl) ?_
  refine zgetR (pc := 11) (k := 2) (j := 7) (a := o + 7) zc10 hx hb hts hown hK hP rfl (by decide) rfl (hR 2 7 rfl) zf_X10_36 dX10_filledRegisters_11 ?_
  refine lv_iload_n (pc := 14) hx hb dX10_filledRegisters_14 rfl (lv_at hl 0 rfl) ?_
  refine zFald (pc := 15) (k := 7) (n := 10) (a := o + 12) hx hb hK hP rfl (by decide) (vp_in_iff.mpr ⟨by decide, by decide⟩) (hR 7 2 rfl) dX10_filledRegisters_15 ?_
  refine zcallVi (pc := 16) (k := 12) (As := []) (rest := []) ⟨hx, hb, hml, hown, hts⟩ (nz_X2_isEmpty l D c o σ 12 13 rfl (by decide) rfl (by decide) (hR 12 0 rfl) (fun j => hz 13 j)) zc2 zV_X10_58 rfl zd_X2_isEmpty ⟨Nat.le_of_ble_eq_true rfl, Nat.le_of_ble_eq_true rfl⟩ hK hP hS rfl (by decide) hl.1 rfl (Nat.le_of_ble_eq_true rfl) ⟨Nat.zero_le _, Nat.zero_le _⟩ dX10_filledRegisters_16 (fun r12 σ13 H locs hw14 hP hS => ?_)
  obtain ⟨rfl, rfl⟩ := hw14
  refine lv_if_ne (pc := 19) (tgt := 28) hx hb dX10_filledRegisters_19 (by decide) (fun _ => ?_) (fun c15 => absurd c15 (by decide))
  refine lv_iinc (pc := 28) (v := 3) (lv' := [(2, .int 3), (1, .int 0), (0, .ref (o + 2))]) hx hb dX10_filledRegisters_28 hl (k := 0) rfl (by decide) (by decide) rfl (fun ls hl => ?_)
  refine lv_goto (pc := 31) (tgt := 4) hx hb dX10_filledRegisters_31 (by decide) ?_
  refine lv_iload_n (pc := 4) hx hb dX10_filledRegisters_4 rfl (lv_at hl 0 rfl) ?_
  refine lv_bipush (pc := 5) (v := 10) hx hb dX10_filledRegisters_5 (by decide) ?_
  refine lv_icmp_ge (pc := 7) (tgt := 34) hx hb dX10_filledRegisters_7 (by decide) (fun c16 => absurd c16 (by decide)) (fun _ => ?_)
  refine lv_aload_n (pc := 10) hx hb dX10_filledRegisters_10 rfl (lv_at hl 2 rfl) ?_
  refine zgetR (pc := 11) (k := 2) (j := 7) (a := o + 7) zc10 hx hb hts hown hK hP rfl (by decide) rfl (hR 2 7 rfl) zf_X10_36 dX10_filledRegisters_11 ?_
  refine lv_iload_n (pc := 14) hx hb dX10_filledRegisters_14 rfl (lv_at hl 0 rfl) ?_
  refine zFald (pc := 15) (k := 7) (n := 10) (a := o + 14) hx hb hK hP rfl (by decide) (vp_in_iff.mpr ⟨by decide, by decide⟩) (hR 7 3 rfl) dX10_filledRegisters_15 ?_
  refine zcallVi (pc := 16) (k := 14) (As := []) (rest := []) ⟨hx, hb, hml, hown, hts⟩ (nz_X2_isEmpty l D c o σ 14 15 rfl (by decide) rfl (by decide) (hR 14 0 rfl) (fun j => hz 15 j)) zc2 zV_X10_58 rfl zd_X2_isEmpty ⟨Nat.le_of_ble_eq_true rfl, Nat.le_of_ble_eq_true rfl⟩ hK hP hS rfl (by decide) hl.1 rfl (Nat.le_of_ble_eq_true rfl) ⟨Nat.zero_le _, Nat.zero_le _⟩ dX10_filledRegisters_16 (fun r17 σ18 H locs hw19 hP hS => ?_)
  obtain ⟨rfl, rfl⟩ := hw19
  refine lv_if_ne (pc := 19) (tgt := 28) hx hb dX10_filledRegisters_19 (by decide) (fun _ => ?_) (fun c20 => absurd c20 (by decide))
  refine lv_iinc (pc := 28) (v := 4) (lv' := [(2, .int 4), (1, .int 0), (0, .ref (o + 2))]) hx hb dX10_filledRegisters_28 hl (k := 0) rfl (by decide) (by decide) rfl (fun ls hl => ?_)
  refine lv_goto (pc := 31) (tgt := 4) hx hb dX10_filledRegisters_31 (by decide) ?_
  refine lv_iload_n (pc := 4) hx hb dX10_filledRegisters_4 rfl (lv_at hl 0 rfl) ?_
  refine lv_bipush (pc := 5) (v := 10) hx hb dX10_filledRegisters_5 (by decide) ?_
  refine lv_icmp_ge (pc := 7) (tgt := 34) hx hb dX10_filledRegisters_7 (by decide) (fun c21 => absurd c21 (by decide)) (fun _ => ?_)
  refine lv_aload_n (pc := 10) hx hb dX10_filledRegisters_10 rfl (lv_at hl 2 rfl) ?_
  refine zgetR (pc := 11) (k := 2) (j := 7) (a := o + 7) zc10 hx hb hts hown hK hP rfl (by decide) rfl (hR 2 7 rfl) zf_X10_36 dX10_filledRegisters_11 ?_
  refine lv_iload_n (pc := 14) hx hb dX10_filledRegisters_14 rfl (lv_at hl 0 rfl) ?_
  refine zFald (pc := 15) (k := 7) (n := 10) (a := o + 16) hx hb hK hP rfl (by decide) (vp_in_iff.mpr ⟨by decide, by decide⟩) (hR 7 4 rfl) dX10_filledRegisters_15 ?_
  refine zcallVi (pc := 16) (k := 16) (As := []) (rest := []) ⟨hx, hb, hml, hown, hts⟩ (nz_X2_isEmpty l D c o σ 16 17 rfl (by decide) rfl (by decide) (hR 16 0 rfl) (fun j => hz 17 j)) zc2 zV_X10_58 rfl zd_X2_isEmpty ⟨Nat.le_of_ble_eq_true rfl, Nat.le_of_ble_eq_true rfl⟩ hK hP hS rfl (by decide) hl.1 rfl (Nat.le_of_ble_eq_true rfl) ⟨Nat.zero_le _, Nat.zero_le _⟩ dX10_filledRegisters_16 (fun r22 σ23 H locs hw24 hP hS => ?_)
  obtain ⟨rfl, rfl⟩ := hw24
  refine lv_if_ne (pc := 19) (tgt := 28) hx hb dX10_filledRegisters_19 (by decide) (fun _ => ?_) (fun c25 => absurd c25 (by decide))
  refine lv_iinc (pc := 28) (v := 5) (lv' := [(2, .int 5), (1, .int 0), (0, .ref (o + 2))]) hx hb dX10_filledRegisters_28 hl (k := 0) rfl (by decide) (by decide) rfl (fun ls hl => ?_)
  refine lv_goto (pc := 31) (tgt := 4) hx hb dX10_filledRegisters_31 (by decide) ?_
  refine lv_iload_n (pc := 4) hx hb dX10_filledRegisters_4 rfl (lv_at hl 0 rfl) ?_
  refine lv_bipush (pc := 5) (v := 10) hx hb dX10_filledRegisters_5 (by decide) ?_
  refine lv_icmp_ge (pc := 7) (tgt := 34) hx hb dX10_filledRegisters_7 (by decide) (fun c26 => absurd c26 (by decide)) (fun _ => ?_)
  refine lv_aload_n (pc := 10) hx hb dX10_filledRegisters_10 rfl (lv_at hl 2 rfl) ?_
  refine zgetR (pc := 11) (k := 2) (j := 7) (a := o + 7) zc10 hx hb hts hown hK hP rfl (by decide) rfl (hR 2 7 rfl) zf_X10_36 dX10_filledRegisters_11 ?_
  refine lv_iload_n (pc := 14) hx hb dX10_filledRegisters_14 rfl (lv_at hl 0 rfl) ?_
  refine zFald (pc := 15) (k := 7) (n := 10) (a := o + 18) hx hb hK hP rfl (by decide) (vp_in_iff.mpr ⟨by decide, by decide⟩) (hR 7 5 rfl) dX10_filledRegisters_15 ?_
  refine zcallVi (pc := 16) (k := 18) (As := []) (rest := []) ⟨hx, hb, hml, hown, hts⟩ (nz_X2_isEmpty l D c o σ 18 19 rfl (by decide) rfl (by decide) (hR 18 0 rfl) (fun j => hz 19 j)) zc2 zV_X10_58 rfl zd_X2_isEmpty ⟨Nat.le_of_ble_eq_true rfl, Nat.le_of_ble_eq_true rfl⟩ hK hP hS rfl (by decide) hl.1 rfl (Nat.le_of_ble_eq_true rfl) ⟨Nat.zero_le _, Nat.zero_le _⟩ dX10_filledRegisters_16 (fun r27 σ28 H locs hw29 hP hS => ?_)
  obtain ⟨rfl, rfl⟩ := hw29
  refine lv_if_ne (pc := 19) (tgt := 28) hx hb dX10_filledRegisters_19 (by decide) (fun _ => ?_) (fun c30 => absurd c30 (by decide))
  refine lv_iinc (pc := 28) (v := 6) (lv' := [(2, .int 6), (1, .int 0), (0, .ref (o + 2))]) hx hb dX10_filledRegisters_28 hl (k := 0) rfl (by decide) (by decide) rfl (fun ls hl => ?_)
  refine lv_goto (pc := 31) (tgt := 4) hx hb dX10_filledRegisters_31 (by decide) ?_
  refine lv_iload_n (pc := 4) hx hb dX10_filledRegisters_4 rfl (lv_at hl 0 rfl) ?_
  refine lv_bipush (pc := 5) (v := 10) hx hb dX10_filledRegisters_5 (by decide) ?_
  refine lv_icmp_ge (pc := 7) (tgt := 34) hx hb dX10_filledRegisters_7 (by decide) (fun c31 => absurd c31 (by decide)) (fun _ => ?_)
  refine lv_aload_n (pc := 10) hx hb dX10_filledRegisters_10 rfl (lv_at hl 2 rfl) ?_
  refine zgetR (pc := 11) (k := 2) (j := 7) (a := o + 7) zc10 hx hb hts hown hK hP rfl (by decide) rfl (hR 2 7 rfl) zf_X10_36 dX10_filledRegisters_11 ?_
  refine lv_iload_n (pc := 14) hx hb dX10_filledRegisters_14 rfl (lv_at hl 0 rfl) ?_
  refine zFald (pc := 15) (k := 7) (n := 10) (a := o + 20) hx hb hK hP rfl (by decide) (vp_in_iff.mpr ⟨by decide, by decide⟩) (hR 7 6 rfl) dX10_filledRegisters_15 ?_
  refine zcallVi (pc := 16) (k := 20) (As := []) (rest := []) ⟨hx, hb, hml, hown, hts⟩ (nz_X2_isEmpty l D c o σ 20 21 rfl (by decide) rfl (by decide) (hR 20 0 rfl) (fun j => hz 21 j)) zc2 zV_X10_58 rfl zd_X2_isEmpty ⟨Nat.le_of_ble_eq_true rfl, Nat.le_of_ble_eq_true rfl⟩ hK hP hS rfl (by decide) hl.1 rfl (Nat.le_of_ble_eq_true rfl) ⟨Nat.zero_le _, Nat.zero_le _⟩ dX10_filledRegisters_16 (fun r32 σ33 H locs hw34 hP hS => ?_)
  obtain ⟨rfl, rfl⟩ := hw34
  refine lv_if_ne (pc := 19) (tgt := 28) hx hb dX10_filledRegisters_19 (by decide) (fun _ => ?_) (fun c35 => absurd c35 (by decide))
  refine lv_iinc (pc := 28) (v := 7) (lv' := [(2, .int 7), (1, .int 0), (0, .ref (o + 2))]) hx hb dX10_filledRegisters_28 hl (k := 0) rfl (by decide) (by decide) rfl (fun ls hl => ?_)
  refine lv_goto (pc := 31) (tgt := 4) hx hb dX10_filledRegisters_31 (by decide) ?_
  refine lv_iload_n (pc := 4) hx hb dX10_filledRegisters_4 rfl (lv_at hl 0 rfl) ?_
  refine lv_bipush (pc := 5) (v := 10) hx hb dX10_filledRegisters_5 (by decide) ?_
  refine lv_icmp_ge (pc := 7) (tgt := 34) hx hb dX10_filledRegisters_7 (by decide) (fun c36 => absurd c36 (by decide)) (fun _ => ?_)
  refine lv_aload_n (pc := 10) hx hb dX10_filledRegisters_10 rfl (lv_at hl 2 rfl) ?_
  refine zgetR (pc := 11) (k := 2) (j := 7) (a := o + 7) zc10 hx hb hts hown hK hP rfl (by decide) rfl (hR 2 7 rfl) zf_X10_36 dX10_filledRegisters_11 ?_
  refine lv_iload_n (pc := 14) hx hb dX10_filledRegisters_14 rfl (lv_at hl 0 rfl) ?_
  refine zFald (pc := 15) (k := 7) (n := 10) (a := o + 22) hx hb hK hP rfl (by decide) (vp_in_iff.mpr ⟨by decide, by decide⟩) (hR 7 7 rfl) dX10_filledRegisters_15 ?_
  refine zcallVi (pc := 16) (k := 22) (As := []) (rest := []) ⟨hx, hb, hml, hown, hts⟩ (nz_X2_isEmpty l D c o σ 22 23 rfl (by decide) rfl (by decide) (hR 22 0 rfl) (fun j => hz 23 j)) zc2 zV_X10_58 rfl zd_X2_isEmpty ⟨Nat.le_of_ble_eq_true rfl, Nat.le_of_ble_eq_true rfl⟩ hK hP hS rfl (by decide) hl.1 rfl (Nat.le_of_ble_eq_true rfl) ⟨Nat.zero_le _, Nat.zero_le _⟩ dX10_filledRegisters_16 (fun r37 σ38 H locs hw39 hP hS => ?_)
  obtain ⟨rfl, rfl⟩ := hw39
  refine lv_if_ne (pc := 19) (tgt := 28) hx hb dX10_filledRegisters_19 (by decide) (fun _ => ?_) (fun c40 => absurd c40 (by decide))
  refine lv_iinc (pc := 28) (v := 8) (lv' := [(2, .int 8), (1, .int 0), (0, .ref (o + 2))]) hx hb dX10_filledRegisters_28 hl (k := 0) rfl (by decide) (by decide) rfl (fun ls hl => ?_)
  refine lv_goto (pc := 31) (tgt := 4) hx hb dX10_filledRegisters_31 (by decide) ?_
  refine lv_iload_n (pc := 4) hx hb dX10_filledRegisters_4 rfl (lv_at hl 0 rfl) ?_
  refine lv_bipush (pc := 5) (v := 10) hx hb dX10_filledRegisters_5 (by decide) ?_
  refine lv_icmp_ge (pc := 7) (tgt := 34) hx hb dX10_filledRegisters_7 (by decide) (fun c41 => absurd c41 (by decide)) (fun _ => ?_)
  refine lv_aload_n (pc := 10) hx hb dX10_filledRegisters_10 rfl (lv_at hl 2 rfl) ?_
  refine zgetR (pc := 11) (k := 2) (j := 7) (a := o + 7) zc10 hx hb hts hown hK hP rfl (by decide) rfl (hR 2 7 rfl) zf_X10_36 dX10_filledRegisters_11 ?_
  refine lv_iload_n (pc := 14) hx hb dX10_filledRegisters_14 rfl (lv_at hl 0 rfl) ?_
  refine zFald (pc := 15) (k := 7) (n := 10) (a := o + 24) hx hb hK hP rfl (by decide) (vp_in_iff.mpr ⟨by decide, by decide⟩) (hR 7 8 rfl) dX10_filledRegisters_15 ?_
  refine zcallVi (pc := 16) (k := 24) (As := []) (rest := []) ⟨hx, hb, hml, hown, hts⟩ (nz_X2_isEmpty l D c o σ 24 25 rfl (by decide) rfl (by decide) (hR 24 0 rfl) (fun j => hz 25 j)) zc2 zV_X10_58 rfl zd_X2_isEmpty ⟨Nat.le_of_ble_eq_true rfl, Nat.le_of_ble_eq_true rfl⟩ hK hP hS rfl (by decide) hl.1 rfl (Nat.le_of_ble_eq_true rfl) ⟨Nat.zero_le _, Nat.zero_le _⟩ dX10_filledRegisters_16 (fun r42 σ43 H locs hw44 hP hS => ?_)
  obtain ⟨rfl, rfl⟩ := hw44
  refine lv_if_ne (pc := 19) (tgt := 28) hx hb dX10_filledRegisters_19 (by decide) (fun _ => ?_) (fun c45 => absurd c45 (by decide))
  refine lv_iinc (pc := 28) (v := 9) (lv' := [(2, .int 9), (1, .int 0), (0, .ref (o + 2))]) hx hb dX10_filledRegisters_28 hl (k := 0) rfl (by decide) (by decide) rfl (fun ls hl => ?_)
  refine lv_goto (pc := 31) (tgt := 4) hx hb dX10_filledRegisters_31 (by decide) ?_
  refine lv_iload_n (pc := 4) hx hb dX10_filledRegisters_4 rfl (lv_at hl 0 rfl) ?_
  refine lv_bipush (pc := 5) (v := 10) hx hb dX10_filledRegisters_5 (by decide) ?_
  refine lv_icmp_ge (pc := 7) (tgt := 34) hx hb dX10_filledRegisters_7 (by decide) (fun c46 => absurd c46 (by decide)) (fun _ => ?_)
  refine lv_aload_n (pc := 10) hx hb dX10_filledRegisters_10 rfl (lv_at hl 2 rfl) ?_
  refine zgetR (pc := 11) (k := 2) (j := 7) (a := o + 7) zc10 hx hb hts hown hK hP rfl (by decide) rfl (hR 2 7 rfl) zf_X10_36 dX10_filledRegisters_11 ?_
  refine lv_iload_n (pc := 14) hx hb dX10_filledRegisters_14 rfl (lv_at hl 0 rfl) ?_
  refine zFald (pc := 15) (k := 7) (n := 10) (a := o + 26) hx hb hK hP rfl (by decide) (vp_in_iff.mpr ⟨by decide, by decide⟩) (hR 7 9 rfl) dX10_filledRegisters_15 ?_
  refine zcallVi (pc := 16) (k := 26) (As := []) (rest := []) ⟨hx, hb, hml, hown, hts⟩ (nz_X2_isEmpty l D c o σ 26 27 rfl (by decide) rfl (by decide) (hR 26 0 rfl) (fun j => hz 27 j)) zc2 zV_X10_58 rfl zd_X2_isEmpty ⟨Nat.le_of_ble_eq_true rfl, Nat.le_of_ble_eq_true rfl⟩ hK hP hS rfl (by decide) hl.1 rfl (Nat.le_of_ble_eq_true rfl) ⟨Nat.zero_le _, Nat.zero_le _⟩ dX10_filledRegisters_16 (fun r47 σ48 H locs hw49 hP hS => ?_)
  obtain ⟨rfl, rfl⟩ := hw49
  refine lv_if_ne (pc := 19) (tgt := 28) hx hb dX10_filledRegisters_19 (by decide) (fun _ => ?_) (fun c50 => absurd c50 (by decide))
  refine lv_iinc (pc := 28) (v := 10) (lv' := [(2, .int 10), (1, .int 0), (0, .ref (o + 2))]) hx hb dX10_filledRegisters_28 hl (k := 0) rfl (by decide) (by decide) rfl (fun ls hl => ?_)
  refine lv_goto (pc := 31) (tgt := 4) hx hb dX10_filledRegisters_31 (by decide) ?_
  refine lv_iload_n (pc := 4) hx hb dX10_filledRegisters_4 rfl (lv_at hl 0 rfl) ?_
  refine lv_bipush (pc := 5) (v := 10) hx hb dX10_filledRegisters_5 (by decide) ?_
  refine lv_icmp_ge (pc := 7) (tgt := 34) hx hb dX10_filledRegisters_7 (by decide) (fun _ => ?_) (fun c51 => absurd c51 (by decide))
  refine lv_iload_n (pc := 34) hx hb dX10_filledRegisters_34 rfl (lv_at hl 1 rfl) ?_
  exact zreti (pc := 35) hx hb hr hlocks hP hK hS ⟨rfl, rfl⟩ dX10_filledRegisters_35

set_option maxHeartbeats 4000000 in
set_option maxRecDepth 100000 in
theorem cs_X10_clear28 (l : Launch) (D : va_G) (c : zC) (o : Nat) (σ : zS) (hR : zRef o σ.2.2) : Met l yX10_clear zs_X10_clear (zr 8) (va_Pc [.ref (o + 28)] (zQ D c o σ)) (va_Qv (fun (σ1 : zS) => zFr [28, 31, 32] σ σ1 ∧ σ1.1 28 0 = 0 ∧ σ1.1 28 1 = 0 ∧ σ1.1 28 2 = 0) (zQ D c o) (zA o)) 0 0 (zA o) := by
  refine zMet (by decide) (Nat.le_of_ble_eq_true rfl) ?_
  intro p e s m below meth cd ⟨hx, hb, hr, hml, hown, hts, hlocks⟩ hP hK ls hl
  have hS : va_S (zA o) s.heap s.heap [] := va_S.rf
  have hl : lv_has ls 2 [(0, .ref (o + 28))] := hl
  have hF : zFr [28, 31, 32] σ σ := zFr_rf
  refine lv_aload_n (pc := 0) hx hb dX10_clear_0 rfl (lv_at hl 0 rfl) ?_
  refine lv_iconst (pc := 1) (v := 0) hx hb dX10_clear_1 (by decide) ?_
  refine zputI (pc := 2) (k := 28) (j := 0) zc10 hx hb hts hown hK hP hS rfl (by decide) rfl rfl rfl zf_X10_9 dX10_clear_2 (fun H locs hP hS => ?_)
  obtain ⟨σ1, eσ1⟩ : ∃ x : zS, x = zI σ 28 (upd (σ.1 28) 0 0) := ⟨_, rfl⟩
  have hP : zP D c o σ1 H := by rw [eσ1]; exact hP
  have f28_0 : σ1.1 28 0 = 0 := zI_eq eσ1 pk_us
  have hR : zRef o σ1.2.2 := zI_ref eσ1 hR
  have hF : zFr [28, 31, 32] σ σ1 := zFr_I eσ1 hF (by decide)
  refine lv_aload_n (pc := 5) hx hb dX10_clear_5 rfl (lv_at hl 0 rfl) ?_
  refine lv_iconst (pc := 6) (v := 0) hx hb dX10_clear_6 (by decide) ?_
  refine zputI (pc := 7) (k := 28) (j := 1) zc10 hx hb hts hown hK hP hS rfl (by decide) rfl rfl rfl zf_X10_15 dX10_clear_7 (fun H locs hP hS => ?_)
  obtain ⟨σ2, eσ2⟩ : ∃ x : zS, x = zI σ1 28 (upd (σ1.1 28) 1 0) := ⟨_, rfl⟩
  have hP : zP D c o σ2 H := by rw [eσ2]; exact hP
  have f28_0 : σ2.1 28 0 = 0 := zI_eq eσ2 ((pk_un (by decide)).trans f28_0)
  have f28_1 : σ2.1 28 1 = 0 := zI_eq eσ2 pk_us
  have hR : zRef o σ2.2.2 := zI_ref eσ2 hR
  have hF : zFr [28, 31, 32] σ σ2 := zFr_I eσ2 hF (by decide)
  refine lv_aload_n (pc := 10) hx hb dX10_clear_10 rfl (lv_at hl 0 rfl) ?_
  refine lv_iconst (pc := 11) (v := 0) hx hb dX10_clear_11 (by decide) ?_
  refine zputI (pc := 12) (k := 28) (j := 2) zc10 hx hb hts hown hK hP hS rfl (by decide) rfl rfl rfl zf_X10_18 dX10_clear_12 (fun H locs hP hS => ?_)
  obtain ⟨σ3, eσ3⟩ : ∃ x : zS, x = zI σ2 28 (upd (σ2.1 28) 2 0) := ⟨_, rfl⟩
  have hP : zP D c o σ3 H := by rw [eσ3]; exact hP
  have f28_0 : σ3.1 28 0 = 0 := zI_eq eσ3 ((pk_un (by decide)).trans f28_0)
  have f28_1 : σ3.1 28 1 = 0 := zI_eq eσ3 ((pk_un (by decide)).trans f28_1)
  have f28_2 : σ3.1 28 2 = 0 := zI_eq eσ3 pk_us
  have hR : zRef o σ3.2.2 := zI_ref eσ3 hR
  have hF : zFr [28, 31, 32] σ σ3 := zFr_I eσ3 hF (by decide)
  refine lv_iconst (pc := 15) (v := 0) hx hb dX10_clear_15 (by decide) ?_
  refine lv_istore_n (pc := 16) (lv' := [(1, .int 0), (0, .ref (o + 28))]) hx hb dX10_clear_16 rfl hl (by decide) rfl (fun ls hl => ?_)
  refine lv_iload_n (pc := 17) hx hb dX10_clear_17 rfl (lv_at hl 0 rfl) ?_
  refine lv_bipush (pc := 18) (v := 10) hx hb dX10_clear_18 (by decide) ?_
  refine lv_icmp_ge (pc := 20) (tgt := 43) hx hb dX10_clear_20 (by decide) (fun c4 => absurd c4 (by decide)) (fun _ => ?_)
  refine lv_aload_n (pc := 23) hx hb dX10_clear_23 rfl (lv_at hl 1 rfl) ?_
  refine zgetR (pc := 24) (k := 28) (j := 5) (a := o + 31) zc10 hx hb hts hown hK hP rfl (by decide) rfl (hR 28 5 rfl) zf_X10_28 dX10_clear_24 ?_
  refine lv_iload_n (pc := 27) hx hb dX10_clear_27 rfl (lv_at hl 0 rfl) ?_
  refine lv_iconst (pc := 28) (v := 1) hx hb dX10_clear_28 (by decide) ?_
  refine ziast (pc := 29) (k := 31) (n := 10) hx hb hK hP hS rfl (by decide) (vp_in_iff.mpr ⟨by decide, by decide⟩) dX10_clear_29 (fun H locs hP hS => ?_)
  obtain ⟨σ5, eσ5⟩ : ∃ x : zS, x = zI σ3 31 (upd (σ3.1 31) 0 1) := ⟨_, rfl⟩
  have hP : zP D c o σ5 H := by rw [eσ5]; exact hP
  have f28_0 : σ5.1 28 0 = 0 := zI_ne eσ5 (by decide) f28_0
  have f28_1 : σ5.1 28 1 = 0 := zI_ne eσ5 (by decide) f28_1
  have f28_2 : σ5.1 28 2 = 0 := zI_ne eσ5 (by decide) f28_2
  have f31_0 : σ5.1 31 0 = 1 := zI_eq eσ5 pk_us
  have hR : zRef o σ5.2.2 := zI_ref eσ5 hR
  have hF : zFr [28, 31, 32] σ σ5 := zFr_I eσ5 hF (by decide)
  refine lv_aload_n (pc := 30) hx hb dX10_clear_30 rfl (lv_at hl 1 rfl) ?_
  refine zgetR (pc := 31) (k := 28) (j := 6) (a := o + 32) zc10 hx hb hts hown hK hP rfl (by decide) rfl (hR 28 6 rfl) zf_X10_31 dX10_clear_31 ?_
  refine lv_iload_n (pc := 34) hx hb dX10_clear_34 rfl (lv_at hl 0 rfl) ?_
  refine lv_iload_n (pc := 35) hx hb dX10_clear_35 rfl (lv_at hl 0 rfl) ?_
  refine ziast (pc := 36) (k := 32) (n := 10) hx hb hK hP hS rfl (by decide) (vp_in_iff.mpr ⟨by decide, by decide⟩) dX10_clear_36 (fun H locs hP hS => ?_)
  obtain ⟨σ6, eσ6⟩ : ∃ x : zS, x = zI σ5 32 (upd (σ5.1 32) 0 0) := ⟨_, rfl⟩
  have hP : zP D c o σ6 H := by rw [eσ6]; exact hP
  have f28_0 : σ6.1 28 0 = 0 := zI_ne eσ6 (by decide) f28_0
  have f28_1 : σ6.1 28 1 = 0 := zI_ne eσ6 (by decide) f28_1
  have f28_2 : σ6.1 28 2 = 0 := zI_ne eσ6 (by decide) f28_2
  have f31_0 : σ6.1 31 0 = 1 := zI_ne eσ6 (by decide) f31_0
  have f32_0 : σ6.1 32 0 = 0 := zI_eq eσ6 pk_us
  have hR : zRef o σ6.2.2 := zI_ref eσ6 hR
  have hF : zFr [28, 31, 32] σ σ6 := zFr_I eσ6 hF (by decide)
  refine lv_iinc (pc := 37) (v := 1) (lv' := [(1, .int 1), (0, .ref (o + 28))]) hx hb dX10_clear_37 hl (k := 0) rfl (by decide) (by decide) rfl (fun ls hl => ?_)
  refine lv_goto (pc := 40) (tgt := 17) hx hb dX10_clear_40 (by decide) ?_
  refine lv_iload_n (pc := 17) hx hb dX10_clear_17 rfl (lv_at hl 0 rfl) ?_
  refine lv_bipush (pc := 18) (v := 10) hx hb dX10_clear_18 (by decide) ?_
  refine lv_icmp_ge (pc := 20) (tgt := 43) hx hb dX10_clear_20 (by decide) (fun c7 => absurd c7 (by decide)) (fun _ => ?_)
  refine lv_aload_n (pc := 23) hx hb dX10_clear_23 rfl (lv_at hl 1 rfl) ?_
  refine zgetR (pc := 24) (k := 28) (j := 5) (a := o + 31) zc10 hx hb hts hown hK hP rfl (by decide) rfl (hR 28 5 rfl) zf_X10_28 dX10_clear_24 ?_
  refine lv_iload_n (pc := 27) hx hb dX10_clear_27 rfl (lv_at hl 0 rfl) ?_
  refine lv_iconst (pc := 28) (v := 1) hx hb dX10_clear_28 (by decide) ?_
  refine ziast (pc := 29) (k := 31) (n := 10) hx hb hK hP hS rfl (by decide) (vp_in_iff.mpr ⟨by decide, by decide⟩) dX10_clear_29 (fun H locs hP hS => ?_)
  obtain ⟨σ8, eσ8⟩ : ∃ x : zS, x = zI σ6 31 (upd (σ6.1 31) 1 1) := ⟨_, rfl⟩
  have hP : zP D c o σ8 H := by rw [eσ8]; exact hP
  have f28_0 : σ8.1 28 0 = 0 := zI_ne eσ8 (by decide) f28_0
  have f28_1 : σ8.1 28 1 = 0 := zI_ne eσ8 (by decide) f28_1
  have f28_2 : σ8.1 28 2 = 0 := zI_ne eσ8 (by decide) f28_2
  have f31_0 : σ8.1 31 0 = 1 := zI_eq eσ8 ((pk_un (by decide)).trans f31_0)
  have f32_0 : σ8.1 32 0 = 0 := zI_ne eσ8 (by decide) f32_0
  have f31_1 : σ8.1 31 1 = 1 := zI_eq eσ8 pk_us
  have hR : zRef o σ8.2.2 := zI_ref eσ8 hR
  have hF : zFr [28, 31, 32] σ σ8 := zFr_I eσ8 hF (by decide)
  refine lv_aload_n (pc := 30) hx hb dX10_clear_30 rfl (lv_at hl 1 rfl) ?_
  refine zgetR (pc := 31) (k := 28) (j := 6) (a := o + 32) zc10 hx hb hts hown hK hP rfl (by decide) rfl (hR 28 6 rfl) zf_X10_31 dX10_clear_31 ?_
  refine lv_iload_n (pc := 34) hx hb dX10_clear_34 rfl (lv_at hl 0 rfl) ?_
  refine lv_iload_n (pc := 35) hx hb dX10_clear_35 rfl (lv_at hl 0 rfl) ?_
  refine ziast (pc := 36) (k := 32) (n := 10) hx hb hK hP hS rfl (by decide) (vp_in_iff.mpr ⟨by decide, by decide⟩) dX10_clear_36 (fun H locs hP hS => ?_)
  obtain ⟨σ9, eσ9⟩ : ∃ x : zS, x = zI σ8 32 (upd (σ8.1 32) 1 1) := ⟨_, rfl⟩
  have hP : zP D c o σ9 H := by rw [eσ9]; exact hP
  have f28_0 : σ9.1 28 0 = 0 := zI_ne eσ9 (by decide) f28_0
  have f28_1 : σ9.1 28 1 = 0 := zI_ne eσ9 (by decide) f28_1
  have f28_2 : σ9.1 28 2 = 0 := zI_ne eσ9 (by decide) f28_2
  have f31_0 : σ9.1 31 0 = 1 := zI_ne eσ9 (by decide) f31_0
  have f32_0 : σ9.1 32 0 = 0 := zI_eq eσ9 ((pk_un (by decide)).trans f32_0)
  have f31_1 : σ9.1 31 1 = 1 := zI_ne eσ9 (by decide) f31_1
  have f32_1 : σ9.1 32 1 = 1 := zI_eq eσ9 pk_us
  have hR : zRef o σ9.2.2 := zI_ref eσ9 hR
  have hF : zFr [28, 31, 32] σ σ9 := zFr_I eσ9 hF (by decide)
  refine lv_iinc (pc := 37) (v := 2) (lv' := [(1, .int 2), (0, .ref (o + 28))]) hx hb dX10_clear_37 hl (k := 0) rfl (by decide) (by decide) rfl (fun ls hl => ?_)
  refine lv_goto (pc := 40) (tgt := 17) hx hb dX10_clear_40 (by decide) ?_
  refine lv_iload_n (pc := 17) hx hb dX10_clear_17 rfl (lv_at hl 0 rfl) ?_
  refine lv_bipush (pc := 18) (v := 10) hx hb dX10_clear_18 (by decide) ?_
  refine lv_icmp_ge (pc := 20) (tgt := 43) hx hb dX10_clear_20 (by decide) (fun c10 => absurd c10 (by decide)) (fun _ => ?_)
  refine lv_aload_n (pc := 23) hx hb dX10_clear_23 rfl (lv_at hl 1 rfl) ?_
  refine zgetR (pc := 24) (k := 28) (j := 5) (a := o + 31) zc10 hx hb hts hown hK hP rfl (by decide) rfl (hR 28 5 rfl) zf_X10_28 dX10_clear_24 ?_
  refine lv_iload_n (pc := 27) hx hb dX10_clear_27 rfl (lv_at hl 0 rfl) ?_
  refine lv_iconst (pc := 28) (v := 1) hx hb dX10_clear_28 (by decide) ?_
  refine ziast (pc := 29) (k := 31) (n := 10) hx hb hK hP hS rfl (by decide) (vp_in_iff.mpr ⟨by decide, by decide⟩) dX10_clear_29 (fun H locs hP hS => ?_)
  obtain ⟨σ11, eσ11⟩ : ∃ x : zS, x = zI σ9 31 (upd (σ9.1 31) 2 1) := ⟨_, rfl⟩
  have hP : zP D c o σ11 H := by rw [eσ11]; exact hP
  have f28_0 : σ11.1 28 0 = 0 := zI_ne eσ11 (by decide) f28_0
  have f28_1 : σ11.1 28 1 = 0 := zI_ne eσ11 (by decide) f28_1
  have f28_2 : σ11.1 28 2 = 0 := zI_ne eσ11 (by decide) f28_2
  have f31_0 : σ11.1 31 0 = 1 := zI_eq eσ11 ((pk_un (by decide)).trans f31_0)
  have f32_0 : σ11.1 32 0 = 0 := zI_ne eσ11 (by decide) f32_0
  have f31_1 : σ11.1 31 1 = 1 := zI_eq eσ11 ((pk_un (by decide)).trans f31_1)
  have f32_1 : σ11.1 32 1 = 1 := zI_ne eσ11 (by decide) f32_1
  have f31_2 : σ11.1 31 2 = 1 := zI_eq eσ11 pk_us
  have hR : zRef o σ11.2.2 := zI_ref eσ11 hR
  have hF : zFr [28, 31, 32] σ σ11 := zFr_I eσ11 hF (by decide)
  refine lv_aload_n (pc := 30) hx hb dX10_clear_30 rfl (lv_at hl 1 rfl) ?_
  refine zgetR (pc := 31) (k := 28) (j := 6) (a := o + 32) zc10 hx hb hts hown hK hP rfl (by decide) rfl (hR 28 6 rfl) zf_X10_31 dX10_clear_31 ?_
  refine lv_iload_n (pc := 34) hx hb dX10_clear_34 rfl (lv_at hl 0 rfl) ?_
  refine lv_iload_n (pc := 35) hx hb dX10_clear_35 rfl (lv_at hl 0 rfl) ?_
  refine ziast (pc := 36) (k := 32) (n := 10) hx hb hK hP hS rfl (by decide) (vp_in_iff.mpr ⟨by decide, by decide⟩) dX10_clear_36 (fun H locs hP hS => ?_)
  obtain ⟨σ12, eσ12⟩ : ∃ x : zS, x = zI σ11 32 (upd (σ11.1 32) 2 2) := ⟨_, rfl⟩
  have hP : zP D c o σ12 H := by rw [eσ12]; exact hP
  have f28_0 : σ12.1 28 0 = 0 := zI_ne eσ12 (by decide) f28_0
  have f28_1 : σ12.1 28 1 = 0 := zI_ne eσ12 (by decide) f28_1
  have f28_2 : σ12.1 28 2 = 0 := zI_ne eσ12 (by decide) f28_2
  have f31_0 : σ12.1 31 0 = 1 := zI_ne eσ12 (by decide) f31_0
  have f32_0 : σ12.1 32 0 = 0 := zI_eq eσ12 ((pk_un (by decide)).trans f32_0)
  have f31_1 : σ12.1 31 1 = 1 := zI_ne eσ12 (by decide) f31_1
  have f32_1 : σ12.1 32 1 = 1 := zI_eq eσ12 ((pk_un (by decide)).trans f32_1)
  have f31_2 : σ12.1 31 2 = 1 := zI_ne eσ12 (by decide) f31_2
  have f32_2 : σ12.1 32 2 = 2 := zI_eq eσ12 pk_us
  have hR : zRef o σ12.2.2 := zI_ref eσ12 hR
  have hF : zFr [28, 31, 32] σ σ12 := zFr_I eσ12 hF (by decide)
  refine lv_iinc (pc := 37) (v := 3) (lv' := [(1, .int 3), (0, .ref (o + 28))]) hx hb dX10_clear_37 hl (k := 0) rfl (by decide) (by decide) rfl (fun ls hl => ?_)
  refine lv_goto (pc := 40) (tgt := 17) hx hb dX10_clear_40 (by decide) ?_
  refine lv_iload_n (pc := 17) hx hb dX10_clear_17 rfl (lv_at hl 0 rfl) ?_
  refine lv_bipush (pc := 18) (v := 10) hx hb dX10_clear_18 (by decide) ?_
  refine lv_icmp_ge (pc := 20) (tgt := 43) hx hb dX10_clear_20 (by decide) (fun c13 => absurd c13 (by decide)) (fun _ => ?_)
  refine lv_aload_n (pc := 23) hx hb dX10_clear_23 rfl (lv_at hl 1 rfl) ?_
  refine zgetR (pc := 24) (k := 28) (j := 5) (a := o + 31) zc10 hx hb hts hown hK hP rfl (by decide) rfl (hR 28 5 rfl) zf_X10_28 dX10_clear_24 ?_
  refine lv_iload_n (pc := 27) hx hb dX10_clear_27 rfl (lv_at hl 0 rfl) ?_
  refine lv_iconst (pc := 28) (v := 1) hx hb dX10_clear_28 (by decide) ?_
  refine ziast (pc := 29) (k := 31) (n := 10) hx hb hK hP hS rfl (by decide) (vp_in_iff.mpr ⟨by decide, by decide⟩) dX10_clear_29 (fun H locs hP hS => ?_)
  obtain ⟨σ14, eσ14⟩ : ∃ x : zS, x = zI σ12 31 (upd (σ12.1 31) 3 1) := ⟨_, rfl⟩
  have hP : zP D c o σ14 H := by rw [eσ14]; exact hP
  have f28_0 : σ14.1 28 0 = 0 := zI_ne eσ14 (by decide) f28_0
  have f28_1 : σ14.1 28 1 = 0 := zI_ne eσ14 (by decide) f28_1
  have f28_2 : σ14.1 28 2 = 0 := zI_ne eσ14 (by decide) f28_2
  have f31_0 : σ14.1 31 0 = 1 := zI_eq eσ14 ((pk_un (by decide)).trans f31_0)
  have f32_0 : σ14.1 32 0 = 0 := zI_ne eσ14 (by decide) f32_0
  have f31_1 : σ14.1 31 1 = 1 := zI_eq eσ14 ((pk_un (by decide)).trans f31_1)
  have f32_1 : σ14.1 32 1 = 1 := zI_ne eσ14 (by decide) f32_1
  have f31_2 : σ14.1 31 2 = 1 := zI_eq eσ14 ((pk_un (by decide)).trans f31_2)
  have f32_2 : σ14.1 32 2 = 2 := zI_ne eσ14 (by decide) f32_2
  have f31_3 : σ14.1 31 3 = 1 := zI_eq eσ14 pk_us
  have hR : zRef o σ14.2.2 := zI_ref eσ14 hR
  have hF : zFr [28, 31, 32] σ σ14 := zFr_I eσ14 hF (by decide)
  refine lv_aload_n (pc := 30) hx hb dX10_clear_30 rfl (lv_at hl 1 rfl) ?_
  refine zgetR (pc := 31) (k := 28) (j := 6) (a := o + 32) zc10 hx hb hts hown hK hP rfl (by decide) rfl (hR 28 6 rfl) zf_X10_31 dX10_clear_31 ?_
  refine lv_iload_n (pc := 34) hx hb dX10_clear_34 rfl (lv_at hl 0 rfl) ?_
  refine lv_iload_n (pc := 35) hx hb dX10_clear_35 rfl (lv_at hl 0 rfl) ?_
  refine ziast (pc := 36) (k := 32) (n := 10) hx hb hK hP hS rfl (by decide) (vp_in_iff.mpr ⟨by decide, by decide⟩) dX10_clear_36 (fun H locs hP hS => ?_)
  obtain ⟨σ15, eσ15⟩ : ∃ x : zS, x = zI σ14 32 (upd (σ14.1 32) 3 3) := ⟨_, rfl⟩
  have hP : zP D c o σ15 H := by rw [eσ15]; exact hP
  have f28_0 : σ15.1 28 0 = 0 := zI_ne eσ15 (by decide) f28_0
  have f28_1 : σ15.1 28 1 = 0 := zI_ne eσ15 (by decide) f28_1
  have f28_2 : σ15.1 28 2 = 0 := zI_ne eσ15 (by decide) f28_2
  have f31_0 : σ15.1 31 0 = 1 := zI_ne eσ15 (by decide) f31_0
  have f32_0 : σ15.1 32 0 = 0 := zI_eq eσ15 ((pk_un (by decide)).trans f32_0)
  have f31_1 : σ15.1 31 1 = 1 := zI_ne eσ15 (by decide) f31_1
  have f32_1 : σ15.1 32 1 = 1 := zI_eq eσ15 ((pk_un (by decide)).trans f32_1)
  have f31_2 : σ15.1 31 2 = 1 := zI_ne eσ15 (by decide) f31_2
  have f32_2 : σ15.1 32 2 = 2 := zI_eq eσ15 ((pk_un (by decide)).trans f32_2)
  have f31_3 : σ15.1 31 3 = 1 := zI_ne eσ15 (by decide) f31_3
  have f32_3 : σ15.1 32 3 = 3 := zI_eq eσ15 pk_us
  have hR : zRef o σ15.2.2 := zI_ref eσ15 hR
  have hF : zFr [28, 31, 32] σ σ15 := zFr_I eσ15 hF (by decide)
  refine lv_iinc (pc := 37) (v := 4) (lv' := [(1, .int 4), (0, .ref (o + 28))]) hx hb dX10_clear_37 hl (k := 0) rfl (by decide) (by decide) rfl (fun ls hl => ?_)
  refine lv_goto (pc := 40) (tgt := 17) hx hb dX10_clear_40 (by decide) ?_
  refine lv_iload_n (pc := 17) hx hb dX10_clear_17 rfl (lv_at hl 0 rfl) ?_
  refine lv_bipush (pc := 18) (v := 10) hx hb dX10_clear_18 (by decide) ?_
  refine lv_icmp_ge (pc := 20) (tgt := 43) hx hb dX10_clear_20 (by decide) (fun c16 => absurd c16 (by decide)) (fun _ => ?_)
  refine lv_aload_n (pc := 23) hx hb dX10_clear_23 rfl (lv_at hl 1 rfl) ?_
  refine zgetR (pc := 24) (k := 28) (j := 5) (a := o + 31) zc10 hx hb hts hown hK hP rfl (by decide) rfl (hR 28 5 rfl) zf_X10_28 dX10_clear_24 ?_
  refine lv_iload_n (pc := 27) hx hb dX10_clear_27 rfl (lv_at hl 0 rfl) ?_
  refine lv_iconst (pc := 28) (v := 1) hx hb dX10_clear_28 (by decide) ?_
  refine ziast (pc := 29) (k := 31) (n := 10) hx hb hK hP hS rfl (by decide) (vp_in_iff.mpr ⟨by decide, by decide⟩) dX10_clear_29 (fun H locs hP hS => ?_)
  obtain ⟨σ17, eσ17⟩ : ∃ x : zS, x = zI σ15 31 (upd (σ15.1 31) 4 1) := ⟨_, rfl⟩
  have hP : zP D c o σ17 H := by rw [eσ17]; exact hP
  have f28_0 : σ17.1 28 0 = 0 := zI_ne eσ17 (by decide) f28_0
  have f28_1 : σ17.1 28 1 = 0 := zI_ne eσ17 (by decide) f28_1
  have f28_2 : σ17.1 28 2 = 0 := zI_ne eσ17 (by decide) f28_2
  have f31_0 : σ17.1 31 0 = 1 := zI_eq eσ17 ((pk_un (by decide)).trans f31_0)
  have f32_0 : σ17.1 32 0 = 0 := zI_ne eσ17 (by decide) f32_0
  have f31_1 : σ17.1 31 1 = 1 := zI_eq eσ17 ((pk_un (by decide)).trans f31_1)
  have f32_1 : σ17.1 32 1 = 1 := zI_ne eσ17 (by decide) f32_1
  have f31_2 : σ17.1 31 2 = 1 := zI_eq eσ17 ((pk_un (by decide)).trans f31_2)
  have f32_2 : σ17.1 32 2 = 2 := zI_ne eσ17 (by decide) f32_2
  have f31_3 : σ17.1 31 3 = 1 := zI_eq eσ17 ((pk_un (by decide)).trans f31_3)
  have f32_3 : σ17.1 32 3 = 3 := zI_ne eσ17 (by decide) f32_3
  have f31_4 : σ17.1 31 4 = 1 := zI_eq eσ17 pk_us
  have hR : zRef o σ17.2.2 := zI_ref eσ17 hR
  have hF : zFr [28, 31, 32] σ σ17 := zFr_I eσ17 hF (by decide)
  refine lv_aload_n (pc := 30) hx hb dX10_clear_30 rfl (lv_at hl 1 rfl) ?_
  refine zgetR (pc := 31) (k := 28) (j := 6) (a := o + 32) zc10 hx hb hts hown hK hP rfl (by decide) rfl (hR 28 6 rfl) zf_X10_31 dX10_clear_31 ?_
  refine lv_iload_n (pc := 34) hx hb dX10_clear_34 rfl (lv_at hl 0 rfl) ?_
  refine lv_iload_n (pc := 35) hx hb dX10_clear_35 rfl (lv_at hl 0 rfl) ?_
  refine ziast (pc := 36) (k := 32) (n := 10) hx hb hK hP hS rfl (by decide) (vp_in_iff.mpr ⟨by decide, by decide⟩) dX10_clear_36 (fun H locs hP hS => ?_)
  obtain ⟨σ18, eσ18⟩ : ∃ x : zS, x = zI σ17 32 (upd (σ17.1 32) 4 4) := ⟨_, rfl⟩
  have hP : zP D c o σ18 H := by rw [eσ18]; exact hP
  have f28_0 : σ18.1 28 0 = 0 := zI_ne eσ18 (by decide) f28_0
  have f28_1 : σ18.1 28 1 = 0 := zI_ne eσ18 (by decide) f28_1
  have f28_2 : σ18.1 28 2 = 0 := zI_ne eσ18 (by decide) f28_2
  have f31_0 : σ18.1 31 0 = 1 := zI_ne eσ18 (by decide) f31_0
  have f32_0 : σ18.1 32 0 = 0 := zI_eq eσ18 ((pk_un (by decide)).trans f32_0)
  have f31_1 : σ18.1 31 1 = 1 := zI_ne eσ18 (by decide) f31_1
  have f32_1 : σ18.1 32 1 = 1 := zI_eq eσ18 ((pk_un (by decide)).trans f32_1)
  have f31_2 : σ18.1 31 2 = 1 := zI_ne eσ18 (by decide) f31_2
  have f32_2 : σ18.1 32 2 = 2 := zI_eq eσ18 ((pk_un (by decide)).trans f32_2)
  have f31_3 : σ18.1 31 3 = 1 := zI_ne eσ18 (by decide) f31_3
  have f32_3 : σ18.1 32 3 = 3 := zI_eq eσ18 ((pk_un (by decide)).trans f32_3)
  have f31_4 : σ18.1 31 4 = 1 := zI_ne eσ18 (by decide) f31_4
  have f32_4 : σ18.1 32 4 = 4 := zI_eq eσ18 pk_us
  have hR : zRef o σ18.2.2 := zI_ref eσ18 hR
  have hF : zFr [28, 31, 32] σ σ18 := zFr_I eσ18 hF (by decide)
  refine lv_iinc (pc := 37) (v := 5) (lv' := [(1, .int 5), (0, .ref (o + 28))]) hx hb dX10_clear_37 hl (k := 0) rfl (by decide) (by decide) rfl (fun ls hl => ?_)
  refine lv_goto (pc := 40) (tgt := 17) hx hb dX10_clear_40 (by decide) ?_
  refine lv_iload_n (pc := 17) hx hb dX10_clear_17 rfl (lv_at hl 0 rfl) ?_
  refine lv_bipush (pc := 18) (v := 10) hx hb dX10_clear_18 (by decide) ?_
  refine lv_icmp_ge (pc := 20) (tgt := 43) hx hb dX10_clear_20 (by decide) (fun c19 => absurd c19 (by decide)) (fun _ => ?_)
  refine lv_aload_n (pc := 23) hx hb dX10_clear_23 rfl (lv_at hl 1 rfl) ?_
  refine zgetR (pc := 24) (k := 28) (j := 5) (a := o + 31) zc10 hx hb hts hown hK hP rfl (by decide) rfl (hR 28 5 rfl) zf_X10_28 dX10_clear_24 ?_
  refine lv_iload_n (pc := 27) hx hb dX10_clear_27 rfl (lv_at hl 0 rfl) ?_
  refine lv_iconst (pc := 28) (v := 1) hx hb dX10_clear_28 (by decide) ?_
  refine ziast (pc := 29) (k := 31) (n := 10) hx hb hK hP hS rfl (by decide) (vp_in_iff.mpr ⟨by decide, by decide⟩) dX10_clear_29 (fun H locs hP hS => ?_)
  obtain ⟨σ20, eσ20⟩ : ∃ x : zS, x = zI σ18 31 (upd (σ18.1 31) 5 1) := ⟨_, rfl⟩
  have hP : zP D c o σ20 H := by rw [eσ20]; exact hP
  have f28_0 : σ20.1 28 0 = 0 := zI_ne eσ20 (by decide) f28_0
  have f28_1 : σ20.1 28 1 = 0 := zI_ne eσ20 (by decide) f28_1
  have f28_2 : σ20.1 28 2 = 0 := zI_ne eσ20 (by decide) f28_2
  have f31_0 : σ20.1 31 0 = 1 := zI_eq eσ20 ((pk_un (by decide)).trans f31_0)
  have f32_0 : σ20.1 32 0 = 0 := zI_ne eσ20 (by decide) f32_0
  have f31_1 : σ20.1 31 1 = 1 := zI_eq eσ20 ((pk_un (by decide)).trans f31_1)
  have f32_1 : σ20.1 32 1 = 1 := zI_ne eσ20 (by decide) f32_1
  have f31_2 : σ20.1 31 2 = 1 := zI_eq eσ20 ((pk_un (by decide)).trans f31_2)
  have f32_2 : σ20.1 32 2 = 2 := zI_ne eσ20 (by decide) f32_2
  have f31_3 : σ20.1 31 3 = 1 := zI_eq eσ20 ((pk_un (by decide)).trans f31_3)
  have f32_3 : σ20.1 32 3 = 3 := zI_ne eσ20 (by decide) f32_3
  have f31_4 : σ20.1 31 4 = 1 := zI_eq eσ20 ((pk_un (by decide)).trans f31_4)
  have f32_4 : σ20.1 32 4 = 4 := zI_ne eσ20 (by decide) f32_4
  have f31_5 : σ20.1 31 5 = 1 := zI_eq eσ20 pk_us
  have hR : zRef o σ20.2.2 := zI_ref eσ20 hR
  have hF : zFr [28, 31, 32] σ σ20 := zFr_I eσ20 hF (by decide)
  refine lv_aload_n (pc := 30) hx hb dX10_clear_30 rfl (lv_at hl 1 rfl) ?_
  refine zgetR (pc := 31) (k := 28) (j := 6) (a := o + 32) zc10 hx hb hts hown hK hP rfl (by decide) rfl (hR 28 6 rfl) zf_X10_31 dX10_clear_31 ?_
  refine lv_iload_n (pc := 34) hx hb dX10_clear_34 rfl (lv_at hl 0 rfl) ?_
  refine lv_iload_n (pc := 35) hx hb dX10_clear_35 rfl (lv_at hl 0 rfl) ?_
  refine ziast (pc := 36) (k := 32) (n := 10) hx hb hK hP hS rfl (by decide) (vp_in_iff.mpr ⟨by decide, by decide⟩) dX10_clear_36 (fun H locs hP hS => ?_)
  obtain ⟨σ21, eσ21⟩ : ∃ x : zS, x = zI σ20 32 (upd (σ20.1 32) 5 5) := ⟨_, rfl⟩
  have hP : zP D c o σ21 H := by rw [eσ21]; exact hP
  have f28_0 : σ21.1 28 0 = 0 := zI_ne eσ21 (by decide) f28_0
  have f28_1 : σ21.1 28 1 = 0 := zI_ne eσ21 (by decide) f28_1
  have f28_2 : σ21.1 28 2 = 0 := zI_ne eσ21 (by decide) f28_2
  have f31_0 : σ21.1 31 0 = 1 := zI_ne eσ21 (by decide) f31_0
  have f32_0 : σ21.1 32 0 = 0 := zI_eq eσ21 ((pk_un (by decide)).trans f32_0)
  have f31_1 : σ21.1 31 1 = 1 := zI_ne eσ21 (by decide) f31_1
  have f32_1 : σ21.1 32 1 = 1 := zI_eq eσ21 ((pk_un (by decide)).trans f32_1)
  have f31_2 : σ21.1 31 2 = 1 := zI_ne eσ21 (by decide) f31_2
  have f32_2 : σ21.1 32 2 = 2 := zI_eq eσ21 ((pk_un (by decide)).trans f32_2)
  have f31_3 : σ21.1 31 3 = 1 := zI_ne eσ21 (by decide) f31_3
  have f32_3 : σ21.1 32 3 = 3 := zI_eq eσ21 ((pk_un (by decide)).trans f32_3)
  have f31_4 : σ21.1 31 4 = 1 := zI_ne eσ21 (by decide) f31_4
  have f32_4 : σ21.1 32 4 = 4 := zI_eq eσ21 ((pk_un (by decide)).trans f32_4)
  have f31_5 : σ21.1 31 5 = 1 := zI_ne eσ21 (by decide) f31_5
  have f32_5 : σ21.1 32 5 = 5 := zI_eq eσ21 pk_us
  have hR : zRef o σ21.2.2 := zI_ref eσ21 hR
  have hF : zFr [28, 31, 32] σ σ21 := zFr_I eσ21 hF (by decide)
  refine lv_iinc (pc := 37) (v := 6) (lv' := [(1, .int 6), (0, .ref (o + 28))]) hx hb dX10_clear_37 hl (k := 0) rfl (by decide) (by decide) rfl (fun ls hl => ?_)
  refine lv_goto (pc := 40) (tgt := 17) hx hb dX10_clear_40 (by decide) ?_
  refine lv_iload_n (pc := 17) hx hb dX10_clear_17 rfl (lv_at hl 0 rfl) ?_
  refine lv_bipush (pc := 18) (v := 10) hx hb dX10_clear_18 (by decide) ?_
  refine lv_icmp_ge (pc := 20) (tgt := 43) hx hb dX10_clear_20 (by decide) (fun c22 => absurd c22 (by decide)) (fun _ => ?_)
  refine lv_aload_n (pc := 23) hx hb dX10_clear_23 rfl (lv_at hl 1 rfl) ?_
  refine zgetR (pc := 24) (k := 28) (j := 5) (a := o + 31) zc10 hx hb hts hown hK hP rfl (by decide) rfl (hR 28 5 rfl) zf_X10_28 dX10_clear_24 ?_
  refine lv_iload_n (pc := 27) hx hb dX10_clear_27 rfl (lv_at hl 0 rfl) ?_
  refine lv_iconst (pc := 28) (v := 1) hx hb dX10_clear_28 (by decide) ?_
  refine ziast (pc := 29) (k := 31) (n := 10) hx hb hK hP hS rfl (by decide) (vp_in_iff.mpr ⟨by decide, by decide⟩) dX10_clear_29 (fun H locs hP hS => ?_)
  obtain ⟨σ23, eσ23⟩ : ∃ x : zS, x = zI σ21 31 (upd (σ21.1 31) 6 1) := ⟨_, rfl⟩
  have hP : zP D c o σ23 H := by rw [eσ23]; exact hP
  have f28_0 : σ23.1 28 0 = 0 := zI_ne eσ23 (by decide) f28_0
  have f28_1 : σ23.1 28 1 = 0 := zI_ne eσ23 (by decide) f28_1
  have f28_2 : σ23.1 28 2 = 0 := zI_ne eσ23 (by decide) f28_2
  have f31_0 : σ23.1 31 0 = 1 := zI_eq eσ23 ((pk_un (by decide)).trans f31_0)
  have f32_0 : σ23.1 32 0 = 0 := zI_ne eσ23 (by decide) f32_0
  have f31_1 : σ23.1 31 1 = 1 := zI_eq eσ23 ((pk_un (by decide)).trans f31_1)
  have f32_1 : σ23.1 32 1 = 1 := zI_ne eσ23 (by decide) f32_1
  have f31_2 : σ23.1 31 2 = 1 := zI_eq eσ23 ((pk_un (by decide)).trans f31_2)
  have f32_2 : σ23.1 32 2 = 2 := zI_ne eσ23 (by decide) f32_2
  have f31_3 : σ23.1 31 3 = 1 := zI_eq eσ23 ((pk_un (by decide)).trans f31_3)
  have f32_3 : σ23.1 32 3 = 3 := zI_ne eσ23 (by decide) f32_3
  have f31_4 : σ23.1 31 4 = 1 := zI_eq eσ23 ((pk_un (by decide)).trans f31_4)
  have f32_4 : σ23.1 32 4 = 4 := zI_ne eσ23 (by decide) f32_4
  have f31_5 : σ23.1 31 5 = 1 := zI_eq eσ23 ((pk_un (by decide)).trans f31_5)
  have f32_5 : σ23.1 32 5 = 5 := zI_ne eσ23 (by decide) f32_5
  have f31_6 : σ23.1 31 6 = 1 := zI_eq eσ23 pk_us
  have hR : zRef o σ23.2.2 := zI_ref eσ23 hR
  have hF : zFr [28, 31, 32] σ σ23 := zFr_I eσ23 hF (by decide)
  refine lv_aload_n (pc := 30) hx hb dX10_clear_30 rfl (lv_at hl 1 rfl) ?_
  refine zgetR (pc := 31) (k := 28) (j := 6) (a := o + 32) zc10 hx hb hts hown hK hP rfl (by decide) rfl (hR 28 6 rfl) zf_X10_31 dX10_clear_31 ?_
  refine lv_iload_n (pc := 34) hx hb dX10_clear_34 rfl (lv_at hl 0 rfl) ?_
  refine lv_iload_n (pc := 35) hx hb dX10_clear_35 rfl (lv_at hl 0 rfl) ?_
  refine ziast (pc := 36) (k := 32) (n := 10) hx hb hK hP hS rfl (by decide) (vp_in_iff.mpr ⟨by decide, by decide⟩) dX10_clear_36 (fun H locs hP hS => ?_)
  obtain ⟨σ24, eσ24⟩ : ∃ x : zS, x = zI σ23 32 (upd (σ23.1 32) 6 6) := ⟨_, rfl⟩
  have hP : zP D c o σ24 H := by rw [eσ24]; exact hP
  have f28_0 : σ24.1 28 0 = 0 := zI_ne eσ24 (by decide) f28_0
  have f28_1 : σ24.1 28 1 = 0 := zI_ne eσ24 (by decide) f28_1
  have f28_2 : σ24.1 28 2 = 0 := zI_ne eσ24 (by decide) f28_2
  have f31_0 : σ24.1 31 0 = 1 := zI_ne eσ24 (by decide) f31_0
  have f32_0 : σ24.1 32 0 = 0 := zI_eq eσ24 ((pk_un (by decide)).trans f32_0)
  have f31_1 : σ24.1 31 1 = 1 := zI_ne eσ24 (by decide) f31_1
  have f32_1 : σ24.1 32 1 = 1 := zI_eq eσ24 ((pk_un (by decide)).trans f32_1)
  have f31_2 : σ24.1 31 2 = 1 := zI_ne eσ24 (by decide) f31_2
  have f32_2 : σ24.1 32 2 = 2 := zI_eq eσ24 ((pk_un (by decide)).trans f32_2)
  have f31_3 : σ24.1 31 3 = 1 := zI_ne eσ24 (by decide) f31_3
  have f32_3 : σ24.1 32 3 = 3 := zI_eq eσ24 ((pk_un (by decide)).trans f32_3)
  have f31_4 : σ24.1 31 4 = 1 := zI_ne eσ24 (by decide) f31_4
  have f32_4 : σ24.1 32 4 = 4 := zI_eq eσ24 ((pk_un (by decide)).trans f32_4)
  have f31_5 : σ24.1 31 5 = 1 := zI_ne eσ24 (by decide) f31_5
  have f32_5 : σ24.1 32 5 = 5 := zI_eq eσ24 ((pk_un (by decide)).trans f32_5)
  have f31_6 : σ24.1 31 6 = 1 := zI_ne eσ24 (by decide) f31_6
  have f32_6 : σ24.1 32 6 = 6 := zI_eq eσ24 pk_us
  have hR : zRef o σ24.2.2 := zI_ref eσ24 hR
  have hF : zFr [28, 31, 32] σ σ24 := zFr_I eσ24 hF (by decide)
  refine lv_iinc (pc := 37) (v := 7) (lv' := [(1, .int 7), (0, .ref (o + 28))]) hx hb dX10_clear_37 hl (k := 0) rfl (by decide) (by decide) rfl (fun ls hl => ?_)
  refine lv_goto (pc := 40) (tgt := 17) hx hb dX10_clear_40 (by decide) ?_
  refine lv_iload_n (pc := 17) hx hb dX10_clear_17 rfl (lv_at hl 0 rfl) ?_
  refine lv_bipush (pc := 18) (v := 10) hx hb dX10_clear_18 (by decide) ?_
  refine lv_icmp_ge (pc := 20) (tgt := 43) hx hb dX10_clear_20 (by decide) (fun c25 => absurd c25 (by decide)) (fun _ => ?_)
  refine lv_aload_n (pc := 23) hx hb dX10_clear_23 rfl (lv_at hl 1 rfl) ?_
  refine zgetR (pc := 24) (k := 28) (j := 5) (a := o + 31) zc10 hx hb hts hown hK hP rfl (by decide) rfl (hR 28 5 rfl) zf_X10_28 dX10_clear_24 ?_
  refine lv_iload_n (pc := 27) hx hb dX10_clear_27 rfl (lv_at hl 0 rfl) ?_
  refine lv_iconst (pc := 28) (v := 1) hx hb dX10_clear_28 (by decide) ?_
  refine ziast (pc := 29) (k := 31) (n := 10) hx hb hK hP hS rfl (by decide) (vp_in_iff.mpr ⟨by decide, by decide⟩) dX10_clear_29 (fun H locs hP hS => ?_)
  obtain ⟨σ26, eσ26⟩ : ∃ x : zS, x = zI σ24 31 (upd (σ24.1 31) 7 1) := ⟨_, rfl⟩
  have hP : zP D c o σ26 H := by rw [eσ26]; exact hP
  have f28_0 : σ26.1 28 0 = 0 := zI_ne eσ26 (by decide) f28_0
  have f28_1 : σ26.1 28 1 = 0 := zI_ne eσ26 (by decide) f28_1
  have f28_2 : σ26.1 28 2 = 0 := zI_ne eσ26 (by decide) f28_2
  have f31_0 : σ26.1 31 0 = 1 := zI_eq eσ26 ((pk_un (by decide)).trans f31_0)
  have f32_0 : σ26.1 32 0 = 0 := zI_ne eσ26 (by decide) f32_0
  have f31_1 : σ26.1 31 1 = 1 := zI_eq eσ26 ((pk_un (by decide)).trans f31_1)
  have f32_1 : σ26.1 32 1 = 1 := zI_ne eσ26 (by decide) f32_1
  have f31_2 : σ26.1 31 2 = 1 := zI_eq eσ26 ((pk_un (by decide)).trans f31_2)
  have f32_2 : σ26.1 32 2 = 2 := zI_ne eσ26 (by decide) f32_2
  have f31_3 : σ26.1 31 3 = 1 := zI_eq eσ26 ((pk_un (by decide)).trans f31_3)
  have f32_3 : σ26.1 32 3 = 3 := zI_ne eσ26 (by decide) f32_3
  have f31_4 : σ26.1 31 4 = 1 := zI_eq eσ26 ((pk_un (by decide)).trans f31_4)
  have f32_4 : σ26.1 32 4 = 4 := zI_ne eσ26 (by decide) f32_4
  have f31_5 : σ26.1 31 5 = 1 := zI_eq eσ26 ((pk_un (by decide)).trans f31_5)
  have f32_5 : σ26.1 32 5 = 5 := zI_ne eσ26 (by decide) f32_5
  have f31_6 : σ26.1 31 6 = 1 := zI_eq eσ26 ((pk_un (by decide)).trans f31_6)
  have f32_6 : σ26.1 32 6 = 6 := zI_ne eσ26 (by decide) f32_6
  have f31_7 : σ26.1 31 7 = 1 := zI_eq eσ26 pk_us
  have hR : zRef o σ26.2.2 := zI_ref eσ26 hR
  have hF : zFr [28, 31, 32] σ σ26 := zFr_I eσ26 hF (by decide)
  refine lv_aload_n (pc := 30) hx hb dX10_clear_30 rfl (lv_at hl 1 rfl) ?_
  refine zgetR (pc := 31) (k := 28) (j := 6) (a := o + 32) zc10 hx hb hts hown hK hP rfl (by decide) rfl (hR 28 6 rfl) zf_X10_31 dX10_clear_31 ?_
  refine lv_iload_n (pc := 34) hx hb dX10_clear_34 rfl (lv_at hl 0 rfl) ?_
  refine lv_iload_n (pc := 35) hx hb dX10_clear_35 rfl (lv_at hl 0 rfl) ?_
  refine ziast (pc := 36) (k := 32) (n := 10) hx hb hK hP hS rfl (by decide) (vp_in_iff.mpr ⟨by decide, by decide⟩) dX10_clear_36 (fun H locs hP hS => ?_)
  obtain ⟨σ27, eσ27⟩ : ∃ x : zS, x = zI σ26 32 (upd (σ26.1 32) 7 7) := ⟨_, rfl⟩
  have hP : zP D c o σ27 H := by rw [eσ27]; exact hP
  have f28_0 : σ27.1 28 0 = 0 := zI_ne eσ27 (by decide) f28_0
  have f28_1 : σ27.1 28 1 = 0 := zI_ne eσ27 (by decide) f28_1
  have f28_2 : σ27.1 28 2 = 0 := zI_ne eσ27 (by decide) f28_2
  have f31_0 : σ27.1 31 0 = 1 := zI_ne eσ27 (by decide) f31_0
  have f32_0 : σ27.1 32 0 = 0 := zI_eq eσ27 ((pk_un (by decide)).trans f32_0)
  have f31_1 : σ27.1 31 1 = 1 := zI_ne eσ27 (by decide) f31_1
  have f32_1 : σ27.1 32 1 = 1 := zI_eq eσ27 ((pk_un (by decide)).trans f32_1)
  have f31_2 : σ27.1 31 2 = 1 := zI_ne eσ27 (by decide) f31_2
  have f32_2 : σ27.1 32 2 = 2 := zI_eq eσ27 ((pk_un (by decide)).trans f32_2)
  have f31_3 : σ27.1 31 3 = 1 := zI_ne eσ27 (by decide) f31_3
  have f32_3 : σ27.1 32 3 = 3 := zI_eq eσ27 ((pk_un (by decide)).trans f32_3)
  have f31_4 : σ27.1 31 4 = 1 := zI_ne eσ27 (by decide) f31_4
  have f32_4 : σ27.1 32 4 = 4 := zI_eq eσ27 ((pk_un (by decide)).trans f32_4)
  have f31_5 : σ27.1 31 5 = 1 := zI_ne eσ27 (by decide) f31_5
  have f32_5 : σ27.1 32 5 = 5 := zI_eq eσ27 ((pk_un (by decide)).trans f32_5)
  have f31_6 : σ27.1 31 6 = 1 := zI_ne eσ27 (by decide) f31_6
  have f32_6 : σ27.1 32 6 = 6 := zI_eq eσ27 ((pk_un (by decide)).trans f32_6)
  have f31_7 : σ27.1 31 7 = 1 := zI_ne eσ27 (by decide) f31_7
  have f32_7 : σ27.1 32 7 = 7 := zI_eq eσ27 pk_us
  have hR : zRef o σ27.2.2 := zI_ref eσ27 hR
  have hF : zFr [28, 31, 32] σ σ27 := zFr_I eσ27 hF (by decide)
  refine lv_iinc (pc := 37) (v := 8) (lv' := [(1, .int 8), (0, .ref (o + 28))]) hx hb dX10_clear_37 hl (k := 0) rfl (by decide) (by decide) rfl (fun ls hl => ?_)
  refine lv_goto (pc := 40) (tgt := 17) hx hb dX10_clear_40 (by decide) ?_
  refine lv_iload_n (pc := 17) hx hb dX10_clear_17 rfl (lv_at hl 0 rfl) ?_
  refine lv_bipush (pc := 18) (v := 10) hx hb dX10_clear_18 (by decide) ?_
  refine lv_icmp_ge (pc := 20) (tgt := 43) hx hb dX10_clear_20 (by decide) (fun c28 => absurd c28 (by decide)) (fun _ => ?_)
  refine lv_aload_n (pc := 23) hx hb dX10_clear_23 rfl (lv_at hl 1 rfl) ?_
  refine zgetR (pc := 24) (k := 28) (j := 5) (a := o + 31) zc10 hx hb hts hown hK hP rfl (by decide) rfl (hR 28 5 rfl) zf_X10_28 dX10_clear_24 ?_
  refine lv_iload_n (pc := 27) hx hb dX10_clear_27 rfl (lv_at hl 0 rfl) ?_
  refine lv_iconst (pc := 28) (v := 1) hx hb dX10_clear_28 (by decide) ?_
  refine ziast (pc := 29) (k := 31) (n := 10) hx hb hK hP hS rfl (by decide) (vp_in_iff.mpr ⟨by decide, by decide⟩) dX10_clear_29 (fun H locs hP hS => ?_)
  obtain ⟨σ29, eσ29⟩ : ∃ x : zS, x = zI σ27 31 (upd (σ27.1 31) 8 1) := ⟨_, rfl⟩
  have hP : zP D c o σ29 H := by rw [eσ29]; exact hP
  have f28_0 : σ29.1 28 0 = 0 := zI_ne eσ29 (by decide) f28_0
  have f28_1 : σ29.1 28 1 = 0 := zI_ne eσ29 (by decide) f28_1
  have f28_2 : σ29.1 28 2 = 0 := zI_ne eσ29 (by decide) f28_2
  have f31_0 : σ29.1 31 0 = 1 := zI_eq eσ29 ((pk_un (by decide)).trans f31_0)
  have f32_0 : σ29.1 32 0 = 0 := zI_ne eσ29 (by decide) f32_0
  have f31_1 : σ29.1 31 1 = 1 := zI_eq eσ29 ((pk_un (by decide)).trans f31_1)
  have f32_1 : σ29.1 32 1 = 1 := zI_ne eσ29 (by decide) f32_1
  have f31_2 : σ29.1 31 2 = 1 := zI_eq eσ29 ((pk_un (by decide)).trans f31_2)
  have f32_2 : σ29.1 32 2 = 2 := zI_ne eσ29 (by decide) f32_2
  have f31_3 : σ29.1 31 3 = 1 := zI_eq eσ29 ((pk_un (by decide)).trans f31_3)
  have f32_3 : σ29.1 32 3 = 3 := zI_ne eσ29 (by decide) f32_3
  have f31_4 : σ29.1 31 4 = 1 := zI_eq eσ29 ((pk_un (by decide)).trans f31_4)
  have f32_4 : σ29.1 32 4 = 4 := zI_ne eσ29 (by decide) f32_4
  have f31_5 : σ29.1 31 5 = 1 := zI_eq eσ29 ((pk_un (by decide)).trans f31_5)
  have f32_5 : σ29.1 32 5 = 5 := zI_ne eσ29 (by decide) f32_5
  have f31_6 : σ29.1 31 6 = 1 := zI_eq eσ29 ((pk_un (by decide)).trans f31_6)
  have f32_6 : σ29.1 32 6 = 6 := zI_ne eσ29 (by decide) f32_6
  have f31_7 : σ29.1 31 7 = 1 := zI_eq eσ29 ((pk_un (by decide)).trans f31_7)
  have f32_7 : σ29.1 32 7 = 7 := zI_ne eσ29 (by decide) f32_7
  have f31_8 : σ29.1 31 8 = 1 := zI_eq eσ29 pk_us
  have hR : zRef o σ29.2.2 := zI_ref eσ29 hR
  have hF : zFr [28, 31, 32] σ σ29 := zFr_I eσ29 hF (by decide)
  refine lv_aload_n (pc := 30) hx hb dX10_clear_30 rfl (lv_at hl 1 rfl) ?_
  refine zgetR (pc := 31) (k := 28) (j := 6) (a := o + 32) zc10 hx hb hts hown hK hP rfl (by decide) rfl (hR 28 6 rfl) zf_X10_31 dX10_clear_31 ?_
  refine lv_iload_n (pc := 34) hx hb dX10_clear_34 rfl (lv_at hl 0 rfl) ?_
  refine lv_iload_n (pc := 35) hx hb dX10_clear_35 rfl (lv_at hl 0 rfl) ?_
  refine ziast (pc := 36) (k := 32) (n := 10) hx hb hK hP hS rfl (by decide) (vp_in_iff.mpr ⟨by decide, by decide⟩) dX10_clear_36 (fun H locs hP hS => ?_)
  obtain ⟨σ30, eσ30⟩ : ∃ x : zS, x = zI σ29 32 (upd (σ29.1 32) 8 8) := ⟨_, rfl⟩
  have hP : zP D c o σ30 H := by rw [eσ30]; exact hP
  have f28_0 : σ30.1 28 0 = 0 := zI_ne eσ30 (by decide) f28_0
  have f28_1 : σ30.1 28 1 = 0 := zI_ne eσ30 (by decide) f28_1
  have f28_2 : σ30.1 28 2 = 0 := zI_ne eσ30 (by decide) f28_2
  have f31_0 : σ30.1 31 0 = 1 := zI_ne eσ30 (by decide) f31_0
  have f32_0 : σ30.1 32 0 = 0 := zI_eq eσ30 ((pk_un (by decide)).trans f32_0)
  have f31_1 : σ30.1 31 1 = 1 := zI_ne eσ30 (by decide) f31_1
  have f32_1 : σ30.1 32 1 = 1 := zI_eq eσ30 ((pk_un (by decide)).trans f32_1)
  have f31_2 : σ30.1 31 2 = 1 := zI_ne eσ30 (by decide) f31_2
  have f32_2 : σ30.1 32 2 = 2 := zI_eq eσ30 ((pk_un (by decide)).trans f32_2)
  have f31_3 : σ30.1 31 3 = 1 := zI_ne eσ30 (by decide) f31_3
  have f32_3 : σ30.1 32 3 = 3 := zI_eq eσ30 ((pk_un (by decide)).trans f32_3)
  have f31_4 : σ30.1 31 4 = 1 := zI_ne eσ30 (by decide) f31_4
  have f32_4 : σ30.1 32 4 = 4 := zI_eq eσ30 ((pk_un (by decide)).trans f32_4)
  have f31_5 : σ30.1 31 5 = 1 := zI_ne eσ30 (by decide) f31_5
  have f32_5 : σ30.1 32 5 = 5 := zI_eq eσ30 ((pk_un (by decide)).trans f32_5)
  have f31_6 : σ30.1 31 6 = 1 := zI_ne eσ30 (by decide) f31_6
  have f32_6 : σ30.1 32 6 = 6 := zI_eq eσ30 ((pk_un (by decide)).trans f32_6)
  have f31_7 : σ30.1 31 7 = 1 := zI_ne eσ30 (by decide) f31_7
  have f32_7 : σ30.1 32 7 = 7 := zI_eq eσ30 ((pk_un (by decide)).trans f32_7)
  have f31_8 : σ30.1 31 8 = 1 := zI_ne eσ30 (by decide) f31_8
  have f32_8 : σ30.1 32 8 = 8 := zI_eq eσ30 pk_us
  have hR : zRef o σ30.2.2 := zI_ref eσ30 hR
  have hF : zFr [28, 31, 32] σ σ30 := zFr_I eσ30 hF (by decide)
  refine lv_iinc (pc := 37) (v := 9) (lv' := [(1, .int 9), (0, .ref (o + 28))]) hx hb dX10_clear_37 hl (k := 0) rfl (by decide) (by decide) rfl (fun ls hl => ?_)
  refine lv_goto (pc := 40) (tgt := 17) hx hb dX10_clear_40 (by decide) ?_
  refine lv_iload_n (pc := 17) hx hb dX10_clear_17 rfl (lv_at hl 0 rfl) ?_
  refine lv_bipush (pc := 18) (v := 10) hx hb dX10_clear_18 (by decide) ?_
  refine lv_icmp_ge (pc := 20) (tgt := 43) hx hb dX10_clear_20 (by decide) (fun c31 => absurd c31 (by decide)) (fun _ => ?_)
  refine lv_aload_n (pc := 23) hx hb dX10_clear_23 rfl (lv_at hl 1 rfl) ?_
  refine zgetR (pc := 24) (k := 28) (j := 5) (a := o + 31) zc10 hx hb hts hown hK hP rfl (by decide) rfl (hR 28 5 rfl) zf_X10_28 dX10_clear_24 ?_
  refine lv_iload_n (pc := 27) hx hb dX10_clear_27 rfl (lv_at hl 0 rfl) ?_
  refine lv_iconst (pc := 28) (v := 1) hx hb dX10_clear_28 (by decide) ?_
  refine ziast (pc := 29) (k := 31) (n := 10) hx hb hK hP hS rfl (by decide) (vp_in_iff.mpr ⟨by decide, by decide⟩) dX10_clear_29 (fun H locs hP hS => ?_)
  obtain ⟨σ32, eσ32⟩ : ∃ x : zS, x = zI σ30 31 (upd (σ30.1 31) 9 1) := ⟨_, rfl⟩
  have hP : zP D c o σ32 H := by rw [eσ32]; exact hP
  have f28_0 : σ32.1 28 0 = 0 := zI_ne eσ32 (by decide) f28_0
  have f28_1 : σ32.1 28 1 = 0 := zI_ne eσ32 (by decide) f28_1
  have f28_2 : σ32.1 28 2 = 0 := zI_ne eσ32 (by decide) f28_2
  have f31_0 : σ32.1 31 0 = 1 := zI_eq eσ32 ((pk_un (by decide)).trans f31_0)
  have f32_0 : σ32.1 32 0 = 0 := zI_ne eσ32 (by decide) f32_0
  have f31_1 : σ32.1 31 1 = 1 := zI_eq eσ32 ((pk_un (by decide)).trans f31_1)
  have f32_1 : σ32.1 32 1 = 1 := zI_ne eσ32 (by decide) f32_1
  have f31_2 : σ32.1 31 2 = 1 := zI_eq eσ32 ((pk_un (by decide)).trans f31_2)
  have f32_2 : σ32.1 32 2 = 2 := zI_ne eσ32 (by decide) f32_2
  have f31_3 : σ32.1 31 3 = 1 := zI_eq eσ32 ((pk_un (by decide)).trans f31_3)
  have f32_3 : σ32.1 32 3 = 3 := zI_ne eσ32 (by decide) f32_3
  have f31_4 : σ32.1 31 4 = 1 := zI_eq eσ32 ((pk_un (by decide)).trans f31_4)
  have f32_4 : σ32.1 32 4 = 4 := zI_ne eσ32 (by decide) f32_4
  have f31_5 : σ32.1 31 5 = 1 := zI_eq eσ32 ((pk_un (by decide)).trans f31_5)
  have f32_5 : σ32.1 32 5 = 5 := zI_ne eσ32 (by decide) f32_5
  have f31_6 : σ32.1 31 6 = 1 := zI_eq eσ32 ((pk_un (by decide)).trans f31_6)
  have f32_6 : σ32.1 32 6 = 6 := zI_ne eσ32 (by decide) f32_6
  have f31_7 : σ32.1 31 7 = 1 := zI_eq eσ32 ((pk_un (by decide)).trans f31_7)
  have f32_7 : σ32.1 32 7 = 7 := zI_ne eσ32 (by decide) f32_7
  have f31_8 : σ32.1 31 8 = 1 := zI_eq eσ32 ((pk_un (by decide)).trans f31_8)
  have f32_8 : σ32.1 32 8 = 8 := zI_ne eσ32 (by decide) f32_8
  have f31_9 : σ32.1 31 9 = 1 := zI_eq eσ32 pk_us
  have hR : zRef o σ32.2.2 := zI_ref eσ32 hR
  have hF : zFr [28, 31, 32] σ σ32 := zFr_I eσ32 hF (by decide)
  refine lv_aload_n (pc := 30) hx hb dX10_clear_30 rfl (lv_at hl 1 rfl) ?_
  refine zgetR (pc := 31) (k := 28) (j := 6) (a := o + 32) zc10 hx hb hts hown hK hP rfl (by decide) rfl (hR 28 6 rfl) zf_X10_31 dX10_clear_31 ?_
  refine lv_iload_n (pc := 34) hx hb dX10_clear_34 rfl (lv_at hl 0 rfl) ?_
  refine lv_iload_n (pc := 35) hx hb dX10_clear_35 rfl (lv_at hl 0 rfl) ?_
  refine ziast (pc := 36) (k := 32) (n := 10) hx hb hK hP hS rfl (by decide) (vp_in_iff.mpr ⟨by decide, by decide⟩) dX10_clear_36 (fun H locs hP hS => ?_)
  obtain ⟨σ33, eσ33⟩ : ∃ x : zS, x = zI σ32 32 (upd (σ32.1 32) 9 9) := ⟨_, rfl⟩
  have hP : zP D c o σ33 H := by rw [eσ33]; exact hP
  have f28_0 : σ33.1 28 0 = 0 := zI_ne eσ33 (by decide) f28_0
  have f28_1 : σ33.1 28 1 = 0 := zI_ne eσ33 (by decide) f28_1
  have f28_2 : σ33.1 28 2 = 0 := zI_ne eσ33 (by decide) f28_2
  have f31_0 : σ33.1 31 0 = 1 := zI_ne eσ33 (by decide) f31_0
  have f32_0 : σ33.1 32 0 = 0 := zI_eq eσ33 ((pk_un (by decide)).trans f32_0)
  have f31_1 : σ33.1 31 1 = 1 := zI_ne eσ33 (by decide) f31_1
  have f32_1 : σ33.1 32 1 = 1 := zI_eq eσ33 ((pk_un (by decide)).trans f32_1)
  have f31_2 : σ33.1 31 2 = 1 := zI_ne eσ33 (by decide) f31_2
  have f32_2 : σ33.1 32 2 = 2 := zI_eq eσ33 ((pk_un (by decide)).trans f32_2)
  have f31_3 : σ33.1 31 3 = 1 := zI_ne eσ33 (by decide) f31_3
  have f32_3 : σ33.1 32 3 = 3 := zI_eq eσ33 ((pk_un (by decide)).trans f32_3)
  have f31_4 : σ33.1 31 4 = 1 := zI_ne eσ33 (by decide) f31_4
  have f32_4 : σ33.1 32 4 = 4 := zI_eq eσ33 ((pk_un (by decide)).trans f32_4)
  have f31_5 : σ33.1 31 5 = 1 := zI_ne eσ33 (by decide) f31_5
  have f32_5 : σ33.1 32 5 = 5 := zI_eq eσ33 ((pk_un (by decide)).trans f32_5)
  have f31_6 : σ33.1 31 6 = 1 := zI_ne eσ33 (by decide) f31_6
  have f32_6 : σ33.1 32 6 = 6 := zI_eq eσ33 ((pk_un (by decide)).trans f32_6)
  have f31_7 : σ33.1 31 7 = 1 := zI_ne eσ33 (by decide) f31_7
  have f32_7 : σ33.1 32 7 = 7 := zI_eq eσ33 ((pk_un (by decide)).trans f32_7)
  have f31_8 : σ33.1 31 8 = 1 := zI_ne eσ33 (by decide) f31_8
  have f32_8 : σ33.1 32 8 = 8 := zI_eq eσ33 ((pk_un (by decide)).trans f32_8)
  have f31_9 : σ33.1 31 9 = 1 := zI_ne eσ33 (by decide) f31_9
  have f32_9 : σ33.1 32 9 = 9 := zI_eq eσ33 pk_us
  have hR : zRef o σ33.2.2 := zI_ref eσ33 hR
  have hF : zFr [28, 31, 32] σ σ33 := zFr_I eσ33 hF (by decide)
  refine lv_iinc (pc := 37) (v := 10) (lv' := [(1, .int 10), (0, .ref (o + 28))]) hx hb dX10_clear_37 hl (k := 0) rfl (by decide) (by decide) rfl (fun ls hl => ?_)
  refine lv_goto (pc := 40) (tgt := 17) hx hb dX10_clear_40 (by decide) ?_
  refine lv_iload_n (pc := 17) hx hb dX10_clear_17 rfl (lv_at hl 0 rfl) ?_
  refine lv_bipush (pc := 18) (v := 10) hx hb dX10_clear_18 (by decide) ?_
  refine lv_icmp_ge (pc := 20) (tgt := 43) hx hb dX10_clear_20 (by decide) (fun _ => ?_) (fun c34 => absurd c34 (by decide))
  refine lv_iconst (pc := 43) (v := 0) hx hb dX10_clear_43 (by decide) ?_
  refine lv_istore_n (pc := 44) (lv' := [(1, .int 0), (0, .ref (o + 28))]) hx hb dX10_clear_44 rfl hl (by decide) rfl (fun ls hl => ?_)
  refine lv_iload_n (pc := 45) hx hb dX10_clear_45 rfl (lv_at hl 0 rfl) ?_
  refine lv_bipush (pc := 46) (v := 10) hx hb dX10_clear_46 (by decide) ?_
  refine lv_icmp_ge (pc := 48) (tgt := 66) hx hb dX10_clear_48 (by decide) (fun c35 => absurd c35 (by decide)) (fun _ => ?_)
  refine lv_aload_n (pc := 51) hx hb dX10_clear_51 rfl (lv_at hl 1 rfl) ?_
  refine zgetR (pc := 52) (k := 28) (j := 7) (a := o + 33) zc10 hx hb hts hown hK hP rfl (by decide) rfl (hR 28 7 rfl) zf_X10_36 dX10_clear_52 ?_
  refine lv_iload_n (pc := 55) hx hb dX10_clear_55 rfl (lv_at hl 0 rfl) ?_
  refine zFald (pc := 56) (k := 33) (n := 10) (a := o + 34) hx hb hK hP rfl (by decide) (vp_in_iff.mpr ⟨by decide, by decide⟩) (hR 33 0 rfl) dX10_clear_56 ?_
  refine zcallVv (pc := 57) (k := 34) (As := []) (rest := []) ⟨hx, hb, hml, hown, hts⟩ (cs_X2_clear l D c o σ33 34 35 rfl (by decide) rfl (by decide) (hR 34 0 rfl)) zc2 zV_X10_41 rfl zd_X2_clear ⟨Nat.le_of_ble_eq_true rfl, Nat.le_of_ble_eq_true rfl⟩ hK hP hS rfl (by decide) hl.1 rfl (Nat.le_of_ble_eq_true rfl) ⟨Nat.zero_le _, Nat.zero_le _⟩ dX10_clear_57 (fun σ37 H locs hw38 hP hS => ?_)
  have f28_0 : σ37.1 28 0 = 0 := zFr_i hw38 (by decide) f28_0
  have f28_1 : σ37.1 28 1 = 0 := zFr_i hw38 (by decide) f28_1
  have f28_2 : σ37.1 28 2 = 0 := zFr_i hw38 (by decide) f28_2
  have f31_0 : σ37.1 31 0 = 1 := zFr_i hw38 (by decide) f31_0
  have f32_0 : σ37.1 32 0 = 0 := zFr_i hw38 (by decide) f32_0
  have f31_1 : σ37.1 31 1 = 1 := zFr_i hw38 (by decide) f31_1
  have f32_1 : σ37.1 32 1 = 1 := zFr_i hw38 (by decide) f32_1
  have f31_2 : σ37.1 31 2 = 1 := zFr_i hw38 (by decide) f31_2
  have f32_2 : σ37.1 32 2 = 2 := zFr_i hw38 (by decide) f32_2
  have f31_3 : σ37.1 31 3 = 1 := zFr_i hw38 (by decide) f31_3
  have f32_3 : σ37.1 32 3 = 3 := zFr_i hw38 (by decide) f32_3
  have f31_4 : σ37.1 31 4 = 1 := zFr_i hw38 (by decide) f31_4
  have f32_4 : σ37.1 32 4 = 4 := zFr_i hw38 (by decide) f32_4
  have f31_5 : σ37.1 31 5 = 1 := zFr_i hw38 (by decide) f31_5
  have f32_5 : σ37.1 32 5 = 5 := zFr_i hw38 (by decide) f32_5
  have f31_6 : σ37.1 31 6 = 1 := zFr_i hw38 (by decide) f31_6
  have f32_6 : σ37.1 32 6 = 6 := zFr_i hw38 (by decide) f32_6
  have f31_7 : σ37.1 31 7 = 1 := zFr_i hw38 (by decide) f31_7
  have f32_7 : σ37.1 32 7 = 7 := zFr_i hw38 (by decide) f32_7
  have f31_8 : σ37.1 31 8 = 1 := zFr_i hw38 (by decide) f31_8
  have f32_8 : σ37.1 32 8 = 8 := zFr_i hw38 (by decide) f32_8
  have f31_9 : σ37.1 31 9 = 1 := zFr_i hw38 (by decide) f31_9
  have f32_9 : σ37.1 32 9 = 9 := zFr_i hw38 (by decide) f32_9
  have hR : zRef o σ37.2.2 := zFr_ref hw38 hR
  have hF : zFr [28, 31, 32] σ σ37 := zFr_tr hF hw38 (fun _ h9 => absurd h9 List.not_mem_nil)
  refine lv_iinc (pc := 60) (v := 1) (lv' := [(1, .int 1), (0, .ref (o + 28))]) hx hb dX10_clear_60 hl (k := 0) rfl (by decide) (by decide) rfl (fun ls hl => ?_)
  refine lv_goto (pc := 63) (tgt := 45) hx hb dX10_clear_63 (by decide) ?_
  refine lv_iload_n (pc := 45) hx hb dX10_clear_45 rfl (lv_at hl 0 rfl) ?_
  refine lv_bipush (pc := 46) (v := 10) hx hb dX10_clear_46 (by decide) ?_
  refine lv_icmp_ge (pc := 48) (tgt := 66) hx hb dX10_clear_48 (by decide) (fun c39 => absurd c39 (by decide)) (fun _ => ?_)
  refine lv_aload_n (pc := 51) hx hb dX10_clear_51 rfl (lv_at hl 1 rfl) ?_
  refine zgetR (pc := 52) (k := 28) (j := 7) (a := o + 33) zc10 hx hb hts hown hK hP rfl (by decide) rfl (hR 28 7 rfl) zf_X10_36 dX10_clear_52 ?_
  refine lv_iload_n (pc := 55) hx hb dX10_clear_55 rfl (lv_at hl 0 rfl) ?_
  refine zFald (pc := 56) (k := 33) (n := 10) (a := o + 36) hx hb hK hP rfl (by decide) (vp_in_iff.mpr ⟨by decide, by decide⟩) (hR 33 1 rfl) dX10_clear_56 ?_
  refine zcallVv (pc := 57) (k := 36) (As := []) (rest := []) ⟨hx, hb, hml, hown, hts⟩ (cs_X2_clear l D c o σ37 36 37 rfl (by decide) rfl (by decide) (hR 36 0 rfl)) zc2 zV_X10_41 rfl zd_X2_clear ⟨Nat.le_of_ble_eq_true rfl, Nat.le_of_ble_eq_true rfl⟩ hK hP hS rfl (by decide) hl.1 rfl (Nat.le_of_ble_eq_true rfl) ⟨Nat.zero_le _, Nat.zero_le _⟩ dX10_clear_57 (fun σ41 H locs hw42 hP hS => ?_)
  have f28_0 : σ41.1 28 0 = 0 := zFr_i hw42 (by decide) f28_0
  have f28_1 : σ41.1 28 1 = 0 := zFr_i hw42 (by decide) f28_1
  have f28_2 : σ41.1 28 2 = 0 := zFr_i hw42 (by decide) f28_2
  have f31_0 : σ41.1 31 0 = 1 := zFr_i hw42 (by decide) f31_0
  have f32_0 : σ41.1 32 0 = 0 := zFr_i hw42 (by decide) f32_0
  have f31_1 : σ41.1 31 1 = 1 := zFr_i hw42 (by decide) f31_1
  have f32_1 : σ41.1 32 1 = 1 := zFr_i hw42 (by decide) f32_1
  have f31_2 : σ41.1 31 2 = 1 := zFr_i hw42 (by decide) f31_2
  have f32_2 : σ41.1 32 2 = 2 := zFr_i hw42 (by decide) f32_2
  have f31_3 : σ41.1 31 3 = 1 := zFr_i hw42 (by decide) f31_3
  have f32_3 : σ41.1 32 3 = 3 := zFr_i hw42 (by decide) f32_3
  have f31_4 : σ41.1 31 4 = 1 := zFr_i hw42 (by decide) f31_4
  have f32_4 : σ41.1 32 4 = 4 := zFr_i hw42 (by decide) f32_4
  have f31_5 : σ41.1 31 5 = 1 := zFr_i hw42 (by decide) f31_5
  have f32_5 : σ41.1 32 5 = 5 := zFr_i hw42 (by decide) f32_5
  have f31_6 : σ41.1 31 6 = 1 := zFr_i hw42 (by decide) f31_6
  have f32_6 : σ41.1 32 6 = 6 := zFr_i hw42 (by decide) f32_6
  have f31_7 : σ41.1 31 7 = 1 := zFr_i hw42 (by decide) f31_7
  have f32_7 : σ41.1 32 7 = 7 := zFr_i hw42 (by decide) f32_7
  have f31_8 : σ41.1 31 8 = 1 := zFr_i hw42 (by decide) f31_8
  have f32_8 : σ41.1 32 8 = 8 := zFr_i hw42 (by decide) f32_8
  have f31_9 : σ41.1 31 9 = 1 := zFr_i hw42 (by decide) f31_9
  have f32_9 : σ41.1 32 9 = 9 := zFr_i hw42 (by decide) f32_9
  have hR : zRef o σ41.2.2 := zFr_ref hw42 hR
  have hF : zFr [28, 31, 32] σ σ41 := zFr_tr hF hw42 (fun _ h9 => absurd h9 List.not_mem_nil)
  refine lv_iinc (pc := 60) (v := 2) (lv' := [(1, .int 2), (0, .ref (o + 28))]) hx hb dX10_clear_60 hl (k := 0) rfl (by decide) (by decide) rfl (fun ls hl => ?_)
  refine lv_goto (pc := 63) (tgt := 45) hx hb dX10_clear_63 (by decide) ?_
  refine lv_iload_n (pc := 45) hx hb dX10_clear_45 rfl (lv_at hl 0 rfl) ?_
  refine lv_bipush (pc := 46) (v := 10) hx hb dX10_clear_46 (by decide) ?_
  refine lv_icmp_ge (pc := 48) (tgt := 66) hx hb dX10_clear_48 (by decide) (fun c43 => absurd c43 (by decide)) (fun _ => ?_)
  refine lv_aload_n (pc := 51) hx hb dX10_clear_51 rfl (lv_at hl 1 rfl) ?_
  refine zgetR (pc := 52) (k := 28) (j := 7) (a := o + 33) zc10 hx hb hts hown hK hP rfl (by decide) rfl (hR 28 7 rfl) zf_X10_36 dX10_clear_52 ?_
  refine lv_iload_n (pc := 55) hx hb dX10_clear_55 rfl (lv_at hl 0 rfl) ?_
  refine zFald (pc := 56) (k := 33) (n := 10) (a := o + 38) hx hb hK hP rfl (by decide) (vp_in_iff.mpr ⟨by decide, by decide⟩) (hR 33 2 rfl) dX10_clear_56 ?_
  refine zcallVv (pc := 57) (k := 38) (As := []) (rest := []) ⟨hx, hb, hml, hown, hts⟩ (cs_X2_clear l D c o σ41 38 39 rfl (by decide) rfl (by decide) (hR 38 0 rfl)) zc2 zV_X10_41 rfl zd_X2_clear ⟨Nat.le_of_ble_eq_true rfl, Nat.le_of_ble_eq_true rfl⟩ hK hP hS rfl (by decide) hl.1 rfl (Nat.le_of_ble_eq_true rfl) ⟨Nat.zero_le _, Nat.zero_le _⟩ dX10_clear_57 (fun σ45 H locs hw46 hP hS => ?_)
  have f28_0 : σ45.1 28 0 = 0 := zFr_i hw46 (by decide) f28_0
  have f28_1 : σ45.1 28 1 = 0 := zFr_i hw46 (by decide) f28_1
  have f28_2 : σ45.1 28 2 = 0 := zFr_i hw46 (by decide) f28_2
  have f31_0 : σ45.1 31 0 = 1 := zFr_i hw46 (by decide) f31_0
  have f32_0 : σ45.1 32 0 = 0 := zFr_i hw46 (by decide) f32_0
  have f31_1 : σ45.1 31 1 = 1 := zFr_i hw46 (by decide) f31_1
  have f32_1 : σ45.1 32 1 = 1 := zFr_i hw46 (by decide) f32_1
  have f31_2 : σ45.1 31 2 = 1 := zFr_i hw46 (by decide) f31_2
  have f32_2 : σ45.1 32 2 = 2 := zFr_i hw46 (by decide) f32_2
  have f31_3 : σ45.1 31 3 = 1 := zFr_i hw46 (by decide) f31_3
  have f32_3 : σ45.1 32 3 = 3 := zFr_i hw46 (by decide) f32_3
  have f31_4 : σ45.1 31 4 = 1 := zFr_i hw46 (by decide) f31_4
  have f32_4 : σ45.1 32 4 = 4 := zFr_i hw46 (by decide) f32_4
  have f31_5 : σ45.1 31 5 = 1 := zFr_i hw46 (by decide) f31_5
  have f32_5 : σ45.1 32 5 = 5 := zFr_i hw46 (by decide) f32_5
  have f31_6 : σ45.1 31 6 = 1 := zFr_i hw46 (by decide) f31_6
  have f32_6 : σ45.1 32 6 = 6 := zFr_i hw46 (by decide) f32_6
  have f31_7 : σ45.1 31 7 = 1 := zFr_i hw46 (by decide) f31_7
  have f32_7 : σ45.1 32 7 = 7 := zFr_i hw46 (by decide) f32_7
  have f31_8 : σ45.1 31 8 = 1 := zFr_i hw46 (by decide) f31_8
  have f32_8 : σ45.1 32 8 = 8 := zFr_i hw46 (by decide) f32_8
  have f31_9 : σ45.1 31 9 = 1 := zFr_i hw46 (by decide) f31_9
  have f32_9 : σ45.1 32 9 = 9 := zFr_i hw46 (by decide) f32_9
  have hR : zRef o σ45.2.2 := zFr_ref hw46 hR
  have hF : zFr [28, 31, 32] σ σ45 := zFr_tr hF hw46 (fun _ h9 => absurd h9 List.not_mem_nil)
  refine lv_iinc (pc := 60) (v := 3) (lv' := [(1, .int 3), (0, .ref (o + 28))]) hx hb dX10_clear_60 hl (k := 0) rfl (by decide) (by decide) rfl (fun ls hl => ?_)
  refine lv_goto (pc := 63) (tgt := 45) hx hb dX10_clear_63 (by decide) ?_
  refine lv_iload_n (pc := 45) hx hb dX10_clear_45 rfl (lv_at hl 0 rfl) ?_
  refine lv_bipush (pc := 46) (v := 10) hx hb dX10_clear_46 (by decide) ?_
  refine lv_icmp_ge (pc := 48) (tgt := 66) hx hb dX10_clear_48 (by decide) (fun c47 => absurd c47 (by decide)) (fun _ => ?_)
  refine lv_aload_n (pc := 51) hx hb dX10_clear_51 rfl (lv_at hl 1 rfl) ?_
  refine zgetR (pc := 52) (k := 28) (j := 7) (a := o + 33) zc10 hx hb hts hown hK hP rfl (by decide) rfl (hR 28 7 rfl) zf_X10_36 dX10_clear_52 ?_
  refine lv_iload_n (pc := 55) hx hb dX10_clear_55 rfl (lv_at hl 0 rfl) ?_
  refine zFald (pc := 56) (k := 33) (n := 10) (a := o + 40) hx hb hK hP rfl (by decide) (vp_in_iff.mpr ⟨by decide, by decide⟩) (hR 33 3 rfl) dX10_clear_56 ?_
  refine zcallVv (pc := 57) (k := 40) (As := []) (rest := []) ⟨hx, hb, hml, hown, hts⟩ (cs_X2_clear l D c o σ45 40 41 rfl (by decide) rfl (by decide) (hR 40 0 rfl)) zc2 zV_X10_41 rfl zd_X2_clear ⟨Nat.le_of_ble_eq_true rfl, Nat.le_of_ble_eq_true rfl⟩ hK hP hS rfl (by decide) hl.1 rfl (Nat.le_of_ble_eq_true rfl) ⟨Nat.zero_le _, Nat.zero_le _⟩ dX10_clear_57 (fun σ49 H locs hw50 hP hS => ?_)
  have f28_0 : σ49.1 28 0 = 0 := zFr_i hw50 (by decide) f28_0
  have f28_1 : σ49.1 28 1 = 0 := zFr_i hw50 (by decide) f28_1
  have f28_2 : σ49.1 28 2 = 0 := zFr_i hw50 (by decide) f28_2
  have f31_0 : σ49.1 31 0 = 1 := zFr_i hw50 (by decide) f31_0
  have f32_0 : σ49.1 32 0 = 0 := zFr_i hw50 (by decide) f32_0
  have f31_1 : σ49.1 31 1 = 1 := zFr_i hw50 (by decide) f31_1
  have f32_1 : σ49.1 32 1 = 1 := zFr_i hw50 (by decide) f32_1
  have f31_2 : σ49.1 31 2 = 1 := zFr_i hw50 (by decide) f31_2
  have f32_2 : σ49.1 32 2 = 2 := zFr_i hw50 (by decide) f32_2
  have f31_3 : σ49.1 31 3 = 1 := zFr_i hw50 (by decide) f31_3
  have f32_3 : σ49.1 32 3 = 3 := zFr_i hw50 (by decide) f32_3
  have f31_4 : σ49.1 31 4 = 1 := zFr_i hw50 (by decide) f31_4
  have f32_4 : σ49.1 32 4 = 4 := zFr_i hw50 (by decide) f32_4
  have f31_5 : σ49.1 31 5 = 1 := zFr_i hw50 (by decide) f31_5
  have f32_5 : σ49.1 32 5 = 5 := zFr_i hw50 (by decide) f32_5
  have f31_6 : σ49.1 31 6 = 1 := zFr_i hw50 (by decide) f31_6
  have f32_6 : σ49.1 32 6 = 6 := zFr_i hw50 (by decide) f32_6
  have f31_7 : σ49.1 31 7 = 1 := zFr_i hw50 (by decide) f31_7
  have f32_7 : σ49.1 32 7 = 7 := zFr_i hw50 (by decide) f32_7
  have f31_8 : σ49.1 31 8 = 1 := zFr_i hw50 (by decide) f31_8
  have f32_8 : σ49.1 32 8 = 8 := zFr_i hw50 (by decide) f32_8
  have f31_9 : σ49.1 31 9 = 1 := zFr_i hw50 (by decide) f31_9
  have f32_9 : σ49.1 32 9 = 9 := zFr_i hw50 (by decide) f32_9
  have hR : zRef o σ49.2.2 := zFr_ref hw50 hR
  have hF : zFr [28, 31, 32] σ σ49 := zFr_tr hF hw50 (fun _ h9 => absurd h9 List.not_mem_nil)
  refine lv_iinc (pc := 60) (v := 4) (lv' := [(1, .int 4), (0, .ref (o + 28))]) hx hb dX10_clear_60 hl (k := 0) rfl (by decide) (by decide) rfl (fun ls hl => ?_)
  refine lv_goto (pc := 63) (tgt := 45) hx hb dX10_clear_63 (by decide) ?_
  refine lv_iload_n (pc := 45) hx hb dX10_clear_45 rfl (lv_at hl 0 rfl) ?_
  refine lv_bipush (pc := 46) (v := 10) hx hb dX10_clear_46 (by decide) ?_
  refine lv_icmp_ge (pc := 48) (tgt := 66) hx hb dX10_clear_48 (by decide) (fun c51 => absurd c51 (by decide)) (fun _ => ?_)
  refine lv_aload_n (pc := 51) hx hb dX10_clear_51 rfl (lv_at hl 1 rfl) ?_
  refine zgetR (pc := 52) (k := 28) (j := 7) (a := o + 33) zc10 hx hb hts hown hK hP rfl (by decide) rfl (hR 28 7 rfl) zf_X10_36 dX10_clear_52 ?_
  refine lv_iload_n (pc := 55) hx hb dX10_clear_55 rfl (lv_at hl 0 rfl) ?_
  refine zFald (pc := 56) (k := 33) (n := 10) (a := o + 42) hx hb hK hP rfl (by decide) (vp_in_iff.mpr ⟨by decide, by decide⟩) (hR 33 4 rfl) dX10_clear_56 ?_
  refine zcallVv (pc := 57) (k := 42) (As := []) (rest := []) ⟨hx, hb, hml, hown, hts⟩ (cs_X2_clear l D c o σ49 42 43 rfl (by decide) rfl (by decide) (hR 42 0 rfl)) zc2 zV_X10_41 rfl zd_X2_clear ⟨Nat.le_of_ble_eq_true rfl, Nat.le_of_ble_eq_true rfl⟩ hK hP hS rfl (by decide) hl.1 rfl (Nat.le_of_ble_eq_true rfl) ⟨Nat.zero_le _, Nat.zero_le _⟩ dX10_clear_57 (fun σ53 H locs hw54 hP hS => ?_)
  have f28_0 : σ53.1 28 0 = 0 := zFr_i hw54 (by decide) f28_0
  have f28_1 : σ53.1 28 1 = 0 := zFr_i hw54 (by decide) f28_1
  have f28_2 : σ53.1 28 2 = 0 := zFr_i hw54 (by decide) f28_2
  have f31_0 : σ53.1 31 0 = 1 := zFr_i hw54 (by decide) f31_0
  have f32_0 : σ53.1 32 0 = 0 := zFr_i hw54 (by decide) f32_0
  have f31_1 : σ53.1 31 1 = 1 := zFr_i hw54 (by decide) f31_1
  have f32_1 : σ53.1 32 1 = 1 := zFr_i hw54 (by decide) f32_1
  have f31_2 : σ53.1 31 2 = 1 := zFr_i hw54 (by decide) f31_2
  have f32_2 : σ53.1 32 2 = 2 := zFr_i hw54 (by decide) f32_2
  have f31_3 : σ53.1 31 3 = 1 := zFr_i hw54 (by decide) f31_3
  have f32_3 : σ53.1 32 3 = 3 := zFr_i hw54 (by decide) f32_3
  have f31_4 : σ53.1 31 4 = 1 := zFr_i hw54 (by decide) f31_4
  have f32_4 : σ53.1 32 4 = 4 := zFr_i hw54 (by decide) f32_4
  have f31_5 : σ53.1 31 5 = 1 := zFr_i hw54 (by decide) f31_5
  have f32_5 : σ53.1 32 5 = 5 := zFr_i hw54 (by decide) f32_5
  have f31_6 : σ53.1 31 6 = 1 := zFr_i hw54 (by decide) f31_6
  have f32_6 : σ53.1 32 6 = 6 := zFr_i hw54 (by decide) f32_6
  have f31_7 : σ53.1 31 7 = 1 := zFr_i hw54 (by decide) f31_7
  have f32_7 : σ53.1 32 7 = 7 := zFr_i hw54 (by decide) f32_7
  have f31_8 : σ53.1 31 8 = 1 := zFr_i hw54 (by decide) f31_8
  have f32_8 : σ53.1 32 8 = 8 := zFr_i hw54 (by decide) f32_8
  have f31_9 : σ53.1 31 9 = 1 := zFr_i hw54 (by decide) f31_9
  have f32_9 : σ53.1 32 9 = 9 := zFr_i hw54 (by decide) f32_9
  have hR : zRef o σ53.2.2 := zFr_ref hw54 hR
  have hF : zFr [28, 31, 32] σ σ53 := zFr_tr hF hw54 (fun _ h9 => absurd h9 List.not_mem_nil)
  refine lv_iinc (pc := 60) (v := 5) (lv' := [(1, .int 5), (0, .ref (o + 28))]) hx hb dX10_clear_60 hl (k := 0) rfl (by decide) (by decide) rfl (fun ls hl => ?_)
  refine lv_goto (pc := 63) (tgt := 45) hx hb dX10_clear_63 (by decide) ?_
  refine lv_iload_n (pc := 45) hx hb dX10_clear_45 rfl (lv_at hl 0 rfl) ?_
  refine lv_bipush (pc := 46) (v := 10) hx hb dX10_clear_46 (by decide) ?_
  refine lv_icmp_ge (pc := 48) (tgt := 66) hx hb dX10_clear_48 (by decide) (fun c55 => absurd c55 (by decide)) (fun _ => ?_)
  refine lv_aload_n (pc := 51) hx hb dX10_clear_51 rfl (lv_at hl 1 rfl) ?_
  refine zgetR (pc := 52) (k := 28) (j := 7) (a := o + 33) zc10 hx hb hts hown hK hP rfl (by decide) rfl (hR 28 7 rfl) zf_X10_36 dX10_clear_52 ?_
  refine lv_iload_n (pc := 55) hx hb dX10_clear_55 rfl (lv_at hl 0 rfl) ?_
  refine zFald (pc := 56) (k := 33) (n := 10) (a := o + 44) hx hb hK hP rfl (by decide) (vp_in_iff.mpr ⟨by decide, by decide⟩) (hR 33 5 rfl) dX10_clear_56 ?_
  refine zcallVv (pc := 57) (k := 44) (As := []) (rest := []) ⟨hx, hb, hml, hown, hts⟩ (cs_X2_clear l D c o σ53 44 45 rfl (by decide) rfl (by decide) (hR 44 0 rfl)) zc2 zV_X10_41 rfl zd_X2_clear ⟨Nat.le_of_ble_eq_true rfl, Nat.le_of_ble_eq_true rfl⟩ hK hP hS rfl (by decide) hl.1 rfl (Nat.le_of_ble_eq_true rfl) ⟨Nat.zero_le _, Nat.zero_le _⟩ dX10_clear_57 (fun σ57 H locs hw58 hP hS => ?_)
  have f28_0 : σ57.1 28 0 = 0 := zFr_i hw58 (by decide) f28_0
  have f28_1 : σ57.1 28 1 = 0 := zFr_i hw58 (by decide) f28_1
  have f28_2 : σ57.1 28 2 = 0 := zFr_i hw58 (by decide) f28_2
  have f31_0 : σ57.1 31 0 = 1 := zFr_i hw58 (by decide) f31_0
  have f32_0 : σ57.1 32 0 = 0 := zFr_i hw58 (by decide) f32_0
  have f31_1 : σ57.1 31 1 = 1 := zFr_i hw58 (by decide) f31_1
  have f32_1 : σ57.1 32 1 = 1 := zFr_i hw58 (by decide) f32_1
  have f31_2 : σ57.1 31 2 = 1 := zFr_i hw58 (by decide) f31_2
  have f32_2 : σ57.1 32 2 = 2 := zFr_i hw58 (by decide) f32_2
  have f31_3 : σ57.1 31 3 = 1 := zFr_i hw58 (by decide) f31_3
  have f32_3 : σ57.1 32 3 = 3 := zFr_i hw58 (by decide) f32_3
  have f31_4 : σ57.1 31 4 = 1 := zFr_i hw58 (by decide) f31_4
  have f32_4 : σ57.1 32 4 = 4 := zFr_i hw58 (by decide) f32_4
  have f31_5 : σ57.1 31 5 = 1 := zFr_i hw58 (by decide) f31_5
  have f32_5 : σ57.1 32 5 = 5 := zFr_i hw58 (by decide) f32_5
  have f31_6 : σ57.1 31 6 = 1 := zFr_i hw58 (by decide) f31_6
  have f32_6 : σ57.1 32 6 = 6 := zFr_i hw58 (by decide) f32_6
  have f31_7 : σ57.1 31 7 = 1 := zFr_i hw58 (by decide) f31_7
  have f32_7 : σ57.1 32 7 = 7 := zFr_i hw58 (by decide) f32_7
  have f31_8 : σ57.1 31 8 = 1 := zFr_i hw58 (by decide) f31_8
  have f32_8 : σ57.1 32 8 = 8 := zFr_i hw58 (by decide) f32_8
  have f31_9 : σ57.1 31 9 = 1 := zFr_i hw58 (by decide) f31_9
  have f32_9 : σ57.1 32 9 = 9 := zFr_i hw58 (by decide) f32_9
  have hR : zRef o σ57.2.2 := zFr_ref hw58 hR
  have hF : zFr [28, 31, 32] σ σ57 := zFr_tr hF hw58 (fun _ h9 => absurd h9 List.not_mem_nil)
  refine lv_iinc (pc := 60) (v := 6) (lv' := [(1, .int 6), (0, .ref (o + 28))]) hx hb dX10_clear_60 hl (k := 0) rfl (by decide) (by decide) rfl (fun ls hl => ?_)
  refine lv_goto (pc := 63) (tgt := 45) hx hb dX10_clear_63 (by decide) ?_
  refine lv_iload_n (pc := 45) hx hb dX10_clear_45 rfl (lv_at hl 0 rfl) ?_
  refine lv_bipush (pc := 46) (v := 10) hx hb dX10_clear_46 (by decide) ?_
  refine lv_icmp_ge (pc := 48) (tgt := 66) hx hb dX10_clear_48 (by decide) (fun c59 => absurd c59 (by decide)) (fun _ => ?_)
  refine lv_aload_n (pc := 51) hx hb dX10_clear_51 rfl (lv_at hl 1 rfl) ?_
  refine zgetR (pc := 52) (k := 28) (j := 7) (a := o + 33) zc10 hx hb hts hown hK hP rfl (by decide) rfl (hR 28 7 rfl) zf_X10_36 dX10_clear_52 ?_
  refine lv_iload_n (pc := 55) hx hb dX10_clear_55 rfl (lv_at hl 0 rfl) ?_
  refine zFald (pc := 56) (k := 33) (n := 10) (a := o + 46) hx hb hK hP rfl (by decide) (vp_in_iff.mpr ⟨by decide, by decide⟩) (hR 33 6 rfl) dX10_clear_56 ?_
  refine zcallVv (pc := 57) (k := 46) (As := []) (rest := []) ⟨hx, hb, hml, hown, hts⟩ (cs_X2_clear l D c o σ57 46 47 rfl (by decide) rfl (by decide) (hR 46 0 rfl)) zc2 zV_X10_41 rfl zd_X2_clear ⟨Nat.le_of_ble_eq_true rfl, Nat.le_of_ble_eq_true rfl⟩ hK hP hS rfl (by decide) hl.1 rfl (Nat.le_of_ble_eq_true rfl) ⟨Nat.zero_le _, Nat.zero_le _⟩ dX10_clear_57 (fun σ61 H locs hw62 hP hS => ?_)
  have f28_0 : σ61.1 28 0 = 0 := zFr_i hw62 (by decide) f28_0
  have f28_1 : σ61.1 28 1 = 0 := zFr_i hw62 (by decide) f28_1
  have f28_2 : σ61.1 28 2 = 0 := zFr_i hw62 (by decide) f28_2
  have f31_0 : σ61.1 31 0 = 1 := zFr_i hw62 (by decide) f31_0
  have f32_0 : σ61.1 32 0 = 0 := zFr_i hw62 (by decide) f32_0
  have f31_1 : σ61.1 31 1 = 1 := zFr_i hw62 (by decide) f31_1
  have f32_1 : σ61.1 32 1 = 1 := zFr_i hw62 (by decide) f32_1
  have f31_2 : σ61.1 31 2 = 1 := zFr_i hw62 (by decide) f31_2
  have f32_2 : σ61.1 32 2 = 2 := zFr_i hw62 (by decide) f32_2
  have f31_3 : σ61.1 31 3 = 1 := zFr_i hw62 (by decide) f31_3
  have f32_3 : σ61.1 32 3 = 3 := zFr_i hw62 (by decide) f32_3
  have f31_4 : σ61.1 31 4 = 1 := zFr_i hw62 (by decide) f31_4
  have f32_4 : σ61.1 32 4 = 4 := zFr_i hw62 (by decide) f32_4
  have f31_5 : σ61.1 31 5 = 1 := zFr_i hw62 (by decide) f31_5
  have f32_5 : σ61.1 32 5 = 5 := zFr_i hw62 (by decide) f32_5
  have f31_6 : σ61.1 31 6 = 1 := zFr_i hw62 (by decide) f31_6
  have f32_6 : σ61.1 32 6 = 6 := zFr_i hw62 (by decide) f32_6
  have f31_7 : σ61.1 31 7 = 1 := zFr_i hw62 (by decide) f31_7
  have f32_7 : σ61.1 32 7 = 7 := zFr_i hw62 (by decide) f32_7
  have f31_8 : σ61.1 31 8 = 1 := zFr_i hw62 (by decide) f31_8
  have f32_8 : σ61.1 32 8 = 8 := zFr_i hw62 (by decide) f32_8
  have f31_9 : σ61.1 31 9 = 1 := zFr_i hw62 (by decide) f31_9
  have f32_9 : σ61.1 32 9 = 9 := zFr_i hw62 (by decide) f32_9
  have hR : zRef o σ61.2.2 := zFr_ref hw62 hR
  have hF : zFr [28, 31, 32] σ σ61 := zFr_tr hF hw62 (fun _ h9 => absurd h9 List.not_mem_nil)
  refine lv_iinc (pc := 60) (v := 7) (lv' := [(1, .int 7), (0, .ref (o + 28))]) hx hb dX10_clear_60 hl (k := 0) rfl (by decide) (by decide) rfl (fun ls hl => ?_)
  refine lv_goto (pc := 63) (tgt := 45) hx hb dX10_clear_63 (by decide) ?_
  refine lv_iload_n (pc := 45) hx hb dX10_clear_45 rfl (lv_at hl 0 rfl) ?_
  refine lv_bipush (pc := 46) (v := 10) hx hb dX10_clear_46 (by decide) ?_
  refine lv_icmp_ge (pc := 48) (tgt := 66) hx hb dX10_clear_48 (by decide) (fun c63 => absurd c63 (by decide)) (fun _ => ?_)
  refine lv_aload_n (pc := 51) hx hb dX10_clear_51 rfl (lv_at hl 1 rfl) ?_
  refine zgetR (pc := 52) (k := 28) (j := 7) (a := o + 33) zc10 hx hb hts hown hK hP rfl (by decide) rfl (hR 28 7 rfl) zf_X10_36 dX10_clear_52 ?_
  refine lv_iload_n (pc := 55) hx hb dX10_clear_55 rfl (lv_at hl 0 rfl) ?_
  refine zFald (pc := 56) (k := 33) (n := 10) (a := o + 48) hx hb hK hP rfl (by decide) (vp_in_iff.mpr ⟨by decide, by decide⟩) (hR 33 7 rfl) dX10_clear_56 ?_
  refine zcallVv (pc := 57) (k := 48) (As := []) (rest := []) ⟨hx, hb, hml, hown, hts⟩ (cs_X2_clear l D c o σ61 48 49 rfl (by decide) rfl (by decide) (hR 48 0 rfl)) zc2 zV_X10_41 rfl zd_X2_clear ⟨Nat.le_of_ble_eq_true rfl, Nat.le_of_ble_eq_true rfl⟩ hK hP hS rfl (by decide) hl.1 rfl (Nat.le_of_ble_eq_true rfl) ⟨Nat.zero_le _, Nat.zero_le _⟩ dX10_clear_57 (fun σ65 H locs hw66 hP hS => ?_)
  have f28_0 : σ65.1 28 0 = 0 := zFr_i hw66 (by decide) f28_0
  have f28_1 : σ65.1 28 1 = 0 := zFr_i hw66 (by decide) f28_1
  have f28_2 : σ65.1 28 2 = 0 := zFr_i hw66 (by decide) f28_2
  have f31_0 : σ65.1 31 0 = 1 := zFr_i hw66 (by decide) f31_0
  have f32_0 : σ65.1 32 0 = 0 := zFr_i hw66 (by decide) f32_0
  have f31_1 : σ65.1 31 1 = 1 := zFr_i hw66 (by decide) f31_1
  have f32_1 : σ65.1 32 1 = 1 := zFr_i hw66 (by decide) f32_1
  have f31_2 : σ65.1 31 2 = 1 := zFr_i hw66 (by decide) f31_2
  have f32_2 : σ65.1 32 2 = 2 := zFr_i hw66 (by decide) f32_2
  have f31_3 : σ65.1 31 3 = 1 := zFr_i hw66 (by decide) f31_3
  have f32_3 : σ65.1 32 3 = 3 := zFr_i hw66 (by decide) f32_3
  have f31_4 : σ65.1 31 4 = 1 := zFr_i hw66 (by decide) f31_4
  have f32_4 : σ65.1 32 4 = 4 := zFr_i hw66 (by decide) f32_4
  have f31_5 : σ65.1 31 5 = 1 := zFr_i hw66 (by decide) f31_5
  have f32_5 : σ65.1 32 5 = 5 := zFr_i hw66 (by decide) f32_5
  have f31_6 : σ65.1 31 6 = 1 := zFr_i hw66 (by decide) f31_6
  have f32_6 : σ65.1 32 6 = 6 := zFr_i hw66 (by decide) f32_6
  have f31_7 : σ65.1 31 7 = 1 := zFr_i hw66 (by decide) f31_7
  have f32_7 : σ65.1 32 7 = 7 := zFr_i hw66 (by decide) f32_7
  have f31_8 : σ65.1 31 8 = 1 := zFr_i hw66 (by decide) f31_8
  have f32_8 : σ65.1 32 8 = 8 := zFr_i hw66 (by decide) f32_8
  have f31_9 : σ65.1 31 9 = 1 := zFr_i hw66 (by decide) f31_9
  have f32_9 : σ65.1 32 9 = 9 := zFr_i hw66 (by decide) f32_9
  have hR : zRef o σ65.2.2 := zFr_ref hw66 hR
  have hF : zFr [28, 31, 32] σ σ65 := zFr_tr hF hw66 (fun _ h9 => absurd h9 List.not_mem_nil)
  refine lv_iinc (pc := 60) (v := 8) (lv' := [(1, .int 8), (0, .ref (o + 28))]) hx hb dX10_clear_60 hl (k := 0) rfl (by decide) (by decide) rfl (fun ls hl => ?_)
  refine lv_goto (pc := 63) (tgt := 45) hx hb dX10_clear_63 (by decide) ?_
  refine lv_iload_n (pc := 45) hx hb dX10_clear_45 rfl (lv_at hl 0 rfl) ?_
  refine lv_bipush (pc := 46) (v := 10) hx hb dX10_clear_46 (by decide) ?_
  refine lv_icmp_ge (pc := 48) (tgt := 66) hx hb dX10_clear_48 (by decide) (fun c67 => absurd c67 (by decide)) (fun _ => ?_)
  refine lv_aload_n (pc := 51) hx hb dX10_clear_51 rfl (lv_at hl 1 rfl) ?_
  refine zgetR (pc := 52) (k := 28) (j := 7) (a := o + 33) zc10 hx hb hts hown hK hP rfl (by decide) rfl (hR 28 7 rfl) zf_X10_36 dX10_clear_52 ?_
  refine lv_iload_n (pc := 55) hx hb dX10_clear_55 rfl (lv_at hl 0 rfl) ?_
  refine zFald (pc := 56) (k := 33) (n := 10) (a := o + 50) hx hb hK hP rfl (by decide) (vp_in_iff.mpr ⟨by decide, by decide⟩) (hR 33 8 rfl) dX10_clear_56 ?_
  refine zcallVv (pc := 57) (k := 50) (As := []) (rest := []) ⟨hx, hb, hml, hown, hts⟩ (cs_X2_clear l D c o σ65 50 51 rfl (by decide) rfl (by decide) (hR 50 0 rfl)) zc2 zV_X10_41 rfl zd_X2_clear ⟨Nat.le_of_ble_eq_true rfl, Nat.le_of_ble_eq_true rfl⟩ hK hP hS rfl (by decide) hl.1 rfl (Nat.le_of_ble_eq_true rfl) ⟨Nat.zero_le _, Nat.zero_le _⟩ dX10_clear_57 (fun σ69 H locs hw70 hP hS => ?_)
  have f28_0 : σ69.1 28 0 = 0 := zFr_i hw70 (by decide) f28_0
  have f28_1 : σ69.1 28 1 = 0 := zFr_i hw70 (by decide) f28_1
  have f28_2 : σ69.1 28 2 = 0 := zFr_i hw70 (by decide) f28_2
  have f31_0 : σ69.1 31 0 = 1 := zFr_i hw70 (by decide) f31_0
  have f32_0 : σ69.1 32 0 = 0 := zFr_i hw70 (by decide) f32_0
  have f31_1 : σ69.1 31 1 = 1 := zFr_i hw70 (by decide) f31_1
  have f32_1 : σ69.1 32 1 = 1 := zFr_i hw70 (by decide) f32_1
  have f31_2 : σ69.1 31 2 = 1 := zFr_i hw70 (by decide) f31_2
  have f32_2 : σ69.1 32 2 = 2 := zFr_i hw70 (by decide) f32_2
  have f31_3 : σ69.1 31 3 = 1 := zFr_i hw70 (by decide) f31_3
  have f32_3 : σ69.1 32 3 = 3 := zFr_i hw70 (by decide) f32_3
  have f31_4 : σ69.1 31 4 = 1 := zFr_i hw70 (by decide) f31_4
  have f32_4 : σ69.1 32 4 = 4 := zFr_i hw70 (by decide) f32_4
  have f31_5 : σ69.1 31 5 = 1 := zFr_i hw70 (by decide) f31_5
  have f32_5 : σ69.1 32 5 = 5 := zFr_i hw70 (by decide) f32_5
  have f31_6 : σ69.1 31 6 = 1 := zFr_i hw70 (by decide) f31_6
  have f32_6 : σ69.1 32 6 = 6 := zFr_i hw70 (by decide) f32_6
  have f31_7 : σ69.1 31 7 = 1 := zFr_i hw70 (by decide) f31_7
  have f32_7 : σ69.1 32 7 = 7 := zFr_i hw70 (by decide) f32_7
  have f31_8 : σ69.1 31 8 = 1 := zFr_i hw70 (by decide) f31_8
  have f32_8 : σ69.1 32 8 = 8 := zFr_i hw70 (by decide) f32_8
  have f31_9 : σ69.1 31 9 = 1 := zFr_i hw70 (by decide) f31_9
  have f32_9 : σ69.1 32 9 = 9 := zFr_i hw70 (by decide) f32_9
  have hR : zRef o σ69.2.2 := zFr_ref hw70 hR
  have hF : zFr [28, 31, 32] σ σ69 := zFr_tr hF hw70 (fun _ h9 => absurd h9 List.not_mem_nil)
  refine lv_iinc (pc := 60) (v := 9) (lv' := [(1, .int 9), (0, .ref (o + 28))]) hx hb dX10_clear_60 hl (k := 0) rfl (by decide) (by decide) rfl (fun ls hl => ?_)
  refine lv_goto (pc := 63) (tgt := 45) hx hb dX10_clear_63 (by decide) ?_
  refine lv_iload_n (pc := 45) hx hb dX10_clear_45 rfl (lv_at hl 0 rfl) ?_
  refine lv_bipush (pc := 46) (v := 10) hx hb dX10_clear_46 (by decide) ?_
  refine lv_icmp_ge (pc := 48) (tgt := 66) hx hb dX10_clear_48 (by decide) (fun c71 => absurd c71 (by decide)) (fun _ => ?_)
  refine lv_aload_n (pc := 51) hx hb dX10_clear_51 rfl (lv_at hl 1 rfl) ?_
  refine zgetR (pc := 52) (k := 28) (j := 7) (a := o + 33) zc10 hx hb hts hown hK hP rfl (by decide) rfl (hR 28 7 rfl) zf_X10_36 dX10_clear_52 ?_
  refine lv_iload_n (pc := 55) hx hb dX10_clear_55 rfl (lv_at hl 0 rfl) ?_
  refine zFald (pc := 56) (k := 33) (n := 10) (a := o + 52) hx hb hK hP rfl (by decide) (vp_in_iff.mpr ⟨by decide, by decide⟩) (hR 33 9 rfl) dX10_clear_56 ?_
  refine zcallVv (pc := 57) (k := 52) (As := []) (rest := []) ⟨hx, hb, hml, hown, hts⟩ (cs_X2_clear l D c o σ69 52 53 rfl (by decide) rfl (by decide) (hR 52 0 rfl)) zc2 zV_X10_41 rfl zd_X2_clear ⟨Nat.le_of_ble_eq_true rfl, Nat.le_of_ble_eq_true rfl⟩ hK hP hS rfl (by decide) hl.1 rfl (Nat.le_of_ble_eq_true rfl) ⟨Nat.zero_le _, Nat.zero_le _⟩ dX10_clear_57 (fun σ73 H locs hw74 hP hS => ?_)
  have f28_0 : σ73.1 28 0 = 0 := zFr_i hw74 (by decide) f28_0
  have f28_1 : σ73.1 28 1 = 0 := zFr_i hw74 (by decide) f28_1
  have f28_2 : σ73.1 28 2 = 0 := zFr_i hw74 (by decide) f28_2
  have f31_0 : σ73.1 31 0 = 1 := zFr_i hw74 (by decide) f31_0
  have f32_0 : σ73.1 32 0 = 0 := zFr_i hw74 (by decide) f32_0
  have f31_1 : σ73.1 31 1 = 1 := zFr_i hw74 (by decide) f31_1
  have f32_1 : σ73.1 32 1 = 1 := zFr_i hw74 (by decide) f32_1
  have f31_2 : σ73.1 31 2 = 1 := zFr_i hw74 (by decide) f31_2
  have f32_2 : σ73.1 32 2 = 2 := zFr_i hw74 (by decide) f32_2
  have f31_3 : σ73.1 31 3 = 1 := zFr_i hw74 (by decide) f31_3
  have f32_3 : σ73.1 32 3 = 3 := zFr_i hw74 (by decide) f32_3
  have f31_4 : σ73.1 31 4 = 1 := zFr_i hw74 (by decide) f31_4
  have f32_4 : σ73.1 32 4 = 4 := zFr_i hw74 (by decide) f32_4
  have f31_5 : σ73.1 31 5 = 1 := zFr_i hw74 (by decide) f31_5
  have f32_5 : σ73.1 32 5 = 5 := zFr_i hw74 (by decide) f32_5
  have f31_6 : σ73.1 31 6 = 1 := zFr_i hw74 (by decide) f31_6
  have f32_6 : σ73.1 32 6 = 6 := zFr_i hw74 (by decide) f32_6
  have f31_7 : σ73.1 31 7 = 1 := zFr_i hw74 (by decide) f31_7
  have f32_7 : σ73.1 32 7 = 7 := zFr_i hw74 (by decide) f32_7
  have f31_8 : σ73.1 31 8 = 1 := zFr_i hw74 (by decide) f31_8
  have f32_8 : σ73.1 32 8 = 8 := zFr_i hw74 (by decide) f32_8
  have f31_9 : σ73.1 31 9 = 1 := zFr_i hw74 (by decide) f31_9
  have f32_9 : σ73.1 32 9 = 9 := zFr_i hw74 (by decide) f32_9
  have hR : zRef o σ73.2.2 := zFr_ref hw74 hR
  have hF : zFr [28, 31, 32] σ σ73 := zFr_tr hF hw74 (fun _ h9 => absurd h9 List.not_mem_nil)
  refine lv_iinc (pc := 60) (v := 10) (lv' := [(1, .int 10), (0, .ref (o + 28))]) hx hb dX10_clear_60 hl (k := 0) rfl (by decide) (by decide) rfl (fun ls hl => ?_)
  refine lv_goto (pc := 63) (tgt := 45) hx hb dX10_clear_63 (by decide) ?_
  refine lv_iload_n (pc := 45) hx hb dX10_clear_45 rfl (lv_at hl 0 rfl) ?_
  refine lv_bipush (pc := 46) (v := 10) hx hb dX10_clear_46 (by decide) ?_
  refine lv_icmp_ge (pc := 48) (tgt := 66) hx hb dX10_clear_48 (by decide) (fun _ => ?_) (fun c75 => absurd c75 (by decide))
  exact zretv (pc := 66) hx hb hr hlocks hP hK hS ⟨hF, f28_0, f28_1, f28_2⟩ dX10_clear_66

set_option maxHeartbeats 4000000 in
set_option maxRecDepth 100000 in
theorem cs_X10_copy132 (l : Launch) (D : va_G) (c : zC) (o : Nat) (σ : zS) (hR : zRef o σ.2.2) : Met l yX10_copyFrom zs_X10_copyFrom (zr 8) (va_Pc [.ref (o + 132), .ref (o + 2)] (zQ D c o σ)) (va_Qv (fun (σ1 : zS) => zFr [132, 133, 134, 135, 136] σ σ1) (zQ D c o) (zA o)) 0 0 (zA o) := by
  refine zMet (by decide) (Nat.le_of_ble_eq_true rfl) ?_
  intro p e s m below meth cd ⟨hx, hb, hr, hml, hown, hts, hlocks⟩ hP hK ls hl
  have hS : va_S (zA o) s.heap s.heap [] := va_S.rf
  have hl : lv_has ls 3 [(0, .ref (o + 132)), (1, .ref (o + 2))] := hl
  have hF : zFr [132, 133, 134, 135, 136] σ σ := zFr_rf
  refine lv_aload_n (pc := 0) hx hb dX10_copyFrom_0 rfl (lv_at hl 0 rfl) ?_
  refine lv_aload_n (pc := 1) hx hb dX10_copyFrom_1 rfl (lv_at hl 1 rfl) ?_
  refine zgetI (pc := 2) (k := 2) (j := 0) zc10 hx hb hts hown hK hP rfl (by decide) rfl rfl zf_X10_9 dX10_copyFrom_2 ?_
  refine lv_topi (pc := 5) (fun v1 ev1 => ?_)
  refine zputI (pc := 5) (k := 132) (j := 0) zc10 hx hb hts hown hK hP hS rfl (by decide) rfl rfl rfl zf_X10_9 dX10_copyFrom_5 (fun H locs hP hS => ?_)
  obtain ⟨σ2, eσ2⟩ : ∃ x : zS, x = zI σ 132 (upd (σ.1 132) 0 v1) := ⟨_, rfl⟩
  have hP : zP D c o σ2 H := by rw [eσ2]; exact hP
  have f132_0 : σ2.1 132 0 = v1 := zI_eq eσ2 pk_us
  have hR : zRef o σ2.2.2 := zI_ref eσ2 hR
  have hF : zFr [132, 133, 134, 135, 136] σ σ2 := zFr_I eσ2 hF (by decide)
  refine lv_aload_n (pc := 8) hx hb dX10_copyFrom_8 rfl (lv_at hl 0 rfl) ?_
  refine lv_aload_n (pc := 9) hx hb dX10_copyFrom_9 rfl (lv_at hl 1 rfl) ?_
  refine zgetI (pc := 10) (k := 2) (j := 1) zc10 hx hb hts hown hK hP rfl (by decide) rfl rfl zf_X10_15 dX10_copyFrom_10 ?_
  refine lv_topi (pc := 13) (fun v3 ev3 => ?_)
  refine zputI (pc := 13) (k := 132) (j := 1) zc10 hx hb hts hown hK hP hS rfl (by decide) rfl rfl rfl zf_X10_15 dX10_copyFrom_13 (fun H locs hP hS => ?_)
  obtain ⟨σ4, eσ4⟩ : ∃ x : zS, x = zI σ2 132 (upd (σ2.1 132) 1 v3) := ⟨_, rfl⟩
  have hP : zP D c o σ4 H := by rw [eσ4]; exact hP
  have f132_0 : σ4.1 132 0 = v1 := zI_eq eσ4 ((pk_un (by decide)).trans f132_0)
  have f132_1 : σ4.1 132 1 = v3 := zI_eq eσ4 pk_us
  have hR : zRef o σ4.2.2 := zI_ref eσ4 hR
  have hF : zFr [132, 133, 134, 135, 136] σ σ4 := zFr_I eσ4 hF (by decide)
  refine lv_aload_n (pc := 16) hx hb dX10_copyFrom_16 rfl (lv_at hl 0 rfl) ?_
  refine lv_aload_n (pc := 17) hx hb dX10_copyFrom_17 rfl (lv_at hl 1 rfl) ?_
  refine zgetI (pc := 18) (k := 2) (j := 2) zc10 hx hb hts hown hK hP rfl (by decide) rfl rfl zf_X10_18 dX10_copyFrom_18 ?_
  refine lv_topi (pc := 21) (fun v5 ev5 => ?_)
  refine zputI (pc := 21) (k := 132) (j := 2) zc10 hx hb hts hown hK hP hS rfl (by decide) rfl rfl rfl zf_X10_18 dX10_copyFrom_21 (fun H locs hP hS => ?_)
  obtain ⟨σ6, eσ6⟩ : ∃ x : zS, x = zI σ4 132 (upd (σ4.1 132) 2 v5) := ⟨_, rfl⟩
  have hP : zP D c o σ6 H := by rw [eσ6]; exact hP
  have f132_0 : σ6.1 132 0 = v1 := zI_eq eσ6 ((pk_un (by decide)).trans f132_0)
  have f132_1 : σ6.1 132 1 = v3 := zI_eq eσ6 ((pk_un (by decide)).trans f132_1)
  have f132_2 : σ6.1 132 2 = v5 := zI_eq eσ6 pk_us
  have hR : zRef o σ6.2.2 := zI_ref eσ6 hR
  have hF : zFr [132, 133, 134, 135, 136] σ σ6 := zFr_I eσ6 hF (by decide)
  refine lv_aload_n (pc := 24) hx hb dX10_copyFrom_24 rfl (lv_at hl 1 rfl) ?_
  refine zgetR (pc := 25) (k := 2) (j := 3) (a := o + 3) zc10 hx hb hts hown hK hP rfl (by decide) rfl (hR 2 3 rfl) zf_X10_21 dX10_copyFrom_25 ?_
  refine lv_iconst (pc := 28) (v := 0) hx hb dX10_copyFrom_28 (by decide) ?_
  refine lv_aload_n (pc := 29) hx hb dX10_copyFrom_29 rfl (lv_at hl 0 rfl) ?_
  refine zgetR (pc := 30) (k := 132) (j := 3) (a := o + 133) zc10 hx hb hts hown hK hP rfl (by decide) rfl (hR 132 3 rfl) zf_X10_21 dX10_copyFrom_30 ?_
  refine lv_iconst (pc := 33) (v := 0) hx hb dX10_copyFrom_33 (by decide) ?_
  refine lv_bipush (pc := 34) (v := 10) hx hb dX10_copyFrom_34 (by decide) ?_
  refine zcopyI (pc := 36) (k0 := 3) (k1 := 133) (rest := []) hx hb (hml.trans hl.1.symm) hown hts zm_X10_44 hK hP hS rfl (by decide) rfl (by decide) (by decide) (by decide) (by decide) (Nat.le_of_ble_eq_true rfl) (Nat.le_of_ble_eq_true rfl) (by decide) (by decide) dX10_copyFrom_36 (fun H locs hP hS => ?_)
  obtain ⟨σ7, eσ7⟩ : ∃ x : zS, x = zI σ6 133 (va_cpy (σ6.1 3) (σ6.1 133) 0 0 10) := ⟨_, rfl⟩
  have hP : zP D c o σ7 H := by rw [eσ7]; exact hP
  have f132_0 : σ7.1 132 0 = v1 := zI_ne eσ7 (by decide) f132_0
  have f132_1 : σ7.1 132 1 = v3 := zI_ne eσ7 (by decide) f132_1
  have f132_2 : σ7.1 132 2 = v5 := zI_ne eσ7 (by decide) f132_2
  have hR : zRef o σ7.2.2 := zI_ref eσ7 hR
  have hF : zFr [132, 133, 134, 135, 136] σ σ7 := zFr_I eσ7 hF (by decide)
  refine lv_aload_n (pc := 39) hx hb dX10_copyFrom_39 rfl (lv_at hl 1 rfl) ?_
  refine zgetR (pc := 40) (k := 2) (j := 4) (a := o + 4) zc10 hx hb hts hown hK hP rfl (by decide) rfl (hR 2 4 rfl) zf_X10_25 dX10_copyFrom_40 ?_
  refine lv_iconst (pc := 43) (v := 0) hx hb dX10_copyFrom_43 (by decide) ?_
  refine lv_aload_n (pc := 44) hx hb dX10_copyFrom_44 rfl (lv_at hl 0 rfl) ?_
  refine zgetR (pc := 45) (k := 132) (j := 4) (a := o + 134) zc10 hx hb hts hown hK hP rfl (by decide) rfl (hR 132 4 rfl) zf_X10_25 dX10_copyFrom_45 ?_
  refine lv_iconst (pc := 48) (v := 0) hx hb dX10_copyFrom_48 (by decide) ?_
  refine lv_bipush (pc := 49) (v := 10) hx hb dX10_copyFrom_49 (by decide) ?_
  refine zcopyI (pc := 51) (k0 := 4) (k1 := 134) (rest := []) hx hb (hml.trans hl.1.symm) hown hts zm_X10_44 hK hP hS rfl (by decide) rfl (by decide) (by decide) (by decide) (by decide) (Nat.le_of_ble_eq_true rfl) (Nat.le_of_ble_eq_true rfl) (by decide) (by decide) dX10_copyFrom_51 (fun H locs hP hS => ?_)
  obtain ⟨σ8, eσ8⟩ : ∃ x : zS, x = zI σ7 134 (va_cpy (σ7.1 4) (σ7.1 134) 0 0 10) := ⟨_, rfl⟩
  have hP : zP D c o σ8 H := by rw [eσ8]; exact hP
  have f132_0 : σ8.1 132 0 = v1 := zI_ne eσ8 (by decide) f132_0
  have f132_1 : σ8.1 132 1 = v3 := zI_ne eσ8 (by decide) f132_1
  have f132_2 : σ8.1 132 2 = v5 := zI_ne eσ8 (by decide) f132_2
  have hR : zRef o σ8.2.2 := zI_ref eσ8 hR
  have hF : zFr [132, 133, 134, 135, 136] σ σ8 := zFr_I eσ8 hF (by decide)
  refine lv_aload_n (pc := 54) hx hb dX10_copyFrom_54 rfl (lv_at hl 1 rfl) ?_
  refine zgetR (pc := 55) (k := 2) (j := 5) (a := o + 5) zc10 hx hb hts hown hK hP rfl (by decide) rfl (hR 2 5 rfl) zf_X10_28 dX10_copyFrom_55 ?_
  refine lv_iconst (pc := 58) (v := 0) hx hb dX10_copyFrom_58 (by decide) ?_
  refine lv_aload_n (pc := 59) hx hb dX10_copyFrom_59 rfl (lv_at hl 0 rfl) ?_
  refine zgetR (pc := 60) (k := 132) (j := 5) (a := o + 135) zc10 hx hb hts hown hK hP rfl (by decide) rfl (hR 132 5 rfl) zf_X10_28 dX10_copyFrom_60 ?_
  refine lv_iconst (pc := 63) (v := 0) hx hb dX10_copyFrom_63 (by decide) ?_
  refine lv_bipush (pc := 64) (v := 10) hx hb dX10_copyFrom_64 (by decide) ?_
  refine zcopyI (pc := 66) (k0 := 5) (k1 := 135) (rest := []) hx hb (hml.trans hl.1.symm) hown hts zm_X10_44 hK hP hS rfl (by decide) rfl (by decide) (by decide) (by decide) (by decide) (Nat.le_of_ble_eq_true rfl) (Nat.le_of_ble_eq_true rfl) (by decide) (by decide) dX10_copyFrom_66 (fun H locs hP hS => ?_)
  obtain ⟨σ9, eσ9⟩ : ∃ x : zS, x = zI σ8 135 (va_cpy (σ8.1 5) (σ8.1 135) 0 0 10) := ⟨_, rfl⟩
  have hP : zP D c o σ9 H := by rw [eσ9]; exact hP
  have f132_0 : σ9.1 132 0 = v1 := zI_ne eσ9 (by decide) f132_0
  have f132_1 : σ9.1 132 1 = v3 := zI_ne eσ9 (by decide) f132_1
  have f132_2 : σ9.1 132 2 = v5 := zI_ne eσ9 (by decide) f132_2
  have hR : zRef o σ9.2.2 := zI_ref eσ9 hR
  have hF : zFr [132, 133, 134, 135, 136] σ σ9 := zFr_I eσ9 hF (by decide)
  refine lv_aload_n (pc := 69) hx hb dX10_copyFrom_69 rfl (lv_at hl 1 rfl) ?_
  refine zgetR (pc := 70) (k := 2) (j := 6) (a := o + 6) zc10 hx hb hts hown hK hP rfl (by decide) rfl (hR 2 6 rfl) zf_X10_31 dX10_copyFrom_70 ?_
  refine lv_iconst (pc := 73) (v := 0) hx hb dX10_copyFrom_73 (by decide) ?_
  refine lv_aload_n (pc := 74) hx hb dX10_copyFrom_74 rfl (lv_at hl 0 rfl) ?_
  refine zgetR (pc := 75) (k := 132) (j := 6) (a := o + 136) zc10 hx hb hts hown hK hP rfl (by decide) rfl (hR 132 6 rfl) zf_X10_31 dX10_copyFrom_75 ?_
  refine lv_iconst (pc := 78) (v := 0) hx hb dX10_copyFrom_78 (by decide) ?_
  refine lv_bipush (pc := 79) (v := 10) hx hb dX10_copyFrom_79 (by decide) ?_
  refine zcopyI (pc := 81) (k0 := 6) (k1 := 136) (rest := []) hx hb (hml.trans hl.1.symm) hown hts zm_X10_44 hK hP hS rfl (by decide) rfl (by decide) (by decide) (by decide) (by decide) (Nat.le_of_ble_eq_true rfl) (Nat.le_of_ble_eq_true rfl) (by decide) (by decide) dX10_copyFrom_81 (fun H locs hP hS => ?_)
  obtain ⟨σ10, eσ10⟩ : ∃ x : zS, x = zI σ9 136 (va_cpy (σ9.1 6) (σ9.1 136) 0 0 10) := ⟨_, rfl⟩
  have hP : zP D c o σ10 H := by rw [eσ10]; exact hP
  have f132_0 : σ10.1 132 0 = v1 := zI_ne eσ10 (by decide) f132_0
  have f132_1 : σ10.1 132 1 = v3 := zI_ne eσ10 (by decide) f132_1
  have f132_2 : σ10.1 132 2 = v5 := zI_ne eσ10 (by decide) f132_2
  have hR : zRef o σ10.2.2 := zI_ref eσ10 hR
  have hF : zFr [132, 133, 134, 135, 136] σ σ10 := zFr_I eσ10 hF (by decide)
  refine lv_iconst (pc := 84) (v := 0) hx hb dX10_copyFrom_84 (by decide) ?_
  refine lv_istore_n (pc := 85) (lv' := [(2, .int 0), (0, .ref (o + 132)), (1, .ref (o + 2))]) hx hb dX10_copyFrom_85 rfl hl (by decide) rfl (fun ls hl => ?_)
  refine lv_iload_n (pc := 86) hx hb dX10_copyFrom_86 rfl (lv_at hl 0 rfl) ?_
  refine lv_bipush (pc := 87) (v := 10) hx hb dX10_copyFrom_87 (by decide) ?_
  refine lv_icmp_ge (pc := 89) (tgt := 113) hx hb dX10_copyFrom_89 (by decide) (fun c11 => absurd c11 (by decide)) (fun _ => ?_)
  refine lv_aload_n (pc := 92) hx hb dX10_copyFrom_92 rfl (lv_at hl 1 rfl) ?_
  refine zgetR (pc := 93) (k := 132) (j := 7) (a := o + 137) zc10 hx hb hts hown hK hP rfl (by decide) rfl (hR 132 7 rfl) zf_X10_36 dX10_copyFrom_93 ?_
  refine lv_iload_n (pc := 96) hx hb dX10_copyFrom_96 rfl (lv_at hl 0 rfl) ?_
  refine zFald (pc := 97) (k := 137) (n := 10) (a := o + 138) hx hb hK hP rfl (by decide) (vp_in_iff.mpr ⟨by decide, by decide⟩) (hR 137 0 rfl) dX10_copyFrom_97 ?_
  refine lv_aload_n (pc := 98) hx hb dX10_copyFrom_98 rfl (lv_at hl 2 rfl) ?_
  refine zgetR (pc := 99) (k := 2) (j := 7) (a := o + 7) zc10 hx hb hts hown hK hP rfl (by decide) rfl (hR 2 7 rfl) zf_X10_36 dX10_copyFrom_99 ?_
  refine lv_iload_n (pc := 102) hx hb dX10_copyFrom_102 rfl (lv_at hl 0 rfl) ?_
  refine zFald (pc := 103) (k := 7) (n := 10) (a := o + 8) hx hb hK hP rfl (by decide) (vp_in_iff.mpr ⟨by decide, by decide⟩) (hR 7 0 rfl) dX10_copyFrom_103 ?_
  refine zcallVv (pc := 104) (k := 138) (As := [.ref (o + 8)]) (rest := []) ⟨hx, hb, hml, hown, hts⟩ (cs_X2_copyFrom l D c o σ10 138 139 rfl (by decide) rfl (by decide) (hR 138 0 rfl) 8 9 rfl (by decide) rfl (by decide) (hR 8 0 rfl)) zc2 zV_X10_50 rfl zd_X2_copyFrom ⟨Nat.le_of_ble_eq_true rfl, Nat.le_of_ble_eq_true rfl⟩ hK hP hS rfl (by decide) hl.1 rfl (Nat.le_of_ble_eq_true rfl) ⟨Nat.zero_le _, Nat.zero_le _⟩ dX10_copyFrom_104 (fun σ13 H locs hw14 hP hS => ?_)
  have f132_0 : σ13.1 132 0 = v1 := zFr_i hw14 (by decide) f132_0
  have f132_1 : σ13.1 132 1 = v3 := zFr_i hw14 (by decide) f132_1
  have f132_2 : σ13.1 132 2 = v5 := zFr_i hw14 (by decide) f132_2
  have hR : zRef o σ13.2.2 := zFr_ref hw14 hR
  have hF : zFr [132, 133, 134, 135, 136] σ σ13 := zFr_tr hF hw14 (fun _ h9 => absurd h9 List.not_mem_nil)
  refine lv_iinc (pc := 107) (v := 1) (lv' := [(2, .int 1), (0, .ref (o + 132)), (1, .ref (o + 2))]) hx hb dX10_copyFrom_107 hl (k := 0) rfl (by decide) (by decide) rfl (fun ls hl => ?_)
  refine lv_goto (pc := 110) (tgt := 86) hx hb dX10_copyFrom_110 (by decide) ?_
  refine lv_iload_n (pc := 86) hx hb dX10_copyFrom_86 rfl (lv_at hl 0 rfl) ?_
  refine lv_bipush (pc := 87) (v := 10) hx hb dX10_copyFrom_87 (by decide) ?_
  refine lv_icmp_ge (pc := 89) (tgt := 113) hx hb dX10_copyFrom_89 (by decide) (fun c15 => absurd c15 (by decide)) (fun _ => ?_)
  refine lv_aload_n (pc := 92) hx hb dX10_copyFrom_92 rfl (lv_at hl 1 rfl) ?_
  refine zgetR (pc := 93) (k := 132) (j := 7) (a := o + 137) zc10 hx hb hts hown hK hP rfl (by decide) rfl (hR 132 7 rfl) zf_X10_36 dX10_copyFrom_93 ?_
  refine lv_iload_n (pc := 96) hx hb dX10_copyFrom_96 rfl (lv_at hl 0 rfl) ?_
  refine zFald (pc := 97) (k := 137) (n := 10) (a := o + 140) hx hb hK hP rfl (by decide) (vp_in_iff.mpr ⟨by decide, by decide⟩) (hR 137 1 rfl) dX10_copyFrom_97 ?_
  refine lv_aload_n (pc := 98) hx hb dX10_copyFrom_98 rfl (lv_at hl 2 rfl) ?_
  refine zgetR (pc := 99) (k := 2) (j := 7) (a := o + 7) zc10 hx hb hts hown hK hP rfl (by decide) rfl (hR 2 7 rfl) zf_X10_36 dX10_copyFrom_99 ?_
  refine lv_iload_n (pc := 102) hx hb dX10_copyFrom_102 rfl (lv_at hl 0 rfl) ?_
  refine zFald (pc := 103) (k := 7) (n := 10) (a := o + 10) hx hb hK hP rfl (by decide) (vp_in_iff.mpr ⟨by decide, by decide⟩) (hR 7 1 rfl) dX10_copyFrom_103 ?_
  refine zcallVv (pc := 104) (k := 140) (As := [.ref (o + 10)]) (rest := []) ⟨hx, hb, hml, hown, hts⟩ (cs_X2_copyFrom l D c o σ13 140 141 rfl (by decide) rfl (by decide) (hR 140 0 rfl) 10 11 rfl (by decide) rfl (by decide) (hR 10 0 rfl)) zc2 zV_X10_50 rfl zd_X2_copyFrom ⟨Nat.le_of_ble_eq_true rfl, Nat.le_of_ble_eq_true rfl⟩ hK hP hS rfl (by decide) hl.1 rfl (Nat.le_of_ble_eq_true rfl) ⟨Nat.zero_le _, Nat.zero_le _⟩ dX10_copyFrom_104 (fun σ17 H locs hw18 hP hS => ?_)
  have f132_0 : σ17.1 132 0 = v1 := zFr_i hw18 (by decide) f132_0
  have f132_1 : σ17.1 132 1 = v3 := zFr_i hw18 (by decide) f132_1
  have f132_2 : σ17.1 132 2 = v5 := zFr_i hw18 (by decide) f132_2
  have hR : zRef o σ17.2.2 := zFr_ref hw18 hR
  have hF : zFr [132, 133, 134, 135, 136] σ σ17 := zFr_tr hF hw18 (fun _ h9 => absurd h9 List.not_mem_nil)
  refine lv_iinc (pc := 107) (v := 2) (lv' := [(2, .int 2), (0, .ref (o + 132)), (1, .ref (o + 2))]) hx hb dX10_copyFrom_107 hl (k := 0) rfl (by decide) (by decide) rfl (fun ls hl => ?_)
  refine lv_goto (pc := 110) (tgt := 86) hx hb dX10_copyFrom_110 (by decide) ?_
  refine lv_iload_n (pc := 86) hx hb dX10_copyFrom_86 rfl (lv_at hl 0 rfl) ?_
  refine lv_bipush (pc := 87) (v := 10) hx hb dX10_copyFrom_87 (by decide) ?_
  refine lv_icmp_ge (pc := 89) (tgt := 113) hx hb dX10_copyFrom_89 (by decide) (fun c19 => absurd c19 (by decide)) (fun _ => ?_)
  refine lv_aload_n (pc := 92) hx hb dX10_copyFrom_92 rfl (lv_at hl 1 rfl) ?_
  refine zgetR (pc := 93) (k := 132) (j := 7) (a := o + 137) zc10 hx hb hts hown hK hP rfl (by decide) rfl (hR 132 7 rfl) zf_X10_36 dX10_copyFrom_93 ?_
  refine lv_iload_n (pc := 96) hx hb dX10_copyFrom_96 rfl (lv_at hl 0 rfl) ?_
  refine zFald (pc := 97) (k := 137) (n := 10) (a := o + 142) hx hb hK hP rfl (by decide) (vp_in_iff.mpr ⟨by decide, by decide⟩) (hR 137 2 rfl) dX10_copyFrom_97 ?_
  refine lv_aload_n (pc := 98) hx hb dX10_copyFrom_98 rfl (lv_at hl 2 rfl) ?_
  refine zgetR (pc := 99) (k := 2) (j := 7) (a := o + 7) zc10 hx hb hts hown hK hP rfl (by decide) rfl (hR 2 7 rfl) zf_X10_36 dX10_copyFrom_99 ?_
  refine lv_iload_n (pc := 102) hx hb dX10_copyFrom_102 rfl (lv_at hl 0 rfl) ?_
  refine zFald (pc := 103) (k := 7) (n := 10) (a := o + 12) hx hb hK hP rfl (by decide) (vp_in_iff.mpr ⟨by decide, by decide⟩) (hR 7 2 rfl) dX10_copyFrom_103 ?_
  refine zcallVv (pc := 104) (k := 142) (As := [.ref (o + 12)]) (rest := []) ⟨hx, hb, hml, hown, hts⟩ (cs_X2_copyFrom l D c o σ17 142 143 rfl (by decide) rfl (by decide) (hR 142 0 rfl) 12 13 rfl (by decide) rfl (by decide) (hR 12 0 rfl)) zc2 zV_X10_50 rfl zd_X2_copyFrom ⟨Nat.le_of_ble_eq_true rfl, Nat.le_of_ble_eq_true rfl⟩ hK hP hS rfl (by decide) hl.1 rfl (Nat.le_of_ble_eq_true rfl) ⟨Nat.zero_le _, Nat.zero_le _⟩ dX10_copyFrom_104 (fun σ21 H locs hw22 hP hS => ?_)
  have f132_0 : σ21.1 132 0 = v1 := zFr_i hw22 (by decide) f132_0
  have f132_1 : σ21.1 132 1 = v3 := zFr_i hw22 (by decide) f132_1
  have f132_2 : σ21.1 132 2 = v5 := zFr_i hw22 (by decide) f132_2
  have hR : zRef o σ21.2.2 := zFr_ref hw22 hR
  have hF : zFr [132, 133, 134, 135, 136] σ σ21 := zFr_tr hF hw22 (fun _ h9 => absurd h9 List.not_mem_nil)
  refine lv_iinc (pc := 107) (v := 3) (lv' := [(2, .int 3), (0, .ref (o + 132)), (1, .ref (o + 2))]) hx hb dX10_copyFrom_107 hl (k := 0) rfl (by decide) (by decide) rfl (fun ls hl => ?_)
  refine lv_goto (pc := 110) (tgt := 86) hx hb dX10_copyFrom_110 (by decide) ?_
  refine lv_iload_n (pc := 86) hx hb dX10_copyFrom_86 rfl (lv_at hl 0 rfl) ?_
  refine lv_bipush (pc := 87) (v := 10) hx hb dX10_copyFrom_87 (by decide) ?_
  refine lv_icmp_ge (pc := 89) (tgt := 113) hx hb dX10_copyFrom_89 (by decide) (fun c23 => absurd c23 (by decide)) (fun _ => ?_)
  refine lv_aload_n (pc := 92) hx hb dX10_copyFrom_92 rfl (lv_at hl 1 rfl) ?_
  refine zgetR (pc := 93) (k := 132) (j := 7) (a := o + 137) zc10 hx hb hts hown hK hP rfl (by decide) rfl (hR 132 7 rfl) zf_X10_36 dX10_copyFrom_93 ?_
  refine lv_iload_n (pc := 96) hx hb dX10_copyFrom_96 rfl (lv_at hl 0 rfl) ?_
  refine zFald (pc := 97) (k := 137) (n := 10) (a := o + 144) hx hb hK hP rfl (by decide) (vp_in_iff.mpr ⟨by decide, by decide⟩) (hR 137 3 rfl) dX10_copyFrom_97 ?_
  refine lv_aload_n (pc := 98) hx hb dX10_copyFrom_98 rfl (lv_at hl 2 rfl) ?_
  refine zgetR (pc := 99) (k := 2) (j := 7) (a := o + 7) zc10 hx hb hts hown hK hP rfl (by decide) rfl (hR 2 7 rfl) zf_X10_36 dX10_copyFrom_99 ?_
  refine lv_iload_n (pc := 102) hx hb dX10_copyFrom_102 rfl (lv_at hl 0 rfl) ?_
  refine zFald (pc := 103) (k := 7) (n := 10) (a := o + 14) hx hb hK hP rfl (by decide) (vp_in_iff.mpr ⟨by decide, by decide⟩) (hR 7 3 rfl) dX10_copyFrom_103 ?_
  refine zcallVv (pc := 104) (k := 144) (As := [.ref (o + 14)]) (rest := []) ⟨hx, hb, hml, hown, hts⟩ (cs_X2_copyFrom l D c o σ21 144 145 rfl (by decide) rfl (by decide) (hR 144 0 rfl) 14 15 rfl (by decide) rfl (by decide) (hR 14 0 rfl)) zc2 zV_X10_50 rfl zd_X2_copyFrom ⟨Nat.le_of_ble_eq_true rfl, Nat.le_of_ble_eq_true rfl⟩ hK hP hS rfl (by decide) hl.1 rfl (Nat.le_of_ble_eq_true rfl) ⟨Nat.zero_le _, Nat.zero_le _⟩ dX10_copyFrom_104 (fun σ25 H locs hw26 hP hS => ?_)
  have f132_0 : σ25.1 132 0 = v1 := zFr_i hw26 (by decide) f132_0
  have f132_1 : σ25.1 132 1 = v3 := zFr_i hw26 (by decide) f132_1
  have f132_2 : σ25.1 132 2 = v5 := zFr_i hw26 (by decide) f132_2
  have hR : zRef o σ25.2.2 := zFr_ref hw26 hR
  have hF : zFr [132, 133, 134, 135, 136] σ σ25 := zFr_tr hF hw26 (fun _ h9 => absurd h9 List.not_mem_nil)
  refine lv_iinc (pc := 107) (v := 4) (lv' := [(2, .int 4), (0, .ref (o + 132)), (1, .ref (o + 2))]) hx hb dX10_copyFrom_107 hl (k := 0) rfl (by decide) (by decide) rfl (fun ls hl => ?_)
  refine lv_goto (pc := 110) (tgt := 86) hx hb dX10_copyFrom_110 (by decide) ?_
  refine lv_iload_n (pc := 86) hx hb dX10_copyFrom_86 rfl (lv_at hl 0 rfl) ?_
  refine lv_bipush (pc := 87) (v := 10) hx hb dX10_copyFrom_87 (by decide) ?_
  refine lv_icmp_ge (pc := 89) (tgt := 113) hx hb dX10_copyFrom_89 (by decide) (fun c27 => absurd c27 (by decide)) (fun _ => ?_)
  refine lv_aload_n (pc := 92) hx hb dX10_copyFrom_92 rfl (lv_at hl 1 rfl) ?_
  refine zgetR (pc := 93) (k := 132) (j := 7) (a := o + 137) zc10 hx hb hts hown hK hP rfl (by decide) rfl (hR 132 7 rfl) zf_X10_36 dX10_copyFrom_93 ?_
  refine lv_iload_n (pc := 96) hx hb dX10_copyFrom_96 rfl (lv_at hl 0 rfl) ?_
  refine zFald (pc := 97) (k := 137) (n := 10) (a := o + 146) hx hb hK hP rfl (by decide) (vp_in_iff.mpr ⟨by decide, by decide⟩) (hR 137 4 rfl) dX10_copyFrom_97 ?_
  refine lv_aload_n (pc := 98) hx hb dX10_copyFrom_98 rfl (lv_at hl 2 rfl) ?_
  refine zgetR (pc := 99) (k := 2) (j := 7) (a := o + 7) zc10 hx hb hts hown hK hP rfl (by decide) rfl (hR 2 7 rfl) zf_X10_36 dX10_copyFrom_99 ?_
  refine lv_iload_n (pc := 102) hx hb dX10_copyFrom_102 rfl (lv_at hl 0 rfl) ?_
  refine zFald (pc := 103) (k := 7) (n := 10) (a := o + 16) hx hb hK hP rfl (by decide) (vp_in_iff.mpr ⟨by decide, by decide⟩) (hR 7 4 rfl) dX10_copyFrom_103 ?_
  refine zcallVv (pc := 104) (k := 146) (As := [.ref (o + 16)]) (rest := []) ⟨hx, hb, hml, hown, hts⟩ (cs_X2_copyFrom l D c o σ25 146 147 rfl (by decide) rfl (by decide) (hR 146 0 rfl) 16 17 rfl (by decide) rfl (by decide) (hR 16 0 rfl)) zc2 zV_X10_50 rfl zd_X2_copyFrom ⟨Nat.le_of_ble_eq_true rfl, Nat.le_of_ble_eq_true rfl⟩ hK hP hS rfl (by decide) hl.1 rfl (Nat.le_of_ble_eq_true rfl) ⟨Nat.zero_le _, Nat.zero_le _⟩ dX10_copyFrom_104 (fun σ29 H locs hw30 hP hS => ?_)
  have f132_0 : σ29.1 132 0 = v1 := zFr_i hw30 (by decide) f132_0
  have f132_1 : σ29.1 132 1 = v3 := zFr_i hw30 (by decide) f132_1
  have f132_2 : σ29.1 132 2 = v5 := zFr_i hw30 (by decide) f132_2
  have hR : zRef o σ29.2.2 := zFr_ref hw30 hR
  have hF : zFr [132, 133, 134, 135, 136] σ σ29 := zFr_tr hF hw30 (fun _ h9 => absurd h9 List.not_mem_nil)
  refine lv_iinc (pc := 107) (v := 5) (lv' := [(2, .int 5), (0, .ref (o + 132)), (1, .ref (o + 2))]) hx hb dX10_copyFrom_107 hl (k := 0) rfl (by decide) (by decide) rfl (fun ls hl => ?_)
  refine lv_goto (pc := 110) (tgt := 86) hx hb dX10_copyFrom_110 (by decide) ?_
  refine lv_iload_n (pc := 86) hx hb dX10_copyFrom_86 rfl (lv_at hl 0 rfl) ?_
  refine lv_bipush (pc := 87) (v := 10) hx hb dX10_copyFrom_87 (by decide) ?_
  refine lv_icmp_ge (pc := 89) (tgt := 113) hx hb dX10_copyFrom_89 (by decide) (fun c31 => absurd c31 (by decide)) (fun _ => ?_)
  refine lv_aload_n (pc := 92) hx hb dX10_copyFrom_92 rfl (lv_at hl 1 rfl) ?_
  refine zgetR (pc := 93) (k := 132) (j := 7) (a := o + 137) zc10 hx hb hts hown hK hP rfl (by decide) rfl (hR 132 7 rfl) zf_X10_36 dX10_copyFrom_93 ?_
  refine lv_iload_n (pc := 96) hx hb dX10_copyFrom_96 rfl (lv_at hl 0 rfl) ?_
  refine zFald (pc := 97) (k := 137) (n := 10) (a := o + 148) hx hb hK hP rfl (by decide) (vp_in_iff.mpr ⟨by decide, by decide⟩) (hR 137 5 rfl) dX10_copyFrom_97 ?_
  refine lv_aload_n (pc := 98) hx hb dX10_copyFrom_98 rfl (lv_at hl 2 rfl) ?_
  refine zgetR (pc := 99) (k := 2) (j := 7) (a := o + 7) zc10 hx hb hts hown hK hP rfl (by decide) rfl (hR 2 7 rfl) zf_X10_36 dX10_copyFrom_99 ?_
  refine lv_iload_n (pc := 102) hx hb dX10_copyFrom_102 rfl (lv_at hl 0 rfl) ?_
  refine zFald (pc := 103) (k := 7) (n := 10) (a := o + 18) hx hb hK hP rfl (by decide) (vp_in_iff.mpr ⟨by decide, by decide⟩) (hR 7 5 rfl) dX10_copyFrom_103 ?_
  refine zcallVv (pc := 104) (k := 148) (As := [.ref (o + 18)]) (rest := []) ⟨hx, hb, hml, hown, hts⟩ (cs_X2_copyFrom l D c o σ29 148 149 rfl (by decide) rfl (by decide) (hR 148 0 rfl) 18 19 rfl (by decide) rfl (by decide) (hR 18 0 rfl)) zc2 zV_X10_50 rfl zd_X2_copyFrom ⟨Nat.le_of_ble_eq_true rfl, Nat.le_of_ble_eq_true rfl⟩ hK hP hS rfl (by decide) hl.1 rfl (Nat.le_of_ble_eq_true rfl) ⟨Nat.zero_le _, Nat.zero_le _⟩ dX10_copyFrom_104 (fun σ33 H locs hw34 hP hS => ?_)
  have f132_0 : σ33.1 132 0 = v1 := zFr_i hw34 (by decide) f132_0
  have f132_1 : σ33.1 132 1 = v3 := zFr_i hw34 (by decide) f132_1
  have f132_2 : σ33.1 132 2 = v5 := zFr_i hw34 (by decide) f132_2
  have hR : zRef o σ33.2.2 := zFr_ref hw34 hR
  have hF : zFr [132, 133, 134, 135, 136] σ σ33 := zFr_tr hF hw34 (fun _ h9 => absurd h9 List.not_mem_nil)
  refine lv_iinc (pc := 107) (v := 6) (lv' := [(2, .int 6), (0, .ref (o + 132)), (1, .ref (o + 2))]) hx hb dX10_copyFrom_107 hl (k := 0) rfl (by decide) (by decide) rfl (fun ls hl => ?_)
  refine lv_goto (pc := 110) (tgt := 86) hx hb dX10_copyFrom_110 (by decide) ?_
  refine lv_iload_n (pc := 86) hx hb dX10_copyFrom_86 rfl (lv_at hl 0 rfl) ?_
  refine lv_bipush (pc := 87) (v := 10) hx hb dX10_copyFrom_87 (by decide) ?_
  refine lv_icmp_ge (pc := 89) (tgt := 113) hx hb dX10_copyFrom_89 (by decide) (fun c35 => absurd c35 (by decide)) (fun _ => ?_)
  refine lv_aload_n (pc := 92) hx hb dX10_copyFrom_92 rfl (lv_at hl 1 rfl) ?_
  refine zgetR (pc := 93) (k := 132) (j := 7) (a := o + 137) zc10 hx hb hts hown hK hP rfl (by decide) rfl (hR 132 7 rfl) zf_X10_36 dX10_copyFrom_93 ?_
  refine lv_iload_n (pc := 96) hx hb dX10_copyFrom_96 rfl (lv_at hl 0 rfl) ?_
  refine zFald (pc := 97) (k := 137) (n := 10) (a := o + 150) hx hb hK hP rfl (by decide) (vp_in_iff.mpr ⟨by decide, by decide⟩) (hR 137 6 rfl) dX10_copyFrom_97 ?_
  refine lv_aload_n (pc := 98) hx hb dX10_copyFrom_98 rfl (lv_at hl 2 rfl) ?_
  refine zgetR (pc := 99) (k := 2) (j := 7) (a := o + 7) zc10 hx hb hts hown hK hP rfl (by decide) rfl (hR 2 7 rfl) zf_X10_36 dX10_copyFrom_99 ?_
  refine lv_iload_n (pc := 102) hx hb dX10_copyFrom_102 rfl (lv_at hl 0 rfl) ?_
  refine zFald (pc := 103) (k := 7) (n := 10) (a := o + 20) hx hb hK hP rfl (by decide) (vp_in_iff.mpr ⟨by decide, by decide⟩) (hR 7 6 rfl) dX10_copyFrom_103 ?_
  refine zcallVv (pc := 104) (k := 150) (As := [.ref (o + 20)]) (rest := []) ⟨hx, hb, hml, hown, hts⟩ (cs_X2_copyFrom l D c o σ33 150 151 rfl (by decide) rfl (by decide) (hR 150 0 rfl) 20 21 rfl (by decide) rfl (by decide) (hR 20 0 rfl)) zc2 zV_X10_50 rfl zd_X2_copyFrom ⟨Nat.le_of_ble_eq_true rfl, Nat.le_of_ble_eq_true rfl⟩ hK hP hS rfl (by decide) hl.1 rfl (Nat.le_of_ble_eq_true rfl) ⟨Nat.zero_le _, Nat.zero_le _⟩ dX10_copyFrom_104 (fun σ37 H locs hw38 hP hS => ?_)
  have f132_0 : σ37.1 132 0 = v1 := zFr_i hw38 (by decide) f132_0
  have f132_1 : σ37.1 132 1 = v3 := zFr_i hw38 (by decide) f132_1
  have f132_2 : σ37.1 132 2 = v5 := zFr_i hw38 (by decide) f132_2
  have hR : zRef o σ37.2.2 := zFr_ref hw38 hR
  have hF : zFr [132, 133, 134, 135, 136] σ σ37 := zFr_tr hF hw38 (fun _ h9 => absurd h9 List.not_mem_nil)
  refine lv_iinc (pc := 107) (v := 7) (lv' := [(2, .int 7), (0, .ref (o + 132)), (1, .ref (o + 2))]) hx hb dX10_copyFrom_107 hl (k := 0) rfl (by decide) (by decide) rfl (fun ls hl => ?_)
  refine lv_goto (pc := 110) (tgt := 86) hx hb dX10_copyFrom_110 (by decide) ?_
  refine lv_iload_n (pc := 86) hx hb dX10_copyFrom_86 rfl (lv_at hl 0 rfl) ?_
  refine lv_bipush (pc := 87) (v := 10) hx hb dX10_copyFrom_87 (by decide) ?_
  refine lv_icmp_ge (pc := 89) (tgt := 113) hx hb dX10_copyFrom_89 (by decide) (fun c39 => absurd c39 (by decide)) (fun _ => ?_)
  refine lv_aload_n (pc := 92) hx hb dX10_copyFrom_92 rfl (lv_at hl 1 rfl) ?_
  refine zgetR (pc := 93) (k := 132) (j := 7) (a := o + 137) zc10 hx hb hts hown hK hP rfl (by decide) rfl (hR 132 7 rfl) zf_X10_36 dX10_copyFrom_93 ?_
  refine lv_iload_n (pc := 96) hx hb dX10_copyFrom_96 rfl (lv_at hl 0 rfl) ?_
  refine zFald (pc := 97) (k := 137) (n := 10) (a := o + 152) hx hb hK hP rfl (by decide) (vp_in_iff.mpr ⟨by decide, by decide⟩) (hR 137 7 rfl) dX10_copyFrom_97 ?_
  refine lv_aload_n (pc := 98) hx hb dX10_copyFrom_98 rfl (lv_at hl 2 rfl) ?_
  refine zgetR (pc := 99) (k := 2) (j := 7) (a := o + 7) zc10 hx hb hts hown hK hP rfl (by decide) rfl (hR 2 7 rfl) zf_X10_36 dX10_copyFrom_99 ?_
  refine lv_iload_n (pc := 102) hx hb dX10_copyFrom_102 rfl (lv_at hl 0 rfl) ?_
  refine zFald (pc := 103) (k := 7) (n := 10) (a := o + 22) hx hb hK hP rfl (by decide) (vp_in_iff.mpr ⟨by decide, by decide⟩) (hR 7 7 rfl) dX10_copyFrom_103 ?_
  refine zcallVv (pc := 104) (k := 152) (As := [.ref (o + 22)]) (rest := []) ⟨hx, hb, hml, hown, hts⟩ (cs_X2_copyFrom l D c o σ37 152 153 rfl (by decide) rfl (by decide) (hR 152 0 rfl) 22 23 rfl (by decide) rfl (by decide) (hR 22 0 rfl)) zc2 zV_X10_50 rfl zd_X2_copyFrom ⟨Nat.le_of_ble_eq_true rfl, Nat.le_of_ble_eq_true rfl⟩ hK hP hS rfl (by decide) hl.1 rfl (Nat.le_of_ble_eq_true rfl) ⟨Nat.zero_le _, Nat.zero_le _⟩ dX10_copyFrom_104 (fun σ41 H locs hw42 hP hS => ?_)
  have f132_0 : σ41.1 132 0 = v1 := zFr_i hw42 (by decide) f132_0
  have f132_1 : σ41.1 132 1 = v3 := zFr_i hw42 (by decide) f132_1
  have f132_2 : σ41.1 132 2 = v5 := zFr_i hw42 (by decide) f132_2
  have hR : zRef o σ41.2.2 := zFr_ref hw42 hR
  have hF : zFr [132, 133, 134, 135, 136] σ σ41 := zFr_tr hF hw42 (fun _ h9 => absurd h9 List.not_mem_nil)
  refine lv_iinc (pc := 107) (v := 8) (lv' := [(2, .int 8), (0, .ref (o + 132)), (1, .ref (o + 2))]) hx hb dX10_copyFrom_107 hl (k := 0) rfl (by decide) (by decide) rfl (fun ls hl => ?_)
  refine lv_goto (pc := 110) (tgt := 86) hx hb dX10_copyFrom_110 (by decide) ?_
  refine lv_iload_n (pc := 86) hx hb dX10_copyFrom_86 rfl (lv_at hl 0 rfl) ?_
  refine lv_bipush (pc := 87) (v := 10) hx hb dX10_copyFrom_87 (by decide) ?_
  refine lv_icmp_ge (pc := 89) (tgt := 113) hx hb dX10_copyFrom_89 (by decide) (fun c43 => absurd c43 (by decide)) (fun _ => ?_)
  refine lv_aload_n (pc := 92) hx hb dX10_copyFrom_92 rfl (lv_at hl 1 rfl) ?_
  refine zgetR (pc := 93) (k := 132) (j := 7) (a := o + 137) zc10 hx hb hts hown hK hP rfl (by decide) rfl (hR 132 7 rfl) zf_X10_36 dX10_copyFrom_93 ?_
  refine lv_iload_n (pc := 96) hx hb dX10_copyFrom_96 rfl (lv_at hl 0 rfl) ?_
  refine zFald (pc := 97) (k := 137) (n := 10) (a := o + 154) hx hb hK hP rfl (by decide) (vp_in_iff.mpr ⟨by decide, by decide⟩) (hR 137 8 rfl) dX10_copyFrom_97 ?_
  refine lv_aload_n (pc := 98) hx hb dX10_copyFrom_98 rfl (lv_at hl 2 rfl) ?_
  refine zgetR (pc := 99) (k := 2) (j := 7) (a := o + 7) zc10 hx hb hts hown hK hP rfl (by decide) rfl (hR 2 7 rfl) zf_X10_36 dX10_copyFrom_99 ?_
  refine lv_iload_n (pc := 102) hx hb dX10_copyFrom_102 rfl (lv_at hl 0 rfl) ?_
  refine zFald (pc := 103) (k := 7) (n := 10) (a := o + 24) hx hb hK hP rfl (by decide) (vp_in_iff.mpr ⟨by decide, by decide⟩) (hR 7 8 rfl) dX10_copyFrom_103 ?_
  refine zcallVv (pc := 104) (k := 154) (As := [.ref (o + 24)]) (rest := []) ⟨hx, hb, hml, hown, hts⟩ (cs_X2_copyFrom l D c o σ41 154 155 rfl (by decide) rfl (by decide) (hR 154 0 rfl) 24 25 rfl (by decide) rfl (by decide) (hR 24 0 rfl)) zc2 zV_X10_50 rfl zd_X2_copyFrom ⟨Nat.le_of_ble_eq_true rfl, Nat.le_of_ble_eq_true rfl⟩ hK hP hS rfl (by decide) hl.1 rfl (Nat.le_of_ble_eq_true rfl) ⟨Nat.zero_le _, Nat.zero_le _⟩ dX10_copyFrom_104 (fun σ45 H locs hw46 hP hS => ?_)
  have f132_0 : σ45.1 132 0 = v1 := zFr_i hw46 (by decide) f132_0
  have f132_1 : σ45.1 132 1 = v3 := zFr_i hw46 (by decide) f132_1
  have f132_2 : σ45.1 132 2 = v5 := zFr_i hw46 (by decide) f132_2
  have hR : zRef o σ45.2.2 := zFr_ref hw46 hR
  have hF : zFr [132, 133, 134, 135, 136] σ σ45 := zFr_tr hF hw46 (fun _ h9 => absurd h9 List.not_mem_nil)
  refine lv_iinc (pc := 107) (v := 9) (lv' := [(2, .int 9), (0, .ref (o + 132)), (1, .ref (o + 2))]) hx hb dX10_copyFrom_107 hl (k := 0) rfl (by decide) (by decide) rfl (fun ls hl => ?_)
  refine lv_goto (pc := 110) (tgt := 86) hx hb dX10_copyFrom_110 (by decide) ?_
  refine lv_iload_n (pc := 86) hx hb dX10_copyFrom_86 rfl (lv_at hl 0 rfl) ?_
  refine lv_bipush (pc := 87) (v := 10) hx hb dX10_copyFrom_87 (by decide) ?_
  refine lv_icmp_ge (pc := 89) (tgt := 113) hx hb dX10_copyFrom_89 (by decide) (fun c47 => absurd c47 (by decide)) (fun _ => ?_)
  refine lv_aload_n (pc := 92) hx hb dX10_copyFrom_92 rfl (lv_at hl 1 rfl) ?_
  refine zgetR (pc := 93) (k := 132) (j := 7) (a := o + 137) zc10 hx hb hts hown hK hP rfl (by decide) rfl (hR 132 7 rfl) zf_X10_36 dX10_copyFrom_93 ?_
  refine lv_iload_n (pc := 96) hx hb dX10_copyFrom_96 rfl (lv_at hl 0 rfl) ?_
  refine zFald (pc := 97) (k := 137) (n := 10) (a := o + 156) hx hb hK hP rfl (by decide) (vp_in_iff.mpr ⟨by decide, by decide⟩) (hR 137 9 rfl) dX10_copyFrom_97 ?_
  refine lv_aload_n (pc := 98) hx hb dX10_copyFrom_98 rfl (lv_at hl 2 rfl) ?_
  refine zgetR (pc := 99) (k := 2) (j := 7) (a := o + 7) zc10 hx hb hts hown hK hP rfl (by decide) rfl (hR 2 7 rfl) zf_X10_36 dX10_copyFrom_99 ?_
  refine lv_iload_n (pc := 102) hx hb dX10_copyFrom_102 rfl (lv_at hl 0 rfl) ?_
  refine zFald (pc := 103) (k := 7) (n := 10) (a := o + 26) hx hb hK hP rfl (by decide) (vp_in_iff.mpr ⟨by decide, by decide⟩) (hR 7 9 rfl) dX10_copyFrom_103 ?_
  refine zcallVv (pc := 104) (k := 156) (As := [.ref (o + 26)]) (rest := []) ⟨hx, hb, hml, hown, hts⟩ (cs_X2_copyFrom l D c o σ45 156 157 rfl (by decide) rfl (by decide) (hR 156 0 rfl) 26 27 rfl (by decide) rfl (by decide) (hR 26 0 rfl)) zc2 zV_X10_50 rfl zd_X2_copyFrom ⟨Nat.le_of_ble_eq_true rfl, Nat.le_of_ble_eq_true rfl⟩ hK hP hS rfl (by decide) hl.1 rfl (Nat.le_of_ble_eq_true rfl) ⟨Nat.zero_le _, Nat.zero_le _⟩ dX10_copyFrom_104 (fun σ49 H locs hw50 hP hS => ?_)
  have f132_0 : σ49.1 132 0 = v1 := zFr_i hw50 (by decide) f132_0
  have f132_1 : σ49.1 132 1 = v3 := zFr_i hw50 (by decide) f132_1
  have f132_2 : σ49.1 132 2 = v5 := zFr_i hw50 (by decide) f132_2
  have hR : zRef o σ49.2.2 := zFr_ref hw50 hR
  have hF : zFr [132, 133, 134, 135, 136] σ σ49 := zFr_tr hF hw50 (fun _ h9 => absurd h9 List.not_mem_nil)
  refine lv_iinc (pc := 107) (v := 10) (lv' := [(2, .int 10), (0, .ref (o + 132)), (1, .ref (o + 2))]) hx hb dX10_copyFrom_107 hl (k := 0) rfl (by decide) (by decide) rfl (fun ls hl => ?_)
  refine lv_goto (pc := 110) (tgt := 86) hx hb dX10_copyFrom_110 (by decide) ?_
  refine lv_iload_n (pc := 86) hx hb dX10_copyFrom_86 rfl (lv_at hl 0 rfl) ?_
  refine lv_bipush (pc := 87) (v := 10) hx hb dX10_copyFrom_87 (by decide) ?_
  refine lv_icmp_ge (pc := 89) (tgt := 113) hx hb dX10_copyFrom_89 (by decide) (fun _ => ?_) (fun c51 => absurd c51 (by decide))
  exact zretv (pc := 113) hx hb hr hlocks hP hK hS hF dX10_copyFrom_113

set_option maxHeartbeats 4000000 in
set_option maxRecDepth 100000 in
theorem cs_X10_copy158 (l : Launch) (D : va_G) (c : zC) (o : Nat) (σ : zS) (hR : zRef o σ.2.2) : Met l yX10_copyFrom zs_X10_copyFrom (zr 8) (va_Pc [.ref (o + 158), .ref (o + 2)] (zQ D c o σ)) (va_Qv (fun (σ1 : zS) => zFr [158, 159, 160, 161, 162] σ σ1) (zQ D c o) (zA o)) 0 0 (zA o) := by
  refine zMet (by decide) (Nat.le_of_ble_eq_true rfl) ?_
  intro p e s m below meth cd ⟨hx, hb, hr, hml, hown, hts, hlocks⟩ hP hK ls hl
  have hS : va_S (zA o) s.heap s.heap [] := va_S.rf
  have hl : lv_has ls 3 [(0, .ref (o + 158)), (1, .ref (o + 2))] := hl
  have hF : zFr [158, 159, 160, 161, 162] σ σ := zFr_rf
  refine lv_aload_n (pc := 0) hx hb dX10_copyFrom_0 rfl (lv_at hl 0 rfl) ?_
  refine lv_aload_n (pc := 1) hx hb dX10_copyFrom_1 rfl (lv_at hl 1 rfl) ?_
  refine zgetI (pc := 2) (k := 2) (j := 0) zc10 hx hb hts hown hK hP rfl (by decide) rfl rfl zf_X10_9 dX10_copyFrom_2 ?_
  refine lv_topi (pc := 5) (fun v1 ev1 => ?_)
  refine zputI (pc := 5) (k := 158) (j := 0) zc10 hx hb hts hown hK hP hS rfl (by decide) rfl rfl rfl zf_X10_9 dX10_copyFrom_5 (fun H locs hP hS => ?_)
  obtain ⟨σ2, eσ2⟩ : ∃ x : zS, x = zI σ 158 (upd (σ.1 158) 0 v1) := ⟨_, rfl⟩
  have hP : zP D c o σ2 H := by rw [eσ2]; exact hP
  have f158_0 : σ2.1 158 0 = v1 := zI_eq eσ2 pk_us
  have hR : zRef o σ2.2.2 := zI_ref eσ2 hR
  have hF : zFr [158, 159, 160, 161, 162] σ σ2 := zFr_I eσ2 hF (by decide)
  refine lv_aload_n (pc := 8) hx hb dX10_copyFrom_8 rfl (lv_at hl 0 rfl) ?_
  refine lv_aload_n (pc := 9) hx hb dX10_copyFrom_9 rfl (lv_at hl 1 rfl) ?_
  refine zgetI (pc := 10) (k := 2) (j := 1) zc10 hx hb hts hown hK hP rfl (by decide) rfl rfl zf_X10_15 dX10_copyFrom_10 ?_
  refine lv_topi (pc := 13) (fun v3 ev3 => ?_)
  refine zputI (pc := 13) (k := 158) (j := 1) zc10 hx hb hts hown hK hP hS rfl (by decide) rfl rfl rfl zf_X10_15 dX10_copyFrom_13 (fun H locs hP hS => ?_)
  obtain ⟨σ4, eσ4⟩ : ∃ x : zS, x = zI σ2 158 (upd (σ2.1 158) 1 v3) := ⟨_, rfl⟩
  have hP : zP D c o σ4 H := by rw [eσ4]; exact hP
  have f158_0 : σ4.1 158 0 = v1 := zI_eq eσ4 ((pk_un (by decide)).trans f158_0)
  have f158_1 : σ4.1 158 1 = v3 := zI_eq eσ4 pk_us
  have hR : zRef o σ4.2.2 := zI_ref eσ4 hR
  have hF : zFr [158, 159, 160, 161, 162] σ σ4 := zFr_I eσ4 hF (by decide)
  refine lv_aload_n (pc := 16) hx hb dX10_copyFrom_16 rfl (lv_at hl 0 rfl) ?_
  refine lv_aload_n (pc := 17) hx hb dX10_copyFrom_17 rfl (lv_at hl 1 rfl) ?_
  refine zgetI (pc := 18) (k := 2) (j := 2) zc10 hx hb hts hown hK hP rfl (by decide) rfl rfl zf_X10_18 dX10_copyFrom_18 ?_
  refine lv_topi (pc := 21) (fun v5 ev5 => ?_)
  refine zputI (pc := 21) (k := 158) (j := 2) zc10 hx hb hts hown hK hP hS rfl (by decide) rfl rfl rfl zf_X10_18 dX10_copyFrom_21 (fun H locs hP hS => ?_)
  obtain ⟨σ6, eσ6⟩ : ∃ x : zS, x = zI σ4 158 (upd (σ4.1 158) 2 v5) := ⟨_, rfl⟩
  have hP : zP D c o σ6 H := by rw [eσ6]; exact hP
  have f158_0 : σ6.1 158 0 = v1 := zI_eq eσ6 ((pk_un (by decide)).trans f158_0)
  have f158_1 : σ6.1 158 1 = v3 := zI_eq eσ6 ((pk_un (by decide)).trans f158_1)
  have f158_2 : σ6.1 158 2 = v5 := zI_eq eσ6 pk_us
  have hR : zRef o σ6.2.2 := zI_ref eσ6 hR
  have hF : zFr [158, 159, 160, 161, 162] σ σ6 := zFr_I eσ6 hF (by decide)
  refine lv_aload_n (pc := 24) hx hb dX10_copyFrom_24 rfl (lv_at hl 1 rfl) ?_
  refine zgetR (pc := 25) (k := 2) (j := 3) (a := o + 3) zc10 hx hb hts hown hK hP rfl (by decide) rfl (hR 2 3 rfl) zf_X10_21 dX10_copyFrom_25 ?_
  refine lv_iconst (pc := 28) (v := 0) hx hb dX10_copyFrom_28 (by decide) ?_
  refine lv_aload_n (pc := 29) hx hb dX10_copyFrom_29 rfl (lv_at hl 0 rfl) ?_
  refine zgetR (pc := 30) (k := 158) (j := 3) (a := o + 159) zc10 hx hb hts hown hK hP rfl (by decide) rfl (hR 158 3 rfl) zf_X10_21 dX10_copyFrom_30 ?_
  refine lv_iconst (pc := 33) (v := 0) hx hb dX10_copyFrom_33 (by decide) ?_
  refine lv_bipush (pc := 34) (v := 10) hx hb dX10_copyFrom_34 (by decide) ?_
  refine zcopyI (pc := 36) (k0 := 3) (k1 := 159) (rest := []) hx hb (hml.trans hl.1.symm) hown hts zm_X10_44 hK hP hS rfl (by decide) rfl (by decide) (by decide) (by decide) (by decide) (Nat.le_of_ble_eq_true rfl) (Nat.le_of_ble_eq_true rfl) (by decide) (by decide) dX10_copyFrom_36 (fun H locs hP hS => ?_)
  obtain ⟨σ7, eσ7⟩ : ∃ x : zS, x = zI σ6 159 (va_cpy (σ6.1 3) (σ6.1 159) 0 0 10) := ⟨_, rfl⟩
  have hP : zP D c o σ7 H := by rw [eσ7]; exact hP
  have f158_0 : σ7.1 158 0 = v1 := zI_ne eσ7 (by decide) f158_0
  have f158_1 : σ7.1 158 1 = v3 := zI_ne eσ7 (by decide) f158_1
  have f158_2 : σ7.1 158 2 = v5 := zI_ne eσ7 (by decide) f158_2
  have hR : zRef o σ7.2.2 := zI_ref eσ7 hR
  have hF : zFr [158, 159, 160, 161, 162] σ σ7 := zFr_I eσ7 hF (by decide)
  refine lv_aload_n (pc := 39) hx hb dX10_copyFrom_39 rfl (lv_at hl 1 rfl) ?_
  refine zgetR (pc := 40) (k := 2) (j := 4) (a := o + 4) zc10 hx hb hts hown hK hP rfl (by decide) rfl (hR 2 4 rfl) zf_X10_25 dX10_copyFrom_40 ?_
  refine lv_iconst (pc := 43) (v := 0) hx hb dX10_copyFrom_43 (by decide) ?_
  refine lv_aload_n (pc := 44) hx hb dX10_copyFrom_44 rfl (lv_at hl 0 rfl) ?_
  refine zgetR (pc := 45) (k := 158) (j := 4) (a := o + 160) zc10 hx hb hts hown hK hP rfl (by decide) rfl (hR 158 4 rfl) zf_X10_25 dX10_copyFrom_45 ?_
  refine lv_iconst (pc := 48) (v := 0) hx hb dX10_copyFrom_48 (by decide) ?_
  refine lv_bipush (pc := 49) (v := 10) hx hb dX10_copyFrom_49 (by decide) ?_
  refine zcopyI (pc := 51) (k0 := 4) (k1 := 160) (rest := []) hx hb (hml.trans hl.1.symm) hown hts zm_X10_44 hK hP hS rfl (by decide) rfl (by decide) (by decide) (by decide) (by decide) (Nat.le_of_ble_eq_true rfl) (Nat.le_of_ble_eq_true rfl) (by decide) (by decide) dX10_copyFrom_51 (fun H locs hP hS => ?_)
  obtain ⟨σ8, eσ8⟩ : ∃ x : zS, x = zI σ7 160 (va_cpy (σ7.1 4) (σ7.1 160) 0 0 10) := ⟨_, rfl⟩
  have hP : zP D c o σ8 H := by rw [eσ8]; exact hP
  have f158_0 : σ8.1 158 0 = v1 := zI_ne eσ8 (by decide) f158_0
  have f158_1 : σ8.1 158 1 = v3 := zI_ne eσ8 (by decide) f158_1
  have f158_2 : σ8.1 158 2 = v5 := zI_ne eσ8 (by decide) f158_2
  have hR : zRef o σ8.2.2 := zI_ref eσ8 hR
  have hF : zFr [158, 159, 160, 161, 162] σ σ8 := zFr_I eσ8 hF (by decide)
  refine lv_aload_n (pc := 54) hx hb dX10_copyFrom_54 rfl (lv_at hl 1 rfl) ?_
  refine zgetR (pc := 55) (k := 2) (j := 5) (a := o + 5) zc10 hx hb hts hown hK hP rfl (by decide) rfl (hR 2 5 rfl) zf_X10_28 dX10_copyFrom_55 ?_
  refine lv_iconst (pc := 58) (v := 0) hx hb dX10_copyFrom_58 (by decide) ?_
  refine lv_aload_n (pc := 59) hx hb dX10_copyFrom_59 rfl (lv_at hl 0 rfl) ?_
  refine zgetR (pc := 60) (k := 158) (j := 5) (a := o + 161) zc10 hx hb hts hown hK hP rfl (by decide) rfl (hR 158 5 rfl) zf_X10_28 dX10_copyFrom_60 ?_
  refine lv_iconst (pc := 63) (v := 0) hx hb dX10_copyFrom_63 (by decide) ?_
  refine lv_bipush (pc := 64) (v := 10) hx hb dX10_copyFrom_64 (by decide) ?_
  refine zcopyI (pc := 66) (k0 := 5) (k1 := 161) (rest := []) hx hb (hml.trans hl.1.symm) hown hts zm_X10_44 hK hP hS rfl (by decide) rfl (by decide) (by decide) (by decide) (by decide) (Nat.le_of_ble_eq_true rfl) (Nat.le_of_ble_eq_true rfl) (by decide) (by decide) dX10_copyFrom_66 (fun H locs hP hS => ?_)
  obtain ⟨σ9, eσ9⟩ : ∃ x : zS, x = zI σ8 161 (va_cpy (σ8.1 5) (σ8.1 161) 0 0 10) := ⟨_, rfl⟩
  have hP : zP D c o σ9 H := by rw [eσ9]; exact hP
  have f158_0 : σ9.1 158 0 = v1 := zI_ne eσ9 (by decide) f158_0
  have f158_1 : σ9.1 158 1 = v3 := zI_ne eσ9 (by decide) f158_1
  have f158_2 : σ9.1 158 2 = v5 := zI_ne eσ9 (by decide) f158_2
  have hR : zRef o σ9.2.2 := zI_ref eσ9 hR
  have hF : zFr [158, 159, 160, 161, 162] σ σ9 := zFr_I eσ9 hF (by decide)
  refine lv_aload_n (pc := 69) hx hb dX10_copyFrom_69 rfl (lv_at hl 1 rfl) ?_
  refine zgetR (pc := 70) (k := 2) (j := 6) (a := o + 6) zc10 hx hb hts hown hK hP rfl (by decide) rfl (hR 2 6 rfl) zf_X10_31 dX10_copyFrom_70 ?_
  refine lv_iconst (pc := 73) (v := 0) hx hb dX10_copyFrom_73 (by decide) ?_
  refine lv_aload_n (pc := 74) hx hb dX10_copyFrom_74 rfl (lv_at hl 0 rfl) ?_
  refine zgetR (pc := 75) (k := 158) (j := 6) (a := o + 162) zc10 hx hb hts hown hK hP rfl (by decide) rfl (hR 158 6 rfl) zf_X10_31 dX10_copyFrom_75 ?_
  refine lv_iconst (pc := 78) (v := 0) hx hb dX10_copyFrom_78 (by decide) ?_
  refine lv_bipush (pc := 79) (v := 10) hx hb dX10_copyFrom_79 (by decide) ?_
  refine zcopyI (pc := 81) (k0 := 6) (k1 := 162) (rest := []) hx hb (hml.trans hl.1.symm) hown hts zm_X10_44 hK hP hS rfl (by decide) rfl (by decide) (by decide) (by decide) (by decide) (Nat.le_of_ble_eq_true rfl) (Nat.le_of_ble_eq_true rfl) (by decide) (by decide) dX10_copyFrom_81 (fun H locs hP hS => ?_)
  obtain ⟨σ10, eσ10⟩ : ∃ x : zS, x = zI σ9 162 (va_cpy (σ9.1 6) (σ9.1 162) 0 0 10) := ⟨_, rfl⟩
  have hP : zP D c o σ10 H := by rw [eσ10]; exact hP
  have f158_0 : σ10.1 158 0 = v1 := zI_ne eσ10 (by decide) f158_0
  have f158_1 : σ10.1 158 1 = v3 := zI_ne eσ10 (by decide) f158_1
  have f158_2 : σ10.1 158 2 = v5 := zI_ne eσ10 (by decide) f158_2
  have hR : zRef o σ10.2.2 := zI_ref eσ10 hR
  have hF : zFr [158, 159, 160, 161, 162] σ σ10 := zFr_I eσ10 hF (by decide)
  refine lv_iconst (pc := 84) (v := 0) hx hb dX10_copyFrom_84 (by decide) ?_
  refine lv_istore_n (pc := 85) (lv' := [(2, .int 0), (0, .ref (o + 158)), (1, .ref (o + 2))]) hx hb dX10_copyFrom_85 rfl hl (by decide) rfl (fun ls hl => ?_)
  refine lv_iload_n (pc := 86) hx hb dX10_copyFrom_86 rfl (lv_at hl 0 rfl) ?_
  refine lv_bipush (pc := 87) (v := 10) hx hb dX10_copyFrom_87 (by decide) ?_
  refine lv_icmp_ge (pc := 89) (tgt := 113) hx hb dX10_copyFrom_89 (by decide) (fun c11 => absurd c11 (by decide)) (fun _ => ?_)
  refine lv_aload_n (pc := 92) hx hb dX10_copyFrom_92 rfl (lv_at hl 1 rfl) ?_
  refine zgetR (pc := 93) (k := 158) (j := 7) (a := o + 163) zc10 hx hb hts hown hK hP rfl (by decide) rfl (hR 158 7 rfl) zf_X10_36 dX10_copyFrom_93 ?_
  refine lv_iload_n (pc := 96) hx hb dX10_copyFrom_96 rfl (lv_at hl 0 rfl) ?_
  refine zFald (pc := 97) (k := 163) (n := 10) (a := o + 164) hx hb hK hP rfl (by decide) (vp_in_iff.mpr ⟨by decide, by decide⟩) (hR 163 0 rfl) dX10_copyFrom_97 ?_
  refine lv_aload_n (pc := 98) hx hb dX10_copyFrom_98 rfl (lv_at hl 2 rfl) ?_
  refine zgetR (pc := 99) (k := 2) (j := 7) (a := o + 7) zc10 hx hb hts hown hK hP rfl (by decide) rfl (hR 2 7 rfl) zf_X10_36 dX10_copyFrom_99 ?_
  refine lv_iload_n (pc := 102) hx hb dX10_copyFrom_102 rfl (lv_at hl 0 rfl) ?_
  refine zFald (pc := 103) (k := 7) (n := 10) (a := o + 8) hx hb hK hP rfl (by decide) (vp_in_iff.mpr ⟨by decide, by decide⟩) (hR 7 0 rfl) dX10_copyFrom_103 ?_
  refine zcallVv (pc := 104) (k := 164) (As := [.ref (o + 8)]) (rest := []) ⟨hx, hb, hml, hown, hts⟩ (cs_X2_copyFrom l D c o σ10 164 165 rfl (by decide) rfl (by decide) (hR 164 0 rfl) 8 9 rfl (by decide) rfl (by decide) (hR 8 0 rfl)) zc2 zV_X10_50 rfl zd_X2_copyFrom ⟨Nat.le_of_ble_eq_true rfl, Nat.le_of_ble_eq_true rfl⟩ hK hP hS rfl (by decide) hl.1 rfl (Nat.le_of_ble_eq_true rfl) ⟨Nat.zero_le _, Nat.zero_le _⟩ dX10_copyFrom_104 (fun σ13 H locs hw14 hP hS => ?_)
  have f158_0 : σ13.1 158 0 = v1 := zFr_i hw14 (by decide) f158_0
  have f158_1 : σ13.1 158 1 = v3 := zFr_i hw14 (by decide) f158_1
  have f158_2 : σ13.1 158 2 = v5 := zFr_i hw14 (by decide) f158_2
  have hR : zRef o σ13.2.2 := zFr_ref hw14 hR
  have hF : zFr [158, 159, 160, 161, 162] σ σ13 := zFr_tr hF hw14 (fun _ h9 => absurd h9 List.not_mem_nil)
  refine lv_iinc (pc := 107) (v := 1) (lv' := [(2, .int 1), (0, .ref (o + 158)), (1, .ref (o + 2))]) hx hb dX10_copyFrom_107 hl (k := 0) rfl (by decide) (by decide) rfl (fun ls hl => ?_)
  refine lv_goto (pc := 110) (tgt := 86) hx hb dX10_copyFrom_110 (by decide) ?_
  refine lv_iload_n (pc := 86) hx hb dX10_copyFrom_86 rfl (lv_at hl 0 rfl) ?_
  refine lv_bipush (pc := 87) (v := 10) hx hb dX10_copyFrom_87 (by decide) ?_
  refine lv_icmp_ge (pc := 89) (tgt := 113) hx hb dX10_copyFrom_89 (by decide) (fun c15 => absurd c15 (by decide)) (fun _ => ?_)
  refine lv_aload_n (pc := 92) hx hb dX10_copyFrom_92 rfl (lv_at hl 1 rfl) ?_
  refine zgetR (pc := 93) (k := 158) (j := 7) (a := o + 163) zc10 hx hb hts hown hK hP rfl (by decide) rfl (hR 158 7 rfl) zf_X10_36 dX10_copyFrom_93 ?_
  refine lv_iload_n (pc := 96) hx hb dX10_copyFrom_96 rfl (lv_at hl 0 rfl) ?_
  refine zFald (pc := 97) (k := 163) (n := 10) (a := o + 166) hx hb hK hP rfl (by decide) (vp_in_iff.mpr ⟨by decide, by decide⟩) (hR 163 1 rfl) dX10_copyFrom_97 ?_
  refine lv_aload_n (pc := 98) hx hb dX10_copyFrom_98 rfl (lv_at hl 2 rfl) ?_
  refine zgetR (pc := 99) (k := 2) (j := 7) (a := o + 7) zc10 hx hb hts hown hK hP rfl (by decide) rfl (hR 2 7 rfl) zf_X10_36 dX10_copyFrom_99 ?_
  refine lv_iload_n (pc := 102) hx hb dX10_copyFrom_102 rfl (lv_at hl 0 rfl) ?_
  refine zFald (pc := 103) (k := 7) (n := 10) (a := o + 10) hx hb hK hP rfl (by decide) (vp_in_iff.mpr ⟨by decide, by decide⟩) (hR 7 1 rfl) dX10_copyFrom_103 ?_
  refine zcallVv (pc := 104) (k := 166) (As := [.ref (o + 10)]) (rest := []) ⟨hx, hb, hml, hown, hts⟩ (cs_X2_copyFrom l D c o σ13 166 167 rfl (by decide) rfl (by decide) (hR 166 0 rfl) 10 11 rfl (by decide) rfl (by decide) (hR 10 0 rfl)) zc2 zV_X10_50 rfl zd_X2_copyFrom ⟨Nat.le_of_ble_eq_true rfl, Nat.le_of_ble_eq_true rfl⟩ hK hP hS rfl (by decide) hl.1 rfl (Nat.le_of_ble_eq_true rfl) ⟨Nat.zero_le _, Nat.zero_le _⟩ dX10_copyFrom_104 (fun σ17 H locs hw18 hP hS => ?_)
  have f158_0 : σ17.1 158 0 = v1 := zFr_i hw18 (by decide) f158_0
  have f158_1 : σ17.1 158 1 = v3 := zFr_i hw18 (by decide) f158_1
  have f158_2 : σ17.1 158 2 = v5 := zFr_i hw18 (by decide) f158_2
  have hR : zRef o σ17.2.2 := zFr_ref hw18 hR
  have hF : zFr [158, 159, 160, 161, 162] σ σ17 := zFr_tr hF hw18 (fun _ h9 => absurd h9 List.not_mem_nil)
  refine lv_iinc (pc := 107) (v := 2) (lv' := [(2, .int 2), (0, .ref (o + 158)), (1, .ref (o + 2))]) hx hb dX10_copyFrom_107 hl (k := 0) rfl (by decide) (by decide) rfl (fun ls hl => ?_)
  refine lv_goto (pc := 110) (tgt := 86) hx hb dX10_copyFrom_110 (by decide) ?_
  refine lv_iload_n (pc := 86) hx hb dX10_copyFrom_86 rfl (lv_at hl 0 rfl) ?_
  refine lv_bipush (pc := 87) (v := 10) hx hb dX10_copyFrom_87 (by decide) ?_
  refine lv_icmp_ge (pc := 89) (tgt := 113) hx hb dX10_copyFrom_89 (by decide) (fun c19 => absurd c19 (by decide)) (fun _ => ?_)
  refine lv_aload_n (pc := 92) hx hb dX10_copyFrom_92 rfl (lv_at hl 1 rfl) ?_
  refine zgetR (pc := 93) (k := 158) (j := 7) (a := o + 163) zc10 hx hb hts hown hK hP rfl (by decide) rfl (hR 158 7 rfl) zf_X10_36 dX10_copyFrom_93 ?_
  refine lv_iload_n (pc := 96) hx hb dX10_copyFrom_96 rfl (lv_at hl 0 rfl) ?_
  refine zFald (pc := 97) (k := 163) (n := 10) (a := o + 168) hx hb hK hP rfl (by decide) (vp_in_iff.mpr ⟨by decide, by decide⟩) (hR 163 2 rfl) dX10_copyFrom_97 ?_
  refine lv_aload_n (pc := 98) hx hb dX10_copyFrom_98 rfl (lv_at hl 2 rfl) ?_
  refine zgetR (pc := 99) (k := 2) (j := 7) (a := o + 7) zc10 hx hb hts hown hK hP rfl (by decide) rfl (hR 2 7 rfl) zf_X10_36 dX10_copyFrom_99 ?_
  refine lv_iload_n (pc := 102) hx hb dX10_copyFrom_102 rfl (lv_at hl 0 rfl) ?_
  refine zFald (pc := 103) (k := 7) (n := 10) (a := o + 12) hx hb hK hP rfl (by decide) (vp_in_iff.mpr ⟨by decide, by decide⟩) (hR 7 2 rfl) dX10_copyFrom_103 ?_
  refine zcallVv (pc := 104) (k := 168) (As := [.ref (o + 12)]) (rest := []) ⟨hx, hb, hml, hown, hts⟩ (cs_X2_copyFrom l D c o σ17 168 169 rfl (by decide) rfl (by decide) (hR 168 0 rfl) 12 13 rfl (by decide) rfl (by decide) (hR 12 0 rfl)) zc2 zV_X10_50 rfl zd_X2_copyFrom ⟨Nat.le_of_ble_eq_true rfl, Nat.le_of_ble_eq_true rfl⟩ hK hP hS rfl (by decide) hl.1 rfl (Nat.le_of_ble_eq_true rfl) ⟨Nat.zero_le _, Nat.zero_le _⟩ dX10_copyFrom_104 (fun σ21 H locs hw22 hP hS => ?_)
  have f158_0 : σ21.1 158 0 = v1 := zFr_i hw22 (by decide) f158_0
  have f158_1 : σ21.1 158 1 = v3 := zFr_i hw22 (by decide) f158_1
  have f158_2 : σ21.1 158 2 = v5 := zFr_i hw22 (by decide) f158_2
  have hR : zRef o σ21.2.2 := zFr_ref hw22 hR
  have hF : zFr [158, 159, 160, 161, 162] σ σ21 := zFr_tr hF hw22 (fun _ h9 => absurd h9 List.not_mem_nil)
  refine lv_iinc (pc := 107) (v := 3) (lv' := [(2, .int 3), (0, .ref (o + 158)), (1, .ref (o + 2))]) hx hb dX10_copyFrom_107 hl (k := 0) rfl (by decide) (by decide) rfl (fun ls hl => ?_)
  refine lv_goto (pc := 110) (tgt := 86) hx hb dX10_copyFrom_110 (by decide) ?_
  refine lv_iload_n (pc := 86) hx hb dX10_copyFrom_86 rfl (lv_at hl 0 rfl) ?_
  refine lv_bipush (pc := 87) (v := 10) hx hb dX10_copyFrom_87 (by decide) ?_
  refine lv_icmp_ge (pc := 89) (tgt := 113) hx hb dX10_copyFrom_89 (by decide) (fun c23 => absurd c23 (by decide)) (fun _ => ?_)
  refine lv_aload_n (pc := 92) hx hb dX10_copyFrom_92 rfl (lv_at hl 1 rfl) ?_
  refine zgetR (pc := 93) (k := 158) (j := 7) (a := o + 163) zc10 hx hb hts hown hK hP rfl (by decide) rfl (hR 158 7 rfl) zf_X10_36 dX10_copyFrom_93 ?_
  refine lv_iload_n (pc := 96) hx hb dX10_copyFrom_96 rfl (lv_at hl 0 rfl) ?_
  refine zFald (pc := 97) (k := 163) (n := 10) (a := o + 170) hx hb hK hP rfl (by decide) (vp_in_iff.mpr ⟨by decide, by decide⟩) (hR 163 3 rfl) dX10_copyFrom_97 ?_
  refine lv_aload_n (pc := 98) hx hb dX10_copyFrom_98 rfl (lv_at hl 2 rfl) ?_
  refine zgetR (pc := 99) (k := 2) (j := 7) (a := o + 7) zc10 hx hb hts hown hK hP rfl (by decide) rfl (hR 2 7 rfl) zf_X10_36 dX10_copyFrom_99 ?_
  refine lv_iload_n (pc := 102) hx hb dX10_copyFrom_102 rfl (lv_at hl 0 rfl) ?_
  refine zFald (pc := 103) (k := 7) (n := 10) (a := o + 14) hx hb hK hP rfl (by decide) (vp_in_iff.mpr ⟨by decide, by decide⟩) (hR 7 3 rfl) dX10_copyFrom_103 ?_
  refine zcallVv (pc := 104) (k := 170) (As := [.ref (o + 14)]) (rest := []) ⟨hx, hb, hml, hown, hts⟩ (cs_X2_copyFrom l D c o σ21 170 171 rfl (by decide) rfl (by decide) (hR 170 0 rfl) 14 15 rfl (by decide) rfl (by decide) (hR 14 0 rfl)) zc2 zV_X10_50 rfl zd_X2_copyFrom ⟨Nat.le_of_ble_eq_true rfl, Nat.le_of_ble_eq_true rfl⟩ hK hP hS rfl (by decide) hl.1 rfl (Nat.le_of_ble_eq_true rfl) ⟨Nat.zero_le _, Nat.zero_le _⟩ dX10_copyFrom_104 (fun σ25 H locs hw26 hP hS => ?_)
  have f158_0 : σ25.1 158 0 = v1 := zFr_i hw26 (by decide) f158_0
  have f158_1 : σ25.1 158 1 = v3 := zFr_i hw26 (by decide) f158_1
  have f158_2 : σ25.1 158 2 = v5 := zFr_i hw26 (by decide) f158_2
  have hR : zRef o σ25.2.2 := zFr_ref hw26 hR
  have hF : zFr [158, 159, 160, 161, 162] σ σ25 := zFr_tr hF hw26 (fun _ h9 => absurd h9 List.not_mem_nil)
  refine lv_iinc (pc := 107) (v := 4) (lv' := [(2, .int 4), (0, .ref (o + 158)), (1, .ref (o + 2))]) hx hb dX10_copyFrom_107 hl (k := 0) rfl (by decide) (by decide) rfl (fun ls hl => ?_)
  refine lv_goto (pc := 110) (tgt := 86) hx hb dX10_copyFrom_110 (by decide) ?_
  refine lv_iload_n (pc := 86) hx hb dX10_copyFrom_86 rfl (lv_at hl 0 rfl) ?_
  refine lv_bipush (pc := 87) (v := 10) hx hb dX10_copyFrom_87 (by decide) ?_
  refine lv_icmp_ge (pc := 89) (tgt := 113) hx hb dX10_copyFrom_89 (by decide) (fun c27 => absurd c27 (by decide)) (fun _ => ?_)
  refine lv_aload_n (pc := 92) hx hb dX10_copyFrom_92 rfl (lv_at hl 1 rfl) ?_
  refine zgetR (pc := 93) (k := 158) (j := 7) (a := o + 163) zc10 hx hb hts hown hK hP rfl (by decide) rfl (hR 158 7 rfl) zf_X10_36 dX10_copyFrom_93 ?_
  refine lv_iload_n (pc := 96) hx hb dX10_copyFrom_96 rfl (lv_at hl 0 rfl) ?_
  refine zFald (pc := 97) (k := 163) (n := 10) (a := o + 172) hx hb hK hP rfl (by decide) (vp_in_iff.mpr ⟨by decide, by decide⟩) (hR 163 4 rfl) dX10_copyFrom_97 ?_
  refine lv_aload_n (pc := 98) hx hb dX10_copyFrom_98 rfl (lv_at hl 2 rfl) ?_
  refine zgetR (pc := 99) (k := 2) (j := 7) (a := o + 7) zc10 hx hb hts hown hK hP rfl (by decide) rfl (hR 2 7 rfl) zf_X10_36 dX10_copyFrom_99 ?_
  refine lv_iload_n (pc := 102) hx hb dX10_copyFrom_102 rfl (lv_at hl 0 rfl) ?_
  refine zFald (pc := 103) (k := 7) (n := 10) (a := o + 16) hx hb hK hP rfl (by decide) (vp_in_iff.mpr ⟨by decide, by decide⟩) (hR 7 4 rfl) dX10_copyFrom_103 ?_
  refine zcallVv (pc := 104) (k := 172) (As := [.ref (o + 16)]) (rest := []) ⟨hx, hb, hml, hown, hts⟩ (cs_X2_copyFrom l D c o σ25 172 173 rfl (by decide) rfl (by decide) (hR 172 0 rfl) 16 17 rfl (by decide) rfl (by decide) (hR 16 0 rfl)) zc2 zV_X10_50 rfl zd_X2_copyFrom ⟨Nat.le_of_ble_eq_true rfl, Nat.le_of_ble_eq_true rfl⟩ hK hP hS rfl (by decide) hl.1 rfl (Nat.le_of_ble_eq_true rfl) ⟨Nat.zero_le _, Nat.zero_le _⟩ dX10_copyFrom_104 (fun σ29 H locs hw30 hP hS => ?_)
  have f158_0 : σ29.1 158 0 = v1 := zFr_i hw30 (by decide) f158_0
  have f158_1 : σ29.1 158 1 = v3 := zFr_i hw30 (by decide) f158_1
  have f158_2 : σ29.1 158 2 = v5 := zFr_i hw30 (by decide) f158_2
  have hR : zRef o σ29.2.2 := zFr_ref hw30 hR
  have hF : zFr [158, 159, 160, 161, 162] σ σ29 := zFr_tr hF hw30 (fun _ h9 => absurd h9 List.not_mem_nil)
  refine lv_iinc (pc := 107) (v := 5) (lv' := [(2, .int 5), (0, .ref (o + 158)), (1, .ref (o + 2))]) hx hb dX10_copyFrom_107 hl (k := 0) rfl (by decide) (by decide) rfl (fun ls hl => ?_)
  refine lv_goto (pc := 110) (tgt := 86) hx hb dX10_copyFrom_110 (by decide) ?_
  refine lv_iload_n (pc := 86) hx hb dX10_copyFrom_86 rfl (lv_at hl 0 rfl) ?_
  refine lv_bipush (pc := 87) (v := 10) hx hb dX10_copyFrom_87 (by decide) ?_
  refine lv_icmp_ge (pc := 89) (tgt := 113) hx hb dX10_copyFrom_89 (by decide) (fun c31 => absurd c31 (by decide)) (fun _ => ?_)
  refine lv_aload_n (pc := 92) hx hb dX10_copyFrom_92 rfl (lv_at hl 1 rfl) ?_
  refine zgetR (pc := 93) (k := 158) (j := 7) (a := o + 163) zc10 hx hb hts hown hK hP rfl (by decide) rfl (hR 158 7 rfl) zf_X10_36 dX10_copyFrom_93 ?_
  refine lv_iload_n (pc := 96) hx hb dX10_copyFrom_96 rfl (lv_at hl 0 rfl) ?_
  refine zFald (pc := 97) (k := 163) (n := 10) (a := o + 174) hx hb hK hP rfl (by decide) (vp_in_iff.mpr ⟨by decide, by decide⟩) (hR 163 5 rfl) dX10_copyFrom_97 ?_
  refine lv_aload_n (pc := 98) hx hb dX10_copyFrom_98 rfl (lv_at hl 2 rfl) ?_
  refine zgetR (pc := 99) (k := 2) (j := 7) (a := o + 7) zc10 hx hb hts hown hK hP rfl (by decide) rfl (hR 2 7 rfl) zf_X10_36 dX10_copyFrom_99 ?_
  refine lv_iload_n (pc := 102) hx hb dX10_copyFrom_102 rfl (lv_at hl 0 rfl) ?_
  refine zFald (pc := 103) (k := 7) (n := 10) (a := o + 18) hx hb hK hP rfl (by decide) (vp_in_iff.mpr ⟨by decide, by decide⟩) (hR 7 5 rfl) dX10_copyFrom_103 ?_
  refine zcallVv (pc := 104) (k := 174) (As := [.ref (o + 18)]) (rest := []) ⟨hx, hb, hml, hown, hts⟩ (cs_X2_copyFrom l D c o σ29 174 175 rfl (by decide) rfl (by decide) (hR 174 0 rfl) 18 19 rfl (by decide) rfl (by decide) (hR 18 0 rfl)) zc2 zV_X10_50 rfl zd_X2_copyFrom ⟨Nat.le_of_ble_eq_true rfl, Nat.le_of_ble_eq_true rfl⟩ hK hP hS rfl (by decide) hl.1 rfl (Nat.le_of_ble_eq_true rfl) ⟨Nat.zero_le _, Nat.zero_le _⟩ dX10_copyFrom_104 (fun σ33 H locs hw34 hP hS => ?_)
  have f158_0 : σ33.1 158 0 = v1 := zFr_i hw34 (by decide) f158_0
  have f158_1 : σ33.1 158 1 = v3 := zFr_i hw34 (by decide) f158_1
  have f158_2 : σ33.1 158 2 = v5 := zFr_i hw34 (by decide) f158_2
  have hR : zRef o σ33.2.2 := zFr_ref hw34 hR
  have hF : zFr [158, 159, 160, 161, 162] σ σ33 := zFr_tr hF hw34 (fun _ h9 => absurd h9 List.not_mem_nil)
  refine lv_iinc (pc := 107) (v := 6) (lv' := [(2, .int 6), (0, .ref (o + 158)), (1, .ref (o + 2))]) hx hb dX10_copyFrom_107 hl (k := 0) rfl (by decide) (by decide) rfl (fun ls hl => ?_)
  refine lv_goto (pc := 110) (tgt := 86) hx hb dX10_copyFrom_110 (by decide) ?_
  refine lv_iload_n (pc := 86) hx hb dX10_copyFrom_86 rfl (lv_at hl 0 rfl) ?_
  refine lv_bipush (pc := 87) (v := 10) hx hb dX10_copyFrom_87 (by decide) ?_
  refine lv_icmp_ge (pc := 89) (tgt := 113) hx hb dX10_copyFrom_89 (by decide) (fun c35 => absurd c35 (by decide)) (fun _ => ?_)
  refine lv_aload_n (pc := 92) hx hb dX10_copyFrom_92 rfl (lv_at hl 1 rfl) ?_
  refine zgetR (pc := 93) (k := 158) (j := 7) (a := o + 163) zc10 hx hb hts hown hK hP rfl (by decide) rfl (hR 158 7 rfl) zf_X10_36 dX10_copyFrom_93 ?_
  refine lv_iload_n (pc := 96) hx hb dX10_copyFrom_96 rfl (lv_at hl 0 rfl) ?_
  refine zFald (pc := 97) (k := 163) (n := 10) (a := o + 176) hx hb hK hP rfl (by decide) (vp_in_iff.mpr ⟨by decide, by decide⟩) (hR 163 6 rfl) dX10_copyFrom_97 ?_
  refine lv_aload_n (pc := 98) hx hb dX10_copyFrom_98 rfl (lv_at hl 2 rfl) ?_
  refine zgetR (pc := 99) (k := 2) (j := 7) (a := o + 7) zc10 hx hb hts hown hK hP rfl (by decide) rfl (hR 2 7 rfl) zf_X10_36 dX10_copyFrom_99 ?_
  refine lv_iload_n (pc := 102) hx hb dX10_copyFrom_102 rfl (lv_at hl 0 rfl) ?_
  refine zFald (pc := 103) (k := 7) (n := 10) (a := o + 20) hx hb hK hP rfl (by decide) (vp_in_iff.mpr ⟨by decide, by decide⟩) (hR 7 6 rfl) dX10_copyFrom_103 ?_
  refine zcallVv (pc := 104) (k := 176) (As := [.ref (o + 20)]) (rest := []) ⟨hx, hb, hml, hown, hts⟩ (cs_X2_copyFrom l D c o σ33 176 177 rfl (by decide) rfl (by decide) (hR 176 0 rfl) 20 21 rfl (by decide) rfl (by decide) (hR 20 0 rfl)) zc2 zV_X10_50 rfl zd_X2_copyFrom ⟨Nat.le_of_ble_eq_true rfl, Nat.le_of_ble_eq_true rfl⟩ hK hP hS rfl (by decide) hl.1 rfl (Nat.le_of_ble_eq_true rfl) ⟨Nat.zero_le _, Nat.zero_le _⟩ dX10_copyFrom_104 (fun σ37 H locs hw38 hP hS => ?_)
  have f158_0 : σ37.1 158 0 = v1 := zFr_i hw38 (by decide) f158_0
  have f158_1 : σ37.1 158 1 = v3 := zFr_i hw38 (by decide) f158_1
  have f158_2 : σ37.1 158 2 = v5 := zFr_i hw38 (by decide) f158_2
  have hR : zRef o σ37.2.2 := zFr_ref hw38 hR
  have hF : zFr [158, 159, 160, 161, 162] σ σ37 := zFr_tr hF hw38 (fun _ h9 => absurd h9 List.not_mem_nil)
  refine lv_iinc (pc := 107) (v := 7) (lv' := [(2, .int 7), (0, .ref (o + 158)), (1, .ref (o + 2))]) hx hb dX10_copyFrom_107 hl (k := 0) rfl (by decide) (by decide) rfl (fun ls hl => ?_)
  refine lv_goto (pc := 110) (tgt := 86) hx hb dX10_copyFrom_110 (by decide) ?_
  refine lv_iload_n (pc := 86) hx hb dX10_copyFrom_86 rfl (lv_at hl 0 rfl) ?_
  refine lv_bipush (pc := 87) (v := 10) hx hb dX10_copyFrom_87 (by decide) ?_
  refine lv_icmp_ge (pc := 89) (tgt := 113) hx hb dX10_copyFrom_89 (by decide) (fun c39 => absurd c39 (by decide)) (fun _ => ?_)
  refine lv_aload_n (pc := 92) hx hb dX10_copyFrom_92 rfl (lv_at hl 1 rfl) ?_
  refine zgetR (pc := 93) (k := 158) (j := 7) (a := o + 163) zc10 hx hb hts hown hK hP rfl (by decide) rfl (hR 158 7 rfl) zf_X10_36 dX10_copyFrom_93 ?_
  refine lv_iload_n (pc := 96) hx hb dX10_copyFrom_96 rfl (lv_at hl 0 rfl) ?_
  refine zFald (pc := 97) (k := 163) (n := 10) (a := o + 178) hx hb hK hP rfl (by decide) (vp_in_iff.mpr ⟨by decide, by decide⟩) (hR 163 7 rfl) dX10_copyFrom_97 ?_
  refine lv_aload_n (pc := 98) hx hb dX10_copyFrom_98 rfl (lv_at hl 2 rfl) ?_
  refine zgetR (pc := 99) (k := 2) (j := 7) (a := o + 7) zc10 hx hb hts hown hK hP rfl (by decide) rfl (hR 2 7 rfl) zf_X10_36 dX10_copyFrom_99 ?_
  refine lv_iload_n (pc := 102) hx hb dX10_copyFrom_102 rfl (lv_at hl 0 rfl) ?_
  refine zFald (pc := 103) (k := 7) (n := 10) (a := o + 22) hx hb hK hP rfl (by decide) (vp_in_iff.mpr ⟨by decide, by decide⟩) (hR 7 7 rfl) dX10_copyFrom_103 ?_
  refine zcallVv (pc := 104) (k := 178) (As := [.ref (o + 22)]) (rest := []) ⟨hx, hb, hml, hown, hts⟩ (cs_X2_copyFrom l D c o σ37 178 179 rfl (by decide) rfl (by decide) (hR 178 0 rfl) 22 23 rfl (by decide) rfl (by decide) (hR 22 0 rfl)) zc2 zV_X10_50 rfl zd_X2_copyFrom ⟨Nat.le_of_ble_eq_true rfl, Nat.le_of_ble_eq_true rfl⟩ hK hP hS rfl (by decide) hl.1 rfl (Nat.le_of_ble_eq_true rfl) ⟨Nat.zero_le _, Nat.zero_le _⟩ dX10_copyFrom_104 (fun σ41 H locs hw42 hP hS => ?_)
  have f158_0 : σ41.1 158 0 = v1 := zFr_i hw42 (by decide) f158_0
  have f158_1 : σ41.1 158 1 = v3 := zFr_i hw42 (by decide) f158_1
  have f158_2 : σ41.1 158 2 = v5 := zFr_i hw42 (by decide) f158_2
  have hR : zRef o σ41.2.2 := zFr_ref hw42 hR
  have hF : zFr [158, 159, 160, 161, 162] σ σ41 := zFr_tr hF hw42 (fun _ h9 => absurd h9 List.not_mem_nil)
  refine lv_iinc (pc := 107) (v := 8) (lv' := [(2, .int 8), (0, .ref (o + 158)), (1, .ref (o + 2))]) hx hb dX10_copyFrom_107 hl (k := 0) rfl (by decide) (by decide) rfl (fun ls hl => ?_)
  refine lv_goto (pc := 110) (tgt := 86) hx hb dX10_copyFrom_110 (by decide) ?_
  refine lv_iload_n (pc := 86) hx hb dX10_copyFrom_86 rfl (lv_at hl 0 rfl) ?_
  refine lv_bipush (pc := 87) (v := 10) hx hb dX10_copyFrom_87 (by decide) ?_
  refine lv_icmp_ge (pc := 89) (tgt := 113) hx hb dX10_copyFrom_89 (by decide) (fun c43 => absurd c43 (by decide)) (fun _ => ?_)
  refine lv_aload_n (pc := 92) hx hb dX10_copyFrom_92 rfl (lv_at hl 1 rfl) ?_
  refine zgetR (pc := 93) (k := 158) (j := 7) (a := o + 163) zc10 hx hb hts hown hK hP rfl (by decide) rfl (hR 158 7 rfl) zf_X10_36 dX10_copyFrom_93 ?_
  refine lv_iload_n (pc := 96) hx hb dX10_copyFrom_96 rfl (lv_at hl 0 rfl) ?_
  refine zFald (pc := 97) (k := 163) (n := 10) (a := o + 180) hx hb hK hP rfl (by decide) (vp_in_iff.mpr ⟨by decide, by decide⟩) (hR 163 8 rfl) dX10_copyFrom_97 ?_
  refine lv_aload_n (pc := 98) hx hb dX10_copyFrom_98 rfl (lv_at hl 2 rfl) ?_
  refine zgetR (pc := 99) (k := 2) (j := 7) (a := o + 7) zc10 hx hb hts hown hK hP rfl (by decide) rfl (hR 2 7 rfl) zf_X10_36 dX10_copyFrom_99 ?_
  refine lv_iload_n (pc := 102) hx hb dX10_copyFrom_102 rfl (lv_at hl 0 rfl) ?_
  refine zFald (pc := 103) (k := 7) (n := 10) (a := o + 24) hx hb hK hP rfl (by decide) (vp_in_iff.mpr ⟨by decide, by decide⟩) (hR 7 8 rfl) dX10_copyFrom_103 ?_
  refine zcallVv (pc := 104) (k := 180) (As := [.ref (o + 24)]) (rest := []) ⟨hx, hb, hml, hown, hts⟩ (cs_X2_copyFrom l D c o σ41 180 181 rfl (by decide) rfl (by decide) (hR 180 0 rfl) 24 25 rfl (by decide) rfl (by decide) (hR 24 0 rfl)) zc2 zV_X10_50 rfl zd_X2_copyFrom ⟨Nat.le_of_ble_eq_true rfl, Nat.le_of_ble_eq_true rfl⟩ hK hP hS rfl (by decide) hl.1 rfl (Nat.le_of_ble_eq_true rfl) ⟨Nat.zero_le _, Nat.zero_le _⟩ dX10_copyFrom_104 (fun σ45 H locs hw46 hP hS => ?_)
  have f158_0 : σ45.1 158 0 = v1 := zFr_i hw46 (by decide) f158_0
  have f158_1 : σ45.1 158 1 = v3 := zFr_i hw46 (by decide) f158_1
  have f158_2 : σ45.1 158 2 = v5 := zFr_i hw46 (by decide) f158_2
  have hR : zRef o σ45.2.2 := zFr_ref hw46 hR
  have hF : zFr [158, 159, 160, 161, 162] σ σ45 := zFr_tr hF hw46 (fun _ h9 => absurd h9 List.not_mem_nil)
  refine lv_iinc (pc := 107) (v := 9) (lv' := [(2, .int 9), (0, .ref (o + 158)), (1, .ref (o + 2))]) hx hb dX10_copyFrom_107 hl (k := 0) rfl (by decide) (by decide) rfl (fun ls hl => ?_)
  refine lv_goto (pc := 110) (tgt := 86) hx hb dX10_copyFrom_110 (by decide) ?_
  refine lv_iload_n (pc := 86) hx hb dX10_copyFrom_86 rfl (lv_at hl 0 rfl) ?_
  refine lv_bipush (pc := 87) (v := 10) hx hb dX10_copyFrom_87 (by decide) ?_
  refine lv_icmp_ge (pc := 89) (tgt := 113) hx hb dX10_copyFrom_89 (by decide) (fun c47 => absurd c47 (by decide)) (fun _ => ?_)
  refine lv_aload_n (pc := 92) hx hb dX10_copyFrom_92 rfl (lv_at hl 1 rfl) ?_
  refine zgetR (pc := 93) (k := 158) (j := 7) (a := o + 163) zc10 hx hb hts hown hK hP rfl (by decide) rfl (hR 158 7 rfl) zf_X10_36 dX10_copyFrom_93 ?_
  refine lv_iload_n (pc := 96) hx hb dX10_copyFrom_96 rfl (lv_at hl 0 rfl) ?_
  refine zFald (pc := 97) (k := 163) (n := 10) (a := o + 182) hx hb hK hP rfl (by decide) (vp_in_iff.mpr ⟨by decide, by decide⟩) (hR 163 9 rfl) dX10_copyFrom_97 ?_
  refine lv_aload_n (pc := 98) hx hb dX10_copyFrom_98 rfl (lv_at hl 2 rfl) ?_
  refine zgetR (pc := 99) (k := 2) (j := 7) (a := o + 7) zc10 hx hb hts hown hK hP rfl (by decide) rfl (hR 2 7 rfl) zf_X10_36 dX10_copyFrom_99 ?_
  refine lv_iload_n (pc := 102) hx hb dX10_copyFrom_102 rfl (lv_at hl 0 rfl) ?_
  refine zFald (pc := 103) (k := 7) (n := 10) (a := o + 26) hx hb hK hP rfl (by decide) (vp_in_iff.mpr ⟨by decide, by decide⟩) (hR 7 9 rfl) dX10_copyFrom_103 ?_
  refine zcallVv (pc := 104) (k := 182) (As := [.ref (o + 26)]) (rest := []) ⟨hx, hb, hml, hown, hts⟩ (cs_X2_copyFrom l D c o σ45 182 183 rfl (by decide) rfl (by decide) (hR 182 0 rfl) 26 27 rfl (by decide) rfl (by decide) (hR 26 0 rfl)) zc2 zV_X10_50 rfl zd_X2_copyFrom ⟨Nat.le_of_ble_eq_true rfl, Nat.le_of_ble_eq_true rfl⟩ hK hP hS rfl (by decide) hl.1 rfl (Nat.le_of_ble_eq_true rfl) ⟨Nat.zero_le _, Nat.zero_le _⟩ dX10_copyFrom_104 (fun σ49 H locs hw50 hP hS => ?_)
  have f158_0 : σ49.1 158 0 = v1 := zFr_i hw50 (by decide) f158_0
  have f158_1 : σ49.1 158 1 = v3 := zFr_i hw50 (by decide) f158_1
  have f158_2 : σ49.1 158 2 = v5 := zFr_i hw50 (by decide) f158_2
  have hR : zRef o σ49.2.2 := zFr_ref hw50 hR
  have hF : zFr [158, 159, 160, 161, 162] σ σ49 := zFr_tr hF hw50 (fun _ h9 => absurd h9 List.not_mem_nil)
  refine lv_iinc (pc := 107) (v := 10) (lv' := [(2, .int 10), (0, .ref (o + 158)), (1, .ref (o + 2))]) hx hb dX10_copyFrom_107 hl (k := 0) rfl (by decide) (by decide) rfl (fun ls hl => ?_)
  refine lv_goto (pc := 110) (tgt := 86) hx hb dX10_copyFrom_110 (by decide) ?_
  refine lv_iload_n (pc := 86) hx hb dX10_copyFrom_86 rfl (lv_at hl 0 rfl) ?_
  refine lv_bipush (pc := 87) (v := 10) hx hb dX10_copyFrom_87 (by decide) ?_
  refine lv_icmp_ge (pc := 89) (tgt := 113) hx hb dX10_copyFrom_89 (by decide) (fun _ => ?_) (fun c51 => absurd c51 (by decide))
  exact zretv (pc := 113) hx hb hr hlocks hP hK hS hF dX10_copyFrom_113

set_option maxHeartbeats 4000000 in
set_option maxRecDepth 100000 in
theorem cs_X10_copy184 (l : Launch) (D : va_G) (c : zC) (o : Nat) (σ : zS) (hR : zRef o σ.2.2) : Met l yX10_copyFrom zs_X10_copyFrom (zr 8) (va_Pc [.ref (o + 184), .ref (o + 2)] (zQ D c o σ)) (va_Qv (fun (σ1 : zS) => zFr [184, 185, 186, 187, 188] σ σ1) (zQ D c o) (zA o)) 0 0 (zA o) := by
  refine zMet (by decide) (Nat.le_of_ble_eq_true rfl) ?_
  intro p e s m below meth cd ⟨hx, hb, hr, hml, hown, hts, hlocks⟩ hP hK ls hl
  have hS : va_S (zA o) s.heap s.heap [] := va_S.rf
  have hl : lv_has ls 3 [(0, .ref (o + 184)), (1, .ref (o + 2))] := hl
  have hF : zFr [184, 185, 186, 187, 188] σ σ := zFr_rf
  refine lv_aload_n (pc := 0) hx hb dX10_copyFrom_0 rfl (lv_at hl 0 rfl) ?_
  refine lv_aload_n (pc := 1) hx hb dX10_copyFrom_1 rfl (lv_at hl 1 rfl) ?_
  refine zgetI (pc := 2) (k := 2) (j := 0) zc10 hx hb hts hown hK hP rfl (by decide) rfl rfl zf_X10_9 dX10_copyFrom_2 ?_
  refine lv_topi (pc := 5) (fun v1 ev1 => ?_)
  refine zputI (pc := 5) (k := 184) (j := 0) zc10 hx hb hts hown hK hP hS rfl (by decide) rfl rfl rfl zf_X10_9 dX10_copyFrom_5 (fun H locs hP hS => ?_)
  obtain ⟨σ2, eσ2⟩ : ∃ x : zS, x = zI σ 184 (upd (σ.1 184) 0 v1) := ⟨_, rfl⟩
  have hP : zP D c o σ2 H := by rw [eσ2]; exact hP
  have f184_0 : σ2.1 184 0 = v1 := zI_eq eσ2 pk_us
  have hR : zRef o σ2.2.2 := zI_ref eσ2 hR
  have hF : zFr [184, 185, 186, 187, 188] σ σ2 := zFr_I eσ2 hF (by decide)
  refine lv_aload_n (pc := 8) hx hb dX10_copyFrom_8 rfl (lv_at hl 0 rfl) ?_
  refine lv_aload_n (pc := 9) hx hb dX10_copyFrom_9 rfl (lv_at hl 1 rfl) ?_
  refine zgetI (pc := 10) (k := 2) (j := 1) zc10 hx hb hts hown hK hP rfl (by decide) rfl rfl zf_X10_15 dX10_copyFrom_10 ?_
  refine lv_topi (pc := 13) (fun v3 ev3 => ?_)
  refine zputI (pc := 13) (k := 184) (j := 1) zc10 hx hb hts hown hK hP hS rfl (by decide) rfl rfl rfl zf_X10_15 dX10_copyFrom_13 (fun H locs hP hS => ?_)
  obtain ⟨σ4, eσ4⟩ : ∃ x : zS, x = zI σ2 184 (upd (σ2.1 184) 1 v3) := ⟨_, rfl⟩
  have hP : zP D c o σ4 H := by rw [eσ4]; exact hP
  have f184_0 : σ4.1 184 0 = v1 := zI_eq eσ4 ((pk_un (by decide)).trans f184_0)
  have f184_1 : σ4.1 184 1 = v3 := zI_eq eσ4 pk_us
  have hR : zRef o σ4.2.2 := zI_ref eσ4 hR
  have hF : zFr [184, 185, 186, 187, 188] σ σ4 := zFr_I eσ4 hF (by decide)
  refine lv_aload_n (pc := 16) hx hb dX10_copyFrom_16 rfl (lv_at hl 0 rfl) ?_
  refine lv_aload_n (pc := 17) hx hb dX10_copyFrom_17 rfl (lv_at hl 1 rfl) ?_
  refine zgetI (pc := 18) (k := 2) (j := 2) zc10 hx hb hts hown hK hP rfl (by decide) rfl rfl zf_X10_18 dX10_copyFrom_18 ?_
  refine lv_topi (pc := 21) (fun v5 ev5 => ?_)
  refine zputI (pc := 21) (k := 184) (j := 2) zc10 hx hb hts hown hK hP hS rfl (by decide) rfl rfl rfl zf_X10_18 dX10_copyFrom_21 (fun H locs hP hS => ?_)
  obtain ⟨σ6, eσ6⟩ : ∃ x : zS, x = zI σ4 184 (upd (σ4.1 184) 2 v5) := ⟨_, rfl⟩
  have hP : zP D c o σ6 H := by rw [eσ6]; exact hP
  have f184_0 : σ6.1 184 0 = v1 := zI_eq eσ6 ((pk_un (by decide)).trans f184_0)
  have f184_1 : σ6.1 184 1 = v3 := zI_eq eσ6 ((pk_un (by decide)).trans f184_1)
  have f184_2 : σ6.1 184 2 = v5 := zI_eq eσ6 pk_us
  have hR : zRef o σ6.2.2 := zI_ref eσ6 hR
  have hF : zFr [184, 185, 186, 187, 188] σ σ6 := zFr_I eσ6 hF (by decide)
  refine lv_aload_n (pc := 24) hx hb dX10_copyFrom_24 rfl (lv_at hl 1 rfl) ?_
  refine zgetR (pc := 25) (k := 2) (j := 3) (a := o + 3) zc10 hx hb hts hown hK hP rfl (by decide) rfl (hR 2 3 rfl) zf_X10_21 dX10_copyFrom_25 ?_
  refine lv_iconst (pc := 28) (v := 0) hx hb dX10_copyFrom_28 (by decide) ?_
  refine lv_aload_n (pc := 29) hx hb dX10_copyFrom_29 rfl (lv_at hl 0 rfl) ?_
  refine zgetR (pc := 30) (k := 184) (j := 3) (a := o + 185) zc10 hx hb hts hown hK hP rfl (by decide) rfl (hR 184 3 rfl) zf_X10_21 dX10_copyFrom_30 ?_
  refine lv_iconst (pc := 33) (v := 0) hx hb dX10_copyFrom_33 (by decide) ?_
  refine lv_bipush (pc := 34) (v := 10) hx hb dX10_copyFrom_34 (by decide) ?_
  refine zcopyI (pc := 36) (k0 := 3) (k1 := 185) (rest := []) hx hb (hml.trans hl.1.symm) hown hts zm_X10_44 hK hP hS rfl (by decide) rfl (by decide) (by decide) (by decide) (by decide) (Nat.le_of_ble_eq_true rfl) (Nat.le_of_ble_eq_true rfl) (by decide) (by decide) dX10_copyFrom_36 (fun H locs hP hS => ?_)
  obtain ⟨σ7, eσ7⟩ : ∃ x : zS, x = zI σ6 185 (va_cpy (σ6.1 3) (σ6.1 185) 0 0 10) := ⟨_, rfl⟩
  have hP : zP D c o σ7 H := by rw [eσ7]; exact hP
  have f184_0 : σ7.1 184 0 = v1 := zI_ne eσ7 (by decide) f184_0
  have f184_1 : σ7.1 184 1 = v3 := zI_ne eσ7 (by decide) f184_1
  have f184_2 : σ7.1 184 2 = v5 := zI_ne eσ7 (by decide) f184_2
  have hR : zRef o σ7.2.2 := zI_ref eσ7 hR
  have hF : zFr [184, 185, 186, 187, 188] σ σ7 := zFr_I eσ7 hF (by decide)
  refine lv_aload_n (pc := 39) hx hb dX10_copyFrom_39 rfl (lv_at hl 1 rfl) ?_
  refine zgetR (pc := 40) (k := 2) (j := 4) (a := o + 4) zc10 hx hb hts hown hK hP rfl (by decide) rfl (hR 2 4 rfl) zf_X10_25 dX10_copyFrom_40 ?_
  refine lv_iconst (pc := 43) (v := 0) hx hb dX10_copyFrom_43 (by decide) ?_
  refine lv_aload_n (pc := 44) hx hb dX10_copyFrom_44 rfl (lv_at hl 0 rfl) ?_
  refine zgetR (pc := 45) (k := 184) (j := 4) (a := o + 186) zc10 hx hb hts hown hK hP rfl (by decide) rfl (hR 184 4 rfl) zf_X10_25 dX10_copyFrom_45 ?_
  refine lv_iconst (pc := 48) (v := 0) hx hb dX10_copyFrom_48 (by decide) ?_
  refine lv_bipush (pc := 49) (v := 10) hx hb dX10_copyFrom_49 (by decide) ?_
  refine zcopyI (pc := 51) (k0 := 4) (k1 := 186) (rest := []) hx hb (hml.trans hl.1.symm) hown hts zm_X10_44 hK hP hS rfl (by decide) rfl (by decide) (by decide) (by decide) (by decide) (Nat.le_of_ble_eq_true rfl) (Nat.le_of_ble_eq_true rfl) (by decide) (by decide) dX10_copyFrom_51 (fun H locs hP hS => ?_)
  obtain ⟨σ8, eσ8⟩ : ∃ x : zS, x = zI σ7 186 (va_cpy (σ7.1 4) (σ7.1 186) 0 0 10) := ⟨_, rfl⟩
  have hP : zP D c o σ8 H := by rw [eσ8]; exact hP
  have f184_0 : σ8.1 184 0 = v1 := zI_ne eσ8 (by decide) f184_0
  have f184_1 : σ8.1 184 1 = v3 := zI_ne eσ8 (by decide) f184_1
  have f184_2 : σ8.1 184 2 = v5 := zI_ne eσ8 (by decide) f184_2
  have hR : zRef o σ8.2.2 := zI_ref eσ8 hR
  have hF : zFr [184, 185, 186, 187, 188] σ σ8 := zFr_I eσ8 hF (by decide)
  refine lv_aload_n (pc := 54) hx hb dX10_copyFrom_54 rfl (lv_at hl 1 rfl) ?_
  refine zgetR (pc := 55) (k := 2) (j := 5) (a := o + 5) zc10 hx hb hts hown hK hP rfl (by decide) rfl (hR 2 5 rfl) zf_X10_28 dX10_copyFrom_55 ?_
  refine lv_iconst (pc := 58) (v := 0) hx hb dX10_copyFrom_58 (by decide) ?_
  refine lv_aload_n (pc := 59) hx hb dX10_copyFrom_59 rfl (lv_at hl 0 rfl) ?_
  refine zgetR (pc := 60) (k := 184) (j := 5) (a := o + 187) zc10 hx hb hts hown hK hP rfl (by decide) rfl (hR 184 5 rfl) zf_X10_28 dX10_copyFrom_60 ?_
  refine lv_iconst (pc := 63) (v := 0) hx hb dX10_copyFrom_63 (by decide) ?_
  refine lv_bipush (pc := 64) (v := 10) hx hb dX10_copyFrom_64 (by decide) ?_
  refine zcopyI (pc := 66) (k0 := 5) (k1 := 187) (rest := []) hx hb (hml.trans hl.1.symm) hown hts zm_X10_44 hK hP hS rfl (by decide) rfl (by decide) (by decide) (by decide) (by decide) (Nat.le_of_ble_eq_true rfl) (Nat.le_of_ble_eq_true rfl) (by decide) (by decide) dX10_copyFrom_66 (fun H locs hP hS => ?_)
  obtain ⟨σ9, eσ9⟩ : ∃ x : zS, x = zI σ8 187 (va_cpy (σ8.1 5) (σ8.1 187) 0 0 10) := ⟨_, rfl⟩
  have hP : zP D c o σ9 H := by rw [eσ9]; exact hP
  have f184_0 : σ9.1 184 0 = v1 := zI_ne eσ9 (by decide) f184_0
  have f184_1 : σ9.1 184 1 = v3 := zI_ne eσ9 (by decide) f184_1
  have f184_2 : σ9.1 184 2 = v5 := zI_ne eσ9 (by decide) f184_2
  have hR : zRef o σ9.2.2 := zI_ref eσ9 hR
  have hF : zFr [184, 185, 186, 187, 188] σ σ9 := zFr_I eσ9 hF (by decide)
  refine lv_aload_n (pc := 69) hx hb dX10_copyFrom_69 rfl (lv_at hl 1 rfl) ?_
  refine zgetR (pc := 70) (k := 2) (j := 6) (a := o + 6) zc10 hx hb hts hown hK hP rfl (by decide) rfl (hR 2 6 rfl) zf_X10_31 dX10_copyFrom_70 ?_
  refine lv_iconst (pc := 73) (v := 0) hx hb dX10_copyFrom_73 (by decide) ?_
  refine lv_aload_n (pc := 74) hx hb dX10_copyFrom_74 rfl (lv_at hl 0 rfl) ?_
  refine zgetR (pc := 75) (k := 184) (j := 6) (a := o + 188) zc10 hx hb hts hown hK hP rfl (by decide) rfl (hR 184 6 rfl) zf_X10_31 dX10_copyFrom_75 ?_
  refine lv_iconst (pc := 78) (v := 0) hx hb dX10_copyFrom_78 (by decide) ?_
  refine lv_bipush (pc := 79) (v := 10) hx hb dX10_copyFrom_79 (by decide) ?_
  refine zcopyI (pc := 81) (k0 := 6) (k1 := 188) (rest := []) hx hb (hml.trans hl.1.symm) hown hts zm_X10_44 hK hP hS rfl (by decide) rfl (by decide) (by decide) (by decide) (by decide) (Nat.le_of_ble_eq_true rfl) (Nat.le_of_ble_eq_true rfl) (by decide) (by decide) dX10_copyFrom_81 (fun H locs hP hS => ?_)
  obtain ⟨σ10, eσ10⟩ : ∃ x : zS, x = zI σ9 188 (va_cpy (σ9.1 6) (σ9.1 188) 0 0 10) := ⟨_, rfl⟩
  have hP : zP D c o σ10 H := by rw [eσ10]; exact hP
  have f184_0 : σ10.1 184 0 = v1 := zI_ne eσ10 (by decide) f184_0
  have f184_1 : σ10.1 184 1 = v3 := zI_ne eσ10 (by decide) f184_1
  have f184_2 : σ10.1 184 2 = v5 := zI_ne eσ10 (by decide) f184_2
  have hR : zRef o σ10.2.2 := zI_ref eσ10 hR
  have hF : zFr [184, 185, 186, 187, 188] σ σ10 := zFr_I eσ10 hF (by decide)
  refine lv_iconst (pc := 84) (v := 0) hx hb dX10_copyFrom_84 (by decide) ?_
  refine lv_istore_n (pc := 85) (lv' := [(2, .int 0), (0, .ref (o + 184)), (1, .ref (o + 2))]) hx hb dX10_copyFrom_85 rfl hl (by decide) rfl (fun ls hl => ?_)
  refine lv_iload_n (pc := 86) hx hb dX10_copyFrom_86 rfl (lv_at hl 0 rfl) ?_
  refine lv_bipush (pc := 87) (v := 10) hx hb dX10_copyFrom_87 (by decide) ?_
  refine lv_icmp_ge (pc := 89) (tgt := 113) hx hb dX10_copyFrom_89 (by decide) (fun c11 => absurd c11 (by decide)) (fun _ => ?_)
  refine lv_aload_n (pc := 92) hx hb dX10_copyFrom_92 rfl (lv_at hl 1 rfl) ?_
  refine zgetR (pc := 93) (k := 184) (j := 7) (a := o + 189) zc10 hx hb hts hown hK hP rfl (by decide) rfl (hR 184 7 rfl) zf_X10_36 dX10_copyFrom_93 ?_
  refine lv_iload_n (pc := 96) hx hb dX10_copyFrom_96 rfl (lv_at hl 0 rfl) ?_
  refine zFald (pc := 97) (k := 189) (n := 10) (a := o + 190) hx hb hK hP rfl (by decide) (vp_in_iff.mpr ⟨by decide, by decide⟩) (hR 189 0 rfl) dX10_copyFrom_97 ?_
  refine lv_aload_n (pc := 98) hx hb dX10_copyFrom_98 rfl (lv_at hl 2 rfl) ?_
  refine zgetR (pc := 99) (k := 2) (j := 7) (a := o + 7) zc10 hx hb hts hown hK hP rfl (by decide) rfl (hR 2 7 rfl) zf_X10_36 dX10_copyFrom_99 ?_
  refine lv_iload_n (pc := 102) hx hb dX10_copyFrom_102 rfl (lv_at hl 0 rfl) ?_
  refine zFald (pc := 103) (k := 7) (n := 10) (a := o + 8) hx hb hK hP rfl (by decide) (vp_in_iff.mpr ⟨by decide, by decide⟩) (hR 7 0 rfl) dX10_copyFrom_103 ?_
  refine zcallVv (pc := 104) (k := 190) (As := [.ref (o + 8)]) (rest := []) ⟨hx, hb, hml, hown, hts⟩ (cs_X2_copyFrom l D c o σ10 190 191 rfl (by decide) rfl (by decide) (hR 190 0 rfl) 8 9 rfl (by decide) rfl (by decide) (hR 8 0 rfl)) zc2 zV_X10_50 rfl zd_X2_copyFrom ⟨Nat.le_of_ble_eq_true rfl, Nat.le_of_ble_eq_true rfl⟩ hK hP hS rfl (by decide) hl.1 rfl (Nat.le_of_ble_eq_true rfl) ⟨Nat.zero_le _, Nat.zero_le _⟩ dX10_copyFrom_104 (fun σ13 H locs hw14 hP hS => ?_)
  have f184_0 : σ13.1 184 0 = v1 := zFr_i hw14 (by decide) f184_0
  have f184_1 : σ13.1 184 1 = v3 := zFr_i hw14 (by decide) f184_1
  have f184_2 : σ13.1 184 2 = v5 := zFr_i hw14 (by decide) f184_2
  have hR : zRef o σ13.2.2 := zFr_ref hw14 hR
  have hF : zFr [184, 185, 186, 187, 188] σ σ13 := zFr_tr hF hw14 (fun _ h9 => absurd h9 List.not_mem_nil)
  refine lv_iinc (pc := 107) (v := 1) (lv' := [(2, .int 1), (0, .ref (o + 184)), (1, .ref (o + 2))]) hx hb dX10_copyFrom_107 hl (k := 0) rfl (by decide) (by decide) rfl (fun ls hl => ?_)
  refine lv_goto (pc := 110) (tgt := 86) hx hb dX10_copyFrom_110 (by decide) ?_
  refine lv_iload_n (pc := 86) hx hb dX10_copyFrom_86 rfl (lv_at hl 0 rfl) ?_
  refine lv_bipush (pc := 87) (v := 10) hx hb dX10_copyFrom_87 (by decide) ?_
  refine lv_icmp_ge (pc := 89) (tgt := 113) hx hb dX10_copyFrom_89 (by decide) (fun c15 => absurd c15 (by decide)) (fun _ => ?_)
  refine lv_aload_n (pc := 92) hx hb dX10_copyFrom_92 rfl (lv_at hl 1 rfl) ?_
  refine zgetR (pc := 93) (k := 184) (j := 7) (a := o + 189) zc10 hx hb hts hown hK hP rfl (by decide) rfl (hR 184 7 rfl) zf_X10_36 dX10_copyFrom_93 ?_
  refine lv_iload_n (pc := 96) hx hb dX10_copyFrom_96 rfl (lv_at hl 0 rfl) ?_
  refine zFald (pc := 97) (k := 189) (n := 10) (a := o + 192) hx hb hK hP rfl (by decide) (vp_in_iff.mpr ⟨by decide, by decide⟩) (hR 189 1 rfl) dX10_copyFrom_97 ?_
  refine lv_aload_n (pc := 98) hx hb dX10_copyFrom_98 rfl (lv_at hl 2 rfl) ?_
  refine zgetR (pc := 99) (k := 2) (j := 7) (a := o + 7) zc10 hx hb hts hown hK hP rfl (by decide) rfl (hR 2 7 rfl) zf_X10_36 dX10_copyFrom_99 ?_
  refine lv_iload_n (pc := 102) hx hb dX10_copyFrom_102 rfl (lv_at hl 0 rfl) ?_
  refine zFald (pc := 103) (k := 7) (n := 10) (a := o + 10) hx hb hK hP rfl (by decide) (vp_in_iff.mpr ⟨by decide, by decide⟩) (hR 7 1 rfl) dX10_copyFrom_103 ?_
  refine zcallVv (pc := 104) (k := 192) (As := [.ref (o + 10)]) (rest := []) ⟨hx, hb, hml, hown, hts⟩ (cs_X2_copyFrom l D c o σ13 192 193 rfl (by decide) rfl (by decide) (hR 192 0 rfl) 10 11 rfl (by decide) rfl (by decide) (hR 10 0 rfl)) zc2 zV_X10_50 rfl zd_X2_copyFrom ⟨Nat.le_of_ble_eq_true rfl, Nat.le_of_ble_eq_true rfl⟩ hK hP hS rfl (by decide) hl.1 rfl (Nat.le_of_ble_eq_true rfl) ⟨Nat.zero_le _, Nat.zero_le _⟩ dX10_copyFrom_104 (fun σ17 H locs hw18 hP hS => ?_)
  have f184_0 : σ17.1 184 0 = v1 := zFr_i hw18 (by decide) f184_0
  have f184_1 : σ17.1 184 1 = v3 := zFr_i hw18 (by decide) f184_1
  have f184_2 : σ17.1 184 2 = v5 := zFr_i hw18 (by decide) f184_2
  have hR : zRef o σ17.2.2 := zFr_ref hw18 hR
  have hF : zFr [184, 185, 186, 187, 188] σ σ17 := zFr_tr hF hw18 (fun _ h9 => absurd h9 List.not_mem_nil)
  refine lv_iinc (pc := 107) (v := 2) (lv' := [(2, .int 2), (0, .ref (o + 184)), (1, .ref (o + 2))]) hx hb dX10_copyFrom_107 hl (k := 0) rfl (by decide) (by decide) rfl (fun ls hl => ?_)
  refine lv_goto (pc := 110) (tgt := 86) hx hb dX10_copyFrom_110 (by decide) ?_
  refine lv_iload_n (pc := 86) hx hb dX10_copyFrom_86 rfl (lv_at hl 0 rfl) ?_
  refine lv_bipush (pc := 87) (v := 10) hx hb dX10_copyFrom_87 (by decide) ?_
  refine lv_icmp_ge (pc := 89) (tgt := 113) hx hb dX10_copyFrom_89 (by decide) (fun c19 => absurd c19 (by decide)) (fun _ => ?_)
  refine lv_aload_n (pc := 92) hx hb dX10_copyFrom_92 rfl (lv_at hl 1 rfl) ?_
  refine zgetR (pc := 93) (k := 184) (j := 7) (a := o + 189) zc10 hx hb hts hown hK hP rfl (by decide) rfl (hR 184 7 rfl) zf_X10_36 dX10_copyFrom_93 ?_
  refine lv_iload_n (pc := 96) hx hb dX10_copyFrom_96 rfl (lv_at hl 0 rfl) ?_
  refine zFald (pc := 97) (k := 189) (n := 10) (a := o + 194) hx hb hK hP rfl (by decide) (vp_in_iff.mpr ⟨by decide, by decide⟩) (hR 189 2 rfl) dX10_copyFrom_97 ?_
  refine lv_aload_n (pc := 98) hx hb dX10_copyFrom_98 rfl (lv_at hl 2 rfl) ?_
  refine zgetR (pc := 99) (k := 2) (j := 7) (a := o + 7) zc10 hx hb hts hown hK hP rfl (by decide) rfl (hR 2 7 rfl) zf_X10_36 dX10_copyFrom_99 ?_
  refine lv_iload_n (pc := 102) hx hb dX10_copyFrom_102 rfl (lv_at hl 0 rfl) ?_
  refine zFald (pc := 103) (k := 7) (n := 10) (a := o + 12) hx hb hK hP rfl (by decide) (vp_in_iff.mpr ⟨by decide, by decide⟩) (hR 7 2 rfl) dX10_copyFrom_103 ?_
  refine zcallVv (pc := 104) (k := 194) (As := [.ref (o + 12)]) (rest := []) ⟨hx, hb, hml, hown, hts⟩ (cs_X2_copyFrom l D c o σ17 194 195 rfl (by decide) rfl (by decide) (hR 194 0 rfl) 12 13 rfl (by decide) rfl (by decide) (hR 12 0 rfl)) zc2 zV_X10_50 rfl zd_X2_copyFrom ⟨Nat.le_of_ble_eq_true rfl, Nat.le_of_ble_eq_true rfl⟩ hK hP hS rfl (by decide) hl.1 rfl (Nat.le_of_ble_eq_true rfl) ⟨Nat.zero_le _, Nat.zero_le _⟩ dX10_copyFrom_104 (fun σ21 H locs hw22 hP hS => ?_)
  have f184_0 : σ21.1 184 0 = v1 := zFr_i hw22 (by decide) f184_0
  have f184_1 : σ21.1 184 1 = v3 := zFr_i hw22 (by decide) f184_1
  have f184_2 : σ21.1 184 2 = v5 := zFr_i hw22 (by decide) f184_2
  have hR : zRef o σ21.2.2 := zFr_ref hw22 hR
  have hF : zFr [184, 185, 186, 187, 188] σ σ21 := zFr_tr hF hw22 (fun _ h9 => absurd h9 List.not_mem_nil)
  refine lv_iinc (pc := 107) (v := 3) (lv' := [(2, .int 3), (0, .ref (o + 184)), (1, .ref (o + 2))]) hx hb dX10_copyFrom_107 hl (k := 0) rfl (by decide) (by decide) rfl (fun ls hl => ?_)
  refine lv_goto (pc := 110) (tgt := 86) hx hb dX10_copyFrom_110 (by decide) ?_
  refine lv_iload_n (pc := 86) hx hb dX10_copyFrom_86 rfl (lv_at hl 0 rfl) ?_
  refine lv_bipush (pc := 87) (v := 10) hx hb dX10_copyFrom_87 (by decide) ?_
  refine lv_icmp_ge (pc := 89) (tgt := 113) hx hb dX10_copyFrom_89 (by decide) (fun c23 => absurd c23 (by decide)) (fun _ => ?_)
  refine lv_aload_n (pc := 92) hx hb dX10_copyFrom_92 rfl (lv_at hl 1 rfl) ?_
  refine zgetR (pc := 93) (k := 184) (j := 7) (a := o + 189) zc10 hx hb hts hown hK hP rfl (by decide) rfl (hR 184 7 rfl) zf_X10_36 dX10_copyFrom_93 ?_
  refine lv_iload_n (pc := 96) hx hb dX10_copyFrom_96 rfl (lv_at hl 0 rfl) ?_
  refine zFald (pc := 97) (k := 189) (n := 10) (a := o + 196) hx hb hK hP rfl (by decide) (vp_in_iff.mpr ⟨by decide, by decide⟩) (hR 189 3 rfl) dX10_copyFrom_97 ?_
  refine lv_aload_n (pc := 98) hx hb dX10_copyFrom_98 rfl (lv_at hl 2 rfl) ?_
  refine zgetR (pc := 99) (k := 2) (j := 7) (a := o + 7) zc10 hx hb hts hown hK hP rfl (by decide) rfl (hR 2 7 rfl) zf_X10_36 dX10_copyFrom_99 ?_
  refine lv_iload_n (pc := 102) hx hb dX10_copyFrom_102 rfl (lv_at hl 0 rfl) ?_
  refine zFald (pc := 103) (k := 7) (n := 10) (a := o + 14) hx hb hK hP rfl (by decide) (vp_in_iff.mpr ⟨by decide, by decide⟩) (hR 7 3 rfl) dX10_copyFrom_103 ?_
  refine zcallVv (pc := 104) (k := 196) (As := [.ref (o + 14)]) (rest := []) ⟨hx, hb, hml, hown, hts⟩ (cs_X2_copyFrom l D c o σ21 196 197 rfl (by decide) rfl (by decide) (hR 196 0 rfl) 14 15 rfl (by decide) rfl (by decide) (hR 14 0 rfl)) zc2 zV_X10_50 rfl zd_X2_copyFrom ⟨Nat.le_of_ble_eq_true rfl, Nat.le_of_ble_eq_true rfl⟩ hK hP hS rfl (by decide) hl.1 rfl (Nat.le_of_ble_eq_true rfl) ⟨Nat.zero_le _, Nat.zero_le _⟩ dX10_copyFrom_104 (fun σ25 H locs hw26 hP hS => ?_)
  have f184_0 : σ25.1 184 0 = v1 := zFr_i hw26 (by decide) f184_0
  have f184_1 : σ25.1 184 1 = v3 := zFr_i hw26 (by decide) f184_1
  have f184_2 : σ25.1 184 2 = v5 := zFr_i hw26 (by decide) f184_2
  have hR : zRef o σ25.2.2 := zFr_ref hw26 hR
  have hF : zFr [184, 185, 186, 187, 188] σ σ25 := zFr_tr hF hw26 (fun _ h9 => absurd h9 List.not_mem_nil)
  refine lv_iinc (pc := 107) (v := 4) (lv' := [(2, .int 4), (0, .ref (o + 184)), (1, .ref (o + 2))]) hx hb dX10_copyFrom_107 hl (k := 0) rfl (by decide) (by decide) rfl (fun ls hl => ?_)
  refine lv_goto (pc := 110) (tgt := 86) hx hb dX10_copyFrom_110 (by decide) ?_
  refine lv_iload_n (pc := 86) hx hb dX10_copyFrom_86 rfl (lv_at hl 0 rfl) ?_
  refine lv_bipush (pc := 87) (v := 10) hx hb dX10_copyFrom_87 (by decide) ?_
  refine lv_icmp_ge (pc := 89) (tgt := 113) hx hb dX10_copyFrom_89 (by decide) (fun c27 => absurd c27 (by decide)) (fun _ => ?_)
  refine lv_aload_n (pc := 92) hx hb dX10_copyFrom_92 rfl (lv_at hl 1 rfl) ?_
  refine zgetR (pc := 93) (k := 184) (j := 7) (a := o + 189) zc10 hx hb hts hown hK hP rfl (by decide) rfl (hR 184 7 rfl) zf_X10_36 dX10_copyFrom_93 ?_
  refine lv_iload_n (pc := 96) hx hb dX10_copyFrom_96 rfl (lv_at hl 0 rfl) ?_
  refine zFald (pc := 97) (k := 189) (n := 10) (a := o + 198) hx hb hK hP rfl (by decide) (vp_in_iff.mpr ⟨by decide, by decide⟩) (hR 189 4 rfl) dX10_copyFrom_97 ?_
  refine lv_aload_n (pc := 98) hx hb dX10_copyFrom_98 rfl (lv_at hl 2 rfl) ?_
  refine zgetR (pc := 99) (k := 2) (j := 7) (a := o + 7) zc10 hx hb hts hown hK hP rfl (by decide) rfl (hR 2 7 rfl) zf_X10_36 dX10_copyFrom_99 ?_
  refine lv_iload_n (pc := 102) hx hb dX10_copyFrom_102 rfl (lv_at hl 0 rfl) ?_
  refine zFald (pc := 103) (k := 7) (n := 10) (a := o + 16) hx hb hK hP rfl (by decide) (vp_in_iff.mpr ⟨by decide, by decide⟩) (hR 7 4 rfl) dX10_copyFrom_103 ?_
  refine zcallVv (pc := 104) (k := 198) (As := [.ref (o + 16)]) (rest := []) ⟨hx, hb, hml, hown, hts⟩ (cs_X2_copyFrom l D c o σ25 198 199 rfl (by decide) rfl (by decide) (hR 198 0 rfl) 16 17 rfl (by decide) rfl (by decide) (hR 16 0 rfl)) zc2 zV_X10_50 rfl zd_X2_copyFrom ⟨Nat.le_of_ble_eq_true rfl, Nat.le_of_ble_eq_true rfl⟩ hK hP hS rfl (by decide) hl.1 rfl (Nat.le_of_ble_eq_true rfl) ⟨Nat.zero_le _, Nat.zero_le _⟩ dX10_copyFrom_104 (fun σ29 H locs hw30 hP hS => ?_)
  have f184_0 : σ29.1 184 0 = v1 := zFr_i hw30 (by decide) f184_0
  have f184_1 : σ29.1 184 1 = v3 := zFr_i hw30 (by decide) f184_1
  have f184_2 : σ29.1 184 2 = v5 := zFr_i hw30 (by decide) f184_2
  have hR : zRef o σ29.2.2 := zFr_ref hw30 hR
  have hF : zFr [184, 185, 186, 187, 188] σ σ29 := zFr_tr hF hw30 (fun _ h9 => absurd h9 List.not_mem_nil)
  refine lv_iinc (pc := 107) (v := 5) (lv' := [(2, .int 5), (0, .ref (o + 184)), (1, .ref (o + 2))]) hx hb dX10_copyFrom_107 hl (k := 0) rfl (by decide) (by decide) rfl (fun ls hl => ?_)
  refine lv_goto (pc := 110) (tgt := 86) hx hb dX10_copyFrom_110 (by decide) ?_
  refine lv_iload_n (pc := 86) hx hb dX10_copyFrom_86 rfl (lv_at hl 0 rfl) ?_
  refine lv_bipush (pc := 87) (v := 10) hx hb dX10_copyFrom_87 (by decide) ?_
  refine lv_icmp_ge (pc := 89) (tgt := 113) hx hb dX10_copyFrom_89 (by decide) (fun c31 => absurd c31 (by decide)) (fun _ => ?_)
  refine lv_aload_n (pc := 92) hx hb dX10_copyFrom_92 rfl (lv_at hl 1 rfl) ?_
  refine zgetR (pc := 93) (k := 184) (j := 7) (a := o + 189) zc10 hx hb hts hown hK hP rfl (by decide) rfl (hR 184 7 rfl) zf_X10_36 dX10_copyFrom_93 ?_
  refine lv_iload_n (pc := 96) hx hb dX10_copyFrom_96 rfl (lv_at hl 0 rfl) ?_
  refine zFald (pc := 97) (k := 189) (n := 10) (a := o + 200) hx hb hK hP rfl (by decide) (vp_in_iff.mpr ⟨by decide, by decide⟩) (hR 189 5 rfl) dX10_copyFrom_97 ?_
  refine lv_aload_n (pc := 98) hx hb dX10_copyFrom_98 rfl (lv_at hl 2 rfl) ?_
  refine zgetR (pc := 99) (k := 2) (j := 7) (a := o + 7) zc10 hx hb hts hown hK hP rfl (by decide) rfl (hR 2 7 rfl) zf_X10_36 dX10_copyFrom_99 ?_
  refine lv_iload_n (pc := 102) hx hb dX10_copyFrom_102 rfl (lv_at hl 0 rfl) ?_
  refine zFald (pc := 103) (k := 7) (n := 10) (a := o + 18) hx hb hK hP rfl (by decide) (vp_in_iff.mpr ⟨by decide, by decide⟩) (hR 7 5 rfl) dX10_copyFrom_103 ?_
  refine zcallVv (pc := 104) (k := 200) (As := [.ref (o + 18)]) (rest := []) ⟨hx, hb, hml, hown, hts⟩ (cs_X2_copyFrom l D c o σ29 200 201 rfl (by decide) rfl (by decide) (hR 200 0 rfl) 18 19 rfl (by decide) rfl (by decide) (hR 18 0 rfl)) zc2 zV_X10_50 rfl zd_X2_copyFrom ⟨Nat.le_of_ble_eq_true rfl, Nat.le_of_ble_eq_true rfl⟩ hK hP hS rfl (by decide) hl.1 rfl (Nat.le_of_ble_eq_true rfl) ⟨Nat.zero_le _, Nat.zero_le _⟩ dX10_copyFrom_104 (fun σ33 H locs hw34 hP hS => ?_)
  have f184_0 : σ33.1 184 0 = v1 := zFr_i hw34 (by decide) f184_0
  have f184_1 : σ33.1 184 1 = v3 := zFr_i hw34 (by decide) f184_1
  have f184_2 : σ33.1 184 2 = v5 := zFr_i hw34 (by decide) f184_2
  have hR : zRef o σ33.2.2 := zFr_ref hw34 hR
  have hF : zFr [184, 185, 186, 187, 188] σ σ33 := zFr_tr hF hw34 (fun _ h9 => absurd h9 List.not_mem_nil)
  refine lv_iinc (pc := 107) (v := 6) (lv' := [(2, .int 6), (0, .ref (o + 184)), (1, .ref (o + 2))]) hx hb dX10_copyFrom_107 hl (k := 0) rfl (by decide) (by decide) rfl (fun ls hl => ?_)
  refine lv_goto (pc := 110) (tgt := 86) hx hb dX10_copyFrom_110 (by decide) ?_
  refine lv_iload_n (pc := 86) hx hb dX10_copyFrom_86 rfl (lv_at hl 0 rfl) ?_
  refine lv_bipush (pc := 87) (v := 10) hx hb dX10_copyFrom_87 (by decide) ?_
  refine lv_icmp_ge (pc := 89) (tgt := 113) hx hb dX10_copyFrom_89 (by decide) (fun c35 => absurd c35 (by decide)) (fun _ => ?_)
  refine lv_aload_n (pc := 92) hx hb dX10_copyFrom_92 rfl (lv_at hl 1 rfl) ?_
  refine zgetR (pc := 93) (k := 184) (j := 7) (a := o + 189) zc10 hx hb hts hown hK hP rfl (by decide) rfl (hR 184 7 rfl) zf_X10_36 dX10_copyFrom_93 ?_
  refine lv_iload_n (pc := 96) hx hb dX10_copyFrom_96 rfl (lv_at hl 0 rfl) ?_
  refine zFald (pc := 97) (k := 189) (n := 10) (a := o + 202) hx hb hK hP rfl (by decide) (vp_in_iff.mpr ⟨by decide, by decide⟩) (hR 189 6 rfl) dX10_copyFrom_97 ?_
  refine lv_aload_n (pc := 98) hx hb dX10_copyFrom_98 rfl (lv_at hl 2 rfl) ?_
  refine zgetR (pc := 99) (k := 2) (j := 7) (a := o + 7) zc10 hx hb hts hown hK hP rfl (by decide) rfl (hR 2 7 rfl) zf_X10_36 dX10_copyFrom_99 ?_
  refine lv_iload_n (pc := 102) hx hb dX10_copyFrom_102 rfl (lv_at hl 0 rfl) ?_
  refine zFald (pc := 103) (k := 7) (n := 10) (a := o + 20) hx hb hK hP rfl (by decide) (vp_in_iff.mpr ⟨by decide, by decide⟩) (hR 7 6 rfl) dX10_copyFrom_103 ?_
  refine zcallVv (pc := 104) (k := 202) (As := [.ref (o + 20)]) (rest := []) ⟨hx, hb, hml, hown, hts⟩ (cs_X2_copyFrom l D c o σ33 202 203 rfl (by decide) rfl (by decide) (hR 202 0 rfl) 20 21 rfl (by decide) rfl (by decide) (hR 20 0 rfl)) zc2 zV_X10_50 rfl zd_X2_copyFrom ⟨Nat.le_of_ble_eq_true rfl, Nat.le_of_ble_eq_true rfl⟩ hK hP hS rfl (by decide) hl.1 rfl (Nat.le_of_ble_eq_true rfl) ⟨Nat.zero_le _, Nat.zero_le _⟩ dX10_copyFrom_104 (fun σ37 H locs hw38 hP hS => ?_)
  have f184_0 : σ37.1 184 0 = v1 := zFr_i hw38 (by decide) f184_0
  have f184_1 : σ37.1 184 1 = v3 := zFr_i hw38 (by decide) f184_1
  have f184_2 : σ37.1 184 2 = v5 := zFr_i hw38 (by decide) f184_2
  have hR : zRef o σ37.2.2 := zFr_ref hw38 hR
  have hF : zFr [184, 185, 186, 187, 188] σ σ37 := zFr_tr hF hw38 (fun _ h9 => absurd h9 List.not_mem_nil)
  refine lv_iinc (pc := 107) (v := 7) (lv' := [(2, .int 7), (0, .ref (o + 184)), (1, .ref (o + 2))]) hx hb dX10_copyFrom_107 hl (k := 0) rfl (by decide) (by decide) rfl (fun ls hl => ?_)
  refine lv_goto (pc := 110) (tgt := 86) hx hb dX10_copyFrom_110 (by decide) ?_
  refine lv_iload_n (pc := 86) hx hb dX10_copyFrom_86 rfl (lv_at hl 0 rfl) ?_
  refine lv_bipush (pc := 87) (v := 10) hx hb dX10_copyFrom_87 (by decide) ?_
  refine lv_icmp_ge (pc := 89) (tgt := 113) hx hb dX10_copyFrom_89 (by decide) (fun c39 => absurd c39 (by decide)) (fun _ => ?_)
  refine lv_aload_n (pc := 92) hx hb dX10_copyFrom_92 rfl (lv_at hl 1 rfl) ?_
  refine zgetR (pc := 93) (k := 184) (j := 7) (a := o + 189) zc10 hx hb hts hown hK hP rfl (by decide) rfl (hR 184 7 rfl) zf_X10_36 dX10_copyFrom_93 ?_
  refine lv_iload_n (pc := 96) hx hb dX10_copyFrom_96 rfl (lv_at hl 0 rfl) ?_
  refine zFald (pc := 97) (k := 189) (n := 10) (a := o + 204) hx hb hK hP rfl (by decide) (vp_in_iff.mpr ⟨by decide, by decide⟩) (hR 189 7 rfl) dX10_copyFrom_97 ?_
  refine lv_aload_n (pc := 98) hx hb dX10_copyFrom_98 rfl (lv_at hl 2 rfl) ?_
  refine zgetR (pc := 99) (k := 2) (j := 7) (a := o + 7) zc10 hx hb hts hown hK hP rfl (by decide) rfl (hR 2 7 rfl) zf_X10_36 dX10_copyFrom_99 ?_
  refine lv_iload_n (pc := 102) hx hb dX10_copyFrom_102 rfl (lv_at hl 0 rfl) ?_
  refine zFald (pc := 103) (k := 7) (n := 10) (a := o + 22) hx hb hK hP rfl (by decide) (vp_in_iff.mpr ⟨by decide, by decide⟩) (hR 7 7 rfl) dX10_copyFrom_103 ?_
  refine zcallVv (pc := 104) (k := 204) (As := [.ref (o + 22)]) (rest := []) ⟨hx, hb, hml, hown, hts⟩ (cs_X2_copyFrom l D c o σ37 204 205 rfl (by decide) rfl (by decide) (hR 204 0 rfl) 22 23 rfl (by decide) rfl (by decide) (hR 22 0 rfl)) zc2 zV_X10_50 rfl zd_X2_copyFrom ⟨Nat.le_of_ble_eq_true rfl, Nat.le_of_ble_eq_true rfl⟩ hK hP hS rfl (by decide) hl.1 rfl (Nat.le_of_ble_eq_true rfl) ⟨Nat.zero_le _, Nat.zero_le _⟩ dX10_copyFrom_104 (fun σ41 H locs hw42 hP hS => ?_)
  have f184_0 : σ41.1 184 0 = v1 := zFr_i hw42 (by decide) f184_0
  have f184_1 : σ41.1 184 1 = v3 := zFr_i hw42 (by decide) f184_1
  have f184_2 : σ41.1 184 2 = v5 := zFr_i hw42 (by decide) f184_2
  have hR : zRef o σ41.2.2 := zFr_ref hw42 hR
  have hF : zFr [184, 185, 186, 187, 188] σ σ41 := zFr_tr hF hw42 (fun _ h9 => absurd h9 List.not_mem_nil)
  refine lv_iinc (pc := 107) (v := 8) (lv' := [(2, .int 8), (0, .ref (o + 184)), (1, .ref (o + 2))]) hx hb dX10_copyFrom_107 hl (k := 0) rfl (by decide) (by decide) rfl (fun ls hl => ?_)
  refine lv_goto (pc := 110) (tgt := 86) hx hb dX10_copyFrom_110 (by decide) ?_
  refine lv_iload_n (pc := 86) hx hb dX10_copyFrom_86 rfl (lv_at hl 0 rfl) ?_
  refine lv_bipush (pc := 87) (v := 10) hx hb dX10_copyFrom_87 (by decide) ?_
  refine lv_icmp_ge (pc := 89) (tgt := 113) hx hb dX10_copyFrom_89 (by decide) (fun c43 => absurd c43 (by decide)) (fun _ => ?_)
  refine lv_aload_n (pc := 92) hx hb dX10_copyFrom_92 rfl (lv_at hl 1 rfl) ?_
  refine zgetR (pc := 93) (k := 184) (j := 7) (a := o + 189) zc10 hx hb hts hown hK hP rfl (by decide) rfl (hR 184 7 rfl) zf_X10_36 dX10_copyFrom_93 ?_
  refine lv_iload_n (pc := 96) hx hb dX10_copyFrom_96 rfl (lv_at hl 0 rfl) ?_
  refine zFald (pc := 97) (k := 189) (n := 10) (a := o + 206) hx hb hK hP rfl (by decide) (vp_in_iff.mpr ⟨by decide, by decide⟩) (hR 189 8 rfl) dX10_copyFrom_97 ?_
  refine lv_aload_n (pc := 98) hx hb dX10_copyFrom_98 rfl (lv_at hl 2 rfl) ?_
  refine zgetR (pc := 99) (k := 2) (j := 7) (a := o + 7) zc10 hx hb hts hown hK hP rfl (by decide) rfl (hR 2 7 rfl) zf_X10_36 dX10_copyFrom_99 ?_
  refine lv_iload_n (pc := 102) hx hb dX10_copyFrom_102 rfl (lv_at hl 0 rfl) ?_
  refine zFald (pc := 103) (k := 7) (n := 10) (a := o + 24) hx hb hK hP rfl (by decide) (vp_in_iff.mpr ⟨by decide, by decide⟩) (hR 7 8 rfl) dX10_copyFrom_103 ?_
  refine zcallVv (pc := 104) (k := 206) (As := [.ref (o + 24)]) (rest := []) ⟨hx, hb, hml, hown, hts⟩ (cs_X2_copyFrom l D c o σ41 206 207 rfl (by decide) rfl (by decide) (hR 206 0 rfl) 24 25 rfl (by decide) rfl (by decide) (hR 24 0 rfl)) zc2 zV_X10_50 rfl zd_X2_copyFrom ⟨Nat.le_of_ble_eq_true rfl, Nat.le_of_ble_eq_true rfl⟩ hK hP hS rfl (by decide) hl.1 rfl (Nat.le_of_ble_eq_true rfl) ⟨Nat.zero_le _, Nat.zero_le _⟩ dX10_copyFrom_104 (fun σ45 H locs hw46 hP hS => ?_)
  have f184_0 : σ45.1 184 0 = v1 := zFr_i hw46 (by decide) f184_0
  have f184_1 : σ45.1 184 1 = v3 := zFr_i hw46 (by decide) f184_1
  have f184_2 : σ45.1 184 2 = v5 := zFr_i hw46 (by decide) f184_2
  have hR : zRef o σ45.2.2 := zFr_ref hw46 hR
  have hF : zFr [184, 185, 186, 187, 188] σ σ45 := zFr_tr hF hw46 (fun _ h9 => absurd h9 List.not_mem_nil)
  refine lv_iinc (pc := 107) (v := 9) (lv' := [(2, .int 9), (0, .ref (o + 184)), (1, .ref (o + 2))]) hx hb dX10_copyFrom_107 hl (k := 0) rfl (by decide) (by decide) rfl (fun ls hl => ?_)
  refine lv_goto (pc := 110) (tgt := 86) hx hb dX10_copyFrom_110 (by decide) ?_
  refine lv_iload_n (pc := 86) hx hb dX10_copyFrom_86 rfl (lv_at hl 0 rfl) ?_
  refine lv_bipush (pc := 87) (v := 10) hx hb dX10_copyFrom_87 (by decide) ?_
  refine lv_icmp_ge (pc := 89) (tgt := 113) hx hb dX10_copyFrom_89 (by decide) (fun c47 => absurd c47 (by decide)) (fun _ => ?_)
  refine lv_aload_n (pc := 92) hx hb dX10_copyFrom_92 rfl (lv_at hl 1 rfl) ?_
  refine zgetR (pc := 93) (k := 184) (j := 7) (a := o + 189) zc10 hx hb hts hown hK hP rfl (by decide) rfl (hR 184 7 rfl) zf_X10_36 dX10_copyFrom_93 ?_
  refine lv_iload_n (pc := 96) hx hb dX10_copyFrom_96 rfl (lv_at hl 0 rfl) ?_
  refine zFald (pc := 97) (k := 189) (n := 10) (a := o + 208) hx hb hK hP rfl (by decide) (vp_in_iff.mpr ⟨by decide, by decide⟩) (hR 189 9 rfl) dX10_copyFrom_97 ?_
  refine lv_aload_n (pc := 98) hx hb dX10_copyFrom_98 rfl (lv_at hl 2 rfl) ?_
  refine zgetR (pc := 99) (k := 2) (j := 7) (a := o + 7) zc10 hx hb hts hown hK hP rfl (by decide) rfl (hR 2 7 rfl) zf_X10_36 dX10_copyFrom_99 ?_
  refine lv_iload_n (pc := 102) hx hb dX10_copyFrom_102 rfl (lv_at hl 0 rfl) ?_
  refine zFald (pc := 103) (k := 7) (n := 10) (a := o + 26) hx hb hK hP rfl (by decide) (vp_in_iff.mpr ⟨by decide, by decide⟩) (hR 7 9 rfl) dX10_copyFrom_103 ?_
  refine zcallVv (pc := 104) (k := 208) (As := [.ref (o + 26)]) (rest := []) ⟨hx, hb, hml, hown, hts⟩ (cs_X2_copyFrom l D c o σ45 208 209 rfl (by decide) rfl (by decide) (hR 208 0 rfl) 26 27 rfl (by decide) rfl (by decide) (hR 26 0 rfl)) zc2 zV_X10_50 rfl zd_X2_copyFrom ⟨Nat.le_of_ble_eq_true rfl, Nat.le_of_ble_eq_true rfl⟩ hK hP hS rfl (by decide) hl.1 rfl (Nat.le_of_ble_eq_true rfl) ⟨Nat.zero_le _, Nat.zero_le _⟩ dX10_copyFrom_104 (fun σ49 H locs hw50 hP hS => ?_)
  have f184_0 : σ49.1 184 0 = v1 := zFr_i hw50 (by decide) f184_0
  have f184_1 : σ49.1 184 1 = v3 := zFr_i hw50 (by decide) f184_1
  have f184_2 : σ49.1 184 2 = v5 := zFr_i hw50 (by decide) f184_2
  have hR : zRef o σ49.2.2 := zFr_ref hw50 hR
  have hF : zFr [184, 185, 186, 187, 188] σ σ49 := zFr_tr hF hw50 (fun _ h9 => absurd h9 List.not_mem_nil)
  refine lv_iinc (pc := 107) (v := 10) (lv' := [(2, .int 10), (0, .ref (o + 184)), (1, .ref (o + 2))]) hx hb dX10_copyFrom_107 hl (k := 0) rfl (by decide) (by decide) rfl (fun ls hl => ?_)
  refine lv_goto (pc := 110) (tgt := 86) hx hb dX10_copyFrom_110 (by decide) ?_
  refine lv_iload_n (pc := 86) hx hb dX10_copyFrom_86 rfl (lv_at hl 0 rfl) ?_
  refine lv_bipush (pc := 87) (v := 10) hx hb dX10_copyFrom_87 (by decide) ?_
  refine lv_icmp_ge (pc := 89) (tgt := 113) hx hb dX10_copyFrom_89 (by decide) (fun _ => ?_) (fun c51 => absurd c51 (by decide))
  exact zretv (pc := 113) hx hb hr hlocks hP hK hS hF dX10_copyFrom_113

set_option maxHeartbeats 4000000 in
set_option maxRecDepth 100000 in
theorem nz_X9_isBare (l : Launch) (D : va_G) (c : zC) (o : Nat) (σ : zS) (q : Nat) (hq : zK q = (9, 0)) (hql : q < 243) (hb0 : σ.1 q 2 = -1) : Met l yX9_isBare zs_X9_isBare (zr 5) (va_Pc [.ref (o + q)] (zQ D c o σ)) (va_Qi (fun (r : Int32) (σ1 : zS) => r = 1 ∧ σ = σ1) (zQ D c o) (zA o)) 0 0 (zA o) := by
  refine zMet (by decide) (Nat.le_of_ble_eq_true rfl) ?_
  intro p e s m below meth cd ⟨hx, hb, hr, hml, hown, hts, hlocks⟩ hP hK ls hl
  have hS : va_S (zA o) s.heap s.heap [] := va_S.rf
  have hl : lv_has ls 1 [(0, .ref (o + q))] := hl
  refine lv_aload_n (pc := 0) hx hb dX9_isBare_0 rfl (lv_at hl 0 rfl) ?_
  refine zgetI (pc := 1) (k := q) (j := 2) (v := (-1)) zc9 hx hb hts hown hK hP hq hql rfl hb0 zf_X9_19 dX9_isBare_1 ?_
  refine lv_if_ge (pc := 4) (tgt := 11) hx hb dX9_isBare_4 (by decide) (fun c1 => absurd c1 (by decide)) (fun _ => ?_)
  refine lv_iconst (pc := 7) (v := 1) hx hb dX9_isBare_7 (by decide) ?_
  refine lv_goto (pc := 8) (tgt := 12) hx hb dX9_isBare_8 (by decide) ?_
  exact zretz (pc := 12) hx hb hr hlocks hP hK hS (by decide) ⟨rfl, rfl⟩ dX9_isBare_12

set_option maxHeartbeats 4000000 in
set_option maxRecDepth 100000 in
theorem cs_X9_start (l : Launch) (D : va_G) (c : zC) (o : Nat) (σ : zS) (q w : Nat) (p0 p1 : Int32) (hq : zK q = (9, 0)) (hql : q < 243) (hw : zK w = (15, 60)) (hwl : w < 243) (hr0 : σ.2.2 q 0 = o + w) : Met l yX9_start zs_X9_start (zr 8) (va_Pc [.ref (o + q), .int p0, .int p1] (zQ D c o σ)) (va_Qv (fun (σ1 : zS) => zFr [q] σ σ1) (zQ D c o) (zA o)) 0 0 (zA o) := by
  refine zMet (by decide) (Nat.le_of_ble_eq_true rfl) ?_
  intro p e s m below meth cd ⟨hx, hb, hr, hml, hown, hts, hlocks⟩ hP hK ls hl
  have hS : va_S (zA o) s.heap s.heap [] := va_S.rf
  have hl : lv_has ls 3 [(0, .ref (o + q)), (1, .int p0), (2, .int p1)] := hl
  have hF : zFr [q] σ σ := zFr_rf
  refine lv_aload_n (pc := 0) hx hb dX9_start_0 rfl (lv_at hl 0 rfl) ?_
  refine zgetR (pc := 1) (k := q) (j := 0) (a := o + w) zc9 hx hb hts hown hK hP hq hql rfl hr0 zf_X9_9 dX9_start_1 ?_
  refine lv_lconst (pc := 4) (v := 0) hx hb dX9_start_4 (by decide) ?_
  refine zcallSv (pc := 5) (As := [.ref (o + w), .long 0]) (rest := []) ⟨hx, hb, hml, hown, hts⟩ (cs_fill60 l D c o σ w 0 hw hwl) zT_X9_22 rfl zd_J7_fill_d0a16 ⟨Nat.le_of_ble_eq_true rfl, Nat.le_of_ble_eq_true rfl⟩ hK hP hS hl.1 rfl (Nat.le_of_ble_eq_true rfl) ⟨Nat.zero_le _, Nat.zero_le _⟩ dX9_start_5 (fun σ2 H locs hw3 hP hS => ?_)
  have hr0 : σ2.2.2 q 0 = o + w := zFr_r hw3 hr0
  have hF : zFr [q] σ σ2 := zFr_tr hF hw3 (fun _ h9 => absurd h9 List.not_mem_nil)
  refine lv_aload_n (pc := 8) hx hb dX9_start_8 rfl (lv_at hl 0 rfl) ?_
  refine lv_iload_n (pc := 9) hx hb dX9_start_9 rfl (lv_at hl 1 rfl) ?_
  refine zputI (pc := 10) (k := q) (j := 1) zc9 hx hb hts hown hK hP hS hq hql rfl rfl rfl zf_X9_15 dX9_start_10 (fun H locs hP hS => ?_)
  obtain ⟨σ4, eσ4⟩ : ∃ x : zS, x = zI σ2 q (upd (σ2.1 q) 1 p0) := ⟨_, rfl⟩
  have hP : zP D c o σ4 H := by rw [eσ4]; exact hP
  have fq_1 : σ4.1 q 1 = p0 := zI_eq eσ4 pk_us
  have hr0 : σ4.2.2 q 0 = o + w := zI_r eσ4 hr0
  have hF : zFr [q] σ σ4 := zFr_I eσ4 hF (List.mem_singleton.mpr rfl)
  refine lv_aload_n (pc := 13) hx hb dX9_start_13 rfl (lv_at hl 0 rfl) ?_
  refine lv_bipush (pc := 14) (v := 60) hx hb dX9_start_14 (by decide) ?_
  refine lv_iload_n (pc := 16) hx hb dX9_start_16 rfl (lv_at hl 2 rfl) ?_
  refine va_mmin (pc := 17) (rest := [.ref (o + q)]) hx hb (hml.trans hl.1.symm) hown (hts _ zm_X9_28) (hts _ zst_J9_min_7cf53) (hts _ zn_J9) (hts _ (zq_J9_min_7cf53 _ List.mem_cons_self).1) (Nat.le_of_ble_eq_true rfl) (Nat.le_of_ble_eq_true rfl) (Nat.zero_le _) (Nat.zero_le _) dX9_start_17 ?_
  refine lv_topi (pc := 20) (fun v5 ev5 => ?_)
  refine zputI (pc := 20) (k := q) (j := 2) zc9 hx hb hts hown hK hP hS hq hql rfl rfl rfl zf_X9_19 dX9_start_20 (fun H locs hP hS => ?_)
  obtain ⟨σ6, eσ6⟩ : ∃ x : zS, x = zI σ4 q (upd (σ4.1 q) 2 v5) := ⟨_, rfl⟩
  have hP : zP D c o σ6 H := by rw [eσ6]; exact hP
  have fq_1 : σ6.1 q 1 = p0 := zI_eq eσ6 ((pk_un (by decide)).trans fq_1)
  have fq_2 : σ6.1 q 2 = v5 := zI_eq eσ6 pk_us
  have hr0 : σ6.2.2 q 0 = o + w := zI_r eσ6 hr0
  have hF : zFr [q] σ σ6 := zFr_I eσ6 hF (List.mem_singleton.mpr rfl)
  exact zretv (pc := 23) hx hb hr hlocks hP hK hS hF dX9_start_23

set_option maxHeartbeats 4000000 in
set_option maxRecDepth 100000 in
theorem nz_X11_rows (l : Launch) (D : va_G) (c : zC) (o : Nat) (σ : zS) (hR : zRef o σ.2.2) (hb210 : σ.1 210 2 = -1) (hb212 : σ.1 212 2 = -1) (hb214 : σ.1 214 2 = -1) (hb216 : σ.1 216 2 = -1) : Met l yX11_rowsInSlots zs_X11_rowsInSlots (zr 8) (va_Pc [.ref (o + 0)] (zQ D c o σ)) (va_Qi (fun (r : Int32) (σ1 : zS) => r = 0 ∧ σ = σ1) (zQ D c o) (zA o)) 0 0 (zA o) := by
  refine zMet (by decide) (Nat.le_of_ble_eq_true rfl) ?_
  intro p e s m below meth cd ⟨hx, hb, hr, hml, hown, hts, hlocks⟩ hP hK ls hl
  have hS : va_S (zA o) s.heap s.heap [] := va_S.rf
  have hl : lv_has ls 3 [(0, .ref (o + 0))] := hl
  refine lv_iconst (pc := 0) (v := 0) hx hb dX11_rowsInSlots_0 (by decide) ?_
  refine lv_istore_n (pc := 1) (lv' := [(1, .int 0), (0, .ref (o + 0))]) hx hb dX11_rowsInSlots_1 rfl hl (by decide) rfl (fun ls hl => ?_)
  refine lv_iconst (pc := 2) (v := 0) hx hb dX11_rowsInSlots_2 (by decide) ?_
  refine lv_istore_n (pc := 3) (lv' := [(2, .int 0), (1, .int 0), (0, .ref (o + 0))]) hx hb dX11_rowsInSlots_3 rfl hl (by decide) rfl (fun ls hl => ?_)
  refine lv_iload_n (pc := 4) hx hb dX11_rowsInSlots_4 rfl (lv_at hl 0 rfl) ?_
  refine lv_iconst (pc := 5) (v := 4) hx hb dX11_rowsInSlots_5 (by decide) ?_
  refine lv_icmp_ge (pc := 6) (tgt := 30) hx hb dX11_rowsInSlots_6 (by decide) (fun c1 => absurd c1 (by decide)) (fun _ => ?_)
  refine lv_aload_n (pc := 9) hx hb dX11_rowsInSlots_9 rfl (lv_at hl 2 rfl) ?_
  refine zgetR (pc := 10) (k := 0) (j := 8) (a := o + 56) zc11 hx hb hts hown hK hP rfl (by decide) rfl (hR 0 8 rfl) zf_X11_43 dX11_rowsInSlots_10 ?_
  refine lv_iload_n (pc := 13) hx hb dX11_rowsInSlots_13 rfl (lv_at hl 0 rfl) ?_
  refine zSald (pc := 14) (k := 56) (n := 4) (a := o + 210) hx hb hK hP rfl (by decide) (vp_in_iff.mpr ⟨by decide, by decide⟩) (hR 56 0 rfl) dX11_rowsInSlots_14 ?_
  refine zcallVi (pc := 15) (k := 210) (As := []) (rest := []) ⟨hx, hb, hml, hown, hts⟩ (nz_X9_isBare l D c o σ 210 rfl (by decide) hb210) zc9 zV_X11_305 rfl zd_X9_isBare ⟨Nat.le_of_ble_eq_true rfl, Nat.le_of_ble_eq_true rfl⟩ hK hP hS rfl (by decide) hl.1 rfl (Nat.le_of_ble_eq_true rfl) ⟨Nat.zero_le _, Nat.zero_le _⟩ dX11_rowsInSlots_15 (fun r2 σ3 H locs hw4 hP hS => ?_)
  obtain ⟨rfl, rfl⟩ := hw4
  refine lv_if_ne (pc := 18) (tgt := 24) hx hb dX11_rowsInSlots_18 (by decide) (fun _ => ?_) (fun c5 => absurd c5 (by decide))
  refine lv_iinc (pc := 24) (v := 1) (lv' := [(2, .int 1), (1, .int 0), (0, .ref (o + 0))]) hx hb dX11_rowsInSlots_24 hl (k := 0) rfl (by decide) (by decide) rfl (fun ls hl => ?_)
  refine lv_goto (pc := 27) (tgt := 4) hx hb dX11_rowsInSlots_27 (by decide) ?_
  refine lv_iload_n (pc := 4) hx hb dX11_rowsInSlots_4 rfl (lv_at hl 0 rfl) ?_
  refine lv_iconst (pc := 5) (v := 4) hx hb dX11_rowsInSlots_5 (by decide) ?_
  refine lv_icmp_ge (pc := 6) (tgt := 30) hx hb dX11_rowsInSlots_6 (by decide) (fun c6 => absurd c6 (by decide)) (fun _ => ?_)
  refine lv_aload_n (pc := 9) hx hb dX11_rowsInSlots_9 rfl (lv_at hl 2 rfl) ?_
  refine zgetR (pc := 10) (k := 0) (j := 8) (a := o + 56) zc11 hx hb hts hown hK hP rfl (by decide) rfl (hR 0 8 rfl) zf_X11_43 dX11_rowsInSlots_10 ?_
  refine lv_iload_n (pc := 13) hx hb dX11_rowsInSlots_13 rfl (lv_at hl 0 rfl) ?_
  refine zSald (pc := 14) (k := 56) (n := 4) (a := o + 212) hx hb hK hP rfl (by decide) (vp_in_iff.mpr ⟨by decide, by decide⟩) (hR 56 1 rfl) dX11_rowsInSlots_14 ?_
  refine zcallVi (pc := 15) (k := 212) (As := []) (rest := []) ⟨hx, hb, hml, hown, hts⟩ (nz_X9_isBare l D c o σ 212 rfl (by decide) hb212) zc9 zV_X11_305 rfl zd_X9_isBare ⟨Nat.le_of_ble_eq_true rfl, Nat.le_of_ble_eq_true rfl⟩ hK hP hS rfl (by decide) hl.1 rfl (Nat.le_of_ble_eq_true rfl) ⟨Nat.zero_le _, Nat.zero_le _⟩ dX11_rowsInSlots_15 (fun r7 σ8 H locs hw9 hP hS => ?_)
  obtain ⟨rfl, rfl⟩ := hw9
  refine lv_if_ne (pc := 18) (tgt := 24) hx hb dX11_rowsInSlots_18 (by decide) (fun _ => ?_) (fun c10 => absurd c10 (by decide))
  refine lv_iinc (pc := 24) (v := 2) (lv' := [(2, .int 2), (1, .int 0), (0, .ref (o + 0))]) hx hb dX11_rowsInSlots_24 hl (k := 0) rfl (by decide) (by decide) rfl (fun ls hl => ?_)
  refine lv_goto (pc := 27) (tgt := 4) hx hb dX11_rowsInSlots_27 (by decide) ?_
  refine lv_iload_n (pc := 4) hx hb dX11_rowsInSlots_4 rfl (lv_at hl 0 rfl) ?_
  refine lv_iconst (pc := 5) (v := 4) hx hb dX11_rowsInSlots_5 (by decide) ?_
  refine lv_icmp_ge (pc := 6) (tgt := 30) hx hb dX11_rowsInSlots_6 (by decide) (fun c11 => absurd c11 (by decide)) (fun _ => ?_)
  refine lv_aload_n (pc := 9) hx hb dX11_rowsInSlots_9 rfl (lv_at hl 2 rfl) ?_
  refine zgetR (pc := 10) (k := 0) (j := 8) (a := o + 56) zc11 hx hb hts hown hK hP rfl (by decide) rfl (hR 0 8 rfl) zf_X11_43 dX11_rowsInSlots_10 ?_
  refine lv_iload_n (pc := 13) hx hb dX11_rowsInSlots_13 rfl (lv_at hl 0 rfl) ?_
  refine zSald (pc := 14) (k := 56) (n := 4) (a := o + 214) hx hb hK hP rfl (by decide) (vp_in_iff.mpr ⟨by decide, by decide⟩) (hR 56 2 rfl) dX11_rowsInSlots_14 ?_
  refine zcallVi (pc := 15) (k := 214) (As := []) (rest := []) ⟨hx, hb, hml, hown, hts⟩ (nz_X9_isBare l D c o σ 214 rfl (by decide) hb214) zc9 zV_X11_305 rfl zd_X9_isBare ⟨Nat.le_of_ble_eq_true rfl, Nat.le_of_ble_eq_true rfl⟩ hK hP hS rfl (by decide) hl.1 rfl (Nat.le_of_ble_eq_true rfl) ⟨Nat.zero_le _, Nat.zero_le _⟩ dX11_rowsInSlots_15 (fun r12 σ13 H locs hw14 hP hS => ?_)
  obtain ⟨rfl, rfl⟩ := hw14
  refine lv_if_ne (pc := 18) (tgt := 24) hx hb dX11_rowsInSlots_18 (by decide) (fun _ => ?_) (fun c15 => absurd c15 (by decide))
  refine lv_iinc (pc := 24) (v := 3) (lv' := [(2, .int 3), (1, .int 0), (0, .ref (o + 0))]) hx hb dX11_rowsInSlots_24 hl (k := 0) rfl (by decide) (by decide) rfl (fun ls hl => ?_)
  refine lv_goto (pc := 27) (tgt := 4) hx hb dX11_rowsInSlots_27 (by decide) ?_
  refine lv_iload_n (pc := 4) hx hb dX11_rowsInSlots_4 rfl (lv_at hl 0 rfl) ?_
  refine lv_iconst (pc := 5) (v := 4) hx hb dX11_rowsInSlots_5 (by decide) ?_
  refine lv_icmp_ge (pc := 6) (tgt := 30) hx hb dX11_rowsInSlots_6 (by decide) (fun c16 => absurd c16 (by decide)) (fun _ => ?_)
  refine lv_aload_n (pc := 9) hx hb dX11_rowsInSlots_9 rfl (lv_at hl 2 rfl) ?_
  refine zgetR (pc := 10) (k := 0) (j := 8) (a := o + 56) zc11 hx hb hts hown hK hP rfl (by decide) rfl (hR 0 8 rfl) zf_X11_43 dX11_rowsInSlots_10 ?_
  refine lv_iload_n (pc := 13) hx hb dX11_rowsInSlots_13 rfl (lv_at hl 0 rfl) ?_
  refine zSald (pc := 14) (k := 56) (n := 4) (a := o + 216) hx hb hK hP rfl (by decide) (vp_in_iff.mpr ⟨by decide, by decide⟩) (hR 56 3 rfl) dX11_rowsInSlots_14 ?_
  refine zcallVi (pc := 15) (k := 216) (As := []) (rest := []) ⟨hx, hb, hml, hown, hts⟩ (nz_X9_isBare l D c o σ 216 rfl (by decide) hb216) zc9 zV_X11_305 rfl zd_X9_isBare ⟨Nat.le_of_ble_eq_true rfl, Nat.le_of_ble_eq_true rfl⟩ hK hP hS rfl (by decide) hl.1 rfl (Nat.le_of_ble_eq_true rfl) ⟨Nat.zero_le _, Nat.zero_le _⟩ dX11_rowsInSlots_15 (fun r17 σ18 H locs hw19 hP hS => ?_)
  obtain ⟨rfl, rfl⟩ := hw19
  refine lv_if_ne (pc := 18) (tgt := 24) hx hb dX11_rowsInSlots_18 (by decide) (fun _ => ?_) (fun c20 => absurd c20 (by decide))
  refine lv_iinc (pc := 24) (v := 4) (lv' := [(2, .int 4), (1, .int 0), (0, .ref (o + 0))]) hx hb dX11_rowsInSlots_24 hl (k := 0) rfl (by decide) (by decide) rfl (fun ls hl => ?_)
  refine lv_goto (pc := 27) (tgt := 4) hx hb dX11_rowsInSlots_27 (by decide) ?_
  refine lv_iload_n (pc := 4) hx hb dX11_rowsInSlots_4 rfl (lv_at hl 0 rfl) ?_
  refine lv_iconst (pc := 5) (v := 4) hx hb dX11_rowsInSlots_5 (by decide) ?_
  refine lv_icmp_ge (pc := 6) (tgt := 30) hx hb dX11_rowsInSlots_6 (by decide) (fun _ => ?_) (fun c21 => absurd c21 (by decide))
  refine lv_iload_n (pc := 30) hx hb dX11_rowsInSlots_30 rfl (lv_at hl 1 rfl) ?_
  exact zreti (pc := 31) hx hb hr hlocks hP hK hS ⟨rfl, rfl⟩ dX11_rowsInSlots_31

set_option maxHeartbeats 4000000 in
set_option maxRecDepth 100000 in
theorem fr_X11_keep (l : Launch) (D : va_G) (c : zC) (o : Nat) (σ : zS) (p0 : Int32) (hR : zRef o σ.2.2) (hN : σ.2.2 0 4 = o + 2) (h0 : σ.1 2 0 = 0) : Met l yX11_keep zs_X11_keep (zr 12) (va_Pc [.ref (o + 0), .int p0] (zQ D c o σ)) (va_Qi (fun (r : Int32) (σ1 : zS) => r = zsp_keep p0 ∧ zMd o σ σ1) (zQ D c o) (zA o)) 0 0 (zA o) := by
  refine zMet (by decide) (Nat.le_of_ble_eq_true rfl) ?_
  intro p e s m below meth cd ⟨hx, hb, hr, hml, hown, hts, hlocks⟩ hP hK ls hl
  have hS : va_S (zA o) s.heap s.heap [] := va_S.rf
  have hl : lv_has ls 2 [(0, .ref (o + 0)), (1, .int p0)] := hl
  have hH : ∀ a, 218 ≤ a → σ.1 a = σ.1 a := fun _ _ => rfl
  refine lv_iload_n (pc := 0) hx hb dX11_keep_0 rfl (lv_at hl 1 rfl) ?_
  refine lv_if_lt (pc := 1) (tgt := 9) hx hb dX11_keep_1 (by decide) (fun c1 => ?_) (fun c1 => ?_)
  · refine lv_bipush (pc := 9) (v := (-2)) hx hb dX11_keep_9 (by decide) ?_
    exact zreti (pc := 11) hx hb hr hlocks hP hK hS ⟨(by (try simp only [Int32.lt_iff_toInt_lt, Int32.le_iff_toInt_le, zt0, zt1, zt2, zt3, zt4, zt6, zt60] at c1); unfold zsp_keep; (repeat' split) <;> first | rfl | omega), hR, hH⟩ dX11_keep_11
  · refine lv_iload_n (pc := 4) hx hb dX11_keep_4 rfl (lv_at hl 1 rfl) ?_
    refine lv_iconst (pc := 5) (v := 3) hx hb dX11_keep_5 (by decide) ?_
    refine lv_icmp_lt (pc := 6) (tgt := 12) hx hb dX11_keep_6 (by decide) (fun c2 => ?_) (fun c2 => ?_)
    · rcases zcase3 (x := p0) (by (try simp only [Int32.lt_iff_toInt_lt, Int32.le_iff_toInt_le, zt0, zt1, zt2, zt3, zt4, zt6, zt60] at c1 c2); omega) with w3 | w4 | w5
      · subst w3
        refine lv_aload_n (pc := 12) hx hb dX11_keep_12 rfl (lv_at hl 0 rfl) ?_
        refine zgetR (pc := 13) (k := 0) (j := 6) (a := o + 54) zc11 hx hb hts hown hK hP rfl (by decide) rfl (hR 0 6 rfl) zf_X11_33 dX11_keep_13 ?_
        refine lv_iload_n (pc := 16) hx hb dX11_keep_16 rfl (lv_at hl 1 rfl) ?_
        refine zWald (pc := 17) (k := 54) (n := 3) (a := o + 132) hx hb hK hP rfl (by decide) (vp_in_iff.mpr ⟨by decide, by decide⟩) (hR 54 0 rfl) dX11_keep_17 ?_
        refine lv_aload_n (pc := 18) hx hb dX11_keep_18 rfl (lv_at hl 0 rfl) ?_
        refine zgetR (pc := 19) (k := 0) (j := 4) (a := o + 2) zc11 hx hb hts hown hK hP rfl (by decide) rfl hN zf_X11_26 dX11_keep_19 ?_
        refine zcallVv (pc := 22) (k := 132) (As := [.ref (o + 2)]) (rest := []) ⟨hx, hb, hml, hown, hts⟩ (cs_X10_copy132 l D c o σ hR) zc10 zV_X11_330 rfl zd_X10_copyFrom ⟨Nat.le_of_ble_eq_true rfl, Nat.le_of_ble_eq_true rfl⟩ hK hP hS rfl (by decide) hl.1 rfl (Nat.le_of_ble_eq_true rfl) ⟨Nat.zero_le _, Nat.zero_le _⟩ dX11_keep_22 (fun σ7 H locs hw8 hP hS => ?_)
        have h0 : σ7.1 2 0 = 0 := zFr_i hw8 (by decide) h0
        have hN : σ7.2.2 0 4 = o + 2 := zFr_r hw8 hN
        have hR : zRef o σ7.2.2 := zFr_ref hw8 hR
        have hH : ∀ a, 218 ≤ a → σ7.1 a = σ.1 a := zFr_hi hw8 (by decide) hH
        refine lv_aload_n (pc := 25) hx hb dX11_keep_25 rfl (lv_at hl 0 rfl) ?_
        refine zgetR (pc := 26) (k := 0) (j := 7) (a := o + 55) zc11 hx hb hts hown hK hP rfl (by decide) rfl (hR 0 7 rfl) zf_X11_37 dX11_keep_26 ?_
        refine lv_iload_n (pc := 29) hx hb dX11_keep_29 rfl (lv_at hl 1 rfl) ?_
        refine lv_iconst (pc := 30) (v := 1) hx hb dX11_keep_30 (by decide) ?_
        refine zzast (pc := 31) (k := 55) (n := 3) hx hb hK hP hS rfl (by decide) (vp_in_iff.mpr ⟨by decide, by decide⟩) dX11_keep_31 (fun H locs hP hS => ?_)
        obtain ⟨σ9, eσ9⟩ : ∃ x : zS, x = zI σ7 55 (upd (σ7.1 55) 0 (vp_nar .boolean 1)) := ⟨_, rfl⟩
        have hP : zP D c o σ9 H := by rw [eσ9]; exact hP
        have h0 : σ9.1 2 0 = 0 := zI_ne eσ9 (by decide) h0
        have hN : σ9.2.2 0 4 = o + 2 := zI_r eσ9 hN
        have hR : zRef o σ9.2.2 := zI_ref eσ9 hR
        have hH : ∀ a, 218 ≤ a → σ9.1 a = σ.1 a := zI_hi eσ9 (by decide) hH
        refine lv_iconst (pc := 32) (v := 0) hx hb dX11_keep_32 (by decide) ?_
        exact zreti (pc := 33) hx hb hr hlocks hP hK hS ⟨rfl, hR, hH⟩ dX11_keep_33
      · subst w4
        refine lv_aload_n (pc := 12) hx hb dX11_keep_12 rfl (lv_at hl 0 rfl) ?_
        refine zgetR (pc := 13) (k := 0) (j := 6) (a := o + 54) zc11 hx hb hts hown hK hP rfl (by decide) rfl (hR 0 6 rfl) zf_X11_33 dX11_keep_13 ?_
        refine lv_iload_n (pc := 16) hx hb dX11_keep_16 rfl (lv_at hl 1 rfl) ?_
        refine zWald (pc := 17) (k := 54) (n := 3) (a := o + 158) hx hb hK hP rfl (by decide) (vp_in_iff.mpr ⟨by decide, by decide⟩) (hR 54 1 rfl) dX11_keep_17 ?_
        refine lv_aload_n (pc := 18) hx hb dX11_keep_18 rfl (lv_at hl 0 rfl) ?_
        refine zgetR (pc := 19) (k := 0) (j := 4) (a := o + 2) zc11 hx hb hts hown hK hP rfl (by decide) rfl hN zf_X11_26 dX11_keep_19 ?_
        refine zcallVv (pc := 22) (k := 158) (As := [.ref (o + 2)]) (rest := []) ⟨hx, hb, hml, hown, hts⟩ (cs_X10_copy158 l D c o σ hR) zc10 zV_X11_330 rfl zd_X10_copyFrom ⟨Nat.le_of_ble_eq_true rfl, Nat.le_of_ble_eq_true rfl⟩ hK hP hS rfl (by decide) hl.1 rfl (Nat.le_of_ble_eq_true rfl) ⟨Nat.zero_le _, Nat.zero_le _⟩ dX11_keep_22 (fun σ11 H locs hw12 hP hS => ?_)
        have h0 : σ11.1 2 0 = 0 := zFr_i hw12 (by decide) h0
        have hN : σ11.2.2 0 4 = o + 2 := zFr_r hw12 hN
        have hR : zRef o σ11.2.2 := zFr_ref hw12 hR
        have hH : ∀ a, 218 ≤ a → σ11.1 a = σ.1 a := zFr_hi hw12 (by decide) hH
        refine lv_aload_n (pc := 25) hx hb dX11_keep_25 rfl (lv_at hl 0 rfl) ?_
        refine zgetR (pc := 26) (k := 0) (j := 7) (a := o + 55) zc11 hx hb hts hown hK hP rfl (by decide) rfl (hR 0 7 rfl) zf_X11_37 dX11_keep_26 ?_
        refine lv_iload_n (pc := 29) hx hb dX11_keep_29 rfl (lv_at hl 1 rfl) ?_
        refine lv_iconst (pc := 30) (v := 1) hx hb dX11_keep_30 (by decide) ?_
        refine zzast (pc := 31) (k := 55) (n := 3) hx hb hK hP hS rfl (by decide) (vp_in_iff.mpr ⟨by decide, by decide⟩) dX11_keep_31 (fun H locs hP hS => ?_)
        obtain ⟨σ13, eσ13⟩ : ∃ x : zS, x = zI σ11 55 (upd (σ11.1 55) 1 (vp_nar .boolean 1)) := ⟨_, rfl⟩
        have hP : zP D c o σ13 H := by rw [eσ13]; exact hP
        have h0 : σ13.1 2 0 = 0 := zI_ne eσ13 (by decide) h0
        have hN : σ13.2.2 0 4 = o + 2 := zI_r eσ13 hN
        have hR : zRef o σ13.2.2 := zI_ref eσ13 hR
        have hH : ∀ a, 218 ≤ a → σ13.1 a = σ.1 a := zI_hi eσ13 (by decide) hH
        refine lv_iconst (pc := 32) (v := 0) hx hb dX11_keep_32 (by decide) ?_
        exact zreti (pc := 33) hx hb hr hlocks hP hK hS ⟨rfl, hR, hH⟩ dX11_keep_33
      · subst w5
        refine lv_aload_n (pc := 12) hx hb dX11_keep_12 rfl (lv_at hl 0 rfl) ?_
        refine zgetR (pc := 13) (k := 0) (j := 6) (a := o + 54) zc11 hx hb hts hown hK hP rfl (by decide) rfl (hR 0 6 rfl) zf_X11_33 dX11_keep_13 ?_
        refine lv_iload_n (pc := 16) hx hb dX11_keep_16 rfl (lv_at hl 1 rfl) ?_
        refine zWald (pc := 17) (k := 54) (n := 3) (a := o + 184) hx hb hK hP rfl (by decide) (vp_in_iff.mpr ⟨by decide, by decide⟩) (hR 54 2 rfl) dX11_keep_17 ?_
        refine lv_aload_n (pc := 18) hx hb dX11_keep_18 rfl (lv_at hl 0 rfl) ?_
        refine zgetR (pc := 19) (k := 0) (j := 4) (a := o + 2) zc11 hx hb hts hown hK hP rfl (by decide) rfl hN zf_X11_26 dX11_keep_19 ?_
        refine zcallVv (pc := 22) (k := 184) (As := [.ref (o + 2)]) (rest := []) ⟨hx, hb, hml, hown, hts⟩ (cs_X10_copy184 l D c o σ hR) zc10 zV_X11_330 rfl zd_X10_copyFrom ⟨Nat.le_of_ble_eq_true rfl, Nat.le_of_ble_eq_true rfl⟩ hK hP hS rfl (by decide) hl.1 rfl (Nat.le_of_ble_eq_true rfl) ⟨Nat.zero_le _, Nat.zero_le _⟩ dX11_keep_22 (fun σ15 H locs hw16 hP hS => ?_)
        have h0 : σ15.1 2 0 = 0 := zFr_i hw16 (by decide) h0
        have hN : σ15.2.2 0 4 = o + 2 := zFr_r hw16 hN
        have hR : zRef o σ15.2.2 := zFr_ref hw16 hR
        have hH : ∀ a, 218 ≤ a → σ15.1 a = σ.1 a := zFr_hi hw16 (by decide) hH
        refine lv_aload_n (pc := 25) hx hb dX11_keep_25 rfl (lv_at hl 0 rfl) ?_
        refine zgetR (pc := 26) (k := 0) (j := 7) (a := o + 55) zc11 hx hb hts hown hK hP rfl (by decide) rfl (hR 0 7 rfl) zf_X11_37 dX11_keep_26 ?_
        refine lv_iload_n (pc := 29) hx hb dX11_keep_29 rfl (lv_at hl 1 rfl) ?_
        refine lv_iconst (pc := 30) (v := 1) hx hb dX11_keep_30 (by decide) ?_
        refine zzast (pc := 31) (k := 55) (n := 3) hx hb hK hP hS rfl (by decide) (vp_in_iff.mpr ⟨by decide, by decide⟩) dX11_keep_31 (fun H locs hP hS => ?_)
        obtain ⟨σ17, eσ17⟩ : ∃ x : zS, x = zI σ15 55 (upd (σ15.1 55) 2 (vp_nar .boolean 1)) := ⟨_, rfl⟩
        have hP : zP D c o σ17 H := by rw [eσ17]; exact hP
        have h0 : σ17.1 2 0 = 0 := zI_ne eσ17 (by decide) h0
        have hN : σ17.2.2 0 4 = o + 2 := zI_r eσ17 hN
        have hR : zRef o σ17.2.2 := zI_ref eσ17 hR
        have hH : ∀ a, 218 ≤ a → σ17.1 a = σ.1 a := zI_hi eσ17 (by decide) hH
        refine lv_iconst (pc := 32) (v := 0) hx hb dX11_keep_32 (by decide) ?_
        exact zreti (pc := 33) hx hb hr hlocks hP hK hS ⟨rfl, hR, hH⟩ dX11_keep_33
    · refine lv_bipush (pc := 9) (v := (-2)) hx hb dX11_keep_9 (by decide) ?_
      exact zreti (pc := 11) hx hb hr hlocks hP hK hS ⟨(by (try simp only [Int32.lt_iff_toInt_lt, Int32.le_iff_toInt_le, zt0, zt1, zt2, zt3, zt4, zt6, zt60] at c1 c2); unfold zsp_keep; (repeat' split) <;> first | rfl | omega), hR, hH⟩ dX11_keep_11

set_option maxHeartbeats 4000000 in
set_option maxRecDepth 100000 in
theorem fr_X11_back (l : Launch) (D : va_G) (c : zC) (o : Nat) (σ : zS) (p0 : Int32) (hR : zRef o σ.2.2) (hk0 : σ.1 55 0 = 0) (hk1 : σ.1 55 1 = 0) (hk2 : σ.1 55 2 = 0) : Met l yX11_back zs_X11_back (zr 12) (va_Pc [.ref (o + 0), .int p0] (zQ D c o σ)) (va_Qi (fun (r : Int32) (σ1 : zS) => r = zsp_back p0 ∧ σ = σ1) (zQ D c o) (zA o)) 0 0 (zA o) := by
  refine zMet (by decide) (Nat.le_of_ble_eq_true rfl) ?_
  intro p e s m below meth cd ⟨hx, hb, hr, hml, hown, hts, hlocks⟩ hP hK ls hl
  have hS : va_S (zA o) s.heap s.heap [] := va_S.rf
  have hl : lv_has ls 2 [(0, .ref (o + 0)), (1, .int p0)] := hl
  refine lv_iload_n (pc := 0) hx hb dX11_back_0 rfl (lv_at hl 1 rfl) ?_
  refine lv_if_lt (pc := 1) (tgt := 9) hx hb dX11_back_1 (by decide) (fun c1 => ?_) (fun c1 => ?_)
  · refine lv_bipush (pc := 9) (v := (-2)) hx hb dX11_back_9 (by decide) ?_
    exact zreti (pc := 11) hx hb hr hlocks hP hK hS ⟨(by (try simp only [Int32.lt_iff_toInt_lt, Int32.le_iff_toInt_le, zt0, zt1, zt2, zt3, zt4, zt6, zt60] at c1); unfold zsp_back; (repeat' split) <;> first | rfl | omega), rfl⟩ dX11_back_11
  · refine lv_iload_n (pc := 4) hx hb dX11_back_4 rfl (lv_at hl 1 rfl) ?_
    refine lv_iconst (pc := 5) (v := 3) hx hb dX11_back_5 (by decide) ?_
    refine lv_icmp_lt (pc := 6) (tgt := 12) hx hb dX11_back_6 (by decide) (fun c2 => ?_) (fun c2 => ?_)
    · rcases zcase3 (x := p0) (by (try simp only [Int32.lt_iff_toInt_lt, Int32.le_iff_toInt_le, zt0, zt1, zt2, zt3, zt4, zt6, zt60] at c1 c2); omega) with w3 | w4 | w5
      · subst w3
        refine lv_aload_n (pc := 12) hx hb dX11_back_12 rfl (lv_at hl 0 rfl) ?_
        refine zgetR (pc := 13) (k := 0) (j := 7) (a := o + 55) zc11 hx hb hts hown hK hP rfl (by decide) rfl (hR 0 7 rfl) zf_X11_37 dX11_back_13 ?_
        refine lv_iload_n (pc := 16) hx hb dX11_back_16 rfl (lv_at hl 1 rfl) ?_
        refine zzald (pc := 17) (k := 55) (n := 3) hx hb hK hP rfl (by decide) (vp_in_iff.mpr ⟨by decide, by decide⟩) dX11_back_17 ?_
        refine lv_topi (pc := 18) (fun v6 ev6 => ?_)
        obtain rfl : v6 = 0 := ev6.trans hk0
        refine lv_if_ne (pc := 18) (tgt := 24) hx hb dX11_back_18 (by decide) (fun c7 => absurd c7 (by decide)) (fun _ => ?_)
        refine lv_bipush (pc := 21) (v := (-6)) hx hb dX11_back_21 (by decide) ?_
        exact zreti (pc := 23) hx hb hr hlocks hP hK hS ⟨rfl, rfl⟩ dX11_back_23
      · subst w4
        refine lv_aload_n (pc := 12) hx hb dX11_back_12 rfl (lv_at hl 0 rfl) ?_
        refine zgetR (pc := 13) (k := 0) (j := 7) (a := o + 55) zc11 hx hb hts hown hK hP rfl (by decide) rfl (hR 0 7 rfl) zf_X11_37 dX11_back_13 ?_
        refine lv_iload_n (pc := 16) hx hb dX11_back_16 rfl (lv_at hl 1 rfl) ?_
        refine zzald (pc := 17) (k := 55) (n := 3) hx hb hK hP rfl (by decide) (vp_in_iff.mpr ⟨by decide, by decide⟩) dX11_back_17 ?_
        refine lv_topi (pc := 18) (fun v8 ev8 => ?_)
        obtain rfl : v8 = 0 := ev8.trans hk1
        refine lv_if_ne (pc := 18) (tgt := 24) hx hb dX11_back_18 (by decide) (fun c9 => absurd c9 (by decide)) (fun _ => ?_)
        refine lv_bipush (pc := 21) (v := (-6)) hx hb dX11_back_21 (by decide) ?_
        exact zreti (pc := 23) hx hb hr hlocks hP hK hS ⟨rfl, rfl⟩ dX11_back_23
      · subst w5
        refine lv_aload_n (pc := 12) hx hb dX11_back_12 rfl (lv_at hl 0 rfl) ?_
        refine zgetR (pc := 13) (k := 0) (j := 7) (a := o + 55) zc11 hx hb hts hown hK hP rfl (by decide) rfl (hR 0 7 rfl) zf_X11_37 dX11_back_13 ?_
        refine lv_iload_n (pc := 16) hx hb dX11_back_16 rfl (lv_at hl 1 rfl) ?_
        refine zzald (pc := 17) (k := 55) (n := 3) hx hb hK hP rfl (by decide) (vp_in_iff.mpr ⟨by decide, by decide⟩) dX11_back_17 ?_
        refine lv_topi (pc := 18) (fun v10 ev10 => ?_)
        obtain rfl : v10 = 0 := ev10.trans hk2
        refine lv_if_ne (pc := 18) (tgt := 24) hx hb dX11_back_18 (by decide) (fun c11 => absurd c11 (by decide)) (fun _ => ?_)
        refine lv_bipush (pc := 21) (v := (-6)) hx hb dX11_back_21 (by decide) ?_
        exact zreti (pc := 23) hx hb hr hlocks hP hK hS ⟨rfl, rfl⟩ dX11_back_23
    · refine lv_bipush (pc := 9) (v := (-2)) hx hb dX11_back_9 (by decide) ?_
      exact zreti (pc := 11) hx hb hr hlocks hP hK hS ⟨(by (try simp only [Int32.lt_iff_toInt_lt, Int32.le_iff_toInt_le, zt0, zt1, zt2, zt3, zt4, zt6, zt60] at c1 c2); unfold zsp_back; (repeat' split) <;> first | rfl | omega), rfl⟩ dX11_back_11

set_option maxHeartbeats 4000000 in
set_option maxRecDepth 100000 in
theorem fr_X11_row (l : Launch) (D : va_G) (c : zC) (o : Nat) (σ : zS) (p0 p1 p2 : Int32) (hR : zRef o σ.2.2) : Met l yX11_row zs_X11_row (zr 12) (va_Pc [.ref (o + 0), .int p0, .int p1, .int p2] (zQ D c o σ)) (va_Qi (fun (r : Int32) (σ1 : zS) => r = zsp_row p0 p1 p2 ∧ zMd o σ σ1) (zQ D c o) (zA o)) 0 0 (zA o) := by
  refine zMet (by decide) (Nat.le_of_ble_eq_true rfl) ?_
  intro p e s m below meth cd ⟨hx, hb, hr, hml, hown, hts, hlocks⟩ hP hK ls hl
  have hS : va_S (zA o) s.heap s.heap [] := va_S.rf
  have hl : lv_has ls 4 [(0, .ref (o + 0)), (1, .int p0), (2, .int p1), (3, .int p2)] := hl
  have hH : ∀ a, 218 ≤ a → σ.1 a = σ.1 a := fun _ _ => rfl
  refine lv_aload_n (pc := 0) hx hb dX11_row_0 rfl (lv_at hl 0 rfl) ?_
  refine lv_iload_n (pc := 1) hx hb dX11_row_1 rfl (lv_at hl 1 rfl) ?_
  refine zcallVi (pc := 2) (k := 0) (As := [.int p0]) (rest := []) ⟨hx, hb, hml, hown, hts⟩ (cs_X11_isSlot l D c o σ p0) zc11 zV_X11_302 rfl zd_X11_isSlot ⟨Nat.le_of_ble_eq_true rfl, Nat.le_of_ble_eq_true rfl⟩ hK hP hS rfl (by decide) hl.1 rfl (Nat.le_of_ble_eq_true rfl) ⟨Nat.zero_le _, Nat.zero_le _⟩ dX11_row_2 (fun r1 σ2 H locs hw3 hP hS => ?_)
  obtain ⟨er1, rfl⟩ := hw3
  refine lv_if_eq (pc := 5) (tgt := 23) hx hb dX11_row_5 (by decide) (fun c4 => ?_) (fun c4 => ?_)
  · refine lv_bipush (pc := 23) (v := (-2)) hx hb dX11_row_23 (by decide) ?_
    exact zreti (pc := 25) hx hb hr hlocks hP hK hS ⟨(by have qr1 := zin_eq er1 c4; unfold zsp_row; (repeat' split) <;> first | rfl | omega), hR, hH⟩ dX11_row_25
  · refine lv_iload_n (pc := 8) hx hb dX11_row_8 rfl (lv_at hl 2 rfl) ?_
    refine lv_if_lt (pc := 9) (tgt := 23) hx hb dX11_row_9 (by decide) (fun c5 => ?_) (fun c5 => ?_)
    · refine lv_bipush (pc := 23) (v := (-2)) hx hb dX11_row_23 (by decide) ?_
      exact zreti (pc := 25) hx hb hr hlocks hP hK hS ⟨(by have qr1 := zin_ne er1 c4; (try simp only [Int32.lt_iff_toInt_lt, Int32.le_iff_toInt_le, zt0, zt1, zt2, zt3, zt4, zt6, zt60] at c5); unfold zsp_row; (repeat' split) <;> first | rfl | omega), hR, hH⟩ dX11_row_25
    · refine lv_iload_n (pc := 12) hx hb dX11_row_12 rfl (lv_at hl 2 rfl) ?_
      refine lv_iconst (pc := 13) (v := 4) hx hb dX11_row_13 (by decide) ?_
      refine lv_icmp_ge (pc := 14) (tgt := 23) hx hb dX11_row_14 (by decide) (fun c6 => ?_) (fun c6 => ?_)
      · refine lv_bipush (pc := 23) (v := (-2)) hx hb dX11_row_23 (by decide) ?_
        exact zreti (pc := 25) hx hb hr hlocks hP hK hS ⟨(by have qr1 := zin_ne er1 c4; (try simp only [Int32.lt_iff_toInt_lt, Int32.le_iff_toInt_le, zt0, zt1, zt2, zt3, zt4, zt6, zt60] at c5 c6); unfold zsp_row; (repeat' split) <;> first | rfl | omega), hR, hH⟩ dX11_row_25
      · refine lv_iload_n (pc := 17) hx hb dX11_row_17 rfl (lv_at hl 3 rfl) ?_
        refine lv_bipush (pc := 18) (v := 60) hx hb dX11_row_18 (by decide) ?_
        refine lv_icmp_le (pc := 20) (tgt := 26) hx hb dX11_row_20 (by decide) (fun c7 => ?_) (fun c7 => ?_)
        · refine lv_iload_n (pc := 26) hx hb dX11_row_26 rfl (lv_at hl 3 rfl) ?_
          refine lv_if_ge (pc := 27) (tgt := 33) hx hb dX11_row_27 (by decide) (fun c8 => ?_) (fun c8 => ?_)
          · rcases zcase4 (x := p0) (zin_ne er1 c4) with w9 | w10 | w11 | w12
            · subst w9
              refine lv_aload_n (pc := 33) hx hb dX11_row_33 rfl (lv_at hl 0 rfl) ?_
              refine zgetR (pc := 34) (k := 0) (j := 8) (a := o + 56) zc11 hx hb hts hown hK hP rfl (by decide) rfl (hR 0 8 rfl) zf_X11_43 dX11_row_34 ?_
              refine lv_iload_n (pc := 37) hx hb dX11_row_37 rfl (lv_at hl 1 rfl) ?_
              refine zSald (pc := 38) (k := 56) (n := 4) (a := o + 210) hx hb hK hP rfl (by decide) (vp_in_iff.mpr ⟨by decide, by decide⟩) (hR 56 0 rfl) dX11_row_38 ?_
              refine lv_iload_n (pc := 39) hx hb dX11_row_39 rfl (lv_at hl 2 rfl) ?_
              refine lv_iload_n (pc := 40) hx hb dX11_row_40 rfl (lv_at hl 3 rfl) ?_
              refine zcallVv (pc := 41) (k := 210) (As := [.int p1, .int p2]) (rest := []) ⟨hx, hb, hml, hown, hts⟩ (cs_X9_start l D c o σ 210 211 p1 p2 rfl (by decide) rfl (by decide) (hR 210 0 rfl)) zc9 zV_X11_333 rfl zd_X9_start ⟨Nat.le_of_ble_eq_true rfl, Nat.le_of_ble_eq_true rfl⟩ hK hP hS rfl (by decide) hl.1 rfl (Nat.le_of_ble_eq_true rfl) ⟨Nat.zero_le _, Nat.zero_le _⟩ dX11_row_41 (fun σ14 H locs hw15 hP hS => ?_)
              have hR : zRef o σ14.2.2 := zFr_ref hw15 hR
              have hH : ∀ a, 218 ≤ a → σ14.1 a = σ.1 a := zFr_hi hw15 (by decide) hH
              refine lv_iconst (pc := 44) (v := 0) hx hb dX11_row_44 (by decide) ?_
              exact zreti (pc := 45) hx hb hr hlocks hP hK hS ⟨(by have qr1 := zin_ne er1 c4; (try simp only [Int32.lt_iff_toInt_lt, Int32.le_iff_toInt_le, zt0, zt1, zt2, zt3, zt4, zt6, zt60] at c5 c6 c7 c8); unfold zsp_row; (repeat' split) <;> first | rfl | omega), hR, hH⟩ dX11_row_45
            · subst w10
              refine lv_aload_n (pc := 33) hx hb dX11_row_33 rfl (lv_at hl 0 rfl) ?_
              refine zgetR (pc := 34) (k := 0) (j := 8) (a := o + 56) zc11 hx hb hts hown hK hP rfl (by decide) rfl (hR 0 8 rfl) zf_X11_43 dX11_row_34 ?_
              refine lv_iload_n (pc := 37) hx hb dX11_row_37 rfl (lv_at hl 1 rfl) ?_
              refine zSald (pc := 38) (k := 56) (n := 4) (a := o + 212) hx hb hK hP rfl (by decide) (vp_in_iff.mpr ⟨by decide, by decide⟩) (hR 56 1 rfl) dX11_row_38 ?_
              refine lv_iload_n (pc := 39) hx hb dX11_row_39 rfl (lv_at hl 2 rfl) ?_
              refine lv_iload_n (pc := 40) hx hb dX11_row_40 rfl (lv_at hl 3 rfl) ?_
              refine zcallVv (pc := 41) (k := 212) (As := [.int p1, .int p2]) (rest := []) ⟨hx, hb, hml, hown, hts⟩ (cs_X9_start l D c o σ 212 213 p1 p2 rfl (by decide) rfl (by decide) (hR 212 0 rfl)) zc9 zV_X11_333 rfl zd_X9_start ⟨Nat.le_of_ble_eq_true rfl, Nat.le_of_ble_eq_true rfl⟩ hK hP hS rfl (by decide) hl.1 rfl (Nat.le_of_ble_eq_true rfl) ⟨Nat.zero_le _, Nat.zero_le _⟩ dX11_row_41 (fun σ17 H locs hw18 hP hS => ?_)
              have hR : zRef o σ17.2.2 := zFr_ref hw18 hR
              have hH : ∀ a, 218 ≤ a → σ17.1 a = σ.1 a := zFr_hi hw18 (by decide) hH
              refine lv_iconst (pc := 44) (v := 0) hx hb dX11_row_44 (by decide) ?_
              exact zreti (pc := 45) hx hb hr hlocks hP hK hS ⟨(by have qr1 := zin_ne er1 c4; (try simp only [Int32.lt_iff_toInt_lt, Int32.le_iff_toInt_le, zt0, zt1, zt2, zt3, zt4, zt6, zt60] at c5 c6 c7 c8); unfold zsp_row; (repeat' split) <;> first | rfl | omega), hR, hH⟩ dX11_row_45
            · subst w11
              refine lv_aload_n (pc := 33) hx hb dX11_row_33 rfl (lv_at hl 0 rfl) ?_
              refine zgetR (pc := 34) (k := 0) (j := 8) (a := o + 56) zc11 hx hb hts hown hK hP rfl (by decide) rfl (hR 0 8 rfl) zf_X11_43 dX11_row_34 ?_
              refine lv_iload_n (pc := 37) hx hb dX11_row_37 rfl (lv_at hl 1 rfl) ?_
              refine zSald (pc := 38) (k := 56) (n := 4) (a := o + 214) hx hb hK hP rfl (by decide) (vp_in_iff.mpr ⟨by decide, by decide⟩) (hR 56 2 rfl) dX11_row_38 ?_
              refine lv_iload_n (pc := 39) hx hb dX11_row_39 rfl (lv_at hl 2 rfl) ?_
              refine lv_iload_n (pc := 40) hx hb dX11_row_40 rfl (lv_at hl 3 rfl) ?_
              refine zcallVv (pc := 41) (k := 214) (As := [.int p1, .int p2]) (rest := []) ⟨hx, hb, hml, hown, hts⟩ (cs_X9_start l D c o σ 214 215 p1 p2 rfl (by decide) rfl (by decide) (hR 214 0 rfl)) zc9 zV_X11_333 rfl zd_X9_start ⟨Nat.le_of_ble_eq_true rfl, Nat.le_of_ble_eq_true rfl⟩ hK hP hS rfl (by decide) hl.1 rfl (Nat.le_of_ble_eq_true rfl) ⟨Nat.zero_le _, Nat.zero_le _⟩ dX11_row_41 (fun σ20 H locs hw21 hP hS => ?_)
              have hR : zRef o σ20.2.2 := zFr_ref hw21 hR
              have hH : ∀ a, 218 ≤ a → σ20.1 a = σ.1 a := zFr_hi hw21 (by decide) hH
              refine lv_iconst (pc := 44) (v := 0) hx hb dX11_row_44 (by decide) ?_
              exact zreti (pc := 45) hx hb hr hlocks hP hK hS ⟨(by have qr1 := zin_ne er1 c4; (try simp only [Int32.lt_iff_toInt_lt, Int32.le_iff_toInt_le, zt0, zt1, zt2, zt3, zt4, zt6, zt60] at c5 c6 c7 c8); unfold zsp_row; (repeat' split) <;> first | rfl | omega), hR, hH⟩ dX11_row_45
            · subst w12
              refine lv_aload_n (pc := 33) hx hb dX11_row_33 rfl (lv_at hl 0 rfl) ?_
              refine zgetR (pc := 34) (k := 0) (j := 8) (a := o + 56) zc11 hx hb hts hown hK hP rfl (by decide) rfl (hR 0 8 rfl) zf_X11_43 dX11_row_34 ?_
              refine lv_iload_n (pc := 37) hx hb dX11_row_37 rfl (lv_at hl 1 rfl) ?_
              refine zSald (pc := 38) (k := 56) (n := 4) (a := o + 216) hx hb hK hP rfl (by decide) (vp_in_iff.mpr ⟨by decide, by decide⟩) (hR 56 3 rfl) dX11_row_38 ?_
              refine lv_iload_n (pc := 39) hx hb dX11_row_39 rfl (lv_at hl 2 rfl) ?_
              refine lv_iload_n (pc := 40) hx hb dX11_row_40 rfl (lv_at hl 3 rfl) ?_
              refine zcallVv (pc := 41) (k := 216) (As := [.int p1, .int p2]) (rest := []) ⟨hx, hb, hml, hown, hts⟩ (cs_X9_start l D c o σ 216 217 p1 p2 rfl (by decide) rfl (by decide) (hR 216 0 rfl)) zc9 zV_X11_333 rfl zd_X9_start ⟨Nat.le_of_ble_eq_true rfl, Nat.le_of_ble_eq_true rfl⟩ hK hP hS rfl (by decide) hl.1 rfl (Nat.le_of_ble_eq_true rfl) ⟨Nat.zero_le _, Nat.zero_le _⟩ dX11_row_41 (fun σ23 H locs hw24 hP hS => ?_)
              have hR : zRef o σ23.2.2 := zFr_ref hw24 hR
              have hH : ∀ a, 218 ≤ a → σ23.1 a = σ.1 a := zFr_hi hw24 (by decide) hH
              refine lv_iconst (pc := 44) (v := 0) hx hb dX11_row_44 (by decide) ?_
              exact zreti (pc := 45) hx hb hr hlocks hP hK hS ⟨(by have qr1 := zin_ne er1 c4; (try simp only [Int32.lt_iff_toInt_lt, Int32.le_iff_toInt_le, zt0, zt1, zt2, zt3, zt4, zt6, zt60] at c5 c6 c7 c8); unfold zsp_row; (repeat' split) <;> first | rfl | omega), hR, hH⟩ dX11_row_45
          · refine lv_bipush (pc := 30) (v := (-3)) hx hb dX11_row_30 (by decide) ?_
            exact zreti (pc := 32) hx hb hr hlocks hP hK hS ⟨(by have qr1 := zin_ne er1 c4; (try simp only [Int32.lt_iff_toInt_lt, Int32.le_iff_toInt_le, zt0, zt1, zt2, zt3, zt4, zt6, zt60] at c5 c6 c7 c8); unfold zsp_row; (repeat' split) <;> first | rfl | omega), hR, hH⟩ dX11_row_32
        · refine lv_bipush (pc := 23) (v := (-2)) hx hb dX11_row_23 (by decide) ?_
          exact zreti (pc := 25) hx hb hr hlocks hP hK hS ⟨(by have qr1 := zin_ne er1 c4; (try simp only [Int32.lt_iff_toInt_lt, Int32.le_iff_toInt_le, zt0, zt1, zt2, zt3, zt4, zt6, zt60] at c5 c6 c7); unfold zsp_row; (repeat' split) <;> first | rfl | omega), hR, hH⟩ dX11_row_25

set_option maxHeartbeats 4000000 in
set_option maxRecDepth 100000 in
theorem fr_X11_write (l : Launch) (D : va_G) (c : zC) (o : Nat) (σ : zS) (p0 p1 : Int32) (p2 : Int64) (hR : zRef o σ.2.2) (hb210 : σ.1 210 2 = -1) (hb212 : σ.1 212 2 = -1) (hb214 : σ.1 214 2 = -1) (hb216 : σ.1 216 2 = -1) : Met l yX11_write zs_X11_write (zr 12) (va_Pc [.ref (o + 0), .int p0, .int p1, .long p2] (zQ D c o σ)) (va_Qi (fun (r : Int32) (σ1 : zS) => r = zsp_write p0 ∧ σ = σ1) (zQ D c o) (zA o)) 0 0 (zA o) := by
  refine zMet (by decide) (Nat.le_of_ble_eq_true rfl) ?_
  intro p e s m below meth cd ⟨hx, hb, hr, hml, hown, hts, hlocks⟩ hP hK ls hl
  have hS : va_S (zA o) s.heap s.heap [] := va_S.rf
  have hl : lv_has ls 6 [(0, .ref (o + 0)), (1, .int p0), (2, .int p1), (3, .long p2)] := hl
  refine lv_aload_n (pc := 0) hx hb dX11_write_0 rfl (lv_at hl 0 rfl) ?_
  refine lv_iload_n (pc := 1) hx hb dX11_write_1 rfl (lv_at hl 1 rfl) ?_
  refine zcallVi (pc := 2) (k := 0) (As := [.int p0]) (rest := []) ⟨hx, hb, hml, hown, hts⟩ (cs_X11_isSlot l D c o σ p0) zc11 zV_X11_302 rfl zd_X11_isSlot ⟨Nat.le_of_ble_eq_true rfl, Nat.le_of_ble_eq_true rfl⟩ hK hP hS rfl (by decide) hl.1 rfl (Nat.le_of_ble_eq_true rfl) ⟨Nat.zero_le _, Nat.zero_le _⟩ dX11_write_2 (fun r1 σ2 H locs hw3 hP hS => ?_)
  obtain ⟨er1, rfl⟩ := hw3
  refine lv_if_ne (pc := 5) (tgt := 11) hx hb dX11_write_5 (by decide) (fun c4 => ?_) (fun c4 => ?_)
  · rcases zcase4 (x := p0) (zin_ne er1 c4) with w5 | w6 | w7 | w8
    · subst w5
      refine lv_aload_n (pc := 11) hx hb dX11_write_11 rfl (lv_at hl 0 rfl) ?_
      refine zgetR (pc := 12) (k := 0) (j := 8) (a := o + 56) zc11 hx hb hts hown hK hP rfl (by decide) rfl (hR 0 8 rfl) zf_X11_43 dX11_write_12 ?_
      refine lv_iload_n (pc := 15) hx hb dX11_write_15 rfl (lv_at hl 1 rfl) ?_
      refine zSald (pc := 16) (k := 56) (n := 4) (a := o + 210) hx hb hK hP rfl (by decide) (vp_in_iff.mpr ⟨by decide, by decide⟩) (hR 56 0 rfl) dX11_write_16 ?_
      refine lv_astore (pc := 17) (lv' := [(5, .ref (o + 210)), (0, .ref (o + 0)), (1, .int 0), (2, .int p1), (3, .long p2)]) hx hb dX11_write_17 hl (by decide) rfl (fun ls hl => ?_)
      refine lv_aload (pc := 19) hx hb dX11_write_19 (lv_at hl 0 rfl) ?_
      refine zcallVi (pc := 21) (k := 210) (As := []) (rest := []) ⟨hx, hb, hml, hown, hts⟩ (nz_X9_isBare l D c o σ 210 rfl (by decide) hb210) zc9 zV_X11_305 rfl zd_X9_isBare ⟨Nat.le_of_ble_eq_true rfl, Nat.le_of_ble_eq_true rfl⟩ hK hP hS rfl (by decide) hl.1 rfl (Nat.le_of_ble_eq_true rfl) ⟨Nat.zero_le _, Nat.zero_le _⟩ dX11_write_21 (fun r9 σ10 H locs hw11 hP hS => ?_)
      obtain ⟨rfl, rfl⟩ := hw11
      refine lv_if_eq (pc := 24) (tgt := 30) hx hb dX11_write_24 (by decide) (fun c12 => absurd c12 (by decide)) (fun _ => ?_)
      refine lv_bipush (pc := 27) (v := (-6)) hx hb dX11_write_27 (by decide) ?_
      exact zreti (pc := 29) hx hb hr hlocks hP hK hS ⟨rfl, rfl⟩ dX11_write_29
    · subst w6
      refine lv_aload_n (pc := 11) hx hb dX11_write_11 rfl (lv_at hl 0 rfl) ?_
      refine zgetR (pc := 12) (k := 0) (j := 8) (a := o + 56) zc11 hx hb hts hown hK hP rfl (by decide) rfl (hR 0 8 rfl) zf_X11_43 dX11_write_12 ?_
      refine lv_iload_n (pc := 15) hx hb dX11_write_15 rfl (lv_at hl 1 rfl) ?_
      refine zSald (pc := 16) (k := 56) (n := 4) (a := o + 212) hx hb hK hP rfl (by decide) (vp_in_iff.mpr ⟨by decide, by decide⟩) (hR 56 1 rfl) dX11_write_16 ?_
      refine lv_astore (pc := 17) (lv' := [(5, .ref (o + 212)), (0, .ref (o + 0)), (1, .int 1), (2, .int p1), (3, .long p2)]) hx hb dX11_write_17 hl (by decide) rfl (fun ls hl => ?_)
      refine lv_aload (pc := 19) hx hb dX11_write_19 (lv_at hl 0 rfl) ?_
      refine zcallVi (pc := 21) (k := 212) (As := []) (rest := []) ⟨hx, hb, hml, hown, hts⟩ (nz_X9_isBare l D c o σ 212 rfl (by decide) hb212) zc9 zV_X11_305 rfl zd_X9_isBare ⟨Nat.le_of_ble_eq_true rfl, Nat.le_of_ble_eq_true rfl⟩ hK hP hS rfl (by decide) hl.1 rfl (Nat.le_of_ble_eq_true rfl) ⟨Nat.zero_le _, Nat.zero_le _⟩ dX11_write_21 (fun r13 σ14 H locs hw15 hP hS => ?_)
      obtain ⟨rfl, rfl⟩ := hw15
      refine lv_if_eq (pc := 24) (tgt := 30) hx hb dX11_write_24 (by decide) (fun c16 => absurd c16 (by decide)) (fun _ => ?_)
      refine lv_bipush (pc := 27) (v := (-6)) hx hb dX11_write_27 (by decide) ?_
      exact zreti (pc := 29) hx hb hr hlocks hP hK hS ⟨rfl, rfl⟩ dX11_write_29
    · subst w7
      refine lv_aload_n (pc := 11) hx hb dX11_write_11 rfl (lv_at hl 0 rfl) ?_
      refine zgetR (pc := 12) (k := 0) (j := 8) (a := o + 56) zc11 hx hb hts hown hK hP rfl (by decide) rfl (hR 0 8 rfl) zf_X11_43 dX11_write_12 ?_
      refine lv_iload_n (pc := 15) hx hb dX11_write_15 rfl (lv_at hl 1 rfl) ?_
      refine zSald (pc := 16) (k := 56) (n := 4) (a := o + 214) hx hb hK hP rfl (by decide) (vp_in_iff.mpr ⟨by decide, by decide⟩) (hR 56 2 rfl) dX11_write_16 ?_
      refine lv_astore (pc := 17) (lv' := [(5, .ref (o + 214)), (0, .ref (o + 0)), (1, .int 2), (2, .int p1), (3, .long p2)]) hx hb dX11_write_17 hl (by decide) rfl (fun ls hl => ?_)
      refine lv_aload (pc := 19) hx hb dX11_write_19 (lv_at hl 0 rfl) ?_
      refine zcallVi (pc := 21) (k := 214) (As := []) (rest := []) ⟨hx, hb, hml, hown, hts⟩ (nz_X9_isBare l D c o σ 214 rfl (by decide) hb214) zc9 zV_X11_305 rfl zd_X9_isBare ⟨Nat.le_of_ble_eq_true rfl, Nat.le_of_ble_eq_true rfl⟩ hK hP hS rfl (by decide) hl.1 rfl (Nat.le_of_ble_eq_true rfl) ⟨Nat.zero_le _, Nat.zero_le _⟩ dX11_write_21 (fun r17 σ18 H locs hw19 hP hS => ?_)
      obtain ⟨rfl, rfl⟩ := hw19
      refine lv_if_eq (pc := 24) (tgt := 30) hx hb dX11_write_24 (by decide) (fun c20 => absurd c20 (by decide)) (fun _ => ?_)
      refine lv_bipush (pc := 27) (v := (-6)) hx hb dX11_write_27 (by decide) ?_
      exact zreti (pc := 29) hx hb hr hlocks hP hK hS ⟨rfl, rfl⟩ dX11_write_29
    · subst w8
      refine lv_aload_n (pc := 11) hx hb dX11_write_11 rfl (lv_at hl 0 rfl) ?_
      refine zgetR (pc := 12) (k := 0) (j := 8) (a := o + 56) zc11 hx hb hts hown hK hP rfl (by decide) rfl (hR 0 8 rfl) zf_X11_43 dX11_write_12 ?_
      refine lv_iload_n (pc := 15) hx hb dX11_write_15 rfl (lv_at hl 1 rfl) ?_
      refine zSald (pc := 16) (k := 56) (n := 4) (a := o + 216) hx hb hK hP rfl (by decide) (vp_in_iff.mpr ⟨by decide, by decide⟩) (hR 56 3 rfl) dX11_write_16 ?_
      refine lv_astore (pc := 17) (lv' := [(5, .ref (o + 216)), (0, .ref (o + 0)), (1, .int 3), (2, .int p1), (3, .long p2)]) hx hb dX11_write_17 hl (by decide) rfl (fun ls hl => ?_)
      refine lv_aload (pc := 19) hx hb dX11_write_19 (lv_at hl 0 rfl) ?_
      refine zcallVi (pc := 21) (k := 216) (As := []) (rest := []) ⟨hx, hb, hml, hown, hts⟩ (nz_X9_isBare l D c o σ 216 rfl (by decide) hb216) zc9 zV_X11_305 rfl zd_X9_isBare ⟨Nat.le_of_ble_eq_true rfl, Nat.le_of_ble_eq_true rfl⟩ hK hP hS rfl (by decide) hl.1 rfl (Nat.le_of_ble_eq_true rfl) ⟨Nat.zero_le _, Nat.zero_le _⟩ dX11_write_21 (fun r21 σ22 H locs hw23 hP hS => ?_)
      obtain ⟨rfl, rfl⟩ := hw23
      refine lv_if_eq (pc := 24) (tgt := 30) hx hb dX11_write_24 (by decide) (fun c24 => absurd c24 (by decide)) (fun _ => ?_)
      refine lv_bipush (pc := 27) (v := (-6)) hx hb dX11_write_27 (by decide) ?_
      exact zreti (pc := 29) hx hb hr hlocks hP hK hS ⟨rfl, rfl⟩ dX11_write_29
  · refine lv_bipush (pc := 8) (v := (-2)) hx hb dX11_write_8 (by decide) ?_
    exact zreti (pc := 10) hx hb hr hlocks hP hK hS ⟨(by have qr1 := zin_eq er1 c4; unfold zsp_write; (repeat' split) <;> first | rfl | omega), rfl⟩ dX11_write_10

set_option maxHeartbeats 4000000 in
set_option maxRecDepth 100000 in
theorem fr_X11_paste (l : Launch) (D : va_G) (c : zC) (o : Nat) (σ : zS) (p0 p1 p2 p3 p4 : Int32) (hR : zRef o σ.2.2) (hb210 : σ.1 210 2 = -1) (hb212 : σ.1 212 2 = -1) (hb214 : σ.1 214 2 = -1) (hb216 : σ.1 216 2 = -1) : Met l yX11_paste zs_X11_paste (zr 12) (va_Pc [.ref (o + 0), .int p0, .int p1, .int p2, .int p3, .int p4] (zQ D c o σ)) (va_Qi (fun (r : Int32) (σ1 : zS) => r = zsp_paste p0 p2 ∧ σ = σ1) (zQ D c o) (zA o)) 0 0 (zA o) := by
  refine zMet (by decide) (Nat.le_of_ble_eq_true rfl) ?_
  intro p e s m below meth cd ⟨hx, hb, hr, hml, hown, hts, hlocks⟩ hP hK ls hl
  have hS : va_S (zA o) s.heap s.heap [] := va_S.rf
  have hl : lv_has ls 8 [(0, .ref (o + 0)), (1, .int p0), (2, .int p1), (3, .int p2), (4, .int p3), (5, .int p4)] := hl
  refine lv_aload_n (pc := 0) hx hb dX11_paste_0 rfl (lv_at hl 0 rfl) ?_
  refine lv_iload_n (pc := 1) hx hb dX11_paste_1 rfl (lv_at hl 1 rfl) ?_
  refine zcallVi (pc := 2) (k := 0) (As := [.int p0]) (rest := []) ⟨hx, hb, hml, hown, hts⟩ (cs_X11_isSlot l D c o σ p0) zc11 zV_X11_302 rfl zd_X11_isSlot ⟨Nat.le_of_ble_eq_true rfl, Nat.le_of_ble_eq_true rfl⟩ hK hP hS rfl (by decide) hl.1 rfl (Nat.le_of_ble_eq_true rfl) ⟨Nat.zero_le _, Nat.zero_le _⟩ dX11_paste_2 (fun r1 σ2 H locs hw3 hP hS => ?_)
  obtain ⟨er1, rfl⟩ := hw3
  refine lv_if_eq (pc := 5) (tgt := 16) hx hb dX11_paste_5 (by decide) (fun c4 => ?_) (fun c4 => ?_)
  · refine lv_bipush (pc := 16) (v := (-2)) hx hb dX11_paste_16 (by decide) ?_
    exact zreti (pc := 18) hx hb hr hlocks hP hK hS ⟨(by have qr1 := zin_eq er1 c4; unfold zsp_paste; (repeat' split) <;> first | rfl | omega), rfl⟩ dX11_paste_18
  · refine lv_aload_n (pc := 8) hx hb dX11_paste_8 rfl (lv_at hl 0 rfl) ?_
    refine lv_iload_n (pc := 9) hx hb dX11_paste_9 rfl (lv_at hl 3 rfl) ?_
    refine zcallVi (pc := 10) (k := 0) (As := [.int p2]) (rest := []) ⟨hx, hb, hml, hown, hts⟩ (cs_X11_isSlot l D c o σ p2) zc11 zV_X11_302 rfl zd_X11_isSlot ⟨Nat.le_of_ble_eq_true rfl, Nat.le_of_ble_eq_true rfl⟩ hK hP hS rfl (by decide) hl.1 rfl (Nat.le_of_ble_eq_true rfl) ⟨Nat.zero_le _, Nat.zero_le _⟩ dX11_paste_10 (fun r5 σ6 H locs hw7 hP hS => ?_)
    obtain ⟨er5, rfl⟩ := hw7
    refine lv_if_ne (pc := 13) (tgt := 19) hx hb dX11_paste_13 (by decide) (fun c8 => ?_) (fun c8 => ?_)
    · rcases zcase4 (x := p0) (zin_ne er1 c4) with w9 | w10 | w11 | w12
      · subst w9
        refine lv_aload_n (pc := 19) hx hb dX11_paste_19 rfl (lv_at hl 0 rfl) ?_
        refine zgetR (pc := 20) (k := 0) (j := 8) (a := o + 56) zc11 hx hb hts hown hK hP rfl (by decide) rfl (hR 0 8 rfl) zf_X11_43 dX11_paste_20 ?_
        refine lv_iload_n (pc := 23) hx hb dX11_paste_23 rfl (lv_at hl 1 rfl) ?_
        refine zSald (pc := 24) (k := 56) (n := 4) (a := o + 210) hx hb hK hP rfl (by decide) (vp_in_iff.mpr ⟨by decide, by decide⟩) (hR 56 0 rfl) dX11_paste_24 ?_
        refine lv_astore (pc := 25) (lv' := [(6, .ref (o + 210)), (0, .ref (o + 0)), (1, .int 0), (2, .int p1), (3, .int p2), (4, .int p3), (5, .int p4)]) hx hb dX11_paste_25 hl (by decide) rfl (fun ls hl => ?_)
        rcases zcase4 (x := p2) (zin_ne er5 c8) with w13 | w14 | w15 | w16
        · subst w13
          refine lv_aload_n (pc := 27) hx hb dX11_paste_27 rfl (lv_at hl 1 rfl) ?_
          refine zgetR (pc := 28) (k := 0) (j := 8) (a := o + 56) zc11 hx hb hts hown hK hP rfl (by decide) rfl (hR 0 8 rfl) zf_X11_43 dX11_paste_28 ?_
          refine lv_iload_n (pc := 31) hx hb dX11_paste_31 rfl (lv_at hl 4 rfl) ?_
          refine zSald (pc := 32) (k := 56) (n := 4) (a := o + 210) hx hb hK hP rfl (by decide) (vp_in_iff.mpr ⟨by decide, by decide⟩) (hR 56 0 rfl) dX11_paste_32 ?_
          refine lv_astore (pc := 33) (lv' := [(7, .ref (o + 210)), (6, .ref (o + 210)), (0, .ref (o + 0)), (1, .int 0), (2, .int p1), (3, .int 0), (4, .int p3), (5, .int p4)]) hx hb dX11_paste_33 hl (by decide) rfl (fun ls hl => ?_)
          refine lv_aload (pc := 35) hx hb dX11_paste_35 (lv_at hl 1 rfl) ?_
          refine zcallVi (pc := 37) (k := 210) (As := []) (rest := []) ⟨hx, hb, hml, hown, hts⟩ (nz_X9_isBare l D c o σ 210 rfl (by decide) hb210) zc9 zV_X11_305 rfl zd_X9_isBare ⟨Nat.le_of_ble_eq_true rfl, Nat.le_of_ble_eq_true rfl⟩ hK hP hS rfl (by decide) hl.1 rfl (Nat.le_of_ble_eq_true rfl) ⟨Nat.zero_le _, Nat.zero_le _⟩ dX11_paste_37 (fun r17 σ18 H locs hw19 hP hS => ?_)
          obtain ⟨rfl, rfl⟩ := hw19
          refine lv_if_ne (pc := 40) (tgt := 51) hx hb dX11_paste_40 (by decide) (fun _ => ?_) (fun c20 => absurd c20 (by decide))
          refine lv_bipush (pc := 51) (v := (-6)) hx hb dX11_paste_51 (by decide) ?_
          exact zreti (pc := 53) hx hb hr hlocks hP hK hS ⟨rfl, rfl⟩ dX11_paste_53
        · subst w14
          refine lv_aload_n (pc := 27) hx hb dX11_paste_27 rfl (lv_at hl 1 rfl) ?_
          refine zgetR (pc := 28) (k := 0) (j := 8) (a := o + 56) zc11 hx hb hts hown hK hP rfl (by decide) rfl (hR 0 8 rfl) zf_X11_43 dX11_paste_28 ?_
          refine lv_iload_n (pc := 31) hx hb dX11_paste_31 rfl (lv_at hl 4 rfl) ?_
          refine zSald (pc := 32) (k := 56) (n := 4) (a := o + 212) hx hb hK hP rfl (by decide) (vp_in_iff.mpr ⟨by decide, by decide⟩) (hR 56 1 rfl) dX11_paste_32 ?_
          refine lv_astore (pc := 33) (lv' := [(7, .ref (o + 212)), (6, .ref (o + 210)), (0, .ref (o + 0)), (1, .int 0), (2, .int p1), (3, .int 1), (4, .int p3), (5, .int p4)]) hx hb dX11_paste_33 hl (by decide) rfl (fun ls hl => ?_)
          refine lv_aload (pc := 35) hx hb dX11_paste_35 (lv_at hl 1 rfl) ?_
          refine zcallVi (pc := 37) (k := 210) (As := []) (rest := []) ⟨hx, hb, hml, hown, hts⟩ (nz_X9_isBare l D c o σ 210 rfl (by decide) hb210) zc9 zV_X11_305 rfl zd_X9_isBare ⟨Nat.le_of_ble_eq_true rfl, Nat.le_of_ble_eq_true rfl⟩ hK hP hS rfl (by decide) hl.1 rfl (Nat.le_of_ble_eq_true rfl) ⟨Nat.zero_le _, Nat.zero_le _⟩ dX11_paste_37 (fun r21 σ22 H locs hw23 hP hS => ?_)
          obtain ⟨rfl, rfl⟩ := hw23
          refine lv_if_ne (pc := 40) (tgt := 51) hx hb dX11_paste_40 (by decide) (fun _ => ?_) (fun c24 => absurd c24 (by decide))
          refine lv_bipush (pc := 51) (v := (-6)) hx hb dX11_paste_51 (by decide) ?_
          exact zreti (pc := 53) hx hb hr hlocks hP hK hS ⟨rfl, rfl⟩ dX11_paste_53
        · subst w15
          refine lv_aload_n (pc := 27) hx hb dX11_paste_27 rfl (lv_at hl 1 rfl) ?_
          refine zgetR (pc := 28) (k := 0) (j := 8) (a := o + 56) zc11 hx hb hts hown hK hP rfl (by decide) rfl (hR 0 8 rfl) zf_X11_43 dX11_paste_28 ?_
          refine lv_iload_n (pc := 31) hx hb dX11_paste_31 rfl (lv_at hl 4 rfl) ?_
          refine zSald (pc := 32) (k := 56) (n := 4) (a := o + 214) hx hb hK hP rfl (by decide) (vp_in_iff.mpr ⟨by decide, by decide⟩) (hR 56 2 rfl) dX11_paste_32 ?_
          refine lv_astore (pc := 33) (lv' := [(7, .ref (o + 214)), (6, .ref (o + 210)), (0, .ref (o + 0)), (1, .int 0), (2, .int p1), (3, .int 2), (4, .int p3), (5, .int p4)]) hx hb dX11_paste_33 hl (by decide) rfl (fun ls hl => ?_)
          refine lv_aload (pc := 35) hx hb dX11_paste_35 (lv_at hl 1 rfl) ?_
          refine zcallVi (pc := 37) (k := 210) (As := []) (rest := []) ⟨hx, hb, hml, hown, hts⟩ (nz_X9_isBare l D c o σ 210 rfl (by decide) hb210) zc9 zV_X11_305 rfl zd_X9_isBare ⟨Nat.le_of_ble_eq_true rfl, Nat.le_of_ble_eq_true rfl⟩ hK hP hS rfl (by decide) hl.1 rfl (Nat.le_of_ble_eq_true rfl) ⟨Nat.zero_le _, Nat.zero_le _⟩ dX11_paste_37 (fun r25 σ26 H locs hw27 hP hS => ?_)
          obtain ⟨rfl, rfl⟩ := hw27
          refine lv_if_ne (pc := 40) (tgt := 51) hx hb dX11_paste_40 (by decide) (fun _ => ?_) (fun c28 => absurd c28 (by decide))
          refine lv_bipush (pc := 51) (v := (-6)) hx hb dX11_paste_51 (by decide) ?_
          exact zreti (pc := 53) hx hb hr hlocks hP hK hS ⟨rfl, rfl⟩ dX11_paste_53
        · subst w16
          refine lv_aload_n (pc := 27) hx hb dX11_paste_27 rfl (lv_at hl 1 rfl) ?_
          refine zgetR (pc := 28) (k := 0) (j := 8) (a := o + 56) zc11 hx hb hts hown hK hP rfl (by decide) rfl (hR 0 8 rfl) zf_X11_43 dX11_paste_28 ?_
          refine lv_iload_n (pc := 31) hx hb dX11_paste_31 rfl (lv_at hl 4 rfl) ?_
          refine zSald (pc := 32) (k := 56) (n := 4) (a := o + 216) hx hb hK hP rfl (by decide) (vp_in_iff.mpr ⟨by decide, by decide⟩) (hR 56 3 rfl) dX11_paste_32 ?_
          refine lv_astore (pc := 33) (lv' := [(7, .ref (o + 216)), (6, .ref (o + 210)), (0, .ref (o + 0)), (1, .int 0), (2, .int p1), (3, .int 3), (4, .int p3), (5, .int p4)]) hx hb dX11_paste_33 hl (by decide) rfl (fun ls hl => ?_)
          refine lv_aload (pc := 35) hx hb dX11_paste_35 (lv_at hl 1 rfl) ?_
          refine zcallVi (pc := 37) (k := 210) (As := []) (rest := []) ⟨hx, hb, hml, hown, hts⟩ (nz_X9_isBare l D c o σ 210 rfl (by decide) hb210) zc9 zV_X11_305 rfl zd_X9_isBare ⟨Nat.le_of_ble_eq_true rfl, Nat.le_of_ble_eq_true rfl⟩ hK hP hS rfl (by decide) hl.1 rfl (Nat.le_of_ble_eq_true rfl) ⟨Nat.zero_le _, Nat.zero_le _⟩ dX11_paste_37 (fun r29 σ30 H locs hw31 hP hS => ?_)
          obtain ⟨rfl, rfl⟩ := hw31
          refine lv_if_ne (pc := 40) (tgt := 51) hx hb dX11_paste_40 (by decide) (fun _ => ?_) (fun c32 => absurd c32 (by decide))
          refine lv_bipush (pc := 51) (v := (-6)) hx hb dX11_paste_51 (by decide) ?_
          exact zreti (pc := 53) hx hb hr hlocks hP hK hS ⟨rfl, rfl⟩ dX11_paste_53
      · subst w10
        refine lv_aload_n (pc := 19) hx hb dX11_paste_19 rfl (lv_at hl 0 rfl) ?_
        refine zgetR (pc := 20) (k := 0) (j := 8) (a := o + 56) zc11 hx hb hts hown hK hP rfl (by decide) rfl (hR 0 8 rfl) zf_X11_43 dX11_paste_20 ?_
        refine lv_iload_n (pc := 23) hx hb dX11_paste_23 rfl (lv_at hl 1 rfl) ?_
        refine zSald (pc := 24) (k := 56) (n := 4) (a := o + 212) hx hb hK hP rfl (by decide) (vp_in_iff.mpr ⟨by decide, by decide⟩) (hR 56 1 rfl) dX11_paste_24 ?_
        refine lv_astore (pc := 25) (lv' := [(6, .ref (o + 212)), (0, .ref (o + 0)), (1, .int 1), (2, .int p1), (3, .int p2), (4, .int p3), (5, .int p4)]) hx hb dX11_paste_25 hl (by decide) rfl (fun ls hl => ?_)
        rcases zcase4 (x := p2) (zin_ne er5 c8) with w33 | w34 | w35 | w36
        · subst w33
          refine lv_aload_n (pc := 27) hx hb dX11_paste_27 rfl (lv_at hl 1 rfl) ?_
          refine zgetR (pc := 28) (k := 0) (j := 8) (a := o + 56) zc11 hx hb hts hown hK hP rfl (by decide) rfl (hR 0 8 rfl) zf_X11_43 dX11_paste_28 ?_
          refine lv_iload_n (pc := 31) hx hb dX11_paste_31 rfl (lv_at hl 4 rfl) ?_
          refine zSald (pc := 32) (k := 56) (n := 4) (a := o + 210) hx hb hK hP rfl (by decide) (vp_in_iff.mpr ⟨by decide, by decide⟩) (hR 56 0 rfl) dX11_paste_32 ?_
          refine lv_astore (pc := 33) (lv' := [(7, .ref (o + 210)), (6, .ref (o + 212)), (0, .ref (o + 0)), (1, .int 1), (2, .int p1), (3, .int 0), (4, .int p3), (5, .int p4)]) hx hb dX11_paste_33 hl (by decide) rfl (fun ls hl => ?_)
          refine lv_aload (pc := 35) hx hb dX11_paste_35 (lv_at hl 1 rfl) ?_
          refine zcallVi (pc := 37) (k := 212) (As := []) (rest := []) ⟨hx, hb, hml, hown, hts⟩ (nz_X9_isBare l D c o σ 212 rfl (by decide) hb212) zc9 zV_X11_305 rfl zd_X9_isBare ⟨Nat.le_of_ble_eq_true rfl, Nat.le_of_ble_eq_true rfl⟩ hK hP hS rfl (by decide) hl.1 rfl (Nat.le_of_ble_eq_true rfl) ⟨Nat.zero_le _, Nat.zero_le _⟩ dX11_paste_37 (fun r37 σ38 H locs hw39 hP hS => ?_)
          obtain ⟨rfl, rfl⟩ := hw39
          refine lv_if_ne (pc := 40) (tgt := 51) hx hb dX11_paste_40 (by decide) (fun _ => ?_) (fun c40 => absurd c40 (by decide))
          refine lv_bipush (pc := 51) (v := (-6)) hx hb dX11_paste_51 (by decide) ?_
          exact zreti (pc := 53) hx hb hr hlocks hP hK hS ⟨rfl, rfl⟩ dX11_paste_53
        · subst w34
          refine lv_aload_n (pc := 27) hx hb dX11_paste_27 rfl (lv_at hl 1 rfl) ?_
          refine zgetR (pc := 28) (k := 0) (j := 8) (a := o + 56) zc11 hx hb hts hown hK hP rfl (by decide) rfl (hR 0 8 rfl) zf_X11_43 dX11_paste_28 ?_
          refine lv_iload_n (pc := 31) hx hb dX11_paste_31 rfl (lv_at hl 4 rfl) ?_
          refine zSald (pc := 32) (k := 56) (n := 4) (a := o + 212) hx hb hK hP rfl (by decide) (vp_in_iff.mpr ⟨by decide, by decide⟩) (hR 56 1 rfl) dX11_paste_32 ?_
          refine lv_astore (pc := 33) (lv' := [(7, .ref (o + 212)), (6, .ref (o + 212)), (0, .ref (o + 0)), (1, .int 1), (2, .int p1), (3, .int 1), (4, .int p3), (5, .int p4)]) hx hb dX11_paste_33 hl (by decide) rfl (fun ls hl => ?_)
          refine lv_aload (pc := 35) hx hb dX11_paste_35 (lv_at hl 1 rfl) ?_
          refine zcallVi (pc := 37) (k := 212) (As := []) (rest := []) ⟨hx, hb, hml, hown, hts⟩ (nz_X9_isBare l D c o σ 212 rfl (by decide) hb212) zc9 zV_X11_305 rfl zd_X9_isBare ⟨Nat.le_of_ble_eq_true rfl, Nat.le_of_ble_eq_true rfl⟩ hK hP hS rfl (by decide) hl.1 rfl (Nat.le_of_ble_eq_true rfl) ⟨Nat.zero_le _, Nat.zero_le _⟩ dX11_paste_37 (fun r41 σ42 H locs hw43 hP hS => ?_)
          obtain ⟨rfl, rfl⟩ := hw43
          refine lv_if_ne (pc := 40) (tgt := 51) hx hb dX11_paste_40 (by decide) (fun _ => ?_) (fun c44 => absurd c44 (by decide))
          refine lv_bipush (pc := 51) (v := (-6)) hx hb dX11_paste_51 (by decide) ?_
          exact zreti (pc := 53) hx hb hr hlocks hP hK hS ⟨rfl, rfl⟩ dX11_paste_53
        · subst w35
          refine lv_aload_n (pc := 27) hx hb dX11_paste_27 rfl (lv_at hl 1 rfl) ?_
          refine zgetR (pc := 28) (k := 0) (j := 8) (a := o + 56) zc11 hx hb hts hown hK hP rfl (by decide) rfl (hR 0 8 rfl) zf_X11_43 dX11_paste_28 ?_
          refine lv_iload_n (pc := 31) hx hb dX11_paste_31 rfl (lv_at hl 4 rfl) ?_
          refine zSald (pc := 32) (k := 56) (n := 4) (a := o + 214) hx hb hK hP rfl (by decide) (vp_in_iff.mpr ⟨by decide, by decide⟩) (hR 56 2 rfl) dX11_paste_32 ?_
          refine lv_astore (pc := 33) (lv' := [(7, .ref (o + 214)), (6, .ref (o + 212)), (0, .ref (o + 0)), (1, .int 1), (2, .int p1), (3, .int 2), (4, .int p3), (5, .int p4)]) hx hb dX11_paste_33 hl (by decide) rfl (fun ls hl => ?_)
          refine lv_aload (pc := 35) hx hb dX11_paste_35 (lv_at hl 1 rfl) ?_
          refine zcallVi (pc := 37) (k := 212) (As := []) (rest := []) ⟨hx, hb, hml, hown, hts⟩ (nz_X9_isBare l D c o σ 212 rfl (by decide) hb212) zc9 zV_X11_305 rfl zd_X9_isBare ⟨Nat.le_of_ble_eq_true rfl, Nat.le_of_ble_eq_true rfl⟩ hK hP hS rfl (by decide) hl.1 rfl (Nat.le_of_ble_eq_true rfl) ⟨Nat.zero_le _, Nat.zero_le _⟩ dX11_paste_37 (fun r45 σ46 H locs hw47 hP hS => ?_)
          obtain ⟨rfl, rfl⟩ := hw47
          refine lv_if_ne (pc := 40) (tgt := 51) hx hb dX11_paste_40 (by decide) (fun _ => ?_) (fun c48 => absurd c48 (by decide))
          refine lv_bipush (pc := 51) (v := (-6)) hx hb dX11_paste_51 (by decide) ?_
          exact zreti (pc := 53) hx hb hr hlocks hP hK hS ⟨rfl, rfl⟩ dX11_paste_53
        · subst w36
          refine lv_aload_n (pc := 27) hx hb dX11_paste_27 rfl (lv_at hl 1 rfl) ?_
          refine zgetR (pc := 28) (k := 0) (j := 8) (a := o + 56) zc11 hx hb hts hown hK hP rfl (by decide) rfl (hR 0 8 rfl) zf_X11_43 dX11_paste_28 ?_
          refine lv_iload_n (pc := 31) hx hb dX11_paste_31 rfl (lv_at hl 4 rfl) ?_
          refine zSald (pc := 32) (k := 56) (n := 4) (a := o + 216) hx hb hK hP rfl (by decide) (vp_in_iff.mpr ⟨by decide, by decide⟩) (hR 56 3 rfl) dX11_paste_32 ?_
          refine lv_astore (pc := 33) (lv' := [(7, .ref (o + 216)), (6, .ref (o + 212)), (0, .ref (o + 0)), (1, .int 1), (2, .int p1), (3, .int 3), (4, .int p3), (5, .int p4)]) hx hb dX11_paste_33 hl (by decide) rfl (fun ls hl => ?_)
          refine lv_aload (pc := 35) hx hb dX11_paste_35 (lv_at hl 1 rfl) ?_
          refine zcallVi (pc := 37) (k := 212) (As := []) (rest := []) ⟨hx, hb, hml, hown, hts⟩ (nz_X9_isBare l D c o σ 212 rfl (by decide) hb212) zc9 zV_X11_305 rfl zd_X9_isBare ⟨Nat.le_of_ble_eq_true rfl, Nat.le_of_ble_eq_true rfl⟩ hK hP hS rfl (by decide) hl.1 rfl (Nat.le_of_ble_eq_true rfl) ⟨Nat.zero_le _, Nat.zero_le _⟩ dX11_paste_37 (fun r49 σ50 H locs hw51 hP hS => ?_)
          obtain ⟨rfl, rfl⟩ := hw51
          refine lv_if_ne (pc := 40) (tgt := 51) hx hb dX11_paste_40 (by decide) (fun _ => ?_) (fun c52 => absurd c52 (by decide))
          refine lv_bipush (pc := 51) (v := (-6)) hx hb dX11_paste_51 (by decide) ?_
          exact zreti (pc := 53) hx hb hr hlocks hP hK hS ⟨rfl, rfl⟩ dX11_paste_53
      · subst w11
        refine lv_aload_n (pc := 19) hx hb dX11_paste_19 rfl (lv_at hl 0 rfl) ?_
        refine zgetR (pc := 20) (k := 0) (j := 8) (a := o + 56) zc11 hx hb hts hown hK hP rfl (by decide) rfl (hR 0 8 rfl) zf_X11_43 dX11_paste_20 ?_
        refine lv_iload_n (pc := 23) hx hb dX11_paste_23 rfl (lv_at hl 1 rfl) ?_
        refine zSald (pc := 24) (k := 56) (n := 4) (a := o + 214) hx hb hK hP rfl (by decide) (vp_in_iff.mpr ⟨by decide, by decide⟩) (hR 56 2 rfl) dX11_paste_24 ?_
        refine lv_astore (pc := 25) (lv' := [(6, .ref (o + 214)), (0, .ref (o + 0)), (1, .int 2), (2, .int p1), (3, .int p2), (4, .int p3), (5, .int p4)]) hx hb dX11_paste_25 hl (by decide) rfl (fun ls hl => ?_)
        rcases zcase4 (x := p2) (zin_ne er5 c8) with w53 | w54 | w55 | w56
        · subst w53
          refine lv_aload_n (pc := 27) hx hb dX11_paste_27 rfl (lv_at hl 1 rfl) ?_
          refine zgetR (pc := 28) (k := 0) (j := 8) (a := o + 56) zc11 hx hb hts hown hK hP rfl (by decide) rfl (hR 0 8 rfl) zf_X11_43 dX11_paste_28 ?_
          refine lv_iload_n (pc := 31) hx hb dX11_paste_31 rfl (lv_at hl 4 rfl) ?_
          refine zSald (pc := 32) (k := 56) (n := 4) (a := o + 210) hx hb hK hP rfl (by decide) (vp_in_iff.mpr ⟨by decide, by decide⟩) (hR 56 0 rfl) dX11_paste_32 ?_
          refine lv_astore (pc := 33) (lv' := [(7, .ref (o + 210)), (6, .ref (o + 214)), (0, .ref (o + 0)), (1, .int 2), (2, .int p1), (3, .int 0), (4, .int p3), (5, .int p4)]) hx hb dX11_paste_33 hl (by decide) rfl (fun ls hl => ?_)
          refine lv_aload (pc := 35) hx hb dX11_paste_35 (lv_at hl 1 rfl) ?_
          refine zcallVi (pc := 37) (k := 214) (As := []) (rest := []) ⟨hx, hb, hml, hown, hts⟩ (nz_X9_isBare l D c o σ 214 rfl (by decide) hb214) zc9 zV_X11_305 rfl zd_X9_isBare ⟨Nat.le_of_ble_eq_true rfl, Nat.le_of_ble_eq_true rfl⟩ hK hP hS rfl (by decide) hl.1 rfl (Nat.le_of_ble_eq_true rfl) ⟨Nat.zero_le _, Nat.zero_le _⟩ dX11_paste_37 (fun r57 σ58 H locs hw59 hP hS => ?_)
          obtain ⟨rfl, rfl⟩ := hw59
          refine lv_if_ne (pc := 40) (tgt := 51) hx hb dX11_paste_40 (by decide) (fun _ => ?_) (fun c60 => absurd c60 (by decide))
          refine lv_bipush (pc := 51) (v := (-6)) hx hb dX11_paste_51 (by decide) ?_
          exact zreti (pc := 53) hx hb hr hlocks hP hK hS ⟨rfl, rfl⟩ dX11_paste_53
        · subst w54
          refine lv_aload_n (pc := 27) hx hb dX11_paste_27 rfl (lv_at hl 1 rfl) ?_
          refine zgetR (pc := 28) (k := 0) (j := 8) (a := o + 56) zc11 hx hb hts hown hK hP rfl (by decide) rfl (hR 0 8 rfl) zf_X11_43 dX11_paste_28 ?_
          refine lv_iload_n (pc := 31) hx hb dX11_paste_31 rfl (lv_at hl 4 rfl) ?_
          refine zSald (pc := 32) (k := 56) (n := 4) (a := o + 212) hx hb hK hP rfl (by decide) (vp_in_iff.mpr ⟨by decide, by decide⟩) (hR 56 1 rfl) dX11_paste_32 ?_
          refine lv_astore (pc := 33) (lv' := [(7, .ref (o + 212)), (6, .ref (o + 214)), (0, .ref (o + 0)), (1, .int 2), (2, .int p1), (3, .int 1), (4, .int p3), (5, .int p4)]) hx hb dX11_paste_33 hl (by decide) rfl (fun ls hl => ?_)
          refine lv_aload (pc := 35) hx hb dX11_paste_35 (lv_at hl 1 rfl) ?_
          refine zcallVi (pc := 37) (k := 214) (As := []) (rest := []) ⟨hx, hb, hml, hown, hts⟩ (nz_X9_isBare l D c o σ 214 rfl (by decide) hb214) zc9 zV_X11_305 rfl zd_X9_isBare ⟨Nat.le_of_ble_eq_true rfl, Nat.le_of_ble_eq_true rfl⟩ hK hP hS rfl (by decide) hl.1 rfl (Nat.le_of_ble_eq_true rfl) ⟨Nat.zero_le _, Nat.zero_le _⟩ dX11_paste_37 (fun r61 σ62 H locs hw63 hP hS => ?_)
          obtain ⟨rfl, rfl⟩ := hw63
          refine lv_if_ne (pc := 40) (tgt := 51) hx hb dX11_paste_40 (by decide) (fun _ => ?_) (fun c64 => absurd c64 (by decide))
          refine lv_bipush (pc := 51) (v := (-6)) hx hb dX11_paste_51 (by decide) ?_
          exact zreti (pc := 53) hx hb hr hlocks hP hK hS ⟨rfl, rfl⟩ dX11_paste_53
        · subst w55
          refine lv_aload_n (pc := 27) hx hb dX11_paste_27 rfl (lv_at hl 1 rfl) ?_
          refine zgetR (pc := 28) (k := 0) (j := 8) (a := o + 56) zc11 hx hb hts hown hK hP rfl (by decide) rfl (hR 0 8 rfl) zf_X11_43 dX11_paste_28 ?_
          refine lv_iload_n (pc := 31) hx hb dX11_paste_31 rfl (lv_at hl 4 rfl) ?_
          refine zSald (pc := 32) (k := 56) (n := 4) (a := o + 214) hx hb hK hP rfl (by decide) (vp_in_iff.mpr ⟨by decide, by decide⟩) (hR 56 2 rfl) dX11_paste_32 ?_
          refine lv_astore (pc := 33) (lv' := [(7, .ref (o + 214)), (6, .ref (o + 214)), (0, .ref (o + 0)), (1, .int 2), (2, .int p1), (3, .int 2), (4, .int p3), (5, .int p4)]) hx hb dX11_paste_33 hl (by decide) rfl (fun ls hl => ?_)
          refine lv_aload (pc := 35) hx hb dX11_paste_35 (lv_at hl 1 rfl) ?_
          refine zcallVi (pc := 37) (k := 214) (As := []) (rest := []) ⟨hx, hb, hml, hown, hts⟩ (nz_X9_isBare l D c o σ 214 rfl (by decide) hb214) zc9 zV_X11_305 rfl zd_X9_isBare ⟨Nat.le_of_ble_eq_true rfl, Nat.le_of_ble_eq_true rfl⟩ hK hP hS rfl (by decide) hl.1 rfl (Nat.le_of_ble_eq_true rfl) ⟨Nat.zero_le _, Nat.zero_le _⟩ dX11_paste_37 (fun r65 σ66 H locs hw67 hP hS => ?_)
          obtain ⟨rfl, rfl⟩ := hw67
          refine lv_if_ne (pc := 40) (tgt := 51) hx hb dX11_paste_40 (by decide) (fun _ => ?_) (fun c68 => absurd c68 (by decide))
          refine lv_bipush (pc := 51) (v := (-6)) hx hb dX11_paste_51 (by decide) ?_
          exact zreti (pc := 53) hx hb hr hlocks hP hK hS ⟨rfl, rfl⟩ dX11_paste_53
        · subst w56
          refine lv_aload_n (pc := 27) hx hb dX11_paste_27 rfl (lv_at hl 1 rfl) ?_
          refine zgetR (pc := 28) (k := 0) (j := 8) (a := o + 56) zc11 hx hb hts hown hK hP rfl (by decide) rfl (hR 0 8 rfl) zf_X11_43 dX11_paste_28 ?_
          refine lv_iload_n (pc := 31) hx hb dX11_paste_31 rfl (lv_at hl 4 rfl) ?_
          refine zSald (pc := 32) (k := 56) (n := 4) (a := o + 216) hx hb hK hP rfl (by decide) (vp_in_iff.mpr ⟨by decide, by decide⟩) (hR 56 3 rfl) dX11_paste_32 ?_
          refine lv_astore (pc := 33) (lv' := [(7, .ref (o + 216)), (6, .ref (o + 214)), (0, .ref (o + 0)), (1, .int 2), (2, .int p1), (3, .int 3), (4, .int p3), (5, .int p4)]) hx hb dX11_paste_33 hl (by decide) rfl (fun ls hl => ?_)
          refine lv_aload (pc := 35) hx hb dX11_paste_35 (lv_at hl 1 rfl) ?_
          refine zcallVi (pc := 37) (k := 214) (As := []) (rest := []) ⟨hx, hb, hml, hown, hts⟩ (nz_X9_isBare l D c o σ 214 rfl (by decide) hb214) zc9 zV_X11_305 rfl zd_X9_isBare ⟨Nat.le_of_ble_eq_true rfl, Nat.le_of_ble_eq_true rfl⟩ hK hP hS rfl (by decide) hl.1 rfl (Nat.le_of_ble_eq_true rfl) ⟨Nat.zero_le _, Nat.zero_le _⟩ dX11_paste_37 (fun r69 σ70 H locs hw71 hP hS => ?_)
          obtain ⟨rfl, rfl⟩ := hw71
          refine lv_if_ne (pc := 40) (tgt := 51) hx hb dX11_paste_40 (by decide) (fun _ => ?_) (fun c72 => absurd c72 (by decide))
          refine lv_bipush (pc := 51) (v := (-6)) hx hb dX11_paste_51 (by decide) ?_
          exact zreti (pc := 53) hx hb hr hlocks hP hK hS ⟨rfl, rfl⟩ dX11_paste_53
      · subst w12
        refine lv_aload_n (pc := 19) hx hb dX11_paste_19 rfl (lv_at hl 0 rfl) ?_
        refine zgetR (pc := 20) (k := 0) (j := 8) (a := o + 56) zc11 hx hb hts hown hK hP rfl (by decide) rfl (hR 0 8 rfl) zf_X11_43 dX11_paste_20 ?_
        refine lv_iload_n (pc := 23) hx hb dX11_paste_23 rfl (lv_at hl 1 rfl) ?_
        refine zSald (pc := 24) (k := 56) (n := 4) (a := o + 216) hx hb hK hP rfl (by decide) (vp_in_iff.mpr ⟨by decide, by decide⟩) (hR 56 3 rfl) dX11_paste_24 ?_
        refine lv_astore (pc := 25) (lv' := [(6, .ref (o + 216)), (0, .ref (o + 0)), (1, .int 3), (2, .int p1), (3, .int p2), (4, .int p3), (5, .int p4)]) hx hb dX11_paste_25 hl (by decide) rfl (fun ls hl => ?_)
        rcases zcase4 (x := p2) (zin_ne er5 c8) with w73 | w74 | w75 | w76
        · subst w73
          refine lv_aload_n (pc := 27) hx hb dX11_paste_27 rfl (lv_at hl 1 rfl) ?_
          refine zgetR (pc := 28) (k := 0) (j := 8) (a := o + 56) zc11 hx hb hts hown hK hP rfl (by decide) rfl (hR 0 8 rfl) zf_X11_43 dX11_paste_28 ?_
          refine lv_iload_n (pc := 31) hx hb dX11_paste_31 rfl (lv_at hl 4 rfl) ?_
          refine zSald (pc := 32) (k := 56) (n := 4) (a := o + 210) hx hb hK hP rfl (by decide) (vp_in_iff.mpr ⟨by decide, by decide⟩) (hR 56 0 rfl) dX11_paste_32 ?_
          refine lv_astore (pc := 33) (lv' := [(7, .ref (o + 210)), (6, .ref (o + 216)), (0, .ref (o + 0)), (1, .int 3), (2, .int p1), (3, .int 0), (4, .int p3), (5, .int p4)]) hx hb dX11_paste_33 hl (by decide) rfl (fun ls hl => ?_)
          refine lv_aload (pc := 35) hx hb dX11_paste_35 (lv_at hl 1 rfl) ?_
          refine zcallVi (pc := 37) (k := 216) (As := []) (rest := []) ⟨hx, hb, hml, hown, hts⟩ (nz_X9_isBare l D c o σ 216 rfl (by decide) hb216) zc9 zV_X11_305 rfl zd_X9_isBare ⟨Nat.le_of_ble_eq_true rfl, Nat.le_of_ble_eq_true rfl⟩ hK hP hS rfl (by decide) hl.1 rfl (Nat.le_of_ble_eq_true rfl) ⟨Nat.zero_le _, Nat.zero_le _⟩ dX11_paste_37 (fun r77 σ78 H locs hw79 hP hS => ?_)
          obtain ⟨rfl, rfl⟩ := hw79
          refine lv_if_ne (pc := 40) (tgt := 51) hx hb dX11_paste_40 (by decide) (fun _ => ?_) (fun c80 => absurd c80 (by decide))
          refine lv_bipush (pc := 51) (v := (-6)) hx hb dX11_paste_51 (by decide) ?_
          exact zreti (pc := 53) hx hb hr hlocks hP hK hS ⟨rfl, rfl⟩ dX11_paste_53
        · subst w74
          refine lv_aload_n (pc := 27) hx hb dX11_paste_27 rfl (lv_at hl 1 rfl) ?_
          refine zgetR (pc := 28) (k := 0) (j := 8) (a := o + 56) zc11 hx hb hts hown hK hP rfl (by decide) rfl (hR 0 8 rfl) zf_X11_43 dX11_paste_28 ?_
          refine lv_iload_n (pc := 31) hx hb dX11_paste_31 rfl (lv_at hl 4 rfl) ?_
          refine zSald (pc := 32) (k := 56) (n := 4) (a := o + 212) hx hb hK hP rfl (by decide) (vp_in_iff.mpr ⟨by decide, by decide⟩) (hR 56 1 rfl) dX11_paste_32 ?_
          refine lv_astore (pc := 33) (lv' := [(7, .ref (o + 212)), (6, .ref (o + 216)), (0, .ref (o + 0)), (1, .int 3), (2, .int p1), (3, .int 1), (4, .int p3), (5, .int p4)]) hx hb dX11_paste_33 hl (by decide) rfl (fun ls hl => ?_)
          refine lv_aload (pc := 35) hx hb dX11_paste_35 (lv_at hl 1 rfl) ?_
          refine zcallVi (pc := 37) (k := 216) (As := []) (rest := []) ⟨hx, hb, hml, hown, hts⟩ (nz_X9_isBare l D c o σ 216 rfl (by decide) hb216) zc9 zV_X11_305 rfl zd_X9_isBare ⟨Nat.le_of_ble_eq_true rfl, Nat.le_of_ble_eq_true rfl⟩ hK hP hS rfl (by decide) hl.1 rfl (Nat.le_of_ble_eq_true rfl) ⟨Nat.zero_le _, Nat.zero_le _⟩ dX11_paste_37 (fun r81 σ82 H locs hw83 hP hS => ?_)
          obtain ⟨rfl, rfl⟩ := hw83
          refine lv_if_ne (pc := 40) (tgt := 51) hx hb dX11_paste_40 (by decide) (fun _ => ?_) (fun c84 => absurd c84 (by decide))
          refine lv_bipush (pc := 51) (v := (-6)) hx hb dX11_paste_51 (by decide) ?_
          exact zreti (pc := 53) hx hb hr hlocks hP hK hS ⟨rfl, rfl⟩ dX11_paste_53
        · subst w75
          refine lv_aload_n (pc := 27) hx hb dX11_paste_27 rfl (lv_at hl 1 rfl) ?_
          refine zgetR (pc := 28) (k := 0) (j := 8) (a := o + 56) zc11 hx hb hts hown hK hP rfl (by decide) rfl (hR 0 8 rfl) zf_X11_43 dX11_paste_28 ?_
          refine lv_iload_n (pc := 31) hx hb dX11_paste_31 rfl (lv_at hl 4 rfl) ?_
          refine zSald (pc := 32) (k := 56) (n := 4) (a := o + 214) hx hb hK hP rfl (by decide) (vp_in_iff.mpr ⟨by decide, by decide⟩) (hR 56 2 rfl) dX11_paste_32 ?_
          refine lv_astore (pc := 33) (lv' := [(7, .ref (o + 214)), (6, .ref (o + 216)), (0, .ref (o + 0)), (1, .int 3), (2, .int p1), (3, .int 2), (4, .int p3), (5, .int p4)]) hx hb dX11_paste_33 hl (by decide) rfl (fun ls hl => ?_)
          refine lv_aload (pc := 35) hx hb dX11_paste_35 (lv_at hl 1 rfl) ?_
          refine zcallVi (pc := 37) (k := 216) (As := []) (rest := []) ⟨hx, hb, hml, hown, hts⟩ (nz_X9_isBare l D c o σ 216 rfl (by decide) hb216) zc9 zV_X11_305 rfl zd_X9_isBare ⟨Nat.le_of_ble_eq_true rfl, Nat.le_of_ble_eq_true rfl⟩ hK hP hS rfl (by decide) hl.1 rfl (Nat.le_of_ble_eq_true rfl) ⟨Nat.zero_le _, Nat.zero_le _⟩ dX11_paste_37 (fun r85 σ86 H locs hw87 hP hS => ?_)
          obtain ⟨rfl, rfl⟩ := hw87
          refine lv_if_ne (pc := 40) (tgt := 51) hx hb dX11_paste_40 (by decide) (fun _ => ?_) (fun c88 => absurd c88 (by decide))
          refine lv_bipush (pc := 51) (v := (-6)) hx hb dX11_paste_51 (by decide) ?_
          exact zreti (pc := 53) hx hb hr hlocks hP hK hS ⟨rfl, rfl⟩ dX11_paste_53
        · subst w76
          refine lv_aload_n (pc := 27) hx hb dX11_paste_27 rfl (lv_at hl 1 rfl) ?_
          refine zgetR (pc := 28) (k := 0) (j := 8) (a := o + 56) zc11 hx hb hts hown hK hP rfl (by decide) rfl (hR 0 8 rfl) zf_X11_43 dX11_paste_28 ?_
          refine lv_iload_n (pc := 31) hx hb dX11_paste_31 rfl (lv_at hl 4 rfl) ?_
          refine zSald (pc := 32) (k := 56) (n := 4) (a := o + 216) hx hb hK hP rfl (by decide) (vp_in_iff.mpr ⟨by decide, by decide⟩) (hR 56 3 rfl) dX11_paste_32 ?_
          refine lv_astore (pc := 33) (lv' := [(7, .ref (o + 216)), (6, .ref (o + 216)), (0, .ref (o + 0)), (1, .int 3), (2, .int p1), (3, .int 3), (4, .int p3), (5, .int p4)]) hx hb dX11_paste_33 hl (by decide) rfl (fun ls hl => ?_)
          refine lv_aload (pc := 35) hx hb dX11_paste_35 (lv_at hl 1 rfl) ?_
          refine zcallVi (pc := 37) (k := 216) (As := []) (rest := []) ⟨hx, hb, hml, hown, hts⟩ (nz_X9_isBare l D c o σ 216 rfl (by decide) hb216) zc9 zV_X11_305 rfl zd_X9_isBare ⟨Nat.le_of_ble_eq_true rfl, Nat.le_of_ble_eq_true rfl⟩ hK hP hS rfl (by decide) hl.1 rfl (Nat.le_of_ble_eq_true rfl) ⟨Nat.zero_le _, Nat.zero_le _⟩ dX11_paste_37 (fun r89 σ90 H locs hw91 hP hS => ?_)
          obtain ⟨rfl, rfl⟩ := hw91
          refine lv_if_ne (pc := 40) (tgt := 51) hx hb dX11_paste_40 (by decide) (fun _ => ?_) (fun c92 => absurd c92 (by decide))
          refine lv_bipush (pc := 51) (v := (-6)) hx hb dX11_paste_51 (by decide) ?_
          exact zreti (pc := 53) hx hb hr hlocks hP hK hS ⟨rfl, rfl⟩ dX11_paste_53
    · refine lv_bipush (pc := 16) (v := (-2)) hx hb dX11_paste_16 (by decide) ?_
      exact zreti (pc := 18) hx hb hr hlocks hP hK hS ⟨(by have qr1 := zin_ne er1 c4; have qr5 := zin_eq er5 c8; unfold zsp_paste; (repeat' split) <;> first | rfl | omega), rfl⟩ dX11_paste_18

set_option maxHeartbeats 4000000 in
set_option maxRecDepth 100000 in
theorem fr_X11_count (l : Launch) (D : va_G) (c : zC) (o : Nat) (σ : zS) (p0 : Int32) (hR : zRef o σ.2.2) (hN : σ.2.2 0 4 = o + 2) (h0 : σ.1 2 0 = 0) (h1 : σ.1 2 1 = 0) (h2 : σ.1 2 2 = 0) (ht : σ.1 0 1 = 0) (hz : ∀ k j, σ.2.1 k j = 0) (hb210 : σ.1 210 2 = -1) (hb212 : σ.1 212 2 = -1) (hb214 : σ.1 214 2 = -1) (hb216 : σ.1 216 2 = -1) : Met l yX11_count zs_X11_count (zr 12) (va_Pc [.ref (o + 0), .int p0] (zQ D c o σ)) (va_Qi (fun (r : Int32) (σ1 : zS) => r = zsp_count p0 ∧ σ = σ1) (zQ D c o) (zA o)) 0 0 (zA o) := by
  refine zMet (by decide) (Nat.le_of_ble_eq_true rfl) ?_
  intro p e s m below meth cd ⟨hx, hb, hr, hml, hown, hts, hlocks⟩ hP hK ls hl
  have hS : va_S (zA o) s.heap s.heap [] := va_S.rf
  have hl : lv_has ls 2 [(0, .ref (o + 0)), (1, .int p0)] := hl
  refine lv_iload_n (pc := 0) hx hb dX11_count_0 rfl (lv_at hl 1 rfl) ?_
  by_cases w1 : p0 = 0
  · subst w1
    refine lv_tableIn (pc := 1) (tgt := 44) hx hb dX11_count_1 (by decide) (by decide) rfl (by decide) ?_
    refine lv_aload_n (pc := 44) hx hb dX11_count_44 rfl (lv_at hl 0 rfl) ?_
    refine zgetR (pc := 45) (k := 0) (j := 4) (a := o + 2) zc11 hx hb hts hown hK hP rfl (by decide) rfl hN zf_X11_26 dX11_count_45 ?_
    refine zgetI (pc := 48) (k := 2) (j := 0) (v := 0) zc10 hx hb hts hown hK hP rfl (by decide) rfl h0 zf_X11_139 dX11_count_48 ?_
    exact zreti (pc := 51) hx hb hr hlocks hP hK hS ⟨rfl, rfl⟩ dX11_count_51
  by_cases w2 : p0 = 1
  · subst w2
    refine lv_tableIn (pc := 1) (tgt := 52) hx hb dX11_count_1 (by decide) (by decide) rfl (by decide) ?_
    refine lv_aload_n (pc := 52) hx hb dX11_count_52 rfl (lv_at hl 0 rfl) ?_
    refine zgetR (pc := 53) (k := 0) (j := 4) (a := o + 2) zc11 hx hb hts hown hK hP rfl (by decide) rfl hN zf_X11_26 dX11_count_53 ?_
    refine zgetI (pc := 56) (k := 2) (j := 1) (v := 0) zc10 hx hb hts hown hK hP rfl (by decide) rfl h1 zf_X11_132 dX11_count_56 ?_
    exact zreti (pc := 59) hx hb hr hlocks hP hK hS ⟨rfl, rfl⟩ dX11_count_59
  by_cases w3 : p0 = 2
  · subst w3
    refine lv_tableIn (pc := 1) (tgt := 60) hx hb dX11_count_1 (by decide) (by decide) rfl (by decide) ?_
    refine lv_aload_n (pc := 60) hx hb dX11_count_60 rfl (lv_at hl 0 rfl) ?_
    refine zgetR (pc := 61) (k := 0) (j := 4) (a := o + 2) zc11 hx hb hts hown hK hP rfl (by decide) rfl hN zf_X11_26 dX11_count_61 ?_
    refine zgetI (pc := 64) (k := 2) (j := 2) (v := 0) zc10 hx hb hts hown hK hP rfl (by decide) rfl h2 zf_X11_318 dX11_count_64 ?_
    exact zreti (pc := 67) hx hb hr hlocks hP hK hS ⟨rfl, rfl⟩ dX11_count_67
  by_cases w4 : p0 = 3
  · subst w4
    refine lv_tableIn (pc := 1) (tgt := 68) hx hb dX11_count_1 (by decide) (by decide) rfl (by decide) ?_
    refine lv_aload_n (pc := 68) hx hb dX11_count_68 rfl (lv_at hl 0 rfl) ?_
    refine zgetI (pc := 69) (k := 0) (j := 1) (v := 0) zc11 hx hb hts hown hK hP rfl (by decide) rfl ht zf_X11_13 dX11_count_69 ?_
    exact zreti (pc := 72) hx hb hr hlocks hP hK hS ⟨rfl, rfl⟩ dX11_count_72
  by_cases w5 : p0 = 4
  · subst w5
    refine lv_tableIn (pc := 1) (tgt := 73) hx hb dX11_count_1 (by decide) (by decide) rfl (by decide) ?_
    refine lv_aload_n (pc := 73) hx hb dX11_count_73 rfl (lv_at hl 0 rfl) ?_
    refine zgetR (pc := 74) (k := 0) (j := 4) (a := o + 2) zc11 hx hb hts hown hK hP rfl (by decide) rfl hN zf_X11_26 dX11_count_74 ?_
    refine zcallVi (pc := 77) (k := 2) (As := []) (rest := []) ⟨hx, hb, hml, hown, hts⟩ (nz_X10_filled l D c o σ hR hz) zc10 zV_X11_321 rfl zd_X10_filledRegisters ⟨Nat.le_of_ble_eq_true rfl, Nat.le_of_ble_eq_true rfl⟩ hK hP hS rfl (by decide) hl.1 rfl (Nat.le_of_ble_eq_true rfl) ⟨Nat.zero_le _, Nat.zero_le _⟩ dX11_count_77 (fun r6 σ7 H locs hw8 hP hS => ?_)
    obtain ⟨rfl, rfl⟩ := hw8
    exact zreti (pc := 80) hx hb hr hlocks hP hK hS ⟨rfl, rfl⟩ dX11_count_80
  by_cases w9 : p0 = 5
  · subst w9
    refine lv_tableIn (pc := 1) (tgt := 81) hx hb dX11_count_1 (by decide) (by decide) rfl (by decide) ?_
    refine lv_aload_n (pc := 81) hx hb dX11_count_81 rfl (lv_at hl 0 rfl) ?_
    refine zcallVi (pc := 82) (k := 0) (As := []) (rest := []) ⟨hx, hb, hml, hown, hts⟩ (nw_X11_isWorld l D c o σ hR hN h0) zc11 zV_X11_260 rfl zd_X11_isWorld ⟨Nat.le_of_ble_eq_true rfl, Nat.le_of_ble_eq_true rfl⟩ hK hP hS rfl (by decide) hl.1 rfl (Nat.le_of_ble_eq_true rfl) ⟨Nat.zero_le _, Nat.zero_le _⟩ dX11_count_82 (fun r10 σ11 H locs hw12 hP hS => ?_)
    obtain ⟨rfl, rfl⟩ := hw12
    refine lv_if_eq (pc := 85) (tgt := 98) hx hb dX11_count_85 (by decide) (fun _ => ?_) (fun c13 => absurd c13 (by decide))
    refine lv_iconst (pc := 98) (v := 0) hx hb dX11_count_98 (by decide) ?_
    exact zreti (pc := 99) hx hb hr hlocks hP hK hS ⟨rfl, rfl⟩ dX11_count_99
  by_cases w14 : p0 = 6
  · subst w14
    refine lv_tableIn (pc := 1) (tgt := 100) hx hb dX11_count_1 (by decide) (by decide) rfl (by decide) ?_
    refine lv_aload_n (pc := 100) hx hb dX11_count_100 rfl (lv_at hl 0 rfl) ?_
    refine zcallVi (pc := 101) (k := 0) (As := []) (rest := []) ⟨hx, hb, hml, hown, hts⟩ (nz_X11_rows l D c o σ hR hb210 hb212 hb214 hb216) zc11 zV_X11_327 rfl zd_X11_rowsInSlots ⟨Nat.le_of_ble_eq_true rfl, Nat.le_of_ble_eq_true rfl⟩ hK hP hS rfl (by decide) hl.1 rfl (Nat.le_of_ble_eq_true rfl) ⟨Nat.zero_le _, Nat.zero_le _⟩ dX11_count_101 (fun r15 σ16 H locs hw17 hP hS => ?_)
    obtain ⟨rfl, rfl⟩ := hw17
    exact zreti (pc := 104) hx hb hr hlocks hP hK hS ⟨rfl, rfl⟩ dX11_count_104
  have w18 : p0.toInt < 0 ∨ 6 < p0.toInt := by
    have q0 := lv_neT w1 (a := 0) rfl; have q1 := lv_neT w2 (a := 1) rfl; have q2 := lv_neT w3 (a := 2) rfl; have q3 := lv_neT w4 (a := 3) rfl; have q4 := lv_neT w5 (a := 4) rfl; have q5 := lv_neT w9 (a := 5) rfl; have q6 := lv_neT w14 (a := 6) rfl
    omega
  refine lv_tableOut (pc := 1) (tgt := 105) hx hb dX11_count_1 w18 (by decide) ?_
  refine lv_iconst (pc := 105) (v := (-1)) hx hb dX11_count_105 (by decide) ?_
  exact zreti (pc := 106) hx hb hr hlocks hP hK hS ⟨by unfold zsp_count; rw [if_neg (by omega)], rfl⟩ dX11_count_106

set_option maxHeartbeats 4000000 in
set_option maxRecDepth 100000 in
theorem em_X5_split (l : Launch) (D : va_G) (c : zC) (o : Nat) (σ : zS) (hR : zRef o σ.2.2) (hl0 : σ.1 57 6 = 0) : Met l yX5_split zs_X5_split (zr 5) (va_Pc [.ref (o + 57)] (zQ D c o σ)) (va_Qv (fun (σ1 : zS) => zFr [61, 63, 64] σ σ1 ∧ σ1.1 61 0 = 0) (zQ D c o) (zA o)) 0 0 (zA o) := by
  refine zMet (by decide) (Nat.le_of_ble_eq_true rfl) ?_
  intro p e s m below meth cd ⟨hx, hb, hr, hml, hown, hts, hlocks⟩ hP hK ls hl
  have hS : va_S (zA o) s.heap s.heap [] := va_S.rf
  have hl : lv_has ls 3 [(0, .ref (o + 57))] := hl
  have hF : zFr [61, 63, 64] σ σ := zFr_rf
  refine lv_iconst (pc := 0) (v := 0) hx hb dX5_split_0 (by decide) ?_
  refine lv_istore_n (pc := 1) (lv' := [(1, .int 0), (0, .ref (o + 57))]) hx hb dX5_split_1 rfl hl (by decide) rfl (fun ls hl => ?_)
  refine lv_iconst (pc := 2) (v := 0) hx hb dX5_split_2 (by decide) ?_
  refine lv_istore_n (pc := 3) (lv' := [(2, .int 0), (1, .int 0), (0, .ref (o + 57))]) hx hb dX5_split_3 rfl hl (by decide) rfl (fun ls hl => ?_)
  refine lv_iload_n (pc := 4) hx hb dX5_split_4 rfl (lv_at hl 0 rfl) ?_
  refine lv_aload_n (pc := 5) hx hb dX5_split_5 rfl (lv_at hl 2 rfl) ?_
  refine zgetI (pc := 6) (k := 57) (j := 6) (v := 0) zc5 hx hb hts hown hK hP rfl (by decide) rfl hl0 zf_X5_32 dX5_split_6 ?_
  refine lv_icmp_ge (pc := 9) (tgt := 142) hx hb dX5_split_9 (by decide) (fun _ => ?_) (fun c1 => absurd c1 (by decide))
  refine lv_aload_n (pc := 142) hx hb dX5_split_142 rfl (lv_at hl 2 rfl) ?_
  refine zgetR (pc := 143) (k := 57) (j := 10) (a := o + 61) zc5 hx hb hts hown hK hP rfl (by decide) rfl (hR 57 10 rfl) zf_X5_44 dX5_split_143 ?_
  refine lv_iload_n (pc := 146) hx hb dX5_split_146 rfl (lv_at hl 1 rfl) ?_
  refine lv_iconst (pc := 147) (v := 0) hx hb dX5_split_147 (by decide) ?_
  refine ziast (pc := 148) (k := 61) (n := 601) hx hb hK hP hS rfl (by decide) (vp_in_iff.mpr ⟨by decide, by decide⟩) dX5_split_148 (fun H locs hP hS => ?_)
  obtain ⟨σ2, eσ2⟩ : ∃ x : zS, x = zI σ 61 (upd (σ.1 61) 0 0) := ⟨_, rfl⟩
  have hP : zP D c o σ2 H := by rw [eσ2]; exact hP
  have hl0 : σ2.1 57 6 = 0 := zI_ne eσ2 (by decide) hl0
  have f61_0 : σ2.1 61 0 = 0 := zI_eq eσ2 pk_us
  have hR : zRef o σ2.2.2 := zI_ref eσ2 hR
  have hF : zFr [61, 63, 64] σ σ2 := zFr_I eσ2 hF (by decide)
  refine lv_aload_n (pc := 149) hx hb dX5_split_149 rfl (lv_at hl 2 rfl) ?_
  refine zgetR (pc := 150) (k := 57) (j := 12) (a := o + 63) zc5 hx hb hts hown hK hP rfl (by decide) rfl (hR 57 12 rfl) zf_X5_50 dX5_split_150 ?_
  refine lv_iload_n (pc := 153) hx hb dX5_split_153 rfl (lv_at hl 1 rfl) ?_
  refine lv_aload_n (pc := 154) hx hb dX5_split_154 rfl (lv_at hl 2 rfl) ?_
  refine zgetI (pc := 155) (k := 57) (j := 6) (v := 0) zc5 hx hb hts hown hK hP rfl (by decide) rfl hl0 zf_X5_32 dX5_split_155 ?_
  refine ziast (pc := 158) (k := 63) (n := 601) hx hb hK hP hS rfl (by decide) (vp_in_iff.mpr ⟨by decide, by decide⟩) dX5_split_158 (fun H locs hP hS => ?_)
  obtain ⟨σ3, eσ3⟩ : ∃ x : zS, x = zI σ2 63 (upd (σ2.1 63) 0 0) := ⟨_, rfl⟩
  have hP : zP D c o σ3 H := by rw [eσ3]; exact hP
  have hl0 : σ3.1 57 6 = 0 := zI_ne eσ3 (by decide) hl0
  have f61_0 : σ3.1 61 0 = 0 := zI_ne eσ3 (by decide) f61_0
  have f63_0 : σ3.1 63 0 = 0 := zI_eq eσ3 pk_us
  have hR : zRef o σ3.2.2 := zI_ref eσ3 hR
  have hF : zFr [61, 63, 64] σ σ3 := zFr_I eσ3 hF (by decide)
  refine lv_aload_n (pc := 159) hx hb dX5_split_159 rfl (lv_at hl 2 rfl) ?_
  refine zgetR (pc := 160) (k := 57) (j := 13) (a := o + 64) zc5 hx hb hts hown hK hP rfl (by decide) rfl (hR 57 13 rfl) zf_X5_53 dX5_split_160 ?_
  refine lv_iload_n (pc := 163) hx hb dX5_split_163 rfl (lv_at hl 1 rfl) ?_
  refine lv_aload_n (pc := 164) hx hb dX5_split_164 rfl (lv_at hl 2 rfl) ?_
  refine zgetI (pc := 165) (k := 57) (j := 6) (v := 0) zc5 hx hb hts hown hK hP rfl (by decide) rfl hl0 zf_X5_32 dX5_split_165 ?_
  refine ziast (pc := 168) (k := 64) (n := 601) hx hb hK hP hS rfl (by decide) (vp_in_iff.mpr ⟨by decide, by decide⟩) dX5_split_168 (fun H locs hP hS => ?_)
  obtain ⟨σ4, eσ4⟩ : ∃ x : zS, x = zI σ3 64 (upd (σ3.1 64) 0 0) := ⟨_, rfl⟩
  have hP : zP D c o σ4 H := by rw [eσ4]; exact hP
  have hl0 : σ4.1 57 6 = 0 := zI_ne eσ4 (by decide) hl0
  have f61_0 : σ4.1 61 0 = 0 := zI_ne eσ4 (by decide) f61_0
  have f63_0 : σ4.1 63 0 = 0 := zI_ne eσ4 (by decide) f63_0
  have f64_0 : σ4.1 64 0 = 0 := zI_eq eσ4 pk_us
  have hR : zRef o σ4.2.2 := zI_ref eσ4 hR
  have hF : zFr [61, 63, 64] σ σ4 := zFr_I eσ4 hF (by decide)
  exact zretv (pc := 169) hx hb hr hlocks hP hK hS ⟨hF, f61_0⟩ dX5_split_169

set_option maxHeartbeats 4000000 in
set_option maxRecDepth 100000 in
theorem em_X5_open (l : Launch) (D : va_G) (c : zC) (o : Nat) (σ : zS) (hR : zRef o σ.2.2) : Met l yX5_open zs_X5_open (zr 8) (va_Pc [.ref (o + 57), .ref (o + 1), .int 0] (zQ D c o σ)) (va_Qv (fun (σ1 : zS) => (∀ k j, (k, j) ≠ (57, 5) → σ1.2.2 k j = σ.2.2 k j) ∧ (∀ k, k ∉ [57, 61, 63, 64] → σ1.1 k = σ.1 k) ∧ zRef o σ1.2.2 ∧ σ1.1 57 0 = 0 ∧ σ1.1 57 1 = -1 ∧ σ1.1 57 2 = 0 ∧ σ1.1 57 9 = 0 ∧ σ1.1 61 0 = 0) (zQ D c o) (zA o)) 0 0 (zA o) := by
  refine zMet (by decide) (Nat.le_of_ble_eq_true rfl) ?_
  intro p e s m below meth cd ⟨hx, hb, hr, hml, hown, hts, hlocks⟩ hP hK ls hl
  have hS : va_S (zA o) s.heap s.heap [] := va_S.rf
  have hl : lv_has ls 3 [(0, .ref (o + 57)), (1, .ref (o + 1)), (2, .int 0)] := hl
  refine lv_aload_n (pc := 0) hx hb dX5_open_0 rfl (lv_at hl 0 rfl) ?_
  refine lv_aload_n (pc := 1) hx hb dX5_open_1 rfl (lv_at hl 1 rfl) ?_
  refine zputR (pc := 2) (k := 57) (j := 5) zc5 hx hb hts hown hK hP hS rfl (by decide) rfl rfl rfl rfl zf_X5_28 dX5_open_2 (fun H locs hP hS => ?_)
  obtain ⟨σ1, eσ1⟩ : ∃ x : zS, x = zR σ 57 (va_up (σ.2.2 57) 5 (o + 1)) := ⟨_, rfl⟩
  have hP : zP D c o σ1 H := by rw [eσ1]; exact hP
  have g57_5 : σ1.2.2 57 5 = o + 1 := zR_eq eσ1 (va_up_self _ _ _)
  have hR : zRef o σ1.2.2 := zR_ref eσ1 rfl hR
  have hO : (∀ k j, (k, j) ≠ (57, 5) → σ1.2.2 k j = σ.2.2 k j) ∧ (∀ k, k ∉ [57, 61, 63, 64] → σ1.1 k = σ.1 k) := zO_R eσ1
  refine lv_aload_n (pc := 5) hx hb dX5_open_5 rfl (lv_at hl 0 rfl) ?_
  refine lv_iconst (pc := 6) (v := 0) hx hb dX5_open_6 (by decide) ?_
  refine lv_iload_n (pc := 7) hx hb dX5_open_7 rfl (lv_at hl 2 rfl) ?_
  refine lv_aload_n (pc := 8) hx hb dX5_open_8 rfl (lv_at hl 1 rfl) ?_
  refine zlenB (pc := 9) (k := 1) (n := 600) (v := 600) hx hb hK hP rfl (by decide) (by decide) dX5_open_9 ?_
  refine lv_sipush (pc := 10) (v := 600) hx hb dX5_open_10 (by decide) ?_
  refine va_mmin (pc := 13) (rest := [.int 0, .int 0, .ref (o + 57)]) hx hb (hml.trans hl.1.symm) hown (hts _ zm_X5_80) (hts _ zst_J9_min_7cf53) (hts _ zn_J9) (hts _ (zq_J9_min_7cf53 _ List.mem_cons_self).1) (Nat.le_of_ble_eq_true rfl) (Nat.le_of_ble_eq_true rfl) (Nat.zero_le _) (Nat.zero_le _) dX5_open_13 ?_
  refine lv_topi (pc := 16) (fun v2 ev2 => ?_)
  obtain rfl : v2 = 600 := ev2.trans (by decide)
  refine va_mmin (pc := 16) (rest := [.int 0, .ref (o + 57)]) hx hb (hml.trans hl.1.symm) hown (hts _ zm_X5_80) (hts _ zst_J9_min_7cf53) (hts _ zn_J9) (hts _ (zq_J9_min_7cf53 _ List.mem_cons_self).1) (Nat.le_of_ble_eq_true rfl) (Nat.le_of_ble_eq_true rfl) (Nat.zero_le _) (Nat.zero_le _) dX5_open_16 ?_
  refine lv_topi (pc := 19) (fun v3 ev3 => ?_)
  obtain rfl : v3 = 0 := ev3.trans (by decide)
  refine va_mmax (pc := 19) (rest := [.ref (o + 57)]) hx hb (hml.trans hl.1.symm) hown (hts _ zm_X5_86) (hts _ zst_J9_max_7cf53) (hts _ zn_J9) (hts _ (zq_J9_max_7cf53 _ List.mem_cons_self).1) (Nat.le_of_ble_eq_true rfl) (Nat.le_of_ble_eq_true rfl) (Nat.zero_le _) (Nat.zero_le _) dX5_open_19 ?_
  refine lv_topi (pc := 22) (fun v4 ev4 => ?_)
  obtain rfl : v4 = 0 := ev4.trans (by decide)
  refine zputI (pc := 22) (k := 57) (j := 6) zc5 hx hb hts hown hK hP hS rfl (by decide) rfl rfl rfl zf_X5_32 dX5_open_22 (fun H locs hP hS => ?_)
  obtain ⟨σ5, eσ5⟩ : ∃ x : zS, x = zI σ1 57 (upd (σ1.1 57) 6 0) := ⟨_, rfl⟩
  have hP : zP D c o σ5 H := by rw [eσ5]; exact hP
  have f57_6 : σ5.1 57 6 = 0 := zI_eq eσ5 pk_us
  have g57_5 : σ5.2.2 57 5 = o + 1 := zI_r eσ5 g57_5
  have hR : zRef o σ5.2.2 := zI_ref eσ5 hR
  have hO : (∀ k j, (k, j) ≠ (57, 5) → σ5.2.2 k j = σ.2.2 k j) ∧ (∀ k, k ∉ [57, 61, 63, 64] → σ5.1 k = σ.1 k) := zO_I eσ5 hO (by decide)
  refine lv_aload_n (pc := 25) hx hb dX5_open_25 rfl (lv_at hl 0 rfl) ?_
  refine lv_iconst (pc := 26) (v := 0) hx hb dX5_open_26 (by decide) ?_
  refine zputI (pc := 27) (k := 57) (j := 0) zc5 hx hb hts hown hK hP hS rfl (by decide) rfl rfl rfl zf_X5_9 dX5_open_27 (fun H locs hP hS => ?_)
  obtain ⟨σ6, eσ6⟩ : ∃ x : zS, x = zI σ5 57 (upd (σ5.1 57) 0 0) := ⟨_, rfl⟩
  have hP : zP D c o σ6 H := by rw [eσ6]; exact hP
  have f57_6 : σ6.1 57 6 = 0 := zI_eq eσ6 ((pk_un (by decide)).trans f57_6)
  have f57_0 : σ6.1 57 0 = 0 := zI_eq eσ6 pk_us
  have g57_5 : σ6.2.2 57 5 = o + 1 := zI_r eσ6 g57_5
  have hR : zRef o σ6.2.2 := zI_ref eσ6 hR
  have hO : (∀ k j, (k, j) ≠ (57, 5) → σ6.2.2 k j = σ.2.2 k j) ∧ (∀ k, k ∉ [57, 61, 63, 64] → σ6.1 k = σ.1 k) := zO_I eσ6 hO (by decide)
  refine lv_aload_n (pc := 30) hx hb dX5_open_30 rfl (lv_at hl 0 rfl) ?_
  refine lv_iconst (pc := 31) (v := (-1)) hx hb dX5_open_31 (by decide) ?_
  refine zputI (pc := 32) (k := 57) (j := 1) zc5 hx hb hts hown hK hP hS rfl (by decide) rfl rfl rfl zf_X5_15 dX5_open_32 (fun H locs hP hS => ?_)
  obtain ⟨σ7, eσ7⟩ : ∃ x : zS, x = zI σ6 57 (upd (σ6.1 57) 1 (-1)) := ⟨_, rfl⟩
  have hP : zP D c o σ7 H := by rw [eσ7]; exact hP
  have f57_6 : σ7.1 57 6 = 0 := zI_eq eσ7 ((pk_un (by decide)).trans f57_6)
  have f57_0 : σ7.1 57 0 = 0 := zI_eq eσ7 ((pk_un (by decide)).trans f57_0)
  have f57_1 : σ7.1 57 1 = (-1) := zI_eq eσ7 pk_us
  have g57_5 : σ7.2.2 57 5 = o + 1 := zI_r eσ7 g57_5
  have hR : zRef o σ7.2.2 := zI_ref eσ7 hR
  have hO : (∀ k j, (k, j) ≠ (57, 5) → σ7.2.2 k j = σ.2.2 k j) ∧ (∀ k, k ∉ [57, 61, 63, 64] → σ7.1 k = σ.1 k) := zO_I eσ7 hO (by decide)
  refine lv_aload_n (pc := 35) hx hb dX5_open_35 rfl (lv_at hl 0 rfl) ?_
  refine lv_iconst (pc := 36) (v := 0) hx hb dX5_open_36 (by decide) ?_
  refine zputI (pc := 37) (k := 57) (j := 2) zc5 hx hb hts hown hK hP hS rfl (by decide) rfl rfl rfl zf_X5_18 dX5_open_37 (fun H locs hP hS => ?_)
  obtain ⟨σ8, eσ8⟩ : ∃ x : zS, x = zI σ7 57 (upd (σ7.1 57) 2 0) := ⟨_, rfl⟩
  have hP : zP D c o σ8 H := by rw [eσ8]; exact hP
  have f57_6 : σ8.1 57 6 = 0 := zI_eq eσ8 ((pk_un (by decide)).trans f57_6)
  have f57_0 : σ8.1 57 0 = 0 := zI_eq eσ8 ((pk_un (by decide)).trans f57_0)
  have f57_1 : σ8.1 57 1 = (-1) := zI_eq eσ8 ((pk_un (by decide)).trans f57_1)
  have f57_2 : σ8.1 57 2 = 0 := zI_eq eσ8 pk_us
  have g57_5 : σ8.2.2 57 5 = o + 1 := zI_r eσ8 g57_5
  have hR : zRef o σ8.2.2 := zI_ref eσ8 hR
  have hO : (∀ k j, (k, j) ≠ (57, 5) → σ8.2.2 k j = σ.2.2 k j) ∧ (∀ k, k ∉ [57, 61, 63, 64] → σ8.1 k = σ.1 k) := zO_I eσ8 hO (by decide)
  refine lv_aload_n (pc := 40) hx hb dX5_open_40 rfl (lv_at hl 0 rfl) ?_
  refine lv_iconst (pc := 41) (v := 0) hx hb dX5_open_41 (by decide) ?_
  refine zputI (pc := 42) (k := 57) (j := 7) zc5 hx hb hts hown hK hP hS rfl (by decide) rfl rfl rfl zf_X5_35 dX5_open_42 (fun H locs hP hS => ?_)
  obtain ⟨σ9, eσ9⟩ : ∃ x : zS, x = zI σ8 57 (upd (σ8.1 57) 7 0) := ⟨_, rfl⟩
  have hP : zP D c o σ9 H := by rw [eσ9]; exact hP
  have f57_6 : σ9.1 57 6 = 0 := zI_eq eσ9 ((pk_un (by decide)).trans f57_6)
  have f57_0 : σ9.1 57 0 = 0 := zI_eq eσ9 ((pk_un (by decide)).trans f57_0)
  have f57_1 : σ9.1 57 1 = (-1) := zI_eq eσ9 ((pk_un (by decide)).trans f57_1)
  have f57_2 : σ9.1 57 2 = 0 := zI_eq eσ9 ((pk_un (by decide)).trans f57_2)
  have f57_7 : σ9.1 57 7 = 0 := zI_eq eσ9 pk_us
  have g57_5 : σ9.2.2 57 5 = o + 1 := zI_r eσ9 g57_5
  have hR : zRef o σ9.2.2 := zI_ref eσ9 hR
  have hO : (∀ k j, (k, j) ≠ (57, 5) → σ9.2.2 k j = σ.2.2 k j) ∧ (∀ k, k ∉ [57, 61, 63, 64] → σ9.1 k = σ.1 k) := zO_I eσ9 hO (by decide)
  refine lv_aload_n (pc := 45) hx hb dX5_open_45 rfl (lv_at hl 0 rfl) ?_
  refine lv_iconst (pc := 46) (v := 0) hx hb dX5_open_46 (by decide) ?_
  refine zputI (pc := 47) (k := 57) (j := 8) zc5 hx hb hts hown hK hP hS rfl (by decide) rfl rfl rfl zf_X5_38 dX5_open_47 (fun H locs hP hS => ?_)
  obtain ⟨σ10, eσ10⟩ : ∃ x : zS, x = zI σ9 57 (upd (σ9.1 57) 8 0) := ⟨_, rfl⟩
  have hP : zP D c o σ10 H := by rw [eσ10]; exact hP
  have f57_6 : σ10.1 57 6 = 0 := zI_eq eσ10 ((pk_un (by decide)).trans f57_6)
  have f57_0 : σ10.1 57 0 = 0 := zI_eq eσ10 ((pk_un (by decide)).trans f57_0)
  have f57_1 : σ10.1 57 1 = (-1) := zI_eq eσ10 ((pk_un (by decide)).trans f57_1)
  have f57_2 : σ10.1 57 2 = 0 := zI_eq eσ10 ((pk_un (by decide)).trans f57_2)
  have f57_7 : σ10.1 57 7 = 0 := zI_eq eσ10 ((pk_un (by decide)).trans f57_7)
  have f57_8 : σ10.1 57 8 = 0 := zI_eq eσ10 pk_us
  have g57_5 : σ10.2.2 57 5 = o + 1 := zI_r eσ10 g57_5
  have hR : zRef o σ10.2.2 := zI_ref eσ10 hR
  have hO : (∀ k j, (k, j) ≠ (57, 5) → σ10.2.2 k j = σ.2.2 k j) ∧ (∀ k, k ∉ [57, 61, 63, 64] → σ10.1 k = σ.1 k) := zO_I eσ10 hO (by decide)
  refine lv_aload_n (pc := 50) hx hb dX5_open_50 rfl (lv_at hl 0 rfl) ?_
  refine lv_iconst (pc := 51) (v := 0) hx hb dX5_open_51 (by decide) ?_
  refine zputI (pc := 52) (k := 57) (j := 9) zc5 hx hb hts hown hK hP hS rfl (by decide) rfl rfl rfl zf_X5_41 dX5_open_52 (fun H locs hP hS => ?_)
  obtain ⟨σ11, eσ11⟩ : ∃ x : zS, x = zI σ10 57 (upd (σ10.1 57) 9 0) := ⟨_, rfl⟩
  have hP : zP D c o σ11 H := by rw [eσ11]; exact hP
  have f57_6 : σ11.1 57 6 = 0 := zI_eq eσ11 ((pk_un (by decide)).trans f57_6)
  have f57_0 : σ11.1 57 0 = 0 := zI_eq eσ11 ((pk_un (by decide)).trans f57_0)
  have f57_1 : σ11.1 57 1 = (-1) := zI_eq eσ11 ((pk_un (by decide)).trans f57_1)
  have f57_2 : σ11.1 57 2 = 0 := zI_eq eσ11 ((pk_un (by decide)).trans f57_2)
  have f57_7 : σ11.1 57 7 = 0 := zI_eq eσ11 ((pk_un (by decide)).trans f57_7)
  have f57_8 : σ11.1 57 8 = 0 := zI_eq eσ11 ((pk_un (by decide)).trans f57_8)
  have f57_9 : σ11.1 57 9 = 0 := zI_eq eσ11 pk_us
  have g57_5 : σ11.2.2 57 5 = o + 1 := zI_r eσ11 g57_5
  have hR : zRef o σ11.2.2 := zI_ref eσ11 hR
  have hO : (∀ k j, (k, j) ≠ (57, 5) → σ11.2.2 k j = σ.2.2 k j) ∧ (∀ k, k ∉ [57, 61, 63, 64] → σ11.1 k = σ.1 k) := zO_I eσ11 hO (by decide)
  refine lv_aload_n (pc := 55) hx hb dX5_open_55 rfl (lv_at hl 0 rfl) ?_
  refine zcallVv (pc := 56) (k := 57) (As := []) (rest := []) ⟨hx, hb, hml, hown, hts⟩ (em_X5_split l D c o σ11 hR f57_6) zc5 zV_X5_89 rfl zd_X5_split ⟨Nat.le_of_ble_eq_true rfl, Nat.le_of_ble_eq_true rfl⟩ hK hP hS rfl (by decide) hl.1 rfl (Nat.le_of_ble_eq_true rfl) ⟨Nat.zero_le _, Nat.zero_le _⟩ dX5_open_56 (fun σ13 H locs hw14 hP hS => ?_)
  obtain ⟨hw14, f61_0⟩ := hw14
  have f57_6 : σ13.1 57 6 = 0 := zFr_i hw14 (by decide) f57_6
  have f57_0 : σ13.1 57 0 = 0 := zFr_i hw14 (by decide) f57_0
  have f57_1 : σ13.1 57 1 = (-1) := zFr_i hw14 (by decide) f57_1
  have f57_2 : σ13.1 57 2 = 0 := zFr_i hw14 (by decide) f57_2
  have f57_7 : σ13.1 57 7 = 0 := zFr_i hw14 (by decide) f57_7
  have f57_8 : σ13.1 57 8 = 0 := zFr_i hw14 (by decide) f57_8
  have f57_9 : σ13.1 57 9 = 0 := zFr_i hw14 (by decide) f57_9
  have g57_5 : σ13.2.2 57 5 = o + 1 := zFr_r hw14 g57_5
  have hR : zRef o σ13.2.2 := zFr_ref hw14 hR
  have hO : (∀ k j, (k, j) ≠ (57, 5) → σ13.2.2 k j = σ.2.2 k j) ∧ (∀ k, k ∉ [57, 61, 63, 64] → σ13.1 k = σ.1 k) := zO_F hw14 hO (by decide)
  exact zretv (pc := 59) hx hb hr hlocks hP hK hS ⟨hO.1, hO.2, hR, f57_0, f57_1, f57_2, f57_9, f61_0⟩ dX5_open_59

set_option maxHeartbeats 4000000 in
set_option maxRecDepth 100000 in
theorem em_X5_readWorld (l : Launch) (D : va_G) (c : zC) (o : Nat) (σ : zS) (hR : zRef o σ.2.2) : Met l yX5_readWorld zs_X5_readWorld (zr 12) (va_Pc [.ref (o + 57), .ref (o + 1), .int 0, .ref (o + 28)] (zQ D c o σ)) (va_Qi (fun (r : Int32) (σ1 : zS) => r = 1 ∧ (∀ k j, (k, j) ≠ (57, 5) → σ1.2.2 k j = σ.2.2 k j) ∧ (∀ k, k ∉ [57, 61, 63, 64] → σ1.1 k = σ.1 k) ∧ zRef o σ1.2.2 ∧ σ1.1 57 0 = 0 ∧ σ1.1 57 1 = -1 ∧ σ1.1 57 2 = 0 ∧ σ1.1 57 9 = 0 ∧ σ1.1 61 0 = 0) (zQ D c o) (zA o)) 0 0 (zA o) := by
  refine zMet (by decide) (Nat.le_of_ble_eq_true rfl) ?_
  intro p e s m below meth cd ⟨hx, hb, hr, hml, hown, hts, hlocks⟩ hP hK ls hl
  have hS : va_S (zA o) s.heap s.heap [] := va_S.rf
  have hl : lv_has ls 5 [(0, .ref (o + 57)), (1, .ref (o + 1)), (2, .int 0), (3, .ref (o + 28))] := hl
  refine lv_aload_n (pc := 0) hx hb dX5_readWorld_0 rfl (lv_at hl 0 rfl) ?_
  refine lv_aload_n (pc := 1) hx hb dX5_readWorld_1 rfl (lv_at hl 1 rfl) ?_
  refine lv_iload_n (pc := 2) hx hb dX5_readWorld_2 rfl (lv_at hl 2 rfl) ?_
  refine zcallVv (pc := 3) (k := 57) (As := [.ref (o + 1), .int 0]) (rest := []) ⟨hx, hb, hml, hown, hts⟩ (em_X5_open l D c o σ hR) zc5 zV_X5_56 rfl zd_X5_open ⟨Nat.le_of_ble_eq_true rfl, Nat.le_of_ble_eq_true rfl⟩ hK hP hS rfl (by decide) hl.1 rfl (Nat.le_of_ble_eq_true rfl) ⟨Nat.zero_le _, Nat.zero_le _⟩ dX5_readWorld_3 (fun σ2 H locs hw3 hP hS => ?_)
  obtain ⟨hO1, hO2, hR, f57_0, f57_1, f57_2, f57_9, f61_0⟩ := hw3
  refine lv_iconst (pc := 6) (v := 0) hx hb dX5_readWorld_6 (by decide) ?_
  refine lv_istore (pc := 7) (lv' := [(4, .int 0), (0, .ref (o + 57)), (1, .ref (o + 1)), (2, .int 0), (3, .ref (o + 28))]) hx hb dX5_readWorld_7 hl (by decide) rfl (fun ls hl => ?_)
  refine lv_iload (pc := 9) hx hb dX5_readWorld_9 (lv_at hl 0 rfl) ?_
  refine lv_sipush (pc := 11) (v := 601) hx hb dX5_readWorld_11 (by decide) ?_
  refine lv_icmp_ge (pc := 14) (tgt := 55) hx hb dX5_readWorld_14 (by decide) (fun c4 => absurd c4 (by decide)) (fun _ => ?_)
  refine lv_aload_n (pc := 17) hx hb dX5_readWorld_17 rfl (lv_at hl 1 rfl) ?_
  refine zgetR (pc := 18) (k := 57) (j := 10) (a := o + 61) zc5 hx hb hts hown hK hP rfl (by decide) rfl (hR 57 10 rfl) zf_X5_44 dX5_readWorld_18 ?_
  refine lv_aload_n (pc := 21) hx hb dX5_readWorld_21 rfl (lv_at hl 1 rfl) ?_
  refine zgetI (pc := 22) (k := 57) (j := 9) (v := 0) zc5 hx hb hts hown hK hP rfl (by decide) rfl f57_9 zf_X5_41 dX5_readWorld_22 ?_
  refine ziald (pc := 25) (k := 61) (n := 601) hx hb hK hP rfl (by decide) (vp_in_iff.mpr ⟨by decide, by decide⟩) dX5_readWorld_25 ?_
  refine lv_topi (pc := 26) (fun v5 ev5 => ?_)
  obtain rfl : v5 = 0 := ev5.trans f61_0
  refine lv_if_eq (pc := 26) (tgt := 55) hx hb dX5_readWorld_26 (by decide) (fun _ => ?_) (fun c6 => absurd c6 (by decide))
  refine lv_iconst (pc := 55) (v := 1) hx hb dX5_readWorld_55 (by decide) ?_
  exact zretz (pc := 56) hx hb hr hlocks hP hK hS (by decide) ⟨rfl, hO1, hO2, hR, f57_0, f57_1, f57_2, f57_9, f61_0⟩ dX5_readWorld_56

set_option maxHeartbeats 4000000 in
set_option maxRecDepth 100000 in
theorem em_takeFault (l : Launch) (D : va_G) (c : zC) (o : Nat) (σ : zS) (hR : zRef o σ.2.2) : Met l yX11_takeFault zs_X11_takeFault (zr 5) (va_Pc [.ref (o + 0)] (zQ D c o σ)) (va_Qv (fun (σ1 : zS) => zFr [0] σ σ1) (zQ D c o) (zA o)) 0 0 (zA o) := by
  refine zMet (by decide) (Nat.le_of_ble_eq_true rfl) ?_
  intro p e s m below meth cd ⟨hx, hb, hr, hml, hown, hts, hlocks⟩ hP hK ls hl
  have hS : va_S (zA o) s.heap s.heap [] := va_S.rf
  have hl : lv_has ls 1 [(0, .ref (o + 0))] := hl
  have hF : zFr [0] σ σ := zFr_rf
  refine lv_aload_n (pc := 0) hx hb dX11_takeFault_0 rfl (lv_at hl 0 rfl) ?_
  refine lv_iconst (pc := 1) (v := 0) hx hb dX11_takeFault_1 (by decide) ?_
  refine zputI (pc := 2) (k := 0) (j := 1) zc11 hx hb hts hown hK hP hS rfl (by decide) rfl rfl rfl zf_X11_13 dX11_takeFault_2 (fun H locs hP hS => ?_)
  obtain ⟨σ1, eσ1⟩ : ∃ x : zS, x = zI σ 0 (upd (σ.1 0) 1 0) := ⟨_, rfl⟩
  have hP : zP D c o σ1 H := by rw [eσ1]; exact hP
  have f0_1 : σ1.1 0 1 = 0 := zI_eq eσ1 pk_us
  have hR : zRef o σ1.2.2 := zI_ref eσ1 hR
  have hF : zFr [0] σ σ1 := zFr_I eσ1 hF (by decide)
  refine lv_aload_n (pc := 5) hx hb dX11_takeFault_5 rfl (lv_at hl 0 rfl) ?_
  refine lv_aload_n (pc := 6) hx hb dX11_takeFault_6 rfl (lv_at hl 0 rfl) ?_
  refine zgetR (pc := 7) (k := 0) (j := 9) (a := o + 57) zc11 hx hb hts hown hK hP rfl (by decide) rfl (hR 0 9 rfl) zf_X11_50 dX11_takeFault_7 ?_
  refine zgetI (pc := 10) (k := 57) (j := 0) zc5 hx hb hts hown hK hP rfl (by decide) rfl rfl zf_X11_353 dX11_takeFault_10 ?_
  refine lv_topi (pc := 13) (fun v2 ev2 => ?_)
  refine zputI (pc := 13) (k := 0) (j := 2) zc11 hx hb hts hown hK hP hS rfl (by decide) rfl rfl rfl zf_X11_17 dX11_takeFault_13 (fun H locs hP hS => ?_)
  obtain ⟨σ3, eσ3⟩ : ∃ x : zS, x = zI σ1 0 (upd (σ1.1 0) 2 v2) := ⟨_, rfl⟩
  have hP : zP D c o σ3 H := by rw [eσ3]; exact hP
  have f0_1 : σ3.1 0 1 = 0 := zI_eq eσ3 ((pk_un (by decide)).trans f0_1)
  have f0_2 : σ3.1 0 2 = v2 := zI_eq eσ3 pk_us
  have hR : zRef o σ3.2.2 := zI_ref eσ3 hR
  have hF : zFr [0] σ σ3 := zFr_I eσ3 hF (by decide)
  refine lv_aload_n (pc := 16) hx hb dX11_takeFault_16 rfl (lv_at hl 0 rfl) ?_
  refine lv_aload_n (pc := 17) hx hb dX11_takeFault_17 rfl (lv_at hl 0 rfl) ?_
  refine zgetR (pc := 18) (k := 0) (j := 9) (a := o + 57) zc11 hx hb hts hown hK hP rfl (by decide) rfl (hR 0 9 rfl) zf_X11_50 dX11_takeFault_18 ?_
  refine zgetI (pc := 21) (k := 57) (j := 1) zc5 hx hb hts hown hK hP rfl (by decide) rfl rfl zf_X11_354 dX11_takeFault_21 ?_
  refine lv_topi (pc := 24) (fun v4 ev4 => ?_)
  refine zputI (pc := 24) (k := 0) (j := 3) zc11 hx hb hts hown hK hP hS rfl (by decide) rfl rfl rfl zf_X11_20 dX11_takeFault_24 (fun H locs hP hS => ?_)
  obtain ⟨σ5, eσ5⟩ : ∃ x : zS, x = zI σ3 0 (upd (σ3.1 0) 3 v4) := ⟨_, rfl⟩
  have hP : zP D c o σ5 H := by rw [eσ5]; exact hP
  have f0_1 : σ5.1 0 1 = 0 := zI_eq eσ5 ((pk_un (by decide)).trans f0_1)
  have f0_2 : σ5.1 0 2 = v2 := zI_eq eσ5 ((pk_un (by decide)).trans f0_2)
  have f0_3 : σ5.1 0 3 = v4 := zI_eq eσ5 pk_us
  have hR : zRef o σ5.2.2 := zI_ref eσ5 hR
  have hF : zFr [0] σ σ5 := zFr_I eσ5 hF (by decide)
  exact zretv (pc := 27) hx hb hr hlocks hP hK hS hF dX11_takeFault_27

set_option maxHeartbeats 4000000 in
set_option maxRecDepth 100000 in
theorem em_X7_run (l : Launch) (D : va_G) (c : zC) (o : Nat) (σ : zS) (hR : zRef o σ.2.2) (hs0 : σ.1 57 2 = 0) : Met l yX7_run zs_X7_run (zr 5) (va_Pc [.ref (o + 65), .ref (o + 57), .ref (o + 28), .ref (o + 99)] (zQ D c o σ)) (va_Qv (fun (σ1 : zS) => zFr [65] σ σ1) (zQ D c o) (zA o)) 0 0 (zA o) := by
  refine zMet (by decide) (Nat.le_of_ble_eq_true rfl) ?_
  intro p e s m below meth cd ⟨hx, hb, hr, hml, hown, hts, hlocks⟩ hP hK ls hl
  have hS : va_S (zA o) s.heap s.heap [] := va_S.rf
  have hl : lv_has ls 5 [(0, .ref (o + 65)), (1, .ref (o + 57)), (2, .ref (o + 28)), (3, .ref (o + 99))] := hl
  have hF : zFr [65] σ σ := zFr_rf
  refine lv_aload_n (pc := 0) hx hb dX7_run_0 rfl (lv_at hl 0 rfl) ?_
  refine lv_iconst (pc := 1) (v := 0) hx hb dX7_run_1 (by decide) ?_
  refine zputI (pc := 2) (k := 65) (j := 1) zc7 hx hb hts hown hK hP hS rfl (by decide) rfl rfl rfl zf_X7_17 dX7_run_2 (fun H locs hP hS => ?_)
  obtain ⟨σ1, eσ1⟩ : ∃ x : zS, x = zI σ 65 (upd (σ.1 65) 1 0) := ⟨_, rfl⟩
  have hP : zP D c o σ1 H := by rw [eσ1]; exact hP
  have hs0 : σ1.1 57 2 = 0 := zI_ne eσ1 (by decide) hs0
  have f65_1 : σ1.1 65 1 = 0 := zI_eq eσ1 pk_us
  have hR : zRef o σ1.2.2 := zI_ref eσ1 hR
  have hF : zFr [65] σ σ1 := zFr_I eσ1 hF (by decide)
  refine lv_iconst (pc := 5) (v := 0) hx hb dX7_run_5 (by decide) ?_
  refine lv_istore (pc := 6) (lv' := [(4, .int 0), (0, .ref (o + 65)), (1, .ref (o + 57)), (2, .ref (o + 28)), (3, .ref (o + 99))]) hx hb dX7_run_6 hl (by decide) rfl (fun ls hl => ?_)
  refine lv_iload (pc := 8) hx hb dX7_run_8 (lv_at hl 0 rfl) ?_
  refine lv_aload_n (pc := 10) hx hb dX7_run_10 rfl (lv_at hl 2 rfl) ?_
  refine zgetI (pc := 11) (k := 57) (j := 2) (v := 0) zc5 hx hb hts hown hK hP rfl (by decide) rfl hs0 zf_X7_22 dX7_run_11 ?_
  refine lv_icmp_ge (pc := 14) (tgt := 53) hx hb dX7_run_14 (by decide) (fun _ => ?_) (fun c2 => absurd c2 (by decide))
  exact zretv (pc := 53) hx hb hr hlocks hP hK hS hF dX7_run_53

set_option maxHeartbeats 4000000 in
set_option maxRecDepth 100000 in
theorem fr_X11_world (l : Launch) (D : va_G) (c : zC) (o : Nat) (σ : zS) (hR : zRef o σ.2.2) (hN : σ.2.2 0 4 = o + 2) (hSp : σ.2.2 0 5 = o + 28) (ht : σ.1 0 1 = 0) : Met l yX11_world zs_X11_world (zr 16) (va_Pc [.ref (o + 0)] (zQ D c o σ)) (va_Qi (fun (r : Int32) (σ1 : zS) => r = 0 ∧ zMd o σ σ1) (zQ D c o) (zA o)) 0 0 (zA o) := by
  refine zMet (by decide) (Nat.le_of_ble_eq_true rfl) ?_
  intro p e s m below meth cd ⟨hx, hb, hr, hml, hown, hts, hlocks⟩ hP hK ls hl
  have hS : va_S (zA o) s.heap s.heap [] := va_S.rf
  have hl : lv_has ls 3 [(0, .ref (o + 0))] := hl
  have hH : ∀ a, 218 ≤ a → σ.1 a = σ.1 a := fun _ _ => rfl
  refine lv_aload_n (pc := 0) hx hb dX11_world_0 rfl (lv_at hl 0 rfl) ?_
  refine zgetR (pc := 1) (k := 0) (j := 5) (a := o + 28) zc11 hx hb hts hown hK hP rfl (by decide) rfl hSp zf_X11_30 dX11_world_1 ?_
  refine zcallVv (pc := 4) (k := 28) (As := []) (rest := []) ⟨hx, hb, hml, hown, hts⟩ (cs_X10_clear28 l D c o σ hR) zc10 zV_X11_118 rfl zd_X10_clear ⟨Nat.le_of_ble_eq_true rfl, Nat.le_of_ble_eq_true rfl⟩ hK hP hS rfl (by decide) hl.1 rfl (Nat.le_of_ble_eq_true rfl) ⟨Nat.zero_le _, Nat.zero_le _⟩ dX11_world_4 (fun σ2 H locs hw3 hP hS => ?_)
  obtain ⟨hw3, f28_0, f28_1, f28_2⟩ := hw3
  have ht : σ2.1 0 1 = 0 := zFr_i hw3 (by decide) ht
  have hN : σ2.2.2 0 4 = o + 2 := zFr_r hw3 hN
  have hSp : σ2.2.2 0 5 = o + 28 := zFr_r hw3 hSp
  have hR : zRef o σ2.2.2 := zFr_ref hw3 hR
  have hH : ∀ a, 218 ≤ a → σ2.1 a = σ.1 a := zFr_hi hw3 (by decide) hH
  refine lv_aload_n (pc := 7) hx hb dX11_world_7 rfl (lv_at hl 0 rfl) ?_
  refine zgetR (pc := 8) (k := 0) (j := 9) (a := o + 57) zc11 hx hb hts hown hK hP rfl (by decide) rfl (hR 0 9 rfl) zf_X11_50 dX11_world_8 ?_
  refine lv_aload_n (pc := 11) hx hb dX11_world_11 rfl (lv_at hl 0 rfl) ?_
  refine zgetR (pc := 12) (k := 0) (j := 0) (a := o + 1) zc11 hx hb hts hown hK hP rfl (by decide) rfl (hR 0 0 rfl) zf_X11_9 dX11_world_12 ?_
  refine lv_aload_n (pc := 15) hx hb dX11_world_15 rfl (lv_at hl 0 rfl) ?_
  refine zgetI (pc := 16) (k := 0) (j := 1) (v := 0) zc11 hx hb hts hown hK hP rfl (by decide) rfl ht zf_X11_13 dX11_world_16 ?_
  refine lv_aload_n (pc := 19) hx hb dX11_world_19 rfl (lv_at hl 0 rfl) ?_
  refine zgetR (pc := 20) (k := 0) (j := 5) (a := o + 28) zc11 hx hb hts hown hK hP rfl (by decide) rfl hSp zf_X11_30 dX11_world_20 ?_
  refine zcallVi (pc := 23) (k := 57) (As := [.ref (o + 1), .int 0, .ref (o + 28)]) (rest := []) ⟨hx, hb, hml, hown, hts⟩ (em_X5_readWorld l D c o σ2 hR) zc5 zV_X11_121 rfl zd_X5_readWorld ⟨Nat.le_of_ble_eq_true rfl, Nat.le_of_ble_eq_true rfl⟩ hK hP hS rfl (by decide) hl.1 rfl (Nat.le_of_ble_eq_true rfl) ⟨Nat.zero_le _, Nat.zero_le _⟩ dX11_world_23 (fun r4 σ5 H locs hw6 hP hS => ?_)
  obtain ⟨rfl, hw6⟩ := hw6
  obtain ⟨hO1, hO2, hR, f57_0, f57_1, f57_2, f57_9, f61_0⟩ := hw6
  have ht : σ5.1 0 1 = 0 := (congrFun (hO2 0 (by decide)) 1).trans ht
  have f28_0 : σ5.1 28 0 = 0 := (congrFun (hO2 28 (by decide)) 0).trans f28_0
  have f28_1 : σ5.1 28 1 = 0 := (congrFun (hO2 28 (by decide)) 1).trans f28_1
  have f28_2 : σ5.1 28 2 = 0 := (congrFun (hO2 28 (by decide)) 2).trans f28_2
  have hH : ∀ a, 218 ≤ a → σ5.1 a = σ.1 a := zO_hi hO2 (by decide) hH
  have hN : σ5.2.2 0 4 = o + 2 := (hO1 0 4 (by decide)).trans hN
  have hSp : σ5.2.2 0 5 = o + 28 := (hO1 0 5 (by decide)).trans hSp
  refine lv_istore_n (pc := 26) (lv' := [(1, .int 1), (0, .ref (o + 0))]) hx hb dX11_world_26 rfl hl (by decide) rfl (fun ls hl => ?_)
  refine lv_aload_n (pc := 27) hx hb dX11_world_27 rfl (lv_at hl 1 rfl) ?_
  refine zcallVv (pc := 28) (k := 0) (As := []) (rest := []) ⟨hx, hb, hml, hown, hts⟩ (em_takeFault l D c o σ5 hR) zc11 zV_X11_125 rfl zd_X11_takeFault ⟨Nat.le_of_ble_eq_true rfl, Nat.le_of_ble_eq_true rfl⟩ hK hP hS rfl (by decide) hl.1 rfl (Nat.le_of_ble_eq_true rfl) ⟨Nat.zero_le _, Nat.zero_le _⟩ dX11_world_28 (fun σ8 H locs hw9 hP hS => ?_)
  have f28_0 : σ8.1 28 0 = 0 := zFr_i hw9 (by decide) f28_0
  have f28_1 : σ8.1 28 1 = 0 := zFr_i hw9 (by decide) f28_1
  have f28_2 : σ8.1 28 2 = 0 := zFr_i hw9 (by decide) f28_2
  have f57_0 : σ8.1 57 0 = 0 := zFr_i hw9 (by decide) f57_0
  have f57_1 : σ8.1 57 1 = (-1) := zFr_i hw9 (by decide) f57_1
  have f57_2 : σ8.1 57 2 = 0 := zFr_i hw9 (by decide) f57_2
  have f57_9 : σ8.1 57 9 = 0 := zFr_i hw9 (by decide) f57_9
  have f61_0 : σ8.1 61 0 = 0 := zFr_i hw9 (by decide) f61_0
  have hN : σ8.2.2 0 4 = o + 2 := zFr_r hw9 hN
  have hSp : σ8.2.2 0 5 = o + 28 := zFr_r hw9 hSp
  have hR : zRef o σ8.2.2 := zFr_ref hw9 hR
  have hH : ∀ a, 218 ≤ a → σ8.1 a = σ.1 a := zFr_hi hw9 (by decide) hH
  refine lv_iload_n (pc := 31) hx hb dX11_world_31 rfl (lv_at hl 0 rfl) ?_
  refine lv_if_ne (pc := 32) (tgt := 38) hx hb dX11_world_32 (by decide) (fun _ => ?_) (fun c10 => absurd c10 (by decide))
  refine lv_aload_n (pc := 38) hx hb dX11_world_38 rfl (lv_at hl 1 rfl) ?_
  refine zgetR (pc := 39) (k := 0) (j := 10) (a := o + 65) zc11 hx hb hts hown hK hP rfl (by decide) rfl (hR 0 10 rfl) zf_X11_57 dX11_world_39 ?_
  refine lv_aload_n (pc := 42) hx hb dX11_world_42 rfl (lv_at hl 1 rfl) ?_
  refine zgetR (pc := 43) (k := 0) (j := 9) (a := o + 57) zc11 hx hb hts hown hK hP rfl (by decide) rfl (hR 0 9 rfl) zf_X11_50 dX11_world_43 ?_
  refine lv_aload_n (pc := 46) hx hb dX11_world_46 rfl (lv_at hl 1 rfl) ?_
  refine zgetR (pc := 47) (k := 0) (j := 5) (a := o + 28) zc11 hx hb hts hown hK hP rfl (by decide) rfl hSp zf_X11_30 dX11_world_47 ?_
  refine lv_aload_n (pc := 50) hx hb dX11_world_50 rfl (lv_at hl 1 rfl) ?_
  refine zgetR (pc := 51) (k := 0) (j := 11) (a := o + 99) zc11 hx hb hts hown hK hP rfl (by decide) rfl (hR 0 11 rfl) zf_X11_64 dX11_world_51 ?_
  refine zcallVv (pc := 54) (k := 65) (As := [.ref (o + 57), .ref (o + 28), .ref (o + 99)]) (rest := []) ⟨hx, hb, hml, hown, hts⟩ (em_X7_run l D c o σ8 hR f57_2) zc7 zV_X11_128 rfl zd_X7_run ⟨Nat.le_of_ble_eq_true rfl, Nat.le_of_ble_eq_true rfl⟩ hK hP hS rfl (by decide) hl.1 rfl (Nat.le_of_ble_eq_true rfl) ⟨Nat.zero_le _, Nat.zero_le _⟩ dX11_world_54 (fun σ12 H locs hw13 hP hS => ?_)
  have f28_0 : σ12.1 28 0 = 0 := zFr_i hw13 (by decide) f28_0
  have f28_1 : σ12.1 28 1 = 0 := zFr_i hw13 (by decide) f28_1
  have f28_2 : σ12.1 28 2 = 0 := zFr_i hw13 (by decide) f28_2
  have f57_0 : σ12.1 57 0 = 0 := zFr_i hw13 (by decide) f57_0
  have f57_1 : σ12.1 57 1 = (-1) := zFr_i hw13 (by decide) f57_1
  have f57_2 : σ12.1 57 2 = 0 := zFr_i hw13 (by decide) f57_2
  have f57_9 : σ12.1 57 9 = 0 := zFr_i hw13 (by decide) f57_9
  have f61_0 : σ12.1 61 0 = 0 := zFr_i hw13 (by decide) f61_0
  have hN : σ12.2.2 0 4 = o + 2 := zFr_r hw13 hN
  have hSp : σ12.2.2 0 5 = o + 28 := zFr_r hw13 hSp
  have hR : zRef o σ12.2.2 := zFr_ref hw13 hR
  have hH : ∀ a, 218 ≤ a → σ12.1 a = σ.1 a := zFr_hi hw13 (by decide) hH
  refine lv_aload_n (pc := 57) hx hb dX11_world_57 rfl (lv_at hl 1 rfl) ?_
  refine zgetR (pc := 58) (k := 0) (j := 4) (a := o + 2) zc11 hx hb hts hown hK hP rfl (by decide) rfl hN zf_X11_26 dX11_world_58 ?_
  refine lv_astore_n (pc := 61) (lv' := [(2, .ref (o + 2)), (1, .int 1), (0, .ref (o + 0))]) hx hb dX11_world_61 rfl hl (by decide) rfl (fun ls hl => ?_)
  refine lv_aload_n (pc := 62) hx hb dX11_world_62 rfl (lv_at hl 2 rfl) ?_
  refine lv_aload_n (pc := 63) hx hb dX11_world_63 rfl (lv_at hl 2 rfl) ?_
  refine zgetR (pc := 64) (k := 0) (j := 5) (a := o + 28) zc11 hx hb hts hown hK hP rfl (by decide) rfl hSp zf_X11_30 dX11_world_64 ?_
  refine zputR (pc := 67) (k := 0) (j := 4) zc11 hx hb hts hown hK hP hS rfl (by decide) rfl rfl rfl rfl zf_X11_26 dX11_world_67 (fun H locs hP hS => ?_)
  obtain ⟨σ14, eσ14⟩ : ∃ x : zS, x = zR σ12 0 (va_up (σ12.2.2 0) 4 (o + 28)) := ⟨_, rfl⟩
  have hP : zP D c o σ14 H := by rw [eσ14]; exact hP
  have f28_0 : σ14.1 28 0 = 0 := zR_i eσ14 f28_0
  have f28_1 : σ14.1 28 1 = 0 := zR_i eσ14 f28_1
  have f28_2 : σ14.1 28 2 = 0 := zR_i eσ14 f28_2
  have f57_0 : σ14.1 57 0 = 0 := zR_i eσ14 f57_0
  have f57_1 : σ14.1 57 1 = (-1) := zR_i eσ14 f57_1
  have f57_2 : σ14.1 57 2 = 0 := zR_i eσ14 f57_2
  have f57_9 : σ14.1 57 9 = 0 := zR_i eσ14 f57_9
  have f61_0 : σ14.1 61 0 = 0 := zR_i eσ14 f61_0
  have hSp : σ14.2.2 0 5 = o + 28 := zR_eq eσ14 ((va_up_ne _ _ (by decide)).trans hSp)
  have g0_4 : σ14.2.2 0 4 = o + 28 := zR_eq eσ14 (va_up_self _ _ _)
  have hR : zRef o σ14.2.2 := zR_ref eσ14 rfl hR
  have hH : ∀ a, 218 ≤ a → σ14.1 a = σ.1 a := zR_hi eσ14 hH
  refine lv_aload_n (pc := 70) hx hb dX11_world_70 rfl (lv_at hl 2 rfl) ?_
  refine lv_aload_n (pc := 71) hx hb dX11_world_71 rfl (lv_at hl 0 rfl) ?_
  refine zputR (pc := 72) (k := 0) (j := 5) zc11 hx hb hts hown hK hP hS rfl (by decide) rfl rfl rfl rfl zf_X11_30 dX11_world_72 (fun H locs hP hS => ?_)
  obtain ⟨σ15, eσ15⟩ : ∃ x : zS, x = zR σ14 0 (va_up (σ14.2.2 0) 5 (o + 2)) := ⟨_, rfl⟩
  have hP : zP D c o σ15 H := by rw [eσ15]; exact hP
  have f28_0 : σ15.1 28 0 = 0 := zR_i eσ15 f28_0
  have f28_1 : σ15.1 28 1 = 0 := zR_i eσ15 f28_1
  have f28_2 : σ15.1 28 2 = 0 := zR_i eσ15 f28_2
  have f57_0 : σ15.1 57 0 = 0 := zR_i eσ15 f57_0
  have f57_1 : σ15.1 57 1 = (-1) := zR_i eσ15 f57_1
  have f57_2 : σ15.1 57 2 = 0 := zR_i eσ15 f57_2
  have f57_9 : σ15.1 57 9 = 0 := zR_i eσ15 f57_9
  have f61_0 : σ15.1 61 0 = 0 := zR_i eσ15 f61_0
  have g0_4 : σ15.2.2 0 4 = o + 28 := zR_eq eσ15 ((va_up_ne _ _ (by decide)).trans g0_4)
  have g0_5 : σ15.2.2 0 5 = o + 2 := zR_eq eσ15 (va_up_self _ _ _)
  have hR : zRef o σ15.2.2 := zR_ref eσ15 rfl hR
  have hH : ∀ a, 218 ≤ a → σ15.1 a = σ.1 a := zR_hi eσ15 hH
  refine lv_aload_n (pc := 75) hx hb dX11_world_75 rfl (lv_at hl 2 rfl) ?_
  refine zgetR (pc := 76) (k := 0) (j := 4) (a := o + 28) zc11 hx hb hts hown hK hP rfl (by decide) rfl g0_4 zf_X11_26 dX11_world_76 ?_
  refine zgetI (pc := 79) (k := 28) (j := 1) (v := 0) zc10 hx hb hts hown hK hP rfl (by decide) rfl f28_1 zf_X11_132 dX11_world_79 ?_
  exact zreti (pc := 82) hx hb hr hlocks hP hK hS ⟨rfl, hR, hH⟩ dX11_world_82

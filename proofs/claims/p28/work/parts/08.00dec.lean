def J_J6_numberOfTrailingZeros_0f7a4_62 (N : Nat) (x0 : Int32) (x1 : Int32) (σ : zS) : Option (Int32 × zS) :=
  if x0 ≤ 4 then
    (some (x1 + (zus x0 1), σ))
  else
    (some ((x1 + 2) + (zus (zus x0 2) 1), σ))
def J_J6_numberOfTrailingZeros_0f7a4_49 (N : Nat) (x0 : Int32) (x1 : Int32) (σ : zS) : Option (Int32 × zS) :=
  if x0 ≤ 16 then
    (J_J6_numberOfTrailingZeros_0f7a4_62 N x0 x1 σ)
  else
    (J_J6_numberOfTrailingZeros_0f7a4_62 N (zus x0 4) (x1 + 4) σ)
def J_J6_numberOfTrailingZeros_0f7a4_34 (N : Nat) (x0 : Int32) (x1 : Int32) (σ : zS) : Option (Int32 × zS) :=
  if x0 ≤ 256 then
    (J_J6_numberOfTrailingZeros_0f7a4_49 N x0 x1 σ)
  else
    (J_J6_numberOfTrailingZeros_0f7a4_49 N (zus x0 8) (x1 + 8) σ)
def f_J6_numberOfTrailingZeros_0f7a4 (N : Nat) (x0 : Int32) (σ : zS) : Option (Int32 × zS) :=
  if 0 < ((x0 ^^^ (-1)) &&& (x0 - 1)) then
    (if ((x0 ^^^ (-1)) &&& (x0 - 1)) ≤ 65536 then
      (J_J6_numberOfTrailingZeros_0f7a4_34 N ((x0 ^^^ (-1)) &&& (x0 - 1)) 1 σ)
    else
      (J_J6_numberOfTrailingZeros_0f7a4_34 N (zus ((x0 ^^^ (-1)) &&& (x0 - 1)) 16) (1 + 16) σ))
  else
    (some (((x0 ^^^ (-1)) &&& (x0 - 1)) &&& 32, σ))
set_option maxHeartbeats 4000000 in
set_option maxRecDepth 100000 in
theorem c_J6_numberOfTrailingZeros_0f7a4 (l : Launch) (D : va_G) (c : zC) (o : Nat) (g : zEp) (N : Nat) {x0 : Int32} {σ : zS} {ρ : Int32 × zS} (h : f_J6_numberOfTrailingZeros_0f7a4 N x0 σ = some ρ) : Met l yJ6_numberOfTrailingZeros_0f7a4 zs_J6_numberOfTrailingZeros_0f7a4 (zr 2) (va_Pc [.int x0] (zG D c o g σ)) (zQi D c o g ρ) 0 0 (zA o) := by
  refine zMetG (by decide) (Nat.le_of_ble_eq_true rfl) ?_
  intro p e s m below meth cd ⟨hx, hb, hr, hml, hown, hts, hlocks⟩ hP hK hE ls hl
  have hS : va_S (zA o) s.heap s.heap [] := va_S.rf
  have hl : lv_has ls 2 [(0, .int x0)] := hl
  rw [f_J6_numberOfTrailingZeros_0f7a4.eq_1] at h
  refine lv_iload_n (pc := 0) hx hb dJ6_numberOfTrailingZeros_0f7a4_0 rfl (lv_at hl 0 rfl) ?_
  refine lv_iconst (pc := 1) (v := (-1)) hx hb dJ6_numberOfTrailingZeros_0f7a4_1 (by decide) ?_
  refine lv_ixor (pc := 2) hx hb dJ6_numberOfTrailingZeros_0f7a4_2 ?_
  refine lv_iload_n (pc := 3) hx hb dJ6_numberOfTrailingZeros_0f7a4_3 rfl (lv_at hl 0 rfl) ?_
  refine lv_iconst (pc := 4) (v := 1) hx hb dJ6_numberOfTrailingZeros_0f7a4_4 (by decide) ?_
  refine lv_isub (pc := 5) hx hb dJ6_numberOfTrailingZeros_0f7a4_5 ?_
  refine lv_iand (pc := 6) hx hb dJ6_numberOfTrailingZeros_0f7a4_6 ?_
  refine lv_istore_n (pc := 7) (lv' := [(0, .int ((x0 ^^^ (-1)) &&& (x0 - 1)))]) hx hb dJ6_numberOfTrailingZeros_0f7a4_7 rfl hl (by decide) rfl (fun ls hl => ?_)
  refine lv_iload_n (pc := 8) hx hb dJ6_numberOfTrailingZeros_0f7a4_8 rfl (lv_at hl 0 rfl) ?_
  refine lv_if_gt (pc := 9) (tgt := 17) hx hb dJ6_numberOfTrailingZeros_0f7a4_9 (by decide) (fun c1 => ?_) (fun c1 => ?_)
  · rw [if_pos c1] at h
    refine lv_iconst (pc := 17) (v := 1) hx hb dJ6_numberOfTrailingZeros_0f7a4_17 (by decide) ?_
    refine lv_istore_n (pc := 18) (lv' := [(1, .int 1), (0, .int ((x0 ^^^ (-1)) &&& (x0 - 1)))]) hx hb dJ6_numberOfTrailingZeros_0f7a4_18 rfl hl (by decide) rfl (fun ls hl => ?_)
    refine lv_iload_n (pc := 19) hx hb dJ6_numberOfTrailingZeros_0f7a4_19 rfl (lv_at hl 1 rfl) ?_
    refine lv_ldcw (pc := 20) hx hb hown (hts _ zk_J6_264) dJ6_numberOfTrailingZeros_0f7a4_20 ?_
    have hj34_1 : ∀ (x0_1 : Int32) (x1_1 : Int32) (σ1 : zS), J_J6_numberOfTrailingZeros_0f7a4_34 N x0_1 x1_1 σ1 = some ρ → ∀ (H : Heap) (locs : List Loc) (ls : Array Slot), zP D c o (zabs o σ1) H → va_S (zA o) s.heap H locs → lv_has ls 2 [(0, .int x0_1), (1, .int x1_1)] → W p l e (zr 2) s m (([.int x0] : List Value).toArray) below meth cd H locs 0 0 (MQ below (zQi D c o g ρ) (([.int x0] : List Value).toArray) s 0 0 (zA o)) (F0 m 34 ls []) := by
      intro x0_1 x1_1 σ1 h H locs ls hP hS hl
      rw [J_J6_numberOfTrailingZeros_0f7a4_34.eq_1] at h
      refine lv_iload_n (pc := 34) hx hb dJ6_numberOfTrailingZeros_0f7a4_34 rfl (lv_at hl 0 rfl) ?_
      refine lv_sipush (pc := 35) (v := 256) hx hb dJ6_numberOfTrailingZeros_0f7a4_35 (by decide) ?_
      have hj49_2 : ∀ (x0_2 : Int32) (x1_2 : Int32) (σ2 : zS), J_J6_numberOfTrailingZeros_0f7a4_49 N x0_2 x1_2 σ2 = some ρ → ∀ (H : Heap) (locs : List Loc) (ls : Array Slot), zP D c o (zabs o σ2) H → va_S (zA o) s.heap H locs → lv_has ls 2 [(0, .int x0_2), (1, .int x1_2)] → W p l e (zr 2) s m (([.int x0] : List Value).toArray) below meth cd H locs 0 0 (MQ below (zQi D c o g ρ) (([.int x0] : List Value).toArray) s 0 0 (zA o)) (F0 m 49 ls []) := by
        intro x0_2 x1_2 σ2 h H locs ls hP hS hl
        rw [J_J6_numberOfTrailingZeros_0f7a4_49.eq_1] at h
        refine lv_iload_n (pc := 49) hx hb dJ6_numberOfTrailingZeros_0f7a4_49 rfl (lv_at hl 0 rfl) ?_
        refine lv_bipush (pc := 50) (v := 16) hx hb dJ6_numberOfTrailingZeros_0f7a4_50 (by decide) ?_
        have hj62_3 : ∀ (x0_3 : Int32) (x1_3 : Int32) (σ3 : zS), J_J6_numberOfTrailingZeros_0f7a4_62 N x0_3 x1_3 σ3 = some ρ → ∀ (H : Heap) (locs : List Loc) (ls : Array Slot), zP D c o (zabs o σ3) H → va_S (zA o) s.heap H locs → lv_has ls 2 [(0, .int x0_3), (1, .int x1_3)] → W p l e (zr 2) s m (([.int x0] : List Value).toArray) below meth cd H locs 0 0 (MQ below (zQi D c o g ρ) (([.int x0] : List Value).toArray) s 0 0 (zA o)) (F0 m 62 ls []) := by
          intro x0_3 x1_3 σ3 h H locs ls hP hS hl
          rw [J_J6_numberOfTrailingZeros_0f7a4_62.eq_1] at h
          refine lv_iload_n (pc := 62) hx hb dJ6_numberOfTrailingZeros_0f7a4_62 rfl (lv_at hl 0 rfl) ?_
          refine lv_iconst (pc := 63) (v := 4) hx hb dJ6_numberOfTrailingZeros_0f7a4_63 (by decide) ?_
          refine lv_icmp_le (pc := 64) (tgt := 74) hx hb dJ6_numberOfTrailingZeros_0f7a4_64 (by decide) (fun c1 => ?_) (fun c1 => ?_)
          · rw [if_pos c1] at h
            refine lv_iload_n (pc := 74) hx hb dJ6_numberOfTrailingZeros_0f7a4_74 rfl (lv_at hl 1 rfl) ?_
            refine lv_iload_n (pc := 75) hx hb dJ6_numberOfTrailingZeros_0f7a4_75 rfl (lv_at hl 0 rfl) ?_
            refine lv_iconst (pc := 76) (v := 1) hx hb dJ6_numberOfTrailingZeros_0f7a4_76 (by decide) ?_
            refine lv_iushr (pc := 77) (v := zus x0_3 1) hx hb dJ6_numberOfTrailingZeros_0f7a4_77 rfl ?_
            refine lv_iadd (pc := 78) hx hb dJ6_numberOfTrailingZeros_0f7a4_78 ?_
            exact xreti (pc := 79) hx hb hr hlocks hP hK hE hS h dJ6_numberOfTrailingZeros_0f7a4_79
          · rw [if_neg c1] at h
            refine lv_iinc (pc := 67) (v := x1_3 + 2) (lv' := [(1, .int (x1_3 + 2)), (0, .int x0_3)]) hx hb dJ6_numberOfTrailingZeros_0f7a4_67 hl (k := 1) rfl rfl (by decide) rfl (fun ls hl => ?_)
            refine lv_iload_n (pc := 70) hx hb dJ6_numberOfTrailingZeros_0f7a4_70 rfl (lv_at hl 1 rfl) ?_
            refine lv_iconst (pc := 71) (v := 2) hx hb dJ6_numberOfTrailingZeros_0f7a4_71 (by decide) ?_
            refine lv_iushr (pc := 72) (v := zus x0_3 2) hx hb dJ6_numberOfTrailingZeros_0f7a4_72 rfl ?_
            refine lv_istore_n (pc := 73) (lv' := [(0, .int (zus x0_3 2)), (1, .int (x1_3 + 2))]) hx hb dJ6_numberOfTrailingZeros_0f7a4_73 rfl hl (by decide) rfl (fun ls hl => ?_)
            refine lv_iload_n (pc := 74) hx hb dJ6_numberOfTrailingZeros_0f7a4_74 rfl (lv_at hl 1 rfl) ?_
            refine lv_iload_n (pc := 75) hx hb dJ6_numberOfTrailingZeros_0f7a4_75 rfl (lv_at hl 0 rfl) ?_
            refine lv_iconst (pc := 76) (v := 1) hx hb dJ6_numberOfTrailingZeros_0f7a4_76 (by decide) ?_
            refine lv_iushr (pc := 77) (v := zus (zus x0_3 2) 1) hx hb dJ6_numberOfTrailingZeros_0f7a4_77 rfl ?_
            refine lv_iadd (pc := 78) hx hb dJ6_numberOfTrailingZeros_0f7a4_78 ?_
            exact xreti (pc := 79) hx hb hr hlocks hP hK hE hS h dJ6_numberOfTrailingZeros_0f7a4_79
        refine lv_icmp_le (pc := 52) (tgt := 62) hx hb dJ6_numberOfTrailingZeros_0f7a4_52 (by decide) (fun c1 => ?_) (fun c1 => ?_)
        · rw [if_pos c1] at h
          exact hj62_3 (x0_2) (x1_2) σ2 h _ _ ls hP hS (lv_sub hl [0, 1] rfl)
        · rw [if_neg c1] at h
          refine lv_iinc (pc := 55) (v := x1_2 + 4) (lv' := [(1, .int (x1_2 + 4)), (0, .int x0_2)]) hx hb dJ6_numberOfTrailingZeros_0f7a4_55 hl (k := 1) rfl rfl (by decide) rfl (fun ls hl => ?_)
          refine lv_iload_n (pc := 58) hx hb dJ6_numberOfTrailingZeros_0f7a4_58 rfl (lv_at hl 1 rfl) ?_
          refine lv_iconst (pc := 59) (v := 4) hx hb dJ6_numberOfTrailingZeros_0f7a4_59 (by decide) ?_
          refine lv_iushr (pc := 60) (v := zus x0_2 4) hx hb dJ6_numberOfTrailingZeros_0f7a4_60 rfl ?_
          refine lv_istore_n (pc := 61) (lv' := [(0, .int (zus x0_2 4)), (1, .int (x1_2 + 4))]) hx hb dJ6_numberOfTrailingZeros_0f7a4_61 rfl hl (by decide) rfl (fun ls hl => ?_)
          exact hj62_3 (zus x0_2 4) (x1_2 + 4) σ2 h _ _ ls hP hS (lv_sub hl [0, 1] rfl)
      refine lv_icmp_le (pc := 38) (tgt := 49) hx hb dJ6_numberOfTrailingZeros_0f7a4_38 (by decide) (fun c1 => ?_) (fun c1 => ?_)
      · rw [if_pos c1] at h
        exact hj49_2 (x0_1) (x1_1) σ1 h _ _ ls hP hS (lv_sub hl [0, 1] rfl)
      · rw [if_neg c1] at h
        refine lv_iinc (pc := 41) (v := x1_1 + 8) (lv' := [(1, .int (x1_1 + 8)), (0, .int x0_1)]) hx hb dJ6_numberOfTrailingZeros_0f7a4_41 hl (k := 1) rfl rfl (by decide) rfl (fun ls hl => ?_)
        refine lv_iload_n (pc := 44) hx hb dJ6_numberOfTrailingZeros_0f7a4_44 rfl (lv_at hl 1 rfl) ?_
        refine lv_bipush (pc := 45) (v := 8) hx hb dJ6_numberOfTrailingZeros_0f7a4_45 (by decide) ?_
        refine lv_iushr (pc := 47) (v := zus x0_1 8) hx hb dJ6_numberOfTrailingZeros_0f7a4_47 rfl ?_
        refine lv_istore_n (pc := 48) (lv' := [(0, .int (zus x0_1 8)), (1, .int (x1_1 + 8))]) hx hb dJ6_numberOfTrailingZeros_0f7a4_48 rfl hl (by decide) rfl (fun ls hl => ?_)
        exact hj49_2 (zus x0_1 8) (x1_1 + 8) σ1 h _ _ ls hP hS (lv_sub hl [0, 1] rfl)
    refine lv_icmp_le (pc := 23) (tgt := 34) hx hb dJ6_numberOfTrailingZeros_0f7a4_23 (by decide) (fun c1 => ?_) (fun c1 => ?_)
    · rw [if_pos c1] at h
      exact hj34_1 ((x0 ^^^ (-1)) &&& (x0 - 1)) (1) σ h _ _ ls hP hS (lv_sub hl [1, 0] rfl)
    · rw [if_neg c1] at h
      refine lv_iinc (pc := 26) (v := 1 + 16) (lv' := [(1, .int (1 + 16)), (0, .int ((x0 ^^^ (-1)) &&& (x0 - 1)))]) hx hb dJ6_numberOfTrailingZeros_0f7a4_26 hl (k := 0) rfl rfl (by decide) rfl (fun ls hl => ?_)
      refine lv_iload_n (pc := 29) hx hb dJ6_numberOfTrailingZeros_0f7a4_29 rfl (lv_at hl 1 rfl) ?_
      refine lv_bipush (pc := 30) (v := 16) hx hb dJ6_numberOfTrailingZeros_0f7a4_30 (by decide) ?_
      refine lv_iushr (pc := 32) (v := zus ((x0 ^^^ (-1)) &&& (x0 - 1)) 16) hx hb dJ6_numberOfTrailingZeros_0f7a4_32 rfl ?_
      refine lv_istore_n (pc := 33) (lv' := [(0, .int (zus ((x0 ^^^ (-1)) &&& (x0 - 1)) 16)), (1, .int (1 + 16))]) hx hb dJ6_numberOfTrailingZeros_0f7a4_33 rfl hl (by decide) rfl (fun ls hl => ?_)
      exact hj34_1 (zus ((x0 ^^^ (-1)) &&& (x0 - 1)) 16) (1 + 16) σ h _ _ ls hP hS (lv_sub hl [0, 1] rfl)
  · rw [if_neg c1] at h
    refine lv_iload_n (pc := 12) hx hb dJ6_numberOfTrailingZeros_0f7a4_12 rfl (lv_at hl 0 rfl) ?_
    refine lv_bipush (pc := 13) (v := 32) hx hb dJ6_numberOfTrailingZeros_0f7a4_13 (by decide) ?_
    refine lv_iand (pc := 15) hx hb dJ6_numberOfTrailingZeros_0f7a4_15 ?_
    exact xreti (pc := 16) hx hb hr hlocks hP hK hE hS h dJ6_numberOfTrailingZeros_0f7a4_16
def f_J6_bitCount_0f7a4 (N : Nat) (x0 : Int32) (σ : zS) : Option (Int32 × zS) :=
  some ((((((((x0 - ((zus x0 1) &&& 1431655765)) &&& 858993459) + ((zus (x0 - ((zus x0 1) &&& 1431655765)) 2) &&& 858993459)) + (zus (((x0 - ((zus x0 1) &&& 1431655765)) &&& 858993459) + ((zus (x0 - ((zus x0 1) &&& 1431655765)) 2) &&& 858993459)) 4)) &&& 252645135) + (zus (((((x0 - ((zus x0 1) &&& 1431655765)) &&& 858993459) + ((zus (x0 - ((zus x0 1) &&& 1431655765)) 2) &&& 858993459)) + (zus (((x0 - ((zus x0 1) &&& 1431655765)) &&& 858993459) + ((zus (x0 - ((zus x0 1) &&& 1431655765)) 2) &&& 858993459)) 4)) &&& 252645135) 8)) + (zus ((((((x0 - ((zus x0 1) &&& 1431655765)) &&& 858993459) + ((zus (x0 - ((zus x0 1) &&& 1431655765)) 2) &&& 858993459)) + (zus (((x0 - ((zus x0 1) &&& 1431655765)) &&& 858993459) + ((zus (x0 - ((zus x0 1) &&& 1431655765)) 2) &&& 858993459)) 4)) &&& 252645135) + (zus (((((x0 - ((zus x0 1) &&& 1431655765)) &&& 858993459) + ((zus (x0 - ((zus x0 1) &&& 1431655765)) 2) &&& 858993459)) + (zus (((x0 - ((zus x0 1) &&& 1431655765)) &&& 858993459) + ((zus (x0 - ((zus x0 1) &&& 1431655765)) 2) &&& 858993459)) 4)) &&& 252645135) 8)) 16)) &&& 63, σ)
set_option maxHeartbeats 4000000 in
set_option maxRecDepth 100000 in
theorem c_J6_bitCount_0f7a4 (l : Launch) (D : va_G) (c : zC) (o : Nat) (g : zEp) (N : Nat) {x0 : Int32} {σ : zS} {ρ : Int32 × zS} (h : f_J6_bitCount_0f7a4 N x0 σ = some ρ) : Met l yJ6_bitCount_0f7a4 zs_J6_bitCount_0f7a4 (zr 2) (va_Pc [.int x0] (zG D c o g σ)) (zQi D c o g ρ) 0 0 (zA o) := by
  refine zMetG (by decide) (Nat.le_of_ble_eq_true rfl) ?_
  intro p e s m below meth cd ⟨hx, hb, hr, hml, hown, hts, hlocks⟩ hP hK hE ls hl
  have hS : va_S (zA o) s.heap s.heap [] := va_S.rf
  have hl : lv_has ls 1 [(0, .int x0)] := hl
  rw [f_J6_bitCount_0f7a4.eq_1] at h
  refine lv_iload_n (pc := 0) hx hb dJ6_bitCount_0f7a4_0 rfl (lv_at hl 0 rfl) ?_
  refine lv_iload_n (pc := 1) hx hb dJ6_bitCount_0f7a4_1 rfl (lv_at hl 0 rfl) ?_
  refine lv_iconst (pc := 2) (v := 1) hx hb dJ6_bitCount_0f7a4_2 (by decide) ?_
  refine lv_iushr (pc := 3) (v := zus x0 1) hx hb dJ6_bitCount_0f7a4_3 rfl ?_
  refine lv_ldcw (pc := 4) hx hb hown (hts _ zk_J6_265) dJ6_bitCount_0f7a4_4 ?_
  refine lv_iand (pc := 7) hx hb dJ6_bitCount_0f7a4_7 ?_
  refine lv_isub (pc := 8) hx hb dJ6_bitCount_0f7a4_8 ?_
  refine lv_istore_n (pc := 9) (lv' := [(0, .int (x0 - ((zus x0 1) &&& 1431655765)))]) hx hb dJ6_bitCount_0f7a4_9 rfl hl (by decide) rfl (fun ls hl => ?_)
  refine lv_iload_n (pc := 10) hx hb dJ6_bitCount_0f7a4_10 rfl (lv_at hl 0 rfl) ?_
  refine lv_ldcw (pc := 11) hx hb hown (hts _ zk_J6_266) dJ6_bitCount_0f7a4_11 ?_
  refine lv_iand (pc := 14) hx hb dJ6_bitCount_0f7a4_14 ?_
  refine lv_iload_n (pc := 15) hx hb dJ6_bitCount_0f7a4_15 rfl (lv_at hl 0 rfl) ?_
  refine lv_iconst (pc := 16) (v := 2) hx hb dJ6_bitCount_0f7a4_16 (by decide) ?_
  refine lv_iushr (pc := 17) (v := zus (x0 - ((zus x0 1) &&& 1431655765)) 2) hx hb dJ6_bitCount_0f7a4_17 rfl ?_
  refine lv_ldcw (pc := 18) hx hb hown (hts _ zk_J6_266) dJ6_bitCount_0f7a4_18 ?_
  refine lv_iand (pc := 21) hx hb dJ6_bitCount_0f7a4_21 ?_
  refine lv_iadd (pc := 22) hx hb dJ6_bitCount_0f7a4_22 ?_
  refine lv_istore_n (pc := 23) (lv' := [(0, .int (((x0 - ((zus x0 1) &&& 1431655765)) &&& 858993459) + ((zus (x0 - ((zus x0 1) &&& 1431655765)) 2) &&& 858993459)))]) hx hb dJ6_bitCount_0f7a4_23 rfl hl (by decide) rfl (fun ls hl => ?_)
  refine lv_iload_n (pc := 24) hx hb dJ6_bitCount_0f7a4_24 rfl (lv_at hl 0 rfl) ?_
  refine lv_iload_n (pc := 25) hx hb dJ6_bitCount_0f7a4_25 rfl (lv_at hl 0 rfl) ?_
  refine lv_iconst (pc := 26) (v := 4) hx hb dJ6_bitCount_0f7a4_26 (by decide) ?_
  refine lv_iushr (pc := 27) (v := zus (((x0 - ((zus x0 1) &&& 1431655765)) &&& 858993459) + ((zus (x0 - ((zus x0 1) &&& 1431655765)) 2) &&& 858993459)) 4) hx hb dJ6_bitCount_0f7a4_27 rfl ?_
  refine lv_iadd (pc := 28) hx hb dJ6_bitCount_0f7a4_28 ?_
  refine lv_ldcw (pc := 29) hx hb hown (hts _ zk_J6_267) dJ6_bitCount_0f7a4_29 ?_
  refine lv_iand (pc := 32) hx hb dJ6_bitCount_0f7a4_32 ?_
  refine lv_istore_n (pc := 33) (lv' := [(0, .int (((((x0 - ((zus x0 1) &&& 1431655765)) &&& 858993459) + ((zus (x0 - ((zus x0 1) &&& 1431655765)) 2) &&& 858993459)) + (zus (((x0 - ((zus x0 1) &&& 1431655765)) &&& 858993459) + ((zus (x0 - ((zus x0 1) &&& 1431655765)) 2) &&& 858993459)) 4)) &&& 252645135))]) hx hb dJ6_bitCount_0f7a4_33 rfl hl (by decide) rfl (fun ls hl => ?_)
  refine lv_iload_n (pc := 34) hx hb dJ6_bitCount_0f7a4_34 rfl (lv_at hl 0 rfl) ?_
  refine lv_iload_n (pc := 35) hx hb dJ6_bitCount_0f7a4_35 rfl (lv_at hl 0 rfl) ?_
  refine lv_bipush (pc := 36) (v := 8) hx hb dJ6_bitCount_0f7a4_36 (by decide) ?_
  refine lv_iushr (pc := 38) (v := zus (((((x0 - ((zus x0 1) &&& 1431655765)) &&& 858993459) + ((zus (x0 - ((zus x0 1) &&& 1431655765)) 2) &&& 858993459)) + (zus (((x0 - ((zus x0 1) &&& 1431655765)) &&& 858993459) + ((zus (x0 - ((zus x0 1) &&& 1431655765)) 2) &&& 858993459)) 4)) &&& 252645135) 8) hx hb dJ6_bitCount_0f7a4_38 rfl ?_
  refine lv_iadd (pc := 39) hx hb dJ6_bitCount_0f7a4_39 ?_
  refine lv_istore_n (pc := 40) (lv' := [(0, .int ((((((x0 - ((zus x0 1) &&& 1431655765)) &&& 858993459) + ((zus (x0 - ((zus x0 1) &&& 1431655765)) 2) &&& 858993459)) + (zus (((x0 - ((zus x0 1) &&& 1431655765)) &&& 858993459) + ((zus (x0 - ((zus x0 1) &&& 1431655765)) 2) &&& 858993459)) 4)) &&& 252645135) + (zus (((((x0 - ((zus x0 1) &&& 1431655765)) &&& 858993459) + ((zus (x0 - ((zus x0 1) &&& 1431655765)) 2) &&& 858993459)) + (zus (((x0 - ((zus x0 1) &&& 1431655765)) &&& 858993459) + ((zus (x0 - ((zus x0 1) &&& 1431655765)) 2) &&& 858993459)) 4)) &&& 252645135) 8)))]) hx hb dJ6_bitCount_0f7a4_40 rfl hl (by decide) rfl (fun ls hl => ?_)
  refine lv_iload_n (pc := 41) hx hb dJ6_bitCount_0f7a4_41 rfl (lv_at hl 0 rfl) ?_
  refine lv_iload_n (pc := 42) hx hb dJ6_bitCount_0f7a4_42 rfl (lv_at hl 0 rfl) ?_
  refine lv_bipush (pc := 43) (v := 16) hx hb dJ6_bitCount_0f7a4_43 (by decide) ?_
  refine lv_iushr (pc := 45) (v := zus ((((((x0 - ((zus x0 1) &&& 1431655765)) &&& 858993459) + ((zus (x0 - ((zus x0 1) &&& 1431655765)) 2) &&& 858993459)) + (zus (((x0 - ((zus x0 1) &&& 1431655765)) &&& 858993459) + ((zus (x0 - ((zus x0 1) &&& 1431655765)) 2) &&& 858993459)) 4)) &&& 252645135) + (zus (((((x0 - ((zus x0 1) &&& 1431655765)) &&& 858993459) + ((zus (x0 - ((zus x0 1) &&& 1431655765)) 2) &&& 858993459)) + (zus (((x0 - ((zus x0 1) &&& 1431655765)) &&& 858993459) + ((zus (x0 - ((zus x0 1) &&& 1431655765)) 2) &&& 858993459)) 4)) &&& 252645135) 8)) 16) hx hb dJ6_bitCount_0f7a4_45 rfl ?_
  refine lv_iadd (pc := 46) hx hb dJ6_bitCount_0f7a4_46 ?_
  refine lv_istore_n (pc := 47) (lv' := [(0, .int (((((((x0 - ((zus x0 1) &&& 1431655765)) &&& 858993459) + ((zus (x0 - ((zus x0 1) &&& 1431655765)) 2) &&& 858993459)) + (zus (((x0 - ((zus x0 1) &&& 1431655765)) &&& 858993459) + ((zus (x0 - ((zus x0 1) &&& 1431655765)) 2) &&& 858993459)) 4)) &&& 252645135) + (zus (((((x0 - ((zus x0 1) &&& 1431655765)) &&& 858993459) + ((zus (x0 - ((zus x0 1) &&& 1431655765)) 2) &&& 858993459)) + (zus (((x0 - ((zus x0 1) &&& 1431655765)) &&& 858993459) + ((zus (x0 - ((zus x0 1) &&& 1431655765)) 2) &&& 858993459)) 4)) &&& 252645135) 8)) + (zus ((((((x0 - ((zus x0 1) &&& 1431655765)) &&& 858993459) + ((zus (x0 - ((zus x0 1) &&& 1431655765)) 2) &&& 858993459)) + (zus (((x0 - ((zus x0 1) &&& 1431655765)) &&& 858993459) + ((zus (x0 - ((zus x0 1) &&& 1431655765)) 2) &&& 858993459)) 4)) &&& 252645135) + (zus (((((x0 - ((zus x0 1) &&& 1431655765)) &&& 858993459) + ((zus (x0 - ((zus x0 1) &&& 1431655765)) 2) &&& 858993459)) + (zus (((x0 - ((zus x0 1) &&& 1431655765)) &&& 858993459) + ((zus (x0 - ((zus x0 1) &&& 1431655765)) 2) &&& 858993459)) 4)) &&& 252645135) 8)) 16)))]) hx hb dJ6_bitCount_0f7a4_47 rfl hl (by decide) rfl (fun ls hl => ?_)
  refine lv_iload_n (pc := 48) hx hb dJ6_bitCount_0f7a4_48 rfl (lv_at hl 0 rfl) ?_
  refine lv_bipush (pc := 49) (v := 63) hx hb dJ6_bitCount_0f7a4_49 (by decide) ?_
  refine lv_iand (pc := 51) hx hb dJ6_bitCount_0f7a4_51 ?_
  exact xreti (pc := 52) hx hb hr hlocks hP hK hE hS h dJ6_bitCount_0f7a4_52
def f_J13_numberOfTrailingZeros_95d88 (N : Nat) (x0 : Int64) (σ : zS) : Option (Int32 × zS) :=
  if (Int64.toInt32 x0) = 0 then
    (zb (f_J6_numberOfTrailingZeros_0f7a4 N (Int64.toInt32 (zul x0 32)) σ) fun v1 σ2 =>
    some (32 + v1, σ2))
  else
    (zb (f_J6_numberOfTrailingZeros_0f7a4 N (Int64.toInt32 x0) σ) fun v3 σ4 =>
    some (v3, σ4))
set_option maxHeartbeats 4000000 in
set_option maxRecDepth 100000 in
theorem c_J13_numberOfTrailingZeros_95d88 (l : Launch) (D : va_G) (c : zC) (o : Nat) (g : zEp) (N : Nat) {x0 : Int64} {σ : zS} {ρ : Int32 × zS} (h : f_J13_numberOfTrailingZeros_95d88 N x0 σ = some ρ) : Met l yJ13_numberOfTrailingZeros_95d88 zs_J13_numberOfTrailingZeros_95d88 (zr 4) (va_Pc [.long x0] (zG D c o g σ)) (zQi D c o g ρ) 0 0 (zA o) := by
  refine zMetG (by decide) (Nat.le_of_ble_eq_true rfl) ?_
  intro p e s m below meth cd ⟨hx, hb, hr, hml, hown, hts, hlocks⟩ hP hK hE ls hl
  have hS : va_S (zA o) s.heap s.heap [] := va_S.rf
  have hl : lv_has ls 3 [(0, .long x0)] := hl
  rw [f_J13_numberOfTrailingZeros_95d88.eq_1] at h
  refine lv_lload_n (pc := 0) hx hb dJ13_numberOfTrailingZeros_95d88_0 rfl (lv_at hl 0 rfl) ?_
  refine lv_l2i (pc := 1) hx hb dJ13_numberOfTrailingZeros_95d88_1 rfl ?_
  refine lv_istore_n (pc := 2) (lv' := [(2, .int (Int64.toInt32 x0)), (0, .long x0)]) hx hb dJ13_numberOfTrailingZeros_95d88_2 rfl hl (by decide) rfl (fun ls hl => ?_)
  refine lv_iload_n (pc := 3) hx hb dJ13_numberOfTrailingZeros_95d88_3 rfl (lv_at hl 0 rfl) ?_
  refine lv_if_ne (pc := 4) (tgt := 21) hx hb dJ13_numberOfTrailingZeros_95d88_4 (by decide) (fun c1 => ?_) (fun c1 => ?_)
  · rw [if_neg c1] at h
    refine lv_iload_n (pc := 21) hx hb dJ13_numberOfTrailingZeros_95d88_21 rfl (lv_at hl 0 rfl) ?_
    obtain ⟨v1, σ2, hv, h⟩ := zb_some h
    refine xcallSi (pc := 22) (As := [.int (Int64.toInt32 x0)]) (rest := []) ⟨hx, hb, hml, hown, hts⟩ (c_J6_numberOfTrailingZeros_0f7a4 l D c o g N hv) zT_J13_311 rfl zd_J6_numberOfTrailingZeros_0f7a4 ⟨Nat.le_of_ble_eq_true rfl, Nat.le_of_ble_eq_true rfl⟩ hK hP hE hS hl.1 rfl (Nat.le_of_ble_eq_true rfl) ⟨Nat.zero_le _, Nat.zero_le _⟩ dJ13_numberOfTrailingZeros_95d88_22 (fun H locs hP hS => ?_)
    exact xreti (pc := 25) hx hb hr hlocks hP hK hE hS h dJ13_numberOfTrailingZeros_95d88_25
  · rw [if_pos c1] at h
    refine lv_bipush (pc := 7) (v := 32) hx hb dJ13_numberOfTrailingZeros_95d88_7 (by decide) ?_
    refine lv_lload_n (pc := 9) hx hb dJ13_numberOfTrailingZeros_95d88_9 rfl (lv_at hl 1 rfl) ?_
    refine lv_bipush (pc := 10) (v := 32) hx hb dJ13_numberOfTrailingZeros_95d88_10 (by decide) ?_
    refine lv_lushr (pc := 12) (v := zul x0 32) hx hb dJ13_numberOfTrailingZeros_95d88_12 rfl ?_
    refine lv_l2i (pc := 13) hx hb dJ13_numberOfTrailingZeros_95d88_13 rfl ?_
    obtain ⟨v3, σ4, hv, h⟩ := zb_some h
    refine xcallSi (pc := 14) (As := [.int (Int64.toInt32 (zul x0 32))]) (rest := [.int 32]) ⟨hx, hb, hml, hown, hts⟩ (c_J6_numberOfTrailingZeros_0f7a4 l D c o g N hv) zT_J13_311 rfl zd_J6_numberOfTrailingZeros_0f7a4 ⟨Nat.le_of_ble_eq_true rfl, Nat.le_of_ble_eq_true rfl⟩ hK hP hE hS hl.1 rfl (Nat.le_of_ble_eq_true rfl) ⟨Nat.zero_le _, Nat.zero_le _⟩ dJ13_numberOfTrailingZeros_95d88_14 (fun H locs hP hS => ?_)
    refine lv_iadd (pc := 17) hx hb dJ13_numberOfTrailingZeros_95d88_17 ?_
    refine lv_goto (pc := 18) (tgt := 25) hx hb dJ13_numberOfTrailingZeros_95d88_18 (by decide) ?_
    exact xreti (pc := 25) hx hb hr hlocks hP hK hE hS h dJ13_numberOfTrailingZeros_95d88_25
def f_J13_bitCount_95d88 (N : Nat) (x0 : Int64) (σ : zS) : Option (Int32 × zS) :=
  some ((Int64.toInt32 ((((((((x0 - ((zul x0 1) &&& 6148914691236517205)) &&& 3689348814741910323) + ((zul (x0 - ((zul x0 1) &&& 6148914691236517205)) 2) &&& 3689348814741910323)) + (zul (((x0 - ((zul x0 1) &&& 6148914691236517205)) &&& 3689348814741910323) + ((zul (x0 - ((zul x0 1) &&& 6148914691236517205)) 2) &&& 3689348814741910323)) 4)) &&& 1085102592571150095) + (zul (((((x0 - ((zul x0 1) &&& 6148914691236517205)) &&& 3689348814741910323) + ((zul (x0 - ((zul x0 1) &&& 6148914691236517205)) 2) &&& 3689348814741910323)) + (zul (((x0 - ((zul x0 1) &&& 6148914691236517205)) &&& 3689348814741910323) + ((zul (x0 - ((zul x0 1) &&& 6148914691236517205)) 2) &&& 3689348814741910323)) 4)) &&& 1085102592571150095) 8)) + (zul ((((((x0 - ((zul x0 1) &&& 6148914691236517205)) &&& 3689348814741910323) + ((zul (x0 - ((zul x0 1) &&& 6148914691236517205)) 2) &&& 3689348814741910323)) + (zul (((x0 - ((zul x0 1) &&& 6148914691236517205)) &&& 3689348814741910323) + ((zul (x0 - ((zul x0 1) &&& 6148914691236517205)) 2) &&& 3689348814741910323)) 4)) &&& 1085102592571150095) + (zul (((((x0 - ((zul x0 1) &&& 6148914691236517205)) &&& 3689348814741910323) + ((zul (x0 - ((zul x0 1) &&& 6148914691236517205)) 2) &&& 3689348814741910323)) + (zul (((x0 - ((zul x0 1) &&& 6148914691236517205)) &&& 3689348814741910323) + ((zul (x0 - ((zul x0 1) &&& 6148914691236517205)) 2) &&& 3689348814741910323)) 4)) &&& 1085102592571150095) 8)) 16)) + (zul (((((((x0 - ((zul x0 1) &&& 6148914691236517205)) &&& 3689348814741910323) + ((zul (x0 - ((zul x0 1) &&& 6148914691236517205)) 2) &&& 3689348814741910323)) + (zul (((x0 - ((zul x0 1) &&& 6148914691236517205)) &&& 3689348814741910323) + ((zul (x0 - ((zul x0 1) &&& 6148914691236517205)) 2) &&& 3689348814741910323)) 4)) &&& 1085102592571150095) + (zul (((((x0 - ((zul x0 1) &&& 6148914691236517205)) &&& 3689348814741910323) + ((zul (x0 - ((zul x0 1) &&& 6148914691236517205)) 2) &&& 3689348814741910323)) + (zul (((x0 - ((zul x0 1) &&& 6148914691236517205)) &&& 3689348814741910323) + ((zul (x0 - ((zul x0 1) &&& 6148914691236517205)) 2) &&& 3689348814741910323)) 4)) &&& 1085102592571150095) 8)) + (zul ((((((x0 - ((zul x0 1) &&& 6148914691236517205)) &&& 3689348814741910323) + ((zul (x0 - ((zul x0 1) &&& 6148914691236517205)) 2) &&& 3689348814741910323)) + (zul (((x0 - ((zul x0 1) &&& 6148914691236517205)) &&& 3689348814741910323) + ((zul (x0 - ((zul x0 1) &&& 6148914691236517205)) 2) &&& 3689348814741910323)) 4)) &&& 1085102592571150095) + (zul (((((x0 - ((zul x0 1) &&& 6148914691236517205)) &&& 3689348814741910323) + ((zul (x0 - ((zul x0 1) &&& 6148914691236517205)) 2) &&& 3689348814741910323)) + (zul (((x0 - ((zul x0 1) &&& 6148914691236517205)) &&& 3689348814741910323) + ((zul (x0 - ((zul x0 1) &&& 6148914691236517205)) 2) &&& 3689348814741910323)) 4)) &&& 1085102592571150095) 8)) 16)) 32))) &&& 127, σ)
set_option maxHeartbeats 4000000 in
set_option maxRecDepth 100000 in
theorem c_J13_bitCount_95d88 (l : Launch) (D : va_G) (c : zC) (o : Nat) (g : zEp) (N : Nat) {x0 : Int64} {σ : zS} {ρ : Int32 × zS} (h : f_J13_bitCount_95d88 N x0 σ = some ρ) : Met l yJ13_bitCount_95d88 zs_J13_bitCount_95d88 (zr 2) (va_Pc [.long x0] (zG D c o g σ)) (zQi D c o g ρ) 0 0 (zA o) := by
  refine zMetG (by decide) (Nat.le_of_ble_eq_true rfl) ?_
  intro p e s m below meth cd ⟨hx, hb, hr, hml, hown, hts, hlocks⟩ hP hK hE ls hl
  have hS : va_S (zA o) s.heap s.heap [] := va_S.rf
  have hl : lv_has ls 2 [(0, .long x0)] := hl
  rw [f_J13_bitCount_95d88.eq_1] at h
  refine lv_lload_n (pc := 0) hx hb dJ13_bitCount_95d88_0 rfl (lv_at hl 0 rfl) ?_
  refine lv_lload_n (pc := 1) hx hb dJ13_bitCount_95d88_1 rfl (lv_at hl 0 rfl) ?_
  refine lv_iconst (pc := 2) (v := 1) hx hb dJ13_bitCount_95d88_2 (by decide) ?_
  refine lv_lushr (pc := 3) (v := zul x0 1) hx hb dJ13_bitCount_95d88_3 rfl ?_
  refine lv_ldc2 (pc := 4) hx hb hown (hts _ zk_J13_314) dJ13_bitCount_95d88_4 ?_
  refine lv_land (pc := 7) hx hb dJ13_bitCount_95d88_7 ?_
  refine lv_lsub (pc := 8) hx hb dJ13_bitCount_95d88_8 ?_
  refine lv_lstore_n (pc := 9) (lv' := [(0, .long (x0 - ((zul x0 1) &&& 6148914691236517205)))]) hx hb dJ13_bitCount_95d88_9 rfl hl (by decide) rfl (fun ls hl => ?_)
  refine lv_lload_n (pc := 10) hx hb dJ13_bitCount_95d88_10 rfl (lv_at hl 0 rfl) ?_
  refine lv_ldc2 (pc := 11) hx hb hown (hts _ zk_J13_316) dJ13_bitCount_95d88_11 ?_
  refine lv_land (pc := 14) hx hb dJ13_bitCount_95d88_14 ?_
  refine lv_lload_n (pc := 15) hx hb dJ13_bitCount_95d88_15 rfl (lv_at hl 0 rfl) ?_
  refine lv_iconst (pc := 16) (v := 2) hx hb dJ13_bitCount_95d88_16 (by decide) ?_
  refine lv_lushr (pc := 17) (v := zul (x0 - ((zul x0 1) &&& 6148914691236517205)) 2) hx hb dJ13_bitCount_95d88_17 rfl ?_
  refine lv_ldc2 (pc := 18) hx hb hown (hts _ zk_J13_316) dJ13_bitCount_95d88_18 ?_
  refine lv_land (pc := 21) hx hb dJ13_bitCount_95d88_21 ?_
  refine lv_ladd (pc := 22) hx hb dJ13_bitCount_95d88_22 ?_
  refine lv_lstore_n (pc := 23) (lv' := [(0, .long (((x0 - ((zul x0 1) &&& 6148914691236517205)) &&& 3689348814741910323) + ((zul (x0 - ((zul x0 1) &&& 6148914691236517205)) 2) &&& 3689348814741910323)))]) hx hb dJ13_bitCount_95d88_23 rfl hl (by decide) rfl (fun ls hl => ?_)
  refine lv_lload_n (pc := 24) hx hb dJ13_bitCount_95d88_24 rfl (lv_at hl 0 rfl) ?_
  refine lv_lload_n (pc := 25) hx hb dJ13_bitCount_95d88_25 rfl (lv_at hl 0 rfl) ?_
  refine lv_iconst (pc := 26) (v := 4) hx hb dJ13_bitCount_95d88_26 (by decide) ?_
  refine lv_lushr (pc := 27) (v := zul (((x0 - ((zul x0 1) &&& 6148914691236517205)) &&& 3689348814741910323) + ((zul (x0 - ((zul x0 1) &&& 6148914691236517205)) 2) &&& 3689348814741910323)) 4) hx hb dJ13_bitCount_95d88_27 rfl ?_
  refine lv_ladd (pc := 28) hx hb dJ13_bitCount_95d88_28 ?_
  refine lv_ldc2 (pc := 29) hx hb hown (hts _ zk_J13_318) dJ13_bitCount_95d88_29 ?_
  refine lv_land (pc := 32) hx hb dJ13_bitCount_95d88_32 ?_
  refine lv_lstore_n (pc := 33) (lv' := [(0, .long (((((x0 - ((zul x0 1) &&& 6148914691236517205)) &&& 3689348814741910323) + ((zul (x0 - ((zul x0 1) &&& 6148914691236517205)) 2) &&& 3689348814741910323)) + (zul (((x0 - ((zul x0 1) &&& 6148914691236517205)) &&& 3689348814741910323) + ((zul (x0 - ((zul x0 1) &&& 6148914691236517205)) 2) &&& 3689348814741910323)) 4)) &&& 1085102592571150095))]) hx hb dJ13_bitCount_95d88_33 rfl hl (by decide) rfl (fun ls hl => ?_)
  refine lv_lload_n (pc := 34) hx hb dJ13_bitCount_95d88_34 rfl (lv_at hl 0 rfl) ?_
  refine lv_lload_n (pc := 35) hx hb dJ13_bitCount_95d88_35 rfl (lv_at hl 0 rfl) ?_
  refine lv_bipush (pc := 36) (v := 8) hx hb dJ13_bitCount_95d88_36 (by decide) ?_
  refine lv_lushr (pc := 38) (v := zul (((((x0 - ((zul x0 1) &&& 6148914691236517205)) &&& 3689348814741910323) + ((zul (x0 - ((zul x0 1) &&& 6148914691236517205)) 2) &&& 3689348814741910323)) + (zul (((x0 - ((zul x0 1) &&& 6148914691236517205)) &&& 3689348814741910323) + ((zul (x0 - ((zul x0 1) &&& 6148914691236517205)) 2) &&& 3689348814741910323)) 4)) &&& 1085102592571150095) 8) hx hb dJ13_bitCount_95d88_38 rfl ?_
  refine lv_ladd (pc := 39) hx hb dJ13_bitCount_95d88_39 ?_
  refine lv_lstore_n (pc := 40) (lv' := [(0, .long ((((((x0 - ((zul x0 1) &&& 6148914691236517205)) &&& 3689348814741910323) + ((zul (x0 - ((zul x0 1) &&& 6148914691236517205)) 2) &&& 3689348814741910323)) + (zul (((x0 - ((zul x0 1) &&& 6148914691236517205)) &&& 3689348814741910323) + ((zul (x0 - ((zul x0 1) &&& 6148914691236517205)) 2) &&& 3689348814741910323)) 4)) &&& 1085102592571150095) + (zul (((((x0 - ((zul x0 1) &&& 6148914691236517205)) &&& 3689348814741910323) + ((zul (x0 - ((zul x0 1) &&& 6148914691236517205)) 2) &&& 3689348814741910323)) + (zul (((x0 - ((zul x0 1) &&& 6148914691236517205)) &&& 3689348814741910323) + ((zul (x0 - ((zul x0 1) &&& 6148914691236517205)) 2) &&& 3689348814741910323)) 4)) &&& 1085102592571150095) 8)))]) hx hb dJ13_bitCount_95d88_40 rfl hl (by decide) rfl (fun ls hl => ?_)
  refine lv_lload_n (pc := 41) hx hb dJ13_bitCount_95d88_41 rfl (lv_at hl 0 rfl) ?_
  refine lv_lload_n (pc := 42) hx hb dJ13_bitCount_95d88_42 rfl (lv_at hl 0 rfl) ?_
  refine lv_bipush (pc := 43) (v := 16) hx hb dJ13_bitCount_95d88_43 (by decide) ?_
  refine lv_lushr (pc := 45) (v := zul ((((((x0 - ((zul x0 1) &&& 6148914691236517205)) &&& 3689348814741910323) + ((zul (x0 - ((zul x0 1) &&& 6148914691236517205)) 2) &&& 3689348814741910323)) + (zul (((x0 - ((zul x0 1) &&& 6148914691236517205)) &&& 3689348814741910323) + ((zul (x0 - ((zul x0 1) &&& 6148914691236517205)) 2) &&& 3689348814741910323)) 4)) &&& 1085102592571150095) + (zul (((((x0 - ((zul x0 1) &&& 6148914691236517205)) &&& 3689348814741910323) + ((zul (x0 - ((zul x0 1) &&& 6148914691236517205)) 2) &&& 3689348814741910323)) + (zul (((x0 - ((zul x0 1) &&& 6148914691236517205)) &&& 3689348814741910323) + ((zul (x0 - ((zul x0 1) &&& 6148914691236517205)) 2) &&& 3689348814741910323)) 4)) &&& 1085102592571150095) 8)) 16) hx hb dJ13_bitCount_95d88_45 rfl ?_
  refine lv_ladd (pc := 46) hx hb dJ13_bitCount_95d88_46 ?_
  refine lv_lstore_n (pc := 47) (lv' := [(0, .long (((((((x0 - ((zul x0 1) &&& 6148914691236517205)) &&& 3689348814741910323) + ((zul (x0 - ((zul x0 1) &&& 6148914691236517205)) 2) &&& 3689348814741910323)) + (zul (((x0 - ((zul x0 1) &&& 6148914691236517205)) &&& 3689348814741910323) + ((zul (x0 - ((zul x0 1) &&& 6148914691236517205)) 2) &&& 3689348814741910323)) 4)) &&& 1085102592571150095) + (zul (((((x0 - ((zul x0 1) &&& 6148914691236517205)) &&& 3689348814741910323) + ((zul (x0 - ((zul x0 1) &&& 6148914691236517205)) 2) &&& 3689348814741910323)) + (zul (((x0 - ((zul x0 1) &&& 6148914691236517205)) &&& 3689348814741910323) + ((zul (x0 - ((zul x0 1) &&& 6148914691236517205)) 2) &&& 3689348814741910323)) 4)) &&& 1085102592571150095) 8)) + (zul ((((((x0 - ((zul x0 1) &&& 6148914691236517205)) &&& 3689348814741910323) + ((zul (x0 - ((zul x0 1) &&& 6148914691236517205)) 2) &&& 3689348814741910323)) + (zul (((x0 - ((zul x0 1) &&& 6148914691236517205)) &&& 3689348814741910323) + ((zul (x0 - ((zul x0 1) &&& 6148914691236517205)) 2) &&& 3689348814741910323)) 4)) &&& 1085102592571150095) + (zul (((((x0 - ((zul x0 1) &&& 6148914691236517205)) &&& 3689348814741910323) + ((zul (x0 - ((zul x0 1) &&& 6148914691236517205)) 2) &&& 3689348814741910323)) + (zul (((x0 - ((zul x0 1) &&& 6148914691236517205)) &&& 3689348814741910323) + ((zul (x0 - ((zul x0 1) &&& 6148914691236517205)) 2) &&& 3689348814741910323)) 4)) &&& 1085102592571150095) 8)) 16)))]) hx hb dJ13_bitCount_95d88_47 rfl hl (by decide) rfl (fun ls hl => ?_)
  refine lv_lload_n (pc := 48) hx hb dJ13_bitCount_95d88_48 rfl (lv_at hl 0 rfl) ?_
  refine lv_lload_n (pc := 49) hx hb dJ13_bitCount_95d88_49 rfl (lv_at hl 0 rfl) ?_
  refine lv_bipush (pc := 50) (v := 32) hx hb dJ13_bitCount_95d88_50 (by decide) ?_
  refine lv_lushr (pc := 52) (v := zul (((((((x0 - ((zul x0 1) &&& 6148914691236517205)) &&& 3689348814741910323) + ((zul (x0 - ((zul x0 1) &&& 6148914691236517205)) 2) &&& 3689348814741910323)) + (zul (((x0 - ((zul x0 1) &&& 6148914691236517205)) &&& 3689348814741910323) + ((zul (x0 - ((zul x0 1) &&& 6148914691236517205)) 2) &&& 3689348814741910323)) 4)) &&& 1085102592571150095) + (zul (((((x0 - ((zul x0 1) &&& 6148914691236517205)) &&& 3689348814741910323) + ((zul (x0 - ((zul x0 1) &&& 6148914691236517205)) 2) &&& 3689348814741910323)) + (zul (((x0 - ((zul x0 1) &&& 6148914691236517205)) &&& 3689348814741910323) + ((zul (x0 - ((zul x0 1) &&& 6148914691236517205)) 2) &&& 3689348814741910323)) 4)) &&& 1085102592571150095) 8)) + (zul ((((((x0 - ((zul x0 1) &&& 6148914691236517205)) &&& 3689348814741910323) + ((zul (x0 - ((zul x0 1) &&& 6148914691236517205)) 2) &&& 3689348814741910323)) + (zul (((x0 - ((zul x0 1) &&& 6148914691236517205)) &&& 3689348814741910323) + ((zul (x0 - ((zul x0 1) &&& 6148914691236517205)) 2) &&& 3689348814741910323)) 4)) &&& 1085102592571150095) + (zul (((((x0 - ((zul x0 1) &&& 6148914691236517205)) &&& 3689348814741910323) + ((zul (x0 - ((zul x0 1) &&& 6148914691236517205)) 2) &&& 3689348814741910323)) + (zul (((x0 - ((zul x0 1) &&& 6148914691236517205)) &&& 3689348814741910323) + ((zul (x0 - ((zul x0 1) &&& 6148914691236517205)) 2) &&& 3689348814741910323)) 4)) &&& 1085102592571150095) 8)) 16)) 32) hx hb dJ13_bitCount_95d88_52 rfl ?_
  refine lv_ladd (pc := 53) hx hb dJ13_bitCount_95d88_53 ?_
  refine lv_lstore_n (pc := 54) (lv' := [(0, .long ((((((((x0 - ((zul x0 1) &&& 6148914691236517205)) &&& 3689348814741910323) + ((zul (x0 - ((zul x0 1) &&& 6148914691236517205)) 2) &&& 3689348814741910323)) + (zul (((x0 - ((zul x0 1) &&& 6148914691236517205)) &&& 3689348814741910323) + ((zul (x0 - ((zul x0 1) &&& 6148914691236517205)) 2) &&& 3689348814741910323)) 4)) &&& 1085102592571150095) + (zul (((((x0 - ((zul x0 1) &&& 6148914691236517205)) &&& 3689348814741910323) + ((zul (x0 - ((zul x0 1) &&& 6148914691236517205)) 2) &&& 3689348814741910323)) + (zul (((x0 - ((zul x0 1) &&& 6148914691236517205)) &&& 3689348814741910323) + ((zul (x0 - ((zul x0 1) &&& 6148914691236517205)) 2) &&& 3689348814741910323)) 4)) &&& 1085102592571150095) 8)) + (zul ((((((x0 - ((zul x0 1) &&& 6148914691236517205)) &&& 3689348814741910323) + ((zul (x0 - ((zul x0 1) &&& 6148914691236517205)) 2) &&& 3689348814741910323)) + (zul (((x0 - ((zul x0 1) &&& 6148914691236517205)) &&& 3689348814741910323) + ((zul (x0 - ((zul x0 1) &&& 6148914691236517205)) 2) &&& 3689348814741910323)) 4)) &&& 1085102592571150095) + (zul (((((x0 - ((zul x0 1) &&& 6148914691236517205)) &&& 3689348814741910323) + ((zul (x0 - ((zul x0 1) &&& 6148914691236517205)) 2) &&& 3689348814741910323)) + (zul (((x0 - ((zul x0 1) &&& 6148914691236517205)) &&& 3689348814741910323) + ((zul (x0 - ((zul x0 1) &&& 6148914691236517205)) 2) &&& 3689348814741910323)) 4)) &&& 1085102592571150095) 8)) 16)) + (zul (((((((x0 - ((zul x0 1) &&& 6148914691236517205)) &&& 3689348814741910323) + ((zul (x0 - ((zul x0 1) &&& 6148914691236517205)) 2) &&& 3689348814741910323)) + (zul (((x0 - ((zul x0 1) &&& 6148914691236517205)) &&& 3689348814741910323) + ((zul (x0 - ((zul x0 1) &&& 6148914691236517205)) 2) &&& 3689348814741910323)) 4)) &&& 1085102592571150095) + (zul (((((x0 - ((zul x0 1) &&& 6148914691236517205)) &&& 3689348814741910323) + ((zul (x0 - ((zul x0 1) &&& 6148914691236517205)) 2) &&& 3689348814741910323)) + (zul (((x0 - ((zul x0 1) &&& 6148914691236517205)) &&& 3689348814741910323) + ((zul (x0 - ((zul x0 1) &&& 6148914691236517205)) 2) &&& 3689348814741910323)) 4)) &&& 1085102592571150095) 8)) + (zul ((((((x0 - ((zul x0 1) &&& 6148914691236517205)) &&& 3689348814741910323) + ((zul (x0 - ((zul x0 1) &&& 6148914691236517205)) 2) &&& 3689348814741910323)) + (zul (((x0 - ((zul x0 1) &&& 6148914691236517205)) &&& 3689348814741910323) + ((zul (x0 - ((zul x0 1) &&& 6148914691236517205)) 2) &&& 3689348814741910323)) 4)) &&& 1085102592571150095) + (zul (((((x0 - ((zul x0 1) &&& 6148914691236517205)) &&& 3689348814741910323) + ((zul (x0 - ((zul x0 1) &&& 6148914691236517205)) 2) &&& 3689348814741910323)) + (zul (((x0 - ((zul x0 1) &&& 6148914691236517205)) &&& 3689348814741910323) + ((zul (x0 - ((zul x0 1) &&& 6148914691236517205)) 2) &&& 3689348814741910323)) 4)) &&& 1085102592571150095) 8)) 16)) 32)))]) hx hb dJ13_bitCount_95d88_54 rfl hl (by decide) rfl (fun ls hl => ?_)
  refine lv_lload_n (pc := 55) hx hb dJ13_bitCount_95d88_55 rfl (lv_at hl 0 rfl) ?_
  refine lv_l2i (pc := 56) hx hb dJ13_bitCount_95d88_56 rfl ?_
  refine lv_bipush (pc := 57) (v := 127) hx hb dJ13_bitCount_95d88_57 (by decide) ?_
  refine lv_iand (pc := 59) hx hb dJ13_bitCount_95d88_59 ?_
  exact xreti (pc := 60) hx hb hr hlocks hP hK hE hS h dJ13_bitCount_95d88_60
def F_J7_fill_d0a16_6 (N : Nat) (x0 : Nat) (x1 : Int64) (x4 : Int32) (again6 : (Int32 × zS) → Option (Unit × zS)) : Int32 × zS → Option (Unit × zS)
  | (x3, σ) =>
  if x4 ≤ x3 then
    (some ((), σ))
  else
    (zl (sJ x0 x3 x1 σ) fun σ2 =>
    again6 (x3 + 1, σ2))
def f_J7_fill_d0a16 (N : Nat) (x0 : Nat) (x1 : Int64) (σ : zS) : Option (Unit × zS) :=
  zl (aL 15 x0) fun v1 =>
  zlp (F_J7_fill_d0a16_6 N x0 x1 v1) N (0, σ)
set_option maxHeartbeats 4000000 in
set_option maxRecDepth 100000 in
theorem c_J7_fill_d0a16 (l : Launch) (D : va_G) (c : zC) (o : Nat) (g : zEp) (N : Nat) {x0 : Nat} {x1 : Int64} {σ : zS} {ρ : Unit × zS} (h : f_J7_fill_d0a16 N x0 x1 σ = some ρ) : Met l yJ7_fill_d0a16 zs_J7_fill_d0a16 (zr 2) (va_Pc [.ref (o + x0), .long x1] (zG D c o g σ)) (zQu D c o g ρ) 0 0 (zA o) := by
  refine zMetG (by decide) (Nat.le_of_ble_eq_true rfl) ?_
  intro p e s m below meth cd ⟨hx, hb, hr, hml, hown, hts, hlocks⟩ hP hK hE ls hl
  have hS : va_S (zA o) s.heap s.heap [] := va_S.rf
  have hl : lv_has ls 5 [(0, .ref (o + x0)), (1, .long x1)] := hl
  rw [f_J7_fill_d0a16.eq_1] at h
  refine lv_iconst (pc := 0) (v := 0) hx hb dJ7_fill_d0a16_0 (by decide) ?_
  refine lv_istore_n (pc := 1) (lv' := [(3, .int 0), (0, .ref (o + x0)), (1, .long x1)]) hx hb dJ7_fill_d0a16_1 rfl hl (by decide) rfl (fun ls hl => ?_)
  refine lv_aload_n (pc := 2) hx hb dJ7_fill_d0a16_2 rfl (lv_at hl 1 rfl) ?_
  obtain ⟨v1, hv, h⟩ := zl_some h
  refine xLJ (pc := 3) hx hb hK hP hv dJ7_fill_d0a16_3 ?_
  refine lv_istore (pc := 4) (lv' := [(4, .int v1), (3, .int 0), (0, .ref (o + x0)), (1, .long x1)]) hx hb dJ7_fill_d0a16_4 hl (by decide) rfl (fun ls hl => ?_)
  have L6_2 : ∀ (n : Nat) (t : Int32 × zS), zlp (F_J7_fill_d0a16_6 N x0 x1 v1) n t = some ρ → ∀ (H : Heap) (locs : List Loc) (ls : Array Slot), zP D c o (zabs o (t.2)) H → va_S (zA o) s.heap H locs → lv_has ls 5 [(3, .int (t.1)), (0, .ref (o + x0)), (1, .long x1), (4, .int v1)] → W p l e (zr 2) s m (([.ref (o + x0), .long x1] : List Value).toArray) below meth cd H locs 0 0 (MQ below (zQu D c o g ρ) (([.ref (o + x0), .long x1] : List Value).toArray) s 0 0 (zA o)) (F0 m 6 ls []) := by
    refine zlp_ind (fun ag2 ih2 t h H locs ls hP hS hl => ?_)
    obtain ⟨x3_2, σ2⟩ := t
    have hP : zP D c o (zabs o σ2) H := hP
    have hl : lv_has ls 5 [(3, .int x3_2), (0, .ref (o + x0)), (1, .long x1), (4, .int v1)] := hl
    rw [F_J7_fill_d0a16_6.eq_1] at h
    show W p l e (zr 2) s m (([.ref (o + x0), .long x1] : List Value).toArray) below meth cd H locs 0 0 (MQ below (zQu D c o g ρ) (([.ref (o + x0), .long x1] : List Value).toArray) s 0 0 (zA o)) (F0 m 6 ls [])
    refine lv_iload_n (pc := 6) hx hb dJ7_fill_d0a16_6 rfl (lv_at hl 0 rfl) ?_
    refine lv_iload (pc := 7) hx hb dJ7_fill_d0a16_7 (lv_at hl 3 rfl) ?_
    refine lv_icmp_ge (pc := 9) (tgt := 22) hx hb dJ7_fill_d0a16_9 (by decide) (fun c1 => ?_) (fun c1 => ?_)
    · rw [if_pos c1] at h
      exact xretv (pc := 22) hx hb hr hlocks hP hK hE hS h dJ7_fill_d0a16_22
    · rw [if_neg c1] at h
      refine lv_aload_n (pc := 12) hx hb dJ7_fill_d0a16_12 rfl (lv_at hl 1 rfl) ?_
      refine lv_iload_n (pc := 13) hx hb dJ7_fill_d0a16_13 rfl (lv_at hl 0 rfl) ?_
      refine lv_lload_n (pc := 14) hx hb dJ7_fill_d0a16_14 rfl (lv_at hl 2 rfl) ?_
      obtain ⟨σ3, hv, h⟩ := zl_some h
      refine xsJ (pc := 15) hx hb hK hP hS hv dJ7_fill_d0a16_15 (fun H locs hP hS => ?_)
      refine lv_iinc (pc := 16) (v := x3_2 + 1) (lv' := [(3, .int (x3_2 + 1)), (0, .ref (o + x0)), (1, .long x1), (4, .int v1)]) hx hb dJ7_fill_d0a16_16 hl (k := 0) rfl rfl (by decide) rfl (fun ls hl => ?_)
      refine lv_goto (pc := 19) (tgt := 6) hx hb dJ7_fill_d0a16_19 (by decide) ?_
      exact ih2 (x3_2 + 1, σ3) h _ _ ls hP hS (lv_sub hl [0, 1, 2, 3] rfl)
  exact L6_2 N (0, σ) h _ _ ls hP hS (lv_sub hl [1, 2, 3, 0] rfl)
def F_J7_fill_53178_5 (N : Nat) (x0 : Nat) (x1 : Int32) (x3 : Int32) (again5 : (Int32 × zS) → Option (Unit × zS)) : Int32 × zS → Option (Unit × zS)
  | (x2, σ) =>
  if x3 ≤ x2 then
    (some ((), σ))
  else
    (zl (sI 14 x0 x2 x1 σ) fun σ2 =>
    again5 (x2 + 1, σ2))
def f_J7_fill_53178 (N : Nat) (x0 : Nat) (x1 : Int32) (σ : zS) : Option (Unit × zS) :=
  zl (aL 14 x0) fun v1 =>
  zlp (F_J7_fill_53178_5 N x0 x1 v1) N (0, σ)
set_option maxHeartbeats 4000000 in
set_option maxRecDepth 100000 in
theorem c_J7_fill_53178 (l : Launch) (D : va_G) (c : zC) (o : Nat) (g : zEp) (N : Nat) {x0 : Nat} {x1 : Int32} {σ : zS} {ρ : Unit × zS} (h : f_J7_fill_53178 N x0 x1 σ = some ρ) : Met l yJ7_fill_53178 zs_J7_fill_53178 (zr 2) (va_Pc [.ref (o + x0), .int x1] (zG D c o g σ)) (zQu D c o g ρ) 0 0 (zA o) := by
  refine zMetG (by decide) (Nat.le_of_ble_eq_true rfl) ?_
  intro p e s m below meth cd ⟨hx, hb, hr, hml, hown, hts, hlocks⟩ hP hK hE ls hl
  have hS : va_S (zA o) s.heap s.heap [] := va_S.rf
  have hl : lv_has ls 4 [(0, .ref (o + x0)), (1, .int x1)] := hl
  rw [f_J7_fill_53178.eq_1] at h
  refine lv_iconst (pc := 0) (v := 0) hx hb dJ7_fill_53178_0 (by decide) ?_
  refine lv_istore_n (pc := 1) (lv' := [(2, .int 0), (0, .ref (o + x0)), (1, .int x1)]) hx hb dJ7_fill_53178_1 rfl hl (by decide) rfl (fun ls hl => ?_)
  refine lv_aload_n (pc := 2) hx hb dJ7_fill_53178_2 rfl (lv_at hl 1 rfl) ?_
  obtain ⟨v1, hv, h⟩ := zl_some h
  refine xLI (pc := 3) hx hb hK hP hv dJ7_fill_53178_3 ?_
  refine lv_istore_n (pc := 4) (lv' := [(3, .int v1), (2, .int 0), (0, .ref (o + x0)), (1, .int x1)]) hx hb dJ7_fill_53178_4 rfl hl (by decide) rfl (fun ls hl => ?_)
  have L5_2 : ∀ (n : Nat) (t : Int32 × zS), zlp (F_J7_fill_53178_5 N x0 x1 v1) n t = some ρ → ∀ (H : Heap) (locs : List Loc) (ls : Array Slot), zP D c o (zabs o (t.2)) H → va_S (zA o) s.heap H locs → lv_has ls 4 [(2, .int (t.1)), (0, .ref (o + x0)), (1, .int x1), (3, .int v1)] → W p l e (zr 2) s m (([.ref (o + x0), .int x1] : List Value).toArray) below meth cd H locs 0 0 (MQ below (zQu D c o g ρ) (([.ref (o + x0), .int x1] : List Value).toArray) s 0 0 (zA o)) (F0 m 5 ls []) := by
    refine zlp_ind (fun ag2 ih2 t h H locs ls hP hS hl => ?_)
    obtain ⟨x2_2, σ2⟩ := t
    have hP : zP D c o (zabs o σ2) H := hP
    have hl : lv_has ls 4 [(2, .int x2_2), (0, .ref (o + x0)), (1, .int x1), (3, .int v1)] := hl
    rw [F_J7_fill_53178_5.eq_1] at h
    show W p l e (zr 2) s m (([.ref (o + x0), .int x1] : List Value).toArray) below meth cd H locs 0 0 (MQ below (zQu D c o g ρ) (([.ref (o + x0), .int x1] : List Value).toArray) s 0 0 (zA o)) (F0 m 5 ls [])
    refine lv_iload_n (pc := 5) hx hb dJ7_fill_53178_5 rfl (lv_at hl 0 rfl) ?_
    refine lv_iload_n (pc := 6) hx hb dJ7_fill_53178_6 rfl (lv_at hl 3 rfl) ?_
    refine lv_icmp_ge (pc := 7) (tgt := 20) hx hb dJ7_fill_53178_7 (by decide) (fun c1 => ?_) (fun c1 => ?_)
    · rw [if_pos c1] at h
      exact xretv (pc := 20) hx hb hr hlocks hP hK hE hS h dJ7_fill_53178_20
    · rw [if_neg c1] at h
      refine lv_aload_n (pc := 10) hx hb dJ7_fill_53178_10 rfl (lv_at hl 1 rfl) ?_
      refine lv_iload_n (pc := 11) hx hb dJ7_fill_53178_11 rfl (lv_at hl 0 rfl) ?_
      refine lv_iload_n (pc := 12) hx hb dJ7_fill_53178_12 rfl (lv_at hl 2 rfl) ?_
      obtain ⟨σ3, hv, h⟩ := zl_some h
      refine xsI (pc := 13) hx hb hK hP hS hv dJ7_fill_53178_13 (fun H locs hP hS => ?_)
      refine lv_iinc (pc := 14) (v := x2_2 + 1) (lv' := [(2, .int (x2_2 + 1)), (0, .ref (o + x0)), (1, .int x1), (3, .int v1)]) hx hb dJ7_fill_53178_14 hl (k := 0) rfl rfl (by decide) rfl (fun ls hl => ?_)
      refine lv_goto (pc := 17) (tgt := 5) hx hb dJ7_fill_53178_17 (by decide) ?_
      exact ih2 (x2_2 + 1, σ3) h _ _ ls hP hS (lv_sub hl [0, 1, 2, 3] rfl)
  exact L5_2 N (0, σ) h _ _ ls hP hS (lv_sub hl [1, 2, 3, 0] rfl)
def F_X2_raise_66 (N : Nat) (x0 : Nat) (x2 : Int32) (again66 : (Int32 × zS) → Option (Unit × zS)) : Int32 × zS → Option (Unit × zS)
  | (x3, σ) =>
  if 16 ≤ (x3 + x2) then
    (some ((), σ))
  else
    (if (x3 &&& x2) = 0 then
      (zl (gR 2 0 x0 σ) fun v1 =>
      zl (aJ v1 (x3 + x2) σ) fun v2 =>
      zl (gR 2 0 x0 σ) fun v3 =>
      zl (aJ v3 x3 σ) fun v4 =>
      zl (sJ v1 (x3 + x2) (v2 ||| v4) σ) fun σ5 =>
      again66 (x3 + 1, σ5))
    else
      (again66 (x3 + 1, σ)))
def F_X2_raise_19 (N : Nat) (x0 : Nat) (x1 : Int32) (again19 : (Int32 × zS) → Option (Unit × zS)) : Int32 × zS → Option (Unit × zS)
  | (x2, σ) =>
  if 16 ≤ x2 then
    (some ((), σ))
  else
    (zl (gR 2 0 x0 σ) fun v6 =>
    zl (aJ v6 x2 σ) fun v7 =>
    zl (gR 2 0 x0 σ) fun v8 =>
    zl (aJ v8 x2 σ) fun v9 =>
    zl (aW x1) fun v10 =>
    zl (sJ v6 x2 (v7 ||| (zsl (v9 &&& v10) ((1 : Int32) <<< (x1 &&& 31)))) σ) fun σ11 =>
    again19 (x2 + 1, σ11))
def f_X2_raise (N : Nat) (x0 : Nat) (x1 : Int32) (σ : zS) : Option (Unit × zS) :=
  if x1 < 0 then
    (some ((), σ))
  else
    (if x1 < 10 then
      (if 6 ≤ x1 then
        (zlp (F_X2_raise_66 N x0 ((1 : Int32) <<< ((x1 - 6) &&& 31))) N (0, σ))
      else
        (zlp (F_X2_raise_19 N x0 x1) N (0, σ)))
    else
      (some ((), σ)))
set_option maxHeartbeats 4000000 in
set_option maxRecDepth 100000 in
theorem c_X2_raise (l : Launch) (D : va_G) (c : zC) (o : Nat) (g : zEp) (N : Nat) {x0 : Nat} {x1 : Int32} {σ : zS} {ρ : Unit × zS} (h : f_X2_raise N x0 x1 σ = some ρ) : Met l yX2_raise zs_X2_raise (zr 2) (va_Pc [.ref (o + x0), .int x1] (zG D c o g σ)) (zQu D c o g ρ) 0 0 (zA o) := by
  refine zMetG (by decide) (Nat.le_of_ble_eq_true rfl) ?_
  intro p e s m below meth cd ⟨hx, hb, hr, hml, hown, hts, hlocks⟩ hP hK hE ls hl
  have hS : va_S (zA o) s.heap s.heap [] := va_S.rf
  have hl : lv_has ls 4 [(0, .ref (o + x0)), (1, .int x1)] := hl
  rw [f_X2_raise.eq_1] at h
  refine lv_iload_n (pc := 0) hx hb dX2_raise_0 rfl (lv_at hl 1 rfl) ?_
  refine lv_if_lt (pc := 1) (tgt := 10) hx hb dX2_raise_1 (by decide) (fun c1 => ?_) (fun c1 => ?_)
  · rw [if_pos c1] at h
    exact xretv (pc := 10) hx hb hr hlocks hP hK hE hS h dX2_raise_10
  · rw [if_neg c1] at h
    refine lv_iload_n (pc := 4) hx hb dX2_raise_4 rfl (lv_at hl 1 rfl) ?_
    refine lv_bipush (pc := 5) (v := 10) hx hb dX2_raise_5 (by decide) ?_
    refine lv_icmp_lt (pc := 7) (tgt := 11) hx hb dX2_raise_7 (by decide) (fun c1 => ?_) (fun c1 => ?_)
    · rw [if_pos c1] at h
      refine lv_iload_n (pc := 11) hx hb dX2_raise_11 rfl (lv_at hl 1 rfl) ?_
      refine lv_bipush (pc := 12) (v := 6) hx hb dX2_raise_12 (by decide) ?_
      refine lv_icmp_ge (pc := 14) (tgt := 57) hx hb dX2_raise_14 (by decide) (fun c1 => ?_) (fun c1 => ?_)
      · rw [if_pos c1] at h
        refine lv_iconst (pc := 57) (v := 1) hx hb dX2_raise_57 (by decide) ?_
        refine lv_iload_n (pc := 58) hx hb dX2_raise_58 rfl (lv_at hl 1 rfl) ?_
        refine lv_bipush (pc := 59) (v := 6) hx hb dX2_raise_59 (by decide) ?_
        refine lv_isub (pc := 61) hx hb dX2_raise_61 ?_
        refine lv_ishl (pc := 62) hx hb dX2_raise_62 ?_
        refine lv_istore_n (pc := 63) (lv' := [(2, .int ((1 : Int32) <<< ((x1 - 6) &&& 31))), (0, .ref (o + x0)), (1, .int x1)]) hx hb dX2_raise_63 rfl hl (by decide) rfl (fun ls hl => ?_)
        refine lv_iconst (pc := 64) (v := 0) hx hb dX2_raise_64 (by decide) ?_
        refine lv_istore_n (pc := 65) (lv' := [(3, .int 0), (2, .int ((1 : Int32) <<< ((x1 - 6) &&& 31))), (0, .ref (o + x0)), (1, .int x1)]) hx hb dX2_raise_65 rfl hl (by decide) rfl (fun ls hl => ?_)
        have L66_1 : ∀ (n : Nat) (t : Int32 × zS), zlp (F_X2_raise_66 N x0 ((1 : Int32) <<< ((x1 - 6) &&& 31))) n t = some ρ → ∀ (H : Heap) (locs : List Loc) (ls : Array Slot), zP D c o (zabs o (t.2)) H → va_S (zA o) s.heap H locs → lv_has ls 4 [(3, .int (t.1)), (0, .ref (o + x0)), (2, .int ((1 : Int32) <<< ((x1 - 6) &&& 31)))] → W p l e (zr 2) s m (([.ref (o + x0), .int x1] : List Value).toArray) below meth cd H locs 0 0 (MQ below (zQu D c o g ρ) (([.ref (o + x0), .int x1] : List Value).toArray) s 0 0 (zA o)) (F0 m 66 ls []) := by
          refine zlp_ind (fun ag1 ih1 t h H locs ls hP hS hl => ?_)
          obtain ⟨x3_1, σ1⟩ := t
          have hP : zP D c o (zabs o σ1) H := hP
          have hl : lv_has ls 4 [(3, .int x3_1), (0, .ref (o + x0)), (2, .int ((1 : Int32) <<< ((x1 - 6) &&& 31)))] := hl
          rw [F_X2_raise_66.eq_1] at h
          show W p l e (zr 2) s m (([.ref (o + x0), .int x1] : List Value).toArray) below meth cd H locs 0 0 (MQ below (zQu D c o g ρ) (([.ref (o + x0), .int x1] : List Value).toArray) s 0 0 (zA o)) (F0 m 66 ls [])
          refine lv_iload_n (pc := 66) hx hb dX2_raise_66 rfl (lv_at hl 0 rfl) ?_
          refine lv_iload_n (pc := 67) hx hb dX2_raise_67 rfl (lv_at hl 2 rfl) ?_
          refine lv_iadd (pc := 68) hx hb dX2_raise_68 ?_
          refine lv_bipush (pc := 69) (v := 16) hx hb dX2_raise_69 (by decide) ?_
          refine lv_icmp_ge (pc := 71) (tgt := 103) hx hb dX2_raise_71 (by decide) (fun c1 => ?_) (fun c1 => ?_)
          · rw [if_pos c1] at h
            exact xretv (pc := 103) hx hb hr hlocks hP hK hE hS h dX2_raise_103
          · rw [if_neg c1] at h
            refine lv_iload_n (pc := 74) hx hb dX2_raise_74 rfl (lv_at hl 0 rfl) ?_
            refine lv_iload_n (pc := 75) hx hb dX2_raise_75 rfl (lv_at hl 2 rfl) ?_
            refine lv_iand (pc := 76) hx hb dX2_raise_76 ?_
            refine lv_if_ne (pc := 77) (tgt := 97) hx hb dX2_raise_77 (by decide) (fun c1 => ?_) (fun c1 => ?_)
            · rw [if_neg c1] at h
              refine lv_iinc (pc := 97) (v := x3_1 + 1) (lv' := [(3, .int (x3_1 + 1)), (0, .ref (o + x0)), (2, .int ((1 : Int32) <<< ((x1 - 6) &&& 31)))]) hx hb dX2_raise_97 hl (k := 0) rfl rfl (by decide) rfl (fun ls hl => ?_)
              refine lv_goto (pc := 100) (tgt := 66) hx hb dX2_raise_100 (by decide) ?_
              exact ih1 (x3_1 + 1, σ1) h _ _ ls hP hS (lv_sub hl [0, 1, 2] rfl)
            · rw [if_pos c1] at h
              refine lv_aload_n (pc := 80) hx hb dX2_raise_80 rfl (lv_at hl 1 rfl) ?_
              obtain ⟨v2, hv, h⟩ := zl_some h
              refine xgR (pc := 81) (j := 0) zc2 hx hb hts hown hK hP hv rfl zf_X2_11 dX2_raise_81 ?_
              refine lv_iload_n (pc := 84) hx hb dX2_raise_84 rfl (lv_at hl 0 rfl) ?_
              refine lv_iload_n (pc := 85) hx hb dX2_raise_85 rfl (lv_at hl 2 rfl) ?_
              refine lv_iadd (pc := 86) hx hb dX2_raise_86 ?_
              refine lv_dup2_11 (pc := 87) hx hb dX2_raise_87 rfl rfl ?_
              obtain ⟨v3, hv, h⟩ := zl_some h
              refine xaJ (pc := 88) hx hb hK hP hv dX2_raise_88 ?_
              refine lv_aload_n (pc := 89) hx hb dX2_raise_89 rfl (lv_at hl 1 rfl) ?_
              obtain ⟨v4, hv, h⟩ := zl_some h
              refine xgR (pc := 90) (j := 0) zc2 hx hb hts hown hK hP hv rfl zf_X2_11 dX2_raise_90 ?_
              refine lv_iload_n (pc := 93) hx hb dX2_raise_93 rfl (lv_at hl 0 rfl) ?_
              obtain ⟨v5, hv, h⟩ := zl_some h
              refine xaJ (pc := 94) hx hb hK hP hv dX2_raise_94 ?_
              refine lv_lor (pc := 95) hx hb dX2_raise_95 ?_
              obtain ⟨σ6, hv, h⟩ := zl_some h
              refine xsJ (pc := 96) hx hb hK hP hS hv dX2_raise_96 (fun H locs hP hS => ?_)
              refine lv_iinc (pc := 97) (v := x3_1 + 1) (lv' := [(3, .int (x3_1 + 1)), (0, .ref (o + x0)), (2, .int ((1 : Int32) <<< ((x1 - 6) &&& 31)))]) hx hb dX2_raise_97 hl (k := 0) rfl rfl (by decide) rfl (fun ls hl => ?_)
              refine lv_goto (pc := 100) (tgt := 66) hx hb dX2_raise_100 (by decide) ?_
              exact ih1 (x3_1 + 1, σ6) h _ _ ls hP hS (lv_sub hl [0, 1, 2] rfl)
        exact L66_1 N (0, σ) h _ _ ls hP hS (lv_sub hl [0, 2, 1] rfl)
      · rw [if_neg c1] at h
        refine lv_iconst (pc := 17) (v := 0) hx hb dX2_raise_17 (by decide) ?_
        refine lv_istore_n (pc := 18) (lv' := [(2, .int 0), (0, .ref (o + x0)), (1, .int x1)]) hx hb dX2_raise_18 rfl hl (by decide) rfl (fun ls hl => ?_)
        have L19_7 : ∀ (n : Nat) (t : Int32 × zS), zlp (F_X2_raise_19 N x0 x1) n t = some ρ → ∀ (H : Heap) (locs : List Loc) (ls : Array Slot), zP D c o (zabs o (t.2)) H → va_S (zA o) s.heap H locs → lv_has ls 4 [(2, .int (t.1)), (0, .ref (o + x0)), (1, .int x1)] → W p l e (zr 2) s m (([.ref (o + x0), .int x1] : List Value).toArray) below meth cd H locs 0 0 (MQ below (zQu D c o g ρ) (([.ref (o + x0), .int x1] : List Value).toArray) s 0 0 (zA o)) (F0 m 19 ls []) := by
          refine zlp_ind (fun ag7 ih7 t h H locs ls hP hS hl => ?_)
          obtain ⟨x2_7, σ7⟩ := t
          have hP : zP D c o (zabs o σ7) H := hP
          have hl : lv_has ls 4 [(2, .int x2_7), (0, .ref (o + x0)), (1, .int x1)] := hl
          rw [F_X2_raise_19.eq_1] at h
          show W p l e (zr 2) s m (([.ref (o + x0), .int x1] : List Value).toArray) below meth cd H locs 0 0 (MQ below (zQu D c o g ρ) (([.ref (o + x0), .int x1] : List Value).toArray) s 0 0 (zA o)) (F0 m 19 ls [])
          refine lv_iload_n (pc := 19) hx hb dX2_raise_19 rfl (lv_at hl 0 rfl) ?_
          refine lv_bipush (pc := 20) (v := 16) hx hb dX2_raise_20 (by decide) ?_
          refine lv_icmp_ge (pc := 22) (tgt := 56) hx hb dX2_raise_22 (by decide) (fun c1 => ?_) (fun c1 => ?_)
          · rw [if_pos c1] at h
            exact xretv (pc := 56) hx hb hr hlocks hP hK hE hS h dX2_raise_56
          · rw [if_neg c1] at h
            refine lv_aload_n (pc := 25) hx hb dX2_raise_25 rfl (lv_at hl 1 rfl) ?_
            obtain ⟨v8, hv, h⟩ := zl_some h
            refine xgR (pc := 26) (j := 0) zc2 hx hb hts hown hK hP hv rfl zf_X2_11 dX2_raise_26 ?_
            refine lv_iload_n (pc := 29) hx hb dX2_raise_29 rfl (lv_at hl 0 rfl) ?_
            refine lv_dup2_11 (pc := 30) hx hb dX2_raise_30 rfl rfl ?_
            obtain ⟨v9, hv, h⟩ := zl_some h
            refine xaJ (pc := 31) hx hb hK hP hv dX2_raise_31 ?_
            refine lv_aload_n (pc := 32) hx hb dX2_raise_32 rfl (lv_at hl 1 rfl) ?_
            obtain ⟨v10, hv, h⟩ := zl_some h
            refine xgR (pc := 33) (j := 0) zc2 hx hb hts hown hK hP hv rfl zf_X2_11 dX2_raise_33 ?_
            refine lv_iload_n (pc := 36) hx hb dX2_raise_36 rfl (lv_at hl 0 rfl) ?_
            obtain ⟨v11, hv, h⟩ := zl_some h
            refine xaJ (pc := 37) hx hb hK hP hv dX2_raise_37 ?_
            refine xgW (pc := 38) hx hb hts hown hE hS zf_X2_45 dX2_raise_38 ?_
            refine lv_iload_n (pc := 41) hx hb dX2_raise_41 rfl (lv_at hl 2 rfl) ?_
            obtain ⟨v12, hv, h⟩ := zl_some h
            refine xaW (pc := 42) hx hb hE hS hv dX2_raise_42 ?_
            refine lv_land (pc := 43) hx hb dX2_raise_43 ?_
            refine lv_iconst (pc := 44) (v := 1) hx hb dX2_raise_44 (by decide) ?_
            refine lv_iload_n (pc := 45) hx hb dX2_raise_45 rfl (lv_at hl 2 rfl) ?_
            refine lv_ishl (pc := 46) hx hb dX2_raise_46 ?_
            refine lv_lshl (pc := 47) (v := zsl (v11 &&& v12) ((1 : Int32) <<< (x1 &&& 31))) hx hb dX2_raise_47 rfl ?_
            refine lv_lor (pc := 48) hx hb dX2_raise_48 ?_
            obtain ⟨σ13, hv, h⟩ := zl_some h
            refine xsJ (pc := 49) hx hb hK hP hS hv dX2_raise_49 (fun H locs hP hS => ?_)
            refine lv_iinc (pc := 50) (v := x2_7 + 1) (lv' := [(2, .int (x2_7 + 1)), (0, .ref (o + x0)), (1, .int x1)]) hx hb dX2_raise_50 hl (k := 0) rfl rfl (by decide) rfl (fun ls hl => ?_)
            refine lv_goto (pc := 53) (tgt := 19) hx hb dX2_raise_53 (by decide) ?_
            exact ih7 (x2_7 + 1, σ13) h _ _ ls hP hS (lv_sub hl [0, 1, 2] rfl)
        exact L19_7 N (0, σ) h _ _ ls hP hS (lv_sub hl [0, 1, 2] rfl)
    · rw [if_neg c1] at h
      exact xretv (pc := 10) hx hb hr hlocks hP hK hE hS h dX2_raise_10
def F_X0_raiseAll_2 (N : Nat) (x1 : Nat) (x2 : Int32) (again2 : (Int32 × zS) → Option (Unit × zS)) : Int32 × zS → Option (Unit × zS)
  | (x3, σ) =>
  if x2 ≤ x3 then
    (some ((), σ))
  else
    (zl (gC 2 x1) fun _ => zb (f_X2_raise N x1 x3 σ) fun v1 σ2 =>
    again2 (x3 + 1, σ2))
def f_X0_raiseAll (N : Nat) (x0 : Nat) (x1 : Nat) (x2 : Int32) (σ : zS) : Option (Unit × zS) :=
  zlp (F_X0_raiseAll_2 N x1 x2) N (0, σ)
set_option maxHeartbeats 4000000 in
set_option maxRecDepth 100000 in
theorem c_X0_raiseAll (l : Launch) (D : va_G) (c : zC) (o : Nat) (g : zEp) (N : Nat) {x0 : Nat} {x1 : Nat} {x2 : Int32} {σ : zS} {ρ : Unit × zS} (h : f_X0_raiseAll N x0 x1 x2 σ = some ρ) : Met l yX0_raiseAll zs_X0_raiseAll (zr 4) (va_Pc [.ref (o + x0), .ref (o + x1), .int x2] (zG D c o g σ)) (zQu D c o g ρ) 0 0 (zA o) := by
  refine zMetG (by decide) (Nat.le_of_ble_eq_true rfl) ?_
  intro p e s m below meth cd ⟨hx, hb, hr, hml, hown, hts, hlocks⟩ hP hK hE ls hl
  have hS : va_S (zA o) s.heap s.heap [] := va_S.rf
  have hl : lv_has ls 4 [(0, .ref (o + x0)), (1, .ref (o + x1)), (2, .int x2)] := hl
  rw [f_X0_raiseAll.eq_1] at h
  refine lv_iconst (pc := 0) (v := 0) hx hb dX0_raiseAll_0 (by decide) ?_
  refine lv_istore_n (pc := 1) (lv' := [(3, .int 0), (0, .ref (o + x0)), (1, .ref (o + x1)), (2, .int x2)]) hx hb dX0_raiseAll_1 rfl hl (by decide) rfl (fun ls hl => ?_)
  have L2_1 : ∀ (n : Nat) (t : Int32 × zS), zlp (F_X0_raiseAll_2 N x1 x2) n t = some ρ → ∀ (H : Heap) (locs : List Loc) (ls : Array Slot), zP D c o (zabs o (t.2)) H → va_S (zA o) s.heap H locs → lv_has ls 4 [(3, .int (t.1)), (1, .ref (o + x1)), (2, .int x2)] → W p l e (zr 4) s m (([.ref (o + x0), .ref (o + x1), .int x2] : List Value).toArray) below meth cd H locs 0 0 (MQ below (zQu D c o g ρ) (([.ref (o + x0), .ref (o + x1), .int x2] : List Value).toArray) s 0 0 (zA o)) (F0 m 2 ls []) := by
    refine zlp_ind (fun ag1 ih1 t h H locs ls hP hS hl => ?_)
    obtain ⟨x3_1, σ1⟩ := t
    have hP : zP D c o (zabs o σ1) H := hP
    have hl : lv_has ls 4 [(3, .int x3_1), (1, .ref (o + x1)), (2, .int x2)] := hl
    rw [F_X0_raiseAll_2.eq_1] at h
    show W p l e (zr 4) s m (([.ref (o + x0), .ref (o + x1), .int x2] : List Value).toArray) below meth cd H locs 0 0 (MQ below (zQu D c o g ρ) (([.ref (o + x0), .ref (o + x1), .int x2] : List Value).toArray) s 0 0 (zA o)) (F0 m 2 ls [])
    refine lv_iload_n (pc := 2) hx hb dX0_raiseAll_2 rfl (lv_at hl 0 rfl) ?_
    refine lv_iload_n (pc := 3) hx hb dX0_raiseAll_3 rfl (lv_at hl 2 rfl) ?_
    refine lv_icmp_ge (pc := 4) (tgt := 18) hx hb dX0_raiseAll_4 (by decide) (fun c1 => ?_) (fun c1 => ?_)
    · rw [if_pos c1] at h
      exact xretv (pc := 18) hx hb hr hlocks hP hK hE hS h dX0_raiseAll_18
    · rw [if_neg c1] at h
      refine lv_aload_n (pc := 7) hx hb dX0_raiseAll_7 rfl (lv_at hl 1 rfl) ?_
      refine lv_iload_n (pc := 8) hx hb dX0_raiseAll_8 rfl (lv_at hl 0 rfl) ?_
      obtain ⟨_, hg, h⟩ := zl_some h
      obtain ⟨v2, σ3, hv, h⟩ := zb_some h
      refine xcallVv (pc := 9) (As := [.int x3_1]) (rest := []) ⟨hx, hb, hml, hown, hts⟩ (c_X2_raise l D c o g N hv) zc2 zV_X0_74 rfl zd_X2_raise ⟨Nat.le_of_ble_eq_true rfl, Nat.le_of_ble_eq_true rfl⟩ hK hP hE hS hg hl.1 rfl (Nat.le_of_ble_eq_true rfl) ⟨Nat.zero_le _, Nat.zero_le _⟩ dX0_raiseAll_9 (fun H locs hP hS => ?_)
      refine lv_iinc (pc := 12) (v := x3_1 + 1) (lv' := [(3, .int (x3_1 + 1)), (1, .ref (o + x1)), (2, .int x2)]) hx hb dX0_raiseAll_12 hl (k := 0) rfl rfl (by decide) rfl (fun ls hl => ?_)
      refine lv_goto (pc := 15) (tgt := 2) hx hb dX0_raiseAll_15 (by decide) ?_
      exact ih1 (x3_1 + 1, σ3) h _ _ ls hP hS (lv_sub hl [0, 1, 2] rfl)
  exact L2_1 N (0, σ) h _ _ ls hP hS (lv_sub hl [0, 2, 3] rfl)
def F_X2_flip_80 (N : Nat) (x0 : Nat) (x2 : Int32) (again80 : (Int32 × zS) → Option (Unit × zS)) : Int32 × zS → Option (Unit × zS)
  | (x3, σ) =>
  if 16 ≤ (x3 + x2) then
    (some ((), σ))
  else
    (if (x3 &&& x2) = 0 then
      (zl (gR 2 0 x0 σ) fun v1 =>
      zl (aJ v1 x3 σ) fun v2 =>
      zl (gR 2 0 x0 σ) fun v3 =>
      zl (gR 2 0 x0 σ) fun v4 =>
      zl (aJ v4 (x3 + x2) σ) fun v5 =>
      zl (sJ v3 x3 v5 σ) fun σ6 =>
      zl (gR 2 0 x0 σ6) fun v7 =>
      zl (sJ v7 (x3 + x2) v2 σ6) fun σ8 =>
      again80 (x3 + 1, σ8))
    else
      (again80 (x3 + 1, σ)))
def F_X2_flip_23 (N : Nat) (x0 : Nat) (x1 : Int32) (x2 : Int32) (again23 : (Int32 × zS) → Option (Unit × zS)) : Int32 × zS → Option (Unit × zS)
  | (x3, σ) =>
  if 16 ≤ x3 then
    (some ((), σ))
  else
    (zl (gR 2 0 x0 σ) fun v9 =>
    zl (gR 2 0 x0 σ) fun v10 =>
    zl (aJ v10 x3 σ) fun v11 =>
    zl (aW x1) fun v12 =>
    zl (gR 2 0 x0 σ) fun v13 =>
    zl (aJ v13 x3 σ) fun v14 =>
    zl (aW x1) fun v15 =>
    zl (sJ v9 x3 ((zsl (v11 &&& v12) x2) ||| ((zul v14 x2) &&& v15)) σ) fun σ16 =>
    again23 (x3 + 1, σ16))
def f_X2_flip (N : Nat) (x0 : Nat) (x1 : Int32) (σ : zS) : Option (Unit × zS) :=
  if x1 < 0 then
    (some ((), σ))
  else
    (if x1 < 10 then
      (if 6 ≤ x1 then
        (zlp (F_X2_flip_80 N x0 ((1 : Int32) <<< ((x1 - 6) &&& 31))) N (0, σ))
      else
        (zlp (F_X2_flip_23 N x0 x1 ((1 : Int32) <<< (x1 &&& 31))) N (0, σ)))
    else
      (some ((), σ)))
set_option maxHeartbeats 4000000 in
set_option maxRecDepth 100000 in
theorem c_X2_flip (l : Launch) (D : va_G) (c : zC) (o : Nat) (g : zEp) (N : Nat) {x0 : Nat} {x1 : Int32} {σ : zS} {ρ : Unit × zS} (h : f_X2_flip N x0 x1 σ = some ρ) : Met l yX2_flip zs_X2_flip (zr 2) (va_Pc [.ref (o + x0), .int x1] (zG D c o g σ)) (zQu D c o g ρ) 0 0 (zA o) := by
  refine zMetG (by decide) (Nat.le_of_ble_eq_true rfl) ?_
  intro p e s m below meth cd ⟨hx, hb, hr, hml, hown, hts, hlocks⟩ hP hK hE ls hl
  have hS : va_S (zA o) s.heap s.heap [] := va_S.rf
  have hl : lv_has ls 6 [(0, .ref (o + x0)), (1, .int x1)] := hl
  rw [f_X2_flip.eq_1] at h
  refine lv_iload_n (pc := 0) hx hb dX2_flip_0 rfl (lv_at hl 1 rfl) ?_
  refine lv_if_lt (pc := 1) (tgt := 10) hx hb dX2_flip_1 (by decide) (fun c1 => ?_) (fun c1 => ?_)
  · rw [if_pos c1] at h
    exact xretv (pc := 10) hx hb hr hlocks hP hK hE hS h dX2_flip_10
  · rw [if_neg c1] at h
    refine lv_iload_n (pc := 4) hx hb dX2_flip_4 rfl (lv_at hl 1 rfl) ?_
    refine lv_bipush (pc := 5) (v := 10) hx hb dX2_flip_5 (by decide) ?_
    refine lv_icmp_lt (pc := 7) (tgt := 11) hx hb dX2_flip_7 (by decide) (fun c1 => ?_) (fun c1 => ?_)
    · rw [if_pos c1] at h
      refine lv_iload_n (pc := 11) hx hb dX2_flip_11 rfl (lv_at hl 1 rfl) ?_
      refine lv_bipush (pc := 12) (v := 6) hx hb dX2_flip_12 (by decide) ?_
      refine lv_icmp_ge (pc := 14) (tgt := 71) hx hb dX2_flip_14 (by decide) (fun c1 => ?_) (fun c1 => ?_)
      · rw [if_pos c1] at h
        refine lv_iconst (pc := 71) (v := 1) hx hb dX2_flip_71 (by decide) ?_
        refine lv_iload_n (pc := 72) hx hb dX2_flip_72 rfl (lv_at hl 1 rfl) ?_
        refine lv_bipush (pc := 73) (v := 6) hx hb dX2_flip_73 (by decide) ?_
        refine lv_isub (pc := 75) hx hb dX2_flip_75 ?_
        refine lv_ishl (pc := 76) hx hb dX2_flip_76 ?_
        refine lv_istore_n (pc := 77) (lv' := [(2, .int ((1 : Int32) <<< ((x1 - 6) &&& 31))), (0, .ref (o + x0)), (1, .int x1)]) hx hb dX2_flip_77 rfl hl (by decide) rfl (fun ls hl => ?_)
        refine lv_iconst (pc := 78) (v := 0) hx hb dX2_flip_78 (by decide) ?_
        refine lv_istore_n (pc := 79) (lv' := [(3, .int 0), (2, .int ((1 : Int32) <<< ((x1 - 6) &&& 31))), (0, .ref (o + x0)), (1, .int x1)]) hx hb dX2_flip_79 rfl hl (by decide) rfl (fun ls hl => ?_)
        have L80_1 : ∀ (n : Nat) (t : Int32 × zS), zlp (F_X2_flip_80 N x0 ((1 : Int32) <<< ((x1 - 6) &&& 31))) n t = some ρ → ∀ (H : Heap) (locs : List Loc) (ls : Array Slot), zP D c o (zabs o (t.2)) H → va_S (zA o) s.heap H locs → lv_has ls 6 [(3, .int (t.1)), (0, .ref (o + x0)), (2, .int ((1 : Int32) <<< ((x1 - 6) &&& 31)))] → W p l e (zr 2) s m (([.ref (o + x0), .int x1] : List Value).toArray) below meth cd H locs 0 0 (MQ below (zQu D c o g ρ) (([.ref (o + x0), .int x1] : List Value).toArray) s 0 0 (zA o)) (F0 m 80 ls []) := by
          refine zlp_ind (fun ag1 ih1 t h H locs ls hP hS hl => ?_)
          obtain ⟨x3_1, σ1⟩ := t
          have hP : zP D c o (zabs o σ1) H := hP
          have hl : lv_has ls 6 [(3, .int x3_1), (0, .ref (o + x0)), (2, .int ((1 : Int32) <<< ((x1 - 6) &&& 31)))] := hl
          rw [F_X2_flip_80.eq_1] at h
          show W p l e (zr 2) s m (([.ref (o + x0), .int x1] : List Value).toArray) below meth cd H locs 0 0 (MQ below (zQu D c o g ρ) (([.ref (o + x0), .int x1] : List Value).toArray) s 0 0 (zA o)) (F0 m 80 ls [])
          refine lv_iload_n (pc := 80) hx hb dX2_flip_80 rfl (lv_at hl 0 rfl) ?_
          refine lv_iload_n (pc := 81) hx hb dX2_flip_81 rfl (lv_at hl 2 rfl) ?_
          refine lv_iadd (pc := 82) hx hb dX2_flip_82 ?_
          refine lv_bipush (pc := 83) (v := 16) hx hb dX2_flip_83 (by decide) ?_
          refine lv_icmp_ge (pc := 85) (tgt := 132) hx hb dX2_flip_85 (by decide) (fun c1 => ?_) (fun c1 => ?_)
          · rw [if_pos c1] at h
            exact xretv (pc := 132) hx hb hr hlocks hP hK hE hS h dX2_flip_132
          · rw [if_neg c1] at h
            refine lv_iload_n (pc := 88) hx hb dX2_flip_88 rfl (lv_at hl 0 rfl) ?_
            refine lv_iload_n (pc := 89) hx hb dX2_flip_89 rfl (lv_at hl 2 rfl) ?_
            refine lv_iand (pc := 90) hx hb dX2_flip_90 ?_
            refine lv_if_ne (pc := 91) (tgt := 126) hx hb dX2_flip_91 (by decide) (fun c1 => ?_) (fun c1 => ?_)
            · rw [if_neg c1] at h
              refine lv_iinc (pc := 126) (v := x3_1 + 1) (lv' := [(3, .int (x3_1 + 1)), (0, .ref (o + x0)), (2, .int ((1 : Int32) <<< ((x1 - 6) &&& 31)))]) hx hb dX2_flip_126 hl (k := 0) rfl rfl (by decide) rfl (fun ls hl => ?_)
              refine lv_goto (pc := 129) (tgt := 80) hx hb dX2_flip_129 (by decide) ?_
              exact ih1 (x3_1 + 1, σ1) h _ _ ls hP hS (lv_sub hl [0, 1, 2] rfl)
            · rw [if_pos c1] at h
              refine lv_aload_n (pc := 94) hx hb dX2_flip_94 rfl (lv_at hl 1 rfl) ?_
              obtain ⟨v2, hv, h⟩ := zl_some h
              refine xgR (pc := 95) (j := 0) zc2 hx hb hts hown hK hP hv rfl zf_X2_11 dX2_flip_95 ?_
              refine lv_iload_n (pc := 98) hx hb dX2_flip_98 rfl (lv_at hl 0 rfl) ?_
              obtain ⟨v3, hv, h⟩ := zl_some h
              refine xaJ (pc := 99) hx hb hK hP hv dX2_flip_99 ?_
              refine lv_lstore (pc := 100) (lv' := [(4, .long v3), (3, .int x3_1), (0, .ref (o + x0)), (2, .int ((1 : Int32) <<< ((x1 - 6) &&& 31)))]) hx hb dX2_flip_100 hl (by decide) rfl (fun ls hl => ?_)
              refine lv_aload_n (pc := 102) hx hb dX2_flip_102 rfl (lv_at hl 2 rfl) ?_
              obtain ⟨v4, hv, h⟩ := zl_some h
              refine xgR (pc := 103) (j := 0) zc2 hx hb hts hown hK hP hv rfl zf_X2_11 dX2_flip_103 ?_
              refine lv_iload_n (pc := 106) hx hb dX2_flip_106 rfl (lv_at hl 1 rfl) ?_
              refine lv_aload_n (pc := 107) hx hb dX2_flip_107 rfl (lv_at hl 2 rfl) ?_
              obtain ⟨v5, hv, h⟩ := zl_some h
              refine xgR (pc := 108) (j := 0) zc2 hx hb hts hown hK hP hv rfl zf_X2_11 dX2_flip_108 ?_
              refine lv_iload_n (pc := 111) hx hb dX2_flip_111 rfl (lv_at hl 1 rfl) ?_
              refine lv_iload_n (pc := 112) hx hb dX2_flip_112 rfl (lv_at hl 3 rfl) ?_
              refine lv_iadd (pc := 113) hx hb dX2_flip_113 ?_
              obtain ⟨v6, hv, h⟩ := zl_some h
              refine xaJ (pc := 114) hx hb hK hP hv dX2_flip_114 ?_
              obtain ⟨σ7, hv, h⟩ := zl_some h
              refine xsJ (pc := 115) hx hb hK hP hS hv dX2_flip_115 (fun H locs hP hS => ?_)
              refine lv_aload_n (pc := 116) hx hb dX2_flip_116 rfl (lv_at hl 2 rfl) ?_
              obtain ⟨v8, hv, h⟩ := zl_some h
              refine xgR (pc := 117) (j := 0) zc2 hx hb hts hown hK hP hv rfl zf_X2_11 dX2_flip_117 ?_
              refine lv_iload_n (pc := 120) hx hb dX2_flip_120 rfl (lv_at hl 1 rfl) ?_
              refine lv_iload_n (pc := 121) hx hb dX2_flip_121 rfl (lv_at hl 3 rfl) ?_
              refine lv_iadd (pc := 122) hx hb dX2_flip_122 ?_
              refine lv_lload (pc := 123) hx hb dX2_flip_123 (lv_at hl 0 rfl) ?_
              obtain ⟨σ9, hv, h⟩ := zl_some h
              refine xsJ (pc := 125) hx hb hK hP hS hv dX2_flip_125 (fun H locs hP hS => ?_)
              refine lv_iinc (pc := 126) (v := x3_1 + 1) (lv' := [(3, .int (x3_1 + 1)), (4, .long v3), (0, .ref (o + x0)), (2, .int ((1 : Int32) <<< ((x1 - 6) &&& 31)))]) hx hb dX2_flip_126 hl (k := 1) rfl rfl (by decide) rfl (fun ls hl => ?_)
              refine lv_goto (pc := 129) (tgt := 80) hx hb dX2_flip_129 (by decide) ?_
              exact ih1 (x3_1 + 1, σ9) h _ _ ls hP hS (lv_sub hl [0, 2, 3] rfl)
        exact L80_1 N (0, σ) h _ _ ls hP hS (lv_sub hl [0, 2, 1] rfl)
      · rw [if_neg c1] at h
        refine lv_iconst (pc := 17) (v := 1) hx hb dX2_flip_17 (by decide) ?_
        refine lv_iload_n (pc := 18) hx hb dX2_flip_18 rfl (lv_at hl 1 rfl) ?_
        refine lv_ishl (pc := 19) hx hb dX2_flip_19 ?_
        refine lv_istore_n (pc := 20) (lv' := [(2, .int ((1 : Int32) <<< (x1 &&& 31))), (0, .ref (o + x0)), (1, .int x1)]) hx hb dX2_flip_20 rfl hl (by decide) rfl (fun ls hl => ?_)
        refine lv_iconst (pc := 21) (v := 0) hx hb dX2_flip_21 (by decide) ?_
        refine lv_istore_n (pc := 22) (lv' := [(3, .int 0), (2, .int ((1 : Int32) <<< (x1 &&& 31))), (0, .ref (o + x0)), (1, .int x1)]) hx hb dX2_flip_22 rfl hl (by decide) rfl (fun ls hl => ?_)
        have L23_10 : ∀ (n : Nat) (t : Int32 × zS), zlp (F_X2_flip_23 N x0 x1 ((1 : Int32) <<< (x1 &&& 31))) n t = some ρ → ∀ (H : Heap) (locs : List Loc) (ls : Array Slot), zP D c o (zabs o (t.2)) H → va_S (zA o) s.heap H locs → lv_has ls 6 [(3, .int (t.1)), (0, .ref (o + x0)), (1, .int x1), (2, .int ((1 : Int32) <<< (x1 &&& 31)))] → W p l e (zr 2) s m (([.ref (o + x0), .int x1] : List Value).toArray) below meth cd H locs 0 0 (MQ below (zQu D c o g ρ) (([.ref (o + x0), .int x1] : List Value).toArray) s 0 0 (zA o)) (F0 m 23 ls []) := by
          refine zlp_ind (fun ag10 ih10 t h H locs ls hP hS hl => ?_)
          obtain ⟨x3_10, σ10⟩ := t
          have hP : zP D c o (zabs o σ10) H := hP
          have hl : lv_has ls 6 [(3, .int x3_10), (0, .ref (o + x0)), (1, .int x1), (2, .int ((1 : Int32) <<< (x1 &&& 31)))] := hl
          rw [F_X2_flip_23.eq_1] at h
          show W p l e (zr 2) s m (([.ref (o + x0), .int x1] : List Value).toArray) below meth cd H locs 0 0 (MQ below (zQu D c o g ρ) (([.ref (o + x0), .int x1] : List Value).toArray) s 0 0 (zA o)) (F0 m 23 ls [])
          refine lv_iload_n (pc := 23) hx hb dX2_flip_23 rfl (lv_at hl 0 rfl) ?_
          refine lv_bipush (pc := 24) (v := 16) hx hb dX2_flip_24 (by decide) ?_
          refine lv_icmp_ge (pc := 26) (tgt := 70) hx hb dX2_flip_26 (by decide) (fun c1 => ?_) (fun c1 => ?_)
          · rw [if_pos c1] at h
            exact xretv (pc := 70) hx hb hr hlocks hP hK hE hS h dX2_flip_70
          · rw [if_neg c1] at h
            refine lv_aload_n (pc := 29) hx hb dX2_flip_29 rfl (lv_at hl 1 rfl) ?_
            obtain ⟨v11, hv, h⟩ := zl_some h
            refine xgR (pc := 30) (j := 0) zc2 hx hb hts hown hK hP hv rfl zf_X2_11 dX2_flip_30 ?_
            refine lv_iload_n (pc := 33) hx hb dX2_flip_33 rfl (lv_at hl 0 rfl) ?_
            refine lv_aload_n (pc := 34) hx hb dX2_flip_34 rfl (lv_at hl 1 rfl) ?_
            obtain ⟨v12, hv, h⟩ := zl_some h
            refine xgR (pc := 35) (j := 0) zc2 hx hb hts hown hK hP hv rfl zf_X2_11 dX2_flip_35 ?_
            refine lv_iload_n (pc := 38) hx hb dX2_flip_38 rfl (lv_at hl 0 rfl) ?_
            obtain ⟨v13, hv, h⟩ := zl_some h
            refine xaJ (pc := 39) hx hb hK hP hv dX2_flip_39 ?_
            refine xgW (pc := 40) hx hb hts hown hE hS zf_X2_45 dX2_flip_40 ?_
            refine lv_iload_n (pc := 43) hx hb dX2_flip_43 rfl (lv_at hl 2 rfl) ?_
            obtain ⟨v14, hv, h⟩ := zl_some h
            refine xaW (pc := 44) hx hb hE hS hv dX2_flip_44 ?_
            refine lv_land (pc := 45) hx hb dX2_flip_45 ?_
            refine lv_iload_n (pc := 46) hx hb dX2_flip_46 rfl (lv_at hl 3 rfl) ?_
            refine lv_lshl (pc := 47) (v := zsl (v13 &&& v14) ((1 : Int32) <<< (x1 &&& 31))) hx hb dX2_flip_47 rfl ?_
            refine lv_aload_n (pc := 48) hx hb dX2_flip_48 rfl (lv_at hl 1 rfl) ?_
            obtain ⟨v15, hv, h⟩ := zl_some h
            refine xgR (pc := 49) (j := 0) zc2 hx hb hts hown hK hP hv rfl zf_X2_11 dX2_flip_49 ?_
            refine lv_iload_n (pc := 52) hx hb dX2_flip_52 rfl (lv_at hl 0 rfl) ?_
            obtain ⟨v16, hv, h⟩ := zl_some h
            refine xaJ (pc := 53) hx hb hK hP hv dX2_flip_53 ?_
            refine lv_iload_n (pc := 54) hx hb dX2_flip_54 rfl (lv_at hl 3 rfl) ?_
            refine lv_lushr (pc := 55) (v := zul v16 ((1 : Int32) <<< (x1 &&& 31))) hx hb dX2_flip_55 rfl ?_
            refine xgW (pc := 56) hx hb hts hown hE hS zf_X2_45 dX2_flip_56 ?_
            refine lv_iload_n (pc := 59) hx hb dX2_flip_59 rfl (lv_at hl 2 rfl) ?_
            obtain ⟨v17, hv, h⟩ := zl_some h
            refine xaW (pc := 60) hx hb hE hS hv dX2_flip_60 ?_
            refine lv_land (pc := 61) hx hb dX2_flip_61 ?_
            refine lv_lor (pc := 62) hx hb dX2_flip_62 ?_
            obtain ⟨σ18, hv, h⟩ := zl_some h
            refine xsJ (pc := 63) hx hb hK hP hS hv dX2_flip_63 (fun H locs hP hS => ?_)
            refine lv_iinc (pc := 64) (v := x3_10 + 1) (lv' := [(3, .int (x3_10 + 1)), (0, .ref (o + x0)), (1, .int x1), (2, .int ((1 : Int32) <<< (x1 &&& 31)))]) hx hb dX2_flip_64 hl (k := 0) rfl rfl (by decide) rfl (fun ls hl => ?_)
            refine lv_goto (pc := 67) (tgt := 23) hx hb dX2_flip_67 (by decide) ?_
            exact ih10 (x3_10 + 1, σ18) h _ _ ls hP hS (lv_sub hl [0, 1, 2, 3] rfl)
        exact L23_10 N (0, σ) h _ _ ls hP hS (lv_sub hl [0, 2, 3, 1] rfl)
    · rw [if_neg c1] at h
      exact xretv (pc := 10) hx hb hr hlocks hP hK hE hS h dX2_flip_10
def F_X0_becomeMissing_8 (N : Nat) (x1 : Nat) (x2 : Int32) (again8 : (Int32 × zS) → Option (Unit × zS)) : Int32 × zS → Option (Unit × zS)
  | (x3, σ) =>
  if x2 ≤ x3 then
    (some ((), σ))
  else
    (zl (gC 2 x1) fun _ => zb (f_X2_flip N x1 x3 σ) fun v3 σ4 =>
    again8 (x3 + 1, σ4))
def f_X0_becomeMissing (N : Nat) (x0 : Nat) (x1 : Nat) (x2 : Int32) (σ : zS) : Option (Unit × zS) :=
  zl (gC 0 x0) fun _ => zb (f_X0_raiseAll N x0 x1 x2 σ) fun v1 σ2 =>
  zlp (F_X0_becomeMissing_8 N x1 x2) N (0, σ2)
set_option maxHeartbeats 4000000 in
set_option maxRecDepth 100000 in
theorem c_X0_becomeMissing (l : Launch) (D : va_G) (c : zC) (o : Nat) (g : zEp) (N : Nat) {x0 : Nat} {x1 : Nat} {x2 : Int32} {σ : zS} {ρ : Unit × zS} (h : f_X0_becomeMissing N x0 x1 x2 σ = some ρ) : Met l yX0_becomeMissing zs_X0_becomeMissing (zr 6) (va_Pc [.ref (o + x0), .ref (o + x1), .int x2] (zG D c o g σ)) (zQu D c o g ρ) 0 0 (zA o) := by
  refine zMetG (by decide) (Nat.le_of_ble_eq_true rfl) ?_
  intro p e s m below meth cd ⟨hx, hb, hr, hml, hown, hts, hlocks⟩ hP hK hE ls hl
  have hS : va_S (zA o) s.heap s.heap [] := va_S.rf
  have hl : lv_has ls 4 [(0, .ref (o + x0)), (1, .ref (o + x1)), (2, .int x2)] := hl
  rw [f_X0_becomeMissing.eq_1] at h
  refine lv_aload_n (pc := 0) hx hb dX0_becomeMissing_0 rfl (lv_at hl 0 rfl) ?_
  refine lv_aload_n (pc := 1) hx hb dX0_becomeMissing_1 rfl (lv_at hl 1 rfl) ?_
  refine lv_iload_n (pc := 2) hx hb dX0_becomeMissing_2 rfl (lv_at hl 2 rfl) ?_
  obtain ⟨_, hg, h⟩ := zl_some h
  obtain ⟨v1, σ2, hv, h⟩ := zb_some h
  refine xcallVv (pc := 3) (As := [.ref (o + x1), .int x2]) (rest := []) ⟨hx, hb, hml, hown, hts⟩ (c_X0_raiseAll l D c o g N hv) zc0 zV_X0_64 rfl zd_X0_raiseAll ⟨Nat.le_of_ble_eq_true rfl, Nat.le_of_ble_eq_true rfl⟩ hK hP hE hS hg hl.1 rfl (Nat.le_of_ble_eq_true rfl) ⟨Nat.zero_le _, Nat.zero_le _⟩ dX0_becomeMissing_3 (fun H locs hP hS => ?_)
  refine lv_iconst (pc := 6) (v := 0) hx hb dX0_becomeMissing_6 (by decide) ?_
  refine lv_istore_n (pc := 7) (lv' := [(3, .int 0), (0, .ref (o + x0)), (1, .ref (o + x1)), (2, .int x2)]) hx hb dX0_becomeMissing_7 rfl hl (by decide) rfl (fun ls hl => ?_)
  have L8_3 : ∀ (n : Nat) (t : Int32 × zS), zlp (F_X0_becomeMissing_8 N x1 x2) n t = some ρ → ∀ (H : Heap) (locs : List Loc) (ls : Array Slot), zP D c o (zabs o (t.2)) H → va_S (zA o) s.heap H locs → lv_has ls 4 [(3, .int (t.1)), (1, .ref (o + x1)), (2, .int x2)] → W p l e (zr 6) s m (([.ref (o + x0), .ref (o + x1), .int x2] : List Value).toArray) below meth cd H locs 0 0 (MQ below (zQu D c o g ρ) (([.ref (o + x0), .ref (o + x1), .int x2] : List Value).toArray) s 0 0 (zA o)) (F0 m 8 ls []) := by
    refine zlp_ind (fun ag3 ih3 t h H locs ls hP hS hl => ?_)
    obtain ⟨x3_3, σ3⟩ := t
    have hP : zP D c o (zabs o σ3) H := hP
    have hl : lv_has ls 4 [(3, .int x3_3), (1, .ref (o + x1)), (2, .int x2)] := hl
    rw [F_X0_becomeMissing_8.eq_1] at h
    show W p l e (zr 6) s m (([.ref (o + x0), .ref (o + x1), .int x2] : List Value).toArray) below meth cd H locs 0 0 (MQ below (zQu D c o g ρ) (([.ref (o + x0), .ref (o + x1), .int x2] : List Value).toArray) s 0 0 (zA o)) (F0 m 8 ls [])
    refine lv_iload_n (pc := 8) hx hb dX0_becomeMissing_8 rfl (lv_at hl 0 rfl) ?_
    refine lv_iload_n (pc := 9) hx hb dX0_becomeMissing_9 rfl (lv_at hl 2 rfl) ?_
    refine lv_icmp_ge (pc := 10) (tgt := 24) hx hb dX0_becomeMissing_10 (by decide) (fun c1 => ?_) (fun c1 => ?_)
    · rw [if_pos c1] at h
      exact xretv (pc := 24) hx hb hr hlocks hP hK hE hS h dX0_becomeMissing_24
    · rw [if_neg c1] at h
      refine lv_aload_n (pc := 13) hx hb dX0_becomeMissing_13 rfl (lv_at hl 1 rfl) ?_
      refine lv_iload_n (pc := 14) hx hb dX0_becomeMissing_14 rfl (lv_at hl 0 rfl) ?_
      obtain ⟨_, hg, h⟩ := zl_some h
      obtain ⟨v4, σ5, hv, h⟩ := zb_some h
      refine xcallVv (pc := 15) (As := [.int x3_3]) (rest := []) ⟨hx, hb, hml, hown, hts⟩ (c_X2_flip l D c o g N hv) zc2 zV_X0_80 rfl zd_X2_flip ⟨Nat.le_of_ble_eq_true rfl, Nat.le_of_ble_eq_true rfl⟩ hK hP hE hS hg hl.1 rfl (Nat.le_of_ble_eq_true rfl) ⟨Nat.zero_le _, Nat.zero_le _⟩ dX0_becomeMissing_15 (fun H locs hP hS => ?_)
      refine lv_iinc (pc := 18) (v := x3_3 + 1) (lv' := [(3, .int (x3_3 + 1)), (1, .ref (o + x1)), (2, .int x2)]) hx hb dX0_becomeMissing_18 hl (k := 0) rfl rfl (by decide) rfl (fun ls hl => ?_)
      refine lv_goto (pc := 21) (tgt := 8) hx hb dX0_becomeMissing_21 (by decide) ?_
      exact ih3 (x3_3 + 1, σ5) h _ _ ls hP hS (lv_sub hl [0, 1, 2] rfl)
  exact L8_3 N (0, σ2) h _ _ ls hP hS (lv_sub hl [0, 2, 3] rfl)
def J_X2_firstFrom_62 (N : Nat) (again38 : (Int64 × Int32 × zS) → Option (Int32 × zS)) (x0 : Nat) (x1 : Int32) (x4 : Int32) (x2 : Int64) (σ : zS) : Option (Int32 × zS) :=
  if (lg_cmp x2 0) = 0 then
    (again38 (x2, x4 + 1, σ))
  else
    (zb (f_J13_numberOfTrailingZeros_95d88 N x2 σ) fun v3 σ4 =>
    some ((x4 * 64) + v3, σ4))
def F_X2_firstFrom_38 (N : Nat) (x0 : Nat) (x1 : Int32) (again38 : (Int64 × Int32 × zS) → Option (Int32 × zS)) : Int64 × Int32 × zS → Option (Int32 × zS)
  | (x2, x4, σ) =>
  if 16 ≤ x4 then
    (some ((-1), σ))
  else
    (if x4 ≤ ((x1 : Int32) >>> (6 &&& 31)) then
      (J_X2_firstFrom_62 N again38 x0 x1 x4 x2 σ)
    else
      (zl (gR 2 0 x0 σ) fun v5 =>
      zl (aJ v5 x4 σ) fun v6 =>
      J_X2_firstFrom_62 N again38 x0 x1 x4 v6 σ))
def f_X2_firstFrom (N : Nat) (x0 : Nat) (x1 : Int32) (σ : zS) : Option (Int32 × zS) :=
  if x1 < 0 then
    (some ((-1), σ))
  else
    (if x1 < 1024 then
      (zl (gR 2 0 x0 σ) fun v1 =>
      zl (aJ v1 ((x1 : Int32) >>> (6 &&& 31)) σ) fun v2 =>
      zlp (F_X2_firstFrom_38 N x0 x1) N (v2 &&& (zsl (-1) (x1 &&& 63)), (x1 : Int32) >>> (6 &&& 31), σ))
    else
      (some ((-1), σ)))
set_option maxHeartbeats 4000000 in
set_option maxRecDepth 100000 in
theorem c_X2_firstFrom (l : Launch) (D : va_G) (c : zC) (o : Nat) (g : zEp) (N : Nat) {x0 : Nat} {x1 : Int32} {σ : zS} {ρ : Int32 × zS} (h : f_X2_firstFrom N x0 x1 σ = some ρ) : Met l yX2_firstFrom zs_X2_firstFrom (zr 6) (va_Pc [.ref (o + x0), .int x1] (zG D c o g σ)) (zQi D c o g ρ) 0 0 (zA o) := by
  refine zMetG (by decide) (Nat.le_of_ble_eq_true rfl) ?_
  intro p e s m below meth cd ⟨hx, hb, hr, hml, hown, hts, hlocks⟩ hP hK hE ls hl
  have hS : va_S (zA o) s.heap s.heap [] := va_S.rf
  have hl : lv_has ls 5 [(0, .ref (o + x0)), (1, .int x1)] := hl
  rw [f_X2_firstFrom.eq_1] at h
  refine lv_iload_n (pc := 0) hx hb dX2_firstFrom_0 rfl (lv_at hl 1 rfl) ?_
  refine lv_if_lt (pc := 1) (tgt := 11) hx hb dX2_firstFrom_1 (by decide) (fun c1 => ?_) (fun c1 => ?_)
  · rw [if_pos c1] at h
    refine lv_iconst (pc := 11) (v := (-1)) hx hb dX2_firstFrom_11 (by decide) ?_
    exact xreti (pc := 12) hx hb hr hlocks hP hK hE hS h dX2_firstFrom_12
  · rw [if_neg c1] at h
    refine lv_iload_n (pc := 4) hx hb dX2_firstFrom_4 rfl (lv_at hl 1 rfl) ?_
    refine lv_sipush (pc := 5) (v := 1024) hx hb dX2_firstFrom_5 (by decide) ?_
    refine lv_icmp_lt (pc := 8) (tgt := 13) hx hb dX2_firstFrom_8 (by decide) (fun c1 => ?_) (fun c1 => ?_)
    · rw [if_pos c1] at h
      refine lv_aload_n (pc := 13) hx hb dX2_firstFrom_13 rfl (lv_at hl 0 rfl) ?_
      obtain ⟨v1, hv, h⟩ := zl_some h
      refine xgR (pc := 14) (j := 0) zc2 hx hb hts hown hK hP hv rfl zf_X2_11 dX2_firstFrom_14 ?_
      refine lv_iload_n (pc := 17) hx hb dX2_firstFrom_17 rfl (lv_at hl 1 rfl) ?_
      refine lv_bipush (pc := 18) (v := 6) hx hb dX2_firstFrom_18 (by decide) ?_
      refine lv_ishr (pc := 20) hx hb dX2_firstFrom_20 ?_
      obtain ⟨v2, hv, h⟩ := zl_some h
      refine xaJ (pc := 21) hx hb hK hP hv dX2_firstFrom_21 ?_
      refine lv_ldc2 (pc := 22) hx hb hown (hts _ zk_X2_15) dX2_firstFrom_22 ?_
      refine lv_iload_n (pc := 25) hx hb dX2_firstFrom_25 rfl (lv_at hl 1 rfl) ?_
      refine lv_bipush (pc := 26) (v := 63) hx hb dX2_firstFrom_26 (by decide) ?_
      refine lv_iand (pc := 28) hx hb dX2_firstFrom_28 ?_
      refine lv_lshl (pc := 29) (v := zsl (-1) (x1 &&& 63)) hx hb dX2_firstFrom_29 rfl ?_
      refine lv_land (pc := 30) hx hb dX2_firstFrom_30 ?_
      refine lv_lstore_n (pc := 31) (lv' := [(2, .long (v2 &&& (zsl (-1) (x1 &&& 63)))), (0, .ref (o + x0)), (1, .int x1)]) hx hb dX2_firstFrom_31 rfl hl (by decide) rfl (fun ls hl => ?_)
      refine lv_iload_n (pc := 32) hx hb dX2_firstFrom_32 rfl (lv_at hl 2 rfl) ?_
      refine lv_bipush (pc := 33) (v := 6) hx hb dX2_firstFrom_33 (by decide) ?_
      refine lv_ishr (pc := 35) hx hb dX2_firstFrom_35 ?_
      refine lv_istore (pc := 36) (lv' := [(4, .int ((x1 : Int32) >>> (6 &&& 31))), (2, .long (v2 &&& (zsl (-1) (x1 &&& 63)))), (0, .ref (o + x0)), (1, .int x1)]) hx hb dX2_firstFrom_36 hl (by decide) rfl (fun ls hl => ?_)
      have L38_3 : ∀ (n : Nat) (t : Int64 × Int32 × zS), zlp (F_X2_firstFrom_38 N x0 x1) n t = some ρ → ∀ (H : Heap) (locs : List Loc) (ls : Array Slot), zP D c o (zabs o (t.2.2)) H → va_S (zA o) s.heap H locs → lv_has ls 5 [(2, .long (t.1)), (4, .int (t.2.1)), (0, .ref (o + x0)), (1, .int x1)] → W p l e (zr 6) s m (([.ref (o + x0), .int x1] : List Value).toArray) below meth cd H locs 0 0 (MQ below (zQi D c o g ρ) (([.ref (o + x0), .int x1] : List Value).toArray) s 0 0 (zA o)) (F0 m 38 ls []) := by
        refine zlp_ind (fun ag3 ih3 t h H locs ls hP hS hl => ?_)
        obtain ⟨x2_3, x4_3, σ3⟩ := t
        have hP : zP D c o (zabs o σ3) H := hP
        have hl : lv_has ls 5 [(2, .long x2_3), (4, .int x4_3), (0, .ref (o + x0)), (1, .int x1)] := hl
        rw [F_X2_firstFrom_38.eq_1] at h
        show W p l e (zr 6) s m (([.ref (o + x0), .int x1] : List Value).toArray) below meth cd H locs 0 0 (MQ below (zQi D c o g ρ) (([.ref (o + x0), .int x1] : List Value).toArray) s 0 0 (zA o)) (F0 m 38 ls [])
        refine lv_iload (pc := 38) hx hb dX2_firstFrom_38 (lv_at hl 1 rfl) ?_
        refine lv_bipush (pc := 40) (v := 16) hx hb dX2_firstFrom_40 (by decide) ?_
        refine lv_icmp_ge (pc := 42) (tgt := 85) hx hb dX2_firstFrom_42 (by decide) (fun c1 => ?_) (fun c1 => ?_)
        · rw [if_pos c1] at h
          refine lv_iconst (pc := 85) (v := (-1)) hx hb dX2_firstFrom_85 (by decide) ?_
          exact xreti (pc := 86) hx hb hr hlocks hP hK hE hS h dX2_firstFrom_86
        · rw [if_neg c1] at h
          refine lv_iload (pc := 45) hx hb dX2_firstFrom_45 (lv_at hl 1 rfl) ?_
          refine lv_iload_n (pc := 47) hx hb dX2_firstFrom_47 rfl (lv_at hl 3 rfl) ?_
          refine lv_bipush (pc := 48) (v := 6) hx hb dX2_firstFrom_48 (by decide) ?_
          refine lv_ishr (pc := 50) hx hb dX2_firstFrom_50 ?_
          have hj62_4 : ∀ (x2_4 : Int64) (σ4 : zS), J_X2_firstFrom_62 N ag3 x0 x1 x4_3 x2_4 σ4 = some ρ → ∀ (H : Heap) (locs : List Loc) (ls : Array Slot), zP D c o (zabs o σ4) H → va_S (zA o) s.heap H locs → lv_has ls 5 [(2, .long x2_4), (0, .ref (o + x0)), (1, .int x1), (4, .int x4_3)] → W p l e (zr 6) s m (([.ref (o + x0), .int x1] : List Value).toArray) below meth cd H locs 0 0 (MQ below (zQi D c o g ρ) (([.ref (o + x0), .int x1] : List Value).toArray) s 0 0 (zA o)) (F0 m 62 ls []) := by
            intro x2_4 σ4 h H locs ls hP hS hl
            rw [J_X2_firstFrom_62.eq_1] at h
            refine lv_lload_n (pc := 62) hx hb dX2_firstFrom_62 rfl (lv_at hl 0 rfl) ?_
            refine lv_lconst (pc := 63) (v := 0) hx hb dX2_firstFrom_63 (by decide) ?_
            refine W.lcmp (pc := 64) hx hb dX2_firstFrom_64 ?_
            refine lv_if_eq (pc := 65) (tgt := 79) hx hb dX2_firstFrom_65 (by decide) (fun c1 => ?_) (fun c1 => ?_)
            · rw [if_pos c1] at h
              refine lv_iinc (pc := 79) (v := x4_3 + 1) (lv' := [(4, .int (x4_3 + 1)), (2, .long x2_4), (0, .ref (o + x0)), (1, .int x1)]) hx hb dX2_firstFrom_79 hl (k := 3) rfl rfl (by decide) rfl (fun ls hl => ?_)
              refine lv_goto (pc := 82) (tgt := 38) hx hb dX2_firstFrom_82 (by decide) ?_
              exact ih3 (x2_4, x4_3 + 1, σ4) h _ _ ls hP hS (lv_sub hl [1, 0, 2, 3] rfl)
            · rw [if_neg c1] at h
              refine lv_iload (pc := 68) hx hb dX2_firstFrom_68 (lv_at hl 3 rfl) ?_
              refine lv_bipush (pc := 70) (v := 64) hx hb dX2_firstFrom_70 (by decide) ?_
              refine lv_imul (pc := 72) hx hb dX2_firstFrom_72 ?_
              refine lv_lload_n (pc := 73) hx hb dX2_firstFrom_73 rfl (lv_at hl 0 rfl) ?_
              obtain ⟨v5, σ6, hv, h⟩ := zb_some h
              refine xcallSi (pc := 74) (As := [.long x2_4]) (rest := [.int (x4_3 * 64)]) ⟨hx, hb, hml, hown, hts⟩ (c_J13_numberOfTrailingZeros_95d88 l D c o g N hv) zT_X2_38 rfl zd_J13_numberOfTrailingZeros_95d88 ⟨Nat.le_of_ble_eq_true rfl, Nat.le_of_ble_eq_true rfl⟩ hK hP hE hS hl.1 rfl (Nat.le_of_ble_eq_true rfl) ⟨Nat.zero_le _, Nat.zero_le _⟩ dX2_firstFrom_74 (fun H locs hP hS => ?_)
              refine lv_iadd (pc := 77) hx hb dX2_firstFrom_77 ?_
              exact xreti (pc := 78) hx hb hr hlocks hP hK hE hS h dX2_firstFrom_78
          refine lv_icmp_le (pc := 51) (tgt := 62) hx hb dX2_firstFrom_51 (by decide) (fun c1 => ?_) (fun c1 => ?_)
          · rw [if_pos c1] at h
            exact hj62_4 (x2_3) σ3 h _ _ ls hP hS (lv_sub hl [0, 2, 3, 1] rfl)
          · rw [if_neg c1] at h
            refine lv_aload_n (pc := 54) hx hb dX2_firstFrom_54 rfl (lv_at hl 2 rfl) ?_
            obtain ⟨v7, hv, h⟩ := zl_some h
            refine xgR (pc := 55) (j := 0) zc2 hx hb hts hown hK hP hv rfl zf_X2_11 dX2_firstFrom_55 ?_
            refine lv_iload (pc := 58) hx hb dX2_firstFrom_58 (lv_at hl 1 rfl) ?_
            obtain ⟨v8, hv, h⟩ := zl_some h
            refine xaJ (pc := 60) hx hb hK hP hv dX2_firstFrom_60 ?_
            refine lv_lstore_n (pc := 61) (lv' := [(2, .long v8), (4, .int x4_3), (0, .ref (o + x0)), (1, .int x1)]) hx hb dX2_firstFrom_61 rfl hl (by decide) rfl (fun ls hl => ?_)
            exact hj62_4 (v8) σ3 h _ _ ls hP hS (lv_sub hl [0, 2, 3, 1] rfl)
      exact L38_3 N (v2 &&& (zsl (-1) (x1 &&& 63)), (x1 : Int32) >>> (6 &&& 31), σ) h _ _ ls hP hS (lv_sub hl [1, 0, 2, 3] rfl)
    · rw [if_neg c1] at h
      refine lv_iconst (pc := 11) (v := (-1)) hx hb dX2_firstFrom_11 (by decide) ?_
      exact xreti (pc := 12) hx hb hr hlocks hP hK hE hS h dX2_firstFrom_12
def f_X2_holds (N : Nat) (x0 : Nat) (x1 : Int32) (σ : zS) : Option (Int32 × zS) :=
  if x1 < 0 then
    (rZ 0 σ)
  else
    (if 1024 ≤ x1 then
      (rZ 0 σ)
    else
      (zl (gR 2 0 x0 σ) fun v1 =>
      zl (aJ v1 ((x1 : Int32) >>> (6 &&& 31)) σ) fun v2 =>
      if (lg_cmp ((zul v2 (x1 &&& 63)) &&& 1) 0) = 0 then
        (rZ 0 σ)
      else
        (rZ 1 σ)))
set_option maxHeartbeats 4000000 in
set_option maxRecDepth 100000 in
theorem c_X2_holds (l : Launch) (D : va_G) (c : zC) (o : Nat) (g : zEp) (N : Nat) {x0 : Nat} {x1 : Int32} {σ : zS} {ρ : Int32 × zS} (h : f_X2_holds N x0 x1 σ = some ρ) : Met l yX2_holds zs_X2_holds (zr 2) (va_Pc [.ref (o + x0), .int x1] (zG D c o g σ)) (zQi D c o g ρ) 0 0 (zA o) := by
  refine zMetG (by decide) (Nat.le_of_ble_eq_true rfl) ?_
  intro p e s m below meth cd ⟨hx, hb, hr, hml, hown, hts, hlocks⟩ hP hK hE ls hl
  have hS : va_S (zA o) s.heap s.heap [] := va_S.rf
  have hl : lv_has ls 2 [(0, .ref (o + x0)), (1, .int x1)] := hl
  rw [f_X2_holds.eq_1] at h
  refine lv_iload_n (pc := 0) hx hb dX2_holds_0 rfl (lv_at hl 1 rfl) ?_
  refine lv_if_lt (pc := 1) (tgt := 36) hx hb dX2_holds_1 (by decide) (fun c1 => ?_) (fun c1 => ?_)
  · rw [if_pos c1] at h
    refine lv_iconst (pc := 36) (v := 0) hx hb dX2_holds_36 (by decide) ?_
    exact xretz (pc := 37) hx hb hr hlocks hP hK hE hS h dX2_holds_37
  · rw [if_neg c1] at h
    refine lv_iload_n (pc := 4) hx hb dX2_holds_4 rfl (lv_at hl 1 rfl) ?_
    refine lv_sipush (pc := 5) (v := 1024) hx hb dX2_holds_5 (by decide) ?_
    refine lv_icmp_ge (pc := 8) (tgt := 36) hx hb dX2_holds_8 (by decide) (fun c1 => ?_) (fun c1 => ?_)
    · rw [if_pos c1] at h
      refine lv_iconst (pc := 36) (v := 0) hx hb dX2_holds_36 (by decide) ?_
      exact xretz (pc := 37) hx hb hr hlocks hP hK hE hS h dX2_holds_37
    · rw [if_neg c1] at h
      refine lv_aload_n (pc := 11) hx hb dX2_holds_11 rfl (lv_at hl 0 rfl) ?_
      obtain ⟨v1, hv, h⟩ := zl_some h
      refine xgR (pc := 12) (j := 0) zc2 hx hb hts hown hK hP hv rfl zf_X2_11 dX2_holds_12 ?_
      refine lv_iload_n (pc := 15) hx hb dX2_holds_15 rfl (lv_at hl 1 rfl) ?_
      refine lv_bipush (pc := 16) (v := 6) hx hb dX2_holds_16 (by decide) ?_
      refine lv_ishr (pc := 18) hx hb dX2_holds_18 ?_
      obtain ⟨v2, hv, h⟩ := zl_some h
      refine xaJ (pc := 19) hx hb hK hP hv dX2_holds_19 ?_
      refine lv_iload_n (pc := 20) hx hb dX2_holds_20 rfl (lv_at hl 1 rfl) ?_
      refine lv_bipush (pc := 21) (v := 63) hx hb dX2_holds_21 (by decide) ?_
      refine lv_iand (pc := 23) hx hb dX2_holds_23 ?_
      refine lv_lushr (pc := 24) (v := zul v2 (x1 &&& 63)) hx hb dX2_holds_24 rfl ?_
      refine lv_lconst (pc := 25) (v := 1) hx hb dX2_holds_25 (by decide) ?_
      refine lv_land (pc := 26) hx hb dX2_holds_26 ?_
      refine lv_lconst (pc := 27) (v := 0) hx hb dX2_holds_27 (by decide) ?_
      refine W.lcmp (pc := 28) hx hb dX2_holds_28 ?_
      refine lv_if_eq (pc := 29) (tgt := 36) hx hb dX2_holds_29 (by decide) (fun c1 => ?_) (fun c1 => ?_)
      · rw [if_pos c1] at h
        refine lv_iconst (pc := 36) (v := 0) hx hb dX2_holds_36 (by decide) ?_
        exact xretz (pc := 37) hx hb hr hlocks hP hK hE hS h dX2_holds_37
      · rw [if_neg c1] at h
        refine lv_iconst (pc := 32) (v := 1) hx hb dX2_holds_32 (by decide) ?_
        refine lv_goto (pc := 33) (tgt := 37) hx hb dX2_holds_33 (by decide) ?_
        exact xretz (pc := 37) hx hb hr hlocks hP hK hE hS h dX2_holds_37
def F_X0_allJoined_10 (N : Nat) (x1 : Nat) (x2 : Nat) (x3 : Int32) (again10 : (Int32 × Int32 × zS) → Option (Int32 × zS)) : Int32 × Int32 × zS → Option (Int32 × zS)
  | (x4, x5, σ) =>
  if 1024 ≤ x5 then
    (rZ 1 σ)
  else
    (if x4 < 0 then
      (rZ 1 σ)
    else
      (zl (gC 2 x1) fun _ => zb (f_X2_holds N x1 (x3 ||| x4) σ) fun v3 σ4 =>
      if v3 = 0 then
        (rZ 0 σ4)
      else
        (zl (gC 2 x2) fun _ => zb (f_X2_firstFrom N x2 (x4 + 1) σ4) fun v5 σ6 =>
        again10 (v5, x5 + 1, σ6))))
def f_X0_allJoined (N : Nat) (x0 : Nat) (x1 : Nat) (x2 : Nat) (x3 : Int32) (σ : zS) : Option (Int32 × zS) :=
  zl (gC 2 x2) fun _ => zb (f_X2_firstFrom N x2 0 σ) fun v1 σ2 =>
  zlp (F_X0_allJoined_10 N x1 x2 x3) N (v1, 0, σ2)
set_option maxHeartbeats 4000000 in
set_option maxRecDepth 100000 in
theorem c_X0_allJoined (l : Launch) (D : va_G) (c : zC) (o : Nat) (g : zEp) (N : Nat) {x0 : Nat} {x1 : Nat} {x2 : Nat} {x3 : Int32} {σ : zS} {ρ : Int32 × zS} (h : f_X0_allJoined N x0 x1 x2 x3 σ = some ρ) : Met l yX0_allJoined zs_X0_allJoined (zr 8) (va_Pc [.ref (o + x0), .ref (o + x1), .ref (o + x2), .int x3] (zG D c o g σ)) (zQi D c o g ρ) 0 0 (zA o) := by
  refine zMetG (by decide) (Nat.le_of_ble_eq_true rfl) ?_
  intro p e s m below meth cd ⟨hx, hb, hr, hml, hown, hts, hlocks⟩ hP hK hE ls hl
  have hS : va_S (zA o) s.heap s.heap [] := va_S.rf
  have hl : lv_has ls 6 [(0, .ref (o + x0)), (1, .ref (o + x1)), (2, .ref (o + x2)), (3, .int x3)] := hl
  rw [f_X0_allJoined.eq_1] at h
  refine lv_aload_n (pc := 0) hx hb dX0_allJoined_0 rfl (lv_at hl 2 rfl) ?_
  refine lv_iconst (pc := 1) (v := 0) hx hb dX0_allJoined_1 (by decide) ?_
  obtain ⟨_, hg, h⟩ := zl_some h
  obtain ⟨v1, σ2, hv, h⟩ := zb_some h
  refine xcallVi (pc := 2) (As := [.int 0]) (rest := []) ⟨hx, hb, hml, hown, hts⟩ (c_X2_firstFrom l D c o g N hv) zc2 zV_X0_125 rfl zd_X2_firstFrom ⟨Nat.le_of_ble_eq_true rfl, Nat.le_of_ble_eq_true rfl⟩ hK hP hE hS hg hl.1 rfl (Nat.le_of_ble_eq_true rfl) ⟨Nat.zero_le _, Nat.zero_le _⟩ dX0_allJoined_2 (fun H locs hP hS => ?_)
  refine lv_istore (pc := 5) (lv' := [(4, .int v1), (0, .ref (o + x0)), (1, .ref (o + x1)), (2, .ref (o + x2)), (3, .int x3)]) hx hb dX0_allJoined_5 hl (by decide) rfl (fun ls hl => ?_)
  refine lv_iconst (pc := 7) (v := 0) hx hb dX0_allJoined_7 (by decide) ?_
  refine lv_istore (pc := 8) (lv' := [(5, .int 0), (4, .int v1), (0, .ref (o + x0)), (1, .ref (o + x1)), (2, .ref (o + x2)), (3, .int x3)]) hx hb dX0_allJoined_8 hl (by decide) rfl (fun ls hl => ?_)
  have L10_3 : ∀ (n : Nat) (t : Int32 × Int32 × zS), zlp (F_X0_allJoined_10 N x1 x2 x3) n t = some ρ → ∀ (H : Heap) (locs : List Loc) (ls : Array Slot), zP D c o (zabs o (t.2.2)) H → va_S (zA o) s.heap H locs → lv_has ls 6 [(4, .int (t.1)), (5, .int (t.2.1)), (1, .ref (o + x1)), (2, .ref (o + x2)), (3, .int x3)] → W p l e (zr 8) s m (([.ref (o + x0), .ref (o + x1), .ref (o + x2), .int x3] : List Value).toArray) below meth cd H locs 0 0 (MQ below (zQi D c o g ρ) (([.ref (o + x0), .ref (o + x1), .ref (o + x2), .int x3] : List Value).toArray) s 0 0 (zA o)) (F0 m 10 ls []) := by
    refine zlp_ind (fun ag3 ih3 t h H locs ls hP hS hl => ?_)
    obtain ⟨x4_3, x5_3, σ3⟩ := t
    have hP : zP D c o (zabs o σ3) H := hP
    have hl : lv_has ls 6 [(4, .int x4_3), (5, .int x5_3), (1, .ref (o + x1)), (2, .ref (o + x2)), (3, .int x3)] := hl
    rw [F_X0_allJoined_10.eq_1] at h
    show W p l e (zr 8) s m (([.ref (o + x0), .ref (o + x1), .ref (o + x2), .int x3] : List Value).toArray) below meth cd H locs 0 0 (MQ below (zQi D c o g ρ) (([.ref (o + x0), .ref (o + x1), .ref (o + x2), .int x3] : List Value).toArray) s 0 0 (zA o)) (F0 m 10 ls [])
    refine lv_iload (pc := 10) hx hb dX0_allJoined_10 (lv_at hl 1 rfl) ?_
    refine lv_sipush (pc := 12) (v := 1024) hx hb dX0_allJoined_12 (by decide) ?_
    refine lv_icmp_ge (pc := 15) (tgt := 52) hx hb dX0_allJoined_15 (by decide) (fun c1 => ?_) (fun c1 => ?_)
    · rw [if_pos c1] at h
      refine lv_iconst (pc := 52) (v := 1) hx hb dX0_allJoined_52 (by decide) ?_
      exact xretz (pc := 53) hx hb hr hlocks hP hK hE hS h dX0_allJoined_53
    · rw [if_neg c1] at h
      refine lv_iload (pc := 18) hx hb dX0_allJoined_18 (lv_at hl 0 rfl) ?_
      refine lv_if_lt (pc := 20) (tgt := 52) hx hb dX0_allJoined_20 (by decide) (fun c1 => ?_) (fun c1 => ?_)
      · rw [if_pos c1] at h
        refine lv_iconst (pc := 52) (v := 1) hx hb dX0_allJoined_52 (by decide) ?_
        exact xretz (pc := 53) hx hb hr hlocks hP hK hE hS h dX0_allJoined_53
      · rw [if_neg c1] at h
        refine lv_aload_n (pc := 23) hx hb dX0_allJoined_23 rfl (lv_at hl 2 rfl) ?_
        refine lv_iload_n (pc := 24) hx hb dX0_allJoined_24 rfl (lv_at hl 4 rfl) ?_
        refine lv_iload (pc := 25) hx hb dX0_allJoined_25 (lv_at hl 0 rfl) ?_
        refine lv_ior (pc := 27) hx hb dX0_allJoined_27 ?_
        obtain ⟨_, hg, h⟩ := zl_some h
        obtain ⟨v4, σ5, hv, h⟩ := zb_some h
        refine xcallVi (pc := 28) (As := [.int (x3 ||| x4_3)]) (rest := []) ⟨hx, hb, hml, hown, hts⟩ (c_X2_holds l D c o g N hv) zc2 zV_X0_100 rfl zd_X2_holds ⟨Nat.le_of_ble_eq_true rfl, Nat.le_of_ble_eq_true rfl⟩ hK hP hE hS hg hl.1 rfl (Nat.le_of_ble_eq_true rfl) ⟨Nat.zero_le _, Nat.zero_le _⟩ dX0_allJoined_28 (fun H locs hP hS => ?_)
        refine lv_if_ne (pc := 31) (tgt := 36) hx hb dX0_allJoined_31 (by decide) (fun c1 => ?_) (fun c1 => ?_)
        · rw [if_neg c1] at h
          refine lv_aload_n (pc := 36) hx hb dX0_allJoined_36 rfl (lv_at hl 3 rfl) ?_
          refine lv_iload (pc := 37) hx hb dX0_allJoined_37 (lv_at hl 0 rfl) ?_
          refine lv_iconst (pc := 39) (v := 1) hx hb dX0_allJoined_39 (by decide) ?_
          refine lv_iadd (pc := 40) hx hb dX0_allJoined_40 ?_
          obtain ⟨_, hg, h⟩ := zl_some h
          obtain ⟨v6, σ7, hv, h⟩ := zb_some h
          refine xcallVi (pc := 41) (As := [.int (x4_3 + 1)]) (rest := []) ⟨hx, hb, hml, hown, hts⟩ (c_X2_firstFrom l D c o g N hv) zc2 zV_X0_125 rfl zd_X2_firstFrom ⟨Nat.le_of_ble_eq_true rfl, Nat.le_of_ble_eq_true rfl⟩ hK hP hE hS hg hl.1 rfl (Nat.le_of_ble_eq_true rfl) ⟨Nat.zero_le _, Nat.zero_le _⟩ dX0_allJoined_41 (fun H locs hP hS => ?_)
          refine lv_istore (pc := 44) (lv' := [(4, .int v6), (5, .int x5_3), (1, .ref (o + x1)), (2, .ref (o + x2)), (3, .int x3)]) hx hb dX0_allJoined_44 hl (by decide) rfl (fun ls hl => ?_)
          refine lv_iinc (pc := 46) (v := x5_3 + 1) (lv' := [(5, .int (x5_3 + 1)), (4, .int v6), (1, .ref (o + x1)), (2, .ref (o + x2)), (3, .int x3)]) hx hb dX0_allJoined_46 hl (k := 1) rfl rfl (by decide) rfl (fun ls hl => ?_)
          refine lv_goto (pc := 49) (tgt := 10) hx hb dX0_allJoined_49 (by decide) ?_
          exact ih3 (v6, x5_3 + 1, σ7) h _ _ ls hP hS (lv_sub hl [1, 0, 2, 3, 4] rfl)
        · rw [if_pos c1] at h
          refine lv_iconst (pc := 34) (v := 0) hx hb dX0_allJoined_34 (by decide) ?_
          exact xretz (pc := 35) hx hb hr hlocks hP hK hE hS h dX0_allJoined_35
  exact L10_3 N (v1, 0, σ2) h _ _ ls hP hS (lv_sub hl [1, 0, 3, 4, 5] rfl)
def f_X2_copyFrom (N : Nat) (x0 : Nat) (x1 : Nat) (σ : zS) : Option (Unit × zS) :=
  zl (gR 2 0 x1 σ) fun v1 =>
  zl (gR 2 0 x0 σ) fun v2 =>
  zl (cpJ v1 0 v2 0 16 σ) fun σ3 =>
  some ((), σ3)
set_option maxHeartbeats 4000000 in
set_option maxRecDepth 100000 in
theorem c_X2_copyFrom (l : Launch) (D : va_G) (c : zC) (o : Nat) (g : zEp) (N : Nat) {x0 : Nat} {x1 : Nat} {σ : zS} {ρ : Unit × zS} (h : f_X2_copyFrom N x0 x1 σ = some ρ) : Met l yX2_copyFrom zs_X2_copyFrom (zr 2) (va_Pc [.ref (o + x0), .ref (o + x1)] (zG D c o g σ)) (zQu D c o g ρ) 0 0 (zA o) := by
  refine zMetG (by decide) (Nat.le_of_ble_eq_true rfl) ?_
  intro p e s m below meth cd ⟨hx, hb, hr, hml, hown, hts, hlocks⟩ hP hK hE ls hl
  have hS : va_S (zA o) s.heap s.heap [] := va_S.rf
  have hl : lv_has ls 2 [(0, .ref (o + x0)), (1, .ref (o + x1))] := hl
  rw [f_X2_copyFrom.eq_1] at h
  refine lv_aload_n (pc := 0) hx hb dX2_copyFrom_0 rfl (lv_at hl 1 rfl) ?_
  obtain ⟨v1, hv, h⟩ := zl_some h
  refine xgR (pc := 1) (j := 0) zc2 hx hb hts hown hK hP hv rfl zf_X2_11 dX2_copyFrom_1 ?_
  refine lv_iconst (pc := 4) (v := 0) hx hb dX2_copyFrom_4 (by decide) ?_
  refine lv_aload_n (pc := 5) hx hb dX2_copyFrom_5 rfl (lv_at hl 0 rfl) ?_
  obtain ⟨v2, hv, h⟩ := zl_some h
  refine xgR (pc := 6) (j := 0) zc2 hx hb hts hown hK hP hv rfl zf_X2_11 dX2_copyFrom_6 ?_
  refine lv_iconst (pc := 9) (v := 0) hx hb dX2_copyFrom_9 (by decide) ?_
  refine lv_bipush (pc := 10) (v := 16) hx hb dX2_copyFrom_10 (by decide) ?_
  obtain ⟨σ3, hv, h⟩ := zl_some h
  refine xcJ (pc := 12) (rest := []) hx hb (hml.trans hl.1.symm) hown hts zm_X2_23 hK hP hS hv (Nat.le_of_ble_eq_true rfl) (Nat.le_of_ble_eq_true rfl) dX2_copyFrom_12 (fun H locs hP hS => ?_)
  exact xretv (pc := 15) hx hb hr hlocks hP hK hE hS h dX2_copyFrom_15
def F_X2_keepWithout_13 (N : Nat) (x0 : Nat) (x1 : Int32) (again13 : (Int32 × zS) → Option (Unit × zS)) : Int32 × zS → Option (Unit × zS)
  | (x2, σ) =>
  if 16 ≤ x2 then
    (some ((), σ))
  else
    (if 6 ≤ x1 then
      (if (((x2 : Int32) >>> ((x1 - 6) &&& 31)) &&& 1) = 0 then
        (again13 (x2 + 1, σ))
      else
        (zl (gR 2 0 x0 σ) fun v1 =>
        zl (sJ v1 x2 0 σ) fun σ2 =>
        again13 (x2 + 1, σ2)))
    else
      (zl (gR 2 0 x0 σ) fun v3 =>
      zl (aJ v3 x2 σ) fun v4 =>
      zl (aW x1) fun v5 =>
      zl (sJ v3 x2 (v4 &&& v5) σ) fun σ6 =>
      again13 (x2 + 1, σ6)))
def f_X2_keepWithout (N : Nat) (x0 : Nat) (x1 : Int32) (σ : zS) : Option (Unit × zS) :=
  if x1 < 0 then
    (some ((), σ))
  else
    (if x1 < 10 then
      (zlp (F_X2_keepWithout_13 N x0 x1) N (0, σ))
    else
      (some ((), σ)))
set_option maxHeartbeats 4000000 in
set_option maxRecDepth 100000 in
theorem c_X2_keepWithout (l : Launch) (D : va_G) (c : zC) (o : Nat) (g : zEp) (N : Nat) {x0 : Nat} {x1 : Int32} {σ : zS} {ρ : Unit × zS} (h : f_X2_keepWithout N x0 x1 σ = some ρ) : Met l yX2_keepWithout zs_X2_keepWithout (zr 2) (va_Pc [.ref (o + x0), .int x1] (zG D c o g σ)) (zQu D c o g ρ) 0 0 (zA o) := by
  refine zMetG (by decide) (Nat.le_of_ble_eq_true rfl) ?_
  intro p e s m below meth cd ⟨hx, hb, hr, hml, hown, hts, hlocks⟩ hP hK hE ls hl
  have hS : va_S (zA o) s.heap s.heap [] := va_S.rf
  have hl : lv_has ls 3 [(0, .ref (o + x0)), (1, .int x1)] := hl
  rw [f_X2_keepWithout.eq_1] at h
  refine lv_iload_n (pc := 0) hx hb dX2_keepWithout_0 rfl (lv_at hl 1 rfl) ?_
  refine lv_if_lt (pc := 1) (tgt := 10) hx hb dX2_keepWithout_1 (by decide) (fun c1 => ?_) (fun c1 => ?_)
  · rw [if_pos c1] at h
    exact xretv (pc := 10) hx hb hr hlocks hP hK hE hS h dX2_keepWithout_10
  · rw [if_neg c1] at h
    refine lv_iload_n (pc := 4) hx hb dX2_keepWithout_4 rfl (lv_at hl 1 rfl) ?_
    refine lv_bipush (pc := 5) (v := 10) hx hb dX2_keepWithout_5 (by decide) ?_
    refine lv_icmp_lt (pc := 7) (tgt := 11) hx hb dX2_keepWithout_7 (by decide) (fun c1 => ?_) (fun c1 => ?_)
    · rw [if_pos c1] at h
      refine lv_iconst (pc := 11) (v := 0) hx hb dX2_keepWithout_11 (by decide) ?_
      refine lv_istore_n (pc := 12) (lv' := [(2, .int 0), (0, .ref (o + x0)), (1, .int x1)]) hx hb dX2_keepWithout_12 rfl hl (by decide) rfl (fun ls hl => ?_)
      have L13_1 : ∀ (n : Nat) (t : Int32 × zS), zlp (F_X2_keepWithout_13 N x0 x1) n t = some ρ → ∀ (H : Heap) (locs : List Loc) (ls : Array Slot), zP D c o (zabs o (t.2)) H → va_S (zA o) s.heap H locs → lv_has ls 3 [(2, .int (t.1)), (0, .ref (o + x0)), (1, .int x1)] → W p l e (zr 2) s m (([.ref (o + x0), .int x1] : List Value).toArray) below meth cd H locs 0 0 (MQ below (zQu D c o g ρ) (([.ref (o + x0), .int x1] : List Value).toArray) s 0 0 (zA o)) (F0 m 13 ls []) := by
        refine zlp_ind (fun ag1 ih1 t h H locs ls hP hS hl => ?_)
        obtain ⟨x2_1, σ1⟩ := t
        have hP : zP D c o (zabs o σ1) H := hP
        have hl : lv_has ls 3 [(2, .int x2_1), (0, .ref (o + x0)), (1, .int x1)] := hl
        rw [F_X2_keepWithout_13.eq_1] at h
        show W p l e (zr 2) s m (([.ref (o + x0), .int x1] : List Value).toArray) below meth cd H locs 0 0 (MQ below (zQu D c o g ρ) (([.ref (o + x0), .int x1] : List Value).toArray) s 0 0 (zA o)) (F0 m 13 ls [])
        refine lv_iload_n (pc := 13) hx hb dX2_keepWithout_13 rfl (lv_at hl 0 rfl) ?_
        refine lv_bipush (pc := 14) (v := 16) hx hb dX2_keepWithout_14 (by decide) ?_
        refine lv_icmp_ge (pc := 16) (tgt := 66) hx hb dX2_keepWithout_16 (by decide) (fun c1 => ?_) (fun c1 => ?_)
        · rw [if_pos c1] at h
          exact xretv (pc := 66) hx hb hr hlocks hP hK hE hS h dX2_keepWithout_66
        · rw [if_neg c1] at h
          refine lv_iload_n (pc := 19) hx hb dX2_keepWithout_19 rfl (lv_at hl 2 rfl) ?_
          refine lv_bipush (pc := 20) (v := 6) hx hb dX2_keepWithout_20 (by decide) ?_
          refine lv_icmp_ge (pc := 22) (tgt := 42) hx hb dX2_keepWithout_22 (by decide) (fun c1 => ?_) (fun c1 => ?_)
          · rw [if_pos c1] at h
            refine lv_iload_n (pc := 42) hx hb dX2_keepWithout_42 rfl (lv_at hl 0 rfl) ?_
            refine lv_iload_n (pc := 43) hx hb dX2_keepWithout_43 rfl (lv_at hl 2 rfl) ?_
            refine lv_bipush (pc := 44) (v := 6) hx hb dX2_keepWithout_44 (by decide) ?_
            refine lv_isub (pc := 46) hx hb dX2_keepWithout_46 ?_
            refine lv_ishr (pc := 47) hx hb dX2_keepWithout_47 ?_
            refine lv_iconst (pc := 48) (v := 1) hx hb dX2_keepWithout_48 (by decide) ?_
            refine lv_iand (pc := 49) hx hb dX2_keepWithout_49 ?_
            refine lv_if_eq (pc := 50) (tgt := 60) hx hb dX2_keepWithout_50 (by decide) (fun c1 => ?_) (fun c1 => ?_)
            · rw [if_pos c1] at h
              refine lv_iinc (pc := 60) (v := x2_1 + 1) (lv' := [(2, .int (x2_1 + 1)), (0, .ref (o + x0)), (1, .int x1)]) hx hb dX2_keepWithout_60 hl (k := 0) rfl rfl (by decide) rfl (fun ls hl => ?_)
              refine lv_goto (pc := 63) (tgt := 13) hx hb dX2_keepWithout_63 (by decide) ?_
              exact ih1 (x2_1 + 1, σ1) h _ _ ls hP hS (lv_sub hl [0, 1, 2] rfl)
            · rw [if_neg c1] at h
              refine lv_aload_n (pc := 53) hx hb dX2_keepWithout_53 rfl (lv_at hl 1 rfl) ?_
              obtain ⟨v2, hv, h⟩ := zl_some h
              refine xgR (pc := 54) (j := 0) zc2 hx hb hts hown hK hP hv rfl zf_X2_11 dX2_keepWithout_54 ?_
              refine lv_iload_n (pc := 57) hx hb dX2_keepWithout_57 rfl (lv_at hl 0 rfl) ?_
              refine lv_lconst (pc := 58) (v := 0) hx hb dX2_keepWithout_58 (by decide) ?_
              obtain ⟨σ3, hv, h⟩ := zl_some h
              refine xsJ (pc := 59) hx hb hK hP hS hv dX2_keepWithout_59 (fun H locs hP hS => ?_)
              refine lv_iinc (pc := 60) (v := x2_1 + 1) (lv' := [(2, .int (x2_1 + 1)), (0, .ref (o + x0)), (1, .int x1)]) hx hb dX2_keepWithout_60 hl (k := 0) rfl rfl (by decide) rfl (fun ls hl => ?_)
              refine lv_goto (pc := 63) (tgt := 13) hx hb dX2_keepWithout_63 (by decide) ?_
              exact ih1 (x2_1 + 1, σ3) h _ _ ls hP hS (lv_sub hl [0, 1, 2] rfl)
          · rw [if_neg c1] at h
            refine lv_aload_n (pc := 25) hx hb dX2_keepWithout_25 rfl (lv_at hl 1 rfl) ?_
            obtain ⟨v4, hv, h⟩ := zl_some h
            refine xgR (pc := 26) (j := 0) zc2 hx hb hts hown hK hP hv rfl zf_X2_11 dX2_keepWithout_26 ?_
            refine lv_iload_n (pc := 29) hx hb dX2_keepWithout_29 rfl (lv_at hl 0 rfl) ?_
            refine lv_dup2_11 (pc := 30) hx hb dX2_keepWithout_30 rfl rfl ?_
            obtain ⟨v5, hv, h⟩ := zl_some h
            refine xaJ (pc := 31) hx hb hK hP hv dX2_keepWithout_31 ?_
            refine xgW (pc := 32) hx hb hts hown hE hS zf_X2_45 dX2_keepWithout_32 ?_
            refine lv_iload_n (pc := 35) hx hb dX2_keepWithout_35 rfl (lv_at hl 2 rfl) ?_
            obtain ⟨v6, hv, h⟩ := zl_some h
            refine xaW (pc := 36) hx hb hE hS hv dX2_keepWithout_36 ?_
            refine lv_land (pc := 37) hx hb dX2_keepWithout_37 ?_
            obtain ⟨σ7, hv, h⟩ := zl_some h
            refine xsJ (pc := 38) hx hb hK hP hS hv dX2_keepWithout_38 (fun H locs hP hS => ?_)
            refine lv_goto (pc := 39) (tgt := 60) hx hb dX2_keepWithout_39 (by decide) ?_
            refine lv_iinc (pc := 60) (v := x2_1 + 1) (lv' := [(2, .int (x2_1 + 1)), (0, .ref (o + x0)), (1, .int x1)]) hx hb dX2_keepWithout_60 hl (k := 0) rfl rfl (by decide) rfl (fun ls hl => ?_)
            refine lv_goto (pc := 63) (tgt := 13) hx hb dX2_keepWithout_63 (by decide) ?_
            exact ih1 (x2_1 + 1, σ7) h _ _ ls hP hS (lv_sub hl [0, 1, 2] rfl)
      exact L13_1 N (0, σ) h _ _ ls hP hS (lv_sub hl [0, 1, 2] rfl)
    · rw [if_neg c1] at h
      exact xretv (pc := 10) hx hb hr hlocks hP hK hE hS h dX2_keepWithout_10
def F_X2_sameAs_2 (N : Nat) (x0 : Nat) (x1 : Nat) (again2 : (Int32 × zS) → Option (Int32 × zS)) : Int32 × zS → Option (Int32 × zS)
  | (x2, σ) =>
  if 16 ≤ x2 then
    (rZ 1 σ)
  else
    (zl (gR 2 0 x0 σ) fun v1 =>
    zl (aJ v1 x2 σ) fun v2 =>
    zl (gR 2 0 x1 σ) fun v3 =>
    zl (aJ v3 x2 σ) fun v4 =>
    if (lg_cmp v2 v4) = 0 then
      (again2 (x2 + 1, σ))
    else
      (rZ 0 σ))
def f_X2_sameAs (N : Nat) (x0 : Nat) (x1 : Nat) (σ : zS) : Option (Int32 × zS) :=
  zlp (F_X2_sameAs_2 N x0 x1) N (0, σ)
set_option maxHeartbeats 4000000 in
set_option maxRecDepth 100000 in
theorem c_X2_sameAs (l : Launch) (D : va_G) (c : zC) (o : Nat) (g : zEp) (N : Nat) {x0 : Nat} {x1 : Nat} {σ : zS} {ρ : Int32 × zS} (h : f_X2_sameAs N x0 x1 σ = some ρ) : Met l yX2_sameAs zs_X2_sameAs (zr 2) (va_Pc [.ref (o + x0), .ref (o + x1)] (zG D c o g σ)) (zQi D c o g ρ) 0 0 (zA o) := by
  refine zMetG (by decide) (Nat.le_of_ble_eq_true rfl) ?_
  intro p e s m below meth cd ⟨hx, hb, hr, hml, hown, hts, hlocks⟩ hP hK hE ls hl
  have hS : va_S (zA o) s.heap s.heap [] := va_S.rf
  have hl : lv_has ls 3 [(0, .ref (o + x0)), (1, .ref (o + x1))] := hl
  rw [f_X2_sameAs.eq_1] at h
  refine lv_iconst (pc := 0) (v := 0) hx hb dX2_sameAs_0 (by decide) ?_
  refine lv_istore_n (pc := 1) (lv' := [(2, .int 0), (0, .ref (o + x0)), (1, .ref (o + x1))]) hx hb dX2_sameAs_1 rfl hl (by decide) rfl (fun ls hl => ?_)
  have L2_1 : ∀ (n : Nat) (t : Int32 × zS), zlp (F_X2_sameAs_2 N x0 x1) n t = some ρ → ∀ (H : Heap) (locs : List Loc) (ls : Array Slot), zP D c o (zabs o (t.2)) H → va_S (zA o) s.heap H locs → lv_has ls 3 [(2, .int (t.1)), (0, .ref (o + x0)), (1, .ref (o + x1))] → W p l e (zr 2) s m (([.ref (o + x0), .ref (o + x1)] : List Value).toArray) below meth cd H locs 0 0 (MQ below (zQi D c o g ρ) (([.ref (o + x0), .ref (o + x1)] : List Value).toArray) s 0 0 (zA o)) (F0 m 2 ls []) := by
    refine zlp_ind (fun ag1 ih1 t h H locs ls hP hS hl => ?_)
    obtain ⟨x2_1, σ1⟩ := t
    have hP : zP D c o (zabs o σ1) H := hP
    have hl : lv_has ls 3 [(2, .int x2_1), (0, .ref (o + x0)), (1, .ref (o + x1))] := hl
    rw [F_X2_sameAs_2.eq_1] at h
    show W p l e (zr 2) s m (([.ref (o + x0), .ref (o + x1)] : List Value).toArray) below meth cd H locs 0 0 (MQ below (zQi D c o g ρ) (([.ref (o + x0), .ref (o + x1)] : List Value).toArray) s 0 0 (zA o)) (F0 m 2 ls [])
    refine lv_iload_n (pc := 2) hx hb dX2_sameAs_2 rfl (lv_at hl 0 rfl) ?_
    refine lv_bipush (pc := 3) (v := 16) hx hb dX2_sameAs_3 (by decide) ?_
    refine lv_icmp_ge (pc := 5) (tgt := 32) hx hb dX2_sameAs_5 (by decide) (fun c1 => ?_) (fun c1 => ?_)
    · rw [if_pos c1] at h
      refine lv_iconst (pc := 32) (v := 1) hx hb dX2_sameAs_32 (by decide) ?_
      exact xretz (pc := 33) hx hb hr hlocks hP hK hE hS h dX2_sameAs_33
    · rw [if_neg c1] at h
      refine lv_aload_n (pc := 8) hx hb dX2_sameAs_8 rfl (lv_at hl 1 rfl) ?_
      obtain ⟨v2, hv, h⟩ := zl_some h
      refine xgR (pc := 9) (j := 0) zc2 hx hb hts hown hK hP hv rfl zf_X2_11 dX2_sameAs_9 ?_
      refine lv_iload_n (pc := 12) hx hb dX2_sameAs_12 rfl (lv_at hl 0 rfl) ?_
      obtain ⟨v3, hv, h⟩ := zl_some h
      refine xaJ (pc := 13) hx hb hK hP hv dX2_sameAs_13 ?_
      refine lv_aload_n (pc := 14) hx hb dX2_sameAs_14 rfl (lv_at hl 2 rfl) ?_
      obtain ⟨v4, hv, h⟩ := zl_some h
      refine xgR (pc := 15) (j := 0) zc2 hx hb hts hown hK hP hv rfl zf_X2_11 dX2_sameAs_15 ?_
      refine lv_iload_n (pc := 18) hx hb dX2_sameAs_18 rfl (lv_at hl 0 rfl) ?_
      obtain ⟨v5, hv, h⟩ := zl_some h
      refine xaJ (pc := 19) hx hb hK hP hv dX2_sameAs_19 ?_
      refine W.lcmp (pc := 20) hx hb dX2_sameAs_20 ?_
      refine lv_if_eq (pc := 21) (tgt := 26) hx hb dX2_sameAs_21 (by decide) (fun c1 => ?_) (fun c1 => ?_)
      · rw [if_pos c1] at h
        refine lv_iinc (pc := 26) (v := x2_1 + 1) (lv' := [(2, .int (x2_1 + 1)), (0, .ref (o + x0)), (1, .ref (o + x1))]) hx hb dX2_sameAs_26 hl (k := 0) rfl rfl (by decide) rfl (fun ls hl => ?_)
        refine lv_goto (pc := 29) (tgt := 2) hx hb dX2_sameAs_29 (by decide) ?_
        exact ih1 (x2_1 + 1, σ1) h _ _ ls hP hS (lv_sub hl [0, 1, 2] rfl)
      · rw [if_neg c1] at h
        refine lv_iconst (pc := 24) (v := 0) hx hb dX2_sameAs_24 (by decide) ?_
        exact xretz (pc := 25) hx hb hr hlocks hP hK hE hS h dX2_sameAs_25
  exact L2_1 N (0, σ) h _ _ ls hP hS (lv_sub hl [0, 1, 2] rfl)
def F_X0_namesUsed_5 (N : Nat) (x0 : Nat) (x1 : Nat) (x2 : Int32) (again5 : (Int32 × Int32 × zS) → Option (Int32 × zS)) : Int32 × Int32 × zS → Option (Int32 × zS)
  | (x3, x4, σ) =>
  if x2 ≤ x4 then
    (some (x3, σ))
  else
    (zl (gR 0 1 x0 σ) fun v1 =>
    zl (gC 2 v1) fun _ => zb (f_X2_copyFrom N v1 x1 σ) fun v2 σ3 =>
    zl (gR 0 1 x0 σ3) fun v4 =>
    zl (gC 2 v4) fun _ => zb (f_X2_keepWithout N v4 x4 σ3) fun v5 σ6 =>
    zl (gR 0 1 x0 σ6) fun v7 =>
    zl (gC 2 v7) fun _ => zb (f_X2_sameAs N v7 x1 σ6) fun v8 σ9 =>
    if v8 = 0 then
      (again5 (x3 ||| ((1 : Int32) <<< (x4 &&& 31)), x4 + 1, σ9))
    else
      (again5 (x3, x4 + 1, σ9)))
def f_X0_namesUsed (N : Nat) (x0 : Nat) (x1 : Nat) (x2 : Int32) (σ : zS) : Option (Int32 × zS) :=
  zlp (F_X0_namesUsed_5 N x0 x1 x2) N (0, 0, σ)
set_option maxHeartbeats 4000000 in
set_option maxRecDepth 100000 in
theorem c_X0_namesUsed (l : Launch) (D : va_G) (c : zC) (o : Nat) (g : zEp) (N : Nat) {x0 : Nat} {x1 : Nat} {x2 : Int32} {σ : zS} {ρ : Int32 × zS} (h : f_X0_namesUsed N x0 x1 x2 σ = some ρ) : Met l yX0_namesUsed zs_X0_namesUsed (zr 4) (va_Pc [.ref (o + x0), .ref (o + x1), .int x2] (zG D c o g σ)) (zQi D c o g ρ) 0 0 (zA o) := by
  refine zMetG (by decide) (Nat.le_of_ble_eq_true rfl) ?_
  intro p e s m below meth cd ⟨hx, hb, hr, hml, hown, hts, hlocks⟩ hP hK hE ls hl
  have hS : va_S (zA o) s.heap s.heap [] := va_S.rf
  have hl : lv_has ls 5 [(0, .ref (o + x0)), (1, .ref (o + x1)), (2, .int x2)] := hl
  rw [f_X0_namesUsed.eq_1] at h
  refine lv_iconst (pc := 0) (v := 0) hx hb dX0_namesUsed_0 (by decide) ?_
  refine lv_istore_n (pc := 1) (lv' := [(3, .int 0), (0, .ref (o + x0)), (1, .ref (o + x1)), (2, .int x2)]) hx hb dX0_namesUsed_1 rfl hl (by decide) rfl (fun ls hl => ?_)
  refine lv_iconst (pc := 2) (v := 0) hx hb dX0_namesUsed_2 (by decide) ?_
  refine lv_istore (pc := 3) (lv' := [(4, .int 0), (3, .int 0), (0, .ref (o + x0)), (1, .ref (o + x1)), (2, .int x2)]) hx hb dX0_namesUsed_3 hl (by decide) rfl (fun ls hl => ?_)
  have L5_1 : ∀ (n : Nat) (t : Int32 × Int32 × zS), zlp (F_X0_namesUsed_5 N x0 x1 x2) n t = some ρ → ∀ (H : Heap) (locs : List Loc) (ls : Array Slot), zP D c o (zabs o (t.2.2)) H → va_S (zA o) s.heap H locs → lv_has ls 5 [(3, .int (t.1)), (4, .int (t.2.1)), (0, .ref (o + x0)), (1, .ref (o + x1)), (2, .int x2)] → W p l e (zr 4) s m (([.ref (o + x0), .ref (o + x1), .int x2] : List Value).toArray) below meth cd H locs 0 0 (MQ below (zQi D c o g ρ) (([.ref (o + x0), .ref (o + x1), .int x2] : List Value).toArray) s 0 0 (zA o)) (F0 m 5 ls []) := by
    refine zlp_ind (fun ag1 ih1 t h H locs ls hP hS hl => ?_)
    obtain ⟨x3_1, x4_1, σ1⟩ := t
    have hP : zP D c o (zabs o σ1) H := hP
    have hl : lv_has ls 5 [(3, .int x3_1), (4, .int x4_1), (0, .ref (o + x0)), (1, .ref (o + x1)), (2, .int x2)] := hl
    rw [F_X0_namesUsed_5.eq_1] at h
    show W p l e (zr 4) s m (([.ref (o + x0), .ref (o + x1), .int x2] : List Value).toArray) below meth cd H locs 0 0 (MQ below (zQi D c o g ρ) (([.ref (o + x0), .ref (o + x1), .int x2] : List Value).toArray) s 0 0 (zA o)) (F0 m 5 ls [])
    refine lv_iload (pc := 5) hx hb dX0_namesUsed_5 (lv_at hl 1 rfl) ?_
    refine lv_iload_n (pc := 7) hx hb dX0_namesUsed_7 rfl (lv_at hl 4 rfl) ?_
    refine lv_icmp_ge (pc := 8) (tgt := 52) hx hb dX0_namesUsed_8 (by decide) (fun c1 => ?_) (fun c1 => ?_)
    · rw [if_pos c1] at h
      refine lv_iload_n (pc := 52) hx hb dX0_namesUsed_52 rfl (lv_at hl 0 rfl) ?_
      exact xreti (pc := 53) hx hb hr hlocks hP hK hE hS h dX0_namesUsed_53
    · rw [if_neg c1] at h
      refine lv_aload_n (pc := 11) hx hb dX0_namesUsed_11 rfl (lv_at hl 2 rfl) ?_
      obtain ⟨v2, hv, h⟩ := zl_some h
      refine xgR (pc := 12) (j := 1) zc0 hx hb hts hown hK hP hv rfl zf_X0_18 dX0_namesUsed_12 ?_
      refine lv_aload_n (pc := 15) hx hb dX0_namesUsed_15 rfl (lv_at hl 3 rfl) ?_
      obtain ⟨_, hg, h⟩ := zl_some h
      obtain ⟨v3, σ4, hv, h⟩ := zb_some h
      refine xcallVv (pc := 16) (As := [.ref (o + x1)]) (rest := []) ⟨hx, hb, hml, hown, hts⟩ (c_X2_copyFrom l D c o g N hv) zc2 zV_X0_48 rfl zd_X2_copyFrom ⟨Nat.le_of_ble_eq_true rfl, Nat.le_of_ble_eq_true rfl⟩ hK hP hE hS hg hl.1 rfl (Nat.le_of_ble_eq_true rfl) ⟨Nat.zero_le _, Nat.zero_le _⟩ dX0_namesUsed_16 (fun H locs hP hS => ?_)
      refine lv_aload_n (pc := 19) hx hb dX0_namesUsed_19 rfl (lv_at hl 2 rfl) ?_
      obtain ⟨v5, hv, h⟩ := zl_some h
      refine xgR (pc := 20) (j := 1) zc0 hx hb hts hown hK hP hv rfl zf_X0_18 dX0_namesUsed_20 ?_
      refine lv_iload (pc := 23) hx hb dX0_namesUsed_23 (lv_at hl 1 rfl) ?_
      obtain ⟨_, hg, h⟩ := zl_some h
      obtain ⟨v6, σ7, hv, h⟩ := zb_some h
      refine xcallVv (pc := 25) (As := [.int x4_1]) (rest := []) ⟨hx, hb, hml, hown, hts⟩ (c_X2_keepWithout l D c o g N hv) zc2 zV_X0_86 rfl zd_X2_keepWithout ⟨Nat.le_of_ble_eq_true rfl, Nat.le_of_ble_eq_true rfl⟩ hK hP hE hS hg hl.1 rfl (Nat.le_of_ble_eq_true rfl) ⟨Nat.zero_le _, Nat.zero_le _⟩ dX0_namesUsed_25 (fun H locs hP hS => ?_)
      refine lv_aload_n (pc := 28) hx hb dX0_namesUsed_28 rfl (lv_at hl 2 rfl) ?_
      obtain ⟨v8, hv, h⟩ := zl_some h
      refine xgR (pc := 29) (j := 1) zc0 hx hb hts hown hK hP hv rfl zf_X0_18 dX0_namesUsed_29 ?_
      refine lv_aload_n (pc := 32) hx hb dX0_namesUsed_32 rfl (lv_at hl 3 rfl) ?_
      obtain ⟨_, hg, h⟩ := zl_some h
      obtain ⟨v9, σ10, hv, h⟩ := zb_some h
      refine xcallVi (pc := 33) (As := [.ref (o + x1)]) (rest := []) ⟨hx, hb, hml, hown, hts⟩ (c_X2_sameAs l D c o g N hv) zc2 zV_X0_128 rfl zd_X2_sameAs ⟨Nat.le_of_ble_eq_true rfl, Nat.le_of_ble_eq_true rfl⟩ hK hP hE hS hg hl.1 rfl (Nat.le_of_ble_eq_true rfl) ⟨Nat.zero_le _, Nat.zero_le _⟩ dX0_namesUsed_33 (fun H locs hP hS => ?_)
      refine lv_if_ne (pc := 36) (tgt := 46) hx hb dX0_namesUsed_36 (by decide) (fun c1 => ?_) (fun c1 => ?_)
      · rw [if_neg c1] at h
        refine lv_iinc (pc := 46) (v := x4_1 + 1) (lv' := [(4, .int (x4_1 + 1)), (3, .int x3_1), (0, .ref (o + x0)), (1, .ref (o + x1)), (2, .int x2)]) hx hb dX0_namesUsed_46 hl (k := 1) rfl rfl (by decide) rfl (fun ls hl => ?_)
        refine lv_goto (pc := 49) (tgt := 5) hx hb dX0_namesUsed_49 (by decide) ?_
        exact ih1 (x3_1, x4_1 + 1, σ10) h _ _ ls hP hS (lv_sub hl [1, 0, 2, 3, 4] rfl)
      · rw [if_pos c1] at h
        refine lv_iload_n (pc := 39) hx hb dX0_namesUsed_39 rfl (lv_at hl 0 rfl) ?_
        refine lv_iconst (pc := 40) (v := 1) hx hb dX0_namesUsed_40 (by decide) ?_
        refine lv_iload (pc := 41) hx hb dX0_namesUsed_41 (lv_at hl 1 rfl) ?_
        refine lv_ishl (pc := 43) hx hb dX0_namesUsed_43 ?_
        refine lv_ior (pc := 44) hx hb dX0_namesUsed_44 ?_
        refine lv_istore_n (pc := 45) (lv' := [(3, .int (x3_1 ||| ((1 : Int32) <<< (x4_1 &&& 31)))), (4, .int x4_1), (0, .ref (o + x0)), (1, .ref (o + x1)), (2, .int x2)]) hx hb dX0_namesUsed_45 rfl hl (by decide) rfl (fun ls hl => ?_)
        refine lv_iinc (pc := 46) (v := x4_1 + 1) (lv' := [(4, .int (x4_1 + 1)), (3, .int (x3_1 ||| ((1 : Int32) <<< (x4_1 &&& 31)))), (0, .ref (o + x0)), (1, .ref (o + x1)), (2, .int x2)]) hx hb dX0_namesUsed_46 hl (k := 1) rfl rfl (by decide) rfl (fun ls hl => ?_)
        refine lv_goto (pc := 49) (tgt := 5) hx hb dX0_namesUsed_49 (by decide) ?_
        exact ih1 (x3_1 ||| ((1 : Int32) <<< (x4_1 &&& 31)), x4_1 + 1, σ10) h _ _ ls hP hS (lv_sub hl [1, 0, 2, 3, 4] rfl)
  exact L5_1 N (0, 0, σ) h _ _ ls hP hS (lv_sub hl [1, 0, 2, 3, 4] rfl)
def f_X0_setsOf (N : Nat) (x0 : Int32) (σ : zS) : Option (Int32 × zS) :=
  some ((1 : Int32) <<< ((zmax 0 (zmin 10 x0)) &&& 31), σ)
set_option maxHeartbeats 4000000 in
set_option maxRecDepth 100000 in
theorem c_X0_setsOf (l : Launch) (D : va_G) (c : zC) (o : Nat) (g : zEp) (N : Nat) {x0 : Int32} {σ : zS} {ρ : Int32 × zS} (h : f_X0_setsOf N x0 σ = some ρ) : Met l yX0_setsOf zs_X0_setsOf (zr 2) (va_Pc [.int x0] (zG D c o g σ)) (zQi D c o g ρ) 0 0 (zA o) := by
  refine zMetG (by decide) (Nat.le_of_ble_eq_true rfl) ?_
  intro p e s m below meth cd ⟨hx, hb, hr, hml, hown, hts, hlocks⟩ hP hK hE ls hl
  have hS : va_S (zA o) s.heap s.heap [] := va_S.rf
  have hl : lv_has ls 1 [(0, .int x0)] := hl
  rw [f_X0_setsOf.eq_1] at h
  refine lv_iconst (pc := 0) (v := 1) hx hb dX0_setsOf_0 (by decide) ?_
  refine lv_iconst (pc := 1) (v := 0) hx hb dX0_setsOf_1 (by decide) ?_
  refine lv_bipush (pc := 2) (v := 10) hx hb dX0_setsOf_2 (by decide) ?_
  refine lv_iload_n (pc := 4) hx hb dX0_setsOf_4 rfl (lv_at hl 0 rfl) ?_
  refine xmin (pc := 5) (rest := [.int 0, .int 1]) hx hb (hml.trans hl.1.symm) hown (hts _ zm_X0_104) (hts _ zst_J9_min_7cf53) (hts _ zn_J9) (hts _ (zq_J9_min_7cf53 _ List.mem_cons_self).1) (Nat.le_of_ble_eq_true rfl) (Nat.le_of_ble_eq_true rfl) (Nat.zero_le _) (Nat.zero_le _) dX0_setsOf_5 ?_
  refine xmax (pc := 8) (rest := [.int 1]) hx hb (hml.trans hl.1.symm) hown (hts _ zm_X0_110) (hts _ zst_J9_max_7cf53) (hts _ zn_J9) (hts _ (zq_J9_max_7cf53 _ List.mem_cons_self).1) (Nat.le_of_ble_eq_true rfl) (Nat.le_of_ble_eq_true rfl) (Nat.zero_le _) (Nat.zero_le _) dX0_setsOf_8 ?_
  refine lv_ishl (pc := 11) hx hb dX0_setsOf_11 ?_
  exact xreti (pc := 12) hx hb hr hlocks hP hK hE hS h dX0_setsOf_12
def f_X2_clear (N : Nat) (x0 : Nat) (σ : zS) : Option (Unit × zS) :=
  zl (gR 2 0 x0 σ) fun v1 =>
  zb (f_J7_fill_d0a16 N v1 0 σ) fun v2 σ3 =>
  some ((), σ3)
set_option maxHeartbeats 4000000 in
set_option maxRecDepth 100000 in
theorem c_X2_clear (l : Launch) (D : va_G) (c : zC) (o : Nat) (g : zEp) (N : Nat) {x0 : Nat} {σ : zS} {ρ : Unit × zS} (h : f_X2_clear N x0 σ = some ρ) : Met l yX2_clear zs_X2_clear (zr 4) (va_Pc [.ref (o + x0)] (zG D c o g σ)) (zQu D c o g ρ) 0 0 (zA o) := by
  refine zMetG (by decide) (Nat.le_of_ble_eq_true rfl) ?_
  intro p e s m below meth cd ⟨hx, hb, hr, hml, hown, hts, hlocks⟩ hP hK hE ls hl
  have hS : va_S (zA o) s.heap s.heap [] := va_S.rf
  have hl : lv_has ls 1 [(0, .ref (o + x0))] := hl
  rw [f_X2_clear.eq_1] at h
  refine lv_aload_n (pc := 0) hx hb dX2_clear_0 rfl (lv_at hl 0 rfl) ?_
  obtain ⟨v1, hv, h⟩ := zl_some h
  refine xgR (pc := 1) (j := 0) zc2 hx hb hts hown hK hP hv rfl zf_X2_11 dX2_clear_1 ?_
  refine lv_lconst (pc := 4) (v := 0) hx hb dX2_clear_4 (by decide) ?_
  obtain ⟨v2, σ3, hv, h⟩ := zb_some h
  refine xcallSv (pc := 5) (As := [.ref (o + v1), .long 0]) (rest := []) ⟨hx, hb, hml, hown, hts⟩ (c_J7_fill_d0a16 l D c o g N hv) zT_X2_17 rfl zd_J7_fill_d0a16 ⟨Nat.le_of_ble_eq_true rfl, Nat.le_of_ble_eq_true rfl⟩ hK hP hE hS hl.1 rfl (Nat.le_of_ble_eq_true rfl) ⟨Nat.zero_le _, Nat.zero_le _⟩ dX2_clear_5 (fun H locs hP hS => ?_)
  exact xretv (pc := 8) hx hb hr hlocks hP hK hE hS h dX2_clear_8
def f_X2_include (N : Nat) (x0 : Nat) (x1 : Int32) (σ : zS) : Option (Unit × zS) :=
  if x1 < 0 then
    (some ((), σ))
  else
    (if 1024 ≤ x1 then
      (some ((), σ))
    else
      (zl (gR 2 0 x0 σ) fun v1 =>
      zl (aJ v1 ((x1 : Int32) >>> (6 &&& 31)) σ) fun v2 =>
      zl (sJ v1 ((x1 : Int32) >>> (6 &&& 31)) (v2 ||| (zsl 1 (x1 &&& 63))) σ) fun σ3 =>
      some ((), σ3)))
set_option maxHeartbeats 4000000 in
set_option maxRecDepth 100000 in
theorem c_X2_include (l : Launch) (D : va_G) (c : zC) (o : Nat) (g : zEp) (N : Nat) {x0 : Nat} {x1 : Int32} {σ : zS} {ρ : Unit × zS} (h : f_X2_include N x0 x1 σ = some ρ) : Met l yX2_include zs_X2_include (zr 2) (va_Pc [.ref (o + x0), .int x1] (zG D c o g σ)) (zQu D c o g ρ) 0 0 (zA o) := by
  refine zMetG (by decide) (Nat.le_of_ble_eq_true rfl) ?_
  intro p e s m below meth cd ⟨hx, hb, hr, hml, hown, hts, hlocks⟩ hP hK hE ls hl
  have hS : va_S (zA o) s.heap s.heap [] := va_S.rf
  have hl : lv_has ls 2 [(0, .ref (o + x0)), (1, .int x1)] := hl
  rw [f_X2_include.eq_1] at h
  refine lv_iload_n (pc := 0) hx hb dX2_include_0 rfl (lv_at hl 1 rfl) ?_
  refine lv_if_lt (pc := 1) (tgt := 29) hx hb dX2_include_1 (by decide) (fun c1 => ?_) (fun c1 => ?_)
  · rw [if_pos c1] at h
    exact xretv (pc := 29) hx hb hr hlocks hP hK hE hS h dX2_include_29
  · rw [if_neg c1] at h
    refine lv_iload_n (pc := 4) hx hb dX2_include_4 rfl (lv_at hl 1 rfl) ?_
    refine lv_sipush (pc := 5) (v := 1024) hx hb dX2_include_5 (by decide) ?_
    refine lv_icmp_ge (pc := 8) (tgt := 29) hx hb dX2_include_8 (by decide) (fun c1 => ?_) (fun c1 => ?_)
    · rw [if_pos c1] at h
      exact xretv (pc := 29) hx hb hr hlocks hP hK hE hS h dX2_include_29
    · rw [if_neg c1] at h
      refine lv_aload_n (pc := 11) hx hb dX2_include_11 rfl (lv_at hl 0 rfl) ?_
      obtain ⟨v1, hv, h⟩ := zl_some h
      refine xgR (pc := 12) (j := 0) zc2 hx hb hts hown hK hP hv rfl zf_X2_11 dX2_include_12 ?_
      refine lv_iload_n (pc := 15) hx hb dX2_include_15 rfl (lv_at hl 1 rfl) ?_
      refine lv_bipush (pc := 16) (v := 6) hx hb dX2_include_16 (by decide) ?_
      refine lv_ishr (pc := 18) hx hb dX2_include_18 ?_
      refine lv_dup2_11 (pc := 19) hx hb dX2_include_19 rfl rfl ?_
      obtain ⟨v2, hv, h⟩ := zl_some h
      refine xaJ (pc := 20) hx hb hK hP hv dX2_include_20 ?_
      refine lv_lconst (pc := 21) (v := 1) hx hb dX2_include_21 (by decide) ?_
      refine lv_iload_n (pc := 22) hx hb dX2_include_22 rfl (lv_at hl 1 rfl) ?_
      refine lv_bipush (pc := 23) (v := 63) hx hb dX2_include_23 (by decide) ?_
      refine lv_iand (pc := 25) hx hb dX2_include_25 ?_
      refine lv_lshl (pc := 26) (v := zsl 1 (x1 &&& 63)) hx hb dX2_include_26 rfl ?_
      refine lv_lor (pc := 27) hx hb dX2_include_27 ?_
      obtain ⟨σ3, hv, h⟩ := zl_some h
      refine xsJ (pc := 28) hx hb hK hP hS hv dX2_include_28 (fun H locs hP hS => ?_)
      exact xretv (pc := 29) hx hb hr hlocks hP hK hE hS h dX2_include_29
def F_X2_isEmpty_2 (N : Nat) (x0 : Nat) (again2 : (Int32 × zS) → Option (Int32 × zS)) : Int32 × zS → Option (Int32 × zS)
  | (x1, σ) =>
  if 16 ≤ x1 then
    (rZ 1 σ)
  else
    (zl (gR 2 0 x0 σ) fun v1 =>
    zl (aJ v1 x1 σ) fun v2 =>
    if (lg_cmp v2 0) = 0 then
      (again2 (x1 + 1, σ))
    else
      (rZ 0 σ))
def f_X2_isEmpty (N : Nat) (x0 : Nat) (σ : zS) : Option (Int32 × zS) :=
  zlp (F_X2_isEmpty_2 N x0) N (0, σ)
set_option maxHeartbeats 4000000 in
set_option maxRecDepth 100000 in
theorem c_X2_isEmpty (l : Launch) (D : va_G) (c : zC) (o : Nat) (g : zEp) (N : Nat) {x0 : Nat} {σ : zS} {ρ : Int32 × zS} (h : f_X2_isEmpty N x0 σ = some ρ) : Met l yX2_isEmpty zs_X2_isEmpty (zr 2) (va_Pc [.ref (o + x0)] (zG D c o g σ)) (zQi D c o g ρ) 0 0 (zA o) := by
  refine zMetG (by decide) (Nat.le_of_ble_eq_true rfl) ?_
  intro p e s m below meth cd ⟨hx, hb, hr, hml, hown, hts, hlocks⟩ hP hK hE ls hl
  have hS : va_S (zA o) s.heap s.heap [] := va_S.rf
  have hl : lv_has ls 2 [(0, .ref (o + x0))] := hl
  rw [f_X2_isEmpty.eq_1] at h
  refine lv_iconst (pc := 0) (v := 0) hx hb dX2_isEmpty_0 (by decide) ?_
  refine lv_istore_n (pc := 1) (lv' := [(1, .int 0), (0, .ref (o + x0))]) hx hb dX2_isEmpty_1 rfl hl (by decide) rfl (fun ls hl => ?_)
  have L2_1 : ∀ (n : Nat) (t : Int32 × zS), zlp (F_X2_isEmpty_2 N x0) n t = some ρ → ∀ (H : Heap) (locs : List Loc) (ls : Array Slot), zP D c o (zabs o (t.2)) H → va_S (zA o) s.heap H locs → lv_has ls 2 [(1, .int (t.1)), (0, .ref (o + x0))] → W p l e (zr 2) s m (([.ref (o + x0)] : List Value).toArray) below meth cd H locs 0 0 (MQ below (zQi D c o g ρ) (([.ref (o + x0)] : List Value).toArray) s 0 0 (zA o)) (F0 m 2 ls []) := by
    refine zlp_ind (fun ag1 ih1 t h H locs ls hP hS hl => ?_)
    obtain ⟨x1_1, σ1⟩ := t
    have hP : zP D c o (zabs o σ1) H := hP
    have hl : lv_has ls 2 [(1, .int x1_1), (0, .ref (o + x0))] := hl
    rw [F_X2_isEmpty_2.eq_1] at h
    show W p l e (zr 2) s m (([.ref (o + x0)] : List Value).toArray) below meth cd H locs 0 0 (MQ below (zQi D c o g ρ) (([.ref (o + x0)] : List Value).toArray) s 0 0 (zA o)) (F0 m 2 ls [])
    refine lv_iload_n (pc := 2) hx hb dX2_isEmpty_2 rfl (lv_at hl 0 rfl) ?_
    refine lv_bipush (pc := 3) (v := 16) hx hb dX2_isEmpty_3 (by decide) ?_
    refine lv_icmp_ge (pc := 5) (tgt := 27) hx hb dX2_isEmpty_5 (by decide) (fun c1 => ?_) (fun c1 => ?_)
    · rw [if_pos c1] at h
      refine lv_iconst (pc := 27) (v := 1) hx hb dX2_isEmpty_27 (by decide) ?_
      exact xretz (pc := 28) hx hb hr hlocks hP hK hE hS h dX2_isEmpty_28
    · rw [if_neg c1] at h
      refine lv_aload_n (pc := 8) hx hb dX2_isEmpty_8 rfl (lv_at hl 1 rfl) ?_
      obtain ⟨v2, hv, h⟩ := zl_some h
      refine xgR (pc := 9) (j := 0) zc2 hx hb hts hown hK hP hv rfl zf_X2_11 dX2_isEmpty_9 ?_
      refine lv_iload_n (pc := 12) hx hb dX2_isEmpty_12 rfl (lv_at hl 0 rfl) ?_
      obtain ⟨v3, hv, h⟩ := zl_some h
      refine xaJ (pc := 13) hx hb hK hP hv dX2_isEmpty_13 ?_
      refine lv_lconst (pc := 14) (v := 0) hx hb dX2_isEmpty_14 (by decide) ?_
      refine W.lcmp (pc := 15) hx hb dX2_isEmpty_15 ?_
      refine lv_if_eq (pc := 16) (tgt := 21) hx hb dX2_isEmpty_16 (by decide) (fun c1 => ?_) (fun c1 => ?_)
      · rw [if_pos c1] at h
        refine lv_iinc (pc := 21) (v := x1_1 + 1) (lv' := [(1, .int (x1_1 + 1)), (0, .ref (o + x0))]) hx hb dX2_isEmpty_21 hl (k := 0) rfl rfl (by decide) rfl (fun ls hl => ?_)
        refine lv_goto (pc := 24) (tgt := 2) hx hb dX2_isEmpty_24 (by decide) ?_
        exact ih1 (x1_1 + 1, σ1) h _ _ ls hP hS (lv_sub hl [0, 1] rfl)
      · rw [if_neg c1] at h
        refine lv_iconst (pc := 19) (v := 0) hx hb dX2_isEmpty_19 (by decide) ?_
        exact xretz (pc := 20) hx hb hr hlocks hP hK hE hS h dX2_isEmpty_20
  exact L2_1 N (0, σ) h _ _ ls hP hS (lv_sub hl [0, 1] rfl)
def F_X0_divide_31 (N : Nat) (x0 : Nat) (x1 : Nat) (x2 : Nat) (x4 : Int32) (x5 : Int32) (again31 : (Int32 × zS) → Option (Unit × zS)) : Int32 × zS → Option (Unit × zS)
  | (x6, σ) =>
  if x5 ≤ x6 then
    (zl (gR 0 0 x0 σ) fun v10 =>
    zl (gC 2 x1) fun _ => zb (f_X2_copyFrom N x1 v10 σ) fun v11 σ12 =>
    some ((), σ12))
  else
    (if (x6 &&& x4) = 0 then
      (zl (gC 0 x0) fun _ => zb (f_X0_allJoined N x0 x1 x2 x6 σ) fun v13 σ14 =>
      if v13 = 0 then
        (again31 (x6 + 1, σ14))
      else
        (zl (gR 0 0 x0 σ14) fun v15 =>
        zl (gC 2 v15) fun _ => zb (f_X2_include N v15 x6 σ14) fun v16 σ17 =>
        again31 (x6 + 1, σ17)))
    else
      (again31 (x6 + 1, σ)))
def f_X0_divide (N : Nat) (x0 : Nat) (x1 : Nat) (x2 : Nat) (x3 : Int32) (σ : zS) : Option (Unit × zS) :=
  zl (gR 0 0 x0 σ) fun v1 =>
  zl (gC 2 v1) fun _ => zb (f_X2_clear N v1 σ) fun v2 σ3 =>
  zl (gC 2 x2) fun _ => zb (f_X2_isEmpty N x2 σ3) fun v4 σ5 =>
  if v4 = 0 then
    (zl (gC 0 x0) fun _ => zb (f_X0_namesUsed N x0 x2 x3 σ5) fun v6 σ7 =>
    zb (f_X0_setsOf N x3 σ7) fun v8 σ9 =>
    zlp (F_X0_divide_31 N x0 x1 x2 v6 v8) N (0, σ9))
  else
    (zl (gR 0 0 x0 σ5) fun v18 =>
    zl (gC 2 x1) fun _ => zb (f_X2_copyFrom N x1 v18 σ5) fun v19 σ20 =>
    some ((), σ20))
set_option maxHeartbeats 4000000 in
set_option maxRecDepth 100000 in
theorem c_X0_divide (l : Launch) (D : va_G) (c : zC) (o : Nat) (g : zEp) (N : Nat) {x0 : Nat} {x1 : Nat} {x2 : Nat} {x3 : Int32} {σ : zS} {ρ : Unit × zS} (h : f_X0_divide N x0 x1 x2 x3 σ = some ρ) : Met l yX0_divide zs_X0_divide (zr 10) (va_Pc [.ref (o + x0), .ref (o + x1), .ref (o + x2), .int x3] (zG D c o g σ)) (zQu D c o g ρ) 0 0 (zA o) := by
  refine zMetG (by decide) (Nat.le_of_ble_eq_true rfl) ?_
  intro p e s m below meth cd ⟨hx, hb, hr, hml, hown, hts, hlocks⟩ hP hK hE ls hl
  have hS : va_S (zA o) s.heap s.heap [] := va_S.rf
  have hl : lv_has ls 7 [(0, .ref (o + x0)), (1, .ref (o + x1)), (2, .ref (o + x2)), (3, .int x3)] := hl
  rw [f_X0_divide.eq_1] at h
  refine lv_aload_n (pc := 0) hx hb dX0_divide_0 rfl (lv_at hl 0 rfl) ?_
  obtain ⟨v1, hv, h⟩ := zl_some h
  refine xgR (pc := 1) (j := 0) zc0 hx hb hts hown hK hP hv rfl zf_X0_12 dX0_divide_1 ?_
  obtain ⟨_, hg, h⟩ := zl_some h
  obtain ⟨v2, σ3, hv, h⟩ := zb_some h
  refine xcallVv (pc := 4) (As := []) (rest := []) ⟨hx, hb, hml, hown, hts⟩ (c_X2_clear l D c o g N hv) zc2 zV_X0_83 rfl zd_X2_clear ⟨Nat.le_of_ble_eq_true rfl, Nat.le_of_ble_eq_true rfl⟩ hK hP hE hS hg hl.1 rfl (Nat.le_of_ble_eq_true rfl) ⟨Nat.zero_le _, Nat.zero_le _⟩ dX0_divide_4 (fun H locs hP hS => ?_)
  refine lv_aload_n (pc := 7) hx hb dX0_divide_7 rfl (lv_at hl 2 rfl) ?_
  obtain ⟨_, hg, h⟩ := zl_some h
  obtain ⟨v4, σ5, hv, h⟩ := zb_some h
  refine xcallVi (pc := 8) (As := []) (rest := []) ⟨hx, hb, hml, hown, hts⟩ (c_X2_isEmpty l D c o g N hv) zc2 zV_X0_113 rfl zd_X2_isEmpty ⟨Nat.le_of_ble_eq_true rfl, Nat.le_of_ble_eq_true rfl⟩ hK hP hE hS hg hl.1 rfl (Nat.le_of_ble_eq_true rfl) ⟨Nat.zero_le _, Nat.zero_le _⟩ dX0_divide_8 (fun H locs hP hS => ?_)
  refine lv_if_ne (pc := 11) (tgt := 72) hx hb dX0_divide_11 (by decide) (fun c1 => ?_) (fun c1 => ?_)
  · rw [if_neg c1] at h
    refine lv_aload_n (pc := 72) hx hb dX0_divide_72 rfl (lv_at hl 1 rfl) ?_
    refine lv_aload_n (pc := 73) hx hb dX0_divide_73 rfl (lv_at hl 0 rfl) ?_
    obtain ⟨v6, hv, h⟩ := zl_some h
    refine xgR (pc := 74) (j := 0) zc0 hx hb hts hown hK hP hv rfl zf_X0_12 dX0_divide_74 ?_
    obtain ⟨_, hg, h⟩ := zl_some h
    obtain ⟨v7, σ8, hv, h⟩ := zb_some h
    refine xcallVv (pc := 77) (As := [.ref (o + v6)]) (rest := []) ⟨hx, hb, hml, hown, hts⟩ (c_X2_copyFrom l D c o g N hv) zc2 zV_X0_48 rfl zd_X2_copyFrom ⟨Nat.le_of_ble_eq_true rfl, Nat.le_of_ble_eq_true rfl⟩ hK hP hE hS hg hl.1 rfl (Nat.le_of_ble_eq_true rfl) ⟨Nat.zero_le _, Nat.zero_le _⟩ dX0_divide_77 (fun H locs hP hS => ?_)
    exact xretv (pc := 80) hx hb hr hlocks hP hK hE hS h dX0_divide_80
  · rw [if_pos c1] at h
    refine lv_aload_n (pc := 14) hx hb dX0_divide_14 rfl (lv_at hl 0 rfl) ?_
    refine lv_aload_n (pc := 15) hx hb dX0_divide_15 rfl (lv_at hl 2 rfl) ?_
    refine lv_iload_n (pc := 16) hx hb dX0_divide_16 rfl (lv_at hl 3 rfl) ?_
    obtain ⟨_, hg, h⟩ := zl_some h
    obtain ⟨v9, σ10, hv, h⟩ := zb_some h
    refine xcallVi (pc := 17) (As := [.ref (o + x2), .int x3]) (rest := []) ⟨hx, hb, hml, hown, hts⟩ (c_X0_namesUsed l D c o g N hv) zc0 zV_X0_117 rfl zd_X0_namesUsed ⟨Nat.le_of_ble_eq_true rfl, Nat.le_of_ble_eq_true rfl⟩ hK hP hE hS hg hl.1 rfl (Nat.le_of_ble_eq_true rfl) ⟨Nat.zero_le _, Nat.zero_le _⟩ dX0_divide_17 (fun H locs hP hS => ?_)
    refine lv_istore (pc := 20) (lv' := [(4, .int v9), (0, .ref (o + x0)), (1, .ref (o + x1)), (2, .ref (o + x2)), (3, .int x3)]) hx hb dX0_divide_20 hl (by decide) rfl (fun ls hl => ?_)
    refine lv_iload_n (pc := 22) hx hb dX0_divide_22 rfl (lv_at hl 4 rfl) ?_
    obtain ⟨v11, σ12, hv, h⟩ := zb_some h
    refine xcallSi (pc := 23) (As := [.int x3]) (rest := []) ⟨hx, hb, hml, hown, hts⟩ (c_X0_setsOf l D c o g N hv) zT_X0_93 rfl zd_X0_setsOf ⟨Nat.le_of_ble_eq_true rfl, Nat.le_of_ble_eq_true rfl⟩ hK hP hE hS hl.1 rfl (Nat.le_of_ble_eq_true rfl) ⟨Nat.zero_le _, Nat.zero_le _⟩ dX0_divide_23 (fun H locs hP hS => ?_)
    refine lv_istore (pc := 26) (lv' := [(5, .int v11), (4, .int v9), (0, .ref (o + x0)), (1, .ref (o + x1)), (2, .ref (o + x2)), (3, .int x3)]) hx hb dX0_divide_26 hl (by decide) rfl (fun ls hl => ?_)
    refine lv_iconst (pc := 28) (v := 0) hx hb dX0_divide_28 (by decide) ?_
    refine lv_istore (pc := 29) (lv' := [(6, .int 0), (5, .int v11), (4, .int v9), (0, .ref (o + x0)), (1, .ref (o + x1)), (2, .ref (o + x2)), (3, .int x3)]) hx hb dX0_divide_29 hl (by decide) rfl (fun ls hl => ?_)
    have L31_13 : ∀ (n : Nat) (t : Int32 × zS), zlp (F_X0_divide_31 N x0 x1 x2 v9 v11) n t = some ρ → ∀ (H : Heap) (locs : List Loc) (ls : Array Slot), zP D c o (zabs o (t.2)) H → va_S (zA o) s.heap H locs → lv_has ls 7 [(6, .int (t.1)), (0, .ref (o + x0)), (1, .ref (o + x1)), (2, .ref (o + x2)), (4, .int v9), (5, .int v11)] → W p l e (zr 10) s m (([.ref (o + x0), .ref (o + x1), .ref (o + x2), .int x3] : List Value).toArray) below meth cd H locs 0 0 (MQ below (zQu D c o g ρ) (([.ref (o + x0), .ref (o + x1), .ref (o + x2), .int x3] : List Value).toArray) s 0 0 (zA o)) (F0 m 31 ls []) := by
      refine zlp_ind (fun ag13 ih13 t h H locs ls hP hS hl => ?_)
      obtain ⟨x6_13, σ13⟩ := t
      have hP : zP D c o (zabs o σ13) H := hP
      have hl : lv_has ls 7 [(6, .int x6_13), (0, .ref (o + x0)), (1, .ref (o + x1)), (2, .ref (o + x2)), (4, .int v9), (5, .int v11)] := hl
      rw [F_X0_divide_31.eq_1] at h
      show W p l e (zr 10) s m (([.ref (o + x0), .ref (o + x1), .ref (o + x2), .int x3] : List Value).toArray) below meth cd H locs 0 0 (MQ below (zQu D c o g ρ) (([.ref (o + x0), .ref (o + x1), .ref (o + x2), .int x3] : List Value).toArray) s 0 0 (zA o)) (F0 m 31 ls [])
      refine lv_iload (pc := 31) hx hb dX0_divide_31 (lv_at hl 0 rfl) ?_
      refine lv_iload (pc := 33) hx hb dX0_divide_33 (lv_at hl 5 rfl) ?_
      refine lv_icmp_ge (pc := 35) (tgt := 72) hx hb dX0_divide_35 (by decide) (fun c1 => ?_) (fun c1 => ?_)
      · rw [if_pos c1] at h
        refine lv_aload_n (pc := 72) hx hb dX0_divide_72 rfl (lv_at hl 2 rfl) ?_
        refine lv_aload_n (pc := 73) hx hb dX0_divide_73 rfl (lv_at hl 1 rfl) ?_
        obtain ⟨v14, hv, h⟩ := zl_some h
        refine xgR (pc := 74) (j := 0) zc0 hx hb hts hown hK hP hv rfl zf_X0_12 dX0_divide_74 ?_
        obtain ⟨_, hg, h⟩ := zl_some h
        obtain ⟨v15, σ16, hv, h⟩ := zb_some h
        refine xcallVv (pc := 77) (As := [.ref (o + v14)]) (rest := []) ⟨hx, hb, hml, hown, hts⟩ (c_X2_copyFrom l D c o g N hv) zc2 zV_X0_48 rfl zd_X2_copyFrom ⟨Nat.le_of_ble_eq_true rfl, Nat.le_of_ble_eq_true rfl⟩ hK hP hE hS hg hl.1 rfl (Nat.le_of_ble_eq_true rfl) ⟨Nat.zero_le _, Nat.zero_le _⟩ dX0_divide_77 (fun H locs hP hS => ?_)
        exact xretv (pc := 80) hx hb hr hlocks hP hK hE hS h dX0_divide_80
      · rw [if_neg c1] at h
        refine lv_iload (pc := 38) hx hb dX0_divide_38 (lv_at hl 0 rfl) ?_
        refine lv_iload (pc := 40) hx hb dX0_divide_40 (lv_at hl 4 rfl) ?_
        refine lv_iand (pc := 42) hx hb dX0_divide_42 ?_
        refine lv_if_ne (pc := 43) (tgt := 66) hx hb dX0_divide_43 (by decide) (fun c1 => ?_) (fun c1 => ?_)
        · rw [if_neg c1] at h
          refine lv_iinc (pc := 66) (v := x6_13 + 1) (lv' := [(6, .int (x6_13 + 1)), (0, .ref (o + x0)), (1, .ref (o + x1)), (2, .ref (o + x2)), (4, .int v9), (5, .int v11)]) hx hb dX0_divide_66 hl (k := 0) rfl rfl (by decide) rfl (fun ls hl => ?_)
          refine lv_goto (pc := 69) (tgt := 31) hx hb dX0_divide_69 (by decide) ?_
          exact ih13 (x6_13 + 1, σ13) h _ _ ls hP hS (lv_sub hl [0, 1, 2, 3, 4, 5] rfl)
        · rw [if_pos c1] at h
          refine lv_aload_n (pc := 46) hx hb dX0_divide_46 rfl (lv_at hl 1 rfl) ?_
          refine lv_aload_n (pc := 47) hx hb dX0_divide_47 rfl (lv_at hl 2 rfl) ?_
          refine lv_aload_n (pc := 48) hx hb dX0_divide_48 rfl (lv_at hl 3 rfl) ?_
          refine lv_iload (pc := 49) hx hb dX0_divide_49 (lv_at hl 0 rfl) ?_
          obtain ⟨_, hg, h⟩ := zl_some h
          obtain ⟨v17, σ18, hv, h⟩ := zb_some h
          refine xcallVi (pc := 51) (As := [.ref (o + x1), .ref (o + x2), .int x6_13]) (rest := []) ⟨hx, hb, hml, hown, hts⟩ (c_X0_allJoined l D c o g N hv) zc0 zV_X0_121 rfl zd_X0_allJoined ⟨Nat.le_of_ble_eq_true rfl, Nat.le_of_ble_eq_true rfl⟩ hK hP hE hS hg hl.1 rfl (Nat.le_of_ble_eq_true rfl) ⟨Nat.zero_le _, Nat.zero_le _⟩ dX0_divide_51 (fun H locs hP hS => ?_)
          refine lv_if_eq (pc := 54) (tgt := 66) hx hb dX0_divide_54 (by decide) (fun c1 => ?_) (fun c1 => ?_)
          · rw [if_pos c1] at h
            refine lv_iinc (pc := 66) (v := x6_13 + 1) (lv' := [(6, .int (x6_13 + 1)), (0, .ref (o + x0)), (1, .ref (o + x1)), (2, .ref (o + x2)), (4, .int v9), (5, .int v11)]) hx hb dX0_divide_66 hl (k := 0) rfl rfl (by decide) rfl (fun ls hl => ?_)
            refine lv_goto (pc := 69) (tgt := 31) hx hb dX0_divide_69 (by decide) ?_
            exact ih13 (x6_13 + 1, σ18) h _ _ ls hP hS (lv_sub hl [0, 1, 2, 3, 4, 5] rfl)
          · rw [if_neg c1] at h
            refine lv_aload_n (pc := 57) hx hb dX0_divide_57 rfl (lv_at hl 1 rfl) ?_
            obtain ⟨v19, hv, h⟩ := zl_some h
            refine xgR (pc := 58) (j := 0) zc0 hx hb hts hown hK hP hv rfl zf_X0_12 dX0_divide_58 ?_
            refine lv_iload (pc := 61) hx hb dX0_divide_61 (lv_at hl 0 rfl) ?_
            obtain ⟨_, hg, h⟩ := zl_some h
            obtain ⟨v20, σ21, hv, h⟩ := zb_some h
            refine xcallVv (pc := 63) (As := [.int x6_13]) (rest := []) ⟨hx, hb, hml, hown, hts⟩ (c_X2_include l D c o g N hv) zc2 zV_X0_97 rfl zd_X2_include ⟨Nat.le_of_ble_eq_true rfl, Nat.le_of_ble_eq_true rfl⟩ hK hP hE hS hg hl.1 rfl (Nat.le_of_ble_eq_true rfl) ⟨Nat.zero_le _, Nat.zero_le _⟩ dX0_divide_63 (fun H locs hP hS => ?_)
            refine lv_iinc (pc := 66) (v := x6_13 + 1) (lv' := [(6, .int (x6_13 + 1)), (0, .ref (o + x0)), (1, .ref (o + x1)), (2, .ref (o + x2)), (4, .int v9), (5, .int v11)]) hx hb dX0_divide_66 hl (k := 0) rfl rfl (by decide) rfl (fun ls hl => ?_)
            refine lv_goto (pc := 69) (tgt := 31) hx hb dX0_divide_69 (by decide) ?_
            exact ih13 (x6_13 + 1, σ21) h _ _ ls hP hS (lv_sub hl [0, 1, 2, 3, 4, 5] rfl)
    exact L31_13 N (0, σ12) h _ _ ls hP hS (lv_sub hl [0, 3, 4, 5, 2, 1] rfl)
def F_X0_countBelow_54 (N : Nat) (x2 : Nat) (x4 : Int32) (x5 : Int32) (again43 : (Int32 × zS) → Option (Unit × zS)) (again54 : (Int32 × zS) → Option (Unit × zS)) : Int32 × zS → Option (Unit × zS)
  | (x6, σ) =>
  if x4 ≤ x6 then
    (again43 ((x5 : Int32) <<< (1 &&& 31), σ))
  else
    (if (x6 &&& x5) = 0 then
      (again54 (x6 + 1, σ))
    else
      (zl (aI 14 x2 x6 σ) fun v3 =>
      zl (aI 14 x2 (x6 - x5) σ) fun v4 =>
      zl (sI 14 x2 x6 (v3 + v4) σ) fun σ5 =>
      again54 (x6 + 1, σ5)))
def F_X0_countBelow_43 (N : Nat) (x2 : Nat) (x4 : Int32) (again43 : (Int32 × zS) → Option (Unit × zS)) : Int32 × zS → Option (Unit × zS)
  | (x5, σ) =>
  if x4 ≤ x5 then
    (some ((), σ))
  else
    (zlp (F_X0_countBelow_54 N x2 x4 x5 again43) N (x5, σ))
def F_X0_countBelow_9 (N : Nat) (x1 : Nat) (x2 : Nat) (x4 : Int32) (again9 : (Int32 × zS) → Option (Unit × zS)) : Int32 × zS → Option (Unit × zS)
  | (x5, σ) =>
  if x4 ≤ x5 then
    (zlp (F_X0_countBelow_43 N x2 x4) N (1, σ))
  else
    (zl (gC 2 x1) fun _ => zb (f_X2_holds N x1 x5 σ) fun v6 σ7 =>
    if v6 = 0 then
      (zl (sI 14 x2 x5 0 σ7) fun σ8 =>
      again9 (x5 + 1, σ8))
    else
      (zl (sI 14 x2 x5 1 σ7) fun σ9 =>
      again9 (x5 + 1, σ9)))
def f_X0_countBelow (N : Nat) (x0 : Nat) (x1 : Nat) (x2 : Nat) (x3 : Int32) (σ : zS) : Option (Unit × zS) :=
  zb (f_X0_setsOf N x3 σ) fun v1 σ2 =>
  zlp (F_X0_countBelow_9 N x1 x2 v1) N (0, σ2)
set_option maxHeartbeats 4000000 in
set_option maxRecDepth 100000 in
theorem c_X0_countBelow (l : Launch) (D : va_G) (c : zC) (o : Nat) (g : zEp) (N : Nat) {x0 : Nat} {x1 : Nat} {x2 : Nat} {x3 : Int32} {σ : zS} {ρ : Unit × zS} (h : f_X0_countBelow N x0 x1 x2 x3 σ = some ρ) : Met l yX0_countBelow zs_X0_countBelow (zr 4) (va_Pc [.ref (o + x0), .ref (o + x1), .ref (o + x2), .int x3] (zG D c o g σ)) (zQu D c o g ρ) 0 0 (zA o) := by
  refine zMetG (by decide) (Nat.le_of_ble_eq_true rfl) ?_
  intro p e s m below meth cd ⟨hx, hb, hr, hml, hown, hts, hlocks⟩ hP hK hE ls hl
  have hS : va_S (zA o) s.heap s.heap [] := va_S.rf
  have hl : lv_has ls 7 [(0, .ref (o + x0)), (1, .ref (o + x1)), (2, .ref (o + x2)), (3, .int x3)] := hl
  rw [f_X0_countBelow.eq_1] at h
  refine lv_iload_n (pc := 0) hx hb dX0_countBelow_0 rfl (lv_at hl 3 rfl) ?_
  obtain ⟨v1, σ2, hv, h⟩ := zb_some h
  refine xcallSi (pc := 1) (As := [.int x3]) (rest := []) ⟨hx, hb, hml, hown, hts⟩ (c_X0_setsOf l D c o g N hv) zT_X0_93 rfl zd_X0_setsOf ⟨Nat.le_of_ble_eq_true rfl, Nat.le_of_ble_eq_true rfl⟩ hK hP hE hS hl.1 rfl (Nat.le_of_ble_eq_true rfl) ⟨Nat.zero_le _, Nat.zero_le _⟩ dX0_countBelow_1 (fun H locs hP hS => ?_)
  refine lv_istore (pc := 4) (lv' := [(4, .int v1), (0, .ref (o + x0)), (1, .ref (o + x1)), (2, .ref (o + x2)), (3, .int x3)]) hx hb dX0_countBelow_4 hl (by decide) rfl (fun ls hl => ?_)
  refine lv_iconst (pc := 6) (v := 0) hx hb dX0_countBelow_6 (by decide) ?_
  refine lv_istore (pc := 7) (lv' := [(5, .int 0), (4, .int v1), (0, .ref (o + x0)), (1, .ref (o + x1)), (2, .ref (o + x2)), (3, .int x3)]) hx hb dX0_countBelow_7 hl (by decide) rfl (fun ls hl => ?_)
  have L9_3 : ∀ (n : Nat) (t : Int32 × zS), zlp (F_X0_countBelow_9 N x1 x2 v1) n t = some ρ → ∀ (H : Heap) (locs : List Loc) (ls : Array Slot), zP D c o (zabs o (t.2)) H → va_S (zA o) s.heap H locs → lv_has ls 7 [(5, .int (t.1)), (1, .ref (o + x1)), (2, .ref (o + x2)), (4, .int v1)] → W p l e (zr 4) s m (([.ref (o + x0), .ref (o + x1), .ref (o + x2), .int x3] : List Value).toArray) below meth cd H locs 0 0 (MQ below (zQu D c o g ρ) (([.ref (o + x0), .ref (o + x1), .ref (o + x2), .int x3] : List Value).toArray) s 0 0 (zA o)) (F0 m 9 ls []) := by
    refine zlp_ind (fun ag3 ih3 t h H locs ls hP hS hl => ?_)
    obtain ⟨x5_3, σ3⟩ := t
    have hP : zP D c o (zabs o σ3) H := hP
    have hl : lv_has ls 7 [(5, .int x5_3), (1, .ref (o + x1)), (2, .ref (o + x2)), (4, .int v1)] := hl
    rw [F_X0_countBelow_9.eq_1] at h
    show W p l e (zr 4) s m (([.ref (o + x0), .ref (o + x1), .ref (o + x2), .int x3] : List Value).toArray) below meth cd H locs 0 0 (MQ below (zQu D c o g ρ) (([.ref (o + x0), .ref (o + x1), .ref (o + x2), .int x3] : List Value).toArray) s 0 0 (zA o)) (F0 m 9 ls [])
    refine lv_iload (pc := 9) hx hb dX0_countBelow_9 (lv_at hl 0 rfl) ?_
    refine lv_iload (pc := 11) hx hb dX0_countBelow_11 (lv_at hl 3 rfl) ?_
    refine lv_icmp_ge (pc := 13) (tgt := 40) hx hb dX0_countBelow_13 (by decide) (fun c1 => ?_) (fun c1 => ?_)
    · rw [if_pos c1] at h
      refine lv_iconst (pc := 40) (v := 1) hx hb dX0_countBelow_40 (by decide) ?_
      refine lv_istore (pc := 41) (lv' := [(5, .int 1), (1, .ref (o + x1)), (2, .ref (o + x2)), (4, .int v1)]) hx hb dX0_countBelow_41 hl (by decide) rfl (fun ls hl => ?_)
      have L43_4 : ∀ (n : Nat) (t : Int32 × zS), zlp (F_X0_countBelow_43 N x2 v1) n t = some ρ → ∀ (H : Heap) (locs : List Loc) (ls : Array Slot), zP D c o (zabs o (t.2)) H → va_S (zA o) s.heap H locs → lv_has ls 7 [(5, .int (t.1)), (2, .ref (o + x2)), (4, .int v1)] → W p l e (zr 4) s m (([.ref (o + x0), .ref (o + x1), .ref (o + x2), .int x3] : List Value).toArray) below meth cd H locs 0 0 (MQ below (zQu D c o g ρ) (([.ref (o + x0), .ref (o + x1), .ref (o + x2), .int x3] : List Value).toArray) s 0 0 (zA o)) (F0 m 43 ls []) := by
        refine zlp_ind (fun ag4 ih4 t h H locs ls hP hS hl => ?_)
        obtain ⟨x5_4, σ4⟩ := t
        have hP : zP D c o (zabs o σ4) H := hP
        have hl : lv_has ls 7 [(5, .int x5_4), (2, .ref (o + x2)), (4, .int v1)] := hl
        rw [F_X0_countBelow_43.eq_1] at h
        show W p l e (zr 4) s m (([.ref (o + x0), .ref (o + x1), .ref (o + x2), .int x3] : List Value).toArray) below meth cd H locs 0 0 (MQ below (zQu D c o g ρ) (([.ref (o + x0), .ref (o + x1), .ref (o + x2), .int x3] : List Value).toArray) s 0 0 (zA o)) (F0 m 43 ls [])
        refine lv_iload (pc := 43) hx hb dX0_countBelow_43 (lv_at hl 0 rfl) ?_
        refine lv_iload (pc := 45) hx hb dX0_countBelow_45 (lv_at hl 2 rfl) ?_
        refine lv_icmp_ge (pc := 47) (tgt := 98) hx hb dX0_countBelow_47 (by decide) (fun c1 => ?_) (fun c1 => ?_)
        · rw [if_pos c1] at h
          exact xretv (pc := 98) hx hb hr hlocks hP hK hE hS h dX0_countBelow_98
        · rw [if_neg c1] at h
          refine lv_iload (pc := 50) hx hb dX0_countBelow_50 (lv_at hl 0 rfl) ?_
          refine lv_istore (pc := 52) (lv' := [(6, .int x5_4), (5, .int x5_4), (2, .ref (o + x2)), (4, .int v1)]) hx hb dX0_countBelow_52 hl (by decide) rfl (fun ls hl => ?_)
          have L54_5 : ∀ (n : Nat) (t : Int32 × zS), zlp (F_X0_countBelow_54 N x2 v1 x5_4 ag4) n t = some ρ → ∀ (H : Heap) (locs : List Loc) (ls : Array Slot), zP D c o (zabs o (t.2)) H → va_S (zA o) s.heap H locs → lv_has ls 7 [(6, .int (t.1)), (2, .ref (o + x2)), (4, .int v1), (5, .int x5_4)] → W p l e (zr 4) s m (([.ref (o + x0), .ref (o + x1), .ref (o + x2), .int x3] : List Value).toArray) below meth cd H locs 0 0 (MQ below (zQu D c o g ρ) (([.ref (o + x0), .ref (o + x1), .ref (o + x2), .int x3] : List Value).toArray) s 0 0 (zA o)) (F0 m 54 ls []) := by
            refine zlp_ind (fun ag5 ih5 t h H locs ls hP hS hl => ?_)
            obtain ⟨x6_5, σ5⟩ := t
            have hP : zP D c o (zabs o σ5) H := hP
            have hl : lv_has ls 7 [(6, .int x6_5), (2, .ref (o + x2)), (4, .int v1), (5, .int x5_4)] := hl
            rw [F_X0_countBelow_54.eq_1] at h
            show W p l e (zr 4) s m (([.ref (o + x0), .ref (o + x1), .ref (o + x2), .int x3] : List Value).toArray) below meth cd H locs 0 0 (MQ below (zQu D c o g ρ) (([.ref (o + x0), .ref (o + x1), .ref (o + x2), .int x3] : List Value).toArray) s 0 0 (zA o)) (F0 m 54 ls [])
            refine lv_iload (pc := 54) hx hb dX0_countBelow_54 (lv_at hl 0 rfl) ?_
            refine lv_iload (pc := 56) hx hb dX0_countBelow_56 (lv_at hl 2 rfl) ?_
            refine lv_icmp_ge (pc := 58) (tgt := 89) hx hb dX0_countBelow_58 (by decide) (fun c1 => ?_) (fun c1 => ?_)
            · rw [if_pos c1] at h
              refine lv_iload (pc := 89) hx hb dX0_countBelow_89 (lv_at hl 3 rfl) ?_
              refine lv_iconst (pc := 91) (v := 1) hx hb dX0_countBelow_91 (by decide) ?_
              refine lv_ishl (pc := 92) hx hb dX0_countBelow_92 ?_
              refine lv_istore (pc := 93) (lv' := [(5, .int ((x5_4 : Int32) <<< (1 &&& 31))), (6, .int x6_5), (2, .ref (o + x2)), (4, .int v1)]) hx hb dX0_countBelow_93 hl (by decide) rfl (fun ls hl => ?_)
              refine lv_goto (pc := 95) (tgt := 43) hx hb dX0_countBelow_95 (by decide) ?_
              exact ih4 ((x5_4 : Int32) <<< (1 &&& 31), σ5) h _ _ ls hP hS (lv_sub hl [0, 2, 3] rfl)
            · rw [if_neg c1] at h
              refine lv_iload (pc := 61) hx hb dX0_countBelow_61 (lv_at hl 0 rfl) ?_
              refine lv_iload (pc := 63) hx hb dX0_countBelow_63 (lv_at hl 3 rfl) ?_
              refine lv_iand (pc := 65) hx hb dX0_countBelow_65 ?_
              refine lv_if_eq (pc := 66) (tgt := 83) hx hb dX0_countBelow_66 (by decide) (fun c1 => ?_) (fun c1 => ?_)
              · rw [if_pos c1] at h
                refine lv_iinc (pc := 83) (v := x6_5 + 1) (lv' := [(6, .int (x6_5 + 1)), (2, .ref (o + x2)), (4, .int v1), (5, .int x5_4)]) hx hb dX0_countBelow_83 hl (k := 0) rfl rfl (by decide) rfl (fun ls hl => ?_)
                refine lv_goto (pc := 86) (tgt := 54) hx hb dX0_countBelow_86 (by decide) ?_
                exact ih5 (x6_5 + 1, σ5) h _ _ ls hP hS (lv_sub hl [0, 1, 2, 3] rfl)
              · rw [if_neg c1] at h
                refine lv_aload_n (pc := 69) hx hb dX0_countBelow_69 rfl (lv_at hl 1 rfl) ?_
                refine lv_iload (pc := 70) hx hb dX0_countBelow_70 (lv_at hl 0 rfl) ?_
                refine lv_dup2_11 (pc := 72) hx hb dX0_countBelow_72 rfl rfl ?_
                obtain ⟨v6, hv, h⟩ := zl_some h
                refine xaI (pc := 73) hx hb hK hP hv dX0_countBelow_73 ?_
                refine lv_aload_n (pc := 74) hx hb dX0_countBelow_74 rfl (lv_at hl 1 rfl) ?_
                refine lv_iload (pc := 75) hx hb dX0_countBelow_75 (lv_at hl 0 rfl) ?_
                refine lv_iload (pc := 77) hx hb dX0_countBelow_77 (lv_at hl 3 rfl) ?_
                refine lv_isub (pc := 79) hx hb dX0_countBelow_79 ?_
                obtain ⟨v7, hv, h⟩ := zl_some h
                refine xaI (pc := 80) hx hb hK hP hv dX0_countBelow_80 ?_
                refine lv_iadd (pc := 81) hx hb dX0_countBelow_81 ?_
                obtain ⟨σ8, hv, h⟩ := zl_some h
                refine xsI (pc := 82) hx hb hK hP hS hv dX0_countBelow_82 (fun H locs hP hS => ?_)
                refine lv_iinc (pc := 83) (v := x6_5 + 1) (lv' := [(6, .int (x6_5 + 1)), (2, .ref (o + x2)), (4, .int v1), (5, .int x5_4)]) hx hb dX0_countBelow_83 hl (k := 0) rfl rfl (by decide) rfl (fun ls hl => ?_)
                refine lv_goto (pc := 86) (tgt := 54) hx hb dX0_countBelow_86 (by decide) ?_
                exact ih5 (x6_5 + 1, σ8) h _ _ ls hP hS (lv_sub hl [0, 1, 2, 3] rfl)
          exact L54_5 N (x5_4, σ4) h _ _ ls hP hS (lv_sub hl [0, 2, 3, 1] rfl)
      exact L43_4 N (1, σ3) h _ _ ls hP hS (lv_sub hl [0, 2, 3] rfl)
    · rw [if_neg c1] at h
      refine lv_aload_n (pc := 16) hx hb dX0_countBelow_16 rfl (lv_at hl 2 rfl) ?_
      refine lv_iload (pc := 17) hx hb dX0_countBelow_17 (lv_at hl 0 rfl) ?_
      refine lv_aload_n (pc := 19) hx hb dX0_countBelow_19 rfl (lv_at hl 1 rfl) ?_
      refine lv_iload (pc := 20) hx hb dX0_countBelow_20 (lv_at hl 0 rfl) ?_
      obtain ⟨_, hg, h⟩ := zl_some h
      obtain ⟨v9, σ10, hv, h⟩ := zb_some h
      refine xcallVi (pc := 22) (As := [.int x5_3]) (rest := [.int x5_3, .ref (o + x2)]) ⟨hx, hb, hml, hown, hts⟩ (c_X2_holds l D c o g N hv) zc2 zV_X0_100 rfl zd_X2_holds ⟨Nat.le_of_ble_eq_true rfl, Nat.le_of_ble_eq_true rfl⟩ hK hP hE hS hg hl.1 rfl (Nat.le_of_ble_eq_true rfl) ⟨Nat.zero_le _, Nat.zero_le _⟩ dX0_countBelow_22 (fun H locs hP hS => ?_)
      refine lv_if_eq (pc := 25) (tgt := 32) hx hb dX0_countBelow_25 (by decide) (fun c1 => ?_) (fun c1 => ?_)
      · rw [if_pos c1] at h
        refine lv_iconst (pc := 32) (v := 0) hx hb dX0_countBelow_32 (by decide) ?_
        obtain ⟨σ11, hv, h⟩ := zl_some h
        refine xsI (pc := 33) hx hb hK hP hS hv dX0_countBelow_33 (fun H locs hP hS => ?_)
        refine lv_iinc (pc := 34) (v := x5_3 + 1) (lv' := [(5, .int (x5_3 + 1)), (1, .ref (o + x1)), (2, .ref (o + x2)), (4, .int v1)]) hx hb dX0_countBelow_34 hl (k := 0) rfl rfl (by decide) rfl (fun ls hl => ?_)
        refine lv_goto (pc := 37) (tgt := 9) hx hb dX0_countBelow_37 (by decide) ?_
        exact ih3 (x5_3 + 1, σ11) h _ _ ls hP hS (lv_sub hl [0, 1, 2, 3] rfl)
      · rw [if_neg c1] at h
        refine lv_iconst (pc := 28) (v := 1) hx hb dX0_countBelow_28 (by decide) ?_
        refine lv_goto (pc := 29) (tgt := 33) hx hb dX0_countBelow_29 (by decide) ?_
        obtain ⟨σ12, hv, h⟩ := zl_some h
        refine xsI (pc := 33) hx hb hK hP hS hv dX0_countBelow_33 (fun H locs hP hS => ?_)
        refine lv_iinc (pc := 34) (v := x5_3 + 1) (lv' := [(5, .int (x5_3 + 1)), (1, .ref (o + x1)), (2, .ref (o + x2)), (4, .int v1)]) hx hb dX0_countBelow_34 hl (k := 0) rfl rfl (by decide) rfl (fun ls hl => ?_)
        refine lv_goto (pc := 37) (tgt := 9) hx hb dX0_countBelow_37 (by decide) ?_
        exact ih3 (x5_3 + 1, σ12) h _ _ ls hP hS (lv_sub hl [0, 1, 2, 3] rfl)
  exact L9_3 N (0, σ2) h _ _ ls hP hS (lv_sub hl [0, 3, 4, 1] rfl)
def F_X0_multiply_130 (N : Nat) (x0 : Nat) (x1 : Nat) (x4 : Int32) (again130 : (Int32 × zS) → Option (Unit × zS)) : Int32 × zS → Option (Unit × zS)
  | (x5, σ) =>
  if x4 ≤ x5 then
    (some ((), σ))
  else
    (zl (gR 0 3 x0 σ) fun v11 =>
    zl (aI 14 v11 x5 σ) fun v12 =>
    if v12 = 0 then
      (again130 (x5 + 1, σ))
    else
      (zl (gC 2 x1) fun _ => zb (f_X2_include N x1 x5 σ) fun v13 σ14 =>
      again130 (x5 + 1, σ14)))
def F_X0_multiply_73 (N : Nat) (x0 : Nat) (x1 : Nat) (x4 : Int32) (x5 : Int32) (again62 : (Int32 × zS) → Option (Unit × zS)) (again73 : (Int32 × zS) → Option (Unit × zS)) : Int32 × zS → Option (Unit × zS)
  | (x6, σ) =>
  if x4 ≤ x6 then
    (again62 ((x5 : Int32) <<< (1 &&& 31), σ))
  else
    (if (x6 &&& x5) = 0 then
      (again73 (x6 + 1, σ))
    else
      (zl (gR 0 3 x0 σ) fun v15 =>
      zl (aI 14 v15 x6 σ) fun v16 =>
      zl (gR 0 3 x0 σ) fun v17 =>
      zl (aI 14 v17 (x6 - x5) σ) fun v18 =>
      zl (sI 14 v15 x6 (v16 - v18) σ) fun σ19 =>
      again73 (x6 + 1, σ19)))
def F_X0_multiply_62 (N : Nat) (x0 : Nat) (x1 : Nat) (x4 : Int32) (again62 : (Int32 × zS) → Option (Unit × zS)) : Int32 × zS → Option (Unit × zS)
  | (x5, σ) =>
  if x4 ≤ x5 then
    (zl (gC 2 x1) fun _ => zb (f_X2_clear N x1 σ) fun v9 σ10 =>
    zlp (F_X0_multiply_130 N x0 x1 x4) N (0, σ10))
  else
    (zlp (F_X0_multiply_73 N x0 x1 x4 x5 again62) N (x5, σ))
def F_X0_multiply_29 (N : Nat) (x0 : Nat) (x1 : Nat) (x4 : Int32) (again29 : (Int32 × zS) → Option (Unit × zS)) : Int32 × zS → Option (Unit × zS)
  | (x5, σ) =>
  if x4 ≤ x5 then
    (zlp (F_X0_multiply_62 N x0 x1 x4) N (1, σ))
  else
    (zl (gR 0 3 x0 σ) fun v20 =>
    zl (aI 14 v20 x5 σ) fun v21 =>
    zl (gR 0 4 x0 σ) fun v22 =>
    zl (aI 14 v22 x5 σ) fun v23 =>
    zl (sI 14 v20 x5 (v21 * v23) σ) fun σ24 =>
    again29 (x5 + 1, σ24))
def f_X0_multiply (N : Nat) (x0 : Nat) (x1 : Nat) (x2 : Nat) (x3 : Int32) (σ : zS) : Option (Unit × zS) :=
  zl (gR 0 3 x0 σ) fun v1 =>
  zl (gC 0 x0) fun _ => zb (f_X0_countBelow N x0 x1 v1 x3 σ) fun v2 σ3 =>
  zl (gR 0 4 x0 σ3) fun v4 =>
  zl (gC 0 x0) fun _ => zb (f_X0_countBelow N x0 x2 v4 x3 σ3) fun v5 σ6 =>
  zb (f_X0_setsOf N x3 σ6) fun v7 σ8 =>
  zlp (F_X0_multiply_29 N x0 x1 v7) N (0, σ8)
set_option maxHeartbeats 4000000 in
set_option maxRecDepth 100000 in
theorem c_X0_multiply (l : Launch) (D : va_G) (c : zC) (o : Nat) (g : zEp) (N : Nat) {x0 : Nat} {x1 : Nat} {x2 : Nat} {x3 : Int32} {σ : zS} {ρ : Unit × zS} (h : f_X0_multiply N x0 x1 x2 x3 σ = some ρ) : Met l yX0_multiply zs_X0_multiply (zr 6) (va_Pc [.ref (o + x0), .ref (o + x1), .ref (o + x2), .int x3] (zG D c o g σ)) (zQu D c o g ρ) 0 0 (zA o) := by
  refine zMetG (by decide) (Nat.le_of_ble_eq_true rfl) ?_
  intro p e s m below meth cd ⟨hx, hb, hr, hml, hown, hts, hlocks⟩ hP hK hE ls hl
  have hS : va_S (zA o) s.heap s.heap [] := va_S.rf
  have hl : lv_has ls 7 [(0, .ref (o + x0)), (1, .ref (o + x1)), (2, .ref (o + x2)), (3, .int x3)] := hl
  rw [f_X0_multiply.eq_1] at h
  refine lv_aload_n (pc := 0) hx hb dX0_multiply_0 rfl (lv_at hl 0 rfl) ?_
  refine lv_aload_n (pc := 1) hx hb dX0_multiply_1 rfl (lv_at hl 1 rfl) ?_
  refine lv_aload_n (pc := 2) hx hb dX0_multiply_2 rfl (lv_at hl 0 rfl) ?_
  obtain ⟨v1, hv, h⟩ := zl_some h
  refine xgR (pc := 3) (j := 3) zc0 hx hb hts hown hK hP hv rfl zf_X0_24 dX0_multiply_3 ?_
  refine lv_iload_n (pc := 6) hx hb dX0_multiply_6 rfl (lv_at hl 3 rfl) ?_
  obtain ⟨_, hg, h⟩ := zl_some h
  obtain ⟨v2, σ3, hv, h⟩ := zb_some h
  refine xcallVv (pc := 7) (As := [.ref (o + x1), .ref (o + v1), .int x3]) (rest := []) ⟨hx, hb, hml, hown, hts⟩ (c_X0_countBelow l D c o g N hv) zc0 zV_X0_89 rfl zd_X0_countBelow ⟨Nat.le_of_ble_eq_true rfl, Nat.le_of_ble_eq_true rfl⟩ hK hP hE hS hg hl.1 rfl (Nat.le_of_ble_eq_true rfl) ⟨Nat.zero_le _, Nat.zero_le _⟩ dX0_multiply_7 (fun H locs hP hS => ?_)
  refine lv_aload_n (pc := 10) hx hb dX0_multiply_10 rfl (lv_at hl 0 rfl) ?_
  refine lv_aload_n (pc := 11) hx hb dX0_multiply_11 rfl (lv_at hl 2 rfl) ?_
  refine lv_aload_n (pc := 12) hx hb dX0_multiply_12 rfl (lv_at hl 0 rfl) ?_
  obtain ⟨v4, hv, h⟩ := zl_some h
  refine xgR (pc := 13) (j := 4) zc0 hx hb hts hown hK hP hv rfl zf_X0_28 dX0_multiply_13 ?_
  refine lv_iload_n (pc := 16) hx hb dX0_multiply_16 rfl (lv_at hl 3 rfl) ?_
  obtain ⟨_, hg, h⟩ := zl_some h
  obtain ⟨v5, σ6, hv, h⟩ := zb_some h
  refine xcallVv (pc := 17) (As := [.ref (o + x2), .ref (o + v4), .int x3]) (rest := []) ⟨hx, hb, hml, hown, hts⟩ (c_X0_countBelow l D c o g N hv) zc0 zV_X0_89 rfl zd_X0_countBelow ⟨Nat.le_of_ble_eq_true rfl, Nat.le_of_ble_eq_true rfl⟩ hK hP hE hS hg hl.1 rfl (Nat.le_of_ble_eq_true rfl) ⟨Nat.zero_le _, Nat.zero_le _⟩ dX0_multiply_17 (fun H locs hP hS => ?_)
  refine lv_iload_n (pc := 20) hx hb dX0_multiply_20 rfl (lv_at hl 3 rfl) ?_
  obtain ⟨v7, σ8, hv, h⟩ := zb_some h
  refine xcallSi (pc := 21) (As := [.int x3]) (rest := []) ⟨hx, hb, hml, hown, hts⟩ (c_X0_setsOf l D c o g N hv) zT_X0_93 rfl zd_X0_setsOf ⟨Nat.le_of_ble_eq_true rfl, Nat.le_of_ble_eq_true rfl⟩ hK hP hE hS hl.1 rfl (Nat.le_of_ble_eq_true rfl) ⟨Nat.zero_le _, Nat.zero_le _⟩ dX0_multiply_21 (fun H locs hP hS => ?_)
  refine lv_istore (pc := 24) (lv' := [(4, .int v7), (0, .ref (o + x0)), (1, .ref (o + x1)), (2, .ref (o + x2)), (3, .int x3)]) hx hb dX0_multiply_24 hl (by decide) rfl (fun ls hl => ?_)
  refine lv_iconst (pc := 26) (v := 0) hx hb dX0_multiply_26 (by decide) ?_
  refine lv_istore (pc := 27) (lv' := [(5, .int 0), (4, .int v7), (0, .ref (o + x0)), (1, .ref (o + x1)), (2, .ref (o + x2)), (3, .int x3)]) hx hb dX0_multiply_27 hl (by decide) rfl (fun ls hl => ?_)
  have L29_9 : ∀ (n : Nat) (t : Int32 × zS), zlp (F_X0_multiply_29 N x0 x1 v7) n t = some ρ → ∀ (H : Heap) (locs : List Loc) (ls : Array Slot), zP D c o (zabs o (t.2)) H → va_S (zA o) s.heap H locs → lv_has ls 7 [(5, .int (t.1)), (0, .ref (o + x0)), (1, .ref (o + x1)), (4, .int v7)] → W p l e (zr 6) s m (([.ref (o + x0), .ref (o + x1), .ref (o + x2), .int x3] : List Value).toArray) below meth cd H locs 0 0 (MQ below (zQu D c o g ρ) (([.ref (o + x0), .ref (o + x1), .ref (o + x2), .int x3] : List Value).toArray) s 0 0 (zA o)) (F0 m 29 ls []) := by
    refine zlp_ind (fun ag9 ih9 t h H locs ls hP hS hl => ?_)
    obtain ⟨x5_9, σ9⟩ := t
    have hP : zP D c o (zabs o σ9) H := hP
    have hl : lv_has ls 7 [(5, .int x5_9), (0, .ref (o + x0)), (1, .ref (o + x1)), (4, .int v7)] := hl
    rw [F_X0_multiply_29.eq_1] at h
    show W p l e (zr 6) s m (([.ref (o + x0), .ref (o + x1), .ref (o + x2), .int x3] : List Value).toArray) below meth cd H locs 0 0 (MQ below (zQu D c o g ρ) (([.ref (o + x0), .ref (o + x1), .ref (o + x2), .int x3] : List Value).toArray) s 0 0 (zA o)) (F0 m 29 ls [])
    refine lv_iload (pc := 29) hx hb dX0_multiply_29 (lv_at hl 0 rfl) ?_
    refine lv_iload (pc := 31) hx hb dX0_multiply_31 (lv_at hl 3 rfl) ?_
    refine lv_icmp_ge (pc := 33) (tgt := 59) hx hb dX0_multiply_33 (by decide) (fun c1 => ?_) (fun c1 => ?_)
    · rw [if_pos c1] at h
      refine lv_iconst (pc := 59) (v := 1) hx hb dX0_multiply_59 (by decide) ?_
      refine lv_istore (pc := 60) (lv' := [(5, .int 1), (0, .ref (o + x0)), (1, .ref (o + x1)), (4, .int v7)]) hx hb dX0_multiply_60 hl (by decide) rfl (fun ls hl => ?_)
      have L62_10 : ∀ (n : Nat) (t : Int32 × zS), zlp (F_X0_multiply_62 N x0 x1 v7) n t = some ρ → ∀ (H : Heap) (locs : List Loc) (ls : Array Slot), zP D c o (zabs o (t.2)) H → va_S (zA o) s.heap H locs → lv_has ls 7 [(5, .int (t.1)), (0, .ref (o + x0)), (1, .ref (o + x1)), (4, .int v7)] → W p l e (zr 6) s m (([.ref (o + x0), .ref (o + x1), .ref (o + x2), .int x3] : List Value).toArray) below meth cd H locs 0 0 (MQ below (zQu D c o g ρ) (([.ref (o + x0), .ref (o + x1), .ref (o + x2), .int x3] : List Value).toArray) s 0 0 (zA o)) (F0 m 62 ls []) := by
        refine zlp_ind (fun ag10 ih10 t h H locs ls hP hS hl => ?_)
        obtain ⟨x5_10, σ10⟩ := t
        have hP : zP D c o (zabs o σ10) H := hP
        have hl : lv_has ls 7 [(5, .int x5_10), (0, .ref (o + x0)), (1, .ref (o + x1)), (4, .int v7)] := hl
        rw [F_X0_multiply_62.eq_1] at h
        show W p l e (zr 6) s m (([.ref (o + x0), .ref (o + x1), .ref (o + x2), .int x3] : List Value).toArray) below meth cd H locs 0 0 (MQ below (zQu D c o g ρ) (([.ref (o + x0), .ref (o + x1), .ref (o + x2), .int x3] : List Value).toArray) s 0 0 (zA o)) (F0 m 62 ls [])
        refine lv_iload (pc := 62) hx hb dX0_multiply_62 (lv_at hl 0 rfl) ?_
        refine lv_iload (pc := 64) hx hb dX0_multiply_64 (lv_at hl 3 rfl) ?_
        refine lv_icmp_ge (pc := 66) (tgt := 123) hx hb dX0_multiply_66 (by decide) (fun c1 => ?_) (fun c1 => ?_)
        · rw [if_pos c1] at h
          refine lv_aload_n (pc := 123) hx hb dX0_multiply_123 rfl (lv_at hl 2 rfl) ?_
          obtain ⟨_, hg, h⟩ := zl_some h
          obtain ⟨v11, σ12, hv, h⟩ := zb_some h
          refine xcallVv (pc := 124) (As := []) (rest := []) ⟨hx, hb, hml, hown, hts⟩ (c_X2_clear l D c o g N hv) zc2 zV_X0_83 rfl zd_X2_clear ⟨Nat.le_of_ble_eq_true rfl, Nat.le_of_ble_eq_true rfl⟩ hK hP hE hS hg hl.1 rfl (Nat.le_of_ble_eq_true rfl) ⟨Nat.zero_le _, Nat.zero_le _⟩ dX0_multiply_124 (fun H locs hP hS => ?_)
          refine lv_iconst (pc := 127) (v := 0) hx hb dX0_multiply_127 (by decide) ?_
          refine lv_istore (pc := 128) (lv' := [(5, .int 0), (0, .ref (o + x0)), (1, .ref (o + x1)), (4, .int v7)]) hx hb dX0_multiply_128 hl (by decide) rfl (fun ls hl => ?_)
          have L130_13 : ∀ (n : Nat) (t : Int32 × zS), zlp (F_X0_multiply_130 N x0 x1 v7) n t = some ρ → ∀ (H : Heap) (locs : List Loc) (ls : Array Slot), zP D c o (zabs o (t.2)) H → va_S (zA o) s.heap H locs → lv_has ls 7 [(5, .int (t.1)), (0, .ref (o + x0)), (1, .ref (o + x1)), (4, .int v7)] → W p l e (zr 6) s m (([.ref (o + x0), .ref (o + x1), .ref (o + x2), .int x3] : List Value).toArray) below meth cd H locs 0 0 (MQ below (zQu D c o g ρ) (([.ref (o + x0), .ref (o + x1), .ref (o + x2), .int x3] : List Value).toArray) s 0 0 (zA o)) (F0 m 130 ls []) := by
            refine zlp_ind (fun ag13 ih13 t h H locs ls hP hS hl => ?_)
            obtain ⟨x5_13, σ13⟩ := t
            have hP : zP D c o (zabs o σ13) H := hP
            have hl : lv_has ls 7 [(5, .int x5_13), (0, .ref (o + x0)), (1, .ref (o + x1)), (4, .int v7)] := hl
            rw [F_X0_multiply_130.eq_1] at h
            show W p l e (zr 6) s m (([.ref (o + x0), .ref (o + x1), .ref (o + x2), .int x3] : List Value).toArray) below meth cd H locs 0 0 (MQ below (zQu D c o g ρ) (([.ref (o + x0), .ref (o + x1), .ref (o + x2), .int x3] : List Value).toArray) s 0 0 (zA o)) (F0 m 130 ls [])
            refine lv_iload (pc := 130) hx hb dX0_multiply_130 (lv_at hl 0 rfl) ?_
            refine lv_iload (pc := 132) hx hb dX0_multiply_132 (lv_at hl 3 rfl) ?_
            refine lv_icmp_ge (pc := 134) (tgt := 159) hx hb dX0_multiply_134 (by decide) (fun c1 => ?_) (fun c1 => ?_)
            · rw [if_pos c1] at h
              exact xretv (pc := 159) hx hb hr hlocks hP hK hE hS h dX0_multiply_159
            · rw [if_neg c1] at h
              refine lv_aload_n (pc := 137) hx hb dX0_multiply_137 rfl (lv_at hl 1 rfl) ?_
              obtain ⟨v14, hv, h⟩ := zl_some h
              refine xgR (pc := 138) (j := 3) zc0 hx hb hts hown hK hP hv rfl zf_X0_24 dX0_multiply_138 ?_
              refine lv_iload (pc := 141) hx hb dX0_multiply_141 (lv_at hl 0 rfl) ?_
              obtain ⟨v15, hv, h⟩ := zl_some h
              refine xaI (pc := 143) hx hb hK hP hv dX0_multiply_143 ?_
              refine lv_if_eq (pc := 144) (tgt := 153) hx hb dX0_multiply_144 (by decide) (fun c1 => ?_) (fun c1 => ?_)
              · rw [if_pos c1] at h
                refine lv_iinc (pc := 153) (v := x5_13 + 1) (lv' := [(5, .int (x5_13 + 1)), (0, .ref (o + x0)), (1, .ref (o + x1)), (4, .int v7)]) hx hb dX0_multiply_153 hl (k := 0) rfl rfl (by decide) rfl (fun ls hl => ?_)
                refine lv_goto (pc := 156) (tgt := 130) hx hb dX0_multiply_156 (by decide) ?_
                exact ih13 (x5_13 + 1, σ13) h _ _ ls hP hS (lv_sub hl [0, 1, 2, 3] rfl)
              · rw [if_neg c1] at h
                refine lv_aload_n (pc := 147) hx hb dX0_multiply_147 rfl (lv_at hl 2 rfl) ?_
                refine lv_iload (pc := 148) hx hb dX0_multiply_148 (lv_at hl 0 rfl) ?_
                obtain ⟨_, hg, h⟩ := zl_some h
                obtain ⟨v16, σ17, hv, h⟩ := zb_some h
                refine xcallVv (pc := 150) (As := [.int x5_13]) (rest := []) ⟨hx, hb, hml, hown, hts⟩ (c_X2_include l D c o g N hv) zc2 zV_X0_97 rfl zd_X2_include ⟨Nat.le_of_ble_eq_true rfl, Nat.le_of_ble_eq_true rfl⟩ hK hP hE hS hg hl.1 rfl (Nat.le_of_ble_eq_true rfl) ⟨Nat.zero_le _, Nat.zero_le _⟩ dX0_multiply_150 (fun H locs hP hS => ?_)
                refine lv_iinc (pc := 153) (v := x5_13 + 1) (lv' := [(5, .int (x5_13 + 1)), (0, .ref (o + x0)), (1, .ref (o + x1)), (4, .int v7)]) hx hb dX0_multiply_153 hl (k := 0) rfl rfl (by decide) rfl (fun ls hl => ?_)
                refine lv_goto (pc := 156) (tgt := 130) hx hb dX0_multiply_156 (by decide) ?_
                exact ih13 (x5_13 + 1, σ17) h _ _ ls hP hS (lv_sub hl [0, 1, 2, 3] rfl)
          exact L130_13 N (0, σ12) h _ _ ls hP hS (lv_sub hl [0, 1, 2, 3] rfl)
        · rw [if_neg c1] at h
          refine lv_iload (pc := 69) hx hb dX0_multiply_69 (lv_at hl 0 rfl) ?_
          refine lv_istore (pc := 71) (lv' := [(6, .int x5_10), (5, .int x5_10), (0, .ref (o + x0)), (1, .ref (o + x1)), (4, .int v7)]) hx hb dX0_multiply_71 hl (by decide) rfl (fun ls hl => ?_)
          have L73_18 : ∀ (n : Nat) (t : Int32 × zS), zlp (F_X0_multiply_73 N x0 x1 v7 x5_10 ag10) n t = some ρ → ∀ (H : Heap) (locs : List Loc) (ls : Array Slot), zP D c o (zabs o (t.2)) H → va_S (zA o) s.heap H locs → lv_has ls 7 [(6, .int (t.1)), (0, .ref (o + x0)), (1, .ref (o + x1)), (4, .int v7), (5, .int x5_10)] → W p l e (zr 6) s m (([.ref (o + x0), .ref (o + x1), .ref (o + x2), .int x3] : List Value).toArray) below meth cd H locs 0 0 (MQ below (zQu D c o g ρ) (([.ref (o + x0), .ref (o + x1), .ref (o + x2), .int x3] : List Value).toArray) s 0 0 (zA o)) (F0 m 73 ls []) := by
            refine zlp_ind (fun ag18 ih18 t h H locs ls hP hS hl => ?_)
            obtain ⟨x6_18, σ18⟩ := t
            have hP : zP D c o (zabs o σ18) H := hP
            have hl : lv_has ls 7 [(6, .int x6_18), (0, .ref (o + x0)), (1, .ref (o + x1)), (4, .int v7), (5, .int x5_10)] := hl
            rw [F_X0_multiply_73.eq_1] at h
            show W p l e (zr 6) s m (([.ref (o + x0), .ref (o + x1), .ref (o + x2), .int x3] : List Value).toArray) below meth cd H locs 0 0 (MQ below (zQu D c o g ρ) (([.ref (o + x0), .ref (o + x1), .ref (o + x2), .int x3] : List Value).toArray) s 0 0 (zA o)) (F0 m 73 ls [])
            refine lv_iload (pc := 73) hx hb dX0_multiply_73 (lv_at hl 0 rfl) ?_
            refine lv_iload (pc := 75) hx hb dX0_multiply_75 (lv_at hl 3 rfl) ?_
            refine lv_icmp_ge (pc := 77) (tgt := 114) hx hb dX0_multiply_77 (by decide) (fun c1 => ?_) (fun c1 => ?_)
            · rw [if_pos c1] at h
              refine lv_iload (pc := 114) hx hb dX0_multiply_114 (lv_at hl 4 rfl) ?_
              refine lv_iconst (pc := 116) (v := 1) hx hb dX0_multiply_116 (by decide) ?_
              refine lv_ishl (pc := 117) hx hb dX0_multiply_117 ?_
              refine lv_istore (pc := 118) (lv' := [(5, .int ((x5_10 : Int32) <<< (1 &&& 31))), (6, .int x6_18), (0, .ref (o + x0)), (1, .ref (o + x1)), (4, .int v7)]) hx hb dX0_multiply_118 hl (by decide) rfl (fun ls hl => ?_)
              refine lv_goto (pc := 120) (tgt := 62) hx hb dX0_multiply_120 (by decide) ?_
              exact ih10 ((x5_10 : Int32) <<< (1 &&& 31), σ18) h _ _ ls hP hS (lv_sub hl [0, 2, 3, 4] rfl)
            · rw [if_neg c1] at h
              refine lv_iload (pc := 80) hx hb dX0_multiply_80 (lv_at hl 0 rfl) ?_
              refine lv_iload (pc := 82) hx hb dX0_multiply_82 (lv_at hl 4 rfl) ?_
              refine lv_iand (pc := 84) hx hb dX0_multiply_84 ?_
              refine lv_if_eq (pc := 85) (tgt := 108) hx hb dX0_multiply_85 (by decide) (fun c1 => ?_) (fun c1 => ?_)
              · rw [if_pos c1] at h
                refine lv_iinc (pc := 108) (v := x6_18 + 1) (lv' := [(6, .int (x6_18 + 1)), (0, .ref (o + x0)), (1, .ref (o + x1)), (4, .int v7), (5, .int x5_10)]) hx hb dX0_multiply_108 hl (k := 0) rfl rfl (by decide) rfl (fun ls hl => ?_)
                refine lv_goto (pc := 111) (tgt := 73) hx hb dX0_multiply_111 (by decide) ?_
                exact ih18 (x6_18 + 1, σ18) h _ _ ls hP hS (lv_sub hl [0, 1, 2, 3, 4] rfl)
              · rw [if_neg c1] at h
                refine lv_aload_n (pc := 88) hx hb dX0_multiply_88 rfl (lv_at hl 1 rfl) ?_
                obtain ⟨v19, hv, h⟩ := zl_some h
                refine xgR (pc := 89) (j := 3) zc0 hx hb hts hown hK hP hv rfl zf_X0_24 dX0_multiply_89 ?_
                refine lv_iload (pc := 92) hx hb dX0_multiply_92 (lv_at hl 0 rfl) ?_
                refine lv_dup2_11 (pc := 94) hx hb dX0_multiply_94 rfl rfl ?_
                obtain ⟨v20, hv, h⟩ := zl_some h
                refine xaI (pc := 95) hx hb hK hP hv dX0_multiply_95 ?_
                refine lv_aload_n (pc := 96) hx hb dX0_multiply_96 rfl (lv_at hl 1 rfl) ?_
                obtain ⟨v21, hv, h⟩ := zl_some h
                refine xgR (pc := 97) (j := 3) zc0 hx hb hts hown hK hP hv rfl zf_X0_24 dX0_multiply_97 ?_
                refine lv_iload (pc := 100) hx hb dX0_multiply_100 (lv_at hl 0 rfl) ?_
                refine lv_iload (pc := 102) hx hb dX0_multiply_102 (lv_at hl 4 rfl) ?_
                refine lv_isub (pc := 104) hx hb dX0_multiply_104 ?_
                obtain ⟨v22, hv, h⟩ := zl_some h
                refine xaI (pc := 105) hx hb hK hP hv dX0_multiply_105 ?_
                refine lv_isub (pc := 106) hx hb dX0_multiply_106 ?_
                obtain ⟨σ23, hv, h⟩ := zl_some h
                refine xsI (pc := 107) hx hb hK hP hS hv dX0_multiply_107 (fun H locs hP hS => ?_)
                refine lv_iinc (pc := 108) (v := x6_18 + 1) (lv' := [(6, .int (x6_18 + 1)), (0, .ref (o + x0)), (1, .ref (o + x1)), (4, .int v7), (5, .int x5_10)]) hx hb dX0_multiply_108 hl (k := 0) rfl rfl (by decide) rfl (fun ls hl => ?_)
                refine lv_goto (pc := 111) (tgt := 73) hx hb dX0_multiply_111 (by decide) ?_
                exact ih18 (x6_18 + 1, σ23) h _ _ ls hP hS (lv_sub hl [0, 1, 2, 3, 4] rfl)
          exact L73_18 N (x5_10, σ10) h _ _ ls hP hS (lv_sub hl [0, 2, 3, 4, 1] rfl)
      exact L62_10 N (1, σ9) h _ _ ls hP hS (lv_sub hl [0, 1, 2, 3] rfl)
    · rw [if_neg c1] at h
      refine lv_aload_n (pc := 36) hx hb dX0_multiply_36 rfl (lv_at hl 1 rfl) ?_
      obtain ⟨v24, hv, h⟩ := zl_some h
      refine xgR (pc := 37) (j := 3) zc0 hx hb hts hown hK hP hv rfl zf_X0_24 dX0_multiply_37 ?_
      refine lv_iload (pc := 40) hx hb dX0_multiply_40 (lv_at hl 0 rfl) ?_
      refine lv_dup2_11 (pc := 42) hx hb dX0_multiply_42 rfl rfl ?_
      obtain ⟨v25, hv, h⟩ := zl_some h
      refine xaI (pc := 43) hx hb hK hP hv dX0_multiply_43 ?_
      refine lv_aload_n (pc := 44) hx hb dX0_multiply_44 rfl (lv_at hl 1 rfl) ?_
      obtain ⟨v26, hv, h⟩ := zl_some h
      refine xgR (pc := 45) (j := 4) zc0 hx hb hts hown hK hP hv rfl zf_X0_28 dX0_multiply_45 ?_
      refine lv_iload (pc := 48) hx hb dX0_multiply_48 (lv_at hl 0 rfl) ?_
      obtain ⟨v27, hv, h⟩ := zl_some h
      refine xaI (pc := 50) hx hb hK hP hv dX0_multiply_50 ?_
      refine lv_imul (pc := 51) hx hb dX0_multiply_51 ?_
      obtain ⟨σ28, hv, h⟩ := zl_some h
      refine xsI (pc := 52) hx hb hK hP hS hv dX0_multiply_52 (fun H locs hP hS => ?_)
      refine lv_iinc (pc := 53) (v := x5_9 + 1) (lv' := [(5, .int (x5_9 + 1)), (0, .ref (o + x0)), (1, .ref (o + x1)), (4, .int v7)]) hx hb dX0_multiply_53 hl (k := 0) rfl rfl (by decide) rfl (fun ls hl => ?_)
      refine lv_goto (pc := 56) (tgt := 29) hx hb dX0_multiply_56 (by decide) ?_
      exact ih9 (x5_9 + 1, σ28) h _ _ ls hP hS (lv_sub hl [0, 1, 2, 3] rfl)
  exact L29_9 N (0, σ8) h _ _ ls hP hS (lv_sub hl [0, 2, 3, 1] rfl)

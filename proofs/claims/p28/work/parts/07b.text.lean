/-! the texts' own methods -/
def f_J0_coder_7d493 (N : Nat) (i : Nat) (σ : zS) : Option (Int32 × zS) := if i < zSn then some (0, σ) else none
def f_J0_isLatin1_aae02 (N : Nat) (i : Nat) (σ : zS) : Option (Int32 × zS) := if i < zSn then some (1, σ) else none
def f_J0_length_8abf5 (N : Nat) (i : Nat) (σ : zS) : Option (Int32 × zS) := if i < zSn then some (nI (zlen.getD i 0), σ) else none
def zch (i : Nat) (k : Int32) : Int32 := ((((zbyt.getD i []).getD k.toNatClampNeg 0) &&& 255).toUInt32 % 65536).toInt32
def f_J0_charAt_5068e (N : Nat) (i : Nat) (k : Int32) (σ : zS) : Option (Int32 × zS) := if i < zSn ∧ 0 ≤ k.toInt ∧ k.toInt < (zlen.getD i 0 : Int) then some (zch i k, σ) else none
theorem xtextL {N i : Nat} {σ : zS} {ρ : Int32 × zS} (h : f_J0_length_8abf5 N i σ = some ρ) : i < zSn := (zguard h).1
theorem xtextC {N i : Nat} {k : Int32} {σ : zS} {ρ : Int32 × zS} (h : f_J0_charAt_5068e N i k σ = some ρ) : i < zSn := (zguard h).1.1
theorem zch_nar : ∀ i, i < zSn → ∀ k, k < zlen.getD i 0 → narrow .char (.int (zch i (nI k))) = .int (zch i (nI k)) := by decide +kernel
theorem zlen_sh : ∀ i, i < zSn → (Int32.ofNat (zlen.getD i 0) >>> ((0 : Int32) &&& 31) = nI (zlen.getD i 0) ∧ zlen.getD i 0 < 2 ^ 31) := by decide +kernel
section XTEXT
variable (l : Launch) (D : va_G) (c : zC) (o : Nat) (g : zEp) (N : Nat)
set_option maxHeartbeats 4000000 in
set_option maxRecDepth 100000 in
theorem c_J0_coder_7d493 {x0 : Nat} {σ : zS} {ρ : Int32 × zS} (h : f_J0_coder_7d493 N x0 σ = some ρ) : Met l yJ0_coder_7d493 zs_J0_coder_7d493 (zr 2) (va_Pc [.ref (g.2.1 x0)] (zG D c o g σ)) (zQi D c o g ρ) 0 0 (zA o) := by
  obtain ⟨hi, e0⟩ := zguard h
  refine zMetG (by decide) (Nat.le_of_ble_eq_true rfl) ?_
  intro p e s m below meth cd ⟨hx, hb, hr, hml, hown, hts, hlocks⟩ hP hK hE ls hl
  have hS : va_S (zA o) s.heap s.heap [] := va_S.rf
  have hl : lv_has ls 1 [(0, .ref (g.2.1 x0))] := hl
  refine va_gets (pc := 0) hx hb hE.2.2.1 hS hown (hts _ zf_J0_38) (fun _ h => h) dJ0_coder_7d493_0 ?_
  refine lv_if_eq (pc := 3) (tgt := 13) hx hb dJ0_coder_7d493_3 (by decide) (fun c1 => absurd c1 (by decide)) (fun _ => ?_)
  refine lv_aload_n (pc := 6) hx hb dJ0_coder_7d493_6 rfl (lv_at hl 0 rfl) ?_
  refine vk_getf (pc := 7) hx hb (hE.2.2.2.2.1 x0 hi).2.1 hS hown (hts _ zf_J0_15) (fun _ h => h) dJ0_coder_7d493_7 ?_
  refine lv_goto (pc := 10) (tgt := 14) hx hb dJ0_coder_7d493_10 (by decide) ?_
  exact xretn (pc := 14) hx hb hr rfl hlocks hP hK hE hS e0 dJ0_coder_7d493_14
set_option maxHeartbeats 4000000 in
set_option maxRecDepth 100000 in
theorem c_J0_isLatin1_aae02 {x0 : Nat} {σ : zS} {ρ : Int32 × zS} (h : f_J0_isLatin1_aae02 N x0 σ = some ρ) : Met l yJ0_isLatin1_aae02 zs_J0_isLatin1_aae02 (zr 2) (va_Pc [.ref (g.2.1 x0)] (zG D c o g σ)) (zQi D c o g ρ) 0 0 (zA o) := by
  obtain ⟨hi, e0⟩ := zguard h
  refine zMetG (by decide) (Nat.le_of_ble_eq_true rfl) ?_
  intro p e s m below meth cd ⟨hx, hb, hr, hml, hown, hts, hlocks⟩ hP hK hE ls hl
  have hS : va_S (zA o) s.heap s.heap [] := va_S.rf
  have hl : lv_has ls 1 [(0, .ref (g.2.1 x0))] := hl
  refine va_gets (pc := 0) hx hb hE.2.2.1 hS hown (hts _ zf_J0_38) (fun _ h => h) dJ0_isLatin1_aae02_0 ?_
  refine lv_if_eq (pc := 3) (tgt := 17) hx hb dJ0_isLatin1_aae02_3 (by decide) (fun c1 => absurd c1 (by decide)) (fun _ => ?_)
  refine lv_aload_n (pc := 6) hx hb dJ0_isLatin1_aae02_6 rfl (lv_at hl 0 rfl) ?_
  refine vk_getf (pc := 7) hx hb (hE.2.2.2.2.1 x0 hi).2.1 hS hown (hts _ zf_J0_15) (fun _ h => h) dJ0_isLatin1_aae02_7 ?_
  refine lv_if_ne (pc := 10) (tgt := 17) hx hb dJ0_isLatin1_aae02_10 (by decide) (fun c1 => absurd rfl c1) (fun _ => ?_)
  refine lv_iconst (pc := 13) (v := 1) hx hb dJ0_isLatin1_aae02_13 (by decide) ?_
  refine lv_goto (pc := 14) (tgt := 18) hx hb dJ0_isLatin1_aae02_14 (by decide) ?_
  exact xretn (pc := 18) hx hb hr rfl hlocks hP hK hE hS e0 dJ0_isLatin1_aae02_18
set_option maxHeartbeats 4000000 in
set_option maxRecDepth 100000 in
theorem c_J0_length_8abf5 {x0 : Nat} {σ : zS} {ρ : Int32 × zS} (h : f_J0_length_8abf5 N x0 σ = some ρ) : Met l yJ0_length_8abf5 zs_J0_length_8abf5 (zr 12) (va_Pc [.ref (g.2.1 x0)] (zG D c o g σ)) (zQi D c o g ρ) 0 0 (zA o) := by
  obtain ⟨hi, e0⟩ := zguard h
  refine zMetG (by decide) (Nat.le_of_ble_eq_true rfl) ?_
  intro p e s m below meth cd ⟨hx, hb, hr, hml, hown, hts, hlocks⟩ hP hK hE ls hl
  have hS : va_S (zA o) s.heap s.heap [] := va_S.rf
  have hl : lv_has ls 1 [(0, .ref (g.2.1 x0))] := hl
  refine lv_aload_n (pc := 0) hx hb dJ0_length_8abf5_0 rfl (lv_at hl 0 rfl) ?_
  refine vk_getf (pc := 1) hx hb (hE.2.2.2.2.1 x0 hi).2.2.1 hS hown (hts _ zf_J0_9) (fun _ h => h) dJ0_length_8abf5_1 ?_
  refine va_tlen (pc := 4) hx hb (hE.2.2.2.2.1 x0 hi).2.2.2 hS rfl dJ0_length_8abf5_4 ?_
  refine lv_aload_n (pc := 5) hx hb dJ0_length_8abf5_5 rfl (lv_at hl 0 rfl) ?_
  refine xcallTi (pc := 6) (As := []) (rest := [.int (Int32.ofNat (zlen.getD x0 0))]) ⟨hx, hb, hml, hown, hts⟩ (c_J0_coder_7d493 l D c o g N (if_pos hi)) hi zV_J0_335 rfl zd_J0_coder_7d493 ⟨Nat.le_of_ble_eq_true rfl, Nat.le_of_ble_eq_true rfl⟩ hK hP hE hS hl.1 rfl (Nat.le_of_ble_eq_true rfl) ⟨Nat.zero_le _, Nat.zero_le _⟩ dJ0_length_8abf5_6 (fun H locs hP hS => ?_)
  refine lv_ishr (pc := 9) hx hb dJ0_length_8abf5_9 ?_
  rw [(zlen_sh x0 hi).1]
  exact xretn (pc := 10) hx hb hr rfl hlocks hP hK hE hS e0 dJ0_length_8abf5_10
set_option maxHeartbeats 4000000 in
set_option maxRecDepth 100000 in
theorem c_J3_checkIndex_8e157 {x0 x1 : Int32} {x2 : Value} {σ : zS} (hx2 : x2 = .null ∨ ∃ q, x2 = .ref q) (h0 : 0 ≤ x0.toInt) (h1 : x0.toInt < x1.toInt) : Met l yJ3_checkIndex_8e157 zs_J3_checkIndex_8e157 (zr 2) (va_Pc [.int x0, .int x1, x2] (zG D c o g σ)) (zQi D c o g (x0, σ)) 0 0 (zA o) := by
  refine zMetG (by decide) (by rcases hx2 with rfl | ⟨q, rfl⟩ <;> exact Nat.le_of_ble_eq_true rfl) ?_
  intro p e s m below meth cd ⟨hx, hb, hr, hml, hown, hts, hlocks⟩ hP hK hE ls hl
  have hS : va_S (zA o) s.heap s.heap [] := va_S.rf
  have hl : lv_has ls 3 [(0, .int x0), (1, .int x1), (2, x2)] := hl
  refine lv_iload_n (pc := 0) hx hb dJ3_checkIndex_8e157_0 rfl (lv_at hl 0 rfl) ?_
  refine lv_if_lt (pc := 1) (tgt := 9) hx hb dJ3_checkIndex_8e157_1 (by decide) (fun c1 => absurd c1 (xnn h0)) (fun _ => ?_)
  refine lv_iload_n (pc := 4) hx hb dJ3_checkIndex_8e157_4 rfl (lv_at hl 0 rfl) ?_
  refine lv_iload_n (pc := 5) hx hb dJ3_checkIndex_8e157_5 rfl (lv_at hl 1 rfl) ?_
  refine lv_icmp_lt (pc := 6) (tgt := 16) hx hb dJ3_checkIndex_8e157_6 (by decide) (fun _ => ?_) (fun c1 => absurd (Int32.lt_iff_toInt_lt.mpr h1) c1)
  refine lv_iload_n (pc := 16) hx hb dJ3_checkIndex_8e157_16 rfl (lv_at hl 0 rfl) ?_
  exact xreti (pc := 17) hx hb hr hlocks hP hK hE hS rfl dJ3_checkIndex_8e157_17
set_option maxHeartbeats 4000000 in
set_option maxRecDepth 100000 in
theorem c_J0_checkIndex_df160 {x0 x1 : Int32} {σ : zS} (h0 : 0 ≤ x0.toInt) (h1 : x0.toInt < x1.toInt) : Met l yJ0_checkIndex_df160 zs_J0_checkIndex_df160 (zr 4) (va_Pc [.int x0, .int x1] (zG D c o g σ)) (zQu D c o g ((), σ)) 0 0 (zA o) := by
  refine zMetG (by decide) (Nat.le_of_ble_eq_true rfl) ?_
  intro p e s m below meth cd ⟨hx, hb, hr, hml, hown, hts, hlocks⟩ hP hK hE ls hl
  have hS : va_S (zA o) s.heap s.heap [] := va_S.rf
  have hl : lv_has ls 2 [(0, .int x0), (1, .int x1)] := hl
  refine lv_iload_n (pc := 0) hx hb dJ0_checkIndex_df160_0 rfl (lv_at hl 0 rfl) ?_
  refine lv_iload_n (pc := 1) hx hb dJ0_checkIndex_df160_1 rfl (lv_at hl 1 rfl) ?_
  have go : ∀ x2 : Value, (x2 = .null ∨ ∃ q, x2 = .ref q) → va_Z "jdk/internal/util/Preconditions" "SIOOBE_FORMATTER" "Ljava/util/function/BiFunction;" x2 (zA o) s s.heap → W p l e (zr 4) s m (([.int x0, .int x1] : List Value).toArray) below meth cd s.heap [] 0 0 (MQ below (zQu D c o g ((), σ)) (([.int x0, .int x1] : List Value).toArray) s 0 0 (zA o)) (F0 m 2 ls [.int x1, .int x0]) := by
    intro x2 hq hZ
    refine va_gets (pc := 2) hx hb hZ hS hown (hts _ zf_J0_1053) (fun _ h => h) dJ0_checkIndex_df160_2 ?_
    refine xcallSi (pc := 5) (As := [.int x0, .int x1, x2]) (rest := []) ⟨hx, hb, hml, hown, hts⟩ (c_J3_checkIndex_8e157 l D c o g hq h0 h1) zT_J0_1059 rfl zd_J3_checkIndex_8e157 ⟨Nat.le_of_ble_eq_true rfl, Nat.le_of_ble_eq_true rfl⟩ hK hP hE hS hl.1 rfl (Nat.le_of_ble_eq_true rfl) ⟨Nat.zero_le _, Nat.zero_le _⟩ dJ0_checkIndex_df160_5 (fun H locs hP hS => ?_)
    refine lv_pop (pc := 8) hx hb dJ0_checkIndex_df160_8 rfl ?_
    exact xretv (pc := 9) hx hb hr hlocks hP hK hE hS rfl dJ0_checkIndex_df160_9
  rcases hE.2.2.2.1 with hZ | ⟨q, hZ⟩
  · exact go _ (Or.inl rfl) hZ
  · exact go _ (Or.inr ⟨q, rfl⟩) hZ
set_option maxHeartbeats 4000000 in
set_option maxRecDepth 100000 in
theorem c_J1_charAt_3b067 {i : Nat} {k : Nat} {σ : zS} (hi : i < zSn) (hk : k < zlen.getD i 0) : Met l yJ1_charAt_3b067 zs_J1_charAt_3b067 (zr 6) (va_Pc [.ref (g.2.2 i), .int (nI k)] (zG D c o g σ)) (zQi D c o g (zch i (nI k), σ)) 0 0 (zA o) := by
  have hL := (zlen_sh i hi).2
  have e1 : (nI k).toInt = (k : Int) := nI_toInt (by omega)
  have e2 : (Int32.ofNat (zlen.getD i 0)).toInt = ((zlen.getD i 0 : Nat) : Int) := nI_toInt hL
  refine zMetG (by decide) (Nat.le_of_ble_eq_true rfl) ?_
  intro p e s m below meth cd ⟨hx, hb, hr, hml, hown, hts, hlocks⟩ hP hK hE ls hl
  have hS : va_S (zA o) s.heap s.heap [] := va_S.rf
  have hl : lv_has ls 2 [(0, .ref (g.2.2 i)), (1, .int (nI k))] := hl
  refine lv_iload_n (pc := 0) hx hb dJ1_charAt_3b067_0 rfl (lv_at hl 1 rfl) ?_
  refine lv_aload_n (pc := 1) hx hb dJ1_charAt_3b067_1 rfl (lv_at hl 0 rfl) ?_
  refine va_tlen (pc := 2) hx hb (hE.2.2.2.2.1 i hi).2.2.2 hS rfl dJ1_charAt_3b067_2 ?_
  refine xcallSv (pc := 3) (As := [.int (nI k), .int (Int32.ofNat (zlen.getD i 0))]) (rest := []) ⟨hx, hb, hml, hown, hts⟩ (c_J0_checkIndex_df160 l D c o g (by omega) (by rw [e1, e2]; omega)) zT_J1_9 rfl zd_J0_checkIndex_df160 ⟨Nat.le_of_ble_eq_true rfl, Nat.le_of_ble_eq_true rfl⟩ hK hP hE hS hl.1 rfl (Nat.le_of_ble_eq_true rfl) ⟨Nat.zero_le _, Nat.zero_le _⟩ dJ1_charAt_3b067_3 (fun H locs hP hS => ?_)
  refine lv_aload_n (pc := 6) hx hb dJ1_charAt_3b067_6 rfl (lv_at hl 0 rfl) ?_
  refine lv_iload_n (pc := 7) hx hb dJ1_charAt_3b067_7 rfl (lv_at hl 1 rfl) ?_
  refine va_tb (pc := 8) hx hb (hE.2.2.2.2.1 i hi).2.2.2 hS (vp_in_nI hk hL) rfl dJ1_charAt_3b067_8 ?_
  refine lv_sipush (pc := 9) (v := 255) hx hb dJ1_charAt_3b067_9 (by decide) ?_
  refine lv_iand (pc := 12) hx hb dJ1_charAt_3b067_12 ?_
  refine lv_i2c (pc := 13) (v := zch i (nI k)) hx hb dJ1_charAt_3b067_13 rfl ?_
  exact xretn (pc := 14) hx hb hr (zch_nar i hi k hk) hlocks hP hK hE hS rfl dJ1_charAt_3b067_14
set_option maxHeartbeats 4000000 in
set_option maxRecDepth 100000 in
theorem c_J0_charAt_5068e {x0 : Nat} {x1 : Int32} {σ : zS} {ρ : Int32 × zS} (h : f_J0_charAt_5068e N x0 x1 σ = some ρ) : Met l yJ0_charAt_5068e zs_J0_charAt_5068e (zr 12) (va_Pc [.ref (g.2.1 x0), .int x1] (zG D c o g σ)) (zQi D c o g ρ) 0 0 (zA o) := by
  obtain ⟨⟨hi, hk0, hk1⟩, e0⟩ := zguard h
  obtain ⟨k, hk, rfl⟩ : ∃ k : Nat, k < zlen.getD x0 0 ∧ x1 = nI k := by
    have hL := (zlen_sh x0 hi).2
    refine ⟨x1.toInt.toNat, by omega, Int32.toInt_inj.mp ?_⟩
    rw [nI_toInt (by omega)]
    omega
  refine zMetG (by decide) (Nat.le_of_ble_eq_true rfl) ?_
  intro p e s m below meth cd ⟨hx, hb, hr, hml, hown, hts, hlocks⟩ hP hK hE ls hl
  have hS : va_S (zA o) s.heap s.heap [] := va_S.rf
  have hl : lv_has ls 2 [(0, .ref (g.2.1 x0)), (1, .int (nI k))] := hl
  refine lv_aload_n (pc := 0) hx hb dJ0_charAt_5068e_0 rfl (lv_at hl 0 rfl) ?_
  refine xcallTi (pc := 1) (As := []) (rest := []) ⟨hx, hb, hml, hown, hts⟩ (c_J0_isLatin1_aae02 l D c o g N (if_pos hi)) hi zV_J0_492 rfl zd_J0_isLatin1_aae02 ⟨Nat.le_of_ble_eq_true rfl, Nat.le_of_ble_eq_true rfl⟩ hK hP hE hS hl.1 rfl (Nat.le_of_ble_eq_true rfl) ⟨Nat.zero_le _, Nat.zero_le _⟩ dJ0_charAt_5068e_1 (fun H locs hP hS => ?_)
  refine lv_if_eq (pc := 4) (tgt := 16) hx hb dJ0_charAt_5068e_4 (by decide) (fun c1 => absurd c1 (by decide)) (fun _ => ?_)
  refine lv_aload_n (pc := 7) hx hb dJ0_charAt_5068e_7 rfl (lv_at hl 0 rfl) ?_
  refine vk_getf (pc := 8) hx hb (hE.2.2.2.2.1 x0 hi).2.2.1 hS hown (hts _ zf_J0_9) (fun _ h => h) dJ0_charAt_5068e_8 ?_
  refine lv_iload_n (pc := 11) hx hb dJ0_charAt_5068e_11 rfl (lv_at hl 1 rfl) ?_
  refine xcallSi (pc := 12) (As := [.ref (g.2.2 x0), .int (nI k)]) (rest := []) ⟨hx, hb, hml, hown, hts⟩ (c_J1_charAt_3b067 l D c o g hi hk) zT_J0_495 rfl zd_J1_charAt_3b067 ⟨Nat.le_of_ble_eq_true rfl, Nat.le_of_ble_eq_true rfl⟩ hK hP hE hS hl.1 rfl (Nat.le_of_ble_eq_true rfl) ⟨Nat.zero_le _, Nat.zero_le _⟩ dJ0_charAt_5068e_12 (fun H locs hP hS => ?_)
  exact xretn (pc := 15) hx hb hr (zch_nar x0 hi k hk) hlocks hP hK hE hS e0 dJ0_charAt_5068e_15
end XTEXT

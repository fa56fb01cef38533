theorem s_J6_bitCount_0f7a4 {N : Nat} (hN : 1048576 ≤ N) {x0 : Int32} {σ0 : zS} (hR : RF σ0.2.2) : Ok (f_J6_bitCount_0f7a4 N x0 σ0) (fun r => Tr [] σ0 r.2 ∧ True) := ok_some ⟨Tr.rf, trivial⟩

theorem s_J13_bitCount_95d88 {N : Nat} (hN : 1048576 ≤ N) {x0 : Int64} {σ0 : zS} (hR : RF σ0.2.2) : Ok (f_J13_bitCount_95d88 N x0 σ0) (fun r => Tr [] σ0 r.2 ∧ True) := ok_some ⟨Tr.rf, trivial⟩

set_option maxHeartbeats 4000000 in
set_option maxRecDepth 100000 in
theorem s_J7_fill_d0a16 {N : Nat} (hN : 1048576 ≤ N) {x0 : Nat} {x1 : Int64} {σ0 : zS} {n : Nat} (hR : RF σ0.2.2) (hk : zKd x0 = (15, n)) (hn : n < 10000) : Ok (f_J7_fill_d0a16 N x0 x1 σ0) (fun r => Tr [] σ0 r.2 ∧ (True)) := by
  have hT : Tr [] σ0 σ0 := Tr.rf
  have hnn := ti_ofNat (n := n) (by omega)
  rw [f_J7_fill_d0a16.eq_1]
  refine ok_aL (n := n) hk ?_
  refine ok_lp (fun t : Int32 × zS => Tr [] σ0 (t.2) ∧ (0 ≤ (t.1).toInt)) (fun t : Int32 × zS => ((n : Int) - (t.1).toInt).toNat) (fun again2 t hI ih6_2 => ?_) N _ (show Tr [] σ0 σ0 ∧ (0 ≤ (0 : Int32).toInt) from ⟨hT, (by first | omega | decide | (simp only [Int32.le_iff_toInt_le, Int32.lt_iff_toInt_lt, ti_add, ti_sub, ti_mul, Int32.reduceToInt] at *; omega))⟩) (show ((n : Int) - (0 : Int32).toInt).toNat < N from (by first | omega | decide | (simp only [Int32.le_iff_toInt_le, Int32.lt_iff_toInt_lt, ti_add, ti_sub, ti_mul, Int32.reduceToInt] at *; omega)))
  obtain ⟨x3_2, σ2⟩ := t
  have hI : Tr [] σ0 σ2 ∧ (0 ≤ x3_2.toInt) := hI
  obtain ⟨hT, hI2⟩ := hI
  rw [F_J7_fill_d0a16_6.eq_1]
  refine ok_if (fun hc3 => ?_) (fun hc3 => ?_)
  · exact ok_some ⟨hT, trivial⟩
  · refine ok_sJ hT hk (by first | omega | decide | (simp only [Int32.le_iff_toInt_le, Int32.lt_iff_toInt_lt, ti_add, ti_sub, ti_mul, Int32.reduceToInt] at *; omega)) (by first | omega | decide | (simp only [Int32.le_iff_toInt_le, Int32.lt_iff_toInt_lt, ti_add, ti_sub, ti_mul, Int32.reduceToInt] at *; omega)) (fun σ4 eσ4 hOσ4 hT => ?_)
    exact ih6_2 (x3_2 + 1, σ4) (show Tr [] σ0 σ4 ∧ (0 ≤ (x3_2 + 1).toInt) from ⟨hT, (by first | omega | decide | (simp only [Int32.le_iff_toInt_le, Int32.lt_iff_toInt_lt, ti_add, ti_sub, ti_mul, Int32.reduceToInt] at *; omega))⟩) (show ((n : Int) - (x3_2 + 1).toInt).toNat < ((n : Int) - x3_2.toInt).toNat from (by first | omega | decide | (simp only [Int32.le_iff_toInt_le, Int32.lt_iff_toInt_lt, ti_add, ti_sub, ti_mul, Int32.reduceToInt] at *; omega)))

theorem ti_su : ∀ n, n < 32 → (((Int32.ofNat n).toUInt32 &&& Int32.toUInt32 31).toBitVec % 32).toNat = n := by decide +kernel
theorem zus_bv (x : Int32) {n : Nat} (hn : n < 32) : (zus x (Int32.ofNat n)).toBitVec = x.toBitVec >>> n := by
  show (x.toUInt32 >>> ((Int32.ofNat n).toUInt32 &&& Int32.toUInt32 31)).toBitVec = _
  rw [UInt32.toBitVec_shiftRight]
  show x.toUInt32.toBitVec >>> (((Int32.ofNat n).toUInt32 &&& Int32.toUInt32 31).toBitVec % 32).toNat = _
  rw [ti_su n hn]
  rfl
theorem ti_cond (x : Int32) : x.toInt = if x.toBitVec.toNat < 2147483648 then (x.toBitVec.toNat : Int) else (x.toBitVec.toNat : Int) - 4294967296 := by
  show x.toBitVec.toInt = _
  rw [BitVec.toInt_eq_toNat_cond]
  have := x.toBitVec.isLt
  split <;> split <;> omega
theorem ti_zus (x : Int32) (n : Nat) (k : Int32) (m : Int) (hn : n < 32) (hk : Int32.ofNat n = k) (hm : ((2 ^ n : Nat) : Int) = m) (h : 0 ≤ x.toInt) : (zus x k).toInt = x.toInt / m := by
  subst hk hm
  have hx := ti_cond x
  have hl := x.toBitVec.isLt
  have e : (zus x (Int32.ofNat n)).toBitVec.toNat = x.toBitVec.toNat / 2 ^ n := by rw [zus_bv x hn, BitVec.toNat_ushiftRight, Nat.shiftRight_eq_div_pow]
  have h1 : x.toBitVec.toNat < 2147483648 := by
    split at hx
    · assumption
    · omega
  rw [if_pos h1] at hx
  have h2 : x.toBitVec.toNat / 2 ^ n ≤ x.toBitVec.toNat := Nat.div_le_self _ _
  rw [ti_toNat (by rw [e]; omega), e, hx]
  exact Int.natCast_ediv _ _
def n62 (y n : Int32) : Int32 := if y ≤ 4 then n + zus y 1 else (n + 2) + zus (zus y 2) 1
def n49 (y n : Int32) : Int32 := if y ≤ 16 then n62 y n else n62 (zus y 4) (n + 4)
def n34 (y n : Int32) : Int32 := if y ≤ 256 then n49 y n else n49 (zus y 8) (n + 8)
def ntz32 (x : Int32) : Int32 := if 0 < ((x ^^^ (-1)) &&& (x - 1)) then (if ((x ^^^ (-1)) &&& (x - 1)) ≤ 65536 then n34 ((x ^^^ (-1)) &&& (x - 1)) 1 else n34 (zus ((x ^^^ (-1)) &&& (x - 1)) 16) (1 + 16)) else ((x ^^^ (-1)) &&& (x - 1)) &&& 32
def ntz64 (x : Int64) : Int32 := if Int64.toInt32 x = 0 then 32 + ntz32 (Int64.toInt32 (zul x 32)) else ntz32 (Int64.toInt32 x)
theorem f_ntz32 (N : Nat) (x : Int32) (σ : zS) : f_J6_numberOfTrailingZeros_0f7a4 N x σ = some (ntz32 x, σ) := by
  have h62 : ∀ y n, J_J6_numberOfTrailingZeros_0f7a4_62 N y n σ = some (n62 y n, σ) := fun y n => by rw [J_J6_numberOfTrailingZeros_0f7a4_62.eq_1, n62]; split <;> rfl
  have h49 : ∀ y n, J_J6_numberOfTrailingZeros_0f7a4_49 N y n σ = some (n49 y n, σ) := fun y n => by rw [J_J6_numberOfTrailingZeros_0f7a4_49.eq_1, n49]; split <;> rw [h62]
  have h34 : ∀ y n, J_J6_numberOfTrailingZeros_0f7a4_34 N y n σ = some (n34 y n, σ) := fun y n => by rw [J_J6_numberOfTrailingZeros_0f7a4_34.eq_1, n34]; split <;> rw [h49]
  rw [f_J6_numberOfTrailingZeros_0f7a4.eq_1, ntz32]
  split
  · split <;> rw [h34]
  · rfl
theorem f_ntz64 (N : Nat) (x : Int64) (σ : zS) : f_J13_numberOfTrailingZeros_95d88 N x σ = some (ntz64 x, σ) := by
  rw [f_J13_numberOfTrailingZeros_95d88.eq_1, ntz64]
  split
  · rw [f_ntz32]; rfl
  · rw [f_ntz32]; rfl
theorem n62_ti {y n : Int32} (hy : 0 < y.toInt) (hn : 0 ≤ n.toInt) (hn2 : n.toInt ≤ 29) : (n62 y n).toInt = if y.toInt ≤ 4 then n.toInt + y.toInt / 2 else n.toInt + 2 + y.toInt / 4 / 2 := by
  have h1 := ti_zus y 1 1 2 (by decide) rfl rfl (by omega)
  have h2 := ti_zus y 2 2 4 (by decide) rfl rfl (by omega)
  have h3 := ti_zus (zus y 2) 1 1 2 (by decide) rfl rfl (by rw [h2]; omega)
  have hh := ti_hi y
  unfold n62
  simp only [Int32.le_iff_toInt_le, Int32.reduceToInt]
  split
  · rw [ti_add, h1]; omega
  · rw [ti_add, ti_add, h3, h2]; simp only [Int32.reduceToInt]; omega
theorem n34_ti {y n : Int32} (hy : 0 < y.toInt) (hn : 0 ≤ n.toInt) (hn2 : n.toInt ≤ 17) (hb : (n.toInt = 1 ∧ y.toInt ≤ 65536) ∨ (n.toInt = 17 ∧ y.toInt ≤ 32767)) : 0 ≤ (n34 y n).toInt ∧ (n34 y n).toInt ≤ 31 := by
  have h49 : ∀ y n : Int32, 0 < y.toInt → 0 ≤ n.toInt → n.toInt ≤ 25 → (n49 y n).toInt = if y.toInt ≤ 16 then (if y.toInt ≤ 4 then n.toInt + y.toInt / 2 else n.toInt + 2 + y.toInt / 4 / 2) else (if y.toInt / 16 ≤ 4 then n.toInt + 4 + y.toInt / 16 / 2 else n.toInt + 4 + 2 + y.toInt / 16 / 4 / 2) := by
    intro y n h1 h2 h3
    have h4 := ti_zus y 4 4 16 (by decide) rfl rfl (by omega)
    unfold n49
    simp only [Int32.le_iff_toInt_le, Int32.reduceToInt]
    split
    · rw [n62_ti h1 h2 (by omega)]
    · have e : (n + 4).toInt = n.toInt + 4 := by rw [ti_add]; simp only [Int32.reduceToInt]; omega
      rw [n62_ti (by rw [h4]; omega) (by rw [e]; omega) (by rw [e]; omega), h4, e]
  have h8 := ti_zus y 8 8 256 (by decide) rfl rfl (by omega)
  unfold n34
  simp only [Int32.le_iff_toInt_le, Int32.reduceToInt]
  split
  · rw [h49 y n hy hn (by omega)]
    split <;> split <;> omega
  · have e : (n + 8).toInt = n.toInt + 8 := by rw [ti_add]; simp only [Int32.reduceToInt]; omega
    rw [h49 _ _ (by rw [h8]; omega) (by rw [e]; omega) (by rw [e]; omega), h8, e]
    split <;> split <;> omega
theorem low_nn {x : Int32} (h : ¬ x = 0) : 0 ≤ ((x ^^^ (-1)) &&& (x - 1)).toInt := by
  have hx := ti_cond x
  have hl := x.toBitVec.isLt
  have hx0 : ¬ x.toInt = 0 := fun q => h (Int32.toInt_inj.mp q)
  have key : ((x ^^^ (-1)) &&& (x - 1)).toBitVec.toNat < 2147483648 := by
    rw [Int32.toBitVec_and, BitVec.toNat_and]
    by_cases hp : 0 < x.toInt
    · have e : (x - 1).toInt = x.toInt - 1 := by rw [ti_sub]; simp only [Int32.reduceToInt]; have := ti_hi x; omega
      have c := ti_cond (x - 1)
      refine Nat.lt_of_le_of_lt Nat.and_le_right ?_
      split at c
      · assumption
      · have := (x - 1).toBitVec.isLt; omega
    · refine Nat.lt_of_le_of_lt Nat.and_le_left ?_
      have e : (x ^^^ (-1)).toBitVec = ~~~ x.toBitVec := by
        rw [Int32.toBitVec_xor]
        show x.toBitVec ^^^ BitVec.allOnes 32 = _
        rw [BitVec.xor_allOnes]
      rw [e, BitVec.toNat_not]
      split at hx <;> omega
  rw [ti_toNat key]
  omega
theorem ntz32_b (x : Int32) : 0 ≤ (ntz32 x).toInt ∧ (ntz32 x).toInt ≤ 32 ∧ (¬ x = 0 → (ntz32 x).toInt ≤ 31) := by
  have hh := ti_hi ((x ^^^ (-1)) &&& (x - 1))
  have hnn := low_nn (x := x)
  unfold ntz32
  generalize (x ^^^ (-1)) &&& (x - 1) = y at *
  simp only [Int32.le_iff_toInt_le, Int32.lt_iff_toInt_lt, Int32.reduceToInt]
  split
  · rename_i hp
    have h16 := ti_zus y 16 16 65536 (by decide) rfl rfl (by omega)
    split
    · have := n34_ti (y := y) (n := 1) hp (by decide) (by decide) (Or.inl ⟨by decide, by assumption⟩)
      omega
    · have := n34_ti (y := zus y 16) (n := 1 + 16) (by rw [h16]; omega) (by decide) (by decide) (Or.inr ⟨by decide, by rw [h16]; omega⟩)
      omega
  · have := ti_and0 y (m := 32) (by decide)
    rw [show Int32.ofNat 32 = 32 from rfl] at this
    refine ⟨this.1, by omega, fun h0 => ?_⟩
    have e : y = 0 := Int32.toInt_inj.mp (by simp only [Int32.reduceToInt]; have := hnn h0; omega)
    rw [e]
    decide
theorem two_halves {x : Int64} (h1 : Int64.toInt32 x = 0) (h2 : Int64.toInt32 (zul x 32) = 0) : x = 0 := by
  have e0 : ∀ y : Int64, (Int64.toInt32 y).toBitVec.toNat = y.toBitVec.toNat % 4294967296 := by
    intro y
    rw [Int64.toBitVec_toInt32, BitVec.signExtend_eq_setWidth_of_le _ (by decide), BitVec.toNat_setWidth]
  have e1 : (zul x 32).toBitVec = x.toBitVec >>> 32 := by
    show (x.toUInt64 >>> ((32 : Int32).toInt64.toUInt64 &&& Int64.toUInt64 63)).toBitVec = _
    rw [UInt64.toBitVec_shiftRight]
    show x.toUInt64.toBitVec >>> (((32 : Int32).toInt64.toUInt64 &&& Int64.toUInt64 63).toBitVec % 64).toNat = _
    rw [show (((32 : Int32).toInt64.toUInt64 &&& Int64.toUInt64 63).toBitVec % 64).toNat = 32 by decide]
    rfl
  have a1 := e0 x
  have a2 := e0 (zul x 32)
  rw [h1] at a1
  rw [h2, e1, BitVec.toNat_ushiftRight, Nat.shiftRight_eq_div_pow] at a2
  have z : (0 : Int32).toBitVec.toNat = 0 := rfl
  rw [z] at a1 a2
  have hl := x.toBitVec.isLt
  apply Int64.toBitVec_inj.1
  apply BitVec.eq_of_toNat_eq
  show x.toBitVec.toNat = 0
  omega
theorem s_J13_numberOfTrailingZeros_95d88 {N : Nat} (hN : 1048576 ≤ N) {x0 : Int64} {σ0 : zS} (hR : RF σ0.2.2) : Ok (f_J13_numberOfTrailingZeros_95d88 N x0 σ0) (fun r => Tr [] σ0 r.2 ∧ (0 ≤ r.1.toInt ∧ r.1.toInt ≤ 64 ∧ (¬ x0 = 0 → r.1.toInt ≤ 63))) := by
  refine ⟨_, f_ntz64 N x0 σ0, Tr.rf, ?_⟩
  show 0 ≤ (ntz64 x0).toInt ∧ (ntz64 x0).toInt ≤ 64 ∧ (¬ x0 = 0 → (ntz64 x0).toInt ≤ 63)
  have a1 := ntz32_b (Int64.toInt32 (zul x0 32))
  have a2 := ntz32_b (Int64.toInt32 x0)
  unfold ntz64
  split
  · rename_i h0
    have e : (32 + ntz32 (Int64.toInt32 (zul x0 32))).toInt = 32 + (ntz32 (Int64.toInt32 (zul x0 32))).toInt := by rw [ti_add]; simp only [Int32.reduceToInt]; omega
    rw [e]
    refine ⟨by omega, by omega, fun hx => ?_⟩
    have := a1.2.2 (fun q => hx (two_halves h0 q))
    omega
  · rename_i h0
    have := a2.2.2 h0
    omega

set_option maxHeartbeats 4000000 in
set_option maxRecDepth 100000 in
theorem s_X2_copyFrom {N : Nat} (hN : 1048576 ≤ N) {x0 : Nat} {x1 : Nat} {σ0 : zS}  (hR : RF σ0.2.2) (h_x0 : (zKd x0).1 = 2) (h_x1 : (zKd x1).1 = 2) : Ok (f_X2_copyFrom N x0 x1 σ0) (fun r => Tr [] σ0 r.2 ∧ (True)) := by
  have hT : Tr [] σ0 σ0 := Tr.rf
  rw [f_X2_copyFrom.eq_1]
  refine ok_gR hT h_x1 (fam_R hR h_x1).1 ?_
  refine ok_gR hT h_x0 (fam_R hR h_x0).1 ?_
  refine ok_cpJ hT (fam_R hR h_x1).2 (fam_R hR h_x0).2 (by first | omega | decide | (simp only [Int32.le_iff_toInt_le, Int32.lt_iff_toInt_lt, ti_add, ti_sub, ti_mul, Int32.reduceToInt] at *; omega)) (by first | omega | decide | (simp only [Int32.le_iff_toInt_le, Int32.lt_iff_toInt_lt, ti_add, ti_sub, ti_mul, Int32.reduceToInt] at *; omega)) (by first | omega | decide | (simp only [Int32.le_iff_toInt_le, Int32.lt_iff_toInt_lt, ti_add, ti_sub, ti_mul, Int32.reduceToInt] at *; omega)) (by first | omega | decide | (simp only [Int32.le_iff_toInt_le, Int32.lt_iff_toInt_lt, ti_add, ti_sub, ti_mul, Int32.reduceToInt] at *; omega)) (by first | omega | decide | (simp only [Int32.le_iff_toInt_le, Int32.lt_iff_toInt_lt, ti_add, ti_sub, ti_mul, Int32.reduceToInt] at *; omega)) (fun σ3 eσ3 hOσ3 hT => ?_)
  exact ok_some ⟨hT, trivial⟩

set_option maxHeartbeats 4000000 in
set_option maxRecDepth 100000 in
theorem s_X2_clear {N : Nat} (hN : 1048576 ≤ N) {x0 : Nat} {σ0 : zS}  (hR : RF σ0.2.2) (h_x0 : (zKd x0).1 = 2) : Ok (f_X2_clear N x0 σ0) (fun r => Tr [] σ0 r.2 ∧ (True)) := by
  have hT : Tr [] σ0 σ0 := Tr.rf
  rw [f_X2_clear.eq_1]
  refine ok_gR hT h_x0 (fam_R hR h_x0).1 ?_
  refine ok_zbT (Q := fun V σ => True) hT (s_J7_fill_d0a16 hN (hR.tr hT) (fam_R hR h_x0).2 (by decide)) (fun _ h9 => absurd h9 List.not_mem_nil) (fun v2 σ3 hOσ3 hT hqv2 => ?_)
  exact ok_some ⟨hT, trivial⟩

set_option maxHeartbeats 4000000 in
set_option maxRecDepth 100000 in
theorem s_X2_join {N : Nat} (hN : 1048576 ≤ N) {x0 : Nat} {x1 : Nat} {σ0 : zS}  (hR : RF σ0.2.2) (h_x0 : (zKd x0).1 = 2) (h_x1 : (zKd x1).1 = 2) : Ok (f_X2_join N x0 x1 σ0) (fun r => Tr [] σ0 r.2 ∧ (True)) := by
  have hT : Tr [] σ0 σ0 := Tr.rf
  rw [f_X2_join.eq_1]
  refine ok_lp (fun t : Int32 × zS => Tr [] σ0 (t.2) ∧ (0 ≤ (t.1).toInt)) (fun t : Int32 × zS => ((16 : Int32).toInt - (t.1).toInt).toNat) (fun again1 t hI ih2_1 => ?_) N _ (show Tr [] σ0 σ0 ∧ (0 ≤ (0 : Int32).toInt) from ⟨hT, (by first | omega | decide | (simp only [Int32.le_iff_toInt_le, Int32.lt_iff_toInt_lt, ti_add, ti_sub, ti_mul, Int32.reduceToInt] at *; omega))⟩) (show ((16 : Int32).toInt - (0 : Int32).toInt).toNat < N from (by first | omega | decide | (simp only [Int32.le_iff_toInt_le, Int32.lt_iff_toInt_lt, ti_add, ti_sub, ti_mul, Int32.reduceToInt] at *; omega)))
  obtain ⟨x2_1, σ1⟩ := t
  have hI : Tr [] σ0 σ1 ∧ (0 ≤ x2_1.toInt) := hI
  obtain ⟨hT, hI1⟩ := hI
  rw [F_X2_join_2.eq_1]
  refine ok_if (fun hc2 => ?_) (fun hc2 => ?_)
  · exact ok_some ⟨hT, trivial⟩
  · refine ok_gR hT h_x0 (fam_R hR h_x0).1 ?_
    refine ok_aJ (fam_R hR h_x0).2 (by first | omega | decide | (simp only [Int32.le_iff_toInt_le, Int32.lt_iff_toInt_lt, ti_add, ti_sub, ti_mul, Int32.reduceToInt] at *; omega)) (by first | omega | decide | (simp only [Int32.le_iff_toInt_le, Int32.lt_iff_toInt_lt, ti_add, ti_sub, ti_mul, Int32.reduceToInt] at *; omega)) ?_
    generalize σ1.2.1 (x0 + 1) (Int32.toNatClampNeg (x2_1)) = v4
    refine ok_gR hT h_x1 (fam_R hR h_x1).1 ?_
    refine ok_aJ (fam_R hR h_x1).2 (by first | omega | decide | (simp only [Int32.le_iff_toInt_le, Int32.lt_iff_toInt_lt, ti_add, ti_sub, ti_mul, Int32.reduceToInt] at *; omega)) (by first | omega | decide | (simp only [Int32.le_iff_toInt_le, Int32.lt_iff_toInt_lt, ti_add, ti_sub, ti_mul, Int32.reduceToInt] at *; omega)) ?_
    generalize σ1.2.1 (x1 + 1) (Int32.toNatClampNeg (x2_1)) = v6
    refine ok_sJ hT (fam_R hR h_x0).2 (by first | omega | decide | (simp only [Int32.le_iff_toInt_le, Int32.lt_iff_toInt_lt, ti_add, ti_sub, ti_mul, Int32.reduceToInt] at *; omega)) (by first | omega | decide | (simp only [Int32.le_iff_toInt_le, Int32.lt_iff_toInt_lt, ti_add, ti_sub, ti_mul, Int32.reduceToInt] at *; omega)) (fun σ7 eσ7 hOσ7 hT => ?_)
    exact ih2_1 (x2_1 + 1, σ7) (show Tr [] σ0 σ7 ∧ (0 ≤ (x2_1 + 1).toInt) from ⟨hT, (by first | omega | decide | (simp only [Int32.le_iff_toInt_le, Int32.lt_iff_toInt_lt, ti_add, ti_sub, ti_mul, Int32.reduceToInt] at *; omega))⟩) (show ((16 : Int32).toInt - (x2_1 + 1).toInt).toNat < ((16 : Int32).toInt - x2_1.toInt).toNat from (by first | omega | decide | (simp only [Int32.le_iff_toInt_le, Int32.lt_iff_toInt_lt, ti_add, ti_sub, ti_mul, Int32.reduceToInt] at *; omega)))

set_option maxHeartbeats 4000000 in
set_option maxRecDepth 100000 in
theorem s_X2_cutBy {N : Nat} (hN : 1048576 ≤ N) {x0 : Nat} {x1 : Nat} {σ0 : zS}  (hR : RF σ0.2.2) (h_x0 : (zKd x0).1 = 2) (h_x1 : (zKd x1).1 = 2) : Ok (f_X2_cutBy N x0 x1 σ0) (fun r => Tr [] σ0 r.2 ∧ (True)) := by
  have hT : Tr [] σ0 σ0 := Tr.rf
  rw [f_X2_cutBy.eq_1]
  refine ok_lp (fun t : Int32 × zS => Tr [] σ0 (t.2) ∧ (0 ≤ (t.1).toInt)) (fun t : Int32 × zS => ((16 : Int32).toInt - (t.1).toInt).toNat) (fun again1 t hI ih2_1 => ?_) N _ (show Tr [] σ0 σ0 ∧ (0 ≤ (0 : Int32).toInt) from ⟨hT, (by first | omega | decide | (simp only [Int32.le_iff_toInt_le, Int32.lt_iff_toInt_lt, ti_add, ti_sub, ti_mul, Int32.reduceToInt] at *; omega))⟩) (show ((16 : Int32).toInt - (0 : Int32).toInt).toNat < N from (by first | omega | decide | (simp only [Int32.le_iff_toInt_le, Int32.lt_iff_toInt_lt, ti_add, ti_sub, ti_mul, Int32.reduceToInt] at *; omega)))
  obtain ⟨x2_1, σ1⟩ := t
  have hI : Tr [] σ0 σ1 ∧ (0 ≤ x2_1.toInt) := hI
  obtain ⟨hT, hI1⟩ := hI
  rw [F_X2_cutBy_2.eq_1]
  refine ok_if (fun hc2 => ?_) (fun hc2 => ?_)
  · exact ok_some ⟨hT, trivial⟩
  · refine ok_gR hT h_x0 (fam_R hR h_x0).1 ?_
    refine ok_aJ (fam_R hR h_x0).2 (by first | omega | decide | (simp only [Int32.le_iff_toInt_le, Int32.lt_iff_toInt_lt, ti_add, ti_sub, ti_mul, Int32.reduceToInt] at *; omega)) (by first | omega | decide | (simp only [Int32.le_iff_toInt_le, Int32.lt_iff_toInt_lt, ti_add, ti_sub, ti_mul, Int32.reduceToInt] at *; omega)) ?_
    generalize σ1.2.1 (x0 + 1) (Int32.toNatClampNeg (x2_1)) = v4
    refine ok_gR hT h_x1 (fam_R hR h_x1).1 ?_
    refine ok_aJ (fam_R hR h_x1).2 (by first | omega | decide | (simp only [Int32.le_iff_toInt_le, Int32.lt_iff_toInt_lt, ti_add, ti_sub, ti_mul, Int32.reduceToInt] at *; omega)) (by first | omega | decide | (simp only [Int32.le_iff_toInt_le, Int32.lt_iff_toInt_lt, ti_add, ti_sub, ti_mul, Int32.reduceToInt] at *; omega)) ?_
    generalize σ1.2.1 (x1 + 1) (Int32.toNatClampNeg (x2_1)) = v6
    refine ok_sJ hT (fam_R hR h_x0).2 (by first | omega | decide | (simp only [Int32.le_iff_toInt_le, Int32.lt_iff_toInt_lt, ti_add, ti_sub, ti_mul, Int32.reduceToInt] at *; omega)) (by first | omega | decide | (simp only [Int32.le_iff_toInt_le, Int32.lt_iff_toInt_lt, ti_add, ti_sub, ti_mul, Int32.reduceToInt] at *; omega)) (fun σ7 eσ7 hOσ7 hT => ?_)
    exact ih2_1 (x2_1 + 1, σ7) (show Tr [] σ0 σ7 ∧ (0 ≤ (x2_1 + 1).toInt) from ⟨hT, (by first | omega | decide | (simp only [Int32.le_iff_toInt_le, Int32.lt_iff_toInt_lt, ti_add, ti_sub, ti_mul, Int32.reduceToInt] at *; omega))⟩) (show ((16 : Int32).toInt - (x2_1 + 1).toInt).toNat < ((16 : Int32).toInt - x2_1.toInt).toNat from (by first | omega | decide | (simp only [Int32.le_iff_toInt_le, Int32.lt_iff_toInt_lt, ti_add, ti_sub, ti_mul, Int32.reduceToInt] at *; omega)))

set_option maxHeartbeats 4000000 in
set_option maxRecDepth 100000 in
theorem s_X2_takeAway {N : Nat} (hN : 1048576 ≤ N) {x0 : Nat} {x1 : Nat} {σ0 : zS}  (hR : RF σ0.2.2) (h_x0 : (zKd x0).1 = 2) (h_x1 : (zKd x1).1 = 2) : Ok (f_X2_takeAway N x0 x1 σ0) (fun r => Tr [] σ0 r.2 ∧ (True)) := by
  have hT : Tr [] σ0 σ0 := Tr.rf
  rw [f_X2_takeAway.eq_1]
  refine ok_lp (fun t : Int32 × zS => Tr [] σ0 (t.2) ∧ (0 ≤ (t.1).toInt)) (fun t : Int32 × zS => ((16 : Int32).toInt - (t.1).toInt).toNat) (fun again1 t hI ih2_1 => ?_) N _ (show Tr [] σ0 σ0 ∧ (0 ≤ (0 : Int32).toInt) from ⟨hT, (by first | omega | decide | (simp only [Int32.le_iff_toInt_le, Int32.lt_iff_toInt_lt, ti_add, ti_sub, ti_mul, Int32.reduceToInt] at *; omega))⟩) (show ((16 : Int32).toInt - (0 : Int32).toInt).toNat < N from (by first | omega | decide | (simp only [Int32.le_iff_toInt_le, Int32.lt_iff_toInt_lt, ti_add, ti_sub, ti_mul, Int32.reduceToInt] at *; omega)))
  obtain ⟨x2_1, σ1⟩ := t
  have hI : Tr [] σ0 σ1 ∧ (0 ≤ x2_1.toInt) := hI
  obtain ⟨hT, hI1⟩ := hI
  rw [F_X2_takeAway_2.eq_1]
  refine ok_if (fun hc2 => ?_) (fun hc2 => ?_)
  · exact ok_some ⟨hT, trivial⟩
  · refine ok_gR hT h_x0 (fam_R hR h_x0).1 ?_
    refine ok_aJ (fam_R hR h_x0).2 (by first | omega | decide | (simp only [Int32.le_iff_toInt_le, Int32.lt_iff_toInt_lt, ti_add, ti_sub, ti_mul, Int32.reduceToInt] at *; omega)) (by first | omega | decide | (simp only [Int32.le_iff_toInt_le, Int32.lt_iff_toInt_lt, ti_add, ti_sub, ti_mul, Int32.reduceToInt] at *; omega)) ?_
    generalize σ1.2.1 (x0 + 1) (Int32.toNatClampNeg (x2_1)) = v4
    refine ok_gR hT h_x1 (fam_R hR h_x1).1 ?_
    refine ok_aJ (fam_R hR h_x1).2 (by first | omega | decide | (simp only [Int32.le_iff_toInt_le, Int32.lt_iff_toInt_lt, ti_add, ti_sub, ti_mul, Int32.reduceToInt] at *; omega)) (by first | omega | decide | (simp only [Int32.le_iff_toInt_le, Int32.lt_iff_toInt_lt, ti_add, ti_sub, ti_mul, Int32.reduceToInt] at *; omega)) ?_
    generalize σ1.2.1 (x1 + 1) (Int32.toNatClampNeg (x2_1)) = v6
    refine ok_sJ hT (fam_R hR h_x0).2 (by first | omega | decide | (simp only [Int32.le_iff_toInt_le, Int32.lt_iff_toInt_lt, ti_add, ti_sub, ti_mul, Int32.reduceToInt] at *; omega)) (by first | omega | decide | (simp only [Int32.le_iff_toInt_le, Int32.lt_iff_toInt_lt, ti_add, ti_sub, ti_mul, Int32.reduceToInt] at *; omega)) (fun σ7 eσ7 hOσ7 hT => ?_)
    exact ih2_1 (x2_1 + 1, σ7) (show Tr [] σ0 σ7 ∧ (0 ≤ (x2_1 + 1).toInt) from ⟨hT, (by first | omega | decide | (simp only [Int32.le_iff_toInt_le, Int32.lt_iff_toInt_lt, ti_add, ti_sub, ti_mul, Int32.reduceToInt] at *; omega))⟩) (show ((16 : Int32).toInt - (x2_1 + 1).toInt).toNat < ((16 : Int32).toInt - x2_1.toInt).toNat from (by first | omega | decide | (simp only [Int32.le_iff_toInt_le, Int32.lt_iff_toInt_lt, ti_add, ti_sub, ti_mul, Int32.reduceToInt] at *; omega)))

set_option maxHeartbeats 4000000 in
set_option maxRecDepth 100000 in
theorem s_X2_holds {N : Nat} (hN : 1048576 ≤ N) {x0 : Nat} {x1 : Int32} {σ0 : zS}  (hR : RF σ0.2.2) (h_x0 : (zKd x0).1 = 2) : Ok (f_X2_holds N x0 x1 σ0) (fun r => Tr [] σ0 r.2 ∧ (r.1 = 0 ∨ r.1 = 1)) := by
  have hT : Tr [] σ0 σ0 := Tr.rf
  rw [f_X2_holds.eq_1]
  refine ok_if (fun hc1 => ?_) (fun hc1 => ?_)
  · exact ok_rZ (Or.inl rfl) ⟨hT, (show (0 : Int32) = 0 ∨ (0 : Int32) = 1 from by first | exact Or.inl rfl | exact Or.inr rfl)⟩
  · refine ok_if (fun hc2 => ?_) (fun hc2 => ?_)
    · exact ok_rZ (Or.inl rfl) ⟨hT, (show (0 : Int32) = 0 ∨ (0 : Int32) = 1 from by first | exact Or.inl rfl | exact Or.inr rfl)⟩
    · refine ok_gR hT h_x0 (fam_R hR h_x0).1 ?_
      refine ok_aJ (fam_R hR h_x0).2 (by have q9 := ti_shr x1 (n := 6) (by decide); rw [show Int32.ofNat 6 = 6 from rfl] at q9; simp only [Int32.le_iff_toInt_le, Int32.lt_iff_toInt_lt, ti_add, ti_sub, ti_mul, Int32.reduceToInt] at *; omega) (by have q9 := ti_shr x1 (n := 6) (by decide); rw [show Int32.ofNat 6 = 6 from rfl] at q9; simp only [Int32.le_iff_toInt_le, Int32.lt_iff_toInt_lt, ti_add, ti_sub, ti_mul, Int32.reduceToInt] at *; omega) ?_
      generalize σ0.2.1 (x0 + 1) (Int32.toNatClampNeg ((x1 : Int32) >>> (6 &&& 31))) = v4
      refine ok_if (fun hc5 => ?_) (fun hc5 => ?_)
      · exact ok_rZ (Or.inl rfl) ⟨hT, (show (0 : Int32) = 0 ∨ (0 : Int32) = 1 from by first | exact Or.inl rfl | exact Or.inr rfl)⟩
      · exact ok_rZ (Or.inr rfl) ⟨hT, (show (1 : Int32) = 0 ∨ (1 : Int32) = 1 from by first | exact Or.inl rfl | exact Or.inr rfl)⟩

set_option maxHeartbeats 4000000 in
set_option maxRecDepth 100000 in
theorem s_X2_include {N : Nat} (hN : 1048576 ≤ N) {x0 : Nat} {x1 : Int32} {σ0 : zS}  (hR : RF σ0.2.2) (h_x0 : (zKd x0).1 = 2) : Ok (f_X2_include N x0 x1 σ0) (fun r => Tr [] σ0 r.2 ∧ (True)) := by
  have hT : Tr [] σ0 σ0 := Tr.rf
  rw [f_X2_include.eq_1]
  refine ok_if (fun hc1 => ?_) (fun hc1 => ?_)
  · exact ok_some ⟨hT, trivial⟩
  · refine ok_if (fun hc2 => ?_) (fun hc2 => ?_)
    · exact ok_some ⟨hT, trivial⟩
    · refine ok_gR hT h_x0 (fam_R hR h_x0).1 ?_
      refine ok_aJ (fam_R hR h_x0).2 (by have q9 := ti_shr x1 (n := 6) (by decide); rw [show Int32.ofNat 6 = 6 from rfl] at q9; simp only [Int32.le_iff_toInt_le, Int32.lt_iff_toInt_lt, ti_add, ti_sub, ti_mul, Int32.reduceToInt] at *; omega) (by have q9 := ti_shr x1 (n := 6) (by decide); rw [show Int32.ofNat 6 = 6 from rfl] at q9; simp only [Int32.le_iff_toInt_le, Int32.lt_iff_toInt_lt, ti_add, ti_sub, ti_mul, Int32.reduceToInt] at *; omega) ?_
      generalize σ0.2.1 (x0 + 1) (Int32.toNatClampNeg ((x1 : Int32) >>> (6 &&& 31))) = v4
      refine ok_sJ hT (fam_R hR h_x0).2 (by have q9 := ti_shr x1 (n := 6) (by decide); rw [show Int32.ofNat 6 = 6 from rfl] at q9; simp only [Int32.le_iff_toInt_le, Int32.lt_iff_toInt_lt, ti_add, ti_sub, ti_mul, Int32.reduceToInt] at *; omega) (by have q9 := ti_shr x1 (n := 6) (by decide); rw [show Int32.ofNat 6 = 6 from rfl] at q9; simp only [Int32.le_iff_toInt_le, Int32.lt_iff_toInt_lt, ti_add, ti_sub, ti_mul, Int32.reduceToInt] at *; omega) (fun σ5 eσ5 hOσ5 hT => ?_)
      exact ok_some ⟨hT, trivial⟩

set_option maxHeartbeats 4000000 in
set_option maxRecDepth 100000 in
theorem s_X2_exclude {N : Nat} (hN : 1048576 ≤ N) {x0 : Nat} {x1 : Int32} {σ0 : zS}  (hR : RF σ0.2.2) (h_x0 : (zKd x0).1 = 2) : Ok (f_X2_exclude N x0 x1 σ0) (fun r => Tr [] σ0 r.2 ∧ (True)) := by
  have hT : Tr [] σ0 σ0 := Tr.rf
  rw [f_X2_exclude.eq_1]
  refine ok_if (fun hc1 => ?_) (fun hc1 => ?_)
  · exact ok_some ⟨hT, trivial⟩
  · refine ok_if (fun hc2 => ?_) (fun hc2 => ?_)
    · exact ok_some ⟨hT, trivial⟩
    · refine ok_gR hT h_x0 (fam_R hR h_x0).1 ?_
      refine ok_aJ (fam_R hR h_x0).2 (by have q9 := ti_shr x1 (n := 6) (by decide); rw [show Int32.ofNat 6 = 6 from rfl] at q9; simp only [Int32.le_iff_toInt_le, Int32.lt_iff_toInt_lt, ti_add, ti_sub, ti_mul, Int32.reduceToInt] at *; omega) (by have q9 := ti_shr x1 (n := 6) (by decide); rw [show Int32.ofNat 6 = 6 from rfl] at q9; simp only [Int32.le_iff_toInt_le, Int32.lt_iff_toInt_lt, ti_add, ti_sub, ti_mul, Int32.reduceToInt] at *; omega) ?_
      generalize σ0.2.1 (x0 + 1) (Int32.toNatClampNeg ((x1 : Int32) >>> (6 &&& 31))) = v4
      refine ok_sJ hT (fam_R hR h_x0).2 (by have q9 := ti_shr x1 (n := 6) (by decide); rw [show Int32.ofNat 6 = 6 from rfl] at q9; simp only [Int32.le_iff_toInt_le, Int32.lt_iff_toInt_lt, ti_add, ti_sub, ti_mul, Int32.reduceToInt] at *; omega) (by have q9 := ti_shr x1 (n := 6) (by decide); rw [show Int32.ofNat 6 = 6 from rfl] at q9; simp only [Int32.le_iff_toInt_le, Int32.lt_iff_toInt_lt, ti_add, ti_sub, ti_mul, Int32.reduceToInt] at *; omega) (fun σ5 eσ5 hOσ5 hT => ?_)
      exact ok_some ⟨hT, trivial⟩

set_option maxHeartbeats 4000000 in
set_option maxRecDepth 100000 in
theorem s_X2_isEmpty {N : Nat} (hN : 1048576 ≤ N) {x0 : Nat} {σ0 : zS}  (hR : RF σ0.2.2) (h_x0 : (zKd x0).1 = 2) : Ok (f_X2_isEmpty N x0 σ0) (fun r => Tr [] σ0 r.2 ∧ (r.1 = 0 ∨ r.1 = 1)) := by
  have hT : Tr [] σ0 σ0 := Tr.rf
  rw [f_X2_isEmpty.eq_1]
  refine ok_lp (fun t : Int32 × zS => Tr [] σ0 (t.2) ∧ (0 ≤ (t.1).toInt)) (fun t : Int32 × zS => ((16 : Int32).toInt - (t.1).toInt).toNat) (fun again1 t hI ih2_1 => ?_) N _ (show Tr [] σ0 σ0 ∧ (0 ≤ (0 : Int32).toInt) from ⟨hT, (by first | omega | decide | (simp only [Int32.le_iff_toInt_le, Int32.lt_iff_toInt_lt, ti_add, ti_sub, ti_mul, Int32.reduceToInt] at *; omega))⟩) (show ((16 : Int32).toInt - (0 : Int32).toInt).toNat < N from (by first | omega | decide | (simp only [Int32.le_iff_toInt_le, Int32.lt_iff_toInt_lt, ti_add, ti_sub, ti_mul, Int32.reduceToInt] at *; omega)))
  obtain ⟨x1_1, σ1⟩ := t
  have hI : Tr [] σ0 σ1 ∧ (0 ≤ x1_1.toInt) := hI
  obtain ⟨hT, hI1⟩ := hI
  rw [F_X2_isEmpty_2.eq_1]
  refine ok_if (fun hc2 => ?_) (fun hc2 => ?_)
  · exact ok_rZ (Or.inr rfl) ⟨hT, (show (1 : Int32) = 0 ∨ (1 : Int32) = 1 from by first | exact Or.inl rfl | exact Or.inr rfl)⟩
  · refine ok_gR hT h_x0 (fam_R hR h_x0).1 ?_
    refine ok_aJ (fam_R hR h_x0).2 (by first | omega | decide | (simp only [Int32.le_iff_toInt_le, Int32.lt_iff_toInt_lt, ti_add, ti_sub, ti_mul, Int32.reduceToInt] at *; omega)) (by first | omega | decide | (simp only [Int32.le_iff_toInt_le, Int32.lt_iff_toInt_lt, ti_add, ti_sub, ti_mul, Int32.reduceToInt] at *; omega)) ?_
    generalize σ1.2.1 (x0 + 1) (Int32.toNatClampNeg (x1_1)) = v4
    refine ok_if (fun hc5 => ?_) (fun hc5 => ?_)
    · exact ih2_1 (x1_1 + 1, σ1) (show Tr [] σ0 σ1 ∧ (0 ≤ (x1_1 + 1).toInt) from ⟨hT, (by first | omega | decide | (simp only [Int32.le_iff_toInt_le, Int32.lt_iff_toInt_lt, ti_add, ti_sub, ti_mul, Int32.reduceToInt] at *; omega))⟩) (show ((16 : Int32).toInt - (x1_1 + 1).toInt).toNat < ((16 : Int32).toInt - x1_1.toInt).toNat from (by first | omega | decide | (simp only [Int32.le_iff_toInt_le, Int32.lt_iff_toInt_lt, ti_add, ti_sub, ti_mul, Int32.reduceToInt] at *; omega)))
    · exact ok_rZ (Or.inl rfl) ⟨hT, (show (0 : Int32) = 0 ∨ (0 : Int32) = 1 from by first | exact Or.inl rfl | exact Or.inr rfl)⟩

set_option maxHeartbeats 4000000 in
set_option maxRecDepth 100000 in
theorem s_X2_sameAs {N : Nat} (hN : 1048576 ≤ N) {x0 : Nat} {x1 : Nat} {σ0 : zS}  (hR : RF σ0.2.2) (h_x0 : (zKd x0).1 = 2) (h_x1 : (zKd x1).1 = 2) : Ok (f_X2_sameAs N x0 x1 σ0) (fun r => Tr [] σ0 r.2 ∧ (r.1 = 0 ∨ r.1 = 1)) := by
  have hT : Tr [] σ0 σ0 := Tr.rf
  rw [f_X2_sameAs.eq_1]
  refine ok_lp (fun t : Int32 × zS => Tr [] σ0 (t.2) ∧ (0 ≤ (t.1).toInt)) (fun t : Int32 × zS => ((16 : Int32).toInt - (t.1).toInt).toNat) (fun again1 t hI ih2_1 => ?_) N _ (show Tr [] σ0 σ0 ∧ (0 ≤ (0 : Int32).toInt) from ⟨hT, (by first | omega | decide | (simp only [Int32.le_iff_toInt_le, Int32.lt_iff_toInt_lt, ti_add, ti_sub, ti_mul, Int32.reduceToInt] at *; omega))⟩) (show ((16 : Int32).toInt - (0 : Int32).toInt).toNat < N from (by first | omega | decide | (simp only [Int32.le_iff_toInt_le, Int32.lt_iff_toInt_lt, ti_add, ti_sub, ti_mul, Int32.reduceToInt] at *; omega)))
  obtain ⟨x2_1, σ1⟩ := t
  have hI : Tr [] σ0 σ1 ∧ (0 ≤ x2_1.toInt) := hI
  obtain ⟨hT, hI1⟩ := hI
  rw [F_X2_sameAs_2.eq_1]
  refine ok_if (fun hc2 => ?_) (fun hc2 => ?_)
  · exact ok_rZ (Or.inr rfl) ⟨hT, (show (1 : Int32) = 0 ∨ (1 : Int32) = 1 from by first | exact Or.inl rfl | exact Or.inr rfl)⟩
  · refine ok_gR hT h_x0 (fam_R hR h_x0).1 ?_
    refine ok_aJ (fam_R hR h_x0).2 (by first | omega | decide | (simp only [Int32.le_iff_toInt_le, Int32.lt_iff_toInt_lt, ti_add, ti_sub, ti_mul, Int32.reduceToInt] at *; omega)) (by first | omega | decide | (simp only [Int32.le_iff_toInt_le, Int32.lt_iff_toInt_lt, ti_add, ti_sub, ti_mul, Int32.reduceToInt] at *; omega)) ?_
    generalize σ1.2.1 (x0 + 1) (Int32.toNatClampNeg (x2_1)) = v4
    refine ok_gR hT h_x1 (fam_R hR h_x1).1 ?_
    refine ok_aJ (fam_R hR h_x1).2 (by first | omega | decide | (simp only [Int32.le_iff_toInt_le, Int32.lt_iff_toInt_lt, ti_add, ti_sub, ti_mul, Int32.reduceToInt] at *; omega)) (by first | omega | decide | (simp only [Int32.le_iff_toInt_le, Int32.lt_iff_toInt_lt, ti_add, ti_sub, ti_mul, Int32.reduceToInt] at *; omega)) ?_
    generalize σ1.2.1 (x1 + 1) (Int32.toNatClampNeg (x2_1)) = v6
    refine ok_if (fun hc7 => ?_) (fun hc7 => ?_)
    · exact ih2_1 (x2_1 + 1, σ1) (show Tr [] σ0 σ1 ∧ (0 ≤ (x2_1 + 1).toInt) from ⟨hT, (by first | omega | decide | (simp only [Int32.le_iff_toInt_le, Int32.lt_iff_toInt_lt, ti_add, ti_sub, ti_mul, Int32.reduceToInt] at *; omega))⟩) (show ((16 : Int32).toInt - (x2_1 + 1).toInt).toNat < ((16 : Int32).toInt - x2_1.toInt).toNat from (by first | omega | decide | (simp only [Int32.le_iff_toInt_le, Int32.lt_iff_toInt_lt, ti_add, ti_sub, ti_mul, Int32.reduceToInt] at *; omega)))
    · exact ok_rZ (Or.inl rfl) ⟨hT, (show (0 : Int32) = 0 ∨ (0 : Int32) = 1 from by first | exact Or.inl rfl | exact Or.inr rfl)⟩

set_option maxHeartbeats 4000000 in
set_option maxRecDepth 100000 in
theorem s_X2_tally {N : Nat} (hN : 1048576 ≤ N) {x0 : Nat} {σ0 : zS}  (hR : RF σ0.2.2) (h_x0 : (zKd x0).1 = 2) : Ok (f_X2_tally N x0 σ0) (fun r => Tr [] σ0 r.2 ∧ (True)) := by
  have hT : Tr [] σ0 σ0 := Tr.rf
  rw [f_X2_tally.eq_1]
  refine ok_lp (fun t : Int32 × Int32 × zS => Tr [] σ0 (t.2.2) ∧ (0 ≤ (t.2.1).toInt)) (fun t : Int32 × Int32 × zS => ((16 : Int32).toInt - (t.2.1).toInt).toNat) (fun again1 t hI ih4_1 => ?_) N _ (show Tr [] σ0 σ0 ∧ (0 ≤ (0 : Int32).toInt) from ⟨hT, (by first | omega | decide | (simp only [Int32.le_iff_toInt_le, Int32.lt_iff_toInt_lt, ti_add, ti_sub, ti_mul, Int32.reduceToInt] at *; omega))⟩) (show ((16 : Int32).toInt - (0 : Int32).toInt).toNat < N from (by first | omega | decide | (simp only [Int32.le_iff_toInt_le, Int32.lt_iff_toInt_lt, ti_add, ti_sub, ti_mul, Int32.reduceToInt] at *; omega)))
  obtain ⟨x1_1, x2_1, σ1⟩ := t
  have hI : Tr [] σ0 σ1 ∧ (0 ≤ x2_1.toInt) := hI
  obtain ⟨hT, hI1⟩ := hI
  rw [F_X2_tally_4.eq_1]
  refine ok_if (fun hc2 => ?_) (fun hc2 => ?_)
  · exact ok_some ⟨hT, trivial⟩
  · refine ok_gR hT h_x0 (fam_R hR h_x0).1 ?_
    refine ok_aJ (fam_R hR h_x0).2 (by first | omega | decide | (simp only [Int32.le_iff_toInt_le, Int32.lt_iff_toInt_lt, ti_add, ti_sub, ti_mul, Int32.reduceToInt] at *; omega)) (by first | omega | decide | (simp only [Int32.le_iff_toInt_le, Int32.lt_iff_toInt_lt, ti_add, ti_sub, ti_mul, Int32.reduceToInt] at *; omega)) ?_
    generalize σ1.2.1 (x0 + 1) (Int32.toNatClampNeg (x2_1)) = v4
    refine ok_zbT (Q := fun V σ => True) hT (s_J13_bitCount_95d88 hN (hR.tr hT) ) (fun _ h9 => absurd h9 List.not_mem_nil) (fun v5 σ6 hOσ6 hT hqv5 => ?_)
    exact ih4_1 (x1_1 + v5, x2_1 + 1, σ6) (show Tr [] σ0 σ6 ∧ (0 ≤ (x2_1 + 1).toInt) from ⟨hT, (by first | omega | decide | (simp only [Int32.le_iff_toInt_le, Int32.lt_iff_toInt_lt, ti_add, ti_sub, ti_mul, Int32.reduceToInt] at *; omega))⟩) (show ((16 : Int32).toInt - (x2_1 + 1).toInt).toNat < ((16 : Int32).toInt - x2_1.toInt).toNat from (by first | omega | decide | (simp only [Int32.le_iff_toInt_le, Int32.lt_iff_toInt_lt, ti_add, ti_sub, ti_mul, Int32.reduceToInt] at *; omega)))

set_option maxHeartbeats 4000000 in
set_option maxRecDepth 100000 in
theorem s_X2_becomeAll {N : Nat} (hN : 1048576 ≤ N) {x0 : Nat} {x1 : Int32} {σ0 : zS}  (hR : RF σ0.2.2) (h_x0 : (zKd x0).1 = 2) : Ok (f_X2_becomeAll N x0 x1 σ0) (fun r => Tr [] σ0 r.2 ∧ (True)) := by
  have hT : Tr [] σ0 σ0 := Tr.rf
  rw [f_X2_becomeAll.eq_1]
  refine ok_gC h_x0 ?_
  refine ok_zbT (Q := fun V σ => True) hT (s_X2_clear hN (hR.tr hT) h_x0) (fun _ h9 => absurd h9 List.not_mem_nil) (fun v1 σ2 hOσ2 hT hqv1 => ?_)
  refine ok_if (fun hc3 => ?_) (fun hc3 => ?_)
  · refine ok_lp (fun t : Int32 × zS => Tr [] σ0 (t.2) ∧ (0 ≤ (t.1).toInt)) (fun t : Int32 × zS => ((16 : Int32).toInt - (t.1).toInt).toNat) (fun again4 t hI ih26_4 => ?_) N _ (show Tr [] σ0 σ2 ∧ (0 ≤ (0 : Int32).toInt) from ⟨hT, (by first | omega | decide | (simp only [Int32.le_iff_toInt_le, Int32.lt_iff_toInt_lt, ti_add, ti_sub, ti_mul, Int32.reduceToInt] at *; omega))⟩) (show ((16 : Int32).toInt - (0 : Int32).toInt).toNat < N from (by first | omega | decide | (simp only [Int32.le_iff_toInt_le, Int32.lt_iff_toInt_lt, ti_add, ti_sub, ti_mul, Int32.reduceToInt] at *; omega)))
    obtain ⟨x2_4, σ4⟩ := t
    have hI : Tr [] σ0 σ4 ∧ (0 ≤ x2_4.toInt) := hI
    obtain ⟨hT, hI4⟩ := hI
    rw [F_X2_becomeAll_26.eq_1]
    refine ok_if (fun hc5 => ?_) (fun hc5 => ?_)
    · exact ok_some ⟨hT, trivial⟩
    · refine ok_if (fun hc6 => ?_) (fun hc6 => ?_)
      · exact ok_some ⟨hT, trivial⟩
      · refine ok_gR hT h_x0 (fam_R hR h_x0).1 ?_
        refine ok_sJ hT (fam_R hR h_x0).2 (by first | omega | decide | (simp only [Int32.le_iff_toInt_le, Int32.lt_iff_toInt_lt, ti_add, ti_sub, ti_mul, Int32.reduceToInt] at *; omega)) (by first | omega | decide | (simp only [Int32.le_iff_toInt_le, Int32.lt_iff_toInt_lt, ti_add, ti_sub, ti_mul, Int32.reduceToInt] at *; omega)) (fun σ8 eσ8 hOσ8 hT => ?_)
        exact ih26_4 (x2_4 + 1, σ8) (show Tr [] σ0 σ8 ∧ (0 ≤ (x2_4 + 1).toInt) from ⟨hT, (by first | omega | decide | (simp only [Int32.le_iff_toInt_le, Int32.lt_iff_toInt_lt, ti_add, ti_sub, ti_mul, Int32.reduceToInt] at *; omega))⟩) (show ((16 : Int32).toInt - (x2_4 + 1).toInt).toNat < ((16 : Int32).toInt - x2_4.toInt).toNat from (by first | omega | decide | (simp only [Int32.le_iff_toInt_le, Int32.lt_iff_toInt_lt, ti_add, ti_sub, ti_mul, Int32.reduceToInt] at *; omega)))
  · refine ok_gR hT h_x0 (fam_R hR h_x0).1 ?_
    refine ok_sJ hT (fam_R hR h_x0).2 (by first | omega | decide | (simp only [Int32.le_iff_toInt_le, Int32.lt_iff_toInt_lt, ti_add, ti_sub, ti_mul, Int32.reduceToInt] at *; omega)) (by first | omega | decide | (simp only [Int32.le_iff_toInt_le, Int32.lt_iff_toInt_lt, ti_add, ti_sub, ti_mul, Int32.reduceToInt] at *; omega)) (fun σ10 eσ10 hOσ10 hT => ?_)
    exact ok_some ⟨hT, trivial⟩

set_option maxHeartbeats 4000000 in
set_option maxRecDepth 100000 in
theorem s_X2_keepWithout {N : Nat} (hN : 1048576 ≤ N) {x0 : Nat} {x1 : Int32} {σ0 : zS}  (hR : RF σ0.2.2) (h_x0 : (zKd x0).1 = 2) : Ok (f_X2_keepWithout N x0 x1 σ0) (fun r => Tr [] σ0 r.2 ∧ (True)) := by
  have hT : Tr [] σ0 σ0 := Tr.rf
  rw [f_X2_keepWithout.eq_1]
  refine ok_if (fun hc1 => ?_) (fun hc1 => ?_)
  · exact ok_some ⟨hT, trivial⟩
  · refine ok_if (fun hc2 => ?_) (fun hc2 => ?_)
    · refine ok_lp (fun t : Int32 × zS => Tr [] σ0 (t.2) ∧ (0 ≤ (t.1).toInt)) (fun t : Int32 × zS => ((16 : Int32).toInt - (t.1).toInt).toNat) (fun again3 t hI ih13_3 => ?_) N _ (show Tr [] σ0 σ0 ∧ (0 ≤ (0 : Int32).toInt) from ⟨hT, (by first | omega | decide | (simp only [Int32.le_iff_toInt_le, Int32.lt_iff_toInt_lt, ti_add, ti_sub, ti_mul, Int32.reduceToInt] at *; omega))⟩) (show ((16 : Int32).toInt - (0 : Int32).toInt).toNat < N from (by first | omega | decide | (simp only [Int32.le_iff_toInt_le, Int32.lt_iff_toInt_lt, ti_add, ti_sub, ti_mul, Int32.reduceToInt] at *; omega)))
      obtain ⟨x2_3, σ3⟩ := t
      have hI : Tr [] σ0 σ3 ∧ (0 ≤ x2_3.toInt) := hI
      obtain ⟨hT, hI3⟩ := hI
      rw [F_X2_keepWithout_13.eq_1]
      refine ok_if (fun hc4 => ?_) (fun hc4 => ?_)
      · exact ok_some ⟨hT, trivial⟩
      · refine ok_if (fun hc5 => ?_) (fun hc5 => ?_)
        · refine ok_if (fun hc6 => ?_) (fun hc6 => ?_)
          · exact ih13_3 (x2_3 + 1, σ3) (show Tr [] σ0 σ3 ∧ (0 ≤ (x2_3 + 1).toInt) from ⟨hT, (by first | omega | decide | (simp only [Int32.le_iff_toInt_le, Int32.lt_iff_toInt_lt, ti_add, ti_sub, ti_mul, Int32.reduceToInt] at *; omega))⟩) (show ((16 : Int32).toInt - (x2_3 + 1).toInt).toNat < ((16 : Int32).toInt - x2_3.toInt).toNat from (by first | omega | decide | (simp only [Int32.le_iff_toInt_le, Int32.lt_iff_toInt_lt, ti_add, ti_sub, ti_mul, Int32.reduceToInt] at *; omega)))
          · refine ok_gR hT h_x0 (fam_R hR h_x0).1 ?_
            refine ok_sJ hT (fam_R hR h_x0).2 (by first | omega | decide | (simp only [Int32.le_iff_toInt_le, Int32.lt_iff_toInt_lt, ti_add, ti_sub, ti_mul, Int32.reduceToInt] at *; omega)) (by first | omega | decide | (simp only [Int32.le_iff_toInt_le, Int32.lt_iff_toInt_lt, ti_add, ti_sub, ti_mul, Int32.reduceToInt] at *; omega)) (fun σ8 eσ8 hOσ8 hT => ?_)
            exact ih13_3 (x2_3 + 1, σ8) (show Tr [] σ0 σ8 ∧ (0 ≤ (x2_3 + 1).toInt) from ⟨hT, (by first | omega | decide | (simp only [Int32.le_iff_toInt_le, Int32.lt_iff_toInt_lt, ti_add, ti_sub, ti_mul, Int32.reduceToInt] at *; omega))⟩) (show ((16 : Int32).toInt - (x2_3 + 1).toInt).toNat < ((16 : Int32).toInt - x2_3.toInt).toNat from (by first | omega | decide | (simp only [Int32.le_iff_toInt_le, Int32.lt_iff_toInt_lt, ti_add, ti_sub, ti_mul, Int32.reduceToInt] at *; omega)))
        · refine ok_gR hT h_x0 (fam_R hR h_x0).1 ?_
          refine ok_aJ (fam_R hR h_x0).2 (by first | omega | decide | (simp only [Int32.le_iff_toInt_le, Int32.lt_iff_toInt_lt, ti_add, ti_sub, ti_mul, Int32.reduceToInt] at *; omega)) (by first | omega | decide | (simp only [Int32.le_iff_toInt_le, Int32.lt_iff_toInt_lt, ti_add, ti_sub, ti_mul, Int32.reduceToInt] at *; omega)) ?_
          generalize σ3.2.1 (x0 + 1) (Int32.toNatClampNeg (x2_3)) = v10
          refine ok_aW (by first | omega | decide | (simp only [Int32.le_iff_toInt_le, Int32.lt_iff_toInt_lt, ti_add, ti_sub, ti_mul, Int32.reduceToInt] at *; omega)) (by first | omega | decide | (simp only [Int32.le_iff_toInt_le, Int32.lt_iff_toInt_lt, ti_add, ti_sub, ti_mul, Int32.reduceToInt] at *; omega)) ?_
          generalize zWo (Int32.toNatClampNeg (x1)) = v11
          refine ok_sJ hT (fam_R hR h_x0).2 (by first | omega | decide | (simp only [Int32.le_iff_toInt_le, Int32.lt_iff_toInt_lt, ti_add, ti_sub, ti_mul, Int32.reduceToInt] at *; omega)) (by first | omega | decide | (simp only [Int32.le_iff_toInt_le, Int32.lt_iff_toInt_lt, ti_add, ti_sub, ti_mul, Int32.reduceToInt] at *; omega)) (fun σ12 eσ12 hOσ12 hT => ?_)
          exact ih13_3 (x2_3 + 1, σ12) (show Tr [] σ0 σ12 ∧ (0 ≤ (x2_3 + 1).toInt) from ⟨hT, (by first | omega | decide | (simp only [Int32.le_iff_toInt_le, Int32.lt_iff_toInt_lt, ti_add, ti_sub, ti_mul, Int32.reduceToInt] at *; omega))⟩) (show ((16 : Int32).toInt - (x2_3 + 1).toInt).toNat < ((16 : Int32).toInt - x2_3.toInt).toNat from (by first | omega | decide | (simp only [Int32.le_iff_toInt_le, Int32.lt_iff_toInt_lt, ti_add, ti_sub, ti_mul, Int32.reduceToInt] at *; omega)))
    · exact ok_some ⟨hT, trivial⟩

set_option maxHeartbeats 4000000 in
set_option maxRecDepth 100000 in
theorem s_X2_raise {N : Nat} (hN : 1048576 ≤ N) {x0 : Nat} {x1 : Int32} {σ0 : zS}  (hR : RF σ0.2.2) (h_x0 : (zKd x0).1 = 2) : Ok (f_X2_raise N x0 x1 σ0) (fun r => Tr [] σ0 r.2 ∧ (True)) := by
  have hT : Tr [] σ0 σ0 := Tr.rf
  rw [f_X2_raise.eq_1]
  refine ok_if (fun hc1 => ?_) (fun hc1 => ?_)
  · exact ok_some ⟨hT, trivial⟩
  · refine ok_if (fun hc2 => ?_) (fun hc2 => ?_)
    · refine ok_if (fun hc3 => ?_) (fun hc3 => ?_)
      · have q1 := ti_one10 (x := x1 - 6) (by simp only [ti_sub, Int32.le_iff_toInt_le, Int32.lt_iff_toInt_lt, Int32.reduceToInt] at *; omega) (by simp only [ti_sub, Int32.le_iff_toInt_le, Int32.lt_iff_toInt_lt, Int32.reduceToInt] at *; omega)
        refine ok_lp (fun t : Int32 × zS => Tr [] σ0 (t.2) ∧ (0 ≤ (t.1).toInt ∧ (t.1).toInt ≤ 16 ∧ 1 ≤ ((1 : Int32) <<< ((x1 - 6) &&& 31)).toInt ∧ ((1 : Int32) <<< ((x1 - 6) &&& 31)).toInt ≤ 1024)) (fun t : Int32 × zS => (16 - (t.1).toInt).toNat) (fun again4 t hI ih66_4 => ?_) N _ (show Tr [] σ0 σ0 ∧ (0 ≤ (0 : Int32).toInt ∧ (0 : Int32).toInt ≤ 16 ∧ 1 ≤ ((1 : Int32) <<< ((x1 - 6) &&& 31)).toInt ∧ ((1 : Int32) <<< ((x1 - 6) &&& 31)).toInt ≤ 1024) from ⟨hT, (by first | omega | decide | (simp only [Int32.le_iff_toInt_le, Int32.lt_iff_toInt_lt, ti_add, ti_sub, ti_mul, Int32.reduceToInt] at *; omega))⟩) (show (16 - (0 : Int32).toInt).toNat < N from (by first | omega | decide | (simp only [Int32.le_iff_toInt_le, Int32.lt_iff_toInt_lt, ti_add, ti_sub, ti_mul, Int32.reduceToInt] at *; omega)))
        obtain ⟨x3_4, σ4⟩ := t
        have hI : Tr [] σ0 σ4 ∧ (0 ≤ x3_4.toInt ∧ x3_4.toInt ≤ 16 ∧ 1 ≤ ((1 : Int32) <<< ((x1 - 6) &&& 31)).toInt ∧ ((1 : Int32) <<< ((x1 - 6) &&& 31)).toInt ≤ 1024) := hI
        obtain ⟨hT, hI4⟩ := hI
        rw [F_X2_raise_66.eq_1]
        refine ok_if (fun hc5 => ?_) (fun hc5 => ?_)
        · exact ok_some ⟨hT, trivial⟩
        · refine ok_if (fun hc6 => ?_) (fun hc6 => ?_)
          · refine ok_gR hT h_x0 (fam_R hR h_x0).1 ?_
            refine ok_aJ (fam_R hR h_x0).2 (by first | omega | decide | (simp only [Int32.le_iff_toInt_le, Int32.lt_iff_toInt_lt, ti_add, ti_sub, ti_mul, Int32.reduceToInt] at *; omega)) (by first | omega | decide | (simp only [Int32.le_iff_toInt_le, Int32.lt_iff_toInt_lt, ti_add, ti_sub, ti_mul, Int32.reduceToInt] at *; omega)) ?_
            generalize σ4.2.1 (x0 + 1) (Int32.toNatClampNeg (x3_4 + ((1 : Int32) <<< ((x1 - 6) &&& 31)))) = v8
            refine ok_gR hT h_x0 (fam_R hR h_x0).1 ?_
            refine ok_aJ (fam_R hR h_x0).2 (by first | omega | decide | (simp only [Int32.le_iff_toInt_le, Int32.lt_iff_toInt_lt, ti_add, ti_sub, ti_mul, Int32.reduceToInt] at *; omega)) (by first | omega | decide | (simp only [Int32.le_iff_toInt_le, Int32.lt_iff_toInt_lt, ti_add, ti_sub, ti_mul, Int32.reduceToInt] at *; omega)) ?_
            generalize σ4.2.1 (x0 + 1) (Int32.toNatClampNeg (x3_4)) = v10
            refine ok_sJ hT (fam_R hR h_x0).2 (by first | omega | decide | (simp only [Int32.le_iff_toInt_le, Int32.lt_iff_toInt_lt, ti_add, ti_sub, ti_mul, Int32.reduceToInt] at *; omega)) (by first | omega | decide | (simp only [Int32.le_iff_toInt_le, Int32.lt_iff_toInt_lt, ti_add, ti_sub, ti_mul, Int32.reduceToInt] at *; omega)) (fun σ11 eσ11 hOσ11 hT => ?_)
            exact ih66_4 (x3_4 + 1, σ11) (show Tr [] σ0 σ11 ∧ (0 ≤ (x3_4 + 1).toInt ∧ (x3_4 + 1).toInt ≤ 16 ∧ 1 ≤ ((1 : Int32) <<< ((x1 - 6) &&& 31)).toInt ∧ ((1 : Int32) <<< ((x1 - 6) &&& 31)).toInt ≤ 1024) from ⟨hT, (by first | omega | decide | (simp only [Int32.le_iff_toInt_le, Int32.lt_iff_toInt_lt, ti_add, ti_sub, ti_mul, Int32.reduceToInt] at *; omega))⟩) (show (16 - (x3_4 + 1).toInt).toNat < (16 - x3_4.toInt).toNat from (by first | omega | decide | (simp only [Int32.le_iff_toInt_le, Int32.lt_iff_toInt_lt, ti_add, ti_sub, ti_mul, Int32.reduceToInt] at *; omega)))
          · exact ih66_4 (x3_4 + 1, σ4) (show Tr [] σ0 σ4 ∧ (0 ≤ (x3_4 + 1).toInt ∧ (x3_4 + 1).toInt ≤ 16 ∧ 1 ≤ ((1 : Int32) <<< ((x1 - 6) &&& 31)).toInt ∧ ((1 : Int32) <<< ((x1 - 6) &&& 31)).toInt ≤ 1024) from ⟨hT, (by first | omega | decide | (simp only [Int32.le_iff_toInt_le, Int32.lt_iff_toInt_lt, ti_add, ti_sub, ti_mul, Int32.reduceToInt] at *; omega))⟩) (show (16 - (x3_4 + 1).toInt).toNat < (16 - x3_4.toInt).toNat from (by first | omega | decide | (simp only [Int32.le_iff_toInt_le, Int32.lt_iff_toInt_lt, ti_add, ti_sub, ti_mul, Int32.reduceToInt] at *; omega)))
      · refine ok_lp (fun t : Int32 × zS => Tr [] σ0 (t.2) ∧ (0 ≤ (t.1).toInt)) (fun t : Int32 × zS => ((16 : Int32).toInt - (t.1).toInt).toNat) (fun again12 t hI ih19_12 => ?_) N _ (show Tr [] σ0 σ0 ∧ (0 ≤ (0 : Int32).toInt) from ⟨hT, (by first | omega | decide | (simp only [Int32.le_iff_toInt_le, Int32.lt_iff_toInt_lt, ti_add, ti_sub, ti_mul, Int32.reduceToInt] at *; omega))⟩) (show ((16 : Int32).toInt - (0 : Int32).toInt).toNat < N from (by first | omega | decide | (simp only [Int32.le_iff_toInt_le, Int32.lt_iff_toInt_lt, ti_add, ti_sub, ti_mul, Int32.reduceToInt] at *; omega)))
        obtain ⟨x2_12, σ12⟩ := t
        have hI : Tr [] σ0 σ12 ∧ (0 ≤ x2_12.toInt) := hI
        obtain ⟨hT, hI12⟩ := hI
        rw [F_X2_raise_19.eq_1]
        refine ok_if (fun hc13 => ?_) (fun hc13 => ?_)
        · exact ok_some ⟨hT, trivial⟩
        · refine ok_gR hT h_x0 (fam_R hR h_x0).1 ?_
          refine ok_aJ (fam_R hR h_x0).2 (by first | omega | decide | (simp only [Int32.le_iff_toInt_le, Int32.lt_iff_toInt_lt, ti_add, ti_sub, ti_mul, Int32.reduceToInt] at *; omega)) (by first | omega | decide | (simp only [Int32.le_iff_toInt_le, Int32.lt_iff_toInt_lt, ti_add, ti_sub, ti_mul, Int32.reduceToInt] at *; omega)) ?_
          generalize σ12.2.1 (x0 + 1) (Int32.toNatClampNeg (x2_12)) = v15
          refine ok_gR hT h_x0 (fam_R hR h_x0).1 ?_
          refine ok_aJ (fam_R hR h_x0).2 (by first | omega | decide | (simp only [Int32.le_iff_toInt_le, Int32.lt_iff_toInt_lt, ti_add, ti_sub, ti_mul, Int32.reduceToInt] at *; omega)) (by first | omega | decide | (simp only [Int32.le_iff_toInt_le, Int32.lt_iff_toInt_lt, ti_add, ti_sub, ti_mul, Int32.reduceToInt] at *; omega)) ?_
          generalize σ12.2.1 (x0 + 1) (Int32.toNatClampNeg (x2_12)) = v17
          refine ok_aW (by first | omega | decide | (simp only [Int32.le_iff_toInt_le, Int32.lt_iff_toInt_lt, ti_add, ti_sub, ti_mul, Int32.reduceToInt] at *; omega)) (by first | omega | decide | (simp only [Int32.le_iff_toInt_le, Int32.lt_iff_toInt_lt, ti_add, ti_sub, ti_mul, Int32.reduceToInt] at *; omega)) ?_
          generalize zWo (Int32.toNatClampNeg (x1)) = v18
          refine ok_sJ hT (fam_R hR h_x0).2 (by first | omega | decide | (simp only [Int32.le_iff_toInt_le, Int32.lt_iff_toInt_lt, ti_add, ti_sub, ti_mul, Int32.reduceToInt] at *; omega)) (by first | omega | decide | (simp only [Int32.le_iff_toInt_le, Int32.lt_iff_toInt_lt, ti_add, ti_sub, ti_mul, Int32.reduceToInt] at *; omega)) (fun σ19 eσ19 hOσ19 hT => ?_)
          exact ih19_12 (x2_12 + 1, σ19) (show Tr [] σ0 σ19 ∧ (0 ≤ (x2_12 + 1).toInt) from ⟨hT, (by first | omega | decide | (simp only [Int32.le_iff_toInt_le, Int32.lt_iff_toInt_lt, ti_add, ti_sub, ti_mul, Int32.reduceToInt] at *; omega))⟩) (show ((16 : Int32).toInt - (x2_12 + 1).toInt).toNat < ((16 : Int32).toInt - x2_12.toInt).toNat from (by first | omega | decide | (simp only [Int32.le_iff_toInt_le, Int32.lt_iff_toInt_lt, ti_add, ti_sub, ti_mul, Int32.reduceToInt] at *; omega)))
    · exact ok_some ⟨hT, trivial⟩

set_option maxHeartbeats 4000000 in
set_option maxRecDepth 100000 in
theorem s_X2_lower {N : Nat} (hN : 1048576 ≤ N) {x0 : Nat} {x1 : Int32} {σ0 : zS}  (hR : RF σ0.2.2) (h_x0 : (zKd x0).1 = 2) : Ok (f_X2_lower N x0 x1 σ0) (fun r => Tr [] σ0 r.2 ∧ (True)) := by
  have hT : Tr [] σ0 σ0 := Tr.rf
  rw [f_X2_lower.eq_1]
  refine ok_if (fun hc1 => ?_) (fun hc1 => ?_)
  · exact ok_some ⟨hT, trivial⟩
  · refine ok_if (fun hc2 => ?_) (fun hc2 => ?_)
    · refine ok_if (fun hc3 => ?_) (fun hc3 => ?_)
      · have q1 := ti_one10 (x := x1 - 6) (by simp only [ti_sub, Int32.le_iff_toInt_le, Int32.lt_iff_toInt_lt, Int32.reduceToInt] at *; omega) (by simp only [ti_sub, Int32.le_iff_toInt_le, Int32.lt_iff_toInt_lt, Int32.reduceToInt] at *; omega)
        refine ok_lp (fun t : Int32 × zS => Tr [] σ0 (t.2) ∧ (0 ≤ (t.1).toInt ∧ (t.1).toInt ≤ 16 ∧ 1 ≤ ((1 : Int32) <<< ((x1 - 6) &&& 31)).toInt ∧ ((1 : Int32) <<< ((x1 - 6) &&& 31)).toInt ≤ 1024)) (fun t : Int32 × zS => (16 - (t.1).toInt).toNat) (fun again4 t hI ih66_4 => ?_) N _ (show Tr [] σ0 σ0 ∧ (0 ≤ (0 : Int32).toInt ∧ (0 : Int32).toInt ≤ 16 ∧ 1 ≤ ((1 : Int32) <<< ((x1 - 6) &&& 31)).toInt ∧ ((1 : Int32) <<< ((x1 - 6) &&& 31)).toInt ≤ 1024) from ⟨hT, (by first | omega | decide | (simp only [Int32.le_iff_toInt_le, Int32.lt_iff_toInt_lt, ti_add, ti_sub, ti_mul, Int32.reduceToInt] at *; omega))⟩) (show (16 - (0 : Int32).toInt).toNat < N from (by first | omega | decide | (simp only [Int32.le_iff_toInt_le, Int32.lt_iff_toInt_lt, ti_add, ti_sub, ti_mul, Int32.reduceToInt] at *; omega)))
        obtain ⟨x3_4, σ4⟩ := t
        have hI : Tr [] σ0 σ4 ∧ (0 ≤ x3_4.toInt ∧ x3_4.toInt ≤ 16 ∧ 1 ≤ ((1 : Int32) <<< ((x1 - 6) &&& 31)).toInt ∧ ((1 : Int32) <<< ((x1 - 6) &&& 31)).toInt ≤ 1024) := hI
        obtain ⟨hT, hI4⟩ := hI
        rw [F_X2_lower_66.eq_1]
        refine ok_if (fun hc5 => ?_) (fun hc5 => ?_)
        · exact ok_some ⟨hT, trivial⟩
        · refine ok_if (fun hc6 => ?_) (fun hc6 => ?_)
          · refine ok_gR hT h_x0 (fam_R hR h_x0).1 ?_
            refine ok_aJ (fam_R hR h_x0).2 (by first | omega | decide | (simp only [Int32.le_iff_toInt_le, Int32.lt_iff_toInt_lt, ti_add, ti_sub, ti_mul, Int32.reduceToInt] at *; omega)) (by first | omega | decide | (simp only [Int32.le_iff_toInt_le, Int32.lt_iff_toInt_lt, ti_add, ti_sub, ti_mul, Int32.reduceToInt] at *; omega)) ?_
            generalize σ4.2.1 (x0 + 1) (Int32.toNatClampNeg (x3_4)) = v8
            refine ok_gR hT h_x0 (fam_R hR h_x0).1 ?_
            refine ok_aJ (fam_R hR h_x0).2 (by first | omega | decide | (simp only [Int32.le_iff_toInt_le, Int32.lt_iff_toInt_lt, ti_add, ti_sub, ti_mul, Int32.reduceToInt] at *; omega)) (by first | omega | decide | (simp only [Int32.le_iff_toInt_le, Int32.lt_iff_toInt_lt, ti_add, ti_sub, ti_mul, Int32.reduceToInt] at *; omega)) ?_
            generalize σ4.2.1 (x0 + 1) (Int32.toNatClampNeg (x3_4 + ((1 : Int32) <<< ((x1 - 6) &&& 31)))) = v10
            refine ok_sJ hT (fam_R hR h_x0).2 (by first | omega | decide | (simp only [Int32.le_iff_toInt_le, Int32.lt_iff_toInt_lt, ti_add, ti_sub, ti_mul, Int32.reduceToInt] at *; omega)) (by first | omega | decide | (simp only [Int32.le_iff_toInt_le, Int32.lt_iff_toInt_lt, ti_add, ti_sub, ti_mul, Int32.reduceToInt] at *; omega)) (fun σ11 eσ11 hOσ11 hT => ?_)
            exact ih66_4 (x3_4 + 1, σ11) (show Tr [] σ0 σ11 ∧ (0 ≤ (x3_4 + 1).toInt ∧ (x3_4 + 1).toInt ≤ 16 ∧ 1 ≤ ((1 : Int32) <<< ((x1 - 6) &&& 31)).toInt ∧ ((1 : Int32) <<< ((x1 - 6) &&& 31)).toInt ≤ 1024) from ⟨hT, (by first | omega | decide | (simp only [Int32.le_iff_toInt_le, Int32.lt_iff_toInt_lt, ti_add, ti_sub, ti_mul, Int32.reduceToInt] at *; omega))⟩) (show (16 - (x3_4 + 1).toInt).toNat < (16 - x3_4.toInt).toNat from (by first | omega | decide | (simp only [Int32.le_iff_toInt_le, Int32.lt_iff_toInt_lt, ti_add, ti_sub, ti_mul, Int32.reduceToInt] at *; omega)))
          · exact ih66_4 (x3_4 + 1, σ4) (show Tr [] σ0 σ4 ∧ (0 ≤ (x3_4 + 1).toInt ∧ (x3_4 + 1).toInt ≤ 16 ∧ 1 ≤ ((1 : Int32) <<< ((x1 - 6) &&& 31)).toInt ∧ ((1 : Int32) <<< ((x1 - 6) &&& 31)).toInt ≤ 1024) from ⟨hT, (by first | omega | decide | (simp only [Int32.le_iff_toInt_le, Int32.lt_iff_toInt_lt, ti_add, ti_sub, ti_mul, Int32.reduceToInt] at *; omega))⟩) (show (16 - (x3_4 + 1).toInt).toNat < (16 - x3_4.toInt).toNat from (by first | omega | decide | (simp only [Int32.le_iff_toInt_le, Int32.lt_iff_toInt_lt, ti_add, ti_sub, ti_mul, Int32.reduceToInt] at *; omega)))
      · refine ok_lp (fun t : Int32 × zS => Tr [] σ0 (t.2) ∧ (0 ≤ (t.1).toInt)) (fun t : Int32 × zS => ((16 : Int32).toInt - (t.1).toInt).toNat) (fun again12 t hI ih19_12 => ?_) N _ (show Tr [] σ0 σ0 ∧ (0 ≤ (0 : Int32).toInt) from ⟨hT, (by first | omega | decide | (simp only [Int32.le_iff_toInt_le, Int32.lt_iff_toInt_lt, ti_add, ti_sub, ti_mul, Int32.reduceToInt] at *; omega))⟩) (show ((16 : Int32).toInt - (0 : Int32).toInt).toNat < N from (by first | omega | decide | (simp only [Int32.le_iff_toInt_le, Int32.lt_iff_toInt_lt, ti_add, ti_sub, ti_mul, Int32.reduceToInt] at *; omega)))
        obtain ⟨x2_12, σ12⟩ := t
        have hI : Tr [] σ0 σ12 ∧ (0 ≤ x2_12.toInt) := hI
        obtain ⟨hT, hI12⟩ := hI
        rw [F_X2_lower_19.eq_1]
        refine ok_if (fun hc13 => ?_) (fun hc13 => ?_)
        · exact ok_some ⟨hT, trivial⟩
        · refine ok_gR hT h_x0 (fam_R hR h_x0).1 ?_
          refine ok_aJ (fam_R hR h_x0).2 (by first | omega | decide | (simp only [Int32.le_iff_toInt_le, Int32.lt_iff_toInt_lt, ti_add, ti_sub, ti_mul, Int32.reduceToInt] at *; omega)) (by first | omega | decide | (simp only [Int32.le_iff_toInt_le, Int32.lt_iff_toInt_lt, ti_add, ti_sub, ti_mul, Int32.reduceToInt] at *; omega)) ?_
          generalize σ12.2.1 (x0 + 1) (Int32.toNatClampNeg (x2_12)) = v15
          refine ok_gR hT h_x0 (fam_R hR h_x0).1 ?_
          refine ok_aJ (fam_R hR h_x0).2 (by first | omega | decide | (simp only [Int32.le_iff_toInt_le, Int32.lt_iff_toInt_lt, ti_add, ti_sub, ti_mul, Int32.reduceToInt] at *; omega)) (by first | omega | decide | (simp only [Int32.le_iff_toInt_le, Int32.lt_iff_toInt_lt, ti_add, ti_sub, ti_mul, Int32.reduceToInt] at *; omega)) ?_
          generalize σ12.2.1 (x0 + 1) (Int32.toNatClampNeg (x2_12)) = v17
          refine ok_aW (by first | omega | decide | (simp only [Int32.le_iff_toInt_le, Int32.lt_iff_toInt_lt, ti_add, ti_sub, ti_mul, Int32.reduceToInt] at *; omega)) (by first | omega | decide | (simp only [Int32.le_iff_toInt_le, Int32.lt_iff_toInt_lt, ti_add, ti_sub, ti_mul, Int32.reduceToInt] at *; omega)) ?_
          generalize zWo (Int32.toNatClampNeg (x1)) = v18
          refine ok_sJ hT (fam_R hR h_x0).2 (by first | omega | decide | (simp only [Int32.le_iff_toInt_le, Int32.lt_iff_toInt_lt, ti_add, ti_sub, ti_mul, Int32.reduceToInt] at *; omega)) (by first | omega | decide | (simp only [Int32.le_iff_toInt_le, Int32.lt_iff_toInt_lt, ti_add, ti_sub, ti_mul, Int32.reduceToInt] at *; omega)) (fun σ19 eσ19 hOσ19 hT => ?_)
          exact ih19_12 (x2_12 + 1, σ19) (show Tr [] σ0 σ19 ∧ (0 ≤ (x2_12 + 1).toInt) from ⟨hT, (by first | omega | decide | (simp only [Int32.le_iff_toInt_le, Int32.lt_iff_toInt_lt, ti_add, ti_sub, ti_mul, Int32.reduceToInt] at *; omega))⟩) (show ((16 : Int32).toInt - (x2_12 + 1).toInt).toNat < ((16 : Int32).toInt - x2_12.toInt).toNat from (by first | omega | decide | (simp only [Int32.le_iff_toInt_le, Int32.lt_iff_toInt_lt, ti_add, ti_sub, ti_mul, Int32.reduceToInt] at *; omega)))
    · exact ok_some ⟨hT, trivial⟩

set_option maxHeartbeats 4000000 in
set_option maxRecDepth 100000 in
theorem s_X2_flip {N : Nat} (hN : 1048576 ≤ N) {x0 : Nat} {x1 : Int32} {σ0 : zS}  (hR : RF σ0.2.2) (h_x0 : (zKd x0).1 = 2) : Ok (f_X2_flip N x0 x1 σ0) (fun r => Tr [] σ0 r.2 ∧ (True)) := by
  have hT : Tr [] σ0 σ0 := Tr.rf
  rw [f_X2_flip.eq_1]
  refine ok_if (fun hc1 => ?_) (fun hc1 => ?_)
  · exact ok_some ⟨hT, trivial⟩
  · refine ok_if (fun hc2 => ?_) (fun hc2 => ?_)
    · refine ok_if (fun hc3 => ?_) (fun hc3 => ?_)
      · have q1 := ti_one10 (x := x1 - 6) (by simp only [ti_sub, Int32.le_iff_toInt_le, Int32.lt_iff_toInt_lt, Int32.reduceToInt] at *; omega) (by simp only [ti_sub, Int32.le_iff_toInt_le, Int32.lt_iff_toInt_lt, Int32.reduceToInt] at *; omega)
        refine ok_lp (fun t : Int32 × zS => Tr [] σ0 (t.2) ∧ (0 ≤ (t.1).toInt ∧ (t.1).toInt ≤ 16 ∧ 1 ≤ ((1 : Int32) <<< ((x1 - 6) &&& 31)).toInt ∧ ((1 : Int32) <<< ((x1 - 6) &&& 31)).toInt ≤ 1024)) (fun t : Int32 × zS => (16 - (t.1).toInt).toNat) (fun again4 t hI ih80_4 => ?_) N _ (show Tr [] σ0 σ0 ∧ (0 ≤ (0 : Int32).toInt ∧ (0 : Int32).toInt ≤ 16 ∧ 1 ≤ ((1 : Int32) <<< ((x1 - 6) &&& 31)).toInt ∧ ((1 : Int32) <<< ((x1 - 6) &&& 31)).toInt ≤ 1024) from ⟨hT, (by first | omega | decide | (simp only [Int32.le_iff_toInt_le, Int32.lt_iff_toInt_lt, ti_add, ti_sub, ti_mul, Int32.reduceToInt] at *; omega))⟩) (show (16 - (0 : Int32).toInt).toNat < N from (by first | omega | decide | (simp only [Int32.le_iff_toInt_le, Int32.lt_iff_toInt_lt, ti_add, ti_sub, ti_mul, Int32.reduceToInt] at *; omega)))
        obtain ⟨x3_4, σ4⟩ := t
        have hI : Tr [] σ0 σ4 ∧ (0 ≤ x3_4.toInt ∧ x3_4.toInt ≤ 16 ∧ 1 ≤ ((1 : Int32) <<< ((x1 - 6) &&& 31)).toInt ∧ ((1 : Int32) <<< ((x1 - 6) &&& 31)).toInt ≤ 1024) := hI
        obtain ⟨hT, hI4⟩ := hI
        rw [F_X2_flip_80.eq_1]
        refine ok_if (fun hc5 => ?_) (fun hc5 => ?_)
        · exact ok_some ⟨hT, trivial⟩
        · refine ok_if (fun hc6 => ?_) (fun hc6 => ?_)
          · refine ok_gR hT h_x0 (fam_R hR h_x0).1 ?_
            refine ok_aJ (fam_R hR h_x0).2 (by first | omega | decide | (simp only [Int32.le_iff_toInt_le, Int32.lt_iff_toInt_lt, ti_add, ti_sub, ti_mul, Int32.reduceToInt] at *; omega)) (by first | omega | decide | (simp only [Int32.le_iff_toInt_le, Int32.lt_iff_toInt_lt, ti_add, ti_sub, ti_mul, Int32.reduceToInt] at *; omega)) ?_
            generalize σ4.2.1 (x0 + 1) (Int32.toNatClampNeg (x3_4)) = v8
            refine ok_gR hT h_x0 (fam_R hR h_x0).1 ?_
            refine ok_gR hT h_x0 (fam_R hR h_x0).1 ?_
            refine ok_aJ (fam_R hR h_x0).2 (by first | omega | decide | (simp only [Int32.le_iff_toInt_le, Int32.lt_iff_toInt_lt, ti_add, ti_sub, ti_mul, Int32.reduceToInt] at *; omega)) (by first | omega | decide | (simp only [Int32.le_iff_toInt_le, Int32.lt_iff_toInt_lt, ti_add, ti_sub, ti_mul, Int32.reduceToInt] at *; omega)) ?_
            generalize σ4.2.1 (x0 + 1) (Int32.toNatClampNeg (x3_4 + ((1 : Int32) <<< ((x1 - 6) &&& 31)))) = v11
            refine ok_sJ hT (fam_R hR h_x0).2 (by first | omega | decide | (simp only [Int32.le_iff_toInt_le, Int32.lt_iff_toInt_lt, ti_add, ti_sub, ti_mul, Int32.reduceToInt] at *; omega)) (by first | omega | decide | (simp only [Int32.le_iff_toInt_le, Int32.lt_iff_toInt_lt, ti_add, ti_sub, ti_mul, Int32.reduceToInt] at *; omega)) (fun σ12 eσ12 hOσ12 hT => ?_)
            refine ok_gR hT h_x0 (fam_R hR h_x0).1 ?_
            refine ok_sJ hT (fam_R hR h_x0).2 (by first | omega | decide | (simp only [Int32.le_iff_toInt_le, Int32.lt_iff_toInt_lt, ti_add, ti_sub, ti_mul, Int32.reduceToInt] at *; omega)) (by first | omega | decide | (simp only [Int32.le_iff_toInt_le, Int32.lt_iff_toInt_lt, ti_add, ti_sub, ti_mul, Int32.reduceToInt] at *; omega)) (fun σ14 eσ14 hOσ14 hT => ?_)
            exact ih80_4 (x3_4 + 1, σ14) (show Tr [] σ0 σ14 ∧ (0 ≤ (x3_4 + 1).toInt ∧ (x3_4 + 1).toInt ≤ 16 ∧ 1 ≤ ((1 : Int32) <<< ((x1 - 6) &&& 31)).toInt ∧ ((1 : Int32) <<< ((x1 - 6) &&& 31)).toInt ≤ 1024) from ⟨hT, (by first | omega | decide | (simp only [Int32.le_iff_toInt_le, Int32.lt_iff_toInt_lt, ti_add, ti_sub, ti_mul, Int32.reduceToInt] at *; omega))⟩) (show (16 - (x3_4 + 1).toInt).toNat < (16 - x3_4.toInt).toNat from (by first | omega | decide | (simp only [Int32.le_iff_toInt_le, Int32.lt_iff_toInt_lt, ti_add, ti_sub, ti_mul, Int32.reduceToInt] at *; omega)))
          · exact ih80_4 (x3_4 + 1, σ4) (show Tr [] σ0 σ4 ∧ (0 ≤ (x3_4 + 1).toInt ∧ (x3_4 + 1).toInt ≤ 16 ∧ 1 ≤ ((1 : Int32) <<< ((x1 - 6) &&& 31)).toInt ∧ ((1 : Int32) <<< ((x1 - 6) &&& 31)).toInt ≤ 1024) from ⟨hT, (by first | omega | decide | (simp only [Int32.le_iff_toInt_le, Int32.lt_iff_toInt_lt, ti_add, ti_sub, ti_mul, Int32.reduceToInt] at *; omega))⟩) (show (16 - (x3_4 + 1).toInt).toNat < (16 - x3_4.toInt).toNat from (by first | omega | decide | (simp only [Int32.le_iff_toInt_le, Int32.lt_iff_toInt_lt, ti_add, ti_sub, ti_mul, Int32.reduceToInt] at *; omega)))
      · refine ok_lp (fun t : Int32 × zS => Tr [] σ0 (t.2) ∧ (0 ≤ (t.1).toInt)) (fun t : Int32 × zS => ((16 : Int32).toInt - (t.1).toInt).toNat) (fun again15 t hI ih23_15 => ?_) N _ (show Tr [] σ0 σ0 ∧ (0 ≤ (0 : Int32).toInt) from ⟨hT, (by first | omega | decide | (simp only [Int32.le_iff_toInt_le, Int32.lt_iff_toInt_lt, ti_add, ti_sub, ti_mul, Int32.reduceToInt] at *; omega))⟩) (show ((16 : Int32).toInt - (0 : Int32).toInt).toNat < N from (by first | omega | decide | (simp only [Int32.le_iff_toInt_le, Int32.lt_iff_toInt_lt, ti_add, ti_sub, ti_mul, Int32.reduceToInt] at *; omega)))
        obtain ⟨x3_15, σ15⟩ := t
        have hI : Tr [] σ0 σ15 ∧ (0 ≤ x3_15.toInt) := hI
        obtain ⟨hT, hI15⟩ := hI
        rw [F_X2_flip_23.eq_1]
        refine ok_if (fun hc16 => ?_) (fun hc16 => ?_)
        · exact ok_some ⟨hT, trivial⟩
        · refine ok_gR hT h_x0 (fam_R hR h_x0).1 ?_
          refine ok_gR hT h_x0 (fam_R hR h_x0).1 ?_
          refine ok_aJ (fam_R hR h_x0).2 (by first | omega | decide | (simp only [Int32.le_iff_toInt_le, Int32.lt_iff_toInt_lt, ti_add, ti_sub, ti_mul, Int32.reduceToInt] at *; omega)) (by first | omega | decide | (simp only [Int32.le_iff_toInt_le, Int32.lt_iff_toInt_lt, ti_add, ti_sub, ti_mul, Int32.reduceToInt] at *; omega)) ?_
          generalize σ15.2.1 (x0 + 1) (Int32.toNatClampNeg (x3_15)) = v19
          refine ok_aW (by first | omega | decide | (simp only [Int32.le_iff_toInt_le, Int32.lt_iff_toInt_lt, ti_add, ti_sub, ti_mul, Int32.reduceToInt] at *; omega)) (by first | omega | decide | (simp only [Int32.le_iff_toInt_le, Int32.lt_iff_toInt_lt, ti_add, ti_sub, ti_mul, Int32.reduceToInt] at *; omega)) ?_
          generalize zWo (Int32.toNatClampNeg (x1)) = v20
          refine ok_gR hT h_x0 (fam_R hR h_x0).1 ?_
          refine ok_aJ (fam_R hR h_x0).2 (by first | omega | decide | (simp only [Int32.le_iff_toInt_le, Int32.lt_iff_toInt_lt, ti_add, ti_sub, ti_mul, Int32.reduceToInt] at *; omega)) (by first | omega | decide | (simp only [Int32.le_iff_toInt_le, Int32.lt_iff_toInt_lt, ti_add, ti_sub, ti_mul, Int32.reduceToInt] at *; omega)) ?_
          generalize σ15.2.1 (x0 + 1) (Int32.toNatClampNeg (x3_15)) = v22
          refine ok_aW (by first | omega | decide | (simp only [Int32.le_iff_toInt_le, Int32.lt_iff_toInt_lt, ti_add, ti_sub, ti_mul, Int32.reduceToInt] at *; omega)) (by first | omega | decide | (simp only [Int32.le_iff_toInt_le, Int32.lt_iff_toInt_lt, ti_add, ti_sub, ti_mul, Int32.reduceToInt] at *; omega)) ?_
          generalize zWo (Int32.toNatClampNeg (x1)) = v23
          refine ok_sJ hT (fam_R hR h_x0).2 (by first | omega | decide | (simp only [Int32.le_iff_toInt_le, Int32.lt_iff_toInt_lt, ti_add, ti_sub, ti_mul, Int32.reduceToInt] at *; omega)) (by first | omega | decide | (simp only [Int32.le_iff_toInt_le, Int32.lt_iff_toInt_lt, ti_add, ti_sub, ti_mul, Int32.reduceToInt] at *; omega)) (fun σ24 eσ24 hOσ24 hT => ?_)
          exact ih23_15 (x3_15 + 1, σ24) (show Tr [] σ0 σ24 ∧ (0 ≤ (x3_15 + 1).toInt) from ⟨hT, (by first | omega | decide | (simp only [Int32.le_iff_toInt_le, Int32.lt_iff_toInt_lt, ti_add, ti_sub, ti_mul, Int32.reduceToInt] at *; omega))⟩) (show ((16 : Int32).toInt - (x3_15 + 1).toInt).toNat < ((16 : Int32).toInt - x3_15.toInt).toNat from (by first | omega | decide | (simp only [Int32.le_iff_toInt_le, Int32.lt_iff_toInt_lt, ti_add, ti_sub, ti_mul, Int32.reduceToInt] at *; omega)))
    · exact ok_some ⟨hT, trivial⟩

set_option maxHeartbeats 4000000 in
set_option maxRecDepth 100000 in
theorem s_X2_tallyBelow {N : Nat} (hN : 1048576 ≤ N) {x0 : Nat} {x1 : Int32} {σ0 : zS}  (hR : RF σ0.2.2) (h_x0 : (zKd x0).1 = 2) : Ok (f_X2_tallyBelow N x0 x1 σ0) (fun r => Tr [] σ0 r.2 ∧ (True)) := by
  have hT : Tr [] σ0 σ0 := Tr.rf
  rw [f_X2_tallyBelow.eq_1]
  refine ok_lp (fun t : Int32 × Int32 × zS => Tr [] σ0 (t.2.2) ∧ (0 ≤ (t.2.1).toInt)) (fun t : Int32 × Int32 × zS => ((16 : Int32).toInt - (t.2.1).toInt).toNat) (fun again1 t hI ih4_1 => ?_) N _ (show Tr [] σ0 σ0 ∧ (0 ≤ (0 : Int32).toInt) from ⟨hT, (by first | omega | decide | (simp only [Int32.le_iff_toInt_le, Int32.lt_iff_toInt_lt, ti_add, ti_sub, ti_mul, Int32.reduceToInt] at *; omega))⟩) (show ((16 : Int32).toInt - (0 : Int32).toInt).toNat < N from (by first | omega | decide | (simp only [Int32.le_iff_toInt_le, Int32.lt_iff_toInt_lt, ti_add, ti_sub, ti_mul, Int32.reduceToInt] at *; omega)))
  obtain ⟨x2_1, x3_1, σ1⟩ := t
  have hI : Tr [] σ0 σ1 ∧ (0 ≤ x3_1.toInt) := hI
  obtain ⟨hT, hI1⟩ := hI
  rw [F_X2_tallyBelow_4.eq_1]
  refine ok_if (fun hc2 => ?_) (fun hc2 => ?_)
  · rw [J_X2_tallyBelow_36.eq_1]
    refine ok_if (fun hc3 => ?_) (fun hc3 => ?_)
    · exact ok_some ⟨hT, trivial⟩
    · refine ok_if (fun hc4 => ?_) (fun hc4 => ?_)
      · exact ok_some ⟨hT, trivial⟩
      · refine ok_gR hT h_x0 (fam_R hR h_x0).1 ?_
        refine ok_aJ (fam_R hR h_x0).2 (by have q9 := ti_shr x1 (n := 6) (by decide); rw [show Int32.ofNat 6 = 6 from rfl] at q9; simp only [Int32.le_iff_toInt_le, Int32.lt_iff_toInt_lt, ti_add, ti_sub, ti_mul, Int32.reduceToInt] at *; omega) (by have q9 := ti_shr x1 (n := 6) (by decide); rw [show Int32.ofNat 6 = 6 from rfl] at q9; simp only [Int32.le_iff_toInt_le, Int32.lt_iff_toInt_lt, ti_add, ti_sub, ti_mul, Int32.reduceToInt] at *; omega) ?_
        generalize σ1.2.1 (x0 + 1) (Int32.toNatClampNeg ((x1 : Int32) >>> (6 &&& 31))) = v6
        refine ok_zbT (Q := fun V σ => True) hT (s_J13_bitCount_95d88 hN (hR.tr hT) ) (fun _ h9 => absurd h9 List.not_mem_nil) (fun v7 σ8 hOσ8 hT hqv7 => ?_)
        exact ok_some ⟨hT, trivial⟩
  · refine ok_if (fun hc9 => ?_) (fun hc9 => ?_)
    · rw [J_X2_tallyBelow_36.eq_1]
      refine ok_if (fun hc10 => ?_) (fun hc10 => ?_)
      · exact ok_some ⟨hT, trivial⟩
      · refine ok_if (fun hc11 => ?_) (fun hc11 => ?_)
        · exact ok_some ⟨hT, trivial⟩
        · refine ok_gR hT h_x0 (fam_R hR h_x0).1 ?_
          refine ok_aJ (fam_R hR h_x0).2 (by have q9 := ti_shr x1 (n := 6) (by decide); rw [show Int32.ofNat 6 = 6 from rfl] at q9; simp only [Int32.le_iff_toInt_le, Int32.lt_iff_toInt_lt, ti_add, ti_sub, ti_mul, Int32.reduceToInt] at *; omega) (by have q9 := ti_shr x1 (n := 6) (by decide); rw [show Int32.ofNat 6 = 6 from rfl] at q9; simp only [Int32.le_iff_toInt_le, Int32.lt_iff_toInt_lt, ti_add, ti_sub, ti_mul, Int32.reduceToInt] at *; omega) ?_
          generalize σ1.2.1 (x0 + 1) (Int32.toNatClampNeg ((x1 : Int32) >>> (6 &&& 31))) = v13
          refine ok_zbT (Q := fun V σ => True) hT (s_J13_bitCount_95d88 hN (hR.tr hT) ) (fun _ h9 => absurd h9 List.not_mem_nil) (fun v14 σ15 hOσ15 hT hqv14 => ?_)
          exact ok_some ⟨hT, trivial⟩
    · refine ok_gR hT h_x0 (fam_R hR h_x0).1 ?_
      refine ok_aJ (fam_R hR h_x0).2 (by have q9 := ti_shr x1 (n := 6) (by decide); rw [show Int32.ofNat 6 = 6 from rfl] at q9; simp only [Int32.le_iff_toInt_le, Int32.lt_iff_toInt_lt, ti_add, ti_sub, ti_mul, Int32.reduceToInt] at *; omega) (by have q9 := ti_shr x1 (n := 6) (by decide); rw [show Int32.ofNat 6 = 6 from rfl] at q9; simp only [Int32.le_iff_toInt_le, Int32.lt_iff_toInt_lt, ti_add, ti_sub, ti_mul, Int32.reduceToInt] at *; omega) ?_
      generalize σ1.2.1 (x0 + 1) (Int32.toNatClampNeg (x3_1)) = v17
      refine ok_zbT (Q := fun V σ => True) hT (s_J13_bitCount_95d88 hN (hR.tr hT) ) (fun _ h9 => absurd h9 List.not_mem_nil) (fun v18 σ19 hOσ19 hT hqv18 => ?_)
      exact ih4_1 (x2_1 + v18, x3_1 + 1, σ19) (show Tr [] σ0 σ19 ∧ (0 ≤ (x3_1 + 1).toInt) from ⟨hT, (by first | omega | decide | (simp only [Int32.le_iff_toInt_le, Int32.lt_iff_toInt_lt, ti_add, ti_sub, ti_mul, Int32.reduceToInt] at *; omega))⟩) (show ((16 : Int32).toInt - (x3_1 + 1).toInt).toNat < ((16 : Int32).toInt - x3_1.toInt).toNat from (by first | omega | decide | (simp only [Int32.le_iff_toInt_le, Int32.lt_iff_toInt_lt, ti_add, ti_sub, ti_mul, Int32.reduceToInt] at *; omega)))

set_option maxHeartbeats 4000000 in
set_option maxRecDepth 100000 in
theorem s_X2_pickInWord {N : Nat} (hN : 1048576 ≤ N) {x0 : Nat} {x1 : Int64} {x3 : Int32} {σ0 : zS}  (hR : RF σ0.2.2) (h_x0 : (zKd x0).1 = 2) : Ok (f_X2_pickInWord N x0 x1 x3 σ0) (fun r => Tr [] σ0 r.2 ∧ (True)) := by
  have hT : Tr [] σ0 σ0 := Tr.rf
  rw [f_X2_pickInWord.eq_1]
  refine ok_lp (fun t : Int64 × Int32 × zS => Tr [] σ0 (t.2.2) ∧ (0 ≤ (t.2.1).toInt)) (fun t : Int64 × Int32 × zS => (64 - (t.2.1).toInt).toNat) (fun again1 t hI ih6_1 => ?_) N _ (show Tr [] σ0 σ0 ∧ (0 ≤ (0 : Int32).toInt) from ⟨hT, (by first | omega | decide | (simp only [Int32.le_iff_toInt_le, Int32.lt_iff_toInt_lt, ti_add, ti_sub, ti_mul, Int32.reduceToInt] at *; omega))⟩) (show (64 - (0 : Int32).toInt).toNat < N from (by first | omega | decide | (simp only [Int32.le_iff_toInt_le, Int32.lt_iff_toInt_lt, ti_add, ti_sub, ti_mul, Int32.reduceToInt] at *; omega)))
  obtain ⟨x4_1, x6_1, σ1⟩ := t
  have hI : Tr [] σ0 σ1 ∧ (0 ≤ x6_1.toInt) := hI
  obtain ⟨hT, hI1⟩ := hI
  rw [F_X2_pickInWord_6.eq_1]
  refine ok_if (fun hc2 => ?_) (fun hc2 => ?_)
  · refine ok_zbT (Q := fun V σ => 0 ≤ V.toInt ∧ V.toInt ≤ 64 ∧ (¬ x4_1 = 0 → V.toInt ≤ 63)) hT (s_J13_numberOfTrailingZeros_95d88 hN (hR.tr hT) ) (fun _ h9 => absurd h9 List.not_mem_nil) (fun v3 σ4 hOσ4 hT hqv3 => ?_)
    have hqv3 : 0 ≤ v3.toInt ∧ v3.toInt ≤ 64 ∧ (¬ x4_1 = 0 → v3.toInt ≤ 63) := hqv3
    exact ok_some ⟨hT, trivial⟩
  · refine ok_if (fun hc5 => ?_) (fun hc5 => ?_)
    · refine ok_zbT (Q := fun V σ => 0 ≤ V.toInt ∧ V.toInt ≤ 64 ∧ (¬ x4_1 = 0 → V.toInt ≤ 63)) hT (s_J13_numberOfTrailingZeros_95d88 hN (hR.tr hT) ) (fun _ h9 => absurd h9 List.not_mem_nil) (fun v6 σ7 hOσ7 hT hqv6 => ?_)
      have hqv6 : 0 ≤ v6.toInt ∧ v6.toInt ≤ 64 ∧ (¬ x4_1 = 0 → v6.toInt ≤ 63) := hqv6
      exact ok_some ⟨hT, trivial⟩
    · exact ih6_1 (x4_1 &&& (x4_1 - 1), x6_1 + 1, σ1) (show Tr [] σ0 σ1 ∧ (0 ≤ (x6_1 + 1).toInt) from ⟨hT, (by first | omega | decide | (simp only [Int32.le_iff_toInt_le, Int32.lt_iff_toInt_lt, ti_add, ti_sub, ti_mul, Int32.reduceToInt] at *; omega))⟩) (show (64 - (x6_1 + 1).toInt).toNat < (64 - x6_1.toInt).toNat from (by first | omega | decide | (simp only [Int32.le_iff_toInt_le, Int32.lt_iff_toInt_lt, ti_add, ti_sub, ti_mul, Int32.reduceToInt] at *; omega)))

set_option maxHeartbeats 4000000 in
set_option maxRecDepth 100000 in
theorem s_X2_pick {N : Nat} (hN : 1048576 ≤ N) {x0 : Nat} {x1 : Int32} {σ0 : zS}  (hR : RF σ0.2.2) (h_x0 : (zKd x0).1 = 2) : Ok (f_X2_pick N x0 x1 σ0) (fun r => Tr [] σ0 r.2 ∧ (True)) := by
  have hT : Tr [] σ0 σ0 := Tr.rf
  rw [f_X2_pick.eq_1]
  refine ok_if (fun hc1 => ?_) (fun hc1 => ?_)
  · refine ok_lp (fun t : Int32 × Int32 × zS => Tr [] σ0 (t.2.2) ∧ (0 ≤ (t.2.1).toInt)) (fun t : Int32 × Int32 × zS => (16 - (t.2.1).toInt).toNat) (fun again2 t hI ih10_2 => ?_) N _ (show Tr [] σ0 σ0 ∧ (0 ≤ (0 : Int32).toInt) from ⟨hT, (by first | omega | decide | (simp only [Int32.le_iff_toInt_le, Int32.lt_iff_toInt_lt, ti_add, ti_sub, ti_mul, Int32.reduceToInt] at *; omega))⟩) (show (16 - (0 : Int32).toInt).toNat < N from (by first | omega | decide | (simp only [Int32.le_iff_toInt_le, Int32.lt_iff_toInt_lt, ti_add, ti_sub, ti_mul, Int32.reduceToInt] at *; omega)))
    obtain ⟨x2_2, x3_2, σ2⟩ := t
    have hI : Tr [] σ0 σ2 ∧ (0 ≤ x3_2.toInt) := hI
    obtain ⟨hT, hI2⟩ := hI
    rw [F_X2_pick_10.eq_1]
    refine ok_if (fun hc3 => ?_) (fun hc3 => ?_)
    · exact ok_some ⟨hT, trivial⟩
    · refine ok_gR hT h_x0 (fam_R hR h_x0).1 ?_
      refine ok_aJ (fam_R hR h_x0).2 (by first | omega | decide | (simp only [Int32.le_iff_toInt_le, Int32.lt_iff_toInt_lt, ti_add, ti_sub, ti_mul, Int32.reduceToInt] at *; omega)) (by first | omega | decide | (simp only [Int32.le_iff_toInt_le, Int32.lt_iff_toInt_lt, ti_add, ti_sub, ti_mul, Int32.reduceToInt] at *; omega)) ?_
      generalize σ2.2.1 (x0 + 1) (Int32.toNatClampNeg (x3_2)) = v5
      refine ok_zbT (Q := fun V σ => True) hT (s_J13_bitCount_95d88 hN (hR.tr hT) ) (fun _ h9 => absurd h9 List.not_mem_nil) (fun v6 σ7 hOσ7 hT hqv6 => ?_)
      refine ok_if (fun hc8 => ?_) (fun hc8 => ?_)
      · exact ih10_2 (x2_2 - v6, x3_2 + 1, σ7) (show Tr [] σ0 σ7 ∧ (0 ≤ (x3_2 + 1).toInt) from ⟨hT, (by first | omega | decide | (simp only [Int32.le_iff_toInt_le, Int32.lt_iff_toInt_lt, ti_add, ti_sub, ti_mul, Int32.reduceToInt] at *; omega))⟩) (show (16 - (x3_2 + 1).toInt).toNat < (16 - x3_2.toInt).toNat from (by first | omega | decide | (simp only [Int32.le_iff_toInt_le, Int32.lt_iff_toInt_lt, ti_add, ti_sub, ti_mul, Int32.reduceToInt] at *; omega)))
      · refine ok_gR hT h_x0 (fam_R hR h_x0).1 ?_
        refine ok_aJ (fam_R hR h_x0).2 (by first | omega | decide | (simp only [Int32.le_iff_toInt_le, Int32.lt_iff_toInt_lt, ti_add, ti_sub, ti_mul, Int32.reduceToInt] at *; omega)) (by first | omega | decide | (simp only [Int32.le_iff_toInt_le, Int32.lt_iff_toInt_lt, ti_add, ti_sub, ti_mul, Int32.reduceToInt] at *; omega)) ?_
        generalize σ7.2.1 (x0 + 1) (Int32.toNatClampNeg (x3_2)) = v10
        refine ok_gC h_x0 ?_
        refine ok_zbT (Q := fun V σ => True) hT (s_X2_pickInWord hN (hR.tr hT) h_x0) (fun _ h9 => absurd h9 List.not_mem_nil) (fun v11 σ12 hOσ12 hT hqv11 => ?_)
        exact ok_some ⟨hT, trivial⟩
  · exact ok_some ⟨hT, trivial⟩

set_option maxHeartbeats 4000000 in
set_option maxRecDepth 100000 in
theorem s_X2_firstFrom {N : Nat} (hN : 1048576 ≤ N) {x0 : Nat} {x1 : Int32} {σ0 : zS}  (hR : RF σ0.2.2) (h_x0 : (zKd x0).1 = 2) : Ok (f_X2_firstFrom N x0 x1 σ0) (fun r => Tr [] σ0 r.2 ∧ (-1 ≤ r.1.toInt ∧ r.1.toInt ≤ 1023)) := by
  have hT : Tr [] σ0 σ0 := Tr.rf
  rw [f_X2_firstFrom.eq_1]
  refine ok_if (fun hc1 => ?_) (fun hc1 => ?_)
  · exact ok_some ⟨hT, (show -1 ≤ (-1 : Int32).toInt ∧ (-1 : Int32).toInt ≤ 1023 from by first | omega | decide | (simp only [Int32.le_iff_toInt_le, Int32.lt_iff_toInt_lt, ti_add, ti_sub, ti_mul, Int32.reduceToInt] at *; omega))⟩
  · refine ok_if (fun hc2 => ?_) (fun hc2 => ?_)
    · refine ok_gR hT h_x0 (fam_R hR h_x0).1 ?_
      refine ok_aJ (fam_R hR h_x0).2 (by have q9 := ti_shr x1 (n := 6) (by decide); rw [show Int32.ofNat 6 = 6 from rfl] at q9; simp only [Int32.le_iff_toInt_le, Int32.lt_iff_toInt_lt, ti_add, ti_sub, ti_mul, Int32.reduceToInt] at *; omega) (by have q9 := ti_shr x1 (n := 6) (by decide); rw [show Int32.ofNat 6 = 6 from rfl] at q9; simp only [Int32.le_iff_toInt_le, Int32.lt_iff_toInt_lt, ti_add, ti_sub, ti_mul, Int32.reduceToInt] at *; omega) ?_
      generalize σ0.2.1 (x0 + 1) (Int32.toNatClampNeg ((x1 : Int32) >>> (6 &&& 31))) = v4
      refine ok_lp (fun t : Int64 × Int32 × zS => Tr [] σ0 (t.2.2) ∧ (0 ≤ (t.2.1).toInt)) (fun t : Int64 × Int32 × zS => (16 - (t.2.1).toInt).toNat) (fun again5 t hI ih38_5 => ?_) N _ (show Tr [] σ0 σ0 ∧ (0 ≤ ((x1 : Int32) >>> (6 &&& 31)).toInt) from ⟨hT, (by have q9 := ti_shr x1 (n := 6) (by decide); rw [show Int32.ofNat 6 = 6 from rfl] at q9; simp only [Int32.le_iff_toInt_le, Int32.lt_iff_toInt_lt, ti_add, ti_sub, ti_mul, Int32.reduceToInt] at *; omega)⟩) (show (16 - ((x1 : Int32) >>> (6 &&& 31)).toInt).toNat < N from (by have q9 := ti_shr x1 (n := 6) (by decide); rw [show Int32.ofNat 6 = 6 from rfl] at q9; simp only [Int32.le_iff_toInt_le, Int32.lt_iff_toInt_lt, ti_add, ti_sub, ti_mul, Int32.reduceToInt] at *; omega))
      obtain ⟨x2_5, x4_5, σ5⟩ := t
      have hI : Tr [] σ0 σ5 ∧ (0 ≤ x4_5.toInt) := hI
      obtain ⟨hT, hI5⟩ := hI
      rw [F_X2_firstFrom_38.eq_1]
      refine ok_if (fun hc6 => ?_) (fun hc6 => ?_)
      · exact ok_some ⟨hT, (show -1 ≤ (-1 : Int32).toInt ∧ (-1 : Int32).toInt ≤ 1023 from by first | omega | decide | (simp only [Int32.le_iff_toInt_le, Int32.lt_iff_toInt_lt, ti_add, ti_sub, ti_mul, Int32.reduceToInt] at *; omega))⟩
      · refine ok_if (fun hc7 => ?_) (fun hc7 => ?_)
        · rw [J_X2_firstFrom_62.eq_1]
          refine ok_if (fun hc8 => ?_) (fun hc8 => ?_)
          · exact ih38_5 (x2_5, x4_5 + 1, σ5) (show Tr [] σ0 σ5 ∧ (0 ≤ (x4_5 + 1).toInt) from ⟨hT, (by first | omega | decide | (simp only [Int32.le_iff_toInt_le, Int32.lt_iff_toInt_lt, ti_add, ti_sub, ti_mul, Int32.reduceToInt] at *; omega))⟩) (show (16 - (x4_5 + 1).toInt).toNat < (16 - x4_5.toInt).toNat from (by first | omega | decide | (simp only [Int32.le_iff_toInt_le, Int32.lt_iff_toInt_lt, ti_add, ti_sub, ti_mul, Int32.reduceToInt] at *; omega)))
          · have qne := lgc0 hc8
            refine ok_zbT (Q := fun V σ => 0 ≤ V.toInt ∧ V.toInt ≤ 64 ∧ (¬ x2_5 = 0 → V.toInt ≤ 63)) hT (s_J13_numberOfTrailingZeros_95d88 hN (hR.tr hT) ) (fun _ h9 => absurd h9 List.not_mem_nil) (fun v9 σ10 hOσ10 hT hqv9 => ?_)
            have hqv9 : 0 ≤ v9.toInt ∧ v9.toInt ≤ 64 ∧ (¬ x2_5 = 0 → v9.toInt ≤ 63) := hqv9
            have q63 := hqv9.2.2 qne
            exact ok_some ⟨hT, (show -1 ≤ ((x4_5 * 64) + v9).toInt ∧ ((x4_5 * 64) + v9).toInt ≤ 1023 from by first | omega | decide | (simp only [Int32.le_iff_toInt_le, Int32.lt_iff_toInt_lt, ti_add, ti_sub, ti_mul, Int32.reduceToInt] at *; omega))⟩
        · refine ok_gR hT h_x0 (fam_R hR h_x0).1 ?_
          refine ok_aJ (fam_R hR h_x0).2 (by simp only [Int32.le_iff_toInt_le, Int32.lt_iff_toInt_lt, ti_add, ti_sub, ti_mul, Int32.reduceToInt] at *; omega) (by simp only [Int32.le_iff_toInt_le, Int32.lt_iff_toInt_lt, ti_add, ti_sub, ti_mul, Int32.reduceToInt] at *; omega) ?_
          generalize σ5.2.1 (x0 + 1) (Int32.toNatClampNeg (x4_5)) = v12
          rw [J_X2_firstFrom_62.eq_1]
          refine ok_if (fun hc13 => ?_) (fun hc13 => ?_)
          · exact ih38_5 (v12, x4_5 + 1, σ5) (show Tr [] σ0 σ5 ∧ (0 ≤ (x4_5 + 1).toInt) from ⟨hT, (by first | omega | decide | (simp only [Int32.le_iff_toInt_le, Int32.lt_iff_toInt_lt, ti_add, ti_sub, ti_mul, Int32.reduceToInt] at *; omega))⟩) (show (16 - (x4_5 + 1).toInt).toNat < (16 - x4_5.toInt).toNat from (by first | omega | decide | (simp only [Int32.le_iff_toInt_le, Int32.lt_iff_toInt_lt, ti_add, ti_sub, ti_mul, Int32.reduceToInt] at *; omega)))
          · have qne := lgc0 hc13
            refine ok_zbT (Q := fun V σ => 0 ≤ V.toInt ∧ V.toInt ≤ 64 ∧ (¬ v12 = 0 → V.toInt ≤ 63)) hT (s_J13_numberOfTrailingZeros_95d88 hN (hR.tr hT) ) (fun _ h9 => absurd h9 List.not_mem_nil) (fun v14 σ15 hOσ15 hT hqv14 => ?_)
            have hqv14 : 0 ≤ v14.toInt ∧ v14.toInt ≤ 64 ∧ (¬ v12 = 0 → v14.toInt ≤ 63) := hqv14
            have q63 := hqv14.2.2 qne
            exact ok_some ⟨hT, (show -1 ≤ ((x4_5 * 64) + v14).toInt ∧ ((x4_5 * 64) + v14).toInt ≤ 1023 from by first | omega | decide | (simp only [Int32.le_iff_toInt_le, Int32.lt_iff_toInt_lt, ti_add, ti_sub, ti_mul, Int32.reduceToInt] at *; omega))⟩
    · exact ok_some ⟨hT, (show -1 ≤ (-1 : Int32).toInt ∧ (-1 : Int32).toInt ≤ 1023 from by first | omega | decide | (simp only [Int32.le_iff_toInt_le, Int32.lt_iff_toInt_lt, ti_add, ti_sub, ti_mul, Int32.reduceToInt] at *; omega))⟩

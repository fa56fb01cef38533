/-! ===== counting ===== -/
/-- how many below n -/
def ct (p : Nat → Bool) : Nat → Nat
  | 0 => 0
  | n + 1 => ct p n + (if p n = true then 1 else 0)
theorem ct_c {p q : Nat → Bool} : ∀ {n : Nat}, (∀ k, k < n → p k = q k) → ct p n = ct q n
  | 0, _ => rfl
  | n + 1, h => by
    show ct p n + _ = ct q n + _
    rw [ct_c (fun k hk => h k (by omega)), h n (by omega)]
theorem ct_split (p : Nat → Bool) (m : Nat) : ∀ n, ct p (m + n) = ct p m + ct (fun k => p (m + k)) n
  | 0 => rfl
  | n + 1 => by
    show ct p (m + n) + _ = ct p m + (ct (fun k => p (m + k)) n + _)
    rw [ct_split p m n, Nat.add_assoc]
    rfl
theorem ct_le (p : Nat → Bool) : ∀ n, ct p n ≤ n
  | 0 => Nat.le_refl _
  | n + 1 => by
    show ct p n + _ ≤ n + 1
    have := ct_le p n
    split <;> omega
theorem ct_mono (p : Nat → Bool) {m n : Nat} (h : m ≤ n) : ct p m ≤ ct p n := by
  obtain ⟨d, rfl⟩ : ∃ d, n = m + d := ⟨n - m, by omega⟩
  rw [ct_split]; omega
theorem ct_0 {p : Nat → Bool} : ∀ {n : Nat}, (∀ k, k < n → p k = false) → ct p n = 0
  | 0, _ => rfl
  | n + 1, h => by
    show ct p n + _ = 0
    rw [ct_0 (fun k hk => h k (by omega)), h n (by omega)]; rfl
theorem ct_z {p : Nat → Bool} : ∀ {n : Nat}, ct p n = 0 → ∀ k, k < n → p k = false := by
  intro n
  induction n with
  | zero => intro _ k hk; omega
  | succ n ih =>
    intro h k hk
    have h : ct p n + (if p n = true then 1 else 0) = 0 := h
    by_cases e : k = n
    · rw [e]
      cases q : p n with
      | false => rfl
      | true => rw [q, if_pos rfl] at h; omega
    · exact ih (by omega) k (by omega)
/-! the long's count of bits -/
theorem and_cat {k a b r t : Nat} (hr : r < 2 ^ k) (ht : t < 2 ^ k) : (2 ^ k * a + r) &&& (2 ^ k * b + t) = 2 ^ k * (a &&& b) + (r &&& t) := by
  apply Nat.eq_of_testBit_eq
  intro j
  rw [Nat.testBit_and, Nat.testBit_two_pow_mul_add a hr, Nat.testBit_two_pow_mul_add b ht, Nat.testBit_two_pow_mul_add _ (Nat.and_lt_two_pow r ht)]
  split
  · rw [Nat.testBit_and]
  · rw [Nat.testBit_and]
/-- the same byte, n times -/
def rep (c : Nat) : Nat → Nat
  | 0 => 0
  | n + 1 => 256 * rep c n + c
def w1 (n X : Nat) : Nat := X - ((X / 2) &&& rep 85 n)
def w2 (n X : Nat) : Nat := (X &&& rep 51 n) + ((X / 4) &&& rep 51 n)
def w3 (n X : Nat) : Nat := (X + X / 16) &&& rep 15 n
def b1 (d : Nat) : Nat := d - ((d / 2) &&& 85)
def b2 (d : Nat) : Nat := (d &&& 51) + ((d / 4) &&& 51)
def b3 (d : Nat) : Nat := d % 16 + d / 16
theorem f1 : ∀ e, e < 2 → ∀ d, d < 256 → ((128 * e + d / 2) &&& 85) = ((d / 2) &&& 85) ∧ ((d / 2) &&& 85) ≤ d ∧ b1 d < 256 := by decide +kernel
theorem f2 : ∀ e, e < 4 → ∀ d, d < 256 → ((64 * e + d / 4) &&& 51) = ((d / 4) &&& 51) ∧ b2 d < 256 := by decide +kernel
theorem f2b : ∀ d, d < 256 → (b2 d % 16 ≤ 6 ∧ b2 d / 16 ≤ 6) := by decide +kernel
theorem f12 : ∀ d, d < 256 → (b2 (b1 d) % 16 ≤ 4 ∧ b2 (b1 d) / 16 ≤ 4 ∧ b3 (b2 (b1 d)) = ct (fun i => d.testBit i) 8) := by decide +kernel
theorem f3 : ∀ e, e < 5 → ∀ a, a < 5 → ∀ b, b < 5 → ((16 * a + b + 16 * e + a) &&& 15) = a + b ∧ 16 * a + b + 16 * e + a < 256 := by decide +kernel
theorem and256 {a b r t : Nat} (hr : r < 256) (ht : t < 256) : (256 * a + r) &&& (256 * b + t) = 256 * (a &&& b) + (r &&& t) := and_cat (k := 8) hr ht
theorem w1_le : ∀ n X, ((X / 2) &&& rep 85 n) ≤ X
  | n, X => Nat.le_trans Nat.and_le_left (Nat.div_le_self _ _)
theorem w1_s (n X : Nat) : w1 (n + 1) X = 256 * w1 n (X / 256) + b1 (X % 256) := by
  obtain ⟨q, d, hd, rfl⟩ : ∃ q d, d < 256 ∧ X = 256 * q + d := ⟨X / 256, X % 256, Nat.mod_lt _ (by decide), by omega⟩
  have h := f1 (q % 2) (by omega) d hd
  have l := w1_le n q
  unfold w1 b1
  show 256 * q + d - ((256 * q + d) / 2 &&& (256 * rep 85 n + 85)) = _
  rw [show (256 * q + d) / 2 = 256 * (q / 2) + (128 * (q % 2) + d / 2) by omega, and256 (by omega) (by decide), h.1, show (256 * q + d) / 256 = q by omega, show (256 * q + d) % 256 = d by omega]
  omega
theorem w2_s (n X : Nat) : w2 (n + 1) X = 256 * w2 n (X / 256) + b2 (X % 256) := by
  obtain ⟨q, d, hd, rfl⟩ : ∃ q d, d < 256 ∧ X = 256 * q + d := ⟨X / 256, X % 256, Nat.mod_lt _ (by decide), by omega⟩
  have h := f2 (q % 4) (by omega) d hd
  unfold w2 b2
  show ((256 * q + d) &&& (256 * rep 51 n + 51)) + ((256 * q + d) / 4 &&& (256 * rep 51 n + 51)) = _
  rw [show (256 * q + d) / 4 = 256 * (q / 4) + (64 * (q % 4) + d / 4) by omega, and256 hd (by decide), and256 (by omega) (by decide), h.1, show (256 * q + d) / 256 = q by omega, show (256 * q + d) % 256 = d by omega]
  omega
/-- every nibble is at most four -/
def nb : Nat → Nat → Prop
  | 0, _ => True
  | n + 1, X => (X % 16 ≤ 4 ∧ X % 256 / 16 ≤ 4) ∧ nb n (X / 256)
theorem nb_lo {n X : Nat} (h : nb n X) (hX : X < 256 ^ n) : X % 16 ≤ 4 := by
  cases n with
  | zero => have : X < 1 := hX; omega
  | succ n => exact h.1.1
theorem w3_s (n X : Nat) (h : nb (n + 1) X) (hX : X < 256 ^ (n + 1)) : w3 (n + 1) X = 256 * w3 n (X / 256) + b3 (X % 256) := by
  obtain ⟨q, d, hd, rfl⟩ : ∃ q d, d < 256 ∧ X = 256 * q + d := ⟨X / 256, X % 256, Nat.mod_lt _ (by decide), by omega⟩
  obtain ⟨⟨h1, h2⟩, h3⟩ := h
  rw [show (256 * q + d) / 256 = q by omega] at h3 ⊢
  rw [show (256 * q + d) % 256 = d by omega] at h2 ⊢
  have hq : q < 256 ^ n := by rw [Nat.pow_succ] at hX; omega
  have q4 := nb_lo h3 hq
  obtain ⟨a, b, ha, hb, rfl⟩ : ∃ a b, a < 5 ∧ b < 5 ∧ d = 16 * a + b := ⟨d / 16, d % 16, by omega, by omega, by omega⟩
  have f := f3 (q % 16) (by omega) a ha b hb
  unfold w3 b3
  show ((256 * q + (16 * a + b)) + (256 * q + (16 * a + b)) / 16) &&& (256 * rep 15 n + 15) = _
  rw [show (256 * q + (16 * a + b)) + (256 * q + (16 * a + b)) / 16 = 256 * (q + q / 16) + (16 * a + b + 16 * (q % 16) + a) by omega, and256 f.2 (by decide), f.1]
  omega
/-- the counts of the bytes, a byte each -/
def cb : Nat → Nat → Nat
  | 0, _ => 0
  | n + 1, X => 256 * cb n (X / 256) + ct (fun i => (X % 256).testBit i) 8
theorem w0 {n X : Nat} (hX : X < 256 ^ n) : w1 n X < 256 ^ n := Nat.lt_of_le_of_lt (Nat.sub_le _ _) hX
theorem w123 : ∀ n X, X < 256 ^ n → w3 n (w2 n (w1 n X)) = cb n X ∧ nb n (w2 n (w1 n X)) ∧ w2 n (w1 n X) < 256 ^ n
  | 0, X, h => by
    have h : X < 1 := h
    have : X = 0 := by omega
    subst this
    exact ⟨rfl, trivial, by decide⟩
  | n + 1, X, h => by
    have h256 : 256 ^ (n + 1) = 256 * 256 ^ n := by rw [Nat.pow_succ, Nat.mul_comm]
    have ih := w123 n (X / 256) (by rw [h256] at h; omega)
    have d := Nat.mod_lt X (show 0 < 256 by decide)
    have fb := (f1 0 (by decide) (X % 256) d).2.2
    have f := f12 (X % 256) d
    have fc := (f2 0 (by decide) _ fb).2
    have e1 := w1_s n X
    have e2 : w2 (n + 1) (w1 (n + 1) X) = 256 * w2 n (w1 n (X / 256)) + b2 (b1 (X % 256)) := by
      rw [w2_s, e1, show (256 * w1 n (X / 256) + b1 (X % 256)) / 256 = w1 n (X / 256) by omega, show (256 * w1 n (X / 256) + b1 (X % 256)) % 256 = b1 (X % 256) by omega]
    have lt : w2 (n + 1) (w1 (n + 1) X) < 256 ^ (n + 1) := by rw [e2, h256]; omega
    have nn : nb (n + 1) (w2 (n + 1) (w1 (n + 1) X)) := by
      show (w2 (n + 1) (w1 (n + 1) X) % 16 ≤ 4 ∧ w2 (n + 1) (w1 (n + 1) X) % 256 / 16 ≤ 4) ∧ nb n (w2 (n + 1) (w1 (n + 1) X) / 256)
      rw [e2, show (256 * w2 n (w1 n (X / 256)) + b2 (b1 (X % 256))) / 256 = w2 n (w1 n (X / 256)) by omega, show (256 * w2 n (w1 n (X / 256)) + b2 (b1 (X % 256))) % 256 = b2 (b1 (X % 256)) by omega]
      exact ⟨⟨by omega, f.2.1⟩, ih.2.1⟩
    refine ⟨?_, nn, lt⟩
    rw [w3_s n _ nn lt, e2, show (256 * w2 n (w1 n (X / 256)) + b2 (b1 (X % 256))) / 256 = w2 n (w1 n (X / 256)) by omega, show (256 * w2 n (w1 n (X / 256)) + b2 (b1 (X % 256))) % 256 = b2 (b1 (X % 256)) by omega, ih.1, f.2.2]
    rfl
def tn (x : Int64) : Nat := x.toBitVec.toNat
theorem tn_lt (x : Int64) : tn x < 18446744073709551616 := x.toBitVec.isLt
theorem tn_and (x y : Int64) : tn (x &&& y) = tn x &&& tn y := by
  unfold tn; rw [Int64.toBitVec_and, BitVec.toNat_and]
theorem tn_add (x y : Int64) : tn (x + y) = (tn x + tn y) % 18446744073709551616 := by
  unfold tn; rw [Int64.toBitVec_add, BitVec.toNat_add]
theorem tn_sub {x y : Int64} (h : tn y ≤ tn x) : tn (x - y) = tn x - tn y := by
  have a := tn_lt x
  have b := tn_lt y
  unfold tn at *
  rw [Int64.toBitVec_sub, BitVec.toNat_sub]
  omega
theorem tn_zul (x : Int64) {n : Nat} (hn : n < 64) : tn (zul x (nI n)) = tn x / 2 ^ n := by
  unfold tn
  rw [zul_bv x hn, BitVec.toNat_ushiftRight, Nat.shiftRight_eq_div_pow]
theorem sum8 (W p0 p1 p2 p3 p4 p5 p6 p7 : Nat) (h0 : p0 ≤ 8) (h1 : p1 ≤ 8) (h2 : p2 ≤ 8) (h3 : p3 ≤ 8) (h4 : p4 ≤ 8) (h5 : p5 ≤ 8) (h6 : p6 ≤ 8) (h7 : p7 ≤ 8) (hW : W = 256 * (256 * (256 * (256 * (256 * (256 * (256 * p7 + p6) + p5) + p4) + p3) + p2) + p1) + p0) : W + W / 256 < 18446744073709551616 ∧ (W + W / 256) + (W + W / 256) / 65536 < 18446744073709551616 ∧ ((W + W / 256) + (W + W / 256) / 65536) + ((W + W / 256) + (W + W / 256) / 65536) / 4294967296 < 18446744073709551616 ∧ (((W + W / 256) + (W + W / 256) / 65536) + ((W + W / 256) + (W + W / 256) / 65536) / 4294967296) % 128 = p0 + p1 + p2 + p3 + p4 + p5 + p6 + p7 := by
  obtain ⟨V, hV⟩ : ∃ V, V = W + W / 256 := ⟨_, rfl⟩
  rw [← hV]
  have v : V = 256 * (256 * (256 * (256 * (256 * (256 * (256 * p7 + (p6 + p7)) + (p5 + p6)) + (p4 + p5)) + (p3 + p4)) + (p2 + p3)) + (p1 + p2)) + (p0 + p1) := by omega
  clear hV hW
  obtain ⟨U, hU⟩ : ∃ U, U = V + V / 65536 := ⟨_, rfl⟩
  rw [← hU]
  have u : U = 256 * (256 * (256 * (256 * (256 * (256 * (256 * p7 + (p6 + p7)) + (p5 + p6 + p7)) + (p4 + p5 + (p6 + p7))) + (p3 + p4 + (p5 + p6))) + (p2 + p3 + (p4 + p5))) + (p1 + p2 + (p3 + p4))) + (p0 + p1 + (p2 + p3)) := by omega
  have v64 : V < 18446744073709551616 := by omega
  clear hU v
  obtain ⟨A, hA⟩ : ∃ A, A = 256 * (256 * (256 * p7 + (p6 + p7)) + (p5 + p6 + p7)) + (p4 + p5 + (p6 + p7)) := ⟨_, rfl⟩
  obtain ⟨R, hR⟩ : ∃ R, R = 256 * (256 * (256 * (p3 + p4 + (p5 + p6)) + (p2 + p3 + (p4 + p5))) + (p1 + p2 + (p3 + p4))) + (p0 + p1 + (p2 + p3)) := ⟨_, rfl⟩
  have u2 : U = 4294967296 * A + R := by omega
  clear u
  have rb : R < 4294967296 := by omega
  have ab : A < 1000000000 := by omega
  have d : U / 4294967296 = A := by omega
  rw [d]
  obtain ⟨M, hM⟩ : ∃ M, R = 256 * M + (p0 + p1 + (p2 + p3)) := ⟨_, hR⟩
  obtain ⟨M2, hM2⟩ : ∃ M2, A = 256 * M2 + (p4 + p5 + (p6 + p7)) := ⟨_, hA⟩
  clear hR hA
  exact ⟨v64, by omega, by omega, by omega⟩
theorem tt32 (x : Int64) : ((Int64.toInt32 x) &&& 127).toInt = ((tn x % 128 : Nat) : Int) := by
  have e : ((Int64.toInt32 x) &&& 127).toBitVec.toNat = tn x % 128 := by
    rw [Int32.toBitVec_and, BitVec.toNat_and]
    have a : (Int64.toInt32 x).toBitVec.toNat = tn x % 4294967296 := by
      show (x.toBitVec.signExtend 32).toNat = _
      rw [BitVec.signExtend_eq_setWidth_of_le _ (by decide), BitVec.toNat_setWidth]; rfl
    have b : (127 : Int32).toBitVec.toNat = 2 ^ 7 - 1 := rfl
    rw [a, b, Nat.and_two_pow_sub_one_eq_mod]
    omega
  rw [ti_toNat (by rw [e]; omega), e]
theorem bitCount (N : Nat) (x : Int64) (σ : zS) : ∃ v : Int32, f_J13_bitCount_95d88 N x σ = some (v, σ) ∧ v.toInt = (ct (fun i => x.toBitVec.getLsbD i) 64 : Int) := by
  refine ⟨_, f_J13_bitCount_95d88.eq_1 N x σ, ?_⟩
  have m5 : tn 6148914691236517205 = rep 85 8 := by decide +kernel
  have m3 : tn 3689348814741910323 = rep 51 8 := by decide +kernel
  have mF : tn 1085102592571150095 = rep 15 8 := by decide +kernel
  have h64 : (256 : Nat) ^ 8 = 18446744073709551616 := by decide
  have hx := tn_lt x
  obtain ⟨y, hy⟩ : ∃ y, y = x - (zul x 1 &&& 6148914691236517205) := ⟨_, rfl⟩
  rw [← hy]
  have ty : tn y = w1 8 (tn x) := by
    have s : tn (zul x 1 &&& 6148914691236517205) = (tn x / 2) &&& rep 85 8 := by
      rw [tn_and, m5]
      have := tn_zul x (n := 1) (by decide)
      rw [show nI 1 = 1 from rfl] at this
      rw [this]
    rw [hy, tn_sub (by rw [s]; exact w1_le 8 _), s]; rfl
  obtain ⟨z, hz⟩ : ∃ z, z = (y &&& 3689348814741910323) + (zul y 2 &&& 3689348814741910323) := ⟨_, rfl⟩
  rw [← hz]
  have w := w123 8 (tn x) (by rw [h64]; exact hx)
  have tz : tn z = w2 8 (tn y) := by
    have s : tn (zul y 2 &&& 3689348814741910323) = (tn y / 4) &&& rep 51 8 := by
      rw [tn_and, m3]
      have := tn_zul y (n := 2) (by decide)
      rw [show nI 2 = 2 from rfl] at this
      rw [this]
    rw [hz, tn_add, tn_and, m3, s]
    have l := w.2.2
    rw [← ty, h64] at l
    exact Nat.mod_eq_of_lt l
  rw [← ty, ← tz] at w
  obtain ⟨v, hv⟩ : ∃ v, v = (z + zul z 4) &&& 1085102592571150095 := ⟨_, rfl⟩
  rw [← hv]
  have l16 : tn z + tn z / 16 < 18446744073709551616 := by
    have n8 := w.2.1
    have l := w.2.2
    rw [h64] at l
    have : nb 8 (tn z) := n8
    have top : tn z / 72057594037927936 % 256 / 16 ≤ 4 := by
      have t : nb 1 (tn z / 256 / 256 / 256 / 256 / 256 / 256 / 256) := this.2.2.2.2.2.2.2
      have := t.1.2
      omega
    omega
  have tv : tn v = cb 8 (tn x) := by
    have := tn_zul z (n := 4) (by decide)
    rw [show nI 4 = 4 from rfl] at this
    rw [hv, tn_and, mF, tn_add, this, ← w.1]
    rw [Nat.mod_eq_of_lt l16]; rfl
  have s8 := sum8 (tn v) (ct (fun i => (tn x % 256).testBit i) 8) (ct (fun i => (tn x / 256 % 256).testBit i) 8) (ct (fun i => (tn x / 256 / 256 % 256).testBit i) 8) (ct (fun i => (tn x / 256 / 256 / 256 % 256).testBit i) 8) (ct (fun i => (tn x / 256 / 256 / 256 / 256 % 256).testBit i) 8) (ct (fun i => (tn x / 256 / 256 / 256 / 256 / 256 % 256).testBit i) 8) (ct (fun i => (tn x / 256 / 256 / 256 / 256 / 256 / 256 % 256).testBit i) 8) (ct (fun i => (tn x / 256 / 256 / 256 / 256 / 256 / 256 / 256 % 256).testBit i) 8) (ct_le _ _) (ct_le _ _) (ct_le _ _) (ct_le _ _) (ct_le _ _) (ct_le _ _) (ct_le _ _) (ct_le _ _) (by rw [tv]; show 256 * (256 * (256 * (256 * (256 * (256 * (256 * (256 * 0 + _) + _) + _) + _) + _) + _) + _) + _ = _; omega)
  have z8 := tn_zul v (n := 8) (by decide)
  rw [show nI 8 = 8 from rfl] at z8
  have a1 : tn (v + zul v 8) = tn v + tn v / 256 := by rw [tn_add, z8]; exact Nat.mod_eq_of_lt s8.1
  have z16 := tn_zul (v + zul v 8) (n := 16) (by decide)
  rw [show nI 16 = 16 from rfl, a1] at z16
  have a2 : tn ((v + zul v 8) + zul (v + zul v 8) 16) = (tn v + tn v / 256) + (tn v + tn v / 256) / 65536 := by rw [tn_add, z16, a1]; exact Nat.mod_eq_of_lt s8.2.1
  have z32 := tn_zul ((v + zul v 8) + zul (v + zul v 8) 16) (n := 32) (by decide)
  rw [show nI 32 = 32 from rfl, a2] at z32
  have a3 : tn (((v + zul v 8) + zul (v + zul v 8) 16) + zul ((v + zul v 8) + zul (v + zul v 8) 16) 32) = ((tn v + tn v / 256) + (tn v + tn v / 256) / 65536) + ((tn v + tn v / 256) + (tn v + tn v / 256) / 65536) / 4294967296 := by rw [tn_add, z32, a2]; exact Nat.mod_eq_of_lt s8.2.2.1
  rw [tt32, a3, s8.2.2.2]
  have tb : ∀ (a i : Nat), i < 8 → (a % 256).testBit i = a.testBit i := fun a i hi => by
    rw [show 256 = 2 ^ 8 from rfl, Nat.testBit_mod_two_pow, decide_eq_true hi, Bool.true_and]
  have sh : ∀ (m i : Nat), i < 8 → (tn x / 2 ^ (8 * m) % 256).testBit i = x.toBitVec.getLsbD (8 * m + i) := fun m i hi => by
    rw [tb _ _ hi, ← Nat.shiftRight_eq_div_pow, Nat.testBit_shiftRight]; rfl
  have c := fun m => ct_c (n := 8) (p := fun i => (tn x / 2 ^ (8 * m) % 256).testBit i) (q := fun i => x.toBitVec.getLsbD (8 * m + i)) (fun i hi => sh m i hi)
  have e : ∀ m, ct (fun i => x.toBitVec.getLsbD i) (8 * m + 8) = ct (fun i => x.toBitVec.getLsbD i) (8 * m) + ct (fun i => (tn x / 2 ^ (8 * m) % 256).testBit i) 8 := fun m => by
    rw [c m, ct_split]
  have d : ∀ a b : Nat, tn x / a / b = tn x / (a * b) := fun a b => Nat.div_div_eq_div_mul _ _ _
  have e0 := e 0
  have e1 := e 1
  have e2 := e 2
  have e3 := e 3
  have e4 := e 4
  have e5 := e 5
  have e6 := e 6
  have e7 := e 7
  simp only [Nat.reduceMul, Nat.reduceAdd, Nat.reducePow, Nat.div_one] at e0 e1 e2 e3 e4 e5 e6 e7
  have c0 : ct (fun i => x.toBitVec.getLsbD i) 0 = 0 := rfl
  simp only [Nat.div_div_eq_div_mul, Nat.reduceMul]
  rw [e7, e6, e5, e4, e3, e2, e1, e0, c0]
  omega

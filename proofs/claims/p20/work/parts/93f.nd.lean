/-! ===== the store of nodes by their sets ===== -/
def un (m : Nat → Nat) (k v : Nat) : Nat → Nat := fun j => if j = k then v else m j
def unD (D : Nat → Nat → Bool) (k : Nat) (v : Nat → Bool) : Nat → Nat → Bool := fun j => if j = k then v else D j
theorem un_s {m : Nat → Nat} {k v : Nat} : un m k v k = v := if_pos rfl
theorem un_n {m : Nat → Nat} {k v j : Nat} (h : j ≠ k) : un m k v j = m j := if_neg h
theorem unD_s {D : Nat → Nat → Bool} {k : Nat} {v : Nat → Bool} : unD D k v k = v := if_pos rfl
theorem unD_n {D : Nat → Nat → Bool} {k j : Nat} {v : Nat → Bool} (h : j ≠ k) : unD D k v j = D j := if_neg h
/-- the sets of nodes below u; of place k the first m k blocks have theirs -/
def ND (Gr : Nat → Nat → Bool) (n u : Nat) (m pl lo hi : Nat → Nat) (D : Nat → Nat → Bool) : Prop :=
  (2 ≤ u ∧ (∀ t, D 0 t = false) ∧ ∀ t, D 1 t = decide (t = 0)) ∧
  (∀ i j, i < u → j < u → (∀ t, D i t = D j t) → i = j) ∧
  (∀ i, 2 ≤ i → i < u → (pl i < n ∧ lo i < u ∧ hi i < u) ∧ (∀ t, D i t = if t < 2 ^ (n - pl i - 1) then D (lo i) t else D (hi i) (t - 2 ^ (n - pl i - 1))) ∧ (∀ t, 2 ^ (n - pl i - 1) ≤ t → D (lo i) t = false ∧ D (hi i) t = false) ∧ ∃ e, e < m (pl i) ∧ QQ Gr n (pl i) e ∧ ∀ t, D i t = BB Gr n (pl i) e t) ∧
  (∀ k e, k < n → e < m k → QQ Gr n k e → ∃ i, (2 ≤ i ∧ i < u) ∧ pl i = k ∧ ∀ t, D i t = BB Gr n k e t) ∧
  u = 2 + sF (fun k => cF Gr n k (m k)) n
section NDS
variable {Gr : Nat → Nat → Bool} {n u k e l h : Nat} {m pl lo hi : Nat → Nat} {D : Nat → Nat → Bool}
theorem nd_0 {u : Nat} {m : Nat → Nat} (hu : u = 2) (hm : ∀ k, m k = 0) {D : Nat → Nat → Bool} (d0 : ∀ t, D 0 t = false) (d1 : ∀ t, D 1 t = decide (t = 0)) : ND Gr n u m pl lo hi D := by
  subst hu
  refine ⟨⟨Nat.le_refl _, d0, d1⟩, fun i j hi hj e => ?_, fun i h1 h2 => absurd h2 (by omega), fun k e _ he => absurd he (by rw [hm]; exact Nat.not_lt_zero _), ?_⟩
  · have e0 := e 0
    rcases (show i = 0 ∨ i = 1 by omega) with rfl | rfl <;> rcases (show j = 0 ∨ j = 1 by omega) with rfl | rfl
    · rfl
    · rw [d0, d1] at e0; exact absurd e0 (by decide)
    · rw [d0, d1] at e0; exact absurd e0 (by decide)
    · rfl
  · have z : ∀ n, sF (fun k => cF Gr n k (m k)) n = 0 := fun n => by
      have : ∀ j, sF (fun k => cF Gr n k (m k)) j = 0 := fun j => by
        induction j with
        | zero => rfl
        | succ j ih =>
          show sF (fun k => cF Gr n k (m k)) j + cF Gr n j (m j) = 0
          rw [ih, hm]; rfl
      exact this n
    rw [z]
theorem nd_u (H : ND Gr n u m pl lo hi D) (n10 : n ≤ 10) (hm : ∀ k, k < n → m k ≤ 10 * 2 ^ k) : u ≤ 1548 := by
  have a := H.2.2.2.2
  have b := sF_le (f := fun k => cF Gr n k (m k)) (g := bdN n) (fun k hk => cF_b (hm k hk))
  have c := bdN_s n (by omega)
  omega
/-- a block more, already there or without an upper half -/
theorem nd_st {m' : Nat → Nat} (H : ND Gr n u m pl lo hi D) (hk : k < n) (he : e = m k) (h0 : m' k = e + 1) (ho : ∀ j, j ≠ k → m' j = m j) (hf : ¬ FO Gr n k e) (hx : QQ Gr n k e → ∃ i, (2 ≤ i ∧ i < u) ∧ pl i = k ∧ ∀ t, D i t = BB Gr n k e t) : ND Gr n u m' pl lo hi D := by
  obtain ⟨h1, h2, h3, h4, h5⟩ := H
  have le : ∀ j, m j ≤ m' j := fun j => by
    by_cases q : j = k
    · rw [q, h0, ← he]; omega
    · rw [ho j q]; exact Nat.le_refl _
  refine ⟨h1, h2, fun i a b => ?_, fun j e2 hj he2 q => ?_, ?_⟩
  · obtain ⟨c1, c2, c3, e3, c4, c5⟩ := h3 i a b
    exact ⟨c1, c2, c3, e3, Nat.lt_of_lt_of_le c4 (le _), c5⟩
  · by_cases z : j = k
    · subst z
      by_cases y : e2 = e
      · subst y; exact hx q
      · exact h4 j e2 hj (by rw [h0] at he2; omega) q
    · rw [ho j z] at he2; exact h4 j e2 hj he2 q
  · have s := sF_1 (f := fun k => cF Gr n k (m k)) (g := fun k => cF Gr n k (m' k)) (d := 0) hk (fun j _ hj => by show cF Gr n j (m' j) = cF Gr n j (m j); rw [ho j hj]) (by show cF Gr n k (m' k) = cF Gr n k (m k) + 0; rw [h0, cF_f hf, he, Nat.add_zero])
    omega
/-- what the node of a block is, if it is there -/
theorem nd_is (H : ND Gr n u m pl lo hi D) (hl : l < u) (hh : h < u) (hdl : ∀ t, D l t = if t < 2 ^ (n - k - 1) then BB Gr n k e t else false) (hdh : ∀ t, D h t = BB Gr n k e (2 ^ (n - k - 1) + t)) (hk : k < n) {i : Nat} (i2 : 2 ≤ i) (iu : i < u) (ip : pl i = k) (ie : ∀ t, D i t = BB Gr n k e t) : lo i = l ∧ hi i = h := by
  obtain ⟨h1, h2', h3, h4, h5⟩ := H
  obtain ⟨⟨c1, c2, c3⟩, c4, c5, _⟩ := h3 i i2 iu
  rw [ip] at c4 c5
  constructor
  · refine h2' _ _ c2 hl (fun t => ?_)
    by_cases q : t < 2 ^ (n - k - 1)
    · have a := c4 t
      rw [if_pos q] at a
      rw [hdl, if_pos q, ← ie, a]
    · rw [hdl, if_neg q]; exact (c5 t (by omega)).1
  · refine h2' _ _ c3 hh (fun t => ?_)
    have a := c4 (2 ^ (n - k - 1) + t)
    rw [if_neg (by omega), Nat.add_sub_cancel_left] at a
    rw [hdh, ← ie, a]
/-- the halves of a block -/
theorem nd_is2 (H : ND Gr n u m pl lo hi D) (hdl : ∀ t, D l t = if t < 2 ^ (n - k - 1) then BB Gr n k e t else false) (hdh : ∀ t, D h t = BB Gr n k e (2 ^ (n - k - 1) + t)) {i : Nat} (i2 : 2 ≤ i) (iu : i < u) (ip : pl i = k) (il : lo i = l) (ih : hi i = h) : ∀ t, D i t = BB Gr n k e t := fun t => by
  obtain ⟨_, c4, _, _⟩ := H.2.2.1 i i2 iu
  rw [c4 t, ip, il, ih]
  by_cases q : t < 2 ^ (n - k - 1)
  · rw [if_pos q, hdl, if_pos q]
  · rw [if_neg q, hdh, show 2 ^ (n - k - 1) + (t - 2 ^ (n - k - 1)) = t by omega]
theorem nd_up (hdh : ∀ t, D h t = BB Gr n k e (2 ^ (n - k - 1) + t)) (H : ND Gr n u m pl lo hi D) (hh : h < u) : QQ Gr n k e ↔ h ≠ 0 := by
  constructor
  · rintro ⟨t, h1, h2⟩ z
    subst z
    have a := hdh (t - 2 ^ (n - k - 1))
    rw [H.1.2.1, show 2 ^ (n - k - 1) + (t - 2 ^ (n - k - 1)) = t by omega, h2] at a
    cases a
  · intro z
    by_cases q : ∃ t, D h t = true
    · obtain ⟨t, q⟩ := q
      exact ⟨2 ^ (n - k - 1) + t, by omega, by rw [← hdh]; exact q⟩
    · refine absurd (H.2.1 h 0 hh (by have := H.1.1; omega) (fun t => ?_)) z
      rw [H.1.2.1]
      cases y : D h t with
      | false => rfl
      | true => exact absurd ⟨t, y⟩ q
/-- a node that is there -/
theorem nd_found {m' : Nat → Nat} (H : ND Gr n u m pl lo hi D) (hk : k < n) (he : e = m k) (h0 : m' k = e + 1) (ho : ∀ j, j ≠ k → m' j = m j) {i : Nat} (i2 : 2 ≤ i) (iu : i < u) (ip : pl i = k) (ie : ∀ t, D i t = BB Gr n k e t) : ND Gr n u m' pl lo hi D := by
  refine nd_st H hk he h0 ho (fun f => ?_) (fun _ => ⟨i, ⟨i2, iu⟩, ip, ie⟩)
  obtain ⟨_, _, _, e2, a, b, c⟩ := H.2.2.1 i i2 iu
  rw [ip] at a b c
  exact f.2 e2 (by omega) b (fun t => (c t).symm.trans (ie t))
theorem nd_FO (H : ND Gr n u m pl lo hi D) (hk : k < n) (he : e = m k) (hl : l < u) (hh : h < u) (hdl : ∀ t, D l t = if t < 2 ^ (n - k - 1) then BB Gr n k e t else false) (hdh : ∀ t, D h t = BB Gr n k e (2 ^ (n - k - 1) + t)) (hq : QQ Gr n k e) (no : ∀ i, 2 ≤ i → i < u → ¬ (pl i = k ∧ lo i = l ∧ hi i = h)) : FO Gr n k e := ⟨hq, fun e2 he2 q2 s => by
  obtain ⟨i, ⟨a, b⟩, c, d⟩ := H.2.2.2.1 k e2 hk (by omega) q2
  have := nd_is H hl hh hdl hdh hk a b c (fun t => (d t).trans (s t))
  exact no i a b ⟨c, this.1, this.2⟩⟩
/-- a new node -/
theorem nd_new {m' : Nat → Nat} (H : ND Gr n u m pl lo hi D) (hk : k < n) (he : e = m k) (h0 : m' k = e + 1) (ho : ∀ j, j ≠ k → m' j = m j) (hl : l < u) (hh : h < u) (hdl : ∀ t, D l t = if t < 2 ^ (n - k - 1) then BB Gr n k e t else false) (hdh : ∀ t, D h t = BB Gr n k e (2 ^ (n - k - 1) + t)) (hq : QQ Gr n k e) (no : ∀ i, 2 ≤ i → i < u → ¬ (pl i = k ∧ lo i = l ∧ hi i = h)) :
    ND Gr n (u + 1) m' (un pl u k) (un lo u l) (un hi u h) (unD D u (BB Gr n k e)) := by
  have hfo := nd_FO H hk he hl hh hdl hdh hq no
  have H0 := H
  obtain ⟨h1, h2', h3, h4, h5⟩ := H
  have pw : 0 < 2 ^ (n - k - 1) := Nat.pow_pos (by decide)
  have Dn : ∀ {j}, j < u → unD D u (BB Gr n k e) j = D j := fun hj => unD_n (by omega)
  have le : ∀ j, m j ≤ m' j := fun j => by
    by_cases q : j = k
    · rw [q, h0, ← he]; omega
    · rw [ho j q]; exact Nat.le_refl _
  have key : ∀ j, j < u → (∀ t, D j t = BB Gr n k e t) → False := fun j hj hd => by
    obtain ⟨t, ht, hb⟩ := hq
    by_cases z : j < 2
    · rcases (show j = 0 ∨ j = 1 by omega) with rfl | rfl
      · rw [← hd, h1.2.1] at hb; cases hb
      · rw [← hd, h1.2.2] at hb
        have := of_decide_eq_true hb
        omega
    · obtain ⟨⟨c1, c2, c3⟩, c4, c5, e3, c6, ⟨t3, c7, c8⟩, c9⟩ := h3 j (by omega) hj
      by_cases y : pl j = k
      · have := nd_is H0 hl hh hdl hdh hk (by omega) hj y hd
        exact no j (by omega) hj ⟨y, this.1, this.2⟩
      · by_cases y2 : pl j < k
        · rw [← c9, hd] at c8
          have a := bb_t c8
          have b : 2 ^ (n - k) ≤ 2 ^ (n - pl j - 1) := Nat.pow_le_pow_right (by decide) (by omega)
          omega
        · rw [← hd, c9] at hb
          have a := bb_t hb
          have b : 2 ^ (n - pl j) ≤ 2 ^ (n - k - 1) := Nat.pow_le_pow_right (by decide) (by omega)
          omega
  refine ⟨⟨by omega, fun t => by rw [Dn (by omega)]; exact h1.2.1 t, fun t => by rw [Dn (by omega)]; exact h1.2.2 t⟩, fun i j hi' hj hd => ?_, fun i i2 iu => ?_, fun j e2 hj he2 q => ?_, ?_⟩
  · by_cases a : i = u
    · by_cases b : j = u
      · rw [a, b]
      · rw [a, unD_s, Dn (show j < u by omega)] at hd
        exact (key j (by omega) (fun t => (hd t).symm)).elim
    · by_cases b : j = u
      · rw [b, unD_s, Dn (show i < u by omega)] at hd
        exact (key i (by omega) hd).elim
      · rw [Dn (show i < u by omega), Dn (show j < u by omega)] at hd
        exact h2' i j (by omega) (by omega) hd
  · by_cases a : i = u
    · subst a
      rw [un_s, un_s, un_s, unD_s, Dn hl, Dn hh]
      refine ⟨⟨hk, by omega, by omega⟩, fun t => ?_, fun t ht => ⟨by rw [hdl, if_neg (by omega)], ?_⟩, e, by rw [h0]; omega, hq, fun _ => rfl⟩
      · by_cases q : t < 2 ^ (n - k - 1)
        · rw [if_pos q, hdl, if_pos q]
        · rw [if_neg q, hdh, show 2 ^ (n - k - 1) + (t - 2 ^ (n - k - 1)) = t by omega]
      · rw [hdh]
        refine bb_0 ?_
        have := (pw2 hk).1
        omega
    · obtain ⟨⟨c1, c2, c3⟩, c4, c5, e3, c6, c7, c9⟩ := h3 i i2 (by omega)
      rw [un_n a, un_n a, un_n a, Dn (show i < u by omega), Dn c2, Dn c3]
      exact ⟨⟨c1, by omega, by omega⟩, c4, c5, e3, Nat.lt_of_lt_of_le c6 (le _), c7, c9⟩
  · have old : (∃ i, (2 ≤ i ∧ i < u) ∧ pl i = j ∧ ∀ t, D i t = BB Gr n j e2 t) → ∃ i, (2 ≤ i ∧ i < u + 1) ∧ un pl u k i = j ∧ ∀ t, unD D u (BB Gr n k e) i t = BB Gr n j e2 t := fun ⟨i, ⟨a, b⟩, c, d⟩ => ⟨i, ⟨a, by omega⟩, by rw [un_n (by omega)]; exact c, fun t => by rw [Dn b]; exact d t⟩
    by_cases z : j = k
    · subst z
      by_cases y : e2 = e
      · subst y
        exact ⟨u, ⟨h1.1, by omega⟩, un_s, fun t => by rw [unD_s]⟩
      · exact old (h4 j e2 hj (by rw [h0] at he2; omega) q)
    · rw [ho j z] at he2; exact old (h4 j e2 hj he2 q)
  · have s := sF_1 (f := fun k => cF Gr n k (m k)) (g := fun k => cF Gr n k (m' k)) (d := 1) hk (fun j _ hj => by show cF Gr n j (m' j) = cF Gr n j (m j); rw [ho j hj]) (by show cF Gr n k (m' k) = cF Gr n k (m k) + 1; rw [h0, cF_t hfo, he])
    omega
/-- a register like an earlier one adds nothing -/
theorem bb_like {k e r r0 : Nat} (hk : k < n) (hr : r0 < r) (hG : ∀ t, t < 2 ^ n → Gr r t = Gr r0 t) (a : r * 2 ^ k ≤ e) (b : e < (r + 1) * 2 ^ k) : ∃ e0, e0 < r * 2 ^ k ∧ SM Gr n k e e0 := by
  have p : 0 < 2 ^ k := Nat.pow_pos (by decide)
  rw [Nat.add_mul, Nat.one_mul] at b
  have hx : e - r * 2 ^ k < 2 ^ k := by omega
  refine ⟨r0 * 2 ^ k + (e - r * 2 ^ k), ?_, fun t => ?_⟩
  · have : (r0 + 1) * 2 ^ k ≤ r * 2 ^ k := Nat.mul_le_mul_right _ hr
    rw [Nat.add_mul, Nat.one_mul] at this
    omega
  · have e2 : BB Gr n k e t = BB Gr n k (r * 2 ^ k + (e - r * 2 ^ k)) t := by rw [show r * 2 ^ k + (e - r * 2 ^ k) = e by omega]
    rw [e2, bb_r hx, bb_r hx]
    by_cases q : t < 2 ^ (n - k)
    · rw [hG]
      have a2 : 2 ^ n = 2 ^ k * 2 ^ (n - k) := by rw [← Nat.pow_add, show k + (n - k) = n by omega]
      have a3 : (e - r * 2 ^ k + 1) * 2 ^ (n - k) ≤ 2 ^ k * 2 ^ (n - k) := Nat.mul_le_mul_right _ hx
      rw [Nat.add_mul, Nat.one_mul] at a3
      omega
    · rw [decide_eq_false q]; rfl
theorem qq_sm {k e e0 : Nat} (s : SM Gr n k e e0) (q : QQ Gr n k e) : QQ Gr n k e0 := by
  obtain ⟨t, a, b⟩ := q
  exact ⟨t, a, by rw [s t]; exact b⟩
theorem cF_dup {k r r0 : Nat} (hk : k < n) (hr : r0 < r) (hG : ∀ t, t < 2 ^ n → Gr r t = Gr r0 t) : cF Gr n k ((r + 1) * 2 ^ k) = cF Gr n k (r * 2 ^ k) := by
  refine ct_top (Nat.mul_le_mul_right _ (Nat.le_succ r)) (fun e a b => bl_f (fun f => ?_))
  obtain ⟨e0, c, s⟩ := bb_like hk hr hG a b
  exact f.2 e0 (by omega) (qq_sm s f.1) s
theorem nd_dup {m' : Nat → Nat} {r r0 : Nat} (H : ND Gr n u m pl lo hi D) (hr : r0 < r) (hG : ∀ t, t < 2 ^ n → Gr r t = Gr r0 t) (hm : ∀ k, k < n → m k = r * 2 ^ k) (hm' : ∀ k, k < n → m' k = (r + 1) * 2 ^ k) : ND Gr n u m' pl lo hi D := by
  obtain ⟨h1, h2', h3, h4, h5⟩ := H
  have le : ∀ k, k < n → m k ≤ m' k := fun k hk => by
    rw [hm k hk, hm' k hk]
    exact Nat.mul_le_mul_right _ (Nat.le_succ r)
  refine ⟨h1, h2', fun i a b => ?_, fun k e hk he q => ?_, ?_⟩
  · obtain ⟨c1, c2, c3, e3, c4, c5⟩ := h3 i a b
    exact ⟨c1, c2, c3, e3, Nat.lt_of_lt_of_le c4 (le _ c1.1), c5⟩
  · by_cases z : e < m k
    · exact h4 k e hk z q
    · rw [hm' k hk] at he
      rw [hm k hk] at z
      obtain ⟨e0, a, s⟩ := bb_like hk hr hG (by omega) he
      obtain ⟨i, b, c, d⟩ := h4 k e0 hk (by rw [hm k hk]; exact a) (qq_sm s q)
      exact ⟨i, b, c, fun t => (d t).trans (s t)⟩
  · rw [h5]
    congr 1
    refine sF_c (fun k hk => ?_)
    show cF Gr n k (m k) = cF Gr n k (m' k)
    rw [hm k hk, hm' k hk, cF_dup hk hr hG]
end NDS
/-! chains -/
/-- the greatest below u (and not below 2) with this head, or 0 -/
def gp (H : Nat → Nat) (b : Nat) : Nat → Nat
  | 0 => 0
  | u + 1 => if 2 ≤ u ∧ H u = b then u else gp H b u
section GPS
variable {H H' : Nat → Nat} {b : Nat}
theorem gp_lt : ∀ u, gp H b (u + 1) ≤ u
  | 0 => by
    show (if 2 ≤ 0 ∧ H 0 = b then 0 else 0) ≤ 0
    split <;> exact Nat.le_refl _
  | u + 1 => by
    show (if 2 ≤ u + 1 ∧ H (u + 1) = b then u + 1 else gp H b (u + 1)) ≤ u + 1
    have := gp_lt u
    split <;> omega
theorem gp_c : ∀ {u : Nat}, (∀ i, i < u → H i = H' i) → gp H b u = gp H' b u
  | 0, _ => rfl
  | u + 1, h => by
    show (if 2 ≤ u ∧ H u = b then u else gp H b u) = (if 2 ≤ u ∧ H' u = b then u else gp H' b u)
    rw [h u (by omega), gp_c (fun i hi => h i (by omega))]
/-- nothing between -/
theorem gp_ge : ∀ {u : Nat} {i : Nat}, 2 ≤ i → i < u → H i = b → i ≤ gp H b u
  | 0, _, _, h, _ => absurd h (Nat.not_lt_zero _)
  | u + 1, i, h2, hi, e => by
    show i ≤ (if 2 ≤ u ∧ H u = b then u else gp H b u)
    by_cases q : 2 ≤ u ∧ H u = b
    · rw [if_pos q]; omega
    · rw [if_neg q]
      by_cases z : i = u
      · subst z; exact absurd ⟨h2, e⟩ q
      · exact gp_ge h2 (by omega) e
theorem gp_is : ∀ {u : Nat}, gp H b u ≠ 0 → (2 ≤ gp H b u ∧ gp H b u < u) ∧ H (gp H b u) = b
  | 0, h => absurd rfl h
  | u + 1, h => by
    have e : gp H b (u + 1) = if 2 ≤ u ∧ H u = b then u else gp H b u := rfl
    by_cases q : 2 ≤ u ∧ H u = b
    · rw [if_pos q] at e
      rw [e]
      exact ⟨⟨q.1, by omega⟩, q.2⟩
    · rw [if_neg q] at e
      rw [e] at h ⊢
      have := gp_is h
      exact ⟨⟨this.1.1, by omega⟩, this.2⟩
end GPS

/-! ===== edges of a mask: reach, labels, rings ===== -/
section GRAPH
theorem ct_eq1 {p : Nat → Bool} {b : Nat} (hp : p b = true) : ∀ {n : Nat}, b < n → ct (fun x => p x && decide (x = b)) n = 1
  | 0, h => absurd h (Nat.not_lt_zero _)
  | n + 1, h => by
    show ct (fun x => p x && decide (x = b)) n + (if (p n && decide (n = b)) = true then 1 else 0) = 1
    by_cases e : n = b
    · subst e
      rw [hp, decide_eq_true rfl, ct_0 (p := fun x => p x && decide (x = n)) (fun k hk => by
        show (p k && decide (k = n)) = false
        rw [decide_eq_false (show ¬ k = n by omega), Bool.and_false])]
      rfl
    · rw [ct_eq1 hp (show b < n by omega), decide_eq_false e, Bool.and_false]
      rfl
/-- one is taken out -/
theorem ct_rm {p : Nat → Bool} {b n : Nat} (hb : b < n) (hp : p b = true) : ct p n = 1 + ct (fun x => p x && !decide (x = b)) n := by
  rw [ct_add p (fun x => decide (x = b)) n, ct_eq1 hp hb]
theorem ct_u {p : Nat → Bool} {a b n : Nat} (h : ct p n ≤ 1) (ha : a < n) (hb : b < n) (pa : p a = true) (pb : p b = true) : a = b := by
  rw [ct_rm ha pa] at h
  have z := ct_z (p := fun x => p x && !decide (x = a)) (n := n) (by omega) b hb
  have z : (p b && !decide (b = a)) = false := z
  rw [pb, Bool.true_and] at z
  by_cases e : b = a
  · exact e.symm
  · rw [decide_eq_false e] at z; cases z
theorem ct_sub {p q : Nat → Bool} : ∀ {n : Nat}, (∀ k, k < n → p k = true → q k = true) → ct p n ≤ ct q n
  | 0, _ => Nat.le_refl _
  | n + 1, h => by
    show ct p n + (if p n = true then 1 else 0) ≤ ct q n + (if q n = true then 1 else 0)
    have := ct_sub (p := p) (q := q) (n := n) (fun k hk => h k (by omega))
    by_cases e : p n = true
    · rw [if_pos e, if_pos (h n (by omega) e)]; omega
    · rw [if_neg e]; omega
theorem ct_lt {p q : Nat → Bool} {n b : Nat} (h : ∀ k, k < n → p k = true → q k = true) (hb : b < n) (qb : q b = true) (pb : p b = false) : ct p n + 1 ≤ ct q n := by
  rw [ct_rm hb qb]
  have := ct_sub (p := p) (q := fun x => q x && !decide (x = b)) (n := n) (fun k hk pk => by
    show (q k && !decide (k = b)) = true
    have : ¬ k = b := fun e => by rw [e, pb] at pk; cases pk
    rw [h k hk pk, decide_eq_false this]; rfl)
  omega
/-- m edges, their ends -/
def Gr (m : Nat) (A B : Nat → Nat) : Prop := ∀ j, j < m → (A j < 8 ∧ B j < 8) ∧ A j ≠ B j
variable {m : Nat} {A B : Nat → Nat} {s c0 : Nat}
/-- what hangs on c0 -/
def Rb (m : Nat) (A B : Nat → Nat) (s c0 x : Nat) : Prop := ∀ P : Nat → Prop, P c0 → (∀ j, j < m → s.testBit j = true → P (A j) → P (B j)) → (∀ j, j < m → s.testBit j = true → P (B j) → P (A j)) → P x
theorem Rb.rf : Rb m A B s c0 c0 := fun _ h _ _ => h
theorem Rb.l {j : Nat} (hj : j < m) (b : s.testBit j = true) (h : Rb m A B s c0 (A j)) : Rb m A B s c0 (B j) := fun P h0 hl hr => hl j hj b (h P h0 hl hr)
theorem Rb.r {j : Nat} (hj : j < m) (b : s.testBit j = true) (h : Rb m A B s c0 (B j)) : Rb m A B s c0 (A j) := fun P h0 hl hr => hr j hj b (h P h0 hl hr)
/-! the reference's rounds -/
def rd1 (A B : Nat → Nat) (s j C : Nat) : Nat := if s.testBit j = true ∧ (C.testBit (A j) = true ∨ C.testBit (B j) = true) then C ||| (2 ^ A j ||| 2 ^ B j) else C
def rds (A B : Nat → Nat) (s : Nat) : Nat → Nat → Nat
  | 0, C => C
  | j + 1, C => rd1 A B s j (rds A B s j C)
def hg (m : Nat) (A B : Nat → Nat) (s c0 : Nat) : Nat → Nat
  | 0 => 2 ^ c0
  | r + 1 => rds A B s m (hg m A B s c0 r)
theorem rd1_b {j C x : Nat} : (rd1 A B s j C).testBit x = true ↔ C.testBit x = true ∨ ((s.testBit j = true ∧ (C.testBit (A j) = true ∨ C.testBit (B j) = true)) ∧ (x = A j ∨ x = B j)) := by
  unfold rd1
  by_cases q : s.testBit j = true ∧ (C.testBit (A j) = true ∨ C.testBit (B j) = true)
  · rw [if_pos q, Nat.testBit_or, Nat.testBit_or, Nat.testBit_two_pow, Nat.testBit_two_pow, Bool.or_eq_true, Bool.or_eq_true, decide_eq_true_iff, decide_eq_true_iff]
    constructor
    · rintro (h | h | h)
      · exact Or.inl h
      · exact Or.inr ⟨q, Or.inl h.symm⟩
      · exact Or.inr ⟨q, Or.inr h.symm⟩
    · rintro (h | ⟨_, h | h⟩)
      · exact Or.inl h
      · exact Or.inr (Or.inl h.symm)
      · exact Or.inr (Or.inr h.symm)
  · rw [if_neg q]
    exact ⟨Or.inl, fun h => h.elim id (fun z => absurd z.1 q)⟩
theorem rds_m {C x : Nat} (h : C.testBit x = true) : ∀ j, (rds A B s j C).testBit x = true
  | 0 => h
  | j + 1 => rd1_b.mpr (Or.inl (rds_m h j))
theorem rds_n {C i : Nat} (hb : s.testBit i = true) (h : C.testBit (A i) = true ∨ C.testBit (B i) = true) : ∀ j, i < j → (rds A B s j C).testBit (A i) = true ∧ (rds A B s j C).testBit (B i) = true
  | 0, hi => absurd hi (Nat.not_lt_zero _)
  | j + 1, hi => by
    show (rd1 A B s j (rds A B s j C)).testBit (A i) = true ∧ (rd1 A B s j (rds A B s j C)).testBit (B i) = true
    by_cases e : i = j
    · subst e
      have q : s.testBit i = true ∧ ((rds A B s i C).testBit (A i) = true ∨ (rds A B s i C).testBit (B i) = true) := ⟨hb, h.imp (fun z => rds_m z i) (fun z => rds_m z i)⟩
      exact ⟨rd1_b.mpr (Or.inr ⟨q, Or.inl rfl⟩), rd1_b.mpr (Or.inr ⟨q, Or.inr rfl⟩)⟩
    · have := rds_n hb h j (by omega)
      exact ⟨rd1_b.mpr (Or.inl this.1), rd1_b.mpr (Or.inl this.2)⟩
theorem rds_s {C : Nat} (h : ∀ x, C.testBit x = true → Rb m A B s c0 x) : ∀ j, j ≤ m → ∀ x, (rds A B s j C).testBit x = true → Rb m A B s c0 x
  | 0, _, x, hx => h x hx
  | j + 1, hj, x, hx => by
    have ih := rds_s h j (by omega)
    rcases rd1_b.mp hx with z | ⟨⟨b, z⟩, y⟩
    · exact ih x z
    · rcases z with z | z
      · rcases y with y | y
        · rw [y]; exact ih _ z
        · rw [y]; exact Rb.l (by omega) b (ih _ z)
      · rcases y with y | y
        · rw [y]; exact Rb.r (by omega) b (ih _ z)
        · rw [y]; exact ih _ z
theorem hg_s : ∀ r x, (hg m A B s c0 r).testBit x = true → Rb m A B s c0 x
  | 0, x, h => by
    have h : (2 ^ c0).testBit x = true := h
    rw [Nat.testBit_two_pow, decide_eq_true_iff] at h
    rw [← h]; exact Rb.rf
  | r + 1, x, h => rds_s (hg_s r) m (Nat.le_refl _) x h
theorem hg_0 : ∀ r, (hg m A B s c0 r).testBit c0 = true
  | 0 => by
    show (2 ^ c0).testBit c0 = true
    rw [Nat.testBit_two_pow]; exact decide_eq_true rfl
  | r + 1 => rds_m (hg_0 r) m
/-- closed under the edges of s -/
def Cd (m : Nat) (A B : Nat → Nat) (s C : Nat) : Prop := ∀ i, i < m → s.testBit i = true → (C.testBit (A i) = true ↔ C.testBit (B i) = true)
theorem rds_cd {C : Nat} (h : Cd m A B s C) : ∀ j, j ≤ m → ∀ x, ((rds A B s j C).testBit x = true ↔ C.testBit x = true)
  | 0, _, _ => Iff.rfl
  | j + 1, hj, x => by
    have ih := rds_cd h j (by omega)
    show (rd1 A B s j (rds A B s j C)).testBit x = true ↔ _
    rw [rd1_b, ih x, ih (A j), ih (B j)]
    constructor
    · rintro (z | ⟨⟨b, z⟩, y⟩)
      · exact z
      · have q := h j (by omega) b
        have a : C.testBit (A j) = true := z.elim id q.mpr
        rcases y with y | y
        · rw [y]; exact a
        · rw [y]; exact q.mp a
    · exact Or.inl
theorem cd_st {C : Nat} (hG : Gr m A B) (h : ∀ x, x < 8 → (rds A B s m C).testBit x = true → C.testBit x = true) : Cd m A B s C := fun i hi b => by
  have g := (hG i hi).1
  exact ⟨fun z => h _ g.2 (rds_n b (Or.inl z) m hi).2, fun z => h _ g.1 (rds_n b (Or.inr z) m hi).1⟩
theorem hg_cd (hG : Gr m A B) (h0 : c0 < 8) : Cd m A B s (hg m A B s c0 8) := by
  have k : ∀ r, Cd m A B s (hg m A B s c0 r) ∨ r + 1 ≤ ct (fun x => (hg m A B s c0 r).testBit x) 8 := by
    intro r
    induction r with
    | zero =>
      refine Or.inr ?_
      rw [ct_rm (p := fun x => (hg m A B s c0 0).testBit x) h0 (hg_0 0)]
      omega
    | succ r ih =>
      rcases ih with ih | ih
      · refine Or.inl (fun i hi b => ?_)
        show (rds A B s m (hg m A B s c0 r)).testBit (A i) = true ↔ (rds A B s m (hg m A B s c0 r)).testBit (B i) = true
        rw [rds_cd ih m (Nat.le_refl _), rds_cd ih m (Nat.le_refl _)]
        exact ih i hi b
      · by_cases q : ∀ x, x < 8 → (rds A B s m (hg m A B s c0 r)).testBit x = true → (hg m A B s c0 r).testBit x = true
        · have c := cd_st hG q
          refine Or.inl (fun i hi b => ?_)
          show (rds A B s m (hg m A B s c0 r)).testBit (A i) = true ↔ (rds A B s m (hg m A B s c0 r)).testBit (B i) = true
          rw [rds_cd c m (Nat.le_refl _), rds_cd c m (Nat.le_refl _)]
          exact c i hi b
        · obtain ⟨x, hx⟩ := Classical.not_forall.mp q
          have x8 : x < 8 := Classical.byContradiction (fun z => hx (fun y => absurd y z))
          have xb : (rds A B s m (hg m A B s c0 r)).testBit x = true := Classical.byContradiction (fun z => hx (fun _ y => absurd y z))
          have xn : (hg m A B s c0 r).testBit x = false := by
            cases y : (hg m A B s c0 r).testBit x with
            | false => rfl
            | true => exact absurd (fun _ _ => y) hx
          refine Or.inr ?_
          have := ct_lt (p := fun x => (hg m A B s c0 r).testBit x) (q := fun x => (hg m A B s c0 (r + 1)).testBit x) (n := 8) (fun k _ h => rds_m h m) x8 xb xn
          omega
  rcases k 8 with h | h
  · exact h
  · have := ct_le (fun x => (hg m A B s c0 8).testBit x) 8
    omega
/-! the class's labels -/
def lb1 (A B : Nat → Nat) (s j : Nat) (L : Nat → Nat) : Nat → Nat := fun x => if s.testBit j = true ∧ L x = L (B j) then L (A j) else L x
def Lb (A B : Nat → Nat) (s : Nat) : Nat → Nat → Nat
  | 0 => fun x => x
  | j + 1 => lb1 A B s j (Lb A B s j)
theorem Lb_n {j x : Nat} (h : ¬ s.testBit j = true) : Lb A B s (j + 1) x = Lb A B s j x := if_neg (fun z => h z.1)
theorem Lb_y {j x : Nat} (h : s.testBit j = true) : Lb A B s (j + 1) x = if Lb A B s j x = Lb A B s j (B j) then Lb A B s j (A j) else Lb A B s j x := by
  show (if s.testBit j = true ∧ _ then _ else _) = _
  by_cases q : Lb A B s j x = Lb A B s j (B j)
  · rw [if_pos ⟨h, q⟩, if_pos q]
  · rw [if_neg (fun z => q z.2), if_neg q]
theorem Lb_8 (hG : Gr m A B) : ∀ j, j ≤ m → ∀ x, x < 8 → Lb A B s j x < 8
  | 0, _, _, h => h
  | j + 1, hj, x, h => by
    have ih := Lb_8 hG j (by omega)
    by_cases b : s.testBit j = true
    · rw [Lb_y b]
      split
      · exact ih _ (hG j (by omega)).1.1
      · exact ih x h
    · rw [Lb_n b]; exact ih x h
theorem Lb_fx : ∀ j x, Lb A B s j (Lb A B s j x) = Lb A B s j x
  | 0, _ => rfl
  | j + 1, x => by
    have ih := Lb_fx j
    by_cases b : s.testBit j = true
    · rw [Lb_y b (x := x)]
      by_cases q : Lb A B s j x = Lb A B s j (B j)
      · rw [if_pos q, Lb_y b, ih]
        split <;> rfl
      · rw [if_neg q, Lb_y b, ih, if_neg q]
    · rw [Lb_n b, Lb_n b]; exact ih x
theorem Lb_ed : ∀ j i, i < j → s.testBit i = true → Lb A B s j (A i) = Lb A B s j (B i)
  | 0, i, h, _ => absurd h (Nat.not_lt_zero _)
  | j + 1, i, h, b => by
    by_cases e : i = j
    · subst e
      rw [Lb_y b, Lb_y b, if_pos rfl]
      split <;> rfl
    · have ih := Lb_ed j i (by omega) b
      by_cases bj : s.testBit j = true
      · rw [Lb_y bj, Lb_y bj, ih]
      · rw [Lb_n bj, Lb_n bj]; exact ih
theorem Lb_cl {C : Nat → Prop} (hC : ∀ i, i < m → s.testBit i = true → (C (A i) ↔ C (B i))) : ∀ j, j ≤ m → ∀ x y, Lb A B s j x = Lb A B s j y → (C x ↔ C y)
  | 0, _, x, y, h => by rw [show x = y from h]
  | j + 1, hj, x, y, h => by
    have ih := Lb_cl hC j (by omega)
    by_cases b : s.testBit j = true
    · have ab := hC j (by omega) b
      rw [Lb_y b, Lb_y b] at h
      by_cases qx : Lb A B s j x = Lb A B s j (B j)
      · rw [if_pos qx] at h
        by_cases qy : Lb A B s j y = Lb A B s j (B j)
        · exact ih x y (qx.trans qy.symm)
        · rw [if_neg qy] at h
          exact (ih x (B j) qx).trans (ab.symm.trans (ih (A j) y h))
      · rw [if_neg qx] at h
        by_cases qy : Lb A B s j y = Lb A B s j (B j)
        · rw [if_pos qy] at h
          exact (ih x (A j) h).trans (ab.trans (ih (B j) y qy.symm))
        · rw [if_neg qy] at h
          exact ih x y h
    · rw [Lb_n b, Lb_n b] at h
      exact ih x y h
theorem Lb_rb {x : Nat} (h : Rb m A B s c0 x) : Lb A B s m x = Lb A B s m c0 := by
  refine h (fun x => Lb A B s m x = Lb A B s m c0) rfl (fun j hj b ih => ?_) (fun j hj b ih => ?_)
  · rw [← Lb_ed m _ hj b]; exact ih
  · rw [Lb_ed m _ hj b]; exact ih
/-- how many labels there are -/
def fc (A B : Nat → Nat) (s j : Nat) : Nat := ct (fun x => decide (Lb A B s j x = x)) 8
def se (s j : Nat) : Nat := ct (fun i => s.testBit i) j
/-- edge j closes a ring -/
def rg (A B : Nat → Nat) (s j : Nat) : Prop := s.testBit j = true ∧ Lb A B s j (A j) = Lb A B s j (B j)
theorem se_s {j : Nat} : se s (j + 1) = se s j + (if s.testBit j = true then 1 else 0) := rfl
theorem fc_0 : fc A B s 0 = 8 := by
  unfold fc
  show ct (fun x => decide (x = x)) 8 = 8
  rw [ct_c (q := fun _ => true) (fun k _ => decide_eq_true rfl)]
  rfl
theorem fc_n {j : Nat} (h : ¬ s.testBit j = true ∨ rg A B s j) : fc A B s (j + 1) = fc A B s j := by
  unfold fc
  refine ct_c (fun x _ => ?_)
  have : Lb A B s (j + 1) x = Lb A B s j x := by
    rcases h with h | ⟨b, e⟩
    · exact Lb_n h
    · rw [Lb_y b]
      split
      · rename_i q; rw [e, q]
      · rfl
  show decide (Lb A B s (j + 1) x = x) = decide (Lb A B s j x = x)
  rw [this]
theorem fc_y {j : Nat} (hG : Gr m A B) (hj : j < m) (b : s.testBit j = true) (h : ¬ rg A B s j) : fc A B s j = 1 + fc A B s (j + 1) := by
  have ne : ¬ Lb A B s j (A j) = Lb A B s j (B j) := fun z => h ⟨b, z⟩
  have b8 := Lb_8 (s := s) hG j (by omega) (B j) (hG j hj).1.2
  unfold fc
  rw [ct_rm (p := fun x => decide (Lb A B s j x = x)) b8 (decide_eq_true (Lb_fx j (B j)))]
  congr 1
  refine ct_c (fun x _ => ?_)
  show (decide (Lb A B s j x = x) && !decide (x = Lb A B s j (B j))) = decide (Lb A B s (j + 1) x = x)
  rw [Lb_y b]
  by_cases q : Lb A B s j x = Lb A B s j (B j)
  · rw [if_pos q]
    by_cases e : x = Lb A B s j (B j)
    · rw [decide_eq_true e, decide_eq_false (show ¬ Lb A B s j (A j) = x from fun z => ne (z.trans e))]
      simp
    · rw [decide_eq_false (show ¬ Lb A B s j x = x from fun z => e (z.symm.trans q)), Bool.false_and]
      refine (decide_eq_false (fun z => ?_)).symm
      rw [← z, Lb_fx] at q
      exact ne q
  · rw [if_neg q]
    by_cases e : x = Lb A B s j (B j)
    · exact absurd (by rw [e]; exact Lb_fx j (B j)) q
    · rw [decide_eq_false e]
      simp
theorem fc_ge (hG : Gr m A B) : ∀ j, j ≤ m → 8 ≤ fc A B s j + se s j
  | 0, _ => by rw [fc_0]; omega
  | j + 1, hj => by
    have ih := fc_ge hG j (by omega)
    rw [se_s]
    by_cases b : s.testBit j = true
    · rw [if_pos b]
      by_cases r : rg A B s j
      · rw [fc_n (Or.inr r)]; omega
      · have := fc_y hG (by omega) b r; omega
    · rw [if_neg b, fc_n (Or.inl b)]; omega
theorem fc_e (hG : Gr m A B) : ∀ j, j ≤ m → (∀ i, i < j → ¬ rg A B s i) → fc A B s j + se s j = 8
  | 0, _, _ => by rw [fc_0]; rfl
  | j + 1, hj, h => by
    have ih := fc_e hG j (by omega) (fun i hi => h i (by omega))
    rw [se_s]
    by_cases b : s.testBit j = true
    · rw [if_pos b]
      have := fc_y hG (by omega) b (h j (by omega)); omega
    · rw [if_neg b, fc_n (Or.inl b)]; omega
theorem fc_r (hG : Gr m A B) {i : Nat} (hr : rg A B s i) : ∀ j, j ≤ m → i < j → 9 ≤ fc A B s j + se s j
  | 0, _, h => absurd h (Nat.not_lt_zero _)
  | j + 1, hj, h => by
    rw [se_s]
    by_cases e : i = j
    · subst e
      have := fc_ge (s := s) hG i (by omega)
      rw [if_pos hr.1, fc_n (Or.inr hr)]; omega
    · have ih := fc_r hG hr j (by omega) (by omega)
      by_cases b : s.testBit j = true
      · rw [if_pos b]
        by_cases r : rg A B s j
        · rw [fc_n (Or.inr r)]; omega
        · have := fc_y hG (by omega) b r; omega
      · rw [if_neg b, fc_n (Or.inl b)]; omega
/-- the crossings that any edge has -/
def Us (m : Nat) (A B : Nat → Nat) (X : Nat) : Prop := ∀ v, X.testBit v = true ↔ ∃ j, j < m ∧ (A j = v ∨ B j = v)
theorem Lb_un {X x : Nat} (hX : Us m A B X) (hx : ¬ X.testBit x = true) : ∀ j, j ≤ m → Lb A B s j x = x
  | 0, _ => rfl
  | j + 1, hj => by
    have ih := Lb_un hX hx j (by omega)
    by_cases b : s.testBit j = true
    · rw [Lb_y b]
      split
      · rename_i q
        have c := Lb_cl (C := fun v => X.testBit v = true) (fun i hi _ => ⟨fun _ => (hX _).mpr ⟨i, hi, Or.inr rfl⟩, fun _ => (hX _).mpr ⟨i, hi, Or.inl rfl⟩⟩) j (by omega) x (B j) q
        exact absurd (c.mpr ((hX _).mpr ⟨j, by omega, Or.inr rfl⟩)) hx
      · exact ih
    · rw [Lb_n b]; exact ih
theorem us_cl {X : Nat} (hX : Us m A B X) {x y : Nat} (h : Lb A B s m x = Lb A B s m y) : X.testBit x = true ↔ X.testBit y = true := Lb_cl (C := fun v => X.testBit v = true) (fun i hi _ => ⟨fun _ => (hX _).mpr ⟨i, hi, Or.inr rfl⟩, fun _ => (hX _).mpr ⟨i, hi, Or.inl rfl⟩⟩) m (Nat.le_refl _) x y h
/-- labels split: those of crossings without edges, the others -/
theorem fc_sp {X : Nat} (hX : Us m A B X) : fc A B s m + ct (fun x => X.testBit x) 8 = ct (fun x => decide (Lb A B s m x = x) && X.testBit x) 8 + 8 := by
  unfold fc
  rw [ct_add (fun x => decide (Lb A B s m x = x)) (fun x => X.testBit x) 8]
  have e : ct (fun i => decide (Lb A B s m i = i) && !X.testBit i) 8 = ct (fun i => !X.testBit i) 8 := ct_c (fun k _ => by
    show (decide (Lb A B s m k = k) && !X.testBit k) = !X.testBit k
    cases h : X.testBit k with
    | true => rw [Bool.not_true, Bool.and_false]
    | false => rw [decide_eq_true (Lb_un hX (by rw [h]; simp) m (Nat.le_refl _))]; rfl)
  have t := ct_add (fun _ => true) (fun x => X.testBit x) 8
  have t8 : ct (fun _ => true) 8 = 8 := rfl
  have t1 : ct (fun i => true && X.testBit i) 8 = ct (fun x => X.testBit x) 8 := ct_c (fun _ _ => Bool.true_and _)
  have t2 : ct (fun i => true && !X.testBit i) 8 = ct (fun x => !X.testBit x) 8 := ct_c (fun _ _ => Bool.true_and _)
  rw [t8, t1, t2] at t
  rw [e]
  omega
theorem tree_1 {X : Nat} (hG : Gr m A B) (hX : Us m A B X) (h0 : X.testBit c0 = true) (hr : ∀ i, i < m → ¬ rg A B s i) (hs : se s m + 1 = ct (fun x => X.testBit x) 8) : ∀ x, X.testBit x = true → (hg m A B s c0 8).testBit x = true := by
  have lt8 : ∀ v, X.testBit v = true → v < 8 := fun v hv => by
    obtain ⟨j, hj, e⟩ := (hX v).mp hv
    have g := (hG j hj).1
    omega
  have f := fc_e (s := s) hG m (Nat.le_refl _) hr
  have sp := fc_sp (s := s) hX
  have one : ct (fun x => decide (Lb A B s m x = x) && X.testBit x) 8 ≤ 1 := by omega
  intro x hx
  have r : ∀ v, X.testBit v = true → (Lb A B s m v < 8 ∧ (decide (Lb A B s m (Lb A B s m v) = Lb A B s m v) && X.testBit (Lb A B s m v)) = true) := fun v hv => by
    refine ⟨Lb_8 hG m (Nat.le_refl _) v (lt8 v hv), ?_⟩
    rw [decide_eq_true (Lb_fx m v), Bool.true_and]
    exact (us_cl hX (Lb_fx m v)).mpr hv
  have e : Lb A B s m x = Lb A B s m c0 := ct_u one (r x hx).1 (r c0 h0).1 (r x hx).2 (r c0 h0).2
  exact (Lb_cl (C := fun v => (hg m A B s c0 8).testBit v = true) (hg_cd hG (lt8 c0 h0)) m (Nat.le_refl _) x c0 e).mpr (hg_0 8)
theorem tree_2 {X : Nat} (hG : Gr m A B) (hX : Us m A B X) (h0 : X.testBit c0 = true) (hc : ∀ x, X.testBit x = true → (hg m A B s c0 8).testBit x = true) (hs : se s m + 1 = ct (fun x => X.testBit x) 8) : ∀ i, i < m → ¬ rg A B s i := by
  intro i hi hr
  have f := fc_r hG hr m (Nat.le_refl _) hi
  have sp := fc_sp (s := s) hX
  have lt8 : ∀ v, X.testBit v = true → v < 8 := fun v hv => by
    obtain ⟨j, hj, e⟩ := (hX v).mp hv
    have g := (hG j hj).1
    omega
  have one : ct (fun x => decide (Lb A B s m x = x) && X.testBit x) 8 ≤ 1 := by
    have : ct (fun x => decide (Lb A B s m x = x) && X.testBit x) 8 ≤ ct (fun x => true && decide (x = Lb A B s m c0)) 8 := ct_sub (fun k _ h => by
      have h : (decide (Lb A B s m k = k) && X.testBit k) = true := h
      rw [Bool.and_eq_true, decide_eq_true_iff] at h
      show (true && decide (k = Lb A B s m c0)) = true
      rw [Bool.true_and, decide_eq_true_iff, ← Lb_rb (hg_s 8 k (hc k h.2))]
      exact h.1.symm)
    rw [ct_eq1 (p := fun _ => true) rfl (Lb_8 hG m (Nat.le_refl _) c0 (lt8 c0 h0))] at this
    exact this
  omega
end GRAPH

/-! ===== degrees: pairs, covers, ways ===== -/
section GRAPH2
variable {m : Nat} {A B : Nat → Nat} {s : Nat}
/-- edge i of s has the end v -/
def eb (A B : Nat → Nat) (s v i : Nat) : Bool := s.testBit i && (decide (A i = v) || decide (B i = v))
theorem eb_t {v i : Nat} : eb A B s v i = true ↔ s.testBit i = true ∧ (A i = v ∨ B i = v) := by
  unfold eb
  rw [Bool.and_eq_true, Bool.or_eq_true, decide_eq_true_iff, decide_eq_true_iff]
def dg (A B : Nat → Nat) (s j v : Nat) : Nat := ct (eb A B s v) j
theorem dg_s {j v : Nat} : dg A B s (j + 1) v = dg A B s j v + (if eb A B s v j = true then 1 else 0) := rfl
/-- crossings that s touches -/
def tc (A B : Nat → Nat) (s : Nat) : Nat → Nat
  | 0 => 0
  | j + 1 => if s.testBit j = true then tc A B s j ||| (2 ^ A j ||| 2 ^ B j) else tc A B s j
theorem tc_n {j : Nat} (h : ¬ s.testBit j = true) : tc A B s (j + 1) = tc A B s j := if_neg h
theorem tc_y {j v : Nat} (h : s.testBit j = true) : (tc A B s (j + 1)).testBit v = ((tc A B s j).testBit v || decide (v = A j) || decide (v = B j)) := by
  show (if s.testBit j = true then _ else _ : Nat).testBit v = _
  rw [if_pos h, Nat.testBit_or, Nat.testBit_or, Nat.testBit_two_pow, Nat.testBit_two_pow, Bool.or_assoc]
  rw [show decide (A j = v) = decide (v = A j) from decide_eq_decide.mpr ⟨Eq.symm, Eq.symm⟩, show decide (B j = v) = decide (v = B j) from decide_eq_decide.mpr ⟨Eq.symm, Eq.symm⟩]
theorem tc_d : ∀ j v, (tc A B s j).testBit v = true ↔ 0 < dg A B s j v
  | 0, v => by
    show (0 : Nat).testBit v = true ↔ 0 < 0
    rw [Nat.zero_testBit]
    exact ⟨fun h => (by cases h), fun h => absurd h (Nat.lt_irrefl _)⟩
  | j + 1, v => by
    have ih := tc_d j v
    rw [dg_s]
    by_cases b : s.testBit j = true
    · rw [tc_y b, Bool.or_eq_true, Bool.or_eq_true, decide_eq_true_iff, decide_eq_true_iff, ih]
      by_cases q : eb A B s v j = true
      · rw [if_pos q]
        have := (eb_t.mp q).2
        constructor
        · intro _; omega
        · intro _
          rcases this with z | z
          · exact Or.inl (Or.inr z.symm)
          · exact Or.inr z.symm
      · rw [if_neg q]
        constructor
        · rintro ((h | h) | h)
          · exact h
          · exact absurd (eb_t.mpr ⟨b, Or.inl h.symm⟩) q
          · exact absurd (eb_t.mpr ⟨b, Or.inr h.symm⟩) q
        · intro h; exact Or.inl (Or.inl h)
    · rw [tc_n b, ih, if_neg (fun q => b (eb_t.mp q).1), Nat.add_zero]
theorem ct_in {p : Nat → Bool} {a n : Nat} (ha : a < n) : ct (fun x => p x || decide (x = a)) n = ct p n + (if p a = true then 0 else 1) := by
  by_cases q : p a = true
  · rw [if_pos q]
    refine ct_c (fun k _ => ?_)
    show (p k || decide (k = a)) = p k
    by_cases e : k = a
    · rw [e, q]; rfl
    · rw [decide_eq_false e, Bool.or_false]
  · rw [if_neg q, ct_rm (p := fun x => p x || decide (x = a)) ha (by rw [decide_eq_true rfl, Bool.or_true]), Nat.add_comm]
    congr 1
    refine ct_c (fun k _ => ?_)
    show ((p k || decide (k = a)) && !decide (k = a)) = p k
    by_cases e : k = a
    · rw [e, decide_eq_true rfl]
      cases h : p a with
      | true => exact absurd h q
      | false => rfl
    · rw [decide_eq_false e, Bool.or_false]
      cases p k <;> rfl
theorem pairs_ (hG : Gr m A B) : ∀ j, j ≤ m → ct (fun x => (tc A B s j).testBit x) 8 ≤ 2 * se s j ∧ (ct (fun x => (tc A B s j).testBit x) 8 = 2 * se s j ↔ ∀ v, v < 8 → dg A B s j v ≤ 1)
  | 0, _ => by
    have e : ct (fun x => (tc A B s 0).testBit x) 8 = 0 := ct_0 (fun k _ => Nat.zero_testBit k)
    rw [e]
    exact ⟨Nat.zero_le _, fun _ v _ => Nat.zero_le _, fun _ => rfl⟩
  | j + 1, hj => by
    have ih := pairs_ hG j (by omega)
    rw [se_s]
    by_cases b : s.testBit j = true
    · obtain ⟨⟨a8, b8⟩, ne⟩ := hG j (by omega)
      have e : ct (fun x => (tc A B s (j + 1)).testBit x) 8 = ct (fun x => (tc A B s j).testBit x) 8 + (if (tc A B s j).testBit (A j) = true then 0 else 1) + (if (tc A B s j).testBit (B j) = true then 0 else 1) := by
        rw [ct_c (q := fun x => ((tc A B s j).testBit x || decide (x = A j)) || decide (x = B j)) (fun k _ => tc_y b)]
        rw [ct_in (p := fun x => (tc A B s j).testBit x || decide (x = A j)) b8, ct_in a8, decide_eq_false (show ¬ B j = A j from fun z => ne z.symm), Bool.or_false]
      rw [e, if_pos b]
      have da := tc_d (A := A) (B := B) (s := s) j (A j)
      have db := tc_d (A := A) (B := B) (s := s) j (B j)
      have dv : ∀ v, dg A B s (j + 1) v = dg A B s j v + (if v = A j ∨ v = B j then 1 else 0) := fun v => by
        rw [dg_s]
        by_cases q : v = A j ∨ v = B j
        · rw [if_pos q, if_pos (eb_t.mpr ⟨b, q.imp Eq.symm Eq.symm⟩)]
        · rw [if_neg q, if_neg (fun z => q ((eb_t.mp z).2.imp Eq.symm Eq.symm))]
      refine ⟨?_, ?_⟩
      · have := ih.1
        split <;> split <;> omega
      · constructor
        · intro h
          have z : ¬ (tc A B s j).testBit (A j) = true ∧ ¬ (tc A B s j).testBit (B j) = true ∧ ct (fun x => (tc A B s j).testBit x) 8 = 2 * se s j := by
            have := ih.1
            refine ⟨fun y => ?_, fun y => ?_, ?_⟩
            · rw [if_pos y] at h
              split at h <;> omega
            · rw [if_pos y] at h
              split at h <;> omega
            · split at h <;> split at h <;> omega
          have old := ih.2.mp z.2.2
          intro v hv
          rw [dv]
          by_cases q : v = A j ∨ v = B j
          · rw [if_pos q]
            have : ¬ 0 < dg A B s j v := by
              rcases q with q | q
              · rw [q, ← da]; exact z.1
              · rw [q, ← db]; exact z.2.1
            omega
          · rw [if_neg q]; exact old v hv
        · intro h
          have old : ∀ v, v < 8 → dg A B s j v ≤ 1 := fun v hv => by
            have := h v hv
            rw [dv] at this
            omega
          have e2 := ih.2.mpr old
          have za : ¬ (tc A B s j).testBit (A j) = true := fun y => by
            have := h (A j) a8
            rw [dv, if_pos (Or.inl rfl)] at this
            have := da.mp y
            omega
          have zb : ¬ (tc A B s j).testBit (B j) = true := fun y => by
            have := h (B j) b8
            rw [dv, if_pos (Or.inr rfl)] at this
            have := db.mp y
            omega
          rw [if_neg za, if_neg zb]
          omega
    · have dv : ∀ v, dg A B s (j + 1) v = dg A B s j v := fun v => by
        rw [dg_s, if_neg (fun q => b (eb_t.mp q).1), Nat.add_zero]
      rw [tc_n b, if_neg b, Nat.add_zero]
      refine ⟨ih.1, ih.2.trans ⟨fun h v hv => by rw [dv]; exact h v hv, fun h v hv => by rw [← dv]; exact h v hv⟩⟩
theorem cover_ {X : Nat} (hX : Us m A B X) : tc A B s m = X ↔ ∀ v, X.testBit v = true → 0 < dg A B s m v := by
  constructor
  · intro h v hv
    rw [← h] at hv
    exact (tc_d m v).mp hv
  · intro h
    apply Nat.eq_of_testBit_eq
    intro v
    rw [Bool.eq_iff_iff]
    refine ⟨fun z => ?_, fun z => (tc_d m v).mpr (h v z)⟩
    have z := (tc_d m v).mp z
    have : ¬ ct (eb A B s v) m = 0 := by unfold dg at z; omega
    obtain ⟨j, hj, e⟩ := ct_ex.mp this
    exact (hX v).mpr ⟨j, hj, (eb_t.mp e).2⟩
/-! ways -/
def Ac (A B : Nat → Nat) (j v w : Nat) : Prop := (A j = v ∧ B j = w) ∨ (B j = v ∧ A j = w)
def WyN (m : Nat) (A B : Nat → Nat) (g : Nat) : Nat → Nat → Nat → Nat → Nat → Prop
  | 0, _, _, _, _ => False
  | k + 1, v, V, U, r => (∃ j, j < m ∧ Ac A B j v g ∧ V.testBit g = false ∧ r = U ||| 2 ^ j) ∨ ∃ j w, j < m ∧ Ac A B j v w ∧ V.testBit w = false ∧ w ≠ g ∧ WyN m A B g k w (V ||| 2 ^ w) (U ||| 2 ^ j) r
def Wy (m : Nat) (A B : Nat → Nat) (g v V U r : Nat) : Prop := ∃ k, WyN m A B g k v V U r
theorem Wy.last {g v V U j : Nat} (hj : j < m) (a : Ac A B j v g) (b : V.testBit g = false) : Wy m A B g v V U (U ||| 2 ^ j) := ⟨1, Or.inl ⟨j, hj, a, b, rfl⟩⟩
theorem Wy.step {g v V U j w r : Nat} (hj : j < m) (a : Ac A B j v w) (b : V.testBit w = false) (c : w ≠ g) (h : Wy m A B g w (V ||| 2 ^ w) (U ||| 2 ^ j) r) : Wy m A B g v V U r := by
  obtain ⟨k, h⟩ := h
  exact ⟨k + 1, Or.inr ⟨j, w, hj, a, b, c, h⟩⟩
theorem Wy.cs {g v V U r : Nat} (h : Wy m A B g v V U r) : (∃ j, j < m ∧ Ac A B j v g ∧ V.testBit g = false ∧ r = U ||| 2 ^ j) ∨ ∃ j w, j < m ∧ Ac A B j v w ∧ V.testBit w = false ∧ w ≠ g ∧ Wy m A B g w (V ||| 2 ^ w) (U ||| 2 ^ j) r := by
  obtain ⟨k, h⟩ := h
  cases k with
  | zero => exact h.elim
  | succ k =>
    rcases h with h | ⟨j, w, a, b, c, d, e⟩
    · exact Or.inl h
    · exact Or.inr ⟨j, w, a, b, c, d, k, e⟩
theorem Wy_ind {g : Nat} {P : Nat → Nat → Nat → Nat → Prop} (hl : ∀ v V U j, j < m → Ac A B j v g → V.testBit g = false → P v V U (U ||| 2 ^ j)) (hs : ∀ v V U j w r, j < m → Ac A B j v w → V.testBit w = false → w ≠ g → P w (V ||| 2 ^ w) (U ||| 2 ^ j) r → P v V U r) {v V U r : Nat} (h : Wy m A B g v V U r) : P v V U r := by
  obtain ⟨k, h⟩ := h
  induction k generalizing v V U r with
  | zero => exact h.elim
  | succ k ih =>
    rcases h with ⟨j, a, b, c, rfl⟩ | ⟨j, w, a, b, c, d, e⟩
    · exact hl _ _ _ _ a b c
    · exact hs _ _ _ _ _ _ a b c d (ih e)
theorem orb {U j i : Nat} : (U ||| 2 ^ j).testBit i = true ↔ U.testBit i = true ∨ i = j := by
  rw [Nat.testBit_or, Nat.testBit_two_pow, Bool.or_eq_true, decide_eq_true_iff]
  exact ⟨fun h => h.imp id Eq.symm, fun h => h.imp id Eq.symm⟩
theorem orn {U j i : Nat} : (U ||| 2 ^ j).testBit i = false ↔ U.testBit i = false ∧ ¬ i = j := by
  rw [← Bool.not_eq_true, orb]
  constructor
  · intro h
    refine ⟨?_, fun z => h (Or.inr z)⟩
    cases q : U.testBit i with
    | false => rfl
    | true => exact absurd (Or.inl q) h
  · rintro ⟨a, b⟩ (h | h)
    · rw [a] at h; cases h
    · exact b h
/-- an edge more -/
theorem dg_o {U j : Nat} (hj : j < m) (hn : U.testBit j = false) (v : Nat) : dg A B (U ||| 2 ^ j) m v = dg A B U m v + (if A j = v ∨ B j = v then 1 else 0) := by
  unfold dg
  by_cases q : A j = v ∨ B j = v
  · rw [if_pos q, ct_rm (p := eb A B (U ||| 2 ^ j) v) hj (eb_t.mpr ⟨orb.mpr (Or.inr rfl), q⟩), Nat.add_comm]
    congr 1
    refine ct_c (fun k _ => ?_)
    show (eb A B (U ||| 2 ^ j) v k && !decide (k = j)) = eb A B U v k
    by_cases e : k = j
    · subst e
      rw [decide_eq_true rfl]
      cases h : eb A B U v k with
      | false => rw [Bool.not_true, Bool.and_false]
      | true => rw [(eb_t.mp h).1] at hn; cases hn
    · rw [decide_eq_false e, Bool.not_false, Bool.and_true, Bool.eq_iff_iff, eb_t, eb_t, orb]
      exact ⟨fun h => ⟨h.1.elim id (fun z => absurd z e), h.2⟩, fun h => ⟨Or.inl h.1, h.2⟩⟩
  · rw [if_neg q, Nat.add_zero]
    refine ct_c (fun k _ => ?_)
    rw [Bool.eq_iff_iff, eb_t, eb_t, orb]
    exact ⟨fun h => ⟨h.1.elim id (fun z => absurd (by rw [← z]; exact h.2) q), h.2⟩, fun h => ⟨Or.inl h.1, h.2⟩⟩
theorem dg_0 (v : Nat) : dg A B 0 m v = 0 := ct_0 (fun k _ => by
  cases h : eb A B 0 v k with
  | false => rfl
  | true =>
    have := (eb_t.mp h).1
    rw [Nat.zero_testBit] at this
    cases this)
/-- what a walk adds -/
theorem Wy_D (hG : Gr m A B) {g v V U r : Nat} (h : Wy m A B g v V U r) (hv : V.testBit v = true) (hg : V.testBit g = false) : ∃ D, (∀ i, r.testBit i = true ↔ (U.testBit i = true ∨ D.testBit i = true)) ∧ (∀ i, D.testBit i = true → i < m) ∧ (dg A B D m v = 1 ∧ dg A B D m g = 1) ∧ (∀ x, x ≠ v → x ≠ g → (dg A B D m x = 0 ∨ dg A B D m x = 2) ∧ (V.testBit x = true → dg A B D m x = 0)) ∧ ∀ C : Nat, Cd m A B D C → C.testBit v = true → ∀ x, 0 < dg A B D m x → C.testBit x = true := by
  revert hv hg
  refine Wy_ind (P := fun v V U r => V.testBit v = true → V.testBit g = false → ∃ D, (∀ i, r.testBit i = true ↔ (U.testBit i = true ∨ D.testBit i = true)) ∧ (∀ i, D.testBit i = true → i < m) ∧ (dg A B D m v = 1 ∧ dg A B D m g = 1) ∧ (∀ x, x ≠ v → x ≠ g → (dg A B D m x = 0 ∨ dg A B D m x = 2) ∧ (V.testBit x = true → dg A B D m x = 0)) ∧ ∀ C : Nat, Cd m A B D C → C.testBit v = true → ∀ x, 0 < dg A B D m x → C.testBit x = true) ?_ ?_ h
  · intro v V U j hj ac hV hv hg
    have vg : v ≠ g := fun e => by rw [e, hg] at hv; cases hv
    have d1 : ∀ x, dg A B (0 ||| 2 ^ j) m x = (if A j = x ∨ B j = x then 1 else 0) := fun x => by rw [dg_o hj (Nat.zero_testBit j), dg_0, Nat.zero_add]
    have ends : ∀ x, (A j = x ∨ B j = x) ↔ (x = v ∨ x = g) := fun x => by
      rcases ac with ⟨a, b⟩ | ⟨a, b⟩
      · rw [a, b]; exact ⟨fun z => z.imp Eq.symm Eq.symm, fun z => z.imp Eq.symm Eq.symm⟩
      · rw [a, b]; exact ⟨fun z => z.elim (fun y => Or.inr y.symm) (fun y => Or.inl y.symm), fun z => z.elim (fun y => Or.inr y.symm) (fun y => Or.inl y.symm)⟩
    refine ⟨0 ||| 2 ^ j, fun i => ?_, fun i hi => ?_, ⟨?_, ?_⟩, fun x h1 h2 => ?_, fun C hC hCv x hx => ?_⟩
    · rw [orb, orb, Nat.zero_testBit]
      exact ⟨fun h => h.imp id Or.inr, fun h => h.imp id (fun z => z.elim (fun y => by cases y) id)⟩
    · rcases orb.mp hi with z | z
      · rw [Nat.zero_testBit] at z; cases z
      · rw [z]; exact hj
    · rw [d1, if_pos ((ends v).mpr (Or.inl rfl))]
    · rw [d1, if_pos ((ends g).mpr (Or.inr rfl))]
    · have : dg A B (0 ||| 2 ^ j) m x = 0 := by
        rw [d1, if_neg (fun z => ((ends x).mp z).elim h1 h2)]
      exact ⟨Or.inl this, fun _ => this⟩
    · rw [d1] at hx
      by_cases q : A j = x ∨ B j = x
      · have b : (0 ||| 2 ^ j).testBit j = true := orb.mpr (Or.inr rfl)
        have c := hC j hj b
        rcases (ends x).mp q with e | e
        · rw [e]; exact hCv
        · rw [e]
          rcases ac with ⟨a, b⟩ | ⟨a, b⟩
          · rw [a, b] at c; exact c.mp hCv
          · rw [a, b] at c; exact c.mpr hCv
      · rw [if_neg q] at hx; exact absurd hx (Nat.lt_irrefl _)
  · intro v V U j w r hj ac hV wg ih hv hg
    have ih := ih
    have vg : v ≠ g := fun e => by rw [e, hg] at hv; cases hv
    have vw : v ≠ w := fun e => by rw [e, hV] at hv; cases hv
    obtain ⟨D, hr, hm, ⟨d1, d2⟩, dx, hcl⟩ := ih (orb.mpr (Or.inr rfl)) (orn.mpr ⟨hg, fun z => wg z.symm⟩)
    have dv0 : dg A B D m v = 0 := (dx v vw vg).2 (orb.mpr (Or.inl hv))
    have ends : ∀ x, (A j = x ∨ B j = x) ↔ (x = v ∨ x = w) := fun x => by
      rcases ac with ⟨a, b⟩ | ⟨a, b⟩
      · rw [a, b]; exact ⟨fun z => z.imp Eq.symm Eq.symm, fun z => z.imp Eq.symm Eq.symm⟩
      · rw [a, b]; exact ⟨fun z => z.elim (fun y => Or.inr y.symm) (fun y => Or.inl y.symm), fun z => z.elim (fun y => Or.inr y.symm) (fun y => Or.inl y.symm)⟩
    have jn : D.testBit j = false := by
      cases h : D.testBit j with
      | false => rfl
      | true =>
        have : ¬ ct (eb A B D v) m = 0 := ct_ex.mpr ⟨j, hj, eb_t.mpr ⟨h, (ends v).mpr (Or.inl rfl)⟩⟩
        exact absurd dv0 this
    have d : ∀ x, dg A B (D ||| 2 ^ j) m x = dg A B D m x + (if x = v ∨ x = w then 1 else 0) := fun x => by
      rw [dg_o hj jn]
      by_cases q : x = v ∨ x = w
      · rw [if_pos q, if_pos ((ends x).mpr q)]
      · rw [if_neg q, if_neg (fun z => q ((ends x).mp z))]
    refine ⟨D ||| 2 ^ j, fun i => ?_, fun i hi => ?_, ⟨?_, ?_⟩, fun x h1 h2 => ?_, fun C hC hCv x hx => ?_⟩
    · rw [hr i, orb, orb]
      constructor
      · rintro ((z | z) | z)
        · exact Or.inl z
        · exact Or.inr (Or.inr z)
        · exact Or.inr (Or.inl z)
      · rintro (z | z | z)
        · exact Or.inl (Or.inl z)
        · exact Or.inr z
        · exact Or.inl (Or.inr z)
    · rcases orb.mp hi with z | z
      · exact hm i z
      · rw [z]; exact hj
    · rw [d, dv0, if_pos (Or.inl rfl)]
    · rw [d, d2, if_neg (fun z => z.elim (fun y => vg y.symm) (fun y => wg y.symm))]
    · by_cases e : x = w
      · subst e
        have xn : ¬ V.testBit x = true := by rw [hV]; simp
        refine ⟨Or.inr ?_, fun z => absurd z xn⟩
        rw [d, d1, if_pos (Or.inr rfl)]
      · have dd := dx x e h2
        have en : dg A B (D ||| 2 ^ j) m x = dg A B D m x := by rw [d, if_neg (fun z => z.elim h1 e), Nat.add_zero]
        rw [en]
        exact ⟨dd.1, fun z => dd.2 (orb.mpr (Or.inl z))⟩
    · have cj := hC j hj (orb.mpr (Or.inr rfl))
      have cw : C.testBit w = true := by
        rcases ac with ⟨a, b⟩ | ⟨a, b⟩
        · rw [a, b] at cj; exact cj.mp hCv
        · rw [a, b] at cj; exact cj.mpr hCv
      have cD : Cd m A B D C := fun i hi b => hC i hi (orb.mpr (Or.inl b))
      rw [d] at hx
      by_cases q : x = v ∨ x = w
      · rcases q with q | q
        · rw [q]; exact hCv
        · rw [q]; exact cw
      · rw [if_neg q, Nat.add_zero] at hx
        exact hcl C cD cw x hx
/-- what the reference asks of a way -/
def IsW (m : Nat) (A B : Nat → Nat) (s v g : Nat) : Prop := (dg A B s m v = 1 ∧ dg A B s m g = 1) ∧ ∀ x, x < 8 → (0 < dg A B s m x → (hg m A B s v 8).testBit x = true) ∧ (x ≠ v → x ≠ g → dg A B s m x = 0 ∨ dg A B s m x = 2)
theorem way_1 (hG : Gr m A B) {g v : Nat} (v8 : v < 8) (hne : v ≠ g) (h : Wy m A B g v (2 ^ v) 0 s) : IsW m A B s v g := by
  have b0 : ∀ x, (2 ^ v).testBit x = true ↔ x = v := fun x => by
    rw [Nat.testBit_two_pow, decide_eq_true_iff]; exact ⟨Eq.symm, Eq.symm⟩
  obtain ⟨D, hr, _, hd, dx, hcl⟩ := Wy_D hG h ((b0 v).mpr rfl) (by
    cases q : (2 ^ v).testBit g with
    | false => rfl
    | true => exact absurd ((b0 g).mp q).symm hne)
  have e : s = D := Nat.eq_of_testBit_eq (fun i => by
    rw [Bool.eq_iff_iff, hr i, Nat.zero_testBit]
    exact ⟨fun z => z.elim (fun y => by cases y) id, Or.inr⟩)
  subst e
  exact ⟨hd, fun x _ => ⟨fun z => hcl _ (hg_cd hG v8) (hg_0 8) x z, fun h1 h2 => (dx x h1 h2).1⟩⟩
theorem dg_eq {U x : Nat} (hs : ∀ i, U.testBit i = true → s.testBit i = true) (e : dg A B s m x ≤ dg A B U m x) {j : Nat} (hj : j < m) (hb : s.testBit j = true) (he : A j = x ∨ B j = x) : U.testBit j = true := by
  cases q : U.testBit j with
  | true => rfl
  | false =>
    have := ct_lt (p := eb A B U x) (q := eb A B s x) (n := m) (fun k _ h => eb_t.mpr ⟨hs k (eb_t.mp h).1, (eb_t.mp h).2⟩) hj (eb_t.mpr ⟨hb, he⟩) (by
      cases z : eb A B U x j with
      | false => rfl
      | true => rw [(eb_t.mp z).1] at q; cases q)
    unfold dg at e
    omega
theorem dg_lt {U x : Nat} (e : dg A B U m x < dg A B s m x) : ∃ j, j < m ∧ (s.testBit j = true ∧ U.testBit j = false) ∧ (A j = x ∨ B j = x) := by
  refine Classical.byContradiction (fun h => ?_)
  have : ct (eb A B s x) m ≤ ct (eb A B U x) m := ct_sub (fun k hk hq => by
    have q := eb_t.mp hq
    cases z : U.testBit k with
    | true => exact eb_t.mpr ⟨z, q.2⟩
    | false => exact absurd ⟨k, hk, ⟨q.1, z⟩, q.2⟩ h)
  unfold dg at e
  omega
/-- between two steps: v is reached by U over the crossings V -/
theorem way_go (hG : Gr m A B) {g c : Nat} (c8 : c < 8) (g8 : g < 8) (hne : c ≠ g) (hW : IsW m A B s c g) (hm : ∀ i, s.testBit i = true → i < m) : ∀ (k v V U : Nat), v < 8 → (∀ i, U.testBit i = true → s.testBit i = true) → V.testBit v = true → V.testBit g = false → V.testBit c = true → (∀ x, V.testBit x = true → x < 8) → (dg A B U m v + 1 = dg A B s m v) → (∀ x, V.testBit x = true → x ≠ v → dg A B U m x = dg A B s m x) → (∀ x, ¬ V.testBit x = true → dg A B U m x = 0) → 8 ≤ ct (fun x => V.testBit x) 8 + k → Wy m A B g v V U s := by
  intro k
  induction k with
  | zero =>
    intro v V U v8 _ _ hg _ _ _ _ _ h8
    have := ct_lt (p := fun x => V.testBit x) (q := fun _ => true) (n := 8) (fun _ _ _ => rfl) g8 rfl hg
    have t8 : ct (fun _ => true) 8 = 8 := rfl
    omega
  | succ k ih =>
    intro v V U v8 hU hv hg hc hV8 dv dV dn h8
    have vg : v ≠ g := fun e => by rw [e, hg] at hv; cases hv
    obtain ⟨j, hj, ⟨bs, bu⟩, he⟩ := dg_lt (m := m) (A := A) (B := B) (U := U) (s := s) (x := v) (by omega)
    obtain ⟨⟨a8, b8⟩, ab⟩ := hG j hj
    -- the other end
    obtain ⟨w, ac, w8, wv, wends⟩ : ∃ w, Ac A B j v w ∧ w < 8 ∧ w ≠ v ∧ (A j = w ∨ B j = w) := by
      rcases he with e | e
      · exact ⟨B j, Or.inl ⟨e, rfl⟩, b8, fun z => ab (e.trans z.symm), Or.inr rfl⟩
      · exact ⟨A j, Or.inr ⟨e, rfl⟩, a8, fun z => ab (z.trans e.symm), Or.inl rfl⟩
    have wn : V.testBit w = false := by
      cases q : V.testBit w with
      | false => rfl
      | true =>
        have := dg_eq hU (Nat.le_of_eq (dV w q wv).symm) hj bs wends
        rw [bu] at this; cases this
    have ends : ∀ x, (A j = x ∨ B j = x) ↔ (x = v ∨ x = w) := fun x => by
      rcases ac with ⟨a, b⟩ | ⟨a, b⟩
      · rw [a, b]; exact ⟨fun z => z.imp Eq.symm Eq.symm, fun z => z.imp Eq.symm Eq.symm⟩
      · rw [a, b]; exact ⟨fun z => z.elim (fun y => Or.inr y.symm) (fun y => Or.inl y.symm), fun z => z.elim (fun y => Or.inr y.symm) (fun y => Or.inl y.symm)⟩
    have d : ∀ x, dg A B (U ||| 2 ^ j) m x = dg A B U m x + (if x = v ∨ x = w then 1 else 0) := fun x => by
      rw [dg_o hj bu]
      by_cases q : x = v ∨ x = w
      · rw [if_pos q, if_pos ((ends x).mpr q)]
      · rw [if_neg q, if_neg (fun z => q ((ends x).mp z))]
    have U2 : ∀ i, (U ||| 2 ^ j).testBit i = true → s.testBit i = true := fun i hi => (orb.mp hi).elim (hU i) (fun z => by rw [z]; exact bs)
    have dw0 : dg A B U m w = 0 := dn w (by rw [wn]; simp)
    by_cases wg : w = g
    · subst wg
      -- all of s is used
      have full : ∀ x, (V.testBit x = true ∨ x = w) → dg A B (U ||| 2 ^ j) m x = dg A B s m x := fun x hx => by
        rw [d]
        by_cases e : x = v
        · rw [e, if_pos (Or.inl rfl)]; exact dv
        · by_cases e2 : x = w
          · rw [e2, if_pos (Or.inr rfl), dw0, hW.1.2]
          · rw [if_neg (fun z => z.elim e e2), Nat.add_zero]
            exact dV x (hx.resolve_right e2) e
      have inV : ∀ x, 0 < dg A B (U ||| 2 ^ j) m x → (V.testBit x = true ∨ x = w) := fun x hx => by
        by_cases e : x = v
        · rw [e]; exact Or.inl hv
        · by_cases e2 : x = w
          · exact Or.inr e2
          · rw [d, if_neg (fun z => z.elim e e2), Nat.add_zero] at hx
            refine Or.inl (Classical.byContradiction (fun z => ?_))
            rw [dn x z] at hx
            exact absurd hx (Nat.lt_irrefl _)
      have used : ∀ i x, i < m → s.testBit i = true → (A i = x ∨ B i = x) → (V.testBit x = true ∨ x = w) → (U ||| 2 ^ j).testBit i = true := fun i x hi b e hx => dg_eq U2 (Nat.le_of_eq (full x hx).symm) hi b e
      have touch : ∀ i x, i < m → (U ||| 2 ^ j).testBit i = true → (A i = x ∨ B i = x) → (V.testBit x = true ∨ x = w) := fun i x hi b e => inV x (by
        have : ¬ ct (eb A B (U ||| 2 ^ j) x) m = 0 := ct_ex.mpr ⟨i, hi, eb_t.mpr ⟨b, e⟩⟩
        unfold dg
        omega)
      have reach : ∀ x, Rb m A B s c x → (V.testBit x = true ∨ x = w) := fun x hx => by
        exact hx (fun x => V.testBit x = true ∨ x = w) (Or.inl hc) (fun i hi b ih => touch _ _ hi (used _ _ hi b (Or.inl rfl) ih) (Or.inr rfl)) (fun i hi b ih => touch _ _ hi (used _ _ hi b (Or.inr rfl) ih) (Or.inl rfl))
      have es : s = U ||| 2 ^ j := Nat.eq_of_testBit_eq (fun i => by
        rw [Bool.eq_iff_iff]
        refine ⟨fun b => ?_, U2 i⟩
        have hi := hm i b
        have pos : 0 < dg A B s m (A i) := by
          have : ¬ ct (eb A B s (A i)) m = 0 := ct_ex.mpr ⟨i, hi, eb_t.mpr ⟨b, Or.inl rfl⟩⟩
          unfold dg
          omega
        exact used i (A i) hi b (Or.inl rfl) (reach _ (hg_s 8 _ ((hW.2 _ (hG i hi).1.1).1 pos))))
      rw [es]
      exact Wy.last hj ac wn
    · refine Wy.step hj ac wn wg (ih w (V ||| 2 ^ w) (U ||| 2 ^ j) w8 U2 (orb.mpr (Or.inr rfl)) (orn.mpr ⟨hg, fun z => wg z.symm⟩) (orb.mpr (Or.inl hc)) (fun x hx => (orb.mp hx).elim (hV8 x) (fun z => by rw [z]; exact w8)) ?_ (fun x hx hxw => ?_) (fun x hx => ?_) ?_)
      · have cw : w ≠ c := fun z => by rw [z, hc] at wn; cases wn
        have pos : 0 < dg A B s m w := by
          have : ¬ ct (eb A B s w) m = 0 := ct_ex.mpr ⟨j, hj, eb_t.mpr ⟨bs, wends⟩⟩
          unfold dg
          omega
        rw [d, dw0, if_pos (Or.inr rfl)]
        rcases (hW.2 w w8).2 cw wg with z | z
        · omega
        · rw [z]
      · have hx := (orb.mp hx).resolve_right hxw
        rw [d]
        by_cases e : x = v
        · rw [e, if_pos (Or.inl rfl)]; exact dv
        · rw [if_neg (fun z => z.elim e hxw), Nat.add_zero]; exact dV x hx e
      · have h1 : ¬ V.testBit x = true := fun z => hx (orb.mpr (Or.inl z))
        have h2 : ¬ x = w := fun z => hx (orb.mpr (Or.inr z))
        have h3 : ¬ x = v := fun z => h1 (by rw [z]; exact hv)
        rw [d, if_neg (fun z => z.elim h3 h2), Nat.add_zero]; exact dn x h1
      · have := ct_lt (p := fun x => V.testBit x) (q := fun x => (V ||| 2 ^ w).testBit x) (n := 8) (fun _ _ h => orb.mpr (Or.inl h)) w8 (orb.mpr (Or.inr rfl)) wn
        omega
theorem way_2 (hG : Gr m A B) {g c : Nat} (c8 : c < 8) (g8 : g < 8) (hne : c ≠ g) (hW : IsW m A B s c g) (hm : ∀ i, s.testBit i = true → i < m) : Wy m A B g c (2 ^ c) 0 s := by
  have b0 : ∀ x, (2 ^ c).testBit x = true ↔ x = c := fun x => by
    rw [Nat.testBit_two_pow, decide_eq_true_iff]; exact ⟨Eq.symm, Eq.symm⟩
  refine way_go hG c8 g8 hne hW hm 8 c (2 ^ c) 0 c8 (fun i hi => by rw [Nat.zero_testBit] at hi; cases hi) ((b0 c).mpr rfl) ?_ ((b0 c).mpr rfl) (fun x hx => by rw [(b0 x).mp hx]; exact c8) (by rw [dg_0, hW.1.1]) (fun x hx hn => absurd ((b0 x).mp hx) hn) (fun x _ => dg_0 x) (by omega)
  cases q : (2 ^ c).testBit g with
  | false => rfl
  | true => exact absurd ((b0 g).mp q).symm hne
end GRAPH2

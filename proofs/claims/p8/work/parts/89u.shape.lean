/-! ===== the class's combine and reshape, as sets of sets ===== -/
/-- what two families give -/
def CS (w : Int32) (X Y : Nat → Bool) (n u : Nat) : Prop := if w = 3 then (∃ s t, (s < n ∧ X s = true) ∧ (t < n ∧ Y t = true) ∧ s ||| t = u) else if w = 5 then u < n ∧ X u = true ∧ ¬ ∃ s t, (s < n ∧ Y s = true) ∧ (t < n ∧ OV X Y n t) ∧ s ||| t = u else GS w X Y n u
/-- what a family turns to -/
def RS (w : Int32) (X : Nat → Bool) (n u : Nat) : Prop := if w = 2 then HT X n u ∧ ¬ ∃ t, t ≠ u ∧ HT X n t ∧ sb t u else TS w X n u
section SHP
variable {N f g n u : Nat} {σ : zS} {F G : Nat → Bool}
theorem bit_of {t u : Nat} (h : sb t u) (ne : t ≠ u) : ∃ i, t.testBit i = false ∧ u.testBit i = true := by
  apply Classical.byContradiction
  intro no
  refine ne (Nat.eq_of_testBit_eq (fun i => ?_))
  cases a : t.testBit i with
  | true => exact (h i a).symm
  | false =>
    cases b : u.testBit i with
    | false => rfl
    | true => exact absurd ⟨i, a, b⟩ no
/-- one that lies truly below -/
theorem least_iff (hF : inN F n) (hn : n ≤ 10) (hu : u < 2 ^ n) : upI (ovI F n) n u = true ↔ ∃ t, t < 2 ^ n ∧ t ≠ u ∧ F t = true ∧ sb t u := by
  rw [upI_iff]
  constructor
  · rintro ⟨v, a, _, c⟩
    obtain ⟨i, hi, vi, fv⟩ := ovI_iff.mp c
    have s1 : sb (v ^^^ 2 ^ i) v := fun j q => by
      rw [xb] at q
      by_cases e : i = j
      · rw [← e]; exact vi
      · rw [decide_eq_false e, Bool.xor_false] at q; exact q
    have s2 : sb (v ^^^ 2 ^ i) u := s1.tr a
    refine ⟨v ^^^ 2 ^ i, sb_lt s2 hu, fun e => ?_, fv, s2⟩
    have x1 : u.testBit i = true := a i vi
    rw [← e, xb, vi, decide_eq_true rfl] at x1
    cases x1
  · rintro ⟨t, ht, ne, ft, s⟩
    obtain ⟨i, ti, ui⟩ := bit_of s ne
    have hi : i < n := by
      rcases Nat.lt_or_ge i n with h | h
      · exact h
      · rw [tb_lt hu h] at ui; cases ui
    refine ⟨t ^^^ 2 ^ i, fun j q => ?_, fun j hj => ?_, ovI_iff.mpr ⟨i, hi, ?_, ?_⟩⟩
    · rw [xb] at q
      by_cases e : i = j
      · rw [← e]; exact ui
      · rw [decide_eq_false e, Bool.xor_false] at q; exact s j q
    · rw [tb_lt hu hj, tb_lt (x_lt ht hi) hj]
    · rw [xb, ti, decide_eq_true rfl]; rfl
    · rw [x_x]; exact ft
/-- one that lies truly above -/
theorem greatest_iff (hF : inN F n) (hn : n ≤ 10) (hu : u < 2 ^ n) : dnI (udI F n) n u = true ↔ ∃ t, t < 2 ^ n ∧ t ≠ u ∧ F t = true ∧ sb u t := by
  rw [dnI_iff]
  constructor
  · rintro ⟨v, a, b, c⟩
    obtain ⟨i, hi, vi, fv⟩ := udI_iff.mp c
    have hv : v < 2 ^ n := lt_tb (fun j hj => by rw [b j hj]; exact tb_lt hu hj)
    have s1 : sb v (v ^^^ 2 ^ i) := fun j q => by
      rw [xb]
      by_cases e : i = j
      · rw [← e, vi] at q; cases q
      · rw [decide_eq_false e, Bool.xor_false]; exact q
    refine ⟨v ^^^ 2 ^ i, x_lt hv hi, fun e => ?_, fv, a.tr s1⟩
    have x1 : (v ^^^ 2 ^ i).testBit i = true := by rw [xb, vi, decide_eq_true rfl]; rfl
    rw [e] at x1
    rw [a i x1] at vi
    cases vi
  · rintro ⟨t, ht, ne, ft, s⟩
    obtain ⟨i, ui, ti⟩ := bit_of s (fun e => ne e.symm)
    have hi : i < n := by
      rcases Nat.lt_or_ge i n with h | h
      · exact h
      · rw [tb_lt ht h] at ti; cases ti
    refine ⟨t ^^^ 2 ^ i, fun j q => ?_, fun j hj => ?_, udI_iff.mpr ⟨i, hi, ?_, ?_⟩⟩
    · rw [xb]
      by_cases e : i = j
      · rw [← e, ui] at q; cases q
      · rw [decide_eq_false e, Bool.xor_false]; exact s j q
    · rw [tb_lt hu hj, tb_lt (x_lt ht hi) hj]
    · rw [xb, ti, decide_eq_true rfl]; rfl
    · rw [x_x]; exact ft
/-- a member within, of a set's names that are left -/
theorem miss_iff (hF : inN F n) (hn : n ≤ 10) (hu : u < 2 ^ n) : upI F n (u ^^^ (2 ^ n - 1)) = true ↔ ∃ t, t < 2 ^ n ∧ F t = true ∧ u &&& t = 0 := by
  have pn := p2le hn
  have cb : ∀ i, (u ^^^ (2 ^ n - 1)).testBit i = (u.testBit i ^^ decide (i < n)) := fun i => by
    rw [Nat.testBit_xor, Nat.testBit_two_pow_sub_one]
  rw [upI_iff]
  constructor
  · rintro ⟨v, a, b, c⟩
    have hv : v < 2 ^ n := lt_tb (fun j hj => by rw [b j hj, cb, tb_lt hu hj, decide_eq_false (by omega)]; rfl)
    refine ⟨v, hv, c, and_z.mpr (fun i => ?_)⟩
    rintro ⟨x, y⟩
    have := a i y
    rw [cb, x] at this
    have hi : i < n := by
      rcases Nat.lt_or_ge i n with h | h
      · exact h
      · rw [tb_lt hu h] at x; cases x
    rw [decide_eq_true hi] at this
    cases this
  · rintro ⟨t, ht, ft, e⟩
    refine ⟨t, fun i y => ?_, fun j hj => ?_, ft⟩
    · have hi : i < n := by
        rcases Nat.lt_or_ge i n with h | h
        · exact h
        · rw [tb_lt ht h] at y; cases y
      rw [cb, decide_eq_true hi]
      cases x : u.testBit i with
      | false => rfl
      | true => exact absurd ⟨x, y⟩ (and_z.mp e i)
    · rw [cb, tb_lt hu hj, tb_lt ht hj, decide_eq_false (by omega)]; rfl
theorem upc {X Y : Nat → Bool} (h : ∀ u, u < 1024 → X u = Y u) : ∀ k, k ≤ 10 → ∀ u, u < 1024 → upI X k u = upI Y k u
  | 0, _, u, hu => h u hu
  | k + 1, hk, u, hu => by
    show (upI _ k u || (u.testBit k && upI _ k (u ^^^ 2 ^ k))) = (upI _ k u || (u.testBit k && upI _ k (u ^^^ 2 ^ k)))
    rw [upc h k (by omega) u hu, upc h k (by omega) _ (x_1024 hu (by omega))]
theorem bt_f {b : Bool} {p : Prop} (h : b = true ↔ p) : b = false ↔ ¬ p := by
  rw [← h]; cases b <;> simp
/-- the class turns a family as the reference does -/
theorem v_reshape {w : Int32} (hR : RF σ.2.2) (hF : isF f) (hn : n ≤ 10) (hI : inN (bt (σ.2.1 (f + 1))) n) : Pt (f_X0_reshape N 99 w f (nI n) σ) (fun r => LG [f + 1, 101, 103] σ r.2 ∧ ∀ u, u < 1024 → (bt (r.2.2.1 (f + 1)) u = true ↔ RS w (bt (σ.2.1 (f + 1))) (2 ^ n) u)) := by
  have pn := p2le hn
  have hF2 := hF.2
  have xl : ∀ u, u < 1024 → u ^^^ (2 ^ n - 1) < 1024 := fun u hu => Nat.xor_lt_two_pow (n := 10) hu (by omega)
  have least : ∀ {X : Nat → Bool}, inN X n → ∀ u, u < 1024 → ((X u && !upI (ovI X n) n u) = true ↔ TS 0 X (2 ^ n) u) := fun {X} hX u hu => by
    show _ ↔ u < 2 ^ n ∧ (if (0 : Int32) = 0 then X u = true ∧ ¬ ∃ t, t < 2 ^ n ∧ t ≠ u ∧ X t = true ∧ sb t u else _)
    rw [if_pos rfl, Bool.and_eq_true, Bool.not_eq_true']
    constructor
    · rintro ⟨a, b⟩
      have l := hX u hu a
      exact ⟨l, a, (bt_f (least_iff hX hn l)).mp b⟩
    · rintro ⟨l, a, b⟩
      exact ⟨a, (bt_f (least_iff hX hn l)).mpr b⟩
  rw [f_X0_reshape.eq_1]
  refine pt_if (fun w0 => ?_) (fun w0 => pt_if (fun w1 => ?_) (fun w1 => pt_if (fun w2 => ?_) (fun w2 => pt_if (fun w3 => ?_) (fun w3 => pt_if (fun w4 => ?_) (fun w4 => pt_if (fun w5 => ?_) (fun w5 => ?_))))))
  · subst w0
    refine pt_gC (pt_zb (v_keepLeast hR hF hn) (fun _ σ1 h1 => pt_some ⟨h1.1, fun u hu => ?_⟩))
    have h1 : bt (σ1.2.1 (f + 1)) u = _ := h1.2 u hu
    show bt (σ1.2.1 (f + 1)) u = true ↔ _
    rw [h1, least hI u hu]
    unfold RS
    rw [if_neg (by decide)]
  · subst w1
    refine pt_gC (pt_zb (v_keepGreatest hR hF hn) (fun _ σ1 h1 => pt_some ⟨h1.1, fun u hu => ?_⟩))
    have h1 : bt (σ1.2.1 (f + 1)) u = _ := h1.2 u hu
    show bt (σ1.2.1 (f + 1)) u = true ↔ _
    unfold RS TS
    rw [if_neg (by decide), if_neg (by decide), if_pos rfl, h1, Bool.and_eq_true, Bool.not_eq_true']
    constructor
    · rintro ⟨a, b⟩
      have l := hI u hu a
      exact ⟨l, a, (bt_f (greatest_iff hI hn l)).mp b⟩
    · rintro ⟨l, a, b⟩
      exact ⟨a, (bt_f (greatest_iff hI hn l)).mpr b⟩
  · subst w2
    refine pt_gC (pt_zb (v_becomeMissing hR hF.1 hn) (fun _ σ1 h1 => ?_))
    obtain ⟨l1, u1⟩ := h1
    have l1 : LF (f + 1) σ σ1 := l1
    have u1 : ∀ u, u < 1024 → bt (σ1.2.1 (f + 1)) u = upI (bt (σ.2.1 (f + 1))) n (u ^^^ (2 ^ n - 1)) := u1
    have R1 := l1.R hR
    refine pt_gC (pt_zb (v_complement R1 hF hn) (fun _ σ2 h2 => ?_))
    obtain ⟨l2, u2⟩ := h2
    have l2 : LG [f + 1, 101] σ1 σ2 := l2
    have u2 : ∀ u, u < 1024 → bt (σ2.2.1 (f + 1)) u = (decide (u < 2 ^ n) && !bt (σ1.2.1 (f + 1)) u) := u2
    have R2 := l2.R R1
    have ht : ∀ u, u < 1024 → (bt (σ2.2.1 (f + 1)) u = true ↔ HT (bt (σ.2.1 (f + 1))) (2 ^ n) u) := fun u hu => by
      rw [u2 u hu, u1 u hu, Bool.and_eq_true, decide_eq_true_iff, Bool.not_eq_true']
      constructor
      · rintro ⟨l, b⟩
        refine ⟨l, fun t ht ft z => ?_⟩
        exact (bt_f (miss_iff hI hn l)).mp b ⟨t, ht, ft, z⟩
      · rintro ⟨l, b⟩
        refine ⟨l, (bt_f (miss_iff hI hn l)).mpr ?_⟩
        rintro ⟨t, ht, ft, z⟩
        exact b t ht ft z
    have I2 : inN (bt (σ2.2.1 (f + 1))) n := fun u hu h => ((ht u hu).mp h).1
    refine pt_gC (pt_zb (v_keepLeast R2 hF hn) (fun _ σ3 h3 => pt_some ?_))
    obtain ⟨l3, u3⟩ := h3
    have l3 : LG [f + 1, 101, 103] σ2 σ3 := l3
    refine ⟨((l1.G (by simp)).tr (l2.wk (by simp))).tr l3, fun u hu => ?_⟩
    have u3 : bt (σ3.2.1 (f + 1)) u = _ := u3 u hu
    show bt (σ3.2.1 (f + 1)) u = true ↔ _
    rw [u3, least I2 u hu]
    unfold RS TS
    rw [if_pos rfl, if_pos rfl, ht u hu]
    constructor
    · rintro ⟨_, a, b⟩
      refine ⟨a, ?_⟩
      rintro ⟨t, ne, c, s⟩
      exact b ⟨t, c.1, ne, (ht t (by have := c.1; omega)).mpr c, s⟩
    · rintro ⟨a, b⟩
      refine ⟨a.1, a, ?_⟩
      rintro ⟨t, lt, ne, c, s⟩
      exact b ⟨t, ne, (ht t (by omega)).mp c, s⟩
  · subst w3
    refine pt_gC (pt_zb (v_complement hR hF hn) (fun _ σ1 h1 => pt_some ⟨h1.1.wk (by simp), fun u hu => ?_⟩))
    have h1 : bt (σ1.2.1 (f + 1)) u = _ := h1.2 u hu
    show bt (σ1.2.1 (f + 1)) u = true ↔ _
    unfold RS TS
    rw [if_neg (by decide), if_neg (by decide), if_neg (by decide), if_pos rfl, h1, Bool.and_eq_true, decide_eq_true_iff, Bool.not_eq_true']
  · subst w4
    refine pt_gC (pt_zb (v_raiseAll hR hF.1 hn) (fun _ σ1 h1 => pt_some ⟨h1.1.G (by simp), fun u hu => ?_⟩))
    have h1 : bt (σ1.2.1 (f + 1)) u = _ := h1.2 u hu
    show bt (σ1.2.1 (f + 1)) u = true ↔ _
    unfold RS TS
    rw [if_neg (by decide), if_neg (by decide), if_neg (by decide), if_neg (by decide), if_pos rfl, h1]
    constructor
    · intro h
      have l := up_in hI hu h
      refine ⟨l, ?_⟩
      obtain ⟨v, a, _, c⟩ := upI_iff.mp h
      by_cases e : v = u
      · rw [e] at c; exact Or.inl c
      · exact Or.inr ⟨v, sb_lt a l, e, c, a⟩
    · rintro ⟨l, h⟩
      refine ((up_iff hI hn hu).mpr ⟨?_, l⟩).1
      rcases h with h | ⟨t, _, _, c, a⟩
      · exact ⟨u, sb.rf, h⟩
      · exact ⟨t, a, c⟩
  · subst w5
    refine pt_gC (pt_zb (v_lowerAll hR hF.1 hn) (fun _ σ1 h1 => pt_some ⟨h1.1.G (by simp), fun u hu => ?_⟩))
    have h1 : bt (σ1.2.1 (f + 1)) u = _ := h1.2 u hu
    show bt (σ1.2.1 (f + 1)) u = true ↔ _
    unfold RS TS
    rw [if_neg (by decide), if_neg (by decide), if_neg (by decide), if_neg (by decide), if_neg (by decide), if_pos rfl, h1, dnI_iff]
    constructor
    · rintro ⟨v, a, b, c⟩
      have hv : v < 1024 := lt_tb (n := 10) (fun j hj => by rw [b j (by omega)]; exact tb_lt (n := 10) hu hj)
      have l := hI v hv c
      refine ⟨sb_lt a l, ?_⟩
      by_cases e : v = u
      · rw [e] at c; exact Or.inl c
      · exact Or.inr ⟨v, l, e, c, a⟩
    · rintro ⟨l, h⟩
      rcases h with h | ⟨t, lt, _, c, a⟩
      · exact ⟨u, sb.rf, fun _ _ => rfl, h⟩
      · exact ⟨t, a, fun j hj => by rw [tb_lt lt hj, tb_lt l hj], c⟩
  · refine pt_some ⟨LG.rf, fun u hu => ?_⟩
    show bt (σ.2.1 (f + 1)) u = true ↔ _
    unfold RS TS
    rw [if_neg w2, if_neg w0, if_neg w1, if_neg w3, if_neg w4, if_neg w5]
    exact ⟨fun h => ⟨hI u hu h, h⟩, fun h => h.2⟩
/-- the class gives of two families what the reference does -/
theorem v_combine {w : Int32} (hR : RF σ.2.2) (hF : isF f) (hG : isF g) (ne : f ≠ g) (hn : n ≤ 10) (hI : inN (bt (σ.2.1 (f + 1))) n) (hJ : inN (bt (σ.2.1 (g + 1))) n) : Pt (f_X0_combine N 99 w f g (nI n) σ) (fun r => AG [106, 107] [f + 1, 101, 103, 105] σ r.2 ∧ ∀ u, u < 1024 → (bt (r.2.2.1 (f + 1)) u = true ↔ CS w (bt (σ.2.1 (f + 1))) (bt (σ.2.1 (g + 1))) (2 ^ n) u)) := by
  have pn := p2le hn
  have hF2 := hF.2
  have hG2 := hG.2
  have dv : ∀ {X Y : Nat → Bool} {u : Nat}, inN Y n → ((∃ t, t < 1024 ∧ Y t = true) ∧ dvC X Y u ↔ OV X Y (2 ^ n) u) := fun {X Y u} hY => by
    constructor
    · rintro ⟨⟨t, ht, a⟩, b⟩
      exact ⟨⟨t, hY t ht a, a⟩, fun t ht => b t (by omega)⟩
    · rintro ⟨⟨t, ht, a⟩, b⟩
      exact ⟨⟨t, by omega, a⟩, fun t ht a => b t (hY t ht a) a⟩
  rw [f_X0_combine.eq_1]
  refine pt_if (fun w0 => ?_) (fun w0 => pt_if (fun w1 => ?_) (fun w1 => pt_if (fun w2 => ?_) (fun w2 => pt_if (fun w3 => ?_) (fun w3 => pt_if (fun w4 => ?_) (fun w4 => pt_if (fun w5 => ?_) (fun w5 => ?_))))))
  · subst w0
    refine pt_gC (pt_zb (v_join hR hF.1 hG.1) (fun _ σ1 h1 => pt_some ⟨h1.1.A (by simp), fun u hu => ?_⟩))
    have h1 : bt (σ1.2.1 (f + 1)) u = _ := h1.2 u hu
    show bt (σ1.2.1 (f + 1)) u = true ↔ _
    unfold CS GS
    rw [if_neg (by decide), if_neg (by decide), if_pos rfl, h1, Bool.or_eq_true]
    exact ⟨fun h => ⟨h.elim (hI u hu) (hJ u hu), h⟩, fun h => h.2⟩
  · subst w1
    refine pt_gC (pt_zb (v_takeAway hR hF.1 hG.1) (fun _ σ1 h1 => pt_some ⟨h1.1.A (by simp), fun u hu => ?_⟩))
    have h1 : bt (σ1.2.1 (f + 1)) u = _ := h1.2 u hu
    show bt (σ1.2.1 (f + 1)) u = true ↔ _
    unfold CS GS
    rw [if_neg (by decide), if_neg (by decide), if_neg (by decide), if_pos rfl, h1, Bool.and_eq_true, Bool.not_eq_true']
    exact ⟨fun h => ⟨hI u hu h.1, h⟩, fun h => h.2⟩
  · subst w2
    refine pt_gC (pt_zb (v_cutBy hR hF.1 hG.1) (fun _ σ1 h1 => pt_some ⟨h1.1.A (by simp), fun u hu => ?_⟩))
    have h1 : bt (σ1.2.1 (f + 1)) u = _ := h1.2 u hu
    show bt (σ1.2.1 (f + 1)) u = true ↔ _
    unfold CS GS
    rw [if_neg (by decide), if_neg (by decide), if_neg (by decide), if_neg (by decide), if_pos rfl, h1, Bool.and_eq_true]
    exact ⟨fun h => ⟨hI u hu h.1, h⟩, fun h => h.2⟩
  · subst w3
    refine pt_gC (pt_zb (v_multiply hR hF hG.1 hn) (fun _ σ1 h1 => pt_some ⟨h1.1.wk (by simp) (by simp), fun u hu => ?_⟩))
    have h1 : bt (σ1.2.1 (f + 1)) u = true ↔ _ := h1.2 u hu
    show bt (σ1.2.1 (f + 1)) u = true ↔ _
    unfold CS
    rw [if_pos rfl, h1]
    constructor
    · rintro ⟨_, a, b, ⟨a1, a2⟩, ⟨b1, b2⟩, e⟩
      exact ⟨a, b, ⟨hI a a1 a2, a2⟩, ⟨hJ b b1 b2, b2⟩, e⟩
    · rintro ⟨a, b, ⟨a1, a2⟩, ⟨b1, b2⟩, e⟩
      exact ⟨by rw [← e]; exact Nat.or_lt_two_pow a1 b1, a, b, ⟨by omega, a2⟩, ⟨by omega, b2⟩, e⟩
  · subst w4
    refine pt_gC (pt_zb (v_divide hR hF hG hn) (fun _ σ1 h1 => pt_some ⟨(h1.1.wk (by simp)).A, fun u hu => ?_⟩))
    have h1 : bt (σ1.2.1 (f + 1)) u = true ↔ _ := h1.2 u hu
    show bt (σ1.2.1 (f + 1)) u = true ↔ _
    rw [h1, dv hJ]
    unfold CS GS OV
    rw [if_neg (by decide), if_neg (by decide), if_neg (by decide), if_neg (by decide), if_neg (by decide), if_pos rfl]
  · subst w5
    refine pt_gR (v := 104) (hR 99 2 rfl) (pt_gC (pt_zb (v_copyFrom hR k100.2.2 hF.1) (fun _ σ1 h1 => ?_)))
    obtain ⟨l1, u1⟩ := h1
    have l1 : LF 105 σ σ1 := l1
    have u1 : ∀ u, u < 1024 → bt (σ1.2.1 105) u = bt (σ.2.1 (f + 1)) u := u1
    have R1 := l1.R hR
    refine pt_gC (pt_zb (v_divide R1 hF hG hn) (fun _ σ2 h2 => ?_))
    obtain ⟨l2, u2⟩ := h2
    have l2 : LG [f + 1, 101, 103] σ1 σ2 := l2
    have u2 : ∀ u, u < 1024 → (bt (σ2.2.1 (f + 1)) u = true ↔ u < 2 ^ n ∧ (∃ t, t < 1024 ∧ bt (σ1.2.1 (g + 1)) t = true) ∧ dvC (bt (σ1.2.1 (f + 1))) (bt (σ1.2.1 (g + 1))) u) := u2
    rw [l1.2.2 (f + 1) (by omega), l1.2.2 (g + 1) (by omega)] at u2
    have R2 := l2.R R1
    refine pt_gC (pt_zb (v_multiply R2 hF hG.1 hn) (fun _ σ3 h3 => ?_))
    obtain ⟨l3, u3⟩ := h3
    have l3 : AG [106, 107] [f + 1] σ2 σ3 := l3
    have u3 : ∀ u, u < 1024 → (bt (σ3.2.1 (f + 1)) u = true ↔ u < 2 ^ n ∧ ∃ a b, (a < 1024 ∧ bt (σ2.2.1 (f + 1)) a = true) ∧ (b < 1024 ∧ bt (σ2.2.1 (g + 1)) b = true) ∧ a ||| b = u) := u3
    rw [l2.2.2 (g + 1) (by simp only [List.mem_cons, List.not_mem_nil, or_false]; omega), l1.2.2 (g + 1) (by omega)] at u3
    have R3 := l3.R R2
    refine pt_gR (v := 104) (R3 99 2 rfl) (pt_gC (pt_zb (v_takeAway R3 k100.2.2 hF.1) (fun _ σ4 h4 => ?_)))
    obtain ⟨l4, u4⟩ := h4
    have l4 : LF 105 σ3 σ4 := l4
    have u4 : ∀ u, u < 1024 → bt (σ4.2.1 105) u = (bt (σ3.2.1 105) u && !bt (σ3.2.1 (f + 1)) u) := u4
    have R4 := l4.R R3
    refine pt_gR (v := 104) (R4 99 2 rfl) (pt_gC (pt_zb (v_copyFrom R4 hF.1 k100.2.2) (fun _ σ5 h5 => pt_some ?_)))
    obtain ⟨l5, u5⟩ := h5
    have l5 : LF (f + 1) σ4 σ5 := l5
    refine ⟨((((l1.A (by simp)).tr (l2.wk (by simp)).A).tr (l3.wk (by simp) (by simp))).tr (l4.A (by simp))).tr (l5.A (by simp)), fun u hu => ?_⟩
    have u5 : bt (σ5.2.1 (f + 1)) u = bt (σ4.2.1 105) u := u5 u hu
    have e105 : σ3.2.1 105 = σ1.2.1 105 := by
      rw [l3.2.2 105 (by simp only [List.mem_cons, List.not_mem_nil, or_false]; omega), l2.2.2 105 (by simp only [List.mem_cons, List.not_mem_nil, or_false]; omega)]
    show bt (σ5.2.1 (f + 1)) u = true ↔ _
    unfold CS
    rw [if_neg (by decide), if_pos rfl, u5, u4 u hu, e105, u1 u hu, Bool.and_eq_true, Bool.not_eq_true', bt_f (u3 u hu)]
    constructor
    · rintro ⟨a, b⟩
      have l := hI u hu a
      refine ⟨l, a, ?_⟩
      rintro ⟨s, t, ⟨s1, s2⟩, ⟨t1, t2⟩, e⟩
      exact b ⟨l, t, s, ⟨by omega, (u2 t (by omega)).mpr ⟨t1, (dv hJ).mpr t2⟩⟩, ⟨by omega, s2⟩, by rw [Nat.or_comm]; exact e⟩
    · rintro ⟨l, a, b⟩
      refine ⟨a, ?_⟩
      rintro ⟨_, t, s, ⟨t1, t2⟩, ⟨s1, s2⟩, e⟩
      have d := (u2 t t1).mp t2
      exact b ⟨s, t, ⟨hJ s s1 s2, s2⟩, ⟨d.1, (dv hJ).mp d.2⟩, by rw [Nat.or_comm]; exact e⟩
  · refine pt_gR (v := 100) (hR 99 0 rfl) (pt_gC (pt_zb (v_copyFrom hR k100.1 hG.1) (fun _ σ1 h1 => ?_)))
    obtain ⟨l1, u1⟩ := h1
    have l1 : LF 101 σ σ1 := l1
    have u1 : ∀ u, u < 1024 → bt (σ1.2.1 101) u = bt (σ.2.1 (g + 1)) u := u1
    have R1 := l1.R hR
    refine pt_gR (v := 100) (R1 99 0 rfl) (pt_gC (pt_zb (v_becomeMissing R1 k100.1 hn) (fun _ σ2 h2 => ?_)))
    obtain ⟨l2, u2⟩ := h2
    have l2 : LF 101 σ1 σ2 := l2
    have u2 : ∀ u, u < 1024 → bt (σ2.2.1 101) u = upI (bt (σ1.2.1 101)) n (u ^^^ (2 ^ n - 1)) := u2
    have R2 := l2.R R1
    refine pt_gR (v := 100) (R2 99 0 rfl) (pt_gC (pt_zb (v_takeAway R2 hF.1 k100.1) (fun _ σ3 h3 => pt_some ?_)))
    obtain ⟨l3, u3⟩ := h3
    have l3 : LF (f + 1) σ2 σ3 := l3
    refine ⟨((l1.A (by simp)).tr (l2.A (by simp))).tr (l3.A (by simp)), fun u hu => ?_⟩
    have u3 : bt (σ3.2.1 (f + 1)) u = (bt (σ2.2.1 (f + 1)) u && !bt (σ2.2.1 101) u) := u3 u hu
    have xl : u ^^^ (2 ^ n - 1) < 1024 := Nat.xor_lt_two_pow (n := 10) hu (by omega)
    show bt (σ3.2.1 (f + 1)) u = true ↔ _
    unfold CS GS
    rw [if_neg w3, if_neg w5, if_neg w0, if_neg w1, if_neg w2, if_neg w4, u3, l2.2.2 (f + 1) (by omega), l1.2.2 (f + 1) (by omega), u2 u hu, upc u1 n hn _ xl, Bool.and_eq_true, Bool.not_eq_true']
    constructor
    · rintro ⟨a, b⟩
      have l := hI u hu a
      refine ⟨l, a, fun t ht ft z => ?_⟩
      exact (bt_f (miss_iff hJ hn l)).mp b ⟨t, ht, ft, z⟩
    · rintro ⟨l, a, b⟩
      refine ⟨a, (bt_f (miss_iff hJ hn l)).mpr ?_⟩
      rintro ⟨t, ht, ft, z⟩
      exact b t ht ft z
/-- both depend on the sets below 1024 alone, and stay within the names -/
theorem CS_in {w : Int32} {X Y : Nat → Bool} (h : CS w X Y (2 ^ n) u) : u < 2 ^ n := by
  unfold CS at h
  by_cases w3 : w = 3
  · rw [if_pos w3] at h
    obtain ⟨s, t, a, b, e⟩ := h
    rw [← e]; exact Nat.or_lt_two_pow a.1 b.1
  · rw [if_neg w3] at h
    by_cases w5 : w = 5
    · rw [if_pos w5] at h; exact h.1
    · rw [if_neg w5] at h; exact h.1
theorem RS_in {w : Int32} {X : Nat → Bool} (h : RS w X (2 ^ n) u) : u < 2 ^ n := by
  unfold RS at h
  by_cases w2 : w = 2
  · rw [if_pos w2] at h; exact h.1.1
  · rw [if_neg w2] at h; exact h.1
end SHP

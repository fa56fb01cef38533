/-! ===== the class's store of nodes ===== -/
def hsh (p l h : Nat) : Nat := (h * 613 + l * 37 + p) % 2048
theorem hsh_lt {p l h : Nat} : hsh p l h < 2048 := Nat.mod_lt _ (by decide)
theorem nI_hsh (p l h : Nat) : ((nI h * 613) + (nI l * 37) + nI p) &&& 2047 = nI (hsh p l h) := by
  rw [show (613 : Int32) = nI 613 from rfl, show (37 : Int32) = nI 37 from rfl, show (2047 : Int32) = nI 2047 from rfl, nI_mul, nI_mul, nI_plus, nI_plus, nI_and]
  congr 1
  exact Nat.and_two_pow_sub_one_eq_mod _ 11
theorem nl_ {a b : Nat} (ha : a ≤ 2000) (hb : b ≤ 2000) : nI a < nI b ↔ a < b := by
  rw [Int32.lt_iff_toInt_lt, nI_toInt (by omega), nI_toInt (by omega)]
  omega
theorem nI_c {a b : Nat} (h : a = b) : nI a = nI b := by rw [h]
theorem nI_leb {a b : Nat} (ha : a < 2000000) (hb : b < 2000000) : nI a ≤ nI b ↔ a ≤ b := by
  rw [Int32.le_iff_toInt_le, nI_toInt (by omega), nI_toInt (by omega)]
  omega
def hsF (pl lo hi : Nat → Nat) : Nat → Nat := fun i => hsh (pl i) (lo i) (hi i)
def NS (σ : zS) (u : Nat) (pl lo hi : Nat → Nat) : Prop := σ.1 111 8 = nI u ∧ (∀ i, 2 ≤ i → i < u → (σ.1 114 i = nI (pl i) ∧ σ.1 115 i = nI (lo i) ∧ σ.1 116 i = nI (hi i)) ∧ σ.1 113 i = nI (gp (hsF pl lo hi) (hsF pl lo hi i) i)) ∧ ∀ b, b < 2048 → σ.1 112 b = nI (gp (hsF pl lo hi) b u)
def NLS : List Nat := [111, 112, 113, 114, 115, 116, 119]
theorem NS_c {σ τ : zS} {u : Nat} {pl lo hi : Nat → Nat} (h : ∀ a ∈ [111, 112, 113, 114, 115, 116], τ.1 a = σ.1 a) (hN : NS σ u pl lo hi) : NS τ u pl lo hi := by
  unfold NS at hN ⊢
  rw [h 111 (by decide), h 112 (by decide), h 113 (by decide), h 114 (by decide), h 115 (by decide), h 116 (by decide)]
  exact hN
section NODE
variable {N u p l h : Nat} {pl lo hi : Nat → Nat} {σ : zS}
def NQ (σ : zS) (u p l h : Nat) (pl lo hi : Nat → Nat) (r : Int32 × zS) : Prop := r.2.2 = σ.2 ∧ ((∃ i, ((2 ≤ i ∧ i < u) ∧ pl i = p ∧ lo i = l ∧ hi i = h) ∧ r.1 = nI i ∧ r.2.1 = σ.1) ∨ ((∀ i, 2 ≤ i → i < u → ¬ (pl i = p ∧ lo i = l ∧ hi i = h)) ∧ r.1 = nI u ∧ NS r.2 (u + 1) (un pl u p) (un lo u l) (un hi u h) ∧ r.2.1 119 = upd (σ.1 119) p (σ.1 119 p + 1) ∧ ∀ a, a ∉ NLS → r.2.1 a = σ.1 a))
theorem v_headOf : Px (f_X1_headOf N (nI p) (nI l) (nI h) σ) σ (fun v => v = nI (hsh p l h)) := by
  rw [f_X1_headOf.eq_1]
  exact pt_some ⟨rfl, nI_hsh p l h⟩
theorem hsF_o {i : Nat} (hi' : i < u) : hsF (un pl u p) (un lo u l) (un hi u h) i = hsF pl lo hi i := by
  unfold hsF
  rw [un_n (by omega), un_n (by omega), un_n (by omega)]
theorem hsF_u : hsF (un pl u p) (un lo u l) (un hi u h) u = hsh p l h := by
  unfold hsF
  rw [un_s, un_s, un_s]
theorem v_n93 (hR : RF σ.2.2) (hN : NS σ u pl lo hi) (hu : 2 ≤ u ∧ u < 1600) (hp : p < 10) (no : ∀ i, 2 ≤ i → i < u → ¬ (pl i = p ∧ lo i = l ∧ hi i = h)) : Pt (J_X1_node_93 N 111 (nI p) (nI l) (nI h) (nI (hsh p l h)) σ) (NQ σ u p l h pl lo hi) := by
  obtain ⟨e8, rows, heads⟩ := hN
  have hb := hsh_lt (p := p) (l := l) (h := h)
  rw [J_X1_node_93.eq_1]
  refine pt_gI ?_
  rw [e8]
  refine pt_if (fun q => ?_) (fun _ => pt_if (fun q => ?_) (fun _ => pt_if (fun _ => ?_) (fun q => ?_)))
  · have q : nI 1600 ≤ nI u := q
    rw [nlt (by omega) (by omega)] at q
    omega
  · have q : nI p < nI 0 := q
    rw [nl_ (by omega) (by omega)] at q
    omega
  · refine pt_gI ?_
    rw [e8, nI_m1]
    refine pt_pIx (fun τ1 a1 b1 c1 => ?_)
    have R1 : RF τ1.2.2 := by rw [c1]; exact hR
    refine pt_gR (v := 114) (R1 111 2 rfl) (pt_s14x (fun τ2 a2 b2 c2 => ?_))
    have R2 : RF τ2.2.2 := by rw [c2]; exact R1
    refine pt_gR (v := 115) (R2 111 3 rfl) (pt_s14x (fun τ3 a3 b3 c3 => ?_))
    have R3 : RF τ3.2.2 := by rw [c3]; exact R2
    refine pt_gR (v := 116) (R3 111 4 rfl) (pt_s14x (fun τ4 a4 b4 c4 => ?_))
    have R4 : RF τ4.2.2 := by rw [c4]; exact R3
    refine pt_gR (v := 113) (R4 111 1 rfl) (pt_gR (v := 112) (R4 111 0 rfl) (pt_aI (pt_s14x (fun τ5 a5 b5 c5 => ?_))))
    have R5 : RF τ5.2.2 := by rw [c5]; exact R4
    refine pt_gR (v := 112) (R5 111 0 rfl) (pt_s14x (fun τ6 a6 b6 c6 => ?_))
    have R6 : RF τ6.2.2 := by rw [c6]; exact R5
    refine pt_gR (v := 119) (R6 111 7 rfl) (pt_aI (pt_s14x (fun τ7 a7 b7 c7 => ?_)))
    rw [iN (m := u) (by omega)] at a2 a3 a4 a5
    rw [iNb (m := hsh p l h) (by omega)] at a5 a6
    rw [iN (m := p) (by omega)] at a7
    have f4 : τ4.1 112 = σ.1 112 := by rw [b4 112 (by decide), b3 112 (by decide), b2 112 (by decide), b1 112 (by decide)]
    rw [f4, heads _ hb] at a5
    have r111 : τ7.1 111 = upd (σ.1 111) 8 (nI (u + 1)) := by rw [b7 111 (by decide), b6 111 (by decide), b5 111 (by decide), b4 111 (by decide), b3 111 (by decide), b2 111 (by decide), a1]
    have r114 : τ7.1 114 = upd (σ.1 114) u (nI p) := by rw [b7 114 (by decide), b6 114 (by decide), b5 114 (by decide), b4 114 (by decide), b3 114 (by decide), a2, b1 114 (by decide)]
    have r115 : τ7.1 115 = upd (σ.1 115) u (nI l) := by rw [b7 115 (by decide), b6 115 (by decide), b5 115 (by decide), b4 115 (by decide), a3, b2 115 (by decide), b1 115 (by decide)]
    have r116 : τ7.1 116 = upd (σ.1 116) u (nI h) := by rw [b7 116 (by decide), b6 116 (by decide), b5 116 (by decide), a4, b3 116 (by decide), b2 116 (by decide), b1 116 (by decide)]
    have r113 : τ7.1 113 = upd (σ.1 113) u (nI (gp (hsF pl lo hi) (hsh p l h) u)) := by rw [b7 113 (by decide), b6 113 (by decide), a5, b4 113 (by decide), b3 113 (by decide), b2 113 (by decide), b1 113 (by decide)]
    have r112 : τ7.1 112 = upd (σ.1 112) (hsh p l h) (nI u) := by rw [b7 112 (by decide), a6, b5 112 (by decide), f4]
    have f119 : τ6.1 119 = σ.1 119 := by rw [b6 119 (by decide), b5 119 (by decide), b4 119 (by decide), b3 119 (by decide), b2 119 (by decide), b1 119 (by decide)]
    rw [f119] at a7
    refine pt_some ⟨?_, Or.inr ⟨no, rfl, ⟨?_, fun i i2 iu => ?_, fun b hb' => ?_⟩, a7, fun a ha => ?_⟩⟩
    · show τ7.2 = σ.2
      rw [c7, c6, c5, c4, c3, c2, c1]
    · show τ7.1 111 8 = _
      rw [r111, upd_s]
    · show (τ7.1 114 i = _ ∧ τ7.1 115 i = _ ∧ τ7.1 116 i = _) ∧ τ7.1 113 i = _
      rw [r114, r115, r116, r113]
      by_cases q : i = u
      · subst q
        rw [upd_s, upd_s, upd_s, upd_s, un_s, un_s, un_s, hsF_u]
        refine ⟨⟨rfl, rfl, rfl⟩, ?_⟩
        exact nI_c (gp_c (fun j hj => (hsF_o hj).symm))
      · have iu' : i < u := by omega
        obtain ⟨⟨x1, x2, x3⟩, x4⟩ := rows i i2 iu'
        rw [upd_n q, upd_n q, upd_n q, upd_n q, un_n q, un_n q, un_n q, hsF_o iu']
        refine ⟨⟨x1, x2, x3⟩, x4.trans ?_⟩
        exact nI_c (gp_c (fun j hj => (hsF_o (by omega)).symm))
    · show τ7.1 112 b = nI (if 2 ≤ u ∧ hsF (un pl u p) (un lo u l) (un hi u h) u = b then u else gp (hsF (un pl u p) (un lo u l) (un hi u h)) b u)
      rw [r112, hsF_u, upd_i]
      by_cases q : b = hsh p l h
      · rw [if_pos q, if_pos ⟨hu.1, q.symm⟩]
      · rw [if_neg q, if_neg (fun z => q z.2.symm), heads b hb']
        exact nI_c (gp_c (fun j hj => (hsF_o hj).symm))
    · show τ7.1 a = σ.1 a
      unfold NLS at ha
      simp only [List.mem_cons, List.not_mem_nil, or_false, not_or] at ha
      rw [b7 a (by omega), b6 a (by omega), b5 a (by omega), b4 a (by omega), b3 a (by omega), b2 a (by omega), b1 a (by omega)]
  · have q : ¬ nI p < nI 10 := q
    rw [nl_ (by omega) (by omega)] at q
    omega
theorem v_node (hR : RF σ.2.2) (hN : NS σ u pl lo hi) (hu : 2 ≤ u ∧ u < 1600) (hp : p < 10) (hl : l < 1600) (hh : h < 1600) (hb : ∀ i, 2 ≤ i → i < u → pl i < 10 ∧ lo i < 1600 ∧ hi i < 1600) : Pt (f_X1_node N 111 (nI p) (nI l) (nI h) σ) (NQ σ u p l h pl lo hi) := by
  have hN0 := hN
  obtain ⟨e8, rows, heads⟩ := hN
  have hb2 := hsh_lt (p := p) (l := l) (h := h)
  rw [f_X1_node.eq_1]
  refine pt_zbq v_headOf (fun v1 h1 => ?_)
  subst h1
  refine pt_gR (v := 112) (hR 111 0 rfl) (pt_aI ?_)
  rw [iNb (m := hsh p l h) (by omega), heads _ hb2]
  have isl : ∀ i, (pl i = p ∧ lo i = l ∧ hi i = h) → hsF pl lo hi i = hsh p l h := fun i q => by
    unfold hsF
    rw [q.1, q.2.1, q.2.2]
  have j0 : gp (hsF pl lo hi) (hsh p l h) u = 0 ∨ ((2 ≤ gp (hsF pl lo hi) (hsh p l h) u ∧ gp (hsF pl lo hi) (hsh p l h) u < u) ∧ hsF pl lo hi (gp (hsF pl lo hi) (hsh p l h) u) = hsh p l h) := by
    by_cases q : gp (hsF pl lo hi) (hsh p l h) u = 0
    · exact Or.inl q
    · exact Or.inr (gp_is q)
  refine pt_lp (fun x : Int32 × Int32 × zS => x.2.2 = σ ∧ ∃ j c, (x.1 = nI j ∧ x.2.1 = nI c) ∧ c + j ≤ 1600 ∧ (j = 0 ∨ ((2 ≤ j ∧ j < u) ∧ hsF pl lo hi j = hsh p l h)) ∧ ∀ i, 2 ≤ i → i < u → j < i → ¬ (pl i = p ∧ lo i = l ∧ hi i = h)) (fun again x hJ ih => ?_) N _ ⟨rfl, _, 0, ⟨rfl, rfl⟩, by omega, j0, fun i i2 iu ij q => ?_⟩
  · obtain ⟨y5, y6, τ⟩ := x
    obtain ⟨eo, j, c, ⟨e5o, e6o⟩, hc, hj, hno⟩ := hJ
    have e : τ = σ := eo
    have e5 : y5 = nI j := e5o
    have e6 : y6 = nI c := e6o
    clear eo e5o e6o
    subst e
    subst e5
    subst e6
    rw [F_X1_node_20.eq_1]
    have out : j = 0 → Pt (J_X1_node_93 N 111 (nI p) (nI l) (nI h) (nI (hsh p l h)) τ) (NQ τ u p l h pl lo hi) := fun z => v_n93 hR hN0 hu hp (fun i i2 iu => hno i i2 iu (by omega))
    refine pt_if (fun q => out ?_) (fun _ => pt_if (fun q => out ?_) (fun q1 => pt_if (fun q => ?_) (fun _ => ?_)))
    · have q : nI 1600 ≤ nI c := q
      rw [nlt (by omega) (by omega)] at q
      omega
    · have q : nI j < nI 2 := q
      rw [nl_ (by omega) (by omega)] at q
      rcases hj with z | z
      · exact z
      · omega
    · have q : nI 1600 ≤ nI j := q
      rw [nlt (by omega) (by omega)] at q
      rcases hj with z | z <;> omega
    · have q1 : ¬ nI j < nI 2 := q1
      rw [nl_ (by omega) (by omega)] at q1
      obtain ⟨⟨j2, ju⟩, jH⟩ := hj.resolve_left (by omega)
      obtain ⟨⟨x1, x2, x3⟩, x4⟩ := rows j j2 ju
      obtain ⟨w1, w2, w3⟩ := hb j j2 ju
      rw [jH] at x4
      have nxt : ¬ (pl j = p ∧ lo j = l ∧ hi j = h) → Pt (zl (gR 1 1 111 τ) fun v => zl (aI 14 v (nI j) τ) fun v30 => again (v30, nI c + 1, τ)) (NQ τ u p l h pl lo hi) := fun nq => by
        refine pt_gR (v := 113) (hR 111 1 rfl) (pt_aI ?_)
        rw [iN (m := j) (by omega), x4, nI_m1]
        have jj := gp_lt (H := hsF pl lo hi) (b := hsh p l h) (j - 1)
        rw [show j - 1 + 1 = j by omega] at jj
        refine ih (nI (gp (hsF pl lo hi) (hsh p l h) j), nI (c + 1), τ) ⟨rfl, _, c + 1, ⟨rfl, rfl⟩, by omega, ?_, fun i i2 iu ij q => ?_⟩
        · by_cases z : gp (hsF pl lo hi) (hsh p l h) j = 0
          · exact Or.inl z
          · have := gp_is z
            exact Or.inr ⟨⟨this.1.1, by omega⟩, this.2⟩
        · by_cases z : j < i
          · exact hno i i2 iu z q
          · by_cases z2 : i = j
            · rw [z2] at q; exact nq q
            · have := gp_ge (u := j) i2 (by omega) (isl i q)
              omega
      refine pt_gR (v := 114) (hR 111 2 rfl) (pt_aI ?_)
      rw [iN (m := j) (by omega), x1]
      refine pt_if (fun a => ?_) (fun a => nxt (fun z => a (by rw [z.1])))
      rw [nI_inj (by omega) (by omega)] at a
      refine pt_gR (v := 115) (hR 111 3 rfl) (pt_aI ?_)
      rw [iN (m := j) (by omega), x2]
      refine pt_if (fun b => ?_) (fun b => nxt (fun z => b (by rw [z.2.1])))
      rw [nI_inj (by omega) (by omega)] at b
      refine pt_gR (v := 116) (hR 111 4 rfl) (pt_aI ?_)
      rw [iN (m := j) (by omega), x3]
      refine pt_if (fun d => ?_) (fun d => nxt (fun z => d (by rw [z.2.2])))
      rw [nI_inj (by omega) (by omega)] at d
      exact pt_some ⟨rfl, Or.inl ⟨j, ⟨⟨j2, ju⟩, a, b, d⟩, rfl, rfl⟩⟩
  · have ij : gp (hsF pl lo hi) (hsh p l h) u < i := ij
    have := gp_ge (u := u) i2 iu (isl i q)
    omega
/-- the class's store between calls: heads are those of its nodes -/
def HQ (σ : zS) : Prop := ∃ u, (σ.1 111 8 = nI u ∧ 2 ≤ u ∧ u ≤ 1600) ∧ ∃ pl lo hi : Nat → Nat, (∀ i, 2 ≤ i → i < u → σ.1 114 i = nI (pl i) ∧ σ.1 115 i = nI (lo i) ∧ σ.1 116 i = nI (hi i)) ∧ ∀ b, b < 2048 → ¬ σ.1 112 b = 0 → ∃ i, (2 ≤ i ∧ i < u) ∧ hsF pl lo hi i = b
theorem HQ_NS (hN : NS σ u pl lo hi) (hu : 2 ≤ u ∧ u ≤ 1600) : HQ σ := ⟨u, ⟨hN.1, hu⟩, pl, lo, hi, fun i i2 iu => (hN.2.1 i i2 iu).1, fun b hb q => by
  have z : gp (hsF pl lo hi) b u ≠ 0 := fun z => q (by rw [hN.2.2 b hb, z]; rfl)
  have := gp_is z
  exact ⟨_, this.1, this.2⟩⟩
theorem HQ_c {τ : zS} (h : ∀ a ∈ [111, 112, 114, 115, 116], τ.1 a = σ.1 a) (hH : HQ σ) : HQ τ := by
  unfold HQ at hH ⊢
  rw [h 111 (by decide), h 112 (by decide), h 114 (by decide), h 115 (by decide), h 116 (by decide)]
  exact hH
theorem v_fill119 : Pt (f_J7_fill_53178 N 119 0 σ) (fun r => r.2.2 = σ.2 ∧ (∀ a, a ≠ 119 → r.2.1 a = σ.1 a) ∧ ∀ j, j < 10 → r.2.1 119 j = 0) := by
  rw [f_J7_fill_53178.eq_1]
  refine pt_aL ?_
  rw [show Int32.ofNat (zKd 119).2 = nI 10 from rfl]
  refine pt_lp (fun x : Int32 × zS => x.2.2 = σ.2 ∧ (∀ a, a ≠ 119 → x.2.1 a = σ.1 a) ∧ ∃ k, (x.1 = nI k ∧ k ≤ 10) ∧ ∀ j, j < k → x.2.1 119 j = 0) (fun again x hJ ih => ?_) N _ ⟨rfl, fun _ _ => rfl, 0, ⟨rfl, by decide⟩, fun j hj => absurd hj (Nat.not_lt_zero _)⟩
  obtain ⟨y, τ⟩ := x
  obtain ⟨e, o, k, ⟨ek, hk⟩, hz⟩ := hJ
  have e : τ.2 = σ.2 := e
  have o : ∀ a, a ≠ 119 → τ.1 a = σ.1 a := o
  have ek : y = nI k := ek
  subst ek
  have hz : ∀ j, j < k → τ.1 119 j = 0 := hz
  rw [F_J7_fill_53178_5.eq_1]
  refine pt_if (fun q => ?_) (fun q => ?_)
  · rw [nlt (by omega) (by omega)] at q
    exact pt_some ⟨e, o, fun j hj => hz j (by omega)⟩
  · rw [nlt (by omega) (by omega)] at q
    refine pt_s14x (fun τ1 a1 b1 c1 => ?_)
    rw [iN (m := k) (by omega)] at a1
    rw [nI_m1]
    refine ih (nI (k + 1), τ1) ⟨c1.trans e, fun a ha => (b1 a ha).trans (o a ha), k + 1, ⟨rfl, by omega⟩, fun j hj => ?_⟩
    show τ1.1 119 j = 0
    rw [a1, upd_i]
    by_cases z : j = k
    · rw [if_pos z]
    · rw [if_neg z]; exact hz j (by omega)
theorem v_reset (hR : RF σ.2.2) (hH : HQ σ) : Pt (f_X1_reset N 111 σ) (fun r => r.2.2 = σ.2 ∧ (∀ a, a ≠ 111 → a ≠ 112 → a ≠ 119 → r.2.1 a = σ.1 a) ∧ (r.2.1 111 8 = nI 2 ∧ ∀ j, j < 10 → r.2.1 119 j = 0) ∧ ∀ b, b < 2048 → r.2.1 112 b = 0) := by
  obtain ⟨u, ⟨e8, u2, u16⟩, pl, lo, hi, rows, heads⟩ := hH
  rw [f_X1_reset.eq_1]
  refine pt_lp (fun x : Int32 × zS => x.2.2 = σ.2 ∧ (∀ a, a ≠ 112 → x.2.1 a = σ.1 a) ∧ ∃ k, (x.1 = nI k ∧ 2 ≤ k ∧ k ≤ u) ∧ ∀ b, b < 2048 → ¬ x.2.1 112 b = 0 → ∃ i, (k ≤ i ∧ i < u) ∧ hsF pl lo hi i = b) (fun again x hJ ih => ?_) N _ ⟨rfl, fun _ _ => rfl, 2, ⟨rfl, Nat.le_refl _, u2⟩, heads⟩
  obtain ⟨y, τ⟩ := x
  obtain ⟨e, o, k, ⟨ek, k2, hk⟩, hz⟩ := hJ
  have e : τ.2 = σ.2 := e
  have o : ∀ a, a ≠ 112 → τ.1 a = σ.1 a := o
  have ek : y = nI k := ek
  subst ek
  have hz : ∀ b, b < 2048 → ¬ τ.1 112 b = 0 → ∃ i, (k ≤ i ∧ i < u) ∧ hsF pl lo hi i = b := hz
  have Rt : RF τ.2.2 := by rw [e]; exact hR
  rw [F_X1_reset_2.eq_1]
  refine pt_gI ?_
  rw [o 111 (by decide), e8]
  refine pt_if (fun q => ?_) (fun q => ?_)
  · rw [nlt (by omega) (by omega)] at q
    refine pt_gR (v := 119) (Rt 111 7 rfl) (pt_zb v_fill119 (fun _ τ1 h1 => ?_))
    obtain ⟨f1, f2, f3⟩ := h1
    have f1 : τ1.2 = τ.2 := f1
    have f2 : ∀ a, a ≠ 119 → τ1.1 a = τ.1 a := f2
    have f3 : ∀ j, j < 10 → τ1.1 119 j = 0 := f3
    refine pt_pIx (fun τ2 a2 b2 c2 => pt_some ⟨?_, fun a n1 n2 n3 => ?_, ⟨?_, fun j hj => ?_⟩, fun b hb => ?_⟩)
    · show τ2.2 = σ.2
      rw [c2, f1, e]
    · show τ2.1 a = σ.1 a
      rw [b2 a n1, f2 a n3, o a n2]
    · show τ2.1 111 8 = nI 2
      rw [a2, upd_s]; rfl
    · show τ2.1 119 j = 0
      rw [b2 119 (by decide)]; exact f3 j hj
    · show τ2.1 112 b = 0
      rw [b2 112 (by decide), f2 112 (by decide)]
      by_cases z : τ.1 112 b = 0
      · exact z
      · obtain ⟨i, ⟨i1, i2⟩, _⟩ := hz b hb z
        omega
  · rw [nlt (by omega) (by omega)] at q
    obtain ⟨x1, x2, x3⟩ := rows k k2 (by omega)
    refine pt_gR (v := 112) (Rt 111 0 rfl) (pt_gR (v := 114) (Rt 111 2 rfl) (pt_aI (pt_gR (v := 115) (Rt 111 3 rfl) (pt_aI (pt_gR (v := 116) (Rt 111 4 rfl) (pt_aI ?_))))))
    rw [iN (m := k) (by omega), o 114 (by decide), o 115 (by decide), o 116 (by decide), x1, x2, x3]
    refine pt_zbq v_headOf (fun v h1 => ?_)
    subst h1
    refine pt_s14x (fun τ1 a1 b1 c1 => ?_)
    have hb2 := hsh_lt (p := pl k) (l := lo k) (h := hi k)
    rw [iNb (m := hsh (pl k) (lo k) (hi k)) (by omega)] at a1
    rw [nI_m1]
    refine ih (nI (k + 1), τ1) ⟨c1.trans e, fun a ha => (b1 a ha).trans (o a ha), k + 1, ⟨rfl, by omega, by omega⟩, fun b hb z => ?_⟩
    have z : ¬ τ1.1 112 b = 0 := z
    rw [a1, upd_i] at z
    by_cases y : b = hsh (pl k) (lo k) (hi k)
    · rw [if_pos y] at z; exact absurd rfl z
    · rw [if_neg y] at z
      obtain ⟨i, ⟨i1, i2⟩, i3⟩ := hz b hb z
      refine ⟨i, ⟨?_, i2⟩, i3⟩
      by_cases w : i = k
      · subst w; exact absurd i3.symm y
      · omega
/-- the sets at all spots -/
theorem v_spread {B n : Nat} {a : Nat → Nat} (hB : isWc B) (hR : RF σ.2.2) (en : σ.1 B 0 = nI n) (n10 : n ≤ 10) (ha : ∀ k, k < n → σ.1 (B + 4) k = nI (a k) ∧ a k < 10) : Pt (f_X1_spread N 111 B σ) (fun r => r.2.2 = σ.2 ∧ (∀ b, b ≠ 117 → r.2.1 b = σ.1 b) ∧ ∀ e, e < 2 ^ n → r.2.1 117 e = nI (saN a n e n)) := by
  have b117 : B ≠ 117 ∧ B + 4 ≠ 117 := by unfold isWc at hB; omega
  have rw4 : ∀ τ : zS, RF τ.2.2 → τ.2.2 B 6 = B + 4 := fun τ Rt => (rW hB Rt).1.2.2.2
  rw [f_X1_spread.eq_1]
  refine pt_gR (v := 117) (hR 111 5 rfl) (pt_s14x (fun τ0 a0 b0 c0 => ?_))
  rw [show (0 : Int32).toInt.toNat = 0 from rfl] at a0
  refine pt_lp (fun x : Int32 × zS => x.2.2 = σ.2 ∧ (∀ b, b ≠ 117 → x.2.1 b = σ.1 b) ∧ ∃ k, (x.1 = nI k ∧ k ≤ n) ∧ ∀ e, e < 2 ^ k → x.2.1 117 e = nI (saN a n e k)) (fun again x hJ ih => ?_) N _ ⟨c0, b0, 0, ⟨rfl, Nat.zero_le _⟩, fun e he => ?_⟩
  · obtain ⟨y, τ⟩ := x
    obtain ⟨e, o, k, ⟨ek, hk⟩, hs⟩ := hJ
    have e : τ.2 = σ.2 := e
    have o : ∀ b, b ≠ 117 → τ.1 b = σ.1 b := o
    have ek : y = nI k := ek
    subst ek
    have hs : ∀ e, e < 2 ^ k → τ.1 117 e = nI (saN a n e k) := hs
    have Rt : RF τ.2.2 := by rw [e]; exact hR
    rw [F_X1_spread_9.eq_1]
    refine pt_gI ?_
    rw [o B b117.1, en]
    refine pt_if (fun q => ?_) (fun q => pt_if (fun q2 => ?_) (fun _ => ?_))
    · rw [nlt (by omega) (by omega)] at q
      have : k = n := by omega
      subst this
      exact pt_some ⟨e, o, hs⟩
    · rw [nlt (by omega) (by omega)] at q
      have q2 : nI 10 ≤ nI k := q2
      rw [nlt (by omega) (by omega)] at q2
      omega
    · rw [nlt (by omega) (by omega)] at q
      obtain ⟨w1, w2⟩ := ha (n - 1 - k) (by omega)
      have p2 := p2le (show k ≤ 10 by omega)
      refine pt_gR (v := B + 4) (rw4 τ Rt) (pt_gI (pt_aI ?_))
      rw [o B b117.1, en, show (1 : Int32) = nI 1 from rfl, nI_sub (c := n - 1) (by omega), nI_sub (c := n - 1 - k) (by omega), iN (m := n - 1 - k) (by omega), o (B + 4) b117.2, w1, show nI 1 = (1 : Int32) from rfl, one10 k (by omega), one10 _ w2]
      refine pt_lp (fun x : Int32 × zS => x.2.2 = σ.2 ∧ (∀ b, b ≠ 117 → x.2.1 b = σ.1 b) ∧ ∃ c, (x.1 = nI c ∧ c ≤ 2 ^ k) ∧ (∀ e, e < 2 ^ k → x.2.1 117 e = nI (saN a n e k)) ∧ ∀ e, e < c → x.2.1 117 (2 ^ k + e) = nI (saN a n (2 ^ k + e) (k + 1))) (fun again2 x hJ ih2 => ?_) N _ ⟨e, o, 0, ⟨rfl, Nat.zero_le _⟩, hs, fun e he => absurd he (Nat.not_lt_zero _)⟩
      obtain ⟨w, υ⟩ := x
      obtain ⟨eo, oo, c, ⟨ec, hc⟩, hs1, hs2⟩ := hJ
      have e1 : υ.2 = σ.2 := eo
      have o1 : ∀ b, b ≠ 117 → υ.1 b = σ.1 b := oo
      have ec : w = nI c := ec
      subst ec
      have hs1 : ∀ e, e < 2 ^ k → υ.1 117 e = nI (saN a n e k) := hs1
      have hs2 : ∀ e, e < c → υ.1 117 (2 ^ k + e) = nI (saN a n (2 ^ k + e) (k + 1)) := hs2
      have Ru : RF υ.2.2 := by rw [e1]; exact hR
      rw [F_X1_spread_47.eq_1]
      refine pt_if (fun q3 => ?_) (fun q3 => ?_)
      · rw [nlt (by omega) (by omega)] at q3
        have cc : c = 2 ^ k := by omega
        rw [nI_m1]
        refine ih (nI (k + 1), υ) ⟨e1, o1, k + 1, ⟨rfl, by omega⟩, fun e2 he2 => ?_⟩
        show υ.1 117 e2 = _
        rw [Nat.pow_succ] at he2
        by_cases z : e2 < 2 ^ k
        · rw [hs1 e2 z, sa_st z]
        · have := hs2 (e2 - 2 ^ k) (by omega)
          rw [show 2 ^ k + (e2 - 2 ^ k) = e2 by omega] at this
          exact this
      · rw [nlt (by omega) (by omega)] at q3
        refine pt_gR (v := 117) (Ru 111 5 rfl) (pt_gR (v := 117) (Ru 111 5 rfl) (pt_aI ?_))
        rw [iN (m := c) (by omega), hs1 c (by omega), nI_plus, nI_or]
        refine pt_s14x (fun τ1 a1 b1 c1 => ?_)
        rw [iNb (m := 2 ^ k + c) (by omega)] at a1
        rw [nI_m1]
        refine ih2 (nI (c + 1), τ1) ⟨c1.trans e1, fun b hb => (b1 b hb).trans (o1 b hb), c + 1, ⟨rfl, by omega⟩, fun e2 he2 => ?_, fun e2 he2 => ?_⟩
        · show τ1.1 117 e2 = _
          rw [a1, upd_n (by omega)]; exact hs1 e2 he2
        · show τ1.1 117 (2 ^ k + e2) = _
          rw [a1, upd_i]
          by_cases z : e2 = c
          · rw [if_pos (by omega), z, sa_up (by omega)]
          · rw [if_neg (by omega)]; exact hs2 e2 (by omega)
  · have e0 : e = 0 := by
      have : e < 1 := he
      omega
    subst e0
    show τ0.1 117 0 = _
    rw [a0, upd_s]
    rfl
end NODE

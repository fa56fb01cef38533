/-! ===== the class's world with its families ===== -/
section CWV
variable {N : Nat} {σ τ : zS} {t : Nat → Int32} {n c i B : Nat}
theorem St_k {O : List zOp} (h57 : τ.1 57 2 = σ.1 57 2) (h58 : τ.1 58 = σ.1 58) (h59 : τ.1 59 = σ.1 59) (hs : St σ O) : St τ O := by
  unfold St at hs ⊢
  rw [h57, h58, h59]; exact hs
theorem vy_loop {G : Nat → Int32} (hN : 1048576 ≤ N) (hB : B = 2 ∨ B = 28) (hC : CB σ t n c) (hA : CA (σ.1 57 9) t n c 0) (h7 : σ.1 57 7 = 0 ∧ σ.1 57 8 = 0) (hG : ∀ j, j < 43 → G j = 0) (hW : WP σ.1 B G) (hs : St σ []) : Pt (zlp (F_X5_readWorld_9 N 57 B) N (0, σ)) (fun r => ¬ r.1 = 0 → ∃ (d : LC) (O : List zOp), (Rc (stW t n) ((0, G, 0), []) (d, O) ∧ stL t n d = some none) ∧ (St r.2 O ∧ O.length ≤ 600) ∧ r.2.2 = σ.2) := by
  have h600 := hC.2.1.1.2.1
  refine pt_lp (fun s : Int32 × zS => 0 ≤ s.1.toInt ∧ ∃ (i : Nat) (g : Nat → Int32) (sg : Nat) (O : List zOp), (Rc (stW t n) ((0, G, 0), []) ((i, g, sg), O) ∧ LI g) ∧ (CB s.2 t n c ∧ CA (s.2.1 57 9) t n c i) ∧ (s.2.1 57 7 = g 0 ∧ (s.2.1 57 8).toInt = (sg : Int) ∧ sg ≤ 24) ∧ WP s.2.1 B g ∧ (g 1 = s.1 ∧ s.1.toInt ≤ (i : Int)) ∧ (St s.2 O ∧ O.length ≤ i) ∧ s.2.2 = σ.2) (fun again s hI ih => ?_) N _ ⟨(by decide : 0 ≤ (0 : Int32).toInt), 0, G, 0, [], ⟨Rc.rf, LI_0 hG⟩, ⟨hC, hA⟩, ⟨h7.1.trans (hG 0 (by decide)).symm, by show (σ.1 57 8).toInt = _; rw [h7.2]; rfl, by decide⟩, hW, ⟨hG 1 (by decide), Int.le_refl _⟩, ⟨hs, Nat.zero_le _⟩, rfl⟩
  obtain ⟨x4, τ⟩ := s
  obtain ⟨h0, i, g, sg, O, ⟨rc, hL⟩, ⟨hC, hA⟩, ⟨h7, h8, h24⟩, hW, ⟨g1, hx⟩, ⟨hs, hl⟩, e2⟩ := hI
  have h0 : 0 ≤ x4.toInt := h0
  have hC : CB τ t n c := hC
  have hA : CA (τ.1 57 9) t n c i := hA
  have h7 : τ.1 57 7 = g 0 := h7
  have h8 : (τ.1 57 8).toInt = (sg : Int) := h8
  have hW : WP τ.1 B g := hW
  have g1 : g 1 = x4 := g1
  have hx : x4.toInt ≤ (i : Int) := hx
  have hs : St τ O := hs
  have e2 : τ.2 = σ.2 := e2
  have le := CA_le hA
  rw [F_X5_readWorld_9.eq_1]
  refine pt_if (fun q => absurd q (by rw [Int32.le_iff_toInt_le]; simp only [Int32.reduceToInt]; omega)) (fun _ => ?_)
  refine pt_gR (v := 61) (hC.1.1 57 10 rfl) (pt_gI (pt_aI ?_))
  have e1 : τ.1 61 (τ.1 57 9).toInt.toNat = ck (tkK t n i) := (CA_row hC.2.1 hA).1.1
  rw [e1]
  refine pt_if (fun q => pt_rZ (fun _ => ⟨(i, g, sg), O, ⟨rc, stL_e (ck_0.mp q)⟩, ⟨hs, by omega⟩, e2⟩)) (fun q => ?_)
  have k0 : ¬ tkK t n i = 0 := fun z => q (ck_0.mpr z)
  refine pt_gC (pt_zb (pt_and (vl_line (sg := sg) hN hB hC hA h7 ⟨h8, h24⟩ hW hL) (vy_line (g := g) (O := O) hN hB hC hA h7 hs hl hW.1.2.1)) (fun v σ1 h => ?_))
  obtain ⟨h, hy⟩ := h
  rcases h with ⟨v1, j, g', sg', ⟨eb, k59⟩, ⟨C1, A1⟩, ⟨e7, e8, l24⟩, W1⟩ | ⟨v0, h⟩
  · have v1 : v = 1 := v1
    have nv : ¬ v = 0 := fun z => absurd (v1.symm.trans z) (by decide)
    obtain ⟨⟨e3, t1⟩, al⟩ := hy nv
    have e3 : σ1.2 = τ.2 := e3
    have t1 : St σ1 (oL t n i g O) := t1
    have C1 : CB σ1 t n c := C1
    have A1 : CA (σ1.1 57 9) t n c (tkE t n j) := A1
    have e7 : σ1.1 57 7 = g' 0 := e7
    have e8 : (σ1.1 57 8).toInt = (sg' : Int) := e8
    have W1 : WB σ1.1 B g' := W1
    refine pt_if (fun q => absurd q nv) (fun _ => pt_gI (pt_pIx (fun τ2 a2 b2 c2 => ?_)))
    have ge := bdR_ge le eb
    have gt := tk_gt ge.2 (show ¬ tkK t n j = 0 by rw [k59]; decide)
    have le2 := CA_le A1
    have lO : (oL t n i g O).length ≤ tkE t n j := by
      rcases al with e | ⟨j', A', l'⟩
      · rw [e]; omega
      · have A' : CA (σ1.1 57 9) t n c j' := A'
        have := CA_un A' A1
        omega
    obtain ⟨F1, g1', g0⟩ := LI_bd hL eb
    have w1 : (x4 + 1).toInt = x4.toInt + 1 := a1_ (by omega)
    have eg : g' 1 + 1 = x4 + 1 := by rw [g1', g1]
    have el : σ1.1 B 1 + 1 = x4 + 1 := by rw [W1.1.2.1, eg]
    rw [el] at a2
    have nz : ¬ x4 + 1 = 0 := nz_of (by omega)
    have n57 : (57 : Nat) ≠ B := by omega
    refine ih (x4 + 1, τ2) ⟨(by rw [w1]; omega : 0 ≤ (x4 + 1).toInt), tkE t n j, upd g' 1 (x4 + 1), sg', oL t n i g O, ⟨rc.sn (stW_s ((stL_s k0 eb).trans ((if_pos k59).trans (by show _ = some (some (tkE t n j, upd g' 1 (x4 + 1), sg')); rw [← eg])))), LI_1 F1 nz g0⟩, ⟨CB_x C1 (by rw [c2]) (fun k hk => b2 k (by omega)) (by rw [b2 57 n57]), ?_⟩, ⟨?_, ?_, l24⟩, ?_, ⟨upd_s, ?_⟩, ⟨St_k (by rw [b2 57 n57]) (b2 58 (by omega)) (b2 59 (by omega)) t1, lO⟩, c2.trans (e3.trans e2)⟩
    · show CA (τ2.1 57 9) t n c _
      rw [b2 57 n57]; exact A1
    · show τ2.1 57 7 = _
      rw [b2 57 n57, upd_n (by decide)]; exact e7
    · show (τ2.1 57 8).toInt = _
      rw [b2 57 n57]; exact e8
    · have oa : ∀ a, a ≠ 1 → upd g' 1 (x4 + 1) a = g' a := fun a ha => upd_n ha
      have h3 : τ2.1 B 0 = upd g' 1 (x4 + 1) 0 ∧ τ2.1 B 1 = upd g' 1 (x4 + 1) 1 ∧ τ2.1 B 2 = upd g' 1 (x4 + 1) 2 := by
        rw [a2, oa 0 (by decide), oa 2 (by decide), upd_s, upd_s, upd_n (by decide), upd_n (by decide)]
        exact ⟨W1.1.1, rfl, W1.1.2.2⟩
      refine ⟨h3, fun z => absurd (by rw [← z, upd_s]) nz, fun _ => ⟨h3, fun k hk => ?_, fun k hk => ?_⟩⟩
      · show τ2.1 (B + 3) k = _ ∧ τ2.1 (B + 4) k = _
        rw [b2 _ (by omega), b2 _ (by omega), oa _ (by omega), oa _ (by omega)]; exact W1.2.1 k hk
      · rw [oa 2 (by decide)] at hk
        show τ2.1 (B + 1) k = _ ∧ τ2.1 (B + 2) k = _
        rw [b2 _ (by omega), b2 _ (by omega), oa _ (by omega), oa _ (by omega)]; exact W1.2.2 k hk
    · show (x4 + 1).toInt ≤ _
      rw [w1]; omega
  · have v0 : v = 0 := v0
    exact pt_if (fun _ => pt_rZ (fun z => absurd rfl z)) (fun q => absurd v0 q)
theorem vy_open {x2 : Int32} (hN : 1048576 ≤ N) (hR : RF σ.2.2) (hx : x2.toInt = (n : Int) ∧ n ≤ 600) : Pt (f_X5_open N 57 1 x2 σ) (fun r => r.2.1 57 2 = 0 ∧ r.2.2.2 0 = σ.2.2 0) := by
  rw [f_X5_open.eq_1]
  refine pt_pR (fun σ1 i1 _ q1 => ?_)
  have T1 : Tr [] σ σ1 := by
    refine ⟨⟨fun k j q => ?_, fun _ => ?_⟩, fun k _ => congrFun i1 k⟩
    · rw [q1]
      by_cases hk : k = 57
      · subst hk
        rw [va_up_self, va_up_ne _ _ (fun q2 => q ⟨rfl, q2⟩)]
      · rw [va_up_ne _ _ hk]
    · rw [q1, va_up_self, va_up_self]
  have X1 : σ1.2.2 57 5 = 1 := by rw [q1, va_up_self, va_up_self]
  have i1 : ∀ k, σ1.1 k = σ.1 k := fun k => T1.2 k List.not_mem_nil
  have R1 := hR.tr T1
  refine pt_aL ?_
  refine pt_pIx (fun τ1 a1 b1 c1 => pt_pIx (fun τ2 a2 b2 c2 => pt_pIx (fun τ3 a3 b3 c3 => pt_pIx (fun τ4 a4 b4 c4 => pt_pIx (fun τ5 a5 b5 c5 => pt_pIx (fun τ6 a6 b6 c6 => pt_pIx (fun τ7 a7 b7 c7 => pt_gC ?_)))))))
  have z6 : (zmax 0 (zmin x2 (zmin (Int32.ofNat (zKd 1).2) 600))).toInt = (n : Int) := by
    have e : (Int32.ofNat (zKd 1).2) = 600 := rfl
    rw [e, ti_zmax, ti_zmin, ti_zmin]
    simp only [Int32.reduceToInt]
    split <;> split <;> split <;> omega
  have e6 : (τ7.1 57 6).toInt = (n : Int) := by rw [a7, upd_n (by decide), a6, upd_n (by decide), a5, upd_n (by decide), a4, upd_n (by decide), a3, upd_n (by decide), a2, upd_n (by decide), a1, upd_s]; exact z6
  have e2 : τ7.1 57 2 = 0 := by rw [a7, upd_n (by decide), a6, upd_n (by decide), a5, upd_n (by decide), a4, upd_s]
  have ek : ∀ k, k ≠ 57 → τ7.1 k = σ.1 k := fun k hk => by rw [b7 k hk, b6 k hk, b5 k hk, b4 k hk, b3 k hk, b2 k hk, b1 k hk, i1]
  have eR : τ7.2 = σ1.2 := by rw [c7, c6, c5, c4, c3, c2, c1]
  clear a1 a2 a3 a4 a5 a6 a7 b1 b2 b3 b4 b5 b6 b7 c1 c2 c3 c4 c5 c6 c7
  have R7 : RF τ7.2.2 := by rw [eR]; exact R1
  have X7 : τ7.2.2 57 5 = 1 := by rw [eR]; exact X1
  refine pt_zb (pt_ok (xs_X5_split (T := σ.1 1) (n := n) hN R7 X7 e6 (ek 1 (by decide)) hx.2)) (fun _ σ9 h => pt_some ?_)
  have T9 : Tr [61, 62, 63, 64] τ7 σ9 := h.1
  refine ⟨?_, funext (fun j => ?_)⟩
  · show σ9.1 57 2 = 0
    rw [T9.2 57 (by decide)]; exact e2
  · show σ9.2.2 0 j = σ.2.2 0 j
    rw [T9.1.1 0 j (by omega), eR]; exact T1.1.1 0 j (by omega)
/-- all families of a world are emptied -/
theorem vy_c45 (hB : isWc B) (hR : RF σ.2.2) : Pt (zlp (F_X10_clear_45 N B) N (0, σ)) (fun r => (r.2.1 = σ.1 ∧ r.2.2.2 = σ.2.2) ∧ (∀ a, ¬ (B + 6 ≤ a ∧ a < B + 26) → r.2.2.1 a = σ.2.1 a) ∧ ∀ p, p < 10 → ∀ u, u < 1024 → bt (r.2.2.1 (B + 6 + 2 * p + 1)) u = false) := by
  refine pt_lp (fun s : Int32 × zS => ∃ m, (s.1 = nI m ∧ m ≤ 10) ∧ (s.2.1 = σ.1 ∧ s.2.2.2 = σ.2.2) ∧ (∀ a, ¬ (B + 6 ≤ a ∧ a < B + 26) → s.2.2.1 a = σ.2.1 a) ∧ ∀ p, p < m → ∀ u, u < 1024 → bt (s.2.2.1 (B + 6 + 2 * p + 1)) u = false) (fun again s hI ih => ?_) N _ ⟨0, ⟨rfl, Nat.zero_le _⟩, ⟨rfl, rfl⟩, fun _ _ => rfl, fun p hp => absurd hp (Nat.not_lt_zero _)⟩
  obtain ⟨x1, τ⟩ := s
  obtain ⟨m, ⟨ex, hm⟩, ⟨e1, e2⟩, ho, hz⟩ := hI
  have ex : x1 = nI m := ex
  subst ex
  have e1 : τ.1 = σ.1 := e1
  have e2 : τ.2.2 = σ.2.2 := e2
  have ho : ∀ a, ¬ (B + 6 ≤ a ∧ a < B + 26) → τ.2.1 a = σ.2.1 a := ho
  have hz : ∀ p, p < m → ∀ u, u < 1024 → bt (τ.2.1 (B + 6 + 2 * p + 1)) u = false := hz
  have R9 : RF τ.2.2 := by rw [e2]; exact hR
  rw [F_X10_clear_45.eq_1]
  refine pt_if (fun q => pt_some ⟨⟨e1, e2⟩, ho, fun p hp => hz p ?_⟩) (fun q => ?_)
  · have q : nI 10 ≤ nI m := q
    rw [nlt (by omega) (by omega)] at q
    omega
  · have q : ¬ nI 10 ≤ nI m := q
    rw [nlt (by omega) (by omega)] at q
    have hm9 : m < 10 := by omega
    refine pt_rg2 hB R9 hm9 (pt_gC (pt_zb (v_clear R9 (rgW hB R9 hm9).2) (fun _ σ1 h => ?_)))
    obtain ⟨l, z⟩ := h
    have l : LF (B + 6 + 2 * m + 1) τ σ1 := l
    have z : ∀ u, u < 1024 → bt (σ1.2.1 (B + 6 + 2 * m + 1)) u = false := z
    rw [nI_s1 (by omega)]
    refine ih (nI (m + 1), σ1) ⟨m + 1, ⟨rfl, by omega⟩, ⟨?_, ?_⟩, fun a ha => ?_, fun p hp => ?_⟩
    · show σ1.1 = σ.1
      rw [l.1]; exact e1
    · show σ1.2.2 = σ.2.2
      rw [l.2.1]; exact e2
    · show σ1.2.1 a = σ.2.1 a
      rw [l.2.2 a (by omega)]; exact ho a ha
    · by_cases e : p = m
      · rw [e]; exact z
      · show ∀ u, u < 1024 → bt (σ1.2.1 (B + 6 + 2 * p + 1)) u = false
        rw [l.2.2 _ (by omega)]; exact hz p (by omega)
theorem vy_clear (hB : isWc B) (hR : RF σ.2.2) : Pt (f_X10_clear N B σ) (fun r => (∀ a, ¬ (B + 6 ≤ a ∧ a < B + 26) → r.2.2.1 a = σ.2.1 a) ∧ ∀ p, p < 10 → ∀ u, u < 1024 → bt (r.2.2.1 (B + 6 + 2 * p + 1)) u = false) := by
  rw [f_X10_clear.eq_1]
  refine pt_pIx (fun τ1 a1 b1 c1 => pt_pIx (fun τ2 a2 b2 c2 => pt_pIx (fun τ3 a3 b3 c3 => ?_)))
  have e3 : τ3.2 = σ.2 := by rw [c3, c2, c1]
  clear a1 a2 a3 b1 b2 b3 c1 c2 c3
  refine pt_lp (fun s : Int32 × zS => s.2.2 = σ.2) (fun again s hI ih => ?_) N _ e3
  obtain ⟨x1, τ⟩ := s
  have e : τ.2 = σ.2 := hI
  have R9 : RF τ.2.2 := by rw [e]; exact hR
  rw [F_X10_clear_17.eq_1]
  refine pt_if (fun _ => pt_w (vy_c45 hB R9) (fun r h => ⟨fun a ha => by rw [h.2.1 a ha, e], h.2.2⟩)) (fun _ => ?_)
  refine pt_gR (v := τ.2.2 B 5) rfl (pt_s14x (fun τ4 _ _ c4 => pt_gR (v := τ4.2.2 B 6) rfl (pt_s14x (fun τ5 _ _ c5 => ih (x1 + 1, τ5) ?_))))
  show τ5.2 = σ.2
  rw [c5, c4, e]
/-- what world() of the class leaves of the families: the text is row 1, now is A -/
def CYQ (t : Nat → Int32) (n B : Nat) (σ : zS) (G : Nat → Int32) (r : Int32 × zS) : Prop := (∀ a, WR a → ¬ (B + 6 ≤ a ∧ a < B + 26) → r.2.2.1 a = σ.2.1 a) ∧ (¬ r.2.2.2 0 4 = σ.2.2 0 4 → ∃ (d : LC) (O : List zOp), (Rc (stW t n) ((0, G, 0), []) (d, O) ∧ stL t n d = some none) ∧ ∀ p, p < 10 → ∀ u, u < 1024 → bt (r.2.2.1 (B + 6 + 2 * p + 1)) u = (evs (2 ^ (d.2.1 0).toInt.toNat) O ((fun _ _ => false), [])).1 p u)
theorem isWc2 (hB : B = 2 ∨ B = 28) : isWc B := by unfold isWc; omega
theorem vy_fault : Pt (f_X11_takeFault N 0 σ) (fun r => r.2.2.1 = σ.2.1) := jf_X11_takeFault rfl
theorem vy_world {G : Nat → Int32} (hN : 1048576 ≤ N) (hB : B = 2 ∨ B = 28) (hR : RF σ.2.2) (h5 : σ.2.2 0 5 = B) (hW : WI B σ.1) (hD : RD σ.1) (hn : (σ.1 0 1).toInt = (n : Int) ∧ n ≤ 600) (hG : ∀ j, j < 43 → G j = 0) : Pt (f_X11_world N 0 σ) (CYQ (σ.1 1) n B σ G) := by
  have ten : ∀ {g : Nat → Int32} {s : Nat → Nat → Int32}, LI g → WP s B g → 0 ≤ (s B 0).toInt ∧ (s B 0).toInt ≤ 10 := fun hL hW => by rw [hW.1.1]; exact hL.1.1.1
  have wc := isWc2 hB
  rw [f_X11_world.eq_1]
  refine pt_gR (v := B) h5 (pt_gC (pt_zb (pt_and (P := fun r => (∀ k, k ≠ B → k ≠ B + 3 → k ≠ B + 4 → r.2.1 k = σ.1 k) ∧ (RF r.2.2.2 ∧ r.2.2.2 0 = σ.2.2 0)) (pt_and (P := fun r => (∀ a, ¬ (B + 6 ≤ a ∧ a < B + 26) → r.2.2.1 a = σ.2.1 a) ∧ ∀ p, p < 10 → ∀ u, u < 1024 → bt (r.2.2.1 (B + 6 + 2 * p + 1)) u = false) (vl_clear hN hB hR) (vy_clear wc hR)) ?_) (fun _ σ1 h1 => ?_)))
  · rcases hB with rfl | rfl
    · refine pt_w (pt_ok (s_X10_clear_2 hN hR hW)) (fun r h => ⟨fun k q0 q3 q4 => h.1.2 k (by simp only [List.mem_cons, List.not_mem_nil, or_false]; omega), hR.tr h.1, funext (fun j => h.1.1.1 0 j (by omega))⟩)
    · refine pt_w (pt_ok (s_X10_clear_28 hN hR hW)) (fun r h => ⟨fun k q0 q3 q4 => h.1.2 k (by simp only [List.mem_cons, List.not_mem_nil, or_false]; omega), hR.tr h.1, funext (fun j => h.1.1.1 0 j (by omega))⟩)
  obtain ⟨⟨⟨z3, z10⟩, lo, lz⟩, ok1, R1, r01⟩ := h1
  have z3 : σ1.1 B 0 = 0 ∧ σ1.1 B 1 = 0 ∧ σ1.1 B 2 = 0 := z3
  have z10 : ∀ j, j < 10 → σ1.1 (B + 3) j = 1 ∧ σ1.1 (B + 4) j = nI j := z10
  have lo : ∀ a, ¬ (B + 6 ≤ a ∧ a < B + 26) → σ1.2.1 a = σ.2.1 a := lo
  have lz : ∀ p, p < 10 → ∀ u, u < 1024 → bt (σ1.2.1 (B + 6 + 2 * p + 1)) u = false := lz
  have ok1 : ∀ k, k ≠ B → k ≠ B + 3 → k ≠ B + 4 → σ1.1 k = σ.1 k := ok1
  have R1 : RF σ1.2.2 := R1
  have r01 : σ1.2.2 0 = σ.2.2 0 := r01
  have o0 : σ1.1 0 = σ.1 0 := ok1 0 (by omega) (by omega) (by omega)
  have o1 : σ1.1 1 = σ.1 1 := ok1 1 (by omega) (by omega) (by omega)
  refine pt_gR (v := 57) (R1 0 9 rfl) (pt_gR (v := 1) (R1 0 0 rfl) (pt_gI (pt_gR (v := B) (by rw [r01]; exact h5) (pt_gC ?_))))
  rw [o0]
  have WP1 : ∀ s : Nat → Nat → Int32, (∀ k, k < 57 → s k = σ1.1 k) → WP s B G := fun s e => by
    have h3 : s B 0 = G 0 ∧ s B 1 = G 1 ∧ s B 2 = G 2 := by
      rw [e B (by omega), hG 0 (by decide), hG 1 (by decide), hG 2 (by decide)]; exact z3
    refine ⟨h3, fun _ j hj => ?_, fun z => absurd (hG 1 (by decide)) z⟩
    rw [e (B + 3) (by omega), e (B + 4) (by omega)]; exact z10 j hj
  refine pt_zb (Q := fun r => ((CWQ (σ.1 1) n B G r) ∧ (¬ r.1 = 0 → ∃ (d : LC) (O : List zOp), (Rc (stW (σ.1 1) n) ((0, G, 0), []) (d, O) ∧ stL (σ.1 1) n d = some none) ∧ (St r.2 O ∧ O.length ≤ 600))) ∧ (r.2.2.1 = σ1.2.1 ∧ RF r.2.2.2 ∧ r.2.2.2 0 = σ.2.2 0)) (pt_and ?_ (pt_and (Q := fun r : Int32 × zS => r.2.2.1 = σ1.2.1) ?_ ?_)) (fun v8 σ2 h2 => ?_)
  · rw [f_X5_readWorld.eq_1]
    refine pt_gC (pt_zb (pt_and (pt_and (vl_open (n := n) hN R1 hn) (vy_open (n := n) hN R1 hn)) (jf_X5_open rfl)) (fun _ σ2 h2 => ?_))
    obtain ⟨⟨⟨c, ⟨hC, hA⟩, h7, h57⟩, s0, _⟩, _⟩ := h2
    have s0 : σ2.1 57 2 = 0 := s0
    rw [o1] at hC hA
    have hs : St σ2 [] := ⟨by rw [s0]; rfl, fun k h => absurd h (Nat.not_lt_zero _)⟩
    exact pt_and (vl_loop hN hB hC hA h7 hG (WP1 σ2.1 h57)) (pt_w (vy_loop hN hB hC hA h7 hG (WP1 σ2.1 h57) hs) (fun r h z => by
      obtain ⟨d, O, a, b, _⟩ := h z
      exact ⟨d, O, a, b⟩))
  · exact jf_X5_readWorld rfl
  · rcases hB with rfl | rfl
    · have D1 : RD σ1.1 := by unfold RD at hD ⊢; rw [ok1 57 (by decide) (by decide) (by decide), ok1 61 (by decide) (by decide) (by decide), ok1 63 (by decide) (by decide) (by decide), ok1 64 (by decide) (by decide) (by decide)]; exact hD
      have W1 : WI 2 σ1.1 := by
        unfold WI at hW ⊢
        rw [z3.1, z3.2.2, ok1 (2 + 1) (by decide) (by decide) (by decide), ok1 (2 + 2) (by decide) (by decide) (by decide)]
        exact ⟨by decide, by decide, hW.2.2⟩
      refine pt_w (pt_ok (s_X5_readWorld_1_2 hN R1 D1 W1)) (fun r h => ⟨R1.tr h.1, funext (fun j => (h.1.1.1 0 j (by omega)).trans (congrFun r01 j))⟩)
    · have D1 : RD σ1.1 := by unfold RD at hD ⊢; rw [ok1 57 (by decide) (by decide) (by decide), ok1 61 (by decide) (by decide) (by decide), ok1 63 (by decide) (by decide) (by decide), ok1 64 (by decide) (by decide) (by decide)]; exact hD
      have W1 : WI 28 σ1.1 := by
        unfold WI at hW ⊢
        rw [z3.1, z3.2.2, ok1 (28 + 1) (by decide) (by decide) (by decide), ok1 (28 + 2) (by decide) (by decide) (by decide)]
        exact ⟨by decide, by decide, hW.2.2⟩
      refine pt_w (pt_ok (s_X5_readWorld_1_28 hN R1 D1 W1)) (fun r h => ⟨R1.tr h.1, funext (fun j => (h.1.1.1 0 j (by omega)).trans (congrFun r01 j))⟩)
  · obtain ⟨⟨hq, hw⟩, L2, R2, r02⟩ := h2
    have L2 : σ2.2.1 = σ1.2.1 := L2
    have R2 : RF σ2.2.2 := R2
    have r02 : σ2.2.2 0 = σ.2.2 0 := r02
    refine pt_gC (pt_zb (Q := fun r => (r.2.2.2 = σ2.2.2 ∧ ∀ k, k ≠ 0 → r.2.1 k = σ2.1 k) ∧ r.2.2.1 = σ2.2.1) (pt_and (vl_fault R2 (fun τ a b => ⟨a, b⟩)) vy_fault) (fun _ σ3 h3 => ?_))
    obtain ⟨⟨r3, o3⟩, L3⟩ := h3
    have r3 : σ3.2.2 = σ2.2.2 := r3
    have o3 : ∀ k, k ≠ 0 → σ3.1 k = σ2.1 k := o3
    have L3 : σ3.2.1 = σ2.2.1 := L3
    have R3 : RF σ3.2.2 := by rw [r3]; exact R2
    have r03 : σ3.2.2 0 5 = B := by rw [r3, r02]; exact h5
    have L31 : σ3.2.1 = σ1.2.1 := L3.trans L2
    rcases hq with ⟨v1, d, rc, hWP, hL⟩ | ⟨v0, hd⟩
    · have v1 : v8 = 1 := v1
      have nv : ¬ v8 = 0 := fun z => absurd (v1.symm.trans z) (by decide)
      obtain ⟨d', O, ⟨rc', sn'⟩, hs, lO⟩ := hw nv
      have ed : d' = d := Rc.un (Rc_L rc') rc.1 (fun x q => by rw [show stL (σ.1 1) n d' = some none from sn'] at q; cases q) (fun x q => by rw [rc.2] at q; cases q)
      subst ed
      have hs : St σ2 O := hs
      have hWP : WP σ2.1 B d'.2.1 := hWP
      refine pt_if (fun q => absurd q nv) (fun _ => ?_)
      refine pt_gR (v := 65) (R3 0 10 rfl) (pt_gR (v := 57) (R3 0 9 rfl) (pt_gR (v := B) r03 (pt_gR (v := 99) (R3 0 11 rfl) (pt_gC ?_))))
      have t3 : 0 ≤ (σ3.1 B 0).toInt ∧ (σ3.1 B 0).toInt ≤ 10 := by rw [o3 B (by omega)]; exact ten hL hWP
      have hs3 : St σ3 O := St_k (by rw [o3 57 (by decide)]) (o3 58 (by decide)) (o3 59 (by decide)) hs
      have H := HW_R (by omega) (HW_0 (n := n) hG) rc'
      have e0 : σ3.1 B 0 = d'.2.1 0 := by rw [o3 B (by omega)]; exact hWP.1.1
      obtain ⟨k, hk, ek⟩ := znI (x := d'.2.1 0) (m := 11) (by rw [← e0]; exact t3.1) (by rw [← e0]; omega)
      have hv : vds (2 ^ k) O 0 := by
        have := H.2.2.2.1
        rw [show ((d', O) : LW2).1.2.1 0 = nI k from ek, iN (by omega)] at this
        exact this
      refine pt_zb (Q := fun r => Tr [65, 106, 107] σ3 r.2 ∧ FU B σ3 r.2 ∧ ∀ p, p < 10 → ∀ u, u < 1024 → bt (r.2.2.1 (B + 6 + 2 * p + 1)) u = (evs (2 ^ k) O ((fun _ _ => false), [])).1 p u) (pt_and ?_ (v_run (G := fun _ _ => false) wc R3 (e0.trans ek) (by omega) hs3 (by omega) hv (fun p _ u _ z => by cases z) (fun p hp u hu => by rw [L31]; exact lz p hp u hu))) (fun _ σ4 h4 => ?_)
      · rcases hB with rfl | rfl
        · exact pt_w (pt_ok (s_X7_run_57_2_99 hN R3 t3)) (fun r h => h.1)
        · exact pt_w (pt_ok (s_X7_run_57_28_99 hN R3 t3)) (fun r h => h.1)
      · obtain ⟨T4, F4, U4⟩ := h4
        have T4 : Tr [65, 106, 107] σ3 σ4 := T4
        have F4 : FU B σ3 σ4 := F4
        have U4 : ∀ p, p < 10 → ∀ u, u < 1024 → bt (σ4.2.1 (B + 6 + 2 * p + 1)) u = (evs (2 ^ k) O ((fun _ _ => false), [])).1 p u := U4
        have r04 : σ4.2.2 0 5 = B := (T4.1.1 0 5 (by omega)).trans r03
        refine pt_gR (v := σ4.2.2 0 4) rfl (pt_gR (v := B) r04 ?_)
        refine pt_pR (fun σ5 i5 l5 q5 => pt_pR (fun σ6 i6 l6 q6 => ?_))
        have r6 : σ6.2.2 0 4 = B := by rw [q6, va_up_self, va_up_ne _ _ (by decide), q5, va_up_self, va_up_self]
        have l6 : σ6.2.1 = σ4.2.1 := l6.trans l5
        refine pt_gR (v := B) r6 (pt_gI (pt_some ⟨fun a ha hn => ?_, fun _ => ⟨d', O, ⟨rc', sn'⟩, fun p hp u hu => ?_⟩⟩))
        · show σ6.2.1 a = σ.2.1 a
          rw [l6, F4.2.2 a ha hn, L31]; exact lo a hn
        · show bt (σ6.2.1 (B + 6 + 2 * p + 1)) u = (evs (2 ^ (d'.2.1 0).toInt.toNat) O ((fun _ _ => false), [])).1 p u
          rw [l6, ek, iN (by omega)]; exact U4 p hp u hu
    · have v0 : v8 = 0 := v0
      refine pt_if (fun _ => pt_some ⟨fun a _ hn => ?_, fun z => absurd ?_ z⟩) (fun q => absurd v0 q)
      · show σ3.2.1 a = σ.2.1 a
        rw [L31]; exact lo a hn
      · show σ3.2.2 0 4 = σ.2.2 0 4
        rw [r3, r02]
end CWV

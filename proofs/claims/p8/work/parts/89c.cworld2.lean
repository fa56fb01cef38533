section CWORLD
variable {N : Nat} {σ τ : zS} {t : Nat → Int32} {n c i B : Nat}
theorem pt_pR {β : Type} {P : β → Prop} {ci j k v : Nat} {f : zS → Option β} (h : ∀ τ : zS, τ.1 = σ.1 → τ.2.1 = σ.2.1 → τ.2.2 = va_up σ.2.2 k (va_up (σ.2.2 k) j v) → Pt (f τ) P) : Pt (zl (pR ci j k v σ) f) P := fun a e => by
  obtain ⟨w, h1, h2⟩ := zl_some e
  obtain ⟨_, rfl⟩ := zguard h1
  exact h (zR σ k (va_up (σ.2.2 k) j v)) rfl rfl rfl a h2
/-- what readWorld leaves behind -/
def CWQ (t : Nat → Int32) (n B : Nat) (G : Nat → Int32) (r : Int32 × zS) : Prop := (r.1 = 1 ∧ ∃ d, (Rc (stL t n) (0, G, 0) d ∧ stL t n d = some none) ∧ WP r.2.1 B d.2.1 ∧ LI d.2.1) ∨ (r.1 = 0 ∧ ∃ d, Rc (stL t n) (0, G, 0) d ∧ stL t n d = none)
theorem vl_open {x2 : Int32} (hN : 1048576 ≤ N) (hR : RF σ.2.2) (hx : x2.toInt = (n : Int) ∧ n ≤ 600) : Pt (f_X5_open N 57 1 x2 σ) (fun r => ∃ c, (CB r.2 (σ.1 1) n c ∧ CA (r.2.1 57 9) (σ.1 1) n c 0) ∧ (r.2.1 57 7 = 0 ∧ r.2.1 57 8 = 0) ∧ ∀ k, k < 57 → r.2.1 k = σ.1 k) := by
  rw [f_X5_open.eq_1]
  refine pt_pR (fun σ1 i1 _ q1 => ?_)
  have T1 : Tr [] σ σ1 := by
    refine ⟨⟨fun k j q => ?_, fun _ => ?_⟩, fun k _ => congrFun i1 k⟩
    · rw [q1]
      by_cases hk : k = 57
      · subst hk
        rw [va_up_self, va_up_ne _ _ (fun q2 => q ⟨rfl, q2⟩)]
      · rw [va_up_ne _ _ hk]
    · rw [q1, va_up_self, va_up_self]
  have X1 : σ1.2.2 57 5 = 1 := by rw [q1, va_up_self, va_up_self]
  have i1 : ∀ k, σ1.1 k = σ.1 k := fun k => T1.2 k List.not_mem_nil
  have R1 := hR.tr T1
  refine pt_aL ?_
  refine pt_pIx (fun τ1 a1 b1 c1 => pt_pIx (fun τ2 a2 b2 c2 => pt_pIx (fun τ3 a3 b3 c3 => pt_pIx (fun τ4 a4 b4 c4 => pt_pIx (fun τ5 a5 b5 c5 => pt_pIx (fun τ6 a6 b6 c6 => pt_pIx (fun τ7 a7 b7 c7 => pt_gC ?_)))))))
  have z6 : (zmax 0 (zmin x2 (zmin (Int32.ofNat (zKd 1).2) 600))).toInt = (n : Int) := by
    have e : (Int32.ofNat (zKd 1).2) = 600 := rfl
    rw [e, ti_zmax, ti_zmin, ti_zmin]
    simp only [Int32.reduceToInt]
    split <;> split <;> split <;> omega
  have e6 : (τ7.1 57 6).toInt = (n : Int) := by rw [a7, upd_n (by decide), a6, upd_n (by decide), a5, upd_n (by decide), a4, upd_n (by decide), a3, upd_n (by decide), a2, upd_n (by decide), a1, upd_s]; exact z6
  have e7 : τ7.1 57 7 = 0 := by rw [a7, upd_n (by decide), a6, upd_n (by decide), a5, upd_s]
  have e8 : τ7.1 57 8 = 0 := by rw [a7, upd_n (by decide), a6, upd_s]
  have e9 : τ7.1 57 9 = 0 := by rw [a7, upd_s]
  have ek : ∀ k, k ≠ 57 → τ7.1 k = σ.1 k := fun k hk => by rw [b7 k hk, b6 k hk, b5 k hk, b4 k hk, b3 k hk, b2 k hk, b1 k hk, i1]
  have eR : τ7.2 = σ1.2 := by rw [c7, c6, c5, c4, c3, c2, c1]
  clear a1 a2 a3 a4 a5 a6 a7 b1 b2 b3 b4 b5 b6 b7 c1 c2 c3 c4 c5 c6 c7
  have R7 : RF τ7.2.2 := by rw [eR]; exact R1
  have X7 : τ7.2.2 57 5 = 1 := by rw [eR]; exact X1
  refine pt_zb (pt_ok (xs_X5_split (T := σ.1 1) (n := n) hN R7 X7 e6 (ek 1 (by decide)) hx.2)) (fun _ σ9 h => pt_some ?_)
  obtain ⟨T9, c, hCT⟩ := h
  have T9 : Tr [61, 62, 63, 64] τ7 σ9 := T9
  have q57 : σ9.1 57 = τ7.1 57 := T9.2 57 (by decide)
  refine ⟨c, ⟨⟨⟨R7.tr T9, T9.1.2 X7⟩, hCT, ?_⟩, ?_⟩, ⟨?_, ?_⟩, fun k hk => ?_⟩
  · show (σ9.1 57 6).toInt = _
    rw [q57]; exact e6
  · show CA (σ9.1 57 9) (σ.1 1) n c 0
    rw [q57, e9]
    exact ⟨0, rfl, Nat.zero_le _, rfl⟩
  · show σ9.1 57 7 = 0
    rw [q57]; exact e7
  · show σ9.1 57 8 = 0
    rw [q57]; exact e8
  · show σ9.1 k = σ.1 k
    rw [T9.2 k (by simp only [List.mem_cons, List.not_mem_nil, or_false]; omega)]; exact ek k (by omega)
theorem vl_loop {G : Nat → Int32} (hN : 1048576 ≤ N) (hB : B = 2 ∨ B = 28) (hC : CB σ t n c) (hA : CA (σ.1 57 9) t n c 0) (h7 : σ.1 57 7 = 0 ∧ σ.1 57 8 = 0) (hG : ∀ j, j < 43 → G j = 0) (hW : WP σ.1 B G) : Pt (zlp (F_X5_readWorld_9 N 57 B) N (0, σ)) (CWQ t n B G) := by
  have h600 := hC.2.1.1.2.1
  refine pt_lp (fun s : Int32 × zS => 0 ≤ s.1.toInt ∧ ∃ i g sg, (Rc (stL t n) (0, G, 0) (i, g, sg) ∧ LI g) ∧ (CB s.2 t n c ∧ CA (s.2.1 57 9) t n c i) ∧ (s.2.1 57 7 = g 0 ∧ (s.2.1 57 8).toInt = (sg : Int) ∧ sg ≤ 24) ∧ WP s.2.1 B g ∧ g 1 = s.1 ∧ s.1.toInt ≤ (i : Int)) (fun again s hI ih => ?_) N _ ⟨(by decide : 0 ≤ (0 : Int32).toInt), 0, G, 0, ⟨Rc.rf, LI_0 hG⟩, ⟨hC, hA⟩, ⟨h7.1.trans (hG 0 (by decide)).symm, by show (σ.1 57 8).toInt = _; rw [h7.2]; rfl, by decide⟩, hW, hG 1 (by decide), Int.le_refl _⟩
  obtain ⟨x4, τ⟩ := s
  obtain ⟨h0, i, g, sg, ⟨rc, hL⟩, ⟨hC, hA⟩, ⟨h7, h8, h24⟩, hW, g1, hx⟩ := hI
  have h0 : 0 ≤ x4.toInt := h0
  have hC : CB τ t n c := hC
  have hA : CA (τ.1 57 9) t n c i := hA
  have h7 : τ.1 57 7 = g 0 := h7
  have h8 : (τ.1 57 8).toInt = (sg : Int) := h8
  have hW : WP τ.1 B g := hW
  have g1 : g 1 = x4 := g1
  have hx : x4.toInt ≤ (i : Int) := hx
  have le := CA_le hA
  rw [F_X5_readWorld_9.eq_1]
  refine pt_if (fun q => absurd q (by rw [Int32.le_iff_toInt_le]; simp only [Int32.reduceToInt]; omega)) (fun _ => ?_)
  refine pt_gR (v := 61) (hC.1.1 57 10 rfl) (pt_gI (pt_aI ?_))
  have e1 : τ.1 61 (τ.1 57 9).toInt.toNat = ck (tkK t n i) := (CA_row hC.2.1 hA).1.1
  rw [e1]
  refine pt_if (fun q => pt_rZ (Or.inl ⟨rfl, _, ⟨rc, stL_e (ck_0.mp q)⟩, hW, hL⟩)) (fun q => ?_)
  have k0 : ¬ tkK t n i = 0 := fun z => q (ck_0.mpr z)
  refine pt_gC (pt_zb (vl_line (sg := sg) hN hB hC hA h7 ⟨h8, h24⟩ hW hL) (fun v σ1 h => ?_))
  rcases h with ⟨v1, j, g', sg', ⟨eb, k59⟩, ⟨C1, A1⟩, ⟨e7, e8, l24⟩, W1⟩ | ⟨v0, h⟩
  · have v1 : v = 1 := v1
    have C1 : CB σ1 t n c := C1
    have A1 : CA (σ1.1 57 9) t n c (tkE t n j) := A1
    have e7 : σ1.1 57 7 = g' 0 := e7
    have e8 : (σ1.1 57 8).toInt = (sg' : Int) := e8
    have W1 : WB σ1.1 B g' := W1
    refine pt_if (fun q => absurd (v1.symm.trans q) (by decide)) (fun _ => pt_gI (pt_pIx (fun τ2 a2 b2 c2 => ?_)))
    have ge := bdR_ge le eb
    have gt := tk_gt ge.2 (show ¬ tkK t n j = 0 by rw [k59]; decide)
    have le2 := CA_le A1
    obtain ⟨F1, g1', g0⟩ := LI_bd hL eb
    have w1 : (x4 + 1).toInt = x4.toInt + 1 := a1_ (by omega)
    have eg : g' 1 + 1 = x4 + 1 := by rw [g1', g1]
    have el : σ1.1 B 1 + 1 = x4 + 1 := by rw [W1.1.2.1, eg]
    rw [el] at a2
    have nz : ¬ x4 + 1 = 0 := nz_of (by omega)
    have n57 : (57 : Nat) ≠ B := by omega
    refine ih (x4 + 1, τ2) ⟨(by rw [w1]; omega : 0 ≤ (x4 + 1).toInt), tkE t n j, upd g' 1 (x4 + 1), sg', ⟨rc.sn ((stL_s k0 eb).trans ((if_pos k59).trans (by show _ = some (some (tkE t n j, upd g' 1 (x4 + 1), sg')); rw [← eg]))), LI_1 F1 nz g0⟩, ⟨CB_x C1 (by rw [c2]) (fun k hk => b2 k (by omega)) (by rw [b2 57 n57]), ?_⟩, ⟨?_, ?_, l24⟩, ?_, upd_s, ?_⟩
    · show CA (τ2.1 57 9) t n c _
      rw [b2 57 n57]; exact A1
    · show τ2.1 57 7 = _
      rw [b2 57 n57, upd_n (by decide)]; exact e7
    · show (τ2.1 57 8).toInt = _
      rw [b2 57 n57]; exact e8
    · have oa : ∀ a, a ≠ 1 → upd g' 1 (x4 + 1) a = g' a := fun a ha => upd_n ha
      have h3 : τ2.1 B 0 = upd g' 1 (x4 + 1) 0 ∧ τ2.1 B 1 = upd g' 1 (x4 + 1) 1 ∧ τ2.1 B 2 = upd g' 1 (x4 + 1) 2 := by
        rw [a2, oa 0 (by decide), oa 2 (by decide), upd_s, upd_s, upd_n (by decide), upd_n (by decide)]
        exact ⟨W1.1.1, rfl, W1.1.2.2⟩
      refine ⟨h3, fun z => absurd (by rw [← z, upd_s]) nz, fun _ => ⟨h3, fun k hk => ?_, fun k hk => ?_⟩⟩
      · show τ2.1 (B + 3) k = _ ∧ τ2.1 (B + 4) k = _
        rw [b2 _ (by omega), b2 _ (by omega), oa _ (by omega), oa _ (by omega)]; exact W1.2.1 k hk
      · rw [oa 2 (by decide)] at hk
        show τ2.1 (B + 1) k = _ ∧ τ2.1 (B + 2) k = _
        rw [b2 _ (by omega), b2 _ (by omega), oa _ (by omega), oa _ (by omega)]; exact W1.2.2 k hk
    · show (x4 + 1).toInt ≤ _
      rw [w1]; omega
  · have v0 : v = 0 := v0
    refine pt_if (fun _ => pt_rZ (Or.inr ⟨rfl, _, rc, ?_⟩)) (fun q => absurd v0 q)
    rcases h with h | ⟨d, hd, h59⟩
    · exact stL_n k0 h
    · rw [stL_s k0 hd]; exact if_neg h59
theorem vl_c45 {P : Unit × zS → Prop} (hN : 1048576 ≤ N) (hB : B = 2 ∨ B = 28) (hR : RF σ.2.2) (hP : ∀ τ : zS, (∀ k, τ.1 k = σ.1 k) → P ((), τ)) : Pt (zlp (F_X10_clear_45 N B) N (0, σ)) P := by
  refine pt_lp (fun s : Int32 × zS => RF s.2.2.2 ∧ ∀ k, s.2.1 k = σ.1 k) (fun again s hI ih => ?_) N _ ⟨hR, fun _ => rfl⟩
  obtain ⟨x1, τ⟩ := s
  obtain ⟨hr, ho⟩ := hI
  have hr : RF τ.2.2 := hr
  have ho : ∀ k, τ.1 k = σ.1 k := ho
  have R7 : τ.2.2 B 7 = B + 5 := by rcases hB with rfl | rfl; exact hr 2 7 rfl; exact hr 28 7 rfl
  have K7 : zKd (B + 5) = (17, 10) := by rcases hB with rfl | rfl <;> rfl
  rw [F_X10_clear_45.eq_1]
  refine pt_if (fun _ => pt_some (hP τ ho)) (fun _ => ?_)
  refine pt_gR (v := B + 5) R7 (pt_aRb (fun h0 h1 => pt_gC ?_))
  rw [K7] at h1
  obtain ⟨q, e, kq⟩ := arrF hr (k := B + 5) (n := 10) (i := x1) K7 h0 h1
  have e : τ.2.2 (B + 5) x1.toInt.toNat = q := e
  rw [e]
  refine pt_zb (pt_ok (s_X2_clear hN hr kq)) (fun _ σ1 h => ?_)
  have T1 : Tr [] τ σ1 := h.1
  exact ih (x1 + 1, σ1) ⟨hr.tr T1, fun k => (T1.2 k List.not_mem_nil).trans (ho k)⟩
theorem vl_clear (hN : 1048576 ≤ N) (hB : B = 2 ∨ B = 28) (hR : RF σ.2.2) : Pt (f_X10_clear N B σ) (fun r => (r.2.1 B 0 = 0 ∧ r.2.1 B 1 = 0 ∧ r.2.1 B 2 = 0) ∧ ∀ j, j < 10 → r.2.1 (B + 3) j = 1 ∧ r.2.1 (B + 4) j = nI j) := by
  rw [f_X10_clear.eq_1]
  refine pt_pIx (fun τ1 a1 b1 c1 => pt_pIx (fun τ2 a2 b2 c2 => pt_pIx (fun τ3 a3 b3 c3 => ?_)))
  have z0 : τ3.1 B 0 = 0 := by rw [a3, upd_n (by decide), a2, upd_n (by decide), a1, upd_s]
  have z1 : τ3.1 B 1 = 0 := by rw [a3, upd_n (by decide), a2, upd_s]
  have z2 : τ3.1 B 2 = 0 := by rw [a3, upd_s]
  have R3 : RF τ3.2.2 := by rw [c3, c2, c1]; exact hR
  clear a1 a2 a3 b1 b2 b3 c1 c2 c3
  refine pt_lp (fun s : Int32 × zS => (0 ≤ s.1.toInt ∧ s.1.toInt ≤ 10) ∧ s.2.2.2 = τ3.2.2 ∧ s.2.1 B = τ3.1 B ∧ ∀ j : Nat, (j : Int) < s.1.toInt → s.2.1 (B + 3) j = 1 ∧ s.2.1 (B + 4) j = nI j) (fun again s hI ih => ?_) N _ ⟨(by decide : 0 ≤ (0 : Int32).toInt ∧ (0 : Int32).toInt ≤ 10), rfl, rfl, fun j hj => absurd hj (by show ¬ (j : Int) < (0 : Int32).toInt; simp only [Int32.reduceToInt]; omega)⟩
  obtain ⟨x1, τ⟩ := s
  obtain ⟨hb, hr, ho, hj⟩ := hI
  have hb : 0 ≤ x1.toInt ∧ x1.toInt ≤ 10 := hb
  have hr : τ.2.2 = τ3.2.2 := hr
  have ho : τ.1 B = τ3.1 B := ho
  have hj : ∀ j : Nat, (j : Int) < x1.toInt → τ.1 (B + 3) j = 1 ∧ τ.1 (B + 4) j = nI j := hj
  have R9 : RF τ.2.2 := by rw [hr]; exact R3
  have rb := rB hB R9
  rw [F_X10_clear_17.eq_1]
  refine pt_if (fun q => ?_) (fun q => ?_)
  · rw [Int32.le_iff_toInt_le] at q
    simp only [Int32.reduceToInt] at q
    refine vl_c45 hN hB R9 (fun υ hυ => ?_)
    show (υ.1 B 0 = 0 ∧ υ.1 B 1 = 0 ∧ υ.1 B 2 = 0) ∧ ∀ j, j < 10 → υ.1 (B + 3) j = 1 ∧ υ.1 (B + 4) j = nI j
    rw [hυ B, hυ (B + 3), hυ (B + 4), ho]
    exact ⟨⟨z0, z1, z2⟩, fun j h => hj j (by omega)⟩
  · rw [Int32.le_iff_toInt_le] at q
    simp only [Int32.reduceToInt] at q
    have hw : 0 ≤ x1.toInt ∧ x1.toInt ≤ 100000 := by omega
    have hx1 : 0 ≤ (x1 + 1).toInt ∧ (x1 + 1).toInt ≤ 10 := by rw [a1_ hw]; omega
    refine pt_gR (v := B + 3) rb.2.2.1 (pt_s14 (pt_gR (v := B + 4) rb.2.2.2 (pt_s14 ?_)))
    refine ih (x1 + 1, _) ⟨hx1, hr, ?_, fun j h => ?_⟩
    · show (zI (zI τ (B + 3) _) (B + 4) _).1 B = _
      rw [zI_n (by omega), zI_n (by omega)]; exact ho
    · have h : (j : Int) < (x1 + 1).toInt := h
      rw [a1_ hw] at h
      clear hx1
      show (zI (zI τ (B + 3) _) (B + 4) _).1 (B + 3) j = _ ∧ (zI (zI τ (B + 3) _) (B + 4) _).1 (B + 4) j = _
      rw [zI_n (by omega), zI_s, zI_s, zI_n (by omega), upd_i, upd_i]
      by_cases e : j = x1.toInt.toNat
      · rw [if_pos e, if_pos e]
        refine ⟨rfl, Int32.toInt_inj.mp ?_⟩
        rw [nI_toInt (by omega)]; omega
      · rw [if_neg e, if_neg e]; exact hj j (by omega)
end CWORLD
section CWORLD2
variable {N : Nat} {σ τ : zS} {n B C : Nat}
/-- what world() of the class answers: the text is row 1 -/
def CXQ (t : Nat → Int32) (n B : Nat) (σ : zS) (G : Nat → Int32) (r : Int32 × zS) : Prop := ((r.1 = -4 ∧ r.2.2.2 0 4 = σ.2.2 0 4 ∧ ∀ k, 1 < k → k < 57 → (k < B ∨ B + 4 < k) → r.2.1 k = σ.1 k) ∧ ∃ d, Rc (stL t n) (0, G, 0) d ∧ stL t n d = none) ∨ (r.2.2.2 0 4 = B ∧ ∃ d, (Rc (stL t n) (0, G, 0) d ∧ stL t n d = some none) ∧ (r.1 = d.2.1 1 ∧ LI d.2.1) ∧ WP r.2.1 B d.2.1)
theorem vl_fault {P : Unit × zS → Prop} (hR : RF σ.2.2) (hP : ∀ τ : zS, τ.2.2 = σ.2.2 → (∀ k, k ≠ 0 → τ.1 k = σ.1 k) → P ((), τ)) : Pt (f_X11_takeFault N 0 σ) P := by
  rw [f_X11_takeFault.eq_1]
  refine pt_pIx (fun τ1 a1 b1 c1 => pt_gR (v := 57) (by rw [c1]; exact hR 0 9 rfl) (pt_gI (pt_pIx (fun τ2 a2 b2 c2 => pt_gR (v := 57) (by rw [c2, c1]; exact hR 0 9 rfl) (pt_gI (pt_pIx (fun τ3 a3 b3 c3 => pt_some (hP τ3 (by rw [c3, c2, c1]) (fun k hk => by rw [b3 k hk, b2 k hk, b1 k hk])))))))))
theorem vl_world {G : Nat → Int32} (hN : 1048576 ≤ N) (hB : B = 2 ∨ B = 28) (hR : RF σ.2.2) (h5 : σ.2.2 0 5 = B) (hW : WI B σ.1) (hD : RD σ.1) (hn : (σ.1 0 1).toInt = (n : Int) ∧ n ≤ 600) (hG : ∀ j, j < 43 → G j = 0) : Pt (f_X11_world N 0 σ) (CXQ (σ.1 1) n B σ G) := by
  have ten : ∀ {g : Nat → Int32} {s : Nat → Nat → Int32}, LI g → WP s B g → 0 ≤ (s B 0).toInt ∧ (s B 0).toInt ≤ 10 := fun hL hW => by rw [hW.1.1]; exact hL.1.1.1
  rw [f_X11_world.eq_1]
  refine pt_gR (v := B) h5 (pt_gC (pt_zb (pt_and (P := fun r => (∀ k, k ≠ B → k ≠ B + 3 → k ≠ B + 4 → r.2.1 k = σ.1 k) ∧ (RF r.2.2.2 ∧ r.2.2.2 0 = σ.2.2 0)) (vl_clear hN hB hR) ?_) (fun _ σ1 h1 => ?_)))
  · rcases hB with rfl | rfl
    · refine pt_w (pt_ok (s_X10_clear_2 hN hR hW)) (fun r h => ⟨fun k q0 q3 q4 => h.1.2 k (by simp only [List.mem_cons, List.not_mem_nil, or_false]; omega), hR.tr h.1, funext (fun j => h.1.1.1 0 j (by omega))⟩)
    · refine pt_w (pt_ok (s_X10_clear_28 hN hR hW)) (fun r h => ⟨fun k q0 q3 q4 => h.1.2 k (by simp only [List.mem_cons, List.not_mem_nil, or_false]; omega), hR.tr h.1, funext (fun j => h.1.1.1 0 j (by omega))⟩)
  obtain ⟨⟨z3, z10⟩, ok1, R1, r01⟩ := h1
  have z3 : σ1.1 B 0 = 0 ∧ σ1.1 B 1 = 0 ∧ σ1.1 B 2 = 0 := z3
  have z10 : ∀ j, j < 10 → σ1.1 (B + 3) j = 1 ∧ σ1.1 (B + 4) j = nI j := z10
  have ok1 : ∀ k, k ≠ B → k ≠ B + 3 → k ≠ B + 4 → σ1.1 k = σ.1 k := ok1
  have R1 : RF σ1.2.2 := R1
  have r01 : σ1.2.2 0 = σ.2.2 0 := r01
  have o0 : σ1.1 0 = σ.1 0 := ok1 0 (by omega) (by omega) (by omega)
  have o1 : σ1.1 1 = σ.1 1 := ok1 1 (by omega) (by omega) (by omega)
  refine pt_gR (v := 57) (R1 0 9 rfl) (pt_gR (v := 1) (R1 0 0 rfl) (pt_gI (pt_gR (v := B) (by rw [r01]; exact h5) (pt_gC ?_))))
  rw [o0]
  have WP1 : ∀ s : Nat → Nat → Int32, (∀ k, k < 57 → s k = σ1.1 k) → WP s B G := fun s e => by
    have h3 : s B 0 = G 0 ∧ s B 1 = G 1 ∧ s B 2 = G 2 := by
      rw [e B (by omega), hG 0 (by decide), hG 1 (by decide), hG 2 (by decide)]; exact z3
    refine ⟨h3, fun _ j hj => ?_, fun z => absurd (hG 1 (by decide)) z⟩
    rw [e (B + 3) (by omega), e (B + 4) (by omega)]; exact z10 j hj
  refine pt_zb (Q := fun r => (CWQ (σ.1 1) n B G r) ∧ ((RF r.2.2.2 ∧ r.2.2.2 0 = σ.2.2 0) ∧ ∀ k, 1 < k → k < 57 → (k < B ∨ B + 4 < k) → r.2.1 k = σ.1 k)) (pt_and ?_ ?_) (fun v8 σ2 h2 => ?_)
  · rw [f_X5_readWorld.eq_1]
    refine pt_gC (pt_zb (vl_open (n := n) hN R1 hn) (fun _ σ2 h2 => ?_))
    obtain ⟨c, ⟨hC, hA⟩, h7, h57⟩ := h2
    rw [o1] at hC hA
    exact vl_loop hN hB hC hA h7 hG (WP1 σ2.1 h57)
  · rcases hB with rfl | rfl
    · have D1 : RD σ1.1 := by unfold RD at hD ⊢; rw [ok1 57 (by decide) (by decide) (by decide), ok1 61 (by decide) (by decide) (by decide), ok1 63 (by decide) (by decide) (by decide), ok1 64 (by decide) (by decide) (by decide)]; exact hD
      have W1 : WI 2 σ1.1 := by
        unfold WI at hW ⊢
        rw [z3.1, z3.2.2, ok1 (2 + 1) (by decide) (by decide) (by decide), ok1 (2 + 2) (by decide) (by decide) (by decide)]
        exact ⟨by decide, by decide, hW.2.2⟩
      refine pt_w (pt_ok (s_X5_readWorld_1_2 hN R1 D1 W1)) (fun r h => ⟨⟨R1.tr h.1, funext (fun j => (h.1.1.1 0 j (by omega)).trans (congrFun r01 j))⟩, fun k h1 h2 h3 => (h.1.2 k (by simp only [List.mem_cons, List.not_mem_nil, or_false]; omega)).trans (ok1 k (by omega) (by omega) (by omega))⟩)
    · have D1 : RD σ1.1 := by unfold RD at hD ⊢; rw [ok1 57 (by decide) (by decide) (by decide), ok1 61 (by decide) (by decide) (by decide), ok1 63 (by decide) (by decide) (by decide), ok1 64 (by decide) (by decide) (by decide)]; exact hD
      have W1 : WI 28 σ1.1 := by
        unfold WI at hW ⊢
        rw [z3.1, z3.2.2, ok1 (28 + 1) (by decide) (by decide) (by decide), ok1 (28 + 2) (by decide) (by decide) (by decide)]
        exact ⟨by decide, by decide, hW.2.2⟩
      refine pt_w (pt_ok (s_X5_readWorld_1_28 hN R1 D1 W1)) (fun r h => ⟨⟨R1.tr h.1, funext (fun j => (h.1.1.1 0 j (by omega)).trans (congrFun r01 j))⟩, fun k h1 h2 h3 => (h.1.2 k (by simp only [List.mem_cons, List.not_mem_nil, or_false]; omega)).trans (ok1 k (by omega) (by omega) (by omega))⟩)
  · obtain ⟨hq, ⟨R2, r02⟩, o2⟩ := h2
    have o2 : ∀ k, 1 < k → k < 57 → (k < B ∨ B + 4 < k) → σ2.1 k = σ.1 k := o2
    have R2 : RF σ2.2.2 := R2
    have r02 : σ2.2.2 0 = σ.2.2 0 := r02
    refine pt_gC (pt_zb (Q := fun r => r.2.2.2 = σ2.2.2 ∧ ∀ k, k ≠ 0 → r.2.1 k = σ2.1 k) (vl_fault R2 (fun τ a b => ⟨a, b⟩)) (fun _ σ3 h3 => ?_))
    obtain ⟨r3, o3⟩ := h3
    have r3 : σ3.2.2 = σ2.2.2 := r3
    have o3 : ∀ k, k ≠ 0 → σ3.1 k = σ2.1 k := o3
    have R3 : RF σ3.2.2 := by rw [r3]; exact R2
    have r03 : σ3.2.2 0 5 = B := by rw [r3, r02]; exact h5
    rcases hq with ⟨v1, d, rc, hWP, hL⟩ | ⟨v0, hd⟩
    · have v1 : v8 = 1 := v1
      have hWP : WP σ2.1 B d.2.1 := hWP
      refine pt_if (fun q => absurd (v1.symm.trans q) (by decide)) (fun _ => ?_)
      refine pt_gR (v := 65) (R3 0 10 rfl) (pt_gR (v := 57) (R3 0 9 rfl) (pt_gR (v := B) r03 (pt_gR (v := 99) (R3 0 11 rfl) (pt_gC ?_))))
      have t3 : 0 ≤ (σ3.1 B 0).toInt ∧ (σ3.1 B 0).toInt ≤ 10 := by rw [o3 B (by omega)]; exact ten hL hWP
      refine pt_zb (Q := fun r => Tr [65, 106, 107] σ3 r.2) ?_ (fun _ σ4 T4 => ?_)
      · rcases hB with rfl | rfl
        · exact pt_w (pt_ok (s_X7_run_57_2_99 hN R3 t3)) (fun r h => h.1)
        · exact pt_w (pt_ok (s_X7_run_57_28_99 hN R3 t3)) (fun r h => h.1)
      · have T4 : Tr [65, 106, 107] σ3 σ4 := T4
        have R4 := R3.tr T4
        have r04 : σ4.2.2 0 5 = B := (T4.1.1 0 5 (by omega)).trans r03
        refine pt_gR (v := σ4.2.2 0 4) rfl (pt_gR (v := B) r04 ?_)
        refine pt_pR (fun σ5 i5 _ q5 => pt_pR (fun σ6 i6 _ q6 => ?_))
        have r6 : σ6.2.2 0 4 = B := by rw [q6, va_up_self, va_up_ne _ _ (by decide), q5, va_up_self, va_up_self]
        have i6 : σ6.1 = σ4.1 := i6.trans i5
        refine pt_gR (v := B) r6 (pt_gI (pt_some (Or.inr ⟨r6, d, rc, ⟨?_, hL⟩, ?_⟩)))
        · show σ6.1 B 1 = _
          rw [i6, T4.2 B (by simp only [List.mem_cons, List.not_mem_nil, or_false]; omega), o3 B (by omega)]; exact hWP.1.2.1
        · show WP σ6.1 B d.2.1
          have e : ∀ a, a ≤ 4 → σ6.1 (B + a) = σ2.1 (B + a) := fun a ha => by rw [i6, T4.2 _ (by simp only [List.mem_cons, List.not_mem_nil, or_false]; omega), o3 _ (by omega)]
          have e0 := e 0 (by decide)
          rw [Nat.add_zero] at e0
          unfold WP WB at hWP ⊢
          rw [e0, e 1 (by decide), e 2 (by decide), e 3 (by decide), e 4 (by decide)]; exact hWP
    · have v0 : v8 = 0 := v0
      exact pt_if (fun _ => pt_some (Or.inl ⟨⟨rfl, by show σ3.2.2 0 4 = _; rw [r3, r02], fun k h1 h2 h3 => by show σ3.1 k = _; rw [o3 k (by omega)]; exact o2 k h1 h2 h3⟩, hd⟩)) (fun q => absurd v0 q)
end CWORLD2

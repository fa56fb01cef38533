section LINV
variable {t : Nat → Int32} {n i j sg sg' : Nat} {g g' : Nat → Int32}
/-- what holds of a world's row at every line -/
def LI (g : Nat → Int32) : Prop := FW g ∧ (g 1 = 0 → (g 0).toInt = 0 ∧ (g 2).toInt = 0) ∧ (¬ g 1 = 0 → ¬ g 0 = 0)
theorem nvI_b {lo hi : Int32} (h : nOK t n i lo hi) : lo.toInt ≤ (nvI t n i).toInt ∧ (nvI t n i).toInt ≤ hi.toInt := by
  have h0 : 0 ≤ nv5 t n i ∧ nv5 t n i ≤ 99999 := by unfold nv5; omega
  have e : (nvI t n i).toInt = nv5 t n i := by unfold nvI; rw [nI_toInt (by omega)]; omega
  rw [e]
  exact h.2
theorem nz_of {v : Int32} (h : 1 ≤ v.toInt) : ¬ v = 0 := fun q => by rw [q] at h; exact absurd h (by decide)
theorem LI_nm (h : LI g) (h1 : g 1 = 0) (ho : nmR t n i g sg = some (j, g', sg')) : FW g' ∧ g' 1 = g 1 ∧ ¬ g' 0 = 0 := by
  by_cases q : isW t n i 11 ∧ nOK t n (tkE t n i) 1 10
  · rw [nmR_t q] at ho
    obtain ⟨-, rfl, -⟩ := Prod.mk.inj (Option.some.inj ho) |> fun z => (⟨z.1, (Prod.mk.inj z.2).1, (Prod.mk.inj z.2).2⟩ : _ ∧ _ ∧ _)
    have b := nvI_b q.2
    simp only [Int32.reduceToInt] at b
    have h2 := (h.2.1 h1).2
    refine ⟨⟨⟨?_, ?_⟩, fun k hk => ?_, Or.inr (fun k hk => ?_)⟩, ?_, ?_⟩
    · show 0 ≤ (nvI t n (tkE t n i)).toInt ∧ (nvI t n (tkE t n i)).toInt ≤ 10
      omega
    · show 0 ≤ (g 2).toInt ∧ (g 2).toInt ≤ (nvI t n (tkE t n i)).toInt
      omega
    · have e1 : nmRow g (nvI t n (tkE t n i)) (13 + k) = g (13 + k) := by
        unfold nmRow; rw [if_neg (by omega), if_neg (by omega), if_neg (by omega)]
      have e2 : nmRow g (nvI t n (tkE t n i)) (23 + k) = g (23 + k) := by
        unfold nmRow; rw [if_neg (by omega), if_neg (by omega), if_neg (by omega)]
      rw [e1, e2]; exact h.1.2.1 k hk
    · unfold nmRow; rw [if_neg (by omega), if_neg (by omega), if_pos (by omega), show 33 + k - 33 = k by omega]
    · rfl
    · exact nz_of (v := nvI t n (tkE t n i)) (by omega)
  · rw [nmR_f q] at ho; cases ho
theorem some3 {a b : Nat} {f h : Nat → Int32} {c d : Nat} (e : (some (a, f, c) : LO) = some (b, h, d)) : a = b ∧ f = h ∧ c = d := by
  have e := Option.some.inj e
  exact ⟨congrArg Prod.fst e, congrArg (fun z => z.2.1) e, congrArg (fun z => z.2.2) e⟩
theorem LI_wt (h : LI g) (ho : wtR t n i g sg = some (j, g', sg')) : FW g' ∧ g' 1 = g 1 ∧ g' 0 = g 0 := by
  by_cases q : nmOK t n i (g 0) ∧ nOK t n (tkE t n i) 0 99
  · rw [wtR_t q] at ho
    obtain ⟨-, e, -⟩ := some3 ho
    have b : ((t (tkF t n i)).toInt - 97).toNat ≤ 9 := by have := q.1.2.2; have := h.1.1.1.2; omega
    generalize ((t (tkF t n i)).toInt - 97).toNat = k at *
    generalize nvI t n (tkE t n i) = v at *
    have o : ∀ a, (a < 3 ∨ 13 ≤ a) → g' a = g a := fun a ha => by rw [← e]; exact upd_n (by omega)
    refine ⟨?_, o 1 (by omega), o 0 (by omega)⟩
    unfold FW
    rw [o 0 (by omega), o 2 (by omega)]
    refine ⟨h.1.1, fun k hk => ?_, ?_⟩
    · rw [o (13 + k) (by omega), o (23 + k) (by omega)]; exact h.1.2.1 k hk
    · refine h.1.2.2.imp id (fun z k hk => ?_)
      rw [o (33 + k) (by omega)]; exact z k hk
  · rw [wtR_f q] at ho; cases ho
theorem LI_ed (h : LI g) (h2 : ¬ g 2 = g 0) (ho : edR t n i g sg = some (j, g', sg')) : FW g' ∧ g' 1 = g 1 ∧ g' 0 = g 0 := by
  by_cases q : edOK t n i
  · rw [edR_t q] at ho
    obtain ⟨-, e, -⟩ := some3 ho
    have b1 := nvI_b q.1
    have b2 := nvI_b q.2.2
    generalize nvI t n i = v at *
    generalize nvI t n (tkE t n i) = w at *
    simp only [Int32.reduceToInt] at b1 b2
    have hb := h.1.1
    have lt : (g 2).toInt < (g 0).toInt := by
      have : (g 2).toInt ≠ (g 0).toInt := fun z => h2 (Int32.toInt_inj.mp z)
      omega
    have s2 : (g 2 + 1).toInt = (g 2).toInt + 1 := a1_ ⟨by omega, by omega⟩
    obtain ⟨m, hm⟩ : ∃ m, m = (g 2).toInt.toNat := ⟨_, rfl⟩
    have hm9 : m ≤ 9 := by omega
    have eg : ∀ a, g' a = if a = 2 then g 2 + 1 else if a = 23 + m then w else if a = 13 + m then v else g a := fun a => by rw [← e, hm]; rfl
    have o2 : g' 2 = g 2 + 1 := by rw [eg, if_pos rfl]
    have o : ∀ a, a ≠ 2 → a ≠ 23 + m → a ≠ 13 + m → g' a = g a := fun a q1 q2 q3 => by rw [eg, if_neg q1, if_neg q2, if_neg q3]
    refine ⟨?_, o 1 (by omega) (by omega) (by omega), o 0 (by omega) (by omega) (by omega)⟩
    unfold FW
    rw [o 0 (by omega) (by omega) (by omega), o2, s2]
    refine ⟨⟨hb.1, by omega⟩, fun k hk => ?_, ?_⟩
    · have z := h.1.2.1 k hk
      constructor
      · by_cases y : k = m
        · rw [y, eg, if_neg (by omega), if_neg (by omega), if_pos rfl]; exact b1
        · rw [o (13 + k) (by omega) (by omega) (by omega)]; exact z.1
      · by_cases y : k = m
        · rw [y, eg, if_neg (by omega), if_pos rfl]; exact b2
        · rw [o (23 + k) (by omega) (by omega) (by omega)]; exact z.2
    · refine h.1.2.2.imp id (fun z k hk => ?_)
      rw [o (33 + k) (by omega) (by omega) (by omega)]; exact z k hk
  · rw [edR_f q] at ho; cases ho
theorem LI_bd (h : LI g) (ho : bdR t n i g sg = some (j, g', sg')) : FW g' ∧ g' 1 = g 1 ∧ ¬ g' 0 = 0 := by
  unfold bdR at ho
  by_cases h1 : g 1 = 0
  · rw [if_pos h1] at ho; exact LI_nm h h1 ho
  · rw [if_neg h1] at ho
    have n0 := h.2.2 h1
    by_cases a : isW t n i 12
    · rw [lnR_w a] at ho
      have := LI_wt h ho
      exact ⟨this.1, this.2.1, by rw [this.2.2]; exact n0⟩
    · by_cases b : isW t n i 13
      · by_cases c : g 2 = g 0
        · rw [lnR_m a b c] at ho; cases ho
        · rw [lnR_e a b c] at ho
          have := LI_ed h c ho
          exact ⟨this.1, this.2.1, by rw [this.2.2]; exact n0⟩
      · by_cases c : isW t n i 14
        · rw [lnR_l a b c] at ho
          obtain ⟨p, _, e⟩ := Option.map_eq_some_iff.mp ho
          have e := congrArg (fun z => z.2.1) e
          have e : g = g' := e
          rw [← e]; exact ⟨h.1, rfl, n0⟩
        · rw [lnR_z a b c] at ho; cases ho
theorem LI_1 {w : Int32} (h : FW g) (hw : ¬ w = 0) (h0 : ¬ g 0 = 0) : LI (upd g 1 w) := by
  have o : ∀ a, a ≠ 1 → upd g 1 w a = g a := fun a ha => upd_n ha
  refine ⟨?_, fun q => absurd (by rw [← q, upd_s]) hw, fun _ => by rw [o 0 (by decide)]; exact h0⟩
  unfold FW
  rw [o 0 (by decide), o 2 (by decide)]
  refine ⟨h.1, fun k hk => ?_, ?_⟩
  · rw [o _ (by omega), o _ (by omega)]; exact h.2.1 k hk
  · refine h.2.2.imp id (fun z k hk => ?_)
    rw [o _ (by omega)]; exact z k hk
theorem LI_0 (h : ∀ j, j < 43 → g j = 0) : LI g := by
  refine ⟨FW_0 h, fun _ => ?_, fun q => absurd (h 1 (by decide)) q⟩
  rw [h 0 (by decide), h 2 (by decide)]; decide
end LINV
section RWORLD
variable {N : Nat} {σ : zS} {t : Nat → Int32} {n : Nat}
theorem pt_pIx {β : Type} {P : β → Prop} {ci j k : Nat} {v : Int32} {f : zS → Option β} (h : ∀ τ : zS, τ.1 k = upd (σ.1 k) j v → (∀ a, a ≠ k → τ.1 a = σ.1 a) → τ.2 = σ.2 → Pt (f τ) P) : Pt (zl (pI ci j k v σ) f) P := pt_pI (h _ zI_s (fun _ ha => zI_n ha) rfl)
theorem vr_begins (hN : 1048576 ≤ N) (hR : RF σ.2.2) (hp : 0 ≤ (σ.1 218 7).toInt ∧ (σ.1 218 7).toInt ≤ 600) (hY : BYT (σ.1 224)) : Pt (f_X12_begins N 218 σ) (fun r => RX r.2.1 (σ.1 224) (σ.1 218 7).toInt.toNat 0) := by
  rw [f_X12_begins.eq_1]
  refine pt_gI (pt_pIx (fun τ1 a1 b1 c1 => pt_pIx (fun τ2 a2 b2 c2 => pt_pIx (fun τ3 a3 b3 c3 => pt_pIx (fun τ4 a4 b4 c4 => pt_pIx (fun τ5 a5 b5 c5 => pt_pIx (fun τ6 a6 b6 c6 => pt_gC ?_)))))))
  have e9 : τ6.1 218 9 = σ.1 218 7 := by rw [a6, upd_n (by decide), a5, upd_n (by decide), a4, upd_n (by decide), a3, upd_n (by decide), a2, upd_n (by decide), a1, upd_s]
  have e10 : τ6.1 218 10 = 0 := by rw [a6, upd_n (by decide), a5, upd_n (by decide), a4, upd_n (by decide), a3, upd_s]
  have e224 : τ6.1 224 = σ.1 224 := by rw [b6 _ (by decide), b5 _ (by decide), b4 _ (by decide), b3 _ (by decide), b2 _ (by decide), b1 _ (by decide)]
  have eR : τ6.2 = σ.2 := by rw [c6, c5, c4, c3, c2, c1]
  clear a1 a2 a3 a4 a5 a6 b1 b2 b3 b4 b5 b6 c1 c2 c3 c4 c5 c6
  have z : (0 : Int32).toInt = 0 := rfl
  refine pt_zb (pt_ok (s_X12_advance_x hN (by rw [eR]; exact hR) (by rw [e9, e10, z]; omega) (by rw [e224]; exact hY))) (fun _ σ9 h => pt_some ?_)
  obtain ⟨T, K, _, d9, _⟩ := h
  have T : Tr [218] τ6 σ9 := T
  have K : TKS σ9.1 (τ6.1 224) (τ6.1 218 9).toInt.toNat (τ6.1 218 10).toInt.toNat := K
  have d9 : σ9.1 218 9 = τ6.1 218 9 := d9
  rw [e224, e9, e10] at K
  exact ⟨⟨(T.2 224 (by decide)).trans e224, by show (σ9.1 218 9).toInt.toNat = _; rw [d9, e9]⟩, K⟩
/-- the reading of a world, between two lines -/
def RWI (t : Nat → Int32) (n : Nat) (G W : Nat → Int32) (τ : zS) : Prop := ((RF τ.2.2 ∧ TOK τ.1) ∧ (τ.1 224 = t ∧ ZB τ.1) ∧ τ.1 219 = W) ∧ (τ.1 218 14 = 0 → ∃ i, ((RX τ.1 t n i ∧ i ≤ n) ∧ Rc (stL t n) (0, G, 0) (i, τ.1 231, (τ.1 218 25).toInt.toNat)) ∧ (0 ≤ (τ.1 218 25).toInt ∧ (τ.1 218 25).toInt ≤ 24) ∧ LI (τ.1 231) ∧ 0 ≤ (τ.1 231 1).toInt ∧ (τ.1 231 1).toInt ≤ (τ.1 218 11).toInt) ∧ (¬ τ.1 218 14 = 0 → ∃ d, Rc (stL t n) (0, G, 0) d ∧ stL t n d = none)
theorem vr_tail {P : Int32 × zS → Prop} {again : zS → Option (Int32 × zS)} {G W : Nat → Int32} {i : Nat} {g : Nat → Int32} {sg : Nat} (hN : 1048576 ≤ N) (hY : BYT t) (hR : RF σ.2.2) (hK : TOK σ.1) (h224 : σ.1 224 = t) (hB : ZB σ.1) (h219 : σ.1 219 = W)
    (hrc : Rc (stL t n) (0, G, 0) (i, g, sg)) (hk : ¬ tkK t n i = 0) (hL : LI g) (hl : 0 ≤ (g 1).toInt ∧ (g 1).toInt ≤ (σ.1 218 11).toInt) (hLB : LB t n (bdR t n i g sg) σ.1) (ih : ∀ τ, RWI t n G W τ → Pt (again τ) P) :
    Pt (zl (gC 12 218) fun _ => zb (f_X12_needsSign N 218 59 σ) fun _ σ23 => zl (gR 12 26 218 σ23) fun v24 => zl (aI 14 v24 1 σ23) fun v25 => zl (sI 14 v24 1 (v25 + 1) σ23) fun σ26 => again σ26) P := by
  obtain ⟨j, hj⟩ : ∃ j, σ.1 218 14 = 0 → bdR t n i g sg = some (j, σ.1 231, (σ.1 218 25).toInt.toNat) ∧ RX σ.1 t n j ∧ j ≤ n ∧ 0 ≤ (σ.1 218 25).toInt ∧ (σ.1 218 25).toInt ≤ 24 := by
    by_cases q : σ.1 218 14 = 0
    · obtain ⟨j, z⟩ := hLB.1 q
      exact ⟨j, fun _ => z⟩
    · exact ⟨0, fun z => absurd z q⟩
  refine pt_gC (pt_zb (pt_ok (s_X12_needsSign_r (tx := t) (n := n) (i := j) hN hR hK (by rw [h224]; exact hY) (fun q => (hj q).2.1) (by decide))) (fun _ σ1 h1 => ?_))
  obtain ⟨T1, ⟨K1, _, u1, f1⟩, _, _, _, _, _, _, e25⟩ := h1
  have T1 : Tr [218] σ σ1 := T1
  have K1 : TOK σ1.1 := K1
  have u1 : σ1.1 218 14 = 0 → (σ.1 218 14 = 0 ∧ (σ.1 218 11).toInt < (σ1.1 218 11).toInt) ∧ tkK t n j = 59 ∧ RX σ1.1 t n (tkE t n j) := u1
  have f1 : ¬ σ1.1 218 14 = 0 → σ.1 218 14 = 0 → ¬ tkK t n j = 59 := f1
  have e25 : σ1.1 218 25 = σ.1 218 25 := e25
  have r1 : σ1.1 231 = σ.1 231 := T1.2 231 (by decide)
  refine pt_gR (v := 231) ((hR.tr T1) 218 26 rfl) (pt_aI (pt_s14 (ih _ ?_)))
  have z1 : (Int32.toInt 1).toNat = 1 := rfl
  rw [z1]
  obtain ⟨τ, hτ⟩ : ∃ τ : zS, τ = zI σ1 231 (upd (σ1.1 231) 1 (σ1.1 231 1 + 1)) := ⟨_, rfl⟩
  rw [← hτ]
  have o : ∀ k, k ≠ 231 → τ.1 k = σ1.1 k := fun k hk => by rw [hτ]; exact zI_n hk
  have o231 : τ.1 231 = upd (σ.1 231) 1 (σ.1 231 1 + 1) := by rw [hτ, zI_s, r1]
  have oR : τ.2.2 = σ1.2.2 := by rw [hτ]
  have K2 : TOK τ.1 := TOK_c K1 (by rw [o 218 (by decide)]) (by rw [o 218 (by decide)]) (by rw [o 218 (by decide)]) (by rw [o 218 (by decide)]) (o 224 (by decide))
  have B1 : ZB σ1.1 := ZB.tr T1 (by decide) hB
  have B2 : ZB τ.1 := fun k hk j => by
    by_cases q : k = 231
    · rw [q] at hk; exact absurd hk (by decide)
    · rw [o k q]; exact B1 k hk j
  refine ⟨⟨⟨by rw [oR]; exact hR.tr T1, K2⟩, ⟨(o 224 (by decide)).trans ((T1.2 224 (by decide)).trans h224), B2⟩, (o 219 (by decide)).trans ((T1.2 219 (by decide)).trans h219)⟩, fun q => ?_, fun q => ?_⟩
  · rw [o 218 (by decide)] at q
    obtain ⟨⟨q0, gain⟩, k59, G1⟩ := u1 q
    obtain ⟨eb, _, lej, s25⟩ := hj q0
    obtain ⟨F1, g1, g0⟩ := LI_bd hL eb
    have K6 := K1.1
    have w1 : (σ.1 231 1 + 1).toInt = (σ.1 231 1).toInt + 1 := a1_ (by rw [g1]; omega)
    have g1i := congrArg Int32.toInt g1
    refine ⟨tkE t n j, ⟨⟨RX_c (o 218 (by decide)) (o 224 (by decide)) G1, (tk_le lej).2.2⟩, ?_⟩, ?_, ?_, ?_⟩
    · rw [o231, o 218 (by decide), e25]
      refine hrc.sn ((stL_s hk eb).trans ?_)
      exact if_pos k59
    · rw [o 218 (by decide), e25]; exact s25
    · rw [o231]
      exact LI_1 F1 (nz_of (by omega)) g0
    · rw [o231, upd_s, o 218 (by decide), w1]; omega
  · rw [o 218 (by decide)] at q
    refine ⟨_, hrc, ?_⟩
    by_cases q0 : σ.1 218 14 = 0
    · rw [stL_s hk (hj q0).1]; exact if_neg (f1 q q0)
    · exact stL_n hk (hLB.2 q0)
end RWORLD

/-! ===== what steps make of registers and a pile; that steps of a sum fit ===== -/
section EV
abbrev zFm : Type := Nat → Bool
noncomputable def bl (P : Nat → Prop) : zFm := fun u => by classical exact decide (P u)
theorem bl_t {P : Nat → Prop} {u : Nat} : bl P u = true ↔ P u := by
  classical
  unfold bl; exact decide_eq_true_iff
/-- registers, pile (the top first) -/
abbrev zEv : Type := (Nat → zFm) × List zFm
def adds (s : Nat) : List zFm → List zFm
  | [] => []
  | x :: S => (fun u => x u || decide (u = s)) :: S
noncomputable def comb (M : Nat) (w : Int32) : List zFm → List zFm
  | y :: x :: S => bl (CS w x y M) :: S
  | S => S
noncomputable def resh (M : Nat) (w : Int32) : List zFm → List zFm
  | x :: S => bl (RS w x M) :: S
  | S => S
def stor (p : Nat) (G : Nat → zFm) : List zFm → Nat → zFm
  | [] => G
  | x :: _ => fun q => if q = p then x else G q
noncomputable def ev1 (M : Nat) (o : zOp) (s : zEv) : zEv :=
  if o.1 = 0 then (s.1, s.1 o.2.toInt.toNat :: s.2)
  else if o.1 = 1 then (s.1, (fun _ => false) :: s.2)
  else if o.1 = 2 then (s.1, (fun u => decide (u < M)) :: s.2)
  else if o.1 = 3 then (s.1, adds o.2.toInt.toNat s.2)
  else if o.1 = 4 then (s.1, comb M o.2 s.2)
  else if o.1 = 5 then (s.1, resh M o.2 s.2)
  else (stor o.2.toInt.toNat s.1 s.2, [])
noncomputable def evs (M : Nat) : List zOp → zEv → zEv
  | [], s => s
  | o :: O, s => evs M O (ev1 M o s)
theorem evs_app {M : Nat} : ∀ (O P : List zOp) (s : zEv), evs M (O ++ P) s = evs M P (evs M O s)
  | [], _, _ => rfl
  | o :: O, P, s => evs_app O P (ev1 M o s)
section E1
variable {M : Nat} {v : Int32} {G : Nat → zFm} {S : List zFm} {x y : zFm}
theorem ev_0 : ev1 M (0, v) (G, S) = (G, G v.toInt.toNat :: S) := if_pos rfl
theorem ev_1 : ev1 M (1, v) (G, S) = (G, (fun _ => false) :: S) := (if_neg (show ¬ (1 : Int32) = 0 by decide)).trans (if_pos rfl)
theorem ev_2 : ev1 M (2, v) (G, S) = (G, (fun u => decide (u < M)) :: S) := (if_neg (show ¬ (2 : Int32) = 0 by decide)).trans ((if_neg (show ¬ (2 : Int32) = 1 by decide)).trans (if_pos rfl))
theorem ev_3 : ev1 M (3, v) (G, x :: S) = (G, (fun u => x u || decide (u = v.toInt.toNat)) :: S) := (if_neg (show ¬ (3 : Int32) = 0 by decide)).trans ((if_neg (show ¬ (3 : Int32) = 1 by decide)).trans ((if_neg (show ¬ (3 : Int32) = 2 by decide)).trans (if_pos rfl)))
theorem ev_4 : ev1 M (4, v) (G, y :: x :: S) = (G, bl (CS v x y M) :: S) := (if_neg (show ¬ (4 : Int32) = 0 by decide)).trans ((if_neg (show ¬ (4 : Int32) = 1 by decide)).trans ((if_neg (show ¬ (4 : Int32) = 2 by decide)).trans ((if_neg (show ¬ (4 : Int32) = 3 by decide)).trans (if_pos rfl))))
theorem ev_5 : ev1 M (5, v) (G, x :: S) = (G, bl (RS v x M) :: S) := (if_neg (show ¬ (5 : Int32) = 0 by decide)).trans ((if_neg (show ¬ (5 : Int32) = 1 by decide)).trans ((if_neg (show ¬ (5 : Int32) = 2 by decide)).trans ((if_neg (show ¬ (5 : Int32) = 3 by decide)).trans ((if_neg (show ¬ (5 : Int32) = 4 by decide)).trans (if_pos rfl)))))
theorem ev_6 : ev1 M (6, v) (G, x :: S) = ((fun q => if q = v.toInt.toNat then x else G q), []) := (if_neg (show ¬ (6 : Int32) = 0 by decide)).trans ((if_neg (show ¬ (6 : Int32) = 1 by decide)).trans ((if_neg (show ¬ (6 : Int32) = 2 by decide)).trans ((if_neg (show ¬ (6 : Int32) = 3 by decide)).trans ((if_neg (show ¬ (6 : Int32) = 4 by decide)).trans (if_neg (show ¬ (6 : Int32) = 5 by decide))))))
end E1
/-- a step that fits on h that are piled -/
def vd1 (M : Nat) (o : zOp) (h : Nat) : Prop := (o.1 = 0 ∧ (0 ≤ o.2.toInt ∧ o.2.toInt < 10) ∧ h < 16) ∨ (o.1 = 1 ∧ h < 16) ∨ (o.1 = 2 ∧ h < 16) ∨ (o.1 = 3 ∧ (0 ≤ o.2.toInt ∧ o.2.toInt.toNat < M) ∧ 1 ≤ h) ∨ (o.1 = 4 ∧ 2 ≤ h) ∨ (o.1 = 5 ∧ 1 ≤ h) ∨ (o.1 = 6 ∧ (0 ≤ o.2.toInt ∧ o.2.toInt < 10) ∧ 1 ≤ h)
def nh (o : zOp) (h : Nat) : Nat := if o.1 = 0 ∨ o.1 = 1 ∨ o.1 = 2 then h + 1 else if o.1 = 4 then h - 1 else if o.1 = 3 ∨ o.1 = 5 then h else 0
def vds (M : Nat) : List zOp → Nat → Prop
  | [], _ => True
  | o :: O, h => vd1 M o h ∧ vds M O (nh o h)
def hts : List zOp → Nat → Nat
  | [], h => h
  | o :: O, h => hts O (nh o h)
theorem hts_app : ∀ (O P : List zOp) (h : Nat), hts (O ++ P) h = hts P (hts O h)
  | [], _, _ => rfl
  | o :: O, P, h => hts_app O P (nh o h)
theorem vds_app {M : Nat} : ∀ {O P : List zOp} {h : Nat}, vds M O h → vds M P (hts O h) → vds M (O ++ P) h
  | [], _, _, _, h2 => h2
  | o :: O, P, h, h1, h2 => ⟨h1.1, vds_app (O := O) (P := P) h1.2 h2⟩
theorem vds_1 {M : Nat} {O : List zOp} {o : zOp} {h : Nat} (h1 : vds M O h) (h2 : vd1 M o (hts O h)) : vds M (O ++ [o]) h := vds_app h1 ⟨h2, trivial⟩
theorem hts_1 {O : List zOp} {o : zOp} {h : Nat} : hts (O ++ [o]) h = nh o (hts O h) := hts_app O [o] h
theorem nh_p {v : Int32} {h : Nat} : nh (0, v) h = h + 1 ∧ nh (1, v) h = h + 1 ∧ nh (2, v) h = h + 1 ∧ nh (3, v) h = h ∧ nh (4, v) h = h - 1 ∧ nh (5, v) h = h ∧ nh (6, v) h = 0 := by
  unfold nh
  refine ⟨if_pos (Or.inl rfl), if_pos (Or.inr (Or.inl rfl)), if_pos (Or.inr (Or.inr rfl)), ?_, ?_, ?_, ?_⟩
  · exact (if_neg (show ¬ ((3 : Int32) = 0 ∨ (3 : Int32) = 1 ∨ (3 : Int32) = 2) by decide)).trans ((if_neg (show ¬ (3 : Int32) = 4 by decide)).trans (if_pos (Or.inl rfl)))
  · exact (if_neg (show ¬ ((4 : Int32) = 0 ∨ (4 : Int32) = 1 ∨ (4 : Int32) = 2) by decide)).trans (if_pos rfl)
  · exact (if_neg (show ¬ ((5 : Int32) = 0 ∨ (5 : Int32) = 1 ∨ (5 : Int32) = 2) by decide)).trans ((if_neg (show ¬ (5 : Int32) = 4 by decide)).trans (if_pos (Or.inr rfl)))
  · exact (if_neg (show ¬ ((6 : Int32) = 0 ∨ (6 : Int32) = 1 ∨ (6 : Int32) = 2) by decide)).trans ((if_neg (show ¬ (6 : Int32) = 4 by decide)).trans (if_neg (show ¬ ((6 : Int32) = 3 ∨ (6 : Int32) = 5) by decide)))
def cmb (W : List Int32) : Nat := (W.filter (fun w => decide (w < 50))).length
def trk : List Int32 → Int
  | [] => 0
  | w :: _ => if w < 50 then (rkI w).toInt else 0
def Wk : List Int32 → Prop
  | [] => True
  | w :: W => Wk W ∧ ((50 ≤ w.toInt ∧ w.toInt ≤ 100) ∨ ((0 ≤ w.toInt ∧ w.toInt ≤ 6) ∧ trk W < (rkI w).toInt))
theorem lt50 {w : Int32} : (w < 50 ↔ w.toInt < 50) ∧ (50 ≤ w ↔ 50 ≤ w.toInt) := by
  rw [Int32.lt_iff_toInt_lt, Int32.le_iff_toInt_le]
  exact ⟨Iff.rfl, Iff.rfl⟩
theorem cmb_s {w : Int32} {W : List Int32} (h : w.toInt < 50) : cmb (w :: W) = cmb W + 1 ∧ opn (w :: W) = opn W := by
  unfold cmb opn
  rw [List.filter_cons, List.filter_cons, if_pos (by rw [decide_eq_true_iff]; exact lt50.1.mpr h), if_neg (by rw [decide_eq_true_iff, lt50.2]; omega)]
  exact ⟨rfl, rfl⟩
theorem cmb_o {w : Int32} {W : List Int32} (h : 50 ≤ w.toInt) : cmb (w :: W) = cmb W ∧ opn (w :: W) = opn W + 1 := by
  unfold cmb opn
  rw [List.filter_cons, List.filter_cons, if_neg (by rw [decide_eq_true_iff, lt50.1]; omega), if_pos (by rw [decide_eq_true_iff]; exact lt50.2.mpr h)]
  exact ⟨rfl, rfl⟩
theorem Wk_b : ∀ {W : List Int32}, Wk W → ((cmb W : Int) ≤ 2 * opn W + trk W ∧ 0 ≤ trk W) ∧ trk W ≤ 2
  | [], _ => by
    show ((((0 : Nat) : Int)) ≤ 2 * ((0 : Nat) : Int) + 0 ∧ (0 : Int) ≤ 0) ∧ (0 : Int) ≤ 2
    omega
  | w :: W, h => by
    have b := Wk_b h.1
    rcases h.2 with q | ⟨q, l⟩
    · have c := cmb_o (W := W) q.1
      have e : trk (w :: W) = 0 := if_neg (fun z => by rw [lt50.1] at z; omega)
      rw [c.1, c.2, e]
      omega
    · have c := cmb_s (W := W) (show w.toInt < 50 by omega)
      have e : trk (w :: W) = (rkI w).toInt := if_pos (lt50.1.mpr (by omega))
      have r := rk_s q
      rw [c.1, c.2, e]
      omega
theorem opW_s {w : Int32} (h : w.toInt < 50) : opW w = (4, w) := if_pos (lt50.1.mpr h)
theorem opW_o {w : Int32} (h : 50 ≤ w.toInt) : opW w = (5, w - 50) := if_neg (fun z => by rw [lt50.1] at z; omega)
theorem rk_0 {w : Int32} (h : rkI w < 1) : w = 100 := by
  by_cases q : w = 100
  · exact q
  · exfalso
    unfold rkI at h
    rw [if_neg q] at h
    split at h
    · split at h
      · exact absurd h (by decide)
      · split at h <;> exact absurd h (by decide)
    · exact absurd h (by decide)
/-- what is left by settling fits as before -/
theorem setl_H {M : Nat} {r : Int32} (h1 : 1 ≤ r) : ∀ (W : List Int32) (O : List zOp), Wk W → vds M O 0 → hts O 0 = cmb W + 1 → (Wk (setl r W O).1 ∧ opn (setl r W O).1 ≤ opn W) ∧ vds M (setl r W O).2 0 ∧ hts (setl r W O).2 0 = cmb (setl r W O).1 + 1
  | [], O, hW, hv, hh => ⟨⟨hW, Nat.le_refl _⟩, hv, hh⟩
  | w :: W, O, hW, hv, hh => by
    by_cases q : rkI w < r
    · rw [setl_s q]; exact ⟨⟨hW, Nat.le_refl _⟩, hv, hh⟩
    · rw [setl_p q]
      by_cases l : w.toInt < 50
      · have c := cmb_s (W := W) l
        have i := setl_H (M := M) h1 W (O ++ [opW w]) hW.1 (vds_1 hv (by rw [opW_s l]; exact Or.inr (Or.inr (Or.inr (Or.inr (Or.inl ⟨rfl, by omega⟩)))))) (by rw [hts_1, opW_s l, nh_p.2.2.2.2.1]; omega)
        rw [c.2]; exact i
      · have c := cmb_o (W := W) (show 50 ≤ w.toInt by omega)
        have i := setl_H (M := M) h1 W (O ++ [opW w]) hW.1 (vds_1 hv (by rw [opW_o (by omega)]; exact Or.inr (Or.inr (Or.inr (Or.inr (Or.inr (Or.inl ⟨rfl, by omega⟩))))))) (by rw [hts_1, opW_o (by omega), nh_p.2.2.2.2.2.1]; omega)
        exact ⟨⟨i.1.1, by omega⟩, i.2⟩
theorem setl_top {r : Int32} : ∀ (W : List Int32) (O : List zOp), (setl r W O).1 = [] ∨ ∃ w V, (setl r W O).1 = w :: V ∧ rkI w < r
  | [], _ => Or.inl rfl
  | w :: W, O => by
    by_cases q : rkI w < r
    · rw [setl_s q]; exact Or.inr ⟨w, W, rfl, q⟩
    · rw [setl_p q]; exact setl_top W _
theorem setl_100 {r : Int32} (h1 : 1 ≤ r) : ∀ (W : List Int32) (O : List zOp), 100 ∈ (setl r W O).1 ↔ 100 ∈ W
  | [], _ => Iff.rfl
  | w :: W, O => by
    by_cases q : rkI w < r
    · rw [setl_s q]
    · rw [setl_p q, setl_100 h1 W]
      refine ⟨fun z => List.mem_cons_of_mem _ z, fun z => (List.mem_cons.mp z).elim (fun e => ?_) id⟩
      refine absurd ?_ q
      rw [← e]
      have : rkI 100 = 0 := by decide
      rw [this, Int32.lt_iff_toInt_lt]
      rw [Int32.le_iff_toInt_le] at h1
      simp only [Int32.reduceToInt] at h1 ⊢
      omega
/-- a reading that fits -/
def HI (M : Nat) (c : Cv) : Prop := (vds M c.2.2.2 0 ∧ hts c.2.2.2 0 = cmb c.2.2.1 + (if c.2.1 = 0 then 0 else 1)) ∧ Wk c.2.2.1 ∧ opn c.2.2.1 ≤ 6
theorem sw_H {M : Nat} {r : Int32} {i : Nat} {W : List Int32} {O : List zOp} (h1 : 1 ≤ r) (hW : Wk W) (h6 : opn W ≤ 6) (hv : vds M O 0) (hh : hts O 0 = cmb W + 1) : HI M (sw r i W O) := by
  have h := setl_H h1 W O hW hv hh
  exact ⟨⟨h.2.1, h.2.2⟩, h.1.1, by have := h.1.2; show opn (setl r W O).1 ≤ 6; omega⟩
theorem h14 {W : List Int32} (h : Wk W) (h6 : opn W ≤ 6) : cmb W ≤ 14 := by
  have := Wk_b h
  omega
/-- the set that a word spells is one of the names' -/
theorem wsF_in {t : Nat → Int32} {k : Nat} (hk : k ≤ 10) : ∀ {f p a : Nat} {v : Int32}, (∀ j, p ≤ j → j < p + f → isLt (t j)) → a < 2 ^ k → wsF t (nI k) f p (nI a) = some v → ∃ b, v = nI b ∧ b < 2 ^ k
  | 0, p, a, v, _, ha, h => ⟨a, (Option.some.inj h).symm, ha⟩
  | f + 1, p, a, v, hl, ha, h => by
    have h : (if nI k ≤ t p - 97 ∨ ((nI a >>> ((t p - 97) &&& 31)) &&& 1) = 1 then none else wsF t (nI k) f (p + 1) (nI a ||| ((1 : Int32) <<< ((t p - 97) &&& 31)))) = some v := h
    split at h
    · cases h
    · rename_i q
      have l := hl p (Nat.le_refl _) (by omega)
      unfold isLt at l
      have s : (t p - 97).toInt = (t p).toInt - 97 := by rw [ti_sub]; simp only [Int32.reduceToInt]; omega
      have lt : (t p - 97).toInt < (k : Int) := by
        have : ¬ nI k ≤ t p - 97 := fun z => q (Or.inl z)
        rw [Int32.le_iff_toInt_le, nI_toInt (by omega)] at this
        omega
      obtain ⟨j, hj, e⟩ := znI (x := t p - 97) (m := k) (by omega) lt
      have p2 := p2le hk
      rw [e, one10 j (by omega), nI_or] at h
      refine wsF_in hk (fun i a b => hl i (by omega) (by omega)) (Nat.or_lt_two_pow ha (Nat.pow_lt_pow_right (by decide) hj)) h
theorem mv_in {t : Nat → Int32} {n i k : Nat} (hk : k ≤ 10) (h : mOK t n i (nI k)) : ∃ b, mv t n i (nI k) = nI b ∧ b < 2 ^ k := by
  unfold mv
  by_cases q : tkK t n i = 1
  · rw [if_pos q]
    rcases h with h | h
    · exact absurd (q.symm.trans h.1) (by decide)
    · obtain ⟨v, hv⟩ := Option.isSome_iff_exists.mp h.2
      rw [hv]
      refine wsF_in hk (fun j a b => tk_let q a ?_) (Nat.pow_pos (by decide)) hv
      have : tkF t n i ≤ tkE t n i := by
        by_cases z : tkF t n i ≤ tkE t n i
        · exact z
        · omega
      omega
  · rw [if_neg q]; exact ⟨0, rfl, Nat.pow_pos (by decide)⟩
theorem nv_in {t : Nat → Int32} {n i : Nat} {a b : Int32} (h : nOK t n i a b) (h0 : 0 ≤ a.toInt) (h9 : b.toInt ≤ 1000) : a.toInt ≤ (nvI t n i).toInt ∧ (nvI t n i).toInt ≤ b.toInt := by
  have := h.2
  unfold nvI nv5
  rw [nI_toInt (by omega)]
  omega
/-- each step of the machine leaves a reading that fits -/
theorem stv_H {t : Nat → Int32} {n k : Nat} {c d : Cv} (hk : k ≤ 10) (h : HI (2 ^ k) c) (hs : stv t n (nI k) c = some (some d)) : HI (2 ^ k) d := by
  classical
  obtain ⟨i, b, W, O⟩ := c
  obtain ⟨⟨hv0, hh0⟩, hW0, h60⟩ := h
  have hv : vds (2 ^ k) O 0 := hv0
  have hh : hts O 0 = cmb W + (if b = 0 then 0 else 1) := hh0
  have hW : Wk W := hW0
  have h6 : opn W ≤ 6 := h60
  clear hv0 hh0 hW0 h60
  have c14 := h14 hW h6
  have r3 : (1 : Int32) ≤ 3 := by decide
  by_cases b0 : b = 0
  · subst b0
    have hh : hts O 0 = cmb W := hh
    have hs : (if isPx t n i ∨ tkK t n i = 40 then _ else _) = some (some d) := (if_pos rfl).symm.trans hs
    dsimp only at hs
    split at hs
    · rename_i px
      split at hs
      · rename_i l6
        have e := Option.some.inj (Option.some.inj hs)
        have pb : 50 ≤ (pw t n i).toInt ∧ (pw t n i).toInt ≤ 100 := by
          unfold pw
          by_cases z : tkK t n i = 40
          · rw [if_pos z]; decide
          · rw [if_neg z]
            obtain ⟨j, hj, hw⟩ := px.resolve_right z
            rw [pxv_k hj hw]
            exact (by decide : ∀ j, j < 6 → 50 ≤ (50 + nI j).toInt ∧ (50 + nI j).toInt ≤ 100) j hj
        have cc := cmb_o (W := W) pb.1
        rw [← e]
        refine ⟨⟨hv, ?_⟩, ⟨hW, Or.inl pb⟩, ?_⟩
        · show hts O 0 = cmb (pw t n i :: W) + 0
          rw [cc.1]; exact hh
        · show opn (pw t n i :: W) ≤ 6
          rw [cc.2]; omega
      · cases hs
    · split at hs
      · split at hs
        · rename_i ok
          have nb := nv_in ok (by decide) (by decide)
          simp only [Int32.reduceToInt] at nb
          rw [← Option.some.inj (Option.some.inj hs)]
          exact sw_H r3 hW h6 (vds_1 hv (Or.inl ⟨rfl, by show 0 ≤ (nvI t n i).toInt ∧ (nvI t n i).toInt < 10; omega, by omega⟩)) (by rw [hts_1, nh_p.1, hh])
        · cases hs
      · split at hs
        · split at hs
          · rw [← Option.some.inj (Option.some.inj hs)]
            exact sw_H r3 hW h6 (vds_1 hv (Or.inr (Or.inl ⟨rfl, by omega⟩))) (by rw [hts_1, nh_p.2.1, hh])
          · rw [← Option.some.inj (Option.some.inj hs)]
            exact ⟨⟨vds_1 hv (Or.inr (Or.inl ⟨rfl, by omega⟩)), by show hts (O ++ [(1, 0)]) 0 = cmb W + 1; rw [hts_1, nh_p.2.1, hh]⟩, hW, h6⟩
        · split at hs
          · rw [← Option.some.inj (Option.some.inj hs)]
            exact sw_H r3 hW h6 (vds_1 hv (Or.inr (Or.inr (Or.inl ⟨rfl, by omega⟩)))) (by rw [hts_1, nh_p.2.2.1, hh])
          · cases hs
  · have hh : hts O 0 = cmb W + 1 := hh.trans (by rw [if_neg b0])
    by_cases b1 : b = 1
    · subst b1
      have hs : (if isCb (tkK t n i) then _ else _) = some (some d) := ((if_neg (show ¬ (1 : Nat) = 0 by decide)).trans (if_pos rfl)).symm.trans hs
      dsimp only at hs
      split at hs
      · rename_i cb
        have sb := sgv_cb cb
        have rb := rk_s sb
        have r1 : (1 : Int32) ≤ rkI (sgv (tkK t n i)) := by rw [Int32.le_iff_toInt_le]; simp only [Int32.reduceToInt]; omega
        have H := setl_H r1 W O hW hv hh
        have cc := cmb_s (W := (setl (rkI (sgv (tkK t n i))) W O).1) (w := sgv (tkK t n i)) (by omega)
        rw [← Option.some.inj (Option.some.inj hs)]
        refine ⟨⟨H.2.1, ?_⟩, ⟨H.1.1, Or.inr ⟨sb, ?_⟩⟩, ?_⟩
        · show hts _ 0 = cmb (sgv (tkK t n i) :: _) + 0
          rw [H.2.2, cc.1]
        · rcases setl_top (r := rkI (sgv (tkK t n i))) W O with z | ⟨w, V, z, lt⟩
          · rw [z]
            show (0 : Int) < _
            omega
          · rw [z]
            show (if w < 50 then (rkI w).toInt else 0) < _
            rw [Int32.lt_iff_toInt_lt] at lt
            split
            · exact lt
            · omega
        · show opn (sgv (tkK t n i) :: _) ≤ 6
          rw [cc.2]
          have := H.1.2
          omega
      · split at hs
        · rename_i px
          have H := setl_H (r := 1) (by decide) W O hW hv hh
          have m := (setl_100 (r := 1) (by decide) W O).mpr px.2
          rcases setl_top (r := 1) W O with z | ⟨w, V, z, lt⟩
          · rw [z] at m; exact absurd m List.not_mem_nil
          · have e := rk_0 lt
            subst e
            have cc := cmb_o (W := V) (w := 100) (by decide)
            rw [z] at hs H
            rw [cc.1, cc.2] at H
            rw [← Option.some.inj (Option.some.inj hs)]
            exact sw_H r3 H.1.1.1 (by show opn V ≤ 6; have := H.1.2; omega) H.2.1 H.2.2
        · cases hs
    · by_cases b2 : b = 2
      · subst b2
        have hs : (if mOK t n i (nI k) then _ else _) = some (some d) := ((if_neg (show ¬ (2 : Nat) = 0 by decide)).trans ((if_neg (show ¬ (2 : Nat) = 1 by decide)).trans (if_pos rfl))).symm.trans hs
        dsimp only at hs
        split at hs
        · rename_i ok
          obtain ⟨s, es, ls⟩ := mv_in hk ok
          have p2 := p2le hk
          rw [← Option.some.inj (Option.some.inj hs)]
          refine ⟨⟨vds_1 hv (Or.inr (Or.inr (Or.inr (Or.inl ⟨rfl, ?_, by omega⟩)))), by show hts (O ++ [(3, _)]) 0 = cmb W + 1; rw [hts_1, nh_p.2.2.2.1]; exact hh⟩, hW, h6⟩
          show 0 ≤ (mv t n i (nI k)).toInt ∧ (mv t n i (nI k)).toInt.toNat < 2 ^ k
          rw [es, nI_toInt (by omega)]
          omega
        · cases hs
      · have hs : (if tkK t n i = 44 then _ else _) = some (some d) := ((if_neg b0).trans ((if_neg b1).trans (if_neg b2))).symm.trans hs
        dsimp only at hs
        split at hs
        · rw [← Option.some.inj (Option.some.inj hs)]
          exact ⟨⟨hv, hh⟩, hW, h6⟩
        · split at hs
          · rw [← Option.some.inj (Option.some.inj hs)]
            exact sw_H r3 hW h6 hv hh
          · cases hs
theorem itG_H {t : Nat → Int32} {n k : Nat} (hk : k ≤ 10) : ∀ {j : Nat} {c d : Cv}, HI (2 ^ k) c → itG (stv t n (nI k)) j c = some d → HI (2 ^ k) d
  | 0, c, d, h, e => by rw [← Option.some.inj e]; exact h
  | j + 1, c, d, h, e => by
    have e : (stv t n (nI k) c).bind (fun o => o.bind (fun c1 => itG (stv t n (nI k)) j c1)) = some d := e
    obtain ⟨o, ho, e⟩ := Option.bind_eq_some_iff.mp e
    obtain ⟨c1, hc, e⟩ := Option.bind_eq_some_iff.mp e
    rw [hc] at ho
    exact itG_H hk (stv_H hk h ho) e
theorem Rc_H {t : Nat → Int32} {n k : Nat} {c d : Cv} (hk : k ≤ 10) (h : HI (2 ^ k) c) (hr : Rc (stv t n (nI k)) c d) : HI (2 ^ k) d := by
  obtain ⟨j, hj⟩ := hr
  exact itG_H hk h hj
/-- the steps of a whole sum -/
theorem end_H {t : Nat → Int32} {n k : Nat} {d : Cv} (h : HI (2 ^ k) d) (hb : d.2.1 = 1) (h100 : ¬ 100 ∈ d.2.2.1) : (setl 1 d.2.2.1 d.2.2.2).1 = [] ∧ vds (2 ^ k) (setl 1 d.2.2.1 d.2.2.2).2 0 ∧ hts (setl 1 d.2.2.1 d.2.2.2).2 0 = 1 := by
  have hh : hts d.2.2.2 0 = cmb d.2.2.1 + 1 := h.1.2.trans (by rw [if_neg (by omega)])
  have H := setl_H (r := 1) (by decide) d.2.2.1 d.2.2.2 h.2.1 h.1.1 hh
  have z : (setl 1 d.2.2.1 d.2.2.2).1 = [] := by
    rcases setl_top (r := 1) d.2.2.1 d.2.2.2 with z | ⟨w, V, z, lt⟩
    · exact z
    · have e := rk_0 lt
      subst e
      refine absurd ((setl_100 (r := 1) (by decide) d.2.2.1 d.2.2.2).mp ?_) h100
      rw [z]; exact List.mem_cons_self
  refine ⟨z, H.2.1, ?_⟩
  rw [H.2.2, z]; rfl
end EV

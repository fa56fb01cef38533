/-! ===== sums as lists of steps: push register 0, empty 1, all 2, add a set 3, combine 4, reshape 5, store 6 ===== -/
section MV
theorem Rc.st {C : Type} {st : C → Option (Option C)} {c d e : C} (h : st c = some (some d)) (h2 : Rc st d e) : Rc st c e := by
  obtain ⟨k, hk⟩ := h2
  refine ⟨k + 1, ?_⟩
  show (st c).bind (fun o => o.bind (fun c1 => itG st k c1)) = some e
  rw [h]; exact hk
theorem itG_tr {C : Type} {st : C → Option (Option C)} : ∀ {k l : Nat} {c d e : C}, itG st k c = some d → itG st l d = some e → itG st (k + l) c = some e
  | 0, l, c, d, e, h, h2 => by
    have : c = d := Option.some.inj h
    rw [this, Nat.zero_add]; exact h2
  | k + 1, l, c, d, e, h, h2 => by
    have h : (st c).bind (fun o => o.bind (fun c1 => itG st k c1)) = some d := h
    obtain ⟨o, ho, h⟩ := Option.bind_eq_some_iff.mp h
    obtain ⟨c1, hc, h⟩ := Option.bind_eq_some_iff.mp h
    rw [show k + 1 + l = (k + l) + 1 by omega]
    show (st c).bind (fun o => o.bind (fun c1 => itG st (k + l) c1)) = some e
    rw [ho, hc]
    exact itG_tr h h2
theorem Rc.tr {C : Type} {st : C → Option (Option C)} {c d e : C} (h : Rc st c d) (h2 : Rc st d e) : Rc st c e := by
  obtain ⟨k, hk⟩ := h
  obtain ⟨l, hl⟩ := h2
  exact ⟨k + l, itG_tr hk hl⟩
abbrev zOp : Type := Int32 × Int32
def opW (w : Int32) : zOp := if w < 50 then (4, w) else (5, w - 50)
/-- what waits is settled, down to rank r -/
def setl (r : Int32) : List Int32 → List zOp → List Int32 × List zOp
  | [], O => ([], O)
  | w :: W, O => if rkI w < r then (w :: W, O) else setl r W (O ++ [opW w])
theorem setl_s {r w : Int32} {W : List Int32} {O : List zOp} (h : rkI w < r) : setl r (w :: W) O = (w :: W, O) := if_pos h
theorem setl_p {r w : Int32} {W : List Int32} {O : List zOp} (h : ¬ rkI w < r) : setl r (w :: W) O = setl r W (O ++ [opW w]) := if_neg h
theorem setl_setl {r r' : Int32} (h : r ≤ r') : ∀ (W : List Int32) (O : List zOp), setl r (setl r' W O).1 (setl r' W O).2 = setl r W O
  | [], O => rfl
  | w :: W, O => by
    by_cases q : rkI w < r'
    · rw [setl_s q]
    · rw [setl_p q, setl_setl h W, setl_p (fun z => q (by rw [Int32.lt_iff_toInt_lt] at z ⊢; rw [Int32.le_iff_toInt_le] at h; omega))]
/-- nothing of it can be settled: none waits, or a bracket stands on top -/
def Lw (W : List Int32) : Prop := W = [] ∨ ∃ V, W = 100 :: V
theorem Lw_s {W : List Int32} {O : List zOp} {r : Int32} (h : Lw W) (h1 : 1 ≤ r) : setl r W O = (W, O) := by
  rcases h with rfl | ⟨V, rfl⟩
  · rfl
  · have e : rkI 100 = 0 := by decide
    refine setl_s ?_
    rw [e, Int32.lt_iff_toInt_lt]
    rw [Int32.le_iff_toInt_le] at h1
    simp only [Int32.reduceToInt] at h1 ⊢
    omega
/-- the sign of a token -/
def sgv (k : Int32) : Int32 := if k = 43 then 0 else if k = 45 then 1 else if k = 38 then 2 else if k = 42 then 3 else if k = 47 then 4 else if k = 37 then 5 else if k = 35 then 6 else -1
theorem sgv_cb {k : Int32} (h : isCb k) : 0 ≤ (sgv k).toInt ∧ (sgv k).toInt ≤ 6 := by
  unfold isCb at h
  rcases h with rfl | rfl | rfl | rfl | rfl | rfl | rfl <;> decide
theorem v_combination {N : Nat} {x0 : Int32} {σ : zS} : Px (f_X5_combination N x0 σ) σ (fun v => v = sgv x0) := by
  rw [f_X5_combination.eq_1]
  refine pt_if (fun h => pt_some ⟨rfl, by rw [h]; rfl⟩) (fun a35 => pt_if (fun h => pt_some ⟨rfl, by rw [h]; rfl⟩) (fun _ => pt_if (fun h => pt_some ⟨rfl, by rw [h]; rfl⟩) (fun a37 => pt_if (fun h => pt_some ⟨rfl, by rw [h]; rfl⟩) (fun a38 => pt_if (fun h => pt_some ⟨rfl, by rw [h]; rfl⟩) (fun _ => pt_if (fun h => pt_some ⟨rfl, by rw [h]; rfl⟩) (fun _ => pt_if (fun h => pt_some ⟨rfl, by rw [h]; rfl⟩) (fun _ => pt_if (fun h => pt_some ⟨rfl, by rw [h]; rfl⟩) (fun a42 => pt_if (fun h => pt_some ⟨rfl, by rw [h]; rfl⟩) (fun a43 => pt_if (fun h => pt_some ⟨rfl, by rw [h]; rfl⟩) (fun _ => pt_if (fun h => pt_some ⟨rfl, by rw [h]; rfl⟩) (fun a45 => pt_if (fun h => pt_some ⟨rfl, by rw [h]; rfl⟩) (fun _ => pt_if (fun h => pt_some ⟨rfl, by rw [h]; rfl⟩) (fun a47 => pt_some ⟨rfl, ?_⟩)))))))))))))
  unfold sgv
  rw [if_neg a43, if_neg a45, if_neg a38, if_neg a42, if_neg a47, if_neg a37, if_neg a35]
theorem vr_signOf {N : Nat} {x0 : Int32} {σ : zS} : Px (f_X12_signOf N x0 σ) σ (fun v => v = sgv x0) := by
  rw [f_X12_signOf.eq_1]
  unfold sgv
  refine pt_if (fun h => pt_some ⟨rfl, by rw [if_pos h]⟩) (fun h1 => ?_)
  rw [if_neg h1]
  refine pt_if (fun h => pt_some ⟨rfl, by rw [if_pos h]⟩) (fun h1 => ?_)
  rw [if_neg h1]
  refine pt_if (fun h => pt_some ⟨rfl, by rw [if_pos h]⟩) (fun h1 => ?_)
  rw [if_neg h1]
  refine pt_if (fun h => pt_some ⟨rfl, by rw [if_pos h]⟩) (fun h1 => ?_)
  rw [if_neg h1]
  refine pt_if (fun h => pt_some ⟨rfl, by rw [if_pos h]⟩) (fun h1 => ?_)
  rw [if_neg h1]
  refine pt_if (fun h => pt_some ⟨rfl, by rw [if_pos h]⟩) (fun h1 => ?_)
  rw [if_neg h1]
  refine pt_if (fun h => pt_some ⟨rfl, by rw [if_pos h]⟩) (fun h1 => ?_)
  rw [if_neg h1]
  exact pt_some ⟨rfl, rfl⟩
theorem sgv_ck {k : Int32} : sgv (ck k) = sgv k := by
  unfold sgv
  simp only [ck_s (x := 43) (by decide), ck_s (x := 45) (by decide), ck_s (x := 38) (by decide), ck_s (x := 42) (by decide), ck_s (x := 47) (by decide), ck_s (x := 37) (by decide), ck_s (x := 35) (by decide)]
theorem sgv_no {k : Int32} : ¬ isCb k ↔ sgv k = -1 := by
  constructor
  · intro h
    unfold isCb at h
    simp only [not_or] at h
    obtain ⟨h1, h2, h3, h4, h5, h6, h7⟩ := h
    unfold sgv
    rw [if_neg h1, if_neg h2, if_neg h3, if_neg h4, if_neg h5, if_neg h6, if_neg h7]
  · intro h q
    have := sgv_cb q
    rw [h] at this
    simp only [Int32.reduceToInt] at this
    omega
/-- how a word turns a family -/
noncomputable def pxv (t : Nat → Int32) (n i : Nat) : Int32 := wv t n i - 10
theorem pxv_k {t : Nat → Int32} {n i k : Nat} (hk : k < 6) (h : isW t n i (16 + k)) : pxv t n i = nI k := by
  unfold pxv
  have e : wv t n i = cod.getD (k + 5) 0 := (wv_iff (w := k + 5) (by omega)).mpr (by rw [show k + 5 + 11 = 16 + k by omega]; exact h)
  rw [e]
  exact (by decide : ∀ k, k < 6 → cod.getD (k + 5) 0 - 10 = nI k) k hk
/-- what is put to wait -/
noncomputable def pw (t : Nat → Int32) (n i : Nat) : Int32 := if tkK t n i = 40 then 100 else 50 + pxv t n i
noncomputable def mv (t : Nat → Int32) (n i : Nat) (m : Int32) : Int32 := if tkK t n i = 1 then (wS t n i m).getD 0 else 0
/-- place, mode (0 a part is due, 1 whole, 2 a set is due, 3 behind a set), what waits, steps -/
abbrev Cv : Type := Nat × Nat × List Int32 × List zOp
def opn (W : List Int32) : Nat := (W.filter (fun w => decide (50 ≤ w))).length
noncomputable def sw (r : Int32) (i : Nat) (W : List Int32) (O : List zOp) : Cv := (i, 1, (setl r W O).1, (setl r W O).2)
noncomputable def stv (t : Nat → Int32) (n : Nat) (m : Int32) (c : Cv) : Option (Option Cv) := by
  classical exact (if c.2.1 = 0 then
    (if isPx t n c.1 ∨ tkK t n c.1 = 40 then (if opn c.2.2.1 < 6 then some (some (tkE t n c.1, 0, pw t n c.1 :: c.2.2.1, c.2.2.2)) else none)
    else if tkK t n c.1 = 2 then (if nOK t n c.1 0 9 then some (some (sw 3 (tkE t n c.1) c.2.2.1 (c.2.2.2 ++ [(0, nvI t n c.1)]))) else none)
    else if tkK t n c.1 = 123 then (if tkK t n (tkE t n c.1) = 125 then some (some (sw 3 (tkE t n (tkE t n c.1)) c.2.2.1 (c.2.2.2 ++ [(1, 0)]))) else some (some (tkE t n c.1, 2, c.2.2.1, c.2.2.2 ++ [(1, 0)])))
    else if isW t n c.1 15 then some (some (sw 3 (tkE t n c.1) c.2.2.1 (c.2.2.2 ++ [(2, 0)]))) else none)
  else if c.2.1 = 1 then
    (if isCb (tkK t n c.1) then some (some (tkE t n c.1, 0, sgv (tkK t n c.1) :: (setl (rkI (sgv (tkK t n c.1))) c.2.2.1 c.2.2.2).1, (setl (rkI (sgv (tkK t n c.1))) c.2.2.1 c.2.2.2).2))
    else if tkK t n c.1 = 41 ∧ 100 ∈ c.2.2.1 then some (some (sw 3 (tkE t n c.1) (setl 1 c.2.2.1 c.2.2.2).1.tail (setl 1 c.2.2.1 c.2.2.2).2)) else some none)
  else if c.2.1 = 2 then (if mOK t n c.1 m then some (some (tkE t n c.1, 3, c.2.2.1, c.2.2.2 ++ [(3, mv t n c.1 m)])) else none)
  else (if tkK t n c.1 = 44 then some (some (tkE t n c.1, 2, c.2.2.1, c.2.2.2)) else if tkK t n c.1 = 125 then some (some (sw 3 (tkE t n c.1) c.2.2.1 c.2.2.2)) else none))
section STV
variable {t : Nat → Int32} {n i : Nat} {m : Int32} {W : List Int32} {O : List zOp}
theorem stv_o (h : isPx t n i ∨ tkK t n i = 40) (h6 : opn W < 6) : stv t n m (i, 0, W, O) = some (some (tkE t n i, 0, pw t n i :: W, O)) := (if_pos rfl).trans ((if_pos h).trans (if_pos h6))
theorem stv_n (h0 : ¬ (isPx t n i ∨ tkK t n i = 40)) (h : nOK t n i 0 9) : stv t n m (i, 0, W, O) = some (some (sw 3 (tkE t n i) W (O ++ [(0, nvI t n i)]))) := (if_pos rfl).trans ((if_neg h0).trans ((if_pos h.1).trans (if_pos h)))
theorem stv_f0 (h0 : ¬ (isPx t n i ∨ tkK t n i = 40)) (h : tkK t n i = 123) (h2 : tkK t n (tkE t n i) = 125) : stv t n m (i, 0, W, O) = some (some (sw 3 (tkE t n (tkE t n i)) W (O ++ [(1, 0)]))) := (if_pos rfl).trans ((if_neg h0).trans ((if_neg (by rw [h]; decide)).trans ((if_pos h).trans (if_pos h2))))
theorem stv_f1 (h0 : ¬ (isPx t n i ∨ tkK t n i = 40)) (h : tkK t n i = 123) (h2 : ¬ tkK t n (tkE t n i) = 125) : stv t n m (i, 0, W, O) = some (some (tkE t n i, 2, W, O ++ [(1, 0)])) := (if_pos rfl).trans ((if_neg h0).trans ((if_neg (by rw [h]; decide)).trans ((if_pos h).trans (if_neg h2))))
theorem stv_a (h0 : ¬ (isPx t n i ∨ tkK t n i = 40)) (h : isW t n i 15) : stv t n m (i, 0, W, O) = some (some (sw 3 (tkE t n i) W (O ++ [(2, 0)]))) := (if_pos rfl).trans ((if_neg h0).trans ((if_neg (by rw [h.1]; decide)).trans ((if_neg (by rw [h.1]; decide)).trans (if_pos h))))
theorem stv_c (h : isCb (tkK t n i)) : stv t n m (i, 1, W, O) = some (some (tkE t n i, 0, sgv (tkK t n i) :: (setl (rkI (sgv (tkK t n i))) W O).1, (setl (rkI (sgv (tkK t n i))) W O).2)) := (if_neg (show ¬ (1 : Nat) = 0 by decide)).trans ((if_pos rfl).trans (if_pos h))
theorem stv_p (h0 : ¬ isCb (tkK t n i)) (h : tkK t n i = 41 ∧ 100 ∈ W) : stv t n m (i, 1, W, O) = some (some (sw 3 (tkE t n i) (setl 1 W O).1.tail (setl 1 W O).2)) := (if_neg (show ¬ (1 : Nat) = 0 by decide)).trans ((if_pos rfl).trans ((if_neg h0).trans (if_pos h)))
theorem stv_e (h0 : ¬ isCb (tkK t n i)) (h : ¬ (tkK t n i = 41 ∧ 100 ∈ W)) : stv t n m (i, 1, W, O) = some none := (if_neg (show ¬ (1 : Nat) = 0 by decide)).trans ((if_pos rfl).trans ((if_neg h0).trans (if_neg h)))
theorem stv_m (h : mOK t n i m) : stv t n m (i, 2, W, O) = some (some (tkE t n i, 3, W, O ++ [(3, mv t n i m)])) := (if_neg (show ¬ (2 : Nat) = 0 by decide)).trans ((if_neg (show ¬ (2 : Nat) = 1 by decide)).trans ((if_pos rfl).trans (if_pos h)))
theorem stv_k (h : tkK t n i = 44) : stv t n m (i, 3, W, O) = some (some (tkE t n i, 2, W, O)) := (if_neg (show ¬ (3 : Nat) = 0 by decide)).trans ((if_neg (show ¬ (3 : Nat) = 1 by decide)).trans ((if_neg (show ¬ (3 : Nat) = 2 by decide)).trans (if_pos h)))
theorem stv_z (h : tkK t n i = 125) : stv t n m (i, 3, W, O) = some (some (sw 3 (tkE t n i) W O)) := (if_neg (show ¬ (3 : Nat) = 0 by decide)).trans ((if_neg (show ¬ (3 : Nat) = 1 by decide)).trans ((if_neg (show ¬ (3 : Nat) = 2 by decide)).trans ((if_neg (by rw [h]; decide)).trans (if_pos h))))
theorem stv_e1 {d : Cv} (h : stv t n m d = some none) : d.2.1 = 1 ∧ ¬ isCb (tkK t n d.1) := by
  obtain ⟨i, b, W, O⟩ := d
  unfold stv at h
  by_cases b0 : b = 0
  · rw [if_pos b0] at h
    exfalso
    split at h
    · split at h <;> cases h
    · split at h
      · split at h <;> cases h
      · split at h
        · split at h <;> cases h
        · split at h <;> cases h
  · rw [if_neg b0] at h
    by_cases b1 : b = 1
    · rw [if_pos b1] at h
      refine ⟨b1, fun q => ?_⟩
      rw [if_pos q] at h; cases h
    · rw [if_neg b1] at h
      exfalso
      split at h
      · split at h <;> cases h
      · split at h
        · cases h
        · split at h <;> cases h
end STV
end MV

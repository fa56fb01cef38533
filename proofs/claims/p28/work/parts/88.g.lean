section Zq13_0
/-! ===== what holds if a function answers ===== -/
def Pt {α : Type} (x : Option α) (P : α → Prop) : Prop := ∀ a, x = some a → P a
section PTS
variable {α β S : Type} {P : β → Prop} {σ : zS}
theorem pt_ok {x : Option β} (h : Ok x P) : Pt x P := fun a e => by
  obtain ⟨b, h1, h2⟩ := h
  rw [h1] at e
  rw [← Option.some.inj e]; exact h2
theorem ok_pt {x : Option β} {Q : β → Prop} (h : Ok x Q) (q : Pt x P) : Ok x (fun a => Q a ∧ P a) := by
  obtain ⟨a, h1, h2⟩ := h
  exact ⟨a, h1, h2, q a h1⟩
theorem pt_and {x : Option β} {Q : β → Prop} (h : Pt x Q) (q : Pt x P) : Pt x (fun a => Q a ∧ P a) := fun a e => ⟨h a e, q a e⟩
theorem pt_w {x : Option β} {Q : β → Prop} (h : Pt x Q) (f : ∀ a, Q a → P a) : Pt x P := fun a e => f a (h a e)
theorem pt_some {a : β} (h : P a) : Pt (some a) P := fun b e => by rw [← Option.some.inj e]; exact h
theorem pt_rZ {P : Int32 × zS → Prop} {v : Int32} (h : P (v, σ)) : Pt (rZ v σ) P := fun a e => by
  obtain ⟨_, rfl⟩ := zguard e
  exact h
theorem pt_if {c : Prop} [Decidable c] {a b : Option β} (h1 : c → Pt a P) (h2 : ¬ c → Pt b P) : Pt (if c then a else b) P := by
  by_cases h : c
  · rw [if_pos h]; exact h1 h
  · rw [if_neg h]; exact h2 h
theorem pt_zb {x : Option (α × zS)} {f : α → zS → Option β} {Q : α × zS → Prop} (hx : Pt x Q) (h : ∀ v τ, Q (v, τ) → Pt (f v τ) P) : Pt (zb x f) P := fun a e => by
  obtain ⟨v, τ, h1, h2⟩ := zb_some e
  exact h v τ (hx _ h1) a h2
/-- a call that leaves the state as it is -/
theorem pt_zbX {x : Option (α × zS)} {f : α → zS → Option β} {Q : α → Prop} (hx : Pt x (fun r => r.2 = σ ∧ Q r.1)) (h : ∀ v, Q v → Pt (f v σ) P) : Pt (zb x f) P := fun a e => by
  obtain ⟨v, τ, h1, h2⟩ := zb_some e
  obtain ⟨e1, q⟩ := hx _ h1
  have e1 : τ = σ := e1
  rw [e1] at h2
  exact h v q a h2
theorem pt_gC {ci k : Nat} {f : Unit → Option β} (h : Pt (f ()) P) : Pt (zl (gC ci k) f) P := fun a e => by
  obtain ⟨v, _, h2⟩ := zl_some e
  exact h a h2
theorem pt_gI {ci j k : Nat} {f : Int32 → Option β} (h : Pt (f (σ.1 k j)) P) : Pt (zl (gI ci j k σ) f) P := fun a e => by
  obtain ⟨v, h1, h2⟩ := zl_some e
  obtain ⟨_, rfl⟩ := zguard h1
  exact h a h2
theorem pt_gR {ci j k v : Nat} {f : Nat → Option β} (hv : σ.2.2 k j = v) (h : Pt (f v) P) : Pt (zl (gR ci j k σ) f) P := fun a e => by
  obtain ⟨w, h1, h2⟩ := zl_some e
  obtain ⟨_, rfl⟩ := zguard h1
  rw [hv] at h2
  exact h a h2
theorem pt_aI {ti k : Nat} {i : Int32} {f : Int32 → Option β} (h : Pt (f (σ.1 k i.toInt.toNat)) P) : Pt (zl (aI ti k i σ) f) P := fun a e => by
  obtain ⟨w, h1, h2⟩ := zl_some e
  obtain ⟨q, rfl⟩ := zguard h1
  exact h a h2
theorem pt_aIb {ti k : Nat} {i : Int32} {f : Int32 → Option β} (h : 0 ≤ i.toInt → i.toInt < ((zKd k).2 : Int) → Pt (f (σ.1 k i.toInt.toNat)) P) : Pt (zl (aI ti k i σ) f) P := fun a e => by
  obtain ⟨w, h1, h2⟩ := zl_some e
  obtain ⟨q, rfl⟩ := zguard h1
  exact h q.2.1 q.2.2 a h2
theorem pt_aJ {k : Nat} {i : Int32} {f : Int64 → Option β} (h : Pt (f (σ.2.1 k i.toInt.toNat)) P) : Pt (zl (aJ k i σ) f) P := fun a e => by
  obtain ⟨w, h1, h2⟩ := zl_some e
  obtain ⟨q, rfl⟩ := zguard h1
  exact h a h2
theorem pt_aJb {k : Nat} {i : Int32} {f : Int64 → Option β} (h : 0 ≤ i.toInt → i.toInt < ((zKd k).2 : Int) → Pt (f (σ.2.1 k i.toInt.toNat)) P) : Pt (zl (aJ k i σ) f) P := fun a e => by
  obtain ⟨w, h1, h2⟩ := zl_some e
  obtain ⟨q, rfl⟩ := zguard h1
  exact h q.2.1 q.2.2 a h2
theorem pt_aR {ti k : Nat} {i : Int32} {f : Nat → Option β} (h : Pt (f (σ.2.2 k i.toInt.toNat)) P) : Pt (zl (aR ti k i σ) f) P := fun a e => by
  obtain ⟨w, h1, h2⟩ := zl_some e
  obtain ⟨q, rfl⟩ := zguard h1
  exact h a h2
theorem pt_aRb {ti k : Nat} {i : Int32} {f : Nat → Option β} (h : 0 ≤ i.toInt → i.toInt < ((zKd k).2 : Int) → Pt (f (σ.2.2 k i.toInt.toNat)) P) : Pt (zl (aR ti k i σ) f) P := fun a e => by
  obtain ⟨w, h1, h2⟩ := zl_some e
  obtain ⟨q, rfl⟩ := zguard h1
  exact h q.2.1 q.2.2 a h2
theorem pt_pI {ci j k : Nat} {v : Int32} {f : zS → Option β} (h : Pt (f (zI σ k (upd (σ.1 k) j v))) P) : Pt (zl (pI ci j k v σ) f) P := fun a e => by
  obtain ⟨w, h1, h2⟩ := zl_some e
  obtain ⟨_, rfl⟩ := zguard h1
  exact h a h2
theorem pt_s14 {k : Nat} {i v : Int32} {f : zS → Option β} (h : Pt (f (zI σ k (upd (σ.1 k) i.toInt.toNat v))) P) : Pt (zl (sI 14 k i v σ) f) P := fun a e => by
  obtain ⟨w, h1, h2⟩ := zl_some e
  obtain ⟨q, rfl⟩ := zguard h1
  exact h a h2
theorem pt_s14b {k : Nat} {i v : Int32} {f : zS → Option β} (h : 0 ≤ i.toInt → i.toInt < ((zKd k).2 : Int) → Pt (f (zI σ k (upd (σ.1 k) i.toInt.toNat v))) P) : Pt (zl (sI 14 k i v σ) f) P := fun a e => by
  obtain ⟨w, h1, h2⟩ := zl_some e
  obtain ⟨q, rfl⟩ := zguard h1
  exact h q.2.1 q.2.2 a h2
theorem pt_s13 {k : Nat} {i v : Int32} {f : zS → Option β} (h : Pt (f (zI σ k (upd (σ.1 k) i.toInt.toNat (vp_nar .byte v)))) P) : Pt (zl (sI 13 k i v σ) f) P := fun a e => by
  obtain ⟨w, h1, h2⟩ := zl_some e
  obtain ⟨q, rfl⟩ := zguard h1
  exact h a h2
theorem pt_s13b {k : Nat} {i v : Int32} {f : zS → Option β} (h : 0 ≤ i.toInt → i.toInt < ((zKd k).2 : Int) → Pt (f (zI σ k (upd (σ.1 k) i.toInt.toNat (vp_nar .byte v)))) P) : Pt (zl (sI 13 k i v σ) f) P := fun a e => by
  obtain ⟨w, h1, h2⟩ := zl_some e
  obtain ⟨q, rfl⟩ := zguard h1
  exact h q.2.1 q.2.2 a h2
theorem pt_s16 {k : Nat} {i v : Int32} {f : zS → Option β} (h : Pt (f (zI σ k (upd (σ.1 k) i.toInt.toNat (vp_nar .boolean v)))) P) : Pt (zl (sI 16 k i v σ) f) P := fun a e => by
  obtain ⟨w, h1, h2⟩ := zl_some e
  obtain ⟨q, rfl⟩ := zguard h1
  exact h a h2
theorem pt_s16b {k : Nat} {i v : Int32} {f : zS → Option β} (h : 0 ≤ i.toInt → i.toInt < ((zKd k).2 : Int) → Pt (f (zI σ k (upd (σ.1 k) i.toInt.toNat (vp_nar .boolean v)))) P) : Pt (zl (sI 16 k i v σ) f) P := fun a e => by
  obtain ⟨w, h1, h2⟩ := zl_some e
  obtain ⟨q, rfl⟩ := zguard h1
  exact h q.2.1 q.2.2 a h2
theorem pt_sJ {k : Nat} {i : Int32} {v : Int64} {f : zS → Option β} (h : Pt (f (zJ σ k (vp_updL (σ.2.1 k) i.toInt.toNat v))) P) : Pt (zl (sJ k i v σ) f) P := fun a e => by
  obtain ⟨w, h1, h2⟩ := zl_some e
  obtain ⟨q, rfl⟩ := zguard h1
  exact h a h2
theorem pt_sJb {k : Nat} {i : Int32} {v : Int64} {f : zS → Option β} (h : 0 ≤ i.toInt → i.toInt < ((zKd k).2 : Int) → Pt (f (zJ σ k (vp_updL (σ.2.1 k) i.toInt.toNat v))) P) : Pt (zl (sJ k i v σ) f) P := fun a e => by
  obtain ⟨w, h1, h2⟩ := zl_some e
  obtain ⟨q, rfl⟩ := zguard h1
  exact h q.2.1 q.2.2 a h2
theorem pt_aL {ti k : Nat} {f : Int32 → Option β} (h : Pt (f (Int32.ofNat (zKd k).2)) P) : Pt (zl (aL ti k) f) P := fun a e => by
  obtain ⟨w, h1, h2⟩ := zl_some e
  obtain ⟨q, rfl⟩ := zguard h1
  exact h a h2
theorem pt_nz {y : Int32} {f : Unit → Option β} (h : Pt (f ()) P) : Pt (zl (nzI y) f) P := fun a e => by
  obtain ⟨w, _, h2⟩ := zl_some e
  exact h a h2
theorem pt_lp {F : (S → Option β) → S → Option β} (Inv : S → Prop) (step : ∀ (again : S → Option β) (t : S), Inv t → (∀ t', Inv t' → Pt (again t') P) → Pt (F again t) P) : ∀ (n : Nat) (t : S), Inv t → Pt (zlp F n t) P := by
  intro n
  induction n with
  | zero => intro t _ a h; cases h
  | succ n ih => intro t hi; exact step (zlp F n) t hi ih
theorem a1_ {x : Int32} (h : 0 ≤ x.toInt ∧ x.toInt ≤ 100000) : (x + 1).toInt = x.toInt + 1 := by
  rw [ti_add]
  obtain ⟨w, hw⟩ : ∃ w, w = x.toInt := ⟨_, rfl⟩
  rw [← hw] at h ⊢
  simp only [Int32.reduceToInt]
  omega
theorem a3_ {x : Int32} (h : 0 ≤ x.toInt ∧ x.toInt ≤ 100000) : (3 + x).toInt = 3 + x.toInt := by
  rw [ti_add]
  obtain ⟨w, hw⟩ : ∃ w, w = x.toInt := ⟨_, rfl⟩
  rw [← hw] at h ⊢
  simp only [Int32.reduceToInt]
  omega
theorem a13_ {x : Int32} (h : 0 ≤ x.toInt ∧ x.toInt ≤ 100000) : (13 + x).toInt = 13 + x.toInt := by
  rw [ti_add]
  obtain ⟨w, hw⟩ : ∃ w, w = x.toInt := ⟨_, rfl⟩
  rw [← hw] at h ⊢
  simp only [Int32.reduceToInt]
  omega
theorem a23_ {x : Int32} (h : 0 ≤ x.toInt ∧ x.toInt ≤ 100000) : (23 + x).toInt = 23 + x.toInt := by
  rw [ti_add]
  obtain ⟨w, hw⟩ : ∃ w, w = x.toInt := ⟨_, rfl⟩
  rw [← hw] at h ⊢
  simp only [Int32.reduceToInt]
  omega
theorem a33_ {x : Int32} (h : 0 ≤ x.toInt ∧ x.toInt ≤ 100000) : (33 + x).toInt = 33 + x.toInt := by
  rw [ti_add]
  obtain ⟨w, hw⟩ : ∃ w, w = x.toInt := ⟨_, rfl⟩
  rw [← hw] at h ⊢
  simp only [Int32.reduceToInt]
  omega
theorem zI_s {k : Nat} {r : Nat → Int32} : (zI σ k r).1 k = r := va_up_self _ _ _
theorem zI_n {k a : Nat} {r : Nat → Int32} (h : a ≠ k) : (zI σ k r).1 a = σ.1 a := va_up_ne _ _ h
theorem upd_s {g : Nat → Int32} {j : Nat} {v : Int32} : upd g j v j = v := if_pos rfl
theorem upd_n {g : Nat → Int32} {j i : Nat} {v : Int32} (h : i ≠ j) : upd g j v i = g i := if_neg h
theorem upd_i {g : Nat → Int32} {j i : Nat} {v : Int32} : upd g j v i = if i = j then v else g i := rfl
end PTS
/-! ===== machines: one end alone ===== -/
section MACH
variable {C : Type} {st : C → Option (Option C)} {c d e : C}
def itG (st : C → Option (Option C)) : Nat → C → Option C
  | 0, c => some c
  | k + 1, c => (st c).bind (fun o => o.bind (fun c1 => itG st k c1))
def Rc (st : C → Option (Option C)) (c d : C) : Prop := ∃ k, itG st k c = some d
theorem Rc.rf : Rc st c c := ⟨0, rfl⟩
theorem itG_sn : ∀ {k : Nat} {c d e : C}, itG st k c = some d → st d = some (some e) → itG st (k + 1) c = some e
  | 0, c, d, e, h, h2 => by
    have : c = d := Option.some.inj h
    rw [this]
    show (st d).bind _ = some e
    rw [h2]; rfl
  | k + 1, c, d, e, h, h2 => by
    have h : (st c).bind (fun o => o.bind (fun c1 => itG st k c1)) = some d := h
    obtain ⟨o, ho, h⟩ := Option.bind_eq_some_iff.mp h
    obtain ⟨c1, hc, h⟩ := Option.bind_eq_some_iff.mp h
    show (st c).bind (fun o => o.bind (fun c1 => itG st (k + 1) c1)) = some e
    rw [ho, hc]
    exact itG_sn h h2
theorem Rc.sn (h : Rc st c d) (h2 : st d = some (some e)) : Rc st c e := by
  obtain ⟨k, hk⟩ := h
  exact ⟨k + 1, itG_sn hk h2⟩
theorem itG_un : ∀ {k l : Nat} {c d e : C}, itG st k c = some d → itG st l c = some e → (∀ x, ¬ st d = some (some x)) → (∀ x, ¬ st e = some (some x)) → d = e
  | 0, 0, c, d, e, h, h2, _, _ => (Option.some.inj h).symm.trans (Option.some.inj h2)
  | 0, l + 1, c, d, e, h, h2, hd, _ => by
    have : c = d := Option.some.inj h
    subst this
    have h2 : (st c).bind (fun o => o.bind (fun c1 => itG st l c1)) = some e := h2
    obtain ⟨o, ho, h2⟩ := Option.bind_eq_some_iff.mp h2
    obtain ⟨c1, hc, h2⟩ := Option.bind_eq_some_iff.mp h2
    rw [hc] at ho
    exact absurd ho (hd c1)
  | k + 1, 0, c, d, e, h, h2, _, he => by
    have : c = e := Option.some.inj h2
    subst this
    have h : (st c).bind (fun o => o.bind (fun c1 => itG st k c1)) = some d := h
    obtain ⟨o, ho, h⟩ := Option.bind_eq_some_iff.mp h
    obtain ⟨c1, hc, h⟩ := Option.bind_eq_some_iff.mp h
    rw [hc] at ho
    exact absurd ho (he c1)
  | k + 1, l + 1, c, d, e, h, h2, hd, he => by
    have h : (st c).bind (fun o => o.bind (fun c1 => itG st k c1)) = some d := h
    have h2 : (st c).bind (fun o => o.bind (fun c1 => itG st l c1)) = some e := h2
    obtain ⟨o, ho, h⟩ := Option.bind_eq_some_iff.mp h
    obtain ⟨c1, hc, h⟩ := Option.bind_eq_some_iff.mp h
    rw [ho, hc] at h2
    exact itG_un h h2 hd he
theorem Rc.un (h : Rc st c d) (h2 : Rc st c e) (hd : ∀ x, ¬ st d = some (some x)) (he : ∀ x, ¬ st e = some (some x)) : d = e := by
  obtain ⟨k, hk⟩ := h
  obtain ⟨l, hl⟩ := h2
  exact itG_un hk hl hd he
end MACH
/-! ===== lines ===== -/
noncomputable def nvI (t : Nat → Int32) (n i : Nat) : Int32 := nI (nv5 t n i).toNat
theorem nv_eq {t : Nat → Int32} {n i : Nat} {v : Int32} (h : v.toInt = nv5 t n i) : v = nvI t n i := by
  apply Int32.toInt_inj.mp
  have h0 : 0 ≤ nv5 t n i ∧ nv5 t n i ≤ 99999 := by unfold nv5; omega
  unfold nvI
  rw [nI_toInt (by omega), h]
  omega
def nmRow (g : Nat → Int32) (v : Int32) : Nat → Int32 := fun j => if j = 0 then v else if 3 ≤ j ∧ j < 13 then 1 else if 33 ≤ j ∧ j < 43 then nI (j - 33) else g j
def edRow (g : Nat → Int32) (a b : Int32) : Nat → Int32 := upd (upd (upd g (13 + (g 2).toInt.toNat) a) (23 + (g 2).toInt.toNat) b) 2 (g 2 + 1)
abbrev LO : Type := Option (Nat × (Nat → Int32) × Nat)
noncomputable def nmR (t : Nat → Int32) (n i : Nat) (g : Nat → Int32) (sg : Nat) : LO := by
  classical exact (if isW t n i 11 ∧ nOK t n (tkE t n i) 1 10 then some (tkE t n (tkE t n i), nmRow g (nvI t n (tkE t n i)), sg) else none)
noncomputable def wtR (t : Nat → Int32) (n i : Nat) (g : Nat → Int32) (sg : Nat) : LO := by
  classical exact (if nmOK t n i (g 0) ∧ nOK t n (tkE t n i) 0 99 then some (tkE t n (tkE t n i), upd g (3 + ((t (tkF t n i)).toInt - 97).toNat) (nvI t n (tkE t n i)), sg) else none)
noncomputable def edR (t : Nat → Int32) (n i : Nat) (g : Nat → Int32) (sg : Nat) : LO := by
  classical exact (if edOK t n i then some (tkE t n (tkE t n i), edRow g (nvI t n i) (nvI t n (tkE t n i)), sg) else none)
noncomputable def lnR (t : Nat → Int32) (n i : Nat) (g : Nat → Int32) (sg : Nat) : LO := by
  classical exact (if isW t n i 12 then wtR t n (tkE t n i) g sg else if isW t n i 13 then (if g 2 = g 0 then none else edR t n (tkE t n i) g sg) else if isW t n i 14 then (letR t n (g 0) (tkE t n i) sg).map (fun p => (p.1, g, p.2)) else none)
noncomputable def bdR (t : Nat → Int32) (n i : Nat) (g : Nat → Int32) (sg : Nat) : LO := if g 1 = 0 then nmR t n i g sg else lnR t n i g sg
abbrev LC : Type := Nat × (Nat → Int32) × Nat
/-- one line of a world: none a fault, some none the end -/
noncomputable def stL (t : Nat → Int32) (n : Nat) (c : LC) : Option (Option LC) := if tkK t n c.1 = 0 then some none else (bdR t n c.1 c.2.1 c.2.2).bind (fun d => if tkK t n d.1 = 59 then some (some (tkE t n d.1, upd d.2.1 1 (d.2.1 1 + 1), d.2.2)) else none)
theorem stL_e {t : Nat → Int32} {n : Nat} {c : LC} (h : tkK t n c.1 = 0) : stL t n c = some none := if_pos h
theorem stL_n {t : Nat → Int32} {n : Nat} {c : LC} (h : ¬ tkK t n c.1 = 0) (h2 : bdR t n c.1 c.2.1 c.2.2 = none) : stL t n c = none := by
  unfold stL
  rw [if_neg h, h2]; rfl
theorem stL_s {t : Nat → Int32} {n : Nat} {c : LC} {d : LC} (h : ¬ tkK t n c.1 = 0) (h2 : bdR t n c.1 c.2.1 c.2.2 = some d) : stL t n c = if tkK t n d.1 = 59 then some (some (tkE t n d.1, upd d.2.1 1 (d.2.1 1 + 1), d.2.2)) else none := by
  unfold stL
  rw [if_neg h, h2]; rfl
section LNS
variable {t : Nat → Int32} {n i : Nat} {g : Nat → Int32} {sg : Nat}
theorem nmR_t (h : isW t n i 11 ∧ nOK t n (tkE t n i) 1 10) : nmR t n i g sg = some (tkE t n (tkE t n i), nmRow g (nvI t n (tkE t n i)), sg) := if_pos h
theorem nmR_f (h : ¬ (isW t n i 11 ∧ nOK t n (tkE t n i) 1 10)) : nmR t n i g sg = none := if_neg h
theorem wtR_t (h : nmOK t n i (g 0) ∧ nOK t n (tkE t n i) 0 99) : wtR t n i g sg = some (tkE t n (tkE t n i), upd g (3 + ((t (tkF t n i)).toInt - 97).toNat) (nvI t n (tkE t n i)), sg) := if_pos h
theorem wtR_f (h : ¬ (nmOK t n i (g 0) ∧ nOK t n (tkE t n i) 0 99)) : wtR t n i g sg = none := if_neg h
theorem edR_t (h : edOK t n i) : edR t n i g sg = some (tkE t n (tkE t n i), edRow g (nvI t n i) (nvI t n (tkE t n i)), sg) := if_pos h
theorem edR_f (h : ¬ edOK t n i) : edR t n i g sg = none := if_neg h
theorem lnR_w (h : isW t n i 12) : lnR t n i g sg = wtR t n (tkE t n i) g sg := if_pos h
theorem lnR_e (h0 : ¬ isW t n i 12) (h : isW t n i 13) (h2 : ¬ g 2 = g 0) : lnR t n i g sg = edR t n (tkE t n i) g sg := (if_neg h0).trans ((if_pos h).trans (if_neg h2))
theorem lnR_m (h0 : ¬ isW t n i 12) (h : isW t n i 13) (h2 : g 2 = g 0) : lnR t n i g sg = none := (if_neg h0).trans ((if_pos h).trans (if_pos h2))
theorem lnR_l (h0 : ¬ isW t n i 12) (h1 : ¬ isW t n i 13) (h : isW t n i 14) : lnR t n i g sg = (letR t n (g 0) (tkE t n i) sg).map (fun p => (p.1, g, p.2)) := (if_neg h0).trans ((if_neg h1).trans (if_pos h))
theorem lnR_z (h0 : ¬ isW t n i 12) (h1 : ¬ isW t n i 13) (h : ¬ isW t n i 14) : lnR t n i g sg = none := (if_neg h0).trans ((if_neg h1).trans (if_neg h))
end LNS
end Zq13_0
section Zq13_1
/-! ===== the reference's lines ===== -/
section RLINE
variable {N : Nat} {σ : zS} {t : Nat → Int32} {n i : Nat}
/-- what a line's reading leaves behind -/
def LB (t : Nat → Int32) (n : Nat) (o : LO) (s : Nat → Nat → Int32) : Prop := (s 218 14 = 0 → ∃ j, o = some (j, s 231, (s 218 25).toInt.toNat) ∧ RX s t n j ∧ j ≤ n ∧ 0 ≤ (s 218 25).toInt ∧ (s 218 25).toInt ≤ 24) ∧ (¬ s 218 14 = 0 → o = none)
/-- the token stands as it stood -/
theorem RX_c {s s' : Nat → Nat → Int32} {t : Nat → Int32} {n j : Nat} (e1 : s' 218 = s 218) (e2 : s' 224 = s 224) (h : RX s t n j) : RX s' t n j := by
  unfold RX TKS at h ⊢
  rw [e1, e2]; exact h
theorem nm_loop {σ2 : zS} {v : Int32} {g : Nat → Int32} {P : Unit × zS → Prop} (hR : RF σ2.2.2) (h0 : σ2.1 231 = upd g 0 v) (hP : ∀ τ : zS, τ.1 231 = nmRow g v → (∀ k, k ≠ 231 → τ.1 k = σ2.1 k) → P ((), τ)) : Pt (zlp (F_X12_readsNames_22 N 218) N (0, σ2)) P := by
  refine pt_lp (fun s : Int32 × zS => (0 ≤ s.1.toInt ∧ s.1.toInt ≤ 10) ∧ s.2.2.2 = σ2.2.2 ∧ (∀ k, k ≠ 231 → s.2.1 k = σ2.1 k) ∧ ∀ j, s.2.1 231 j = if j = 0 then v else if 3 ≤ j ∧ (j : Int) < 3 + s.1.toInt then 1 else if 33 ≤ j ∧ (j : Int) < 33 + s.1.toInt then nI (j - 33) else g j) (fun again s hI ih => ?_) N _ ⟨(by decide : 0 ≤ (0 : Int32).toInt ∧ (0 : Int32).toInt ≤ 10), rfl, fun _ _ => rfl, fun j => ?_⟩
  · obtain ⟨x1, τ⟩ := s
    obtain ⟨hb, hr, ho, hj⟩ := hI
    have hb : 0 ≤ x1.toInt ∧ x1.toInt ≤ 10 := hb
    have hr : τ.2.2 = σ2.2.2 := hr
    have ho : ∀ k, k ≠ 231 → τ.1 k = σ2.1 k := ho
    have hj : ∀ j, τ.1 231 j = if j = 0 then v else if 3 ≤ j ∧ (j : Int) < 3 + x1.toInt then 1 else if 33 ≤ j ∧ (j : Int) < 33 + x1.toInt then nI (j - 33) else g j := hj
    rw [F_X12_readsNames_22.eq_1]
    refine pt_if (fun q => pt_some (hP τ ?_ ho)) (fun q => ?_)
    · rw [Int32.le_iff_toInt_le] at q
      simp only [Int32.reduceToInt] at q
      funext j
      rw [hj j]
      unfold nmRow
      by_cases a : j = 0
      · rw [if_pos a, if_pos a]
      · rw [if_neg a, if_neg a]
        by_cases b : 3 ≤ j ∧ j < 13
        · rw [if_pos b, if_pos (by omega)]
        · rw [if_neg b, if_neg (by omega)]
          by_cases c : 33 ≤ j ∧ j < 43
          · rw [if_pos c, if_pos (by omega)]
          · rw [if_neg c, if_neg (by omega)]
    · rw [Int32.le_iff_toInt_le] at q
      simp only [Int32.reduceToInt] at q
      have hw : 0 ≤ x1.toInt ∧ x1.toInt ≤ 100000 := by omega
      have hx1 : 0 ≤ (x1 + 1).toInt ∧ (x1 + 1).toInt ≤ 10 := by rw [a1_ hw]; omega
      refine pt_gR (v := 231) (by rw [hr]; exact hR 218 26 rfl) (pt_s14 ?_)
      refine pt_gR (v := 231) (by show τ.2.2 218 26 = 231; rw [hr]; exact hR 218 26 rfl) (pt_s14 ?_)
      refine ih (x1 + 1, _) ⟨hx1, hr, fun k hk => ?_, fun j => ?_⟩
      · show (zI (zI τ 231 _) 231 _).1 k = _
        rw [zI_n hk, zI_n hk]; exact ho k hk
      · show (zI (zI τ 231 _) 231 _).1 231 j = if j = 0 then v else if 3 ≤ j ∧ (j : Int) < 3 + (x1 + 1).toInt then 1 else if 33 ≤ j ∧ (j : Int) < 33 + (x1 + 1).toInt then nI (j - 33) else g j
        rw [zI_s, zI_s, upd_i, upd_i, hj j, a3_ hw, a33_ hw, a1_ hw]
        clear hx1
        by_cases a : j = (33 + x1.toInt).toNat
        · rw [if_pos a, if_neg (by omega), if_neg (by omega), if_pos (by omega)]
          apply Int32.toInt_inj.mp
          rw [nI_toInt (by omega)]; omega
        · rw [if_neg a]
          by_cases b : j = (3 + x1.toInt).toNat
          · rw [if_pos b, if_neg (by omega), if_pos (by omega)]
          · rw [if_neg b]
            by_cases c : j = 0
            · rw [if_pos c, if_pos c]
            · rw [if_neg c, if_neg c]
              by_cases d : 3 ≤ j ∧ (j : Int) < 3 + x1.toInt
              · rw [if_pos d, if_pos (by omega)]
              · rw [if_neg d]
                by_cases f : 33 ≤ j ∧ (j : Int) < 33 + x1.toInt
                · rw [if_pos f, if_neg (by omega), if_pos (by omega)]
                · rw [if_neg f, if_neg (by omega), if_neg (by omega)]
  · show σ2.1 231 j = if j = 0 then v else if 3 ≤ j ∧ (j : Int) < 3 + (0 : Int32).toInt then 1 else if 33 ≤ j ∧ (j : Int) < 33 + (0 : Int32).toInt then nI (j - 33) else g j
    simp only [Int32.reduceToInt]
    rw [h0, upd_i]
    by_cases a : j = 0
    · rw [if_pos a, if_pos a]
    · rw [if_neg a, if_neg a, if_neg (by omega), if_neg (by omega)]
theorem vr_readsNames (hN : 1048576 ≤ N) (hR : RF σ.2.2) (hK : TOK σ.1) (hY : BYT (σ.1 224)) (hG : RX σ.1 t n i) (hg : σ.1 218 14 = 0) (hi : i ≤ n) (hs : 0 ≤ (σ.1 218 25).toInt ∧ (σ.1 218 25).toInt ≤ 24) : Pt (f_X12_readsNames N 218 σ) (fun r => LB t n (nmR t n i (σ.1 231) (σ.1 218 25).toInt.toNat) r.2.1) := by
  rw [f_X12_readsNames.eq_1]
  refine pt_gC (pt_zb (pt_ok (s_X12_needs_r hN hR hK hY hG hg (by decide))) (fun v1 σ1 h1 => ?_))
  obtain ⟨T1, ⟨K1, _, u1, f1⟩, _, _, _, _, _, _, e25⟩ := h1
  have T1 : Tr [218] σ σ1 := T1
  have K1 : TOK σ1.1 := K1
  have u1 : σ1.1 218 14 = 0 → isW t n i 11 ∧ RX σ1.1 t n (tkE t n i) := u1
  have f1 : ¬ σ1.1 218 14 = 0 → ¬ isW t n i 11 := f1
  have e25 : σ1.1 218 25 = σ.1 218 25 := e25
  refine pt_gR (v := 231) ((hR.tr T1) 218 26 rfl) ?_
  refine pt_gC (pt_zb (pt_ok (s_X12_number_c (tx := t) (n := n) (i := tkE t n i) hN (hR.tr T1) K1 (by rw [T1.2 224 (by decide)]; exact hY) (fun q => (u1 q).2))) (fun v4 σ2 h2 => ?_))
  obtain ⟨T2, ⟨K2, _, u2, f2⟩, _, _, _, _, _, _, d25⟩ := h2
  have T2 : Tr [218] σ1 σ2 := T2
  have u2 : σ2.1 218 14 = 0 → ((σ1.1 218 14 = 0 ∧ _) ∧ nOK t n (tkE t n i) 1 10) ∧ v4.toInt = nv5 t n (tkE t n i) ∧ RX σ2.1 t n (tkE t n (tkE t n i)) := u2
  have f2 : ¬ σ2.1 218 14 = 0 → v4 = 0 ∧ (σ1.1 218 14 = 0 → ¬ nOK t n (tkE t n i) 1 10) := f2
  have d25 : σ2.1 218 25 = σ1.1 218 25 := d25
  have r2 : σ2.1 231 = σ.1 231 := (T2.2 231 (by decide)).trans (T1.2 231 (by decide))
  refine pt_s14 ?_
  refine nm_loop (v := v4) (g := σ.1 231) (show RF σ2.2.2 from (hR.tr T1).tr T2) (by rw [zI_s, r2]; rfl) (fun τ hτ ho => ?_)
  have o218 : τ.1 218 = σ2.1 218 := (ho 218 (by decide)).trans (zI_n (by decide))
  have o224 : τ.1 224 = σ2.1 224 := (ho 224 (by decide)).trans (zI_n (by decide))
  have le := (tk_le (t := t) (tk_le (t := t) hi).2.2).2.2
  refine ⟨fun q => ?_, fun q => ?_⟩
  · have q : σ2.1 218 14 = 0 := by rw [← o218]; exact q
    have a := u2 q
    refine ⟨tkE t n (tkE t n i), ?_, RX_c o218 o224 a.2.2, le, ?_⟩
    · show _ = some (_, τ.1 231, (τ.1 218 25).toInt.toNat)
      rw [hτ, o218, d25, e25, nmR_t ⟨(u1 a.1.1.1).1, a.1.2⟩, nv_eq a.2.1]
    · show 0 ≤ (τ.1 218 25).toInt ∧ (τ.1 218 25).toInt ≤ 24
      rw [o218, d25, e25]; exact hs
  · have q : ¬ σ2.1 218 14 = 0 := by rw [← o218]; exact q
    refine nmR_f (fun z => ?_)
    by_cases w : σ1.1 218 14 = 0
    · exact (f2 q).2 w z.2
    · exact f1 w z.1
theorem g_bad {σ : zS} {P : Unit × zS → Prop} {f : Int32 → zS → Option (Unit × zS)} (h0 : ¬ σ.1 218 14 = 0 → Pt (f 0 σ) P) (h1 : σ.1 218 14 = 0 → ∀ v, ¬ v = 0 → Pt (f v σ) P) : Pt (zb (f_X12_good N 218 σ) f) P := by
  refine pt_zbX (Q := fun v => (v = 0 → ¬ σ.1 218 14 = 0) ∧ (¬ v = 0 → σ.1 218 14 = 0)) (pt_ok x_X12_good) (fun v hv => ?_)
  by_cases q : v = 0
  · subst q; exact h0 (hv.1 rfl)
  · exact h1 (hv.2 q) v q
/-- the second half of readsEdge -/
theorem vr_edge2 {a : Int32} {P : Unit × zS → Prop} (hN : 1048576 ≤ N) (hR : RF σ.2.2) (hK : TOK σ.1) (hY : BYT (σ.1 224)) (hG : σ.1 218 14 = 0 → RX σ.1 t n i) (h2 : 0 ≤ (σ.1 231 2).toInt ∧ (σ.1 231 2).toInt ≤ 10)
    (hf : ∀ τ : zS, ¬ τ.1 218 14 = 0 → (σ.1 218 14 = 0 → ¬ nOK t n i 0 7) → P ((), τ)) (ht : ∀ τ : zS, τ.1 218 14 = 0 → σ.1 218 14 = 0 ∧ nOK t n i 0 7 → RX τ.1 t n (tkE t n i) → τ.1 218 25 = σ.1 218 25 → τ.1 231 = edRow (σ.1 231) a (nvI t n i) → P ((), τ)) : Pt (J_X12_readsEdge_36 N 218 a σ) P := by
  rw [J_X12_readsEdge_36.eq_1]
  refine pt_gC (pt_zb (pt_ok (s_X12_number_c (tx := t) (n := n) (i := i) hN hR hK hY hG)) (fun v5 σ6 h => ?_))
  obtain ⟨T1, ⟨K1, _, u1, f1⟩, _, _, _, _, _, _, e25⟩ := h
  have T1 : Tr [218] σ σ6 := T1
  have u1 : σ6.1 218 14 = 0 → ((σ.1 218 14 = 0 ∧ _) ∧ nOK t n i 0 7) ∧ v5.toInt = nv5 t n i ∧ RX σ6.1 t n (tkE t n i) := u1
  have f1 : ¬ σ6.1 218 14 = 0 → v5 = 0 ∧ (σ.1 218 14 = 0 → ¬ nOK t n i 0 7) := f1
  have e25 : σ6.1 218 25 = σ.1 218 25 := e25
  have r6 : σ6.1 231 = σ.1 231 := T1.2 231 (by decide)
  have R6 : RF σ6.2.2 := hR.tr T1
  refine pt_gC (g_bad (fun q => ?_) (fun q v hv => ?_))
  · exact pt_if (fun _ => pt_some (hf σ6 q (f1 q).2)) (fun z => absurd rfl z)
  · refine pt_if (fun z => absurd z hv) (fun _ => ?_)
    have a1 := u1 q
    have hw : 0 ≤ (σ.1 231 2).toInt ∧ (σ.1 231 2).toInt ≤ 100000 := by omega
    refine pt_gR (v := 231) (R6 218 26 rfl) (pt_gR (v := 231) (R6 218 26 rfl) (pt_aI ?_))
    refine pt_s14 ?_
    refine pt_gR (v := 231) (R6 218 26 rfl) (pt_gR (v := 231) (R6 218 26 rfl) (pt_aI ?_))
    refine pt_s14 ?_
    refine pt_gR (v := 231) (R6 218 26 rfl) (pt_aI ?_)
    refine pt_s14 (pt_some (ht _ ?_ ⟨a1.1.1.1, a1.1.2⟩ ?_ ?_ ?_))
    · rw [zI_n (by decide), zI_n (by decide), zI_n (by decide)]; exact q
    · refine RX_c ?_ ?_ a1.2.2
      · rw [zI_n (by decide), zI_n (by decide), zI_n (by decide)]
      · rw [zI_n (by decide), zI_n (by decide), zI_n (by decide)]
    · rw [zI_n (by decide), zI_n (by decide), zI_n (by decide)]; exact e25
    · have z2 : (Int32.toInt 2).toNat = 2 := rfl
      rw [zI_s, zI_s, zI_s, r6, z2, a13_ hw]
      have n13 : (2 : Nat) ≠ (13 + (σ.1 231 2).toInt).toNat := by omega
      have m13 : (13 + (σ.1 231 2).toInt).toNat = 13 + (σ.1 231 2).toInt.toNat := by omega
      have n23 : (2 : Nat) ≠ (23 + (σ.1 231 2).toInt).toNat := by omega
      have m23 : (23 + (σ.1 231 2).toInt).toNat = 23 + (σ.1 231 2).toInt.toNat := by omega
      rw [upd_n n13, a23_ hw, upd_n n23, upd_n n13, nv_eq a1.2.1, m13, m23]
      rfl
theorem vr_readsEdge (hN : 1048576 ≤ N) (hR : RF σ.2.2) (hK : TOK σ.1) (hY : BYT (σ.1 224)) (hG : RX σ.1 t n i) (hg : σ.1 218 14 = 0) (hi : i ≤ n) (hs : 0 ≤ (σ.1 218 25).toInt ∧ (σ.1 218 25).toInt ≤ 24) (h2 : 0 ≤ (σ.1 231 2).toInt ∧ (σ.1 231 2).toInt ≤ 10) : Pt (f_X12_readsEdge N 218 σ) (fun r => LB t n (edR t n i (σ.1 231) (σ.1 218 25).toInt.toNat) r.2.1) := by
  have le := (tk_le (t := t) (tk_le (t := t) hi).2.2).2.2
  rw [f_X12_readsEdge.eq_1]
  refine pt_gC (pt_zb (pt_ok (s_X12_number_r (tx := t) (n := n) (i := i) hN hR hK hY hG hg)) (fun v1 σ2 h => ?_))
  obtain ⟨T1, ⟨K1, _, u1, f1⟩, _, _, _, _, _, _, e25⟩ := h
  have T1 : Tr [218] σ σ2 := T1
  have K1 : TOK σ2.1 := K1
  have u1 : σ2.1 218 14 = 0 → (_ ∧ nOK t n i 0 7) ∧ v1.toInt = nv5 t n i ∧ RX σ2.1 t n (tkE t n i) := u1
  have f1 : ¬ σ2.1 218 14 = 0 → v1 = 0 ∧ ¬ nOK t n i 0 7 := f1
  have e25 : σ2.1 218 25 = σ.1 218 25 := e25
  have r2 : σ2.1 231 = σ.1 231 := T1.2 231 (by decide)
  have Y2 : BYT (σ2.1 224) := by rw [T1.2 224 (by decide)]; exact hY
  have fin : ∀ σ3 : zS, (σ2.1 218 14 = 0 → (nOK t n (tkE t n i) 0 7 → edOK t n i)) → σ3 = σ2 → Pt (J_X12_readsEdge_36 N 218 v1 σ3) (fun r => LB t n (edR t n i (σ.1 231) (σ.1 218 25).toInt.toNat) r.2.1) := by
    intro σ3 hd e
    subst e
    refine vr_edge2 (t := t) (n := n) (i := tkE t n i) hN (hR.tr T1) K1 Y2 (fun q => (u1 q).2.2) (by rw [r2]; exact h2) (fun τ q z => ⟨fun y => absurd y q, fun _ => edR_f (fun w => ?_)⟩) (fun τ q z hx h25 hrow => ⟨fun _ => ⟨tkE t n (tkE t n i), ?_, hx, le, ?_⟩, fun y => absurd q y⟩)
    · by_cases y : σ3.1 218 14 = 0
      · exact z y w.2.2
      · exact (f1 y).2 w.1
    · show _ = some (_, τ.1 231, (τ.1 218 25).toInt.toNat)
      rw [edR_t (hd z.1 z.2), hrow, r2, h25, e25, nv_eq (u1 z.1).2.1]
    · show 0 ≤ (τ.1 218 25).toInt ∧ (τ.1 218 25).toInt ≤ 24
      rw [h25, e25]; exact hs
  refine pt_gC (g_bad (fun q => ?_) (fun q v hv => ?_))
  · exact pt_if (fun _ => fin σ2 (fun y => absurd y q) rfl) (fun z => absurd rfl z)
  · refine pt_if (fun z => absurd z hv) (fun _ => ?_)
    have a1 := u1 q
    have pk := a1.2.2.2
    refine pt_gI (pt_if (fun k2 => ?_) (fun k2 => ?_))
    · have v2 := pk.2.2 k2
      refine pt_gI (pt_if (fun e => ?_) (fun e => ?_))
      · refine pt_gC (pt_zb (pt_ok (s_X12_errs hN (hR.tr T1) K1 Y2 (by decide))) (fun _ σ3 h3 => ?_))
        obtain ⟨T3, ⟨K3, b3⟩, _⟩ := h3
        have T3 : Tr [218] σ2 σ3 := T3
        have b3 : ¬ σ3.1 218 14 = 0 := b3
        have ne : ¬ edOK t n i := fun w => w.2.1 ⟨pk.2.1.symm.trans k2, by rw [← a1.2.1, ← e]; exact v2.symm⟩
        refine vr_edge2 (t := t) (n := n) (i := tkE t n i) hN ((hR.tr T1).tr T3) K3 (by rw [T3.2 224 (by decide)]; exact Y2) (fun y => absurd y b3) (by rw [T3.2 231 (by decide), r2]; exact h2) (fun τ y z => ⟨fun w => absurd w y, fun _ => edR_f ne⟩) (fun τ y z => absurd z.1 b3)
      · exact fin σ2 (fun _ z => ⟨a1.1.2, fun w => e (Int32.toInt_inj.mp (v2.trans (w.2.trans a1.2.1.symm))), z⟩) rfl
    · exact fin σ2 (fun _ z => ⟨a1.1.2, fun w => k2 (pk.2.1.trans w.1), z⟩) rfl
end RLINE
end Zq13_1
section Zq13_2
section RLINE2
variable {N : Nat} {σ : zS} {t : Nat → Int32} {n i : Nat}
/-- a line that went wrong ahead of its reading -/
theorem vr_65b {o : LO} (hb : ¬ σ.1 218 14 = 0) (ho : o = none) : Pt (J_X12_readsLine_65 N 218 σ) (fun r => LB t n o r.2.1) := by
  rw [J_X12_readsLine_65.eq_1]
  refine pt_gC (g_bad (fun q => ?_) (fun q => absurd q hb))
  exact pt_if (fun _ => pt_some ⟨fun z => absurd z q, fun _ => ho⟩) (fun z => absurd rfl z)
theorem vr_35b {o : LO} (hN : 1048576 ≤ N) (hR : RF σ.2.2) (hK : TOK σ.1) (hY : BYT (σ.1 224)) (hb : ¬ σ.1 218 14 = 0) (ho : o = none) : Pt (J_X12_readsLine_35 N 218 σ) (fun r => LB t n o r.2.1) := by
  rw [J_X12_readsLine_35.eq_1]
  refine pt_gC (pt_zbX (Q := fun _ => True) (pt_w (pt_ok (x0_X12_is hN hR (by decide) hK)) (fun r h => ⟨h.1, trivial⟩)) (fun v _ => ?_))
  refine pt_if (fun _ => vr_65b hb ho) (fun _ => ?_)
  refine pt_gR (v := 231) (hR 218 26 rfl) (pt_aI (pt_gR (v := 231) (hR 218 26 rfl) (pt_aI ?_)))
  refine pt_if (fun _ => ?_) (fun _ => vr_65b hb ho)
  refine pt_gC (pt_zb (pt_ok (s_X12_errs hN hR hK hY (by decide))) (fun _ σ3 h3 => ?_))
  exact vr_65b h3.2.1.2 ho
theorem vr_65 (hN : 1048576 ≤ N) (hR : RF σ.2.2) (hK : TOK σ.1) (hY : BYT (σ.1 224)) (hB : ZB σ.1) (hG : RX σ.1 t n i) (hg : σ.1 218 14 = 0) (hi : i ≤ n) (hs : 0 ≤ (σ.1 218 25).toInt ∧ (σ.1 218 25).toInt ≤ 24) (hF : FW (σ.1 231)) (hw : isW t n i 12 ∨ isW t n i 13 ∨ isW t n i 14) (he : isW t n i 13 → ¬ σ.1 231 2 = σ.1 231 0) : Pt (J_X12_readsLine_65 N 218 σ) (fun r => LB t n (lnR t n i (σ.1 231) (σ.1 218 25).toInt.toNat) r.2.1) := by
  have le1 := (tk_le (t := t) hi).2.2
  have le2 := (tk_le (t := t) le1).2.2
  have le3 := (tk_le (t := t) le2).2.2
  rw [J_X12_readsLine_65.eq_1]
  refine pt_gC (g_bad (fun q => absurd hg q) (fun _ v hv => ?_))
  refine pt_if (fun z => absurd z hv) (fun _ => ?_)
  refine pt_gC (pt_zb (pt_ok (s_X12_takes_r (tx := t) (n := n) (i := i) hN hR hK hY hG hg (by decide))) (fun v1 σ1 h1 => ?_))
  obtain ⟨T1, ⟨K1, _, n1, y1⟩, _, _, e14, _, _, _, _, _, e25⟩ := h1
  have T1 : Tr [218] σ σ1 := T1
  have n1 : v1 = 0 → σ1 = σ ∧ ¬ isW t n i 12 := n1
  have y1 : ¬ v1 = 0 → (isW t n i 12 ∧ _) ∧ RX σ1.1 t n (tkE t n i) := y1
  refine pt_if (fun z => ?_) (fun z => ?_)
  · obtain ⟨rfl, nw⟩ := n1 z
    refine pt_gC (pt_zb (pt_ok (s_X12_takes_r (tx := t) (n := n) (i := i) hN hR hK hY hG hg (by decide))) (fun v2 σ2 h2 => ?_))
    obtain ⟨T2, ⟨K2, _, n2, y2⟩, _, _, e14, _, _, _, _, _, e25⟩ := h2
    have T2 : Tr [218] σ1 σ2 := T2
    have n2 : v2 = 0 → σ2 = σ1 ∧ ¬ isW t n i 13 := n2
    have y2 : ¬ v2 = 0 → (isW t n i 13 ∧ _) ∧ RX σ2.1 t n (tkE t n i) := y2
    have e14 : σ2.1 218 14 = σ1.1 218 14 := e14
    have e25 : σ2.1 218 25 = σ1.1 218 25 := e25
    refine pt_if (fun z => ?_) (fun z => ?_)
    · obtain ⟨rfl, ne⟩ := n2 z
      have wl := (hw.resolve_left nw).resolve_left ne
      have l0 := hK.2.1 (by rw [hG.2.2.1, wl.1]; decide)
      have A : (0 ≤ (σ2.1 218 10).toInt ∧ (σ2.1 218 10).toInt ≤ (σ2.1 218 9).toInt) ∧ (σ2.1 218 9).toInt ≤ 600 := by have := hK.1; omega
      refine pt_gC (pt_zb (pt_ok (s_X12_advance_r (tx := t) (n := n) (i := i) hN hR A hY hG)) (fun _ σ3 h3 => ?_))
      obtain ⟨T3, ⟨⟨K3, _⟩, G3⟩, _, _, d14, _, _, _, _, _, d25⟩ := h3
      have T3 : Tr [218] σ2 σ3 := T3
      have d14 : σ3.1 218 14 = σ2.1 218 14 := d14
      have d25 : σ3.1 218 25 = σ2.1 218 25 := d25
      have r3 : σ3.1 231 = σ2.1 231 := T3.2 231 (by decide)
      refine pt_gC (pt_zb (pt_ok (s_X12_readsLet_r (tx := t) (n := n) (i := tkE t n i) hN (hR.tr T3) K3 (by rw [T3.2 224 (by decide)]; exact hY) G3 (d14.trans hg) (ZB.tr T3 (by decide) hB) (by rw [r3]; exact hF) le1 (by rw [d25]; exact hs))) (fun _ σ4 h4 => ?_))
      obtain ⟨T4, ⟨K4, _, u4, f4, s4, _⟩, _⟩ := h4
      have T4 : Tr [218, 226, 227, 228, 229, 230, 232] σ3 σ4 := T4
      have u4 : σ4.1 218 14 = 0 → ∃ j, letR t n (σ3.1 231 0) (tkE t n i) (σ3.1 218 25).toInt.toNat = some (j, (σ4.1 218 25).toInt.toNat) ∧ RX σ4.1 t n j ∧ j ≤ n := u4
      have f4 : ¬ σ4.1 218 14 = 0 → letR t n (σ3.1 231 0) (tkE t n i) (σ3.1 218 25).toInt.toNat = none := f4
      rw [r3, d25] at u4 f4
      have r4 : σ4.1 231 = σ2.1 231 := (T4.2 231 (by decide)).trans r3
      refine pt_some ⟨fun q => ?_, fun q => ?_⟩
      · obtain ⟨j, e, x, l⟩ := u4 q
        refine ⟨j, ?_, x, l, s4⟩
        rw [lnR_l nw ne wl, e]
        show _ = some (j, σ4.1 231, (σ4.1 218 25).toInt.toNat)
        rw [r4]; rfl
      · rw [lnR_l nw ne wl, f4 q]; rfl
    · have a2 := y2 z
      have r2 : σ2.1 231 = σ1.1 231 := T2.2 231 (by decide)
      have h02 := hF.1
      refine pt_gC (pt_zb (vr_readsEdge (t := t) (n := n) (i := tkE t n i) hN (hR.tr T2) K2 (by rw [T2.2 224 (by decide)]; exact hY) a2.2 (e14.trans hg) le1 (by rw [e25]; exact hs) (by rw [r2]; omega)) (fun _ σ3 h3 => ?_))
      rw [r2, e25] at h3
      rw [lnR_e nw a2.1.1 (he a2.1.1)]
      exact pt_some h3
  · have a1 := y1 z
    have e14 : σ1.1 218 14 = σ.1 218 14 := e14
    have e25 : σ1.1 218 25 = σ.1 218 25 := e25
    have r1 : σ1.1 231 = σ.1 231 := T1.2 231 (by decide)
    have Y1 : BYT (σ1.1 224) := by rw [T1.2 224 (by decide)]; exact hY
    refine pt_gC (pt_zb (pt_ok (s_X12_readsName_r (tx := t) (n := n) (i := tkE t n i) hN (hR.tr T1) K1 Y1 a1.2 (e14.trans hg) (by rw [r1]; exact hF))) (fun v2 σ2 h2 => ?_))
    obtain ⟨T2, ⟨K2, _, u2, f2, b2⟩, _, _, _, _, _, _, d25⟩ := h2
    have T2 : Tr [218] σ1 σ2 := T2
    have u2 : σ2.1 218 14 = 0 → (nmOK t n (tkE t n i) (σ1.1 231 0) ∧ v2.toInt = (t (tkF t n (tkE t n i))).toInt - 97) ∧ RX σ2.1 t n (tkE t n (tkE t n i)) := u2
    have f2 : ¬ σ2.1 218 14 = 0 → ¬ nmOK t n (tkE t n i) (σ1.1 231 0) := f2
    have b2 : 0 ≤ v2.toInt ∧ v2.toInt ≤ 9 := b2
    have d25 : σ2.1 218 25 = σ1.1 218 25 := d25
    rw [r1] at u2 f2
    refine pt_gR (v := 231) (((hR.tr T1).tr T2) 218 26 rfl) ?_
    refine pt_gC (pt_zb (pt_ok (s_X12_number_c (tx := t) (n := n) (i := tkE t n (tkE t n i)) hN ((hR.tr T1).tr T2) K2 (by rw [T2.2 224 (by decide)]; exact Y1) (fun q => (u2 q).2))) (fun v3 σ3 h3 => ?_))
    obtain ⟨T3, ⟨K3, _, u3, f3⟩, _, _, _, _, _, _, c25⟩ := h3
    have T3 : Tr [218] σ2 σ3 := T3
    have u3 : σ3.1 218 14 = 0 → ((σ2.1 218 14 = 0 ∧ _) ∧ nOK t n (tkE t n (tkE t n i)) 0 99) ∧ v3.toInt = nv5 t n (tkE t n (tkE t n i)) ∧ RX σ3.1 t n (tkE t n (tkE t n (tkE t n i))) := u3
    have f3 : ¬ σ3.1 218 14 = 0 → v3 = 0 ∧ (σ2.1 218 14 = 0 → ¬ nOK t n (tkE t n (tkE t n i)) 0 99) := f3
    have c25 : σ3.1 218 25 = σ2.1 218 25 := c25
    have r3 : σ3.1 231 = σ.1 231 := ((T3.2 231 (by decide)).trans (T2.2 231 (by decide))).trans r1
    rw [lnR_w a1.1.1]
    refine pt_s14 (pt_some ⟨fun q => ?_, fun q => ?_⟩)
    · have q : σ3.1 218 14 = 0 := by have q := q; rw [show (zI σ3 231 (upd (σ3.1 231) (3 + v2).toInt.toNat v3)).1 218 = σ3.1 218 from zI_n (by decide)] at q; exact q
      have a3 := u3 q
      have a2 := u2 a3.1.1.1
      refine ⟨tkE t n (tkE t n (tkE t n i)), ?_, RX_c (zI_n (by decide)) (zI_n (by decide)) a3.2.2, le3, ?_⟩
      · show _ = some (_, (zI σ3 231 (upd (σ3.1 231) (3 + v2).toInt.toNat v3)).1 231, ((zI σ3 231 (upd (σ3.1 231) (3 + v2).toInt.toNat v3)).1 218 25).toInt.toNat)
        rw [zI_s, zI_n (by decide), r3, c25, d25, e25, wtR_t ⟨a2.1.1, a3.1.2⟩, nv_eq a3.2.1, a3_ ⟨b2.1, by omega⟩, a2.1.2]
        have b9 := a2.1.2
        rw [show (3 + ((t (tkF t n (tkE t n i))).toInt - 97)).toNat = 3 + ((t (tkF t n (tkE t n i))).toInt - 97).toNat by omega]
      · show 0 ≤ ((zI σ3 231 (upd (σ3.1 231) (3 + v2).toInt.toNat v3)).1 218 25).toInt ∧ ((zI σ3 231 (upd (σ3.1 231) (3 + v2).toInt.toNat v3)).1 218 25).toInt ≤ 24
        rw [zI_n (by decide), c25, d25, e25]; exact hs
    · have q : ¬ σ3.1 218 14 = 0 := by have q := q; rw [show (zI σ3 231 (upd (σ3.1 231) (3 + v2).toInt.toNat v3)).1 218 = σ3.1 218 from zI_n (by decide)] at q; exact q
      refine wtR_f (fun w => ?_)
      by_cases y : σ2.1 218 14 = 0
      · exact (f3 q).2 y w.2
      · exact f2 y w.1
theorem vr_35 (hN : 1048576 ≤ N) (hR : RF σ.2.2) (hK : TOK σ.1) (hY : BYT (σ.1 224)) (hB : ZB σ.1) (hG : RX σ.1 t n i) (hg : σ.1 218 14 = 0) (hi : i ≤ n) (hs : 0 ≤ (σ.1 218 25).toInt ∧ (σ.1 218 25).toInt ≤ 24) (hF : FW (σ.1 231)) (hw : isW t n i 12 ∨ isW t n i 13 ∨ isW t n i 14) : Pt (J_X12_readsLine_35 N 218 σ) (fun r => LB t n (lnR t n i (σ.1 231) (σ.1 218 25).toInt.toNat) r.2.1) := by
  rw [J_X12_readsLine_35.eq_1]
  refine pt_gC (pt_zbX (Q := fun v => (v = 0 ∨ v = 1) ∧ (v = 0 → ¬ isW t n i 13) ∧ (¬ v = 0 → isW t n i 13)) (pt_ok (xf_X12_is hN hR (by decide) hK hg hG)) (fun v hv => ?_))
  refine pt_if (fun z => vr_65 hN hR hK hY hB hG hg hi hs hF hw (fun y => absurd y (hv.2.1 z))) (fun z => ?_)
  have w13 := hv.2.2 z
  refine pt_gR (v := 231) (hR 218 26 rfl) (pt_aI (pt_gR (v := 231) (hR 218 26 rfl) (pt_aI ?_)))
  refine pt_if (fun e => ?_) (fun e => vr_65 hN hR hK hY hB hG hg hi hs hF hw (fun _ => e))
  refine pt_gC (pt_zb (pt_ok (s_X12_errs hN hR hK hY (by decide))) (fun _ σ3 h3 => ?_))
  refine vr_65b h3.2.1.2 (lnR_m (fun y => ?_) w13 e)
  exact absurd (isW_u (a := 1) (b := 2) (by decide) (by decide) y w13) (by decide)
theorem vr_readsLine (hN : 1048576 ≤ N) (hR : RF σ.2.2) (hK : TOK σ.1) (hY : BYT (σ.1 224)) (hB : ZB σ.1) (hG : RX σ.1 t n i) (hg : σ.1 218 14 = 0) (hi : i ≤ n) (hs : 0 ≤ (σ.1 218 25).toInt ∧ (σ.1 218 25).toInt ≤ 24) (hF : FW (σ.1 231)) : Pt (f_X12_readsLine N 218 σ) (fun r => LB t n (lnR t n i (σ.1 231) (σ.1 218 25).toInt.toNat) r.2.1) := by
  rw [f_X12_readsLine.eq_1]
  refine pt_gC (pt_zbX (Q := fun v => (v = 0 ∨ v = 1) ∧ (v = 0 → ¬ isW t n i 12) ∧ (¬ v = 0 → isW t n i 12)) (pt_ok (xf_X12_is hN hR (by decide) hK hg hG)) (fun v1 h1 => ?_))
  refine pt_if (fun z1 => ?_) (fun z1 => vr_35 hN hR hK hY hB hG hg hi hs hF (Or.inl (h1.2.2 z1)))
  refine pt_gC (pt_zbX (Q := fun v => (v = 0 ∨ v = 1) ∧ (v = 0 → ¬ isW t n i 13) ∧ (¬ v = 0 → isW t n i 13)) (pt_ok (xf_X12_is hN hR (by decide) hK hg hG)) (fun v2 h2 => ?_))
  refine pt_if (fun z2 => ?_) (fun z2 => vr_35 hN hR hK hY hB hG hg hi hs hF (Or.inr (Or.inl (h2.2.2 z2))))
  refine pt_gC (pt_zbX (Q := fun v => (v = 0 ∨ v = 1) ∧ (v = 0 → ¬ isW t n i 14) ∧ (¬ v = 0 → isW t n i 14)) (pt_ok (xf_X12_is hN hR (by decide) hK hg hG)) (fun v3 h3 => ?_))
  refine pt_if (fun z3 => ?_) (fun z3 => vr_35 hN hR hK hY hB hG hg hi hs hF (Or.inr (Or.inr (h3.2.2 z3))))
  refine pt_gC (pt_zb (pt_ok (s_X12_errs hN hR hK hY (by decide))) (fun _ σ3 h4 => ?_))
  obtain ⟨T4, ⟨K4, b4⟩, _⟩ := h4
  have T4 : Tr [218] σ σ3 := T4
  exact vr_35b hN (hR.tr T4) K4 (by rw [T4.2 224 (by decide)]; exact hY) b4 (lnR_z (h1.2.1 z1) (h2.2.1 z2) (h3.2.1 z3))
end RLINE2
end Zq13_2
section Zq13_3
section LINV
variable {t : Nat → Int32} {n i j sg sg' : Nat} {g g' : Nat → Int32}
/-- what holds of a world's row at every line -/
def LI (g : Nat → Int32) : Prop := FW g ∧ (g 1 = 0 → (g 0).toInt = 0 ∧ (g 2).toInt = 0) ∧ (¬ g 1 = 0 → ¬ g 0 = 0)
theorem nvI_b {lo hi : Int32} (h : nOK t n i lo hi) : lo.toInt ≤ (nvI t n i).toInt ∧ (nvI t n i).toInt ≤ hi.toInt := by
  have h0 : 0 ≤ nv5 t n i ∧ nv5 t n i ≤ 99999 := by unfold nv5; omega
  have e : (nvI t n i).toInt = nv5 t n i := by unfold nvI; rw [nI_toInt (by omega)]; omega
  rw [e]
  exact h.2
theorem nz_of {v : Int32} (h : 1 ≤ v.toInt) : ¬ v = 0 := fun q => by rw [q] at h; exact absurd h (by decide)
theorem LI_nm (h : LI g) (h1 : g 1 = 0) (ho : nmR t n i g sg = some (j, g', sg')) : FW g' ∧ g' 1 = g 1 ∧ ¬ g' 0 = 0 := by
  by_cases q : isW t n i 11 ∧ nOK t n (tkE t n i) 1 10
  · rw [nmR_t q] at ho
    obtain ⟨-, rfl, -⟩ := Prod.mk.inj (Option.some.inj ho) |> fun z => (⟨z.1, (Prod.mk.inj z.2).1, (Prod.mk.inj z.2).2⟩ : _ ∧ _ ∧ _)
    have b := nvI_b q.2
    simp only [Int32.reduceToInt] at b
    have h2 := (h.2.1 h1).2
    refine ⟨⟨⟨?_, ?_⟩, fun k hk => ?_, Or.inr (fun k hk => ?_)⟩, ?_, ?_⟩
    · show 0 ≤ (nvI t n (tkE t n i)).toInt ∧ (nvI t n (tkE t n i)).toInt ≤ 10
      omega
    · show 0 ≤ (g 2).toInt ∧ (g 2).toInt ≤ (nvI t n (tkE t n i)).toInt
      omega
    · have e1 : nmRow g (nvI t n (tkE t n i)) (13 + k) = g (13 + k) := by
        unfold nmRow; rw [if_neg (by omega), if_neg (by omega), if_neg (by omega)]
      have e2 : nmRow g (nvI t n (tkE t n i)) (23 + k) = g (23 + k) := by
        unfold nmRow; rw [if_neg (by omega), if_neg (by omega), if_neg (by omega)]
      rw [e1, e2]; exact h.1.2.1 k hk
    · unfold nmRow; rw [if_neg (by omega), if_neg (by omega), if_pos (by omega), show 33 + k - 33 = k by omega]
    · rfl
    · exact nz_of (v := nvI t n (tkE t n i)) (by omega)
  · rw [nmR_f q] at ho; cases ho
theorem some3 {a b : Nat} {f h : Nat → Int32} {c d : Nat} (e : (some (a, f, c) : LO) = some (b, h, d)) : a = b ∧ f = h ∧ c = d := by
  have e := Option.some.inj e
  exact ⟨congrArg Prod.fst e, congrArg (fun z => z.2.1) e, congrArg (fun z => z.2.2) e⟩
theorem LI_wt (h : LI g) (ho : wtR t n i g sg = some (j, g', sg')) : FW g' ∧ g' 1 = g 1 ∧ g' 0 = g 0 := by
  by_cases q : nmOK t n i (g 0) ∧ nOK t n (tkE t n i) 0 99
  · rw [wtR_t q] at ho
    obtain ⟨-, e, -⟩ := some3 ho
    have b : ((t (tkF t n i)).toInt - 97).toNat ≤ 9 := by have := q.1.2.2; have := h.1.1.1.2; omega
    generalize ((t (tkF t n i)).toInt - 97).toNat = k at *
    generalize nvI t n (tkE t n i) = v at *
    have o : ∀ a, (a < 3 ∨ 13 ≤ a) → g' a = g a := fun a ha => by rw [← e]; exact upd_n (by omega)
    refine ⟨?_, o 1 (by omega), o 0 (by omega)⟩
    unfold FW
    rw [o 0 (by omega), o 2 (by omega)]
    refine ⟨h.1.1, fun k hk => ?_, ?_⟩
    · rw [o (13 + k) (by omega), o (23 + k) (by omega)]; exact h.1.2.1 k hk
    · refine h.1.2.2.imp id (fun z k hk => ?_)
      rw [o (33 + k) (by omega)]; exact z k hk
  · rw [wtR_f q] at ho; cases ho
theorem LI_ed (h : LI g) (h2 : ¬ g 2 = g 0) (ho : edR t n i g sg = some (j, g', sg')) : FW g' ∧ g' 1 = g 1 ∧ g' 0 = g 0 := by
  by_cases q : edOK t n i
  · rw [edR_t q] at ho
    obtain ⟨-, e, -⟩ := some3 ho
    have b1 := nvI_b q.1
    have b2 := nvI_b q.2.2
    generalize nvI t n i = v at *
    generalize nvI t n (tkE t n i) = w at *
    simp only [Int32.reduceToInt] at b1 b2
    have hb := h.1.1
    have lt : (g 2).toInt < (g 0).toInt := by
      have : (g 2).toInt ≠ (g 0).toInt := fun z => h2 (Int32.toInt_inj.mp z)
      omega
    have s2 : (g 2 + 1).toInt = (g 2).toInt + 1 := a1_ ⟨by omega, by omega⟩
    obtain ⟨m, hm⟩ : ∃ m, m = (g 2).toInt.toNat := ⟨_, rfl⟩
    have hm9 : m ≤ 9 := by omega
    have eg : ∀ a, g' a = if a = 2 then g 2 + 1 else if a = 23 + m then w else if a = 13 + m then v else g a := fun a => by rw [← e, hm]; rfl
    have o2 : g' 2 = g 2 + 1 := by rw [eg, if_pos rfl]
    have o : ∀ a, a ≠ 2 → a ≠ 23 + m → a ≠ 13 + m → g' a = g a := fun a q1 q2 q3 => by rw [eg, if_neg q1, if_neg q2, if_neg q3]
    refine ⟨?_, o 1 (by omega) (by omega) (by omega), o 0 (by omega) (by omega) (by omega)⟩
    unfold FW
    rw [o 0 (by omega) (by omega) (by omega), o2, s2]
    refine ⟨⟨hb.1, by omega⟩, fun k hk => ?_, ?_⟩
    · have z := h.1.2.1 k hk
      constructor
      · by_cases y : k = m
        · rw [y, eg, if_neg (by omega), if_neg (by omega), if_pos rfl]; exact b1
        · rw [o (13 + k) (by omega) (by omega) (by omega)]; exact z.1
      · by_cases y : k = m
        · rw [y, eg, if_neg (by omega), if_pos rfl]; exact b2
        · rw [o (23 + k) (by omega) (by omega) (by omega)]; exact z.2
    · refine h.1.2.2.imp id (fun z k hk => ?_)
      rw [o (33 + k) (by omega) (by omega) (by omega)]; exact z k hk
  · rw [edR_f q] at ho; cases ho
theorem LI_bd (h : LI g) (ho : bdR t n i g sg = some (j, g', sg')) : FW g' ∧ g' 1 = g 1 ∧ ¬ g' 0 = 0 := by
  unfold bdR at ho
  by_cases h1 : g 1 = 0
  · rw [if_pos h1] at ho; exact LI_nm h h1 ho
  · rw [if_neg h1] at ho
    have n0 := h.2.2 h1
    by_cases a : isW t n i 12
    · rw [lnR_w a] at ho
      have := LI_wt h ho
      exact ⟨this.1, this.2.1, by rw [this.2.2]; exact n0⟩
    · by_cases b : isW t n i 13
      · by_cases c : g 2 = g 0
        · rw [lnR_m a b c] at ho; cases ho
        · rw [lnR_e a b c] at ho
          have := LI_ed h c ho
          exact ⟨this.1, this.2.1, by rw [this.2.2]; exact n0⟩
      · by_cases c : isW t n i 14
        · rw [lnR_l a b c] at ho
          obtain ⟨p, _, e⟩ := Option.map_eq_some_iff.mp ho
          have e := congrArg (fun z => z.2.1) e
          have e : g = g' := e
          rw [← e]; exact ⟨h.1, rfl, n0⟩
        · rw [lnR_z a b c] at ho; cases ho
theorem LI_1 {w : Int32} (h : FW g) (hw : ¬ w = 0) (h0 : ¬ g 0 = 0) : LI (upd g 1 w) := by
  have o : ∀ a, a ≠ 1 → upd g 1 w a = g a := fun a ha => upd_n ha
  refine ⟨?_, fun q => absurd (by rw [← q, upd_s]) hw, fun _ => by rw [o 0 (by decide)]; exact h0⟩
  unfold FW
  rw [o 0 (by decide), o 2 (by decide)]
  refine ⟨h.1, fun k hk => ?_, ?_⟩
  · rw [o _ (by omega), o _ (by omega)]; exact h.2.1 k hk
  · refine h.2.2.imp id (fun z k hk => ?_)
    rw [o _ (by omega)]; exact z k hk
theorem LI_0 (h : ∀ j, j < 43 → g j = 0) : LI g := by
  refine ⟨FW_0 h, fun _ => ?_, fun q => absurd (h 1 (by decide)) q⟩
  rw [h 0 (by decide), h 2 (by decide)]; decide
end LINV
section RWORLD
variable {N : Nat} {σ : zS} {t : Nat → Int32} {n : Nat}
theorem pt_pIx {β : Type} {P : β → Prop} {ci j k : Nat} {v : Int32} {f : zS → Option β} (h : ∀ τ : zS, τ.1 k = upd (σ.1 k) j v → (∀ a, a ≠ k → τ.1 a = σ.1 a) → τ.2 = σ.2 → Pt (f τ) P) : Pt (zl (pI ci j k v σ) f) P := pt_pI (h _ zI_s (fun _ ha => zI_n ha) rfl)
theorem vr_begins (hN : 1048576 ≤ N) (hR : RF σ.2.2) (hp : 0 ≤ (σ.1 218 7).toInt ∧ (σ.1 218 7).toInt ≤ 600) (hY : BYT (σ.1 224)) : Pt (f_X12_begins N 218 σ) (fun r => RX r.2.1 (σ.1 224) (σ.1 218 7).toInt.toNat 0) := by
  rw [f_X12_begins.eq_1]
  refine pt_gI (pt_pIx (fun τ1 a1 b1 c1 => pt_pIx (fun τ2 a2 b2 c2 => pt_pIx (fun τ3 a3 b3 c3 => pt_pIx (fun τ4 a4 b4 c4 => pt_pIx (fun τ5 a5 b5 c5 => pt_pIx (fun τ6 a6 b6 c6 => pt_gC ?_)))))))
  have e9 : τ6.1 218 9 = σ.1 218 7 := by rw [a6, upd_n (by decide), a5, upd_n (by decide), a4, upd_n (by decide), a3, upd_n (by decide), a2, upd_n (by decide), a1, upd_s]
  have e10 : τ6.1 218 10 = 0 := by rw [a6, upd_n (by decide), a5, upd_n (by decide), a4, upd_n (by decide), a3, upd_s]
  have e224 : τ6.1 224 = σ.1 224 := by rw [b6 _ (by decide), b5 _ (by decide), b4 _ (by decide), b3 _ (by decide), b2 _ (by decide), b1 _ (by decide)]
  have eR : τ6.2 = σ.2 := by rw [c6, c5, c4, c3, c2, c1]
  clear a1 a2 a3 a4 a5 a6 b1 b2 b3 b4 b5 b6 c1 c2 c3 c4 c5 c6
  have z : (0 : Int32).toInt = 0 := rfl
  refine pt_zb (pt_ok (s_X12_advance_x hN (by rw [eR]; exact hR) (by rw [e9, e10, z]; omega) (by rw [e224]; exact hY))) (fun _ σ9 h => pt_some ?_)
  obtain ⟨T, K, _, d9, _⟩ := h
  have T : Tr [218] τ6 σ9 := T
  have K : TKS σ9.1 (τ6.1 224) (τ6.1 218 9).toInt.toNat (τ6.1 218 10).toInt.toNat := K
  have d9 : σ9.1 218 9 = τ6.1 218 9 := d9
  rw [e224, e9, e10] at K
  exact ⟨⟨(T.2 224 (by decide)).trans e224, by show (σ9.1 218 9).toInt.toNat = _; rw [d9, e9]⟩, K⟩
/-- the reading of a world, between two lines -/
def RWI (t : Nat → Int32) (n : Nat) (G W : Nat → Int32) (τ : zS) : Prop := ((RF τ.2.2 ∧ TOK τ.1) ∧ (τ.1 224 = t ∧ ZB τ.1) ∧ τ.1 219 = W) ∧ (τ.1 218 14 = 0 → ∃ i, ((RX τ.1 t n i ∧ i ≤ n) ∧ Rc (stL t n) (0, G, 0) (i, τ.1 231, (τ.1 218 25).toInt.toNat)) ∧ (0 ≤ (τ.1 218 25).toInt ∧ (τ.1 218 25).toInt ≤ 24) ∧ LI (τ.1 231) ∧ 0 ≤ (τ.1 231 1).toInt ∧ (τ.1 231 1).toInt ≤ (τ.1 218 11).toInt) ∧ (¬ τ.1 218 14 = 0 → ∃ d, Rc (stL t n) (0, G, 0) d ∧ stL t n d = none)
theorem vr_tail {P : Int32 × zS → Prop} {again : zS → Option (Int32 × zS)} {G W : Nat → Int32} {i : Nat} {g : Nat → Int32} {sg : Nat} (hN : 1048576 ≤ N) (hY : BYT t) (hR : RF σ.2.2) (hK : TOK σ.1) (h224 : σ.1 224 = t) (hB : ZB σ.1) (h219 : σ.1 219 = W)
    (hrc : Rc (stL t n) (0, G, 0) (i, g, sg)) (hk : ¬ tkK t n i = 0) (hL : LI g) (hl : 0 ≤ (g 1).toInt ∧ (g 1).toInt ≤ (σ.1 218 11).toInt) (hLB : LB t n (bdR t n i g sg) σ.1) (ih : ∀ τ, RWI t n G W τ → Pt (again τ) P) :
    Pt (zl (gC 12 218) fun _ => zb (f_X12_needsSign N 218 59 σ) fun _ σ23 => zl (gR 12 26 218 σ23) fun v24 => zl (aI 14 v24 1 σ23) fun v25 => zl (sI 14 v24 1 (v25 + 1) σ23) fun σ26 => again σ26) P := by
  obtain ⟨j, hj⟩ : ∃ j, σ.1 218 14 = 0 → bdR t n i g sg = some (j, σ.1 231, (σ.1 218 25).toInt.toNat) ∧ RX σ.1 t n j ∧ j ≤ n ∧ 0 ≤ (σ.1 218 25).toInt ∧ (σ.1 218 25).toInt ≤ 24 := by
    by_cases q : σ.1 218 14 = 0
    · obtain ⟨j, z⟩ := hLB.1 q
      exact ⟨j, fun _ => z⟩
    · exact ⟨0, fun z => absurd z q⟩
  refine pt_gC (pt_zb (pt_ok (s_X12_needsSign_r (tx := t) (n := n) (i := j) hN hR hK (by rw [h224]; exact hY) (fun q => (hj q).2.1) (by decide))) (fun _ σ1 h1 => ?_))
  obtain ⟨T1, ⟨K1, _, u1, f1⟩, _, _, _, _, _, _, e25⟩ := h1
  have T1 : Tr [218] σ σ1 := T1
  have K1 : TOK σ1.1 := K1
  have u1 : σ1.1 218 14 = 0 → (σ.1 218 14 = 0 ∧ (σ.1 218 11).toInt < (σ1.1 218 11).toInt) ∧ tkK t n j = 59 ∧ RX σ1.1 t n (tkE t n j) := u1
  have f1 : ¬ σ1.1 218 14 = 0 → σ.1 218 14 = 0 → ¬ tkK t n j = 59 := f1
  have e25 : σ1.1 218 25 = σ.1 218 25 := e25
  have r1 : σ1.1 231 = σ.1 231 := T1.2 231 (by decide)
  refine pt_gR (v := 231) ((hR.tr T1) 218 26 rfl) (pt_aI (pt_s14 (ih _ ?_)))
  have z1 : (Int32.toInt 1).toNat = 1 := rfl
  rw [z1]
  obtain ⟨τ, hτ⟩ : ∃ τ : zS, τ = zI σ1 231 (upd (σ1.1 231) 1 (σ1.1 231 1 + 1)) := ⟨_, rfl⟩
  rw [← hτ]
  have o : ∀ k, k ≠ 231 → τ.1 k = σ1.1 k := fun k hk => by rw [hτ]; exact zI_n hk
  have o231 : τ.1 231 = upd (σ.1 231) 1 (σ.1 231 1 + 1) := by rw [hτ, zI_s, r1]
  have oR : τ.2.2 = σ1.2.2 := by rw [hτ]
  have K2 : TOK τ.1 := TOK_c K1 (by rw [o 218 (by decide)]) (by rw [o 218 (by decide)]) (by rw [o 218 (by decide)]) (by rw [o 218 (by decide)]) (o 224 (by decide))
  have B1 : ZB σ1.1 := ZB.tr T1 (by decide) hB
  have B2 : ZB τ.1 := fun k hk j => by
    by_cases q : k = 231
    · rw [q] at hk; exact absurd hk (by decide)
    · rw [o k q]; exact B1 k hk j
  refine ⟨⟨⟨by rw [oR]; exact hR.tr T1, K2⟩, ⟨(o 224 (by decide)).trans ((T1.2 224 (by decide)).trans h224), B2⟩, (o 219 (by decide)).trans ((T1.2 219 (by decide)).trans h219)⟩, fun q => ?_, fun q => ?_⟩
  · rw [o 218 (by decide)] at q
    obtain ⟨⟨q0, gain⟩, k59, G1⟩ := u1 q
    obtain ⟨eb, _, lej, s25⟩ := hj q0
    obtain ⟨F1, g1, g0⟩ := LI_bd hL eb
    have K6 := K1.1
    have w1 : (σ.1 231 1 + 1).toInt = (σ.1 231 1).toInt + 1 := a1_ (by rw [g1]; omega)
    have g1i := congrArg Int32.toInt g1
    refine ⟨tkE t n j, ⟨⟨RX_c (o 218 (by decide)) (o 224 (by decide)) G1, (tk_le lej).2.2⟩, ?_⟩, ?_, ?_, ?_⟩
    · rw [o231, o 218 (by decide), e25]
      refine hrc.sn ((stL_s hk eb).trans ?_)
      exact if_pos k59
    · rw [o 218 (by decide), e25]; exact s25
    · rw [o231]
      exact LI_1 F1 (nz_of (by omega)) g0
    · rw [o231, upd_s, o 218 (by decide), w1]; omega
  · rw [o 218 (by decide)] at q
    refine ⟨_, hrc, ?_⟩
    by_cases q0 : σ.1 218 14 = 0
    · rw [stL_s hk (hj q0).1]; exact if_neg (f1 q q0)
    · exact stL_n hk (hLB.2 q0)
end RWORLD
end Zq13_3
section Zq13_4
section RWORLD2
variable {N : Nat} {σ : zS} {t : Nat → Int32} {n : Nat}
/-- what world() of the reference answers: -4 at a fault, else the row of the last line -/
def RWQ (t : Nat → Int32) (n : Nat) (G W : Nat → Int32) (r : Int32 × zS) : Prop := (r.1 = -4 ∧ r.2.1 219 = W ∧ ∃ d, Rc (stL t n) (0, G, 0) d ∧ stL t n d = none) ∨ (∃ d, (Rc (stL t n) (0, G, 0) d ∧ stL t n d = some none) ∧ (r.1 = d.2.1 1 ∧ LI d.2.1) ∧ ∀ j, j < 43 → r.2.1 219 j = d.2.1 j)
theorem vw_138 {P : Int32 × zS → Prop} (hR : RF σ.2.2) (hP : ∀ τ : zS, (∀ k, k ≠ 220 → τ.1 k = σ.1 k) → P (σ.1 219 1, τ)) : Pt (zlp (F_X12_world_138 N 218) N (0, σ)) P := by
  refine pt_lp (fun s : Int32 × zS => s.2.2.2 = σ.2.2 ∧ ∀ k, k ≠ 220 → s.2.1 k = σ.1 k) (fun again s hI ih => ?_) N _ ⟨rfl, fun _ _ => rfl⟩
  obtain ⟨x1, τ⟩ := s
  obtain ⟨hr, ho⟩ := hI
  have hr : τ.2.2 = σ.2.2 := hr
  have ho : ∀ k, k ≠ 220 → τ.1 k = σ.1 k := ho
  have R9 : RF τ.2.2 := by rw [hr]; exact hR
  rw [F_X12_world_138.eq_1]
  refine pt_if (fun _ => ?_) (fun _ => ?_)
  · refine pt_gR (v := 219) (R9 218 1 rfl) (pt_aI (pt_some ?_))
    rw [ho 219 (by decide)]
    exact hP τ ho
  · refine pt_gR (v := 220) (R9 218 2 rfl) (pt_gR (v := 232) (R9 218 27 rfl) (pt_aI (pt_s16 ?_)))
    refine ih (x1 + 1, _) ⟨hr, fun k hk => ?_⟩
    exact (zI_n hk).trans (ho k hk)
theorem vw_112 {P : Int32 × zS → Prop} (hR : RF σ.2.2) (hP : ∀ τ : zS, (∀ j, j < 43 → τ.1 219 j = σ.1 231 j) → P (σ.1 231 1, τ)) : Pt (zlp (F_X12_world_112 N 218) N (0, σ)) P := by
  refine pt_lp (fun s : Int32 × zS => (0 ≤ s.1.toInt ∧ s.1.toInt ≤ 43) ∧ s.2.2.2 = σ.2.2 ∧ s.2.1 231 = σ.1 231 ∧ ∀ j : Nat, (j : Int) < s.1.toInt → s.2.1 219 j = σ.1 231 j) (fun again s hI ih => ?_) N _ ⟨(by decide : 0 ≤ (0 : Int32).toInt ∧ (0 : Int32).toInt ≤ 43), rfl, rfl, fun j hj => absurd hj (by show ¬ (j : Int) < (0 : Int32).toInt; simp only [Int32.reduceToInt]; omega)⟩
  obtain ⟨x1, τ⟩ := s
  obtain ⟨hb, hr, ho, hj⟩ := hI
  have hb : 0 ≤ x1.toInt ∧ x1.toInt ≤ 43 := hb
  have hr : τ.2.2 = σ.2.2 := hr
  have ho : τ.1 231 = σ.1 231 := ho
  have hj : ∀ j : Nat, (j : Int) < x1.toInt → τ.1 219 j = σ.1 231 j := hj
  have R9 : RF τ.2.2 := by rw [hr]; exact hR
  rw [F_X12_world_112.eq_1]
  refine pt_if (fun q => ?_) (fun q => ?_)
  · rw [Int32.le_iff_toInt_le] at q
    simp only [Int32.reduceToInt] at q
    refine vw_138 R9 (fun υ hυ => ?_)
    rw [hj 1 (by omega)]
    exact hP υ (fun j h => by rw [hυ 219 (by decide)]; exact hj j (by omega))
  · rw [Int32.le_iff_toInt_le] at q
    simp only [Int32.reduceToInt] at q
    have hw : 0 ≤ x1.toInt ∧ x1.toInt ≤ 100000 := by omega
    have hx1 : 0 ≤ (x1 + 1).toInt ∧ (x1 + 1).toInt ≤ 43 := by rw [a1_ hw]; omega
    refine pt_gR (v := 219) (R9 218 1 rfl) (pt_gR (v := 231) (R9 218 26 rfl) (pt_aI (pt_s14 ?_)))
    refine ih (x1 + 1, _) ⟨hx1, hr, (zI_n (by decide)).trans ho, fun j h => ?_⟩
    have h : (j : Int) < (x1 + 1).toInt := h
    rw [a1_ hw] at h
    show (zI τ 219 _).1 219 j = _
    rw [zI_s, upd_i]
    by_cases e : j = x1.toInt.toNat
    · rw [if_pos e, ho, e]
    · rw [if_neg e]; exact hj j (by omega)
theorem vw_100 {G W : Nat → Int32} (hI : RWI t n G W σ) (hk : σ.1 218 14 = 0 → σ.1 218 12 = 0) : Pt (J_X12_world_100 N 218 σ) (RWQ t n G W) := by
  rw [J_X12_world_100.eq_1]
  refine pt_gC (pt_zbX (Q := fun v => (v = 0 → ¬ σ.1 218 14 = 0) ∧ (¬ v = 0 → σ.1 218 14 = 0)) (pt_ok x_X12_good) (fun v hv => ?_))
  refine pt_if (fun z => pt_some (Or.inl ⟨rfl, hI.1.2.2, hI.2.2 (hv.1 z)⟩)) (fun z => ?_)
  have q := hv.2 z
  obtain ⟨i, ⟨⟨hG, le⟩, rc⟩, _, hL, _⟩ := hI.2.1 q
  have k0 : tkK t n i = 0 := hG.2.2.1.symm.trans (hk q)
  refine vw_112 hI.1.1.1 (fun τ hτ => Or.inr ⟨_, ⟨rc, stL_e k0⟩, ⟨rfl, hL⟩, hτ⟩)
theorem vw_47 {G W : Nat → Int32} (hN : 1048576 ≤ N) (hY : BYT t) (hI : RWI t n G W σ) : Pt (zlp (F_X12_world_47 N 218) N σ) (RWQ t n G W) := by
  refine pt_lp (fun τ : zS => RWI t n G W τ) (fun again τ hI ih => ?_) N _ hI
  rw [F_X12_world_47.eq_1]
  refine pt_gC (pt_zbX (Q := fun v => (v = 0 → ¬ τ.1 218 14 = 0) ∧ (¬ v = 0 → τ.1 218 14 = 0)) (pt_ok x_X12_good) (fun v hv => ?_))
  refine pt_if (fun z => vw_100 hI (fun y => absurd y (hv.1 z))) (fun z => ?_)
  have q := hv.2 z
  refine pt_gI (pt_if (fun k => vw_100 hI (fun _ => k)) (fun k => ?_))
  have hI0 := hI
  obtain ⟨⟨⟨hR, hK⟩, ⟨h224, hB⟩, h219⟩, hg, _⟩ := hI
  obtain ⟨i, ⟨⟨hG, le⟩, rc⟩, s25, hL, hl⟩ := hg q
  have k0 : ¬ tkK t n i = 0 := fun y => k (hG.2.2.1.trans y)
  have hYr : BYT (τ.1 224) := by rw [h224]; exact hY
  refine pt_gR (v := 231) (hR 218 26 rfl) (pt_aI ?_)
  have z1 : (Int32.toInt 1).toNat = 1 := rfl
  rw [z1]
  refine pt_if (fun e => ?_) (fun e => ?_)
  · refine pt_gC (pt_zb (pt_and (pt_ok (s_X12_readsNames hN hR hK hYr hL.1 (hL.2.1 e).2)) (vr_readsNames (t := t) (n := n) (i := i) hN hR hK hYr hG q le s25)) (fun _ σ1 h1 => ?_))
    obtain ⟨⟨T1, ⟨K1, m1, _⟩, _⟩, b1⟩ := h1
    have T1 : Tr [218, 231] τ σ1 := T1
    have m1 : (τ.1 218 11).toInt ≤ (σ1.1 218 11).toInt := m1
    have eb : bdR t n i (τ.1 231) (τ.1 218 25).toInt.toNat = nmR t n i (τ.1 231) (τ.1 218 25).toInt.toNat := if_pos e
    exact vr_tail (i := i) hN hY (hR.tr T1) K1 ((T1.2 224 (by decide)).trans h224) (ZB.tr T1 (by decide) hB) ((T1.2 219 (by decide)).trans h219) rc k0 hL (by omega) (by rw [eb]; exact b1) ih
  · refine pt_gC (pt_zb (pt_and (pt_ok (s_X12_readsLine hN hR hK hYr hB hL.1 q)) (vr_readsLine (t := t) (n := n) (i := i) hN hR hK hYr hB hG q le s25 hL.1)) (fun _ σ1 h1 => ?_))
    obtain ⟨⟨T1, ⟨K1, m1, _, _, B1⟩, _⟩, b1⟩ := h1
    have T1 : Tr [218, 226, 227, 228, 229, 230, 231, 232] τ σ1 := T1
    have m1 : (τ.1 218 11).toInt ≤ (σ1.1 218 11).toInt := m1
    have eb : bdR t n i (τ.1 231) (τ.1 218 25).toInt.toNat = lnR t n i (τ.1 231) (τ.1 218 25).toInt.toNat := if_neg e
    exact vr_tail (i := i) hN hY (hR.tr T1) K1 ((T1.2 224 (by decide)).trans h224) B1 ((T1.2 219 (by decide)).trans h219) rc k0 hL (by omega) (by rw [eb]; exact b1) ih
theorem vw_27 {P : Int32 × zS → Prop} (hR : RF σ.2.2) (hB : ZB σ.1) (hP : ∀ τ : zS, τ.2.2 = σ.2.2 → ZB τ.1 → (∀ k, k ≠ 232 → τ.1 k = σ.1 k) → Pt (zlp (F_X12_world_47 N 218) N τ) P) : Pt (zlp (F_X12_world_27 N 218) N (0, σ)) P := by
  refine pt_lp (fun s : Int32 × zS => s.2.2.2 = σ.2.2 ∧ ZB s.2.1 ∧ ∀ k, k ≠ 232 → s.2.1 k = σ.1 k) (fun again s hI ih => ?_) N _ ⟨rfl, hB, fun _ _ => rfl⟩
  obtain ⟨x1, τ⟩ := s
  obtain ⟨hr, hZ, ho⟩ := hI
  have hr : τ.2.2 = σ.2.2 := hr
  have hZ : ZB τ.1 := hZ
  have ho : ∀ k, k ≠ 232 → τ.1 k = σ.1 k := ho
  rw [F_X12_world_27.eq_1]
  refine pt_if (fun _ => hP τ hr hZ ho) (fun _ => ?_)
  refine pt_gR (v := 232) (by rw [hr]; exact hR 218 27 rfl) (pt_s16 ?_)
  refine ih (x1 + 1, _) ⟨hr, ZB_s rfl hZ, fun k hk => ?_⟩
  exact (zI_n hk).trans (ho k hk)
theorem vw_6 {P : Int32 × zS → Prop} (hR : RF σ.2.2) (hP : ∀ τ : zS, τ.2.2 = σ.2.2 → (∀ k, k ≠ 231 → τ.1 k = σ.1 k) → (∀ j, j < 43 → τ.1 231 j = 0) → Pt (zlp (F_X12_world_27 N 218) N (0, τ)) P) : Pt (zlp (F_X12_world_6 N 218) N (0, σ)) P := by
  refine pt_lp (fun s : Int32 × zS => (0 ≤ s.1.toInt ∧ s.1.toInt ≤ 43) ∧ s.2.2.2 = σ.2.2 ∧ (∀ k, k ≠ 231 → s.2.1 k = σ.1 k) ∧ ∀ j : Nat, (j : Int) < s.1.toInt → s.2.1 231 j = 0) (fun again s hI ih => ?_) N _ ⟨(by decide : 0 ≤ (0 : Int32).toInt ∧ (0 : Int32).toInt ≤ 43), rfl, fun _ _ => rfl, fun j hj => absurd hj (by show ¬ (j : Int) < (0 : Int32).toInt; simp only [Int32.reduceToInt]; omega)⟩
  obtain ⟨x1, τ⟩ := s
  obtain ⟨hb, hr, ho, hj⟩ := hI
  have hb : 0 ≤ x1.toInt ∧ x1.toInt ≤ 43 := hb
  have hr : τ.2.2 = σ.2.2 := hr
  have ho : ∀ k, k ≠ 231 → τ.1 k = σ.1 k := ho
  have hj : ∀ j : Nat, (j : Int) < x1.toInt → τ.1 231 j = 0 := hj
  rw [F_X12_world_6.eq_1]
  refine pt_if (fun q => ?_) (fun q => ?_)
  · rw [Int32.le_iff_toInt_le] at q
    simp only [Int32.reduceToInt] at q
    exact hP τ hr ho (fun j h => hj j (by omega))
  · rw [Int32.le_iff_toInt_le] at q
    simp only [Int32.reduceToInt] at q
    have hw : 0 ≤ x1.toInt ∧ x1.toInt ≤ 100000 := by omega
    have hx1 : 0 ≤ (x1 + 1).toInt ∧ (x1 + 1).toInt ≤ 43 := by rw [a1_ hw]; omega
    refine pt_gR (v := 231) (by rw [hr]; exact hR 218 26 rfl) (pt_s14 ?_)
    refine ih (x1 + 1, _) ⟨hx1, hr, fun k hk => (zI_n hk).trans (ho k hk), fun j h => ?_⟩
    have h : (j : Int) < (x1 + 1).toInt := h
    rw [a1_ hw] at h
    show (zI τ 231 _).1 231 j = _
    rw [zI_s, upd_i]
    by_cases e : j = x1.toInt.toNat
    · rw [if_pos e]
    · rw [if_neg e]; exact hj j (by omega)
theorem vr_world (hN : 1048576 ≤ N) (hR : RF σ.2.2) (hB : ZB σ.1) (hp : 0 ≤ (σ.1 218 7).toInt ∧ (σ.1 218 7).toInt ≤ 600) (hY : BYT (σ.1 224)) : Pt (f_X12_world N 218 σ) (fun r => ∃ G, (∀ j, j < 43 → G j = 0) ∧ RWQ (σ.1 224) (σ.1 218 7).toInt.toNat G (σ.1 219) r) := by
  rw [f_X12_world.eq_1]
  refine pt_gC (pt_zb (pt_and (pt_ok (s_X12_begins hN hR hp hY)) (vr_begins hN hR hp hY)) (fun _ σ1 h1 => ?_))
  obtain ⟨⟨T1, ⟨K1, g1, e25, _⟩, _⟩, G1⟩ := h1
  have T1 : Tr [218] σ σ1 := T1
  have K1 : TOK σ1.1 := K1
  have g1 : σ1.1 218 14 = 0 := g1
  have e25 : σ1.1 218 25 = 0 := e25
  have G1 : RX σ1.1 (σ.1 224) (σ.1 218 7).toInt.toNat 0 := G1
  have R1 := hR.tr T1
  refine vw_6 R1 (fun σ2 r2 o2 z2 => vw_27 (by rw [r2]; exact R1) ?_ (fun σ3 r3 B3 o3 => ?_))
  · intro k hk j
    by_cases q : k = 231
    · rw [q] at hk; exact absurd hk (by decide)
    · rw [o2 k q]; exact (ZB.tr T1 (by decide) hB) k hk j
  · have e218 : σ3.1 218 = σ1.1 218 := (o3 218 (by decide)).trans (o2 218 (by decide))
    have e224 : σ3.1 224 = σ1.1 224 := (o3 224 (by decide)).trans (o2 224 (by decide))
    have e231 : ∀ j, j < 43 → σ3.1 231 j = 0 := fun j hj => by rw [o3 231 (by decide)]; exact z2 j hj
    have z : (0 : Int32).toInt = 0 := rfl
    have K6 := K1.1
    refine pt_w (vw_47 (t := σ.1 224) (n := (σ.1 218 7).toInt.toNat) (G := σ3.1 231) (W := σ.1 219) hN hY ⟨⟨⟨by rw [r3, r2]; exact R1, TOK_c K1 (by rw [e218]) (by rw [e218]) (by rw [e218]) (by rw [e218]) e224⟩, ⟨e224.trans (T1.2 224 (by decide)), B3⟩, ((o3 219 (by decide)).trans (o2 219 (by decide))).trans (T1.2 219 (by decide))⟩, fun _ => ⟨0, ⟨⟨RX_c e218 e224 G1, Nat.zero_le _⟩, ?_⟩, ?_, LI_0 e231, ?_⟩, fun q => absurd (by rw [e218]; exact g1) q⟩) (fun r h => ⟨σ3.1 231, e231, h⟩)
    · rw [e218, e25]; exact Rc.rf
    · rw [e218, e25]; decide
    · rw [e231 1 (by decide), e218, z]; omega
end RWORLD2
end Zq13_4
section Zq13_5
/-! ===== the class's lines ===== -/
section CLINE
variable {N : Nat} {σ τ : zS} {t : Nat → Int32} {n c i B : Nat}
theorem fB (hB : B = 2 ∨ B = 28) (h : Tr [57, 58, 59] σ τ) {a : Nat} (ha : a ≤ 4) : τ.1 (B + a) = σ.1 (B + a) := h.2 _ (by
  simp only [List.mem_cons, List.not_mem_nil, or_false]
  omega)
theorem rB (hB : B = 2 ∨ B = 28) {R : Nat → Nat → Nat} (hR : RF R) : R B 3 = B + 1 ∧ R B 4 = B + 2 ∧ R B 5 = B + 3 ∧ R B 6 = B + 4 := by
  rcases hB with rfl | rfl
  · exact ⟨hR 2 3 rfl, hR 2 4 rfl, hR 2 5 rfl, hR 2 6 rfl⟩
  · exact ⟨hR 28 3 rfl, hR 28 4 rfl, hR 28 5 rfl, hR 28 6 rfl⟩
theorem CB_x (hB : CB σ t n c) (h22 : τ.2.2 = σ.2.2) (h1 : ∀ k, k = 1 ∨ (61 ≤ k ∧ k ≤ 64) → τ.1 k = σ.1 k) (h6 : τ.1 57 6 = σ.1 57 6) : CB τ t n c := by
  refine ⟨by rw [h22]; exact hB.1, ?_, by rw [h6]; exact hB.2.2⟩
  have q := hB.2.1
  unfold CT TR at q ⊢
  rw [h1 1 (by omega), h1 61 (by omega), h1 62 (by omega), h1 63 (by omega), h1 64 (by omega)]
  exact q
/-- the class's world and a row: names, lines, edges, weights, order, ends -/
def WB (s : Nat → Nat → Int32) (B : Nat) (g : Nat → Int32) : Prop := (s B 0 = g 0 ∧ s B 1 = g 1 ∧ s B 2 = g 2) ∧ (∀ j, j < 10 → s (B + 3) j = g (3 + j) ∧ s (B + 4) j = g (33 + j)) ∧ ∀ j, j < (g 2).toInt.toNat → s (B + 1) j = g (13 + j) ∧ s (B + 2) j = g (23 + j)
def WP (s : Nat → Nat → Int32) (B : Nat) (g : Nat → Int32) : Prop := (s B 0 = g 0 ∧ s B 1 = g 1 ∧ s B 2 = g 2) ∧ (g 1 = 0 → ∀ j, j < 10 → s (B + 3) j = 1 ∧ s (B + 4) j = nI j) ∧ (¬ g 1 = 0 → WB s B g)
theorem WB_e {s s' : Nat → Nat → Int32} {g : Nat → Int32} (e : ∀ a, a ≤ 4 → s' (B + a) = s (B + a)) (h : WB s B g) : WB s' B g := by
  have e0 := e 0 (by decide)
  rw [Nat.add_zero] at e0
  unfold WB at h ⊢
  rw [e0, e 1 (by decide), e 2 (by decide), e 3 (by decide), e 4 (by decide)]; exact h
/-- what the reading of a line's body leaves behind -/
def BQ (t : Nat → Int32) (n c B : Nat) (o : LO) (v : Int32) (τ : zS) : Prop := (v = 1 ∧ ∃ j g sg, o = some (j, g, sg) ∧ (CB τ t n c ∧ CA (τ.1 57 9) t n c j) ∧ (τ.1 57 7 = g 0 ∧ (τ.1 57 8).toInt = (sg : Int) ∧ sg ≤ 24) ∧ WB τ.1 B g) ∨ (v = 0 ∧ o = none)
def LQ (t : Nat → Int32) (n c B : Nat) (o : LO) (r : Int32 × zS) : Prop := (r.1 = 1 ∧ ∃ j g sg, (o = some (j, g, sg) ∧ tkK t n j = 59) ∧ (CB r.2 t n c ∧ CA (r.2.1 57 9) t n c (tkE t n j)) ∧ (r.2.1 57 7 = g 0 ∧ (r.2.1 57 8).toInt = (sg : Int) ∧ sg ≤ 24) ∧ WB r.2.1 B g) ∨ (r.1 = 0 ∧ (o = none ∨ ∃ d : LC, o = some d ∧ ¬ tkK t n d.1 = 59))
theorem vl_211 {o : LO} {x5 : Int32} (hB : B = 2 ∨ B = 28) (h : BQ t n c B o x5 σ) : Pt (J_X5_readLine_211 N 57 x5 σ) (LQ t n c B o) := by
  rw [J_X5_readLine_211.eq_1]
  rcases h with ⟨h1, j, g, sg, ho, ⟨hC, hA⟩, ⟨h7, h8, h24⟩, hW⟩ | ⟨h0, ho⟩
  · refine pt_if (fun q => absurd (h1.symm.trans q) (by decide)) (fun _ => ?_)
    refine pt_gC (pt_zb (pt_ok (xs_pass hC hA (by decide))) (fun v τ h => ?_))
    obtain ⟨f, h⟩ := h
    have f : F8 σ τ := f
    rcases h with ⟨v1, k, A⟩ | ⟨v0, k⟩
    · have v1 : v = 1 := v1
      refine pt_if (fun q => absurd (v1.symm.trans q) (by decide)) (fun _ => pt_rZ (Or.inl ⟨rfl, j, g, sg, ⟨ho, (ck_s (by decide)).mp k⟩, ⟨CB_fr f.1 hC, A⟩, ⟨f.1.2.2.trans h7, ?_, h24⟩, WB_e (fun a ha => fB hB f.1.1 ha) hW⟩))
      show (τ.1 57 8).toInt = _
      rw [f.2]; exact h8
    · have v0 : v = 0 := v0
      exact pt_if (fun _ => pt_rZ (Or.inr ⟨rfl, Or.inr ⟨_, ho, fun z => k ((ck_s (by decide)).mpr z)⟩⟩)) (fun q => absurd v0 q)
  · exact pt_if (fun _ => pt_rZ (Or.inr ⟨rfl, Or.inl ho⟩)) (fun q => absurd h0 q)
theorem vl_names (hB : B = 2 ∨ B = 28) (hC : CB σ t n c) (hA : CA (σ.1 57 9) t n c i) : Pt (f_X5_readNames N 57 B σ) (fun r => (r.1 = 1 ∧ nOK t n i 1 10 ∧ (CB r.2 t n c ∧ CA (r.2.1 57 9) t n c (tkE t n i)) ∧ (r.2.1 57 7 = nvI t n i ∧ r.2.1 57 8 = σ.1 57 8) ∧ r.2.1 B = upd (σ.1 B) 0 (nvI t n i) ∧ ∀ a, 1 ≤ a → a ≤ 4 → r.2.1 (B + a) = σ.1 (B + a)) ∨ (r.1 = 0 ∧ ¬ nOK t n i 1 10)) := by
  rw [f_X5_readNames.eq_1]
  refine pt_gC (pt_zb (pt_ok (xs_passNumber hC hA (by decide))) (fun v σ1 h1 => ?_))
  obtain ⟨f1, h1⟩ := h1
  have f1 : F8 σ σ1 := f1
  refine pt_if (fun q => ?_) (fun q => ?_)
  · have h1 := h1.resolve_left (fun z => absurd (z.1.symm.trans q) (by decide))
    exact pt_rZ (Or.inr ⟨rfl, h1.2⟩)
  · obtain ⟨_, ⟨ok, A1⟩, p1, lv⟩ := h1.resolve_right (fun z => q z.1)
    have A1 : CA (σ1.1 57 9) t n c (tkE t n i) := A1
    have lv : (lastv σ1.1).toInt = nv5 t n i := lv
    have C1 := CB_fr f1.1 hC
    refine pt_gC (pt_zbX (Q := fun v => v = lastv σ1.1) (pt_ok (xs_passed C1 A1 p1)) (fun v3 e3 => ?_))
    have e3 : v3 = nvI t n i := e3.trans (nv_eq lv)
    refine pt_pIx (fun τ1 a1 b1 c1 => pt_gI (pt_pIx (fun τ2 a2 b2 c2 => pt_rZ (Or.inl ⟨rfl, ok, ⟨?_, ?_⟩, ⟨?_, ?_⟩, ?_, fun a h0 h4 => ?_⟩))))
    all_goals have nB : (57 : Nat) ≠ B := by omega
    · refine CB_x C1 (by rw [show τ2.2.2 = τ1.2.2 from congrArg Prod.snd c2, show τ1.2.2 = σ1.2.2 from congrArg Prod.snd c1]) (fun k hk => (b2 k (by omega)).trans (b1 k (by omega))) ?_
      rw [b2 57 nB, a1, upd_n (by decide)]
    · show CA (τ2.1 57 9) t n c _
      rw [b2 57 nB, a1, upd_n (by decide)]; exact A1
    · show τ2.1 57 7 = _
      rw [b2 57 nB, a1, upd_s]; exact e3
    · show τ2.1 57 8 = _
      rw [b2 57 nB, a1, upd_n (by decide)]; exact f1.2
    · show τ2.1 B = _
      have z := fB hB f1.1.1 (a := 0) (by decide)
      rw [Nat.add_zero] at z
      rw [a2, b1 B (by omega), z, a1, upd_s, e3]
    · show τ2.1 (B + a) = _
      rw [b2 _ (by omega), b1 _ (by omega)]; exact fB hB f1.1.1 h4
theorem vl_w83 {x2 y0 : Int32} {Z : Prop} (hB : B = 2 ∨ B = 28) (hC : CB σ t n c) (hA : CA (σ.1 57 9) t n c i) (hk : ¬ tkK t n i = 0) (hy : (y0 = 1 ∧ Z) ∨ (y0 = 0 ∧ ¬ Z)) : Pt (J_X5_readWeight_83 N 57 B x2 y0 σ) (fun r => (r.1 = 1 ∧ (Z ∧ nOK t n (tkE t n i) 0 99) ∧ (CB r.2 t n c ∧ CA (r.2.1 57 9) t n c (tkE t n (tkE t n i))) ∧ (r.2.1 57 7 = σ.1 57 7 ∧ r.2.1 57 8 = σ.1 57 8) ∧ r.2.1 (B + 3) = upd (σ.1 (B + 3)) x2.toInt.toNat (nvI t n (tkE t n i)) ∧ ∀ a, a ≠ 3 → a ≤ 4 → r.2.1 (B + a) = σ.1 (B + a)) ∨ (r.1 = 0 ∧ ¬ (Z ∧ nOK t n (tkE t n i) 0 99))) := by
  rw [J_X5_readWeight_83.eq_1]
  rcases hy with ⟨rfl, z⟩ | ⟨rfl, z⟩
  · refine pt_gC (pt_zb (pt_ok (xa_1 hC hA hk)) (fun v σ1 h1 => ?_))
    obtain ⟨v1, f1, A1, _⟩ := h1
    have v1 : v = 1 := v1
    have f1 : F8 σ σ1 := f1
    have A1 : CA (σ1.1 57 9) t n c (tkE t n i) := A1
    refine pt_if (fun q => absurd (v1.symm.trans q) (by decide)) (fun _ => ?_)
    have C1 := CB_fr f1.1 hC
    refine pt_gC (pt_zb (pt_ok (xs_passNumber C1 A1 (by decide))) (fun v2 σ2 h2 => ?_))
    obtain ⟨f2, h2⟩ := h2
    have f2 : F8 σ1 σ2 := f2
    refine pt_if (fun q => ?_) (fun q => ?_)
    · have h2 := h2.resolve_left (fun z => absurd (z.1.symm.trans q) (by decide))
      exact pt_rZ (Or.inr ⟨rfl, fun w => h2.2 w.2⟩)
    · obtain ⟨_, ⟨ok, A2⟩, p2, lv⟩ := h2.resolve_right (fun z => q z.1)
      have A2 : CA (σ2.1 57 9) t n c (tkE t n (tkE t n i)) := A2
      have lv : (lastv σ2.1).toInt = nv5 t n (tkE t n i) := lv
      have f := f1.tr f2
      have C2 := CB_fr f.1 hC
      refine pt_gR (v := B + 3) (rB hB C2.1.1).2.2.1 ?_
      refine pt_gC (pt_zbX (Q := fun v => v = lastv σ2.1) (pt_ok (xs_passed C2 A2 p2)) (fun v3 e3 => ?_))
      have e3 : v3 = nvI t n (tkE t n i) := e3.trans (nv_eq lv)
      refine pt_s14 (pt_rZ (Or.inl ⟨rfl, ⟨z, ok⟩, ⟨CB_x C2 rfl (fun k hk => zI_n (by omega)) (by rw [zI_n (by omega)]), ?_⟩, ⟨?_, ?_⟩, ?_, fun a h0 h4 => ?_⟩))
      · show CA ((zI σ2 (B + 3) _).1 57 9) t n c _
        rw [zI_n (by omega)]; exact A2
      · show (zI σ2 (B + 3) _).1 57 7 = _
        rw [zI_n (by omega)]; exact f.1.2.2
      · show (zI σ2 (B + 3) _).1 57 8 = _
        rw [zI_n (by omega)]; exact f.2
      · show (zI σ2 (B + 3) _).1 (B + 3) = _
        rw [zI_s, e3, fB hB f.1.1 (by decide)]
      · show (zI σ2 (B + 3) _).1 (B + a) = _
        rw [zI_n (by omega)]; exact fB hB f.1.1 h4
  · refine pt_gC (pt_zb (pt_ok (xa_0 hC hA)) (fun v σ1 h1 => ?_))
    have v0 : v = 0 := h1.1
    exact pt_if (fun _ => pt_rZ (Or.inr ⟨rfl, fun w => z w.1⟩)) (fun q => absurd v0 q)
theorem vl_weight {m : Int32} (hB : B = 2 ∨ B = 28) (hC : CB σ t n c) (hA : CA (σ.1 57 9) t n c i) (hm : σ.1 57 7 = m) (h10 : m.toInt ≤ 10) : Pt (f_X5_readWeight N 57 B σ) (fun r => (r.1 = 1 ∧ (nmOK t n i m ∧ nOK t n (tkE t n i) 0 99) ∧ (CB r.2 t n c ∧ CA (r.2.1 57 9) t n c (tkE t n (tkE t n i))) ∧ (r.2.1 57 7 = σ.1 57 7 ∧ r.2.1 57 8 = σ.1 57 8) ∧ r.2.1 (B + 3) = upd (σ.1 (B + 3)) ((t (tkF t n i)).toInt - 97).toNat (nvI t n (tkE t n i)) ∧ ∀ a, a ≠ 3 → a ≤ 4 → r.2.1 (B + a) = σ.1 (B + a)) ∨ (r.1 = 0 ∧ ¬ (nmOK t n i m ∧ nOK t n (tkE t n i) 0 99))) := by
  subst hm
  have hb := CA_b hA hC.2.1.1.2.2
  have row := CA_row hC.2.1 hA
  have hle := tk_le (t := t) (CA_le hA)
  have h600 := hC.2.1.1.2.1
  have bad : ∀ (σ' : zS), ¬ nmOK t n i (σ.1 57 7) → Pt (zl (gC 5 57) fun _ => zb (f_X5_fail N 57 1 σ) fun v24 σ25 => rZ v24 σ25) (fun r => (r.1 = 1 ∧ (nmOK t n i (σ.1 57 7) ∧ nOK t n (tkE t n i) 0 99) ∧ (CB r.2 t n c ∧ CA (r.2.1 57 9) t n c (tkE t n (tkE t n i))) ∧ (r.2.1 57 7 = σ.1 57 7 ∧ r.2.1 57 8 = σ.1 57 8) ∧ r.2.1 (B + 3) = upd (σ.1 (B + 3)) ((t (tkF t n i)).toInt - 97).toNat (nvI t n (tkE t n i)) ∧ ∀ a, a ≠ 3 → a ≤ 4 → r.2.1 (B + a) = σ.1 (B + a)) ∨ (r.1 = 0 ∧ ¬ (nmOK t n i (σ.1 57 7) ∧ nOK t n (tkE t n i) 0 99))) := fun _ z =>
    pt_gC (pt_zb (pt_ok (xs_fail hC hA)) (fun v σ1 h1 => pt_rZ (Or.inr ⟨h1.1, fun w => z w.1⟩)))
  rw [f_X5_readWeight.eq_1]
  refine pt_gR (v := 61) (hC.1.1 57 10 rfl) (pt_gI (pt_aI ?_))
  have e1 : σ.1 61 (σ.1 57 9).toInt.toNat = ck (tkK t n i) := row.1.1
  rw [e1]
  refine pt_if (fun q => ?_) (fun q => bad σ (fun w => q (ck_w.mpr w.1)))
  have hk : tkK t n i = 1 := ck_w.mp q
  refine pt_gR (v := 64) (hC.1.1 57 13 rfl) (pt_gI (pt_aI ?_))
  refine pt_gR (v := 63) (hC.1.1 57 12 rfl) (pt_gI (pt_aI ?_))
  have h63 : (σ.1 63 (σ.1 57 9).toInt.toNat).toInt = (tkF t n i : Int) := row.1.2.1
  have h64 : (σ.1 64 (σ.1 57 9).toInt.toNat).toInt = (tkE t n i : Int) := row.1.2.2
  have sb : (σ.1 64 (σ.1 57 9).toInt.toNat - σ.1 63 (σ.1 57 9).toInt.toNat).toInt = (tkE t n i : Int) - (tkF t n i : Int) := by rw [ti_sub, h63, h64]; omega
  have one : σ.1 64 (σ.1 57 9).toInt.toNat - σ.1 63 (σ.1 57 9).toInt.toNat = 1 ↔ tkE t n i = tkF t n i + 1 := by
    rw [← Int32.toInt_inj, sb]
    simp only [Int32.reduceToInt]
    omega
  refine pt_if (fun q1 => ?_) (fun q1 => bad σ (fun w => q1 (one.mpr w.2.1)))
  have l1 := one.mp q1
  refine pt_gR (v := 1) hC.1.2 (pt_gR (v := 63) (hC.1.1 57 12 rfl) (pt_gI (pt_aI (pt_aI ?_))))
  have ev : σ.1 1 (σ.1 63 (σ.1 57 9).toInt.toNat).toInt.toNat = t (tkF t n i) := by
    rw [hC.2.1.1.1, h63]; rfl
  rw [ev]
  have lt := tk_let hk (Nat.le_refl _) (show tkF t n i < tkE t n i by omega)
  have s97 : (t (tkF t n i) - 97).toInt = (t (tkF t n i)).toInt - 97 := by
    rw [ti_sub]; simp only [Int32.reduceToInt]; unfold isLt at lt; omega
  have k0 : ¬ tkK t n i = 0 := by rw [hk]; decide
  have go : ∀ y0 : Int32, ((y0 = 1 ∧ nmOK t n i (σ.1 57 7)) ∨ (y0 = 0 ∧ ¬ nmOK t n i (σ.1 57 7))) → Pt (J_X5_readWeight_83 N 57 B (t (tkF t n i) - 97) y0 σ) (fun r => (r.1 = 1 ∧ (nmOK t n i (σ.1 57 7) ∧ nOK t n (tkE t n i) 0 99) ∧ (CB r.2 t n c ∧ CA (r.2.1 57 9) t n c (tkE t n (tkE t n i))) ∧ (r.2.1 57 7 = σ.1 57 7 ∧ r.2.1 57 8 = σ.1 57 8) ∧ r.2.1 (B + 3) = upd (σ.1 (B + 3)) ((t (tkF t n i)).toInt - 97).toNat (nvI t n (tkE t n i)) ∧ ∀ a, a ≠ 3 → a ≤ 4 → r.2.1 (B + a) = σ.1 (B + a)) ∨ (r.1 = 0 ∧ ¬ (nmOK t n i (σ.1 57 7) ∧ nOK t n (tkE t n i) 0 99))) := fun y0 hy => by
    have z := vl_w83 (N := N) (x2 := t (tkF t n i) - 97) hB hC hA k0 hy
    rw [s97] at z
    exact z
  refine pt_if (fun q2 => absurd q2 (by rw [Int32.lt_iff_toInt_lt, s97]; simp only [Int32.reduceToInt]; unfold isLt at lt; omega)) (fun _ => pt_gI ?_)
  refine pt_if (fun q2 => go 0 (Or.inr ⟨rfl, fun w => ?_⟩)) (fun q2 => pt_if (fun q3 => go 0 (Or.inr ⟨rfl, fun w => ?_⟩)) (fun q3 => go 1 (Or.inl ⟨rfl, hk, l1, ?_⟩)))
  · rw [Int32.le_iff_toInt_le, s97] at q2
    have := w.2.2
    omega
  · rw [Int32.le_iff_toInt_le, s97] at q3
    simp only [Int32.reduceToInt] at q3
    have := w.2.2
    omega
  · rw [Int32.le_iff_toInt_le, s97] at q2
    omega
theorem vl_addEdge {x1 x2 : Int32} (hB : B = 2 ∨ B = 28) (hR : RF σ.2.2) (h2 : 0 ≤ (σ.1 B 2).toInt ∧ (σ.1 B 2).toInt < 10) : Pt (f_X10_addEdge N B x1 x2 σ) (fun r => r.2.2.2 = σ.2.2 ∧ r.2.1 B = upd (σ.1 B) 2 (σ.1 B 2 + 1) ∧ r.2.1 (B + 1) = upd (σ.1 (B + 1)) (σ.1 B 2).toInt.toNat x1 ∧ r.2.1 (B + 2) = upd (σ.1 (B + 2)) (σ.1 B 2).toInt.toNat x2 ∧ ∀ k, (k < B ∨ B + 2 < k) → r.2.1 k = σ.1 k) := by
  have r := rB hB hR
  rw [f_X10_addEdge.eq_1]
  refine pt_gI (pt_if (fun q => absurd q (by rw [Int32.lt_iff_toInt_lt]; simp only [Int32.reduceToInt]; omega)) (fun _ => pt_gI (pt_if (fun q => absurd q (by rw [Int32.le_iff_toInt_le]; simp only [Int32.reduceToInt]; omega)) (fun _ => ?_))))
  refine pt_gR (v := B + 1) r.1 (pt_gI (pt_s14 ?_))
  refine pt_gR (v := B + 2) r.2.1 (pt_gI (pt_s14 (pt_gI (pt_pI (pt_some ⟨rfl, ?_, ?_, ?_, fun k hk => ?_⟩)))))
  · rw [zI_s, zI_n (by omega), zI_n (by omega)]
  · rw [zI_n (by omega), zI_n (by omega), zI_s]
  · rw [zI_n (by omega), zI_s, zI_n (by omega), zI_n (by omega)]
  · rw [zI_n (by omega), zI_n (by omega), zI_n (by omega)]
/-- two unlike ends: the class's reading -/
def EQs (t : Nat → Int32) (n c B i : Nat) (σ : zS) (r : Int32 × zS) : Prop := (r.1 = 1 ∧ edOK t n i ∧ (CB r.2 t n c ∧ CA (r.2.1 57 9) t n c (tkE t n (tkE t n i))) ∧ (r.2.1 57 7 = σ.1 57 7 ∧ r.2.1 57 8 = σ.1 57 8) ∧ (r.2.1 B = upd (σ.1 B) 2 (σ.1 B 2 + 1) ∧ r.2.1 (B + 1) = upd (σ.1 (B + 1)) (σ.1 B 2).toInt.toNat (nvI t n i) ∧ r.2.1 (B + 2) = upd (σ.1 (B + 2)) (σ.1 B 2).toInt.toNat (nvI t n (tkE t n i))) ∧ r.2.1 (B + 3) = σ.1 (B + 3) ∧ r.2.1 (B + 4) = σ.1 (B + 4)) ∨ (r.1 = 0 ∧ ¬ edOK t n i)
theorem vl_e49 {x2 : Int32} {σ0 : zS} (hB : B = 2 ∨ B = 28) (hC : CB σ t n c) (hA : CA (σ.1 57 9) t n c (tkE t n i)) (h2 : 0 ≤ (σ0.1 B 2).toInt ∧ (σ0.1 B 2).toInt < 10) (f0 : F8 σ0 σ) (hx : x2 = nvI t n i) (h1 : nOK t n i 0 7) (hd : ¬ (tkK t n (tkE t n i) = 2 ∧ nv5 t n (tkE t n i) = nv5 t n i)) : Pt (J_X5_readEdge_49 N 57 B x2 σ) (EQs t n c B i σ0) := by
  rw [J_X5_readEdge_49.eq_1]
  refine pt_gC (pt_zb (pt_ok (xs_passNumber hC hA (by decide))) (fun v σ1 h => ?_))
  obtain ⟨f1, h⟩ := h
  have f1 : F8 σ σ1 := f1
  refine pt_if (fun q => ?_) (fun q => ?_)
  · have h := h.resolve_left (fun z => absurd (z.1.symm.trans q) (by decide))
    exact pt_rZ (Or.inr ⟨rfl, fun w => h.2 w.2.2⟩)
  · obtain ⟨_, ⟨ok, A1⟩, p1, lv⟩ := h.resolve_right (fun z => q z.1)
    have A1 : CA (σ1.1 57 9) t n c (tkE t n (tkE t n i)) := A1
    have lv : (lastv σ1.1).toInt = nv5 t n (tkE t n i) := lv
    have C1 := CB_fr f1.1 hC
    have f := f0.tr f1
    have b0 : σ1.1 B = σ0.1 B := by have z := fB hB f.1.1 (a := 0) (by decide); rw [Nat.add_zero] at z; exact z
    refine pt_gC (pt_zbX (Q := fun v => v = lastv σ1.1) (pt_ok (xs_passed C1 A1 p1)) (fun v3 e3 => ?_))
    have e3 : v3 = nvI t n (tkE t n i) := e3.trans (nv_eq lv)
    refine pt_gC (pt_zb (vl_addEdge hB C1.1.1 (by rw [b0]; exact h2)) (fun _ σ2 h2' => pt_rZ (Or.inl ⟨rfl, ⟨h1, hd, ok⟩, ?_⟩)))
    obtain ⟨r2, o0, o1, o2, ok2⟩ := h2'
    have r2 : σ2.2.2 = σ1.2.2 := r2
    have o0 : σ2.1 B = upd (σ1.1 B) 2 (σ1.1 B 2 + 1) := o0
    have o1 : σ2.1 (B + 1) = upd (σ1.1 (B + 1)) (σ1.1 B 2).toInt.toNat x2 := o1
    have o2 : σ2.1 (B + 2) = upd (σ1.1 (B + 2)) (σ1.1 B 2).toInt.toNat v3 := o2
    have ok2 : ∀ k, (k < B ∨ B + 2 < k) → σ2.1 k = σ1.1 k := ok2
    refine ⟨⟨CB_x C1 r2 (fun k hk => ok2 k (by omega)) (by rw [ok2 57 (by omega)]), ?_⟩, ⟨?_, ?_⟩, ⟨?_, ?_, ?_⟩, ?_, ?_⟩
    · show CA (σ2.1 57 9) t n c _
      rw [ok2 57 (by omega)]; exact A1
    · show σ2.1 57 7 = _
      rw [ok2 57 (by omega)]; exact f.1.2.2
    · show σ2.1 57 8 = _
      rw [ok2 57 (by omega)]; exact f.2
    · show σ2.1 B = _
      rw [o0, b0]
    · show σ2.1 (B + 1) = _
      rw [o1, b0, fB hB f.1.1 (by decide), hx]
    · show σ2.1 (B + 2) = _
      rw [o2, b0, fB hB f.1.1 (by decide), e3]
    · show σ2.1 (B + 3) = _
      rw [ok2 _ (by omega), fB hB f.1.1 (by decide)]
    · show σ2.1 (B + 4) = _
      rw [ok2 _ (by omega), fB hB f.1.1 (by decide)]
theorem vl_edge (hB : B = 2 ∨ B = 28) (hC : CB σ t n c) (hA : CA (σ.1 57 9) t n c i) (h2 : 0 ≤ (σ.1 B 2).toInt ∧ (σ.1 B 2).toInt < 10) : Pt (f_X5_readEdge N 57 B σ) (EQs t n c B i σ) := by
  rw [f_X5_readEdge.eq_1]
  refine pt_gC (pt_zb (pt_ok (xs_passNumber hC hA (by decide))) (fun v σ1 h => ?_))
  obtain ⟨f1, h⟩ := h
  have f1 : F8 σ σ1 := f1
  refine pt_if (fun q => ?_) (fun q => ?_)
  · have h := h.resolve_left (fun z => absurd (z.1.symm.trans q) (by decide))
    exact pt_rZ (Or.inr ⟨rfl, fun w => h.2 w.1⟩)
  · obtain ⟨_, ⟨ok, A1⟩, p1, lv⟩ := h.resolve_right (fun z => q z.1)
    have A1 : CA (σ1.1 57 9) t n c (tkE t n i) := A1
    have lv : (lastv σ1.1).toInt = nv5 t n i := lv
    have C1 := CB_fr f1.1 hC
    have row := CA_row C1.2.1 A1
    refine pt_gC (pt_zbX (Q := fun v => v = lastv σ1.1) (pt_ok (xs_passed C1 A1 p1)) (fun v3 e3 => ?_))
    have l3 : v3.toInt = nv5 t n i := by rw [e3]; exact lv
    have e3 : v3 = nvI t n i := nv_eq l3
    have b3 := ok.2
    simp only [Int32.reduceToInt] at b3
    refine pt_gR (v := 61) (C1.1.1 57 10 rfl) (pt_gI (pt_aI ?_))
    have e1 : σ1.1 61 (σ1.1 57 9).toInt.toNat = ck (tkK t n (tkE t n i)) := row.1.1
    rw [e1]
    refine pt_if (fun k => ?_) (fun k => vl_e49 hB C1 A1 h2 f1 e3 ok (fun w => k (ck_n.mpr w.1)))
    have k2 := ck_n.mp k
    refine pt_gR (v := 62) (C1.1.1 57 11 rfl) (pt_gI (pt_aI ?_))
    have v2 : (σ1.1 62 (σ1.1 57 9).toInt.toNat).toInt = min 1000000 (Nv t n (tkF t n (tkE t n i)) 0 : Int) := row.2.1 k2
    have iff : σ1.1 62 (σ1.1 57 9).toInt.toNat = v3 ↔ nv5 t n (tkE t n i) = nv5 t n i := by
      rw [← Int32.toInt_inj, v2, l3]
      unfold nv5
      omega
    refine pt_if (fun e => ?_) (fun e => vl_e49 hB C1 A1 h2 f1 e3 ok (fun w => e (iff.mpr w.2)))
    exact pt_gC (pt_zb (pt_ok (xs_fail C1 A1)) (fun v σ2 h2' => pt_rZ (Or.inr ⟨h2'.1, fun w => w.2.1 ⟨k2, iff.mp e⟩⟩)))
end CLINE
end Zq13_5
section Zq13_6
section MONO
variable {t : Nat → Int32} {n : Nat} {m : Int32}
theorem famF_ge : ∀ {f i j : Nat}, i ≤ n → famF t n m f i = some j → i ≤ j
  | 0, i, j, _, h => by cases h
  | f + 1, i, j, hi, h => by
    have h : (if mOK t n i m then (if tkK t n (tkE t n i) = 44 then famF t n m f (tkE t n (tkE t n i)) else if tkK t n (tkE t n i) = 125 then some (tkE t n (tkE t n i)) else none) else none) = some j := h
    have a := tk_le (t := t) hi
    have b := tk_le (t := t) a.2.2
    split at h
    · split at h
      · have := famF_ge b.2.2 h; omega
      · split at h
        · rw [← Option.some.inj h]; omega
        · cases h
    · cases h
theorem fam_ge {i j : Nat} (hi : i ≤ n) (h : fam t n m i = some j) : i ≤ j := by
  have a := tk_le (t := t) hi
  have b := tk_le (t := t) a.2.2
  unfold fam at h
  split at h
  · rw [← Option.some.inj h]; omega
  · have := famF_ge a.2.2 h; omega
theorem stp_ge {a b : Cf} (hi : a.1 ≤ n) (h : stp t n m a = some (some b)) : a.1 ≤ b.1 ∧ b.1 ≤ n := by
  have q := tk_le (t := t) hi
  obtain ⟨i, w, L, sg⟩ := a
  have q : (i ≤ tkF t n i ∧ tkF t n i ≤ n) ∧ tkF t n i ≤ tkE t n i ∧ tkE t n i ≤ n := q
  have e : ∀ {x : Nat × Bool × List Bool × Nat}, (some (some x) : Option (Option Cf)) = some (some b) → x = b := fun z => Option.some.inj (Option.some.inj z)
  cases w with
  | false =>
    by_cases px : isPx t n i ∨ tkK t n i = 40
    · rw [stp_o px] at h
      split at h
      · cases h
      · rw [← e h]; show i ≤ tkE t n i ∧ tkE t n i ≤ n; omega
    · by_cases k2 : tkK t n i = 2
      · rw [stp_n px k2] at h
        split at h
        · rw [← e h]; show i ≤ tkE t n i ∧ tkE t n i ≤ n; omega
        · cases h
      · by_cases k3 : tkK t n i = 123
        · rw [stp_f px k3] at h
          obtain ⟨j, fj, z⟩ := Option.map_eq_some_iff.mp h
          rw [← Option.some.inj z]
          exact ⟨fam_ge hi fj, fam_le hi fj⟩
        · by_cases k4 : isW t n i 15
          · rw [stp_a px k4] at h
            rw [← e h]; show i ≤ tkE t n i ∧ tkE t n i ≤ n; omega
          · rw [stp_z px k2 k3 k4] at h; cases h
  | true =>
    by_cases cb : isCb (tkK t n i)
    · rw [stp_c cb] at h
      split at h
      · cases h
      · rw [← e h]; show i ≤ tkE t n i ∧ tkE t n i ≤ n; omega
    · by_cases k : tkK t n i = 41 ∧ true ∈ L
      · rw [stp_p cb k] at h
        rw [← e h]; show i ≤ tkE t n i ∧ tkE t n i ≤ n; omega
      · rw [stp_e cb k] at h; cases h
theorem itk_ge : ∀ {k : Nat} {a b : Cf}, a.1 ≤ n → itk t n m k a = some b → a.1 ≤ b.1 ∧ b.1 ≤ n
  | 0, a, b, hi, h => by
    have : a = b := Option.some.inj h
    rw [← this]; omega
  | k + 1, a, b, hi, h => by
    have h : (stp t n m a).bind (fun o => o.bind (fun c1 => itk t n m k c1)) = some b := h
    obtain ⟨o, ho, h⟩ := Option.bind_eq_some_iff.mp h
    obtain ⟨c1, hc, h⟩ := Option.bind_eq_some_iff.mp h
    rw [hc] at ho
    have x := stp_ge hi ho
    have y := itk_ge x.2 h
    omega
theorem sumR_ge {i sg : Nat} {p : Nat × Nat} (hi : i ≤ n) (h : sumR t n m i sg = some p) : i ≤ p.1 ∧ p.1 ≤ n := by
  unfold sumR at h
  split at h
  · rename_i e
    have q := Classical.choose_spec e
    rw [← Option.some.inj h]
    obtain ⟨k, hk⟩ := q.1
    exact itk_ge (a := (i, false, [], sg)) hi hk
  · cases h
theorem letR_ge {i sg : Nat} {p : Nat × Nat} (hi : i ≤ n) (h : letR t n m i sg = some p) : i ≤ p.1 ∧ p.1 ≤ n := by
  have a := tk_le (t := t) hi
  have b := tk_le (t := t) a.2.2
  unfold letR at h
  split at h
  · have := sumR_ge b.2.2 h; omega
  · cases h
theorem bdR_ge {i j sg sg' : Nat} {g g' : Nat → Int32} (hi : i ≤ n) (h : bdR t n i g sg = some (j, g', sg')) : i ≤ j ∧ j ≤ n := by
  have a := tk_le (t := t) hi
  have b := tk_le (t := t) a.2.2
  have d := tk_le (t := t) b.2.2
  unfold bdR at h
  split at h
  · by_cases q : isW t n i 11 ∧ nOK t n (tkE t n i) 1 10
    · rw [nmR_t q] at h; obtain ⟨e, -⟩ := some3 h; omega
    · rw [nmR_f q] at h; cases h
  · by_cases q1 : isW t n i 12
    · rw [lnR_w q1] at h
      by_cases q : nmOK t n (tkE t n i) (g 0) ∧ nOK t n (tkE t n (tkE t n i)) 0 99
      · rw [wtR_t q] at h; obtain ⟨e, -⟩ := some3 h; omega
      · rw [wtR_f q] at h; cases h
    · by_cases q2 : isW t n i 13
      · by_cases q3 : g 2 = g 0
        · rw [lnR_m q1 q2 q3] at h; cases h
        · rw [lnR_e q1 q2 q3] at h
          by_cases q : edOK t n (tkE t n i)
          · rw [edR_t q] at h; obtain ⟨e, -⟩ := some3 h; omega
          · rw [edR_f q] at h; cases h
      · by_cases q3 : isW t n i 14
        · rw [lnR_l q1 q2 q3] at h
          obtain ⟨p, hp, e⟩ := Option.map_eq_some_iff.mp h
          have := letR_ge a.2.2 hp
          have e : p.1 = j := congrArg Prod.fst e
          omega
        · rw [lnR_z q1 q2 q3] at h; cases h
end MONO
section CLINE2
variable {N : Nat} {σ τ : zS} {t : Nat → Int32} {n c i B : Nat} {g : Nat → Int32} {sg : Nat}
theorem vl_92 {x2 : Int32} (hN : 1048576 ≤ N) (hB : B = 2 ∨ B = 28) (hC : CB σ t n c) (hA : CA (σ.1 57 9) t n c i) (h7 : σ.1 57 7 = g 0) (h8 : (σ.1 57 8).toInt = (sg : Int) ∧ sg ≤ 24) (hW : WP σ.1 B g) (hL : LI g) (hk : tkK t n i = 1) (hx : x2 = wv t n i) (hx4 : 1 ≤ x2.toInt ∧ x2.toInt ≤ 4) (hf : g 1 = 0 ↔ x2 = 1) (he : x2 = 3 → ¬ g 2 = g 0) : Pt (J_X5_readLine_92 N 57 B x2 σ) (LQ t n c B (bdR t n i g sg)) := by
  have w1 : x2 = 1 ↔ isW t n i 11 := by rw [hx]; exact wv_iff (w := 0) (by decide)
  have w2 : x2 = 2 ↔ isW t n i 12 := by rw [hx]; exact wv_iff (w := 1) (by decide)
  have w3 : x2 = 3 ↔ isW t n i 13 := by rw [hx]; exact wv_iff (w := 2) (by decide)
  have w4 : x2 = 4 ↔ isW t n i 14 := by rw [hx]; exact wv_iff (w := 3) (by decide)
  rw [J_X5_readLine_92.eq_1]
  refine pt_gC (pt_zb (pt_ok (xs_pass hC hA (by decide))) (fun v σ1 h1 => ?_))
  obtain ⟨f1, h1⟩ := h1
  have f1 : F8 σ σ1 := f1
  have h1 := h1.resolve_right (fun z => z.2 (ck_w.mpr hk))
  have A1 : CA (σ1.1 57 9) t n c (tkE t n i) := h1.2.2
  have C1 := CB_fr f1.1 hC
  have eB : ∀ a, a ≤ 4 → σ1.1 (B + a) = σ.1 (B + a) := fun a ha => fB hB f1.1.1 ha
  have eB0 : σ1.1 B = σ.1 B := by have z := eB 0 (by decide); rw [Nat.add_zero] at z; exact z
  refine pt_gR (v := 62) (C1.1.1 57 11 rfl) (pt_gI (pt_aI ?_))
  refine pt_if (fun q1 => ?_) (fun q1 => ?_)
  · have g1 := hf.mpr q1
    have eb : bdR t n i g sg = nmR t n i g sg := if_pos g1
    rw [eb]
    refine pt_gC (pt_zb (vl_names hB C1 A1) (fun v2 σ2 h2 => vl_211 hB ?_))
    rcases h2 with ⟨v1, ok, ⟨C2, A2⟩, ⟨e7, e8⟩, o0, oa⟩ | ⟨v0, no⟩
    · have e7 : σ2.1 57 7 = nvI t n (tkE t n i) := e7
      have e8 : σ2.1 57 8 = σ1.1 57 8 := e8
      have o0 : σ2.1 B = upd (σ1.1 B) 0 (nvI t n (tkE t n i)) := o0
      have oa : ∀ a, 1 ≤ a → a ≤ 4 → σ2.1 (B + a) = σ1.1 (B + a) := oa
      refine Or.inl ⟨v1, _, _, _, nmR_t ⟨w1.mp q1, ok⟩, ⟨C2, A2⟩, ⟨e7, by rw [e8, f1.2]; exact h8.1, h8.2⟩, ⟨?_, ?_, ?_⟩, fun j hj => ?_, fun j hj => ?_⟩
      · rw [o0, upd_s]; rfl
      · rw [o0, upd_n (by decide), eB0]; exact hW.1.2.1
      · rw [o0, upd_n (by decide), eB0]; exact hW.1.2.2
      · rw [oa 3 (by decide) (by decide), oa 4 (by decide) (by decide), eB 3 (by decide), eB 4 (by decide)]
        have z := hW.2.1 g1 j hj
        rw [z.1, z.2]
        unfold nmRow
        rw [if_neg (by omega), if_pos (by omega), if_neg (by omega), if_neg (by omega), if_pos (by omega), show 33 + j - 33 = j by omega]
        exact ⟨rfl, rfl⟩
      · have z := (hL.2.1 g1).2
        have hj : j < (g 2).toInt.toNat := hj
        omega
    · exact Or.inr ⟨v0, nmR_f (fun w => no w.2)⟩
  · have g1 : ¬ g 1 = 0 := fun z => q1 (hf.mp z)
    have eb : bdR t n i g sg = lnR t n i g sg := if_neg g1
    have W := WB_e eB (hW.2.2 g1)
    rw [eb]
    refine pt_if (fun q2 => ?_) (fun q2 => ?_)
    · rw [lnR_w (w2.mp q2)]
      refine pt_gC (pt_zb (vl_weight (m := g 0) hB C1 A1 (f1.1.2.2.trans h7) hL.1.1.1.2) (fun v2 σ2 h2 => vl_211 hB ?_))
      rcases h2 with ⟨v1, ok, ⟨C2, A2⟩, ⟨e7, e8⟩, o3, oa⟩ | ⟨v0, no⟩
      · have e7 : σ2.1 57 7 = σ1.1 57 7 := e7
        have e8 : σ2.1 57 8 = σ1.1 57 8 := e8
        have o3 : σ2.1 (B + 3) = upd (σ1.1 (B + 3)) ((t (tkF t n (tkE t n i))).toInt - 97).toNat (nvI t n (tkE t n (tkE t n i))) := o3
        have oa : ∀ a, a ≠ 3 → a ≤ 4 → σ2.1 (B + a) = σ1.1 (B + a) := oa
        have o0 : σ2.1 B = σ1.1 B := by have z := oa 0 (by decide) (by decide); rw [Nat.add_zero] at z; exact z
        have b9 : ((t (tkF t n (tkE t n i))).toInt - 97).toNat ≤ 9 := by have := ok.1.2.2; have := hL.1.1.1.2; omega
        refine Or.inl ⟨v1, _, _, _, wtR_t ok, ⟨C2, A2⟩, ⟨?_, by rw [e8, f1.2]; exact h8.1, h8.2⟩, ?_⟩
        · rw [e7, f1.1.2.2, h7, upd_n (by omega)]
        · generalize ((t (tkF t n (tkE t n i))).toInt - 97).toNat = k at *
          generalize nvI t n (tkE t n (tkE t n i)) = w at *
          have o : ∀ a, (a < 3 ∨ 13 ≤ a) → upd g (3 + k) w a = g a := fun a ha => upd_n (by omega)
          refine ⟨?_, fun j hj => ⟨?_, ?_⟩, fun j hj => ?_⟩
          · rw [o0, o 0 (by omega), o 1 (by omega), o 2 (by omega)]; exact W.1
          · rw [o3, upd_i, upd_i]
            by_cases y : j = k
            · rw [if_pos y, if_pos (by omega)]
            · rw [if_neg y, if_neg (by omega)]; exact (W.2.1 j hj).1
          · rw [oa 4 (by decide) (by decide), o _ (by omega)]; exact (W.2.1 j hj).2
          · rw [o 2 (by omega)] at hj
            rw [oa 1 (by decide) (by decide), oa 2 (by decide) (by decide), o _ (by omega), o _ (by omega)]; exact W.2.2 j hj
      · exact Or.inr ⟨v0, wtR_f no⟩
    · have n12 : ¬ isW t n i 12 := fun z => q2 (w2.mpr z)
      refine pt_if (fun q3 => ?_) (fun q3 => ?_)
      · have e20 := he q3
        rw [lnR_e n12 (w3.mp q3) e20]
        have hb := hL.1.1
        have lt : (g 2).toInt < (g 0).toInt := by
          have : (g 2).toInt ≠ (g 0).toInt := fun z => e20 (Int32.toInt_inj.mp z)
          omega
        have b2 : σ1.1 B 2 = g 2 := W.1.2.2
        refine pt_gC (pt_zb (vl_edge hB C1 A1 (by rw [b2]; omega)) (fun v2 σ2 h2 => vl_211 hB ?_))
        rcases h2 with ⟨v1, ok, ⟨C2, A2⟩, ⟨e7, e8⟩, ⟨o0, o1, o2⟩, o3, o4⟩ | ⟨v0, no⟩
        · have e7 : σ2.1 57 7 = σ1.1 57 7 := e7
          have e8 : σ2.1 57 8 = σ1.1 57 8 := e8
          have o0 : σ2.1 B = upd (σ1.1 B) 2 (σ1.1 B 2 + 1) := o0
          have o1 : σ2.1 (B + 1) = upd (σ1.1 (B + 1)) (σ1.1 B 2).toInt.toNat (nvI t n (tkE t n i)) := o1
          have o2 : σ2.1 (B + 2) = upd (σ1.1 (B + 2)) (σ1.1 B 2).toInt.toNat (nvI t n (tkE t n (tkE t n i))) := o2
          have o3 : σ2.1 (B + 3) = σ1.1 (B + 3) := o3
          have o4 : σ2.1 (B + 4) = σ1.1 (B + 4) := o4
          rw [b2] at o0 o1 o2
          refine Or.inl ⟨v1, _, _, _, edR_t ok, ⟨C2, A2⟩, ⟨?_, by rw [e8, f1.2]; exact h8.1, h8.2⟩, ?_⟩
          · rw [e7, f1.1.2.2, h7]
            unfold edRow
            rw [upd_n (by decide), upd_n (by omega), upd_n (by omega)]
          · generalize nvI t n (tkE t n i) = v at *
            generalize nvI t n (tkE t n (tkE t n i)) = w at *
            obtain ⟨k, hkm⟩ : ∃ k, k = (g 2).toInt.toNat := ⟨_, rfl⟩
            have hk9 : k ≤ 9 := by omega
            have s2 : (g 2 + 1).toInt = (g 2).toInt + 1 := a1_ ⟨by omega, by omega⟩
            have eg : ∀ a, edRow g v w a = if a = 2 then g 2 + 1 else if a = 23 + k then w else if a = 13 + k then v else g a := fun a => by rw [hkm]; rfl
            rw [← hkm] at o1 o2
            have o : ∀ a, a ≠ 2 → a ≠ 23 + k → a ≠ 13 + k → edRow g v w a = g a := fun a x y z => by rw [eg, if_neg x, if_neg y, if_neg z]
            refine ⟨⟨?_, ?_, ?_⟩, fun j hj => ⟨?_, ?_⟩, fun j hj => ⟨?_, ?_⟩⟩
            · rw [o0, upd_n (by decide), o 0 (by omega) (by omega) (by omega)]; exact W.1.1
            · rw [o0, upd_n (by decide), o 1 (by omega) (by omega) (by omega)]; exact W.1.2.1
            · rw [o0, upd_s, eg, if_pos rfl]
            · rw [o3, o _ (by omega) (by omega) (by omega)]; exact (W.2.1 j hj).1
            · rw [o4, o _ (by omega) (by omega) (by omega)]; exact (W.2.1 j hj).2
            · rw [eg 2, if_pos rfl, s2] at hj
              rw [o1, upd_i]
              by_cases y : j = k
              · rw [if_pos y, eg, if_neg (by omega), if_neg (by omega), if_pos (by omega)]
              · rw [if_neg y, o _ (by omega) (by omega) (by omega)]; exact (W.2.2 j (by omega)).1
            · rw [eg 2, if_pos rfl, s2] at hj
              rw [o2, upd_i]
              by_cases y : j = k
              · rw [if_pos y, eg, if_neg (by omega), if_pos (by omega)]
              · rw [if_neg y, o _ (by omega) (by omega) (by omega)]; exact (W.2.2 j (by omega)).2
        · exact Or.inr ⟨v0, edR_f no⟩
      · have n13 : ¬ isW t n i 13 := fun z => q3 (w3.mpr z)
        have x4 : x2 = 4 := by
          apply Int32.toInt_inj.mp
          have a1 : x2.toInt ≠ 1 := fun z => q1 (Int32.toInt_inj.mp z)
          have a2 : x2.toInt ≠ 2 := fun z => q2 (Int32.toInt_inj.mp z)
          have a3 : x2.toInt ≠ 3 := fun z => q3 (Int32.toInt_inj.mp z)
          simp only [Int32.reduceToInt]
          omega
        rw [lnR_l n12 n13 (w4.mp x4)]
        refine pt_gC (pt_zb (pt_ok (xs_passNumber C1 A1 (by decide))) (fun v2 σ2 h2 => ?_))
        obtain ⟨f2, h2⟩ := h2
        have f2 : F8 σ1 σ2 := f2
        refine pt_if (fun q => ?_) (fun q => ?_)
        · have h2 := h2.resolve_left (fun z => absurd (z.1.symm.trans q) (by decide))
          refine vl_211 hB (Or.inr ⟨rfl, ?_⟩)
          have : letR t n (g 0) (tkE t n i) sg = none := if_neg (fun w => h2.2 w.1)
          rw [this]; rfl
        obtain ⟨_, ⟨ok, A2⟩, p2, lv⟩ := h2.resolve_right (fun z => q z.1)
        have A2 : CA (σ2.1 57 9) t n c (tkE t n (tkE t n i)) := A2
        have F2 := f1.tr f2
        have C2 := CB_fr F2.1 hC
        refine pt_gC (pt_zb (pt_ok (xs_pass C2 A2 (by decide))) (fun v3 σ3 h3 => ?_))
        obtain ⟨f3, h3⟩ := h3
        have f3 : F8 σ2 σ3 := f3
        refine pt_if (fun q => ?_) (fun q => ?_)
        · have h3 := h3.resolve_left (fun z => absurd (z.1.symm.trans q) (by decide))
          refine vl_211 hB (Or.inr ⟨rfl, ?_⟩)
          have : letR t n (g 0) (tkE t n i) sg = none := if_neg (fun w => h3.2 ((ck_s (by decide)).mpr w.2))
          rw [this]; rfl
        have h3 := h3.resolve_right (fun z => q z.1)
        have A3 : CA (σ3.1 57 9) t n c (tkE t n (tkE t n (tkE t n i))) := h3.2.2
        have k61 := (ck_s (by decide)).mp h3.2.1
        have F3 := F2.tr f3
        have C3 := CB_fr F3.1 hC
        have el : letR t n (g 0) (tkE t n i) sg = sumR t n (g 0) (tkE t n (tkE t n (tkE t n i))) sg := if_pos ⟨ok, k61⟩
        rw [el]
        have PHs : PH t n c (g 0) (tkE t n (tkE t n (tkE t n i))) [] sg 0 σ3 := ⟨⟨C3, A3, F3.1.2.2.trans h7⟩, ⟨by rw [F3.2]; exact h8.1, h8.2⟩, rfl, by decide⟩
        refine pt_gC (pt_zb (pt_ok ((csum_all hN 24).1 _ [] sg 0 σ3 PHs rfl (by decide))) (fun v4 σ4 h4 => ?_))
        obtain ⟨f4, h4⟩ := h4
        have f4 : Fr σ3 σ4 := f4
        have F4 := F3.1.tr f4
        refine pt_if (fun q => ?_) (fun q => ?_)
        · have h4 := h4.resolve_left (fun z => absurd (z.1.symm.trans q) (by decide))
          obtain ⟨e, rc, z⟩ := h4.2
          refine vl_211 hB (Or.inr ⟨rfl, ?_⟩)
          rw [sumR_n rc z]; rfl
        obtain ⟨_, j, s1, ⟨⟨rc, le⟩, ncb⟩, A4, e8, l24⟩ := h4.resolve_right (fun z => q z.1)
        have A4 : CA (σ4.1 57 9) t n c j := A4
        have e8 : (σ4.1 57 8).toInt = (s1 : Int) := e8
        have C4 := CB_fr F4 hC
        have es : sumR t n (g 0) (tkE t n (tkE t n (tkE t n i))) sg = some (j, s1) := sumR_s (c := (j, true, [], s1)) ⟨rc, stp_e ncb (fun z => absurd z.2 List.not_mem_nil), List.not_mem_nil⟩
        refine pt_gC (pt_zb (pt_ok (xs_emit C4)) (fun v5 σ5 h5 => ?_))
        have v51 : v5 = 1 := h5.1
        have f5 : F9 σ4 σ5 := h5.2
        refine pt_if (fun q => absurd (v51.symm.trans q) (by decide)) (fun _ => ?_)
        have F5 := F4.tr f5.1.1
        refine vl_211 hB (Or.inl ⟨rfl, j, g, s1, by rw [es]; rfl, ⟨CB_fr F5 hC, by rw [f5.2]; exact A4⟩, ⟨F5.2.2.trans h7, by rw [f5.1.2]; exact e8, l24⟩, ?_⟩)
        exact WB_e (fun a ha => fB hB F5.1 ha) (hW.2.2 g1)
theorem vl_51 {x2 y0 y1 : Int32} (hN : 1048576 ≤ N) (hB : B = 2 ∨ B = 28) (hC : CB σ t n c) (hA : CA (σ.1 57 9) t n c i) (h7 : σ.1 57 7 = g 0) (h8 : (σ.1 57 8).toInt = (sg : Int) ∧ sg ≤ 24) (hW : WP σ.1 B g) (hL : LI g) (hx : (tkK t n i = 1 ∧ x2 = wv t n i) ∨ (¬ tkK t n i = 1 ∧ x2 = -1)) (hy0 : (x2 = 1 ∧ y0 = 1) ∨ (¬ x2 = 1 ∧ y0 = 0)) (hy1 : (g 1 = 0 ∧ y1 = 1) ∨ (¬ g 1 = 0 ∧ y1 = 0)) : Pt (J_X5_readLine_51 N 57 B x2 y0 y1 σ) (LQ t n c B (bdR t n i g sg)) := by
  have wn : ∀ w, w < 11 → isW t n i (w + 11) → x2 = cod.getD w 0 := fun w hw z => by
    rcases hx with h | h
    · rw [h.2]; exact (wv_iff hw).mpr z
    · exact absurd z.1 h.1
  have bad : ∀ x1 : Int32, bdR t n i g sg = none → Pt (zl (gC 5 57) fun _ => zb (f_X5_fail N 57 x1 σ) fun v8 σ9 => rZ v8 σ9) (LQ t n c B (bdR t n i g sg)) := fun x1 z =>
    pt_gC (pt_zb (pt_ok (xs_fail hC hA)) (fun v σ1 h1 => pt_rZ (Or.inr ⟨h1.1, Or.inl z⟩)))
  have out : (x2.toInt < 1 ∨ 4 < x2.toInt) → bdR t n i g sg = none := fun z => by
    unfold bdR
    split
    · exact nmR_f (fun w => by rw [wn 0 (by decide) w.1] at z; exact absurd z (by decide))
    · exact lnR_z (fun w => by rw [wn 1 (by decide) w] at z; exact absurd z (by decide)) (fun w => by rw [wn 2 (by decide) w] at z; exact absurd z (by decide)) (fun w => by rw [wn 3 (by decide) w] at z; exact absurd z (by decide))
  rw [J_X5_readLine_51.eq_1]
  refine pt_if (fun q => ?_) (fun q => bad 1 ?_)
  · have hf : g 1 = 0 ↔ x2 = 1 := by
      rcases hy0 with ⟨a, rfl⟩ | ⟨a, rfl⟩
      · rcases hy1 with ⟨b, rfl⟩ | ⟨b, rfl⟩
        · exact ⟨fun _ => a, fun _ => b⟩
        · exact absurd q (by decide)
      · rcases hy1 with ⟨b, rfl⟩ | ⟨b, rfl⟩
        · exact absurd q (by decide)
        · exact ⟨fun z => absurd z b, fun z => absurd z a⟩
    refine pt_if (fun q1 => bad 1 (out (Or.inl ?_))) (fun q1 => pt_if (fun q4 => ?_) (fun q4 => bad 1 (out (Or.inr ?_))))
    · rw [Int32.lt_iff_toInt_lt] at q1; simpa using q1
    · rw [Int32.lt_iff_toInt_lt] at q1
      rw [Int32.le_iff_toInt_le] at q4
      simp only [Int32.reduceToInt] at q1 q4
      have hx := hx.resolve_right (fun z => by rw [z.2] at q1; exact absurd q1 (by decide))
      refine pt_if (fun q3 => pt_gI (pt_gI (pt_if (fun l => ?_) (fun l => bad 3 ?_)))) (fun q3 => ?_)
      · refine vl_92 hN hB hC hA h7 h8 hW hL hx.1 hx.2 (by omega) hf (fun _ z => ?_)
        rw [hW.1.2.2, h7, z, Int32.lt_iff_toInt_lt] at l
        omega
      · rw [hW.1.2.2, h7, Int32.lt_iff_toInt_lt] at l
        have hb := hL.1.1
        have e20 : g 2 = g 0 := Int32.toInt_inj.mp (by omega)
        have n1 : ¬ g 1 = 0 := fun z => by rw [hf.mp z] at q3; exact absurd q3 (by decide)
        have w13 : isW t n i 13 := (wv_iff (w := 2) (by decide)).mp (hx.2.symm.trans q3)
        have : bdR t n i g sg = lnR t n i g sg := if_neg n1
        rw [this]
        exact lnR_m (fun z => absurd (isW_u (a := 1) (b := 2) (by decide) (by decide) z w13) (by decide)) w13 e20
      · exact vl_92 hN hB hC hA h7 h8 hW hL hx.1 hx.2 (by omega) hf (fun z => absurd z q3)
    · rw [Int32.le_iff_toInt_le] at q4; simp only [Int32.reduceToInt] at q4; omega
  · unfold bdR
    rcases hy0 with ⟨a, rfl⟩ | ⟨a, rfl⟩
    · rcases hy1 with ⟨b, rfl⟩ | ⟨b, rfl⟩
      · exact absurd rfl q
      · rw [if_neg b]
        refine lnR_z (fun w => ?_) (fun w => ?_) (fun w => ?_)
        · exact absurd (a.symm.trans (wn 1 (by decide) w)) (by decide)
        · exact absurd (a.symm.trans (wn 2 (by decide) w)) (by decide)
        · exact absurd (a.symm.trans (wn 3 (by decide) w)) (by decide)
    · rcases hy1 with ⟨b, rfl⟩ | ⟨b, rfl⟩
      · rw [if_pos b]
        exact nmR_f (fun w => a (wn 0 (by decide) w.1))
      · exact absurd rfl q
theorem vl_line (hN : 1048576 ≤ N) (hB : B = 2 ∨ B = 28) (hC : CB σ t n c) (hA : CA (σ.1 57 9) t n c i) (h7 : σ.1 57 7 = g 0) (h8 : (σ.1 57 8).toInt = (sg : Int) ∧ sg ≤ 24) (hW : WP σ.1 B g) (hL : LI g) : Pt (f_X5_readLine N 57 B σ) (LQ t n c B (bdR t n i g sg)) := by
  have row := CA_row hC.2.1 hA
  have e1 : σ.1 61 (σ.1 57 9).toInt.toNat = ck (tkK t n i) := row.1.1
  have go : ∀ x2 : Int32, ((tkK t n i = 1 ∧ x2 = wv t n i) ∨ (¬ tkK t n i = 1 ∧ x2 = -1)) → Pt (J_X5_readLine_26 N 57 B x2 σ) (LQ t n c B (bdR t n i g sg)) := fun x2 hx => by
    rw [J_X5_readLine_26.eq_1]
    refine pt_gI ?_
    rw [hW.1.2.1]
    have go2 : ∀ y1 : Int32, ((g 1 = 0 ∧ y1 = 1) ∨ (¬ g 1 = 0 ∧ y1 = 0)) → Pt (J_X5_readLine_39 N 57 B x2 y1 σ) (LQ t n c B (bdR t n i g sg)) := fun y1 hy => by
      rw [J_X5_readLine_39.eq_1]
      exact pt_if (fun q => vl_51 hN hB hC hA h7 h8 hW hL hx (Or.inl ⟨q, rfl⟩) hy) (fun q => vl_51 hN hB hC hA h7 h8 hW hL hx (Or.inr ⟨q, rfl⟩) hy)
    exact pt_if (fun q => go2 1 (Or.inl ⟨q, rfl⟩)) (fun q => go2 0 (Or.inr ⟨q, rfl⟩))
  rw [f_X5_readLine.eq_1]
  refine pt_gR (v := 61) (hC.1.1 57 10 rfl) (pt_gI (pt_aI ?_))
  rw [e1]
  refine pt_if (fun q => ?_) (fun q => go (-1) (Or.inr ⟨fun z => q (ck_w.mpr z), rfl⟩))
  refine pt_gR (v := 62) (hC.1.1 57 11 rfl) (pt_gI (pt_aI ?_))
  exact go _ (Or.inl ⟨ck_w.mp q, row.2.2 (ck_w.mp q)⟩)
end CLINE2
end Zq13_6
section Zq13_7
section CWORLD
variable {N : Nat} {σ τ : zS} {t : Nat → Int32} {n c i B : Nat}
theorem pt_pR {β : Type} {P : β → Prop} {ci j k v : Nat} {f : zS → Option β} (h : ∀ τ : zS, τ.1 = σ.1 → τ.2.1 = σ.2.1 → τ.2.2 = va_up σ.2.2 k (va_up (σ.2.2 k) j v) → Pt (f τ) P) : Pt (zl (pR ci j k v σ) f) P := fun a e => by
  obtain ⟨w, h1, h2⟩ := zl_some e
  obtain ⟨_, rfl⟩ := zguard h1
  exact h (zR σ k (va_up (σ.2.2 k) j v)) rfl rfl rfl a h2
/-- what readWorld leaves behind -/
def CWQ (t : Nat → Int32) (n B : Nat) (G : Nat → Int32) (r : Int32 × zS) : Prop := (r.1 = 1 ∧ ∃ d, (Rc (stL t n) (0, G, 0) d ∧ stL t n d = some none) ∧ WP r.2.1 B d.2.1 ∧ LI d.2.1) ∨ (r.1 = 0 ∧ ∃ d, Rc (stL t n) (0, G, 0) d ∧ stL t n d = none)
theorem vl_open {x2 : Int32} (hN : 1048576 ≤ N) (hR : RF σ.2.2) (hx : x2.toInt = (n : Int) ∧ n ≤ 600) : Pt (f_X5_open N 57 1 x2 σ) (fun r => ∃ c, (CB r.2 (σ.1 1) n c ∧ CA (r.2.1 57 9) (σ.1 1) n c 0) ∧ (r.2.1 57 7 = 0 ∧ r.2.1 57 8 = 0) ∧ ∀ k, k < 57 → r.2.1 k = σ.1 k) := by
  rw [f_X5_open.eq_1]
  refine pt_pR (fun σ1 i1 _ q1 => ?_)
  have T1 : Tr [] σ σ1 := by
    refine ⟨⟨fun k j q => ?_, fun _ => ?_⟩, fun k _ => congrFun i1 k⟩
    · rw [q1]
      by_cases hk : k = 57
      · subst hk
        rw [va_up_self, va_up_ne _ _ (fun q2 => q ⟨rfl, q2⟩)]
      · rw [va_up_ne _ _ hk]
    · rw [q1, va_up_self, va_up_self]
  have X1 : σ1.2.2 57 5 = 1 := by rw [q1, va_up_self, va_up_self]
  have i1 : ∀ k, σ1.1 k = σ.1 k := fun k => T1.2 k List.not_mem_nil
  have R1 := hR.tr T1
  refine pt_aL ?_
  refine pt_pIx (fun τ1 a1 b1 c1 => pt_pIx (fun τ2 a2 b2 c2 => pt_pIx (fun τ3 a3 b3 c3 => pt_pIx (fun τ4 a4 b4 c4 => pt_pIx (fun τ5 a5 b5 c5 => pt_pIx (fun τ6 a6 b6 c6 => pt_pIx (fun τ7 a7 b7 c7 => pt_gC ?_)))))))
  have z6 : (zmax 0 (zmin x2 (zmin (Int32.ofNat (zKd 1).2) 600))).toInt = (n : Int) := by
    have e : (Int32.ofNat (zKd 1).2) = 600 := rfl
    rw [e, ti_zmax, ti_zmin, ti_zmin]
    simp only [Int32.reduceToInt]
    split <;> split <;> split <;> omega
  have e6 : (τ7.1 57 6).toInt = (n : Int) := by rw [a7, upd_n (by decide), a6, upd_n (by decide), a5, upd_n (by decide), a4, upd_n (by decide), a3, upd_n (by decide), a2, upd_n (by decide), a1, upd_s]; exact z6
  have e7 : τ7.1 57 7 = 0 := by rw [a7, upd_n (by decide), a6, upd_n (by decide), a5, upd_s]
  have e8 : τ7.1 57 8 = 0 := by rw [a7, upd_n (by decide), a6, upd_s]
  have e9 : τ7.1 57 9 = 0 := by rw [a7, upd_s]
  have ek : ∀ k, k ≠ 57 → τ7.1 k = σ.1 k := fun k hk => by rw [b7 k hk, b6 k hk, b5 k hk, b4 k hk, b3 k hk, b2 k hk, b1 k hk, i1]
  have eR : τ7.2 = σ1.2 := by rw [c7, c6, c5, c4, c3, c2, c1]
  clear a1 a2 a3 a4 a5 a6 a7 b1 b2 b3 b4 b5 b6 b7 c1 c2 c3 c4 c5 c6 c7
  have R7 : RF τ7.2.2 := by rw [eR]; exact R1
  have X7 : τ7.2.2 57 5 = 1 := by rw [eR]; exact X1
  refine pt_zb (pt_ok (xs_X5_split (T := σ.1 1) (n := n) hN R7 X7 e6 (ek 1 (by decide)) hx.2)) (fun _ σ9 h => pt_some ?_)
  obtain ⟨T9, c, hCT⟩ := h
  have T9 : Tr [61, 62, 63, 64] τ7 σ9 := T9
  have q57 : σ9.1 57 = τ7.1 57 := T9.2 57 (by decide)
  refine ⟨c, ⟨⟨⟨R7.tr T9, T9.1.2 X7⟩, hCT, ?_⟩, ?_⟩, ⟨?_, ?_⟩, fun k hk => ?_⟩
  · show (σ9.1 57 6).toInt = _
    rw [q57]; exact e6
  · show CA (σ9.1 57 9) (σ.1 1) n c 0
    rw [q57, e9]
    exact ⟨0, rfl, Nat.zero_le _, rfl⟩
  · show σ9.1 57 7 = 0
    rw [q57]; exact e7
  · show σ9.1 57 8 = 0
    rw [q57]; exact e8
  · show σ9.1 k = σ.1 k
    rw [T9.2 k (by simp only [List.mem_cons, List.not_mem_nil, or_false]; omega)]; exact ek k (by omega)
theorem vl_loop {G : Nat → Int32} (hN : 1048576 ≤ N) (hB : B = 2 ∨ B = 28) (hC : CB σ t n c) (hA : CA (σ.1 57 9) t n c 0) (h7 : σ.1 57 7 = 0 ∧ σ.1 57 8 = 0) (hG : ∀ j, j < 43 → G j = 0) (hW : WP σ.1 B G) : Pt (zlp (F_X5_readWorld_9 N 57 B) N (0, σ)) (CWQ t n B G) := by
  have h600 := hC.2.1.1.2.1
  refine pt_lp (fun s : Int32 × zS => 0 ≤ s.1.toInt ∧ ∃ i g sg, (Rc (stL t n) (0, G, 0) (i, g, sg) ∧ LI g) ∧ (CB s.2 t n c ∧ CA (s.2.1 57 9) t n c i) ∧ (s.2.1 57 7 = g 0 ∧ (s.2.1 57 8).toInt = (sg : Int) ∧ sg ≤ 24) ∧ WP s.2.1 B g ∧ g 1 = s.1 ∧ s.1.toInt ≤ (i : Int)) (fun again s hI ih => ?_) N _ ⟨(by decide : 0 ≤ (0 : Int32).toInt), 0, G, 0, ⟨Rc.rf, LI_0 hG⟩, ⟨hC, hA⟩, ⟨h7.1.trans (hG 0 (by decide)).symm, by show (σ.1 57 8).toInt = _; rw [h7.2]; rfl, by decide⟩, hW, hG 1 (by decide), Int.le_refl _⟩
  obtain ⟨x4, τ⟩ := s
  obtain ⟨h0, i, g, sg, ⟨rc, hL⟩, ⟨hC, hA⟩, ⟨h7, h8, h24⟩, hW, g1, hx⟩ := hI
  have h0 : 0 ≤ x4.toInt := h0
  have hC : CB τ t n c := hC
  have hA : CA (τ.1 57 9) t n c i := hA
  have h7 : τ.1 57 7 = g 0 := h7
  have h8 : (τ.1 57 8).toInt = (sg : Int) := h8
  have hW : WP τ.1 B g := hW
  have g1 : g 1 = x4 := g1
  have hx : x4.toInt ≤ (i : Int) := hx
  have le := CA_le hA
  rw [F_X5_readWorld_9.eq_1]
  refine pt_if (fun q => absurd q (by rw [Int32.le_iff_toInt_le]; simp only [Int32.reduceToInt]; omega)) (fun _ => ?_)
  refine pt_gR (v := 61) (hC.1.1 57 10 rfl) (pt_gI (pt_aI ?_))
  have e1 : τ.1 61 (τ.1 57 9).toInt.toNat = ck (tkK t n i) := (CA_row hC.2.1 hA).1.1
  rw [e1]
  refine pt_if (fun q => pt_rZ (Or.inl ⟨rfl, _, ⟨rc, stL_e (ck_0.mp q)⟩, hW, hL⟩)) (fun q => ?_)
  have k0 : ¬ tkK t n i = 0 := fun z => q (ck_0.mpr z)
  refine pt_gC (pt_zb (vl_line (sg := sg) hN hB hC hA h7 ⟨h8, h24⟩ hW hL) (fun v σ1 h => ?_))
  rcases h with ⟨v1, j, g', sg', ⟨eb, k59⟩, ⟨C1, A1⟩, ⟨e7, e8, l24⟩, W1⟩ | ⟨v0, h⟩
  · have v1 : v = 1 := v1
    have C1 : CB σ1 t n c := C1
    have A1 : CA (σ1.1 57 9) t n c (tkE t n j) := A1
    have e7 : σ1.1 57 7 = g' 0 := e7
    have e8 : (σ1.1 57 8).toInt = (sg' : Int) := e8
    have W1 : WB σ1.1 B g' := W1
    refine pt_if (fun q => absurd (v1.symm.trans q) (by decide)) (fun _ => pt_gI (pt_pIx (fun τ2 a2 b2 c2 => ?_)))
    have ge := bdR_ge le eb
    have gt := tk_gt ge.2 (show ¬ tkK t n j = 0 by rw [k59]; decide)
    have le2 := CA_le A1
    obtain ⟨F1, g1', g0⟩ := LI_bd hL eb
    have w1 : (x4 + 1).toInt = x4.toInt + 1 := a1_ (by omega)
    have eg : g' 1 + 1 = x4 + 1 := by rw [g1', g1]
    have el : σ1.1 B 1 + 1 = x4 + 1 := by rw [W1.1.2.1, eg]
    rw [el] at a2
    have nz : ¬ x4 + 1 = 0 := nz_of (by omega)
    have n57 : (57 : Nat) ≠ B := by omega
    refine ih (x4 + 1, τ2) ⟨(by rw [w1]; omega : 0 ≤ (x4 + 1).toInt), tkE t n j, upd g' 1 (x4 + 1), sg', ⟨rc.sn ((stL_s k0 eb).trans ((if_pos k59).trans (by show _ = some (some (tkE t n j, upd g' 1 (x4 + 1), sg')); rw [← eg]))), LI_1 F1 nz g0⟩, ⟨CB_x C1 (by rw [c2]) (fun k hk => b2 k (by omega)) (by rw [b2 57 n57]), ?_⟩, ⟨?_, ?_, l24⟩, ?_, upd_s, ?_⟩
    · show CA (τ2.1 57 9) t n c _
      rw [b2 57 n57]; exact A1
    · show τ2.1 57 7 = _
      rw [b2 57 n57, upd_n (by decide)]; exact e7
    · show (τ2.1 57 8).toInt = _
      rw [b2 57 n57]; exact e8
    · have oa : ∀ a, a ≠ 1 → upd g' 1 (x4 + 1) a = g' a := fun a ha => upd_n ha
      have h3 : τ2.1 B 0 = upd g' 1 (x4 + 1) 0 ∧ τ2.1 B 1 = upd g' 1 (x4 + 1) 1 ∧ τ2.1 B 2 = upd g' 1 (x4 + 1) 2 := by
        rw [a2, oa 0 (by decide), oa 2 (by decide), upd_s, upd_s, upd_n (by decide), upd_n (by decide)]
        exact ⟨W1.1.1, rfl, W1.1.2.2⟩
      refine ⟨h3, fun z => absurd (by rw [← z, upd_s]) nz, fun _ => ⟨h3, fun k hk => ?_, fun k hk => ?_⟩⟩
      · show τ2.1 (B + 3) k = _ ∧ τ2.1 (B + 4) k = _
        rw [b2 _ (by omega), b2 _ (by omega), oa _ (by omega), oa _ (by omega)]; exact W1.2.1 k hk
      · rw [oa 2 (by decide)] at hk
        show τ2.1 (B + 1) k = _ ∧ τ2.1 (B + 2) k = _
        rw [b2 _ (by omega), b2 _ (by omega), oa _ (by omega), oa _ (by omega)]; exact W1.2.2 k hk
    · show (x4 + 1).toInt ≤ _
      rw [w1]; omega
  · have v0 : v = 0 := v0
    refine pt_if (fun _ => pt_rZ (Or.inr ⟨rfl, _, rc, ?_⟩)) (fun q => absurd v0 q)
    rcases h with h | ⟨d, hd, h59⟩
    · exact stL_n k0 h
    · rw [stL_s k0 hd]; exact if_neg h59
theorem vl_c45 {P : Unit × zS → Prop} (hN : 1048576 ≤ N) (hB : B = 2 ∨ B = 28) (hR : RF σ.2.2) (hP : ∀ τ : zS, (∀ k, τ.1 k = σ.1 k) → P ((), τ)) : Pt (zlp (F_X10_clear_45 N B) N (0, σ)) P := by
  refine pt_lp (fun s : Int32 × zS => RF s.2.2.2 ∧ ∀ k, s.2.1 k = σ.1 k) (fun again s hI ih => ?_) N _ ⟨hR, fun _ => rfl⟩
  obtain ⟨x1, τ⟩ := s
  obtain ⟨hr, ho⟩ := hI
  have hr : RF τ.2.2 := hr
  have ho : ∀ k, τ.1 k = σ.1 k := ho
  have R7 : τ.2.2 B 7 = B + 5 := by rcases hB with rfl | rfl; exact hr 2 7 rfl; exact hr 28 7 rfl
  have K7 : zKd (B + 5) = (17, 10) := by rcases hB with rfl | rfl <;> rfl
  rw [F_X10_clear_45.eq_1]
  refine pt_if (fun _ => pt_some (hP τ ho)) (fun _ => ?_)
  refine pt_gR (v := B + 5) R7 (pt_aRb (fun h0 h1 => pt_gC ?_))
  rw [K7] at h1
  obtain ⟨q, e, kq⟩ := arrF hr (k := B + 5) (n := 10) (i := x1) K7 h0 h1
  have e : τ.2.2 (B + 5) x1.toInt.toNat = q := e
  rw [e]
  refine pt_zb (pt_ok (s_X2_clear hN hr kq)) (fun _ σ1 h => ?_)
  have T1 : Tr [] τ σ1 := h.1
  exact ih (x1 + 1, σ1) ⟨hr.tr T1, fun k => (T1.2 k List.not_mem_nil).trans (ho k)⟩
theorem vl_clear (hN : 1048576 ≤ N) (hB : B = 2 ∨ B = 28) (hR : RF σ.2.2) : Pt (f_X10_clear N B σ) (fun r => (r.2.1 B 0 = 0 ∧ r.2.1 B 1 = 0 ∧ r.2.1 B 2 = 0) ∧ ∀ j, j < 10 → r.2.1 (B + 3) j = 1 ∧ r.2.1 (B + 4) j = nI j) := by
  rw [f_X10_clear.eq_1]
  refine pt_pIx (fun τ1 a1 b1 c1 => pt_pIx (fun τ2 a2 b2 c2 => pt_pIx (fun τ3 a3 b3 c3 => ?_)))
  have z0 : τ3.1 B 0 = 0 := by rw [a3, upd_n (by decide), a2, upd_n (by decide), a1, upd_s]
  have z1 : τ3.1 B 1 = 0 := by rw [a3, upd_n (by decide), a2, upd_s]
  have z2 : τ3.1 B 2 = 0 := by rw [a3, upd_s]
  have R3 : RF τ3.2.2 := by rw [c3, c2, c1]; exact hR
  clear a1 a2 a3 b1 b2 b3 c1 c2 c3
  refine pt_lp (fun s : Int32 × zS => (0 ≤ s.1.toInt ∧ s.1.toInt ≤ 10) ∧ s.2.2.2 = τ3.2.2 ∧ s.2.1 B = τ3.1 B ∧ ∀ j : Nat, (j : Int) < s.1.toInt → s.2.1 (B + 3) j = 1 ∧ s.2.1 (B + 4) j = nI j) (fun again s hI ih => ?_) N _ ⟨(by decide : 0 ≤ (0 : Int32).toInt ∧ (0 : Int32).toInt ≤ 10), rfl, rfl, fun j hj => absurd hj (by show ¬ (j : Int) < (0 : Int32).toInt; simp only [Int32.reduceToInt]; omega)⟩
  obtain ⟨x1, τ⟩ := s
  obtain ⟨hb, hr, ho, hj⟩ := hI
  have hb : 0 ≤ x1.toInt ∧ x1.toInt ≤ 10 := hb
  have hr : τ.2.2 = τ3.2.2 := hr
  have ho : τ.1 B = τ3.1 B := ho
  have hj : ∀ j : Nat, (j : Int) < x1.toInt → τ.1 (B + 3) j = 1 ∧ τ.1 (B + 4) j = nI j := hj
  have R9 : RF τ.2.2 := by rw [hr]; exact R3
  have rb := rB hB R9
  rw [F_X10_clear_17.eq_1]
  refine pt_if (fun q => ?_) (fun q => ?_)
  · rw [Int32.le_iff_toInt_le] at q
    simp only [Int32.reduceToInt] at q
    refine vl_c45 hN hB R9 (fun υ hυ => ?_)
    show (υ.1 B 0 = 0 ∧ υ.1 B 1 = 0 ∧ υ.1 B 2 = 0) ∧ ∀ j, j < 10 → υ.1 (B + 3) j = 1 ∧ υ.1 (B + 4) j = nI j
    rw [hυ B, hυ (B + 3), hυ (B + 4), ho]
    exact ⟨⟨z0, z1, z2⟩, fun j h => hj j (by omega)⟩
  · rw [Int32.le_iff_toInt_le] at q
    simp only [Int32.reduceToInt] at q
    have hw : 0 ≤ x1.toInt ∧ x1.toInt ≤ 100000 := by omega
    have hx1 : 0 ≤ (x1 + 1).toInt ∧ (x1 + 1).toInt ≤ 10 := by rw [a1_ hw]; omega
    refine pt_gR (v := B + 3) rb.2.2.1 (pt_s14 (pt_gR (v := B + 4) rb.2.2.2 (pt_s14 ?_)))
    refine ih (x1 + 1, _) ⟨hx1, hr, ?_, fun j h => ?_⟩
    · show (zI (zI τ (B + 3) _) (B + 4) _).1 B = _
      rw [zI_n (by omega), zI_n (by omega)]; exact ho
    · have h : (j : Int) < (x1 + 1).toInt := h
      rw [a1_ hw] at h
      clear hx1
      show (zI (zI τ (B + 3) _) (B + 4) _).1 (B + 3) j = _ ∧ (zI (zI τ (B + 3) _) (B + 4) _).1 (B + 4) j = _
      rw [zI_n (by omega), zI_s, zI_s, zI_n (by omega), upd_i, upd_i]
      by_cases e : j = x1.toInt.toNat
      · rw [if_pos e, if_pos e]
        refine ⟨rfl, Int32.toInt_inj.mp ?_⟩
        rw [nI_toInt (by omega)]; omega
      · rw [if_neg e, if_neg e]; exact hj j (by omega)
end CWORLD
section CWORLD2
variable {N : Nat} {σ τ : zS} {n B C : Nat}
/-- what world() of the class answers: the text is row 1 -/
def CXQ (t : Nat → Int32) (n B : Nat) (σ : zS) (G : Nat → Int32) (r : Int32 × zS) : Prop := ((r.1 = -4 ∧ r.2.2.2 0 4 = σ.2.2 0 4 ∧ ∀ k, 1 < k → k < 57 → (k < B ∨ B + 4 < k) → r.2.1 k = σ.1 k) ∧ ∃ d, Rc (stL t n) (0, G, 0) d ∧ stL t n d = none) ∨ (r.2.2.2 0 4 = B ∧ ∃ d, (Rc (stL t n) (0, G, 0) d ∧ stL t n d = some none) ∧ (r.1 = d.2.1 1 ∧ LI d.2.1) ∧ WP r.2.1 B d.2.1)
theorem vl_fault {P : Unit × zS → Prop} (hR : RF σ.2.2) (hP : ∀ τ : zS, τ.2.2 = σ.2.2 → (∀ k, k ≠ 0 → τ.1 k = σ.1 k) → P ((), τ)) : Pt (f_X11_takeFault N 0 σ) P := by
  rw [f_X11_takeFault.eq_1]
  refine pt_pIx (fun τ1 a1 b1 c1 => pt_gR (v := 57) (by rw [c1]; exact hR 0 9 rfl) (pt_gI (pt_pIx (fun τ2 a2 b2 c2 => pt_gR (v := 57) (by rw [c2, c1]; exact hR 0 9 rfl) (pt_gI (pt_pIx (fun τ3 a3 b3 c3 => pt_some (hP τ3 (by rw [c3, c2, c1]) (fun k hk => by rw [b3 k hk, b2 k hk, b1 k hk])))))))))
theorem vl_world {G : Nat → Int32} (hN : 1048576 ≤ N) (hB : B = 2 ∨ B = 28) (hR : RF σ.2.2) (h5 : σ.2.2 0 5 = B) (hW : WI B σ.1) (hD : RD σ.1) (hn : (σ.1 0 1).toInt = (n : Int) ∧ n ≤ 600) (hG : ∀ j, j < 43 → G j = 0) : Pt (f_X11_world N 0 σ) (CXQ (σ.1 1) n B σ G) := by
  have ten : ∀ {g : Nat → Int32} {s : Nat → Nat → Int32}, LI g → WP s B g → 0 ≤ (s B 0).toInt ∧ (s B 0).toInt ≤ 10 := fun hL hW => by rw [hW.1.1]; exact hL.1.1.1
  rw [f_X11_world.eq_1]
  refine pt_gR (v := B) h5 (pt_gC (pt_zb (pt_and (P := fun r => (∀ k, k ≠ B → k ≠ B + 3 → k ≠ B + 4 → r.2.1 k = σ.1 k) ∧ (RF r.2.2.2 ∧ r.2.2.2 0 = σ.2.2 0)) (vl_clear hN hB hR) ?_) (fun _ σ1 h1 => ?_)))
  · rcases hB with rfl | rfl
    · refine pt_w (pt_ok (s_X10_clear_2 hN hR hW)) (fun r h => ⟨fun k q0 q3 q4 => h.1.2 k (by simp only [List.mem_cons, List.not_mem_nil, or_false]; omega), hR.tr h.1, funext (fun j => h.1.1.1 0 j (by omega))⟩)
    · refine pt_w (pt_ok (s_X10_clear_28 hN hR hW)) (fun r h => ⟨fun k q0 q3 q4 => h.1.2 k (by simp only [List.mem_cons, List.not_mem_nil, or_false]; omega), hR.tr h.1, funext (fun j => h.1.1.1 0 j (by omega))⟩)
  obtain ⟨⟨z3, z10⟩, ok1, R1, r01⟩ := h1
  have z3 : σ1.1 B 0 = 0 ∧ σ1.1 B 1 = 0 ∧ σ1.1 B 2 = 0 := z3
  have z10 : ∀ j, j < 10 → σ1.1 (B + 3) j = 1 ∧ σ1.1 (B + 4) j = nI j := z10
  have ok1 : ∀ k, k ≠ B → k ≠ B + 3 → k ≠ B + 4 → σ1.1 k = σ.1 k := ok1
  have R1 : RF σ1.2.2 := R1
  have r01 : σ1.2.2 0 = σ.2.2 0 := r01
  have o0 : σ1.1 0 = σ.1 0 := ok1 0 (by omega) (by omega) (by omega)
  have o1 : σ1.1 1 = σ.1 1 := ok1 1 (by omega) (by omega) (by omega)
  refine pt_gR (v := 57) (R1 0 9 rfl) (pt_gR (v := 1) (R1 0 0 rfl) (pt_gI (pt_gR (v := B) (by rw [r01]; exact h5) (pt_gC ?_))))
  rw [o0]
  have WP1 : ∀ s : Nat → Nat → Int32, (∀ k, k < 57 → s k = σ1.1 k) → WP s B G := fun s e => by
    have h3 : s B 0 = G 0 ∧ s B 1 = G 1 ∧ s B 2 = G 2 := by
      rw [e B (by omega), hG 0 (by decide), hG 1 (by decide), hG 2 (by decide)]; exact z3
    refine ⟨h3, fun _ j hj => ?_, fun z => absurd (hG 1 (by decide)) z⟩
    rw [e (B + 3) (by omega), e (B + 4) (by omega)]; exact z10 j hj
  refine pt_zb (Q := fun r => (CWQ (σ.1 1) n B G r) ∧ ((RF r.2.2.2 ∧ r.2.2.2 0 = σ.2.2 0) ∧ ∀ k, 1 < k → k < 57 → (k < B ∨ B + 4 < k) → r.2.1 k = σ.1 k)) (pt_and ?_ ?_) (fun v8 σ2 h2 => ?_)
  · rw [f_X5_readWorld.eq_1]
    refine pt_gC (pt_zb (vl_open (n := n) hN R1 hn) (fun _ σ2 h2 => ?_))
    obtain ⟨c, ⟨hC, hA⟩, h7, h57⟩ := h2
    rw [o1] at hC hA
    exact vl_loop hN hB hC hA h7 hG (WP1 σ2.1 h57)
  · rcases hB with rfl | rfl
    · have D1 : RD σ1.1 := by unfold RD at hD ⊢; rw [ok1 57 (by decide) (by decide) (by decide), ok1 61 (by decide) (by decide) (by decide), ok1 63 (by decide) (by decide) (by decide), ok1 64 (by decide) (by decide) (by decide)]; exact hD
      have W1 : WI 2 σ1.1 := by
        unfold WI at hW ⊢
        rw [z3.1, z3.2.2, ok1 (2 + 1) (by decide) (by decide) (by decide), ok1 (2 + 2) (by decide) (by decide) (by decide)]
        exact ⟨by decide, by decide, hW.2.2⟩
      refine pt_w (pt_ok (s_X5_readWorld_1_2 hN R1 D1 W1)) (fun r h => ⟨⟨R1.tr h.1, funext (fun j => (h.1.1.1 0 j (by omega)).trans (congrFun r01 j))⟩, fun k h1 h2 h3 => (h.1.2 k (by simp only [List.mem_cons, List.not_mem_nil, or_false]; omega)).trans (ok1 k (by omega) (by omega) (by omega))⟩)
    · have D1 : RD σ1.1 := by unfold RD at hD ⊢; rw [ok1 57 (by decide) (by decide) (by decide), ok1 61 (by decide) (by decide) (by decide), ok1 63 (by decide) (by decide) (by decide), ok1 64 (by decide) (by decide) (by decide)]; exact hD
      have W1 : WI 28 σ1.1 := by
        unfold WI at hW ⊢
        rw [z3.1, z3.2.2, ok1 (28 + 1) (by decide) (by decide) (by decide), ok1 (28 + 2) (by decide) (by decide) (by decide)]
        exact ⟨by decide, by decide, hW.2.2⟩
      refine pt_w (pt_ok (s_X5_readWorld_1_28 hN R1 D1 W1)) (fun r h => ⟨⟨R1.tr h.1, funext (fun j => (h.1.1.1 0 j (by omega)).trans (congrFun r01 j))⟩, fun k h1 h2 h3 => (h.1.2 k (by simp only [List.mem_cons, List.not_mem_nil, or_false]; omega)).trans (ok1 k (by omega) (by omega) (by omega))⟩)
  · obtain ⟨hq, ⟨R2, r02⟩, o2⟩ := h2
    have o2 : ∀ k, 1 < k → k < 57 → (k < B ∨ B + 4 < k) → σ2.1 k = σ.1 k := o2
    have R2 : RF σ2.2.2 := R2
    have r02 : σ2.2.2 0 = σ.2.2 0 := r02
    refine pt_gC (pt_zb (Q := fun r => r.2.2.2 = σ2.2.2 ∧ ∀ k, k ≠ 0 → r.2.1 k = σ2.1 k) (vl_fault R2 (fun τ a b => ⟨a, b⟩)) (fun _ σ3 h3 => ?_))
    obtain ⟨r3, o3⟩ := h3
    have r3 : σ3.2.2 = σ2.2.2 := r3
    have o3 : ∀ k, k ≠ 0 → σ3.1 k = σ2.1 k := o3
    have R3 : RF σ3.2.2 := by rw [r3]; exact R2
    have r03 : σ3.2.2 0 5 = B := by rw [r3, r02]; exact h5
    rcases hq with ⟨v1, d, rc, hWP, hL⟩ | ⟨v0, hd⟩
    · have v1 : v8 = 1 := v1
      have hWP : WP σ2.1 B d.2.1 := hWP
      refine pt_if (fun q => absurd (v1.symm.trans q) (by decide)) (fun _ => ?_)
      refine pt_gR (v := 65) (R3 0 10 rfl) (pt_gR (v := 57) (R3 0 9 rfl) (pt_gR (v := B) r03 (pt_gR (v := 99) (R3 0 11 rfl) (pt_gC ?_))))
      have t3 : 0 ≤ (σ3.1 B 0).toInt ∧ (σ3.1 B 0).toInt ≤ 10 := by rw [o3 B (by omega)]; exact ten hL hWP
      refine pt_zb (Q := fun r => Tr [65, 106, 107] σ3 r.2) ?_ (fun _ σ4 T4 => ?_)
      · rcases hB with rfl | rfl
        · exact pt_w (pt_ok (s_X7_run_57_2_99 hN R3 t3)) (fun r h => h.1)
        · exact pt_w (pt_ok (s_X7_run_57_28_99 hN R3 t3)) (fun r h => h.1)
      · have T4 : Tr [65, 106, 107] σ3 σ4 := T4
        have R4 := R3.tr T4
        have r04 : σ4.2.2 0 5 = B := (T4.1.1 0 5 (by omega)).trans r03
        refine pt_gR (v := σ4.2.2 0 4) rfl (pt_gR (v := B) r04 ?_)
        refine pt_pR (fun σ5 i5 _ q5 => pt_pR (fun σ6 i6 _ q6 => ?_))
        have r6 : σ6.2.2 0 4 = B := by rw [q6, va_up_self, va_up_ne _ _ (by decide), q5, va_up_self, va_up_self]
        have i6 : σ6.1 = σ4.1 := i6.trans i5
        refine pt_gR (v := B) r6 (pt_gI (pt_some (Or.inr ⟨r6, d, rc, ⟨?_, hL⟩, ?_⟩)))
        · show σ6.1 B 1 = _
          rw [i6, T4.2 B (by simp only [List.mem_cons, List.not_mem_nil, or_false]; omega), o3 B (by omega)]; exact hWP.1.2.1
        · show WP σ6.1 B d.2.1
          have e : ∀ a, a ≤ 4 → σ6.1 (B + a) = σ2.1 (B + a) := fun a ha => by rw [i6, T4.2 _ (by simp only [List.mem_cons, List.not_mem_nil, or_false]; omega), o3 _ (by omega)]
          have e0 := e 0 (by decide)
          rw [Nat.add_zero] at e0
          unfold WP WB at hWP ⊢
          rw [e0, e 1 (by decide), e 2 (by decide), e 3 (by decide), e 4 (by decide)]; exact hWP
    · have v0 : v8 = 0 := v0
      exact pt_if (fun _ => pt_some (Or.inl ⟨⟨rfl, by show σ3.2.2 0 4 = _; rw [r3, r02], fun k h1 h2 h3 => by show σ3.1 k = _; rw [o3 k (by omega)]; exact o2 k h1 h2 h3⟩, hd⟩)) (fun q => absurd v0 q)
end CWORLD2
end Zq13_7
section Zq13_8
/-! ===== feed: the same bytes ===== -/
def byt (x : Int32) (i : Nat) : Int32 := vp_nar .byte ((Int32.toInt8 (zus x (24 - 8 * nI i))).toInt32)
def five (x1 x2 x3 x4 x5 : Int32) (i : Nat) : Int32 := if i = 0 then x1 else if i = 1 then x2 else if i = 2 then x3 else if i = 3 then x4 else x5
/-- the tape behind feed -/
def fdR (g : Nat → Int32) (p : Nat) (x1 x2 x3 x4 x5 : Int32) : Nat → Int32 := fun k => if p ≤ k ∧ k < p + 20 then byt (five x1 x2 x3 x4 x5 ((k - p) / 4)) ((k - p) % 4) else g k
theorem sh24 : ∀ i, i < 4 → (24 - 8 * nI i).toUInt32 &&& Int32.toUInt32 31 = UInt32.ofNat (24 - 8 * i) ∧ ((24 - 8 * nI i) &&& 31) = nI (24 - 8 * i) := by decide +kernel
theorem byt_s (x : Int32) {i : Nat} (hi : i < 4) : Int32.toInt8 (zus x (24 - 8 * nI i)) = Int32.toInt8 (x >>> ((24 - 8 * nI i) &&& 31)) := by
  apply Int8.toBitVec_inj.mp
  show (zus x (24 - 8 * nI i)).toBitVec.signExtend 8 = (x >>> ((24 - 8 * nI i) &&& 31)).toBitVec.signExtend 8
  have e1 : (zus x (24 - 8 * nI i)).toBitVec = x.toBitVec >>> (24 - 8 * i) := by
    unfold zus
    rw [(sh24 i hi).1]
    show (x.toUInt32 >>> UInt32.ofNat (24 - 8 * i)).toBitVec = _
    rw [UInt32.toBitVec_shiftRight]
    have : ((UInt32.ofNat (24 - 8 * i)).toBitVec % 32).toNat = 24 - 8 * i := by
      rcases (show i = 0 ∨ i = 1 ∨ i = 2 ∨ i = 3 by omega) with rfl | rfl | rfl | rfl <;> rfl
    show x.toBitVec >>> ((UInt32.ofNat (24 - 8 * i)).toBitVec % 32) = _
    rw [BitVec.ushiftRight_eq', this]
  have e2 : (x >>> ((24 - 8 * nI i) &&& 31)).toBitVec = x.toBitVec.sshiftRight (24 - 8 * i) := by
    rw [(sh24 i hi).2, Int32.toBitVec_shiftRight]
    have : ((nI (24 - 8 * i)).toBitVec.smod 32).toNat = 24 - 8 * i := by
      rcases (show i = 0 ∨ i = 1 ∨ i = 2 ∨ i = 3 by omega) with rfl | rfl | rfl | rfl <;> decide
    show x.toBitVec.sshiftRight ((nI (24 - 8 * i)).toBitVec.smod 32).toNat = _
    rw [this]
  rw [e1, e2]
  apply BitVec.eq_of_getLsbD_eq
  intro j hj
  rw [BitVec.getLsbD_signExtend, BitVec.getLsbD_signExtend, BitVec.getLsbD_ushiftRight, BitVec.getLsbD_sshiftRight]
  have a : 24 - 8 * i + j < 32 := by omega
  have b : j < 32 := by omega
  have c : ¬ 32 ≤ j := by omega
  simp [a, b, c]
section FEED
variable {N : Nat} {σ : zS}
theorem pt_s14x {β : Type} {P : β → Prop} {k : Nat} {i v : Int32} {f : zS → Option β} (h : ∀ τ : zS, τ.1 k = upd (σ.1 k) i.toInt.toNat v → (∀ a, a ≠ k → τ.1 a = σ.1 a) → τ.2 = σ.2 → Pt (f τ) P) : Pt (zl (sI 14 k i v σ) f) P := pt_s14 (h _ zI_s (fun _ ha => zI_n ha) rfl)
/-- four bytes -/
def t4 (g : Nat → Int32) (p : Nat) (x : Int32) (m : Nat) : Nat → Int32 := fun k => if p ≤ k ∧ k < p + m then byt x (k - p) else g k
theorem vl_tape {x1 x2 : Int32} {P : Unit × zS → Prop} (hR : RF σ.2.2) (hx : 0 ≤ x2.toInt ∧ x2.toInt ≤ 596) (hP : ∀ τ : zS, τ.2 = σ.2 → (∀ k, k ≠ 1 → τ.1 k = σ.1 k) → τ.1 1 = t4 (σ.1 1) x2.toInt.toNat x1 4 → P ((), τ)) : Pt (f_X11_tapeNumber N 0 x1 x2 σ) P := by
  rw [f_X11_tapeNumber.eq_1]
  refine pt_lp (fun s : Int32 × zS => (0 ≤ s.1.toInt ∧ s.1.toInt ≤ 4) ∧ s.2.2 = σ.2 ∧ (∀ k, k ≠ 1 → s.2.1 k = σ.1 k) ∧ s.2.1 1 = t4 (σ.1 1) x2.toInt.toNat x1 s.1.toInt.toNat) (fun again s hI ih => ?_) N _ ⟨(by decide : 0 ≤ (0 : Int32).toInt ∧ (0 : Int32).toInt ≤ 4), rfl, fun _ _ => rfl, ?_⟩
  · obtain ⟨x3, τ⟩ := s
    obtain ⟨hb, hr, ho, h1⟩ := hI
    have hb : 0 ≤ x3.toInt ∧ x3.toInt ≤ 4 := hb
    have hr : τ.2 = σ.2 := hr
    have ho : ∀ k, k ≠ 1 → τ.1 k = σ.1 k := ho
    have h1 : τ.1 1 = t4 (σ.1 1) x2.toInt.toNat x1 x3.toInt.toNat := h1
    rw [F_X11_tapeNumber_2.eq_1]
    refine pt_if (fun q => pt_some (hP τ hr ho ?_)) (fun q => ?_)
    · rw [Int32.le_iff_toInt_le] at q
      simp only [Int32.reduceToInt] at q
      rw [h1, show x3.toInt.toNat = 4 by omega]
    · rw [Int32.le_iff_toInt_le] at q
      simp only [Int32.reduceToInt] at q
      have s23 : (x2 + x3).toInt = x2.toInt + x3.toInt := by rw [ti_add]; omega
      refine pt_if (fun z => absurd z (by rw [Int32.lt_iff_toInt_lt]; simp only [Int32.reduceToInt]; omega)) (fun _ => pt_if (fun z => absurd z (by rw [Int32.le_iff_toInt_le, s23]; simp only [Int32.reduceToInt]; omega)) (fun _ => ?_))
      refine pt_gR (v := 1) (by rw [hr]; exact hR 0 0 rfl) (pt_s13 ?_)
      rw [s23]
      clear s23
      have hw : 0 ≤ x3.toInt ∧ x3.toInt ≤ 100000 := by omega
      obtain ⟨m, hm, rfl⟩ := znI (x := x3) (m := 4) hb.1 (by omega)
      have em : (nI m).toInt = (m : Int) := nI_toInt (by omega)
      have em1 : (nI m + 1).toInt = (m : Int) + 1 := by rw [a1_ hw, em]
      rw [em] at h1 hb ⊢
      refine ih (nI m + 1, _) ⟨(by rw [em1]; omega : 0 ≤ (nI m + 1).toInt ∧ (nI m + 1).toInt ≤ 4), hr, fun k hk => (zI_n hk).trans (ho k hk), ?_⟩
      show (zI τ 1 _).1 1 = t4 (σ.1 1) x2.toInt.toNat x1 (nI m + 1).toInt.toNat
      rw [zI_s, em1, h1]
      funext k
      rw [upd_i]
      unfold t4
      by_cases e : k = (x2.toInt + (m : Int)).toNat
      · rw [if_pos e, if_pos (by omega)]
        unfold byt
        rw [show k - x2.toInt.toNat = m by omega]
      · rw [if_neg e]
        by_cases f : x2.toInt.toNat ≤ k ∧ k < x2.toInt.toNat + ((m : Int)).toNat
        · rw [if_pos f, if_pos (by omega)]
        · rw [if_neg f, if_neg (by omega)]
  · show σ.1 1 = t4 (σ.1 1) x2.toInt.toNat x1 (0 : Int32).toInt.toNat
    funext k
    unfold t4
    rw [if_neg (by simp only [Int32.reduceToInt]; omega)]
theorem vl_feed {x1 x2 x3 x4 x5 : Int32} (hR : RF σ.2.2) (ht : 0 ≤ (σ.1 0 1).toInt ∧ (σ.1 0 1).toInt ≤ 600) : Pt (f_X11_feed N 0 x1 x2 x3 x4 x5 σ) (fun r => r.2.1 1 = if (σ.1 0 1).toInt ≤ 580 then fdR (σ.1 1) (σ.1 0 1).toInt.toNat x1 x2 x3 x4 x5 else σ.1 1) := by
  have s20 : (σ.1 0 1 + 20).toInt = (σ.1 0 1).toInt + 20 := by rw [ti_add]; simp only [Int32.reduceToInt]; omega
  rw [f_X11_feed.eq_1]
  refine pt_gI (pt_if (fun q => absurd q (by rw [Int32.lt_iff_toInt_lt]; simp only [Int32.reduceToInt]; omega)) (fun _ => pt_gI (pt_if (fun q => ?_) (fun q => pt_some ?_))))
  · rw [Int32.le_iff_toInt_le, s20] at q
    simp only [Int32.reduceToInt] at q
    have q80 : (σ.1 0 1).toInt ≤ 580 := by omega
    have s4 : (σ.1 0 1 + 4).toInt = (σ.1 0 1).toInt + 4 := by rw [ti_add]; simp only [Int32.reduceToInt]; omega
    have s8 : (σ.1 0 1 + 8).toInt = (σ.1 0 1).toInt + 8 := by clear s4; rw [ti_add]; simp only [Int32.reduceToInt]; omega
    have s12 : (σ.1 0 1 + 12).toInt = (σ.1 0 1).toInt + 12 := by clear s4 s8; rw [ti_add]; simp only [Int32.reduceToInt]; omega
    have s16 : (σ.1 0 1 + 16).toInt = (σ.1 0 1).toInt + 16 := by clear s4 s8 s12; rw [ti_add]; simp only [Int32.reduceToInt]; omega
    clear s20
    obtain ⟨p, hp⟩ : ∃ p, p = (σ.1 0 1).toInt.toNat := ⟨_, rfl⟩
    refine pt_gI (pt_gC (pt_zb (Q := fun r => r.2.2 = σ.2 ∧ (∀ k, k ≠ 1 → r.2.1 k = σ.1 k) ∧ r.2.1 1 = t4 (σ.1 1) p x1 4) (vl_tape hR (by clear s4 s8 s12 s16; omega) (fun τ a b c => ⟨a, b, by rw [hp]; exact c⟩)) (fun _ σ1 h1 => ?_)))
    obtain ⟨r1, o1, t1⟩ := h1
    have r1 : σ1.2 = σ.2 := r1
    have o1 : ∀ k, k ≠ 1 → σ1.1 k = σ.1 k := o1
    have t1 : σ1.1 1 = t4 (σ.1 1) p x1 4 := t1
    refine pt_gI ?_
    rw [o1 0 (by decide)]
    refine pt_gC (pt_zb (Q := fun r => r.2.2 = σ.2 ∧ (∀ k, k ≠ 1 → r.2.1 k = σ.1 k) ∧ r.2.1 1 = t4 (σ1.1 1) (p + 4) x2 4) (vl_tape (by rw [r1]; exact hR) (by rw [s4]; clear s4 s8 s12 s16; omega) (fun τ a b c => ⟨a.trans r1, fun k hk => (b k hk).trans (o1 k hk), by rw [show p + 4 = (σ.1 0 1 + 4).toInt.toNat by rw [s4]; clear s4 s8 s12 s16; omega]; exact c⟩)) (fun _ σ2 h2 => ?_))
    obtain ⟨r2, o2, t2⟩ := h2
    have r2 : σ2.2 = σ.2 := r2
    have o2 : ∀ k, k ≠ 1 → σ2.1 k = σ.1 k := o2
    have t2 : σ2.1 1 = t4 (σ1.1 1) (p + 4) x2 4 := t2
    refine pt_gI ?_
    rw [o2 0 (by decide)]
    refine pt_gC (pt_zb (Q := fun r => r.2.2 = σ.2 ∧ (∀ k, k ≠ 1 → r.2.1 k = σ.1 k) ∧ r.2.1 1 = t4 (σ2.1 1) (p + 8) x3 4) (vl_tape (by rw [r2]; exact hR) (by rw [s8]; clear s4 s8 s12 s16; omega) (fun τ a b c => ⟨a.trans r2, fun k hk => (b k hk).trans (o2 k hk), by rw [show p + 8 = (σ.1 0 1 + 8).toInt.toNat by rw [s8]; clear s4 s8 s12 s16; omega]; exact c⟩)) (fun _ σ3 h3 => ?_))
    obtain ⟨r3, o3, t3⟩ := h3
    have r3 : σ3.2 = σ.2 := r3
    have o3 : ∀ k, k ≠ 1 → σ3.1 k = σ.1 k := o3
    have t3 : σ3.1 1 = t4 (σ2.1 1) (p + 8) x3 4 := t3
    refine pt_gI ?_
    rw [o3 0 (by decide)]
    refine pt_gC (pt_zb (Q := fun r => r.2.2 = σ.2 ∧ (∀ k, k ≠ 1 → r.2.1 k = σ.1 k) ∧ r.2.1 1 = t4 (σ3.1 1) (p + 12) x4 4) (vl_tape (by rw [r3]; exact hR) (by rw [s12]; clear s4 s8 s12 s16; omega) (fun τ a b c => ⟨a.trans r3, fun k hk => (b k hk).trans (o3 k hk), by rw [show p + 12 = (σ.1 0 1 + 12).toInt.toNat by rw [s12]; clear s4 s8 s12 s16; omega]; exact c⟩)) (fun _ σ4 h4 => ?_))
    obtain ⟨r4, o4, t4'⟩ := h4
    have r4 : σ4.2 = σ.2 := r4
    have o4 : ∀ k, k ≠ 1 → σ4.1 k = σ.1 k := o4
    have t4' : σ4.1 1 = t4 (σ3.1 1) (p + 12) x4 4 := t4'
    refine pt_gI ?_
    rw [o4 0 (by decide)]
    refine pt_gC (pt_zb (Q := fun r => r.2.1 1 = t4 (σ4.1 1) (p + 16) x5 4) (vl_tape (by rw [r4]; exact hR) (by rw [s16]; clear s4 s8 s12 s16; omega) (fun τ a b c => by rw [show p + 16 = (σ.1 0 1 + 16).toInt.toNat by rw [s16]; clear s4 s8 s12 s16; omega]; exact c)) (fun _ σ5 t5 => ?_))
    have t5 : σ5.1 1 = t4 (σ4.1 1) (p + 16) x5 4 := t5
    refine pt_gI (pt_pI (pt_gI (pt_some ?_)))
    show (zI σ5 0 _).1 1 = _
    rw [zI_n (by decide), if_pos q80, t5, t4', t3, t2, t1, ← hp]
    clear s4 s8 s12 s16 t1 t2 t3 t4' t5 o1 o2 o3 o4 r1 r2 r3 r4 q q80 ht hR hp
    funext k
    unfold t4 fdR
    by_cases a : p ≤ k ∧ k < p + 20
    · rw [if_pos a]
      obtain ⟨m, rfl⟩ : ∃ m, k = p + m := ⟨k - p, by omega⟩
      rw [show p + m - p = m by omega]
      rcases (show m / 4 = 0 ∨ m / 4 = 1 ∨ m / 4 = 2 ∨ m / 4 = 3 ∨ m / 4 = 4 by omega) with h | h | h | h | h
      · rw [h, if_neg (by omega), if_neg (by omega), if_neg (by omega), if_neg (by omega), if_pos (by omega), show m % 4 = m by omega]; rfl
      · rw [h, if_neg (by omega), if_neg (by omega), if_neg (by omega), if_pos (by omega), show p + m - (p + 4) = m % 4 by omega]; rfl
      · rw [h, if_neg (by omega), if_neg (by omega), if_pos (by omega), show p + m - (p + 8) = m % 4 by omega]; rfl
      · rw [h, if_neg (by omega), if_pos (by omega), show p + m - (p + 12) = m % 4 by omega]; rfl
      · rw [h, if_pos (by omega), show p + m - (p + 16) = m % 4 by omega]; rfl
    · rw [if_neg a, if_neg (by omega), if_neg (by omega), if_neg (by omega), if_neg (by omega), if_neg (by omega)]
  · rw [Int32.le_iff_toInt_le, s20] at q
    simp only [Int32.reduceToInt] at q
    rw [if_neg (by omega)]
theorem d4 : ∀ m, m < 20 → (nI m / 4).toInt = ((m / 4 : Nat) : Int) ∧ nI m - nI m / 4 * 4 = nI (m % 4) := by decide +kernel
theorem vr_feed {x1 x2 x3 x4 x5 : Int32} (hR : RF σ.2.2) (ht : 0 ≤ (σ.1 218 7).toInt ∧ (σ.1 218 7).toInt ≤ 600) : Pt (f_X12_feed N 218 x1 x2 x3 x4 x5 σ) (fun r => r.2.1 224 = if (σ.1 218 7).toInt ≤ 580 then fdR (σ.1 224) (σ.1 218 7).toInt.toNat x1 x2 x3 x4 x5 else σ.1 224) := by
  have s20 : (σ.1 218 7 + 20).toInt = (σ.1 218 7).toInt + 20 := by rw [ti_add]; simp only [Int32.reduceToInt]; omega
  rw [f_X12_feed.eq_1]
  refine pt_gI (pt_if (fun q => ?_) (fun q => pt_some ?_))
  · rw [Int32.le_iff_toInt_le, s20] at q
    simp only [Int32.reduceToInt] at q
    have q80 : (σ.1 218 7).toInt ≤ 580 := by omega
    clear s20
    refine pt_gR (v := 225) (hR 218 8 rfl) (pt_s14x (fun τ1 a1 b1 c1 => pt_gR (v := 225) (by rw [c1]; exact hR 218 8 rfl) (pt_s14x (fun τ2 a2 b2 c2 => pt_gR (v := 225) (by rw [c2, c1]; exact hR 218 8 rfl) (pt_s14x (fun τ3 a3 b3 c3 => pt_gR (v := 225) (by rw [c3, c2, c1]; exact hR 218 8 rfl) (pt_s14x (fun τ4 a4 b4 c4 => pt_gR (v := 225) (by rw [c4, c3, c2, c1]; exact hR 218 8 rfl) (pt_s14x (fun τ0 a0 b0 c0 => ?_))))))))))
    have r0 : τ0.2 = σ.2 := by rw [c0, c4, c3, c2, c1]
    have o0 : ∀ k, k ≠ 225 → τ0.1 k = σ.1 k := fun k hk => by rw [b0 k hk, b4 k hk, b3 k hk, b2 k hk, b1 k hk]
    have f0 : ∀ i, i < 5 → τ0.1 225 i = five x1 x2 x3 x4 x5 i := fun i hi => by
      rw [a0, a4, a3, a2, a1]
      rcases (show i = 0 ∨ i = 1 ∨ i = 2 ∨ i = 3 ∨ i = 4 by omega) with rfl | rfl | rfl | rfl | rfl <;> rfl
    clear a0 a1 a2 a3 a4 b0 b1 b2 b3 b4 c0 c1 c2 c3 c4
    obtain ⟨p, hp⟩ : ∃ p, p = (σ.1 218 7).toInt.toNat := ⟨_, rfl⟩
    rw [if_pos q80, ← hp]
    refine pt_lp (fun s : Int32 × zS => (0 ≤ s.1.toInt ∧ s.1.toInt ≤ 20) ∧ s.2.2 = σ.2 ∧ (s.2.1 225 = τ0.1 225 ∧ s.2.1 218 = σ.1 218) ∧ ∀ k, s.2.1 224 k = if p ≤ k ∧ k < p + s.1.toInt.toNat then byt (five x1 x2 x3 x4 x5 ((k - p) / 4)) ((k - p) % 4) else σ.1 224 k) (fun again s hI ih => ?_) N _ ⟨(by decide : 0 ≤ (0 : Int32).toInt ∧ (0 : Int32).toInt ≤ 20), r0, ⟨rfl, o0 218 (by decide)⟩, fun k => ?_⟩
    · obtain ⟨x6, τ⟩ := s
      obtain ⟨hb, hr, ⟨h5, h8⟩, h4⟩ := hI
      have hb : 0 ≤ x6.toInt ∧ x6.toInt ≤ 20 := hb
      have hr : τ.2 = σ.2 := hr
      have h5 : τ.1 225 = τ0.1 225 := h5
      have h8 : τ.1 218 = σ.1 218 := h8
      have h4 : ∀ k, τ.1 224 k = if p ≤ k ∧ k < p + x6.toInt.toNat then byt (five x1 x2 x3 x4 x5 ((k - p) / 4)) ((k - p) % 4) else σ.1 224 k := h4
      have R9 : RF τ.2.2 := by rw [hr]; exact hR
      rw [F_X12_feed_55.eq_1]
      refine pt_if (fun z => pt_gI (pt_pI (pt_gI (pt_some ?_)))) (fun z => ?_)
      · rw [Int32.le_iff_toInt_le] at z
        simp only [Int32.reduceToInt] at z
        show (zI τ 218 _).1 224 = _
        rw [zI_n (by decide)]
        funext k
        rw [h4 k, show x6.toInt.toNat = 20 by omega]; rfl
      · rw [Int32.le_iff_toInt_le] at z
        simp only [Int32.reduceToInt] at z
        have hw : 0 ≤ x6.toInt ∧ x6.toInt ≤ 100000 := by omega
        obtain ⟨m, hm, rfl⟩ := znI (x := x6) (m := 20) hb.1 (by omega)
        have em : (nI m).toInt = (m : Int) := nI_toInt (by omega)
        have em1 : (nI m + 1).toInt = (m : Int) + 1 := by rw [a1_ hw, em]
        rw [em] at h4 hb
        have s7 : (σ.1 218 7 + nI m).toInt = (σ.1 218 7).toInt + (m : Int) := by rw [ti_add, em]; omega
        refine pt_gR (v := 224) (R9 218 6 rfl) (pt_gI (pt_gR (v := 225) (R9 218 8 rfl) (pt_nz (pt_aI (pt_nz (pt_s13 ?_))))))
        rw [h8, s7, (d4 m hm).1, (d4 m hm).2, h5]
        have e5 : τ0.1 225 (((m / 4 : Nat) : Int)).toNat = five x1 x2 x3 x4 x5 (m / 4) := f0 (m / 4) (by omega)
        rw [e5]
        refine ih (nI m + 1, _) ⟨(by rw [em1]; omega : 0 ≤ (nI m + 1).toInt ∧ (nI m + 1).toInt ≤ 20), hr, ⟨(zI_n (by decide)).trans h5, (zI_n (by decide)).trans h8⟩, fun k => ?_⟩
        show (zI τ 224 _).1 224 k = if p ≤ k ∧ k < p + (nI m + 1).toInt.toNat then byt (five x1 x2 x3 x4 x5 ((k - p) / 4)) ((k - p) % 4) else σ.1 224 k
        rw [zI_s, em1, upd_i, h4 k, ← byt_s _ (show m % 4 < 4 by omega)]
        clear s7 em1
        by_cases e : k = ((σ.1 218 7).toInt + (m : Int)).toNat
        · rw [if_pos e, if_pos (by omega), show k - p = m by omega]; rfl
        · rw [if_neg e]
          by_cases f : p ≤ k ∧ k < p + ((m : Int)).toNat
          · rw [if_pos f, if_pos (by omega)]
          · rw [if_neg f, if_neg (by omega)]
    · show τ0.1 224 k = if p ≤ k ∧ k < p + (0 : Int32).toInt.toNat then _ else _
      rw [if_neg (by simp only [Int32.reduceToInt]; omega), o0 224 (by decide)]
  · rw [Int32.le_iff_toInt_le, s20] at q
    simp only [Int32.reduceToInt] at q
    rw [if_neg (by omega)]
end FEED
end Zq13_8
section Zq13_9
/-! ===== names, sets, weights ===== -/
/-- a call that leaves the state as it is, and answers so -/
abbrev Px {α : Type} (x : Option (α × zS)) (σ : zS) (Q : α → Prop) : Prop := Pt x (fun r => r.2 = σ ∧ Q r.1)
theorem pt_zbq {α β : Type} {P : β → Prop} {σ : zS} {x : Option (α × zS)} {f : α → zS → Option β} {Q : α → Prop} (hx : Px x σ Q) (h : ∀ v, Q v → Pt (f v σ) P) : Pt (zb x f) P := pt_zbX hx h
section WTS
variable {N B : Nat} {σ : zS} {x1 x2 : Int32}
theorem pt_cpI {β : Type} {P : β → Prop} {k0 k1 : Nat} {f : zS → Option β} (h : ∀ τ : zS, (∀ j, j < 10 → τ.1 k1 j = σ.1 k0 j) → (∀ a, a ≠ k1 → τ.1 a = σ.1 a) → τ.2 = σ.2 → Pt (f τ) P) : Pt (zl (cpI k0 0 k1 0 10 σ) f) P := fun a e => by
  obtain ⟨w, h1, h2⟩ := zl_some e
  obtain ⟨_, rfl⟩ := zguard h1
  refine h (zI σ k1 (va_cpy (σ.1 k0) (σ.1 k1) (Int32.toNatClampNeg 0) (Int32.toNatClampNeg 0) (Int32.toNatClampNeg 10))) (fun j hj => ?_) (fun a ha => zI_n ha) rfl a h2
  rw [zI_s]
  show (if 0 ≤ j ∧ j < 0 + 10 then σ.1 k0 (0 + (j - 0)) else σ.1 k1 j) = _
  rw [if_pos ⟨Nat.zero_le _, by omega⟩, show 0 + (j - 0) = j by omega]
theorem vl_isName (h4 : σ.2.2 0 4 = B) : Px (f_X11_isName N 0 x1 σ) σ (fun v => ((v = 0 → ¬ (0 ≤ x1.toInt ∧ x1.toInt < (σ.1 B 0).toInt)) ∧ (¬ v = 0 → 0 ≤ x1.toInt ∧ x1.toInt < (σ.1 B 0).toInt))) := by
  rw [f_X11_isName.eq_1]
  refine pt_if (fun q => pt_rZ ⟨rfl, fun _ => ?_, fun z => absurd rfl z⟩) (fun q => pt_gR (v := B) h4 (pt_gI (pt_if (fun q2 => pt_rZ ⟨rfl, fun _ => ?_, fun z => absurd rfl z⟩) (fun q2 => pt_rZ ⟨rfl, fun z => absurd (show (1 : Int32) = 0 from z) (by decide), fun _ => ?_⟩))))
  · rw [Int32.lt_iff_toInt_lt] at q; simp only [Int32.reduceToInt] at q; omega
  · rw [Int32.le_iff_toInt_le] at q2; omega
  · rw [Int32.lt_iff_toInt_lt] at q; rw [Int32.le_iff_toInt_le] at q2; simp only [Int32.reduceToInt] at q; omega
/-- a set of the names -/
def isS (m x : Int32) : Prop := 0 < m.toInt ∧ 0 ≤ x.toInt ∧ x.toInt < ((1 : Int32) <<< (m &&& 31)).toInt
theorem vl_isSet (h4 : σ.2.2 0 4 = B) : Px (f_X11_isSet N 0 x1 σ) σ (fun v => ((v = 0 → ¬ isS (σ.1 B 0) x1) ∧ (¬ v = 0 → isS (σ.1 B 0) x1))) := by
  unfold isS
  rw [f_X11_isSet.eq_1]
  refine pt_gC (pt_zbX (σ := σ) (Q := fun v => (v = 0 → (σ.1 B 0).toInt ≤ 0) ∧ (¬ v = 0 → 0 < (σ.1 B 0).toInt)) ?_ (fun v hv => ?_))
  · rw [f_X11_isWorld.eq_1]
    refine pt_gR (v := B) h4 (pt_gI (pt_if (fun q => pt_rZ ⟨rfl, fun _ => ?_, fun z => absurd rfl z⟩) (fun q => pt_rZ ⟨rfl, fun z => absurd (show (1 : Int32) = 0 from z) (by decide), fun _ => ?_⟩)))
    · rw [Int32.le_iff_toInt_le] at q; simpa using q
    · rw [Int32.le_iff_toInt_le] at q; simp only [Int32.reduceToInt] at q; omega
  · refine pt_if (fun q => pt_rZ ⟨rfl, fun _ z => ?_, fun z => absurd rfl z⟩) (fun q => pt_if (fun q2 => pt_rZ ⟨rfl, fun _ => ?_, fun z => absurd rfl z⟩) (fun q2 => pt_gR (v := B) h4 (pt_gI (pt_if (fun q3 => pt_rZ ⟨rfl, fun _ => ?_, fun z => absurd rfl z⟩) (fun q3 => pt_rZ ⟨rfl, fun z => absurd (show (1 : Int32) = 0 from z) (by decide), fun _ => ?_⟩)))))
    · have := hv.1 q; have := z.1; omega
    · rw [Int32.lt_iff_toInt_lt] at q2; simp only [Int32.reduceToInt] at q2; omega
    · rw [Int32.le_iff_toInt_le] at q3; omega
    · rw [Int32.lt_iff_toInt_lt] at q2; rw [Int32.le_iff_toInt_le] at q3; simp only [Int32.reduceToInt] at q2; have := hv.2 q; omega
theorem vr_in {a b c : Int64} : Px (f_X12_in N a b c σ) σ (fun v => ((v = 0 → ¬ (b.toInt ≤ a.toInt ∧ a.toInt ≤ c.toInt)) ∧ (¬ v = 0 → b.toInt ≤ a.toInt ∧ a.toInt ≤ c.toInt))) := by
  rw [f_X12_in.eq_1]
  refine pt_if (fun q => pt_rZ ⟨rfl, fun _ => ?_, fun z => absurd rfl z⟩) (fun q => pt_if (fun q2 => pt_rZ ⟨rfl, fun _ => ?_, fun z => absurd rfl z⟩) (fun q2 => pt_rZ ⟨rfl, fun z => absurd (show (1 : Int32) = 0 from z) (by decide), fun _ => ?_⟩))
  · rw [zcmp_lt] at q; omega
  · rw [zcmp_gt] at q2; omega
  · rw [zcmp_lt] at q; rw [zcmp_gt] at q2; omega
theorem vr_isName (hR : RF σ.2.2) (hn : 0 ≤ (σ.1 219 0).toInt ∧ (σ.1 219 0).toInt ≤ 10) : Px (f_X12_isName N 218 x1 σ) σ (fun v => ((v = 0 → ¬ (0 ≤ x1.toInt ∧ x1.toInt < (σ.1 219 0).toInt)) ∧ (¬ v = 0 → 0 ≤ x1.toInt ∧ x1.toInt < (σ.1 219 0).toInt))) := by
  rw [f_X12_isName.eq_1]
  refine pt_gR (v := 219) (hR 218 1 rfl) (pt_aI ?_)
  have e : (σ.1 219 (Int32.toInt 0).toNat - 1).toInt = (σ.1 219 0).toInt - 1 := by
    show (σ.1 219 0 - 1).toInt = _
    rw [ti_sub]; simp only [Int32.reduceToInt]; omega
  refine pt_zbq vr_in (fun v hv => pt_rZ ⟨rfl, fun z => ?_, fun z => ?_⟩)
  · have := hv.1 z
    rw [i64_of, i64_of, e] at this
    simp only [Int64.reduceToInt] at this
    omega
  · have := hv.2 z
    rw [i64_of, i64_of, e] at this
    simp only [Int64.reduceToInt] at this
    omega
theorem vr_many (hR : RF σ.2.2) : Px (f_X12_many N 218 σ) σ (fun v => v = if 0 < (σ.1 219 0).toInt then (1 : Int32) <<< (σ.1 219 0 &&& 31) else 0) := by
  rw [f_X12_many.eq_1]
  refine pt_gC (pt_zbX (σ := σ) (Q := fun v => (v = 0 → (σ.1 219 0).toInt ≤ 0) ∧ (¬ v = 0 → 0 < (σ.1 219 0).toInt)) (pt_ok (x_X12_isWorld hR)) (fun v hv => ?_))
  refine pt_if (fun q => pt_some ⟨rfl, ?_⟩) (fun q => pt_gR (v := 219) (hR 218 1 rfl) (pt_aI (pt_some ⟨rfl, ?_⟩)))
  · rw [if_neg (by have := hv.1 q; omega)]
  · rw [if_pos (hv.2 q)]; rfl
theorem vr_isSet (hR : RF σ.2.2) (hn : 0 ≤ (σ.1 219 0).toInt ∧ (σ.1 219 0).toInt ≤ 10) : Px (f_X12_isSet N 218 x1 σ) σ (fun v => ((v = 0 → ¬ isS (σ.1 219 0) x1) ∧ (¬ v = 0 → isS (σ.1 219 0) x1))) := by
  unfold isS
  rw [f_X12_isSet.eq_1]
  refine pt_gC (pt_zbq (vr_many hR) (fun v hv => ?_))
  have b := ti_one10 hn.1 hn.2
  by_cases h0 : 0 < (σ.1 219 0).toInt
  · rw [if_pos h0] at hv
    have e : (v - 1).toInt = ((1 : Int32) <<< (σ.1 219 0 &&& 31)).toInt - 1 := by
      rw [hv, ti_sub]; simp only [Int32.reduceToInt]; omega
    refine pt_zbq vr_in (fun w hw => pt_rZ ⟨rfl, fun z => ?_, fun z => ?_⟩)
    · have := hw.1 z
      rw [i64_of, i64_of, e] at this
      simp only [Int64.reduceToInt] at this
      omega
    · have := hw.2 z
      rw [i64_of, i64_of, e] at this
      simp only [Int64.reduceToInt] at this
      omega
  · rw [if_neg h0] at hv
    refine pt_zbq vr_in (fun w hw => pt_rZ ⟨rfl, fun z q => h0 q.1, fun z => ?_⟩)
    have := hw.2 z
    rw [i64_of, i64_of, hv] at this
    have e : ((0 : Int32) - 1).toInt = -1 := by decide
    rw [e] at this
    simp only [Int64.reduceToInt] at this
    omega
/-- the weights of the first k names of a set -/
def ws (f : Nat → Int32) (x : Int32) : Nat → Int32
  | 0 => 0
  | k + 1 => ws f x k + (if ((x >>> (nI k &&& 31)) &&& 1) = 0 then 0 else f k)
theorem ws_c {f g : Nat → Int32} {x : Int32} : ∀ {k : Nat}, (∀ j, j < k → f j = g j) → ws f x k = ws g x k
  | 0, _ => rfl
  | k + 1, h => by
    show ws f x k + _ = ws g x k + _
    rw [ws_c (fun j hj => h j (by omega)), h k (by omega)]
theorem ws_z {f : Nat → Int32} {x : Int32} {n : Nat} (h0 : 0 ≤ x.toInt) (h1 : x.toInt < ((2 ^ n : Nat) : Int)) : ∀ {k : Nat}, n ≤ k → k ≤ 31 → ws f x k = ws f x n
  | 0, h, _ => by rw [show n = 0 by omega]
  | k + 1, h, hk => by
    by_cases e : n = k + 1
    · rw [e]
    · show ws f x k + _ = _
      rw [ws_z h0 h1 (show n ≤ k by omega) (by omega)]
      have z : (x >>> (nI k &&& 31)) = 0 := by
        apply Int32.toInt_inj.mp
        have := ti_shr x (n := k) (by omega)
        rw [show nI k = Int32.ofNat k from rfl, this]
        have p : 2 ^ n ≤ 2 ^ k := Nat.pow_le_pow_right (by decide) (by omega)
        rw [Int.ediv_eq_zero_of_lt h0 (by omega)]; rfl
      rw [z]
      have : ((0 : Int32) &&& 1) = 0 := by decide
      rw [if_pos this]
      exact Int32.add_zero _
theorem vl_load (hB : B = 2 ∨ B = 28) (hR : RF σ.2.2) (hn : 0 ≤ (σ.1 B 0).toInt ∧ (σ.1 B 0).toInt ≤ 10) : Px (f_X10_load N B x1 σ) σ (fun v => v = ws (σ.1 (B + 3)) x1 (σ.1 B 0).toInt.toNat) := by
  rw [f_X10_load.eq_1]
  refine pt_lp (fun s : Int32 × Int32 × zS => s.2.2 = σ ∧ (0 ≤ s.2.1.toInt ∧ s.2.1.toInt ≤ (σ.1 B 0).toInt) ∧ s.1 = ws (σ.1 (B + 3)) x1 s.2.1.toInt.toNat) (fun again s hI ih => ?_) N _ ⟨rfl, (by show 0 ≤ (0 : Int32).toInt ∧ (0 : Int32).toInt ≤ _; simp only [Int32.reduceToInt]; omega), rfl⟩
  obtain ⟨x2, x3, τ⟩ := s
  obtain ⟨e, hb, hw⟩ := hI
  have e : τ = σ := e
  subst e
  have hb : 0 ≤ x3.toInt ∧ x3.toInt ≤ (τ.1 B 0).toInt := hb
  have hw : x2 = ws (τ.1 (B + 3)) x1 x3.toInt.toNat := hw
  rw [F_X10_load_4.eq_1]
  have fin : x3.toInt = (τ.1 B 0).toInt → Pt (some (x2, τ)) (fun r => r.2 = τ ∧ r.1 = ws (τ.1 (B + 3)) x1 (τ.1 B 0).toInt.toNat) := fun z => pt_some ⟨rfl, by rw [← z]; exact hw⟩
  refine pt_gI (pt_if (fun q => fin (by rw [Int32.le_iff_toInt_le] at q; omega)) (fun q => pt_if (fun q2 => fin (by rw [Int32.le_iff_toInt_le] at q2; simp only [Int32.reduceToInt] at q2; omega)) (fun q2 => ?_)))
  rw [Int32.le_iff_toInt_le] at q
  have hw1 : 0 ≤ x3.toInt ∧ x3.toInt ≤ 100000 := by omega
  have hb1 : 0 ≤ (x3 + 1).toInt ∧ (x3 + 1).toInt ≤ (τ.1 B 0).toInt := by rw [a1_ hw1]; omega
  obtain ⟨m, hm, rfl⟩ := znI (x := x3) (m := 10) hb.1 (by omega)
  have em : (nI m).toInt = (m : Int) := nI_toInt (by omega)
  have es : (nI m + 1).toInt.toNat = m + 1 := by rw [a1_ hw1, em]; omega
  rw [em, Int.toNat_natCast] at hw
  refine pt_if (fun z => ih (x2, nI m + 1, τ) ⟨rfl, hb1, ?_⟩) (fun z => pt_gR (v := B + 3) (rB hB hR).2.2.1 (pt_aI (ih (_, nI m + 1, τ) ⟨rfl, hb1, ?_⟩)))
  · show x2 = ws _ _ (nI m + 1).toInt.toNat
    rw [es]
    show x2 = ws _ _ m + _
    rw [if_pos z, ← hw]; exact (Int32.add_zero _).symm
  · show x2 + _ = ws _ _ (nI m + 1).toInt.toNat
    rw [es, em, Int.toNat_natCast]
    show _ = ws _ _ m + _
    rw [if_neg z, ← hw]
theorem vr_weightOf (hR : RF σ.2.2) : Px (f_X12_weightOf N 218 x1 σ) σ (fun v => v = ws (fun j => σ.1 219 (3 + j)) x1 10) := by
  rw [f_X12_weightOf.eq_1]
  refine pt_lp (fun s : Int32 × Int32 × zS => s.2.2 = σ ∧ (0 ≤ s.2.1.toInt ∧ s.2.1.toInt ≤ 10) ∧ s.1 = ws (fun j => σ.1 219 (3 + j)) x1 s.2.1.toInt.toNat) (fun again s hI ih => ?_) N _ ⟨rfl, (by decide : 0 ≤ (0 : Int32).toInt ∧ (0 : Int32).toInt ≤ 10), rfl⟩
  obtain ⟨x2, x3, τ⟩ := s
  obtain ⟨e, hb, hw⟩ := hI
  have e : τ = σ := e
  subst e
  have hb : 0 ≤ x3.toInt ∧ x3.toInt ≤ 10 := hb
  have hw : x2 = ws (fun j => τ.1 219 (3 + j)) x1 x3.toInt.toNat := hw
  rw [F_X12_weightOf_4.eq_1]
  refine pt_if (fun q => pt_some ⟨rfl, ?_⟩) (fun q => ?_)
  · rw [Int32.le_iff_toInt_le] at q
    simp only [Int32.reduceToInt] at q
    show x2 = _
    rw [hw, show x3.toInt.toNat = 10 by omega]
  · rw [Int32.le_iff_toInt_le] at q
    simp only [Int32.reduceToInt] at q
    have hw1 : 0 ≤ x3.toInt ∧ x3.toInt ≤ 100000 := by omega
    have hb1 : 0 ≤ (x3 + 1).toInt ∧ (x3 + 1).toInt ≤ 10 := by rw [a1_ hw1]; omega
    have h3 : (3 + x3).toInt = 3 + x3.toInt := a3_ hw1
    refine pt_gR (v := 219) (hR 218 1 rfl) (pt_aI ?_)
    rw [h3]
    clear h3
    obtain ⟨m, hm, rfl⟩ := znI (x := x3) (m := 10) hb.1 (by omega)
    have em : (nI m).toInt = (m : Int) := nI_toInt (by omega)
    have es : (nI m + 1).toInt.toNat = m + 1 := by rw [a1_ hw1, em]; omega
    rw [em, Int.toNat_natCast] at hw
    rw [em, show (3 + (m : Int)).toNat = 3 + m by omega]
    refine ih (_, nI m + 1, τ) ⟨rfl, hb1, ?_⟩
    show x2 + _ = ws _ _ (nI m + 1).toInt.toNat
    rw [es]
    show _ = ws _ _ m + _
    rw [← hw]
    by_cases z : ((x1 >>> (nI m &&& 31)) &&& 1) = 0
    · rw [if_pos z, z]
      congr 1
      exact Int32.zero_mul
    · rw [if_neg z, bit01 z]
      congr 1
      exact Int32.one_mul _
/-- what weight answers -/
def wtV (m : Int32) (f : Nat → Int32) (x : Int32) (v : Int32) : Prop := (isS m x → v = ws f x m.toInt.toNat) ∧ (¬ isS m x → v = -2)
theorem vl_weight_ (hB : B = 2 ∨ B = 28) (hR : RF σ.2.2) (h4 : σ.2.2 0 4 = B) (hn : 0 ≤ (σ.1 B 0).toInt ∧ (σ.1 B 0).toInt ≤ 10) : Pt (f_X11_weight N 0 x1 σ) (fun r => wtV (σ.1 B 0) (σ.1 (B + 3)) x1 r.1) := by
  rw [f_X11_weight.eq_1]
  refine pt_gC (pt_zbq (vl_isSet h4) (fun v hv => ?_))
  refine pt_if (fun q => pt_some ⟨fun z => absurd z (hv.1 q), fun _ => rfl⟩) (fun q => pt_gR (v := B) h4 (pt_gC (pt_zbq (vl_load hB hR hn) (fun w hw => pt_some ⟨fun _ => hw, fun z => absurd (hv.2 q) z⟩))))
theorem vr_weight_ (hR : RF σ.2.2) (hn : 0 ≤ (σ.1 219 0).toInt ∧ (σ.1 219 0).toInt ≤ 10) : Pt (f_X12_weight N 218 x1 σ) (fun r => wtV (σ.1 219 0) (fun j => σ.1 219 (3 + j)) x1 r.1) := by
  rw [f_X12_weight.eq_1]
  refine pt_gC (pt_zbq (vr_isSet hR hn) (fun v hv => ?_))
  refine pt_if (fun q => pt_some ⟨fun z => absurd z (hv.1 q), fun _ => rfl⟩) (fun q => pt_gC (pt_zbq (vr_weightOf hR) (fun w hw => pt_some ⟨fun z => ?_, fun z => absurd (hv.2 q) z⟩)))
  have z2 := z.2.2
  rw [ti_one hn.1 (by omega)] at z2
  exact hw.trans (ws_z z.2.1 z2 (by omega) (by decide))
theorem wtV_eq {m v w : Int32} {f g : Nat → Int32} (h1 : wtV m f x1 v) (h2 : wtV m g x1 w) (hn : m.toInt ≤ 10) (e : ¬ m = 0 → ∀ j, j < 10 → f j = g j) : v = w := by
  by_cases q : isS m x1
  · rw [h1.1 q, h2.1 q]
    have nz : ¬ m = 0 := fun z => by have := q.1; rw [z] at this; exact absurd this (by decide)
    exact ws_c (fun j hj => e nz j (by omega))
  · rw [h1.2 q, h2.2 q]
/-- weigh -/
def wgOK (m x y : Int32) : Prop := (0 ≤ x.toInt ∧ x.toInt < m.toInt) ∧ 0 ≤ y.toInt ∧ y.toInt ≤ 99
theorem vl_weigh_ (hB : B = 2 ∨ B = 28) (hR : RF σ.2.2) (h4 : σ.2.2 0 4 = B) : Pt (f_X11_weigh N 0 x1 x2 σ) (fun r => (wgOK (σ.1 B 0) x1 x2 → r.1 = σ.1 (B + 3) x1.toInt.toNat ∧ r.2.1 (B + 3) = upd (σ.1 (B + 3)) x1.toInt.toNat x2) ∧ (¬ wgOK (σ.1 B 0) x1 x2 → r.1 = -2 ∧ r.2.1 (B + 3) = σ.1 (B + 3))) := by
  rw [f_X11_weigh.eq_1]
  refine pt_gC (pt_zbq (vl_isName h4) (fun v hv => ?_))
  refine pt_if (fun q => pt_some ⟨fun z => absurd z.1 (hv.1 q), fun _ => ⟨rfl, rfl⟩⟩) (fun q => pt_if (fun q2 => pt_some ⟨fun z => ?_, fun _ => ⟨rfl, rfl⟩⟩) (fun q2 => pt_if (fun q3 => ?_) (fun q3 => pt_some ⟨fun z => ?_, fun _ => ⟨rfl, rfl⟩⟩)))
  · rw [Int32.lt_iff_toInt_lt] at q2; simp only [Int32.reduceToInt] at q2; have := z.2; omega
  · have r5 := (rB hB hR).2.2.1
    refine pt_gR (v := B) h4 (pt_gR (v := B + 3) r5 (pt_aI (pt_gR (v := B) h4 (pt_gR (v := B + 3) r5 (pt_s14 (pt_some ⟨fun _ => ⟨rfl, zI_s⟩, fun z => absurd ?_ z⟩))))))
    rw [Int32.lt_iff_toInt_lt] at q2
    rw [Int32.le_iff_toInt_le] at q3
    simp only [Int32.reduceToInt] at q2 q3
    exact ⟨hv.2 q, by omega, by omega⟩
  · rw [Int32.le_iff_toInt_le] at q3; simp only [Int32.reduceToInt] at q3; have := z.2; omega
theorem vr_weigh_ (hR : RF σ.2.2) (hn : 0 ≤ (σ.1 219 0).toInt ∧ (σ.1 219 0).toInt ≤ 10) : Pt (f_X12_weigh N 218 x1 x2 σ) (fun r => (wgOK (σ.1 219 0) x1 x2 → r.1 = σ.1 219 (3 + x1.toInt.toNat) ∧ r.2.1 219 = upd (σ.1 219) (3 + x1.toInt.toNat) x2) ∧ (¬ wgOK (σ.1 219 0) x1 x2 → r.1 = -2 ∧ r.2.1 219 = σ.1 219)) := by
  rw [f_X12_weigh.eq_1]
  refine pt_gC (pt_zbq (vr_isName hR hn) (fun v hv => ?_))
  refine pt_if (fun q => pt_some ⟨fun z => absurd z.1 (hv.1 q), fun _ => ⟨rfl, rfl⟩⟩) (fun q => pt_zbq vr_in (fun w hw => ?_))
  rw [i64_of] at hw
  simp only [Int64.reduceToInt] at hw
  have b := hv.2 q
  refine pt_if (fun q2 => pt_some ⟨fun z => absurd z.2 (hw.1 q2), fun _ => ⟨rfl, rfl⟩⟩) (fun q2 => ?_)
  have h3 : (3 + x1).toInt.toNat = 3 + x1.toInt.toNat := by rw [a3_ ⟨b.1, by omega⟩]; omega
  refine pt_gR (v := 219) (hR 218 1 rfl) (pt_aI (pt_gR (v := 219) (hR 218 1 rfl) (pt_s14 (pt_some ⟨fun _ => ?_, fun z => absurd ⟨b, hw.2 q2⟩ z⟩))))
  rw [h3]
  exact ⟨rfl, zI_s⟩
end WTS
end Zq13_9
section Zq13_10
/-! ===== images: what is copied ===== -/
section IMG
variable {N B C : Nat} {σ : zS} {x1 x2 : Int32}
/-- a world's cell -/
def isWc (B : Nat) : Prop := B = 2 ∨ B = 28 ∨ B = 132 ∨ B = 158 ∨ B = 184
theorem rW (hB : isWc B) {R : Nat → Nat → Nat} (hR : RF R) : (R B 3 = B + 1 ∧ R B 4 = B + 2 ∧ R B 5 = B + 3 ∧ R B 6 = B + 4) ∧ R B 7 = B + 5 := by
  rcases hB with rfl | rfl | rfl | rfl | rfl
  · exact ⟨⟨hR 2 3 rfl, hR 2 4 rfl, hR 2 5 rfl, hR 2 6 rfl⟩, hR 2 7 rfl⟩
  · exact ⟨⟨hR 28 3 rfl, hR 28 4 rfl, hR 28 5 rfl, hR 28 6 rfl⟩, hR 28 7 rfl⟩
  · exact ⟨⟨hR 132 3 rfl, hR 132 4 rfl, hR 132 5 rfl, hR 132 6 rfl⟩, hR 132 7 rfl⟩
  · exact ⟨⟨hR 158 3 rfl, hR 158 4 rfl, hR 158 5 rfl, hR 158 6 rfl⟩, hR 158 7 rfl⟩
  · exact ⟨⟨hR 184 3 rfl, hR 184 4 rfl, hR 184 5 rfl, hR 184 6 rfl⟩, hR 184 7 rfl⟩
theorem isWc_ne (hB : isWc B) (hC : isWc C) (h : B ≠ C) : B + 25 < C ∨ C + 25 < B := by
  unfold isWc at hB hC
  omega
theorem kW (hB : isWc B) : zKd (B + 5) = (17, 10) := by
  rcases hB with rfl | rfl | rfl | rfl | rfl <;> rfl
theorem zfm : ∀ k ∈ [7, 33, 137, 163, 189], ∀ i, i < 10 → zdyn k i = false ∧ zT k i = k + 1 + 2 * i := by decide +kernel
/-- the register's cell -/
theorem rgW (hB : isWc B) {R : Nat → Nat → Nat} (hR : RF R) {i : Nat} (hi : i < 10) : R (B + 5) i = B + 6 + 2 * i ∧ (zKd (B + 6 + 2 * i)).1 = 2 := by
  have k := kW hB
  have lt : B + 5 < 243 := by unfold isWc at hB; omega
  have z := zfm (B + 5) (by rcases hB with rfl | rfl | rfl | rfl | rfl <;> decide) i hi
  have q := zarF (B + 5) lt (by rw [k]) i (by rw [k]; exact hi)
  have e : zT (B + 5) i = B + 6 + 2 * i := z.2
  rw [e] at q
  exact ⟨(hR _ _ z.1).trans e, q.2⟩
theorem vl_copy86 {P : Unit × zS → Prop} (hN : 1048576 ≤ N) (hB : isWc B) (hC : isWc C) (hR : RF σ.2.2) (hP : ∀ τ : zS, τ.1 = σ.1 → τ.2.2 = σ.2.2 → P ((), τ)) : Pt (zlp (F_X10_copyFrom_86 N B C) N (0, σ)) P := by
  refine pt_lp (fun s : Int32 × zS => s.2.1 = σ.1 ∧ s.2.2.2 = σ.2.2) (fun again s hI ih => ?_) N _ ⟨rfl, rfl⟩
  obtain ⟨x2, τ⟩ := s
  obtain ⟨h1, h2⟩ := hI
  have h1 : τ.1 = σ.1 := h1
  have h2 : τ.2.2 = σ.2.2 := h2
  have R9 : RF τ.2.2 := by rw [h2]; exact hR
  rw [F_X10_copyFrom_86.eq_1]
  refine pt_if (fun _ => pt_some (hP τ h1 h2)) (fun _ => ?_)
  refine pt_gR (v := B + 5) (rW hB R9).2 (pt_aR (pt_gR (v := C + 5) (rW hC R9).2 (pt_aR (pt_gC ?_))))
  rw [f_X2_copyFrom.eq_1]
  refine pt_zb (Q := fun r => r.2.1 = σ.1 ∧ r.2.2.2 = σ.2.2) ?_ (fun _ σ1 h => ih (x2 + 1, σ1) h)
  intro r hr
  obtain ⟨a, _, hr⟩ := zl_some hr
  obtain ⟨b, _, hr⟩ := zl_some hr
  obtain ⟨τ1, h3, hr⟩ := zl_some hr
  obtain ⟨_, e⟩ := zguard h3
  rw [← Option.some.inj hr, ← e]
  exact ⟨h1, h2⟩
theorem vl_copyFrom (hN : 1048576 ≤ N) (hB : isWc B) (hC : isWc C) (hne : B ≠ C) (hR : RF σ.2.2) : Pt (f_X10_copyFrom N B C σ) (fun r => r.2.2.2 = σ.2.2 ∧ ((r.2.1 B 0 = σ.1 C 0 ∧ r.2.1 B 1 = σ.1 C 1 ∧ r.2.1 B 2 = σ.1 C 2) ∧ ∀ a, 1 ≤ a → a ≤ 4 → ∀ j, j < 10 → r.2.1 (B + a) j = σ.1 (C + a) j) ∧ ∀ k, (k < B ∨ B + 4 < k) → r.2.1 k = σ.1 k) := by
  have d := isWc_ne hB hC hne
  have r := (rW hB hR).1
  have q := (rW hC hR).1
  rw [f_X10_copyFrom.eq_1]
  refine pt_gI (pt_pIx (fun τ1 a1 b1 c1 => pt_gI (pt_pIx (fun τ2 a2 b2 c2 => pt_gI (pt_pIx (fun τ3 a3 b3 c3 => ?_))))))
  have R3 : τ3.2 = σ.2 := by rw [c3, c2, c1]
  have e0 : τ3.1 B 0 = σ.1 C 0 := by rw [a3, upd_n (by decide), a2, upd_n (by decide), a1, upd_s]
  have e1 : τ3.1 B 1 = σ.1 C 1 := by rw [a3, upd_n (by decide), a2, upd_s, b1 C (by omega)]
  have e2 : τ3.1 B 2 = σ.1 C 2 := by rw [a3, upd_s, b2 C (by omega), b1 C (by omega)]
  have o3 : ∀ k, k ≠ B → τ3.1 k = σ.1 k := fun k hk => by rw [b3 k hk, b2 k hk, b1 k hk]
  clear a1 a2 a3 b1 b2 b3 c1 c2 c3
  refine pt_gR (v := C + 1) (by rw [R3]; exact q.1) (pt_gR (v := B + 1) (by rw [R3]; exact r.1) (pt_cpI (fun τ4 a4 b4 c4 => ?_)))
  refine pt_gR (v := C + 2) (by rw [c4, R3]; exact q.2.1) (pt_gR (v := B + 2) (by rw [c4, R3]; exact r.2.1) (pt_cpI (fun τ5 a5 b5 c5 => ?_)))
  refine pt_gR (v := C + 3) (by rw [c5, c4, R3]; exact q.2.2.1) (pt_gR (v := B + 3) (by rw [c5, c4, R3]; exact r.2.2.1) (pt_cpI (fun τ6 a6 b6 c6 => ?_)))
  refine pt_gR (v := C + 4) (by rw [c6, c5, c4, R3]; exact q.2.2.2) (pt_gR (v := B + 4) (by rw [c6, c5, c4, R3]; exact r.2.2.2) (pt_cpI (fun τ7 a7 b7 c7 => ?_)))
  have R7 : τ7.2 = σ.2 := by rw [c7, c6, c5, c4, R3]
  refine vl_copy86 hN hB hC (by rw [R7]; exact hR) (fun τ h1 h2 => ⟨by rw [h2, R7], ⟨⟨?_, ?_, ?_⟩, fun a l1 l4 j hj => ?_⟩, fun k hk => ?_⟩)
  · show τ.1 B 0 = _
    rw [h1, b7 _ (by omega), b6 _ (by omega), b5 _ (by omega), b4 _ (by omega)]; exact e0
  · show τ.1 B 1 = _
    rw [h1, b7 _ (by omega), b6 _ (by omega), b5 _ (by omega), b4 _ (by omega)]; exact e1
  · show τ.1 B 2 = _
    rw [h1, b7 _ (by omega), b6 _ (by omega), b5 _ (by omega), b4 _ (by omega)]; exact e2
  · show τ.1 (B + a) j = _
    rw [h1]
    rcases (show a = 1 ∨ a = 2 ∨ a = 3 ∨ a = 4 by omega) with rfl | rfl | rfl | rfl
    · rw [b7 _ (by omega), b6 _ (by omega), b5 _ (by omega), a4 j hj, o3 _ (by omega)]
    · rw [b7 _ (by omega), b6 _ (by omega), a5 j hj, b4 _ (by omega), o3 _ (by omega)]
    · rw [b7 _ (by omega), a6 j hj, b5 _ (by omega), b4 _ (by omega), o3 _ (by omega)]
    · rw [a7 j hj, b6 _ (by omega), b5 _ (by omega), b4 _ (by omega), o3 _ (by omega)]
  · show τ.1 k = _
    rw [h1, b7 _ (by omega), b6 _ (by omega), b5 _ (by omega), b4 _ (by omega), o3 _ (by omega)]
/-- two worlds alike, in ints -/
def CPY (s s' : Nat → Nat → Int32) (B C : Nat) : Prop := (s' B 0 = s C 0 ∧ s' B 1 = s C 1 ∧ s' B 2 = s C 2) ∧ ∀ a, 1 ≤ a → a ≤ 4 → ∀ j, j < 10 → s' (B + a) j = s (C + a) j
theorem rI {R : Nat → Nat → Nat} (hR : RF R) {k : Nat} (hk : k < 3) : R 54 k = 132 + 26 * k := by
  rcases (show k = 0 ∨ k = 1 ∨ k = 2 by omega) with rfl | rfl | rfl
  · exact hR 54 0 rfl
  · exact hR 54 1 rfl
  · exact hR 54 2 rfl
theorem wcI {k : Nat} (hk : k < 3) : isWc (132 + 26 * k) := by unfold isWc; omega
theorem vl_keep_ (hN : 1048576 ≤ N) (hB : B = 2 ∨ B = 28) (hR : RF σ.2.2) (h4 : σ.2.2 0 4 = B) : Pt (f_X11_keep N 0 x1 σ) (fun r => r.2.2.2 = σ.2.2 ∧ (0 ≤ x1.toInt ∧ x1.toInt ≤ 2 → CPY σ.1 r.2.1 (132 + 26 * x1.toInt.toNat) B ∧ ∀ k, (k < 132 + 26 * x1.toInt.toNat ∨ 132 + 26 * x1.toInt.toNat + 4 < k) → k ≠ 55 → r.2.1 k = σ.1 k) ∧ (¬ (0 ≤ x1.toInt ∧ x1.toInt ≤ 2) → r.2.1 = σ.1)) := by
  have hBw : isWc B := by unfold isWc; omega
  rw [f_X11_keep.eq_1]
  refine pt_if (fun q => pt_some ⟨rfl, fun z => ?_, fun _ => rfl⟩) (fun q => pt_if (fun q2 => ?_) (fun q2 => pt_some ⟨rfl, fun z => ?_, fun _ => rfl⟩))
  · rw [Int32.lt_iff_toInt_lt] at q; simp only [Int32.reduceToInt] at q; omega
  · rw [Int32.lt_iff_toInt_lt] at q q2
    simp only [Int32.reduceToInt] at q q2
    have hk : x1.toInt.toNat < 3 := by omega
    refine pt_gR (v := 54) (hR 0 6 rfl) (pt_aR ?_)
    rw [rI hR hk]
    refine pt_gR (v := B) h4 (pt_gC (pt_zb (vl_copyFrom hN (wcI hk) hBw (by omega) hR) (fun _ σ1 h => ?_)))
    obtain ⟨h1, h2, h3⟩ := h
    have h1 : σ1.2.2 = σ.2.2 := h1
    refine pt_gR (v := 55) (by rw [h1]; exact hR 0 7 rfl) (pt_s16 (pt_some ⟨h1, fun _ => ⟨?_, fun k hk' h55 => ?_⟩, fun z => absurd (by omega) z⟩))
    · have o : ∀ a, a ≤ 4 → (zI σ1 55 (upd (σ1.1 55) x1.toInt.toNat (vp_nar .boolean 1))).1 (132 + 26 * x1.toInt.toNat + a) = σ1.1 (132 + 26 * x1.toInt.toNat + a) := fun a _ => zI_n (by omega)
      have o0 := o 0 (by decide)
      rw [Nat.add_zero] at o0
      unfold CPY
      refine ⟨?_, fun a l1 l4 j hj => ?_⟩
      · show (zI σ1 55 _).1 _ 0 = _ ∧ (zI σ1 55 _).1 _ 1 = _ ∧ (zI σ1 55 _).1 _ 2 = _
        rw [o0]; exact h2.1
      · show (zI σ1 55 _).1 _ j = _
        rw [o a l4]; exact h2.2 a l1 l4 j hj
    · show (zI σ1 55 _).1 k = _
      rw [zI_n h55]; exact h3 k hk'
  · rw [Int32.lt_iff_toInt_lt] at q2; simp only [Int32.reduceToInt] at q2; omega
theorem vl_back_ (hN : 1048576 ≤ N) (hB : B = 2 ∨ B = 28) (hR : RF σ.2.2) (h4 : σ.2.2 0 4 = B) : Pt (f_X11_back N 0 x1 σ) (fun r => r.2.2.2 = σ.2.2 ∧ ((0 ≤ x1.toInt ∧ x1.toInt ≤ 2) ∧ ¬ σ.1 55 x1.toInt.toNat = 0 → CPY σ.1 r.2.1 B (132 + 26 * x1.toInt.toNat) ∧ ∀ k, (k < B ∨ B + 4 < k) → r.2.1 k = σ.1 k) ∧ (¬ ((0 ≤ x1.toInt ∧ x1.toInt ≤ 2) ∧ ¬ σ.1 55 x1.toInt.toNat = 0) → r.2.1 = σ.1)) := by
  have hBw : isWc B := by unfold isWc; omega
  rw [f_X11_back.eq_1]
  refine pt_if (fun q => pt_some ⟨rfl, fun z => ?_, fun _ => rfl⟩) (fun q => pt_if (fun q2 => ?_) (fun q2 => pt_some ⟨rfl, fun z => ?_, fun _ => rfl⟩))
  · rw [Int32.lt_iff_toInt_lt] at q; simp only [Int32.reduceToInt] at q; omega
  · rw [Int32.lt_iff_toInt_lt] at q q2
    simp only [Int32.reduceToInt] at q q2
    have hk : x1.toInt.toNat < 3 := by omega
    refine pt_gR (v := 55) (hR 0 7 rfl) (pt_aI (pt_if (fun z => pt_some ⟨rfl, fun y => absurd z y.2, fun _ => rfl⟩) (fun z => ?_)))
    refine pt_gR (v := B) h4 (pt_gR (v := 54) (hR 0 6 rfl) (pt_aR ?_))
    rw [rI hR hk]
    refine pt_gC (pt_zb (vl_copyFrom hN hBw (wcI hk) (by omega) hR) (fun _ σ1 h => pt_some ⟨h.1, fun _ => ⟨h.2.1, h.2.2⟩, fun y => absurd ⟨by omega, z⟩ y⟩))
  · rw [Int32.lt_iff_toInt_lt] at q2; simp only [Int32.reduceToInt] at q2; omega
theorem i43n {x y : Int32} (hx : 0 ≤ x.toInt ∧ x.toInt ≤ 2) (hy : 0 ≤ y.toInt ∧ y.toInt < 43) : (43 * x + y).toInt.toNat = 43 * x.toInt.toNat + y.toInt.toNat := by
  have m : (43 * x).toInt = 43 * x.toInt := by
    rw [ti_mul]
    simp only [Int32.reduceToInt]
    rcases (show x.toInt = 0 ∨ x.toInt = 1 ∨ x.toInt = 2 by omega) with h | h | h <;> rw [h] <;> decide
  rw [ti_add, m]
  generalize x.toInt = a at *
  generalize y.toInt = b at *
  rcases (show a = 0 ∨ a = 1 ∨ a = 2 by omega) with rfl | rfl | rfl <;> omega
theorem vr_k48 {P : Int32 × zS → Prop} (hR : RF σ.2.2) (hP : ∀ τ : zS, (∀ k, k ≠ 222 → k ≠ 223 → τ.1 k = σ.1 k) → P (0, τ)) : Pt (zlp (F_X12_keep_48 N 218 x1) N (0, σ)) P := by
  refine pt_lp (fun s : Int32 × zS => s.2.2.2 = σ.2.2 ∧ ∀ k, k ≠ 222 → s.2.1 k = σ.1 k) (fun again s hI ih => ?_) N _ ⟨rfl, fun _ _ => rfl⟩
  obtain ⟨x2, τ⟩ := s
  obtain ⟨h2, ho⟩ := hI
  have h2 : τ.2.2 = σ.2.2 := h2
  have ho : ∀ k, k ≠ 222 → τ.1 k = σ.1 k := ho
  have R9 : RF τ.2.2 := by rw [h2]; exact hR
  rw [F_X12_keep_48.eq_1]
  refine pt_if (fun _ => pt_gR (v := 223) (R9 218 5 rfl) (pt_s16 (pt_some (hP _ (fun k q q3 => (zI_n q3).trans (ho k q)))))) (fun _ => ?_)
  refine pt_gR (v := 222) (R9 218 4 rfl) (pt_gR (v := 220) (R9 218 2 rfl) (pt_aI (pt_s16 (ih (x2 + 1, _) ⟨h2, fun k hk => (zI_n hk).trans (ho k hk)⟩))))
theorem vr_keep_ (hR : RF σ.2.2) : Pt (f_X12_keep N 218 x1 σ) (fun r => (0 ≤ x1.toInt ∧ x1.toInt ≤ 2 → (∀ j, j < 43 → r.2.1 221 (43 * x1.toInt.toNat + j) = σ.1 219 j) ∧ ∀ k, (k < 43 * x1.toInt.toNat ∨ 43 * x1.toInt.toNat + 43 ≤ k) → r.2.1 221 k = σ.1 221 k) ∧ (¬ (0 ≤ x1.toInt ∧ x1.toInt ≤ 2) → r.2.1 = σ.1)) := by
  rw [f_X12_keep.eq_1]
  refine pt_zbq vr_in (fun v hv => ?_)
  rw [i64_of] at hv
  simp only [Int64.reduceToInt] at hv
  refine pt_if (fun q => pt_some ⟨fun z => absurd z (hv.1 q), fun _ => rfl⟩) (fun q => ?_)
  have hx := hv.2 q
  refine pt_lp (fun s : Int32 × zS => (0 ≤ s.1.toInt ∧ s.1.toInt ≤ 43) ∧ s.2.2.2 = σ.2.2 ∧ s.2.1 219 = σ.1 219 ∧ ∀ k, s.2.1 221 k = if 43 * x1.toInt.toNat ≤ k ∧ k < 43 * x1.toInt.toNat + s.1.toInt.toNat then σ.1 219 (k - 43 * x1.toInt.toNat) else σ.1 221 k) (fun again s hI ih => ?_) N _ ⟨(by decide : 0 ≤ (0 : Int32).toInt ∧ (0 : Int32).toInt ≤ 43), rfl, rfl, fun k => by rw [if_neg (by simp only [Int32.reduceToInt]; omega)]⟩
  obtain ⟨x2, τ⟩ := s
  obtain ⟨hb, h2, h9, hk⟩ := hI
  have hb : 0 ≤ x2.toInt ∧ x2.toInt ≤ 43 := hb
  have h2 : τ.2.2 = σ.2.2 := h2
  have h9 : τ.1 219 = σ.1 219 := h9
  have hk : ∀ k, τ.1 221 k = if 43 * x1.toInt.toNat ≤ k ∧ k < 43 * x1.toInt.toNat + x2.toInt.toNat then σ.1 219 (k - 43 * x1.toInt.toNat) else σ.1 221 k := hk
  have R9 : RF τ.2.2 := by rw [h2]; exact hR
  rw [F_X12_keep_17.eq_1]
  refine pt_if (fun z => vr_k48 R9 (fun υ ho => ⟨fun _ => ⟨fun j hj => ?_, fun k hk' => ?_⟩, fun y => absurd hx y⟩)) (fun z => ?_)
  · rw [Int32.le_iff_toInt_le] at z
    simp only [Int32.reduceToInt] at z
    show υ.1 221 _ = _
    rw [ho 221 (by decide) (by decide), hk, if_pos (by omega), show 43 * x1.toInt.toNat + j - 43 * x1.toInt.toNat = j by omega]
  · rw [Int32.le_iff_toInt_le] at z
    simp only [Int32.reduceToInt] at z
    show υ.1 221 _ = _
    rw [ho 221 (by decide) (by decide), hk, if_neg (by omega)]
  · rw [Int32.le_iff_toInt_le] at z
    simp only [Int32.reduceToInt] at z
    have hw : 0 ≤ x2.toInt ∧ x2.toInt ≤ 100000 := by omega
    have hb1 : 0 ≤ (x2 + 1).toInt ∧ (x2 + 1).toInt ≤ 43 := by rw [a1_ hw]; omega
    have ix := i43n (x := x1) (y := x2) hx (by omega)
    refine pt_gR (v := 221) (R9 218 3 rfl) (pt_gR (v := 219) (R9 218 1 rfl) (pt_aI (pt_s14 ?_)))
    rw [ix, h9]
    refine ih (x2 + 1, _) ⟨hb1, h2, (zI_n (by decide)).trans h9, fun k => ?_⟩
    show (zI τ 221 _).1 221 k = if 43 * x1.toInt.toNat ≤ k ∧ k < 43 * x1.toInt.toNat + (x2 + 1).toInt.toNat then _ else _
    rw [zI_s, upd_i, hk k, a1_ hw]
    clear hb1 ix
    by_cases e : k = 43 * x1.toInt.toNat + x2.toInt.toNat
    · rw [if_pos e, if_pos (by omega), show k - 43 * x1.toInt.toNat = x2.toInt.toNat by omega]
    · rw [if_neg e]
      by_cases f : 43 * x1.toInt.toNat ≤ k ∧ k < 43 * x1.toInt.toNat + x2.toInt.toNat
      · rw [if_pos f, if_pos (by omega)]
      · rw [if_neg f, if_neg (by omega)]
theorem vr_b60 {P : Int32 × zS → Prop} (hR : RF σ.2.2) (hP : ∀ τ : zS, (∀ k, k ≠ 220 → τ.1 k = σ.1 k) → P (0, τ)) : Pt (zlp (F_X12_back_60 N 218 x1) N (0, σ)) P := by
  refine pt_lp (fun s : Int32 × zS => s.2.2.2 = σ.2.2 ∧ ∀ k, k ≠ 220 → s.2.1 k = σ.1 k) (fun again s hI ih => ?_) N _ ⟨rfl, fun _ _ => rfl⟩
  obtain ⟨x2, τ⟩ := s
  obtain ⟨h2, ho⟩ := hI
  have h2 : τ.2.2 = σ.2.2 := h2
  have ho : ∀ k, k ≠ 220 → τ.1 k = σ.1 k := ho
  have R9 : RF τ.2.2 := by rw [h2]; exact hR
  rw [F_X12_back_60.eq_1]
  refine pt_if (fun _ => pt_some (hP _ ho)) (fun _ => ?_)
  refine pt_gR (v := 220) (R9 218 2 rfl) (pt_gR (v := 222) (R9 218 4 rfl) (pt_aI (pt_s16 (ih (x2 + 1, _) ⟨h2, fun k hk => (zI_n hk).trans (ho k hk)⟩))))
theorem vr_back_ (hR : RF σ.2.2) : Pt (f_X12_back N 218 x1 σ) (fun r => ((0 ≤ x1.toInt ∧ x1.toInt ≤ 2) ∧ ¬ σ.1 223 x1.toInt.toNat = 0 → ∀ j, j < 43 → r.2.1 219 j = σ.1 221 (43 * x1.toInt.toNat + j)) ∧ (¬ ((0 ≤ x1.toInt ∧ x1.toInt ≤ 2) ∧ ¬ σ.1 223 x1.toInt.toNat = 0) → r.2.1 = σ.1)) := by
  rw [f_X12_back.eq_1]
  refine pt_zbq vr_in (fun v hv => ?_)
  rw [i64_of] at hv
  simp only [Int64.reduceToInt] at hv
  refine pt_if (fun q => pt_some ⟨fun z => absurd z.1 (hv.1 q), fun _ => rfl⟩) (fun q => ?_)
  have hx := hv.2 q
  refine pt_gR (v := 223) (hR 218 5 rfl) (pt_aI (pt_if (fun z => pt_some ⟨fun y => absurd z y.2, fun _ => rfl⟩) (fun z => ?_)))
  refine pt_lp (fun s : Int32 × zS => (0 ≤ s.1.toInt ∧ s.1.toInt ≤ 43) ∧ s.2.2.2 = σ.2.2 ∧ s.2.1 221 = σ.1 221 ∧ ∀ j : Nat, (j : Int) < s.1.toInt → s.2.1 219 j = σ.1 221 (43 * x1.toInt.toNat + j)) (fun again s hI ih => ?_) N _ ⟨(by decide : 0 ≤ (0 : Int32).toInt ∧ (0 : Int32).toInt ≤ 43), rfl, rfl, fun j hj => absurd hj (by show ¬ (j : Int) < (0 : Int32).toInt; simp only [Int32.reduceToInt]; omega)⟩
  obtain ⟨x2, τ⟩ := s
  obtain ⟨hb, h2, h9, hk⟩ := hI
  have hb : 0 ≤ x2.toInt ∧ x2.toInt ≤ 43 := hb
  have h2 : τ.2.2 = σ.2.2 := h2
  have h9 : τ.1 221 = σ.1 221 := h9
  have hk : ∀ j : Nat, (j : Int) < x2.toInt → τ.1 219 j = σ.1 221 (43 * x1.toInt.toNat + j) := hk
  have R9 : RF τ.2.2 := by rw [h2]; exact hR
  rw [F_X12_back_29.eq_1]
  refine pt_if (fun y => vr_b60 R9 (fun υ ho => ⟨fun _ j hj => ?_, fun y => absurd ⟨hx, z⟩ y⟩)) (fun y => ?_)
  · rw [Int32.le_iff_toInt_le] at y
    simp only [Int32.reduceToInt] at y
    show υ.1 219 j = _
    rw [ho 219 (by decide)]; exact hk j (by omega)
  · rw [Int32.le_iff_toInt_le] at y
    simp only [Int32.reduceToInt] at y
    have hw : 0 ≤ x2.toInt ∧ x2.toInt ≤ 100000 := by omega
    have hb1 : 0 ≤ (x2 + 1).toInt ∧ (x2 + 1).toInt ≤ 43 := by rw [a1_ hw]; omega
    have ix := i43n (x := x1) (y := x2) hx (by omega)
    refine pt_gR (v := 219) (R9 218 1 rfl) (pt_gR (v := 221) (R9 218 3 rfl) (pt_aI (pt_s14 ?_)))
    rw [ix, h9]
    refine ih (x2 + 1, _) ⟨hb1, h2, (zI_n (by decide)).trans h9, fun j hj => ?_⟩
    have hj : (j : Int) < (x2 + 1).toInt := hj
    rw [a1_ hw] at hj
    show (zI τ 219 _).1 219 j = _
    rw [zI_s, upd_i]
    clear hb1 ix
    by_cases e : j = x2.toInt.toNat
    · rw [if_pos e, e]
    · rw [if_neg e]; exact hk j (by omega)
end IMG
end Zq13_10
section Zq13_11
/-! ===== moves: the rest of the world's row stays ===== -/
section WORD
variable {N : Nat} {σ : zS} {x1 x2 : Int32}
/-- below the order the row is the same -/
def B33 (g h : Nat → Int32) : Prop := ∀ j, j < 33 → h j = g j
theorem B33.rf {g : Nat → Int32} : B33 g g := fun _ _ => rfl
theorem B33.tr {g h k : Nat → Int32} (a : B33 g h) (b : B33 h k) : B33 g k := fun j hj => (b j hj).trans (a j hj)
theorem B33.u {g : Nat → Int32} {i : Nat} {v : Int32} (h : 33 ≤ i) : B33 g (upd g i v) := fun j hj => upd_n (by omega)
theorem a33b {x : Int32} (h : 0 ≤ x.toInt ∧ x.toInt ≤ 100) : 33 ≤ (33 + x).toInt.toNat := by
  rw [a33_ ⟨h.1, by omega⟩]
  generalize x.toInt = a at *
  omega
theorem vr_g37 {x3 : Int32} {P : Unit × zS → Prop} (hR : RF σ.2.2) (h2 : 0 ≤ x2.toInt ∧ x2.toInt ≤ 9) (h3 : x3.toInt ≤ 100) (hP : ∀ τ : zS, B33 (σ.1 219) (τ.1 219) → P ((), τ)) : Pt (zlp (F_X12_goesTo_37 N 218 x1 x2) N (x3, σ)) P := by
  refine pt_lp (fun s : Int32 × zS => s.1.toInt ≤ 100 ∧ s.2.2.2 = σ.2.2 ∧ B33 (σ.1 219) (s.2.1 219)) (fun again s hI ih => ?_) N _ ⟨h3, rfl, B33.rf⟩
  obtain ⟨x3, τ⟩ := s
  obtain ⟨hb, hr, ho⟩ := hI
  have hb : x3.toInt ≤ 100 := hb
  have hr : τ.2.2 = σ.2.2 := hr
  have ho : B33 (σ.1 219) (τ.1 219) := ho
  have R9 : RF τ.2.2 := by rw [hr]; exact hR
  rw [F_X12_goesTo_37.eq_1]
  refine pt_if (fun q => pt_gR (v := 219) (R9 218 1 rfl) (pt_s14 (pt_some (hP _ (by rw [zI_s]; exact ho.tr (B33.u (a33b ⟨h2.1, by omega⟩))))))) (fun q => ?_)
  rw [Int32.le_iff_toInt_le] at q
  have i33 := a33b (x := x3) ⟨by omega, hb⟩
  have hd : (x3 + (-1)).toInt ≤ 100 := by
    clear i33
    rw [ti_add]
    have : (-1 : Int32).toInt = -1 := rfl
    rw [this]
    generalize x3.toInt = a at *
    generalize x2.toInt = b at *
    omega
  refine pt_gR (v := 219) (R9 218 1 rfl) (pt_gR (v := 219) (R9 218 1 rfl) (pt_aI (pt_s14 ?_)))
  refine ih (x3 + (-1), _) ⟨hd, hr, ?_⟩
  show B33 (σ.1 219) ((zI τ 219 _).1 219)
  rw [zI_s]
  exact ho.tr (B33.u i33)
theorem vr_g6 {x3 : Int32} {P : Unit × zS → Prop} (hR : RF σ.2.2) (h2 : 0 ≤ x2.toInt ∧ x2.toInt ≤ 9) (h3 : 0 ≤ x3.toInt ∧ x3.toInt ≤ 100) (hP : ∀ τ : zS, B33 (σ.1 219) (τ.1 219) → P ((), τ)) : Pt (zlp (F_X12_goesTo_6 N 218 x1 x2) N (x3, σ)) P := by
  refine pt_lp (fun s : Int32 × zS => (0 ≤ s.1.toInt ∧ s.1.toInt ≤ 100) ∧ s.2.2.2 = σ.2.2 ∧ B33 (σ.1 219) (s.2.1 219)) (fun again s hI ih => ?_) N _ ⟨h3, rfl, B33.rf⟩
  obtain ⟨x3, τ⟩ := s
  obtain ⟨hb, hr, ho⟩ := hI
  have hb : 0 ≤ x3.toInt ∧ x3.toInt ≤ 100 := hb
  have hr : τ.2.2 = σ.2.2 := hr
  have ho : B33 (σ.1 219) (τ.1 219) := ho
  have R9 : RF τ.2.2 := by rw [hr]; exact hR
  rw [F_X12_goesTo_6.eq_1]
  refine pt_if (fun q => vr_g37 R9 h2 hb.2 (fun υ hυ => hP υ (ho.tr hυ))) (fun q => ?_)
  rw [Int32.le_iff_toInt_le] at q
  have i33 := a33b (x := x3) hb
  have hd : 0 ≤ (x3 + 1).toInt ∧ (x3 + 1).toInt ≤ 100 := by
    clear i33
    rw [a1_ ⟨hb.1, by omega⟩]
    omega
  refine pt_gR (v := 219) (R9 218 1 rfl) (pt_gR (v := 219) (R9 218 1 rfl) (pt_aI (pt_s14 ?_)))
  refine ih (x3 + 1, _) ⟨hd, hr, ?_⟩
  show B33 (σ.1 219) ((zI τ 219 _).1 219)
  rw [zI_s]
  exact ho.tr (B33.u i33)
theorem vr_goesTo (hN : 1048576 ≤ N) (hR : RF σ.2.2) (hM : MW (σ.1 219) 0) (hx : 0 ≤ x1.toInt ∧ x1.toInt < (σ.1 219 0).toInt) (h2 : 0 ≤ x2.toInt ∧ x2.toInt ≤ 9) : Pt (f_X12_goesTo N 218 x1 x2 σ) (fun r => B33 (σ.1 219) (r.2.1 219)) := by
  rw [f_X12_goesTo.eq_1]
  refine pt_gC (pt_zb (pt_ok (s_X12_placeOf hN hR hM hx)) (fun v1 σ1 h1 => ?_))
  obtain ⟨T1, b1, _⟩ := h1
  have T1 : Tr [] σ σ1 := T1
  have b1 : 0 ≤ v1.toInt ∧ v1.toInt < (σ.1 219 0).toInt := b1
  have := hM.1
  refine vr_g6 (hR.tr T1) h2 (by omega) (fun τ h => ?_)
  rw [T1.2 219 List.not_mem_nil] at h
  exact h
theorem vr_move_ (hN : 1048576 ≤ N) (hR : RF σ.2.2) (hM : MW (σ.1 219) 0) : Pt (f_X12_move N 218 x1 x2 σ) (fun r => B33 (σ.1 219) (r.2.1 219)) := by
  rw [f_X12_move.eq_1]
  have hn := hM.1
  refine pt_gC (pt_zbq (vr_isName hR hn) (fun v hv => pt_if (fun _ => pt_some B33.rf) (fun q => pt_gC (pt_zbq (vr_isName hR hn) (fun w hw => pt_if (fun _ => pt_some B33.rf) (fun q2 => ?_))))))
  have a := hv.2 q
  have b := hw.2 q2
  refine pt_gC (pt_zb (pt_ok (s_X12_placeOf hN hR hM a)) (fun v5 σ1 h1 => ?_))
  have T1 : Tr [] σ σ1 := h1.1
  have e9 : σ1.1 219 = σ.1 219 := T1.2 219 List.not_mem_nil
  refine pt_gC (pt_zb (vr_goesTo hN (hR.tr T1) (by rw [e9]; exact hM) (by rw [e9]; exact a) (by omega)) (fun _ σ2 h2 => pt_some ?_))
  rw [e9] at h2
  exact h2
theorem ZB_9 {r : Nat → Int32} (h : ZB σ.1) : ZB (zI σ 219 r).1 := fun k hk j => by
  by_cases q : k = 219
  · rw [q] at hk; exact absurd hk (by decide)
  · rw [zI_n q]; exact h k hk j
theorem vr_swap_ (hN : 1048576 ≤ N) (hR : RF σ.2.2) (hM : MW (σ.1 219) 0) (hB : ZB σ.1) : Pt (f_X12_swap N 218 x1 σ) (fun r => B33 (σ.1 219) (r.2.1 219)) := by
  rw [f_X12_swap.eq_1]
  have hn := hM.1
  refine pt_gC (pt_zbq (vr_isName hR hn) (fun v hv => pt_if (fun _ => pt_some B33.rf) (fun q => pt_gC (pt_zbq (vr_isName hR hn) (fun w hw => pt_if (fun _ => pt_some B33.rf) (fun q2 => ?_))))))
  have a := hv.2 q
  have b := hw.2 q2
  rw [a1_ (x := x1) ⟨a.1, by omega⟩] at b
  have ei : (33 + x1).toInt.toNat = 33 + x1.toInt.toNat := by
    rw [a33_ (x := x1) ⟨a.1, by omega⟩]
    omega
  have ej : (33 + x1 + 1).toInt.toNat = 33 + x1.toInt.toNat + 1 := by
    have e := a33_ (x := x1) ⟨a.1, by omega⟩
    rw [a1_ (x := 33 + x1) (by rw [e]; clear ei e; omega), e]
    clear ei e
    omega
  refine pt_gR (v := 219) (hR 218 1 rfl) (pt_aI (pt_gR (v := 219) (hR 218 1 rfl) (pt_gR (v := 219) (hR 218 1 rfl) (pt_aI (pt_s14 (pt_gR (v := 219) (hR 218 1 rfl) (pt_s14 (pt_gC ?_))))))))
  rw [ei, ej]
  clear ei ej
  obtain ⟨τ1, h1⟩ : ∃ τ1 : zS, τ1 = zI σ 219 (upd (σ.1 219) (33 + x1.toInt.toNat) (σ.1 219 (33 + x1.toInt.toNat + 1))) := ⟨_, rfl⟩
  rw [← h1]
  obtain ⟨τ2, h2⟩ : ∃ τ2 : zS, τ2 = zI τ1 219 (upd (τ1.1 219) (33 + x1.toInt.toNat + 1) (σ.1 219 (33 + x1.toInt.toNat))) := ⟨_, rfl⟩
  rw [← h2]
  have m2 := MW_sw h1 h2 rfl rfl (by omega) (by omega) (by omega) (by omega) (by omega) hM
  have B2 : ZB τ2.1 := by rw [h2]; exact ZB_9 (by rw [h1]; exact ZB_9 hB)
  have R2 : RF τ2.2.2 := by rw [h2, h1]; exact hR
  have o : B33 (σ.1 219) (τ2.1 219) := by
    rw [h2, zI_s, h1, zI_s]
    exact (B33.u (by omega)).tr (B33.u (by omega))
  refine pt_zb (pt_ok (s_X12_netOf hN R2 m2 B2)) (fun v σ3 h3 => pt_some ?_)
  have T3 : Tr [218, 234, 235, 236] τ2 σ3 := h3.1
  show B33 _ (σ3.1 219)
  rw [T3.2 219 (by decide)]; exact o
theorem vr_sift_ (hN : 1048576 ≤ N) (hR : RF σ.2.2) (hM : MW (σ.1 219) 0) (hB : ZB σ.1) : Pt (f_X12_sift N 218 x1 σ) (fun r => B33 (σ.1 219) (r.2.1 219)) := by
  rw [f_X12_sift.eq_1]
  refine pt_gC (pt_zbX (σ := σ) (Q := fun v => (v = 0 → True) ∧ (¬ v = 0 → 0 ≤ x1.toInt ∧ x1.toInt ≤ 9)) (pt_ok (x_X12_isRegister hR)) (fun v hv => pt_if (fun _ => pt_some B33.rf) (fun q => ?_)))
  have hp := hv.2 q
  refine pt_lp (fun s : Int32 × Int32 × zS => 0 ≤ s.2.1.toInt ∧ (RF s.2.2.2.2 ∧ MW (s.2.2.1 219) 0 ∧ ZB s.2.2.1) ∧ B33 (σ.1 219) (s.2.2.1 219)) (fun again s hI ih => ?_) N _ ⟨(by decide : 0 ≤ (0 : Int32).toInt), ⟨hR, hM, hB⟩, B33.rf⟩
  obtain ⟨x2, x3, τ⟩ := s
  obtain ⟨hb, ⟨hR, hM, hB⟩, ho⟩ := hI
  have hb : 0 ≤ x3.toInt := hb
  have hR : RF τ.2.2 := hR
  have hM : MW (τ.1 219) 0 := hM
  have hB : ZB τ.1 := hB
  have ho : B33 (σ.1 219) (τ.1 219) := ho
  rw [F_X12_sift_15.eq_1]
  refine pt_gR (v := 219) (hR 218 1 rfl) (pt_aI (pt_if (fun _ => pt_some ho) (fun q3 => ?_)))
  have q3 : ¬ τ.1 219 0 ≤ x3 := q3
  rw [Int32.le_iff_toInt_le] at q3
  have n10 := hM.1
  have w3 : (x3 + 1).toInt = x3.toInt + 1 := a1_ ⟨hb, by omega⟩
  refine pt_lp (fun s : Int32 × Int32 × Int32 × zS => (0 ≤ s.2.2.1.toInt ∧ s.2.2.1.toInt ≤ 10) ∧ (s.2.1 = -1 ∨ (0 ≤ s.2.1.toInt ∧ s.2.1.toInt < (τ.1 219 0).toInt)) ∧ ((0 < s.2.2.1.toInt → ¬ s.2.1 = -1) ∧ s.2.2.2.1 219 0 = τ.1 219 0) ∧ (RF s.2.2.2.2.2 ∧ MW (s.2.2.2.1 219) 0 ∧ ZB s.2.2.2.1) ∧ B33 (σ.1 219) (s.2.2.2.1 219)) (fun again2 s hI ih2 => ?_) N _ ⟨(by decide : 0 ≤ (0 : Int32).toInt ∧ (0 : Int32).toInt ≤ 10), Or.inl rfl, ⟨fun z => absurd (show 0 < (0 : Int32).toInt from z) (by decide), rfl⟩, ⟨hR, hM, hB⟩, ho⟩
  obtain ⟨y2, x4, x5, υ⟩ := s
  obtain ⟨hb5, h4, ⟨h45, e0⟩, ⟨hR5, hM5, hB5⟩, ho5⟩ := hI
  have hb5 : 0 ≤ x5.toInt ∧ x5.toInt ≤ 10 := hb5
  have h4 : x4 = -1 ∨ (0 ≤ x4.toInt ∧ x4.toInt < (τ.1 219 0).toInt) := h4
  have h45 : 0 < x5.toInt → ¬ x4 = -1 := h45
  have e0 : υ.1 219 0 = τ.1 219 0 := e0
  have hR5 : RF υ.2.2 := hR5
  have hM5 : MW (υ.1 219) 0 := hM5
  have hB5 : ZB υ.1 := hB5
  have ho5 : B33 (σ.1 219) (υ.1 219) := ho5
  rw [F_X12_sift_31.eq_1]
  refine pt_gR (v := 219) (hR5 218 1 rfl) (pt_aI (pt_if (fun z => ?_) (fun z => ?_)))
  · have z : υ.1 219 0 ≤ x5 := z
    rw [Int32.le_iff_toInt_le, e0] at z
    have h4 := h4.resolve_left (h45 (by omega))
    refine pt_gC (pt_zb (pt_and (pt_ok (s_X12_goesTo (x1 := x3) (x2 := x4) hN hR5 hM5 (by rw [e0]; omega) (by rw [e0]; omega))) (vr_goesTo (x1 := x3) (x2 := x4) hN hR5 hM5 (by rw [e0]; omega) (by omega))) (fun _ σ1 h => ?_))
    obtain ⟨⟨T1, m1, _⟩, b1⟩ := h
    have T1 : Tr [219] υ σ1 := T1
    exact ih (y2, x3 + 1, σ1) ⟨(by rw [w3]; omega : 0 ≤ (x3 + 1).toInt), ⟨hR5.tr T1, m1, ZB.tr T1 (by decide) hB5⟩, ho5.tr b1⟩
  · have z : ¬ υ.1 219 0 ≤ x5 := z
    rw [Int32.le_iff_toInt_le, e0] at z
    have w5 : (x5 + 1).toInt = x5.toInt + 1 := a1_ ⟨hb5.1, by omega⟩
    refine pt_gC (pt_zb (pt_and (pt_ok (s_X12_goesTo (x1 := x3) (x2 := x5) hN hR5 hM5 (by rw [e0]; omega) (by rw [e0]; omega))) (vr_goesTo (x1 := x3) (x2 := x5) hN hR5 hM5 (by rw [e0]; omega) (by omega))) (fun _ σ1 h => ?_))
    obtain ⟨⟨T1, m1, _⟩, b1⟩ := h
    have T1 : Tr [219] υ σ1 := T1
    have m1 : MW (σ1.1 219) 0 := m1
    have b1 : B33 (υ.1 219) (σ1.1 219) := b1
    have R1 := hR5.tr T1
    refine pt_gC (pt_zb (pt_ok (s_X12_takesOrder hN R1 m1)) (fun _ σ2 h => ?_))
    have T2 : Tr [235] σ1 σ2 := h.1
    have e2 : σ2.1 219 = σ1.1 219 := T2.2 219 (by decide)
    have B2 : ZB σ2.1 := ZB.tr T2 (by decide) (ZB.tr T1 (by decide) hB5)
    refine pt_gC (pt_zb (pt_ok (s_X12_nodesOf hN (R1.tr T2) (by rw [e2]; exact m1) B2 hp)) (fun v σ3 h => ?_))
    obtain ⟨T3, B3, _⟩ := h
    have T3 : Tr [218, 234, 236] σ2 σ3 := T3
    have e3 : σ3.1 219 = σ1.1 219 := (T3.2 219 (by decide)).trans e2
    have fin : ∀ y a : Int32, (0 ≤ a.toInt ∧ a.toInt < (τ.1 219 0).toInt) → Pt (again2 (y, a, x5 + 1, σ3)) (fun r => B33 (σ.1 219) (r.2.1 219)) := fun y a ha => ih2 (y, a, x5 + 1, σ3) ⟨(by rw [w5]; omega : 0 ≤ (x5 + 1).toInt ∧ (x5 + 1).toInt ≤ 10), Or.inr ha, ⟨fun _ c => by have ha := ha; rw [show a = -1 from c] at ha; exact absurd ha.1 (by decide), by show σ3.1 219 0 = _; rw [e3, b1 0 (by decide), e0]⟩, ⟨(R1.tr T2).tr T3, by show MW (σ3.1 219) 0; rw [e3]; exact m1, B3⟩, by show B33 _ (σ3.1 219); rw [e3]; exact ho5.tr b1⟩
    refine pt_if (fun _ => fin v x5 (by omega)) (fun c => pt_if (fun _ => fin v x5 (by omega)) (fun _ => fin y2 x4 (h4.resolve_left c)))
end WORD
end Zq13_11
section Zq13_12
/-! ===== worlds alike ===== -/
section WSAME
variable {s s' : Nat → Nat → Int32} {B C : Nat} {g g' : Nat → Int32} {σ τ : zS}
/-- the class's world and the reference's row: names, lines, edges; where there are names: weights, ends -/
def WE (s : Nat → Nat → Int32) (B : Nat) (g : Nat → Int32) : Prop := (s B 0 = g 0 ∧ s B 1 = g 1 ∧ s B 2 = g 2) ∧ (¬ g 0 = 0 → (∀ j, j < 10 → s (B + 3) j = g (3 + j)) ∧ ∀ j, j < (g 2).toInt.toNat → s (B + 1) j = g (13 + j) ∧ s (B + 2) j = g (23 + j))
def WQ (σ : zS) : Prop := WE σ.1 (σ.2.2 0 4) (σ.1 219) ∧ ∀ k, k < 3 → WE σ.1 (132 + 26 * k) (fun j => σ.1 221 (43 * k + j))
theorem WE_e (h2 : (g 2).toInt ≤ 10) (e : ∀ a, a ≤ 3 → s' (B + a) = s (B + a)) (eg : ∀ j, j < 33 → g' j = g j) (h : WE s B g) : WE s' B g' := by
  have e0 := e 0 (by decide)
  rw [Nat.add_zero] at e0
  unfold WE at h ⊢
  rw [e0, e 1 (by decide), e 2 (by decide), e 3 (by decide), eg 0 (by decide), eg 1 (by decide), eg 2 (by decide)]
  refine ⟨h.1, fun q => ⟨fun j hj => ?_, fun j hj => ?_⟩⟩
  · rw [eg _ (by omega)]; exact (h.2 q).1 j hj
  · rw [eg _ (by omega), eg _ (by omega)]; exact (h.2 q).2 j hj
/-- the cells of worlds -/
def WCL : List Nat := [2, 3, 4, 5, 28, 29, 30, 31, 132, 133, 134, 135, 158, 159, 160, 161, 184, 185, 186, 187]
theorem WCL_m (hB : isWc B) {a : Nat} (ha : a ≤ 3) : B + a ∈ WCL := by
  rcases hB with rfl | rfl | rfl | rfl | rfl <;> rcases (show a = 0 ∨ a = 1 ∨ a = 2 ∨ a = 3 by omega) with rfl | rfl | rfl | rfl <;> decide
/-- both objects' edges are at most ten -/
def E10 (σ : zS) : Prop := (σ.1 219 2).toInt ≤ 10 ∧ ∀ k, k < 3 → (σ.1 221 (43 * k + 2)).toInt ≤ 10
theorem WQ_f {S : List Nat} (h10 : E10 σ) (h4 : σ.2.2 0 4 = 2 ∨ σ.2.2 0 4 = 28) (t : ∀ k, k ∉ S → τ.1 k = σ.1 k) (e4 : τ.2.2 0 4 = σ.2.2 0 4) (hS : ∀ k ∈ WCL, k ∉ S) (h9 : B33 (σ.1 219) (τ.1 219)) (h1 : 221 ∉ S) (h : WQ σ) : WQ τ := by
  have o : ∀ B, isWc B → ∀ a, a ≤ 3 → τ.1 (B + a) = σ.1 (B + a) := fun B hB a ha => t _ (hS _ (WCL_m hB ha))
  refine ⟨?_, fun k hk => ?_⟩
  · rw [e4]
    exact WE_e h10.1 (o _ (by unfold isWc; omega)) h9 h.1
  · rw [t 221 h1]
    exact WE_e (h10.2 k hk) (o _ (wcI hk)) (fun _ _ => rfl) (h.2 k hk)
/-- weigh in both -/
theorem WE_w {x y : Int32} (hx : 0 ≤ x.toInt ∧ x.toInt < 10) (h0 : s' B = s B) (e1 : s' (B + 1) = s (B + 1)) (e2 : s' (B + 2) = s (B + 2)) (e3 : s' (B + 3) = upd (s (B + 3)) x.toInt.toNat y) (h : WE s B g) : WE s' B (upd g (3 + x.toInt.toNat) y) := by
  have o : ∀ j, (j < 3 ∨ 13 ≤ j) → upd g (3 + x.toInt.toNat) y j = g j := fun j hj => upd_n (by omega)
  unfold WE at h ⊢
  rw [h0, e1, e2, e3, o 0 (by omega), o 1 (by omega), o 2 (by omega)]
  refine ⟨h.1, fun q => ⟨fun j hj => ?_, fun j hj => ?_⟩⟩
  · rw [upd_i, upd_i]
    by_cases e : j = x.toInt.toNat
    · rw [if_pos e, if_pos (by omega)]
    · rw [if_neg e, if_neg (by omega)]; exact (h.2 q).1 j hj
  · rw [o _ (by omega), o _ (by omega)]; exact (h.2 q).2 j hj
/-- copies in both -/
theorem WE_cp (h2 : (g 2).toInt ≤ 10) (hc : CPY s s' B C) (eg : ∀ j, j < 43 → g' j = g j) (h : WE s C g) : WE s' B g' := by
  unfold WE at h ⊢
  rw [hc.1.1, hc.1.2.1, hc.1.2.2, eg 0 (by decide), eg 1 (by decide), eg 2 (by decide)]
  refine ⟨h.1, fun q => ⟨fun j hj => ?_, fun j hj => ?_⟩⟩
  · rw [hc.2 3 (by decide) (by decide) j hj, eg _ (by omega)]; exact (h.2 q).1 j hj
  · rw [hc.2 1 (by decide) (by decide) j (by omega), hc.2 2 (by decide) (by decide) j (by omega), eg _ (by omega), eg _ (by omega)]; exact (h.2 q).2 j hj
/-- behind the reading of a world -/
theorem WE_wp (hL : LI g) (h : WP s B g) (eg : ∀ j, j < 43 → g' j = g j) : WE s B g' := by
  have hb := hL.1.1
  unfold WE
  rw [eg 0 (by decide), eg 1 (by decide), eg 2 (by decide)]
  refine ⟨h.1, fun q => ?_⟩
  have n1 : ¬ g 1 = 0 := fun z => q (Int32.toInt_inj.mp ((hL.2.1 z).1.trans rfl))
  have w := h.2.2 n1
  refine ⟨fun j hj => ?_, fun j hj => ?_⟩
  · rw [eg _ (by omega)]; exact (w.2.1 j hj).1
  · rw [eg _ (by omega), eg _ (by omega)]; exact w.2.2 j hj
end WSAME
end Zq13_12
section Zq13_13
/-! ===== the class's families by bits ===== -/
theorem zJ_s {σ : zS} {k : Nat} {r : Nat → Int64} : (zJ σ k r).2.1 k = r := va_up_self _ _ _
theorem zJ_n {σ : zS} {k a : Nat} {r : Nat → Int64} (h : a ≠ k) : (zJ σ k r).2.1 a = σ.2.1 a := va_up_ne _ _ h
theorem updL_i {g : Nat → Int64} {j i : Nat} {v : Int64} : vp_updL g j v i = if i = j then v else g i := rfl
/-- bit s of a row of longs -/
def bt (w : Nat → Int64) (s : Nat) : Bool := (w (s / 64)).toBitVec.getLsbD (s % 64)
/-- longs of row k alone may be other -/
def LF (k : Nat) (σ τ : zS) : Prop := τ.1 = σ.1 ∧ τ.2.2 = σ.2.2 ∧ ∀ a, a ≠ k → τ.2.1 a = σ.2.1 a
theorem LF.rf {k : Nat} {σ : zS} : LF k σ σ := ⟨rfl, rfl, fun _ _ => rfl⟩
theorem LF.tr {k : Nat} {σ τ υ : zS} (h : LF k σ τ) (h2 : LF k τ υ) : LF k σ υ := ⟨h2.1.trans h.1, h2.2.1.trans h.2.1, fun a ha => (h2.2.2 a ha).trans (h.2.2 a ha)⟩
theorem LF.sJ {k : Nat} {σ τ : zS} {r : Nat → Int64} (h : LF k σ τ) : LF k σ (zJ τ k r) := ⟨h.1, h.2.1, fun a ha => (zJ_n ha).trans (h.2.2 a ha)⟩
theorem LF.R {k : Nat} {σ τ : zS} (h : LF k σ τ) (hR : RF σ.2.2) : RF τ.2.2 := by rw [h.2.1]; exact hR
theorem sx6 : ∀ s, s < 1024 → ((nI s) >>> ((6 : Int32) &&& 31)).toInt = ((s / 64 : Nat) : Int) ∧ (nI s &&& 63) = nI (s % 64) := by decide +kernel
theorem s64 : ∀ n, n < 64 → (((nI n).toInt64 &&& 63).toBitVec.smod 64).toNat = n ∧ (((nI n).toInt64.toUInt64 &&& Int64.toUInt64 63).toBitVec % 64).toNat = n := by decide +kernel
theorem zsl_bv (x : Int64) {n : Nat} (hn : n < 64) : (zsl x (nI n)).toBitVec = x.toBitVec <<< n := by
  show (x <<< ((nI n).toInt64 &&& 63)).toBitVec = _
  rw [Int64.toBitVec_shiftLeft]
  show x.toBitVec <<< (((nI n).toInt64 &&& 63).toBitVec.smod 64).toNat = _
  rw [(s64 n hn).1]
theorem zul_bv (x : Int64) {n : Nat} (hn : n < 64) : (zul x (nI n)).toBitVec = x.toBitVec >>> n := by
  show (x.toUInt64 >>> ((nI n).toInt64.toUInt64 &&& Int64.toUInt64 63)).toBitVec = _
  rw [UInt64.toBitVec_shiftRight]
  show x.toUInt64.toBitVec >>> (((nI n).toInt64.toUInt64 &&& Int64.toUInt64 63).toBitVec % 64).toNat = _
  rw [(s64 n hn).2]
  rfl
theorem cmp0 {x y : Int64} : lg_cmp x y = 0 ↔ x = y := by
  unfold lg_cmp
  by_cases h : x > y
  · rw [if_pos h]
    exact ⟨fun q => absurd q (by decide), fun q => by rw [q] at h; exact absurd h (Int64.lt_irrefl)⟩
  · rw [if_neg h]
    by_cases e : x = y
    · rw [if_pos e]; exact ⟨fun _ => e, fun _ => rfl⟩
    · rw [if_neg e]; exact ⟨fun q => absurd q (by decide), fun q => absurd q e⟩
/-- the lowest bit -/
theorem and1L (x : Int64) : (x &&& 1) = 0 ↔ x.toBitVec.getLsbD 0 = false := by
  rw [← Int64.toBitVec_inj, Int64.toBitVec_and]
  constructor
  · intro h
    have := congrArg (fun b => BitVec.getLsbD b 0) h
    simpa using this
  · intro h
    apply BitVec.eq_of_getLsbD_eq
    intro i hi
    rw [BitVec.getLsbD_and]
    by_cases e : i = 0
    · subst e; rw [h]; simp
    · have : (1 : Int64).toBitVec.getLsbD i = false := by
        have : (1 : Int64).toBitVec = 1#64 := rfl
        rw [this, BitVec.getLsbD_one]
        simp [e]
      rw [this]; simp
theorem x1_bv {x : Int64} {j : Nat} (hj : j < 64) : (x ^^^ (-1)).toBitVec.getLsbD j = !x.toBitVec.getLsbD j := by
  rw [Int64.toBitVec_xor, BitVec.getLsbD_xor]
  have : (-1 : Int64).toBitVec = BitVec.allOnes 64 := rfl
  rw [this, BitVec.getLsbD_allOnes, decide_eq_true hj, Bool.xor_true]
section FAM
variable {N x0 x1 : Nat} {σ : zS} {s : Nat}
theorem v_holds (hR : RF σ.2.2) (h0 : (zKd x0).1 = 2) (hs : s < 1024) : Px (f_X2_holds N x0 (nI s) σ) σ (fun v => (v = 0 ∨ v = 1) ∧ (v = 1 ↔ bt (σ.2.1 (x0 + 1)) s = true)) := by
  have es : (nI s).toInt = (s : Int) := nI_toInt (by omega)
  rw [f_X2_holds.eq_1]
  refine pt_if (fun q => absurd q (by rw [Int32.lt_iff_toInt_lt, es]; simp only [Int32.reduceToInt]; omega)) (fun _ => pt_if (fun q => absurd q (by rw [Int32.le_iff_toInt_le, es]; simp only [Int32.reduceToInt]; omega)) (fun _ => ?_))
  refine pt_gR (v := x0 + 1) (fam_R hR h0).1 (pt_aJ ?_)
  rw [(sx6 s hs).1, (sx6 s hs).2, Int.toNat_natCast]
  have e : bt (σ.2.1 (x0 + 1)) s = (zul (σ.2.1 (x0 + 1) (s / 64)) (nI (s % 64))).toBitVec.getLsbD 0 := by
    unfold bt
    rw [zul_bv _ (by omega), BitVec.getLsbD_ushiftRight]
    rfl
  rw [e]
  refine pt_if (fun q => pt_rZ ⟨rfl, Or.inl rfl, ?_⟩) (fun q => pt_rZ ⟨rfl, Or.inr rfl, ?_⟩)
  · rw [cmp0, and1L] at q
    rw [q]; exact ⟨fun z => absurd (show (0 : Int32) = 1 from z) (by decide), fun z => by cases z⟩
  · rw [cmp0, and1L] at q
    exact ⟨fun _ => by simpa using q, fun _ => rfl⟩
theorem one_bv {m : Nat} (hm : m < 64) {j : Nat} (hj : j < 64) : (zsl 1 (nI m)).toBitVec.getLsbD j = decide (j = m) := by
  rw [zsl_bv _ hm, BitVec.getLsbD_shiftLeft]
  have : (1 : Int64).toBitVec = 1#64 := rfl
  rw [this, BitVec.getLsbD_one]
  by_cases a : j < m
  · simp [a, hj]; omega
  · by_cases b : j = m
    · simp [b]; omega
    · simp [a, hj, b]; omega
/-- a set comes -/
theorem v_include (hR : RF σ.2.2) (h0 : (zKd x0).1 = 2) (hs : s < 1024) : Pt (f_X2_include N x0 (nI s) σ) (fun r => LF (x0 + 1) σ r.2 ∧ ∀ u, u < 1024 → bt (r.2.2.1 (x0 + 1)) u = (bt (σ.2.1 (x0 + 1)) u || decide (u = s))) := by
  have es : (nI s).toInt = (s : Int) := nI_toInt (by omega)
  rw [f_X2_include.eq_1]
  refine pt_if (fun q => absurd q (by rw [Int32.lt_iff_toInt_lt, es]; simp only [Int32.reduceToInt]; omega)) (fun _ => pt_if (fun q => absurd q (by rw [Int32.le_iff_toInt_le, es]; simp only [Int32.reduceToInt]; omega)) (fun _ => ?_))
  refine pt_gR (v := x0 + 1) (fam_R hR h0).1 (pt_aJ (pt_sJ (pt_some ⟨LF.rf.sJ, fun u hu => ?_⟩)))
  rw [(sx6 s hs).1, (sx6 s hs).2, Int.toNat_natCast]
  show bt ((zJ σ (x0 + 1) _).2.1 (x0 + 1)) u = _
  rw [zJ_s]
  unfold bt
  rw [updL_i]
  by_cases e : u / 64 = s / 64
  · rw [if_pos e, Int64.toBitVec_or, BitVec.getLsbD_or, one_bv (by omega) (by omega), e]
    congr 1
    by_cases f : u = s
    · rw [decide_eq_true f, decide_eq_true (by omega)]
    · rw [decide_eq_false f, decide_eq_false (by omega)]
  · rw [if_neg e, decide_eq_false (show ¬ u = s from fun q => e (by rw [q])), Bool.or_false]
/-- a set goes -/
theorem v_exclude (hR : RF σ.2.2) (h0 : (zKd x0).1 = 2) (hs : s < 1024) : Pt (f_X2_exclude N x0 (nI s) σ) (fun r => LF (x0 + 1) σ r.2 ∧ ∀ u, u < 1024 → bt (r.2.2.1 (x0 + 1)) u = (bt (σ.2.1 (x0 + 1)) u && !decide (u = s))) := by
  have es : (nI s).toInt = (s : Int) := nI_toInt (by omega)
  rw [f_X2_exclude.eq_1]
  refine pt_if (fun q => absurd q (by rw [Int32.lt_iff_toInt_lt, es]; simp only [Int32.reduceToInt]; omega)) (fun _ => pt_if (fun q => absurd q (by rw [Int32.le_iff_toInt_le, es]; simp only [Int32.reduceToInt]; omega)) (fun _ => ?_))
  refine pt_gR (v := x0 + 1) (fam_R hR h0).1 (pt_aJ (pt_sJ (pt_some ⟨LF.rf.sJ, fun u hu => ?_⟩)))
  rw [(sx6 s hs).1, (sx6 s hs).2, Int.toNat_natCast]
  show bt ((zJ σ (x0 + 1) _).2.1 (x0 + 1)) u = _
  rw [zJ_s]
  unfold bt
  rw [updL_i]
  by_cases e : u / 64 = s / 64
  · rw [if_pos e, Int64.toBitVec_and, BitVec.getLsbD_and, x1_bv (by omega), one_bv (by omega) (by omega), e]
    congr 2
    by_cases f : u = s
    · rw [decide_eq_true f, decide_eq_true (by omega)]
    · rw [decide_eq_false f, decide_eq_false (by omega)]
  · rw [if_neg e, decide_eq_false (show ¬ u = s from fun q => e (by rw [q]))]
    simp
theorem v_fill {k : Nat} {v : Int64} {P : Unit × zS → Prop} (hk : zKd k = (15, 16)) (hP : ∀ τ : zS, LF k σ τ → (∀ j, j < 16 → τ.2.1 k j = v) → P ((), τ)) : Pt (f_J7_fill_d0a16 N k v σ) P := by
  rw [f_J7_fill_d0a16.eq_1]
  refine pt_aL ?_
  rw [hk]
  have e16 : (Int32.ofNat ((15, 16) : Nat × Nat).2).toInt = 16 := rfl
  refine pt_lp (fun s : Int32 × zS => (0 ≤ s.1.toInt ∧ s.1.toInt ≤ 16) ∧ LF k σ s.2 ∧ ∀ j : Nat, (j : Int) < s.1.toInt → s.2.2.1 k j = v) (fun again s hI ih => ?_) N _ ⟨(by decide : 0 ≤ (0 : Int32).toInt ∧ (0 : Int32).toInt ≤ 16), LF.rf, fun j hj => absurd hj (by show ¬ (j : Int) < (0 : Int32).toInt; simp only [Int32.reduceToInt]; omega)⟩
  obtain ⟨x3, τ⟩ := s
  obtain ⟨hb, hl, hj⟩ := hI
  have hb : 0 ≤ x3.toInt ∧ x3.toInt ≤ 16 := hb
  have hl : LF k σ τ := hl
  have hj : ∀ j : Nat, (j : Int) < x3.toInt → τ.2.1 k j = v := hj
  rw [F_J7_fill_d0a16_6.eq_1]
  refine pt_if (fun q => pt_some (hP τ hl (fun j h => hj j ?_))) (fun q => ?_)
  · rw [Int32.le_iff_toInt_le, e16] at q; omega
  · rw [Int32.le_iff_toInt_le, e16] at q
    have hw : 0 ≤ x3.toInt ∧ x3.toInt ≤ 100000 := by omega
    have hb1 : 0 ≤ (x3 + 1).toInt ∧ (x3 + 1).toInt ≤ 16 := by rw [a1_ hw]; omega
    refine pt_sJ (ih (x3 + 1, _) ⟨hb1, hl.sJ, fun j h => ?_⟩)
    have h : (j : Int) < (x3 + 1).toInt := h
    rw [a1_ hw] at h
    show (zJ τ k _).2.1 k j = v
    rw [zJ_s, updL_i]
    by_cases e : j = x3.toInt.toNat
    · rw [if_pos e]
    · rw [if_neg e]; exact hj j (by omega)
theorem bt_0 {w : Nat → Int64} (h : ∀ j, j < 16 → w j = 0) {u : Nat} (hu : u < 1024) : bt w u = false := by
  unfold bt
  rw [h _ (by omega)]
  exact BitVec.getLsbD_zero
theorem v_clear (hR : RF σ.2.2) (h0 : (zKd x0).1 = 2) : Pt (f_X2_clear N x0 σ) (fun r => LF (x0 + 1) σ r.2 ∧ ∀ u, u < 1024 → bt (r.2.2.1 (x0 + 1)) u = false) := by
  rw [f_X2_clear.eq_1]
  have f := fam_R hR h0
  refine pt_gR (v := x0 + 1) f.1 (pt_zb (Q := fun r => LF (x0 + 1) σ r.2 ∧ ∀ u, u < 1024 → bt (r.2.2.1 (x0 + 1)) u = false) (v_fill f.2 (fun τ a b => ⟨a, fun u hu => bt_0 b hu⟩)) (fun _ σ1 h => pt_some h))
theorem v_copyFrom (hR : RF σ.2.2) (h0 : (zKd x0).1 = 2) (h1 : (zKd x1).1 = 2) : Pt (f_X2_copyFrom N x0 x1 σ) (fun r => LF (x0 + 1) σ r.2 ∧ ∀ u, u < 1024 → bt (r.2.2.1 (x0 + 1)) u = bt (σ.2.1 (x1 + 1)) u) := by
  rw [f_X2_copyFrom.eq_1]
  refine pt_gR (v := x1 + 1) (fam_R hR h1).1 (pt_gR (v := x0 + 1) (fam_R hR h0).1 ?_)
  intro r hr
  obtain ⟨τ, h3, hr⟩ := zl_some hr
  obtain ⟨_, e⟩ := zguard h3
  rw [← Option.some.inj hr, ← e]
  refine ⟨LF.rf.sJ, fun u hu => ?_⟩
  show bt ((zJ σ (x0 + 1) _).2.1 (x0 + 1)) u = _
  rw [zJ_s]
  unfold bt
  show (if 0 ≤ u / 64 ∧ u / 64 < 0 + 16 then σ.2.1 (x1 + 1) (0 + (u / 64 - 0)) else σ.2.1 (x0 + 1) (u / 64)).toBitVec.getLsbD (u % 64) = _
  rw [if_pos ⟨Nat.zero_le _, by omega⟩, show 0 + (u / 64 - 0) = u / 64 by omega]

theorem v_join (hR : RF σ.2.2) (h0 : (zKd x0).1 = 2) (h1 : (zKd x1).1 = 2) : Pt (f_X2_join N x0 x1 σ) (fun r => LF (x0 + 1) σ r.2 ∧ ∀ u, u < 1024 → bt (r.2.2.1 (x0 + 1)) u = (bt (σ.2.1 (x0 + 1)) u || bt (σ.2.1 (x1 + 1)) u)) := by
  rw [f_X2_join.eq_1]
  refine pt_w (Q := fun r => LF (x0 + 1) σ r.2 ∧ ∀ j, j < 16 → r.2.2.1 (x0 + 1) j = (σ.2.1 (x0 + 1) j ||| σ.2.1 (x1 + 1) j)) ?_ (fun r h => ⟨h.1, fun u hu => ?_⟩)
  · refine pt_lp (fun s : Int32 × zS => (0 ≤ s.1.toInt ∧ s.1.toInt ≤ 16) ∧ LF (x0 + 1) σ s.2 ∧ ∀ j, s.2.2.1 (x0 + 1) j = if (j : Int) < s.1.toInt then (σ.2.1 (x0 + 1) j ||| σ.2.1 (x1 + 1) j) else σ.2.1 (x0 + 1) j) (fun again s hI ih => ?_) N _ ⟨(by decide : 0 ≤ (0 : Int32).toInt ∧ (0 : Int32).toInt ≤ 16), LF.rf, fun j => by rw [if_neg (by simp only [Int32.reduceToInt]; omega)]⟩
    obtain ⟨x2, τ⟩ := s
    obtain ⟨hb, hl, hj⟩ := hI
    have hb : 0 ≤ x2.toInt ∧ x2.toInt ≤ 16 := hb
    have hl : LF (x0 + 1) σ τ := hl
    have hj : ∀ j, τ.2.1 (x0 + 1) j = if (j : Int) < x2.toInt then (σ.2.1 (x0 + 1) j ||| σ.2.1 (x1 + 1) j) else σ.2.1 (x0 + 1) j := hj
    have R9 := hl.R hR
    have r0 := (fam_R R9 h0).1
    rw [F_X2_join_2.eq_1]
    refine pt_if (fun q => pt_some ⟨hl, fun j h => ?_⟩) (fun q => ?_)
    · rw [Int32.le_iff_toInt_le] at q
      simp only [Int32.reduceToInt] at q
      show τ.2.1 (x0 + 1) j = _
      rw [hj, if_pos (by omega)]
    · rw [Int32.le_iff_toInt_le] at q
      simp only [Int32.reduceToInt] at q
      have hw : 0 ≤ x2.toInt ∧ x2.toInt ≤ 100000 := by omega
      have hb1 : 0 ≤ (x2 + 1).toInt ∧ (x2 + 1).toInt ≤ 16 := by rw [a1_ hw]; omega
      have e0 : τ.2.1 (x0 + 1) x2.toInt.toNat = σ.2.1 (x0 + 1) x2.toInt.toNat := by rw [hj, if_neg (by omega)]
      have e1 : τ.2.1 (x1 + 1) x2.toInt.toNat = σ.2.1 (x1 + 1) x2.toInt.toNat := by
        by_cases e : x1 = x0
        · rw [e]; exact e0
        · rw [hl.2.2 _ (by omega)]
      have r1 := (fam_R R9 h1).1
      refine pt_gR (v := x0 + 1) r0 (pt_aJ (pt_gR (v := x1 + 1) r1 (pt_aJ (pt_sJ ?_))))
      rw [e0, e1]
      refine ih (x2 + 1, _) ⟨hb1, hl.sJ, fun j => ?_⟩
      show (zJ τ (x0 + 1) _).2.1 (x0 + 1) j = if (j : Int) < (x2 + 1).toInt then (σ.2.1 (x0 + 1) j ||| σ.2.1 (x1 + 1) j) else σ.2.1 (x0 + 1) j
      rw [zJ_s, updL_i, a1_ hw, hj j]
      clear hb1
      by_cases e : j = x2.toInt.toNat
      · rw [if_pos e, if_pos (by omega), e]
      · rw [if_neg e]
        by_cases f : (j : Int) < x2.toInt
        · rw [if_pos f, if_pos (by omega)]
        · rw [if_neg f, if_neg (by omega)]

  · unfold bt
    rw [h.2 _ (by omega)]
    rw [Int64.toBitVec_or, BitVec.getLsbD_or]
theorem v_cutBy (hR : RF σ.2.2) (h0 : (zKd x0).1 = 2) (h1 : (zKd x1).1 = 2) : Pt (f_X2_cutBy N x0 x1 σ) (fun r => LF (x0 + 1) σ r.2 ∧ ∀ u, u < 1024 → bt (r.2.2.1 (x0 + 1)) u = (bt (σ.2.1 (x0 + 1)) u && bt (σ.2.1 (x1 + 1)) u)) := by
  rw [f_X2_cutBy.eq_1]
  refine pt_w (Q := fun r => LF (x0 + 1) σ r.2 ∧ ∀ j, j < 16 → r.2.2.1 (x0 + 1) j = (σ.2.1 (x0 + 1) j &&& σ.2.1 (x1 + 1) j)) ?_ (fun r h => ⟨h.1, fun u hu => ?_⟩)
  · refine pt_lp (fun s : Int32 × zS => (0 ≤ s.1.toInt ∧ s.1.toInt ≤ 16) ∧ LF (x0 + 1) σ s.2 ∧ ∀ j, s.2.2.1 (x0 + 1) j = if (j : Int) < s.1.toInt then (σ.2.1 (x0 + 1) j &&& σ.2.1 (x1 + 1) j) else σ.2.1 (x0 + 1) j) (fun again s hI ih => ?_) N _ ⟨(by decide : 0 ≤ (0 : Int32).toInt ∧ (0 : Int32).toInt ≤ 16), LF.rf, fun j => by rw [if_neg (by simp only [Int32.reduceToInt]; omega)]⟩
    obtain ⟨x2, τ⟩ := s
    obtain ⟨hb, hl, hj⟩ := hI
    have hb : 0 ≤ x2.toInt ∧ x2.toInt ≤ 16 := hb
    have hl : LF (x0 + 1) σ τ := hl
    have hj : ∀ j, τ.2.1 (x0 + 1) j = if (j : Int) < x2.toInt then (σ.2.1 (x0 + 1) j &&& σ.2.1 (x1 + 1) j) else σ.2.1 (x0 + 1) j := hj
    have R9 := hl.R hR
    have r0 := (fam_R R9 h0).1
    rw [F_X2_cutBy_2.eq_1]
    refine pt_if (fun q => pt_some ⟨hl, fun j h => ?_⟩) (fun q => ?_)
    · rw [Int32.le_iff_toInt_le] at q
      simp only [Int32.reduceToInt] at q
      show τ.2.1 (x0 + 1) j = _
      rw [hj, if_pos (by omega)]
    · rw [Int32.le_iff_toInt_le] at q
      simp only [Int32.reduceToInt] at q
      have hw : 0 ≤ x2.toInt ∧ x2.toInt ≤ 100000 := by omega
      have hb1 : 0 ≤ (x2 + 1).toInt ∧ (x2 + 1).toInt ≤ 16 := by rw [a1_ hw]; omega
      have e0 : τ.2.1 (x0 + 1) x2.toInt.toNat = σ.2.1 (x0 + 1) x2.toInt.toNat := by rw [hj, if_neg (by omega)]
      have e1 : τ.2.1 (x1 + 1) x2.toInt.toNat = σ.2.1 (x1 + 1) x2.toInt.toNat := by
        by_cases e : x1 = x0
        · rw [e]; exact e0
        · rw [hl.2.2 _ (by omega)]
      have r1 := (fam_R R9 h1).1
      refine pt_gR (v := x0 + 1) r0 (pt_aJ (pt_gR (v := x1 + 1) r1 (pt_aJ (pt_sJ ?_))))
      rw [e0, e1]
      refine ih (x2 + 1, _) ⟨hb1, hl.sJ, fun j => ?_⟩
      show (zJ τ (x0 + 1) _).2.1 (x0 + 1) j = if (j : Int) < (x2 + 1).toInt then (σ.2.1 (x0 + 1) j &&& σ.2.1 (x1 + 1) j) else σ.2.1 (x0 + 1) j
      rw [zJ_s, updL_i, a1_ hw, hj j]
      clear hb1
      by_cases e : j = x2.toInt.toNat
      · rw [if_pos e, if_pos (by omega), e]
      · rw [if_neg e]
        by_cases f : (j : Int) < x2.toInt
        · rw [if_pos f, if_pos (by omega)]
        · rw [if_neg f, if_neg (by omega)]

  · unfold bt
    rw [h.2 _ (by omega)]
    rw [Int64.toBitVec_and, BitVec.getLsbD_and]
theorem v_takeAway (hR : RF σ.2.2) (h0 : (zKd x0).1 = 2) (h1 : (zKd x1).1 = 2) : Pt (f_X2_takeAway N x0 x1 σ) (fun r => LF (x0 + 1) σ r.2 ∧ ∀ u, u < 1024 → bt (r.2.2.1 (x0 + 1)) u = (bt (σ.2.1 (x0 + 1)) u && !bt (σ.2.1 (x1 + 1)) u)) := by
  rw [f_X2_takeAway.eq_1]
  refine pt_w (Q := fun r => LF (x0 + 1) σ r.2 ∧ ∀ j, j < 16 → r.2.2.1 (x0 + 1) j = (σ.2.1 (x0 + 1) j &&& (σ.2.1 (x1 + 1) j ^^^ (-1)))) ?_ (fun r h => ⟨h.1, fun u hu => ?_⟩)
  · refine pt_lp (fun s : Int32 × zS => (0 ≤ s.1.toInt ∧ s.1.toInt ≤ 16) ∧ LF (x0 + 1) σ s.2 ∧ ∀ j, s.2.2.1 (x0 + 1) j = if (j : Int) < s.1.toInt then (σ.2.1 (x0 + 1) j &&& (σ.2.1 (x1 + 1) j ^^^ (-1))) else σ.2.1 (x0 + 1) j) (fun again s hI ih => ?_) N _ ⟨(by decide : 0 ≤ (0 : Int32).toInt ∧ (0 : Int32).toInt ≤ 16), LF.rf, fun j => by rw [if_neg (by simp only [Int32.reduceToInt]; omega)]⟩
    obtain ⟨x2, τ⟩ := s
    obtain ⟨hb, hl, hj⟩ := hI
    have hb : 0 ≤ x2.toInt ∧ x2.toInt ≤ 16 := hb
    have hl : LF (x0 + 1) σ τ := hl
    have hj : ∀ j, τ.2.1 (x0 + 1) j = if (j : Int) < x2.toInt then (σ.2.1 (x0 + 1) j &&& (σ.2.1 (x1 + 1) j ^^^ (-1))) else σ.2.1 (x0 + 1) j := hj
    have R9 := hl.R hR
    have r0 := (fam_R R9 h0).1
    rw [F_X2_takeAway_2.eq_1]
    refine pt_if (fun q => pt_some ⟨hl, fun j h => ?_⟩) (fun q => ?_)
    · rw [Int32.le_iff_toInt_le] at q
      simp only [Int32.reduceToInt] at q
      show τ.2.1 (x0 + 1) j = _
      rw [hj, if_pos (by omega)]
    · rw [Int32.le_iff_toInt_le] at q
      simp only [Int32.reduceToInt] at q
      have hw : 0 ≤ x2.toInt ∧ x2.toInt ≤ 100000 := by omega
      have hb1 : 0 ≤ (x2 + 1).toInt ∧ (x2 + 1).toInt ≤ 16 := by rw [a1_ hw]; omega
      have e0 : τ.2.1 (x0 + 1) x2.toInt.toNat = σ.2.1 (x0 + 1) x2.toInt.toNat := by rw [hj, if_neg (by omega)]
      have e1 : τ.2.1 (x1 + 1) x2.toInt.toNat = σ.2.1 (x1 + 1) x2.toInt.toNat := by
        by_cases e : x1 = x0
        · rw [e]; exact e0
        · rw [hl.2.2 _ (by omega)]
      have r1 := (fam_R R9 h1).1
      refine pt_gR (v := x0 + 1) r0 (pt_aJ (pt_gR (v := x1 + 1) r1 (pt_aJ (pt_sJ ?_))))
      rw [e0, e1]
      refine ih (x2 + 1, _) ⟨hb1, hl.sJ, fun j => ?_⟩
      show (zJ τ (x0 + 1) _).2.1 (x0 + 1) j = if (j : Int) < (x2 + 1).toInt then (σ.2.1 (x0 + 1) j &&& (σ.2.1 (x1 + 1) j ^^^ (-1))) else σ.2.1 (x0 + 1) j
      rw [zJ_s, updL_i, a1_ hw, hj j]
      clear hb1
      by_cases e : j = x2.toInt.toNat
      · rw [if_pos e, if_pos (by omega), e]
      · rw [if_neg e]
        by_cases f : (j : Int) < x2.toInt
        · rw [if_pos f, if_pos (by omega)]
        · rw [if_neg f, if_neg (by omega)]

  · unfold bt
    rw [h.2 _ (by omega)]
    rw [Int64.toBitVec_and, BitVec.getLsbD_and, x1_bv (by omega)]
theorem pt_aW {β : Type} {P : β → Prop} {i : Int32} {f : Int64 → Option β} (h : Pt (f (zWo i.toInt.toNat)) P) : Pt (zl (aW i) f) P := fun a e => by
  obtain ⟨w, h1, h2⟩ := zl_some e
  obtain ⟨_, rfl⟩ := zguard h1
  exact h a h2
theorem zWo_b : ∀ k, k < 6 → ∀ i, i < 64 → (zWo k).toBitVec.getLsbD i = !(i.testBit k) := by decide +kernel
theorem sh1 : ∀ k, k < 10 → ((1 : Int32) <<< (nI k &&& 31)) = nI (2 ^ k) ∧ (nI k).toInt = (k : Int) := by decide +kernel
theorem sh6 : ∀ k, k < 4 → ((1 : Int32) <<< ((nI (k + 6) - 6) &&& 31)) = nI (2 ^ k) := by decide +kernel
theorem fx64a : ∀ k, k < 6 → ∀ r, r < 64 → r.testBit k = true → r ^^^ 2 ^ k = r - 2 ^ k ∧ 2 ^ k ≤ r ∧ (r - 2 ^ k).testBit k = false := by decide +kernel
theorem fx64b : ∀ k, k < 6 → ∀ r, r < 64 → r.testBit k = false → r ^^^ 2 ^ k = r + 2 ^ k ∧ (r < 2 ^ k ∨ (r - 2 ^ k).testBit k = true) ∧ r + 2 ^ k < 64 := by decide +kernel
theorem fx64c : ∀ k, k < 6 → 2 ^ k < 2 ^ 6 ∧ 2 ^ k < 2 ^ 10 := by decide
theorem fx6m {k : Nat} (hk : k < 6) (u : Nat) : (u ^^^ 2 ^ k) % 64 = (u % 64) ^^^ 2 ^ k ∧ (u % 64).testBit k = u.testBit k := by
  constructor
  · show (u ^^^ 2 ^ k) % 2 ^ 6 = (u % 2 ^ 6) ^^^ 2 ^ k
    rw [Nat.xor_mod_two_pow, Nat.mod_eq_of_lt (fx64c k hk).1]
  · show (u % 2 ^ 6).testBit k = _
    rw [Nat.testBit_mod_two_pow, decide_eq_true hk, Bool.true_and]
theorem fx6a : ∀ k, k < 6 → ∀ u, u < 1024 → ((u ^^^ 2 ^ k) / 64 = u / 64 ∧ (u ^^^ 2 ^ k) < 1024 ∧ (u % 64).testBit k = u.testBit k) := fun k hk u hu => by
  refine ⟨?_, Nat.xor_lt_two_pow (n := 10) hu (fx64c k hk).2, (fx6m hk u).2⟩
  show (u ^^^ 2 ^ k) / 2 ^ 6 = u / 2 ^ 6
  rw [Nat.xor_div_two_pow, Nat.div_eq_of_lt (fx64c k hk).1, Nat.xor_zero]
theorem fx6b : ∀ k, k < 6 → ∀ u, u < 1024 → (u.testBit k = true → (u ^^^ 2 ^ k) % 64 = u % 64 - 2 ^ k ∧ 2 ^ k ≤ u % 64 ∧ (u % 64 - 2 ^ k).testBit k = false) := fun k hk u _ h => by
  rw [(fx6m hk u).1]
  exact fx64a k hk (u % 64) (Nat.mod_lt _ (by decide)) ((fx6m hk u).2.trans h)
theorem fx6c : ∀ k, k < 6 → ∀ u, u < 1024 → (u.testBit k = false → (u ^^^ 2 ^ k) % 64 = u % 64 + 2 ^ k ∧ (u % 64 < 2 ^ k ∨ (u % 64 - 2 ^ k).testBit k = true) ∧ u % 64 + 2 ^ k < 64) := fun k hk u _ h => by
  rw [(fx6m hk u).1]
  exact fx64b k hk (u % 64) (Nat.mod_lt _ (by decide)) ((fx6m hk u).2.trans h)
theorem fx6 : ∀ k, k < 6 → ∀ u, u < 1024 → ((u ^^^ 2 ^ k) / 64 = u / 64 ∧ (u ^^^ 2 ^ k) < 1024 ∧ (u % 64).testBit k = u.testBit k) ∧ (u.testBit k = true → (u ^^^ 2 ^ k) % 64 = u % 64 - 2 ^ k ∧ 2 ^ k ≤ u % 64 ∧ (u % 64 - 2 ^ k).testBit k = false) ∧ (u.testBit k = false → (u ^^^ 2 ^ k) % 64 = u % 64 + 2 ^ k ∧ (u % 64 < 2 ^ k ∨ (u % 64 - 2 ^ k).testBit k = true) ∧ u % 64 + 2 ^ k < 64) := fun k hk u hu => ⟨fx6a k hk u hu, fx6b k hk u hu, fx6c k hk u hu⟩
theorem fx10 : ∀ k, k < 4 → ∀ u, u < 1024 → (u ^^^ 2 ^ (k + 6)) / 64 = (u / 64) ^^^ 2 ^ k ∧ (u ^^^ 2 ^ (k + 6)) % 64 = u % 64 ∧ (u / 64).testBit k = u.testBit (k + 6) ∧ (u ^^^ 2 ^ (k + 6)) < 1024 := by decide +kernel
theorem gx : ∀ k, k < 4 → ∀ m, m < 16 → ((m.testBit k = false → m + 2 ^ k = m ^^^ 2 ^ k ∧ (m ^^^ 2 ^ k).testBit k = true) ∧ (m.testBit k = true → (m ^^^ 2 ^ k).testBit k = false ∧ (m ^^^ 2 ^ k) + 2 ^ k = m)) ∧ (m ^^^ 2 ^ k) ^^^ 2 ^ k = m ∧ (m ^^^ 2 ^ k) < 16 ∧ ((nI m &&& nI (2 ^ k)) = 0 ↔ m.testBit k = false) := by decide +kernel
theorem p2k : ∀ k, k < 6 → 2 ^ k < 64 ∧ (nI (2 ^ k)).toInt = ((2 ^ k : Nat) : Int) := by decide +kernel
theorem zslQ {x : Int64} {k : Nat} (hk : k < 6) {u : Nat} (hu : u < 1024) : (zsl (x &&& zWo k) (nI (2 ^ k))).toBitVec.getLsbD (u % 64) = (u.testBit k && x.toBitVec.getLsbD ((u ^^^ 2 ^ k) % 64)) := by
  have f := fx6 k hk u hu
  rw [zsl_bv _ (p2k k hk).1, BitVec.getLsbD_shiftLeft, Int64.toBitVec_and, BitVec.getLsbD_and]
  cases h : u.testBit k with
  | true =>
    have a := f.2.1 h
    rw [zWo_b k hk _ (by omega), a.2.2, a.1, decide_eq_true (show u % 64 < 64 by omega), decide_eq_false (show ¬ u % 64 < 2 ^ k by omega)]
    simp
  | false =>
    have a := (f.2.2 h).2.1
    by_cases q : u % 64 < 2 ^ k
    · rw [decide_eq_true q]; simp
    · rw [zWo_b k hk _ (by have := Nat.sub_le (u % 64) (2 ^ k); omega), a.resolve_left q]; simp
theorem zulm {x : Int64} {k : Nat} (hk : k < 6) {u : Nat} (hu : u < 1024) : ((zul x (nI (2 ^ k))) &&& zWo k).toBitVec.getLsbD (u % 64) = (!u.testBit k && x.toBitVec.getLsbD ((u ^^^ 2 ^ k) % 64)) := by
  have f := fx6 k hk u hu
  rw [Int64.toBitVec_and, BitVec.getLsbD_and, zul_bv _ (p2k k hk).1, BitVec.getLsbD_ushiftRight, zWo_b k hk _ (by omega), f.1.2.2]
  cases h : u.testBit k with
  | true => simp
  | false =>
    have a := (f.2.2 h).1
    rw [a, Nat.add_comm]; simp

theorem v_raise19 {k : Nat} (hR : RF σ.2.2) (h0 : (zKd x0).1 = 2) (hk : k < 6) : Pt (zlp (F_X2_raise_19 N x0 (nI k)) N (0, σ)) (fun r => LF (x0 + 1) σ r.2 ∧ ∀ u, u < 1024 → bt (r.2.2.1 (x0 + 1)) u = (bt (σ.2.1 (x0 + 1)) u || (u.testBit k && bt (σ.2.1 (x0 + 1)) (u ^^^ 2 ^ k)))) := by
  refine pt_w (Q := fun r => LF (x0 + 1) σ r.2 ∧ ∀ j, j < 16 → r.2.2.1 (x0 + 1) j = (σ.2.1 (x0 + 1) j ||| zsl (σ.2.1 (x0 + 1) j &&& zWo k) (nI (2 ^ k)))) ?_ (fun r h => ⟨h.1, fun u hu => ?_⟩)
  · refine pt_lp (fun s : Int32 × zS => (0 ≤ s.1.toInt ∧ s.1.toInt ≤ 16) ∧ LF (x0 + 1) σ s.2 ∧ ∀ j, s.2.2.1 (x0 + 1) j = if (j : Int) < s.1.toInt then (σ.2.1 (x0 + 1) j ||| zsl (σ.2.1 (x0 + 1) j &&& zWo k) (nI (2 ^ k))) else σ.2.1 (x0 + 1) j) (fun again s hI ih => ?_) N _ ⟨(by decide : 0 ≤ (0 : Int32).toInt ∧ (0 : Int32).toInt ≤ 16), LF.rf, fun j => by rw [if_neg (by simp only [Int32.reduceToInt]; omega)]⟩
    obtain ⟨x2, τ⟩ := s
    obtain ⟨hb, hl, hj⟩ := hI
    have hb : 0 ≤ x2.toInt ∧ x2.toInt ≤ 16 := hb
    have hl : LF (x0 + 1) σ τ := hl
    have hj : ∀ j, τ.2.1 (x0 + 1) j = if (j : Int) < x2.toInt then (σ.2.1 (x0 + 1) j ||| zsl (σ.2.1 (x0 + 1) j &&& zWo k) (nI (2 ^ k))) else σ.2.1 (x0 + 1) j := hj
    have R9 := hl.R hR
    have r0 := (fam_R R9 h0).1
    rw [F_X2_raise_19.eq_1]
    refine pt_if (fun q => pt_some ⟨hl, fun j h => ?_⟩) (fun q => ?_)
    · rw [Int32.le_iff_toInt_le] at q
      simp only [Int32.reduceToInt] at q
      show τ.2.1 (x0 + 1) j = _
      rw [hj, if_pos (by omega)]
    · rw [Int32.le_iff_toInt_le] at q
      simp only [Int32.reduceToInt] at q
      have hw : 0 ≤ x2.toInt ∧ x2.toInt ≤ 100000 := by omega
      have hb1 : 0 ≤ (x2 + 1).toInt ∧ (x2 + 1).toInt ≤ 16 := by rw [a1_ hw]; omega
      have e0 : τ.2.1 (x0 + 1) x2.toInt.toNat = σ.2.1 (x0 + 1) x2.toInt.toNat := by rw [hj, if_neg (by omega)]
      have ek : (nI k).toInt.toNat = k := by rw [(sh1 k (by omega)).2]; omega
      refine pt_gR (v := x0 + 1) r0 (pt_aJ (pt_gR (v := x0 + 1) r0 (pt_aJ (pt_aW (pt_sJ ?_)))))
      rw [e0, ek, (sh1 k (by omega)).1]
      refine ih (x2 + 1, _) ⟨hb1, hl.sJ, fun j => ?_⟩
      show (zJ τ (x0 + 1) _).2.1 (x0 + 1) j = if (j : Int) < (x2 + 1).toInt then (σ.2.1 (x0 + 1) j ||| zsl (σ.2.1 (x0 + 1) j &&& zWo k) (nI (2 ^ k))) else σ.2.1 (x0 + 1) j
      rw [zJ_s, updL_i, a1_ hw, hj j]
      clear hb1
      by_cases e : j = x2.toInt.toNat
      · rw [if_pos e, if_pos (by omega), e]
      · rw [if_neg e]
        by_cases f : (j : Int) < x2.toInt
        · rw [if_pos f, if_pos (by omega)]
        · rw [if_neg f, if_neg (by omega)]

  · unfold bt
    rw [h.2 _ (by omega)]
    rw [Int64.toBitVec_or, BitVec.getLsbD_or, zslQ hk hu, (fx6 k hk u hu).1.1]
theorem v_lower19 {k : Nat} (hR : RF σ.2.2) (h0 : (zKd x0).1 = 2) (hk : k < 6) : Pt (zlp (F_X2_lower_19 N x0 (nI k)) N (0, σ)) (fun r => LF (x0 + 1) σ r.2 ∧ ∀ u, u < 1024 → bt (r.2.2.1 (x0 + 1)) u = (bt (σ.2.1 (x0 + 1)) u || (!u.testBit k && bt (σ.2.1 (x0 + 1)) (u ^^^ 2 ^ k)))) := by
  refine pt_w (Q := fun r => LF (x0 + 1) σ r.2 ∧ ∀ j, j < 16 → r.2.2.1 (x0 + 1) j = (σ.2.1 (x0 + 1) j ||| (zul (σ.2.1 (x0 + 1) j) (nI (2 ^ k)) &&& zWo k))) ?_ (fun r h => ⟨h.1, fun u hu => ?_⟩)
  · refine pt_lp (fun s : Int32 × zS => (0 ≤ s.1.toInt ∧ s.1.toInt ≤ 16) ∧ LF (x0 + 1) σ s.2 ∧ ∀ j, s.2.2.1 (x0 + 1) j = if (j : Int) < s.1.toInt then (σ.2.1 (x0 + 1) j ||| (zul (σ.2.1 (x0 + 1) j) (nI (2 ^ k)) &&& zWo k)) else σ.2.1 (x0 + 1) j) (fun again s hI ih => ?_) N _ ⟨(by decide : 0 ≤ (0 : Int32).toInt ∧ (0 : Int32).toInt ≤ 16), LF.rf, fun j => by rw [if_neg (by simp only [Int32.reduceToInt]; omega)]⟩
    obtain ⟨x2, τ⟩ := s
    obtain ⟨hb, hl, hj⟩ := hI
    have hb : 0 ≤ x2.toInt ∧ x2.toInt ≤ 16 := hb
    have hl : LF (x0 + 1) σ τ := hl
    have hj : ∀ j, τ.2.1 (x0 + 1) j = if (j : Int) < x2.toInt then (σ.2.1 (x0 + 1) j ||| (zul (σ.2.1 (x0 + 1) j) (nI (2 ^ k)) &&& zWo k)) else σ.2.1 (x0 + 1) j := hj
    have R9 := hl.R hR
    have r0 := (fam_R R9 h0).1
    rw [F_X2_lower_19.eq_1]
    refine pt_if (fun q => pt_some ⟨hl, fun j h => ?_⟩) (fun q => ?_)
    · rw [Int32.le_iff_toInt_le] at q
      simp only [Int32.reduceToInt] at q
      show τ.2.1 (x0 + 1) j = _
      rw [hj, if_pos (by omega)]
    · rw [Int32.le_iff_toInt_le] at q
      simp only [Int32.reduceToInt] at q
      have hw : 0 ≤ x2.toInt ∧ x2.toInt ≤ 100000 := by omega
      have hb1 : 0 ≤ (x2 + 1).toInt ∧ (x2 + 1).toInt ≤ 16 := by rw [a1_ hw]; omega
      have e0 : τ.2.1 (x0 + 1) x2.toInt.toNat = σ.2.1 (x0 + 1) x2.toInt.toNat := by rw [hj, if_neg (by omega)]
      have ek : (nI k).toInt.toNat = k := by rw [(sh1 k (by omega)).2]; omega
      refine pt_gR (v := x0 + 1) r0 (pt_aJ (pt_gR (v := x0 + 1) r0 (pt_aJ (pt_aW (pt_sJ ?_)))))
      rw [e0, ek, (sh1 k (by omega)).1]
      refine ih (x2 + 1, _) ⟨hb1, hl.sJ, fun j => ?_⟩
      show (zJ τ (x0 + 1) _).2.1 (x0 + 1) j = if (j : Int) < (x2 + 1).toInt then (σ.2.1 (x0 + 1) j ||| (zul (σ.2.1 (x0 + 1) j) (nI (2 ^ k)) &&& zWo k)) else σ.2.1 (x0 + 1) j
      rw [zJ_s, updL_i, a1_ hw, hj j]
      clear hb1
      by_cases e : j = x2.toInt.toNat
      · rw [if_pos e, if_pos (by omega), e]
      · rw [if_neg e]
        by_cases f : (j : Int) < x2.toInt
        · rw [if_pos f, if_pos (by omega)]
        · rw [if_neg f, if_neg (by omega)]

  · unfold bt
    rw [h.2 _ (by omega)]
    rw [Int64.toBitVec_or, BitVec.getLsbD_or, zulm hk hu, (fx6 k hk u hu).1.1]
theorem v_flip23 {k : Nat} (hR : RF σ.2.2) (h0 : (zKd x0).1 = 2) (hk : k < 6) : Pt (zlp (F_X2_flip_23 N x0 (nI k) (nI (2 ^ k))) N (0, σ)) (fun r => LF (x0 + 1) σ r.2 ∧ ∀ u, u < 1024 → bt (r.2.2.1 (x0 + 1)) u = bt (σ.2.1 (x0 + 1)) (u ^^^ 2 ^ k)) := by
  refine pt_w (Q := fun r => LF (x0 + 1) σ r.2 ∧ ∀ j, j < 16 → r.2.2.1 (x0 + 1) j = (zsl (σ.2.1 (x0 + 1) j &&& zWo k) (nI (2 ^ k)) ||| (zul (σ.2.1 (x0 + 1) j) (nI (2 ^ k)) &&& zWo k))) ?_ (fun r h => ⟨h.1, fun u hu => ?_⟩)
  · refine pt_lp (fun s : Int32 × zS => (0 ≤ s.1.toInt ∧ s.1.toInt ≤ 16) ∧ LF (x0 + 1) σ s.2 ∧ ∀ j, s.2.2.1 (x0 + 1) j = if (j : Int) < s.1.toInt then (zsl (σ.2.1 (x0 + 1) j &&& zWo k) (nI (2 ^ k)) ||| (zul (σ.2.1 (x0 + 1) j) (nI (2 ^ k)) &&& zWo k)) else σ.2.1 (x0 + 1) j) (fun again s hI ih => ?_) N _ ⟨(by decide : 0 ≤ (0 : Int32).toInt ∧ (0 : Int32).toInt ≤ 16), LF.rf, fun j => by rw [if_neg (by simp only [Int32.reduceToInt]; omega)]⟩
    obtain ⟨x2, τ⟩ := s
    obtain ⟨hb, hl, hj⟩ := hI
    have hb : 0 ≤ x2.toInt ∧ x2.toInt ≤ 16 := hb
    have hl : LF (x0 + 1) σ τ := hl
    have hj : ∀ j, τ.2.1 (x0 + 1) j = if (j : Int) < x2.toInt then (zsl (σ.2.1 (x0 + 1) j &&& zWo k) (nI (2 ^ k)) ||| (zul (σ.2.1 (x0 + 1) j) (nI (2 ^ k)) &&& zWo k)) else σ.2.1 (x0 + 1) j := hj
    have R9 := hl.R hR
    have r0 := (fam_R R9 h0).1
    rw [F_X2_flip_23.eq_1]
    refine pt_if (fun q => pt_some ⟨hl, fun j h => ?_⟩) (fun q => ?_)
    · rw [Int32.le_iff_toInt_le] at q
      simp only [Int32.reduceToInt] at q
      show τ.2.1 (x0 + 1) j = _
      rw [hj, if_pos (by omega)]
    · rw [Int32.le_iff_toInt_le] at q
      simp only [Int32.reduceToInt] at q
      have hw : 0 ≤ x2.toInt ∧ x2.toInt ≤ 100000 := by omega
      have hb1 : 0 ≤ (x2 + 1).toInt ∧ (x2 + 1).toInt ≤ 16 := by rw [a1_ hw]; omega
      have e0 : τ.2.1 (x0 + 1) x2.toInt.toNat = σ.2.1 (x0 + 1) x2.toInt.toNat := by rw [hj, if_neg (by omega)]
      have ek : (nI k).toInt.toNat = k := by rw [(sh1 k (by omega)).2]; omega
      refine pt_gR (v := x0 + 1) r0 (pt_gR (v := x0 + 1) r0 (pt_aJ (pt_aW (pt_gR (v := x0 + 1) r0 (pt_aJ (pt_aW (pt_sJ ?_)))))))
      rw [e0, ek]
      refine ih (x2 + 1, _) ⟨hb1, hl.sJ, fun j => ?_⟩
      show (zJ τ (x0 + 1) _).2.1 (x0 + 1) j = if (j : Int) < (x2 + 1).toInt then (zsl (σ.2.1 (x0 + 1) j &&& zWo k) (nI (2 ^ k)) ||| (zul (σ.2.1 (x0 + 1) j) (nI (2 ^ k)) &&& zWo k)) else σ.2.1 (x0 + 1) j
      rw [zJ_s, updL_i, a1_ hw, hj j]
      clear hb1
      by_cases e : j = x2.toInt.toNat
      · rw [if_pos e, if_pos (by omega), e]
      · rw [if_neg e]
        by_cases f : (j : Int) < x2.toInt
        · rw [if_pos f, if_pos (by omega)]
        · rw [if_neg f, if_neg (by omega)]

  · unfold bt
    rw [h.2 _ (by omega)]
    rw [Int64.toBitVec_or, BitVec.getLsbD_or, zslQ hk hu, zulm hk hu, (fx6 k hk u hu).1.1]
    cases u.testBit k <;> simp
theorem v_keep13 {k : Nat} (hR : RF σ.2.2) (h0 : (zKd x0).1 = 2) (hk : k < 6) : Pt (zlp (F_X2_keepWithout_13 N x0 (nI k)) N (0, σ)) (fun r => LF (x0 + 1) σ r.2 ∧ ∀ u, u < 1024 → bt (r.2.2.1 (x0 + 1)) u = (bt (σ.2.1 (x0 + 1)) u && !u.testBit k)) := by
  refine pt_w (Q := fun r => LF (x0 + 1) σ r.2 ∧ ∀ j, j < 16 → r.2.2.1 (x0 + 1) j = (σ.2.1 (x0 + 1) j &&& zWo k)) ?_ (fun r h => ⟨h.1, fun u hu => ?_⟩)
  · refine pt_lp (fun s : Int32 × zS => (0 ≤ s.1.toInt ∧ s.1.toInt ≤ 16) ∧ LF (x0 + 1) σ s.2 ∧ ∀ j, s.2.2.1 (x0 + 1) j = if (j : Int) < s.1.toInt then (σ.2.1 (x0 + 1) j &&& zWo k) else σ.2.1 (x0 + 1) j) (fun again s hI ih => ?_) N _ ⟨(by decide : 0 ≤ (0 : Int32).toInt ∧ (0 : Int32).toInt ≤ 16), LF.rf, fun j => by rw [if_neg (by simp only [Int32.reduceToInt]; omega)]⟩
    obtain ⟨x2, τ⟩ := s
    obtain ⟨hb, hl, hj⟩ := hI
    have hb : 0 ≤ x2.toInt ∧ x2.toInt ≤ 16 := hb
    have hl : LF (x0 + 1) σ τ := hl
    have hj : ∀ j, τ.2.1 (x0 + 1) j = if (j : Int) < x2.toInt then (σ.2.1 (x0 + 1) j &&& zWo k) else σ.2.1 (x0 + 1) j := hj
    have R9 := hl.R hR
    have r0 := (fam_R R9 h0).1
    rw [F_X2_keepWithout_13.eq_1]
    refine pt_if (fun q => pt_some ⟨hl, fun j h => ?_⟩) (fun q => ?_)
    · rw [Int32.le_iff_toInt_le] at q
      simp only [Int32.reduceToInt] at q
      show τ.2.1 (x0 + 1) j = _
      rw [hj, if_pos (by omega)]
    · rw [Int32.le_iff_toInt_le] at q
      simp only [Int32.reduceToInt] at q
      have hw : 0 ≤ x2.toInt ∧ x2.toInt ≤ 100000 := by omega
      have hb1 : 0 ≤ (x2 + 1).toInt ∧ (x2 + 1).toInt ≤ 16 := by rw [a1_ hw]; omega
      have e0 : τ.2.1 (x0 + 1) x2.toInt.toNat = σ.2.1 (x0 + 1) x2.toInt.toNat := by rw [hj, if_neg (by omega)]
      have ek : (nI k).toInt.toNat = k := by rw [(sh1 k (by omega)).2]; omega
      refine pt_if (fun z => absurd z (by rw [Int32.le_iff_toInt_le, (sh1 k (by omega)).2]; simp only [Int32.reduceToInt]; omega)) (fun _ => pt_gR (v := x0 + 1) r0 (pt_aJ (pt_aW (pt_sJ ?_))))
      rw [e0, ek]
      refine ih (x2 + 1, _) ⟨hb1, hl.sJ, fun j => ?_⟩
      show (zJ τ (x0 + 1) _).2.1 (x0 + 1) j = if (j : Int) < (x2 + 1).toInt then (σ.2.1 (x0 + 1) j &&& zWo k) else σ.2.1 (x0 + 1) j
      rw [zJ_s, updL_i, a1_ hw, hj j]
      clear hb1
      by_cases e : j = x2.toInt.toNat
      · rw [if_pos e, if_pos (by omega), e]
      · rw [if_neg e]
        by_cases f : (j : Int) < x2.toInt
        · rw [if_pos f, if_pos (by omega)]
        · rw [if_neg f, if_neg (by omega)]

  · unfold bt
    rw [h.2 _ (by omega)]
    rw [Int64.toBitVec_and, BitVec.getLsbD_and, zWo_b k hk _ (by omega), (fx6 k hk u hu).1.2.2]
theorem v_raise66 {k : Nat} (hR : RF σ.2.2) (h0 : (zKd x0).1 = 2) (hk : k < 4) : Pt (zlp (F_X2_raise_66 N x0 (nI (2 ^ k))) N (0, σ)) (fun r => LF (x0 + 1) σ r.2 ∧ ∀ j, j < 16 → r.2.2.1 (x0 + 1) j = (if j.testBit k = true then (σ.2.1 (x0 + 1) j ||| σ.2.1 (x0 + 1) (j ^^^ 2 ^ k)) else σ.2.1 (x0 + 1) j)) := by
  refine pt_lp (fun s : Int32 × zS => (0 ≤ s.1.toInt ∧ s.1.toInt ≤ 16) ∧ LF (x0 + 1) σ s.2 ∧ ∀ j, j < 16 → s.2.2.1 (x0 + 1) j = (if j.testBit k = true ∧ ((j ^^^ 2 ^ k : Nat) : Int) < s.1.toInt then (σ.2.1 (x0 + 1) j ||| σ.2.1 (x0 + 1) (j ^^^ 2 ^ k)) else σ.2.1 (x0 + 1) j)) (fun again s hI ih => ?_) N _ ⟨(by decide : 0 ≤ (0 : Int32).toInt ∧ (0 : Int32).toInt ≤ 16), LF.rf, fun j _ => by rw [if_neg (by simp only [Int32.reduceToInt]; omega)]⟩
  obtain ⟨x3, τ⟩ := s
  obtain ⟨hb, hl, hj⟩ := hI
  have hb : 0 ≤ x3.toInt ∧ x3.toInt ≤ 16 := hb
  have hl : LF (x0 + 1) σ τ := hl
  have hj : ∀ j, j < 16 → τ.2.1 (x0 + 1) j = (if j.testBit k = true ∧ ((j ^^^ 2 ^ k : Nat) : Int) < x3.toInt then (σ.2.1 (x0 + 1) j ||| σ.2.1 (x0 + 1) (j ^^^ 2 ^ k)) else σ.2.1 (x0 + 1) j) := hj
  have R9 := hl.R hR
  have r0 := (fam_R R9 h0).1
  obtain ⟨m, hm, rfl⟩ := znI (x := x3) (m := 17) hb.1 (by omega)
  have em : (nI m).toInt = (m : Int) := nI_toInt (by omega)
  have hw : 0 ≤ (nI m).toInt ∧ (nI m).toInt ≤ 100000 := by omega
  rw [em] at hj hb
  have p8 : 1 ≤ 2 ^ k ∧ 2 ^ k ≤ 8 := by
    rcases (show k = 0 ∨ k = 1 ∨ k = 2 ∨ k = 3 by omega) with rfl | rfl | rfl | rfl <;> decide
  have es : (nI m + nI (2 ^ k)).toInt = (m : Int) + ((2 ^ k : Nat) : Int) := by
    rw [ti_add, em, (p2k k (by omega)).2]; omega
  rw [F_X2_raise_66.eq_1]
  refine pt_if (fun q => pt_some ⟨hl, fun j h => ?_⟩) (fun q => ?_)
  · rw [Int32.le_iff_toInt_le, es] at q
    simp only [Int32.reduceToInt] at q
    show τ.2.1 (x0 + 1) j = _
    rw [hj j h]
    have g := gx k hk j h
    cases hb' : j.testBit k with
    | true =>
      have a := g.1.2 hb'
      rw [if_pos ⟨rfl, by omega⟩, if_pos rfl]
    | false => rw [if_neg (fun z => by cases z.1), if_neg (by simp)]
  · rw [Int32.le_iff_toInt_le, es] at q
    simp only [Int32.reduceToInt] at q
    have hm16 : m < 16 := by omega
    have g := gx k hk m hm16
    have hb1 : 0 ≤ (nI m + 1).toInt ∧ (nI m + 1).toInt ≤ 16 := by rw [a1_ hw, em]; omega
    have e1 : (nI m + 1).toInt = (m : Int) + 1 := by rw [a1_ hw, em]
    have inj : ∀ j, j < 16 → (j ^^^ 2 ^ k = m ↔ j = m ^^^ 2 ^ k) := fun j h => ⟨fun z => by rw [← z, (gx k hk j h).2.1], fun z => by rw [z, g.2.1]⟩
    refine pt_if (fun z => ?_) (fun z => ?_)
    · have mb := g.2.2.2.mp z
      have a := g.1.1 mb
      refine pt_gR (v := x0 + 1) r0 (pt_aJ (pt_gR (v := x0 + 1) r0 (pt_aJ (pt_sJ (ih (nI m + 1, _) ⟨hb1, hl.sJ, fun j h => ?_⟩)))))
      show (zJ τ (x0 + 1) _).2.1 (x0 + 1) j = (if j.testBit k = true ∧ ((j ^^^ 2 ^ k : Nat) : Int) < (nI m + 1).toInt then _ else _)
      have e2 : ((m : Int) + ((2 ^ k : Nat) : Int)).toNat = m ^^^ 2 ^ k := by rw [← a.1]; omega
      rw [zJ_s, updL_i, es, e1, em, e2, Int.toNat_natCast, hj j h, hj _ g.2.2.1, hj m hm16, if_neg (show ¬ ((m ^^^ 2 ^ k).testBit k = true ∧ (((m ^^^ 2 ^ k) ^^^ 2 ^ k : Nat) : Int) < (m : Int)) by rw [g.2.1]; omega), if_neg (show ¬ (m.testBit k = true ∧ ((m ^^^ 2 ^ k : Nat) : Int) < (m : Int)) by rw [mb]; simp)]
      clear es e1 hb1
      by_cases e : j = m ^^^ 2 ^ k
      · subst e
        rw [if_pos rfl, if_pos ⟨a.2, by rw [g.2.1]; omega⟩, g.2.1]
      · rw [if_neg e]
        have ne : j ^^^ 2 ^ k ≠ m := fun z => e ((inj j h).mp z)
        by_cases c : j.testBit k = true ∧ ((j ^^^ 2 ^ k : Nat) : Int) < (m : Int)
        · rw [if_pos c, if_pos ⟨c.1, by omega⟩]
        · rw [if_neg c, if_neg (fun y => c ⟨y.1, by omega⟩)]
    · have mb : m.testBit k = true := by
        cases hh : m.testBit k with
        | true => rfl
        | false => exact absurd (g.2.2.2.mpr hh) z
      refine ih (nI m + 1, τ) ⟨hb1, hl, fun j h => ?_⟩
      show τ.2.1 (x0 + 1) j = (if j.testBit k = true ∧ ((j ^^^ 2 ^ k : Nat) : Int) < (nI m + 1).toInt then _ else _)
      rw [hj j h, e1]
      clear es e1 hb1
      by_cases c : j.testBit k = true ∧ ((j ^^^ 2 ^ k : Nat) : Int) < (m : Int)
      · rw [if_pos c, if_pos ⟨c.1, by omega⟩]
      · rw [if_neg c, if_neg (fun y => c ⟨y.1, ?_⟩)]
        have ne : j ^^^ 2 ^ k ≠ m := fun z => by
          have := (inj j h).mp z
          rw [this, (g.1.2 mb).1] at y
          cases y.1
        omega

theorem v_lower66 {k : Nat} (hR : RF σ.2.2) (h0 : (zKd x0).1 = 2) (hk : k < 4) : Pt (zlp (F_X2_lower_66 N x0 (nI (2 ^ k))) N (0, σ)) (fun r => LF (x0 + 1) σ r.2 ∧ ∀ j, j < 16 → r.2.2.1 (x0 + 1) j = (if j.testBit k = false then (σ.2.1 (x0 + 1) j ||| σ.2.1 (x0 + 1) (j ^^^ 2 ^ k)) else σ.2.1 (x0 + 1) j)) := by
  refine pt_lp (fun s : Int32 × zS => (0 ≤ s.1.toInt ∧ s.1.toInt ≤ 16) ∧ LF (x0 + 1) σ s.2 ∧ ∀ j, j < 16 → s.2.2.1 (x0 + 1) j = (if j.testBit k = false ∧ (j : Int) < s.1.toInt then (σ.2.1 (x0 + 1) j ||| σ.2.1 (x0 + 1) (j ^^^ 2 ^ k)) else σ.2.1 (x0 + 1) j)) (fun again s hI ih => ?_) N _ ⟨(by decide : 0 ≤ (0 : Int32).toInt ∧ (0 : Int32).toInt ≤ 16), LF.rf, fun j _ => by rw [if_neg (by simp only [Int32.reduceToInt]; omega)]⟩
  obtain ⟨x3, τ⟩ := s
  obtain ⟨hb, hl, hj⟩ := hI
  have hb : 0 ≤ x3.toInt ∧ x3.toInt ≤ 16 := hb
  have hl : LF (x0 + 1) σ τ := hl
  have hj : ∀ j, j < 16 → τ.2.1 (x0 + 1) j = (if j.testBit k = false ∧ (j : Int) < x3.toInt then (σ.2.1 (x0 + 1) j ||| σ.2.1 (x0 + 1) (j ^^^ 2 ^ k)) else σ.2.1 (x0 + 1) j) := hj
  have R9 := hl.R hR
  have r0 := (fam_R R9 h0).1
  obtain ⟨m, hm, rfl⟩ := znI (x := x3) (m := 17) hb.1 (by omega)
  have em : (nI m).toInt = (m : Int) := nI_toInt (by omega)
  have hw : 0 ≤ (nI m).toInt ∧ (nI m).toInt ≤ 100000 := by omega
  rw [em] at hj hb
  have p8 : 1 ≤ 2 ^ k ∧ 2 ^ k ≤ 8 := by
    rcases (show k = 0 ∨ k = 1 ∨ k = 2 ∨ k = 3 by omega) with rfl | rfl | rfl | rfl <;> decide
  have es : (nI m + nI (2 ^ k)).toInt = (m : Int) + ((2 ^ k : Nat) : Int) := by
    rw [ti_add, em, (p2k k (by omega)).2]; omega
  rw [F_X2_lower_66.eq_1]
  refine pt_if (fun q => pt_some ⟨hl, fun j h => ?_⟩) (fun q => ?_)
  · rw [Int32.le_iff_toInt_le, es] at q
    simp only [Int32.reduceToInt] at q
    show τ.2.1 (x0 + 1) j = _
    rw [hj j h]
    have g := gx k hk j h
    cases hb' : j.testBit k with
    | false =>
      have a := g.1.1 hb'
      rw [if_pos ⟨rfl, by omega⟩, if_pos rfl]
    | true => rw [if_neg (fun z => by cases z.1), if_neg (by simp)]
  · rw [Int32.le_iff_toInt_le, es] at q
    simp only [Int32.reduceToInt] at q
    have hm16 : m < 16 := by omega
    have g := gx k hk m hm16
    have hb1 : 0 ≤ (nI m + 1).toInt ∧ (nI m + 1).toInt ≤ 16 := by rw [a1_ hw, em]; omega
    have e1 : (nI m + 1).toInt = (m : Int) + 1 := by rw [a1_ hw, em]
    have inj : ∀ j, j < 16 → (j ^^^ 2 ^ k = m ↔ j = m ^^^ 2 ^ k) := fun j h => ⟨fun z => by rw [← z, (gx k hk j h).2.1], fun z => by rw [z, g.2.1]⟩
    refine pt_if (fun z => ?_) (fun z => ?_)
    · have mb := g.2.2.2.mp z
      have a := g.1.1 mb
      refine pt_gR (v := x0 + 1) r0 (pt_aJ (pt_gR (v := x0 + 1) r0 (pt_aJ (pt_sJ (ih (nI m + 1, _) ⟨hb1, hl.sJ, fun j h => ?_⟩)))))
      show (zJ τ (x0 + 1) _).2.1 (x0 + 1) j = (if j.testBit k = false ∧ (j : Int) < (nI m + 1).toInt then _ else _)
      have e2 : ((m : Int) + ((2 ^ k : Nat) : Int)).toNat = m ^^^ 2 ^ k := by rw [← a.1]; omega
      rw [zJ_s, updL_i, es, e1, em, e2, Int.toNat_natCast, hj j h, hj _ g.2.2.1, hj m hm16, if_neg (show ¬ ((m ^^^ 2 ^ k).testBit k = false ∧ ((m ^^^ 2 ^ k : Nat) : Int) < (m : Int)) by rw [a.2]; simp), if_neg (show ¬ (m.testBit k = false ∧ (m : Int) < (m : Int)) by omega)]
      clear es e1 hb1
      by_cases e : j = m
      · subst e
        rw [if_pos rfl, if_pos ⟨mb, by omega⟩]
      · rw [if_neg e]
        by_cases c : j.testBit k = false ∧ (j : Int) < (m : Int)
        · rw [if_pos c, if_pos ⟨c.1, by omega⟩]
        · rw [if_neg c, if_neg (fun y => c ⟨y.1, by omega⟩)]
    · have mb : m.testBit k = true := by
        cases hh : m.testBit k with
        | true => rfl
        | false => exact absurd (g.2.2.2.mpr hh) z
      refine ih (nI m + 1, τ) ⟨hb1, hl, fun j h => ?_⟩
      show τ.2.1 (x0 + 1) j = (if j.testBit k = false ∧ (j : Int) < (nI m + 1).toInt then _ else _)
      rw [hj j h, e1]
      clear es e1 hb1
      by_cases c : j.testBit k = false ∧ (j : Int) < (m : Int)
      · rw [if_pos c, if_pos ⟨c.1, by omega⟩]
      · rw [if_neg c, if_neg (fun y => c ⟨y.1, ?_⟩)]
        have ne : j ≠ m := fun z => by
          rw [z, mb] at y
          cases y.1
        omega

theorem v_flip80 {k : Nat} (hR : RF σ.2.2) (h0 : (zKd x0).1 = 2) (hk : k < 4) : Pt (zlp (F_X2_flip_80 N x0 (nI (2 ^ k))) N (0, σ)) (fun r => LF (x0 + 1) σ r.2 ∧ ∀ j, j < 16 → r.2.2.1 (x0 + 1) j = σ.2.1 (x0 + 1) (j ^^^ 2 ^ k)) := by
  refine pt_lp (fun s : Int32 × zS => (0 ≤ s.1.toInt ∧ s.1.toInt ≤ 16) ∧ LF (x0 + 1) σ s.2 ∧ ∀ j, j < 16 → s.2.2.1 (x0 + 1) j = (if ((if j.testBit k = true then (j ^^^ 2 ^ k) else j : Nat) : Int) < s.1.toInt then σ.2.1 (x0 + 1) (j ^^^ 2 ^ k) else σ.2.1 (x0 + 1) j)) (fun again s hI ih => ?_) N _ ⟨(by decide : 0 ≤ (0 : Int32).toInt ∧ (0 : Int32).toInt ≤ 16), LF.rf, fun j _ => by rw [if_neg (by simp only [Int32.reduceToInt]; omega)]⟩
  obtain ⟨x3, τ⟩ := s
  obtain ⟨hb, hl, hj⟩ := hI
  have hb : 0 ≤ x3.toInt ∧ x3.toInt ≤ 16 := hb
  have hl : LF (x0 + 1) σ τ := hl
  have hj : ∀ j, j < 16 → τ.2.1 (x0 + 1) j = (if ((if j.testBit k = true then (j ^^^ 2 ^ k) else j : Nat) : Int) < x3.toInt then σ.2.1 (x0 + 1) (j ^^^ 2 ^ k) else σ.2.1 (x0 + 1) j) := hj
  have R9 := hl.R hR
  have r0 := (fam_R R9 h0).1
  obtain ⟨m, hm, rfl⟩ := znI (x := x3) (m := 17) hb.1 (by omega)
  have em : (nI m).toInt = (m : Int) := nI_toInt (by omega)
  have hw : 0 ≤ (nI m).toInt ∧ (nI m).toInt ≤ 100000 := by omega
  rw [em] at hj hb
  have p8 : 1 ≤ 2 ^ k ∧ 2 ^ k ≤ 8 := by
    rcases (show k = 0 ∨ k = 1 ∨ k = 2 ∨ k = 3 by omega) with rfl | rfl | rfl | rfl <;> decide
  have es : (nI m + nI (2 ^ k)).toInt = (m : Int) + ((2 ^ k : Nat) : Int) := by
    rw [ti_add, em, (p2k k (by omega)).2]; omega
  rw [F_X2_flip_80.eq_1]
  refine pt_if (fun q => pt_some ⟨hl, fun j h => ?_⟩) (fun q => ?_)
  · rw [Int32.le_iff_toInt_le, es] at q
    simp only [Int32.reduceToInt] at q
    show τ.2.1 (x0 + 1) j = _
    rw [hj j h]
    have g := gx k hk j h
    cases hb' : j.testBit k with
    | false =>
      have a := g.1.1 hb'
      rw [if_pos (by simp; omega)]
    | true =>
      have a := g.1.2 hb'
      rw [if_pos (by simp; omega)]
  · rw [Int32.le_iff_toInt_le, es] at q
    simp only [Int32.reduceToInt] at q
    have hm16 : m < 16 := by omega
    have g := gx k hk m hm16
    have hb1 : 0 ≤ (nI m + 1).toInt ∧ (nI m + 1).toInt ≤ 16 := by rw [a1_ hw, em]; omega
    have e1 : (nI m + 1).toInt = (m : Int) + 1 := by rw [a1_ hw, em]
    have inj : ∀ j, j < 16 → (j ^^^ 2 ^ k = m ↔ j = m ^^^ 2 ^ k) := fun j h => ⟨fun z => by rw [← z, (gx k hk j h).2.1], fun z => by rw [z, g.2.1]⟩
    refine pt_if (fun z => ?_) (fun z => ?_)
    · have mb := g.2.2.2.mp z
      have a := g.1.1 mb
      refine pt_gR (v := x0 + 1) r0 (pt_aJ (pt_gR (v := x0 + 1) r0 (pt_gR (v := x0 + 1) r0 (pt_aJ (pt_sJ (pt_gR (v := x0 + 1) r0 (pt_sJ (ih (nI m + 1, _) ⟨hb1, hl.sJ.sJ, fun j h => ?_⟩))))))))
      show (zJ (zJ τ (x0 + 1) _) (x0 + 1) _).2.1 (x0 + 1) j = (if ((if j.testBit k = true then (j ^^^ 2 ^ k) else j : Nat) : Int) < (nI m + 1).toInt then _ else _)
      have e2 : ((m : Int) + ((2 ^ k : Nat) : Int)).toNat = m ^^^ 2 ^ k := by rw [← a.1]; omega
      rw [zJ_s, zJ_s, updL_i, updL_i, es, e1, em, e2, Int.toNat_natCast, hj j h, hj _ g.2.2.1, hj m hm16, if_neg (show ¬ ((if (m ^^^ 2 ^ k).testBit k = true then ((m ^^^ 2 ^ k) ^^^ 2 ^ k) else (m ^^^ 2 ^ k) : Nat) : Int) < (m : Int) by rw [if_pos a.2, g.2.1]; omega), if_neg (show ¬ ((if m.testBit k = true then (m ^^^ 2 ^ k) else m : Nat) : Int) < (m : Int) by rw [if_neg (by rw [mb]; simp)]; omega)]
      clear es e1 hb1
      by_cases e : j = m ^^^ 2 ^ k
      · subst e
        rw [if_pos rfl, if_pos (show ((if (m ^^^ 2 ^ k).testBit k = true then ((m ^^^ 2 ^ k) ^^^ 2 ^ k) else (m ^^^ 2 ^ k) : Nat) : Int) < (m : Int) + 1 by rw [if_pos a.2, g.2.1]; omega), g.2.1]
      · rw [if_neg e]
        by_cases e' : j = m
        · subst e'
          rw [if_pos rfl, if_pos (show ((if j.testBit k = true then (j ^^^ 2 ^ k) else j : Nat) : Int) < (j : Int) + 1 by rw [if_neg (by rw [mb]; simp)]; omega)]
        · rw [if_neg e']
          have ne : j ^^^ 2 ^ k ≠ m := fun z => e ((inj j h).mp z)
          by_cases c : ((if j.testBit k = true then (j ^^^ 2 ^ k) else j : Nat) : Int) < (m : Int)
          · rw [if_pos c, if_pos (by omega)]
          · obtain ⟨w, hw⟩ : ∃ w : Nat, w = (if j.testBit k = true then (j ^^^ 2 ^ k) else j) := ⟨_, rfl⟩
            rw [← hw] at c ⊢
            have wm : w ≠ m := fun y => by
              rw [hw] at y
              split at y
              · exact ne y
              · exact e' y
            rw [if_neg c, if_neg (by omega)]
    · have mb : m.testBit k = true := by
        cases hh : m.testBit k with
        | true => rfl
        | false => exact absurd (g.2.2.2.mpr hh) z
      refine ih (nI m + 1, τ) ⟨hb1, hl, fun j h => ?_⟩
      show τ.2.1 (x0 + 1) j = (if ((if j.testBit k = true then (j ^^^ 2 ^ k) else j : Nat) : Int) < (nI m + 1).toInt then _ else _)
      rw [hj j h, e1]
      clear es e1 hb1
      by_cases c : ((if j.testBit k = true then (j ^^^ 2 ^ k) else j : Nat) : Int) < (m : Int)
      · rw [if_pos c, if_pos (by omega)]
      · have n1 : j.testBit k = true → j ^^^ 2 ^ k ≠ m := fun hb' z => by
          rw [(inj j h).mp z, (g.1.2 mb).1] at hb'
          cases hb'
        have n2 : ¬ j.testBit k = true → j ≠ m := fun hb' z => hb' (by rw [z]; exact mb)
        rw [if_neg c, if_neg ?_]
        split at c
        · rename_i y
          rw [if_pos y]
          have := n1 y
          omega
        · rename_i y
          rw [if_neg y]
          have := n2 y
          omega

end FAM
end Zq13_13
section Zq13_14
/-! ===== families: by names ===== -/
section FAM2
variable {N x0 x1 : Nat} {σ : zS} {k : Nat}
theorem k_nn (hk : k < 10) : ¬ nI k < 0 := by
  rw [Int32.lt_iff_toInt_lt, (sh1 k hk).2]
  simp only [Int32.reduceToInt]
  omega
theorem k_10 (hk : k < 10) : nI k < 10 := by
  rw [Int32.lt_iff_toInt_lt, (sh1 k hk).2]
  simp only [Int32.reduceToInt]
  omega
theorem k_6 (hk : k < 10) : 6 ≤ nI k ↔ 6 ≤ k := by
  rw [Int32.le_iff_toInt_le, (sh1 k hk).2]
  simp only [Int32.reduceToInt]
  omega
theorem v_raise (hR : RF σ.2.2) (h0 : (zKd x0).1 = 2) (hk : k < 10) : Pt (f_X2_raise N x0 (nI k) σ) (fun r => LF (x0 + 1) σ r.2 ∧ ∀ u, u < 1024 → bt (r.2.2.1 (x0 + 1)) u = (bt (σ.2.1 (x0 + 1)) u || (u.testBit k && bt (σ.2.1 (x0 + 1)) (u ^^^ 2 ^ k)))) := by
  rw [f_X2_raise.eq_1]
  refine pt_if (fun q => absurd q (k_nn hk)) (fun _ => pt_if (fun _ => pt_if (fun q => ?_) (fun q => ?_)) (fun q => absurd (k_10 hk) q))
  · have q := (k_6 hk).mp q
    obtain ⟨m, rfl⟩ : ∃ m, k = m + 6 := ⟨k - 6, by omega⟩
    have hm : m < 4 := by omega
    rw [sh6 m hm]
    refine pt_w (v_raise66 hR h0 hm) (fun r h => ⟨h.1, fun u hu => ?_⟩)
    have f := fx10 m hm u hu
    unfold bt
    rw [h.2 _ (by omega), f.1, f.2.1, ← f.2.2.1]
    cases (u / 64).testBit m with
    | true => rw [if_pos rfl, Int64.toBitVec_or, BitVec.getLsbD_or, Bool.true_and]
    | false => rw [if_neg (by simp), Bool.false_and, Bool.or_false]
  · exact v_raise19 hR h0 (by have := (show ¬ 6 ≤ k from fun y => q ((k_6 hk).mpr y)); omega)
theorem v_lower (hR : RF σ.2.2) (h0 : (zKd x0).1 = 2) (hk : k < 10) : Pt (f_X2_lower N x0 (nI k) σ) (fun r => LF (x0 + 1) σ r.2 ∧ ∀ u, u < 1024 → bt (r.2.2.1 (x0 + 1)) u = (bt (σ.2.1 (x0 + 1)) u || (!u.testBit k && bt (σ.2.1 (x0 + 1)) (u ^^^ 2 ^ k)))) := by
  rw [f_X2_lower.eq_1]
  refine pt_if (fun q => absurd q (k_nn hk)) (fun _ => pt_if (fun _ => pt_if (fun q => ?_) (fun q => ?_)) (fun q => absurd (k_10 hk) q))
  · have q := (k_6 hk).mp q
    obtain ⟨m, rfl⟩ : ∃ m, k = m + 6 := ⟨k - 6, by omega⟩
    have hm : m < 4 := by omega
    rw [sh6 m hm]
    refine pt_w (v_lower66 hR h0 hm) (fun r h => ⟨h.1, fun u hu => ?_⟩)
    have f := fx10 m hm u hu
    unfold bt
    rw [h.2 _ (by omega), f.1, f.2.1, ← f.2.2.1]
    cases (u / 64).testBit m with
    | false => rw [if_pos rfl, Int64.toBitVec_or, BitVec.getLsbD_or]; simp
    | true => rw [if_neg (by simp)]; simp
  · exact v_lower19 hR h0 (by have := (show ¬ 6 ≤ k from fun y => q ((k_6 hk).mpr y)); omega)
theorem v_flip (hR : RF σ.2.2) (h0 : (zKd x0).1 = 2) (hk : k < 10) : Pt (f_X2_flip N x0 (nI k) σ) (fun r => LF (x0 + 1) σ r.2 ∧ ∀ u, u < 1024 → bt (r.2.2.1 (x0 + 1)) u = bt (σ.2.1 (x0 + 1)) (u ^^^ 2 ^ k)) := by
  rw [f_X2_flip.eq_1]
  refine pt_if (fun q => absurd q (k_nn hk)) (fun _ => pt_if (fun _ => pt_if (fun q => ?_) (fun q => ?_)) (fun q => absurd (k_10 hk) q))
  · have q := (k_6 hk).mp q
    obtain ⟨m, rfl⟩ : ∃ m, k = m + 6 := ⟨k - 6, by omega⟩
    have hm : m < 4 := by omega
    rw [sh6 m hm]
    refine pt_w (v_flip80 hR h0 hm) (fun r h => ⟨h.1, fun u hu => ?_⟩)
    have f := fx10 m hm u hu
    unfold bt
    rw [h.2 _ (by omega), f.1, f.2.1]
  · have h6 : k < 6 := by have := (show ¬ 6 ≤ k from fun y => q ((k_6 hk).mpr y)); omega
    rw [(sh1 k hk).1]
    exact v_flip23 hR h0 h6
theorem kx : ∀ k, k < 4 → ∀ m, m < 16 → ((((nI m) >>> ((nI (k + 6) - 6) &&& 31)) &&& 1) = 0 ↔ m.testBit k = false) := by decide +kernel
theorem v_keepWithout (hR : RF σ.2.2) (h0 : (zKd x0).1 = 2) (hk : k < 10) : Pt (f_X2_keepWithout N x0 (nI k) σ) (fun r => LF (x0 + 1) σ r.2 ∧ ∀ u, u < 1024 → bt (r.2.2.1 (x0 + 1)) u = (bt (σ.2.1 (x0 + 1)) u && !u.testBit k)) := by
  rw [f_X2_keepWithout.eq_1]
  refine pt_if (fun q => absurd q (k_nn hk)) (fun _ => pt_if (fun _ => ?_) (fun q => absurd (k_10 hk) q))
  by_cases q : 6 ≤ k
  · obtain ⟨m, rfl⟩ : ∃ m, k = m + 6 := ⟨k - 6, by omega⟩
    have hm : m < 4 := by omega
    refine pt_w (Q := fun r => LF (x0 + 1) σ r.2 ∧ ∀ j, j < 16 → r.2.2.1 (x0 + 1) j = if j.testBit m = true then 0 else σ.2.1 (x0 + 1) j) ?_ (fun r h => ⟨h.1, fun u hu => ?_⟩)
    · refine pt_lp (fun s : Int32 × zS => (0 ≤ s.1.toInt ∧ s.1.toInt ≤ 16) ∧ LF (x0 + 1) σ s.2 ∧ ∀ j, s.2.2.1 (x0 + 1) j = if j.testBit m = true ∧ (j : Int) < s.1.toInt then 0 else σ.2.1 (x0 + 1) j) (fun again s hI ih => ?_) N _ ⟨(by decide : 0 ≤ (0 : Int32).toInt ∧ (0 : Int32).toInt ≤ 16), LF.rf, fun j => by rw [if_neg (by simp only [Int32.reduceToInt]; omega)]⟩
      obtain ⟨x2, τ⟩ := s
      obtain ⟨hb, hl, hj⟩ := hI
      have hb : 0 ≤ x2.toInt ∧ x2.toInt ≤ 16 := hb
      have hl : LF (x0 + 1) σ τ := hl
      have hj : ∀ j, τ.2.1 (x0 + 1) j = if j.testBit m = true ∧ (j : Int) < x2.toInt then 0 else σ.2.1 (x0 + 1) j := hj
      have r0 := (fam_R (hl.R hR) h0).1
      rw [F_X2_keepWithout_13.eq_1]
      refine pt_if (fun z => pt_some ⟨hl, fun j h => ?_⟩) (fun z => ?_)
      · rw [Int32.le_iff_toInt_le] at z
        simp only [Int32.reduceToInt] at z
        show τ.2.1 (x0 + 1) j = _
        rw [hj]
        by_cases c : j.testBit m = true
        · rw [if_pos ⟨c, by omega⟩, if_pos c]
        · rw [if_neg (fun y => c y.1), if_neg c]
      · rw [Int32.le_iff_toInt_le] at z
        simp only [Int32.reduceToInt] at z
        have hw : 0 ≤ x2.toInt ∧ x2.toInt ≤ 100000 := by omega
        have hb1 : 0 ≤ (x2 + 1).toInt ∧ (x2 + 1).toInt ≤ 16 := by rw [a1_ hw]; omega
        obtain ⟨y, hy, rfl⟩ := znI (x := x2) (m := 16) hb.1 (by omega)
        have em : (nI y).toInt = (y : Int) := nI_toInt (by omega)
        have e1 : (nI y + 1).toInt = (y : Int) + 1 := by rw [a1_ hw, em]
        rw [em] at hj
        refine pt_if (fun _ => pt_if (fun c => ?_) (fun c => ?_)) (fun c => absurd ((k_6 hk).mpr q) c)
        · have c := (kx m hm y hy).mp c
          refine ih (nI y + 1, τ) ⟨hb1, hl, fun j => ?_⟩
          show τ.2.1 (x0 + 1) j = if j.testBit m = true ∧ (j : Int) < (nI y + 1).toInt then 0 else σ.2.1 (x0 + 1) j
          rw [hj, e1]
          clear e1 hb1
          by_cases d : j.testBit m = true ∧ (j : Int) < (y : Int)
          · rw [if_pos d, if_pos ⟨d.1, by omega⟩]
          · have ne : j.testBit m = true → j ≠ y := fun a b => by rw [b, c] at a; cases a
            rw [if_neg d, if_neg (fun w => d ⟨w.1, by have := ne w.1; omega⟩)]
        · have c : y.testBit m = true := by
            cases hh : y.testBit m with
            | true => rfl
            | false => exact absurd ((kx m hm y hy).mpr hh) c
          refine pt_gR (v := x0 + 1) r0 (pt_sJ (ih (nI y + 1, _) ⟨hb1, hl.sJ, fun j => ?_⟩))
          show (zJ τ (x0 + 1) _).2.1 (x0 + 1) j = if j.testBit m = true ∧ (j : Int) < (nI y + 1).toInt then 0 else σ.2.1 (x0 + 1) j
          rw [zJ_s, updL_i, em, Int.toNat_natCast, hj, e1]
          clear e1 hb1
          by_cases e : j = y
          · rw [if_pos e, e, if_pos ⟨c, by omega⟩]
          · rw [if_neg e]
            by_cases d : j.testBit m = true ∧ (j : Int) < (y : Int)
            · rw [if_pos d, if_pos ⟨d.1, by omega⟩]
            · rw [if_neg d, if_neg (fun w => d ⟨w.1, by omega⟩)]
    · have f := fx10 m hm u hu
      unfold bt
      rw [h.2 _ (by omega), ← f.2.2.1]
      cases (u / 64).testBit m with
      | true => rw [if_pos rfl]; simp
      | false => rw [if_neg (by simp)]; simp
  · exact v_keep13 hR h0 (by omega)
theorem allb : ∀ n, n < 6 → ∀ j, j < 64 → ((zsl 1 ((1 : Int32) <<< (nI n &&& 31))) - 1).toBitVec.getLsbD j = decide (j < 2 ^ n) := by decide +kernel
/-- all sets of the names -/
theorem v_becomeAll (hR : RF σ.2.2) (h0 : (zKd x0).1 = 2) (hk : k ≤ 10) : Pt (f_X2_becomeAll N x0 (nI k) σ) (fun r => LF (x0 + 1) σ r.2 ∧ ∀ u, u < 1024 → bt (r.2.2.1 (x0 + 1)) u = decide (u < 2 ^ k)) := by
  have ek : (nI k).toInt = (k : Int) := nI_toInt (by omega)
  rw [f_X2_becomeAll.eq_1]
  have f := fam_R hR h0
  refine pt_gC (pt_zb (Q := fun r => LF (x0 + 1) σ r.2 ∧ ∀ j, j < 16 → r.2.2.1 (x0 + 1) j = 0) ?_ (fun _ σ1 h1 => ?_))
  · rw [f_X2_clear.eq_1]
    exact pt_gR (v := x0 + 1) f.1 (pt_zb (Q := fun r => LF (x0 + 1) σ r.2 ∧ ∀ j, j < 16 → r.2.2.1 (x0 + 1) j = 0) (v_fill f.2 (fun τ a b => ⟨a, b⟩)) (fun _ σ1 h => pt_some h))
  obtain ⟨l1, z1⟩ := h1
  have l1 : LF (x0 + 1) σ σ1 := l1
  have z1 : ∀ j, j < 16 → σ1.2.1 (x0 + 1) j = 0 := z1
  have R1 := l1.R hR
  refine pt_if (fun q => ?_) (fun q => ?_)
  · rw [Int32.le_iff_toInt_le, ek] at q
    simp only [Int32.reduceToInt] at q
    obtain ⟨m, rfl⟩ : ∃ m, k = m + 6 := ⟨k - 6, by omega⟩
    have hm : m < 5 := by omega
    have sm : ((1 : Int32) <<< ((nI (m + 6) - 6) &&& 31)).toInt = ((2 ^ m : Nat) : Int) := (by decide +kernel : ∀ m, m < 5 → ((1 : Int32) <<< ((nI (m + 6) - 6) &&& 31)).toInt = ((2 ^ m : Nat) : Int)) m hm
    have p16 : 2 ^ m ≤ 16 := (by decide : ∀ m, m < 5 → 2 ^ m ≤ 16) m hm
    refine pt_w (Q := fun r => LF (x0 + 1) σ r.2 ∧ ∀ j, j < 16 → r.2.2.1 (x0 + 1) j = if j < 2 ^ m then -1 else 0) ?_ (fun r h => ⟨h.1, fun u hu => ?_⟩)
    · refine pt_lp (fun s : Int32 × zS => (0 ≤ s.1.toInt ∧ s.1.toInt ≤ 16) ∧ LF (x0 + 1) σ s.2 ∧ ∀ j, j < 16 → s.2.2.1 (x0 + 1) j = if j < 2 ^ m ∧ (j : Int) < s.1.toInt then -1 else 0) (fun again s hI ih => ?_) N _ ⟨(by decide : 0 ≤ (0 : Int32).toInt ∧ (0 : Int32).toInt ≤ 16), l1, fun j hj => by rw [if_neg (by simp only [Int32.reduceToInt]; omega)]; exact z1 j hj⟩
      obtain ⟨x2, τ⟩ := s
      obtain ⟨hb, hl, hj⟩ := hI
      have hb : 0 ≤ x2.toInt ∧ x2.toInt ≤ 16 := hb
      have hl : LF (x0 + 1) σ τ := hl
      have hj : ∀ j, j < 16 → τ.2.1 (x0 + 1) j = if j < 2 ^ m ∧ (j : Int) < x2.toInt then -1 else 0 := hj
      have r0 := (fam_R (hl.R hR) h0).1
      have fin : ((2 ^ m : Nat) : Int) ≤ x2.toInt → Pt (some ((), τ)) (fun r => LF (x0 + 1) σ r.2 ∧ ∀ j, j < 16 → r.2.2.1 (x0 + 1) j = if j < 2 ^ m then -1 else 0) := fun z => pt_some ⟨hl, fun j h => by
        show τ.2.1 (x0 + 1) j = _
        rw [hj j h]
        by_cases c : j < 2 ^ m
        · rw [if_pos ⟨c, by omega⟩, if_pos c]
        · rw [if_neg (fun y => c y.1), if_neg c]⟩
      rw [F_X2_becomeAll_26.eq_1]
      refine pt_if (fun z => fin (by rw [Int32.le_iff_toInt_le] at z; simp only [Int32.reduceToInt] at z; omega)) (fun z => pt_if (fun z2 => fin (by rw [Int32.le_iff_toInt_le, sm] at z2; exact z2)) (fun z2 => ?_))
      rw [Int32.le_iff_toInt_le] at z
      rw [Int32.le_iff_toInt_le, sm] at z2
      simp only [Int32.reduceToInt] at z
      have hw : 0 ≤ x2.toInt ∧ x2.toInt ≤ 100000 := by omega
      have hb1 : 0 ≤ (x2 + 1).toInt ∧ (x2 + 1).toInt ≤ 16 := by rw [a1_ hw]; omega
      refine pt_gR (v := x0 + 1) r0 (pt_sJ (ih (x2 + 1, _) ⟨hb1, hl.sJ, fun j h => ?_⟩))
      show (zJ τ (x0 + 1) _).2.1 (x0 + 1) j = if j < 2 ^ m ∧ (j : Int) < (x2 + 1).toInt then -1 else 0
      rw [zJ_s, updL_i, hj j h, a1_ hw]
      clear hb1
      by_cases e : j = x2.toInt.toNat
      · rw [if_pos e, if_pos (by omega)]
      · rw [if_neg e]
        by_cases c : j < 2 ^ m ∧ (j : Int) < x2.toInt
        · rw [if_pos c, if_pos ⟨c.1, by omega⟩]
        · rw [if_neg c, if_neg (fun y => c ⟨y.1, by omega⟩)]
    · have e : u / 64 < 2 ^ m ↔ u < 2 ^ (m + 6) := by
        rw [Nat.pow_add]
        have : (2 : Nat) ^ 6 = 64 := rfl
        rw [this]
        generalize 2 ^ m = p
        omega
      unfold bt
      rw [h.2 _ (by omega)]
      by_cases c : u / 64 < 2 ^ m
      · rw [if_pos c, decide_eq_true (e.mp c)]
        have : (-1 : Int64).toBitVec = BitVec.allOnes 64 := rfl
        rw [this, BitVec.getLsbD_allOnes, decide_eq_true (by omega)]
      · rw [if_neg c, decide_eq_false (fun z => c (e.mpr z))]
        exact BitVec.getLsbD_zero
  · rw [Int32.le_iff_toInt_le, ek] at q
    simp only [Int32.reduceToInt] at q
    refine pt_gR (v := x0 + 1) (fam_R R1 h0).1 (pt_sJ (pt_some ⟨l1.sJ, fun u hu => ?_⟩))
    show bt ((zJ σ1 (x0 + 1) _).2.1 (x0 + 1)) u = _
    rw [zJ_s]
    unfold bt
    rw [updL_i]
    have p32 : 2 ^ k ≤ 32 := (by decide : ∀ m, m < 6 → 2 ^ m ≤ 32) k (by omega)
    have z0 : (Int32.toInt 0).toNat = 0 := rfl
    rw [z0]
    by_cases e : u / 64 = 0
    · rw [if_pos e, allb k (by omega) _ (by omega), show u % 64 = u by omega]
    · rw [if_neg e, z1 _ (by omega), decide_eq_false (by omega)]
      exact BitVec.getLsbD_zero
theorem bt_eq {w v : Nat → Int64} : (∀ j, j < 16 → w j = v j) ↔ ∀ u, u < 1024 → bt w u = bt v u := by
  constructor
  · intro h u hu
    unfold bt
    rw [h _ (by omega)]
  · intro h j hj
    apply Int64.toBitVec_inj.mp
    apply BitVec.eq_of_getLsbD_eq
    intro i hi
    have := h (64 * j + i) (by omega)
    unfold bt at this
    rw [show (64 * j + i) / 64 = j by omega, show (64 * j + i) % 64 = i by omega] at this
    exact this
theorem v_sameAs (hR : RF σ.2.2) (h0 : (zKd x0).1 = 2) (h1 : (zKd x1).1 = 2) : Px (f_X2_sameAs N x0 x1 σ) σ (fun v => (v = 0 ∨ v = 1) ∧ (v = 1 ↔ ∀ u, u < 1024 → bt (σ.2.1 (x0 + 1)) u = bt (σ.2.1 (x1 + 1)) u)) := by
  have r0 := (fam_R hR h0).1
  have r1 := (fam_R hR h1).1
  rw [f_X2_sameAs.eq_1]
  refine pt_lp (fun s : Int32 × zS => (0 ≤ s.1.toInt ∧ s.1.toInt ≤ 16) ∧ s.2 = σ ∧ ∀ j : Nat, (j : Int) < s.1.toInt → σ.2.1 (x0 + 1) j = σ.2.1 (x1 + 1) j) (fun again s hI ih => ?_) N _ ⟨(by decide : 0 ≤ (0 : Int32).toInt ∧ (0 : Int32).toInt ≤ 16), rfl, fun j hj => absurd hj (by show ¬ (j : Int) < (0 : Int32).toInt; simp only [Int32.reduceToInt]; omega)⟩
  obtain ⟨x2, τ⟩ := s
  obtain ⟨hb, e, hj⟩ := hI
  have hb : 0 ≤ x2.toInt ∧ x2.toInt ≤ 16 := hb
  have e : τ = σ := e
  subst e
  have hj : ∀ j : Nat, (j : Int) < x2.toInt → τ.2.1 (x0 + 1) j = τ.2.1 (x1 + 1) j := hj
  rw [F_X2_sameAs_2.eq_1]
  refine pt_if (fun q => pt_rZ ⟨rfl, Or.inr rfl, fun _ => ?_, fun _ => rfl⟩) (fun q => ?_)
  · rw [Int32.le_iff_toInt_le] at q
    simp only [Int32.reduceToInt] at q
    exact bt_eq.mp (fun j h => hj j (by omega))
  · rw [Int32.le_iff_toInt_le] at q
    simp only [Int32.reduceToInt] at q
    have hw : 0 ≤ x2.toInt ∧ x2.toInt ≤ 100000 := by omega
    have hb1 : 0 ≤ (x2 + 1).toInt ∧ (x2 + 1).toInt ≤ 16 := by rw [a1_ hw]; omega
    refine pt_gR (v := x0 + 1) r0 (pt_aJ (pt_gR (v := x1 + 1) r1 (pt_aJ (pt_if (fun z => ih (x2 + 1, τ) ⟨hb1, rfl, fun j h => ?_⟩) (fun z => pt_rZ ⟨rfl, Or.inl rfl, fun y => absurd (show (0 : Int32) = 1 from y) (by decide), fun y => ?_⟩)))))
    · have h : (j : Int) < (x2 + 1).toInt := h
      rw [a1_ hw] at h
      clear hb1
      by_cases e : j = x2.toInt.toNat
      · rw [e]; exact cmp0.mp z
      · exact hj j (by omega)
    · exact absurd (cmp0.mpr (bt_eq.mpr y _ (by omega))) z
theorem v_isEmpty (hR : RF σ.2.2) (h0 : (zKd x0).1 = 2) : Px (f_X2_isEmpty N x0 σ) σ (fun v => (v = 0 ∨ v = 1) ∧ (v = 1 ↔ ∀ u, u < 1024 → bt (σ.2.1 (x0 + 1)) u = false)) := by
  have r0 := (fam_R hR h0).1
  have z0 : ∀ w : Nat → Int64, (∀ j, j < 16 → w j = 0) ↔ ∀ u, u < 1024 → bt w u = false := fun w => by
    have := bt_eq (w := w) (v := fun _ => 0)
    refine this.trans ⟨fun h u hu => ?_, fun h u hu => ?_⟩
    · rw [h u hu]; exact BitVec.getLsbD_zero
    · rw [h u hu]; exact BitVec.getLsbD_zero.symm
  rw [f_X2_isEmpty.eq_1]
  refine pt_lp (fun s : Int32 × zS => (0 ≤ s.1.toInt ∧ s.1.toInt ≤ 16) ∧ s.2 = σ ∧ ∀ j : Nat, (j : Int) < s.1.toInt → σ.2.1 (x0 + 1) j = 0) (fun again s hI ih => ?_) N _ ⟨(by decide : 0 ≤ (0 : Int32).toInt ∧ (0 : Int32).toInt ≤ 16), rfl, fun j hj => absurd hj (by show ¬ (j : Int) < (0 : Int32).toInt; simp only [Int32.reduceToInt]; omega)⟩
  obtain ⟨x2, τ⟩ := s
  obtain ⟨hb, e, hj⟩ := hI
  have hb : 0 ≤ x2.toInt ∧ x2.toInt ≤ 16 := hb
  have e : τ = σ := e
  subst e
  have hj : ∀ j : Nat, (j : Int) < x2.toInt → τ.2.1 (x0 + 1) j = 0 := hj
  rw [F_X2_isEmpty_2.eq_1]
  refine pt_if (fun q => pt_rZ ⟨rfl, Or.inr rfl, fun _ => ?_, fun _ => rfl⟩) (fun q => ?_)
  · rw [Int32.le_iff_toInt_le] at q
    simp only [Int32.reduceToInt] at q
    exact (z0 _).mp (fun j h => hj j (by omega))
  · rw [Int32.le_iff_toInt_le] at q
    simp only [Int32.reduceToInt] at q
    have hw : 0 ≤ x2.toInt ∧ x2.toInt ≤ 100000 := by omega
    have hb1 : 0 ≤ (x2 + 1).toInt ∧ (x2 + 1).toInt ≤ 16 := by rw [a1_ hw]; omega
    refine pt_gR (v := x0 + 1) r0 (pt_aJ (pt_if (fun z => ih (x2 + 1, τ) ⟨hb1, rfl, fun j h => ?_⟩) (fun z => pt_rZ ⟨rfl, Or.inl rfl, fun y => absurd (show (0 : Int32) = 1 from y) (by decide), fun y => ?_⟩)))
    · have h : (j : Int) < (x2 + 1).toInt := h
      rw [a1_ hw] at h
      clear hb1
      by_cases e : j = x2.toInt.toNat
      · rw [e]; exact cmp0.mp z
      · exact hj j (by omega)
    · exact absurd (cmp0.mpr ((z0 _).mpr y _ (by omega))) z
end FAM2
end Zq13_14
section Zq13_15
/-! ===== counting ===== -/
/-- how many below n -/
def ct (p : Nat → Bool) : Nat → Nat
  | 0 => 0
  | n + 1 => ct p n + (if p n = true then 1 else 0)
theorem ct_c {p q : Nat → Bool} : ∀ {n : Nat}, (∀ k, k < n → p k = q k) → ct p n = ct q n
  | 0, _ => rfl
  | n + 1, h => by
    show ct p n + _ = ct q n + _
    rw [ct_c (fun k hk => h k (by omega)), h n (by omega)]
theorem ct_split (p : Nat → Bool) (m : Nat) : ∀ n, ct p (m + n) = ct p m + ct (fun k => p (m + k)) n
  | 0 => rfl
  | n + 1 => by
    show ct p (m + n) + _ = ct p m + (ct (fun k => p (m + k)) n + _)
    rw [ct_split p m n, Nat.add_assoc]
    rfl
theorem ct_le (p : Nat → Bool) : ∀ n, ct p n ≤ n
  | 0 => Nat.le_refl _
  | n + 1 => by
    show ct p n + _ ≤ n + 1
    have := ct_le p n
    split <;> omega
theorem ct_mono (p : Nat → Bool) {m n : Nat} (h : m ≤ n) : ct p m ≤ ct p n := by
  obtain ⟨d, rfl⟩ : ∃ d, n = m + d := ⟨n - m, by omega⟩
  rw [ct_split]; omega
theorem ct_0 {p : Nat → Bool} : ∀ {n : Nat}, (∀ k, k < n → p k = false) → ct p n = 0
  | 0, _ => rfl
  | n + 1, h => by
    show ct p n + _ = 0
    rw [ct_0 (fun k hk => h k (by omega)), h n (by omega)]; rfl
theorem ct_z {p : Nat → Bool} : ∀ {n : Nat}, ct p n = 0 → ∀ k, k < n → p k = false := by
  intro n
  induction n with
  | zero => intro _ k hk; omega
  | succ n ih =>
    intro h k hk
    have h : ct p n + (if p n = true then 1 else 0) = 0 := h
    by_cases e : k = n
    · rw [e]
      cases q : p n with
      | false => rfl
      | true => rw [q, if_pos rfl] at h; omega
    · exact ih (by omega) k (by omega)
/-! the long's count of bits -/
theorem and_cat {k a b r t : Nat} (hr : r < 2 ^ k) (ht : t < 2 ^ k) : (2 ^ k * a + r) &&& (2 ^ k * b + t) = 2 ^ k * (a &&& b) + (r &&& t) := by
  apply Nat.eq_of_testBit_eq
  intro j
  rw [Nat.testBit_and, Nat.testBit_two_pow_mul_add a hr, Nat.testBit_two_pow_mul_add b ht, Nat.testBit_two_pow_mul_add _ (Nat.and_lt_two_pow r ht)]
  split
  · rw [Nat.testBit_and]
  · rw [Nat.testBit_and]
/-- the same byte, n times -/
def rep (c : Nat) : Nat → Nat
  | 0 => 0
  | n + 1 => 256 * rep c n + c
def w1 (n X : Nat) : Nat := X - ((X / 2) &&& rep 85 n)
def w2 (n X : Nat) : Nat := (X &&& rep 51 n) + ((X / 4) &&& rep 51 n)
def w3 (n X : Nat) : Nat := (X + X / 16) &&& rep 15 n
def b1 (d : Nat) : Nat := d - ((d / 2) &&& 85)
def b2 (d : Nat) : Nat := (d &&& 51) + ((d / 4) &&& 51)
def b3 (d : Nat) : Nat := d % 16 + d / 16
theorem f1 : ∀ e, e < 2 → ∀ d, d < 256 → ((128 * e + d / 2) &&& 85) = ((d / 2) &&& 85) ∧ ((d / 2) &&& 85) ≤ d ∧ b1 d < 256 := by decide +kernel
theorem f2 : ∀ e, e < 4 → ∀ d, d < 256 → ((64 * e + d / 4) &&& 51) = ((d / 4) &&& 51) ∧ b2 d < 256 := by decide +kernel
theorem f2b : ∀ d, d < 256 → (b2 d % 16 ≤ 6 ∧ b2 d / 16 ≤ 6) := by decide +kernel
theorem f12 : ∀ d, d < 256 → (b2 (b1 d) % 16 ≤ 4 ∧ b2 (b1 d) / 16 ≤ 4 ∧ b3 (b2 (b1 d)) = ct (fun i => d.testBit i) 8) := by decide +kernel
theorem f3 : ∀ e, e < 5 → ∀ a, a < 5 → ∀ b, b < 5 → ((16 * a + b + 16 * e + a) &&& 15) = a + b ∧ 16 * a + b + 16 * e + a < 256 := by decide +kernel
theorem and256 {a b r t : Nat} (hr : r < 256) (ht : t < 256) : (256 * a + r) &&& (256 * b + t) = 256 * (a &&& b) + (r &&& t) := and_cat (k := 8) hr ht
theorem w1_le : ∀ n X, ((X / 2) &&& rep 85 n) ≤ X
  | n, X => Nat.le_trans Nat.and_le_left (Nat.div_le_self _ _)
theorem w1_s (n X : Nat) : w1 (n + 1) X = 256 * w1 n (X / 256) + b1 (X % 256) := by
  obtain ⟨q, d, hd, rfl⟩ : ∃ q d, d < 256 ∧ X = 256 * q + d := ⟨X / 256, X % 256, Nat.mod_lt _ (by decide), by omega⟩
  have h := f1 (q % 2) (by omega) d hd
  have l := w1_le n q
  unfold w1 b1
  show 256 * q + d - ((256 * q + d) / 2 &&& (256 * rep 85 n + 85)) = _
  rw [show (256 * q + d) / 2 = 256 * (q / 2) + (128 * (q % 2) + d / 2) by omega, and256 (by omega) (by decide), h.1, show (256 * q + d) / 256 = q by omega, show (256 * q + d) % 256 = d by omega]
  omega
theorem w2_s (n X : Nat) : w2 (n + 1) X = 256 * w2 n (X / 256) + b2 (X % 256) := by
  obtain ⟨q, d, hd, rfl⟩ : ∃ q d, d < 256 ∧ X = 256 * q + d := ⟨X / 256, X % 256, Nat.mod_lt _ (by decide), by omega⟩
  have h := f2 (q % 4) (by omega) d hd
  unfold w2 b2
  show ((256 * q + d) &&& (256 * rep 51 n + 51)) + ((256 * q + d) / 4 &&& (256 * rep 51 n + 51)) = _
  rw [show (256 * q + d) / 4 = 256 * (q / 4) + (64 * (q % 4) + d / 4) by omega, and256 hd (by decide), and256 (by omega) (by decide), h.1, show (256 * q + d) / 256 = q by omega, show (256 * q + d) % 256 = d by omega]
  omega
/-- every nibble is at most four -/
def nb : Nat → Nat → Prop
  | 0, _ => True
  | n + 1, X => (X % 16 ≤ 4 ∧ X % 256 / 16 ≤ 4) ∧ nb n (X / 256)
theorem nb_lo {n X : Nat} (h : nb n X) (hX : X < 256 ^ n) : X % 16 ≤ 4 := by
  cases n with
  | zero => have : X < 1 := hX; omega
  | succ n => exact h.1.1
theorem w3_s (n X : Nat) (h : nb (n + 1) X) (hX : X < 256 ^ (n + 1)) : w3 (n + 1) X = 256 * w3 n (X / 256) + b3 (X % 256) := by
  obtain ⟨q, d, hd, rfl⟩ : ∃ q d, d < 256 ∧ X = 256 * q + d := ⟨X / 256, X % 256, Nat.mod_lt _ (by decide), by omega⟩
  obtain ⟨⟨h1, h2⟩, h3⟩ := h
  rw [show (256 * q + d) / 256 = q by omega] at h3 ⊢
  rw [show (256 * q + d) % 256 = d by omega] at h2 ⊢
  have hq : q < 256 ^ n := by rw [Nat.pow_succ] at hX; omega
  have q4 := nb_lo h3 hq
  obtain ⟨a, b, ha, hb, rfl⟩ : ∃ a b, a < 5 ∧ b < 5 ∧ d = 16 * a + b := ⟨d / 16, d % 16, by omega, by omega, by omega⟩
  have f := f3 (q % 16) (by omega) a ha b hb
  unfold w3 b3
  show ((256 * q + (16 * a + b)) + (256 * q + (16 * a + b)) / 16) &&& (256 * rep 15 n + 15) = _
  rw [show (256 * q + (16 * a + b)) + (256 * q + (16 * a + b)) / 16 = 256 * (q + q / 16) + (16 * a + b + 16 * (q % 16) + a) by omega, and256 f.2 (by decide), f.1]
  omega
/-- the counts of the bytes, a byte each -/
def cb : Nat → Nat → Nat
  | 0, _ => 0
  | n + 1, X => 256 * cb n (X / 256) + ct (fun i => (X % 256).testBit i) 8
theorem w0 {n X : Nat} (hX : X < 256 ^ n) : w1 n X < 256 ^ n := Nat.lt_of_le_of_lt (Nat.sub_le _ _) hX
theorem w123 : ∀ n X, X < 256 ^ n → w3 n (w2 n (w1 n X)) = cb n X ∧ nb n (w2 n (w1 n X)) ∧ w2 n (w1 n X) < 256 ^ n
  | 0, X, h => by
    have h : X < 1 := h
    have : X = 0 := by omega
    subst this
    exact ⟨rfl, trivial, by decide⟩
  | n + 1, X, h => by
    have h256 : 256 ^ (n + 1) = 256 * 256 ^ n := by rw [Nat.pow_succ, Nat.mul_comm]
    have ih := w123 n (X / 256) (by rw [h256] at h; omega)
    have d := Nat.mod_lt X (show 0 < 256 by decide)
    have fb := (f1 0 (by decide) (X % 256) d).2.2
    have f := f12 (X % 256) d
    have fc := (f2 0 (by decide) _ fb).2
    have e1 := w1_s n X
    have e2 : w2 (n + 1) (w1 (n + 1) X) = 256 * w2 n (w1 n (X / 256)) + b2 (b1 (X % 256)) := by
      rw [w2_s, e1, show (256 * w1 n (X / 256) + b1 (X % 256)) / 256 = w1 n (X / 256) by omega, show (256 * w1 n (X / 256) + b1 (X % 256)) % 256 = b1 (X % 256) by omega]
    have lt : w2 (n + 1) (w1 (n + 1) X) < 256 ^ (n + 1) := by rw [e2, h256]; omega
    have nn : nb (n + 1) (w2 (n + 1) (w1 (n + 1) X)) := by
      show (w2 (n + 1) (w1 (n + 1) X) % 16 ≤ 4 ∧ w2 (n + 1) (w1 (n + 1) X) % 256 / 16 ≤ 4) ∧ nb n (w2 (n + 1) (w1 (n + 1) X) / 256)
      rw [e2, show (256 * w2 n (w1 n (X / 256)) + b2 (b1 (X % 256))) / 256 = w2 n (w1 n (X / 256)) by omega, show (256 * w2 n (w1 n (X / 256)) + b2 (b1 (X % 256))) % 256 = b2 (b1 (X % 256)) by omega]
      exact ⟨⟨by omega, f.2.1⟩, ih.2.1⟩
    refine ⟨?_, nn, lt⟩
    rw [w3_s n _ nn lt, e2, show (256 * w2 n (w1 n (X / 256)) + b2 (b1 (X % 256))) / 256 = w2 n (w1 n (X / 256)) by omega, show (256 * w2 n (w1 n (X / 256)) + b2 (b1 (X % 256))) % 256 = b2 (b1 (X % 256)) by omega, ih.1, f.2.2]
    rfl
def tn (x : Int64) : Nat := x.toBitVec.toNat
theorem tn_lt (x : Int64) : tn x < 18446744073709551616 := x.toBitVec.isLt
theorem tn_and (x y : Int64) : tn (x &&& y) = tn x &&& tn y := by
  unfold tn; rw [Int64.toBitVec_and, BitVec.toNat_and]
theorem tn_add (x y : Int64) : tn (x + y) = (tn x + tn y) % 18446744073709551616 := by
  unfold tn; rw [Int64.toBitVec_add, BitVec.toNat_add]
theorem tn_sub {x y : Int64} (h : tn y ≤ tn x) : tn (x - y) = tn x - tn y := by
  have a := tn_lt x
  have b := tn_lt y
  unfold tn at *
  rw [Int64.toBitVec_sub, BitVec.toNat_sub]
  omega
theorem tn_zul (x : Int64) {n : Nat} (hn : n < 64) : tn (zul x (nI n)) = tn x / 2 ^ n := by
  unfold tn
  rw [zul_bv x hn, BitVec.toNat_ushiftRight, Nat.shiftRight_eq_div_pow]
theorem sum8 (W p0 p1 p2 p3 p4 p5 p6 p7 : Nat) (h0 : p0 ≤ 8) (h1 : p1 ≤ 8) (h2 : p2 ≤ 8) (h3 : p3 ≤ 8) (h4 : p4 ≤ 8) (h5 : p5 ≤ 8) (h6 : p6 ≤ 8) (h7 : p7 ≤ 8) (hW : W = 256 * (256 * (256 * (256 * (256 * (256 * (256 * p7 + p6) + p5) + p4) + p3) + p2) + p1) + p0) : W + W / 256 < 18446744073709551616 ∧ (W + W / 256) + (W + W / 256) / 65536 < 18446744073709551616 ∧ ((W + W / 256) + (W + W / 256) / 65536) + ((W + W / 256) + (W + W / 256) / 65536) / 4294967296 < 18446744073709551616 ∧ (((W + W / 256) + (W + W / 256) / 65536) + ((W + W / 256) + (W + W / 256) / 65536) / 4294967296) % 128 = p0 + p1 + p2 + p3 + p4 + p5 + p6 + p7 := by
  obtain ⟨V, hV⟩ : ∃ V, V = W + W / 256 := ⟨_, rfl⟩
  rw [← hV]
  have v : V = 256 * (256 * (256 * (256 * (256 * (256 * (256 * p7 + (p6 + p7)) + (p5 + p6)) + (p4 + p5)) + (p3 + p4)) + (p2 + p3)) + (p1 + p2)) + (p0 + p1) := by omega
  clear hV hW
  obtain ⟨U, hU⟩ : ∃ U, U = V + V / 65536 := ⟨_, rfl⟩
  rw [← hU]
  have u : U = 256 * (256 * (256 * (256 * (256 * (256 * (256 * p7 + (p6 + p7)) + (p5 + p6 + p7)) + (p4 + p5 + (p6 + p7))) + (p3 + p4 + (p5 + p6))) + (p2 + p3 + (p4 + p5))) + (p1 + p2 + (p3 + p4))) + (p0 + p1 + (p2 + p3)) := by omega
  have v64 : V < 18446744073709551616 := by omega
  clear hU v
  obtain ⟨A, hA⟩ : ∃ A, A = 256 * (256 * (256 * p7 + (p6 + p7)) + (p5 + p6 + p7)) + (p4 + p5 + (p6 + p7)) := ⟨_, rfl⟩
  obtain ⟨R, hR⟩ : ∃ R, R = 256 * (256 * (256 * (p3 + p4 + (p5 + p6)) + (p2 + p3 + (p4 + p5))) + (p1 + p2 + (p3 + p4))) + (p0 + p1 + (p2 + p3)) := ⟨_, rfl⟩
  have u2 : U = 4294967296 * A + R := by omega
  clear u
  have rb : R < 4294967296 := by omega
  have ab : A < 1000000000 := by omega
  have d : U / 4294967296 = A := by omega
  rw [d]
  obtain ⟨M, hM⟩ : ∃ M, R = 256 * M + (p0 + p1 + (p2 + p3)) := ⟨_, hR⟩
  obtain ⟨M2, hM2⟩ : ∃ M2, A = 256 * M2 + (p4 + p5 + (p6 + p7)) := ⟨_, hA⟩
  clear hR hA
  exact ⟨v64, by omega, by omega, by omega⟩
theorem tt32 (x : Int64) : ((Int64.toInt32 x) &&& 127).toInt = ((tn x % 128 : Nat) : Int) := by
  have e : ((Int64.toInt32 x) &&& 127).toBitVec.toNat = tn x % 128 := by
    rw [Int32.toBitVec_and, BitVec.toNat_and]
    have a : (Int64.toInt32 x).toBitVec.toNat = tn x % 4294967296 := by
      show (x.toBitVec.signExtend 32).toNat = _
      rw [BitVec.signExtend_eq_setWidth_of_le _ (by decide), BitVec.toNat_setWidth]; rfl
    have b : (127 : Int32).toBitVec.toNat = 2 ^ 7 - 1 := rfl
    rw [a, b, Nat.and_two_pow_sub_one_eq_mod]
    omega
  rw [ti_toNat (by rw [e]; omega), e]
theorem bitCount (N : Nat) (x : Int64) (σ : zS) : ∃ v : Int32, f_J13_bitCount_95d88 N x σ = some (v, σ) ∧ v.toInt = (ct (fun i => x.toBitVec.getLsbD i) 64 : Int) := by
  refine ⟨_, f_J13_bitCount_95d88.eq_1 N x σ, ?_⟩
  have m5 : tn 6148914691236517205 = rep 85 8 := by decide +kernel
  have m3 : tn 3689348814741910323 = rep 51 8 := by decide +kernel
  have mF : tn 1085102592571150095 = rep 15 8 := by decide +kernel
  have h64 : (256 : Nat) ^ 8 = 18446744073709551616 := by decide
  have hx := tn_lt x
  obtain ⟨y, hy⟩ : ∃ y, y = x - (zul x 1 &&& 6148914691236517205) := ⟨_, rfl⟩
  rw [← hy]
  have ty : tn y = w1 8 (tn x) := by
    have s : tn (zul x 1 &&& 6148914691236517205) = (tn x / 2) &&& rep 85 8 := by
      rw [tn_and, m5]
      have := tn_zul x (n := 1) (by decide)
      rw [show nI 1 = 1 from rfl] at this
      rw [this]
    rw [hy, tn_sub (by rw [s]; exact w1_le 8 _), s]; rfl
  obtain ⟨z, hz⟩ : ∃ z, z = (y &&& 3689348814741910323) + (zul y 2 &&& 3689348814741910323) := ⟨_, rfl⟩
  rw [← hz]
  have w := w123 8 (tn x) (by rw [h64]; exact hx)
  have tz : tn z = w2 8 (tn y) := by
    have s : tn (zul y 2 &&& 3689348814741910323) = (tn y / 4) &&& rep 51 8 := by
      rw [tn_and, m3]
      have := tn_zul y (n := 2) (by decide)
      rw [show nI 2 = 2 from rfl] at this
      rw [this]
    rw [hz, tn_add, tn_and, m3, s]
    have l := w.2.2
    rw [← ty, h64] at l
    exact Nat.mod_eq_of_lt l
  rw [← ty, ← tz] at w
  obtain ⟨v, hv⟩ : ∃ v, v = (z + zul z 4) &&& 1085102592571150095 := ⟨_, rfl⟩
  rw [← hv]
  have l16 : tn z + tn z / 16 < 18446744073709551616 := by
    have n8 := w.2.1
    have l := w.2.2
    rw [h64] at l
    have : nb 8 (tn z) := n8
    have top : tn z / 72057594037927936 % 256 / 16 ≤ 4 := by
      have t : nb 1 (tn z / 256 / 256 / 256 / 256 / 256 / 256 / 256) := this.2.2.2.2.2.2.2
      have := t.1.2
      omega
    omega
  have tv : tn v = cb 8 (tn x) := by
    have := tn_zul z (n := 4) (by decide)
    rw [show nI 4 = 4 from rfl] at this
    rw [hv, tn_and, mF, tn_add, this, ← w.1]
    rw [Nat.mod_eq_of_lt l16]; rfl
  have s8 := sum8 (tn v) (ct (fun i => (tn x % 256).testBit i) 8) (ct (fun i => (tn x / 256 % 256).testBit i) 8) (ct (fun i => (tn x / 256 / 256 % 256).testBit i) 8) (ct (fun i => (tn x / 256 / 256 / 256 % 256).testBit i) 8) (ct (fun i => (tn x / 256 / 256 / 256 / 256 % 256).testBit i) 8) (ct (fun i => (tn x / 256 / 256 / 256 / 256 / 256 % 256).testBit i) 8) (ct (fun i => (tn x / 256 / 256 / 256 / 256 / 256 / 256 % 256).testBit i) 8) (ct (fun i => (tn x / 256 / 256 / 256 / 256 / 256 / 256 / 256 % 256).testBit i) 8) (ct_le _ _) (ct_le _ _) (ct_le _ _) (ct_le _ _) (ct_le _ _) (ct_le _ _) (ct_le _ _) (ct_le _ _) (by rw [tv]; show 256 * (256 * (256 * (256 * (256 * (256 * (256 * (256 * 0 + _) + _) + _) + _) + _) + _) + _) + _ = _; omega)
  have z8 := tn_zul v (n := 8) (by decide)
  rw [show nI 8 = 8 from rfl] at z8
  have a1 : tn (v + zul v 8) = tn v + tn v / 256 := by rw [tn_add, z8]; exact Nat.mod_eq_of_lt s8.1
  have z16 := tn_zul (v + zul v 8) (n := 16) (by decide)
  rw [show nI 16 = 16 from rfl, a1] at z16
  have a2 : tn ((v + zul v 8) + zul (v + zul v 8) 16) = (tn v + tn v / 256) + (tn v + tn v / 256) / 65536 := by rw [tn_add, z16, a1]; exact Nat.mod_eq_of_lt s8.2.1
  have z32 := tn_zul ((v + zul v 8) + zul (v + zul v 8) 16) (n := 32) (by decide)
  rw [show nI 32 = 32 from rfl, a2] at z32
  have a3 : tn (((v + zul v 8) + zul (v + zul v 8) 16) + zul ((v + zul v 8) + zul (v + zul v 8) 16) 32) = ((tn v + tn v / 256) + (tn v + tn v / 256) / 65536) + ((tn v + tn v / 256) + (tn v + tn v / 256) / 65536) / 4294967296 := by rw [tn_add, z32, a2]; exact Nat.mod_eq_of_lt s8.2.2.1
  rw [tt32, a3, s8.2.2.2]
  have tb : ∀ (a i : Nat), i < 8 → (a % 256).testBit i = a.testBit i := fun a i hi => by
    rw [show 256 = 2 ^ 8 from rfl, Nat.testBit_mod_two_pow, decide_eq_true hi, Bool.true_and]
  have sh : ∀ (m i : Nat), i < 8 → (tn x / 2 ^ (8 * m) % 256).testBit i = x.toBitVec.getLsbD (8 * m + i) := fun m i hi => by
    rw [tb _ _ hi, ← Nat.shiftRight_eq_div_pow, Nat.testBit_shiftRight]; rfl
  have c := fun m => ct_c (n := 8) (p := fun i => (tn x / 2 ^ (8 * m) % 256).testBit i) (q := fun i => x.toBitVec.getLsbD (8 * m + i)) (fun i hi => sh m i hi)
  have e : ∀ m, ct (fun i => x.toBitVec.getLsbD i) (8 * m + 8) = ct (fun i => x.toBitVec.getLsbD i) (8 * m) + ct (fun i => (tn x / 2 ^ (8 * m) % 256).testBit i) 8 := fun m => by
    rw [c m, ct_split]
  have d : ∀ a b : Nat, tn x / a / b = tn x / (a * b) := fun a b => Nat.div_div_eq_div_mul _ _ _
  have e0 := e 0
  have e1 := e 1
  have e2 := e 2
  have e3 := e 3
  have e4 := e 4
  have e5 := e 5
  have e6 := e 6
  have e7 := e 7
  simp only [Nat.reduceMul, Nat.reduceAdd, Nat.reducePow, Nat.div_one] at e0 e1 e2 e3 e4 e5 e6 e7
  have c0 : ct (fun i => x.toBitVec.getLsbD i) 0 = 0 := rfl
  simp only [Nat.div_div_eq_div_mul, Nat.reduceMul]
  rw [e7, e6, e5, e4, e3, e2, e1, e0, c0]
  omega
end Zq13_15
section Zq13_16
/-! ===== the least bit, the first member, the i-th ===== -/
section PICK
variable {N x0 : Nat} {σ : zS} {s : Nat}
/-- t is the least bit of X -/
def lb (X t : Nat) : Prop := X.testBit t = true ∧ ∀ i, i < t → X.testBit i = false
theorem lb_form {X t : Nat} (h : lb X t) : ∃ q, X = 2 ^ (t + 1) * q + 2 ^ t := by
  refine ⟨X / 2 ^ (t + 1), ?_⟩
  have e : X % 2 ^ (t + 1) = 2 ^ t := by
    apply Nat.eq_of_testBit_eq
    intro i
    rw [Nat.testBit_mod_two_pow, Nat.testBit_two_pow]
    by_cases a : i < t
    · rw [h.2 i a, decide_eq_false (show ¬ t = i by omega), Bool.and_false]
    · by_cases b : t = i
      · subst b
        rw [h.1, decide_eq_true rfl, decide_eq_true (by omega)]; rfl
      · rw [decide_eq_false (show ¬ i < t + 1 by omega), decide_eq_false b, Bool.false_and]
  have := Nat.div_add_mod X (2 ^ (t + 1))
  rw [e] at this
  exact this.symm
theorem lb_pred {X t : Nat} (h : lb X t) (i : Nat) : (X - 1).testBit i = if i < t + 1 then decide (i < t) else X.testBit i := by
  obtain ⟨q, e⟩ := lb_form h
  have p : 0 < 2 ^ t := Nat.pow_pos (by decide)
  have p2 : 2 ^ t < 2 ^ (t + 1) := Nat.pow_lt_pow_right (by decide) (by omega)
  have e1 : X - 1 = 2 ^ (t + 1) * q + (2 ^ t - 1) := by omega
  rw [e1, Nat.testBit_two_pow_mul_add q (by omega)]
  by_cases a : i < t + 1
  · rw [if_pos a, if_pos a, Nat.testBit_two_pow_sub_one]
  · rw [if_neg a, if_neg a, e, Nat.testBit_two_pow_mul_add q p2, if_neg a]
theorem lb_pos {X t : Nat} (h : lb X t) : 1 ≤ X := by
  cases X with
  | zero => have := h.1; rw [Nat.zero_testBit] at this; cases this
  | succ n => omega
theorem ntz_low {x : Int32} {t : Nat} (h : lb x.toBitVec.toNat t) (ht : t < 32) : ((x ^^^ (-1)) &&& (x - 1)) = nI (2 ^ t - 1) := by
  apply Int32.toBitVec_inj.mp
  apply BitVec.eq_of_getLsbD_eq
  intro i hi
  have p := lb_pos h
  have hl := x.toBitVec.isLt
  have e1 : (x - 1).toBitVec.toNat = x.toBitVec.toNat - 1 := by
    rw [Int32.toBitVec_sub, BitVec.toNat_sub]
    have : (1 : Int32).toBitVec.toNat = 1 := rfl
    rw [this]
    omega
  have e2 : (nI (2 ^ t - 1)).toBitVec.toNat = 2 ^ t - 1 := by
    have : 2 ^ t < 2 ^ 32 := Nat.pow_lt_pow_right (by decide) ht
    show (BitVec.ofNat 32 (2 ^ t - 1)).toNat = _
    rw [BitVec.toNat_ofNat]
    exact Nat.mod_eq_of_lt (by omega)
  rw [Int32.toBitVec_and, BitVec.getLsbD_and, Int32.toBitVec_xor, BitVec.getLsbD_xor]
  have m : (-1 : Int32).toBitVec = BitVec.allOnes 32 := rfl
  rw [m, BitVec.getLsbD_allOnes, decide_eq_true hi, Bool.xor_true]
  show (!x.toBitVec.toNat.testBit i && (x - 1).toBitVec.toNat.testBit i) = (nI (2 ^ t - 1)).toBitVec.toNat.testBit i
  rw [e1, e2, lb_pred h, Nat.testBit_two_pow_sub_one]
  by_cases a : i < t
  · rw [if_pos (by omega), h.2 i a, decide_eq_true a]; rfl
  · by_cases b : i = t
    · subst b
      rw [h.1, if_pos (by omega), decide_eq_false a]; rfl
    · rw [if_neg (by omega), decide_eq_false a]
      cases x.toBitVec.toNat.testBit i <;> rfl
theorem ntz_t : ∀ t : Nat, t < 32 → (if 0 < nI (2 ^ t - 1) then (if nI (2 ^ t - 1) ≤ 65536 then n34 (nI (2 ^ t - 1)) 1 else n34 (zus (nI (2 ^ t - 1)) 16) (1 + 16)) else nI (2 ^ t - 1) &&& 32).toInt = (t : Int) := by decide +kernel
theorem ntz32_e {x : Int32} {t : Nat} (h : lb x.toBitVec.toNat t) (ht : t < 32) : (ntz32 x).toInt = (t : Int) := by
  unfold ntz32
  rw [ntz_low h ht]
  exact ntz_t t ht
theorem ti32_n (y : Int64) : (Int64.toInt32 y).toBitVec.toNat = y.toBitVec.toNat % 2 ^ 32 := by
  rw [Int64.toBitVec_toInt32, BitVec.signExtend_eq_setWidth_of_le _ (by decide), BitVec.toNat_setWidth]
theorem ntz64_e {x : Int64} {t : Nat} (h : lb x.toBitVec.toNat t) (ht : t < 64) : (ntz64 x).toInt = (t : Int) := by
  have z : Int64.toInt32 x = 0 ↔ 32 ≤ t := by
    constructor
    · intro q
      have q2 := congrArg (fun v => v.toBitVec.toNat.testBit t) q
      by_cases a : 32 ≤ t
      · exact a
      · have : (Int64.toInt32 x).toBitVec.toNat.testBit t = true := by
          rw [ti32_n, Nat.testBit_mod_two_pow, decide_eq_true (by omega), h.1]; rfl
        have q2 : (Int64.toInt32 x).toBitVec.toNat.testBit t = (0 : Int32).toBitVec.toNat.testBit t := q2
        have z0 : (0 : Int32).toBitVec.toNat = 0 := rfl
        rw [this, z0, Nat.zero_testBit] at q2
        cases q2
    · intro q
      apply Int32.toBitVec_inj.mp
      apply BitVec.eq_of_toNat_eq
      rw [ti32_n]
      have z0 : (0 : Int32).toBitVec.toNat = 0 := rfl
      rw [z0]
      apply Nat.eq_of_testBit_eq
      intro i
      rw [Nat.testBit_mod_two_pow, Nat.zero_testBit]
      by_cases a : i < 32
      · rw [h.2 i (by omega), Bool.and_false]
      · rw [decide_eq_false a, Bool.false_and]
  unfold ntz64
  by_cases a : Int64.toInt32 x = 0
  · have t32 := z.mp a
    have e := zul_bv x (n := 32) (by decide)
    rw [show nI 32 = 32 from rfl] at e
    have l : lb (Int64.toInt32 (zul x 32)).toBitVec.toNat (t - 32) := by
      rw [ti32_n, e, BitVec.toNat_ushiftRight]
      refine ⟨?_, fun i hi => ?_⟩
      · rw [Nat.testBit_mod_two_pow, decide_eq_true (by omega), Nat.testBit_shiftRight, show 32 + (t - 32) = t by omega, h.1]; rfl
      · rw [Nat.testBit_mod_two_pow, Nat.testBit_shiftRight, h.2 _ (by omega), Bool.and_false]
    have v := ntz32_e l (by omega)
    rw [if_pos a, ti_add, v]
    simp only [Int32.reduceToInt]
    omega
  · have t32 : t < 32 := by
      by_cases q : t < 32
      · exact q
      · exact absurd (z.mpr (by omega)) a
    rw [if_neg a]
    refine ntz32_e ?_ t32
    rw [ti32_n]
    refine ⟨?_, fun i hi => ?_⟩
    · rw [Nat.testBit_mod_two_pow, decide_eq_true t32, h.1]; rfl
    · rw [Nat.testBit_mod_two_pow, h.2 i hi, Bool.and_false]
theorem v_ntz {x : Int64} : Px (f_J13_numberOfTrailingZeros_95d88 N x σ) σ (fun v => ∀ t, t < 64 → lb x.toBitVec.toNat t → v.toInt = (t : Int)) := by
  rw [f_ntz64]
  exact pt_some ⟨rfl, fun t ht h => ntz64_e h ht⟩
/-- a long that is not 0 has a least bit -/
theorem lb_ex {x : Int64} (h : ¬ x = 0) : ∃ t, t < 64 ∧ lb x.toBitVec.toNat t := by
  have ex : ∃ n, n ≤ 64 ∧ ∃ i, i < n ∧ x.toBitVec.toNat.testBit i = true := by
    refine ⟨64, Nat.le_refl _, ?_⟩
    by_cases q : ∃ i, i < 64 ∧ x.toBitVec.toNat.testBit i = true
    · exact q
    · refine absurd ?_ h
      apply Int64.toBitVec_inj.mp
      apply BitVec.eq_of_getLsbD_eq
      intro i hi
      have : x.toBitVec.getLsbD i = false := by
        cases e : x.toBitVec.getLsbD i with
        | false => rfl
        | true => exact absurd ⟨i, hi, e⟩ q
      rw [this]
      exact BitVec.getLsbD_zero.symm
  obtain ⟨n, hn, i, hi, hb⟩ := ex
  have : ∀ m, m ≤ 64 → (∃ i, i < m ∧ x.toBitVec.toNat.testBit i = true) → ∃ t, t < 64 ∧ lb x.toBitVec.toNat t := by
    intro m
    induction m with
    | zero => intro _ ⟨i, hi, _⟩; omega
    | succ m ih =>
      intro hm ⟨i, hi, hb⟩
      by_cases q : ∃ i, i < m ∧ x.toBitVec.toNat.testBit i = true
      · exact ih (by omega) q
      · have e : i = m := by
          by_cases z : i = m
          · exact z
          · exact absurd ⟨i, by omega, hb⟩ q
        subst e
        refine ⟨i, by omega, hb, fun j hj => ?_⟩
        cases e : x.toBitVec.toNat.testBit j with
        | false => rfl
        | true => exact absurd ⟨j, hj, e⟩ q
  exact this n hn ⟨i, hi, hb⟩
/-- the least bit goes -/
theorem clr {x : Int64} {t : Nat} (h : lb x.toBitVec.toNat t) (j : Nat) : (x &&& (x - 1)).toBitVec.getLsbD j = (x.toBitVec.getLsbD j && !decide (j = t)) := by
  have p := lb_pos h
  have hl := x.toBitVec.isLt
  have e1 : (x - 1).toBitVec.toNat = x.toBitVec.toNat - 1 := by
    rw [Int64.toBitVec_sub, BitVec.toNat_sub]
    have : (1 : Int64).toBitVec.toNat = 1 := rfl
    rw [this]
    omega
  rw [Int64.toBitVec_and, BitVec.getLsbD_and]
  show (x.toBitVec.toNat.testBit j && (x - 1).toBitVec.toNat.testBit j) = (x.toBitVec.toNat.testBit j && !decide (j = t))
  rw [e1, lb_pred h]
  by_cases a : j < t
  · rw [h.2 j a]; rfl
  · by_cases b : j = t
    · rw [if_pos (by omega), decide_eq_false a, decide_eq_true b]; rfl
    · rw [if_neg (by omega), decide_eq_false b]
      cases x.toBitVec.toNat.testBit j <;> rfl
theorem v_bitCount {x : Int64} : Px (f_J13_bitCount_95d88 N x σ) σ (fun v => v.toInt = (ct (fun i => x.toBitVec.getLsbD i) 64 : Int)) := by
  obtain ⟨v, h1, h2⟩ := bitCount N x σ
  rw [h1]
  exact pt_some ⟨rfl, h2⟩
theorem bt_w {w : Nat → Int64} {m k : Nat} (hk : k < 64) : bt w (64 * m + k) = (w m).toBitVec.getLsbD k := by
  unfold bt
  rw [show (64 * m + k) / 64 = m by omega, show (64 * m + k) % 64 = k by omega]
theorem ct_w {w : Nat → Int64} {m k : Nat} (hk : k ≤ 64) : ct (bt w) (64 * m + k) = ct (bt w) (64 * m) + ct (fun i => (w m).toBitVec.getLsbD i) k := by
  rw [ct_split]
  congr 1
  exact ct_c (fun i hi => bt_w (by omega))
/-- how many -/
theorem v_tally (hR : RF σ.2.2) (h0 : (zKd x0).1 = 2) : Px (f_X2_tally N x0 σ) σ (fun v => v.toInt = (ct (bt (σ.2.1 (x0 + 1))) 1024 : Int)) := by
  have r0 := (fam_R hR h0).1
  rw [f_X2_tally.eq_1]
  refine pt_lp (fun s : Int32 × Int32 × zS => s.2.2 = σ ∧ (0 ≤ s.2.1.toInt ∧ s.2.1.toInt ≤ 16) ∧ s.1.toInt = (ct (bt (σ.2.1 (x0 + 1))) (64 * s.2.1.toInt.toNat) : Int)) (fun again s hI ih => ?_) N _ ⟨rfl, (by decide : 0 ≤ (0 : Int32).toInt ∧ (0 : Int32).toInt ≤ 16), rfl⟩
  obtain ⟨x1, x2, τ⟩ := s
  obtain ⟨e, hb, hc⟩ := hI
  have e : τ = σ := e
  subst e
  have hb : 0 ≤ x2.toInt ∧ x2.toInt ≤ 16 := hb
  have hc : x1.toInt = (ct (bt (τ.2.1 (x0 + 1))) (64 * x2.toInt.toNat) : Int) := hc
  rw [F_X2_tally_4.eq_1]
  refine pt_if (fun q => pt_some ⟨rfl, ?_⟩) (fun q => ?_)
  · rw [Int32.le_iff_toInt_le] at q
    simp only [Int32.reduceToInt] at q
    show x1.toInt = _
    rw [hc, show x2.toInt.toNat = 16 by omega]
  · rw [Int32.le_iff_toInt_le] at q
    simp only [Int32.reduceToInt] at q
    have hw : 0 ≤ x2.toInt ∧ x2.toInt ≤ 100000 := by omega
    have hb1 : 0 ≤ (x2 + 1).toInt ∧ (x2 + 1).toInt ≤ 16 := by rw [a1_ hw]; omega
    refine pt_gR (v := x0 + 1) r0 (pt_aJ (pt_zbq v_bitCount (fun v hv => ih (x1 + v, x2 + 1, τ) ⟨rfl, hb1, ?_⟩)))
    show (x1 + v).toInt = (ct (bt (τ.2.1 (x0 + 1))) (64 * (x2 + 1).toInt.toNat) : Int)
    have l1 := ct_le (bt (τ.2.1 (x0 + 1))) (64 * x2.toInt.toNat)
    have l2 := ct_le (fun i => (τ.2.1 (x0 + 1) x2.toInt.toNat).toBitVec.getLsbD i) 64
    have e2 := ct_w (w := τ.2.1 (x0 + 1)) (m := x2.toInt.toNat) (k := 64) (Nat.le_refl _)
    rw [show (x2 + 1).toInt.toNat = x2.toInt.toNat + 1 by rw [a1_ hw]; omega, show 64 * (x2.toInt.toNat + 1) = 64 * x2.toInt.toNat + 64 by omega, e2, ti_add, hc, hv]
    clear hb1
    omega
theorem msk : ∀ m, m < 64 → ∀ j, j < 64 → ((zsl 1 (nI m)) - 1).toBitVec.getLsbD j = decide (j < m) := by decide +kernel
/-- how many are less -/
theorem v_tallyBelow (hR : RF σ.2.2) (h0 : (zKd x0).1 = 2) (hs : s < 1024) : Px (f_X2_tallyBelow N x0 (nI s) σ) σ (fun v => v.toInt = (ct (bt (σ.2.1 (x0 + 1))) s : Int)) := by
  have r0 := (fam_R hR h0).1
  have es : (nI s).toInt = (s : Int) := nI_toInt (by omega)
  have fin : ∀ x2 : Int32, x2.toInt = (ct (bt (σ.2.1 (x0 + 1))) (64 * (s / 64)) : Int) → Px (J_X2_tallyBelow_36 N x0 (nI s) x2 σ) σ (fun v => v.toInt = (ct (bt (σ.2.1 (x0 + 1))) s : Int)) := fun x2 hc => by
    rw [J_X2_tallyBelow_36.eq_1]
    refine pt_if (fun q => absurd q (by rw [Int32.lt_iff_toInt_lt, es]; simp only [Int32.reduceToInt]; omega)) (fun _ => pt_if (fun q => absurd q (by rw [Int32.le_iff_toInt_le, es]; simp only [Int32.reduceToInt]; omega)) (fun _ => ?_))
    refine pt_gR (v := x0 + 1) r0 (pt_aJ ?_)
    rw [(sx6 s hs).1, (sx6 s hs).2, Int.toNat_natCast]
    refine pt_zbq v_bitCount (fun v hv => pt_some ⟨rfl, ?_⟩)
    have e : ct (fun i => (σ.2.1 (x0 + 1) (s / 64) &&& (zsl 1 (nI (s % 64)) - 1)).toBitVec.getLsbD i) 64 = ct (fun i => (σ.2.1 (x0 + 1) (s / 64)).toBitVec.getLsbD i) (s % 64) := by
      have l : ∀ i, i < 64 → (σ.2.1 (x0 + 1) (s / 64) &&& (zsl 1 (nI (s % 64)) - 1)).toBitVec.getLsbD i = ((σ.2.1 (x0 + 1) (s / 64)).toBitVec.getLsbD i && decide (i < s % 64)) := fun i hi => by
        rw [Int64.toBitVec_and, BitVec.getLsbD_and, msk _ (by omega) _ hi]
      have e64 : ∀ p : Nat → Bool, (∀ k, s % 64 ≤ k → k < 64 → p k = false) → ct p 64 = ct p (s % 64) := fun p hp => by
        have := ct_split p (s % 64) (64 - s % 64)
        rw [show s % 64 + (64 - s % 64) = 64 by omega] at this
        rw [this, ct_0 (p := fun k => p (s % 64 + k)) (n := 64 - s % 64) (fun k hk => hp _ (by omega) (by omega)), Nat.add_zero]
      rw [e64 _ (fun k h1 h2 => (l k h2).trans (by rw [decide_eq_false (show ¬ k < s % 64 by omega), Bool.and_false]))]
      exact ct_c (fun i hi => (l i (by omega)).trans (by rw [decide_eq_true hi, Bool.and_true]))
    have l1 := ct_le (bt (σ.2.1 (x0 + 1))) (64 * (s / 64))
    have l2 := ct_le (fun i => (σ.2.1 (x0 + 1) (s / 64)).toBitVec.getLsbD i) (s % 64)
    have e2 := ct_w (w := σ.2.1 (x0 + 1)) (m := s / 64) (k := s % 64) (by omega)
    rw [show 64 * (s / 64) + s % 64 = s by omega] at e2
    show (x2 + v).toInt = _
    rw [ti_add, hc, hv, e, e2]
    omega
  rw [f_X2_tallyBelow.eq_1]
  refine pt_lp (fun t : Int32 × Int32 × zS => t.2.2 = σ ∧ (0 ≤ t.2.1.toInt ∧ t.2.1.toInt ≤ ((s / 64 : Nat) : Int)) ∧ t.1.toInt = (ct (bt (σ.2.1 (x0 + 1))) (64 * t.2.1.toInt.toNat) : Int)) (fun again t hI ih => ?_) N _ ⟨rfl, (by show 0 ≤ (0 : Int32).toInt ∧ (0 : Int32).toInt ≤ _; simp only [Int32.reduceToInt]; omega), rfl⟩
  obtain ⟨x2, x3, τ⟩ := t
  obtain ⟨e, hb, hc⟩ := hI
  have e : τ = σ := e
  subst e
  have hb : 0 ≤ x3.toInt ∧ x3.toInt ≤ ((s / 64 : Nat) : Int) := hb
  have hc : x2.toInt = (ct (bt (τ.2.1 (x0 + 1))) (64 * x3.toInt.toNat) : Int) := hc
  rw [F_X2_tallyBelow_4.eq_1]
  refine pt_if (fun q => absurd q (by rw [Int32.le_iff_toInt_le]; simp only [Int32.reduceToInt]; omega)) (fun _ => pt_if (fun q => fin x2 ?_) (fun q => ?_))
  · rw [Int32.le_iff_toInt_le, (sx6 s hs).1] at q
    rw [hc, show x3.toInt.toNat = s / 64 by omega]
  · rw [Int32.le_iff_toInt_le, (sx6 s hs).1] at q
    have hw : 0 ≤ x3.toInt ∧ x3.toInt ≤ 100000 := by omega
    have hb1 : 0 ≤ (x3 + 1).toInt ∧ (x3 + 1).toInt ≤ ((s / 64 : Nat) : Int) := by rw [a1_ hw]; omega
    refine pt_gR (v := x0 + 1) r0 (pt_aJ (pt_zbq v_bitCount (fun v hv => ih (x2 + v, x3 + 1, τ) ⟨rfl, hb1, ?_⟩)))
    show (x2 + v).toInt = (ct (bt (τ.2.1 (x0 + 1))) (64 * (x3 + 1).toInt.toNat) : Int)
    have l1 := ct_le (bt (τ.2.1 (x0 + 1))) (64 * x3.toInt.toNat)
    have l2 := ct_le (fun i => (τ.2.1 (x0 + 1) x3.toInt.toNat).toBitVec.getLsbD i) 64
    have e2 := ct_w (w := τ.2.1 (x0 + 1)) (m := x3.toInt.toNat) (k := 64) (Nat.le_refl _)
    rw [show (x3 + 1).toInt.toNat = x3.toInt.toNat + 1 by rw [a1_ hw]; omega, show 64 * (x3.toInt.toNat + 1) = 64 * x3.toInt.toNat + 64 by omega, e2, ti_add, hc, hv]
    clear hb1
    omega
/-- v is the first member from s on, or -1 -/
def fsQ (p : Nat → Bool) (s : Nat) (v : Int32) : Prop := (∃ u, (s ≤ u ∧ u < 1024) ∧ p u = true ∧ (∀ i, s ≤ i → i < u → p i = false) ∧ v.toInt = (u : Int)) ∨ ((∀ u, s ≤ u → u < 1024 → p u = false) ∧ v = -1)
theorem mskh : ∀ m, m < 64 → ∀ j, j < 64 → (zsl (-1) (nI m)).toBitVec.getLsbD j = decide (m ≤ j) := by decide +kernel
theorem v_firstFrom (hR : RF σ.2.2) (h0 : (zKd x0).1 = 2) (hs : s ≤ 1024) : Px (f_X2_firstFrom N x0 (nI s) σ) σ (fsQ (bt (σ.2.1 (x0 + 1))) s) := by
  have r0 := (fam_R hR h0).1
  have es : (nI s).toInt = (s : Int) := nI_toInt (by omega)
  rw [f_X2_firstFrom.eq_1]
  refine pt_if (fun q => absurd q (by rw [Int32.lt_iff_toInt_lt, es]; simp only [Int32.reduceToInt]; omega)) (fun _ => pt_if (fun q => ?_) (fun q => pt_some ⟨rfl, Or.inr ⟨fun u h1 h2 => ?_, rfl⟩⟩))
  · rw [Int32.lt_iff_toInt_lt, es] at q
    simp only [Int32.reduceToInt] at q
    have hs : s < 1024 := by omega
    refine pt_gR (v := x0 + 1) r0 (pt_aJ ?_)
    rw [(sx6 s hs).2]
    have e6 := (sx6 s hs).1
    rw [e6, Int.toNat_natCast]
    refine pt_lp (fun t : Int64 × Int32 × zS => t.2.2 = σ ∧ (((s / 64 : Nat) : Int) ≤ t.2.1.toInt ∧ t.2.1.toInt ≤ 16) ∧ (t.2.1.toInt = ((s / 64 : Nat) : Int) → t.1 = (σ.2.1 (x0 + 1) (s / 64) &&& zsl (-1) (nI (s % 64)))) ∧ ∀ u : Nat, s ≤ u → (u : Int) < 64 * t.2.1.toInt → bt (σ.2.1 (x0 + 1)) u = false) (fun again t hI ih => ?_) N _ ⟨rfl, (by rw [e6]; omega), fun _ => rfl, fun u h1 h2 => absurd h2 (by rw [e6]; omega)⟩
    obtain ⟨x2, x4, τ⟩ := t
    obtain ⟨e, hb, hx, hu⟩ := hI
    have e : τ = σ := e
    subst e
    have hb : ((s / 64 : Nat) : Int) ≤ x4.toInt ∧ x4.toInt ≤ 16 := hb
    have hx : x4.toInt = ((s / 64 : Nat) : Int) → x2 = (τ.2.1 (x0 + 1) (s / 64) &&& zsl (-1) (nI (s % 64))) := hx
    have hu : ∀ u : Nat, s ≤ u → (u : Int) < 64 * x4.toInt → bt (τ.2.1 (x0 + 1)) u = false := hu
    rw [F_X2_firstFrom_38.eq_1]
    refine pt_if (fun z => pt_some ⟨rfl, Or.inr ⟨fun u h1 h2 => hu u h1 ?_, rfl⟩⟩) (fun z => ?_)
    · rw [Int32.le_iff_toInt_le] at z
      simp only [Int32.reduceToInt] at z
      omega
    · rw [Int32.le_iff_toInt_le] at z
      simp only [Int32.reduceToInt] at z
      obtain ⟨m, hm, rfl⟩ := znI (x := x4) (m := 16) (by omega) (by omega)
      have em : (nI m).toInt = (m : Int) := nI_toInt (by omega)
      rw [em] at hb hx hu
      have hw : 0 ≤ (nI m).toInt ∧ (nI m).toInt ≤ 100000 := by omega
      have e1 : (nI m + 1).toInt = (m : Int) + 1 := by rw [a1_ hw, em]
      -- a word whose bits are the members from s on
      have go : ∀ y : Int64, (∀ i, i < 64 → y.toBitVec.getLsbD i = (bt (τ.2.1 (x0 + 1)) (64 * m + i) && decide (s ≤ 64 * m + i))) → Px (J_X2_firstFrom_62 N again x0 (nI s) (nI m) y τ) τ (fsQ (bt (τ.2.1 (x0 + 1))) s) := fun y hy => by
        rw [J_X2_firstFrom_62.eq_1]
        refine pt_if (fun c => ?_) (fun c => ?_)
        · have y0 := cmp0.mp c
          refine ih (y, nI m + 1, τ) ⟨rfl, (by rw [e1]; omega : ((s / 64 : Nat) : Int) ≤ (nI m + 1).toInt ∧ (nI m + 1).toInt ≤ 16), fun h => ?_, fun u h1 h2 => ?_⟩
          · have h : (nI m + 1).toInt = ((s / 64 : Nat) : Int) := h
            rw [e1] at h
            omega
          · have h2 : (u : Int) < 64 * (nI m + 1).toInt := h2
            rw [e1] at h2
            by_cases d : (u : Int) < 64 * (m : Int)
            · exact hu u h1 d
            · have t := hy (u - 64 * m) (by omega)
              rw [show 64 * m + (u - 64 * m) = u by omega, decide_eq_true h1, Bool.and_true, y0] at t
              rw [← t]
              exact BitVec.getLsbD_zero
        · have y0 : ¬ y = 0 := fun d => c (cmp0.mpr d)
          obtain ⟨t, ht, hl⟩ := lb_ex y0
          refine pt_zbq v_ntz (fun v hv => pt_some ⟨rfl, Or.inl ⟨64 * m + t, ?_⟩⟩)
          have vt := hv t ht hl
          have ht1 : y.toBitVec.getLsbD t = true := hl.1
          rw [hy t ht, Bool.and_eq_true] at ht1
          have st := of_decide_eq_true ht1.2
          refine ⟨⟨st, by omega⟩, ht1.1, fun i h1 h2 => ?_, ?_⟩
          · by_cases d : (i : Int) < 64 * (m : Int)
            · exact hu i h1 d
            · have f : y.toBitVec.getLsbD (i - 64 * m) = false := hl.2 _ (by omega)
              rw [hy _ (by omega), show 64 * m + (i - 64 * m) = i by omega, decide_eq_true h1, Bool.and_true] at f
              exact f
          · have m64 : (nI m * 64).toInt = 64 * (m : Int) := by
              rw [ti_mul, em]
              simp only [Int32.reduceToInt]
              omega
            rw [ti_add, m64, vt]
            omega
      refine pt_if (fun c => go x2 (fun i hi => ?_)) (fun c => pt_gR (v := x0 + 1) r0 (pt_aJ ?_))
      · rw [Int32.le_iff_toInt_le, e6, em] at c
        have e64 : m = s / 64 := by omega
        rw [hx (by omega), Int64.toBitVec_and, BitVec.getLsbD_and, mskh _ (by omega) _ hi, bt_w hi, e64]
        congr 1
        by_cases d : s % 64 ≤ i
        · rw [decide_eq_true d, decide_eq_true (by omega)]
        · rw [decide_eq_false d, decide_eq_false (by omega)]
      · rw [Int32.le_iff_toInt_le, e6, em] at c
        rw [em, Int.toNat_natCast]
        exact go _ (fun i hi => by rw [bt_w hi, decide_eq_true (by omega), Bool.and_true])
  · rw [Int32.lt_iff_toInt_lt, es] at q
    simp only [Int32.reduceToInt] at q
    omega
/-- v is the i-th member, or -1 -/
def pkQ (p : Nat → Bool) (i : Nat) (v : Int32) : Prop := (∃ u, u < 1024 ∧ p u = true ∧ ct p u = i ∧ v.toInt = (u : Int)) ∨ (ct p 1024 ≤ i ∧ v = -1)
theorem v_pickInWord {x : Int64} {i : Nat} (hi : i < ct (fun j => x.toBitVec.getLsbD j) 64) : Px (f_X2_pickInWord N x0 x (nI i) σ) σ (fun v => ∃ t, t < 64 ∧ x.toBitVec.getLsbD t = true ∧ ct (fun j => x.toBitVec.getLsbD j) t = i ∧ v.toInt = (t : Int)) := by
  have l64 := ct_le (fun j => x.toBitVec.getLsbD j) 64
  have ei : (nI i).toInt = (i : Int) := nI_toInt (by omega)
  rw [f_X2_pickInWord.eq_1]
  refine pt_lp (fun s : Int64 × Int32 × zS => s.2.2 = σ ∧ (0 ≤ s.2.1.toInt ∧ s.2.1.toInt ≤ (i : Int)) ∧ ∀ j, j < 64 → s.1.toBitVec.getLsbD j = (x.toBitVec.getLsbD j && decide (s.2.1.toInt.toNat ≤ ct (fun j => x.toBitVec.getLsbD j) j))) (fun again s hI ih => ?_) N _ ⟨rfl, (by show 0 ≤ (0 : Int32).toInt ∧ (0 : Int32).toInt ≤ _; simp only [Int32.reduceToInt]; omega), fun j _ => by show x.toBitVec.getLsbD j = (x.toBitVec.getLsbD j && decide (0 ≤ ct (fun j => x.toBitVec.getLsbD j) j)); rw [decide_eq_true (Nat.zero_le _), Bool.and_true]⟩
  obtain ⟨x4, x6, τ⟩ := s
  obtain ⟨e, hb, hx⟩ := hI
  have e : τ = σ := e
  subst e
  have hb : 0 ≤ x6.toInt ∧ x6.toInt ≤ (i : Int) := hb
  have hx : ∀ j, j < 64 → x4.toBitVec.getLsbD j = (x.toBitVec.getLsbD j && decide (x6.toInt.toNat ≤ ct (fun j => x.toBitVec.getLsbD j) j)) := hx
  -- the least bit of what is left
  have least : ∃ t, t < 64 ∧ lb x4.toBitVec.toNat t ∧ x.toBitVec.getLsbD t = true ∧ ct (fun j => x.toBitVec.getLsbD j) t = x6.toInt.toNat := by
    have kth : ∀ n, n ≤ 64 → x6.toInt.toNat < ct (fun j => x.toBitVec.getLsbD j) n → ∃ t, t < n ∧ x.toBitVec.getLsbD t = true ∧ ct (fun j => x.toBitVec.getLsbD j) t = x6.toInt.toNat := by
      intro n
      induction n with
      | zero => intro _ h; exact absurd h (Nat.not_lt_zero _)
      | succ n ihn =>
        intro hn h
        by_cases q : x6.toInt.toNat < ct (fun j => x.toBitVec.getLsbD j) n
        · obtain ⟨t, a, b, c⟩ := ihn (by omega) q
          exact ⟨t, by omega, b, c⟩
        · have h : x6.toInt.toNat < ct (fun j => x.toBitVec.getLsbD j) n + (if x.toBitVec.getLsbD n = true then 1 else 0) := h
          by_cases b : x.toBitVec.getLsbD n = true
          · rw [if_pos b] at h
            exact ⟨n, by omega, b, by omega⟩
          · rw [if_neg b] at h; omega
    obtain ⟨t, ht, hb1, hc⟩ := kth 64 (Nat.le_refl _) (by omega)
    refine ⟨t, ht, ⟨?_, fun j hj => ?_⟩, hb1, hc⟩
    · have := hx t ht
      rw [hb1, decide_eq_true (by omega)] at this
      exact this
    · have := hx j (by omega)
      cases q : x.toBitVec.getLsbD j with
      | false => rw [q, Bool.false_and] at this; exact this
      | true =>
        have s1 : ct (fun j => x.toBitVec.getLsbD j) (j + 1) = ct (fun j => x.toBitVec.getLsbD j) j + 1 := by
          show ct (fun j => x.toBitVec.getLsbD j) j + (if x.toBitVec.getLsbD j = true then 1 else 0) = _
          rw [if_pos q]
        have s2 := ct_mono (fun j => x.toBitVec.getLsbD j) (show j + 1 ≤ t by omega)
        rw [q, decide_eq_false (by omega)] at this
        exact this
  obtain ⟨t, ht, hl, htb, htc⟩ := least
  have fin : x6.toInt = (i : Int) → Px (zb (f_J13_numberOfTrailingZeros_95d88 N x4 τ) fun v1 σ2 => some (v1, σ2)) τ (fun v => ∃ t, t < 64 ∧ x.toBitVec.getLsbD t = true ∧ ct (fun j => x.toBitVec.getLsbD j) t = i ∧ v.toInt = (t : Int)) := fun z => pt_zbq v_ntz (fun v hv => pt_some ⟨rfl, t, ht, htb, by omega, hv t ht hl⟩)
  rw [F_X2_pickInWord_6.eq_1]
  refine pt_if (fun q => fin (by rw [Int32.le_iff_toInt_le, ei] at q; omega)) (fun q => pt_if (fun q2 => absurd q2 (by rw [Int32.le_iff_toInt_le, ei] at q; rw [Int32.le_iff_toInt_le]; simp only [Int32.reduceToInt]; omega)) (fun _ => ?_))
  rw [Int32.le_iff_toInt_le, ei] at q
  have hw : 0 ≤ x6.toInt ∧ x6.toInt ≤ 100000 := by omega
  have hb2 : 0 ≤ (x6 + 1).toInt ∧ (x6 + 1).toInt ≤ (i : Int) := by rw [a1_ hw]; omega
  refine ih (_, x6 + 1, τ) ⟨rfl, hb2, fun j hj => ?_⟩
  show (x4 &&& (x4 - 1)).toBitVec.getLsbD j = (x.toBitVec.getLsbD j && decide ((x6 + 1).toInt.toNat ≤ ct (fun j => x.toBitVec.getLsbD j) j))
  rw [clr hl, hx j hj, show (x6 + 1).toInt.toNat = x6.toInt.toNat + 1 by rw [a1_ hw]; omega]
  clear hb2
  cases qj : x.toBitVec.getLsbD j with
  | false => rfl
  | true =>
    rw [Bool.true_and, Bool.true_and]
    by_cases a : j = t
    · subst a
      rw [decide_eq_true (rfl : j = j), decide_eq_false (show ¬ x6.toInt.toNat + 1 ≤ ct (fun j => x.toBitVec.getLsbD j) j by omega)]
      simp
    · rw [decide_eq_false a, Bool.not_false, Bool.and_true]
      by_cases b : j < t
      · have s1 : ct (fun j => x.toBitVec.getLsbD j) (j + 1) = ct (fun j => x.toBitVec.getLsbD j) j + 1 := by
          show ct (fun j => x.toBitVec.getLsbD j) j + (if x.toBitVec.getLsbD j = true then 1 else 0) = _
          rw [if_pos qj]
        have s2 := ct_mono (fun j => x.toBitVec.getLsbD j) (show j + 1 ≤ t by omega)
        rw [decide_eq_false (by omega), decide_eq_false (by omega)]
      · have s1 : ct (fun j => x.toBitVec.getLsbD j) (t + 1) = ct (fun j => x.toBitVec.getLsbD j) t + 1 := by
          show ct (fun j => x.toBitVec.getLsbD j) t + (if x.toBitVec.getLsbD t = true then 1 else 0) = _
          rw [if_pos htb]
        have s2 := ct_mono (fun j => x.toBitVec.getLsbD j) (show t + 1 ≤ j by omega)
        rw [decide_eq_true (by omega), decide_eq_true (by omega)]
theorem v_pick {x1 : Int32} (hR : RF σ.2.2) (h0 : (zKd x0).1 = 2) : Px (f_X2_pick N x0 x1 σ) σ (fun v => (0 ≤ x1.toInt → pkQ (bt (σ.2.1 (x0 + 1))) x1.toInt.toNat v) ∧ (x1.toInt < 0 → v = -1)) := by
  have r0 := (fam_R hR h0).1
  rw [f_X2_pick.eq_1]
  refine pt_if (fun q => ?_) (fun q => pt_some ⟨rfl, fun z => absurd (by rw [Int32.le_iff_toInt_le]; simpa using z) q, fun _ => rfl⟩)
  rw [Int32.le_iff_toInt_le] at q
  simp only [Int32.reduceToInt] at q
  refine pt_w (P := fun r : Int32 × zS => r.2 = σ ∧ ((0 ≤ x1.toInt → pkQ (bt (σ.2.1 (x0 + 1))) x1.toInt.toNat r.1) ∧ (x1.toInt < 0 → r.1 = -1))) (Q := fun r : Int32 × zS => r.2 = σ ∧ pkQ (bt (σ.2.1 (x0 + 1))) x1.toInt.toNat r.1) ?_ (fun r h => ⟨h.1, fun _ => h.2, fun z => absurd z (by omega)⟩)
  refine pt_lp (fun s : Int32 × Int32 × zS => s.2.2 = σ ∧ ((0 ≤ s.2.1.toInt ∧ s.2.1.toInt ≤ 16) ∧ 0 ≤ s.1.toInt) ∧ x1.toInt = s.1.toInt + (ct (bt (σ.2.1 (x0 + 1))) (64 * s.2.1.toInt.toNat) : Int)) (fun again s hI ih => ?_) N _ ⟨rfl, ⟨(by decide : 0 ≤ (0 : Int32).toInt ∧ (0 : Int32).toInt ≤ 16), q⟩, by show x1.toInt = x1.toInt + ((0 : Nat) : Int); omega⟩
  obtain ⟨x2, x3, τ⟩ := s
  obtain ⟨e, ⟨hb, h2⟩, hc⟩ := hI
  have e : τ = σ := e
  subst e
  have hb : 0 ≤ x3.toInt ∧ x3.toInt ≤ 16 := hb
  have h2 : 0 ≤ x2.toInt := h2
  have hc : x1.toInt = x2.toInt + (ct (bt (τ.2.1 (x0 + 1))) (64 * x3.toInt.toNat) : Int) := hc
  rw [F_X2_pick_10.eq_1]
  refine pt_if (fun z => pt_some ⟨rfl, Or.inr ⟨?_, rfl⟩⟩) (fun z => ?_)
  · rw [Int32.le_iff_toInt_le] at z
    simp only [Int32.reduceToInt] at z
    rw [show x3.toInt.toNat = 16 by omega] at hc
    have hc : x1.toInt = x2.toInt + (ct (bt (τ.2.1 (x0 + 1))) 1024 : Int) := hc
    omega
  · rw [Int32.le_iff_toInt_le] at z
    simp only [Int32.reduceToInt] at z
    have hw : 0 ≤ x3.toInt ∧ x3.toInt ≤ 100000 := by omega
    have hb1 : 0 ≤ (x3 + 1).toInt ∧ (x3 + 1).toInt ≤ 16 := by rw [a1_ hw]; omega
    have e2 := ct_w (w := τ.2.1 (x0 + 1)) (m := x3.toInt.toNat) (k := 64) (Nat.le_refl _)
    have l2 := ct_le (fun i => (τ.2.1 (x0 + 1) x3.toInt.toNat).toBitVec.getLsbD i) 64
    refine pt_gR (v := x0 + 1) r0 (pt_aJ (pt_zbq v_bitCount (fun v hv => pt_if (fun c => ?_) (fun c => ?_))))
    · rw [Int32.le_iff_toInt_le] at c
      have h1 := ti_hi x2
      have sb : (x2 - v).toInt = x2.toInt - v.toInt := by rw [ti_sub, hv]; omega
      refine ih (x2 - v, x3 + 1, τ) ⟨rfl, ⟨hb1, by show 0 ≤ (x2 - v).toInt; omega⟩, ?_⟩
      show x1.toInt = (x2 - v).toInt + (ct (bt (τ.2.1 (x0 + 1))) (64 * (x3 + 1).toInt.toNat) : Int)
      rw [show (x3 + 1).toInt.toNat = x3.toInt.toNat + 1 by rw [a1_ hw]; omega, show 64 * (x3.toInt.toNat + 1) = 64 * x3.toInt.toNat + 64 by omega, e2, sb, hv, hc]
      clear hb1
      omega
    · rw [Int32.le_iff_toInt_le, hv] at c
      obtain ⟨m, hm, rfl⟩ := znI (x := x2) (m := 64) h2 (by omega)
      have em : (nI m).toInt = (m : Int) := nI_toInt (by omega)
      rw [em] at c hc
      refine pt_gR (v := x0 + 1) r0 (pt_aJ (pt_gC (pt_zbq (v_pickInWord (by omega)) (fun w hw2 => pt_some ⟨rfl, Or.inl ?_⟩))))
      obtain ⟨t, ht, hb2, hct, hwt⟩ := hw2
      refine ⟨64 * x3.toInt.toNat + t, by omega, by rw [bt_w ht]; exact hb2, ?_, ?_⟩
      · rw [ct_w (by omega), hct]; omega
      · have m64 : (x3 * 64).toInt = 64 * x3.toInt := by
          rw [ti_mul]
          simp only [Int32.reduceToInt]
          clear hb1
          omega
        show (x3 * 64 + w).toInt = _
        rw [ti_add, m64, hwt]
        clear hb1 m64
        omega
end PICK
end Zq13_16
section Zq13_17
/-! ===== sets as numbers ===== -/
/-- v lies in u -/
def sb (v u : Nat) : Prop := ∀ i, v.testBit i = true → u.testBit i = true
theorem sb.rf {u : Nat} : sb u u := fun _ h => h
theorem sb.tr {u v w : Nat} (h : sb u v) (h2 : sb v w) : sb u w := fun i q => h2 i (h i q)
theorem sb_and {v u : Nat} : sb v u ↔ v &&& u = v := by
  constructor
  · intro h
    apply Nat.eq_of_testBit_eq
    intro i
    rw [Nat.testBit_and]
    cases q : v.testBit i with
    | false => rfl
    | true => rw [h i q]; rfl
  · intro h i q
    rw [← h, Nat.testBit_and, Bool.and_eq_true] at q
    exact q.2
theorem tb_lt {u n i : Nat} (h : u < 2 ^ n) (hi : n ≤ i) : u.testBit i = false := Nat.testBit_lt_two_pow (Nat.lt_of_lt_of_le h (Nat.pow_le_pow_right (by decide) hi))
theorem lt_tb {u n : Nat} (h : ∀ i, n ≤ i → u.testBit i = false) : u < 2 ^ n := Nat.lt_pow_two_of_testBit u h
theorem sb_lt {v u n : Nat} (h : sb v u) (hu : u < 2 ^ n) : v < 2 ^ n := lt_tb (fun i hi => by
  cases q : v.testBit i with
  | false => rfl
  | true => have z := h i q; rw [tb_lt hu hi] at z; exact z.symm)
theorem xb {u k i : Nat} : (u ^^^ 2 ^ k).testBit i = (u.testBit i ^^ decide (k = i)) := by
  rw [Nat.testBit_xor, Nat.testBit_two_pow]
theorem x_lt {u k n : Nat} (h : u < 2 ^ n) (hk : k < n) : u ^^^ 2 ^ k < 2 ^ n := Nat.xor_lt_two_pow h (Nat.pow_lt_pow_right (by decide) hk)
theorem x_1024 {u k : Nat} (h : u < 1024) (hk : k < 10) : u ^^^ 2 ^ k < 1024 := x_lt (n := 10) h hk
theorem x_x {u k : Nat} : (u ^^^ 2 ^ k) ^^^ 2 ^ k = u := by rw [Nat.xor_assoc, Nat.xor_self, Nat.xor_zero]
/-- all above, by the first k names -/
def upI (F : Nat → Bool) : Nat → Nat → Bool
  | 0, u => F u
  | k + 1, u => upI F k u || (u.testBit k && upI F k (u ^^^ 2 ^ k))
theorem upI_iff {F : Nat → Bool} : ∀ {k u : Nat}, upI F k u = true ↔ ∃ v, sb v u ∧ (∀ i, k ≤ i → v.testBit i = u.testBit i) ∧ F v = true
  | 0, u => ⟨fun h => ⟨u, sb.rf, fun _ _ => rfl, h⟩, fun ⟨v, _, h2, h3⟩ => by
    have : v = u := Nat.eq_of_testBit_eq (fun i => h2 i (Nat.zero_le _))
    rw [← this]; exact h3⟩
  | k + 1, u => by
    show (upI F k u || (u.testBit k && upI F k (u ^^^ 2 ^ k))) = true ↔ _
    rw [Bool.or_eq_true, Bool.and_eq_true, upI_iff, upI_iff]
    constructor
    · rintro (⟨v, h1, h2, h3⟩ | ⟨hk, v, h1, h2, h3⟩)
      · exact ⟨v, h1, fun i hi => h2 i (by omega), h3⟩
      · refine ⟨v, fun i q => ?_, fun i hi => ?_, h3⟩
        · have := h1 i q
          rw [xb] at this
          by_cases e : k = i
          · rw [← e]; exact hk
          · rw [decide_eq_false e, Bool.xor_false] at this; exact this
        · rw [h2 i (by omega), xb, decide_eq_false (show ¬ k = i by omega), Bool.xor_false]
    · rintro ⟨v, h1, h2, h3⟩
      cases hv : v.testBit k with
      | true =>
        refine Or.inl ⟨v, h1, fun i hi => ?_, h3⟩
        by_cases e : i = k
        · rw [e, hv, h1 k hv]
        · exact h2 i (by omega)
      | false =>
        cases hu : u.testBit k with
        | false =>
          refine Or.inl ⟨v, h1, fun i hi => ?_, h3⟩
          by_cases e : i = k
          · rw [e, hv, hu]
          · exact h2 i (by omega)
        | true =>
          refine Or.inr ⟨rfl, v, fun i q => ?_, fun i hi => ?_, h3⟩
          · have ne : ¬ k = i := fun e => by rw [← e, hv] at q; cases q
            rw [xb, decide_eq_false ne, Bool.xor_false]; exact h1 i q
          · by_cases e : k = i
            · rw [xb, ← e, hv, hu, decide_eq_true rfl]; rfl
            · rw [xb, decide_eq_false e, Bool.xor_false]; exact h2 i (by omega)
/-- all below, by the first k names -/
def dnI (F : Nat → Bool) : Nat → Nat → Bool
  | 0, u => F u
  | k + 1, u => dnI F k u || (!u.testBit k && dnI F k (u ^^^ 2 ^ k))
theorem dnI_iff {F : Nat → Bool} : ∀ {k u : Nat}, dnI F k u = true ↔ ∃ v, sb u v ∧ (∀ i, k ≤ i → v.testBit i = u.testBit i) ∧ F v = true
  | 0, u => ⟨fun h => ⟨u, sb.rf, fun _ _ => rfl, h⟩, fun ⟨v, _, h2, h3⟩ => by
    have : v = u := Nat.eq_of_testBit_eq (fun i => h2 i (Nat.zero_le _))
    rw [← this]; exact h3⟩
  | k + 1, u => by
    show (dnI F k u || (!u.testBit k && dnI F k (u ^^^ 2 ^ k))) = true ↔ _
    rw [Bool.or_eq_true, Bool.and_eq_true, dnI_iff, dnI_iff]
    constructor
    · rintro (⟨v, h1, h2, h3⟩ | ⟨hk, v, h1, h2, h3⟩)
      · exact ⟨v, h1, fun i hi => h2 i (by omega), h3⟩
      · refine ⟨v, fun i q => ?_, fun i hi => ?_, h3⟩
        · refine h1 i ?_
          rw [xb]
          by_cases e : k = i
          · rw [← e] at q
            rw [q] at hk; cases hk
          · rw [decide_eq_false e, Bool.xor_false]; exact q
        · rw [h2 i (by omega), xb, decide_eq_false (show ¬ k = i by omega), Bool.xor_false]
    · rintro ⟨v, h1, h2, h3⟩
      cases hu : u.testBit k with
      | true =>
        refine Or.inl ⟨v, h1, fun i hi => ?_, h3⟩
        by_cases e : i = k
        · rw [e, hu, h1 k hu]
        · exact h2 i (by omega)
      | false =>
        cases hv : v.testBit k with
        | false =>
          refine Or.inl ⟨v, h1, fun i hi => ?_, h3⟩
          by_cases e : i = k
          · rw [e, hv, hu]
          · exact h2 i (by omega)
        | true =>
          refine Or.inr ⟨rfl, v, fun i q => ?_, fun i hi => ?_, h3⟩
          · rw [xb] at q
            by_cases e : k = i
            · rw [← e]; exact hv
            · rw [decide_eq_false e, Bool.xor_false] at q; exact h1 i q
          · by_cases e : k = i
            · rw [xb, ← e, hv, hu, decide_eq_true rfl]; rfl
            · rw [xb, decide_eq_false e, Bool.xor_false]; exact h2 i (by omega)
/-- the first k names changed -/
def flI (F : Nat → Bool) : Nat → Nat → Bool
  | 0, u => F u
  | k + 1, u => flI F k (u ^^^ 2 ^ k)
theorem flI_eq {F : Nat → Bool} : ∀ {k u : Nat}, flI F k u = F (u ^^^ (2 ^ k - 1))
  | 0, u => by show F u = _; rw [show u ^^^ (2 ^ 0 - 1) = u from Nat.xor_zero u]
  | k + 1, u => by
    show flI F k (u ^^^ 2 ^ k) = _
    rw [flI_eq]
    congr 1
    apply Nat.eq_of_testBit_eq
    intro i
    rw [Nat.testBit_xor, xb, Nat.testBit_xor, Nat.testBit_two_pow_sub_one, Nat.testBit_two_pow_sub_one, Bool.xor_assoc]
    congr 1
    by_cases a : i < k
    · rw [decide_eq_false (show ¬ k = i by omega), decide_eq_true a, decide_eq_true (by omega)]; rfl
    · by_cases b : k = i
      · rw [decide_eq_true b, decide_eq_false a, decide_eq_true (by omega)]; rfl
      · rw [decide_eq_false b, decide_eq_false a, decide_eq_false (by omega)]; rfl
/-! pure families of n names: what the operations give, for u below 2^n -/
section PURE
variable {F G : Nat → Bool} {n u : Nat}
/-- no member at or above 2^n -/
def inN (F : Nat → Bool) (n : Nat) : Prop := ∀ u, u < 1024 → F u = true → u < 2 ^ n
theorem up_iff (hF : inN F n) (hn : n ≤ 10) (hu : u < 1024) : (upI F n u = true ∧ u < 2 ^ n) ↔ (∃ v, sb v u ∧ F v = true) ∧ u < 2 ^ n := by
  constructor
  · rintro ⟨h, l⟩
    obtain ⟨v, a, _, c⟩ := upI_iff.mp h
    exact ⟨⟨v, a, c⟩, l⟩
  · rintro ⟨⟨v, a, c⟩, l⟩
    refine ⟨upI_iff.mpr ⟨v, a, fun i hi => ?_, c⟩, l⟩
    rw [tb_lt l hi, tb_lt (sb_lt a l) hi]
/-- a family goes up within its names -/
theorem up_in (hF : inN F n) (hu : u < 1024) (h : upI F n u = true) : u < 2 ^ n := by
  obtain ⟨v, a, b, c⟩ := upI_iff.mp h
  have hv : v < 1024 := sb_lt (n := 10) a hu
  have l := hF v hv c
  exact lt_tb (fun i hi => by rw [← b i hi]; exact tb_lt l hi)
theorem dn_in (hF : inN F n) (hF2 : ∀ v, F v = true → v < 1024) (h : dnI F n u = true) : u < 2 ^ n := by
  obtain ⟨v, a, b, c⟩ := dnI_iff.mp h
  exact sb_lt a (hF v (hF2 v c) c)
end PURE
end Zq13_17
section Zq13_18
/-! ===== the class's algebra: least, greatest, missing, above, below ===== -/
/-- longs of the rows of L alone may be other -/
def LG (L : List Nat) (σ τ : zS) : Prop := τ.1 = σ.1 ∧ τ.2.2 = σ.2.2 ∧ ∀ a, a ∉ L → τ.2.1 a = σ.2.1 a
theorem LG.rf {L : List Nat} {σ : zS} : LG L σ σ := ⟨rfl, rfl, fun _ _ => rfl⟩
theorem LG.tr {L : List Nat} {σ τ υ : zS} (h : LG L σ τ) (h2 : LG L τ υ) : LG L σ υ := ⟨h2.1.trans h.1, h2.2.1.trans h.2.1, fun a ha => (h2.2.2 a ha).trans (h.2.2 a ha)⟩
theorem LF.G {k : Nat} {L : List Nat} {σ τ : zS} (h : LF k σ τ) (hk : k ∈ L) : LG L σ τ := ⟨h.1, h.2.1, fun a ha => h.2.2 a (fun e => ha (by rw [e]; exact hk))⟩
theorem LG.R {L : List Nat} {σ τ : zS} (h : LG L σ τ) (hR : RF σ.2.2) : RF τ.2.2 := by rw [h.2.1]; exact hR
section ALG
variable {N f n : Nat} {σ : zS}
/-- a family that is none of the algebra's own -/
def isF (f : Nat) : Prop := (zKd f).1 = 2 ∧ f ≠ 100 ∧ f ≠ 102 ∧ f ≠ 104
theorem nle {n m : Nat} (hn : n ≤ 10) (hm : m ≤ 10) : nI n ≤ nI m ↔ n ≤ m := by
  rw [Int32.le_iff_toInt_le, nI_toInt (by omega), nI_toInt (by omega)]
  omega
theorem nI_s1 {m : Nat} (hm : m ≤ 2000) : nI m + 1 = nI (m + 1) := by
  apply Int32.toInt_inj.mp
  rw [a1_ (by rw [nI_toInt (by omega)]; omega), nI_toInt (by omega), nI_toInt (by omega)]
  omega
theorem k100 : (zKd 100).1 = 2 ∧ (zKd 102).1 = 2 ∧ (zKd 104).1 = 2 := by decide
theorem v_raiseAll {x0 : Nat} (hR : RF σ.2.2) (h0 : (zKd f).1 = 2) (hn : n ≤ 10) : Pt (f_X0_raiseAll N x0 f (nI n) σ) (fun r => LF (f + 1) σ r.2 ∧ ∀ u, u < 1024 → bt (r.2.2.1 (f + 1)) u = upI (bt (σ.2.1 (f + 1))) n u) := by
  rw [f_X0_raiseAll.eq_1]
  refine pt_lp (fun s : Int32 × zS => ∃ m, (s.1 = nI m ∧ m ≤ n) ∧ LF (f + 1) σ s.2 ∧ ∀ u, u < 1024 → bt (s.2.2.1 (f + 1)) u = upI (bt (σ.2.1 (f + 1))) m u) (fun again s hI ih => ?_) N _ ⟨0, ⟨rfl, Nat.zero_le _⟩, LF.rf, fun _ _ => rfl⟩
  obtain ⟨x3, τ⟩ := s
  obtain ⟨m, ⟨e, hm⟩, hl, hu⟩ := hI
  have e : x3 = nI m := e
  subst e
  have hl : LF (f + 1) σ τ := hl
  have hu : ∀ u, u < 1024 → bt (τ.2.1 (f + 1)) u = upI (bt (σ.2.1 (f + 1))) m u := hu
  rw [F_X0_raiseAll_2.eq_1]
  refine pt_if (fun q => pt_some ⟨hl, ?_⟩) (fun q => ?_)
  · rw [nle hn (by omega)] at q
    rw [show n = m by omega]; exact hu
  · rw [nle hn (by omega)] at q
    refine pt_gC (pt_zb (v_raise (k := m) (hl.R hR) h0 (by omega)) (fun _ σ1 h => ?_))
    obtain ⟨l1, u1⟩ := h
    rw [nI_s1 (by omega)]
    refine ih (nI (m + 1), σ1) ⟨m + 1, ⟨rfl, by omega⟩, hl.tr l1, fun u h => ?_⟩
    show bt (σ1.2.1 (f + 1)) u = _
    rw [u1 u h, hu u h, hu _ (x_1024 h (by omega))]
    rfl
theorem v_lowerAll {x0 : Nat} (hR : RF σ.2.2) (h0 : (zKd f).1 = 2) (hn : n ≤ 10) : Pt (f_X0_lowerAll N x0 f (nI n) σ) (fun r => LF (f + 1) σ r.2 ∧ ∀ u, u < 1024 → bt (r.2.2.1 (f + 1)) u = dnI (bt (σ.2.1 (f + 1))) n u) := by
  rw [f_X0_lowerAll.eq_1]
  refine pt_lp (fun s : Int32 × zS => ∃ m, (s.1 = nI m ∧ m ≤ n) ∧ LF (f + 1) σ s.2 ∧ ∀ u, u < 1024 → bt (s.2.2.1 (f + 1)) u = dnI (bt (σ.2.1 (f + 1))) m u) (fun again s hI ih => ?_) N _ ⟨0, ⟨rfl, Nat.zero_le _⟩, LF.rf, fun _ _ => rfl⟩
  obtain ⟨x3, τ⟩ := s
  obtain ⟨m, ⟨e, hm⟩, hl, hu⟩ := hI
  have e : x3 = nI m := e
  subst e
  have hl : LF (f + 1) σ τ := hl
  have hu : ∀ u, u < 1024 → bt (τ.2.1 (f + 1)) u = dnI (bt (σ.2.1 (f + 1))) m u := hu
  rw [F_X0_lowerAll_2.eq_1]
  refine pt_if (fun q => pt_some ⟨hl, ?_⟩) (fun q => ?_)
  · rw [nle hn (by omega)] at q
    rw [show n = m by omega]; exact hu
  · rw [nle hn (by omega)] at q
    refine pt_gC (pt_zb (v_lower (k := m) (hl.R hR) h0 (by omega)) (fun _ σ1 h => ?_))
    obtain ⟨l1, u1⟩ := h
    rw [nI_s1 (by omega)]
    refine ih (nI (m + 1), σ1) ⟨m + 1, ⟨rfl, by omega⟩, hl.tr l1, fun u h => ?_⟩
    show bt (σ1.2.1 (f + 1)) u = _
    rw [u1 u h, hu u h, hu _ (x_1024 h (by omega))]
    rfl
theorem v_becomeMissing (hR : RF σ.2.2) (h0 : (zKd f).1 = 2) (hn : n ≤ 10) : Pt (f_X0_becomeMissing N 99 f (nI n) σ) (fun r => LF (f + 1) σ r.2 ∧ ∀ u, u < 1024 → bt (r.2.2.1 (f + 1)) u = upI (bt (σ.2.1 (f + 1))) n (u ^^^ (2 ^ n - 1))) := by
  rw [f_X0_becomeMissing.eq_1]
  refine pt_gC (pt_zb (v_raiseAll hR h0 hn) (fun _ σ1 h1 => ?_))
  obtain ⟨l1, u1⟩ := h1
  have l1 : LF (f + 1) σ σ1 := l1
  have u1 : ∀ u, u < 1024 → bt (σ1.2.1 (f + 1)) u = upI (bt (σ.2.1 (f + 1))) n u := u1
  refine pt_w (Q := fun r => LF (f + 1) σ r.2 ∧ ∀ u, u < 1024 → bt (r.2.2.1 (f + 1)) u = flI (bt (σ1.2.1 (f + 1))) n u) ?_ (fun r h => ⟨h.1, fun u hu => ?_⟩)
  · refine pt_lp (fun s : Int32 × zS => ∃ m, (s.1 = nI m ∧ m ≤ n) ∧ LF (f + 1) σ s.2 ∧ ∀ u, u < 1024 → bt (s.2.2.1 (f + 1)) u = flI (bt (σ1.2.1 (f + 1))) m u) (fun again s hI ih => ?_) N _ ⟨0, ⟨rfl, Nat.zero_le _⟩, l1, fun _ _ => rfl⟩
    obtain ⟨x3, τ⟩ := s
    obtain ⟨m, ⟨e, hm⟩, hl, hu⟩ := hI
    have e : x3 = nI m := e
    subst e
    have hl : LF (f + 1) σ τ := hl
    have hu : ∀ u, u < 1024 → bt (τ.2.1 (f + 1)) u = flI (bt (σ1.2.1 (f + 1))) m u := hu
    rw [F_X0_becomeMissing_8.eq_1]
    refine pt_if (fun q => pt_some ⟨hl, ?_⟩) (fun q => ?_)
    · rw [nle hn (by omega)] at q
      rw [show n = m by omega]; exact hu
    · rw [nle hn (by omega)] at q
      refine pt_gC (pt_zb (v_flip (k := m) (hl.R hR) h0 (by omega)) (fun _ σ2 h => ?_))
      obtain ⟨l2, u2⟩ := h
      rw [nI_s1 (by omega)]
      refine ih (nI (m + 1), σ2) ⟨m + 1, ⟨rfl, by omega⟩, hl.tr l2, fun u h => ?_⟩
      show bt (σ2.2.1 (f + 1)) u = _
      rw [u2 u h, hu _ (x_1024 h (by omega))]
      rfl
  · rw [h.2 u hu, flI_eq]
    refine u1 _ ?_
    have p : 2 ^ n - 1 < 2 ^ 10 := by
      have : 2 ^ n ≤ 2 ^ 10 := Nat.pow_le_pow_right (by decide) hn
      have := Nat.pow_pos (n := n) (show 0 < 2 by decide)
      omega
    exact Nat.xor_lt_two_pow (n := 10) hu p
theorem v_complement (hR : RF σ.2.2) (hF : isF f) (hn : n ≤ 10) : Pt (f_X0_complement N 99 f (nI n) σ) (fun r => LG [f + 1, 101] σ r.2 ∧ ∀ u, u < 1024 → bt (r.2.2.1 (f + 1)) u = (decide (u < 2 ^ n) && !bt (σ.2.1 (f + 1)) u)) := by
  rw [f_X0_complement.eq_1]
  refine pt_gR (v := 100) (hR 99 0 rfl) (pt_gC (pt_zb (v_becomeAll hR k100.1 hn) (fun _ σ1 h1 => ?_)))
  obtain ⟨l1, u1⟩ := h1
  have l1 : LF 101 σ σ1 := l1
  have u1 : ∀ u, u < 1024 → bt (σ1.2.1 101) u = decide (u < 2 ^ n) := u1
  have R1 := l1.R hR
  refine pt_gR (v := 100) (R1 99 0 rfl) (pt_gC (pt_zb (v_takeAway R1 k100.1 hF.1) (fun _ σ2 h2 => ?_)))
  obtain ⟨l2, u2⟩ := h2
  have l2 : LF 101 σ1 σ2 := l2
  have u2 : ∀ u, u < 1024 → bt (σ2.2.1 101) u = (bt (σ1.2.1 101) u && !bt (σ1.2.1 (f + 1)) u) := u2
  have R2 := l2.R R1
  refine pt_gR (v := 100) (R2 99 0 rfl) (pt_gC (pt_zb (v_copyFrom R2 hF.1 k100.1) (fun _ σ3 h3 => pt_some ?_)))
  obtain ⟨l3, u3⟩ := h3
  have l3 : LF (f + 1) σ2 σ3 := l3
  refine ⟨((l1.G (by simp)).tr (l2.G (by simp))).tr (l3.G (by simp)), fun u hu => ?_⟩
  have e : σ1.2.1 (f + 1) = σ.2.1 (f + 1) := l1.2.2 _ (by have := hF.2.1; omega)
  have u3 : bt (σ3.2.1 (f + 1)) u = bt (σ2.2.1 101) u := u3 u hu
  show bt (σ3.2.1 (f + 1)) u = _
  rw [u3, u2 u hu, u1 u hu, e]
/-- a member and one name more -/
def ovI (F : Nat → Bool) : Nat → Nat → Bool
  | 0, _ => false
  | k + 1, u => ovI F k u || (F (u ^^^ 2 ^ k) && u.testBit k)
theorem ovI_iff {F : Nat → Bool} : ∀ {k u : Nat}, ovI F k u = true ↔ ∃ i, i < k ∧ u.testBit i = true ∧ F (u ^^^ 2 ^ i) = true
  | 0, u => ⟨fun h => (by cases h), fun ⟨i, hi, _⟩ => absurd hi (by omega)⟩
  | k + 1, u => by
    show (ovI F k u || (F (u ^^^ 2 ^ k) && u.testBit k)) = true ↔ _
    rw [Bool.or_eq_true, Bool.and_eq_true, ovI_iff]
    constructor
    · rintro (⟨i, h1, h2⟩ | ⟨h1, h2⟩)
      · exact ⟨i, by omega, h2⟩
      · exact ⟨k, by omega, h2, h1⟩
    · rintro ⟨i, h1, h2, h3⟩
      by_cases e : i = k
      · rw [← e]; exact Or.inr ⟨h3, h2⟩
      · exact Or.inl ⟨i, by omega, h2, h3⟩
/-- a member and one name less -/
def udI (F : Nat → Bool) : Nat → Nat → Bool
  | 0, _ => false
  | k + 1, u => udI F k u || (F (u ^^^ 2 ^ k) && !u.testBit k)
theorem udI_iff {F : Nat → Bool} : ∀ {k u : Nat}, udI F k u = true ↔ ∃ i, i < k ∧ u.testBit i = false ∧ F (u ^^^ 2 ^ i) = true
  | 0, u => ⟨fun h => (by cases h), fun ⟨i, hi, _⟩ => absurd hi (by omega)⟩
  | k + 1, u => by
    show (udI F k u || (F (u ^^^ 2 ^ k) && !u.testBit k)) = true ↔ _
    rw [Bool.or_eq_true, Bool.and_eq_true, udI_iff]
    constructor
    · rintro (⟨i, h1, h2⟩ | ⟨h1, h2⟩)
      · exact ⟨i, by omega, h2⟩
      · exact ⟨k, by omega, by simpa using h2, h1⟩
    · rintro ⟨i, h1, h2, h3⟩
      by_cases e : i = k
      · rw [← e]; exact Or.inr ⟨h3, by rw [h2]; rfl⟩
      · exact Or.inl ⟨i, by omega, h2, h3⟩
theorem v_keepLeast (hR : RF σ.2.2) (hF : isF f) (hn : n ≤ 10) : Pt (f_X0_keepLeast N 99 f (nI n) σ) (fun r => LG [f + 1, 101, 103] σ r.2 ∧ ∀ u, u < 1024 → bt (r.2.2.1 (f + 1)) u = (bt (σ.2.1 (f + 1)) u && !upI (ovI (bt (σ.2.1 (f + 1))) n) n u)) := by
  have hF2 := hF.2
  rw [f_X0_keepLeast.eq_1]
  refine pt_gR (v := 100) (hR 99 0 rfl) (pt_gC (pt_zb (v_clear hR k100.1) (fun _ σ1 h1 => ?_)))
  obtain ⟨l1, u1⟩ := h1
  have l1 : LF 101 σ σ1 := l1
  have u1 : ∀ u, u < 1024 → bt (σ1.2.1 101) u = false := u1
  refine pt_lp (fun s : Int32 × zS => ∃ m, (s.1 = nI m ∧ m ≤ n) ∧ LG [101, 103] σ s.2 ∧ ∀ u, u < 1024 → bt (s.2.2.1 101) u = ovI (bt (σ.2.1 (f + 1))) m u) (fun again s hI ih => ?_) N _ ⟨0, ⟨rfl, Nat.zero_le _⟩, l1.G (by simp), u1⟩
  obtain ⟨x3, τ⟩ := s
  obtain ⟨m, ⟨e, hm⟩, hl, hu⟩ := hI
  have e : x3 = nI m := e
  subst e
  have hl : LG [101, 103] σ τ := hl
  have hu : ∀ u, u < 1024 → bt (τ.2.1 101) u = ovI (bt (σ.2.1 (f + 1))) m u := hu
  have R9 := hl.R hR
  have eF : τ.2.1 (f + 1) = σ.2.1 (f + 1) := hl.2.2 _ (by simp only [List.mem_cons, List.not_mem_nil, or_false]; omega)
  rw [F_X0_keepLeast_9.eq_1]
  refine pt_if (fun q => ?_) (fun q => ?_)
  · rw [nle hn (by omega)] at q
    have e : n = m := by omega
    subst e
    refine pt_gR (v := 100) (R9 99 0 rfl) (pt_gC (pt_zb (v_raiseAll R9 k100.1 hn) (fun _ σ2 h2 => ?_)))
    obtain ⟨l2, u2⟩ := h2
    have l2 : LF 101 τ σ2 := l2
    have u2 : ∀ u, u < 1024 → bt (σ2.2.1 101) u = upI (bt (τ.2.1 101)) n u := u2
    have R2 := l2.R R9
    refine pt_gR (v := 100) (R2 99 0 rfl) (pt_gC (pt_zb (v_takeAway R2 hF.1 k100.1) (fun _ σ3 h3 => pt_some ?_)))
    obtain ⟨l3, u3⟩ := h3
    have l3 : LF (f + 1) σ2 σ3 := l3
    refine ⟨⟨l3.1.trans (l2.1.trans hl.1), l3.2.1.trans (l2.2.1.trans hl.2.1), fun a ha => ?_⟩, fun u h => ?_⟩
    · simp only [List.mem_cons, List.not_mem_nil, or_false, not_or] at ha
      show σ3.2.1 a = _
      rw [l3.2.2 a ha.1, l2.2.2 a ha.2.1]
      exact hl.2.2 a (by simp only [List.mem_cons, List.not_mem_nil, or_false]; omega)
    · have u3 : bt (σ3.2.1 (f + 1)) u = (bt (σ2.2.1 (f + 1)) u && !bt (σ2.2.1 101) u) := u3 u h
      show bt (σ3.2.1 (f + 1)) u = _
      rw [u3, l2.2.2 (f + 1) (by omega), eF, u2 u h]
      congr 2
      have cg : ∀ k, k ≤ 10 → ∀ u, u < 1024 → upI (bt (τ.2.1 101)) k u = upI (ovI (bt (σ.2.1 (f + 1))) n) k u := by
        intro k
        induction k with
        | zero => intro _ u hu'; exact hu u hu'
        | succ k ihk =>
          intro hk u hu'
          show (upI _ k u || (u.testBit k && upI _ k (u ^^^ 2 ^ k))) = (upI _ k u || (u.testBit k && upI _ k (u ^^^ 2 ^ k)))
          rw [ihk (by omega) u hu', ihk (by omega) _ (x_1024 hu' (by omega))]
      exact cg n hn u h
  · rw [nle hn (by omega)] at q
    refine pt_gR (v := 102) (R9 99 1 rfl) (pt_gC (pt_zb (v_copyFrom R9 k100.2.1 hF.1) (fun _ σ2 h2 => ?_)))
    obtain ⟨l2, u2⟩ := h2
    have l2 : LF 103 τ σ2 := l2
    have u2 : ∀ u, u < 1024 → bt (σ2.2.1 103) u = bt (τ.2.1 (f + 1)) u := u2
    have R2 := l2.R R9
    refine pt_gR (v := 102) (R2 99 1 rfl) (pt_gC (pt_zb (v_keepWithout (k := m) R2 k100.2.1 (by omega)) (fun _ σ3 h3 => ?_)))
    obtain ⟨l3, u3⟩ := h3
    have l3 : LF 103 σ2 σ3 := l3
    have u3 : ∀ u, u < 1024 → bt (σ3.2.1 103) u = (bt (σ2.2.1 103) u && !u.testBit m) := u3
    have R3 := l3.R R2
    refine pt_gR (v := 102) (R3 99 1 rfl) (pt_gC (pt_zb (v_flip (k := m) R3 k100.2.1 (by omega)) (fun _ σ4 h4 => ?_)))
    obtain ⟨l4, u4⟩ := h4
    have l4 : LF 103 σ3 σ4 := l4
    have u4 : ∀ u, u < 1024 → bt (σ4.2.1 103) u = bt (σ3.2.1 103) (u ^^^ 2 ^ m) := u4
    have R4 := l4.R R3
    refine pt_gR (v := 100) (R4 99 0 rfl) (pt_gR (v := 102) (R4 99 1 rfl) (pt_gC (pt_zb (v_join R4 k100.1 k100.2.1) (fun _ σ5 h5 => ?_))))
    obtain ⟨l5, u5⟩ := h5
    have l5 : LF 101 σ4 σ5 := l5
    have u5 : ∀ u, u < 1024 → bt (σ5.2.1 101) u = (bt (σ4.2.1 101) u || bt (σ4.2.1 103) u) := u5
    rw [nI_s1 (by omega)]
    refine ih (nI (m + 1), σ5) ⟨m + 1, ⟨rfl, by omega⟩, (((hl.tr (l2.G (by simp))).tr (l3.G (by simp))).tr (l4.G (by simp))).tr (l5.G (by simp)), fun u h => ?_⟩
    show bt (σ5.2.1 101) u = _
    have hx := x_1024 (k := m) h (by omega)
    rw [u5 u h, u4 u h, u3 _ hx, u2 _ hx, l4.2.2 101 (by decide), l3.2.2 101 (by decide), l2.2.2 101 (by decide), hu u h, eF]
    show _ = (ovI _ m u || (bt (σ.2.1 (f + 1)) (u ^^^ 2 ^ m) && u.testBit m))
    rw [xb, decide_eq_true rfl, Bool.xor_true, Bool.not_not]
theorem v_keepGreatest (hR : RF σ.2.2) (hF : isF f) (hn : n ≤ 10) : Pt (f_X0_keepGreatest N 99 f (nI n) σ) (fun r => LG [f + 1, 101, 103] σ r.2 ∧ ∀ u, u < 1024 → bt (r.2.2.1 (f + 1)) u = (bt (σ.2.1 (f + 1)) u && !dnI (udI (bt (σ.2.1 (f + 1))) n) n u)) := by
  have hF2 := hF.2
  rw [f_X0_keepGreatest.eq_1]
  refine pt_gR (v := 100) (hR 99 0 rfl) (pt_gC (pt_zb (v_clear hR k100.1) (fun _ σ1 h1 => ?_)))
  obtain ⟨l1, u1⟩ := h1
  have l1 : LF 101 σ σ1 := l1
  have u1 : ∀ u, u < 1024 → bt (σ1.2.1 101) u = false := u1
  refine pt_lp (fun s : Int32 × zS => ∃ m, (s.1 = nI m ∧ m ≤ n) ∧ LG [101, 103] σ s.2 ∧ ∀ u, u < 1024 → bt (s.2.2.1 101) u = udI (bt (σ.2.1 (f + 1))) m u) (fun again s hI ih => ?_) N _ ⟨0, ⟨rfl, Nat.zero_le _⟩, l1.G (by simp), u1⟩
  obtain ⟨x3, τ⟩ := s
  obtain ⟨m, ⟨e, hm⟩, hl, hu⟩ := hI
  have e : x3 = nI m := e
  subst e
  have hl : LG [101, 103] σ τ := hl
  have hu : ∀ u, u < 1024 → bt (τ.2.1 101) u = udI (bt (σ.2.1 (f + 1))) m u := hu
  have R9 := hl.R hR
  have eF : τ.2.1 (f + 1) = σ.2.1 (f + 1) := hl.2.2 _ (by simp only [List.mem_cons, List.not_mem_nil, or_false]; omega)
  rw [F_X0_keepGreatest_9.eq_1]
  refine pt_if (fun q => ?_) (fun q => ?_)
  · rw [nle hn (by omega)] at q
    have e : n = m := by omega
    subst e
    refine pt_gR (v := 100) (R9 99 0 rfl) (pt_gC (pt_zb (v_lowerAll R9 k100.1 hn) (fun _ σ2 h2 => ?_)))
    obtain ⟨l2, u2⟩ := h2
    have l2 : LF 101 τ σ2 := l2
    have u2 : ∀ u, u < 1024 → bt (σ2.2.1 101) u = dnI (bt (τ.2.1 101)) n u := u2
    have R2 := l2.R R9
    refine pt_gR (v := 100) (R2 99 0 rfl) (pt_gC (pt_zb (v_takeAway R2 hF.1 k100.1) (fun _ σ3 h3 => pt_some ?_)))
    obtain ⟨l3, u3⟩ := h3
    have l3 : LF (f + 1) σ2 σ3 := l3
    refine ⟨⟨l3.1.trans (l2.1.trans hl.1), l3.2.1.trans (l2.2.1.trans hl.2.1), fun a ha => ?_⟩, fun u h => ?_⟩
    · simp only [List.mem_cons, List.not_mem_nil, or_false, not_or] at ha
      show σ3.2.1 a = _
      rw [l3.2.2 a ha.1, l2.2.2 a ha.2.1]
      exact hl.2.2 a (by simp only [List.mem_cons, List.not_mem_nil, or_false]; omega)
    · have u3 : bt (σ3.2.1 (f + 1)) u = (bt (σ2.2.1 (f + 1)) u && !bt (σ2.2.1 101) u) := u3 u h
      show bt (σ3.2.1 (f + 1)) u = _
      rw [u3, l2.2.2 (f + 1) (by omega), eF, u2 u h]
      congr 2
      have cg : ∀ k, k ≤ 10 → ∀ u, u < 1024 → dnI (bt (τ.2.1 101)) k u = dnI (udI (bt (σ.2.1 (f + 1))) n) k u := by
        intro k
        induction k with
        | zero => intro _ u hu'; exact hu u hu'
        | succ k ihk =>
          intro hk u hu'
          show (dnI _ k u || (!u.testBit k && dnI _ k (u ^^^ 2 ^ k))) = (dnI _ k u || (!u.testBit k && dnI _ k (u ^^^ 2 ^ k)))
          rw [ihk (by omega) u hu', ihk (by omega) _ (x_1024 hu' (by omega))]
      exact cg n hn u h
  · rw [nle hn (by omega)] at q
    refine pt_gR (v := 102) (R9 99 1 rfl) (pt_gC (pt_zb (v_copyFrom R9 k100.2.1 hF.1) (fun _ σ2 h2 => ?_)))
    obtain ⟨l2, u2⟩ := h2
    have l2 : LF 103 τ σ2 := l2
    have u2 : ∀ u, u < 1024 → bt (σ2.2.1 103) u = bt (τ.2.1 (f + 1)) u := u2
    have R2 := l2.R R9
    refine pt_gR (v := 102) (R2 99 1 rfl) (pt_gC (pt_zb (v_flip (k := m) R2 k100.2.1 (by omega)) (fun _ σ3 h3 => ?_)))
    obtain ⟨l3, u3⟩ := h3
    have l3 : LF 103 σ2 σ3 := l3
    have u3 : ∀ u, u < 1024 → bt (σ3.2.1 103) u = bt (σ2.2.1 103) (u ^^^ 2 ^ m) := u3
    have R3 := l3.R R2
    refine pt_gR (v := 102) (R3 99 1 rfl) (pt_gC (pt_zb (v_keepWithout (k := m) R3 k100.2.1 (by omega)) (fun _ σ4 h4 => ?_)))
    obtain ⟨l4, u4⟩ := h4
    have l4 : LF 103 σ3 σ4 := l4
    have u4 : ∀ u, u < 1024 → bt (σ4.2.1 103) u = (bt (σ3.2.1 103) u && !u.testBit m) := u4
    have R4 := l4.R R3
    refine pt_gR (v := 100) (R4 99 0 rfl) (pt_gR (v := 102) (R4 99 1 rfl) (pt_gC (pt_zb (v_join R4 k100.1 k100.2.1) (fun _ σ5 h5 => ?_))))
    obtain ⟨l5, u5⟩ := h5
    have l5 : LF 101 σ4 σ5 := l5
    have u5 : ∀ u, u < 1024 → bt (σ5.2.1 101) u = (bt (σ4.2.1 101) u || bt (σ4.2.1 103) u) := u5
    rw [nI_s1 (by omega)]
    refine ih (nI (m + 1), σ5) ⟨m + 1, ⟨rfl, by omega⟩, (((hl.tr (l2.G (by simp))).tr (l3.G (by simp))).tr (l4.G (by simp))).tr (l5.G (by simp)), fun u h => ?_⟩
    show bt (σ5.2.1 101) u = _
    have hx := x_1024 (k := m) h (by omega)
    rw [u5 u h, u4 u h, u3 u h, u2 _ hx, l4.2.2 101 (by decide), l3.2.2 101 (by decide), l2.2.2 101 (by decide), hu u h, eF]
    rfl
end ALG
end Zq13_18
section Zq13_19
/-! ===== the reference's families: rows of booleans ===== -/
/-- member s of the family that begins at a -/
def rb (r : Nat → Int32) (a s : Nat) : Bool := decide (¬ r (a + s) = 0)
theorem rb_t {r : Nat → Int32} {a s : Nat} : rb r a s = true ↔ ¬ r (a + s) = 0 := decide_eq_true_iff
theorem rb_f {r : Nat → Int32} {a s : Nat} : rb r a s = false ↔ r (a + s) = 0 := by
  rw [rb, decide_eq_false_iff_not, Classical.not_not]
theorem nI_and (a b : Nat) : nI a &&& nI b = nI (a &&& b) := by
  apply Int32.toBitVec_inj.mp
  rw [Int32.toBitVec_and]
  show BitVec.ofNat 32 a &&& BitVec.ofNat 32 b = BitVec.ofNat 32 (a &&& b)
  apply BitVec.eq_of_getLsbD_eq
  intro i hi
  rw [BitVec.getLsbD_and, BitVec.getLsbD_ofNat, BitVec.getLsbD_ofNat, BitVec.getLsbD_ofNat, Nat.testBit_and, decide_eq_true hi]
  simp
theorem nI_or (a b : Nat) : nI a ||| nI b = nI (a ||| b) := by
  apply Int32.toBitVec_inj.mp
  rw [Int32.toBitVec_or]
  show BitVec.ofNat 32 a ||| BitVec.ofNat 32 b = BitVec.ofNat 32 (a ||| b)
  apply BitVec.eq_of_getLsbD_eq
  intro i hi
  rw [BitVec.getLsbD_or, BitVec.getLsbD_ofNat, BitVec.getLsbD_ofNat, BitVec.getLsbD_ofNat, Nat.testBit_or, decide_eq_true hi]
  simp
theorem nI_e0 {a : Nat} (h : a < 1024) : nI a = 0 ↔ a = 0 := by
  rw [← Int32.toInt_inj, nI_toInt (by omega)]
  simp only [Int32.reduceToInt]
  omega
theorem nI_inj {a b : Nat} (ha : a < 100000) (hb : b < 100000) : nI a = nI b ↔ a = b := by
  rw [← Int32.toInt_inj, nI_toInt (by omega), nI_toInt (by omega)]
  omega
theorem and_1024 {a b : Nat} (h : a < 1024) : a &&& b < 1024 := Nat.lt_of_le_of_lt Nat.and_le_left h
theorem or_1024 {a b : Nat} (h : a < 1024) (h2 : b < 1024) : a ||| b < 1024 := Nat.or_lt_two_pow (n := 10) h h2
/-- what a has that b has not -/
theorem nI_less {a b : Nat} (ha : a < 1024) (hb : b < 1024) : (nI a &&& (nI b ^^^ (-1))) = 0 ↔ sb a b := by
  have e : ∀ i, i < 32 → (nI a &&& (nI b ^^^ (-1))).toBitVec.getLsbD i = (a.testBit i && !b.testBit i) := fun i hi => by
    rw [Int32.toBitVec_and, BitVec.getLsbD_and, Int32.toBitVec_xor, BitVec.getLsbD_xor]
    have m : (-1 : Int32).toBitVec = BitVec.allOnes 32 := rfl
    have ea : (nI a).toBitVec = BitVec.ofNat 32 a := rfl
    have eb : (nI b).toBitVec = BitVec.ofNat 32 b := rfl
    rw [m, ea, eb, BitVec.getLsbD_ofNat, BitVec.getLsbD_ofNat, BitVec.getLsbD_allOnes, decide_eq_true hi]
    simp
  constructor
  · intro h i q
    by_cases l : i < 32
    · have := e i l
      rw [h] at this
      have z : (0 : Int32).toBitVec.getLsbD i = false := BitVec.getLsbD_zero
      rw [z, q, Bool.true_and] at this
      cases hb' : b.testBit i with
      | true => rfl
      | false => rw [hb'] at this; cases this
    · rw [tb_lt (n := 10) ha (by omega)] at q; cases q
  · intro h
    apply Int32.toBitVec_inj.mp
    apply BitVec.eq_of_getLsbD_eq
    intro i hi
    rw [e i hi]
    have z : (0 : Int32).toBitVec.getLsbD i = false := BitVec.getLsbD_zero
    rw [z]
    cases q : a.testBit i with
    | false => rfl
    | true => rw [h i q]; rfl
section RALG
variable {N c a n s : Nat} {σ : zS}
theorem ix1 {a t : Nat} (ha : a ≤ 100000) (ht : t ≤ 2000) : (nI a + nI t).toInt.toNat = a + t := by
  rw [ti_add, nI_toInt (by omega), nI_toInt (by omega)]
  omega
theorem nlt {n m : Nat} (hn : n ≤ 2000) (hm : m ≤ 2000) : nI n ≤ nI m ↔ n ≤ m := by
  rw [Int32.le_iff_toInt_le, nI_toInt (by omega), nI_toInt (by omega)]
  omega
/-- s has something of each of it -/
theorem vr_isTouching (ha : a ≤ 100000) (hs : s < 1024) (hn : σ.1 218 20 = nI n) (h10 : n ≤ 1024) : Px (f_X12_isTouching N 218 c (nI a) (nI s) σ) σ (fun v => (v = 0 ∨ v = 1) ∧ (v = 1 ↔ ∀ t, t < n → rb (σ.1 c) a t = true → ¬ s &&& t = 0)) := by
  rw [f_X12_isTouching.eq_1]
  refine pt_lp (fun x : Int32 × zS => x.2 = σ ∧ ∃ m, (x.1 = nI m ∧ m ≤ n) ∧ ∀ t, t < m → rb (σ.1 c) a t = true → ¬ s &&& t = 0) (fun again x hI ih => ?_) N _ ⟨rfl, 0, ⟨rfl, Nat.zero_le _⟩, fun t ht => absurd ht (by omega)⟩
  obtain ⟨x4, τ⟩ := x
  obtain ⟨e, m, ⟨e4, hm⟩, hu⟩ := hI
  have e : τ = σ := e
  subst e
  have e4 : x4 = nI m := e4
  subst e4
  rw [F_X12_isTouching_3.eq_1]
  refine pt_gI ?_
  rw [hn]
  refine pt_if (fun q => pt_rZ ⟨rfl, Or.inr rfl, fun _ t ht => hu t ?_, fun _ => rfl⟩) (fun q => ?_)
  · rw [nlt (by omega) (by omega)] at q; omega
  · rw [nlt (by omega) (by omega)] at q
    refine pt_aI ?_
    rw [ix1 ha (by omega), nI_s1 (by omega)]
    refine pt_if (fun z => ih (nI (m + 1), τ) ⟨rfl, m + 1, ⟨rfl, by omega⟩, fun t ht hr => ?_⟩) (fun z => ?_)
    · by_cases e : t = m
      · rw [e] at hr; exact absurd z (rb_t.mp hr)
      · exact hu t (by omega) hr
    · rw [nI_and]
      have ye := nI_e0 (and_1024 (b := m) hs)
      refine pt_if (fun y => pt_rZ ⟨rfl, Or.inl rfl, fun w => absurd (show (0 : Int32) = 1 from w) (by decide), fun w => absurd (ye.mp y) (w m (by omega) (rb_t.mpr z))⟩) (fun y => ih (nI (m + 1), τ) ⟨rfl, m + 1, ⟨rfl, by omega⟩, fun t ht hr => ?_⟩)
      by_cases e : t = m
      · rw [e]; exact fun w => y (ye.mpr w)
      · exact hu t (by omega) hr
/-- another one lies in s (or s in it) -/
theorem vr_isNested {w : Int32} (ha : a ≤ 100000) (hs : s < 1024) (hn : σ.1 218 20 = nI n) (h10 : n ≤ 1024) : Px (f_X12_isNested N 218 c (nI a) (nI s) w σ) σ (fun v => (v = 0 ∨ v = 1) ∧ (v = 1 ↔ ∃ t, t < n ∧ t ≠ s ∧ rb (σ.1 c) a t = true ∧ (if w = 0 then sb s t else sb t s))) := by
  rw [f_X12_isNested.eq_1]
  refine pt_lp (fun x : Int32 × zS => x.2 = σ ∧ ∃ m, (x.1 = nI m ∧ m ≤ n) ∧ ∀ t, t < m → ¬ (t ≠ s ∧ rb (σ.1 c) a t = true ∧ (if w = 0 then sb s t else sb t s))) (fun again x hI ih => ?_) N _ ⟨rfl, 0, ⟨rfl, Nat.zero_le _⟩, fun t ht => absurd ht (by omega)⟩
  obtain ⟨x5, τ⟩ := x
  obtain ⟨e, m, ⟨e4, hm⟩, hu⟩ := hI
  have e : τ = σ := e
  subst e
  have e4 : x5 = nI m := e4
  subst e4
  have next : ¬ (m ≠ s ∧ rb (τ.1 c) a m = true ∧ (if w = 0 then sb s m else sb m s)) → m < n → Px (again (nI m + 1, τ)) τ (fun v => (v = 0 ∨ v = 1) ∧ (v = 1 ↔ ∃ t, t < n ∧ t ≠ s ∧ rb (τ.1 c) a t = true ∧ (if w = 0 then sb s t else sb t s))) := fun hx hlt => by
    rw [nI_s1 (by omega)]
    refine ih (nI (m + 1), τ) ⟨rfl, m + 1, ⟨rfl, by omega⟩, fun t ht => ?_⟩
    by_cases e : t = m
    · rw [e]; exact hx
    · exact hu t (by omega)
  rw [F_X12_isNested_3.eq_1]
  refine pt_gI ?_
  rw [hn]
  refine pt_if (fun q => pt_rZ ⟨rfl, Or.inl rfl, fun z => absurd (show (0 : Int32) = 1 from z) (by decide), fun ⟨t, ht, z⟩ => absurd z (hu t ?_)⟩) (fun q => ?_)
  · rw [nlt (by omega) (by omega)] at q; omega
  · rw [nlt (by omega) (by omega)] at q
    refine pt_if (fun z => next (fun y => y.1 ((nI_inj (by omega) (by omega)).mp z)) (by omega)) (fun z => ?_)
    have ne : m ≠ s := fun y => z (by rw [y])
    refine pt_aI ?_
    rw [ix1 ha (by omega)]
    refine pt_if (fun y => next (fun r => absurd y (rb_t.mp r.2.1)) (by omega)) (fun y => ?_)
    have hr : rb (τ.1 c) a m = true := rb_t.mpr y
    refine pt_if (fun w0 => pt_if (fun l => pt_rZ ⟨rfl, Or.inr rfl, fun _ => ⟨m, by omega, ne, hr, ?_⟩, fun _ => rfl⟩) (fun l => next (fun r => ?_) (by omega))) (fun w0 => pt_if (fun l => pt_rZ ⟨rfl, Or.inr rfl, fun _ => ⟨m, by omega, ne, hr, ?_⟩, fun _ => rfl⟩) (fun l => next (fun r => ?_) (by omega)))
    · rw [if_pos w0]; exact (nI_less hs (by omega)).mp l
    · have := r.2.2
      rw [if_pos w0] at this
      exact l ((nI_less hs (by omega)).mpr this)
    · rw [if_neg w0]; exact (nI_less (by omega) hs).mp l
    · have := r.2.2
      rw [if_neg w0] at this
      exact l ((nI_less (by omega) hs).mpr this)
/-- s is of the quotient -/
theorem vr_isOver {c2 b : Nat} (ha : a ≤ 100000) (hb : b ≤ 100000) (hs : s < 1024) (hn : σ.1 218 20 = nI n) (h10 : n ≤ 1024) : Px (f_X12_isOver N 218 c (nI a) c2 (nI b) (nI s) σ) σ (fun v => (v = 0 ∨ v = 1) ∧ (v = 1 ↔ (∃ t, t < n ∧ rb (σ.1 c2) b t = true) ∧ ∀ t, t < n → rb (σ.1 c2) b t = true → s &&& t = 0 ∧ rb (σ.1 c) a (s ||| t) = true)) := by
  rw [f_X12_isOver.eq_1]
  refine pt_lp (fun x : Int32 × Int32 × zS => x.2.2 = σ ∧ ∃ m, (x.2.1 = nI m ∧ m ≤ n) ∧ ((x.1 = 0 ∨ x.1 = 1) ∧ (x.1 = 1 ↔ ∃ t, t < m ∧ rb (σ.1 c2) b t = true)) ∧ ∀ t, t < m → rb (σ.1 c2) b t = true → s &&& t = 0 ∧ rb (σ.1 c) a (s ||| t) = true) (fun again x hI ih => ?_) N _ ⟨rfl, 0, ⟨rfl, Nat.zero_le _⟩, ⟨Or.inl rfl, fun z => absurd (show (0 : Int32) = 1 from z) (by decide), fun ⟨t, ht, _⟩ => absurd ht (by omega)⟩, fun t ht => absurd ht (by omega)⟩
  obtain ⟨x6, x7, τ⟩ := x
  obtain ⟨e, m, ⟨e4, hm⟩, ⟨h6, h6i⟩, hu⟩ := hI
  have e : τ = σ := e
  subst e
  have e4 : x7 = nI m := e4
  subst e4
  have h6 : x6 = 0 ∨ x6 = 1 := h6
  have h6i : x6 = 1 ↔ ∃ t, t < m ∧ rb (τ.1 c2) b t = true := h6i
  rw [F_X12_isOver_6.eq_1]
  refine pt_gI ?_
  rw [hn]
  refine pt_if (fun q => pt_rZ ⟨rfl, h6, ?_⟩) (fun q => ?_)
  · rw [nlt (by omega) (by omega)] at q
    have e : n = m := by omega
    subst e
    exact ⟨fun z => ⟨h6i.mp z, hu⟩, fun z => h6i.mpr z.1⟩
  · rw [nlt (by omega) (by omega)] at q
    refine pt_aI ?_
    rw [ix1 hb (by omega), nI_s1 (by omega)]
    refine pt_if (fun z => ih (x6, nI (m + 1), τ) ⟨rfl, m + 1, ⟨rfl, by omega⟩, ⟨h6, h6i.trans ⟨fun ⟨t, ht, y⟩ => ⟨t, by omega, y⟩, fun ⟨t, ht, y⟩ => ⟨t, ?_, y⟩⟩⟩, fun t ht y => ?_⟩) (fun z => ?_)
    · have : t ≠ m := fun e => absurd z (rb_t.mp (by rw [e] at y; exact y))
      omega
    · have : t ≠ m := fun e => absurd z (rb_t.mp (by rw [e] at y; exact y))
      exact hu t (by omega) y
    · have hr : rb (τ.1 c2) b m = true := rb_t.mpr z
      rw [nI_and]
      have ye := nI_e0 (and_1024 (b := m) hs)
      refine pt_if (fun y => ?_) (fun y => pt_rZ ⟨rfl, Or.inl rfl, fun w => absurd (show (0 : Int32) = 1 from w) (by decide), fun w => absurd (ye.mpr (w.2 m (by omega) hr).1) y⟩)
      have y := ye.mp y
      refine pt_aI ?_
      have lor := or_1024 hs (show m < 1024 by omega)
      rw [nI_or, ix1 ha (by omega)]
      refine pt_if (fun w => pt_rZ ⟨rfl, Or.inl rfl, fun v => absurd (show (0 : Int32) = 1 from v) (by decide), fun v => absurd w (rb_t.mp (v.2 m (by omega) hr).2)⟩) (fun w => ih (1, nI (m + 1), τ) ⟨rfl, m + 1, ⟨rfl, by omega⟩, ⟨Or.inr rfl, fun _ => ⟨m, by omega, hr⟩, fun _ => rfl⟩, fun t ht v => ?_⟩)
      by_cases e : t = m
      · rw [e]; exact ⟨y, rb_t.mpr w⟩
      · exact hu t (by omega) v
end RALG
end Zq13_19
section Zq13_20
section RGIV
variable {N c a c2 b n : Nat} {σ : zS}
/-- ints of the cells of L alone may be other -/
def FG (L : List Nat) (σ τ : zS) : Prop := τ.2 = σ.2 ∧ ∀ k, k ∉ L → τ.1 k = σ.1 k
theorem FG.rf {L : List Nat} : FG L σ σ := ⟨rfl, fun _ _ => rfl⟩
theorem FG.tr {L : List Nat} {τ υ : zS} (h : FG L σ τ) (h2 : FG L τ υ) : FG L σ υ := ⟨h2.1.trans h.1, fun k hk => (h2.2 k hk).trans (h.2 k hk)⟩
theorem FG.u {L : List Nat} {τ : zS} {k : Nat} {r : Nat → Int32} (h : FG L σ τ) (hk : k ∈ L) : FG L σ (zI τ k r) := ⟨h.1, fun a ha => (zI_n (fun e => ha (by rw [e]; exact hk))).trans (h.2 a ha)⟩
theorem FG.R {L : List Nat} {τ : zS} (h : FG L σ τ) (hR : RF σ.2.2) : RF τ.2.2 := by rw [h.1]; exact hR
theorem FG.wk {L L2 : List Nat} {τ : zS} (h : FG L σ τ) (hs : ∀ k ∈ L, k ∈ L2) : FG L2 σ τ := ⟨h.1, fun k hk => h.2 k (fun q => hk (hs k q))⟩
theorem nz1 : vp_nar .boolean 0 = 0 ∧ vp_nar .boolean 1 = 1 := by decide
theorem iN {m : Nat} (h : m ≤ 2000) : (nI m).toInt.toNat = m := by rw [nI_toInt (by omega)]; omega
/-- joined members -/
theorem vr_joins {c5 : Nat} (hR : RF σ.2.2) (ha : a ≤ 100000) (hb : b ≤ 100000) (hn : σ.1 218 20 = nI n) (h10 : n ≤ 1024) (n1 : c ≠ c5) (n2 : c2 ≠ c5) (n3 : 218 ≠ c5) : Pt (f_X12_joins N 218 c (nI a) c2 (nI b) c5 σ) (fun r => FG [c5] σ r.2 ∧ ∀ u, u < 1024 → (rb (r.2.1 c5) 0 u = true ↔ ∃ s t, (s < n ∧ rb (σ.1 c) a s = true) ∧ (t < n ∧ rb (σ.1 c2) b t = true) ∧ s ||| t = u)) := by
  rw [f_X12_joins.eq_1]
  refine pt_lp (fun x : Int32 × zS => ∃ m, (x.1 = nI m ∧ m ≤ 1024) ∧ FG [c5] σ x.2 ∧ ∀ u, u < m → x.2.1 c5 u = 0) (fun again x hI ih => ?_) N _ ⟨0, ⟨rfl, Nat.zero_le _⟩, FG.rf, fun u hu => absurd hu (by omega)⟩
  obtain ⟨x6, τ⟩ := x
  obtain ⟨m, ⟨e, hm⟩, hf, hz⟩ := hI
  have e : x6 = nI m := e
  subst e
  have hf : FG [c5] σ τ := hf
  have hz : ∀ u, u < m → τ.1 c5 u = 0 := hz
  rw [F_X12_joins_3.eq_1]
  refine pt_if (fun q => ?_) (fun q => ?_)
  · have q : nI 1024 ≤ nI m := q
    rw [nlt (by omega) (by omega)] at q
    refine pt_lp (fun x : Int32 × zS => ∃ s, (x.1 = nI s ∧ s ≤ n) ∧ FG [c5] σ x.2 ∧ ∀ u, u < 1024 → (rb (x.2.1 c5) 0 u = true ↔ ∃ s' t, (s' < s ∧ rb (σ.1 c) a s' = true) ∧ (t < n ∧ rb (σ.1 c2) b t = true) ∧ s' ||| t = u)) (fun again2 x hI ih2 => ?_) N _ ⟨0, ⟨rfl, Nat.zero_le _⟩, hf, fun u hu => ⟨fun z => absurd (hz u (by omega)) (by have := rb_t.mp z; rw [Nat.zero_add] at this; exact this), fun ⟨s', t, z, _⟩ => absurd z.1 (by omega)⟩⟩
    obtain ⟨x6, υ⟩ := x
    obtain ⟨s, ⟨e, hs⟩, hf2, hu2⟩ := hI
    have e : x6 = nI s := e
    subst e
    have hf2 : FG [c5] σ υ := hf2
    have hu2 : ∀ u, u < 1024 → (rb (υ.1 c5) 0 u = true ↔ ∃ s' t, (s' < s ∧ rb (σ.1 c) a s' = true) ∧ (t < n ∧ rb (σ.1 c2) b t = true) ∧ s' ||| t = u) := hu2
    have e18 : υ.1 218 = σ.1 218 := hf2.2 218 (by simpa using n3)
    rw [F_X12_joins_26.eq_1]
    refine pt_gI ?_
    rw [e18, hn]
    refine pt_if (fun q => pt_some ⟨hf2, ?_⟩) (fun q => ?_)
    · rw [nlt (by omega) (by omega)] at q
      have e : n = s := by omega
      subst e
      exact hu2
    · rw [nlt (by omega) (by omega)] at q
      refine pt_lp (fun x : Int32 × zS => ∃ t0, (x.1 = nI t0 ∧ t0 ≤ n) ∧ FG [c5] σ x.2 ∧ (0 < t0 → rb (σ.1 c) a s = true) ∧ ∀ u, u < 1024 → (rb (x.2.1 c5) 0 u = true ↔ (∃ s' t, (s' < s ∧ rb (σ.1 c) a s' = true) ∧ (t < n ∧ rb (σ.1 c2) b t = true) ∧ s' ||| t = u) ∨ ∃ t, (t < t0 ∧ rb (σ.1 c2) b t = true) ∧ s ||| t = u)) (fun again3 x hI ih3 => ?_) N _ ⟨0, ⟨rfl, Nat.zero_le _⟩, hf2, fun z => absurd z (by omega), fun u hu => (hu2 u hu).trans ⟨Or.inl, fun z => z.elim id (fun ⟨t, z, _⟩ => absurd z.1 (by omega))⟩⟩
      obtain ⟨x7, ω⟩ := x
      obtain ⟨t0, ⟨e, ht0⟩, hf3, hx3, hu3⟩ := hI
      have e : x7 = nI t0 := e
      subst e
      have hf3 : FG [c5] σ ω := hf3
      have hu3 : ∀ u, u < 1024 → (rb (ω.1 c5) 0 u = true ↔ (∃ s' t, (s' < s ∧ rb (σ.1 c) a s' = true) ∧ (t < n ∧ rb (σ.1 c2) b t = true) ∧ s' ||| t = u) ∨ ∃ t, (t < t0 ∧ rb (σ.1 c2) b t = true) ∧ s ||| t = u) := hu3
      have e18 : ω.1 218 = σ.1 218 := hf3.2 218 (by simpa using n3)
      have ec : ω.1 c = σ.1 c := hf3.2 c (by simpa using n1)
      have ec2 : ω.1 c2 = σ.1 c2 := hf3.2 c2 (by simpa using n2)
      have out : (rb (σ.1 c) a s = true → t0 = n) → Pt (again2 (nI s + 1, ω)) (fun r => FG [c5] σ r.2 ∧ ∀ u, u < 1024 → (rb (r.2.1 c5) 0 u = true ↔ ∃ s t, (s < n ∧ rb (σ.1 c) a s = true) ∧ (t < n ∧ rb (σ.1 c2) b t = true) ∧ s ||| t = u)) := fun hx => by
        rw [nI_s1 (by omega)]
        refine ih2 (nI (s + 1), ω) ⟨s + 1, ⟨rfl, by omega⟩, hf3, fun u hu => (hu3 u hu).trans ⟨fun z => ?_, fun ⟨s', t, h1, h2, h3⟩ => ?_⟩⟩
        · rcases z with ⟨s', t, h1, h2, h3⟩ | ⟨t, h2, h3⟩
          · exact ⟨s', t, ⟨by omega, h1.2⟩, h2, h3⟩
          · exact ⟨s, t, ⟨by omega, hx3 (by omega)⟩, ⟨by omega, h2.2⟩, h3⟩
        · by_cases e : s' = s
          · subst e
            exact Or.inr ⟨t, ⟨by have := hx h1.2; omega, h2.2⟩, h3⟩
          · exact Or.inl ⟨s', t, ⟨by omega, h1.2⟩, h2, h3⟩
      rw [F_X12_joins_38.eq_1]
      refine pt_gI ?_
      rw [e18, hn]
      refine pt_if (fun y => out (fun _ => ?_)) (fun y => ?_)
      · rw [nlt (by omega) (by omega)] at y; omega
      · rw [nlt (by omega) (by omega)] at y
        refine pt_aI ?_
        rw [ix1 ha (by omega), ec]
        refine pt_if (fun z => out (fun w => absurd z (rb_t.mp w))) (fun z => ?_)
        have hxs : rb (σ.1 c) a s = true := rb_t.mpr z
        refine pt_aI ?_
        rw [ix1 hb (by omega), ec2]
        refine pt_if (fun w => ?_) (fun w => ?_)
        · rw [nI_s1 (by omega)]
          refine ih3 (nI (t0 + 1), ω) ⟨t0 + 1, ⟨rfl, by omega⟩, hf3, fun _ => hxs, fun u hu => (hu3 u hu).trans ⟨fun v => v.imp id (fun ⟨t, h2, h3⟩ => ⟨t, ⟨by omega, h2.2⟩, h3⟩), fun v => v.imp id (fun ⟨t, h2, h3⟩ => ⟨t, ⟨?_, h2.2⟩, h3⟩)⟩⟩
          have : t ≠ t0 := fun e => absurd w (rb_t.mp (by rw [e] at h2; exact h2.2))
          omega
        · have hyt : rb (σ.1 c2) b t0 = true := rb_t.mpr w
          have lor := or_1024 (show s < 1024 by omega) (show t0 < 1024 by omega)
          refine pt_s16 ?_
          rw [nI_or, iN (by omega), nI_s1 (by omega), nz1.2]
          refine ih3 (nI (t0 + 1), _) ⟨t0 + 1, ⟨rfl, by omega⟩, hf3.u (by simp), fun _ => hxs, fun u hu => ?_⟩
          show rb ((zI ω c5 _).1 c5) 0 u = true ↔ _
          rw [zI_s, rb_t, Nat.zero_add, upd_i]
          by_cases e : u = s ||| t0
          · rw [if_pos e]
            exact ⟨fun _ => Or.inr ⟨t0, ⟨by omega, hyt⟩, e.symm⟩, fun _ => by decide⟩
          · rw [if_neg e]
            have h3 := hu3 u hu
            rw [rb_t, Nat.zero_add] at h3
            exact h3.trans ⟨fun v => v.imp id (fun ⟨t, h2, h3⟩ => ⟨t, ⟨by omega, h2.2⟩, h3⟩), fun v => v.imp id (fun ⟨t, h2, h3⟩ => ⟨t, ⟨by have : t ≠ t0 := fun e' => e (by rw [← h3, e']); omega, h2.2⟩, h3⟩)⟩
  · have q : ¬ nI 1024 ≤ nI m := q
    rw [nlt (by omega) (by omega)] at q
    refine pt_s16 ?_
    rw [iN (by omega), nI_s1 (by omega), nz1.1]
    refine ih (nI (m + 1), _) ⟨m + 1, ⟨rfl, by omega⟩, hf.u (by simp), fun u hu => ?_⟩
    show (zI τ c5 _).1 c5 u = 0
    rw [zI_s, upd_i]
    by_cases e : u = m
    · rw [if_pos e]
    · rw [if_neg e]; exact hz u (by omega)
/-- what +, -, &, / and # give, by members -/
def GS (w : Int32) (X Y : Nat → Bool) (n u : Nat) : Prop := u < n ∧ (if w = 0 then X u = true ∨ Y u = true else if w = 1 then X u = true ∧ Y u = false else if w = 2 then X u = true ∧ Y u = true else if w = 4 then (∃ t, t < n ∧ Y t = true) ∧ ∀ t, t < n → Y t = true → u &&& t = 0 ∧ X (u ||| t) = true else X u = true ∧ ∀ t, t < n → Y t = true → ¬ u &&& t = 0)
theorem vr_g178 {w y : Int32} {m : Nat} {τ : zS} {again : Int32 × zS → Option (Unit × zS)} {P : Unit × zS → Prop} (ha : a ≤ 100000) (hb : b ≤ 100000) (hm : m < 1024) (hn : τ.1 218 20 = nI n) (h10 : n ≤ 1024) (hy : (y = 0 ∧ ¬ m < n) ∨ (y = 1 ∧ m < n))
    (K0 : ¬ GS w (rb (τ.1 c) a) (rb (τ.1 c2) b) n m → Pt (zl (gR 12 17 218 τ) fun z => zl (sI 16 z (nI m) 0 τ) fun σ' => again (nI m + 1, σ')) P) (K1 : GS w (rb (τ.1 c) a) (rb (τ.1 c2) b) n m → Pt (zl (gR 12 17 218 τ) fun z => zl (sI 16 z (nI m) 1 τ) fun σ' => again (nI m + 1, σ')) P) : Pt (J_X12_gives_178 N again 218 w c (nI a) c2 (nI b) (nI m) y τ) P := by
  have no : y = 0 → ¬ GS w (rb (τ.1 c) a) (rb (τ.1 c2) b) n m := fun z g => by
    rcases hy with h | h
    · exact h.2 g.1
    · rw [h.1] at z; exact absurd z (by decide)
  have lt : ¬ y = 0 → m < n := fun z => by
    rcases hy with h | h
    · exact absurd h.1 z
    · exact h.2
  rw [J_X12_gives_178.eq_1]
  refine pt_if (fun w0 => pt_if (fun z => K0 (no z)) (fun z => ?_)) (fun w0 => pt_if (fun w1 => pt_if (fun z => K0 (no z)) (fun z => ?_)) (fun w1 => pt_if (fun w2 => pt_if (fun z => K0 (no z)) (fun z => ?_)) (fun w2 => pt_if (fun w4 => pt_if (fun z => K0 (no z)) (fun z => ?_)) (fun w4 => pt_if (fun z => K0 (no z)) (fun z => ?_)))))
  · have e : GS w (rb (τ.1 c) a) (rb (τ.1 c2) b) n m ↔ rb (τ.1 c) a m = true ∨ rb (τ.1 c2) b m = true := by
      unfold GS; rw [if_pos w0]; exact ⟨fun h => h.2, fun h => ⟨lt z, h⟩⟩
    refine pt_aI ?_
    rw [ix1 ha (by omega)]
    refine pt_if (fun x => pt_aI ?_) (fun x => K1 (e.mpr (Or.inl (rb_t.mpr x))))
    rw [ix1 hb (by omega)]
    exact pt_if (fun v => K0 (fun g => (e.mp g).elim (fun q => rb_t.mp q x) (fun q => rb_t.mp q v))) (fun v => K1 (e.mpr (Or.inr (rb_t.mpr v))))
  · have e : GS w (rb (τ.1 c) a) (rb (τ.1 c2) b) n m ↔ rb (τ.1 c) a m = true ∧ rb (τ.1 c2) b m = false := by
      unfold GS; rw [if_neg w0, if_pos w1]; exact ⟨fun h => h.2, fun h => ⟨lt z, h⟩⟩
    refine pt_aI ?_
    rw [ix1 ha (by omega)]
    refine pt_if (fun x => K0 (fun g => rb_t.mp (e.mp g).1 x)) (fun x => pt_aI ?_)
    rw [ix1 hb (by omega)]
    exact pt_if (fun v => K1 (e.mpr ⟨rb_t.mpr x, rb_f.mpr v⟩)) (fun v => K0 (fun g => v (rb_f.mp (e.mp g).2)))
  · have e : GS w (rb (τ.1 c) a) (rb (τ.1 c2) b) n m ↔ rb (τ.1 c) a m = true ∧ rb (τ.1 c2) b m = true := by
      unfold GS; rw [if_neg w0, if_neg w1, if_pos w2]; exact ⟨fun h => h.2, fun h => ⟨lt z, h⟩⟩
    refine pt_aI ?_
    rw [ix1 ha (by omega)]
    refine pt_if (fun x => K0 (fun g => rb_t.mp (e.mp g).1 x)) (fun x => pt_aI ?_)
    rw [ix1 hb (by omega)]
    exact pt_if (fun v => K0 (fun g => rb_t.mp (e.mp g).2 v)) (fun v => K1 (e.mpr ⟨rb_t.mpr x, rb_t.mpr v⟩))
  · have e : GS w (rb (τ.1 c) a) (rb (τ.1 c2) b) n m ↔ (∃ t, t < n ∧ rb (τ.1 c2) b t = true) ∧ ∀ t, t < n → rb (τ.1 c2) b t = true → m &&& t = 0 ∧ rb (τ.1 c) a (m ||| t) = true := by
      unfold GS; rw [if_neg w0, if_neg w1, if_neg w2, if_pos w4]; exact ⟨fun h => h.2, fun h => ⟨lt z, h⟩⟩
    refine pt_gC (pt_zbq (vr_isOver ha hb hm hn h10) (fun v hv => pt_if (fun x => K0 (fun g => ?_)) (fun x => K1 (e.mpr (hv.2.mp (hv.1.resolve_left x))))))
    rw [hv.2.mpr (e.mp g)] at x
    exact absurd x (by decide)
  · have e : GS w (rb (τ.1 c) a) (rb (τ.1 c2) b) n m ↔ rb (τ.1 c) a m = true ∧ ∀ t, t < n → rb (τ.1 c2) b t = true → ¬ m &&& t = 0 := by
      unfold GS; rw [if_neg w0, if_neg w1, if_neg w2, if_neg w4]; exact ⟨fun h => h.2, fun h => ⟨lt z, h⟩⟩
    refine pt_aI ?_
    rw [ix1 ha (by omega)]
    refine pt_if (fun x => K0 (fun g => rb_t.mp (e.mp g).1 x)) (fun x => pt_gC (pt_zbq (vr_isTouching hb hm hn h10) (fun v hv => pt_if (fun y => K0 (fun g => ?_)) (fun y => K1 (e.mpr ⟨rb_t.mpr x, hv.2.mp (hv.1.resolve_left y)⟩)))))
    rw [hv.2.mpr (e.mp g).2] at y
    exact absurd y (by decide)
/-- one more place of a row is told -/
theorem put_st {S : Nat → Prop} {τ : zS} {k m : Nat} {v : Int32} (hu : ∀ u, u < m → (rb (τ.1 k) 0 u = true ↔ S u)) (hv : (v = 0 ∧ ¬ S m) ∨ (v = 1 ∧ S m)) : ∀ u, u < m + 1 → (rb ((zI τ k (upd (τ.1 k) m (vp_nar .boolean v))).1 k) 0 u = true ↔ S u) := fun u hlt => by
  rw [zI_s, rb_t, Nat.zero_add, upd_i]
  by_cases e : u = m
  · subst e
    rw [if_pos rfl]
    rcases hv with ⟨rfl, h⟩ | ⟨rfl, h⟩
    · rw [nz1.1]; exact ⟨fun z => absurd rfl z, fun z => absurd z h⟩
    · rw [nz1.2]; exact ⟨fun _ => h, fun _ => by decide⟩
  · rw [if_neg e]
    have := hu u (by omega)
    rw [rb_t, Nat.zero_add] at this
    exact this
theorem vr_g156 {w : Int32} (hR : RF σ.2.2) (ha : a ≤ 100000) (hb : b ≤ 100000) (hn : σ.1 218 20 = nI n) (h10 : n ≤ 1024) (n1 : c ≠ 227) (n2 : c2 ≠ 227) : Pt (zlp (F_X12_gives_156 N 218 w c (nI a) c2 (nI b)) N (0, σ)) (fun r => FG [227] σ r.2 ∧ ∀ u, u < 1024 → (rb (r.2.1 227) 0 u = true ↔ GS w (rb (σ.1 c) a) (rb (σ.1 c2) b) n u)) := by
  refine pt_lp (fun x : Int32 × zS => ∃ m, (x.1 = nI m ∧ m ≤ 1024) ∧ FG [227] σ x.2 ∧ ∀ u, u < m → (rb (x.2.1 227) 0 u = true ↔ GS w (rb (σ.1 c) a) (rb (σ.1 c2) b) n u)) (fun again x hI ih => ?_) N _ ⟨0, ⟨rfl, Nat.zero_le _⟩, FG.rf, fun u hu => absurd hu (by omega)⟩
  obtain ⟨x6, τ⟩ := x
  obtain ⟨m, ⟨e, hm⟩, hf, hu⟩ := hI
  have e : x6 = nI m := e
  subst e
  have hf : FG [227] σ τ := hf
  have hu : ∀ u, u < m → (rb (τ.1 227) 0 u = true ↔ GS w (rb (σ.1 c) a) (rb (σ.1 c2) b) n u) := hu
  have e18 : τ.1 218 = σ.1 218 := hf.2 218 (by decide)
  have ec : τ.1 c = σ.1 c := hf.2 c (by simpa using n1)
  have ec2 : τ.1 c2 = σ.1 c2 := hf.2 c2 (by simpa using n2)
  have R9 := hf.R hR
  rw [F_X12_gives_156.eq_1]
  refine pt_if (fun q => pt_some ⟨hf, fun u h => hu u ?_⟩) (fun q => ?_)
  · have q : nI 1024 ≤ nI m := q
    rw [nlt (by omega) (by omega)] at q; omega
  · have q : ¬ nI 1024 ≤ nI m := q
    rw [nlt (by omega) (by omega)] at q
    have K : ∀ v : Int32, ((v = 0 ∧ ¬ GS w (rb (σ.1 c) a) (rb (σ.1 c2) b) n m) ∨ (v = 1 ∧ GS w (rb (σ.1 c) a) (rb (σ.1 c2) b) n m)) → Pt (zl (gR 12 17 218 τ) fun z => zl (sI 16 z (nI m) v τ) fun σ' => again (nI m + 1, σ')) (fun r => FG [227] σ r.2 ∧ ∀ u, u < 1024 → (rb (r.2.1 227) 0 u = true ↔ GS w (rb (σ.1 c) a) (rb (σ.1 c2) b) n u)) := fun v hv => by
      refine pt_gR (v := 227) (R9 218 17 rfl) (pt_s16 ?_)
      rw [iN (by omega), nI_s1 (by omega)]
      exact ih (nI (m + 1), _) ⟨m + 1, ⟨rfl, by omega⟩, hf.u (by simp), put_st hu hv⟩
    refine pt_gI ?_
    rw [e18, hn]
    have go : ∀ y : Int32, ((y = 0 ∧ ¬ m < n) ∨ (y = 1 ∧ m < n)) → Pt (J_X12_gives_178 N again 218 w c (nI a) c2 (nI b) (nI m) y τ) (fun r => FG [227] σ r.2 ∧ ∀ u, u < 1024 → (rb (r.2.1 227) 0 u = true ↔ GS w (rb (σ.1 c) a) (rb (σ.1 c2) b) n u)) := fun y hy => by
      refine vr_g178 ha hb (by omega) (by rw [e18]; exact hn) h10 hy (fun g => K 0 (Or.inl ⟨rfl, ?_⟩)) (fun g => K 1 (Or.inr ⟨rfl, ?_⟩))
      · rw [ec, ec2] at g; exact g
      · rw [ec, ec2] at g; exact g
    refine pt_if (fun z => go 0 (Or.inl ⟨rfl, ?_⟩)) (fun z => go 1 (Or.inr ⟨rfl, ?_⟩))
    · rw [nlt (by omega) (by omega)] at z; omega
    · rw [nlt (by omega) (by omega)] at z; omega
end RGIV
end Zq13_20
section Zq13_21
section RTRN
variable {N c a c2 b n : Nat} {σ : zS}
/-- the quotient's members -/
def OV (X Y : Nat → Bool) (n u : Nat) : Prop := (∃ t, t < n ∧ Y t = true) ∧ ∀ t, t < n → Y t = true → u &&& t = 0 ∧ X (u ||| t) = true
theorem vr_gives (hR : RF σ.2.2) {w : Int32} (ha : a ≤ 100000) (hb : b ≤ 100000) (hn : σ.1 218 20 = nI n) (h10 : n ≤ 1024) (n1 : c ≠ 227 ∧ c ≠ 228 ∧ c ≠ 229) (n2 : c2 ≠ 227 ∧ c2 ≠ 228 ∧ c2 ≠ 229) : Pt (f_X12_gives N 218 w c (nI a) c2 (nI b) σ) (fun r => FG [227, 228, 229] σ r.2 ∧ ∀ u, u < 1024 → (rb (r.2.1 227) 0 u = true ↔ if w = 3 then (∃ s t, (s < n ∧ rb (σ.1 c) a s = true) ∧ (t < n ∧ rb (σ.1 c2) b t = true) ∧ s ||| t = u) else if w = 5 then u < n ∧ rb (σ.1 c) a u = true ∧ ¬ ∃ s t, (s < n ∧ rb (σ.1 c2) b s = true) ∧ (t < n ∧ OV (rb (σ.1 c) a) (rb (σ.1 c2) b) n t) ∧ s ||| t = u else GS w (rb (σ.1 c) a) (rb (σ.1 c2) b) n u)) := by
  rw [f_X12_gives.eq_1]
  refine pt_if (fun w3 => ?_) (fun w3 => pt_if (fun w5 => ?_) (fun w5 => ?_))
  · refine pt_gR (v := 227) (hR 218 17 rfl) (pt_gC (pt_zb (vr_joins (c5 := 227) hR ha hb hn h10 n1.1 n2.1 (by decide)) (fun _ σ1 h => pt_some ⟨h.1.wk (by simp), fun u hu => ?_⟩)))
    rw [if_pos w3]; exact h.2 u hu
  · -- part, kept, made
    refine pt_lp (fun x : Int32 × zS => ∃ m, (x.1 = nI m ∧ m ≤ 1024) ∧ FG [227, 228, 229] σ x.2 ∧ ∀ u, u < m → (rb (x.2.1 228) 0 u = true ↔ u < n ∧ OV (rb (σ.1 c) a) (rb (σ.1 c2) b) n u)) (fun again x hI ih => ?_) N _ ⟨0, ⟨rfl, Nat.zero_le _⟩, FG.rf, fun u hu => absurd hu (by omega)⟩
    obtain ⟨x6, τ⟩ := x
    obtain ⟨m, ⟨e, hm⟩, hf, hu⟩ := hI
    have e : x6 = nI m := e
    subst e
    have hf : FG [227, 228, 229] σ τ := hf
    have hu : ∀ u, u < m → (rb (τ.1 228) 0 u = true ↔ u < n ∧ OV (rb (σ.1 c) a) (rb (σ.1 c2) b) n u) := hu
    have e18 : τ.1 218 = σ.1 218 := hf.2 218 (by decide)
    have ec : τ.1 c = σ.1 c := hf.2 c (by simp only [List.mem_cons, List.not_mem_nil, or_false]; omega)
    have ec2 : τ.1 c2 = σ.1 c2 := hf.2 c2 (by simp only [List.mem_cons, List.not_mem_nil, or_false]; omega)
    have R9 := hf.R hR
    rw [F_X12_gives_28.eq_1]
    refine pt_if (fun q => ?_) (fun q => ?_)
    · have q : nI 1024 ≤ nI m := q
      rw [nlt (by omega) (by omega)] at q
      have e : m = 1024 := by omega
      subst e
      have J := vr_joins (N := N) (c := c2) (a := b) (c2 := 228) (b := 0) (c5 := 229) (n := n) R9 hb (by omega) (by rw [e18]; exact hn) h10 n2.2.2 (by decide) (by decide)
      refine pt_gR (v := 228) (R9 218 18 rfl) (pt_gR (v := 229) (R9 218 19 rfl) (pt_gC (pt_zb J (fun _ σ1 h1 => ?_))))
      obtain ⟨f1, u1⟩ := h1
      have f1 : FG [229] τ σ1 := f1
      have u1 : ∀ u, u < 1024 → (rb (σ1.1 229) 0 u = true ↔ ∃ s t, (s < n ∧ rb (τ.1 c2) b s = true) ∧ (t < n ∧ rb (τ.1 228) 0 t = true) ∧ s ||| t = u) := u1
      have F1 : FG [227, 228, 229] σ σ1 := hf.tr (f1.wk (by simp))
      have k1 : ∀ u, u < 1024 → (rb (σ1.1 229) 0 u = true ↔ ∃ s t, (s < n ∧ rb (σ.1 c2) b s = true) ∧ (t < n ∧ OV (rb (σ.1 c) a) (rb (σ.1 c2) b) n t) ∧ s ||| t = u) := fun u hlt => by
        rw [u1 u hlt, ec2]
        constructor
        · rintro ⟨s, t, p, r, z⟩
          exact ⟨s, t, p, ⟨r.1, ((hu t (by omega)).mp r.2).2⟩, z⟩
        · rintro ⟨s, t, p, r, z⟩
          exact ⟨s, t, p, ⟨r.1, (hu t (by omega)).mpr ⟨r.1, r.2⟩⟩, z⟩
      refine pt_lp (fun x : Int32 × zS => ∃ m, (x.1 = nI m ∧ m ≤ 1024) ∧ (FG [227, 228, 229] σ x.2 ∧ x.2.1 229 = σ1.1 229) ∧ ∀ u, u < m → (rb (x.2.1 227) 0 u = true ↔ u < n ∧ rb (σ.1 c) a u = true ∧ ¬ rb (σ1.1 229) 0 u = true)) (fun again2 x hI ih2 => ?_) N _ ⟨0, ⟨rfl, Nat.zero_le _⟩, ⟨F1, rfl⟩, fun u hu => absurd hu (by omega)⟩
      obtain ⟨x6, υ⟩ := x
      obtain ⟨m, ⟨e, hm⟩, ⟨hf2, h29⟩, hu2⟩ := hI
      have e : x6 = nI m := e
      subst e
      have hf2 : FG [227, 228, 229] σ υ := hf2
      have h29 : υ.1 229 = σ1.1 229 := h29
      have hu2 : ∀ u, u < m → (rb (υ.1 227) 0 u = true ↔ u < n ∧ rb (σ.1 c) a u = true ∧ ¬ rb (σ1.1 229) 0 u = true) := hu2
      have e18 : υ.1 218 = σ.1 218 := hf2.2 218 (by decide)
      have ec : υ.1 c = σ.1 c := hf2.2 c (by simp only [List.mem_cons, List.not_mem_nil, or_false]; omega)
      have R8 := hf2.R hR
      rw [F_X12_gives_98.eq_1]
      refine pt_if (fun q => pt_some ⟨hf2, fun u hlt => ?_⟩) (fun q => ?_)
      · have q : nI 1024 ≤ nI m := q
        rw [nlt (by omega) (by omega)] at q
        show rb (υ.1 227) 0 u = true ↔ _
        rw [if_neg w3, if_pos w5, hu2 u (by omega), k1 u hlt]
      · have q : ¬ nI 1024 ≤ nI m := q
        rw [nlt (by omega) (by omega)] at q
        have K : ∀ v : Int32, ((v = 0 ∧ ¬ (m < n ∧ rb (σ.1 c) a m = true ∧ ¬ rb (σ1.1 229) 0 m = true)) ∨ (v = 1 ∧ (m < n ∧ rb (σ.1 c) a m = true ∧ ¬ rb (σ1.1 229) 0 m = true))) → Pt (zl (sI 16 227 (nI m) v υ) fun σ' => again2 (nI m + 1, σ')) (fun r => FG [227, 228, 229] σ r.2 ∧ ∀ u, u < 1024 → (rb (r.2.1 227) 0 u = true ↔ if w = 3 then (∃ s t, (s < n ∧ rb (σ.1 c) a s = true) ∧ (t < n ∧ rb (σ.1 c2) b t = true) ∧ s ||| t = u) else if w = 5 then u < n ∧ rb (σ.1 c) a u = true ∧ ¬ ∃ s t, (s < n ∧ rb (σ.1 c2) b s = true) ∧ (t < n ∧ OV (rb (σ.1 c) a) (rb (σ.1 c2) b) n t) ∧ s ||| t = u else GS w (rb (σ.1 c) a) (rb (σ.1 c2) b) n u)) := fun v hv => by
          refine pt_s16 ?_
          rw [iN (by omega), nI_s1 (by omega)]
          exact ih2 (nI (m + 1), _) ⟨m + 1, ⟨rfl, by omega⟩, ⟨hf2.u (by simp), (zI_n (by decide)).trans h29⟩, put_st (S := fun u => u < n ∧ rb (σ.1 c) a u = true ∧ ¬ rb (σ1.1 229) 0 u = true) hu2 hv⟩
        refine pt_gR (v := 227) (R8 218 17 rfl) (pt_gI ?_)
        rw [e18, hn]
        refine pt_if (fun z => K 0 (Or.inl ⟨rfl, fun g => ?_⟩)) (fun z => pt_aI ?_)
        · rw [nlt (by omega) (by omega)] at z; omega
        · rw [nlt (by omega) (by omega)] at z
          rw [ix1 ha (by omega), ec]
          refine pt_if (fun y => K 0 (Or.inl ⟨rfl, fun g => rb_t.mp g.2.1 y⟩)) (fun y => pt_gR (v := 229) (R8 218 19 rfl) (pt_aI ?_))
          rw [iN (by omega), h29]
          refine pt_if (fun x => K 1 (Or.inr ⟨rfl, by omega, rb_t.mpr y, fun g => ?_⟩)) (fun x => K 0 (Or.inl ⟨rfl, fun g => g.2.2 (rb_t.mpr (by rw [Nat.zero_add]; exact x))⟩))
          have := rb_t.mp g
          rw [Nat.zero_add] at this
          exact this x
    · have q : ¬ nI 1024 ≤ nI m := q
      rw [nlt (by omega) (by omega)] at q
      have K : ∀ v : Int32, ((v = 0 ∧ ¬ (m < n ∧ OV (rb (σ.1 c) a) (rb (σ.1 c2) b) n m)) ∨ (v = 1 ∧ (m < n ∧ OV (rb (σ.1 c) a) (rb (σ.1 c2) b) n m))) → Pt (zl (sI 16 228 (nI m) v τ) fun σ' => again (nI m + 1, σ')) (fun r => FG [227, 228, 229] σ r.2 ∧ ∀ u, u < 1024 → (rb (r.2.1 227) 0 u = true ↔ if w = 3 then (∃ s t, (s < n ∧ rb (σ.1 c) a s = true) ∧ (t < n ∧ rb (σ.1 c2) b t = true) ∧ s ||| t = u) else if w = 5 then u < n ∧ rb (σ.1 c) a u = true ∧ ¬ ∃ s t, (s < n ∧ rb (σ.1 c2) b s = true) ∧ (t < n ∧ OV (rb (σ.1 c) a) (rb (σ.1 c2) b) n t) ∧ s ||| t = u else GS w (rb (σ.1 c) a) (rb (σ.1 c2) b) n u)) := fun v hv => by
        refine pt_s16 ?_
        rw [iN (by omega), nI_s1 (by omega)]
        exact ih (nI (m + 1), _) ⟨m + 1, ⟨rfl, by omega⟩, hf.u (by simp), put_st (S := fun u => u < n ∧ OV (rb (σ.1 c) a) (rb (σ.1 c2) b) n u) hu hv⟩
      refine pt_gR (v := 228) (R9 218 18 rfl) (pt_gI ?_)
      rw [e18, hn]
      refine pt_if (fun z => K 0 (Or.inl ⟨rfl, fun g => ?_⟩)) (fun z => ?_)
      · rw [nlt (by omega) (by omega)] at z; omega
      · rw [nlt (by omega) (by omega)] at z
        have V := vr_isOver (N := N) (c := c) (a := a) (c2 := c2) (b := b) (s := m) (n := n) (σ := τ) ha hb (by omega) (by rw [e18]; exact hn) h10
        rw [ec, ec2] at V
        refine pt_gC (pt_zbq V (fun v hv => pt_if (fun x => K 0 (Or.inl ⟨rfl, fun g => ?_⟩)) (fun x => K 1 (Or.inr ⟨rfl, by omega, hv.2.mp (hv.1.resolve_left x)⟩))))
        rw [hv.2.mpr g.2] at x
        exact absurd x (by decide)
  · refine pt_w (vr_g156 hR ha hb hn h10 n1.1 n2.1) (fun r h => ⟨h.1.wk (by simp), fun u hu => ?_⟩)
    rw [if_neg w3, if_neg w5]; exact h.2 u hu
/-- what min, max, not, up, down and itself give, by members (not hit) -/
def TS (w : Int32) (X : Nat → Bool) (n u : Nat) : Prop := u < n ∧ (if w = 0 then X u = true ∧ ¬ ∃ t, t < n ∧ t ≠ u ∧ X t = true ∧ sb t u else if w = 1 then X u = true ∧ ¬ ∃ t, t < n ∧ t ≠ u ∧ X t = true ∧ sb u t else if w = 3 then X u = false else if w = 4 then X u = true ∨ ∃ t, t < n ∧ t ≠ u ∧ X t = true ∧ sb t u else if w = 5 then X u = true ∨ ∃ t, t < n ∧ t ≠ u ∧ X t = true ∧ sb u t else X u = true)
theorem vr_t88 {w y : Int32} {m : Nat} {τ : zS} {again : Int32 × zS → Option (Unit × zS)} {P : Unit × zS → Prop} (ha : a ≤ 100000) (hm : m < 1024) (hn : τ.1 218 20 = nI n) (h10 : n ≤ 1024) (hy : (y = 0 ∧ ¬ m < n) ∨ (y = 1 ∧ m < n))
    (K0 : ¬ TS w (rb (τ.1 c) a) n m → Pt (zl (gR 12 17 218 τ) fun z => zl (sI 16 z (nI m) 0 τ) fun σ' => again (nI m + 1, σ')) P) (K1 : TS w (rb (τ.1 c) a) n m → Pt (zl (gR 12 17 218 τ) fun z => zl (sI 16 z (nI m) 1 τ) fun σ' => again (nI m + 1, σ')) P) : Pt (J_X12_turns_88 N again 218 w c (nI a) (nI m) y τ) P := by
  have no : y = 0 → ¬ TS w (rb (τ.1 c) a) n m := fun z g => by
    rcases hy with h | h
    · exact h.2 g.1
    · rw [h.1] at z; exact absurd z (by decide)
  have lt : ¬ y = 0 → m < n := fun z => by
    rcases hy with h | h
    · exact absurd h.1 z
    · exact h.2
  have g99 : (w = 0 ∨ w = 1) → Pt (J_X12_turns_99 N again 218 w c (nI a) (nI m) y τ) P := fun w01 => by
    rw [J_X12_turns_99.eq_1]
    refine pt_if (fun z => K0 (no z)) (fun z => pt_aI ?_)
    rw [ix1 ha (by omega)]
    have e0 : w = 0 → (TS w (rb (τ.1 c) a) n m ↔ rb (τ.1 c) a m = true ∧ ¬ ∃ t, t < n ∧ t ≠ m ∧ rb (τ.1 c) a t = true ∧ sb t m) := fun w0 => by
      unfold TS; rw [if_pos w0]; exact ⟨fun h => h.2, fun h => ⟨lt z, h⟩⟩
    have e1 : ¬ w = 0 → (TS w (rb (τ.1 c) a) n m ↔ rb (τ.1 c) a m = true ∧ ¬ ∃ t, t < n ∧ t ≠ m ∧ rb (τ.1 c) a t = true ∧ sb m t) := fun w0 => by
      have w1 := w01.resolve_left w0
      unfold TS; rw [if_neg w0, if_pos w1]; exact ⟨fun h => h.2, fun h => ⟨lt z, h⟩⟩
    refine pt_if (fun x => K0 (fun g => ?_)) (fun x => pt_if (fun w0 => ?_) (fun w0 => ?_))
    · by_cases w0 : w = 0
      · exact rb_t.mp ((e0 w0).mp g).1 x
      · exact rb_t.mp ((e1 w0).mp g).1 x
    · rw [J_X12_turns_127.eq_1]
      have V := vr_isNested (N := N) (c := c) (a := a) (s := m) (n := n) (w := 1) (σ := τ) ha hm hn h10
      refine pt_gC (pt_zbq V (fun v hv => pt_if (fun k => K1 ((e0 w0).mpr ⟨rb_t.mpr x, fun ⟨t, h1, h2, h3, h4⟩ => ?_⟩)) (fun k => K0 (fun g => ?_))))
      · have := hv.2.mpr ⟨t, h1, h2, h3, by rw [if_neg (by decide)]; exact h4⟩
        rw [this] at k; exact absurd k (by decide)
      · obtain ⟨t, h1, h2, h3, h4⟩ := hv.2.mp (hv.1.resolve_left k)
        rw [if_neg (by decide)] at h4
        exact ((e0 w0).mp g).2 ⟨t, h1, h2, h3, h4⟩
    · rw [J_X12_turns_127.eq_1]
      have V := vr_isNested (N := N) (c := c) (a := a) (s := m) (n := n) (w := 0) (σ := τ) ha hm hn h10
      refine pt_gC (pt_zbq V (fun v hv => pt_if (fun k => K1 ((e1 w0).mpr ⟨rb_t.mpr x, fun ⟨t, h1, h2, h3, h4⟩ => ?_⟩)) (fun k => K0 (fun g => ?_))))
      · have := hv.2.mpr ⟨t, h1, h2, h3, by rw [if_pos rfl]; exact h4⟩
        rw [this] at k; exact absurd k (by decide)
      · obtain ⟨t, h1, h2, h3, h4⟩ := hv.2.mp (hv.1.resolve_left k)
        rw [if_pos rfl] at h4
        exact ((e1 w0).mp g).2 ⟨t, h1, h2, h3, h4⟩
  have g182 : ¬ w = 0 → ¬ w = 1 → ¬ w = 3 → (w = 4 ∨ w = 5) → Pt (J_X12_turns_182 N again 218 w c (nI a) (nI m) y τ) P := fun w0 w1 w3 w45 => by
    rw [J_X12_turns_182.eq_1]
    refine pt_if (fun z => K0 (no z)) (fun z => pt_aI ?_)
    rw [ix1 ha (by omega)]
    have e4 : w = 4 → (TS w (rb (τ.1 c) a) n m ↔ rb (τ.1 c) a m = true ∨ ∃ t, t < n ∧ t ≠ m ∧ rb (τ.1 c) a t = true ∧ sb t m) := fun w4 => by
      unfold TS; rw [if_neg w0, if_neg w1, if_neg w3, if_pos w4]; exact ⟨fun h => h.2, fun h => ⟨lt z, h⟩⟩
    have e5 : ¬ w = 4 → (TS w (rb (τ.1 c) a) n m ↔ rb (τ.1 c) a m = true ∨ ∃ t, t < n ∧ t ≠ m ∧ rb (τ.1 c) a t = true ∧ sb m t) := fun w4 => by
      have w5 := w45.resolve_left w4
      unfold TS; rw [if_neg w0, if_neg w1, if_neg w3, if_neg w4, if_pos w5]; exact ⟨fun h => h.2, fun h => ⟨lt z, h⟩⟩
    refine pt_if (fun x => pt_if (fun w4 => ?_) (fun w4 => ?_)) (fun x => K1 ?_)
    · rw [J_X12_turns_211.eq_1]
      have V := vr_isNested (N := N) (c := c) (a := a) (s := m) (n := n) (w := 1) (σ := τ) ha hm hn h10
      refine pt_gC (pt_zbq V (fun v hv => pt_if (fun k => K0 (fun g => ?_)) (fun k => K1 ((e4 w4).mpr (Or.inr ?_)))))
      · rcases (e4 w4).mp g with g | ⟨t, h1, h2, h3, h4⟩
        · exact rb_t.mp g x
        · have := hv.2.mpr ⟨t, h1, h2, h3, by rw [if_neg (by decide)]; exact h4⟩
          rw [this] at k; exact absurd k (by decide)
      · obtain ⟨t, h1, h2, h3, h4⟩ := hv.2.mp (hv.1.resolve_left k)
        rw [if_neg (by decide)] at h4
        exact ⟨t, h1, h2, h3, h4⟩
    · rw [J_X12_turns_211.eq_1]
      have V := vr_isNested (N := N) (c := c) (a := a) (s := m) (n := n) (w := 0) (σ := τ) ha hm hn h10
      refine pt_gC (pt_zbq V (fun v hv => pt_if (fun k => K0 (fun g => ?_)) (fun k => K1 ((e5 w4).mpr (Or.inr ?_)))))
      · rcases (e5 w4).mp g with g | ⟨t, h1, h2, h3, h4⟩
        · exact rb_t.mp g x
        · have := hv.2.mpr ⟨t, h1, h2, h3, by rw [if_pos rfl]; exact h4⟩
          rw [this] at k; exact absurd k (by decide)
      · obtain ⟨t, h1, h2, h3, h4⟩ := hv.2.mp (hv.1.resolve_left k)
        rw [if_pos rfl] at h4
        exact ⟨t, h1, h2, h3, h4⟩
    · by_cases w4 : w = 4
      · exact (e4 w4).mpr (Or.inl (rb_t.mpr x))
      · exact (e5 w4).mpr (Or.inl (rb_t.mpr x))
  rw [J_X12_turns_88.eq_1]
  refine pt_if (fun w0 => g99 (Or.inl w0)) (fun w0 => pt_if (fun w1 => g99 (Or.inr w1)) (fun w1 => pt_if (fun w3 => pt_if (fun z => K0 (no z)) (fun z => pt_aI ?_)) (fun w3 => pt_if (fun w4 => g182 w0 w1 w3 (Or.inl w4)) (fun w4 => pt_if (fun w5 => g182 w0 w1 w3 (Or.inr w5)) (fun w5 => pt_if (fun z => K0 (no z)) (fun z => pt_aI ?_))))))
  · rw [ix1 ha (by omega)]
    have e : TS w (rb (τ.1 c) a) n m ↔ rb (τ.1 c) a m = false := by
      unfold TS; rw [if_neg w0, if_neg w1, if_pos w3]; exact ⟨fun h => h.2, fun h => ⟨lt z, h⟩⟩
    exact pt_if (fun x => K1 (e.mpr (rb_f.mpr x))) (fun x => K0 (fun g => x (rb_f.mp (e.mp g))))
  · rw [ix1 ha (by omega)]
    have e : TS w (rb (τ.1 c) a) n m ↔ rb (τ.1 c) a m = true := by
      unfold TS; rw [if_neg w0, if_neg w1, if_neg w3, if_neg w4, if_neg w5]; exact ⟨fun h => h.2, fun h => ⟨lt z, h⟩⟩
    exact pt_if (fun x => K0 (fun g => rb_t.mp (e.mp g) x)) (fun x => K1 (e.mpr (rb_t.mpr x)))
theorem vr_t66 {w : Int32} (hR : RF σ.2.2) (ha : a ≤ 100000) (hn : σ.1 218 20 = nI n) (h10 : n ≤ 1024) (n1 : c ≠ 227) : Pt (zlp (F_X12_turns_66 N 218 w c (nI a)) N (0, σ)) (fun r => FG [227] σ r.2 ∧ ∀ u, u < 1024 → (rb (r.2.1 227) 0 u = true ↔ TS w (rb (σ.1 c) a) n u)) := by
  refine pt_lp (fun x : Int32 × zS => ∃ m, (x.1 = nI m ∧ m ≤ 1024) ∧ FG [227] σ x.2 ∧ ∀ u, u < m → (rb (x.2.1 227) 0 u = true ↔ TS w (rb (σ.1 c) a) n u)) (fun again x hI ih => ?_) N _ ⟨0, ⟨rfl, Nat.zero_le _⟩, FG.rf, fun u hu => absurd hu (by omega)⟩
  obtain ⟨x4, τ⟩ := x
  obtain ⟨m, ⟨e, hm⟩, hf, hu⟩ := hI
  have e : x4 = nI m := e
  subst e
  have hf : FG [227] σ τ := hf
  have hu : ∀ u, u < m → (rb (τ.1 227) 0 u = true ↔ TS w (rb (σ.1 c) a) n u) := hu
  have e18 : τ.1 218 = σ.1 218 := hf.2 218 (by decide)
  have ec : τ.1 c = σ.1 c := hf.2 c (by simpa using n1)
  have R9 := hf.R hR
  rw [F_X12_turns_66.eq_1]
  refine pt_if (fun q => pt_some ⟨hf, fun u h => hu u ?_⟩) (fun q => ?_)
  · have q : nI 1024 ≤ nI m := q
    rw [nlt (by omega) (by omega)] at q; omega
  · have q : ¬ nI 1024 ≤ nI m := q
    rw [nlt (by omega) (by omega)] at q
    have K : ∀ v : Int32, ((v = 0 ∧ ¬ TS w (rb (σ.1 c) a) n m) ∨ (v = 1 ∧ TS w (rb (σ.1 c) a) n m)) → Pt (zl (gR 12 17 218 τ) fun z => zl (sI 16 z (nI m) v τ) fun σ' => again (nI m + 1, σ')) (fun r => FG [227] σ r.2 ∧ ∀ u, u < 1024 → (rb (r.2.1 227) 0 u = true ↔ TS w (rb (σ.1 c) a) n u)) := fun v hv => by
      refine pt_gR (v := 227) (R9 218 17 rfl) (pt_s16 ?_)
      rw [iN (by omega), nI_s1 (by omega)]
      exact ih (nI (m + 1), _) ⟨m + 1, ⟨rfl, by omega⟩, hf.u (by simp), put_st hu hv⟩
    refine pt_gI ?_
    rw [e18, hn]
    have go : ∀ y : Int32, ((y = 0 ∧ ¬ m < n) ∨ (y = 1 ∧ m < n)) → Pt (J_X12_turns_88 N again 218 w c (nI a) (nI m) y τ) (fun r => FG [227] σ r.2 ∧ ∀ u, u < 1024 → (rb (r.2.1 227) 0 u = true ↔ TS w (rb (σ.1 c) a) n u)) := fun y hy => by
      refine vr_t88 ha (by omega) (by rw [e18]; exact hn) h10 hy (fun g => K 0 (Or.inl ⟨rfl, ?_⟩)) (fun g => K 1 (Or.inr ⟨rfl, ?_⟩))
      · rw [ec] at g; exact g
      · rw [ec] at g; exact g
    refine pt_if (fun z => go 0 (Or.inl ⟨rfl, ?_⟩)) (fun z => go 1 (Or.inr ⟨rfl, ?_⟩))
    · rw [nlt (by omega) (by omega)] at z; omega
    · rw [nlt (by omega) (by omega)] at z; omega
/-- the least of a row -/
theorem vr_turns_ (hR : RF σ.2.2) (hn : σ.1 218 20 = nI n) (h10 : n ≤ 1024) (n1 : c ≠ 227) : Pt (f_X12_turns_ N 218 c σ) (fun r => FG [227] σ r.2 ∧ ∀ u, u < 1024 → (rb (r.2.1 227) 0 u = true ↔ TS 0 (rb (σ.1 c) 0) n u)) := by
  rw [f_X12_turns_.eq_1]
  refine pt_lp (fun x : Int32 × zS => ∃ m, (x.1 = nI m ∧ m ≤ 1024) ∧ FG [227] σ x.2 ∧ ∀ u, u < m → (rb (x.2.1 227) 0 u = true ↔ TS 0 (rb (σ.1 c) 0) n u)) (fun again x hI ih => ?_) N _ ⟨0, ⟨rfl, Nat.zero_le _⟩, FG.rf, fun u hu => absurd hu (by omega)⟩
  obtain ⟨x2, τ⟩ := x
  obtain ⟨m, ⟨e, hm⟩, hf, hu⟩ := hI
  have e : x2 = nI m := e
  subst e
  have hf : FG [227] σ τ := hf
  have hu : ∀ u, u < m → (rb (τ.1 227) 0 u = true ↔ TS 0 (rb (σ.1 c) 0) n u) := hu
  have e18 : τ.1 218 = σ.1 218 := hf.2 218 (by decide)
  have ec : τ.1 c = σ.1 c := hf.2 c (by simpa using n1)
  have R9 := hf.R hR
  rw [F_X12_turns__2.eq_1]
  refine pt_if (fun q => pt_some ⟨hf, fun u h => hu u ?_⟩) (fun q => ?_)
  · have q : nI 1024 ≤ nI m := q
    rw [nlt (by omega) (by omega)] at q; omega
  · have q : ¬ nI 1024 ≤ nI m := q
    rw [nlt (by omega) (by omega)] at q
    have K : ∀ v : Int32, ((v = 0 ∧ ¬ TS 0 (rb (σ.1 c) 0) n m) ∨ (v = 1 ∧ TS 0 (rb (σ.1 c) 0) n m)) → Pt (zl (sI 16 227 (nI m) v τ) fun σ' => again (nI m + 1, σ')) (fun r => FG [227] σ r.2 ∧ ∀ u, u < 1024 → (rb (r.2.1 227) 0 u = true ↔ TS 0 (rb (σ.1 c) 0) n u)) := fun v hv => by
      refine pt_s16 ?_
      rw [iN (by omega), nI_s1 (by omega)]
      exact ih (nI (m + 1), _) ⟨m + 1, ⟨rfl, by omega⟩, hf.u (by simp), put_st hu hv⟩
    refine pt_gR (v := 227) (R9 218 17 rfl) (pt_gI ?_)
    rw [e18, hn]
    refine pt_if (fun z => K 0 (Or.inl ⟨rfl, fun g => ?_⟩)) (fun z => pt_aI ?_)
    · rw [nlt (by omega) (by omega)] at z
      have := g.1
      omega
    · rw [nlt (by omega) (by omega)] at z
      rw [iN (by omega), ec]
      have e : TS 0 (rb (σ.1 c) 0) n m ↔ rb (σ.1 c) 0 m = true ∧ ¬ ∃ t, t < n ∧ t ≠ m ∧ rb (σ.1 c) 0 t = true ∧ sb t m := by
        unfold TS; rw [if_pos rfl]; exact ⟨fun h => h.2, fun h => ⟨by omega, h⟩⟩
      refine pt_if (fun x => K 0 (Or.inl ⟨rfl, fun g => rb_t.mp (e.mp g).1 (by rw [Nat.zero_add]; exact x)⟩)) (fun x => ?_)
      have V := vr_isNested (N := N) (c := c) (a := 0) (s := m) (n := n) (w := 1) (σ := τ) (by omega) (by omega) (by rw [e18]; exact hn) h10
      rw [ec] at V
      refine pt_gC (pt_zbq V (fun v hv => pt_if (fun k => K 1 (Or.inr ⟨rfl, e.mpr ⟨rb_t.mpr (by rw [Nat.zero_add]; exact x), fun ⟨t, h1, h2, h3, h4⟩ => ?_⟩⟩)) (fun k => K 0 (Or.inl ⟨rfl, fun g => ?_⟩))))
      · have := hv.2.mpr ⟨t, h1, h2, h3, by rw [if_neg (by decide)]; exact h4⟩
        rw [this] at k; exact absurd k (by decide)
      · obtain ⟨t, h1, h2, h3, h4⟩ := hv.2.mp (hv.1.resolve_left k)
        rw [if_neg (by decide)] at h4
        exact (e.mp g).2 ⟨t, h1, h2, h3, h4⟩
/-- those that have something of each -/
def HT (X : Nat → Bool) (n u : Nat) : Prop := u < n ∧ ∀ t, t < n → X t = true → ¬ u &&& t = 0
theorem vr_turns {w : Int32} (hR : RF σ.2.2) (ha : a ≤ 100000) (hn : σ.1 218 20 = nI n) (h10 : n ≤ 1024) (n1 : c ≠ 227 ∧ c ≠ 228) : Pt (f_X12_turns N 218 w c (nI a) σ) (fun r => FG [227, 228] σ r.2 ∧ ∀ u, u < 1024 → (rb (r.2.1 227) 0 u = true ↔ if w = 2 then HT (rb (σ.1 c) a) n u ∧ ¬ ∃ t, t ≠ u ∧ HT (rb (σ.1 c) a) n t ∧ sb t u else TS w (rb (σ.1 c) a) n u)) := by
  rw [f_X12_turns.eq_1]
  refine pt_if (fun w2 => ?_) (fun w2 => ?_)
  · refine pt_lp (fun x : Int32 × zS => ∃ m, (x.1 = nI m ∧ m ≤ 1024) ∧ FG [227, 228] σ x.2 ∧ ∀ u, u < m → (rb (x.2.1 228) 0 u = true ↔ HT (rb (σ.1 c) a) n u)) (fun again x hI ih => ?_) N _ ⟨0, ⟨rfl, Nat.zero_le _⟩, FG.rf, fun u hu => absurd hu (by omega)⟩
    obtain ⟨x4, τ⟩ := x
    obtain ⟨m, ⟨e, hm⟩, hf, hu⟩ := hI
    have e : x4 = nI m := e
    subst e
    have hf : FG [227, 228] σ τ := hf
    have hu : ∀ u, u < m → (rb (τ.1 228) 0 u = true ↔ HT (rb (σ.1 c) a) n u) := hu
    have e18 : τ.1 218 = σ.1 218 := hf.2 218 (by decide)
    have ec : τ.1 c = σ.1 c := hf.2 c (by simp only [List.mem_cons, List.not_mem_nil, or_false]; omega)
    have R9 := hf.R hR
    rw [F_X12_turns_8.eq_1]
    refine pt_if (fun q => ?_) (fun q => ?_)
    · have q : nI 1024 ≤ nI m := q
      rw [nlt (by omega) (by omega)] at q
      have e : m = 1024 := by omega
      subst e
      refine pt_gR (v := 228) (R9 218 18 rfl) (pt_gC (pt_zb (vr_turns_ (c := 228) R9 (by rw [e18]; exact hn) h10 (by decide)) (fun _ σ1 h1 => pt_some ⟨hf.tr (h1.1.wk (by simp)), fun u hlt => ?_⟩)))
      have u1 : rb (σ1.1 227) 0 u = true ↔ TS 0 (rb (τ.1 228) 0) n u := h1.2 u hlt
      show rb (σ1.1 227) 0 u = true ↔ _
      rw [if_pos w2, u1]
      unfold TS
      rw [if_pos rfl]
      constructor
      · rintro ⟨h1, h2, h3⟩
        refine ⟨(hu u hlt).mp h2, fun ⟨t, a1, a2, a3⟩ => h3 ⟨t, a2.1, a1, (hu t (by have := a2.1; omega)).mpr a2, a3⟩⟩
      · rintro ⟨h1, h2⟩
        exact ⟨h1.1, (hu u hlt).mpr h1, fun ⟨t, a1, a2, a3, a4⟩ => h2 ⟨t, a2, (hu t (by omega)).mp a3, a4⟩⟩
    · have q : ¬ nI 1024 ≤ nI m := q
      rw [nlt (by omega) (by omega)] at q
      have K : ∀ v : Int32, ((v = 0 ∧ ¬ HT (rb (σ.1 c) a) n m) ∨ (v = 1 ∧ HT (rb (σ.1 c) a) n m)) → Pt (zl (sI 16 228 (nI m) v τ) fun σ' => again (nI m + 1, σ')) (fun r => FG [227, 228] σ r.2 ∧ ∀ u, u < 1024 → (rb (r.2.1 227) 0 u = true ↔ if w = 2 then HT (rb (σ.1 c) a) n u ∧ ¬ ∃ t, t ≠ u ∧ HT (rb (σ.1 c) a) n t ∧ sb t u else TS w (rb (σ.1 c) a) n u)) := fun v hv => by
        refine pt_s16 ?_
        rw [iN (by omega), nI_s1 (by omega)]
        exact ih (nI (m + 1), _) ⟨m + 1, ⟨rfl, by omega⟩, hf.u (by simp), put_st hu hv⟩
      refine pt_gR (v := 228) (R9 218 18 rfl) (pt_gI ?_)
      rw [e18, hn]
      refine pt_if (fun z => K 0 (Or.inl ⟨rfl, fun g => ?_⟩)) (fun z => ?_)
      · rw [nlt (by omega) (by omega)] at z
        have := g.1
        omega
      · rw [nlt (by omega) (by omega)] at z
        have V := vr_isTouching (N := N) (c := c) (a := a) (s := m) (n := n) (σ := τ) ha (by omega) (by rw [e18]; exact hn) h10
        rw [ec] at V
        refine pt_gC (pt_zbq V (fun v hv => pt_if (fun x => K 0 (Or.inl ⟨rfl, fun g => ?_⟩)) (fun x => K 1 (Or.inr ⟨rfl, by omega, hv.2.mp (hv.1.resolve_left x)⟩))))
        rw [hv.2.mpr g.2] at x
        exact absurd x (by decide)
  · refine pt_w (vr_t66 hR ha hn h10 n1.1) (fun r h => ⟨h.1.wk (by simp), fun u hu => ?_⟩)
    rw [if_neg w2]; exact h.2 u hu
end RTRN
end Zq13_21
section Zq13_22
/-! ===== products and quotients of the class ===== -/
section CNT
variable {p q : Nat → Bool}
theorem ct_add (p q : Nat → Bool) : ∀ n, ct p n = ct (fun i => p i && q i) n + ct (fun i => p i && !q i) n
  | 0 => rfl
  | n + 1 => by
    show ct p n + (if p n = true then 1 else 0) = (ct (fun i => p i && q i) n + (if (p n && q n) = true then 1 else 0)) + (ct (fun i => p i && !q i) n + (if (p n && !q n) = true then 1 else 0))
    rw [ct_add p q n]
    generalize ct (fun i => p i && q i) n = a
    generalize ct (fun i => p i && !q i) n = b
    cases p n <;> cases q n <;> simp <;> omega
theorem ct_ex {p : Nat → Bool} : ∀ {n : Nat}, ¬ ct p n = 0 ↔ ∃ i, i < n ∧ p i = true
  | 0 => ⟨fun h => absurd rfl h, fun ⟨i, hi, _⟩ => absurd hi (by omega)⟩
  | n + 1 => by
    show ¬ ct p n + (if p n = true then 1 else 0) = 0 ↔ _
    constructor
    · intro h
      by_cases q : p n = true
      · exact ⟨n, by omega, q⟩
      · rw [if_neg q] at h
        obtain ⟨i, a, b⟩ := ct_ex.mp (show ¬ ct p n = 0 by omega)
        exact ⟨i, by omega, b⟩
    · rintro ⟨i, a, b⟩
      by_cases e : i = n
      · rw [e] at b; rw [if_pos b]; omega
      · have := ct_ex.mpr ⟨i, (show i < n by omega), b⟩
        omega
theorem ct_pair (A B : Nat → Bool) (M : Nat) (hM : 0 < M) : ∀ n, ct (fun i => A (i / M) && B (i % M)) (n * M) = ct A n * ct B M
  | 0 => by rw [Nat.zero_mul]; exact (Nat.zero_mul _).symm
  | n + 1 => by
    rw [Nat.succ_mul, ct_split, ct_pair A B M hM n]
    show _ = (ct A n + (if A n = true then 1 else 0)) * ct B M
    have e : ∀ k, k < M → (A ((n * M + k) / M) && B ((n * M + k) % M)) = (A n && B k) := fun k hk => by
      rw [Nat.mul_comm, Nat.mul_add_div hM, Nat.mul_add_mod, Nat.div_eq_of_lt hk, Nat.mod_eq_of_lt hk, Nat.add_zero]
    rw [ct_c e]
    cases hA : A n with
    | true =>
      rw [if_pos rfl, Nat.add_mul, Nat.one_mul]
      rw [show (fun k => true && B k) = B from funext (fun k => Bool.true_and (B k))]
    | false =>
      rw [if_neg (by simp), Nat.add_zero, ct_0 (p := fun k => false && B k) (fun k _ => rfl), Nat.add_zero]
end CNT
theorem add_c {a b c d : Nat} (h : a = c) (h2 : b = d) : a + b = c + d := by rw [h, h2]
section ZETA
variable {F G : Nat → Bool} {k s : Nat}
/-- members of F in s that are as s from bit k on -/
noncomputable def zPm (F : Nat → Bool) (k s : Nat) : Nat → Bool := by
  classical exact fun v => F v && decide (sb v s ∧ ∀ i, k ≤ i → v.testBit i = s.testBit i)
noncomputable def zc (F : Nat → Bool) (k s : Nat) : Nat := ct (zPm F k s) 1024
theorem zP_t {v : Nat} : zPm F k s v = true ↔ F v = true ∧ sb v s ∧ ∀ i, k ≤ i → v.testBit i = s.testBit i := by
  classical
  unfold zPm
  rw [Bool.and_eq_true, decide_eq_true_iff]
theorem zc_0 (hs : s < 1024) : zc F 0 s = if F s = true then 1 else 0 := by
  have only : ∀ v, zPm F 0 s v = true → v = s := fun v h => Nat.eq_of_testBit_eq (fun i => (zP_t.mp h).2.2 i (Nat.zero_le _))
  have self : zPm F 0 s s = F s := by
    cases h : F s with
    | true => exact zP_t.mpr ⟨h, sb.rf, fun _ _ => rfl⟩
    | false =>
      cases q : zPm F 0 s s with
      | false => rfl
      | true => rw [(zP_t.mp q).1] at h; cases h
  unfold zc
  rw [show 1024 = s + (1 + (1024 - s - 1)) by omega, ct_split, ct_split]
  have a : ct (zPm F 0 s) s = 0 := ct_0 (fun v hv => by
    cases q : zPm F 0 s v with
    | false => rfl
    | true => have := only v q; omega)
  have b : ct (fun k => zPm F 0 s (s + (1 + k))) (1024 - s - 1) = 0 := ct_0 (fun v hv => by
    cases q : zPm F 0 s (s + (1 + v)) with
    | false => rfl
    | true => have := only _ q; omega)
  rw [a, b]
  show 0 + ((0 + (if zPm F 0 s (s + 0) = true then 1 else 0)) + 0) = _
  rw [Nat.add_zero s, self]
  omega
theorem zc_s1 (hk : s.testBit k = false) : zc F (k + 1) s = zc F k s := by
  unfold zc
  refine ct_c (fun v _ => ?_)
  cases q : zPm F k s v with
  | true =>
    have h := zP_t.mp q
    exact zP_t.mpr ⟨h.1, h.2.1, fun i hi => h.2.2 i (by omega)⟩
  | false =>
    cases r : zPm F (k + 1) s v with
    | false => rfl
    | true =>
      have h := zP_t.mp r
      have : zPm F k s v = true := zP_t.mpr ⟨h.1, h.2.1, fun i hi => by
        by_cases e : i = k
        · rw [e, hk]
          cases w : v.testBit k with
          | false => rfl
          | true => rw [h.2.1 k w] at hk; cases hk
        · exact h.2.2 i (by omega)⟩
      rw [this] at q; cases q
theorem zc_s2 (hk : s.testBit k = true) : zc F (k + 1) s = zc F k s + zc F k (s ^^^ 2 ^ k) := by
  unfold zc
  rw [ct_add (zPm F (k + 1) s) (fun v => v.testBit k)]
  refine add_c ?_ ?_
  · refine ct_c (fun v _ => ?_)
    rw [Bool.eq_iff_iff, Bool.and_eq_true, zP_t, zP_t]
    constructor
    · rintro ⟨⟨a, b, c⟩, d⟩
      refine ⟨a, b, fun i hi => ?_⟩
      by_cases e : i = k
      · rw [e, d, hk]
      · exact c i (by omega)
    · rintro ⟨a, b, c⟩
      exact ⟨⟨a, b, fun i hi => c i (by omega)⟩, by rw [c k (Nat.le_refl _)]; exact hk⟩
  · refine ct_c (fun v _ => ?_)
    rw [Bool.eq_iff_iff, Bool.and_eq_true, zP_t, zP_t]
    constructor
    · rintro ⟨⟨a, b, c⟩, d⟩
      have d : v.testBit k = false := by simpa using d
      refine ⟨a, fun i q => ?_, fun i hi => ?_⟩
      · have ne : ¬ k = i := fun e => by rw [← e, d] at q; cases q
        rw [xb, decide_eq_false ne, Bool.xor_false]; exact b i q
      · by_cases e : k = i
        · rw [xb, ← e, d, hk, decide_eq_true rfl]; rfl
        · rw [xb, decide_eq_false e, Bool.xor_false]; exact c i (by omega)
    · rintro ⟨a, b, c⟩
      have d : v.testBit k = false := by rw [c k (Nat.le_refl _), xb, hk, decide_eq_true rfl]; rfl
      refine ⟨⟨a, fun i q => ?_, fun i hi => ?_⟩, by rw [d]; rfl⟩
      · have := b i q
        rw [xb] at this
        by_cases e : k = i
        · rw [← e]; exact hk
        · rw [decide_eq_false e, Bool.xor_false] at this; exact this
      · rw [c i (by omega), xb, decide_eq_false (show ¬ k = i by omega), Bool.xor_false]
/-- pairs in s whose join is as s below bit k -/
noncomputable def pP (F G : Nat → Bool) (k s : Nat) : Nat → Bool := by
  classical exact fun i => (F (i / 1024) && G (i % 1024)) && decide ((sb (i / 1024) s ∧ sb (i % 1024) s) ∧ ∀ j, j < k → (i / 1024 ||| i % 1024).testBit j = s.testBit j)
noncomputable def pc (F G : Nat → Bool) (k s : Nat) : Nat := ct (pP F G k s) (1024 * 1024)
theorem pP_t {i : Nat} : pP F G k s i = true ↔ (F (i / 1024) = true ∧ G (i % 1024) = true) ∧ (sb (i / 1024) s ∧ sb (i % 1024) s) ∧ ∀ j, j < k → (i / 1024 ||| i % 1024).testBit j = s.testBit j := by
  classical
  unfold pP
  rw [Bool.and_eq_true, Bool.and_eq_true, decide_eq_true_iff]
theorem pc_0 {n : Nat} (hs : s < 2 ^ n) : pc F G 0 s = zc F n s * zc G n s := by
  unfold pc zc
  rw [← ct_pair (zPm F n s) (zPm G n s) 1024 (by decide) 1024]
  refine ct_c (fun i _ => ?_)
  rw [Bool.eq_iff_iff, Bool.and_eq_true, pP_t, zP_t, zP_t]
  have hi : ∀ v, sb v s → ∀ j, n ≤ j → v.testBit j = s.testBit j := fun v h j hj => by rw [tb_lt hs hj, tb_lt (sb_lt h hs) hj]
  constructor
  · rintro ⟨⟨a, b⟩, ⟨c, d⟩, _⟩
    exact ⟨⟨a, c, hi _ c⟩, b, d, hi _ d⟩
  · rintro ⟨⟨a, c, _⟩, b, d, _⟩
    exact ⟨⟨a, b⟩, ⟨c, d⟩, fun j hj => absurd hj (by omega)⟩
theorem pc_s1 (hk : s.testBit k = false) : pc F G (k + 1) s = pc F G k s := by
  unfold pc
  refine ct_c (fun i _ => ?_)
  rw [Bool.eq_iff_iff, pP_t, pP_t]
  constructor
  · rintro ⟨a, b, c⟩
    exact ⟨a, b, fun j hj => c j (by omega)⟩
  · rintro ⟨a, b, c⟩
    refine ⟨a, b, fun j hj => ?_⟩
    by_cases e : j = k
    · rw [e, hk, Nat.testBit_or]
      have n1 : (i / 1024).testBit k = false := by
        cases w : (i / 1024).testBit k with
        | false => rfl
        | true => rw [b.1 k w] at hk; cases hk
      have n2 : (i % 1024).testBit k = false := by
        cases w : (i % 1024).testBit k with
        | false => rfl
        | true => rw [b.2 k w] at hk; cases hk
      rw [n1, n2]; rfl
    · exact c j (by omega)
theorem pc_s2 (hk : s.testBit k = true) : pc F G k s = pc F G (k + 1) s + pc F G k (s ^^^ 2 ^ k) := by
  unfold pc
  rw [ct_add (pP F G k s) (fun i => (i / 1024 ||| i % 1024).testBit k)]
  refine add_c ?_ ?_
  · refine ct_c (fun i _ => ?_)
    rw [Bool.eq_iff_iff, Bool.and_eq_true, pP_t, pP_t]
    constructor
    · rintro ⟨⟨a, b, c⟩, d⟩
      refine ⟨a, b, fun j hj => ?_⟩
      by_cases e : j = k
      · rw [e, d, hk]
      · exact c j (by omega)
    · rintro ⟨a, b, c⟩
      exact ⟨⟨a, b, fun j hj => c j (by omega)⟩, by rw [c k (by omega)]; exact hk⟩
  · refine ct_c (fun i _ => ?_)
    rw [Bool.eq_iff_iff, Bool.and_eq_true, pP_t, pP_t]
    have xs : ∀ v, v.testBit k = false → (sb v s ↔ sb v (s ^^^ 2 ^ k)) := fun v hv => by
      constructor
      · intro h j q
        have ne : ¬ k = j := fun e => by rw [← e, hv] at q; cases q
        rw [xb, decide_eq_false ne, Bool.xor_false]; exact h j q
      · intro h j q
        have := h j q
        rw [xb] at this
        by_cases e : k = j
        · rw [← e]; exact hk
        · rw [decide_eq_false e, Bool.xor_false] at this; exact this
    constructor
    · rintro ⟨⟨a, b, c⟩, d⟩
      have d : (i / 1024 ||| i % 1024).testBit k = false := by simpa using d
      rw [Nat.testBit_or, Bool.or_eq_false_iff] at d
      refine ⟨a, ⟨(xs _ d.1).mp b.1, (xs _ d.2).mp b.2⟩, fun j hj => ?_⟩
      rw [c j hj, xb, decide_eq_false (show ¬ k = j by omega), Bool.xor_false]
    · rintro ⟨a, b, c⟩
      have z : ∀ v, sb v (s ^^^ 2 ^ k) → v.testBit k = false := fun v h => by
        cases w : v.testBit k with
        | false => rfl
        | true =>
          have := h k w
          rw [xb, hk, decide_eq_true rfl] at this
          cases this
      have d1 := z _ b.1
      have d2 := z _ b.2
      refine ⟨⟨a, ⟨(xs _ d1).mpr b.1, (xs _ d2).mpr b.2⟩, fun j hj => ?_⟩, by rw [Nat.testBit_or, d1, d2]; rfl⟩
      rw [c j hj, xb, decide_eq_false (show ¬ k = j by omega), Bool.xor_false]
theorem pc_n {n : Nat} (hn : n ≤ 10) (hs : s < 2 ^ n) : ¬ pc F G n s = 0 ↔ ∃ a b, (a < 1024 ∧ F a = true) ∧ (b < 1024 ∧ G b = true) ∧ a ||| b = s := by
  unfold pc
  rw [ct_ex]
  constructor
  · rintro ⟨i, hi, h⟩
    obtain ⟨a, b, c⟩ := pP_t.mp h
    refine ⟨i / 1024, i % 1024, ⟨by omega, a.1⟩, ⟨by omega, a.2⟩, Nat.eq_of_testBit_eq (fun j => ?_)⟩
    by_cases e : j < n
    · exact c j e
    · rw [Nat.testBit_or, tb_lt hs (by omega), tb_lt (sb_lt b.1 hs) (by omega), tb_lt (sb_lt b.2 hs) (by omega)]; rfl
  · rintro ⟨a, b, ha, hb, e⟩
    have d1 : (1024 * a + b) / 1024 = a := by omega
    have d2 : (1024 * a + b) % 1024 = b := by omega
    refine ⟨1024 * a + b, by omega, pP_t.mpr ?_⟩
    rw [d1, d2]
    refine ⟨⟨ha.2, hb.2⟩, ⟨fun j q => ?_, fun j q => ?_⟩, fun j _ => by rw [e]⟩
    · rw [← e, Nat.testBit_or, q]; rfl
    · rw [← e, Nat.testBit_or, q, Bool.or_true]
end ZETA
end Zq13_22
section Zq13_23
/-! ===== the class's counts below and products ===== -/
/-- ints of the cells of I and longs of the rows of L alone may be other -/
def AG (I L : List Nat) (σ τ : zS) : Prop := (∀ a, a ∉ I → τ.1 a = σ.1 a) ∧ τ.2.2 = σ.2.2 ∧ ∀ a, a ∉ L → τ.2.1 a = σ.2.1 a
theorem AG.rf {I L : List Nat} {σ : zS} : AG I L σ σ := ⟨fun _ _ => rfl, rfl, fun _ _ => rfl⟩
theorem AG.tr {I L : List Nat} {σ τ υ : zS} (h : AG I L σ τ) (h2 : AG I L τ υ) : AG I L σ υ := ⟨fun a ha => (h2.1 a ha).trans (h.1 a ha), h2.2.1.trans h.2.1, fun a ha => (h2.2.2 a ha).trans (h.2.2 a ha)⟩
theorem AG.wk {I L I2 L2 : List Nat} {σ τ : zS} (h : AG I L σ τ) (hi : ∀ k ∈ I, k ∈ I2) (hl : ∀ k ∈ L, k ∈ L2) : AG I2 L2 σ τ := ⟨fun a ha => h.1 a (fun q => ha (hi a q)), h.2.1, fun a ha => h.2.2 a (fun q => ha (hl a q))⟩
theorem AG.u {I L : List Nat} {σ τ : zS} {k : Nat} {r : Nat → Int32} (h : AG I L σ τ) (hk : k ∈ I) : AG I L σ (zI τ k r) := ⟨fun a ha => (zI_n (fun e => ha (by rw [e]; exact hk))).trans (h.1 a ha), h.2.1, h.2.2⟩
theorem AG.R {I L : List Nat} {σ τ : zS} (h : AG I L σ τ) (hR : RF σ.2.2) : RF τ.2.2 := by rw [h.2.1]; exact hR
theorem LG.A {I L : List Nat} {σ τ : zS} (h : LG L σ τ) : AG I L σ τ := ⟨fun a _ => by rw [h.1], h.2.1, h.2.2⟩
theorem LF.A {I L : List Nat} {k : Nat} {σ τ : zS} (h : LF k σ τ) (hk : k ∈ L) : AG I L σ τ := (h.G hk).A
section PRD
variable {N f n : Nat} {σ : zS}
theorem nI_plus (a b : Nat) : nI a + nI b = nI (a + b) := by
  apply Int32.toBitVec_inj.mp
  rw [Int32.toBitVec_add]
  show BitVec.ofNat 32 a + BitVec.ofNat 32 b = BitVec.ofNat 32 (a + b)
  rw [BitVec.ofNat_add]
theorem nI_mul (a b : Nat) : nI a * nI b = nI (a * b) := by
  apply Int32.toBitVec_inj.mp
  rw [Int32.toBitVec_mul]
  show BitVec.ofNat 32 a * BitVec.ofNat 32 b = BitVec.ofNat 32 (a * b)
  rw [BitVec.ofNat_mul]
theorem nI_sub {a b c : Nat} (h : a = c + b) : nI a - nI b = nI c := by
  rw [h, ← nI_plus]
  exact Int32.add_sub_cancel _ _
theorem nI_z {a : Nat} (h : a < 2147483648) : nI a = 0 ↔ a = 0 := by
  constructor
  · intro q
    have q := congrArg Int32.toInt q
    rw [nI_toInt h] at q
    simp only [Int32.reduceToInt] at q
    omega
  · intro q; rw [q]; rfl
theorem sets10 : ∀ n, n < 11 → ((1 : Int32) <<< ((zmax 0 (zmin 10 (nI n))) &&& 31)) = nI (2 ^ n) := by decide +kernel
theorem shl10 : ∀ k, k < 10 → ((nI (2 ^ k)) <<< ((1 : Int32) &&& 31)) = nI (2 ^ (k + 1)) := by decide +kernel
theorem xsub : ∀ k, k < 10 → ∀ m, m < 1024 → m.testBit k = true → m ^^^ 2 ^ k = m - 2 ^ k ∧ 2 ^ k ≤ m := by decide +kernel
theorem p2le {n : Nat} (hn : n ≤ 10) : 2 ^ n ≤ 1024 ∧ 0 < 2 ^ n := ⟨Nat.le_trans (Nat.pow_le_pow_right (by decide) hn) (by decide : 2 ^ 10 ≤ 1024), Nat.pow_pos (by decide)⟩
theorem andk {m k : Nat} (hm : m < 1024) : (nI m &&& nI (2 ^ k)) = 0 ↔ m.testBit k = false := by
  rw [nI_and, nI_e0 (and_1024 hm)]
  constructor
  · intro h
    have := congrArg (fun b => Nat.testBit b k) h
    simpa [Nat.testBit_and, Nat.testBit_two_pow_self] using this
  · intro h
    apply Nat.eq_of_testBit_eq
    intro i
    rw [Nat.testBit_and, Nat.zero_testBit, Nat.testBit_two_pow]
    by_cases e : k = i
    · rw [← e, h]; rfl
    · rw [decide_eq_false e, Bool.and_false]
theorem v_setsOf (hn : n ≤ 10) : f_X0_setsOf N (nI n) σ = some (nI (2 ^ n), σ) := by
  rw [f_X0_setsOf.eq_1, sets10 n (by omega)]
theorem zc_le {F : Nat → Bool} {k s : Nat} : zc F k s ≤ 1024 := ct_le _ _
theorem pc_le {F G : Nat → Bool} {k s : Nat} : pc F G k s ≤ 1048576 := ct_le _ _
theorem pow_inj {n k : Nat} (h : 2 ^ n ≤ 2 ^ k) : n ≤ k := (Nat.pow_le_pow_iff_right (by decide)).mp h
/-- counts below, the upper loops -/
theorem v_cb43 {x2 : Nat} {F : Nat → Bool} {τ0 : zS} (hn : n ≤ 10) (h0 : AG [x2] [] σ τ0) (hu0 : ∀ s, s < 2 ^ n → τ0.1 x2 s = nI (zc F 0 s)) : Pt (zlp (F_X0_countBelow_43 N x2 (nI (2 ^ n))) N (1, τ0)) (fun r => AG [x2] [] σ r.2 ∧ ∀ s, s < 2 ^ n → r.2.1 x2 s = nI (zc F n s)) := by
  have pn := p2le hn
  refine pt_lp (fun t : Int32 × zS => ∃ k, (t.1 = nI (2 ^ k) ∧ k ≤ n) ∧ AG [x2] [] σ t.2 ∧ ∀ s, s < 2 ^ n → t.2.1 x2 s = nI (zc F k s)) (fun again t hI ih => ?_) N _ ⟨0, ⟨rfl, Nat.zero_le _⟩, h0, hu0⟩
  obtain ⟨x5, τ⟩ := t
  obtain ⟨k, ⟨e, hk⟩, hl, hu⟩ := hI
  have e : x5 = nI (2 ^ k) := e
  subst e
  have hl : AG [x2] [] σ τ := hl
  have hu : ∀ s, s < 2 ^ n → τ.1 x2 s = nI (zc F k s) := hu
  have pk := p2le (n := k) (by omega)
  rw [F_X0_countBelow_43.eq_1]
  refine pt_if (fun q => pt_some ⟨hl, ?_⟩) (fun q => ?_)
  · rw [nlt (by omega) (by omega)] at q
    have ek : k = n := by have := pow_inj q; omega
    subst ek
    exact hu
  · rw [nlt (by omega) (by omega)] at q
    have kn : k < n := by
      rcases Nat.lt_or_ge k n with h | h
      · exact h
      · exact absurd (Nat.pow_le_pow_right (n := 2) (by decide) h) q
    have ks : 2 ^ (k + 1) ≤ 2 ^ n := Nat.pow_le_pow_right (by decide) kn
    refine pt_lp (fun t : Int32 × zS => ∃ m, (t.1 = nI m ∧ 2 ^ k ≤ m ∧ m ≤ 2 ^ n) ∧ AG [x2] [] σ t.2 ∧ ∀ s, s < 2 ^ n → t.2.1 x2 s = nI (if s.testBit k = true ∧ s < m then zc F (k + 1) s else zc F k s)) (fun again5 t hI ih5 => ?_) N _ ⟨2 ^ k, ⟨rfl, Nat.le_refl _, by omega⟩, hl, fun s hs => ?_⟩
    · obtain ⟨x6, υ⟩ := t
      obtain ⟨m, ⟨e, m1, m2⟩, l2, u2⟩ := hI
      have e : x6 = nI m := e
      subst e
      have l2 : AG [x2] [] σ υ := l2
      have u2 : ∀ s, s < 2 ^ n → υ.1 x2 s = nI (if s.testBit k = true ∧ s < m then zc F (k + 1) s else zc F k s) := u2
      rw [F_X0_countBelow_54.eq_1]
      refine pt_if (fun q => ?_) (fun q => ?_)
      · rw [nlt (by omega) (by omega)] at q
        rw [shl10 k (by omega)]
        refine ih (nI (2 ^ (k + 1)), υ) ⟨k + 1, ⟨rfl, kn⟩, l2, fun s hs => ?_⟩
        show υ.1 x2 s = _
        rw [u2 s hs]
        cases b : s.testBit k with
        | true => rw [if_pos ⟨rfl, by omega⟩]
        | false => rw [if_neg (fun h => by cases h.1), zc_s1 b]
      · rw [nlt (by omega) (by omega)] at q
        have hm : m < 1024 := by omega
        refine pt_if (fun z => ?_) (fun z => ?_)
        · rw [andk hm] at z
          rw [nI_s1 (by omega)]
          refine ih5 (nI (m + 1), υ) ⟨m + 1, ⟨rfl, by omega, by omega⟩, l2, fun s hs => ?_⟩
          show υ.1 x2 s = _
          rw [u2 s hs]
          by_cases e : s = m
          · rw [e, if_neg (fun h => by rw [z] at h; cases h.1), if_neg (fun h => by rw [z] at h; cases h.1)]
          · by_cases g : s.testBit k = true ∧ s < m
            · rw [if_pos g, if_pos ⟨g.1, by omega⟩]
            · rw [if_neg g, if_neg (fun h => g ⟨h.1, by omega⟩)]
        · rw [andk hm, Bool.not_eq_false] at z
          obtain ⟨xs, xl⟩ := xsub k (by omega) m hm z
          rw [show nI m - nI (2 ^ k) = nI (m - 2 ^ k) from nI_sub (by omega)]
          refine pt_aI (pt_aI (pt_s14 ?_))
          rw [iN (by omega), iN (by omega), u2 m (by omega), u2 (m - 2 ^ k) (by omega), if_neg (fun h => absurd h.2 (by omega)), if_neg (fun h => by
            have h := h.1
            rw [← xs, xb, z, decide_eq_true rfl] at h
            cases h), ← xs, nI_plus, ← zc_s2 z, nI_s1 (by omega)]
          refine ih5 (nI (m + 1), _) ⟨m + 1, ⟨rfl, by omega, by omega⟩, l2.u (by simp), fun s hs => ?_⟩
          show (zI υ x2 _).1 x2 s = _
          rw [zI_s]
          by_cases e : s = m
          · rw [e, upd_s, if_pos ⟨z, by omega⟩]
          · rw [upd_n e, u2 s hs]
            by_cases g : s.testBit k = true ∧ s < m
            · rw [if_pos g, if_pos ⟨g.1, by omega⟩]
            · rw [if_neg g, if_neg (fun h => g ⟨h.1, by omega⟩)]
    · show τ.1 x2 s = _
      rw [hu s hs, if_neg (fun h => by
        have a := h.1
        rw [tb_lt h.2 (Nat.le_refl _)] at a
        cases a)]
theorem v_countBelow {x0 x2 : Nat} (hR : RF σ.2.2) (h0 : (zKd f).1 = 2) (hn : n ≤ 10) : Pt (f_X0_countBelow N x0 f x2 (nI n) σ) (fun r => AG [x2] [] σ r.2 ∧ ∀ s, s < 2 ^ n → r.2.1 x2 s = nI (zc (bt (σ.2.1 (f + 1))) n s)) := by
  have pn := p2le hn
  rw [f_X0_countBelow.eq_1, v_setsOf hn]
  show Pt (zlp (F_X0_countBelow_9 N f x2 (nI (2 ^ n))) N (0, σ)) _
  refine pt_lp (fun t : Int32 × zS => ∃ m, (t.1 = nI m ∧ m ≤ 2 ^ n) ∧ AG [x2] [] σ t.2 ∧ ∀ s, s < m → t.2.1 x2 s = nI (zc (bt (σ.2.1 (f + 1))) 0 s)) (fun again t hI ih => ?_) N _ ⟨0, ⟨rfl, Nat.zero_le _⟩, AG.rf, fun s hs => absurd hs (Nat.not_lt_zero _)⟩
  obtain ⟨x5, τ⟩ := t
  obtain ⟨m, ⟨e, hm⟩, hl, hu⟩ := hI
  have e : x5 = nI m := e
  subst e
  have hl : AG [x2] [] σ τ := hl
  have hu : ∀ s, s < m → τ.1 x2 s = nI (zc (bt (σ.2.1 (f + 1))) 0 s) := hu
  rw [F_X0_countBelow_9.eq_1]
  refine pt_if (fun q => ?_) (fun q => ?_)
  · rw [nlt (by omega) (by omega)] at q
    exact v_cb43 hn hl (fun s hs => hu s (by omega))
  · rw [nlt (by omega) (by omega)] at q
    have hx : τ.2.1 (f + 1) = σ.2.1 (f + 1) := hl.2.2 _ (by simp)
    refine pt_gC (pt_zbq (v_holds (s := m) (hl.R hR) h0 (by omega)) (fun v hv => ?_))
    rw [hx] at hv
    have go : ∀ w : Int32, w = nI (if bt (σ.2.1 (f + 1)) m = true then 1 else 0) → Pt (zl (sI 14 x2 (nI m) w τ) fun σ8 => again (nI m + 1, σ8)) (fun r => AG [x2] [] σ r.2 ∧ ∀ s, s < 2 ^ n → r.2.1 x2 s = nI (zc (bt (σ.2.1 (f + 1))) n s)) := fun w hw => by
      refine pt_s14 ?_
      rw [iN (by omega), nI_s1 (by omega)]
      refine ih (nI (m + 1), _) ⟨m + 1, ⟨rfl, by omega⟩, hl.u (by simp), fun s hs => ?_⟩
      show (zI τ x2 _).1 x2 s = _
      rw [zI_s]
      by_cases e : s = m
      · rw [e, upd_s, hw, zc_0 (by omega)]
      · rw [upd_n e, hu s (by omega)]
    refine pt_if (fun z => go 0 ?_) (fun z => go 1 ?_)
    · rw [if_neg (fun h => by rw [hv.2.mpr h] at z; exact absurd z (by decide))]; rfl
    · have : v = 1 := hv.1.resolve_left z
      rw [if_pos (hv.2.mp this)]; rfl
/-- the products' last loop: what has a pair comes in -/
theorem v_mu130 {F G : Nat → Bool} {τ0 : zS} (hR : RF σ.2.2) (hF : isF f) (hn : n ≤ 10) (h0 : AG [106, 107] [f + 1] σ τ0) (hu0 : ∀ s, s < 2 ^ n → τ0.1 106 s = nI (pc F G n s)) (hc : ∀ u, u < 1024 → bt (τ0.2.1 (f + 1)) u = false) : Pt (zlp (F_X0_multiply_130 N 99 f (nI (2 ^ n))) N (0, τ0)) (fun r => AG [106, 107] [f + 1] σ r.2 ∧ ∀ u, u < 1024 → (bt (r.2.2.1 (f + 1)) u = true ↔ u < 2 ^ n ∧ ¬ pc F G n u = 0)) := by
  have pn := p2le hn
  refine pt_lp (fun t : Int32 × zS => ∃ m, (t.1 = nI m ∧ m ≤ 2 ^ n) ∧ AG [106, 107] [f + 1] σ t.2 ∧ (∀ s, s < 2 ^ n → t.2.1 106 s = nI (pc F G n s)) ∧ ∀ u, u < 1024 → (bt (t.2.2.1 (f + 1)) u = true ↔ u < m ∧ ¬ pc F G n u = 0)) (fun again t hI ih => ?_) N _ ⟨0, ⟨rfl, Nat.zero_le _⟩, h0, hu0, fun u hu => ?_⟩
  · obtain ⟨x5, τ⟩ := t
    obtain ⟨m, ⟨e, hm⟩, hl, hp, hu⟩ := hI
    have e : x5 = nI m := e
    subst e
    have hl : AG [106, 107] [f + 1] σ τ := hl
    have hp : ∀ s, s < 2 ^ n → τ.1 106 s = nI (pc F G n s) := hp
    have hu : ∀ u, u < 1024 → (bt (τ.2.1 (f + 1)) u = true ↔ u < m ∧ ¬ pc F G n u = 0) := hu
    have R9 := hl.R hR
    rw [F_X0_multiply_130.eq_1]
    refine pt_if (fun q => pt_some ⟨hl, ?_⟩) (fun q => ?_)
    · rw [nlt (by omega) (by omega)] at q
      have em : m = 2 ^ n := by omega
      subst em
      exact hu
    · rw [nlt (by omega) (by omega)] at q
      refine pt_gR (v := 106) (R9 99 3 rfl) (pt_aI ?_)
      rw [iN (by omega), hp m (by omega)]
      refine pt_if (fun z => ?_) (fun z => ?_)
      · rw [nI_z (Nat.lt_of_le_of_lt pc_le (by decide))] at z
        rw [nI_s1 (by omega)]
        refine ih (nI (m + 1), τ) ⟨m + 1, ⟨rfl, by omega⟩, hl, hp, fun u h => ?_⟩
        show bt (τ.2.1 (f + 1)) u = true ↔ _
        rw [hu u h]
        constructor
        · rintro ⟨a, b⟩; exact ⟨by omega, b⟩
        · rintro ⟨a, b⟩
          have ne : ¬ u = m := fun e => by rw [e] at b; exact b z
          exact ⟨by omega, b⟩
      · rw [nI_z (Nat.lt_of_le_of_lt pc_le (by decide))] at z
        refine pt_gC (pt_zb (v_include (s := m) R9 hF.1 (by omega)) (fun _ σ1 h1 => ?_))
        obtain ⟨l1, u1⟩ := h1
        have l1 : LF (f + 1) τ σ1 := l1
        have u1 : ∀ u, u < 1024 → bt (σ1.2.1 (f + 1)) u = (bt (τ.2.1 (f + 1)) u || decide (u = m)) := u1
        rw [nI_s1 (by omega)]
        refine ih (nI (m + 1), σ1) ⟨m + 1, ⟨rfl, by omega⟩, hl.tr (l1.A (by simp)), fun s hs => ?_, fun u h => ?_⟩
        · show σ1.1 106 s = _
          rw [l1.1]; exact hp s hs
        · show bt (σ1.2.1 (f + 1)) u = true ↔ _
          rw [u1 u h, Bool.or_eq_true, hu u h, decide_eq_true_iff]
          constructor
          · rintro (⟨a, b⟩ | a)
            · exact ⟨by omega, b⟩
            · rw [a]; exact ⟨by omega, z⟩
          · rintro ⟨a, b⟩
            by_cases e : u = m
            · exact Or.inr e
            · exact Or.inl ⟨by omega, b⟩
  · show bt (τ0.2.1 (f + 1)) u = true ↔ _
    rw [hc u hu]
    exact ⟨fun h => (by cases h), fun h => absurd h.1 (Nat.not_lt_zero _)⟩
/-- the products' counts of pairs -/
theorem v_mu62 {F G : Nat → Bool} {τ0 : zS} (hR : RF σ.2.2) (hF : isF f) (hn : n ≤ 10) (h0 : AG [106, 107] [f + 1] σ τ0) (hu0 : ∀ s, s < 2 ^ n → τ0.1 106 s = nI (pc F G 0 s)) : Pt (zlp (F_X0_multiply_62 N 99 f (nI (2 ^ n))) N (1, τ0)) (fun r => AG [106, 107] [f + 1] σ r.2 ∧ ∀ u, u < 1024 → (bt (r.2.2.1 (f + 1)) u = true ↔ u < 2 ^ n ∧ ¬ pc F G n u = 0)) := by
  have pn := p2le hn
  refine pt_lp (fun t : Int32 × zS => ∃ k, (t.1 = nI (2 ^ k) ∧ k ≤ n) ∧ AG [106, 107] [f + 1] σ t.2 ∧ ∀ s, s < 2 ^ n → t.2.1 106 s = nI (pc F G k s)) (fun again t hI ih => ?_) N _ ⟨0, ⟨rfl, Nat.zero_le _⟩, h0, hu0⟩
  obtain ⟨x5, τ⟩ := t
  obtain ⟨k, ⟨e, hk⟩, hl, hu⟩ := hI
  have e : x5 = nI (2 ^ k) := e
  subst e
  have hl : AG [106, 107] [f + 1] σ τ := hl
  have hu : ∀ s, s < 2 ^ n → τ.1 106 s = nI (pc F G k s) := hu
  have pk := p2le (n := k) (by omega)
  rw [F_X0_multiply_62.eq_1]
  refine pt_if (fun q => ?_) (fun q => ?_)
  · rw [nlt (by omega) (by omega)] at q
    have ek : k = n := by have := pow_inj q; omega
    subst ek
    refine pt_gC (pt_zb (v_clear (hl.R hR) hF.1) (fun _ σ1 h1 => ?_))
    obtain ⟨l1, u1⟩ := h1
    have l1 : LF (f + 1) τ σ1 := l1
    exact v_mu130 hR hF hn (hl.tr (l1.A (by simp))) (fun s hs => by rw [l1.1]; exact hu s hs) u1
  · rw [nlt (by omega) (by omega)] at q
    have kn : k < n := by
      rcases Nat.lt_or_ge k n with h | h
      · exact h
      · exact absurd (Nat.pow_le_pow_right (n := 2) (by decide) h) q
    have ks : 2 ^ (k + 1) ≤ 2 ^ n := Nat.pow_le_pow_right (by decide) kn
    refine pt_lp (fun t : Int32 × zS => ∃ m, (t.1 = nI m ∧ 2 ^ k ≤ m ∧ m ≤ 2 ^ n) ∧ AG [106, 107] [f + 1] σ t.2 ∧ ∀ s, s < 2 ^ n → t.2.1 106 s = nI (if s.testBit k = true ∧ s < m then pc F G (k + 1) s else pc F G k s)) (fun again5 t hI ih5 => ?_) N _ ⟨2 ^ k, ⟨rfl, Nat.le_refl _, by omega⟩, hl, fun s hs => ?_⟩
    · obtain ⟨x6, υ⟩ := t
      obtain ⟨m, ⟨e, m1, m2⟩, l2, u2⟩ := hI
      have e : x6 = nI m := e
      subst e
      have l2 : AG [106, 107] [f + 1] σ υ := l2
      have u2 : ∀ s, s < 2 ^ n → υ.1 106 s = nI (if s.testBit k = true ∧ s < m then pc F G (k + 1) s else pc F G k s) := u2
      have R9 := l2.R hR
      rw [F_X0_multiply_73.eq_1]
      refine pt_if (fun q => ?_) (fun q => ?_)
      · rw [nlt (by omega) (by omega)] at q
        rw [shl10 k (by omega)]
        refine ih (nI (2 ^ (k + 1)), υ) ⟨k + 1, ⟨rfl, kn⟩, l2, fun s hs => ?_⟩
        show υ.1 106 s = _
        rw [u2 s hs]
        cases b : s.testBit k with
        | true => rw [if_pos ⟨rfl, by omega⟩]
        | false => rw [if_neg (fun h => by cases h.1), pc_s1 b]
      · rw [nlt (by omega) (by omega)] at q
        have hm : m < 1024 := by omega
        refine pt_if (fun z => ?_) (fun z => ?_)
        · rw [andk hm] at z
          rw [nI_s1 (by omega)]
          refine ih5 (nI (m + 1), υ) ⟨m + 1, ⟨rfl, by omega, by omega⟩, l2, fun s hs => ?_⟩
          show υ.1 106 s = _
          rw [u2 s hs]
          by_cases e : s = m
          · rw [e, if_neg (fun h => by rw [z] at h; cases h.1), if_neg (fun h => by rw [z] at h; cases h.1)]
          · by_cases g : s.testBit k = true ∧ s < m
            · rw [if_pos g, if_pos ⟨g.1, by omega⟩]
            · rw [if_neg g, if_neg (fun h => g ⟨h.1, by omega⟩)]
        · rw [andk hm, Bool.not_eq_false] at z
          obtain ⟨xs, xl⟩ := xsub k (by omega) m hm z
          rw [show nI m - nI (2 ^ k) = nI (m - 2 ^ k) from nI_sub (by omega)]
          refine pt_gR (v := 106) (R9 99 3 rfl) (pt_aI (pt_gR (v := 106) (R9 99 3 rfl) (pt_aI (pt_s14 ?_))))
          rw [iN (by omega), iN (by omega), u2 m (by omega), u2 (m - 2 ^ k) (by omega), if_neg (fun h => absurd h.2 (by omega)), if_neg (fun h => by
            have h := h.1
            rw [← xs, xb, z, decide_eq_true rfl] at h
            cases h), ← xs, nI_sub (pc_s2 z), nI_s1 (by omega)]
          refine ih5 (nI (m + 1), _) ⟨m + 1, ⟨rfl, by omega, by omega⟩, l2.u (by simp), fun s hs => ?_⟩
          show (zI υ 106 _).1 106 s = _
          rw [zI_s]
          by_cases e : s = m
          · rw [e, upd_s, if_pos ⟨z, by omega⟩]
          · rw [upd_n e, u2 s hs]
            by_cases g : s.testBit k = true ∧ s < m
            · rw [if_pos g, if_pos ⟨g.1, by omega⟩]
            · rw [if_neg g, if_neg (fun h => g ⟨h.1, by omega⟩)]
    · show τ.1 106 s = _
      rw [hu s hs, if_neg (fun h => by
        have a := h.1
        rw [tb_lt h.2 (Nat.le_refl _)] at a
        cases a)]
/-- the joins of a member of the one with a member of the other -/
theorem v_multiply {g : Nat} (hR : RF σ.2.2) (hF : isF f) (hg : (zKd g).1 = 2) (hn : n ≤ 10) : Pt (f_X0_multiply N 99 f g (nI n) σ) (fun r => AG [106, 107] [f + 1] σ r.2 ∧ ∀ u, u < 1024 → (bt (r.2.2.1 (f + 1)) u = true ↔ u < 2 ^ n ∧ ∃ a b, (a < 1024 ∧ bt (σ.2.1 (f + 1)) a = true) ∧ (b < 1024 ∧ bt (σ.2.1 (g + 1)) b = true) ∧ a ||| b = u)) := by
  have pn := p2le hn
  rw [f_X0_multiply.eq_1]
  refine pt_gR (v := 106) (hR 99 3 rfl) (pt_gC (pt_zb (v_countBelow hR hF.1 hn) (fun _ σ1 h1 => ?_)))
  obtain ⟨l1, c1⟩ := h1
  have l1 : AG [106] [] σ σ1 := l1
  have c1 : ∀ s, s < 2 ^ n → σ1.1 106 s = nI (zc (bt (σ.2.1 (f + 1))) n s) := c1
  have R1 := l1.R hR
  refine pt_gR (v := 107) (R1 99 4 rfl) (pt_gC (pt_zb (v_countBelow R1 hg hn) (fun _ σ2 h2 => ?_)))
  obtain ⟨l2, c2⟩ := h2
  have l2 : AG [107] [] σ1 σ2 := l2
  have c2 : ∀ s, s < 2 ^ n → σ2.1 107 s = nI (zc (bt (σ1.2.1 (g + 1))) n s) := c2
  rw [l1.2.2 (g + 1) (by simp)] at c2
  have c1 : ∀ s, s < 2 ^ n → σ2.1 106 s = nI (zc (bt (σ.2.1 (f + 1))) n s) := fun s hs => by rw [l2.1 106 (by decide)]; exact c1 s hs
  have l3 : AG [106, 107] [f + 1] σ σ2 := (l1.wk (by simp) (by simp)).tr (l2.wk (by simp) (by simp))
  clear l1 l2
  rw [v_setsOf hn]
  show Pt (zlp (F_X0_multiply_29 N 99 f (nI (2 ^ n))) N (0, σ2)) _
  refine pt_w (Q := fun r => AG [106, 107] [f + 1] σ r.2 ∧ ∀ u, u < 1024 → (bt (r.2.2.1 (f + 1)) u = true ↔ u < 2 ^ n ∧ ¬ pc (bt (σ.2.1 (f + 1))) (bt (σ.2.1 (g + 1))) n u = 0)) ?_ (fun r h => ⟨h.1, fun u hu => ?_⟩)
  · refine pt_lp (fun t : Int32 × zS => ∃ m, (t.1 = nI m ∧ m ≤ 2 ^ n) ∧ AG [106, 107] [f + 1] σ t.2 ∧ (∀ s, s < 2 ^ n → t.2.1 107 s = nI (zc (bt (σ.2.1 (g + 1))) n s)) ∧ ∀ s, s < 2 ^ n → t.2.1 106 s = nI (if s < m then pc (bt (σ.2.1 (f + 1))) (bt (σ.2.1 (g + 1))) 0 s else zc (bt (σ.2.1 (f + 1))) n s)) (fun again t hI ih => ?_) N _ ⟨0, ⟨rfl, Nat.zero_le _⟩, l3, c2, fun s hs => ?_⟩
    · obtain ⟨x5, τ⟩ := t
      obtain ⟨m, ⟨e, hm⟩, hl, h7, h6⟩ := hI
      have e : x5 = nI m := e
      subst e
      have hl : AG [106, 107] [f + 1] σ τ := hl
      have h7 : ∀ s, s < 2 ^ n → τ.1 107 s = nI (zc (bt (σ.2.1 (g + 1))) n s) := h7
      have h6 : ∀ s, s < 2 ^ n → τ.1 106 s = nI (if s < m then pc (bt (σ.2.1 (f + 1))) (bt (σ.2.1 (g + 1))) 0 s else zc (bt (σ.2.1 (f + 1))) n s) := h6
      have R9 := hl.R hR
      rw [F_X0_multiply_29.eq_1]
      refine pt_if (fun q => ?_) (fun q => ?_)
      · rw [nlt (by omega) (by omega)] at q
        exact v_mu62 hR hF hn hl (fun s hs => by rw [h6 s hs, if_pos (by omega)])
      · rw [nlt (by omega) (by omega)] at q
        refine pt_gR (v := 106) (R9 99 3 rfl) (pt_aI (pt_gR (v := 107) (R9 99 4 rfl) (pt_aI (pt_s14 ?_))))
        rw [iN (by omega), h6 m (by omega), h7 m (by omega), if_neg (by omega), nI_mul, ← pc_0 (show m < 2 ^ n by omega), nI_s1 (by omega)]
        refine ih (nI (m + 1), _) ⟨m + 1, ⟨rfl, by omega⟩, hl.u (by simp), fun s hs => ?_, fun s hs => ?_⟩
        · show (zI τ 106 _).1 107 s = _
          rw [zI_n (by decide)]; exact h7 s hs
        · show (zI τ 106 _).1 106 s = _
          rw [zI_s]
          by_cases e : s = m
          · rw [e, upd_s, if_pos (by omega)]
          · rw [upd_n e, h6 s hs]
            by_cases q2 : s < m
            · rw [if_pos q2, if_pos (by omega)]
            · rw [if_neg q2, if_neg (by omega)]
    · show σ2.1 106 s = _
      rw [c1 s hs, if_neg (Nat.not_lt_zero _)]
  · rw [h.2 u hu]
    constructor
    · rintro ⟨a, b⟩; exact ⟨a, (pc_n hn a).mp b⟩
    · rintro ⟨a, b⟩; exact ⟨a, (pc_n hn a).mpr b⟩
/-- how many pairs lie apart -/
theorem v_disjointPairs {g : Nat} (hR : RF σ.2.2) (hf : (zKd f).1 = 2) (hg : (zKd g).1 = 2) (hn : n ≤ 10) : Pt (f_X0_disjointPairs N 99 f g (nI n) σ) (fun r => AG [107] [] σ r.2 ∧ ∃ S : Nat → Nat, S 0 = 0 ∧ (∀ m, m < 2 ^ n → S (m + 1) = S m + (if bt (σ.2.1 (f + 1)) m = true then zc (bt (σ.2.1 (g + 1))) n (2 ^ n - 1 - m) else 0)) ∧ r.1 = nI (S (2 ^ n))) := by
  have pn := p2le hn
  rw [f_X0_disjointPairs.eq_1]
  refine pt_gR (v := 107) (hR 99 4 rfl) (pt_gC (pt_zb (v_countBelow hR hg hn) (fun _ σ1 h1 => ?_)))
  obtain ⟨l1, c1⟩ := h1
  have l1 : AG [107] [] σ σ1 := l1
  have c1 : ∀ s, s < 2 ^ n → σ1.1 107 s = nI (zc (bt (σ.2.1 (g + 1))) n s) := c1
  have R1 := l1.R hR
  have ef : σ1.2.1 (f + 1) = σ.2.1 (f + 1) := l1.2.2 _ (by simp)
  rw [v_setsOf hn]
  show Pt (zlp (F_X0_disjointPairs_22 N 99 f (nI (2 ^ n))) N (0, 0, σ1)) _
  let S : Nat → Nat := fun m => Nat.rec 0 (fun i a => a + (if bt (σ.2.1 (f + 1)) i = true then zc (bt (σ.2.1 (g + 1))) n (2 ^ n - 1 - i) else 0)) m
  have S1 : ∀ m, S (m + 1) = S m + (if bt (σ.2.1 (f + 1)) m = true then zc (bt (σ.2.1 (g + 1))) n (2 ^ n - 1 - m) else 0) := fun _ => rfl
  refine pt_lp (fun t : Int32 × Int32 × zS => ∃ m, (t.2.1 = nI m ∧ m ≤ 2 ^ n) ∧ t.1 = nI (S m) ∧ t.2.2 = σ1) (fun again t hI ih => ?_) N _ ⟨0, ⟨rfl, Nat.zero_le _⟩, rfl, rfl⟩
  obtain ⟨x5, x6, τ⟩ := t
  obtain ⟨m, ⟨e, hm⟩, e5, et⟩ := hI
  have e : x6 = nI m := e
  have e5 : x5 = nI (S m) := e5
  have et : τ = σ1 := et
  subst e; subst e5; subst et
  rw [F_X0_disjointPairs_22.eq_1]
  refine pt_if (fun q => pt_some ⟨l1, S, rfl, fun m _ => S1 m, ?_⟩) (fun q => ?_)
  · rw [nlt (by omega) (by omega)] at q
    have em : m = 2 ^ n := by omega
    rw [em]
  · rw [nlt (by omega) (by omega)] at q
    refine pt_gC (pt_zbq (v_holds (s := m) R1 hf (by omega)) (fun v hv => ?_))
    rw [ef] at hv
    refine pt_if (fun z => ?_) (fun z => ?_)
    · rw [nI_s1 (by omega)]
      refine ih (nI (S m), nI (m + 1), _) ⟨m + 1, ⟨rfl, by omega⟩, ?_, rfl⟩
      show nI (S m) = nI (S (m + 1))
      rw [S1 m, if_neg (fun h => by rw [hv.2.mpr h] at z; exact absurd z (by decide)), Nat.add_zero]
    · refine pt_gR (v := 107) (R1 99 4 rfl) (pt_aI ?_)
      have i1 : nI (2 ^ n) - 1 = nI (2 ^ n - 1) := nI_sub (b := 1) (by omega)
      rw [i1, nI_sub (show 2 ^ n - 1 = (2 ^ n - 1 - m) + m by omega), iN (by omega), c1 _ (by omega), nI_plus, nI_s1 (by omega)]
      refine ih (_, nI (m + 1), _) ⟨m + 1, ⟨rfl, by omega⟩, ?_, rfl⟩
      show nI _ = nI (S (m + 1))
      rw [S1 m, if_pos (hv.2.mp (hv.1.resolve_left z))]
end PRD
end Zq13_23
section Zq13_24
/-! ===== the class's quotients; combine ===== -/
theorem LG.wk {L L2 : List Nat} {σ τ : zS} (h : LG L σ τ) (hl : ∀ k ∈ L, k ∈ L2) : LG L2 σ τ := ⟨h.1, h.2.1, fun a ha => h.2.2 a (fun q => ha (hl a q))⟩
section DIV
variable {N f g n : Nat} {σ : zS}
theorem one10 : ∀ k, k < 10 → ((1 : Int32) <<< (nI k &&& 31)) = nI (2 ^ k) := by decide +kernel
theorem v_namesUsed (hR : RF σ.2.2) (hG : isF g) (hn : n ≤ 10) : Pt (f_X0_namesUsed N 99 g (nI n) σ) (fun r => LG [103] σ r.2 ∧ ∃ w, r.1 = nI w ∧ w < 1024 ∧ ∀ i, i < n → (w.testBit i = true ↔ ∃ t, t < 1024 ∧ bt (σ.2.1 (g + 1)) t = true ∧ t.testBit i = true)) := by
  have hG2 := hG.2
  rw [f_X0_namesUsed.eq_1]
  refine pt_lp (fun s : Int32 × Int32 × zS => ∃ w m, (s.1 = nI w ∧ w < 2 ^ m) ∧ (s.2.1 = nI m ∧ m ≤ n) ∧ LG [103] σ s.2.2 ∧ ∀ i, i < m → (w.testBit i = true ↔ ∃ t, t < 1024 ∧ bt (σ.2.1 (g + 1)) t = true ∧ t.testBit i = true)) (fun again s hI ih => ?_) N _ ⟨0, 0, ⟨rfl, by decide⟩, ⟨rfl, Nat.zero_le _⟩, LG.rf, fun i hi => absurd hi (Nat.not_lt_zero _)⟩
  obtain ⟨x3, x4, τ⟩ := s
  obtain ⟨w, m, ⟨e3, hw⟩, ⟨e4, hm⟩, hl, hb⟩ := hI
  have e3 : x3 = nI w := e3
  have e4 : x4 = nI m := e4
  subst e3; subst e4
  have hl : LG [103] σ τ := hl
  have R9 := hl.R hR
  have pm := p2le (n := m) (by omega)
  rw [F_X0_namesUsed_5.eq_1]
  refine pt_if (fun q => pt_some ⟨hl, w, rfl, by omega, fun i hi => hb i ?_⟩) (fun q => ?_)
  · rw [nle hn (by omega)] at q; omega
  · rw [nle hn (by omega)] at q
    have eG : ∀ υ : zS, LG [103] σ υ → υ.2.1 (g + 1) = σ.2.1 (g + 1) := fun υ h => h.2.2 _ (by simp only [List.mem_cons, List.not_mem_nil, or_false]; omega)
    refine pt_gR (v := 102) (R9 99 1 rfl) (pt_gC (pt_zb (v_copyFrom R9 k100.2.1 hG.1) (fun _ σ1 h1 => ?_)))
    obtain ⟨l1, u1⟩ := h1
    have l1 : LF 103 τ σ1 := l1
    have u1 : ∀ u, u < 1024 → bt (σ1.2.1 103) u = bt (τ.2.1 (g + 1)) u := u1
    have R1 := l1.R R9
    refine pt_gR (v := 102) (R1 99 1 rfl) (pt_gC (pt_zb (v_keepWithout (k := m) R1 k100.2.1 (by omega)) (fun _ σ2 h2 => ?_)))
    obtain ⟨l2, u2⟩ := h2
    have l2 : LF 103 σ1 σ2 := l2
    have u2 : ∀ u, u < 1024 → bt (σ2.2.1 103) u = (bt (σ1.2.1 103) u && !u.testBit m) := u2
    have R2 := l2.R R1
    have L2 : LG [103] σ σ2 := (hl.tr (l1.G (by simp))).tr (l2.G (by simp))
    refine pt_gR (v := 102) (R2 99 1 rfl) (pt_gC (pt_zbq (v_sameAs R2 k100.2.1 hG.1) (fun v hv => ?_)))
    have hv2 : v = 1 ↔ ∀ u, u < 1024 → bt (σ2.2.1 103) u = bt (σ2.2.1 (g + 1)) u := hv.2
    have key : v = 1 ↔ ¬ ∃ t, t < 1024 ∧ bt (σ.2.1 (g + 1)) t = true ∧ t.testBit m = true := by
      rw [hv2]
      constructor
      · rintro h ⟨t, ht, a, b⟩
        have := h t ht
        rw [u2 t ht, u1 t ht, eG _ hl, eG _ L2, a, b] at this
        cases this
      · intro h u hu
        rw [u2 u hu, u1 u hu, eG _ hl, eG _ L2]
        cases a : bt (σ.2.1 (g + 1)) u with
        | false => rfl
        | true =>
          cases b : u.testBit m with
          | false => rfl
          | true => exact absurd ⟨u, hu, a, b⟩ h
    have p1 : 2 ^ (m + 1) = 2 ^ m + 2 ^ m := by rw [Nat.pow_succ]; omega
    refine pt_if (fun z => ?_) (fun z => ?_)
    · have nk : ∃ t, t < 1024 ∧ bt (σ.2.1 (g + 1)) t = true ∧ t.testBit m = true := by
        apply Classical.byContradiction
        intro h
        rw [key.mpr h] at z
        exact absurd z (by decide)
      rw [one10 m (by omega), nI_or, nI_s1 (by omega)]
      refine ih (nI (w ||| 2 ^ m), nI (m + 1), σ2) ⟨w ||| 2 ^ m, m + 1, ⟨rfl, Nat.or_lt_two_pow (by omega) (by omega)⟩, ⟨rfl, by omega⟩, L2, fun i hi => ?_⟩
      rw [Nat.testBit_or, Nat.testBit_two_pow]
      by_cases e : m = i
      · rw [decide_eq_true e, Bool.or_true, ← e]; exact ⟨fun _ => nk, fun _ => rfl⟩
      · rw [decide_eq_false e, Bool.or_false]; exact hb i (by omega)
    · have v1 : v = 1 := hv.1.resolve_left z
      rw [nI_s1 (by omega)]
      refine ih (nI w, nI (m + 1), σ2) ⟨w, m + 1, ⟨rfl, by omega⟩, ⟨rfl, by omega⟩, L2, fun i hi => ?_⟩
      by_cases e : i = m
      · rw [e, tb_lt hw (Nat.le_refl _)]
        exact ⟨fun h => (by cases h), fun h => absurd h (key.mp v1)⟩
      · exact hb i (by omega)
theorem v_allJoined {x0 s : Nat} (hR : RF σ.2.2) (hf : (zKd f).1 = 2) (hg : (zKd g).1 = 2) (hs : s < 1024) : Px (f_X0_allJoined N x0 f g (nI s) σ) σ (fun v => (v = 0 ∨ v = 1) ∧ (v = 1 ↔ ∀ t, t < 1024 → bt (σ.2.1 (g + 1)) t = true → bt (σ.2.1 (f + 1)) (s ||| t) = true)) := by
  rw [f_X0_allJoined.eq_1]
  refine pt_gC (pt_zbq (v_firstFrom (s := 0) hR hg (by omega)) (fun v0 h0 => ?_))
  refine pt_lp (fun t : Int32 × Int32 × zS => t.2.2 = σ ∧ ∃ c i, (fsQ (bt (σ.2.1 (g + 1))) c t.1 ∧ c ≤ 1024) ∧ (t.2.1 = nI i ∧ i ≤ c) ∧ ∀ t, t < c → bt (σ.2.1 (g + 1)) t = true → bt (σ.2.1 (f + 1)) (s ||| t) = true) (fun again t hI ih => ?_) N _ ⟨rfl, 0, 0, ⟨h0, by omega⟩, ⟨rfl, Nat.le_refl _⟩, fun t ht => absurd ht (Nat.not_lt_zero _)⟩
  obtain ⟨x4, x5, τ⟩ := t
  obtain ⟨et, c, i, ⟨hq, hc⟩, ⟨e5, hi⟩, ha⟩ := hI
  have et : τ = σ := et
  have e5 : x5 = nI i := e5
  have hq : fsQ (bt (σ.2.1 (g + 1))) c x4 := hq
  subst et; subst e5
  rw [F_X0_allJoined_10.eq_1]
  refine pt_if (fun q => pt_rZ ⟨rfl, Or.inr rfl, fun _ => ?_, fun _ => rfl⟩) (fun q => pt_if (fun q2 => pt_rZ ⟨rfl, Or.inr rfl, fun _ => ?_, fun _ => rfl⟩) (fun q2 => ?_))
  · have q : nI 1024 ≤ nI i := q
    rw [nlt (by omega) (by omega)] at q
    intro t ht
    exact ha t (by omega)
  · rcases hq with ⟨u, _, _, _, e⟩ | ⟨h, _⟩
    · rw [Int32.lt_iff_toInt_lt, e] at q2
      simp only [Int32.reduceToInt] at q2
      omega
    · intro t ht hb
      by_cases l : t < c
      · exact ha t l hb
      · rw [h t (by omega) ht] at hb; cases hb
  · have q : ¬ nI 1024 ≤ nI i := q
    rw [nlt (by omega) (by omega)] at q
    rcases hq with ⟨u, ⟨u1, u2⟩, u3, u4, e⟩ | ⟨_, h⟩
    · have e4 : x4 = nI u := Int32.toInt_inj.mp (by rw [e, nI_toInt (by omega)])
      subst e4
      rw [nI_or]
      refine pt_gC (pt_zbq (v_holds (s := s ||| u) hR hf (or_1024 hs u2)) (fun v hv => ?_))
      refine pt_if (fun z => pt_rZ ⟨rfl, Or.inl rfl, fun h => absurd (show (0 : Int32) = 1 from h) (by decide), fun h => ?_⟩) (fun z => ?_)
      · rw [hv.2.mpr (h u u2 u3)] at z
        exact absurd z (by decide)
      · have v1 : v = 1 := hv.1.resolve_left z
        rw [nI_s1 (by omega)]
        refine pt_gC (pt_zbq (v_firstFrom (s := u + 1) hR hg (by omega)) (fun v2 h2 => ?_))
        rw [nI_s1 (by omega)]
        refine ih (v2, nI (i + 1), _) ⟨rfl, u + 1, i + 1, ⟨h2, by omega⟩, ⟨rfl, by omega⟩, fun t ht hb => ?_⟩
        by_cases l : t < c
        · exact ha t l hb
        · by_cases eu : t = u
          · rw [eu]; exact hv.2.mp v1
          · rw [u4 t (by omega) (by omega)] at hb; cases hb
    · exact absurd (by rw [show x4 = _ from h]; decide) q2
/-- apart from every member, and joined with each in the other -/
def dvC (F G : Nat → Bool) (u : Nat) : Prop := ∀ t, t < 1024 → G t = true → u &&& t = 0 ∧ F (u ||| t) = true
theorem and_z {a b : Nat} : a &&& b = 0 ↔ ∀ i, ¬ (a.testBit i = true ∧ b.testBit i = true) := by
  constructor
  · rintro h i ⟨x, y⟩
    have := congrArg (fun c => Nat.testBit c i) h
    simp only [Nat.testBit_and, x, y, Nat.zero_testBit] at this
    cases this
  · intro h
    apply Nat.eq_of_testBit_eq
    intro i
    rw [Nat.testBit_and, Nat.zero_testBit]
    cases x : a.testBit i with
    | false => rfl
    | true =>
      cases y : b.testBit i with
      | false => rfl
      | true => exact absurd ⟨x, y⟩ (h i)
theorem v_divide (hR : RF σ.2.2) (hF : isF f) (hG : isF g) (hn : n ≤ 10) : Pt (f_X0_divide N 99 f g (nI n) σ) (fun r => LG [f + 1, 101, 103] σ r.2 ∧ ∀ u, u < 1024 → (bt (r.2.2.1 (f + 1)) u = true ↔ u < 2 ^ n ∧ (∃ t, t < 1024 ∧ bt (σ.2.1 (g + 1)) t = true) ∧ dvC (bt (σ.2.1 (f + 1))) (bt (σ.2.1 (g + 1))) u)) := by
  have hF2 := hF.2
  have hG2 := hG.2
  have pn := p2le hn
  have eF : ∀ υ : zS, LG [101, 103] σ υ → υ.2.1 (f + 1) = σ.2.1 (f + 1) := fun υ h => h.2.2 _ (by simp only [List.mem_cons, List.not_mem_nil, or_false]; omega)
  have eG : ∀ υ : zS, LG [101, 103] σ υ → υ.2.1 (g + 1) = σ.2.1 (g + 1) := fun υ h => h.2.2 _ (by simp only [List.mem_cons, List.not_mem_nil, or_false]; omega)
  have lst : ∀ υ χ : zS, LG [101, 103] σ υ → LF (f + 1) υ χ → LG [f + 1, 101, 103] σ χ := fun υ χ a b => (a.wk (by simp)).tr (b.G (by simp))
  rw [f_X0_divide.eq_1]
  refine pt_gR (v := 100) (hR 99 0 rfl) (pt_gC (pt_zb (v_clear hR k100.1) (fun _ σ1 h1 => ?_)))
  obtain ⟨l1, u1⟩ := h1
  have l1 : LF 101 σ σ1 := l1
  have u1 : ∀ u, u < 1024 → bt (σ1.2.1 101) u = false := u1
  have R1 := l1.R hR
  have L1 : LG [101, 103] σ σ1 := l1.G (by simp)
  refine pt_gC (pt_zbq (v_isEmpty R1 hG.1) (fun v hv => ?_))
  rw [eG _ L1] at hv
  refine pt_if (fun z => ?_) (fun z => ?_)
  · have ex : ∃ t, t < 1024 ∧ bt (σ.2.1 (g + 1)) t = true := by
      apply Classical.byContradiction
      intro h
      have : v = 1 := hv.2.mpr (fun u hu => by
        cases q : bt (σ.2.1 (g + 1)) u with
        | false => rfl
        | true => exact absurd ⟨u, hu, q⟩ h)
      rw [this] at z
      exact absurd z (by decide)
    refine pt_gC (pt_zb (v_namesUsed R1 hG hn) (fun x4 σ2 h2 => ?_))
    obtain ⟨l2, w, ew, hw, hb⟩ := h2
    have l2 : LG [103] σ1 σ2 := l2
    have ew : x4 = nI w := ew
    subst ew
    rw [eG _ L1] at hb
    have L2 : LG [101, 103] σ σ2 := L1.tr (l2.wk (by simp))
    rw [v_setsOf hn]
    show Pt (zlp (F_X0_divide_31 N 99 f g (nI w) (nI (2 ^ n))) N (0, σ2)) _
    have used : ∀ m, m < 2 ^ n → (m &&& w = 0 ↔ ∀ t, t < 1024 → bt (σ.2.1 (g + 1)) t = true → m &&& t = 0) := fun m hm => by
      rw [and_z]
      constructor
      · intro h t ht a
        rw [and_z]
        rintro i ⟨x, y⟩
        by_cases e : i < n
        · exact h i ⟨x, (hb i e).mpr ⟨t, ht, a, y⟩⟩
        · rw [tb_lt hm (by omega)] at x; cases x
      · rintro h i ⟨x, y⟩
        by_cases e : i < n
        · obtain ⟨t, ht, a, b⟩ := (hb i e).mp y
          exact and_z.mp (h t ht a) i ⟨x, b⟩
        · rw [tb_lt hm (by omega)] at x; cases x
    refine pt_lp (fun s : Int32 × zS => ∃ m, (s.1 = nI m ∧ m ≤ 2 ^ n) ∧ LG [101, 103] σ s.2 ∧ ∀ u, u < 1024 → (bt (s.2.2.1 101) u = true ↔ u < m ∧ dvC (bt (σ.2.1 (f + 1))) (bt (σ.2.1 (g + 1))) u)) (fun again s hI ih => ?_) N _ ⟨0, ⟨rfl, Nat.zero_le _⟩, L2, fun u hu => ?_⟩
    · obtain ⟨x6, τ⟩ := s
      obtain ⟨m, ⟨e, hm⟩, hl, hu⟩ := hI
      have e : x6 = nI m := e
      subst e
      have hl : LG [101, 103] σ τ := hl
      have hu : ∀ u, u < 1024 → (bt (τ.2.1 101) u = true ↔ u < m ∧ dvC (bt (σ.2.1 (f + 1))) (bt (σ.2.1 (g + 1))) u) := hu
      have R9 := hl.R hR
      rw [F_X0_divide_31.eq_1]
      refine pt_if (fun q => ?_) (fun q => ?_)
      · rw [nlt (by omega) (by omega)] at q
        refine pt_gR (v := 100) (R9 99 0 rfl) (pt_gC (pt_zb (v_copyFrom R9 hF.1 k100.1) (fun _ σ3 h3 => pt_some ?_)))
        obtain ⟨l3, u3⟩ := h3
        have l3 : LF (f + 1) τ σ3 := l3
        refine ⟨lst _ _ hl l3, fun u h => ?_⟩
        have u3 : bt (σ3.2.1 (f + 1)) u = bt (τ.2.1 101) u := u3 u h
        show bt (σ3.2.1 (f + 1)) u = true ↔ _
        rw [u3, hu u h]
        constructor
        · rintro ⟨a, b⟩; exact ⟨by omega, ex, b⟩
        · rintro ⟨a, _, b⟩; exact ⟨by omega, b⟩
      · rw [nlt (by omega) (by omega)] at q
        have nxt : ∀ υ : zS, LG [101, 103] σ υ → (∀ u, u < 1024 → (bt (υ.2.1 101) u = true ↔ u < m + 1 ∧ dvC (bt (σ.2.1 (f + 1))) (bt (σ.2.1 (g + 1))) u)) → Pt (again (nI (m + 1), υ)) (fun r => LG [f + 1, 101, 103] σ r.2 ∧ ∀ u, u < 1024 → (bt (r.2.2.1 (f + 1)) u = true ↔ u < 2 ^ n ∧ (∃ t, t < 1024 ∧ bt (σ.2.1 (g + 1)) t = true) ∧ dvC (bt (σ.2.1 (f + 1))) (bt (σ.2.1 (g + 1))) u)) := fun υ a b => ih (nI (m + 1), υ) ⟨m + 1, ⟨rfl, by omega⟩, a, b⟩
        have skip : ¬ dvC (bt (σ.2.1 (f + 1))) (bt (σ.2.1 (g + 1))) m → ∀ u, u < 1024 → (bt (τ.2.1 101) u = true ↔ u < m + 1 ∧ dvC (bt (σ.2.1 (f + 1))) (bt (σ.2.1 (g + 1))) u) := fun no u h => by
          rw [hu u h]
          constructor
          · rintro ⟨a, b⟩; exact ⟨by omega, b⟩
          · rintro ⟨a, b⟩
            have ne : ¬ u = m := fun e => no (by rw [← e]; exact b)
            exact ⟨by omega, b⟩
        rw [nI_s1 (by omega)]
        refine pt_if (fun z2 => ?_) (fun z2 => ?_)
        · rw [nI_and, nI_e0 (and_1024 (show m < 1024 by omega)), used m (by omega)] at z2
          refine pt_gC (pt_zbq (v_allJoined (s := m) R9 hF.1 hG.1 (by omega)) (fun v3 h3 => ?_))
          rw [eF _ hl, eG _ hl] at h3
          refine pt_if (fun z3 => nxt τ hl (skip (fun d => ?_))) (fun z3 => ?_)
          · rw [h3.2.mpr (fun t ht a => (d t ht a).2)] at z3
            exact absurd z3 (by decide)
          · have j1 := h3.2.mp (h3.1.resolve_left z3)
            refine pt_gR (v := 100) (R9 99 0 rfl) (pt_gC (pt_zb (v_include (s := m) R9 k100.1 (by omega)) (fun _ σ4 h4 => ?_)))
            obtain ⟨l4, u4⟩ := h4
            have l4 : LF 101 τ σ4 := l4
            have u4 : ∀ u, u < 1024 → bt (σ4.2.1 101) u = (bt (τ.2.1 101) u || decide (u = m)) := u4
            refine nxt σ4 (hl.tr (l4.G (by simp))) (fun u h => ?_)
            rw [u4 u h, Bool.or_eq_true, hu u h, decide_eq_true_iff]
            constructor
            · rintro (⟨a, b⟩ | a)
              · exact ⟨by omega, b⟩
              · rw [a]; exact ⟨by omega, fun t ht a => ⟨z2 t ht a, j1 t ht a⟩⟩
            · rintro ⟨a, b⟩
              by_cases e : u = m
              · exact Or.inr e
              · exact Or.inl ⟨by omega, b⟩
        · rw [nI_and, nI_e0 (and_1024 (show m < 1024 by omega)), used m (by omega)] at z2
          exact nxt τ hl (skip (fun d => z2 (fun t ht a => (d t ht a).1)))
    · show bt (σ2.2.1 101) u = true ↔ _
      rw [l2.2.2 101 (by decide), u1 u hu]
      exact ⟨fun h => (by cases h), fun h => absurd h.1 (Nat.not_lt_zero _)⟩
  · have none := hv.2.mp (hv.1.resolve_left z)
    refine pt_gR (v := 100) (R1 99 0 rfl) (pt_gC (pt_zb (v_copyFrom R1 hF.1 k100.1) (fun _ σ3 h3 => pt_some ?_)))
    obtain ⟨l3, u3⟩ := h3
    have l3 : LF (f + 1) σ1 σ3 := l3
    refine ⟨lst _ _ L1 l3, fun u h => ?_⟩
    have u3 : bt (σ3.2.1 (f + 1)) u = bt (σ1.2.1 101) u := u3 u h
    show bt (σ3.2.1 (f + 1)) u = true ↔ _
    rw [u3, u1 u h]
    constructor
    · intro q; cases q
    · rintro ⟨_, ⟨t, ht, a⟩, _⟩
      rw [none t ht] at a
      cases a
end DIV
end Zq13_24
section Zq13_25
/-! ===== the class's combine and reshape, as sets of sets ===== -/
/-- what two families give -/
def CS (w : Int32) (X Y : Nat → Bool) (n u : Nat) : Prop := if w = 3 then (∃ s t, (s < n ∧ X s = true) ∧ (t < n ∧ Y t = true) ∧ s ||| t = u) else if w = 5 then u < n ∧ X u = true ∧ ¬ ∃ s t, (s < n ∧ Y s = true) ∧ (t < n ∧ OV X Y n t) ∧ s ||| t = u else GS w X Y n u
/-- what a family turns to -/
def RS (w : Int32) (X : Nat → Bool) (n u : Nat) : Prop := if w = 2 then HT X n u ∧ ¬ ∃ t, t ≠ u ∧ HT X n t ∧ sb t u else TS w X n u
section SHP
variable {N f g n u : Nat} {σ : zS} {F G : Nat → Bool}
theorem bit_of {t u : Nat} (h : sb t u) (ne : t ≠ u) : ∃ i, t.testBit i = false ∧ u.testBit i = true := by
  apply Classical.byContradiction
  intro no
  refine ne (Nat.eq_of_testBit_eq (fun i => ?_))
  cases a : t.testBit i with
  | true => exact (h i a).symm
  | false =>
    cases b : u.testBit i with
    | false => rfl
    | true => exact absurd ⟨i, a, b⟩ no
/-- one that lies truly below -/
theorem least_iff (hF : inN F n) (hn : n ≤ 10) (hu : u < 2 ^ n) : upI (ovI F n) n u = true ↔ ∃ t, t < 2 ^ n ∧ t ≠ u ∧ F t = true ∧ sb t u := by
  rw [upI_iff]
  constructor
  · rintro ⟨v, a, _, c⟩
    obtain ⟨i, hi, vi, fv⟩ := ovI_iff.mp c
    have s1 : sb (v ^^^ 2 ^ i) v := fun j q => by
      rw [xb] at q
      by_cases e : i = j
      · rw [← e]; exact vi
      · rw [decide_eq_false e, Bool.xor_false] at q; exact q
    have s2 : sb (v ^^^ 2 ^ i) u := s1.tr a
    refine ⟨v ^^^ 2 ^ i, sb_lt s2 hu, fun e => ?_, fv, s2⟩
    have x1 : u.testBit i = true := a i vi
    rw [← e, xb, vi, decide_eq_true rfl] at x1
    cases x1
  · rintro ⟨t, ht, ne, ft, s⟩
    obtain ⟨i, ti, ui⟩ := bit_of s ne
    have hi : i < n := by
      rcases Nat.lt_or_ge i n with h | h
      · exact h
      · rw [tb_lt hu h] at ui; cases ui
    refine ⟨t ^^^ 2 ^ i, fun j q => ?_, fun j hj => ?_, ovI_iff.mpr ⟨i, hi, ?_, ?_⟩⟩
    · rw [xb] at q
      by_cases e : i = j
      · rw [← e]; exact ui
      · rw [decide_eq_false e, Bool.xor_false] at q; exact s j q
    · rw [tb_lt hu hj, tb_lt (x_lt ht hi) hj]
    · rw [xb, ti, decide_eq_true rfl]; rfl
    · rw [x_x]; exact ft
/-- one that lies truly above -/
theorem greatest_iff (hF : inN F n) (hn : n ≤ 10) (hu : u < 2 ^ n) : dnI (udI F n) n u = true ↔ ∃ t, t < 2 ^ n ∧ t ≠ u ∧ F t = true ∧ sb u t := by
  rw [dnI_iff]
  constructor
  · rintro ⟨v, a, b, c⟩
    obtain ⟨i, hi, vi, fv⟩ := udI_iff.mp c
    have hv : v < 2 ^ n := lt_tb (fun j hj => by rw [b j hj]; exact tb_lt hu hj)
    have s1 : sb v (v ^^^ 2 ^ i) := fun j q => by
      rw [xb]
      by_cases e : i = j
      · rw [← e, vi] at q; cases q
      · rw [decide_eq_false e, Bool.xor_false]; exact q
    refine ⟨v ^^^ 2 ^ i, x_lt hv hi, fun e => ?_, fv, a.tr s1⟩
    have x1 : (v ^^^ 2 ^ i).testBit i = true := by rw [xb, vi, decide_eq_true rfl]; rfl
    rw [e] at x1
    rw [a i x1] at vi
    cases vi
  · rintro ⟨t, ht, ne, ft, s⟩
    obtain ⟨i, ui, ti⟩ := bit_of s (fun e => ne e.symm)
    have hi : i < n := by
      rcases Nat.lt_or_ge i n with h | h
      · exact h
      · rw [tb_lt ht h] at ti; cases ti
    refine ⟨t ^^^ 2 ^ i, fun j q => ?_, fun j hj => ?_, udI_iff.mpr ⟨i, hi, ?_, ?_⟩⟩
    · rw [xb]
      by_cases e : i = j
      · rw [← e, ui] at q; cases q
      · rw [decide_eq_false e, Bool.xor_false]; exact s j q
    · rw [tb_lt hu hj, tb_lt (x_lt ht hi) hj]
    · rw [xb, ti, decide_eq_true rfl]; rfl
    · rw [x_x]; exact ft
/-- a member within, of a set's names that are left -/
theorem miss_iff (hF : inN F n) (hn : n ≤ 10) (hu : u < 2 ^ n) : upI F n (u ^^^ (2 ^ n - 1)) = true ↔ ∃ t, t < 2 ^ n ∧ F t = true ∧ u &&& t = 0 := by
  have pn := p2le hn
  have cb : ∀ i, (u ^^^ (2 ^ n - 1)).testBit i = (u.testBit i ^^ decide (i < n)) := fun i => by
    rw [Nat.testBit_xor, Nat.testBit_two_pow_sub_one]
  rw [upI_iff]
  constructor
  · rintro ⟨v, a, b, c⟩
    have hv : v < 2 ^ n := lt_tb (fun j hj => by rw [b j hj, cb, tb_lt hu hj, decide_eq_false (by omega)]; rfl)
    refine ⟨v, hv, c, and_z.mpr (fun i => ?_)⟩
    rintro ⟨x, y⟩
    have := a i y
    rw [cb, x] at this
    have hi : i < n := by
      rcases Nat.lt_or_ge i n with h | h
      · exact h
      · rw [tb_lt hu h] at x; cases x
    rw [decide_eq_true hi] at this
    cases this
  · rintro ⟨t, ht, ft, e⟩
    refine ⟨t, fun i y => ?_, fun j hj => ?_, ft⟩
    · have hi : i < n := by
        rcases Nat.lt_or_ge i n with h | h
        · exact h
        · rw [tb_lt ht h] at y; cases y
      rw [cb, decide_eq_true hi]
      cases x : u.testBit i with
      | false => rfl
      | true => exact absurd ⟨x, y⟩ (and_z.mp e i)
    · rw [cb, tb_lt hu hj, tb_lt ht hj, decide_eq_false (by omega)]; rfl
theorem upc {X Y : Nat → Bool} (h : ∀ u, u < 1024 → X u = Y u) : ∀ k, k ≤ 10 → ∀ u, u < 1024 → upI X k u = upI Y k u
  | 0, _, u, hu => h u hu
  | k + 1, hk, u, hu => by
    show (upI _ k u || (u.testBit k && upI _ k (u ^^^ 2 ^ k))) = (upI _ k u || (u.testBit k && upI _ k (u ^^^ 2 ^ k)))
    rw [upc h k (by omega) u hu, upc h k (by omega) _ (x_1024 hu (by omega))]
theorem bt_f {b : Bool} {p : Prop} (h : b = true ↔ p) : b = false ↔ ¬ p := by
  rw [← h]; cases b <;> simp
/-- the class turns a family as the reference does -/
theorem v_reshape {w : Int32} (hR : RF σ.2.2) (hF : isF f) (hn : n ≤ 10) (hI : inN (bt (σ.2.1 (f + 1))) n) : Pt (f_X0_reshape N 99 w f (nI n) σ) (fun r => LG [f + 1, 101, 103] σ r.2 ∧ ∀ u, u < 1024 → (bt (r.2.2.1 (f + 1)) u = true ↔ RS w (bt (σ.2.1 (f + 1))) (2 ^ n) u)) := by
  have pn := p2le hn
  have hF2 := hF.2
  have xl : ∀ u, u < 1024 → u ^^^ (2 ^ n - 1) < 1024 := fun u hu => Nat.xor_lt_two_pow (n := 10) hu (by omega)
  have least : ∀ {X : Nat → Bool}, inN X n → ∀ u, u < 1024 → ((X u && !upI (ovI X n) n u) = true ↔ TS 0 X (2 ^ n) u) := fun {X} hX u hu => by
    show _ ↔ u < 2 ^ n ∧ (if (0 : Int32) = 0 then X u = true ∧ ¬ ∃ t, t < 2 ^ n ∧ t ≠ u ∧ X t = true ∧ sb t u else _)
    rw [if_pos rfl, Bool.and_eq_true, Bool.not_eq_true']
    constructor
    · rintro ⟨a, b⟩
      have l := hX u hu a
      exact ⟨l, a, (bt_f (least_iff hX hn l)).mp b⟩
    · rintro ⟨l, a, b⟩
      exact ⟨a, (bt_f (least_iff hX hn l)).mpr b⟩
  rw [f_X0_reshape.eq_1]
  refine pt_if (fun w0 => ?_) (fun w0 => pt_if (fun w1 => ?_) (fun w1 => pt_if (fun w2 => ?_) (fun w2 => pt_if (fun w3 => ?_) (fun w3 => pt_if (fun w4 => ?_) (fun w4 => pt_if (fun w5 => ?_) (fun w5 => ?_))))))
  · subst w0
    refine pt_gC (pt_zb (v_keepLeast hR hF hn) (fun _ σ1 h1 => pt_some ⟨h1.1, fun u hu => ?_⟩))
    have h1 : bt (σ1.2.1 (f + 1)) u = _ := h1.2 u hu
    show bt (σ1.2.1 (f + 1)) u = true ↔ _
    rw [h1, least hI u hu]
    unfold RS
    rw [if_neg (by decide)]
  · subst w1
    refine pt_gC (pt_zb (v_keepGreatest hR hF hn) (fun _ σ1 h1 => pt_some ⟨h1.1, fun u hu => ?_⟩))
    have h1 : bt (σ1.2.1 (f + 1)) u = _ := h1.2 u hu
    show bt (σ1.2.1 (f + 1)) u = true ↔ _
    unfold RS TS
    rw [if_neg (by decide), if_neg (by decide), if_pos rfl, h1, Bool.and_eq_true, Bool.not_eq_true']
    constructor
    · rintro ⟨a, b⟩
      have l := hI u hu a
      exact ⟨l, a, (bt_f (greatest_iff hI hn l)).mp b⟩
    · rintro ⟨l, a, b⟩
      exact ⟨a, (bt_f (greatest_iff hI hn l)).mpr b⟩
  · subst w2
    refine pt_gC (pt_zb (v_becomeMissing hR hF.1 hn) (fun _ σ1 h1 => ?_))
    obtain ⟨l1, u1⟩ := h1
    have l1 : LF (f + 1) σ σ1 := l1
    have u1 : ∀ u, u < 1024 → bt (σ1.2.1 (f + 1)) u = upI (bt (σ.2.1 (f + 1))) n (u ^^^ (2 ^ n - 1)) := u1
    have R1 := l1.R hR
    refine pt_gC (pt_zb (v_complement R1 hF hn) (fun _ σ2 h2 => ?_))
    obtain ⟨l2, u2⟩ := h2
    have l2 : LG [f + 1, 101] σ1 σ2 := l2
    have u2 : ∀ u, u < 1024 → bt (σ2.2.1 (f + 1)) u = (decide (u < 2 ^ n) && !bt (σ1.2.1 (f + 1)) u) := u2
    have R2 := l2.R R1
    have ht : ∀ u, u < 1024 → (bt (σ2.2.1 (f + 1)) u = true ↔ HT (bt (σ.2.1 (f + 1))) (2 ^ n) u) := fun u hu => by
      rw [u2 u hu, u1 u hu, Bool.and_eq_true, decide_eq_true_iff, Bool.not_eq_true']
      constructor
      · rintro ⟨l, b⟩
        refine ⟨l, fun t ht ft z => ?_⟩
        exact (bt_f (miss_iff hI hn l)).mp b ⟨t, ht, ft, z⟩
      · rintro ⟨l, b⟩
        refine ⟨l, (bt_f (miss_iff hI hn l)).mpr ?_⟩
        rintro ⟨t, ht, ft, z⟩
        exact b t ht ft z
    have I2 : inN (bt (σ2.2.1 (f + 1))) n := fun u hu h => ((ht u hu).mp h).1
    refine pt_gC (pt_zb (v_keepLeast R2 hF hn) (fun _ σ3 h3 => pt_some ?_))
    obtain ⟨l3, u3⟩ := h3
    have l3 : LG [f + 1, 101, 103] σ2 σ3 := l3
    refine ⟨((l1.G (by simp)).tr (l2.wk (by simp))).tr l3, fun u hu => ?_⟩
    have u3 : bt (σ3.2.1 (f + 1)) u = _ := u3 u hu
    show bt (σ3.2.1 (f + 1)) u = true ↔ _
    rw [u3, least I2 u hu]
    unfold RS TS
    rw [if_pos rfl, if_pos rfl, ht u hu]
    constructor
    · rintro ⟨_, a, b⟩
      refine ⟨a, ?_⟩
      rintro ⟨t, ne, c, s⟩
      exact b ⟨t, c.1, ne, (ht t (by have := c.1; omega)).mpr c, s⟩
    · rintro ⟨a, b⟩
      refine ⟨a.1, a, ?_⟩
      rintro ⟨t, lt, ne, c, s⟩
      exact b ⟨t, ne, (ht t (by omega)).mp c, s⟩
  · subst w3
    refine pt_gC (pt_zb (v_complement hR hF hn) (fun _ σ1 h1 => pt_some ⟨h1.1.wk (by simp), fun u hu => ?_⟩))
    have h1 : bt (σ1.2.1 (f + 1)) u = _ := h1.2 u hu
    show bt (σ1.2.1 (f + 1)) u = true ↔ _
    unfold RS TS
    rw [if_neg (by decide), if_neg (by decide), if_neg (by decide), if_pos rfl, h1, Bool.and_eq_true, decide_eq_true_iff, Bool.not_eq_true']
  · subst w4
    refine pt_gC (pt_zb (v_raiseAll hR hF.1 hn) (fun _ σ1 h1 => pt_some ⟨h1.1.G (by simp), fun u hu => ?_⟩))
    have h1 : bt (σ1.2.1 (f + 1)) u = _ := h1.2 u hu
    show bt (σ1.2.1 (f + 1)) u = true ↔ _
    unfold RS TS
    rw [if_neg (by decide), if_neg (by decide), if_neg (by decide), if_neg (by decide), if_pos rfl, h1]
    constructor
    · intro h
      have l := up_in hI hu h
      refine ⟨l, ?_⟩
      obtain ⟨v, a, _, c⟩ := upI_iff.mp h
      by_cases e : v = u
      · rw [e] at c; exact Or.inl c
      · exact Or.inr ⟨v, sb_lt a l, e, c, a⟩
    · rintro ⟨l, h⟩
      refine ((up_iff hI hn hu).mpr ⟨?_, l⟩).1
      rcases h with h | ⟨t, _, _, c, a⟩
      · exact ⟨u, sb.rf, h⟩
      · exact ⟨t, a, c⟩
  · subst w5
    refine pt_gC (pt_zb (v_lowerAll hR hF.1 hn) (fun _ σ1 h1 => pt_some ⟨h1.1.G (by simp), fun u hu => ?_⟩))
    have h1 : bt (σ1.2.1 (f + 1)) u = _ := h1.2 u hu
    show bt (σ1.2.1 (f + 1)) u = true ↔ _
    unfold RS TS
    rw [if_neg (by decide), if_neg (by decide), if_neg (by decide), if_neg (by decide), if_neg (by decide), if_pos rfl, h1, dnI_iff]
    constructor
    · rintro ⟨v, a, b, c⟩
      have hv : v < 1024 := lt_tb (n := 10) (fun j hj => by rw [b j (by omega)]; exact tb_lt (n := 10) hu hj)
      have l := hI v hv c
      refine ⟨sb_lt a l, ?_⟩
      by_cases e : v = u
      · rw [e] at c; exact Or.inl c
      · exact Or.inr ⟨v, l, e, c, a⟩
    · rintro ⟨l, h⟩
      rcases h with h | ⟨t, lt, _, c, a⟩
      · exact ⟨u, sb.rf, fun _ _ => rfl, h⟩
      · exact ⟨t, a, fun j hj => by rw [tb_lt lt hj, tb_lt l hj], c⟩
  · refine pt_some ⟨LG.rf, fun u hu => ?_⟩
    show bt (σ.2.1 (f + 1)) u = true ↔ _
    unfold RS TS
    rw [if_neg w2, if_neg w0, if_neg w1, if_neg w3, if_neg w4, if_neg w5]
    exact ⟨fun h => ⟨hI u hu h, h⟩, fun h => h.2⟩
/-- the class gives of two families what the reference does -/
theorem v_combine {w : Int32} (hR : RF σ.2.2) (hF : isF f) (hG : isF g) (ne : f ≠ g) (hn : n ≤ 10) (hI : inN (bt (σ.2.1 (f + 1))) n) (hJ : inN (bt (σ.2.1 (g + 1))) n) : Pt (f_X0_combine N 99 w f g (nI n) σ) (fun r => AG [106, 107] [f + 1, 101, 103, 105] σ r.2 ∧ ∀ u, u < 1024 → (bt (r.2.2.1 (f + 1)) u = true ↔ CS w (bt (σ.2.1 (f + 1))) (bt (σ.2.1 (g + 1))) (2 ^ n) u)) := by
  have pn := p2le hn
  have hF2 := hF.2
  have hG2 := hG.2
  have dv : ∀ {X Y : Nat → Bool} {u : Nat}, inN Y n → ((∃ t, t < 1024 ∧ Y t = true) ∧ dvC X Y u ↔ OV X Y (2 ^ n) u) := fun {X Y u} hY => by
    constructor
    · rintro ⟨⟨t, ht, a⟩, b⟩
      exact ⟨⟨t, hY t ht a, a⟩, fun t ht => b t (by omega)⟩
    · rintro ⟨⟨t, ht, a⟩, b⟩
      exact ⟨⟨t, by omega, a⟩, fun t ht a => b t (hY t ht a) a⟩
  rw [f_X0_combine.eq_1]
  refine pt_if (fun w0 => ?_) (fun w0 => pt_if (fun w1 => ?_) (fun w1 => pt_if (fun w2 => ?_) (fun w2 => pt_if (fun w3 => ?_) (fun w3 => pt_if (fun w4 => ?_) (fun w4 => pt_if (fun w5 => ?_) (fun w5 => ?_))))))
  · subst w0
    refine pt_gC (pt_zb (v_join hR hF.1 hG.1) (fun _ σ1 h1 => pt_some ⟨h1.1.A (by simp), fun u hu => ?_⟩))
    have h1 : bt (σ1.2.1 (f + 1)) u = _ := h1.2 u hu
    show bt (σ1.2.1 (f + 1)) u = true ↔ _
    unfold CS GS
    rw [if_neg (by decide), if_neg (by decide), if_pos rfl, h1, Bool.or_eq_true]
    exact ⟨fun h => ⟨h.elim (hI u hu) (hJ u hu), h⟩, fun h => h.2⟩
  · subst w1
    refine pt_gC (pt_zb (v_takeAway hR hF.1 hG.1) (fun _ σ1 h1 => pt_some ⟨h1.1.A (by simp), fun u hu => ?_⟩))
    have h1 : bt (σ1.2.1 (f + 1)) u = _ := h1.2 u hu
    show bt (σ1.2.1 (f + 1)) u = true ↔ _
    unfold CS GS
    rw [if_neg (by decide), if_neg (by decide), if_neg (by decide), if_pos rfl, h1, Bool.and_eq_true, Bool.not_eq_true']
    exact ⟨fun h => ⟨hI u hu h.1, h⟩, fun h => h.2⟩
  · subst w2
    refine pt_gC (pt_zb (v_cutBy hR hF.1 hG.1) (fun _ σ1 h1 => pt_some ⟨h1.1.A (by simp), fun u hu => ?_⟩))
    have h1 : bt (σ1.2.1 (f + 1)) u = _ := h1.2 u hu
    show bt (σ1.2.1 (f + 1)) u = true ↔ _
    unfold CS GS
    rw [if_neg (by decide), if_neg (by decide), if_neg (by decide), if_neg (by decide), if_pos rfl, h1, Bool.and_eq_true]
    exact ⟨fun h => ⟨hI u hu h.1, h⟩, fun h => h.2⟩
  · subst w3
    refine pt_gC (pt_zb (v_multiply hR hF hG.1 hn) (fun _ σ1 h1 => pt_some ⟨h1.1.wk (by simp) (by simp), fun u hu => ?_⟩))
    have h1 : bt (σ1.2.1 (f + 1)) u = true ↔ _ := h1.2 u hu
    show bt (σ1.2.1 (f + 1)) u = true ↔ _
    unfold CS
    rw [if_pos rfl, h1]
    constructor
    · rintro ⟨_, a, b, ⟨a1, a2⟩, ⟨b1, b2⟩, e⟩
      exact ⟨a, b, ⟨hI a a1 a2, a2⟩, ⟨hJ b b1 b2, b2⟩, e⟩
    · rintro ⟨a, b, ⟨a1, a2⟩, ⟨b1, b2⟩, e⟩
      exact ⟨by rw [← e]; exact Nat.or_lt_two_pow a1 b1, a, b, ⟨by omega, a2⟩, ⟨by omega, b2⟩, e⟩
  · subst w4
    refine pt_gC (pt_zb (v_divide hR hF hG hn) (fun _ σ1 h1 => pt_some ⟨(h1.1.wk (by simp)).A, fun u hu => ?_⟩))
    have h1 : bt (σ1.2.1 (f + 1)) u = true ↔ _ := h1.2 u hu
    show bt (σ1.2.1 (f + 1)) u = true ↔ _
    rw [h1, dv hJ]
    unfold CS GS OV
    rw [if_neg (by decide), if_neg (by decide), if_neg (by decide), if_neg (by decide), if_neg (by decide), if_pos rfl]
  · subst w5
    refine pt_gR (v := 104) (hR 99 2 rfl) (pt_gC (pt_zb (v_copyFrom hR k100.2.2 hF.1) (fun _ σ1 h1 => ?_)))
    obtain ⟨l1, u1⟩ := h1
    have l1 : LF 105 σ σ1 := l1
    have u1 : ∀ u, u < 1024 → bt (σ1.2.1 105) u = bt (σ.2.1 (f + 1)) u := u1
    have R1 := l1.R hR
    refine pt_gC (pt_zb (v_divide R1 hF hG hn) (fun _ σ2 h2 => ?_))
    obtain ⟨l2, u2⟩ := h2
    have l2 : LG [f + 1, 101, 103] σ1 σ2 := l2
    have u2 : ∀ u, u < 1024 → (bt (σ2.2.1 (f + 1)) u = true ↔ u < 2 ^ n ∧ (∃ t, t < 1024 ∧ bt (σ1.2.1 (g + 1)) t = true) ∧ dvC (bt (σ1.2.1 (f + 1))) (bt (σ1.2.1 (g + 1))) u) := u2
    rw [l1.2.2 (f + 1) (by omega), l1.2.2 (g + 1) (by omega)] at u2
    have R2 := l2.R R1
    refine pt_gC (pt_zb (v_multiply R2 hF hG.1 hn) (fun _ σ3 h3 => ?_))
    obtain ⟨l3, u3⟩ := h3
    have l3 : AG [106, 107] [f + 1] σ2 σ3 := l3
    have u3 : ∀ u, u < 1024 → (bt (σ3.2.1 (f + 1)) u = true ↔ u < 2 ^ n ∧ ∃ a b, (a < 1024 ∧ bt (σ2.2.1 (f + 1)) a = true) ∧ (b < 1024 ∧ bt (σ2.2.1 (g + 1)) b = true) ∧ a ||| b = u) := u3
    rw [l2.2.2 (g + 1) (by simp only [List.mem_cons, List.not_mem_nil, or_false]; omega), l1.2.2 (g + 1) (by omega)] at u3
    have R3 := l3.R R2
    refine pt_gR (v := 104) (R3 99 2 rfl) (pt_gC (pt_zb (v_takeAway R3 k100.2.2 hF.1) (fun _ σ4 h4 => ?_)))
    obtain ⟨l4, u4⟩ := h4
    have l4 : LF 105 σ3 σ4 := l4
    have u4 : ∀ u, u < 1024 → bt (σ4.2.1 105) u = (bt (σ3.2.1 105) u && !bt (σ3.2.1 (f + 1)) u) := u4
    have R4 := l4.R R3
    refine pt_gR (v := 104) (R4 99 2 rfl) (pt_gC (pt_zb (v_copyFrom R4 hF.1 k100.2.2) (fun _ σ5 h5 => pt_some ?_)))
    obtain ⟨l5, u5⟩ := h5
    have l5 : LF (f + 1) σ4 σ5 := l5
    refine ⟨((((l1.A (by simp)).tr (l2.wk (by simp)).A).tr (l3.wk (by simp) (by simp))).tr (l4.A (by simp))).tr (l5.A (by simp)), fun u hu => ?_⟩
    have u5 : bt (σ5.2.1 (f + 1)) u = bt (σ4.2.1 105) u := u5 u hu
    have e105 : σ3.2.1 105 = σ1.2.1 105 := by
      rw [l3.2.2 105 (by simp only [List.mem_cons, List.not_mem_nil, or_false]; omega), l2.2.2 105 (by simp only [List.mem_cons, List.not_mem_nil, or_false]; omega)]
    show bt (σ5.2.1 (f + 1)) u = true ↔ _
    unfold CS
    rw [if_neg (by decide), if_pos rfl, u5, u4 u hu, e105, u1 u hu, Bool.and_eq_true, Bool.not_eq_true', bt_f (u3 u hu)]
    constructor
    · rintro ⟨a, b⟩
      have l := hI u hu a
      refine ⟨l, a, ?_⟩
      rintro ⟨s, t, ⟨s1, s2⟩, ⟨t1, t2⟩, e⟩
      exact b ⟨l, t, s, ⟨by omega, (u2 t (by omega)).mpr ⟨t1, (dv hJ).mpr t2⟩⟩, ⟨by omega, s2⟩, by rw [Nat.or_comm]; exact e⟩
    · rintro ⟨l, a, b⟩
      refine ⟨a, ?_⟩
      rintro ⟨_, t, s, ⟨t1, t2⟩, ⟨s1, s2⟩, e⟩
      have d := (u2 t t1).mp t2
      exact b ⟨s, t, ⟨hJ s s1 s2, s2⟩, ⟨d.1, (dv hJ).mp d.2⟩, by rw [Nat.or_comm]; exact e⟩
  · refine pt_gR (v := 100) (hR 99 0 rfl) (pt_gC (pt_zb (v_copyFrom hR k100.1 hG.1) (fun _ σ1 h1 => ?_)))
    obtain ⟨l1, u1⟩ := h1
    have l1 : LF 101 σ σ1 := l1
    have u1 : ∀ u, u < 1024 → bt (σ1.2.1 101) u = bt (σ.2.1 (g + 1)) u := u1
    have R1 := l1.R hR
    refine pt_gR (v := 100) (R1 99 0 rfl) (pt_gC (pt_zb (v_becomeMissing R1 k100.1 hn) (fun _ σ2 h2 => ?_)))
    obtain ⟨l2, u2⟩ := h2
    have l2 : LF 101 σ1 σ2 := l2
    have u2 : ∀ u, u < 1024 → bt (σ2.2.1 101) u = upI (bt (σ1.2.1 101)) n (u ^^^ (2 ^ n - 1)) := u2
    have R2 := l2.R R1
    refine pt_gR (v := 100) (R2 99 0 rfl) (pt_gC (pt_zb (v_takeAway R2 hF.1 k100.1) (fun _ σ3 h3 => pt_some ?_)))
    obtain ⟨l3, u3⟩ := h3
    have l3 : LF (f + 1) σ2 σ3 := l3
    refine ⟨((l1.A (by simp)).tr (l2.A (by simp))).tr (l3.A (by simp)), fun u hu => ?_⟩
    have u3 : bt (σ3.2.1 (f + 1)) u = (bt (σ2.2.1 (f + 1)) u && !bt (σ2.2.1 101) u) := u3 u hu
    have xl : u ^^^ (2 ^ n - 1) < 1024 := Nat.xor_lt_two_pow (n := 10) hu (by omega)
    show bt (σ3.2.1 (f + 1)) u = true ↔ _
    unfold CS GS
    rw [if_neg w3, if_neg w5, if_neg w0, if_neg w1, if_neg w2, if_neg w4, u3, l2.2.2 (f + 1) (by omega), l1.2.2 (f + 1) (by omega), u2 u hu, upc u1 n hn _ xl, Bool.and_eq_true, Bool.not_eq_true']
    constructor
    · rintro ⟨a, b⟩
      have l := hI u hu a
      refine ⟨l, a, fun t ht ft z => ?_⟩
      exact (bt_f (miss_iff hJ hn l)).mp b ⟨t, ht, ft, z⟩
    · rintro ⟨l, a, b⟩
      refine ⟨a, (bt_f (miss_iff hJ hn l)).mpr ?_⟩
      rintro ⟨t, ht, ft, z⟩
      exact b t ht ft z
/-- both depend on the sets below 1024 alone, and stay within the names -/
theorem CS_in {w : Int32} {X Y : Nat → Bool} (h : CS w X Y (2 ^ n) u) : u < 2 ^ n := by
  unfold CS at h
  by_cases w3 : w = 3
  · rw [if_pos w3] at h
    obtain ⟨s, t, a, b, e⟩ := h
    rw [← e]; exact Nat.or_lt_two_pow a.1 b.1
  · rw [if_neg w3] at h
    by_cases w5 : w = 5
    · rw [if_pos w5] at h; exact h.1
    · rw [if_neg w5] at h; exact h.1
theorem RS_in {w : Int32} {X : Nat → Bool} (h : RS w X (2 ^ n) u) : u < 2 ^ n := by
  unfold RS at h
  by_cases w2 : w = 2
  · rw [if_pos w2] at h; exact h.1.1
  · rw [if_neg w2] at h; exact h.1
end SHP
end Zq13_25
section Zq13_26
/-! ===== registers ===== -/
section REGS
variable {N B n : Nat} {σ τ : zS} {x1 x2 : Int32}
theorem pt_rZb {P : Int32 × zS → Prop} {v : Int32} (h : v = 0 ∨ v = 1 → P (v, σ)) : Pt (rZ v σ) P := fun a e => by
  obtain ⟨q, rfl⟩ := zguard e
  exact h q
/-- a register -/
def isR (m x : Int32) : Prop := 0 < m.toInt ∧ 0 ≤ x.toInt ∧ x.toInt < 10
theorem isR_n {m x : Int32} (h : isR m x) : ∃ k, k < 10 ∧ x = nI k := znI (m := 10) h.2.1 (by have := h.2.2; omega)
theorem isR_i {m : Int32} {p : Nat} (hm : 0 < m.toInt) (hp : p < 10) : isR m (nI p) := by
  unfold isR
  rw [nI_toInt (by omega)]
  exact ⟨hm, by omega, by omega⟩
theorem vl_isWorld (h4 : σ.2.2 0 4 = B) : Px (f_X11_isWorld N 0 σ) σ (fun v => (v = 0 → (σ.1 B 0).toInt ≤ 0) ∧ (¬ v = 0 → 0 < (σ.1 B 0).toInt)) := by
  rw [f_X11_isWorld.eq_1]
  refine pt_gR (v := B) h4 (pt_gI (pt_if (fun q => pt_rZ ⟨rfl, fun _ => ?_, fun z => absurd rfl z⟩) (fun q => pt_rZ ⟨rfl, fun z => absurd (show (1 : Int32) = 0 from z) (by decide), fun _ => ?_⟩)))
  · rw [Int32.le_iff_toInt_le] at q; simpa using q
  · rw [Int32.le_iff_toInt_le] at q; simp only [Int32.reduceToInt] at q; omega
theorem vl_isRegister (h4 : σ.2.2 0 4 = B) : Px (f_X11_isRegister N 0 x1 σ) σ (fun v => (v = 0 → ¬ isR (σ.1 B 0) x1) ∧ (¬ v = 0 → isR (σ.1 B 0) x1)) := by
  unfold isR
  rw [f_X11_isRegister.eq_1]
  refine pt_gC (pt_zbq (vl_isWorld h4) (fun v hv => ?_))
  refine pt_if (fun q => pt_rZ ⟨rfl, fun _ z => ?_, fun z => absurd rfl z⟩) (fun q => pt_if (fun q2 => pt_rZ ⟨rfl, fun _ => ?_, fun z => absurd rfl z⟩) (fun q2 => pt_if (fun q3 => pt_rZ ⟨rfl, fun _ => ?_, fun z => absurd rfl z⟩) (fun q3 => pt_rZ ⟨rfl, fun z => absurd (show (1 : Int32) = 0 from z) (by decide), fun _ => ?_⟩)))
  · have := hv.1 q; have := z.1; omega
  · rw [Int32.lt_iff_toInt_lt] at q2; simp only [Int32.reduceToInt] at q2; omega
  · rw [Int32.le_iff_toInt_le] at q3; simp only [Int32.reduceToInt] at q3; omega
  · rw [Int32.lt_iff_toInt_lt] at q2; rw [Int32.le_iff_toInt_le] at q3; simp only [Int32.reduceToInt] at q2 q3; have := hv.2 q; omega
theorem vr_isRegister (hR : RF σ.2.2) : Px (f_X12_isRegister N 218 x1 σ) σ (fun v => (v = 0 → ¬ isR (σ.1 219 0) x1) ∧ (¬ v = 0 → isR (σ.1 219 0) x1)) := by
  unfold isR
  rw [f_X12_isRegister.eq_1]
  refine pt_gC (pt_zbX (σ := σ) (Q := fun v => (v = 0 → (σ.1 219 0).toInt ≤ 0) ∧ (¬ v = 0 → 0 < (σ.1 219 0).toInt)) (pt_ok (x_X12_isWorld hR)) (fun v hv => ?_))
  refine pt_if (fun q => pt_rZ ⟨rfl, fun _ z => ?_, fun z => absurd rfl z⟩) (fun q => pt_zbq vr_in (fun w hw => ?_))
  · have := hv.1 q; have := z.1; omega
  · rw [i64_of] at hw
    simp only [Int64.reduceToInt] at hw
    refine pt_if (fun z => pt_rZ ⟨rfl, fun _ y => hw.1 z (by omega), fun y => absurd rfl y⟩) (fun z => pt_rZ ⟨rfl, fun y => absurd (show (1 : Int32) = 0 from y) (by decide), fun _ => ?_⟩)
    have := hw.2 z
    have := hv.2 q
    omega
theorem vr_areRegisters (hR : RF σ.2.2) : Px (f_X12_areRegisters N 218 x1 x2 σ) σ (fun v => (v = 0 → ¬ (isR (σ.1 219 0) x1 ∧ isR (σ.1 219 0) x2)) ∧ (¬ v = 0 → isR (σ.1 219 0) x1 ∧ isR (σ.1 219 0) x2)) := by
  rw [f_X12_areRegisters.eq_1]
  refine pt_gC (pt_zbq (vr_isRegister hR) (fun v hv => pt_if (fun q => pt_rZ ⟨rfl, fun _ z => hv.1 q z.1, fun z => absurd rfl z⟩) (fun q => pt_gC (pt_zbq (vr_isRegister hR) (fun w hw => pt_if (fun z => pt_rZ ⟨rfl, fun _ y => hw.1 z y.2, fun y => absurd rfl y⟩) (fun z => pt_rZ ⟨rfl, fun y => absurd (show (1 : Int32) = 0 from y) (by decide), fun _ => ⟨hv.2 q, hw.2 z⟩⟩))))))
/-- how many sets there are -/
def mn (v : Int32) : Nat := if 0 < v.toInt then 2 ^ v.toInt.toNat else 0
theorem mn_p {v : Int32} (h : 0 < v.toInt) : mn v = 2 ^ v.toInt.toNat := if_pos h
theorem mn_le {v : Int32} (h : v.toInt ≤ 10) : mn v ≤ 1024 := by
  unfold mn
  split
  · exact (p2le (by omega)).1
  · omega
theorem mn_0 {v : Int32} (h : v.toInt ≤ 0) : mn v = 0 := if_neg (by omega)
theorem vr_mn (hR : RF σ.2.2) (hn : 0 ≤ (σ.1 219 0).toInt ∧ (σ.1 219 0).toInt ≤ 10) : Px (f_X12_many N 218 σ) σ (fun v => v = nI (mn (σ.1 219 0))) := by
  refine pt_w (vr_many hR) (fun r h => ⟨h.1, ?_⟩)
  rw [h.2]
  have b := mn_le hn.2
  apply Int32.toInt_inj.mp
  rw [nI_toInt (by omega)]
  by_cases q : 0 < (σ.1 219 0).toInt
  · rw [if_pos q, mn_p q]; exact ti_one hn.1 (by omega)
  · rw [if_neg q, mn_0 (by omega)]; rfl
theorem isS_n {m x : Int32} (hm : m.toInt ≤ 10) (h : isS m x) : ∃ s, x = nI s ∧ s < mn m := by
  obtain ⟨h1, h2, h3⟩ := h
  rw [ti_one (by omega) (by omega)] at h3
  obtain ⟨s, hs, rfl⟩ := znI (m := 2 ^ m.toInt.toNat) h2 h3
  exact ⟨s, rfl, by rw [mn_p h1]; exact hs⟩
theorem ct_t {p : Nat → Bool} {m : Nat} (h : p m = true) : ct p (m + 1) = ct p m + 1 := by
  show ct p m + _ = _
  rw [h, if_pos rfl]
theorem ct_f {p : Nat → Bool} {m : Nat} (h : p m = false) : ct p (m + 1) = ct p m := by
  show ct p m + _ = _
  rw [h]; rfl
theorem vb_f {v : Int32} {b : Bool} (h : (v = 0 ∨ v = 1) ∧ (v = 1 ↔ b = true)) (z : v = 0) : b = false := by
  refine Bool.eq_false_iff.mpr (fun q => ?_)
  have := h.2.mpr q
  rw [this] at z; exact absurd z (by decide)
theorem vb_t {v : Int32} {b : Bool} (h : (v = 0 ∨ v = 1) ∧ (v = 1 ↔ b = true)) (z : ¬ v = 0) : b = true := h.2.mp (h.1.resolve_left z)
theorem vr_of {p s : Nat} (hR : RF σ.2.2) (hp : p < 10) (hs : s < 1024) : Px (f_X12_of N 218 (nI p) (nI s) σ) σ (fun v => (v = 0 ∨ v = 1) ∧ (v = 1 ↔ rb (σ.1 220) (1024 * p) s = true)) := by
  rw [f_X12_of.eq_1]
  have e : ((1024 : Int32) * nI p + nI s).toInt.toNat = 1024 * p + s := by
    rw [show (1024 : Int32) = nI 1024 from rfl, nI_mul, nI_plus, nI_toInt (by omega)]; omega
  refine pt_gR (v := 220) (hR 218 2 rfl) (pt_aI ?_)
  rw [e]
  refine pt_rZb (fun q => ⟨rfl, q, ?_⟩)
  rw [rb_t]
  exact ⟨fun z y => absurd (z.symm.trans y) (by decide), fun z => q.resolve_left z⟩
theorem vr_sizeOf {p : Nat} (hR : RF σ.2.2) (hn : 0 ≤ (σ.1 219 0).toInt ∧ (σ.1 219 0).toInt ≤ 10) (hp : p < 10) : Px (f_X12_sizeOf N 218 (nI p) σ) σ (fun v => v = nI (ct (rb (σ.1 220) (1024 * p)) (mn (σ.1 219 0)))) := by
  have b := mn_le hn.2
  rw [f_X12_sizeOf.eq_1]
  refine pt_lp (fun x : Int32 × Int32 × zS => x.2.2 = σ ∧ ∃ m, (x.2.1 = nI m ∧ m ≤ mn (σ.1 219 0)) ∧ x.1 = nI (ct (rb (σ.1 220) (1024 * p)) m)) (fun again x hI ih => ?_) N _ ⟨rfl, 0, ⟨rfl, Nat.zero_le _⟩, rfl⟩
  obtain ⟨x2, x3, τ⟩ := x
  obtain ⟨e, m, ⟨e3, hm⟩, e2⟩ := hI
  have e : τ = σ := e
  have e3 : x3 = nI m := e3
  have e2 : x2 = nI (ct (rb (σ.1 220) (1024 * p)) m) := e2
  subst e
  subst e3
  subst e2
  rw [F_X12_sizeOf_4.eq_1]
  refine pt_gC (pt_zbq (vr_mn hR hn) (fun v hv => ?_))
  subst hv
  refine pt_if (fun q => pt_some ⟨rfl, ?_⟩) (fun q => ?_)
  · rw [nlt (by omega) (by omega)] at q
    show nI (ct _ m) = _
    rw [show m = mn (τ.1 219 0) by omega]
  · rw [nlt (by omega) (by omega)] at q
    refine pt_gC (pt_zbq (vr_of hR hp (by omega)) (fun w hw => pt_if (fun z => ?_) (fun z => ?_)))
    · rw [nI_s1 (by omega), Int32.add_zero]
      exact ih (_, nI (m + 1), τ) ⟨rfl, m + 1, ⟨rfl, by omega⟩, by rw [ct_f (vb_f hw z)]⟩
    · have := ct_le (rb (τ.1 220) (1024 * p)) m
      rw [nI_s1 (by omega), nI_s1 (by omega)]
      exact ih (_, nI (m + 1), τ) ⟨rfl, m + 1, ⟨rfl, by omega⟩, by rw [ct_t (vb_t hw z)]⟩
theorem ct_at {p : Nat → Bool} : ∀ {M i : Nat}, i < ct p M → ∃ u, u < M ∧ p u = true ∧ ct p u = i
  | 0, i, h => absurd h (Nat.not_lt_zero _)
  | M + 1, i, h => by
    by_cases q : i < ct p M
    · obtain ⟨u, h1, h2⟩ := ct_at q
      exact ⟨u, by omega, h2⟩
    · have h : i < ct p M + (if p M = true then 1 else 0) := h
      by_cases z : p M = true
      · rw [if_pos z] at h
        exact ⟨M, by omega, z, by omega⟩
      · rw [if_neg z] at h; omega
theorem ct_inj {p : Nat → Bool} {u v : Nat} (hu : p u = true) (hv : p v = true) (h : ct p u = ct p v) : u = v := by
  rcases Nat.lt_trichotomy u v with q | q | q
  · have := ct_mono p (show u + 1 ≤ v from q)
    rw [ct_t hu] at this; omega
  · exact q
  · have := ct_mono p (show v + 1 ≤ u from q)
    rw [ct_t hv] at this; omega
theorem ct_top {p : Nat → Bool} {M n : Nat} (h : M ≤ n) (hz : ∀ u, M ≤ u → u < n → p u = false) : ct p n = ct p M := by
  obtain ⟨d, rfl⟩ : ∃ d, n = M + d := ⟨n - M, by omega⟩
  rw [ct_split, ct_0 (p := fun k => p (M + k)) (fun k hk => hz _ (by omega) (by omega)), Nat.add_zero]
/-- the i-th, below M -/
def pkM (p : Nat → Bool) (M i : Nat) (v : Int32) : Prop := (∃ u, u < M ∧ p u = true ∧ ct p u = i ∧ v = nI u) ∨ (ct p M ≤ i ∧ v = -1)
theorem vr_nthOf {p : Nat} (hR : RF σ.2.2) (hn : 0 ≤ (σ.1 219 0).toInt ∧ (σ.1 219 0).toInt ≤ 10) (hp : p < 10) : Px (f_X12_nthOf N 218 (nI p) x2 σ) σ (fun v => (0 ≤ x2.toInt → pkM (rb (σ.1 220) (1024 * p)) (mn (σ.1 219 0)) x2.toInt.toNat v) ∧ (x2.toInt < 0 → v = -1)) := by
  have b := mn_le hn.2
  rw [f_X12_nthOf.eq_1]
  refine pt_lp (fun x : Int32 × Int32 × zS => x.2.2 = σ ∧ ∃ m, (x.2.1 = nI m ∧ m ≤ mn (σ.1 219 0)) ∧ x.1 = nI (ct (rb (σ.1 220) (1024 * p)) m) ∧ ∀ u, u < m → rb (σ.1 220) (1024 * p) u = true → ¬ nI (ct (rb (σ.1 220) (1024 * p)) u) = x2) (fun again x hI ih => ?_) N _ ⟨rfl, 0, ⟨rfl, Nat.zero_le _⟩, rfl, fun u hu => absurd hu (Nat.not_lt_zero _)⟩
  obtain ⟨x3, x4, τ⟩ := x
  obtain ⟨e, m, ⟨e4, hm⟩, e3, hx⟩ := hI
  have e : τ = σ := e
  have e4 : x4 = nI m := e4
  have e3 : x3 = nI (ct (rb (σ.1 220) (1024 * p)) m) := e3
  subst e
  subst e4
  subst e3
  rw [F_X12_nthOf_5.eq_1]
  refine pt_gC (pt_zbq (vr_mn hR hn) (fun v hv => ?_))
  subst hv
  refine pt_if (fun q => pt_some ⟨rfl, fun h0 => Or.inr ⟨?_, rfl⟩, fun _ => rfl⟩) (fun q => ?_)
  · rw [nlt (by omega) (by omega)] at q
    have hm2 : m = mn (τ.1 219 0) := by omega
    by_cases z : x2.toInt.toNat < ct (rb (τ.1 220) (1024 * p)) (mn (τ.1 219 0))
    · obtain ⟨u, h1, h2, h3⟩ := ct_at z
      refine absurd ?_ (hx u (by omega) h2)
      apply Int32.toInt_inj.mp
      rw [h3, nI_toInt (by have := ti_hi x2; omega)]
      omega
    · omega
  · rw [nlt (by omega) (by omega)] at q
    have cl := ct_le (rb (τ.1 220) (1024 * p)) m
    refine pt_gC (pt_zbq (vr_of hR hp (by omega)) (fun w hw => pt_if (fun z => ?_) (fun z => pt_if (fun y => pt_some ⟨rfl, fun h0 => Or.inl ⟨m, by omega, vb_t hw z, ?_, rfl⟩, fun h0 => ?_⟩) (fun y => ?_))))
    · rw [nI_s1 (by omega)]
      refine ih (_, nI (m + 1), τ) ⟨rfl, m + 1, ⟨rfl, by omega⟩, by rw [ct_f (vb_f hw z)], fun u hu ht => ?_⟩
      by_cases e : u = m
      · rw [e, vb_f hw z] at ht; cases ht
      · exact hx u (by omega) ht
    · rw [← y, nI_toInt (by omega)]; omega
    · rw [← y, nI_toInt (by omega)] at h0; omega
    · rw [nI_s1 (by omega), nI_s1 (by omega)]
      refine ih (_, nI (m + 1), τ) ⟨rfl, m + 1, ⟨rfl, by omega⟩, by rw [ct_t (vb_t hw z)], fun u hu ht => ?_⟩
      by_cases e : u = m
      · rw [e]; exact y
      · exact hx u (by omega) ht
theorem pkM_eq {F G : Nat → Bool} {M i : Nat} {v w : Int32} (hM : M ≤ 1024) (hFG : ∀ u, u < 1024 → F u = G u) (hF : ∀ u, u < 1024 → F u = true → u < M) (h : pkQ F i v) (h2 : pkM G M i w) : v = w := by
  have cF : ∀ u, u ≤ 1024 → ct F u = ct G u := fun u hu => ct_c (fun k hk => hFG k (by omega))
  have top : ct F 1024 = ct F M := ct_top hM (fun u l1 l2 => Bool.eq_false_iff.mpr (fun z => by have := hF u l2 z; omega))
  rcases h with ⟨u, h1, h3, h4, h5⟩ | ⟨h1, h3⟩
  · rcases h2 with ⟨u', k1, k3, k4, k5⟩ | ⟨k1, k3⟩
    · have e : u = u' := ct_inj h3 (by rw [hFG u' (by omega)]; exact k3) (by rw [h4, cF u' (by omega), k4])
      apply Int32.toInt_inj.mp
      rw [h5, k5, nI_toInt (by omega), e]
    · have l := hF u h1 h3
      have := ct_mono F (show u + 1 ≤ M from l)
      rw [ct_t h3, cF M hM] at this
      omega
  · rcases h2 with ⟨u', k1, k3, k4, k5⟩ | ⟨k1, k3⟩
    · have := ct_mono G (show u' + 1 ≤ M from k1)
      rw [ct_t k3, ← cF M hM] at this
      omega
    · rw [h3, k3]
/-! what is laid and stored -/
/-- the worlds' rows of longs -/
def WR (a : Nat) : Prop := (2 ≤ a ∧ a < 54) ∨ 132 ≤ a
def LW (σ τ : zS) : Prop := ∀ a, WR a → τ.2.1 a = σ.2.1 a
/-- the class's register p is S now, v are they; no other family of a world is other -/
def CM (σ τ : zS) (v : Int32) (B p : Nat) (S : Nat → Prop) : Prop := (∀ u, u < 1024 → (bt (τ.2.1 (B + 6 + 2 * p + 1)) u = true ↔ S u)) ∧ (∀ a, WR a → a ≠ B + 6 + 2 * p + 1 → τ.2.1 a = σ.2.1 a) ∧ v.toInt = (ct (bt (τ.2.1 (B + 6 + 2 * p + 1))) 1024 : Int)
/-- the reference's register -/
def RM (σ τ : zS) (v : Int32) (p : Nat) (S : Nat → Prop) : Prop := (∀ u, u < 1024 → (rb (τ.1 220) (1024 * p) u = true ↔ S u)) ∧ (∀ k, (k < 1024 * p ∨ 1024 * p + 1024 ≤ k) → τ.1 220 k = σ.1 220 k) ∧ v = nI (ct (rb (τ.1 220) (1024 * p)) (mn (σ.1 219 0)))
theorem k128 : (zKd 128).1 = 2 ∧ (zKd 130).1 = 2 := by decide
theorem iF128 : isF 128 ∧ isF 130 := by unfold isF; decide
theorem rg_iF (hB : isWc B) {k : Nat} (hk : k < 10) (hR : RF σ.2.2) : isF (B + 6 + 2 * k) := by
  refine ⟨(rgW hB hR hk).2, ?_⟩
  unfold isWc at hB
  omega
theorem pt_reg {β : Type} {P : β → Prop} {k : Nat} {f : Nat → Option β} (hB : isWc B) (hR : RF σ.2.2) (h4 : σ.2.2 0 4 = B) (hk : k < 10) (h : Pt (f (B + 6 + 2 * k)) P) : Pt (zl (gR 11 4 0 σ) fun v3 => zl (gR 10 7 v3 σ) fun v4 => zl (aR 17 v4 (nI k) σ) f) P := by
  refine pt_gR (v := B) h4 (pt_gR (v := B + 5) (rW hB hR).2 (pt_aR ?_))
  rw [iN (by omega), (rgW hB hR hk).1]; exact h
theorem vl_store {p : Nat} (hB : isWc B) (hR : RF σ.2.2) (h4 : σ.2.2 0 4 = B) (hp : p < 10) (hn : 0 < (σ.1 B 0).toInt) : Pt (f_X11_store N 0 (nI p) σ) (fun r => LF (B + 6 + 2 * p + 1) σ r.2 ∧ (∀ u, u < 1024 → bt (r.2.2.1 (B + 6 + 2 * p + 1)) u = bt (σ.2.1 129) u) ∧ r.1.toInt = (ct (bt (σ.2.1 129)) 1024 : Int)) := by
  rw [f_X11_store.eq_1]
  have k := rgW hB hR hp
  refine pt_gC (pt_zbq (vl_isRegister h4) (fun v hv => pt_if (fun q => absurd (isR_i hn hp) (hv.1 q)) (fun _ => ?_)))
  refine pt_reg hB hR h4 hp (pt_gR (v := 128) (hR 0 17 rfl) (pt_gC (pt_zb (v_copyFrom hR k.2 k128.1) (fun _ σ1 h => ?_))))
  obtain ⟨l, e⟩ := h
  have l : LF (B + 6 + 2 * p + 1) σ σ1 := l
  have e : ∀ u, u < 1024 → bt (σ1.2.1 (B + 6 + 2 * p + 1)) u = bt (σ.2.1 129) u := e
  have R1 := l.R hR
  have e9 : σ1.2.1 129 = σ.2.1 129 := l.2.2 129 (by unfold isWc at hB; omega)
  refine pt_gR (v := 128) (R1 0 17 rfl) (pt_gC (pt_zbq (v_tally R1 k128.1) (fun v hv => pt_some ⟨l, e, ?_⟩)))
  show v.toInt = _
  rw [hv]
  show (ct (bt (σ1.2.1 129)) 1024 : Int) = _
  rw [e9]
/-- what stands in the scratch is stored -/
theorem CM_st {σ σ1 σ2 : zS} {v : Int32} {p : Nat} {S : Nat → Prop} (hB : isWc B) (hp : p < 10) (hw : ∀ a, WR a → σ1.2.1 a = σ.2.1 a) (hs : ∀ u, u < 1024 → (bt (σ1.2.1 129) u = true ↔ S u)) (h : LF (B + 6 + 2 * p + 1) σ1 σ2 ∧ (∀ u, u < 1024 → bt (σ2.2.1 (B + 6 + 2 * p + 1)) u = bt (σ1.2.1 129) u) ∧ v.toInt = (ct (bt (σ1.2.1 129)) 1024 : Int)) : CM σ σ2 v B p S := by
  refine ⟨fun u hu => by rw [h.2.1 u hu]; exact hs u hu, fun a ha ne => (h.1.2.2 a ne).trans (hw a ha), ?_⟩
  rw [h.2.2, ct_c (fun k hk => (h.2.1 k hk).symm)]
theorem nrz {v : Int32} (h : v = 0 ∨ v = 1) : vp_nar .boolean v = v := by
  rcases h with rfl | rfl
  · exact nz1.1
  · exact nz1.2
/-- a row of booleans tells S, below m -/
def Md (k : Nat) (τ : zS) (m : Nat) (S : Nat → Prop) : Prop := ∀ u, u < m → (τ.1 k u = 1 ∧ S u) ∨ (τ.1 k u = 0 ∧ ¬ S u)
theorem Md_z {k : Nat} {S : Nat → Prop} (hB : ZB τ.1) (hk : (zKd k).1 = 16) (h : ∀ u, u < 1024 → (rb (τ.1 k) 0 u = true ↔ S u)) : Md k τ 1024 S := fun u hu => by
  have q := h u hu
  rw [rb_t, Nat.zero_add] at q
  rcases hB k hk u with z | z
  · exact Or.inr ⟨z, fun y => q.mpr y z⟩
  · exact Or.inl ⟨z, q.mp (fun y => absurd (z.symm.trans y) (by decide))⟩
theorem Md_p {k m : Nat} {S : Nat → Prop} {v : Int32} (h : Md k τ m S) (hv : (v = 1 ∧ S m) ∨ (v = 0 ∧ ¬ S m)) : Md k (zI τ k (upd (τ.1 k) m (vp_nar .boolean v))) (m + 1) S := fun u hu => by
  rw [zI_s, upd_i]
  by_cases e : u = m
  · subst e
    rw [if_pos rfl]
    rcases hv with ⟨rfl, s⟩ | ⟨rfl, s⟩
    · exact Or.inl ⟨nz1.2, s⟩
    · exact Or.inr ⟨nz1.1, s⟩
  · rw [if_neg e]; exact h u (by omega)
theorem Md_rb {k m : Nat} {S : Nat → Prop} (h : Md k τ m S) {u : Nat} (hu : u < m) : rb (τ.1 k) 0 u = true ↔ S u := by
  rw [rb_t, Nat.zero_add]
  rcases h u hu with ⟨e, s⟩ | ⟨e, s⟩
  · rw [e]; exact ⟨fun _ => s, fun _ => by decide⟩
  · rw [e]; exact ⟨fun z => absurd rfl z, fun z => absurd z s⟩
theorem vr_lays {p : Nat} {S : Nat → Prop} (hR : RF σ.2.2) (hn : 0 ≤ (σ.1 219 0).toInt ∧ (σ.1 219 0).toInt ≤ 10) (hp : p < 10) (hS : Md 227 σ 1024 S) : Pt (f_X12_lays N 218 (nI p) σ) (fun r => FG [220] σ r.2 ∧ RM σ r.2 r.1 p S) := by
  rw [f_X12_lays.eq_1]
  refine pt_lp (fun x : Int32 × zS => ∃ m, (x.1 = nI m ∧ m ≤ 1024) ∧ FG [220] σ x.2 ∧ (∀ u, u < m → x.2.1 220 (1024 * p + u) = σ.1 227 u) ∧ ∀ k, (k < 1024 * p ∨ 1024 * p + 1024 ≤ k) → x.2.1 220 k = σ.1 220 k) (fun again x hI ih => ?_) N _ ⟨0, ⟨rfl, Nat.zero_le _⟩, FG.rf, fun u hu => absurd hu (Nat.not_lt_zero _), fun _ _ => rfl⟩
  obtain ⟨x2, τ⟩ := x
  obtain ⟨m, ⟨e, hm⟩, hf, hu, ho⟩ := hI
  have e : x2 = nI m := e
  subst e
  have hf : FG [220] σ τ := hf
  have hu : ∀ u, u < m → τ.1 220 (1024 * p + u) = σ.1 227 u := hu
  have ho : ∀ k, (k < 1024 * p ∨ 1024 * p + 1024 ≤ k) → τ.1 220 k = σ.1 220 k := ho
  have R9 := hf.R hR
  have e19 : τ.1 219 = σ.1 219 := hf.2 219 (by decide)
  have e27 : τ.1 227 = σ.1 227 := hf.2 227 (by decide)
  rw [F_X12_lays_2.eq_1]
  refine pt_if (fun q => ?_) (fun q => ?_)
  · have q : nI 1024 ≤ nI m := q
    rw [nlt (by omega) (by omega)] at q
    refine pt_gC (pt_zbq (vr_sizeOf R9 (by rw [e19]; exact hn) hp) (fun v hv => pt_some ⟨hf, fun u h => ?_, ho, ?_⟩))
    · show rb (τ.1 220) (1024 * p) u = true ↔ S u
      rw [rb_t, hu u (by omega)]
      rcases hS u h with ⟨e, s⟩ | ⟨e, s⟩
      · rw [e]; exact ⟨fun _ => s, fun _ => by decide⟩
      · rw [e]; exact ⟨fun z => absurd rfl z, fun z => absurd z s⟩
    · rw [e19] at hv; exact hv
  · have q : ¬ nI 1024 ≤ nI m := q
    rw [nlt (by omega) (by omega)] at q
    have e : ((1024 : Int32) * nI p + nI m).toInt.toNat = 1024 * p + m := by
      rw [show (1024 : Int32) = nI 1024 from rfl, nI_mul, nI_plus, nI_toInt (by omega)]; omega
    refine pt_gR (v := 220) (R9 218 2 rfl) (pt_gR (v := 227) (R9 218 17 rfl) (pt_aI (pt_s16 ?_)))
    rw [e, iN (by omega), nI_s1 (by omega), e27, nrz ((hS m (by omega)).elim (fun z => Or.inr z.1) (fun z => Or.inl z.1))]
    refine ih (nI (m + 1), _) ⟨m + 1, ⟨rfl, by omega⟩, hf.u (by simp), fun u h => ?_, fun k hk => ?_⟩
    · show (zI τ 220 _).1 220 (1024 * p + u) = _
      rw [zI_s, upd_i]
      by_cases d : u = m
      · rw [if_pos (by omega), d]
      · rw [if_neg (by omega)]; exact hu u (by omega)
    · show (zI τ 220 _).1 220 k = _
      rw [zI_s, upd_n (by omega)]; exact ho k hk
end REGS
end Zq13_26
section Zq13_27
/-! ===== what changes a register: makes, turn, sets, change, half, level ===== -/
section CONG
variable {X X' Y Y' : Nat → Bool} {n u : Nat} {w : Int32}
theorem OV_c (hX : ∀ k, k < 1024 → X k = X' k) (hY : ∀ k, k < 1024 → Y k = Y' k) (hn : n ≤ 1024) (hu : u < 1024) (h : OV X Y n u) : OV X' Y' n u := by
  obtain ⟨⟨t, a, b⟩, c⟩ := h
  refine ⟨⟨t, a, by rw [← hY t (by omega)]; exact b⟩, fun t a b => ?_⟩
  have := c t a (by rw [hY t (by omega)]; exact b)
  exact ⟨this.1, by rw [← hX _ (or_1024 hu (by omega))]; exact this.2⟩
theorem CS_c (hX : ∀ k, k < 1024 → X k = X' k) (hY : ∀ k, k < 1024 → Y k = Y' k) (hn : n ≤ 1024) (hu : u < 1024) (h : CS w X Y n u) : CS w X' Y' n u := by
  unfold CS at h ⊢
  by_cases w3 : w = 3
  · rw [if_pos w3] at h ⊢
    obtain ⟨s, t, ⟨a1, a2⟩, ⟨b1, b2⟩, c⟩ := h
    exact ⟨s, t, ⟨a1, by rw [← hX s (by omega)]; exact a2⟩, ⟨b1, by rw [← hY t (by omega)]; exact b2⟩, c⟩
  · rw [if_neg w3] at h ⊢
    by_cases w5 : w = 5
    · rw [if_pos w5] at h ⊢
      exact ⟨h.1, by rw [← hX u hu]; exact h.2.1, fun ⟨s, t, ⟨a1, a2⟩, ⟨b1, b2⟩, c⟩ => h.2.2 ⟨s, t, ⟨a1, by rw [hY s (by omega)]; exact a2⟩, ⟨b1, OV_c (fun k q => (hX k q).symm) (fun k q => (hY k q).symm) hn (by omega) b2⟩, c⟩⟩
    · rw [if_neg w5] at h ⊢
      unfold GS at h ⊢
      refine ⟨h.1, ?_⟩
      have h2 := h.2
      by_cases w0 : w = 0
      · rw [if_pos w0] at h2 ⊢
        rw [← hX u hu, ← hY u hu]; exact h2
      rw [if_neg w0] at h2 ⊢
      by_cases w1 : w = 1
      · rw [if_pos w1] at h2 ⊢
        rw [← hX u hu, ← hY u hu]; exact h2
      rw [if_neg w1] at h2 ⊢
      by_cases w2 : w = 2
      · rw [if_pos w2] at h2 ⊢
        rw [← hX u hu, ← hY u hu]; exact h2
      rw [if_neg w2] at h2 ⊢
      by_cases w4 : w = 4
      · rw [if_pos w4] at h2 ⊢
        exact OV_c hX hY hn hu h2
      rw [if_neg w4] at h2 ⊢
      exact ⟨by rw [← hX u hu]; exact h2.1, fun t a b => h2.2 t a (by rw [hY t (by omega)]; exact b)⟩
theorem HT_c (hX : ∀ k, k < 1024 → X k = X' k) (hn : n ≤ 1024) (h : HT X n u) : HT X' n u := ⟨h.1, fun t a b => h.2 t a (by rw [hX t (by omega)]; exact b)⟩
theorem TS_c (hX : ∀ k, k < 1024 → X k = X' k) (hn : n ≤ 1024) (hu : u < 1024) (h : TS w X n u) : TS w X' n u := by
  unfold TS at h ⊢
  refine ⟨h.1, ?_⟩
  have h2 := h.2
  by_cases w0 : w = 0
  · rw [if_pos w0] at h2 ⊢
    exact ⟨by rw [← hX u hu]; exact h2.1, fun ⟨t, a, b, c, d⟩ => h2.2 ⟨t, a, b, by rw [hX t (by omega)]; exact c, d⟩⟩
  rw [if_neg w0] at h2 ⊢
  by_cases w1 : w = 1
  · rw [if_pos w1] at h2 ⊢
    exact ⟨by rw [← hX u hu]; exact h2.1, fun ⟨t, a, b, c, d⟩ => h2.2 ⟨t, a, b, by rw [hX t (by omega)]; exact c, d⟩⟩
  rw [if_neg w1] at h2 ⊢
  by_cases w3 : w = 3
  · rw [if_pos w3] at h2 ⊢
    rw [← hX u hu]; exact h2
  rw [if_neg w3] at h2 ⊢
  by_cases w4 : w = 4
  · rw [if_pos w4] at h2 ⊢
    exact h2.imp (fun q => by rw [← hX u hu]; exact q) (fun ⟨t, a, b, c, d⟩ => ⟨t, a, b, by rw [← hX t (by omega)]; exact c, d⟩)
  rw [if_neg w4] at h2 ⊢
  by_cases w5 : w = 5
  · rw [if_pos w5] at h2 ⊢
    exact h2.imp (fun q => by rw [← hX u hu]; exact q) (fun ⟨t, a, b, c, d⟩ => ⟨t, a, b, by rw [← hX t (by omega)]; exact c, d⟩)
  rw [if_neg w5] at h2 ⊢
  rw [← hX u hu]; exact h2
theorem RS_c (hX : ∀ k, k < 1024 → X k = X' k) (hn : n ≤ 1024) (hu : u < 1024) (h : RS w X n u) : RS w X' n u := by
  unfold RS at h ⊢
  by_cases w2 : w = 2
  · rw [if_pos w2] at h ⊢
    exact ⟨HT_c hX hn h.1, fun ⟨t, a, b, c⟩ => h.2 ⟨t, a, HT_c (fun k q => (hX k q).symm) hn b, c⟩⟩
  · rw [if_neg w2] at h ⊢
    exact TS_c hX hn hu h
end CONG
section OPS
variable {N B : Nat} {σ : zS} {x1 x2 x3 x4 : Int32}
/-- the class's world: what its numbers and families are -/
def FI (σ : zS) (B : Nat) : Prop := ∀ p, p < 10 → ∀ u, u < 1024 → bt (σ.2.1 (B + 6 + 2 * p + 1)) u = true → u < mn (σ.1 B 0)
def mkC (m x1 x2 x3 x4 : Int32) : Prop := (isR m x1 ∧ isR m x3 ∧ isR m x4) ∧ 0 ≤ x2.toInt ∧ x2.toInt ≤ 6
theorem FI_in {n p : Nat} (h : FI σ B) (hp : p < 10) (e : σ.1 B 0 = nI n) (h0 : 0 < n) (hn : n ≤ 10) : inN (bt (σ.2.1 (B + 6 + 2 * p + 1))) n := fun u hu hb => by
  have := h p hp u hu hb
  rw [e, mn_p (by rw [nI_toInt (by omega)]; omega), nI_toInt (by omega)] at this
  exact this
theorem mnn {n : Nat} (h0 : 0 < n) (hn : n ≤ 10) : mn (nI n) = 2 ^ n := by
  rw [mn_p (by rw [nI_toInt (by omega)]; omega), nI_toInt (by omega)]; rfl
theorem world_n (h0 : 0 < (σ.1 B 0).toInt) (h10 : (σ.1 B 0).toInt ≤ 10) : ∃ n, σ.1 B 0 = nI n ∧ 0 < n ∧ n ≤ 10 := by
  obtain ⟨n, hn, e⟩ := znI (x := σ.1 B 0) (m := 11) (by omega) (by omega)
  rw [e, nI_toInt (by omega)] at h0
  exact ⟨n, e, by omega, by omega⟩
theorem lw_no {a : Nat} (h : WR a) : a ∉ [129, 101, 103, 105] ∧ a ≠ 129 ∧ a ≠ 131 := by
  unfold WR at h
  simp only [List.mem_cons, List.not_mem_nil, or_false]
  omega
theorem vl_makes (hB : isWc B) (hR : RF σ.2.2) (h4 : σ.2.2 0 4 = B) (hn : 0 ≤ (σ.1 B 0).toInt ∧ (σ.1 B 0).toInt ≤ 10) (hF : FI σ B) : Pt (f_X11_makes N 0 x1 x2 x3 x4 σ) (fun r => (mkC (σ.1 B 0) x1 x2 x3 x4 → CM σ r.2 r.1 B x1.toInt.toNat (CS x2 (bt (σ.2.1 (B + 6 + 2 * x3.toInt.toNat + 1))) (bt (σ.2.1 (B + 6 + 2 * x4.toInt.toNat + 1))) (mn (σ.1 B 0)))) ∧ (¬ mkC (σ.1 B 0) x1 x2 x3 x4 → r.1 = -2 ∧ LW σ r.2)) := by
  have no : ∀ {τ : zS}, τ = σ → ¬ mkC (σ.1 B 0) x1 x2 x3 x4 → Pt (some ((-2 : Int32), τ)) (fun r => (mkC (σ.1 B 0) x1 x2 x3 x4 → CM σ r.2 r.1 B x1.toInt.toNat (CS x2 (bt (σ.2.1 (B + 6 + 2 * x3.toInt.toNat + 1))) (bt (σ.2.1 (B + 6 + 2 * x4.toInt.toNat + 1))) (mn (σ.1 B 0)))) ∧ (¬ mkC (σ.1 B 0) x1 x2 x3 x4 → r.1 = -2 ∧ LW σ r.2)) := fun e q => pt_some ⟨fun z => absurd z q, fun _ => ⟨rfl, fun a _ => by rw [e]⟩⟩
  rw [f_X11_makes.eq_1]
  refine pt_gC (pt_zbq (vl_isRegister h4) (fun v hv => pt_if (fun q => no rfl (fun z => hv.1 q z.1.1)) (fun q1 => ?_)))
  refine pt_gC (pt_zbq (vl_isRegister h4) (fun v3 hv3 => pt_if (fun q => no rfl (fun z => hv3.1 q z.1.2.1)) (fun q3 => ?_)))
  refine pt_gC (pt_zbq (vl_isRegister h4) (fun v5 hv5 => pt_if (fun q => no rfl (fun z => hv5.1 q z.1.2.2)) (fun q5 => ?_)))
  refine pt_if (fun q => no rfl (fun z => ?_)) (fun qa => pt_if (fun qb => ?_) (fun q => no rfl (fun z => ?_)))
  · rw [Int32.lt_iff_toInt_lt] at q
    simp only [Int32.reduceToInt] at q
    have := z.2; omega
  · have r1 := hv.2 q1
    have r3 := hv3.2 q3
    have r5 := hv5.2 q5
    have hm : mkC (σ.1 B 0) x1 x2 x3 x4 := by
      rw [Int32.lt_iff_toInt_lt] at qa
      rw [Int32.le_iff_toInt_le] at qb
      simp only [Int32.reduceToInt] at qa qb
      exact ⟨⟨r1, r3, r5⟩, by omega, qb⟩
    obtain ⟨p, hp, rfl⟩ := isR_n r1
    obtain ⟨k, hk, rfl⟩ := isR_n r3
    obtain ⟨l, hl, rfl⟩ := isR_n r5
    obtain ⟨n, en, n0, n10⟩ := world_n r1.1 hn.2
    rw [iN (m := p) (by omega), iN (m := k) (by omega), iN (m := l) (by omega)]
    refine pt_gR (v := 128) (hR 0 17 rfl) (pt_reg hB hR h4 hk (pt_gC (pt_zb (v_copyFrom hR k128.1 (rgW hB hR hk).2) (fun _ σ1 h => ?_))))
    obtain ⟨l1, e1⟩ := h
    have l1 : LF 129 σ σ1 := l1
    have e1 : ∀ u, u < 1024 → bt (σ1.2.1 129) u = bt (σ.2.1 (B + 6 + 2 * k + 1)) u := e1
    have R1 := l1.R hR
    have h41 : σ1.2.2 0 4 = B := by rw [l1.2.1]; exact h4
    refine pt_gR (v := 99) (R1 0 11 rfl) (pt_gR (v := 128) (R1 0 17 rfl) (pt_reg hB R1 h41 hl (pt_gR (v := B) h41 (pt_gI ?_))))
    have n1 : σ1.1 B 0 = nI n := by rw [l1.1]; exact en
    rw [n1]
    have el : σ1.2.1 (B + 6 + 2 * l + 1) = σ.2.1 (B + 6 + 2 * l + 1) := l1.2.2 _ (by unfold isWc at hB; omega)
    have I1 : inN (bt (σ1.2.1 (128 + 1))) n := fun u hu hb => FI_in hF hk en n0 n10 u hu (by rw [← e1 u hu]; exact hb)
    have I2 : inN (bt (σ1.2.1 (B + 6 + 2 * l + 1))) n := by rw [el]; exact FI_in hF hl en n0 n10
    refine pt_gC (pt_zb (v_combine R1 iF128.1 (rg_iF hB hl R1) (by unfold isWc at hB; omega) n10 I1 I2) (fun _ σ2 h => ?_))
    obtain ⟨a2, e2⟩ := h
    have a2 : AG [106, 107] [129, 101, 103, 105] σ1 σ2 := a2
    have R2 := a2.R R1
    have h42 : σ2.2.2 0 4 = B := by rw [a2.2.1]; exact h41
    have n2 : σ2.1 B 0 = nI n := by rw [a2.1 B (by unfold isWc at hB; simp only [List.mem_cons, List.not_mem_nil, or_false]; omega)]; exact n1
    refine pt_gC (pt_zb (vl_store hB R2 h42 hp (by rw [n2, nI_toInt (by omega)]; omega)) (fun v σ3 h => pt_some ⟨fun _ => ?_, fun z => absurd hm z⟩))
    refine CM_st hB hp (fun a ha => (a2.2.2 a (lw_no ha).1).trans (l1.2.2 a (lw_no ha).2.1)) (fun u hu => ?_) h
    rw [en, mnn n0 n10]
    refine (e2 u hu).trans ?_
    rw [el]
    exact ⟨CS_c e1 (fun _ _ => rfl) (p2le n10).1 hu, CS_c (fun k q => (e1 k q).symm) (fun _ _ => rfl) (p2le n10).1 hu⟩
  · rw [Int32.le_iff_toInt_le] at q
    simp only [Int32.reduceToInt] at q
    have := z.2; omega
def tuC (m x1 x2 x3 : Int32) : Prop := (isR m x1 ∧ isR m x3) ∧ 0 ≤ x2.toInt ∧ x2.toInt ≤ 6
theorem vl_turn (hB : isWc B) (hR : RF σ.2.2) (h4 : σ.2.2 0 4 = B) (hn : 0 ≤ (σ.1 B 0).toInt ∧ (σ.1 B 0).toInt ≤ 10) (hF : FI σ B) : Pt (f_X11_turn N 0 x1 x2 x3 σ) (fun r => (tuC (σ.1 B 0) x1 x2 x3 → CM σ r.2 r.1 B x1.toInt.toNat (RS x2 (bt (σ.2.1 (B + 6 + 2 * x3.toInt.toNat + 1))) (mn (σ.1 B 0)))) ∧ (¬ tuC (σ.1 B 0) x1 x2 x3 → r.1 = -2 ∧ LW σ r.2)) := by
  have no : ∀ {τ : zS}, τ = σ → ¬ tuC (σ.1 B 0) x1 x2 x3 → Pt (some ((-2 : Int32), τ)) (fun r => (tuC (σ.1 B 0) x1 x2 x3 → CM σ r.2 r.1 B x1.toInt.toNat (RS x2 (bt (σ.2.1 (B + 6 + 2 * x3.toInt.toNat + 1))) (mn (σ.1 B 0)))) ∧ (¬ tuC (σ.1 B 0) x1 x2 x3 → r.1 = -2 ∧ LW σ r.2)) := fun e q => pt_some ⟨fun z => absurd z q, fun _ => ⟨rfl, fun a _ => by rw [e]⟩⟩
  rw [f_X11_turn.eq_1]
  refine pt_gC (pt_zbq (vl_isRegister h4) (fun v hv => pt_if (fun q => no rfl (fun z => hv.1 q z.1.1)) (fun q1 => ?_)))
  refine pt_gC (pt_zbq (vl_isRegister h4) (fun v3 hv3 => pt_if (fun q => no rfl (fun z => hv3.1 q z.1.2)) (fun q3 => ?_)))
  refine pt_if (fun q => no rfl (fun z => ?_)) (fun qa => pt_if (fun qb => ?_) (fun q => no rfl (fun z => ?_)))
  · rw [Int32.lt_iff_toInt_lt] at q
    simp only [Int32.reduceToInt] at q
    have := z.2; omega
  · have r1 := hv.2 q1
    have r3 := hv3.2 q3
    have hm : tuC (σ.1 B 0) x1 x2 x3 := by
      rw [Int32.lt_iff_toInt_lt] at qa
      rw [Int32.le_iff_toInt_le] at qb
      simp only [Int32.reduceToInt] at qa qb
      exact ⟨⟨r1, r3⟩, by omega, qb⟩
    obtain ⟨p, hp, rfl⟩ := isR_n r1
    obtain ⟨k, hk, rfl⟩ := isR_n r3
    obtain ⟨n, en, n0, n10⟩ := world_n r1.1 hn.2
    rw [iN (m := p) (by omega), iN (m := k) (by omega)]
    refine pt_gR (v := 128) (hR 0 17 rfl) (pt_reg hB hR h4 hk (pt_gC (pt_zb (v_copyFrom hR k128.1 (rgW hB hR hk).2) (fun _ σ1 h => ?_))))
    obtain ⟨l1, e1⟩ := h
    have l1 : LF 129 σ σ1 := l1
    have e1 : ∀ u, u < 1024 → bt (σ1.2.1 129) u = bt (σ.2.1 (B + 6 + 2 * k + 1)) u := e1
    have R1 := l1.R hR
    have h41 : σ1.2.2 0 4 = B := by rw [l1.2.1]; exact h4
    refine pt_gR (v := 99) (R1 0 11 rfl) (pt_gR (v := 128) (R1 0 17 rfl) (pt_gR (v := B) h41 (pt_gI ?_)))
    have n1 : σ1.1 B 0 = nI n := by rw [l1.1]; exact en
    rw [n1]
    have I1 : inN (bt (σ1.2.1 (128 + 1))) n := fun u hu hb => FI_in hF hk en n0 n10 u hu (by rw [← e1 u hu]; exact hb)
    refine pt_gC (pt_zb (v_reshape R1 iF128.1 n10 I1) (fun _ σ2 h => ?_))
    obtain ⟨a2, e2⟩ := h
    have a2 : LG [129, 101, 103] σ1 σ2 := a2
    have R2 := a2.R R1
    have h42 : σ2.2.2 0 4 = B := by rw [a2.2.1]; exact h41
    have n2 : σ2.1 B 0 = nI n := by rw [a2.1]; exact n1
    refine pt_gC (pt_zb (vl_store hB R2 h42 hp (by rw [n2, nI_toInt (by omega)]; omega)) (fun v σ3 h => pt_some ⟨fun _ => ?_, fun z => absurd hm z⟩))
    refine CM_st hB hp (fun a ha => (a2.2.2 a (fun z => (lw_no ha).1 ?_)).trans (l1.2.2 a (lw_no ha).2.1)) (fun u hu => ?_) h
    · simp only [List.mem_cons, List.not_mem_nil, or_false] at z ⊢; omega
    rw [en, mnn n0 n10]
    exact (e2 u hu).trans ⟨RS_c e1 (p2le n10).1 hu, RS_c (fun k q => (e1 k q).symm) (p2le n10).1 hu⟩
  · rw [Int32.le_iff_toInt_le] at q
    simp only [Int32.reduceToInt] at q
    have := z.2; omega
/-- a set comes or goes -/
def seC (m x1 x2 : Int32) : Prop := isR m x1 ∧ isS m x2
theorem isS_i {m : Int32} {s : Nat} (hm : m.toInt ≤ 10) (h : isS m (nI s)) (hs : s < 1024) : s < mn m := by
  obtain ⟨t, e, ht⟩ := isS_n hm h
  have := mn_le hm
  rwa [(nI_inj (by omega) (by omega)).mp e]
theorem vl_sets (hB : isWc B) (hR : RF σ.2.2) (h4 : σ.2.2 0 4 = B) (hn : 0 ≤ (σ.1 B 0).toInt ∧ (σ.1 B 0).toInt ≤ 10) (h01 : x3 = 0 ∨ x3 = 1) : Pt (f_X11_sets N 0 x1 x2 x3 σ) (fun r => (seC (σ.1 B 0) x1 x2 → ((∀ u, u < 1024 → (bt (r.2.2.1 (B + 6 + 2 * x1.toInt.toNat + 1)) u = true ↔ if u = x2.toInt.toNat then x3 = 1 else bt (σ.2.1 (B + 6 + 2 * x1.toInt.toNat + 1)) u = true)) ∧ (∀ a, WR a → a ≠ B + 6 + 2 * x1.toInt.toNat + 1 → r.2.2.1 a = σ.2.1 a)) ∧ (r.1 = 0 ∨ r.1 = 1) ∧ (r.1 = 0 ↔ (bt (σ.2.1 (B + 6 + 2 * x1.toInt.toNat + 1)) x2.toInt.toNat = true ↔ x3 = 1))) ∧ (¬ seC (σ.1 B 0) x1 x2 → r.1 = -2 ∧ LW σ r.2)) := by
  rw [f_X11_sets.eq_1]
  refine pt_gC (pt_zbq (vl_isRegister h4) (fun v hv => pt_if (fun q => pt_some ⟨fun z => absurd z.1 (hv.1 q), fun _ => ⟨rfl, fun _ _ => rfl⟩⟩) (fun q1 => ?_)))
  refine pt_gC (pt_zbq (vl_isSet h4) (fun v3 hv3 => pt_if (fun q => pt_some ⟨fun z => absurd z.2 (hv3.1 q), fun _ => ⟨rfl, fun _ _ => rfl⟩⟩) (fun q3 => ?_)))
  have r1 := hv.2 q1
  have r3 := hv3.2 q3
  have hm : seC (σ.1 B 0) x1 x2 := ⟨r1, r3⟩
  have mb := mn_le hn.2
  obtain ⟨p, hp, rfl⟩ := isR_n r1
  obtain ⟨s, rfl, hs⟩ := isS_n hn.2 r3
  rw [iN (m := p) (by omega), iN (m := s) (by omega)]
  refine pt_reg hB hR h4 hp (pt_gC (pt_zbq (v_holds hR (rgW hB hR hp).2 (by omega)) (fun v hv => ?_)))
  refine pt_if (fun q => pt_some ⟨fun _ => ⟨⟨fun u hu => ?_, fun _ _ _ => rfl⟩, Or.inl rfl, fun _ => ?_, fun _ => rfl⟩, fun z => absurd hm z⟩) (fun q => pt_if (fun q0 => ?_) (fun q0 => ?_))
  · by_cases e : u = s
    · rw [if_pos e, e, ← hv.2, q]
    · rw [if_neg e]
  · rw [← hv.2, q]
  · refine pt_gC (pt_zb (v_exclude hR (rgW hB hR hp).2 (by omega)) (fun _ σ1 h => pt_some ⟨fun _ => ⟨⟨fun u hu => ?_, fun a _ ne => h.1.2.2 a ne⟩, Or.inr rfl, fun z => absurd (show (1 : Int32) = 0 from z) (by decide), fun z => ?_⟩, fun z => absurd hm z⟩))
    · have h2 : bt (σ1.2.1 (B + 6 + 2 * p + 1)) u = _ := h.2 u hu
      show bt (σ1.2.1 (B + 6 + 2 * p + 1)) u = true ↔ _
      rw [h2]
      by_cases e : u = s
      · rw [if_pos e, e, q0]; simp
      · rw [if_neg e]; simp [e]
    · exact absurd (by
        rcases hv.1 with y | y
        · rw [y, q0]
        · have := z.mp (hv.2.mp y)
          rw [y, this]) q
  · have x31 := h01.resolve_left q0
    refine pt_gC (pt_zb (v_include hR (rgW hB hR hp).2 (by omega)) (fun _ σ1 h => pt_some ⟨fun _ => ⟨⟨fun u hu => ?_, fun a _ ne => h.1.2.2 a ne⟩, Or.inr rfl, fun z => absurd (show (1 : Int32) = 0 from z) (by decide), fun z => ?_⟩, fun z => absurd hm z⟩))
    · have h2 : bt (σ1.2.1 (B + 6 + 2 * p + 1)) u = _ := h.2 u hu
      show bt (σ1.2.1 (B + 6 + 2 * p + 1)) u = true ↔ _
      rw [h2]
      by_cases e : u = s
      · rw [if_pos e, e, x31]; simp
      · rw [if_neg e]; simp [e]
    · exact absurd ((hv.2.mpr (z.mpr x31)).trans x31.symm) q
end OPS
end Zq13_27
section Zq13_28
section OPS2
variable {N B : Nat} {σ : zS} {x1 x2 x3 x4 : Int32}
def isN (m x : Int32) : Prop := 0 ≤ x.toInt ∧ x.toInt < m.toInt
def chC (m x1 x2 x3 : Int32) : Prop := (isR m x1 ∧ isR m x2) ∧ isN m x3
def chS (F : Nat → Bool) (M k u : Nat) : Prop := u < M ∧ F (u ^^^ 2 ^ k) = true
/-- the half with a name, or without -/
def haS (F : Nat → Bool) (M k : Nat) (w : Int32) (u : Nat) : Prop := u < M ∧ u.testBit k = false ∧ F (if w = 0 then u else u ^^^ 2 ^ k) = true
theorem x_in {F : Nat → Bool} {n k u : Nat} (hF : inN F n) (hk : k < n) (hn : n ≤ 10) (hu : u < 1024) (h : F (u ^^^ 2 ^ k) = true) : u < 2 ^ n := by
  have := hF (u ^^^ 2 ^ k) (x_1024 hu (by omega)) h
  have q := x_lt this hk
  rwa [x_x] at q
theorem isN_n {m x : Int32} (h : isN m x) (hm : m.toInt ≤ 10) : ∃ k, k < 10 ∧ x = nI k ∧ (k : Int) < m.toInt := by
  obtain ⟨k, hk, rfl⟩ := znI (m := 10) h.1 (by have := h.2; omega)
  have := h.2
  rw [nI_toInt (by omega)] at this
  exact ⟨k, hk, rfl, this⟩
theorem vl_change (hB : isWc B) (hR : RF σ.2.2) (h4 : σ.2.2 0 4 = B) (hn : 0 ≤ (σ.1 B 0).toInt ∧ (σ.1 B 0).toInt ≤ 10) (hF : FI σ B) : Pt (f_X11_change N 0 x1 x2 x3 σ) (fun r => (chC (σ.1 B 0) x1 x2 x3 → CM σ r.2 r.1 B x1.toInt.toNat (chS (bt (σ.2.1 (B + 6 + 2 * x2.toInt.toNat + 1))) (mn (σ.1 B 0)) x3.toInt.toNat)) ∧ (¬ chC (σ.1 B 0) x1 x2 x3 → r.1 = -2 ∧ LW σ r.2)) := by
  rw [f_X11_change.eq_1]
  refine pt_gC (pt_zbq (vl_isRegister h4) (fun v hv => pt_if (fun q => pt_some ⟨fun z => absurd z.1.1 (hv.1 q), fun _ => ⟨rfl, fun _ _ => rfl⟩⟩) (fun q1 => ?_)))
  refine pt_gC (pt_zbq (vl_isRegister h4) (fun v3 hv3 => pt_if (fun q => pt_some ⟨fun z => absurd z.1.2 (hv3.1 q), fun _ => ⟨rfl, fun _ _ => rfl⟩⟩) (fun q3 => ?_)))
  refine pt_gC (pt_zbq (vl_isName h4) (fun v5 hv5 => pt_if (fun q => pt_some ⟨fun z => absurd z.2 (hv5.1 q), fun _ => ⟨rfl, fun _ _ => rfl⟩⟩) (fun q5 => ?_)))
  have r1 := hv.2 q1
  have r3 := hv3.2 q3
  have r5 : isN (σ.1 B 0) x3 := hv5.2 q5
  have hm : chC (σ.1 B 0) x1 x2 x3 := ⟨⟨r1, r3⟩, r5⟩
  obtain ⟨p, hp, rfl⟩ := isR_n r1
  obtain ⟨k, hk, rfl⟩ := isR_n r3
  obtain ⟨l, hl, rfl, hlt⟩ := isN_n r5 hn.2
  obtain ⟨n, en, n0, n10⟩ := world_n r1.1 hn.2
  rw [en, nI_toInt (by omega)] at hlt
  rw [iN (m := p) (by omega), iN (m := k) (by omega), iN (m := l) (by omega)]
  refine pt_gR (v := 128) (hR 0 17 rfl) (pt_reg hB hR h4 hk (pt_gC (pt_zb (v_copyFrom hR k128.1 (rgW hB hR hk).2) (fun _ σ1 h => ?_))))
  obtain ⟨l1, e1⟩ := h
  have l1 : LF 129 σ σ1 := l1
  have e1 : ∀ u, u < 1024 → bt (σ1.2.1 129) u = bt (σ.2.1 (B + 6 + 2 * k + 1)) u := e1
  have R1 := l1.R hR
  refine pt_gR (v := 128) (R1 0 17 rfl) (pt_gC (pt_zb (v_flip R1 k128.1 hl) (fun _ σ2 h => ?_)))
  obtain ⟨l2, e2⟩ := h
  have l2 : LF 129 σ1 σ2 := l2
  have l12 := l1.tr l2
  have R2 := l12.R hR
  refine pt_gC (pt_zb (vl_store hB R2 (by rw [l12.2.1]; exact h4) hp (by rw [l12.1]; exact r1.1)) (fun v σ3 h => pt_some ⟨fun _ => ?_, fun z => absurd hm z⟩))
  refine CM_st hB hp (fun a ha => l12.2.2 a (lw_no ha).2.1) (fun u hu => ?_) h
  have e2 : bt (σ2.2.1 129) u = bt (σ1.2.1 129) (u ^^^ 2 ^ l) := e2 u hu
  rw [e2, e1 _ (x_1024 hu hl), en, mnn n0 n10]
  exact ⟨fun h => ⟨x_in (FI_in hF hk en n0 n10) (by omega) n10 hu h, h⟩, fun h => h.2⟩
theorem vl_half (hB : isWc B) (hR : RF σ.2.2) (h4 : σ.2.2 0 4 = B) (hn : 0 ≤ (σ.1 B 0).toInt ∧ (σ.1 B 0).toInt ≤ 10) (hF : FI σ B) : Pt (f_X11_half N 0 x1 x2 x3 x4 σ) (fun r => (chC (σ.1 B 0) x1 x2 x3 → CM σ r.2 r.1 B x1.toInt.toNat (haS (bt (σ.2.1 (B + 6 + 2 * x2.toInt.toNat + 1))) (mn (σ.1 B 0)) x3.toInt.toNat x4)) ∧ (¬ chC (σ.1 B 0) x1 x2 x3 → r.1 = -2 ∧ LW σ r.2)) := by
  rw [f_X11_half.eq_1]
  refine pt_gC (pt_zbq (vl_isRegister h4) (fun v hv => pt_if (fun q => pt_some ⟨fun z => absurd z.1.1 (hv.1 q), fun _ => ⟨rfl, fun _ _ => rfl⟩⟩) (fun q1 => ?_)))
  refine pt_gC (pt_zbq (vl_isRegister h4) (fun v3 hv3 => pt_if (fun q => pt_some ⟨fun z => absurd z.1.2 (hv3.1 q), fun _ => ⟨rfl, fun _ _ => rfl⟩⟩) (fun q3 => ?_)))
  refine pt_gC (pt_zbq (vl_isName h4) (fun v5 hv5 => pt_if (fun q => pt_some ⟨fun z => absurd z.2 (hv5.1 q), fun _ => ⟨rfl, fun _ _ => rfl⟩⟩) (fun q5 => ?_)))
  have r1 := hv.2 q1
  have r3 := hv3.2 q3
  have r5 : isN (σ.1 B 0) x3 := hv5.2 q5
  have hm : chC (σ.1 B 0) x1 x2 x3 := ⟨⟨r1, r3⟩, r5⟩
  obtain ⟨p, hp, rfl⟩ := isR_n r1
  obtain ⟨k, hk, rfl⟩ := isR_n r3
  obtain ⟨l, hl, rfl, hlt⟩ := isN_n r5 hn.2
  obtain ⟨n, en, n0, n10⟩ := world_n r1.1 hn.2
  rw [en, nI_toInt (by omega)] at hlt
  rw [iN (m := p) (by omega), iN (m := k) (by omega), iN (m := l) (by omega)]
  refine pt_gR (v := 128) (hR 0 17 rfl) (pt_reg hB hR h4 hk (pt_gC (pt_zb (v_copyFrom hR k128.1 (rgW hB hR hk).2) (fun _ σ1 h => ?_))))
  obtain ⟨l1, e1⟩ := h
  have l1 : LF 129 σ σ1 := l1
  have e1 : ∀ u, u < 1024 → bt (σ1.2.1 129) u = bt (σ.2.1 (B + 6 + 2 * k + 1)) u := e1
  have R1 := l1.R hR
  refine pt_if (fun q => ?_) (fun q => ?_)
  · refine pt_gR (v := 128) (R1 0 17 rfl) (pt_gC (pt_zb (v_keepWithout R1 k128.1 hl) (fun _ σ2 h => ?_)))
    obtain ⟨l2, e2⟩ := h
    have l2 : LF 129 σ1 σ2 := l2
    have l12 := l1.tr l2
    have R2 := l12.R hR
    refine pt_gC (pt_zb (vl_store hB R2 (by rw [l12.2.1]; exact h4) hp (by rw [l12.1]; exact r1.1)) (fun v σ3 h => pt_some ⟨fun _ => ?_, fun z => absurd hm z⟩))
    refine CM_st hB hp (fun a ha => l12.2.2 a (lw_no ha).2.1) (fun u hu => ?_) h
    have e2 : bt (σ2.2.1 129) u = (bt (σ1.2.1 129) u && !u.testBit l) := e2 u hu
    unfold haS
    rw [e2, e1 u hu, en, mnn n0 n10, if_pos q, Bool.and_eq_true, Bool.not_eq_true']
    exact ⟨fun h => ⟨FI_in hF hk en n0 n10 u hu h.1, h.2, h.1⟩, fun h => ⟨h.2.2, h.2.1⟩⟩
  · refine pt_gR (v := 128) (R1 0 17 rfl) (pt_gC (pt_zb (v_flip R1 k128.1 hl) (fun _ σ2 h => ?_)))
    obtain ⟨l2, e2⟩ := h
    have l2 : LF 129 σ1 σ2 := l2
    have l12 := l1.tr l2
    have R2 := l12.R hR
    refine pt_gR (v := 128) (R2 0 17 rfl) (pt_gC (pt_zb (v_keepWithout R2 k128.1 hl) (fun _ σ3 h => ?_)))
    obtain ⟨l3, e3⟩ := h
    have l3 : LF 129 σ2 σ3 := l3
    have l13 := l12.tr l3
    have R3 := l13.R hR
    refine pt_gC (pt_zb (vl_store hB R3 (by rw [l13.2.1]; exact h4) hp (by rw [l13.1]; exact r1.1)) (fun v σ4 h => pt_some ⟨fun _ => ?_, fun z => absurd hm z⟩))
    refine CM_st hB hp (fun a ha => l13.2.2 a (lw_no ha).2.1) (fun u hu => ?_) h
    have e3 : bt (σ3.2.1 129) u = (bt (σ2.2.1 129) u && !u.testBit l) := e3 u hu
    have e2 : bt (σ2.2.1 129) u = bt (σ1.2.1 129) (u ^^^ 2 ^ l) := e2 u hu
    unfold haS
    rw [e3, e2, e1 _ (x_1024 hu hl), en, mnn n0 n10, if_neg q, Bool.and_eq_true, Bool.not_eq_true']
    exact ⟨fun h => ⟨x_in (FI_in hF hk en n0 n10) (by omega) n10 hu h.1, h.2, h.1⟩, fun h => ⟨h.2.2, h.2.1⟩⟩
/-! how many names a set has -/
def bc (s : Nat) : Nat := ct (fun i => s.testBit i) 10
set_option maxRecDepth 100000 in
theorem bc10 : ∀ s, s < 1024 → (f_J6_bitCount_0f7a4 0 (nI s) zs00).map Prod.fst = some (nI (bc s)) := by decide +kernel
theorem v_bitCount32 {s : Nat} (hs : s < 1024) : Px (f_J6_bitCount_0f7a4 N (nI s) σ) σ (fun v => v = nI (bc s)) := by
  have h := bc10 s hs
  rw [f_J6_bitCount_0f7a4.eq_1] at h ⊢
  exact pt_some ⟨rfl, Option.some.inj h⟩
theorem shb : ∀ k, k < 10 → ∀ s, s < 1024 → ((nI s >>> (nI k &&& 31)) &&& 1) = nI (if s.testBit k = true then 1 else 0) := by decide +kernel
theorem bc_le (s : Nat) : bc s ≤ 10 := ct_le _ _
theorem vr_namesOf {s : Nat} (hs : s < 1024) : Px (f_X12_namesOf N (nI s) σ) σ (fun v => v = nI (bc s)) := by
  rw [f_X12_namesOf.eq_1]
  refine pt_lp (fun x : Int32 × Int32 × zS => x.2.2 = σ ∧ ∃ m, (x.2.1 = nI m ∧ m ≤ 10) ∧ x.1 = nI (ct (fun i => s.testBit i) m)) (fun again x hI ih => ?_) N _ ⟨rfl, 0, ⟨rfl, Nat.zero_le _⟩, rfl⟩
  obtain ⟨x2, x3, τ⟩ := x
  obtain ⟨e, m, ⟨e3, hm⟩, e2⟩ := hI
  have e : τ = σ := e
  have e3 : x3 = nI m := e3
  have e2 : x2 = nI (ct (fun i => s.testBit i) m) := e2
  subst e
  subst e3
  subst e2
  rw [F_X12_namesOf_4.eq_1]
  refine pt_if (fun q => pt_some ⟨rfl, ?_⟩) (fun q => ?_)
  · have q : nI 10 ≤ nI m := q
    rw [nlt (by omega) (by omega)] at q
    show nI (ct _ m) = nI (ct _ 10)
    rw [show m = 10 by omega]
  · have q : ¬ nI 10 ≤ nI m := q
    rw [nlt (by omega) (by omega)] at q
    rw [nI_s1 (by omega), shb m (by omega) s hs, nI_plus]
    exact ih (_, nI (m + 1), τ) ⟨rfl, m + 1, ⟨rfl, by omega⟩, rfl⟩
theorem one11 : ∀ n, n < 11 → ((1 : Int32) <<< (nI n &&& 31)) = nI (2 ^ n) := by decide +kernel
def leC (m x1 x2 x3 : Int32) : Prop := (isR m x1 ∧ isR m x2) ∧ 0 ≤ x3.toInt ∧ x3.toInt ≤ 10
def leS (F : Nat → Bool) (M : Nat) (w : Int32) (u : Nat) : Prop := u < M ∧ F u = true ∧ nI (bc u) = w
theorem vl_level (hB : isWc B) (hR : RF σ.2.2) (h4 : σ.2.2 0 4 = B) (hn : 0 ≤ (σ.1 B 0).toInt ∧ (σ.1 B 0).toInt ≤ 10) (hF : FI σ B) : Pt (f_X11_level N 0 x1 x2 x3 σ) (fun r => (leC (σ.1 B 0) x1 x2 x3 → CM σ r.2 r.1 B x1.toInt.toNat (leS (bt (σ.2.1 (B + 6 + 2 * x2.toInt.toNat + 1))) (mn (σ.1 B 0)) x3)) ∧ (¬ leC (σ.1 B 0) x1 x2 x3 → r.1 = -2 ∧ LW σ r.2)) := by
  rw [f_X11_level.eq_1]
  refine pt_gC (pt_zbq (vl_isRegister h4) (fun v hv => pt_if (fun q => pt_some ⟨fun z => absurd z.1.1 (hv.1 q), fun _ => ⟨rfl, fun _ _ => rfl⟩⟩) (fun q1 => ?_)))
  refine pt_gC (pt_zbq (vl_isRegister h4) (fun v3 hv3 => pt_if (fun q => pt_some ⟨fun z => absurd z.1.2 (hv3.1 q), fun _ => ⟨rfl, fun _ _ => rfl⟩⟩) (fun q3 => ?_)))
  refine pt_if (fun q => pt_some ⟨fun z => absurd z.2.1 ?_, fun _ => ⟨rfl, fun _ _ => rfl⟩⟩) (fun qa => pt_if (fun qb => ?_) (fun q => pt_some ⟨fun z => absurd z.2.2 ?_, fun _ => ⟨rfl, fun _ _ => rfl⟩⟩))
  · rw [Int32.lt_iff_toInt_lt] at q
    simp only [Int32.reduceToInt] at q
    omega
  · have r1 := hv.2 q1
    have r3 := hv3.2 q3
    have hm : leC (σ.1 B 0) x1 x2 x3 := by
      rw [Int32.lt_iff_toInt_lt] at qa
      rw [Int32.le_iff_toInt_le] at qb
      simp only [Int32.reduceToInt] at qa qb
      exact ⟨⟨r1, r3⟩, by omega, qb⟩
    obtain ⟨p, hp, rfl⟩ := isR_n r1
    obtain ⟨k, hk, rfl⟩ := isR_n r3
    obtain ⟨n, en, n0, n10⟩ := world_n r1.1 hn.2
    have pn := p2le n10
    rw [iN (m := p) (by omega), iN (m := k) (by omega)]
    have I0 := FI_in hF hk en n0 n10
    have kk := rgW hB hR hk
    have wk : WR (B + 6 + 2 * k + 1) := by unfold WR; unfold isWc at hB; omega
    refine pt_reg hB hR h4 hk (pt_gR (v := 128) (hR 0 17 rfl) (pt_gC (pt_zb (v_clear hR k128.1) (fun _ σ1 h => ?_))))
    obtain ⟨l1, e1⟩ := h
    have l1 : LF 129 σ σ1 := l1
    have e1 : ∀ u, u < 1024 → bt (σ1.2.1 129) u = false := e1
    refine pt_lp (fun x : Int32 × zS => ∃ m, (x.1 = nI m ∧ m ≤ 2 ^ n) ∧ LF 129 σ x.2 ∧ ∀ u, u < 1024 → (bt (x.2.2.1 129) u = true ↔ u < m ∧ bt (σ.2.1 (B + 6 + 2 * k + 1)) u = true ∧ nI (bc u) = x3)) (fun again x hI ih => ?_) N _ ⟨0, ⟨rfl, Nat.zero_le _⟩, l1, fun u hu => by rw [e1 u hu]; exact ⟨fun z => (by cases z), fun z => absurd z.1 (by omega)⟩⟩
    obtain ⟨x5, τ⟩ := x
    obtain ⟨m, ⟨e, hm5⟩, lf, hu⟩ := hI
    have e : x5 = nI m := e
    subst e
    have lf : LF 129 σ τ := lf
    have hu : ∀ u, u < 1024 → (bt (τ.2.1 129) u = true ↔ u < m ∧ bt (σ.2.1 (B + 6 + 2 * k + 1)) u = true ∧ nI (bc u) = x3) := hu
    have R9 := lf.R hR
    have h49 : τ.2.2 0 4 = B := by rw [lf.2.1]; exact h4
    have n9 : τ.1 B 0 = nI n := by rw [lf.1]; exact en
    have ek : τ.2.1 (B + 6 + 2 * k + 1) = σ.2.1 (B + 6 + 2 * k + 1) := lf.2.2 _ (lw_no wk).2.1
    rw [F_X11_level_50.eq_1]
    refine pt_gR (v := B) h49 (pt_gI ?_)
    rw [n9, one11 n (by omega)]
    refine pt_if (fun q => ?_) (fun q => ?_)
    · rw [nlt (by omega) (by omega)] at q
      refine pt_gC (pt_zb (vl_store hB R9 h49 hp (by rw [n9, nI_toInt (by omega)]; omega)) (fun v σ4 h => pt_some ⟨fun _ => ?_, fun z => absurd hm z⟩))
      refine CM_st hB hp (fun a ha => lf.2.2 a (lw_no ha).2.1) (fun u hu' => (hu u hu').trans ?_) h
      unfold leS
      rw [en, mnn n0 n10, show m = 2 ^ n by omega]
    · rw [nlt (by omega) (by omega)] at q
      have skip : (¬ (bt (σ.2.1 (B + 6 + 2 * k + 1)) m = true ∧ nI (bc m) = x3)) → Pt (again (nI m + 1, τ)) (fun r => (leC (σ.1 B 0) (nI p) (nI k) x3 → CM σ r.2 r.1 B p (leS (bt (σ.2.1 (B + 6 + 2 * k + 1))) (mn (σ.1 B 0)) x3)) ∧ (¬ leC (σ.1 B 0) (nI p) (nI k) x3 → r.1 = -2 ∧ LW σ r.2)) := fun hno => by
        rw [nI_s1 (by omega)]
        refine ih (nI (m + 1), τ) ⟨m + 1, ⟨rfl, by omega⟩, lf, fun u hu' => (hu u hu').trans ⟨fun z => ⟨by omega, z.2⟩, fun z => ⟨?_, z.2⟩⟩⟩
        by_cases e : u = m
        · subst e; exact absurd z.2 hno
        · have := z.1; omega
      refine pt_zbq (v_bitCount32 (by omega)) (fun v hv => ?_)
      subst hv
      refine pt_if (fun q1 => ?_) (fun q1 => skip (fun z => q1 z.2))
      refine pt_gC (pt_zbq (v_holds R9 kk.2 (by omega)) (fun w hw => ?_))
      rw [ek] at hw
      refine pt_if (fun z => skip (fun y => ?_)) (fun z => ?_)
      · rw [vb_f hw z] at y; exact absurd y.1 (by decide)
      · refine pt_gR (v := 128) (R9 0 17 rfl) (pt_gC (pt_zb (v_include R9 k128.1 (by omega)) (fun _ σ2 h => ?_)))
        obtain ⟨l2, e2⟩ := h
        have l2 : LF 129 τ σ2 := l2
        rw [nI_s1 (by omega)]
        refine ih (nI (m + 1), σ2) ⟨m + 1, ⟨rfl, by omega⟩, lf.tr l2, fun u hu' => ?_⟩
        have e2 : bt (σ2.2.1 129) u = (bt (τ.2.1 129) u || decide (u = m)) := e2 u hu'
        show bt (σ2.2.1 129) u = true ↔ _
        rw [e2, Bool.or_eq_true, hu u hu', decide_eq_true_iff]
        constructor
        · rintro (y | y)
          · exact ⟨by omega, y.2⟩
          · rw [y]; exact ⟨by omega, vb_t hw z, q1⟩
        · intro y
          by_cases e : u = m
          · exact Or.inr e
          · exact Or.inl ⟨by have := y.1; omega, y.2⟩
  · rw [Int32.le_iff_toInt_le] at q
    simp only [Int32.reduceToInt] at q
    omega
end OPS2
end Zq13_28
section Zq13_29
section ROPS
variable {N : Nat} {σ τ : zS} {x1 x2 x3 x4 : Int32}
theorem n1024 {k : Nat} : (1024 : Int32) * nI k = nI (1024 * k) := by
  rw [show (1024 : Int32) = nI 1024 from rfl, nI_mul]
theorem nI_xor (a b : Nat) : nI a ^^^ nI b = nI (a ^^^ b) := by
  apply Int32.toBitVec_inj.mp
  rw [Int32.toBitVec_xor]
  show BitVec.ofNat 32 a ^^^ BitVec.ofNat 32 b = BitVec.ofNat 32 (a ^^^ b)
  apply BitVec.eq_of_getLsbD_eq
  intro i hi
  rw [BitVec.getLsbD_xor, BitVec.getLsbD_ofNat, BitVec.getLsbD_ofNat, BitVec.getLsbD_ofNat, Nat.testBit_xor, decide_eq_true hi]
  simp
theorem or_x {m k : Nat} (h : m.testBit k = false) : m ||| 2 ^ k = m ^^^ 2 ^ k := by
  apply Nat.eq_of_testBit_eq
  intro i
  rw [xb, Nat.testBit_or, Nat.testBit_two_pow]
  by_cases e : k = i
  · subst e; rw [h]; simp
  · rw [decide_eq_false e]; simp
theorem RM_of {σ0 : zS} {v : Int32} {p : Nat} {S : Nat → Prop} (e20 : σ.1 220 = σ0.1 220) (e19 : σ.1 219 = σ0.1 219) (h : RM σ τ v p S) : RM σ0 τ v p S := by
  unfold RM at h ⊢
  rw [e20, e19] at h
  exact h
theorem ZB_n {k : Nat} {g : Nat → Int32} (hk : ¬ (zKd k).1 = 16) (h : ZB σ.1) : ZB (zI σ k g).1 := fun a ha j => by
  rw [zI_n (fun e => hk (by rw [← e]; exact ha))]; exact h a ha j
theorem vr_makes (hN : 1048576 ≤ N) (hR : RF σ.2.2) (hB : ZB σ.1) (hn : 0 ≤ (σ.1 219 0).toInt ∧ (σ.1 219 0).toInt ≤ 10) : Pt (f_X12_makes N 218 x1 x2 x3 x4 σ) (fun r => r.2.2 = σ.2 ∧ (mkC (σ.1 219 0) x1 x2 x3 x4 → RM σ r.2 r.1 x1.toInt.toNat (CS x2 (rb (σ.1 220) (1024 * x3.toInt.toNat)) (rb (σ.1 220) (1024 * x4.toInt.toNat)) (mn (σ.1 219 0)))) ∧ (¬ mkC (σ.1 219 0) x1 x2 x3 x4 → r.1 = -2 ∧ r.2 = σ)) := by
  have mb := mn_le hn.2
  rw [f_X12_makes.eq_1]
  refine pt_gC (pt_zbq (vr_isRegister hR) (fun v hv => pt_if (fun q => pt_some ⟨rfl, fun z => absurd z.1.1 (hv.1 q), fun _ => ⟨rfl, rfl⟩⟩) (fun q1 => ?_)))
  refine pt_zbq vr_in (fun v2 hv2 => ?_)
  rw [i64_of] at hv2
  simp only [Int64.reduceToInt] at hv2
  refine pt_if (fun q => pt_some ⟨rfl, fun z => absurd z.2 (hv2.1 q), fun _ => ⟨rfl, rfl⟩⟩) (fun q2 => ?_)
  refine pt_gC (pt_zbq (vr_isRegister hR) (fun v3 hv3 => pt_if (fun q => pt_some ⟨rfl, fun z => absurd z.1.2.1 (hv3.1 q), fun _ => ⟨rfl, rfl⟩⟩) (fun q3 => ?_)))
  refine pt_gC (pt_zbq (vr_isRegister hR) (fun v5 hv5 => pt_if (fun q => pt_some ⟨rfl, fun z => absurd z.1.2.2 (hv5.1 q), fun _ => ⟨rfl, rfl⟩⟩) (fun q5 => ?_)))
  have hm : mkC (σ.1 219 0) x1 x2 x3 x4 := ⟨⟨hv.2 q1, hv3.2 q3, hv5.2 q5⟩, hv2.2 q2⟩
  obtain ⟨p, hp, rfl⟩ := isR_n (hv.2 q1)
  obtain ⟨k, hk, rfl⟩ := isR_n (hv3.2 q3)
  obtain ⟨l, hl, rfl⟩ := isR_n (hv5.2 q5)
  rw [iN (m := p) (by omega), iN (m := k) (by omega), iN (m := l) (by omega)]
  refine pt_gC (pt_zbq (vr_mn hR hn) (fun v9 hv9 => ?_))
  subst hv9
  refine pt_pI ?_
  have R1 : RF (zI σ 218 (upd (σ.1 218) 20 (nI (mn (σ.1 219 0))))).2.2 := hR
  have B1 : ZB (zI σ 218 (upd (σ.1 218) 20 (nI (mn (σ.1 219 0))))).1 := ZB_n (by decide) hB
  have a1 : (zI σ 218 (upd (σ.1 218) 20 (nI (mn (σ.1 219 0))))).1 218 20 = nI (mn (σ.1 219 0)) := by rw [zI_s, upd_s]
  have e1 : ∀ a, a ≠ 218 → (zI σ 218 (upd (σ.1 218) 20 (nI (mn (σ.1 219 0))))).1 a = σ.1 a := fun a ha => zI_n ha
  have t1 : (zI σ 218 (upd (σ.1 218) 20 (nI (mn (σ.1 219 0))))).2 = σ.2 := rfl
  generalize zI σ 218 (upd (σ.1 218) 20 (nI (mn (σ.1 219 0)))) = σ1 at R1 B1 a1 e1 t1 ⊢
  rw [n1024, n1024]
  refine pt_gR (v := 220) (R1 218 2 rfl) (pt_gR (v := 220) (R1 218 2 rfl) (pt_gC (pt_zb (pt_and (pt_ok (s_X12_gives_220_220 hN R1 B1 (by rw [a1, nI_toInt (by omega)]; omega) (by rw [nI_toInt (by omega)]; omega) (by rw [nI_toInt (by omega)]; omega))) (vr_gives R1 (by omega) (by omega) a1 mb (by decide) (by decide))) (fun _ σ2 h => ?_))))
  obtain ⟨⟨_, B2⟩, f2, h2⟩ := h
  have B2 : ZB σ2.1 := B2
  have f2 : FG [227, 228, 229] σ1 σ2 := f2
  have R2 := f2.R R1
  have e19 : σ2.1 219 = σ.1 219 := (f2.2 219 (by decide)).trans (e1 219 (by decide))
  have e20 : σ2.1 220 = σ.1 220 := (f2.2 220 (by decide)).trans (e1 220 (by decide))
  have S2 : Md 227 σ2 1024 (CS x2 (rb (σ.1 220) (1024 * k)) (rb (σ.1 220) (1024 * l)) (mn (σ.1 219 0))) := Md_z B2 rfl (fun u hu => by
    have := h2 u hu
    rw [e1 220 (by decide)] at this
    exact this)
  refine pt_gC (pt_zb (vr_lays R2 (by rw [e19]; exact hn) hp S2) (fun v σ3 h => pt_some ⟨h.1.1.trans (f2.1.trans t1), fun _ => RM_of e20 e19 h.2, fun z => absurd hm z⟩))
theorem vr_turn (hN : 1048576 ≤ N) (hR : RF σ.2.2) (hB : ZB σ.1) (hn : 0 ≤ (σ.1 219 0).toInt ∧ (σ.1 219 0).toInt ≤ 10) : Pt (f_X12_turn N 218 x1 x2 x3 σ) (fun r => r.2.2 = σ.2 ∧ (tuC (σ.1 219 0) x1 x2 x3 → RM σ r.2 r.1 x1.toInt.toNat (RS x2 (rb (σ.1 220) (1024 * x3.toInt.toNat)) (mn (σ.1 219 0)))) ∧ (¬ tuC (σ.1 219 0) x1 x2 x3 → r.1 = -2 ∧ r.2 = σ)) := by
  have mb := mn_le hn.2
  rw [f_X12_turn.eq_1]
  refine pt_gC (pt_zbq (vr_isRegister hR) (fun v hv => pt_if (fun q => pt_some ⟨rfl, fun z => absurd z.1.1 (hv.1 q), fun _ => ⟨rfl, rfl⟩⟩) (fun q1 => ?_)))
  refine pt_zbq vr_in (fun v2 hv2 => ?_)
  rw [i64_of] at hv2
  simp only [Int64.reduceToInt] at hv2
  refine pt_if (fun q => pt_some ⟨rfl, fun z => absurd z.2 (hv2.1 q), fun _ => ⟨rfl, rfl⟩⟩) (fun q2 => ?_)
  refine pt_gC (pt_zbq (vr_isRegister hR) (fun v3 hv3 => pt_if (fun q => pt_some ⟨rfl, fun z => absurd z.1.2 (hv3.1 q), fun _ => ⟨rfl, rfl⟩⟩) (fun q3 => ?_)))
  have hm : tuC (σ.1 219 0) x1 x2 x3 := ⟨⟨hv.2 q1, hv3.2 q3⟩, hv2.2 q2⟩
  obtain ⟨p, hp, rfl⟩ := isR_n (hv.2 q1)
  obtain ⟨k, hk, rfl⟩ := isR_n (hv3.2 q3)
  rw [iN (m := p) (by omega), iN (m := k) (by omega)]
  refine pt_gC (pt_zbq (vr_mn hR hn) (fun v9 hv9 => ?_))
  subst hv9
  refine pt_pI ?_
  have R1 : RF (zI σ 218 (upd (σ.1 218) 20 (nI (mn (σ.1 219 0))))).2.2 := hR
  have B1 : ZB (zI σ 218 (upd (σ.1 218) 20 (nI (mn (σ.1 219 0))))).1 := ZB_n (by decide) hB
  have a1 : (zI σ 218 (upd (σ.1 218) 20 (nI (mn (σ.1 219 0))))).1 218 20 = nI (mn (σ.1 219 0)) := by rw [zI_s, upd_s]
  have e1 : ∀ a, a ≠ 218 → (zI σ 218 (upd (σ.1 218) 20 (nI (mn (σ.1 219 0))))).1 a = σ.1 a := fun a ha => zI_n ha
  have t1 : (zI σ 218 (upd (σ.1 218) 20 (nI (mn (σ.1 219 0))))).2 = σ.2 := rfl
  generalize zI σ 218 (upd (σ.1 218) 20 (nI (mn (σ.1 219 0)))) = σ1 at R1 B1 a1 e1 t1 ⊢
  rw [n1024]
  refine pt_gR (v := 220) (R1 218 2 rfl) (pt_gC (pt_zb (pt_and (pt_ok (s_X12_turns_220 hN R1 B1 (by rw [a1, nI_toInt (by omega)]; omega) (by rw [nI_toInt (by omega)]; omega))) (vr_turns R1 (by omega) a1 mb (by decide))) (fun _ σ2 h => ?_)))
  obtain ⟨⟨_, B2⟩, f2, h2⟩ := h
  have B2 : ZB σ2.1 := B2
  have f2 : FG [227, 228] σ1 σ2 := f2
  have R2 := f2.R R1
  have e19 : σ2.1 219 = σ.1 219 := (f2.2 219 (by decide)).trans (e1 219 (by decide))
  have e20 : σ2.1 220 = σ.1 220 := (f2.2 220 (by decide)).trans (e1 220 (by decide))
  have S2 : Md 227 σ2 1024 (RS x2 (rb (σ.1 220) (1024 * k)) (mn (σ.1 219 0))) := Md_z B2 rfl (fun u hu => by
    have := h2 u hu
    rw [e1 220 (by decide)] at this
    exact this)
  refine pt_gC (pt_zb (vr_lays R2 (by rw [e19]; exact hn) hp S2) (fun v σ3 h => pt_some ⟨h.1.1.trans (f2.1.trans t1), fun _ => RM_of e20 e19 h.2, fun z => absurd hm z⟩))
theorem vr_sets (hR : RF σ.2.2) (hn : 0 ≤ (σ.1 219 0).toInt ∧ (σ.1 219 0).toInt ≤ 10) (h01 : x3 = 0 ∨ x3 = 1) : Pt (f_X12_sets N 218 x1 x2 x3 σ) (fun r => r.2.2 = σ.2 ∧ (seC (σ.1 219 0) x1 x2 → r.2.1 220 = upd (σ.1 220) (1024 * x1.toInt.toNat + x2.toInt.toNat) x3 ∧ (r.1 = 0 ∨ r.1 = 1) ∧ (r.1 = 0 ↔ (rb (σ.1 220) (1024 * x1.toInt.toNat) x2.toInt.toNat = true ↔ x3 = 1))) ∧ (¬ seC (σ.1 219 0) x1 x2 → r.1 = -2 ∧ r.2 = σ)) := by
  have mb := mn_le hn.2
  rw [f_X12_sets.eq_1]
  refine pt_gC (pt_zbq (vr_isRegister hR) (fun v hv => pt_if (fun q => pt_some ⟨rfl, fun z => absurd z.1 (hv.1 q), fun _ => ⟨rfl, rfl⟩⟩) (fun q1 => ?_)))
  refine pt_gC (pt_zbq (vr_isSet hR hn) (fun v3 hv3 => pt_if (fun q => pt_some ⟨rfl, fun z => absurd z.2 (hv3.1 q), fun _ => ⟨rfl, rfl⟩⟩) (fun q3 => ?_)))
  have hm : seC (σ.1 219 0) x1 x2 := ⟨hv.2 q1, hv3.2 q3⟩
  obtain ⟨p, hp, rfl⟩ := isR_n (hv.2 q1)
  obtain ⟨s, rfl, hs⟩ := isS_n hn.2 (hv3.2 q3)
  rw [iN (m := p) (by omega), iN (m := s) (by omega)]
  have e : ((1024 : Int32) * nI p + nI s).toInt.toNat = 1024 * p + s := by
    rw [n1024, nI_plus, nI_toInt (by omega)]; omega
  refine pt_gC (pt_zbq (vr_of hR hp (by omega)) (fun w hw => pt_gR (v := 220) (hR 218 2 rfl) (pt_s16 ?_)))
  rw [e, nrz h01]
  refine pt_if (fun q => pt_some ⟨rfl, fun _ => ⟨zI_s, Or.inl rfl, fun _ => ?_, fun _ => rfl⟩, fun z => absurd hm z⟩) (fun q => pt_some ⟨rfl, fun _ => ⟨zI_s, Or.inr rfl, fun z => absurd (show (1 : Int32) = 0 from z) (by decide), fun z => absurd ?_ q⟩, fun z => absurd hm z⟩)
  · rw [← hw.2, q]
  · rcases h01 with y | y
    · rcases hw.1 with k | k
      · rw [k, y]
      · have := z.mp (hw.2.mp k)
        rw [y] at this; exact absurd this (by decide)
    · rw [y]; exact hw.2.mpr (z.mpr y)
theorem vr_change (hR : RF σ.2.2) (hn : 0 ≤ (σ.1 219 0).toInt ∧ (σ.1 219 0).toInt ≤ 10) : Pt (f_X12_change N 218 x1 x2 x3 σ) (fun r => r.2.2 = σ.2 ∧ (chC (σ.1 219 0) x1 x2 x3 → RM σ r.2 r.1 x1.toInt.toNat (chS (rb (σ.1 220) (1024 * x2.toInt.toNat)) (mn (σ.1 219 0)) x3.toInt.toNat)) ∧ (¬ chC (σ.1 219 0) x1 x2 x3 → r.1 = -2 ∧ r.2 = σ)) := by
  have mb := mn_le hn.2
  rw [f_X12_change.eq_1]
  refine pt_gC (pt_zbq (vr_isRegister hR) (fun v hv => pt_if (fun q => pt_some ⟨rfl, fun z => absurd z.1.1 (hv.1 q), fun _ => ⟨rfl, rfl⟩⟩) (fun q1 => ?_)))
  refine pt_gC (pt_zbq (vr_isRegister hR) (fun v3 hv3 => pt_if (fun q => pt_some ⟨rfl, fun z => absurd z.1.2 (hv3.1 q), fun _ => ⟨rfl, rfl⟩⟩) (fun q3 => ?_)))
  refine pt_gC (pt_zbq (vr_isName hR hn) (fun v5 hv5 => pt_if (fun q => pt_some ⟨rfl, fun z => absurd z.2 (hv5.1 q), fun _ => ⟨rfl, rfl⟩⟩) (fun q5 => ?_)))
  have r5 : isN (σ.1 219 0) x3 := hv5.2 q5
  have hm : chC (σ.1 219 0) x1 x2 x3 := ⟨⟨hv.2 q1, hv3.2 q3⟩, r5⟩
  obtain ⟨p, hp, rfl⟩ := isR_n (hv.2 q1)
  obtain ⟨k, hk, rfl⟩ := isR_n (hv3.2 q3)
  obtain ⟨l, hl, rfl, hlt⟩ := isN_n r5 hn.2
  rw [iN (m := p) (by omega), iN (m := k) (by omega), iN (m := l) (by omega)]
  refine pt_lp (fun x : Int32 × zS => ∃ m, (x.1 = nI m ∧ m ≤ 1024) ∧ FG [227] σ x.2 ∧ Md 227 x.2 m (chS (rb (σ.1 220) (1024 * k)) (mn (σ.1 219 0)) l)) (fun again x hI ih => ?_) N _ ⟨0, ⟨rfl, Nat.zero_le _⟩, FG.rf, fun u hu => absurd hu (Nat.not_lt_zero _)⟩
  obtain ⟨x4, τ⟩ := x
  obtain ⟨m, ⟨e, hm4⟩, hf, hS⟩ := hI
  have e : x4 = nI m := e
  subst e
  have hf : FG [227] σ τ := hf
  have hS : Md 227 τ m (chS (rb (σ.1 220) (1024 * k)) (mn (σ.1 219 0)) l) := hS
  have R9 := hf.R hR
  have e19 : τ.1 219 = σ.1 219 := hf.2 219 (by decide)
  have e20 : τ.1 220 = σ.1 220 := hf.2 220 (by decide)
  rw [F_X12_change_30.eq_1]
  refine pt_if (fun q => ?_) (fun q => ?_)
  · have q : nI 1024 ≤ nI m := q
    rw [nlt (by omega) (by omega)] at q
    rw [show m = 1024 by omega] at hS
    refine pt_gC (pt_zb (vr_lays R9 (by rw [e19]; exact hn) hp hS) (fun v σ3 h => pt_some ⟨h.1.1.trans hf.1, fun _ => RM_of e20 e19 h.2, fun z => absurd hm z⟩))
  · have q : ¬ nI 1024 ≤ nI m := q
    rw [nlt (by omega) (by omega)] at q
    have K : ∀ v : Int32, ((v = 1 ∧ chS (rb (σ.1 220) (1024 * k)) (mn (σ.1 219 0)) l m) ∨ (v = 0 ∧ ¬ chS (rb (σ.1 220) (1024 * k)) (mn (σ.1 219 0)) l m)) → Pt (zl (sI 16 227 (nI m) v τ) fun σ' => again (nI m + 1, σ')) (fun r => r.2.2 = σ.2 ∧ (chC (σ.1 219 0) (nI p) (nI k) (nI l) → RM σ r.2 r.1 p (chS (rb (σ.1 220) (1024 * k)) (mn (σ.1 219 0)) l)) ∧ (¬ chC (σ.1 219 0) (nI p) (nI k) (nI l) → r.1 = -2 ∧ r.2 = σ)) := fun v hv => by
      refine pt_s16 ?_
      rw [iN (by omega), nI_s1 (by omega)]
      exact ih (nI (m + 1), _) ⟨m + 1, ⟨rfl, by omega⟩, hf.u (by simp), Md_p hS hv⟩
    refine pt_gR (v := 227) (R9 218 17 rfl) (pt_gC (pt_zbq (vr_mn R9 (by rw [e19]; exact hn)) (fun v9 hv9 => ?_)))
    rw [e19] at hv9
    subst hv9
    rw [one10 l hl, nI_xor]
    refine pt_if (fun z => K 0 (Or.inr ⟨rfl, fun y => ?_⟩)) (fun z => ?_)
    · rw [nlt (by omega) (by omega)] at z
      have := y.1; omega
    · rw [nlt (by omega) (by omega)] at z
      refine pt_gC (pt_zbq (vr_of R9 hk (x_1024 (by omega) hl)) (fun w hw => ?_))
      rw [e20] at hw
      refine pt_if (fun y => K 0 (Or.inr ⟨rfl, fun s => ?_⟩)) (fun y => K 1 (Or.inl ⟨rfl, by omega, vb_t hw y⟩))
      have := s.2
      rw [vb_f hw y] at this; cases this
theorem vr_half (hR : RF σ.2.2) (hn : 0 ≤ (σ.1 219 0).toInt ∧ (σ.1 219 0).toInt ≤ 10) : Pt (f_X12_half N 218 x1 x2 x3 x4 σ) (fun r => r.2.2 = σ.2 ∧ (chC (σ.1 219 0) x1 x2 x3 → RM σ r.2 r.1 x1.toInt.toNat (haS (rb (σ.1 220) (1024 * x2.toInt.toNat)) (mn (σ.1 219 0)) x3.toInt.toNat x4)) ∧ (¬ chC (σ.1 219 0) x1 x2 x3 → r.1 = -2 ∧ r.2 = σ)) := by
  have mb := mn_le hn.2
  rw [f_X12_half.eq_1]
  refine pt_gC (pt_zbq (vr_isRegister hR) (fun v hv => pt_if (fun q => pt_some ⟨rfl, fun z => absurd z.1.1 (hv.1 q), fun _ => ⟨rfl, rfl⟩⟩) (fun q1 => ?_)))
  refine pt_gC (pt_zbq (vr_isRegister hR) (fun v3 hv3 => pt_if (fun q => pt_some ⟨rfl, fun z => absurd z.1.2 (hv3.1 q), fun _ => ⟨rfl, rfl⟩⟩) (fun q3 => ?_)))
  refine pt_gC (pt_zbq (vr_isName hR hn) (fun v5 hv5 => pt_if (fun q => pt_some ⟨rfl, fun z => absurd z.2 (hv5.1 q), fun _ => ⟨rfl, rfl⟩⟩) (fun q5 => ?_)))
  have r5 : isN (σ.1 219 0) x3 := hv5.2 q5
  have hm : chC (σ.1 219 0) x1 x2 x3 := ⟨⟨hv.2 q1, hv3.2 q3⟩, r5⟩
  obtain ⟨p, hp, rfl⟩ := isR_n (hv.2 q1)
  obtain ⟨k, hk, rfl⟩ := isR_n (hv3.2 q3)
  obtain ⟨l, hl, rfl, hlt⟩ := isN_n r5 hn.2
  rw [iN (m := p) (by omega), iN (m := k) (by omega), iN (m := l) (by omega), one10 l hl]
  refine pt_lp (fun x : Int32 × zS => ∃ m, (x.1 = nI m ∧ m ≤ 1024) ∧ FG [227] σ x.2 ∧ Md 227 x.2 m (haS (rb (σ.1 220) (1024 * k)) (mn (σ.1 219 0)) l x4)) (fun again x hI ih => ?_) N _ ⟨0, ⟨rfl, Nat.zero_le _⟩, FG.rf, fun u hu => absurd hu (Nat.not_lt_zero _)⟩
  obtain ⟨x6, τ⟩ := x
  obtain ⟨m, ⟨e, hm4⟩, hf, hS⟩ := hI
  have e : x6 = nI m := e
  subst e
  have hf : FG [227] σ τ := hf
  have hS : Md 227 τ m (haS (rb (σ.1 220) (1024 * k)) (mn (σ.1 219 0)) l x4) := hS
  have R9 := hf.R hR
  have e19 : τ.1 219 = σ.1 219 := hf.2 219 (by decide)
  have e20 : τ.1 220 = σ.1 220 := hf.2 220 (by decide)
  rw [F_X12_half_35.eq_1]
  refine pt_if (fun q => ?_) (fun q => ?_)
  · have q : nI 1024 ≤ nI m := q
    rw [nlt (by omega) (by omega)] at q
    rw [show m = 1024 by omega] at hS
    refine pt_gC (pt_zb (vr_lays R9 (by rw [e19]; exact hn) hp hS) (fun v σ3 h => pt_some ⟨h.1.1.trans hf.1, fun _ => RM_of e20 e19 h.2, fun z => absurd hm z⟩))
  · have q : ¬ nI 1024 ≤ nI m := q
    rw [nlt (by omega) (by omega)] at q
    have K : ∀ v : Int32, ((v = 1 ∧ haS (rb (σ.1 220) (1024 * k)) (mn (σ.1 219 0)) l x4 m) ∨ (v = 0 ∧ ¬ haS (rb (σ.1 220) (1024 * k)) (mn (σ.1 219 0)) l x4 m)) → Pt (zl (sI 16 227 (nI m) v τ) fun σ' => again (nI m + 1, σ')) (fun r => r.2.2 = σ.2 ∧ (chC (σ.1 219 0) (nI p) (nI k) (nI l) → RM σ r.2 r.1 p (haS (rb (σ.1 220) (1024 * k)) (mn (σ.1 219 0)) l x4)) ∧ (¬ chC (σ.1 219 0) (nI p) (nI k) (nI l) → r.1 = -2 ∧ r.2 = σ)) := fun v hv => by
      refine pt_s16 ?_
      rw [iN (by omega), nI_s1 (by omega)]
      exact ih (nI (m + 1), _) ⟨m + 1, ⟨rfl, by omega⟩, hf.u (by simp), Md_p hS hv⟩
    have go : ∀ a : Nat, a < 1024 → m < mn (σ.1 219 0) → m.testBit l = false → (if x4 = 0 then m else m ^^^ 2 ^ l) = a → Pt (J_X12_half_83 N again 218 (nI p) (nI k) x4 (nI (2 ^ l)) (nI m) (nI a) (nI k) 218 (nI m) 227 τ) (fun r => r.2.2 = σ.2 ∧ (chC (σ.1 219 0) (nI p) (nI k) (nI l) → RM σ r.2 r.1 p (haS (rb (σ.1 220) (1024 * k)) (mn (σ.1 219 0)) l x4)) ∧ (¬ chC (σ.1 219 0) (nI p) (nI k) (nI l) → r.1 = -2 ∧ r.2 = σ)) := fun a ha lt tb ea => by
      rw [J_X12_half_83.eq_1]
      refine pt_gC (pt_zbq (vr_of R9 hk ha) (fun w hw => ?_))
      rw [e20] at hw
      refine pt_if (fun y => K 0 (Or.inr ⟨rfl, fun s => ?_⟩)) (fun y => K 1 (Or.inl ⟨rfl, lt, tb, by rw [ea]; exact vb_t hw y⟩))
      have := s.2.2
      rw [ea, vb_f hw y] at this; cases this
    refine pt_gR (v := 227) (R9 218 17 rfl) (pt_gC (pt_zbq (vr_mn R9 (by rw [e19]; exact hn)) (fun v9 hv9 => ?_)))
    rw [e19] at hv9
    subst hv9
    refine pt_if (fun z => K 0 (Or.inr ⟨rfl, fun y => ?_⟩)) (fun z => ?_)
    · rw [nlt (by omega) (by omega)] at z
      have := y.1; omega
    · rw [nlt (by omega) (by omega)] at z
      refine pt_if (fun y => ?_) (fun y => K 0 (Or.inr ⟨rfl, fun s => y ((andk (by omega)).mpr s.2.1)⟩))
      have tb := (andk (by omega)).mp y
      refine pt_if (fun w => go m (by omega) (by omega) tb (if_pos w)) (fun w => ?_)
      rw [nI_or, or_x tb]
      exact go _ (x_1024 (by omega) hl) (by omega) tb (if_neg w)
theorem vr_level (hR : RF σ.2.2) (hn : 0 ≤ (σ.1 219 0).toInt ∧ (σ.1 219 0).toInt ≤ 10) : Pt (f_X12_level N 218 x1 x2 x3 σ) (fun r => r.2.2 = σ.2 ∧ (leC (σ.1 219 0) x1 x2 x3 → RM σ r.2 r.1 x1.toInt.toNat (leS (rb (σ.1 220) (1024 * x2.toInt.toNat)) (mn (σ.1 219 0)) x3)) ∧ (¬ leC (σ.1 219 0) x1 x2 x3 → r.1 = -2 ∧ r.2 = σ)) := by
  have mb := mn_le hn.2
  rw [f_X12_level.eq_1]
  refine pt_gC (pt_zbq (vr_isRegister hR) (fun v hv => pt_if (fun q => pt_some ⟨rfl, fun z => absurd z.1.1 (hv.1 q), fun _ => ⟨rfl, rfl⟩⟩) (fun q1 => ?_)))
  refine pt_gC (pt_zbq (vr_isRegister hR) (fun v3 hv3 => pt_if (fun q => pt_some ⟨rfl, fun z => absurd z.1.2 (hv3.1 q), fun _ => ⟨rfl, rfl⟩⟩) (fun q3 => ?_)))
  refine pt_zbq vr_in (fun v2 hv2 => ?_)
  rw [i64_of] at hv2
  simp only [Int64.reduceToInt] at hv2
  refine pt_if (fun q => pt_some ⟨rfl, fun z => absurd z.2 (hv2.1 q), fun _ => ⟨rfl, rfl⟩⟩) (fun q2 => ?_)
  have hm : leC (σ.1 219 0) x1 x2 x3 := ⟨⟨hv.2 q1, hv3.2 q3⟩, hv2.2 q2⟩
  obtain ⟨p, hp, rfl⟩ := isR_n (hv.2 q1)
  obtain ⟨k, hk, rfl⟩ := isR_n (hv3.2 q3)
  rw [iN (m := p) (by omega), iN (m := k) (by omega)]
  refine pt_lp (fun x : Int32 × zS => ∃ m, (x.1 = nI m ∧ m ≤ 1024) ∧ FG [227] σ x.2 ∧ Md 227 x.2 m (leS (rb (σ.1 220) (1024 * k)) (mn (σ.1 219 0)) x3)) (fun again x hI ih => ?_) N _ ⟨0, ⟨rfl, Nat.zero_le _⟩, FG.rf, fun u hu => absurd hu (Nat.not_lt_zero _)⟩
  obtain ⟨x4, τ⟩ := x
  obtain ⟨m, ⟨e, hm4⟩, hf, hS⟩ := hI
  have e : x4 = nI m := e
  subst e
  have hf : FG [227] σ τ := hf
  have hS : Md 227 τ m (leS (rb (σ.1 220) (1024 * k)) (mn (σ.1 219 0)) x3) := hS
  have R9 := hf.R hR
  have e19 : τ.1 219 = σ.1 219 := hf.2 219 (by decide)
  have e20 : τ.1 220 = σ.1 220 := hf.2 220 (by decide)
  rw [F_X12_level_34.eq_1]
  refine pt_if (fun q => ?_) (fun q => ?_)
  · have q : nI 1024 ≤ nI m := q
    rw [nlt (by omega) (by omega)] at q
    rw [show m = 1024 by omega] at hS
    refine pt_gC (pt_zb (vr_lays R9 (by rw [e19]; exact hn) hp hS) (fun v σ3 h => pt_some ⟨h.1.1.trans hf.1, fun _ => RM_of e20 e19 h.2, fun z => absurd hm z⟩))
  · have q : ¬ nI 1024 ≤ nI m := q
    rw [nlt (by omega) (by omega)] at q
    have K : ∀ v : Int32, ((v = 1 ∧ leS (rb (σ.1 220) (1024 * k)) (mn (σ.1 219 0)) x3 m) ∨ (v = 0 ∧ ¬ leS (rb (σ.1 220) (1024 * k)) (mn (σ.1 219 0)) x3 m)) → Pt (zl (sI 16 227 (nI m) v τ) fun σ' => again (nI m + 1, σ')) (fun r => r.2.2 = σ.2 ∧ (leC (σ.1 219 0) (nI p) (nI k) x3 → RM σ r.2 r.1 p (leS (rb (σ.1 220) (1024 * k)) (mn (σ.1 219 0)) x3)) ∧ (¬ leC (σ.1 219 0) (nI p) (nI k) x3 → r.1 = -2 ∧ r.2 = σ)) := fun v hv => by
      refine pt_s16 ?_
      rw [iN (by omega), nI_s1 (by omega)]
      exact ih (nI (m + 1), _) ⟨m + 1, ⟨rfl, by omega⟩, hf.u (by simp), Md_p hS hv⟩
    refine pt_gR (v := 227) (R9 218 17 rfl) (pt_gC (pt_zbq (vr_mn R9 (by rw [e19]; exact hn)) (fun v9 hv9 => ?_)))
    rw [e19] at hv9
    subst hv9
    refine pt_if (fun z => K 0 (Or.inr ⟨rfl, fun y => ?_⟩)) (fun z => ?_)
    · rw [nlt (by omega) (by omega)] at z
      have := y.1; omega
    · rw [nlt (by omega) (by omega)] at z
      refine pt_gC (pt_zbq (vr_of R9 hk (by omega)) (fun w hw => ?_))
      rw [e20] at hw
      refine pt_if (fun y => K 0 (Or.inr ⟨rfl, fun s => ?_⟩)) (fun y => pt_zbq (vr_namesOf (by omega)) (fun v16 hv16 => ?_))
      · have := s.2.1
        rw [vb_f hw y] at this; cases this
      · subst hv16
        exact pt_if (fun e => K 1 (Or.inl ⟨rfl, by omega, vb_t hw y, e⟩)) (fun e => K 0 (Or.inr ⟨rfl, fun s => e s.2.2⟩))
end ROPS
end Zq13_29
section Zq13_30
/-! ===== sums as lists of steps: push register 0, empty 1, all 2, add a set 3, combine 4, reshape 5, store 6 ===== -/
section MV
theorem Rc.st {C : Type} {st : C → Option (Option C)} {c d e : C} (h : st c = some (some d)) (h2 : Rc st d e) : Rc st c e := by
  obtain ⟨k, hk⟩ := h2
  refine ⟨k + 1, ?_⟩
  show (st c).bind (fun o => o.bind (fun c1 => itG st k c1)) = some e
  rw [h]; exact hk
theorem itG_tr {C : Type} {st : C → Option (Option C)} : ∀ {k l : Nat} {c d e : C}, itG st k c = some d → itG st l d = some e → itG st (k + l) c = some e
  | 0, l, c, d, e, h, h2 => by
    have : c = d := Option.some.inj h
    rw [this, Nat.zero_add]; exact h2
  | k + 1, l, c, d, e, h, h2 => by
    have h : (st c).bind (fun o => o.bind (fun c1 => itG st k c1)) = some d := h
    obtain ⟨o, ho, h⟩ := Option.bind_eq_some_iff.mp h
    obtain ⟨c1, hc, h⟩ := Option.bind_eq_some_iff.mp h
    rw [show k + 1 + l = (k + l) + 1 by omega]
    show (st c).bind (fun o => o.bind (fun c1 => itG st (k + l) c1)) = some e
    rw [ho, hc]
    exact itG_tr h h2
theorem Rc.tr {C : Type} {st : C → Option (Option C)} {c d e : C} (h : Rc st c d) (h2 : Rc st d e) : Rc st c e := by
  obtain ⟨k, hk⟩ := h
  obtain ⟨l, hl⟩ := h2
  exact ⟨k + l, itG_tr hk hl⟩
abbrev zOp : Type := Int32 × Int32
def opW (w : Int32) : zOp := if w < 50 then (4, w) else (5, w - 50)
/-- what waits is settled, down to rank r -/
def setl (r : Int32) : List Int32 → List zOp → List Int32 × List zOp
  | [], O => ([], O)
  | w :: W, O => if rkI w < r then (w :: W, O) else setl r W (O ++ [opW w])
theorem setl_s {r w : Int32} {W : List Int32} {O : List zOp} (h : rkI w < r) : setl r (w :: W) O = (w :: W, O) := if_pos h
theorem setl_p {r w : Int32} {W : List Int32} {O : List zOp} (h : ¬ rkI w < r) : setl r (w :: W) O = setl r W (O ++ [opW w]) := if_neg h
theorem setl_setl {r r' : Int32} (h : r ≤ r') : ∀ (W : List Int32) (O : List zOp), setl r (setl r' W O).1 (setl r' W O).2 = setl r W O
  | [], O => rfl
  | w :: W, O => by
    by_cases q : rkI w < r'
    · rw [setl_s q]
    · rw [setl_p q, setl_setl h W, setl_p (fun z => q (by rw [Int32.lt_iff_toInt_lt] at z ⊢; rw [Int32.le_iff_toInt_le] at h; omega))]
/-- nothing of it can be settled: none waits, or a bracket stands on top -/
def Lw (W : List Int32) : Prop := W = [] ∨ ∃ V, W = 100 :: V
theorem Lw_s {W : List Int32} {O : List zOp} {r : Int32} (h : Lw W) (h1 : 1 ≤ r) : setl r W O = (W, O) := by
  rcases h with rfl | ⟨V, rfl⟩
  · rfl
  · have e : rkI 100 = 0 := by decide
    refine setl_s ?_
    rw [e, Int32.lt_iff_toInt_lt]
    rw [Int32.le_iff_toInt_le] at h1
    simp only [Int32.reduceToInt] at h1 ⊢
    omega
/-- the sign of a token -/
def sgv (k : Int32) : Int32 := if k = 43 then 0 else if k = 45 then 1 else if k = 38 then 2 else if k = 42 then 3 else if k = 47 then 4 else if k = 37 then 5 else if k = 35 then 6 else -1
theorem sgv_cb {k : Int32} (h : isCb k) : 0 ≤ (sgv k).toInt ∧ (sgv k).toInt ≤ 6 := by
  unfold isCb at h
  rcases h with rfl | rfl | rfl | rfl | rfl | rfl | rfl <;> decide
theorem v_combination {N : Nat} {x0 : Int32} {σ : zS} : Px (f_X5_combination N x0 σ) σ (fun v => v = sgv x0) := by
  rw [f_X5_combination.eq_1]
  refine pt_if (fun h => pt_some ⟨rfl, by rw [h]; rfl⟩) (fun a35 => pt_if (fun h => pt_some ⟨rfl, by rw [h]; rfl⟩) (fun _ => pt_if (fun h => pt_some ⟨rfl, by rw [h]; rfl⟩) (fun a37 => pt_if (fun h => pt_some ⟨rfl, by rw [h]; rfl⟩) (fun a38 => pt_if (fun h => pt_some ⟨rfl, by rw [h]; rfl⟩) (fun _ => pt_if (fun h => pt_some ⟨rfl, by rw [h]; rfl⟩) (fun _ => pt_if (fun h => pt_some ⟨rfl, by rw [h]; rfl⟩) (fun _ => pt_if (fun h => pt_some ⟨rfl, by rw [h]; rfl⟩) (fun a42 => pt_if (fun h => pt_some ⟨rfl, by rw [h]; rfl⟩) (fun a43 => pt_if (fun h => pt_some ⟨rfl, by rw [h]; rfl⟩) (fun _ => pt_if (fun h => pt_some ⟨rfl, by rw [h]; rfl⟩) (fun a45 => pt_if (fun h => pt_some ⟨rfl, by rw [h]; rfl⟩) (fun _ => pt_if (fun h => pt_some ⟨rfl, by rw [h]; rfl⟩) (fun a47 => pt_some ⟨rfl, ?_⟩)))))))))))))
  unfold sgv
  rw [if_neg a43, if_neg a45, if_neg a38, if_neg a42, if_neg a47, if_neg a37, if_neg a35]
theorem vr_signOf {N : Nat} {x0 : Int32} {σ : zS} : Px (f_X12_signOf N x0 σ) σ (fun v => v = sgv x0) := by
  rw [f_X12_signOf.eq_1]
  unfold sgv
  refine pt_if (fun h => pt_some ⟨rfl, by rw [if_pos h]⟩) (fun h1 => ?_)
  rw [if_neg h1]
  refine pt_if (fun h => pt_some ⟨rfl, by rw [if_pos h]⟩) (fun h1 => ?_)
  rw [if_neg h1]
  refine pt_if (fun h => pt_some ⟨rfl, by rw [if_pos h]⟩) (fun h1 => ?_)
  rw [if_neg h1]
  refine pt_if (fun h => pt_some ⟨rfl, by rw [if_pos h]⟩) (fun h1 => ?_)
  rw [if_neg h1]
  refine pt_if (fun h => pt_some ⟨rfl, by rw [if_pos h]⟩) (fun h1 => ?_)
  rw [if_neg h1]
  refine pt_if (fun h => pt_some ⟨rfl, by rw [if_pos h]⟩) (fun h1 => ?_)
  rw [if_neg h1]
  refine pt_if (fun h => pt_some ⟨rfl, by rw [if_pos h]⟩) (fun h1 => ?_)
  rw [if_neg h1]
  exact pt_some ⟨rfl, rfl⟩
theorem sgv_ck {k : Int32} : sgv (ck k) = sgv k := by
  unfold sgv
  simp only [ck_s (x := 43) (by decide), ck_s (x := 45) (by decide), ck_s (x := 38) (by decide), ck_s (x := 42) (by decide), ck_s (x := 47) (by decide), ck_s (x := 37) (by decide), ck_s (x := 35) (by decide)]
theorem sgv_no {k : Int32} : ¬ isCb k ↔ sgv k = -1 := by
  constructor
  · intro h
    unfold isCb at h
    simp only [not_or] at h
    obtain ⟨h1, h2, h3, h4, h5, h6, h7⟩ := h
    unfold sgv
    rw [if_neg h1, if_neg h2, if_neg h3, if_neg h4, if_neg h5, if_neg h6, if_neg h7]
  · intro h q
    have := sgv_cb q
    rw [h] at this
    simp only [Int32.reduceToInt] at this
    omega
/-- how a word turns a family -/
noncomputable def pxv (t : Nat → Int32) (n i : Nat) : Int32 := wv t n i - 10
theorem pxv_k {t : Nat → Int32} {n i k : Nat} (hk : k < 6) (h : isW t n i (16 + k)) : pxv t n i = nI k := by
  unfold pxv
  have e : wv t n i = cod.getD (k + 5) 0 := (wv_iff (w := k + 5) (by omega)).mpr (by rw [show k + 5 + 11 = 16 + k by omega]; exact h)
  rw [e]
  exact (by decide : ∀ k, k < 6 → cod.getD (k + 5) 0 - 10 = nI k) k hk
/-- what is put to wait -/
noncomputable def pw (t : Nat → Int32) (n i : Nat) : Int32 := if tkK t n i = 40 then 100 else 50 + pxv t n i
noncomputable def mv (t : Nat → Int32) (n i : Nat) (m : Int32) : Int32 := if tkK t n i = 1 then (wS t n i m).getD 0 else 0
/-- place, mode (0 a part is due, 1 whole, 2 a set is due, 3 behind a set), what waits, steps -/
abbrev Cv : Type := Nat × Nat × List Int32 × List zOp
def opn (W : List Int32) : Nat := (W.filter (fun w => decide (50 ≤ w))).length
noncomputable def sw (r : Int32) (i : Nat) (W : List Int32) (O : List zOp) : Cv := (i, 1, (setl r W O).1, (setl r W O).2)
noncomputable def stv (t : Nat → Int32) (n : Nat) (m : Int32) (c : Cv) : Option (Option Cv) := by
  classical exact (if c.2.1 = 0 then
    (if isPx t n c.1 ∨ tkK t n c.1 = 40 then (if opn c.2.2.1 < 6 then some (some (tkE t n c.1, 0, pw t n c.1 :: c.2.2.1, c.2.2.2)) else none)
    else if tkK t n c.1 = 2 then (if nOK t n c.1 0 9 then some (some (sw 3 (tkE t n c.1) c.2.2.1 (c.2.2.2 ++ [(0, nvI t n c.1)]))) else none)
    else if tkK t n c.1 = 123 then (if tkK t n (tkE t n c.1) = 125 then some (some (sw 3 (tkE t n (tkE t n c.1)) c.2.2.1 (c.2.2.2 ++ [(1, 0)]))) else some (some (tkE t n c.1, 2, c.2.2.1, c.2.2.2 ++ [(1, 0)])))
    else if isW t n c.1 15 then some (some (sw 3 (tkE t n c.1) c.2.2.1 (c.2.2.2 ++ [(2, 0)]))) else none)
  else if c.2.1 = 1 then
    (if isCb (tkK t n c.1) then some (some (tkE t n c.1, 0, sgv (tkK t n c.1) :: (setl (rkI (sgv (tkK t n c.1))) c.2.2.1 c.2.2.2).1, (setl (rkI (sgv (tkK t n c.1))) c.2.2.1 c.2.2.2).2))
    else if tkK t n c.1 = 41 ∧ 100 ∈ c.2.2.1 then some (some (sw 3 (tkE t n c.1) (setl 1 c.2.2.1 c.2.2.2).1.tail (setl 1 c.2.2.1 c.2.2.2).2)) else some none)
  else if c.2.1 = 2 then (if mOK t n c.1 m then some (some (tkE t n c.1, 3, c.2.2.1, c.2.2.2 ++ [(3, mv t n c.1 m)])) else none)
  else (if tkK t n c.1 = 44 then some (some (tkE t n c.1, 2, c.2.2.1, c.2.2.2)) else if tkK t n c.1 = 125 then some (some (sw 3 (tkE t n c.1) c.2.2.1 c.2.2.2)) else none))
section STV
variable {t : Nat → Int32} {n i : Nat} {m : Int32} {W : List Int32} {O : List zOp}
theorem stv_o (h : isPx t n i ∨ tkK t n i = 40) (h6 : opn W < 6) : stv t n m (i, 0, W, O) = some (some (tkE t n i, 0, pw t n i :: W, O)) := (if_pos rfl).trans ((if_pos h).trans (if_pos h6))
theorem stv_n (h0 : ¬ (isPx t n i ∨ tkK t n i = 40)) (h : nOK t n i 0 9) : stv t n m (i, 0, W, O) = some (some (sw 3 (tkE t n i) W (O ++ [(0, nvI t n i)]))) := (if_pos rfl).trans ((if_neg h0).trans ((if_pos h.1).trans (if_pos h)))
theorem stv_f0 (h0 : ¬ (isPx t n i ∨ tkK t n i = 40)) (h : tkK t n i = 123) (h2 : tkK t n (tkE t n i) = 125) : stv t n m (i, 0, W, O) = some (some (sw 3 (tkE t n (tkE t n i)) W (O ++ [(1, 0)]))) := (if_pos rfl).trans ((if_neg h0).trans ((if_neg (by rw [h]; decide)).trans ((if_pos h).trans (if_pos h2))))
theorem stv_f1 (h0 : ¬ (isPx t n i ∨ tkK t n i = 40)) (h : tkK t n i = 123) (h2 : ¬ tkK t n (tkE t n i) = 125) : stv t n m (i, 0, W, O) = some (some (tkE t n i, 2, W, O ++ [(1, 0)])) := (if_pos rfl).trans ((if_neg h0).trans ((if_neg (by rw [h]; decide)).trans ((if_pos h).trans (if_neg h2))))
theorem stv_a (h0 : ¬ (isPx t n i ∨ tkK t n i = 40)) (h : isW t n i 15) : stv t n m (i, 0, W, O) = some (some (sw 3 (tkE t n i) W (O ++ [(2, 0)]))) := (if_pos rfl).trans ((if_neg h0).trans ((if_neg (by rw [h.1]; decide)).trans ((if_neg (by rw [h.1]; decide)).trans (if_pos h))))
theorem stv_c (h : isCb (tkK t n i)) : stv t n m (i, 1, W, O) = some (some (tkE t n i, 0, sgv (tkK t n i) :: (setl (rkI (sgv (tkK t n i))) W O).1, (setl (rkI (sgv (tkK t n i))) W O).2)) := (if_neg (show ¬ (1 : Nat) = 0 by decide)).trans ((if_pos rfl).trans (if_pos h))
theorem stv_p (h0 : ¬ isCb (tkK t n i)) (h : tkK t n i = 41 ∧ 100 ∈ W) : stv t n m (i, 1, W, O) = some (some (sw 3 (tkE t n i) (setl 1 W O).1.tail (setl 1 W O).2)) := (if_neg (show ¬ (1 : Nat) = 0 by decide)).trans ((if_pos rfl).trans ((if_neg h0).trans (if_pos h)))
theorem stv_e (h0 : ¬ isCb (tkK t n i)) (h : ¬ (tkK t n i = 41 ∧ 100 ∈ W)) : stv t n m (i, 1, W, O) = some none := (if_neg (show ¬ (1 : Nat) = 0 by decide)).trans ((if_pos rfl).trans ((if_neg h0).trans (if_neg h)))
theorem stv_m (h : mOK t n i m) : stv t n m (i, 2, W, O) = some (some (tkE t n i, 3, W, O ++ [(3, mv t n i m)])) := (if_neg (show ¬ (2 : Nat) = 0 by decide)).trans ((if_neg (show ¬ (2 : Nat) = 1 by decide)).trans ((if_pos rfl).trans (if_pos h)))
theorem stv_k (h : tkK t n i = 44) : stv t n m (i, 3, W, O) = some (some (tkE t n i, 2, W, O)) := (if_neg (show ¬ (3 : Nat) = 0 by decide)).trans ((if_neg (show ¬ (3 : Nat) = 1 by decide)).trans ((if_neg (show ¬ (3 : Nat) = 2 by decide)).trans (if_pos h)))
theorem stv_z (h : tkK t n i = 125) : stv t n m (i, 3, W, O) = some (some (sw 3 (tkE t n i) W O)) := (if_neg (show ¬ (3 : Nat) = 0 by decide)).trans ((if_neg (show ¬ (3 : Nat) = 1 by decide)).trans ((if_neg (show ¬ (3 : Nat) = 2 by decide)).trans ((if_neg (by rw [h]; decide)).trans (if_pos h))))
theorem stv_e1 {d : Cv} (h : stv t n m d = some none) : d.2.1 = 1 ∧ ¬ isCb (tkK t n d.1) := by
  obtain ⟨i, b, W, O⟩ := d
  unfold stv at h
  by_cases b0 : b = 0
  · rw [if_pos b0] at h
    exfalso
    split at h
    · split at h <;> cases h
    · split at h
      · split at h <;> cases h
      · split at h
        · split at h <;> cases h
        · split at h <;> cases h
  · rw [if_neg b0] at h
    by_cases b1 : b = 1
    · rw [if_pos b1] at h
      refine ⟨b1, fun q => ?_⟩
      rw [if_pos q] at h; cases h
    · rw [if_neg b1] at h
      exfalso
      split at h
      · split at h <;> cases h
      · split at h
        · cases h
        · split at h <;> cases h
end STV
end MV
end Zq13_30
section Zq13_31
/-! ===== what steps make of registers and a pile; that steps of a sum fit ===== -/
section EV
abbrev zFm : Type := Nat → Bool
noncomputable def bl (P : Nat → Prop) : zFm := fun u => by classical exact decide (P u)
theorem bl_t {P : Nat → Prop} {u : Nat} : bl P u = true ↔ P u := by
  classical
  unfold bl; exact decide_eq_true_iff
/-- registers, pile (the top first) -/
abbrev zEv : Type := (Nat → zFm) × List zFm
def adds (s : Nat) : List zFm → List zFm
  | [] => []
  | x :: S => (fun u => x u || decide (u = s)) :: S
noncomputable def comb (M : Nat) (w : Int32) : List zFm → List zFm
  | y :: x :: S => bl (CS w x y M) :: S
  | S => S
noncomputable def resh (M : Nat) (w : Int32) : List zFm → List zFm
  | x :: S => bl (RS w x M) :: S
  | S => S
def stor (p : Nat) (G : Nat → zFm) : List zFm → Nat → zFm
  | [] => G
  | x :: _ => fun q => if q = p then x else G q
noncomputable def ev1 (M : Nat) (o : zOp) (s : zEv) : zEv :=
  if o.1 = 0 then (s.1, s.1 o.2.toInt.toNat :: s.2)
  else if o.1 = 1 then (s.1, (fun _ => false) :: s.2)
  else if o.1 = 2 then (s.1, (fun u => decide (u < M)) :: s.2)
  else if o.1 = 3 then (s.1, adds o.2.toInt.toNat s.2)
  else if o.1 = 4 then (s.1, comb M o.2 s.2)
  else if o.1 = 5 then (s.1, resh M o.2 s.2)
  else (stor o.2.toInt.toNat s.1 s.2, [])
noncomputable def evs (M : Nat) : List zOp → zEv → zEv
  | [], s => s
  | o :: O, s => evs M O (ev1 M o s)
theorem evs_app {M : Nat} : ∀ (O P : List zOp) (s : zEv), evs M (O ++ P) s = evs M P (evs M O s)
  | [], _, _ => rfl
  | o :: O, P, s => evs_app O P (ev1 M o s)
section E1
variable {M : Nat} {v : Int32} {G : Nat → zFm} {S : List zFm} {x y : zFm}
theorem ev_0 : ev1 M (0, v) (G, S) = (G, G v.toInt.toNat :: S) := if_pos rfl
theorem ev_1 : ev1 M (1, v) (G, S) = (G, (fun _ => false) :: S) := (if_neg (show ¬ (1 : Int32) = 0 by decide)).trans (if_pos rfl)
theorem ev_2 : ev1 M (2, v) (G, S) = (G, (fun u => decide (u < M)) :: S) := (if_neg (show ¬ (2 : Int32) = 0 by decide)).trans ((if_neg (show ¬ (2 : Int32) = 1 by decide)).trans (if_pos rfl))
theorem ev_3 : ev1 M (3, v) (G, x :: S) = (G, (fun u => x u || decide (u = v.toInt.toNat)) :: S) := (if_neg (show ¬ (3 : Int32) = 0 by decide)).trans ((if_neg (show ¬ (3 : Int32) = 1 by decide)).trans ((if_neg (show ¬ (3 : Int32) = 2 by decide)).trans (if_pos rfl)))
theorem ev_4 : ev1 M (4, v) (G, y :: x :: S) = (G, bl (CS v x y M) :: S) := (if_neg (show ¬ (4 : Int32) = 0 by decide)).trans ((if_neg (show ¬ (4 : Int32) = 1 by decide)).trans ((if_neg (show ¬ (4 : Int32) = 2 by decide)).trans ((if_neg (show ¬ (4 : Int32) = 3 by decide)).trans (if_pos rfl))))
theorem ev_5 : ev1 M (5, v) (G, x :: S) = (G, bl (RS v x M) :: S) := (if_neg (show ¬ (5 : Int32) = 0 by decide)).trans ((if_neg (show ¬ (5 : Int32) = 1 by decide)).trans ((if_neg (show ¬ (5 : Int32) = 2 by decide)).trans ((if_neg (show ¬ (5 : Int32) = 3 by decide)).trans ((if_neg (show ¬ (5 : Int32) = 4 by decide)).trans (if_pos rfl)))))
theorem ev_6 : ev1 M (6, v) (G, x :: S) = ((fun q => if q = v.toInt.toNat then x else G q), []) := (if_neg (show ¬ (6 : Int32) = 0 by decide)).trans ((if_neg (show ¬ (6 : Int32) = 1 by decide)).trans ((if_neg (show ¬ (6 : Int32) = 2 by decide)).trans ((if_neg (show ¬ (6 : Int32) = 3 by decide)).trans ((if_neg (show ¬ (6 : Int32) = 4 by decide)).trans (if_neg (show ¬ (6 : Int32) = 5 by decide))))))
end E1
/-- a step that fits on h that are piled -/
def vd1 (M : Nat) (o : zOp) (h : Nat) : Prop := (o.1 = 0 ∧ (0 ≤ o.2.toInt ∧ o.2.toInt < 10) ∧ h < 16) ∨ (o.1 = 1 ∧ h < 16) ∨ (o.1 = 2 ∧ h < 16) ∨ (o.1 = 3 ∧ (0 ≤ o.2.toInt ∧ o.2.toInt.toNat < M) ∧ 1 ≤ h) ∨ (o.1 = 4 ∧ 2 ≤ h) ∨ (o.1 = 5 ∧ 1 ≤ h) ∨ (o.1 = 6 ∧ (0 ≤ o.2.toInt ∧ o.2.toInt < 10) ∧ 1 ≤ h)
def nh (o : zOp) (h : Nat) : Nat := if o.1 = 0 ∨ o.1 = 1 ∨ o.1 = 2 then h + 1 else if o.1 = 4 then h - 1 else if o.1 = 3 ∨ o.1 = 5 then h else 0
def vds (M : Nat) : List zOp → Nat → Prop
  | [], _ => True
  | o :: O, h => vd1 M o h ∧ vds M O (nh o h)
def hts : List zOp → Nat → Nat
  | [], h => h
  | o :: O, h => hts O (nh o h)
theorem hts_app : ∀ (O P : List zOp) (h : Nat), hts (O ++ P) h = hts P (hts O h)
  | [], _, _ => rfl
  | o :: O, P, h => hts_app O P (nh o h)
theorem vds_app {M : Nat} : ∀ {O P : List zOp} {h : Nat}, vds M O h → vds M P (hts O h) → vds M (O ++ P) h
  | [], _, _, _, h2 => h2
  | o :: O, P, h, h1, h2 => ⟨h1.1, vds_app (O := O) (P := P) h1.2 h2⟩
theorem vds_1 {M : Nat} {O : List zOp} {o : zOp} {h : Nat} (h1 : vds M O h) (h2 : vd1 M o (hts O h)) : vds M (O ++ [o]) h := vds_app h1 ⟨h2, trivial⟩
theorem hts_1 {O : List zOp} {o : zOp} {h : Nat} : hts (O ++ [o]) h = nh o (hts O h) := hts_app O [o] h
theorem nh_p {v : Int32} {h : Nat} : nh (0, v) h = h + 1 ∧ nh (1, v) h = h + 1 ∧ nh (2, v) h = h + 1 ∧ nh (3, v) h = h ∧ nh (4, v) h = h - 1 ∧ nh (5, v) h = h ∧ nh (6, v) h = 0 := by
  unfold nh
  refine ⟨if_pos (Or.inl rfl), if_pos (Or.inr (Or.inl rfl)), if_pos (Or.inr (Or.inr rfl)), ?_, ?_, ?_, ?_⟩
  · exact (if_neg (show ¬ ((3 : Int32) = 0 ∨ (3 : Int32) = 1 ∨ (3 : Int32) = 2) by decide)).trans ((if_neg (show ¬ (3 : Int32) = 4 by decide)).trans (if_pos (Or.inl rfl)))
  · exact (if_neg (show ¬ ((4 : Int32) = 0 ∨ (4 : Int32) = 1 ∨ (4 : Int32) = 2) by decide)).trans (if_pos rfl)
  · exact (if_neg (show ¬ ((5 : Int32) = 0 ∨ (5 : Int32) = 1 ∨ (5 : Int32) = 2) by decide)).trans ((if_neg (show ¬ (5 : Int32) = 4 by decide)).trans (if_pos (Or.inr rfl)))
  · exact (if_neg (show ¬ ((6 : Int32) = 0 ∨ (6 : Int32) = 1 ∨ (6 : Int32) = 2) by decide)).trans ((if_neg (show ¬ (6 : Int32) = 4 by decide)).trans (if_neg (show ¬ ((6 : Int32) = 3 ∨ (6 : Int32) = 5) by decide)))
def cmb (W : List Int32) : Nat := (W.filter (fun w => decide (w < 50))).length
def trk : List Int32 → Int
  | [] => 0
  | w :: _ => if w < 50 then (rkI w).toInt else 0
def Wk : List Int32 → Prop
  | [] => True
  | w :: W => Wk W ∧ ((50 ≤ w.toInt ∧ w.toInt ≤ 100) ∨ ((0 ≤ w.toInt ∧ w.toInt ≤ 6) ∧ trk W < (rkI w).toInt))
theorem lt50 {w : Int32} : (w < 50 ↔ w.toInt < 50) ∧ (50 ≤ w ↔ 50 ≤ w.toInt) := by
  rw [Int32.lt_iff_toInt_lt, Int32.le_iff_toInt_le]
  exact ⟨Iff.rfl, Iff.rfl⟩
theorem cmb_s {w : Int32} {W : List Int32} (h : w.toInt < 50) : cmb (w :: W) = cmb W + 1 ∧ opn (w :: W) = opn W := by
  unfold cmb opn
  rw [List.filter_cons, List.filter_cons, if_pos (by rw [decide_eq_true_iff]; exact lt50.1.mpr h), if_neg (by rw [decide_eq_true_iff, lt50.2]; omega)]
  exact ⟨rfl, rfl⟩
theorem cmb_o {w : Int32} {W : List Int32} (h : 50 ≤ w.toInt) : cmb (w :: W) = cmb W ∧ opn (w :: W) = opn W + 1 := by
  unfold cmb opn
  rw [List.filter_cons, List.filter_cons, if_neg (by rw [decide_eq_true_iff, lt50.1]; omega), if_pos (by rw [decide_eq_true_iff]; exact lt50.2.mpr h)]
  exact ⟨rfl, rfl⟩
theorem Wk_b : ∀ {W : List Int32}, Wk W → ((cmb W : Int) ≤ 2 * opn W + trk W ∧ 0 ≤ trk W) ∧ trk W ≤ 2
  | [], _ => by
    show ((((0 : Nat) : Int)) ≤ 2 * ((0 : Nat) : Int) + 0 ∧ (0 : Int) ≤ 0) ∧ (0 : Int) ≤ 2
    omega
  | w :: W, h => by
    have b := Wk_b h.1
    rcases h.2 with q | ⟨q, l⟩
    · have c := cmb_o (W := W) q.1
      have e : trk (w :: W) = 0 := if_neg (fun z => by rw [lt50.1] at z; omega)
      rw [c.1, c.2, e]
      omega
    · have c := cmb_s (W := W) (show w.toInt < 50 by omega)
      have e : trk (w :: W) = (rkI w).toInt := if_pos (lt50.1.mpr (by omega))
      have r := rk_s q
      rw [c.1, c.2, e]
      omega
theorem opW_s {w : Int32} (h : w.toInt < 50) : opW w = (4, w) := if_pos (lt50.1.mpr h)
theorem opW_o {w : Int32} (h : 50 ≤ w.toInt) : opW w = (5, w - 50) := if_neg (fun z => by rw [lt50.1] at z; omega)
theorem rk_0 {w : Int32} (h : rkI w < 1) : w = 100 := by
  by_cases q : w = 100
  · exact q
  · exfalso
    unfold rkI at h
    rw [if_neg q] at h
    split at h
    · split at h
      · exact absurd h (by decide)
      · split at h <;> exact absurd h (by decide)
    · exact absurd h (by decide)
/-- what is left by settling fits as before -/
theorem setl_H {M : Nat} {r : Int32} (h1 : 1 ≤ r) : ∀ (W : List Int32) (O : List zOp), Wk W → vds M O 0 → hts O 0 = cmb W + 1 → (Wk (setl r W O).1 ∧ opn (setl r W O).1 ≤ opn W) ∧ vds M (setl r W O).2 0 ∧ hts (setl r W O).2 0 = cmb (setl r W O).1 + 1
  | [], O, hW, hv, hh => ⟨⟨hW, Nat.le_refl _⟩, hv, hh⟩
  | w :: W, O, hW, hv, hh => by
    by_cases q : rkI w < r
    · rw [setl_s q]; exact ⟨⟨hW, Nat.le_refl _⟩, hv, hh⟩
    · rw [setl_p q]
      by_cases l : w.toInt < 50
      · have c := cmb_s (W := W) l
        have i := setl_H (M := M) h1 W (O ++ [opW w]) hW.1 (vds_1 hv (by rw [opW_s l]; exact Or.inr (Or.inr (Or.inr (Or.inr (Or.inl ⟨rfl, by omega⟩)))))) (by rw [hts_1, opW_s l, nh_p.2.2.2.2.1]; omega)
        rw [c.2]; exact i
      · have c := cmb_o (W := W) (show 50 ≤ w.toInt by omega)
        have i := setl_H (M := M) h1 W (O ++ [opW w]) hW.1 (vds_1 hv (by rw [opW_o (by omega)]; exact Or.inr (Or.inr (Or.inr (Or.inr (Or.inr (Or.inl ⟨rfl, by omega⟩))))))) (by rw [hts_1, opW_o (by omega), nh_p.2.2.2.2.2.1]; omega)
        exact ⟨⟨i.1.1, by omega⟩, i.2⟩
theorem setl_top {r : Int32} : ∀ (W : List Int32) (O : List zOp), (setl r W O).1 = [] ∨ ∃ w V, (setl r W O).1 = w :: V ∧ rkI w < r
  | [], _ => Or.inl rfl
  | w :: W, O => by
    by_cases q : rkI w < r
    · rw [setl_s q]; exact Or.inr ⟨w, W, rfl, q⟩
    · rw [setl_p q]; exact setl_top W _
theorem setl_100 {r : Int32} (h1 : 1 ≤ r) : ∀ (W : List Int32) (O : List zOp), 100 ∈ (setl r W O).1 ↔ 100 ∈ W
  | [], _ => Iff.rfl
  | w :: W, O => by
    by_cases q : rkI w < r
    · rw [setl_s q]
    · rw [setl_p q, setl_100 h1 W]
      refine ⟨fun z => List.mem_cons_of_mem _ z, fun z => (List.mem_cons.mp z).elim (fun e => ?_) id⟩
      refine absurd ?_ q
      rw [← e]
      have : rkI 100 = 0 := by decide
      rw [this, Int32.lt_iff_toInt_lt]
      rw [Int32.le_iff_toInt_le] at h1
      simp only [Int32.reduceToInt] at h1 ⊢
      omega
/-- a reading that fits -/
def HI (M : Nat) (c : Cv) : Prop := (vds M c.2.2.2 0 ∧ hts c.2.2.2 0 = cmb c.2.2.1 + (if c.2.1 = 0 then 0 else 1)) ∧ Wk c.2.2.1 ∧ opn c.2.2.1 ≤ 6
theorem sw_H {M : Nat} {r : Int32} {i : Nat} {W : List Int32} {O : List zOp} (h1 : 1 ≤ r) (hW : Wk W) (h6 : opn W ≤ 6) (hv : vds M O 0) (hh : hts O 0 = cmb W + 1) : HI M (sw r i W O) := by
  have h := setl_H h1 W O hW hv hh
  exact ⟨⟨h.2.1, h.2.2⟩, h.1.1, by have := h.1.2; show opn (setl r W O).1 ≤ 6; omega⟩
theorem h14 {W : List Int32} (h : Wk W) (h6 : opn W ≤ 6) : cmb W ≤ 14 := by
  have := Wk_b h
  omega
/-- the set that a word spells is one of the names' -/
theorem wsF_in {t : Nat → Int32} {k : Nat} (hk : k ≤ 10) : ∀ {f p a : Nat} {v : Int32}, (∀ j, p ≤ j → j < p + f → isLt (t j)) → a < 2 ^ k → wsF t (nI k) f p (nI a) = some v → ∃ b, v = nI b ∧ b < 2 ^ k
  | 0, p, a, v, _, ha, h => ⟨a, (Option.some.inj h).symm, ha⟩
  | f + 1, p, a, v, hl, ha, h => by
    have h : (if nI k ≤ t p - 97 ∨ ((nI a >>> ((t p - 97) &&& 31)) &&& 1) = 1 then none else wsF t (nI k) f (p + 1) (nI a ||| ((1 : Int32) <<< ((t p - 97) &&& 31)))) = some v := h
    split at h
    · cases h
    · rename_i q
      have l := hl p (Nat.le_refl _) (by omega)
      unfold isLt at l
      have s : (t p - 97).toInt = (t p).toInt - 97 := by rw [ti_sub]; simp only [Int32.reduceToInt]; omega
      have lt : (t p - 97).toInt < (k : Int) := by
        have : ¬ nI k ≤ t p - 97 := fun z => q (Or.inl z)
        rw [Int32.le_iff_toInt_le, nI_toInt (by omega)] at this
        omega
      obtain ⟨j, hj, e⟩ := znI (x := t p - 97) (m := k) (by omega) lt
      have p2 := p2le hk
      rw [e, one10 j (by omega), nI_or] at h
      refine wsF_in hk (fun i a b => hl i (by omega) (by omega)) (Nat.or_lt_two_pow ha (Nat.pow_lt_pow_right (by decide) hj)) h
theorem mv_in {t : Nat → Int32} {n i k : Nat} (hk : k ≤ 10) (h : mOK t n i (nI k)) : ∃ b, mv t n i (nI k) = nI b ∧ b < 2 ^ k := by
  unfold mv
  by_cases q : tkK t n i = 1
  · rw [if_pos q]
    rcases h with h | h
    · exact absurd (q.symm.trans h.1) (by decide)
    · obtain ⟨v, hv⟩ := Option.isSome_iff_exists.mp h.2
      rw [hv]
      refine wsF_in hk (fun j a b => tk_let q a ?_) (Nat.pow_pos (by decide)) hv
      have : tkF t n i ≤ tkE t n i := by
        by_cases z : tkF t n i ≤ tkE t n i
        · exact z
        · omega
      omega
  · rw [if_neg q]; exact ⟨0, rfl, Nat.pow_pos (by decide)⟩
theorem nv_in {t : Nat → Int32} {n i : Nat} {a b : Int32} (h : nOK t n i a b) (h0 : 0 ≤ a.toInt) (h9 : b.toInt ≤ 1000) : a.toInt ≤ (nvI t n i).toInt ∧ (nvI t n i).toInt ≤ b.toInt := by
  have := h.2
  unfold nvI nv5
  rw [nI_toInt (by omega)]
  omega
/-- each step of the machine leaves a reading that fits -/
theorem stv_H {t : Nat → Int32} {n k : Nat} {c d : Cv} (hk : k ≤ 10) (h : HI (2 ^ k) c) (hs : stv t n (nI k) c = some (some d)) : HI (2 ^ k) d := by
  classical
  obtain ⟨i, b, W, O⟩ := c
  obtain ⟨⟨hv0, hh0⟩, hW0, h60⟩ := h
  have hv : vds (2 ^ k) O 0 := hv0
  have hh : hts O 0 = cmb W + (if b = 0 then 0 else 1) := hh0
  have hW : Wk W := hW0
  have h6 : opn W ≤ 6 := h60
  clear hv0 hh0 hW0 h60
  have c14 := h14 hW h6
  have r3 : (1 : Int32) ≤ 3 := by decide
  by_cases b0 : b = 0
  · subst b0
    have hh : hts O 0 = cmb W := hh
    have hs : (if isPx t n i ∨ tkK t n i = 40 then _ else _) = some (some d) := (if_pos rfl).symm.trans hs
    dsimp only at hs
    split at hs
    · rename_i px
      split at hs
      · rename_i l6
        have e := Option.some.inj (Option.some.inj hs)
        have pb : 50 ≤ (pw t n i).toInt ∧ (pw t n i).toInt ≤ 100 := by
          unfold pw
          by_cases z : tkK t n i = 40
          · rw [if_pos z]; decide
          · rw [if_neg z]
            obtain ⟨j, hj, hw⟩ := px.resolve_right z
            rw [pxv_k hj hw]
            exact (by decide : ∀ j, j < 6 → 50 ≤ (50 + nI j).toInt ∧ (50 + nI j).toInt ≤ 100) j hj
        have cc := cmb_o (W := W) pb.1
        rw [← e]
        refine ⟨⟨hv, ?_⟩, ⟨hW, Or.inl pb⟩, ?_⟩
        · show hts O 0 = cmb (pw t n i :: W) + 0
          rw [cc.1]; exact hh
        · show opn (pw t n i :: W) ≤ 6
          rw [cc.2]; omega
      · cases hs
    · split at hs
      · split at hs
        · rename_i ok
          have nb := nv_in ok (by decide) (by decide)
          simp only [Int32.reduceToInt] at nb
          rw [← Option.some.inj (Option.some.inj hs)]
          exact sw_H r3 hW h6 (vds_1 hv (Or.inl ⟨rfl, by show 0 ≤ (nvI t n i).toInt ∧ (nvI t n i).toInt < 10; omega, by omega⟩)) (by rw [hts_1, nh_p.1, hh])
        · cases hs
      · split at hs
        · split at hs
          · rw [← Option.some.inj (Option.some.inj hs)]
            exact sw_H r3 hW h6 (vds_1 hv (Or.inr (Or.inl ⟨rfl, by omega⟩))) (by rw [hts_1, nh_p.2.1, hh])
          · rw [← Option.some.inj (Option.some.inj hs)]
            exact ⟨⟨vds_1 hv (Or.inr (Or.inl ⟨rfl, by omega⟩)), by show hts (O ++ [(1, 0)]) 0 = cmb W + 1; rw [hts_1, nh_p.2.1, hh]⟩, hW, h6⟩
        · split at hs
          · rw [← Option.some.inj (Option.some.inj hs)]
            exact sw_H r3 hW h6 (vds_1 hv (Or.inr (Or.inr (Or.inl ⟨rfl, by omega⟩)))) (by rw [hts_1, nh_p.2.2.1, hh])
          · cases hs
  · have hh : hts O 0 = cmb W + 1 := hh.trans (by rw [if_neg b0])
    by_cases b1 : b = 1
    · subst b1
      have hs : (if isCb (tkK t n i) then _ else _) = some (some d) := ((if_neg (show ¬ (1 : Nat) = 0 by decide)).trans (if_pos rfl)).symm.trans hs
      dsimp only at hs
      split at hs
      · rename_i cb
        have sb := sgv_cb cb
        have rb := rk_s sb
        have r1 : (1 : Int32) ≤ rkI (sgv (tkK t n i)) := by rw [Int32.le_iff_toInt_le]; simp only [Int32.reduceToInt]; omega
        have H := setl_H r1 W O hW hv hh
        have cc := cmb_s (W := (setl (rkI (sgv (tkK t n i))) W O).1) (w := sgv (tkK t n i)) (by omega)
        rw [← Option.some.inj (Option.some.inj hs)]
        refine ⟨⟨H.2.1, ?_⟩, ⟨H.1.1, Or.inr ⟨sb, ?_⟩⟩, ?_⟩
        · show hts _ 0 = cmb (sgv (tkK t n i) :: _) + 0
          rw [H.2.2, cc.1]
        · rcases setl_top (r := rkI (sgv (tkK t n i))) W O with z | ⟨w, V, z, lt⟩
          · rw [z]
            show (0 : Int) < _
            omega
          · rw [z]
            show (if w < 50 then (rkI w).toInt else 0) < _
            rw [Int32.lt_iff_toInt_lt] at lt
            split
            · exact lt
            · omega
        · show opn (sgv (tkK t n i) :: _) ≤ 6
          rw [cc.2]
          have := H.1.2
          omega
      · split at hs
        · rename_i px
          have H := setl_H (r := 1) (by decide) W O hW hv hh
          have m := (setl_100 (r := 1) (by decide) W O).mpr px.2
          rcases setl_top (r := 1) W O with z | ⟨w, V, z, lt⟩
          · rw [z] at m; exact absurd m List.not_mem_nil
          · have e := rk_0 lt
            subst e
            have cc := cmb_o (W := V) (w := 100) (by decide)
            rw [z] at hs H
            rw [cc.1, cc.2] at H
            rw [← Option.some.inj (Option.some.inj hs)]
            exact sw_H r3 H.1.1.1 (by show opn V ≤ 6; have := H.1.2; omega) H.2.1 H.2.2
        · cases hs
    · by_cases b2 : b = 2
      · subst b2
        have hs : (if mOK t n i (nI k) then _ else _) = some (some d) := ((if_neg (show ¬ (2 : Nat) = 0 by decide)).trans ((if_neg (show ¬ (2 : Nat) = 1 by decide)).trans (if_pos rfl))).symm.trans hs
        dsimp only at hs
        split at hs
        · rename_i ok
          obtain ⟨s, es, ls⟩ := mv_in hk ok
          have p2 := p2le hk
          rw [← Option.some.inj (Option.some.inj hs)]
          refine ⟨⟨vds_1 hv (Or.inr (Or.inr (Or.inr (Or.inl ⟨rfl, ?_, by omega⟩)))), by show hts (O ++ [(3, _)]) 0 = cmb W + 1; rw [hts_1, nh_p.2.2.2.1]; exact hh⟩, hW, h6⟩
          show 0 ≤ (mv t n i (nI k)).toInt ∧ (mv t n i (nI k)).toInt.toNat < 2 ^ k
          rw [es, nI_toInt (by omega)]
          omega
        · cases hs
      · have hs : (if tkK t n i = 44 then _ else _) = some (some d) := ((if_neg b0).trans ((if_neg b1).trans (if_neg b2))).symm.trans hs
        dsimp only at hs
        split at hs
        · rw [← Option.some.inj (Option.some.inj hs)]
          exact ⟨⟨hv, hh⟩, hW, h6⟩
        · split at hs
          · rw [← Option.some.inj (Option.some.inj hs)]
            exact sw_H r3 hW h6 hv hh
          · cases hs
theorem itG_H {t : Nat → Int32} {n k : Nat} (hk : k ≤ 10) : ∀ {j : Nat} {c d : Cv}, HI (2 ^ k) c → itG (stv t n (nI k)) j c = some d → HI (2 ^ k) d
  | 0, c, d, h, e => by rw [← Option.some.inj e]; exact h
  | j + 1, c, d, h, e => by
    have e : (stv t n (nI k) c).bind (fun o => o.bind (fun c1 => itG (stv t n (nI k)) j c1)) = some d := e
    obtain ⟨o, ho, e⟩ := Option.bind_eq_some_iff.mp e
    obtain ⟨c1, hc, e⟩ := Option.bind_eq_some_iff.mp e
    rw [hc] at ho
    exact itG_H hk (stv_H hk h ho) e
theorem Rc_H {t : Nat → Int32} {n k : Nat} {c d : Cv} (hk : k ≤ 10) (h : HI (2 ^ k) c) (hr : Rc (stv t n (nI k)) c d) : HI (2 ^ k) d := by
  obtain ⟨j, hj⟩ := hr
  exact itG_H hk h hj
/-- the steps of a whole sum -/
theorem end_H {t : Nat → Int32} {n k : Nat} {d : Cv} (h : HI (2 ^ k) d) (hb : d.2.1 = 1) (h100 : ¬ 100 ∈ d.2.2.1) : (setl 1 d.2.2.1 d.2.2.2).1 = [] ∧ vds (2 ^ k) (setl 1 d.2.2.1 d.2.2.2).2 0 ∧ hts (setl 1 d.2.2.1 d.2.2.2).2 0 = 1 := by
  have hh : hts d.2.2.2 0 = cmb d.2.2.1 + 1 := h.1.2.trans (by rw [if_neg (by omega)])
  have H := setl_H (r := 1) (by decide) d.2.2.1 d.2.2.2 h.2.1 h.1.1 hh
  have z : (setl 1 d.2.2.1 d.2.2.2).1 = [] := by
    rcases setl_top (r := 1) d.2.2.1 d.2.2.2 with z | ⟨w, V, z, lt⟩
    · exact z
    · have e := rk_0 lt
      subst e
      refine absurd ((setl_100 (r := 1) (by decide) d.2.2.1 d.2.2.2).mp ?_) h100
      rw [z]; exact List.mem_cons_self
  refine ⟨z, H.2.1, ?_⟩
  rw [H.2.2, z]; rfl
end EV
end Zq13_31
section Zq13_32
/-! ===== the class writes a sum's steps down ===== -/
section CSV
variable {N : Nat} {σ τ υ : zS} {t : Nat → Int32} {n c i : Nat} {m : Int32} {O : List zOp}
/-- the steps written down so far -/
def St (σ : zS) (O : List zOp) : Prop := (σ.1 57 2).toInt = (O.length : Int) ∧ ∀ k (h : k < O.length), σ.1 58 k = (O[k]).1 ∧ σ.1 59 k = (O[k]).2
/-- nothing is written down, references stay -/
def Sk (σ τ : zS) : Prop := τ.2 = σ.2 ∧ (τ.1 58 = σ.1 58 ∧ τ.1 59 = σ.1 59) ∧ τ.1 57 2 = σ.1 57 2
theorem Sk.rf : Sk σ σ := ⟨rfl, ⟨rfl, rfl⟩, rfl⟩
theorem Sk.tr (h : Sk σ τ) (h2 : Sk τ υ) : Sk σ υ := ⟨h2.1.trans h.1, ⟨h2.2.1.1.trans h.2.1.1, h2.2.1.2.trans h.2.1.2⟩, h2.2.2.trans h.2.2⟩
theorem Sk.u {j : Nat} {v : Int32} (hj : 2 ≠ j) (h : Sk σ τ) : Sk σ (zI τ 57 (upd (τ.1 57) j v)) := ⟨h.1, ⟨(zI_n (by decide)).trans h.2.1.1, (zI_n (by decide)).trans h.2.1.2⟩, by rw [zI_s, upd_n hj]; exact h.2.2⟩
theorem Sk.k (h : Sk σ τ) (hs : St σ O) : St τ O := by
  unfold St at hs ⊢
  rw [h.2.1.1, h.2.1.2, h.2.2]; exact hs
theorem Sk.R (h : Sk σ τ) (hR : RF σ.2.2) : RF τ.2.2 := by rw [h.1]; exact hR
theorem St_e {a b : Int32} (hs : St σ O) (hl : O.length < 601) (h58 : τ.1 58 = upd (σ.1 58) O.length a) (h59 : τ.1 59 = upd (σ.1 59) O.length b) (h57 : τ.1 57 2 = σ.1 57 2 + 1) : St τ (O ++ [(a, b)]) := by
  have h2 := hs.1
  refine ⟨?_, fun k h => ?_⟩
  · rw [h57, a1_ ⟨by omega, by omega⟩, List.length_append, List.length_singleton]; omega
  · rw [List.length_append, List.length_singleton] at h
    rw [h58, h59, upd_i, upd_i]
    by_cases e : k = O.length
    · subst e
      rw [if_pos rfl, if_pos rfl, List.getElem_append_right (Nat.le_refl _)]
      simp
    · rw [if_neg e, if_neg e, List.getElem_append_left (by omega)]
      exact hs.2 k (by omega)
theorem v_emit {a b : Int32} (hR : RF σ.2.2) (hs : St σ O) (hl : O.length < 601) : Pt (f_X5_emit N 57 a b σ) (fun r => r.2.2 = σ.2 ∧ St r.2 (O ++ [(a, b)])) := by
  rw [f_X5_emit.eq_1]
  have h2 := hs.1
  refine pt_gI (pt_if (fun q => absurd q (by rw [Int32.lt_iff_toInt_lt]; simp only [Int32.reduceToInt]; omega)) (fun _ => pt_gI (pt_if (fun q => absurd q (by rw [Int32.le_iff_toInt_le]; simp only [Int32.reduceToInt]; omega)) (fun _ => ?_))))
  refine pt_gR (v := 58) (hR 57 3 rfl) (pt_gI (pt_s14 (pt_gR (v := 59) (hR 57 4 rfl) (pt_gI (pt_s14 (pt_gI (pt_pI (pt_rZ ⟨rfl, ?_⟩))))))))
  have kk : (σ.1 57 2).toInt.toNat = O.length := by omega
  refine St_e hs (by omega) ((zI_n (by decide)).trans ((zI_n (by decide)).trans (zI_s.trans (by rw [kk])))) ((zI_n (by decide)).trans (zI_s.trans (by rw [zI_n (by decide), zI_n (by decide), kk]))) ((congrFun zI_s 2).trans (upd_s.trans (by rw [zI_n (by decide), zI_n (by decide)])))
theorem sk_advance {x1 x2 : Int32} (hR : RF σ.2.2) : Pt (f_X5_advance N 57 x1 x2 σ) (fun r => r.1 = x1 ∧ Sk σ r.2) := by
  rw [f_X5_advance.eq_1]
  refine pt_if (fun _ => ?_) (fun _ => ?_)
  · exact pt_pI (pt_gR (v := 63) (hR 57 12 rfl) (pt_gI (pt_aI (pt_pI (pt_rZ ⟨rfl, (Sk.rf.u (by decide)).u (by decide)⟩)))))
  · exact pt_gR (v := 61) (hR 57 10 rfl) (pt_gI (pt_aI (pt_if (fun _ => pt_rZ ⟨rfl, Sk.rf⟩) (fun _ => pt_gI (pt_if (fun _ => pt_rZ ⟨rfl, Sk.rf⟩) (fun _ => pt_gI (pt_pI (pt_rZ ⟨rfl, Sk.rf.u (by decide)⟩))))))))
theorem sk_fail {x1 : Int32} (hR : RF σ.2.2) : Pt (f_X5_fail N 57 x1 σ) (fun r => Sk σ r.2) := by
  rw [f_X5_fail.eq_1]
  exact pt_gC (pt_zb (sk_advance hR) (fun v τ h => pt_rZ h.2))
theorem sk_pass {x1 : Int32} (hR : RF σ.2.2) : Pt (f_X5_pass N 57 x1 σ) (fun r => Sk σ r.2) := by
  rw [f_X5_pass.eq_1]
  exact pt_gR (v := 61) (hR 57 10 rfl) (pt_gI (pt_aI (pt_if (fun _ => pt_gC (pt_zb (sk_advance hR) (fun v τ h => pt_rZ h.2))) (fun _ => pt_gC (pt_zb (sk_advance hR) (fun v τ h => pt_rZ h.2))))))
theorem sk_passNumber {x1 x2 : Int32} (hR : RF σ.2.2) : Pt (f_X5_passNumber N 57 x1 x2 σ) (fun r => Sk σ r.2) := by
  rw [f_X5_passNumber.eq_1]
  refine pt_gR (v := 61) (hR 57 10 rfl) (pt_gI (pt_aI (pt_if (fun _ => ?_) (fun _ => pt_gC (pt_zb (sk_fail hR) (fun v τ h => pt_rZ h))))))
  refine pt_gR (v := 62) (hR 57 11 rfl) (pt_gI (pt_aI (pt_if (fun _ => pt_gC (pt_zb (sk_advance hR) (fun v τ h => pt_rZ h.2))) (fun _ => ?_))))
  exact pt_gR (v := 62) (hR 57 11 rfl) (pt_gI (pt_aI (pt_if (fun _ => pt_gC (pt_zb (sk_advance hR) (fun v τ h => pt_rZ h.2))) (fun _ => pt_gC (pt_zb (sk_advance hR) (fun v τ h => pt_rZ h.2))))))
theorem ne10 {τ : zS} {P : Int32 × zS → Prop} : (fun r : Int32 × zS => ¬ r.1 = 0 → P r) (0, τ) := fun z => absurd rfl z
theorem vs_member (hB : CB σ t n c) (hA : CA (σ.1 57 9) t n c i) (hm : σ.1 57 7 = m) (hs : St σ O) (hl : O.length < 601) : Pt (f_X5_member N 57 σ) (fun r => ¬ r.1 = 0 → r.2.2 = σ.2 ∧ St r.2 (O ++ [(3, mv t n i m)])) := by
  have hR := hB.1.1
  have hb := CA_b hA hB.2.1.1.2.2
  have row := CA_row hB.2.1 hA
  have hle := tk_le (t := t) (CA_le hA)
  have h600 := hB.2.1.1.2.1
  have k3 : σ.1 61 (σ.1 57 9).toInt.toNat = ck (tkK t n i) := row.1.1
  rw [f_X5_member.eq_1]
  refine pt_gR (v := 61) (hR 57 10 rfl) (pt_gI (pt_aI ?_))
  rw [k3]
  refine pt_if (fun q => ?_) (fun q => ?_)
  · have hk := ck_n.mp q
    have emv : mv t n i m = 0 := if_neg (by rw [hk]; decide)
    have go : ∀ y : Int32, Pt (J_X5_member_31 N 57 y 57 σ) (fun r => ¬ r.1 = 0 → r.2.2 = σ.2 ∧ St r.2 (O ++ [(3, mv t n i m)])) := fun y => by
      rw [J_X5_member_31.eq_1]
      refine pt_gC (pt_zb (sk_advance hR) (fun v τ h => pt_if (fun _ => pt_rZ (fun z => absurd rfl z)) (fun _ => pt_gC (pt_zb (v_emit (h.2.R hR) (h.2.k hs) hl) (fun w υ h2 => pt_if (fun _ => pt_rZ (fun z => absurd rfl z)) (fun _ => pt_rZ (fun _ => ?_)))))))
      rw [emv]; exact ⟨h2.1.trans h.2.1, h2.2⟩
    exact pt_gR (v := 62) (hR 57 11 rfl) (pt_gI (pt_aI (pt_if (fun _ => go 1) (fun _ => go 0))))
  · refine pt_gR (v := 61) (hR 57 10 rfl) (pt_gI (pt_aI ?_))
    rw [k3]
    refine pt_if (fun q2 => ?_) (fun q2 => pt_gC (pt_zb (sk_advance hR) (fun v τ h => pt_rZ (fun z => absurd h.1 z))))
    have hk := ck_w.mp q2
    have h3 : (σ.1 63 (σ.1 57 9).toInt.toNat).toInt = (tkF t n i : Int) := row.1.2.1
    have h4 : (σ.1 64 (σ.1 57 9).toInt.toNat).toInt = (tkE t n i : Int) := row.1.2.2
    refine pt_gR (v := 63) (hR 57 12 rfl) (pt_gI (pt_aI ?_))
    refine pt_lp (fun s : Int32 × Int32 × Int32 × zS => s.2.2.2 = σ ∧ ((tkF t n i : Int) ≤ s.2.2.1.toInt ∧ s.2.2.1.toInt ≤ (tkE t n i : Int)) ∧ (¬ s.2.1 = 0 → wsF t m (tkE t n i - s.2.2.1.toInt.toNat) s.2.2.1.toInt.toNat s.1 = wS t n i m)) (fun again s hI ih => ?_) N _ ⟨rfl, (by show (tkF t n i : Int) ≤ (σ.1 63 (σ.1 57 9).toInt.toNat).toInt ∧ (σ.1 63 (σ.1 57 9).toInt.toNat).toInt ≤ (tkE t n i : Int); omega), fun _ => by show wsF t m (tkE t n i - (σ.1 63 (σ.1 57 9).toInt.toNat).toInt.toNat) (σ.1 63 (σ.1 57 9).toInt.toNat).toInt.toNat 0 = _; rw [show (σ.1 63 (σ.1 57 9).toInt.toNat).toInt.toNat = tkF t n i by omega]; rfl⟩
    obtain ⟨x1, x2, x3, σ'⟩ := s
    obtain ⟨e', hx, hw⟩ := hI
    have e' : σ' = σ := e'
    have hx : (tkF t n i : Int) ≤ x3.toInt ∧ x3.toInt ≤ (tkE t n i : Int) := hx
    have hw : ¬ x2 = 0 → wsF t m (tkE t n i - x3.toInt.toNat) x3.toInt.toNat x1 = wS t n i m := hw
    subst e'
    have fin : x3.toInt = (tkE t n i : Int) → Pt (J_X5_member_173 N 57 x1 x2 σ') (fun r => ¬ r.1 = 0 → r.2.2 = σ'.2 ∧ St r.2 (O ++ [(3, mv t n i m)])) := fun hend => by
      rw [J_X5_member_173.eq_1]
      refine pt_gC (pt_zb (sk_advance hR) (fun v τ h => pt_if (fun _ => pt_rZ (fun z => absurd rfl z)) (fun q => ?_)))
      have hw := hw (fun z => q (h.1.trans z))
      rw [wsF_e (by omega)] at hw
      have emv : mv t n i m = x1 := by unfold mv; rw [if_pos hk, ← hw]; rfl
      refine pt_gC (pt_zb (v_emit (h.2.R hR) (h.2.k hs) hl) (fun w υ h2 => pt_if (fun _ => pt_rZ (fun z => absurd rfl z)) (fun _ => pt_rZ (fun _ => ?_))))
      rw [emv]; exact ⟨h2.1.trans h.2.1, h2.2⟩
    rw [F_X5_member_87.eq_1]
    refine pt_gR (v := 64) (hR 57 13 rfl) (pt_gI (pt_aI (pt_if (fun hc => fin (by rw [Int32.le_iff_toInt_le, h4] at hc; omega)) (fun hc => ?_))))
    rw [Int32.le_iff_toInt_le, h4] at hc
    refine pt_gI (pt_if (fun hc2 => fin (by rw [Int32.le_iff_toInt_le, hB.2.2] at hc2; omega)) (fun _ => ?_))
    have hs3 : (x3 + 1).toInt = x3.toInt + 1 := by rw [ti_add]; simp only [Int32.reduceToInt]; omega
    have hj : (x3 + 1).toInt.toNat = x3.toInt.toNat + 1 := by rw [hs3]; omega
    refine pt_gR (v := 1) hB.1.2 (pt_aI ?_)
    rw [show σ'.1 1 = t from hB.2.1.1.1]
    have hlt : isLt (t x3.toInt.toNat) := tk_let hk (by omega) (by omega)
    generalize hv : t x3.toInt.toNat = v5 at hlt ⊢
    have go0 : Pt (J_X5_member_151 N again 57 x1 x3 (v5 - 97) 0 σ') (fun r => ¬ r.1 = 0 → r.2.2 = σ'.2 ∧ St r.2 (O ++ [(3, mv t n i m)])) := by
      rw [J_X5_member_151.eq_1]
      exact pt_if (fun _ => ih (x1 ||| 0, 0, x3 + 1, σ') ⟨rfl, (by show (tkF t n i : Int) ≤ (x3 + 1).toInt ∧ (x3 + 1).toInt ≤ (tkE t n i : Int); omega), fun z => absurd rfl z⟩) (fun q => absurd rfl q)
    refine pt_if (fun _ => go0) (fun q => pt_if (fun _ => go0) (fun _ => pt_gI ?_))
    rw [hm]
    refine pt_if (fun _ => go0) (fun q3 => pt_if (fun q4 => ?_) (fun _ => go0))
    have hw := hw q
    rw [wsF_s (by omega), hv, if_neg (fun z => z.elim (fun z => q3 z) (fun z => by rw [q4] at z; exact absurd z (by decide)))] at hw
    rw [J_X5_member_151.eq_1]
    refine pt_if (fun q => absurd q (by decide)) (fun _ => ih (x1 ||| ((1 : Int32) <<< ((v5 - 97) &&& 31)), 1, x3 + 1, σ') ⟨rfl, (by show (tkF t n i : Int) ≤ (x3 + 1).toInt ∧ (x3 + 1).toInt ≤ (tkE t n i : Int); omega), fun _ => ?_⟩)
    show wsF t m (tkE t n i - (x3 + 1).toInt.toNat) (x3 + 1).toInt.toNat _ = _
    rw [hj]; exact hw
/-- what a part leaves behind -/
def PV (t : Nat → Int32) (n c : Nat) (m : Int32) (i : Nat) (W : List Int32) (O : List zOp) (σ : zS) (r : Int32 × zS) : Prop := ¬ r.1 = 0 → ∃ j O1, Rc (stv t n m) (i, 0, W, O) (sw 3 j W O1) ∧ CA (r.2.1 57 9) t n c j ∧ (St r.2 O1 ∧ O1.length + i ≤ O.length + j ∧ i ≤ j) ∧ Fr σ r.2 ∧ r.2.2 = σ.2
def SV (t : Nat → Int32) (n c : Nat) (m : Int32) (i : Nat) (W : List Int32) (O : List zOp) (σ : zS) (r : Int32 × zS) : Prop := ¬ r.1 = 0 → ∃ j V Q O1, (Rc (stv t n m) (i, 0, W, O) (j, 1, V, Q) ∧ setl 1 V Q = (W, O1) ∧ ¬ isCb (tkK t n j)) ∧ CA (r.2.1 57 9) t n c j ∧ (St r.2 O1 ∧ O1.length + i ≤ O.length + j ∧ i ≤ j) ∧ Fr σ r.2 ∧ r.2.2 = σ.2
def HV (t : Nat → Int32) (n c : Nat) (m : Int32) (i : Nat) (W : List Int32) (O : List zOp) (x : Int32) (σ : zS) : Prop := (CB σ t n c ∧ CA (σ.1 57 9) t n c i ∧ σ.1 57 7 = m) ∧ (St σ O ∧ O.length ≤ i) ∧ x.toInt = (opn W : Int) ∧ opn W ≤ 6
theorem Fr_p {j : Nat} {v : Int32} (h6 : 6 ≠ j) (h7 : 7 ≠ j) : Fr σ (zI σ 57 (upd (σ.1 57) j v)) := ⟨Tr.of rfl (fun k hk => zI_n (fun e => hk (by rw [e]; decide))), by rw [zI_s, upd_n h6], by rw [zI_s, upd_n h7]⟩
/-- a family in brackets -/
theorem vs_family {W : List Int32} (hN : 1048576 ≤ N) (hB : CB σ t n c) (hA : CA (σ.1 57 9) t n c i) (hm : σ.1 57 7 = m) (hk : tkK t n i = 123) (hs : St σ O) (hl : O.length ≤ i) : Pt (f_X5_family N 57 σ) (PV t n c m i W O σ) := by
  have np : ¬ (isPx t n i ∨ tkK t n i = 40) := fun z => z.elim (fun ⟨_, _, w⟩ => absurd (hk.symm.trans w.1) (by decide)) (fun z => absurd (hk.symm.trans z) (by decide))
  have h600 := hB.2.1.1.2.1
  have hle := CA_le hA
  have g0 := tk_gt hle (show ¬ tkK t n i = 0 by rw [hk]; decide)
  rw [f_X5_family.eq_1]
  refine pt_gC (pt_zb (pt_and (pt_ok (xs_pass hB hA (by decide))) (sk_pass hB.1.1)) (fun v σ1 h1 => ?_))
  obtain ⟨⟨f1, h1⟩, s1⟩ := h1
  have f1 : F8 σ σ1 := f1
  have s1 : Sk σ σ1 := s1
  have h1 := h1.resolve_right (fun z => z.2 ((ck_s (by decide)).mpr hk))
  have A1 : CA (σ1.1 57 9) t n c (tkE t n i) := h1.2.2
  have B1 := CB_fr f1.1 hB
  have l1 := CA_le A1
  refine pt_gC (pt_zb (pt_and (pt_ok (xs_emit B1)) (v_emit B1.1.1 (s1.k hs) (by omega))) (fun w σ2 h2 => ?_))
  obtain ⟨⟨_, f2⟩, e2, t2⟩ := h2
  have f2 : F9 σ1 σ2 := f2
  have t2 : St σ2 (O ++ [(1, 0)]) := t2
  have e2 : σ2.2 = σ.2 := e2.trans s1.1
  have F2 : Fr σ σ2 := f1.1.tr f2.1.1
  have A2 : CA (σ2.1 57 9) t n c (tkE t n i) := by rw [f2.2]; exact A1
  have B2 := CB_fr F2 hB
  have row2 := CA_row B2.2.1 A2
  have k2 : σ2.1 61 (σ2.1 57 9).toInt.toNat = ck (tkK t n (tkE t n i)) := row2.1.1
  refine pt_gR (v := 61) (B2.1.1 57 10 rfl) (pt_gI (pt_aI ?_))
  rw [k2]
  refine pt_if (fun q => ?_) (fun q => ?_)
  · have kz : tkK t n (tkE t n i) = 125 := (ck_s (by decide)).mp q
    have g1 := tk_gt l1 (show ¬ tkK t n (tkE t n i) = 0 by rw [kz]; decide)
    refine pt_gC (pt_zb (pt_and (pt_ok (xs_pass B2 A2 (by decide))) (sk_pass B2.1.1)) (fun w σ3 h3 => pt_rZ (fun _ => ?_)))
    obtain ⟨⟨f3, h3⟩, s3⟩ := h3
    have f3 : F8 σ2 σ3 := f3
    have s3 : Sk σ2 σ3 := s3
    have h3 := h3.resolve_right (fun z => z.2 ((ck_s (by decide)).mpr kz))
    exact ⟨_, _, Rc.st (stv_f0 np hk kz) Rc.rf, h3.2.2, ⟨s3.k t2, by rw [List.length_append, List.length_singleton]; omega⟩, F2.tr f3.1, s3.1.trans e2⟩
  · have kz : ¬ tkK t n (tkE t n i) = 125 := fun z => q ((ck_s (by decide)).mpr z)
    refine pt_lp (fun s : Int32 × zS => Fr σ s.2 ∧ s.2.2 = σ.2 ∧ ∃ (p : Nat) (Q : List zOp), Rc (stv t n m) (i, 0, W, O) (p, 2, W, Q) ∧ CA (s.2.1 57 9) t n c p ∧ St s.2 Q ∧ Q.length + i ≤ O.length + p ∧ i ≤ p) (fun again s hI ih => ?_) N _ ⟨F2, e2, tkE t n i, _, Rc.st (stv_f1 np hk kz) Rc.rf, A2, t2, by rw [List.length_append, List.length_singleton]; omega, by omega⟩
    obtain ⟨x1, σ3⟩ := s
    obtain ⟨F3, e3, p, Q, rc, A3, t3, l3, ip⟩ := hI
    have F3 : Fr σ σ3 := F3
    have e3 : σ3.2 = σ.2 := e3
    have A3 : CA (σ3.1 57 9) t n c p := A3
    have t3 : St σ3 Q := t3
    have B3 := CB_fr F3 hB
    have pn := CA_le A3
    rw [F_X5_family_37.eq_1]
    refine pt_if (fun _ => pt_gC (pt_zb (pt_ok (xs_fail B3 A3)) (fun v τ h => pt_rZ (fun z => absurd h.1 z)))) (fun _ => ?_)
    refine pt_gC (pt_zb (pt_and (pt_ok (xs_member hN B3 A3 (F3.2.2.trans hm))) (vs_member B3 A3 (F3.2.2.trans hm) t3 (by omega))) (fun v12 σ4 h4 => ?_))
    obtain ⟨⟨f4, h4⟩, t4⟩ := h4
    refine pt_if (fun _ => pt_rZ (fun z => absurd rfl z)) (fun q4 => ?_)
    have h4 := h4.resolve_right (fun z => q4 z.1)
    have f4 : F8 σ3 σ4 := f4
    have e4 : σ4.2 = σ3.2 := (t4 q4).1
    have t4 : St σ4 (Q ++ [(3, mv t n p m)]) := (t4 q4).2
    have F4 := F3.tr f4.1
    have A4 : CA (σ4.1 57 9) t n c (tkE t n p) := h4.2.2
    have B4 := CB_fr F4 hB
    have g4 := tk_gt pn (mOK_n h4.2.1)
    have rc4 := rc.sn (stv_m h4.2.1)
    have k4 : σ4.1 61 (σ4.1 57 9).toInt.toNat = ck (tkK t n (tkE t n p)) := (CA_row B4.2.1 A4).1.1
    refine pt_gR (v := 61) (B4.1.1 57 10 rfl) (pt_gI (pt_aI ?_))
    rw [k4]
    refine pt_if (fun q5 => ?_) (fun q5 => ?_)
    · have k5 : tkK t n (tkE t n p) = 44 := (ck_s (by decide)).mp q5
      have g5 := tk_gt (CA_le A4) (show ¬ tkK t n (tkE t n p) = 0 by rw [k5]; decide)
      refine pt_gC (pt_zb (pt_and (pt_ok (xs_pass B4 A4 (by decide))) (sk_pass B4.1.1)) (fun w σ5 h5 => ?_))
      obtain ⟨⟨f5, h5⟩, s5⟩ := h5
      have f5 : F8 σ4 σ5 := f5
      have s5 : Sk σ4 σ5 := s5
      have h5 := h5.resolve_right (fun z => z.2 ((ck_s (by decide)).mpr k5))
      exact ih (x1 + 1, σ5) ⟨F4.tr f5.1, s5.1.trans (e4.trans e3), _, _, rc4.sn (stv_k k5), h5.2.2, s5.k t4, by rw [List.length_append, List.length_singleton]; omega, by omega⟩
    · refine pt_gC (pt_zb (pt_and (pt_ok (xs_pass B4 A4 (by decide))) (sk_pass B4.1.1)) (fun w σ5 h5 => pt_rZ (fun z => ?_)))
      obtain ⟨⟨f5, h5⟩, s5⟩ := h5
      have f5 : F8 σ4 σ5 := f5
      have s5 : Sk σ4 σ5 := s5
      have h5 := h5.resolve_right (fun y => absurd y.1 z)
      have k5 : tkK t n (tkE t n p) = 125 := (ck_s (by decide)).mp h5.2.1
      have g5 := tk_gt (CA_le A4) (show ¬ tkK t n (tkE t n p) = 0 by rw [k5]; decide)
      exact ⟨_, _, rc4.sn (stv_z k5), h5.2.2, ⟨s5.k t4, by rw [List.length_append, List.length_singleton]; omega⟩, F4.tr f5.1, s5.1.trans (e4.trans e3)⟩
theorem HV_l {W : List Int32} {x : Int32} (H : HV t n c m i W O x σ) : O.length < 601 := by
  have := CA_le H.1.2.1
  have := H.1.1.2.1.1.2.1
  have := H.2.1.2
  omega
theorem px40 (h : tkK t n i = 40) : pw t n i = 100 := if_pos h
theorem pxw (h : ¬ tkK t n i = 40) : pw t n i = 50 + pxv t n i := if_neg h
theorem pw_r {W : List Int32} {O : List zOp} (px : isPx t n i) : setl 3 (pw t n i :: W) O = setl 3 W (O ++ [(5, pxv t n i)]) := by
  obtain ⟨k, hk, hw⟩ := px
  have e := pxv_k hk hw
  rw [pxw (by rw [hw.1]; decide), e]
  have h := (by decide : ∀ k, k < 6 → ¬ rkI (50 + nI k) < 3 ∧ opW (50 + nI k) = (5, nI k)) k hk
  rw [setl_p h.1, h.2]
theorem opn_pw {W : List Int32} (px : isPx t n i ∨ tkK t n i = 40) : opn (pw t n i :: W) = opn W + 1 := by
  refine (cmb_o ?_).2
  unfold pw
  by_cases z : tkK t n i = 40
  · rw [if_pos z]; decide
  · rw [if_neg z]
    obtain ⟨k, hk, hw⟩ := px.resolve_right z
    rw [pxv_k hk hw]
    exact (by decide : ∀ k, k < 6 → 50 ≤ (50 + nI k).toInt) k hk
theorem vs_wordPart {dd : Nat} {W : List Int32} {x1 x2 : Int32} (hk : tkK t n i = 1) (hx : x1 = wv t n i) (H : HV t n c m i W O x2 σ)
    (ih : ∀ (i : Nat) (W : List Int32) (O : List zOp) (x : Int32) (σ : zS), HV t n c m i W O x σ → Pt (f_X5_part N dd 57 x σ) (PV t n c m i W O σ)) : Pt (B_X5_wordPart N (f_X5_sum N dd) (f_X5_part N dd) (f_X5_wordPart N dd) 57 x1 x2 σ) (PV t n c m i W O σ) := by
  have hl := HV_l H
  obtain ⟨⟨hB, hA, h7⟩, ⟨hs, ho⟩, hd, h6⟩ := H
  have n40 : ¬ tkK t n i = 40 := by rw [hk]; decide
  have i5 : x1 = 5 ↔ isW t n i 15 := by rw [hx]; exact wv_iff (w := 4) (by decide)
  have i10 : 10 ≤ x1 ↔ isPx t n i := by rw [hx]; exact wv_px
  have hle := CA_le hA
  have g0 := tk_gt hle (show ¬ tkK t n i = 0 by rw [hk]; decide)
  rw [B_X5_wordPart.eq_1]
  refine pt_if (fun q => ?_) (fun q => ?_)
  · have a15 := i5.mp q
    have npx : ¬ (isPx t n i ∨ tkK t n i = 40) := fun z => z.elim (fun z => by have := i10.mpr z; rw [q] at this; exact absurd this (by decide)) n40
    refine pt_gC (pt_zb (pt_and (pt_ok (xs_pass hB hA (by decide))) (sk_pass hB.1.1)) (fun v σ1 h1 => pt_if (fun _ => pt_rZ (fun z => absurd rfl z)) (fun q1 => ?_)))
    obtain ⟨⟨f1, h1⟩, s1⟩ := h1
    have f1 : F8 σ σ1 := f1
    have s1 : Sk σ σ1 := s1
    have h1 := h1.resolve_right (fun z => q1 z.1)
    have B1 := CB_fr f1.1 hB
    refine pt_gC (pt_zb (pt_and (pt_ok (xs_emit B1)) (v_emit B1.1.1 (s1.k hs) hl)) (fun w σ2 h2 => pt_if (fun _ => pt_rZ (fun z => absurd rfl z)) (fun _ => pt_rZ (fun _ => ?_))))
    obtain ⟨⟨_, f2⟩, e2, t2⟩ := h2
    have f2 : F9 σ1 σ2 := f2
    have A1 : CA (σ1.1 57 9) t n c (tkE t n i) := h1.2.2
    exact ⟨_, _, Rc.st (stv_a npx a15) Rc.rf, by show CA (σ2.1 57 9) t n c _; rw [f2.2]; exact A1, ⟨t2, by rw [List.length_append, List.length_singleton]; omega⟩, f1.1.tr f2.1.1, e2.trans s1.1⟩
  · refine pt_if (fun q2 => ?_) (fun q2 => ?_)
    · have ipx := i10.mp q2
      have px : isPx t n i ∨ tkK t n i = 40 := Or.inl ipx
      refine pt_if (fun q3 => ?_) (fun q3 => ?_)
      · rw [J_X5_wordPart_52.eq_1]
        refine pt_gC (pt_zb (sk_advance hB.1.1) (fun v σ1 h1 => pt_if (fun _ => pt_rZ (fun z => absurd rfl z)) (fun q => absurd h1.1 q)))
      · rw [Int32.le_iff_toInt_le] at q3
        simp only [Int32.reduceToInt] at q3
        have l6 : opn W < 6 := by omega
        rw [J_X5_wordPart_52.eq_1]
        refine pt_gC (pt_zb (pt_and (pt_ok (xa_1 hB hA (by rw [hk]; decide))) (sk_advance hB.1.1)) (fun v σ1 h1 => pt_if (fun _ => pt_rZ (fun z => absurd rfl z)) (fun q1 => ?_)))
        obtain ⟨⟨_, f1, A1, _⟩, _, s1⟩ := h1
        have f1 : F8 σ σ1 := f1
        have s1 : Sk σ σ1 := s1
        have A1 : CA (σ1.1 57 9) t n c (tkE t n i) := A1
        have ss := stv_o (m := m) (O := O) px l6
        have op := opn_pw (W := W) px
        have hs2 : (x2 + 1).toInt = x2.toInt + 1 := by rw [ti_add]; simp only [Int32.reduceToInt]; omega
        refine pt_gC (pt_zb (ih (tkE t n i) (pw t n i :: W) O (x2 + 1) σ1 ⟨⟨CB_fr f1.1 hB, A1, f1.1.2.2.trans h7⟩, ⟨s1.k hs, by omega⟩, by rw [hs2, op]; omega, by omega⟩) (fun w σ2 h2 => pt_if (fun _ => pt_rZ (fun z => absurd rfl z)) (fun q4 => ?_)))
        obtain ⟨j, O1, rc, A2, ⟨t2, l2⟩, F2, e2⟩ := h2 q4
        have A2 : CA (σ2.1 57 9) t n c j := A2
        have t2 : St σ2 O1 := t2
        have F2 : Fr σ σ2 := f1.1.tr F2
        have B2 := CB_fr F2 hB
        have l3 := CA_le A2
        have h600 := hB.2.1.1.2.1
        refine pt_gC (pt_zb (pt_and (pt_ok (xs_emit B2)) (v_emit (a := 5) (b := x1 - 10) B2.1.1 t2 (by omega))) (fun u υ V => pt_if (fun _ => pt_rZ (fun z => absurd rfl z)) (fun _ => pt_rZ (fun _ => ?_))))
        obtain ⟨⟨_, f3⟩, e3, t3⟩ := V
        have f3 : F9 σ2 υ := f3
        have ex : x1 - 10 = pxv t n i := by rw [hx]; rfl
        rw [ex] at t3
        refine ⟨j, O1 ++ [(5, pxv t n i)], ?_, by show CA (υ.1 57 9) t n c _; rw [f3.2]; exact A2, ⟨t3, by rw [List.length_append, List.length_singleton]; omega⟩, F2.tr f3.1.1, e3.trans (e2.trans s1.1)⟩
        have := Rc.st ss rc
        unfold sw at this ⊢
        rw [pw_r ipx] at this
        exact this
    · refine pt_gC (pt_zb (pt_ok (xs_fail hB hA)) (fun v σ1 h1 => pt_rZ (fun z => absurd h1.1 z)))
theorem vs_part {dd : Nat} {W : List Int32} {x1 : Int32} (hN : 1048576 ≤ N) (H : HV t n c m i W O x1 σ)
    (ihs : ∀ (i : Nat) (W : List Int32) (O : List zOp) (x : Int32) (σ : zS), HV t n c m i W O x σ → Lw W → Pt (f_X5_sum N dd 57 x σ) (SV t n c m i W O σ))
    (ihw : ∀ (i : Nat) (W : List Int32) (O : List zOp) (x y : Int32) (σ : zS), HV t n c m i W O x σ → tkK t n i = 1 → y = wv t n i → Pt (f_X5_wordPart N dd 57 y x σ) (PV t n c m i W O σ)) : Pt (B_X5_part N (f_X5_sum N dd) (f_X5_part N dd) (f_X5_wordPart N dd) 57 x1 σ) (PV t n c m i W O σ) := by
  have H0 := H
  have hl := HV_l H
  obtain ⟨⟨hB, hA, h7⟩, ⟨hs, ho⟩, hd, h6⟩ := H
  have row := CA_row hB.2.1 hA
  have hle := CA_le hA
  have k3 : σ.1 61 (σ.1 57 9).toInt.toNat = ck (tkK t n i) := row.1.1
  rw [B_X5_part.eq_1]
  refine pt_gR (v := 61) (hB.1.1 57 10 rfl) (pt_gI (pt_aI ?_))
  rw [k3]
  refine pt_if (fun q => ?_) (fun q2 => ?_)
  · have hk := ck_w.mp q
    exact pt_gR (v := 62) (hB.1.1 57 11 rfl) (pt_gI (pt_aI (pt_gC (pt_zb (ihw i W O x1 _ σ H0 hk (row.2.2 hk)) (fun v σ1 h1 => pt_rZ h1)))))
  have nw : ¬ tkK t n i = 1 := fun z => q2 (ck_w.mpr z)
  have npx : ¬ isPx t n i := fun ⟨k, _, hw⟩ => nw hw.1
  refine pt_if (fun q => ?_) (fun q3 => ?_)
  · have hk := ck_n.mp q
    have np : ¬ (isPx t n i ∨ tkK t n i = 40) := fun z => z.elim npx (fun z => absurd (hk.symm.trans z) (by decide))
    have g0 := tk_gt hle (show ¬ tkK t n i = 0 by rw [hk]; decide)
    refine pt_gC (pt_zb (pt_and (pt_ok (xs_passNumber hB hA (by decide))) (sk_passNumber hB.1.1)) (fun v σ1 h1 => pt_if (fun _ => pt_rZ (fun z => absurd rfl z)) (fun q1 => ?_)))
    obtain ⟨⟨f1, h1⟩, s1⟩ := h1
    have f1 : F8 σ σ1 := f1
    have s1 : Sk σ σ1 := s1
    obtain ⟨_, ⟨ok, A1⟩, p1, lv⟩ := h1.resolve_right (fun z => q1 z.1)
    have A1 : CA (σ1.1 57 9) t n c (tkE t n i) := A1
    have B1 := CB_fr f1.1 hB
    refine pt_gC (pt_zbX (Q := fun v => v = lastv σ1.1) (pt_ok (xs_passed B1 A1 p1)) (fun v11 e11 => ?_))
    have e11 : v11 = nvI t n i := nv_eq (by rw [e11]; exact lv)
    subst e11
    refine pt_gC (pt_zb (pt_and (pt_ok (xs_emit B1)) (v_emit B1.1.1 (s1.k hs) hl)) (fun w σ2 h2 => pt_if (fun _ => pt_rZ (fun z => absurd rfl z)) (fun _ => pt_rZ (fun _ => ?_))))
    obtain ⟨⟨_, f2⟩, e2, t2⟩ := h2
    have f2 : F9 σ1 σ2 := f2
    exact ⟨_, _, Rc.st (stv_n np ok) Rc.rf, by show CA (σ2.1 57 9) t n c _; rw [f2.2]; exact A1, ⟨t2, by rw [List.length_append, List.length_singleton]; omega⟩, f1.1.tr f2.1.1, e2.trans s1.1⟩
  have nn : ¬ tkK t n i = 2 := fun z => q3 (ck_n.mpr z)
  refine pt_if (fun q => ?_) (fun q40 => ?_)
  · have hk : tkK t n i = 40 := (ck_s (by decide)).mp q
    have px : isPx t n i ∨ tkK t n i = 40 := Or.inr hk
    have g0 := tk_gt hle (show ¬ tkK t n i = 0 by rw [hk]; decide)
    refine pt_if (fun q3 => ?_) (fun q3 => ?_)
    · rw [J_X5_part_97.eq_1]
      exact pt_gC (pt_zb (sk_advance hB.1.1) (fun v σ1 h1 => pt_if (fun _ => pt_rZ (fun z => absurd rfl z)) (fun q => absurd h1.1 q)))
    · rw [Int32.le_iff_toInt_le] at q3
      simp only [Int32.reduceToInt] at q3
      have l6 : opn W < 6 := by omega
      rw [J_X5_part_97.eq_1]
      refine pt_gC (pt_zb (pt_and (pt_ok (xa_1 hB hA (by rw [hk]; decide))) (sk_advance hB.1.1)) (fun v σ1 h1 => pt_if (fun _ => pt_rZ (fun z => absurd rfl z)) (fun q1 => ?_)))
      obtain ⟨⟨_, f1, A1, _⟩, _, s1⟩ := h1
      have f1 : F8 σ σ1 := f1
      have s1 : Sk σ σ1 := s1
      have A1 : CA (σ1.1 57 9) t n c (tkE t n i) := A1
      have ss := stv_o (m := m) (O := O) px l6
      have op := opn_pw (W := W) px
      rw [px40 hk] at ss op
      have hs2 : (x1 + 1).toInt = x1.toInt + 1 := by rw [ti_add]; simp only [Int32.reduceToInt]; omega
      refine pt_gC (pt_zb (ihs (tkE t n i) (100 :: W) O (x1 + 1) σ1 ⟨⟨CB_fr f1.1 hB, A1, f1.1.2.2.trans h7⟩, ⟨s1.k hs, by omega⟩, by rw [hs2, op]; omega, by omega⟩ (Or.inr ⟨W, rfl⟩)) (fun w σ2 h2 => pt_if (fun _ => pt_rZ (fun z => absurd rfl z)) (fun q4 => ?_)))
      obtain ⟨j, V, Q, O1, ⟨rc, sl, ncb⟩, A2, ⟨t2, l2⟩, F2, e2⟩ := h2 q4
      have A2 : CA (σ2.1 57 9) t n c j := A2
      have t2 : St σ2 O1 := t2
      have F2 : Fr σ σ2 := f1.1.tr F2
      have B2 := CB_fr F2 hB
      have l3 := CA_le A2
      refine pt_gC (pt_zb (pt_and (pt_ok (xs_pass B2 A2 (by decide))) (sk_pass B2.1.1)) (fun w σ3 h3 => pt_if (fun _ => pt_rZ (fun z => absurd rfl z)) (fun q5 => pt_rZ (fun _ => ?_))))
      obtain ⟨⟨f3, h3⟩, s3⟩ := h3
      have f3 : F8 σ2 σ3 := f3
      have s3 : Sk σ2 σ3 := s3
      have h3 := h3.resolve_right (fun z => q5 z.1)
      have k41 : tkK t n j = 41 := (ck_s (by decide)).mp h3.2.1
      have g3 := tk_gt l3 (show ¬ tkK t n j = 0 by rw [k41]; decide)
      have m100 : 100 ∈ V := (setl_100 (r := 1) (by decide) V Q).mp (by rw [sl]; exact List.mem_cons_self)
      have s4 := stv_p (m := m) (O := Q) ncb ⟨k41, m100⟩
      rw [sl] at s4
      exact ⟨tkE t n j, O1, (Rc.st ss rc).sn s4, h3.2.2, ⟨s3.k t2, by omega⟩, F2.tr f3.1, s3.1.trans (e2.trans s1.1)⟩
  have n40 : ¬ tkK t n i = 40 := fun z => q40 ((ck_s (by decide)).mpr z)
  refine pt_if (fun q => ?_) (fun q123 => ?_)
  · have hk : tkK t n i = 123 := (ck_s (by decide)).mp q
    exact pt_gC (pt_zb (vs_family hN hB hA h7 hk hs ho) (fun v σ1 h1 => pt_rZ h1))
  · exact pt_gC (pt_zb (pt_ok (xs_fail hB hA)) (fun v σ1 h1 => pt_rZ (fun z => absurd h1.1 z)))
/-- what a sum has waiting -/
def wl (w : Int32) (W : List Int32) : List Int32 := if w < 0 then W else w :: W
theorem wl_n {w : Int32} {W : List Int32} (h : w < 0) : wl w W = W := if_pos h
theorem wl_w {w : Int32} {W : List Int32} (h : ¬ w < 0) : wl w W = w :: W := if_neg h
theorem rk_w1 {w : Int32} (h : w = 0 ∨ w = 1) : rkI w = 1 ∧ opW w = (4, w) ∧ ¬ w < 0 := by
  rcases h with rfl | rfl <;> decide
theorem rk_w2 : ∀ k, k < 7 → 2 ≤ k → rkI (nI k) = 2 ∧ opW (nI k) = (4, nI k) := by decide
theorem vs_sum {dd : Nat} {W : List Int32} {x1 : Int32} (H : HV t n c m i W O x1 σ) (hW : Lw W)
    (ih : ∀ (i : Nat) (W : List Int32) (O : List zOp) (x : Int32) (σ : zS), HV t n c m i W O x σ → Pt (f_X5_part N dd 57 x σ) (PV t n c m i W O σ)) : Pt (B_X5_sum N (f_X5_sum N dd) (f_X5_part N dd) (f_X5_wordPart N dd) 57 x1 σ) (SV t n c m i W O σ) := by
  have H0 := H
  obtain ⟨⟨hB, hA, h7⟩, ⟨hs, ho⟩, hd, h6⟩ := H
  have h600 := hB.2.1.1.2.1
  rw [B_X5_sum.eq_1]
  refine pt_gC (pt_zb (ih i W O x1 σ H0) (fun v σ1 h1 => pt_if (fun _ => pt_rZ (fun z => absurd rfl z)) (fun q1 => ?_)))
  obtain ⟨j, O1, rc, A1, ⟨t1, l1⟩, F1, e1⟩ := h1 q1
  have rc : Rc (stv t n m) (i, 0, W, O) (j, 1, W, O1) := by
    unfold sw at rc
    rw [Lw_s hW (by decide)] at rc
    exact rc
  refine pt_lp (fun s : Int32 × Int32 × zS => Fr σ s.2.2 ∧ s.2.2.2 = σ.2 ∧ (s.1 = -1 ∨ s.1 = 0 ∨ s.1 = 1) ∧ ∃ (j : Nat) (V : List Int32) (Q O1 : List zOp), ((0 ≤ s.2.1.toInt ∧ s.2.1.toInt ≤ (j : Int)) ∧ i ≤ j) ∧ Rc (stv t n m) (i, 0, W, O) (j, 1, V, Q) ∧ setl 2 V Q = (wl s.1 W, O1) ∧ CA (s.2.2.1 57 9) t n c j ∧ St s.2.2 O1 ∧ O1.length + i + (if s.1 < 0 then 0 else 1) ≤ O.length + j) (fun again s hI ihl => ?_) N _ ⟨F1, e1, Or.inl rfl, j, W, O1, O1, ⟨by show 0 ≤ (0 : Int32).toInt ∧ (0 : Int32).toInt ≤ (j : Int); simp only [Int32.reduceToInt]; omega, l1.2⟩, rc, Lw_s hW (by decide), A1, t1, by show O1.length + i + (if (-1 : Int32) < 0 then 0 else 1) ≤ _; rw [if_pos (by decide)]; exact l1.1⟩
  clear rc A1 t1 l1 F1 e1 h1
  obtain ⟨x2, x3, σ'⟩ := s
  obtain ⟨F1, e1, h3, j, V, Q, O1, ⟨hx3, ij⟩, rc, sl, A1, t1, l1⟩ := hI
  have hx3 : 0 ≤ x3.toInt ∧ x3.toInt ≤ (j : Int) := hx3
  have F1 : Fr σ σ' := F1
  have e1 : σ'.2 = σ.2 := e1
  have h3 : x2 = -1 ∨ x2 = 0 ∨ x2 = 1 := h3
  have sl : setl 2 V Q = (wl x2 W, O1) := sl
  have A1 : CA (σ'.1 57 9) t n c j := A1
  have t1 : St σ' O1 := t1
  have l1 : O1.length + i + (if x2 < 0 then 0 else 1) ≤ O.length + j := l1
  have B1 := CB_fr F1 hB
  have row := CA_row B1.2.1 A1
  have jn := CA_le A1
  have k3 : σ'.1 61 (σ'.1 57 9).toInt.toNat = ck (tkK t n j) := row.1.1
  have b1 : setl 1 V Q = setl 1 (wl x2 W) O1 := by
    have := setl_setl (r := 1) (r' := 2) (by decide) V Q
    rw [sl] at this
    exact this.symm
  -- settled down to the bracket
  have fl : setl 1 V Q = (W, if x2 < 0 then O1 else O1 ++ [(4, x2)]) := by
    rw [b1]
    rcases h3 with rfl | h3
    · rw [wl_n (by decide), if_pos (by decide)]; exact Lw_s hW (by decide)
    · have r := rk_w1 h3
      rw [wl_w r.2.2, if_neg r.2.2, setl_p (by rw [r.1]; decide), r.2.1]
      exact Lw_s hW (by decide)
  rw [F_X5_sum_14.eq_1]
  have endc : ¬ isCb (tkK t n j) → Pt (J_X5_sum_151 N (f_X5_sum N dd) (f_X5_part N dd) (f_X5_wordPart N dd) 57 x2 σ') (SV t n c m i W O σ) := fun ncb => by
    rw [J_X5_sum_151.eq_1]
    refine pt_if (fun q => pt_rZ (fun _ => ?_)) (fun q => ?_)
    · rw [if_pos q] at fl l1
      exact ⟨j, V, Q, O1, ⟨rc, fl, ncb⟩, A1, ⟨t1, l1, ij⟩, F1, e1⟩
    · rw [if_neg q] at fl l1
      refine pt_gC (pt_zb (pt_and (pt_ok (xs_emit B1)) (v_emit B1.1.1 t1 (by omega))) (fun w σ2 h2 => pt_if (fun _ => pt_rZ (fun z => absurd rfl z)) (fun _ => pt_rZ (fun _ => ?_))))
      obtain ⟨⟨_, f2⟩, e2, t2⟩ := h2
      have f2 : F9 σ' σ2 := f2
      exact ⟨j, V, Q, _, ⟨rc, fl, ncb⟩, by show CA (σ2.1 57 9) t n c _; rw [f2.2]; exact A1, ⟨t2, by rw [List.length_append, List.length_singleton]; omega⟩, F1.tr f2.1.1, e2.trans e1⟩
  refine pt_if (fun q => ?_) (fun _ => ?_)
  · rw [Int32.le_iff_toInt_le] at q
    simp only [Int32.reduceToInt] at q
    omega
  refine pt_gR (v := 61) (B1.1.1 57 10 rfl) (pt_gI (pt_aI ?_))
  rw [k3]
  refine pt_zbq v_combination (fun v8 e8 => ?_)
  rw [sgv_ck] at e8
  subst e8
  refine pt_if (fun q => endc (fun z => ?_)) (fun q => ?_)
  · have := sgv_cb z
    rw [Int32.lt_iff_toInt_lt] at q
    simp only [Int32.reduceToInt] at q
    omega
  have cb : isCb (tkK t n j) := Classical.byContradiction (fun z => q (by rw [sgv_no.mp z]; decide))
  have sb := sgv_cb cb
  have g1 := tk_gt jn (show ¬ tkK t n j = 0 from fun z => by rw [z] at cb; revert cb; unfold isCb; decide)
  refine pt_gR (v := 61) (B1.1.1 57 10 rfl) (pt_gI (pt_aI ?_))
  rw [k3]
  refine pt_zbq v_combination (fun v13 e13 => ?_)
  rw [sgv_ck] at e13
  subst e13
  have sc := stv_c (m := m) (W := V) (O := Q) cb
  generalize hs13 : sgv (tkK t n j) = s at sb sc ⊢
  -- the sign, the next part, and on
  have go : ∀ (σ2 : zS) (y0 : Int32) (U : List Int32) (P2 : List zOp), Fr σ σ2 → σ2.2 = σ.2 → CA (σ2.1 57 9) t n c j → St σ2 P2 → setl (rkI s) V Q = (U, P2) → opn (s :: U) = opn W → rkI s < 3 → P2.length + i + 1 ≤ O.length + (j + 1) →
      (∀ (k : Nat) (O5 : List zOp) (σ5 : zS), Rc (stv t n m) (i, 0, W, O) (k, 1, s :: U, O5) → Fr σ σ5 → σ5.2 = σ.2 → CA (σ5.1 57 9) t n c k → St σ5 O5 → (O5.length + j + 1 ≤ P2.length + k ∧ j + 1 ≤ k) →
        Pt (if y0 = 0 then (zl (gC 5 57) fun _ => zb (f_X5_emit N 57 4 s σ5) fun v22 σ23 => again (x2, x3 + 1, σ23)) else (again (s, x3 + 1, σ5))) (SV t n c m i W O σ)) →
      Pt (J_X5_sum_84 N (f_X5_sum N dd) (f_X5_part N dd) (f_X5_wordPart N dd) again 57 x1 x2 x3 s y0 σ2) (SV t n c m i W O σ) := by
    intro σ2 y0 U P2 F2 e2 A2 t2 sU oU r3 l2 K
    rw [J_X5_sum_84.eq_1]
    refine pt_gI (pt_pI (pt_gI ?_))
    have F3 : Fr σ (zI σ2 57 (upd (σ2.1 57) 8 (σ2.1 57 8 + 1))) := F2.tr (Fr_p (by decide) (by decide))
    have e3 : (zI σ2 57 (upd (σ2.1 57) 8 (σ2.1 57 8 + 1))).2 = σ.2 := e2
    have t3 : St (zI σ2 57 (upd (σ2.1 57) 8 (σ2.1 57 8 + 1))) P2 := (Sk.rf.u (by decide)).k t2
    have A3 : CA ((zI σ2 57 (upd (σ2.1 57) 8 (σ2.1 57 8 + 1))).1 57 9) t n c j := by rw [zI_s, upd_n (by decide)]; exact A2
    generalize zI σ2 57 (upd (σ2.1 57) 8 (σ2.1 57 8 + 1)) = σ3 at F3 e3 t3 A3 ⊢
    have B3 := CB_fr F3 hB
    refine pt_if (fun _ => ?_) (fun _ => ?_)
    · rw [J_X5_sum_109.eq_1]
      exact pt_gC (pt_zb (sk_advance B3.1.1) (fun v σ4 h4 => pt_if (fun _ => pt_rZ (fun z => absurd rfl z)) (fun q => absurd h4.1 q)))
    · rw [J_X5_sum_109.eq_1]
      refine pt_gC (pt_zb (pt_and (pt_ok (xa_1 B3 A3 (fun z => by rw [z] at cb; revert cb; unfold isCb; decide))) (sk_advance B3.1.1)) (fun v σ4 h4 => pt_if (fun _ => pt_rZ (fun z => absurd rfl z)) (fun q4 => ?_)))
      obtain ⟨⟨_, f4, A4, _⟩, _, s4⟩ := h4
      have f4 : F8 σ3 σ4 := f4
      have s4 : Sk σ3 σ4 := s4
      have A4 : CA (σ4.1 57 9) t n c (tkE t n j) := A4
      have F4 := F3.tr f4.1
      rw [sU] at sc
      refine pt_gC (pt_zb (ih (tkE t n j) (s :: U) P2 x1 σ4 ⟨⟨CB_fr F4 hB, A4, F4.2.2.trans h7⟩, ⟨s4.k t3, by omega⟩, by rw [oU]; exact hd, by rw [oU]; exact h6⟩) (fun w σ5 h5 => pt_if (fun _ => pt_rZ (fun z => absurd rfl z)) (fun q5 => ?_)))
      obtain ⟨k, O5, rc5, A5, ⟨t5, l5⟩, F5, e5⟩ := h5 q5
      unfold sw at rc5
      rw [setl_s r3] at rc5
      exact K k O5 σ5 ((rc.sn sc).tr rc5) (F4.tr F5) (e5.trans (s4.1.trans e3)) A5 t5 (by omega)
  have oW : opn (wl x2 W) = opn W := by
    rcases h3 with rfl | h3
    · rw [wl_n (by decide)]
    · rw [wl_w (rk_w1 h3).2.2]
      exact (cmb_s (by rcases h3 with rfl | rfl <;> decide)).2
  have again_ : ∀ (y : Int32) (k : Nat) (V' : List Int32) (Q' O5 : List zOp) (σ5 : zS), (y = -1 ∨ y = 0 ∨ y = 1) → j + 1 ≤ k → Rc (stv t n m) (i, 0, W, O) (k, 1, V', Q') → setl 2 V' Q' = (wl y W, O5) → Fr σ σ5 → σ5.2 = σ.2 → CA (σ5.1 57 9) t n c k → St σ5 O5 → O5.length + i + (if y < 0 then 0 else 1) ≤ O.length + k → Pt (again (y, x3 + 1, σ5)) (SV t n c m i W O σ) := fun y k V' Q' O5 σ5 hy jk rc5 sl5 F5 e5 A5 t5 l5 => ihl (y, x3 + 1, σ5) ⟨F5, e5, hy, k, V', Q', O5, ⟨by show 0 ≤ (x3 + 1).toInt ∧ (x3 + 1).toInt ≤ (k : Int); rw [a1_ ⟨by omega, by omega⟩]; omega, by omega⟩, rc5, sl5, A5, t5, l5⟩
  -- + and -
  have sum1 : (s = 0 ∨ s = 1) → Pt (J_X5_sum_66 N (f_X5_sum N dd) (f_X5_part N dd) (f_X5_wordPart N dd) again 57 x1 x2 x3 s 1 σ') (SV t n c m i W O σ) := fun s01 => by
    have r := rk_w1 s01
    have os : opn (s :: W) = opn W := (cmb_s (by rcases s01 with rfl | rfl <;> decide)).2
    have K : ∀ (P2 : List zOp), P2.length + i + 1 ≤ O.length + (j + 1) → ∀ (k : Nat) (O5 : List zOp) (σ5 : zS), Rc (stv t n m) (i, 0, W, O) (k, 1, s :: W, O5) → Fr σ σ5 → σ5.2 = σ.2 → CA (σ5.1 57 9) t n c k → St σ5 O5 → (O5.length + j + 1 ≤ P2.length + k ∧ j + 1 ≤ k) → Pt (if (1 : Int32) = 0 then (zl (gC 5 57) fun _ => zb (f_X5_emit N 57 4 s σ5) fun v22 σ23 => again (x2, x3 + 1, σ23)) else (again (s, x3 + 1, σ5))) (SV t n c m i W O σ) := fun P2 lP k O5 σ5 rc5 F5 e5 A5 t5 l5 => by
      refine pt_if (fun q => absurd q (by decide)) (fun _ => again_ s k (s :: W) O5 O5 σ5 (Or.inr s01) l5.2 rc5 ?_ F5 e5 A5 t5 ?_)
      · rw [setl_s (by rw [r.1]; decide), wl_w r.2.2]
      · rw [if_neg r.2.2]; omega
    rw [J_X5_sum_66.eq_1]
    refine pt_if (fun q => absurd q (by decide)) (fun _ => pt_if (fun q => ?_) (fun q => ?_))
    · rw [if_pos q] at fl l1
      exact go σ' 1 W O1 F1 e1 A1 t1 (by rw [r.1]; exact fl) os (by rw [r.1]; decide) (by omega) (K O1 (by omega))
    · rw [if_neg q] at fl l1
      refine pt_gC (pt_zb (pt_and (pt_ok (xs_emit B1)) (v_emit B1.1.1 t1 (by omega))) (fun w σ2 h2 => ?_))
      obtain ⟨⟨_, f2⟩, e2, t2⟩ := h2
      have f2 : F9 σ' σ2 := f2
      have t2 : St σ2 (O1 ++ [(4, x2)]) := t2
      have lP : (O1 ++ [(4, x2)]).length + i + 1 ≤ O.length + (j + 1) := by rw [List.length_append, List.length_singleton]; omega
      exact go σ2 1 W (O1 ++ [(4, x2)]) (F1.tr f2.1.1) (e2.trans e1) (by rw [f2.2]; exact A1) t2 (by rw [r.1]; exact fl) os (by rw [r.1]; decide) lP (K _ lP)
  refine pt_if (fun q0 => sum1 (Or.inl q0)) (fun q0 => pt_if (fun q1 => sum1 (Or.inr q1)) (fun q1 => ?_))
  -- the others
  have r2 : rkI s = 2 ∧ opW s = (4, s) := by
    obtain ⟨k, hk, rfl⟩ := znI (x := s) (m := 7) sb.1 (by omega)
    refine rk_w2 k hk ?_
    by_cases k0 : k = 0
    · rw [k0] at q0; exact absurd rfl q0
    · by_cases k1 : k = 1
      · rw [k1] at q1; exact absurd rfl q1
      · omega
  rw [J_X5_sum_66.eq_1]
  refine pt_if (fun _ => ?_) (fun q => absurd rfl q)
  have l1' : O1.length + i ≤ O.length + j := by
    have := l1
    split at this <;> omega
  refine go σ' 0 (wl x2 W) O1 F1 e1 A1 t1 (by rw [r2.1]; exact sl) (by rw [(cmb_s (show s.toInt < 50 by omega)).2]; exact oW) (by rw [r2.1]; decide) (by omega) (fun k O5 σ5 rc5 F5 e5 A5 t5 l5 => ?_)
  have B5 := CB_fr F5 hB
  have k5 := CA_le A5
  have l5' : O5.length + i + (if x2 < 0 then 0 else 1) + 1 ≤ O.length + k := by omega
  refine pt_if (fun _ => ?_) (fun q => absurd rfl q)
  refine pt_gC (pt_zb (pt_and (pt_ok (xs_emit B5)) (v_emit B5.1.1 t5 (by omega))) (fun w σ6 h6 => ?_))
  obtain ⟨⟨_, f6⟩, e6, t6⟩ := h6
  have f6 : F9 σ5 σ6 := f6
  have t6 : St σ6 (O5 ++ [(4, s)]) := t6
  refine again_ x2 k (s :: wl x2 W) O5 (O5 ++ [(4, s)]) σ6 h3 l5.2 rc5 ?_ (F5.tr f6.1.1) (e6.trans e5) (by rw [f6.2]; exact A5) t6 (by rw [List.length_append, List.length_singleton]; omega)
  rw [setl_p (by rw [r2.1]; decide), r2.2]
  rcases h3 with rfl | h3
  · rw [wl_n (by decide)]; exact Lw_s hW (by decide)
  · have r := rk_w1 h3
    rw [wl_w r.2.2]; exact setl_s (by rw [r.1]; decide)
theorem csumv_all (hN : 1048576 ≤ N) : ∀ dd : Nat, (∀ (i : Nat) (W : List Int32) (O : List zOp) (x : Int32) (σ : zS), HV t n c m i W O x σ → Lw W → Pt (f_X5_sum N dd 57 x σ) (SV t n c m i W O σ)) ∧ (∀ (i : Nat) (W : List Int32) (O : List zOp) (x : Int32) (σ : zS), HV t n c m i W O x σ → Pt (f_X5_part N dd 57 x σ) (PV t n c m i W O σ)) ∧ (∀ (i : Nat) (W : List Int32) (O : List zOp) (x y : Int32) (σ : zS), HV t n c m i W O x σ → tkK t n i = 1 → y = wv t n i → Pt (f_X5_wordPart N dd 57 y x σ) (PV t n c m i W O σ)) := by
  intro dd
  induction dd with
  | zero => exact ⟨fun _ _ _ _ _ _ _ a h => absurd (show (none : Option (Int32 × zS)) = some a from h) (by simp), fun _ _ _ _ _ _ a h => absurd (show (none : Option (Int32 × zS)) = some a from h) (by simp), fun _ _ _ _ _ _ _ _ _ a h => absurd (show (none : Option (Int32 × zS)) = some a from h) (by simp)⟩
  | succ dd ih =>
    refine ⟨fun i W O x σ H hW => ?_, fun i W O x σ H => ?_, fun i W O x y σ H hk hy => ?_⟩
    · show Pt (B_X5_sum N (f_X5_sum N dd) (f_X5_part N dd) (f_X5_wordPart N dd) 57 x σ) _
      exact vs_sum H hW ih.2.1
    · show Pt (B_X5_part N (f_X5_sum N dd) (f_X5_part N dd) (f_X5_wordPart N dd) 57 x σ) _
      exact vs_part hN H ih.1 ih.2.2
    · show Pt (B_X5_wordPart N (f_X5_sum N dd) (f_X5_part N dd) (f_X5_wordPart N dd) 57 y x σ) _
      exact vs_wordPart hk hy H ih.2.1
end CSV
end Zq13_32

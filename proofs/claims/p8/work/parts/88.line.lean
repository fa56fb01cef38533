/-! ===== what holds if a function answers ===== -/
def Pt {α : Type} (x : Option α) (P : α → Prop) : Prop := ∀ a, x = some a → P a
section PTS
variable {α β S : Type} {P : β → Prop} {σ : zS}
theorem pt_ok {x : Option β} (h : Ok x P) : Pt x P := fun a e => by
  obtain ⟨b, h1, h2⟩ := h
  rw [h1] at e
  rw [← Option.some.inj e]; exact h2
theorem ok_pt {x : Option β} {Q : β → Prop} (h : Ok x Q) (q : Pt x P) : Ok x (fun a => Q a ∧ P a) := by
  obtain ⟨a, h1, h2⟩ := h
  exact ⟨a, h1, h2, q a h1⟩
theorem pt_and {x : Option β} {Q : β → Prop} (h : Pt x Q) (q : Pt x P) : Pt x (fun a => Q a ∧ P a) := fun a e => ⟨h a e, q a e⟩
theorem pt_w {x : Option β} {Q : β → Prop} (h : Pt x Q) (f : ∀ a, Q a → P a) : Pt x P := fun a e => f a (h a e)
theorem pt_some {a : β} (h : P a) : Pt (some a) P := fun b e => by rw [← Option.some.inj e]; exact h
theorem pt_rZ {P : Int32 × zS → Prop} {v : Int32} (h : P (v, σ)) : Pt (rZ v σ) P := fun a e => by
  obtain ⟨_, rfl⟩ := zguard e
  exact h
theorem pt_if {c : Prop} [Decidable c] {a b : Option β} (h1 : c → Pt a P) (h2 : ¬ c → Pt b P) : Pt (if c then a else b) P := by
  by_cases h : c
  · rw [if_pos h]; exact h1 h
  · rw [if_neg h]; exact h2 h
theorem pt_zb {x : Option (α × zS)} {f : α → zS → Option β} {Q : α × zS → Prop} (hx : Pt x Q) (h : ∀ v τ, Q (v, τ) → Pt (f v τ) P) : Pt (zb x f) P := fun a e => by
  obtain ⟨v, τ, h1, h2⟩ := zb_some e
  exact h v τ (hx _ h1) a h2
/-- a call that leaves the state as it is -/
theorem pt_zbX {x : Option (α × zS)} {f : α → zS → Option β} {Q : α → Prop} (hx : Pt x (fun r => r.2 = σ ∧ Q r.1)) (h : ∀ v, Q v → Pt (f v σ) P) : Pt (zb x f) P := fun a e => by
  obtain ⟨v, τ, h1, h2⟩ := zb_some e
  obtain ⟨e1, q⟩ := hx _ h1
  have e1 : τ = σ := e1
  rw [e1] at h2
  exact h v q a h2
theorem pt_gC {ci k : Nat} {f : Unit → Option β} (h : Pt (f ()) P) : Pt (zl (gC ci k) f) P := fun a e => by
  obtain ⟨v, _, h2⟩ := zl_some e
  exact h a h2
theorem pt_gI {ci j k : Nat} {f : Int32 → Option β} (h : Pt (f (σ.1 k j)) P) : Pt (zl (gI ci j k σ) f) P := fun a e => by
  obtain ⟨v, h1, h2⟩ := zl_some e
  obtain ⟨_, rfl⟩ := zguard h1
  exact h a h2
theorem pt_gR {ci j k v : Nat} {f : Nat → Option β} (hv : σ.2.2 k j = v) (h : Pt (f v) P) : Pt (zl (gR ci j k σ) f) P := fun a e => by
  obtain ⟨w, h1, h2⟩ := zl_some e
  obtain ⟨_, rfl⟩ := zguard h1
  rw [hv] at h2
  exact h a h2
theorem pt_aI {ti k : Nat} {i : Int32} {f : Int32 → Option β} (h : Pt (f (σ.1 k i.toInt.toNat)) P) : Pt (zl (aI ti k i σ) f) P := fun a e => by
  obtain ⟨w, h1, h2⟩ := zl_some e
  obtain ⟨q, rfl⟩ := zguard h1
  exact h a h2
theorem pt_aIb {ti k : Nat} {i : Int32} {f : Int32 → Option β} (h : 0 ≤ i.toInt → i.toInt < ((zKd k).2 : Int) → Pt (f (σ.1 k i.toInt.toNat)) P) : Pt (zl (aI ti k i σ) f) P := fun a e => by
  obtain ⟨w, h1, h2⟩ := zl_some e
  obtain ⟨q, rfl⟩ := zguard h1
  exact h q.2.1 q.2.2 a h2
theorem pt_aJ {k : Nat} {i : Int32} {f : Int64 → Option β} (h : Pt (f (σ.2.1 k i.toInt.toNat)) P) : Pt (zl (aJ k i σ) f) P := fun a e => by
  obtain ⟨w, h1, h2⟩ := zl_some e
  obtain ⟨q, rfl⟩ := zguard h1
  exact h a h2
theorem pt_aJb {k : Nat} {i : Int32} {f : Int64 → Option β} (h : 0 ≤ i.toInt → i.toInt < ((zKd k).2 : Int) → Pt (f (σ.2.1 k i.toInt.toNat)) P) : Pt (zl (aJ k i σ) f) P := fun a e => by
  obtain ⟨w, h1, h2⟩ := zl_some e
  obtain ⟨q, rfl⟩ := zguard h1
  exact h q.2.1 q.2.2 a h2
theorem pt_aR {ti k : Nat} {i : Int32} {f : Nat → Option β} (h : Pt (f (σ.2.2 k i.toInt.toNat)) P) : Pt (zl (aR ti k i σ) f) P := fun a e => by
  obtain ⟨w, h1, h2⟩ := zl_some e
  obtain ⟨q, rfl⟩ := zguard h1
  exact h a h2
theorem pt_aRb {ti k : Nat} {i : Int32} {f : Nat → Option β} (h : 0 ≤ i.toInt → i.toInt < ((zKd k).2 : Int) → Pt (f (σ.2.2 k i.toInt.toNat)) P) : Pt (zl (aR ti k i σ) f) P := fun a e => by
  obtain ⟨w, h1, h2⟩ := zl_some e
  obtain ⟨q, rfl⟩ := zguard h1
  exact h q.2.1 q.2.2 a h2
theorem pt_pI {ci j k : Nat} {v : Int32} {f : zS → Option β} (h : Pt (f (zI σ k (upd (σ.1 k) j v))) P) : Pt (zl (pI ci j k v σ) f) P := fun a e => by
  obtain ⟨w, h1, h2⟩ := zl_some e
  obtain ⟨_, rfl⟩ := zguard h1
  exact h a h2
theorem pt_s14 {k : Nat} {i v : Int32} {f : zS → Option β} (h : Pt (f (zI σ k (upd (σ.1 k) i.toInt.toNat v))) P) : Pt (zl (sI 14 k i v σ) f) P := fun a e => by
  obtain ⟨w, h1, h2⟩ := zl_some e
  obtain ⟨q, rfl⟩ := zguard h1
  exact h a h2
theorem pt_s14b {k : Nat} {i v : Int32} {f : zS → Option β} (h : 0 ≤ i.toInt → i.toInt < ((zKd k).2 : Int) → Pt (f (zI σ k (upd (σ.1 k) i.toInt.toNat v))) P) : Pt (zl (sI 14 k i v σ) f) P := fun a e => by
  obtain ⟨w, h1, h2⟩ := zl_some e
  obtain ⟨q, rfl⟩ := zguard h1
  exact h q.2.1 q.2.2 a h2
theorem pt_s13 {k : Nat} {i v : Int32} {f : zS → Option β} (h : Pt (f (zI σ k (upd (σ.1 k) i.toInt.toNat (vp_nar .byte v)))) P) : Pt (zl (sI 13 k i v σ) f) P := fun a e => by
  obtain ⟨w, h1, h2⟩ := zl_some e
  obtain ⟨q, rfl⟩ := zguard h1
  exact h a h2
theorem pt_s13b {k : Nat} {i v : Int32} {f : zS → Option β} (h : 0 ≤ i.toInt → i.toInt < ((zKd k).2 : Int) → Pt (f (zI σ k (upd (σ.1 k) i.toInt.toNat (vp_nar .byte v)))) P) : Pt (zl (sI 13 k i v σ) f) P := fun a e => by
  obtain ⟨w, h1, h2⟩ := zl_some e
  obtain ⟨q, rfl⟩ := zguard h1
  exact h q.2.1 q.2.2 a h2
theorem pt_s16 {k : Nat} {i v : Int32} {f : zS → Option β} (h : Pt (f (zI σ k (upd (σ.1 k) i.toInt.toNat (vp_nar .boolean v)))) P) : Pt (zl (sI 16 k i v σ) f) P := fun a e => by
  obtain ⟨w, h1, h2⟩ := zl_some e
  obtain ⟨q, rfl⟩ := zguard h1
  exact h a h2
theorem pt_s16b {k : Nat} {i v : Int32} {f : zS → Option β} (h : 0 ≤ i.toInt → i.toInt < ((zKd k).2 : Int) → Pt (f (zI σ k (upd (σ.1 k) i.toInt.toNat (vp_nar .boolean v)))) P) : Pt (zl (sI 16 k i v σ) f) P := fun a e => by
  obtain ⟨w, h1, h2⟩ := zl_some e
  obtain ⟨q, rfl⟩ := zguard h1
  exact h q.2.1 q.2.2 a h2
theorem pt_sJ {k : Nat} {i : Int32} {v : Int64} {f : zS → Option β} (h : Pt (f (zJ σ k (vp_updL (σ.2.1 k) i.toInt.toNat v))) P) : Pt (zl (sJ k i v σ) f) P := fun a e => by
  obtain ⟨w, h1, h2⟩ := zl_some e
  obtain ⟨q, rfl⟩ := zguard h1
  exact h a h2
theorem pt_sJb {k : Nat} {i : Int32} {v : Int64} {f : zS → Option β} (h : 0 ≤ i.toInt → i.toInt < ((zKd k).2 : Int) → Pt (f (zJ σ k (vp_updL (σ.2.1 k) i.toInt.toNat v))) P) : Pt (zl (sJ k i v σ) f) P := fun a e => by
  obtain ⟨w, h1, h2⟩ := zl_some e
  obtain ⟨q, rfl⟩ := zguard h1
  exact h q.2.1 q.2.2 a h2
theorem pt_aL {ti k : Nat} {f : Int32 → Option β} (h : Pt (f (Int32.ofNat (zKd k).2)) P) : Pt (zl (aL ti k) f) P := fun a e => by
  obtain ⟨w, h1, h2⟩ := zl_some e
  obtain ⟨q, rfl⟩ := zguard h1
  exact h a h2
theorem pt_nz {y : Int32} {f : Unit → Option β} (h : Pt (f ()) P) : Pt (zl (nzI y) f) P := fun a e => by
  obtain ⟨w, _, h2⟩ := zl_some e
  exact h a h2
theorem pt_lp {F : (S → Option β) → S → Option β} (Inv : S → Prop) (step : ∀ (again : S → Option β) (t : S), Inv t → (∀ t', Inv t' → Pt (again t') P) → Pt (F again t) P) : ∀ (n : Nat) (t : S), Inv t → Pt (zlp F n t) P := by
  intro n
  induction n with
  | zero => intro t _ a h; cases h
  | succ n ih => intro t hi; exact step (zlp F n) t hi ih
theorem a1_ {x : Int32} (h : 0 ≤ x.toInt ∧ x.toInt ≤ 100000) : (x + 1).toInt = x.toInt + 1 := by
  rw [ti_add]
  obtain ⟨w, hw⟩ : ∃ w, w = x.toInt := ⟨_, rfl⟩
  rw [← hw] at h ⊢
  simp only [Int32.reduceToInt]
  omega
theorem a3_ {x : Int32} (h : 0 ≤ x.toInt ∧ x.toInt ≤ 100000) : (3 + x).toInt = 3 + x.toInt := by
  rw [ti_add]
  obtain ⟨w, hw⟩ : ∃ w, w = x.toInt := ⟨_, rfl⟩
  rw [← hw] at h ⊢
  simp only [Int32.reduceToInt]
  omega
theorem a13_ {x : Int32} (h : 0 ≤ x.toInt ∧ x.toInt ≤ 100000) : (13 + x).toInt = 13 + x.toInt := by
  rw [ti_add]
  obtain ⟨w, hw⟩ : ∃ w, w = x.toInt := ⟨_, rfl⟩
  rw [← hw] at h ⊢
  simp only [Int32.reduceToInt]
  omega
theorem a23_ {x : Int32} (h : 0 ≤ x.toInt ∧ x.toInt ≤ 100000) : (23 + x).toInt = 23 + x.toInt := by
  rw [ti_add]
  obtain ⟨w, hw⟩ : ∃ w, w = x.toInt := ⟨_, rfl⟩
  rw [← hw] at h ⊢
  simp only [Int32.reduceToInt]
  omega
theorem a33_ {x : Int32} (h : 0 ≤ x.toInt ∧ x.toInt ≤ 100000) : (33 + x).toInt = 33 + x.toInt := by
  rw [ti_add]
  obtain ⟨w, hw⟩ : ∃ w, w = x.toInt := ⟨_, rfl⟩
  rw [← hw] at h ⊢
  simp only [Int32.reduceToInt]
  omega
theorem zI_s {k : Nat} {r : Nat → Int32} : (zI σ k r).1 k = r := va_up_self _ _ _
theorem zI_n {k a : Nat} {r : Nat → Int32} (h : a ≠ k) : (zI σ k r).1 a = σ.1 a := va_up_ne _ _ h
theorem upd_s {g : Nat → Int32} {j : Nat} {v : Int32} : upd g j v j = v := if_pos rfl
theorem upd_n {g : Nat → Int32} {j i : Nat} {v : Int32} (h : i ≠ j) : upd g j v i = g i := if_neg h
theorem upd_i {g : Nat → Int32} {j i : Nat} {v : Int32} : upd g j v i = if i = j then v else g i := rfl
end PTS
/-! ===== machines: one end alone ===== -/
section MACH
variable {C : Type} {st : C → Option (Option C)} {c d e : C}
def itG (st : C → Option (Option C)) : Nat → C → Option C
  | 0, c => some c
  | k + 1, c => (st c).bind (fun o => o.bind (fun c1 => itG st k c1))
def Rc (st : C → Option (Option C)) (c d : C) : Prop := ∃ k, itG st k c = some d
theorem Rc.rf : Rc st c c := ⟨0, rfl⟩
theorem itG_sn : ∀ {k : Nat} {c d e : C}, itG st k c = some d → st d = some (some e) → itG st (k + 1) c = some e
  | 0, c, d, e, h, h2 => by
    have : c = d := Option.some.inj h
    rw [this]
    show (st d).bind _ = some e
    rw [h2]; rfl
  | k + 1, c, d, e, h, h2 => by
    have h : (st c).bind (fun o => o.bind (fun c1 => itG st k c1)) = some d := h
    obtain ⟨o, ho, h⟩ := Option.bind_eq_some_iff.mp h
    obtain ⟨c1, hc, h⟩ := Option.bind_eq_some_iff.mp h
    show (st c).bind (fun o => o.bind (fun c1 => itG st (k + 1) c1)) = some e
    rw [ho, hc]
    exact itG_sn h h2
theorem Rc.sn (h : Rc st c d) (h2 : st d = some (some e)) : Rc st c e := by
  obtain ⟨k, hk⟩ := h
  exact ⟨k + 1, itG_sn hk h2⟩
theorem itG_un : ∀ {k l : Nat} {c d e : C}, itG st k c = some d → itG st l c = some e → (∀ x, ¬ st d = some (some x)) → (∀ x, ¬ st e = some (some x)) → d = e
  | 0, 0, c, d, e, h, h2, _, _ => (Option.some.inj h).symm.trans (Option.some.inj h2)
  | 0, l + 1, c, d, e, h, h2, hd, _ => by
    have : c = d := Option.some.inj h
    subst this
    have h2 : (st c).bind (fun o => o.bind (fun c1 => itG st l c1)) = some e := h2
    obtain ⟨o, ho, h2⟩ := Option.bind_eq_some_iff.mp h2
    obtain ⟨c1, hc, h2⟩ := Option.bind_eq_some_iff.mp h2
    rw [hc] at ho
    exact absurd ho (hd c1)
  | k + 1, 0, c, d, e, h, h2, _, he => by
    have : c = e := Option.some.inj h2
    subst this
    have h : (st c).bind (fun o => o.bind (fun c1 => itG st k c1)) = some d := h
    obtain ⟨o, ho, h⟩ := Option.bind_eq_some_iff.mp h
    obtain ⟨c1, hc, h⟩ := Option.bind_eq_some_iff.mp h
    rw [hc] at ho
    exact absurd ho (he c1)
  | k + 1, l + 1, c, d, e, h, h2, hd, he => by
    have h : (st c).bind (fun o => o.bind (fun c1 => itG st k c1)) = some d := h
    have h2 : (st c).bind (fun o => o.bind (fun c1 => itG st l c1)) = some e := h2
    obtain ⟨o, ho, h⟩ := Option.bind_eq_some_iff.mp h
    obtain ⟨c1, hc, h⟩ := Option.bind_eq_some_iff.mp h
    rw [ho, hc] at h2
    exact itG_un h h2 hd he
theorem Rc.un (h : Rc st c d) (h2 : Rc st c e) (hd : ∀ x, ¬ st d = some (some x)) (he : ∀ x, ¬ st e = some (some x)) : d = e := by
  obtain ⟨k, hk⟩ := h
  obtain ⟨l, hl⟩ := h2
  exact itG_un hk hl hd he
end MACH
/-! ===== lines ===== -/
noncomputable def nvI (t : Nat → Int32) (n i : Nat) : Int32 := nI (nv5 t n i).toNat
theorem nv_eq {t : Nat → Int32} {n i : Nat} {v : Int32} (h : v.toInt = nv5 t n i) : v = nvI t n i := by
  apply Int32.toInt_inj.mp
  have h0 : 0 ≤ nv5 t n i ∧ nv5 t n i ≤ 99999 := by unfold nv5; omega
  unfold nvI
  rw [nI_toInt (by omega), h]
  omega
def nmRow (g : Nat → Int32) (v : Int32) : Nat → Int32 := fun j => if j = 0 then v else if 3 ≤ j ∧ j < 13 then 1 else if 33 ≤ j ∧ j < 43 then nI (j - 33) else g j
def edRow (g : Nat → Int32) (a b : Int32) : Nat → Int32 := upd (upd (upd g (13 + (g 2).toInt.toNat) a) (23 + (g 2).toInt.toNat) b) 2 (g 2 + 1)
abbrev LO : Type := Option (Nat × (Nat → Int32) × Nat)
noncomputable def nmR (t : Nat → Int32) (n i : Nat) (g : Nat → Int32) (sg : Nat) : LO := by
  classical exact (if isW t n i 11 ∧ nOK t n (tkE t n i) 1 10 then some (tkE t n (tkE t n i), nmRow g (nvI t n (tkE t n i)), sg) else none)
noncomputable def wtR (t : Nat → Int32) (n i : Nat) (g : Nat → Int32) (sg : Nat) : LO := by
  classical exact (if nmOK t n i (g 0) ∧ nOK t n (tkE t n i) 0 99 then some (tkE t n (tkE t n i), upd g (3 + ((t (tkF t n i)).toInt - 97).toNat) (nvI t n (tkE t n i)), sg) else none)
noncomputable def edR (t : Nat → Int32) (n i : Nat) (g : Nat → Int32) (sg : Nat) : LO := by
  classical exact (if edOK t n i then some (tkE t n (tkE t n i), edRow g (nvI t n i) (nvI t n (tkE t n i)), sg) else none)
noncomputable def lnR (t : Nat → Int32) (n i : Nat) (g : Nat → Int32) (sg : Nat) : LO := by
  classical exact (if isW t n i 12 then wtR t n (tkE t n i) g sg else if isW t n i 13 then (if g 2 = g 0 then none else edR t n (tkE t n i) g sg) else if isW t n i 14 then (letR t n (g 0) (tkE t n i) sg).map (fun p => (p.1, g, p.2)) else none)
noncomputable def bdR (t : Nat → Int32) (n i : Nat) (g : Nat → Int32) (sg : Nat) : LO := if g 1 = 0 then nmR t n i g sg else lnR t n i g sg
abbrev LC : Type := Nat × (Nat → Int32) × Nat
/-- one line of a world: none a fault, some none the end -/
noncomputable def stL (t : Nat → Int32) (n : Nat) (c : LC) : Option (Option LC) := if tkK t n c.1 = 0 then some none else (bdR t n c.1 c.2.1 c.2.2).bind (fun d => if tkK t n d.1 = 59 then some (some (tkE t n d.1, upd d.2.1 1 (d.2.1 1 + 1), d.2.2)) else none)
theorem stL_e {t : Nat → Int32} {n : Nat} {c : LC} (h : tkK t n c.1 = 0) : stL t n c = some none := if_pos h
theorem stL_n {t : Nat → Int32} {n : Nat} {c : LC} (h : ¬ tkK t n c.1 = 0) (h2 : bdR t n c.1 c.2.1 c.2.2 = none) : stL t n c = none := by
  unfold stL
  rw [if_neg h, h2]; rfl
theorem stL_s {t : Nat → Int32} {n : Nat} {c : LC} {d : LC} (h : ¬ tkK t n c.1 = 0) (h2 : bdR t n c.1 c.2.1 c.2.2 = some d) : stL t n c = if tkK t n d.1 = 59 then some (some (tkE t n d.1, upd d.2.1 1 (d.2.1 1 + 1), d.2.2)) else none := by
  unfold stL
  rw [if_neg h, h2]; rfl
section LNS
variable {t : Nat → Int32} {n i : Nat} {g : Nat → Int32} {sg : Nat}
theorem nmR_t (h : isW t n i 11 ∧ nOK t n (tkE t n i) 1 10) : nmR t n i g sg = some (tkE t n (tkE t n i), nmRow g (nvI t n (tkE t n i)), sg) := if_pos h
theorem nmR_f (h : ¬ (isW t n i 11 ∧ nOK t n (tkE t n i) 1 10)) : nmR t n i g sg = none := if_neg h
theorem wtR_t (h : nmOK t n i (g 0) ∧ nOK t n (tkE t n i) 0 99) : wtR t n i g sg = some (tkE t n (tkE t n i), upd g (3 + ((t (tkF t n i)).toInt - 97).toNat) (nvI t n (tkE t n i)), sg) := if_pos h
theorem wtR_f (h : ¬ (nmOK t n i (g 0) ∧ nOK t n (tkE t n i) 0 99)) : wtR t n i g sg = none := if_neg h
theorem edR_t (h : edOK t n i) : edR t n i g sg = some (tkE t n (tkE t n i), edRow g (nvI t n i) (nvI t n (tkE t n i)), sg) := if_pos h
theorem edR_f (h : ¬ edOK t n i) : edR t n i g sg = none := if_neg h
theorem lnR_w (h : isW t n i 12) : lnR t n i g sg = wtR t n (tkE t n i) g sg := if_pos h
theorem lnR_e (h0 : ¬ isW t n i 12) (h : isW t n i 13) (h2 : ¬ g 2 = g 0) : lnR t n i g sg = edR t n (tkE t n i) g sg := (if_neg h0).trans ((if_pos h).trans (if_neg h2))
theorem lnR_m (h0 : ¬ isW t n i 12) (h : isW t n i 13) (h2 : g 2 = g 0) : lnR t n i g sg = none := (if_neg h0).trans ((if_pos h).trans (if_pos h2))
theorem lnR_l (h0 : ¬ isW t n i 12) (h1 : ¬ isW t n i 13) (h : isW t n i 14) : lnR t n i g sg = (letR t n (g 0) (tkE t n i) sg).map (fun p => (p.1, g, p.2)) := (if_neg h0).trans ((if_neg h1).trans (if_pos h))
theorem lnR_z (h0 : ¬ isW t n i 12) (h1 : ¬ isW t n i 13) (h : ¬ isW t n i 14) : lnR t n i g sg = none := (if_neg h0).trans ((if_neg h1).trans (if_neg h))
end LNS

section Zq14_0
/-! ===== the class does the steps ===== -/
section RUN
variable {N B n : Nat} {σ τ υ : zS} {s : zEv}
def CVl (L : Nat → Nat → Int64) : List zFm → Prop
  | [] => True
  | x :: S => (∀ u, u < 1024 → bt (L (68 + 2 * S.length)) u = x u) ∧ CVl L S
theorem CVl_c {L L' : Nat → Nat → Int64} : ∀ {S : List zFm}, (∀ k, k < S.length → L' (68 + 2 * k) = L (68 + 2 * k)) → CVl L S → CVl L' S
  | [], _, _ => trivial
  | x :: S, h, hc => ⟨fun u hu => by rw [h S.length (by rw [List.length_cons]; omega)]; exact hc.1 u hu, CVl_c (fun k hk => h k (by rw [List.length_cons]; omega)) hc.2⟩
/-- all stay within the names -/
def RG (M : Nat) (s : zEv) : Prop := (∀ p, p < 10 → ∀ u, u < 1024 → s.1 p u = true → u < M) ∧ ∀ x ∈ s.2, ∀ u, u < 1024 → x u = true → u < M
theorem RG_1 {o : zOp} (h : RG (2 ^ n) s) (hv : vd1 (2 ^ n) o s.2.length) : RG (2 ^ n) (ev1 (2 ^ n) o s) ∧ (ev1 (2 ^ n) o s).2.length = nh o s.2.length := by
  obtain ⟨G, S⟩ := s
  obtain ⟨a, b⟩ := o
  rcases hv with ⟨e, hb, hh⟩ | ⟨e, hh⟩ | ⟨e, hh⟩ | ⟨e, hb, hh⟩ | ⟨e, hh⟩ | ⟨e, hh⟩ | ⟨e, hb, hh⟩
  · have e : a = 0 := e
    subst e
    have hb : 0 ≤ b.toInt ∧ b.toInt < 10 := hb
    rw [ev_0, nh_p.1]
    exact ⟨⟨h.1, fun x hx => (List.mem_cons.mp hx).elim (fun q => by rw [q]; exact h.1 _ (by omega)) (h.2 x)⟩, rfl⟩
  · have e : a = 1 := e
    subst e
    rw [ev_1, nh_p.2.1]
    exact ⟨⟨h.1, fun x hx => (List.mem_cons.mp hx).elim (fun q => by rw [q]; exact fun u _ z => by cases z) (h.2 x)⟩, rfl⟩
  · have e : a = 2 := e
    subst e
    rw [ev_2, nh_p.2.2.1]
    exact ⟨⟨h.1, fun x hx => (List.mem_cons.mp hx).elim (fun q => by rw [q]; exact fun u _ z => of_decide_eq_true z) (h.2 x)⟩, rfl⟩
  · have e : a = 3 := e
    subst e
    have hb : 0 ≤ b.toInt ∧ b.toInt.toNat < 2 ^ n := hb
    have hh : 1 ≤ S.length := hh
    cases S with
    | nil => exact absurd hh (by decide)
    | cons x S =>
      rw [ev_3, nh_p.2.2.2.1]
      refine ⟨⟨h.1, fun y hy => (List.mem_cons.mp hy).elim (fun q => ?_) (fun q => h.2 y (List.mem_cons_of_mem _ q))⟩, rfl⟩
      rw [q]
      intro u hu z
      have z : (x u || decide (u = b.toInt.toNat)) = true := z
      rw [Bool.or_eq_true, decide_eq_true_iff] at z
      rcases z with z | z
      · exact h.2 x List.mem_cons_self u hu z
      · rw [z]; exact hb.2
  · have e : a = 4 := e
    subst e
    have hh : 2 ≤ S.length := hh
    match S, hh with
    | y :: x :: S, _ =>
      rw [ev_4, nh_p.2.2.2.2.1]
      refine ⟨⟨h.1, fun z hz => (List.mem_cons.mp hz).elim (fun q => ?_) (fun q => h.2 z (List.mem_cons_of_mem _ (List.mem_cons_of_mem _ q)))⟩, rfl⟩
      rw [q]
      exact fun u _ w => CS_in (bl_t.mp w)
  · have e : a = 5 := e
    subst e
    have hh : 1 ≤ S.length := hh
    cases S with
    | nil => exact absurd hh (by decide)
    | cons x S =>
      rw [ev_5, nh_p.2.2.2.2.2.1]
      refine ⟨⟨h.1, fun z hz => (List.mem_cons.mp hz).elim (fun q => ?_) (fun q => h.2 z (List.mem_cons_of_mem _ q))⟩, rfl⟩
      rw [q]
      exact fun u _ w => RS_in (bl_t.mp w)
  · have e : a = 6 := e
    subst e
    have hh : 1 ≤ S.length := hh
    cases S with
    | nil => exact absurd hh (by decide)
    | cons x S =>
      rw [ev_6, nh_p.2.2.2.2.2.2]
      refine ⟨⟨fun p hp u hu z => ?_, fun x hx => absurd hx List.not_mem_nil⟩, rfl⟩
      have z : (if p = b.toInt.toNat then x else G p) u = true := z
      split at z
      · exact h.2 x List.mem_cons_self u hu z
      · exact h.1 p hp u hu z
/-- registers and pile are s -/
def RU (σ : zS) (B : Nat) (s : zEv) : Prop := σ.1 65 1 = nI s.2.length ∧ CVl σ.2.1 s.2 ∧ ∀ p, p < 10 → ∀ u, u < 1024 → bt (σ.2.1 (B + 6 + 2 * p + 1)) u = s.1 p u
/-- what a run leaves -/
def FU (B : Nat) (σ τ : zS) : Prop := τ.2.2 = σ.2.2 ∧ (∀ a, a ∉ [65, 106, 107] → τ.1 a = σ.1 a) ∧ ∀ a, WR a → ¬ (B + 6 ≤ a ∧ a < B + 26) → τ.2.1 a = σ.2.1 a
theorem FU.rf : FU B σ σ := ⟨rfl, fun _ _ => rfl, fun _ _ _ => rfl⟩
theorem FU.tr (h : FU B σ τ) (h2 : FU B τ υ) : FU B σ υ := ⟨h2.1.trans h.1, fun a ha => (h2.2.1 a ha).trans (h.2.1 a ha), fun a ha hn => (h2.2.2 a ha hn).trans (h.2.2 a ha hn)⟩
theorem FU.R (h : FU B σ τ) (hR : RF σ.2.2) : RF τ.2.2 := by rw [h.1]; exact hR
theorem zpl : ∀ i, i < 16 → zdyn 66 i = false ∧ zT 66 i = 67 + 2 * i ∧ (zKd (67 + 2 * i)).1 = 2 := by decide +kernel
theorem pl_R {R : Nat → Nat → Nat} (hR : RF R) {i : Nat} (hi : i < 16) : R 66 i = 67 + 2 * i ∧ isF (67 + 2 * i) := ⟨(hR 66 i (zpl i hi).1).trans (zpl i hi).2.1, (zpl i hi).2.2, by omega⟩
theorem mm15 : ∀ a, a < 16 → zmax 0 (zmin 15 (nI a)) = nI a := by decide
theorem mm16 : ∀ a, a < 16 → zmin 16 (nI a + 1) = nI (a + 1) := by decide
theorem v_top {h k : Nat} (hR : RF σ.2.2) (e : σ.1 65 1 = nI h) (hh : h ≤ 16) (hk : k < h) : Px (f_X7_top N 65 (nI k) σ) σ (fun v => v = 67 + 2 * (h - 1 - k)) := by
  rw [f_X7_top.eq_1]
  refine pt_gI (pt_gR (v := 66) (hR 65 0 rfl) (pt_aR (pt_some ⟨rfl, ?_⟩)))
  rw [e, show (1 : Int32) = nI 1 from rfl, nI_sub (show h = (h - 1) + 1 by omega), nI_sub (show h - 1 = (h - 1 - k) + k by omega), mm15 _ (by omega), iN (by omega)]
  exact (pl_R hR (by omega)).1
theorem v_pushed {h : Nat} (hR : RF σ.2.2) (e : σ.1 65 1 = nI h) (hh : h < 16) : Pt (f_X7_pushed N 65 σ) (fun r => r.1 = 67 + 2 * h ∧ r.2.2 = σ.2 ∧ r.2.1 65 1 = nI (h + 1) ∧ ∀ a, a ≠ 65 → r.2.1 a = σ.1 a) := by
  rw [f_X7_pushed.eq_1]
  refine pt_gI (pt_pI ?_)
  rw [e, mm16 h hh]
  have e1 : (zI σ 65 (upd (σ.1 65) 1 (nI (h + 1)))).1 65 1 = nI (h + 1) := by rw [zI_s, upd_s]
  refine pt_gC (pt_zbq (v_top (k := 0) (h := h + 1) hR e1 (by omega) (by omega)) (fun v hv => pt_some ⟨?_, rfl, e1, fun a ha => zI_n ha⟩))
  show v = _
  rw [hv]; rfl
theorem v_isReg {x : Int32} (h : 0 ≤ x.toInt ∧ x.toInt < 10) : Px (f_X7_isRegisterNumber N x σ) σ (fun v => v = 1) := by
  rw [f_X7_isRegisterNumber.eq_1]
  refine pt_if (fun q => absurd q (by rw [Int32.lt_iff_toInt_lt]; simp only [Int32.reduceToInt]; omega)) (fun _ => pt_if (fun q => absurd q (by rw [Int32.le_iff_toInt_le]; simp only [Int32.reduceToInt]; omega)) (fun _ => pt_rZ ⟨rfl, rfl⟩))
theorem pt_rg2 {β : Type} {P : β → Prop} {k : Nat} {f : Nat → Option β} (hB : isWc B) (hR : RF σ.2.2) (hk : k < 10) (h : Pt (f (B + 6 + 2 * k)) P) : Pt (zl (gR 10 7 B σ) fun v4 => zl (aR 17 v4 (nI k) σ) f) P := by
  refine pt_gR (v := B + 5) (rW hB hR).2 (pt_aR ?_)
  rw [iN (by omega), (rgW hB hR hk).1]; exact h
theorem wB {B a : Nat} (hB : isWc B) (h : WR a) : a ∉ [101, 103, 105] ∧ ¬ (68 ≤ a ∧ a ≤ 98) := by
  unfold WR at h
  simp only [List.mem_cons, List.not_mem_nil, or_false]
  omega
/-- one step -/
theorem v_doStep {o : zOp} (hB : isWc B) (hR : RF σ.2.2) (en : σ.1 B 0 = nI n) (n10 : n ≤ 10) (hU : RU σ B s) (hG : RG (2 ^ n) s) (hv : vd1 (2 ^ n) o s.2.length) (h16 : s.2.length ≤ 16) : Pt (f_X7_doStep N 65 o.1 o.2 B 99 σ) (fun r => RU r.2 B (ev1 (2 ^ n) o s) ∧ FU B σ r.2) := by
  obtain ⟨G, S⟩ := s
  obtain ⟨a, b⟩ := o
  obtain ⟨e1, hc, hr⟩ := hU
  have e1 : σ.1 65 1 = nI S.length := e1
  have hc : CVl σ.2.1 S := hc
  have hr : ∀ p, p < 10 → ∀ u, u < 1024 → bt (σ.2.1 (B + 6 + 2 * p + 1)) u = G p u := hr
  have h16 : S.length ≤ 16 := h16
  have pn := p2le n10
  have bB : B ≠ 65 ∧ B ≠ 106 ∧ B ≠ 107 := by unfold isWc at hB; omega
  have rgne : ∀ p, p < 10 → ∀ j, j < 16 → B + 6 + 2 * p + 1 ≠ 67 + 2 * j + 1 := fun p hp j hj => by unfold isWc at hB; omega
  have rgal : ∀ p, p < 10 → B + 6 + 2 * p + 1 ∉ [101, 103, 105] := fun p hp => by unfold isWc at hB; simp only [List.mem_cons, List.not_mem_nil, or_false]; omega
  show Pt (f_X7_doStep N 65 a b B 99 σ) _
  rw [f_X7_doStep.eq_1]
  -- a family is pushed
  have push : ∀ (X : zFm) (F : Nat → zS → Option (Unit × zS)), S.length < 16 → (∀ σ1 : zS, σ1.2 = σ.2 → (∀ a, a ≠ 65 → σ1.1 a = σ.1 a) → Pt (F (67 + 2 * S.length) σ1) (fun r => LF (67 + 2 * S.length + 1) σ1 r.2 ∧ ∀ u, u < 1024 → bt (r.2.2.1 (67 + 2 * S.length + 1)) u = X u)) → Pt (zl (gC 7 65) fun _ => zb (f_X7_pushed N 65 σ) F) (fun r => RU r.2 B (G, X :: S) ∧ FU B σ r.2) := fun X F hl hF => by
    refine pt_gC (pt_zb (v_pushed hR e1 hl) (fun v σ1 h1 => ?_))
    obtain ⟨ev, e2, e3, o1⟩ := h1
    have ev : v = 67 + 2 * S.length := ev
    subst ev
    have e2 : σ1.2 = σ.2 := e2
    refine pt_w (hF σ1 e2 o1) (fun r h2 => ⟨⟨?_, ⟨fun u hu => ?_, ?_⟩, fun p hp u hu => ?_⟩, ?_, fun a ha => ?_, fun a ha hn => ?_⟩)
    · show r.2.1 65 1 = nI (S.length + 1)
      rw [h2.1.1]; exact e3
    · show bt (r.2.2.1 (68 + 2 * S.length)) u = X u
      rw [show 68 + 2 * S.length = 67 + 2 * S.length + 1 by omega]; exact h2.2 u hu
    · refine CVl_c (fun k hk => ?_) hc
      show r.2.2.1 (68 + 2 * k) = σ.2.1 (68 + 2 * k)
      rw [h2.1.2.2 _ (by omega), e2]
    · show bt (r.2.2.1 (B + 6 + 2 * p + 1)) u = G p u
      rw [h2.1.2.2 _ (rgne p hp _ hl), e2]; exact hr p hp u hu
    · rw [h2.1.2.1, e2]
    · rw [h2.1.1]
      exact o1 a (fun z => ha (by rw [z]; decide))
    · have := wB hB ha
      rw [h2.1.2.2 _ (by omega), e2]
  -- the top is changed
  have topc : ∀ {j : Nat} {σ1 σ2 : zS} {L : List Nat}, j < 16 → σ1.2 = σ.2 → AG [106, 107] ((67 + 2 * j + 1) :: L) σ1 σ2 → (∀ k ∈ L, k = 101 ∨ k = 103 ∨ k = 105) → (∀ a, a ∉ [65, 106, 107] → σ1.1 a = σ.1 a) → (∀ p, p < 10 → ∀ u, u < 1024 → bt (σ2.2.1 (B + 6 + 2 * p + 1)) u = G p u) ∧ FU B σ σ2 ∧ ∀ k, k ≠ j → k < 16 → σ2.2.1 (68 + 2 * k) = σ.2.1 (68 + 2 * k) := fun {j σ1 σ2 L} hj e ag hL hi => by
    have out : ∀ a, a ≠ 67 + 2 * j + 1 → a ≠ 101 → a ≠ 103 → a ≠ 105 → σ2.2.1 a = σ.2.1 a := fun a h1 h2 h3 h4 => by
      rw [ag.2.2 a (fun z => (List.mem_cons.mp z).elim h1 (fun z => (hL a z).elim h2 (fun z => z.elim h3 h4))), e]
    refine ⟨fun p hp u hu => ?_, ⟨?_, fun a ha => ?_, fun a ha hn => ?_⟩, fun k hk hk16 => out _ (by omega) (by omega) (by omega) (by omega)⟩
    · have := rgal p hp
      simp only [List.mem_cons, List.not_mem_nil, or_false, not_or] at this
      rw [out _ (rgne p hp j hj) this.1 this.2.1 this.2.2]; exact hr p hp u hu
    · rw [ag.2.1, e]
    · rw [ag.1 a (fun z => ha (List.mem_cons_of_mem _ z))]; exact hi a ha
    · have := wB hB ha
      simp only [List.mem_cons, List.not_mem_nil, or_false, not_or] at this
      exact out a (by omega) this.1.1 this.1.2.1 this.1.2.2
  rcases hv with ⟨e, hb, hh⟩ | ⟨e, hh⟩ | ⟨e, hh⟩ | ⟨e, hb, hh⟩ | ⟨e, hh⟩ | ⟨e, hh⟩ | ⟨e, hb, hh⟩
  · have e : a = 0 := e
    subst e
    have hb : 0 ≤ b.toInt ∧ b.toInt < 10 := hb
    have hh : S.length < 16 := hh
    obtain ⟨p, hp, rfl⟩ := znI (x := b) (m := 10) hb.1 (by omega)
    rw [ev_0, iN (by omega)]
    refine pt_if (fun _ => ?_) (fun q => absurd rfl q)
    refine pt_zbq (v_isReg hb) (fun v hv => ?_)
    rw [hv]
    refine pt_if (fun q => absurd q (by decide)) (fun _ => ?_)
    refine pt_gC (pt_zb (v_pushed hR e1 hh) (fun v σ1 h1 => ?_))
    obtain ⟨ev, e2, e3, o1⟩ := h1
    have ev : v = 67 + 2 * S.length := ev
    subst ev
    have e2 : σ1.2 = σ.2 := e2
    have R1 : RF σ1.2.2 := by rw [e2]; exact hR
    refine pt_rg2 hB R1 hp (pt_gC (pt_zb (v_copyFrom R1 (pl_R R1 hh).2.1 (rgW hB R1 hp).2) (fun _ σ2 h2 => pt_some ?_)))
    obtain ⟨l2, b2⟩ := h2
    have l2 : LF (67 + 2 * S.length + 1) σ1 σ2 := l2
    refine ⟨⟨?_, ⟨fun u hu => ?_, ?_⟩, fun q hq u hu => ?_⟩, ?_, fun a ha => ?_, fun a ha hn => ?_⟩
    · show σ2.1 65 1 = nI (S.length + 1)
      rw [l2.1]; exact e3
    · show bt (σ2.2.1 (68 + 2 * S.length)) u = G p u
      have := b2 u hu
      rw [show 68 + 2 * S.length = 67 + 2 * S.length + 1 by omega, this, e2]; exact hr p hp u hu
    · refine CVl_c (fun k hk => ?_) hc
      show σ2.2.1 (68 + 2 * k) = σ.2.1 (68 + 2 * k)
      rw [l2.2.2 _ (by omega), e2]
    · show bt (σ2.2.1 (B + 6 + 2 * q + 1)) u = G q u
      rw [l2.2.2 _ (rgne q hq _ hh), e2]; exact hr q hq u hu
    · show σ2.2.2 = σ.2.2
      rw [l2.2.1, e2]
    · show σ2.1 a = σ.1 a
      rw [l2.1]
      exact o1 a (fun z => ha (by rw [z]; decide))
    · show σ2.2.1 a = σ.2.1 a
      have := wB hB ha
      rw [l2.2.2 _ (by omega), e2]
  · have e : a = 1 := e
    subst e
    rw [ev_1]
    refine pt_if (fun q => absurd q (by decide)) (fun _ => pt_if (fun _ => ?_) (fun q => absurd rfl q))
    exact push (fun _ => false) _ hh (fun σ1 e2 o1 => pt_gC (pt_zb (v_clear (by rw [e2]; exact hR) (pl_R hR hh).2.1) (fun _ σ2 h => pt_some h)))
  · have e : a = 2 := e
    subst e
    rw [ev_2]
    refine pt_if (fun q => absurd q (by decide)) (fun _ => pt_if (fun q => absurd q (by decide)) (fun _ => pt_if (fun _ => ?_) (fun q => absurd rfl q)))
    refine push (fun u => decide (u < 2 ^ n)) _ hh (fun σ1 e2 o1 => pt_gI ?_)
    rw [o1 B bB.1, en]
    exact pt_gC (pt_zb (v_becomeAll (by rw [e2]; exact hR) (pl_R hR hh).2.1 n10) (fun _ σ2 h => pt_some h))
  · have e : a = 3 := e
    subst e
    have hb : 0 ≤ b.toInt ∧ b.toInt.toNat < 2 ^ n := hb
    have hh : 1 ≤ S.length := hh
    obtain ⟨u0, hu0, rfl⟩ := znI (x := b) (m := 1024) hb.1 (by omega)
    rw [iN (by omega)] at hb
    refine pt_if (fun q => absurd q (by decide)) (fun _ => pt_if (fun q => absurd q (by decide)) (fun _ => pt_if (fun q => absurd q (by decide)) (fun _ => pt_if (fun _ => ?_) (fun q => absurd rfl q))))
    cases S with
    | nil => exact absurd hh (by decide)
    | cons x S =>
      have e1 : σ.1 65 1 = nI (S.length + 1) := e1
      have h16 : S.length + 1 ≤ 16 := h16
      rw [ev_3, iN (by omega)]
      refine pt_gC (pt_zbq (v_top (k := 0) hR e1 h16 (by omega)) (fun v hv => ?_))
      rw [hv, show S.length + 1 - 1 - 0 = S.length by omega]
      have pl := pl_R hR (show S.length < 16 by omega)
      refine pt_gC (pt_zb (v_include hR pl.2.1 (by omega)) (fun _ σ2 h2 => pt_some ?_))
      obtain ⟨l2, b2⟩ := h2
      have l2 : LF (67 + 2 * S.length + 1) σ σ2 := l2
      have T := topc (σ1 := σ) (σ2 := σ2) (L := []) (show S.length < 16 by omega) rfl (l2.A List.mem_cons_self) (fun k hk => absurd hk List.not_mem_nil) (fun _ _ => rfl)
      refine ⟨⟨?_, ⟨fun u hu => ?_, CVl_c (fun k hk => T.2.2 k (by omega) (by omega)) hc.2⟩, T.1⟩, T.2.1⟩
      · show σ2.1 65 1 = nI (S.length + 1)
        rw [l2.1]; exact e1
      · have := b2 u hu
        show bt (σ2.2.1 (68 + 2 * S.length)) u = (x u || decide (u = u0))
        rw [show 68 + 2 * S.length = 67 + 2 * S.length + 1 by omega, this, show 67 + 2 * S.length + 1 = 68 + 2 * S.length by omega, hc.1 u hu]
  · have e : a = 4 := e
    subst e
    have hh : 2 ≤ S.length := hh
    refine pt_if (fun q => absurd q (by decide)) (fun _ => pt_if (fun q => absurd q (by decide)) (fun _ => pt_if (fun q => absurd q (by decide)) (fun _ => pt_if (fun q => absurd q (by decide)) (fun _ => pt_if (fun _ => ?_) (fun q => absurd rfl q)))))
    match S, hh, e1, hc, h16, hG with
    | y :: x :: S, _, e1, hc, h16, hG =>
      have e1 : σ.1 65 1 = nI (S.length + 2) := e1
      have h16 : S.length + 2 ≤ 16 := h16
      rw [ev_4]
      refine pt_gC (pt_zbq (v_top (k := 1) hR e1 h16 (by omega)) (fun v hv => ?_))
      rw [hv, show S.length + 2 - 1 - 1 = S.length by omega]
      refine pt_gC (pt_zbq (v_top (k := 0) hR e1 h16 (by omega)) (fun v2 hv2 => ?_))
      rw [hv2, show S.length + 2 - 1 - 0 = S.length + 1 by omega]
      refine pt_gI ?_
      rw [en]
      have p1 := pl_R hR (show S.length < 16 by omega)
      have p2 := pl_R hR (show S.length + 1 < 16 by omega)
      have bx : ∀ u, u < 1024 → bt (σ.2.1 (67 + 2 * S.length + 1)) u = x u := fun u hu => by rw [show 67 + 2 * S.length + 1 = 68 + 2 * S.length by omega]; exact hc.2.1 u hu
      have by' : ∀ u, u < 1024 → bt (σ.2.1 (67 + 2 * (S.length + 1) + 1)) u = y u := fun u hu => by rw [show 67 + 2 * (S.length + 1) + 1 = 68 + 2 * (S.length + 1) by omega]; exact hc.1 u hu
      have Ix : inN (bt (σ.2.1 (67 + 2 * S.length + 1))) n := fun u hu z => hG.2 x (List.mem_cons_of_mem _ List.mem_cons_self) u hu (by rw [← bx u hu]; exact z)
      have Iy : inN (bt (σ.2.1 (67 + 2 * (S.length + 1) + 1))) n := fun u hu z => hG.2 y List.mem_cons_self u hu (by rw [← by' u hu]; exact z)
      refine pt_gC (pt_zb (v_combine hR p1.2 p2.2 (by omega) n10 Ix Iy) (fun _ σ2 h2 => ?_))
      obtain ⟨a2, b2⟩ := h2
      have a2 : AG [106, 107] ((67 + 2 * S.length + 1) :: [101, 103, 105]) σ σ2 := a2
      have T := topc (σ1 := σ) (σ2 := σ2) (show S.length < 16 by omega) rfl a2 (fun k hk => by simpa using hk) (fun _ _ => rfl)
      refine pt_gI (pt_pI (pt_some ?_))
      have e3 : σ2.1 65 1 = nI (S.length + 2) := by rw [a2.1 65 (by decide)]; exact e1
      rw [e3, show nI (S.length + 2) - 1 = nI (S.length + 1) from nI_sub (c := S.length + 1) (b := 1) (by omega)]
      rw [(by decide : ∀ k, k < 16 → zmax 0 (nI k) = nI k) (S.length + 1) (by omega)]
      refine ⟨⟨by show (zI σ2 65 _).1 65 1 = nI (S.length + 1); rw [zI_s, upd_s], ⟨fun u hu => ?_, CVl_c (fun k hk => T.2.2 k (by omega) (by omega)) hc.2.2⟩, T.1⟩, T.2.1.1, fun a ha => ?_, T.2.1.2.2⟩
      · show bt (σ2.2.1 (68 + 2 * S.length)) u = bl (CS b x y (2 ^ n)) u
        rw [show 68 + 2 * S.length = 67 + 2 * S.length + 1 by omega]
        rw [Bool.eq_iff_iff, bl_t]
        exact (b2 u hu).trans ⟨CS_c bx by' pn.1 hu, CS_c (fun k q => (bx k q).symm) (fun k q => (by' k q).symm) pn.1 hu⟩
      · show (zI σ2 65 _).1 a = σ.1 a
        rw [zI_n (fun z => ha (by rw [z]; decide))]; exact T.2.1.2.1 a ha
  · have e : a = 5 := e
    subst e
    have hh : 1 ≤ S.length := hh
    refine pt_if (fun q => absurd q (by decide)) (fun _ => pt_if (fun q => absurd q (by decide)) (fun _ => pt_if (fun q => absurd q (by decide)) (fun _ => pt_if (fun q => absurd q (by decide)) (fun _ => pt_if (fun q => absurd q (by decide)) (fun _ => pt_if (fun _ => ?_) (fun q => absurd rfl q))))))
    cases S with
    | nil => exact absurd hh (by decide)
    | cons x S =>
      have e1 : σ.1 65 1 = nI (S.length + 1) := e1
      have h16 : S.length + 1 ≤ 16 := h16
      rw [ev_5]
      refine pt_gC (pt_zbq (v_top (k := 0) hR e1 h16 (by omega)) (fun v hv => ?_))
      rw [hv, show S.length + 1 - 1 - 0 = S.length by omega]
      refine pt_gI ?_
      rw [en]
      have p1 := pl_R hR (show S.length < 16 by omega)
      have bx : ∀ u, u < 1024 → bt (σ.2.1 (67 + 2 * S.length + 1)) u = x u := fun u hu => by rw [show 67 + 2 * S.length + 1 = 68 + 2 * S.length by omega]; exact hc.1 u hu
      have Ix : inN (bt (σ.2.1 (67 + 2 * S.length + 1))) n := fun u hu z => hG.2 x List.mem_cons_self u hu (by rw [← bx u hu]; exact z)
      refine pt_gC (pt_zb (v_reshape hR p1.2 n10 Ix) (fun _ σ2 h2 => pt_some ?_))
      obtain ⟨l2, b2⟩ := h2
      have l2 : LG ((67 + 2 * S.length + 1) :: [101, 103]) σ σ2 := l2
      have T := topc (σ1 := σ) (σ2 := σ2) (L := [101, 103]) (show S.length < 16 by omega) rfl l2.A (fun k hk => by simp only [List.mem_cons, List.not_mem_nil, or_false] at hk; omega) (fun _ _ => rfl)
      refine ⟨⟨?_, ⟨fun u hu => ?_, CVl_c (fun k hk => T.2.2 k (by omega) (by omega)) hc.2⟩, T.1⟩, T.2.1⟩
      · show σ2.1 65 1 = nI (S.length + 1)
        rw [l2.1]; exact e1
      · show bt (σ2.2.1 (68 + 2 * S.length)) u = bl (RS b x (2 ^ n)) u
        rw [show 68 + 2 * S.length = 67 + 2 * S.length + 1 by omega]
        rw [Bool.eq_iff_iff, bl_t]
        exact (b2 u hu).trans ⟨RS_c bx pn.1 hu, RS_c (fun k q => (bx k q).symm) pn.1 hu⟩
  · have e : a = 6 := e
    subst e
    have hb : 0 ≤ b.toInt ∧ b.toInt < 10 := hb
    have hh : 1 ≤ S.length := hh
    obtain ⟨p, hp, rfl⟩ := znI (x := b) (m := 10) hb.1 (by omega)
    refine pt_if (fun q => absurd q (by decide)) (fun _ => pt_if (fun q => absurd q (by decide)) (fun _ => pt_if (fun q => absurd q (by decide)) (fun _ => pt_if (fun q => absurd q (by decide)) (fun _ => pt_if (fun q => absurd q (by decide)) (fun _ => pt_if (fun q => absurd q (by decide)) (fun _ => ?_))))))
    refine pt_zbq (v_isReg hb) (fun v hv => ?_)
    rw [hv]
    refine pt_if (fun q => absurd q (by decide)) (fun _ => ?_)
    cases S with
    | nil => exact absurd hh (by decide)
    | cons x S =>
      have e1 : σ.1 65 1 = nI (S.length + 1) := e1
      have h16 : S.length + 1 ≤ 16 := h16
      rw [ev_6, iN (by omega)]
      have p1 := pl_R hR (show S.length < 16 by omega)
      have rp := rgW hB hR hp
      refine pt_rg2 hB hR hp (pt_gC (pt_zbq (v_top (k := 0) hR e1 h16 (by omega)) (fun v hv => ?_)))
      rw [hv, show S.length + 1 - 1 - 0 = S.length by omega]
      refine pt_gC (pt_zb (v_copyFrom hR rp.2 p1.2.1) (fun _ σ2 h2 => pt_pI (pt_some ?_)))
      obtain ⟨l2, b2⟩ := h2
      have l2 : LF (B + 6 + 2 * p + 1) σ σ2 := l2
      refine ⟨⟨by show (zI σ2 65 _).1 65 1 = nI 0; rw [zI_s, upd_s]; rfl, trivial, fun q hq u hu => ?_⟩, l2.2.1, fun a ha => ?_, fun a ha hn => ?_⟩
      · show bt (σ2.2.1 (B + 6 + 2 * q + 1)) u = (if q = p then x else G q) u
        by_cases e : q = p
        · subst e
          rw [if_pos rfl, b2 u hu, show 67 + 2 * S.length + 1 = 68 + 2 * S.length by omega]; exact hc.1 u hu
        · rw [if_neg e, l2.2.2 _ (by omega)]; exact hr q hq u hu
      · show (zI σ2 65 _).1 a = σ.1 a
        rw [zI_n (fun z => ha (by rw [z]; decide)), l2.1]
      · show σ2.2.1 a = σ.2.1 a
        exact l2.2.2 a (by omega)
theorem vds_16 {M : Nat} {o : zOp} {h : Nat} (hv : vd1 M o h) (h16 : h ≤ 16) : nh o h ≤ 16 := by
  obtain ⟨a, b⟩ := o
  rcases hv with ⟨e, _, hh⟩ | ⟨e, hh⟩ | ⟨e, hh⟩ | ⟨e, _, hh⟩ | ⟨e, hh⟩ | ⟨e, hh⟩ | ⟨e, _, hh⟩ <;> (have e' := e; simp only at e'; subst e')
  · rw [nh_p.1]; omega
  · rw [nh_p.2.1]; omega
  · rw [nh_p.2.2.1]; omega
  · rw [nh_p.2.2.2.1]; omega
  · rw [nh_p.2.2.2.2.1]; omega
  · rw [nh_p.2.2.2.2.2.1]; omega
  · rw [nh_p.2.2.2.2.2.2]; omega
/-- all steps -/
theorem v_run {O : List zOp} {G : Nat → zFm} (hB : isWc B) (hR : RF σ.2.2) (en : σ.1 B 0 = nI n) (n10 : n ≤ 10) (hs : St σ O) (hl : O.length ≤ 601) (hv : vds (2 ^ n) O 0) (hG : ∀ p, p < 10 → ∀ u, u < 1024 → G p u = true → u < 2 ^ n) (hr : ∀ p, p < 10 → ∀ u, u < 1024 → bt (σ.2.1 (B + 6 + 2 * p + 1)) u = G p u) : Pt (f_X7_run N 65 57 B 99 σ) (fun r => FU B σ r.2 ∧ ∀ p, p < 10 → ∀ u, u < 1024 → bt (r.2.2.1 (B + 6 + 2 * p + 1)) u = (evs (2 ^ n) O (G, [])).1 p u) := by
  have bB : B ≠ 65 ∧ B ≠ 106 ∧ B ≠ 107 := by unfold isWc at hB; omega
  rw [f_X7_run.eq_1]
  refine pt_pI ?_
  refine pt_lp (fun x : Int32 × zS => ∃ (P Q : List zOp) (s : zEv), (O = P ++ Q ∧ x.1 = nI P.length) ∧ (RU x.2 B s ∧ FU B σ x.2) ∧ RG (2 ^ n) s ∧ (vds (2 ^ n) Q s.2.length ∧ s.2.length ≤ 16) ∧ evs (2 ^ n) Q s = evs (2 ^ n) O (G, [])) (fun again x hI ih => ?_) N _ ⟨[], O, (G, []), ⟨rfl, rfl⟩, ⟨⟨by show (zI σ 65 _).1 65 1 = nI 0; rw [zI_s, upd_s]; rfl, trivial, hr⟩, rfl, fun a ha => zI_n (fun z => ha (by rw [z]; decide)), fun _ _ _ => rfl⟩, ⟨hG, fun x hx => absurd hx List.not_mem_nil⟩, ⟨hv, Nat.zero_le _⟩, rfl⟩
  obtain ⟨x4, τ⟩ := x
  obtain ⟨P, Q, s, ⟨eO, ex⟩, ⟨hU, hF⟩, hg, ⟨hq, h16⟩, eq⟩ := hI
  have ex : x4 = nI P.length := ex
  subst ex
  have hU : RU τ B s := hU
  have hF : FU B σ τ := hF
  have R9 := hF.R hR
  have lO : O.length = P.length + Q.length := by rw [eO, List.length_append]
  have e57 : τ.1 57 = σ.1 57 := hF.2.1 57 (by decide)
  have e58 : τ.1 58 = σ.1 58 := hF.2.1 58 (by decide)
  have e59 : τ.1 59 = σ.1 59 := hF.2.1 59 (by decide)
  have steps : τ.1 57 2 = nI O.length := by
    rw [e57]
    apply Int32.toInt_inj.mp
    rw [hs.1, nI_toInt (by omega)]
  rw [F_X7_run_8.eq_1]
  refine pt_gI ?_
  rw [steps]
  refine pt_if (fun q => pt_some ⟨hF, fun p hp u hu => ?_⟩) (fun q => ?_)
  · rw [nlt (by omega) (by omega)] at q
    have : Q = [] := List.eq_nil_of_length_eq_zero (by omega)
    subst this
    rw [← eq]
    exact hU.2.2 p hp u hu
  · rw [nlt (by omega) (by omega)] at q
    cases Q with
    | nil => exact absurd (show O.length ≤ P.length by rw [lO]; simp) q
    | cons o Q =>
      have lp : P.length < O.length := by omega
      have hk := hs.2 P.length lp
      have ho : O[P.length] = o := by
        have : O[P.length]? = some o := by rw [eO, List.getElem?_append_right (Nat.le_refl _), Nat.sub_self]; rfl
        rw [List.getElem?_eq_getElem lp] at this
        exact Option.some.inj this
      rw [ho] at hk
      refine pt_gR (v := 58) (R9 57 3 rfl) (pt_aL (pt_if (fun z => ?_) (fun _ => ?_)))
      · have z : nI 601 ≤ nI P.length := z
        rw [nlt (by omega) (by omega)] at z; omega
      · refine pt_gR (v := 58) (R9 57 3 rfl) (pt_aI (pt_gR (v := 59) (R9 57 4 rfl) (pt_aI ?_)))
        rw [iN (by omega), e58, e59, hk.1, hk.2]
        refine pt_gC (pt_zb (v_doStep hB R9 (by rw [hF.2.1 B (by simp only [List.mem_cons, List.not_mem_nil, or_false]; omega)]; exact en) n10 hU hg hq.1 h16) (fun _ σ2 h2 => ?_))
        have g := RG_1 hg hq.1
        rw [nI_s1 (by omega)]
        refine ih (nI (P.length + 1), σ2) ⟨P ++ [o], Q, ev1 (2 ^ n) o s, ⟨by rw [eO, List.append_assoc]; rfl, by show nI (P.length + 1) = nI (P ++ [o]).length; rw [List.length_append, List.length_singleton]⟩, ⟨h2.1, hF.tr h2.2⟩, g.1, ⟨by rw [g.2]; exact hq.2, by rw [g.2]; exact vds_16 hq.1 h16⟩, eq⟩
end RUN
end Zq14_0
section Zq14_1
/-! ===== the reference reckons a sum while it reads ===== -/
section RSV
variable {N M k n i : Nat} {σ τ υ : zS} {tx : Nat → Int32} {m : Int32} {W : List Int32} {O : List zOp} {s s0 : zEv} {c : Nat}
def WLl (g : Nat → Int32) : List Int32 → Prop
  | [] => True
  | w :: W => g W.length = w ∧ WLl g W
def PVl (r : Nat → Int32) : List zFm → Prop
  | [] => True
  | x :: S => (∀ u, u < 1024 → rb r (1024 * S.length) u = x u) ∧ PVl r S
theorem WLl_c {g g' : Nat → Int32} : ∀ {W : List Int32}, (∀ j, j < W.length → g' j = g j) → WLl g W → WLl g' W
  | [], _, _ => trivial
  | w :: W, h, hc => ⟨(h W.length (by rw [List.length_cons]; omega)).trans hc.1, WLl_c (fun j hj => h j (by rw [List.length_cons]; omega)) hc.2⟩
theorem PVl_c {r r' : Nat → Int32} : ∀ {S : List zFm}, (∀ j, j < 1024 * S.length → r' j = r j) → PVl r S → PVl r' S
  | [], _, _ => trivial
  | x :: S, h, hc => by
    refine ⟨fun u hu => ?_, PVl_c (fun j hj => h j (by rw [List.length_cons]; omega)) hc.2⟩
    have e : rb r' (1024 * S.length) u = rb r (1024 * S.length) u := by
      unfold rb
      rw [h _ (by rw [List.length_cons]; omega)]
    rw [e]; exact hc.1 u hu
/-- what waits, the pile, the registers in row c -/
def RR (τ : zS) (c M : Nat) (s : zEv) (W : List Int32) : Prop := ((τ.1 218 22 = nI W.length ∧ WLl (τ.1 230) W) ∧ τ.1 218 24 = nI (opn W)) ∧ (τ.1 218 23 = nI s.2.length ∧ PVl (τ.1 226) s.2) ∧ (∀ p, p < 10 → ∀ u, u < 1024 → rb (τ.1 c) (1024 * p) u = s.1 p u) ∧ τ.1 218 20 = nI M
/-- rows of the sum, and three numbers -/
def FS (σ τ : zS) : Prop := τ.2 = σ.2 ∧ (∀ a, a ∉ [218, 226, 227, 228, 229, 230] → τ.1 a = σ.1 a) ∧ ∀ j, (j < 22 ∨ 24 < j) → τ.1 218 j = σ.1 218 j
theorem FS.rf : FS σ σ := ⟨rfl, fun _ _ => rfl, fun _ _ => rfl⟩
theorem FS.tr (h : FS σ τ) (h2 : FS τ υ) : FS σ υ := ⟨h2.1.trans h.1, fun a ha => (h2.2.1 a ha).trans (h.2.1 a ha), fun j hj => (h2.2.2 j hj).trans (h.2.2 j hj)⟩
theorem FS.R (h : FS σ τ) (hR : RF σ.2.2) : RF τ.2.2 := by rw [h.1]; exact hR
theorem FS.p {j : Nat} {v : Int32} (hj : 22 ≤ j ∧ j ≤ 24) (h : FS σ τ) : FS σ (zI τ 218 (upd (τ.1 218) j v)) := ⟨h.1, fun a ha => (zI_n (fun e => ha (by rw [e]; decide))).trans (h.2.1 a ha), fun l hl => by rw [zI_s, upd_n (by omega)]; exact h.2.2 l hl⟩
theorem FS.g {L : List Nat} (hL : ∀ a ∈ L, a ∈ [226, 227, 228, 229, 230]) (h : FS σ τ) (h2 : FG L τ υ) : FS σ υ := by
  refine h.tr ⟨h2.1, fun a ha => h2.2 a (fun z => ha (List.mem_cons_of_mem _ (hL a z))), fun j _ => ?_⟩
  rw [h2.2 218 (fun z => absurd (hL _ z) (by decide))]
theorem FS.K (h : FS σ τ) (hK : TOK σ.1) : TOK τ.1 := by
  unfold TOK at hK ⊢
  rw [h.2.2 9 (by omega), h.2.2 10 (by omega), h.2.2 11 (by omega), h.2.2 12 (by omega), h.2.1 224 (by decide)]; exact hK
theorem FS.X (h : FS σ τ) (hG : RX σ.1 tx n i) : RX τ.1 tx n i := by
  unfold RX TKS at hG ⊢
  rw [h.2.2 9 (by omega), h.2.2 10 (by omega), h.2.2 11 (by omega), h.2.2 12 (by omega), h.2.2 13 (by omega), h.2.1 224 (by decide)]; exact hG
/-- one of the pile's places is written -/
theorem vr_copiesMade {h : Nat} {x : zFm} (hN : 1048576 ≤ N) (hR : RF σ.2.2) (hB : ZB σ.1) (hh : h < 18) (hx : ∀ u, u < 1024 → rb (σ.1 227) 0 u = x u) : Pt (f_X12_copiesMade N 218 (nI h) σ) (fun r => ZB r.2.1 ∧ FG [226] σ r.2 ∧ (∀ u, u < 1024 → rb (r.2.1 226) (1024 * h) u = x u) ∧ ∀ j, j < 1024 * h → r.2.1 226 j = σ.1 226 j) := by
  refine pt_w (pt_and (pt_ok (s_X12_copiesMade hN hR hB (by rw [nI_toInt (by omega)]; omega))) (P := fun r : Unit × zS => FG [226] σ r.2 ∧ (∀ u, u < 1024 → r.2.1 226 (1024 * h + u) = σ.1 227 u) ∧ ∀ j, j < 1024 * h → r.2.1 226 j = σ.1 226 j) ?_) (fun r h => ⟨h.1.2, h.2.1, fun u hu => ?_, h.2.2.2⟩)
  · rw [f_X12_copiesMade.eq_1]
    refine pt_lp (fun y : Int32 × zS => ∃ l, (y.1 = nI l ∧ l ≤ 1024) ∧ FG [226] σ y.2 ∧ (∀ u, u < l → y.2.1 226 (1024 * h + u) = σ.1 227 u) ∧ ∀ j, j < 1024 * h → y.2.1 226 j = σ.1 226 j) (fun again y hI ih => ?_) N _ ⟨0, ⟨rfl, Nat.zero_le _⟩, FG.rf, fun u hu => absurd hu (Nat.not_lt_zero _), fun _ _ => rfl⟩
    obtain ⟨x2, τ⟩ := y
    obtain ⟨l, ⟨e, hl⟩, hf, hu, ho⟩ := hI
    have e : x2 = nI l := e
    subst e
    have hf : FG [226] σ τ := hf
    have hu : ∀ u, u < l → τ.1 226 (1024 * h + u) = σ.1 227 u := hu
    have ho : ∀ j, j < 1024 * h → τ.1 226 j = σ.1 226 j := ho
    have R9 := hf.R hR
    rw [F_X12_copiesMade_2.eq_1]
    refine pt_if (fun q => pt_some ⟨hf, fun u h => hu u ?_, ho⟩) (fun q => ?_)
    · have q : nI 1024 ≤ nI l := q
      rw [nlt (by omega) (by omega)] at q; omega
    · have q : ¬ nI 1024 ≤ nI l := q
      rw [nlt (by omega) (by omega)] at q
      have e : ((1024 : Int32) * nI h + nI l).toInt.toNat = 1024 * h + l := by
        rw [n1024, nI_plus, nI_toInt (by omega)]; omega
      refine pt_gR (v := 226) (R9 218 16 rfl) (pt_gR (v := 227) (R9 218 17 rfl) (pt_aI (pt_s16 ?_)))
      rw [e, iN (by omega), nI_s1 (by omega), hf.2 227 (by decide), nrz (hB 227 rfl l)]
      refine ih (nI (l + 1), _) ⟨l + 1, ⟨rfl, by omega⟩, hf.u (by simp), fun u h => ?_, fun j hj => ?_⟩
      · show (zI τ 226 _).1 226 _ = _
        rw [zI_s, upd_i]
        by_cases d : u = l
        · rw [if_pos (by omega), d]
        · rw [if_neg (by omega)]; exact hu u (by omega)
      · show (zI τ 226 _).1 226 j = _
        rw [zI_s, upd_n (by omega)]; exact ho j hj
  · rw [← hx u hu]
    unfold rb
    rw [h.2.2.1 u hu, Nat.zero_add]
theorem rank_r {x : Int32} : Px (f_X12_rank N x σ) σ (fun v => v = rkI x) := pt_ok x_X12_rank
theorem nI_m {a b : Nat} (h : b ≤ a) : nI a - nI b = nI (a - b) := nI_sub (by omega)
/-- one that waits is settled -/
theorem vr_settles {w : Int32} (hN : 1048576 ≤ N) (hR : RF σ.2.2) (hB : ZB σ.1) (hM : M ≤ 1024) (hc : c = 220 ∨ c = 232) (H : RR σ c M s (w :: W)) (hw : (w.toInt < 50 ∧ 2 ≤ s.2.length) ∨ (50 ≤ w.toInt ∧ ¬ w = 100 ∧ 1 ≤ s.2.length)) (h17 : s.2.length ≤ 17) (hW : W.length ≤ 30) : Pt (f_X12_settles N 218 σ) (fun r => (RR r.2 c M (ev1 M (opW w) s) W ∧ ZB r.2.1) ∧ FS σ r.2) := by
  obtain ⟨⟨⟨e22, hwl⟩, e24⟩, ⟨e23, hp⟩, hr, e20⟩ := H
  obtain ⟨G, S⟩ := s
  have e23 : σ.1 218 23 = nI S.length := e23
  have hp : PVl (σ.1 226) S := hp
  have h17 : S.length ≤ 17 := h17
  have hr : ∀ p, p < 10 → ∀ u, u < 1024 → rb (σ.1 c) (1024 * p) u = G p u := hr
  have e22 : σ.1 218 22 = nI (W.length + 1) := e22
  have cn : c ∉ [218, 226, 227, 228, 229, 230] := by rcases hc with rfl | rfl <;> decide
  rw [f_X12_settles.eq_1]
  refine pt_gI (pt_pI ?_)
  rw [e22, show (1 : Int32) = nI 1 from rfl, nI_m (by omega), show W.length + 1 - 1 = W.length by omega]
  have F1 : FS σ (zI σ 218 (upd (σ.1 218) 22 (nI W.length))) := FS.rf.p (by omega)
  have B1 : ZB (zI σ 218 (upd (σ.1 218) 22 (nI W.length))).1 := ZB_n (by decide) hB
  have a22 : (zI σ 218 (upd (σ.1 218) 22 (nI W.length))).1 218 22 = nI W.length := by rw [zI_s, upd_s]
  have a23 : (zI σ 218 (upd (σ.1 218) 22 (nI W.length))).1 218 23 = nI S.length := by rw [zI_s, upd_n (by decide)]; exact e23
  have a24 : (zI σ 218 (upd (σ.1 218) 22 (nI W.length))).1 218 24 = nI (opn (w :: W)) := by rw [zI_s, upd_n (by decide)]; exact e24
  have a30 : (zI σ 218 (upd (σ.1 218) 22 (nI W.length))).1 230 = σ.1 230 := zI_n (by decide)
  have a26 : (zI σ 218 (upd (σ.1 218) 22 (nI W.length))).1 226 = σ.1 226 := zI_n (by decide)
  generalize zI σ 218 (upd (σ.1 218) 22 (nI W.length)) = σ1 at F1 B1 a22 a23 a24 a30 a26 ⊢
  have R1 := F1.R hR
  have a20 : σ1.1 218 20 = nI M := (F1.2.2 20 (by omega)).trans e20
  refine pt_gR (v := 230) (R1 218 21 rfl) (pt_gI (pt_aI ?_))
  rw [a22, iN (by omega), a30, hwl.1]
  rcases hw with ⟨l50, h2⟩ | ⟨g50, n100, h1⟩
  · have h2 : 2 ≤ S.length := h2
    refine pt_if (fun _ => ?_) (fun q => absurd (lt50.1.mpr l50) q)
    match S, h2, e23, hp, h17, a23 with
    | y :: x :: S, _, _, hp, h17, a23 =>
      have a23 : σ1.1 218 23 = nI (S.length + 2) := a23
      have h17 : S.length + 2 ≤ 17 := h17
      rw [opW_s l50, ev_4]
      have cs := cmb_s (W := W) l50
      refine pt_gR (v := 226) (R1 218 16 rfl) (pt_gI (pt_gR (v := 226) (R1 218 16 rfl) (pt_gI ?_)))
      rw [a23, show (2 : Int32) = nI 2 from rfl, nI_m (by omega), nI_m (by omega), show S.length + 2 - 2 = S.length by omega, show S.length + 2 - 1 = S.length + 1 by omega, n1024, n1024]
      refine pt_gC (pt_zb (pt_and (pt_ok (s_X12_gives_226_226 hN R1 B1 (by rw [a20, nI_toInt (by omega)]; omega) (by rw [nI_toInt (by omega)]; omega) (by rw [nI_toInt (by omega)]; omega))) (vr_gives R1 (by omega) (by omega) a20 hM (by decide) (by decide))) (fun _ σ2 h => ?_))
      obtain ⟨⟨_, B2⟩, f2, u2⟩ := h
      have B2 : ZB σ2.1 := B2
      have f2 : FG [227, 228, 229] σ1 σ2 := f2
      have F2 := F1.g (by decide) f2
      have e218 : σ2.1 218 = σ1.1 218 := f2.2 218 (by decide)
      have e26 : σ2.1 226 = σ.1 226 := (f2.2 226 (by decide)).trans a26
      refine pt_gI (pt_pI (pt_gI ?_))
      rw [e218, a23, nI_m (by omega), show S.length + 2 - 1 = S.length + 1 by omega]
      have F3 : FS σ (zI σ2 218 (upd (σ1.1 218) 23 (nI (S.length + 1)))) := by rw [← e218]; exact F2.p (by omega)
      have B3 : ZB (zI σ2 218 (upd (σ1.1 218) 23 (nI (S.length + 1)))).1 := ZB_n (by decide) B2
      have b23 : (zI σ2 218 (upd (σ1.1 218) 23 (nI (S.length + 1)))).1 218 23 = nI (S.length + 1) := by rw [zI_s, upd_s]
      have b22 : (zI σ2 218 (upd (σ1.1 218) 23 (nI (S.length + 1)))).1 218 22 = nI W.length := by rw [zI_s, upd_n (by decide)]; exact a22
      have b24 : (zI σ2 218 (upd (σ1.1 218) 23 (nI (S.length + 1)))).1 218 24 = nI (opn (w :: W)) := by rw [zI_s, upd_n (by decide)]; exact a24
      have b27 : (zI σ2 218 (upd (σ1.1 218) 23 (nI (S.length + 1)))).1 227 = σ2.1 227 := zI_n (by decide)
      have b26 : (zI σ2 218 (upd (σ1.1 218) 23 (nI (S.length + 1)))).1 226 = σ.1 226 := (zI_n (by decide)).trans e26
      have b30 : (zI σ2 218 (upd (σ1.1 218) 23 (nI (S.length + 1)))).1 230 = σ.1 230 := (zI_n (by decide)).trans ((f2.2 230 (by decide)).trans a30)
      generalize zI σ2 218 (upd (σ1.1 218) 23 (nI (S.length + 1))) = σ3 at F3 B3 b22 b23 b24 b26 b27 b30 ⊢
      rw [b23, nI_m (by omega), show S.length + 1 - 1 = S.length by omega]
      have X : ∀ u, u < 1024 → rb (σ3.1 227) 0 u = bl (CS w x y M) u := fun u hu => by
        rw [b27, Bool.eq_iff_iff, bl_t]
        have bx : ∀ u, u < 1024 → rb (σ1.1 226) (1024 * S.length) u = x u := fun u hu => by rw [a26]; exact hp.2.1 u hu
        have by' : ∀ u, u < 1024 → rb (σ1.1 226) (1024 * (S.length + 1)) u = y u := fun u hu => by rw [a26]; exact hp.1 u hu
        exact (u2 u hu).trans ⟨CS_c bx by' hM hu, CS_c (fun k q => (bx k q).symm) (fun k q => (by' k q).symm) hM hu⟩
      refine pt_gC (pt_zb (vr_copiesMade hN (F3.R hR) B3 (by omega) X) (fun _ σ4 h4 => pt_some ?_))
      obtain ⟨B4, f4, x4, o4⟩ := h4
      have f4 : FG [226] σ3 σ4 := f4
      have F4 := F3.g (by decide) f4
      have e4 : σ4.1 218 = σ3.1 218 := f4.2 218 (by decide)
      refine ⟨⟨⟨⟨⟨by show σ4.1 218 22 = _; rw [e4]; exact b22, ?_⟩, ?_⟩, ⟨by show σ4.1 218 23 = nI (S.length + 1); rw [e4]; exact b23, x4, ?_⟩, ?_, ?_⟩, B4⟩, F4⟩
      · show WLl (σ4.1 230) W
        rw [f4.2 230 (by decide), b30]; exact hwl.2
      · show σ4.1 218 24 = _
        rw [e4, b24, cs.2]
      · refine PVl_c (fun j hj => ?_) hp.2.2
        show σ4.1 226 j = _
        rw [o4 j hj, b26]
      · intro p hp' u hu
        show rb (σ4.1 c) _ u = _
        rw [F4.2.1 c cn]; exact hr p hp' u hu
      · show σ4.1 218 20 = _
        rw [F4.2.2 20 (by omega)]; exact e20
  · have h1 : 1 ≤ S.length := h1
    refine pt_if (fun q => absurd (lt50.1.mp q) (by omega)) (fun _ => ?_)
    cases S with
    | nil => exact absurd h1 (by decide)
    | cons x S =>
      have a23 : σ1.1 218 23 = nI (S.length + 1) := a23
      have h17 : S.length + 1 ≤ 17 := h17
      rw [opW_o g50, ev_5]
      have cs := cmb_o (W := W) g50
      refine pt_gR (v := 226) (R1 218 16 rfl) (pt_gI ?_)
      rw [a23, nI_m (by omega), show S.length + 1 - 1 = S.length by omega, n1024]
      refine pt_gC (pt_zb (pt_and (pt_ok (s_X12_turns_226 hN R1 B1 (by rw [a20, nI_toInt (by omega)]; omega) (by rw [nI_toInt (by omega)]; omega))) (vr_turns R1 (by omega) a20 hM (by decide))) (fun _ σ2 h => ?_))
      obtain ⟨⟨_, B2⟩, f2, u2⟩ := h
      have B2 : ZB σ2.1 := B2
      have f2 : FG [227, 228] σ1 σ2 := f2
      have F2 := F1.g (by decide) f2
      have R2 := F2.R hR
      have e218 : σ2.1 218 = σ1.1 218 := f2.2 218 (by decide)
      have e26 : σ2.1 226 = σ.1 226 := (f2.2 226 (by decide)).trans a26
      have X : ∀ u, u < 1024 → rb (σ2.1 227) 0 u = bl (RS (w - 50) x M) u := fun u hu => by
        rw [Bool.eq_iff_iff, bl_t]
        have bx : ∀ u, u < 1024 → rb (σ1.1 226) (1024 * S.length) u = x u := fun u hu => by rw [a26]; exact hp.1 u hu
        exact (u2 u hu).trans ⟨RS_c bx hM hu, RS_c (fun k q => (bx k q).symm) hM hu⟩
      refine pt_gI ?_
      rw [e218, a23, nI_m (by omega), show S.length + 1 - 1 = S.length by omega]
      refine pt_gC (pt_zb (vr_copiesMade hN R2 B2 (by omega) X) (fun _ σ4 h4 => ?_))
      obtain ⟨B4, f4, x4, o4⟩ := h4
      have f4 : FG [226] σ2 σ4 := f4
      have B4 : ZB σ4.1 := B4
      have F4 := F2.g (by decide) f4
      have e4 : σ4.1 218 = σ1.1 218 := (f4.2 218 (by decide)).trans e218
      refine pt_gI (pt_pI (pt_some ?_))
      rw [e4, a24, nI_m (by rw [cs.2]; omega), cs.2, show opn W + 1 - 1 = opn W by omega]
      have F5 : FS σ (zI σ4 218 (upd (σ1.1 218) 24 (nI (opn W)))) := by rw [← e4]; exact F4.p (by omega)
      have n5 : ∀ a, a ≠ 218 → (zI σ4 218 (upd (σ1.1 218) 24 (nI (opn W)))).1 a = σ4.1 a := fun a ha => zI_n ha
      refine ⟨⟨⟨⟨⟨?_, ?_⟩, ?_⟩, ⟨?_, fun u hu => ?_, ?_⟩, ?_, ?_⟩, ZB_n (by decide) B4⟩, F5⟩
      · show (zI σ4 218 _).1 218 22 = _
        rw [zI_s, upd_n (by decide)]; exact a22
      · show WLl ((zI σ4 218 _).1 230) W
        rw [n5 230 (by decide), f4.2 230 (by decide), f2.2 230 (by decide), a30]; exact hwl.2
      · show (zI σ4 218 _).1 218 24 = _
        rw [zI_s, upd_s]
      · show (zI σ4 218 _).1 218 23 = nI (S.length + 1)
        rw [zI_s, upd_n (by decide)]; exact a23
      · show rb ((zI σ4 218 _).1 226) _ u = _
        rw [n5 226 (by decide)]; exact x4 u hu
      · refine PVl_c (fun j hj => ?_) hp.2
        show (zI σ4 218 _).1 226 j = _
        rw [n5 226 (by decide), o4 j hj, e26]
      · intro p hp' u hu
        show rb ((zI σ4 218 _).1 c) _ u = _
        rw [F5.2.1 c cn]; exact hr p hp' u hu
      · show (zI σ4 218 _).1 218 20 = _
        rw [F5.2.2 20 (by omega)]; exact e20
/-- what waits fits -/
def HS (M : Nat) (W : List Int32) (O : List zOp) : Prop := (vds M O 0 ∧ hts O 0 = cmb W + 1) ∧ Wk W ∧ opn W ≤ 6
theorem len_W : ∀ {W : List Int32}, Wk W → W.length = cmb W + opn W
  | [], _ => rfl
  | w :: W, h => by
    have := len_W h.1
    rcases h.2 with q | q
    · have c := cmb_o (W := W) q.1
      rw [List.length_cons, c.1, c.2]; omega
    · have c := cmb_s (W := W) (show w.toInt < 50 by omega)
      rw [List.length_cons, c.1, c.2]; omega
theorem evs_H : ∀ {O : List zOp} {s : zEv}, RG (2 ^ k) s → vds (2 ^ k) O s.2.length → RG (2 ^ k) (evs (2 ^ k) O s) ∧ (evs (2 ^ k) O s).2.length = hts O s.2.length
  | [], _, h, _ => ⟨h, rfl⟩
  | o :: O, s, h, hv => by
    have g := RG_1 h hv.1
    have r := evs_H (O := O) g.1 (by rw [g.2]; exact hv.2)
    rw [g.2] at r
    exact r
theorem HS_len (hk : k ≤ 10) (h0 : RG (2 ^ k) s0) (z0 : s0.2.length = 0) (H : HS (2 ^ k) W O) : (evs (2 ^ k) O s0).2.length = cmb W + 1 ∧ cmb W ≤ 14 ∧ W.length ≤ 20 := by
  have e := evs_H h0 (by rw [z0]; exact H.1.1)
  rw [z0, H.1.2] at e
  have := h14 H.2.1 H.2.2
  have := len_W H.2.1
  have := H.2.2
  exact ⟨e.2, by omega, by omega⟩
theorem HS_pop {w : Int32} (H : HS M (w :: W) O) (n100 : ¬ w = 100) : HS M W (O ++ [opW w]) := by
  obtain ⟨⟨hv, hh⟩, hW, h6⟩ := H
  by_cases l : w.toInt < 50
  · have c := cmb_s (W := W) l
    rw [c.1] at hh
    rw [c.2] at h6
    exact ⟨⟨vds_1 hv (by rw [opW_s l]; exact Or.inr (Or.inr (Or.inr (Or.inr (Or.inl ⟨rfl, by omega⟩))))), by rw [hts_1, opW_s l, nh_p.2.2.2.2.1]; omega⟩, hW.1, h6⟩
  · have c := cmb_o (W := W) (show 50 ≤ w.toInt by omega)
    rw [c.1] at hh
    rw [c.2] at h6
    exact ⟨⟨vds_1 hv (by rw [opW_o (by omega)]; exact Or.inr (Or.inr (Or.inr (Or.inr (Or.inr (Or.inl ⟨rfl, by omega⟩)))))), by rw [hts_1, opW_o (by omega), nh_p.2.2.2.2.2.1]; omega⟩, hW.1, by omega⟩
theorem vr_settlesTo {r : Int32} (hN : 1048576 ≤ N) (hk : k ≤ 10) (h1 : 1 ≤ r) (hR : RF σ.2.2) (hB : ZB σ.1) (hc : c = 220 ∨ c = 232) (h0 : RG (2 ^ k) s0) (z0 : s0.2.length = 0) (H : HS (2 ^ k) W O) (hr : RR σ c (2 ^ k) (evs (2 ^ k) O s0) W) : Pt (f_X12_settlesTo N 218 r σ) (fun q => (RR q.2 c (2 ^ k) (evs (2 ^ k) (setl r W O).2 s0) (setl r W O).1 ∧ ZB q.2.1) ∧ FS σ q.2 ∧ HS (2 ^ k) (setl r W O).1 (setl r W O).2) := by
  rw [f_X12_settlesTo.eq_1]
  refine pt_lp (fun τ : zS => ∃ (V : List Int32) (Q : List zOp), (RR τ c (2 ^ k) (evs (2 ^ k) Q s0) V ∧ ZB τ.1) ∧ FS σ τ ∧ HS (2 ^ k) V Q ∧ setl r V Q = setl r W O) (fun again τ hI ih => ?_) N _ ⟨W, O, ⟨hr, hB⟩, FS.rf, H, rfl⟩
  obtain ⟨V, Q, ⟨hr, hB⟩, hF, hH, es⟩ := hI
  have L := HS_len hk h0 z0 hH
  have R9 := hF.R hR
  rw [F_X12_settlesTo_0.eq_1]
  refine pt_gI ?_
  rw [hr.1.1.1]
  refine pt_if (fun q => ?_) (fun q => ?_)
  · have q : nI V.length ≤ nI 0 := q
    rw [nlt (by omega) (by omega)] at q
    have : V = [] := List.eq_nil_of_length_eq_zero (by omega)
    subst this
    refine pt_some ?_
    rw [← es]
    exact ⟨⟨hr, hB⟩, hF, hH⟩
  · have q : ¬ nI V.length ≤ nI 0 := q
    rw [nlt (by omega) (by omega)] at q
    cases V with
    | nil => exact absurd (Nat.zero_le _) q
    | cons w V =>
      have wl := hr.1.1.2.1
      have L2 : V.length + 1 ≤ 20 := L.2.2
      have e22 : τ.1 218 22 = nI (V.length + 1) := hr.1.1.1
      refine pt_gR (v := 230) (R9 218 21 rfl) (pt_gI (pt_aI ?_))
      rw [e22, show (1 : Int32) = nI 1 from rfl, nI_m (by omega), show V.length + 1 - 1 = V.length by omega, iN (by omega), wl]
      refine pt_zbq rank_r (fun v hv => ?_)
      subst hv
      refine pt_if (fun z => pt_some ?_) (fun z => ?_)
      · rw [← es, setl_s z]
        exact ⟨⟨hr, hB⟩, hF, hH⟩
      · have n100 : ¬ w = 100 := fun e => by
          refine z ?_
          rw [e, show rkI 100 = 0 by decide, Int32.lt_iff_toInt_lt]
          rw [Int32.le_iff_toInt_le] at h1
          simp only [Int32.reduceToInt] at h1 ⊢
          omega
        have P := HS_pop hH n100
        have hw : (w.toInt < 50 ∧ 2 ≤ (evs (2 ^ k) Q s0).2.length) ∨ (50 ≤ w.toInt ∧ ¬ w = 100 ∧ 1 ≤ (evs (2 ^ k) Q s0).2.length) := by
          by_cases l : w.toInt < 50
          · have c := cmb_s (W := V) l
            refine Or.inl ⟨l, ?_⟩
            rw [L.1, c.1]; omega
          · refine Or.inr ⟨by omega, n100, ?_⟩
            rw [L.1]; omega
        refine pt_gC (pt_zb (vr_settles hN R9 hB (p2le hk).1 hc hr hw (by omega) (by omega)) (fun _ σ2 h2 => ih σ2 ⟨V, Q ++ [opW w], ⟨?_, h2.1.2⟩, hF.tr h2.2, P, ?_⟩))
        · rw [evs_app]; exact h2.1.1
        · rw [← es, setl_p z]
end RSV
end Zq14_1
section Zq14_2
section RSW
variable {N k n i : Nat} {σ τ υ : zS} {tx : Nat → Int32} {W : List Int32} {O : List zOp} {s s0 : zEv} {c M : Nat}
def RBs (σ : zS) : Prop := (RF σ.2.2 ∧ TOK σ.1) ∧ BYT (σ.1 224) ∧ ZB σ.1
theorem rb218 {L : List Nat} (h : RBs σ) (hT : Tr L σ τ) (h224 : 224 ∉ L) (hK : TOK τ.1) (hB : ZB τ.1) : RBs τ := ⟨⟨h.1.1.tr hT, hK⟩, by rw [hT.2 224 h224]; exact h.2.1, hB⟩
theorem zb218 (h : RBs σ) (hT : Tr [218] σ τ) : ZB τ.1 := ZB.tr hT (by decide) h.2.2
theorem RR_k (h : RR σ c M s W) (e30 : τ.1 230 = σ.1 230) (e26 : τ.1 226 = σ.1 226) (ec : τ.1 c = σ.1 c) (e20 : τ.1 218 20 = σ.1 218 20) (e22 : τ.1 218 22 = σ.1 218 22) (e23 : τ.1 218 23 = σ.1 218 23) (e24 : τ.1 218 24 = σ.1 218 24) : RR τ c M s W := by
  unfold RR at h ⊢
  rw [e30, e26, ec, e20, e22, e23, e24]; exact h
theorem c218 (hc : c = 220 ∨ c = 232) : c ∉ [218] ∧ c ∉ [218, 226] ∧ c ∉ [218, 230] := by rcases hc with rfl | rfl <;> decide
theorem RBs.f (h : RBs σ) (hF : FS σ τ) (hB : ZB τ.1) : RBs τ := ⟨⟨hF.R h.1.1, hF.K h.1.2⟩, by rw [hF.2.1 224 (by decide)]; exact h.2.1, hB⟩
/-- what is behind the advance -/
theorem vr_adv (hN : 1048576 ≤ N) (hc : c = 220 ∨ c = 232) (hb : RBs σ) (hG : RX σ.1 tx n i) (hr : RR σ c M s W) : Pt (f_X12_advance N 218 σ) (fun r => (RBs r.2 ∧ RX r.2.1 tx n (tkE tx n i)) ∧ RR r.2 c M s W ∧ (r.2.1 218 14 = σ.1 218 14 ∧ r.2.1 230 = σ.1 230 ∧ r.2.1 218 25 = σ.1 218 25) ∧ Tr [218] σ r.2) := by
  have K := hb.1.2.1
  refine pt_w (pt_ok (s_X12_advance_r hN hb.1.1 (by omega) hb.2.1 hG)) (fun r h => ?_)
  obtain ⟨hT, ⟨⟨hK, _⟩, hX⟩, e7, e9, e14, e15, e20, e22, e23, e24, e25⟩ := h
  exact ⟨⟨rb218 hb hT (by decide) hK (zb218 hb hT), hX⟩, RR_k hr (hT.2 _ (by decide)) (hT.2 _ (by decide)) (hT.2 _ (c218 hc).1) e20 e22 e23 e24, ⟨e14, hT.2 230 (by decide), e25⟩, hT⟩
theorem vr_good : Px (f_X12_good N 218 σ) σ (fun v => (v = 0 → ¬ σ.1 218 14 = 0) ∧ (¬ v = 0 → σ.1 218 14 = 0)) := pt_ok x_X12_good
theorem vr_errs {x : Int32} (hN : 1048576 ≤ N) (hb : RBs σ) (hx : ¬ x = 0) : Pt (f_X12_errs N 218 x σ) (fun r => ¬ r.2.1 218 14 = 0) := pt_w (pt_ok (s_X12_errs hN hb.1.1 hb.1.2 hb.2.1 hx)) (fun _ h => h.2.1.2)
theorem vr_prefixOf (hN : 1048576 ≤ N) (hb : RBs σ) (hg : σ.1 218 14 = 0) (hG : RX σ.1 tx n i) : Px (f_X12_prefixOf N 218 σ) σ (fun v => (v = -1 ∧ ¬ isPx tx n i) ∨ ∃ j, j < 6 ∧ v = nI j ∧ isW tx n i (16 + j)) := by
  have is : ∀ w, w < zSn → Px (f_X12_is N 218 w σ) σ (fun v => (v = 0 ∨ v = 1) ∧ (v = 0 → ¬ isW tx n i w) ∧ (¬ v = 0 → isW tx n i w)) := fun w hw => pt_ok (xf_X12_is hN hb.1.1 hw hb.1.2 hg hG)
  rw [f_X12_prefixOf.eq_1]
  refine pt_gC (pt_zbq (is 16 (by decide)) (fun v0 h0 => pt_if (fun z0 => ?_) (fun z => pt_some ⟨rfl, Or.inr ⟨0, by decide, rfl, h0.2.2 z⟩⟩)))
  refine pt_gC (pt_zbq (is 17 (by decide)) (fun v1 h1 => pt_if (fun z1 => ?_) (fun z => pt_some ⟨rfl, Or.inr ⟨1, by decide, rfl, h1.2.2 z⟩⟩)))
  refine pt_gC (pt_zbq (is 18 (by decide)) (fun v2 h2 => pt_if (fun z2 => ?_) (fun z => pt_some ⟨rfl, Or.inr ⟨2, by decide, rfl, h2.2.2 z⟩⟩)))
  refine pt_gC (pt_zbq (is 19 (by decide)) (fun v3 h3 => pt_if (fun z3 => ?_) (fun z => pt_some ⟨rfl, Or.inr ⟨3, by decide, rfl, h3.2.2 z⟩⟩)))
  refine pt_gC (pt_zbq (is 20 (by decide)) (fun v4 h4 => pt_if (fun z4 => ?_) (fun z => pt_some ⟨rfl, Or.inr ⟨4, by decide, rfl, h4.2.2 z⟩⟩)))
  refine pt_gC (pt_zbq (is 21 (by decide)) (fun v5 h5 => pt_if (fun z5 => pt_some ⟨rfl, Or.inl ⟨rfl, ?_⟩⟩) (fun z => pt_some ⟨rfl, Or.inr ⟨5, by decide, rfl, h5.2.2 z⟩⟩)))
  rintro ⟨j, hj, hw⟩
  rcases (show j = 0 ∨ j = 1 ∨ j = 2 ∨ j = 3 ∨ j = 4 ∨ j = 5 by omega) with rfl | rfl | rfl | rfl | rfl | rfl
  · exact h0.2.1 z0 hw
  · exact h1.2.1 z1 hw
  · exact h2.2.1 z2 hw
  · exact h3.2.1 z3 hw
  · exact h4.2.1 z4 hw
  · exact h5.2.1 z5 hw
/-- a word or a bracket waits -/
theorem vr_opens {x : Int32} (hN : 1048576 ≤ N) (hc : c = 220 ∨ c = 232) (hb : RBs σ) (hG : RX σ.1 tx n i) (hr : RR σ c M s W) (hx : 50 ≤ x.toInt) (hW : W.length ≤ 30) (h6 : opn W ≤ 6) : Pt (f_X12_opens N 218 x σ) (fun r => r.2.1 218 14 = 0 → opn W < 6 ∧ (RBs r.2 ∧ RX r.2.1 tx n (tkE tx n i)) ∧ RR r.2 c M s (x :: W) ∧ r.2.1 218 25 = σ.1 218 25) := by
  rw [f_X12_opens.eq_1]
  refine pt_gI ?_
  rw [hr.1.2]
  refine pt_if (fun q => ?_) (fun q => ?_)
  · refine pt_gC (pt_zb (vr_errs hN hb (by decide)) (fun _ σ1 h1 => ?_))
    have h1 : ¬ σ1.1 218 14 = 0 := h1
    rw [J_X12_opens_14.eq_1]
    exact pt_gC (pt_zbq vr_good (fun v hv => pt_if (fun _ => pt_some (fun z => absurd z h1)) (fun z => absurd (hv.2 z) h1)))
  · have l6 : opn W < 6 := by
      by_cases e : opn W = 6
      · exact absurd (by rw [e]; rfl) q
      · omega
    rw [J_X12_opens_14.eq_1]
    refine pt_gC (pt_zbq vr_good (fun v hv => pt_if (fun z => pt_some (fun y => absurd y (hv.1 z))) (fun z => ?_)))
    refine pt_gC (pt_zb (vr_adv hN hc hb hG hr) (fun _ σ1 h1 => ?_))
    obtain ⟨⟨hb1, hG1⟩, hr1, ⟨e14, e30, e25⟩, hT1⟩ := h1
    have hb1 : RBs σ1 := hb1
    have hG1 : RX σ1.1 tx n (tkE tx n i) := hG1
    have hr1 : RR σ1 c M s W := hr1
    have cs := cmb_o (W := W) hx
    have R1 := hb1.1.1
    have e22 := hr1.1.1.1
    have e24 := hr1.1.2
    refine pt_gI (pt_pIx (fun τ1 a1 b1 c1 => pt_gR (v := 230) (by rw [c1]; exact R1 218 21 rfl) (pt_gI (pt_s14x (fun τ2 a2 b2 c2 => pt_gI (pt_pIx (fun σ2 a3 b3 c3 => pt_some (fun _ => ⟨l6, ?_⟩))))))))
    have fin : ∀ a, a ≠ 218 → a ≠ 230 → σ2.1 a = σ1.1 a := fun a h1 h2 => by rw [b3 a h1, b2 a h2, b1 a h1]
    have f18 : σ2.1 218 = upd (upd (σ1.1 218) 24 (nI (opn W + 1))) 22 (nI (W.length + 1)) := by
      rw [a3, b2 218 (by decide), a1, upd_n (show (22 : Nat) ≠ 24 by decide), e22, e24, show (1 : Int32) = nI 1 from rfl, nI_plus, nI_plus]
    have f30 : σ2.1 230 = upd (σ1.1 230) W.length x := by rw [b3 230 (by decide), a2, b1 230 (by decide), a1, upd_n (show (22 : Nat) ≠ 24 by decide), e22, iN (by omega)]
    have f2 : σ2.2 = σ1.2 := by rw [c3, c2, c1]
    have f18j : ∀ j, j ≠ 22 → j ≠ 24 → σ2.1 218 j = σ1.1 218 j := fun j h1 h2 => by rw [f18, upd_n h1, upd_n h2]
    have ZB2 : ZB σ2.1 := fun a ha j => by
      by_cases a1 : a = 218
      · rw [a1] at ha; exact absurd ha (by decide)
      · by_cases a2 : a = 230
        · rw [a2] at ha; exact absurd ha (by decide)
        · rw [fin a a1 a2]; exact hb1.2.2 a ha j
    have c1 : c ≠ 218 ∧ c ≠ 230 := by rcases hc with rfl | rfl <;> decide
    refine ⟨⟨⟨⟨by rw [f2]; exact R1, ?_⟩, by rw [fin 224 (by decide) (by decide)]; exact hb1.2.1, ZB2⟩, ?_⟩, ⟨⟨⟨?_, ?_, ?_⟩, ?_⟩, ⟨?_, ?_⟩, ?_, ?_⟩, ?_⟩
    · have K := hb1.1.2
      unfold TOK at K ⊢
      rw [f18j 9 (by decide) (by decide), f18j 10 (by decide) (by decide), f18j 11 (by decide) (by decide), f18j 12 (by decide) (by decide), fin 224 (by decide) (by decide)]; exact K
    · unfold RX TKS at hG1 ⊢
      rw [f18j 9 (by decide) (by decide), f18j 10 (by decide) (by decide), f18j 11 (by decide) (by decide), f18j 12 (by decide) (by decide), f18j 13 (by decide) (by decide), fin 224 (by decide) (by decide)]; exact hG1
    · rw [f18, upd_s]; rfl
    · rw [f30, upd_s]
    · rw [f30]
      exact WLl_c (fun j hj => upd_n (by omega)) hr1.1.1.2
    · rw [f18, upd_n (by decide), upd_s, cs.2]
    · rw [f18j 23 (by decide) (by decide)]; exact hr1.2.1.1
    · rw [fin 226 (by decide) (by decide)]; exact hr1.2.1.2
    · rw [fin c c1.1 c1.2]; exact hr1.2.2.1
    · rw [f18j 20 (by decide) (by decide)]; exact hr1.2.2.2
    · rw [f18j 25 (by decide) (by decide)]; exact e25
/-- rows of the pile, its number -/
def FP (σ τ : zS) : Prop := τ.2 = σ.2 ∧ (∀ a, a ∉ [218, 226] → τ.1 a = σ.1 a) ∧ ∀ j, j ≠ 23 → τ.1 218 j = σ.1 218 j
theorem FP.S (h : FP σ τ) : FS σ τ := ⟨h.1, fun a ha => h.2.1 a (fun z => ha (by simp only [List.mem_cons, List.not_mem_nil, or_false] at z ⊢; omega)), fun j hj => h.2.2 j (by omega)⟩
/-- an empty family is piled -/
theorem vr_pushesEmpty {h : Nat} (hN : 1048576 ≤ N) (hb : RBs σ) (e : σ.1 218 23 = nI h) (hh : h ≤ 17) : Pt (f_X12_pushesEmpty N 218 σ) (fun r => (RBs r.2 ∧ FP σ r.2) ∧ r.2.1 218 23 = nI (h + 1) ∧ (∀ u, u < 1024 → r.2.1 226 (1024 * h + u) = 0) ∧ ∀ j, j < 1024 * h → r.2.1 226 j = σ.1 226 j) := by
  have hR := hb.1.1
  refine pt_w (pt_and (pt_ok (s_X12_pushesEmpty hN hR hb.1.2 hb.2.1 hb.2.2 (by rw [e, nI_toInt (by omega)]; omega))) (P := fun r : Unit × zS => FP σ r.2 ∧ r.2.1 218 23 = nI (h + 1) ∧ (∀ u, u < 1024 → r.2.1 226 (1024 * h + u) = 0) ∧ ∀ j, j < 1024 * h → r.2.1 226 j = σ.1 226 j) ?_) (fun r q => ⟨⟨rb218 hb q.1.1 (by decide) q.1.2.1.1 q.1.2.1.2.1, q.2.1⟩, q.2.2⟩)
  rw [f_X12_pushesEmpty.eq_1]
  refine pt_lp (fun y : Int32 × zS => ∃ l, (y.1 = nI l ∧ l ≤ 1024) ∧ FG [226] σ y.2 ∧ (∀ u, u < l → y.2.1 226 (1024 * h + u) = 0) ∧ ∀ j, j < 1024 * h → y.2.1 226 j = σ.1 226 j) (fun again y hI ih => ?_) N _ ⟨0, ⟨rfl, Nat.zero_le _⟩, FG.rf, fun u hu => absurd hu (Nat.not_lt_zero _), fun _ _ => rfl⟩
  obtain ⟨x2, τ⟩ := y
  obtain ⟨l, ⟨ex, hl⟩, hf, hu, ho⟩ := hI
  have ex : x2 = nI l := ex
  subst ex
  have hf : FG [226] σ τ := hf
  have hu : ∀ u, u < l → τ.1 226 (1024 * h + u) = 0 := hu
  have ho : ∀ j, j < 1024 * h → τ.1 226 j = σ.1 226 j := ho
  have R9 := hf.R hR
  have e18 : τ.1 218 = σ.1 218 := hf.2 218 (by decide)
  rw [F_X12_pushesEmpty_2.eq_1]
  refine pt_if (fun q => pt_gI (pt_pI (pt_some ?_))) (fun q => ?_)
  · have q : nI 1024 ≤ nI l := q
    rw [nlt (by omega) (by omega)] at q
    rw [e18, e, show (1 : Int32) = nI 1 from rfl, nI_plus]
    refine ⟨⟨hf.1, fun a ha => ?_, fun j hj => ?_⟩, ?_, fun u h' => ?_, fun j hj => ?_⟩
    · simp only [List.mem_cons, List.not_mem_nil, or_false, not_or] at ha
      show (zI τ 218 _).1 a = _
      rw [zI_n ha.1, hf.2 a (by simp only [List.mem_cons, List.not_mem_nil, or_false]; omega)]
    · show (zI τ 218 _).1 218 j = _
      rw [zI_s, upd_n hj]
    · show (zI τ 218 _).1 218 23 = _
      rw [zI_s, upd_s]
    · show (zI τ 218 _).1 226 _ = _
      rw [zI_n (by decide)]; exact hu u (by omega)
    · show (zI τ 218 _).1 226 j = _
      rw [zI_n (by decide)]; exact ho j hj
  · have q : ¬ nI 1024 ≤ nI l := q
    rw [nlt (by omega) (by omega)] at q
    have e9 : ((1024 : Int32) * nI h + nI l).toInt.toNat = 1024 * h + l := by
      rw [n1024, nI_plus, nI_toInt (by omega)]; omega
    refine pt_gR (v := 226) (R9 218 16 rfl) (pt_gI ?_)
    rw [e18, e]
    refine pt_s16 ?_
    rw [e9, nI_s1 (by omega), nz1.1]
    refine ih (nI (l + 1), _) ⟨l + 1, ⟨rfl, by omega⟩, hf.u (by simp), fun u h => ?_, fun j hj => ?_⟩
    · show (zI τ 226 _).1 226 _ = _
      rw [zI_s, upd_i]
      by_cases d : u = l
      · rw [if_pos (by omega)]
      · rw [if_neg (by omega)]; exact hu u (by omega)
    · show (zI τ 226 _).1 226 j = _
      rw [zI_s, upd_n (by omega)]; exact ho j hj
/-- behind a whole part -/
theorem vr_p192 (hN : 1048576 ≤ N) (hk : k ≤ 10) (hc : c = 220 ∨ c = 232) (hb : RBs σ) (h0 : RG (2 ^ k) s0) (z0 : s0.2.length = 0) (H : HS (2 ^ k) W O) (hG : RX σ.1 tx n i) (hr : RR σ c (2 ^ k) (evs (2 ^ k) O s0) W) : Pt (J_X12_readsPart_192 N 218 σ) (fun r => r.2.1 218 14 = 0 → ¬ r.1 = 0 ∧ (RBs r.2 ∧ RX r.2.1 tx n i) ∧ RR r.2 c (2 ^ k) (evs (2 ^ k) (setl 3 W O).2 s0) (setl 3 W O).1 ∧ r.2.1 218 25 = σ.1 218 25) := by
  rw [J_X12_readsPart_192.eq_1]
  refine pt_gC (pt_zbq vr_good (fun v hv => pt_if (fun z => pt_rZ (fun y => absurd y (hv.1 z))) (fun z => ?_)))
  refine pt_gC (pt_zb (vr_settlesTo hN hk (by decide) hb.1.1 hb.2.2 hc h0 z0 H hr) (fun _ σ1 h1 => pt_rZ (fun _ => ⟨fun z => absurd (show (1 : Int32) = 0 from z) (by decide), ⟨?_, ?_⟩, h1.1.1, ?_⟩)))
  · exact hb.f h1.2.1 h1.1.2
  · exact h1.2.1.X hG
  · exact h1.2.1.2.2 25 (by omega)
theorem bad192 (hg : ¬ σ.1 218 14 = 0) {P : Int32 × zS → Prop} : Pt (J_X12_readsPart_192 N 218 σ) (fun r => r.2.1 218 14 = 0 → P r) := by
  rw [J_X12_readsPart_192.eq_1]
  exact pt_gC (pt_zbq vr_good (fun v hv => pt_if (fun z => pt_rZ (fun y => absurd y (hv.1 z))) (fun z => absurd (hv.2 z) hg)))
/-- one set more on the top -/
theorem vr_readsSet {h : Nat} (hN : 1048576 ≤ N) (hk : k ≤ 10) (hb : RBs σ) (hg : σ.1 218 14 = 0) (hG : RX σ.1 tx n i) (e23 : σ.1 218 23 = nI (h + 1)) (hh : h ≤ 17) : Pt (f_X12_readsSet N 218 (nI k) σ) (fun r => r.2.1 218 14 = 0 → (mOK tx n i (nI k) ∧ (RBs r.2 ∧ RX r.2.1 tx n (tkE tx n i))) ∧ (∀ a, a ∉ [218, 226] → r.2.1 a = σ.1 a) ∧ (r.2.1 218 20 = σ.1 218 20 ∧ r.2.1 218 22 = σ.1 218 22 ∧ r.2.1 218 23 = σ.1 218 23 ∧ r.2.1 218 24 = σ.1 218 24 ∧ r.2.1 218 25 = σ.1 218 25) ∧ r.2.1 226 = upd (σ.1 226) (1024 * h + (mv tx n i (nI k)).toInt.toNat) 1) := by
  have kn : 0 ≤ (nI k).toInt ∧ (nI k).toInt ≤ 10 := by rw [nI_toInt (by omega)]; omega
  have hR := hb.1.1
  refine pt_w (pt_and (pt_ok (s_X12_readsSet_r hN hR hb.1.2 hb.2.1 hG hg hb.2.2 kn (by rw [e23, nI_toInt (by omega)]; omega))) (P := fun r : Unit × zS => r.2.1 218 14 = 0 → r.2.1 226 = upd (σ.1 226) (1024 * h + (mv tx n i (nI k)).toInt.toNat) 1) ?_) (fun r q z => ?_)
  · have e12 : σ.1 218 12 = tkK tx n i := hG.2.2.1
    have put : ∀ (v : Int32) (τ : zS), (τ.1 218 14 = 0 → v = mv tx n i (nI k) ∧ mOK tx n i (nI k)) → RF τ.2.2 → τ.1 218 23 = σ.1 218 23 → τ.1 226 = σ.1 226 → Pt (J_X12_readsSet_53 N 218 v τ) (fun r => r.2.1 218 14 = 0 → r.2.1 226 = upd (σ.1 226) (1024 * h + (mv tx n i (nI k)).toInt.toNat) 1) := fun v τ hv R9 t23 t26 => by
      rw [J_X12_readsSet_53.eq_1]
      refine pt_gC (pt_zbq vr_good (fun w hw => pt_if (fun z => pt_some (fun y => absurd y (hw.1 z))) (fun z => ?_)))
      obtain ⟨ev, ok⟩ := hv (hw.2 z)
      obtain ⟨b, eb, lb⟩ := mv_in hk ok
      have p2 := p2le hk
      refine pt_gR (v := 226) (R9 218 16 rfl) (pt_gI (pt_s16 (pt_some (fun _ => ?_))))
      show (zI τ 226 _).1 226 = _
      rw [zI_s, t26, t23, e23, ev, eb, show (1 : Int32) = nI 1 from rfl, nI_m (by omega), show h + 1 - 1 = h by omega, n1024, nI_plus, nI_toInt (by omega), iN (by omega), show nI 1 = 1 from rfl, nz1.2]
      rfl
    rw [f_X12_readsSet.eq_1]
    refine pt_gI ?_
    rw [e12]
    refine pt_if (fun q2 => ?_) (fun q2 => pt_gI ?_)
    · refine pt_gC (pt_zb (pt_ok (s_X12_number_r hN hR hb.1.2 hb.2.1 hG hg)) (fun v σ1 h1 => ?_))
      obtain ⟨hT, ⟨_, _, g1, b1⟩, e7, e9, e20, e22, e23', e24, e25⟩ := h1
      have hT : Tr [218] σ σ1 := hT
      refine put v σ1 (fun z => ?_) (hR.tr hT) e23' (hT.2 226 (by decide))
      obtain ⟨⟨_, ok⟩, ev, _⟩ := g1 z
      refine ⟨?_, Or.inl ok⟩
      have hz := ok.2
      simp only [Int32.reduceToInt] at hz
      unfold mv
      rw [if_neg (by rw [q2]; decide)]
      apply Int32.toInt_inj.mp
      have ev : v.toInt = _ := ev
      rw [ev]
      simp only [Int32.reduceToInt]
      omega
    · rw [e12]
      refine pt_if (fun q1 => ?_) (fun q1 => pt_gC (pt_zb (vr_errs hN hb (by decide)) (fun _ σ1 h1 => ?_)))
      · have h12 : σ.1 218 12 = 1 := e12.trans q1
        refine pt_gC (pt_zb (pt_ok (s_X12_wordSet_r hN hR hb.1.2 hb.2.1 hG hg h12 kn)) (fun v σ1 h1 => ?_))
        obtain ⟨hT, ⟨hK1, _, g1, b1⟩, e7, e9, e10, e11, e12', e13, e20, e22, e23', e24, e25⟩ := h1
        have hT : Tr [218] σ σ1 := hT
        have R1 := hR.tr hT
        refine pt_gC (pt_zbq vr_good (fun w hw => pt_if (fun z => ?_) (fun z => ?_)))
        · exact put v σ1 (fun y => absurd y (hw.1 z)) R1 e23' (hT.2 226 (by decide))
        · have e14 := hw.2 z
          have ws := g1 e14
          have hX1 : RX σ1.1 tx n i := by
            unfold RX TKS at hG ⊢
            rw [hT.2 224 (by decide), e9, e10, e11, e12', e13]; exact hG
          have hb1 : RBs σ1 := rb218 hb hT (by decide) hK1 (zb218 hb hT)
          have K := hb1.1.2.1
          refine pt_gC (pt_zb (pt_ok (s_X12_advance_r hN R1 (by omega) hb1.2.1 hX1)) (fun _ σ2 h2 => ?_))
          obtain ⟨hT2, _, f7, f9, f14, f15, f20, f22, f23, f24, f25⟩ := h2
          have hT2 : Tr [218] σ1 σ2 := hT2
          refine put v σ2 (fun y => ⟨?_, Or.inr ⟨q1, by rw [ws]; rfl⟩⟩) (R1.tr hT2) (f23.trans e23') ((hT2.2 226 (by decide)).trans (hT.2 226 (by decide)))
          unfold mv
          rw [if_pos q1, ws]; rfl
      · have h1 : ¬ σ1.1 218 14 = 0 := h1
        rw [J_X12_readsSet_53.eq_1]
        exact pt_gC (pt_zbq vr_good (fun w hw => pt_if (fun z => pt_some (fun y => absurd y (hw.1 z))) (fun z => absurd (hw.2 z) h1)))
  · obtain ⟨⟨hT, ⟨hK1, _, g1, b1, hB1⟩, e7, e9, e20, e22, e23', e24, e25⟩, u⟩ := q
    have g := g1 z
    exact ⟨⟨g.1.2, rb218 hb hT (by decide) hK1 hB1, g.2⟩, fun a ha => hT.2 a ha, ⟨e20, e22, e23', e24, e25⟩, u z⟩
end RSW
end Zq14_2
section Zq14_3
section RSY
variable {N k n i : Nat} {σ τ υ : zS} {tx : Nat → Int32} {W : List Int32} {O : List zOp} {s s0 : zEv} {c M : Nat}
theorem needs_bad {x : Int32} (hg : ¬ σ.1 218 14 = 0) : Pt (f_X12_needsSign N 218 x σ) (fun r => ¬ r.2.1 218 14 = 0) := by
  have J : Pt (J_X12_needsSign_20 N 218 σ) (fun r => ¬ r.2.1 218 14 = 0) := by
    rw [J_X12_needsSign_20.eq_1]
    exact pt_gC (pt_zbq vr_good (fun v hv => pt_if (fun _ => pt_some hg) (fun z => absurd (hv.2 z) hg)))
  rw [f_X12_needsSign.eq_1]
  exact pt_gC (pt_zbq vr_good (fun v hv => pt_if (fun _ => J) (fun z => absurd (hv.2 z) hg)))
theorem vr_needs {x : Int32} (hN : 1048576 ≤ N) (hc : c = 220 ∨ c = 232) (hb : RBs σ) (hG : RX σ.1 tx n i) (hr : RR σ c M s W) (hx : ¬ x = 0) : Pt (f_X12_needsSign N 218 x σ) (fun r => r.2.1 218 14 = 0 → tkK tx n i = x ∧ (RBs r.2 ∧ RX r.2.1 tx n (tkE tx n i)) ∧ RR r.2 c M s W ∧ r.2.1 218 25 = σ.1 218 25) := by
  refine pt_w (pt_ok (s_X12_needsSign_r hN hb.1.1 hb.1.2 hb.2.1 (fun _ => hG) hx)) (fun r h z => ?_)
  obtain ⟨hT, ⟨hK, _, g, _⟩, e7, e9, e20, e22, e23, e24, e25⟩ := h
  have g := g z
  exact ⟨g.2.1, ⟨rb218 hb hT (by decide) hK (zb218 hb hT), g.2.2⟩, RR_k hr (hT.2 _ (by decide)) (hT.2 _ (by decide)) (hT.2 _ (c218 hc).1) e20 e22 e23 e24, e25⟩
/-- a piled family, told -/
theorem RR_push {X : zFm} {G : Nat → zFm} {S : List zFm} (hc : c = 220 ∨ c = 232) (hr : RR σ c M (G, S) W) (hF : FP σ τ) (e23 : τ.1 218 23 = nI (S.length + 1)) (hx : ∀ u, u < 1024 → rb (τ.1 226) (1024 * S.length) u = X u) (ho : ∀ j, j < 1024 * S.length → τ.1 226 j = σ.1 226 j) : RR τ c M (G, X :: S) W := by
  obtain ⟨⟨⟨h22, hw⟩, h24⟩, ⟨h23, hp⟩, hg, h20⟩ := hr
  refine ⟨⟨⟨by rw [hF.2.2 22 (by decide)]; exact h22, by rw [hF.2.1 230 (by decide)]; exact hw⟩, by rw [hF.2.2 24 (by decide)]; exact h24⟩, ⟨e23, hx, PVl_c ho hp⟩, ?_, by rw [hF.2.2 20 (by decide)]; exact h20⟩
  rw [hF.2.1 c (c218 hc).2.1]; exact hg
theorem RR_set {G : Nat → zFm} {x : zFm} {S : List zFm} {u0 : Nat} (hc : c = 220 ∨ c = 232) (hr : RR σ c M (G, x :: S) W) (ho : ∀ a, a ∉ [218, 226] → τ.1 a = σ.1 a) (e : (τ.1 218 20 = σ.1 218 20 ∧ τ.1 218 22 = σ.1 218 22 ∧ τ.1 218 23 = σ.1 218 23 ∧ τ.1 218 24 = σ.1 218 24)) (e26 : τ.1 226 = upd (σ.1 226) (1024 * S.length + u0) 1) (hu0 : u0 < 1024) : RR τ c M (G, (fun u => x u || decide (u = u0)) :: S) W := by
  obtain ⟨⟨⟨h22, hw⟩, h24⟩, ⟨h23, hp⟩, hg, h20⟩ := hr
  refine ⟨⟨⟨by rw [e.2.1]; exact h22, by rw [ho 230 (by decide)]; exact hw⟩, by rw [e.2.2.2]; exact h24⟩, ⟨by rw [e.2.2.1]; exact h23, fun u hu => ?_, PVl_c (fun j hj => ?_) hp.2⟩, ?_, by rw [e.1]; exact h20⟩
  · have := hp.1 u hu
    show rb (τ.1 226) (1024 * S.length) u = (x u || decide (u = u0))
    rw [← this]
    unfold rb
    rw [e26, upd_i]
    by_cases d : u = u0
    · subst d
      rw [if_pos rfl, decide_eq_true rfl, Bool.or_true]; rfl
    · rw [if_neg (by omega), decide_eq_false d, Bool.or_false]
  · rw [e26, upd_n (by omega)]
  · rw [ho c (c218 hc).2.1]; exact hg
theorem ev_adds {v : Int32} {G : Nat → zFm} {S : List zFm} : ev1 M (3, v) (G, S) = (G, adds v.toInt.toNat S) := (if_neg (show ¬ (3 : Int32) = 0 by decide)).trans ((if_neg (show ¬ (3 : Int32) = 1 by decide)).trans ((if_neg (show ¬ (3 : Int32) = 2 by decide)).trans (if_pos rfl)))
/-- a set on the top, as a step -/
theorem RR_add {a : Int32} {u0 : Nat} (hc : c = 220 ∨ c = 232) (hr : RR σ c M s W) (h1 : 1 ≤ s.2.length) (ha : a = nI u0) (hu0 : u0 < 1024) (ho : ∀ a, a ∉ [218, 226] → τ.1 a = σ.1 a) (e : (τ.1 218 20 = σ.1 218 20 ∧ τ.1 218 22 = σ.1 218 22 ∧ τ.1 218 23 = σ.1 218 23 ∧ τ.1 218 24 = σ.1 218 24)) (e26 : τ.1 226 = upd (σ.1 226) (1024 * (s.2.length - 1) + a.toInt.toNat) 1) : RR τ c M (ev1 M (3, a) s) W := by
  obtain ⟨G, S⟩ := s
  cases S with
  | nil => exact absurd (show 1 ≤ 0 from h1) (by decide)
  | cons x S =>
    subst ha
    rw [ev_3, iN (by omega)]
    rw [iN (by omega)] at e26
    exact RR_set hc hr ho e e26 hu0
/-- a part that is one family -/
theorem vr_readsSets (hN : 1048576 ≤ N) (hk : k ≤ 10) (hc : c = 220 ∨ c = 232) (hb : RBs σ) (h0 : RG (2 ^ k) s0) (z0 : s0.2.length = 0) (H : HI (2 ^ k) (i, 0, W, O)) (hG : RX σ.1 tx n i) (hg : σ.1 218 14 = 0) (hr : RR σ c (2 ^ k) (evs (2 ^ k) O s0) W) (hk123 : tkK tx n i = 123) : Pt (f_X12_readsSets N 218 (nI k) σ) (fun r => r.2.1 218 14 = 0 → ∃ j Q, Rc (stv tx n (nI k)) (i, 0, W, O) (sw 3 j W Q) ∧ HS (2 ^ k) W Q ∧ (RBs r.2 ∧ RX r.2.1 tx n j) ∧ RR r.2 c (2 ^ k) (evs (2 ^ k) Q s0) W ∧ r.2.1 218 25 = σ.1 218 25) := by
  have np : ¬ (isPx tx n i ∨ tkK tx n i = 40) := fun z => z.elim (fun ⟨_, _, w⟩ => absurd (hk123.symm.trans w.1) (by decide)) (fun z => absurd (hk123.symm.trans z) (by decide))
  obtain ⟨⟨hv, hh⟩, hW, h6⟩ := H
  have hv : vds (2 ^ k) O 0 := hv
  have hh : hts O 0 = cmb W := hh
  have hW : Wk W := hW
  have h6 : opn W ≤ 6 := h6
  have c14 := h14 hW h6
  have p2 := p2le hk
  have eh := evs_H h0 (by rw [z0]; exact hv)
  rw [z0, hh] at eh
  have H1 : HS (2 ^ k) W (O ++ [(1, 0)]) := ⟨⟨vds_1 hv (Or.inr (Or.inl ⟨rfl, by omega⟩)), by rw [hts_1, nh_p.2.1, hh]⟩, hW, h6⟩
  rw [f_X12_readsSets.eq_1]
  refine pt_gC (pt_zb (vr_adv hN hc hb hG hr) (fun _ σ1 h1 => ?_))
  obtain ⟨⟨hb1, hG1⟩, hr1, ⟨e14, _, e25⟩, _⟩ := h1
  have hb1 : RBs σ1 := hb1
  have hG1 : RX σ1.1 tx n (tkE tx n i) := hG1
  have hr1 : RR σ1 c (2 ^ k) (evs (2 ^ k) O s0) W := hr1
  have e14 : σ1.1 218 14 = σ.1 218 14 := e14
  have e25 : σ1.1 218 25 = σ.1 218 25 := e25
  refine pt_gC (pt_zb (vr_pushesEmpty hN hb1 hr1.2.1.1 (by omega)) (fun _ σ2 h2 => ?_))
  obtain ⟨⟨hb2, f2⟩, e23, x2, o2⟩ := h2
  have hb2 : RBs σ2 := hb2
  have f2 : FP σ1 σ2 := f2
  have hG2 : RX σ2.1 tx n (tkE tx n i) := f2.S.X hG1
  have hr2 : RR σ2 c (2 ^ k) (evs (2 ^ k) (O ++ [(1, 0)]) s0) W := by
    rw [evs_app]
    show RR σ2 c (2 ^ k) (ev1 (2 ^ k) (1, 0) (evs (2 ^ k) O s0)) W
    rw [show evs (2 ^ k) O s0 = ((evs (2 ^ k) O s0).1, (evs (2 ^ k) O s0).2) from rfl, ev_1]
    refine RR_push hc hr1 f2 e23 (fun u hu => ?_) o2
    rw [rb_f]; exact x2 u hu
  have g2 : σ2.1 218 14 = 0 := by rw [f2.2.2 14 (by decide), e14]; exact hg
  have t25 : σ2.1 218 25 = σ.1 218 25 := by rw [f2.2.2 25 (by decide), e25]
  refine pt_gI ?_
  rw [show σ2.1 218 12 = tkK tx n (tkE tx n i) from hG2.2.2.1]
  refine pt_if (fun q => ?_) (fun q => ?_)
  · refine pt_gC (pt_zb (vr_needs hN hc hb2 hG2 hr2 (by decide)) (fun _ σ3 h3 => pt_some (fun z => ?_)))
    obtain ⟨_, hb3, hr3, f25⟩ := h3 z
    exact ⟨_, _, Rc.st (stv_f0 np hk123 q) Rc.rf, H1, hb3, hr3, f25.trans t25⟩
  · -- sets
    have set : ∀ (p : Nat) (Q : List zOp) (τ : zS), RBs τ → τ.1 218 14 = 0 → RX τ.1 tx n p → RR τ c (2 ^ k) (evs (2 ^ k) Q s0) W → HS (2 ^ k) W Q → Rc (stv tx n (nI k)) (i, 0, W, O) (p, 2, W, Q) → τ.1 218 25 = σ.1 218 25 → Pt (f_X12_readsSet N 218 (nI k) τ) (fun r => r.2.1 218 14 = 0 → ∃ p Q, (RBs r.2 ∧ RX r.2.1 tx n p) ∧ RR r.2 c (2 ^ k) (evs (2 ^ k) Q s0) W ∧ HS (2 ^ k) W Q ∧ Rc (stv tx n (nI k)) (i, 0, W, O) (p, 3, W, Q) ∧ r.2.1 218 25 = σ.1 218 25) := fun p Q τ hb' hg' hG' hr' hH' rc' e25' => by
      have L := HS_len hk h0 z0 hH'
      have le : (evs (2 ^ k) Q s0).2.length = cmb W + 1 := L.1
      have t23 : τ.1 218 23 = nI (cmb W + 1) := by rw [hr'.2.1.1, le]
      refine pt_w (vr_readsSet hN hk hb' hg' hG' t23 (by omega)) (fun r h z => ?_)
      obtain ⟨⟨ok, hb3⟩, o3, ⟨f20, f22, f23, f24, f25⟩, u3⟩ := h z
      obtain ⟨b, eb, lb⟩ := mv_in hk ok
      refine ⟨tkE tx n p, Q ++ [(3, mv tx n p (nI k))], hb3, ?_, ⟨⟨vds_1 hH'.1.1 (Or.inr (Or.inr (Or.inr (Or.inl ⟨rfl, ?_, by rw [hH'.1.2]; omega⟩)))), by rw [hts_1, nh_p.2.2.2.1, hH'.1.2]⟩, hH'.2⟩, rc'.sn (stv_m ok), f25.trans e25'⟩
      · rw [evs_app]
        show RR r.2 c (2 ^ k) (ev1 (2 ^ k) (3, mv tx n p (nI k)) (evs (2 ^ k) Q s0)) W
        refine RR_add hc hr' (by omega) eb (by omega) o3 ⟨f20, f22, f23, f24⟩ ?_
        rw [le, show cmb W + 1 - 1 = cmb W by omega]; exact u3
      · show 0 ≤ (mv tx n p (nI k)).toInt ∧ (mv tx n p (nI k)).toInt.toNat < 2 ^ k
        rw [eb, nI_toInt (by omega)]; omega
    refine pt_gC (pt_zb (set (tkE tx n i) _ σ2 hb2 g2 hG2 hr2 H1 (Rc.st (stv_f1 np hk123 q) Rc.rf) t25) (fun _ σ3 h3 => ?_))
    refine pt_lp (fun τ : zS => τ.1 218 14 = 0 → ∃ p Q, (RBs τ ∧ RX τ.1 tx n p) ∧ RR τ c (2 ^ k) (evs (2 ^ k) Q s0) W ∧ HS (2 ^ k) W Q ∧ Rc (stv tx n (nI k)) (i, 0, W, O) (p, 3, W, Q) ∧ τ.1 218 25 = σ.1 218 25) (fun again τ hI ih => ?_) N _ h3
    rw [F_X12_readsSets_22.eq_1]
    refine pt_gC (pt_zbq vr_good (fun v hv => pt_if (fun z => ?_) (fun z => ?_)))
    · exact pt_gC (pt_zb (needs_bad (hv.1 z)) (fun _ υ h => pt_some (fun y => absurd y h)))
    · have g := hv.2 z
      obtain ⟨p, Q, ⟨hb4, hG4⟩, hr4, hH4, rc4, f25⟩ := hI g
      refine pt_gI ?_
      rw [show τ.1 218 12 = tkK tx n p from hG4.2.2.1]
      refine pt_if (fun q4 => ?_) (fun q4 => ?_)
      · refine pt_gC (pt_zb (vr_adv hN hc hb4 hG4 hr4) (fun _ σ5 h5 => ?_))
        obtain ⟨⟨hb5, hG5⟩, hr5, ⟨g14, _, g25⟩, _⟩ := h5
        refine pt_gC (pt_zb (set (tkE tx n p) Q σ5 hb5 (g14.trans g) hG5 hr5 hH4 (rc4.sn (stv_k q4)) (g25.trans f25)) (fun _ σ6 h6 => ih σ6 h6))
      · refine pt_gC (pt_zb (vr_needs hN hc hb4 hG4 hr4 (by decide)) (fun _ σ5 h5 => pt_some (fun y => ?_)))
        obtain ⟨k125, hb5, hr5, g25⟩ := h5 y
        exact ⟨_, Q, rc4.sn (stv_z k125), hH4, hb5, hr5, g25.trans f25⟩
/-- one part or one that waits -/
theorem vr_readsPart (hN : 1048576 ≤ N) (hk : k ≤ 10) (hc : c = 220 ∨ c = 232) (hb : RBs σ) (h0 : RG (2 ^ k) s0) (z0 : s0.2.length = 0) (H : HI (2 ^ k) (i, 0, W, O)) (hG : RX σ.1 tx n i) (hg : σ.1 218 14 = 0) (hr : RR σ c (2 ^ k) (evs (2 ^ k) O s0) W) : Pt (f_X12_readsPart N 218 (nI k) c σ) (fun r => r.2.1 218 14 = 0 → ∃ d : Cv, Rc (stv tx n (nI k)) (i, 0, W, O) d ∧ (d.2.1 = 0 ∨ d.2.1 = 1) ∧ (r.1 = 0 ↔ d.2.1 = 0) ∧ (RBs r.2 ∧ RX r.2.1 tx n d.1) ∧ RR r.2 c (2 ^ k) (evs (2 ^ k) d.2.2.2 s0) d.2.2.1 ∧ r.2.1 218 25 = σ.1 218 25) := by
  have H0 := H
  obtain ⟨⟨hv, hh⟩, hW, h6⟩ := H
  have hv : vds (2 ^ k) O 0 := hv
  have hh : hts O 0 = cmb W := hh
  have hW : Wk W := hW
  have h6 : opn W ≤ 6 := h6
  have c14 := h14 hW h6
  have lW := len_W hW
  have p2 := p2le hk
  have eh := evs_H h0 (by rw [z0]; exact hv)
  rw [z0, hh] at eh
  have hR := hb.1.1
  have k12 : σ.1 218 12 = tkK tx n i := hG.2.2.1
  -- behind a whole part
  have part : ∀ (j : Nat) (Q : List zOp) (τ : zS), Rc (stv tx n (nI k)) (i, 0, W, O) (sw 3 j W Q) → HS (2 ^ k) W Q → RBs τ → RX τ.1 tx n j → RR τ c (2 ^ k) (evs (2 ^ k) Q s0) W → τ.1 218 25 = σ.1 218 25 → Pt (J_X12_readsPart_192 N 218 τ) (fun r => r.2.1 218 14 = 0 → ∃ d : Cv, Rc (stv tx n (nI k)) (i, 0, W, O) d ∧ (d.2.1 = 0 ∨ d.2.1 = 1) ∧ (r.1 = 0 ↔ d.2.1 = 0) ∧ (RBs r.2 ∧ RX r.2.1 tx n d.1) ∧ RR r.2 c (2 ^ k) (evs (2 ^ k) d.2.2.2 s0) d.2.2.1 ∧ r.2.1 218 25 = σ.1 218 25) := fun j Q τ rc hH hb' hG' hr' e25 => by
    refine pt_w (vr_p192 hN hk hc hb' h0 z0 hH hG' hr') (fun r h z => ?_)
    obtain ⟨v1, hb2, hr2, f25⟩ := h z
    exact ⟨_, rc, Or.inr rfl, ⟨fun y => absurd y v1, fun y => absurd (show (1 : Nat) = 0 from y) (by decide)⟩, hb2, hr2, f25.trans e25⟩
  have open_ : (isPx tx n i ∨ tkK tx n i = 40) → Pt (zl (gC 12 218) fun _ => zb (f_X12_opens N 218 (pw tx n i) σ) fun v6 σ7 => rZ 0 σ7) (fun r => r.2.1 218 14 = 0 → ∃ d : Cv, Rc (stv tx n (nI k)) (i, 0, W, O) d ∧ (d.2.1 = 0 ∨ d.2.1 = 1) ∧ (r.1 = 0 ↔ d.2.1 = 0) ∧ (RBs r.2 ∧ RX r.2.1 tx n d.1) ∧ RR r.2 c (2 ^ k) (evs (2 ^ k) d.2.2.2 s0) d.2.2.1 ∧ r.2.1 218 25 = σ.1 218 25) := fun px => by
    have pb : 50 ≤ (pw tx n i).toInt := by
      unfold pw
      by_cases z : tkK tx n i = 40
      · rw [if_pos z]; decide
      · rw [if_neg z]
        obtain ⟨j, hj, hw⟩ := px.resolve_right z
        rw [pxv_k hj hw]
        exact (by decide : ∀ j, j < 6 → 50 ≤ (50 + nI j).toInt) j hj
    refine pt_gC (pt_zb (vr_opens hN hc hb hG hr pb (by omega) h6) (fun _ σ1 h1 => pt_rZ (fun z => ?_)))
    obtain ⟨l6, hb1, hr1, e25⟩ := h1 z
    exact ⟨(tkE tx n i, 0, pw tx n i :: W, O), Rc.st (stv_o px l6) Rc.rf, Or.inl rfl, ⟨fun _ => rfl, fun _ => rfl⟩, hb1, hr1, e25⟩
  rw [f_X12_readsPart.eq_1]
  refine pt_gC (pt_zbq (vr_prefixOf hN hb hg hG) (fun v hv1 => ?_))
  rcases hv1 with ⟨rfl, npx⟩ | ⟨j, hj, rfl, hw⟩
  · refine pt_if (fun _ => ?_) (fun q => absurd rfl q)
    refine pt_gI ?_
    rw [k12]
    refine pt_if (fun q40 => ?_) (fun n40 => ?_)
    · rw [J_X12_readsPart_19.eq_1]
      refine pt_if (fun _ => ?_) (fun q => absurd rfl q)
      have := open_ (Or.inr q40)
      rw [px40 q40] at this
      exact this
    · have np : ¬ (isPx tx n i ∨ tkK tx n i = 40) := fun z => z.elim npx n40
      refine pt_gI ?_
      rw [k12]
      refine pt_if (fun q2 => ?_) (fun n2 => ?_)
      · -- a register
        refine pt_gC (pt_zb (pt_ok (s_X12_number_r hN hR hb.1.2 hb.2.1 hG hg)) (fun v σ1 h1 => ?_))
        obtain ⟨hT, ⟨hK1, _, g1, b1⟩, e7, e9, e20, e22, e23, e24, e25⟩ := h1
        have hT : Tr [218] σ σ1 := hT
        have hb1 : RBs σ1 := rb218 hb hT (by decide) hK1 (zb218 hb hT)
        have hr1 : RR σ1 c (2 ^ k) (evs (2 ^ k) O s0) W := RR_k hr (hT.2 _ (by decide)) (hT.2 _ (by decide)) (hT.2 _ (c218 hc).1) e20 e22 e23 e24
        refine pt_gC (pt_zb (vr_pushesEmpty hN hb1 hr1.2.1.1 (by omega)) (fun _ σ2 h2 => ?_))
        obtain ⟨⟨hb2, f2⟩, f23, x2, o2⟩ := h2
        have hb2 : RBs σ2 := hb2
        have f2 : FP σ1 σ2 := f2
        by_cases g : σ1.1 218 14 = 0
        · obtain ⟨⟨_, ok⟩, ev, hG1⟩ := g1 g
          have ev : v = nvI tx n i := nv_eq ev
          have nb := nv_in ok (by decide) (by decide)
          simp only [Int32.reduceToInt] at nb
          obtain ⟨p, hp, ep⟩ := znI (x := nvI tx n i) (m := 10) nb.1 (by omega)
          have H1 : HS (2 ^ k) W (O ++ [(0, nvI tx n i)]) := ⟨⟨vds_1 hv (Or.inl ⟨rfl, by show 0 ≤ (nvI tx n i).toInt ∧ (nvI tx n i).toInt < 10; omega, by omega⟩), by rw [hts_1, nh_p.1, hh]⟩, hW, h6⟩
          rw [ev, ep]
          refine pt_lp (fun y : Int32 × zS => ∃ l, (y.1 = nI l ∧ l ≤ 1024) ∧ (FG [226] σ2 y.2 ∧ ZB y.2.1) ∧ (∀ u, u < l → y.2.1 226 (1024 * cmb W + u) = σ.1 c (1024 * p + u)) ∧ ∀ j, j < 1024 * cmb W → y.2.1 226 j = σ.1 226 j) (fun again y hI ih => ?_) N _ ⟨0, ⟨rfl, Nat.zero_le _⟩, ⟨FG.rf, hb2.2.2⟩, fun u hu => absurd hu (Nat.not_lt_zero _), fun j hj => by rw [o2 j (by rw [eh.2]; exact hj)]; exact hT.2 226 (by decide) ▸ rfl⟩
          obtain ⟨x5, τ⟩ := y
          obtain ⟨l, ⟨ex, hl⟩, ⟨hf, hZ⟩, hu, ho⟩ := hI
          have ex : x5 = nI l := ex
          subst ex
          have hf : FG [226] σ2 τ := hf
          have hZ : ZB τ.1 := hZ
          have hu : ∀ u, u < l → τ.1 226 (1024 * cmb W + u) = σ.1 c (1024 * p + u) := hu
          have ho : ∀ j, j < 1024 * cmb W → τ.1 226 j = σ.1 226 j := ho
          have R9 := hf.R hb2.1.1
          have e18 : τ.1 218 = σ2.1 218 := hf.2 218 (by decide)
          have t23 : τ.1 218 23 = nI (cmb W + 1) := by rw [e18, f23, eh.2]
          have ec : τ.1 c = σ.1 c := by rw [hf.2 c (fun z => (c218 hc).2.1 (by simp only [List.mem_cons, List.not_mem_nil, or_false] at z ⊢; omega)), f2.2.1 c (c218 hc).2.1, hT.2 c (c218 hc).1]
          rw [F_X12_readsPart_63.eq_1]
          refine pt_if (fun q => ?_) (fun q => ?_)
          · have q : nI 1024 ≤ nI l := q
            rw [nlt (by omega) (by omega)] at q
            have hFP : FP σ1 τ := ⟨hf.1.trans f2.1, fun a ha => (hf.2 a (fun z => ha (by simp only [List.mem_cons, List.not_mem_nil, or_false] at z ⊢; omega))).trans (f2.2.1 a ha), fun j hj => by rw [e18]; exact f2.2.2 j hj⟩
            refine part (tkE tx n i) (O ++ [(0, nvI tx n i)]) τ (Rc.st (stv_n np ok) Rc.rf) H1 (hb1.f hFP.S hZ) (hFP.S.X hG1) ?_ (by rw [e18, f2.2.2 25 (by decide)]; exact e25)
            rw [evs_app]
            show RR τ c (2 ^ k) (ev1 (2 ^ k) (0, nvI tx n i) (evs (2 ^ k) O s0)) W
            rw [show evs (2 ^ k) O s0 = ((evs (2 ^ k) O s0).1, (evs (2 ^ k) O s0).2) from rfl, ev_0, ep, iN (by omega)]
            refine RR_push hc hr1 hFP (by rw [eh.2]; exact t23) (fun u hu' => ?_) (fun j hj => ?_)
            · rw [eh.2, ← hr.2.2.1 p hp u hu']
              unfold rb
              rw [hu u (by omega)]
            · rw [eh.2] at hj
              rw [ho j hj, hT.2 226 (by decide)]
          · have q : ¬ nI 1024 ≤ nI l := q
            rw [nlt (by omega) (by omega)] at q
            have g9 : τ.1 218 14 = 0 := by rw [e18, f2.2.2 14 (by decide)]; exact g
            refine pt_gC (pt_zbq vr_good (fun w hw => pt_if (fun z => absurd g9 (hw.1 z)) (fun _ => ?_)))
            have e9 : ((1024 : Int32) * (nI (cmb W + 1) - 1) + nI l).toInt.toNat = 1024 * cmb W + l := by
              rw [show (1 : Int32) = nI 1 from rfl, nI_m (by omega), show cmb W + 1 - 1 = cmb W by omega, n1024, nI_plus, nI_toInt (by omega)]; omega
            have e10 : ((1024 : Int32) * nI p + nI l).toInt.toNat = 1024 * p + l := by
              rw [n1024, nI_plus, nI_toInt (by omega)]; omega
            refine pt_gR (v := 226) (R9 218 16 rfl) (pt_gI (pt_aI ?_))
            rw [t23]
            refine pt_s16 ?_
            rw [e9, e10, nI_s1 (by omega), nrz (by have := hZ c (by rcases hc with rfl | rfl <;> rfl) (1024 * p + l); exact this), ec]
            refine ih (nI (l + 1), _) ⟨l + 1, ⟨rfl, by omega⟩, ⟨hf.u (by simp), ?_⟩, fun u h => ?_, fun j hj => ?_⟩
            · intro a ha j
              by_cases a1 : a = 226
              · subst a1
                show (zI τ 226 _).1 226 j = 0 ∨ (zI τ 226 _).1 226 j = 1
                rw [zI_s, upd_i]
                split
                · rw [← ec]; exact hZ c (by rcases hc with rfl | rfl <;> rfl) _
                · exact hZ 226 rfl j
              · show (zI τ 226 _).1 a j = 0 ∨ (zI τ 226 _).1 a j = 1
                rw [zI_n a1]; exact hZ a ha j
            · show (zI τ 226 _).1 226 _ = _
              rw [zI_s, upd_i]
              by_cases d : u = l
              · rw [if_pos (by omega), d]
              · rw [if_neg (by omega)]; exact hu u (by omega)
            · show (zI τ 226 _).1 226 j = _
              rw [zI_s, upd_n (by omega)]; exact ho j hj
        · have g2 : ¬ σ2.1 218 14 = 0 := by rw [f2.2.2 14 (by decide)]; exact g
          refine pt_lp (fun y : Int32 × zS => ¬ y.2.1 218 14 = 0) (fun again y hI ih => ?_) N _ g2
          obtain ⟨x5, τ⟩ := y
          have hI : ¬ τ.1 218 14 = 0 := hI
          rw [F_X12_readsPart_63.eq_1]
          exact pt_if (fun _ => bad192 hI) (fun _ => pt_gC (pt_zbq vr_good (fun w hw => pt_if (fun _ => bad192 hI) (fun z => absurd (hw.2 z) hI))))
      · refine pt_gI ?_
        rw [k12]
        refine pt_if (fun q123 => ?_) (fun n123 => ?_)
        · refine pt_gC (pt_zb (vr_readsSets hN hk hc hb h0 z0 H0 hG hg hr q123) (fun _ σ1 h1 => ?_))
          by_cases g : σ1.1 218 14 = 0
          · obtain ⟨j, Q, rc, hH, hb1, hr1, e25⟩ := h1 g
            exact part j Q σ1 rc hH hb1.1 hb1.2 hr1 e25
          · exact bad192 g
        · refine pt_gC (pt_zb (pt_ok (s_X12_takes_r hN hR hb.1.2 hb.2.1 hG hg (by decide))) (fun v σ1 h1 => ?_))
          obtain ⟨hT, ⟨hK1, _, f0, f1⟩, e7, e9, e14, e15, e20, e22, e23, e24, e25⟩ := h1
          refine pt_if (fun z => ?_) (fun z => ?_)
          · have e0 : σ1 = σ := (f0 z).1
            subst e0
            refine pt_gC (pt_zb (vr_errs hN hb (by decide)) (fun _ σ2 h2 => bad192 h2))
          · obtain ⟨⟨w15, _⟩, hG1⟩ := f1 z
            have hT : Tr [218] σ σ1 := hT
            have hG1 : RX σ1.1 tx n (tkE tx n i) := hG1
            have hb1 : RBs σ1 := rb218 hb hT (by decide) hK1 (zb218 hb hT)
            have hr1 : RR σ1 c (2 ^ k) (evs (2 ^ k) O s0) W := RR_k hr (hT.2 _ (by decide)) (hT.2 _ (by decide)) (hT.2 _ (c218 hc).1) e20 e22 e23 e24
            have H1 : HS (2 ^ k) W (O ++ [(2, 0)]) := ⟨⟨vds_1 hv (Or.inr (Or.inr (Or.inl ⟨rfl, by omega⟩))), by rw [hts_1, nh_p.2.2.1, hh]⟩, hW, h6⟩
            refine pt_gC (pt_zb (vr_pushesEmpty hN hb1 hr1.2.1.1 (by omega)) (fun _ σ2 h2 => ?_))
            obtain ⟨⟨hb2, f2⟩, f23, x2, o2⟩ := h2
            have hb2 : RBs σ2 := hb2
            have f2 : FP σ1 σ2 := f2
            refine pt_lp (fun y : Int32 × zS => ∃ l, (y.1 = nI l ∧ l ≤ 2 ^ k) ∧ (FG [226] σ2 y.2 ∧ ZB y.2.1) ∧ (∀ u, u < 1024 → y.2.1 226 (1024 * cmb W + u) = if u < l then 1 else 0) ∧ ∀ j, j < 1024 * cmb W → y.2.1 226 j = σ.1 226 j) (fun again y hI ih => ?_) N _ ⟨0, ⟨rfl, Nat.zero_le _⟩, ⟨FG.rf, hb2.2.2⟩, fun u hu => by rw [if_neg (by omega)]; have := x2 u hu; rw [eh.2] at this; exact this, fun j hj => by rw [o2 j (by rw [eh.2]; exact hj)]; exact hT.2 226 (by decide) ▸ rfl⟩
            obtain ⟨x5, τ⟩ := y
            obtain ⟨l, ⟨ex, hl⟩, ⟨hf, hZ⟩, hu, ho⟩ := hI
            have ex : x5 = nI l := ex
            subst ex
            have hf : FG [226] σ2 τ := hf
            have hZ : ZB τ.1 := hZ
            have hu : ∀ u, u < 1024 → τ.1 226 (1024 * cmb W + u) = if u < l then 1 else 0 := hu
            have ho : ∀ j, j < 1024 * cmb W → τ.1 226 j = σ.1 226 j := ho
            have R9 := hf.R hb2.1.1
            have e18 : τ.1 218 = σ2.1 218 := hf.2 218 (by decide)
            have t23 : τ.1 218 23 = nI (cmb W + 1) := by rw [e18, f23, eh.2]
            have t20 : τ.1 218 20 = nI (2 ^ k) := by rw [e18, f2.2.2 20 (by decide)]; exact hr1.2.2.2
            rw [F_X12_readsPart_150.eq_1]
            refine pt_gI ?_
            rw [t20]
            refine pt_if (fun q => ?_) (fun q => ?_)
            · rw [nlt (by omega) (by omega)] at q
              have hFP : FP σ1 τ := ⟨hf.1.trans f2.1, fun a ha => (hf.2 a (fun z => ha (by simp only [List.mem_cons, List.not_mem_nil, or_false] at z ⊢; omega))).trans (f2.2.1 a ha), fun j hj => by rw [e18]; exact f2.2.2 j hj⟩
              refine part (tkE tx n i) (O ++ [(2, 0)]) τ (Rc.st (stv_a np w15) Rc.rf) H1 (hb1.f hFP.S hZ) (hFP.S.X hG1) ?_ (by rw [e18, f2.2.2 25 (by decide)]; exact e25)
              rw [evs_app]
              show RR τ c (2 ^ k) (ev1 (2 ^ k) (2, 0) (evs (2 ^ k) O s0)) W
              rw [show evs (2 ^ k) O s0 = ((evs (2 ^ k) O s0).1, (evs (2 ^ k) O s0).2) from rfl, ev_2]
              refine RR_push hc hr1 hFP (by rw [eh.2]; exact t23) (fun u hu' => ?_) (fun j hj => ?_)
              · rw [eh.2]
                unfold rb
                rw [hu u hu', show l = 2 ^ k by omega]
                by_cases d : u < 2 ^ k
                · rw [if_pos d, decide_eq_true d]; rfl
                · rw [if_neg d, decide_eq_false d]; rfl
              · rw [eh.2] at hj
                rw [ho j hj, hT.2 226 (by decide)]
            · rw [nlt (by omega) (by omega)] at q
              have e9 : ((1024 : Int32) * (nI (cmb W + 1) - 1) + nI l).toInt.toNat = 1024 * cmb W + l := by
                rw [show (1 : Int32) = nI 1 from rfl, nI_m (by omega), show cmb W + 1 - 1 = cmb W by omega, n1024, nI_plus, nI_toInt (by omega)]; omega
              refine pt_gR (v := 226) (R9 218 16 rfl) (pt_gI ?_)
              rw [t23]
              refine pt_s16 ?_
              rw [e9, nI_s1 (by omega), nz1.2]
              refine ih (nI (l + 1), _) ⟨l + 1, ⟨rfl, by omega⟩, ⟨hf.u (by simp), ?_⟩, fun u h => ?_, fun j hj => ?_⟩
              · intro a ha j
                by_cases a1 : a = 226
                · subst a1
                  show (zI τ 226 _).1 226 j = 0 ∨ (zI τ 226 _).1 226 j = 1
                  rw [zI_s, upd_i]
                  split
                  · exact Or.inr rfl
                  · exact hZ 226 rfl j
                · show (zI τ 226 _).1 a j = 0 ∨ (zI τ 226 _).1 a j = 1
                  rw [zI_n a1]; exact hZ a ha j
              · show (zI τ 226 _).1 226 _ = _
                rw [zI_s, upd_i]
                by_cases d : u = l
                · rw [if_pos (by omega), if_pos (by omega)]
                · rw [if_neg (by omega), hu u h]
                  by_cases e : u < l
                  · rw [if_pos e, if_pos (by omega)]
                  · rw [if_neg e, if_neg (by omega)]
              · show (zI τ 226 _).1 226 j = _
                rw [zI_s, upd_n (by omega)]; exact ho j hj
  · refine pt_if (fun q => absurd q ((by decide : ∀ j, j < 6 → ¬ nI j = -1) j hj)) (fun _ => ?_)
    rw [J_X12_readsPart_19.eq_1]
    refine pt_if (fun q => absurd q ((by decide : ∀ j, j < 6 → ¬ nI j = -1) j hj)) (fun _ => ?_)
    have := open_ (Or.inl ⟨j, hj, hw⟩)
    rw [pxw (by rw [hw.1]; decide), pxv_k hj hw] at this
    exact this
end RSY
end Zq14_3
section Zq14_4
section RSZ
variable {N k n i : Nat} {σ τ υ : zS} {tx : Nat → Int32} {W : List Int32} {O : List zOp} {s s0 : zEv} {c M : Nat}
theorem WL_mem {g : Nat → Int32} : ∀ {W : List Int32}, WLl g W → (100 ∈ W ↔ ∃ j, j < W.length ∧ g j = 100)
  | [], _ => ⟨fun h => absurd h List.not_mem_nil, fun ⟨j, h, _⟩ => absurd h (Nat.not_lt_zero _)⟩
  | w :: W, h => by
    rw [List.mem_cons, WL_mem h.2, List.length_cons]
    constructor
    · rintro (e | ⟨j, hj, e⟩)
      · exact ⟨W.length, by omega, h.1.trans e.symm⟩
      · exact ⟨j, by omega, e⟩
    · rintro ⟨j, hj, e⟩
      by_cases z : j = W.length
      · subst z; exact Or.inl (e.symm.trans h.1)
      · exact Or.inr ⟨j, by omega, e⟩
theorem vr_isOpen (hR : RF σ.2.2) (e22 : σ.1 218 22 = nI W.length) (hw : WLl (σ.1 230) W) (hW : W.length ≤ 30) : Px (f_X12_isOpen N 218 σ) σ (fun v => (v = 0 → ¬ 100 ∈ W) ∧ (¬ v = 0 → 100 ∈ W)) := by
  rw [f_X12_isOpen.eq_1]
  refine pt_lp (fun y : Int32 × zS => y.2 = σ ∧ ∃ l, (y.1 = nI l ∧ l ≤ W.length) ∧ ∀ j, j < l → ¬ σ.1 230 j = 100) (fun again y hI ih => ?_) N _ ⟨rfl, 0, ⟨rfl, Nat.zero_le _⟩, fun j hj => absurd hj (Nat.not_lt_zero _)⟩
  obtain ⟨x1, τ⟩ := y
  obtain ⟨e, l, ⟨ex, hl⟩, hn⟩ := hI
  have e : τ = σ := e
  have ex : x1 = nI l := ex
  subst e
  subst ex
  rw [F_X12_isOpen_2.eq_1]
  refine pt_gI ?_
  rw [e22]
  refine pt_if (fun q => pt_rZ ⟨rfl, fun _ => ?_, fun z => absurd rfl z⟩) (fun q => ?_)
  · rw [nlt (by omega) (by omega)] at q
    rw [WL_mem hw]
    rintro ⟨j, hj, e⟩
    exact hn j (by omega) e
  · rw [nlt (by omega) (by omega)] at q
    refine pt_gR (v := 230) (hR 218 21 rfl) (pt_aI ?_)
    rw [iN (by omega)]
    refine pt_if (fun z => pt_rZ ⟨rfl, fun y => absurd (show (1 : Int32) = 0 from y) (by decide), fun _ => (WL_mem hw).mpr ⟨l, by omega, z⟩⟩) (fun z => ?_)
    rw [nI_s1 (by omega)]
    refine ih (nI (l + 1), τ) ⟨rfl, l + 1, ⟨rfl, by omega⟩, fun j hj => ?_⟩
    by_cases d : j = l
    · rw [d]; exact z
    · exact hn j (by omega)
theorem vr_isOpen0 : Px (f_X12_isOpen N 218 σ) σ (fun _ => True) := by
  rw [f_X12_isOpen.eq_1]
  refine pt_lp (fun y : Int32 × zS => y.2 = σ) (fun again y hI ih => ?_) N _ rfl
  obtain ⟨x1, τ⟩ := y
  have hI : τ = σ := hI
  subst hI
  rw [F_X12_isOpen_2.eq_1]
  exact pt_gI (pt_if (fun _ => pt_rZ ⟨rfl, trivial⟩) (fun _ => pt_gR (v := τ.2.2 218 21) rfl (pt_aI (pt_if (fun _ => pt_rZ ⟨rfl, trivial⟩) (fun _ => ih _ rfl)))))
theorem errs_bad {x : Int32} (hg : ¬ σ.1 218 14 = 0) : Pt (f_X12_errs N 218 x σ) (fun r => r.2 = σ) := by
  rw [f_X12_errs.eq_1]
  exact pt_gC (pt_zbq vr_good (fun v hv => pt_if (fun _ => pt_some rfl) (fun z => absurd (hv.2 z) hg)))
/-- one more waits -/
theorem RR_wait {w : Int32} (hc : c = 220 ∨ c = 232) (hr : RR σ c M s W) (hw : w.toInt < 50) (e18 : ∀ j, j ≠ 22 → τ.1 218 j = σ.1 218 j) (e22 : τ.1 218 22 = nI (W.length + 1)) (e30 : τ.1 230 = upd (σ.1 230) W.length w) (o : ∀ a, a ≠ 218 → a ≠ 230 → τ.1 a = σ.1 a) : RR τ c M s (w :: W) := by
  obtain ⟨⟨⟨h22, hwl⟩, h24⟩, ⟨h23, hp⟩, hg, h20⟩ := hr
  have cs := cmb_s (W := W) hw
  have c1 : c ≠ 218 ∧ c ≠ 230 := by rcases hc with rfl | rfl <;> decide
  refine ⟨⟨⟨e22, ?_, ?_⟩, ?_⟩, ⟨?_, ?_⟩, ?_, ?_⟩
  · rw [e30, upd_s]
  · rw [e30]; exact WLl_c (fun j hj => upd_n (by omega)) hwl
  · rw [e18 24 (by decide), cs.2]; exact h24
  · rw [e18 23 (by decide)]; exact h23
  · rw [o 226 (by decide) (by decide)]; exact hp
  · rw [o c c1.1 c1.2]; exact hg
  · rw [e18 20 (by decide)]; exact h20
theorem HS_tail {V : List Int32} {Q : List zOp} (H : HS M (100 :: V) Q) : HS M V Q := by
  have cc := cmb_o (W := V) (w := 100) (by decide)
  obtain ⟨⟨hv, hh⟩, hW, h6⟩ := H
  rw [cc.1] at hh
  rw [cc.2] at h6
  exact ⟨⟨hv, hh⟩, hW.1, by omega⟩
theorem vr_goesBehind (hN : 1048576 ≤ N) (hk : k ≤ 10) (hc : c = 220 ∨ c = 232) (hb : RBs σ) (h0 : RG (2 ^ k) s0) (z0 : s0.2.length = 0) (H : HS (2 ^ k) W O) (hG : RX σ.1 tx n i) (hg : σ.1 218 14 = 0) (hr : RR σ c (2 ^ k) (evs (2 ^ k) O s0) W) : Pt (f_X12_goesBehind N 218 σ) (fun r => r.2.1 218 14 = 0 → (r.1 = -1 ∧ stv tx n (nI k) (i, 1, W, O) = some none ∧ r.2 = σ) ∨ ∃ d : Cv, stv tx n (nI k) (i, 1, W, O) = some (some d) ∧ ((r.1 = 0 ∧ d.2.1 = 1) ∨ (r.1 = 1 ∧ d.2.1 = 0)) ∧ (RBs r.2 ∧ RX r.2.1 tx n d.1) ∧ RR r.2 c (2 ^ k) (evs (2 ^ k) d.2.2.2 s0) d.2.2.1) := by
  have L := HS_len hk h0 z0 H
  have hR := hb.1.1
  rw [f_X12_goesBehind.eq_1]
  refine pt_gI ?_
  rw [show σ.1 218 12 = tkK tx n i from hG.2.2.1]
  refine pt_zbq vr_signOf (fun v hv => ?_)
  subst hv
  refine pt_if (fun q => ?_) (fun q => ?_)
  · have ncb : ¬ isCb (tkK tx n i) := sgv_no.mpr q
    refine pt_gI ?_
    rw [show σ.1 218 12 = tkK tx n i from hG.2.2.1]
    refine pt_if (fun q41 => ?_) (fun q41 => pt_some (fun _ => Or.inl ⟨rfl, stv_e ncb (fun z => q41 z.1), rfl⟩))
    refine pt_gC (pt_zbq (vr_isOpen hR hr.1.1.1 hr.1.1.2 (by omega)) (fun v5 h5 => pt_if (fun z => pt_some (fun _ => Or.inl ⟨rfl, stv_e ncb (fun y => h5.1 z y.2), rfl⟩)) (fun z => ?_)))
    have m100 := h5.2 z
    have sp := stv_p (m := nI k) (O := O) ncb ⟨q41, m100⟩
    refine pt_gC (pt_zb (vr_settlesTo hN hk (by decide) hR hb.2.2 hc h0 z0 H hr) (fun _ σ1 h1 => ?_))
    obtain ⟨⟨hr1, hB1⟩, hF1, hH1⟩ := h1
    have hr1 : RR σ1 c (2 ^ k) (evs (2 ^ k) (setl 1 W O).2 s0) (setl 1 W O).1 := hr1
    have hF1 : FS σ σ1 := hF1
    have hB1 : ZB σ1.1 := hB1
    have m := (setl_100 (r := 1) (by decide) W O).mpr m100
    rcases setl_top (r := 1) W O with y | ⟨w, V, y, lt⟩
    · rw [y] at m; exact absurd m List.not_mem_nil
    have ew := rk_0 lt
    subst ew
    rw [y] at hr1 hH1 sp
    have hT := HS_tail hH1
    have L2 := HS_len hk h0 z0 hT
    have cc := cmb_o (W := V) (w := 100) (by decide)
    have e22 : σ1.1 218 22 = nI (V.length + 1) := hr1.1.1.1
    have e24 : σ1.1 218 24 = nI (opn V + 1) := by rw [hr1.1.2, cc.2]
    refine pt_gI (pt_pI (pt_gI (pt_pI ?_)))
    have u1 : (zI σ1 218 (upd (σ1.1 218) 22 (σ1.1 218 22 - 1))).1 218 = upd (σ1.1 218) 22 (σ1.1 218 22 - 1) := zI_s
    rw [u1, upd_n (show (24 : Nat) ≠ 22 by decide), e22, e24, show (1 : Int32) = nI 1 from rfl, nI_m (by omega), nI_m (by omega), show V.length + 1 - 1 = V.length by omega, show opn V + 1 - 1 = opn V by omega]
    have F2 : FS σ (zI (zI σ1 218 (upd (σ1.1 218) 22 (nI V.length))) 218 (upd (upd (σ1.1 218) 22 (nI V.length)) 24 (nI (opn V)))) := by
      have a := (hF1.p (j := 22) (v := nI V.length) (by omega)).p (j := 24) (v := nI (opn V)) (by omega)
      rw [show (zI σ1 218 (upd (σ1.1 218) 22 (nI V.length))).1 218 = upd (σ1.1 218) 22 (nI V.length) from zI_s] at a
      exact a
    have B2 : ZB (zI (zI σ1 218 (upd (σ1.1 218) 22 (nI V.length))) 218 (upd (upd (σ1.1 218) 22 (nI V.length)) 24 (nI (opn V)))).1 := ZB_n (by decide) (ZB_n (by decide) hB1)
    have n2 : ∀ a, a ≠ 218 → (zI (zI σ1 218 (upd (σ1.1 218) 22 (nI V.length))) 218 (upd (upd (σ1.1 218) 22 (nI V.length)) 24 (nI (opn V)))).1 a = σ1.1 a := fun a ha => (zI_n ha).trans (zI_n ha)
    have s2 : (zI (zI σ1 218 (upd (σ1.1 218) 22 (nI V.length))) 218 (upd (upd (σ1.1 218) 22 (nI V.length)) 24 (nI (opn V)))).1 218 = upd (upd (σ1.1 218) 22 (nI V.length)) 24 (nI (opn V)) := zI_s
    generalize zI (zI σ1 218 (upd (σ1.1 218) 22 (nI V.length))) 218 (upd (upd (σ1.1 218) 22 (nI V.length)) 24 (nI (opn V))) = σ2 at F2 B2 n2 s2 ⊢
    have hb2 : RBs σ2 := hb.f F2 B2
    have hr2 : RR σ2 c (2 ^ k) (evs (2 ^ k) (setl 1 W O).2 s0) V := by
      obtain ⟨⟨⟨h22, hwl⟩, h24⟩, ⟨h23, hp⟩, hgr, h20⟩ := hr1
      refine ⟨⟨⟨?_, ?_⟩, ?_⟩, ⟨?_, ?_⟩, ?_, ?_⟩
      · rw [s2, upd_n (by decide), upd_s]
      · rw [n2 230 (by decide)]; exact hwl.2
      · rw [s2, upd_s]
      · rw [s2, upd_n (by decide), upd_n (by decide)]; exact h23
      · rw [n2 226 (by decide)]; exact hp
      · rw [n2 c (by rcases hc with rfl | rfl <;> decide)]; exact hgr
      · rw [s2, upd_n (by decide), upd_n (by decide)]; exact h20
    refine pt_gC (pt_zb (vr_adv hN hc hb2 (F2.X hG) hr2) (fun _ σ3 h3 => ?_))
    obtain ⟨⟨hb3, hG3⟩, hr3, ⟨g14, _, _⟩, _⟩ := h3
    have hb3 : RBs σ3 := hb3
    have hG3 : RX σ3.1 tx n (tkE tx n i) := hG3
    refine pt_gC (pt_zb (vr_settlesTo hN hk (by decide) hb3.1.1 hb3.2.2 hc h0 z0 hT hr3) (fun _ σ4 h4 => pt_some (fun _ => Or.inr ⟨_, sp, Or.inl ⟨rfl, rfl⟩, ⟨hb3.f h4.2.1 h4.1.2, h4.2.1.X hG3⟩, h4.1.1⟩)))
  · have cb : isCb (tkK tx n i) := Classical.byContradiction (fun z => q (sgv_no.mp z))
    have sc := stv_c (m := nI k) (W := W) (O := O) cb
    have sb := sgv_cb cb
    have rb := rk_s sb
    generalize sgv (tkK tx n i) = w at sc sb rb ⊢
    have r1 : (1 : Int32) ≤ rkI w := by rw [Int32.le_iff_toInt_le]; simp only [Int32.reduceToInt]; omega
    refine pt_gI (pt_if (fun _ => ?_) (fun _ => ?_))
    · refine pt_gC (pt_zb (vr_errs hN hb (by decide)) (fun _ σ1 h1 => ?_))
      have h1 : ¬ σ1.1 218 14 = 0 := h1
      rw [J_X12_goesBehind_27.eq_1]
      exact pt_gC (pt_zbq vr_good (fun v hv => pt_if (fun z => pt_some (fun y => absurd y h1)) (fun z => absurd (hv.2 z) h1)))
    · rw [J_X12_goesBehind_27.eq_1]
      refine pt_gC (pt_zbq vr_good (fun v hv => pt_if (fun z => absurd hg (hv.1 z)) (fun _ => pt_gI (pt_pI ?_))))
      have n1 : ∀ a, a ≠ 218 → (zI σ 218 (upd (σ.1 218) 25 (σ.1 218 25 + 1))).1 a = σ.1 a := fun a ha => zI_n ha
      have s1 : ∀ j, j ≠ 25 → (zI σ 218 (upd (σ.1 218) 25 (σ.1 218 25 + 1))).1 218 j = σ.1 218 j := fun j hj => by rw [zI_s, upd_n hj]
      have B1 : ZB (zI σ 218 (upd (σ.1 218) 25 (σ.1 218 25 + 1))).1 := ZB_n (by decide) hb.2.2
      have t1 : (zI σ 218 (upd (σ.1 218) 25 (σ.1 218 25 + 1))).2 = σ.2 := rfl
      generalize zI σ 218 (upd (σ.1 218) 25 (σ.1 218 25 + 1)) = σ1 at n1 s1 B1 t1 ⊢
      have hb1 : RBs σ1 := by
        refine ⟨⟨by rw [t1]; exact hR, ?_⟩, by rw [n1 224 (by decide)]; exact hb.2.1, B1⟩
        have K := hb.1.2
        unfold TOK at K ⊢
        rw [s1 9 (by decide), s1 10 (by decide), s1 11 (by decide), s1 12 (by decide), n1 224 (by decide)]; exact K
      have hG1 : RX σ1.1 tx n i := by
        unfold RX TKS at hG ⊢
        rw [s1 9 (by decide), s1 10 (by decide), s1 11 (by decide), s1 12 (by decide), s1 13 (by decide), n1 224 (by decide)]; exact hG
      have hr1 : RR σ1 c (2 ^ k) (evs (2 ^ k) O s0) W := RR_k hr (n1 230 (by decide)) (n1 226 (by decide)) (n1 c (by rcases hc with rfl | rfl <;> decide)) (s1 20 (by decide)) (s1 22 (by decide)) (s1 23 (by decide)) (s1 24 (by decide))
      refine pt_zbq rank_r (fun v hv => ?_)
      subst hv
      refine pt_gC (pt_zb (vr_settlesTo hN hk r1 hb1.1.1 hb1.2.2 hc h0 z0 H hr1) (fun _ σ2 h2 => ?_))
      obtain ⟨⟨hr2, hB2⟩, hF2, hH2⟩ := h2
      have hr2 : RR σ2 c (2 ^ k) (evs (2 ^ k) (setl (rkI w) W O).2 s0) (setl (rkI w) W O).1 := hr2
      have hF2 : FS σ1 σ2 := hF2
      have hB2 : ZB σ2.1 := hB2
      have L2 := HS_len hk h0 z0 hH2
      have hb2 : RBs σ2 := hb1.f hF2 hB2
      have hG2 : RX σ2.1 tx n i := hF2.X hG1
      generalize (setl (rkI w) W O).1 = V at hr2 L2 sc
      have e22 : σ2.1 218 22 = nI V.length := hr2.1.1.1
      refine pt_gR (v := 230) (hb2.1.1 218 21 rfl) (pt_gI (pt_s14 (pt_gI (pt_pI ?_))))
      rw [show (zI σ2 230 (upd (σ2.1 230) (σ2.1 218 22).toInt.toNat w)).1 218 = σ2.1 218 from zI_n (by decide), e22, iN (by omega), show (1 : Int32) = nI 1 from rfl, nI_plus]
      have n3 : ∀ a, a ≠ 218 → a ≠ 230 → (zI (zI σ2 230 (upd (σ2.1 230) V.length w)) 218 (upd (σ2.1 218) 22 (nI (V.length + 1)))).1 a = σ2.1 a := fun a h1 h2 => (zI_n h1).trans (zI_n h2)
      have s3 : (zI (zI σ2 230 (upd (σ2.1 230) V.length w)) 218 (upd (σ2.1 218) 22 (nI (V.length + 1)))).1 218 = upd (σ2.1 218) 22 (nI (V.length + 1)) := zI_s
      have w3 : (zI (zI σ2 230 (upd (σ2.1 230) V.length w)) 218 (upd (σ2.1 218) 22 (nI (V.length + 1)))).1 230 = upd (σ2.1 230) V.length w := (zI_n (by decide)).trans zI_s
      have t3 : (zI (zI σ2 230 (upd (σ2.1 230) V.length w)) 218 (upd (σ2.1 218) 22 (nI (V.length + 1)))).2 = σ2.2 := rfl
      have B3 : ZB (zI (zI σ2 230 (upd (σ2.1 230) V.length w)) 218 (upd (σ2.1 218) 22 (nI (V.length + 1)))).1 := ZB_n (by decide) (ZB_n (by decide) hB2)
      generalize zI (zI σ2 230 (upd (σ2.1 230) V.length w)) 218 (upd (σ2.1 218) 22 (nI (V.length + 1))) = σ3 at n3 s3 w3 t3 B3 ⊢
      have s3j : ∀ j, j ≠ 22 → σ3.1 218 j = σ2.1 218 j := fun j hj => by rw [s3, upd_n hj]
      have hb3 : RBs σ3 := by
        refine ⟨⟨by rw [t3]; exact hb2.1.1, ?_⟩, by rw [n3 224 (by decide) (by decide)]; exact hb2.2.1, B3⟩
        have K := hb2.1.2
        unfold TOK at K ⊢
        rw [s3j 9 (by decide), s3j 10 (by decide), s3j 11 (by decide), s3j 12 (by decide), n3 224 (by decide) (by decide)]; exact K
      have hG3 : RX σ3.1 tx n i := by
        unfold RX TKS at hG2 ⊢
        rw [s3j 9 (by decide), s3j 10 (by decide), s3j 11 (by decide), s3j 12 (by decide), s3j 13 (by decide), n3 224 (by decide) (by decide)]; exact hG2
      have hr3 : RR σ3 c (2 ^ k) (evs (2 ^ k) (setl (rkI w) W O).2 s0) (w :: V) := RR_wait hc hr2 (by omega) s3j (by rw [s3, upd_s]) w3 n3
      exact pt_gC (pt_zb (vr_adv hN hc hb3 hG3 hr3) (fun _ σ4 h4 => pt_some (fun _ => Or.inr ⟨_, sc, Or.inr ⟨rfl, rfl⟩, h4.1, h4.2.1⟩)))
/-- a whole sum -/
theorem vr_readsSum (hN : 1048576 ≤ N) (hk : k ≤ 10) (hc : c = 220 ∨ c = 232) (hb : RBs σ) (h0 : RG (2 ^ k) s0) (z0 : s0.2.length = 0) (hv : vds (2 ^ k) O 0) (hh : hts O 0 = 0) (hG : RX σ.1 tx n i) (hg : σ.1 218 14 = 0) (hrg : ∀ p, p < 10 → ∀ u, u < 1024 → rb (σ.1 c) (1024 * p) u = (evs (2 ^ k) O s0).1 p u) : Pt (f_X12_readsSum N 218 (nI k) c σ) (fun r => r.2.1 218 14 = 0 → ∃ d : Cv, (Rc (stv tx n (nI k)) (i, 0, [], O) d ∧ stv tx n (nI k) d = some none ∧ ¬ 100 ∈ d.2.2.1) ∧ (RBs r.2 ∧ RX r.2.1 tx n d.1) ∧ RR r.2 c (2 ^ k) (evs (2 ^ k) (setl 1 d.2.2.1 d.2.2.2).2 s0) (setl 1 d.2.2.1 d.2.2.2).1) := by
  have hR := hb.1.1
  have c1 : c ≠ 218 := by rcases hc with rfl | rfl <;> decide
  have eh := evs_H h0 (by rw [z0]; exact hv)
  rw [z0, hh] at eh
  have HI0 : HI (2 ^ k) (i, 0, [], O) := ⟨⟨hv, hh⟩, trivial, Nat.zero_le _⟩
  rw [f_X12_readsSum.eq_1]
  refine pt_pIx (fun τ1 a1 b1 c1 => pt_pIx (fun τ2 a2 b2 c2 => pt_pIx (fun τ3 a3 b3 c3 => pt_pIx (fun σ4 a4 b4 c4 => ?_))))
  have q4 : ∀ a, a ≠ 218 → σ4.1 a = σ.1 a := fun a ha => by rw [b4 a ha, b3 a ha, b2 a ha, b1 a ha]
  have s4 : σ4.1 218 = upd (upd (upd (upd (σ.1 218) 20 (nI (2 ^ k))) 22 0) 23 0) 24 0 := by rw [a4, a3, a2, a1, one11 k (by omega)]
  have t4 : σ4.2 = σ.2 := by rw [c4, c3, c2, c1]
  have B4 : ZB σ4.1 := fun a ha j => by
    by_cases e : a = 218
    · rw [e] at ha; exact absurd ha (by decide)
    · rw [q4 a e]; exact hb.2.2 a ha j
  clear a1 a2 a3 a4 b1 b2 b3 b4 c1 c2 c3 c4
  have s4j : ∀ j, j ≠ 20 → j ≠ 22 → j ≠ 23 → j ≠ 24 → σ4.1 218 j = σ.1 218 j := fun j h1 h2 h3 h4 => by rw [s4, upd_n h4, upd_n h3, upd_n h2, upd_n h1]
  have hb4 : RBs σ4 := by
    refine ⟨⟨by rw [t4]; exact hR, ?_⟩, by rw [q4 224 (by decide)]; exact hb.2.1, B4⟩
    have K := hb.1.2
    unfold TOK at K ⊢
    rw [s4j 9 (by decide) (by decide) (by decide) (by decide), s4j 10 (by decide) (by decide) (by decide) (by decide), s4j 11 (by decide) (by decide) (by decide) (by decide), s4j 12 (by decide) (by decide) (by decide) (by decide), q4 224 (by decide)]; exact K
  have hG4 : RX σ4.1 tx n i := by
    unfold RX TKS at hG ⊢
    rw [s4j 9 (by decide) (by decide) (by decide) (by decide), s4j 10 (by decide) (by decide) (by decide) (by decide), s4j 11 (by decide) (by decide) (by decide) (by decide), s4j 12 (by decide) (by decide) (by decide) (by decide), s4j 13 (by decide) (by decide) (by decide) (by decide), q4 224 (by decide)]; exact hG
  have hr4 : RR σ4 c (2 ^ k) (evs (2 ^ k) O s0) [] := by
    refine ⟨⟨⟨?_, trivial⟩, ?_⟩, ⟨?_, ?_⟩, ?_, ?_⟩
    · rw [s4, upd_n (by decide), upd_n (by decide), upd_s]; rfl
    · rw [s4, upd_s]; rfl
    · rw [s4, upd_n (by decide), upd_s, eh.2]; rfl
    · rw [List.eq_nil_of_length_eq_zero eh.2]; exact trivial
    · intro p hp u hu
      rw [q4 c c1]; exact hrg p hp u hu
    · rw [s4, upd_n (by decide), upd_n (by decide), upd_n (by decide), upd_s]
  have g4 : σ4.1 218 14 = 0 := by rw [s4j 14 (by decide) (by decide) (by decide) (by decide)]; exact hg
  -- the end of a fault
  have bad98 : ∀ τ : zS, ¬ τ.1 218 14 = 0 → Pt (J_X12_readsSum_98 N 218 τ) (fun r => r.2.1 218 14 = 0 → ∃ d : Cv, (Rc (stv tx n (nI k)) (i, 0, [], O) d ∧ stv tx n (nI k) d = some none ∧ ¬ 100 ∈ d.2.2.1) ∧ (RBs r.2 ∧ RX r.2.1 tx n d.1) ∧ RR r.2 c (2 ^ k) (evs (2 ^ k) (setl 1 d.2.2.1 d.2.2.2).2 s0) (setl 1 d.2.2.1 d.2.2.2).1) := fun τ hb9 => by
    rw [J_X12_readsSum_98.eq_1]
    exact pt_gC (pt_zbq vr_good (fun v hv => pt_if (fun z => pt_some (fun y => absurd y hb9)) (fun z => absurd (hv.2 z) hb9)))
  have bad86 : ∀ τ : zS, ¬ τ.1 218 14 = 0 → Pt (J_X12_readsSum_86 N 218 τ) (fun r => r.2.1 218 14 = 0 → ∃ d : Cv, (Rc (stv tx n (nI k)) (i, 0, [], O) d ∧ stv tx n (nI k) d = some none ∧ ¬ 100 ∈ d.2.2.1) ∧ (RBs r.2 ∧ RX r.2.1 tx n d.1) ∧ RR r.2 c (2 ^ k) (evs (2 ^ k) (setl 1 d.2.2.1 d.2.2.2).2 s0) (setl 1 d.2.2.1 d.2.2.2).1) := fun τ hb9 => by
    rw [J_X12_readsSum_86.eq_1]
    refine pt_gC (pt_zbq vr_isOpen0 (fun v _ => pt_if (fun _ => bad98 τ hb9) (fun _ => pt_gC (pt_zb (errs_bad hb9) (fun _ υ h => ?_)))))
    have h : υ = τ := h
    rw [h]; exact bad98 τ hb9
  refine pt_lp (fun y : Int32 × Int32 × zS => y.2.2.1 218 14 = 0 → ∃ d : Cv, Rc (stv tx n (nI k)) (i, 0, [], O) d ∧ (RBs y.2.2 ∧ RX y.2.2.1 tx n d.1) ∧ RR y.2.2 c (2 ^ k) (evs (2 ^ k) d.2.2.2 s0) d.2.2.1 ∧ ((¬ y.2.1 = 0 ∧ (y.1 = 0 ↔ d.2.1 = 0) ∧ (d.2.1 = 0 ∨ d.2.1 = 1)) ∨ (y.2.1 = 0 ∧ stv tx n (nI k) d = some none))) (fun again y hI ih => ?_) N _ (fun _ => ⟨(i, 0, [], O), Rc.rf, ⟨hb4, hG4⟩, hr4, Or.inl ⟨(fun z => absurd (show (1 : Int32) = 0 from z) (by decide)), ⟨fun _ => rfl, fun _ => rfl⟩, Or.inl rfl⟩⟩)
  obtain ⟨x3, x4, τ⟩ := y
  rw [F_X12_readsSum_27.eq_1]
  refine pt_gC (pt_zbq vr_good (fun v hv => pt_if (fun z => bad86 τ (hv.1 z)) (fun z => ?_)))
  have g := hv.2 z
  obtain ⟨⟨i', b, V, Q⟩, rc, ⟨hb5, hG5⟩, hr5, alt⟩ := hI g
  have hb5 : RBs τ := hb5
  have R9 : RF τ.2.2 := hb5.1.1
  have hG5 : RX τ.1 tx n i' := hG5
  have hr5 : RR τ c (2 ^ k) (evs (2 ^ k) Q s0) V := hr5
  have HD := Rc_H hk HI0 rc
  refine pt_if (fun q => ?_) (fun q => ?_)
  · -- the end
    have q : x4 = 0 := q
    obtain ⟨_, sn⟩ := alt.resolve_left (fun y => y.1 q)
    have b1 : b = 1 := (stv_e1 sn).1
    subst b1
    have hS : HS (2 ^ k) V Q := ⟨⟨HD.1.1, HD.1.2⟩, HD.2⟩
    have L := HS_len hk h0 z0 hS
    rw [J_X12_readsSum_86.eq_1]
    refine pt_gC (pt_zbq (vr_isOpen (W := V) R9 hr5.1.1.1 hr5.1.1.2 (by omega)) (fun w hw => pt_if (fun y => ?_) (fun y => ?_)))
    · rw [J_X12_readsSum_98.eq_1]
      refine pt_gC (pt_zbq vr_good (fun v hv => pt_if (fun z => absurd g (hv.1 z)) (fun _ => ?_)))
      refine pt_gC (pt_zb (vr_settlesTo hN hk (by decide) R9 hb5.2.2 hc h0 z0 hS hr5) (fun _ σ6 h6 => pt_some (fun _ => ⟨(i', 1, V, Q), ⟨rc, sn, hw.1 y⟩, ⟨hb5.f h6.2.1 h6.1.2, h6.2.1.X hG5⟩, h6.1.1⟩)))
    · exact pt_gC (pt_zb (vr_errs hN hb5 (by decide)) (fun _ υ h => bad98 υ h))
  · have alt := alt.resolve_right (fun y => q y.1)
    refine pt_if (fun q3 => ?_) (fun q3 => ?_)
    · have b0 : b = 0 := alt.2.1.mp q3
      subst b0
      refine pt_gC (pt_zb (vr_readsPart hN hk hc hb5 h0 z0 HD hG5 g hr5) (fun v15 σ16 P => ih (v15, x4, σ16) (fun y => ?_)))
      obtain ⟨d, rc2, b01, vb, hbx, hr6, _⟩ := P y
      exact ⟨d, rc.tr rc2, hbx, hr6, Or.inl ⟨q, vb, b01⟩⟩
    · have b1 : b = 1 := alt.2.2.resolve_left (fun y => q3 (alt.2.1.mpr y))
      subst b1
      have hS : HS (2 ^ k) V Q := ⟨⟨HD.1.1, HD.1.2⟩, HD.2⟩
      refine pt_gC (pt_zb (vr_goesBehind hN hk hc hb5 h0 z0 hS hG5 g hr5) (fun v17 σ18 P => pt_if (fun e => ?_) (fun e => ?_)))
      · rw [J_X12_readsSum_69.eq_1]
        refine pt_if (fun e1 => absurd (e.symm.trans e1) (by decide)) (fun _ => ih (1, 1, σ18) (fun y => ?_))
        rcases P y with ⟨m1, _, _⟩ | ⟨d, sd, vb, hbx, hr6⟩
        · exact absurd (e.symm.trans m1) (by decide)
        · have vb := vb.resolve_right (fun w => absurd (e.symm.trans w.1) (by decide))
          have hd : d.2.1 = 1 := vb.2
          exact ⟨d, rc.sn sd, hbx, hr6, Or.inl ⟨(fun z => absurd (show (1 : Int32) = 0 from z) (by decide)), ⟨fun w => absurd (show (1 : Int32) = 0 from w) (by decide), fun w => absurd (hd.symm.trans w) (by decide)⟩, Or.inr hd⟩⟩
      · rw [J_X12_readsSum_69.eq_1]
        refine pt_if (fun e1 => ih (0, 0, σ18) (fun y => ?_)) (fun e1 => ih (0, 1, σ18) (fun y => ?_))
        · rcases P y with ⟨_, sn, es⟩ | ⟨d, sd, vb, hbx, hr6⟩
          · have es : σ18 = τ := es
            rw [es]
            exact ⟨(i', 1, V, Q), rc, ⟨hb5, hG5⟩, hr5, Or.inr ⟨rfl, sn⟩⟩
          · rcases vb with w | w
            · exact absurd w.1 e
            · exact absurd (w.1.symm.trans e1) (by decide)
        · rcases P y with ⟨m1, _, _⟩ | ⟨d, sd, vb, hbx, hr6⟩
          · exact absurd m1 e1
          · have vb := vb.resolve_left (fun w => e w.1)
            have hd : d.2.1 = 0 := vb.2
            exact ⟨d, rc.sn sd, hbx, hr6, Or.inl ⟨(fun z => absurd (show (1 : Int32) = 0 from z) (by decide)), ⟨fun _ => hd, fun _ => rfl⟩, Or.inl hd⟩⟩
end RSZ
end Zq14_4
section Zq14_5
/-! ===== the steps of a world's lines ===== -/
section WSTEP
variable {N : Nat} {σ τ υ : zS} {t : Nat → Int32} {n c i B : Nat} {m : Int32} {O : List zOp} {g : Nat → Int32}
theorem CA_un {a : Int32} {i j : Nat} (h : CA a t n c i) (h2 : CA a t n c j) : i = j := by
  obtain ⟨k, e, _, rfl⟩ := h
  obtain ⟨l, e2, _, rfl⟩ := h2
  rw [show k = l by omega]
/-- the steps behind a line's sum -/
noncomputable def sO (t : Nat → Int32) (n i : Nat) (m p : Int32) (O : List zOp) : List zOp := by
  classical exact (if h : ∃ d : Cv, (Rc (stv t n m) (i, 0, [], O) d ∧ stv t n m d = some none) ∧ ¬ 100 ∈ d.2.2.1 then (setl 1 h.choose.2.2.1 h.choose.2.2.2).2 ++ [(6, p)] else O)
theorem sO_d {p : Int32} {d : Cv} (h : Rc (stv t n m) (i, 0, [], O) d) (h2 : stv t n m d = some none) (h3 : ¬ 100 ∈ d.2.2.1) : sO t n i m p O = (setl 1 d.2.2.1 d.2.2.2).2 ++ [(6, p)] := by
  have hx : ∃ d : Cv, (Rc (stv t n m) (i, 0, [], O) d ∧ stv t n m d = some none) ∧ ¬ 100 ∈ d.2.2.1 := ⟨d, ⟨h, h2⟩, h3⟩
  have e : hx.choose = d := Rc.un hx.choose_spec.1.1 h (fun x q => by rw [hx.choose_spec.1.2] at q; cases q) (fun x q => by rw [h2] at q; cases q)
  unfold sO
  rw [dif_pos hx, e]
theorem sO_V {k : Nat} {p : Int32} (hk : k ≤ 10) (hv : vds (2 ^ k) O 0) (hh : hts O 0 = 0) (hp : 0 ≤ p.toInt ∧ p.toInt < 10) : vds (2 ^ k) (sO t n i (nI k) p O) 0 ∧ hts (sO t n i (nI k) p O) 0 = 0 := by
  by_cases hx : ∃ d : Cv, (Rc (stv t n (nI k)) (i, 0, [], O) d ∧ stv t n (nI k) d = some none) ∧ ¬ 100 ∈ d.2.2.1
  · obtain ⟨d, ⟨h1, h2⟩, h3⟩ := hx
    rw [sO_d h1 h2 h3]
    have E := end_H (t := t) (n := n) (Rc_H (c := (_, 0, [], O)) hk ⟨⟨hv, hh⟩, trivial, Nat.zero_le _⟩ h1) (stv_e1 h2).1 h3
    refine ⟨vds_1 E.2.1 ?_, ?_⟩
    · rw [E.2.2]
      exact Or.inr (Or.inr (Or.inr (Or.inr (Or.inr (Or.inr ⟨rfl, hp, Nat.le_refl _⟩)))))
    · rw [hts_1]; exact nh_p.2.2.2.2.2.2
  · have : sO t n i (nI k) p O = O := by unfold sO; rw [dif_neg hx]
    rw [this]; exact ⟨hv, hh⟩
noncomputable def oL (t : Nat → Int32) (n i : Nat) (g : Nat → Int32) (O : List zOp) : List zOp := by
  classical exact (if g 1 = 0 ∨ ¬ isW t n i 14 then O else sO t n (tkE t n (tkE t n (tkE t n i))) (g 0) (nvI t n (tkE t n i)) O)
theorem oL_n (h : g 1 = 0 ∨ ¬ isW t n i 14) : oL t n i g O = O := if_pos h
theorem oL_l (h : ¬ g 1 = 0) (h2 : isW t n i 14) : oL t n i g O = sO t n (tkE t n (tkE t n (tkE t n i))) (g 0) (nvI t n (tkE t n i)) O := if_neg (fun z => z.elim h (fun z => z h2))
abbrev LW2 : Type := LC × List zOp
noncomputable def stW (t : Nat → Int32) (n : Nat) (c : LW2) : Option (Option LW2) := (stL t n c.1).map (fun o => o.map (fun d => (d, oL t n c.1.1 c.1.2.1 c.2)))
theorem stW_s {a b : LC} (h : stL t n a = some (some b)) : stW t n (a, O) = some (some (b, oL t n a.1 a.2.1 O)) := by
  unfold stW
  show (stL t n a).map _ = _
  rw [h]; rfl
theorem stW_i {a b : LW2} (h : stW t n a = some (some b)) : stL t n a.1 = some (some b.1) ∧ b.2 = oL t n a.1.1 a.1.2.1 a.2 := by
  obtain ⟨o, h1, h2⟩ := Option.map_eq_some_iff.mp h
  obtain ⟨d, h3, h4⟩ := Option.map_eq_some_iff.mp h2
  rw [h1, h3, ← h4]
  exact ⟨rfl, rfl⟩
theorem stW_e {a : LC} (h : stL t n a = some none) : stW t n (a, O) = some none := by
  unfold stW
  show (stL t n a).map _ = _
  rw [h]; rfl
theorem itW_L : ∀ {k : Nat} {a b : LW2}, itG (stW t n) k a = some b → itG (stL t n) k a.1 = some b.1
  | 0, a, b, h => by rw [show a = b from Option.some.inj h]; rfl
  | k + 1, a, b, h => by
    have h : (stW t n a).bind (fun o => o.bind (fun c1 => itG (stW t n) k c1)) = some b := h
    obtain ⟨o, ho, h⟩ := Option.bind_eq_some_iff.mp h
    obtain ⟨c1, hc, h⟩ := Option.bind_eq_some_iff.mp h
    rw [hc] at ho
    show (stL t n a.1).bind (fun o => o.bind (fun c1 => itG (stL t n) k c1)) = some b.1
    rw [(stW_i ho).1]
    exact itW_L h
theorem Rc_L {a b : LW2} (h : Rc (stW t n) a b) : Rc (stL t n) a.1 b.1 := by
  obtain ⟨k, hk⟩ := h
  exact ⟨k, itW_L hk⟩
/-- steps of a world fit -/
def VW (c : LW2) : Prop := (c.1.2.1 1 = 0 → c.2 = []) ∧ vds (2 ^ (c.1.2.1 0).toInt.toNat) c.2 0 ∧ hts c.2 0 = 0
theorem oL_V {i j sg sg' : Nat} {g g' : Nat → Int32} (hL : LI g) (hv : VW ((i, g, sg), O)) (eb : bdR t n i g sg = some (j, g', sg')) : vds (2 ^ (g' 0).toInt.toNat) (oL t n i g O) 0 ∧ hts (oL t n i g O) 0 = 0 := by
  by_cases h1 : g 1 = 0
  · rw [oL_n (Or.inl h1), show O = [] from hv.1 h1]; exact ⟨trivial, rfl⟩
  have eb0 : lnR t n i g sg = some (j, g', sg') := by
    unfold bdR at eb
    rw [if_neg h1] at eb; exact eb
  have hv0 : vds (2 ^ (g 0).toInt.toNat) O 0 ∧ hts O 0 = 0 := hv.2
  by_cases w14 : isW t n i 14
  · have n12 : ¬ isW t n i 12 := fun z => absurd (isW_u (a := 1) (b := 3) (by decide) (by decide) z w14) (by decide)
    have n13 : ¬ isW t n i 13 := fun z => absurd (isW_u (a := 2) (b := 3) (by decide) (by decide) z w14) (by decide)
    rw [lnR_l n12 n13 w14] at eb0
    obtain ⟨p, hp, e⟩ := Option.map_eq_some_iff.mp eb0
    have eg : g = g' := congrArg (fun z : LC => z.2.1) e
    have ok : nOK t n (tkE t n i) 0 9 := by
      unfold letR at hp
      split at hp
      · rename_i w; exact w.1
      · cases hp
    have pb := nvI_b ok
    simp only [Int32.reduceToInt] at pb
    have hb := hL.1.1.1
    obtain ⟨k, hk, e0⟩ := znI (x := g 0) (m := 11) hb.1 (by omega)
    rw [← eg, oL_l h1 w14]
    rw [e0] at hv0 ⊢
    rw [iN (by omega)] at hv0 ⊢
    exact sO_V (by omega) hv0.1 hv0.2 ⟨pb.1, by omega⟩
  · have e0 : g' 0 = g 0 := by
      by_cases w12 : isW t n i 12
      · rw [lnR_w w12] at eb0; exact (LI_wt hL eb0).2.2
      · by_cases w13 : isW t n i 13
        · by_cases e2 : g 2 = g 0
          · rw [lnR_m w12 w13 e2] at eb0; cases eb0
          · rw [lnR_e w12 w13 e2] at eb0; exact (LI_ed hL e2 eb0).2.2
        · rw [lnR_z w12 w13 w14] at eb0; cases eb0
    rw [oL_n (Or.inr w14), e0]; exact hv0
def HW (n : Nat) (a : LW2) : Prop := (LI a.1.2.1 ∧ a.1.1 ≤ n) ∧ (0 ≤ (a.1.2.1 1).toInt ∧ (a.1.2.1 1).toInt ≤ (a.1.1 : Int)) ∧ VW a
theorem HW_0 {G : Nat → Int32} (hG : ∀ j, j < 43 → G j = 0) : HW n ((0, G, 0), []) := by
  refine ⟨⟨LI_0 hG, Nat.zero_le _⟩, ?_, fun _ => rfl, trivial, rfl⟩
  show 0 ≤ (G 1).toInt ∧ (G 1).toInt ≤ ((0 : Nat) : Int)
  rw [hG 1 (by decide)]; decide
theorem HW_s {a b : LW2} (h6 : n ≤ 600) (h : HW n a) (hs : stW t n a = some (some b)) : HW n b := by
  obtain ⟨⟨i, g, sg⟩, O⟩ := a
  obtain ⟨⟨hL, le⟩, h1, hv⟩ := h
  have hL : LI g := hL
  have le : i ≤ n := le
  have h1 : 0 ≤ (g 1).toInt ∧ (g 1).toInt ≤ (i : Int) := h1
  obtain ⟨s1, s2⟩ := stW_i hs
  have s1 : stL t n (i, g, sg) = some (some b.1) := s1
  have s2 : b.2 = oL t n i g O := s2
  by_cases k0 : tkK t n i = 0
  · rw [stL_e (c := (i, g, sg)) k0] at s1; cases s1
  cases eb : bdR t n i g sg with
  | none => rw [stL_n (c := (i, g, sg)) k0 eb] at s1; cases s1
  | some d =>
    rw [stL_s (c := (i, g, sg)) k0 eb] at s1
    split at s1
    · rename_i k59
      obtain ⟨j, g', sg'⟩ := d
      have k59 : tkK t n j = 59 := k59
      have e1 : b.1 = (tkE t n j, upd g' 1 (g' 1 + 1), sg') := (Option.some.inj (Option.some.inj s1)).symm
      obtain ⟨F1, g1, g0⟩ := LI_bd hL eb
      have ge := bdR_ge le eb
      have gt := tk_gt ge.2 (show ¬ tkK t n j = 0 by rw [k59]; decide)
      have le2 := (tk_le (t := t) ge.2).2.2
      have w1 : (g' 1 + 1).toInt = (g 1).toInt + 1 := by rw [g1]; exact a1_ (by omega)
      have V := oL_V hL hv eb
      unfold HW VW
      rw [e1, s2]
      show (LI (upd g' 1 (g' 1 + 1)) ∧ tkE t n j ≤ n) ∧ (0 ≤ (upd g' 1 (g' 1 + 1) 1).toInt ∧ (upd g' 1 (g' 1 + 1) 1).toInt ≤ (tkE t n j : Int)) ∧ (upd g' 1 (g' 1 + 1) 1 = 0 → oL t n i g O = []) ∧ vds (2 ^ (upd g' 1 (g' 1 + 1) 0).toInt.toNat) (oL t n i g O) 0 ∧ hts (oL t n i g O) 0 = 0
      have nz : ¬ g' 1 + 1 = 0 := nz_of (by omega)
      rw [upd_s, upd_n (by decide)]
      exact ⟨⟨LI_1 F1 nz g0, le2⟩, by omega, fun z => absurd z nz, V⟩
    · cases s1
theorem HW_k (h6 : n ≤ 600) : ∀ {k : Nat} {a b : LW2}, HW n a → itG (stW t n) k a = some b → HW n b
  | 0, a, b, h, e => by rw [← show a = b from Option.some.inj e]; exact h
  | k + 1, a, b, h, e => by
    have e : (stW t n a).bind (fun o => o.bind (fun c1 => itG (stW t n) k c1)) = some b := e
    obtain ⟨o, ho, e⟩ := Option.bind_eq_some_iff.mp e
    obtain ⟨c1, hc, e⟩ := Option.bind_eq_some_iff.mp e
    rw [hc] at ho
    exact HW_k h6 (HW_s h6 h ho) e
theorem HW_R {a b : LW2} (h6 : n ≤ 600) (h : HW n a) (hr : Rc (stW t n) a b) : HW n b := by
  obtain ⟨k, hk⟩ := hr
  exact HW_k h6 h hk
/-! the class -/
theorem Sk.o {k : Nat} {r : Nat → Int32} (hk : k ≠ 57 ∧ k ≠ 58 ∧ k ≠ 59) (h : Sk σ τ) : Sk σ (zI τ k r) := ⟨h.1, ⟨(zI_n hk.2.1.symm).trans h.2.1.1, (zI_n hk.2.2.symm).trans h.2.1.2⟩, by rw [zI_n hk.1.symm]; exact h.2.2⟩
theorem sk_passed (hR : RF σ.2.2) : Px (f_X5_passed N 57 σ) σ (fun _ => True) := by
  rw [f_X5_passed.eq_1]
  exact pt_gI (pt_if (fun _ => pt_some ⟨rfl, trivial⟩) (fun _ => pt_gR (v := 62) (hR 57 11 rfl) (pt_gI (pt_aI (pt_some ⟨rfl, trivial⟩)))))
theorem b57 (hB : B = 2 ∨ B = 28) {a : Nat} (ha : a ≤ 4) : B + a ≠ 57 ∧ B + a ≠ 58 ∧ B + a ≠ 59 := by omega
theorem sk_readNames (hB : B = 2 ∨ B = 28) (hR : RF σ.2.2) : Pt (f_X5_readNames N 57 B σ) (fun r => Sk σ r.2) := by
  rw [f_X5_readNames.eq_1]
  refine pt_gC (pt_zb (sk_passNumber hR) (fun v τ h => pt_if (fun _ => pt_rZ h) (fun _ => ?_)))
  have h : Sk σ τ := h
  refine pt_gC (pt_zbq (sk_passed (h.R hR)) (fun w _ => pt_pI (pt_gI (pt_pI (pt_rZ ?_)))))
  exact (h.u (by decide)).o (b57 hB (a := 0) (by decide))
theorem sk_w83 {x2 y0 : Int32} (hB : B = 2 ∨ B = 28) (hR : RF σ.2.2) : Pt (J_X5_readWeight_83 N 57 B x2 y0 σ) (fun r => Sk σ r.2) := by
  rw [J_X5_readWeight_83.eq_1]
  refine pt_gC (pt_zb (sk_advance hR) (fun v τ h => pt_if (fun _ => pt_rZ h.2) (fun _ => ?_)))
  have h : Sk σ τ := h.2
  refine pt_gC (pt_zb (sk_passNumber (h.R hR)) (fun w υ h2 => pt_if (fun _ => pt_rZ (h.tr h2)) (fun _ => ?_)))
  have h2 : Sk σ υ := h.tr h2
  refine pt_gR (v := B + 3) (rB hB (h2.R hR)).2.2.1 (pt_gC (pt_zbq (sk_passed (h2.R hR)) (fun w _ => pt_s14 (pt_rZ ?_))))
  exact h2.o (b57 hB (by decide))
theorem sk_readWeight (hB : B = 2 ∨ B = 28) (hR : RF σ.2.2) : Pt (f_X5_readWeight N 57 B σ) (fun r => Sk σ r.2) := by
  have bad : ∀ x1 : Int32, Pt (zl (gC 5 57) fun _ => zb (f_X5_fail N 57 x1 σ) fun v24 σ25 => rZ v24 σ25) (fun r => Sk σ r.2) := fun _ => pt_gC (pt_zb (sk_fail hR) (fun v τ h => pt_rZ h))
  rw [f_X5_readWeight.eq_1]
  refine pt_gR (v := 61) (hR 57 10 rfl) (pt_gI (pt_aI (pt_if (fun _ => ?_) (fun _ => bad 1))))
  refine pt_gR (v := 64) (hR 57 13 rfl) (pt_gI (pt_aI (pt_gR (v := 63) (hR 57 12 rfl) (pt_gI (pt_aI (pt_if (fun _ => ?_) (fun _ => bad 1)))))))
  refine pt_gR (v := σ.2.2 57 5) rfl (pt_gR (v := 63) (hR 57 12 rfl) (pt_gI (pt_aI (pt_aI (pt_if (fun _ => sk_w83 hB hR) (fun _ => pt_gI (pt_if (fun _ => sk_w83 hB hR) (fun _ => pt_if (fun _ => sk_w83 hB hR) (fun _ => sk_w83 hB hR)))))))))
theorem sk_addEdge {x1 x2 : Int32} (hB : B = 2 ∨ B = 28) (hR : RF σ.2.2) : Pt (f_X10_addEdge N B x1 x2 σ) (fun r => Sk σ r.2) := by
  rw [f_X10_addEdge.eq_1]
  refine pt_gI (pt_if (fun _ => pt_some Sk.rf) (fun _ => pt_gI (pt_if (fun _ => pt_some Sk.rf) (fun _ => ?_))))
  refine pt_gR (v := B + 1) (rB hB hR).1 (pt_gI (pt_s14 (pt_gR (v := B + 2) (rB hB hR).2.1 (pt_gI (pt_s14 (pt_gI (pt_pI (pt_some ?_))))))))
  exact ((Sk.rf.o (b57 hB (by decide))).o (b57 hB (by decide))).o (b57 hB (a := 0) (by decide))
theorem sk_e49 {x2 : Int32} (hB : B = 2 ∨ B = 28) (hR : RF σ.2.2) : Pt (J_X5_readEdge_49 N 57 B x2 σ) (fun r => Sk σ r.2) := by
  rw [J_X5_readEdge_49.eq_1]
  refine pt_gC (pt_zb (sk_passNumber hR) (fun v τ h => pt_if (fun _ => pt_rZ h) (fun _ => ?_)))
  have h : Sk σ τ := h
  refine pt_gC (pt_zbq (sk_passed (h.R hR)) (fun w _ => pt_gC (pt_zb (sk_addEdge hB (h.R hR)) (fun _ υ h2 => pt_rZ (h.tr h2)))))
theorem sk_readEdge (hB : B = 2 ∨ B = 28) (hR : RF σ.2.2) : Pt (f_X5_readEdge N 57 B σ) (fun r => Sk σ r.2) := by
  rw [f_X5_readEdge.eq_1]
  refine pt_gC (pt_zb (sk_passNumber hR) (fun v τ h => pt_if (fun _ => pt_rZ h) (fun _ => ?_)))
  have h : Sk σ τ := h
  have R1 := h.R hR
  refine pt_gC (pt_zbq (sk_passed R1) (fun w _ => pt_gR (v := 61) (R1 57 10 rfl) (pt_gI (pt_aI (pt_if (fun _ => ?_) (fun _ => pt_w (sk_e49 hB R1) (fun r h2 => h.tr h2)))))))
  refine pt_gR (v := 62) (R1 57 11 rfl) (pt_gI (pt_aI (pt_if (fun _ => ?_) (fun _ => pt_w (sk_e49 hB R1) (fun r h2 => h.tr h2)))))
  exact pt_gC (pt_zb (sk_fail R1) (fun v υ h2 => pt_rZ (h.tr h2)))
/-- the steps behind a line -/
def LY (t : Nat → Int32) (n c : Nat) (O O' : List zOp) (ρ : zS) (r : Int32 × zS) : Prop := ¬ r.1 = 0 → (r.2.2 = ρ.2 ∧ St r.2 O') ∧ (O' = O ∨ ∃ j, CA (r.2.1 57 9) t n c j ∧ O'.length ≤ j)
theorem LY_0 {O' : List zOp} {ρ : zS} : LY t n c O O' ρ (0, τ) := fun z => absurd rfl z
theorem vy_211 {x5 : Int32} {O' : List zOp} {ρ : zS} (hR : RF σ.2.2) (H : ¬ x5 = 0 → (σ.2 = ρ.2 ∧ St σ O') ∧ (O' = O ∨ (CB σ t n c ∧ ∃ j, CA (σ.1 57 9) t n c j ∧ O'.length ≤ j))) : Pt (J_X5_readLine_211 N 57 x5 σ) (LY t n c O O' ρ) := by
  rw [J_X5_readLine_211.eq_1]
  refine pt_if (fun _ => pt_rZ LY_0) (fun q => ?_)
  obtain ⟨⟨e, hs⟩, alt⟩ := H q
  rcases alt with alt | ⟨hC, j, hA, hl⟩
  · refine pt_gC (pt_zb (sk_pass hR) (fun v τ h => pt_if (fun _ => pt_rZ LY_0) (fun _ => pt_rZ (fun _ => ?_))))
    have h : Sk σ τ := h
    exact ⟨⟨h.1.trans e, h.k hs⟩, Or.inl alt⟩
  · refine pt_gC (pt_zb (pt_and (pt_ok (xs_pass hC hA (by decide))) (sk_pass hR)) (fun v τ h => pt_if (fun _ => pt_rZ LY_0) (fun q1 => pt_rZ (fun _ => ?_))))
    obtain ⟨⟨_, h1⟩, s1⟩ := h
    have s1 : Sk σ τ := s1
    have h1 := h1.resolve_right (fun z => q1 z.1)
    have le := tk_le (t := t) (CA_le hA)
    exact ⟨⟨s1.1.trans e, s1.k hs⟩, Or.inr ⟨_, h1.2.2, by omega⟩⟩
theorem vy_z {O' : List zOp} {ρ : zS} : Pt (J_X5_readLine_211 N 57 0 σ) (LY t n c O O' ρ) := by
  rw [J_X5_readLine_211.eq_1]
  exact pt_if (fun _ => pt_rZ LY_0) (fun q => absurd rfl q)
theorem vy_92 {x2 : Int32} (hN : 1048576 ≤ N) (hB : B = 2 ∨ B = 28) (hC : CB σ t n c) (hA : CA (σ.1 57 9) t n c i) (h7 : σ.1 57 7 = g 0) (hs : St σ O) (hl : O.length ≤ i) (hk : tkK t n i = 1) (hx : x2 = wv t n i) (hx4 : 1 ≤ x2.toInt ∧ x2.toInt ≤ 4) (hf : g 1 = 0 ↔ x2 = 1) : Pt (J_X5_readLine_92 N 57 B x2 σ) (LY t n c O (oL t n i g O) σ) := by
  have gt := tk_gt (CA_le hA) (show ¬ tkK t n i = 0 by rw [hk]; decide)
  have h600 := hC.2.1.1.2.1
  rw [J_X5_readLine_92.eq_1]
  refine pt_gC (pt_zb (pt_and (pt_ok (xs_pass hC hA (by decide))) (sk_pass hC.1.1)) (fun v σ1 h1 => ?_))
  obtain ⟨⟨f1, h1⟩, s1⟩ := h1
  have f1 : F8 σ σ1 := f1
  have s1 : Sk σ σ1 := s1
  have h1 := h1.resolve_right (fun z => z.2 (ck_w.mpr hk))
  have A1 : CA (σ1.1 57 9) t n c (tkE t n i) := h1.2.2
  have C1 := CB_fr f1.1 hC
  have R1 := C1.1.1
  have row := CA_row C1.2.1 A1
  have hs1 := s1.k hs
  refine pt_gR (v := 62) (R1 57 11 rfl) (pt_gI (pt_aI ?_))
  have eo : ∀ y : Int32, ¬ y = 4 → x2 = y → oL t n i g O = O := fun y z e => oL_n (Or.inr (fun w => z (e.symm.trans (hx.trans ((wv_iff (w := 3) (by decide)).mpr w)))))
  have same : ∀ {x5 : Int32} {τ : zS}, Sk σ1 τ → oL t n i g O = O → Pt (J_X5_readLine_211 N 57 x5 τ) (LY t n c O (oL t n i g O) σ) := fun {x5 τ} h e => by
    rw [e]
    exact vy_211 (h.R R1) (fun _ => ⟨⟨h.1.trans s1.1, h.k hs1⟩, Or.inl rfl⟩)
  refine pt_if (fun q => pt_gC (pt_zb (sk_readNames hB R1) (fun v τ h => same h (eo 1 (by decide) q)))) (fun q1 => ?_)
  refine pt_if (fun q => pt_gC (pt_zb (sk_readWeight hB R1) (fun v τ h => same h (eo 2 (by decide) q)))) (fun q2 => ?_)
  refine pt_if (fun q => pt_gC (pt_zb (sk_readEdge hB R1) (fun v τ h => same h (eo 3 (by decide) q)))) (fun q3 => ?_)
  have x4 : x2 = 4 := by
    apply Int32.toInt_inj.mp
    have a1 : x2.toInt ≠ 1 := fun z => q1 (Int32.toInt_inj.mp z)
    have a2 : x2.toInt ≠ 2 := fun z => q2 (Int32.toInt_inj.mp z)
    have a3 : x2.toInt ≠ 3 := fun z => q3 (Int32.toInt_inj.mp z)
    simp only [Int32.reduceToInt]
    omega
  have w14 : isW t n i 14 := (wv_iff (w := 3) (by decide)).mp (hx.symm.trans x4)
  have g1 : ¬ g 1 = 0 := fun z => q1 (hf.mp z)
  rw [oL_l g1 w14]
  refine pt_gC (pt_zb (pt_and (pt_ok (xs_passNumber C1 A1 (by decide))) (sk_passNumber R1)) (fun v2 σ2 h2 => ?_))
  obtain ⟨⟨f2, h2⟩, s2⟩ := h2
  have f2 : F8 σ1 σ2 := f2
  have s2 : Sk σ1 σ2 := s2
  have R2 := s2.R R1
  refine pt_if (fun _ => vy_z) (fun q => ?_)
  obtain ⟨_, ⟨ok, A2⟩, _, _⟩ := h2.resolve_right (fun z => q z.1)
  have A2 : CA (σ2.1 57 9) t n c (tkE t n (tkE t n i)) := A2
  have ep : σ1.1 62 (σ1.1 57 9).toInt.toNat = nvI t n (tkE t n i) := by
    apply nv_eq
    have z := row.2.1 ok.1
    have z : (σ1.1 62 (σ1.1 57 9).toInt.toNat).toInt = min 1000000 (Nv t n (tkF t n (tkE t n i)) 0 : Int) := z
    have b := ok.2.2
    simp only [Int32.reduceToInt] at b
    unfold nv5
    rw [z]
    omega
  have F2 := f1.tr f2
  have C2 := CB_fr F2.1 hC
  refine pt_gC (pt_zb (pt_and (pt_ok (xs_pass C2 A2 (by decide))) (sk_pass R2)) (fun v3 σ3 h3 => ?_))
  obtain ⟨⟨f3, h3⟩, s3⟩ := h3
  have f3 : F8 σ2 σ3 := f3
  have s3 : Sk σ2 σ3 := s3
  have S3 := (s1.tr s2).tr s3
  have R3 := s3.R R2
  refine pt_if (fun _ => vy_z) (fun q => ?_)
  have h3 := h3.resolve_right (fun z => q z.1)
  have A3 : CA (σ3.1 57 9) t n c (tkE t n (tkE t n (tkE t n i))) := h3.2.2
  have F3 := F2.tr f3
  have C3 := CB_fr F3.1 hC
  have l2 := (tk_le (t := t) (CA_le A1))
  have l3 := (tk_le (t := t) (CA_le A2))
  refine pt_gC (pt_zb ((csumv_all (m := g 0) hN 24).1 (tkE t n (tkE t n (tkE t n i))) [] O 0 σ3 ⟨⟨C3, A3, F3.1.2.2.trans h7⟩, ⟨S3.k hs, by omega⟩, rfl, by decide⟩ (Or.inl rfl)) (fun v4 σ4 h4 => ?_))
  refine pt_if (fun _ => vy_z) (fun q4 => ?_)
  obtain ⟨j, V, Q, O1, ⟨rc, sl, ncb⟩, A4, ⟨t4, l4⟩, F4, e4⟩ := h4 q4
  have A4 : CA (σ4.1 57 9) t n c j := A4
  have t4 : St σ4 O1 := t4
  have F4 : Fr σ3 σ4 := F4
  have e4 : σ4.2 = σ3.2 := e4
  have C4 := CB_fr F4 C3
  have j6 := CA_le A4
  refine pt_gC (pt_zb (pt_and (pt_ok (xs_emit C4)) (v_emit C4.1.1 t4 (by omega))) (fun v5 σ5 h5 => ?_))
  obtain ⟨⟨v51, f5⟩, e5, t5⟩ := h5
  have v51 : v5 = 1 := v51
  have f5 : F9 σ4 σ5 := f5
  have e5 : σ5.2 = σ4.2 := e5
  have C5 := CB_fr f5.1.1 C4
  refine pt_if (fun q => absurd (v51.symm.trans q) (by decide)) (fun _ => ?_)
  have n100 : ¬ 100 ∈ V := fun z => by
    have := (setl_100 (r := 1) (by decide) V Q).mpr z
    rw [sl] at this
    exact absurd this List.not_mem_nil
  have es : sO t n (tkE t n (tkE t n (tkE t n i))) (g 0) (nvI t n (tkE t n i)) O = O1 ++ [(6, nvI t n (tkE t n i))] := by
    rw [sO_d rc (stv_e ncb (fun z => n100 z.2)) n100]
    show (setl 1 V Q).2 ++ _ = _
    rw [sl]
  rw [es]
  rw [ep] at t5
  refine vy_211 C5.1.1 (fun _ => ⟨⟨e5.trans (e4.trans S3.1), t5⟩, Or.inr ⟨C5, j, by rw [f5.2]; exact A4, ?_⟩⟩)
  rw [List.length_append, List.length_singleton]
  omega
theorem vy_51 {x2 y0 y1 : Int32} (hN : 1048576 ≤ N) (hB : B = 2 ∨ B = 28) (hC : CB σ t n c) (hA : CA (σ.1 57 9) t n c i) (h7 : σ.1 57 7 = g 0) (hs : St σ O) (hl : O.length ≤ i) (hx : (tkK t n i = 1 ∧ x2 = wv t n i) ∨ (¬ tkK t n i = 1 ∧ x2 = -1)) (hy0 : (x2 = 1 ∧ y0 = 1) ∨ (¬ x2 = 1 ∧ y0 = 0)) (hy1 : (g 1 = 0 ∧ y1 = 1) ∨ (¬ g 1 = 0 ∧ y1 = 0)) : Pt (J_X5_readLine_51 N 57 B x2 y0 y1 σ) (LY t n c O (oL t n i g O) σ) := by
  have bad : ∀ x1 : Int32, Pt (zl (gC 5 57) fun _ => zb (f_X5_fail N 57 x1 σ) fun v8 σ9 => rZ v8 σ9) (LY t n c O (oL t n i g O) σ) := fun x1 =>
    pt_gC (pt_zb (pt_ok (xs_fail hC hA)) (fun v σ1 h1 => pt_rZ (fun z => absurd h1.1 z)))
  rw [J_X5_readLine_51.eq_1]
  refine pt_if (fun q => ?_) (fun q => bad 1)
  have hf : g 1 = 0 ↔ x2 = 1 := by
    rcases hy0 with ⟨a, rfl⟩ | ⟨a, rfl⟩
    · rcases hy1 with ⟨b, rfl⟩ | ⟨b, rfl⟩
      · exact ⟨fun _ => a, fun _ => b⟩
      · exact absurd q (by decide)
    · rcases hy1 with ⟨b, rfl⟩ | ⟨b, rfl⟩
      · exact absurd q (by decide)
      · exact ⟨fun z => absurd z b, fun z => absurd z a⟩
  refine pt_if (fun q1 => bad 1) (fun q1 => pt_if (fun q4 => ?_) (fun q4 => bad 1))
  rw [Int32.lt_iff_toInt_lt] at q1
  rw [Int32.le_iff_toInt_le] at q4
  simp only [Int32.reduceToInt] at q1 q4
  have hx := hx.resolve_right (fun z => by rw [z.2] at q1; exact absurd q1 (by decide))
  have go := vy_92 (N := N) (O := O) (g := g) hN hB hC hA h7 hs hl hx.1 hx.2 (by omega) hf
  exact pt_if (fun q3 => pt_gI (pt_gI (pt_if (fun l => go) (fun l => bad 3)))) (fun q3 => go)
theorem vy_line (hN : 1048576 ≤ N) (hB : B = 2 ∨ B = 28) (hC : CB σ t n c) (hA : CA (σ.1 57 9) t n c i) (h7 : σ.1 57 7 = g 0) (hs : St σ O) (hl : O.length ≤ i) (h1 : σ.1 B 1 = g 1) : Pt (f_X5_readLine N 57 B σ) (LY t n c O (oL t n i g O) σ) := by
  have row := CA_row hC.2.1 hA
  have e1 : σ.1 61 (σ.1 57 9).toInt.toNat = ck (tkK t n i) := row.1.1
  have go : ∀ x2 : Int32, ((tkK t n i = 1 ∧ x2 = wv t n i) ∨ (¬ tkK t n i = 1 ∧ x2 = -1)) → Pt (J_X5_readLine_26 N 57 B x2 σ) (LY t n c O (oL t n i g O) σ) := fun x2 hx => by
    rw [J_X5_readLine_26.eq_1]
    refine pt_gI ?_
    rw [h1]
    have go2 : ∀ y1 : Int32, ((g 1 = 0 ∧ y1 = 1) ∨ (¬ g 1 = 0 ∧ y1 = 0)) → Pt (J_X5_readLine_39 N 57 B x2 y1 σ) (LY t n c O (oL t n i g O) σ) := fun y1 hy => by
      rw [J_X5_readLine_39.eq_1]
      exact pt_if (fun q => vy_51 hN hB hC hA h7 hs hl hx (Or.inl ⟨q, rfl⟩) hy) (fun q => vy_51 hN hB hC hA h7 hs hl hx (Or.inr ⟨q, rfl⟩) hy)
    exact pt_if (fun q => go2 1 (Or.inl ⟨q, rfl⟩)) (fun q => go2 0 (Or.inr ⟨q, rfl⟩))
  rw [f_X5_readLine.eq_1]
  refine pt_gR (v := 61) (hC.1.1 57 10 rfl) (pt_gI (pt_aI ?_))
  rw [e1]
  refine pt_if (fun q => ?_) (fun q => go (-1) (Or.inr ⟨fun z => q (ck_w.mpr z), rfl⟩))
  refine pt_gR (v := 62) (hC.1.1 57 11 rfl) (pt_gI (pt_aI ?_))
  exact go _ (Or.inl ⟨ck_w.mp q, row.2.2 (ck_w.mp q)⟩)
end WSTEP
end Zq14_5
section Zq14_6
/-! ===== the steps of a world's lines in the reference ===== -/
section RWS
variable {N k n i : Nat} {σ τ υ : zS} {tx : Nat → Int32} {W : List Int32} {O : List zOp} {s0 : zEv}
theorem vq_37 {p : Nat} (hR : RF σ.2.2) (hB : ZB σ.1) (hp : p < 10) : Pt (zlp (F_X12_readsLet_37 N 218 (nI p)) N (0, σ)) (fun r => FG [232] σ r.2 ∧ (σ.1 218 14 = 0 → (∀ u, u < 1024 → r.2.1 232 (1024 * p + u) = σ.1 226 u) ∧ ∀ j, (j < 1024 * p ∨ 1024 * p + 1024 ≤ j) → r.2.1 232 j = σ.1 232 j)) := by
  refine pt_lp (fun y : Int32 × zS => ∃ l, (y.1 = nI l ∧ l ≤ 1024) ∧ FG [232] σ y.2 ∧ (∀ u, u < l → y.2.1 232 (1024 * p + u) = σ.1 226 u) ∧ ∀ j, (j < 1024 * p ∨ 1024 * p + 1024 ≤ j) → y.2.1 232 j = σ.1 232 j) (fun again y hI ih => ?_) N _ ⟨0, ⟨rfl, Nat.zero_le _⟩, FG.rf, fun u hu => absurd hu (Nat.not_lt_zero _), fun _ _ => rfl⟩
  obtain ⟨x2, τ⟩ := y
  obtain ⟨l, ⟨ex, hl⟩, hf, hu, ho⟩ := hI
  have ex : x2 = nI l := ex
  subst ex
  have hf : FG [232] σ τ := hf
  have hu : ∀ u, u < l → τ.1 232 (1024 * p + u) = σ.1 226 u := hu
  have ho : ∀ j, (j < 1024 * p ∨ 1024 * p + 1024 ≤ j) → τ.1 232 j = σ.1 232 j := ho
  have R9 := hf.R hR
  have e18 : τ.1 218 = σ.1 218 := hf.2 218 (by decide)
  rw [F_X12_readsLet_37.eq_1]
  refine pt_if (fun q => pt_some ⟨hf, fun _ => ⟨fun u h' => ?_, ho⟩⟩) (fun q => ?_)
  · have q : nI 1024 ≤ nI l := q
    rw [nlt (by omega) (by omega)] at q
    exact hu u (by omega)
  · have q : ¬ nI 1024 ≤ nI l := q
    rw [nlt (by omega) (by omega)] at q
    refine pt_gC (pt_zbq vr_good (fun v hv => pt_if (fun z => pt_some ⟨hf, fun y => absurd (by rw [e18]; exact y) (hv.1 z)⟩) (fun _ => ?_)))
    have e9 : ((1024 : Int32) * nI p + nI l).toInt.toNat = 1024 * p + l := by
      rw [n1024, nI_plus, nI_toInt (by omega)]; omega
    refine pt_gR (v := 232) (R9 218 27 rfl) (pt_gR (v := 226) (R9 218 16 rfl) (pt_aI (pt_s16 ?_)))
    rw [e9, iN (by omega), nI_s1 (by omega), hf.2 226 (by decide), nrz (hB 226 rfl l)]
    refine ih (nI (l + 1), _) ⟨l + 1, ⟨rfl, by omega⟩, hf.u (by decide), fun u h' => ?_, fun j hj => ?_⟩
    · show (zI τ 232 _).1 232 _ = _
      rw [zI_s, upd_i]
      by_cases e : u = l
      · rw [if_pos (by omega), e]
      · rw [if_neg (by omega)]; exact hu u (by omega)
    · show (zI τ 232 _).1 232 j = _
      rw [zI_s, upd_n (by omega)]; exact ho j hj
theorem vq_let (hN : 1048576 ≤ N) (hk : k ≤ 10) (hb : RBs σ) (h0 : RG (2 ^ k) s0) (z0 : s0.2.length = 0) (hv : vds (2 ^ k) O 0) (hh : hts O 0 = 0) (hG : RX σ.1 tx n i) (hg : σ.1 218 14 = 0) (e0 : σ.1 231 0 = nI k) (hrg : ∀ p, p < 10 → ∀ u, u < 1024 → rb (σ.1 232) (1024 * p) u = (evs (2 ^ k) O s0).1 p u) : Pt (f_X12_readsLet N 218 σ) (fun r => r.2.1 218 14 = 0 → ∀ p, p < 10 → ∀ u, u < 1024 → rb (r.2.1 232) (1024 * p) u = (evs (2 ^ k) (sO tx n (tkE tx n (tkE tx n i)) (nI k) (nvI tx n i) O) s0).1 p u) := by
  have hR := hb.1.1
  rw [f_X12_readsLet.eq_1]
  refine pt_gC (pt_zb (pt_ok (s_X12_number_c (tx := tx) (n := n) (i := i) hN hR hb.1.2 hb.2.1 (fun _ => hG))) (fun v1 σ2 h2 => ?_))
  obtain ⟨T2, ⟨K2, _, u2, f2⟩, _⟩ := h2
  have T2 : Tr [218] σ σ2 := T2
  have u2 : σ2.1 218 14 = 0 → ((σ.1 218 14 = 0 ∧ _) ∧ nOK tx n i 0 9) ∧ v1.toInt = nv5 tx n i ∧ RX σ2.1 tx n (tkE tx n i) := u2
  have f2 : ¬ σ2.1 218 14 = 0 → v1 = 0 ∧ _ := f2
  have hb2 : RBs σ2 := rb218 hb T2 (by decide) K2 (zb218 hb T2)
  refine pt_gC (pt_zb (pt_ok (s_X12_needsSign_r (tx := tx) (n := n) (i := tkE tx n i) hN hb2.1.1 hb2.1.2 hb2.2.1 (fun q => (u2 q).2.2) (by decide))) (fun v3 σ4 h4 => ?_))
  obtain ⟨T4, ⟨K4, _, u4, f4⟩, _⟩ := h4
  have T4 : Tr [218] σ2 σ4 := T4
  have u4 : σ4.1 218 14 = 0 → (σ2.1 218 14 = 0 ∧ _) ∧ tkK tx n (tkE tx n i) = 61 ∧ RX σ4.1 tx n (tkE tx n (tkE tx n i)) := u4
  have hb4 : RBs σ4 := rb218 hb2 T4 (by decide) K4 (zb218 hb2 T4)
  have vp : ∃ p, p < 10 ∧ v1 = nI p := by
    by_cases q : σ2.1 218 14 = 0
    · have a := u2 q
      have b := a.1.2.2
      have e := a.2.1
      unfold nv5 at e
      simp only [Int32.reduceToInt] at b
      exact (znI (x := v1) (m := 10) (by omega) (by omega)).imp (fun _ z => z)
    · exact ⟨0, by decide, (f2 q).1⟩
  obtain ⟨p, hp, rfl⟩ := vp
  refine pt_gC (pt_zbq vr_good (fun v hq => pt_if (fun z => ?_) (fun z => ?_)))
  · rw [J_X12_readsLet_35.eq_1]
    refine pt_w (vq_37 hb4.1.1 hb4.2.2 hp) (fun r h q => absurd ?_ (hq.1 z))
    have := h.1.2 218 (by decide)
    rw [← this]; exact q
  have g4 := hq.2 z
  have a4 := u4 g4
  have a2 := u2 a4.1.1
  have enp : nI p = nvI tx n i := nv_eq a2.2.1
  have r31 : σ4.1 231 0 = nI k := by rw [T4.2 231 (by decide), T2.2 231 (by decide)]; exact e0
  have r32 : σ4.1 232 = σ.1 232 := (T4.2 232 (by decide)).trans (T2.2 232 (by decide))
  refine pt_gR (v := 231) (hb4.1.1 218 26 rfl) (pt_aI (pt_gR (v := 232) (hb4.1.1 218 27 rfl) ?_))
  rw [show (Int32.toInt 0).toNat = 0 from rfl, r31]
  refine pt_gC (pt_zb (vr_readsSum (O := O) (s0 := s0) (c := 232) hN hk (Or.inr rfl) hb4 h0 z0 hv hh a4.2.2 g4 (by rw [r32]; exact hrg)) (fun w σ5 h5 => ?_))
  have h5 : σ5.1 218 14 = 0 → ∃ d : Cv, (Rc (stv tx n (nI k)) (tkE tx n (tkE tx n i), 0, [], O) d ∧ stv tx n (nI k) d = some none ∧ ¬ 100 ∈ d.2.2.1) ∧ (RBs σ5 ∧ RX σ5.1 tx n d.1) ∧ RR σ5 232 (2 ^ k) (evs (2 ^ k) (setl 1 d.2.2.1 d.2.2.2).2 s0) (setl 1 d.2.2.1 d.2.2.2).1 := h5
  rw [J_X12_readsLet_35.eq_1]
  by_cases g5 : σ5.1 218 14 = 0
  · obtain ⟨d, ⟨rc, sn, n100⟩, ⟨hb5, _⟩, hr5⟩ := h5 g5
    have E := end_H (t := tx) (n := n) (Rc_H (c := (_, 0, [], O)) hk ⟨⟨hv, hh⟩, trivial, Nat.zero_le _⟩ rc) (stv_e1 sn).1 n100
    have eh := evs_H h0 (by rw [z0]; exact E.2.1)
    rw [z0, E.2.2] at eh
    refine pt_w (vq_37 hb5.1.1 hb5.2.2 hp) (fun r h q p' hp' u hu => ?_)
    rw [← enp, sO_d rc sn n100, evs_app]
    obtain ⟨⟨G, S⟩, eS⟩ : ∃ s, s = evs (2 ^ k) (setl 1 d.2.2.1 d.2.2.2).2 s0 := ⟨_, rfl⟩
    rw [← eS] at eh hr5 ⊢
    have e1 : S.length = 1 := eh.2
    cases S with
    | nil => exact absurd e1 (by decide)
    | cons x S =>
      have z1 : S.length = 0 := by rw [List.length_cons] at e1; omega
      show _ = (ev1 (2 ^ k) (6, nI p) (G, x :: S)).1 p' u
      rw [ev_6, iN (by omega)]
      have hx := hr5.2.1.2.1
      have hgr := hr5.2.2.1
      have H := h.2 g5
      by_cases e : p' = p
      · subst e
        show _ = (if p' = p' then x else G p') u
        rw [if_pos rfl]
        have := hx u hu
        rw [z1] at this
        rw [← this]
        unfold rb
        rw [H.1 u hu, Nat.mul_zero, Nat.zero_add]
      · show _ = (if p' = p then x else G p') u
        rw [if_neg e]
        have : rb (σ5.1 232) (1024 * p') u = G p' u := hgr p' hp' u hu
        rw [← this]
        unfold rb
        rw [H.2 _ (by omega)]
  · exact pt_lp (fun y : Int32 × zS => ¬ y.2.1 218 14 = 0) (fun again y hI ih => by
      obtain ⟨x2, τ⟩ := y
      have hI : ¬ τ.1 218 14 = 0 := hI
      rw [F_X12_readsLet_37.eq_1]
      exact pt_if (fun _ => pt_some (fun q => absurd q hI)) (fun _ => pt_gC (pt_zbq vr_good (fun v hv => pt_if (fun _ => pt_some (fun q => absurd q hI)) (fun z => absurd (hv.2 z) hI))))) N _ g5
end RWS
end Zq14_6
section Zq14_7
/-! ===== functions that leave the rows of longs ===== -/
section JU
variable {N : Nat} {L : Nat → Nat → Int64} {σ : zS}
theorem pj_a {α β : Type} {x : Option α} {f : α → Option β} {P : β → Prop} (h : ∀ v, Pt (f v) P) : Pt (zl x f) P := fun a e => by
  obtain ⟨v, _, h2⟩ := zl_some e
  exact h v a h2
theorem pj_s {β : Type} {x : Option zS} {f : zS → Option β} {P : β → Prop} (hx : ∀ τ, x = some τ → τ.2.1 = L) (h : ∀ τ : zS, τ.2.1 = L → Pt (f τ) P) : Pt (zl x f) P := fun a e => by
  obtain ⟨v, h1, h2⟩ := zl_some e
  exact h v (hx v h1) a h2
theorem j_pI {ci j k : Nat} {v : Int32} (h : σ.2.1 = L) : ∀ τ, pI ci j k v σ = some τ → τ.2.1 = L := fun τ e => by
  obtain ⟨_, rfl⟩ := zguard e
  exact h
theorem j_sI {ti k : Nat} {i v : Int32} (h : σ.2.1 = L) : ∀ τ, sI ti k i v σ = some τ → τ.2.1 = L := fun τ e => by
  obtain ⟨_, rfl⟩ := zguard e
  exact h
theorem j_pR {ci j k v : Nat} (h : σ.2.1 = L) : ∀ τ, pR ci j k v σ = some τ → τ.2.1 = L := fun τ e => by
  obtain ⟨_, rfl⟩ := zguard e
  exact h
theorem j_cpI {a c : Nat} {b d n : Int32} (h : σ.2.1 = L) : ∀ τ, cpI a b c d n σ = some τ → τ.2.1 = L := fun τ e => by
  obtain ⟨_, rfl⟩ := zguard e
  exact h
theorem jf_J0_length_8abf5 {x0 : Nat} (hj : σ.2.1 = L) : Pt (f_J0_length_8abf5 N x0 σ) (fun r => r.2.2.1 = L) := fun a e => by
  obtain ⟨_, rfl⟩ := zguard e
  exact hj
theorem jf_J0_charAt_5068e {x0 : Nat} {x1 : Int32} (hj : σ.2.1 = L) : Pt (f_J0_charAt_5068e N x0 x1 σ) (fun r => r.2.2.1 = L) := fun a e => by
  obtain ⟨_, rfl⟩ := zguard e
  exact hj
theorem jJ_J6_numberOfTrailingZeros_0f7a4_62 {x0 : Int32} {x1 : Int32} {σ : zS}  (hj : σ.2.1 = L) : Pt (J_J6_numberOfTrailingZeros_0f7a4_62 N x0 x1 σ) (fun r => r.2.2.1 = L) := by
  rw [J_J6_numberOfTrailingZeros_0f7a4_62.eq_1]
  exact pt_if (fun _ => pt_some hj) (fun _ => pt_some hj)
theorem jJ_J6_numberOfTrailingZeros_0f7a4_49 {x0 : Int32} {x1 : Int32} {σ : zS}  (hj : σ.2.1 = L) : Pt (J_J6_numberOfTrailingZeros_0f7a4_49 N x0 x1 σ) (fun r => r.2.2.1 = L) := by
  rw [J_J6_numberOfTrailingZeros_0f7a4_49.eq_1]
  exact pt_if (fun _ => (jJ_J6_numberOfTrailingZeros_0f7a4_62 hj)) (fun _ => (jJ_J6_numberOfTrailingZeros_0f7a4_62 hj))
theorem jJ_J6_numberOfTrailingZeros_0f7a4_34 {x0 : Int32} {x1 : Int32} {σ : zS}  (hj : σ.2.1 = L) : Pt (J_J6_numberOfTrailingZeros_0f7a4_34 N x0 x1 σ) (fun r => r.2.2.1 = L) := by
  rw [J_J6_numberOfTrailingZeros_0f7a4_34.eq_1]
  exact pt_if (fun _ => (jJ_J6_numberOfTrailingZeros_0f7a4_49 hj)) (fun _ => (jJ_J6_numberOfTrailingZeros_0f7a4_49 hj))
theorem jf_J6_numberOfTrailingZeros_0f7a4 {x0 : Int32} {σ : zS}  (hj : σ.2.1 = L) : Pt (f_J6_numberOfTrailingZeros_0f7a4 N x0 σ) (fun r => r.2.2.1 = L) := by
  rw [f_J6_numberOfTrailingZeros_0f7a4.eq_1]
  exact pt_if (fun _ => pt_if (fun _ => (jJ_J6_numberOfTrailingZeros_0f7a4_34 hj)) (fun _ => (jJ_J6_numberOfTrailingZeros_0f7a4_34 hj))) (fun _ => pt_some hj)
theorem jf_J6_bitCount_0f7a4 {x0 : Int32} {σ : zS}  (hj : σ.2.1 = L) : Pt (f_J6_bitCount_0f7a4 N x0 σ) (fun r => r.2.2.1 = L) := by
  rw [f_J6_bitCount_0f7a4.eq_1]
  exact pt_some hj
theorem jf_J13_numberOfTrailingZeros_95d88 {x0 : Int64} {σ : zS}  (hj : σ.2.1 = L) : Pt (f_J13_numberOfTrailingZeros_95d88 N x0 σ) (fun r => r.2.2.1 = L) := by
  rw [f_J13_numberOfTrailingZeros_95d88.eq_1]
  exact pt_if (fun _ => pt_zb (jf_J6_numberOfTrailingZeros_0f7a4 hj) (fun _ _ h1 => pt_some h1)) (fun _ => pt_zb (jf_J6_numberOfTrailingZeros_0f7a4 hj) (fun _ _ h2 => pt_some h2))
theorem jf_J13_bitCount_95d88 {x0 : Int64} {σ : zS}  (hj : σ.2.1 = L) : Pt (f_J13_bitCount_95d88 N x0 σ) (fun r => r.2.2.1 = L) := by
  rw [f_J13_bitCount_95d88.eq_1]
  exact pt_some hj
theorem jF_J7_fill_53178_5 {x0 : Nat} {x1 : Int32} {x3 : Int32} {again5 : (Int32 × zS) → Option (Unit × zS)} (ihagain5 : ∀ s : Int32 × zS, s.2.2.1 = L → Pt (again5 s) (fun r => r.2.2.1 = L)) {s : Int32 × zS} (hj : s.2.2.1 = L) : Pt (F_J7_fill_53178_5 N x0 x1 x3 again5 s) (fun r => r.2.2.1 = L) := by
  obtain ⟨x2, σ⟩ := s
  rw [F_J7_fill_53178_5.eq_1]
  exact pt_if (fun _ => pt_some hj) (fun _ => pj_s (j_sI hj) (fun _ h1 => (ihagain5 _ h1)))
theorem jf_J7_fill_53178 {x0 : Nat} {x1 : Int32} {σ : zS}  (hj : σ.2.1 = L) : Pt (f_J7_fill_53178 N x0 x1 σ) (fun r => r.2.2.1 = L) := by
  rw [f_J7_fill_53178.eq_1]
  exact pj_a (fun _ => pt_lp (fun s => s.2.2.1 = L) (fun again s hI ih => jF_J7_fill_53178_5 ih hI) N _ hj)
theorem jJ_X2_firstFrom_62 {again38 : (Int64 × Int32 × zS) → Option (Int32 × zS)} {x0 : Nat} {x1 : Int32} {x4 : Int32} {x2 : Int64} {σ : zS} (ihagain38 : ∀ s : Int64 × Int32 × zS, s.2.2.2.1 = L → Pt (again38 s) (fun r => r.2.2.1 = L)) (hj : σ.2.1 = L) : Pt (J_X2_firstFrom_62 N again38 x0 x1 x4 x2 σ) (fun r => r.2.2.1 = L) := by
  rw [J_X2_firstFrom_62.eq_1]
  exact pt_if (fun _ => (ihagain38 _ hj)) (fun _ => pt_zb (jf_J13_numberOfTrailingZeros_95d88 hj) (fun _ _ h1 => pt_some h1))
theorem jF_X2_firstFrom_38 {x0 : Nat} {x1 : Int32} {again38 : (Int64 × Int32 × zS) → Option (Int32 × zS)} (ihagain38 : ∀ s : Int64 × Int32 × zS, s.2.2.2.1 = L → Pt (again38 s) (fun r => r.2.2.1 = L)) {s : Int64 × Int32 × zS} (hj : s.2.2.2.1 = L) : Pt (F_X2_firstFrom_38 N x0 x1 again38 s) (fun r => r.2.2.1 = L) := by
  obtain ⟨x2, x4, σ⟩ := s
  rw [F_X2_firstFrom_38.eq_1]
  exact pt_if (fun _ => pt_some hj) (fun _ => pt_if (fun _ => (jJ_X2_firstFrom_62 ihagain38 hj)) (fun _ => pj_a (fun _ => pj_a (fun _ => (jJ_X2_firstFrom_62 ihagain38 hj)))))
theorem jf_X2_firstFrom {x0 : Nat} {x1 : Int32} {σ : zS}  (hj : σ.2.1 = L) : Pt (f_X2_firstFrom N x0 x1 σ) (fun r => r.2.2.1 = L) := by
  rw [f_X2_firstFrom.eq_1]
  exact pt_if (fun _ => pt_some hj) (fun _ => pt_if (fun _ => pj_a (fun _ => pj_a (fun _ => pt_lp (fun s => s.2.2.2.1 = L) (fun again s hI ih => jF_X2_firstFrom_38 ih hI) N _ hj))) (fun _ => pt_some hj))
theorem jf_X2_holds {x0 : Nat} {x1 : Int32} {σ : zS}  (hj : σ.2.1 = L) : Pt (f_X2_holds N x0 x1 σ) (fun r => r.2.2.1 = L) := by
  rw [f_X2_holds.eq_1]
  exact pt_if (fun _ => pt_rZ hj) (fun _ => pt_if (fun _ => pt_rZ hj) (fun _ => pj_a (fun _ => pj_a (fun _ => pt_if (fun _ => pt_rZ hj) (fun _ => pt_rZ hj)))))
theorem jF_X0_allJoined_10 {x1 : Nat} {x2 : Nat} {x3 : Int32} {again10 : (Int32 × Int32 × zS) → Option (Int32 × zS)} (ihagain10 : ∀ s : Int32 × Int32 × zS, s.2.2.2.1 = L → Pt (again10 s) (fun r => r.2.2.1 = L)) {s : Int32 × Int32 × zS} (hj : s.2.2.2.1 = L) : Pt (F_X0_allJoined_10 N x1 x2 x3 again10 s) (fun r => r.2.2.1 = L) := by
  obtain ⟨x4, x5, σ⟩ := s
  rw [F_X0_allJoined_10.eq_1]
  exact pt_if (fun _ => pt_rZ hj) (fun _ => pt_if (fun _ => pt_rZ hj) (fun _ => pj_a (fun _ => pt_zb (jf_X2_holds hj) (fun _ _ h1 => pt_if (fun _ => pt_rZ h1) (fun _ => pj_a (fun _ => pt_zb (jf_X2_firstFrom h1) (fun _ _ h2 => (ihagain10 _ h2))))))))
theorem jf_X0_allJoined {x0 : Nat} {x1 : Nat} {x2 : Nat} {x3 : Int32} {σ : zS}  (hj : σ.2.1 = L) : Pt (f_X0_allJoined N x0 x1 x2 x3 σ) (fun r => r.2.2.1 = L) := by
  rw [f_X0_allJoined.eq_1]
  exact pj_a (fun _ => pt_zb (jf_X2_firstFrom hj) (fun _ _ h1 => pt_lp (fun s => s.2.2.2.1 = L) (fun again s hI ih => jF_X0_allJoined_10 ih hI) N _ h1))
theorem jF_X2_sameAs_2 {x0 : Nat} {x1 : Nat} {again2 : (Int32 × zS) → Option (Int32 × zS)} (ihagain2 : ∀ s : Int32 × zS, s.2.2.1 = L → Pt (again2 s) (fun r => r.2.2.1 = L)) {s : Int32 × zS} (hj : s.2.2.1 = L) : Pt (F_X2_sameAs_2 N x0 x1 again2 s) (fun r => r.2.2.1 = L) := by
  obtain ⟨x2, σ⟩ := s
  rw [F_X2_sameAs_2.eq_1]
  exact pt_if (fun _ => pt_rZ hj) (fun _ => pj_a (fun _ => pj_a (fun _ => pj_a (fun _ => pj_a (fun _ => pt_if (fun _ => (ihagain2 _ hj)) (fun _ => pt_rZ hj))))))
theorem jf_X2_sameAs {x0 : Nat} {x1 : Nat} {σ : zS}  (hj : σ.2.1 = L) : Pt (f_X2_sameAs N x0 x1 σ) (fun r => r.2.2.1 = L) := by
  rw [f_X2_sameAs.eq_1]
  exact pt_lp (fun s => s.2.2.1 = L) (fun again s hI ih => jF_X2_sameAs_2 ih hI) N _ hj
theorem jf_X0_setsOf {x0 : Int32} {σ : zS}  (hj : σ.2.1 = L) : Pt (f_X0_setsOf N x0 σ) (fun r => r.2.2.1 = L) := by
  rw [f_X0_setsOf.eq_1]
  exact pt_some hj
theorem jF_X2_isEmpty_2 {x0 : Nat} {again2 : (Int32 × zS) → Option (Int32 × zS)} (ihagain2 : ∀ s : Int32 × zS, s.2.2.1 = L → Pt (again2 s) (fun r => r.2.2.1 = L)) {s : Int32 × zS} (hj : s.2.2.1 = L) : Pt (F_X2_isEmpty_2 N x0 again2 s) (fun r => r.2.2.1 = L) := by
  obtain ⟨x1, σ⟩ := s
  rw [F_X2_isEmpty_2.eq_1]
  exact pt_if (fun _ => pt_rZ hj) (fun _ => pj_a (fun _ => pj_a (fun _ => pt_if (fun _ => (ihagain2 _ hj)) (fun _ => pt_rZ hj))))
theorem jf_X2_isEmpty {x0 : Nat} {σ : zS}  (hj : σ.2.1 = L) : Pt (f_X2_isEmpty N x0 σ) (fun r => r.2.2.1 = L) := by
  rw [f_X2_isEmpty.eq_1]
  exact pt_lp (fun s => s.2.2.1 = L) (fun again s hI ih => jF_X2_isEmpty_2 ih hI) N _ hj
theorem jF_X0_countBelow_54 {x2 : Nat} {x4 : Int32} {x5 : Int32} {again43 : (Int32 × zS) → Option (Unit × zS)} {again54 : (Int32 × zS) → Option (Unit × zS)} (ihagain43 : ∀ s : Int32 × zS, s.2.2.1 = L → Pt (again43 s) (fun r => r.2.2.1 = L)) (ihagain54 : ∀ s : Int32 × zS, s.2.2.1 = L → Pt (again54 s) (fun r => r.2.2.1 = L)) {s : Int32 × zS} (hj : s.2.2.1 = L) : Pt (F_X0_countBelow_54 N x2 x4 x5 again43 again54 s) (fun r => r.2.2.1 = L) := by
  obtain ⟨x6, σ⟩ := s
  rw [F_X0_countBelow_54.eq_1]
  exact pt_if (fun _ => (ihagain43 _ hj)) (fun _ => pt_if (fun _ => (ihagain54 _ hj)) (fun _ => pj_a (fun _ => pj_a (fun _ => pj_s (j_sI hj) (fun _ h1 => (ihagain54 _ h1))))))
theorem jF_X0_countBelow_43 {x2 : Nat} {x4 : Int32} {again43 : (Int32 × zS) → Option (Unit × zS)} (ihagain43 : ∀ s : Int32 × zS, s.2.2.1 = L → Pt (again43 s) (fun r => r.2.2.1 = L)) {s : Int32 × zS} (hj : s.2.2.1 = L) : Pt (F_X0_countBelow_43 N x2 x4 again43 s) (fun r => r.2.2.1 = L) := by
  obtain ⟨x5, σ⟩ := s
  rw [F_X0_countBelow_43.eq_1]
  exact pt_if (fun _ => pt_some hj) (fun _ => pt_lp (fun s => s.2.2.1 = L) (fun again s hI ih => jF_X0_countBelow_54 ihagain43 ih hI) N _ hj)
theorem jF_X0_countBelow_9 {x1 : Nat} {x2 : Nat} {x4 : Int32} {again9 : (Int32 × zS) → Option (Unit × zS)} (ihagain9 : ∀ s : Int32 × zS, s.2.2.1 = L → Pt (again9 s) (fun r => r.2.2.1 = L)) {s : Int32 × zS} (hj : s.2.2.1 = L) : Pt (F_X0_countBelow_9 N x1 x2 x4 again9 s) (fun r => r.2.2.1 = L) := by
  obtain ⟨x5, σ⟩ := s
  rw [F_X0_countBelow_9.eq_1]
  exact pt_if (fun _ => pt_lp (fun s => s.2.2.1 = L) (fun again s hI ih => jF_X0_countBelow_43 ih hI) N _ hj) (fun _ => pj_a (fun _ => pt_zb (jf_X2_holds hj) (fun _ _ h1 => pt_if (fun _ => pj_s (j_sI h1) (fun _ h2 => (ihagain9 _ h2))) (fun _ => pj_s (j_sI h1) (fun _ h3 => (ihagain9 _ h3))))))
theorem jf_X0_countBelow {x0 : Nat} {x1 : Nat} {x2 : Nat} {x3 : Int32} {σ : zS}  (hj : σ.2.1 = L) : Pt (f_X0_countBelow N x0 x1 x2 x3 σ) (fun r => r.2.2.1 = L) := by
  rw [f_X0_countBelow.eq_1]
  exact pt_zb (jf_X0_setsOf hj) (fun _ _ h1 => pt_lp (fun s => s.2.2.1 = L) (fun again s hI ih => jF_X0_countBelow_9 ih hI) N _ h1)
theorem jF_X0_multiply_73 {x0 : Nat} {x1 : Nat} {x4 : Int32} {x5 : Int32} {again62 : (Int32 × zS) → Option (Unit × zS)} {again73 : (Int32 × zS) → Option (Unit × zS)} (ihagain62 : ∀ s : Int32 × zS, s.2.2.1 = L → Pt (again62 s) (fun r => r.2.2.1 = L)) (ihagain73 : ∀ s : Int32 × zS, s.2.2.1 = L → Pt (again73 s) (fun r => r.2.2.1 = L)) {s : Int32 × zS} (hj : s.2.2.1 = L) : Pt (F_X0_multiply_73 N x0 x1 x4 x5 again62 again73 s) (fun r => r.2.2.1 = L) := by
  obtain ⟨x6, σ⟩ := s
  rw [F_X0_multiply_73.eq_1]
  exact pt_if (fun _ => (ihagain62 _ hj)) (fun _ => pt_if (fun _ => (ihagain73 _ hj)) (fun _ => pj_a (fun _ => pj_a (fun _ => pj_a (fun _ => pj_a (fun _ => pj_s (j_sI hj) (fun _ h1 => (ihagain73 _ h1))))))))
theorem jF_X0_disjointPairs_22 {x0 : Nat} {x1 : Nat} {x4 : Int32} {again22 : (Int32 × Int32 × zS) → Option (Int32 × zS)} (ihagain22 : ∀ s : Int32 × Int32 × zS, s.2.2.2.1 = L → Pt (again22 s) (fun r => r.2.2.1 = L)) {s : Int32 × Int32 × zS} (hj : s.2.2.2.1 = L) : Pt (F_X0_disjointPairs_22 N x0 x1 x4 again22 s) (fun r => r.2.2.1 = L) := by
  obtain ⟨x5, x6, σ⟩ := s
  rw [F_X0_disjointPairs_22.eq_1]
  exact pt_if (fun _ => pt_some hj) (fun _ => pj_a (fun _ => pt_zb (jf_X2_holds hj) (fun _ _ h1 => pt_if (fun _ => (ihagain22 _ h1)) (fun _ => pj_a (fun _ => pj_a (fun _ => (ihagain22 _ h1)))))))
theorem jf_X0_disjointPairs {x0 : Nat} {x1 : Nat} {x2 : Nat} {x3 : Int32} {σ : zS}  (hj : σ.2.1 = L) : Pt (f_X0_disjointPairs N x0 x1 x2 x3 σ) (fun r => r.2.2.1 = L) := by
  rw [f_X0_disjointPairs.eq_1]
  exact pj_a (fun _ => pj_a (fun _ => pt_zb (jf_X0_countBelow hj) (fun _ _ h1 => pt_zb (jf_X0_setsOf h1) (fun _ _ h2 => pt_lp (fun s => s.2.2.2.1 = L) (fun again s hI ih => jF_X0_disjointPairs_22 ih hI) N _ h2))))
theorem jf_X1_headOf {x0 : Int32} {x1 : Int32} {x2 : Int32} {σ : zS}  (hj : σ.2.1 = L) : Pt (f_X1_headOf N x0 x1 x2 σ) (fun r => r.2.2.1 = L) := by
  rw [f_X1_headOf.eq_1]
  exact pt_some hj
theorem jJ_X1_node_93 {x0 : Nat} {x1 : Int32} {x2 : Int32} {x3 : Int32} {x4 : Int32} {σ : zS}  (hj : σ.2.1 = L) : Pt (J_X1_node_93 N x0 x1 x2 x3 x4 σ) (fun r => r.2.2.1 = L) := by
  rw [J_X1_node_93.eq_1]
  exact pj_a (fun _ => pt_if (fun _ => pt_some hj) (fun _ => pt_if (fun _ => pt_some hj) (fun _ => pt_if (fun _ => pj_a (fun _ => pj_s (j_pI hj) (fun _ h1 => pj_a (fun _ => pj_s (j_sI h1) (fun _ h2 => pj_a (fun _ => pj_s (j_sI h2) (fun _ h3 => pj_a (fun _ => pj_s (j_sI h3) (fun _ h4 => pj_a (fun _ => pj_a (fun _ => pj_a (fun _ => pj_s (j_sI h4) (fun _ h5 => pj_a (fun _ => pj_s (j_sI h5) (fun _ h6 => pj_a (fun _ => pj_a (fun _ => pj_s (j_sI h6) (fun _ h7 => pt_some h7)))))))))))))))))) (fun _ => pt_some hj))))
theorem jF_X1_node_20 {x0 : Nat} {x1 : Int32} {x2 : Int32} {x3 : Int32} {x4 : Int32} {again20 : (Int32 × Int32 × zS) → Option (Int32 × zS)} (ihagain20 : ∀ s : Int32 × Int32 × zS, s.2.2.2.1 = L → Pt (again20 s) (fun r => r.2.2.1 = L)) {s : Int32 × Int32 × zS} (hj : s.2.2.2.1 = L) : Pt (F_X1_node_20 N x0 x1 x2 x3 x4 again20 s) (fun r => r.2.2.1 = L) := by
  obtain ⟨x5, x6, σ⟩ := s
  rw [F_X1_node_20.eq_1]
  exact pt_if (fun _ => (jJ_X1_node_93 hj)) (fun _ => pt_if (fun _ => (jJ_X1_node_93 hj)) (fun _ => pt_if (fun _ => (jJ_X1_node_93 hj)) (fun _ => pj_a (fun _ => pj_a (fun _ => pt_if (fun _ => pj_a (fun _ => pj_a (fun _ => pt_if (fun _ => pj_a (fun _ => pj_a (fun _ => pt_if (fun _ => pt_some hj) (fun _ => pj_a (fun _ => pj_a (fun _ => (ihagain20 _ hj))))))) (fun _ => pj_a (fun _ => pj_a (fun _ => (ihagain20 _ hj))))))) (fun _ => pj_a (fun _ => pj_a (fun _ => (ihagain20 _ hj)))))))))
theorem jf_X1_node {x0 : Nat} {x1 : Int32} {x2 : Int32} {x3 : Int32} {σ : zS}  (hj : σ.2.1 = L) : Pt (f_X1_node N x0 x1 x2 x3 σ) (fun r => r.2.2.1 = L) := by
  rw [f_X1_node.eq_1]
  exact pt_zb (jf_X1_headOf hj) (fun _ _ h1 => pj_a (fun _ => pj_a (fun _ => pt_lp (fun s => s.2.2.2.1 = L) (fun again s hI ih => jF_X1_node_20 ih hI) N _ h1)))
theorem jF_X1_grow_72 {x0 : Nat} {x4 : Int32} {again64 : (Int32 × zS) → Option (Unit × zS)} {again72 : (Int32 × zS) → Option (Unit × zS)} (ihagain64 : ∀ s : Int32 × zS, s.2.2.1 = L → Pt (again64 s) (fun r => r.2.2.1 = L)) (ihagain72 : ∀ s : Int32 × zS, s.2.2.1 = L → Pt (again72 s) (fun r => r.2.2.1 = L)) {s : Int32 × zS} (hj : s.2.2.1 = L) : Pt (F_X1_grow_72 N x0 x4 again64 again72 s) (fun r => r.2.2.1 = L) := by
  obtain ⟨x5, σ⟩ := s
  rw [F_X1_grow_72.eq_1]
  exact pt_if (fun _ => (ihagain64 _ hj)) (fun _ => pj_a (fun _ => pj_a (fun _ => pj_a (fun _ => pt_if (fun _ => pj_a (fun _ => pj_a (fun _ => pj_s (j_sI hj) (fun _ h1 => (ihagain72 _ h1))))) (fun _ => pj_a (fun _ => pj_a (fun _ => pj_a (fun _ => pt_zb (jf_X1_node hj) (fun _ _ h2 => pj_s (j_sI h2) (fun _ h3 => (ihagain72 _ h3)))))))))))
theorem jF_X1_grow_64 {x0 : Nat} {again64 : (Int32 × zS) → Option (Unit × zS)} (ihagain64 : ∀ s : Int32 × zS, s.2.2.1 = L → Pt (again64 s) (fun r => r.2.2.1 = L)) {s : Int32 × zS} (hj : s.2.2.1 = L) : Pt (F_X1_grow_64 N x0 again64 s) (fun r => r.2.2.1 = L) := by
  obtain ⟨x4, σ⟩ := s
  rw [F_X1_grow_64.eq_1]
  exact pt_if (fun _ => pt_some hj) (fun _ => pt_lp (fun s => s.2.2.1 = L) (fun again s hI ih => jF_X1_grow_72 ihagain64 ih hI) N _ hj)
theorem jF_X1_grow_16 {x0 : Nat} {x1 : Nat} {x2 : Int32} {x3 : Int32} {again16 : (Int32 × zS) → Option (Unit × zS)} (ihagain16 : ∀ s : Int32 × zS, s.2.2.1 = L → Pt (again16 s) (fun r => r.2.2.1 = L)) {s : Int32 × zS} (hj : s.2.2.1 = L) : Pt (F_X1_grow_16 N x0 x1 x2 x3 again16 s) (fun r => r.2.2.1 = L) := by
  obtain ⟨x4, σ⟩ := s
  rw [F_X1_grow_16.eq_1]
  exact pt_if (fun _ => pt_lp (fun s => s.2.2.1 = L) (fun again s hI ih => jF_X1_grow_64 ih hI) N _ hj) (fun _ => pj_a (fun _ => pj_a (fun _ => pj_a (fun _ => pj_a (fun _ => pt_zb (jf_X2_holds hj) (fun _ _ h1 => pt_if (fun _ => pj_s (j_sI h1) (fun _ h2 => (ihagain16 _ h2))) (fun _ => pj_s (j_sI h1) (fun _ h3 => (ihagain16 _ h3)))))))))
theorem jf_X1_grow {x0 : Nat} {x1 : Nat} {x2 : Int32} {σ : zS}  (hj : σ.2.1 = L) : Pt (f_X1_grow N x0 x1 x2 σ) (fun r => r.2.2.1 = L) := by
  rw [f_X1_grow.eq_1]
  exact pt_lp (fun s => s.2.2.1 = L) (fun again s hI ih => jF_X1_grow_16 ih hI) N _ hj
theorem jF_X1_reset_2 {x0 : Nat} {again2 : (Int32 × zS) → Option (Unit × zS)} (ihagain2 : ∀ s : Int32 × zS, s.2.2.1 = L → Pt (again2 s) (fun r => r.2.2.1 = L)) {s : Int32 × zS} (hj : s.2.2.1 = L) : Pt (F_X1_reset_2 N x0 again2 s) (fun r => r.2.2.1 = L) := by
  obtain ⟨x1, σ⟩ := s
  rw [F_X1_reset_2.eq_1]
  exact pj_a (fun _ => pt_if (fun _ => pj_a (fun _ => pt_zb (jf_J7_fill_53178 hj) (fun _ _ h1 => pj_s (j_pI h1) (fun _ h2 => pt_some h2)))) (fun _ => pj_a (fun _ => pj_a (fun _ => pj_a (fun _ => pj_a (fun _ => pj_a (fun _ => pj_a (fun _ => pj_a (fun _ => pt_zb (jf_X1_headOf hj) (fun _ _ h3 => pj_s (j_sI h3) (fun _ h4 => (ihagain2 _ h4))))))))))))
theorem jf_X1_reset {x0 : Nat} {σ : zS}  (hj : σ.2.1 = L) : Pt (f_X1_reset N x0 σ) (fun r => r.2.2.1 = L) := by
  rw [f_X1_reset.eq_1]
  exact pt_lp (fun s => s.2.2.1 = L) (fun again s hI ih => jF_X1_reset_2 ih hI) N _ hj
theorem jF_X1_spread_47 {x0 : Nat} {x1 : Nat} {x2 : Int32} {x3 : Int32} {x4 : Int32} {again9 : (Int32 × zS) → Option (Unit × zS)} {again47 : (Int32 × zS) → Option (Unit × zS)} (ihagain9 : ∀ s : Int32 × zS, s.2.2.1 = L → Pt (again9 s) (fun r => r.2.2.1 = L)) (ihagain47 : ∀ s : Int32 × zS, s.2.2.1 = L → Pt (again47 s) (fun r => r.2.2.1 = L)) {s : Int32 × zS} (hj : s.2.2.1 = L) : Pt (F_X1_spread_47 N x0 x1 x2 x3 x4 again9 again47 s) (fun r => r.2.2.1 = L) := by
  obtain ⟨x5, σ⟩ := s
  rw [F_X1_spread_47.eq_1]
  exact pt_if (fun _ => (ihagain9 _ hj)) (fun _ => pj_a (fun _ => pj_a (fun _ => pj_a (fun _ => pj_s (j_sI hj) (fun _ h1 => (ihagain47 _ h1))))))
theorem jF_X1_spread_9 {x0 : Nat} {x1 : Nat} {again9 : (Int32 × zS) → Option (Unit × zS)} (ihagain9 : ∀ s : Int32 × zS, s.2.2.1 = L → Pt (again9 s) (fun r => r.2.2.1 = L)) {s : Int32 × zS} (hj : s.2.2.1 = L) : Pt (F_X1_spread_9 N x0 x1 again9 s) (fun r => r.2.2.1 = L) := by
  obtain ⟨x2, σ⟩ := s
  rw [F_X1_spread_9.eq_1]
  exact pj_a (fun _ => pt_if (fun _ => pt_some hj) (fun _ => pt_if (fun _ => pt_some hj) (fun _ => pj_a (fun _ => pj_a (fun _ => pj_a (fun _ => pt_lp (fun s => s.2.2.1 = L) (fun again s hI ih => jF_X1_spread_47 ihagain9 ih hI) N _ hj))))))
theorem jf_X1_spread {x0 : Nat} {x1 : Nat} {σ : zS}  (hj : σ.2.1 = L) : Pt (f_X1_spread N x0 x1 σ) (fun r => r.2.2.1 = L) := by
  rw [f_X1_spread.eq_1]
  exact pj_a (fun _ => pj_s (j_sI hj) (fun _ h1 => pt_lp (fun s => s.2.2.1 = L) (fun again s hI ih => jF_X1_spread_9 ih hI) N _ h1))
theorem jf_X1_tallyOf {x0 : Nat} {x1 : Nat} {x2 : Nat} {σ : zS}  (hj : σ.2.1 = L) : Pt (f_X1_tallyOf N x0 x1 x2 σ) (fun r => r.2.2.1 = L) := by
  rw [f_X1_tallyOf.eq_1]
  exact pj_a (fun _ => pt_zb (jf_X1_reset hj) (fun _ _ h1 => pj_a (fun _ => pt_zb (jf_X1_spread h1) (fun _ _ h2 => pj_a (fun _ => pj_a (fun _ => pt_zb (jf_X1_grow h2) (fun _ _ h3 => pj_a (fun _ => pt_some h3))))))))
theorem jF_X10_firstLike_2 {x0 : Nat} {x1 : Int32} {again2 : (Int32 × zS) → Option (Int32 × zS)} (ihagain2 : ∀ s : Int32 × zS, s.2.2.1 = L → Pt (again2 s) (fun r => r.2.2.1 = L)) {s : Int32 × zS} (hj : s.2.2.1 = L) : Pt (F_X10_firstLike_2 N x0 x1 again2 s) (fun r => r.2.2.1 = L) := by
  obtain ⟨x2, σ⟩ := s
  rw [F_X10_firstLike_2.eq_1]
  exact pt_if (fun _ => pt_some hj) (fun _ => pt_if (fun _ => pt_some hj) (fun _ => pt_if (fun _ => (ihagain2 _ hj)) (fun _ => pj_a (fun _ => pj_a (fun _ => pj_a (fun _ => pj_a (fun _ => pj_a (fun _ => pt_zb (jf_X2_sameAs hj) (fun _ _ h1 => pt_if (fun _ => (ihagain2 _ h1)) (fun _ => pt_some h1))))))))))
theorem jf_X10_firstLike {x0 : Nat} {x1 : Int32} {σ : zS}  (hj : σ.2.1 = L) : Pt (f_X10_firstLike N x0 x1 σ) (fun r => r.2.2.1 = L) := by
  rw [f_X10_firstLike.eq_1]
  exact pt_lp (fun s => s.2.2.1 = L) (fun again s hI ih => jF_X10_firstLike_2 ih hI) N _ hj
theorem jF_X1_tallyOfAll_11 {x0 : Nat} {x1 : Nat} {again11 : (Int32 × zS) → Option (Int32 × zS)} (ihagain11 : ∀ s : Int32 × zS, s.2.2.1 = L → Pt (again11 s) (fun r => r.2.2.1 = L)) {s : Int32 × zS} (hj : s.2.2.1 = L) : Pt (F_X1_tallyOfAll_11 N x0 x1 again11 s) (fun r => r.2.2.1 = L) := by
  obtain ⟨x2, σ⟩ := s
  rw [F_X1_tallyOfAll_11.eq_1]
  exact pt_if (fun _ => pj_a (fun _ => pt_some hj)) (fun _ => pj_a (fun _ => pt_zb (jf_X10_firstLike hj) (fun _ _ h1 => pt_if (fun _ => pj_a (fun _ => pj_a (fun _ => pj_a (fun _ => pj_a (fun _ => pt_zb (jf_X1_grow h1) (fun _ _ h2 => (ihagain11 _ h2))))))) (fun _ => (ihagain11 _ h1)))))
theorem jf_X1_tallyOfAll {x0 : Nat} {x1 : Nat} {σ : zS}  (hj : σ.2.1 = L) : Pt (f_X1_tallyOfAll N x0 x1 σ) (fun r => r.2.2.1 = L) := by
  rw [f_X1_tallyOfAll.eq_1]
  exact pj_a (fun _ => pt_zb (jf_X1_reset hj) (fun _ _ h1 => pj_a (fun _ => pt_zb (jf_X1_spread h1) (fun _ _ h2 => pt_lp (fun s => s.2.2.1 = L) (fun again s hI ih => jF_X1_tallyOfAll_11 ih hI) N _ h2))))
theorem jf_X1_tallyAt {x0 : Nat} {x1 : Int32} {σ : zS}  (hj : σ.2.1 = L) : Pt (f_X1_tallyAt N x0 x1 σ) (fun r => r.2.2.1 = L) := by
  rw [f_X1_tallyAt.eq_1]
  exact pt_if (fun _ => pt_some hj) (fun _ => pt_if (fun _ => pt_some hj) (fun _ => pj_a (fun _ => pj_a (fun _ => pt_some hj))))
theorem jF_X2_tally_4 {x0 : Nat} {again4 : (Int32 × Int32 × zS) → Option (Int32 × zS)} (ihagain4 : ∀ s : Int32 × Int32 × zS, s.2.2.2.1 = L → Pt (again4 s) (fun r => r.2.2.1 = L)) {s : Int32 × Int32 × zS} (hj : s.2.2.2.1 = L) : Pt (F_X2_tally_4 N x0 again4 s) (fun r => r.2.2.1 = L) := by
  obtain ⟨x1, x2, σ⟩ := s
  rw [F_X2_tally_4.eq_1]
  exact pt_if (fun _ => pt_some hj) (fun _ => pj_a (fun _ => pj_a (fun _ => pt_zb (jf_J13_bitCount_95d88 hj) (fun _ _ h1 => (ihagain4 _ h1)))))
theorem jf_X2_tally {x0 : Nat} {σ : zS}  (hj : σ.2.1 = L) : Pt (f_X2_tally N x0 σ) (fun r => r.2.2.1 = L) := by
  rw [f_X2_tally.eq_1]
  exact pt_lp (fun s => s.2.2.2.1 = L) (fun again s hI ih => jF_X2_tally_4 ih hI) N _ hj
theorem jJ_X2_tallyBelow_36 {x0 : Nat} {x1 : Int32} {x2 : Int32} {σ : zS}  (hj : σ.2.1 = L) : Pt (J_X2_tallyBelow_36 N x0 x1 x2 σ) (fun r => r.2.2.1 = L) := by
  rw [J_X2_tallyBelow_36.eq_1]
  exact pt_if (fun _ => pt_some hj) (fun _ => pt_if (fun _ => pt_some hj) (fun _ => pj_a (fun _ => pj_a (fun _ => pt_zb (jf_J13_bitCount_95d88 hj) (fun _ _ h1 => pt_some h1)))))
theorem jF_X2_tallyBelow_4 {x0 : Nat} {x1 : Int32} {again4 : (Int32 × Int32 × zS) → Option (Int32 × zS)} (ihagain4 : ∀ s : Int32 × Int32 × zS, s.2.2.2.1 = L → Pt (again4 s) (fun r => r.2.2.1 = L)) {s : Int32 × Int32 × zS} (hj : s.2.2.2.1 = L) : Pt (F_X2_tallyBelow_4 N x0 x1 again4 s) (fun r => r.2.2.1 = L) := by
  obtain ⟨x2, x3, σ⟩ := s
  rw [F_X2_tallyBelow_4.eq_1]
  exact pt_if (fun _ => (jJ_X2_tallyBelow_36 hj)) (fun _ => pt_if (fun _ => (jJ_X2_tallyBelow_36 hj)) (fun _ => pj_a (fun _ => pj_a (fun _ => pt_zb (jf_J13_bitCount_95d88 hj) (fun _ _ h1 => (ihagain4 _ h1))))))
theorem jf_X2_tallyBelow {x0 : Nat} {x1 : Int32} {σ : zS}  (hj : σ.2.1 = L) : Pt (f_X2_tallyBelow N x0 x1 σ) (fun r => r.2.2.1 = L) := by
  rw [f_X2_tallyBelow.eq_1]
  exact pt_lp (fun s => s.2.2.2.1 = L) (fun again s hI ih => jF_X2_tallyBelow_4 ih hI) N _ hj
theorem jF_X2_pickInWord_6 {x3 : Int32} {again6 : (Int64 × Int32 × zS) → Option (Int32 × zS)} (ihagain6 : ∀ s : Int64 × Int32 × zS, s.2.2.2.1 = L → Pt (again6 s) (fun r => r.2.2.1 = L)) {s : Int64 × Int32 × zS} (hj : s.2.2.2.1 = L) : Pt (F_X2_pickInWord_6 N x3 again6 s) (fun r => r.2.2.1 = L) := by
  obtain ⟨x4, x6, σ⟩ := s
  rw [F_X2_pickInWord_6.eq_1]
  exact pt_if (fun _ => pt_zb (jf_J13_numberOfTrailingZeros_95d88 hj) (fun _ _ h1 => pt_some h1)) (fun _ => pt_if (fun _ => pt_zb (jf_J13_numberOfTrailingZeros_95d88 hj) (fun _ _ h2 => pt_some h2)) (fun _ => (ihagain6 _ hj)))
theorem jf_X2_pickInWord {x0 : Nat} {x1 : Int64} {x3 : Int32} {σ : zS}  (hj : σ.2.1 = L) : Pt (f_X2_pickInWord N x0 x1 x3 σ) (fun r => r.2.2.1 = L) := by
  rw [f_X2_pickInWord.eq_1]
  exact pt_lp (fun s => s.2.2.2.1 = L) (fun again s hI ih => jF_X2_pickInWord_6 ih hI) N _ hj
theorem jF_X2_pick_10 {x0 : Nat} {again10 : (Int32 × Int32 × zS) → Option (Int32 × zS)} (ihagain10 : ∀ s : Int32 × Int32 × zS, s.2.2.2.1 = L → Pt (again10 s) (fun r => r.2.2.1 = L)) {s : Int32 × Int32 × zS} (hj : s.2.2.2.1 = L) : Pt (F_X2_pick_10 N x0 again10 s) (fun r => r.2.2.1 = L) := by
  obtain ⟨x2, x3, σ⟩ := s
  rw [F_X2_pick_10.eq_1]
  exact pt_if (fun _ => pt_some hj) (fun _ => pj_a (fun _ => pj_a (fun _ => pt_zb (jf_J13_bitCount_95d88 hj) (fun _ _ h1 => pt_if (fun _ => (ihagain10 _ h1)) (fun _ => pj_a (fun _ => pj_a (fun _ => pj_a (fun _ => pt_zb (jf_X2_pickInWord h1) (fun _ _ h2 => pt_some h2)))))))))
theorem jf_X2_pick {x0 : Nat} {x1 : Int32} {σ : zS}  (hj : σ.2.1 = L) : Pt (f_X2_pick N x0 x1 σ) (fun r => r.2.2.1 = L) := by
  rw [f_X2_pick.eq_1]
  exact pt_if (fun _ => pt_lp (fun s => s.2.2.2.1 = L) (fun again s hI ih => jF_X2_pick_10 ih hI) N _ hj) (fun _ => pt_some hj)
theorem jF_X3_isGathered_3 {x0 : Nat} {x1 : Int64} {x3 : Int32} {again3 : (Int32 × zS) → Option (Int32 × zS)} (ihagain3 : ∀ s : Int32 × zS, s.2.2.1 = L → Pt (again3 s) (fun r => r.2.2.1 = L)) {s : Int32 × zS} (hj : s.2.2.1 = L) : Pt (F_X3_isGathered_3 N x0 x1 x3 again3 s) (fun r => r.2.2.1 = L) := by
  obtain ⟨x4, σ⟩ := s
  rw [F_X3_isGathered_3.eq_1]
  exact pt_if (fun _ => pt_rZ hj) (fun _ => pt_if (fun _ => pt_rZ hj) (fun _ => pj_a (fun _ => pj_a (fun _ => pt_if (fun _ => pt_rZ hj) (fun _ => (ihagain3 _ hj))))))
theorem jf_X3_isGathered {x0 : Nat} {x1 : Int64} {x3 : Int32} {σ : zS}  (hj : σ.2.1 = L) : Pt (f_X3_isGathered N x0 x1 x3 σ) (fun r => r.2.2.1 = L) := by
  rw [f_X3_isGathered.eq_1]
  exact pt_lp (fun s => s.2.2.1 = L) (fun again s hI ih => jF_X3_isGathered_3 ih hI) N _ hj
theorem jJ_X3_gatherParts_100 {again54 : (Int32 × Int32 × Int32 × zS) → Option (Int32 × zS)} {x0 : Nat} {x1 : Int64} {x3 : Int32} {x5 : Int64} {x8 : Int32} {x9 : Int32} {x7 : Int32} {σ : zS} (ihagain54 : ∀ s : Int32 × Int32 × Int32 × zS, s.2.2.2.2.1 = L → Pt (again54 s) (fun r => r.2.2.1 = L)) (hj : σ.2.1 = L) : Pt (J_X3_gatherParts_100 N again54 x0 x1 x3 x5 x8 x9 x7 σ) (fun r => r.2.2.1 = L) := by
  rw [J_X3_gatherParts_100.eq_1]
  exact pt_if (fun _ => pt_some hj) (fun _ => (ihagain54 _ hj))
theorem jF_X3_partsWith_30 {x0 : Nat} {x2 : Int32} {x3 : Int64} {again30 : (Int32 × Int32 × zS) → Option (Int32 × zS)} (ihagain30 : ∀ s : Int32 × Int32 × zS, s.2.2.2.1 = L → Pt (again30 s) (fun r => r.2.2.1 = L)) {s : Int32 × Int32 × zS} (hj : s.2.2.2.1 = L) : Pt (F_X3_partsWith_30 N x0 x2 x3 again30 s) (fun r => r.2.2.1 = L) := by
  obtain ⟨x5, x6, σ⟩ := s
  rw [F_X3_partsWith_30.eq_1]
  exact pt_if (fun _ => pt_some hj) (fun _ => pt_if (fun _ => pt_some hj) (fun _ => pj_a (fun _ => pj_a (fun _ => pt_if (fun _ => (ihagain30 _ hj)) (fun _ => (ihagain30 _ hj))))))
theorem jJ_X3_partsWith_23 {x0 : Nat} {x2 : Int32} {y0 : Int64} {σ : zS}  (hj : σ.2.1 = L) : Pt (J_X3_partsWith_23 N x0 x2 y0 σ) (fun r => r.2.2.1 = L) := by
  rw [J_X3_partsWith_23.eq_1]
  exact pt_lp (fun s => s.2.2.2.1 = L) (fun again s hI ih => jF_X3_partsWith_30 ih hI) N _ hj
theorem jf_X3_partsWith {x0 : Nat} {x1 : Int32} {x2 : Int32} {σ : zS}  (hj : σ.2.1 = L) : Pt (f_X3_partsWith N x0 x1 x2 σ) (fun r => r.2.2.1 = L) := by
  rw [f_X3_partsWith.eq_1]
  exact pt_if (fun _ => (jJ_X3_partsWith_23 hj)) (fun _ => pt_if (fun _ => (jJ_X3_partsWith_23 hj)) (fun _ => pj_a (fun _ => (jJ_X3_partsWith_23 hj))))
theorem jF_X3_weighAll_59 {x0 : Nat} {x1 : Nat} {x2 : Int32} {x3 : Int32} {x4 : Int32} {x5 : Int32} {again27 : (Int32 × zS) → Option (Unit × zS)} {again59 : (Int32 × zS) → Option (Unit × zS)} (ihagain27 : ∀ s : Int32 × zS, s.2.2.1 = L → Pt (again27 s) (fun r => r.2.2.1 = L)) (ihagain59 : ∀ s : Int32 × zS, s.2.2.1 = L → Pt (again59 s) (fun r => r.2.2.1 = L)) {s : Int32 × zS} (hj : s.2.2.1 = L) : Pt (F_X3_weighAll_59 N x0 x1 x2 x3 x4 x5 again27 again59 s) (fun r => r.2.2.1 = L) := by
  obtain ⟨x6, σ⟩ := s
  rw [F_X3_weighAll_59.eq_1]
  exact pt_if (fun _ => (ihagain27 _ hj)) (fun _ => pt_if (fun _ => (ihagain27 _ hj)) (fun _ => pt_if (fun _ => pj_a (fun _ => pt_zb (jf_X3_partsWith hj) (fun _ _ h1 => pj_a (fun _ => pj_a (fun _ => pj_a (fun _ => pj_a (fun _ => pt_if (fun _ => (ihagain59 _ h1)) (fun _ => pj_a (fun _ => pj_s (j_sI h1) (fun _ h2 => pj_a (fun _ => pj_s (j_sI h2) (fun _ h3 => (ihagain59 _ h3))))))))))))) (fun _ => (ihagain59 _ hj))))
theorem jf_X3_fewest {x0 : Nat} {σ : zS}  (hj : σ.2.1 = L) : Pt (f_X3_fewest N x0 σ) (fun r => r.2.2.1 = L) := by
  rw [f_X3_fewest.eq_1]
  exact pj_a (fun _ => pj_a (fun _ => pt_some hj))
theorem jF_X3_nameAt_4 {x0 : Nat} {x1 : Int32} {again4 : (Int32 × Int32 × zS) → Option (Int32 × zS)} (ihagain4 : ∀ s : Int32 × Int32 × zS, s.2.2.2.1 = L → Pt (again4 s) (fun r => r.2.2.1 = L)) {s : Int32 × Int32 × zS} (hj : s.2.2.2.1 = L) : Pt (F_X3_nameAt_4 N x0 x1 again4 s) (fun r => r.2.2.1 = L) := by
  obtain ⟨x2, x3, σ⟩ := s
  rw [F_X3_nameAt_4.eq_1]
  exact pt_if (fun _ => pj_a (fun _ => pj_a (fun _ => pt_some hj))) (fun _ => pt_if (fun _ => pj_a (fun _ => pj_a (fun _ => pt_some hj))) (fun _ => pj_a (fun _ => pj_a (fun _ => (ihagain4 _ hj)))))
theorem jf_X3_nameAt {x0 : Nat} {x1 : Int32} {σ : zS}  (hj : σ.2.1 = L) : Pt (f_X3_nameAt N x0 x1 σ) (fun r => r.2.2.1 = L) := by
  rw [f_X3_nameAt.eq_1]
  exact pt_lp (fun s => s.2.2.2.1 = L) (fun again s hI ih => jF_X3_nameAt_4 ih hI) N _ hj
theorem jF_X10_placeOf_2 {x0 : Nat} {x1 : Int32} {again2 : (Int32 × zS) → Option (Int32 × zS)} (ihagain2 : ∀ s : Int32 × zS, s.2.2.1 = L → Pt (again2 s) (fun r => r.2.2.1 = L)) {s : Int32 × zS} (hj : s.2.2.1 = L) : Pt (F_X10_placeOf_2 N x0 x1 again2 s) (fun r => r.2.2.1 = L) := by
  obtain ⟨x2, σ⟩ := s
  rw [F_X10_placeOf_2.eq_1]
  exact pj_a (fun _ => pt_if (fun _ => pt_some hj) (fun _ => pt_if (fun _ => pt_some hj) (fun _ => pj_a (fun _ => pj_a (fun _ => pt_if (fun _ => pt_some hj) (fun _ => (ihagain2 _ hj)))))))
theorem jf_X10_placeOf {x0 : Nat} {x1 : Int32} {σ : zS}  (hj : σ.2.1 = L) : Pt (f_X10_placeOf N x0 x1 σ) (fun r => r.2.2.1 = L) := by
  rw [f_X10_placeOf.eq_1]
  exact pt_lp (fun s => s.2.2.1 = L) (fun again s hI ih => jF_X10_placeOf_2 ih hI) N _ hj
theorem jF_X10_moveName_37 {x0 : Nat} {x1 : Int32} {x2 : Int32} {x3 : Int32} {x4 : Int32} {again37 : (Int32 × zS) → Option (Int32 × zS)} (ihagain37 : ∀ s : Int32 × zS, s.2.2.1 = L → Pt (again37 s) (fun r => r.2.2.1 = L)) {s : Int32 × zS} (hj : s.2.2.1 = L) : Pt (F_X10_moveName_37 N x0 x1 x2 x3 x4 again37 s) (fun r => r.2.2.1 = L) := by
  obtain ⟨x5, σ⟩ := s
  rw [F_X10_moveName_37.eq_1]
  exact pt_if (fun _ => pj_a (fun _ => pj_s (j_sI hj) (fun _ h1 => pt_some h1))) (fun _ => pt_if (fun _ => pj_a (fun _ => pj_s (j_sI hj) (fun _ h2 => pt_some h2))) (fun _ => pt_if (fun _ => pj_a (fun _ => pj_s (j_sI hj) (fun _ h3 => pt_some h3))) (fun _ => pj_a (fun _ => pj_a (fun _ => pj_a (fun _ => pj_s (j_sI hj) (fun _ h4 => (ihagain37 _ h4))))))))
theorem jJ_X10_moveName_32 {x0 : Nat} {x1 : Int32} {x2 : Int32} {x3 : Int32} {y0 : Int32} {σ : zS}  (hj : σ.2.1 = L) : Pt (J_X10_moveName_32 N x0 x1 x2 x3 y0 σ) (fun r => r.2.2.1 = L) := by
  rw [J_X10_moveName_32.eq_1]
  exact pt_lp (fun s => s.2.2.1 = L) (fun again s hI ih => jF_X10_moveName_37 ih hI) N _ hj
theorem jf_X10_moveName {x0 : Nat} {x1 : Int32} {x2 : Int32} {σ : zS}  (hj : σ.2.1 = L) : Pt (f_X10_moveName N x0 x1 x2 σ) (fun r => r.2.2.1 = L) := by
  rw [f_X10_moveName.eq_1]
  exact pj_a (fun _ => pt_zb (jf_X10_placeOf hj) (fun _ _ h1 => pt_if (fun _ => pt_some h1) (fun _ => pt_if (fun _ => pt_some h1) (fun _ => pt_if (fun _ => pt_if (fun _ => (jJ_X10_moveName_32 h1)) (fun _ => (jJ_X10_moveName_32 h1))) (fun _ => pt_some h1)))))
theorem jF_X3_siftAll_32 {x1 : Nat} {x2 : Nat} {x3 : Nat} {x5 : Int32} {again6 : (Int32 × Int32 × zS) → Option (Int32 × zS)} {again32 : (Int32 × Int32 × Int32 × zS) → Option (Int32 × zS)} (ihagain6 : ∀ s : Int32 × Int32 × zS, s.2.2.2.1 = L → Pt (again6 s) (fun r => r.2.2.1 = L)) (ihagain32 : ∀ s : Int32 × Int32 × Int32 × zS, s.2.2.2.2.1 = L → Pt (again32 s) (fun r => r.2.2.1 = L)) {s : Int32 × Int32 × Int32 × zS} (hj : s.2.2.2.2.1 = L) : Pt (F_X3_siftAll_32 N x1 x2 x3 x5 again6 again32 s) (fun r => r.2.2.1 = L) := by
  obtain ⟨x4, x6, x7, σ⟩ := s
  rw [F_X3_siftAll_32.eq_1]
  exact pj_a (fun _ => pt_if (fun _ => pj_a (fun _ => pt_zb (jf_X10_moveName hj) (fun _ _ h1 => (ihagain6 _ h1)))) (fun _ => pt_if (fun _ => pj_a (fun _ => pt_zb (jf_X10_moveName hj) (fun _ _ h2 => (ihagain6 _ h2)))) (fun _ => pj_a (fun _ => pt_zb (jf_X10_moveName hj) (fun _ _ h3 => pj_a (fun _ => pt_zb (jf_X1_tallyOf h3) (fun _ _ h4 => pt_if (fun _ => (ihagain32 _ h4)) (fun _ => (ihagain32 _ h4)))))))))
theorem jF_X3_siftAll_6 {x1 : Nat} {x2 : Nat} {x3 : Nat} {again6 : (Int32 × Int32 × zS) → Option (Int32 × zS)} (ihagain6 : ∀ s : Int32 × Int32 × zS, s.2.2.2.1 = L → Pt (again6 s) (fun r => r.2.2.1 = L)) {s : Int32 × Int32 × zS} (hj : s.2.2.2.1 = L) : Pt (F_X3_siftAll_6 N x1 x2 x3 again6 s) (fun r => r.2.2.1 = L) := by
  obtain ⟨x4, x5, σ⟩ := s
  rw [F_X3_siftAll_6.eq_1]
  exact pj_a (fun _ => pt_if (fun _ => pt_some hj) (fun _ => pt_if (fun _ => pt_some hj) (fun _ => pt_lp (fun s => s.2.2.2.2.1 = L) (fun again s hI ih => jF_X3_siftAll_32 ihagain6 ih hI) N _ hj)))
theorem jf_X3_siftAll {x0 : Nat} {x1 : Nat} {x2 : Nat} {x3 : Nat} {σ : zS}  (hj : σ.2.1 = L) : Pt (f_X3_siftAll N x0 x1 x2 x3 σ) (fun r => r.2.2.1 = L) := by
  rw [f_X3_siftAll.eq_1]
  exact pt_lp (fun s => s.2.2.2.1 = L) (fun again s hI ih => jF_X3_siftAll_6 ih hI) N _ hj
theorem jF_X4_load_18 {x0 : Nat} {x1 : Nat} {again18 : (Int32 × Int32 × zS) → Option (Unit × zS)} (ihagain18 : ∀ s : Int32 × Int32 × zS, s.2.2.2.1 = L → Pt (again18 s) (fun r => r.2.2.1 = L)) {s : Int32 × Int32 × zS} (hj : s.2.2.2.1 = L) : Pt (F_X4_load_18 N x0 x1 again18 s) (fun r => r.2.2.1 = L) := by
  obtain ⟨x2, x3, σ⟩ := s
  rw [F_X4_load_18.eq_1]
  exact pt_if (fun _ => pt_some hj) (fun _ => pt_if (fun _ => pt_some hj) (fun _ => pj_a (fun _ => pj_s (j_sI hj) (fun _ h1 => pj_a (fun _ => pj_s (j_pI h1) (fun _ h2 => pj_a (fun _ => pj_s (j_pI h2) (fun _ h3 => pj_a (fun _ => pt_zb (jf_X2_firstFrom h3) (fun _ _ h4 => (ihagain18 _ h4)))))))))))
theorem jf_X4_load {x0 : Nat} {x1 : Nat} {σ : zS}  (hj : σ.2.1 = L) : Pt (f_X4_load N x0 x1 σ) (fun r => r.2.2.1 = L) := by
  rw [f_X4_load.eq_1]
  exact pj_s (j_pI hj) (fun _ h1 => pj_s (j_pI h1) (fun _ h2 => pj_a (fun _ => pt_zb (jf_X2_firstFrom h2) (fun _ _ h3 => pt_lp (fun s => s.2.2.2.1 = L) (fun again s hI ih => jF_X4_load_18 ih hI) N _ h3))))
theorem jf_X5_isDigit {x0 : Int32} {σ : zS}  (hj : σ.2.1 = L) : Pt (f_X5_isDigit N x0 σ) (fun r => r.2.2.1 = L) := by
  rw [f_X5_isDigit.eq_1]
  exact pt_if (fun _ => pt_rZ hj) (fun _ => pt_if (fun _ => pt_rZ hj) (fun _ => pt_rZ hj))
theorem jf_X5_isLetter {x0 : Int32} {σ : zS}  (hj : σ.2.1 = L) : Pt (f_X5_isLetter N x0 σ) (fun r => r.2.2.1 = L) := by
  rw [f_X5_isLetter.eq_1]
  exact pt_if (fun _ => pt_rZ hj) (fun _ => pt_if (fun _ => pt_rZ hj) (fun _ => pt_rZ hj))
theorem jf_X5_combination {x0 : Int32} {σ : zS}  (hj : σ.2.1 = L) : Pt (f_X5_combination N x0 σ) (fun r => r.2.2.1 = L) := by
  rw [f_X5_combination.eq_1]
  exact pt_if (fun _ => pt_some hj) (fun _ => pt_if (fun _ => pt_some hj) (fun _ => pt_if (fun _ => pt_some hj) (fun _ => pt_if (fun _ => pt_some hj) (fun _ => pt_if (fun _ => pt_some hj) (fun _ => pt_if (fun _ => pt_some hj) (fun _ => pt_if (fun _ => pt_some hj) (fun _ => pt_if (fun _ => pt_some hj) (fun _ => pt_if (fun _ => pt_some hj) (fun _ => pt_if (fun _ => pt_some hj) (fun _ => pt_if (fun _ => pt_some hj) (fun _ => pt_if (fun _ => pt_some hj) (fun _ => pt_if (fun _ => pt_some hj) (fun _ => pt_some hj)))))))))))))
theorem jf_X5_isSign {x0 : Int32} {σ : zS}  (hj : σ.2.1 = L) : Pt (f_X5_isSign N x0 σ) (fun r => r.2.2.1 = L) := by
  rw [f_X5_isSign.eq_1]
  exact pt_if (fun _ => pt_rZ hj) (fun _ => pt_if (fun _ => pt_rZ hj) (fun _ => pt_if (fun _ => pt_rZ hj) (fun _ => pt_if (fun _ => pt_rZ hj) (fun _ => pt_if (fun _ => pt_rZ hj) (fun _ => pt_if (fun _ => pt_rZ hj) (fun _ => pt_if (fun _ => pt_rZ hj) (fun _ => pt_zb (jf_X5_combination hj) (fun _ _ h1 => pt_if (fun _ => pt_rZ h1) (fun _ => pt_rZ h1)))))))))
theorem jF_X5_splitNumber_5 {x0 : Nat} {x1 : Int32} {again5 : (Int32 × Int32 × zS) → Option (Int32 × zS)} (ihagain5 : ∀ s : Int32 × Int32 × zS, s.2.2.2.1 = L → Pt (again5 s) (fun r => r.2.2.1 = L)) {s : Int32 × Int32 × zS} (hj : s.2.2.2.1 = L) : Pt (F_X5_splitNumber_5 N x0 x1 again5 s) (fun r => r.2.2.1 = L) := by
  obtain ⟨x3, x4, σ⟩ := s
  rw [F_X5_splitNumber_5.eq_1]
  exact pj_a (fun _ => pt_if (fun _ => pj_a (fun _ => pj_s (j_sI hj) (fun _ h1 => pj_a (fun _ => pj_s (j_sI h1) (fun _ h2 => pt_some h2))))) (fun _ => pj_a (fun _ => pj_a (fun _ => pt_zb (jf_X5_isDigit hj) (fun _ _ h3 => pt_if (fun _ => pj_a (fun _ => pj_s (j_sI h3) (fun _ h4 => pj_a (fun _ => pj_s (j_sI h4) (fun _ h5 => pt_some h5))))) (fun _ => pj_a (fun _ => pj_a (fun _ => (ihagain5 _ h3)))))))))
theorem jf_X5_splitNumber {x0 : Nat} {x1 : Int32} {x2 : Int32} {σ : zS}  (hj : σ.2.1 = L) : Pt (f_X5_splitNumber N x0 x1 x2 σ) (fun r => r.2.2.1 = L) := by
  rw [f_X5_splitNumber.eq_1]
  exact pt_lp (fun s => s.2.2.2.1 = L) (fun again s hI ih => jF_X5_splitNumber_5 ih hI) N _ hj
theorem jF_X5_spells_27 {x0 : Nat} {x1 : Nat} {x2 : Int32} {again27 : (Int32 × zS) → Option (Int32 × zS)} (ihagain27 : ∀ s : Int32 × zS, s.2.2.1 = L → Pt (again27 s) (fun r => r.2.2.1 = L)) {s : Int32 × zS} (hj : s.2.2.1 = L) : Pt (F_X5_spells_27 N x0 x1 x2 again27 s) (fun r => r.2.2.1 = L) := by
  obtain ⟨x4, σ⟩ := s
  rw [F_X5_spells_27.eq_1]
  exact pt_zb (jf_J0_length_8abf5 hj) (fun _ _ h1 => pt_if (fun _ => pt_rZ h1) (fun _ => pj_a (fun _ => pj_a (fun _ => pt_zb (jf_J0_charAt_5068e h1) (fun _ _ h2 => pt_if (fun _ => (ihagain27 _ h2)) (fun _ => pt_rZ h2))))))
theorem jf_X5_spells {x0 : Nat} {x1 : Nat} {x2 : Int32} {x3 : Int32} {σ : zS}  (hj : σ.2.1 = L) : Pt (f_X5_spells N x0 x1 x2 x3 σ) (fun r => r.2.2.1 = L) := by
  rw [f_X5_spells.eq_1]
  exact pt_zb (jf_J0_length_8abf5 hj) (fun _ _ h1 => pt_if (fun _ => pt_if (fun _ => pt_rZ h1) (fun _ => pj_a (fun _ => pt_if (fun _ => pt_lp (fun s => s.2.2.1 = L) (fun again s hI ih => jF_X5_spells_27 ih hI) N _ h1) (fun _ => pt_rZ h1)))) (fun _ => pt_rZ h1))
theorem jf_X5_wordValue {x0 : Nat} {x1 : Int32} {x2 : Int32} {σ : zS}  (hj : σ.2.1 = L) : Pt (f_X5_wordValue N x0 x1 x2 σ) (fun r => r.2.2.1 = L) := by
  rw [f_X5_wordValue.eq_1]
  exact pj_a (fun _ => pt_zb (jf_X5_spells hj) (fun _ _ h1 => pt_if (fun _ => pj_a (fun _ => pt_zb (jf_X5_spells h1) (fun _ _ h2 => pt_if (fun _ => pj_a (fun _ => pt_zb (jf_X5_spells h2) (fun _ _ h3 => pt_if (fun _ => pj_a (fun _ => pt_zb (jf_X5_spells h3) (fun _ _ h4 => pt_if (fun _ => pj_a (fun _ => pt_zb (jf_X5_spells h4) (fun _ _ h5 => pt_if (fun _ => pj_a (fun _ => pt_zb (jf_X5_spells h5) (fun _ _ h6 => pt_if (fun _ => pj_a (fun _ => pt_zb (jf_X5_spells h6) (fun _ _ h7 => pt_if (fun _ => pj_a (fun _ => pt_zb (jf_X5_spells h7) (fun _ _ h8 => pt_if (fun _ => pj_a (fun _ => pt_zb (jf_X5_spells h8) (fun _ _ h9 => pt_if (fun _ => pj_a (fun _ => pt_zb (jf_X5_spells h9) (fun _ _ h10 => pt_if (fun _ => pj_a (fun _ => pt_zb (jf_X5_spells h10) (fun _ _ h11 => pt_if (fun _ => pt_some h11) (fun _ => pt_some h11)))) (fun _ => pt_some h10)))) (fun _ => pt_some h9)))) (fun _ => pt_some h8)))) (fun _ => pt_some h7)))) (fun _ => pt_some h6)))) (fun _ => pt_some h5)))) (fun _ => pt_some h4)))) (fun _ => pt_some h3)))) (fun _ => pt_some h2)))) (fun _ => pt_some h1)))
theorem jJ_X5_splitWord_28 {x0 : Nat} {x1 : Int32} {x2 : Int32} {x3 : Int32} {σ : zS}  (hj : σ.2.1 = L) : Pt (J_X5_splitWord_28 N x0 x1 x2 x3 σ) (fun r => r.2.2.1 = L) := by
  rw [J_X5_splitWord_28.eq_1]
  exact pj_a (fun _ => pj_s (j_sI hj) (fun _ h1 => pj_a (fun _ => pj_a (fun _ => pt_zb (jf_X5_wordValue h1) (fun _ _ h2 => pj_s (j_sI h2) (fun _ h3 => pt_some h3))))))
theorem jF_X5_splitWord_2 {x0 : Nat} {x1 : Int32} {x2 : Int32} {again2 : (Int32 × zS) → Option (Int32 × zS)} (ihagain2 : ∀ s : Int32 × zS, s.2.2.1 = L → Pt (again2 s) (fun r => r.2.2.1 = L)) {s : Int32 × zS} (hj : s.2.2.1 = L) : Pt (F_X5_splitWord_2 N x0 x1 x2 again2 s) (fun r => r.2.2.1 = L) := by
  obtain ⟨x3, σ⟩ := s
  rw [F_X5_splitWord_2.eq_1]
  exact pj_a (fun _ => pt_if (fun _ => (jJ_X5_splitWord_28 hj)) (fun _ => pj_a (fun _ => pj_a (fun _ => pt_zb (jf_X5_isLetter hj) (fun _ _ h1 => pt_if (fun _ => (jJ_X5_splitWord_28 h1)) (fun _ => (ihagain2 _ h1)))))))
theorem jf_X5_splitWord {x0 : Nat} {x1 : Int32} {x2 : Int32} {σ : zS}  (hj : σ.2.1 = L) : Pt (f_X5_splitWord N x0 x1 x2 σ) (fun r => r.2.2.1 = L) := by
  rw [f_X5_splitWord.eq_1]
  exact pt_lp (fun s => s.2.2.1 = L) (fun again s hI ih => jF_X5_splitWord_2 ih hI) N _ hj
theorem jJ_X5_split_142 {x0 : Nat} {x1 : Int32} {σ : zS}  (hj : σ.2.1 = L) : Pt (J_X5_split_142 N x0 x1 σ) (fun r => r.2.2.1 = L) := by
  rw [J_X5_split_142.eq_1]
  exact pj_a (fun _ => pj_s (j_sI hj) (fun _ h1 => pj_a (fun _ => pj_a (fun _ => pj_s (j_sI h1) (fun _ h2 => pj_a (fun _ => pj_a (fun _ => pj_s (j_sI h2) (fun _ h3 => pt_some h3))))))))
theorem jF_X5_split_4 {x0 : Nat} {again4 : (Int32 × Int32 × zS) → Option (Unit × zS)} (ihagain4 : ∀ s : Int32 × Int32 × zS, s.2.2.2.1 = L → Pt (again4 s) (fun r => r.2.2.1 = L)) {s : Int32 × Int32 × zS} (hj : s.2.2.2.1 = L) : Pt (F_X5_split_4 N x0 again4 s) (fun r => r.2.2.1 = L) := by
  obtain ⟨x1, x2, σ⟩ := s
  rw [F_X5_split_4.eq_1]
  exact pj_a (fun _ => pt_if (fun _ => (jJ_X5_split_142 hj)) (fun _ => pt_if (fun _ => (jJ_X5_split_142 hj)) (fun _ => pj_a (fun _ => pj_a (fun _ => pt_if (fun _ => (ihagain4 _ hj)) (fun _ => pj_a (fun _ => pj_a (fun _ => pt_if (fun _ => (ihagain4 _ hj)) (fun _ => pj_a (fun _ => pj_s (j_sI hj) (fun _ h1 => pj_a (fun _ => pj_a (fun _ => pt_zb (jf_X5_isLetter h1) (fun _ _ h2 => pt_if (fun _ => pj_a (fun _ => pj_a (fun _ => pt_zb (jf_X5_isDigit h2) (fun _ _ h3 => pt_if (fun _ => pj_a (fun _ => pj_a (fun _ => pj_a (fun _ => pt_zb (jf_X5_isSign h3) (fun _ _ h4 => pt_if (fun _ => pj_s (j_sI h4) (fun _ h5 => pj_a (fun _ => pj_s (j_sI h5) (fun _ h6 => (ihagain4 _ h6))))) (fun _ => pj_a (fun _ => pj_a (fun _ => pj_s (j_sI h4) (fun _ h7 => pj_a (fun _ => pj_s (j_sI h7) (fun _ h8 => (ihagain4 _ h8)))))))))))) (fun _ => pj_a (fun _ => pt_zb (jf_X5_splitNumber h3) (fun _ _ h9 => pj_a (fun _ => pj_s (j_sI h9) (fun _ h10 => (ihagain4 _ h10)))))))))) (fun _ => pj_a (fun _ => pt_zb (jf_X5_splitWord h2) (fun _ _ h11 => pj_a (fun _ => pj_s (j_sI h11) (fun _ h12 => (ihagain4 _ h12))))))))))))))))))))
theorem jf_X5_split {x0 : Nat} {σ : zS}  (hj : σ.2.1 = L) : Pt (f_X5_split N x0 σ) (fun r => r.2.2.1 = L) := by
  rw [f_X5_split.eq_1]
  exact pt_lp (fun s => s.2.2.2.1 = L) (fun again s hI ih => jF_X5_split_4 ih hI) N _ hj
theorem jf_X5_open {x0 : Nat} {x1 : Nat} {x2 : Int32} {σ : zS}  (hj : σ.2.1 = L) : Pt (f_X5_open N x0 x1 x2 σ) (fun r => r.2.2.1 = L) := by
  rw [f_X5_open.eq_1]
  exact pj_s (j_pR hj) (fun _ h1 => pj_a (fun _ => pj_s (j_pI h1) (fun _ h2 => pj_s (j_pI h2) (fun _ h3 => pj_s (j_pI h3) (fun _ h4 => pj_s (j_pI h4) (fun _ h5 => pj_s (j_pI h5) (fun _ h6 => pj_s (j_pI h6) (fun _ h7 => pj_s (j_pI h7) (fun _ h8 => pj_a (fun _ => pt_zb (jf_X5_split h8) (fun _ _ h9 => pt_some h9)))))))))))
theorem jf_X5_emit {x0 : Nat} {x1 : Int32} {x2 : Int32} {σ : zS}  (hj : σ.2.1 = L) : Pt (f_X5_emit N x0 x1 x2 σ) (fun r => r.2.2.1 = L) := by
  rw [f_X5_emit.eq_1]
  exact pj_a (fun _ => pt_if (fun _ => pt_rZ hj) (fun _ => pj_a (fun _ => pt_if (fun _ => pt_rZ hj) (fun _ => pj_a (fun _ => pj_a (fun _ => pj_s (j_sI hj) (fun _ h1 => pj_a (fun _ => pj_a (fun _ => pj_s (j_sI h1) (fun _ h2 => pj_a (fun _ => pj_s (j_pI h2) (fun _ h3 => pt_rZ h3))))))))))))
theorem jf_X5_advance {x0 : Nat} {x1 : Int32} {x2 : Int32} {σ : zS}  (hj : σ.2.1 = L) : Pt (f_X5_advance N x0 x1 x2 σ) (fun r => r.2.2.1 = L) := by
  rw [f_X5_advance.eq_1]
  exact pt_if (fun _ => pj_s (j_pI hj) (fun _ h1 => pj_a (fun _ => pj_a (fun _ => pj_a (fun _ => pj_s (j_pI h1) (fun _ h2 => pt_rZ h2)))))) (fun _ => pj_a (fun _ => pj_a (fun _ => pj_a (fun _ => pt_if (fun _ => pt_rZ hj) (fun _ => pj_a (fun _ => pt_if (fun _ => pt_rZ hj) (fun _ => pj_a (fun _ => pj_s (j_pI hj) (fun _ h3 => pt_rZ h3)))))))))
theorem jf_X5_fail {x0 : Nat} {x1 : Int32} {σ : zS}  (hj : σ.2.1 = L) : Pt (f_X5_fail N x0 x1 σ) (fun r => r.2.2.1 = L) := by
  rw [f_X5_fail.eq_1]
  exact pj_a (fun _ => pt_zb (jf_X5_advance hj) (fun _ _ h1 => pt_rZ h1))
theorem jf_X5_pass {x0 : Nat} {x1 : Int32} {σ : zS}  (hj : σ.2.1 = L) : Pt (f_X5_pass N x0 x1 σ) (fun r => r.2.2.1 = L) := by
  rw [f_X5_pass.eq_1]
  exact pj_a (fun _ => pj_a (fun _ => pj_a (fun _ => pt_if (fun _ => pj_a (fun _ => pt_zb (jf_X5_advance hj) (fun _ _ h1 => pt_rZ h1))) (fun _ => pj_a (fun _ => pt_zb (jf_X5_advance hj) (fun _ _ h2 => pt_rZ h2))))))
theorem jf_X5_passNumber {x0 : Nat} {x1 : Int32} {x2 : Int32} {σ : zS}  (hj : σ.2.1 = L) : Pt (f_X5_passNumber N x0 x1 x2 σ) (fun r => r.2.2.1 = L) := by
  rw [f_X5_passNumber.eq_1]
  exact pj_a (fun _ => pj_a (fun _ => pj_a (fun _ => pt_if (fun _ => pj_a (fun _ => pj_a (fun _ => pj_a (fun _ => pt_if (fun _ => pj_a (fun _ => pt_zb (jf_X5_advance hj) (fun _ _ h1 => pt_rZ h1))) (fun _ => pj_a (fun _ => pj_a (fun _ => pj_a (fun _ => pt_if (fun _ => pj_a (fun _ => pt_zb (jf_X5_advance hj) (fun _ _ h2 => pt_rZ h2))) (fun _ => pj_a (fun _ => pt_zb (jf_X5_advance hj) (fun _ _ h3 => pt_rZ h3))))))))))) (fun _ => pj_a (fun _ => pt_zb (jf_X5_fail hj) (fun _ _ h4 => pt_rZ h4))))))
theorem jf_X10_addEdge {x0 : Nat} {x1 : Int32} {x2 : Int32} {σ : zS}  (hj : σ.2.1 = L) : Pt (f_X10_addEdge N x0 x1 x2 σ) (fun r => r.2.2.1 = L) := by
  rw [f_X10_addEdge.eq_1]
  exact pj_a (fun _ => pt_if (fun _ => pt_some hj) (fun _ => pj_a (fun _ => pt_if (fun _ => pt_some hj) (fun _ => pj_a (fun _ => pj_a (fun _ => pj_s (j_sI hj) (fun _ h1 => pj_a (fun _ => pj_a (fun _ => pj_s (j_sI h1) (fun _ h2 => pj_a (fun _ => pj_s (j_pI h2) (fun _ h3 => pt_some h3))))))))))))
theorem jf_X5_passed {x0 : Nat} {σ : zS}  (hj : σ.2.1 = L) : Pt (f_X5_passed N x0 σ) (fun r => r.2.2.1 = L) := by
  rw [f_X5_passed.eq_1]
  exact pj_a (fun _ => pt_if (fun _ => pt_some hj) (fun _ => pj_a (fun _ => pj_a (fun _ => pj_a (fun _ => pt_some hj)))))
theorem jJ_X5_readEdge_49 {x0 : Nat} {x1 : Nat} {x2 : Int32} {σ : zS}  (hj : σ.2.1 = L) : Pt (J_X5_readEdge_49 N x0 x1 x2 σ) (fun r => r.2.2.1 = L) := by
  rw [J_X5_readEdge_49.eq_1]
  exact pj_a (fun _ => pt_zb (jf_X5_passNumber hj) (fun _ _ h1 => pt_if (fun _ => pt_rZ h1) (fun _ => pj_a (fun _ => pt_zb (jf_X5_passed h1) (fun _ _ h2 => pj_a (fun _ => pt_zb (jf_X10_addEdge h2) (fun _ _ h3 => pt_rZ h3)))))))
theorem jf_X5_readEdge {x0 : Nat} {x1 : Nat} {σ : zS}  (hj : σ.2.1 = L) : Pt (f_X5_readEdge N x0 x1 σ) (fun r => r.2.2.1 = L) := by
  rw [f_X5_readEdge.eq_1]
  exact pj_a (fun _ => pt_zb (jf_X5_passNumber hj) (fun _ _ h1 => pt_if (fun _ => pt_rZ h1) (fun _ => pj_a (fun _ => pt_zb (jf_X5_passed h1) (fun _ _ h2 => pj_a (fun _ => pj_a (fun _ => pj_a (fun _ => pt_if (fun _ => pj_a (fun _ => pj_a (fun _ => pj_a (fun _ => pt_if (fun _ => pj_a (fun _ => pt_zb (jf_X5_fail h2) (fun _ _ h3 => pt_rZ h3))) (fun _ => (jJ_X5_readEdge_49 h2)))))) (fun _ => (jJ_X5_readEdge_49 h2))))))))))
theorem jf_X5_readNames {x0 : Nat} {x1 : Nat} {σ : zS}  (hj : σ.2.1 = L) : Pt (f_X5_readNames N x0 x1 σ) (fun r => r.2.2.1 = L) := by
  rw [f_X5_readNames.eq_1]
  exact pj_a (fun _ => pt_zb (jf_X5_passNumber hj) (fun _ _ h1 => pt_if (fun _ => pt_rZ h1) (fun _ => pj_a (fun _ => pt_zb (jf_X5_passed h1) (fun _ _ h2 => pj_s (j_pI h2) (fun _ h3 => pj_a (fun _ => pj_s (j_pI h3) (fun _ h4 => pt_rZ h4))))))))
theorem jJ_X5_readWeight_83 {x0 : Nat} {x1 : Nat} {x2 : Int32} {y0 : Int32} {σ : zS}  (hj : σ.2.1 = L) : Pt (J_X5_readWeight_83 N x0 x1 x2 y0 σ) (fun r => r.2.2.1 = L) := by
  rw [J_X5_readWeight_83.eq_1]
  exact pj_a (fun _ => pt_zb (jf_X5_advance hj) (fun _ _ h1 => pt_if (fun _ => pt_rZ h1) (fun _ => pj_a (fun _ => pt_zb (jf_X5_passNumber h1) (fun _ _ h2 => pt_if (fun _ => pt_rZ h2) (fun _ => pj_a (fun _ => pj_a (fun _ => pt_zb (jf_X5_passed h2) (fun _ _ h3 => pj_s (j_sI h3) (fun _ h4 => pt_rZ h4))))))))))
theorem jf_X5_readWeight {x0 : Nat} {x1 : Nat} {σ : zS}  (hj : σ.2.1 = L) : Pt (f_X5_readWeight N x0 x1 σ) (fun r => r.2.2.1 = L) := by
  rw [f_X5_readWeight.eq_1]
  exact pj_a (fun _ => pj_a (fun _ => pj_a (fun _ => pt_if (fun _ => pj_a (fun _ => pj_a (fun _ => pj_a (fun _ => pj_a (fun _ => pj_a (fun _ => pj_a (fun _ => pt_if (fun _ => pj_a (fun _ => pj_a (fun _ => pj_a (fun _ => pj_a (fun _ => pj_a (fun _ => pt_if (fun _ => (jJ_X5_readWeight_83 hj)) (fun _ => pj_a (fun _ => pt_if (fun _ => (jJ_X5_readWeight_83 hj)) (fun _ => pt_if (fun _ => (jJ_X5_readWeight_83 hj)) (fun _ => (jJ_X5_readWeight_83 hj))))))))))) (fun _ => pj_a (fun _ => pt_zb (jf_X5_fail hj) (fun _ _ h1 => pt_rZ h1)))))))))) (fun _ => pj_a (fun _ => pt_zb (jf_X5_fail hj) (fun _ _ h2 => pt_rZ h2))))))
theorem jJ_X5_member_31 {x0 : Nat} {y0 : Int32} {y1 : Nat} {σ : zS}  (hj : σ.2.1 = L) : Pt (J_X5_member_31 N x0 y0 y1 σ) (fun r => r.2.2.1 = L) := by
  rw [J_X5_member_31.eq_1]
  exact pj_a (fun _ => pt_zb (jf_X5_advance hj) (fun _ _ h1 => pt_if (fun _ => pt_rZ h1) (fun _ => pj_a (fun _ => pt_zb (jf_X5_emit h1) (fun _ _ h2 => pt_if (fun _ => pt_rZ h2) (fun _ => pt_rZ h2))))))
theorem jJ_X5_member_173 {x0 : Nat} {x1 : Int32} {x2 : Int32} {σ : zS}  (hj : σ.2.1 = L) : Pt (J_X5_member_173 N x0 x1 x2 σ) (fun r => r.2.2.1 = L) := by
  rw [J_X5_member_173.eq_1]
  exact pj_a (fun _ => pt_zb (jf_X5_advance hj) (fun _ _ h1 => pt_if (fun _ => pt_rZ h1) (fun _ => pj_a (fun _ => pt_zb (jf_X5_emit h1) (fun _ _ h2 => pt_if (fun _ => pt_rZ h2) (fun _ => pt_rZ h2))))))
theorem jJ_X5_member_151 {again87 : (Int32 × Int32 × Int32 × zS) → Option (Int32 × zS)} {x0 : Nat} {x1 : Int32} {x3 : Int32} {x4 : Int32} {y0 : Int32} {σ : zS} (ihagain87 : ∀ s : Int32 × Int32 × Int32 × zS, s.2.2.2.2.1 = L → Pt (again87 s) (fun r => r.2.2.1 = L)) (hj : σ.2.1 = L) : Pt (J_X5_member_151 N again87 x0 x1 x3 x4 y0 σ) (fun r => r.2.2.1 = L) := by
  rw [J_X5_member_151.eq_1]
  exact pt_if (fun _ => (ihagain87 _ hj)) (fun _ => (ihagain87 _ hj))
theorem jF_X5_member_87 {x0 : Nat} {again87 : (Int32 × Int32 × Int32 × zS) → Option (Int32 × zS)} (ihagain87 : ∀ s : Int32 × Int32 × Int32 × zS, s.2.2.2.2.1 = L → Pt (again87 s) (fun r => r.2.2.1 = L)) {s : Int32 × Int32 × Int32 × zS} (hj : s.2.2.2.2.1 = L) : Pt (F_X5_member_87 N x0 again87 s) (fun r => r.2.2.1 = L) := by
  obtain ⟨x1, x2, x3, σ⟩ := s
  rw [F_X5_member_87.eq_1]
  exact pj_a (fun _ => pj_a (fun _ => pj_a (fun _ => pt_if (fun _ => (jJ_X5_member_173 hj)) (fun _ => pj_a (fun _ => pt_if (fun _ => (jJ_X5_member_173 hj)) (fun _ => pj_a (fun _ => pj_a (fun _ => pt_if (fun _ => (jJ_X5_member_151 ihagain87 hj)) (fun _ => pt_if (fun _ => (jJ_X5_member_151 ihagain87 hj)) (fun _ => pj_a (fun _ => pt_if (fun _ => (jJ_X5_member_151 ihagain87 hj)) (fun _ => pt_if (fun _ => (jJ_X5_member_151 ihagain87 hj)) (fun _ => (jJ_X5_member_151 ihagain87 hj))))))))))))))
theorem jf_X5_member {x0 : Nat} {σ : zS}  (hj : σ.2.1 = L) : Pt (f_X5_member N x0 σ) (fun r => r.2.2.1 = L) := by
  rw [f_X5_member.eq_1]
  exact pj_a (fun _ => pj_a (fun _ => pj_a (fun _ => pt_if (fun _ => pj_a (fun _ => pj_a (fun _ => pj_a (fun _ => pt_if (fun _ => (jJ_X5_member_31 hj)) (fun _ => (jJ_X5_member_31 hj)))))) (fun _ => pj_a (fun _ => pj_a (fun _ => pj_a (fun _ => pt_if (fun _ => pj_a (fun _ => pj_a (fun _ => pj_a (fun _ => pt_lp (fun s => s.2.2.2.2.1 = L) (fun again s hI ih => jF_X5_member_87 ih hI) N _ hj)))) (fun _ => pj_a (fun _ => pt_zb (jf_X5_advance hj) (fun _ _ h1 => pt_rZ h1))))))))))
theorem jF_X5_family_37 {x0 : Nat} {again37 : (Int32 × zS) → Option (Int32 × zS)} (ihagain37 : ∀ s : Int32 × zS, s.2.2.1 = L → Pt (again37 s) (fun r => r.2.2.1 = L)) {s : Int32 × zS} (hj : s.2.2.1 = L) : Pt (F_X5_family_37 N x0 again37 s) (fun r => r.2.2.1 = L) := by
  obtain ⟨x1, σ⟩ := s
  rw [F_X5_family_37.eq_1]
  exact pt_if (fun _ => pj_a (fun _ => pt_zb (jf_X5_fail hj) (fun _ _ h1 => pt_rZ h1))) (fun _ => pj_a (fun _ => pt_zb (jf_X5_member hj) (fun _ _ h2 => pt_if (fun _ => pt_rZ h2) (fun _ => pj_a (fun _ => pj_a (fun _ => pj_a (fun _ => pt_if (fun _ => pj_a (fun _ => pt_zb (jf_X5_pass h2) (fun _ _ h3 => (ihagain37 _ h3)))) (fun _ => pj_a (fun _ => pt_zb (jf_X5_pass h2) (fun _ _ h4 => pt_rZ h4))))))))))
theorem jf_X5_family {x0 : Nat} {σ : zS}  (hj : σ.2.1 = L) : Pt (f_X5_family N x0 σ) (fun r => r.2.2.1 = L) := by
  rw [f_X5_family.eq_1]
  exact pj_a (fun _ => pt_zb (jf_X5_pass hj) (fun _ _ h1 => pj_a (fun _ => pt_zb (jf_X5_emit h1) (fun _ _ h2 => pj_a (fun _ => pj_a (fun _ => pj_a (fun _ => pt_if (fun _ => pj_a (fun _ => pt_zb (jf_X5_pass h2) (fun _ _ h3 => pt_rZ h3))) (fun _ => pt_lp (fun s => s.2.2.1 = L) (fun again s hI ih => jF_X5_family_37 ih hI) N _ h2))))))))
theorem jJ_X5_sum_151 {r0 : Nat → Int32 → zS → Option (Int32 × zS)} {r1 : Nat → Int32 → zS → Option (Int32 × zS)} {r2 : Nat → Int32 → Int32 → zS → Option (Int32 × zS)} {x0 : Nat} {x2 : Int32} {σ : zS} (hr0 : ∀ (a0 : Nat) (a1 : Int32) (a2 : zS), a2.2.1 = L → Pt (r0 a0 a1 a2) (fun r => r.2.2.1 = L)) (hr1 : ∀ (a0 : Nat) (a1 : Int32) (a2 : zS), a2.2.1 = L → Pt (r1 a0 a1 a2) (fun r => r.2.2.1 = L)) (hr2 : ∀ (a0 : Nat) (a1 : Int32) (a2 : Int32) (a3 : zS), a3.2.1 = L → Pt (r2 a0 a1 a2 a3) (fun r => r.2.2.1 = L)) (hj : σ.2.1 = L) : Pt (J_X5_sum_151 N r0 r1 r2 x0 x2 σ) (fun r => r.2.2.1 = L) := by
  rw [J_X5_sum_151.eq_1]
  exact pt_if (fun _ => pt_rZ hj) (fun _ => pj_a (fun _ => pt_zb (jf_X5_emit hj) (fun _ _ h1 => pt_if (fun _ => pt_rZ h1) (fun _ => pt_rZ h1))))
theorem jJ_X5_sum_109 {r0 : Nat → Int32 → zS → Option (Int32 × zS)} {r1 : Nat → Int32 → zS → Option (Int32 × zS)} {r2 : Nat → Int32 → Int32 → zS → Option (Int32 × zS)} {again14 : (Int32 × Int32 × zS) → Option (Int32 × zS)} {x0 : Nat} {x1 : Int32} {x2 : Int32} {x3 : Int32} {x4 : Int32} {x5 : Int32} {y0 : Int32} {y1 : Nat} {σ : zS} (hr0 : ∀ (a0 : Nat) (a1 : Int32) (a2 : zS), a2.2.1 = L → Pt (r0 a0 a1 a2) (fun r => r.2.2.1 = L)) (hr1 : ∀ (a0 : Nat) (a1 : Int32) (a2 : zS), a2.2.1 = L → Pt (r1 a0 a1 a2) (fun r => r.2.2.1 = L)) (hr2 : ∀ (a0 : Nat) (a1 : Int32) (a2 : Int32) (a3 : zS), a3.2.1 = L → Pt (r2 a0 a1 a2 a3) (fun r => r.2.2.1 = L)) (ihagain14 : ∀ s : Int32 × Int32 × zS, s.2.2.2.1 = L → Pt (again14 s) (fun r => r.2.2.1 = L)) (hj : σ.2.1 = L) : Pt (J_X5_sum_109 N r0 r1 r2 again14 x0 x1 x2 x3 x4 x5 y0 y1 σ) (fun r => r.2.2.1 = L) := by
  rw [J_X5_sum_109.eq_1]
  exact pj_a (fun _ => pt_zb (jf_X5_advance hj) (fun _ _ h1 => pt_if (fun _ => pt_rZ h1) (fun _ => pj_a (fun _ => pt_zb (hr1 _ _ _ h1) (fun _ _ h2 => pt_if (fun _ => pt_rZ h2) (fun _ => pt_if (fun _ => pj_a (fun _ => pt_zb (jf_X5_emit h2) (fun _ _ h3 => (ihagain14 _ h3)))) (fun _ => (ihagain14 _ h2))))))))
theorem jJ_X5_sum_84 {r0 : Nat → Int32 → zS → Option (Int32 × zS)} {r1 : Nat → Int32 → zS → Option (Int32 × zS)} {r2 : Nat → Int32 → Int32 → zS → Option (Int32 × zS)} {again14 : (Int32 × Int32 × zS) → Option (Int32 × zS)} {x0 : Nat} {x1 : Int32} {x2 : Int32} {x3 : Int32} {x4 : Int32} {x5 : Int32} {σ : zS} (hr0 : ∀ (a0 : Nat) (a1 : Int32) (a2 : zS), a2.2.1 = L → Pt (r0 a0 a1 a2) (fun r => r.2.2.1 = L)) (hr1 : ∀ (a0 : Nat) (a1 : Int32) (a2 : zS), a2.2.1 = L → Pt (r1 a0 a1 a2) (fun r => r.2.2.1 = L)) (hr2 : ∀ (a0 : Nat) (a1 : Int32) (a2 : Int32) (a3 : zS), a3.2.1 = L → Pt (r2 a0 a1 a2 a3) (fun r => r.2.2.1 = L)) (ihagain14 : ∀ s : Int32 × Int32 × zS, s.2.2.2.1 = L → Pt (again14 s) (fun r => r.2.2.1 = L)) (hj : σ.2.1 = L) : Pt (J_X5_sum_84 N r0 r1 r2 again14 x0 x1 x2 x3 x4 x5 σ) (fun r => r.2.2.1 = L) := by
  rw [J_X5_sum_84.eq_1]
  exact pj_a (fun _ => pj_s (j_pI hj) (fun _ h1 => pj_a (fun _ => pt_if (fun _ => (jJ_X5_sum_109 hr0 hr1 hr2 ihagain14 h1)) (fun _ => (jJ_X5_sum_109 hr0 hr1 hr2 ihagain14 h1)))))
theorem jJ_X5_sum_66 {r0 : Nat → Int32 → zS → Option (Int32 × zS)} {r1 : Nat → Int32 → zS → Option (Int32 × zS)} {r2 : Nat → Int32 → Int32 → zS → Option (Int32 × zS)} {again14 : (Int32 × Int32 × zS) → Option (Int32 × zS)} {x0 : Nat} {x1 : Int32} {x2 : Int32} {x3 : Int32} {x4 : Int32} {y0 : Int32} {σ : zS} (hr0 : ∀ (a0 : Nat) (a1 : Int32) (a2 : zS), a2.2.1 = L → Pt (r0 a0 a1 a2) (fun r => r.2.2.1 = L)) (hr1 : ∀ (a0 : Nat) (a1 : Int32) (a2 : zS), a2.2.1 = L → Pt (r1 a0 a1 a2) (fun r => r.2.2.1 = L)) (hr2 : ∀ (a0 : Nat) (a1 : Int32) (a2 : Int32) (a3 : zS), a3.2.1 = L → Pt (r2 a0 a1 a2 a3) (fun r => r.2.2.1 = L)) (ihagain14 : ∀ s : Int32 × Int32 × zS, s.2.2.2.1 = L → Pt (again14 s) (fun r => r.2.2.1 = L)) (hj : σ.2.1 = L) : Pt (J_X5_sum_66 N r0 r1 r2 again14 x0 x1 x2 x3 x4 y0 σ) (fun r => r.2.2.1 = L) := by
  rw [J_X5_sum_66.eq_1]
  exact pt_if (fun _ => (jJ_X5_sum_84 hr0 hr1 hr2 ihagain14 hj)) (fun _ => pt_if (fun _ => (jJ_X5_sum_84 hr0 hr1 hr2 ihagain14 hj)) (fun _ => pj_a (fun _ => pt_zb (jf_X5_emit hj) (fun _ _ h1 => (jJ_X5_sum_84 hr0 hr1 hr2 ihagain14 h1)))))
theorem jF_X5_sum_14 {r0 : Nat → Int32 → zS → Option (Int32 × zS)} {r1 : Nat → Int32 → zS → Option (Int32 × zS)} {r2 : Nat → Int32 → Int32 → zS → Option (Int32 × zS)} {x0 : Nat} {x1 : Int32} {again14 : (Int32 × Int32 × zS) → Option (Int32 × zS)} (hr0 : ∀ (a0 : Nat) (a1 : Int32) (a2 : zS), a2.2.1 = L → Pt (r0 a0 a1 a2) (fun r => r.2.2.1 = L)) (hr1 : ∀ (a0 : Nat) (a1 : Int32) (a2 : zS), a2.2.1 = L → Pt (r1 a0 a1 a2) (fun r => r.2.2.1 = L)) (hr2 : ∀ (a0 : Nat) (a1 : Int32) (a2 : Int32) (a3 : zS), a3.2.1 = L → Pt (r2 a0 a1 a2 a3) (fun r => r.2.2.1 = L)) (ihagain14 : ∀ s : Int32 × Int32 × zS, s.2.2.2.1 = L → Pt (again14 s) (fun r => r.2.2.1 = L)) {s : Int32 × Int32 × zS} (hj : s.2.2.2.1 = L) : Pt (F_X5_sum_14 N r0 r1 r2 x0 x1 again14 s) (fun r => r.2.2.1 = L) := by
  obtain ⟨x2, x3, σ⟩ := s
  rw [F_X5_sum_14.eq_1]
  exact pt_if (fun _ => (jJ_X5_sum_151 hr0 hr1 hr2 hj)) (fun _ => pj_a (fun _ => pj_a (fun _ => pj_a (fun _ => pt_zb (jf_X5_combination hj) (fun _ _ h1 => pt_if (fun _ => (jJ_X5_sum_151 hr0 hr1 hr2 h1)) (fun _ => pj_a (fun _ => pj_a (fun _ => pj_a (fun _ => pt_zb (jf_X5_combination h1) (fun _ _ h2 => pt_if (fun _ => (jJ_X5_sum_66 hr0 hr1 hr2 ihagain14 h2)) (fun _ => pt_if (fun _ => (jJ_X5_sum_66 hr0 hr1 hr2 ihagain14 h2)) (fun _ => (jJ_X5_sum_66 hr0 hr1 hr2 ihagain14 h2)))))))))))))
theorem jJ_X5_part_97 {r0 : Nat → Int32 → zS → Option (Int32 × zS)} {r1 : Nat → Int32 → zS → Option (Int32 × zS)} {r2 : Nat → Int32 → Int32 → zS → Option (Int32 × zS)} {x0 : Nat} {x1 : Int32} {y0 : Int32} {y1 : Nat} {σ : zS} (hr0 : ∀ (a0 : Nat) (a1 : Int32) (a2 : zS), a2.2.1 = L → Pt (r0 a0 a1 a2) (fun r => r.2.2.1 = L)) (hr1 : ∀ (a0 : Nat) (a1 : Int32) (a2 : zS), a2.2.1 = L → Pt (r1 a0 a1 a2) (fun r => r.2.2.1 = L)) (hr2 : ∀ (a0 : Nat) (a1 : Int32) (a2 : Int32) (a3 : zS), a3.2.1 = L → Pt (r2 a0 a1 a2 a3) (fun r => r.2.2.1 = L)) (hj : σ.2.1 = L) : Pt (J_X5_part_97 N r0 r1 r2 x0 x1 y0 y1 σ) (fun r => r.2.2.1 = L) := by
  rw [J_X5_part_97.eq_1]
  exact pj_a (fun _ => pt_zb (jf_X5_advance hj) (fun _ _ h1 => pt_if (fun _ => pt_rZ h1) (fun _ => pj_a (fun _ => pt_zb (hr0 _ _ _ h1) (fun _ _ h2 => pt_if (fun _ => pt_rZ h2) (fun _ => pj_a (fun _ => pt_zb (jf_X5_pass h2) (fun _ _ h3 => pt_if (fun _ => pt_rZ h3) (fun _ => pt_rZ h3)))))))))
theorem jJ_X5_wordPart_52 {r0 : Nat → Int32 → zS → Option (Int32 × zS)} {r1 : Nat → Int32 → zS → Option (Int32 × zS)} {r2 : Nat → Int32 → Int32 → zS → Option (Int32 × zS)} {x0 : Nat} {x1 : Int32} {x2 : Int32} {y0 : Int32} {y1 : Nat} {σ : zS} (hr0 : ∀ (a0 : Nat) (a1 : Int32) (a2 : zS), a2.2.1 = L → Pt (r0 a0 a1 a2) (fun r => r.2.2.1 = L)) (hr1 : ∀ (a0 : Nat) (a1 : Int32) (a2 : zS), a2.2.1 = L → Pt (r1 a0 a1 a2) (fun r => r.2.2.1 = L)) (hr2 : ∀ (a0 : Nat) (a1 : Int32) (a2 : Int32) (a3 : zS), a3.2.1 = L → Pt (r2 a0 a1 a2 a3) (fun r => r.2.2.1 = L)) (hj : σ.2.1 = L) : Pt (J_X5_wordPart_52 N r0 r1 r2 x0 x1 x2 y0 y1 σ) (fun r => r.2.2.1 = L) := by
  rw [J_X5_wordPart_52.eq_1]
  exact pj_a (fun _ => pt_zb (jf_X5_advance hj) (fun _ _ h1 => pt_if (fun _ => pt_rZ h1) (fun _ => pj_a (fun _ => pt_zb (hr1 _ _ _ h1) (fun _ _ h2 => pt_if (fun _ => pt_rZ h2) (fun _ => pj_a (fun _ => pt_zb (jf_X5_emit h2) (fun _ _ h3 => pt_if (fun _ => pt_rZ h3) (fun _ => pt_rZ h3)))))))))
theorem jJ_X5_readLine_211 {x0 : Nat} {x5 : Int32} {σ : zS}  (hj : σ.2.1 = L) : Pt (J_X5_readLine_211 N x0 x5 σ) (fun r => r.2.2.1 = L) := by
  rw [J_X5_readLine_211.eq_1]
  exact pt_if (fun _ => pt_rZ hj) (fun _ => pj_a (fun _ => pt_zb (jf_X5_pass hj) (fun _ _ h1 => pt_if (fun _ => pt_rZ h1) (fun _ => pt_rZ h1))))
theorem jf_X6_acrossFrom {x0 : Nat} {x1 : Int32} {x2 : Int32} {σ : zS}  (hj : σ.2.1 = L) : Pt (f_X6_acrossFrom N x0 x1 x2 σ) (fun r => r.2.2.1 = L) := by
  rw [f_X6_acrossFrom.eq_1]
  exact pt_if (fun _ => pt_some hj) (fun _ => pt_if (fun _ => pj_a (fun _ => pj_a (fun _ => pt_if (fun _ => pj_a (fun _ => pj_a (fun _ => pt_some hj))) (fun _ => pj_a (fun _ => pj_a (fun _ => pt_if (fun _ => pj_a (fun _ => pj_a (fun _ => pt_some hj))) (fun _ => pt_some hj))))))) (fun _ => pt_some hj))
theorem jF_X6_joinClumps_47 {x0 : Nat} {x1 : Int32} {x3 : Int32} {again47 : (Int32 × zS) → Option (Int32 × zS)} (ihagain47 : ∀ s : Int32 × zS, s.2.2.1 = L → Pt (again47 s) (fun r => r.2.2.1 = L)) {s : Int32 × zS} (hj : s.2.2.1 = L) : Pt (F_X6_joinClumps_47 N x0 x1 x3 again47 s) (fun r => r.2.2.1 = L) := by
  obtain ⟨x4, σ⟩ := s
  rw [F_X6_joinClumps_47.eq_1]
  exact pt_if (fun _ => pt_rZ hj) (fun _ => pj_a (fun _ => pj_a (fun _ => pt_if (fun _ => pj_a (fun _ => pj_a (fun _ => pj_a (fun _ => pj_s (j_sI hj) (fun _ h1 => (ihagain47 _ h1)))))) (fun _ => (ihagain47 _ hj)))))
theorem jf_X6_joinClumps {x0 : Nat} {x1 : Int32} {x2 : Int32} {σ : zS}  (hj : σ.2.1 = L) : Pt (f_X6_joinClumps N x0 x1 x2 σ) (fun r => r.2.2.1 = L) := by
  rw [f_X6_joinClumps.eq_1]
  exact pt_if (fun _ => pt_rZ hj) (fun _ => pt_if (fun _ => pt_rZ hj) (fun _ => pt_if (fun _ => pt_rZ hj) (fun _ => pt_if (fun _ => pt_rZ hj) (fun _ => pj_a (fun _ => pj_a (fun _ => pj_a (fun _ => pj_a (fun _ => pt_if (fun _ => pt_rZ hj) (fun _ => pj_a (fun _ => pj_a (fun _ => pt_lp (fun s => s.2.2.1 = L) (fun again s hI ih => jF_X6_joinClumps_47 ih hI) N _ hj)))))))))))
theorem jF_X6_isWithoutRing_23 {x0 : Nat} {x1 : Nat} {x2 : Int32} {again23 : (Int32 × zS) → Option (Int32 × zS)} (ihagain23 : ∀ s : Int32 × zS, s.2.2.1 = L → Pt (again23 s) (fun r => r.2.2.1 = L)) {s : Int32 × zS} (hj : s.2.2.1 = L) : Pt (F_X6_isWithoutRing_23 N x0 x1 x2 again23 s) (fun r => r.2.2.1 = L) := by
  obtain ⟨x3, σ⟩ := s
  rw [F_X6_isWithoutRing_23.eq_1]
  exact pj_a (fun _ => pt_if (fun _ => pt_rZ hj) (fun _ => pt_if (fun _ => pt_rZ hj) (fun _ => pt_if (fun _ => (ihagain23 _ hj)) (fun _ => pj_a (fun _ => pj_a (fun _ => pj_a (fun _ => pj_a (fun _ => pj_a (fun _ => pt_zb (jf_X6_joinClumps hj) (fun _ _ h1 => pt_if (fun _ => pt_rZ h1) (fun _ => (ihagain23 _ h1))))))))))))
theorem jF_X6_isWithoutRing_2 {x0 : Nat} {x1 : Nat} {x2 : Int32} {again2 : (Int32 × zS) → Option (Int32 × zS)} (ihagain2 : ∀ s : Int32 × zS, s.2.2.1 = L → Pt (again2 s) (fun r => r.2.2.1 = L)) {s : Int32 × zS} (hj : s.2.2.1 = L) : Pt (F_X6_isWithoutRing_2 N x0 x1 x2 again2 s) (fun r => r.2.2.1 = L) := by
  obtain ⟨x3, σ⟩ := s
  rw [F_X6_isWithoutRing_2.eq_1]
  exact pt_if (fun _ => pt_lp (fun s => s.2.2.1 = L) (fun again s hI ih => jF_X6_isWithoutRing_23 ih hI) N _ hj) (fun _ => pj_a (fun _ => pj_s (j_sI hj) (fun _ h1 => (ihagain2 _ h1))))
theorem jf_X6_isWithoutRing {x0 : Nat} {x1 : Nat} {x2 : Int32} {σ : zS}  (hj : σ.2.1 = L) : Pt (f_X6_isWithoutRing N x0 x1 x2 σ) (fun r => r.2.2.1 = L) := by
  rw [f_X6_isWithoutRing.eq_1]
  exact pt_lp (fun s => s.2.2.1 = L) (fun again s hI ih => jF_X6_isWithoutRing_2 ih hI) N _ hj
theorem jF_X6_touchedBy_4 {x0 : Nat} {x1 : Int32} {again4 : (Int32 × Int32 × zS) → Option (Int32 × zS)} (ihagain4 : ∀ s : Int32 × Int32 × zS, s.2.2.2.1 = L → Pt (again4 s) (fun r => r.2.2.1 = L)) {s : Int32 × Int32 × zS} (hj : s.2.2.2.1 = L) : Pt (F_X6_touchedBy_4 N x0 x1 again4 s) (fun r => r.2.2.1 = L) := by
  obtain ⟨x2, x3, σ⟩ := s
  rw [F_X6_touchedBy_4.eq_1]
  exact pj_a (fun _ => pt_if (fun _ => pt_some hj) (fun _ => pt_if (fun _ => pt_some hj) (fun _ => pt_if (fun _ => (ihagain4 _ hj)) (fun _ => pj_a (fun _ => pj_a (fun _ => pj_a (fun _ => pj_a (fun _ => (ihagain4 _ hj)))))))))
theorem jf_X6_touchedBy {x0 : Nat} {x1 : Int32} {σ : zS}  (hj : σ.2.1 = L) : Pt (f_X6_touchedBy N x0 x1 σ) (fun r => r.2.2.1 = L) := by
  rw [f_X6_touchedBy.eq_1]
  exact pt_lp (fun s => s.2.2.2.1 = L) (fun again s hI ih => jF_X6_touchedBy_4 ih hI) N _ hj
theorem jf_X6_isOneOf {x0 : Nat} {x1 : Nat} {x2 : Int32} {x3 : Int32} {x4 : Int32} {σ : zS}  (hj : σ.2.1 = L) : Pt (f_X6_isOneOf N x0 x1 x2 x3 x4 σ) (fun r => r.2.2.1 = L) := by
  rw [f_X6_isOneOf.eq_1]
  exact pt_zb (jf_J6_bitCount_0f7a4 hj) (fun _ _ h1 => pt_zb (jf_J6_bitCount_0f7a4 h1) (fun _ _ h2 => pt_if (fun _ => pt_if (fun _ => pj_a (fun _ => pt_zb (jf_X6_isWithoutRing h2) (fun _ _ h3 => pt_if (fun _ => pt_rZ h3) (fun _ => pt_rZ h3)))) (fun _ => pt_rZ h2)) (fun _ => pt_if (fun _ => pt_zb (jf_X6_touchedBy h2) (fun _ _ h4 => pt_zb (jf_J6_bitCount_0f7a4 h4) (fun _ _ h5 => pt_if (fun _ => pt_rZ h5) (fun _ => pt_rZ h5)))) (fun _ => pt_zb (jf_X6_touchedBy h2) (fun _ _ h6 => pt_if (fun _ => pt_rZ h6) (fun _ => pt_rZ h6))))))
theorem jf_X7_isRegisterNumber {x0 : Int32} {σ : zS}  (hj : σ.2.1 = L) : Pt (f_X7_isRegisterNumber N x0 σ) (fun r => r.2.2.1 = L) := by
  rw [f_X7_isRegisterNumber.eq_1]
  exact pt_if (fun _ => pt_rZ hj) (fun _ => pt_if (fun _ => pt_rZ hj) (fun _ => pt_rZ hj))
theorem jf_X7_top {x0 : Nat} {x1 : Int32} {σ : zS}  (hj : σ.2.1 = L) : Pt (f_X7_top N x0 x1 σ) (fun r => r.2.2.1 = L) := by
  rw [f_X7_top.eq_1]
  exact pj_a (fun _ => pj_a (fun _ => pj_a (fun _ => pt_some hj)))
theorem jf_X7_pushed {x0 : Nat} {σ : zS}  (hj : σ.2.1 = L) : Pt (f_X7_pushed N x0 σ) (fun r => r.2.2.1 = L) := by
  rw [f_X7_pushed.eq_1]
  exact pj_a (fun _ => pj_s (j_pI hj) (fun _ h1 => pj_a (fun _ => pt_zb (jf_X7_top h1) (fun _ _ h2 => pt_some h2))))
theorem jF_X8_weighSets_30 {x0 : Nat} {x1 : Nat} {x2 : Int32} {x3 : Int32} {again9 : (Int32 × zS) → Option (Unit × zS)} {again30 : (Int32 × zS) → Option (Unit × zS)} (ihagain9 : ∀ s : Int32 × zS, s.2.2.1 = L → Pt (again9 s) (fun r => r.2.2.1 = L)) (ihagain30 : ∀ s : Int32 × zS, s.2.2.1 = L → Pt (again30 s) (fun r => r.2.2.1 = L)) {s : Int32 × zS} (hj : s.2.2.1 = L) : Pt (F_X8_weighSets_30 N x0 x1 x2 x3 again9 again30 s) (fun r => r.2.2.1 = L) := by
  obtain ⟨x4, σ⟩ := s
  rw [F_X8_weighSets_30.eq_1]
  exact pt_if (fun _ => (ihagain9 _ hj)) (fun _ => pj_a (fun _ => pj_a (fun _ => pj_a (fun _ => pj_a (fun _ => pj_a (fun _ => pj_s (j_sI hj) (fun _ h1 => (ihagain30 _ h1))))))))
theorem jF_X8_weighSets_9 {x0 : Nat} {x1 : Nat} {again9 : (Int32 × zS) → Option (Unit × zS)} (ihagain9 : ∀ s : Int32 × zS, s.2.2.1 = L → Pt (again9 s) (fun r => r.2.2.1 = L)) {s : Int32 × zS} (hj : s.2.2.1 = L) : Pt (F_X8_weighSets_9 N x0 x1 again9 s) (fun r => r.2.2.1 = L) := by
  obtain ⟨x2, σ⟩ := s
  rw [F_X8_weighSets_9.eq_1]
  exact pj_a (fun _ => pt_if (fun _ => pt_some hj) (fun _ => pt_if (fun _ => pt_some hj) (fun _ => pt_lp (fun s => s.2.2.1 = L) (fun again s hI ih => jF_X8_weighSets_30 ihagain9 ih hI) N _ hj)))
theorem jf_X8_weighSets {x0 : Nat} {x1 : Nat} {σ : zS}  (hj : σ.2.1 = L) : Pt (f_X8_weighSets N x0 x1 σ) (fun r => r.2.2.1 = L) := by
  rw [f_X8_weighSets.eq_1]
  exact pj_a (fun _ => pj_s (j_sI hj) (fun _ h1 => pt_lp (fun s => s.2.2.1 = L) (fun again s hI ih => jF_X8_weighSets_9 ih hI) N _ h1))
theorem jJ_X8_sum_113 {x3 : Int32} {x4 : Int32} {x5 : Int32} {x6 : Int32} {σ : zS}  (hj : σ.2.1 = L) : Pt (J_X8_sum_113 N x3 x4 x5 x6 σ) (fun r => r.2.2.1 = L) := by
  rw [J_X8_sum_113.eq_1]
  exact pt_if (fun _ => pt_some hj) (fun _ => pt_if (fun _ => pt_some hj) (fun _ => pt_some hj))
theorem jF_X8_sum_44 {x0 : Nat} {x2 : Nat} {x3 : Int32} {again44 : (Int32 × Int32 × Int32 × Int32 × Int32 × zS) → Option (Int32 × zS)} (ihagain44 : ∀ s : Int32 × Int32 × Int32 × Int32 × Int32 × zS, s.2.2.2.2.2.2.1 = L → Pt (again44 s) (fun r => r.2.2.1 = L)) {s : Int32 × Int32 × Int32 × Int32 × Int32 × zS} (hj : s.2.2.2.2.2.2.1 = L) : Pt (F_X8_sum_44 N x0 x2 x3 again44 s) (fun r => r.2.2.1 = L) := by
  obtain ⟨x4, x5, x6, x7, x8, σ⟩ := s
  rw [F_X8_sum_44.eq_1]
  exact pt_if (fun _ => (jJ_X8_sum_113 hj)) (fun _ => pt_if (fun _ => (jJ_X8_sum_113 hj)) (fun _ => pj_a (fun _ => pj_a (fun _ => pj_a (fun _ => pj_a (fun _ => pj_a (fun _ => pj_a (fun _ => pj_a (fun _ => pt_zb (jf_X2_firstFrom hj) (fun _ _ h1 => (ihagain44 _ h1)))))))))))
theorem jf_X8_sum {x0 : Nat} {x1 : Nat} {x2 : Nat} {x3 : Int32} {σ : zS}  (hj : σ.2.1 = L) : Pt (f_X8_sum N x0 x1 x2 x3 σ) (fun r => r.2.2.1 = L) := by
  rw [f_X8_sum.eq_1]
  exact pj_a (fun _ => pt_zb (jf_X2_isEmpty hj) (fun _ _ h1 => pt_if (fun _ => pj_a (fun _ => pt_zb (jf_X8_weighSets h1) (fun _ _ h2 => pj_a (fun _ => pt_zb (jf_X2_firstFrom h2) (fun _ _ h3 => pt_lp (fun s => s.2.2.2.2.2.2.1 = L) (fun again s hI ih => jF_X8_sum_44 ih hI) N _ h3))))) (fun _ => pt_if (fun _ => pt_some h1) (fun _ => pt_some h1))))
theorem jF_X8_pickOfLoad_13 {x0 : Nat} {x1 : Nat} {x2 : Int32} {again13 : (Int32 × Int32 × Int32 × zS) → Option (Int32 × zS)} (ihagain13 : ∀ s : Int32 × Int32 × Int32 × zS, s.2.2.2.2.1 = L → Pt (again13 s) (fun r => r.2.2.1 = L)) {s : Int32 × Int32 × Int32 × zS} (hj : s.2.2.2.2.1 = L) : Pt (F_X8_pickOfLoad_13 N x0 x1 x2 again13 s) (fun r => r.2.2.1 = L) := by
  obtain ⟨x4, x5, x6, σ⟩ := s
  rw [F_X8_pickOfLoad_13.eq_1]
  exact pt_if (fun _ => pt_some hj) (fun _ => pt_if (fun _ => pt_some hj) (fun _ => pj_a (fun _ => pj_a (fun _ => pt_if (fun _ => pt_if (fun _ => pt_some hj) (fun _ => pj_a (fun _ => pt_zb (jf_X2_firstFrom hj) (fun _ _ h1 => (ihagain13 _ h1))))) (fun _ => pj_a (fun _ => pt_zb (jf_X2_firstFrom hj) (fun _ _ h2 => (ihagain13 _ h2))))))))
theorem jf_X8_pickOfLoad {x0 : Nat} {x1 : Nat} {x2 : Int32} {x3 : Int32} {σ : zS}  (hj : σ.2.1 = L) : Pt (f_X8_pickOfLoad N x0 x1 x2 x3 σ) (fun r => r.2.2.1 = L) := by
  rw [f_X8_pickOfLoad.eq_1]
  exact pj_a (fun _ => pt_zb (jf_X2_firstFrom hj) (fun _ _ h1 => pt_lp (fun s => s.2.2.2.2.1 = L) (fun again s hI ih => jF_X8_pickOfLoad_13 ih hI) N _ h1))
theorem jF_X8_pick_113 {x0 : Nat} {x2 : Nat} {again113 : (Int32 × Int32 × zS) → Option (Int32 × zS)} (ihagain113 : ∀ s : Int32 × Int32 × zS, s.2.2.2.1 = L → Pt (again113 s) (fun r => r.2.2.1 = L)) {s : Int32 × Int32 × zS} (hj : s.2.2.2.1 = L) : Pt (F_X8_pick_113 N x0 x2 again113 s) (fun r => r.2.2.1 = L) := by
  obtain ⟨x5, x6, σ⟩ := s
  rw [F_X8_pick_113.eq_1]
  exact pj_a (fun _ => pj_a (fun _ => pt_if (fun _ => pt_some hj) (fun _ => pj_a (fun _ => pj_a (fun _ => pt_if (fun _ => pj_a (fun _ => pj_a (fun _ => (ihagain113 _ hj)))) (fun _ => pj_a (fun _ => pt_zb (jf_X8_pickOfLoad hj) (fun _ _ h1 => pt_some h1))))))))
theorem jJ_X8_pick_107 {x0 : Nat} {x2 : Nat} {x3 : Int32} {σ : zS}  (hj : σ.2.1 = L) : Pt (J_X8_pick_107 N x0 x2 x3 σ) (fun r => r.2.2.1 = L) := by
  rw [J_X8_pick_107.eq_1]
  exact pt_lp (fun s => s.2.2.2.1 = L) (fun again s hI ih => jF_X8_pick_113 ih hI) N _ hj
theorem jF_X8_pick_37 {x0 : Nat} {x2 : Nat} {x3 : Int32} {again37 : (Int32 × Int32 × zS) → Option (Int32 × zS)} (ihagain37 : ∀ s : Int32 × Int32 × zS, s.2.2.2.1 = L → Pt (again37 s) (fun r => r.2.2.1 = L)) {s : Int32 × Int32 × zS} (hj : s.2.2.2.1 = L) : Pt (F_X8_pick_37 N x0 x2 x3 again37 s) (fun r => r.2.2.1 = L) := by
  obtain ⟨x4, x5, σ⟩ := s
  rw [F_X8_pick_37.eq_1]
  exact pt_if (fun _ => (jJ_X8_pick_107 hj)) (fun _ => pt_if (fun _ => (jJ_X8_pick_107 hj)) (fun _ => pj_a (fun _ => pj_a (fun _ => pt_if (fun _ => pj_a (fun _ => pt_zb (jf_X2_firstFrom hj) (fun _ _ h1 => (ihagain37 _ h1)))) (fun _ => pj_a (fun _ => pj_a (fun _ => pj_a (fun _ => pj_a (fun _ => pt_if (fun _ => pj_a (fun _ => pt_zb (jf_X2_firstFrom hj) (fun _ _ h2 => (ihagain37 _ h2)))) (fun _ => pj_a (fun _ => pj_a (fun _ => pj_a (fun _ => pj_a (fun _ => pj_s (j_sI hj) (fun _ h3 => pj_a (fun _ => pt_zb (jf_X2_firstFrom h3) (fun _ _ h4 => (ihagain37 _ h4))))))))))))))))))
theorem jf_X8_pick {x0 : Nat} {x1 : Nat} {x2 : Nat} {x3 : Int32} {σ : zS}  (hj : σ.2.1 = L) : Pt (f_X8_pick N x0 x1 x2 x3 σ) (fun r => r.2.2.1 = L) := by
  rw [f_X8_pick.eq_1]
  exact pt_if (fun _ => pt_some hj) (fun _ => pj_a (fun _ => pt_zb (jf_X2_tally hj) (fun _ _ h1 => pt_if (fun _ => pj_a (fun _ => pt_zb (jf_X8_weighSets h1) (fun _ _ h2 => pj_a (fun _ => pt_zb (jf_J7_fill_53178 h2) (fun _ _ h3 => pj_a (fun _ => pt_zb (jf_X2_firstFrom h3) (fun _ _ h4 => pt_lp (fun s => s.2.2.2.1 = L) (fun again s hI ih => jF_X8_pick_37 ih hI) N _ h4))))))) (fun _ => pt_some h1))))
theorem jf_X9_isBare {x0 : Nat} {σ : zS}  (hj : σ.2.1 = L) : Pt (f_X9_isBare N x0 σ) (fun r => r.2.2.1 = L) := by
  rw [f_X9_isBare.eq_1]
  exact pj_a (fun _ => pt_if (fun _ => pt_rZ hj) (fun _ => pt_rZ hj))
theorem jf_X9_cut {x0 : Nat} {x1 : Int64} {σ : zS}  (hj : σ.2.1 = L) : Pt (f_X9_cut N x0 x1 σ) (fun r => r.2.2.1 = L) := by
  rw [f_X9_cut.eq_1]
  exact pj_a (fun _ => pt_if (fun _ => pt_some hj) (fun _ => pt_if (fun _ => pt_some hj) (fun _ => pt_if (fun _ => pt_some hj) (fun _ => pt_some hj))))
theorem jf_X9_spans {x0 : Nat} {x1 : Int32} {x2 : Int32} {σ : zS}  (hj : σ.2.1 = L) : Pt (f_X9_spans N x0 x1 x2 σ) (fun r => r.2.2.1 = L) := by
  rw [f_X9_spans.eq_1]
  exact pt_if (fun _ => pt_rZ hj) (fun _ => pt_if (fun _ => pt_rZ hj) (fun _ => pj_a (fun _ => pt_if (fun _ => pt_rZ hj) (fun _ => pt_rZ hj))))
theorem jF_X10_load_4 {x0 : Nat} {x1 : Int32} {again4 : (Int32 × Int32 × zS) → Option (Int32 × zS)} (ihagain4 : ∀ s : Int32 × Int32 × zS, s.2.2.2.1 = L → Pt (again4 s) (fun r => r.2.2.1 = L)) {s : Int32 × Int32 × zS} (hj : s.2.2.2.1 = L) : Pt (F_X10_load_4 N x0 x1 again4 s) (fun r => r.2.2.1 = L) := by
  obtain ⟨x2, x3, σ⟩ := s
  rw [F_X10_load_4.eq_1]
  exact pj_a (fun _ => pt_if (fun _ => pt_some hj) (fun _ => pt_if (fun _ => pt_some hj) (fun _ => pt_if (fun _ => (ihagain4 _ hj)) (fun _ => pj_a (fun _ => pj_a (fun _ => (ihagain4 _ hj)))))))
theorem jf_X10_load {x0 : Nat} {x1 : Int32} {σ : zS}  (hj : σ.2.1 = L) : Pt (f_X10_load N x0 x1 σ) (fun r => r.2.2.1 = L) := by
  rw [f_X10_load.eq_1]
  exact pt_lp (fun s => s.2.2.2.1 = L) (fun again s hI ih => jF_X10_load_4 ih hI) N _ hj
theorem jF_X10_filledRegisters_4 {x0 : Nat} {again4 : (Int32 × Int32 × zS) → Option (Int32 × zS)} (ihagain4 : ∀ s : Int32 × Int32 × zS, s.2.2.2.1 = L → Pt (again4 s) (fun r => r.2.2.1 = L)) {s : Int32 × Int32 × zS} (hj : s.2.2.2.1 = L) : Pt (F_X10_filledRegisters_4 N x0 again4 s) (fun r => r.2.2.1 = L) := by
  obtain ⟨x1, x2, σ⟩ := s
  rw [F_X10_filledRegisters_4.eq_1]
  exact pt_if (fun _ => pt_some hj) (fun _ => pj_a (fun _ => pj_a (fun _ => pj_a (fun _ => pt_zb (jf_X2_isEmpty hj) (fun _ _ h1 => pt_if (fun _ => (ihagain4 _ h1)) (fun _ => (ihagain4 _ h1)))))))
theorem jf_X10_filledRegisters {x0 : Nat} {σ : zS}  (hj : σ.2.1 = L) : Pt (f_X10_filledRegisters N x0 σ) (fun r => r.2.2.1 = L) := by
  rw [f_X10_filledRegisters.eq_1]
  exact pt_lp (fun s => s.2.2.2.1 = L) (fun again s hI ih => jF_X10_filledRegisters_4 ih hI) N _ hj
theorem jF_X10_unlikeFamilies_4 {x0 : Nat} {again4 : (Int32 × Int32 × zS) → Option (Int32 × zS)} (ihagain4 : ∀ s : Int32 × Int32 × zS, s.2.2.2.1 = L → Pt (again4 s) (fun r => r.2.2.1 = L)) {s : Int32 × Int32 × zS} (hj : s.2.2.2.1 = L) : Pt (F_X10_unlikeFamilies_4 N x0 again4 s) (fun r => r.2.2.1 = L) := by
  obtain ⟨x1, x2, σ⟩ := s
  rw [F_X10_unlikeFamilies_4.eq_1]
  exact pt_if (fun _ => pt_some hj) (fun _ => pj_a (fun _ => pt_zb (jf_X10_firstLike hj) (fun _ _ h1 => pt_if (fun _ => (ihagain4 _ h1)) (fun _ => (ihagain4 _ h1)))))
theorem jf_X10_unlikeFamilies {x0 : Nat} {σ : zS}  (hj : σ.2.1 = L) : Pt (f_X10_unlikeFamilies N x0 σ) (fun r => r.2.2.1 = L) := by
  rw [f_X10_unlikeFamilies.eq_1]
  exact pt_lp (fun s => s.2.2.2.1 = L) (fun again s hI ih => jF_X10_unlikeFamilies_4 ih hI) N _ hj
theorem jF_X11_tapeNumber_2 {x0 : Nat} {x1 : Int32} {x2 : Int32} {again2 : (Int32 × zS) → Option (Unit × zS)} (ihagain2 : ∀ s : Int32 × zS, s.2.2.1 = L → Pt (again2 s) (fun r => r.2.2.1 = L)) {s : Int32 × zS} (hj : s.2.2.1 = L) : Pt (F_X11_tapeNumber_2 N x0 x1 x2 again2 s) (fun r => r.2.2.1 = L) := by
  obtain ⟨x3, σ⟩ := s
  rw [F_X11_tapeNumber_2.eq_1]
  exact pt_if (fun _ => pt_some hj) (fun _ => pt_if (fun _ => (ihagain2 _ hj)) (fun _ => pt_if (fun _ => (ihagain2 _ hj)) (fun _ => pj_a (fun _ => pj_s (j_sI hj) (fun _ h1 => (ihagain2 _ h1))))))
theorem jf_X11_tapeNumber {x0 : Nat} {x1 : Int32} {x2 : Int32} {σ : zS}  (hj : σ.2.1 = L) : Pt (f_X11_tapeNumber N x0 x1 x2 σ) (fun r => r.2.2.1 = L) := by
  rw [f_X11_tapeNumber.eq_1]
  exact pt_lp (fun s => s.2.2.1 = L) (fun again s hI ih => jF_X11_tapeNumber_2 ih hI) N _ hj
theorem jf_X11_feed {x0 : Nat} {x1 : Int32} {x2 : Int32} {x3 : Int32} {x4 : Int32} {x5 : Int32} {σ : zS}  (hj : σ.2.1 = L) : Pt (f_X11_feed N x0 x1 x2 x3 x4 x5 σ) (fun r => r.2.2.1 = L) := by
  rw [f_X11_feed.eq_1]
  exact pj_a (fun _ => pt_if (fun _ => pt_some hj) (fun _ => pj_a (fun _ => pt_if (fun _ => pj_a (fun _ => pj_a (fun _ => pt_zb (jf_X11_tapeNumber hj) (fun _ _ h1 => pj_a (fun _ => pj_a (fun _ => pt_zb (jf_X11_tapeNumber h1) (fun _ _ h2 => pj_a (fun _ => pj_a (fun _ => pt_zb (jf_X11_tapeNumber h2) (fun _ _ h3 => pj_a (fun _ => pj_a (fun _ => pt_zb (jf_X11_tapeNumber h3) (fun _ _ h4 => pj_a (fun _ => pj_a (fun _ => pt_zb (jf_X11_tapeNumber h4) (fun _ _ h5 => pj_a (fun _ => pj_s (j_pI h5) (fun _ h6 => pj_a (fun _ => pt_some h6))))))))))))))))))) (fun _ => pt_some hj))))
theorem jf_X11_end {x0 : Nat} {x1 : Int32} {σ : zS}  (hj : σ.2.1 = L) : Pt (f_X11_end N x0 x1 σ) (fun r => r.2.2.1 = L) := by
  rw [f_X11_end.eq_1]
  exact pt_if (fun _ => pt_some hj) (fun _ => pj_a (fun _ => pt_if (fun _ => pj_s (j_pI hj) (fun _ h1 => pt_some h1)) (fun _ => pt_some hj)))
theorem jf_X11_takeFault {x0 : Nat} {σ : zS}  (hj : σ.2.1 = L) : Pt (f_X11_takeFault N x0 σ) (fun r => r.2.2.1 = L) := by
  rw [f_X11_takeFault.eq_1]
  exact pj_s (j_pI hj) (fun _ h1 => pj_a (fun _ => pj_a (fun _ => pj_s (j_pI h1) (fun _ h2 => pj_a (fun _ => pj_a (fun _ => pj_s (j_pI h2) (fun _ h3 => pt_some h3)))))))
theorem jf_X11_isWorld {x0 : Nat} {σ : zS}  (hj : σ.2.1 = L) : Pt (f_X11_isWorld N x0 σ) (fun r => r.2.2.1 = L) := by
  rw [f_X11_isWorld.eq_1]
  exact pj_a (fun _ => pj_a (fun _ => pt_if (fun _ => pt_rZ hj) (fun _ => pt_rZ hj)))
theorem jf_X11_isRegister {x0 : Nat} {x1 : Int32} {σ : zS}  (hj : σ.2.1 = L) : Pt (f_X11_isRegister N x0 x1 σ) (fun r => r.2.2.1 = L) := by
  rw [f_X11_isRegister.eq_1]
  exact pj_a (fun _ => pt_zb (jf_X11_isWorld hj) (fun _ _ h1 => pt_if (fun _ => pt_rZ h1) (fun _ => pt_if (fun _ => pt_rZ h1) (fun _ => pt_if (fun _ => pt_rZ h1) (fun _ => pt_rZ h1)))))
theorem jf_X11_fault {x0 : Nat} {x1 : Int32} {σ : zS}  (hj : σ.2.1 = L) : Pt (f_X11_fault N x0 x1 σ) (fun r => r.2.2.1 = L) := by
  rw [f_X11_fault.eq_1]
  exact pt_if (fun _ => pj_a (fun _ => pt_some hj)) (fun _ => pt_if (fun _ => pj_a (fun _ => pt_some hj)) (fun _ => pt_some hj))
theorem jf_X11_size {x0 : Nat} {x1 : Int32} {σ : zS}  (hj : σ.2.1 = L) : Pt (f_X11_size N x0 x1 σ) (fun r => r.2.2.1 = L) := by
  rw [f_X11_size.eq_1]
  exact pj_a (fun _ => pt_zb (jf_X11_isRegister hj) (fun _ _ h1 => pt_if (fun _ => pt_some h1) (fun _ => pj_a (fun _ => pj_a (fun _ => pj_a (fun _ => pj_a (fun _ => pt_zb (jf_X2_tally h1) (fun _ _ h2 => pt_some h2))))))))
theorem jf_X11_isSet {x0 : Nat} {x1 : Int32} {σ : zS}  (hj : σ.2.1 = L) : Pt (f_X11_isSet N x0 x1 σ) (fun r => r.2.2.1 = L) := by
  rw [f_X11_isSet.eq_1]
  exact pj_a (fun _ => pt_zb (jf_X11_isWorld hj) (fun _ _ h1 => pt_if (fun _ => pt_rZ h1) (fun _ => pt_if (fun _ => pt_rZ h1) (fun _ => pj_a (fun _ => pj_a (fun _ => pt_if (fun _ => pt_rZ h1) (fun _ => pt_rZ h1)))))))
theorem jf_X11_has {x0 : Nat} {x1 : Int32} {x2 : Int32} {σ : zS}  (hj : σ.2.1 = L) : Pt (f_X11_has N x0 x1 x2 σ) (fun r => r.2.2.1 = L) := by
  rw [f_X11_has.eq_1]
  exact pj_a (fun _ => pt_zb (jf_X11_isRegister hj) (fun _ _ h1 => pt_if (fun _ => pt_some h1) (fun _ => pj_a (fun _ => pt_zb (jf_X11_isSet h1) (fun _ _ h2 => pt_if (fun _ => pt_some h2) (fun _ => pj_a (fun _ => pj_a (fun _ => pj_a (fun _ => pj_a (fun _ => pt_zb (jf_X2_holds h2) (fun _ _ h3 => pt_if (fun _ => pt_some h3) (fun _ => pt_some h3))))))))))))
theorem jf_X11_isName {x0 : Nat} {x1 : Int32} {σ : zS}  (hj : σ.2.1 = L) : Pt (f_X11_isName N x0 x1 σ) (fun r => r.2.2.1 = L) := by
  rw [f_X11_isName.eq_1]
  exact pt_if (fun _ => pt_rZ hj) (fun _ => pj_a (fun _ => pj_a (fun _ => pt_if (fun _ => pt_rZ hj) (fun _ => pt_rZ hj))))
theorem jf_X11_nth {x0 : Nat} {x1 : Int32} {x2 : Int32} {σ : zS}  (hj : σ.2.1 = L) : Pt (f_X11_nth N x0 x1 x2 σ) (fun r => r.2.2.1 = L) := by
  rw [f_X11_nth.eq_1]
  exact pj_a (fun _ => pt_zb (jf_X11_isRegister hj) (fun _ _ h1 => pt_if (fun _ => pt_some h1) (fun _ => pj_a (fun _ => pj_a (fun _ => pj_a (fun _ => pj_a (fun _ => pt_zb (jf_X2_pick h1) (fun _ _ h2 => pt_some h2))))))))
theorem jf_X11_rank {x0 : Nat} {x1 : Int32} {x2 : Int32} {σ : zS}  (hj : σ.2.1 = L) : Pt (f_X11_rank N x0 x1 x2 σ) (fun r => r.2.2.1 = L) := by
  rw [f_X11_rank.eq_1]
  exact pj_a (fun _ => pt_zb (jf_X11_isRegister hj) (fun _ _ h1 => pt_if (fun _ => pt_some h1) (fun _ => pj_a (fun _ => pt_zb (jf_X11_isSet h1) (fun _ _ h2 => pt_if (fun _ => pt_some h2) (fun _ => pj_a (fun _ => pj_a (fun _ => pj_a (fun _ => pj_a (fun _ => pt_zb (jf_X2_tallyBelow h2) (fun _ _ h3 => pt_some h3)))))))))))
theorem jf_X11_light {x0 : Nat} {x1 : Int32} {x2 : Int32} {σ : zS}  (hj : σ.2.1 = L) : Pt (f_X11_light N x0 x1 x2 σ) (fun r => r.2.2.1 = L) := by
  rw [f_X11_light.eq_1]
  exact pj_a (fun _ => pt_zb (jf_X11_isRegister hj) (fun _ _ h1 => pt_if (fun _ => pt_some h1) (fun _ => pj_a (fun _ => pj_a (fun _ => pj_a (fun _ => pj_a (fun _ => pj_a (fun _ => pj_a (fun _ => pt_zb (jf_X8_pick h1) (fun _ _ h2 => pt_some h2))))))))))
theorem jf_X11_weight {x0 : Nat} {x1 : Int32} {σ : zS}  (hj : σ.2.1 = L) : Pt (f_X11_weight N x0 x1 σ) (fun r => r.2.2.1 = L) := by
  rw [f_X11_weight.eq_1]
  exact pj_a (fun _ => pt_zb (jf_X11_isSet hj) (fun _ _ h1 => pt_if (fun _ => pt_some h1) (fun _ => pj_a (fun _ => pj_a (fun _ => pt_zb (jf_X10_load h1) (fun _ _ h2 => pt_some h2))))))
theorem jf_X11_weigh {x0 : Nat} {x1 : Int32} {x2 : Int32} {σ : zS}  (hj : σ.2.1 = L) : Pt (f_X11_weigh N x0 x1 x2 σ) (fun r => r.2.2.1 = L) := by
  rw [f_X11_weigh.eq_1]
  exact pj_a (fun _ => pt_zb (jf_X11_isName hj) (fun _ _ h1 => pt_if (fun _ => pt_some h1) (fun _ => pt_if (fun _ => pt_some h1) (fun _ => pt_if (fun _ => pj_a (fun _ => pj_a (fun _ => pj_a (fun _ => pj_a (fun _ => pj_a (fun _ => pj_s (j_sI h1) (fun _ h2 => pt_some h2))))))) (fun _ => pt_some h1)))))
theorem jf_X11_weighs {x0 : Nat} {x1 : Int32} {x2 : Int32} {σ : zS}  (hj : σ.2.1 = L) : Pt (f_X11_weighs N x0 x1 x2 σ) (fun r => r.2.2.1 = L) := by
  rw [f_X11_weighs.eq_1]
  exact pj_a (fun _ => pt_zb (jf_X11_isRegister hj) (fun _ _ h1 => pt_if (fun _ => pt_some h1) (fun _ => pt_if (fun _ => pt_some h1) (fun _ => pt_if (fun _ => pj_a (fun _ => pj_a (fun _ => pj_a (fun _ => pj_a (fun _ => pj_a (fun _ => pj_a (fun _ => pt_zb (jf_X8_sum h1) (fun _ _ h2 => pt_some h2)))))))) (fun _ => pt_some h1)))))
theorem jf_X11_draw {x0 : Nat} {x1 : Int32} {x2 : Int32} {σ : zS}  (hj : σ.2.1 = L) : Pt (f_X11_draw N x0 x1 x2 σ) (fun r => r.2.2.1 = L) := by
  rw [f_X11_draw.eq_1]
  exact pj_a (fun _ => pt_zb (jf_X11_isRegister hj) (fun _ _ h1 => pt_if (fun _ => pt_some h1) (fun _ => pt_if (fun _ => pt_some h1) (fun _ => pt_if (fun _ => pj_a (fun _ => pj_a (fun _ => pj_a (fun _ => pj_a (fun _ => pt_zb (jf_X2_tally h1) (fun _ _ h2 => pt_if (fun _ => pj_a (fun _ => pj_a (fun _ => pj_a (fun _ => pj_a (fun _ => pj_a (fun _ => pj_a (fun _ => pj_a (fun _ => pt_zb (jf_X2_pick h2) (fun _ _ h3 => pt_some h3))))))))) (fun _ => pt_some h2))))))) (fun _ => pt_some h1)))))
theorem jf_X11_alike {x0 : Nat} {x1 : Int32} {x2 : Int32} {σ : zS}  (hj : σ.2.1 = L) : Pt (f_X11_alike N x0 x1 x2 σ) (fun r => r.2.2.1 = L) := by
  rw [f_X11_alike.eq_1]
  exact pj_a (fun _ => pt_zb (jf_X11_isRegister hj) (fun _ _ h1 => pt_if (fun _ => pt_some h1) (fun _ => pj_a (fun _ => pt_zb (jf_X11_isRegister h1) (fun _ _ h2 => pt_if (fun _ => pt_some h2) (fun _ => pj_a (fun _ => pj_a (fun _ => pj_a (fun _ => pj_a (fun _ => pj_a (fun _ => pj_a (fun _ => pj_a (fun _ => pt_zb (jf_X2_sameAs h2) (fun _ _ h3 => pt_if (fun _ => pt_some h3) (fun _ => pt_some h3)))))))))))))))
theorem jf_X11_apart {x0 : Nat} {x1 : Int32} {x2 : Int32} {σ : zS}  (hj : σ.2.1 = L) : Pt (f_X11_apart N x0 x1 x2 σ) (fun r => r.2.2.1 = L) := by
  rw [f_X11_apart.eq_1]
  exact pj_a (fun _ => pt_zb (jf_X11_isRegister hj) (fun _ _ h1 => pt_if (fun _ => pt_some h1) (fun _ => pj_a (fun _ => pt_zb (jf_X11_isRegister h1) (fun _ _ h2 => pt_if (fun _ => pt_some h2) (fun _ => pj_a (fun _ => pj_a (fun _ => pj_a (fun _ => pj_a (fun _ => pj_a (fun _ => pj_a (fun _ => pj_a (fun _ => pj_a (fun _ => pj_a (fun _ => pj_a (fun _ => pt_zb (jf_X0_disjointPairs h2) (fun _ _ h3 => pt_some h3)))))))))))))))))
theorem jf_X11_nodes {x0 : Nat} {x1 : Int32} {σ : zS}  (hj : σ.2.1 = L) : Pt (f_X11_nodes N x0 x1 σ) (fun r => r.2.2.1 = L) := by
  rw [f_X11_nodes.eq_1]
  exact pj_a (fun _ => pt_zb (jf_X11_isRegister hj) (fun _ _ h1 => pt_if (fun _ => pt_some h1) (fun _ => pj_a (fun _ => pj_a (fun _ => pj_a (fun _ => pj_a (fun _ => pj_a (fun _ => pj_a (fun _ => pt_zb (jf_X1_tallyOf h1) (fun _ _ h2 => pt_some h2))))))))))
theorem jf_X11_net {x0 : Nat} {σ : zS}  (hj : σ.2.1 = L) : Pt (f_X11_net N x0 σ) (fun r => r.2.2.1 = L) := by
  rw [f_X11_net.eq_1]
  exact pj_a (fun _ => pt_zb (jf_X11_isWorld hj) (fun _ _ h1 => pt_if (fun _ => pt_some h1) (fun _ => pj_a (fun _ => pj_a (fun _ => pj_a (fun _ => pt_zb (jf_X1_tallyOfAll h1) (fun _ _ h2 => pt_some h2)))))))
theorem jf_X11_wide {x0 : Nat} {x1 : Int32} {x2 : Int32} {σ : zS}  (hj : σ.2.1 = L) : Pt (f_X11_wide N x0 x1 x2 σ) (fun r => r.2.2.1 = L) := by
  rw [f_X11_wide.eq_1]
  exact pj_a (fun _ => pt_zb (jf_X11_isRegister hj) (fun _ _ h1 => pt_if (fun _ => pt_some h1) (fun _ => pj_a (fun _ => pt_zb (jf_X11_isName h1) (fun _ _ h2 => pt_if (fun _ => pt_some h2) (fun _ => pj_a (fun _ => pj_a (fun _ => pj_a (fun _ => pj_a (fun _ => pj_a (fun _ => pj_a (fun _ => pt_zb (jf_X1_tallyOf h2) (fun _ _ h3 => pj_a (fun _ => pj_a (fun _ => pt_zb (jf_X1_tallyAt h3) (fun _ _ h4 => pt_some h4))))))))))))))))
theorem jf_X11_order {x0 : Nat} {x1 : Int32} {σ : zS}  (hj : σ.2.1 = L) : Pt (f_X11_order N x0 x1 σ) (fun r => r.2.2.1 = L) := by
  rw [f_X11_order.eq_1]
  exact pj_a (fun _ => pt_zb (jf_X11_isName hj) (fun _ _ h1 => pt_if (fun _ => pt_some h1) (fun _ => pj_a (fun _ => pj_a (fun _ => pj_a (fun _ => pt_some h1))))))
theorem jf_X11_swap {x0 : Nat} {x1 : Int32} {σ : zS}  (hj : σ.2.1 = L) : Pt (f_X11_swap N x0 x1 σ) (fun r => r.2.2.1 = L) := by
  rw [f_X11_swap.eq_1]
  exact pj_a (fun _ => pt_zb (jf_X11_isName hj) (fun _ _ h1 => pt_if (fun _ => pt_some h1) (fun _ => pj_a (fun _ => pj_a (fun _ => pt_if (fun _ => pj_a (fun _ => pj_a (fun _ => pj_a (fun _ => pj_a (fun _ => pj_a (fun _ => pt_zb (jf_X10_moveName h1) (fun _ _ h2 => pj_a (fun _ => pj_a (fun _ => pj_a (fun _ => pt_zb (jf_X1_tallyOfAll h2) (fun _ _ h3 => pt_some h3))))))))))) (fun _ => pt_some h1))))))
theorem jf_X11_move {x0 : Nat} {x1 : Int32} {x2 : Int32} {σ : zS}  (hj : σ.2.1 = L) : Pt (f_X11_move N x0 x1 x2 σ) (fun r => r.2.2.1 = L) := by
  rw [f_X11_move.eq_1]
  exact pj_a (fun _ => pt_zb (jf_X11_isName hj) (fun _ _ h1 => pt_if (fun _ => pt_some h1) (fun _ => pj_a (fun _ => pt_zb (jf_X11_isName h1) (fun _ _ h2 => pt_if (fun _ => pt_some h2) (fun _ => pj_a (fun _ => pj_a (fun _ => pt_zb (jf_X10_moveName h2) (fun _ _ h3 => pt_some h3)))))))))
theorem jf_X11_sift {x0 : Nat} {x1 : Int32} {σ : zS}  (hj : σ.2.1 = L) : Pt (f_X11_sift N x0 x1 σ) (fun r => r.2.2.1 = L) := by
  rw [f_X11_sift.eq_1]
  exact pj_a (fun _ => pt_zb (jf_X11_isRegister hj) (fun _ _ h1 => pt_if (fun _ => pt_some h1) (fun _ => pj_a (fun _ => pj_a (fun _ => pj_a (fun _ => pj_a (fun _ => pj_a (fun _ => pj_a (fun _ => pj_a (fun _ => pt_zb (jf_X3_siftAll h1) (fun _ _ h2 => pt_some h2)))))))))))
theorem jf_X11_isCrossing {x0 : Nat} {x1 : Int32} {σ : zS}  (hj : σ.2.1 = L) : Pt (f_X11_isCrossing N x0 x1 σ) (fun r => r.2.2.1 = L) := by
  rw [f_X11_isCrossing.eq_1]
  exact pt_if (fun _ => pt_rZ hj) (fun _ => pt_if (fun _ => pt_rZ hj) (fun _ => pt_rZ hj))
theorem jf_X11_isSlot {x0 : Nat} {x1 : Int32} {σ : zS}  (hj : σ.2.1 = L) : Pt (f_X11_isSlot N x0 x1 σ) (fun r => r.2.2.1 = L) := by
  rw [f_X11_isSlot.eq_1]
  exact pt_if (fun _ => pt_rZ hj) (fun _ => pt_if (fun _ => pt_rZ hj) (fun _ => pt_rZ hj))
theorem jF_X11_judge_53 {x3 : Nat} {x4 : Nat} {again53 : (Int32 × Int32 × zS) → Option (Int32 × zS)} (ihagain53 : ∀ s : Int32 × Int32 × zS, s.2.2.2.1 = L → Pt (again53 s) (fun r => r.2.2.1 = L)) {s : Int32 × Int32 × zS} (hj : s.2.2.2.1 = L) : Pt (F_X11_judge_53 N x3 x4 again53 s) (fun r => r.2.2.1 = L) := by
  obtain ⟨x5, x6, σ⟩ := s
  rw [F_X11_judge_53.eq_1]
  exact pj_a (fun _ => pt_if (fun _ => pj_a (fun _ => pt_zb (jf_X2_firstFrom hj) (fun _ _ h1 => pt_if (fun _ => pj_a (fun _ => pt_some h1)) (fun _ => pt_some h1)))) (fun _ => pj_a (fun _ => pt_zb (jf_X2_firstFrom hj) (fun _ _ h2 => pt_if (fun _ => pt_some h2) (fun _ => pj_a (fun _ => pj_a (fun _ => pt_if (fun _ => (ihagain53 _ h2)) (fun _ => pt_some h2))))))))
theorem jf_X11_judge {x0 : Nat} {x1 : Int32} {x2 : Int32} {σ : zS}  (hj : σ.2.1 = L) : Pt (f_X11_judge N x0 x1 x2 σ) (fun r => r.2.2.1 = L) := by
  rw [f_X11_judge.eq_1]
  exact pj_a (fun _ => pt_zb (jf_X11_isSlot hj) (fun _ _ h1 => pt_if (fun _ => pt_some h1) (fun _ => pj_a (fun _ => pt_zb (jf_X11_isRegister h1) (fun _ _ h2 => pt_if (fun _ => pt_some h2) (fun _ => pj_a (fun _ => pj_a (fun _ => pj_a (fun _ => pt_zb (jf_X9_isBare h2) (fun _ _ h3 => pt_if (fun _ => pj_a (fun _ => pj_a (fun _ => pj_a (fun _ => pt_lp (fun s => s.2.2.2.1 = L) (fun again s hI ih => jF_X11_judge_53 ih hI) N _ h3)))) (fun _ => pt_some h3)))))))))))
theorem jF_X11_rowsInSlots_4 {x0 : Nat} {again4 : (Int32 × Int32 × zS) → Option (Int32 × zS)} (ihagain4 : ∀ s : Int32 × Int32 × zS, s.2.2.2.1 = L → Pt (again4 s) (fun r => r.2.2.1 = L)) {s : Int32 × Int32 × zS} (hj : s.2.2.2.1 = L) : Pt (F_X11_rowsInSlots_4 N x0 again4 s) (fun r => r.2.2.1 = L) := by
  obtain ⟨x1, x2, σ⟩ := s
  rw [F_X11_rowsInSlots_4.eq_1]
  exact pt_if (fun _ => pt_some hj) (fun _ => pj_a (fun _ => pj_a (fun _ => pj_a (fun _ => pt_zb (jf_X9_isBare hj) (fun _ _ h1 => pt_if (fun _ => (ihagain4 _ h1)) (fun _ => (ihagain4 _ h1)))))))
theorem jf_X11_rowsInSlots {x0 : Nat} {σ : zS}  (hj : σ.2.1 = L) : Pt (f_X11_rowsInSlots N x0 σ) (fun r => r.2.2.1 = L) := by
  rw [f_X11_rowsInSlots.eq_1]
  exact pt_lp (fun s => s.2.2.2.1 = L) (fun again s hI ih => jF_X11_rowsInSlots_4 ih hI) N _ hj
theorem jf_X11_count {x0 : Nat} {x1 : Int32} {σ : zS}  (hj : σ.2.1 = L) : Pt (f_X11_count N x0 x1 σ) (fun r => r.2.2.1 = L) := by
  rw [f_X11_count.eq_1]
  exact pt_if (fun _ => pj_a (fun _ => pj_a (fun _ => pt_some hj))) (fun _ => pt_if (fun _ => pj_a (fun _ => pj_a (fun _ => pt_some hj))) (fun _ => pt_if (fun _ => pj_a (fun _ => pj_a (fun _ => pt_some hj))) (fun _ => pt_if (fun _ => pj_a (fun _ => pt_some hj)) (fun _ => pt_if (fun _ => pj_a (fun _ => pj_a (fun _ => pt_zb (jf_X10_filledRegisters hj) (fun _ _ h1 => pt_some h1)))) (fun _ => pt_if (fun _ => pj_a (fun _ => pt_zb (jf_X11_isWorld hj) (fun _ _ h2 => pt_if (fun _ => pt_some h2) (fun _ => pj_a (fun _ => pj_a (fun _ => pt_zb (jf_X10_unlikeFamilies h2) (fun _ _ h3 => pt_some h3))))))) (fun _ => pt_if (fun _ => pj_a (fun _ => pt_zb (jf_X11_rowsInSlots hj) (fun _ _ h4 => pt_some h4))) (fun _ => pt_some hj)))))))
theorem jf_X12_in {x0 : Int64} {x2 : Int64} {x4 : Int64} {σ : zS}  (hj : σ.2.1 = L) : Pt (f_X12_in N x0 x2 x4 σ) (fun r => r.2.2.1 = L) := by
  rw [f_X12_in.eq_1]
  exact pt_if (fun _ => pt_rZ hj) (fun _ => pt_if (fun _ => pt_rZ hj) (fun _ => pt_rZ hj))
theorem jF_X12_keep_48 {x0 : Nat} {x1 : Int32} {again48 : (Int32 × zS) → Option (Int32 × zS)} (ihagain48 : ∀ s : Int32 × zS, s.2.2.1 = L → Pt (again48 s) (fun r => r.2.2.1 = L)) {s : Int32 × zS} (hj : s.2.2.1 = L) : Pt (F_X12_keep_48 N x0 x1 again48 s) (fun r => r.2.2.1 = L) := by
  obtain ⟨x2, σ⟩ := s
  rw [F_X12_keep_48.eq_1]
  exact pt_if (fun _ => pj_a (fun _ => pj_s (j_sI hj) (fun _ h1 => pt_some h1))) (fun _ => pj_a (fun _ => pj_a (fun _ => pj_a (fun _ => pj_s (j_sI hj) (fun _ h2 => (ihagain48 _ h2))))))
theorem jF_X12_keep_17 {x0 : Nat} {x1 : Int32} {again17 : (Int32 × zS) → Option (Int32 × zS)} (ihagain17 : ∀ s : Int32 × zS, s.2.2.1 = L → Pt (again17 s) (fun r => r.2.2.1 = L)) {s : Int32 × zS} (hj : s.2.2.1 = L) : Pt (F_X12_keep_17 N x0 x1 again17 s) (fun r => r.2.2.1 = L) := by
  obtain ⟨x2, σ⟩ := s
  rw [F_X12_keep_17.eq_1]
  exact pt_if (fun _ => pt_lp (fun s => s.2.2.1 = L) (fun again s hI ih => jF_X12_keep_48 ih hI) N _ hj) (fun _ => pj_a (fun _ => pj_a (fun _ => pj_a (fun _ => pj_s (j_sI hj) (fun _ h1 => (ihagain17 _ h1))))))
theorem jf_X12_keep {x0 : Nat} {x1 : Int32} {σ : zS}  (hj : σ.2.1 = L) : Pt (f_X12_keep N x0 x1 σ) (fun r => r.2.2.1 = L) := by
  rw [f_X12_keep.eq_1]
  exact pt_zb (jf_X12_in hj) (fun _ _ h1 => pt_if (fun _ => pt_some h1) (fun _ => pt_lp (fun s => s.2.2.1 = L) (fun again s hI ih => jF_X12_keep_17 ih hI) N _ h1))
theorem jF_X12_back_60 {x0 : Nat} {x1 : Int32} {again60 : (Int32 × zS) → Option (Int32 × zS)} (ihagain60 : ∀ s : Int32 × zS, s.2.2.1 = L → Pt (again60 s) (fun r => r.2.2.1 = L)) {s : Int32 × zS} (hj : s.2.2.1 = L) : Pt (F_X12_back_60 N x0 x1 again60 s) (fun r => r.2.2.1 = L) := by
  obtain ⟨x2, σ⟩ := s
  rw [F_X12_back_60.eq_1]
  exact pt_if (fun _ => pt_some hj) (fun _ => pj_a (fun _ => pj_a (fun _ => pj_a (fun _ => pj_s (j_sI hj) (fun _ h1 => (ihagain60 _ h1))))))
theorem jF_X12_back_29 {x0 : Nat} {x1 : Int32} {again29 : (Int32 × zS) → Option (Int32 × zS)} (ihagain29 : ∀ s : Int32 × zS, s.2.2.1 = L → Pt (again29 s) (fun r => r.2.2.1 = L)) {s : Int32 × zS} (hj : s.2.2.1 = L) : Pt (F_X12_back_29 N x0 x1 again29 s) (fun r => r.2.2.1 = L) := by
  obtain ⟨x2, σ⟩ := s
  rw [F_X12_back_29.eq_1]
  exact pt_if (fun _ => pt_lp (fun s => s.2.2.1 = L) (fun again s hI ih => jF_X12_back_60 ih hI) N _ hj) (fun _ => pj_a (fun _ => pj_a (fun _ => pj_a (fun _ => pj_s (j_sI hj) (fun _ h1 => (ihagain29 _ h1))))))
theorem jf_X12_back {x0 : Nat} {x1 : Int32} {σ : zS}  (hj : σ.2.1 = L) : Pt (f_X12_back N x0 x1 σ) (fun r => r.2.2.1 = L) := by
  rw [f_X12_back.eq_1]
  exact pt_zb (jf_X12_in hj) (fun _ _ h1 => pt_if (fun _ => pt_some h1) (fun _ => pj_a (fun _ => pj_a (fun _ => pt_if (fun _ => pt_some h1) (fun _ => pt_lp (fun s => s.2.2.1 = L) (fun again s hI ih => jF_X12_back_29 ih hI) N _ h1)))))
theorem jf_X12_isWorld {x0 : Nat} {σ : zS}  (hj : σ.2.1 = L) : Pt (f_X12_isWorld N x0 σ) (fun r => r.2.2.1 = L) := by
  rw [f_X12_isWorld.eq_1]
  exact pj_a (fun _ => pj_a (fun _ => pt_if (fun _ => pt_rZ hj) (fun _ => pt_rZ hj)))
theorem jf_X12_isRegister {x0 : Nat} {x1 : Int32} {σ : zS}  (hj : σ.2.1 = L) : Pt (f_X12_isRegister N x0 x1 σ) (fun r => r.2.2.1 = L) := by
  rw [f_X12_isRegister.eq_1]
  exact pj_a (fun _ => pt_zb (jf_X12_isWorld hj) (fun _ _ h1 => pt_if (fun _ => pt_rZ h1) (fun _ => pt_zb (jf_X12_in h1) (fun _ _ h2 => pt_if (fun _ => pt_rZ h2) (fun _ => pt_rZ h2)))))
theorem jf_X12_many {x0 : Nat} {σ : zS}  (hj : σ.2.1 = L) : Pt (f_X12_many N x0 σ) (fun r => r.2.2.1 = L) := by
  rw [f_X12_many.eq_1]
  exact pj_a (fun _ => pt_zb (jf_X12_isWorld hj) (fun _ _ h1 => pt_if (fun _ => pt_some h1) (fun _ => pj_a (fun _ => pj_a (fun _ => pt_some h1)))))
theorem jf_X12_isSet {x0 : Nat} {x1 : Int32} {σ : zS}  (hj : σ.2.1 = L) : Pt (f_X12_isSet N x0 x1 σ) (fun r => r.2.2.1 = L) := by
  rw [f_X12_isSet.eq_1]
  exact pj_a (fun _ => pt_zb (jf_X12_many hj) (fun _ _ h1 => pt_zb (jf_X12_in h1) (fun _ _ h2 => pt_rZ h2)))
theorem jf_X12_isName {x0 : Nat} {x1 : Int32} {σ : zS}  (hj : σ.2.1 = L) : Pt (f_X12_isName N x0 x1 σ) (fun r => r.2.2.1 = L) := by
  rw [f_X12_isName.eq_1]
  exact pj_a (fun _ => pj_a (fun _ => pt_zb (jf_X12_in hj) (fun _ _ h1 => pt_rZ h1)))
theorem jf_X12_of {x0 : Nat} {x1 : Int32} {x2 : Int32} {σ : zS}  (hj : σ.2.1 = L) : Pt (f_X12_of N x0 x1 x2 σ) (fun r => r.2.2.1 = L) := by
  rw [f_X12_of.eq_1]
  exact pj_a (fun _ => pj_a (fun _ => pt_rZ hj))
theorem jF_X12_namesOf_4 {x0 : Int32} {again4 : (Int32 × Int32 × zS) → Option (Int32 × zS)} (ihagain4 : ∀ s : Int32 × Int32 × zS, s.2.2.2.1 = L → Pt (again4 s) (fun r => r.2.2.1 = L)) {s : Int32 × Int32 × zS} (hj : s.2.2.2.1 = L) : Pt (F_X12_namesOf_4 N x0 again4 s) (fun r => r.2.2.1 = L) := by
  obtain ⟨x1, x2, σ⟩ := s
  rw [F_X12_namesOf_4.eq_1]
  exact pt_if (fun _ => pt_some hj) (fun _ => (ihagain4 _ hj))
theorem jf_X12_namesOf {x0 : Int32} {σ : zS}  (hj : σ.2.1 = L) : Pt (f_X12_namesOf N x0 σ) (fun r => r.2.2.1 = L) := by
  rw [f_X12_namesOf.eq_1]
  exact pt_lp (fun s => s.2.2.2.1 = L) (fun again s hI ih => jF_X12_namesOf_4 ih hI) N _ hj
theorem jF_X12_feed_55 {x0 : Nat} {again55 : (Int32 × zS) → Option (Int32 × zS)} (ihagain55 : ∀ s : Int32 × zS, s.2.2.1 = L → Pt (again55 s) (fun r => r.2.2.1 = L)) {s : Int32 × zS} (hj : s.2.2.1 = L) : Pt (F_X12_feed_55 N x0 again55 s) (fun r => r.2.2.1 = L) := by
  obtain ⟨x6, σ⟩ := s
  rw [F_X12_feed_55.eq_1]
  exact pt_if (fun _ => pj_a (fun _ => pj_s (j_pI hj) (fun _ h1 => pj_a (fun _ => pt_some h1)))) (fun _ => pj_a (fun _ => pj_a (fun _ => pj_a (fun _ => pj_a (fun _ => pj_a (fun _ => pj_a (fun _ => pj_s (j_sI hj) (fun _ h2 => (ihagain55 _ h2)))))))))
theorem jf_X12_feed {x0 : Nat} {x1 : Int32} {x2 : Int32} {x3 : Int32} {x4 : Int32} {x5 : Int32} {σ : zS}  (hj : σ.2.1 = L) : Pt (f_X12_feed N x0 x1 x2 x3 x4 x5 σ) (fun r => r.2.2.1 = L) := by
  rw [f_X12_feed.eq_1]
  exact pj_a (fun _ => pt_if (fun _ => pj_a (fun _ => pj_s (j_sI hj) (fun _ h1 => pj_a (fun _ => pj_s (j_sI h1) (fun _ h2 => pj_a (fun _ => pj_s (j_sI h2) (fun _ h3 => pj_a (fun _ => pj_s (j_sI h3) (fun _ h4 => pj_a (fun _ => pj_s (j_sI h4) (fun _ h5 => pt_lp (fun s => s.2.2.1 = L) (fun again s hI ih => jF_X12_feed_55 ih hI) N _ h5))))))))))) (fun _ => pt_some hj))
theorem jf_X12_end {x0 : Nat} {x1 : Int32} {σ : zS}  (hj : σ.2.1 = L) : Pt (f_X12_end N x0 x1 σ) (fun r => r.2.2.1 = L) := by
  rw [f_X12_end.eq_1]
  exact pj_a (fun _ => pt_zb (jf_X12_in hj) (fun _ _ h1 => pt_if (fun _ => pt_some h1) (fun _ => pj_s (j_pI h1) (fun _ h2 => pt_some h2))))
theorem jf_X12_see {x0 : Nat} {x1 : Int32} {σ : zS}  (hj : σ.2.1 = L) : Pt (f_X12_see N x0 x1 σ) (fun r => r.2.2.1 = L) := by
  rw [f_X12_see.eq_1]
  exact pj_a (fun _ => pt_if (fun _ => pt_some hj) (fun _ => pj_a (fun _ => pj_a (fun _ => pt_some hj))))
theorem jf_X12_isSign {x0 : Int32} {σ : zS}  (hj : σ.2.1 = L) : Pt (f_X12_isSign N x0 σ) (fun r => r.2.2.1 = L) := by
  rw [f_X12_isSign.eq_1]
  exact pt_if (fun _ => pt_rZ hj) (fun _ => pt_if (fun _ => pt_rZ hj) (fun _ => pt_if (fun _ => pt_rZ hj) (fun _ => pt_if (fun _ => pt_rZ hj) (fun _ => pt_if (fun _ => pt_rZ hj) (fun _ => pt_if (fun _ => pt_rZ hj) (fun _ => pt_if (fun _ => pt_rZ hj) (fun _ => pt_if (fun _ => pt_rZ hj) (fun _ => pt_if (fun _ => pt_rZ hj) (fun _ => pt_if (fun _ => pt_rZ hj) (fun _ => pt_if (fun _ => pt_rZ hj) (fun _ => pt_if (fun _ => pt_rZ hj) (fun _ => pt_if (fun _ => pt_rZ hj) (fun _ => pt_if (fun _ => pt_rZ hj) (fun _ => pt_rZ hj))))))))))))))
theorem jF_X12_advance_144 {x0 : Nat} {again144 : zS → Option (Unit × zS)} (ihagain144 : ∀ s : zS, s.2.1 = L → Pt (again144 s) (fun r => r.2.2.1 = L)) {s : zS} (hj : s.2.1 = L) : Pt (F_X12_advance_144 N x0 again144 s) (fun r => r.2.2.1 = L) := by
  rw [F_X12_advance_144.eq_1]
  exact pj_a (fun _ => pj_a (fun _ => pt_zb (jf_X12_see hj) (fun _ _ h1 => pt_zb (jf_X12_in h1) (fun _ _ h2 => pt_if (fun _ => pj_s (j_pI h2) (fun _ h3 => pt_some h3)) (fun _ => pj_a (fun _ => pj_a (fun _ => pj_a (fun _ => pt_zb (jf_X12_see h2) (fun _ _ h4 => pj_s (j_pI h4) (fun _ h5 => pj_a (fun _ => pj_s (j_pI h5) (fun _ h6 => (ihagain144 _ h6)))))))))))))
theorem jF_X12_advance_83 {x0 : Nat} {again83 : zS → Option (Unit × zS)} (ihagain83 : ∀ s : zS, s.2.1 = L → Pt (again83 s) (fun r => r.2.2.1 = L)) {s : zS} (hj : s.2.1 = L) : Pt (F_X12_advance_83 N x0 again83 s) (fun r => r.2.2.1 = L) := by
  rw [F_X12_advance_83.eq_1]
  exact pj_a (fun _ => pj_a (fun _ => pt_zb (jf_X12_see hj) (fun _ _ h1 => pt_zb (jf_X12_in h1) (fun _ _ h2 => pt_if (fun _ => pj_s (j_pI h2) (fun _ h3 => pt_some h3)) (fun _ => pj_a (fun _ => pj_s (j_pI h2) (fun _ h4 => (ihagain83 _ h4))))))))
theorem jF_X12_advance_0 {x0 : Nat} {again0 : zS → Option (Unit × zS)} (ihagain0 : ∀ s : zS, s.2.1 = L → Pt (again0 s) (fun r => r.2.2.1 = L)) {s : zS} (hj : s.2.1 = L) : Pt (F_X12_advance_0 N x0 again0 s) (fun r => r.2.2.1 = L) := by
  rw [F_X12_advance_0.eq_1]
  exact pj_a (fun _ => pj_a (fun _ => pt_zb (jf_X12_see hj) (fun _ _ h1 => pt_if (fun _ => pj_a (fun _ => pj_s (j_pI h1) (fun _ h2 => (ihagain0 _ h2)))) (fun _ => pj_a (fun _ => pj_a (fun _ => pt_zb (jf_X12_see h1) (fun _ _ h3 => pt_if (fun _ => pj_a (fun _ => pj_s (j_pI h3) (fun _ h4 => (ihagain0 _ h4)))) (fun _ => pj_a (fun _ => pj_s (j_pI h3) (fun _ h5 => pj_a (fun _ => pj_a (fun _ => pt_zb (jf_X12_see h5) (fun _ _ h6 => pt_if (fun _ => pj_s (j_pI h6) (fun _ h7 => pt_some h7)) (fun _ => pt_zb (jf_X12_in h6) (fun _ _ h8 => pt_if (fun _ => pt_zb (jf_X12_in h8) (fun _ _ h9 => pt_if (fun _ => pt_zb (jf_X12_isSign h9) (fun _ _ h10 => pt_if (fun _ => pj_s (j_pI h10) (fun _ h11 => pj_a (fun _ => pj_s (j_pI h11) (fun _ h12 => pt_some h12)))) (fun _ => pj_s (j_pI h10) (fun _ h13 => pj_a (fun _ => pj_s (j_pI h13) (fun _ h14 => pt_some h14)))))) (fun _ => pj_s (j_pI h9) (fun _ h15 => pt_lp (fun s => s.2.1 = L) (fun again s hI ih => jF_X12_advance_144 ih hI) N _ h15)))) (fun _ => pt_lp (fun s => s.2.1 = L) (fun again s hI ih => jF_X12_advance_83 ih hI) N _ h8))))))))))))))))
theorem jf_X12_advance {x0 : Nat} {σ : zS}  (hj : σ.2.1 = L) : Pt (f_X12_advance N x0 σ) (fun r => r.2.2.1 = L) := by
  rw [f_X12_advance.eq_1]
  exact pt_lp (fun s => s.2.1 = L) (fun again s hI ih => jF_X12_advance_0 ih hI) N _ hj
theorem jf_X12_begins {x0 : Nat} {σ : zS}  (hj : σ.2.1 = L) : Pt (f_X12_begins N x0 σ) (fun r => r.2.2.1 = L) := by
  rw [f_X12_begins.eq_1]
  exact pj_a (fun _ => pj_s (j_pI hj) (fun _ h1 => pj_s (j_pI h1) (fun _ h2 => pj_s (j_pI h2) (fun _ h3 => pj_s (j_pI h3) (fun _ h4 => pj_s (j_pI h4) (fun _ h5 => pj_s (j_pI h5) (fun _ h6 => pj_a (fun _ => pt_zb (jf_X12_advance h6) (fun _ _ h7 => pt_some h7)))))))))
theorem jf_X12_good {x0 : Nat} {σ : zS}  (hj : σ.2.1 = L) : Pt (f_X12_good N x0 σ) (fun r => r.2.2.1 = L) := by
  rw [f_X12_good.eq_1]
  exact pj_a (fun _ => pt_if (fun _ => pt_rZ hj) (fun _ => pt_rZ hj))
theorem jf_X12_errs {x0 : Nat} {x1 : Int32} {σ : zS}  (hj : σ.2.1 = L) : Pt (f_X12_errs N x0 x1 σ) (fun r => r.2.2.1 = L) := by
  rw [f_X12_errs.eq_1]
  exact pj_a (fun _ => pt_zb (jf_X12_good hj) (fun _ _ h1 => pt_if (fun _ => pt_some h1) (fun _ => pj_s (j_pI h1) (fun _ h2 => pj_a (fun _ => pj_s (j_pI h2) (fun _ h3 => pt_some h3))))))
theorem jF_X12_is_39 {x0 : Nat} {x1 : Nat} {again39 : (Int32 × Int32 × zS) → Option (Int32 × zS)} (ihagain39 : ∀ s : Int32 × Int32 × zS, s.2.2.2.1 = L → Pt (again39 s) (fun r => r.2.2.1 = L)) {s : Int32 × Int32 × zS} (hj : s.2.2.2.1 = L) : Pt (F_X12_is_39 N x0 x1 again39 s) (fun r => r.2.2.1 = L) := by
  obtain ⟨x2, x3, σ⟩ := s
  rw [F_X12_is_39.eq_1]
  exact pt_zb (jf_J0_length_8abf5 hj) (fun _ _ h1 => pt_if (fun _ => pt_rZ h1) (fun _ => pt_if (fun _ => pt_rZ h1) (fun _ => pj_a (fun _ => pj_a (fun _ => pj_a (fun _ => pt_zb (jf_J0_charAt_5068e h1) (fun _ _ h2 => pt_if (fun _ => (ihagain39 _ h2)) (fun _ => (ihagain39 _ h2)))))))))
theorem jJ_X12_is_36 {x0 : Nat} {x1 : Nat} {y0 : Int32} {σ : zS}  (hj : σ.2.1 = L) : Pt (J_X12_is_36 N x0 x1 y0 σ) (fun r => r.2.2.1 = L) := by
  rw [J_X12_is_36.eq_1]
  exact pt_lp (fun s => s.2.2.2.1 = L) (fun again s hI ih => jF_X12_is_39 ih hI) N _ hj
theorem jf_X12_is {x0 : Nat} {x1 : Nat} {σ : zS}  (hj : σ.2.1 = L) : Pt (f_X12_is N x0 x1 σ) (fun r => r.2.2.1 = L) := by
  rw [f_X12_is.eq_1]
  exact pj_a (fun _ => pt_zb (jf_X12_good hj) (fun _ _ h1 => pt_if (fun _ => (jJ_X12_is_36 h1)) (fun _ => pj_a (fun _ => pt_if (fun _ => pj_a (fun _ => pj_a (fun _ => pt_zb (jf_J0_length_8abf5 h1) (fun _ _ h2 => pt_if (fun _ => (jJ_X12_is_36 h2)) (fun _ => (jJ_X12_is_36 h2)))))) (fun _ => (jJ_X12_is_36 h1))))))
theorem jf_X12_takes {x0 : Nat} {x1 : Nat} {σ : zS}  (hj : σ.2.1 = L) : Pt (f_X12_takes N x0 x1 σ) (fun r => r.2.2.1 = L) := by
  rw [f_X12_takes.eq_1]
  exact pj_a (fun _ => pt_zb (jf_X12_is hj) (fun _ _ h1 => pt_if (fun _ => pt_rZ h1) (fun _ => pj_a (fun _ => pt_zb (jf_X12_advance h1) (fun _ _ h2 => pt_rZ h2)))))
theorem jf_X12_needs {x0 : Nat} {x1 : Nat} {σ : zS}  (hj : σ.2.1 = L) : Pt (f_X12_needs N x0 x1 σ) (fun r => r.2.2.1 = L) := by
  rw [f_X12_needs.eq_1]
  exact pj_a (fun _ => pt_zb (jf_X12_takes hj) (fun _ _ h1 => pt_if (fun _ => pj_a (fun _ => pt_zb (jf_X12_errs h1) (fun _ _ h2 => pt_some h2))) (fun _ => pt_some h1)))
theorem jJ_X12_needsSign_20 {x0 : Nat} {σ : zS}  (hj : σ.2.1 = L) : Pt (J_X12_needsSign_20 N x0 σ) (fun r => r.2.2.1 = L) := by
  rw [J_X12_needsSign_20.eq_1]
  exact pj_a (fun _ => pt_zb (jf_X12_good hj) (fun _ _ h1 => pt_if (fun _ => pt_some h1) (fun _ => pj_a (fun _ => pt_zb (jf_X12_advance h1) (fun _ _ h2 => pt_some h2)))))
theorem jf_X12_needsSign {x0 : Nat} {x1 : Int32} {σ : zS}  (hj : σ.2.1 = L) : Pt (f_X12_needsSign N x0 x1 σ) (fun r => r.2.2.1 = L) := by
  rw [f_X12_needsSign.eq_1]
  exact pj_a (fun _ => pt_zb (jf_X12_good hj) (fun _ _ h1 => pt_if (fun _ => (jJ_X12_needsSign_20 h1)) (fun _ => pj_a (fun _ => pt_if (fun _ => (jJ_X12_needsSign_20 h1)) (fun _ => pj_a (fun _ => pt_zb (jf_X12_errs h1) (fun _ _ h2 => (jJ_X12_needsSign_20 h2))))))))
theorem jJ_X12_number_47 {x0 : Nat} {σ : zS}  (hj : σ.2.1 = L) : Pt (J_X12_number_47 N x0 σ) (fun r => r.2.2.1 = L) := by
  rw [J_X12_number_47.eq_1]
  exact pj_a (fun _ => pt_zb (jf_X12_good hj) (fun _ _ h1 => pt_if (fun _ => pt_some h1) (fun _ => pj_a (fun _ => pj_a (fun _ => pt_zb (jf_X12_advance h1) (fun _ _ h2 => pt_some h2))))))
theorem jJ_X12_number_20 {x0 : Nat} {x1 : Int32} {x2 : Int32} {σ : zS}  (hj : σ.2.1 = L) : Pt (J_X12_number_20 N x0 x1 x2 σ) (fun r => r.2.2.1 = L) := by
  rw [J_X12_number_20.eq_1]
  exact pj_a (fun _ => pt_zb (jf_X12_good hj) (fun _ _ h1 => pt_if (fun _ => (jJ_X12_number_47 h1)) (fun _ => pj_a (fun _ => pt_zb (jf_X12_in h1) (fun _ _ h2 => pt_if (fun _ => pj_a (fun _ => pt_zb (jf_X12_errs h2) (fun _ _ h3 => (jJ_X12_number_47 h3)))) (fun _ => (jJ_X12_number_47 h2)))))))
theorem jf_X12_number {x0 : Nat} {x1 : Int32} {x2 : Int32} {σ : zS}  (hj : σ.2.1 = L) : Pt (f_X12_number N x0 x1 x2 σ) (fun r => r.2.2.1 = L) := by
  rw [f_X12_number.eq_1]
  exact pj_a (fun _ => pt_zb (jf_X12_good hj) (fun _ _ h1 => pt_if (fun _ => (jJ_X12_number_20 h1)) (fun _ => pj_a (fun _ => pt_if (fun _ => (jJ_X12_number_20 h1)) (fun _ => pj_a (fun _ => pt_zb (jf_X12_errs h1) (fun _ _ h2 => (jJ_X12_number_20 h2))))))))
theorem jf_X12_fault {x0 : Nat} {x1 : Int32} {σ : zS}  (hj : σ.2.1 = L) : Pt (f_X12_fault N x0 x1 σ) (fun r => r.2.2.1 = L) := by
  rw [f_X12_fault.eq_1]
  exact pt_if (fun _ => pj_a (fun _ => pt_some hj)) (fun _ => pt_if (fun _ => pj_a (fun _ => pt_some hj)) (fun _ => pt_some hj))
theorem jF_X12_joins_38 {x0 : Nat} {x1 : Nat} {x2 : Int32} {x3 : Nat} {x4 : Int32} {x5 : Nat} {x6 : Int32} {again26 : (Int32 × zS) → Option (Unit × zS)} {again38 : (Int32 × zS) → Option (Unit × zS)} (ihagain26 : ∀ s : Int32 × zS, s.2.2.1 = L → Pt (again26 s) (fun r => r.2.2.1 = L)) (ihagain38 : ∀ s : Int32 × zS, s.2.2.1 = L → Pt (again38 s) (fun r => r.2.2.1 = L)) {s : Int32 × zS} (hj : s.2.2.1 = L) : Pt (F_X12_joins_38 N x0 x1 x2 x3 x4 x5 x6 again26 again38 s) (fun r => r.2.2.1 = L) := by
  obtain ⟨x7, σ⟩ := s
  rw [F_X12_joins_38.eq_1]
  exact pj_a (fun _ => pt_if (fun _ => (ihagain26 _ hj)) (fun _ => pj_a (fun _ => pt_if (fun _ => (ihagain26 _ hj)) (fun _ => pj_a (fun _ => pt_if (fun _ => (ihagain38 _ hj)) (fun _ => pj_s (j_sI hj) (fun _ h1 => (ihagain38 _ h1))))))))
theorem jF_X12_joins_26 {x0 : Nat} {x1 : Nat} {x2 : Int32} {x3 : Nat} {x4 : Int32} {x5 : Nat} {again26 : (Int32 × zS) → Option (Unit × zS)} (ihagain26 : ∀ s : Int32 × zS, s.2.2.1 = L → Pt (again26 s) (fun r => r.2.2.1 = L)) {s : Int32 × zS} (hj : s.2.2.1 = L) : Pt (F_X12_joins_26 N x0 x1 x2 x3 x4 x5 again26 s) (fun r => r.2.2.1 = L) := by
  obtain ⟨x6, σ⟩ := s
  rw [F_X12_joins_26.eq_1]
  exact pj_a (fun _ => pt_if (fun _ => pt_some hj) (fun _ => pt_lp (fun s => s.2.2.1 = L) (fun again s hI ih => jF_X12_joins_38 ihagain26 ih hI) N _ hj))
theorem jF_X12_joins_3 {x0 : Nat} {x1 : Nat} {x2 : Int32} {x3 : Nat} {x4 : Int32} {x5 : Nat} {again3 : (Int32 × zS) → Option (Unit × zS)} (ihagain3 : ∀ s : Int32 × zS, s.2.2.1 = L → Pt (again3 s) (fun r => r.2.2.1 = L)) {s : Int32 × zS} (hj : s.2.2.1 = L) : Pt (F_X12_joins_3 N x0 x1 x2 x3 x4 x5 again3 s) (fun r => r.2.2.1 = L) := by
  obtain ⟨x6, σ⟩ := s
  rw [F_X12_joins_3.eq_1]
  exact pt_if (fun _ => pt_lp (fun s => s.2.2.1 = L) (fun again s hI ih => jF_X12_joins_26 ih hI) N _ hj) (fun _ => pj_s (j_sI hj) (fun _ h1 => (ihagain3 _ h1)))
theorem jf_X12_joins {x0 : Nat} {x1 : Nat} {x2 : Int32} {x3 : Nat} {x4 : Int32} {x5 : Nat} {σ : zS}  (hj : σ.2.1 = L) : Pt (f_X12_joins N x0 x1 x2 x3 x4 x5 σ) (fun r => r.2.2.1 = L) := by
  rw [f_X12_joins.eq_1]
  exact pt_lp (fun s => s.2.2.1 = L) (fun again s hI ih => jF_X12_joins_3 ih hI) N _ hj
theorem jF_X12_isOver_6 {x0 : Nat} {x1 : Nat} {x2 : Int32} {x3 : Nat} {x4 : Int32} {x5 : Int32} {again6 : (Int32 × Int32 × zS) → Option (Int32 × zS)} (ihagain6 : ∀ s : Int32 × Int32 × zS, s.2.2.2.1 = L → Pt (again6 s) (fun r => r.2.2.1 = L)) {s : Int32 × Int32 × zS} (hj : s.2.2.2.1 = L) : Pt (F_X12_isOver_6 N x0 x1 x2 x3 x4 x5 again6 s) (fun r => r.2.2.1 = L) := by
  obtain ⟨x6, x7, σ⟩ := s
  rw [F_X12_isOver_6.eq_1]
  exact pj_a (fun _ => pt_if (fun _ => pt_rZ hj) (fun _ => pj_a (fun _ => pt_if (fun _ => (ihagain6 _ hj)) (fun _ => pt_if (fun _ => pj_a (fun _ => pt_if (fun _ => pt_rZ hj) (fun _ => (ihagain6 _ hj)))) (fun _ => pt_rZ hj)))))
theorem jf_X12_isOver {x0 : Nat} {x1 : Nat} {x2 : Int32} {x3 : Nat} {x4 : Int32} {x5 : Int32} {σ : zS}  (hj : σ.2.1 = L) : Pt (f_X12_isOver N x0 x1 x2 x3 x4 x5 σ) (fun r => r.2.2.1 = L) := by
  rw [f_X12_isOver.eq_1]
  exact pt_lp (fun s => s.2.2.2.1 = L) (fun again s hI ih => jF_X12_isOver_6 ih hI) N _ hj
theorem jF_X12_isTouching_3 {x0 : Nat} {x1 : Nat} {x2 : Int32} {x3 : Int32} {again3 : (Int32 × zS) → Option (Int32 × zS)} (ihagain3 : ∀ s : Int32 × zS, s.2.2.1 = L → Pt (again3 s) (fun r => r.2.2.1 = L)) {s : Int32 × zS} (hj : s.2.2.1 = L) : Pt (F_X12_isTouching_3 N x0 x1 x2 x3 again3 s) (fun r => r.2.2.1 = L) := by
  obtain ⟨x4, σ⟩ := s
  rw [F_X12_isTouching_3.eq_1]
  exact pj_a (fun _ => pt_if (fun _ => pt_rZ hj) (fun _ => pj_a (fun _ => pt_if (fun _ => (ihagain3 _ hj)) (fun _ => pt_if (fun _ => pt_rZ hj) (fun _ => (ihagain3 _ hj))))))
theorem jf_X12_isTouching {x0 : Nat} {x1 : Nat} {x2 : Int32} {x3 : Int32} {σ : zS}  (hj : σ.2.1 = L) : Pt (f_X12_isTouching N x0 x1 x2 x3 σ) (fun r => r.2.2.1 = L) := by
  rw [f_X12_isTouching.eq_1]
  exact pt_lp (fun s => s.2.2.1 = L) (fun again s hI ih => jF_X12_isTouching_3 ih hI) N _ hj
theorem jF_X12_gives_98 {x0 : Nat} {x2 : Nat} {x3 : Int32} {again98 : (Int32 × zS) → Option (Unit × zS)} (ihagain98 : ∀ s : Int32 × zS, s.2.2.1 = L → Pt (again98 s) (fun r => r.2.2.1 = L)) {s : Int32 × zS} (hj : s.2.2.1 = L) : Pt (F_X12_gives_98 N x0 x2 x3 again98 s) (fun r => r.2.2.1 = L) := by
  obtain ⟨x6, σ⟩ := s
  rw [F_X12_gives_98.eq_1]
  exact pt_if (fun _ => pt_some hj) (fun _ => pj_a (fun _ => pj_a (fun _ => pt_if (fun _ => pj_s (j_sI hj) (fun _ h1 => (ihagain98 _ h1))) (fun _ => pj_a (fun _ => pt_if (fun _ => pj_s (j_sI hj) (fun _ h2 => (ihagain98 _ h2))) (fun _ => pj_a (fun _ => pj_a (fun _ => pt_if (fun _ => pj_s (j_sI hj) (fun _ h3 => (ihagain98 _ h3))) (fun _ => pj_s (j_sI hj) (fun _ h4 => (ihagain98 _ h4)))))))))))
theorem jF_X12_gives_28 {x0 : Nat} {x2 : Nat} {x3 : Int32} {x4 : Nat} {x5 : Int32} {again28 : (Int32 × zS) → Option (Unit × zS)} (ihagain28 : ∀ s : Int32 × zS, s.2.2.1 = L → Pt (again28 s) (fun r => r.2.2.1 = L)) {s : Int32 × zS} (hj : s.2.2.1 = L) : Pt (F_X12_gives_28 N x0 x2 x3 x4 x5 again28 s) (fun r => r.2.2.1 = L) := by
  obtain ⟨x6, σ⟩ := s
  rw [F_X12_gives_28.eq_1]
  exact pt_if (fun _ => pj_a (fun _ => pj_a (fun _ => pj_a (fun _ => pt_zb (jf_X12_joins hj) (fun _ _ h1 => pt_lp (fun s => s.2.2.1 = L) (fun again s hI ih => jF_X12_gives_98 ih hI) N _ h1))))) (fun _ => pj_a (fun _ => pj_a (fun _ => pt_if (fun _ => pj_s (j_sI hj) (fun _ h2 => (ihagain28 _ h2))) (fun _ => pj_a (fun _ => pt_zb (jf_X12_isOver hj) (fun _ _ h3 => pt_if (fun _ => pj_s (j_sI h3) (fun _ h4 => (ihagain28 _ h4))) (fun _ => pj_s (j_sI h3) (fun _ h5 => (ihagain28 _ h5)))))))))
theorem jJ_X12_gives_178 {again156 : (Int32 × zS) → Option (Unit × zS)} {x0 : Nat} {x1 : Int32} {x2 : Nat} {x3 : Int32} {x4 : Nat} {x5 : Int32} {x6 : Int32} {y0 : Int32} {σ : zS} (ihagain156 : ∀ s : Int32 × zS, s.2.2.1 = L → Pt (again156 s) (fun r => r.2.2.1 = L)) (hj : σ.2.1 = L) : Pt (J_X12_gives_178 N again156 x0 x1 x2 x3 x4 x5 x6 y0 σ) (fun r => r.2.2.1 = L) := by
  rw [J_X12_gives_178.eq_1]
  exact pt_if (fun _ => pt_if (fun _ => pj_a (fun _ => pj_s (j_sI hj) (fun _ h1 => (ihagain156 _ h1)))) (fun _ => pj_a (fun _ => pt_if (fun _ => pj_a (fun _ => pt_if (fun _ => pj_a (fun _ => pj_s (j_sI hj) (fun _ h2 => (ihagain156 _ h2)))) (fun _ => pj_a (fun _ => pj_s (j_sI hj) (fun _ h3 => (ihagain156 _ h3)))))) (fun _ => pj_a (fun _ => pj_s (j_sI hj) (fun _ h4 => (ihagain156 _ h4))))))) (fun _ => pt_if (fun _ => pt_if (fun _ => pj_a (fun _ => pj_s (j_sI hj) (fun _ h5 => (ihagain156 _ h5)))) (fun _ => pj_a (fun _ => pt_if (fun _ => pj_a (fun _ => pj_s (j_sI hj) (fun _ h6 => (ihagain156 _ h6)))) (fun _ => pj_a (fun _ => pt_if (fun _ => pj_a (fun _ => pj_s (j_sI hj) (fun _ h7 => (ihagain156 _ h7)))) (fun _ => pj_a (fun _ => pj_s (j_sI hj) (fun _ h8 => (ihagain156 _ h8))))))))) (fun _ => pt_if (fun _ => pt_if (fun _ => pj_a (fun _ => pj_s (j_sI hj) (fun _ h9 => (ihagain156 _ h9)))) (fun _ => pj_a (fun _ => pt_if (fun _ => pj_a (fun _ => pj_s (j_sI hj) (fun _ h10 => (ihagain156 _ h10)))) (fun _ => pj_a (fun _ => pt_if (fun _ => pj_a (fun _ => pj_s (j_sI hj) (fun _ h11 => (ihagain156 _ h11)))) (fun _ => pj_a (fun _ => pj_s (j_sI hj) (fun _ h12 => (ihagain156 _ h12))))))))) (fun _ => pt_if (fun _ => pt_if (fun _ => pj_a (fun _ => pj_s (j_sI hj) (fun _ h13 => (ihagain156 _ h13)))) (fun _ => pj_a (fun _ => pt_zb (jf_X12_isOver hj) (fun _ _ h14 => pt_if (fun _ => pj_a (fun _ => pj_s (j_sI h14) (fun _ h15 => (ihagain156 _ h15)))) (fun _ => pj_a (fun _ => pj_s (j_sI h14) (fun _ h16 => (ihagain156 _ h16)))))))) (fun _ => pt_if (fun _ => pj_a (fun _ => pj_s (j_sI hj) (fun _ h17 => (ihagain156 _ h17)))) (fun _ => pj_a (fun _ => pt_if (fun _ => pj_a (fun _ => pj_s (j_sI hj) (fun _ h18 => (ihagain156 _ h18)))) (fun _ => pj_a (fun _ => pt_zb (jf_X12_isTouching hj) (fun _ _ h19 => pt_if (fun _ => pj_a (fun _ => pj_s (j_sI h19) (fun _ h20 => (ihagain156 _ h20)))) (fun _ => pj_a (fun _ => pj_s (j_sI h19) (fun _ h21 => (ihagain156 _ h21)))))))))))))
theorem jF_X12_gives_156 {x0 : Nat} {x1 : Int32} {x2 : Nat} {x3 : Int32} {x4 : Nat} {x5 : Int32} {again156 : (Int32 × zS) → Option (Unit × zS)} (ihagain156 : ∀ s : Int32 × zS, s.2.2.1 = L → Pt (again156 s) (fun r => r.2.2.1 = L)) {s : Int32 × zS} (hj : s.2.2.1 = L) : Pt (F_X12_gives_156 N x0 x1 x2 x3 x4 x5 again156 s) (fun r => r.2.2.1 = L) := by
  obtain ⟨x6, σ⟩ := s
  rw [F_X12_gives_156.eq_1]
  exact pt_if (fun _ => pt_some hj) (fun _ => pj_a (fun _ => pt_if (fun _ => (jJ_X12_gives_178 ihagain156 hj)) (fun _ => (jJ_X12_gives_178 ihagain156 hj))))
theorem jf_X12_gives {x0 : Nat} {x1 : Int32} {x2 : Nat} {x3 : Int32} {x4 : Nat} {x5 : Int32} {σ : zS}  (hj : σ.2.1 = L) : Pt (f_X12_gives N x0 x1 x2 x3 x4 x5 σ) (fun r => r.2.2.1 = L) := by
  rw [f_X12_gives.eq_1]
  exact pt_if (fun _ => pj_a (fun _ => pj_a (fun _ => pt_zb (jf_X12_joins hj) (fun _ _ h1 => pt_some h1)))) (fun _ => pt_if (fun _ => pt_lp (fun s => s.2.2.1 = L) (fun again s hI ih => jF_X12_gives_28 ih hI) N _ hj) (fun _ => pt_lp (fun s => s.2.2.1 = L) (fun again s hI ih => jF_X12_gives_156 ih hI) N _ hj))
theorem jF_X12_isNested_3 {x0 : Nat} {x1 : Nat} {x2 : Int32} {x3 : Int32} {x4 : Int32} {again3 : (Int32 × zS) → Option (Int32 × zS)} (ihagain3 : ∀ s : Int32 × zS, s.2.2.1 = L → Pt (again3 s) (fun r => r.2.2.1 = L)) {s : Int32 × zS} (hj : s.2.2.1 = L) : Pt (F_X12_isNested_3 N x0 x1 x2 x3 x4 again3 s) (fun r => r.2.2.1 = L) := by
  obtain ⟨x5, σ⟩ := s
  rw [F_X12_isNested_3.eq_1]
  exact pj_a (fun _ => pt_if (fun _ => pt_rZ hj) (fun _ => pt_if (fun _ => (ihagain3 _ hj)) (fun _ => pj_a (fun _ => pt_if (fun _ => (ihagain3 _ hj)) (fun _ => pt_if (fun _ => pt_if (fun _ => pt_rZ hj) (fun _ => (ihagain3 _ hj))) (fun _ => pt_if (fun _ => pt_rZ hj) (fun _ => (ihagain3 _ hj))))))))
theorem jf_X12_isNested {x0 : Nat} {x1 : Nat} {x2 : Int32} {x3 : Int32} {x4 : Int32} {σ : zS}  (hj : σ.2.1 = L) : Pt (f_X12_isNested N x0 x1 x2 x3 x4 σ) (fun r => r.2.2.1 = L) := by
  rw [f_X12_isNested.eq_1]
  exact pt_lp (fun s => s.2.2.1 = L) (fun again s hI ih => jF_X12_isNested_3 ih hI) N _ hj
theorem jF_X12_turns__2 {x0 : Nat} {x1 : Nat} {again2 : (Int32 × zS) → Option (Unit × zS)} (ihagain2 : ∀ s : Int32 × zS, s.2.2.1 = L → Pt (again2 s) (fun r => r.2.2.1 = L)) {s : Int32 × zS} (hj : s.2.2.1 = L) : Pt (F_X12_turns__2 N x0 x1 again2 s) (fun r => r.2.2.1 = L) := by
  obtain ⟨x2, σ⟩ := s
  rw [F_X12_turns__2.eq_1]
  exact pt_if (fun _ => pt_some hj) (fun _ => pj_a (fun _ => pj_a (fun _ => pt_if (fun _ => pj_s (j_sI hj) (fun _ h1 => (ihagain2 _ h1))) (fun _ => pj_a (fun _ => pt_if (fun _ => pj_s (j_sI hj) (fun _ h2 => (ihagain2 _ h2))) (fun _ => pj_a (fun _ => pt_zb (jf_X12_isNested hj) (fun _ _ h3 => pt_if (fun _ => pj_s (j_sI h3) (fun _ h4 => (ihagain2 _ h4))) (fun _ => pj_s (j_sI h3) (fun _ h5 => (ihagain2 _ h5)))))))))))
theorem jf_X12_turns_ {x0 : Nat} {x1 : Nat} {σ : zS}  (hj : σ.2.1 = L) : Pt (f_X12_turns_ N x0 x1 σ) (fun r => r.2.2.1 = L) := by
  rw [f_X12_turns_.eq_1]
  exact pt_lp (fun s => s.2.2.1 = L) (fun again s hI ih => jF_X12_turns__2 ih hI) N _ hj
theorem jF_X12_turns_8 {x0 : Nat} {x2 : Nat} {x3 : Int32} {again8 : (Int32 × zS) → Option (Unit × zS)} (ihagain8 : ∀ s : Int32 × zS, s.2.2.1 = L → Pt (again8 s) (fun r => r.2.2.1 = L)) {s : Int32 × zS} (hj : s.2.2.1 = L) : Pt (F_X12_turns_8 N x0 x2 x3 again8 s) (fun r => r.2.2.1 = L) := by
  obtain ⟨x4, σ⟩ := s
  rw [F_X12_turns_8.eq_1]
  exact pt_if (fun _ => pj_a (fun _ => pj_a (fun _ => pt_zb (jf_X12_turns_ hj) (fun _ _ h1 => pt_some h1)))) (fun _ => pj_a (fun _ => pj_a (fun _ => pt_if (fun _ => pj_s (j_sI hj) (fun _ h2 => (ihagain8 _ h2))) (fun _ => pj_a (fun _ => pt_zb (jf_X12_isTouching hj) (fun _ _ h3 => pt_if (fun _ => pj_s (j_sI h3) (fun _ h4 => (ihagain8 _ h4))) (fun _ => pj_s (j_sI h3) (fun _ h5 => (ihagain8 _ h5)))))))))
theorem jJ_X12_turns_127 {again66 : (Int32 × zS) → Option (Unit × zS)} {x0 : Nat} {x1 : Int32} {x2 : Nat} {x3 : Int32} {x4 : Int32} {y0 : Int32} {y1 : Int32} {y2 : Int32} {y3 : Nat} {y4 : Nat} {σ : zS} (ihagain66 : ∀ s : Int32 × zS, s.2.2.1 = L → Pt (again66 s) (fun r => r.2.2.1 = L)) (hj : σ.2.1 = L) : Pt (J_X12_turns_127 N again66 x0 x1 x2 x3 x4 y0 y1 y2 y3 y4 σ) (fun r => r.2.2.1 = L) := by
  rw [J_X12_turns_127.eq_1]
  exact pj_a (fun _ => pt_zb (jf_X12_isNested hj) (fun _ _ h1 => pt_if (fun _ => pj_a (fun _ => pj_s (j_sI h1) (fun _ h2 => (ihagain66 _ h2)))) (fun _ => pj_a (fun _ => pj_s (j_sI h1) (fun _ h3 => (ihagain66 _ h3))))))
theorem jJ_X12_turns_99 {again66 : (Int32 × zS) → Option (Unit × zS)} {x0 : Nat} {x1 : Int32} {x2 : Nat} {x3 : Int32} {x4 : Int32} {x5 : Int32} {σ : zS} (ihagain66 : ∀ s : Int32 × zS, s.2.2.1 = L → Pt (again66 s) (fun r => r.2.2.1 = L)) (hj : σ.2.1 = L) : Pt (J_X12_turns_99 N again66 x0 x1 x2 x3 x4 x5 σ) (fun r => r.2.2.1 = L) := by
  rw [J_X12_turns_99.eq_1]
  exact pt_if (fun _ => pj_a (fun _ => pj_s (j_sI hj) (fun _ h1 => (ihagain66 _ h1)))) (fun _ => pj_a (fun _ => pt_if (fun _ => pj_a (fun _ => pj_s (j_sI hj) (fun _ h2 => (ihagain66 _ h2)))) (fun _ => pt_if (fun _ => (jJ_X12_turns_127 ihagain66 hj)) (fun _ => (jJ_X12_turns_127 ihagain66 hj)))))
theorem jJ_X12_turns_211 {again66 : (Int32 × zS) → Option (Unit × zS)} {x0 : Nat} {x1 : Int32} {x2 : Nat} {x3 : Int32} {x4 : Int32} {y0 : Int32} {y1 : Int32} {y2 : Int32} {y3 : Nat} {y4 : Nat} {σ : zS} (ihagain66 : ∀ s : Int32 × zS, s.2.2.1 = L → Pt (again66 s) (fun r => r.2.2.1 = L)) (hj : σ.2.1 = L) : Pt (J_X12_turns_211 N again66 x0 x1 x2 x3 x4 y0 y1 y2 y3 y4 σ) (fun r => r.2.2.1 = L) := by
  rw [J_X12_turns_211.eq_1]
  exact pj_a (fun _ => pt_zb (jf_X12_isNested hj) (fun _ _ h1 => pt_if (fun _ => pj_a (fun _ => pj_s (j_sI h1) (fun _ h2 => (ihagain66 _ h2)))) (fun _ => pj_a (fun _ => pj_s (j_sI h1) (fun _ h3 => (ihagain66 _ h3))))))
theorem jJ_X12_turns_182 {again66 : (Int32 × zS) → Option (Unit × zS)} {x0 : Nat} {x1 : Int32} {x2 : Nat} {x3 : Int32} {x4 : Int32} {x5 : Int32} {σ : zS} (ihagain66 : ∀ s : Int32 × zS, s.2.2.1 = L → Pt (again66 s) (fun r => r.2.2.1 = L)) (hj : σ.2.1 = L) : Pt (J_X12_turns_182 N again66 x0 x1 x2 x3 x4 x5 σ) (fun r => r.2.2.1 = L) := by
  rw [J_X12_turns_182.eq_1]
  exact pt_if (fun _ => pj_a (fun _ => pj_s (j_sI hj) (fun _ h1 => (ihagain66 _ h1)))) (fun _ => pj_a (fun _ => pt_if (fun _ => pt_if (fun _ => (jJ_X12_turns_211 ihagain66 hj)) (fun _ => (jJ_X12_turns_211 ihagain66 hj))) (fun _ => pj_a (fun _ => pj_s (j_sI hj) (fun _ h2 => (ihagain66 _ h2))))))
theorem jJ_X12_turns_88 {again66 : (Int32 × zS) → Option (Unit × zS)} {x0 : Nat} {x1 : Int32} {x2 : Nat} {x3 : Int32} {x4 : Int32} {y0 : Int32} {σ : zS} (ihagain66 : ∀ s : Int32 × zS, s.2.2.1 = L → Pt (again66 s) (fun r => r.2.2.1 = L)) (hj : σ.2.1 = L) : Pt (J_X12_turns_88 N again66 x0 x1 x2 x3 x4 y0 σ) (fun r => r.2.2.1 = L) := by
  rw [J_X12_turns_88.eq_1]
  exact pt_if (fun _ => (jJ_X12_turns_99 ihagain66 hj)) (fun _ => pt_if (fun _ => (jJ_X12_turns_99 ihagain66 hj)) (fun _ => pt_if (fun _ => pt_if (fun _ => pj_a (fun _ => pj_s (j_sI hj) (fun _ h1 => (ihagain66 _ h1)))) (fun _ => pj_a (fun _ => pt_if (fun _ => pj_a (fun _ => pj_s (j_sI hj) (fun _ h2 => (ihagain66 _ h2)))) (fun _ => pj_a (fun _ => pj_s (j_sI hj) (fun _ h3 => (ihagain66 _ h3))))))) (fun _ => pt_if (fun _ => (jJ_X12_turns_182 ihagain66 hj)) (fun _ => pt_if (fun _ => (jJ_X12_turns_182 ihagain66 hj)) (fun _ => pt_if (fun _ => pj_a (fun _ => pj_s (j_sI hj) (fun _ h4 => (ihagain66 _ h4)))) (fun _ => pj_a (fun _ => pt_if (fun _ => pj_a (fun _ => pj_s (j_sI hj) (fun _ h5 => (ihagain66 _ h5)))) (fun _ => pj_a (fun _ => pj_s (j_sI hj) (fun _ h6 => (ihagain66 _ h6)))))))))))
theorem jF_X12_turns_66 {x0 : Nat} {x1 : Int32} {x2 : Nat} {x3 : Int32} {again66 : (Int32 × zS) → Option (Unit × zS)} (ihagain66 : ∀ s : Int32 × zS, s.2.2.1 = L → Pt (again66 s) (fun r => r.2.2.1 = L)) {s : Int32 × zS} (hj : s.2.2.1 = L) : Pt (F_X12_turns_66 N x0 x1 x2 x3 again66 s) (fun r => r.2.2.1 = L) := by
  obtain ⟨x4, σ⟩ := s
  rw [F_X12_turns_66.eq_1]
  exact pt_if (fun _ => pt_some hj) (fun _ => pj_a (fun _ => pt_if (fun _ => (jJ_X12_turns_88 ihagain66 hj)) (fun _ => (jJ_X12_turns_88 ihagain66 hj))))
theorem jf_X12_turns {x0 : Nat} {x1 : Int32} {x2 : Nat} {x3 : Int32} {σ : zS}  (hj : σ.2.1 = L) : Pt (f_X12_turns N x0 x1 x2 x3 σ) (fun r => r.2.2.1 = L) := by
  rw [f_X12_turns.eq_1]
  exact pt_if (fun _ => pt_lp (fun s => s.2.2.1 = L) (fun again s hI ih => jF_X12_turns_8 ih hI) N _ hj) (fun _ => pt_lp (fun s => s.2.2.1 = L) (fun again s hI ih => jF_X12_turns_66 ih hI) N _ hj)
theorem jf_X12_rank {x0 : Int32} {σ : zS}  (hj : σ.2.1 = L) : Pt (f_X12_rank N x0 σ) (fun r => r.2.2.1 = L) := by
  rw [f_X12_rank.eq_1]
  exact pt_if (fun _ => pt_some hj) (fun _ => pt_if (fun _ => pt_if (fun _ => pt_some hj) (fun _ => pt_if (fun _ => pt_some hj) (fun _ => pt_some hj))) (fun _ => pt_some hj))
theorem jF_X12_copiesMade_2 {x0 : Nat} {x1 : Int32} {again2 : (Int32 × zS) → Option (Unit × zS)} (ihagain2 : ∀ s : Int32 × zS, s.2.2.1 = L → Pt (again2 s) (fun r => r.2.2.1 = L)) {s : Int32 × zS} (hj : s.2.2.1 = L) : Pt (F_X12_copiesMade_2 N x0 x1 again2 s) (fun r => r.2.2.1 = L) := by
  obtain ⟨x2, σ⟩ := s
  rw [F_X12_copiesMade_2.eq_1]
  exact pt_if (fun _ => pt_some hj) (fun _ => pj_a (fun _ => pj_a (fun _ => pj_a (fun _ => pj_s (j_sI hj) (fun _ h1 => (ihagain2 _ h1))))))
theorem jf_X12_copiesMade {x0 : Nat} {x1 : Int32} {σ : zS}  (hj : σ.2.1 = L) : Pt (f_X12_copiesMade N x0 x1 σ) (fun r => r.2.2.1 = L) := by
  rw [f_X12_copiesMade.eq_1]
  exact pt_lp (fun s => s.2.2.1 = L) (fun again s hI ih => jF_X12_copiesMade_2 ih hI) N _ hj
theorem jf_X12_settles {x0 : Nat} {σ : zS}  (hj : σ.2.1 = L) : Pt (f_X12_settles N x0 σ) (fun r => r.2.2.1 = L) := by
  rw [f_X12_settles.eq_1]
  exact pj_a (fun _ => pj_s (j_pI hj) (fun _ h1 => pj_a (fun _ => pj_a (fun _ => pj_a (fun _ => pt_if (fun _ => pj_a (fun _ => pj_a (fun _ => pj_a (fun _ => pj_a (fun _ => pj_a (fun _ => pt_zb (jf_X12_gives h1) (fun _ _ h2 => pj_a (fun _ => pj_s (j_pI h2) (fun _ h3 => pj_a (fun _ => pj_a (fun _ => pt_zb (jf_X12_copiesMade h3) (fun _ _ h4 => pt_some h4)))))))))))) (fun _ => pj_a (fun _ => pj_a (fun _ => pj_a (fun _ => pt_zb (jf_X12_turns h1) (fun _ _ h5 => pj_a (fun _ => pj_a (fun _ => pt_zb (jf_X12_copiesMade h5) (fun _ _ h6 => pj_a (fun _ => pj_s (j_pI h6) (fun _ h7 => pt_some h7)))))))))))))))
theorem jF_X12_settlesTo_0 {x0 : Nat} {x1 : Int32} {again0 : zS → Option (Unit × zS)} (ihagain0 : ∀ s : zS, s.2.1 = L → Pt (again0 s) (fun r => r.2.2.1 = L)) {s : zS} (hj : s.2.1 = L) : Pt (F_X12_settlesTo_0 N x0 x1 again0 s) (fun r => r.2.2.1 = L) := by
  rw [F_X12_settlesTo_0.eq_1]
  exact pj_a (fun _ => pt_if (fun _ => pt_some hj) (fun _ => pj_a (fun _ => pj_a (fun _ => pj_a (fun _ => pt_zb (jf_X12_rank hj) (fun _ _ h1 => pt_if (fun _ => pt_some h1) (fun _ => pj_a (fun _ => pt_zb (jf_X12_settles h1) (fun _ _ h2 => (ihagain0 _ h2))))))))))
theorem jf_X12_settlesTo {x0 : Nat} {x1 : Int32} {σ : zS}  (hj : σ.2.1 = L) : Pt (f_X12_settlesTo N x0 x1 σ) (fun r => r.2.2.1 = L) := by
  rw [f_X12_settlesTo.eq_1]
  exact pt_lp (fun s => s.2.1 = L) (fun again s hI ih => jF_X12_settlesTo_0 ih hI) N _ hj
theorem jJ_X12_opens_14 {x0 : Nat} {x1 : Int32} {σ : zS}  (hj : σ.2.1 = L) : Pt (J_X12_opens_14 N x0 x1 σ) (fun r => r.2.2.1 = L) := by
  rw [J_X12_opens_14.eq_1]
  exact pj_a (fun _ => pt_zb (jf_X12_good hj) (fun _ _ h1 => pt_if (fun _ => pt_some h1) (fun _ => pj_a (fun _ => pt_zb (jf_X12_advance h1) (fun _ _ h2 => pj_a (fun _ => pj_s (j_pI h2) (fun _ h3 => pj_a (fun _ => pj_a (fun _ => pj_s (j_sI h3) (fun _ h4 => pj_a (fun _ => pj_s (j_pI h4) (fun _ h5 => pt_some h5))))))))))))
theorem jf_X12_opens {x0 : Nat} {x1 : Int32} {σ : zS}  (hj : σ.2.1 = L) : Pt (f_X12_opens N x0 x1 σ) (fun r => r.2.2.1 = L) := by
  rw [f_X12_opens.eq_1]
  exact pj_a (fun _ => pt_if (fun _ => pj_a (fun _ => pt_zb (jf_X12_errs hj) (fun _ _ h1 => (jJ_X12_opens_14 h1)))) (fun _ => (jJ_X12_opens_14 hj)))
theorem jf_X12_prefixOf {x0 : Nat} {σ : zS}  (hj : σ.2.1 = L) : Pt (f_X12_prefixOf N x0 σ) (fun r => r.2.2.1 = L) := by
  rw [f_X12_prefixOf.eq_1]
  exact pj_a (fun _ => pt_zb (jf_X12_is hj) (fun _ _ h1 => pt_if (fun _ => pj_a (fun _ => pt_zb (jf_X12_is h1) (fun _ _ h2 => pt_if (fun _ => pj_a (fun _ => pt_zb (jf_X12_is h2) (fun _ _ h3 => pt_if (fun _ => pj_a (fun _ => pt_zb (jf_X12_is h3) (fun _ _ h4 => pt_if (fun _ => pj_a (fun _ => pt_zb (jf_X12_is h4) (fun _ _ h5 => pt_if (fun _ => pj_a (fun _ => pt_zb (jf_X12_is h5) (fun _ _ h6 => pt_if (fun _ => pt_some h6) (fun _ => pt_some h6)))) (fun _ => pt_some h5)))) (fun _ => pt_some h4)))) (fun _ => pt_some h3)))) (fun _ => pt_some h2)))) (fun _ => pt_some h1)))
theorem jf_X12_signOf {x0 : Int32} {σ : zS}  (hj : σ.2.1 = L) : Pt (f_X12_signOf N x0 σ) (fun r => r.2.2.1 = L) := by
  rw [f_X12_signOf.eq_1]
  exact pt_if (fun _ => pt_some hj) (fun _ => pt_if (fun _ => pt_some hj) (fun _ => pt_if (fun _ => pt_some hj) (fun _ => pt_if (fun _ => pt_some hj) (fun _ => pt_if (fun _ => pt_some hj) (fun _ => pt_if (fun _ => pt_some hj) (fun _ => pt_if (fun _ => pt_some hj) (fun _ => pt_some hj)))))))
theorem jF_X12_wordSet_7 {x0 : Nat} {x1 : Int32} {again7 : (Int32 × Int32 × zS) → Option (Int32 × zS)} (ihagain7 : ∀ s : Int32 × Int32 × zS, s.2.2.2.1 = L → Pt (again7 s) (fun r => r.2.2.1 = L)) {s : Int32 × Int32 × zS} (hj : s.2.2.2.1 = L) : Pt (F_X12_wordSet_7 N x0 x1 again7 s) (fun r => r.2.2.1 = L) := by
  obtain ⟨x2, x3, σ⟩ := s
  rw [F_X12_wordSet_7.eq_1]
  exact pj_a (fun _ => pt_if (fun _ => pt_some hj) (fun _ => pj_a (fun _ => pj_a (fun _ => pt_if (fun _ => pj_a (fun _ => pt_zb (jf_X12_errs hj) (fun _ _ h1 => pt_some h1))) (fun _ => pt_if (fun _ => pj_a (fun _ => pt_zb (jf_X12_errs hj) (fun _ _ h2 => pt_some h2))) (fun _ => (ihagain7 _ hj)))))))
theorem jf_X12_wordSet {x0 : Nat} {x1 : Int32} {σ : zS}  (hj : σ.2.1 = L) : Pt (f_X12_wordSet N x0 x1 σ) (fun r => r.2.2.1 = L) := by
  rw [f_X12_wordSet.eq_1]
  exact pj_a (fun _ => pt_lp (fun s => s.2.2.2.1 = L) (fun again s hI ih => jF_X12_wordSet_7 ih hI) N _ hj)
theorem jJ_X12_readsSet_53 {x0 : Nat} {x2 : Int32} {σ : zS}  (hj : σ.2.1 = L) : Pt (J_X12_readsSet_53 N x0 x2 σ) (fun r => r.2.2.1 = L) := by
  rw [J_X12_readsSet_53.eq_1]
  exact pj_a (fun _ => pt_zb (jf_X12_good hj) (fun _ _ h1 => pt_if (fun _ => pt_some h1) (fun _ => pj_a (fun _ => pj_a (fun _ => pj_s (j_sI h1) (fun _ h2 => pt_some h2))))))
theorem jf_X12_readsSet {x0 : Nat} {x1 : Int32} {σ : zS}  (hj : σ.2.1 = L) : Pt (f_X12_readsSet N x0 x1 σ) (fun r => r.2.2.1 = L) := by
  rw [f_X12_readsSet.eq_1]
  exact pj_a (fun _ => pt_if (fun _ => pj_a (fun _ => pt_zb (jf_X12_number hj) (fun _ _ h1 => (jJ_X12_readsSet_53 h1)))) (fun _ => pj_a (fun _ => pt_if (fun _ => pj_a (fun _ => pt_zb (jf_X12_wordSet hj) (fun _ _ h2 => pj_a (fun _ => pt_zb (jf_X12_good h2) (fun _ _ h3 => pt_if (fun _ => (jJ_X12_readsSet_53 h3)) (fun _ => pj_a (fun _ => pt_zb (jf_X12_advance h3) (fun _ _ h4 => (jJ_X12_readsSet_53 h4))))))))) (fun _ => pj_a (fun _ => pt_zb (jf_X12_errs hj) (fun _ _ h5 => (jJ_X12_readsSet_53 h5)))))))
theorem jF_X12_pushesEmpty_2 {x0 : Nat} {again2 : (Int32 × zS) → Option (Unit × zS)} (ihagain2 : ∀ s : Int32 × zS, s.2.2.1 = L → Pt (again2 s) (fun r => r.2.2.1 = L)) {s : Int32 × zS} (hj : s.2.2.1 = L) : Pt (F_X12_pushesEmpty_2 N x0 again2 s) (fun r => r.2.2.1 = L) := by
  obtain ⟨x1, σ⟩ := s
  rw [F_X12_pushesEmpty_2.eq_1]
  exact pt_if (fun _ => pj_a (fun _ => pj_s (j_pI hj) (fun _ h1 => pt_some h1))) (fun _ => pj_a (fun _ => pj_a (fun _ => pj_s (j_sI hj) (fun _ h2 => (ihagain2 _ h2)))))
theorem jf_X12_pushesEmpty {x0 : Nat} {σ : zS}  (hj : σ.2.1 = L) : Pt (f_X12_pushesEmpty N x0 σ) (fun r => r.2.2.1 = L) := by
  rw [f_X12_pushesEmpty.eq_1]
  exact pt_lp (fun s => s.2.2.1 = L) (fun again s hI ih => jF_X12_pushesEmpty_2 ih hI) N _ hj
theorem jF_X12_readsSets_22 {x0 : Nat} {x1 : Int32} {again22 : zS → Option (Unit × zS)} (ihagain22 : ∀ s : zS, s.2.1 = L → Pt (again22 s) (fun r => r.2.2.1 = L)) {s : zS} (hj : s.2.1 = L) : Pt (F_X12_readsSets_22 N x0 x1 again22 s) (fun r => r.2.2.1 = L) := by
  rw [F_X12_readsSets_22.eq_1]
  exact pj_a (fun _ => pt_zb (jf_X12_good hj) (fun _ _ h1 => pt_if (fun _ => pj_a (fun _ => pt_zb (jf_X12_needsSign h1) (fun _ _ h2 => pt_some h2))) (fun _ => pj_a (fun _ => pt_if (fun _ => pj_a (fun _ => pt_zb (jf_X12_advance h1) (fun _ _ h3 => pj_a (fun _ => pt_zb (jf_X12_readsSet h3) (fun _ _ h4 => (ihagain22 _ h4)))))) (fun _ => pj_a (fun _ => pt_zb (jf_X12_needsSign h1) (fun _ _ h5 => pt_some h5)))))))
theorem jf_X12_readsSets {x0 : Nat} {x1 : Int32} {σ : zS}  (hj : σ.2.1 = L) : Pt (f_X12_readsSets N x0 x1 σ) (fun r => r.2.2.1 = L) := by
  rw [f_X12_readsSets.eq_1]
  exact pj_a (fun _ => pt_zb (jf_X12_advance hj) (fun _ _ h1 => pj_a (fun _ => pt_zb (jf_X12_pushesEmpty h1) (fun _ _ h2 => pj_a (fun _ => pt_if (fun _ => pj_a (fun _ => pt_zb (jf_X12_needsSign h2) (fun _ _ h3 => pt_some h3))) (fun _ => pj_a (fun _ => pt_zb (jf_X12_readsSet h2) (fun _ _ h4 => pt_lp (fun s => s.2.1 = L) (fun again s hI ih => jF_X12_readsSets_22 ih hI) N _ h4))))))))
theorem jJ_X12_readsPart_19 {x0 : Nat} {x3 : Int32} {σ : zS}  (hj : σ.2.1 = L) : Pt (J_X12_readsPart_19 N x0 x3 σ) (fun r => r.2.2.1 = L) := by
  rw [J_X12_readsPart_19.eq_1]
  exact pt_if (fun _ => pj_a (fun _ => pt_zb (jf_X12_opens hj) (fun _ _ h1 => pt_rZ h1))) (fun _ => pj_a (fun _ => pt_zb (jf_X12_opens hj) (fun _ _ h2 => pt_rZ h2)))
theorem jJ_X12_readsPart_192 {x0 : Nat} {σ : zS}  (hj : σ.2.1 = L) : Pt (J_X12_readsPart_192 N x0 σ) (fun r => r.2.2.1 = L) := by
  rw [J_X12_readsPart_192.eq_1]
  exact pj_a (fun _ => pt_zb (jf_X12_good hj) (fun _ _ h1 => pt_if (fun _ => pt_rZ h1) (fun _ => pj_a (fun _ => pt_zb (jf_X12_settlesTo h1) (fun _ _ h2 => pt_rZ h2)))))
theorem jF_X12_readsPart_63 {x0 : Nat} {x2 : Nat} {x4 : Int32} {again63 : (Int32 × zS) → Option (Int32 × zS)} (ihagain63 : ∀ s : Int32 × zS, s.2.2.1 = L → Pt (again63 s) (fun r => r.2.2.1 = L)) {s : Int32 × zS} (hj : s.2.2.1 = L) : Pt (F_X12_readsPart_63 N x0 x2 x4 again63 s) (fun r => r.2.2.1 = L) := by
  obtain ⟨x5, σ⟩ := s
  rw [F_X12_readsPart_63.eq_1]
  exact pt_if (fun _ => (jJ_X12_readsPart_192 hj)) (fun _ => pj_a (fun _ => pt_zb (jf_X12_good hj) (fun _ _ h1 => pt_if (fun _ => (jJ_X12_readsPart_192 h1)) (fun _ => pj_a (fun _ => pj_a (fun _ => pj_a (fun _ => pj_s (j_sI h1) (fun _ h2 => (ihagain63 _ h2)))))))))
theorem jF_X12_readsPart_150 {x0 : Nat} {again150 : (Int32 × zS) → Option (Int32 × zS)} (ihagain150 : ∀ s : Int32 × zS, s.2.2.1 = L → Pt (again150 s) (fun r => r.2.2.1 = L)) {s : Int32 × zS} (hj : s.2.2.1 = L) : Pt (F_X12_readsPart_150 N x0 again150 s) (fun r => r.2.2.1 = L) := by
  obtain ⟨x4, σ⟩ := s
  rw [F_X12_readsPart_150.eq_1]
  exact pj_a (fun _ => pt_if (fun _ => (jJ_X12_readsPart_192 hj)) (fun _ => pj_a (fun _ => pj_a (fun _ => pj_s (j_sI hj) (fun _ h1 => (ihagain150 _ h1))))))
theorem jf_X12_readsPart {x0 : Nat} {x1 : Int32} {x2 : Nat} {σ : zS}  (hj : σ.2.1 = L) : Pt (f_X12_readsPart N x0 x1 x2 σ) (fun r => r.2.2.1 = L) := by
  rw [f_X12_readsPart.eq_1]
  exact pj_a (fun _ => pt_zb (jf_X12_prefixOf hj) (fun _ _ h1 => pt_if (fun _ => pj_a (fun _ => pt_if (fun _ => (jJ_X12_readsPart_19 h1)) (fun _ => pj_a (fun _ => pt_if (fun _ => pj_a (fun _ => pt_zb (jf_X12_number h1) (fun _ _ h2 => pj_a (fun _ => pt_zb (jf_X12_pushesEmpty h2) (fun _ _ h3 => pt_lp (fun s => s.2.2.1 = L) (fun again s hI ih => jF_X12_readsPart_63 ih hI) N _ h3))))) (fun _ => pj_a (fun _ => pt_if (fun _ => pj_a (fun _ => pt_zb (jf_X12_readsSets h1) (fun _ _ h4 => (jJ_X12_readsPart_192 h4)))) (fun _ => pj_a (fun _ => pt_zb (jf_X12_takes h1) (fun _ _ h5 => pt_if (fun _ => pj_a (fun _ => pt_zb (jf_X12_errs h5) (fun _ _ h6 => (jJ_X12_readsPart_192 h6)))) (fun _ => pj_a (fun _ => pt_zb (jf_X12_pushesEmpty h5) (fun _ _ h7 => pt_lp (fun s => s.2.2.1 = L) (fun again s hI ih => jF_X12_readsPart_150 ih hI) N _ h7)))))))))))) (fun _ => (jJ_X12_readsPart_19 h1))))
theorem jF_X12_isOpen_2 {x0 : Nat} {again2 : (Int32 × zS) → Option (Int32 × zS)} (ihagain2 : ∀ s : Int32 × zS, s.2.2.1 = L → Pt (again2 s) (fun r => r.2.2.1 = L)) {s : Int32 × zS} (hj : s.2.2.1 = L) : Pt (F_X12_isOpen_2 N x0 again2 s) (fun r => r.2.2.1 = L) := by
  obtain ⟨x1, σ⟩ := s
  rw [F_X12_isOpen_2.eq_1]
  exact pj_a (fun _ => pt_if (fun _ => pt_rZ hj) (fun _ => pj_a (fun _ => pj_a (fun _ => pt_if (fun _ => pt_rZ hj) (fun _ => (ihagain2 _ hj))))))
theorem jf_X12_isOpen {x0 : Nat} {σ : zS}  (hj : σ.2.1 = L) : Pt (f_X12_isOpen N x0 σ) (fun r => r.2.2.1 = L) := by
  rw [f_X12_isOpen.eq_1]
  exact pt_lp (fun s => s.2.2.1 = L) (fun again s hI ih => jF_X12_isOpen_2 ih hI) N _ hj
theorem jJ_X12_goesBehind_27 {x0 : Nat} {x1 : Int32} {σ : zS}  (hj : σ.2.1 = L) : Pt (J_X12_goesBehind_27 N x0 x1 σ) (fun r => r.2.2.1 = L) := by
  rw [J_X12_goesBehind_27.eq_1]
  exact pj_a (fun _ => pt_zb (jf_X12_good hj) (fun _ _ h1 => pt_if (fun _ => pt_some h1) (fun _ => pj_a (fun _ => pj_s (j_pI h1) (fun _ h2 => pt_zb (jf_X12_rank h2) (fun _ _ h3 => pj_a (fun _ => pt_zb (jf_X12_settlesTo h3) (fun _ _ h4 => pj_a (fun _ => pj_a (fun _ => pj_s (j_sI h4) (fun _ h5 => pj_a (fun _ => pj_s (j_pI h5) (fun _ h6 => pj_a (fun _ => pt_zb (jf_X12_advance h6) (fun _ _ h7 => pt_some h7)))))))))))))))
theorem jf_X12_goesBehind {x0 : Nat} {σ : zS}  (hj : σ.2.1 = L) : Pt (f_X12_goesBehind N x0 σ) (fun r => r.2.2.1 = L) := by
  rw [f_X12_goesBehind.eq_1]
  exact pj_a (fun _ => pt_zb (jf_X12_signOf hj) (fun _ _ h1 => pt_if (fun _ => pj_a (fun _ => pt_if (fun _ => pj_a (fun _ => pt_zb (jf_X12_isOpen h1) (fun _ _ h2 => pt_if (fun _ => pt_some h2) (fun _ => pj_a (fun _ => pt_zb (jf_X12_settlesTo h2) (fun _ _ h3 => pj_a (fun _ => pj_s (j_pI h3) (fun _ h4 => pj_a (fun _ => pj_s (j_pI h4) (fun _ h5 => pj_a (fun _ => pt_zb (jf_X12_advance h5) (fun _ _ h6 => pj_a (fun _ => pt_zb (jf_X12_settlesTo h6) (fun _ _ h7 => pt_some h7)))))))))))))) (fun _ => pt_some h1))) (fun _ => pj_a (fun _ => pt_if (fun _ => pj_a (fun _ => pt_zb (jf_X12_errs h1) (fun _ _ h8 => (jJ_X12_goesBehind_27 h8)))) (fun _ => (jJ_X12_goesBehind_27 h1))))))
theorem jJ_X12_readsSum_98 {x0 : Nat} {σ : zS}  (hj : σ.2.1 = L) : Pt (J_X12_readsSum_98 N x0 σ) (fun r => r.2.2.1 = L) := by
  rw [J_X12_readsSum_98.eq_1]
  exact pj_a (fun _ => pt_zb (jf_X12_good hj) (fun _ _ h1 => pt_if (fun _ => pt_some h1) (fun _ => pj_a (fun _ => pt_zb (jf_X12_settlesTo h1) (fun _ _ h2 => pt_some h2)))))
theorem jJ_X12_readsSum_86 {x0 : Nat} {σ : zS}  (hj : σ.2.1 = L) : Pt (J_X12_readsSum_86 N x0 σ) (fun r => r.2.2.1 = L) := by
  rw [J_X12_readsSum_86.eq_1]
  exact pj_a (fun _ => pt_zb (jf_X12_isOpen hj) (fun _ _ h1 => pt_if (fun _ => (jJ_X12_readsSum_98 h1)) (fun _ => pj_a (fun _ => pt_zb (jf_X12_errs h1) (fun _ _ h2 => (jJ_X12_readsSum_98 h2))))))
theorem jJ_X12_readsSum_69 {again27 : (Int32 × Int32 × zS) → Option (Unit × zS)} {x0 : Nat} {x1 : Int32} {x2 : Nat} {x5 : Int32} {y0 : Int32} {σ : zS} (ihagain27 : ∀ s : Int32 × Int32 × zS, s.2.2.2.1 = L → Pt (again27 s) (fun r => r.2.2.1 = L)) (hj : σ.2.1 = L) : Pt (J_X12_readsSum_69 N again27 x0 x1 x2 x5 y0 σ) (fun r => r.2.2.1 = L) := by
  rw [J_X12_readsSum_69.eq_1]
  exact pt_if (fun _ => (ihagain27 _ hj)) (fun _ => (ihagain27 _ hj))
theorem jF_X12_readsSum_27 {x0 : Nat} {x1 : Int32} {x2 : Nat} {again27 : (Int32 × Int32 × zS) → Option (Unit × zS)} (ihagain27 : ∀ s : Int32 × Int32 × zS, s.2.2.2.1 = L → Pt (again27 s) (fun r => r.2.2.1 = L)) {s : Int32 × Int32 × zS} (hj : s.2.2.2.1 = L) : Pt (F_X12_readsSum_27 N x0 x1 x2 again27 s) (fun r => r.2.2.1 = L) := by
  obtain ⟨x3, x4, σ⟩ := s
  rw [F_X12_readsSum_27.eq_1]
  exact pj_a (fun _ => pt_zb (jf_X12_good hj) (fun _ _ h1 => pt_if (fun _ => (jJ_X12_readsSum_86 h1)) (fun _ => pt_if (fun _ => (jJ_X12_readsSum_86 h1)) (fun _ => pt_if (fun _ => pj_a (fun _ => pt_zb (jf_X12_readsPart h1) (fun _ _ h2 => (ihagain27 _ h2)))) (fun _ => pj_a (fun _ => pt_zb (jf_X12_goesBehind h1) (fun _ _ h3 => pt_if (fun _ => (jJ_X12_readsSum_69 ihagain27 h3)) (fun _ => (jJ_X12_readsSum_69 ihagain27 h3)))))))))
theorem jf_X12_readsSum {x0 : Nat} {x1 : Int32} {x2 : Nat} {σ : zS}  (hj : σ.2.1 = L) : Pt (f_X12_readsSum N x0 x1 x2 σ) (fun r => r.2.2.1 = L) := by
  rw [f_X12_readsSum.eq_1]
  exact pj_s (j_pI hj) (fun _ h1 => pj_s (j_pI h1) (fun _ h2 => pj_s (j_pI h2) (fun _ h3 => pj_s (j_pI h3) (fun _ h4 => pt_lp (fun s => s.2.2.2.1 = L) (fun again s hI ih => jF_X12_readsSum_27 ih hI) N _ h4))))
theorem jF_X12_readsNames_22 {x0 : Nat} {again22 : (Int32 × zS) → Option (Unit × zS)} (ihagain22 : ∀ s : Int32 × zS, s.2.2.1 = L → Pt (again22 s) (fun r => r.2.2.1 = L)) {s : Int32 × zS} (hj : s.2.2.1 = L) : Pt (F_X12_readsNames_22 N x0 again22 s) (fun r => r.2.2.1 = L) := by
  obtain ⟨x1, σ⟩ := s
  rw [F_X12_readsNames_22.eq_1]
  exact pt_if (fun _ => pt_some hj) (fun _ => pj_a (fun _ => pj_s (j_sI hj) (fun _ h1 => pj_a (fun _ => pj_s (j_sI h1) (fun _ h2 => (ihagain22 _ h2))))))
theorem jf_X12_readsNames {x0 : Nat} {σ : zS}  (hj : σ.2.1 = L) : Pt (f_X12_readsNames N x0 σ) (fun r => r.2.2.1 = L) := by
  rw [f_X12_readsNames.eq_1]
  exact pj_a (fun _ => pt_zb (jf_X12_needs hj) (fun _ _ h1 => pj_a (fun _ => pj_a (fun _ => pt_zb (jf_X12_number h1) (fun _ _ h2 => pj_s (j_sI h2) (fun _ h3 => pt_lp (fun s => s.2.2.1 = L) (fun again s hI ih => jF_X12_readsNames_22 ih hI) N _ h3))))))
theorem jJ_X12_readsName_89 {x0 : Nat} {y0 : Int32} {σ : zS}  (hj : σ.2.1 = L) : Pt (J_X12_readsName_89 N x0 y0 σ) (fun r => r.2.2.1 = L) := by
  rw [J_X12_readsName_89.eq_1]
  exact pj_a (fun _ => pt_zb (jf_X12_good hj) (fun _ _ h1 => pt_if (fun _ => pt_some h1) (fun _ => pj_a (fun _ => pt_zb (jf_X12_advance h1) (fun _ _ h2 => pt_some h2)))))
theorem jJ_X12_readsName_66 {x0 : Nat} {σ : zS}  (hj : σ.2.1 = L) : Pt (J_X12_readsName_66 N x0 σ) (fun r => r.2.2.1 = L) := by
  rw [J_X12_readsName_66.eq_1]
  exact pj_a (fun _ => pt_zb (jf_X12_good hj) (fun _ _ h1 => pt_if (fun _ => (jJ_X12_readsName_89 h1)) (fun _ => pj_a (fun _ => pj_a (fun _ => pj_a (fun _ => (jJ_X12_readsName_89 h1)))))))
theorem jJ_X12_readsName_20 {x0 : Nat} {σ : zS}  (hj : σ.2.1 = L) : Pt (J_X12_readsName_20 N x0 σ) (fun r => r.2.2.1 = L) := by
  rw [J_X12_readsName_20.eq_1]
  exact pj_a (fun _ => pt_zb (jf_X12_good hj) (fun _ _ h1 => pt_if (fun _ => (jJ_X12_readsName_66 h1)) (fun _ => pj_a (fun _ => pj_a (fun _ => pt_if (fun _ => pj_a (fun _ => pt_zb (jf_X12_errs h1) (fun _ _ h2 => (jJ_X12_readsName_66 h2)))) (fun _ => pj_a (fun _ => pj_a (fun _ => pj_a (fun _ => pj_a (fun _ => pj_a (fun _ => pt_if (fun _ => (jJ_X12_readsName_66 h1)) (fun _ => pj_a (fun _ => pt_zb (jf_X12_errs h1) (fun _ _ h3 => (jJ_X12_readsName_66 h3)))))))))))))))
theorem jf_X12_readsName {x0 : Nat} {σ : zS}  (hj : σ.2.1 = L) : Pt (f_X12_readsName N x0 σ) (fun r => r.2.2.1 = L) := by
  rw [f_X12_readsName.eq_1]
  exact pj_a (fun _ => pt_zb (jf_X12_good hj) (fun _ _ h1 => pt_if (fun _ => (jJ_X12_readsName_20 h1)) (fun _ => pj_a (fun _ => pt_if (fun _ => (jJ_X12_readsName_20 h1)) (fun _ => pj_a (fun _ => pt_zb (jf_X12_errs h1) (fun _ _ h2 => (jJ_X12_readsName_20 h2))))))))
theorem jJ_X12_readsEdge_36 {x0 : Nat} {x1 : Int32} {σ : zS}  (hj : σ.2.1 = L) : Pt (J_X12_readsEdge_36 N x0 x1 σ) (fun r => r.2.2.1 = L) := by
  rw [J_X12_readsEdge_36.eq_1]
  exact pj_a (fun _ => pt_zb (jf_X12_number hj) (fun _ _ h1 => pj_a (fun _ => pt_zb (jf_X12_good h1) (fun _ _ h2 => pt_if (fun _ => pt_some h2) (fun _ => pj_a (fun _ => pj_a (fun _ => pj_a (fun _ => pj_s (j_sI h2) (fun _ h3 => pj_a (fun _ => pj_a (fun _ => pj_a (fun _ => pj_s (j_sI h3) (fun _ h4 => pj_a (fun _ => pj_a (fun _ => pj_s (j_sI h4) (fun _ h5 => pt_some h5))))))))))))))))
theorem jf_X12_readsEdge {x0 : Nat} {σ : zS}  (hj : σ.2.1 = L) : Pt (f_X12_readsEdge N x0 σ) (fun r => r.2.2.1 = L) := by
  rw [f_X12_readsEdge.eq_1]
  exact pj_a (fun _ => pt_zb (jf_X12_number hj) (fun _ _ h1 => pj_a (fun _ => pt_zb (jf_X12_good h1) (fun _ _ h2 => pt_if (fun _ => (jJ_X12_readsEdge_36 h2)) (fun _ => pj_a (fun _ => pt_if (fun _ => pj_a (fun _ => pt_if (fun _ => pj_a (fun _ => pt_zb (jf_X12_errs h2) (fun _ _ h3 => (jJ_X12_readsEdge_36 h3)))) (fun _ => (jJ_X12_readsEdge_36 h2)))) (fun _ => (jJ_X12_readsEdge_36 h2))))))))
theorem jF_X12_readsLet_37 {x0 : Nat} {x1 : Int32} {again37 : (Int32 × zS) → Option (Unit × zS)} (ihagain37 : ∀ s : Int32 × zS, s.2.2.1 = L → Pt (again37 s) (fun r => r.2.2.1 = L)) {s : Int32 × zS} (hj : s.2.2.1 = L) : Pt (F_X12_readsLet_37 N x0 x1 again37 s) (fun r => r.2.2.1 = L) := by
  obtain ⟨x2, σ⟩ := s
  rw [F_X12_readsLet_37.eq_1]
  exact pt_if (fun _ => pt_some hj) (fun _ => pj_a (fun _ => pt_zb (jf_X12_good hj) (fun _ _ h1 => pt_if (fun _ => pt_some h1) (fun _ => pj_a (fun _ => pj_a (fun _ => pj_a (fun _ => pj_s (j_sI h1) (fun _ h2 => (ihagain37 _ h2)))))))))
theorem jJ_X12_readsLet_35 {x0 : Nat} {x1 : Int32} {σ : zS}  (hj : σ.2.1 = L) : Pt (J_X12_readsLet_35 N x0 x1 σ) (fun r => r.2.2.1 = L) := by
  rw [J_X12_readsLet_35.eq_1]
  exact pt_lp (fun s => s.2.2.1 = L) (fun again s hI ih => jF_X12_readsLet_37 ih hI) N _ hj
theorem jf_X12_readsLet {x0 : Nat} {σ : zS}  (hj : σ.2.1 = L) : Pt (f_X12_readsLet N x0 σ) (fun r => r.2.2.1 = L) := by
  rw [f_X12_readsLet.eq_1]
  exact pj_a (fun _ => pt_zb (jf_X12_number hj) (fun _ _ h1 => pj_a (fun _ => pt_zb (jf_X12_needsSign h1) (fun _ _ h2 => pj_a (fun _ => pt_zb (jf_X12_good h2) (fun _ _ h3 => pt_if (fun _ => (jJ_X12_readsLet_35 h3)) (fun _ => pj_a (fun _ => pj_a (fun _ => pj_a (fun _ => pj_a (fun _ => pt_zb (jf_X12_readsSum h3) (fun _ _ h4 => (jJ_X12_readsLet_35 h4)))))))))))))
theorem jJ_X12_readsLine_65 {x0 : Nat} {σ : zS}  (hj : σ.2.1 = L) : Pt (J_X12_readsLine_65 N x0 σ) (fun r => r.2.2.1 = L) := by
  rw [J_X12_readsLine_65.eq_1]
  exact pj_a (fun _ => pt_zb (jf_X12_good hj) (fun _ _ h1 => pt_if (fun _ => pt_some h1) (fun _ => pj_a (fun _ => pt_zb (jf_X12_takes h1) (fun _ _ h2 => pt_if (fun _ => pj_a (fun _ => pt_zb (jf_X12_takes h2) (fun _ _ h3 => pt_if (fun _ => pj_a (fun _ => pt_zb (jf_X12_advance h3) (fun _ _ h4 => pj_a (fun _ => pt_zb (jf_X12_readsLet h4) (fun _ _ h5 => pt_some h5))))) (fun _ => pj_a (fun _ => pt_zb (jf_X12_readsEdge h3) (fun _ _ h6 => pt_some h6)))))) (fun _ => pj_a (fun _ => pt_zb (jf_X12_readsName h2) (fun _ _ h7 => pj_a (fun _ => pj_a (fun _ => pt_zb (jf_X12_number h7) (fun _ _ h8 => pj_s (j_sI h8) (fun _ h9 => pt_some h9))))))))))))
theorem jJ_X12_readsLine_35 {x0 : Nat} {σ : zS}  (hj : σ.2.1 = L) : Pt (J_X12_readsLine_35 N x0 σ) (fun r => r.2.2.1 = L) := by
  rw [J_X12_readsLine_35.eq_1]
  exact pj_a (fun _ => pt_zb (jf_X12_is hj) (fun _ _ h1 => pt_if (fun _ => (jJ_X12_readsLine_65 h1)) (fun _ => pj_a (fun _ => pj_a (fun _ => pj_a (fun _ => pj_a (fun _ => pt_if (fun _ => pj_a (fun _ => pt_zb (jf_X12_errs h1) (fun _ _ h2 => (jJ_X12_readsLine_65 h2)))) (fun _ => (jJ_X12_readsLine_65 h1)))))))))
theorem jf_X12_readsLine {x0 : Nat} {σ : zS}  (hj : σ.2.1 = L) : Pt (f_X12_readsLine N x0 σ) (fun r => r.2.2.1 = L) := by
  rw [f_X12_readsLine.eq_1]
  exact pj_a (fun _ => pt_zb (jf_X12_is hj) (fun _ _ h1 => pt_if (fun _ => pj_a (fun _ => pt_zb (jf_X12_is h1) (fun _ _ h2 => pt_if (fun _ => pj_a (fun _ => pt_zb (jf_X12_is h2) (fun _ _ h3 => pt_if (fun _ => pj_a (fun _ => pt_zb (jf_X12_errs h3) (fun _ _ h4 => (jJ_X12_readsLine_35 h4)))) (fun _ => (jJ_X12_readsLine_35 h3))))) (fun _ => (jJ_X12_readsLine_35 h2))))) (fun _ => (jJ_X12_readsLine_35 h1))))
theorem jF_X12_world_138 {x0 : Nat} {again138 : (Int32 × zS) → Option (Int32 × zS)} (ihagain138 : ∀ s : Int32 × zS, s.2.2.1 = L → Pt (again138 s) (fun r => r.2.2.1 = L)) {s : Int32 × zS} (hj : s.2.2.1 = L) : Pt (F_X12_world_138 N x0 again138 s) (fun r => r.2.2.1 = L) := by
  obtain ⟨x1, σ⟩ := s
  rw [F_X12_world_138.eq_1]
  exact pt_if (fun _ => pj_a (fun _ => pj_a (fun _ => pt_some hj))) (fun _ => pj_a (fun _ => pj_a (fun _ => pj_a (fun _ => pj_s (j_sI hj) (fun _ h1 => (ihagain138 _ h1))))))
theorem jF_X12_world_112 {x0 : Nat} {again112 : (Int32 × zS) → Option (Int32 × zS)} (ihagain112 : ∀ s : Int32 × zS, s.2.2.1 = L → Pt (again112 s) (fun r => r.2.2.1 = L)) {s : Int32 × zS} (hj : s.2.2.1 = L) : Pt (F_X12_world_112 N x0 again112 s) (fun r => r.2.2.1 = L) := by
  obtain ⟨x1, σ⟩ := s
  rw [F_X12_world_112.eq_1]
  exact pt_if (fun _ => pt_lp (fun s => s.2.2.1 = L) (fun again s hI ih => jF_X12_world_138 ih hI) N _ hj) (fun _ => pj_a (fun _ => pj_a (fun _ => pj_a (fun _ => pj_s (j_sI hj) (fun _ h1 => (ihagain112 _ h1))))))
theorem jJ_X12_world_100 {x0 : Nat} {σ : zS}  (hj : σ.2.1 = L) : Pt (J_X12_world_100 N x0 σ) (fun r => r.2.2.1 = L) := by
  rw [J_X12_world_100.eq_1]
  exact pj_a (fun _ => pt_zb (jf_X12_good hj) (fun _ _ h1 => pt_if (fun _ => pt_some h1) (fun _ => pt_lp (fun s => s.2.2.1 = L) (fun again s hI ih => jF_X12_world_112 ih hI) N _ h1)))
theorem jF_X12_world_47 {x0 : Nat} {again47 : zS → Option (Int32 × zS)} (ihagain47 : ∀ s : zS, s.2.1 = L → Pt (again47 s) (fun r => r.2.2.1 = L)) {s : zS} (hj : s.2.1 = L) : Pt (F_X12_world_47 N x0 again47 s) (fun r => r.2.2.1 = L) := by
  rw [F_X12_world_47.eq_1]
  exact pj_a (fun _ => pt_zb (jf_X12_good hj) (fun _ _ h1 => pt_if (fun _ => (jJ_X12_world_100 h1)) (fun _ => pj_a (fun _ => pt_if (fun _ => (jJ_X12_world_100 h1)) (fun _ => pj_a (fun _ => pj_a (fun _ => pt_if (fun _ => pj_a (fun _ => pt_zb (jf_X12_readsNames h1) (fun _ _ h2 => pj_a (fun _ => pt_zb (jf_X12_needsSign h2) (fun _ _ h3 => pj_a (fun _ => pj_a (fun _ => pj_s (j_sI h3) (fun _ h4 => (ihagain47 _ h4))))))))) (fun _ => pj_a (fun _ => pt_zb (jf_X12_readsLine h1) (fun _ _ h5 => pj_a (fun _ => pt_zb (jf_X12_needsSign h5) (fun _ _ h6 => pj_a (fun _ => pj_a (fun _ => pj_s (j_sI h6) (fun _ h7 => (ihagain47 _ h7))))))))))))))))
theorem jF_X12_world_27 {x0 : Nat} {again27 : (Int32 × zS) → Option (Int32 × zS)} (ihagain27 : ∀ s : Int32 × zS, s.2.2.1 = L → Pt (again27 s) (fun r => r.2.2.1 = L)) {s : Int32 × zS} (hj : s.2.2.1 = L) : Pt (F_X12_world_27 N x0 again27 s) (fun r => r.2.2.1 = L) := by
  obtain ⟨x1, σ⟩ := s
  rw [F_X12_world_27.eq_1]
  exact pt_if (fun _ => pt_lp (fun s => s.2.1 = L) (fun again s hI ih => jF_X12_world_47 ih hI) N _ hj) (fun _ => pj_a (fun _ => pj_s (j_sI hj) (fun _ h1 => (ihagain27 _ h1))))
theorem jF_X12_world_6 {x0 : Nat} {again6 : (Int32 × zS) → Option (Int32 × zS)} (ihagain6 : ∀ s : Int32 × zS, s.2.2.1 = L → Pt (again6 s) (fun r => r.2.2.1 = L)) {s : Int32 × zS} (hj : s.2.2.1 = L) : Pt (F_X12_world_6 N x0 again6 s) (fun r => r.2.2.1 = L) := by
  obtain ⟨x1, σ⟩ := s
  rw [F_X12_world_6.eq_1]
  exact pt_if (fun _ => pt_lp (fun s => s.2.2.1 = L) (fun again s hI ih => jF_X12_world_27 ih hI) N _ hj) (fun _ => pj_a (fun _ => pj_s (j_sI hj) (fun _ h1 => (ihagain6 _ h1))))
theorem jf_X12_world {x0 : Nat} {σ : zS}  (hj : σ.2.1 = L) : Pt (f_X12_world N x0 σ) (fun r => r.2.2.1 = L) := by
  rw [f_X12_world.eq_1]
  exact pj_a (fun _ => pt_zb (jf_X12_begins hj) (fun _ _ h1 => pt_lp (fun s => s.2.2.1 = L) (fun again s hI ih => jF_X12_world_6 ih hI) N _ h1))
theorem jF_X12_sizeOf_4 {x0 : Nat} {x1 : Int32} {again4 : (Int32 × Int32 × zS) → Option (Int32 × zS)} (ihagain4 : ∀ s : Int32 × Int32 × zS, s.2.2.2.1 = L → Pt (again4 s) (fun r => r.2.2.1 = L)) {s : Int32 × Int32 × zS} (hj : s.2.2.2.1 = L) : Pt (F_X12_sizeOf_4 N x0 x1 again4 s) (fun r => r.2.2.1 = L) := by
  obtain ⟨x2, x3, σ⟩ := s
  rw [F_X12_sizeOf_4.eq_1]
  exact pj_a (fun _ => pt_zb (jf_X12_many hj) (fun _ _ h1 => pt_if (fun _ => pt_some h1) (fun _ => pj_a (fun _ => pt_zb (jf_X12_of h1) (fun _ _ h2 => pt_if (fun _ => (ihagain4 _ h2)) (fun _ => (ihagain4 _ h2)))))))
theorem jf_X12_sizeOf {x0 : Nat} {x1 : Int32} {σ : zS}  (hj : σ.2.1 = L) : Pt (f_X12_sizeOf N x0 x1 σ) (fun r => r.2.2.1 = L) := by
  rw [f_X12_sizeOf.eq_1]
  exact pt_lp (fun s => s.2.2.2.1 = L) (fun again s hI ih => jF_X12_sizeOf_4 ih hI) N _ hj
theorem jF_X12_lays_2 {x0 : Nat} {x1 : Int32} {again2 : (Int32 × zS) → Option (Int32 × zS)} (ihagain2 : ∀ s : Int32 × zS, s.2.2.1 = L → Pt (again2 s) (fun r => r.2.2.1 = L)) {s : Int32 × zS} (hj : s.2.2.1 = L) : Pt (F_X12_lays_2 N x0 x1 again2 s) (fun r => r.2.2.1 = L) := by
  obtain ⟨x2, σ⟩ := s
  rw [F_X12_lays_2.eq_1]
  exact pt_if (fun _ => pj_a (fun _ => pt_zb (jf_X12_sizeOf hj) (fun _ _ h1 => pt_some h1))) (fun _ => pj_a (fun _ => pj_a (fun _ => pj_a (fun _ => pj_s (j_sI hj) (fun _ h2 => (ihagain2 _ h2))))))
theorem jf_X12_lays {x0 : Nat} {x1 : Int32} {σ : zS}  (hj : σ.2.1 = L) : Pt (f_X12_lays N x0 x1 σ) (fun r => r.2.2.1 = L) := by
  rw [f_X12_lays.eq_1]
  exact pt_lp (fun s => s.2.2.1 = L) (fun again s hI ih => jF_X12_lays_2 ih hI) N _ hj
theorem jF_X12_put_65 {x0 : Nat} {x1 : Int32} {again65 : (Int32 × zS) → Option (Int32 × zS)} (ihagain65 : ∀ s : Int32 × zS, s.2.2.1 = L → Pt (again65 s) (fun r => r.2.2.1 = L)) {s : Int32 × zS} (hj : s.2.2.1 = L) : Pt (F_X12_put_65 N x0 x1 again65 s) (fun r => r.2.2.1 = L) := by
  obtain ⟨x2, σ⟩ := s
  rw [F_X12_put_65.eq_1]
  exact pt_if (fun _ => pj_a (fun _ => pt_zb (jf_X12_lays hj) (fun _ _ h1 => pt_some h1))) (fun _ => pj_a (fun _ => pj_a (fun _ => pj_a (fun _ => pj_s (j_sI hj) (fun _ h2 => (ihagain65 _ h2))))))
theorem jJ_X12_put_53 {x0 : Nat} {x1 : Int32} {σ : zS}  (hj : σ.2.1 = L) : Pt (J_X12_put_53 N x0 x1 σ) (fun r => r.2.2.1 = L) := by
  rw [J_X12_put_53.eq_1]
  exact pj_a (fun _ => pt_zb (jf_X12_good hj) (fun _ _ h1 => pt_if (fun _ => pt_some h1) (fun _ => pt_lp (fun s => s.2.2.1 = L) (fun again s hI ih => jF_X12_put_65 ih hI) N _ h1)))
theorem jf_X12_put {x0 : Nat} {x1 : Int32} {σ : zS}  (hj : σ.2.1 = L) : Pt (f_X12_put N x0 x1 σ) (fun r => r.2.2.1 = L) := by
  rw [f_X12_put.eq_1]
  exact pj_a (fun _ => pt_zb (jf_X12_isRegister hj) (fun _ _ h1 => pt_if (fun _ => pj_s (j_pI h1) (fun _ h2 => pt_some h2)) (fun _ => pj_a (fun _ => pt_zb (jf_X12_begins h1) (fun _ _ h3 => pj_a (fun _ => pj_a (fun _ => pj_a (fun _ => pj_a (fun _ => pt_zb (jf_X12_readsSum h3) (fun _ _ h4 => pj_a (fun _ => pt_zb (jf_X12_good h4) (fun _ _ h5 => pt_if (fun _ => (jJ_X12_put_53 h5)) (fun _ => pj_a (fun _ => pt_if (fun _ => (jJ_X12_put_53 h5)) (fun _ => pj_a (fun _ => pt_zb (jf_X12_errs h5) (fun _ _ h6 => (jJ_X12_put_53 h6))))))))))))))))))
theorem jf_X12_size {x0 : Nat} {x1 : Int32} {σ : zS}  (hj : σ.2.1 = L) : Pt (f_X12_size N x0 x1 σ) (fun r => r.2.2.1 = L) := by
  rw [f_X12_size.eq_1]
  exact pj_a (fun _ => pt_zb (jf_X12_isRegister hj) (fun _ _ h1 => pt_if (fun _ => pt_some h1) (fun _ => pj_a (fun _ => pt_zb (jf_X12_sizeOf h1) (fun _ _ h2 => pt_some h2)))))
theorem jf_X12_has {x0 : Nat} {x1 : Int32} {x2 : Int32} {σ : zS}  (hj : σ.2.1 = L) : Pt (f_X12_has N x0 x1 x2 σ) (fun r => r.2.2.1 = L) := by
  rw [f_X12_has.eq_1]
  exact pj_a (fun _ => pt_zb (jf_X12_isRegister hj) (fun _ _ h1 => pt_if (fun _ => pt_some h1) (fun _ => pj_a (fun _ => pt_zb (jf_X12_isSet h1) (fun _ _ h2 => pt_if (fun _ => pt_some h2) (fun _ => pj_a (fun _ => pt_zb (jf_X12_of h2) (fun _ _ h3 => pt_if (fun _ => pt_some h3) (fun _ => pt_some h3)))))))))
theorem jf_X12_makes {x0 : Nat} {x1 : Int32} {x2 : Int32} {x3 : Int32} {x4 : Int32} {σ : zS}  (hj : σ.2.1 = L) : Pt (f_X12_makes N x0 x1 x2 x3 x4 σ) (fun r => r.2.2.1 = L) := by
  rw [f_X12_makes.eq_1]
  exact pj_a (fun _ => pt_zb (jf_X12_isRegister hj) (fun _ _ h1 => pt_if (fun _ => pt_some h1) (fun _ => pt_zb (jf_X12_in h1) (fun _ _ h2 => pt_if (fun _ => pt_some h2) (fun _ => pj_a (fun _ => pt_zb (jf_X12_isRegister h2) (fun _ _ h3 => pt_if (fun _ => pt_some h3) (fun _ => pj_a (fun _ => pt_zb (jf_X12_isRegister h3) (fun _ _ h4 => pt_if (fun _ => pt_some h4) (fun _ => pj_a (fun _ => pt_zb (jf_X12_many h4) (fun _ _ h5 => pj_s (j_pI h5) (fun _ h6 => pj_a (fun _ => pj_a (fun _ => pj_a (fun _ => pt_zb (jf_X12_gives h6) (fun _ _ h7 => pj_a (fun _ => pt_zb (jf_X12_lays h7) (fun _ _ h8 => pt_some h8))))))))))))))))))))
theorem jf_X12_turn {x0 : Nat} {x1 : Int32} {x2 : Int32} {x3 : Int32} {σ : zS}  (hj : σ.2.1 = L) : Pt (f_X12_turn N x0 x1 x2 x3 σ) (fun r => r.2.2.1 = L) := by
  rw [f_X12_turn.eq_1]
  exact pj_a (fun _ => pt_zb (jf_X12_isRegister hj) (fun _ _ h1 => pt_if (fun _ => pt_some h1) (fun _ => pt_zb (jf_X12_in h1) (fun _ _ h2 => pt_if (fun _ => pt_some h2) (fun _ => pj_a (fun _ => pt_zb (jf_X12_isRegister h2) (fun _ _ h3 => pt_if (fun _ => pt_some h3) (fun _ => pj_a (fun _ => pt_zb (jf_X12_many h3) (fun _ _ h4 => pj_s (j_pI h4) (fun _ h5 => pj_a (fun _ => pj_a (fun _ => pt_zb (jf_X12_turns h5) (fun _ _ h6 => pj_a (fun _ => pt_zb (jf_X12_lays h6) (fun _ _ h7 => pt_some h7))))))))))))))))
theorem jf_X12_sets {x0 : Nat} {x1 : Int32} {x2 : Int32} {x3 : Int32} {σ : zS}  (hj : σ.2.1 = L) : Pt (f_X12_sets N x0 x1 x2 x3 σ) (fun r => r.2.2.1 = L) := by
  rw [f_X12_sets.eq_1]
  exact pj_a (fun _ => pt_zb (jf_X12_isRegister hj) (fun _ _ h1 => pt_if (fun _ => pt_some h1) (fun _ => pj_a (fun _ => pt_zb (jf_X12_isSet h1) (fun _ _ h2 => pt_if (fun _ => pt_some h2) (fun _ => pj_a (fun _ => pt_zb (jf_X12_of h2) (fun _ _ h3 => pj_a (fun _ => pj_s (j_sI h3) (fun _ h4 => pt_if (fun _ => pt_some h4) (fun _ => pt_some h4)))))))))))
theorem jF_X12_change_30 {x0 : Nat} {x1 : Int32} {x2 : Int32} {x3 : Int32} {again30 : (Int32 × zS) → Option (Int32 × zS)} (ihagain30 : ∀ s : Int32 × zS, s.2.2.1 = L → Pt (again30 s) (fun r => r.2.2.1 = L)) {s : Int32 × zS} (hj : s.2.2.1 = L) : Pt (F_X12_change_30 N x0 x1 x2 x3 again30 s) (fun r => r.2.2.1 = L) := by
  obtain ⟨x4, σ⟩ := s
  rw [F_X12_change_30.eq_1]
  exact pt_if (fun _ => pj_a (fun _ => pt_zb (jf_X12_lays hj) (fun _ _ h1 => pt_some h1))) (fun _ => pj_a (fun _ => pj_a (fun _ => pt_zb (jf_X12_many hj) (fun _ _ h2 => pt_if (fun _ => pj_s (j_sI h2) (fun _ h3 => (ihagain30 _ h3))) (fun _ => pj_a (fun _ => pt_zb (jf_X12_of h2) (fun _ _ h4 => pt_if (fun _ => pj_s (j_sI h4) (fun _ h5 => (ihagain30 _ h5))) (fun _ => pj_s (j_sI h4) (fun _ h6 => (ihagain30 _ h6))))))))))
theorem jf_X12_change {x0 : Nat} {x1 : Int32} {x2 : Int32} {x3 : Int32} {σ : zS}  (hj : σ.2.1 = L) : Pt (f_X12_change N x0 x1 x2 x3 σ) (fun r => r.2.2.1 = L) := by
  rw [f_X12_change.eq_1]
  exact pj_a (fun _ => pt_zb (jf_X12_isRegister hj) (fun _ _ h1 => pt_if (fun _ => pt_some h1) (fun _ => pj_a (fun _ => pt_zb (jf_X12_isRegister h1) (fun _ _ h2 => pt_if (fun _ => pt_some h2) (fun _ => pj_a (fun _ => pt_zb (jf_X12_isName h2) (fun _ _ h3 => pt_if (fun _ => pt_some h3) (fun _ => pt_lp (fun s => s.2.2.1 = L) (fun again s hI ih => jF_X12_change_30 ih hI) N _ h3)))))))))
theorem jJ_X12_half_83 {again35 : (Int32 × zS) → Option (Int32 × zS)} {x0 : Nat} {x1 : Int32} {x2 : Int32} {x4 : Int32} {x5 : Int32} {x6 : Int32} {y0 : Int32} {y1 : Int32} {y2 : Nat} {y3 : Int32} {y4 : Nat} {σ : zS} (ihagain35 : ∀ s : Int32 × zS, s.2.2.1 = L → Pt (again35 s) (fun r => r.2.2.1 = L)) (hj : σ.2.1 = L) : Pt (J_X12_half_83 N again35 x0 x1 x2 x4 x5 x6 y0 y1 y2 y3 y4 σ) (fun r => r.2.2.1 = L) := by
  rw [J_X12_half_83.eq_1]
  exact pj_a (fun _ => pt_zb (jf_X12_of hj) (fun _ _ h1 => pt_if (fun _ => pj_s (j_sI h1) (fun _ h2 => (ihagain35 _ h2))) (fun _ => pj_s (j_sI h1) (fun _ h3 => (ihagain35 _ h3)))))
theorem jF_X12_half_35 {x0 : Nat} {x1 : Int32} {x2 : Int32} {x4 : Int32} {x5 : Int32} {again35 : (Int32 × zS) → Option (Int32 × zS)} (ihagain35 : ∀ s : Int32 × zS, s.2.2.1 = L → Pt (again35 s) (fun r => r.2.2.1 = L)) {s : Int32 × zS} (hj : s.2.2.1 = L) : Pt (F_X12_half_35 N x0 x1 x2 x4 x5 again35 s) (fun r => r.2.2.1 = L) := by
  obtain ⟨x6, σ⟩ := s
  rw [F_X12_half_35.eq_1]
  exact pt_if (fun _ => pj_a (fun _ => pt_zb (jf_X12_lays hj) (fun _ _ h1 => pt_some h1))) (fun _ => pj_a (fun _ => pj_a (fun _ => pt_zb (jf_X12_many hj) (fun _ _ h2 => pt_if (fun _ => pj_s (j_sI h2) (fun _ h3 => (ihagain35 _ h3))) (fun _ => pt_if (fun _ => pt_if (fun _ => (jJ_X12_half_83 ihagain35 h2)) (fun _ => (jJ_X12_half_83 ihagain35 h2))) (fun _ => pj_s (j_sI h2) (fun _ h4 => (ihagain35 _ h4))))))))
theorem jf_X12_half {x0 : Nat} {x1 : Int32} {x2 : Int32} {x3 : Int32} {x4 : Int32} {σ : zS}  (hj : σ.2.1 = L) : Pt (f_X12_half N x0 x1 x2 x3 x4 σ) (fun r => r.2.2.1 = L) := by
  rw [f_X12_half.eq_1]
  exact pj_a (fun _ => pt_zb (jf_X12_isRegister hj) (fun _ _ h1 => pt_if (fun _ => pt_some h1) (fun _ => pj_a (fun _ => pt_zb (jf_X12_isRegister h1) (fun _ _ h2 => pt_if (fun _ => pt_some h2) (fun _ => pj_a (fun _ => pt_zb (jf_X12_isName h2) (fun _ _ h3 => pt_if (fun _ => pt_some h3) (fun _ => pt_lp (fun s => s.2.2.1 = L) (fun again s hI ih => jF_X12_half_35 ih hI) N _ h3)))))))))
theorem jF_X12_level_34 {x0 : Nat} {x1 : Int32} {x2 : Int32} {x3 : Int32} {again34 : (Int32 × zS) → Option (Int32 × zS)} (ihagain34 : ∀ s : Int32 × zS, s.2.2.1 = L → Pt (again34 s) (fun r => r.2.2.1 = L)) {s : Int32 × zS} (hj : s.2.2.1 = L) : Pt (F_X12_level_34 N x0 x1 x2 x3 again34 s) (fun r => r.2.2.1 = L) := by
  obtain ⟨x4, σ⟩ := s
  rw [F_X12_level_34.eq_1]
  exact pt_if (fun _ => pj_a (fun _ => pt_zb (jf_X12_lays hj) (fun _ _ h1 => pt_some h1))) (fun _ => pj_a (fun _ => pj_a (fun _ => pt_zb (jf_X12_many hj) (fun _ _ h2 => pt_if (fun _ => pj_s (j_sI h2) (fun _ h3 => (ihagain34 _ h3))) (fun _ => pj_a (fun _ => pt_zb (jf_X12_of h2) (fun _ _ h4 => pt_if (fun _ => pj_s (j_sI h4) (fun _ h5 => (ihagain34 _ h5))) (fun _ => pt_zb (jf_X12_namesOf h4) (fun _ _ h6 => pt_if (fun _ => pj_s (j_sI h6) (fun _ h7 => (ihagain34 _ h7))) (fun _ => pj_s (j_sI h6) (fun _ h8 => (ihagain34 _ h8))))))))))))
theorem jf_X12_level {x0 : Nat} {x1 : Int32} {x2 : Int32} {x3 : Int32} {σ : zS}  (hj : σ.2.1 = L) : Pt (f_X12_level N x0 x1 x2 x3 σ) (fun r => r.2.2.1 = L) := by
  rw [f_X12_level.eq_1]
  exact pj_a (fun _ => pt_zb (jf_X12_isRegister hj) (fun _ _ h1 => pt_if (fun _ => pt_some h1) (fun _ => pj_a (fun _ => pt_zb (jf_X12_isRegister h1) (fun _ _ h2 => pt_if (fun _ => pt_some h2) (fun _ => pt_zb (jf_X12_in h2) (fun _ _ h3 => pt_if (fun _ => pt_some h3) (fun _ => pt_lp (fun s => s.2.2.1 = L) (fun again s hI ih => jF_X12_level_34 ih hI) N _ h3))))))))
theorem jF_X12_nthOf_5 {x0 : Nat} {x1 : Int32} {x2 : Int32} {again5 : (Int32 × Int32 × zS) → Option (Int32 × zS)} (ihagain5 : ∀ s : Int32 × Int32 × zS, s.2.2.2.1 = L → Pt (again5 s) (fun r => r.2.2.1 = L)) {s : Int32 × Int32 × zS} (hj : s.2.2.2.1 = L) : Pt (F_X12_nthOf_5 N x0 x1 x2 again5 s) (fun r => r.2.2.1 = L) := by
  obtain ⟨x3, x4, σ⟩ := s
  rw [F_X12_nthOf_5.eq_1]
  exact pj_a (fun _ => pt_zb (jf_X12_many hj) (fun _ _ h1 => pt_if (fun _ => pt_some h1) (fun _ => pj_a (fun _ => pt_zb (jf_X12_of h1) (fun _ _ h2 => pt_if (fun _ => (ihagain5 _ h2)) (fun _ => pt_if (fun _ => pt_some h2) (fun _ => (ihagain5 _ h2))))))))
theorem jf_X12_nthOf {x0 : Nat} {x1 : Int32} {x2 : Int32} {σ : zS}  (hj : σ.2.1 = L) : Pt (f_X12_nthOf N x0 x1 x2 σ) (fun r => r.2.2.1 = L) := by
  rw [f_X12_nthOf.eq_1]
  exact pt_lp (fun s => s.2.2.2.1 = L) (fun again s hI ih => jF_X12_nthOf_5 ih hI) N _ hj
theorem jf_X12_nth {x0 : Nat} {x1 : Int32} {x2 : Int32} {σ : zS}  (hj : σ.2.1 = L) : Pt (f_X12_nth N x0 x1 x2 σ) (fun r => r.2.2.1 = L) := by
  rw [f_X12_nth.eq_1]
  exact pj_a (fun _ => pt_zb (jf_X12_isRegister hj) (fun _ _ h1 => pt_if (fun _ => pt_some h1) (fun _ => pj_a (fun _ => pt_zb (jf_X12_nthOf h1) (fun _ _ h2 => pt_some h2)))))
theorem jF_X12_rank__24 {x0 : Nat} {x1 : Int32} {x2 : Int32} {again24 : (Int32 × Int32 × zS) → Option (Int32 × zS)} (ihagain24 : ∀ s : Int32 × Int32 × zS, s.2.2.2.1 = L → Pt (again24 s) (fun r => r.2.2.1 = L)) {s : Int32 × Int32 × zS} (hj : s.2.2.2.1 = L) : Pt (F_X12_rank__24 N x0 x1 x2 again24 s) (fun r => r.2.2.1 = L) := by
  obtain ⟨x3, x4, σ⟩ := s
  rw [F_X12_rank__24.eq_1]
  exact pt_if (fun _ => pt_some hj) (fun _ => pj_a (fun _ => pt_zb (jf_X12_of hj) (fun _ _ h1 => pt_if (fun _ => (ihagain24 _ h1)) (fun _ => (ihagain24 _ h1)))))
theorem jf_X12_rank_ {x0 : Nat} {x1 : Int32} {x2 : Int32} {σ : zS}  (hj : σ.2.1 = L) : Pt (f_X12_rank_ N x0 x1 x2 σ) (fun r => r.2.2.1 = L) := by
  rw [f_X12_rank_.eq_1]
  exact pj_a (fun _ => pt_zb (jf_X12_isRegister hj) (fun _ _ h1 => pt_if (fun _ => pt_some h1) (fun _ => pj_a (fun _ => pt_zb (jf_X12_isSet h1) (fun _ _ h2 => pt_if (fun _ => pt_some h2) (fun _ => pt_lp (fun s => s.2.2.2.1 = L) (fun again s hI ih => jF_X12_rank__24 ih hI) N _ h2))))))
theorem jF_X12_weightOf_4 {x0 : Nat} {x1 : Int32} {again4 : (Int32 × Int32 × zS) → Option (Int32 × zS)} (ihagain4 : ∀ s : Int32 × Int32 × zS, s.2.2.2.1 = L → Pt (again4 s) (fun r => r.2.2.1 = L)) {s : Int32 × Int32 × zS} (hj : s.2.2.2.1 = L) : Pt (F_X12_weightOf_4 N x0 x1 again4 s) (fun r => r.2.2.1 = L) := by
  obtain ⟨x2, x3, σ⟩ := s
  rw [F_X12_weightOf_4.eq_1]
  exact pt_if (fun _ => pt_some hj) (fun _ => pj_a (fun _ => pj_a (fun _ => (ihagain4 _ hj))))
theorem jf_X12_weightOf {x0 : Nat} {x1 : Int32} {σ : zS}  (hj : σ.2.1 = L) : Pt (f_X12_weightOf N x0 x1 σ) (fun r => r.2.2.1 = L) := by
  rw [f_X12_weightOf.eq_1]
  exact pt_lp (fun s => s.2.2.2.1 = L) (fun again s hI ih => jF_X12_weightOf_4 ih hI) N _ hj
theorem jF_X12_light_27 {x0 : Nat} {x1 : Int32} {x2 : Int32} {x4 : Int32} {again16 : (Int32 × Int32 × zS) → Option (Int32 × zS)} {again27 : (Int32 × Int32 × zS) → Option (Int32 × zS)} (ihagain16 : ∀ s : Int32 × Int32 × zS, s.2.2.2.1 = L → Pt (again16 s) (fun r => r.2.2.1 = L)) (ihagain27 : ∀ s : Int32 × Int32 × zS, s.2.2.2.1 = L → Pt (again27 s) (fun r => r.2.2.1 = L)) {s : Int32 × Int32 × zS} (hj : s.2.2.2.1 = L) : Pt (F_X12_light_27 N x0 x1 x2 x4 again16 again27 s) (fun r => r.2.2.1 = L) := by
  obtain ⟨x3, x5, σ⟩ := s
  rw [F_X12_light_27.eq_1]
  exact pj_a (fun _ => pt_zb (jf_X12_many hj) (fun _ _ h1 => pt_if (fun _ => (ihagain16 _ h1)) (fun _ => pj_a (fun _ => pt_zb (jf_X12_of h1) (fun _ _ h2 => pt_if (fun _ => (ihagain27 _ h2)) (fun _ => pj_a (fun _ => pt_zb (jf_X12_weightOf h2) (fun _ _ h3 => pt_if (fun _ => pt_if (fun _ => pt_some h3) (fun _ => (ihagain27 _ h3))) (fun _ => (ihagain27 _ h3))))))))))
theorem jF_X12_light_16 {x0 : Nat} {x1 : Int32} {x2 : Int32} {again16 : (Int32 × Int32 × zS) → Option (Int32 × zS)} (ihagain16 : ∀ s : Int32 × Int32 × zS, s.2.2.2.1 = L → Pt (again16 s) (fun r => r.2.2.1 = L)) {s : Int32 × Int32 × zS} (hj : s.2.2.2.1 = L) : Pt (F_X12_light_16 N x0 x1 x2 again16 s) (fun r => r.2.2.1 = L) := by
  obtain ⟨x3, x4, σ⟩ := s
  rw [F_X12_light_16.eq_1]
  exact pt_if (fun _ => pt_some hj) (fun _ => pt_lp (fun s => s.2.2.2.1 = L) (fun again s hI ih => jF_X12_light_27 ihagain16 ih hI) N _ hj)
theorem jf_X12_light {x0 : Nat} {x1 : Int32} {x2 : Int32} {σ : zS}  (hj : σ.2.1 = L) : Pt (f_X12_light N x0 x1 x2 σ) (fun r => r.2.2.1 = L) := by
  rw [f_X12_light.eq_1]
  exact pj_a (fun _ => pt_zb (jf_X12_isRegister hj) (fun _ _ h1 => pt_if (fun _ => pt_some h1) (fun _ => pt_lp (fun s => s.2.2.2.1 = L) (fun again s hI ih => jF_X12_light_16 ih hI) N _ h1)))
theorem jf_X12_weight {x0 : Nat} {x1 : Int32} {σ : zS}  (hj : σ.2.1 = L) : Pt (f_X12_weight N x0 x1 σ) (fun r => r.2.2.1 = L) := by
  rw [f_X12_weight.eq_1]
  exact pj_a (fun _ => pt_zb (jf_X12_isSet hj) (fun _ _ h1 => pt_if (fun _ => pt_some h1) (fun _ => pj_a (fun _ => pt_zb (jf_X12_weightOf h1) (fun _ _ h2 => pt_some h2)))))
theorem jf_X12_weigh {x0 : Nat} {x1 : Int32} {x2 : Int32} {σ : zS}  (hj : σ.2.1 = L) : Pt (f_X12_weigh N x0 x1 x2 σ) (fun r => r.2.2.1 = L) := by
  rw [f_X12_weigh.eq_1]
  exact pj_a (fun _ => pt_zb (jf_X12_isName hj) (fun _ _ h1 => pt_if (fun _ => pt_some h1) (fun _ => pt_zb (jf_X12_in h1) (fun _ _ h2 => pt_if (fun _ => pt_some h2) (fun _ => pj_a (fun _ => pj_a (fun _ => pj_a (fun _ => pj_s (j_sI h2) (fun _ h3 => pt_some h3)))))))))
theorem jF_X12_weighs_34 {x0 : Nat} {x1 : Int32} {x2 : Int32} {again34 : (Int32 × Int32 × Int32 × Int32 × zS) → Option (Int32 × zS)} (ihagain34 : ∀ s : Int32 × Int32 × Int32 × Int32 × zS, s.2.2.2.2.2.1 = L → Pt (again34 s) (fun r => r.2.2.1 = L)) {s : Int32 × Int32 × Int32 × Int32 × zS} (hj : s.2.2.2.2.2.1 = L) : Pt (F_X12_weighs_34 N x0 x1 x2 again34 s) (fun r => r.2.2.1 = L) := by
  obtain ⟨x3, x4, x5, x6, σ⟩ := s
  rw [F_X12_weighs_34.eq_1]
  exact pj_a (fun _ => pt_zb (jf_X12_many hj) (fun _ _ h1 => pt_if (fun _ => pt_if (fun _ => pt_some h1) (fun _ => pt_if (fun _ => pt_some h1) (fun _ => pt_some h1))) (fun _ => pj_a (fun _ => pt_zb (jf_X12_of h1) (fun _ _ h2 => pt_if (fun _ => (ihagain34 _ h2)) (fun _ => pj_a (fun _ => pt_zb (jf_X12_weightOf h2) (fun _ _ h3 => pt_if (fun _ => (ihagain34 _ h3)) (fun _ => (ihagain34 _ h3))))))))))
theorem jf_X12_weighs {x0 : Nat} {x1 : Int32} {x2 : Int32} {σ : zS}  (hj : σ.2.1 = L) : Pt (f_X12_weighs N x0 x1 x2 σ) (fun r => r.2.2.1 = L) := by
  rw [f_X12_weighs.eq_1]
  exact pj_a (fun _ => pt_zb (jf_X12_isRegister hj) (fun _ _ h1 => pt_if (fun _ => pt_some h1) (fun _ => pt_zb (jf_X12_in h1) (fun _ _ h2 => pt_if (fun _ => pt_some h2) (fun _ => pt_lp (fun s => s.2.2.2.2.2.1 = L) (fun again s hI ih => jF_X12_weighs_34 ih hI) N _ h2)))))
theorem jF_X12_each_24 {x0 : Nat} {x1 : Int32} {x2 : Int32} {again24 : (Int32 × Int32 × zS) → Option (Int32 × zS)} (ihagain24 : ∀ s : Int32 × Int32 × zS, s.2.2.2.1 = L → Pt (again24 s) (fun r => r.2.2.1 = L)) {s : Int32 × Int32 × zS} (hj : s.2.2.2.1 = L) : Pt (F_X12_each_24 N x0 x1 x2 again24 s) (fun r => r.2.2.1 = L) := by
  obtain ⟨x3, x4, σ⟩ := s
  rw [F_X12_each_24.eq_1]
  exact pj_a (fun _ => pt_zb (jf_X12_many hj) (fun _ _ h1 => pt_if (fun _ => pt_some h1) (fun _ => pj_a (fun _ => pt_zb (jf_X12_of h1) (fun _ _ h2 => pt_if (fun _ => (ihagain24 _ h2)) (fun _ => (ihagain24 _ h2)))))))
theorem jf_X12_each {x0 : Nat} {x1 : Int32} {x2 : Int32} {σ : zS}  (hj : σ.2.1 = L) : Pt (f_X12_each N x0 x1 x2 σ) (fun r => r.2.2.1 = L) := by
  rw [f_X12_each.eq_1]
  exact pj_a (fun _ => pt_zb (jf_X12_isRegister hj) (fun _ _ h1 => pt_if (fun _ => pt_some h1) (fun _ => pj_a (fun _ => pt_zb (jf_X12_isName h1) (fun _ _ h2 => pt_if (fun _ => pt_some h2) (fun _ => pt_lp (fun s => s.2.2.2.1 = L) (fun again s hI ih => jF_X12_each_24 ih hI) N _ h2))))))
theorem jF_X12_names_96 {x0 : Nat} {x1 : Int32} {x2 : Int32} {x3 : Int32} {x4 : Int32} {x6 : Int32} {again44 : (Int32 × Int32 × Int32 × Int32 × zS) → Option (Int32 × zS)} {again96 : (Int32 × Int32 × zS) → Option (Int32 × zS)} (ihagain44 : ∀ s : Int32 × Int32 × Int32 × Int32 × zS, s.2.2.2.2.2.1 = L → Pt (again44 s) (fun r => r.2.2.1 = L)) (ihagain96 : ∀ s : Int32 × Int32 × zS, s.2.2.2.1 = L → Pt (again96 s) (fun r => r.2.2.1 = L)) {s : Int32 × Int32 × zS} (hj : s.2.2.2.1 = L) : Pt (F_X12_names_96 N x0 x1 x2 x3 x4 x6 again44 again96 s) (fun r => r.2.2.1 = L) := by
  obtain ⟨x5, x7, σ⟩ := s
  rw [F_X12_names_96.eq_1]
  exact pj_a (fun _ => pj_a (fun _ => pt_if (fun _ => (ihagain44 _ hj)) (fun _ => pj_a (fun _ => pt_zb (jf_X12_of hj) (fun _ _ h1 => pj_a (fun _ => pt_zb (jf_X12_of h1) (fun _ _ h2 => pt_if (fun _ => (ihagain96 _ h2)) (fun _ => (ihagain96 _ h2)))))))))
theorem jJ_X12_names_90 {again44 : (Int32 × Int32 × Int32 × Int32 × zS) → Option (Int32 × zS)} {x0 : Nat} {x1 : Int32} {x2 : Int32} {x3 : Int32} {x5 : Int32} {x6 : Int32} {y0 : Int32} {y1 : Int32} {σ : zS} (ihagain44 : ∀ s : Int32 × Int32 × Int32 × Int32 × zS, s.2.2.2.2.2.1 = L → Pt (again44 s) (fun r => r.2.2.1 = L)) (hj : σ.2.1 = L) : Pt (J_X12_names_90 N again44 x0 x1 x2 x3 x5 x6 y0 y1 σ) (fun r => r.2.2.1 = L) := by
  rw [J_X12_names_90.eq_1]
  exact pt_lp (fun s => s.2.2.2.1 = L) (fun again s hI ih => jF_X12_names_96 ihagain44 ih hI) N _ hj
theorem jJ_X12_names_70 {again44 : (Int32 × Int32 × Int32 × Int32 × zS) → Option (Int32 × zS)} {x0 : Nat} {x1 : Int32} {x2 : Int32} {x4 : Int32} {x5 : Int32} {x6 : Int32} {y0 : Int32} {y1 : Int32} {σ : zS} (ihagain44 : ∀ s : Int32 × Int32 × Int32 × Int32 × zS, s.2.2.2.2.2.1 = L → Pt (again44 s) (fun r => r.2.2.1 = L)) (hj : σ.2.1 = L) : Pt (J_X12_names_70 N again44 x0 x1 x2 x4 x5 x6 y0 y1 σ) (fun r => r.2.2.1 = L) := by
  rw [J_X12_names_70.eq_1]
  exact pj_a (fun _ => pt_zb (jf_X12_of hj) (fun _ _ h1 => pt_if (fun _ => (jJ_X12_names_90 ihagain44 h1)) (fun _ => (jJ_X12_names_90 ihagain44 h1))))
theorem jF_X12_names_44 {x0 : Nat} {x1 : Int32} {x2 : Int32} {again44 : (Int32 × Int32 × Int32 × Int32 × zS) → Option (Int32 × zS)} (ihagain44 : ∀ s : Int32 × Int32 × Int32 × Int32 × zS, s.2.2.2.2.2.1 = L → Pt (again44 s) (fun r => r.2.2.1 = L)) {s : Int32 × Int32 × Int32 × Int32 × zS} (hj : s.2.2.2.2.2.1 = L) : Pt (F_X12_names_44 N x0 x1 x2 again44 s) (fun r => r.2.2.1 = L) := by
  obtain ⟨x3, x4, x5, x6, σ⟩ := s
  rw [F_X12_names_44.eq_1]
  exact pj_a (fun _ => pt_zb (jf_X12_many hj) (fun _ _ h1 => pt_if (fun _ => pt_if (fun _ => pt_some h1) (fun _ => pt_if (fun _ => pt_some h1) (fun _ => pt_some h1))) (fun _ => pj_a (fun _ => pt_zb (jf_X12_of h1) (fun _ _ h2 => pt_if (fun _ => (jJ_X12_names_70 ihagain44 h2)) (fun _ => (jJ_X12_names_70 ihagain44 h2)))))))
theorem jf_X12_names {x0 : Nat} {x1 : Int32} {x2 : Int32} {σ : zS}  (hj : σ.2.1 = L) : Pt (f_X12_names N x0 x1 x2 σ) (fun r => r.2.2.1 = L) := by
  rw [f_X12_names.eq_1]
  exact pj_a (fun _ => pt_zb (jf_X12_isRegister hj) (fun _ _ h1 => pt_if (fun _ => pt_some h1) (fun _ => pt_zb (jf_X12_in h1) (fun _ _ h2 => pt_if (fun _ => pt_some h2) (fun _ => pj_a (fun _ => pt_zb (jf_X12_many h2) (fun _ _ h3 => pj_a (fun _ => pt_zb (jf_X12_many h3) (fun _ _ h4 => pt_lp (fun s => s.2.2.2.2.2.1 = L) (fun again s hI ih => jF_X12_names_44 ih hI) N _ h4)))))))))
theorem jf_X12_draw {x0 : Nat} {x1 : Int32} {x2 : Int32} {σ : zS}  (hj : σ.2.1 = L) : Pt (f_X12_draw N x0 x1 x2 σ) (fun r => r.2.2.1 = L) := by
  rw [f_X12_draw.eq_1]
  exact pj_a (fun _ => pt_zb (jf_X12_isRegister hj) (fun _ _ h1 => pt_if (fun _ => pt_some h1) (fun _ => pt_zb (jf_X12_in h1) (fun _ _ h2 => pt_if (fun _ => pt_some h2) (fun _ => pj_a (fun _ => pt_zb (jf_X12_sizeOf h2) (fun _ _ h3 => pj_a (fun _ => pt_if (fun _ => pt_some h3) (fun _ => pj_a (fun _ => pj_a (fun _ => pj_a (fun _ => pt_zb (jf_X12_nthOf h3) (fun _ _ h4 => pt_some h4)))))))))))))
theorem jf_X12_areRegisters {x0 : Nat} {x1 : Int32} {x2 : Int32} {σ : zS}  (hj : σ.2.1 = L) : Pt (f_X12_areRegisters N x0 x1 x2 σ) (fun r => r.2.2.1 = L) := by
  rw [f_X12_areRegisters.eq_1]
  exact pj_a (fun _ => pt_zb (jf_X12_isRegister hj) (fun _ _ h1 => pt_if (fun _ => pt_rZ h1) (fun _ => pj_a (fun _ => pt_zb (jf_X12_isRegister h1) (fun _ _ h2 => pt_if (fun _ => pt_rZ h2) (fun _ => pt_rZ h2))))))
theorem jF_X12_differOf_2 {x0 : Nat} {x1 : Int32} {x2 : Int32} {again2 : (Int32 × zS) → Option (Int32 × zS)} (ihagain2 : ∀ s : Int32 × zS, s.2.2.1 = L → Pt (again2 s) (fun r => r.2.2.1 = L)) {s : Int32 × zS} (hj : s.2.2.1 = L) : Pt (F_X12_differOf_2 N x0 x1 x2 again2 s) (fun r => r.2.2.1 = L) := by
  obtain ⟨x3, σ⟩ := s
  rw [F_X12_differOf_2.eq_1]
  exact pj_a (fun _ => pt_zb (jf_X12_many hj) (fun _ _ h1 => pt_if (fun _ => pt_some h1) (fun _ => pj_a (fun _ => pt_zb (jf_X12_of h1) (fun _ _ h2 => pj_a (fun _ => pt_zb (jf_X12_of h2) (fun _ _ h3 => pt_if (fun _ => (ihagain2 _ h3)) (fun _ => pt_some h3))))))))
theorem jf_X12_differOf {x0 : Nat} {x1 : Int32} {x2 : Int32} {σ : zS}  (hj : σ.2.1 = L) : Pt (f_X12_differOf N x0 x1 x2 σ) (fun r => r.2.2.1 = L) := by
  rw [f_X12_differOf.eq_1]
  exact pt_lp (fun s => s.2.2.1 = L) (fun again s hI ih => jF_X12_differOf_2 ih hI) N _ hj
theorem jf_X12_alike {x0 : Nat} {x1 : Int32} {x2 : Int32} {σ : zS}  (hj : σ.2.1 = L) : Pt (f_X12_alike N x0 x1 x2 σ) (fun r => r.2.2.1 = L) := by
  rw [f_X12_alike.eq_1]
  exact pj_a (fun _ => pt_zb (jf_X12_areRegisters hj) (fun _ _ h1 => pt_if (fun _ => pt_some h1) (fun _ => pj_a (fun _ => pt_zb (jf_X12_differOf h1) (fun _ _ h2 => pt_if (fun _ => pt_some h2) (fun _ => pt_some h2))))))
theorem jf_X12_differ {x0 : Nat} {x1 : Int32} {x2 : Int32} {σ : zS}  (hj : σ.2.1 = L) : Pt (f_X12_differ N x0 x1 x2 σ) (fun r => r.2.2.1 = L) := by
  rw [f_X12_differ.eq_1]
  exact pj_a (fun _ => pt_zb (jf_X12_areRegisters hj) (fun _ _ h1 => pt_if (fun _ => pt_some h1) (fun _ => pj_a (fun _ => pt_zb (jf_X12_differOf h1) (fun _ _ h2 => pt_some h2)))))
theorem jF_X12_within_14 {x0 : Nat} {x1 : Int32} {x2 : Int32} {again14 : (Int32 × zS) → Option (Int32 × zS)} (ihagain14 : ∀ s : Int32 × zS, s.2.2.1 = L → Pt (again14 s) (fun r => r.2.2.1 = L)) {s : Int32 × zS} (hj : s.2.2.1 = L) : Pt (F_X12_within_14 N x0 x1 x2 again14 s) (fun r => r.2.2.1 = L) := by
  obtain ⟨x3, σ⟩ := s
  rw [F_X12_within_14.eq_1]
  exact pj_a (fun _ => pt_zb (jf_X12_many hj) (fun _ _ h1 => pt_if (fun _ => pt_some h1) (fun _ => pj_a (fun _ => pt_zb (jf_X12_of h1) (fun _ _ h2 => pt_if (fun _ => (ihagain14 _ h2)) (fun _ => pj_a (fun _ => pt_zb (jf_X12_of h2) (fun _ _ h3 => pt_if (fun _ => pt_some h3) (fun _ => (ihagain14 _ h3))))))))))
theorem jf_X12_within {x0 : Nat} {x1 : Int32} {x2 : Int32} {σ : zS}  (hj : σ.2.1 = L) : Pt (f_X12_within N x0 x1 x2 σ) (fun r => r.2.2.1 = L) := by
  rw [f_X12_within.eq_1]
  exact pj_a (fun _ => pt_zb (jf_X12_areRegisters hj) (fun _ _ h1 => pt_if (fun _ => pt_some h1) (fun _ => pt_lp (fun s => s.2.2.1 = L) (fun again s hI ih => jF_X12_within_14 ih hI) N _ h1)))
theorem jF_X12_isHits_24 {x0 : Nat} {x1 : Int32} {again24 : (Int32 × zS) → Option (Int32 × zS)} (ihagain24 : ∀ s : Int32 × zS, s.2.2.1 = L → Pt (again24 s) (fun r => r.2.2.1 = L)) {s : Int32 × zS} (hj : s.2.2.1 = L) : Pt (F_X12_isHits_24 N x0 x1 again24 s) (fun r => r.2.2.1 = L) := by
  obtain ⟨x3, σ⟩ := s
  rw [F_X12_isHits_24.eq_1]
  exact pj_a (fun _ => pt_if (fun _ => pt_rZ hj) (fun _ => pj_a (fun _ => pt_zb (jf_X12_of hj) (fun _ _ h1 => pj_a (fun _ => pj_a (fun _ => pt_if (fun _ => (ihagain24 _ h1)) (fun _ => pt_rZ h1)))))))
theorem jf_X12_isHits {x0 : Nat} {x1 : Int32} {x2 : Int32} {σ : zS}  (hj : σ.2.1 = L) : Pt (f_X12_isHits N x0 x1 x2 σ) (fun r => r.2.2.1 = L) := by
  rw [f_X12_isHits.eq_1]
  exact pj_a (fun _ => pt_zb (jf_X12_many hj) (fun _ _ h1 => pj_s (j_pI h1) (fun _ h2 => pj_a (fun _ => pj_a (fun _ => pt_zb (jf_X12_turns h2) (fun _ _ h3 => pt_lp (fun s => s.2.2.1 = L) (fun again s hI ih => jF_X12_isHits_24 ih hI) N _ h3))))))
theorem jf_X12_dual {x0 : Nat} {x1 : Int32} {x2 : Int32} {σ : zS}  (hj : σ.2.1 = L) : Pt (f_X12_dual N x0 x1 x2 σ) (fun r => r.2.2.1 = L) := by
  rw [f_X12_dual.eq_1]
  exact pj_a (fun _ => pt_zb (jf_X12_areRegisters hj) (fun _ _ h1 => pt_if (fun _ => pt_some h1) (fun _ => pj_a (fun _ => pt_zb (jf_X12_isHits h1) (fun _ _ h2 => pt_if (fun _ => pt_some h2) (fun _ => pj_a (fun _ => pt_zb (jf_X12_isHits h2) (fun _ _ h3 => pt_if (fun _ => pt_some h3) (fun _ => pt_some h3)))))))))
theorem jF_X12_apart_29 {x0 : Nat} {x1 : Int32} {x2 : Int32} {x4 : Int32} {again17 : (Int32 × Int32 × zS) → Option (Int32 × zS)} {again29 : (Int32 × Int32 × zS) → Option (Int32 × zS)} (ihagain17 : ∀ s : Int32 × Int32 × zS, s.2.2.2.1 = L → Pt (again17 s) (fun r => r.2.2.1 = L)) (ihagain29 : ∀ s : Int32 × Int32 × zS, s.2.2.2.1 = L → Pt (again29 s) (fun r => r.2.2.1 = L)) {s : Int32 × Int32 × zS} (hj : s.2.2.2.1 = L) : Pt (F_X12_apart_29 N x0 x1 x2 x4 again17 again29 s) (fun r => r.2.2.1 = L) := by
  obtain ⟨x3, x5, σ⟩ := s
  rw [F_X12_apart_29.eq_1]
  exact pj_a (fun _ => pt_zb (jf_X12_many hj) (fun _ _ h1 => pt_if (fun _ => (ihagain17 _ h1)) (fun _ => pj_a (fun _ => pt_zb (jf_X12_of h1) (fun _ _ h2 => pt_if (fun _ => (ihagain17 _ h2)) (fun _ => pj_a (fun _ => pt_zb (jf_X12_of h2) (fun _ _ h3 => pt_if (fun _ => (ihagain29 _ h3)) (fun _ => pt_if (fun _ => (ihagain29 _ h3)) (fun _ => (ihagain29 _ h3)))))))))))
theorem jF_X12_apart_17 {x0 : Nat} {x1 : Int32} {x2 : Int32} {again17 : (Int32 × Int32 × zS) → Option (Int32 × zS)} (ihagain17 : ∀ s : Int32 × Int32 × zS, s.2.2.2.1 = L → Pt (again17 s) (fun r => r.2.2.1 = L)) {s : Int32 × Int32 × zS} (hj : s.2.2.2.1 = L) : Pt (F_X12_apart_17 N x0 x1 x2 again17 s) (fun r => r.2.2.1 = L) := by
  obtain ⟨x3, x4, σ⟩ := s
  rw [F_X12_apart_17.eq_1]
  exact pj_a (fun _ => pt_zb (jf_X12_many hj) (fun _ _ h1 => pt_if (fun _ => pt_some h1) (fun _ => pt_lp (fun s => s.2.2.2.1 = L) (fun again s hI ih => jF_X12_apart_29 ihagain17 ih hI) N _ h1)))
theorem jf_X12_apart {x0 : Nat} {x1 : Int32} {x2 : Int32} {σ : zS}  (hj : σ.2.1 = L) : Pt (f_X12_apart N x0 x1 x2 σ) (fun r => r.2.2.1 = L) := by
  rw [f_X12_apart.eq_1]
  exact pj_a (fun _ => pt_zb (jf_X12_areRegisters hj) (fun _ _ h1 => pt_if (fun _ => pt_some h1) (fun _ => pt_lp (fun s => s.2.2.2.1 = L) (fun again s hI ih => jF_X12_apart_17 ih hI) N _ h1)))
theorem jJ_X12_packs_199 {again95 : (Int32 × Int32 × Int32 × zS) → Option (Int32 × zS)} {x0 : Nat} {x2 : Int32} {x3 : Int32} {x4 : Int32} {x6 : Int32} {x7 : Int32} {x9 : Int32} {x10 : Int32} {y0 : Int32} {σ : zS} (ihagain95 : ∀ s : Int32 × Int32 × Int32 × zS, s.2.2.2.2.1 = L → Pt (again95 s) (fun r => r.2.2.1 = L)) (hj : σ.2.1 = L) : Pt (J_X12_packs_199 N again95 x0 x2 x3 x4 x6 x7 x9 x10 y0 σ) (fun r => r.2.2.1 = L) := by
  rw [J_X12_packs_199.eq_1]
  exact pt_if (fun _ => (ihagain95 _ hj)) (fun _ => (ihagain95 _ hj))
theorem jF_X12_packs_115 {x0 : Nat} {x2 : Int32} {x3 : Int32} {x4 : Int32} {x5 : Int32} {x6 : Int32} {x7 : Int32} {again95 : (Int32 × Int32 × Int32 × zS) → Option (Int32 × zS)} {again115 : (Int32 × Int32 × Int32 × Int32 × zS) → Option (Int32 × zS)} (ihagain95 : ∀ s : Int32 × Int32 × Int32 × zS, s.2.2.2.2.1 = L → Pt (again95 s) (fun r => r.2.2.1 = L)) (ihagain115 : ∀ s : Int32 × Int32 × Int32 × Int32 × zS, s.2.2.2.2.2.1 = L → Pt (again115 s) (fun r => r.2.2.1 = L)) {s : Int32 × Int32 × Int32 × Int32 × zS} (hj : s.2.2.2.2.2.1 = L) : Pt (F_X12_packs_115 N x0 x2 x3 x4 x5 x6 x7 again95 again115 s) (fun r => r.2.2.1 = L) := by
  obtain ⟨x8, x9, x10, x11, σ⟩ := s
  rw [F_X12_packs_115.eq_1]
  exact pt_if (fun _ => pt_if (fun _ => (jJ_X12_packs_199 ihagain95 hj)) (fun _ => (jJ_X12_packs_199 ihagain95 hj))) (fun _ => pt_if (fun _ => (ihagain115 _ hj)) (fun _ => pt_if (fun _ => pj_a (fun _ => pj_a (fun _ => (ihagain115 _ hj)))) (fun _ => pj_a (fun _ => pj_a (fun _ => pt_if (fun _ => pj_a (fun _ => pj_a (fun _ => (ihagain115 _ hj)))) (fun _ => pj_a (fun _ => pj_a (fun _ => (ihagain115 _ hj)))))))))
theorem jF_X12_packs_95 {x0 : Nat} {x2 : Int32} {x3 : Int32} {x4 : Int32} {again95 : (Int32 × Int32 × Int32 × zS) → Option (Int32 × zS)} (ihagain95 : ∀ s : Int32 × Int32 × Int32 × zS, s.2.2.2.2.1 = L → Pt (again95 s) (fun r => r.2.2.1 = L)) {s : Int32 × Int32 × Int32 × zS} (hj : s.2.2.2.2.1 = L) : Pt (F_X12_packs_95 N x0 x2 x3 x4 again95 s) (fun r => r.2.2.1 = L) := by
  obtain ⟨x5, x6, x7, σ⟩ := s
  rw [F_X12_packs_95.eq_1]
  exact pt_if (fun _ => pt_if (fun _ => pt_some hj) (fun _ => pt_some hj)) (fun _ => pt_lp (fun s => s.2.2.2.2.2.1 = L) (fun again s hI ih => jF_X12_packs_115 ihagain95 ih hI) N _ hj)
theorem jF_X12_packs_48 {x0 : Nat} {x1 : Int32} {x2 : Int32} {x3 : Int32} {again48 : (Int32 × Int32 × zS) → Option (Int32 × zS)} (ihagain48 : ∀ s : Int32 × Int32 × zS, s.2.2.2.1 = L → Pt (again48 s) (fun r => r.2.2.1 = L)) {s : Int32 × Int32 × zS} (hj : s.2.2.2.1 = L) : Pt (F_X12_packs_48 N x0 x1 x2 x3 again48 s) (fun r => r.2.2.1 = L) := by
  obtain ⟨x4, x5, σ⟩ := s
  rw [F_X12_packs_48.eq_1]
  exact pt_if (fun _ => pt_lp (fun s => s.2.2.2.2.1 = L) (fun again s hI ih => jF_X12_packs_95 ih hI) N _ hj) (fun _ => pj_a (fun _ => pj_a (fun _ => pt_zb (jf_X12_nthOf hj) (fun _ _ h1 => pj_s (j_sI h1) (fun _ h2 => pj_a (fun _ => pj_a (fun _ => (ihagain48 _ h2))))))))
theorem jf_X12_packs {x0 : Nat} {x1 : Int32} {x2 : Int32} {σ : zS}  (hj : σ.2.1 = L) : Pt (f_X12_packs N x0 x1 x2 σ) (fun r => r.2.2.1 = L) := by
  rw [f_X12_packs.eq_1]
  exact pj_a (fun _ => pt_zb (jf_X12_isRegister hj) (fun _ _ h1 => pt_if (fun _ => pt_some h1) (fun _ => pt_zb (jf_X12_in h1) (fun _ _ h2 => pt_if (fun _ => pt_some h2) (fun _ => pj_a (fun _ => pt_zb (jf_X12_sizeOf h2) (fun _ _ h3 => pt_if (fun _ => pt_some h3) (fun _ => pt_if (fun _ => pt_lp (fun s => s.2.2.2.1 = L) (fun again s hI ih => jF_X12_packs_48 ih hI) N _ h3) (fun _ => pt_some h3)))))))))
theorem jF_X12_takesOrder_2 {x0 : Nat} {again2 : (Int32 × zS) → Option (Unit × zS)} (ihagain2 : ∀ s : Int32 × zS, s.2.2.1 = L → Pt (again2 s) (fun r => r.2.2.1 = L)) {s : Int32 × zS} (hj : s.2.2.1 = L) : Pt (F_X12_takesOrder_2 N x0 again2 s) (fun r => r.2.2.1 = L) := by
  obtain ⟨x1, σ⟩ := s
  rw [F_X12_takesOrder_2.eq_1]
  exact pt_if (fun _ => pt_some hj) (fun _ => pj_a (fun _ => pj_a (fun _ => pj_a (fun _ => pj_s (j_sI hj) (fun _ h1 => (ihagain2 _ h1))))))
theorem jf_X12_takesOrder {x0 : Nat} {σ : zS}  (hj : σ.2.1 = L) : Pt (f_X12_takesOrder N x0 σ) (fun r => r.2.2.1 = L) := by
  rw [f_X12_takesOrder.eq_1]
  exact pt_lp (fun s => s.2.2.1 = L) (fun again s hI ih => jF_X12_takesOrder_2 ih hI) N _ hj
theorem jF_X12_spotOf_4 {x0 : Nat} {x1 : Int32} {again4 : (Int32 × Int32 × zS) → Option (Int32 × zS)} (ihagain4 : ∀ s : Int32 × Int32 × zS, s.2.2.2.1 = L → Pt (again4 s) (fun r => r.2.2.1 = L)) {s : Int32 × Int32 × zS} (hj : s.2.2.2.1 = L) : Pt (F_X12_spotOf_4 N x0 x1 again4 s) (fun r => r.2.2.1 = L) := by
  obtain ⟨x2, x3, σ⟩ := s
  rw [F_X12_spotOf_4.eq_1]
  exact pj_a (fun _ => pj_a (fun _ => pt_if (fun _ => pt_some hj) (fun _ => pj_a (fun _ => pj_a (fun _ => (ihagain4 _ hj))))))
theorem jf_X12_spotOf {x0 : Nat} {x1 : Int32} {σ : zS}  (hj : σ.2.1 = L) : Pt (f_X12_spotOf N x0 x1 σ) (fun r => r.2.2.1 = L) := by
  rw [f_X12_spotOf.eq_1]
  exact pt_lp (fun s => s.2.2.2.1 = L) (fun again s hI ih => jF_X12_spotOf_4 ih hI) N _ hj
theorem jF_X12_laysOut_2 {x0 : Nat} {x1 : Int32} {again2 : (Int32 × zS) → Option (Unit × zS)} (ihagain2 : ∀ s : Int32 × zS, s.2.2.1 = L → Pt (again2 s) (fun r => r.2.2.1 = L)) {s : Int32 × zS} (hj : s.2.2.1 = L) : Pt (F_X12_laysOut_2 N x0 x1 again2 s) (fun r => r.2.2.1 = L) := by
  obtain ⟨x2, σ⟩ := s
  rw [F_X12_laysOut_2.eq_1]
  exact pj_a (fun _ => pt_zb (jf_X12_many hj) (fun _ _ h1 => pt_if (fun _ => pt_some h1) (fun _ => pj_a (fun _ => pj_a (fun _ => pt_zb (jf_X12_spotOf h1) (fun _ _ h2 => pj_a (fun _ => pt_zb (jf_X12_of h2) (fun _ _ h3 => pj_s (j_sI h3) (fun _ h4 => (ihagain2 _ h4))))))))))
theorem jf_X12_laysOut {x0 : Nat} {x1 : Int32} {σ : zS}  (hj : σ.2.1 = L) : Pt (f_X12_laysOut N x0 x1 σ) (fun r => r.2.2.1 = L) := by
  rw [f_X12_laysOut.eq_1]
  exact pt_lp (fun s => s.2.2.1 = L) (fun again s hI ih => jF_X12_laysOut_2 ih hI) N _ hj
theorem jJ_X12_isKnown_63 {again2 : (Int32 × zS) → Option (Int32 × zS)} {x0 : Nat} {x1 : Int32} {x2 : Int32} {x3 : Int32} {x4 : Int32} {σ : zS} (ihagain2 : ∀ s : Int32 × zS, s.2.2.1 = L → Pt (again2 s) (fun r => r.2.2.1 = L)) (hj : σ.2.1 = L) : Pt (J_X12_isKnown_63 N again2 x0 x1 x2 x3 x4 σ) (fun r => r.2.2.1 = L) := by
  rw [J_X12_isKnown_63.eq_1]
  exact pt_if (fun _ => (ihagain2 _ hj)) (fun _ => pt_rZ hj)
theorem jF_X12_isKnown_16 {x0 : Nat} {x1 : Int32} {x2 : Int32} {x3 : Int32} {again2 : (Int32 × zS) → Option (Int32 × zS)} {again16 : (Int32 × Int32 × zS) → Option (Int32 × zS)} (ihagain2 : ∀ s : Int32 × zS, s.2.2.1 = L → Pt (again2 s) (fun r => r.2.2.1 = L)) (ihagain16 : ∀ s : Int32 × Int32 × zS, s.2.2.2.1 = L → Pt (again16 s) (fun r => r.2.2.1 = L)) {s : Int32 × Int32 × zS} (hj : s.2.2.2.1 = L) : Pt (F_X12_isKnown_16 N x0 x1 x2 x3 again2 again16 s) (fun r => r.2.2.1 = L) := by
  obtain ⟨x4, x5, σ⟩ := s
  rw [F_X12_isKnown_16.eq_1]
  exact pt_if (fun _ => (jJ_X12_isKnown_63 ihagain2 hj)) (fun _ => pt_if (fun _ => (jJ_X12_isKnown_63 ihagain2 hj)) (fun _ => pj_a (fun _ => pj_a (fun _ => pj_a (fun _ => pj_a (fun _ => pt_if (fun _ => (ihagain16 _ hj)) (fun _ => (ihagain16 _ hj))))))))
theorem jF_X12_isKnown_2 {x0 : Nat} {x1 : Int32} {x2 : Int32} {again2 : (Int32 × zS) → Option (Int32 × zS)} (ihagain2 : ∀ s : Int32 × zS, s.2.2.1 = L → Pt (again2 s) (fun r => r.2.2.1 = L)) {s : Int32 × zS} (hj : s.2.2.1 = L) : Pt (F_X12_isKnown_2 N x0 x1 x2 again2 s) (fun r => r.2.2.1 = L) := by
  obtain ⟨x3, σ⟩ := s
  rw [F_X12_isKnown_2.eq_1]
  exact pj_a (fun _ => pt_if (fun _ => pt_rZ hj) (fun _ => pt_lp (fun s => s.2.2.2.1 = L) (fun again s hI ih => jF_X12_isKnown_16 ihagain2 ih hI) N _ hj))
theorem jf_X12_isKnown {x0 : Nat} {x1 : Int32} {x2 : Int32} {σ : zS}  (hj : σ.2.1 = L) : Pt (f_X12_isKnown N x0 x1 x2 σ) (fun r => r.2.2.1 = L) := by
  rw [f_X12_isKnown.eq_1]
  exact pt_lp (fun s => s.2.2.1 = L) (fun again s hI ih => jF_X12_isKnown_2 ih hI) N _ hj
theorem jF_X12_adds_73 {x0 : Nat} {x2 : Int32} {x3 : Int32} {again9 : (Int32 × zS) → Option (Unit × zS)} {again73 : (Int32 × zS) → Option (Unit × zS)} (ihagain9 : ∀ s : Int32 × zS, s.2.2.1 = L → Pt (again9 s) (fun r => r.2.2.1 = L)) (ihagain73 : ∀ s : Int32 × zS, s.2.2.1 = L → Pt (again73 s) (fun r => r.2.2.1 = L)) {s : Int32 × zS} (hj : s.2.2.1 = L) : Pt (F_X12_adds_73 N x0 x2 x3 again9 again73 s) (fun r => r.2.2.1 = L) := by
  obtain ⟨x5, σ⟩ := s
  rw [F_X12_adds_73.eq_1]
  exact pt_if (fun _ => pj_a (fun _ => pj_s (j_pI hj) (fun _ h1 => (ihagain9 _ h1)))) (fun _ => pj_a (fun _ => pj_a (fun _ => pj_a (fun _ => pj_a (fun _ => pj_s (j_sI hj) (fun _ h2 => (ihagain73 _ h2)))))))
theorem jJ_X12_adds_53 {again9 : (Int32 × zS) → Option (Unit × zS)} {x0 : Nat} {x2 : Int32} {x3 : Int32} {x4 : Int32} {σ : zS} (ihagain9 : ∀ s : Int32 × zS, s.2.2.1 = L → Pt (again9 s) (fun r => r.2.2.1 = L)) (hj : σ.2.1 = L) : Pt (J_X12_adds_53 N again9 x0 x2 x3 x4 σ) (fun r => r.2.2.1 = L) := by
  rw [J_X12_adds_53.eq_1]
  exact pt_if (fun _ => (ihagain9 _ hj)) (fun _ => pj_a (fun _ => pt_zb (jf_X12_isKnown hj) (fun _ _ h1 => pt_if (fun _ => pt_lp (fun s => s.2.2.1 = L) (fun again s hI ih => jF_X12_adds_73 ihagain9 ih hI) N _ h1) (fun _ => (ihagain9 _ h1)))))
theorem jF_X12_adds_25 {x0 : Nat} {x2 : Int32} {x3 : Int32} {again9 : (Int32 × zS) → Option (Unit × zS)} {again25 : (Int32 × Int32 × zS) → Option (Unit × zS)} (ihagain9 : ∀ s : Int32 × zS, s.2.2.1 = L → Pt (again9 s) (fun r => r.2.2.1 = L)) (ihagain25 : ∀ s : Int32 × Int32 × zS, s.2.2.2.1 = L → Pt (again25 s) (fun r => r.2.2.1 = L)) {s : Int32 × Int32 × zS} (hj : s.2.2.2.1 = L) : Pt (F_X12_adds_25 N x0 x2 x3 again9 again25 s) (fun r => r.2.2.1 = L) := by
  obtain ⟨x4, x5, σ⟩ := s
  rw [F_X12_adds_25.eq_1]
  exact pt_if (fun _ => (jJ_X12_adds_53 ihagain9 hj)) (fun _ => pt_if (fun _ => pj_a (fun _ => pj_a (fun _ => (ihagain25 _ hj)))) (fun _ => (jJ_X12_adds_53 ihagain9 hj)))
theorem jF_X12_adds_9 {x0 : Nat} {x2 : Int32} {again9 : (Int32 × zS) → Option (Unit × zS)} (ihagain9 : ∀ s : Int32 × zS, s.2.2.1 = L → Pt (again9 s) (fun r => r.2.2.1 = L)) {s : Int32 × zS} (hj : s.2.2.1 = L) : Pt (F_X12_adds_9 N x0 x2 again9 s) (fun r => r.2.2.1 = L) := by
  obtain ⟨x3, σ⟩ := s
  rw [F_X12_adds_9.eq_1]
  exact pj_a (fun _ => pt_zb (jf_X12_many hj) (fun _ _ h1 => pt_if (fun _ => pt_some h1) (fun _ => pj_a (fun _ => pt_lp (fun s => s.2.2.2.1 = L) (fun again s hI ih => jF_X12_adds_25 ihagain9 ih hI) N _ h1))))
theorem jf_X12_adds {x0 : Nat} {x1 : Int32} {σ : zS}  (hj : σ.2.1 = L) : Pt (f_X12_adds N x0 x1 σ) (fun r => r.2.2.1 = L) := by
  rw [f_X12_adds.eq_1]
  exact pj_a (fun _ => pt_zb (jf_X12_many hj) (fun _ _ h1 => pt_lp (fun s => s.2.2.1 = L) (fun again s hI ih => jF_X12_adds_9 ih hI) N _ h1))
theorem jf_X12_wideOf {x0 : Nat} {x1 : Int32} {x2 : Int32} {σ : zS}  (hj : σ.2.1 = L) : Pt (f_X12_wideOf N x0 x1 x2 σ) (fun r => r.2.2.1 = L) := by
  rw [f_X12_wideOf.eq_1]
  exact pj_a (fun _ => pt_zb (jf_X12_laysOut hj) (fun _ _ h1 => pj_s (j_pI h1) (fun _ h2 => pj_a (fun _ => pt_zb (jf_X12_adds h2) (fun _ _ h3 => pj_a (fun _ => pt_some h3))))))
theorem jF_X12_nodesOf_4 {x0 : Nat} {x1 : Int32} {again4 : (Int32 × Int32 × zS) → Option (Int32 × zS)} (ihagain4 : ∀ s : Int32 × Int32 × zS, s.2.2.2.1 = L → Pt (again4 s) (fun r => r.2.2.1 = L)) {s : Int32 × Int32 × zS} (hj : s.2.2.2.1 = L) : Pt (F_X12_nodesOf_4 N x0 x1 again4 s) (fun r => r.2.2.1 = L) := by
  obtain ⟨x2, x3, σ⟩ := s
  rw [F_X12_nodesOf_4.eq_1]
  exact pj_a (fun _ => pj_a (fun _ => pt_if (fun _ => pt_some hj) (fun _ => pj_a (fun _ => pt_zb (jf_X12_wideOf hj) (fun _ _ h1 => (ihagain4 _ h1))))))
theorem jf_X12_nodesOf {x0 : Nat} {x1 : Int32} {σ : zS}  (hj : σ.2.1 = L) : Pt (f_X12_nodesOf N x0 x1 σ) (fun r => r.2.2.1 = L) := by
  rw [f_X12_nodesOf.eq_1]
  exact pt_lp (fun s => s.2.2.2.1 = L) (fun again s hI ih => jF_X12_nodesOf_4 ih hI) N _ hj
theorem jf_X12_nodes {x0 : Nat} {x1 : Int32} {σ : zS}  (hj : σ.2.1 = L) : Pt (f_X12_nodes N x0 x1 σ) (fun r => r.2.2.1 = L) := by
  rw [f_X12_nodes.eq_1]
  exact pj_a (fun _ => pt_zb (jf_X12_isRegister hj) (fun _ _ h1 => pt_if (fun _ => pt_some h1) (fun _ => pj_a (fun _ => pt_zb (jf_X12_takesOrder h1) (fun _ _ h2 => pj_a (fun _ => pt_zb (jf_X12_nodesOf h2) (fun _ _ h3 => pt_some h3)))))))
theorem jF_X12_netOf_25 {x0 : Nat} {x1 : Int32} {x2 : Int32} {again8 : (Int32 × Int32 × zS) → Option (Int32 × zS)} {again25 : (Int32 × zS) → Option (Int32 × zS)} (ihagain8 : ∀ s : Int32 × Int32 × zS, s.2.2.2.1 = L → Pt (again8 s) (fun r => r.2.2.1 = L)) (ihagain25 : ∀ s : Int32 × zS, s.2.2.1 = L → Pt (again25 s) (fun r => r.2.2.1 = L)) {s : Int32 × zS} (hj : s.2.2.1 = L) : Pt (F_X12_netOf_25 N x0 x1 x2 again8 again25 s) (fun r => r.2.2.1 = L) := by
  obtain ⟨x3, σ⟩ := s
  rw [F_X12_netOf_25.eq_1]
  exact pt_if (fun _ => pj_a (fun _ => (ihagain8 _ hj))) (fun _ => pj_a (fun _ => pt_zb (jf_X12_laysOut hj) (fun _ _ h1 => pj_a (fun _ => pt_zb (jf_X12_adds h1) (fun _ _ h2 => (ihagain25 _ h2))))))
theorem jF_X12_netOf_8 {x0 : Nat} {again8 : (Int32 × Int32 × zS) → Option (Int32 × zS)} (ihagain8 : ∀ s : Int32 × Int32 × zS, s.2.2.2.1 = L → Pt (again8 s) (fun r => r.2.2.1 = L)) {s : Int32 × Int32 × zS} (hj : s.2.2.2.1 = L) : Pt (F_X12_netOf_8 N x0 again8 s) (fun r => r.2.2.1 = L) := by
  obtain ⟨x1, x2, σ⟩ := s
  rw [F_X12_netOf_8.eq_1]
  exact pj_a (fun _ => pj_a (fun _ => pt_if (fun _ => pt_some hj) (fun _ => pj_s (j_pI hj) (fun _ h1 => pt_lp (fun s => s.2.2.1 = L) (fun again s hI ih => jF_X12_netOf_25 ihagain8 ih hI) N _ h1))))
theorem jf_X12_netOf {x0 : Nat} {σ : zS}  (hj : σ.2.1 = L) : Pt (f_X12_netOf N x0 σ) (fun r => r.2.2.1 = L) := by
  rw [f_X12_netOf.eq_1]
  exact pj_a (fun _ => pt_zb (jf_X12_takesOrder hj) (fun _ _ h1 => pt_lp (fun s => s.2.2.2.1 = L) (fun again s hI ih => jF_X12_netOf_8 ih hI) N _ h1))
theorem jf_X12_net {x0 : Nat} {σ : zS}  (hj : σ.2.1 = L) : Pt (f_X12_net N x0 σ) (fun r => r.2.2.1 = L) := by
  rw [f_X12_net.eq_1]
  exact pj_a (fun _ => pt_zb (jf_X12_isWorld hj) (fun _ _ h1 => pt_if (fun _ => pt_some h1) (fun _ => pj_a (fun _ => pt_zb (jf_X12_netOf h1) (fun _ _ h2 => pt_some h2)))))
theorem jf_X12_wide {x0 : Nat} {x1 : Int32} {x2 : Int32} {σ : zS}  (hj : σ.2.1 = L) : Pt (f_X12_wide N x0 x1 x2 σ) (fun r => r.2.2.1 = L) := by
  rw [f_X12_wide.eq_1]
  exact pj_a (fun _ => pt_zb (jf_X12_isRegister hj) (fun _ _ h1 => pt_if (fun _ => pt_some h1) (fun _ => pj_a (fun _ => pt_zb (jf_X12_isName h1) (fun _ _ h2 => pt_if (fun _ => pt_some h2) (fun _ => pj_a (fun _ => pt_zb (jf_X12_takesOrder h2) (fun _ _ h3 => pj_a (fun _ => pt_zb (jf_X12_wideOf h3) (fun _ _ h4 => pt_some h4))))))))))
theorem jf_X12_order {x0 : Nat} {x1 : Int32} {σ : zS}  (hj : σ.2.1 = L) : Pt (f_X12_order N x0 x1 σ) (fun r => r.2.2.1 = L) := by
  rw [f_X12_order.eq_1]
  exact pj_a (fun _ => pt_zb (jf_X12_isName hj) (fun _ _ h1 => pt_if (fun _ => pt_some h1) (fun _ => pj_a (fun _ => pj_a (fun _ => pt_some h1)))))
theorem jf_X12_swap {x0 : Nat} {x1 : Int32} {σ : zS}  (hj : σ.2.1 = L) : Pt (f_X12_swap N x0 x1 σ) (fun r => r.2.2.1 = L) := by
  rw [f_X12_swap.eq_1]
  exact pj_a (fun _ => pt_zb (jf_X12_isName hj) (fun _ _ h1 => pt_if (fun _ => pt_some h1) (fun _ => pj_a (fun _ => pt_zb (jf_X12_isName h1) (fun _ _ h2 => pt_if (fun _ => pt_some h2) (fun _ => pj_a (fun _ => pj_a (fun _ => pj_a (fun _ => pj_a (fun _ => pj_a (fun _ => pj_s (j_sI h2) (fun _ h3 => pj_a (fun _ => pj_s (j_sI h3) (fun _ h4 => pj_a (fun _ => pt_zb (jf_X12_netOf h4) (fun _ _ h5 => pt_some h5))))))))))))))))
theorem jF_X12_placeOf_2 {x0 : Nat} {x1 : Int32} {again2 : (Int32 × zS) → Option (Int32 × zS)} (ihagain2 : ∀ s : Int32 × zS, s.2.2.1 = L → Pt (again2 s) (fun r => r.2.2.1 = L)) {s : Int32 × zS} (hj : s.2.2.1 = L) : Pt (F_X12_placeOf_2 N x0 x1 again2 s) (fun r => r.2.2.1 = L) := by
  obtain ⟨x2, σ⟩ := s
  rw [F_X12_placeOf_2.eq_1]
  exact pj_a (fun _ => pj_a (fun _ => pt_if (fun _ => pt_some hj) (fun _ => (ihagain2 _ hj))))
theorem jf_X12_placeOf {x0 : Nat} {x1 : Int32} {σ : zS}  (hj : σ.2.1 = L) : Pt (f_X12_placeOf N x0 x1 σ) (fun r => r.2.2.1 = L) := by
  rw [f_X12_placeOf.eq_1]
  exact pt_lp (fun s => s.2.2.1 = L) (fun again s hI ih => jF_X12_placeOf_2 ih hI) N _ hj
theorem jF_X12_goesTo_37 {x0 : Nat} {x1 : Int32} {x2 : Int32} {again37 : (Int32 × zS) → Option (Unit × zS)} (ihagain37 : ∀ s : Int32 × zS, s.2.2.1 = L → Pt (again37 s) (fun r => r.2.2.1 = L)) {s : Int32 × zS} (hj : s.2.2.1 = L) : Pt (F_X12_goesTo_37 N x0 x1 x2 again37 s) (fun r => r.2.2.1 = L) := by
  obtain ⟨x3, σ⟩ := s
  rw [F_X12_goesTo_37.eq_1]
  exact pt_if (fun _ => pj_a (fun _ => pj_s (j_sI hj) (fun _ h1 => pt_some h1))) (fun _ => pj_a (fun _ => pj_a (fun _ => pj_a (fun _ => pj_s (j_sI hj) (fun _ h2 => (ihagain37 _ h2))))))
theorem jF_X12_goesTo_6 {x0 : Nat} {x1 : Int32} {x2 : Int32} {again6 : (Int32 × zS) → Option (Unit × zS)} (ihagain6 : ∀ s : Int32 × zS, s.2.2.1 = L → Pt (again6 s) (fun r => r.2.2.1 = L)) {s : Int32 × zS} (hj : s.2.2.1 = L) : Pt (F_X12_goesTo_6 N x0 x1 x2 again6 s) (fun r => r.2.2.1 = L) := by
  obtain ⟨x3, σ⟩ := s
  rw [F_X12_goesTo_6.eq_1]
  exact pt_if (fun _ => pt_lp (fun s => s.2.2.1 = L) (fun again s hI ih => jF_X12_goesTo_37 ih hI) N _ hj) (fun _ => pj_a (fun _ => pj_a (fun _ => pj_a (fun _ => pj_s (j_sI hj) (fun _ h1 => (ihagain6 _ h1))))))
theorem jf_X12_goesTo {x0 : Nat} {x1 : Int32} {x2 : Int32} {σ : zS}  (hj : σ.2.1 = L) : Pt (f_X12_goesTo N x0 x1 x2 σ) (fun r => r.2.2.1 = L) := by
  rw [f_X12_goesTo.eq_1]
  exact pj_a (fun _ => pt_zb (jf_X12_placeOf hj) (fun _ _ h1 => pt_lp (fun s => s.2.2.1 = L) (fun again s hI ih => jF_X12_goesTo_6 ih hI) N _ h1))
theorem jf_X12_move {x0 : Nat} {x1 : Int32} {x2 : Int32} {σ : zS}  (hj : σ.2.1 = L) : Pt (f_X12_move N x0 x1 x2 σ) (fun r => r.2.2.1 = L) := by
  rw [f_X12_move.eq_1]
  exact pj_a (fun _ => pt_zb (jf_X12_isName hj) (fun _ _ h1 => pt_if (fun _ => pt_some h1) (fun _ => pj_a (fun _ => pt_zb (jf_X12_isName h1) (fun _ _ h2 => pt_if (fun _ => pt_some h2) (fun _ => pj_a (fun _ => pt_zb (jf_X12_placeOf h2) (fun _ _ h3 => pj_a (fun _ => pt_zb (jf_X12_goesTo h3) (fun _ _ h4 => pt_some h4))))))))))
theorem jf_X12_trades {x0 : Nat} {x1 : Int32} {x2 : Int32} {σ : zS}  (hj : σ.2.1 = L) : Pt (f_X12_trades N x0 x1 x2 σ) (fun r => r.2.2.1 = L) := by
  rw [f_X12_trades.eq_1]
  exact pj_a (fun _ => pj_a (fun _ => pj_a (fun _ => pj_a (fun _ => pj_a (fun _ => pj_s (j_sI hj) (fun _ h1 => pj_a (fun _ => pj_s (j_sI h1) (fun _ h2 => pt_some h2))))))))
theorem jF_X12_nextOrder_78 {x0 : Nat} {again78 : (Int32 × Int32 × zS) → Option (Int32 × zS)} (ihagain78 : ∀ s : Int32 × Int32 × zS, s.2.2.2.1 = L → Pt (again78 s) (fun r => r.2.2.1 = L)) {s : Int32 × Int32 × zS} (hj : s.2.2.2.1 = L) : Pt (F_X12_nextOrder_78 N x0 again78 s) (fun r => r.2.2.1 = L) := by
  obtain ⟨x4, x5, σ⟩ := s
  rw [F_X12_nextOrder_78.eq_1]
  exact pt_if (fun _ => pt_rZ hj) (fun _ => pj_a (fun _ => pt_zb (jf_X12_trades hj) (fun _ _ h1 => (ihagain78 _ h1))))
theorem jF_X12_nextOrder_41 {x0 : Nat} {x1 : Int32} {x2 : Int32} {again41 : (Int32 × zS) → Option (Int32 × zS)} (ihagain41 : ∀ s : Int32 × zS, s.2.2.1 = L → Pt (again41 s) (fun r => r.2.2.1 = L)) {s : Int32 × zS} (hj : s.2.2.1 = L) : Pt (F_X12_nextOrder_41 N x0 x1 x2 again41 s) (fun r => r.2.2.1 = L) := by
  obtain ⟨x3, σ⟩ := s
  rw [F_X12_nextOrder_41.eq_1]
  exact pj_a (fun _ => pj_a (fun _ => pj_a (fun _ => pj_a (fun _ => pt_if (fun _ => pj_a (fun _ => pt_zb (jf_X12_trades hj) (fun _ _ h1 => pt_lp (fun s => s.2.2.2.1 = L) (fun again s hI ih => jF_X12_nextOrder_78 ih hI) N _ h1))) (fun _ => (ihagain41 _ hj))))))
theorem jJ_X12_nextOrder_31 {x0 : Nat} {x1 : Int32} {x2 : Int32} {σ : zS}  (hj : σ.2.1 = L) : Pt (J_X12_nextOrder_31 N x0 x1 x2 σ) (fun r => r.2.2.1 = L) := by
  rw [J_X12_nextOrder_31.eq_1]
  exact pt_if (fun _ => pt_lp (fun s => s.2.2.1 = L) (fun again s hI ih => jF_X12_nextOrder_41 ih hI) N _ hj) (fun _ => pt_rZ hj)
theorem jF_X12_nextOrder_4 {x0 : Nat} {x1 : Int32} {again4 : (Int32 × zS) → Option (Int32 × zS)} (ihagain4 : ∀ s : Int32 × zS, s.2.2.1 = L → Pt (again4 s) (fun r => r.2.2.1 = L)) {s : Int32 × zS} (hj : s.2.2.1 = L) : Pt (F_X12_nextOrder_4 N x0 x1 again4 s) (fun r => r.2.2.1 = L) := by
  obtain ⟨x2, σ⟩ := s
  rw [F_X12_nextOrder_4.eq_1]
  exact pt_if (fun _ => (jJ_X12_nextOrder_31 hj)) (fun _ => pj_a (fun _ => pj_a (fun _ => pj_a (fun _ => pj_a (fun _ => pt_if (fun _ => (jJ_X12_nextOrder_31 hj)) (fun _ => (ihagain4 _ hj)))))))
theorem jf_X12_nextOrder {x0 : Nat} {x1 : Int32} {σ : zS}  (hj : σ.2.1 = L) : Pt (f_X12_nextOrder N x0 x1 σ) (fun r => r.2.2.1 = L) := by
  rw [f_X12_nextOrder.eq_1]
  exact pt_lp (fun s => s.2.2.1 = L) (fun again s hI ih => jF_X12_nextOrder_4 ih hI) N _ hj
theorem jF_X12_findsBest_53 {x0 : Nat} {x1 : Int32} {x2 : Int32} {again25 : (Int32 × Int32 × zS) → Option (Int32 × zS)} {again53 : (Int32 × zS) → Option (Int32 × zS)} (ihagain25 : ∀ s : Int32 × Int32 × zS, s.2.2.2.1 = L → Pt (again25 s) (fun r => r.2.2.1 = L)) (ihagain53 : ∀ s : Int32 × zS, s.2.2.1 = L → Pt (again53 s) (fun r => r.2.2.1 = L)) {s : Int32 × zS} (hj : s.2.2.1 = L) : Pt (F_X12_findsBest_53 N x0 x1 x2 again25 again53 s) (fun r => r.2.2.1 = L) := by
  obtain ⟨x5, σ⟩ := s
  rw [F_X12_findsBest_53.eq_1]
  exact pt_if (fun _ => pj_a (fun _ => pj_a (fun _ => pj_a (fun _ => pt_zb (jf_X12_nextOrder hj) (fun _ _ h1 => (ihagain25 _ h1)))))) (fun _ => pj_a (fun _ => pj_a (fun _ => pj_a (fun _ => pj_s (j_sI hj) (fun _ h2 => (ihagain53 _ h2))))))
theorem jJ_X12_findsBest_47 {again25 : (Int32 × Int32 × zS) → Option (Int32 × zS)} {x0 : Nat} {x1 : Int32} {x4 : Int32} {σ : zS} (ihagain25 : ∀ s : Int32 × Int32 × zS, s.2.2.2.1 = L → Pt (again25 s) (fun r => r.2.2.1 = L)) (hj : σ.2.1 = L) : Pt (J_X12_findsBest_47 N again25 x0 x1 x4 σ) (fun r => r.2.2.1 = L) := by
  rw [J_X12_findsBest_47.eq_1]
  exact pt_lp (fun s => s.2.2.1 = L) (fun again s hI ih => jF_X12_findsBest_53 ihagain25 ih hI) N _ hj
theorem jF_X12_findsBest_25 {x0 : Nat} {x1 : Int32} {again25 : (Int32 × Int32 × zS) → Option (Int32 × zS)} (ihagain25 : ∀ s : Int32 × Int32 × zS, s.2.2.2.1 = L → Pt (again25 s) (fun r => r.2.2.1 = L)) {s : Int32 × Int32 × zS} (hj : s.2.2.2.1 = L) : Pt (F_X12_findsBest_25 N x0 x1 again25 s) (fun r => r.2.2.1 = L) := by
  obtain ⟨x2, x3, σ⟩ := s
  rw [F_X12_findsBest_25.eq_1]
  exact pt_if (fun _ => pt_some hj) (fun _ => pj_a (fun _ => pt_zb (jf_X12_nodesOf hj) (fun _ _ h1 => pt_if (fun _ => (jJ_X12_findsBest_47 ihagain25 h1)) (fun _ => pt_if (fun _ => pj_a (fun _ => pj_a (fun _ => pj_a (fun _ => pt_zb (jf_X12_nextOrder h1) (fun _ _ h2 => (ihagain25 _ h2)))))) (fun _ => (jJ_X12_findsBest_47 ihagain25 h1))))))
theorem jF_X12_findsBest_4 {x0 : Nat} {x1 : Int32} {x2 : Int32} {again4 : (Int32 × zS) → Option (Int32 × zS)} (ihagain4 : ∀ s : Int32 × zS, s.2.2.1 = L → Pt (again4 s) (fun r => r.2.2.1 = L)) {s : Int32 × zS} (hj : s.2.2.1 = L) : Pt (F_X12_findsBest_4 N x0 x1 x2 again4 s) (fun r => r.2.2.1 = L) := by
  obtain ⟨x3, σ⟩ := s
  rw [F_X12_findsBest_4.eq_1]
  exact pt_if (fun _ => pt_lp (fun s => s.2.2.2.1 = L) (fun again s hI ih => jF_X12_findsBest_25 ih hI) N _ hj) (fun _ => pj_a (fun _ => pj_s (j_sI hj) (fun _ h1 => (ihagain4 _ h1))))
theorem jf_X12_findsBest {x0 : Nat} {x1 : Int32} {σ : zS}  (hj : σ.2.1 = L) : Pt (f_X12_findsBest N x0 x1 σ) (fun r => r.2.2.1 = L) := by
  rw [f_X12_findsBest.eq_1]
  exact pt_lp (fun s => s.2.2.1 = L) (fun again s hI ih => jF_X12_findsBest_4 ih hI) N _ hj
theorem jf_X12_best {x0 : Nat} {x1 : Int32} {x2 : Int32} {σ : zS}  (hj : σ.2.1 = L) : Pt (f_X12_best N x0 x1 x2 σ) (fun r => r.2.2.1 = L) := by
  rw [f_X12_best.eq_1]
  exact pj_a (fun _ => pt_zb (jf_X12_isRegister hj) (fun _ _ h1 => pt_if (fun _ => pt_some h1) (fun _ => pt_zb (jf_X12_in h1) (fun _ _ h2 => pt_if (fun _ => pt_some h2) (fun _ => pj_a (fun _ => pj_a (fun _ => pt_if (fun _ => pj_a (fun _ => pt_zb (jf_X12_findsBest h2) (fun _ _ h3 => pt_if (fun _ => pt_some h3) (fun _ => pj_a (fun _ => pj_a (fun _ => pt_if (fun _ => pj_a (fun _ => pj_a (fun _ => pt_some h3))) (fun _ => pt_some h3))))))) (fun _ => pt_some h2))))))))
theorem jF_X12_sift_31 {x0 : Nat} {x1 : Int32} {x3 : Int32} {again15 : (Int32 × Int32 × zS) → Option (Int32 × zS)} {again31 : (Int32 × Int32 × Int32 × zS) → Option (Int32 × zS)} (ihagain15 : ∀ s : Int32 × Int32 × zS, s.2.2.2.1 = L → Pt (again15 s) (fun r => r.2.2.1 = L)) (ihagain31 : ∀ s : Int32 × Int32 × Int32 × zS, s.2.2.2.2.1 = L → Pt (again31 s) (fun r => r.2.2.1 = L)) {s : Int32 × Int32 × Int32 × zS} (hj : s.2.2.2.2.1 = L) : Pt (F_X12_sift_31 N x0 x1 x3 again15 again31 s) (fun r => r.2.2.1 = L) := by
  obtain ⟨x2, x4, x5, σ⟩ := s
  rw [F_X12_sift_31.eq_1]
  exact pj_a (fun _ => pj_a (fun _ => pt_if (fun _ => pj_a (fun _ => pt_zb (jf_X12_goesTo hj) (fun _ _ h1 => (ihagain15 _ h1)))) (fun _ => pj_a (fun _ => pt_zb (jf_X12_goesTo hj) (fun _ _ h2 => pj_a (fun _ => pt_zb (jf_X12_takesOrder h2) (fun _ _ h3 => pj_a (fun _ => pt_zb (jf_X12_nodesOf h3) (fun _ _ h4 => pt_if (fun _ => (ihagain31 _ h4)) (fun _ => pt_if (fun _ => (ihagain31 _ h4)) (fun _ => (ihagain31 _ h4))))))))))))
theorem jF_X12_sift_15 {x0 : Nat} {x1 : Int32} {again15 : (Int32 × Int32 × zS) → Option (Int32 × zS)} (ihagain15 : ∀ s : Int32 × Int32 × zS, s.2.2.2.1 = L → Pt (again15 s) (fun r => r.2.2.1 = L)) {s : Int32 × Int32 × zS} (hj : s.2.2.2.1 = L) : Pt (F_X12_sift_15 N x0 x1 again15 s) (fun r => r.2.2.1 = L) := by
  obtain ⟨x2, x3, σ⟩ := s
  rw [F_X12_sift_15.eq_1]
  exact pj_a (fun _ => pj_a (fun _ => pt_if (fun _ => pt_some hj) (fun _ => pt_lp (fun s => s.2.2.2.2.1 = L) (fun again s hI ih => jF_X12_sift_31 ihagain15 ih hI) N _ hj)))
theorem jf_X12_sift {x0 : Nat} {x1 : Int32} {σ : zS}  (hj : σ.2.1 = L) : Pt (f_X12_sift N x0 x1 σ) (fun r => r.2.2.1 = L) := by
  rw [f_X12_sift.eq_1]
  exact pj_a (fun _ => pt_zb (jf_X12_isRegister hj) (fun _ _ h1 => pt_if (fun _ => pt_some h1) (fun _ => pt_lp (fun s => s.2.2.2.1 = L) (fun again s hI ih => jF_X12_sift_15 ih hI) N _ h1)))
theorem jf_X12_isCrossing {x0 : Nat} {x1 : Int32} {σ : zS}  (hj : σ.2.1 = L) : Pt (f_X12_isCrossing N x0 x1 σ) (fun r => r.2.2.1 = L) := by
  rw [f_X12_isCrossing.eq_1]
  exact pj_a (fun _ => pt_zb (jf_X12_isWorld hj) (fun _ _ h1 => pt_if (fun _ => pt_rZ h1) (fun _ => pt_zb (jf_X12_in h1) (fun _ _ h2 => pt_if (fun _ => pt_rZ h2) (fun _ => pt_rZ h2)))))
theorem jf_X12_one {x0 : Nat} {x1 : Int32} {σ : zS}  (hj : σ.2.1 = L) : Pt (f_X12_one N x0 x1 σ) (fun r => r.2.2.1 = L) := by
  rw [f_X12_one.eq_1]
  exact pj_a (fun _ => pj_a (fun _ => pt_some hj))
theorem jf_X12_other {x0 : Nat} {x1 : Int32} {σ : zS}  (hj : σ.2.1 = L) : Pt (f_X12_other N x0 x1 σ) (fun r => r.2.2.1 = L) := by
  rw [f_X12_other.eq_1]
  exact pj_a (fun _ => pj_a (fun _ => pt_some hj))
theorem jF_X12_fillEnds_23 {x0 : Nat} {x1 : Int32} {again23 : (Int32 × zS) → Option (Unit × zS)} (ihagain23 : ∀ s : Int32 × zS, s.2.2.1 = L → Pt (again23 s) (fun r => r.2.2.1 = L)) {s : Int32 × zS} (hj : s.2.2.1 = L) : Pt (F_X12_fillEnds_23 N x0 x1 again23 s) (fun r => r.2.2.1 = L) := by
  obtain ⟨x2, σ⟩ := s
  rw [F_X12_fillEnds_23.eq_1]
  exact pj_a (fun _ => pj_a (fun _ => pt_if (fun _ => pt_some hj) (fun _ => pj_a (fun _ => pj_a (fun _ => pt_zb (jf_X12_one hj) (fun _ _ h1 => pj_a (fun _ => pj_s (j_sI h1) (fun _ h2 => pj_a (fun _ => pj_a (fun _ => pt_zb (jf_X12_other h2) (fun _ _ h3 => pj_a (fun _ => pj_s (j_sI h3) (fun _ h4 => (ihagain23 _ h4))))))))))))))
theorem jF_X12_fillEnds_2 {x0 : Nat} {x1 : Int32} {again2 : (Int32 × zS) → Option (Unit × zS)} (ihagain2 : ∀ s : Int32 × zS, s.2.2.1 = L → Pt (again2 s) (fun r => r.2.2.1 = L)) {s : Int32 × zS} (hj : s.2.2.1 = L) : Pt (F_X12_fillEnds_2 N x0 x1 again2 s) (fun r => r.2.2.1 = L) := by
  obtain ⟨x2, σ⟩ := s
  rw [F_X12_fillEnds_2.eq_1]
  exact pt_if (fun _ => pt_lp (fun s => s.2.2.1 = L) (fun again s hI ih => jF_X12_fillEnds_23 ih hI) N _ hj) (fun _ => pj_a (fun _ => pj_s (j_sI hj) (fun _ h1 => (ihagain2 _ h1))))
theorem jf_X12_fillEnds {x0 : Nat} {x1 : Int32} {σ : zS}  (hj : σ.2.1 = L) : Pt (f_X12_fillEnds N x0 x1 σ) (fun r => r.2.2.1 = L) := by
  rw [f_X12_fillEnds.eq_1]
  exact pt_lp (fun s => s.2.2.1 = L) (fun again s hI ih => jF_X12_fillEnds_2 ih hI) N _ hj
theorem jF_X12_hangs_17 {x0 : Nat} {x1 : Int32} {x4 : Int32} {again7 : (Int32 × Int32 × zS) → Option (Int32 × zS)} {again17 : (Int32 × Int32 × zS) → Option (Int32 × zS)} (ihagain7 : ∀ s : Int32 × Int32 × zS, s.2.2.2.1 = L → Pt (again7 s) (fun r => r.2.2.1 = L)) (ihagain17 : ∀ s : Int32 × Int32 × zS, s.2.2.2.1 = L → Pt (again17 s) (fun r => r.2.2.1 = L)) {s : Int32 × Int32 × zS} (hj : s.2.2.2.1 = L) : Pt (F_X12_hangs_17 N x0 x1 x4 again7 again17 s) (fun r => r.2.2.1 = L) := by
  obtain ⟨x3, x5, σ⟩ := s
  rw [F_X12_hangs_17.eq_1]
  exact pj_a (fun _ => pj_a (fun _ => pt_if (fun _ => (ihagain7 _ hj)) (fun _ => pt_if (fun _ => pj_a (fun _ => pt_zb (jf_X12_one hj) (fun _ _ h1 => pj_a (fun _ => pt_zb (jf_X12_other h1) (fun _ _ h2 => pt_if (fun _ => pj_a (fun _ => pt_zb (jf_X12_one h2) (fun _ _ h3 => pj_a (fun _ => pt_zb (jf_X12_other h3) (fun _ _ h4 => (ihagain17 _ h4)))))) (fun _ => (ihagain17 _ h2))))))) (fun _ => (ihagain17 _ hj)))))
theorem jF_X12_hangs_7 {x0 : Nat} {x1 : Int32} {again7 : (Int32 × Int32 × zS) → Option (Int32 × zS)} (ihagain7 : ∀ s : Int32 × Int32 × zS, s.2.2.2.1 = L → Pt (again7 s) (fun r => r.2.2.1 = L)) {s : Int32 × Int32 × zS} (hj : s.2.2.2.1 = L) : Pt (F_X12_hangs_7 N x0 x1 again7 s) (fun r => r.2.2.1 = L) := by
  obtain ⟨x3, x4, σ⟩ := s
  rw [F_X12_hangs_7.eq_1]
  exact pt_if (fun _ => pt_some hj) (fun _ => pt_lp (fun s => s.2.2.2.1 = L) (fun again s hI ih => jF_X12_hangs_17 ihagain7 ih hI) N _ hj)
theorem jf_X12_hangs {x0 : Nat} {x1 : Int32} {x2 : Int32} {σ : zS}  (hj : σ.2.1 = L) : Pt (f_X12_hangs N x0 x1 x2 σ) (fun r => r.2.2.1 = L) := by
  rw [f_X12_hangs.eq_1]
  exact pt_lp (fun s => s.2.2.2.1 = L) (fun again s hI ih => jF_X12_hangs_7 ih hI) N _ hj
theorem jJ_X12_isWay_80 {again53 : (Int32 × zS) → Option (Int32 × zS)} {x0 : Nat} {x2 : Int32} {x3 : Int32} {x4 : Int32} {x5 : Int32} {σ : zS} (ihagain53 : ∀ s : Int32 × zS, s.2.2.1 = L → Pt (again53 s) (fun r => r.2.2.1 = L)) (hj : σ.2.1 = L) : Pt (J_X12_isWay_80 N again53 x0 x2 x3 x4 x5 σ) (fun r => r.2.2.1 = L) := by
  rw [J_X12_isWay_80.eq_1]
  exact pt_if (fun _ => (ihagain53 _ hj)) (fun _ => pt_if (fun _ => (ihagain53 _ hj)) (fun _ => pj_a (fun _ => pj_a (fun _ => pt_if (fun _ => (ihagain53 _ hj)) (fun _ => pj_a (fun _ => pj_a (fun _ => pt_if (fun _ => (ihagain53 _ hj)) (fun _ => pt_rZ hj))))))))
theorem jF_X12_isWay_53 {x0 : Nat} {x2 : Int32} {x3 : Int32} {x4 : Int32} {again53 : (Int32 × zS) → Option (Int32 × zS)} (ihagain53 : ∀ s : Int32 × zS, s.2.2.1 = L → Pt (again53 s) (fun r => r.2.2.1 = L)) {s : Int32 × zS} (hj : s.2.2.1 = L) : Pt (F_X12_isWay_53 N x0 x2 x3 x4 again53 s) (fun r => r.2.2.1 = L) := by
  obtain ⟨x5, σ⟩ := s
  rw [F_X12_isWay_53.eq_1]
  exact pt_if (fun _ => pt_rZ hj) (fun _ => pt_if (fun _ => pj_a (fun _ => pj_a (fun _ => pt_if (fun _ => pt_rZ hj) (fun _ => (jJ_X12_isWay_80 ihagain53 hj))))) (fun _ => (jJ_X12_isWay_80 ihagain53 hj)))
theorem jf_X12_isWay {x0 : Nat} {x1 : Int32} {x2 : Int32} {x3 : Int32} {σ : zS}  (hj : σ.2.1 = L) : Pt (f_X12_isWay N x0 x1 x2 x3 σ) (fun r => r.2.2.1 = L) := by
  rw [f_X12_isWay.eq_1]
  exact pt_if (fun _ => pt_if (fun _ => pt_rZ hj) (fun _ => pt_rZ hj)) (fun _ => pj_a (fun _ => pt_zb (jf_X12_fillEnds hj) (fun _ _ h1 => pj_a (fun _ => pj_a (fun _ => pt_if (fun _ => pj_a (fun _ => pj_a (fun _ => pt_if (fun _ => pj_a (fun _ => pt_zb (jf_X12_hangs h1) (fun _ _ h2 => pt_lp (fun s => s.2.2.1 = L) (fun again s hI ih => jF_X12_isWay_53 ih hI) N _ h2))) (fun _ => pt_rZ h1)))) (fun _ => pt_rZ h1))))))
theorem jF_X12_fillWays_2 {x0 : Nat} {x1 : Int32} {x2 : Int32} {again2 : (Int32 × zS) → Option (Unit × zS)} (ihagain2 : ∀ s : Int32 × zS, s.2.2.1 = L → Pt (again2 s) (fun r => r.2.2.1 = L)) {s : Int32 × zS} (hj : s.2.2.1 = L) : Pt (F_X12_fillWays_2 N x0 x1 x2 again2 s) (fun r => r.2.2.1 = L) := by
  obtain ⟨x3, σ⟩ := s
  rw [F_X12_fillWays_2.eq_1]
  exact pt_if (fun _ => pt_some hj) (fun _ => pj_a (fun _ => pj_a (fun _ => pj_a (fun _ => pt_if (fun _ => pj_s (j_sI hj) (fun _ h1 => (ihagain2 _ h1))) (fun _ => pj_a (fun _ => pt_zb (jf_X12_isWay hj) (fun _ _ h2 => pt_if (fun _ => pj_s (j_sI h2) (fun _ h3 => (ihagain2 _ h3))) (fun _ => pj_s (j_sI h2) (fun _ h4 => (ihagain2 _ h4))))))))))
theorem jf_X12_fillWays {x0 : Nat} {x1 : Int32} {x2 : Int32} {σ : zS}  (hj : σ.2.1 = L) : Pt (f_X12_fillWays N x0 x1 x2 σ) (fun r => r.2.2.1 = L) := by
  rw [f_X12_fillWays.eq_1]
  exact pt_lp (fun s => s.2.2.1 = L) (fun again s hI ih => jF_X12_fillWays_2 ih hI) N _ hj
theorem jf_X12_ways {x0 : Nat} {x1 : Int32} {x2 : Int32} {x3 : Int32} {σ : zS}  (hj : σ.2.1 = L) : Pt (f_X12_ways N x0 x1 x2 x3 σ) (fun r => r.2.2.1 = L) := by
  rw [f_X12_ways.eq_1]
  exact pj_a (fun _ => pt_zb (jf_X12_isRegister hj) (fun _ _ h1 => pt_if (fun _ => pt_some h1) (fun _ => pj_a (fun _ => pt_zb (jf_X12_isCrossing h1) (fun _ _ h2 => pt_if (fun _ => pt_some h2) (fun _ => pj_a (fun _ => pt_zb (jf_X12_isCrossing h2) (fun _ _ h3 => pt_if (fun _ => pt_some h3) (fun _ => pj_a (fun _ => pt_zb (jf_X12_fillWays h3) (fun _ _ h4 => pj_a (fun _ => pt_zb (jf_X12_lays h4) (fun _ _ h5 => pt_some h5)))))))))))))
theorem jF_X12_crossings_4 {x0 : Nat} {again4 : (Int32 × Int32 × zS) → Option (Int32 × zS)} (ihagain4 : ∀ s : Int32 × Int32 × zS, s.2.2.2.1 = L → Pt (again4 s) (fun r => r.2.2.1 = L)) {s : Int32 × Int32 × zS} (hj : s.2.2.2.1 = L) : Pt (F_X12_crossings_4 N x0 again4 s) (fun r => r.2.2.1 = L) := by
  obtain ⟨x1, x2, σ⟩ := s
  rw [F_X12_crossings_4.eq_1]
  exact pj_a (fun _ => pj_a (fun _ => pt_if (fun _ => pt_some hj) (fun _ => pj_a (fun _ => pt_zb (jf_X12_one hj) (fun _ _ h1 => pj_a (fun _ => pt_zb (jf_X12_other h1) (fun _ _ h2 => (ihagain4 _ h2))))))))
theorem jf_X12_crossings {x0 : Nat} {σ : zS}  (hj : σ.2.1 = L) : Pt (f_X12_crossings N x0 σ) (fun r => r.2.2.1 = L) := by
  rw [f_X12_crossings.eq_1]
  exact pt_lp (fun s => s.2.2.2.1 = L) (fun again s hI ih => jF_X12_crossings_4 ih hI) N _ hj
theorem jF_X12_isTree_16 {x0 : Nat} {x1 : Int32} {x2 : Int32} {again16 : (Int32 × zS) → Option (Int32 × zS)} (ihagain16 : ∀ s : Int32 × zS, s.2.2.1 = L → Pt (again16 s) (fun r => r.2.2.1 = L)) {s : Int32 × zS} (hj : s.2.2.1 = L) : Pt (F_X12_isTree_16 N x0 x1 x2 again16 s) (fun r => r.2.2.1 = L) := by
  obtain ⟨x3, σ⟩ := s
  rw [F_X12_isTree_16.eq_1]
  exact pt_if (fun _ => (ihagain16 _ hj)) (fun _ => pj_a (fun _ => pt_zb (jf_X12_hangs hj) (fun _ _ h1 => pt_if (fun _ => pt_zb (jf_X12_namesOf h1) (fun _ _ h2 => pt_zb (jf_X12_namesOf h2) (fun _ _ h3 => pt_if (fun _ => pt_rZ h3) (fun _ => pt_rZ h3)))) (fun _ => pt_rZ h1))))
theorem jf_X12_isTree {x0 : Nat} {x1 : Int32} {x2 : Int32} {σ : zS}  (hj : σ.2.1 = L) : Pt (f_X12_isTree N x0 x1 x2 σ) (fun r => r.2.2.1 = L) := by
  rw [f_X12_isTree.eq_1]
  exact pt_if (fun _ => pt_if (fun _ => pt_rZ hj) (fun _ => pt_rZ hj)) (fun _ => pt_lp (fun s => s.2.2.1 = L) (fun again s hI ih => jF_X12_isTree_16 ih hI) N _ hj)
theorem jF_X12_isPairs_9 {x0 : Nat} {again9 : (Int32 × Int32 × zS) → Option (Int32 × zS)} (ihagain9 : ∀ s : Int32 × Int32 × zS, s.2.2.2.1 = L → Pt (again9 s) (fun r => r.2.2.1 = L)) {s : Int32 × Int32 × zS} (hj : s.2.2.2.1 = L) : Pt (F_X12_isPairs_9 N x0 again9 s) (fun r => r.2.2.1 = L) := by
  obtain ⟨x2, x3, σ⟩ := s
  rw [F_X12_isPairs_9.eq_1]
  exact pt_if (fun _ => pt_rZ hj) (fun _ => pt_if (fun _ => (ihagain9 _ hj)) (fun _ => pj_a (fun _ => pj_a (fun _ => pt_if (fun _ => (ihagain9 _ hj)) (fun _ => (ihagain9 _ hj))))))
theorem jf_X12_isPairs {x0 : Nat} {x1 : Int32} {σ : zS}  (hj : σ.2.1 = L) : Pt (f_X12_isPairs N x0 x1 σ) (fun r => r.2.2.1 = L) := by
  rw [f_X12_isPairs.eq_1]
  exact pj_a (fun _ => pt_zb (jf_X12_fillEnds hj) (fun _ _ h1 => pt_lp (fun s => s.2.2.2.1 = L) (fun again s hI ih => jF_X12_isPairs_9 ih hI) N _ h1))
theorem jF_X12_isCover_10 {x0 : Nat} {x2 : Int32} {again10 : (Int32 × Int32 × zS) → Option (Int32 × zS)} (ihagain10 : ∀ s : Int32 × Int32 × zS, s.2.2.2.1 = L → Pt (again10 s) (fun r => r.2.2.1 = L)) {s : Int32 × Int32 × zS} (hj : s.2.2.2.1 = L) : Pt (F_X12_isCover_10 N x0 x2 again10 s) (fun r => r.2.2.1 = L) := by
  obtain ⟨x3, x4, σ⟩ := s
  rw [F_X12_isCover_10.eq_1]
  exact pt_if (fun _ => pt_rZ hj) (fun _ => pt_if (fun _ => (ihagain10 _ hj)) (fun _ => pt_if (fun _ => (ihagain10 _ hj)) (fun _ => pj_a (fun _ => pj_a (fun _ => pt_if (fun _ => (ihagain10 _ hj)) (fun _ => (ihagain10 _ hj)))))))
theorem jf_X12_isCover {x0 : Nat} {x1 : Int32} {x2 : Int32} {σ : zS}  (hj : σ.2.1 = L) : Pt (f_X12_isCover N x0 x1 x2 σ) (fun r => r.2.2.1 = L) := by
  rw [f_X12_isCover.eq_1]
  exact pj_a (fun _ => pt_zb (jf_X12_fillEnds hj) (fun _ _ h1 => pt_lp (fun s => s.2.2.2.1 = L) (fun again s hI ih => jF_X12_isCover_10 ih hI) N _ h1))
theorem jF_X12_map_31 {x0 : Nat} {x1 : Int32} {x2 : Int32} {x3 : Int32} {again31 : (Int32 × zS) → Option (Int32 × zS)} (ihagain31 : ∀ s : Int32 × zS, s.2.2.1 = L → Pt (again31 s) (fun r => r.2.2.1 = L)) {s : Int32 × zS} (hj : s.2.2.1 = L) : Pt (F_X12_map_31 N x0 x1 x2 x3 again31 s) (fun r => r.2.2.1 = L) := by
  obtain ⟨x4, σ⟩ := s
  rw [F_X12_map_31.eq_1]
  exact pt_if (fun _ => pj_a (fun _ => pt_zb (jf_X12_lays hj) (fun _ _ h1 => pt_some h1))) (fun _ => pj_a (fun _ => pj_a (fun _ => pj_a (fun _ => pt_if (fun _ => pj_s (j_sI hj) (fun _ h2 => (ihagain31 _ h2))) (fun _ => pt_if (fun _ => pj_a (fun _ => pt_zb (jf_X12_isTree hj) (fun _ _ h3 => pt_if (fun _ => pj_s (j_sI h3) (fun _ h4 => (ihagain31 _ h4))) (fun _ => pj_s (j_sI h3) (fun _ h5 => (ihagain31 _ h5)))))) (fun _ => pt_if (fun _ => pj_a (fun _ => pt_zb (jf_X12_isPairs hj) (fun _ _ h6 => pt_if (fun _ => pj_s (j_sI h6) (fun _ h7 => (ihagain31 _ h7))) (fun _ => pj_s (j_sI h6) (fun _ h8 => (ihagain31 _ h8)))))) (fun _ => pj_a (fun _ => pt_zb (jf_X12_isCover hj) (fun _ _ h9 => pt_if (fun _ => pj_s (j_sI h9) (fun _ h10 => (ihagain31 _ h10))) (fun _ => pj_s (j_sI h9) (fun _ h11 => (ihagain31 _ h11))))))))))))
theorem jf_X12_map {x0 : Nat} {x1 : Int32} {x2 : Int32} {σ : zS}  (hj : σ.2.1 = L) : Pt (f_X12_map N x0 x1 x2 σ) (fun r => r.2.2.1 = L) := by
  rw [f_X12_map.eq_1]
  exact pj_a (fun _ => pt_zb (jf_X12_isRegister hj) (fun _ _ h1 => pt_if (fun _ => pt_some h1) (fun _ => pt_zb (jf_X12_in h1) (fun _ _ h2 => pt_if (fun _ => pt_some h2) (fun _ => pj_a (fun _ => pt_zb (jf_X12_crossings h2) (fun _ _ h3 => pt_lp (fun s => s.2.2.1 = L) (fun again s hI ih => jF_X12_map_31 ih hI) N _ h3)))))))
theorem jF_X12_cuts_44 {x0 : Nat} {x1 : Int32} {again44 : (Int32 × zS) → Option (Int32 × zS)} (ihagain44 : ∀ s : Int32 × zS, s.2.2.1 = L → Pt (again44 s) (fun r => r.2.2.1 = L)) {s : Int32 × zS} (hj : s.2.2.1 = L) : Pt (F_X12_cuts_44 N x0 x1 again44 s) (fun r => r.2.2.1 = L) := by
  obtain ⟨x4, σ⟩ := s
  rw [F_X12_cuts_44.eq_1]
  exact pt_if (fun _ => pj_a (fun _ => pj_a (fun _ => pt_zb (jf_X12_turns hj) (fun _ _ h1 => pj_a (fun _ => pt_zb (jf_X12_lays h1) (fun _ _ h2 => pt_some h2)))))) (fun _ => pj_a (fun _ => pj_a (fun _ => pj_a (fun _ => pj_s (j_sI hj) (fun _ h3 => (ihagain44 _ h3))))))
theorem jf_X12_cuts {x0 : Nat} {x1 : Int32} {x2 : Int32} {x3 : Int32} {σ : zS}  (hj : σ.2.1 = L) : Pt (f_X12_cuts N x0 x1 x2 x3 σ) (fun r => r.2.2.1 = L) := by
  rw [f_X12_cuts.eq_1]
  exact pj_a (fun _ => pt_zb (jf_X12_isRegister hj) (fun _ _ h1 => pt_if (fun _ => pt_some h1) (fun _ => pj_a (fun _ => pt_zb (jf_X12_isCrossing h1) (fun _ _ h2 => pt_if (fun _ => pt_some h2) (fun _ => pj_a (fun _ => pt_zb (jf_X12_isCrossing h2) (fun _ _ h3 => pt_if (fun _ => pt_some h3) (fun _ => pj_a (fun _ => pt_zb (jf_X12_many h3) (fun _ _ h4 => pj_s (j_pI h4) (fun _ h5 => pj_a (fun _ => pt_zb (jf_X12_fillWays h5) (fun _ _ h6 => pt_lp (fun s => s.2.2.1 = L) (fun again s hI ih => jF_X12_cuts_44 ih hI) N _ h6))))))))))))))
theorem jf_X12_isSlot {x0 : Int32} {σ : zS}  (hj : σ.2.1 = L) : Pt (f_X12_isSlot N x0 σ) (fun r => r.2.2.1 = L) := by
  rw [f_X12_isSlot.eq_1]
  exact pt_zb (jf_X12_in hj) (fun _ _ h1 => pt_rZ h1)
theorem jF_X12_judge_33 {x0 : Nat} {x1 : Int32} {x2 : Int32} {again33 : (Int32 × zS) → Option (Int32 × zS)} (ihagain33 : ∀ s : Int32 × zS, s.2.2.1 = L → Pt (again33 s) (fun r => r.2.2.1 = L)) {s : Int32 × zS} (hj : s.2.2.1 = L) : Pt (F_X12_judge_33 N x0 x1 x2 again33 s) (fun r => r.2.2.1 = L) := by
  obtain ⟨x3, σ⟩ := s
  rw [F_X12_judge_33.eq_1]
  exact pj_a (fun _ => pj_a (fun _ => pt_if (fun _ => pj_a (fun _ => pj_a (fun _ => pj_a (fun _ => pt_zb (jf_X12_nthOf hj) (fun _ _ h1 => pt_if (fun _ => pj_a (fun _ => pj_a (fun _ => pt_some h1))) (fun _ => pt_some h1)))))) (fun _ => pj_a (fun _ => pt_zb (jf_X12_nthOf hj) (fun _ _ h2 => pt_if (fun _ => pt_some h2) (fun _ => pj_a (fun _ => pj_a (fun _ => pt_if (fun _ => (ihagain33 _ h2)) (fun _ => pt_some h2)))))))))
theorem jf_X12_judge {x0 : Nat} {x1 : Int32} {x2 : Int32} {σ : zS}  (hj : σ.2.1 = L) : Pt (f_X12_judge N x0 x1 x2 σ) (fun r => r.2.2.1 = L) := by
  rw [f_X12_judge.eq_1]
  exact pt_zb (jf_X12_isSlot hj) (fun _ _ h1 => pt_if (fun _ => pt_some h1) (fun _ => pj_a (fun _ => pt_zb (jf_X12_isRegister h1) (fun _ _ h2 => pt_if (fun _ => pt_some h2) (fun _ => pj_a (fun _ => pj_a (fun _ => pt_if (fun _ => pt_some h2) (fun _ => pt_lp (fun s => s.2.2.1 = L) (fun again s hI ih => jF_X12_judge_33 ih hI) N _ h2))))))))
theorem jF_X12_takes__101 {x0 : Nat} {x1 : Int32} {x2 : Int32} {again101 : (Int32 × zS) → Option (Int32 × zS)} (ihagain101 : ∀ s : Int32 × zS, s.2.2.1 = L → Pt (again101 s) (fun r => r.2.2.1 = L)) {s : Int32 × zS} (hj : s.2.2.1 = L) : Pt (F_X12_takes__101 N x0 x1 x2 again101 s) (fun r => r.2.2.1 = L) := by
  obtain ⟨x3, σ⟩ := s
  rw [F_X12_takes__101.eq_1]
  exact pj_a (fun _ => pj_a (fun _ => pt_if (fun _ => pj_a (fun _ => pt_zb (jf_X12_lays hj) (fun _ _ h1 => pt_some h1))) (fun _ => pj_a (fun _ => pj_a (fun _ => pj_a (fun _ => pj_s (j_sI hj) (fun _ h2 => (ihagain101 _ h2))))))))
theorem jF_X12_takes__79 {x0 : Nat} {x1 : Int32} {x2 : Int32} {again79 : (Int32 × zS) → Option (Int32 × zS)} (ihagain79 : ∀ s : Int32 × zS, s.2.2.1 = L → Pt (again79 s) (fun r => r.2.2.1 = L)) {s : Int32 × zS} (hj : s.2.2.1 = L) : Pt (F_X12_takes__79 N x0 x1 x2 again79 s) (fun r => r.2.2.1 = L) := by
  obtain ⟨x3, σ⟩ := s
  rw [F_X12_takes__79.eq_1]
  exact pt_if (fun _ => pt_lp (fun s => s.2.2.1 = L) (fun again s hI ih => jF_X12_takes__101 ih hI) N _ hj) (fun _ => pj_a (fun _ => pj_s (j_sI hj) (fun _ h1 => (ihagain79 _ h1))))
theorem jF_X12_takes__33 {x0 : Nat} {x1 : Int32} {x2 : Int32} {again33 : (Int32 × zS) → Option (Int32 × zS)} (ihagain33 : ∀ s : Int32 × zS, s.2.2.1 = L → Pt (again33 s) (fun r => r.2.2.1 = L)) {s : Int32 × zS} (hj : s.2.2.1 = L) : Pt (F_X12_takes__33 N x0 x1 x2 again33 s) (fun r => r.2.2.1 = L) := by
  obtain ⟨x3, σ⟩ := s
  rw [F_X12_takes__33.eq_1]
  exact pj_a (fun _ => pj_a (fun _ => pt_if (fun _ => pt_lp (fun s => s.2.2.1 = L) (fun again s hI ih => jF_X12_takes__79 ih hI) N _ hj) (fun _ => pj_a (fun _ => pj_a (fun _ => pj_a (fun _ => pt_zb (jf_X12_many hj) (fun _ _ h1 => pt_zb (jf_X12_in h1) (fun _ _ h2 => pt_if (fun _ => pt_some h2) (fun _ => (ihagain33 _ h2))))))))))
theorem jf_X12_takes_ {x0 : Nat} {x1 : Int32} {x2 : Int32} {σ : zS}  (hj : σ.2.1 = L) : Pt (f_X12_takes_ N x0 x1 x2 σ) (fun r => r.2.2.1 = L) := by
  rw [f_X12_takes_.eq_1]
  exact pj_a (fun _ => pt_zb (jf_X12_isRegister hj) (fun _ _ h1 => pt_if (fun _ => pt_some h1) (fun _ => pt_zb (jf_X12_isSlot h1) (fun _ _ h2 => pt_if (fun _ => pt_some h2) (fun _ => pj_a (fun _ => pj_a (fun _ => pt_if (fun _ => pt_some h2) (fun _ => pt_lp (fun s => s.2.2.1 = L) (fun again s hI ih => jF_X12_takes__33 ih hI) N _ h2))))))))
theorem jF_X12_unlikeRegisters_22 {x0 : Nat} {x1 : Int32} {x2 : Int32} {again4 : (Int32 × Int32 × zS) → Option (Int32 × zS)} {again22 : (Int32 × Int32 × zS) → Option (Int32 × zS)} (ihagain4 : ∀ s : Int32 × Int32 × zS, s.2.2.2.1 = L → Pt (again4 s) (fun r => r.2.2.1 = L)) (ihagain22 : ∀ s : Int32 × Int32 × zS, s.2.2.2.1 = L → Pt (again22 s) (fun r => r.2.2.1 = L)) {s : Int32 × Int32 × zS} (hj : s.2.2.2.1 = L) : Pt (F_X12_unlikeRegisters_22 N x0 x1 x2 again4 again22 s) (fun r => r.2.2.1 = L) := by
  obtain ⟨x3, x4, σ⟩ := s
  rw [F_X12_unlikeRegisters_22.eq_1]
  exact pt_if (fun _ => pt_if (fun _ => (ihagain4 _ hj)) (fun _ => (ihagain4 _ hj))) (fun _ => pt_if (fun _ => (ihagain22 _ hj)) (fun _ => pj_a (fun _ => pt_zb (jf_X12_differOf hj) (fun _ _ h1 => pt_if (fun _ => (ihagain22 _ h1)) (fun _ => (ihagain22 _ h1))))))
theorem jF_X12_unlikeRegisters_4 {x0 : Nat} {again4 : (Int32 × Int32 × zS) → Option (Int32 × zS)} (ihagain4 : ∀ s : Int32 × Int32 × zS, s.2.2.2.1 = L → Pt (again4 s) (fun r => r.2.2.1 = L)) {s : Int32 × Int32 × zS} (hj : s.2.2.2.1 = L) : Pt (F_X12_unlikeRegisters_4 N x0 again4 s) (fun r => r.2.2.1 = L) := by
  obtain ⟨x1, x2, σ⟩ := s
  rw [F_X12_unlikeRegisters_4.eq_1]
  exact pt_if (fun _ => pt_some hj) (fun _ => pj_a (fun _ => pt_zb (jf_X12_isWorld hj) (fun _ _ h1 => pt_if (fun _ => pt_some h1) (fun _ => pt_lp (fun s => s.2.2.2.1 = L) (fun again s hI ih => jF_X12_unlikeRegisters_22 ihagain4 ih hI) N _ h1))))
theorem jf_X12_unlikeRegisters {x0 : Nat} {σ : zS}  (hj : σ.2.1 = L) : Pt (f_X12_unlikeRegisters N x0 σ) (fun r => r.2.2.1 = L) := by
  rw [f_X12_unlikeRegisters.eq_1]
  exact pt_lp (fun s => s.2.2.2.1 = L) (fun again s hI ih => jF_X12_unlikeRegisters_4 ih hI) N _ hj
theorem jF_X12_count_72 {x0 : Nat} {again72 : (Int32 × Int32 × zS) → Option (Int32 × zS)} (ihagain72 : ∀ s : Int32 × Int32 × zS, s.2.2.2.1 = L → Pt (again72 s) (fun r => r.2.2.1 = L)) {s : Int32 × Int32 × zS} (hj : s.2.2.2.1 = L) : Pt (F_X12_count_72 N x0 again72 s) (fun r => r.2.2.1 = L) := by
  obtain ⟨x2, x3, σ⟩ := s
  rw [F_X12_count_72.eq_1]
  exact pt_if (fun _ => pt_some hj) (fun _ => pj_a (fun _ => pt_zb (jf_X12_sizeOf hj) (fun _ _ h1 => pt_if (fun _ => (ihagain72 _ h1)) (fun _ => (ihagain72 _ h1)))))
theorem jF_X12_count_111 {x0 : Nat} {again111 : (Int32 × Int32 × zS) → Option (Int32 × zS)} (ihagain111 : ∀ s : Int32 × Int32 × zS, s.2.2.2.1 = L → Pt (again111 s) (fun r => r.2.2.1 = L)) {s : Int32 × Int32 × zS} (hj : s.2.2.2.1 = L) : Pt (F_X12_count_111 N x0 again111 s) (fun r => r.2.2.1 = L) := by
  obtain ⟨x2, x3, σ⟩ := s
  rw [F_X12_count_111.eq_1]
  exact pt_if (fun _ => pt_some hj) (fun _ => pj_a (fun _ => pj_a (fun _ => pt_if (fun _ => (ihagain111 _ hj)) (fun _ => (ihagain111 _ hj)))))
theorem jf_X12_count {x0 : Nat} {x1 : Int32} {σ : zS}  (hj : σ.2.1 = L) : Pt (f_X12_count N x0 x1 σ) (fun r => r.2.2.1 = L) := by
  rw [f_X12_count.eq_1]
  exact pt_if (fun _ => pj_a (fun _ => pj_a (fun _ => pt_some hj))) (fun _ => pt_if (fun _ => pj_a (fun _ => pj_a (fun _ => pt_some hj))) (fun _ => pt_if (fun _ => pj_a (fun _ => pj_a (fun _ => pt_some hj))) (fun _ => pt_if (fun _ => pj_a (fun _ => pt_some hj)) (fun _ => pt_if (fun _ => pt_lp (fun s => s.2.2.2.1 = L) (fun again s hI ih => jF_X12_count_72 ih hI) N _ hj) (fun _ => pt_if (fun _ => pj_a (fun _ => pt_zb (jf_X12_unlikeRegisters hj) (fun _ _ h1 => pt_some h1))) (fun _ => pt_if (fun _ => pt_lp (fun s => s.2.2.2.1 = L) (fun again s hI ih => jF_X12_count_111 ih hI) N _ hj) (fun _ => pt_some hj)))))))
theorem jf_X12_cut {x0 : Int64} {x2 : Int32} {σ : zS}  (hj : σ.2.1 = L) : Pt (f_X12_cut N x0 x2 σ) (fun r => r.2.2.1 = L) := by
  rw [f_X12_cut.eq_1]
  exact pt_some hj
theorem jB_X4_fewestFrom {r0 : Nat → Int32 → Int32 → Int32 → Int32 → zS → Option (Int32 × zS)} {x0 : Nat} {x1 : Int32} {x2 : Int32} {x3 : Int32} {x4 : Int32} {σ : zS} (hr0 : ∀ (a0 : Nat) (a1 : Int32) (a2 : Int32) (a3 : Int32) (a4 : Int32) (a5 : zS), a5.2.1 = L → Pt (r0 a0 a1 a2 a3 a4 a5) (fun r => r.2.2.1 = L)) (hj : σ.2.1 = L) : Pt (B_X4_fewestFrom N r0 x0 x1 x2 x3 x4 σ) (fun r => r.2.2.1 = L) := by
  rw [B_X4_fewestFrom.eq_1]
  exact pt_if (fun _ => pt_some hj) (fun _ => pt_if (fun _ => pt_some hj) (fun _ => pt_if (fun _ => pt_some hj) (fun _ => pj_a (fun _ => pt_if (fun _ => pt_zb (hr0 _ _ _ _ _ _ hj) (fun _ _ h1 => pj_a (fun _ => pt_zb (hr0 _ _ _ _ _ _ h1) (fun _ _ h2 => pt_some h2)))) (fun _ => pt_some hj)))))
theorem jjG_X4_fewestFrom : ∀ dd : Nat, (∀ (x0 : Nat) (x1 : Int32) (x2 : Int32) (x3 : Int32) (x4 : Int32) (σ : zS), σ.2.1 = L → Pt (f_X4_fewestFrom N dd x0 x1 x2 x3 x4 σ) (fun r => r.2.2.1 = L)) := by
  intro dd
  induction dd with
  | zero => exact fun _ _ _ _ _ _ _ a h => absurd (show none = some a from h) (by simp)
  | succ dd ih => exact fun x0 x1 x2 x3 x4 σ hj => jB_X4_fewestFrom (N := N) ih hj
theorem jB_X4_mostFrom {r0 : Nat → Int32 → Int32 → Int32 → zS → Option (Int32 × zS)} {x0 : Nat} {x1 : Int32} {x2 : Int32} {x3 : Int32} {σ : zS} (hr0 : ∀ (a0 : Nat) (a1 : Int32) (a2 : Int32) (a3 : Int32) (a4 : zS), a4.2.1 = L → Pt (r0 a0 a1 a2 a3 a4) (fun r => r.2.2.1 = L)) (hj : σ.2.1 = L) : Pt (B_X4_mostFrom N r0 x0 x1 x2 x3 σ) (fun r => r.2.2.1 = L) := by
  rw [B_X4_mostFrom.eq_1]
  exact pt_if (fun _ => pt_some hj) (fun _ => pt_if (fun _ => pt_some hj) (fun _ => pj_a (fun _ => pt_if (fun _ => pt_zb (hr0 _ _ _ _ _ hj) (fun _ _ h1 => pj_a (fun _ => pt_if (fun _ => pj_a (fun _ => pt_zb (hr0 _ _ _ _ _ h1) (fun _ _ h2 => pt_some h2))) (fun _ => pt_some h1)))) (fun _ => pt_some hj))))
theorem jjG_X4_mostFrom : ∀ dd : Nat, (∀ (x0 : Nat) (x1 : Int32) (x2 : Int32) (x3 : Int32) (σ : zS), σ.2.1 = L → Pt (f_X4_mostFrom N dd x0 x1 x2 x3 σ) (fun r => r.2.2.1 = L)) := by
  intro dd
  induction dd with
  | zero => exact fun _ _ _ _ _ _ a h => absurd (show none = some a from h) (by simp)
  | succ dd ih => exact fun x0 x1 x2 x3 σ hj => jB_X4_mostFrom (N := N) ih hj
theorem jB_X5_sum {r0 : Nat → Int32 → zS → Option (Int32 × zS)} {r1 : Nat → Int32 → zS → Option (Int32 × zS)} {r2 : Nat → Int32 → Int32 → zS → Option (Int32 × zS)} {x0 : Nat} {x1 : Int32} {σ : zS} (hr0 : ∀ (a0 : Nat) (a1 : Int32) (a2 : zS), a2.2.1 = L → Pt (r0 a0 a1 a2) (fun r => r.2.2.1 = L)) (hr1 : ∀ (a0 : Nat) (a1 : Int32) (a2 : zS), a2.2.1 = L → Pt (r1 a0 a1 a2) (fun r => r.2.2.1 = L)) (hr2 : ∀ (a0 : Nat) (a1 : Int32) (a2 : Int32) (a3 : zS), a3.2.1 = L → Pt (r2 a0 a1 a2 a3) (fun r => r.2.2.1 = L)) (hj : σ.2.1 = L) : Pt (B_X5_sum N r0 r1 r2 x0 x1 σ) (fun r => r.2.2.1 = L) := by
  rw [B_X5_sum.eq_1]
  exact pj_a (fun _ => pt_zb (hr1 _ _ _ hj) (fun _ _ h1 => pt_if (fun _ => pt_rZ h1) (fun _ => pt_lp (fun s => s.2.2.2.1 = L) (fun again s hI ih => jF_X5_sum_14 hr0 hr1 hr2 ih hI) N _ h1)))
theorem jB_X5_part {r0 : Nat → Int32 → zS → Option (Int32 × zS)} {r1 : Nat → Int32 → zS → Option (Int32 × zS)} {r2 : Nat → Int32 → Int32 → zS → Option (Int32 × zS)} {x0 : Nat} {x1 : Int32} {σ : zS} (hr0 : ∀ (a0 : Nat) (a1 : Int32) (a2 : zS), a2.2.1 = L → Pt (r0 a0 a1 a2) (fun r => r.2.2.1 = L)) (hr1 : ∀ (a0 : Nat) (a1 : Int32) (a2 : zS), a2.2.1 = L → Pt (r1 a0 a1 a2) (fun r => r.2.2.1 = L)) (hr2 : ∀ (a0 : Nat) (a1 : Int32) (a2 : Int32) (a3 : zS), a3.2.1 = L → Pt (r2 a0 a1 a2 a3) (fun r => r.2.2.1 = L)) (hj : σ.2.1 = L) : Pt (B_X5_part N r0 r1 r2 x0 x1 σ) (fun r => r.2.2.1 = L) := by
  rw [B_X5_part.eq_1]
  exact pj_a (fun _ => pj_a (fun _ => pj_a (fun _ => pt_if (fun _ => pj_a (fun _ => pj_a (fun _ => pj_a (fun _ => pj_a (fun _ => pt_zb (hr2 _ _ _ _ hj) (fun _ _ h1 => pt_rZ h1)))))) (fun _ => pt_if (fun _ => pj_a (fun _ => pt_zb (jf_X5_passNumber hj) (fun _ _ h2 => pt_if (fun _ => pt_rZ h2) (fun _ => pj_a (fun _ => pt_zb (jf_X5_passed h2) (fun _ _ h3 => pj_a (fun _ => pt_zb (jf_X5_emit h3) (fun _ _ h4 => pt_if (fun _ => pt_rZ h4) (fun _ => pt_rZ h4))))))))) (fun _ => pt_if (fun _ => pt_if (fun _ => (jJ_X5_part_97 hr0 hr1 hr2 hj)) (fun _ => (jJ_X5_part_97 hr0 hr1 hr2 hj))) (fun _ => pt_if (fun _ => pj_a (fun _ => pt_zb (jf_X5_family hj) (fun _ _ h5 => pt_rZ h5))) (fun _ => pj_a (fun _ => pt_zb (jf_X5_fail hj) (fun _ _ h6 => pt_rZ h6)))))))))
theorem jB_X5_wordPart {r0 : Nat → Int32 → zS → Option (Int32 × zS)} {r1 : Nat → Int32 → zS → Option (Int32 × zS)} {r2 : Nat → Int32 → Int32 → zS → Option (Int32 × zS)} {x0 : Nat} {x1 : Int32} {x2 : Int32} {σ : zS} (hr0 : ∀ (a0 : Nat) (a1 : Int32) (a2 : zS), a2.2.1 = L → Pt (r0 a0 a1 a2) (fun r => r.2.2.1 = L)) (hr1 : ∀ (a0 : Nat) (a1 : Int32) (a2 : zS), a2.2.1 = L → Pt (r1 a0 a1 a2) (fun r => r.2.2.1 = L)) (hr2 : ∀ (a0 : Nat) (a1 : Int32) (a2 : Int32) (a3 : zS), a3.2.1 = L → Pt (r2 a0 a1 a2 a3) (fun r => r.2.2.1 = L)) (hj : σ.2.1 = L) : Pt (B_X5_wordPart N r0 r1 r2 x0 x1 x2 σ) (fun r => r.2.2.1 = L) := by
  rw [B_X5_wordPart.eq_1]
  exact pt_if (fun _ => pj_a (fun _ => pt_zb (jf_X5_pass hj) (fun _ _ h1 => pt_if (fun _ => pt_rZ h1) (fun _ => pj_a (fun _ => pt_zb (jf_X5_emit h1) (fun _ _ h2 => pt_if (fun _ => pt_rZ h2) (fun _ => pt_rZ h2))))))) (fun _ => pt_if (fun _ => pt_if (fun _ => (jJ_X5_wordPart_52 hr0 hr1 hr2 hj)) (fun _ => (jJ_X5_wordPart_52 hr0 hr1 hr2 hj))) (fun _ => pj_a (fun _ => pt_zb (jf_X5_fail hj) (fun _ _ h3 => pt_rZ h3))))
theorem jjG_X5_sum : ∀ dd : Nat, (∀ (x0 : Nat) (x1 : Int32) (σ : zS), σ.2.1 = L → Pt (f_X5_sum N dd x0 x1 σ) (fun r => r.2.2.1 = L)) ∧ (∀ (x0 : Nat) (x1 : Int32) (σ : zS), σ.2.1 = L → Pt (f_X5_part N dd x0 x1 σ) (fun r => r.2.2.1 = L)) ∧ (∀ (x0 : Nat) (x1 : Int32) (x2 : Int32) (σ : zS), σ.2.1 = L → Pt (f_X5_wordPart N dd x0 x1 x2 σ) (fun r => r.2.2.1 = L)) := by
  intro dd
  induction dd with
  | zero => exact ⟨fun _ _ _ _ a h => absurd (show none = some a from h) (by simp), fun _ _ _ _ a h => absurd (show none = some a from h) (by simp), fun _ _ _ _ _ a h => absurd (show none = some a from h) (by simp)⟩
  | succ dd ih => exact ⟨fun x0 x1 σ hj => jB_X5_sum ih.1 ih.2.1 ih.2.2 hj, fun x0 x1 σ hj => jB_X5_part ih.1 ih.2.1 ih.2.2 hj, fun x0 x1 x2 σ hj => jB_X5_wordPart ih.1 ih.2.1 ih.2.2 hj⟩
theorem jf_X4_fewestForAll {x0 : Nat} {σ : zS}  (hj : σ.2.1 = L) : Pt (f_X4_fewestForAll N x0 σ) (fun r => r.2.2.1 = L) := by
  rw [f_X4_fewestForAll.eq_1]
  exact pj_a (fun _ => pj_a (fun _ => pj_a (fun _ => pt_zb ((jjG_X4_fewestFrom 14) _ _ _ _ _ _ hj) (fun _ _ h1 => pt_some h1))))
theorem jf_X4_mostDisjoint {x0 : Nat} {σ : zS}  (hj : σ.2.1 = L) : Pt (f_X4_mostDisjoint N x0 σ) (fun r => r.2.2.1 = L) := by
  rw [f_X4_mostDisjoint.eq_1]
  exact pj_a (fun _ => pj_a (fun _ => pt_zb ((jjG_X4_mostFrom 14) _ _ _ _ _ hj) (fun _ _ h1 => pt_some h1)))
theorem jJ_X5_readLine_92 {x0 : Nat} {x1 : Nat} {x2 : Int32} {σ : zS}  (hj : σ.2.1 = L) : Pt (J_X5_readLine_92 N x0 x1 x2 σ) (fun r => r.2.2.1 = L) := by
  rw [J_X5_readLine_92.eq_1]
  exact pj_a (fun _ => pt_zb (jf_X5_pass hj) (fun _ _ h1 => pj_a (fun _ => pj_a (fun _ => pj_a (fun _ => pt_if (fun _ => pj_a (fun _ => pt_zb (jf_X5_readNames h1) (fun _ _ h2 => (jJ_X5_readLine_211 h2)))) (fun _ => pt_if (fun _ => pj_a (fun _ => pt_zb (jf_X5_readWeight h1) (fun _ _ h3 => (jJ_X5_readLine_211 h3)))) (fun _ => pt_if (fun _ => pj_a (fun _ => pt_zb (jf_X5_readEdge h1) (fun _ _ h4 => (jJ_X5_readLine_211 h4)))) (fun _ => pj_a (fun _ => pt_zb (jf_X5_passNumber h1) (fun _ _ h5 => pt_if (fun _ => (jJ_X5_readLine_211 h5)) (fun _ => pj_a (fun _ => pt_zb (jf_X5_pass h5) (fun _ _ h6 => pt_if (fun _ => (jJ_X5_readLine_211 h6)) (fun _ => pj_a (fun _ => pt_zb ((jjG_X5_sum 24).1 _ _ _ h6) (fun _ _ h7 => pt_if (fun _ => (jJ_X5_readLine_211 h7)) (fun _ => pj_a (fun _ => pt_zb (jf_X5_emit h7) (fun _ _ h8 => pt_if (fun _ => (jJ_X5_readLine_211 h8)) (fun _ => (jJ_X5_readLine_211 h8)))))))))))))))))))))
theorem jJ_X5_readLine_51 {x0 : Nat} {x1 : Nat} {x2 : Int32} {y0 : Int32} {y1 : Int32} {σ : zS}  (hj : σ.2.1 = L) : Pt (J_X5_readLine_51 N x0 x1 x2 y0 y1 σ) (fun r => r.2.2.1 = L) := by
  rw [J_X5_readLine_51.eq_1]
  exact pt_if (fun _ => pt_if (fun _ => pj_a (fun _ => pt_zb (jf_X5_fail hj) (fun _ _ h1 => pt_rZ h1))) (fun _ => pt_if (fun _ => pt_if (fun _ => pj_a (fun _ => pj_a (fun _ => pt_if (fun _ => (jJ_X5_readLine_92 hj)) (fun _ => pj_a (fun _ => pt_zb (jf_X5_fail hj) (fun _ _ h2 => pt_rZ h2)))))) (fun _ => (jJ_X5_readLine_92 hj))) (fun _ => pj_a (fun _ => pt_zb (jf_X5_fail hj) (fun _ _ h3 => pt_rZ h3))))) (fun _ => pj_a (fun _ => pt_zb (jf_X5_fail hj) (fun _ _ h4 => pt_rZ h4)))
theorem jJ_X5_readLine_39 {x0 : Nat} {x1 : Nat} {x2 : Int32} {y0 : Int32} {σ : zS}  (hj : σ.2.1 = L) : Pt (J_X5_readLine_39 N x0 x1 x2 y0 σ) (fun r => r.2.2.1 = L) := by
  rw [J_X5_readLine_39.eq_1]
  exact pt_if (fun _ => (jJ_X5_readLine_51 hj)) (fun _ => (jJ_X5_readLine_51 hj))
theorem jJ_X5_readLine_26 {x0 : Nat} {x1 : Nat} {y0 : Int32} {σ : zS}  (hj : σ.2.1 = L) : Pt (J_X5_readLine_26 N x0 x1 y0 σ) (fun r => r.2.2.1 = L) := by
  rw [J_X5_readLine_26.eq_1]
  exact pj_a (fun _ => pt_if (fun _ => (jJ_X5_readLine_39 hj)) (fun _ => (jJ_X5_readLine_39 hj)))
theorem jf_X5_readLine {x0 : Nat} {x1 : Nat} {σ : zS}  (hj : σ.2.1 = L) : Pt (f_X5_readLine N x0 x1 σ) (fun r => r.2.2.1 = L) := by
  rw [f_X5_readLine.eq_1]
  exact pj_a (fun _ => pj_a (fun _ => pj_a (fun _ => pt_if (fun _ => pj_a (fun _ => pj_a (fun _ => pj_a (fun _ => (jJ_X5_readLine_26 hj))))) (fun _ => (jJ_X5_readLine_26 hj)))))
theorem jF_X5_readWorld_9 {x0 : Nat} {x3 : Nat} {again9 : (Int32 × zS) → Option (Int32 × zS)} (ihagain9 : ∀ s : Int32 × zS, s.2.2.1 = L → Pt (again9 s) (fun r => r.2.2.1 = L)) {s : Int32 × zS} (hj : s.2.2.1 = L) : Pt (F_X5_readWorld_9 N x0 x3 again9 s) (fun r => r.2.2.1 = L) := by
  obtain ⟨x4, σ⟩ := s
  rw [F_X5_readWorld_9.eq_1]
  exact pt_if (fun _ => pt_rZ hj) (fun _ => pj_a (fun _ => pj_a (fun _ => pj_a (fun _ => pt_if (fun _ => pt_rZ hj) (fun _ => pj_a (fun _ => pt_zb (jf_X5_readLine hj) (fun _ _ h1 => pt_if (fun _ => pt_rZ h1) (fun _ => pj_a (fun _ => pj_s (j_pI h1) (fun _ h2 => (ihagain9 _ h2)))))))))))
theorem jf_X5_readWorld {x0 : Nat} {x1 : Nat} {x2 : Int32} {x3 : Nat} {σ : zS}  (hj : σ.2.1 = L) : Pt (f_X5_readWorld N x0 x1 x2 x3 σ) (fun r => r.2.2.1 = L) := by
  rw [f_X5_readWorld.eq_1]
  exact pj_a (fun _ => pt_zb (jf_X5_open hj) (fun _ _ h1 => pt_lp (fun s => s.2.2.1 = L) (fun again s hI ih => jF_X5_readWorld_9 ih hI) N _ h1))
theorem jf_X5_readSum {x0 : Nat} {x1 : Nat} {x2 : Int32} {x3 : Int32} {x4 : Int32} {σ : zS}  (hj : σ.2.1 = L) : Pt (f_X5_readSum N x0 x1 x2 x3 x4 σ) (fun r => r.2.2.1 = L) := by
  rw [f_X5_readSum.eq_1]
  exact pj_a (fun _ => pt_zb (jf_X5_open hj) (fun _ _ h1 => pj_s (j_pI h1) (fun _ h2 => pj_a (fun _ => pt_zb ((jjG_X5_sum 24).1 _ _ _ h2) (fun _ _ h3 => pt_if (fun _ => pt_rZ h3) (fun _ => pj_a (fun _ => pt_zb (jf_X5_pass h3) (fun _ _ h4 => pt_if (fun _ => pt_rZ h4) (fun _ => pj_a (fun _ => pt_zb (jf_X5_emit h4) (fun _ _ h5 => pt_if (fun _ => pt_rZ h5) (fun _ => pt_rZ h5))))))))))))
theorem jf_X11_packs {x0 : Nat} {x1 : Int32} {x2 : Int32} {σ : zS}  (hj : σ.2.1 = L) : Pt (f_X11_packs N x0 x1 x2 σ) (fun r => r.2.2.1 = L) := by
  rw [f_X11_packs.eq_1]
  exact pj_a (fun _ => pt_zb (jf_X11_isRegister hj) (fun _ _ h1 => pt_if (fun _ => pt_some h1) (fun _ => pt_if (fun _ => pt_some h1) (fun _ => pt_if (fun _ => pj_a (fun _ => pj_a (fun _ => pj_a (fun _ => pj_a (fun _ => pt_zb (jf_X2_tally h1) (fun _ _ h2 => pt_if (fun _ => pt_some h2) (fun _ => pt_if (fun _ => pj_a (fun _ => pj_a (fun _ => pt_zb (jf_X4_load h2) (fun _ _ h3 => pt_if (fun _ => pj_a (fun _ => pj_a (fun _ => pt_zb (jf_X4_fewestForAll h3) (fun _ _ h4 => pt_some h4)))) (fun _ => pj_a (fun _ => pj_a (fun _ => pt_zb (jf_X4_mostDisjoint h3) (fun _ _ h5 => pt_some h5)))))))) (fun _ => pt_some h2)))))))) (fun _ => pt_some h1)))))
end JU
end Zq14_7
section Zq14_8
/-! ===== the class's world with its families ===== -/
section CWV
variable {N : Nat} {σ τ : zS} {t : Nat → Int32} {n c i B : Nat}
theorem St_k {O : List zOp} (h57 : τ.1 57 2 = σ.1 57 2) (h58 : τ.1 58 = σ.1 58) (h59 : τ.1 59 = σ.1 59) (hs : St σ O) : St τ O := by
  unfold St at hs ⊢
  rw [h57, h58, h59]; exact hs
theorem vy_loop {G : Nat → Int32} (hN : 1048576 ≤ N) (hB : B = 2 ∨ B = 28) (hC : CB σ t n c) (hA : CA (σ.1 57 9) t n c 0) (h7 : σ.1 57 7 = 0 ∧ σ.1 57 8 = 0) (hG : ∀ j, j < 43 → G j = 0) (hW : WP σ.1 B G) (hs : St σ []) : Pt (zlp (F_X5_readWorld_9 N 57 B) N (0, σ)) (fun r => ¬ r.1 = 0 → ∃ (d : LC) (O : List zOp), (Rc (stW t n) ((0, G, 0), []) (d, O) ∧ stL t n d = some none) ∧ (St r.2 O ∧ O.length ≤ 600) ∧ r.2.2 = σ.2) := by
  have h600 := hC.2.1.1.2.1
  refine pt_lp (fun s : Int32 × zS => 0 ≤ s.1.toInt ∧ ∃ (i : Nat) (g : Nat → Int32) (sg : Nat) (O : List zOp), (Rc (stW t n) ((0, G, 0), []) ((i, g, sg), O) ∧ LI g) ∧ (CB s.2 t n c ∧ CA (s.2.1 57 9) t n c i) ∧ (s.2.1 57 7 = g 0 ∧ (s.2.1 57 8).toInt = (sg : Int) ∧ sg ≤ 24) ∧ WP s.2.1 B g ∧ (g 1 = s.1 ∧ s.1.toInt ≤ (i : Int)) ∧ (St s.2 O ∧ O.length ≤ i) ∧ s.2.2 = σ.2) (fun again s hI ih => ?_) N _ ⟨(by decide : 0 ≤ (0 : Int32).toInt), 0, G, 0, [], ⟨Rc.rf, LI_0 hG⟩, ⟨hC, hA⟩, ⟨h7.1.trans (hG 0 (by decide)).symm, by show (σ.1 57 8).toInt = _; rw [h7.2]; rfl, by decide⟩, hW, ⟨hG 1 (by decide), Int.le_refl _⟩, ⟨hs, Nat.zero_le _⟩, rfl⟩
  obtain ⟨x4, τ⟩ := s
  obtain ⟨h0, i, g, sg, O, ⟨rc, hL⟩, ⟨hC, hA⟩, ⟨h7, h8, h24⟩, hW, ⟨g1, hx⟩, ⟨hs, hl⟩, e2⟩ := hI
  have h0 : 0 ≤ x4.toInt := h0
  have hC : CB τ t n c := hC
  have hA : CA (τ.1 57 9) t n c i := hA
  have h7 : τ.1 57 7 = g 0 := h7
  have h8 : (τ.1 57 8).toInt = (sg : Int) := h8
  have hW : WP τ.1 B g := hW
  have g1 : g 1 = x4 := g1
  have hx : x4.toInt ≤ (i : Int) := hx
  have hs : St τ O := hs
  have e2 : τ.2 = σ.2 := e2
  have le := CA_le hA
  rw [F_X5_readWorld_9.eq_1]
  refine pt_if (fun q => absurd q (by rw [Int32.le_iff_toInt_le]; simp only [Int32.reduceToInt]; omega)) (fun _ => ?_)
  refine pt_gR (v := 61) (hC.1.1 57 10 rfl) (pt_gI (pt_aI ?_))
  have e1 : τ.1 61 (τ.1 57 9).toInt.toNat = ck (tkK t n i) := (CA_row hC.2.1 hA).1.1
  rw [e1]
  refine pt_if (fun q => pt_rZ (fun _ => ⟨(i, g, sg), O, ⟨rc, stL_e (ck_0.mp q)⟩, ⟨hs, by omega⟩, e2⟩)) (fun q => ?_)
  have k0 : ¬ tkK t n i = 0 := fun z => q (ck_0.mpr z)
  refine pt_gC (pt_zb (pt_and (vl_line (sg := sg) hN hB hC hA h7 ⟨h8, h24⟩ hW hL) (vy_line (g := g) (O := O) hN hB hC hA h7 hs hl hW.1.2.1)) (fun v σ1 h => ?_))
  obtain ⟨h, hy⟩ := h
  rcases h with ⟨v1, j, g', sg', ⟨eb, k59⟩, ⟨C1, A1⟩, ⟨e7, e8, l24⟩, W1⟩ | ⟨v0, h⟩
  · have v1 : v = 1 := v1
    have nv : ¬ v = 0 := fun z => absurd (v1.symm.trans z) (by decide)
    obtain ⟨⟨e3, t1⟩, al⟩ := hy nv
    have e3 : σ1.2 = τ.2 := e3
    have t1 : St σ1 (oL t n i g O) := t1
    have C1 : CB σ1 t n c := C1
    have A1 : CA (σ1.1 57 9) t n c (tkE t n j) := A1
    have e7 : σ1.1 57 7 = g' 0 := e7
    have e8 : (σ1.1 57 8).toInt = (sg' : Int) := e8
    have W1 : WB σ1.1 B g' := W1
    refine pt_if (fun q => absurd q nv) (fun _ => pt_gI (pt_pIx (fun τ2 a2 b2 c2 => ?_)))
    have ge := bdR_ge le eb
    have gt := tk_gt ge.2 (show ¬ tkK t n j = 0 by rw [k59]; decide)
    have le2 := CA_le A1
    have lO : (oL t n i g O).length ≤ tkE t n j := by
      rcases al with e | ⟨j', A', l'⟩
      · rw [e]; omega
      · have A' : CA (σ1.1 57 9) t n c j' := A'
        have := CA_un A' A1
        omega
    obtain ⟨F1, g1', g0⟩ := LI_bd hL eb
    have w1 : (x4 + 1).toInt = x4.toInt + 1 := a1_ (by omega)
    have eg : g' 1 + 1 = x4 + 1 := by rw [g1', g1]
    have el : σ1.1 B 1 + 1 = x4 + 1 := by rw [W1.1.2.1, eg]
    rw [el] at a2
    have nz : ¬ x4 + 1 = 0 := nz_of (by omega)
    have n57 : (57 : Nat) ≠ B := by omega
    refine ih (x4 + 1, τ2) ⟨(by rw [w1]; omega : 0 ≤ (x4 + 1).toInt), tkE t n j, upd g' 1 (x4 + 1), sg', oL t n i g O, ⟨rc.sn (stW_s ((stL_s k0 eb).trans ((if_pos k59).trans (by show _ = some (some (tkE t n j, upd g' 1 (x4 + 1), sg')); rw [← eg])))), LI_1 F1 nz g0⟩, ⟨CB_x C1 (by rw [c2]) (fun k hk => b2 k (by omega)) (by rw [b2 57 n57]), ?_⟩, ⟨?_, ?_, l24⟩, ?_, ⟨upd_s, ?_⟩, ⟨St_k (by rw [b2 57 n57]) (b2 58 (by omega)) (b2 59 (by omega)) t1, lO⟩, c2.trans (e3.trans e2)⟩
    · show CA (τ2.1 57 9) t n c _
      rw [b2 57 n57]; exact A1
    · show τ2.1 57 7 = _
      rw [b2 57 n57, upd_n (by decide)]; exact e7
    · show (τ2.1 57 8).toInt = _
      rw [b2 57 n57]; exact e8
    · have oa : ∀ a, a ≠ 1 → upd g' 1 (x4 + 1) a = g' a := fun a ha => upd_n ha
      have h3 : τ2.1 B 0 = upd g' 1 (x4 + 1) 0 ∧ τ2.1 B 1 = upd g' 1 (x4 + 1) 1 ∧ τ2.1 B 2 = upd g' 1 (x4 + 1) 2 := by
        rw [a2, oa 0 (by decide), oa 2 (by decide), upd_s, upd_s, upd_n (by decide), upd_n (by decide)]
        exact ⟨W1.1.1, rfl, W1.1.2.2⟩
      refine ⟨h3, fun z => absurd (by rw [← z, upd_s]) nz, fun _ => ⟨h3, fun k hk => ?_, fun k hk => ?_⟩⟩
      · show τ2.1 (B + 3) k = _ ∧ τ2.1 (B + 4) k = _
        rw [b2 _ (by omega), b2 _ (by omega), oa _ (by omega), oa _ (by omega)]; exact W1.2.1 k hk
      · rw [oa 2 (by decide)] at hk
        show τ2.1 (B + 1) k = _ ∧ τ2.1 (B + 2) k = _
        rw [b2 _ (by omega), b2 _ (by omega), oa _ (by omega), oa _ (by omega)]; exact W1.2.2 k hk
    · show (x4 + 1).toInt ≤ _
      rw [w1]; omega
  · have v0 : v = 0 := v0
    exact pt_if (fun _ => pt_rZ (fun z => absurd rfl z)) (fun q => absurd v0 q)
theorem vy_open {x2 : Int32} (hN : 1048576 ≤ N) (hR : RF σ.2.2) (hx : x2.toInt = (n : Int) ∧ n ≤ 600) : Pt (f_X5_open N 57 1 x2 σ) (fun r => r.2.1 57 2 = 0 ∧ r.2.2.2 0 = σ.2.2 0) := by
  rw [f_X5_open.eq_1]
  refine pt_pR (fun σ1 i1 _ q1 => ?_)
  have T1 : Tr [] σ σ1 := by
    refine ⟨⟨fun k j q => ?_, fun _ => ?_⟩, fun k _ => congrFun i1 k⟩
    · rw [q1]
      by_cases hk : k = 57
      · subst hk
        rw [va_up_self, va_up_ne _ _ (fun q2 => q ⟨rfl, q2⟩)]
      · rw [va_up_ne _ _ hk]
    · rw [q1, va_up_self, va_up_self]
  have X1 : σ1.2.2 57 5 = 1 := by rw [q1, va_up_self, va_up_self]
  have i1 : ∀ k, σ1.1 k = σ.1 k := fun k => T1.2 k List.not_mem_nil
  have R1 := hR.tr T1
  refine pt_aL ?_
  refine pt_pIx (fun τ1 a1 b1 c1 => pt_pIx (fun τ2 a2 b2 c2 => pt_pIx (fun τ3 a3 b3 c3 => pt_pIx (fun τ4 a4 b4 c4 => pt_pIx (fun τ5 a5 b5 c5 => pt_pIx (fun τ6 a6 b6 c6 => pt_pIx (fun τ7 a7 b7 c7 => pt_gC ?_)))))))
  have z6 : (zmax 0 (zmin x2 (zmin (Int32.ofNat (zKd 1).2) 600))).toInt = (n : Int) := by
    have e : (Int32.ofNat (zKd 1).2) = 600 := rfl
    rw [e, ti_zmax, ti_zmin, ti_zmin]
    simp only [Int32.reduceToInt]
    split <;> split <;> split <;> omega
  have e6 : (τ7.1 57 6).toInt = (n : Int) := by rw [a7, upd_n (by decide), a6, upd_n (by decide), a5, upd_n (by decide), a4, upd_n (by decide), a3, upd_n (by decide), a2, upd_n (by decide), a1, upd_s]; exact z6
  have e2 : τ7.1 57 2 = 0 := by rw [a7, upd_n (by decide), a6, upd_n (by decide), a5, upd_n (by decide), a4, upd_s]
  have ek : ∀ k, k ≠ 57 → τ7.1 k = σ.1 k := fun k hk => by rw [b7 k hk, b6 k hk, b5 k hk, b4 k hk, b3 k hk, b2 k hk, b1 k hk, i1]
  have eR : τ7.2 = σ1.2 := by rw [c7, c6, c5, c4, c3, c2, c1]
  clear a1 a2 a3 a4 a5 a6 a7 b1 b2 b3 b4 b5 b6 b7 c1 c2 c3 c4 c5 c6 c7
  have R7 : RF τ7.2.2 := by rw [eR]; exact R1
  have X7 : τ7.2.2 57 5 = 1 := by rw [eR]; exact X1
  refine pt_zb (pt_ok (xs_X5_split (T := σ.1 1) (n := n) hN R7 X7 e6 (ek 1 (by decide)) hx.2)) (fun _ σ9 h => pt_some ?_)
  have T9 : Tr [61, 62, 63, 64] τ7 σ9 := h.1
  refine ⟨?_, funext (fun j => ?_)⟩
  · show σ9.1 57 2 = 0
    rw [T9.2 57 (by decide)]; exact e2
  · show σ9.2.2 0 j = σ.2.2 0 j
    rw [T9.1.1 0 j (by omega), eR]; exact T1.1.1 0 j (by omega)
/-- all families of a world are emptied -/
theorem vy_c45 (hB : isWc B) (hR : RF σ.2.2) : Pt (zlp (F_X10_clear_45 N B) N (0, σ)) (fun r => (r.2.1 = σ.1 ∧ r.2.2.2 = σ.2.2) ∧ (∀ a, ¬ (B + 6 ≤ a ∧ a < B + 26) → r.2.2.1 a = σ.2.1 a) ∧ ∀ p, p < 10 → ∀ u, u < 1024 → bt (r.2.2.1 (B + 6 + 2 * p + 1)) u = false) := by
  refine pt_lp (fun s : Int32 × zS => ∃ m, (s.1 = nI m ∧ m ≤ 10) ∧ (s.2.1 = σ.1 ∧ s.2.2.2 = σ.2.2) ∧ (∀ a, ¬ (B + 6 ≤ a ∧ a < B + 26) → s.2.2.1 a = σ.2.1 a) ∧ ∀ p, p < m → ∀ u, u < 1024 → bt (s.2.2.1 (B + 6 + 2 * p + 1)) u = false) (fun again s hI ih => ?_) N _ ⟨0, ⟨rfl, Nat.zero_le _⟩, ⟨rfl, rfl⟩, fun _ _ => rfl, fun p hp => absurd hp (Nat.not_lt_zero _)⟩
  obtain ⟨x1, τ⟩ := s
  obtain ⟨m, ⟨ex, hm⟩, ⟨e1, e2⟩, ho, hz⟩ := hI
  have ex : x1 = nI m := ex
  subst ex
  have e1 : τ.1 = σ.1 := e1
  have e2 : τ.2.2 = σ.2.2 := e2
  have ho : ∀ a, ¬ (B + 6 ≤ a ∧ a < B + 26) → τ.2.1 a = σ.2.1 a := ho
  have hz : ∀ p, p < m → ∀ u, u < 1024 → bt (τ.2.1 (B + 6 + 2 * p + 1)) u = false := hz
  have R9 : RF τ.2.2 := by rw [e2]; exact hR
  rw [F_X10_clear_45.eq_1]
  refine pt_if (fun q => pt_some ⟨⟨e1, e2⟩, ho, fun p hp => hz p ?_⟩) (fun q => ?_)
  · have q : nI 10 ≤ nI m := q
    rw [nlt (by omega) (by omega)] at q
    omega
  · have q : ¬ nI 10 ≤ nI m := q
    rw [nlt (by omega) (by omega)] at q
    have hm9 : m < 10 := by omega
    refine pt_rg2 hB R9 hm9 (pt_gC (pt_zb (v_clear R9 (rgW hB R9 hm9).2) (fun _ σ1 h => ?_)))
    obtain ⟨l, z⟩ := h
    have l : LF (B + 6 + 2 * m + 1) τ σ1 := l
    have z : ∀ u, u < 1024 → bt (σ1.2.1 (B + 6 + 2 * m + 1)) u = false := z
    rw [nI_s1 (by omega)]
    refine ih (nI (m + 1), σ1) ⟨m + 1, ⟨rfl, by omega⟩, ⟨?_, ?_⟩, fun a ha => ?_, fun p hp => ?_⟩
    · show σ1.1 = σ.1
      rw [l.1]; exact e1
    · show σ1.2.2 = σ.2.2
      rw [l.2.1]; exact e2
    · show σ1.2.1 a = σ.2.1 a
      rw [l.2.2 a (by omega)]; exact ho a ha
    · by_cases e : p = m
      · rw [e]; exact z
      · show ∀ u, u < 1024 → bt (σ1.2.1 (B + 6 + 2 * p + 1)) u = false
        rw [l.2.2 _ (by omega)]; exact hz p (by omega)
theorem vy_clear (hB : isWc B) (hR : RF σ.2.2) : Pt (f_X10_clear N B σ) (fun r => (∀ a, ¬ (B + 6 ≤ a ∧ a < B + 26) → r.2.2.1 a = σ.2.1 a) ∧ ∀ p, p < 10 → ∀ u, u < 1024 → bt (r.2.2.1 (B + 6 + 2 * p + 1)) u = false) := by
  rw [f_X10_clear.eq_1]
  refine pt_pIx (fun τ1 a1 b1 c1 => pt_pIx (fun τ2 a2 b2 c2 => pt_pIx (fun τ3 a3 b3 c3 => ?_)))
  have e3 : τ3.2 = σ.2 := by rw [c3, c2, c1]
  clear a1 a2 a3 b1 b2 b3 c1 c2 c3
  refine pt_lp (fun s : Int32 × zS => s.2.2 = σ.2) (fun again s hI ih => ?_) N _ e3
  obtain ⟨x1, τ⟩ := s
  have e : τ.2 = σ.2 := hI
  have R9 : RF τ.2.2 := by rw [e]; exact hR
  rw [F_X10_clear_17.eq_1]
  refine pt_if (fun _ => pt_w (vy_c45 hB R9) (fun r h => ⟨fun a ha => by rw [h.2.1 a ha, e], h.2.2⟩)) (fun _ => ?_)
  refine pt_gR (v := τ.2.2 B 5) rfl (pt_s14x (fun τ4 _ _ c4 => pt_gR (v := τ4.2.2 B 6) rfl (pt_s14x (fun τ5 _ _ c5 => ih (x1 + 1, τ5) ?_))))
  show τ5.2 = σ.2
  rw [c5, c4, e]
/-- what world() of the class leaves of the families: the text is row 1, now is A -/
def CYQ (t : Nat → Int32) (n B : Nat) (σ : zS) (G : Nat → Int32) (r : Int32 × zS) : Prop := (∀ a, WR a → ¬ (B + 6 ≤ a ∧ a < B + 26) → r.2.2.1 a = σ.2.1 a) ∧ (¬ r.2.2.2 0 4 = σ.2.2 0 4 → ∃ (d : LC) (O : List zOp), (Rc (stW t n) ((0, G, 0), []) (d, O) ∧ stL t n d = some none) ∧ ∀ p, p < 10 → ∀ u, u < 1024 → bt (r.2.2.1 (B + 6 + 2 * p + 1)) u = (evs (2 ^ (d.2.1 0).toInt.toNat) O ((fun _ _ => false), [])).1 p u)
theorem isWc2 (hB : B = 2 ∨ B = 28) : isWc B := by unfold isWc; omega
theorem vy_fault : Pt (f_X11_takeFault N 0 σ) (fun r => r.2.2.1 = σ.2.1) := jf_X11_takeFault rfl
theorem vy_world {G : Nat → Int32} (hN : 1048576 ≤ N) (hB : B = 2 ∨ B = 28) (hR : RF σ.2.2) (h5 : σ.2.2 0 5 = B) (hW : WI B σ.1) (hD : RD σ.1) (hn : (σ.1 0 1).toInt = (n : Int) ∧ n ≤ 600) (hG : ∀ j, j < 43 → G j = 0) : Pt (f_X11_world N 0 σ) (CYQ (σ.1 1) n B σ G) := by
  have ten : ∀ {g : Nat → Int32} {s : Nat → Nat → Int32}, LI g → WP s B g → 0 ≤ (s B 0).toInt ∧ (s B 0).toInt ≤ 10 := fun hL hW => by rw [hW.1.1]; exact hL.1.1.1
  have wc := isWc2 hB
  rw [f_X11_world.eq_1]
  refine pt_gR (v := B) h5 (pt_gC (pt_zb (pt_and (P := fun r => (∀ k, k ≠ B → k ≠ B + 3 → k ≠ B + 4 → r.2.1 k = σ.1 k) ∧ (RF r.2.2.2 ∧ r.2.2.2 0 = σ.2.2 0)) (pt_and (P := fun r => (∀ a, ¬ (B + 6 ≤ a ∧ a < B + 26) → r.2.2.1 a = σ.2.1 a) ∧ ∀ p, p < 10 → ∀ u, u < 1024 → bt (r.2.2.1 (B + 6 + 2 * p + 1)) u = false) (vl_clear hN hB hR) (vy_clear wc hR)) ?_) (fun _ σ1 h1 => ?_)))
  · rcases hB with rfl | rfl
    · refine pt_w (pt_ok (s_X10_clear_2 hN hR hW)) (fun r h => ⟨fun k q0 q3 q4 => h.1.2 k (by simp only [List.mem_cons, List.not_mem_nil, or_false]; omega), hR.tr h.1, funext (fun j => h.1.1.1 0 j (by omega))⟩)
    · refine pt_w (pt_ok (s_X10_clear_28 hN hR hW)) (fun r h => ⟨fun k q0 q3 q4 => h.1.2 k (by simp only [List.mem_cons, List.not_mem_nil, or_false]; omega), hR.tr h.1, funext (fun j => h.1.1.1 0 j (by omega))⟩)
  obtain ⟨⟨⟨z3, z10⟩, lo, lz⟩, ok1, R1, r01⟩ := h1
  have z3 : σ1.1 B 0 = 0 ∧ σ1.1 B 1 = 0 ∧ σ1.1 B 2 = 0 := z3
  have z10 : ∀ j, j < 10 → σ1.1 (B + 3) j = 1 ∧ σ1.1 (B + 4) j = nI j := z10
  have lo : ∀ a, ¬ (B + 6 ≤ a ∧ a < B + 26) → σ1.2.1 a = σ.2.1 a := lo
  have lz : ∀ p, p < 10 → ∀ u, u < 1024 → bt (σ1.2.1 (B + 6 + 2 * p + 1)) u = false := lz
  have ok1 : ∀ k, k ≠ B → k ≠ B + 3 → k ≠ B + 4 → σ1.1 k = σ.1 k := ok1
  have R1 : RF σ1.2.2 := R1
  have r01 : σ1.2.2 0 = σ.2.2 0 := r01
  have o0 : σ1.1 0 = σ.1 0 := ok1 0 (by omega) (by omega) (by omega)
  have o1 : σ1.1 1 = σ.1 1 := ok1 1 (by omega) (by omega) (by omega)
  refine pt_gR (v := 57) (R1 0 9 rfl) (pt_gR (v := 1) (R1 0 0 rfl) (pt_gI (pt_gR (v := B) (by rw [r01]; exact h5) (pt_gC ?_))))
  rw [o0]
  have WP1 : ∀ s : Nat → Nat → Int32, (∀ k, k < 57 → s k = σ1.1 k) → WP s B G := fun s e => by
    have h3 : s B 0 = G 0 ∧ s B 1 = G 1 ∧ s B 2 = G 2 := by
      rw [e B (by omega), hG 0 (by decide), hG 1 (by decide), hG 2 (by decide)]; exact z3
    refine ⟨h3, fun _ j hj => ?_, fun z => absurd (hG 1 (by decide)) z⟩
    rw [e (B + 3) (by omega), e (B + 4) (by omega)]; exact z10 j hj
  refine pt_zb (Q := fun r => ((CWQ (σ.1 1) n B G r) ∧ (¬ r.1 = 0 → ∃ (d : LC) (O : List zOp), (Rc (stW (σ.1 1) n) ((0, G, 0), []) (d, O) ∧ stL (σ.1 1) n d = some none) ∧ (St r.2 O ∧ O.length ≤ 600))) ∧ (r.2.2.1 = σ1.2.1 ∧ RF r.2.2.2 ∧ r.2.2.2 0 = σ.2.2 0)) (pt_and ?_ (pt_and (Q := fun r : Int32 × zS => r.2.2.1 = σ1.2.1) ?_ ?_)) (fun v8 σ2 h2 => ?_)
  · rw [f_X5_readWorld.eq_1]
    refine pt_gC (pt_zb (pt_and (pt_and (vl_open (n := n) hN R1 hn) (vy_open (n := n) hN R1 hn)) (jf_X5_open rfl)) (fun _ σ2 h2 => ?_))
    obtain ⟨⟨⟨c, ⟨hC, hA⟩, h7, h57⟩, s0, _⟩, _⟩ := h2
    have s0 : σ2.1 57 2 = 0 := s0
    rw [o1] at hC hA
    have hs : St σ2 [] := ⟨by rw [s0]; rfl, fun k h => absurd h (Nat.not_lt_zero _)⟩
    exact pt_and (vl_loop hN hB hC hA h7 hG (WP1 σ2.1 h57)) (pt_w (vy_loop hN hB hC hA h7 hG (WP1 σ2.1 h57) hs) (fun r h z => by
      obtain ⟨d, O, a, b, _⟩ := h z
      exact ⟨d, O, a, b⟩))
  · exact jf_X5_readWorld rfl
  · rcases hB with rfl | rfl
    · have D1 : RD σ1.1 := by unfold RD at hD ⊢; rw [ok1 57 (by decide) (by decide) (by decide), ok1 61 (by decide) (by decide) (by decide), ok1 63 (by decide) (by decide) (by decide), ok1 64 (by decide) (by decide) (by decide)]; exact hD
      have W1 : WI 2 σ1.1 := by
        unfold WI at hW ⊢
        rw [z3.1, z3.2.2, ok1 (2 + 1) (by decide) (by decide) (by decide), ok1 (2 + 2) (by decide) (by decide) (by decide)]
        exact ⟨by decide, by decide, hW.2.2⟩
      refine pt_w (pt_ok (s_X5_readWorld_1_2 hN R1 D1 W1)) (fun r h => ⟨R1.tr h.1, funext (fun j => (h.1.1.1 0 j (by omega)).trans (congrFun r01 j))⟩)
    · have D1 : RD σ1.1 := by unfold RD at hD ⊢; rw [ok1 57 (by decide) (by decide) (by decide), ok1 61 (by decide) (by decide) (by decide), ok1 63 (by decide) (by decide) (by decide), ok1 64 (by decide) (by decide) (by decide)]; exact hD
      have W1 : WI 28 σ1.1 := by
        unfold WI at hW ⊢
        rw [z3.1, z3.2.2, ok1 (28 + 1) (by decide) (by decide) (by decide), ok1 (28 + 2) (by decide) (by decide) (by decide)]
        exact ⟨by decide, by decide, hW.2.2⟩
      refine pt_w (pt_ok (s_X5_readWorld_1_28 hN R1 D1 W1)) (fun r h => ⟨R1.tr h.1, funext (fun j => (h.1.1.1 0 j (by omega)).trans (congrFun r01 j))⟩)
  · obtain ⟨⟨hq, hw⟩, L2, R2, r02⟩ := h2
    have L2 : σ2.2.1 = σ1.2.1 := L2
    have R2 : RF σ2.2.2 := R2
    have r02 : σ2.2.2 0 = σ.2.2 0 := r02
    refine pt_gC (pt_zb (Q := fun r => (r.2.2.2 = σ2.2.2 ∧ ∀ k, k ≠ 0 → r.2.1 k = σ2.1 k) ∧ r.2.2.1 = σ2.2.1) (pt_and (vl_fault R2 (fun τ a b => ⟨a, b⟩)) vy_fault) (fun _ σ3 h3 => ?_))
    obtain ⟨⟨r3, o3⟩, L3⟩ := h3
    have r3 : σ3.2.2 = σ2.2.2 := r3
    have o3 : ∀ k, k ≠ 0 → σ3.1 k = σ2.1 k := o3
    have L3 : σ3.2.1 = σ2.2.1 := L3
    have R3 : RF σ3.2.2 := by rw [r3]; exact R2
    have r03 : σ3.2.2 0 5 = B := by rw [r3, r02]; exact h5
    have L31 : σ3.2.1 = σ1.2.1 := L3.trans L2
    rcases hq with ⟨v1, d, rc, hWP, hL⟩ | ⟨v0, hd⟩
    · have v1 : v8 = 1 := v1
      have nv : ¬ v8 = 0 := fun z => absurd (v1.symm.trans z) (by decide)
      obtain ⟨d', O, ⟨rc', sn'⟩, hs, lO⟩ := hw nv
      have ed : d' = d := Rc.un (Rc_L rc') rc.1 (fun x q => by rw [show stL (σ.1 1) n d' = some none from sn'] at q; cases q) (fun x q => by rw [rc.2] at q; cases q)
      subst ed
      have hs : St σ2 O := hs
      have hWP : WP σ2.1 B d'.2.1 := hWP
      refine pt_if (fun q => absurd q nv) (fun _ => ?_)
      refine pt_gR (v := 65) (R3 0 10 rfl) (pt_gR (v := 57) (R3 0 9 rfl) (pt_gR (v := B) r03 (pt_gR (v := 99) (R3 0 11 rfl) (pt_gC ?_))))
      have t3 : 0 ≤ (σ3.1 B 0).toInt ∧ (σ3.1 B 0).toInt ≤ 10 := by rw [o3 B (by omega)]; exact ten hL hWP
      have hs3 : St σ3 O := St_k (by rw [o3 57 (by decide)]) (o3 58 (by decide)) (o3 59 (by decide)) hs
      have H := HW_R (by omega) (HW_0 (n := n) hG) rc'
      have e0 : σ3.1 B 0 = d'.2.1 0 := by rw [o3 B (by omega)]; exact hWP.1.1
      obtain ⟨k, hk, ek⟩ := znI (x := d'.2.1 0) (m := 11) (by rw [← e0]; exact t3.1) (by rw [← e0]; omega)
      have hv : vds (2 ^ k) O 0 := by
        have := H.2.2.2.1
        rw [show ((d', O) : LW2).1.2.1 0 = nI k from ek, iN (by omega)] at this
        exact this
      refine pt_zb (Q := fun r => Tr [65, 106, 107] σ3 r.2 ∧ FU B σ3 r.2 ∧ ∀ p, p < 10 → ∀ u, u < 1024 → bt (r.2.2.1 (B + 6 + 2 * p + 1)) u = (evs (2 ^ k) O ((fun _ _ => false), [])).1 p u) (pt_and ?_ (v_run (G := fun _ _ => false) wc R3 (e0.trans ek) (by omega) hs3 (by omega) hv (fun p _ u _ z => by cases z) (fun p hp u hu => by rw [L31]; exact lz p hp u hu))) (fun _ σ4 h4 => ?_)
      · rcases hB with rfl | rfl
        · exact pt_w (pt_ok (s_X7_run_57_2_99 hN R3 t3)) (fun r h => h.1)
        · exact pt_w (pt_ok (s_X7_run_57_28_99 hN R3 t3)) (fun r h => h.1)
      · obtain ⟨T4, F4, U4⟩ := h4
        have T4 : Tr [65, 106, 107] σ3 σ4 := T4
        have F4 : FU B σ3 σ4 := F4
        have U4 : ∀ p, p < 10 → ∀ u, u < 1024 → bt (σ4.2.1 (B + 6 + 2 * p + 1)) u = (evs (2 ^ k) O ((fun _ _ => false), [])).1 p u := U4
        have r04 : σ4.2.2 0 5 = B := (T4.1.1 0 5 (by omega)).trans r03
        refine pt_gR (v := σ4.2.2 0 4) rfl (pt_gR (v := B) r04 ?_)
        refine pt_pR (fun σ5 i5 l5 q5 => pt_pR (fun σ6 i6 l6 q6 => ?_))
        have r6 : σ6.2.2 0 4 = B := by rw [q6, va_up_self, va_up_ne _ _ (by decide), q5, va_up_self, va_up_self]
        have l6 : σ6.2.1 = σ4.2.1 := l6.trans l5
        refine pt_gR (v := B) r6 (pt_gI (pt_some ⟨fun a ha hn => ?_, fun _ => ⟨d', O, ⟨rc', sn'⟩, fun p hp u hu => ?_⟩⟩))
        · show σ6.2.1 a = σ.2.1 a
          rw [l6, F4.2.2 a ha hn, L31]; exact lo a hn
        · show bt (σ6.2.1 (B + 6 + 2 * p + 1)) u = (evs (2 ^ (d'.2.1 0).toInt.toNat) O ((fun _ _ => false), [])).1 p u
          rw [l6, ek, iN (by omega)]; exact U4 p hp u hu
    · have v0 : v8 = 0 := v0
      refine pt_if (fun _ => pt_some ⟨fun a _ hn => ?_, fun z => absurd ?_ z⟩) (fun q => absurd v0 q)
      · show σ3.2.1 a = σ.2.1 a
        rw [L31]; exact lo a hn
      · show σ3.2.2 0 4 = σ.2.2 0 4
        rw [r3, r02]
end CWV
end Zq14_8
section Zq14_9
/-! ===== the reference's lines and world, with families ===== -/
section RWV1
variable {N k n i : Nat} {σ τ : zS} {t : Nat → Int32} {O : List zOp} {g : Nat → Int32}
/-- all families empty -/
def z0 : zEv := ((fun _ _ => false), [])
theorem z0_R {M : Nat} : RG M z0 := ⟨fun _ _ _ _ z => (by cases z), fun _ hx => absurd hx List.not_mem_nil⟩
/-- rows 232 are what the steps make -/
def VR (τ : zS) (k : Nat) (O : List zOp) : Prop := ∀ p, p < 10 → ∀ u, u < 1024 → rb (τ.1 232) (1024 * p) u = (evs (2 ^ k) O z0).1 p u
theorem VR_c (e : τ.1 232 = σ.1 232) (h : VR σ k O) : VR τ k O := fun p hp u hu => by rw [e]; exact h p hp u hu
theorem vq_65b {P : Unit × zS → Prop} (hb : ¬ σ.1 218 14 = 0) (hP : P ((), σ)) : Pt (J_X12_readsLine_65 N 218 σ) P := by
  rw [J_X12_readsLine_65.eq_1]
  exact pt_gC (pt_zbq vr_good (fun v hq => pt_if (fun _ => pt_some hP) (fun z => absurd (hq.2 z) hb)))
theorem vq_65 (hN : 1048576 ≤ N) (hk : k ≤ 10) (hb : RBs σ) (hv : vds (2 ^ k) O 0) (hh : hts O 0 = 0) (hG : RX σ.1 t n i) (hg : σ.1 218 14 = 0) (hi : i ≤ n) (hF : FW (σ.1 231)) (eg : g = σ.1 231) (e0 : g 0 = nI k) (e1 : ¬ g 1 = 0) (hw : isW t n i 12 ∨ isW t n i 13 ∨ isW t n i 14) (he : isW t n i 13 → ¬ σ.1 231 2 = σ.1 231 0) (hr : VR σ k O) : Pt (J_X12_readsLine_65 N 218 σ) (fun r => r.2.1 218 14 = 0 → VR r.2 k (oL t n i g O)) := by
  have hR := hb.1.1
  rw [J_X12_readsLine_65.eq_1]
  refine pt_gC (pt_zbq vr_good (fun v hq => pt_if (fun z => absurd hg (hq.1 z)) (fun _ => ?_)))
  refine pt_gC (pt_zb (pt_ok (s_X12_takes_r (tx := t) (n := n) (i := i) hN hR hb.1.2 hb.2.1 hG hg (by decide))) (fun v1 σ1 h1 => ?_))
  obtain ⟨T1, ⟨K1, _, n1, y1⟩, _⟩ := h1
  have T1 : Tr [218] σ σ1 := T1
  have n1 : v1 = 0 → σ1 = σ ∧ ¬ isW t n i 12 := n1
  have y1 : ¬ v1 = 0 → (isW t n i 12 ∧ _) ∧ RX σ1.1 t n (tkE t n i) := y1
  have hb1 : RBs σ1 := rb218 hb T1 (by decide) K1 (zb218 hb T1)
  refine pt_if (fun z => ?_) (fun z => ?_)
  · obtain ⟨e, nw⟩ := n1 z
    subst e
    refine pt_gC (pt_zb (pt_ok (s_X12_takes_r (tx := t) (n := n) (i := i) hN hR hb.1.2 hb.2.1 hG hg (by decide))) (fun v2 σ2 h2 => ?_))
    obtain ⟨T2, ⟨K2, _, n2, y2⟩, _⟩ := h2
    have T2 : Tr [218] σ1 σ2 := T2
    have n2 : v2 = 0 → σ2 = σ1 ∧ ¬ isW t n i 13 := n2
    have y2 : ¬ v2 = 0 → (isW t n i 13 ∧ _) ∧ RX σ2.1 t n (tkE t n i) := y2
    have hb2 : RBs σ2 := rb218 hb T2 (by decide) K2 (zb218 hb T2)
    refine pt_if (fun z => ?_) (fun z => ?_)
    · obtain ⟨e, ne⟩ := n2 z
      subst e
      have wl := (hw.resolve_left nw).resolve_left ne
      have l0 := hb.1.2.2.1 (by rw [hG.2.2.1, wl.1]; decide)
      have A : (0 ≤ (σ2.1 218 10).toInt ∧ (σ2.1 218 10).toInt ≤ (σ2.1 218 9).toInt) ∧ (σ2.1 218 9).toInt ≤ 600 := by have := hb.1.2.1; omega
      refine pt_gC (pt_zb (pt_ok (s_X12_advance_r (tx := t) (n := n) (i := i) hN hR A hb.2.1 hG)) (fun _ σ3 h3 => ?_))
      obtain ⟨T3, ⟨⟨K3, _⟩, G3⟩, _, _, d14, _⟩ := h3
      have T3 : Tr [218] σ2 σ3 := T3
      have d14 : σ3.1 218 14 = σ2.1 218 14 := d14
      have hb3 : RBs σ3 := rb218 hb T3 (by decide) K3 (zb218 hb T3)
      refine pt_gC (pt_zb (vq_let (s0 := z0) (O := O) (i := tkE t n i) hN hk hb3 z0_R rfl hv hh G3 (d14.trans hg) (by rw [T3.2 231 (by decide), ← eg]; exact e0) (VR_c (T3.2 232 (by decide)) hr)) (fun _ σ4 h4 => pt_some (fun q => ?_)))
      rw [oL_l e1 wl, e0]
      exact h4 q
    · have a2 := y2 z
      have n14 : ¬ isW t n i 14 := fun y => absurd (isW_u (a := 2) (b := 3) (by decide) (by decide) a2.1.1 y) (by decide)
      rw [oL_n (Or.inr n14)]
      have r2 : σ2.1 231 = σ1.1 231 := T2.2 231 (by decide)
      have lt : (σ2.1 231 2).toInt < (σ2.1 231 0).toInt := by
        rw [r2]
        have h02 := hF.1
        have : (σ1.1 231 2).toInt ≠ (σ1.1 231 0).toInt := fun y => he a2.1.1 (Int32.toInt_inj.mp y)
        omega
      refine pt_gC (pt_zb (pt_ok (s_X12_readsEdge hN hb2.1.1 hb2.1.2 hb2.2.1 (by rw [r2]; exact hF) lt)) (fun _ σ3 h3 => pt_some (fun _ => ?_)))
      have T3 : Tr [218, 231] σ2 σ3 := h3.1
      exact VR_c ((T3.2 232 (by decide)).trans (T2.2 232 (by decide))) hr
  · have a1 := y1 z
    have n14 : ¬ isW t n i 14 := fun y => absurd (isW_u (a := 1) (b := 3) (by decide) (by decide) a1.1.1 y) (by decide)
    rw [oL_n (Or.inr n14)]
    refine pt_gC (pt_zb (pt_ok (s_X12_readsName hN hb1.1.1 hb1.1.2 hb1.2.1 (by rw [T1.2 231 (by decide)]; exact hF))) (fun v2 σ2 h2 => ?_))
    have T2 : Tr [218] σ1 σ2 := h2.1
    have K2 : TOK σ2.1 := h2.2.1.1
    have hb2 : RBs σ2 := rb218 hb1 T2 (by decide) K2 (zb218 hb1 T2)
    refine pt_gR (v := 231) (hb2.1.1 218 26 rfl) ?_
    refine pt_gC (pt_zb (pt_ok (s_X12_number hN hb2.1.1 hb2.1.2 hb2.2.1)) (fun v3 σ3 h3 => ?_))
    have T3 : Tr [218] σ2 σ3 := h3.1
    refine pt_s14x (fun σ4 _ b4 _ => pt_some (fun _ => ?_))
    exact VR_c ((b4 232 (by decide)).trans ((T3.2 232 (by decide)).trans ((T2.2 232 (by decide)).trans (T1.2 232 (by decide))))) hr
theorem vq_35 (hN : 1048576 ≤ N) (hk : k ≤ 10) (hb : RBs σ) (hv : vds (2 ^ k) O 0) (hh : hts O 0 = 0) (hG : RX σ.1 t n i) (hg : σ.1 218 14 = 0) (hi : i ≤ n) (hF : FW (σ.1 231)) (eg : g = σ.1 231) (e0 : g 0 = nI k) (e1 : ¬ g 1 = 0) (hw : isW t n i 12 ∨ isW t n i 13 ∨ isW t n i 14) (hr : VR σ k O) : Pt (J_X12_readsLine_35 N 218 σ) (fun r => r.2.1 218 14 = 0 → VR r.2 k (oL t n i g O)) := by
  have hR := hb.1.1
  rw [J_X12_readsLine_35.eq_1]
  refine pt_gC (pt_zbX (Q := fun v => (v = 0 ∨ v = 1) ∧ (v = 0 → ¬ isW t n i 13) ∧ (¬ v = 0 → isW t n i 13)) (pt_ok (xf_X12_is hN hR (by decide) hb.1.2 hg hG)) (fun v hq => ?_))
  refine pt_if (fun z => vq_65 hN hk hb hv hh hG hg hi hF eg e0 e1 hw (fun y => absurd y (hq.2.1 z)) hr) (fun z => ?_)
  refine pt_gR (v := 231) (hR 218 26 rfl) (pt_aI (pt_gR (v := 231) (hR 218 26 rfl) (pt_aI ?_)))
  refine pt_if (fun e => ?_) (fun e => vq_65 hN hk hb hv hh hG hg hi hF eg e0 e1 hw (fun _ => e) hr)
  refine pt_gC (pt_zb (vr_errs hN hb (by decide)) (fun _ σ3 h3 => ?_))
  have h3 : ¬ σ3.1 218 14 = 0 := h3
  exact vq_65b h3 (fun q => absurd q h3)
theorem vq_readsLine (hN : 1048576 ≤ N) (hk : k ≤ 10) (hb : RBs σ) (hv : vds (2 ^ k) O 0) (hh : hts O 0 = 0) (hG : RX σ.1 t n i) (hg : σ.1 218 14 = 0) (hi : i ≤ n) (hF : FW (σ.1 231)) (eg : g = σ.1 231) (e0 : g 0 = nI k) (e1 : ¬ g 1 = 0) (hr : VR σ k O) : Pt (f_X12_readsLine N 218 σ) (fun r => r.2.1 218 14 = 0 → VR r.2 k (oL t n i g O)) := by
  have hR := hb.1.1
  rw [f_X12_readsLine.eq_1]
  refine pt_gC (pt_zbX (Q := fun v => (v = 0 ∨ v = 1) ∧ (v = 0 → ¬ isW t n i 12) ∧ (¬ v = 0 → isW t n i 12)) (pt_ok (xf_X12_is hN hR (by decide) hb.1.2 hg hG)) (fun v1 h1 => ?_))
  refine pt_if (fun z1 => ?_) (fun z1 => vq_35 hN hk hb hv hh hG hg hi hF eg e0 e1 (Or.inl (h1.2.2 z1)) hr)
  refine pt_gC (pt_zbX (Q := fun v => (v = 0 ∨ v = 1) ∧ (v = 0 → ¬ isW t n i 13) ∧ (¬ v = 0 → isW t n i 13)) (pt_ok (xf_X12_is hN hR (by decide) hb.1.2 hg hG)) (fun v2 h2 => ?_))
  refine pt_if (fun z2 => ?_) (fun z2 => vq_35 hN hk hb hv hh hG hg hi hF eg e0 e1 (Or.inr (Or.inl (h2.2.2 z2))) hr)
  refine pt_gC (pt_zbX (Q := fun v => (v = 0 ∨ v = 1) ∧ (v = 0 → ¬ isW t n i 14) ∧ (¬ v = 0 → isW t n i 14)) (pt_ok (xf_X12_is hN hR (by decide) hb.1.2 hg hG)) (fun v3 h3 => ?_))
  refine pt_if (fun z3 => ?_) (fun z3 => vq_35 hN hk hb hv hh hG hg hi hF eg e0 e1 (Or.inr (Or.inr (h3.2.2 z3))) hr)
  refine pt_gC (pt_zb (pt_ok (s_X12_errs hN hR hb.1.2 hb.2.1 (by decide))) (fun _ σ3 h4 => ?_))
  obtain ⟨T4, ⟨K4, b4⟩, _⟩ := h4
  have T4 : Tr [218] σ σ3 := T4
  have b4 : ¬ σ3.1 218 14 = 0 := b4
  have hb3 : RBs σ3 := rb218 hb T4 (by decide) K4 (zb218 hb T4)
  rw [J_X12_readsLine_35.eq_1]
  refine pt_gC (pt_zbX (Q := fun _ => True) (pt_w (pt_ok (x0_X12_is hN hb3.1.1 (by decide) hb3.1.2)) (fun r h => ⟨h.1, trivial⟩)) (fun v _ => ?_))
  refine pt_if (fun _ => vq_65b b4 (fun q => absurd q b4)) (fun _ => ?_)
  refine pt_gR (v := 231) (hb3.1.1 218 26 rfl) (pt_aI (pt_gR (v := 231) (hb3.1.1 218 26 rfl) (pt_aI ?_)))
  refine pt_if (fun _ => ?_) (fun _ => vq_65b b4 (fun q => absurd q b4))
  refine pt_gC (pt_zb (vr_errs hN hb3 (by decide)) (fun _ σ5 h5 => ?_))
  have h5 : ¬ σ5.1 218 14 = 0 := h5
  exact vq_65b h5 (fun q => absurd q h5)
end RWV1
theorem iNb {m : Nat} (h : m ≤ 100000) : (nI m).toInt.toNat = m := by rw [nI_toInt (by omega)]; omega
theorem nI_m1 {m : Nat} : nI m + 1 = nI (m + 1) := nI_plus m 1
section RWV2
variable {N : Nat} {σ : zS} {t : Nat → Int32} {n : Nat}
/-- the reading of a world, between two lines; U is row 220 -/
def RWV (t : Nat → Int32) (n : Nat) (G U : Nat → Int32) (τ : zS) : Prop := (RBs τ ∧ τ.1 224 = t ∧ τ.1 220 = U) ∧ (τ.1 218 14 = 0 → ∃ (i : Nat) (O : List zOp), ((RX τ.1 t n i ∧ i ≤ n) ∧ Rc (stW t n) ((0, G, 0), []) ((i, τ.1 231, (τ.1 218 25).toInt.toNat), O)) ∧ (0 ≤ (τ.1 218 25).toInt ∧ (τ.1 218 25).toInt ≤ 24) ∧ (LI (τ.1 231) ∧ 0 ≤ (τ.1 231 1).toInt ∧ (τ.1 231 1).toInt ≤ (τ.1 218 11).toInt) ∧ VR τ (τ.1 231 0).toInt.toNat O)
/-- what world() of the reference leaves of the families -/
def RYQ (t : Nat → Int32) (n : Nat) (G U : Nat → Int32) (r : Int32 × zS) : Prop := (r.1 = -4 ∧ r.2.1 220 = U) ∨ ∃ (d : LC) (O : List zOp), (Rc (stW t n) ((0, G, 0), []) (d, O) ∧ stL t n d = some none) ∧ ∀ p, p < 10 → ∀ u, u < 1024 → rb (r.2.1 220) (1024 * p) u = (evs (2 ^ (d.2.1 0).toInt.toNat) O z0).1 p u
theorem vq_tail {P : Int32 × zS → Prop} {again : zS → Option (Int32 × zS)} {G U : Nat → Int32} {i : Nat} {g : Nat → Int32} {sg : Nat} {O : List zOp} (hN : 1048576 ≤ N) (hb : RBs σ) (h224 : σ.1 224 = t) (h220 : σ.1 220 = U)
    (hrc : Rc (stW t n) ((0, G, 0), []) ((i, g, sg), O)) (hk : ¬ tkK t n i = 0) (hL : LI g) (hl : 0 ≤ (g 1).toInt ∧ (g 1).toInt ≤ (σ.1 218 11).toInt) (hLB : LB t n (bdR t n i g sg) σ.1) (hr : σ.1 218 14 = 0 → VR σ (σ.1 231 0).toInt.toNat (oL t n i g O)) (ih : ∀ τ, RWV t n G U τ → Pt (again τ) P) :
    Pt (zl (gC 12 218) fun _ => zb (f_X12_needsSign N 218 59 σ) fun _ σ23 => zl (gR 12 26 218 σ23) fun v24 => zl (aI 14 v24 1 σ23) fun v25 => zl (sI 14 v24 1 (v25 + 1) σ23) fun σ26 => again σ26) P := by
  obtain ⟨j, hj⟩ : ∃ j, σ.1 218 14 = 0 → bdR t n i g sg = some (j, σ.1 231, (σ.1 218 25).toInt.toNat) ∧ RX σ.1 t n j ∧ j ≤ n ∧ 0 ≤ (σ.1 218 25).toInt ∧ (σ.1 218 25).toInt ≤ 24 := by
    by_cases q : σ.1 218 14 = 0
    · obtain ⟨j, z⟩ := hLB.1 q
      exact ⟨j, fun _ => z⟩
    · exact ⟨0, fun z => absurd z q⟩
  refine pt_gC (pt_zb (pt_ok (s_X12_needsSign_r (tx := t) (n := n) (i := j) hN hb.1.1 hb.1.2 hb.2.1 (fun q => (hj q).2.1) (by decide))) (fun _ σ1 h1 => ?_))
  obtain ⟨T1, ⟨K1, _, u1, f1⟩, _, _, _, _, _, _, e25⟩ := h1
  have T1 : Tr [218] σ σ1 := T1
  have K1 : TOK σ1.1 := K1
  have u1 : σ1.1 218 14 = 0 → (σ.1 218 14 = 0 ∧ (σ.1 218 11).toInt < (σ1.1 218 11).toInt) ∧ tkK t n j = 59 ∧ RX σ1.1 t n (tkE t n j) := u1
  have e25 : σ1.1 218 25 = σ.1 218 25 := e25
  have r1 : σ1.1 231 = σ.1 231 := T1.2 231 (by decide)
  have hb1 : RBs σ1 := rb218 hb T1 (by decide) K1 (zb218 hb T1)
  refine pt_gR (v := 231) (hb1.1.1 218 26 rfl) (pt_aI (pt_s14x (fun τ a2 o c2 => ih _ ?_)))
  have o231 : τ.1 231 = upd (σ.1 231) 1 (σ.1 231 1 + 1) := by rw [a2, r1]; rfl
  have K2 : TOK τ.1 := TOK_c K1 (by rw [o 218 (by decide)]) (by rw [o 218 (by decide)]) (by rw [o 218 (by decide)]) (by rw [o 218 (by decide)]) (o 224 (by decide))
  have B2 : ZB τ.1 := fun k hk j => by
    by_cases q : k = 231
    · rw [q] at hk; exact absurd hk (by decide)
    · rw [o k q]; exact hb1.2.2 k hk j
  refine ⟨⟨⟨⟨by rw [c2]; exact hb1.1.1, K2⟩, by rw [o 224 (by decide)]; exact hb1.2.1, B2⟩, (o 224 (by decide)).trans ((T1.2 224 (by decide)).trans h224), (o 220 (by decide)).trans ((T1.2 220 (by decide)).trans h220)⟩, fun q => ?_⟩
  rw [o 218 (by decide)] at q
  obtain ⟨⟨q0, gain⟩, k59, G1⟩ := u1 q
  obtain ⟨eb, _, lej, s25⟩ := hj q0
  obtain ⟨F1, g1, g0⟩ := LI_bd hL eb
  have K6 := K1.1
  have w1 : (σ.1 231 1 + 1).toInt = (σ.1 231 1).toInt + 1 := a1_ (by rw [g1]; omega)
  have g1i := congrArg Int32.toInt g1
  refine ⟨tkE t n j, oL t n i g O, ⟨⟨RX_c (o 218 (by decide)) (o 224 (by decide)) G1, (tk_le lej).2.2⟩, ?_⟩, ?_, ⟨?_, ?_⟩, ?_⟩
  · rw [o231, o 218 (by decide), e25]
    exact hrc.sn (stW_s ((stL_s (c := (i, g, sg)) hk eb).trans (if_pos k59)))
  · rw [o 218 (by decide), e25]; exact s25
  · rw [o231]
    exact LI_1 F1 (nz_of (by omega)) g0
  · rw [o231, upd_s, o 218 (by decide), w1]; omega
  · rw [o231, upd_n (by decide)]
    exact VR_c ((o 232 (by decide)).trans (T1.2 232 (by decide))) (hr q0)
theorem vq_138 {P : Int32 × zS → Prop} (hR : RF σ.2.2) (hB : ZB σ.1) (hP : ∀ τ : zS, (∀ j, j < 10240 → τ.1 220 j = σ.1 232 j) → P (σ.1 219 1, τ)) : Pt (zlp (F_X12_world_138 N 218) N (0, σ)) P := by
  refine pt_lp (fun s : Int32 × zS => ∃ m, (s.1 = nI m ∧ m ≤ 10240) ∧ FG [220] σ s.2 ∧ ∀ j, j < m → s.2.1 220 j = σ.1 232 j) (fun again s hI ih => ?_) N _ ⟨0, ⟨rfl, Nat.zero_le _⟩, FG.rf, fun j hj => absurd hj (Nat.not_lt_zero _)⟩
  obtain ⟨x1, τ⟩ := s
  obtain ⟨m, ⟨ex, hm⟩, hf, hj⟩ := hI
  have ex : x1 = nI m := ex
  subst ex
  have hf : FG [220] σ τ := hf
  have hj : ∀ j, j < m → τ.1 220 j = σ.1 232 j := hj
  have R9 := hf.R hR
  have e1 : (nI m).toInt = (m : Int) := nI_toInt (by omega)
  rw [F_X12_world_138.eq_1]
  refine pt_if (fun q => ?_) (fun q => ?_)
  · rw [Int32.le_iff_toInt_le, e1] at q
    simp only [Int32.reduceToInt] at q
    refine pt_gR (v := 219) (R9 218 1 rfl) (pt_aI (pt_some ?_))
    rw [hf.2 219 (by decide)]
    exact hP τ (fun j h => hj j (by omega))
  · rw [Int32.le_iff_toInt_le, e1] at q
    simp only [Int32.reduceToInt] at q
    refine pt_gR (v := 220) (R9 218 2 rfl) (pt_gR (v := 232) (R9 218 27 rfl) (pt_aI (pt_s16 ?_)))
    rw [iNb (by omega), nI_m1, hf.2 232 (by decide), nrz (hB 232 rfl m)]
    refine ih (nI (m + 1), _) ⟨m + 1, ⟨rfl, by omega⟩, hf.u (by decide), fun j h => ?_⟩
    show (zI τ 220 _).1 220 j = _
    rw [zI_s, upd_i]
    by_cases e : j = m
    · rw [if_pos e, e]
    · rw [if_neg e]; exact hj j (by omega)
theorem vq_112 {P : Int32 × zS → Prop} (hR : RF σ.2.2) (hB : ZB σ.1) (hP : ∀ (v : Int32) (τ : zS), (∀ j, j < 10240 → τ.1 220 j = σ.1 232 j) → P (v, τ)) : Pt (zlp (F_X12_world_112 N 218) N (0, σ)) P := by
  refine pt_lp (fun s : Int32 × zS => s.2.2 = σ.2 ∧ ∀ a, a ≠ 219 → s.2.1 a = σ.1 a) (fun again s hI ih => ?_) N _ ⟨rfl, fun _ _ => rfl⟩
  obtain ⟨x1, τ⟩ := s
  obtain ⟨e, ho⟩ := hI
  have e : τ.2 = σ.2 := e
  have ho : ∀ a, a ≠ 219 → τ.1 a = σ.1 a := ho
  have R9 : RF τ.2.2 := by rw [e]; exact hR
  have B9 : ZB τ.1 := fun k hk j => by
    by_cases q : k = 219
    · rw [q] at hk; exact absurd hk (by decide)
    · rw [ho k q]; exact hB k hk j
  rw [F_X12_world_112.eq_1]
  refine pt_if (fun _ => vq_138 R9 B9 (fun υ hυ => hP _ υ (fun j h => by rw [hυ j h, ho 232 (by decide)]))) (fun _ => ?_)
  refine pt_gR (v := 219) (R9 218 1 rfl) (pt_gR (v := 231) (R9 218 26 rfl) (pt_aI (pt_s14x (fun υ _ b c => ih (x1 + 1, υ) ⟨c.trans e, fun a ha => (b a ha).trans (ho a ha)⟩))))
theorem vq_100 {G U : Nat → Int32} (hI : RWV t n G U σ) (hk : σ.1 218 14 = 0 → σ.1 218 12 = 0) : Pt (J_X12_world_100 N 218 σ) (RYQ t n G U) := by
  rw [J_X12_world_100.eq_1]
  refine pt_gC (pt_zbq vr_good (fun v hv => pt_if (fun z => pt_some (Or.inl ⟨rfl, hI.1.2.2⟩)) (fun z => ?_)))
  have q := hv.2 z
  obtain ⟨i, O, ⟨⟨hG, le⟩, rc⟩, _, _, hV⟩ := hI.2 q
  have k0 : tkK t n i = 0 := hG.2.2.1.symm.trans (hk q)
  refine vq_112 hI.1.1.1.1 hI.1.1.2.2 (fun w τ hτ => Or.inr ⟨_, O, ⟨rc, stL_e (c := (i, σ.1 231, (σ.1 218 25).toInt.toNat)) k0⟩, fun p hp u hu => ?_⟩)
  have := hV p hp u hu
  unfold rb at this ⊢
  rw [show (w, τ).2.1 220 (1024 * p + u) = σ.1 232 (1024 * p + u) from hτ _ (by omega)]
  exact this
theorem lnR_0 {i j sg sg' : Nat} {g g' : Nat → Int32} (hL : LI g) (h : lnR t n i g sg = some (j, g', sg')) : g' 0 = g 0 := by
  by_cases w12 : isW t n i 12
  · rw [lnR_w w12] at h; exact (LI_wt hL h).2.2
  · by_cases w13 : isW t n i 13
    · by_cases e2 : g 2 = g 0
      · rw [lnR_m w12 w13 e2] at h; cases h
      · rw [lnR_e w12 w13 e2] at h; exact (LI_ed hL e2 h).2.2
    · by_cases w14 : isW t n i 14
      · rw [lnR_l w12 w13 w14] at h
        obtain ⟨p, hp, e⟩ := Option.map_eq_some_iff.mp h
        have eg : g = g' := congrArg (fun z : LC => z.2.1) e
        rw [← eg]
      · rw [lnR_z w12 w13 w14] at h; cases h
theorem vq_47 {G U : Nat → Int32} (hN : 1048576 ≤ N) (h6 : n ≤ 600) (hG0 : ∀ j, j < 43 → G j = 0) (hI : RWV t n G U σ) : Pt (zlp (F_X12_world_47 N 218) N σ) (RYQ t n G U) := by
  refine pt_lp (fun τ : zS => RWV t n G U τ) (fun again τ hI ih => ?_) N _ hI
  rw [F_X12_world_47.eq_1]
  refine pt_gC (pt_zbq vr_good (fun v hv => pt_if (fun z => vq_100 hI (fun y => absurd y (hv.1 z))) (fun z => ?_)))
  have q := hv.2 z
  refine pt_gI (pt_if (fun k => vq_100 hI (fun _ => k)) (fun k => ?_))
  obtain ⟨⟨hb, h224, h220⟩, hg⟩ := hI
  obtain ⟨i, O, ⟨⟨hG, le⟩, rc⟩, s25, ⟨hL, hl⟩, hV⟩ := hg q
  have k0 : ¬ tkK t n i = 0 := fun y => k (hG.2.2.1.trans y)
  have H := HW_R h6 (HW_0 (n := n) hG0) rc
  have VWg : (τ.1 231 1 = 0 → O = []) ∧ vds (2 ^ (τ.1 231 0).toInt.toNat) O 0 ∧ hts O 0 = 0 := H.2.2
  obtain ⟨hR, hK⟩ := hb.1
  have hYr := hb.2.1
  have hB := hb.2.2
  refine pt_gR (v := 231) (hR 218 26 rfl) (pt_aI ?_)
  have z1 : (Int32.toInt 1).toNat = 1 := rfl
  rw [z1]
  refine pt_if (fun e => ?_) (fun e => ?_)
  · refine pt_gC (pt_zb (pt_and (pt_ok (s_X12_readsNames hN hR hK hYr hL.1 (hL.2.1 e).2)) (vr_readsNames (t := t) (n := n) (i := i) hN hR hK hYr hG q le s25)) (fun _ σ1 h1 => ?_))
    obtain ⟨⟨T1, ⟨K1, m1, _⟩, _⟩, b1⟩ := h1
    have T1 : Tr [218, 231] τ σ1 := T1
    have m1 : (τ.1 218 11).toInt ≤ (σ1.1 218 11).toInt := m1
    have hb1 : RBs σ1 := rb218 hb T1 (by decide) K1 (ZB.tr T1 (by decide) hB)
    have eb : bdR t n i (τ.1 231) (τ.1 218 25).toInt.toNat = nmR t n i (τ.1 231) (τ.1 218 25).toInt.toNat := if_pos e
    have eO : O = [] := VWg.1 e
    refine vq_tail (i := i) hN hb1 ((T1.2 224 (by decide)).trans h224) ((T1.2 220 (by decide)).trans h220) rc k0 hL (by omega) (by rw [eb]; exact b1) (fun _ => ?_) ih
    rw [oL_n (Or.inl e), eO]
    rw [eO] at hV
    exact fun p hp u hu => VR_c (T1.2 232 (by decide)) hV p hp u hu
  · have h0b := hL.1.1.1
    obtain ⟨kk, hkk, ek⟩ := znI (x := τ.1 231 0) (m := 11) h0b.1 (by omega)
    have VW2 : vds (2 ^ kk) O 0 ∧ hts O 0 = 0 := by
      have := VWg.2
      rw [ek, iN (by omega)] at this
      exact this
    have hV2 : VR τ kk O := by
      rw [ek, iN (by omega)] at hV
      exact hV
    refine pt_gC (pt_zb (pt_and (pt_ok (s_X12_readsLine hN hR hK hYr hB hL.1 q)) (pt_and (vr_readsLine (t := t) (n := n) (i := i) hN hR hK hYr hB hG q le s25 hL.1) (vq_readsLine (t := t) (n := n) (i := i) (g := τ.1 231) hN (by omega) hb VW2.1 VW2.2 hG q le hL.1 rfl ek e hV2))) (fun _ σ1 h1 => ?_))
    obtain ⟨⟨T1, ⟨K1, m1, _, _, B1⟩, _⟩, b1, v1⟩ := h1
    have T1 : Tr [218, 226, 227, 228, 229, 230, 231, 232] τ σ1 := T1
    have m1 : (τ.1 218 11).toInt ≤ (σ1.1 218 11).toInt := m1
    have b1 : LB t n (lnR t n i (τ.1 231) (τ.1 218 25).toInt.toNat) σ1.1 := b1
    have v1 : σ1.1 218 14 = 0 → VR σ1 kk (oL t n i (τ.1 231) O) := v1
    have hb1 : RBs σ1 := rb218 hb T1 (by decide) K1 B1
    have eb : bdR t n i (τ.1 231) (τ.1 218 25).toInt.toNat = lnR t n i (τ.1 231) (τ.1 218 25).toInt.toNat := if_neg e
    refine vq_tail (i := i) hN hb1 ((T1.2 224 (by decide)).trans h224) ((T1.2 220 (by decide)).trans h220) rc k0 hL (by omega) (by rw [eb]; exact b1) (fun y => ?_) ih
    obtain ⟨j, ej, _⟩ := b1.1 y
    rw [lnR_0 hL ej, ek, iN (by omega)]
    exact v1 y
theorem vq_27 {P : Int32 × zS → Prop} (hR : RF σ.2.2) (hB : ZB σ.1) (hP : ∀ τ : zS, τ.2.2 = σ.2.2 → ZB τ.1 → (∀ k, k ≠ 232 → τ.1 k = σ.1 k) → (∀ j, j < 10240 → τ.1 232 j = 0) → Pt (zlp (F_X12_world_47 N 218) N τ) P) : Pt (zlp (F_X12_world_27 N 218) N (0, σ)) P := by
  refine pt_lp (fun s : Int32 × zS => ∃ m, (s.1 = nI m ∧ m ≤ 10240) ∧ s.2.2.2 = σ.2.2 ∧ ZB s.2.1 ∧ (∀ k, k ≠ 232 → s.2.1 k = σ.1 k) ∧ ∀ j, j < m → s.2.1 232 j = 0) (fun again s hI ih => ?_) N _ ⟨0, ⟨rfl, Nat.zero_le _⟩, rfl, hB, fun _ _ => rfl, fun j hj => absurd hj (Nat.not_lt_zero _)⟩
  obtain ⟨x1, τ⟩ := s
  obtain ⟨m, ⟨ex, hm⟩, hr, hZ, ho, hj⟩ := hI
  have ex : x1 = nI m := ex
  subst ex
  have hr : τ.2.2 = σ.2.2 := hr
  have hZ : ZB τ.1 := hZ
  have ho : ∀ k, k ≠ 232 → τ.1 k = σ.1 k := ho
  have hj : ∀ j, j < m → τ.1 232 j = 0 := hj
  have e1 : (nI m).toInt = (m : Int) := nI_toInt (by omega)
  rw [F_X12_world_27.eq_1]
  refine pt_if (fun q => hP τ hr hZ ho (fun j h => hj j ?_)) (fun q => ?_)
  · rw [Int32.le_iff_toInt_le, e1] at q
    simp only [Int32.reduceToInt] at q
    omega
  · rw [Int32.le_iff_toInt_le, e1] at q
    simp only [Int32.reduceToInt] at q
    refine pt_gR (v := 232) (by rw [hr]; exact hR 218 27 rfl) (pt_s16 ?_)
    rw [iNb (by omega), nI_m1]
    refine ih (nI (m + 1), _) ⟨m + 1, ⟨rfl, by omega⟩, hr, ZB_s rfl hZ, fun k hk => (zI_n hk).trans (ho k hk), fun j h => ?_⟩
    show (zI τ 232 _).1 232 j = 0
    rw [zI_s, upd_i]
    by_cases e : j = m
    · rw [if_pos e]; exact nz1.1
    · rw [if_neg e]; exact hj j (by omega)
theorem vq_world (hN : 1048576 ≤ N) (hR : RF σ.2.2) (hB : ZB σ.1) (hp : 0 ≤ (σ.1 218 7).toInt ∧ (σ.1 218 7).toInt ≤ 600) (hY : BYT (σ.1 224)) : Pt (f_X12_world N 218 σ) (fun r => ∃ G, (∀ j, j < 43 → G j = 0) ∧ (RWQ (σ.1 224) (σ.1 218 7).toInt.toNat G (σ.1 219) r ∧ RYQ (σ.1 224) (σ.1 218 7).toInt.toNat G (σ.1 220) r)) := by
  rw [f_X12_world.eq_1]
  refine pt_gC (pt_zb (pt_and (pt_ok (s_X12_begins hN hR hp hY)) (vr_begins hN hR hp hY)) (fun _ σ1 h1 => ?_))
  obtain ⟨⟨T1, ⟨K1, g1, e25, _⟩, _⟩, G1⟩ := h1
  have T1 : Tr [218] σ σ1 := T1
  have K1 : TOK σ1.1 := K1
  have g1 : σ1.1 218 14 = 0 := g1
  have e25 : σ1.1 218 25 = 0 := e25
  have G1 : RX σ1.1 (σ.1 224) (σ.1 218 7).toInt.toNat 0 := G1
  have R1 := hR.tr T1
  refine vw_6 R1 (fun σ2 r2 o2 z2 => vq_27 (by rw [r2]; exact R1) ?_ (fun σ3 r3 B3 o3 z3 => ?_))
  · intro k hk j
    by_cases q : k = 231
    · rw [q] at hk; exact absurd hk (by decide)
    · rw [o2 k q]; exact (ZB.tr T1 (by decide) hB) k hk j
  · have e218 : σ3.1 218 = σ1.1 218 := (o3 218 (by decide)).trans (o2 218 (by decide))
    have e224 : σ3.1 224 = σ1.1 224 := (o3 224 (by decide)).trans (o2 224 (by decide))
    have e220 : σ3.1 220 = σ.1 220 := ((o3 220 (by decide)).trans (o2 220 (by decide))).trans (T1.2 220 (by decide))
    have e231 : ∀ j, j < 43 → σ3.1 231 j = 0 := fun j hj => by rw [o3 231 (by decide)]; exact z2 j hj
    have z : (0 : Int32).toInt = 0 := rfl
    have K6 := K1.1
    have t224 : σ3.1 224 = σ.1 224 := e224.trans (T1.2 224 (by decide))
    have K3 : TOK σ3.1 := TOK_c K1 (by rw [e218]) (by rw [e218]) (by rw [e218]) (by rw [e218]) e224
    have R3 : RF σ3.2.2 := by rw [r3, r2]; exact R1
    have hb3 : RBs σ3 := ⟨⟨R3, K3⟩, by rw [t224]; exact hY, B3⟩
    have lq : 0 ≤ (σ3.1 231 1).toInt ∧ (σ3.1 231 1).toInt ≤ (σ3.1 218 11).toInt := by rw [e231 1 (by decide), e218, z]; omega
    have sq : 0 ≤ (σ3.1 218 25).toInt ∧ (σ3.1 218 25).toInt ≤ 24 := by rw [e218, e25]; decide
    have s0 : (σ3.1 218 25).toInt.toNat = 0 := by rw [e218, e25]; rfl
    refine pt_w (pt_and (vw_47 (t := σ.1 224) (n := (σ.1 218 7).toInt.toNat) (G := σ3.1 231) (W := σ.1 219) hN hY ⟨⟨⟨R3, K3⟩, ⟨t224, B3⟩, ((o3 219 (by decide)).trans (o2 219 (by decide))).trans (T1.2 219 (by decide))⟩, fun _ => ⟨0, ⟨⟨RX_c e218 e224 G1, Nat.zero_le _⟩, by rw [s0]; exact Rc.rf⟩, sq, LI_0 e231, lq⟩, fun q => absurd (by rw [e218]; exact g1) q⟩) (vq_47 (t := σ.1 224) (n := (σ.1 218 7).toInt.toNat) (G := σ3.1 231) (U := σ.1 220) hN (by omega) e231 ⟨⟨hb3, t224, e220⟩, fun _ => ⟨0, [], ⟨⟨RX_c e218 e224 G1, Nat.zero_le _⟩, by rw [s0]; exact Rc.rf⟩, sq, ⟨LI_0 e231, lq⟩, fun p hp u hu => ?_⟩⟩)) (fun r h => ⟨σ3.1 231, e231, h⟩)
    show rb (σ3.1 232) (1024 * p) u = false
    rw [rb_f]
    exact z3 _ (by omega)
end RWV2
end Zq14_9
section Zq14_10
/-! ===== put, with values ===== -/
section PUT
variable {N k n c i B : Nat} {σ τ : zS} {t : Nat → Int32} {m x1 x2 : Int32} {O : List zOp}
/-- the text is one sum -/
def pO (t : Nat → Int32) (n : Nat) (m : Int32) : Prop := ∃ j s1, sumR t n m 0 0 = some (j, s1) ∧ tkK t n j = 0
/-- the end of the machine of sums -/
def pE (t : Nat → Int32) (n : Nat) (m : Int32) (d : Cv) : Prop := Rc (stv t n m) (0, 0, [], []) d ∧ stv t n m d = some none ∧ ¬ 100 ∈ d.2.2.1
theorem pE_u {d e : Cv} (h : pE t n m d) (h2 : pE t n m e) : d = e := Rc.un h.1 h2.1 (fun x q => by rw [h.2.1] at q; cases q) (fun x q => by rw [h2.2.1] at q; cases q)
def pS (d : Cv) (a : Int32) : List zOp := (setl 1 d.2.2.1 d.2.2.2).2 ++ [(6, a)]
theorem vy_adv {a b : Int32} (hR : RF σ.2.2) : Pt (f_X5_advance N 57 a b σ) (fun r => (r.1 = a ∧ r.2.2 = σ.2) ∧ (∀ k, k ≠ 57 → r.2.1 k = σ.1 k) ∧ ∀ j, j ≠ 0 → j ≠ 1 → j ≠ 9 → r.2.1 57 j = σ.1 57 j) := by
  rw [f_X5_advance.eq_1]
  refine pt_if (fun _ => ?_) (fun _ => ?_)
  · refine pt_pIx (fun τ a1 b1 c1 => pt_gR (v := 63) (by rw [c1]; exact hR 57 12 rfl) (pt_gI (pt_aI (pt_pIx (fun υ a2 b2 c2 => pt_rZ ⟨⟨rfl, c2.trans c1⟩, fun k hk => (b2 k hk).trans (b1 k hk), fun j h0 h1 h9 => ?_⟩)))))
    show υ.1 57 j = _
    rw [a2, upd_n h1, a1, upd_n h0]
  · refine pt_gR (v := 61) (hR 57 10 rfl) (pt_gI (pt_aI (pt_if (fun _ => pt_rZ ⟨⟨rfl, rfl⟩, fun _ _ => rfl, fun _ _ _ _ => rfl⟩) (fun _ => pt_gI (pt_if (fun _ => pt_rZ ⟨⟨rfl, rfl⟩, fun _ _ => rfl, fun _ _ _ _ => rfl⟩) (fun _ => pt_gI (pt_pIx (fun τ a1 b1 c1 => pt_rZ ⟨⟨rfl, c1⟩, b1, fun j h0 h1 h9 => ?_⟩))))))))
    show τ.1 57 j = _
    rw [a1, upd_n h9]
theorem vy_pass0 (hC : CB σ t n c) (hA : CA (σ.1 57 9) t n c i) : Pt (f_X5_pass N 57 0 σ) (fun r => ((¬ r.1 = 0 → tkK t n i = 0) ∧ (r.1 = 0 → ¬ tkK t n i = 0)) ∧ r.2.2 = σ.2 ∧ (∀ k, k ≠ 57 → r.2.1 k = σ.1 k) ∧ ∀ j, j ≠ 0 → j ≠ 1 → j ≠ 9 → r.2.1 57 j = σ.1 57 j) := by
  have hR := hC.1.1
  have row := CA_row hC.2.1 hA
  have e1 : σ.1 61 (σ.1 57 9).toInt.toNat = ck (tkK t n i) := row.1.1
  rw [f_X5_pass.eq_1]
  refine pt_gR (v := 61) (hR 57 10 rfl) (pt_gI (pt_aI ?_))
  rw [e1]
  refine pt_if (fun q => ?_) (fun q => ?_)
  · refine pt_gC (pt_zb (vy_adv hR) (fun v τ h => pt_rZ ⟨⟨fun _ => ck_0.mp q, fun z => absurd (h.1.1.symm.trans z) (by decide)⟩, h.1.2, h.2.1, h.2.2⟩))
  · refine pt_gC (pt_zb (vy_adv hR) (fun v τ h => pt_rZ ⟨⟨fun z => absurd h.1.1 z, fun _ z => q (ck_0.mpr z)⟩, h.1.2, h.2.1, h.2.2⟩))
theorem vy_readSum {a : Int32} (hN : 1048576 ≤ N) (hR : RF σ.2.2) (hx : x2.toInt = (n : Int) ∧ n ≤ 600) : Pt (f_X5_readSum N 57 1 x2 m a σ) (fun r => (¬ r.1 = 0 → pO (σ.1 1) n m ∧ ∃ d : Cv, pE (σ.1 1) n m d ∧ St r.2 (pS d a) ∧ (pS d a).length ≤ 601) ∧ (r.1 = 0 → ¬ pO (σ.1 1) n m) ∧ (∀ k, k < 57 → r.2.1 k = σ.1 k) ∧ RF r.2.2.2 ∧ r.2.2.2 0 = σ.2.2 0) := by
  rw [f_X5_readSum.eq_1]
  refine pt_gC (pt_zb (pt_and (vl_open (n := n) hN hR hx) (vy_open (n := n) hN hR hx)) (fun _ σ2 h2 => ?_))
  obtain ⟨⟨c, ⟨hC, hA⟩, ⟨z7, z8⟩, h57⟩, s0, r0⟩ := h2
  have hC : CB σ2 (σ.1 1) n c := hC
  have hA : CA (σ2.1 57 9) (σ.1 1) n c 0 := hA
  have z8 : σ2.1 57 8 = 0 := z8
  have s0 : σ2.1 57 2 = 0 := s0
  have r0 : σ2.2.2 0 = σ.2.2 0 := r0
  have h57 : ∀ k, k < 57 → σ2.1 k = σ.1 k := h57
  generalize σ.1 1 = t at hC hA ⊢
  refine pt_pIx (fun σ3 a3 b3 c3 => ?_)
  have C3 : CB σ3 t n c := CB_x hC (by rw [c3]) (fun k hk => b3 k (by omega)) (by rw [a3, upd_n (by decide)])
  have A3 : CA (σ3.1 57 9) t n c 0 := by rw [a3, upd_n (by decide)]; exact hA
  have m3 : σ3.1 57 7 = m := by rw [a3, upd_s]
  have e8 : (σ3.1 57 8).toInt = ((0 : Nat) : Int) := by rw [a3, upd_n (by decide), z8]; rfl
  have St3 : St σ3 [] := ⟨by rw [a3, upd_n (by decide), s0]; rfl, fun k h => absurd h (Nat.not_lt_zero _)⟩
  refine pt_gC (pt_zb (pt_and (pt_ok ((csum_all hN 24).1 0 [] 0 0 σ3 ⟨⟨C3, A3, m3⟩, ⟨e8, by decide⟩, rfl, by decide⟩ rfl (by decide))) ((csumv_all hN 24).1 0 [] [] 0 σ3 ⟨⟨C3, A3, m3⟩, ⟨St3, Nat.zero_le _⟩, rfl, by decide⟩ (Or.inl rfl))) (fun v4 σ4 h4 => ?_))
  obtain ⟨⟨f4, q4⟩, y4⟩ := h4
  have f4 : Fr σ3 σ4 := f4
  have o57 : ∀ k, k < 57 → σ4.1 k = σ.1 k := fun k hk => (f4.1.2 k (by simp only [List.mem_cons, List.not_mem_nil, or_false]; omega)).trans ((b3 k (by omega)).trans (h57 k hk))
  have R4 : RF σ4.2.2 := C3.1.1.tr f4.1
  have r4 : σ4.2.2 0 = σ.2.2 0 := funext (fun j => (f4.1.1.1 0 j (by omega)).trans (by rw [c3]; exact congrFun r0 j))
  refine pt_if (fun z => ?_) (fun z => ?_)
  · have q4 := q4.resolve_left (fun y => absurd (y.1.symm.trans z) (by decide))
    obtain ⟨e, rc, w⟩ := q4.2
    refine pt_rZ ⟨fun y => absurd rfl y, fun _ y => ?_, o57, R4, r4⟩
    obtain ⟨j, s1, hs, _⟩ := y
    rw [sumR_n rc w] at hs
    cases hs
  have q4 := q4.resolve_right (fun y => z y.1)
  obtain ⟨_, j, s1, ⟨⟨rc, _⟩, ncb⟩, A4, _, _⟩ := q4
  have A4 : CA (σ4.1 57 9) t n c j := A4
  have es : sumR t n m 0 0 = some (j, s1) := sumR_s (c := (j, true, [], s1)) ⟨rc, stp_e ncb (fun z => absurd z.2 List.not_mem_nil), List.not_mem_nil⟩
  obtain ⟨j', V, Q, O1, ⟨rcv, sl, _⟩, A4', ⟨t4, l4⟩, _, e4⟩ := y4 z
  have A4' : CA (σ4.1 57 9) t n c j' := A4'
  have t4 : St σ4 O1 := t4
  have ej : j' = j := CA_un A4' A4
  subst ej
  have C4 := CB_fr f4 C3
  have jn := CA_le A4
  refine pt_gC (pt_zb (vy_pass0 C4 A4) (fun v5 σ5 h5 => ?_))
  obtain ⟨⟨k1, k2⟩, e5, b5, j5⟩ := h5
  have k1 : ¬ v5 = 0 → tkK t n j' = 0 := k1
  have k2 : v5 = 0 → ¬ tkK t n j' = 0 := k2
  have e5 : σ5.2 = σ4.2 := e5
  have b5 : ∀ k, k ≠ 57 → σ5.1 k = σ4.1 k := b5
  have j5 : ∀ j, j ≠ 0 → j ≠ 1 → j ≠ 9 → σ5.1 57 j = σ4.1 57 j := j5
  have R5 : RF σ5.2.2 := by rw [e5]; exact R4
  refine pt_if (fun y => ?_) (fun y => ?_)
  · refine pt_rZ ⟨fun w => absurd rfl w, fun _ w => ?_, fun k hk => (b5 k (by omega)).trans (o57 k hk), R5, by show σ5.2.2 0 = _; rw [e5]; exact r4⟩
    obtain ⟨j2, s2, hs, hk2⟩ := w
    rw [es] at hs
    have : j' = j2 := congrArg Prod.fst (Option.some.inj hs)
    rw [← this] at hk2
    exact k2 y hk2
  have kz := k1 y
  have C5 : CB σ5 t n c := CB_x C4 (by rw [e5]) (fun k hk => b5 k (by omega)) (j5 6 (by decide) (by decide) (by decide))
  have t5 : St σ5 O1 := St_k (j5 2 (by decide) (by decide) (by decide)) (b5 58 (by decide)) (b5 59 (by decide)) t4
  have h600 := C3.2.1.1.2.1
  have hl0 : (List.length ([] : List zOp)) = 0 := rfl
  refine pt_gC (pt_zb (pt_and (pt_ok (xs_emit C5)) (v_emit (a := 6) (b := a) C5.1.1 t5 (by omega))) (fun v6 σ6 h6 => ?_))
  obtain ⟨⟨v61, f6⟩, e6, t6⟩ := h6
  have v61 : v6 = 1 := v61
  have f6 : F9 σ5 σ6 := f6
  have e6 : σ6.2 = σ5.2 := e6
  refine pt_if (fun q => absurd (v61.symm.trans q) (by decide)) (fun _ => pt_rZ ?_)
  have n100 : ¬ 100 ∈ V := fun z => by
    have := (setl_100 (r := 1) (by decide) V Q).mpr z
    rw [sl] at this
    exact absurd this List.not_mem_nil
  have ncb' : ¬ isCb (tkK t n j') := ncb
  have pe : pS (j', 1, V, Q) a = O1 ++ [(6, a)] := by
    unfold pS
    show (setl 1 V Q).2 ++ _ = _
    rw [sl]
  refine ⟨fun _ => ⟨⟨j', s1, es, kz⟩, (j', 1, V, Q), ⟨rcv, stv_e ncb' (fun z => n100 z.2), n100⟩, by rw [pe]; exact t6, by rw [pe, List.length_append, List.length_singleton]; omega⟩, fun z => absurd (show (1 : Int32) = 0 from z) (by decide), fun k hk => ?_, ?_, ?_⟩
  · show σ6.1 k = σ.1 k
    rw [f6.1.1.1.2 k (by simp only [List.mem_cons, List.not_mem_nil, or_false]; omega), b5 k (by omega)]; exact o57 k hk
  · show RF σ6.2.2
    rw [e6]; exact R5
  · show σ6.2.2 0 = σ.2.2 0
    rw [e6, e5]; exact r4
/-- put of the class -/
def CPQ (t : Nat → Int32) (n : Nat) (x1 : Int32) (B : Nat) (G : Nat → zFm) (σ : zS) (r : Int32 × zS) : Prop := (¬ isR (σ.1 B 0) x1 → r.1 = -2 ∧ r.2.2.1 = σ.2.1) ∧ (isR (σ.1 B 0) x1 → (¬ pO t n (σ.1 B 0) → r.1 = -4 ∧ r.2.2.1 = σ.2.1) ∧ (pO t n (σ.1 B 0) → ∃ d, pE t n (σ.1 B 0) d ∧ (∀ p, p < 10 → ∀ u, u < 1024 → bt (r.2.2.1 (B + 6 + 2 * p + 1)) u = (evs (2 ^ (σ.1 B 0).toInt.toNat) (pS d x1) (G, [])).1 p u) ∧ (∀ a, WR a → ¬ (B + 6 ≤ a ∧ a < B + 26) → r.2.2.1 a = σ.2.1 a) ∧ r.1.toInt = (ct (bt (r.2.2.1 (B + 6 + 2 * x1.toInt.toNat + 1))) 1024 : Int)))
theorem pE_H {d : Cv} {p : Nat} (hk : k ≤ 10) (hp : p < 10) (h : pE t n (nI k) d) : vds (2 ^ k) (pS d (nI p)) 0 ∧ hts (setl 1 d.2.2.1 d.2.2.2).2 0 = 1 ∧ vds (2 ^ k) (setl 1 d.2.2.1 d.2.2.2).2 0 := by
  have E := end_H (t := t) (n := n) (Rc_H (c := (0, 0, [], [])) hk ⟨⟨trivial, rfl⟩, trivial, Nat.zero_le _⟩ h.1) (stv_e1 h.2.1).1 h.2.2
  refine ⟨vds_1 E.2.1 ?_, E.2.2, E.2.1⟩
  rw [E.2.2]
  refine Or.inr (Or.inr (Or.inr (Or.inr (Or.inr (Or.inr ⟨rfl, ?_, Nat.le_refl _⟩)))))
  show 0 ≤ (nI p).toInt ∧ (nI p).toInt < 10
  rw [nI_toInt (by omega)]
  omega
theorem vl_put {G : Nat → zFm} (hN : 1048576 ≤ N) (hB : B = 2 ∨ B = 28) (hR : RF σ.2.2) (h4 : σ.2.2 0 4 = B) (ek : σ.1 B 0 = nI k) (hk : k ≤ 10) (hn : (σ.1 0 1).toInt = (n : Int) ∧ n ≤ 600) (hG : ∀ p, p < 10 → ∀ u, u < 1024 → G p u = true → u < 2 ^ k) (hr : ∀ p, p < 10 → ∀ u, u < 1024 → bt (σ.2.1 (B + 6 + 2 * p + 1)) u = G p u) : Pt (f_X11_put N 0 x1 σ) (CPQ (σ.1 1) n x1 B G σ) := by
  have wc := isWc2 hB
  rw [f_X11_put.eq_1]
  refine pt_gC (pt_zbq (vl_isRegister h4) (fun v hv => pt_if (fun z => ?_) (fun z => ?_)))
  · exact pt_pI (pt_some ⟨fun _ => ⟨rfl, rfl⟩, fun y => absurd y (hv.1 z)⟩)
  have hreg := hv.2 z
  obtain ⟨p, hp, ex⟩ := isR_n hreg
  refine pt_gR (v := 57) (hR 0 9 rfl) (pt_gR (v := 1) (hR 0 0 rfl) (pt_gI (pt_gR (v := B) h4 (pt_gI (pt_gC ?_)))))
  refine pt_zb (pt_and (vy_readSum (n := n) (a := x1) hN hR hn) (jf_X5_readSum (L := σ.2.1) rfl)) (fun v9 σ2 h2 => ?_)
  obtain ⟨⟨y1, y0, o57, R2, r2⟩, L2⟩ := h2
  have y1 : ¬ v9 = 0 → pO (σ.1 1) n (σ.1 B 0) ∧ ∃ d : Cv, pE (σ.1 1) n (σ.1 B 0) d ∧ St σ2 (pS d x1) ∧ (pS d x1).length ≤ 601 := y1
  have y0 : v9 = 0 → ¬ pO (σ.1 1) n (σ.1 B 0) := y0
  have o57 : ∀ k, k < 57 → σ2.1 k = σ.1 k := o57
  have R2 : RF σ2.2.2 := R2
  have r2 : σ2.2.2 0 = σ.2.2 0 := r2
  have L2 : σ2.2.1 = σ.2.1 := L2
  refine pt_gC (pt_zb (Q := fun r => (r.2.2.2 = σ2.2.2 ∧ ∀ k, k ≠ 0 → r.2.1 k = σ2.1 k) ∧ r.2.2.1 = σ2.2.1) (pt_and (vl_fault R2 (fun τ a b => ⟨a, b⟩)) vy_fault) (fun _ σ3 h3 => ?_))
  obtain ⟨⟨r3, o3⟩, L3⟩ := h3
  have r3 : σ3.2.2 = σ2.2.2 := r3
  have o3 : ∀ k, k ≠ 0 → σ3.1 k = σ2.1 k := o3
  have L3 : σ3.2.1 = σ.2.1 := (show σ3.2.1 = σ2.2.1 from L3).trans L2
  have R3 : RF σ3.2.2 := by rw [r3]; exact R2
  have h43 : σ3.2.2 0 4 = B := by rw [r3, r2]; exact h4
  refine pt_if (fun q => pt_some ⟨fun y => absurd hreg y, fun _ => ⟨fun _ => ⟨rfl, L3⟩, fun y => absurd y (y0 q)⟩⟩) (fun q => ?_)
  obtain ⟨po, d, hd, hs, hl⟩ := y1 q
  refine pt_gR (v := 65) (R3 0 10 rfl) (pt_gR (v := 57) (R3 0 9 rfl) (pt_gR (v := B) h43 (pt_gR (v := 99) (R3 0 11 rfl) (pt_gC ?_))))
  have hs3 : St σ3 (pS d x1) := St_k (by rw [o3 57 (by decide)]) (o3 58 (by decide)) (o3 59 (by decide)) hs
  have e0 : σ3.1 B 0 = nI k := by rw [o3 B (by omega), o57 B (by omega)]; exact ek
  have hd2 : pE (σ.1 1) n (nI k) d := by rw [← ek]; exact hd
  have H := pE_H hk hp hd2
  rw [← ex] at H
  refine pt_zb (v_run (G := G) wc R3 e0 hk hs3 hl H.1 hG (fun p hp u hu => by rw [L3]; exact hr p hp u hu)) (fun _ σ4 h4' => ?_)
  obtain ⟨F4, U4⟩ := h4'
  have F4 : FU B σ3 σ4 := F4
  have U4 : ∀ p, p < 10 → ∀ u, u < 1024 → bt (σ4.2.1 (B + 6 + 2 * p + 1)) u = (evs (2 ^ k) (pS d x1) (G, [])).1 p u := U4
  have R4 := F4.R R3
  have h44 : σ4.2.2 0 4 = B := by rw [F4.1]; exact h43
  rw [ex]
  refine pt_reg wc R4 h44 hp (pt_gC (pt_zbq (v_tally R4 (rgW wc R4 hp).2) (fun w hw => pt_some ⟨fun y => absurd (by rw [← ex]; exact hreg) y, fun _ => ⟨fun y => absurd po y, fun _ => ⟨d, hd, fun p hp u hu => ?_, fun a ha hn' => ?_, ?_⟩⟩⟩)))
  · show bt (σ4.2.1 (B + 6 + 2 * p + 1)) u = _
    rw [ek, iN (by omega), ← ex]; exact U4 p hp u hu
  · show σ4.2.1 a = _
    rw [F4.2.2 a ha hn', L3]
  · show w.toInt = (ct (bt (σ4.2.1 (B + 6 + 2 * (nI p).toInt.toNat + 1))) 1024 : Int)
    rw [iN (by omega)]; exact hw
end PUT
end Zq14_10
section Zq14_11
/-! ===== put of the reference, with values ===== -/
section RPUT
variable {N k n i : Nat} {σ τ : zS} {t : Nat → Int32} {x1 : Int32} {G : Nat → zFm}
def RPQ (t : Nat → Int32) (n : Nat) (x1 : Int32) (G : Nat → zFm) (σ : zS) (r : Int32 × zS) : Prop := (¬ isR (σ.1 219 0) x1 → r.1 = -2 ∧ r.2.1 220 = σ.1 220) ∧ (isR (σ.1 219 0) x1 → (¬ pO t n (σ.1 219 0) → r.1 = -4 ∧ r.2.1 220 = σ.1 220) ∧ (pO t n (σ.1 219 0) → ∃ d, pE t n (σ.1 219 0) d ∧ (∀ p, p < 10 → ∀ u, u < 1024 → rb (r.2.1 220) (1024 * p) u = (evs (2 ^ (σ.1 219 0).toInt.toNat) (pS d x1) (G, [])).1 p u) ∧ r.1 = nI (ct (rb (r.2.1 220) (1024 * x1.toInt.toNat)) (mn (σ.1 219 0)))))
theorem vq_p65 {p : Nat} {x : zFm} (hR : RF σ.2.2) (hB : ZB σ.1) (hn : 0 ≤ (σ.1 219 0).toInt ∧ (σ.1 219 0).toInt ≤ 10) (hp : p < 10) (hx : ∀ u, u < 1024 → rb (σ.1 226) 0 u = x u) : Pt (zlp (F_X12_put_65 N 218 (nI p)) N (0, σ)) (fun r => (∀ u, u < 1024 → rb (r.2.1 220) (1024 * p) u = x u) ∧ (∀ j, (j < 1024 * p ∨ 1024 * p + 1024 ≤ j) → r.2.1 220 j = σ.1 220 j) ∧ r.1 = nI (ct (rb (r.2.1 220) (1024 * p)) (mn (σ.1 219 0)))) := by
  refine pt_lp (fun y : Int32 × zS => ∃ l, (y.1 = nI l ∧ l ≤ 1024) ∧ FG [227] σ y.2 ∧ ZB y.2.1 ∧ ∀ u, u < l → y.2.1 227 u = σ.1 226 u) (fun again y hI ih => ?_) N _ ⟨0, ⟨rfl, Nat.zero_le _⟩, FG.rf, hB, fun u hu => absurd hu (Nat.not_lt_zero _)⟩
  obtain ⟨x2, τ⟩ := y
  obtain ⟨l, ⟨ex, hl⟩, hf, hZ, hu⟩ := hI
  have ex : x2 = nI l := ex
  subst ex
  have hf : FG [227] σ τ := hf
  have hZ : ZB τ.1 := hZ
  have hu : ∀ u, u < l → τ.1 227 u = σ.1 226 u := hu
  have R9 := hf.R hR
  have e19 : τ.1 219 = σ.1 219 := hf.2 219 (by decide)
  have e20 : τ.1 220 = σ.1 220 := hf.2 220 (by decide)
  rw [F_X12_put_65.eq_1]
  refine pt_if (fun q => ?_) (fun q => ?_)
  · have q : nI 1024 ≤ nI l := q
    rw [nlt (by omega) (by omega)] at q
    have M : Md 227 τ 1024 (fun u => x u = true) := Md_z hZ rfl (fun u h => by
      rw [← hx u h]
      unfold rb
      rw [Nat.zero_add, hu u (by omega)])
    refine pt_gC (pt_zb (vr_lays (p := p) R9 (by rw [e19]; exact hn) hp M) (fun w σ2 h => pt_some ?_))
    obtain ⟨_, a, b, c⟩ := h
    refine ⟨fun u h => Bool.eq_iff_iff.mpr (a u h), fun j hj => (b j hj).trans (congrFun e20 j), ?_⟩
    rw [← e19]; exact c
  · have q : ¬ nI 1024 ≤ nI l := q
    rw [nlt (by omega) (by omega)] at q
    refine pt_gR (v := 227) (R9 218 17 rfl) (pt_gR (v := 226) (R9 218 16 rfl) (pt_aI (pt_s16 ?_)))
    rw [iN (by omega), nI_s1 (by omega), hf.2 226 (by decide), nrz (hB 226 rfl l)]
    refine ih (nI (l + 1), _) ⟨l + 1, ⟨rfl, by omega⟩, hf.u (by decide), fun k hk j => ?_, fun u h' => ?_⟩
    · show (zI τ 227 _).1 k j = 0 ∨ (zI τ 227 _).1 k j = 1
      by_cases e : k = 227
      · subst e
        rw [zI_s, upd_i]
        split
        · exact hB 226 rfl l
        · exact hZ 227 hk j
      · rw [zI_n e]; exact hZ k hk j
    · show (zI τ 227 _).1 227 u = _
      rw [zI_s, upd_i]
      by_cases e : u = l
      · rw [if_pos e, e]
      · rw [if_neg e]; exact hu u (by omega)
theorem vr_put (hN : 1048576 ≤ N) (hR : RF σ.2.2) (hB : ZB σ.1) (hY : BYT (σ.1 224)) (ek : σ.1 219 0 = nI k) (hk : k ≤ 10) (ht : σ.1 224 = t) (hn : (σ.1 218 7).toInt = (n : Int) ∧ n ≤ 600) (hG : ∀ p, p < 10 → ∀ u, u < 1024 → G p u = true → u < 2 ^ k) (hr : ∀ p, p < 10 → ∀ u, u < 1024 → rb (σ.1 220) (1024 * p) u = G p u) : Pt (f_X12_put N 218 x1 σ) (RPQ t n x1 G σ) := by
  have k10 : (nI k).toInt = (k : Int) := nI_toInt (by omega)
  rw [f_X12_put.eq_1]
  refine pt_gC (pt_zbq (vr_isRegister hR) (fun v hv => pt_if (fun z => ?_) (fun z => ?_)))
  · exact pt_pIx (fun τ a b c => pt_some ⟨fun _ => ⟨rfl, b 220 (by decide)⟩, fun y => absurd y (hv.1 z)⟩)
  have hreg := hv.2 z
  obtain ⟨p, hp, ex⟩ := isR_n hreg
  have hp7 : 0 ≤ (σ.1 218 7).toInt ∧ (σ.1 218 7).toInt ≤ 600 := by omega
  refine pt_gC (pt_zb (pt_and (pt_ok (s_X12_begins hN hR hp7 hY)) (vr_begins hN hR hp7 hY)) (fun _ σ1 h1 => ?_))
  obtain ⟨⟨T1, ⟨K1, g1, e25, _⟩, _⟩, G1⟩ := h1
  have T1 : Tr [218] σ σ1 := T1
  have K1 : TOK σ1.1 := K1
  have g1 : σ1.1 218 14 = 0 := g1
  have e25 : σ1.1 218 25 = 0 := e25
  have G1 : RX σ1.1 (σ.1 224) (σ.1 218 7).toInt.toNat 0 := G1
  rw [ht, show (σ.1 218 7).toInt.toNat = n by omega] at G1
  have R1 := hR.tr T1
  have B1 : ZB σ1.1 := ZB.tr T1 (by decide) hB
  have Y1 : BYT (σ1.1 224) := by rw [T1.2 224 (by decide)]; exact hY
  have hb1 : RBs σ1 := ⟨⟨R1, K1⟩, Y1, B1⟩
  refine pt_gR (v := 219) (R1 218 1 rfl) (pt_aI ?_)
  rw [show (Int32.toInt 0).toNat = 0 from rfl, T1.2 219 (by decide), ek]
  refine pt_gR (v := 220) (R1 218 2 rfl) ?_
  have s25 : (σ1.1 218 25).toInt.toNat = 0 := by rw [e25]; rfl
  have sq : 0 ≤ (σ1.1 218 25).toInt ∧ (σ1.1 218 25).toInt ≤ 24 := by rw [e25]; decide
  have RG0 : RG (2 ^ k) ((G, []) : zEv) := ⟨hG, fun x hx => absurd hx List.not_mem_nil⟩
  refine pt_gC (pt_zb (pt_and (pt_ok (s_X12_readsSum_220_r (tx := t) (n := n) (i := 0) hN R1 K1 Y1 G1 g1 B1 (by rw [k10]; omega) (Nat.zero_le _) sq)) (vr_readsSum (O := []) (s0 := (G, [])) (c := 220) hN hk (Or.inl rfl) hb1 RG0 rfl trivial rfl G1 g1 (by rw [T1.2 220 (by decide)]; exact hr))) (fun _ σ2 h2 => ?_))
  obtain ⟨⟨T2, ⟨K2, _, u2, f2, _, B2⟩, _⟩, w2⟩ := h2
  have T2 : Tr [218, 226, 227, 228, 229, 230] σ1 σ2 := T2
  have K2 : TOK σ2.1 := K2
  have B2 : ZB σ2.1 := B2
  have u2 : σ2.1 218 14 = 0 → ∃ c : Cf, (Rch t n (nI k) ((0, false, [], (σ1.1 218 25).toInt.toNat) : Cf) c ∧ stp t n (nI k) c = some none ∧ ¬ true ∈ c.2.2.1) ∧ (RX σ2.1 t n c.1 ∧ c.1 ≤ n) ∧ c.2.2.2 = (σ2.1 218 25).toInt.toNat := u2
  have f2 : ¬ σ2.1 218 14 = 0 → ∃ c : Cf, Rch t n (nI k) ((0, false, [], (σ1.1 218 25).toInt.toNat) : Cf) c ∧ (stp t n (nI k) c = none ∨ (stp t n (nI k) c = some none ∧ true ∈ c.2.2.1)) := f2
  rw [s25] at u2 f2
  have w2 : σ2.1 218 14 = 0 → ∃ d : Cv, (Rc (stv t n (nI k)) (0, 0, [], []) d ∧ stv t n (nI k) d = some none ∧ ¬ 100 ∈ d.2.2.1) ∧ (RBs σ2 ∧ RX σ2.1 t n d.1) ∧ RR σ2 220 (2 ^ k) (evs (2 ^ k) (setl 1 d.2.2.1 d.2.2.2).2 (G, [])) (setl 1 d.2.2.1 d.2.2.2).1 := w2
  have R2 := R1.tr T2
  have e220 : σ2.1 220 = σ.1 220 := (T2.2 220 (by decide)).trans (T1.2 220 (by decide))
  have e219 : σ2.1 219 = σ.1 219 := (T2.2 219 (by decide)).trans (T1.2 219 (by decide))
  have bad : ∀ τ : zS, ¬ τ.1 218 14 = 0 → τ.1 220 = σ.1 220 → ¬ pO t n (σ.1 219 0) → Pt (J_X12_put_53 N 218 x1 τ) (RPQ t n x1 G σ) := fun τ hb9 e9 np => by
    rw [J_X12_put_53.eq_1]
    exact pt_gC (pt_zbq vr_good (fun v hq => pt_if (fun _ => pt_some ⟨fun y => absurd hreg y, fun _ => ⟨fun _ => ⟨rfl, e9⟩, fun y => absurd y np⟩⟩) (fun z => absurd (hq.2 z) hb9)))
  refine pt_gC (pt_zbq vr_good (fun v2 hq => pt_if (fun z => ?_) (fun z => ?_)))
  · refine bad σ2 (hq.1 z) e220 ?_
    obtain ⟨c, rc, w⟩ := f2 (hq.1 z)
    rw [ek]
    rintro ⟨j, s1, hs, _⟩
    rw [sumR_n rc w] at hs
    cases hs
  have g2 := hq.2 z
  obtain ⟨c, hc, ⟨Gc, _⟩, _⟩ := u2 g2
  have es : sumR t n (nI k) 0 0 = some (c.1, c.2.2.2) := sumR_s hc
  have kc : σ2.1 218 12 = tkK t n c.1 := Gc.2.2.1
  refine pt_gI (pt_if (fun y => ?_) (fun y => ?_))
  · have po : pO t n (σ.1 219 0) := by rw [ek]; exact ⟨c.1, c.2.2.2, es, kc.symm.trans y⟩
    obtain ⟨d, hd, ⟨hb2, _⟩, hr2⟩ := w2 g2
    have hd2 : pE t n (nI k) d := hd
    have H := pE_H hk hp hd2
    have eh := evs_H RG0 (O := (setl 1 d.2.2.1 d.2.2.2).2) H.2.2
    have eh2 : (evs (2 ^ k) (setl 1 d.2.2.1 d.2.2.2).2 (G, [])).2.length = 1 := eh.2.trans H.2.1
    rw [J_X12_put_53.eq_1]
    refine pt_gC (pt_zbq vr_good (fun v3 hq3 => pt_if (fun w => absurd g2 (hq3.1 w)) (fun _ => ?_)))
    obtain ⟨⟨G', S⟩, eS⟩ : ∃ s, s = evs (2 ^ k) (setl 1 d.2.2.1 d.2.2.2).2 (G, []) := ⟨_, rfl⟩
    rw [← eS] at eh2 hr2
    have eh2 : S.length = 1 := eh2
    cases S with
    | nil => exact absurd eh2 (by decide)
    | cons x S =>
      have z1 : S.length = 0 := by rw [List.length_cons] at eh2; omega
      have hx : ∀ u, u < 1024 → rb (σ2.1 226) 0 u = x u := fun u hu => by
        have := hr2.2.1.2.1 u hu
        rw [z1, Nat.mul_zero] at this
        exact this
      have hgr : ∀ p, p < 10 → ∀ u, u < 1024 → rb (σ2.1 220) (1024 * p) u = G' p u := hr2.2.2.1
      rw [ex]
      refine pt_w (vq_p65 (p := p) R2 B2 (by rw [e219, ek, k10]; omega) hp hx) (fun r h => ⟨fun y => absurd (by rw [← ex]; exact hreg) y, fun _ => ⟨fun y => absurd po y, fun _ => ⟨d, by rw [ek]; exact hd2, fun p' hp' u hu => ?_, ?_⟩⟩⟩)
      · rw [ek, iN (by omega)]
        unfold pS
        rw [evs_app, ← eS]
        show _ = (ev1 (2 ^ k) (6, nI p) (G', x :: S)).1 p' u
        rw [ev_6, iN (by omega)]
        by_cases e : p' = p
        · subst e
          show _ = (if p' = p' then x else G' p') u
          rw [if_pos rfl]; exact h.1 u hu
        · show _ = (if p' = p then x else G' p') u
          rw [if_neg e, ← hgr p' hp' u hu]
          unfold rb
          rw [h.2.1 _ (by omega)]
      · rw [iN (by omega), ← e219]; exact h.2.2
  · have np : ¬ pO t n (σ.1 219 0) := by
      rw [ek]
      rintro ⟨j, s1, hs, hk0⟩
      rw [es] at hs
      have : c.1 = j := congrArg Prod.fst (Option.some.inj hs)
      rw [← this] at hk0
      exact y (kc.trans hk0)
    refine pt_gC (pt_zb (pt_ok (s_X12_errs hN R2 K2 (by rw [T2.2 224 (by decide)]; exact Y1) (by decide))) (fun _ σ3 h3 => ?_))
    obtain ⟨T3, ⟨_, b3⟩, _⟩ := h3
    have T3 : Tr [218] σ2 σ3 := T3
    exact bad σ3 b3 ((T3.2 220 (by decide)).trans e220) np
end RPUT
end Zq14_11
section Zq14_12
/-! ===== edges of a mask: reach, labels, rings ===== -/
section GRAPH
theorem ct_eq1 {p : Nat → Bool} {b : Nat} (hp : p b = true) : ∀ {n : Nat}, b < n → ct (fun x => p x && decide (x = b)) n = 1
  | 0, h => absurd h (Nat.not_lt_zero _)
  | n + 1, h => by
    show ct (fun x => p x && decide (x = b)) n + (if (p n && decide (n = b)) = true then 1 else 0) = 1
    by_cases e : n = b
    · subst e
      rw [hp, decide_eq_true rfl, ct_0 (p := fun x => p x && decide (x = n)) (fun k hk => by
        show (p k && decide (k = n)) = false
        rw [decide_eq_false (show ¬ k = n by omega), Bool.and_false])]
      rfl
    · rw [ct_eq1 hp (show b < n by omega), decide_eq_false e, Bool.and_false]
      rfl
/-- one is taken out -/
theorem ct_rm {p : Nat → Bool} {b n : Nat} (hb : b < n) (hp : p b = true) : ct p n = 1 + ct (fun x => p x && !decide (x = b)) n := by
  rw [ct_add p (fun x => decide (x = b)) n, ct_eq1 hp hb]
theorem ct_u {p : Nat → Bool} {a b n : Nat} (h : ct p n ≤ 1) (ha : a < n) (hb : b < n) (pa : p a = true) (pb : p b = true) : a = b := by
  rw [ct_rm ha pa] at h
  have z := ct_z (p := fun x => p x && !decide (x = a)) (n := n) (by omega) b hb
  have z : (p b && !decide (b = a)) = false := z
  rw [pb, Bool.true_and] at z
  by_cases e : b = a
  · exact e.symm
  · rw [decide_eq_false e] at z; cases z
theorem ct_sub {p q : Nat → Bool} : ∀ {n : Nat}, (∀ k, k < n → p k = true → q k = true) → ct p n ≤ ct q n
  | 0, _ => Nat.le_refl _
  | n + 1, h => by
    show ct p n + (if p n = true then 1 else 0) ≤ ct q n + (if q n = true then 1 else 0)
    have := ct_sub (p := p) (q := q) (n := n) (fun k hk => h k (by omega))
    by_cases e : p n = true
    · rw [if_pos e, if_pos (h n (by omega) e)]; omega
    · rw [if_neg e]; omega
theorem ct_lt {p q : Nat → Bool} {n b : Nat} (h : ∀ k, k < n → p k = true → q k = true) (hb : b < n) (qb : q b = true) (pb : p b = false) : ct p n + 1 ≤ ct q n := by
  rw [ct_rm hb qb]
  have := ct_sub (p := p) (q := fun x => q x && !decide (x = b)) (n := n) (fun k hk pk => by
    show (q k && !decide (k = b)) = true
    have : ¬ k = b := fun e => by rw [e, pb] at pk; cases pk
    rw [h k hk pk, decide_eq_false this]; rfl)
  omega
/-- m edges, their ends -/
def Gr (m : Nat) (A B : Nat → Nat) : Prop := ∀ j, j < m → (A j < 8 ∧ B j < 8) ∧ A j ≠ B j
variable {m : Nat} {A B : Nat → Nat} {s c0 : Nat}
/-- what hangs on c0 -/
def Rb (m : Nat) (A B : Nat → Nat) (s c0 x : Nat) : Prop := ∀ P : Nat → Prop, P c0 → (∀ j, j < m → s.testBit j = true → P (A j) → P (B j)) → (∀ j, j < m → s.testBit j = true → P (B j) → P (A j)) → P x
theorem Rb.rf : Rb m A B s c0 c0 := fun _ h _ _ => h
theorem Rb.l {j : Nat} (hj : j < m) (b : s.testBit j = true) (h : Rb m A B s c0 (A j)) : Rb m A B s c0 (B j) := fun P h0 hl hr => hl j hj b (h P h0 hl hr)
theorem Rb.r {j : Nat} (hj : j < m) (b : s.testBit j = true) (h : Rb m A B s c0 (B j)) : Rb m A B s c0 (A j) := fun P h0 hl hr => hr j hj b (h P h0 hl hr)
/-! the reference's rounds -/
def rd1 (A B : Nat → Nat) (s j C : Nat) : Nat := if s.testBit j = true ∧ (C.testBit (A j) = true ∨ C.testBit (B j) = true) then C ||| (2 ^ A j ||| 2 ^ B j) else C
def rds (A B : Nat → Nat) (s : Nat) : Nat → Nat → Nat
  | 0, C => C
  | j + 1, C => rd1 A B s j (rds A B s j C)
def hg (m : Nat) (A B : Nat → Nat) (s c0 : Nat) : Nat → Nat
  | 0 => 2 ^ c0
  | r + 1 => rds A B s m (hg m A B s c0 r)
theorem rd1_b {j C x : Nat} : (rd1 A B s j C).testBit x = true ↔ C.testBit x = true ∨ ((s.testBit j = true ∧ (C.testBit (A j) = true ∨ C.testBit (B j) = true)) ∧ (x = A j ∨ x = B j)) := by
  unfold rd1
  by_cases q : s.testBit j = true ∧ (C.testBit (A j) = true ∨ C.testBit (B j) = true)
  · rw [if_pos q, Nat.testBit_or, Nat.testBit_or, Nat.testBit_two_pow, Nat.testBit_two_pow, Bool.or_eq_true, Bool.or_eq_true, decide_eq_true_iff, decide_eq_true_iff]
    constructor
    · rintro (h | h | h)
      · exact Or.inl h
      · exact Or.inr ⟨q, Or.inl h.symm⟩
      · exact Or.inr ⟨q, Or.inr h.symm⟩
    · rintro (h | ⟨_, h | h⟩)
      · exact Or.inl h
      · exact Or.inr (Or.inl h.symm)
      · exact Or.inr (Or.inr h.symm)
  · rw [if_neg q]
    exact ⟨Or.inl, fun h => h.elim id (fun z => absurd z.1 q)⟩
theorem rds_m {C x : Nat} (h : C.testBit x = true) : ∀ j, (rds A B s j C).testBit x = true
  | 0 => h
  | j + 1 => rd1_b.mpr (Or.inl (rds_m h j))
theorem rds_n {C i : Nat} (hb : s.testBit i = true) (h : C.testBit (A i) = true ∨ C.testBit (B i) = true) : ∀ j, i < j → (rds A B s j C).testBit (A i) = true ∧ (rds A B s j C).testBit (B i) = true
  | 0, hi => absurd hi (Nat.not_lt_zero _)
  | j + 1, hi => by
    show (rd1 A B s j (rds A B s j C)).testBit (A i) = true ∧ (rd1 A B s j (rds A B s j C)).testBit (B i) = true
    by_cases e : i = j
    · subst e
      have q : s.testBit i = true ∧ ((rds A B s i C).testBit (A i) = true ∨ (rds A B s i C).testBit (B i) = true) := ⟨hb, h.imp (fun z => rds_m z i) (fun z => rds_m z i)⟩
      exact ⟨rd1_b.mpr (Or.inr ⟨q, Or.inl rfl⟩), rd1_b.mpr (Or.inr ⟨q, Or.inr rfl⟩)⟩
    · have := rds_n hb h j (by omega)
      exact ⟨rd1_b.mpr (Or.inl this.1), rd1_b.mpr (Or.inl this.2)⟩
theorem rds_s {C : Nat} (h : ∀ x, C.testBit x = true → Rb m A B s c0 x) : ∀ j, j ≤ m → ∀ x, (rds A B s j C).testBit x = true → Rb m A B s c0 x
  | 0, _, x, hx => h x hx
  | j + 1, hj, x, hx => by
    have ih := rds_s h j (by omega)
    rcases rd1_b.mp hx with z | ⟨⟨b, z⟩, y⟩
    · exact ih x z
    · rcases z with z | z
      · rcases y with y | y
        · rw [y]; exact ih _ z
        · rw [y]; exact Rb.l (by omega) b (ih _ z)
      · rcases y with y | y
        · rw [y]; exact Rb.r (by omega) b (ih _ z)
        · rw [y]; exact ih _ z
theorem hg_s : ∀ r x, (hg m A B s c0 r).testBit x = true → Rb m A B s c0 x
  | 0, x, h => by
    have h : (2 ^ c0).testBit x = true := h
    rw [Nat.testBit_two_pow, decide_eq_true_iff] at h
    rw [← h]; exact Rb.rf
  | r + 1, x, h => rds_s (hg_s r) m (Nat.le_refl _) x h
theorem hg_0 : ∀ r, (hg m A B s c0 r).testBit c0 = true
  | 0 => by
    show (2 ^ c0).testBit c0 = true
    rw [Nat.testBit_two_pow]; exact decide_eq_true rfl
  | r + 1 => rds_m (hg_0 r) m
/-- closed under the edges of s -/
def Cd (m : Nat) (A B : Nat → Nat) (s C : Nat) : Prop := ∀ i, i < m → s.testBit i = true → (C.testBit (A i) = true ↔ C.testBit (B i) = true)
theorem rds_cd {C : Nat} (h : Cd m A B s C) : ∀ j, j ≤ m → ∀ x, ((rds A B s j C).testBit x = true ↔ C.testBit x = true)
  | 0, _, _ => Iff.rfl
  | j + 1, hj, x => by
    have ih := rds_cd h j (by omega)
    show (rd1 A B s j (rds A B s j C)).testBit x = true ↔ _
    rw [rd1_b, ih x, ih (A j), ih (B j)]
    constructor
    · rintro (z | ⟨⟨b, z⟩, y⟩)
      · exact z
      · have q := h j (by omega) b
        have a : C.testBit (A j) = true := z.elim id q.mpr
        rcases y with y | y
        · rw [y]; exact a
        · rw [y]; exact q.mp a
    · exact Or.inl
theorem cd_st {C : Nat} (hG : Gr m A B) (h : ∀ x, x < 8 → (rds A B s m C).testBit x = true → C.testBit x = true) : Cd m A B s C := fun i hi b => by
  have g := (hG i hi).1
  exact ⟨fun z => h _ g.2 (rds_n b (Or.inl z) m hi).2, fun z => h _ g.1 (rds_n b (Or.inr z) m hi).1⟩
theorem hg_cd (hG : Gr m A B) (h0 : c0 < 8) : Cd m A B s (hg m A B s c0 8) := by
  have k : ∀ r, Cd m A B s (hg m A B s c0 r) ∨ r + 1 ≤ ct (fun x => (hg m A B s c0 r).testBit x) 8 := by
    intro r
    induction r with
    | zero =>
      refine Or.inr ?_
      rw [ct_rm (p := fun x => (hg m A B s c0 0).testBit x) h0 (hg_0 0)]
      omega
    | succ r ih =>
      rcases ih with ih | ih
      · refine Or.inl (fun i hi b => ?_)
        show (rds A B s m (hg m A B s c0 r)).testBit (A i) = true ↔ (rds A B s m (hg m A B s c0 r)).testBit (B i) = true
        rw [rds_cd ih m (Nat.le_refl _), rds_cd ih m (Nat.le_refl _)]
        exact ih i hi b
      · by_cases q : ∀ x, x < 8 → (rds A B s m (hg m A B s c0 r)).testBit x = true → (hg m A B s c0 r).testBit x = true
        · have c := cd_st hG q
          refine Or.inl (fun i hi b => ?_)
          show (rds A B s m (hg m A B s c0 r)).testBit (A i) = true ↔ (rds A B s m (hg m A B s c0 r)).testBit (B i) = true
          rw [rds_cd c m (Nat.le_refl _), rds_cd c m (Nat.le_refl _)]
          exact c i hi b
        · obtain ⟨x, hx⟩ := Classical.not_forall.mp q
          have x8 : x < 8 := Classical.byContradiction (fun z => hx (fun y => absurd y z))
          have xb : (rds A B s m (hg m A B s c0 r)).testBit x = true := Classical.byContradiction (fun z => hx (fun _ y => absurd y z))
          have xn : (hg m A B s c0 r).testBit x = false := by
            cases y : (hg m A B s c0 r).testBit x with
            | false => rfl
            | true => exact absurd (fun _ _ => y) hx
          refine Or.inr ?_
          have := ct_lt (p := fun x => (hg m A B s c0 r).testBit x) (q := fun x => (hg m A B s c0 (r + 1)).testBit x) (n := 8) (fun k _ h => rds_m h m) x8 xb xn
          omega
  rcases k 8 with h | h
  · exact h
  · have := ct_le (fun x => (hg m A B s c0 8).testBit x) 8
    omega
/-! the class's labels -/
def lb1 (A B : Nat → Nat) (s j : Nat) (L : Nat → Nat) : Nat → Nat := fun x => if s.testBit j = true ∧ L x = L (B j) then L (A j) else L x
def Lb (A B : Nat → Nat) (s : Nat) : Nat → Nat → Nat
  | 0 => fun x => x
  | j + 1 => lb1 A B s j (Lb A B s j)
theorem Lb_n {j x : Nat} (h : ¬ s.testBit j = true) : Lb A B s (j + 1) x = Lb A B s j x := if_neg (fun z => h z.1)
theorem Lb_y {j x : Nat} (h : s.testBit j = true) : Lb A B s (j + 1) x = if Lb A B s j x = Lb A B s j (B j) then Lb A B s j (A j) else Lb A B s j x := by
  show (if s.testBit j = true ∧ _ then _ else _) = _
  by_cases q : Lb A B s j x = Lb A B s j (B j)
  · rw [if_pos ⟨h, q⟩, if_pos q]
  · rw [if_neg (fun z => q z.2), if_neg q]
theorem Lb_8 (hG : Gr m A B) : ∀ j, j ≤ m → ∀ x, x < 8 → Lb A B s j x < 8
  | 0, _, _, h => h
  | j + 1, hj, x, h => by
    have ih := Lb_8 hG j (by omega)
    by_cases b : s.testBit j = true
    · rw [Lb_y b]
      split
      · exact ih _ (hG j (by omega)).1.1
      · exact ih x h
    · rw [Lb_n b]; exact ih x h
theorem Lb_fx : ∀ j x, Lb A B s j (Lb A B s j x) = Lb A B s j x
  | 0, _ => rfl
  | j + 1, x => by
    have ih := Lb_fx j
    by_cases b : s.testBit j = true
    · rw [Lb_y b (x := x)]
      by_cases q : Lb A B s j x = Lb A B s j (B j)
      · rw [if_pos q, Lb_y b, ih]
        split <;> rfl
      · rw [if_neg q, Lb_y b, ih, if_neg q]
    · rw [Lb_n b, Lb_n b]; exact ih x
theorem Lb_ed : ∀ j i, i < j → s.testBit i = true → Lb A B s j (A i) = Lb A B s j (B i)
  | 0, i, h, _ => absurd h (Nat.not_lt_zero _)
  | j + 1, i, h, b => by
    by_cases e : i = j
    · subst e
      rw [Lb_y b, Lb_y b, if_pos rfl]
      split <;> rfl
    · have ih := Lb_ed j i (by omega) b
      by_cases bj : s.testBit j = true
      · rw [Lb_y bj, Lb_y bj, ih]
      · rw [Lb_n bj, Lb_n bj]; exact ih
theorem Lb_cl {C : Nat → Prop} (hC : ∀ i, i < m → s.testBit i = true → (C (A i) ↔ C (B i))) : ∀ j, j ≤ m → ∀ x y, Lb A B s j x = Lb A B s j y → (C x ↔ C y)
  | 0, _, x, y, h => by rw [show x = y from h]
  | j + 1, hj, x, y, h => by
    have ih := Lb_cl hC j (by omega)
    by_cases b : s.testBit j = true
    · have ab := hC j (by omega) b
      rw [Lb_y b, Lb_y b] at h
      by_cases qx : Lb A B s j x = Lb A B s j (B j)
      · rw [if_pos qx] at h
        by_cases qy : Lb A B s j y = Lb A B s j (B j)
        · exact ih x y (qx.trans qy.symm)
        · rw [if_neg qy] at h
          exact (ih x (B j) qx).trans (ab.symm.trans (ih (A j) y h))
      · rw [if_neg qx] at h
        by_cases qy : Lb A B s j y = Lb A B s j (B j)
        · rw [if_pos qy] at h
          exact (ih x (A j) h).trans (ab.trans (ih (B j) y qy.symm))
        · rw [if_neg qy] at h
          exact ih x y h
    · rw [Lb_n b, Lb_n b] at h
      exact ih x y h
theorem Lb_rb {x : Nat} (h : Rb m A B s c0 x) : Lb A B s m x = Lb A B s m c0 := by
  refine h (fun x => Lb A B s m x = Lb A B s m c0) rfl (fun j hj b ih => ?_) (fun j hj b ih => ?_)
  · rw [← Lb_ed m _ hj b]; exact ih
  · rw [Lb_ed m _ hj b]; exact ih
/-- how many labels there are -/
def fc (A B : Nat → Nat) (s j : Nat) : Nat := ct (fun x => decide (Lb A B s j x = x)) 8
def se (s j : Nat) : Nat := ct (fun i => s.testBit i) j
/-- edge j closes a ring -/
def rg (A B : Nat → Nat) (s j : Nat) : Prop := s.testBit j = true ∧ Lb A B s j (A j) = Lb A B s j (B j)
theorem se_s {j : Nat} : se s (j + 1) = se s j + (if s.testBit j = true then 1 else 0) := rfl
theorem fc_0 : fc A B s 0 = 8 := by
  unfold fc
  show ct (fun x => decide (x = x)) 8 = 8
  rw [ct_c (q := fun _ => true) (fun k _ => decide_eq_true rfl)]
  rfl
theorem fc_n {j : Nat} (h : ¬ s.testBit j = true ∨ rg A B s j) : fc A B s (j + 1) = fc A B s j := by
  unfold fc
  refine ct_c (fun x _ => ?_)
  have : Lb A B s (j + 1) x = Lb A B s j x := by
    rcases h with h | ⟨b, e⟩
    · exact Lb_n h
    · rw [Lb_y b]
      split
      · rename_i q; rw [e, q]
      · rfl
  show decide (Lb A B s (j + 1) x = x) = decide (Lb A B s j x = x)
  rw [this]
theorem fc_y {j : Nat} (hG : Gr m A B) (hj : j < m) (b : s.testBit j = true) (h : ¬ rg A B s j) : fc A B s j = 1 + fc A B s (j + 1) := by
  have ne : ¬ Lb A B s j (A j) = Lb A B s j (B j) := fun z => h ⟨b, z⟩
  have b8 := Lb_8 (s := s) hG j (by omega) (B j) (hG j hj).1.2
  unfold fc
  rw [ct_rm (p := fun x => decide (Lb A B s j x = x)) b8 (decide_eq_true (Lb_fx j (B j)))]
  congr 1
  refine ct_c (fun x _ => ?_)
  show (decide (Lb A B s j x = x) && !decide (x = Lb A B s j (B j))) = decide (Lb A B s (j + 1) x = x)
  rw [Lb_y b]
  by_cases q : Lb A B s j x = Lb A B s j (B j)
  · rw [if_pos q]
    by_cases e : x = Lb A B s j (B j)
    · rw [decide_eq_true e, decide_eq_false (show ¬ Lb A B s j (A j) = x from fun z => ne (z.trans e))]
      simp
    · rw [decide_eq_false (show ¬ Lb A B s j x = x from fun z => e (z.symm.trans q)), Bool.false_and]
      refine (decide_eq_false (fun z => ?_)).symm
      rw [← z, Lb_fx] at q
      exact ne q
  · rw [if_neg q]
    by_cases e : x = Lb A B s j (B j)
    · exact absurd (by rw [e]; exact Lb_fx j (B j)) q
    · rw [decide_eq_false e]
      simp
theorem fc_ge (hG : Gr m A B) : ∀ j, j ≤ m → 8 ≤ fc A B s j + se s j
  | 0, _ => by rw [fc_0]; omega
  | j + 1, hj => by
    have ih := fc_ge hG j (by omega)
    rw [se_s]
    by_cases b : s.testBit j = true
    · rw [if_pos b]
      by_cases r : rg A B s j
      · rw [fc_n (Or.inr r)]; omega
      · have := fc_y hG (by omega) b r; omega
    · rw [if_neg b, fc_n (Or.inl b)]; omega
theorem fc_e (hG : Gr m A B) : ∀ j, j ≤ m → (∀ i, i < j → ¬ rg A B s i) → fc A B s j + se s j = 8
  | 0, _, _ => by rw [fc_0]; rfl
  | j + 1, hj, h => by
    have ih := fc_e hG j (by omega) (fun i hi => h i (by omega))
    rw [se_s]
    by_cases b : s.testBit j = true
    · rw [if_pos b]
      have := fc_y hG (by omega) b (h j (by omega)); omega
    · rw [if_neg b, fc_n (Or.inl b)]; omega
theorem fc_r (hG : Gr m A B) {i : Nat} (hr : rg A B s i) : ∀ j, j ≤ m → i < j → 9 ≤ fc A B s j + se s j
  | 0, _, h => absurd h (Nat.not_lt_zero _)
  | j + 1, hj, h => by
    rw [se_s]
    by_cases e : i = j
    · subst e
      have := fc_ge (s := s) hG i (by omega)
      rw [if_pos hr.1, fc_n (Or.inr hr)]; omega
    · have ih := fc_r hG hr j (by omega) (by omega)
      by_cases b : s.testBit j = true
      · rw [if_pos b]
        by_cases r : rg A B s j
        · rw [fc_n (Or.inr r)]; omega
        · have := fc_y hG (by omega) b r; omega
      · rw [if_neg b, fc_n (Or.inl b)]; omega
/-- the crossings that any edge has -/
def Us (m : Nat) (A B : Nat → Nat) (X : Nat) : Prop := ∀ v, X.testBit v = true ↔ ∃ j, j < m ∧ (A j = v ∨ B j = v)
theorem Lb_un {X x : Nat} (hX : Us m A B X) (hx : ¬ X.testBit x = true) : ∀ j, j ≤ m → Lb A B s j x = x
  | 0, _ => rfl
  | j + 1, hj => by
    have ih := Lb_un hX hx j (by omega)
    by_cases b : s.testBit j = true
    · rw [Lb_y b]
      split
      · rename_i q
        have c := Lb_cl (C := fun v => X.testBit v = true) (fun i hi _ => ⟨fun _ => (hX _).mpr ⟨i, hi, Or.inr rfl⟩, fun _ => (hX _).mpr ⟨i, hi, Or.inl rfl⟩⟩) j (by omega) x (B j) q
        exact absurd (c.mpr ((hX _).mpr ⟨j, by omega, Or.inr rfl⟩)) hx
      · exact ih
    · rw [Lb_n b]; exact ih
theorem us_cl {X : Nat} (hX : Us m A B X) {x y : Nat} (h : Lb A B s m x = Lb A B s m y) : X.testBit x = true ↔ X.testBit y = true := Lb_cl (C := fun v => X.testBit v = true) (fun i hi _ => ⟨fun _ => (hX _).mpr ⟨i, hi, Or.inr rfl⟩, fun _ => (hX _).mpr ⟨i, hi, Or.inl rfl⟩⟩) m (Nat.le_refl _) x y h
/-- labels split: those of crossings without edges, the others -/
theorem fc_sp {X : Nat} (hX : Us m A B X) : fc A B s m + ct (fun x => X.testBit x) 8 = ct (fun x => decide (Lb A B s m x = x) && X.testBit x) 8 + 8 := by
  unfold fc
  rw [ct_add (fun x => decide (Lb A B s m x = x)) (fun x => X.testBit x) 8]
  have e : ct (fun i => decide (Lb A B s m i = i) && !X.testBit i) 8 = ct (fun i => !X.testBit i) 8 := ct_c (fun k _ => by
    show (decide (Lb A B s m k = k) && !X.testBit k) = !X.testBit k
    cases h : X.testBit k with
    | true => rw [Bool.not_true, Bool.and_false]
    | false => rw [decide_eq_true (Lb_un hX (by rw [h]; simp) m (Nat.le_refl _))]; rfl)
  have t := ct_add (fun _ => true) (fun x => X.testBit x) 8
  have t8 : ct (fun _ => true) 8 = 8 := rfl
  have t1 : ct (fun i => true && X.testBit i) 8 = ct (fun x => X.testBit x) 8 := ct_c (fun _ _ => Bool.true_and _)
  have t2 : ct (fun i => true && !X.testBit i) 8 = ct (fun x => !X.testBit x) 8 := ct_c (fun _ _ => Bool.true_and _)
  rw [t8, t1, t2] at t
  rw [e]
  omega
theorem tree_1 {X : Nat} (hG : Gr m A B) (hX : Us m A B X) (h0 : X.testBit c0 = true) (hr : ∀ i, i < m → ¬ rg A B s i) (hs : se s m + 1 = ct (fun x => X.testBit x) 8) : ∀ x, X.testBit x = true → (hg m A B s c0 8).testBit x = true := by
  have lt8 : ∀ v, X.testBit v = true → v < 8 := fun v hv => by
    obtain ⟨j, hj, e⟩ := (hX v).mp hv
    have g := (hG j hj).1
    omega
  have f := fc_e (s := s) hG m (Nat.le_refl _) hr
  have sp := fc_sp (s := s) hX
  have one : ct (fun x => decide (Lb A B s m x = x) && X.testBit x) 8 ≤ 1 := by omega
  intro x hx
  have r : ∀ v, X.testBit v = true → (Lb A B s m v < 8 ∧ (decide (Lb A B s m (Lb A B s m v) = Lb A B s m v) && X.testBit (Lb A B s m v)) = true) := fun v hv => by
    refine ⟨Lb_8 hG m (Nat.le_refl _) v (lt8 v hv), ?_⟩
    rw [decide_eq_true (Lb_fx m v), Bool.true_and]
    exact (us_cl hX (Lb_fx m v)).mpr hv
  have e : Lb A B s m x = Lb A B s m c0 := ct_u one (r x hx).1 (r c0 h0).1 (r x hx).2 (r c0 h0).2
  exact (Lb_cl (C := fun v => (hg m A B s c0 8).testBit v = true) (hg_cd hG (lt8 c0 h0)) m (Nat.le_refl _) x c0 e).mpr (hg_0 8)
theorem tree_2 {X : Nat} (hG : Gr m A B) (hX : Us m A B X) (h0 : X.testBit c0 = true) (hc : ∀ x, X.testBit x = true → (hg m A B s c0 8).testBit x = true) (hs : se s m + 1 = ct (fun x => X.testBit x) 8) : ∀ i, i < m → ¬ rg A B s i := by
  intro i hi hr
  have f := fc_r hG hr m (Nat.le_refl _) hi
  have sp := fc_sp (s := s) hX
  have lt8 : ∀ v, X.testBit v = true → v < 8 := fun v hv => by
    obtain ⟨j, hj, e⟩ := (hX v).mp hv
    have g := (hG j hj).1
    omega
  have one : ct (fun x => decide (Lb A B s m x = x) && X.testBit x) 8 ≤ 1 := by
    have : ct (fun x => decide (Lb A B s m x = x) && X.testBit x) 8 ≤ ct (fun x => true && decide (x = Lb A B s m c0)) 8 := ct_sub (fun k _ h => by
      have h : (decide (Lb A B s m k = k) && X.testBit k) = true := h
      rw [Bool.and_eq_true, decide_eq_true_iff] at h
      show (true && decide (k = Lb A B s m c0)) = true
      rw [Bool.true_and, decide_eq_true_iff, ← Lb_rb (hg_s 8 k (hc k h.2))]
      exact h.1.symm)
    rw [ct_eq1 (p := fun _ => true) rfl (Lb_8 hG m (Nat.le_refl _) c0 (lt8 c0 h0))] at this
    exact this
  omega
end GRAPH
end Zq14_12
section Zq14_13
/-! ===== degrees: pairs, covers, ways ===== -/
section GRAPH2
variable {m : Nat} {A B : Nat → Nat} {s : Nat}
/-- edge i of s has the end v -/
def eb (A B : Nat → Nat) (s v i : Nat) : Bool := s.testBit i && (decide (A i = v) || decide (B i = v))
theorem eb_t {v i : Nat} : eb A B s v i = true ↔ s.testBit i = true ∧ (A i = v ∨ B i = v) := by
  unfold eb
  rw [Bool.and_eq_true, Bool.or_eq_true, decide_eq_true_iff, decide_eq_true_iff]
def dg (A B : Nat → Nat) (s j v : Nat) : Nat := ct (eb A B s v) j
theorem dg_s {j v : Nat} : dg A B s (j + 1) v = dg A B s j v + (if eb A B s v j = true then 1 else 0) := rfl
/-- crossings that s touches -/
def tc (A B : Nat → Nat) (s : Nat) : Nat → Nat
  | 0 => 0
  | j + 1 => if s.testBit j = true then tc A B s j ||| (2 ^ A j ||| 2 ^ B j) else tc A B s j
theorem tc_n {j : Nat} (h : ¬ s.testBit j = true) : tc A B s (j + 1) = tc A B s j := if_neg h
theorem tc_y {j v : Nat} (h : s.testBit j = true) : (tc A B s (j + 1)).testBit v = ((tc A B s j).testBit v || decide (v = A j) || decide (v = B j)) := by
  show (if s.testBit j = true then _ else _ : Nat).testBit v = _
  rw [if_pos h, Nat.testBit_or, Nat.testBit_or, Nat.testBit_two_pow, Nat.testBit_two_pow, Bool.or_assoc]
  rw [show decide (A j = v) = decide (v = A j) from decide_eq_decide.mpr ⟨Eq.symm, Eq.symm⟩, show decide (B j = v) = decide (v = B j) from decide_eq_decide.mpr ⟨Eq.symm, Eq.symm⟩]
theorem tc_d : ∀ j v, (tc A B s j).testBit v = true ↔ 0 < dg A B s j v
  | 0, v => by
    show (0 : Nat).testBit v = true ↔ 0 < 0
    rw [Nat.zero_testBit]
    exact ⟨fun h => (by cases h), fun h => absurd h (Nat.lt_irrefl _)⟩
  | j + 1, v => by
    have ih := tc_d j v
    rw [dg_s]
    by_cases b : s.testBit j = true
    · rw [tc_y b, Bool.or_eq_true, Bool.or_eq_true, decide_eq_true_iff, decide_eq_true_iff, ih]
      by_cases q : eb A B s v j = true
      · rw [if_pos q]
        have := (eb_t.mp q).2
        constructor
        · intro _; omega
        · intro _
          rcases this with z | z
          · exact Or.inl (Or.inr z.symm)
          · exact Or.inr z.symm
      · rw [if_neg q]
        constructor
        · rintro ((h | h) | h)
          · exact h
          · exact absurd (eb_t.mpr ⟨b, Or.inl h.symm⟩) q
          · exact absurd (eb_t.mpr ⟨b, Or.inr h.symm⟩) q
        · intro h; exact Or.inl (Or.inl h)
    · rw [tc_n b, ih, if_neg (fun q => b (eb_t.mp q).1), Nat.add_zero]
theorem ct_in {p : Nat → Bool} {a n : Nat} (ha : a < n) : ct (fun x => p x || decide (x = a)) n = ct p n + (if p a = true then 0 else 1) := by
  by_cases q : p a = true
  · rw [if_pos q]
    refine ct_c (fun k _ => ?_)
    show (p k || decide (k = a)) = p k
    by_cases e : k = a
    · rw [e, q]; rfl
    · rw [decide_eq_false e, Bool.or_false]
  · rw [if_neg q, ct_rm (p := fun x => p x || decide (x = a)) ha (by rw [decide_eq_true rfl, Bool.or_true]), Nat.add_comm]
    congr 1
    refine ct_c (fun k _ => ?_)
    show ((p k || decide (k = a)) && !decide (k = a)) = p k
    by_cases e : k = a
    · rw [e, decide_eq_true rfl]
      cases h : p a with
      | true => exact absurd h q
      | false => rfl
    · rw [decide_eq_false e, Bool.or_false]
      cases p k <;> rfl
theorem pairs_ (hG : Gr m A B) : ∀ j, j ≤ m → ct (fun x => (tc A B s j).testBit x) 8 ≤ 2 * se s j ∧ (ct (fun x => (tc A B s j).testBit x) 8 = 2 * se s j ↔ ∀ v, v < 8 → dg A B s j v ≤ 1)
  | 0, _ => by
    have e : ct (fun x => (tc A B s 0).testBit x) 8 = 0 := ct_0 (fun k _ => Nat.zero_testBit k)
    rw [e]
    exact ⟨Nat.zero_le _, fun _ v _ => Nat.zero_le _, fun _ => rfl⟩
  | j + 1, hj => by
    have ih := pairs_ hG j (by omega)
    rw [se_s]
    by_cases b : s.testBit j = true
    · obtain ⟨⟨a8, b8⟩, ne⟩ := hG j (by omega)
      have e : ct (fun x => (tc A B s (j + 1)).testBit x) 8 = ct (fun x => (tc A B s j).testBit x) 8 + (if (tc A B s j).testBit (A j) = true then 0 else 1) + (if (tc A B s j).testBit (B j) = true then 0 else 1) := by
        rw [ct_c (q := fun x => ((tc A B s j).testBit x || decide (x = A j)) || decide (x = B j)) (fun k _ => tc_y b)]
        rw [ct_in (p := fun x => (tc A B s j).testBit x || decide (x = A j)) b8, ct_in a8, decide_eq_false (show ¬ B j = A j from fun z => ne z.symm), Bool.or_false]
      rw [e, if_pos b]
      have da := tc_d (A := A) (B := B) (s := s) j (A j)
      have db := tc_d (A := A) (B := B) (s := s) j (B j)
      have dv : ∀ v, dg A B s (j + 1) v = dg A B s j v + (if v = A j ∨ v = B j then 1 else 0) := fun v => by
        rw [dg_s]
        by_cases q : v = A j ∨ v = B j
        · rw [if_pos q, if_pos (eb_t.mpr ⟨b, q.imp Eq.symm Eq.symm⟩)]
        · rw [if_neg q, if_neg (fun z => q ((eb_t.mp z).2.imp Eq.symm Eq.symm))]
      refine ⟨?_, ?_⟩
      · have := ih.1
        split <;> split <;> omega
      · constructor
        · intro h
          have z : ¬ (tc A B s j).testBit (A j) = true ∧ ¬ (tc A B s j).testBit (B j) = true ∧ ct (fun x => (tc A B s j).testBit x) 8 = 2 * se s j := by
            have := ih.1
            refine ⟨fun y => ?_, fun y => ?_, ?_⟩
            · rw [if_pos y] at h
              split at h <;> omega
            · rw [if_pos y] at h
              split at h <;> omega
            · split at h <;> split at h <;> omega
          have old := ih.2.mp z.2.2
          intro v hv
          rw [dv]
          by_cases q : v = A j ∨ v = B j
          · rw [if_pos q]
            have : ¬ 0 < dg A B s j v := by
              rcases q with q | q
              · rw [q, ← da]; exact z.1
              · rw [q, ← db]; exact z.2.1
            omega
          · rw [if_neg q]; exact old v hv
        · intro h
          have old : ∀ v, v < 8 → dg A B s j v ≤ 1 := fun v hv => by
            have := h v hv
            rw [dv] at this
            omega
          have e2 := ih.2.mpr old
          have za : ¬ (tc A B s j).testBit (A j) = true := fun y => by
            have := h (A j) a8
            rw [dv, if_pos (Or.inl rfl)] at this
            have := da.mp y
            omega
          have zb : ¬ (tc A B s j).testBit (B j) = true := fun y => by
            have := h (B j) b8
            rw [dv, if_pos (Or.inr rfl)] at this
            have := db.mp y
            omega
          rw [if_neg za, if_neg zb]
          omega
    · have dv : ∀ v, dg A B s (j + 1) v = dg A B s j v := fun v => by
        rw [dg_s, if_neg (fun q => b (eb_t.mp q).1), Nat.add_zero]
      rw [tc_n b, if_neg b, Nat.add_zero]
      refine ⟨ih.1, ih.2.trans ⟨fun h v hv => by rw [dv]; exact h v hv, fun h v hv => by rw [← dv]; exact h v hv⟩⟩
theorem cover_ {X : Nat} (hX : Us m A B X) : tc A B s m = X ↔ ∀ v, X.testBit v = true → 0 < dg A B s m v := by
  constructor
  · intro h v hv
    rw [← h] at hv
    exact (tc_d m v).mp hv
  · intro h
    apply Nat.eq_of_testBit_eq
    intro v
    rw [Bool.eq_iff_iff]
    refine ⟨fun z => ?_, fun z => (tc_d m v).mpr (h v z)⟩
    have z := (tc_d m v).mp z
    have : ¬ ct (eb A B s v) m = 0 := by unfold dg at z; omega
    obtain ⟨j, hj, e⟩ := ct_ex.mp this
    exact (hX v).mpr ⟨j, hj, (eb_t.mp e).2⟩
/-! ways -/
def Ac (A B : Nat → Nat) (j v w : Nat) : Prop := (A j = v ∧ B j = w) ∨ (B j = v ∧ A j = w)
def WyN (m : Nat) (A B : Nat → Nat) (g : Nat) : Nat → Nat → Nat → Nat → Nat → Prop
  | 0, _, _, _, _ => False
  | k + 1, v, V, U, r => (∃ j, j < m ∧ Ac A B j v g ∧ V.testBit g = false ∧ r = U ||| 2 ^ j) ∨ ∃ j w, j < m ∧ Ac A B j v w ∧ V.testBit w = false ∧ w ≠ g ∧ WyN m A B g k w (V ||| 2 ^ w) (U ||| 2 ^ j) r
def Wy (m : Nat) (A B : Nat → Nat) (g v V U r : Nat) : Prop := ∃ k, WyN m A B g k v V U r
theorem Wy.last {g v V U j : Nat} (hj : j < m) (a : Ac A B j v g) (b : V.testBit g = false) : Wy m A B g v V U (U ||| 2 ^ j) := ⟨1, Or.inl ⟨j, hj, a, b, rfl⟩⟩
theorem Wy.step {g v V U j w r : Nat} (hj : j < m) (a : Ac A B j v w) (b : V.testBit w = false) (c : w ≠ g) (h : Wy m A B g w (V ||| 2 ^ w) (U ||| 2 ^ j) r) : Wy m A B g v V U r := by
  obtain ⟨k, h⟩ := h
  exact ⟨k + 1, Or.inr ⟨j, w, hj, a, b, c, h⟩⟩
theorem Wy.cs {g v V U r : Nat} (h : Wy m A B g v V U r) : (∃ j, j < m ∧ Ac A B j v g ∧ V.testBit g = false ∧ r = U ||| 2 ^ j) ∨ ∃ j w, j < m ∧ Ac A B j v w ∧ V.testBit w = false ∧ w ≠ g ∧ Wy m A B g w (V ||| 2 ^ w) (U ||| 2 ^ j) r := by
  obtain ⟨k, h⟩ := h
  cases k with
  | zero => exact h.elim
  | succ k =>
    rcases h with h | ⟨j, w, a, b, c, d, e⟩
    · exact Or.inl h
    · exact Or.inr ⟨j, w, a, b, c, d, k, e⟩
theorem Wy_ind {g : Nat} {P : Nat → Nat → Nat → Nat → Prop} (hl : ∀ v V U j, j < m → Ac A B j v g → V.testBit g = false → P v V U (U ||| 2 ^ j)) (hs : ∀ v V U j w r, j < m → Ac A B j v w → V.testBit w = false → w ≠ g → P w (V ||| 2 ^ w) (U ||| 2 ^ j) r → P v V U r) {v V U r : Nat} (h : Wy m A B g v V U r) : P v V U r := by
  obtain ⟨k, h⟩ := h
  induction k generalizing v V U r with
  | zero => exact h.elim
  | succ k ih =>
    rcases h with ⟨j, a, b, c, rfl⟩ | ⟨j, w, a, b, c, d, e⟩
    · exact hl _ _ _ _ a b c
    · exact hs _ _ _ _ _ _ a b c d (ih e)
theorem orb {U j i : Nat} : (U ||| 2 ^ j).testBit i = true ↔ U.testBit i = true ∨ i = j := by
  rw [Nat.testBit_or, Nat.testBit_two_pow, Bool.or_eq_true, decide_eq_true_iff]
  exact ⟨fun h => h.imp id Eq.symm, fun h => h.imp id Eq.symm⟩
theorem orn {U j i : Nat} : (U ||| 2 ^ j).testBit i = false ↔ U.testBit i = false ∧ ¬ i = j := by
  rw [← Bool.not_eq_true, orb]
  constructor
  · intro h
    refine ⟨?_, fun z => h (Or.inr z)⟩
    cases q : U.testBit i with
    | false => rfl
    | true => exact absurd (Or.inl q) h
  · rintro ⟨a, b⟩ (h | h)
    · rw [a] at h; cases h
    · exact b h
/-- an edge more -/
theorem dg_o {U j : Nat} (hj : j < m) (hn : U.testBit j = false) (v : Nat) : dg A B (U ||| 2 ^ j) m v = dg A B U m v + (if A j = v ∨ B j = v then 1 else 0) := by
  unfold dg
  by_cases q : A j = v ∨ B j = v
  · rw [if_pos q, ct_rm (p := eb A B (U ||| 2 ^ j) v) hj (eb_t.mpr ⟨orb.mpr (Or.inr rfl), q⟩), Nat.add_comm]
    congr 1
    refine ct_c (fun k _ => ?_)
    show (eb A B (U ||| 2 ^ j) v k && !decide (k = j)) = eb A B U v k
    by_cases e : k = j
    · subst e
      rw [decide_eq_true rfl]
      cases h : eb A B U v k with
      | false => rw [Bool.not_true, Bool.and_false]
      | true => rw [(eb_t.mp h).1] at hn; cases hn
    · rw [decide_eq_false e, Bool.not_false, Bool.and_true, Bool.eq_iff_iff, eb_t, eb_t, orb]
      exact ⟨fun h => ⟨h.1.elim id (fun z => absurd z e), h.2⟩, fun h => ⟨Or.inl h.1, h.2⟩⟩
  · rw [if_neg q, Nat.add_zero]
    refine ct_c (fun k _ => ?_)
    rw [Bool.eq_iff_iff, eb_t, eb_t, orb]
    exact ⟨fun h => ⟨h.1.elim id (fun z => absurd (by rw [← z]; exact h.2) q), h.2⟩, fun h => ⟨Or.inl h.1, h.2⟩⟩
theorem dg_0 (v : Nat) : dg A B 0 m v = 0 := ct_0 (fun k _ => by
  cases h : eb A B 0 v k with
  | false => rfl
  | true =>
    have := (eb_t.mp h).1
    rw [Nat.zero_testBit] at this
    cases this)
/-- what a walk adds -/
theorem Wy_D (hG : Gr m A B) {g v V U r : Nat} (h : Wy m A B g v V U r) (hv : V.testBit v = true) (hg : V.testBit g = false) : ∃ D, (∀ i, r.testBit i = true ↔ (U.testBit i = true ∨ D.testBit i = true)) ∧ (∀ i, D.testBit i = true → i < m) ∧ (dg A B D m v = 1 ∧ dg A B D m g = 1) ∧ (∀ x, x ≠ v → x ≠ g → (dg A B D m x = 0 ∨ dg A B D m x = 2) ∧ (V.testBit x = true → dg A B D m x = 0)) ∧ ∀ C : Nat, Cd m A B D C → C.testBit v = true → ∀ x, 0 < dg A B D m x → C.testBit x = true := by
  revert hv hg
  refine Wy_ind (P := fun v V U r => V.testBit v = true → V.testBit g = false → ∃ D, (∀ i, r.testBit i = true ↔ (U.testBit i = true ∨ D.testBit i = true)) ∧ (∀ i, D.testBit i = true → i < m) ∧ (dg A B D m v = 1 ∧ dg A B D m g = 1) ∧ (∀ x, x ≠ v → x ≠ g → (dg A B D m x = 0 ∨ dg A B D m x = 2) ∧ (V.testBit x = true → dg A B D m x = 0)) ∧ ∀ C : Nat, Cd m A B D C → C.testBit v = true → ∀ x, 0 < dg A B D m x → C.testBit x = true) ?_ ?_ h
  · intro v V U j hj ac hV hv hg
    have vg : v ≠ g := fun e => by rw [e, hg] at hv; cases hv
    have d1 : ∀ x, dg A B (0 ||| 2 ^ j) m x = (if A j = x ∨ B j = x then 1 else 0) := fun x => by rw [dg_o hj (Nat.zero_testBit j), dg_0, Nat.zero_add]
    have ends : ∀ x, (A j = x ∨ B j = x) ↔ (x = v ∨ x = g) := fun x => by
      rcases ac with ⟨a, b⟩ | ⟨a, b⟩
      · rw [a, b]; exact ⟨fun z => z.imp Eq.symm Eq.symm, fun z => z.imp Eq.symm Eq.symm⟩
      · rw [a, b]; exact ⟨fun z => z.elim (fun y => Or.inr y.symm) (fun y => Or.inl y.symm), fun z => z.elim (fun y => Or.inr y.symm) (fun y => Or.inl y.symm)⟩
    refine ⟨0 ||| 2 ^ j, fun i => ?_, fun i hi => ?_, ⟨?_, ?_⟩, fun x h1 h2 => ?_, fun C hC hCv x hx => ?_⟩
    · rw [orb, orb, Nat.zero_testBit]
      exact ⟨fun h => h.imp id Or.inr, fun h => h.imp id (fun z => z.elim (fun y => by cases y) id)⟩
    · rcases orb.mp hi with z | z
      · rw [Nat.zero_testBit] at z; cases z
      · rw [z]; exact hj
    · rw [d1, if_pos ((ends v).mpr (Or.inl rfl))]
    · rw [d1, if_pos ((ends g).mpr (Or.inr rfl))]
    · have : dg A B (0 ||| 2 ^ j) m x = 0 := by
        rw [d1, if_neg (fun z => ((ends x).mp z).elim h1 h2)]
      exact ⟨Or.inl this, fun _ => this⟩
    · rw [d1] at hx
      by_cases q : A j = x ∨ B j = x
      · have b : (0 ||| 2 ^ j).testBit j = true := orb.mpr (Or.inr rfl)
        have c := hC j hj b
        rcases (ends x).mp q with e | e
        · rw [e]; exact hCv
        · rw [e]
          rcases ac with ⟨a, b⟩ | ⟨a, b⟩
          · rw [a, b] at c; exact c.mp hCv
          · rw [a, b] at c; exact c.mpr hCv
      · rw [if_neg q] at hx; exact absurd hx (Nat.lt_irrefl _)
  · intro v V U j w r hj ac hV wg ih hv hg
    have ih := ih
    have vg : v ≠ g := fun e => by rw [e, hg] at hv; cases hv
    have vw : v ≠ w := fun e => by rw [e, hV] at hv; cases hv
    obtain ⟨D, hr, hm, ⟨d1, d2⟩, dx, hcl⟩ := ih (orb.mpr (Or.inr rfl)) (orn.mpr ⟨hg, fun z => wg z.symm⟩)
    have dv0 : dg A B D m v = 0 := (dx v vw vg).2 (orb.mpr (Or.inl hv))
    have ends : ∀ x, (A j = x ∨ B j = x) ↔ (x = v ∨ x = w) := fun x => by
      rcases ac with ⟨a, b⟩ | ⟨a, b⟩
      · rw [a, b]; exact ⟨fun z => z.imp Eq.symm Eq.symm, fun z => z.imp Eq.symm Eq.symm⟩
      · rw [a, b]; exact ⟨fun z => z.elim (fun y => Or.inr y.symm) (fun y => Or.inl y.symm), fun z => z.elim (fun y => Or.inr y.symm) (fun y => Or.inl y.symm)⟩
    have jn : D.testBit j = false := by
      cases h : D.testBit j with
      | false => rfl
      | true =>
        have : ¬ ct (eb A B D v) m = 0 := ct_ex.mpr ⟨j, hj, eb_t.mpr ⟨h, (ends v).mpr (Or.inl rfl)⟩⟩
        exact absurd dv0 this
    have d : ∀ x, dg A B (D ||| 2 ^ j) m x = dg A B D m x + (if x = v ∨ x = w then 1 else 0) := fun x => by
      rw [dg_o hj jn]
      by_cases q : x = v ∨ x = w
      · rw [if_pos q, if_pos ((ends x).mpr q)]
      · rw [if_neg q, if_neg (fun z => q ((ends x).mp z))]
    refine ⟨D ||| 2 ^ j, fun i => ?_, fun i hi => ?_, ⟨?_, ?_⟩, fun x h1 h2 => ?_, fun C hC hCv x hx => ?_⟩
    · rw [hr i, orb, orb]
      constructor
      · rintro ((z | z) | z)
        · exact Or.inl z
        · exact Or.inr (Or.inr z)
        · exact Or.inr (Or.inl z)
      · rintro (z | z | z)
        · exact Or.inl (Or.inl z)
        · exact Or.inr z
        · exact Or.inl (Or.inr z)
    · rcases orb.mp hi with z | z
      · exact hm i z
      · rw [z]; exact hj
    · rw [d, dv0, if_pos (Or.inl rfl)]
    · rw [d, d2, if_neg (fun z => z.elim (fun y => vg y.symm) (fun y => wg y.symm))]
    · by_cases e : x = w
      · subst e
        have xn : ¬ V.testBit x = true := by rw [hV]; simp
        refine ⟨Or.inr ?_, fun z => absurd z xn⟩
        rw [d, d1, if_pos (Or.inr rfl)]
      · have dd := dx x e h2
        have en : dg A B (D ||| 2 ^ j) m x = dg A B D m x := by rw [d, if_neg (fun z => z.elim h1 e), Nat.add_zero]
        rw [en]
        exact ⟨dd.1, fun z => dd.2 (orb.mpr (Or.inl z))⟩
    · have cj := hC j hj (orb.mpr (Or.inr rfl))
      have cw : C.testBit w = true := by
        rcases ac with ⟨a, b⟩ | ⟨a, b⟩
        · rw [a, b] at cj; exact cj.mp hCv
        · rw [a, b] at cj; exact cj.mpr hCv
      have cD : Cd m A B D C := fun i hi b => hC i hi (orb.mpr (Or.inl b))
      rw [d] at hx
      by_cases q : x = v ∨ x = w
      · rcases q with q | q
        · rw [q]; exact hCv
        · rw [q]; exact cw
      · rw [if_neg q, Nat.add_zero] at hx
        exact hcl C cD cw x hx
/-- what the reference asks of a way -/
def IsW (m : Nat) (A B : Nat → Nat) (s v g : Nat) : Prop := (dg A B s m v = 1 ∧ dg A B s m g = 1) ∧ ∀ x, x < 8 → (0 < dg A B s m x → (hg m A B s v 8).testBit x = true) ∧ (x ≠ v → x ≠ g → dg A B s m x = 0 ∨ dg A B s m x = 2)
theorem way_1 (hG : Gr m A B) {g v : Nat} (v8 : v < 8) (hne : v ≠ g) (h : Wy m A B g v (2 ^ v) 0 s) : IsW m A B s v g := by
  have b0 : ∀ x, (2 ^ v).testBit x = true ↔ x = v := fun x => by
    rw [Nat.testBit_two_pow, decide_eq_true_iff]; exact ⟨Eq.symm, Eq.symm⟩
  obtain ⟨D, hr, _, hd, dx, hcl⟩ := Wy_D hG h ((b0 v).mpr rfl) (by
    cases q : (2 ^ v).testBit g with
    | false => rfl
    | true => exact absurd ((b0 g).mp q).symm hne)
  have e : s = D := Nat.eq_of_testBit_eq (fun i => by
    rw [Bool.eq_iff_iff, hr i, Nat.zero_testBit]
    exact ⟨fun z => z.elim (fun y => by cases y) id, Or.inr⟩)
  subst e
  exact ⟨hd, fun x _ => ⟨fun z => hcl _ (hg_cd hG v8) (hg_0 8) x z, fun h1 h2 => (dx x h1 h2).1⟩⟩
theorem dg_eq {U x : Nat} (hs : ∀ i, U.testBit i = true → s.testBit i = true) (e : dg A B s m x ≤ dg A B U m x) {j : Nat} (hj : j < m) (hb : s.testBit j = true) (he : A j = x ∨ B j = x) : U.testBit j = true := by
  cases q : U.testBit j with
  | true => rfl
  | false =>
    have := ct_lt (p := eb A B U x) (q := eb A B s x) (n := m) (fun k _ h => eb_t.mpr ⟨hs k (eb_t.mp h).1, (eb_t.mp h).2⟩) hj (eb_t.mpr ⟨hb, he⟩) (by
      cases z : eb A B U x j with
      | false => rfl
      | true => rw [(eb_t.mp z).1] at q; cases q)
    unfold dg at e
    omega
theorem dg_lt {U x : Nat} (e : dg A B U m x < dg A B s m x) : ∃ j, j < m ∧ (s.testBit j = true ∧ U.testBit j = false) ∧ (A j = x ∨ B j = x) := by
  refine Classical.byContradiction (fun h => ?_)
  have : ct (eb A B s x) m ≤ ct (eb A B U x) m := ct_sub (fun k hk hq => by
    have q := eb_t.mp hq
    cases z : U.testBit k with
    | true => exact eb_t.mpr ⟨z, q.2⟩
    | false => exact absurd ⟨k, hk, ⟨q.1, z⟩, q.2⟩ h)
  unfold dg at e
  omega
/-- between two steps: v is reached by U over the crossings V -/
theorem way_go (hG : Gr m A B) {g c : Nat} (c8 : c < 8) (g8 : g < 8) (hne : c ≠ g) (hW : IsW m A B s c g) (hm : ∀ i, s.testBit i = true → i < m) : ∀ (k v V U : Nat), v < 8 → (∀ i, U.testBit i = true → s.testBit i = true) → V.testBit v = true → V.testBit g = false → V.testBit c = true → (∀ x, V.testBit x = true → x < 8) → (dg A B U m v + 1 = dg A B s m v) → (∀ x, V.testBit x = true → x ≠ v → dg A B U m x = dg A B s m x) → (∀ x, ¬ V.testBit x = true → dg A B U m x = 0) → 8 ≤ ct (fun x => V.testBit x) 8 + k → Wy m A B g v V U s := by
  intro k
  induction k with
  | zero =>
    intro v V U v8 _ _ hg _ _ _ _ _ h8
    have := ct_lt (p := fun x => V.testBit x) (q := fun _ => true) (n := 8) (fun _ _ _ => rfl) g8 rfl hg
    have t8 : ct (fun _ => true) 8 = 8 := rfl
    omega
  | succ k ih =>
    intro v V U v8 hU hv hg hc hV8 dv dV dn h8
    have vg : v ≠ g := fun e => by rw [e, hg] at hv; cases hv
    obtain ⟨j, hj, ⟨bs, bu⟩, he⟩ := dg_lt (m := m) (A := A) (B := B) (U := U) (s := s) (x := v) (by omega)
    obtain ⟨⟨a8, b8⟩, ab⟩ := hG j hj
    -- the other end
    obtain ⟨w, ac, w8, wv, wends⟩ : ∃ w, Ac A B j v w ∧ w < 8 ∧ w ≠ v ∧ (A j = w ∨ B j = w) := by
      rcases he with e | e
      · exact ⟨B j, Or.inl ⟨e, rfl⟩, b8, fun z => ab (e.trans z.symm), Or.inr rfl⟩
      · exact ⟨A j, Or.inr ⟨e, rfl⟩, a8, fun z => ab (z.trans e.symm), Or.inl rfl⟩
    have wn : V.testBit w = false := by
      cases q : V.testBit w with
      | false => rfl
      | true =>
        have := dg_eq hU (Nat.le_of_eq (dV w q wv).symm) hj bs wends
        rw [bu] at this; cases this
    have ends : ∀ x, (A j = x ∨ B j = x) ↔ (x = v ∨ x = w) := fun x => by
      rcases ac with ⟨a, b⟩ | ⟨a, b⟩
      · rw [a, b]; exact ⟨fun z => z.imp Eq.symm Eq.symm, fun z => z.imp Eq.symm Eq.symm⟩
      · rw [a, b]; exact ⟨fun z => z.elim (fun y => Or.inr y.symm) (fun y => Or.inl y.symm), fun z => z.elim (fun y => Or.inr y.symm) (fun y => Or.inl y.symm)⟩
    have d : ∀ x, dg A B (U ||| 2 ^ j) m x = dg A B U m x + (if x = v ∨ x = w then 1 else 0) := fun x => by
      rw [dg_o hj bu]
      by_cases q : x = v ∨ x = w
      · rw [if_pos q, if_pos ((ends x).mpr q)]
      · rw [if_neg q, if_neg (fun z => q ((ends x).mp z))]
    have U2 : ∀ i, (U ||| 2 ^ j).testBit i = true → s.testBit i = true := fun i hi => (orb.mp hi).elim (hU i) (fun z => by rw [z]; exact bs)
    have dw0 : dg A B U m w = 0 := dn w (by rw [wn]; simp)
    by_cases wg : w = g
    · subst wg
      -- all of s is used
      have full : ∀ x, (V.testBit x = true ∨ x = w) → dg A B (U ||| 2 ^ j) m x = dg A B s m x := fun x hx => by
        rw [d]
        by_cases e : x = v
        · rw [e, if_pos (Or.inl rfl)]; exact dv
        · by_cases e2 : x = w
          · rw [e2, if_pos (Or.inr rfl), dw0, hW.1.2]
          · rw [if_neg (fun z => z.elim e e2), Nat.add_zero]
            exact dV x (hx.resolve_right e2) e
      have inV : ∀ x, 0 < dg A B (U ||| 2 ^ j) m x → (V.testBit x = true ∨ x = w) := fun x hx => by
        by_cases e : x = v
        · rw [e]; exact Or.inl hv
        · by_cases e2 : x = w
          · exact Or.inr e2
          · rw [d, if_neg (fun z => z.elim e e2), Nat.add_zero] at hx
            refine Or.inl (Classical.byContradiction (fun z => ?_))
            rw [dn x z] at hx
            exact absurd hx (Nat.lt_irrefl _)
      have used : ∀ i x, i < m → s.testBit i = true → (A i = x ∨ B i = x) → (V.testBit x = true ∨ x = w) → (U ||| 2 ^ j).testBit i = true := fun i x hi b e hx => dg_eq U2 (Nat.le_of_eq (full x hx).symm) hi b e
      have touch : ∀ i x, i < m → (U ||| 2 ^ j).testBit i = true → (A i = x ∨ B i = x) → (V.testBit x = true ∨ x = w) := fun i x hi b e => inV x (by
        have : ¬ ct (eb A B (U ||| 2 ^ j) x) m = 0 := ct_ex.mpr ⟨i, hi, eb_t.mpr ⟨b, e⟩⟩
        unfold dg
        omega)
      have reach : ∀ x, Rb m A B s c x → (V.testBit x = true ∨ x = w) := fun x hx => by
        exact hx (fun x => V.testBit x = true ∨ x = w) (Or.inl hc) (fun i hi b ih => touch _ _ hi (used _ _ hi b (Or.inl rfl) ih) (Or.inr rfl)) (fun i hi b ih => touch _ _ hi (used _ _ hi b (Or.inr rfl) ih) (Or.inl rfl))
      have es : s = U ||| 2 ^ j := Nat.eq_of_testBit_eq (fun i => by
        rw [Bool.eq_iff_iff]
        refine ⟨fun b => ?_, U2 i⟩
        have hi := hm i b
        have pos : 0 < dg A B s m (A i) := by
          have : ¬ ct (eb A B s (A i)) m = 0 := ct_ex.mpr ⟨i, hi, eb_t.mpr ⟨b, Or.inl rfl⟩⟩
          unfold dg
          omega
        exact used i (A i) hi b (Or.inl rfl) (reach _ (hg_s 8 _ ((hW.2 _ (hG i hi).1.1).1 pos))))
      rw [es]
      exact Wy.last hj ac wn
    · refine Wy.step hj ac wn wg (ih w (V ||| 2 ^ w) (U ||| 2 ^ j) w8 U2 (orb.mpr (Or.inr rfl)) (orn.mpr ⟨hg, fun z => wg z.symm⟩) (orb.mpr (Or.inl hc)) (fun x hx => (orb.mp hx).elim (hV8 x) (fun z => by rw [z]; exact w8)) ?_ (fun x hx hxw => ?_) (fun x hx => ?_) ?_)
      · have cw : w ≠ c := fun z => by rw [z, hc] at wn; cases wn
        have pos : 0 < dg A B s m w := by
          have : ¬ ct (eb A B s w) m = 0 := ct_ex.mpr ⟨j, hj, eb_t.mpr ⟨bs, wends⟩⟩
          unfold dg
          omega
        rw [d, dw0, if_pos (Or.inr rfl)]
        rcases (hW.2 w w8).2 cw wg with z | z
        · omega
        · rw [z]
      · have hx := (orb.mp hx).resolve_right hxw
        rw [d]
        by_cases e : x = v
        · rw [e, if_pos (Or.inl rfl)]; exact dv
        · rw [if_neg (fun z => z.elim e hxw), Nat.add_zero]; exact dV x hx e
      · have h1 : ¬ V.testBit x = true := fun z => hx (orb.mpr (Or.inl z))
        have h2 : ¬ x = w := fun z => hx (orb.mpr (Or.inr z))
        have h3 : ¬ x = v := fun z => h1 (by rw [z]; exact hv)
        rw [d, if_neg (fun z => z.elim h3 h2), Nat.add_zero]; exact dn x h1
      · have := ct_lt (p := fun x => V.testBit x) (q := fun x => (V ||| 2 ^ w).testBit x) (n := 8) (fun _ _ h => orb.mpr (Or.inl h)) w8 (orb.mpr (Or.inr rfl)) wn
        omega
theorem way_2 (hG : Gr m A B) {g c : Nat} (c8 : c < 8) (g8 : g < 8) (hne : c ≠ g) (hW : IsW m A B s c g) (hm : ∀ i, s.testBit i = true → i < m) : Wy m A B g c (2 ^ c) 0 s := by
  have b0 : ∀ x, (2 ^ c).testBit x = true ↔ x = c := fun x => by
    rw [Nat.testBit_two_pow, decide_eq_true_iff]; exact ⟨Eq.symm, Eq.symm⟩
  refine way_go hG c8 g8 hne hW hm 8 c (2 ^ c) 0 c8 (fun i hi => by rw [Nat.zero_testBit] at hi; cases hi) ((b0 c).mpr rfl) ?_ ((b0 c).mpr rfl) (fun x hx => by rw [(b0 x).mp hx]; exact c8) (by rw [dg_0, hW.1.1]) (fun x hx hn => absurd ((b0 x).mp hx) hn) (fun x _ => dg_0 x) (by omega)
  cases q : (2 ^ c).testBit g with
  | false => rfl
  | true => exact absurd ((b0 g).mp q).symm hne
end GRAPH2
end Zq14_13
section Zq14_14
/-! ===== the class's roads ===== -/
section ROADS
variable {N B m f : Nat} {σ τ : zS} {P Q : Nat → Nat}
/-- the edges of the class's world: m of them, P and Q their ends -/
def Ed (σ : zS) (B m : Nat) (P Q : Nat → Nat) : Prop := (σ.1 B 2 = nI m ∧ m ≤ 10) ∧ (∀ j, j < m → σ.1 (B + 1) j = nI (P j) ∧ σ.1 (B + 2) j = nI (Q j)) ∧ Gr m P Q
theorem Ed_c (h0 : τ.1 = σ.1) (h : Ed σ B m P Q) : Ed τ B m P Q := by
  unfold Ed at h ⊢
  rw [h0]; exact h
theorem mle {a b : Nat} (ha : a ≤ 2000) (hb : b ≤ 2000) : (nI a ≤ nI b) = (a ≤ b) := propext (nlt ha hb)
theorem lt_1024 {a b : Nat} (ha : a < 1024) (hb : b < 10) : a ||| 2 ^ b < 1024 := or_1024 ha (Nat.lt_of_le_of_lt (Nat.pow_le_pow_right (by decide) (show b ≤ 9 by omega)) (by decide : 2 ^ 9 < 1024))
theorem lt_256 {a b : Nat} (ha : a < 256) (hb : b < 8) : a ||| 2 ^ b < 256 := Nat.or_lt_two_pow (n := 8) ha (Nat.pow_lt_pow_right (by decide) hb)
theorem bit0 {s k : Nat} (hs : s < 1024) (hk : k < 10) : ((nI s >>> (nI k &&& 31)) &&& 1) = 0 ↔ s.testBit k = false := by
  rw [shb k hk s hs]
  cases s.testBit k with
  | false => exact ⟨fun _ => rfl, fun _ => by decide⟩
  | true => exact ⟨fun h => absurd h (by decide), fun h => by cases h⟩
theorem vg_touched {s : Nat} (wc : isWc B) (hR : RF σ.2.2) (hE : Ed σ B m P Q) (hs : s < 1024) : Px (f_X6_touchedBy N B (nI s) σ) σ (fun v => v = nI (tc P Q s m)) := by
  obtain ⟨⟨em, m10⟩, he, hG⟩ := hE
  rw [f_X6_touchedBy.eq_1]
  refine pt_lp (fun y : Int32 × Int32 × zS => y.2.2 = σ ∧ ∃ j, y.1 = nI (tc P Q s j) ∧ y.2.1 = nI j ∧ j ≤ m) (fun again y hI ih => ?_) N _ ⟨rfl, 0, rfl, rfl, Nat.zero_le _⟩
  obtain ⟨x2, x3, τ⟩ := y
  obtain ⟨e, j, e2, e3, hj⟩ := hI
  have e : τ = σ := e
  have e2 : x2 = nI (tc P Q s j) := e2
  have e3 : x3 = nI j := e3
  subst e
  subst e2
  subst e3
  rw [F_X6_touchedBy_4.eq_1]
  refine pt_gI ?_
  rw [em]
  refine pt_if (fun q => pt_some ⟨rfl, ?_⟩) (fun q => ?_)
  · rw [nlt (by omega) (by omega)] at q
    show nI (tc P Q s j) = _
    rw [show j = m by omega]
  rw [nlt (by omega) (by omega)] at q
  refine pt_if (fun q2 => ?_) (fun _ => ?_)
  · have q2 : nI 10 ≤ nI j := q2
    rw [nlt (by omega) (by omega)] at q2
    omega
  have hjm : j < m := by omega
  have b0 := bit0 (s := s) (k := j) hs (by omega)
  refine pt_if (fun z => ?_) (fun z => ?_)
  · have bf := b0.mp z
    rw [nI_s1 (by omega)]
    exact ih (nI (tc P Q s j), nI (j + 1), τ) ⟨rfl, j + 1, by rw [tc_n (by rw [bf]; simp)], rfl, by omega⟩
  · have bt' : s.testBit j = true := by
      cases h : s.testBit j with
      | true => rfl
      | false => exact absurd (b0.mpr h) z
    have g := (hG j hjm).1
    refine pt_gR (v := B + 1) (rW wc hR).1.1 (pt_aI (pt_gR (v := B + 2) (rW wc hR).1.2.1 (pt_aI ?_)))
    rw [iN (by omega), (he j hjm).1, (he j hjm).2, one11 (P j) (by omega), one11 (Q j) (by omega), nI_or, nI_or, nI_s1 (by omega)]
    exact ih (nI (tc P Q s j ||| (2 ^ P j ||| 2 ^ Q j)), nI (j + 1), τ) ⟨rfl, j + 1, by show _ = nI (tc P Q s (j + 1)); rw [show tc P Q s (j + 1) = tc P Q s j ||| (2 ^ P j ||| 2 ^ Q j) from if_pos bt'], rfl, by omega⟩
theorem neq8 {a b : Nat} (ha : a < 8) (hb : b < 8) (h : nI a = nI b) : a = b := by
  have := congrArg Int32.toInt h
  rw [nI_toInt (by omega), nI_toInt (by omega)] at this
  omega
theorem vg_across {j v : Nat} (wc : isWc B) (hR : RF σ.2.2) (hE : Ed σ B m P Q) (hj : j < m) (hv : v < 8) : Px (f_X6_acrossFrom N B (nI j) (nI v) σ) σ (fun w => (∃ x, x < 8 ∧ w = nI x ∧ Ac P Q j v x) ∨ (w = -1 ∧ ∀ x, ¬ Ac P Q j v x)) := by
  obtain ⟨⟨em, m10⟩, he, hG⟩ := hE
  have g := (hG j hj).1
  have ej : (nI j).toInt = (j : Int) := nI_toInt (by omega)
  rw [f_X6_acrossFrom.eq_1]
  refine pt_if (fun q => absurd q (by rw [Int32.lt_iff_toInt_lt, ej]; simp only [Int32.reduceToInt]; omega)) (fun _ => pt_if (fun _ => ?_) (fun q => absurd (by rw [Int32.lt_iff_toInt_lt, ej]; simp only [Int32.reduceToInt]; omega) q))
  refine pt_gR (v := B + 1) (rW wc hR).1.1 (pt_aI ?_)
  rw [iN (by omega), (he j hj).1]
  refine pt_if (fun q => ?_) (fun q => ?_)
  · refine pt_gR (v := B + 2) (rW wc hR).1.2.1 (pt_aI ?_)
    rw [iN (by omega), (he j hj).2]
    exact pt_some ⟨rfl, Or.inl ⟨Q j, g.2, rfl, Or.inl ⟨neq8 g.1 hv q, rfl⟩⟩⟩
  · refine pt_gR (v := B + 2) (rW wc hR).1.2.1 (pt_aI ?_)
    rw [iN (by omega), (he j hj).2]
    refine pt_if (fun q2 => ?_) (fun q2 => ?_)
    · refine pt_gR (v := B + 1) (rW wc hR).1.1 (pt_aI ?_)
      rw [iN (by omega), (he j hj).1]
      exact pt_some ⟨rfl, Or.inl ⟨P j, g.1, rfl, Or.inr ⟨neq8 g.2 hv q2, rfl⟩⟩⟩
    · exact pt_some ⟨rfl, Or.inr ⟨rfl, fun x h => h.elim (fun z => q (by rw [z.1])) (fun z => q2 (by rw [z.1]))⟩⟩
/-- ways over the first j edges -/
def Wj (m : Nat) (P Q : Nat → Nat) (g v V U j u : Nat) : Prop := (∃ i, i < j ∧ Ac P Q i v g ∧ V.testBit g = false ∧ u = U ||| 2 ^ i) ∨ ∃ i w, i < j ∧ Ac P Q i v w ∧ V.testBit w = false ∧ w ≠ g ∧ Wy m P Q g w (V ||| 2 ^ w) (U ||| 2 ^ i) u
theorem Wj_m {g v V U u : Nat} : Wj m P Q g v V U m u ↔ Wy m P Q g v V U u := by
  constructor
  · rintro (⟨i, hi, a, b, rfl⟩ | ⟨i, w, hi, a, b, c, d⟩)
    · exact Wy.last hi a b
    · exact Wy.step hi a b c d
  · intro h
    exact h.cs
theorem Wj_s {g v V U j u : Nat} : Wj m P Q g v V U (j + 1) u ↔ Wj m P Q g v V U j u ∨ (Ac P Q j v g ∧ V.testBit g = false ∧ u = U ||| 2 ^ j) ∨ ∃ w, Ac P Q j v w ∧ V.testBit w = false ∧ w ≠ g ∧ Wy m P Q g w (V ||| 2 ^ w) (U ||| 2 ^ j) u := by
  constructor
  · rintro (⟨i, hi, h⟩ | ⟨i, w, hi, h⟩)
    · by_cases e : i = j
      · subst e; exact Or.inr (Or.inl h)
      · exact Or.inl (Or.inl ⟨i, by omega, h⟩)
    · by_cases e : i = j
      · subst e; exact Or.inr (Or.inr ⟨w, h⟩)
      · exact Or.inl (Or.inr ⟨i, w, by omega, h⟩)
  · rintro ((⟨i, hi, h⟩ | ⟨i, w, hi, h⟩) | h | ⟨w, h⟩)
    · exact Or.inl ⟨i, by omega, h⟩
    · exact Or.inr ⟨i, w, by omega, h⟩
    · exact Or.inl ⟨j, by omega, h⟩
    · exact Or.inr ⟨j, w, by omega, h⟩
theorem Ac_u {j v x y : Nat} (hG : P j ≠ Q j) (h : Ac P Q j v x) (h2 : Ac P Q j v y) : x = y := by
  rcases h with ⟨a, b⟩ | ⟨a, b⟩ <;> rcases h2 with ⟨c, d⟩ | ⟨c, d⟩
  · rw [← b, ← d]
  · exact absurd (a.trans c.symm) hG
  · exact absurd (c.trans a.symm) hG
  · rw [← b, ← d]
/-- what a walk includes -/
def WK (N dd B m f : Nat) (P Q : Nat → Nat) (g : Nat) : Prop := ∀ (v V U : Nat) (σ : zS), RF σ.2.2 → Ed σ B m P Q → v < 8 → V < 256 → U < 1024 → V.testBit v = true → Pt (f_X6_walk N dd B (nI v) (nI g) (nI V) (nI U) f σ) (fun r => LF (f + 1) σ r.2 ∧ ∀ u, u < 1024 → (bt (r.2.2.1 (f + 1)) u = true ↔ bt (σ.2.1 (f + 1)) u = true ∨ Wy m P Q g v V U u))
theorem vg_walk {g : Nat} (wc : isWc B) (kf : (zKd f).1 = 2) (hg : g < 8) : ∀ dd, WK N dd B m f P Q g := by
  intro dd
  induction dd with
  | zero => intro v V U σ _ _ _ _ _ _ a h; exact absurd (show (none : Option (Unit × zS)) = some a from h) (by simp)
  | succ dd ihd =>
    intro v V U σ hR hE hv hV hU hvV
    show Pt (B_X6_walk N (f_X6_walk N dd) B (nI v) (nI g) (nI V) (nI U) f σ) _
    rw [B_X6_walk.eq_1]
    refine pt_lp (fun y : Int32 × zS => ∃ j, (y.1 = nI j ∧ j ≤ m) ∧ LF (f + 1) σ y.2 ∧ ∀ u, u < 1024 → (bt (y.2.2.1 (f + 1)) u = true ↔ bt (σ.2.1 (f + 1)) u = true ∨ Wj m P Q g v V U j u)) (fun again y hI ih => ?_) N _ ⟨0, ⟨rfl, Nat.zero_le _⟩, LF.rf, fun u _ => ⟨Or.inl, fun h => h.elim id (fun z => z.elim (fun ⟨i, hi, _⟩ => absurd hi (Nat.not_lt_zero _)) (fun ⟨i, _, hi, _⟩ => absurd hi (Nat.not_lt_zero _)))⟩⟩
    obtain ⟨x6, τ⟩ := y
    obtain ⟨j, ⟨ex, hj⟩, hl, hb⟩ := hI
    have ex : x6 = nI j := ex
    subst ex
    have hl : LF (f + 1) σ τ := hl
    have hb : ∀ u, u < 1024 → (bt (τ.2.1 (f + 1)) u = true ↔ bt (σ.2.1 (f + 1)) u = true ∨ Wj m P Q g v V U j u) := hb
    have R9 := hl.R hR
    have E9 : Ed τ B m P Q := Ed_c hl.1 hE
    have m10 := hE.1.2
    rw [F_X6_walk_3.eq_1]
    refine pt_gI ?_
    rw [E9.1.1]
    refine pt_if (fun q => pt_some ⟨hl, fun u hu => ?_⟩) (fun q => ?_)
    · rw [nlt (by omega) (by omega)] at q
      have e : j = m := by omega
      subst e
      rw [← Wj_m]; exact hb u hu
    rw [nlt (by omega) (by omega)] at q
    have hjm : j < m := by omega
    refine pt_if (fun q2 => ?_) (fun _ => ?_)
    · have q2 : nI 10 ≤ nI j := q2
      rw [nlt (by omega) (by omega)] at q2
      omega
    have ne := (hE.2.2 j hjm).2
    have next : ∀ τ2 : zS, LF (f + 1) σ τ2 → (∀ u, u < 1024 → (bt (τ2.2.1 (f + 1)) u = true ↔ bt (σ.2.1 (f + 1)) u = true ∨ Wj m P Q g v V U (j + 1) u)) → Pt (again (nI j + 1, τ2)) (fun r => LF (f + 1) σ r.2 ∧ ∀ u, u < 1024 → (bt (r.2.2.1 (f + 1)) u = true ↔ bt (σ.2.1 (f + 1)) u = true ∨ Wy m P Q g v V U u)) := fun τ2 a b => by
      rw [nI_s1 (by omega)]
      exact ih (nI (j + 1), τ2) ⟨j + 1, ⟨rfl, by omega⟩, a, b⟩
    have skip : (∀ u, ¬ ((Ac P Q j v g ∧ V.testBit g = false ∧ u = U ||| 2 ^ j) ∨ ∃ w, Ac P Q j v w ∧ V.testBit w = false ∧ w ≠ g ∧ Wy m P Q g w (V ||| 2 ^ w) (U ||| 2 ^ j) u)) → Pt (again (nI j + 1, τ)) (fun r => LF (f + 1) σ r.2 ∧ ∀ u, u < 1024 → (bt (r.2.2.1 (f + 1)) u = true ↔ bt (σ.2.1 (f + 1)) u = true ∨ Wy m P Q g v V U u)) := fun no => next τ hl (fun u hu => by
      rw [Wj_s, hb u hu]
      exact ⟨fun h => h.imp id Or.inl, fun h => h.imp id (fun z => z.elim id (fun y => absurd y (no u)))⟩)
    refine pt_zbq (vg_across wc R9 E9 hjm hv) (fun w hw => ?_)
    rcases hw with ⟨x, x8, rfl, ac⟩ | ⟨rfl, no⟩
    · refine pt_if (fun z => absurd z (by rw [Int32.lt_iff_toInt_lt, nI_toInt (by omega)]; simp only [Int32.reduceToInt]; omega)) (fun _ => ?_)
      have b0 := bit0 (s := V) (k := x) (by omega) (by omega)
      refine pt_if (fun z => ?_) (fun z => ?_)
      · have bf := b0.mp z
        have oU : (nI U ||| ((1 : Int32) <<< (nI j &&& 31))) = nI (U ||| 2 ^ j) := by rw [one11 j (by omega), nI_or]
        have lU : U ||| 2 ^ j < 1024 := lt_1024 hU (by omega)
        refine pt_if (fun e => ?_) (fun e => ?_)
        · have e : x = g := neq8 x8 hg e
          subst e
          rw [oU]
          refine pt_gC (pt_zb (v_include R9 kf lU) (fun _ τ2 h2 => ?_))
          obtain ⟨l2, i2⟩ := h2
          have l2 : LF (f + 1) τ τ2 := l2
          have i2 : ∀ u, u < 1024 → bt (τ2.2.1 (f + 1)) u = (bt (τ.2.1 (f + 1)) u || decide (u = U ||| 2 ^ j)) := i2
          refine next τ2 (hl.tr l2) (fun u hu => ?_)
          rw [i2 u hu, Bool.or_eq_true, decide_eq_true_iff, hb u hu, Wj_s]
          constructor
          · rintro ((h | h) | h)
            · exact Or.inl h
            · exact Or.inr (Or.inl h)
            · exact Or.inr (Or.inr (Or.inl ⟨ac, bf, h⟩))
          · rintro (h | h | ⟨_, _, h⟩ | ⟨w, a, _, c, _⟩)
            · exact Or.inl (Or.inl h)
            · exact Or.inl (Or.inr h)
            · exact Or.inr h
            · exact absurd (Ac_u ne a ac) c
        · have e : x ≠ g := fun y => e (by rw [y])
          have lV : V ||| 2 ^ x < 256 := lt_256 hV x8
          have oV : (nI V ||| ((1 : Int32) <<< (nI x &&& 31))) = nI (V ||| 2 ^ x) := by rw [one11 x (by omega), nI_or]
          refine pt_zbq (v_bitCount32 (s := V) (by omega)) (fun w hw => ?_)
          rw [hw]
          have pc : bc V < 8 := by
            have : ∀ i, 8 ≤ i → V.testBit i = false := fun i hi => Nat.testBit_lt_two_pow (Nat.lt_of_lt_of_le hV ((show 256 ≤ 2 ^ i from Nat.pow_le_pow_right (n := 2) (i := 8) (by decide) hi)))
            have c2 : bc V = ct (fun i => V.testBit i) 8 := by
              show (ct (fun i => V.testBit i) 8 + (if V.testBit 8 = true then 1 else 0)) + (if V.testBit 9 = true then 1 else 0) = _
              rw [this 8 (by omega), this 9 (by omega)]; rfl
            have := ct_lt (p := fun i => V.testBit i) (q := fun _ => true) (n := 8) (fun _ _ _ => rfl) x8 rfl bf
            have t8 : ct (fun _ => true) 8 = 8 := rfl
            omega
          refine pt_if (fun y => ?_) (fun _ => ?_)
          · have y : nI 8 ≤ nI (bc V) := y
            rw [nlt (by omega) (by omega)] at y
            omega
          rw [oV, oU]
          refine pt_zb (ihd x (V ||| 2 ^ x) (U ||| 2 ^ j) τ R9 E9 x8 lV lU (orb.mpr (Or.inr rfl))) (fun _ τ2 h2 => ?_)
          obtain ⟨l2, i2⟩ := h2
          have l2 : LF (f + 1) τ τ2 := l2
          have i2 : ∀ u, u < 1024 → (bt (τ2.2.1 (f + 1)) u = true ↔ bt (τ.2.1 (f + 1)) u = true ∨ Wy m P Q g x (V ||| 2 ^ x) (U ||| 2 ^ j) u) := i2
          refine next τ2 (hl.tr l2) (fun u hu => ?_)
          rw [i2 u hu, hb u hu, Wj_s]
          constructor
          · rintro ((h | h) | h)
            · exact Or.inl h
            · exact Or.inr (Or.inl h)
            · exact Or.inr (Or.inr (Or.inr ⟨x, ac, bf, e, h⟩))
          · rintro (h | h | ⟨a, _, _⟩ | ⟨w, a, _, _, d⟩)
            · exact Or.inl (Or.inl h)
            · exact Or.inl (Or.inr h)
            · exact absurd (Ac_u ne ac a) e
            · rw [Ac_u ne a ac] at d; exact Or.inr d
      · have bt' : V.testBit x = true := by
          cases h : V.testBit x with
          | true => rfl
          | false => exact absurd (b0.mpr h) z
        refine skip (fun u h => ?_)
        rcases h with ⟨a, b, _⟩ | ⟨w, a, b, _⟩
        · rw [← Ac_u ne ac a, bt'] at b; cases b
        · rw [← Ac_u ne ac a, bt'] at b; cases b
    · refine pt_if (fun _ => skip (fun u h => ?_)) (fun z => absurd (by decide) z)
      rcases h with ⟨a, _⟩ | ⟨w, a, _⟩
      · exact no _ a
      · exact no _ a
/-- the ways between two crossings -/
def WS (m : Nat) (P Q : Nat → Nat) (c g u : Nat) : Prop := if c = g then u = 0 else Wy m P Q g c (2 ^ c) 0 u
theorem vg_ways {rd c g : Nat} (wc : isWc B) (kf : (zKd f).1 = 2) (hR : RF σ.2.2) (hE : Ed σ B m P Q) (hc : c < 8) (hg : g < 8) : Pt (f_X6_findWays N rd B (nI c) (nI g) f σ) (fun r => LF (f + 1) σ r.2 ∧ ∀ u, u < 1024 → (bt (r.2.2.1 (f + 1)) u = true ↔ WS m P Q c g u)) := by
  rw [f_X6_findWays.eq_1]
  refine pt_gC (pt_zb (v_clear hR kf) (fun _ σ1 h1 => ?_))
  obtain ⟨l1, z1⟩ := h1
  have l1 : LF (f + 1) σ σ1 := l1
  have z1 : ∀ u, u < 1024 → bt (σ1.2.1 (f + 1)) u = false := z1
  have R1 := l1.R hR
  refine pt_if (fun e => ?_) (fun e => ?_)
  · have e : c = g := neq8 hc hg e
    refine pt_gC (pt_zb (v_include (s := 0) R1 kf (by decide)) (fun _ σ2 h2 => pt_some ?_))
    obtain ⟨l2, i2⟩ := h2
    have l2 : LF (f + 1) σ1 σ2 := l2
    have i2 : ∀ u, u < 1024 → bt (σ2.2.1 (f + 1)) u = (bt (σ1.2.1 (f + 1)) u || decide (u = 0)) := i2
    refine ⟨l1.tr l2, fun u hu => ?_⟩
    show bt (σ2.2.1 (f + 1)) u = true ↔ WS m P Q c g u
    unfold WS
    rw [if_pos e, i2 u hu, z1 u hu, Bool.false_or, decide_eq_true_iff]
  · have e : c ≠ g := fun z => e (by rw [z])
    rw [one11 c (by omega)]
    refine pt_zb (vg_walk (N := N) wc kf hg 10 c (2 ^ c) 0 σ1 R1 (Ed_c l1.1 hE) hc (Nat.pow_lt_pow_right (n := 8) (by decide) hc) (by decide) (by rw [Nat.testBit_two_pow]; exact decide_eq_true rfl)) (fun _ σ2 h2 => pt_some ?_)
    obtain ⟨l2, i2⟩ := h2
    have l2 : LF (f + 1) σ1 σ2 := l2
    have i2 : ∀ u, u < 1024 → (bt (σ2.2.1 (f + 1)) u = true ↔ bt (σ1.2.1 (f + 1)) u = true ∨ Wy m P Q g c (2 ^ c) 0 u) := i2
    refine ⟨l1.tr l2, fun u hu => ?_⟩
    show bt (σ2.2.1 (f + 1)) u = true ↔ WS m P Q c g u
    unfold WS
    rw [if_neg e, i2 u hu, z1 u hu]
    exact ⟨fun h => h.elim (fun z => by cases z) id, Or.inr⟩
end ROADS
end Zq14_14
section Zq14_15
/-! ===== the class's sets of edges ===== -/
section ROADS2
variable {N B m f : Nat} {σ τ : zS} {P Q : Nat → Nat}
/-- row 125 holds the labels -/
def LbR (τ : zS) (P Q : Nat → Nat) (s j : Nat) : Prop := ∀ x, x < 8 → τ.1 125 x = nI (Lb P Q s j x)
theorem vg_join {s j : Nat} (hR : RF σ.2.2) (hG : Gr m P Q) (hj : j < m) (hb : s.testBit j = true) (hl : LbR σ P Q s j) : Pt (f_X6_joinClumps N 124 (nI (P j)) (nI (Q j)) σ) (fun r => FG [125] σ r.2 ∧ ((r.1 = 0 ∧ rg P Q s j) ∨ (r.1 = 1 ∧ ¬ rg P Q s j ∧ LbR r.2 P Q s (j + 1)))) := by
  obtain ⟨⟨p8, q8⟩, ne⟩ := hG j hj
  have R125 : σ.2.2 124 0 = 125 := hR 124 0 rfl
  have tp : (nI (P j)).toInt = (P j : Int) := nI_toInt (by omega)
  have tq : (nI (Q j)).toInt = (Q j : Int) := nI_toInt (by omega)
  have lp := Lb_8 (s := s) hG j (by omega) (P j) p8
  have lq := Lb_8 (s := s) hG j (by omega) (Q j) q8
  rw [f_X6_joinClumps.eq_1]
  refine pt_if (fun q => absurd q (by rw [Int32.lt_iff_toInt_lt, tp]; simp only [Int32.reduceToInt]; omega)) (fun _ => pt_if (fun q => absurd q (by rw [Int32.le_iff_toInt_le, tp]; simp only [Int32.reduceToInt]; omega)) (fun _ => ?_))
  refine pt_if (fun q => absurd q (by rw [Int32.lt_iff_toInt_lt, tq]; simp only [Int32.reduceToInt]; omega)) (fun _ => pt_if (fun q => absurd q (by rw [Int32.le_iff_toInt_le, tq]; simp only [Int32.reduceToInt]; omega)) (fun _ => ?_))
  refine pt_gR (v := 125) R125 (pt_aI (pt_gR (v := 125) R125 (pt_aI ?_)))
  rw [iN (by omega), iN (by omega), hl _ p8, hl _ q8]
  refine pt_if (fun e => pt_rZ ⟨FG.rf, Or.inl ⟨rfl, hb, neq8 lp lq e⟩⟩) (fun e => ?_)
  have nr : ¬ rg P Q s j := fun z => e (by rw [z.2])
  have nl : ¬ Lb P Q s j (P j) = Lb P Q s j (Q j) := fun z => nr ⟨hb, z⟩
  have sP : Lb P Q s (j + 1) (P j) = Lb P Q s j (P j) := by rw [Lb_y hb, if_neg nl]
  refine pt_gR (v := 125) R125 (pt_aI ?_)
  rw [iN (by omega), hl _ q8]
  refine pt_lp (fun y : Int32 × zS => ∃ l, (y.1 = nI l ∧ l ≤ 8) ∧ FG [125] σ y.2 ∧ (∀ x, x < l → y.2.1 125 x = nI (Lb P Q s (j + 1) x)) ∧ ∀ x, l ≤ x → x < 8 → y.2.1 125 x = nI (Lb P Q s j x)) (fun again y hI ih => ?_) N _ ⟨0, ⟨rfl, Nat.zero_le _⟩, FG.rf, fun x hx => absurd hx (Nat.not_lt_zero _), fun x _ h => hl x h⟩
  obtain ⟨x4, τ⟩ := y
  obtain ⟨l, ⟨ex, hl8⟩, hf, h1, h2⟩ := hI
  have ex : x4 = nI l := ex
  subst ex
  have hf : FG [125] σ τ := hf
  have h1 : ∀ x, x < l → τ.1 125 x = nI (Lb P Q s (j + 1) x) := h1
  have h2 : ∀ x, l ≤ x → x < 8 → τ.1 125 x = nI (Lb P Q s j x) := h2
  have R9 := hf.R hR
  have r9 : τ.2.2 124 0 = 125 := R9 124 0 rfl
  rw [F_X6_joinClumps_47.eq_1]
  refine pt_if (fun q => ?_) (fun q => ?_)
  · have q : nI 8 ≤ nI l := q
    rw [nlt (by omega) (by omega)] at q
    exact pt_rZ ⟨hf, Or.inr ⟨rfl, nr, fun x hx => h1 x (by omega)⟩⟩
  have q : ¬ nI 8 ≤ nI l := q
  rw [nlt (by omega) (by omega)] at q
  have l8 : l < 8 := by omega
  have ll := Lb_8 (s := s) hG j (by omega) l l8
  refine pt_gR (v := 125) r9 (pt_aI ?_)
  rw [iN (by omega), h2 l (Nat.le_refl _) l8, nI_s1 (by omega)]
  refine pt_if (fun z => ?_) (fun z => ?_)
  · have z := neq8 ll lq z
    have eP : τ.1 125 (P j) = nI (Lb P Q s j (P j)) := by
      by_cases c : P j < l
      · rw [h1 _ c, sP]
      · exact h2 _ (by omega) p8
    refine pt_gR (v := 125) r9 (pt_gR (v := 125) r9 (pt_aI (pt_s14x (fun υ a b c => ih (nI (l + 1), υ) ?_))))
    rw [iN (by omega), iN (by omega), eP] at a
    refine ⟨l + 1, ⟨rfl, by omega⟩, ⟨c.trans hf.1, fun k hk => (b k (fun e => hk (by rw [e]; exact List.mem_cons_self))).trans (hf.2 k hk)⟩, fun x hx => ?_, fun x hx hx8 => ?_⟩
    · show υ.1 125 x = _
      rw [a, upd_i]
      by_cases e : x = l
      · rw [if_pos e, e, Lb_y hb, if_pos z]
      · rw [if_neg e]; exact h1 x (by omega)
    · show υ.1 125 x = _
      rw [a, upd_n (by omega)]; exact h2 x (by omega) hx8
  · refine ih (nI (l + 1), τ) ⟨l + 1, ⟨rfl, by omega⟩, hf, fun x hx => ?_, fun x hx hx8 => h2 x (by omega) hx8⟩
    by_cases e : x = l
    · rw [e, Lb_y hb, if_neg (fun y => z (by rw [y]))]; exact h2 l (Nat.le_refl _) l8
    · exact h1 x (by omega)
theorem vg_ring {s : Nat} (wc : isWc B) (hR : RF σ.2.2) (hE : Ed σ B m P Q) (hs : s < 1024) : Pt (f_X6_isWithoutRing N 124 B (nI s) σ) (fun r => FG [125] σ r.2 ∧ (r.1 = 0 → ¬ ∀ j, j < m → ¬ rg P Q s j) ∧ (¬ r.1 = 0 → ∀ j, j < m → ¬ rg P Q s j)) := by
  have m10 := hE.1.2
  rw [f_X6_isWithoutRing.eq_1]
  have b125 : ∀ a, a ≤ 2 → B + a ≠ 125 := fun a ha => by unfold isWc at wc; omega
  have Ed9 : ∀ τ : zS, FG [125] σ τ → Ed τ B m P Q := fun τ hf => by
    have e0 := hf.2 B (by simp only [List.mem_cons, List.not_mem_nil, or_false]; exact b125 0 (by decide))
    have e1 := hf.2 (B + 1) (by simp only [List.mem_cons, List.not_mem_nil, or_false]; exact b125 1 (by decide))
    have e2 := hf.2 (B + 2) (by simp only [List.mem_cons, List.not_mem_nil, or_false]; exact b125 2 (by decide))
    unfold Ed at hE ⊢
    rw [e0, e1, e2]; exact hE
  refine pt_lp (fun y : Int32 × zS => ∃ l, (y.1 = nI l ∧ l ≤ 8) ∧ FG [125] σ y.2 ∧ ∀ x, x < l → y.2.1 125 x = nI x) (fun again y hI ih => ?_) N _ ⟨0, ⟨rfl, Nat.zero_le _⟩, FG.rf, fun x hx => absurd hx (Nat.not_lt_zero _)⟩
  obtain ⟨x3, τ⟩ := y
  obtain ⟨l, ⟨ex, hl8⟩, hf, h1⟩ := hI
  have ex : x3 = nI l := ex
  subst ex
  have hf : FG [125] σ τ := hf
  have h1 : ∀ x, x < l → τ.1 125 x = nI x := h1
  have R9 := hf.R hR
  rw [F_X6_isWithoutRing_2.eq_1]
  refine pt_if (fun q => ?_) (fun q => ?_)
  · have q : nI 8 ≤ nI l := q
    rw [nlt (by omega) (by omega)] at q
    refine pt_lp (fun y : Int32 × zS => ∃ j, (y.1 = nI j ∧ j ≤ m) ∧ FG [125] σ y.2 ∧ LbR y.2 P Q s j ∧ ∀ i, i < j → ¬ rg P Q s i) (fun again y hI ih => ?_) N _ ⟨0, ⟨rfl, Nat.zero_le _⟩, hf, fun x hx => h1 x (by omega), fun i hi => absurd hi (Nat.not_lt_zero _)⟩
    obtain ⟨x3, υ⟩ := y
    obtain ⟨j, ⟨ex, hj⟩, hf, hl, hn⟩ := hI
    have ex : x3 = nI j := ex
    subst ex
    have hf : FG [125] σ υ := hf
    have hl : LbR υ P Q s j := hl
    have R9 := hf.R hR
    have E9 := Ed9 υ hf
    rw [F_X6_isWithoutRing_23.eq_1]
    refine pt_gI ?_
    rw [E9.1.1]
    refine pt_if (fun q => ?_) (fun q => ?_)
    · rw [nlt (by omega) (by omega)] at q
      have e : j = m := by omega
      subst e
      exact pt_rZ ⟨hf, fun z => absurd (show (1 : Int32) = 0 from z) (by decide), fun _ => hn⟩
    rw [nlt (by omega) (by omega)] at q
    have hjm : j < m := by omega
    refine pt_if (fun q2 => ?_) (fun _ => ?_)
    · have q2 : nI 10 ≤ nI j := q2
      rw [nlt (by omega) (by omega)] at q2
      omega
    have b0 := bit0 (s := s) (k := j) hs (by omega)
    refine pt_if (fun z => ?_) (fun z => ?_)
    · have bf := b0.mp z
      have nb : ¬ s.testBit j = true := by rw [bf]; simp
      rw [nI_s1 (by omega)]
      refine ih (nI (j + 1), υ) ⟨j + 1, ⟨rfl, by omega⟩, hf, fun x hx => by rw [Lb_n nb]; exact hl x hx, fun i hi => ?_⟩
      by_cases e : i = j
      · rw [e]; exact fun y => nb y.1
      · exact hn i (by omega)
    · have bt' : s.testBit j = true := by
        cases h : s.testBit j with
        | true => rfl
        | false => exact absurd (b0.mpr h) z
      refine pt_gR (v := B + 1) (rW wc R9).1.1 (pt_aI (pt_gR (v := B + 2) (rW wc R9).1.2.1 (pt_aI ?_)))
      rw [iN (by omega), (E9.2.1 j hjm).1, (E9.2.1 j hjm).2]
      refine pt_gC (pt_zb (vg_join R9 hE.2.2 hjm bt' hl) (fun v τ2 h2 => ?_))
      obtain ⟨f2, h2⟩ := h2
      have f2 : FG [125] υ τ2 := f2
      rcases h2 with ⟨v0, r⟩ | ⟨v1, nr, l2⟩
      · have v0 : v = 0 := v0
        exact pt_if (fun _ => pt_rZ ⟨hf.tr f2, fun _ y => y j hjm r, fun y => absurd rfl y⟩) (fun y => absurd v0 y)
      · have v1 : v = 1 := v1
        refine pt_if (fun y => absurd (v1.symm.trans y) (by decide)) (fun _ => ?_)
        rw [nI_s1 (by omega)]
        refine ih (nI (j + 1), τ2) ⟨j + 1, ⟨rfl, by omega⟩, hf.tr f2, l2, fun i hi => ?_⟩
        by_cases e : i = j
        · rw [e]; exact nr
        · exact hn i (by omega)
  · have q : ¬ nI 8 ≤ nI l := q
    rw [nlt (by omega) (by omega)] at q
    refine pt_gR (v := 125) (R9 124 0 rfl) (pt_s14x (fun υ a b c => ?_))
    rw [iN (by omega)] at a
    rw [nI_s1 (by omega)]
    refine ih (nI (l + 1), υ) ⟨l + 1, ⟨rfl, by omega⟩, ⟨c.trans hf.1, fun k hk => (b k (fun e => hk (by rw [e]; exact List.mem_cons_self))).trans (hf.2 k hk)⟩, fun x hx => ?_⟩
    show υ.1 125 x = nI x
    rw [a, upd_i]
    by_cases e : x = l
    · rw [if_pos e, e]
    · rw [if_neg e]; exact h1 x (by omega)
theorem tc_256 (hG : Gr m P Q) {s : Nat} : ∀ j, j ≤ m → tc P Q s j < 256
  | 0, _ => (by decide : 0 < 256)
  | j + 1, hj => by
    have ih := tc_256 hG (s := s) j (by omega)
    have g := (hG j (by omega)).1
    show (if s.testBit j = true then _ else _) < 256
    split
    · exact Nat.or_lt_two_pow (n := 8) ih (Nat.or_lt_two_pow (n := 8) (Nat.pow_lt_pow_right (by decide) g.1) (Nat.pow_lt_pow_right (by decide) g.2))
    · exact ih
/-- what the class asks of a set of edges -/
def OnC (m : Nat) (P Q : Nat → Nat) (w : Int32) (X s : Nat) : Prop := if w = 0 then bc s = bc X - 1 ∧ ∀ j, j < m → ¬ rg P Q s j else if w = 1 then bc (tc P Q s m) = 2 * bc s else tc P Q s m = X
theorem vg_isOne {w : Int32} {X s : Nat} (wc : isWc B) (hR : RF σ.2.2) (hE : Ed σ B m P Q) (hs : s < 1024) (hX : X < 256) : Pt (f_X6_isOneOf N 124 B w (nI s) (nI X) σ) (fun r => FG [125] σ r.2 ∧ (r.1 = 0 → ¬ OnC m P Q w X s) ∧ (¬ r.1 = 0 → OnC m P Q w X s)) := by
  have n1 : ∀ {τ : zS} {C : Prop}, C → ((1 : Int32), τ).1 = 0 → ¬ C := fun _ z => absurd (show (1 : Int32) = 0 from z) (by decide)
  have b8 : ∀ s, s < 1024 → bc s ≤ 10 := fun s _ => ct_le _ 10
  rw [f_X6_isOneOf.eq_1]
  refine pt_zbq (v_bitCount32 (s := X) (by omega)) (fun v hv => pt_zbq (v_bitCount32 hs) (fun v3 hv3 => ?_))
  subst hv
  subst hv3
  unfold OnC
  have bX := b8 X (by omega)
  have bs := b8 s hs
  have mx : zmax 0 (nI (bc X) - 1) = nI (bc X - 1) := by
    have : ∀ a, a ≤ 10 → zmax 0 (nI a - 1) = nI (a - 1) := by decide
    exact this _ bX
  refine pt_if (fun w0 => ?_) (fun w0 => ?_)
  · rw [if_pos w0, mx]
    refine pt_if (fun e => ?_) (fun e => pt_rZ ⟨FG.rf, fun _ z => e (by rw [z.1]), fun z => absurd rfl z⟩)
    have e : bc s = bc X - 1 := by
      have := congrArg Int32.toInt e
      rw [nI_toInt (by omega), nI_toInt (by omega)] at this
      omega
    refine pt_gC (pt_zb (vg_ring wc hR hE hs) (fun v5 τ h => ?_))
    obtain ⟨hf, h0, h1⟩ := h
    have h0 : v5 = 0 → ¬ ∀ j, j < m → ¬ rg P Q s j := h0
    have h1 : ¬ v5 = 0 → ∀ j, j < m → ¬ rg P Q s j := h1
    exact pt_if (fun z => pt_rZ ⟨hf, fun _ y => h0 z y.2, fun y => absurd rfl y⟩) (fun z => pt_rZ ⟨hf, fun y => absurd (show (1 : Int32) = 0 from y) (by decide), fun _ => ⟨e, h1 z⟩⟩)
  · rw [if_neg w0]
    refine pt_if (fun w1 => ?_) (fun w1 => ?_)
    · rw [if_pos w1]
      have t := tc_256 hE.2.2 (s := s) m (Nat.le_refl _)
      refine pt_zbq (vg_touched wc hR hE hs) (fun v7 h7 => ?_)
      rw [h7]
      refine pt_zbq (v_bitCount32 (s := tc P Q s m) (by omega)) (fun v9 h9 => ?_)
      rw [h9]
      have bt9 := b8 (tc P Q s m) (by omega)
      have m2 : (2 : Int32) * nI (bc s) = nI (2 * bc s) := by
        have : ∀ a, a ≤ 10 → (2 : Int32) * nI a = nI (2 * a) := by decide
        exact this _ bs
      rw [m2]
      refine pt_if (fun e => pt_rZ ⟨FG.rf, fun y => absurd (show (1 : Int32) = 0 from y) (by decide), fun _ => ?_⟩) (fun e => pt_rZ ⟨FG.rf, fun _ z => e (by rw [z]), fun y => absurd rfl y⟩)
      have := congrArg Int32.toInt e
      rw [nI_toInt (by omega), nI_toInt (by omega)] at this
      omega
    · rw [if_neg w1]
      have t := tc_256 hE.2.2 (s := s) m (Nat.le_refl _)
      refine pt_zbq (vg_touched wc hR hE hs) (fun v7 h7 => ?_)
      rw [h7]
      refine pt_if (fun e => pt_rZ ⟨FG.rf, fun y => absurd (show (1 : Int32) = 0 from y) (by decide), fun _ => ?_⟩) (fun e => pt_rZ ⟨FG.rf, fun _ z => e (by rw [z]), fun y => absurd rfl y⟩)
      have := congrArg Int32.toInt e
      rw [nI_toInt (by omega), nI_toInt (by omega)] at this
      omega
theorem vg_sets {w : Int32} (wc : isWc B) (kf : (zKd f).1 = 2) (hR : RF σ.2.2) (hE : Ed σ B m P Q) : Pt (f_X6_findSets N 124 B w f σ) (fun r => ((∀ k, k ≠ 125 → r.2.1 k = σ.1 k) ∧ r.2.2.2 = σ.2.2 ∧ ∀ a, a ≠ f + 1 → r.2.2.1 a = σ.2.1 a) ∧ ∀ u, u < 1024 → (bt (r.2.2.1 (f + 1)) u = true ↔ u < 2 ^ m ∧ OnC m P Q w (tc P Q (2 ^ m - 1) m) u)) := by
  have m10 := hE.1.2
  have pm := p2le m10
  have b125 : ∀ a, a ≤ 2 → B + a ≠ 125 := fun a ha => by unfold isWc at wc; omega
  rw [f_X6_findSets.eq_1]
  refine pt_gC (pt_zb (v_clear hR kf) (fun _ σ1 h1 => ?_))
  obtain ⟨l1, z1⟩ := h1
  have l1 : LF (f + 1) σ σ1 := l1
  have z1 : ∀ u, u < 1024 → bt (σ1.2.1 (f + 1)) u = false := z1
  have R1 := l1.R hR
  have E1 := Ed_c l1.1 hE
  refine pt_gI ?_
  rw [E1.1.1, one11 m (by omega), show (1 : Int32) = nI 1 from rfl, nI_sub (show 2 ^ m = (2 ^ m - 1) + 1 by omega)]
  refine pt_zbq (vg_touched wc R1 E1 (by omega)) (fun v4 h4 => ?_)
  subst h4
  have t := tc_256 hE.2.2 (s := 2 ^ m - 1) m (Nat.le_refl _)
  refine pt_lp (fun y : Int32 × zS => ∃ l, (y.1 = nI l ∧ l ≤ 1024) ∧ ((∀ k, k ≠ 125 → y.2.1 k = σ.1 k) ∧ y.2.2.2 = σ.2.2 ∧ ∀ a, a ≠ f + 1 → y.2.2.1 a = σ.2.1 a) ∧ ∀ u, u < 1024 → (bt (y.2.2.1 (f + 1)) u = true ↔ u < l ∧ u < 2 ^ m ∧ OnC m P Q w (tc P Q (2 ^ m - 1) m) u)) (fun again y hI ih => ?_) N _ ⟨0, ⟨rfl, Nat.zero_le _⟩, ⟨fun k _ => by rw [l1.1], l1.2.1, l1.2.2⟩, fun u hu => ⟨fun h => (by rw [z1 u hu] at h; cases h), fun h => absurd h.1 (Nat.not_lt_zero _)⟩⟩
  obtain ⟨x5, τ⟩ := y
  obtain ⟨l, ⟨ex, hl⟩, ⟨hk, hr, ha⟩, hb⟩ := hI
  have ex : x5 = nI l := ex
  subst ex
  have hk : ∀ k, k ≠ 125 → τ.1 k = σ.1 k := hk
  have hr : τ.2.2 = σ.2.2 := hr
  have ha : ∀ a, a ≠ f + 1 → τ.2.1 a = σ.2.1 a := ha
  have hb : ∀ u, u < 1024 → (bt (τ.2.1 (f + 1)) u = true ↔ u < l ∧ u < 2 ^ m ∧ OnC m P Q w (tc P Q (2 ^ m - 1) m) u) := hb
  have R9 : RF τ.2.2 := by rw [hr]; exact hR
  have E9 : Ed τ B m P Q := by
    have e0 := hk B (b125 0 (by decide))
    have e1 := hk (B + 1) (b125 1 (by decide))
    have e2 := hk (B + 2) (b125 2 (by decide))
    unfold Ed at hE ⊢
    rw [e0, e1, e2]; exact hE
  rw [F_X6_findSets_21.eq_1]
  refine pt_gI ?_
  rw [E9.1.1, one11 m (by omega)]
  refine pt_if (fun q => pt_some ⟨⟨hk, hr, ha⟩, fun u hu => ?_⟩) (fun q => ?_)
  · rw [nlt (by omega) (by omega)] at q
    show bt (τ.2.1 (f + 1)) u = true ↔ _
    rw [hb u hu]
    exact ⟨fun h => h.2, fun h => ⟨by omega, h⟩⟩
  rw [nlt (by omega) (by omega)] at q
  refine pt_if (fun q2 => ?_) (fun _ => ?_)
  · have q2 : nI 1024 ≤ nI l := q2
    rw [nlt (by omega) (by omega)] at q2
    omega
  refine pt_gC (pt_zb (vg_isOne (s := l) (X := tc P Q (2 ^ m - 1) m) wc R9 E9 (by omega) t) (fun v7 τ2 h2 => ?_))
  obtain ⟨f2, h0, h1⟩ := h2
  have f2 : FG [125] τ τ2 := f2
  have h0 : v7 = 0 → ¬ OnC m P Q w (tc P Q (2 ^ m - 1) m) l := h0
  have h1 : ¬ v7 = 0 → OnC m P Q w (tc P Q (2 ^ m - 1) m) l := h1
  have k2 : ∀ k, k ≠ 125 → τ2.1 k = σ.1 k := fun k hn => (f2.2 k (by simp only [List.mem_cons, List.not_mem_nil, or_false]; exact hn)).trans (hk k hn)
  rw [nI_s1 (by omega)]
  refine pt_if (fun z => ?_) (fun z => ?_)
  · refine ih (nI (l + 1), τ2) ⟨l + 1, ⟨rfl, by omega⟩, ⟨k2, by rw [f2.1]; exact hr, fun a hn => by rw [f2.1]; exact ha a hn⟩, fun u hu => ?_⟩
    show bt (τ2.2.1 (f + 1)) u = true ↔ _
    rw [f2.1, hb u hu]
    refine ⟨fun h => ⟨by omega, h.2⟩, fun h => ⟨?_, h.2⟩⟩
    have : u ≠ l := fun e => h0 z (by rw [← e]; exact h.2.2)
    omega
  · refine pt_gC (pt_zb (v_include (by rw [f2.1]; exact R9) kf (by omega)) (fun _ τ3 h3 => ?_))
    obtain ⟨l3, i3⟩ := h3
    have l3 : LF (f + 1) τ2 τ3 := l3
    have i3 : ∀ u, u < 1024 → bt (τ3.2.1 (f + 1)) u = (bt (τ2.2.1 (f + 1)) u || decide (u = l)) := i3
    refine ih (nI (l + 1), τ3) ⟨l + 1, ⟨rfl, by omega⟩, ⟨fun k hn => by show τ3.1 k = _; rw [l3.1]; exact k2 k hn, by show τ3.2.2 = _; rw [l3.2.1, f2.1]; exact hr, fun a hn => by show τ3.2.1 a = _; rw [l3.2.2 a hn, f2.1]; exact ha a hn⟩, fun u hu => ?_⟩
    show bt (τ3.2.1 (f + 1)) u = true ↔ _
    rw [i3 u hu, f2.1, Bool.or_eq_true, decide_eq_true_iff, hb u hu]
    constructor
    · rintro (h | h)
      · exact ⟨by omega, h.2⟩
      · rw [h]; exact ⟨by omega, by omega, h1 z⟩
    · rintro ⟨h, h'⟩
      by_cases e : u = l
      · exact Or.inr e
      · exact Or.inl ⟨by omega, h'⟩
end ROADS2
end Zq14_15
section Zq14_16
/-! ===== the reference's roads ===== -/
section RROADS
variable {N m : Nat} {σ τ : zS} {P Q : Nat → Nat}
def EdR (σ : zS) (m : Nat) (P Q : Nat → Nat) : Prop := (σ.1 219 2 = nI m ∧ m ≤ 10) ∧ (∀ j, j < m → σ.1 219 (13 + j) = nI (P j) ∧ σ.1 219 (23 + j) = nI (Q j)) ∧ Gr m P Q
theorem EdR_c (h0 : τ.1 219 = σ.1 219) (h : EdR σ m P Q) : EdR τ m P Q := by
  unfold EdR at h ⊢
  rw [h0]; exact h
theorem vk_one {j : Nat} (hR : RF σ.2.2) (hE : EdR σ m P Q) (hj : j < m) : Px (f_X12_one N 218 (nI j) σ) σ (fun v => v = nI (P j)) := by
  have m10 := hE.1.2
  rw [f_X12_one.eq_1]
  refine pt_gR (v := 219) (hR 218 1 rfl) (pt_aI (pt_some ⟨rfl, ?_⟩))
  show σ.1 219 ((13 : Int32) + nI j).toInt.toNat = _
  rw [show (13 : Int32) + nI j = nI (13 + j) from nI_plus 13 j, iN (by omega)]
  exact (hE.2.1 j hj).1
theorem vk_other {j : Nat} (hR : RF σ.2.2) (hE : EdR σ m P Q) (hj : j < m) : Px (f_X12_other N 218 (nI j) σ) σ (fun v => v = nI (Q j)) := by
  have m10 := hE.1.2
  rw [f_X12_other.eq_1]
  refine pt_gR (v := 219) (hR 218 1 rfl) (pt_aI (pt_some ⟨rfl, ?_⟩))
  show σ.1 219 ((23 : Int32) + nI j).toInt.toNat = _
  rw [show (23 : Int32) + nI j = nI (23 + j) from nI_plus 23 j, iN (by omega)]
  exact (hE.2.1 j hj).2
theorem vk_ends {s : Nat} (hR : RF σ.2.2) (hE : EdR σ m P Q) (hs : s < 1024) : Pt (f_X12_fillEnds N 218 (nI s) σ) (fun r => FG [238] σ r.2 ∧ ∀ v, v < 8 → r.2.1 238 v = nI (dg P Q s m v)) := by
  have m10 := hE.1.2
  rw [f_X12_fillEnds.eq_1]
  refine pt_lp (fun y : Int32 × zS => ∃ l, (y.1 = nI l ∧ l ≤ 8) ∧ FG [238] σ y.2 ∧ ∀ x, x < l → y.2.1 238 x = 0) (fun again y hI ih => ?_) N _ ⟨0, ⟨rfl, Nat.zero_le _⟩, FG.rf, fun x hx => absurd hx (Nat.not_lt_zero _)⟩
  obtain ⟨x2, τ⟩ := y
  obtain ⟨l, ⟨ex, hl⟩, hf, hz⟩ := hI
  have ex : x2 = nI l := ex
  subst ex
  have hf : FG [238] σ τ := hf
  have hz : ∀ x, x < l → τ.1 238 x = 0 := hz
  have R9 := hf.R hR
  rw [F_X12_fillEnds_2.eq_1]
  refine pt_if (fun q => ?_) (fun q => ?_)
  · have q : nI 8 ≤ nI l := q
    rw [nlt (by omega) (by omega)] at q
    refine pt_lp (fun y : Int32 × zS => ∃ j, (y.1 = nI j ∧ j ≤ m) ∧ FG [238] σ y.2 ∧ ∀ v, v < 8 → y.2.1 238 v = nI (dg P Q s j v)) (fun again y hI ih => ?_) N _ ⟨0, ⟨rfl, Nat.zero_le _⟩, hf, fun v hv => hz v (by omega)⟩
    obtain ⟨x2, υ⟩ := y
    obtain ⟨j, ⟨ex, hj⟩, hf, hd⟩ := hI
    have ex : x2 = nI j := ex
    subst ex
    have hf : FG [238] σ υ := hf
    have hd : ∀ v, v < 8 → υ.1 238 v = nI (dg P Q s j v) := hd
    have R9 := hf.R hR
    have E9 : EdR υ m P Q := EdR_c (hf.2 219 (by decide)) hE
    rw [F_X12_fillEnds_23.eq_1]
    refine pt_gR (v := 219) (R9 218 1 rfl) (pt_aI ?_)
    rw [show (Int32.toInt 2).toNat = 2 from rfl, E9.1.1]
    refine pt_if (fun q => ?_) (fun q => ?_)
    · rw [nlt (by omega) (by omega)] at q
      have e : j = m := by omega
      subst e
      exact pt_some ⟨hf, hd⟩
    rw [nlt (by omega) (by omega)] at q
    have hjm : j < m := by omega
    obtain ⟨⟨p8, q8⟩, ne⟩ := hE.2.2 j hjm
    refine pt_gR (v := 238) (R9 218 34 rfl) (pt_gC (pt_zbq (vk_one R9 E9 hjm) (fun v hv => ?_)))
    rw [hv]
    refine pt_aI (pt_s14x (fun υ1 a1 b1 c1 => ?_))
    have f1 : FG [238] σ υ1 := ⟨c1.trans hf.1, fun k hk => (b1 k (fun e => hk (by rw [e]; exact List.mem_cons_self))).trans (hf.2 k hk)⟩
    have R1 := f1.R hR
    have E1 : EdR υ1 m P Q := EdR_c (f1.2 219 (by decide)) hE
    refine pt_gR (v := 238) (R1 218 34 rfl) (pt_gC (pt_zbq (vk_other R1 E1 hjm) (fun v hv => ?_)))
    rw [hv]
    refine pt_aI (pt_s14x (fun υ2 a2 b2 c2 => ?_))
    have f2 : FG [238] σ υ2 := ⟨c2.trans f1.1, fun k hk => (b2 k (fun e => hk (by rw [e]; exact List.mem_cons_self))).trans (f1.2 k hk)⟩
    rw [nI_s1 (by omega)]
    refine ih (nI (j + 1), υ2) ⟨j + 1, ⟨rfl, by omega⟩, f2, fun v hv => ?_⟩
    rw [iN (by omega), hd _ p8, shb j (by omega) s hs, nI_plus] at a1
    rw [iN (by omega), a1, upd_n (show Q j ≠ P j from fun z => ne z.symm), hd _ q8, shb j (by omega) s hs, nI_plus] at a2
    show υ2.1 238 v = nI (dg P Q s (j + 1) v)
    rw [a2, upd_i, upd_i, dg_s]
    have e : ∀ x, (x = P j ∨ x = Q j) → (if eb P Q s x j = true then 1 else 0) = (if s.testBit j = true then 1 else 0 : Nat) := fun x hx => by
      by_cases b : s.testBit j = true
      · rw [if_pos b, if_pos (eb_t.mpr ⟨b, hx.imp Eq.symm Eq.symm⟩)]
      · rw [if_neg b, if_neg (fun z => b (eb_t.mp z).1)]
    by_cases eq : v = Q j
    · rw [if_pos eq, e v (Or.inr eq), eq]
    · rw [if_neg eq]
      by_cases ep : v = P j
      · rw [if_pos ep, e v (Or.inl ep), ep]
      · rw [if_neg ep, if_neg (fun z => (eb_t.mp z).2.elim (fun y => ep y.symm) (fun y => eq y.symm)), hd v hv, Nat.add_zero]
  · have q : ¬ nI 8 ≤ nI l := q
    rw [nlt (by omega) (by omega)] at q
    refine pt_gR (v := 238) (R9 218 34 rfl) (pt_s14x (fun υ a b c => ?_))
    rw [iN (by omega)] at a
    rw [nI_s1 (by omega)]
    refine ih (nI (l + 1), υ) ⟨l + 1, ⟨rfl, by omega⟩, ⟨c.trans hf.1, fun k hk => (b k (fun e => hk (by rw [e]; exact List.mem_cons_self))).trans (hf.2 k hk)⟩, fun x hx => ?_⟩
    show υ.1 238 x = 0
    rw [a, upd_i]
    by_cases e : x = l
    · rw [if_pos e]
    · rw [if_neg e]; exact hz x (by omega)
theorem rds_256 (hG : Gr m P Q) {s C : Nat} (hC : C < 256) : ∀ j, j ≤ m → rds P Q s j C < 256
  | 0, _ => hC
  | j + 1, hj => by
    have ih := rds_256 hG (s := s) hC j (by omega)
    have g := (hG j (by omega)).1
    show rd1 P Q s j (rds P Q s j C) < 256
    unfold rd1
    split
    · exact Nat.or_lt_two_pow (n := 8) ih (Nat.or_lt_two_pow (n := 8) (Nat.pow_lt_pow_right (by decide) g.1) (Nat.pow_lt_pow_right (by decide) g.2))
    · exact ih
theorem hg_256 (hG : Gr m P Q) {s c : Nat} (hc : c < 8) : ∀ r, hg m P Q s c r < 256
  | 0 => Nat.pow_lt_pow_right (n := 8) (by decide) hc
  | r + 1 => rds_256 hG (hg_256 hG hc r) m (Nat.le_refl _)
theorem vk_hangs {s c : Nat} (hR : RF σ.2.2) (hE : EdR σ m P Q) (hs : s < 1024) (hc : c < 8) : Px (f_X12_hangs N 218 (nI s) (nI c) σ) σ (fun v => v = nI (hg m P Q s c 8)) := by
  have m10 := hE.1.2
  have hG := hE.2.2
  rw [f_X12_hangs.eq_1, one11 c (by omega)]
  refine pt_lp (fun y : Int32 × Int32 × zS => y.2.2 = σ ∧ ∃ r, y.1 = nI (hg m P Q s c r) ∧ y.2.1 = nI r ∧ r ≤ 8) (fun again y hI ih => ?_) N _ ⟨rfl, 0, rfl, rfl, Nat.zero_le _⟩
  obtain ⟨x3, x4, τ⟩ := y
  obtain ⟨eo, r, e3o, e4o, hr⟩ := hI
  have e : τ = σ := eo
  have e3 : x3 = nI (hg m P Q s c r) := e3o
  have e4 : x4 = nI r := e4o
  clear eo e3o e4o
  subst e
  subst e3
  subst e4
  have c256 := hg_256 hG (s := s) hc r
  rw [F_X12_hangs_7.eq_1]
  refine pt_if (fun q => pt_some ⟨rfl, ?_⟩) (fun q => ?_)
  · have q : nI 8 ≤ nI r := q
    rw [nlt (by omega) (by omega)] at q
    show nI (hg m P Q s c r) = _
    rw [show r = 8 by omega]
  have q : ¬ nI 8 ≤ nI r := q
  rw [nlt (by omega) (by omega)] at q
  refine pt_lp (fun y : Int32 × Int32 × zS => y.2.2 = τ ∧ ∃ j, y.1 = nI (rds P Q s j (hg m P Q s c r)) ∧ y.2.1 = nI j ∧ j ≤ m) (fun again2 y hI ih2 => ?_) N _ ⟨rfl, 0, rfl, rfl, Nat.zero_le _⟩
  obtain ⟨x3, x5, υ⟩ := y
  obtain ⟨eo, j, e3o, e5o, hj⟩ := hI
  have e : υ = τ := eo
  have e3 : x3 = nI (rds P Q s j (hg m P Q s c r)) := e3o
  have e5 : x5 = nI j := e5o
  clear eo e3o e5o
  subst e
  subst e3
  subst e5
  have d256 := rds_256 hG (s := s) c256 j hj
  rw [F_X12_hangs_17.eq_1]
  refine pt_gR (v := 219) (hR 218 1 rfl) (pt_aI ?_)
  rw [show (Int32.toInt 2).toNat = 2 from rfl, hE.1.1]
  refine pt_if (fun q => ?_) (fun q => ?_)
  · rw [nlt (by omega) (by omega)] at q
    rw [nI_s1 (by omega), show j = m by omega]
    exact ih (nI (hg m P Q s c (r + 1)), nI (r + 1), υ) ⟨rfl, r + 1, rfl, rfl, by omega⟩
  rw [nlt (by omega) (by omega)] at q
  have hjm : j < m := by omega
  obtain ⟨⟨p8, q8⟩, ne⟩ := hE.2.2 j hjm
  rw [shb j (by omega) s hs]
  have one1 : ∀ b : Bool, nI (if b = true then 1 else 0) = 1 ↔ b = true := fun b => by cases b <;> decide
  have stay : ¬ (s.testBit j = true ∧ ((rds P Q s j (hg m P Q s c r)).testBit (P j) = true ∨ (rds P Q s j (hg m P Q s c r)).testBit (Q j) = true)) → Pt (again2 (nI (rds P Q s j (hg m P Q s c r)), nI j + 1, υ)) (fun r_1 => r_1.2 = υ ∧ (fun v => v = nI (hg m P Q s c 8)) r_1.1) := fun no => by
    rw [nI_s1 (by omega)]
    exact ih2 (nI (rds P Q s j (hg m P Q s c r)), nI (j + 1), υ) ⟨rfl, j + 1, by show _ = nI (rd1 P Q s j (rds P Q s j (hg m P Q s c r))); rw [show rd1 P Q s j (rds P Q s j (hg m P Q s c r)) = rds P Q s j (hg m P Q s c r) from if_neg no], rfl, by omega⟩
  refine pt_if (fun z => ?_) (fun z => stay (fun y => z ((one1 _).mpr y.1)))
  have bt' := (one1 _).mp z
  refine pt_gC (pt_zbq (vk_one hR hE hjm) (fun v hv => pt_gC (pt_zbq (vk_other hR hE hjm) (fun w hw => ?_))))
  rw [hv, hw, shb (P j) (by omega) _ (by omega), shb (Q j) (by omega) _ (by omega)]
  have or1 : ∀ a b : Bool, (nI (if a = true then 1 else 0) ||| nI (if b = true then 1 else 0)) = 1 ↔ (a = true ∨ b = true) := fun a b => by cases a <;> cases b <;> decide
  refine pt_if (fun y => ?_) (fun y => stay (fun x => y ((or1 _ _).mpr x.2)))
  have yy := (or1 _ _).mp y
  refine pt_gC (pt_zbq (vk_one hR hE hjm) (fun v2 hv2 => pt_gC (pt_zbq (vk_other hR hE hjm) (fun w2 hw2 => ?_))))
  rw [hv2, hw2, one11 (P j) (by omega), one11 (Q j) (by omega), nI_or, nI_or, nI_s1 (by omega)]
  exact ih2 (nI (rds P Q s j (hg m P Q s c r) ||| (2 ^ P j ||| 2 ^ Q j)), nI (j + 1), υ) ⟨rfl, j + 1, by show _ = nI (rd1 P Q s j (rds P Q s j (hg m P Q s c r))); rw [show rd1 P Q s j (rds P Q s j (hg m P Q s c r)) = rds P Q s j (hg m P Q s c r) ||| (2 ^ P j ||| 2 ^ Q j) from if_pos ⟨bt', yy⟩], rfl, by omega⟩
theorem nnI {a b : Nat} (ha : a ≤ 2000) (hb : b ≤ 2000) : nI a = nI b ↔ a = b := by
  constructor
  · intro h
    have := congrArg Int32.toInt h
    rw [nI_toInt (by omega), nI_toInt (by omega)] at this
    omega
  · intro h; rw [h]
theorem vk_isWay {s c g : Nat} (hR : RF σ.2.2) (hE : EdR σ m P Q) (hs : s < 1024) (hc : c < 8) (g8 : g < 8) : Pt (f_X12_isWay N 218 (nI s) (nI c) (nI g) σ) (fun r => FG [238] σ r.2 ∧ (r.1 = 0 → ¬ (if c = g then s = 0 else IsW m P Q s c g)) ∧ (¬ r.1 = 0 → if c = g then s = 0 else IsW m P Q s c g)) := by
  have m10 := hE.1.2
  have d10 : ∀ v, dg P Q s m v ≤ 10 := fun v => Nat.le_trans (ct_le _ m) m10
  have t1 : ∀ {τ : zS} {C : Prop}, C → ((1 : Int32), τ).1 = 0 → ¬ C := fun _ z => absurd (show (1 : Int32) = 0 from z) (by decide)
  rw [f_X12_isWay.eq_1]
  refine pt_if (fun e => ?_) (fun e => ?_)
  · have e : c = g := neq8 hc g8 e
    rw [if_pos e]
    refine pt_if (fun z => pt_rZ ⟨FG.rf, fun y => absurd (show (1 : Int32) = 0 from y) (by decide), fun _ => (nnI (b := 0) (by omega) (by decide)).mp z⟩) (fun z => pt_rZ ⟨FG.rf, fun _ y => z (by rw [y]; rfl), fun y => absurd rfl y⟩)
  have ne : ¬ c = g := fun z => e (by rw [z])
  rw [if_neg ne]
  refine pt_gC (pt_zb (vk_ends hR hE hs) (fun _ σ1 h1 => ?_))
  obtain ⟨f1, d1⟩ := h1
  have f1 : FG [238] σ σ1 := f1
  have d1 : ∀ v, v < 8 → σ1.1 238 v = nI (dg P Q s m v) := d1
  have R1 := f1.R hR
  have E1 : EdR σ1 m P Q := EdR_c (f1.2 219 (by decide)) hE
  refine pt_gR (v := 238) (R1 218 34 rfl) (pt_aI ?_)
  rw [iN (by omega), d1 c hc]
  refine pt_if (fun z => ?_) (fun z => pt_rZ ⟨f1, fun _ y => z (by rw [y.1.1]; rfl), fun y => absurd rfl y⟩)
  have dc := (nnI (b := 1) (by have := d10 c; omega) (by decide)).mp z
  refine pt_gR (v := 238) (R1 218 34 rfl) (pt_aI ?_)
  rw [iN (by omega), d1 g g8]
  refine pt_if (fun z => ?_) (fun z => pt_rZ ⟨f1, fun _ y => z (by rw [y.1.2]; rfl), fun y => absurd rfl y⟩)
  have dgg := (nnI (b := 1) (by have := d10 g; omega) (by decide)).mp z
  refine pt_gC (pt_zbq (vk_hangs R1 E1 hs hc) (fun v hv => ?_))
  subst hv
  have h256 := hg_256 hE.2.2 (s := s) hc 8
  refine pt_lp (fun y : Int32 × zS => y.2 = σ1 ∧ ∃ l, (y.1 = nI l ∧ l ≤ 8) ∧ ∀ x, x < l → (0 < dg P Q s m x → (hg m P Q s c 8).testBit x = true) ∧ (x ≠ c → x ≠ g → dg P Q s m x = 0 ∨ dg P Q s m x = 2)) (fun again y hI ih => ?_) N _ ⟨rfl, 0, ⟨rfl, Nat.zero_le _⟩, fun x hx => absurd hx (Nat.not_lt_zero _)⟩
  obtain ⟨x5, τ⟩ := y
  obtain ⟨e9, l, ⟨ex, hl⟩, hx⟩ := hI
  have e9 : τ = σ1 := e9
  have ex : x5 = nI l := ex
  subst ex
  subst e9
  rw [F_X12_isWay_53.eq_1]
  refine pt_if (fun q => ?_) (fun q => ?_)
  · have q : nI 8 ≤ nI l := q
    rw [nlt (by omega) (by omega)] at q
    exact pt_rZ ⟨f1, fun y => absurd (show (1 : Int32) = 0 from y) (by decide), fun _ => ⟨⟨dc, dgg⟩, fun x h => hx x (by omega)⟩⟩
  have q : ¬ nI 8 ≤ nI l := q
  rw [nlt (by omega) (by omega)] at q
  have l8 : l < 8 := by omega
  have dl := d10 l
  have go : (0 < dg P Q s m l → (hg m P Q s c 8).testBit l = true) → Pt (J_X12_isWay_80 N again 218 (nI c) (nI g) (nI (hg m P Q s c 8)) (nI l) τ) (fun r => FG [238] σ r.2 ∧ (r.1 = 0 → ¬ IsW m P Q s c g) ∧ (¬ r.1 = 0 → IsW m P Q s c g)) := fun a => by
    have nxt : (l ≠ c → l ≠ g → dg P Q s m l = 0 ∨ dg P Q s m l = 2) → Pt (again (nI l + 1, τ)) (fun r => FG [238] σ r.2 ∧ (r.1 = 0 → ¬ IsW m P Q s c g) ∧ (¬ r.1 = 0 → IsW m P Q s c g)) := fun b => by
      rw [nI_s1 (by omega)]
      refine ih (nI (l + 1), τ) ⟨rfl, l + 1, ⟨rfl, by omega⟩, fun x h => ?_⟩
      by_cases e : x = l
      · rw [e]; exact ⟨a, b⟩
      · exact hx x (by omega)
    rw [J_X12_isWay_80.eq_1]
    refine pt_if (fun z => nxt (fun y => absurd (neq8 l8 hc z) y)) (fun z1 => pt_if (fun z => nxt (fun _ y => absurd (neq8 l8 g8 z) y)) (fun z2 => ?_))
    refine pt_gR (v := 238) (R1 218 34 rfl) (pt_aI ?_)
    rw [iN (by omega), d1 l l8]
    refine pt_if (fun z => nxt (fun _ _ => Or.inl ((nnI (b := 0) (by omega) (by decide)).mp z))) (fun z3 => ?_)
    refine pt_gR (v := 238) (R1 218 34 rfl) (pt_aI ?_)
    rw [iN (by omega), d1 l l8]
    refine pt_if (fun z => nxt (fun _ _ => Or.inr ((nnI (b := 2) (by omega) (by decide)).mp z))) (fun z4 => pt_rZ ⟨f1, fun _ y => ?_, fun y => absurd rfl y⟩)
    rcases (y.2 l l8).2 (fun w => z1 (by rw [w])) (fun w => z2 (by rw [w])) with w | w
    · exact z3 (by rw [w]; rfl)
    · exact z4 (by rw [w]; rfl)
  have b0 := bit0 (s := hg m P Q s c 8) (k := l) (by omega) (by omega)
  refine pt_if (fun z => ?_) (fun z => go (fun _ => ?_))
  · have bf := b0.mp z
    refine pt_gR (v := 238) (R1 218 34 rfl) (pt_aI ?_)
    rw [iN (by omega), d1 l l8]
    refine pt_if (fun y => pt_rZ ⟨f1, fun _ w => ?_, fun w => absurd rfl w⟩) (fun y => go (fun w => absurd ?_ y))
    · rw [Int32.lt_iff_toInt_lt, nI_toInt (by omega)] at y
      simp only [Int32.reduceToInt] at y
      have := (w.2 l l8).1 (by omega)
      rw [bf] at this; cases this
    · rw [Int32.lt_iff_toInt_lt, nI_toInt (by omega)]
      simp only [Int32.reduceToInt]
      omega
  · cases h : (hg m P Q s c 8).testBit l with
    | true => rfl
    | false => exact absurd (b0.mpr h) z
end RROADS
end Zq14_16
section Zq14_17
/-! ===== the reference's sets of edges; both ask the same ===== -/
section RSETS
variable {N m : Nat} {σ τ : zS} {P Q : Nat → Nat}
/-- all edges -/
def Xa (m : Nat) (P Q : Nat → Nat) : Nat := tc P Q (2 ^ m - 1) m
theorem one_b {j : Nat} (h : j < m) : (2 ^ m - 1).testBit j = true := by
  rw [Nat.testBit_two_pow_sub_one]; exact decide_eq_true h
theorem Xa_us : Us m P Q (Xa m P Q) := fun v => by
  unfold Xa
  rw [tc_d]
  constructor
  · intro h
    have : ¬ ct (eb P Q (2 ^ m - 1) v) m = 0 := by unfold dg at h; omega
    obtain ⟨j, hj, e⟩ := ct_ex.mp this
    exact ⟨j, hj, (eb_t.mp e).2⟩
  · rintro ⟨j, hj, e⟩
    have : ¬ ct (eb P Q (2 ^ m - 1) v) m = 0 := ct_ex.mpr ⟨j, hj, eb_t.mpr ⟨one_b hj, e⟩⟩
    unfold dg
    omega
theorem vk_cross (hR : RF σ.2.2) (hE : EdR σ m P Q) : Px (f_X12_crossings N 218 σ) σ (fun v => v = nI (Xa m P Q)) := by
  have m10 := hE.1.2
  rw [f_X12_crossings.eq_1]
  refine pt_lp (fun y : Int32 × Int32 × zS => y.2.2 = σ ∧ ∃ j, y.1 = nI (tc P Q (2 ^ m - 1) j) ∧ y.2.1 = nI j ∧ j ≤ m) (fun again y hI ih => ?_) N _ ⟨rfl, 0, rfl, rfl, Nat.zero_le _⟩
  obtain ⟨x1, x2, τ⟩ := y
  obtain ⟨e, j, e1, e2, hj⟩ := hI
  have e : τ = σ := e
  have e1 : x1 = nI (tc P Q (2 ^ m - 1) j) := e1
  have e2 : x2 = nI j := e2
  subst e
  subst e1
  subst e2
  rw [F_X12_crossings_4.eq_1]
  refine pt_gR (v := 219) (hR 218 1 rfl) (pt_aI ?_)
  rw [show (Int32.toInt 2).toNat = 2 from rfl, hE.1.1]
  refine pt_if (fun q => pt_some ⟨rfl, ?_⟩) (fun q => ?_)
  · rw [nlt (by omega) (by omega)] at q
    show nI (tc P Q (2 ^ m - 1) j) = nI (tc P Q (2 ^ m - 1) m)
    rw [show j = m by omega]
  rw [nlt (by omega) (by omega)] at q
  have hjm : j < m := by omega
  obtain ⟨⟨p8, q8⟩, ne⟩ := hE.2.2 j hjm
  refine pt_gC (pt_zbq (vk_one hR hE hjm) (fun v hv => pt_gC (pt_zbq (vk_other hR hE hjm) (fun w hw => ?_))))
  rw [hv, hw, one11 (P j) (by omega), one11 (Q j) (by omega), nI_or, nI_or, nI_s1 (by omega)]
  exact ih (nI (tc P Q (2 ^ m - 1) j ||| (2 ^ P j ||| 2 ^ Q j)), nI (j + 1), τ) ⟨rfl, j + 1, by show _ = nI (tc P Q (2 ^ m - 1) (j + 1)); rw [show tc P Q (2 ^ m - 1) (j + 1) = tc P Q (2 ^ m - 1) j ||| (2 ^ P j ||| 2 ^ Q j) from if_pos (one_b hjm)], rfl, by omega⟩
/-- what the reference asks of a set of edges -/
def TrR (m : Nat) (P Q : Nat → Nat) (s : Nat) : Prop := if Xa m P Q = 0 then s = 0 else ∃ l, ((Xa m P Q).testBit l = true ∧ ∀ k, k < l → (Xa m P Q).testBit k = false) ∧ hg m P Q s l 8 = Xa m P Q ∧ bc s = bc (Xa m P Q) - 1
def OnR (m : Nat) (P Q : Nat → Nat) (w : Int32) (s : Nat) : Prop := if w = 0 then TrR m P Q s else if w = 1 then ∀ v, v < 8 → dg P Q s m v ≤ 1 else ∀ v, v < 8 → (Xa m P Q).testBit v = true → 0 < dg P Q s m v
theorem Xa_256 (hG : Gr m P Q) : Xa m P Q < 256 := tc_256 hG m (Nat.le_refl _)
theorem vk_tree {s : Nat} (hR : RF σ.2.2) (hE : EdR σ m P Q) (hs : s < 1024) : Pt (f_X12_isTree N 218 (nI s) (nI (Xa m P Q)) σ) (fun r => r.2 = σ ∧ (r.1 = 0 → ¬ TrR m P Q s) ∧ (¬ r.1 = 0 → TrR m P Q s)) := by
  have X256 := Xa_256 hE.2.2
  have bX : bc (Xa m P Q) ≤ 10 := ct_le _ 10
  have bs : bc s ≤ 10 := ct_le _ 10
  have n1 : ∀ {C : Prop}, ((1 : Int32), σ).1 = 0 → C := fun z => absurd (show (1 : Int32) = 0 from z) (by decide)
  unfold TrR
  rw [f_X12_isTree.eq_1]
  refine pt_if (fun e => ?_) (fun e => ?_)
  · have e := (nnI (b := 0) (by omega) (by decide)).mp e
    rw [if_pos e]
    exact pt_if (fun z => pt_rZ ⟨rfl, fun y => absurd (show (1 : Int32) = 0 from y) (by decide), fun _ => (nnI (b := 0) (by omega) (by decide)).mp z⟩) (fun z => pt_rZ ⟨rfl, fun _ y => z (by rw [y]; rfl), fun y => absurd rfl y⟩)
  have nz : ¬ Xa m P Q = 0 := fun z => e (by rw [z]; rfl)
  rw [if_neg nz]
  refine pt_lp (fun y : Int32 × zS => y.2 = σ ∧ ∃ l, (y.1 = nI l ∧ l < 8) ∧ ∀ k, k < l → (Xa m P Q).testBit k = false) (fun again y hI ih => ?_) N _ ⟨rfl, 0, ⟨rfl, by decide⟩, fun k hk => absurd hk (Nat.not_lt_zero _)⟩
  obtain ⟨x3, τ⟩ := y
  obtain ⟨e9, l, ⟨ex, l8⟩, hl⟩ := hI
  have e9 : τ = σ := e9
  have ex : x3 = nI l := ex
  subst e9
  subst ex
  have uniq : ∀ k, ((Xa m P Q).testBit k = true ∧ ∀ i, i < k → (Xa m P Q).testBit i = false) → (Xa m P Q).testBit l = true → k = l := fun k hk bl => by
    rcases Nat.lt_trichotomy k l with h | h | h
    · rw [hl k h] at hk; exact absurd hk.1 (by simp)
    · exact h
    · have := hk.2 l h
      rw [bl] at this; cases this
  rw [F_X12_isTree_16.eq_1]
  have b0 := bit0 (s := Xa m P Q) (k := l) (by omega) (by omega)
  refine pt_if (fun z => ?_) (fun z => ?_)
  · have bf := b0.mp z
    rw [nI_s1 (by omega)]
    have all : ∀ k, k < l + 1 → (Xa m P Q).testBit k = false := fun k hk => by
      by_cases e : k = l
      · rw [e]; exact bf
      · exact hl k (by omega)
    refine ih (nI (l + 1), τ) ⟨rfl, l + 1, ⟨rfl, ?_⟩, all⟩
    refine Classical.byContradiction (fun y => nz (Nat.eq_of_testBit_eq (fun i => ?_)))
    rw [Nat.zero_testBit]
    by_cases hi : i < l + 1
    · exact all i hi
    · exact Nat.testBit_lt_two_pow (Nat.lt_of_lt_of_le X256 (show 256 ≤ 2 ^ i from Nat.pow_le_pow_right (n := 2) (i := 8) (by decide) (by omega : 8 ≤ i)))
  · have bl : (Xa m P Q).testBit l = true := by
      cases h : (Xa m P Q).testBit l with
      | true => rfl
      | false => exact absurd (b0.mpr h) z
    have h256 := hg_256 hE.2.2 (s := s) l8 8
    refine pt_gC (pt_zbq (vk_hangs hR hE hs l8) (fun v hv => ?_))
    rw [hv]
    refine pt_if (fun y => ?_) (fun y => pt_rZ ⟨rfl, fun _ w => ?_, fun w => absurd rfl w⟩)
    · have y := (nnI (by omega) (by omega)).mp y
      refine pt_zbq (vr_namesOf hs) (fun v3 h3 => pt_zbq (vr_namesOf (s := Xa m P Q) (by omega)) (fun v5 h5 => ?_))
      rw [h3, h5]
      have bX1 : 1 ≤ bc (Xa m P Q) := by
        have : ¬ ct (fun i => (Xa m P Q).testBit i) 10 = 0 := ct_ex.mpr ⟨l, by omega, bl⟩
        unfold bc
        omega
      rw [show (1 : Int32) = nI 1 from rfl, nI_m bX1]
      refine pt_if (fun w => pt_rZ ⟨rfl, fun a => absurd (show (1 : Int32) = 0 from a) (by decide), fun _ => ⟨l, ⟨bl, hl⟩, y, (nnI (by omega) (by omega)).mp w⟩⟩) (fun w => pt_rZ ⟨rfl, fun _ a => ?_, fun a => absurd rfl a⟩)
      obtain ⟨k, _, _, c⟩ := a
      exact w (by rw [c])
    · obtain ⟨k, hk, c, _⟩ := w
      rw [uniq k hk bl] at c
      exact y (by rw [c])
theorem vk_pairs {s : Nat} (hR : RF σ.2.2) (hE : EdR σ m P Q) (hs : s < 1024) : Pt (f_X12_isPairs N 218 (nI s) σ) (fun r => FG [238] σ r.2 ∧ (r.1 = 0 → ¬ ∀ v, v < 8 → dg P Q s m v ≤ 1) ∧ (¬ r.1 = 0 → ∀ v, v < 8 → dg P Q s m v ≤ 1)) := by
  have m10 := hE.1.2
  have d10 : ∀ v, dg P Q s m v ≤ 10 := fun v => Nat.le_trans (ct_le _ m) m10
  rw [f_X12_isPairs.eq_1]
  refine pt_gC (pt_zb (vk_ends hR hE hs) (fun _ σ1 h1 => ?_))
  obtain ⟨f1, d1⟩ := h1
  have f1 : FG [238] σ σ1 := f1
  have d1 : ∀ v, v < 8 → σ1.1 238 v = nI (dg P Q s m v) := d1
  have R1 := f1.R hR
  refine pt_lp (fun y : Int32 × Int32 × zS => y.2.2 = σ1 ∧ ∃ l, (y.2.1 = nI l ∧ l ≤ 8) ∧ ((y.1 = 1 ∧ ∀ v, v < l → dg P Q s m v ≤ 1) ∨ (y.1 = 0 ∧ ¬ ∀ v, v < 8 → dg P Q s m v ≤ 1))) (fun again y hI ih => ?_) N _ ⟨rfl, 0, ⟨rfl, Nat.zero_le _⟩, Or.inl ⟨rfl, fun v hv => absurd hv (Nat.not_lt_zero _)⟩⟩
  obtain ⟨x2, x3, τ⟩ := y
  obtain ⟨e9, l, ⟨ex, hl⟩, hx⟩ := hI
  have e9 : τ = σ1 := e9
  have ex : x3 = nI l := ex
  have hx : (x2 = 1 ∧ ∀ v, v < l → dg P Q s m v ≤ 1) ∨ (x2 = 0 ∧ ¬ ∀ v, v < 8 → dg P Q s m v ≤ 1) := hx
  subst e9
  subst ex
  rw [F_X12_isPairs_9.eq_1]
  refine pt_if (fun q => ?_) (fun q => ?_)
  · have q : nI 8 ≤ nI l := q
    rw [nlt (by omega) (by omega)] at q
    rcases hx with ⟨rfl, h⟩ | ⟨rfl, h⟩
    · exact pt_rZ ⟨f1, fun y => absurd (show (1 : Int32) = 0 from y) (by decide), fun _ v hv => h v (by omega)⟩
    · exact pt_rZ ⟨f1, fun _ => h, fun y => absurd rfl y⟩
  have q : ¬ nI 8 ≤ nI l := q
  rw [nlt (by omega) (by omega)] at q
  have l8 : l < 8 := by omega
  have dl := d10 l
  rw [nI_s1 (by omega)]
  refine pt_if (fun z => ?_) (fun z => ?_)
  · have h := hx.resolve_left (fun y => absurd (z.symm.trans (show x2 = 1 from y.1)) (by decide))
    exact ih (0, nI (l + 1), τ) ⟨rfl, l + 1, ⟨rfl, by omega⟩, Or.inr ⟨rfl, h.2⟩⟩
  · have h := hx.resolve_right (fun y => z y.1)
    refine pt_gR (v := 238) (R1 218 34 rfl) (pt_aI ?_)
    rw [iN (by omega), d1 l l8]
    refine pt_if (fun y => ?_) (fun y => ?_)
    · have y : nI 2 ≤ nI (dg P Q s m l) := y
      rw [nlt (by omega) (by omega)] at y
      exact ih (0, nI (l + 1), τ) ⟨rfl, l + 1, ⟨rfl, by omega⟩, Or.inr ⟨rfl, fun w => by have := w l l8; omega⟩⟩
    · have y : ¬ nI 2 ≤ nI (dg P Q s m l) := y
      rw [nlt (by omega) (by omega)] at y
      refine ih (1, nI (l + 1), τ) ⟨rfl, l + 1, ⟨rfl, by omega⟩, Or.inl ⟨rfl, fun v hv => ?_⟩⟩
      by_cases e : v = l
      · rw [e]; omega
      · exact h.2 v (by omega)
theorem vk_cover {s : Nat} (hR : RF σ.2.2) (hE : EdR σ m P Q) (hs : s < 1024) : Pt (f_X12_isCover N 218 (nI s) (nI (Xa m P Q)) σ) (fun r => FG [238] σ r.2 ∧ (r.1 = 0 → ¬ ∀ v, v < 8 → (Xa m P Q).testBit v = true → 0 < dg P Q s m v) ∧ (¬ r.1 = 0 → ∀ v, v < 8 → (Xa m P Q).testBit v = true → 0 < dg P Q s m v)) := by
  have m10 := hE.1.2
  have X256 := Xa_256 hE.2.2
  have d10 : ∀ v, dg P Q s m v ≤ 10 := fun v => Nat.le_trans (ct_le _ m) m10
  rw [f_X12_isCover.eq_1]
  refine pt_gC (pt_zb (vk_ends hR hE hs) (fun _ σ1 h1 => ?_))
  obtain ⟨f1, d1⟩ := h1
  have f1 : FG [238] σ σ1 := f1
  have d1 : ∀ v, v < 8 → σ1.1 238 v = nI (dg P Q s m v) := d1
  have R1 := f1.R hR
  refine pt_lp (fun y : Int32 × Int32 × zS => y.2.2 = σ1 ∧ ∃ l, (y.2.1 = nI l ∧ l ≤ 8) ∧ ((y.1 = 1 ∧ ∀ v, v < l → (Xa m P Q).testBit v = true → 0 < dg P Q s m v) ∨ (y.1 = 0 ∧ ¬ ∀ v, v < 8 → (Xa m P Q).testBit v = true → 0 < dg P Q s m v))) (fun again y hI ih => ?_) N _ ⟨rfl, 0, ⟨rfl, Nat.zero_le _⟩, Or.inl ⟨rfl, fun v hv => absurd hv (Nat.not_lt_zero _)⟩⟩
  obtain ⟨x3, x4, τ⟩ := y
  obtain ⟨e9, l, ⟨ex, hl⟩, hx⟩ := hI
  have e9 : τ = σ1 := e9
  have ex : x4 = nI l := ex
  have hx : (x3 = 1 ∧ ∀ v, v < l → (Xa m P Q).testBit v = true → 0 < dg P Q s m v) ∨ (x3 = 0 ∧ ¬ ∀ v, v < 8 → (Xa m P Q).testBit v = true → 0 < dg P Q s m v) := hx
  subst e9
  subst ex
  rw [F_X12_isCover_10.eq_1]
  refine pt_if (fun q => ?_) (fun q => ?_)
  · have q : nI 8 ≤ nI l := q
    rw [nlt (by omega) (by omega)] at q
    rcases hx with ⟨rfl, h⟩ | ⟨rfl, h⟩
    · exact pt_rZ ⟨f1, fun y => absurd (show (1 : Int32) = 0 from y) (by decide), fun _ v hv => h v (by omega)⟩
    · exact pt_rZ ⟨f1, fun _ => h, fun y => absurd rfl y⟩
  have q : ¬ nI 8 ≤ nI l := q
  rw [nlt (by omega) (by omega)] at q
  have l8 : l < 8 := by omega
  have dl := d10 l
  rw [nI_s1 (by omega)]
  refine pt_if (fun z => ?_) (fun z => ?_)
  · have h := hx.resolve_left (fun y => absurd (z.symm.trans (show x3 = 1 from y.1)) (by decide))
    exact ih (0, nI (l + 1), τ) ⟨rfl, l + 1, ⟨rfl, by omega⟩, Or.inr ⟨rfl, h.2⟩⟩
  · have h := hx.resolve_right (fun y => z y.1)
    have b0 := bit0 (s := Xa m P Q) (k := l) (by omega) (by omega)
    have more : ((Xa m P Q).testBit l = true → 0 < dg P Q s m l) → Pt (again (1, nI (l + 1), τ)) (fun r => FG [238] σ r.2 ∧ (r.1 = 0 → ¬ ∀ v, v < 8 → (Xa m P Q).testBit v = true → 0 < dg P Q s m v) ∧ (¬ r.1 = 0 → ∀ v, v < 8 → (Xa m P Q).testBit v = true → 0 < dg P Q s m v)) := fun a => ih (1, nI (l + 1), τ) ⟨rfl, l + 1, ⟨rfl, by omega⟩, Or.inl ⟨rfl, fun v hv => by
      by_cases e : v = l
      · rw [e]; exact a
      · exact h.2 v (by omega)⟩⟩
    refine pt_if (fun y => more (fun w => by rw [b0.mp y] at w; cases w)) (fun y => ?_)
    have bl : (Xa m P Q).testBit l = true := by
      cases h : (Xa m P Q).testBit l with
      | true => rfl
      | false => exact absurd (b0.mpr h) y
    refine pt_gR (v := 238) (R1 218 34 rfl) (pt_aI ?_)
    rw [iN (by omega), d1 l l8]
    refine pt_if (fun w => ?_) (fun w => ?_)
    · have w : nI (dg P Q s m l) ≤ nI 0 := w
      rw [nlt (by omega) (by omega)] at w
      exact ih (0, nI (l + 1), τ) ⟨rfl, l + 1, ⟨rfl, by omega⟩, Or.inr ⟨rfl, fun a => by have := a l l8 bl; omega⟩⟩
    · have w : ¬ nI (dg P Q s m l) ≤ nI 0 := w
      rw [nlt (by omega) (by omega)] at w
      exact more (fun _ => by omega)
/-! the same sets -/
theorem bc_m {s : Nat} (hm : m ≤ 10) (hs : s < 2 ^ m) : bc s = se s m := by
  have : bc s = ct (fun i => s.testBit i) (m + (10 - m)) := by rw [show m + (10 - m) = 10 by omega]; rfl
  rw [this, ct_split]
  show se s m + _ = _
  rw [ct_0 (p := fun k => s.testBit (m + k)) (fun k _ => tb_lt hs (by omega)), Nat.add_zero]
theorem bc_8 {X : Nat} (h : X < 256) : bc X = ct (fun x => X.testBit x) 8 := bc_m (m := 8) (by decide) h
theorem on_eq {w : Int32} {s : Nat} (hG : Gr m P Q) (hm : m ≤ 10) (hs : s < 2 ^ m) : OnC m P Q w (Xa m P Q) s ↔ OnR m P Q w s := by
  have X256 := Xa_256 hG
  have us := Xa_us (m := m) (P := P) (Q := Q)
  have lt8 : ∀ v, (Xa m P Q).testBit v = true → v < 8 := fun v hv => by
    obtain ⟨j, hj, e⟩ := (us v).mp hv
    have g := (hG j hj).1
    omega
  unfold OnC OnR
  by_cases w0 : w = 0
  · rw [if_pos w0, if_pos w0]
    unfold TrR
    by_cases x0 : Xa m P Q = 0
    · rw [if_pos x0]
      have m0 : m = 0 := by
        refine Classical.byContradiction (fun z => ?_)
        have := (us (P 0)).mpr ⟨0, by omega, Or.inl rfl⟩
        rw [x0, Nat.zero_testBit] at this; cases this
      have s0 : s = 0 := by rw [m0] at hs; omega
      refine ⟨fun _ => s0, fun _ => ⟨?_, fun j hj => by omega⟩⟩
      rw [s0, x0]; rfl
    · rw [if_neg x0]
      obtain ⟨l, hl⟩ : ∃ l, (Xa m P Q).testBit l = true ∧ ∀ k, k < l → (Xa m P Q).testBit k = false := by
        have ex : ∃ l, (Xa m P Q).testBit l = true := by
          refine Classical.byContradiction (fun z => x0 (Nat.eq_of_testBit_eq (fun i => ?_)))
          rw [Nat.zero_testBit]
          cases h : (Xa m P Q).testBit i with
          | false => rfl
          | true => exact absurd ⟨i, h⟩ z
        obtain ⟨l0, h0⟩ := ex
        have : ∀ n, (∃ l, l < n ∧ (Xa m P Q).testBit l = true) → ∃ l, (Xa m P Q).testBit l = true ∧ ∀ k, k < l → (Xa m P Q).testBit k = false := by
          intro n
          induction n with
          | zero => rintro ⟨l, h, _⟩; exact absurd h (Nat.not_lt_zero _)
          | succ n ih =>
            rintro ⟨l, h, b⟩
            by_cases q : ∃ k, k < n ∧ (Xa m P Q).testBit k = true
            · exact ih q
            · have ln : l = n := Classical.byContradiction (fun z => q ⟨l, by omega, b⟩)
              refine ⟨l, b, fun k hk => ?_⟩
              cases y : (Xa m P Q).testBit k with
              | false => rfl
              | true => exact absurd ⟨k, by omega, y⟩ q
        exact this (l0 + 1) ⟨l0, by omega, h0⟩
      have bX1 : 1 ≤ bc (Xa m P Q) := by
        have : ¬ ct (fun i => (Xa m P Q).testBit i) 10 = 0 := ct_ex.mpr ⟨l, by have := lt8 l hl.1; omega, hl.1⟩
        unfold bc
        omega
      have sub : ∀ k, (Xa m P Q).testBit k = true → ∀ x, (hg m P Q s k 8).testBit x = true → (Xa m P Q).testBit x = true := fun k hk x hx => (us_cl us (Lb_rb (hg_s 8 x hx))).mpr hk
      constructor
      · rintro ⟨hb, hr⟩
        refine ⟨l, hl, Nat.eq_of_testBit_eq (fun x => ?_), hb⟩
        rw [Bool.eq_iff_iff]
        exact ⟨sub l hl.1 x, tree_1 hG us hl.1 hr (by rw [← bc_m hm hs, ← bc_8 X256]; omega) x⟩
      · rintro ⟨k, hk, hh, hb⟩
        exact ⟨hb, tree_2 hG us hk.1 (fun x hx => by rw [hh]; exact hx) (by rw [← bc_m hm hs, ← bc_8 X256]; omega)⟩
  · rw [if_neg w0, if_neg w0]
    by_cases w1 : w = 1
    · rw [if_pos w1, if_pos w1]
      have := (pairs_ (s := s) hG m (Nat.le_refl _)).2
      rw [bc_8 (tc_256 hG m (Nat.le_refl _)), bc_m hm hs]
      exact this
    · rw [if_neg w1, if_neg w1]
      exact (cover_ us).trans ⟨fun h v _ hv => h v hv, fun h v hv => h v (lt8 v hv) hv⟩
end RSETS
end Zq14_17
section Zq14_18
/-! ===== ways and map of both ===== -/
section WMAP
variable {N B m : Nat} {σ τ : zS} {P Q : Nat → Nat} {x1 x2 x3 : Int32}
theorem Md_c {k l : Nat} {S : Nat → Prop} (e : τ.1 k = σ.1 k) (h : Md k σ l S) : Md k τ l S := fun u hu => by rw [e]; exact h u hu
def isX (x : Int32) : Prop := 0 ≤ x.toInt ∧ x.toInt < 8
theorem isX_n {x : Int32} (h : isX x) : ∃ k, k < 8 ∧ x = nI k := znI (m := 8) h.1 (by have := h.2; omega)
theorem vl_isCrossing : Px (f_X11_isCrossing N 0 x1 σ) σ (fun v => (v = 0 → ¬ isX x1) ∧ (¬ v = 0 → isX x1)) := by
  unfold isX
  rw [f_X11_isCrossing.eq_1]
  refine pt_if (fun q => pt_rZ ⟨rfl, fun _ => ?_, fun z => absurd rfl z⟩) (fun q => pt_if (fun q2 => pt_rZ ⟨rfl, fun _ => ?_, fun z => absurd rfl z⟩) (fun q2 => pt_rZ ⟨rfl, fun z => absurd (show (1 : Int32) = 0 from z) (by decide), fun _ => ?_⟩))
  · rw [Int32.lt_iff_toInt_lt] at q; simp only [Int32.reduceToInt] at q; omega
  · rw [Int32.le_iff_toInt_le] at q2; simp only [Int32.reduceToInt] at q2; omega
  · rw [Int32.lt_iff_toInt_lt] at q; rw [Int32.le_iff_toInt_le] at q2; simp only [Int32.reduceToInt] at q q2; omega
theorem vr_isCrossing (hR : RF σ.2.2) (hw : 0 < (σ.1 219 0).toInt) : Px (f_X12_isCrossing N 218 x1 σ) σ (fun v => (v = 0 → ¬ isX x1) ∧ (¬ v = 0 → isX x1)) := by
  unfold isX
  rw [f_X12_isCrossing.eq_1]
  refine pt_gC (pt_zbX (σ := σ) (Q := fun v => (v = 0 → (σ.1 219 0).toInt ≤ 0) ∧ (¬ v = 0 → 0 < (σ.1 219 0).toInt)) (pt_ok (x_X12_isWorld hR)) (fun v hv => ?_))
  refine pt_if (fun q => by have := hv.1 q; omega) (fun q => pt_zbq vr_in (fun w hw => ?_))
  rw [i64_of] at hw
  simp only [Int64.reduceToInt] at hw
  refine pt_if (fun z => pt_rZ ⟨rfl, fun _ y => hw.1 z (by omega), fun y => absurd rfl y⟩) (fun z => pt_rZ ⟨rfl, fun y => absurd (show (1 : Int32) = 0 from y) (by decide), fun _ => ?_⟩)
  have := hw.2 z
  omega
def wyC (v x1 x2 x3 : Int32) : Prop := isR v x1 ∧ isX x2 ∧ isX x3
theorem vl_ways (hB : isWc B) (hR : RF σ.2.2) (h4 : σ.2.2 0 4 = B) (hE : Ed σ B m P Q) : Pt (f_X11_ways N 0 x1 x2 x3 σ) (fun r => (wyC (σ.1 B 0) x1 x2 x3 → CM σ r.2 r.1 B x1.toInt.toNat (WS m P Q x2.toInt.toNat x3.toInt.toNat)) ∧ (¬ wyC (σ.1 B 0) x1 x2 x3 → r.1 = -2 ∧ LW σ r.2)) := by
  rw [f_X11_ways.eq_1]
  refine pt_gC (pt_zbq (vl_isRegister h4) (fun v hv => pt_if (fun q => pt_some ⟨fun z => absurd z.1 (hv.1 q), fun _ => ⟨rfl, fun _ _ => rfl⟩⟩) (fun q1 => ?_)))
  refine pt_gC (pt_zbq vl_isCrossing (fun v3 hv3 => pt_if (fun q => pt_some ⟨fun z => absurd z.2.1 (hv3.1 q), fun _ => ⟨rfl, fun _ _ => rfl⟩⟩) (fun q3 => ?_)))
  refine pt_gC (pt_zbq vl_isCrossing (fun v5 hv5 => pt_if (fun q => pt_some ⟨fun z => absurd z.2.2 (hv5.1 q), fun _ => ⟨rfl, fun _ _ => rfl⟩⟩) (fun q5 => ?_)))
  have r1 := hv.2 q1
  have r3 := hv3.2 q3
  have r5 := hv5.2 q5
  obtain ⟨p, hp, rfl⟩ := isR_n r1
  obtain ⟨c, hc, rfl⟩ := isX_n r3
  obtain ⟨g, hg, rfl⟩ := isX_n r5
  rw [iN (m := p) (by omega), iN (m := c) (by omega), iN (m := g) (by omega)]
  refine pt_gR (v := 124) (hR 0 15 rfl) (pt_gR (v := B) h4 (pt_gR (v := 128) (hR 0 17 rfl) (pt_gC (pt_zb (vg_ways hB k128.1 hR hE hc hg) (fun _ σ1 h => ?_)))))
  obtain ⟨l1, i1⟩ := h
  have l1 : LF 129 σ σ1 := l1
  have i1 : ∀ u, u < 1024 → (bt (σ1.2.1 129) u = true ↔ WS m P Q c g u) := i1
  have R1 := l1.R hR
  have h41 : σ1.2.2 0 4 = B := by rw [l1.2.1]; exact h4
  refine pt_gC (pt_zb (vl_store hB R1 h41 hp (by rw [l1.1]; exact r1.1)) (fun w σ2 h => pt_some ⟨fun _ => CM_st hB hp (fun a ha => l1.2.2 a (by unfold WR at ha; omega)) i1 h, fun z => absurd ⟨r1, r3, r5⟩ z⟩))
theorem vk_fillWays {c g : Nat} (hR : RF σ.2.2) (hE : EdR σ m P Q) (hc : c < 8) (hg : g < 8) : Pt (f_X12_fillWays N 218 (nI c) (nI g) σ) (fun r => FG [227, 238] σ r.2 ∧ Md 227 r.2 1024 (fun u => u < 2 ^ m ∧ (if c = g then u = 0 else IsW m P Q u c g))) := by
  have m10 := hE.1.2
  have pm := p2le m10
  rw [f_X12_fillWays.eq_1]
  refine pt_lp (fun y : Int32 × zS => ∃ l, (y.1 = nI l ∧ l ≤ 1024) ∧ FG [227, 238] σ y.2 ∧ Md 227 y.2 l (fun u => u < 2 ^ m ∧ (if c = g then u = 0 else IsW m P Q u c g))) (fun again y hI ih => ?_) N _ ⟨0, ⟨rfl, Nat.zero_le _⟩, FG.rf, fun u hu => absurd hu (Nat.not_lt_zero _)⟩
  obtain ⟨x3, τ⟩ := y
  obtain ⟨l, ⟨ex, hl⟩, hf, hm⟩ := hI
  have ex : x3 = nI l := ex
  subst ex
  have hf : FG [227, 238] σ τ := hf
  have hm : Md 227 τ l (fun u => u < 2 ^ m ∧ (if c = g then u = 0 else IsW m P Q u c g)) := hm
  have R9 := hf.R hR
  have E9 : EdR τ m P Q := EdR_c (hf.2 219 (by decide)) hE
  rw [F_X12_fillWays_2.eq_1]
  refine pt_if (fun q => ?_) (fun q => ?_)
  · have q : nI 1024 ≤ nI l := q
    rw [nlt (by omega) (by omega)] at q
    rw [show l = 1024 by omega] at hm
    exact pt_some ⟨hf, hm⟩
  have q : ¬ nI 1024 ≤ nI l := q
  rw [nlt (by omega) (by omega)] at q
  have put : ∀ (τ2 : zS) (v : Int32), FG [227, 238] σ τ2 → Md 227 τ2 l (fun u => u < 2 ^ m ∧ (if c = g then u = 0 else IsW m P Q u c g)) → ((v = 1 ∧ (l < 2 ^ m ∧ (if c = g then l = 0 else IsW m P Q l c g))) ∨ (v = 0 ∧ ¬ (l < 2 ^ m ∧ (if c = g then l = 0 else IsW m P Q l c g)))) → Pt (zl (sI 16 227 (nI l) v τ2) fun σ4 => again (nI l + 1, σ4)) (fun r => FG [227, 238] σ r.2 ∧ Md 227 r.2 1024 (fun u => u < 2 ^ m ∧ (if c = g then u = 0 else IsW m P Q u c g))) := fun τ2 v a b d => by
    refine pt_s16 ?_
    rw [iN (by omega), nI_s1 (by omega)]
    exact ih (nI (l + 1), _) ⟨l + 1, ⟨rfl, by omega⟩, a.u (by decide), Md_p b d⟩
  refine pt_gR (v := 227) (R9 218 17 rfl) (pt_gR (v := 219) (R9 218 1 rfl) (pt_aI ?_))
  rw [show (Int32.toInt 2).toNat = 2 from rfl, E9.1.1, one11 m (by omega)]
  refine pt_if (fun y => ?_) (fun y => ?_)
  · rw [nlt (by omega) (by omega)] at y
    exact put τ 0 hf hm (Or.inr ⟨rfl, fun z => by omega⟩)
  · rw [nlt (by omega) (by omega)] at y
    refine pt_gC (pt_zb (vk_isWay (s := l) R9 E9 (by omega) hc hg) (fun v τ2 h2 => ?_))
    obtain ⟨f2, h0, h1⟩ := h2
    have f2 : FG [238] τ τ2 := f2
    have h0 : v = 0 → ¬ (if c = g then l = 0 else IsW m P Q l c g) := h0
    have h1 : ¬ v = 0 → (if c = g then l = 0 else IsW m P Q l c g) := h1
    have f2' : FG [227, 238] σ τ2 := hf.tr (f2.wk (by decide))
    have m2 := Md_c (f2.2 227 (by decide)) hm
    exact pt_if (fun z => put τ2 0 f2' m2 (Or.inr ⟨rfl, fun w => h0 z w.2⟩)) (fun z => put τ2 1 f2' m2 (Or.inl ⟨rfl, by omega, h1 z⟩))
theorem vr_ways (hR : RF σ.2.2) (hn : 0 ≤ (σ.1 219 0).toInt ∧ (σ.1 219 0).toInt ≤ 10) (hE : EdR σ m P Q) : Pt (f_X12_ways N 218 x1 x2 x3 σ) (fun r => (wyC (σ.1 219 0) x1 x2 x3 → RM σ r.2 r.1 x1.toInt.toNat (fun u => u < 2 ^ m ∧ (if x2.toInt.toNat = x3.toInt.toNat then u = 0 else IsW m P Q u x2.toInt.toNat x3.toInt.toNat))) ∧ (¬ wyC (σ.1 219 0) x1 x2 x3 → r.1 = -2 ∧ r.2.1 220 = σ.1 220)) := by
  rw [f_X12_ways.eq_1]
  refine pt_gC (pt_zbq (vr_isRegister hR) (fun v hv => pt_if (fun q => pt_some ⟨fun z => absurd z.1 (hv.1 q), fun _ => ⟨rfl, rfl⟩⟩) (fun q1 => ?_)))
  have r1 := hv.2 q1
  refine pt_gC (pt_zbq (vr_isCrossing hR r1.1) (fun v3 hv3 => pt_if (fun q => pt_some ⟨fun z => absurd z.2.1 (hv3.1 q), fun _ => ⟨rfl, rfl⟩⟩) (fun q3 => ?_)))
  refine pt_gC (pt_zbq (vr_isCrossing hR r1.1) (fun v5 hv5 => pt_if (fun q => pt_some ⟨fun z => absurd z.2.2 (hv5.1 q), fun _ => ⟨rfl, rfl⟩⟩) (fun q5 => ?_)))
  have r3 := hv3.2 q3
  have r5 := hv5.2 q5
  obtain ⟨p, hp, rfl⟩ := isR_n r1
  obtain ⟨c, hc, rfl⟩ := isX_n r3
  obtain ⟨g, hg, rfl⟩ := isX_n r5
  rw [iN (m := p) (by omega), iN (m := c) (by omega), iN (m := g) (by omega)]
  refine pt_gC (pt_zb (vk_fillWays hR hE hc hg) (fun _ σ1 h => ?_))
  obtain ⟨f1, m1⟩ := h
  have f1 : FG [227, 238] σ σ1 := f1
  have e19 : σ1.1 219 = σ.1 219 := f1.2 219 (by decide)
  have e20 : σ1.1 220 = σ.1 220 := f1.2 220 (by decide)
  refine pt_gC (pt_zb (vr_lays (f1.R hR) (by rw [e19]; exact hn) hp m1) (fun w σ2 h2 => pt_some ⟨fun _ => ?_, fun z => absurd ⟨r1, r3, r5⟩ z⟩))
  obtain ⟨_, a, b, d⟩ := h2
  exact ⟨a, fun k hk => (b k hk).trans (congrFun e20 k), by rw [← e19]; exact d⟩
/-- the same ways -/
theorem ws_eq {c g u : Nat} (hG : Gr m P Q) (hc : c < 8) (hg : g < 8) : WS m P Q c g u ↔ u < 2 ^ m ∧ (if c = g then u = 0 else IsW m P Q u c g) := by
  unfold WS
  by_cases e : c = g
  · rw [if_pos e, if_pos e]
    exact ⟨fun h => ⟨by rw [h]; exact Nat.pow_pos (by decide), h⟩, fun h => h.2⟩
  · rw [if_neg e, if_neg e]
    have b0 : ∀ x, (2 ^ c).testBit x = true ↔ x = c := fun x => by
      rw [Nat.testBit_two_pow, decide_eq_true_iff]; exact ⟨Eq.symm, Eq.symm⟩
    constructor
    · intro h
      refine ⟨?_, way_1 hG hc e h⟩
      obtain ⟨D, hr, hm, _⟩ := Wy_D hG h ((b0 c).mpr rfl) (by
        cases q : (2 ^ c).testBit g with
        | false => rfl
        | true => exact absurd ((b0 g).mp q).symm e)
      refine lt_tb (fun i hi => ?_)
      cases q : u.testBit i with
      | false => rfl
      | true =>
        rcases (hr i).mp q with z | z
        · rw [Nat.zero_testBit] at z; cases z
        · have := hm i z; omega
    · rintro ⟨hu, h⟩
      refine way_2 hG hc hg e h (fun i hi => Classical.byContradiction (fun z => ?_))
      rw [tb_lt hu (by omega)] at hi; cases hi
def mpC (v x1 x2 : Int32) : Prop := isR v x1 ∧ 0 ≤ x2.toInt ∧ x2.toInt ≤ 2
theorem vl_map (hB : isWc B) (hR : RF σ.2.2) (h4 : σ.2.2 0 4 = B) (hE : Ed σ B m P Q) : Pt (f_X11_map N 0 x1 x2 σ) (fun r => (mpC (σ.1 B 0) x1 x2 → CM σ r.2 r.1 B x1.toInt.toNat (fun u => u < 2 ^ m ∧ OnC m P Q x2 (Xa m P Q) u)) ∧ (¬ mpC (σ.1 B 0) x1 x2 → r.1 = -2 ∧ LW σ r.2)) := by
  rw [f_X11_map.eq_1]
  refine pt_gC (pt_zbq (vl_isRegister h4) (fun v hv => pt_if (fun q => pt_some ⟨fun z => absurd z.1 (hv.1 q), fun _ => ⟨rfl, fun _ _ => rfl⟩⟩) (fun q1 => ?_)))
  have r1 := hv.2 q1
  refine pt_if (fun q => pt_some ⟨fun z => ?_, fun _ => ⟨rfl, fun _ _ => rfl⟩⟩) (fun q2 => pt_if (fun q3 => ?_) (fun q => pt_some ⟨fun z => ?_, fun _ => ⟨rfl, fun _ _ => rfl⟩⟩))
  · rw [Int32.lt_iff_toInt_lt] at q; simp only [Int32.reduceToInt] at q; have := z.2; omega
  · rw [Int32.lt_iff_toInt_lt] at q2
    rw [Int32.le_iff_toInt_le] at q3
    simp only [Int32.reduceToInt] at q2 q3
    obtain ⟨p, hp, rfl⟩ := isR_n r1
    rw [iN (m := p) (by omega)]
    refine pt_gR (v := 124) (hR 0 15 rfl) (pt_gR (v := B) h4 (pt_gR (v := 128) (hR 0 17 rfl) (pt_gC (pt_zb (vg_sets (w := x2) hB k128.1 hR hE) (fun _ σ1 h => ?_)))))
    obtain ⟨⟨k1, e1, a1⟩, i1⟩ := h
    have k1 : ∀ k, k ≠ 125 → σ1.1 k = σ.1 k := k1
    have e1 : σ1.2.2 = σ.2.2 := e1
    have a1 : ∀ a, a ≠ 128 + 1 → σ1.2.1 a = σ.2.1 a := a1
    have R1 : RF σ1.2.2 := by rw [e1]; exact hR
    have h41 : σ1.2.2 0 4 = B := by rw [e1]; exact h4
    refine pt_gC (pt_zb (vl_store hB R1 h41 hp (by rw [k1 B (by unfold isWc at hB; omega)]; exact r1.1)) (fun w σ2 h => pt_some ⟨fun _ => CM_st hB hp (fun a ha => a1 a (by unfold WR at ha; omega)) i1 h, fun z => absurd ⟨r1, by omega, q3⟩ z⟩))
  · rw [Int32.le_iff_toInt_le] at q; simp only [Int32.reduceToInt] at q; have := z.2; omega
end WMAP
end Zq14_18
section Zq14_19
/-! ===== map of the reference; cuts of both ===== -/
section MAPC
variable {N B m n : Nat} {σ τ : zS} {P Q : Nat → Nat} {x1 x2 x3 : Int32}
theorem vr_map (hR : RF σ.2.2) (hn : 0 ≤ (σ.1 219 0).toInt ∧ (σ.1 219 0).toInt ≤ 10) (hE : EdR σ m P Q) : Pt (f_X12_map N 218 x1 x2 σ) (fun r => (mpC (σ.1 219 0) x1 x2 → RM σ r.2 r.1 x1.toInt.toNat (fun u => u < 2 ^ m ∧ OnR m P Q x2 u)) ∧ (¬ mpC (σ.1 219 0) x1 x2 → r.1 = -2 ∧ r.2.1 220 = σ.1 220)) := by
  have m10 := hE.1.2
  have pm := p2le m10
  rw [f_X12_map.eq_1]
  refine pt_gC (pt_zbq (vr_isRegister hR) (fun v hv => pt_if (fun q => pt_some ⟨fun z => absurd z.1 (hv.1 q), fun _ => ⟨rfl, rfl⟩⟩) (fun q1 => ?_)))
  have r1 := hv.2 q1
  refine pt_zbq vr_in (fun v2 hv2 => ?_)
  rw [i64_of] at hv2
  simp only [Int64.reduceToInt] at hv2
  refine pt_if (fun q => pt_some ⟨fun z => absurd z.2 (hv2.1 q), fun _ => ⟨rfl, rfl⟩⟩) (fun q2 => ?_)
  have hw := hv2.2 q2
  obtain ⟨p, hp, rfl⟩ := isR_n r1
  rw [iN (m := p) (by omega)]
  refine pt_gC (pt_zbq (vk_cross hR hE) (fun v5 h5 => ?_))
  subst h5
  refine pt_lp (fun y : Int32 × zS => ∃ l, (y.1 = nI l ∧ l ≤ 1024) ∧ FG [227, 238] σ y.2 ∧ Md 227 y.2 l (fun u => u < 2 ^ m ∧ OnR m P Q x2 u)) (fun again y hI ih => ?_) N _ ⟨0, ⟨rfl, Nat.zero_le _⟩, FG.rf, fun u hu => absurd hu (Nat.not_lt_zero _)⟩
  obtain ⟨x4, τ⟩ := y
  obtain ⟨l, ⟨ex, hl⟩, hf, hm⟩ := hI
  have ex : x4 = nI l := ex
  subst ex
  have hf : FG [227, 238] σ τ := hf
  have hm : Md 227 τ l (fun u => u < 2 ^ m ∧ OnR m P Q x2 u) := hm
  have R9 := hf.R hR
  have e19 : τ.1 219 = σ.1 219 := hf.2 219 (by decide)
  have e20 : τ.1 220 = σ.1 220 := hf.2 220 (by decide)
  have E9 : EdR τ m P Q := EdR_c e19 hE
  rw [F_X12_map_31.eq_1]
  refine pt_if (fun q => ?_) (fun q => ?_)
  · have q : nI 1024 ≤ nI l := q
    rw [nlt (by omega) (by omega)] at q
    rw [show l = 1024 by omega] at hm
    refine pt_gC (pt_zb (vr_lays R9 (by rw [e19]; exact hn) hp hm) (fun w σ2 h2 => pt_some ⟨fun _ => ?_, fun z => absurd ⟨r1, by omega, by omega⟩ z⟩))
    obtain ⟨_, a, b, d⟩ := h2
    exact ⟨a, fun k hk => (b k hk).trans (congrFun e20 k), by rw [← e19]; exact d⟩
  have q : ¬ nI 1024 ≤ nI l := q
  rw [nlt (by omega) (by omega)] at q
  have put : ∀ (τ2 : zS) (v : Int32), FG [227, 238] σ τ2 → Md 227 τ2 l (fun u => u < 2 ^ m ∧ OnR m P Q x2 u) → ((v = 1 ∧ (l < 2 ^ m ∧ OnR m P Q x2 l)) ∨ (v = 0 ∧ ¬ (l < 2 ^ m ∧ OnR m P Q x2 l))) → Pt (zl (sI 16 227 (nI l) v τ2) fun σ4 => again (nI l + 1, σ4)) (fun r => (mpC (σ.1 219 0) (nI p) x2 → RM σ r.2 r.1 p (fun u => u < 2 ^ m ∧ OnR m P Q x2 u)) ∧ (¬ mpC (σ.1 219 0) (nI p) x2 → r.1 = -2 ∧ r.2.1 220 = σ.1 220)) := fun τ2 v a b d => by
    refine pt_s16 ?_
    rw [iN (by omega), nI_s1 (by omega)]
    exact ih (nI (l + 1), _) ⟨l + 1, ⟨rfl, by omega⟩, a.u (by decide), Md_p b d⟩
  refine pt_gR (v := 227) (R9 218 17 rfl) (pt_gR (v := 219) (R9 218 1 rfl) (pt_aI ?_))
  rw [show (Int32.toInt 2).toNat = 2 from rfl, E9.1.1, one11 m (by omega)]
  refine pt_if (fun y => ?_) (fun y => ?_)
  · rw [nlt (by omega) (by omega)] at y
    exact put τ 0 hf hm (Or.inr ⟨rfl, fun z => by omega⟩)
  rw [nlt (by omega) (by omega)] at y
  have fin : ∀ (v : Int32) (τ2 : zS), FG [238] τ τ2 → (v = 0 → ¬ OnR m P Q x2 l) → (¬ v = 0 → OnR m P Q x2 l) → Pt (if v = 0 then zl (sI 16 227 (nI l) 0 τ2) fun σ4 => again (nI l + 1, σ4) else zl (sI 16 227 (nI l) 1 τ2) fun σ4 => again (nI l + 1, σ4)) (fun r => (mpC (σ.1 219 0) (nI p) x2 → RM σ r.2 r.1 p (fun u => u < 2 ^ m ∧ OnR m P Q x2 u)) ∧ (¬ mpC (σ.1 219 0) (nI p) x2 → r.1 = -2 ∧ r.2.1 220 = σ.1 220)) := fun v τ2 f2 h0 h1 => by
    have f2' : FG [227, 238] σ τ2 := hf.tr (f2.wk (by decide))
    have m2 := Md_c (f2.2 227 (by decide)) hm
    exact pt_if (fun z => put τ2 0 f2' m2 (Or.inr ⟨rfl, fun w => h0 z w.2⟩)) (fun z => put τ2 1 f2' m2 (Or.inl ⟨rfl, by omega, h1 z⟩))
  refine pt_if (fun w0 => ?_) (fun w0 => pt_if (fun w1 => ?_) (fun w1 => ?_))
  · refine pt_gC (pt_zb (vk_tree (s := l) R9 E9 (by omega)) (fun v τ2 h => ?_))
    obtain ⟨e, h0, h1⟩ := h
    have e : τ2 = τ := e
    subst e
    refine fin v τ2 FG.rf (fun z w => h0 z ?_) (fun z => ?_)
    · unfold OnR at w; rw [if_pos w0] at w; exact w
    · unfold OnR; rw [if_pos w0]; exact h1 z
  · refine pt_gC (pt_zb (vk_pairs (s := l) R9 E9 (by omega)) (fun v τ2 h => ?_))
    obtain ⟨f2, h0, h1⟩ := h
    refine fin v τ2 f2 (fun z w => h0 z ?_) (fun z => ?_)
    · unfold OnR at w; rw [if_neg w0, if_pos w1] at w; exact w
    · unfold OnR; rw [if_neg w0, if_pos w1]; exact h1 z
  · refine pt_gC (pt_zb (vk_cover (s := l) R9 E9 (by omega)) (fun v τ2 h => ?_))
    obtain ⟨f2, h0, h1⟩ := h
    refine fin v τ2 f2 (fun z w => h0 z ?_) (fun z => ?_)
    · unfold OnR at w; rw [if_neg w0, if_neg w1] at w; exact w
    · unfold OnR; rw [if_neg w0, if_neg w1]; exact h1 z
/-- cuts of the class: the least sets that hit every way -/
theorem vl_cuts (hB : isWc B) (hR : RF σ.2.2) (h4 : σ.2.2 0 4 = B) (hE : Ed σ B m P Q) (en : σ.1 B 0 = nI n) (n10 : n ≤ 10) (mn' : m ≤ n) : Pt (f_X11_cuts N 0 x1 x2 x3 σ) (fun r => (wyC (σ.1 B 0) x1 x2 x3 → CM σ r.2 r.1 B x1.toInt.toNat (RS 2 (bl (WS m P Q x2.toInt.toNat x3.toInt.toNat)) (2 ^ n))) ∧ (¬ wyC (σ.1 B 0) x1 x2 x3 → r.1 = -2 ∧ LW σ r.2)) := by
  rw [f_X11_cuts.eq_1]
  refine pt_gC (pt_zbq (vl_isRegister h4) (fun v hv => pt_if (fun q => pt_some ⟨fun z => absurd z.1 (hv.1 q), fun _ => ⟨rfl, fun _ _ => rfl⟩⟩) (fun q1 => ?_)))
  refine pt_gC (pt_zbq vl_isCrossing (fun v3 hv3 => pt_if (fun q => pt_some ⟨fun z => absurd z.2.1 (hv3.1 q), fun _ => ⟨rfl, fun _ _ => rfl⟩⟩) (fun q3 => ?_)))
  refine pt_gC (pt_zbq vl_isCrossing (fun v5 hv5 => pt_if (fun q => pt_some ⟨fun z => absurd z.2.2 (hv5.1 q), fun _ => ⟨rfl, fun _ _ => rfl⟩⟩) (fun q5 => ?_)))
  have r1 := hv.2 q1
  have r3 := hv3.2 q3
  have r5 := hv5.2 q5
  obtain ⟨p, hp, rfl⟩ := isR_n r1
  obtain ⟨c, hc, rfl⟩ := isX_n r3
  obtain ⟨g, hg, rfl⟩ := isX_n r5
  rw [iN (m := p) (by omega), iN (m := c) (by omega), iN (m := g) (by omega)]
  refine pt_gR (v := 124) (hR 0 15 rfl) (pt_gR (v := B) h4 (pt_gR (v := 128) (hR 0 17 rfl) (pt_gC (pt_zb (vg_ways hB k128.1 hR hE hc hg) (fun _ σ1 h => ?_)))))
  obtain ⟨l1, i1⟩ := h
  have l1 : LF 129 σ σ1 := l1
  have i1 : ∀ u, u < 1024 → (bt (σ1.2.1 129) u = true ↔ WS m P Q c g u) := i1
  have R1 := l1.R hR
  have h41 : σ1.2.2 0 4 = B := by rw [l1.2.1]; exact h4
  refine pt_gR (v := 99) (R1 0 11 rfl) (pt_gR (v := 128) (R1 0 17 rfl) (pt_gR (v := B) h41 (pt_gI ?_)))
  rw [l1.1, en]
  have inn : inN (bt (σ1.2.1 129)) n := fun u hu hb => by
    have := ((ws_eq hE.2.2 hc hg).mp ((i1 u hu).mp hb)).1
    exact Nat.lt_of_lt_of_le this (Nat.pow_le_pow_right (by decide) mn')
  refine pt_gC (pt_zb (v_reshape R1 iF128.1 n10 inn) (fun _ σ2 h => ?_))
  obtain ⟨l2, i2⟩ := h
  have l2 : LG [128 + 1, 101, 103] σ1 σ2 := l2
  have i2 : ∀ u, u < 1024 → (bt (σ2.2.1 129) u = true ↔ RS 2 (bt (σ1.2.1 129)) (2 ^ n) u) := i2
  have R2 := l2.R R1
  have h42 : σ2.2.2 0 4 = B := by rw [l2.2.1]; exact h41
  refine pt_gC (pt_zb (vl_store hB R2 h42 hp (by rw [l2.1, l1.1]; exact r1.1)) (fun w σ3 h => pt_some ⟨fun _ => CM_st hB hp (fun a ha => ?_) (fun u hu => ?_) h, fun z => absurd ⟨by rw [← en]; exact r1, r3, r5⟩ z⟩))
  · rw [l2.2.2 a (by unfold WR at ha; simp only [List.mem_cons, List.not_mem_nil, or_false]; omega)]
    exact l1.2.2 a (by unfold WR at ha; omega)
  · rw [i2 u hu]
    exact ⟨RS_c (fun v hv => by rw [Bool.eq_iff_iff, i1 v hv, bl_t]) (p2le n10).1 hu, RS_c (fun v hv => by rw [Bool.eq_iff_iff, bl_t]; exact (i1 v hv).symm) (p2le n10).1 hu⟩
theorem vr_cuts (hN : 1048576 ≤ N) (hM : MW (σ.1 219) 0) (hR : RF σ.2.2) (hB : ZB σ.1) (hn : 0 ≤ (σ.1 219 0).toInt ∧ (σ.1 219 0).toInt ≤ 10) (hE : EdR σ m P Q) : Pt (f_X12_cuts N 218 x1 x2 x3 σ) (fun r => (wyC (σ.1 219 0) x1 x2 x3 → RM σ r.2 r.1 x1.toInt.toNat (RS 2 (bl (fun u => u < 2 ^ m ∧ (if x2.toInt.toNat = x3.toInt.toNat then u = 0 else IsW m P Q u x2.toInt.toNat x3.toInt.toNat))) (mn (σ.1 219 0)))) ∧ (¬ wyC (σ.1 219 0) x1 x2 x3 → r.1 = -2 ∧ r.2.1 220 = σ.1 220)) := by
  have mb := mn_le hn.2
  rw [f_X12_cuts.eq_1]
  refine pt_gC (pt_zbq (vr_isRegister hR) (fun v hv => pt_if (fun q => pt_some ⟨fun z => absurd z.1 (hv.1 q), fun _ => ⟨rfl, rfl⟩⟩) (fun q1 => ?_)))
  have r1 := hv.2 q1
  refine pt_gC (pt_zbq (vr_isCrossing hR r1.1) (fun v3 hv3 => pt_if (fun q => pt_some ⟨fun z => absurd z.2.1 (hv3.1 q), fun _ => ⟨rfl, rfl⟩⟩) (fun q3 => ?_)))
  refine pt_gC (pt_zbq (vr_isCrossing hR r1.1) (fun v5 hv5 => pt_if (fun q => pt_some ⟨fun z => absurd z.2.2 (hv5.1 q), fun _ => ⟨rfl, rfl⟩⟩) (fun q5 => ?_)))
  have r3 := hv3.2 q3
  have r5 := hv5.2 q5
  obtain ⟨p, hp, rfl⟩ := isR_n r1
  obtain ⟨c, hc, rfl⟩ := isX_n r3
  obtain ⟨g, hg, rfl⟩ := isX_n r5
  rw [iN (m := p) (by omega), iN (m := c) (by omega), iN (m := g) (by omega)]
  refine pt_gC (pt_zbq (vr_mn hR hn) (fun v9 hv9 => ?_))
  subst hv9
  refine pt_pIx (fun σ1 a1 b1 c1 => ?_)
  have R1 : RF σ1.2.2 := by rw [c1]; exact hR
  have E1 : EdR σ1 m P Q := EdR_c (b1 219 (by decide)) hE
  have B1 : ZB σ1.1 := fun k hk j => by
    by_cases e : k = 218
    · rw [e] at hk; exact absurd hk (by decide)
    · rw [b1 k e]; exact hB k hk j
  have n20 : σ1.1 218 20 = nI (mn (σ.1 219 0)) := by rw [a1, upd_s]
  refine pt_gC (pt_zb (pt_and (P := fun r : Unit × zS => ZB r.2.1) (vk_fillWays R1 E1 hc hg) (pt_w (pt_ok (s_X12_fillWays hN R1 (by rw [b1 219 (by decide)]; exact hM) B1 (by rw [nI_toInt (by omega)]; omega) (by rw [nI_toInt (by omega)]; omega))) (fun r h => h.2))) (fun _ σ2 h2 => ?_))
  obtain ⟨⟨f2, m2⟩, B2⟩ := h2
  have f2 : FG [227, 238] σ1 σ2 := f2
  have B2 : ZB σ2.1 := B2
  have R2 := f2.R R1
  -- the ways are copied
  refine pt_lp (fun y : Int32 × zS => ∃ l, (y.1 = nI l ∧ l ≤ 1024) ∧ FG [229] σ2 y.2 ∧ ZB y.2.1 ∧ ∀ u, u < l → y.2.1 229 u = σ2.1 227 u) (fun again y hI ih => ?_) N _ ⟨0, ⟨rfl, Nat.zero_le _⟩, FG.rf, B2, fun u hu => absurd hu (Nat.not_lt_zero _)⟩
  obtain ⟨x4, τ⟩ := y
  obtain ⟨l, ⟨ex, hl⟩, hf, hZ, hu⟩ := hI
  have ex : x4 = nI l := ex
  subst ex
  have hf : FG [229] σ2 τ := hf
  have hZ : ZB τ.1 := hZ
  have hu : ∀ u, u < l → τ.1 229 u = σ2.1 227 u := hu
  have R9 := hf.R R2
  rw [F_X12_cuts_44.eq_1]
  refine pt_if (fun q => ?_) (fun q => ?_)
  · have q : nI 1024 ≤ nI l := q
    rw [nlt (by omega) (by omega)] at q
    have k20 : τ.1 218 20 = nI (mn (σ.1 219 0)) := by rw [hf.2 218 (by decide), f2.2 218 (by decide)]; exact n20
    have e19 : τ.1 219 = σ.1 219 := (hf.2 219 (by decide)).trans ((f2.2 219 (by decide)).trans (b1 219 (by decide)))
    have e20 : τ.1 220 = σ.1 220 := (hf.2 220 (by decide)).trans ((f2.2 220 (by decide)).trans (b1 220 (by decide)))
    have same : ∀ u, u < 1024 → rb (τ.1 229) 0 u = bl (fun u => u < 2 ^ m ∧ (if c = g then u = 0 else IsW m P Q u c g)) u := fun u h => by
      rw [Bool.eq_iff_iff, bl_t, ← Md_rb m2 h]
      unfold rb
      rw [Nat.zero_add, hu u (by omega)]
    refine pt_gR (v := 229) (R9 218 19 rfl) (pt_gC (pt_zb (pt_and (pt_ok (s_X12_turns_229 hN R9 hZ (by rw [k20, nI_toInt (by omega)]; omega) (by decide))) (vr_turns (w := 2) (a := 0) (c := 229) R9 (by decide) k20 mb (by decide))) (fun _ σ3 h3 => ?_)))
    obtain ⟨⟨_, B3⟩, f3, t3⟩ := h3
    have B3 : ZB σ3.1 := B3
    have f3 : FG [227, 228] τ σ3 := f3
    have t3 : ∀ u, u < 1024 → (rb (σ3.1 227) 0 u = true ↔ RS 2 (rb (τ.1 229) 0) (mn (σ.1 219 0)) u) := t3
    have S3 : Md 227 σ3 1024 (RS 2 (bl (fun u => u < 2 ^ m ∧ (if c = g then u = 0 else IsW m P Q u c g))) (mn (σ.1 219 0))) := Md_z B3 rfl (fun u h => (t3 u h).trans ⟨RS_c same mb h, RS_c (fun v hv => (same v hv).symm) mb h⟩)
    have d19 : σ3.1 219 = σ.1 219 := (f3.2 219 (by decide)).trans e19
    have d20 : σ3.1 220 = σ.1 220 := (f3.2 220 (by decide)).trans e20
    refine pt_gC (pt_zb (vr_lays (f3.R R9) (by rw [d19]; exact hn) hp S3) (fun w σ4 h4 => pt_some ⟨fun _ => RM_of d20 d19 h4.2, fun z => absurd ⟨r1, r3, r5⟩ z⟩))
  · have q : ¬ nI 1024 ≤ nI l := q
    rw [nlt (by omega) (by omega)] at q
    refine pt_gR (v := 229) (R9 218 19 rfl) (pt_gR (v := 227) (R9 218 17 rfl) (pt_aI (pt_s16 ?_)))
    have z01 : σ2.1 227 l = 0 ∨ σ2.1 227 l = 1 := (m2 l (by omega)).elim (fun z => Or.inr z.1) (fun z => Or.inl z.1)
    have Z2 := ZB_s (σ := τ) (a := 229) (i := (nI l).toInt.toNat) (v := τ.1 227 (nI l).toInt.toNat) rfl hZ
    rw [iN (by omega), hf.2 227 (by decide), nrz z01] at Z2
    rw [iN (by omega), nI_s1 (by omega), hf.2 227 (by decide), nrz z01]
    refine ih (nI (l + 1), _) ⟨l + 1, ⟨rfl, by omega⟩, hf.u (by decide), Z2, fun u h => ?_⟩
    show (zI τ 229 _).1 229 u = _
    rw [zI_s, upd_i]
    by_cases e : u = l
    · rw [if_pos e, e]
    · rw [if_neg e]; exact hu u (by omega)
end MAPC
end Zq14_19
section Zq14_20
/-! ===== keep and back with families ===== -/
section KEEPV
theorem pt_s {β : Type} {P : β → Prop} {σ : zS} {a c : Nat} {b d n : Int32} {f : zS → Option β} (h : ∀ τ : zS, τ.2 = σ.2 → Pt (f τ) P) : Pt (zl (cpI a b c d n σ) f) P := fun x e => by
  obtain ⟨w, h1, h2⟩ := zl_some e
  obtain ⟨_, rfl⟩ := zguard h1
  exact h (zI σ c _) rfl x h2
variable {N B C : Nat} {σ τ : zS} {x1 : Int32}
/-- all families of B are those of C; no other row of longs is other -/
def CPF (σ τ : zS) (B C : Nat) : Prop := (∀ a, ¬ (B + 6 ≤ a ∧ a < B + 26) → τ.2.1 a = σ.2.1 a) ∧ ∀ p, p < 10 → ∀ u, u < 1024 → bt (τ.2.1 (B + 6 + 2 * p + 1)) u = bt (σ.2.1 (C + 6 + 2 * p + 1)) u
theorem vy_copy86 (hB : isWc B) (hC : isWc C) (hne : B ≠ C) (hR : RF σ.2.2) : Pt (zlp (F_X10_copyFrom_86 N B C) N (0, σ)) (fun r => (r.2.1 = σ.1 ∧ r.2.2.2 = σ.2.2) ∧ CPF σ r.2 B C) := by
  have d := isWc_ne hB hC hne
  refine pt_lp (fun s : Int32 × zS => ∃ m, (s.1 = nI m ∧ m ≤ 10) ∧ (s.2.1 = σ.1 ∧ s.2.2.2 = σ.2.2) ∧ (∀ a, ¬ (B + 6 ≤ a ∧ a < B + 26) → s.2.2.1 a = σ.2.1 a) ∧ ∀ p, p < m → ∀ u, u < 1024 → bt (s.2.2.1 (B + 6 + 2 * p + 1)) u = bt (σ.2.1 (C + 6 + 2 * p + 1)) u) (fun again s hI ih => ?_) N _ ⟨0, ⟨rfl, Nat.zero_le _⟩, ⟨rfl, rfl⟩, fun _ _ => rfl, fun p hp => absurd hp (Nat.not_lt_zero _)⟩
  obtain ⟨x2, τ⟩ := s
  obtain ⟨m, ⟨ex, hm⟩, ⟨e1, e2⟩, ho, hz⟩ := hI
  have ex : x2 = nI m := ex
  subst ex
  have e1 : τ.1 = σ.1 := e1
  have e2 : τ.2.2 = σ.2.2 := e2
  have ho : ∀ a, ¬ (B + 6 ≤ a ∧ a < B + 26) → τ.2.1 a = σ.2.1 a := ho
  have hz : ∀ p, p < m → ∀ u, u < 1024 → bt (τ.2.1 (B + 6 + 2 * p + 1)) u = bt (σ.2.1 (C + 6 + 2 * p + 1)) u := hz
  have R9 : RF τ.2.2 := by rw [e2]; exact hR
  rw [F_X10_copyFrom_86.eq_1]
  refine pt_if (fun q => pt_some ⟨⟨e1, e2⟩, ho, fun p hp => hz p ?_⟩) (fun q => ?_)
  · have q : nI 10 ≤ nI m := q
    rw [nlt (by omega) (by omega)] at q
    omega
  have q : ¬ nI 10 ≤ nI m := q
  rw [nlt (by omega) (by omega)] at q
  have hm9 : m < 10 := by omega
  refine pt_rg2 hB R9 hm9 (pt_rg2 hC R9 hm9 (pt_gC (pt_zb (v_copyFrom R9 (rgW hB R9 hm9).2 (rgW hC R9 hm9).2) (fun _ σ1 h => ?_))))
  obtain ⟨l, z⟩ := h
  have l : LF (B + 6 + 2 * m + 1) τ σ1 := l
  have z : ∀ u, u < 1024 → bt (σ1.2.1 (B + 6 + 2 * m + 1)) u = bt (τ.2.1 (C + 6 + 2 * m + 1)) u := z
  rw [nI_s1 (by omega)]
  refine ih (nI (m + 1), σ1) ⟨m + 1, ⟨rfl, by omega⟩, ⟨?_, ?_⟩, fun a ha => ?_, fun p hp => ?_⟩
  · show σ1.1 = σ.1
    rw [l.1]; exact e1
  · show σ1.2.2 = σ.2.2
    rw [l.2.1]; exact e2
  · show σ1.2.1 a = σ.2.1 a
    rw [l.2.2 a (by omega)]; exact ho a ha
  · intro u hu
    show bt (σ1.2.1 (B + 6 + 2 * p + 1)) u = _
    by_cases e : p = m
    · rw [e, z u hu, ho _ (by omega)]
    · rw [l.2.2 _ (by omega)]; exact hz p (by omega) u hu
theorem vy_copyFrom (hB : isWc B) (hC : isWc C) (hne : B ≠ C) (hR : RF σ.2.2) : Pt (f_X10_copyFrom N B C σ) (fun r => CPF σ r.2 B C) := by
  rw [f_X10_copyFrom.eq_1]
  refine pt_gI (pt_pIx (fun τ1 _ _ c1 => pt_gI (pt_pIx (fun τ2 _ _ c2 => pt_gI (pt_pIx (fun τ3 _ _ c3 => ?_))))))
  have R3 : τ3.2 = σ.2 := by rw [c3, c2, c1]
  refine pt_gR (v := τ3.2.2 C 3) rfl (pt_gR (v := τ3.2.2 B 3) rfl (pt_s (fun τ4 e4 => ?_)))
  refine pt_gR (v := τ4.2.2 C 4) rfl (pt_gR (v := τ4.2.2 B 4) rfl (pt_s (fun τ5 e5 => ?_)))
  refine pt_gR (v := τ5.2.2 C 5) rfl (pt_gR (v := τ5.2.2 B 5) rfl (pt_s (fun τ6 e6 => ?_)))
  refine pt_gR (v := τ6.2.2 C 6) rfl (pt_gR (v := τ6.2.2 B 6) rfl (pt_s (fun τ7 e7 => ?_)))
  have R7 : τ7.2 = σ.2 := by rw [e7, e6, e5, e4, R3]
  refine pt_w (vy_copy86 hB hC hne (by rw [R7]; exact hR)) (fun r h => ?_)
  have := h.2
  unfold CPF at this ⊢
  rw [R7] at this
  exact this
theorem vy_keep (hB : B = 2 ∨ B = 28) (hR : RF σ.2.2) (h4 : σ.2.2 0 4 = B) : Pt (f_X11_keep N 0 x1 σ) (fun r => (0 ≤ x1.toInt ∧ x1.toInt ≤ 2 → CPF σ r.2 (132 + 26 * x1.toInt.toNat) B) ∧ (¬ (0 ≤ x1.toInt ∧ x1.toInt ≤ 2) → r.2.2.1 = σ.2.1)) := by
  have hBw : isWc B := by unfold isWc; omega
  rw [f_X11_keep.eq_1]
  refine pt_if (fun q => pt_some ⟨fun z => ?_, fun _ => rfl⟩) (fun q => pt_if (fun q2 => ?_) (fun q2 => pt_some ⟨fun z => ?_, fun _ => rfl⟩))
  · rw [Int32.lt_iff_toInt_lt] at q; simp only [Int32.reduceToInt] at q; omega
  · rw [Int32.lt_iff_toInt_lt] at q q2
    simp only [Int32.reduceToInt] at q q2
    have hk : x1.toInt.toNat < 3 := by omega
    refine pt_gR (v := 54) (hR 0 6 rfl) (pt_aR ?_)
    rw [rI hR hk]
    refine pt_gR (v := B) h4 (pt_gC (pt_zb (vy_copyFrom (wcI hk) hBw (by omega) hR) (fun _ σ1 h => ?_)))
    refine pt_gR (v := σ1.2.2 0 7) rfl (pt_s16 (pt_some ⟨fun _ => h, fun z => absurd (by omega) z⟩))
  · rw [Int32.lt_iff_toInt_lt] at q2; simp only [Int32.reduceToInt] at q2; omega
theorem vy_back (hB : B = 2 ∨ B = 28) (hR : RF σ.2.2) (h4 : σ.2.2 0 4 = B) : Pt (f_X11_back N 0 x1 σ) (fun r => ((0 ≤ x1.toInt ∧ x1.toInt ≤ 2) ∧ ¬ σ.1 55 x1.toInt.toNat = 0 → CPF σ r.2 B (132 + 26 * x1.toInt.toNat)) ∧ (¬ ((0 ≤ x1.toInt ∧ x1.toInt ≤ 2) ∧ ¬ σ.1 55 x1.toInt.toNat = 0) → r.2.2.1 = σ.2.1)) := by
  have hBw : isWc B := by unfold isWc; omega
  rw [f_X11_back.eq_1]
  refine pt_if (fun q => pt_some ⟨fun z => ?_, fun _ => rfl⟩) (fun q => pt_if (fun q2 => ?_) (fun q2 => pt_some ⟨fun z => ?_, fun _ => rfl⟩))
  · rw [Int32.lt_iff_toInt_lt] at q; simp only [Int32.reduceToInt] at q; omega
  · rw [Int32.lt_iff_toInt_lt] at q q2
    simp only [Int32.reduceToInt] at q q2
    have hk : x1.toInt.toNat < 3 := by omega
    refine pt_gR (v := 55) (hR 0 7 rfl) (pt_aI (pt_if (fun z => pt_some ⟨fun y => absurd z y.2, fun _ => rfl⟩) (fun z => ?_)))
    refine pt_gR (v := B) h4 (pt_gR (v := 54) (hR 0 6 rfl) (pt_aR ?_))
    rw [rI hR hk]
    refine pt_gC (pt_zb (vy_copyFrom hBw (wcI hk) (by omega) hR) (fun _ σ1 h => pt_some ⟨fun _ => h, fun y => absurd ⟨by omega, z⟩ y⟩))
  · rw [Int32.lt_iff_toInt_lt] at q2; simp only [Int32.reduceToInt] at q2; omega
theorem n10240 {k : Nat} : (10240 : Int32) * nI k = nI (10240 * k) := nI_mul 10240 k
theorem vq_keep (hR : RF σ.2.2) (hB : ZB σ.1) : Pt (f_X12_keep N 218 x1 σ) (fun r => r.2.1 220 = σ.1 220 ∧ (0 ≤ x1.toInt ∧ x1.toInt ≤ 2 → (∀ j, j < 10240 → r.2.1 222 (10240 * x1.toInt.toNat + j) = σ.1 220 j) ∧ ∀ k, (k < 10240 * x1.toInt.toNat ∨ 10240 * x1.toInt.toNat + 10240 ≤ k) → r.2.1 222 k = σ.1 222 k) ∧ (¬ (0 ≤ x1.toInt ∧ x1.toInt ≤ 2) → r.2.1 = σ.1)) := by
  rw [f_X12_keep.eq_1]
  refine pt_zbq vr_in (fun v2 hv2 => ?_)
  rw [i64_of] at hv2
  simp only [Int64.reduceToInt] at hv2
  refine pt_if (fun q => pt_some ⟨rfl, fun z => absurd ⟨by omega, by omega⟩ (hv2.1 q), fun _ => rfl⟩) (fun q => ?_)
  have hx := hv2.2 q
  obtain ⟨c, hc, rfl⟩ := znI (x := x1) (m := 3) hx.1 (by omega)
  have ec : (nI c).toInt = (c : Int) := nI_toInt (by omega)
  rw [iN (m := c) (by omega)]
  refine pt_lp (fun s : Int32 × zS => s.2.2 = σ.2 ∧ ∀ a, a ≠ 221 → s.2.1 a = σ.1 a) (fun again s hI ih => ?_) N _ ⟨rfl, fun _ _ => rfl⟩
  obtain ⟨x2, τ⟩ := s
  obtain ⟨e, ho⟩ := hI
  have e : τ.2 = σ.2 := e
  have ho : ∀ a, a ≠ 221 → τ.1 a = σ.1 a := ho
  have R9 : RF τ.2.2 := by rw [e]; exact hR
  rw [F_X12_keep_17.eq_1]
  refine pt_if (fun _ => ?_) (fun _ => ?_)
  · refine pt_lp (fun s : Int32 × zS => ∃ l, (s.1 = nI l ∧ l ≤ 10240) ∧ FG [222] τ s.2 ∧ (∀ j, j < l → s.2.1 222 (10240 * c + j) = σ.1 220 j) ∧ ∀ k, (k < 10240 * c ∨ 10240 * c + 10240 ≤ k) → s.2.1 222 k = σ.1 222 k) (fun again s hI ih => ?_) N _ ⟨0, ⟨rfl, Nat.zero_le _⟩, FG.rf, fun j hj => absurd hj (Nat.not_lt_zero _), fun k _ => congrFun (ho 222 (by decide)) k⟩
    obtain ⟨x2, υ⟩ := s
    obtain ⟨l, ⟨ex, hl⟩, hf, hj, hk⟩ := hI
    have ex : x2 = nI l := ex
    subst ex
    have hf : FG [222] τ υ := hf
    have hj : ∀ j, j < l → υ.1 222 (10240 * c + j) = σ.1 220 j := hj
    have hk : ∀ k, (k < 10240 * c ∨ 10240 * c + 10240 ≤ k) → υ.1 222 k = σ.1 222 k := hk
    have Ru := hf.R R9
    have el : (nI l).toInt = (l : Int) := nI_toInt (by omega)
    have e20 : υ.1 220 = σ.1 220 := (hf.2 220 (by decide)).trans (ho 220 (by decide))
    rw [F_X12_keep_48.eq_1]
    refine pt_if (fun q => ?_) (fun q => ?_)
    · rw [Int32.le_iff_toInt_le, el] at q
      simp only [Int32.reduceToInt] at q
      refine pt_gR (v := 223) (Ru 218 5 rfl) (pt_s16 (pt_some ⟨?_, fun _ => ⟨fun j h => ?_, fun k h => ?_⟩, fun z => absurd ⟨by omega, by omega⟩ z⟩))
      · show (zI υ 223 _).1 220 = _
        rw [zI_n (by decide)]; exact e20
      · show (zI υ 223 _).1 222 _ = _
        rw [zI_n (by decide)]; exact hj j (by omega)
      · show (zI υ 223 _).1 222 k = _
        rw [zI_n (by decide)]; exact hk k h
    · rw [Int32.le_iff_toInt_le, el] at q
      simp only [Int32.reduceToInt] at q
      refine pt_gR (v := 222) (Ru 218 4 rfl) (pt_gR (v := 220) (Ru 218 2 rfl) (pt_aI (pt_s16 ?_)))
      rw [n10240, nI_plus, iNb (m := l) (by omega), iNb (by omega), nI_m1, e20, nrz (hB 220 rfl l)]
      refine ih (nI (l + 1), _) ⟨l + 1, ⟨rfl, by omega⟩, hf.u (by decide), fun j h => ?_, fun k h => ?_⟩
      · show (zI υ 222 _).1 222 _ = _
        rw [zI_s, upd_i]
        by_cases y : j = l
        · rw [if_pos (by omega), y]
        · rw [if_neg (by omega)]; exact hj j (by omega)
      · show (zI υ 222 _).1 222 k = _
        rw [zI_s, upd_n (by omega)]; exact hk k h
  · refine pt_gR (v := 221) (R9 218 3 rfl) (pt_gR (v := 219) (R9 218 1 rfl) (pt_aI (pt_s14x (fun υ _ b d => ih (x2 + 1, υ) ⟨d.trans e, fun a ha => (b a ha).trans (ho a ha)⟩))))
theorem vq_back (hR : RF σ.2.2) (hB : ZB σ.1) : Pt (f_X12_back N 218 x1 σ) (fun r => ((0 ≤ x1.toInt ∧ x1.toInt ≤ 2) ∧ ¬ σ.1 223 x1.toInt.toNat = 0 → r.2.1 222 = σ.1 222 ∧ ∀ j, j < 10240 → r.2.1 220 j = σ.1 222 (10240 * x1.toInt.toNat + j)) ∧ (¬ ((0 ≤ x1.toInt ∧ x1.toInt ≤ 2) ∧ ¬ σ.1 223 x1.toInt.toNat = 0) → r.2.1 = σ.1)) := by
  rw [f_X12_back.eq_1]
  refine pt_zbq vr_in (fun v2 hv2 => ?_)
  rw [i64_of] at hv2
  simp only [Int64.reduceToInt] at hv2
  refine pt_if (fun q => pt_some ⟨fun z => absurd ⟨by omega, by omega⟩ (hv2.1 q), fun _ => rfl⟩) (fun q => ?_)
  have hx := hv2.2 q
  obtain ⟨c, hc, rfl⟩ := znI (x := x1) (m := 3) hx.1 (by omega)
  have ec : (nI c).toInt = (c : Int) := nI_toInt (by omega)
  rw [iN (m := c) (by omega)]
  refine pt_gR (v := 223) (hR 218 5 rfl) (pt_aI ?_)
  rw [iN (m := c) (by omega)]
  refine pt_if (fun z => pt_some ⟨fun y => absurd z y.2, fun _ => rfl⟩) (fun z => ?_)
  refine pt_lp (fun s : Int32 × zS => s.2.2 = σ.2 ∧ ∀ a, a ≠ 219 → s.2.1 a = σ.1 a) (fun again s hI ih => ?_) N _ ⟨rfl, fun _ _ => rfl⟩
  obtain ⟨x2, τ⟩ := s
  obtain ⟨e, ho⟩ := hI
  have e : τ.2 = σ.2 := e
  have ho : ∀ a, a ≠ 219 → τ.1 a = σ.1 a := ho
  have R9 : RF τ.2.2 := by rw [e]; exact hR
  rw [F_X12_back_29.eq_1]
  refine pt_if (fun _ => ?_) (fun _ => ?_)
  · refine pt_lp (fun s : Int32 × zS => ∃ l, (s.1 = nI l ∧ l ≤ 10240) ∧ FG [220] τ s.2 ∧ ∀ j, j < l → s.2.1 220 j = σ.1 222 (10240 * c + j)) (fun again s hI ih => ?_) N _ ⟨0, ⟨rfl, Nat.zero_le _⟩, FG.rf, fun j hj => absurd hj (Nat.not_lt_zero _)⟩
    obtain ⟨x2, υ⟩ := s
    obtain ⟨l, ⟨ex, hl⟩, hf, hj⟩ := hI
    have ex : x2 = nI l := ex
    subst ex
    have hf : FG [220] τ υ := hf
    have hj : ∀ j, j < l → υ.1 220 j = σ.1 222 (10240 * c + j) := hj
    have Ru := hf.R R9
    have el : (nI l).toInt = (l : Int) := nI_toInt (by omega)
    have e22 : υ.1 222 = σ.1 222 := (hf.2 222 (by decide)).trans (ho 222 (by decide))
    rw [F_X12_back_60.eq_1]
    refine pt_if (fun q => ?_) (fun q => ?_)
    · rw [Int32.le_iff_toInt_le, el] at q
      simp only [Int32.reduceToInt] at q
      exact pt_some ⟨fun _ => ⟨e22, fun j h => hj j (by omega)⟩, fun y => absurd ⟨⟨by omega, by omega⟩, z⟩ y⟩
    · rw [Int32.le_iff_toInt_le, el] at q
      simp only [Int32.reduceToInt] at q
      refine pt_gR (v := 220) (Ru 218 2 rfl) (pt_gR (v := 222) (Ru 218 4 rfl) (pt_aI (pt_s16 ?_)))
      rw [n10240, nI_plus, iNb (m := l) (by omega), iNb (by omega), nI_m1, e22, nrz (hB 222 rfl _)]
      refine ih (nI (l + 1), _) ⟨l + 1, ⟨rfl, by omega⟩, hf.u (by decide), fun j h => ?_⟩
      show (zI υ 220 _).1 220 j = _
      rw [zI_s, upd_i]
      by_cases y : j = l
      · rw [if_pos y, y]
      · rw [if_neg y]; exact hj j (by omega)
  · refine pt_gR (v := 219) (R9 218 1 rfl) (pt_gR (v := 221) (R9 218 3 rfl) (pt_aI (pt_s14x (fun υ _ b d => ih (x2 + 1, υ) ⟨d.trans e, fun a ha => (b a ha).trans (ho a ha)⟩))))
end KEEPV
end Zq14_20

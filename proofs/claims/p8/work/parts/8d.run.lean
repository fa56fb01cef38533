/-! ===== the class does the steps ===== -/
section RUN
variable {N B n : Nat} {σ τ υ : zS} {s : zEv}
def CVl (L : Nat → Nat → Int64) : List zFm → Prop
  | [] => True
  | x :: S => (∀ u, u < 1024 → bt (L (68 + 2 * S.length)) u = x u) ∧ CVl L S
theorem CVl_c {L L' : Nat → Nat → Int64} : ∀ {S : List zFm}, (∀ k, k < S.length → L' (68 + 2 * k) = L (68 + 2 * k)) → CVl L S → CVl L' S
  | [], _, _ => trivial
  | x :: S, h, hc => ⟨fun u hu => by rw [h S.length (by rw [List.length_cons]; omega)]; exact hc.1 u hu, CVl_c (fun k hk => h k (by rw [List.length_cons]; omega)) hc.2⟩
/-- all stay within the names -/
def RG (M : Nat) (s : zEv) : Prop := (∀ p, p < 10 → ∀ u, u < 1024 → s.1 p u = true → u < M) ∧ ∀ x ∈ s.2, ∀ u, u < 1024 → x u = true → u < M
theorem RG_1 {o : zOp} (h : RG (2 ^ n) s) (hv : vd1 (2 ^ n) o s.2.length) : RG (2 ^ n) (ev1 (2 ^ n) o s) ∧ (ev1 (2 ^ n) o s).2.length = nh o s.2.length := by
  obtain ⟨G, S⟩ := s
  obtain ⟨a, b⟩ := o
  rcases hv with ⟨e, hb, hh⟩ | ⟨e, hh⟩ | ⟨e, hh⟩ | ⟨e, hb, hh⟩ | ⟨e, hh⟩ | ⟨e, hh⟩ | ⟨e, hb, hh⟩
  · have e : a = 0 := e
    subst e
    have hb : 0 ≤ b.toInt ∧ b.toInt < 10 := hb
    rw [ev_0, nh_p.1]
    exact ⟨⟨h.1, fun x hx => (List.mem_cons.mp hx).elim (fun q => by rw [q]; exact h.1 _ (by omega)) (h.2 x)⟩, rfl⟩
  · have e : a = 1 := e
    subst e
    rw [ev_1, nh_p.2.1]
    exact ⟨⟨h.1, fun x hx => (List.mem_cons.mp hx).elim (fun q => by rw [q]; exact fun u _ z => by cases z) (h.2 x)⟩, rfl⟩
  · have e : a = 2 := e
    subst e
    rw [ev_2, nh_p.2.2.1]
    exact ⟨⟨h.1, fun x hx => (List.mem_cons.mp hx).elim (fun q => by rw [q]; exact fun u _ z => of_decide_eq_true z) (h.2 x)⟩, rfl⟩
  · have e : a = 3 := e
    subst e
    have hb : 0 ≤ b.toInt ∧ b.toInt.toNat < 2 ^ n := hb
    have hh : 1 ≤ S.length := hh
    cases S with
    | nil => exact absurd hh (by decide)
    | cons x S =>
      rw [ev_3, nh_p.2.2.2.1]
      refine ⟨⟨h.1, fun y hy => (List.mem_cons.mp hy).elim (fun q => ?_) (fun q => h.2 y (List.mem_cons_of_mem _ q))⟩, rfl⟩
      rw [q]
      intro u hu z
      have z : (x u || decide (u = b.toInt.toNat)) = true := z
      rw [Bool.or_eq_true, decide_eq_true_iff] at z
      rcases z with z | z
      · exact h.2 x List.mem_cons_self u hu z
      · rw [z]; exact hb.2
  · have e : a = 4 := e
    subst e
    have hh : 2 ≤ S.length := hh
    match S, hh with
    | y :: x :: S, _ =>
      rw [ev_4, nh_p.2.2.2.2.1]
      refine ⟨⟨h.1, fun z hz => (List.mem_cons.mp hz).elim (fun q => ?_) (fun q => h.2 z (List.mem_cons_of_mem _ (List.mem_cons_of_mem _ q)))⟩, rfl⟩
      rw [q]
      exact fun u _ w => CS_in (bl_t.mp w)
  · have e : a = 5 := e
    subst e
    have hh : 1 ≤ S.length := hh
    cases S with
    | nil => exact absurd hh (by decide)
    | cons x S =>
      rw [ev_5, nh_p.2.2.2.2.2.1]
      refine ⟨⟨h.1, fun z hz => (List.mem_cons.mp hz).elim (fun q => ?_) (fun q => h.2 z (List.mem_cons_of_mem _ q))⟩, rfl⟩
      rw [q]
      exact fun u _ w => RS_in (bl_t.mp w)
  · have e : a = 6 := e
    subst e
    have hh : 1 ≤ S.length := hh
    cases S with
    | nil => exact absurd hh (by decide)
    | cons x S =>
      rw [ev_6, nh_p.2.2.2.2.2.2]
      refine ⟨⟨fun p hp u hu z => ?_, fun x hx => absurd hx List.not_mem_nil⟩, rfl⟩
      have z : (if p = b.toInt.toNat then x else G p) u = true := z
      split at z
      · exact h.2 x List.mem_cons_self u hu z
      · exact h.1 p hp u hu z
/-- registers and pile are s -/
def RU (σ : zS) (B : Nat) (s : zEv) : Prop := σ.1 65 1 = nI s.2.length ∧ CVl σ.2.1 s.2 ∧ ∀ p, p < 10 → ∀ u, u < 1024 → bt (σ.2.1 (B + 6 + 2 * p + 1)) u = s.1 p u
/-- what a run leaves -/
def FU (B : Nat) (σ τ : zS) : Prop := τ.2.2 = σ.2.2 ∧ (∀ a, a ∉ [65, 106, 107] → τ.1 a = σ.1 a) ∧ ∀ a, WR a → ¬ (B + 6 ≤ a ∧ a < B + 26) → τ.2.1 a = σ.2.1 a
theorem FU.rf : FU B σ σ := ⟨rfl, fun _ _ => rfl, fun _ _ _ => rfl⟩
theorem FU.tr (h : FU B σ τ) (h2 : FU B τ υ) : FU B σ υ := ⟨h2.1.trans h.1, fun a ha => (h2.2.1 a ha).trans (h.2.1 a ha), fun a ha hn => (h2.2.2 a ha hn).trans (h.2.2 a ha hn)⟩
theorem FU.R (h : FU B σ τ) (hR : RF σ.2.2) : RF τ.2.2 := by rw [h.1]; exact hR
theorem zpl : ∀ i, i < 16 → zdyn 66 i = false ∧ zT 66 i = 67 + 2 * i ∧ (zKd (67 + 2 * i)).1 = 2 := by decide +kernel
theorem pl_R {R : Nat → Nat → Nat} (hR : RF R) {i : Nat} (hi : i < 16) : R 66 i = 67 + 2 * i ∧ isF (67 + 2 * i) := ⟨(hR 66 i (zpl i hi).1).trans (zpl i hi).2.1, (zpl i hi).2.2, by omega⟩
theorem mm15 : ∀ a, a < 16 → zmax 0 (zmin 15 (nI a)) = nI a := by decide
theorem mm16 : ∀ a, a < 16 → zmin 16 (nI a + 1) = nI (a + 1) := by decide
theorem v_top {h k : Nat} (hR : RF σ.2.2) (e : σ.1 65 1 = nI h) (hh : h ≤ 16) (hk : k < h) : Px (f_X7_top N 65 (nI k) σ) σ (fun v => v = 67 + 2 * (h - 1 - k)) := by
  rw [f_X7_top.eq_1]
  refine pt_gI (pt_gR (v := 66) (hR 65 0 rfl) (pt_aR (pt_some ⟨rfl, ?_⟩)))
  rw [e, show (1 : Int32) = nI 1 from rfl, nI_sub (show h = (h - 1) + 1 by omega), nI_sub (show h - 1 = (h - 1 - k) + k by omega), mm15 _ (by omega), iN (by omega)]
  exact (pl_R hR (by omega)).1
theorem v_pushed {h : Nat} (hR : RF σ.2.2) (e : σ.1 65 1 = nI h) (hh : h < 16) : Pt (f_X7_pushed N 65 σ) (fun r => r.1 = 67 + 2 * h ∧ r.2.2 = σ.2 ∧ r.2.1 65 1 = nI (h + 1) ∧ ∀ a, a ≠ 65 → r.2.1 a = σ.1 a) := by
  rw [f_X7_pushed.eq_1]
  refine pt_gI (pt_pI ?_)
  rw [e, mm16 h hh]
  have e1 : (zI σ 65 (upd (σ.1 65) 1 (nI (h + 1)))).1 65 1 = nI (h + 1) := by rw [zI_s, upd_s]
  refine pt_gC (pt_zbq (v_top (k := 0) (h := h + 1) hR e1 (by omega) (by omega)) (fun v hv => pt_some ⟨?_, rfl, e1, fun a ha => zI_n ha⟩))
  show v = _
  rw [hv]; rfl
theorem v_isReg {x : Int32} (h : 0 ≤ x.toInt ∧ x.toInt < 10) : Px (f_X7_isRegisterNumber N x σ) σ (fun v => v = 1) := by
  rw [f_X7_isRegisterNumber.eq_1]
  refine pt_if (fun q => absurd q (by rw [Int32.lt_iff_toInt_lt]; simp only [Int32.reduceToInt]; omega)) (fun _ => pt_if (fun q => absurd q (by rw [Int32.le_iff_toInt_le]; simp only [Int32.reduceToInt]; omega)) (fun _ => pt_rZ ⟨rfl, rfl⟩))
theorem pt_rg2 {β : Type} {P : β → Prop} {k : Nat} {f : Nat → Option β} (hB : isWc B) (hR : RF σ.2.2) (hk : k < 10) (h : Pt (f (B + 6 + 2 * k)) P) : Pt (zl (gR 10 7 B σ) fun v4 => zl (aR 17 v4 (nI k) σ) f) P := by
  refine pt_gR (v := B + 5) (rW hB hR).2 (pt_aR ?_)
  rw [iN (by omega), (rgW hB hR hk).1]; exact h
theorem wB {B a : Nat} (hB : isWc B) (h : WR a) : a ∉ [101, 103, 105] ∧ ¬ (68 ≤ a ∧ a ≤ 98) := by
  unfold WR at h
  simp only [List.mem_cons, List.not_mem_nil, or_false]
  omega
/-- one step -/
theorem v_doStep {o : zOp} (hB : isWc B) (hR : RF σ.2.2) (en : σ.1 B 0 = nI n) (n10 : n ≤ 10) (hU : RU σ B s) (hG : RG (2 ^ n) s) (hv : vd1 (2 ^ n) o s.2.length) (h16 : s.2.length ≤ 16) : Pt (f_X7_doStep N 65 o.1 o.2 B 99 σ) (fun r => RU r.2 B (ev1 (2 ^ n) o s) ∧ FU B σ r.2) := by
  obtain ⟨G, S⟩ := s
  obtain ⟨a, b⟩ := o
  obtain ⟨e1, hc, hr⟩ := hU
  have e1 : σ.1 65 1 = nI S.length := e1
  have hc : CVl σ.2.1 S := hc
  have hr : ∀ p, p < 10 → ∀ u, u < 1024 → bt (σ.2.1 (B + 6 + 2 * p + 1)) u = G p u := hr
  have h16 : S.length ≤ 16 := h16
  have pn := p2le n10
  have bB : B ≠ 65 ∧ B ≠ 106 ∧ B ≠ 107 := by unfold isWc at hB; omega
  have rgne : ∀ p, p < 10 → ∀ j, j < 16 → B + 6 + 2 * p + 1 ≠ 67 + 2 * j + 1 := fun p hp j hj => by unfold isWc at hB; omega
  have rgal : ∀ p, p < 10 → B + 6 + 2 * p + 1 ∉ [101, 103, 105] := fun p hp => by unfold isWc at hB; simp only [List.mem_cons, List.not_mem_nil, or_false]; omega
  show Pt (f_X7_doStep N 65 a b B 99 σ) _
  rw [f_X7_doStep.eq_1]
  -- a family is pushed
  have push : ∀ (X : zFm) (F : Nat → zS → Option (Unit × zS)), S.length < 16 → (∀ σ1 : zS, σ1.2 = σ.2 → (∀ a, a ≠ 65 → σ1.1 a = σ.1 a) → Pt (F (67 + 2 * S.length) σ1) (fun r => LF (67 + 2 * S.length + 1) σ1 r.2 ∧ ∀ u, u < 1024 → bt (r.2.2.1 (67 + 2 * S.length + 1)) u = X u)) → Pt (zl (gC 7 65) fun _ => zb (f_X7_pushed N 65 σ) F) (fun r => RU r.2 B (G, X :: S) ∧ FU B σ r.2) := fun X F hl hF => by
    refine pt_gC (pt_zb (v_pushed hR e1 hl) (fun v σ1 h1 => ?_))
    obtain ⟨ev, e2, e3, o1⟩ := h1
    have ev : v = 67 + 2 * S.length := ev
    subst ev
    have e2 : σ1.2 = σ.2 := e2
    refine pt_w (hF σ1 e2 o1) (fun r h2 => ⟨⟨?_, ⟨fun u hu => ?_, ?_⟩, fun p hp u hu => ?_⟩, ?_, fun a ha => ?_, fun a ha hn => ?_⟩)
    · show r.2.1 65 1 = nI (S.length + 1)
      rw [h2.1.1]; exact e3
    · show bt (r.2.2.1 (68 + 2 * S.length)) u = X u
      rw [show 68 + 2 * S.length = 67 + 2 * S.length + 1 by omega]; exact h2.2 u hu
    · refine CVl_c (fun k hk => ?_) hc
      show r.2.2.1 (68 + 2 * k) = σ.2.1 (68 + 2 * k)
      rw [h2.1.2.2 _ (by omega), e2]
    · show bt (r.2.2.1 (B + 6 + 2 * p + 1)) u = G p u
      rw [h2.1.2.2 _ (rgne p hp _ hl), e2]; exact hr p hp u hu
    · rw [h2.1.2.1, e2]
    · rw [h2.1.1]
      exact o1 a (fun z => ha (by rw [z]; decide))
    · have := wB hB ha
      rw [h2.1.2.2 _ (by omega), e2]
  -- the top is changed
  have topc : ∀ {j : Nat} {σ1 σ2 : zS} {L : List Nat}, j < 16 → σ1.2 = σ.2 → AG [106, 107] ((67 + 2 * j + 1) :: L) σ1 σ2 → (∀ k ∈ L, k = 101 ∨ k = 103 ∨ k = 105) → (∀ a, a ∉ [65, 106, 107] → σ1.1 a = σ.1 a) → (∀ p, p < 10 → ∀ u, u < 1024 → bt (σ2.2.1 (B + 6 + 2 * p + 1)) u = G p u) ∧ FU B σ σ2 ∧ ∀ k, k ≠ j → k < 16 → σ2.2.1 (68 + 2 * k) = σ.2.1 (68 + 2 * k) := fun {j σ1 σ2 L} hj e ag hL hi => by
    have out : ∀ a, a ≠ 67 + 2 * j + 1 → a ≠ 101 → a ≠ 103 → a ≠ 105 → σ2.2.1 a = σ.2.1 a := fun a h1 h2 h3 h4 => by
      rw [ag.2.2 a (fun z => (List.mem_cons.mp z).elim h1 (fun z => (hL a z).elim h2 (fun z => z.elim h3 h4))), e]
    refine ⟨fun p hp u hu => ?_, ⟨?_, fun a ha => ?_, fun a ha hn => ?_⟩, fun k hk hk16 => out _ (by omega) (by omega) (by omega) (by omega)⟩
    · have := rgal p hp
      simp only [List.mem_cons, List.not_mem_nil, or_false, not_or] at this
      rw [out _ (rgne p hp j hj) this.1 this.2.1 this.2.2]; exact hr p hp u hu
    · rw [ag.2.1, e]
    · rw [ag.1 a (fun z => ha (List.mem_cons_of_mem _ z))]; exact hi a ha
    · have := wB hB ha
      simp only [List.mem_cons, List.not_mem_nil, or_false, not_or] at this
      exact out a (by omega) this.1.1 this.1.2.1 this.1.2.2
  rcases hv with ⟨e, hb, hh⟩ | ⟨e, hh⟩ | ⟨e, hh⟩ | ⟨e, hb, hh⟩ | ⟨e, hh⟩ | ⟨e, hh⟩ | ⟨e, hb, hh⟩
  · have e : a = 0 := e
    subst e
    have hb : 0 ≤ b.toInt ∧ b.toInt < 10 := hb
    have hh : S.length < 16 := hh
    obtain ⟨p, hp, rfl⟩ := znI (x := b) (m := 10) hb.1 (by omega)
    rw [ev_0, iN (by omega)]
    refine pt_if (fun _ => ?_) (fun q => absurd rfl q)
    refine pt_zbq (v_isReg hb) (fun v hv => ?_)
    rw [hv]
    refine pt_if (fun q => absurd q (by decide)) (fun _ => ?_)
    refine pt_gC (pt_zb (v_pushed hR e1 hh) (fun v σ1 h1 => ?_))
    obtain ⟨ev, e2, e3, o1⟩ := h1
    have ev : v = 67 + 2 * S.length := ev
    subst ev
    have e2 : σ1.2 = σ.2 := e2
    have R1 : RF σ1.2.2 := by rw [e2]; exact hR
    refine pt_rg2 hB R1 hp (pt_gC (pt_zb (v_copyFrom R1 (pl_R R1 hh).2.1 (rgW hB R1 hp).2) (fun _ σ2 h2 => pt_some ?_)))
    obtain ⟨l2, b2⟩ := h2
    have l2 : LF (67 + 2 * S.length + 1) σ1 σ2 := l2
    refine ⟨⟨?_, ⟨fun u hu => ?_, ?_⟩, fun q hq u hu => ?_⟩, ?_, fun a ha => ?_, fun a ha hn => ?_⟩
    · show σ2.1 65 1 = nI (S.length + 1)
      rw [l2.1]; exact e3
    · show bt (σ2.2.1 (68 + 2 * S.length)) u = G p u
      have := b2 u hu
      rw [show 68 + 2 * S.length = 67 + 2 * S.length + 1 by omega, this, e2]; exact hr p hp u hu
    · refine CVl_c (fun k hk => ?_) hc
      show σ2.2.1 (68 + 2 * k) = σ.2.1 (68 + 2 * k)
      rw [l2.2.2 _ (by omega), e2]
    · show bt (σ2.2.1 (B + 6 + 2 * q + 1)) u = G q u
      rw [l2.2.2 _ (rgne q hq _ hh), e2]; exact hr q hq u hu
    · show σ2.2.2 = σ.2.2
      rw [l2.2.1, e2]
    · show σ2.1 a = σ.1 a
      rw [l2.1]
      exact o1 a (fun z => ha (by rw [z]; decide))
    · show σ2.2.1 a = σ.2.1 a
      have := wB hB ha
      rw [l2.2.2 _ (by omega), e2]
  · have e : a = 1 := e
    subst e
    rw [ev_1]
    refine pt_if (fun q => absurd q (by decide)) (fun _ => pt_if (fun _ => ?_) (fun q => absurd rfl q))
    exact push (fun _ => false) _ hh (fun σ1 e2 o1 => pt_gC (pt_zb (v_clear (by rw [e2]; exact hR) (pl_R hR hh).2.1) (fun _ σ2 h => pt_some h)))
  · have e : a = 2 := e
    subst e
    rw [ev_2]
    refine pt_if (fun q => absurd q (by decide)) (fun _ => pt_if (fun q => absurd q (by decide)) (fun _ => pt_if (fun _ => ?_) (fun q => absurd rfl q)))
    refine push (fun u => decide (u < 2 ^ n)) _ hh (fun σ1 e2 o1 => pt_gI ?_)
    rw [o1 B bB.1, en]
    exact pt_gC (pt_zb (v_becomeAll (by rw [e2]; exact hR) (pl_R hR hh).2.1 n10) (fun _ σ2 h => pt_some h))
  · have e : a = 3 := e
    subst e
    have hb : 0 ≤ b.toInt ∧ b.toInt.toNat < 2 ^ n := hb
    have hh : 1 ≤ S.length := hh
    obtain ⟨u0, hu0, rfl⟩ := znI (x := b) (m := 1024) hb.1 (by omega)
    rw [iN (by omega)] at hb
    refine pt_if (fun q => absurd q (by decide)) (fun _ => pt_if (fun q => absurd q (by decide)) (fun _ => pt_if (fun q => absurd q (by decide)) (fun _ => pt_if (fun _ => ?_) (fun q => absurd rfl q))))
    cases S with
    | nil => exact absurd hh (by decide)
    | cons x S =>
      have e1 : σ.1 65 1 = nI (S.length + 1) := e1
      have h16 : S.length + 1 ≤ 16 := h16
      rw [ev_3, iN (by omega)]
      refine pt_gC (pt_zbq (v_top (k := 0) hR e1 h16 (by omega)) (fun v hv => ?_))
      rw [hv, show S.length + 1 - 1 - 0 = S.length by omega]
      have pl := pl_R hR (show S.length < 16 by omega)
      refine pt_gC (pt_zb (v_include hR pl.2.1 (by omega)) (fun _ σ2 h2 => pt_some ?_))
      obtain ⟨l2, b2⟩ := h2
      have l2 : LF (67 + 2 * S.length + 1) σ σ2 := l2
      have T := topc (σ1 := σ) (σ2 := σ2) (L := []) (show S.length < 16 by omega) rfl (l2.A List.mem_cons_self) (fun k hk => absurd hk List.not_mem_nil) (fun _ _ => rfl)
      refine ⟨⟨?_, ⟨fun u hu => ?_, CVl_c (fun k hk => T.2.2 k (by omega) (by omega)) hc.2⟩, T.1⟩, T.2.1⟩
      · show σ2.1 65 1 = nI (S.length + 1)
        rw [l2.1]; exact e1
      · have := b2 u hu
        show bt (σ2.2.1 (68 + 2 * S.length)) u = (x u || decide (u = u0))
        rw [show 68 + 2 * S.length = 67 + 2 * S.length + 1 by omega, this, show 67 + 2 * S.length + 1 = 68 + 2 * S.length by omega, hc.1 u hu]
  · have e : a = 4 := e
    subst e
    have hh : 2 ≤ S.length := hh
    refine pt_if (fun q => absurd q (by decide)) (fun _ => pt_if (fun q => absurd q (by decide)) (fun _ => pt_if (fun q => absurd q (by decide)) (fun _ => pt_if (fun q => absurd q (by decide)) (fun _ => pt_if (fun _ => ?_) (fun q => absurd rfl q)))))
    match S, hh, e1, hc, h16, hG with
    | y :: x :: S, _, e1, hc, h16, hG =>
      have e1 : σ.1 65 1 = nI (S.length + 2) := e1
      have h16 : S.length + 2 ≤ 16 := h16
      rw [ev_4]
      refine pt_gC (pt_zbq (v_top (k := 1) hR e1 h16 (by omega)) (fun v hv => ?_))
      rw [hv, show S.length + 2 - 1 - 1 = S.length by omega]
      refine pt_gC (pt_zbq (v_top (k := 0) hR e1 h16 (by omega)) (fun v2 hv2 => ?_))
      rw [hv2, show S.length + 2 - 1 - 0 = S.length + 1 by omega]
      refine pt_gI ?_
      rw [en]
      have p1 := pl_R hR (show S.length < 16 by omega)
      have p2 := pl_R hR (show S.length + 1 < 16 by omega)
      have bx : ∀ u, u < 1024 → bt (σ.2.1 (67 + 2 * S.length + 1)) u = x u := fun u hu => by rw [show 67 + 2 * S.length + 1 = 68 + 2 * S.length by omega]; exact hc.2.1 u hu
      have by' : ∀ u, u < 1024 → bt (σ.2.1 (67 + 2 * (S.length + 1) + 1)) u = y u := fun u hu => by rw [show 67 + 2 * (S.length + 1) + 1 = 68 + 2 * (S.length + 1) by omega]; exact hc.1 u hu
      have Ix : inN (bt (σ.2.1 (67 + 2 * S.length + 1))) n := fun u hu z => hG.2 x (List.mem_cons_of_mem _ List.mem_cons_self) u hu (by rw [← bx u hu]; exact z)
      have Iy : inN (bt (σ.2.1 (67 + 2 * (S.length + 1) + 1))) n := fun u hu z => hG.2 y List.mem_cons_self u hu (by rw [← by' u hu]; exact z)
      refine pt_gC (pt_zb (v_combine hR p1.2 p2.2 (by omega) n10 Ix Iy) (fun _ σ2 h2 => ?_))
      obtain ⟨a2, b2⟩ := h2
      have a2 : AG [106, 107] ((67 + 2 * S.length + 1) :: [101, 103, 105]) σ σ2 := a2
      have T := topc (σ1 := σ) (σ2 := σ2) (show S.length < 16 by omega) rfl a2 (fun k hk => by simpa using hk) (fun _ _ => rfl)
      refine pt_gI (pt_pI (pt_some ?_))
      have e3 : σ2.1 65 1 = nI (S.length + 2) := by rw [a2.1 65 (by decide)]; exact e1
      rw [e3, show nI (S.length + 2) - 1 = nI (S.length + 1) from nI_sub (c := S.length + 1) (b := 1) (by omega)]
      rw [(by decide : ∀ k, k < 16 → zmax 0 (nI k) = nI k) (S.length + 1) (by omega)]
      refine ⟨⟨by show (zI σ2 65 _).1 65 1 = nI (S.length + 1); rw [zI_s, upd_s], ⟨fun u hu => ?_, CVl_c (fun k hk => T.2.2 k (by omega) (by omega)) hc.2.2⟩, T.1⟩, T.2.1.1, fun a ha => ?_, T.2.1.2.2⟩
      · show bt (σ2.2.1 (68 + 2 * S.length)) u = bl (CS b x y (2 ^ n)) u
        rw [show 68 + 2 * S.length = 67 + 2 * S.length + 1 by omega]
        rw [Bool.eq_iff_iff, bl_t]
        exact (b2 u hu).trans ⟨CS_c bx by' pn.1 hu, CS_c (fun k q => (bx k q).symm) (fun k q => (by' k q).symm) pn.1 hu⟩
      · show (zI σ2 65 _).1 a = σ.1 a
        rw [zI_n (fun z => ha (by rw [z]; decide))]; exact T.2.1.2.1 a ha
  · have e : a = 5 := e
    subst e
    have hh : 1 ≤ S.length := hh
    refine pt_if (fun q => absurd q (by decide)) (fun _ => pt_if (fun q => absurd q (by decide)) (fun _ => pt_if (fun q => absurd q (by decide)) (fun _ => pt_if (fun q => absurd q (by decide)) (fun _ => pt_if (fun q => absurd q (by decide)) (fun _ => pt_if (fun _ => ?_) (fun q => absurd rfl q))))))
    cases S with
    | nil => exact absurd hh (by decide)
    | cons x S =>
      have e1 : σ.1 65 1 = nI (S.length + 1) := e1
      have h16 : S.length + 1 ≤ 16 := h16
      rw [ev_5]
      refine pt_gC (pt_zbq (v_top (k := 0) hR e1 h16 (by omega)) (fun v hv => ?_))
      rw [hv, show S.length + 1 - 1 - 0 = S.length by omega]
      refine pt_gI ?_
      rw [en]
      have p1 := pl_R hR (show S.length < 16 by omega)
      have bx : ∀ u, u < 1024 → bt (σ.2.1 (67 + 2 * S.length + 1)) u = x u := fun u hu => by rw [show 67 + 2 * S.length + 1 = 68 + 2 * S.length by omega]; exact hc.1 u hu
      have Ix : inN (bt (σ.2.1 (67 + 2 * S.length + 1))) n := fun u hu z => hG.2 x List.mem_cons_self u hu (by rw [← bx u hu]; exact z)
      refine pt_gC (pt_zb (v_reshape hR p1.2 n10 Ix) (fun _ σ2 h2 => pt_some ?_))
      obtain ⟨l2, b2⟩ := h2
      have l2 : LG ((67 + 2 * S.length + 1) :: [101, 103]) σ σ2 := l2
      have T := topc (σ1 := σ) (σ2 := σ2) (L := [101, 103]) (show S.length < 16 by omega) rfl l2.A (fun k hk => by simp only [List.mem_cons, List.not_mem_nil, or_false] at hk; omega) (fun _ _ => rfl)
      refine ⟨⟨?_, ⟨fun u hu => ?_, CVl_c (fun k hk => T.2.2 k (by omega) (by omega)) hc.2⟩, T.1⟩, T.2.1⟩
      · show σ2.1 65 1 = nI (S.length + 1)
        rw [l2.1]; exact e1
      · show bt (σ2.2.1 (68 + 2 * S.length)) u = bl (RS b x (2 ^ n)) u
        rw [show 68 + 2 * S.length = 67 + 2 * S.length + 1 by omega]
        rw [Bool.eq_iff_iff, bl_t]
        exact (b2 u hu).trans ⟨RS_c bx pn.1 hu, RS_c (fun k q => (bx k q).symm) pn.1 hu⟩
  · have e : a = 6 := e
    subst e
    have hb : 0 ≤ b.toInt ∧ b.toInt < 10 := hb
    have hh : 1 ≤ S.length := hh
    obtain ⟨p, hp, rfl⟩ := znI (x := b) (m := 10) hb.1 (by omega)
    refine pt_if (fun q => absurd q (by decide)) (fun _ => pt_if (fun q => absurd q (by decide)) (fun _ => pt_if (fun q => absurd q (by decide)) (fun _ => pt_if (fun q => absurd q (by decide)) (fun _ => pt_if (fun q => absurd q (by decide)) (fun _ => pt_if (fun q => absurd q (by decide)) (fun _ => ?_))))))
    refine pt_zbq (v_isReg hb) (fun v hv => ?_)
    rw [hv]
    refine pt_if (fun q => absurd q (by decide)) (fun _ => ?_)
    cases S with
    | nil => exact absurd hh (by decide)
    | cons x S =>
      have e1 : σ.1 65 1 = nI (S.length + 1) := e1
      have h16 : S.length + 1 ≤ 16 := h16
      rw [ev_6, iN (by omega)]
      have p1 := pl_R hR (show S.length < 16 by omega)
      have rp := rgW hB hR hp
      refine pt_rg2 hB hR hp (pt_gC (pt_zbq (v_top (k := 0) hR e1 h16 (by omega)) (fun v hv => ?_)))
      rw [hv, show S.length + 1 - 1 - 0 = S.length by omega]
      refine pt_gC (pt_zb (v_copyFrom hR rp.2 p1.2.1) (fun _ σ2 h2 => pt_pI (pt_some ?_)))
      obtain ⟨l2, b2⟩ := h2
      have l2 : LF (B + 6 + 2 * p + 1) σ σ2 := l2
      refine ⟨⟨by show (zI σ2 65 _).1 65 1 = nI 0; rw [zI_s, upd_s]; rfl, trivial, fun q hq u hu => ?_⟩, l2.2.1, fun a ha => ?_, fun a ha hn => ?_⟩
      · show bt (σ2.2.1 (B + 6 + 2 * q + 1)) u = (if q = p then x else G q) u
        by_cases e : q = p
        · subst e
          rw [if_pos rfl, b2 u hu, show 67 + 2 * S.length + 1 = 68 + 2 * S.length by omega]; exact hc.1 u hu
        · rw [if_neg e, l2.2.2 _ (by omega)]; exact hr q hq u hu
      · show (zI σ2 65 _).1 a = σ.1 a
        rw [zI_n (fun z => ha (by rw [z]; decide)), l2.1]
      · show σ2.2.1 a = σ.2.1 a
        exact l2.2.2 a (by omega)
theorem vds_16 {M : Nat} {o : zOp} {h : Nat} (hv : vd1 M o h) (h16 : h ≤ 16) : nh o h ≤ 16 := by
  obtain ⟨a, b⟩ := o
  rcases hv with ⟨e, _, hh⟩ | ⟨e, hh⟩ | ⟨e, hh⟩ | ⟨e, _, hh⟩ | ⟨e, hh⟩ | ⟨e, hh⟩ | ⟨e, _, hh⟩ <;> (have e' := e; simp only at e'; subst e')
  · rw [nh_p.1]; omega
  · rw [nh_p.2.1]; omega
  · rw [nh_p.2.2.1]; omega
  · rw [nh_p.2.2.2.1]; omega
  · rw [nh_p.2.2.2.2.1]; omega
  · rw [nh_p.2.2.2.2.2.1]; omega
  · rw [nh_p.2.2.2.2.2.2]; omega
/-- all steps -/
theorem v_run {O : List zOp} {G : Nat → zFm} (hB : isWc B) (hR : RF σ.2.2) (en : σ.1 B 0 = nI n) (n10 : n ≤ 10) (hs : St σ O) (hl : O.length ≤ 601) (hv : vds (2 ^ n) O 0) (hG : ∀ p, p < 10 → ∀ u, u < 1024 → G p u = true → u < 2 ^ n) (hr : ∀ p, p < 10 → ∀ u, u < 1024 → bt (σ.2.1 (B + 6 + 2 * p + 1)) u = G p u) : Pt (f_X7_run N 65 57 B 99 σ) (fun r => FU B σ r.2 ∧ ∀ p, p < 10 → ∀ u, u < 1024 → bt (r.2.2.1 (B + 6 + 2 * p + 1)) u = (evs (2 ^ n) O (G, [])).1 p u) := by
  have bB : B ≠ 65 ∧ B ≠ 106 ∧ B ≠ 107 := by unfold isWc at hB; omega
  rw [f_X7_run.eq_1]
  refine pt_pI ?_
  refine pt_lp (fun x : Int32 × zS => ∃ (P Q : List zOp) (s : zEv), (O = P ++ Q ∧ x.1 = nI P.length) ∧ (RU x.2 B s ∧ FU B σ x.2) ∧ RG (2 ^ n) s ∧ (vds (2 ^ n) Q s.2.length ∧ s.2.length ≤ 16) ∧ evs (2 ^ n) Q s = evs (2 ^ n) O (G, [])) (fun again x hI ih => ?_) N _ ⟨[], O, (G, []), ⟨rfl, rfl⟩, ⟨⟨by show (zI σ 65 _).1 65 1 = nI 0; rw [zI_s, upd_s]; rfl, trivial, hr⟩, rfl, fun a ha => zI_n (fun z => ha (by rw [z]; decide)), fun _ _ _ => rfl⟩, ⟨hG, fun x hx => absurd hx List.not_mem_nil⟩, ⟨hv, Nat.zero_le _⟩, rfl⟩
  obtain ⟨x4, τ⟩ := x
  obtain ⟨P, Q, s, ⟨eO, ex⟩, ⟨hU, hF⟩, hg, ⟨hq, h16⟩, eq⟩ := hI
  have ex : x4 = nI P.length := ex
  subst ex
  have hU : RU τ B s := hU
  have hF : FU B σ τ := hF
  have R9 := hF.R hR
  have lO : O.length = P.length + Q.length := by rw [eO, List.length_append]
  have e57 : τ.1 57 = σ.1 57 := hF.2.1 57 (by decide)
  have e58 : τ.1 58 = σ.1 58 := hF.2.1 58 (by decide)
  have e59 : τ.1 59 = σ.1 59 := hF.2.1 59 (by decide)
  have steps : τ.1 57 2 = nI O.length := by
    rw [e57]
    apply Int32.toInt_inj.mp
    rw [hs.1, nI_toInt (by omega)]
  rw [F_X7_run_8.eq_1]
  refine pt_gI ?_
  rw [steps]
  refine pt_if (fun q => pt_some ⟨hF, fun p hp u hu => ?_⟩) (fun q => ?_)
  · rw [nlt (by omega) (by omega)] at q
    have : Q = [] := List.eq_nil_of_length_eq_zero (by omega)
    subst this
    rw [← eq]
    exact hU.2.2 p hp u hu
  · rw [nlt (by omega) (by omega)] at q
    cases Q with
    | nil => exact absurd (show O.length ≤ P.length by rw [lO]; simp) q
    | cons o Q =>
      have lp : P.length < O.length := by omega
      have hk := hs.2 P.length lp
      have ho : O[P.length] = o := by
        have : O[P.length]? = some o := by rw [eO, List.getElem?_append_right (Nat.le_refl _), Nat.sub_self]; rfl
        rw [List.getElem?_eq_getElem lp] at this
        exact Option.some.inj this
      rw [ho] at hk
      refine pt_gR (v := 58) (R9 57 3 rfl) (pt_aL (pt_if (fun z => ?_) (fun _ => ?_)))
      · have z : nI 601 ≤ nI P.length := z
        rw [nlt (by omega) (by omega)] at z; omega
      · refine pt_gR (v := 58) (R9 57 3 rfl) (pt_aI (pt_gR (v := 59) (R9 57 4 rfl) (pt_aI ?_)))
        rw [iN (by omega), e58, e59, hk.1, hk.2]
        refine pt_gC (pt_zb (v_doStep hB R9 (by rw [hF.2.1 B (by simp only [List.mem_cons, List.not_mem_nil, or_false]; omega)]; exact en) n10 hU hg hq.1 h16) (fun _ σ2 h2 => ?_))
        have g := RG_1 hg hq.1
        rw [nI_s1 (by omega)]
        refine ih (nI (P.length + 1), σ2) ⟨P ++ [o], Q, ev1 (2 ^ n) o s, ⟨by rw [eO, List.append_assoc]; rfl, by show nI (P.length + 1) = nI (P ++ [o]).length; rw [List.length_append, List.length_singleton]⟩, ⟨h2.1, hF.tr h2.2⟩, g.1, ⟨by rw [g.2]; exact hq.2, by rw [g.2]; exact vds_16 hq.1 h16⟩, eq⟩
end RUN

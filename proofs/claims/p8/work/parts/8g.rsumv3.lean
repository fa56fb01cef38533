section RSY
variable {N k n i : Nat} {σ τ υ : zS} {tx : Nat → Int32} {W : List Int32} {O : List zOp} {s s0 : zEv} {c M : Nat}
theorem needs_bad {x : Int32} (hg : ¬ σ.1 218 14 = 0) : Pt (f_X12_needsSign N 218 x σ) (fun r => ¬ r.2.1 218 14 = 0) := by
  have J : Pt (J_X12_needsSign_20 N 218 σ) (fun r => ¬ r.2.1 218 14 = 0) := by
    rw [J_X12_needsSign_20.eq_1]
    exact pt_gC (pt_zbq vr_good (fun v hv => pt_if (fun _ => pt_some hg) (fun z => absurd (hv.2 z) hg)))
  rw [f_X12_needsSign.eq_1]
  exact pt_gC (pt_zbq vr_good (fun v hv => pt_if (fun _ => J) (fun z => absurd (hv.2 z) hg)))
theorem vr_needs {x : Int32} (hN : 1048576 ≤ N) (hc : c = 220 ∨ c = 232) (hb : RBs σ) (hG : RX σ.1 tx n i) (hr : RR σ c M s W) (hx : ¬ x = 0) : Pt (f_X12_needsSign N 218 x σ) (fun r => r.2.1 218 14 = 0 → tkK tx n i = x ∧ (RBs r.2 ∧ RX r.2.1 tx n (tkE tx n i)) ∧ RR r.2 c M s W ∧ r.2.1 218 25 = σ.1 218 25) := by
  refine pt_w (pt_ok (s_X12_needsSign_r hN hb.1.1 hb.1.2 hb.2.1 (fun _ => hG) hx)) (fun r h z => ?_)
  obtain ⟨hT, ⟨hK, _, g, _⟩, e7, e9, e20, e22, e23, e24, e25⟩ := h
  have g := g z
  exact ⟨g.2.1, ⟨rb218 hb hT (by decide) hK (zb218 hb hT), g.2.2⟩, RR_k hr (hT.2 _ (by decide)) (hT.2 _ (by decide)) (hT.2 _ (c218 hc).1) e20 e22 e23 e24, e25⟩
/-- a piled family, told -/
theorem RR_push {X : zFm} {G : Nat → zFm} {S : List zFm} (hc : c = 220 ∨ c = 232) (hr : RR σ c M (G, S) W) (hF : FP σ τ) (e23 : τ.1 218 23 = nI (S.length + 1)) (hx : ∀ u, u < 1024 → rb (τ.1 226) (1024 * S.length) u = X u) (ho : ∀ j, j < 1024 * S.length → τ.1 226 j = σ.1 226 j) : RR τ c M (G, X :: S) W := by
  obtain ⟨⟨⟨h22, hw⟩, h24⟩, ⟨h23, hp⟩, hg, h20⟩ := hr
  refine ⟨⟨⟨by rw [hF.2.2 22 (by decide)]; exact h22, by rw [hF.2.1 230 (by decide)]; exact hw⟩, by rw [hF.2.2 24 (by decide)]; exact h24⟩, ⟨e23, hx, PVl_c ho hp⟩, ?_, by rw [hF.2.2 20 (by decide)]; exact h20⟩
  rw [hF.2.1 c (c218 hc).2.1]; exact hg
theorem RR_set {G : Nat → zFm} {x : zFm} {S : List zFm} {u0 : Nat} (hc : c = 220 ∨ c = 232) (hr : RR σ c M (G, x :: S) W) (ho : ∀ a, a ∉ [218, 226] → τ.1 a = σ.1 a) (e : (τ.1 218 20 = σ.1 218 20 ∧ τ.1 218 22 = σ.1 218 22 ∧ τ.1 218 23 = σ.1 218 23 ∧ τ.1 218 24 = σ.1 218 24)) (e26 : τ.1 226 = upd (σ.1 226) (1024 * S.length + u0) 1) (hu0 : u0 < 1024) : RR τ c M (G, (fun u => x u || decide (u = u0)) :: S) W := by
  obtain ⟨⟨⟨h22, hw⟩, h24⟩, ⟨h23, hp⟩, hg, h20⟩ := hr
  refine ⟨⟨⟨by rw [e.2.1]; exact h22, by rw [ho 230 (by decide)]; exact hw⟩, by rw [e.2.2.2]; exact h24⟩, ⟨by rw [e.2.2.1]; exact h23, fun u hu => ?_, PVl_c (fun j hj => ?_) hp.2⟩, ?_, by rw [e.1]; exact h20⟩
  · have := hp.1 u hu
    show rb (τ.1 226) (1024 * S.length) u = (x u || decide (u = u0))
    rw [← this]
    unfold rb
    rw [e26, upd_i]
    by_cases d : u = u0
    · subst d
      rw [if_pos rfl, decide_eq_true rfl, Bool.or_true]; rfl
    · rw [if_neg (by omega), decide_eq_false d, Bool.or_false]
  · rw [e26, upd_n (by omega)]
  · rw [ho c (c218 hc).2.1]; exact hg
theorem ev_adds {v : Int32} {G : Nat → zFm} {S : List zFm} : ev1 M (3, v) (G, S) = (G, adds v.toInt.toNat S) := (if_neg (show ¬ (3 : Int32) = 0 by decide)).trans ((if_neg (show ¬ (3 : Int32) = 1 by decide)).trans ((if_neg (show ¬ (3 : Int32) = 2 by decide)).trans (if_pos rfl)))
/-- a set on the top, as a step -/
theorem RR_add {a : Int32} {u0 : Nat} (hc : c = 220 ∨ c = 232) (hr : RR σ c M s W) (h1 : 1 ≤ s.2.length) (ha : a = nI u0) (hu0 : u0 < 1024) (ho : ∀ a, a ∉ [218, 226] → τ.1 a = σ.1 a) (e : (τ.1 218 20 = σ.1 218 20 ∧ τ.1 218 22 = σ.1 218 22 ∧ τ.1 218 23 = σ.1 218 23 ∧ τ.1 218 24 = σ.1 218 24)) (e26 : τ.1 226 = upd (σ.1 226) (1024 * (s.2.length - 1) + a.toInt.toNat) 1) : RR τ c M (ev1 M (3, a) s) W := by
  obtain ⟨G, S⟩ := s
  cases S with
  | nil => exact absurd (show 1 ≤ 0 from h1) (by decide)
  | cons x S =>
    subst ha
    rw [ev_3, iN (by omega)]
    rw [iN (by omega)] at e26
    exact RR_set hc hr ho e e26 hu0
/-- a part that is one family -/
theorem vr_readsSets (hN : 1048576 ≤ N) (hk : k ≤ 10) (hc : c = 220 ∨ c = 232) (hb : RBs σ) (h0 : RG (2 ^ k) s0) (z0 : s0.2.length = 0) (H : HI (2 ^ k) (i, 0, W, O)) (hG : RX σ.1 tx n i) (hg : σ.1 218 14 = 0) (hr : RR σ c (2 ^ k) (evs (2 ^ k) O s0) W) (hk123 : tkK tx n i = 123) : Pt (f_X12_readsSets N 218 (nI k) σ) (fun r => r.2.1 218 14 = 0 → ∃ j Q, Rc (stv tx n (nI k)) (i, 0, W, O) (sw 3 j W Q) ∧ HS (2 ^ k) W Q ∧ (RBs r.2 ∧ RX r.2.1 tx n j) ∧ RR r.2 c (2 ^ k) (evs (2 ^ k) Q s0) W ∧ r.2.1 218 25 = σ.1 218 25) := by
  have np : ¬ (isPx tx n i ∨ tkK tx n i = 40) := fun z => z.elim (fun ⟨_, _, w⟩ => absurd (hk123.symm.trans w.1) (by decide)) (fun z => absurd (hk123.symm.trans z) (by decide))
  obtain ⟨⟨hv, hh⟩, hW, h6⟩ := H
  have hv : vds (2 ^ k) O 0 := hv
  have hh : hts O 0 = cmb W := hh
  have hW : Wk W := hW
  have h6 : opn W ≤ 6 := h6
  have c14 := h14 hW h6
  have p2 := p2le hk
  have eh := evs_H h0 (by rw [z0]; exact hv)
  rw [z0, hh] at eh
  have H1 : HS (2 ^ k) W (O ++ [(1, 0)]) := ⟨⟨vds_1 hv (Or.inr (Or.inl ⟨rfl, by omega⟩)), by rw [hts_1, nh_p.2.1, hh]⟩, hW, h6⟩
  rw [f_X12_readsSets.eq_1]
  refine pt_gC (pt_zb (vr_adv hN hc hb hG hr) (fun _ σ1 h1 => ?_))
  obtain ⟨⟨hb1, hG1⟩, hr1, ⟨e14, _, e25⟩, _⟩ := h1
  have hb1 : RBs σ1 := hb1
  have hG1 : RX σ1.1 tx n (tkE tx n i) := hG1
  have hr1 : RR σ1 c (2 ^ k) (evs (2 ^ k) O s0) W := hr1
  have e14 : σ1.1 218 14 = σ.1 218 14 := e14
  have e25 : σ1.1 218 25 = σ.1 218 25 := e25
  refine pt_gC (pt_zb (vr_pushesEmpty hN hb1 hr1.2.1.1 (by omega)) (fun _ σ2 h2 => ?_))
  obtain ⟨⟨hb2, f2⟩, e23, x2, o2⟩ := h2
  have hb2 : RBs σ2 := hb2
  have f2 : FP σ1 σ2 := f2
  have hG2 : RX σ2.1 tx n (tkE tx n i) := f2.S.X hG1
  have hr2 : RR σ2 c (2 ^ k) (evs (2 ^ k) (O ++ [(1, 0)]) s0) W := by
    rw [evs_app]
    show RR σ2 c (2 ^ k) (ev1 (2 ^ k) (1, 0) (evs (2 ^ k) O s0)) W
    rw [show evs (2 ^ k) O s0 = ((evs (2 ^ k) O s0).1, (evs (2 ^ k) O s0).2) from rfl, ev_1]
    refine RR_push hc hr1 f2 e23 (fun u hu => ?_) o2
    rw [rb_f]; exact x2 u hu
  have g2 : σ2.1 218 14 = 0 := by rw [f2.2.2 14 (by decide), e14]; exact hg
  have t25 : σ2.1 218 25 = σ.1 218 25 := by rw [f2.2.2 25 (by decide), e25]
  refine pt_gI ?_
  rw [show σ2.1 218 12 = tkK tx n (tkE tx n i) from hG2.2.2.1]
  refine pt_if (fun q => ?_) (fun q => ?_)
  · refine pt_gC (pt_zb (vr_needs hN hc hb2 hG2 hr2 (by decide)) (fun _ σ3 h3 => pt_some (fun z => ?_)))
    obtain ⟨_, hb3, hr3, f25⟩ := h3 z
    exact ⟨_, _, Rc.st (stv_f0 np hk123 q) Rc.rf, H1, hb3, hr3, f25.trans t25⟩
  · -- sets
    have set : ∀ (p : Nat) (Q : List zOp) (τ : zS), RBs τ → τ.1 218 14 = 0 → RX τ.1 tx n p → RR τ c (2 ^ k) (evs (2 ^ k) Q s0) W → HS (2 ^ k) W Q → Rc (stv tx n (nI k)) (i, 0, W, O) (p, 2, W, Q) → τ.1 218 25 = σ.1 218 25 → Pt (f_X12_readsSet N 218 (nI k) τ) (fun r => r.2.1 218 14 = 0 → ∃ p Q, (RBs r.2 ∧ RX r.2.1 tx n p) ∧ RR r.2 c (2 ^ k) (evs (2 ^ k) Q s0) W ∧ HS (2 ^ k) W Q ∧ Rc (stv tx n (nI k)) (i, 0, W, O) (p, 3, W, Q) ∧ r.2.1 218 25 = σ.1 218 25) := fun p Q τ hb' hg' hG' hr' hH' rc' e25' => by
      have L := HS_len hk h0 z0 hH'
      have le : (evs (2 ^ k) Q s0).2.length = cmb W + 1 := L.1
      have t23 : τ.1 218 23 = nI (cmb W + 1) := by rw [hr'.2.1.1, le]
      refine pt_w (vr_readsSet hN hk hb' hg' hG' t23 (by omega)) (fun r h z => ?_)
      obtain ⟨⟨ok, hb3⟩, o3, ⟨f20, f22, f23, f24, f25⟩, u3⟩ := h z
      obtain ⟨b, eb, lb⟩ := mv_in hk ok
      refine ⟨tkE tx n p, Q ++ [(3, mv tx n p (nI k))], hb3, ?_, ⟨⟨vds_1 hH'.1.1 (Or.inr (Or.inr (Or.inr (Or.inl ⟨rfl, ?_, by rw [hH'.1.2]; omega⟩)))), by rw [hts_1, nh_p.2.2.2.1, hH'.1.2]⟩, hH'.2⟩, rc'.sn (stv_m ok), f25.trans e25'⟩
      · rw [evs_app]
        show RR r.2 c (2 ^ k) (ev1 (2 ^ k) (3, mv tx n p (nI k)) (evs (2 ^ k) Q s0)) W
        refine RR_add hc hr' (by omega) eb (by omega) o3 ⟨f20, f22, f23, f24⟩ ?_
        rw [le, show cmb W + 1 - 1 = cmb W by omega]; exact u3
      · show 0 ≤ (mv tx n p (nI k)).toInt ∧ (mv tx n p (nI k)).toInt.toNat < 2 ^ k
        rw [eb, nI_toInt (by omega)]; omega
    refine pt_gC (pt_zb (set (tkE tx n i) _ σ2 hb2 g2 hG2 hr2 H1 (Rc.st (stv_f1 np hk123 q) Rc.rf) t25) (fun _ σ3 h3 => ?_))
    refine pt_lp (fun τ : zS => τ.1 218 14 = 0 → ∃ p Q, (RBs τ ∧ RX τ.1 tx n p) ∧ RR τ c (2 ^ k) (evs (2 ^ k) Q s0) W ∧ HS (2 ^ k) W Q ∧ Rc (stv tx n (nI k)) (i, 0, W, O) (p, 3, W, Q) ∧ τ.1 218 25 = σ.1 218 25) (fun again τ hI ih => ?_) N _ h3
    rw [F_X12_readsSets_22.eq_1]
    refine pt_gC (pt_zbq vr_good (fun v hv => pt_if (fun z => ?_) (fun z => ?_)))
    · exact pt_gC (pt_zb (needs_bad (hv.1 z)) (fun _ υ h => pt_some (fun y => absurd y h)))
    · have g := hv.2 z
      obtain ⟨p, Q, ⟨hb4, hG4⟩, hr4, hH4, rc4, f25⟩ := hI g
      refine pt_gI ?_
      rw [show τ.1 218 12 = tkK tx n p from hG4.2.2.1]
      refine pt_if (fun q4 => ?_) (fun q4 => ?_)
      · refine pt_gC (pt_zb (vr_adv hN hc hb4 hG4 hr4) (fun _ σ5 h5 => ?_))
        obtain ⟨⟨hb5, hG5⟩, hr5, ⟨g14, _, g25⟩, _⟩ := h5
        refine pt_gC (pt_zb (set (tkE tx n p) Q σ5 hb5 (g14.trans g) hG5 hr5 hH4 (rc4.sn (stv_k q4)) (g25.trans f25)) (fun _ σ6 h6 => ih σ6 h6))
      · refine pt_gC (pt_zb (vr_needs hN hc hb4 hG4 hr4 (by decide)) (fun _ σ5 h5 => pt_some (fun y => ?_)))
        obtain ⟨k125, hb5, hr5, g25⟩ := h5 y
        exact ⟨_, Q, rc4.sn (stv_z k125), hH4, hb5, hr5, g25.trans f25⟩
/-- one part or one that waits -/
theorem vr_readsPart (hN : 1048576 ≤ N) (hk : k ≤ 10) (hc : c = 220 ∨ c = 232) (hb : RBs σ) (h0 : RG (2 ^ k) s0) (z0 : s0.2.length = 0) (H : HI (2 ^ k) (i, 0, W, O)) (hG : RX σ.1 tx n i) (hg : σ.1 218 14 = 0) (hr : RR σ c (2 ^ k) (evs (2 ^ k) O s0) W) : Pt (f_X12_readsPart N 218 (nI k) c σ) (fun r => r.2.1 218 14 = 0 → ∃ d : Cv, Rc (stv tx n (nI k)) (i, 0, W, O) d ∧ (d.2.1 = 0 ∨ d.2.1 = 1) ∧ (r.1 = 0 ↔ d.2.1 = 0) ∧ (RBs r.2 ∧ RX r.2.1 tx n d.1) ∧ RR r.2 c (2 ^ k) (evs (2 ^ k) d.2.2.2 s0) d.2.2.1 ∧ r.2.1 218 25 = σ.1 218 25) := by
  have H0 := H
  obtain ⟨⟨hv, hh⟩, hW, h6⟩ := H
  have hv : vds (2 ^ k) O 0 := hv
  have hh : hts O 0 = cmb W := hh
  have hW : Wk W := hW
  have h6 : opn W ≤ 6 := h6
  have c14 := h14 hW h6
  have lW := len_W hW
  have p2 := p2le hk
  have eh := evs_H h0 (by rw [z0]; exact hv)
  rw [z0, hh] at eh
  have hR := hb.1.1
  have k12 : σ.1 218 12 = tkK tx n i := hG.2.2.1
  -- behind a whole part
  have part : ∀ (j : Nat) (Q : List zOp) (τ : zS), Rc (stv tx n (nI k)) (i, 0, W, O) (sw 3 j W Q) → HS (2 ^ k) W Q → RBs τ → RX τ.1 tx n j → RR τ c (2 ^ k) (evs (2 ^ k) Q s0) W → τ.1 218 25 = σ.1 218 25 → Pt (J_X12_readsPart_192 N 218 τ) (fun r => r.2.1 218 14 = 0 → ∃ d : Cv, Rc (stv tx n (nI k)) (i, 0, W, O) d ∧ (d.2.1 = 0 ∨ d.2.1 = 1) ∧ (r.1 = 0 ↔ d.2.1 = 0) ∧ (RBs r.2 ∧ RX r.2.1 tx n d.1) ∧ RR r.2 c (2 ^ k) (evs (2 ^ k) d.2.2.2 s0) d.2.2.1 ∧ r.2.1 218 25 = σ.1 218 25) := fun j Q τ rc hH hb' hG' hr' e25 => by
    refine pt_w (vr_p192 hN hk hc hb' h0 z0 hH hG' hr') (fun r h z => ?_)
    obtain ⟨v1, hb2, hr2, f25⟩ := h z
    exact ⟨_, rc, Or.inr rfl, ⟨fun y => absurd y v1, fun y => absurd (show (1 : Nat) = 0 from y) (by decide)⟩, hb2, hr2, f25.trans e25⟩
  have open_ : (isPx tx n i ∨ tkK tx n i = 40) → Pt (zl (gC 12 218) fun _ => zb (f_X12_opens N 218 (pw tx n i) σ) fun v6 σ7 => rZ 0 σ7) (fun r => r.2.1 218 14 = 0 → ∃ d : Cv, Rc (stv tx n (nI k)) (i, 0, W, O) d ∧ (d.2.1 = 0 ∨ d.2.1 = 1) ∧ (r.1 = 0 ↔ d.2.1 = 0) ∧ (RBs r.2 ∧ RX r.2.1 tx n d.1) ∧ RR r.2 c (2 ^ k) (evs (2 ^ k) d.2.2.2 s0) d.2.2.1 ∧ r.2.1 218 25 = σ.1 218 25) := fun px => by
    have pb : 50 ≤ (pw tx n i).toInt := by
      unfold pw
      by_cases z : tkK tx n i = 40
      · rw [if_pos z]; decide
      · rw [if_neg z]
        obtain ⟨j, hj, hw⟩ := px.resolve_right z
        rw [pxv_k hj hw]
        exact (by decide : ∀ j, j < 6 → 50 ≤ (50 + nI j).toInt) j hj
    refine pt_gC (pt_zb (vr_opens hN hc hb hG hr pb (by omega) h6) (fun _ σ1 h1 => pt_rZ (fun z => ?_)))
    obtain ⟨l6, hb1, hr1, e25⟩ := h1 z
    exact ⟨(tkE tx n i, 0, pw tx n i :: W, O), Rc.st (stv_o px l6) Rc.rf, Or.inl rfl, ⟨fun _ => rfl, fun _ => rfl⟩, hb1, hr1, e25⟩
  rw [f_X12_readsPart.eq_1]
  refine pt_gC (pt_zbq (vr_prefixOf hN hb hg hG) (fun v hv1 => ?_))
  rcases hv1 with ⟨rfl, npx⟩ | ⟨j, hj, rfl, hw⟩
  · refine pt_if (fun _ => ?_) (fun q => absurd rfl q)
    refine pt_gI ?_
    rw [k12]
    refine pt_if (fun q40 => ?_) (fun n40 => ?_)
    · rw [J_X12_readsPart_19.eq_1]
      refine pt_if (fun _ => ?_) (fun q => absurd rfl q)
      have := open_ (Or.inr q40)
      rw [px40 q40] at this
      exact this
    · have np : ¬ (isPx tx n i ∨ tkK tx n i = 40) := fun z => z.elim npx n40
      refine pt_gI ?_
      rw [k12]
      refine pt_if (fun q2 => ?_) (fun n2 => ?_)
      · -- a register
        refine pt_gC (pt_zb (pt_ok (s_X12_number_r hN hR hb.1.2 hb.2.1 hG hg)) (fun v σ1 h1 => ?_))
        obtain ⟨hT, ⟨hK1, _, g1, b1⟩, e7, e9, e20, e22, e23, e24, e25⟩ := h1
        have hT : Tr [218] σ σ1 := hT
        have hb1 : RBs σ1 := rb218 hb hT (by decide) hK1 (zb218 hb hT)
        have hr1 : RR σ1 c (2 ^ k) (evs (2 ^ k) O s0) W := RR_k hr (hT.2 _ (by decide)) (hT.2 _ (by decide)) (hT.2 _ (c218 hc).1) e20 e22 e23 e24
        refine pt_gC (pt_zb (vr_pushesEmpty hN hb1 hr1.2.1.1 (by omega)) (fun _ σ2 h2 => ?_))
        obtain ⟨⟨hb2, f2⟩, f23, x2, o2⟩ := h2
        have hb2 : RBs σ2 := hb2
        have f2 : FP σ1 σ2 := f2
        by_cases g : σ1.1 218 14 = 0
        · obtain ⟨⟨_, ok⟩, ev, hG1⟩ := g1 g
          have ev : v = nvI tx n i := nv_eq ev
          have nb := nv_in ok (by decide) (by decide)
          simp only [Int32.reduceToInt] at nb
          obtain ⟨p, hp, ep⟩ := znI (x := nvI tx n i) (m := 10) nb.1 (by omega)
          have H1 : HS (2 ^ k) W (O ++ [(0, nvI tx n i)]) := ⟨⟨vds_1 hv (Or.inl ⟨rfl, by show 0 ≤ (nvI tx n i).toInt ∧ (nvI tx n i).toInt < 10; omega, by omega⟩), by rw [hts_1, nh_p.1, hh]⟩, hW, h6⟩
          rw [ev, ep]
          refine pt_lp (fun y : Int32 × zS => ∃ l, (y.1 = nI l ∧ l ≤ 1024) ∧ (FG [226] σ2 y.2 ∧ ZB y.2.1) ∧ (∀ u, u < l → y.2.1 226 (1024 * cmb W + u) = σ.1 c (1024 * p + u)) ∧ ∀ j, j < 1024 * cmb W → y.2.1 226 j = σ.1 226 j) (fun again y hI ih => ?_) N _ ⟨0, ⟨rfl, Nat.zero_le _⟩, ⟨FG.rf, hb2.2.2⟩, fun u hu => absurd hu (Nat.not_lt_zero _), fun j hj => by rw [o2 j (by rw [eh.2]; exact hj)]; exact hT.2 226 (by decide) ▸ rfl⟩
          obtain ⟨x5, τ⟩ := y
          obtain ⟨l, ⟨ex, hl⟩, ⟨hf, hZ⟩, hu, ho⟩ := hI
          have ex : x5 = nI l := ex
          subst ex
          have hf : FG [226] σ2 τ := hf
          have hZ : ZB τ.1 := hZ
          have hu : ∀ u, u < l → τ.1 226 (1024 * cmb W + u) = σ.1 c (1024 * p + u) := hu
          have ho : ∀ j, j < 1024 * cmb W → τ.1 226 j = σ.1 226 j := ho
          have R9 := hf.R hb2.1.1
          have e18 : τ.1 218 = σ2.1 218 := hf.2 218 (by decide)
          have t23 : τ.1 218 23 = nI (cmb W + 1) := by rw [e18, f23, eh.2]
          have ec : τ.1 c = σ.1 c := by rw [hf.2 c (fun z => (c218 hc).2.1 (by simp only [List.mem_cons, List.not_mem_nil, or_false] at z ⊢; omega)), f2.2.1 c (c218 hc).2.1, hT.2 c (c218 hc).1]
          rw [F_X12_readsPart_63.eq_1]
          refine pt_if (fun q => ?_) (fun q => ?_)
          · have q : nI 1024 ≤ nI l := q
            rw [nlt (by omega) (by omega)] at q
            have hFP : FP σ1 τ := ⟨hf.1.trans f2.1, fun a ha => (hf.2 a (fun z => ha (by simp only [List.mem_cons, List.not_mem_nil, or_false] at z ⊢; omega))).trans (f2.2.1 a ha), fun j hj => by rw [e18]; exact f2.2.2 j hj⟩
            refine part (tkE tx n i) (O ++ [(0, nvI tx n i)]) τ (Rc.st (stv_n np ok) Rc.rf) H1 (hb1.f hFP.S hZ) (hFP.S.X hG1) ?_ (by rw [e18, f2.2.2 25 (by decide)]; exact e25)
            rw [evs_app]
            show RR τ c (2 ^ k) (ev1 (2 ^ k) (0, nvI tx n i) (evs (2 ^ k) O s0)) W
            rw [show evs (2 ^ k) O s0 = ((evs (2 ^ k) O s0).1, (evs (2 ^ k) O s0).2) from rfl, ev_0, ep, iN (by omega)]
            refine RR_push hc hr1 hFP (by rw [eh.2]; exact t23) (fun u hu' => ?_) (fun j hj => ?_)
            · rw [eh.2, ← hr.2.2.1 p hp u hu']
              unfold rb
              rw [hu u (by omega)]
            · rw [eh.2] at hj
              rw [ho j hj, hT.2 226 (by decide)]
          · have q : ¬ nI 1024 ≤ nI l := q
            rw [nlt (by omega) (by omega)] at q
            have g9 : τ.1 218 14 = 0 := by rw [e18, f2.2.2 14 (by decide)]; exact g
            refine pt_gC (pt_zbq vr_good (fun w hw => pt_if (fun z => absurd g9 (hw.1 z)) (fun _ => ?_)))
            have e9 : ((1024 : Int32) * (nI (cmb W + 1) - 1) + nI l).toInt.toNat = 1024 * cmb W + l := by
              rw [show (1 : Int32) = nI 1 from rfl, nI_m (by omega), show cmb W + 1 - 1 = cmb W by omega, n1024, nI_plus, nI_toInt (by omega)]; omega
            have e10 : ((1024 : Int32) * nI p + nI l).toInt.toNat = 1024 * p + l := by
              rw [n1024, nI_plus, nI_toInt (by omega)]; omega
            refine pt_gR (v := 226) (R9 218 16 rfl) (pt_gI (pt_aI ?_))
            rw [t23]
            refine pt_s16 ?_
            rw [e9, e10, nI_s1 (by omega), nrz (by have := hZ c (by rcases hc with rfl | rfl <;> rfl) (1024 * p + l); exact this), ec]
            refine ih (nI (l + 1), _) ⟨l + 1, ⟨rfl, by omega⟩, ⟨hf.u (by simp), ?_⟩, fun u h => ?_, fun j hj => ?_⟩
            · intro a ha j
              by_cases a1 : a = 226
              · subst a1
                show (zI τ 226 _).1 226 j = 0 ∨ (zI τ 226 _).1 226 j = 1
                rw [zI_s, upd_i]
                split
                · rw [← ec]; exact hZ c (by rcases hc with rfl | rfl <;> rfl) _
                · exact hZ 226 rfl j
              · show (zI τ 226 _).1 a j = 0 ∨ (zI τ 226 _).1 a j = 1
                rw [zI_n a1]; exact hZ a ha j
            · show (zI τ 226 _).1 226 _ = _
              rw [zI_s, upd_i]
              by_cases d : u = l
              · rw [if_pos (by omega), d]
              · rw [if_neg (by omega)]; exact hu u (by omega)
            · show (zI τ 226 _).1 226 j = _
              rw [zI_s, upd_n (by omega)]; exact ho j hj
        · have g2 : ¬ σ2.1 218 14 = 0 := by rw [f2.2.2 14 (by decide)]; exact g
          refine pt_lp (fun y : Int32 × zS => ¬ y.2.1 218 14 = 0) (fun again y hI ih => ?_) N _ g2
          obtain ⟨x5, τ⟩ := y
          have hI : ¬ τ.1 218 14 = 0 := hI
          rw [F_X12_readsPart_63.eq_1]
          exact pt_if (fun _ => bad192 hI) (fun _ => pt_gC (pt_zbq vr_good (fun w hw => pt_if (fun _ => bad192 hI) (fun z => absurd (hw.2 z) hI))))
      · refine pt_gI ?_
        rw [k12]
        refine pt_if (fun q123 => ?_) (fun n123 => ?_)
        · refine pt_gC (pt_zb (vr_readsSets hN hk hc hb h0 z0 H0 hG hg hr q123) (fun _ σ1 h1 => ?_))
          by_cases g : σ1.1 218 14 = 0
          · obtain ⟨j, Q, rc, hH, hb1, hr1, e25⟩ := h1 g
            exact part j Q σ1 rc hH hb1.1 hb1.2 hr1 e25
          · exact bad192 g
        · refine pt_gC (pt_zb (pt_ok (s_X12_takes_r hN hR hb.1.2 hb.2.1 hG hg (by decide))) (fun v σ1 h1 => ?_))
          obtain ⟨hT, ⟨hK1, _, f0, f1⟩, e7, e9, e14, e15, e20, e22, e23, e24, e25⟩ := h1
          refine pt_if (fun z => ?_) (fun z => ?_)
          · have e0 : σ1 = σ := (f0 z).1
            subst e0
            refine pt_gC (pt_zb (vr_errs hN hb (by decide)) (fun _ σ2 h2 => bad192 h2))
          · obtain ⟨⟨w15, _⟩, hG1⟩ := f1 z
            have hT : Tr [218] σ σ1 := hT
            have hG1 : RX σ1.1 tx n (tkE tx n i) := hG1
            have hb1 : RBs σ1 := rb218 hb hT (by decide) hK1 (zb218 hb hT)
            have hr1 : RR σ1 c (2 ^ k) (evs (2 ^ k) O s0) W := RR_k hr (hT.2 _ (by decide)) (hT.2 _ (by decide)) (hT.2 _ (c218 hc).1) e20 e22 e23 e24
            have H1 : HS (2 ^ k) W (O ++ [(2, 0)]) := ⟨⟨vds_1 hv (Or.inr (Or.inr (Or.inl ⟨rfl, by omega⟩))), by rw [hts_1, nh_p.2.2.1, hh]⟩, hW, h6⟩
            refine pt_gC (pt_zb (vr_pushesEmpty hN hb1 hr1.2.1.1 (by omega)) (fun _ σ2 h2 => ?_))
            obtain ⟨⟨hb2, f2⟩, f23, x2, o2⟩ := h2
            have hb2 : RBs σ2 := hb2
            have f2 : FP σ1 σ2 := f2
            refine pt_lp (fun y : Int32 × zS => ∃ l, (y.1 = nI l ∧ l ≤ 2 ^ k) ∧ (FG [226] σ2 y.2 ∧ ZB y.2.1) ∧ (∀ u, u < 1024 → y.2.1 226 (1024 * cmb W + u) = if u < l then 1 else 0) ∧ ∀ j, j < 1024 * cmb W → y.2.1 226 j = σ.1 226 j) (fun again y hI ih => ?_) N _ ⟨0, ⟨rfl, Nat.zero_le _⟩, ⟨FG.rf, hb2.2.2⟩, fun u hu => by rw [if_neg (by omega)]; have := x2 u hu; rw [eh.2] at this; exact this, fun j hj => by rw [o2 j (by rw [eh.2]; exact hj)]; exact hT.2 226 (by decide) ▸ rfl⟩
            obtain ⟨x5, τ⟩ := y
            obtain ⟨l, ⟨ex, hl⟩, ⟨hf, hZ⟩, hu, ho⟩ := hI
            have ex : x5 = nI l := ex
            subst ex
            have hf : FG [226] σ2 τ := hf
            have hZ : ZB τ.1 := hZ
            have hu : ∀ u, u < 1024 → τ.1 226 (1024 * cmb W + u) = if u < l then 1 else 0 := hu
            have ho : ∀ j, j < 1024 * cmb W → τ.1 226 j = σ.1 226 j := ho
            have R9 := hf.R hb2.1.1
            have e18 : τ.1 218 = σ2.1 218 := hf.2 218 (by decide)
            have t23 : τ.1 218 23 = nI (cmb W + 1) := by rw [e18, f23, eh.2]
            have t20 : τ.1 218 20 = nI (2 ^ k) := by rw [e18, f2.2.2 20 (by decide)]; exact hr1.2.2.2
            rw [F_X12_readsPart_150.eq_1]
            refine pt_gI ?_
            rw [t20]
            refine pt_if (fun q => ?_) (fun q => ?_)
            · rw [nlt (by omega) (by omega)] at q
              have hFP : FP σ1 τ := ⟨hf.1.trans f2.1, fun a ha => (hf.2 a (fun z => ha (by simp only [List.mem_cons, List.not_mem_nil, or_false] at z ⊢; omega))).trans (f2.2.1 a ha), fun j hj => by rw [e18]; exact f2.2.2 j hj⟩
              refine part (tkE tx n i) (O ++ [(2, 0)]) τ (Rc.st (stv_a np w15) Rc.rf) H1 (hb1.f hFP.S hZ) (hFP.S.X hG1) ?_ (by rw [e18, f2.2.2 25 (by decide)]; exact e25)
              rw [evs_app]
              show RR τ c (2 ^ k) (ev1 (2 ^ k) (2, 0) (evs (2 ^ k) O s0)) W
              rw [show evs (2 ^ k) O s0 = ((evs (2 ^ k) O s0).1, (evs (2 ^ k) O s0).2) from rfl, ev_2]
              refine RR_push hc hr1 hFP (by rw [eh.2]; exact t23) (fun u hu' => ?_) (fun j hj => ?_)
              · rw [eh.2]
                unfold rb
                rw [hu u hu', show l = 2 ^ k by omega]
                by_cases d : u < 2 ^ k
                · rw [if_pos d, decide_eq_true d]; rfl
                · rw [if_neg d, decide_eq_false d]; rfl
              · rw [eh.2] at hj
                rw [ho j hj, hT.2 226 (by decide)]
            · rw [nlt (by omega) (by omega)] at q
              have e9 : ((1024 : Int32) * (nI (cmb W + 1) - 1) + nI l).toInt.toNat = 1024 * cmb W + l := by
                rw [show (1 : Int32) = nI 1 from rfl, nI_m (by omega), show cmb W + 1 - 1 = cmb W by omega, n1024, nI_plus, nI_toInt (by omega)]; omega
              refine pt_gR (v := 226) (R9 218 16 rfl) (pt_gI ?_)
              rw [t23]
              refine pt_s16 ?_
              rw [e9, nI_s1 (by omega), nz1.2]
              refine ih (nI (l + 1), _) ⟨l + 1, ⟨rfl, by omega⟩, ⟨hf.u (by simp), ?_⟩, fun u h => ?_, fun j hj => ?_⟩
              · intro a ha j
                by_cases a1 : a = 226
                · subst a1
                  show (zI τ 226 _).1 226 j = 0 ∨ (zI τ 226 _).1 226 j = 1
                  rw [zI_s, upd_i]
                  split
                  · exact Or.inr rfl
                  · exact hZ 226 rfl j
                · show (zI τ 226 _).1 a j = 0 ∨ (zI τ 226 _).1 a j = 1
                  rw [zI_n a1]; exact hZ a ha j
              · show (zI τ 226 _).1 226 _ = _
                rw [zI_s, upd_i]
                by_cases d : u = l
                · rw [if_pos (by omega), if_pos (by omega)]
                · rw [if_neg (by omega), hu u h]
                  by_cases e : u < l
                  · rw [if_pos e, if_pos (by omega)]
                  · rw [if_neg e, if_neg (by omega)]
              · show (zI τ 226 _).1 226 j = _
                rw [zI_s, upd_n (by omega)]; exact ho j hj
  · refine pt_if (fun q => absurd q ((by decide : ∀ j, j < 6 → ¬ nI j = -1) j hj)) (fun _ => ?_)
    rw [J_X12_readsPart_19.eq_1]
    refine pt_if (fun q => absurd q ((by decide : ∀ j, j < 6 → ¬ nI j = -1) j hj)) (fun _ => ?_)
    have := open_ (Or.inl ⟨j, hj, hw⟩)
    rw [pxw (by rw [hw.1]; decide), pxv_k hj hw] at this
    exact this
end RSY

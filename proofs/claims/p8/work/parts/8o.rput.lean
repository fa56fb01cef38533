/-! ===== put of the reference, with values ===== -/
section RPUT
variable {N k n i : Nat} {σ τ : zS} {t : Nat → Int32} {x1 : Int32} {G : Nat → zFm}
def RPQ (t : Nat → Int32) (n : Nat) (x1 : Int32) (G : Nat → zFm) (σ : zS) (r : Int32 × zS) : Prop := (¬ isR (σ.1 219 0) x1 → r.1 = -2 ∧ r.2.1 220 = σ.1 220) ∧ (isR (σ.1 219 0) x1 → (¬ pO t n (σ.1 219 0) → r.1 = -4 ∧ r.2.1 220 = σ.1 220) ∧ (pO t n (σ.1 219 0) → ∃ d, pE t n (σ.1 219 0) d ∧ (∀ p, p < 10 → ∀ u, u < 1024 → rb (r.2.1 220) (1024 * p) u = (evs (2 ^ (σ.1 219 0).toInt.toNat) (pS d x1) (G, [])).1 p u) ∧ r.1 = nI (ct (rb (r.2.1 220) (1024 * x1.toInt.toNat)) (mn (σ.1 219 0)))))
theorem vq_p65 {p : Nat} {x : zFm} (hR : RF σ.2.2) (hB : ZB σ.1) (hn : 0 ≤ (σ.1 219 0).toInt ∧ (σ.1 219 0).toInt ≤ 10) (hp : p < 10) (hx : ∀ u, u < 1024 → rb (σ.1 226) 0 u = x u) : Pt (zlp (F_X12_put_65 N 218 (nI p)) N (0, σ)) (fun r => (∀ u, u < 1024 → rb (r.2.1 220) (1024 * p) u = x u) ∧ (∀ j, (j < 1024 * p ∨ 1024 * p + 1024 ≤ j) → r.2.1 220 j = σ.1 220 j) ∧ r.1 = nI (ct (rb (r.2.1 220) (1024 * p)) (mn (σ.1 219 0)))) := by
  refine pt_lp (fun y : Int32 × zS => ∃ l, (y.1 = nI l ∧ l ≤ 1024) ∧ FG [227] σ y.2 ∧ ZB y.2.1 ∧ ∀ u, u < l → y.2.1 227 u = σ.1 226 u) (fun again y hI ih => ?_) N _ ⟨0, ⟨rfl, Nat.zero_le _⟩, FG.rf, hB, fun u hu => absurd hu (Nat.not_lt_zero _)⟩
  obtain ⟨x2, τ⟩ := y
  obtain ⟨l, ⟨ex, hl⟩, hf, hZ, hu⟩ := hI
  have ex : x2 = nI l := ex
  subst ex
  have hf : FG [227] σ τ := hf
  have hZ : ZB τ.1 := hZ
  have hu : ∀ u, u < l → τ.1 227 u = σ.1 226 u := hu
  have R9 := hf.R hR
  have e19 : τ.1 219 = σ.1 219 := hf.2 219 (by decide)
  have e20 : τ.1 220 = σ.1 220 := hf.2 220 (by decide)
  rw [F_X12_put_65.eq_1]
  refine pt_if (fun q => ?_) (fun q => ?_)
  · have q : nI 1024 ≤ nI l := q
    rw [nlt (by omega) (by omega)] at q
    have M : Md 227 τ 1024 (fun u => x u = true) := Md_z hZ rfl (fun u h => by
      rw [← hx u h]
      unfold rb
      rw [Nat.zero_add, hu u (by omega)])
    refine pt_gC (pt_zb (vr_lays (p := p) R9 (by rw [e19]; exact hn) hp M) (fun w σ2 h => pt_some ?_))
    obtain ⟨_, a, b, c⟩ := h
    refine ⟨fun u h => Bool.eq_iff_iff.mpr (a u h), fun j hj => (b j hj).trans (congrFun e20 j), ?_⟩
    rw [← e19]; exact c
  · have q : ¬ nI 1024 ≤ nI l := q
    rw [nlt (by omega) (by omega)] at q
    refine pt_gR (v := 227) (R9 218 17 rfl) (pt_gR (v := 226) (R9 218 16 rfl) (pt_aI (pt_s16 ?_)))
    rw [iN (by omega), nI_s1 (by omega), hf.2 226 (by decide), nrz (hB 226 rfl l)]
    refine ih (nI (l + 1), _) ⟨l + 1, ⟨rfl, by omega⟩, hf.u (by decide), fun k hk j => ?_, fun u h' => ?_⟩
    · show (zI τ 227 _).1 k j = 0 ∨ (zI τ 227 _).1 k j = 1
      by_cases e : k = 227
      · subst e
        rw [zI_s, upd_i]
        split
        · exact hB 226 rfl l
        · exact hZ 227 hk j
      · rw [zI_n e]; exact hZ k hk j
    · show (zI τ 227 _).1 227 u = _
      rw [zI_s, upd_i]
      by_cases e : u = l
      · rw [if_pos e, e]
      · rw [if_neg e]; exact hu u (by omega)
theorem vr_put (hN : 1048576 ≤ N) (hR : RF σ.2.2) (hB : ZB σ.1) (hY : BYT (σ.1 224)) (ek : σ.1 219 0 = nI k) (hk : k ≤ 10) (ht : σ.1 224 = t) (hn : (σ.1 218 7).toInt = (n : Int) ∧ n ≤ 600) (hG : ∀ p, p < 10 → ∀ u, u < 1024 → G p u = true → u < 2 ^ k) (hr : ∀ p, p < 10 → ∀ u, u < 1024 → rb (σ.1 220) (1024 * p) u = G p u) : Pt (f_X12_put N 218 x1 σ) (RPQ t n x1 G σ) := by
  have k10 : (nI k).toInt = (k : Int) := nI_toInt (by omega)
  rw [f_X12_put.eq_1]
  refine pt_gC (pt_zbq (vr_isRegister hR) (fun v hv => pt_if (fun z => ?_) (fun z => ?_)))
  · exact pt_pIx (fun τ a b c => pt_some ⟨fun _ => ⟨rfl, b 220 (by decide)⟩, fun y => absurd y (hv.1 z)⟩)
  have hreg := hv.2 z
  obtain ⟨p, hp, ex⟩ := isR_n hreg
  have hp7 : 0 ≤ (σ.1 218 7).toInt ∧ (σ.1 218 7).toInt ≤ 600 := by omega
  refine pt_gC (pt_zb (pt_and (pt_ok (s_X12_begins hN hR hp7 hY)) (vr_begins hN hR hp7 hY)) (fun _ σ1 h1 => ?_))
  obtain ⟨⟨T1, ⟨K1, g1, e25, _⟩, _⟩, G1⟩ := h1
  have T1 : Tr [218] σ σ1 := T1
  have K1 : TOK σ1.1 := K1
  have g1 : σ1.1 218 14 = 0 := g1
  have e25 : σ1.1 218 25 = 0 := e25
  have G1 : RX σ1.1 (σ.1 224) (σ.1 218 7).toInt.toNat 0 := G1
  rw [ht, show (σ.1 218 7).toInt.toNat = n by omega] at G1
  have R1 := hR.tr T1
  have B1 : ZB σ1.1 := ZB.tr T1 (by decide) hB
  have Y1 : BYT (σ1.1 224) := by rw [T1.2 224 (by decide)]; exact hY
  have hb1 : RBs σ1 := ⟨⟨R1, K1⟩, Y1, B1⟩
  refine pt_gR (v := 219) (R1 218 1 rfl) (pt_aI ?_)
  rw [show (Int32.toInt 0).toNat = 0 from rfl, T1.2 219 (by decide), ek]
  refine pt_gR (v := 220) (R1 218 2 rfl) ?_
  have s25 : (σ1.1 218 25).toInt.toNat = 0 := by rw [e25]; rfl
  have sq : 0 ≤ (σ1.1 218 25).toInt ∧ (σ1.1 218 25).toInt ≤ 24 := by rw [e25]; decide
  have RG0 : RG (2 ^ k) ((G, []) : zEv) := ⟨hG, fun x hx => absurd hx List.not_mem_nil⟩
  refine pt_gC (pt_zb (pt_and (pt_ok (s_X12_readsSum_220_r (tx := t) (n := n) (i := 0) hN R1 K1 Y1 G1 g1 B1 (by rw [k10]; omega) (Nat.zero_le _) sq)) (vr_readsSum (O := []) (s0 := (G, [])) (c := 220) hN hk (Or.inl rfl) hb1 RG0 rfl trivial rfl G1 g1 (by rw [T1.2 220 (by decide)]; exact hr))) (fun _ σ2 h2 => ?_))
  obtain ⟨⟨T2, ⟨K2, _, u2, f2, _, B2⟩, _⟩, w2⟩ := h2
  have T2 : Tr [218, 226, 227, 228, 229, 230] σ1 σ2 := T2
  have K2 : TOK σ2.1 := K2
  have B2 : ZB σ2.1 := B2
  have u2 : σ2.1 218 14 = 0 → ∃ c : Cf, (Rch t n (nI k) ((0, false, [], (σ1.1 218 25).toInt.toNat) : Cf) c ∧ stp t n (nI k) c = some none ∧ ¬ true ∈ c.2.2.1) ∧ (RX σ2.1 t n c.1 ∧ c.1 ≤ n) ∧ c.2.2.2 = (σ2.1 218 25).toInt.toNat := u2
  have f2 : ¬ σ2.1 218 14 = 0 → ∃ c : Cf, Rch t n (nI k) ((0, false, [], (σ1.1 218 25).toInt.toNat) : Cf) c ∧ (stp t n (nI k) c = none ∨ (stp t n (nI k) c = some none ∧ true ∈ c.2.2.1)) := f2
  rw [s25] at u2 f2
  have w2 : σ2.1 218 14 = 0 → ∃ d : Cv, (Rc (stv t n (nI k)) (0, 0, [], []) d ∧ stv t n (nI k) d = some none ∧ ¬ 100 ∈ d.2.2.1) ∧ (RBs σ2 ∧ RX σ2.1 t n d.1) ∧ RR σ2 220 (2 ^ k) (evs (2 ^ k) (setl 1 d.2.2.1 d.2.2.2).2 (G, [])) (setl 1 d.2.2.1 d.2.2.2).1 := w2
  have R2 := R1.tr T2
  have e220 : σ2.1 220 = σ.1 220 := (T2.2 220 (by decide)).trans (T1.2 220 (by decide))
  have e219 : σ2.1 219 = σ.1 219 := (T2.2 219 (by decide)).trans (T1.2 219 (by decide))
  have bad : ∀ τ : zS, ¬ τ.1 218 14 = 0 → τ.1 220 = σ.1 220 → ¬ pO t n (σ.1 219 0) → Pt (J_X12_put_53 N 218 x1 τ) (RPQ t n x1 G σ) := fun τ hb9 e9 np => by
    rw [J_X12_put_53.eq_1]
    exact pt_gC (pt_zbq vr_good (fun v hq => pt_if (fun _ => pt_some ⟨fun y => absurd hreg y, fun _ => ⟨fun _ => ⟨rfl, e9⟩, fun y => absurd y np⟩⟩) (fun z => absurd (hq.2 z) hb9)))
  refine pt_gC (pt_zbq vr_good (fun v2 hq => pt_if (fun z => ?_) (fun z => ?_)))
  · refine bad σ2 (hq.1 z) e220 ?_
    obtain ⟨c, rc, w⟩ := f2 (hq.1 z)
    rw [ek]
    rintro ⟨j, s1, hs, _⟩
    rw [sumR_n rc w] at hs
    cases hs
  have g2 := hq.2 z
  obtain ⟨c, hc, ⟨Gc, _⟩, _⟩ := u2 g2
  have es : sumR t n (nI k) 0 0 = some (c.1, c.2.2.2) := sumR_s hc
  have kc : σ2.1 218 12 = tkK t n c.1 := Gc.2.2.1
  refine pt_gI (pt_if (fun y => ?_) (fun y => ?_))
  · have po : pO t n (σ.1 219 0) := by rw [ek]; exact ⟨c.1, c.2.2.2, es, kc.symm.trans y⟩
    obtain ⟨d, hd, ⟨hb2, _⟩, hr2⟩ := w2 g2
    have hd2 : pE t n (nI k) d := hd
    have H := pE_H hk hp hd2
    have eh := evs_H RG0 (O := (setl 1 d.2.2.1 d.2.2.2).2) H.2.2
    have eh2 : (evs (2 ^ k) (setl 1 d.2.2.1 d.2.2.2).2 (G, [])).2.length = 1 := eh.2.trans H.2.1
    rw [J_X12_put_53.eq_1]
    refine pt_gC (pt_zbq vr_good (fun v3 hq3 => pt_if (fun w => absurd g2 (hq3.1 w)) (fun _ => ?_)))
    obtain ⟨⟨G', S⟩, eS⟩ : ∃ s, s = evs (2 ^ k) (setl 1 d.2.2.1 d.2.2.2).2 (G, []) := ⟨_, rfl⟩
    rw [← eS] at eh2 hr2
    have eh2 : S.length = 1 := eh2
    cases S with
    | nil => exact absurd eh2 (by decide)
    | cons x S =>
      have z1 : S.length = 0 := by rw [List.length_cons] at eh2; omega
      have hx : ∀ u, u < 1024 → rb (σ2.1 226) 0 u = x u := fun u hu => by
        have := hr2.2.1.2.1 u hu
        rw [z1, Nat.mul_zero] at this
        exact this
      have hgr : ∀ p, p < 10 → ∀ u, u < 1024 → rb (σ2.1 220) (1024 * p) u = G' p u := hr2.2.2.1
      rw [ex]
      refine pt_w (vq_p65 (p := p) R2 B2 (by rw [e219, ek, k10]; omega) hp hx) (fun r h => ⟨fun y => absurd (by rw [← ex]; exact hreg) y, fun _ => ⟨fun y => absurd po y, fun _ => ⟨d, by rw [ek]; exact hd2, fun p' hp' u hu => ?_, ?_⟩⟩⟩)
      · rw [ek, iN (by omega)]
        unfold pS
        rw [evs_app, ← eS]
        show _ = (ev1 (2 ^ k) (6, nI p) (G', x :: S)).1 p' u
        rw [ev_6, iN (by omega)]
        by_cases e : p' = p
        · subst e
          show _ = (if p' = p' then x else G' p') u
          rw [if_pos rfl]; exact h.1 u hu
        · show _ = (if p' = p then x else G' p') u
          rw [if_neg e, ← hgr p' hp' u hu]
          unfold rb
          rw [h.2.1 _ (by omega)]
      · rw [iN (by omega), ← e219]; exact h.2.2
  · have np : ¬ pO t n (σ.1 219 0) := by
      rw [ek]
      rintro ⟨j, s1, hs, hk0⟩
      rw [es] at hs
      have : c.1 = j := congrArg Prod.fst (Option.some.inj hs)
      rw [← this] at hk0
      exact y (kc.trans hk0)
    refine pt_gC (pt_zb (pt_ok (s_X12_errs hN R2 K2 (by rw [T2.2 224 (by decide)]; exact Y1) (by decide))) (fun _ σ3 h3 => ?_))
    obtain ⟨T3, ⟨_, b3⟩, _⟩ := h3
    have T3 : Tr [218] σ2 σ3 := T3
    exact bad σ3 b3 ((T3.2 220 (by decide)).trans e220) np
end RPUT

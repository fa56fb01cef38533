section RSZ
variable {N k n i : Nat} {σ τ υ : zS} {tx : Nat → Int32} {W : List Int32} {O : List zOp} {s s0 : zEv} {c M : Nat}
theorem WL_mem {g : Nat → Int32} : ∀ {W : List Int32}, WLl g W → (100 ∈ W ↔ ∃ j, j < W.length ∧ g j = 100)
  | [], _ => ⟨fun h => absurd h List.not_mem_nil, fun ⟨j, h, _⟩ => absurd h (Nat.not_lt_zero _)⟩
  | w :: W, h => by
    rw [List.mem_cons, WL_mem h.2, List.length_cons]
    constructor
    · rintro (e | ⟨j, hj, e⟩)
      · exact ⟨W.length, by omega, h.1.trans e.symm⟩
      · exact ⟨j, by omega, e⟩
    · rintro ⟨j, hj, e⟩
      by_cases z : j = W.length
      · subst z; exact Or.inl (e.symm.trans h.1)
      · exact Or.inr ⟨j, by omega, e⟩
theorem vr_isOpen (hR : RF σ.2.2) (e22 : σ.1 218 22 = nI W.length) (hw : WLl (σ.1 230) W) (hW : W.length ≤ 30) : Px (f_X12_isOpen N 218 σ) σ (fun v => (v = 0 → ¬ 100 ∈ W) ∧ (¬ v = 0 → 100 ∈ W)) := by
  rw [f_X12_isOpen.eq_1]
  refine pt_lp (fun y : Int32 × zS => y.2 = σ ∧ ∃ l, (y.1 = nI l ∧ l ≤ W.length) ∧ ∀ j, j < l → ¬ σ.1 230 j = 100) (fun again y hI ih => ?_) N _ ⟨rfl, 0, ⟨rfl, Nat.zero_le _⟩, fun j hj => absurd hj (Nat.not_lt_zero _)⟩
  obtain ⟨x1, τ⟩ := y
  obtain ⟨e, l, ⟨ex, hl⟩, hn⟩ := hI
  have e : τ = σ := e
  have ex : x1 = nI l := ex
  subst e
  subst ex
  rw [F_X12_isOpen_2.eq_1]
  refine pt_gI ?_
  rw [e22]
  refine pt_if (fun q => pt_rZ ⟨rfl, fun _ => ?_, fun z => absurd rfl z⟩) (fun q => ?_)
  · rw [nlt (by omega) (by omega)] at q
    rw [WL_mem hw]
    rintro ⟨j, hj, e⟩
    exact hn j (by omega) e
  · rw [nlt (by omega) (by omega)] at q
    refine pt_gR (v := 230) (hR 218 21 rfl) (pt_aI ?_)
    rw [iN (by omega)]
    refine pt_if (fun z => pt_rZ ⟨rfl, fun y => absurd (show (1 : Int32) = 0 from y) (by decide), fun _ => (WL_mem hw).mpr ⟨l, by omega, z⟩⟩) (fun z => ?_)
    rw [nI_s1 (by omega)]
    refine ih (nI (l + 1), τ) ⟨rfl, l + 1, ⟨rfl, by omega⟩, fun j hj => ?_⟩
    by_cases d : j = l
    · rw [d]; exact z
    · exact hn j (by omega)
theorem vr_isOpen0 : Px (f_X12_isOpen N 218 σ) σ (fun _ => True) := by
  rw [f_X12_isOpen.eq_1]
  refine pt_lp (fun y : Int32 × zS => y.2 = σ) (fun again y hI ih => ?_) N _ rfl
  obtain ⟨x1, τ⟩ := y
  have hI : τ = σ := hI
  subst hI
  rw [F_X12_isOpen_2.eq_1]
  exact pt_gI (pt_if (fun _ => pt_rZ ⟨rfl, trivial⟩) (fun _ => pt_gR (v := τ.2.2 218 21) rfl (pt_aI (pt_if (fun _ => pt_rZ ⟨rfl, trivial⟩) (fun _ => ih _ rfl)))))
theorem errs_bad {x : Int32} (hg : ¬ σ.1 218 14 = 0) : Pt (f_X12_errs N 218 x σ) (fun r => r.2 = σ) := by
  rw [f_X12_errs.eq_1]
  exact pt_gC (pt_zbq vr_good (fun v hv => pt_if (fun _ => pt_some rfl) (fun z => absurd (hv.2 z) hg)))
/-- one more waits -/
theorem RR_wait {w : Int32} (hc : c = 220 ∨ c = 232) (hr : RR σ c M s W) (hw : w.toInt < 50) (e18 : ∀ j, j ≠ 22 → τ.1 218 j = σ.1 218 j) (e22 : τ.1 218 22 = nI (W.length + 1)) (e30 : τ.1 230 = upd (σ.1 230) W.length w) (o : ∀ a, a ≠ 218 → a ≠ 230 → τ.1 a = σ.1 a) : RR τ c M s (w :: W) := by
  obtain ⟨⟨⟨h22, hwl⟩, h24⟩, ⟨h23, hp⟩, hg, h20⟩ := hr
  have cs := cmb_s (W := W) hw
  have c1 : c ≠ 218 ∧ c ≠ 230 := by rcases hc with rfl | rfl <;> decide
  refine ⟨⟨⟨e22, ?_, ?_⟩, ?_⟩, ⟨?_, ?_⟩, ?_, ?_⟩
  · rw [e30, upd_s]
  · rw [e30]; exact WLl_c (fun j hj => upd_n (by omega)) hwl
  · rw [e18 24 (by decide), cs.2]; exact h24
  · rw [e18 23 (by decide)]; exact h23
  · rw [o 226 (by decide) (by decide)]; exact hp
  · rw [o c c1.1 c1.2]; exact hg
  · rw [e18 20 (by decide)]; exact h20
theorem HS_tail {V : List Int32} {Q : List zOp} (H : HS M (100 :: V) Q) : HS M V Q := by
  have cc := cmb_o (W := V) (w := 100) (by decide)
  obtain ⟨⟨hv, hh⟩, hW, h6⟩ := H
  rw [cc.1] at hh
  rw [cc.2] at h6
  exact ⟨⟨hv, hh⟩, hW.1, by omega⟩
theorem vr_goesBehind (hN : 1048576 ≤ N) (hk : k ≤ 10) (hc : c = 220 ∨ c = 232) (hb : RBs σ) (h0 : RG (2 ^ k) s0) (z0 : s0.2.length = 0) (H : HS (2 ^ k) W O) (hG : RX σ.1 tx n i) (hg : σ.1 218 14 = 0) (hr : RR σ c (2 ^ k) (evs (2 ^ k) O s0) W) : Pt (f_X12_goesBehind N 218 σ) (fun r => r.2.1 218 14 = 0 → (r.1 = -1 ∧ stv tx n (nI k) (i, 1, W, O) = some none ∧ r.2 = σ) ∨ ∃ d : Cv, stv tx n (nI k) (i, 1, W, O) = some (some d) ∧ ((r.1 = 0 ∧ d.2.1 = 1) ∨ (r.1 = 1 ∧ d.2.1 = 0)) ∧ (RBs r.2 ∧ RX r.2.1 tx n d.1) ∧ RR r.2 c (2 ^ k) (evs (2 ^ k) d.2.2.2 s0) d.2.2.1) := by
  have L := HS_len hk h0 z0 H
  have hR := hb.1.1
  rw [f_X12_goesBehind.eq_1]
  refine pt_gI ?_
  rw [show σ.1 218 12 = tkK tx n i from hG.2.2.1]
  refine pt_zbq vr_signOf (fun v hv => ?_)
  subst hv
  refine pt_if (fun q => ?_) (fun q => ?_)
  · have ncb : ¬ isCb (tkK tx n i) := sgv_no.mpr q
    refine pt_gI ?_
    rw [show σ.1 218 12 = tkK tx n i from hG.2.2.1]
    refine pt_if (fun q41 => ?_) (fun q41 => pt_some (fun _ => Or.inl ⟨rfl, stv_e ncb (fun z => q41 z.1), rfl⟩))
    refine pt_gC (pt_zbq (vr_isOpen hR hr.1.1.1 hr.1.1.2 (by omega)) (fun v5 h5 => pt_if (fun z => pt_some (fun _ => Or.inl ⟨rfl, stv_e ncb (fun y => h5.1 z y.2), rfl⟩)) (fun z => ?_)))
    have m100 := h5.2 z
    have sp := stv_p (m := nI k) (O := O) ncb ⟨q41, m100⟩
    refine pt_gC (pt_zb (vr_settlesTo hN hk (by decide) hR hb.2.2 hc h0 z0 H hr) (fun _ σ1 h1 => ?_))
    obtain ⟨⟨hr1, hB1⟩, hF1, hH1⟩ := h1
    have hr1 : RR σ1 c (2 ^ k) (evs (2 ^ k) (setl 1 W O).2 s0) (setl 1 W O).1 := hr1
    have hF1 : FS σ σ1 := hF1
    have hB1 : ZB σ1.1 := hB1
    have m := (setl_100 (r := 1) (by decide) W O).mpr m100
    rcases setl_top (r := 1) W O with y | ⟨w, V, y, lt⟩
    · rw [y] at m; exact absurd m List.not_mem_nil
    have ew := rk_0 lt
    subst ew
    rw [y] at hr1 hH1 sp
    have hT := HS_tail hH1
    have L2 := HS_len hk h0 z0 hT
    have cc := cmb_o (W := V) (w := 100) (by decide)
    have e22 : σ1.1 218 22 = nI (V.length + 1) := hr1.1.1.1
    have e24 : σ1.1 218 24 = nI (opn V + 1) := by rw [hr1.1.2, cc.2]
    refine pt_gI (pt_pI (pt_gI (pt_pI ?_)))
    have u1 : (zI σ1 218 (upd (σ1.1 218) 22 (σ1.1 218 22 - 1))).1 218 = upd (σ1.1 218) 22 (σ1.1 218 22 - 1) := zI_s
    rw [u1, upd_n (show (24 : Nat) ≠ 22 by decide), e22, e24, show (1 : Int32) = nI 1 from rfl, nI_m (by omega), nI_m (by omega), show V.length + 1 - 1 = V.length by omega, show opn V + 1 - 1 = opn V by omega]
    have F2 : FS σ (zI (zI σ1 218 (upd (σ1.1 218) 22 (nI V.length))) 218 (upd (upd (σ1.1 218) 22 (nI V.length)) 24 (nI (opn V)))) := by
      have a := (hF1.p (j := 22) (v := nI V.length) (by omega)).p (j := 24) (v := nI (opn V)) (by omega)
      rw [show (zI σ1 218 (upd (σ1.1 218) 22 (nI V.length))).1 218 = upd (σ1.1 218) 22 (nI V.length) from zI_s] at a
      exact a
    have B2 : ZB (zI (zI σ1 218 (upd (σ1.1 218) 22 (nI V.length))) 218 (upd (upd (σ1.1 218) 22 (nI V.length)) 24 (nI (opn V)))).1 := ZB_n (by decide) (ZB_n (by decide) hB1)
    have n2 : ∀ a, a ≠ 218 → (zI (zI σ1 218 (upd (σ1.1 218) 22 (nI V.length))) 218 (upd (upd (σ1.1 218) 22 (nI V.length)) 24 (nI (opn V)))).1 a = σ1.1 a := fun a ha => (zI_n ha).trans (zI_n ha)
    have s2 : (zI (zI σ1 218 (upd (σ1.1 218) 22 (nI V.length))) 218 (upd (upd (σ1.1 218) 22 (nI V.length)) 24 (nI (opn V)))).1 218 = upd (upd (σ1.1 218) 22 (nI V.length)) 24 (nI (opn V)) := zI_s
    generalize zI (zI σ1 218 (upd (σ1.1 218) 22 (nI V.length))) 218 (upd (upd (σ1.1 218) 22 (nI V.length)) 24 (nI (opn V))) = σ2 at F2 B2 n2 s2 ⊢
    have hb2 : RBs σ2 := hb.f F2 B2
    have hr2 : RR σ2 c (2 ^ k) (evs (2 ^ k) (setl 1 W O).2 s0) V := by
      obtain ⟨⟨⟨h22, hwl⟩, h24⟩, ⟨h23, hp⟩, hgr, h20⟩ := hr1
      refine ⟨⟨⟨?_, ?_⟩, ?_⟩, ⟨?_, ?_⟩, ?_, ?_⟩
      · rw [s2, upd_n (by decide), upd_s]
      · rw [n2 230 (by decide)]; exact hwl.2
      · rw [s2, upd_s]
      · rw [s2, upd_n (by decide), upd_n (by decide)]; exact h23
      · rw [n2 226 (by decide)]; exact hp
      · rw [n2 c (by rcases hc with rfl | rfl <;> decide)]; exact hgr
      · rw [s2, upd_n (by decide), upd_n (by decide)]; exact h20
    refine pt_gC (pt_zb (vr_adv hN hc hb2 (F2.X hG) hr2) (fun _ σ3 h3 => ?_))
    obtain ⟨⟨hb3, hG3⟩, hr3, ⟨g14, _, _⟩, _⟩ := h3
    have hb3 : RBs σ3 := hb3
    have hG3 : RX σ3.1 tx n (tkE tx n i) := hG3
    refine pt_gC (pt_zb (vr_settlesTo hN hk (by decide) hb3.1.1 hb3.2.2 hc h0 z0 hT hr3) (fun _ σ4 h4 => pt_some (fun _ => Or.inr ⟨_, sp, Or.inl ⟨rfl, rfl⟩, ⟨hb3.f h4.2.1 h4.1.2, h4.2.1.X hG3⟩, h4.1.1⟩)))
  · have cb : isCb (tkK tx n i) := Classical.byContradiction (fun z => q (sgv_no.mp z))
    have sc := stv_c (m := nI k) (W := W) (O := O) cb
    have sb := sgv_cb cb
    have rb := rk_s sb
    generalize sgv (tkK tx n i) = w at sc sb rb ⊢
    have r1 : (1 : Int32) ≤ rkI w := by rw [Int32.le_iff_toInt_le]; simp only [Int32.reduceToInt]; omega
    refine pt_gI (pt_if (fun _ => ?_) (fun _ => ?_))
    · refine pt_gC (pt_zb (vr_errs hN hb (by decide)) (fun _ σ1 h1 => ?_))
      have h1 : ¬ σ1.1 218 14 = 0 := h1
      rw [J_X12_goesBehind_27.eq_1]
      exact pt_gC (pt_zbq vr_good (fun v hv => pt_if (fun z => pt_some (fun y => absurd y h1)) (fun z => absurd (hv.2 z) h1)))
    · rw [J_X12_goesBehind_27.eq_1]
      refine pt_gC (pt_zbq vr_good (fun v hv => pt_if (fun z => absurd hg (hv.1 z)) (fun _ => pt_gI (pt_pI ?_))))
      have n1 : ∀ a, a ≠ 218 → (zI σ 218 (upd (σ.1 218) 25 (σ.1 218 25 + 1))).1 a = σ.1 a := fun a ha => zI_n ha
      have s1 : ∀ j, j ≠ 25 → (zI σ 218 (upd (σ.1 218) 25 (σ.1 218 25 + 1))).1 218 j = σ.1 218 j := fun j hj => by rw [zI_s, upd_n hj]
      have B1 : ZB (zI σ 218 (upd (σ.1 218) 25 (σ.1 218 25 + 1))).1 := ZB_n (by decide) hb.2.2
      have t1 : (zI σ 218 (upd (σ.1 218) 25 (σ.1 218 25 + 1))).2 = σ.2 := rfl
      generalize zI σ 218 (upd (σ.1 218) 25 (σ.1 218 25 + 1)) = σ1 at n1 s1 B1 t1 ⊢
      have hb1 : RBs σ1 := by
        refine ⟨⟨by rw [t1]; exact hR, ?_⟩, by rw [n1 224 (by decide)]; exact hb.2.1, B1⟩
        have K := hb.1.2
        unfold TOK at K ⊢
        rw [s1 9 (by decide), s1 10 (by decide), s1 11 (by decide), s1 12 (by decide), n1 224 (by decide)]; exact K
      have hG1 : RX σ1.1 tx n i := by
        unfold RX TKS at hG ⊢
        rw [s1 9 (by decide), s1 10 (by decide), s1 11 (by decide), s1 12 (by decide), s1 13 (by decide), n1 224 (by decide)]; exact hG
      have hr1 : RR σ1 c (2 ^ k) (evs (2 ^ k) O s0) W := RR_k hr (n1 230 (by decide)) (n1 226 (by decide)) (n1 c (by rcases hc with rfl | rfl <;> decide)) (s1 20 (by decide)) (s1 22 (by decide)) (s1 23 (by decide)) (s1 24 (by decide))
      refine pt_zbq rank_r (fun v hv => ?_)
      subst hv
      refine pt_gC (pt_zb (vr_settlesTo hN hk r1 hb1.1.1 hb1.2.2 hc h0 z0 H hr1) (fun _ σ2 h2 => ?_))
      obtain ⟨⟨hr2, hB2⟩, hF2, hH2⟩ := h2
      have hr2 : RR σ2 c (2 ^ k) (evs (2 ^ k) (setl (rkI w) W O).2 s0) (setl (rkI w) W O).1 := hr2
      have hF2 : FS σ1 σ2 := hF2
      have hB2 : ZB σ2.1 := hB2
      have L2 := HS_len hk h0 z0 hH2
      have hb2 : RBs σ2 := hb1.f hF2 hB2
      have hG2 : RX σ2.1 tx n i := hF2.X hG1
      generalize (setl (rkI w) W O).1 = V at hr2 L2 sc
      have e22 : σ2.1 218 22 = nI V.length := hr2.1.1.1
      refine pt_gR (v := 230) (hb2.1.1 218 21 rfl) (pt_gI (pt_s14 (pt_gI (pt_pI ?_))))
      rw [show (zI σ2 230 (upd (σ2.1 230) (σ2.1 218 22).toInt.toNat w)).1 218 = σ2.1 218 from zI_n (by decide), e22, iN (by omega), show (1 : Int32) = nI 1 from rfl, nI_plus]
      have n3 : ∀ a, a ≠ 218 → a ≠ 230 → (zI (zI σ2 230 (upd (σ2.1 230) V.length w)) 218 (upd (σ2.1 218) 22 (nI (V.length + 1)))).1 a = σ2.1 a := fun a h1 h2 => (zI_n h1).trans (zI_n h2)
      have s3 : (zI (zI σ2 230 (upd (σ2.1 230) V.length w)) 218 (upd (σ2.1 218) 22 (nI (V.length + 1)))).1 218 = upd (σ2.1 218) 22 (nI (V.length + 1)) := zI_s
      have w3 : (zI (zI σ2 230 (upd (σ2.1 230) V.length w)) 218 (upd (σ2.1 218) 22 (nI (V.length + 1)))).1 230 = upd (σ2.1 230) V.length w := (zI_n (by decide)).trans zI_s
      have t3 : (zI (zI σ2 230 (upd (σ2.1 230) V.length w)) 218 (upd (σ2.1 218) 22 (nI (V.length + 1)))).2 = σ2.2 := rfl
      have B3 : ZB (zI (zI σ2 230 (upd (σ2.1 230) V.length w)) 218 (upd (σ2.1 218) 22 (nI (V.length + 1)))).1 := ZB_n (by decide) (ZB_n (by decide) hB2)
      generalize zI (zI σ2 230 (upd (σ2.1 230) V.length w)) 218 (upd (σ2.1 218) 22 (nI (V.length + 1))) = σ3 at n3 s3 w3 t3 B3 ⊢
      have s3j : ∀ j, j ≠ 22 → σ3.1 218 j = σ2.1 218 j := fun j hj => by rw [s3, upd_n hj]
      have hb3 : RBs σ3 := by
        refine ⟨⟨by rw [t3]; exact hb2.1.1, ?_⟩, by rw [n3 224 (by decide) (by decide)]; exact hb2.2.1, B3⟩
        have K := hb2.1.2
        unfold TOK at K ⊢
        rw [s3j 9 (by decide), s3j 10 (by decide), s3j 11 (by decide), s3j 12 (by decide), n3 224 (by decide) (by decide)]; exact K
      have hG3 : RX σ3.1 tx n i := by
        unfold RX TKS at hG2 ⊢
        rw [s3j 9 (by decide), s3j 10 (by decide), s3j 11 (by decide), s3j 12 (by decide), s3j 13 (by decide), n3 224 (by decide) (by decide)]; exact hG2
      have hr3 : RR σ3 c (2 ^ k) (evs (2 ^ k) (setl (rkI w) W O).2 s0) (w :: V) := RR_wait hc hr2 (by omega) s3j (by rw [s3, upd_s]) w3 n3
      exact pt_gC (pt_zb (vr_adv hN hc hb3 hG3 hr3) (fun _ σ4 h4 => pt_some (fun _ => Or.inr ⟨_, sc, Or.inr ⟨rfl, rfl⟩, h4.1, h4.2.1⟩)))
/-- a whole sum -/
theorem vr_readsSum (hN : 1048576 ≤ N) (hk : k ≤ 10) (hc : c = 220 ∨ c = 232) (hb : RBs σ) (h0 : RG (2 ^ k) s0) (z0 : s0.2.length = 0) (hv : vds (2 ^ k) O 0) (hh : hts O 0 = 0) (hG : RX σ.1 tx n i) (hg : σ.1 218 14 = 0) (hrg : ∀ p, p < 10 → ∀ u, u < 1024 → rb (σ.1 c) (1024 * p) u = (evs (2 ^ k) O s0).1 p u) : Pt (f_X12_readsSum N 218 (nI k) c σ) (fun r => r.2.1 218 14 = 0 → ∃ d : Cv, (Rc (stv tx n (nI k)) (i, 0, [], O) d ∧ stv tx n (nI k) d = some none ∧ ¬ 100 ∈ d.2.2.1) ∧ (RBs r.2 ∧ RX r.2.1 tx n d.1) ∧ RR r.2 c (2 ^ k) (evs (2 ^ k) (setl 1 d.2.2.1 d.2.2.2).2 s0) (setl 1 d.2.2.1 d.2.2.2).1) := by
  have hR := hb.1.1
  have c1 : c ≠ 218 := by rcases hc with rfl | rfl <;> decide
  have eh := evs_H h0 (by rw [z0]; exact hv)
  rw [z0, hh] at eh
  have HI0 : HI (2 ^ k) (i, 0, [], O) := ⟨⟨hv, hh⟩, trivial, Nat.zero_le _⟩
  rw [f_X12_readsSum.eq_1]
  refine pt_pIx (fun τ1 a1 b1 c1 => pt_pIx (fun τ2 a2 b2 c2 => pt_pIx (fun τ3 a3 b3 c3 => pt_pIx (fun σ4 a4 b4 c4 => ?_))))
  have q4 : ∀ a, a ≠ 218 → σ4.1 a = σ.1 a := fun a ha => by rw [b4 a ha, b3 a ha, b2 a ha, b1 a ha]
  have s4 : σ4.1 218 = upd (upd (upd (upd (σ.1 218) 20 (nI (2 ^ k))) 22 0) 23 0) 24 0 := by rw [a4, a3, a2, a1, one11 k (by omega)]
  have t4 : σ4.2 = σ.2 := by rw [c4, c3, c2, c1]
  have B4 : ZB σ4.1 := fun a ha j => by
    by_cases e : a = 218
    · rw [e] at ha; exact absurd ha (by decide)
    · rw [q4 a e]; exact hb.2.2 a ha j
  clear a1 a2 a3 a4 b1 b2 b3 b4 c1 c2 c3 c4
  have s4j : ∀ j, j ≠ 20 → j ≠ 22 → j ≠ 23 → j ≠ 24 → σ4.1 218 j = σ.1 218 j := fun j h1 h2 h3 h4 => by rw [s4, upd_n h4, upd_n h3, upd_n h2, upd_n h1]
  have hb4 : RBs σ4 := by
    refine ⟨⟨by rw [t4]; exact hR, ?_⟩, by rw [q4 224 (by decide)]; exact hb.2.1, B4⟩
    have K := hb.1.2
    unfold TOK at K ⊢
    rw [s4j 9 (by decide) (by decide) (by decide) (by decide), s4j 10 (by decide) (by decide) (by decide) (by decide), s4j 11 (by decide) (by decide) (by decide) (by decide), s4j 12 (by decide) (by decide) (by decide) (by decide), q4 224 (by decide)]; exact K
  have hG4 : RX σ4.1 tx n i := by
    unfold RX TKS at hG ⊢
    rw [s4j 9 (by decide) (by decide) (by decide) (by decide), s4j 10 (by decide) (by decide) (by decide) (by decide), s4j 11 (by decide) (by decide) (by decide) (by decide), s4j 12 (by decide) (by decide) (by decide) (by decide), s4j 13 (by decide) (by decide) (by decide) (by decide), q4 224 (by decide)]; exact hG
  have hr4 : RR σ4 c (2 ^ k) (evs (2 ^ k) O s0) [] := by
    refine ⟨⟨⟨?_, trivial⟩, ?_⟩, ⟨?_, ?_⟩, ?_, ?_⟩
    · rw [s4, upd_n (by decide), upd_n (by decide), upd_s]; rfl
    · rw [s4, upd_s]; rfl
    · rw [s4, upd_n (by decide), upd_s, eh.2]; rfl
    · rw [List.eq_nil_of_length_eq_zero eh.2]; exact trivial
    · intro p hp u hu
      rw [q4 c c1]; exact hrg p hp u hu
    · rw [s4, upd_n (by decide), upd_n (by decide), upd_n (by decide), upd_s]
  have g4 : σ4.1 218 14 = 0 := by rw [s4j 14 (by decide) (by decide) (by decide) (by decide)]; exact hg
  -- the end of a fault
  have bad98 : ∀ τ : zS, ¬ τ.1 218 14 = 0 → Pt (J_X12_readsSum_98 N 218 τ) (fun r => r.2.1 218 14 = 0 → ∃ d : Cv, (Rc (stv tx n (nI k)) (i, 0, [], O) d ∧ stv tx n (nI k) d = some none ∧ ¬ 100 ∈ d.2.2.1) ∧ (RBs r.2 ∧ RX r.2.1 tx n d.1) ∧ RR r.2 c (2 ^ k) (evs (2 ^ k) (setl 1 d.2.2.1 d.2.2.2).2 s0) (setl 1 d.2.2.1 d.2.2.2).1) := fun τ hb9 => by
    rw [J_X12_readsSum_98.eq_1]
    exact pt_gC (pt_zbq vr_good (fun v hv => pt_if (fun z => pt_some (fun y => absurd y hb9)) (fun z => absurd (hv.2 z) hb9)))
  have bad86 : ∀ τ : zS, ¬ τ.1 218 14 = 0 → Pt (J_X12_readsSum_86 N 218 τ) (fun r => r.2.1 218 14 = 0 → ∃ d : Cv, (Rc (stv tx n (nI k)) (i, 0, [], O) d ∧ stv tx n (nI k) d = some none ∧ ¬ 100 ∈ d.2.2.1) ∧ (RBs r.2 ∧ RX r.2.1 tx n d.1) ∧ RR r.2 c (2 ^ k) (evs (2 ^ k) (setl 1 d.2.2.1 d.2.2.2).2 s0) (setl 1 d.2.2.1 d.2.2.2).1) := fun τ hb9 => by
    rw [J_X12_readsSum_86.eq_1]
    refine pt_gC (pt_zbq vr_isOpen0 (fun v _ => pt_if (fun _ => bad98 τ hb9) (fun _ => pt_gC (pt_zb (errs_bad hb9) (fun _ υ h => ?_)))))
    have h : υ = τ := h
    rw [h]; exact bad98 τ hb9
  refine pt_lp (fun y : Int32 × Int32 × zS => y.2.2.1 218 14 = 0 → ∃ d : Cv, Rc (stv tx n (nI k)) (i, 0, [], O) d ∧ (RBs y.2.2 ∧ RX y.2.2.1 tx n d.1) ∧ RR y.2.2 c (2 ^ k) (evs (2 ^ k) d.2.2.2 s0) d.2.2.1 ∧ ((¬ y.2.1 = 0 ∧ (y.1 = 0 ↔ d.2.1 = 0) ∧ (d.2.1 = 0 ∨ d.2.1 = 1)) ∨ (y.2.1 = 0 ∧ stv tx n (nI k) d = some none))) (fun again y hI ih => ?_) N _ (fun _ => ⟨(i, 0, [], O), Rc.rf, ⟨hb4, hG4⟩, hr4, Or.inl ⟨(fun z => absurd (show (1 : Int32) = 0 from z) (by decide)), ⟨fun _ => rfl, fun _ => rfl⟩, Or.inl rfl⟩⟩)
  obtain ⟨x3, x4, τ⟩ := y
  rw [F_X12_readsSum_27.eq_1]
  refine pt_gC (pt_zbq vr_good (fun v hv => pt_if (fun z => bad86 τ (hv.1 z)) (fun z => ?_)))
  have g := hv.2 z
  obtain ⟨⟨i', b, V, Q⟩, rc, ⟨hb5, hG5⟩, hr5, alt⟩ := hI g
  have hb5 : RBs τ := hb5
  have R9 : RF τ.2.2 := hb5.1.1
  have hG5 : RX τ.1 tx n i' := hG5
  have hr5 : RR τ c (2 ^ k) (evs (2 ^ k) Q s0) V := hr5
  have HD := Rc_H hk HI0 rc
  refine pt_if (fun q => ?_) (fun q => ?_)
  · -- the end
    have q : x4 = 0 := q
    obtain ⟨_, sn⟩ := alt.resolve_left (fun y => y.1 q)
    have b1 : b = 1 := (stv_e1 sn).1
    subst b1
    have hS : HS (2 ^ k) V Q := ⟨⟨HD.1.1, HD.1.2⟩, HD.2⟩
    have L := HS_len hk h0 z0 hS
    rw [J_X12_readsSum_86.eq_1]
    refine pt_gC (pt_zbq (vr_isOpen (W := V) R9 hr5.1.1.1 hr5.1.1.2 (by omega)) (fun w hw => pt_if (fun y => ?_) (fun y => ?_)))
    · rw [J_X12_readsSum_98.eq_1]
      refine pt_gC (pt_zbq vr_good (fun v hv => pt_if (fun z => absurd g (hv.1 z)) (fun _ => ?_)))
      refine pt_gC (pt_zb (vr_settlesTo hN hk (by decide) R9 hb5.2.2 hc h0 z0 hS hr5) (fun _ σ6 h6 => pt_some (fun _ => ⟨(i', 1, V, Q), ⟨rc, sn, hw.1 y⟩, ⟨hb5.f h6.2.1 h6.1.2, h6.2.1.X hG5⟩, h6.1.1⟩)))
    · exact pt_gC (pt_zb (vr_errs hN hb5 (by decide)) (fun _ υ h => bad98 υ h))
  · have alt := alt.resolve_right (fun y => q y.1)
    refine pt_if (fun q3 => ?_) (fun q3 => ?_)
    · have b0 : b = 0 := alt.2.1.mp q3
      subst b0
      refine pt_gC (pt_zb (vr_readsPart hN hk hc hb5 h0 z0 HD hG5 g hr5) (fun v15 σ16 P => ih (v15, x4, σ16) (fun y => ?_)))
      obtain ⟨d, rc2, b01, vb, hbx, hr6, _⟩ := P y
      exact ⟨d, rc.tr rc2, hbx, hr6, Or.inl ⟨q, vb, b01⟩⟩
    · have b1 : b = 1 := alt.2.2.resolve_left (fun y => q3 (alt.2.1.mpr y))
      subst b1
      have hS : HS (2 ^ k) V Q := ⟨⟨HD.1.1, HD.1.2⟩, HD.2⟩
      refine pt_gC (pt_zb (vr_goesBehind hN hk hc hb5 h0 z0 hS hG5 g hr5) (fun v17 σ18 P => pt_if (fun e => ?_) (fun e => ?_)))
      · rw [J_X12_readsSum_69.eq_1]
        refine pt_if (fun e1 => absurd (e.symm.trans e1) (by decide)) (fun _ => ih (1, 1, σ18) (fun y => ?_))
        rcases P y with ⟨m1, _, _⟩ | ⟨d, sd, vb, hbx, hr6⟩
        · exact absurd (e.symm.trans m1) (by decide)
        · have vb := vb.resolve_right (fun w => absurd (e.symm.trans w.1) (by decide))
          have hd : d.2.1 = 1 := vb.2
          exact ⟨d, rc.sn sd, hbx, hr6, Or.inl ⟨(fun z => absurd (show (1 : Int32) = 0 from z) (by decide)), ⟨fun w => absurd (show (1 : Int32) = 0 from w) (by decide), fun w => absurd (hd.symm.trans w) (by decide)⟩, Or.inr hd⟩⟩
      · rw [J_X12_readsSum_69.eq_1]
        refine pt_if (fun e1 => ih (0, 0, σ18) (fun y => ?_)) (fun e1 => ih (0, 1, σ18) (fun y => ?_))
        · rcases P y with ⟨_, sn, es⟩ | ⟨d, sd, vb, hbx, hr6⟩
          · have es : σ18 = τ := es
            rw [es]
            exact ⟨(i', 1, V, Q), rc, ⟨hb5, hG5⟩, hr5, Or.inr ⟨rfl, sn⟩⟩
          · rcases vb with w | w
            · exact absurd w.1 e
            · exact absurd (w.1.symm.trans e1) (by decide)
        · rcases P y with ⟨m1, _, _⟩ | ⟨d, sd, vb, hbx, hr6⟩
          · exact absurd m1 e1
          · have vb := vb.resolve_left (fun w => e w.1)
            have hd : d.2.1 = 0 := vb.2
            exact ⟨d, rc.sn sd, hbx, hr6, Or.inl ⟨(fun z => absurd (show (1 : Int32) = 0 from z) (by decide)), ⟨fun _ => hd, fun _ => rfl⟩, Or.inl hd⟩⟩
end RSZ

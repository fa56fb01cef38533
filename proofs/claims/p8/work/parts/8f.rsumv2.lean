section RSW
variable {N k n i : Nat} {σ τ υ : zS} {tx : Nat → Int32} {W : List Int32} {O : List zOp} {s s0 : zEv} {c M : Nat}
def RBs (σ : zS) : Prop := (RF σ.2.2 ∧ TOK σ.1) ∧ BYT (σ.1 224) ∧ ZB σ.1
theorem rb218 {L : List Nat} (h : RBs σ) (hT : Tr L σ τ) (h224 : 224 ∉ L) (hK : TOK τ.1) (hB : ZB τ.1) : RBs τ := ⟨⟨h.1.1.tr hT, hK⟩, by rw [hT.2 224 h224]; exact h.2.1, hB⟩
theorem zb218 (h : RBs σ) (hT : Tr [218] σ τ) : ZB τ.1 := ZB.tr hT (by decide) h.2.2
theorem RR_k (h : RR σ c M s W) (e30 : τ.1 230 = σ.1 230) (e26 : τ.1 226 = σ.1 226) (ec : τ.1 c = σ.1 c) (e20 : τ.1 218 20 = σ.1 218 20) (e22 : τ.1 218 22 = σ.1 218 22) (e23 : τ.1 218 23 = σ.1 218 23) (e24 : τ.1 218 24 = σ.1 218 24) : RR τ c M s W := by
  unfold RR at h ⊢
  rw [e30, e26, ec, e20, e22, e23, e24]; exact h
theorem c218 (hc : c = 220 ∨ c = 232) : c ∉ [218] ∧ c ∉ [218, 226] ∧ c ∉ [218, 230] := by rcases hc with rfl | rfl <;> decide
theorem RBs.f (h : RBs σ) (hF : FS σ τ) (hB : ZB τ.1) : RBs τ := ⟨⟨hF.R h.1.1, hF.K h.1.2⟩, by rw [hF.2.1 224 (by decide)]; exact h.2.1, hB⟩
/-- what is behind the advance -/
theorem vr_adv (hN : 1048576 ≤ N) (hc : c = 220 ∨ c = 232) (hb : RBs σ) (hG : RX σ.1 tx n i) (hr : RR σ c M s W) : Pt (f_X12_advance N 218 σ) (fun r => (RBs r.2 ∧ RX r.2.1 tx n (tkE tx n i)) ∧ RR r.2 c M s W ∧ (r.2.1 218 14 = σ.1 218 14 ∧ r.2.1 230 = σ.1 230 ∧ r.2.1 218 25 = σ.1 218 25) ∧ Tr [218] σ r.2) := by
  have K := hb.1.2.1
  refine pt_w (pt_ok (s_X12_advance_r hN hb.1.1 (by omega) hb.2.1 hG)) (fun r h => ?_)
  obtain ⟨hT, ⟨⟨hK, _⟩, hX⟩, e7, e9, e14, e15, e20, e22, e23, e24, e25⟩ := h
  exact ⟨⟨rb218 hb hT (by decide) hK (zb218 hb hT), hX⟩, RR_k hr (hT.2 _ (by decide)) (hT.2 _ (by decide)) (hT.2 _ (c218 hc).1) e20 e22 e23 e24, ⟨e14, hT.2 230 (by decide), e25⟩, hT⟩
theorem vr_good : Px (f_X12_good N 218 σ) σ (fun v => (v = 0 → ¬ σ.1 218 14 = 0) ∧ (¬ v = 0 → σ.1 218 14 = 0)) := pt_ok x_X12_good
theorem vr_errs {x : Int32} (hN : 1048576 ≤ N) (hb : RBs σ) (hx : ¬ x = 0) : Pt (f_X12_errs N 218 x σ) (fun r => ¬ r.2.1 218 14 = 0) := pt_w (pt_ok (s_X12_errs hN hb.1.1 hb.1.2 hb.2.1 hx)) (fun _ h => h.2.1.2)
theorem vr_prefixOf (hN : 1048576 ≤ N) (hb : RBs σ) (hg : σ.1 218 14 = 0) (hG : RX σ.1 tx n i) : Px (f_X12_prefixOf N 218 σ) σ (fun v => (v = -1 ∧ ¬ isPx tx n i) ∨ ∃ j, j < 6 ∧ v = nI j ∧ isW tx n i (16 + j)) := by
  have is : ∀ w, w < zSn → Px (f_X12_is N 218 w σ) σ (fun v => (v = 0 ∨ v = 1) ∧ (v = 0 → ¬ isW tx n i w) ∧ (¬ v = 0 → isW tx n i w)) := fun w hw => pt_ok (xf_X12_is hN hb.1.1 hw hb.1.2 hg hG)
  rw [f_X12_prefixOf.eq_1]
  refine pt_gC (pt_zbq (is 16 (by decide)) (fun v0 h0 => pt_if (fun z0 => ?_) (fun z => pt_some ⟨rfl, Or.inr ⟨0, by decide, rfl, h0.2.2 z⟩⟩)))
  refine pt_gC (pt_zbq (is 17 (by decide)) (fun v1 h1 => pt_if (fun z1 => ?_) (fun z => pt_some ⟨rfl, Or.inr ⟨1, by decide, rfl, h1.2.2 z⟩⟩)))
  refine pt_gC (pt_zbq (is 18 (by decide)) (fun v2 h2 => pt_if (fun z2 => ?_) (fun z => pt_some ⟨rfl, Or.inr ⟨2, by decide, rfl, h2.2.2 z⟩⟩)))
  refine pt_gC (pt_zbq (is 19 (by decide)) (fun v3 h3 => pt_if (fun z3 => ?_) (fun z => pt_some ⟨rfl, Or.inr ⟨3, by decide, rfl, h3.2.2 z⟩⟩)))
  refine pt_gC (pt_zbq (is 20 (by decide)) (fun v4 h4 => pt_if (fun z4 => ?_) (fun z => pt_some ⟨rfl, Or.inr ⟨4, by decide, rfl, h4.2.2 z⟩⟩)))
  refine pt_gC (pt_zbq (is 21 (by decide)) (fun v5 h5 => pt_if (fun z5 => pt_some ⟨rfl, Or.inl ⟨rfl, ?_⟩⟩) (fun z => pt_some ⟨rfl, Or.inr ⟨5, by decide, rfl, h5.2.2 z⟩⟩)))
  rintro ⟨j, hj, hw⟩
  rcases (show j = 0 ∨ j = 1 ∨ j = 2 ∨ j = 3 ∨ j = 4 ∨ j = 5 by omega) with rfl | rfl | rfl | rfl | rfl | rfl
  · exact h0.2.1 z0 hw
  · exact h1.2.1 z1 hw
  · exact h2.2.1 z2 hw
  · exact h3.2.1 z3 hw
  · exact h4.2.1 z4 hw
  · exact h5.2.1 z5 hw
/-- a word or a bracket waits -/
theorem vr_opens {x : Int32} (hN : 1048576 ≤ N) (hc : c = 220 ∨ c = 232) (hb : RBs σ) (hG : RX σ.1 tx n i) (hr : RR σ c M s W) (hx : 50 ≤ x.toInt) (hW : W.length ≤ 30) (h6 : opn W ≤ 6) : Pt (f_X12_opens N 218 x σ) (fun r => r.2.1 218 14 = 0 → opn W < 6 ∧ (RBs r.2 ∧ RX r.2.1 tx n (tkE tx n i)) ∧ RR r.2 c M s (x :: W) ∧ r.2.1 218 25 = σ.1 218 25) := by
  rw [f_X12_opens.eq_1]
  refine pt_gI ?_
  rw [hr.1.2]
  refine pt_if (fun q => ?_) (fun q => ?_)
  · refine pt_gC (pt_zb (vr_errs hN hb (by decide)) (fun _ σ1 h1 => ?_))
    have h1 : ¬ σ1.1 218 14 = 0 := h1
    rw [J_X12_opens_14.eq_1]
    exact pt_gC (pt_zbq vr_good (fun v hv => pt_if (fun _ => pt_some (fun z => absurd z h1)) (fun z => absurd (hv.2 z) h1)))
  · have l6 : opn W < 6 := by
      by_cases e : opn W = 6
      · exact absurd (by rw [e]; rfl) q
      · omega
    rw [J_X12_opens_14.eq_1]
    refine pt_gC (pt_zbq vr_good (fun v hv => pt_if (fun z => pt_some (fun y => absurd y (hv.1 z))) (fun z => ?_)))
    refine pt_gC (pt_zb (vr_adv hN hc hb hG hr) (fun _ σ1 h1 => ?_))
    obtain ⟨⟨hb1, hG1⟩, hr1, ⟨e14, e30, e25⟩, hT1⟩ := h1
    have hb1 : RBs σ1 := hb1
    have hG1 : RX σ1.1 tx n (tkE tx n i) := hG1
    have hr1 : RR σ1 c M s W := hr1
    have cs := cmb_o (W := W) hx
    have R1 := hb1.1.1
    have e22 := hr1.1.1.1
    have e24 := hr1.1.2
    refine pt_gI (pt_pIx (fun τ1 a1 b1 c1 => pt_gR (v := 230) (by rw [c1]; exact R1 218 21 rfl) (pt_gI (pt_s14x (fun τ2 a2 b2 c2 => pt_gI (pt_pIx (fun σ2 a3 b3 c3 => pt_some (fun _ => ⟨l6, ?_⟩))))))))
    have fin : ∀ a, a ≠ 218 → a ≠ 230 → σ2.1 a = σ1.1 a := fun a h1 h2 => by rw [b3 a h1, b2 a h2, b1 a h1]
    have f18 : σ2.1 218 = upd (upd (σ1.1 218) 24 (nI (opn W + 1))) 22 (nI (W.length + 1)) := by
      rw [a3, b2 218 (by decide), a1, upd_n (show (22 : Nat) ≠ 24 by decide), e22, e24, show (1 : Int32) = nI 1 from rfl, nI_plus, nI_plus]
    have f30 : σ2.1 230 = upd (σ1.1 230) W.length x := by rw [b3 230 (by decide), a2, b1 230 (by decide), a1, upd_n (show (22 : Nat) ≠ 24 by decide), e22, iN (by omega)]
    have f2 : σ2.2 = σ1.2 := by rw [c3, c2, c1]
    have f18j : ∀ j, j ≠ 22 → j ≠ 24 → σ2.1 218 j = σ1.1 218 j := fun j h1 h2 => by rw [f18, upd_n h1, upd_n h2]
    have ZB2 : ZB σ2.1 := fun a ha j => by
      by_cases a1 : a = 218
      · rw [a1] at ha; exact absurd ha (by decide)
      · by_cases a2 : a = 230
        · rw [a2] at ha; exact absurd ha (by decide)
        · rw [fin a a1 a2]; exact hb1.2.2 a ha j
    have c1 : c ≠ 218 ∧ c ≠ 230 := by rcases hc with rfl | rfl <;> decide
    refine ⟨⟨⟨⟨by rw [f2]; exact R1, ?_⟩, by rw [fin 224 (by decide) (by decide)]; exact hb1.2.1, ZB2⟩, ?_⟩, ⟨⟨⟨?_, ?_, ?_⟩, ?_⟩, ⟨?_, ?_⟩, ?_, ?_⟩, ?_⟩
    · have K := hb1.1.2
      unfold TOK at K ⊢
      rw [f18j 9 (by decide) (by decide), f18j 10 (by decide) (by decide), f18j 11 (by decide) (by decide), f18j 12 (by decide) (by decide), fin 224 (by decide) (by decide)]; exact K
    · unfold RX TKS at hG1 ⊢
      rw [f18j 9 (by decide) (by decide), f18j 10 (by decide) (by decide), f18j 11 (by decide) (by decide), f18j 12 (by decide) (by decide), f18j 13 (by decide) (by decide), fin 224 (by decide) (by decide)]; exact hG1
    · rw [f18, upd_s]; rfl
    · rw [f30, upd_s]
    · rw [f30]
      exact WLl_c (fun j hj => upd_n (by omega)) hr1.1.1.2
    · rw [f18, upd_n (by decide), upd_s, cs.2]
    · rw [f18j 23 (by decide) (by decide)]; exact hr1.2.1.1
    · rw [fin 226 (by decide) (by decide)]; exact hr1.2.1.2
    · rw [fin c c1.1 c1.2]; exact hr1.2.2.1
    · rw [f18j 20 (by decide) (by decide)]; exact hr1.2.2.2
    · rw [f18j 25 (by decide) (by decide)]; exact e25
/-- rows of the pile, its number -/
def FP (σ τ : zS) : Prop := τ.2 = σ.2 ∧ (∀ a, a ∉ [218, 226] → τ.1 a = σ.1 a) ∧ ∀ j, j ≠ 23 → τ.1 218 j = σ.1 218 j
theorem FP.S (h : FP σ τ) : FS σ τ := ⟨h.1, fun a ha => h.2.1 a (fun z => ha (by simp only [List.mem_cons, List.not_mem_nil, or_false] at z ⊢; omega)), fun j hj => h.2.2 j (by omega)⟩
/-- an empty family is piled -/
theorem vr_pushesEmpty {h : Nat} (hN : 1048576 ≤ N) (hb : RBs σ) (e : σ.1 218 23 = nI h) (hh : h ≤ 17) : Pt (f_X12_pushesEmpty N 218 σ) (fun r => (RBs r.2 ∧ FP σ r.2) ∧ r.2.1 218 23 = nI (h + 1) ∧ (∀ u, u < 1024 → r.2.1 226 (1024 * h + u) = 0) ∧ ∀ j, j < 1024 * h → r.2.1 226 j = σ.1 226 j) := by
  have hR := hb.1.1
  refine pt_w (pt_and (pt_ok (s_X12_pushesEmpty hN hR hb.1.2 hb.2.1 hb.2.2 (by rw [e, nI_toInt (by omega)]; omega))) (P := fun r : Unit × zS => FP σ r.2 ∧ r.2.1 218 23 = nI (h + 1) ∧ (∀ u, u < 1024 → r.2.1 226 (1024 * h + u) = 0) ∧ ∀ j, j < 1024 * h → r.2.1 226 j = σ.1 226 j) ?_) (fun r q => ⟨⟨rb218 hb q.1.1 (by decide) q.1.2.1.1 q.1.2.1.2.1, q.2.1⟩, q.2.2⟩)
  rw [f_X12_pushesEmpty.eq_1]
  refine pt_lp (fun y : Int32 × zS => ∃ l, (y.1 = nI l ∧ l ≤ 1024) ∧ FG [226] σ y.2 ∧ (∀ u, u < l → y.2.1 226 (1024 * h + u) = 0) ∧ ∀ j, j < 1024 * h → y.2.1 226 j = σ.1 226 j) (fun again y hI ih => ?_) N _ ⟨0, ⟨rfl, Nat.zero_le _⟩, FG.rf, fun u hu => absurd hu (Nat.not_lt_zero _), fun _ _ => rfl⟩
  obtain ⟨x2, τ⟩ := y
  obtain ⟨l, ⟨ex, hl⟩, hf, hu, ho⟩ := hI
  have ex : x2 = nI l := ex
  subst ex
  have hf : FG [226] σ τ := hf
  have hu : ∀ u, u < l → τ.1 226 (1024 * h + u) = 0 := hu
  have ho : ∀ j, j < 1024 * h → τ.1 226 j = σ.1 226 j := ho
  have R9 := hf.R hR
  have e18 : τ.1 218 = σ.1 218 := hf.2 218 (by decide)
  rw [F_X12_pushesEmpty_2.eq_1]
  refine pt_if (fun q => pt_gI (pt_pI (pt_some ?_))) (fun q => ?_)
  · have q : nI 1024 ≤ nI l := q
    rw [nlt (by omega) (by omega)] at q
    rw [e18, e, show (1 : Int32) = nI 1 from rfl, nI_plus]
    refine ⟨⟨hf.1, fun a ha => ?_, fun j hj => ?_⟩, ?_, fun u h' => ?_, fun j hj => ?_⟩
    · simp only [List.mem_cons, List.not_mem_nil, or_false, not_or] at ha
      show (zI τ 218 _).1 a = _
      rw [zI_n ha.1, hf.2 a (by simp only [List.mem_cons, List.not_mem_nil, or_false]; omega)]
    · show (zI τ 218 _).1 218 j = _
      rw [zI_s, upd_n hj]
    · show (zI τ 218 _).1 218 23 = _
      rw [zI_s, upd_s]
    · show (zI τ 218 _).1 226 _ = _
      rw [zI_n (by decide)]; exact hu u (by omega)
    · show (zI τ 218 _).1 226 j = _
      rw [zI_n (by decide)]; exact ho j hj
  · have q : ¬ nI 1024 ≤ nI l := q
    rw [nlt (by omega) (by omega)] at q
    have e9 : ((1024 : Int32) * nI h + nI l).toInt.toNat = 1024 * h + l := by
      rw [n1024, nI_plus, nI_toInt (by omega)]; omega
    refine pt_gR (v := 226) (R9 218 16 rfl) (pt_gI ?_)
    rw [e18, e]
    refine pt_s16 ?_
    rw [e9, nI_s1 (by omega), nz1.1]
    refine ih (nI (l + 1), _) ⟨l + 1, ⟨rfl, by omega⟩, hf.u (by simp), fun u h => ?_, fun j hj => ?_⟩
    · show (zI τ 226 _).1 226 _ = _
      rw [zI_s, upd_i]
      by_cases d : u = l
      · rw [if_pos (by omega)]
      · rw [if_neg (by omega)]; exact hu u (by omega)
    · show (zI τ 226 _).1 226 j = _
      rw [zI_s, upd_n (by omega)]; exact ho j hj
/-- behind a whole part -/
theorem vr_p192 (hN : 1048576 ≤ N) (hk : k ≤ 10) (hc : c = 220 ∨ c = 232) (hb : RBs σ) (h0 : RG (2 ^ k) s0) (z0 : s0.2.length = 0) (H : HS (2 ^ k) W O) (hG : RX σ.1 tx n i) (hr : RR σ c (2 ^ k) (evs (2 ^ k) O s0) W) : Pt (J_X12_readsPart_192 N 218 σ) (fun r => r.2.1 218 14 = 0 → ¬ r.1 = 0 ∧ (RBs r.2 ∧ RX r.2.1 tx n i) ∧ RR r.2 c (2 ^ k) (evs (2 ^ k) (setl 3 W O).2 s0) (setl 3 W O).1 ∧ r.2.1 218 25 = σ.1 218 25) := by
  rw [J_X12_readsPart_192.eq_1]
  refine pt_gC (pt_zbq vr_good (fun v hv => pt_if (fun z => pt_rZ (fun y => absurd y (hv.1 z))) (fun z => ?_)))
  refine pt_gC (pt_zb (vr_settlesTo hN hk (by decide) hb.1.1 hb.2.2 hc h0 z0 H hr) (fun _ σ1 h1 => pt_rZ (fun _ => ⟨fun z => absurd (show (1 : Int32) = 0 from z) (by decide), ⟨?_, ?_⟩, h1.1.1, ?_⟩)))
  · exact hb.f h1.2.1 h1.1.2
  · exact h1.2.1.X hG
  · exact h1.2.1.2.2 25 (by omega)
theorem bad192 (hg : ¬ σ.1 218 14 = 0) {P : Int32 × zS → Prop} : Pt (J_X12_readsPart_192 N 218 σ) (fun r => r.2.1 218 14 = 0 → P r) := by
  rw [J_X12_readsPart_192.eq_1]
  exact pt_gC (pt_zbq vr_good (fun v hv => pt_if (fun z => pt_rZ (fun y => absurd y (hv.1 z))) (fun z => absurd (hv.2 z) hg)))
/-- one set more on the top -/
theorem vr_readsSet {h : Nat} (hN : 1048576 ≤ N) (hk : k ≤ 10) (hb : RBs σ) (hg : σ.1 218 14 = 0) (hG : RX σ.1 tx n i) (e23 : σ.1 218 23 = nI (h + 1)) (hh : h ≤ 17) : Pt (f_X12_readsSet N 218 (nI k) σ) (fun r => r.2.1 218 14 = 0 → (mOK tx n i (nI k) ∧ (RBs r.2 ∧ RX r.2.1 tx n (tkE tx n i))) ∧ (∀ a, a ∉ [218, 226] → r.2.1 a = σ.1 a) ∧ (r.2.1 218 20 = σ.1 218 20 ∧ r.2.1 218 22 = σ.1 218 22 ∧ r.2.1 218 23 = σ.1 218 23 ∧ r.2.1 218 24 = σ.1 218 24 ∧ r.2.1 218 25 = σ.1 218 25) ∧ r.2.1 226 = upd (σ.1 226) (1024 * h + (mv tx n i (nI k)).toInt.toNat) 1) := by
  have kn : 0 ≤ (nI k).toInt ∧ (nI k).toInt ≤ 10 := by rw [nI_toInt (by omega)]; omega
  have hR := hb.1.1
  refine pt_w (pt_and (pt_ok (s_X12_readsSet_r hN hR hb.1.2 hb.2.1 hG hg hb.2.2 kn (by rw [e23, nI_toInt (by omega)]; omega))) (P := fun r : Unit × zS => r.2.1 218 14 = 0 → r.2.1 226 = upd (σ.1 226) (1024 * h + (mv tx n i (nI k)).toInt.toNat) 1) ?_) (fun r q z => ?_)
  · have e12 : σ.1 218 12 = tkK tx n i := hG.2.2.1
    have put : ∀ (v : Int32) (τ : zS), (τ.1 218 14 = 0 → v = mv tx n i (nI k) ∧ mOK tx n i (nI k)) → RF τ.2.2 → τ.1 218 23 = σ.1 218 23 → τ.1 226 = σ.1 226 → Pt (J_X12_readsSet_53 N 218 v τ) (fun r => r.2.1 218 14 = 0 → r.2.1 226 = upd (σ.1 226) (1024 * h + (mv tx n i (nI k)).toInt.toNat) 1) := fun v τ hv R9 t23 t26 => by
      rw [J_X12_readsSet_53.eq_1]
      refine pt_gC (pt_zbq vr_good (fun w hw => pt_if (fun z => pt_some (fun y => absurd y (hw.1 z))) (fun z => ?_)))
      obtain ⟨ev, ok⟩ := hv (hw.2 z)
      obtain ⟨b, eb, lb⟩ := mv_in hk ok
      have p2 := p2le hk
      refine pt_gR (v := 226) (R9 218 16 rfl) (pt_gI (pt_s16 (pt_some (fun _ => ?_))))
      show (zI τ 226 _).1 226 = _
      rw [zI_s, t26, t23, e23, ev, eb, show (1 : Int32) = nI 1 from rfl, nI_m (by omega), show h + 1 - 1 = h by omega, n1024, nI_plus, nI_toInt (by omega), iN (by omega), show nI 1 = 1 from rfl, nz1.2]
      rfl
    rw [f_X12_readsSet.eq_1]
    refine pt_gI ?_
    rw [e12]
    refine pt_if (fun q2 => ?_) (fun q2 => pt_gI ?_)
    · refine pt_gC (pt_zb (pt_ok (s_X12_number_r hN hR hb.1.2 hb.2.1 hG hg)) (fun v σ1 h1 => ?_))
      obtain ⟨hT, ⟨_, _, g1, b1⟩, e7, e9, e20, e22, e23', e24, e25⟩ := h1
      have hT : Tr [218] σ σ1 := hT
      refine put v σ1 (fun z => ?_) (hR.tr hT) e23' (hT.2 226 (by decide))
      obtain ⟨⟨_, ok⟩, ev, _⟩ := g1 z
      refine ⟨?_, Or.inl ok⟩
      have hz := ok.2
      simp only [Int32.reduceToInt] at hz
      unfold mv
      rw [if_neg (by rw [q2]; decide)]
      apply Int32.toInt_inj.mp
      have ev : v.toInt = _ := ev
      rw [ev]
      simp only [Int32.reduceToInt]
      omega
    · rw [e12]
      refine pt_if (fun q1 => ?_) (fun q1 => pt_gC (pt_zb (vr_errs hN hb (by decide)) (fun _ σ1 h1 => ?_)))
      · have h12 : σ.1 218 12 = 1 := e12.trans q1
        refine pt_gC (pt_zb (pt_ok (s_X12_wordSet_r hN hR hb.1.2 hb.2.1 hG hg h12 kn)) (fun v σ1 h1 => ?_))
        obtain ⟨hT, ⟨hK1, _, g1, b1⟩, e7, e9, e10, e11, e12', e13, e20, e22, e23', e24, e25⟩ := h1
        have hT : Tr [218] σ σ1 := hT
        have R1 := hR.tr hT
        refine pt_gC (pt_zbq vr_good (fun w hw => pt_if (fun z => ?_) (fun z => ?_)))
        · exact put v σ1 (fun y => absurd y (hw.1 z)) R1 e23' (hT.2 226 (by decide))
        · have e14 := hw.2 z
          have ws := g1 e14
          have hX1 : RX σ1.1 tx n i := by
            unfold RX TKS at hG ⊢
            rw [hT.2 224 (by decide), e9, e10, e11, e12', e13]; exact hG
          have hb1 : RBs σ1 := rb218 hb hT (by decide) hK1 (zb218 hb hT)
          have K := hb1.1.2.1
          refine pt_gC (pt_zb (pt_ok (s_X12_advance_r hN R1 (by omega) hb1.2.1 hX1)) (fun _ σ2 h2 => ?_))
          obtain ⟨hT2, _, f7, f9, f14, f15, f20, f22, f23, f24, f25⟩ := h2
          have hT2 : Tr [218] σ1 σ2 := hT2
          refine put v σ2 (fun y => ⟨?_, Or.inr ⟨q1, by rw [ws]; rfl⟩⟩) (R1.tr hT2) (f23.trans e23') ((hT2.2 226 (by decide)).trans (hT.2 226 (by decide)))
          unfold mv
          rw [if_pos q1, ws]; rfl
      · have h1 : ¬ σ1.1 218 14 = 0 := h1
        rw [J_X12_readsSet_53.eq_1]
        exact pt_gC (pt_zbq vr_good (fun w hw => pt_if (fun z => pt_some (fun y => absurd y (hw.1 z))) (fun z => absurd (hw.2 z) h1)))
  · obtain ⟨⟨hT, ⟨hK1, _, g1, b1, hB1⟩, e7, e9, e20, e22, e23', e24, e25⟩, u⟩ := q
    have g := g1 z
    exact ⟨⟨g.1.2, rb218 hb hT (by decide) hK1 hB1, g.2⟩, fun a ha => hT.2 a ha, ⟨e20, e22, e23', e24, e25⟩, u z⟩
end RSW

/-! ===== the reference reckons a sum while it reads ===== -/
section RSV
variable {N M k n i : Nat} {σ τ υ : zS} {tx : Nat → Int32} {m : Int32} {W : List Int32} {O : List zOp} {s s0 : zEv} {c : Nat}
def WLl (g : Nat → Int32) : List Int32 → Prop
  | [] => True
  | w :: W => g W.length = w ∧ WLl g W
def PVl (r : Nat → Int32) : List zFm → Prop
  | [] => True
  | x :: S => (∀ u, u < 1024 → rb r (1024 * S.length) u = x u) ∧ PVl r S
theorem WLl_c {g g' : Nat → Int32} : ∀ {W : List Int32}, (∀ j, j < W.length → g' j = g j) → WLl g W → WLl g' W
  | [], _, _ => trivial
  | w :: W, h, hc => ⟨(h W.length (by rw [List.length_cons]; omega)).trans hc.1, WLl_c (fun j hj => h j (by rw [List.length_cons]; omega)) hc.2⟩
theorem PVl_c {r r' : Nat → Int32} : ∀ {S : List zFm}, (∀ j, j < 1024 * S.length → r' j = r j) → PVl r S → PVl r' S
  | [], _, _ => trivial
  | x :: S, h, hc => by
    refine ⟨fun u hu => ?_, PVl_c (fun j hj => h j (by rw [List.length_cons]; omega)) hc.2⟩
    have e : rb r' (1024 * S.length) u = rb r (1024 * S.length) u := by
      unfold rb
      rw [h _ (by rw [List.length_cons]; omega)]
    rw [e]; exact hc.1 u hu
/-- what waits, the pile, the registers in row c -/
def RR (τ : zS) (c M : Nat) (s : zEv) (W : List Int32) : Prop := ((τ.1 218 22 = nI W.length ∧ WLl (τ.1 230) W) ∧ τ.1 218 24 = nI (opn W)) ∧ (τ.1 218 23 = nI s.2.length ∧ PVl (τ.1 226) s.2) ∧ (∀ p, p < 10 → ∀ u, u < 1024 → rb (τ.1 c) (1024 * p) u = s.1 p u) ∧ τ.1 218 20 = nI M
/-- rows of the sum, and three numbers -/
def FS (σ τ : zS) : Prop := τ.2 = σ.2 ∧ (∀ a, a ∉ [218, 226, 227, 228, 229, 230] → τ.1 a = σ.1 a) ∧ ∀ j, (j < 22 ∨ 24 < j) → τ.1 218 j = σ.1 218 j
theorem FS.rf : FS σ σ := ⟨rfl, fun _ _ => rfl, fun _ _ => rfl⟩
theorem FS.tr (h : FS σ τ) (h2 : FS τ υ) : FS σ υ := ⟨h2.1.trans h.1, fun a ha => (h2.2.1 a ha).trans (h.2.1 a ha), fun j hj => (h2.2.2 j hj).trans (h.2.2 j hj)⟩
theorem FS.R (h : FS σ τ) (hR : RF σ.2.2) : RF τ.2.2 := by rw [h.1]; exact hR
theorem FS.p {j : Nat} {v : Int32} (hj : 22 ≤ j ∧ j ≤ 24) (h : FS σ τ) : FS σ (zI τ 218 (upd (τ.1 218) j v)) := ⟨h.1, fun a ha => (zI_n (fun e => ha (by rw [e]; decide))).trans (h.2.1 a ha), fun l hl => by rw [zI_s, upd_n (by omega)]; exact h.2.2 l hl⟩
theorem FS.g {L : List Nat} (hL : ∀ a ∈ L, a ∈ [226, 227, 228, 229, 230]) (h : FS σ τ) (h2 : FG L τ υ) : FS σ υ := by
  refine h.tr ⟨h2.1, fun a ha => h2.2 a (fun z => ha (List.mem_cons_of_mem _ (hL a z))), fun j _ => ?_⟩
  rw [h2.2 218 (fun z => absurd (hL _ z) (by decide))]
theorem FS.K (h : FS σ τ) (hK : TOK σ.1) : TOK τ.1 := by
  unfold TOK at hK ⊢
  rw [h.2.2 9 (by omega), h.2.2 10 (by omega), h.2.2 11 (by omega), h.2.2 12 (by omega), h.2.1 224 (by decide)]; exact hK
theorem FS.X (h : FS σ τ) (hG : RX σ.1 tx n i) : RX τ.1 tx n i := by
  unfold RX TKS at hG ⊢
  rw [h.2.2 9 (by omega), h.2.2 10 (by omega), h.2.2 11 (by omega), h.2.2 12 (by omega), h.2.2 13 (by omega), h.2.1 224 (by decide)]; exact hG
/-- one of the pile's places is written -/
theorem vr_copiesMade {h : Nat} {x : zFm} (hN : 1048576 ≤ N) (hR : RF σ.2.2) (hB : ZB σ.1) (hh : h < 18) (hx : ∀ u, u < 1024 → rb (σ.1 227) 0 u = x u) : Pt (f_X12_copiesMade N 218 (nI h) σ) (fun r => ZB r.2.1 ∧ FG [226] σ r.2 ∧ (∀ u, u < 1024 → rb (r.2.1 226) (1024 * h) u = x u) ∧ ∀ j, j < 1024 * h → r.2.1 226 j = σ.1 226 j) := by
  refine pt_w (pt_and (pt_ok (s_X12_copiesMade hN hR hB (by rw [nI_toInt (by omega)]; omega))) (P := fun r : Unit × zS => FG [226] σ r.2 ∧ (∀ u, u < 1024 → r.2.1 226 (1024 * h + u) = σ.1 227 u) ∧ ∀ j, j < 1024 * h → r.2.1 226 j = σ.1 226 j) ?_) (fun r h => ⟨h.1.2, h.2.1, fun u hu => ?_, h.2.2.2⟩)
  · rw [f_X12_copiesMade.eq_1]
    refine pt_lp (fun y : Int32 × zS => ∃ l, (y.1 = nI l ∧ l ≤ 1024) ∧ FG [226] σ y.2 ∧ (∀ u, u < l → y.2.1 226 (1024 * h + u) = σ.1 227 u) ∧ ∀ j, j < 1024 * h → y.2.1 226 j = σ.1 226 j) (fun again y hI ih => ?_) N _ ⟨0, ⟨rfl, Nat.zero_le _⟩, FG.rf, fun u hu => absurd hu (Nat.not_lt_zero _), fun _ _ => rfl⟩
    obtain ⟨x2, τ⟩ := y
    obtain ⟨l, ⟨e, hl⟩, hf, hu, ho⟩ := hI
    have e : x2 = nI l := e
    subst e
    have hf : FG [226] σ τ := hf
    have hu : ∀ u, u < l → τ.1 226 (1024 * h + u) = σ.1 227 u := hu
    have ho : ∀ j, j < 1024 * h → τ.1 226 j = σ.1 226 j := ho
    have R9 := hf.R hR
    rw [F_X12_copiesMade_2.eq_1]
    refine pt_if (fun q => pt_some ⟨hf, fun u h => hu u ?_, ho⟩) (fun q => ?_)
    · have q : nI 1024 ≤ nI l := q
      rw [nlt (by omega) (by omega)] at q; omega
    · have q : ¬ nI 1024 ≤ nI l := q
      rw [nlt (by omega) (by omega)] at q
      have e : ((1024 : Int32) * nI h + nI l).toInt.toNat = 1024 * h + l := by
        rw [n1024, nI_plus, nI_toInt (by omega)]; omega
      refine pt_gR (v := 226) (R9 218 16 rfl) (pt_gR (v := 227) (R9 218 17 rfl) (pt_aI (pt_s16 ?_)))
      rw [e, iN (by omega), nI_s1 (by omega), hf.2 227 (by decide), nrz (hB 227 rfl l)]
      refine ih (nI (l + 1), _) ⟨l + 1, ⟨rfl, by omega⟩, hf.u (by simp), fun u h => ?_, fun j hj => ?_⟩
      · show (zI τ 226 _).1 226 _ = _
        rw [zI_s, upd_i]
        by_cases d : u = l
        · rw [if_pos (by omega), d]
        · rw [if_neg (by omega)]; exact hu u (by omega)
      · show (zI τ 226 _).1 226 j = _
        rw [zI_s, upd_n (by omega)]; exact ho j hj
  · rw [← hx u hu]
    unfold rb
    rw [h.2.2.1 u hu, Nat.zero_add]
theorem rank_r {x : Int32} : Px (f_X12_rank N x σ) σ (fun v => v = rkI x) := pt_ok x_X12_rank
theorem nI_m {a b : Nat} (h : b ≤ a) : nI a - nI b = nI (a - b) := nI_sub (by omega)
/-- one that waits is settled -/
theorem vr_settles {w : Int32} (hN : 1048576 ≤ N) (hR : RF σ.2.2) (hB : ZB σ.1) (hM : M ≤ 1024) (hc : c = 220 ∨ c = 232) (H : RR σ c M s (w :: W)) (hw : (w.toInt < 50 ∧ 2 ≤ s.2.length) ∨ (50 ≤ w.toInt ∧ ¬ w = 100 ∧ 1 ≤ s.2.length)) (h17 : s.2.length ≤ 17) (hW : W.length ≤ 30) : Pt (f_X12_settles N 218 σ) (fun r => (RR r.2 c M (ev1 M (opW w) s) W ∧ ZB r.2.1) ∧ FS σ r.2) := by
  obtain ⟨⟨⟨e22, hwl⟩, e24⟩, ⟨e23, hp⟩, hr, e20⟩ := H
  obtain ⟨G, S⟩ := s
  have e23 : σ.1 218 23 = nI S.length := e23
  have hp : PVl (σ.1 226) S := hp
  have h17 : S.length ≤ 17 := h17
  have hr : ∀ p, p < 10 → ∀ u, u < 1024 → rb (σ.1 c) (1024 * p) u = G p u := hr
  have e22 : σ.1 218 22 = nI (W.length + 1) := e22
  have cn : c ∉ [218, 226, 227, 228, 229, 230] := by rcases hc with rfl | rfl <;> decide
  rw [f_X12_settles.eq_1]
  refine pt_gI (pt_pI ?_)
  rw [e22, show (1 : Int32) = nI 1 from rfl, nI_m (by omega), show W.length + 1 - 1 = W.length by omega]
  have F1 : FS σ (zI σ 218 (upd (σ.1 218) 22 (nI W.length))) := FS.rf.p (by omega)
  have B1 : ZB (zI σ 218 (upd (σ.1 218) 22 (nI W.length))).1 := ZB_n (by decide) hB
  have a22 : (zI σ 218 (upd (σ.1 218) 22 (nI W.length))).1 218 22 = nI W.length := by rw [zI_s, upd_s]
  have a23 : (zI σ 218 (upd (σ.1 218) 22 (nI W.length))).1 218 23 = nI S.length := by rw [zI_s, upd_n (by decide)]; exact e23
  have a24 : (zI σ 218 (upd (σ.1 218) 22 (nI W.length))).1 218 24 = nI (opn (w :: W)) := by rw [zI_s, upd_n (by decide)]; exact e24
  have a30 : (zI σ 218 (upd (σ.1 218) 22 (nI W.length))).1 230 = σ.1 230 := zI_n (by decide)
  have a26 : (zI σ 218 (upd (σ.1 218) 22 (nI W.length))).1 226 = σ.1 226 := zI_n (by decide)
  generalize zI σ 218 (upd (σ.1 218) 22 (nI W.length)) = σ1 at F1 B1 a22 a23 a24 a30 a26 ⊢
  have R1 := F1.R hR
  have a20 : σ1.1 218 20 = nI M := (F1.2.2 20 (by omega)).trans e20
  refine pt_gR (v := 230) (R1 218 21 rfl) (pt_gI (pt_aI ?_))
  rw [a22, iN (by omega), a30, hwl.1]
  rcases hw with ⟨l50, h2⟩ | ⟨g50, n100, h1⟩
  · have h2 : 2 ≤ S.length := h2
    refine pt_if (fun _ => ?_) (fun q => absurd (lt50.1.mpr l50) q)
    match S, h2, e23, hp, h17, a23 with
    | y :: x :: S, _, _, hp, h17, a23 =>
      have a23 : σ1.1 218 23 = nI (S.length + 2) := a23
      have h17 : S.length + 2 ≤ 17 := h17
      rw [opW_s l50, ev_4]
      have cs := cmb_s (W := W) l50
      refine pt_gR (v := 226) (R1 218 16 rfl) (pt_gI (pt_gR (v := 226) (R1 218 16 rfl) (pt_gI ?_)))
      rw [a23, show (2 : Int32) = nI 2 from rfl, nI_m (by omega), nI_m (by omega), show S.length + 2 - 2 = S.length by omega, show S.length + 2 - 1 = S.length + 1 by omega, n1024, n1024]
      refine pt_gC (pt_zb (pt_and (pt_ok (s_X12_gives_226_226 hN R1 B1 (by rw [a20, nI_toInt (by omega)]; omega) (by rw [nI_toInt (by omega)]; omega) (by rw [nI_toInt (by omega)]; omega))) (vr_gives R1 (by omega) (by omega) a20 hM (by decide) (by decide))) (fun _ σ2 h => ?_))
      obtain ⟨⟨_, B2⟩, f2, u2⟩ := h
      have B2 : ZB σ2.1 := B2
      have f2 : FG [227, 228, 229] σ1 σ2 := f2
      have F2 := F1.g (by decide) f2
      have e218 : σ2.1 218 = σ1.1 218 := f2.2 218 (by decide)
      have e26 : σ2.1 226 = σ.1 226 := (f2.2 226 (by decide)).trans a26
      refine pt_gI (pt_pI (pt_gI ?_))
      rw [e218, a23, nI_m (by omega), show S.length + 2 - 1 = S.length + 1 by omega]
      have F3 : FS σ (zI σ2 218 (upd (σ1.1 218) 23 (nI (S.length + 1)))) := by rw [← e218]; exact F2.p (by omega)
      have B3 : ZB (zI σ2 218 (upd (σ1.1 218) 23 (nI (S.length + 1)))).1 := ZB_n (by decide) B2
      have b23 : (zI σ2 218 (upd (σ1.1 218) 23 (nI (S.length + 1)))).1 218 23 = nI (S.length + 1) := by rw [zI_s, upd_s]
      have b22 : (zI σ2 218 (upd (σ1.1 218) 23 (nI (S.length + 1)))).1 218 22 = nI W.length := by rw [zI_s, upd_n (by decide)]; exact a22
      have b24 : (zI σ2 218 (upd (σ1.1 218) 23 (nI (S.length + 1)))).1 218 24 = nI (opn (w :: W)) := by rw [zI_s, upd_n (by decide)]; exact a24
      have b27 : (zI σ2 218 (upd (σ1.1 218) 23 (nI (S.length + 1)))).1 227 = σ2.1 227 := zI_n (by decide)
      have b26 : (zI σ2 218 (upd (σ1.1 218) 23 (nI (S.length + 1)))).1 226 = σ.1 226 := (zI_n (by decide)).trans e26
      have b30 : (zI σ2 218 (upd (σ1.1 218) 23 (nI (S.length + 1)))).1 230 = σ.1 230 := (zI_n (by decide)).trans ((f2.2 230 (by decide)).trans a30)
      generalize zI σ2 218 (upd (σ1.1 218) 23 (nI (S.length + 1))) = σ3 at F3 B3 b22 b23 b24 b26 b27 b30 ⊢
      rw [b23, nI_m (by omega), show S.length + 1 - 1 = S.length by omega]
      have X : ∀ u, u < 1024 → rb (σ3.1 227) 0 u = bl (CS w x y M) u := fun u hu => by
        rw [b27, Bool.eq_iff_iff, bl_t]
        have bx : ∀ u, u < 1024 → rb (σ1.1 226) (1024 * S.length) u = x u := fun u hu => by rw [a26]; exact hp.2.1 u hu
        have by' : ∀ u, u < 1024 → rb (σ1.1 226) (1024 * (S.length + 1)) u = y u := fun u hu => by rw [a26]; exact hp.1 u hu
        exact (u2 u hu).trans ⟨CS_c bx by' hM hu, CS_c (fun k q => (bx k q).symm) (fun k q => (by' k q).symm) hM hu⟩
      refine pt_gC (pt_zb (vr_copiesMade hN (F3.R hR) B3 (by omega) X) (fun _ σ4 h4 => pt_some ?_))
      obtain ⟨B4, f4, x4, o4⟩ := h4
      have f4 : FG [226] σ3 σ4 := f4
      have F4 := F3.g (by decide) f4
      have e4 : σ4.1 218 = σ3.1 218 := f4.2 218 (by decide)
      refine ⟨⟨⟨⟨⟨by show σ4.1 218 22 = _; rw [e4]; exact b22, ?_⟩, ?_⟩, ⟨by show σ4.1 218 23 = nI (S.length + 1); rw [e4]; exact b23, x4, ?_⟩, ?_, ?_⟩, B4⟩, F4⟩
      · show WLl (σ4.1 230) W
        rw [f4.2 230 (by decide), b30]; exact hwl.2
      · show σ4.1 218 24 = _
        rw [e4, b24, cs.2]
      · refine PVl_c (fun j hj => ?_) hp.2.2
        show σ4.1 226 j = _
        rw [o4 j hj, b26]
      · intro p hp' u hu
        show rb (σ4.1 c) _ u = _
        rw [F4.2.1 c cn]; exact hr p hp' u hu
      · show σ4.1 218 20 = _
        rw [F4.2.2 20 (by omega)]; exact e20
  · have h1 : 1 ≤ S.length := h1
    refine pt_if (fun q => absurd (lt50.1.mp q) (by omega)) (fun _ => ?_)
    cases S with
    | nil => exact absurd h1 (by decide)
    | cons x S =>
      have a23 : σ1.1 218 23 = nI (S.length + 1) := a23
      have h17 : S.length + 1 ≤ 17 := h17
      rw [opW_o g50, ev_5]
      have cs := cmb_o (W := W) g50
      refine pt_gR (v := 226) (R1 218 16 rfl) (pt_gI ?_)
      rw [a23, nI_m (by omega), show S.length + 1 - 1 = S.length by omega, n1024]
      refine pt_gC (pt_zb (pt_and (pt_ok (s_X12_turns_226 hN R1 B1 (by rw [a20, nI_toInt (by omega)]; omega) (by rw [nI_toInt (by omega)]; omega))) (vr_turns R1 (by omega) a20 hM (by decide))) (fun _ σ2 h => ?_))
      obtain ⟨⟨_, B2⟩, f2, u2⟩ := h
      have B2 : ZB σ2.1 := B2
      have f2 : FG [227, 228] σ1 σ2 := f2
      have F2 := F1.g (by decide) f2
      have R2 := F2.R hR
      have e218 : σ2.1 218 = σ1.1 218 := f2.2 218 (by decide)
      have e26 : σ2.1 226 = σ.1 226 := (f2.2 226 (by decide)).trans a26
      have X : ∀ u, u < 1024 → rb (σ2.1 227) 0 u = bl (RS (w - 50) x M) u := fun u hu => by
        rw [Bool.eq_iff_iff, bl_t]
        have bx : ∀ u, u < 1024 → rb (σ1.1 226) (1024 * S.length) u = x u := fun u hu => by rw [a26]; exact hp.1 u hu
        exact (u2 u hu).trans ⟨RS_c bx hM hu, RS_c (fun k q => (bx k q).symm) hM hu⟩
      refine pt_gI ?_
      rw [e218, a23, nI_m (by omega), show S.length + 1 - 1 = S.length by omega]
      refine pt_gC (pt_zb (vr_copiesMade hN R2 B2 (by omega) X) (fun _ σ4 h4 => ?_))
      obtain ⟨B4, f4, x4, o4⟩ := h4
      have f4 : FG [226] σ2 σ4 := f4
      have B4 : ZB σ4.1 := B4
      have F4 := F2.g (by decide) f4
      have e4 : σ4.1 218 = σ1.1 218 := (f4.2 218 (by decide)).trans e218
      refine pt_gI (pt_pI (pt_some ?_))
      rw [e4, a24, nI_m (by rw [cs.2]; omega), cs.2, show opn W + 1 - 1 = opn W by omega]
      have F5 : FS σ (zI σ4 218 (upd (σ1.1 218) 24 (nI (opn W)))) := by rw [← e4]; exact F4.p (by omega)
      have n5 : ∀ a, a ≠ 218 → (zI σ4 218 (upd (σ1.1 218) 24 (nI (opn W)))).1 a = σ4.1 a := fun a ha => zI_n ha
      refine ⟨⟨⟨⟨⟨?_, ?_⟩, ?_⟩, ⟨?_, fun u hu => ?_, ?_⟩, ?_, ?_⟩, ZB_n (by decide) B4⟩, F5⟩
      · show (zI σ4 218 _).1 218 22 = _
        rw [zI_s, upd_n (by decide)]; exact a22
      · show WLl ((zI σ4 218 _).1 230) W
        rw [n5 230 (by decide), f4.2 230 (by decide), f2.2 230 (by decide), a30]; exact hwl.2
      · show (zI σ4 218 _).1 218 24 = _
        rw [zI_s, upd_s]
      · show (zI σ4 218 _).1 218 23 = nI (S.length + 1)
        rw [zI_s, upd_n (by decide)]; exact a23
      · show rb ((zI σ4 218 _).1 226) _ u = _
        rw [n5 226 (by decide)]; exact x4 u hu
      · refine PVl_c (fun j hj => ?_) hp.2
        show (zI σ4 218 _).1 226 j = _
        rw [n5 226 (by decide), o4 j hj, e26]
      · intro p hp' u hu
        show rb ((zI σ4 218 _).1 c) _ u = _
        rw [F5.2.1 c cn]; exact hr p hp' u hu
      · show (zI σ4 218 _).1 218 20 = _
        rw [F5.2.2 20 (by omega)]; exact e20
/-- what waits fits -/
def HS (M : Nat) (W : List Int32) (O : List zOp) : Prop := (vds M O 0 ∧ hts O 0 = cmb W + 1) ∧ Wk W ∧ opn W ≤ 6
theorem len_W : ∀ {W : List Int32}, Wk W → W.length = cmb W + opn W
  | [], _ => rfl
  | w :: W, h => by
    have := len_W h.1
    rcases h.2 with q | q
    · have c := cmb_o (W := W) q.1
      rw [List.length_cons, c.1, c.2]; omega
    · have c := cmb_s (W := W) (show w.toInt < 50 by omega)
      rw [List.length_cons, c.1, c.2]; omega
theorem evs_H : ∀ {O : List zOp} {s : zEv}, RG (2 ^ k) s → vds (2 ^ k) O s.2.length → RG (2 ^ k) (evs (2 ^ k) O s) ∧ (evs (2 ^ k) O s).2.length = hts O s.2.length
  | [], _, h, _ => ⟨h, rfl⟩
  | o :: O, s, h, hv => by
    have g := RG_1 h hv.1
    have r := evs_H (O := O) g.1 (by rw [g.2]; exact hv.2)
    rw [g.2] at r
    exact r
theorem HS_len (hk : k ≤ 10) (h0 : RG (2 ^ k) s0) (z0 : s0.2.length = 0) (H : HS (2 ^ k) W O) : (evs (2 ^ k) O s0).2.length = cmb W + 1 ∧ cmb W ≤ 14 ∧ W.length ≤ 20 := by
  have e := evs_H h0 (by rw [z0]; exact H.1.1)
  rw [z0, H.1.2] at e
  have := h14 H.2.1 H.2.2
  have := len_W H.2.1
  have := H.2.2
  exact ⟨e.2, by omega, by omega⟩
theorem HS_pop {w : Int32} (H : HS M (w :: W) O) (n100 : ¬ w = 100) : HS M W (O ++ [opW w]) := by
  obtain ⟨⟨hv, hh⟩, hW, h6⟩ := H
  by_cases l : w.toInt < 50
  · have c := cmb_s (W := W) l
    rw [c.1] at hh
    rw [c.2] at h6
    exact ⟨⟨vds_1 hv (by rw [opW_s l]; exact Or.inr (Or.inr (Or.inr (Or.inr (Or.inl ⟨rfl, by omega⟩))))), by rw [hts_1, opW_s l, nh_p.2.2.2.2.1]; omega⟩, hW.1, h6⟩
  · have c := cmb_o (W := W) (show 50 ≤ w.toInt by omega)
    rw [c.1] at hh
    rw [c.2] at h6
    exact ⟨⟨vds_1 hv (by rw [opW_o (by omega)]; exact Or.inr (Or.inr (Or.inr (Or.inr (Or.inr (Or.inl ⟨rfl, by omega⟩)))))), by rw [hts_1, opW_o (by omega), nh_p.2.2.2.2.2.1]; omega⟩, hW.1, by omega⟩
theorem vr_settlesTo {r : Int32} (hN : 1048576 ≤ N) (hk : k ≤ 10) (h1 : 1 ≤ r) (hR : RF σ.2.2) (hB : ZB σ.1) (hc : c = 220 ∨ c = 232) (h0 : RG (2 ^ k) s0) (z0 : s0.2.length = 0) (H : HS (2 ^ k) W O) (hr : RR σ c (2 ^ k) (evs (2 ^ k) O s0) W) : Pt (f_X12_settlesTo N 218 r σ) (fun q => (RR q.2 c (2 ^ k) (evs (2 ^ k) (setl r W O).2 s0) (setl r W O).1 ∧ ZB q.2.1) ∧ FS σ q.2 ∧ HS (2 ^ k) (setl r W O).1 (setl r W O).2) := by
  rw [f_X12_settlesTo.eq_1]
  refine pt_lp (fun τ : zS => ∃ (V : List Int32) (Q : List zOp), (RR τ c (2 ^ k) (evs (2 ^ k) Q s0) V ∧ ZB τ.1) ∧ FS σ τ ∧ HS (2 ^ k) V Q ∧ setl r V Q = setl r W O) (fun again τ hI ih => ?_) N _ ⟨W, O, ⟨hr, hB⟩, FS.rf, H, rfl⟩
  obtain ⟨V, Q, ⟨hr, hB⟩, hF, hH, es⟩ := hI
  have L := HS_len hk h0 z0 hH
  have R9 := hF.R hR
  rw [F_X12_settlesTo_0.eq_1]
  refine pt_gI ?_
  rw [hr.1.1.1]
  refine pt_if (fun q => ?_) (fun q => ?_)
  · have q : nI V.length ≤ nI 0 := q
    rw [nlt (by omega) (by omega)] at q
    have : V = [] := List.eq_nil_of_length_eq_zero (by omega)
    subst this
    refine pt_some ?_
    rw [← es]
    exact ⟨⟨hr, hB⟩, hF, hH⟩
  · have q : ¬ nI V.length ≤ nI 0 := q
    rw [nlt (by omega) (by omega)] at q
    cases V with
    | nil => exact absurd (Nat.zero_le _) q
    | cons w V =>
      have wl := hr.1.1.2.1
      have L2 : V.length + 1 ≤ 20 := L.2.2
      have e22 : τ.1 218 22 = nI (V.length + 1) := hr.1.1.1
      refine pt_gR (v := 230) (R9 218 21 rfl) (pt_gI (pt_aI ?_))
      rw [e22, show (1 : Int32) = nI 1 from rfl, nI_m (by omega), show V.length + 1 - 1 = V.length by omega, iN (by omega), wl]
      refine pt_zbq rank_r (fun v hv => ?_)
      subst hv
      refine pt_if (fun z => pt_some ?_) (fun z => ?_)
      · rw [← es, setl_s z]
        exact ⟨⟨hr, hB⟩, hF, hH⟩
      · have n100 : ¬ w = 100 := fun e => by
          refine z ?_
          rw [e, show rkI 100 = 0 by decide, Int32.lt_iff_toInt_lt]
          rw [Int32.le_iff_toInt_le] at h1
          simp only [Int32.reduceToInt] at h1 ⊢
          omega
        have P := HS_pop hH n100
        have hw : (w.toInt < 50 ∧ 2 ≤ (evs (2 ^ k) Q s0).2.length) ∨ (50 ≤ w.toInt ∧ ¬ w = 100 ∧ 1 ≤ (evs (2 ^ k) Q s0).2.length) := by
          by_cases l : w.toInt < 50
          · have c := cmb_s (W := V) l
            refine Or.inl ⟨l, ?_⟩
            rw [L.1, c.1]; omega
          · refine Or.inr ⟨by omega, n100, ?_⟩
            rw [L.1]; omega
        refine pt_gC (pt_zb (vr_settles hN R9 hB (p2le hk).1 hc hr hw (by omega) (by omega)) (fun _ σ2 h2 => ih σ2 ⟨V, Q ++ [opW w], ⟨?_, h2.1.2⟩, hF.tr h2.2, P, ?_⟩))
        · rw [evs_app]; exact h2.1.1
        · rw [← es, setl_p z]
end RSV

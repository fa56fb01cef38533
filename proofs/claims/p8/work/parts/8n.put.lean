/-! ===== put, with values ===== -/
section PUT
variable {N k n c i B : Nat} {σ τ : zS} {t : Nat → Int32} {m x1 x2 : Int32} {O : List zOp}
/-- the text is one sum -/
def pO (t : Nat → Int32) (n : Nat) (m : Int32) : Prop := ∃ j s1, sumR t n m 0 0 = some (j, s1) ∧ tkK t n j = 0
/-- the end of the machine of sums -/
def pE (t : Nat → Int32) (n : Nat) (m : Int32) (d : Cv) : Prop := Rc (stv t n m) (0, 0, [], []) d ∧ stv t n m d = some none ∧ ¬ 100 ∈ d.2.2.1
theorem pE_u {d e : Cv} (h : pE t n m d) (h2 : pE t n m e) : d = e := Rc.un h.1 h2.1 (fun x q => by rw [h.2.1] at q; cases q) (fun x q => by rw [h2.2.1] at q; cases q)
def pS (d : Cv) (a : Int32) : List zOp := (setl 1 d.2.2.1 d.2.2.2).2 ++ [(6, a)]
theorem vy_adv {a b : Int32} (hR : RF σ.2.2) : Pt (f_X5_advance N 57 a b σ) (fun r => (r.1 = a ∧ r.2.2 = σ.2) ∧ (∀ k, k ≠ 57 → r.2.1 k = σ.1 k) ∧ ∀ j, j ≠ 0 → j ≠ 1 → j ≠ 9 → r.2.1 57 j = σ.1 57 j) := by
  rw [f_X5_advance.eq_1]
  refine pt_if (fun _ => ?_) (fun _ => ?_)
  · refine pt_pIx (fun τ a1 b1 c1 => pt_gR (v := 63) (by rw [c1]; exact hR 57 12 rfl) (pt_gI (pt_aI (pt_pIx (fun υ a2 b2 c2 => pt_rZ ⟨⟨rfl, c2.trans c1⟩, fun k hk => (b2 k hk).trans (b1 k hk), fun j h0 h1 h9 => ?_⟩)))))
    show υ.1 57 j = _
    rw [a2, upd_n h1, a1, upd_n h0]
  · refine pt_gR (v := 61) (hR 57 10 rfl) (pt_gI (pt_aI (pt_if (fun _ => pt_rZ ⟨⟨rfl, rfl⟩, fun _ _ => rfl, fun _ _ _ _ => rfl⟩) (fun _ => pt_gI (pt_if (fun _ => pt_rZ ⟨⟨rfl, rfl⟩, fun _ _ => rfl, fun _ _ _ _ => rfl⟩) (fun _ => pt_gI (pt_pIx (fun τ a1 b1 c1 => pt_rZ ⟨⟨rfl, c1⟩, b1, fun j h0 h1 h9 => ?_⟩))))))))
    show τ.1 57 j = _
    rw [a1, upd_n h9]
theorem vy_pass0 (hC : CB σ t n c) (hA : CA (σ.1 57 9) t n c i) : Pt (f_X5_pass N 57 0 σ) (fun r => ((¬ r.1 = 0 → tkK t n i = 0) ∧ (r.1 = 0 → ¬ tkK t n i = 0)) ∧ r.2.2 = σ.2 ∧ (∀ k, k ≠ 57 → r.2.1 k = σ.1 k) ∧ ∀ j, j ≠ 0 → j ≠ 1 → j ≠ 9 → r.2.1 57 j = σ.1 57 j) := by
  have hR := hC.1.1
  have row := CA_row hC.2.1 hA
  have e1 : σ.1 61 (σ.1 57 9).toInt.toNat = ck (tkK t n i) := row.1.1
  rw [f_X5_pass.eq_1]
  refine pt_gR (v := 61) (hR 57 10 rfl) (pt_gI (pt_aI ?_))
  rw [e1]
  refine pt_if (fun q => ?_) (fun q => ?_)
  · refine pt_gC (pt_zb (vy_adv hR) (fun v τ h => pt_rZ ⟨⟨fun _ => ck_0.mp q, fun z => absurd (h.1.1.symm.trans z) (by decide)⟩, h.1.2, h.2.1, h.2.2⟩))
  · refine pt_gC (pt_zb (vy_adv hR) (fun v τ h => pt_rZ ⟨⟨fun z => absurd h.1.1 z, fun _ z => q (ck_0.mpr z)⟩, h.1.2, h.2.1, h.2.2⟩))
theorem vy_readSum {a : Int32} (hN : 1048576 ≤ N) (hR : RF σ.2.2) (hx : x2.toInt = (n : Int) ∧ n ≤ 600) : Pt (f_X5_readSum N 57 1 x2 m a σ) (fun r => (¬ r.1 = 0 → pO (σ.1 1) n m ∧ ∃ d : Cv, pE (σ.1 1) n m d ∧ St r.2 (pS d a) ∧ (pS d a).length ≤ 601) ∧ (r.1 = 0 → ¬ pO (σ.1 1) n m) ∧ (∀ k, k < 57 → r.2.1 k = σ.1 k) ∧ RF r.2.2.2 ∧ r.2.2.2 0 = σ.2.2 0) := by
  rw [f_X5_readSum.eq_1]
  refine pt_gC (pt_zb (pt_and (vl_open (n := n) hN hR hx) (vy_open (n := n) hN hR hx)) (fun _ σ2 h2 => ?_))
  obtain ⟨⟨c, ⟨hC, hA⟩, ⟨z7, z8⟩, h57⟩, s0, r0⟩ := h2
  have hC : CB σ2 (σ.1 1) n c := hC
  have hA : CA (σ2.1 57 9) (σ.1 1) n c 0 := hA
  have z8 : σ2.1 57 8 = 0 := z8
  have s0 : σ2.1 57 2 = 0 := s0
  have r0 : σ2.2.2 0 = σ.2.2 0 := r0
  have h57 : ∀ k, k < 57 → σ2.1 k = σ.1 k := h57
  generalize σ.1 1 = t at hC hA ⊢
  refine pt_pIx (fun σ3 a3 b3 c3 => ?_)
  have C3 : CB σ3 t n c := CB_x hC (by rw [c3]) (fun k hk => b3 k (by omega)) (by rw [a3, upd_n (by decide)])
  have A3 : CA (σ3.1 57 9) t n c 0 := by rw [a3, upd_n (by decide)]; exact hA
  have m3 : σ3.1 57 7 = m := by rw [a3, upd_s]
  have e8 : (σ3.1 57 8).toInt = ((0 : Nat) : Int) := by rw [a3, upd_n (by decide), z8]; rfl
  have St3 : St σ3 [] := ⟨by rw [a3, upd_n (by decide), s0]; rfl, fun k h => absurd h (Nat.not_lt_zero _)⟩
  refine pt_gC (pt_zb (pt_and (pt_ok ((csum_all hN 24).1 0 [] 0 0 σ3 ⟨⟨C3, A3, m3⟩, ⟨e8, by decide⟩, rfl, by decide⟩ rfl (by decide))) ((csumv_all hN 24).1 0 [] [] 0 σ3 ⟨⟨C3, A3, m3⟩, ⟨St3, Nat.zero_le _⟩, rfl, by decide⟩ (Or.inl rfl))) (fun v4 σ4 h4 => ?_))
  obtain ⟨⟨f4, q4⟩, y4⟩ := h4
  have f4 : Fr σ3 σ4 := f4
  have o57 : ∀ k, k < 57 → σ4.1 k = σ.1 k := fun k hk => (f4.1.2 k (by simp only [List.mem_cons, List.not_mem_nil, or_false]; omega)).trans ((b3 k (by omega)).trans (h57 k hk))
  have R4 : RF σ4.2.2 := C3.1.1.tr f4.1
  have r4 : σ4.2.2 0 = σ.2.2 0 := funext (fun j => (f4.1.1.1 0 j (by omega)).trans (by rw [c3]; exact congrFun r0 j))
  refine pt_if (fun z => ?_) (fun z => ?_)
  · have q4 := q4.resolve_left (fun y => absurd (y.1.symm.trans z) (by decide))
    obtain ⟨e, rc, w⟩ := q4.2
    refine pt_rZ ⟨fun y => absurd rfl y, fun _ y => ?_, o57, R4, r4⟩
    obtain ⟨j, s1, hs, _⟩ := y
    rw [sumR_n rc w] at hs
    cases hs
  have q4 := q4.resolve_right (fun y => z y.1)
  obtain ⟨_, j, s1, ⟨⟨rc, _⟩, ncb⟩, A4, _, _⟩ := q4
  have A4 : CA (σ4.1 57 9) t n c j := A4
  have es : sumR t n m 0 0 = some (j, s1) := sumR_s (c := (j, true, [], s1)) ⟨rc, stp_e ncb (fun z => absurd z.2 List.not_mem_nil), List.not_mem_nil⟩
  obtain ⟨j', V, Q, O1, ⟨rcv, sl, _⟩, A4', ⟨t4, l4⟩, _, e4⟩ := y4 z
  have A4' : CA (σ4.1 57 9) t n c j' := A4'
  have t4 : St σ4 O1 := t4
  have ej : j' = j := CA_un A4' A4
  subst ej
  have C4 := CB_fr f4 C3
  have jn := CA_le A4
  refine pt_gC (pt_zb (vy_pass0 C4 A4) (fun v5 σ5 h5 => ?_))
  obtain ⟨⟨k1, k2⟩, e5, b5, j5⟩ := h5
  have k1 : ¬ v5 = 0 → tkK t n j' = 0 := k1
  have k2 : v5 = 0 → ¬ tkK t n j' = 0 := k2
  have e5 : σ5.2 = σ4.2 := e5
  have b5 : ∀ k, k ≠ 57 → σ5.1 k = σ4.1 k := b5
  have j5 : ∀ j, j ≠ 0 → j ≠ 1 → j ≠ 9 → σ5.1 57 j = σ4.1 57 j := j5
  have R5 : RF σ5.2.2 := by rw [e5]; exact R4
  refine pt_if (fun y => ?_) (fun y => ?_)
  · refine pt_rZ ⟨fun w => absurd rfl w, fun _ w => ?_, fun k hk => (b5 k (by omega)).trans (o57 k hk), R5, by show σ5.2.2 0 = _; rw [e5]; exact r4⟩
    obtain ⟨j2, s2, hs, hk2⟩ := w
    rw [es] at hs
    have : j' = j2 := congrArg Prod.fst (Option.some.inj hs)
    rw [← this] at hk2
    exact k2 y hk2
  have kz := k1 y
  have C5 : CB σ5 t n c := CB_x C4 (by rw [e5]) (fun k hk => b5 k (by omega)) (j5 6 (by decide) (by decide) (by decide))
  have t5 : St σ5 O1 := St_k (j5 2 (by decide) (by decide) (by decide)) (b5 58 (by decide)) (b5 59 (by decide)) t4
  have h600 := C3.2.1.1.2.1
  have hl0 : (List.length ([] : List zOp)) = 0 := rfl
  refine pt_gC (pt_zb (pt_and (pt_ok (xs_emit C5)) (v_emit (a := 6) (b := a) C5.1.1 t5 (by omega))) (fun v6 σ6 h6 => ?_))
  obtain ⟨⟨v61, f6⟩, e6, t6⟩ := h6
  have v61 : v6 = 1 := v61
  have f6 : F9 σ5 σ6 := f6
  have e6 : σ6.2 = σ5.2 := e6
  refine pt_if (fun q => absurd (v61.symm.trans q) (by decide)) (fun _ => pt_rZ ?_)
  have n100 : ¬ 100 ∈ V := fun z => by
    have := (setl_100 (r := 1) (by decide) V Q).mpr z
    rw [sl] at this
    exact absurd this List.not_mem_nil
  have ncb' : ¬ isCb (tkK t n j') := ncb
  have pe : pS (j', 1, V, Q) a = O1 ++ [(6, a)] := by
    unfold pS
    show (setl 1 V Q).2 ++ _ = _
    rw [sl]
  refine ⟨fun _ => ⟨⟨j', s1, es, kz⟩, (j', 1, V, Q), ⟨rcv, stv_e ncb' (fun z => n100 z.2), n100⟩, by rw [pe]; exact t6, by rw [pe, List.length_append, List.length_singleton]; omega⟩, fun z => absurd (show (1 : Int32) = 0 from z) (by decide), fun k hk => ?_, ?_, ?_⟩
  · show σ6.1 k = σ.1 k
    rw [f6.1.1.1.2 k (by simp only [List.mem_cons, List.not_mem_nil, or_false]; omega), b5 k (by omega)]; exact o57 k hk
  · show RF σ6.2.2
    rw [e6]; exact R5
  · show σ6.2.2 0 = σ.2.2 0
    rw [e6, e5]; exact r4
/-- put of the class -/
def CPQ (t : Nat → Int32) (n : Nat) (x1 : Int32) (B : Nat) (G : Nat → zFm) (σ : zS) (r : Int32 × zS) : Prop := (¬ isR (σ.1 B 0) x1 → r.1 = -2 ∧ r.2.2.1 = σ.2.1) ∧ (isR (σ.1 B 0) x1 → (¬ pO t n (σ.1 B 0) → r.1 = -4 ∧ r.2.2.1 = σ.2.1) ∧ (pO t n (σ.1 B 0) → ∃ d, pE t n (σ.1 B 0) d ∧ (∀ p, p < 10 → ∀ u, u < 1024 → bt (r.2.2.1 (B + 6 + 2 * p + 1)) u = (evs (2 ^ (σ.1 B 0).toInt.toNat) (pS d x1) (G, [])).1 p u) ∧ (∀ a, WR a → ¬ (B + 6 ≤ a ∧ a < B + 26) → r.2.2.1 a = σ.2.1 a) ∧ r.1.toInt = (ct (bt (r.2.2.1 (B + 6 + 2 * x1.toInt.toNat + 1))) 1024 : Int)))
theorem pE_H {d : Cv} {p : Nat} (hk : k ≤ 10) (hp : p < 10) (h : pE t n (nI k) d) : vds (2 ^ k) (pS d (nI p)) 0 ∧ hts (setl 1 d.2.2.1 d.2.2.2).2 0 = 1 ∧ vds (2 ^ k) (setl 1 d.2.2.1 d.2.2.2).2 0 := by
  have E := end_H (t := t) (n := n) (Rc_H (c := (0, 0, [], [])) hk ⟨⟨trivial, rfl⟩, trivial, Nat.zero_le _⟩ h.1) (stv_e1 h.2.1).1 h.2.2
  refine ⟨vds_1 E.2.1 ?_, E.2.2, E.2.1⟩
  rw [E.2.2]
  refine Or.inr (Or.inr (Or.inr (Or.inr (Or.inr (Or.inr ⟨rfl, ?_, Nat.le_refl _⟩)))))
  show 0 ≤ (nI p).toInt ∧ (nI p).toInt < 10
  rw [nI_toInt (by omega)]
  omega
theorem vl_put {G : Nat → zFm} (hN : 1048576 ≤ N) (hB : B = 2 ∨ B = 28) (hR : RF σ.2.2) (h4 : σ.2.2 0 4 = B) (ek : σ.1 B 0 = nI k) (hk : k ≤ 10) (hn : (σ.1 0 1).toInt = (n : Int) ∧ n ≤ 600) (hG : ∀ p, p < 10 → ∀ u, u < 1024 → G p u = true → u < 2 ^ k) (hr : ∀ p, p < 10 → ∀ u, u < 1024 → bt (σ.2.1 (B + 6 + 2 * p + 1)) u = G p u) : Pt (f_X11_put N 0 x1 σ) (CPQ (σ.1 1) n x1 B G σ) := by
  have wc := isWc2 hB
  rw [f_X11_put.eq_1]
  refine pt_gC (pt_zbq (vl_isRegister h4) (fun v hv => pt_if (fun z => ?_) (fun z => ?_)))
  · exact pt_pI (pt_some ⟨fun _ => ⟨rfl, rfl⟩, fun y => absurd y (hv.1 z)⟩)
  have hreg := hv.2 z
  obtain ⟨p, hp, ex⟩ := isR_n hreg
  refine pt_gR (v := 57) (hR 0 9 rfl) (pt_gR (v := 1) (hR 0 0 rfl) (pt_gI (pt_gR (v := B) h4 (pt_gI (pt_gC ?_)))))
  refine pt_zb (pt_and (vy_readSum (n := n) (a := x1) hN hR hn) (jf_X5_readSum (L := σ.2.1) rfl)) (fun v9 σ2 h2 => ?_)
  obtain ⟨⟨y1, y0, o57, R2, r2⟩, L2⟩ := h2
  have y1 : ¬ v9 = 0 → pO (σ.1 1) n (σ.1 B 0) ∧ ∃ d : Cv, pE (σ.1 1) n (σ.1 B 0) d ∧ St σ2 (pS d x1) ∧ (pS d x1).length ≤ 601 := y1
  have y0 : v9 = 0 → ¬ pO (σ.1 1) n (σ.1 B 0) := y0
  have o57 : ∀ k, k < 57 → σ2.1 k = σ.1 k := o57
  have R2 : RF σ2.2.2 := R2
  have r2 : σ2.2.2 0 = σ.2.2 0 := r2
  have L2 : σ2.2.1 = σ.2.1 := L2
  refine pt_gC (pt_zb (Q := fun r => (r.2.2.2 = σ2.2.2 ∧ ∀ k, k ≠ 0 → r.2.1 k = σ2.1 k) ∧ r.2.2.1 = σ2.2.1) (pt_and (vl_fault R2 (fun τ a b => ⟨a, b⟩)) vy_fault) (fun _ σ3 h3 => ?_))
  obtain ⟨⟨r3, o3⟩, L3⟩ := h3
  have r3 : σ3.2.2 = σ2.2.2 := r3
  have o3 : ∀ k, k ≠ 0 → σ3.1 k = σ2.1 k := o3
  have L3 : σ3.2.1 = σ.2.1 := (show σ3.2.1 = σ2.2.1 from L3).trans L2
  have R3 : RF σ3.2.2 := by rw [r3]; exact R2
  have h43 : σ3.2.2 0 4 = B := by rw [r3, r2]; exact h4
  refine pt_if (fun q => pt_some ⟨fun y => absurd hreg y, fun _ => ⟨fun _ => ⟨rfl, L3⟩, fun y => absurd y (y0 q)⟩⟩) (fun q => ?_)
  obtain ⟨po, d, hd, hs, hl⟩ := y1 q
  refine pt_gR (v := 65) (R3 0 10 rfl) (pt_gR (v := 57) (R3 0 9 rfl) (pt_gR (v := B) h43 (pt_gR (v := 99) (R3 0 11 rfl) (pt_gC ?_))))
  have hs3 : St σ3 (pS d x1) := St_k (by rw [o3 57 (by decide)]) (o3 58 (by decide)) (o3 59 (by decide)) hs
  have e0 : σ3.1 B 0 = nI k := by rw [o3 B (by omega), o57 B (by omega)]; exact ek
  have hd2 : pE (σ.1 1) n (nI k) d := by rw [← ek]; exact hd
  have H := pE_H hk hp hd2
  rw [← ex] at H
  refine pt_zb (v_run (G := G) wc R3 e0 hk hs3 hl H.1 hG (fun p hp u hu => by rw [L3]; exact hr p hp u hu)) (fun _ σ4 h4' => ?_)
  obtain ⟨F4, U4⟩ := h4'
  have F4 : FU B σ3 σ4 := F4
  have U4 : ∀ p, p < 10 → ∀ u, u < 1024 → bt (σ4.2.1 (B + 6 + 2 * p + 1)) u = (evs (2 ^ k) (pS d x1) (G, [])).1 p u := U4
  have R4 := F4.R R3
  have h44 : σ4.2.2 0 4 = B := by rw [F4.1]; exact h43
  rw [ex]
  refine pt_reg wc R4 h44 hp (pt_gC (pt_zbq (v_tally R4 (rgW wc R4 hp).2) (fun w hw => pt_some ⟨fun y => absurd (by rw [← ex]; exact hreg) y, fun _ => ⟨fun y => absurd po y, fun _ => ⟨d, hd, fun p hp u hu => ?_, fun a ha hn' => ?_, ?_⟩⟩⟩)))
  · show bt (σ4.2.1 (B + 6 + 2 * p + 1)) u = _
    rw [ek, iN (by omega), ← ex]; exact U4 p hp u hu
  · show σ4.2.1 a = _
    rw [F4.2.2 a ha hn', L3]
  · show w.toInt = (ct (bt (σ4.2.1 (B + 6 + 2 * (nI p).toInt.toNat + 1))) 1024 : Int)
    rw [iN (by omega)]; exact hw
end PUT

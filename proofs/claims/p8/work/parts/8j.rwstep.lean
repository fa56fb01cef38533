/-! ===== the steps of a world's lines in the reference ===== -/
section RWS
variable {N k n i : Nat} {σ τ υ : zS} {tx : Nat → Int32} {W : List Int32} {O : List zOp} {s0 : zEv}
theorem vq_37 {p : Nat} (hR : RF σ.2.2) (hB : ZB σ.1) (hp : p < 10) : Pt (zlp (F_X12_readsLet_37 N 218 (nI p)) N (0, σ)) (fun r => FG [232] σ r.2 ∧ (σ.1 218 14 = 0 → (∀ u, u < 1024 → r.2.1 232 (1024 * p + u) = σ.1 226 u) ∧ ∀ j, (j < 1024 * p ∨ 1024 * p + 1024 ≤ j) → r.2.1 232 j = σ.1 232 j)) := by
  refine pt_lp (fun y : Int32 × zS => ∃ l, (y.1 = nI l ∧ l ≤ 1024) ∧ FG [232] σ y.2 ∧ (∀ u, u < l → y.2.1 232 (1024 * p + u) = σ.1 226 u) ∧ ∀ j, (j < 1024 * p ∨ 1024 * p + 1024 ≤ j) → y.2.1 232 j = σ.1 232 j) (fun again y hI ih => ?_) N _ ⟨0, ⟨rfl, Nat.zero_le _⟩, FG.rf, fun u hu => absurd hu (Nat.not_lt_zero _), fun _ _ => rfl⟩
  obtain ⟨x2, τ⟩ := y
  obtain ⟨l, ⟨ex, hl⟩, hf, hu, ho⟩ := hI
  have ex : x2 = nI l := ex
  subst ex
  have hf : FG [232] σ τ := hf
  have hu : ∀ u, u < l → τ.1 232 (1024 * p + u) = σ.1 226 u := hu
  have ho : ∀ j, (j < 1024 * p ∨ 1024 * p + 1024 ≤ j) → τ.1 232 j = σ.1 232 j := ho
  have R9 := hf.R hR
  have e18 : τ.1 218 = σ.1 218 := hf.2 218 (by decide)
  rw [F_X12_readsLet_37.eq_1]
  refine pt_if (fun q => pt_some ⟨hf, fun _ => ⟨fun u h' => ?_, ho⟩⟩) (fun q => ?_)
  · have q : nI 1024 ≤ nI l := q
    rw [nlt (by omega) (by omega)] at q
    exact hu u (by omega)
  · have q : ¬ nI 1024 ≤ nI l := q
    rw [nlt (by omega) (by omega)] at q
    refine pt_gC (pt_zbq vr_good (fun v hv => pt_if (fun z => pt_some ⟨hf, fun y => absurd (by rw [e18]; exact y) (hv.1 z)⟩) (fun _ => ?_)))
    have e9 : ((1024 : Int32) * nI p + nI l).toInt.toNat = 1024 * p + l := by
      rw [n1024, nI_plus, nI_toInt (by omega)]; omega
    refine pt_gR (v := 232) (R9 218 27 rfl) (pt_gR (v := 226) (R9 218 16 rfl) (pt_aI (pt_s16 ?_)))
    rw [e9, iN (by omega), nI_s1 (by omega), hf.2 226 (by decide), nrz (hB 226 rfl l)]
    refine ih (nI (l + 1), _) ⟨l + 1, ⟨rfl, by omega⟩, hf.u (by decide), fun u h' => ?_, fun j hj => ?_⟩
    · show (zI τ 232 _).1 232 _ = _
      rw [zI_s, upd_i]
      by_cases e : u = l
      · rw [if_pos (by omega), e]
      · rw [if_neg (by omega)]; exact hu u (by omega)
    · show (zI τ 232 _).1 232 j = _
      rw [zI_s, upd_n (by omega)]; exact ho j hj
theorem vq_let (hN : 1048576 ≤ N) (hk : k ≤ 10) (hb : RBs σ) (h0 : RG (2 ^ k) s0) (z0 : s0.2.length = 0) (hv : vds (2 ^ k) O 0) (hh : hts O 0 = 0) (hG : RX σ.1 tx n i) (hg : σ.1 218 14 = 0) (e0 : σ.1 231 0 = nI k) (hrg : ∀ p, p < 10 → ∀ u, u < 1024 → rb (σ.1 232) (1024 * p) u = (evs (2 ^ k) O s0).1 p u) : Pt (f_X12_readsLet N 218 σ) (fun r => r.2.1 218 14 = 0 → ∀ p, p < 10 → ∀ u, u < 1024 → rb (r.2.1 232) (1024 * p) u = (evs (2 ^ k) (sO tx n (tkE tx n (tkE tx n i)) (nI k) (nvI tx n i) O) s0).1 p u) := by
  have hR := hb.1.1
  rw [f_X12_readsLet.eq_1]
  refine pt_gC (pt_zb (pt_ok (s_X12_number_c (tx := tx) (n := n) (i := i) hN hR hb.1.2 hb.2.1 (fun _ => hG))) (fun v1 σ2 h2 => ?_))
  obtain ⟨T2, ⟨K2, _, u2, f2⟩, _⟩ := h2
  have T2 : Tr [218] σ σ2 := T2
  have u2 : σ2.1 218 14 = 0 → ((σ.1 218 14 = 0 ∧ _) ∧ nOK tx n i 0 9) ∧ v1.toInt = nv5 tx n i ∧ RX σ2.1 tx n (tkE tx n i) := u2
  have f2 : ¬ σ2.1 218 14 = 0 → v1 = 0 ∧ _ := f2
  have hb2 : RBs σ2 := rb218 hb T2 (by decide) K2 (zb218 hb T2)
  refine pt_gC (pt_zb (pt_ok (s_X12_needsSign_r (tx := tx) (n := n) (i := tkE tx n i) hN hb2.1.1 hb2.1.2 hb2.2.1 (fun q => (u2 q).2.2) (by decide))) (fun v3 σ4 h4 => ?_))
  obtain ⟨T4, ⟨K4, _, u4, f4⟩, _⟩ := h4
  have T4 : Tr [218] σ2 σ4 := T4
  have u4 : σ4.1 218 14 = 0 → (σ2.1 218 14 = 0 ∧ _) ∧ tkK tx n (tkE tx n i) = 61 ∧ RX σ4.1 tx n (tkE tx n (tkE tx n i)) := u4
  have hb4 : RBs σ4 := rb218 hb2 T4 (by decide) K4 (zb218 hb2 T4)
  have vp : ∃ p, p < 10 ∧ v1 = nI p := by
    by_cases q : σ2.1 218 14 = 0
    · have a := u2 q
      have b := a.1.2.2
      have e := a.2.1
      unfold nv5 at e
      simp only [Int32.reduceToInt] at b
      exact (znI (x := v1) (m := 10) (by omega) (by omega)).imp (fun _ z => z)
    · exact ⟨0, by decide, (f2 q).1⟩
  obtain ⟨p, hp, rfl⟩ := vp
  refine pt_gC (pt_zbq vr_good (fun v hq => pt_if (fun z => ?_) (fun z => ?_)))
  · rw [J_X12_readsLet_35.eq_1]
    refine pt_w (vq_37 hb4.1.1 hb4.2.2 hp) (fun r h q => absurd ?_ (hq.1 z))
    have := h.1.2 218 (by decide)
    rw [← this]; exact q
  have g4 := hq.2 z
  have a4 := u4 g4
  have a2 := u2 a4.1.1
  have enp : nI p = nvI tx n i := nv_eq a2.2.1
  have r31 : σ4.1 231 0 = nI k := by rw [T4.2 231 (by decide), T2.2 231 (by decide)]; exact e0
  have r32 : σ4.1 232 = σ.1 232 := (T4.2 232 (by decide)).trans (T2.2 232 (by decide))
  refine pt_gR (v := 231) (hb4.1.1 218 26 rfl) (pt_aI (pt_gR (v := 232) (hb4.1.1 218 27 rfl) ?_))
  rw [show (Int32.toInt 0).toNat = 0 from rfl, r31]
  refine pt_gC (pt_zb (vr_readsSum (O := O) (s0 := s0) (c := 232) hN hk (Or.inr rfl) hb4 h0 z0 hv hh a4.2.2 g4 (by rw [r32]; exact hrg)) (fun w σ5 h5 => ?_))
  have h5 : σ5.1 218 14 = 0 → ∃ d : Cv, (Rc (stv tx n (nI k)) (tkE tx n (tkE tx n i), 0, [], O) d ∧ stv tx n (nI k) d = some none ∧ ¬ 100 ∈ d.2.2.1) ∧ (RBs σ5 ∧ RX σ5.1 tx n d.1) ∧ RR σ5 232 (2 ^ k) (evs (2 ^ k) (setl 1 d.2.2.1 d.2.2.2).2 s0) (setl 1 d.2.2.1 d.2.2.2).1 := h5
  rw [J_X12_readsLet_35.eq_1]
  by_cases g5 : σ5.1 218 14 = 0
  · obtain ⟨d, ⟨rc, sn, n100⟩, ⟨hb5, _⟩, hr5⟩ := h5 g5
    have E := end_H (t := tx) (n := n) (Rc_H (c := (_, 0, [], O)) hk ⟨⟨hv, hh⟩, trivial, Nat.zero_le _⟩ rc) (stv_e1 sn).1 n100
    have eh := evs_H h0 (by rw [z0]; exact E.2.1)
    rw [z0, E.2.2] at eh
    refine pt_w (vq_37 hb5.1.1 hb5.2.2 hp) (fun r h q p' hp' u hu => ?_)
    rw [← enp, sO_d rc sn n100, evs_app]
    obtain ⟨⟨G, S⟩, eS⟩ : ∃ s, s = evs (2 ^ k) (setl 1 d.2.2.1 d.2.2.2).2 s0 := ⟨_, rfl⟩
    rw [← eS] at eh hr5 ⊢
    have e1 : S.length = 1 := eh.2
    cases S with
    | nil => exact absurd e1 (by decide)
    | cons x S =>
      have z1 : S.length = 0 := by rw [List.length_cons] at e1; omega
      show _ = (ev1 (2 ^ k) (6, nI p) (G, x :: S)).1 p' u
      rw [ev_6, iN (by omega)]
      have hx := hr5.2.1.2.1
      have hgr := hr5.2.2.1
      have H := h.2 g5
      by_cases e : p' = p
      · subst e
        show _ = (if p' = p' then x else G p') u
        rw [if_pos rfl]
        have := hx u hu
        rw [z1] at this
        rw [← this]
        unfold rb
        rw [H.1 u hu, Nat.mul_zero, Nat.zero_add]
      · show _ = (if p' = p then x else G p') u
        rw [if_neg e]
        have : rb (σ5.1 232) (1024 * p') u = G p' u := hgr p' hp' u hu
        rw [← this]
        unfold rb
        rw [H.2 _ (by omega)]
  · exact pt_lp (fun y : Int32 × zS => ¬ y.2.1 218 14 = 0) (fun again y hI ih => by
      obtain ⟨x2, τ⟩ := y
      have hI : ¬ τ.1 218 14 = 0 := hI
      rw [F_X12_readsLet_37.eq_1]
      exact pt_if (fun _ => pt_some (fun q => absurd q hI)) (fun _ => pt_gC (pt_zbq vr_good (fun v hv => pt_if (fun _ => pt_some (fun q => absurd q hI)) (fun z => absurd (hv.2 z) hI))))) N _ g5
end RWS

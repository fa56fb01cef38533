section MONO
variable {t : Nat → Int32} {n : Nat} {m : Int32}
theorem famF_ge : ∀ {f i j : Nat}, i ≤ n → famF t n m f i = some j → i ≤ j
  | 0, i, j, _, h => by cases h
  | f + 1, i, j, hi, h => by
    have h : (if mOK t n i m then (if tkK t n (tkE t n i) = 44 then famF t n m f (tkE t n (tkE t n i)) else if tkK t n (tkE t n i) = 125 then some (tkE t n (tkE t n i)) else none) else none) = some j := h
    have a := tk_le (t := t) hi
    have b := tk_le (t := t) a.2.2
    split at h
    · split at h
      · have := famF_ge b.2.2 h; omega
      · split at h
        · rw [← Option.some.inj h]; omega
        · cases h
    · cases h
theorem fam_ge {i j : Nat} (hi : i ≤ n) (h : fam t n m i = some j) : i ≤ j := by
  have a := tk_le (t := t) hi
  have b := tk_le (t := t) a.2.2
  unfold fam at h
  split at h
  · rw [← Option.some.inj h]; omega
  · have := famF_ge a.2.2 h; omega
theorem stp_ge {a b : Cf} (hi : a.1 ≤ n) (h : stp t n m a = some (some b)) : a.1 ≤ b.1 ∧ b.1 ≤ n := by
  have q := tk_le (t := t) hi
  obtain ⟨i, w, L, sg⟩ := a
  have q : (i ≤ tkF t n i ∧ tkF t n i ≤ n) ∧ tkF t n i ≤ tkE t n i ∧ tkE t n i ≤ n := q
  have e : ∀ {x : Nat × Bool × List Bool × Nat}, (some (some x) : Option (Option Cf)) = some (some b) → x = b := fun z => Option.some.inj (Option.some.inj z)
  cases w with
  | false =>
    by_cases px : isPx t n i ∨ tkK t n i = 40
    · rw [stp_o px] at h
      split at h
      · cases h
      · rw [← e h]; show i ≤ tkE t n i ∧ tkE t n i ≤ n; omega
    · by_cases k2 : tkK t n i = 2
      · rw [stp_n px k2] at h
        split at h
        · rw [← e h]; show i ≤ tkE t n i ∧ tkE t n i ≤ n; omega
        · cases h
      · by_cases k3 : tkK t n i = 123
        · rw [stp_f px k3] at h
          obtain ⟨j, fj, z⟩ := Option.map_eq_some_iff.mp h
          rw [← Option.some.inj z]
          exact ⟨fam_ge hi fj, fam_le hi fj⟩
        · by_cases k4 : isW t n i 15
          · rw [stp_a px k4] at h
            rw [← e h]; show i ≤ tkE t n i ∧ tkE t n i ≤ n; omega
          · rw [stp_z px k2 k3 k4] at h; cases h
  | true =>
    by_cases cb : isCb (tkK t n i)
    · rw [stp_c cb] at h
      split at h
      · cases h
      · rw [← e h]; show i ≤ tkE t n i ∧ tkE t n i ≤ n; omega
    · by_cases k : tkK t n i = 41 ∧ true ∈ L
      · rw [stp_p cb k] at h
        rw [← e h]; show i ≤ tkE t n i ∧ tkE t n i ≤ n; omega
      · rw [stp_e cb k] at h; cases h
theorem itk_ge : ∀ {k : Nat} {a b : Cf}, a.1 ≤ n → itk t n m k a = some b → a.1 ≤ b.1 ∧ b.1 ≤ n
  | 0, a, b, hi, h => by
    have : a = b := Option.some.inj h
    rw [← this]; omega
  | k + 1, a, b, hi, h => by
    have h : (stp t n m a).bind (fun o => o.bind (fun c1 => itk t n m k c1)) = some b := h
    obtain ⟨o, ho, h⟩ := Option.bind_eq_some_iff.mp h
    obtain ⟨c1, hc, h⟩ := Option.bind_eq_some_iff.mp h
    rw [hc] at ho
    have x := stp_ge hi ho
    have y := itk_ge x.2 h
    omega
theorem sumR_ge {i sg : Nat} {p : Nat × Nat} (hi : i ≤ n) (h : sumR t n m i sg = some p) : i ≤ p.1 ∧ p.1 ≤ n := by
  unfold sumR at h
  split at h
  · rename_i e
    have q := Classical.choose_spec e
    rw [← Option.some.inj h]
    obtain ⟨k, hk⟩ := q.1
    exact itk_ge (a := (i, false, [], sg)) hi hk
  · cases h
theorem letR_ge {i sg : Nat} {p : Nat × Nat} (hi : i ≤ n) (h : letR t n m i sg = some p) : i ≤ p.1 ∧ p.1 ≤ n := by
  have a := tk_le (t := t) hi
  have b := tk_le (t := t) a.2.2
  unfold letR at h
  split at h
  · have := sumR_ge b.2.2 h; omega
  · cases h
theorem bdR_ge {i j sg sg' : Nat} {g g' : Nat → Int32} (hi : i ≤ n) (h : bdR t n i g sg = some (j, g', sg')) : i ≤ j ∧ j ≤ n := by
  have a := tk_le (t := t) hi
  have b := tk_le (t := t) a.2.2
  have d := tk_le (t := t) b.2.2
  unfold bdR at h
  split at h
  · by_cases q : isW t n i 11 ∧ nOK t n (tkE t n i) 1 10
    · rw [nmR_t q] at h; obtain ⟨e, -⟩ := some3 h; omega
    · rw [nmR_f q] at h; cases h
  · by_cases q1 : isW t n i 12
    · rw [lnR_w q1] at h
      by_cases q : nmOK t n (tkE t n i) (g 0) ∧ nOK t n (tkE t n (tkE t n i)) 0 99
      · rw [wtR_t q] at h; obtain ⟨e, -⟩ := some3 h; omega
      · rw [wtR_f q] at h; cases h
    · by_cases q2 : isW t n i 13
      · by_cases q3 : g 2 = g 0
        · rw [lnR_m q1 q2 q3] at h; cases h
        · rw [lnR_e q1 q2 q3] at h
          by_cases q : edOK t n (tkE t n i)
          · rw [edR_t q] at h; obtain ⟨e, -⟩ := some3 h; omega
          · rw [edR_f q] at h; cases h
      · by_cases q3 : isW t n i 14
        · rw [lnR_l q1 q2 q3] at h
          obtain ⟨p, hp, e⟩ := Option.map_eq_some_iff.mp h
          have := letR_ge a.2.2 hp
          have e : p.1 = j := congrArg Prod.fst e
          omega
        · rw [lnR_z q1 q2 q3] at h; cases h
end MONO
section CLINE2
variable {N : Nat} {σ τ : zS} {t : Nat → Int32} {n c i B : Nat} {g : Nat → Int32} {sg : Nat}
theorem vl_92 {x2 : Int32} (hN : 1048576 ≤ N) (hB : B = 2 ∨ B = 28) (hC : CB σ t n c) (hA : CA (σ.1 57 9) t n c i) (h7 : σ.1 57 7 = g 0) (h8 : (σ.1 57 8).toInt = (sg : Int) ∧ sg ≤ 24) (hW : WP σ.1 B g) (hL : LI g) (hk : tkK t n i = 1) (hx : x2 = wv t n i) (hx4 : 1 ≤ x2.toInt ∧ x2.toInt ≤ 4) (hf : g 1 = 0 ↔ x2 = 1) (he : x2 = 3 → ¬ g 2 = g 0) : Pt (J_X5_readLine_92 N 57 B x2 σ) (LQ t n c B (bdR t n i g sg)) := by
  have w1 : x2 = 1 ↔ isW t n i 11 := by rw [hx]; exact wv_iff (w := 0) (by decide)
  have w2 : x2 = 2 ↔ isW t n i 12 := by rw [hx]; exact wv_iff (w := 1) (by decide)
  have w3 : x2 = 3 ↔ isW t n i 13 := by rw [hx]; exact wv_iff (w := 2) (by decide)
  have w4 : x2 = 4 ↔ isW t n i 14 := by rw [hx]; exact wv_iff (w := 3) (by decide)
  rw [J_X5_readLine_92.eq_1]
  refine pt_gC (pt_zb (pt_ok (xs_pass hC hA (by decide))) (fun v σ1 h1 => ?_))
  obtain ⟨f1, h1⟩ := h1
  have f1 : F8 σ σ1 := f1
  have h1 := h1.resolve_right (fun z => z.2 (ck_w.mpr hk))
  have A1 : CA (σ1.1 57 9) t n c (tkE t n i) := h1.2.2
  have C1 := CB_fr f1.1 hC
  have eB : ∀ a, a ≤ 4 → σ1.1 (B + a) = σ.1 (B + a) := fun a ha => fB hB f1.1.1 ha
  have eB0 : σ1.1 B = σ.1 B := by have z := eB 0 (by decide); rw [Nat.add_zero] at z; exact z
  refine pt_gR (v := 62) (C1.1.1 57 11 rfl) (pt_gI (pt_aI ?_))
  refine pt_if (fun q1 => ?_) (fun q1 => ?_)
  · have g1 := hf.mpr q1
    have eb : bdR t n i g sg = nmR t n i g sg := if_pos g1
    rw [eb]
    refine pt_gC (pt_zb (vl_names hB C1 A1) (fun v2 σ2 h2 => vl_211 hB ?_))
    rcases h2 with ⟨v1, ok, ⟨C2, A2⟩, ⟨e7, e8⟩, o0, oa⟩ | ⟨v0, no⟩
    · have e7 : σ2.1 57 7 = nvI t n (tkE t n i) := e7
      have e8 : σ2.1 57 8 = σ1.1 57 8 := e8
      have o0 : σ2.1 B = upd (σ1.1 B) 0 (nvI t n (tkE t n i)) := o0
      have oa : ∀ a, 1 ≤ a → a ≤ 4 → σ2.1 (B + a) = σ1.1 (B + a) := oa
      refine Or.inl ⟨v1, _, _, _, nmR_t ⟨w1.mp q1, ok⟩, ⟨C2, A2⟩, ⟨e7, by rw [e8, f1.2]; exact h8.1, h8.2⟩, ⟨?_, ?_, ?_⟩, fun j hj => ?_, fun j hj => ?_⟩
      · rw [o0, upd_s]; rfl
      · rw [o0, upd_n (by decide), eB0]; exact hW.1.2.1
      · rw [o0, upd_n (by decide), eB0]; exact hW.1.2.2
      · rw [oa 3 (by decide) (by decide), oa 4 (by decide) (by decide), eB 3 (by decide), eB 4 (by decide)]
        have z := hW.2.1 g1 j hj
        rw [z.1, z.2]
        unfold nmRow
        rw [if_neg (by omega), if_pos (by omega), if_neg (by omega), if_neg (by omega), if_pos (by omega), show 33 + j - 33 = j by omega]
        exact ⟨rfl, rfl⟩
      · have z := (hL.2.1 g1).2
        have hj : j < (g 2).toInt.toNat := hj
        omega
    · exact Or.inr ⟨v0, nmR_f (fun w => no w.2)⟩
  · have g1 : ¬ g 1 = 0 := fun z => q1 (hf.mp z)
    have eb : bdR t n i g sg = lnR t n i g sg := if_neg g1
    have W := WB_e eB (hW.2.2 g1)
    rw [eb]
    refine pt_if (fun q2 => ?_) (fun q2 => ?_)
    · rw [lnR_w (w2.mp q2)]
      refine pt_gC (pt_zb (vl_weight (m := g 0) hB C1 A1 (f1.1.2.2.trans h7) hL.1.1.1.2) (fun v2 σ2 h2 => vl_211 hB ?_))
      rcases h2 with ⟨v1, ok, ⟨C2, A2⟩, ⟨e7, e8⟩, o3, oa⟩ | ⟨v0, no⟩
      · have e7 : σ2.1 57 7 = σ1.1 57 7 := e7
        have e8 : σ2.1 57 8 = σ1.1 57 8 := e8
        have o3 : σ2.1 (B + 3) = upd (σ1.1 (B + 3)) ((t (tkF t n (tkE t n i))).toInt - 97).toNat (nvI t n (tkE t n (tkE t n i))) := o3
        have oa : ∀ a, a ≠ 3 → a ≤ 4 → σ2.1 (B + a) = σ1.1 (B + a) := oa
        have o0 : σ2.1 B = σ1.1 B := by have z := oa 0 (by decide) (by decide); rw [Nat.add_zero] at z; exact z
        have b9 : ((t (tkF t n (tkE t n i))).toInt - 97).toNat ≤ 9 := by have := ok.1.2.2; have := hL.1.1.1.2; omega
        refine Or.inl ⟨v1, _, _, _, wtR_t ok, ⟨C2, A2⟩, ⟨?_, by rw [e8, f1.2]; exact h8.1, h8.2⟩, ?_⟩
        · rw [e7, f1.1.2.2, h7, upd_n (by omega)]
        · generalize ((t (tkF t n (tkE t n i))).toInt - 97).toNat = k at *
          generalize nvI t n (tkE t n (tkE t n i)) = w at *
          have o : ∀ a, (a < 3 ∨ 13 ≤ a) → upd g (3 + k) w a = g a := fun a ha => upd_n (by omega)
          refine ⟨?_, fun j hj => ⟨?_, ?_⟩, fun j hj => ?_⟩
          · rw [o0, o 0 (by omega), o 1 (by omega), o 2 (by omega)]; exact W.1
          · rw [o3, upd_i, upd_i]
            by_cases y : j = k
            · rw [if_pos y, if_pos (by omega)]
            · rw [if_neg y, if_neg (by omega)]; exact (W.2.1 j hj).1
          · rw [oa 4 (by decide) (by decide), o _ (by omega)]; exact (W.2.1 j hj).2
          · rw [o 2 (by omega)] at hj
            rw [oa 1 (by decide) (by decide), oa 2 (by decide) (by decide), o _ (by omega), o _ (by omega)]; exact W.2.2 j hj
      · exact Or.inr ⟨v0, wtR_f no⟩
    · have n12 : ¬ isW t n i 12 := fun z => q2 (w2.mpr z)
      refine pt_if (fun q3 => ?_) (fun q3 => ?_)
      · have e20 := he q3
        rw [lnR_e n12 (w3.mp q3) e20]
        have hb := hL.1.1
        have lt : (g 2).toInt < (g 0).toInt := by
          have : (g 2).toInt ≠ (g 0).toInt := fun z => e20 (Int32.toInt_inj.mp z)
          omega
        have b2 : σ1.1 B 2 = g 2 := W.1.2.2
        refine pt_gC (pt_zb (vl_edge hB C1 A1 (by rw [b2]; omega)) (fun v2 σ2 h2 => vl_211 hB ?_))
        rcases h2 with ⟨v1, ok, ⟨C2, A2⟩, ⟨e7, e8⟩, ⟨o0, o1, o2⟩, o3, o4⟩ | ⟨v0, no⟩
        · have e7 : σ2.1 57 7 = σ1.1 57 7 := e7
          have e8 : σ2.1 57 8 = σ1.1 57 8 := e8
          have o0 : σ2.1 B = upd (σ1.1 B) 2 (σ1.1 B 2 + 1) := o0
          have o1 : σ2.1 (B + 1) = upd (σ1.1 (B + 1)) (σ1.1 B 2).toInt.toNat (nvI t n (tkE t n i)) := o1
          have o2 : σ2.1 (B + 2) = upd (σ1.1 (B + 2)) (σ1.1 B 2).toInt.toNat (nvI t n (tkE t n (tkE t n i))) := o2
          have o3 : σ2.1 (B + 3) = σ1.1 (B + 3) := o3
          have o4 : σ2.1 (B + 4) = σ1.1 (B + 4) := o4
          rw [b2] at o0 o1 o2
          refine Or.inl ⟨v1, _, _, _, edR_t ok, ⟨C2, A2⟩, ⟨?_, by rw [e8, f1.2]; exact h8.1, h8.2⟩, ?_⟩
          · rw [e7, f1.1.2.2, h7]
            unfold edRow
            rw [upd_n (by decide), upd_n (by omega), upd_n (by omega)]
          · generalize nvI t n (tkE t n i) = v at *
            generalize nvI t n (tkE t n (tkE t n i)) = w at *
            obtain ⟨k, hkm⟩ : ∃ k, k = (g 2).toInt.toNat := ⟨_, rfl⟩
            have hk9 : k ≤ 9 := by omega
            have s2 : (g 2 + 1).toInt = (g 2).toInt + 1 := a1_ ⟨by omega, by omega⟩
            have eg : ∀ a, edRow g v w a = if a = 2 then g 2 + 1 else if a = 23 + k then w else if a = 13 + k then v else g a := fun a => by rw [hkm]; rfl
            rw [← hkm] at o1 o2
            have o : ∀ a, a ≠ 2 → a ≠ 23 + k → a ≠ 13 + k → edRow g v w a = g a := fun a x y z => by rw [eg, if_neg x, if_neg y, if_neg z]
            refine ⟨⟨?_, ?_, ?_⟩, fun j hj => ⟨?_, ?_⟩, fun j hj => ⟨?_, ?_⟩⟩
            · rw [o0, upd_n (by decide), o 0 (by omega) (by omega) (by omega)]; exact W.1.1
            · rw [o0, upd_n (by decide), o 1 (by omega) (by omega) (by omega)]; exact W.1.2.1
            · rw [o0, upd_s, eg, if_pos rfl]
            · rw [o3, o _ (by omega) (by omega) (by omega)]; exact (W.2.1 j hj).1
            · rw [o4, o _ (by omega) (by omega) (by omega)]; exact (W.2.1 j hj).2
            · rw [eg 2, if_pos rfl, s2] at hj
              rw [o1, upd_i]
              by_cases y : j = k
              · rw [if_pos y, eg, if_neg (by omega), if_neg (by omega), if_pos (by omega)]
              · rw [if_neg y, o _ (by omega) (by omega) (by omega)]; exact (W.2.2 j (by omega)).1
            · rw [eg 2, if_pos rfl, s2] at hj
              rw [o2, upd_i]
              by_cases y : j = k
              · rw [if_pos y, eg, if_neg (by omega), if_pos (by omega)]
              · rw [if_neg y, o _ (by omega) (by omega) (by omega)]; exact (W.2.2 j (by omega)).2
        · exact Or.inr ⟨v0, edR_f no⟩
      · have n13 : ¬ isW t n i 13 := fun z => q3 (w3.mpr z)
        have x4 : x2 = 4 := by
          apply Int32.toInt_inj.mp
          have a1 : x2.toInt ≠ 1 := fun z => q1 (Int32.toInt_inj.mp z)
          have a2 : x2.toInt ≠ 2 := fun z => q2 (Int32.toInt_inj.mp z)
          have a3 : x2.toInt ≠ 3 := fun z => q3 (Int32.toInt_inj.mp z)
          simp only [Int32.reduceToInt]
          omega
        rw [lnR_l n12 n13 (w4.mp x4)]
        refine pt_gC (pt_zb (pt_ok (xs_passNumber C1 A1 (by decide))) (fun v2 σ2 h2 => ?_))
        obtain ⟨f2, h2⟩ := h2
        have f2 : F8 σ1 σ2 := f2
        refine pt_if (fun q => ?_) (fun q => ?_)
        · have h2 := h2.resolve_left (fun z => absurd (z.1.symm.trans q) (by decide))
          refine vl_211 hB (Or.inr ⟨rfl, ?_⟩)
          have : letR t n (g 0) (tkE t n i) sg = none := if_neg (fun w => h2.2 w.1)
          rw [this]; rfl
        obtain ⟨_, ⟨ok, A2⟩, p2, lv⟩ := h2.resolve_right (fun z => q z.1)
        have A2 : CA (σ2.1 57 9) t n c (tkE t n (tkE t n i)) := A2
        have F2 := f1.tr f2
        have C2 := CB_fr F2.1 hC
        refine pt_gC (pt_zb (pt_ok (xs_pass C2 A2 (by decide))) (fun v3 σ3 h3 => ?_))
        obtain ⟨f3, h3⟩ := h3
        have f3 : F8 σ2 σ3 := f3
        refine pt_if (fun q => ?_) (fun q => ?_)
        · have h3 := h3.resolve_left (fun z => absurd (z.1.symm.trans q) (by decide))
          refine vl_211 hB (Or.inr ⟨rfl, ?_⟩)
          have : letR t n (g 0) (tkE t n i) sg = none := if_neg (fun w => h3.2 ((ck_s (by decide)).mpr w.2))
          rw [this]; rfl
        have h3 := h3.resolve_right (fun z => q z.1)
        have A3 : CA (σ3.1 57 9) t n c (tkE t n (tkE t n (tkE t n i))) := h3.2.2
        have k61 := (ck_s (by decide)).mp h3.2.1
        have F3 := F2.tr f3
        have C3 := CB_fr F3.1 hC
        have el : letR t n (g 0) (tkE t n i) sg = sumR t n (g 0) (tkE t n (tkE t n (tkE t n i))) sg := if_pos ⟨ok, k61⟩
        rw [el]
        have PHs : PH t n c (g 0) (tkE t n (tkE t n (tkE t n i))) [] sg 0 σ3 := ⟨⟨C3, A3, F3.1.2.2.trans h7⟩, ⟨by rw [F3.2]; exact h8.1, h8.2⟩, rfl, by decide⟩
        refine pt_gC (pt_zb (pt_ok ((csum_all hN 24).1 _ [] sg 0 σ3 PHs rfl (by decide))) (fun v4 σ4 h4 => ?_))
        obtain ⟨f4, h4⟩ := h4
        have f4 : Fr σ3 σ4 := f4
        have F4 := F3.1.tr f4
        refine pt_if (fun q => ?_) (fun q => ?_)
        · have h4 := h4.resolve_left (fun z => absurd (z.1.symm.trans q) (by decide))
          obtain ⟨e, rc, z⟩ := h4.2
          refine vl_211 hB (Or.inr ⟨rfl, ?_⟩)
          rw [sumR_n rc z]; rfl
        obtain ⟨_, j, s1, ⟨⟨rc, le⟩, ncb⟩, A4, e8, l24⟩ := h4.resolve_right (fun z => q z.1)
        have A4 : CA (σ4.1 57 9) t n c j := A4
        have e8 : (σ4.1 57 8).toInt = (s1 : Int) := e8
        have C4 := CB_fr F4 hC
        have es : sumR t n (g 0) (tkE t n (tkE t n (tkE t n i))) sg = some (j, s1) := sumR_s (c := (j, true, [], s1)) ⟨rc, stp_e ncb (fun z => absurd z.2 List.not_mem_nil), List.not_mem_nil⟩
        refine pt_gC (pt_zb (pt_ok (xs_emit C4)) (fun v5 σ5 h5 => ?_))
        have v51 : v5 = 1 := h5.1
        have f5 : F9 σ4 σ5 := h5.2
        refine pt_if (fun q => absurd (v51.symm.trans q) (by decide)) (fun _ => ?_)
        have F5 := F4.tr f5.1.1
        refine vl_211 hB (Or.inl ⟨rfl, j, g, s1, by rw [es]; rfl, ⟨CB_fr F5 hC, by rw [f5.2]; exact A4⟩, ⟨F5.2.2.trans h7, by rw [f5.1.2]; exact e8, l24⟩, ?_⟩)
        exact WB_e (fun a ha => fB hB F5.1 ha) (hW.2.2 g1)
theorem vl_51 {x2 y0 y1 : Int32} (hN : 1048576 ≤ N) (hB : B = 2 ∨ B = 28) (hC : CB σ t n c) (hA : CA (σ.1 57 9) t n c i) (h7 : σ.1 57 7 = g 0) (h8 : (σ.1 57 8).toInt = (sg : Int) ∧ sg ≤ 24) (hW : WP σ.1 B g) (hL : LI g) (hx : (tkK t n i = 1 ∧ x2 = wv t n i) ∨ (¬ tkK t n i = 1 ∧ x2 = -1)) (hy0 : (x2 = 1 ∧ y0 = 1) ∨ (¬ x2 = 1 ∧ y0 = 0)) (hy1 : (g 1 = 0 ∧ y1 = 1) ∨ (¬ g 1 = 0 ∧ y1 = 0)) : Pt (J_X5_readLine_51 N 57 B x2 y0 y1 σ) (LQ t n c B (bdR t n i g sg)) := by
  have wn : ∀ w, w < 11 → isW t n i (w + 11) → x2 = cod.getD w 0 := fun w hw z => by
    rcases hx with h | h
    · rw [h.2]; exact (wv_iff hw).mpr z
    · exact absurd z.1 h.1
  have bad : ∀ x1 : Int32, bdR t n i g sg = none → Pt (zl (gC 5 57) fun _ => zb (f_X5_fail N 57 x1 σ) fun v8 σ9 => rZ v8 σ9) (LQ t n c B (bdR t n i g sg)) := fun x1 z =>
    pt_gC (pt_zb (pt_ok (xs_fail hC hA)) (fun v σ1 h1 => pt_rZ (Or.inr ⟨h1.1, Or.inl z⟩)))
  have out : (x2.toInt < 1 ∨ 4 < x2.toInt) → bdR t n i g sg = none := fun z => by
    unfold bdR
    split
    · exact nmR_f (fun w => by rw [wn 0 (by decide) w.1] at z; exact absurd z (by decide))
    · exact lnR_z (fun w => by rw [wn 1 (by decide) w] at z; exact absurd z (by decide)) (fun w => by rw [wn 2 (by decide) w] at z; exact absurd z (by decide)) (fun w => by rw [wn 3 (by decide) w] at z; exact absurd z (by decide))
  rw [J_X5_readLine_51.eq_1]
  refine pt_if (fun q => ?_) (fun q => bad 1 ?_)
  · have hf : g 1 = 0 ↔ x2 = 1 := by
      rcases hy0 with ⟨a, rfl⟩ | ⟨a, rfl⟩
      · rcases hy1 with ⟨b, rfl⟩ | ⟨b, rfl⟩
        · exact ⟨fun _ => a, fun _ => b⟩
        · exact absurd q (by decide)
      · rcases hy1 with ⟨b, rfl⟩ | ⟨b, rfl⟩
        · exact absurd q (by decide)
        · exact ⟨fun z => absurd z b, fun z => absurd z a⟩
    refine pt_if (fun q1 => bad 1 (out (Or.inl ?_))) (fun q1 => pt_if (fun q4 => ?_) (fun q4 => bad 1 (out (Or.inr ?_))))
    · rw [Int32.lt_iff_toInt_lt] at q1; simpa using q1
    · rw [Int32.lt_iff_toInt_lt] at q1
      rw [Int32.le_iff_toInt_le] at q4
      simp only [Int32.reduceToInt] at q1 q4
      have hx := hx.resolve_right (fun z => by rw [z.2] at q1; exact absurd q1 (by decide))
      refine pt_if (fun q3 => pt_gI (pt_gI (pt_if (fun l => ?_) (fun l => bad 3 ?_)))) (fun q3 => ?_)
      · refine vl_92 hN hB hC hA h7 h8 hW hL hx.1 hx.2 (by omega) hf (fun _ z => ?_)
        rw [hW.1.2.2, h7, z, Int32.lt_iff_toInt_lt] at l
        omega
      · rw [hW.1.2.2, h7, Int32.lt_iff_toInt_lt] at l
        have hb := hL.1.1
        have e20 : g 2 = g 0 := Int32.toInt_inj.mp (by omega)
        have n1 : ¬ g 1 = 0 := fun z => by rw [hf.mp z] at q3; exact absurd q3 (by decide)
        have w13 : isW t n i 13 := (wv_iff (w := 2) (by decide)).mp (hx.2.symm.trans q3)
        have : bdR t n i g sg = lnR t n i g sg := if_neg n1
        rw [this]
        exact lnR_m (fun z => absurd (isW_u (a := 1) (b := 2) (by decide) (by decide) z w13) (by decide)) w13 e20
      · exact vl_92 hN hB hC hA h7 h8 hW hL hx.1 hx.2 (by omega) hf (fun z => absurd z q3)
    · rw [Int32.le_iff_toInt_le] at q4; simp only [Int32.reduceToInt] at q4; omega
  · unfold bdR
    rcases hy0 with ⟨a, rfl⟩ | ⟨a, rfl⟩
    · rcases hy1 with ⟨b, rfl⟩ | ⟨b, rfl⟩
      · exact absurd rfl q
      · rw [if_neg b]
        refine lnR_z (fun w => ?_) (fun w => ?_) (fun w => ?_)
        · exact absurd (a.symm.trans (wn 1 (by decide) w)) (by decide)
        · exact absurd (a.symm.trans (wn 2 (by decide) w)) (by decide)
        · exact absurd (a.symm.trans (wn 3 (by decide) w)) (by decide)
    · rcases hy1 with ⟨b, rfl⟩ | ⟨b, rfl⟩
      · rw [if_pos b]
        exact nmR_f (fun w => a (wn 0 (by decide) w.1))
      · exact absurd rfl q
theorem vl_line (hN : 1048576 ≤ N) (hB : B = 2 ∨ B = 28) (hC : CB σ t n c) (hA : CA (σ.1 57 9) t n c i) (h7 : σ.1 57 7 = g 0) (h8 : (σ.1 57 8).toInt = (sg : Int) ∧ sg ≤ 24) (hW : WP σ.1 B g) (hL : LI g) : Pt (f_X5_readLine N 57 B σ) (LQ t n c B (bdR t n i g sg)) := by
  have row := CA_row hC.2.1 hA
  have e1 : σ.1 61 (σ.1 57 9).toInt.toNat = ck (tkK t n i) := row.1.1
  have go : ∀ x2 : Int32, ((tkK t n i = 1 ∧ x2 = wv t n i) ∨ (¬ tkK t n i = 1 ∧ x2 = -1)) → Pt (J_X5_readLine_26 N 57 B x2 σ) (LQ t n c B (bdR t n i g sg)) := fun x2 hx => by
    rw [J_X5_readLine_26.eq_1]
    refine pt_gI ?_
    rw [hW.1.2.1]
    have go2 : ∀ y1 : Int32, ((g 1 = 0 ∧ y1 = 1) ∨ (¬ g 1 = 0 ∧ y1 = 0)) → Pt (J_X5_readLine_39 N 57 B x2 y1 σ) (LQ t n c B (bdR t n i g sg)) := fun y1 hy => by
      rw [J_X5_readLine_39.eq_1]
      exact pt_if (fun q => vl_51 hN hB hC hA h7 h8 hW hL hx (Or.inl ⟨q, rfl⟩) hy) (fun q => vl_51 hN hB hC hA h7 h8 hW hL hx (Or.inr ⟨q, rfl⟩) hy)
    exact pt_if (fun q => go2 1 (Or.inl ⟨q, rfl⟩)) (fun q => go2 0 (Or.inr ⟨q, rfl⟩))
  rw [f_X5_readLine.eq_1]
  refine pt_gR (v := 61) (hC.1.1 57 10 rfl) (pt_gI (pt_aI ?_))
  rw [e1]
  refine pt_if (fun q => ?_) (fun q => go (-1) (Or.inr ⟨fun z => q (ck_w.mpr z), rfl⟩))
  refine pt_gR (v := 62) (hC.1.1 57 11 rfl) (pt_gI (pt_aI ?_))
  exact go _ (Or.inl ⟨ck_w.mp q, row.2.2 (ck_w.mp q)⟩)
end CLINE2

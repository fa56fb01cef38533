/-! ===== families, slots and edges alike in both ===== -/
/-- a world's edges: no more than names, unlike ends -/
def WX (g : Nat → Int32) : Prop := UE g ∧ (g 2).toInt ≤ (g 0).toInt ∧ (g 0).toInt ≤ 10
def FAM (L : Nat → Nat → Int64) (g : Nat → Int32) (B a : Nat) (m : Int32) : Prop := (∀ p, p < 10 → ∀ u, u < 1024 → bt (L (B + 6 + 2 * p + 1)) u = rb g (a + 1024 * p) u) ∧ ∀ p, p < 10 → ∀ u, u < 1024 → rb g (a + 1024 * p) u = true → u < mn m
def SLQ (σ : zS) : Prop := (∀ s, s < 4 → ∀ j, j < 60 → σ.2.1 (210 + 2 * s + 1) j = σ.2.1 241 (60 * s + j)) ∧ ∀ s, s < 4 → 0 ≤ (σ.1 240 s).toInt ∧ (σ.1 240 s).toInt ≤ 3
def FQ (σ : zS) : Prop := (FAM σ.2.1 (σ.1 220) (σ.2.2 0 4) 0 (σ.1 219 0) ∧ ∀ k, k < 3 → FAM σ.2.1 (σ.1 222) (132 + 26 * k) (10240 * k) (σ.1 221 (43 * k))) ∧ (WX (σ.1 219) ∧ ∀ k, k < 3 → WX (fun j => σ.1 221 (43 * k + j))) ∧ SLQ σ
section FQS
variable {σ σ1 σ2 : zS} {v w : Int32} {p : Nat}
/-- what of a world's row the edges and names are -/
def eJ (j : Nat) : Prop := j = 0 ∨ j = 2 ∨ (13 ≤ j ∧ j < 33)
theorem WX_e {g g' : Nat → Int32} (h : ∀ j, eJ j → g' j = g j) (hw : WX g) : WX g' := by
  have e2 := h 2 (Or.inr (Or.inl rfl))
  refine ⟨fun k hk => ?_, by rw [e2, h 0 (Or.inl rfl)]; exact hw.2.1, by rw [h 0 (Or.inl rfl)]; exact hw.2.2⟩
  rw [e2] at hk
  have := hw.2
  rw [h _ (Or.inr (Or.inr ⟨by omega, by omega⟩)), h _ (Or.inr (Or.inr ⟨by omega, by omega⟩))]
  exact hw.1 k hk
theorem rb_g {g g' : Nat → Int32} {a a' s s' : Nat} (h : g' (a' + s') = g (a + s)) : rb g' a' s' = rb g a s := by
  unfold rb; rw [h]
theorem FAM_e {L L' : Nat → Nat → Int64} {g g' : Nat → Int32} {B B' a a' : Nat} {m m' : Int32} (hL : ∀ p, p < 10 → ∀ u, u < 1024 → bt (L' (B' + 6 + 2 * p + 1)) u = bt (L (B + 6 + 2 * p + 1)) u) (hg : ∀ j, j < 10240 → g' (a' + j) = g (a + j)) (hm : m' = m) (h : FAM L g B a m) : FAM L' g' B' a' m' := by
  have e : ∀ p, p < 10 → ∀ u, u < 1024 → rb g' (a' + 1024 * p) u = rb g (a + 1024 * p) u := fun p hp u hu => rb_g (by rw [Nat.add_assoc, Nat.add_assoc]; exact hg _ (by omega))
  refine ⟨fun p hp u hu => ?_, fun p hp u hu q => ?_⟩
  · rw [hL p hp u hu, e p hp u hu]; exact h.1 p hp u hu
  · rw [hm]
    rw [e p hp u hu] at q
    exact h.2 p hp u hu q
theorem FQ_f (hF : FQ σ) {u : Nat} (hp : p < 10) (hu : u < 1024) : bt (σ.2.1 (σ.2.2 0 4 + 6 + 2 * p + 1)) u = rb (σ.1 220) (1024 * p) u := by
  have := hF.1.1.1 p hp u hu
  rw [Nat.zero_add] at this
  exact this
theorem FQ_i (hF : FQ σ) {u : Nat} (hp : p < 10) (hu : u < 1024) (h : rb (σ.1 220) (1024 * p) u = true) : u < mn (σ.1 219 0) := by
  have := hF.1.1.2 p hp u hu
  rw [Nat.zero_add] at this
  exact this h
theorem FQ_FI (hF : FQ σ) (hW : WQ σ) : FI σ (σ.2.2 0 4) := fun p hp u hu h => by
  rw [FQ_f hF hp hu] at h
  rw [show σ.1 (σ.2.2 0 4) 0 = σ.1 219 0 from hW.1.1.1]
  exact FQ_i hF hp hu h
theorem isWc4 (h : σ.2.2 0 4 = 2 ∨ σ.2.2 0 4 = 28) : isWc (σ.2.2 0 4) := by unfold isWc; omega
/-- nothing of it is other -/
theorem FQ_0 (hF : FQ σ) (h4 : σ.2.2 0 4 = 2 ∨ σ.2.2 0 4 = 28) (f4 : σ2.2.2 0 4 = σ.2.2 0 4) (hL : ∀ a, WR a → σ2.2.1 a = σ.2.1 a) (fi : ∀ k ∈ [220, 221, 222, 240], σ2.1 k = σ.1 k) (h9 : ∀ j, eJ j → σ2.1 219 j = σ.1 219 j) : FQ σ2 := by
  have e20 := fi 220 (by decide)
  have e21 := fi 221 (by decide)
  have e22 := fi 222 (by decide)
  refine ⟨⟨?_, fun k hk => ?_⟩, ⟨WX_e h9 hF.2.1.1, fun k hk => ?_⟩, fun s hs j hj => ?_, fun s hs => ?_⟩
  · rw [f4, e20, h9 0 (Or.inl rfl)]
    exact FAM_e (fun p hp u _ => by rw [hL _ (by unfold WR; omega)]) (fun _ _ => rfl) rfl hF.1.1
  · rw [e22, e21]
    exact FAM_e (fun p hp u _ => by rw [hL _ (by unfold WR; omega)]) (fun _ _ => rfl) rfl (hF.1.2 k hk)
  · rw [e21]; exact hF.2.1.2 k hk
  · rw [hL _ (by unfold WR; omega), hL 241 (by unfold WR; omega)]; exact hF.2.2.1 s hs j hj
  · rw [fi 240 (by decide)]; exact hF.2.2.2 s hs
/-- one register of both is other -/
theorem FQ_M {S S' : Nat → Prop} (hF : FQ σ) (h4 : σ.2.2 0 4 = 2 ∨ σ.2.2 0 4 = 28) (f4 : σ2.2.2 0 4 = σ.2.2 0 4) (fi : ∀ k ∈ [219, 221, 222, 240], σ2.1 k = σ.1 k) (f20 : σ1.1 220 = σ.1 220) (fL : σ2.2.1 = σ1.2.1)
    (c1 : ∀ u, u < 1024 → (bt (σ1.2.1 (σ.2.2 0 4 + 6 + 2 * p + 1)) u = true ↔ S u)) (c2 : ∀ a, WR a → a ≠ σ.2.2 0 4 + 6 + 2 * p + 1 → σ1.2.1 a = σ.2.1 a)
    (r1 : ∀ u, u < 1024 → (rb (σ2.1 220) (1024 * p) u = true ↔ S' u)) (r2 : ∀ k, (k < 1024 * p ∨ 1024 * p + 1024 ≤ k) → σ2.1 220 k = σ1.1 220 k)
    (hp : p < 10) (hS : ∀ u, u < 1024 → (S u ↔ S' u)) (hin : ∀ u, u < 1024 → S' u → u < mn (σ.1 219 0)) : FQ σ2 := by
  have e19 := fi 219 (by decide)
  have e21 := fi 221 (by decide)
  have e22 := fi 222 (by decide)
  have o : ∀ q, q < 10 → q ≠ p → ∀ u, u < 1024 → rb (σ2.1 220) (1024 * q) u = rb (σ.1 220) (1024 * q) u := fun q hq ne u hu => rb_g (by rw [r2 _ (by omega), f20])
  refine ⟨⟨⟨fun q hq u hu => ?_, fun q hq u hu h => ?_⟩, fun k hk => ?_⟩, ⟨by rw [e19]; exact hF.2.1.1, fun k hk => ?_⟩, fun s hs j hj => ?_, fun s hs => ?_⟩
  · rw [f4, fL, Nat.zero_add]
    by_cases e : q = p
    · subst e
      rw [Bool.eq_iff_iff, c1 u hu, r1 u hu]; exact hS u hu
    · rw [c2 _ (by unfold WR; omega) (by omega), FQ_f hF hq hu, o q hq e u hu]
  · rw [e19]
    rw [Nat.zero_add] at h
    by_cases e : q = p
    · subst e
      exact hin u hu ((r1 u hu).mp h)
    · rw [o q hq e u hu] at h
      exact FQ_i hF hq hu h
  · rw [e22, e21, fL]
    exact FAM_e (fun q hq u _ => by rw [c2 _ (by unfold WR; omega) (by omega)]) (fun _ _ => rfl) rfl (hF.1.2 k hk)
  · rw [e21]; exact hF.2.1.2 k hk
  · rw [fL, c2 _ (by unfold WR; omega) (by omega), c2 241 (by unfold WR; omega) (by omega)]; exact hF.2.2.1 s hs j hj
  · rw [fi 240 (by decide)]; exact hF.2.2.2 s hs
/-- how many there are, in both -/
theorem ct_both {F G : Nat → Bool} {M : Nat} (hM : M ≤ 1024) (h : ∀ u, u < 1024 → F u = G u) (hG : ∀ u, u < 1024 → G u = true → u < M) : ct F 1024 = ct G M := by
  rw [ct_c h]
  refine ct_top hM (fun u h1 h2 => ?_)
  cases q : G u with
  | false => rfl
  | true => have := hG u h2 q; omega
/-- a register that both make anew, or neither -/
theorem FQ_R {c : Prop} {S S' : Nat → Prop} (hF : FQ σ) (h4 : σ.2.2 0 4 = 2 ∨ σ.2.2 0 4 = 28) (hn : 0 ≤ (σ.1 219 0).toInt ∧ (σ.1 219 0).toInt ≤ 10) (f4 : σ2.2.2 0 4 = σ.2.2 0 4) (fi : ∀ k ∈ [219, 221, 222, 240], σ2.1 k = σ.1 k) (f9 : σ1.1 219 = σ.1 219) (f20 : σ1.1 220 = σ.1 220) (fL : σ2.2.1 = σ1.2.1)
    (hc : (c → CM σ σ1 v (σ.2.2 0 4) p S) ∧ (¬ c → v = -2 ∧ LW σ σ1)) (hr : (c → RM σ1 σ2 w p S') ∧ (¬ c → w = -2 ∧ σ2.1 220 = σ1.1 220))
    (hp : c → p < 10) (hS : c → ∀ u, u < 1024 → (S u ↔ S' u)) (hin : c → ∀ u, u < 1024 → S' u → u < mn (σ.1 219 0)) : FQ σ2 ∧ v = w := by
  by_cases q : c
  · obtain ⟨c1, c2, c3⟩ := hc.1 q
    obtain ⟨r1, r2, r3⟩ := hr.1 q
    have hF2 := FQ_M hF h4 f4 fi f20 fL c1 c2 r1 r2 (hp q) (hS q) (hin q)
    refine ⟨hF2, Int32.toInt_inj.mp ?_⟩
    have k := ct_both (F := bt (σ1.2.1 (σ.2.2 0 4 + 6 + 2 * p + 1))) (G := rb (σ2.1 220) (1024 * p)) (mn_le hn.2) (fun u hu => by rw [Bool.eq_iff_iff, c1 u hu, r1 u hu]; exact hS q u hu) (fun u hu h => hin q u hu ((r1 u hu).mp h))
    have l := ct_le (rb (σ2.1 220) (1024 * p)) (mn (σ.1 219 0))
    have l2 := mn_le hn.2
    rw [c3, r3, f9, k, nI_toInt (by omega)]
  · have a := hc.2 q
    have b := hr.2 q
    refine ⟨FQ_0 hF h4 f4 (fun a' ha => by rw [fL]; exact a.2 a' ha) (fun k hk => ?_) (fun j _ => by rw [fi 219 (by decide)]), a.1.trans b.1.symm⟩
    simp only [List.mem_cons, List.not_mem_nil, or_false] at hk
    rcases hk with rfl | rfl | rfl | rfl
    · rw [b.2, f20]
    · exact fi 221 (by decide)
    · exact fi 222 (by decide)
    · exact fi 240 (by decide)
/-- a set comes or goes, in both -/
theorem FQ_S {x1 x2 x3 : Int32} (hF : FQ σ) (h4 : σ.2.2 0 4 = 2 ∨ σ.2.2 0 4 = 28) (hn : 0 ≤ (σ.1 219 0).toInt ∧ (σ.1 219 0).toInt ≤ 10) (h01 : x3 = 0 ∨ x3 = 1) (f4 : σ2.2.2 0 4 = σ.2.2 0 4) (fi : ∀ k ∈ [219, 221, 222, 240], σ2.1 k = σ.1 k) (f20 : σ1.1 220 = σ.1 220) (fL : σ2.2.1 = σ1.2.1)
    (hc : (seC (σ.1 219 0) x1 x2 → ((∀ u, u < 1024 → (bt (σ1.2.1 (σ.2.2 0 4 + 6 + 2 * x1.toInt.toNat + 1)) u = true ↔ if u = x2.toInt.toNat then x3 = 1 else bt (σ.2.1 (σ.2.2 0 4 + 6 + 2 * x1.toInt.toNat + 1)) u = true)) ∧ (∀ a, WR a → a ≠ σ.2.2 0 4 + 6 + 2 * x1.toInt.toNat + 1 → σ1.2.1 a = σ.2.1 a)) ∧ (v = 0 ∨ v = 1) ∧ (v = 0 ↔ (bt (σ.2.1 (σ.2.2 0 4 + 6 + 2 * x1.toInt.toNat + 1)) x2.toInt.toNat = true ↔ x3 = 1))) ∧ (¬ seC (σ.1 219 0) x1 x2 → v = -2 ∧ LW σ σ1))
    (hr : (seC (σ.1 219 0) x1 x2 → σ2.1 220 = upd (σ1.1 220) (1024 * x1.toInt.toNat + x2.toInt.toNat) x3 ∧ (w = 0 ∨ w = 1) ∧ (w = 0 ↔ (rb (σ1.1 220) (1024 * x1.toInt.toNat) x2.toInt.toNat = true ↔ x3 = 1))) ∧ (¬ seC (σ.1 219 0) x1 x2 → w = -2 ∧ σ2.1 220 = σ1.1 220)) : FQ σ2 ∧ v = w := by
  by_cases q : seC (σ.1 219 0) x1 x2
  · obtain ⟨⟨c1, c2⟩, c3, c4⟩ := hc.1 q
    obtain ⟨r1, r3, r4⟩ := hr.1 q
    obtain ⟨p, hp, rfl⟩ := isR_n q.1
    obtain ⟨s, rfl, hs⟩ := isS_n hn.2 q.2
    have ms := mn_le hn.2
    rw [iN (m := p) (by omega)] at c1 c2 c4 r1 r4
    rw [iN (m := s) (by omega)] at c1 c4 r1 r4
    have s10 : s < 1024 := by omega
    refine ⟨FQ_M (S' := fun u => if u = s then x3 = 1 else rb (σ.1 220) (1024 * p) u = true) hF h4 f4 fi f20 fL c1 c2 (fun u hu => ?_) (fun k hk => ?_) hp (fun u hu => ?_) (fun u hu h => ?_), ?_⟩
    · show rb (σ2.1 220) (1024 * p) u = true ↔ if u = s then x3 = 1 else rb (σ.1 220) (1024 * p) u = true
      rw [rb_t, r1, upd_i]
      by_cases e : u = s
      · rw [if_pos (by omega), if_pos e]
        rcases h01 with z | z
        · rw [z]; exact ⟨fun y => absurd rfl y, fun y => absurd y (by decide)⟩
        · rw [z]; exact ⟨fun _ => rfl, fun _ => by decide⟩
      · rw [if_neg (by omega), if_neg e, rb_t, f20]
    · rw [r1, upd_n (by omega)]
    · by_cases e : u = s
      · rw [if_pos e, if_pos e]
      · rw [if_neg e, if_neg e, FQ_f hF hp hu]
    · by_cases e : u = s
      · rw [e]; exact hs
      · have h : (if u = s then x3 = 1 else rb (σ.1 220) (1024 * p) u = true) := h
        rw [if_neg e] at h
        exact FQ_i hF hp hu h
    · rw [FQ_f hF hp s10] at c4
      rw [f20] at r4
      have k : v = 0 ↔ w = 0 := c4.trans r4.symm
      rcases c3 with a | a
      · rw [a, k.mp a]
      · rcases r3 with b | b
        · rw [k.mpr b] at a; exact absurd a (by decide)
        · rw [a, b]
  · have a := hc.2 q
    have b := hr.2 q
    refine ⟨FQ_0 hF h4 f4 (fun a' ha => by rw [fL]; exact a.2 a' ha) (fun k hk => ?_) (fun j _ => by rw [fi 219 (by decide)]), a.1.trans b.1.symm⟩
    simp only [List.mem_cons, List.not_mem_nil, or_false] at hk
    rcases hk with rfl | rfl | rfl | rfl
    · rw [b.2, f20]
    · exact fi 221 (by decide)
    · exact fi 222 (by decide)
    · exact fi 240 (by decide)
/-- steps stay within the names -/
theorem RG_s {n : Nat} : ∀ (O : List zOp) (s : zEv), RG (2 ^ n) s → vds (2 ^ n) O s.2.length → RG (2 ^ n) (evs (2 ^ n) O s)
  | [], s, h, _ => h
  | o :: O, s, h, hv => by
    have g := RG_1 h hv.1
    refine RG_s O _ g.1 ?_
    rw [g.2]; exact hv.2
/-- a put in both -/
theorem FQ_P {x1 : Int32} {t : Nat → Int32} {n : Nat} (hF : FQ σ) (h4 : σ.2.2 0 4 = 2 ∨ σ.2.2 0 4 = 28) (hn : 0 ≤ (σ.1 219 0).toInt ∧ (σ.1 219 0).toInt ≤ 10) (e0 : σ.1 (σ.2.2 0 4) 0 = σ.1 219 0) (f4 : σ2.2.2 0 4 = σ.2.2 0 4) (fi : ∀ k ∈ [219, 221, 222, 240], σ2.1 k = σ.1 k) (f9 : σ1.1 219 = σ.1 219) (f20 : σ1.1 220 = σ.1 220) (fL : σ2.2.1 = σ1.2.1)
    (hc : CPQ t n x1 (σ.2.2 0 4) (fun p u => rb (σ.1 220) (1024 * p) u) σ (v, σ1)) (hr : RPQ t n x1 (fun p u => rb (σ.1 220) (1024 * p) u) σ1 (w, σ2)) : FQ σ2 ∧ v = w := by
  unfold CPQ at hc
  unfold RPQ at hr
  rw [e0] at hc
  rw [f9] at hr
  have same : σ1.2.1 = σ.2.1 → σ2.1 220 = σ1.1 220 → FQ σ2 := fun a b => by
    refine FQ_0 hF h4 f4 (fun a' _ => by rw [fL, a]) (fun k hk => ?_) (fun j _ => by rw [fi 219 (by decide)])
    simp only [List.mem_cons, List.not_mem_nil, or_false] at hk
    rcases hk with rfl | rfl | rfl | rfl
    · rw [b, f20]
    · exact fi 221 (by decide)
    · exact fi 222 (by decide)
    · exact fi 240 (by decide)
  by_cases q : isR (σ.1 219 0) x1
  · have hc := hc.2 q
    have hr := hr.2 q
    by_cases o : pO t n (σ.1 219 0)
    · obtain ⟨d, dE, c1, c2, c3⟩ := hc.2 o
      obtain ⟨d', dE', r1, r3⟩ := hr.2 o
      have u := pE_u dE dE'
      subst u
      obtain ⟨p, hp, rfl⟩ := isR_n q
      obtain ⟨k, ek, k0, k10⟩ := world_n q.1 hn.2
      rw [ek] at dE
      have H := pE_H k10 hp dE
      have eM : mn (σ.1 219 0) = 2 ^ k := by rw [ek, mnn k0 k10]
      have G0 : RG (2 ^ k) ((fun p u => rb (σ.1 220) (1024 * p) u), ([] : List zFm)) := ⟨fun p hp u hu h => by
        have := FQ_i hF hp hu h
        rw [eM] at this; exact this, fun x hx => absurd hx List.not_mem_nil⟩
      have GR := RG_s (pS d (nI p)) _ G0 H.1
      rw [show (σ.1 219 0).toInt.toNat = k by rw [ek]; exact iN (by omega)] at c1 r1
      have c1 : ∀ q, q < 10 → ∀ u, u < 1024 → bt (σ1.2.1 (σ.2.2 0 4 + 6 + 2 * q + 1)) u = (evs (2 ^ k) (pS d (nI p)) ((fun p u => rb (σ.1 220) (1024 * p) u), [])).1 q u := c1
      have r1 : ∀ q, q < 10 → ∀ u, u < 1024 → rb (σ2.1 220) (1024 * q) u = (evs (2 ^ k) (pS d (nI p)) ((fun p u => rb (σ.1 220) (1024 * p) u), [])).1 q u := r1
      have c2 : ∀ a, WR a → ¬ (σ.2.2 0 4 + 6 ≤ a ∧ a < σ.2.2 0 4 + 26) → σ1.2.1 a = σ.2.1 a := c2
      rw [iN (m := p) (by omega)] at c3 r3
      have e19 := fi 219 (by decide)
      have e21 := fi 221 (by decide)
      have e22 := fi 222 (by decide)
      have hF2 : FQ σ2 := by
        refine ⟨⟨⟨fun q hq u hu => ?_, fun q hq u hu h => ?_⟩, fun k hk => ?_⟩, ⟨by rw [e19]; exact hF.2.1.1, fun k hk => ?_⟩, fun s hs j hj => ?_, fun s hs => ?_⟩
        · rw [f4, fL, Nat.zero_add, c1 q hq u hu, r1 q hq u hu]
        · rw [Nat.zero_add, r1 q hq u hu] at h
          rw [e19, eM]; exact GR.1 q hq u hu h
        · rw [e22, e21, fL]
          exact FAM_e (fun q hq u _ => by rw [c2 _ (by unfold WR; omega) (by omega)]) (fun _ _ => rfl) rfl (hF.1.2 k hk)
        · rw [e21]; exact hF.2.1.2 k hk
        · rw [fL, c2 _ (by unfold WR; omega) (by omega), c2 241 (by unfold WR; omega) (by omega)]; exact hF.2.2.1 s hs j hj
        · rw [fi 240 (by decide)]; exact hF.2.2.2 s hs
      refine ⟨hF2, Int32.toInt_inj.mp ?_⟩
      have k2 := ct_both (F := bt (σ1.2.1 (σ.2.2 0 4 + 6 + 2 * p + 1))) (G := rb (σ2.1 220) (1024 * p)) (mn_le hn.2) (fun u hu => by rw [c1 p hp u hu, r1 p hp u hu]) (fun u hu h => by
        rw [r1 p hp u hu] at h
        rw [eM]; exact GR.1 p hp u hu h)
      have l := ct_le (rb (σ2.1 220) (1024 * p)) (mn (σ.1 219 0))
      have l2 := mn_le hn.2
      have c3 : v.toInt = (ct (bt (σ1.2.1 (σ.2.2 0 4 + 6 + 2 * p + 1))) 1024 : Int) := c3
      have r3 : w = nI (ct (rb (σ2.1 220) (1024 * p)) (mn (σ.1 219 0))) := r3
      rw [c3, r3, k2, nI_toInt (by omega)]
    · have a := hc.1 o
      have b := hr.1 o
      exact ⟨same a.2 b.2, a.1.trans b.1.symm⟩
  · have a := hc.1 q
    have b := hr.1 q
    exact ⟨same a.2 b.2, a.1.trans b.1.symm⟩
/-- a world in both -/
theorem FQ_W {t : Nat → Int32} {n : Nat} {G : Nat → Int32} (hF : FQ σ) (h45 : (σ.2.2 0 4 = 2 ∧ σ.2.2 0 5 = 28) ∨ (σ.2.2 0 4 = 28 ∧ σ.2.2 0 5 = 2)) (h6 : n ≤ 600) (hG : ∀ j, j < 43 → G j = 0) (f4 : σ2.2.2 0 4 = σ1.2.2 0 4) (fi : ∀ k ∈ [221, 222, 240], σ2.1 k = σ.1 k) (f9 : σ1.1 219 = σ.1 219) (f20 : σ1.1 220 = σ.1 220) (fL : σ2.2.1 = σ1.2.1)
    (hc : CXQ t n (σ.2.2 0 5) σ G (v, σ1)) (hc2 : CYQ t n (σ.2.2 0 5) σ G (v, σ1)) (hr : RWQ t n G (σ1.1 219) (w, σ2)) (hr2 : RYQ t n G (σ1.1 220) (w, σ2)) : FQ σ2 := by
  have e21 := fi 221 (by decide)
  have e22 := fi 222 (by decide)
  have e40 := fi 240 (by decide)
  have c2 : ∀ a, WR a → ¬ (σ.2.2 0 5 + 6 ≤ a ∧ a < σ.2.2 0 5 + 26) → σ1.2.1 a = σ.2.1 a := hc2.1
  have c3 : ¬ σ1.2.2 0 4 = σ.2.2 0 4 → ∃ (d : LC) (O : List zOp), (Rc (stW t n) ((0, G, 0), []) (d, O) ∧ stL t n d = some none) ∧ ∀ p, p < 10 → ∀ u, u < 1024 → bt (σ1.2.1 (σ.2.2 0 5 + 6 + 2 * p + 1)) u = (evs (2 ^ (d.2.1 0).toInt.toNat) O ((fun _ _ => false), [])).1 p u := hc2.2
  have im : ∀ k, k < 3 → FAM σ2.2.1 (σ2.1 222) (132 + 26 * k) (10240 * k) (σ2.1 221 (43 * k)) := fun k hk => by
    rw [e22, e21, fL]
    exact FAM_e (fun q hq u _ => by rw [c2 _ (by unfold WR; omega) (by omega)]) (fun _ _ => rfl) rfl (hF.1.2 k hk)
  have wi : ∀ k, k < 3 → WX (fun j => σ2.1 221 (43 * k + j)) := fun k hk => by rw [e21]; exact hF.2.1.2 k hk
  have sl : SLQ σ2 := ⟨fun s hs j hj => by rw [fL, c2 _ (by unfold WR; omega) (by omega), c2 241 (by unfold WR; omega) (by omega)]; exact hF.2.2.1 s hs j hj, fun s hs => by rw [e40]; exact hF.2.2.2 s hs⟩
  rcases hc with ⟨⟨_, r4, _⟩, d, rc, sn⟩ | ⟨r4, d, ⟨rc, se⟩, ⟨ev, hL⟩, hWP⟩
  · have r4 : σ1.2.2 0 4 = σ.2.2 0 4 := r4
    rcases hr with ⟨_, e219, _⟩ | ⟨d', ⟨rc', se'⟩, _⟩
    · rcases hr2 with ⟨_, e220⟩ | ⟨d', O, ⟨rc', se'⟩, _⟩
      · have e219 : σ2.1 219 = σ.1 219 := (show σ2.1 219 = σ1.1 219 from e219).trans f9
        have e220 : σ2.1 220 = σ.1 220 := (show σ2.1 220 = σ1.1 220 from e220).trans f20
        refine ⟨⟨?_, im⟩, ⟨by rw [e219]; exact hF.2.1.1, wi⟩, sl⟩
        rw [f4, r4, e220, e219, fL]
        exact FAM_e (fun q hq u _ => by rw [c2 _ (by unfold WR; omega) (by omega)]) (fun _ _ => rfl) rfl hF.1.1
      · have u : d = d' := rc.un (Rc_L rc') (fun x k => by rw [sn] at k; cases k) (fun x k => by rw [show stL t n d' = some none from se'] at k; cases k)
        rw [u, se'] at sn; cases sn
    · have u : d = d' := rc.un rc' (fun x k => by rw [sn] at k; cases k) (fun x k => by rw [se'] at k; cases k)
      rw [u, se'] at sn; cases sn
  · have r4 : σ1.2.2 0 4 = σ.2.2 0 5 := r4
    obtain ⟨dC, O, ⟨rC, sC⟩, fC⟩ := c3 (by rw [r4]; omega)
    have u : d = dC := rc.un (Rc_L rC) (fun x k => by rw [se] at k; cases k) (fun x k => by rw [sC] at k; cases k)
    subst u
    have H := HW_R h6 (HW_0 hG) rC
    have U := UE_R h6 hG rC
    have H1 : 0 ≤ (d.2.1 1).toInt := H.2.1.1
    have HL : LI d.2.1 := H.1.1
    have HV : VW (d, O) := H.2.2
    rcases hr with ⟨_, _, d', rc', sn'⟩ | ⟨d', ⟨rc', se'⟩, ⟨ew, _⟩, e219⟩
    · have u : d = d' := rc.un rc' (fun x k => by rw [se] at k; cases k) (fun x k => by rw [sn'] at k; cases k)
      rw [u, sn'] at se; cases se
    · have u : d = d' := rc.un rc' (fun x k => by rw [se] at k; cases k) (fun x k => by rw [se'] at k; cases k)
      subst u
      have ew : w = d.2.1 1 := ew
      have e219 : ∀ j, j < 43 → σ2.1 219 j = d.2.1 j := e219
      rcases hr2 with ⟨w4, _⟩ | ⟨d2, O2, ⟨rc2, se2⟩, f2⟩
      · have w4 : w = -4 := w4
        rw [← ew, w4] at H1
        exact absurd H1 (by decide)
      · have u2 : (d, O) = (d2, O2) := rC.un rc2 (fun x k => by rw [stW_e sC] at k; cases k) (fun x k => by rw [stW_e se2] at k; cases k)
        obtain ⟨rfl, rfl⟩ := Prod.mk.inj u2
        have f2 : ∀ p, p < 10 → ∀ u, u < 1024 → rb (σ2.1 220) (1024 * p) u = (evs (2 ^ (d.2.1 0).toInt.toNat) O z0).1 p u := f2
        have hb := HL.1.1
        have GR := RG_s (n := (d.2.1 0).toInt.toNat) O z0 z0_R (show vds (2 ^ (d.2.1 0).toInt.toNat) O 0 from HV.2.1)
        refine ⟨⟨⟨fun q hq u hu => ?_, fun q hq u hu h => ?_⟩, im⟩, ⟨?_, wi⟩, sl⟩
        · rw [f4, r4, fL, Nat.zero_add, fC q hq u hu, f2 q hq u hu]
          rfl
        · rw [Nat.zero_add, f2 q hq u hu] at h
          rw [e219 0 (by decide)]
          by_cases z : (d.2.1 0).toInt = 0
          · have g0 : d.2.1 0 = 0 := Int32.toInt_inj.mp (z.trans rfl)
            have g1 : d.2.1 1 = 0 := Classical.byContradiction (fun y => HL.2.2 y g0)
            have eO : O = [] := HV.1 g1
            rw [eO] at h
            cases h
          · rw [mn_p (by omega)]
            exact GR.1 q hq u hu h
        · refine WX_e (g := d.2.1) (fun j hj => e219 j (by unfold eJ at hj; omega)) ⟨U, hb.2.2, hb.1.2⟩
/-- keep in both -/
theorem FQ_K {x1 : Int32} (hF : FQ σ) (h4 : σ.2.2 0 4 = 2 ∨ σ.2.2 0 4 = 28) (f4 : σ2.2.2 0 4 = σ.2.2 0 4) (fi : ∀ k ∈ [219, 240], σ2.1 k = σ.1 k) (f9 : ∀ k ∈ [219, 220, 221, 222], σ1.1 k = σ.1 k) (fL : σ2.2.1 = σ1.2.1)
    (hc : (0 ≤ x1.toInt ∧ x1.toInt ≤ 2 → CPF σ σ1 (132 + 26 * x1.toInt.toNat) (σ.2.2 0 4)) ∧ (¬ (0 ≤ x1.toInt ∧ x1.toInt ≤ 2) → σ1.2.1 = σ.2.1))
    (hr : σ2.1 220 = σ1.1 220 ∧ (0 ≤ x1.toInt ∧ x1.toInt ≤ 2 → (∀ j, j < 10240 → σ2.1 222 (10240 * x1.toInt.toNat + j) = σ1.1 220 j) ∧ ∀ k, (k < 10240 * x1.toInt.toNat ∨ 10240 * x1.toInt.toNat + 10240 ≤ k) → σ2.1 222 k = σ1.1 222 k) ∧ (¬ (0 ≤ x1.toInt ∧ x1.toInt ≤ 2) → σ2.1 = σ1.1))
    (hr2 : (0 ≤ x1.toInt ∧ x1.toInt ≤ 2 → (∀ j, j < 43 → σ2.1 221 (43 * x1.toInt.toNat + j) = σ1.1 219 j) ∧ ∀ k, (k < 43 * x1.toInt.toNat ∨ 43 * x1.toInt.toNat + 43 ≤ k) → σ2.1 221 k = σ1.1 221 k)) : FQ σ2 := by
  have g19 := f9 219 (by decide)
  have g20 := f9 220 (by decide)
  have g21 := f9 221 (by decide)
  have g22 := f9 222 (by decide)
  have e19 := fi 219 (by decide)
  have e40 := fi 240 (by decide)
  by_cases q : 0 ≤ x1.toInt ∧ x1.toInt ≤ 2
  · have hc := hc.1 q
    have hr1 := hr.2.1 q
    have hr2 := hr2 q
    have k3 : x1.toInt.toNat < 3 := by omega
    generalize x1.toInt.toNat = c at hc hr1 hr2 k3
    obtain ⟨c1, c2⟩ := hc
    obtain ⟨a1, a2⟩ := hr1
    obtain ⟨b1, b2⟩ := hr2
    rw [g20] at a1
    rw [g22] at a2
    rw [g19] at b1
    rw [g21] at b2
    refine ⟨⟨?_, fun k hk => ?_⟩, ⟨by rw [e19]; exact hF.2.1.1, fun k hk => ?_⟩, fun s hs j hj => ?_, fun s hs => ?_⟩
    · rw [f4, hr.1, g20, e19, fL]
      exact FAM_e (fun p hp u _ => by rw [c1 _ (by omega)]) (fun _ _ => rfl) rfl hF.1.1
    · rw [fL]
      by_cases e : k = c
      · subst e
        refine FAM_e (fun p hp u hu => c2 p hp u hu) (fun j hj => ?_) ?_ hF.1.1
        · rw [a1 j hj, Nat.zero_add]
        · have := b1 0 (by decide)
          rw [Nat.add_zero] at this
          exact this
      · refine FAM_e (fun p hp u _ => by rw [c1 _ (by omega)]) (fun j hj => a2 _ (by omega)) (b2 _ (by omega)) (hF.1.2 k hk)
    · by_cases e : k = c
      · subst e
        exact WX_e (fun j hj => b1 j (by unfold eJ at hj; omega)) hF.2.1.1
      · exact WX_e (fun j hj => b2 _ (by unfold eJ at hj; omega)) (hF.2.1.2 k hk)
    · rw [fL, c1 _ (by omega), c1 241 (by omega)]; exact hF.2.2.1 s hs j hj
    · rw [e40]; exact hF.2.2.2 s hs
  · have a := hc.2 q
    have b := hr.2.2 q
    refine FQ_0 hF h4 f4 (fun a' _ => by rw [fL, a]) (fun k hk => ?_) (fun j _ => by rw [e19])
    simp only [List.mem_cons, List.not_mem_nil, or_false] at hk
    rcases hk with rfl | rfl | rfl | rfl
    · rw [b, g20]
    · rw [b, g21]
    · rw [b, g22]
    · exact e40
/-- back in both -/
theorem FQ_B {x1 : Int32} (hF : FQ σ) (h4 : σ.2.2 0 4 = 2 ∨ σ.2.2 0 4 = 28) (f4 : σ2.2.2 0 4 = σ.2.2 0 4) (fi : ∀ k ∈ [221, 222, 240], σ2.1 k = σ.1 k) (f9 : ∀ k ∈ [219, 220, 221, 222, 223], σ1.1 k = σ.1 k) (fL : σ2.2.1 = σ1.2.1) (h55 : ∀ j, j < 3 → σ.1 55 j = σ.1 223 j)
    (hc : ((0 ≤ x1.toInt ∧ x1.toInt ≤ 2) ∧ ¬ σ.1 55 x1.toInt.toNat = 0 → CPF σ σ1 (σ.2.2 0 4) (132 + 26 * x1.toInt.toNat)) ∧ (¬ ((0 ≤ x1.toInt ∧ x1.toInt ≤ 2) ∧ ¬ σ.1 55 x1.toInt.toNat = 0) → σ1.2.1 = σ.2.1))
    (hr : ((0 ≤ x1.toInt ∧ x1.toInt ≤ 2) ∧ ¬ σ1.1 223 x1.toInt.toNat = 0 → σ2.1 222 = σ1.1 222 ∧ ∀ j, j < 10240 → σ2.1 220 j = σ1.1 222 (10240 * x1.toInt.toNat + j)) ∧ (¬ ((0 ≤ x1.toInt ∧ x1.toInt ≤ 2) ∧ ¬ σ1.1 223 x1.toInt.toNat = 0) → σ2.1 = σ1.1))
    (hr2 : (0 ≤ x1.toInt ∧ x1.toInt ≤ 2) ∧ ¬ σ1.1 223 x1.toInt.toNat = 0 → ∀ j, j < 43 → σ2.1 219 j = σ1.1 221 (43 * x1.toInt.toNat + j)) : FQ σ2 := by
  have g19 := f9 219 (by decide)
  have g20 := f9 220 (by decide)
  have g21 := f9 221 (by decide)
  have g22 := f9 222 (by decide)
  have g23 := f9 223 (by decide)
  have e21 := fi 221 (by decide)
  have e22 := fi 222 (by decide)
  have e40 := fi 240 (by decide)
  rw [g23] at hr hr2
  by_cases q : (0 ≤ x1.toInt ∧ x1.toInt ≤ 2) ∧ ¬ σ.1 223 x1.toInt.toNat = 0
  · have hk3 : x1.toInt.toNat < 3 := by have := q.1; omega
    have hc := hc.1 ⟨q.1, by rw [h55 _ hk3]; exact q.2⟩
    have hr1 := hr.1 q
    have hr2 := hr2 q
    generalize x1.toInt.toNat = c at hc hr1 hr2 hk3
    obtain ⟨c1, c2⟩ := hc
    obtain ⟨_, a1⟩ := hr1
    rw [g22] at a1
    rw [g21] at hr2
    refine ⟨⟨?_, fun k hk => ?_⟩, ⟨?_, fun k hk => ?_⟩, fun s hs j hj => ?_, fun s hs => ?_⟩
    · rw [f4, fL]
      refine FAM_e (fun p hp u hu => c2 p hp u hu) (fun j hj => ?_) ?_ (hF.1.2 c hk3)
      · rw [Nat.zero_add, a1 j hj]
      · have := hr2 0 (by decide)
        rw [Nat.add_zero] at this
        exact this
    · rw [e22, e21, fL]
      exact FAM_e (fun p hp u _ => by rw [c1 _ (by omega)]) (fun _ _ => rfl) rfl (hF.1.2 k hk)
    · exact WX_e (fun j hj => hr2 j (by unfold eJ at hj; omega)) (hF.2.1.2 c hk3)
    · rw [e21]; exact hF.2.1.2 k hk
    · rw [fL, c1 _ (by omega), c1 241 (by omega)]; exact hF.2.2.1 s hs j hj
    · rw [e40]; exact hF.2.2.2 s hs
  · have a := hc.2 (fun z => q ⟨z.1, by rw [← h55 _ (by have := z.1; omega)]; exact z.2⟩)
    have b := hr.2 q
    refine FQ_0 hF h4 f4 (fun a' _ => by rw [fL, a]) (fun k hk => ?_) (fun j _ => by rw [b, g19])
    simp only [List.mem_cons, List.not_mem_nil, or_false] at hk
    rcases hk with rfl | rfl | rfl | rfl
    · rw [b, g20]
    · exact e21
    · exact e22
    · exact e40
/-- row, write, paste in both -/
theorem FQ_L {F G : Nat → Nat → Int64} (hF : FQ σ) (h4 : σ.2.2 0 4 = 2 ∨ σ.2.2 0 4 = 28) (f4 : σ2.2.2 0 4 = σ.2.2 0 4) (fi : ∀ k ∈ [219, 220, 221, 222], σ2.1 k = σ.1 k) (hw : ∀ s, s < 4 → 0 ≤ (σ2.1 240 s).toInt ∧ (σ2.1 240 s).toInt ≤ 3) (e : v = w) (hc : SLO σ F (v, σ1)) (hr : SRO σ1 G (w, σ2)) (hFG : v = 0 → ∀ s, s < 4 → ∀ j, j < 60 → F s j = G s j) : FQ σ2 := by
  obtain ⟨c1, c2, c3⟩ := hc
  obtain ⟨r1, r2, r3⟩ := hr
  have c1 : ∀ a, ¬ (211 ≤ a ∧ a < 218) → σ1.2.1 a = σ.2.1 a := c1
  have r1 : ∀ a, a < 218 → σ2.2.1 a = σ1.2.1 a := r1
  have lo : ∀ a, a < 211 → σ2.2.1 a = σ.2.1 a := fun a ha => (r1 a (by omega)).trans (c1 a (by omega))
  refine ⟨⟨?_, fun k hk => ?_⟩, ⟨by rw [fi 219 (by decide)]; exact hF.2.1.1, fun k hk => by rw [fi 221 (by decide)]; exact hF.2.1.2 k hk⟩, fun s hs j hj => ?_, hw⟩
  · rw [f4, fi 220 (by decide), fi 219 (by decide)]
    exact FAM_e (fun p hp u _ => by rw [lo _ (by omega)]) (fun _ _ => rfl) rfl hF.1.1
  · rw [fi 222 (by decide), fi 221 (by decide)]
    exact FAM_e (fun p hp u _ => by rw [lo _ (by omega)]) (fun _ _ => rfl) rfl (hF.1.2 k hk)
  · rw [r1 _ (by omega)]
    by_cases z : v = 0
    · have a : σ1.2.1 (210 + 2 * s + 1) j = F s j := c3 z s hs j hj
      have b : σ2.2.1 241 (60 * s + j) = G s j := r3 (by rw [← e]; exact z) s hs j hj
      rw [a, b]; exact hFG z s hs j hj
    · have a : σ1.2.1 = σ.2.1 := c2 z
      have b : σ2.2.1 = σ1.2.1 := r2 (by rw [← e]; exact z)
      rw [b, a]; exact hF.2.2.1 s hs j hj
/-- the class's edges -/
theorem Ed_W {m : Nat} {P Q : Nat → Nat} (hW : WQ σ) (hX : WX (σ.1 219)) (h : EdR σ m P Q) : Ed σ (σ.2.2 0 4) m P Q := by
  obtain ⟨⟨e0, e1, e2⟩, eJ⟩ := hW.1
  obtain ⟨⟨a, b⟩, c, d⟩ := h
  refine ⟨⟨by rw [e2]; exact a, b⟩, fun j hj => ?_, d⟩
  have nz : ¬ σ.1 219 0 = 0 := fun z => by
    have := hX.2.1
    rw [z, a, nI_toInt (by omega)] at this
    simp only [Int32.reduceToInt] at this
    omega
  have k := (eJ nz).2 j (by rw [a, nI_toInt (by omega)]; omega)
  rw [k.1, k.2]; exact c j hj
theorem EdR_m (hM : MW (σ.1 219) 0) (hX : WX (σ.1 219)) : EdR σ (σ.1 219 2).toInt.toNat (fun j => (σ.1 219 (13 + j)).toInt.toNat) (fun j => (σ.1 219 (23 + j)).toInt.toNat) := by
  obtain ⟨hb, h2, hj, _⟩ := hM
  have h2 : 0 ≤ (σ.1 219 2).toInt ∧ (σ.1 219 2).toInt ≤ 10 := h2
  have hj : ∀ j, j < 10 → (0 ≤ (σ.1 219 (13 + j)).toInt ∧ (σ.1 219 (13 + j)).toInt ≤ 7) ∧ (0 ≤ (σ.1 219 (23 + j)).toInt ∧ (σ.1 219 (23 + j)).toInt ≤ 7) := fun j h => by
    have := hj j h
    rw [Nat.zero_add] at this
    exact this
  have e : ∀ v : Int32, 0 ≤ v.toInt → v.toInt ≤ 10 → v = nI v.toInt.toNat := fun v h0 h1 => Int32.toInt_inj.mp (by rw [nI_toInt (by omega)]; omega)
  refine ⟨⟨e _ (by omega) (by omega), by omega⟩, fun j h => ?_, fun j h => ?_⟩
  · have z := hj j (by omega)
    exact ⟨e _ (by omega) (by omega), e _ (by omega) (by omega)⟩
  · have z := hj j (by omega)
    refine ⟨(show (σ.1 219 (13 + j)).toInt.toNat < 8 ∧ (σ.1 219 (23 + j)).toInt.toNat < 8 from ⟨by omega, by omega⟩), fun y => hX.1 j h (Int32.toInt_inj.mp ?_)⟩
    have y : (σ.1 219 (13 + j)).toInt.toNat = (σ.1 219 (23 + j)).toInt.toNat := y
    omega
end FQS

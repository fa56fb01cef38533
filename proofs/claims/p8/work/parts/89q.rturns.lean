section RTRN
variable {N c a c2 b n : Nat} {σ : zS}
/-- the quotient's members -/
def OV (X Y : Nat → Bool) (n u : Nat) : Prop := (∃ t, t < n ∧ Y t = true) ∧ ∀ t, t < n → Y t = true → u &&& t = 0 ∧ X (u ||| t) = true
theorem vr_gives (hR : RF σ.2.2) {w : Int32} (ha : a ≤ 100000) (hb : b ≤ 100000) (hn : σ.1 218 20 = nI n) (h10 : n ≤ 1024) (n1 : c ≠ 227 ∧ c ≠ 228 ∧ c ≠ 229) (n2 : c2 ≠ 227 ∧ c2 ≠ 228 ∧ c2 ≠ 229) : Pt (f_X12_gives N 218 w c (nI a) c2 (nI b) σ) (fun r => FG [227, 228, 229] σ r.2 ∧ ∀ u, u < 1024 → (rb (r.2.1 227) 0 u = true ↔ if w = 3 then (∃ s t, (s < n ∧ rb (σ.1 c) a s = true) ∧ (t < n ∧ rb (σ.1 c2) b t = true) ∧ s ||| t = u) else if w = 5 then u < n ∧ rb (σ.1 c) a u = true ∧ ¬ ∃ s t, (s < n ∧ rb (σ.1 c2) b s = true) ∧ (t < n ∧ OV (rb (σ.1 c) a) (rb (σ.1 c2) b) n t) ∧ s ||| t = u else GS w (rb (σ.1 c) a) (rb (σ.1 c2) b) n u)) := by
  rw [f_X12_gives.eq_1]
  refine pt_if (fun w3 => ?_) (fun w3 => pt_if (fun w5 => ?_) (fun w5 => ?_))
  · refine pt_gR (v := 227) (hR 218 17 rfl) (pt_gC (pt_zb (vr_joins (c5 := 227) hR ha hb hn h10 n1.1 n2.1 (by decide)) (fun _ σ1 h => pt_some ⟨h.1.wk (by simp), fun u hu => ?_⟩)))
    rw [if_pos w3]; exact h.2 u hu
  · -- part, kept, made
    refine pt_lp (fun x : Int32 × zS => ∃ m, (x.1 = nI m ∧ m ≤ 1024) ∧ FG [227, 228, 229] σ x.2 ∧ ∀ u, u < m → (rb (x.2.1 228) 0 u = true ↔ u < n ∧ OV (rb (σ.1 c) a) (rb (σ.1 c2) b) n u)) (fun again x hI ih => ?_) N _ ⟨0, ⟨rfl, Nat.zero_le _⟩, FG.rf, fun u hu => absurd hu (by omega)⟩
    obtain ⟨x6, τ⟩ := x
    obtain ⟨m, ⟨e, hm⟩, hf, hu⟩ := hI
    have e : x6 = nI m := e
    subst e
    have hf : FG [227, 228, 229] σ τ := hf
    have hu : ∀ u, u < m → (rb (τ.1 228) 0 u = true ↔ u < n ∧ OV (rb (σ.1 c) a) (rb (σ.1 c2) b) n u) := hu
    have e18 : τ.1 218 = σ.1 218 := hf.2 218 (by decide)
    have ec : τ.1 c = σ.1 c := hf.2 c (by simp only [List.mem_cons, List.not_mem_nil, or_false]; omega)
    have ec2 : τ.1 c2 = σ.1 c2 := hf.2 c2 (by simp only [List.mem_cons, List.not_mem_nil, or_false]; omega)
    have R9 := hf.R hR
    rw [F_X12_gives_28.eq_1]
    refine pt_if (fun q => ?_) (fun q => ?_)
    · have q : nI 1024 ≤ nI m := q
      rw [nlt (by omega) (by omega)] at q
      have e : m = 1024 := by omega
      subst e
      have J := vr_joins (N := N) (c := c2) (a := b) (c2 := 228) (b := 0) (c5 := 229) (n := n) R9 hb (by omega) (by rw [e18]; exact hn) h10 n2.2.2 (by decide) (by decide)
      refine pt_gR (v := 228) (R9 218 18 rfl) (pt_gR (v := 229) (R9 218 19 rfl) (pt_gC (pt_zb J (fun _ σ1 h1 => ?_))))
      obtain ⟨f1, u1⟩ := h1
      have f1 : FG [229] τ σ1 := f1
      have u1 : ∀ u, u < 1024 → (rb (σ1.1 229) 0 u = true ↔ ∃ s t, (s < n ∧ rb (τ.1 c2) b s = true) ∧ (t < n ∧ rb (τ.1 228) 0 t = true) ∧ s ||| t = u) := u1
      have F1 : FG [227, 228, 229] σ σ1 := hf.tr (f1.wk (by simp))
      have k1 : ∀ u, u < 1024 → (rb (σ1.1 229) 0 u = true ↔ ∃ s t, (s < n ∧ rb (σ.1 c2) b s = true) ∧ (t < n ∧ OV (rb (σ.1 c) a) (rb (σ.1 c2) b) n t) ∧ s ||| t = u) := fun u hlt => by
        rw [u1 u hlt, ec2]
        constructor
        · rintro ⟨s, t, p, r, z⟩
          exact ⟨s, t, p, ⟨r.1, ((hu t (by omega)).mp r.2).2⟩, z⟩
        · rintro ⟨s, t, p, r, z⟩
          exact ⟨s, t, p, ⟨r.1, (hu t (by omega)).mpr ⟨r.1, r.2⟩⟩, z⟩
      refine pt_lp (fun x : Int32 × zS => ∃ m, (x.1 = nI m ∧ m ≤ 1024) ∧ (FG [227, 228, 229] σ x.2 ∧ x.2.1 229 = σ1.1 229) ∧ ∀ u, u < m → (rb (x.2.1 227) 0 u = true ↔ u < n ∧ rb (σ.1 c) a u = true ∧ ¬ rb (σ1.1 229) 0 u = true)) (fun again2 x hI ih2 => ?_) N _ ⟨0, ⟨rfl, Nat.zero_le _⟩, ⟨F1, rfl⟩, fun u hu => absurd hu (by omega)⟩
      obtain ⟨x6, υ⟩ := x
      obtain ⟨m, ⟨e, hm⟩, ⟨hf2, h29⟩, hu2⟩ := hI
      have e : x6 = nI m := e
      subst e
      have hf2 : FG [227, 228, 229] σ υ := hf2
      have h29 : υ.1 229 = σ1.1 229 := h29
      have hu2 : ∀ u, u < m → (rb (υ.1 227) 0 u = true ↔ u < n ∧ rb (σ.1 c) a u = true ∧ ¬ rb (σ1.1 229) 0 u = true) := hu2
      have e18 : υ.1 218 = σ.1 218 := hf2.2 218 (by decide)
      have ec : υ.1 c = σ.1 c := hf2.2 c (by simp only [List.mem_cons, List.not_mem_nil, or_false]; omega)
      have R8 := hf2.R hR
      rw [F_X12_gives_98.eq_1]
      refine pt_if (fun q => pt_some ⟨hf2, fun u hlt => ?_⟩) (fun q => ?_)
      · have q : nI 1024 ≤ nI m := q
        rw [nlt (by omega) (by omega)] at q
        show rb (υ.1 227) 0 u = true ↔ _
        rw [if_neg w3, if_pos w5, hu2 u (by omega), k1 u hlt]
      · have q : ¬ nI 1024 ≤ nI m := q
        rw [nlt (by omega) (by omega)] at q
        have K : ∀ v : Int32, ((v = 0 ∧ ¬ (m < n ∧ rb (σ.1 c) a m = true ∧ ¬ rb (σ1.1 229) 0 m = true)) ∨ (v = 1 ∧ (m < n ∧ rb (σ.1 c) a m = true ∧ ¬ rb (σ1.1 229) 0 m = true))) → Pt (zl (sI 16 227 (nI m) v υ) fun σ' => again2 (nI m + 1, σ')) (fun r => FG [227, 228, 229] σ r.2 ∧ ∀ u, u < 1024 → (rb (r.2.1 227) 0 u = true ↔ if w = 3 then (∃ s t, (s < n ∧ rb (σ.1 c) a s = true) ∧ (t < n ∧ rb (σ.1 c2) b t = true) ∧ s ||| t = u) else if w = 5 then u < n ∧ rb (σ.1 c) a u = true ∧ ¬ ∃ s t, (s < n ∧ rb (σ.1 c2) b s = true) ∧ (t < n ∧ OV (rb (σ.1 c) a) (rb (σ.1 c2) b) n t) ∧ s ||| t = u else GS w (rb (σ.1 c) a) (rb (σ.1 c2) b) n u)) := fun v hv => by
          refine pt_s16 ?_
          rw [iN (by omega), nI_s1 (by omega)]
          exact ih2 (nI (m + 1), _) ⟨m + 1, ⟨rfl, by omega⟩, ⟨hf2.u (by simp), (zI_n (by decide)).trans h29⟩, put_st (S := fun u => u < n ∧ rb (σ.1 c) a u = true ∧ ¬ rb (σ1.1 229) 0 u = true) hu2 hv⟩
        refine pt_gR (v := 227) (R8 218 17 rfl) (pt_gI ?_)
        rw [e18, hn]
        refine pt_if (fun z => K 0 (Or.inl ⟨rfl, fun g => ?_⟩)) (fun z => pt_aI ?_)
        · rw [nlt (by omega) (by omega)] at z; omega
        · rw [nlt (by omega) (by omega)] at z
          rw [ix1 ha (by omega), ec]
          refine pt_if (fun y => K 0 (Or.inl ⟨rfl, fun g => rb_t.mp g.2.1 y⟩)) (fun y => pt_gR (v := 229) (R8 218 19 rfl) (pt_aI ?_))
          rw [iN (by omega), h29]
          refine pt_if (fun x => K 1 (Or.inr ⟨rfl, by omega, rb_t.mpr y, fun g => ?_⟩)) (fun x => K 0 (Or.inl ⟨rfl, fun g => g.2.2 (rb_t.mpr (by rw [Nat.zero_add]; exact x))⟩))
          have := rb_t.mp g
          rw [Nat.zero_add] at this
          exact this x
    · have q : ¬ nI 1024 ≤ nI m := q
      rw [nlt (by omega) (by omega)] at q
      have K : ∀ v : Int32, ((v = 0 ∧ ¬ (m < n ∧ OV (rb (σ.1 c) a) (rb (σ.1 c2) b) n m)) ∨ (v = 1 ∧ (m < n ∧ OV (rb (σ.1 c) a) (rb (σ.1 c2) b) n m))) → Pt (zl (sI 16 228 (nI m) v τ) fun σ' => again (nI m + 1, σ')) (fun r => FG [227, 228, 229] σ r.2 ∧ ∀ u, u < 1024 → (rb (r.2.1 227) 0 u = true ↔ if w = 3 then (∃ s t, (s < n ∧ rb (σ.1 c) a s = true) ∧ (t < n ∧ rb (σ.1 c2) b t = true) ∧ s ||| t = u) else if w = 5 then u < n ∧ rb (σ.1 c) a u = true ∧ ¬ ∃ s t, (s < n ∧ rb (σ.1 c2) b s = true) ∧ (t < n ∧ OV (rb (σ.1 c) a) (rb (σ.1 c2) b) n t) ∧ s ||| t = u else GS w (rb (σ.1 c) a) (rb (σ.1 c2) b) n u)) := fun v hv => by
        refine pt_s16 ?_
        rw [iN (by omega), nI_s1 (by omega)]
        exact ih (nI (m + 1), _) ⟨m + 1, ⟨rfl, by omega⟩, hf.u (by simp), put_st (S := fun u => u < n ∧ OV (rb (σ.1 c) a) (rb (σ.1 c2) b) n u) hu hv⟩
      refine pt_gR (v := 228) (R9 218 18 rfl) (pt_gI ?_)
      rw [e18, hn]
      refine pt_if (fun z => K 0 (Or.inl ⟨rfl, fun g => ?_⟩)) (fun z => ?_)
      · rw [nlt (by omega) (by omega)] at z; omega
      · rw [nlt (by omega) (by omega)] at z
        have V := vr_isOver (N := N) (c := c) (a := a) (c2 := c2) (b := b) (s := m) (n := n) (σ := τ) ha hb (by omega) (by rw [e18]; exact hn) h10
        rw [ec, ec2] at V
        refine pt_gC (pt_zbq V (fun v hv => pt_if (fun x => K 0 (Or.inl ⟨rfl, fun g => ?_⟩)) (fun x => K 1 (Or.inr ⟨rfl, by omega, hv.2.mp (hv.1.resolve_left x)⟩))))
        rw [hv.2.mpr g.2] at x
        exact absurd x (by decide)
  · refine pt_w (vr_g156 hR ha hb hn h10 n1.1 n2.1) (fun r h => ⟨h.1.wk (by simp), fun u hu => ?_⟩)
    rw [if_neg w3, if_neg w5]; exact h.2 u hu
/-- what min, max, not, up, down and itself give, by members (not hit) -/
def TS (w : Int32) (X : Nat → Bool) (n u : Nat) : Prop := u < n ∧ (if w = 0 then X u = true ∧ ¬ ∃ t, t < n ∧ t ≠ u ∧ X t = true ∧ sb t u else if w = 1 then X u = true ∧ ¬ ∃ t, t < n ∧ t ≠ u ∧ X t = true ∧ sb u t else if w = 3 then X u = false else if w = 4 then X u = true ∨ ∃ t, t < n ∧ t ≠ u ∧ X t = true ∧ sb t u else if w = 5 then X u = true ∨ ∃ t, t < n ∧ t ≠ u ∧ X t = true ∧ sb u t else X u = true)
theorem vr_t88 {w y : Int32} {m : Nat} {τ : zS} {again : Int32 × zS → Option (Unit × zS)} {P : Unit × zS → Prop} (ha : a ≤ 100000) (hm : m < 1024) (hn : τ.1 218 20 = nI n) (h10 : n ≤ 1024) (hy : (y = 0 ∧ ¬ m < n) ∨ (y = 1 ∧ m < n))
    (K0 : ¬ TS w (rb (τ.1 c) a) n m → Pt (zl (gR 12 17 218 τ) fun z => zl (sI 16 z (nI m) 0 τ) fun σ' => again (nI m + 1, σ')) P) (K1 : TS w (rb (τ.1 c) a) n m → Pt (zl (gR 12 17 218 τ) fun z => zl (sI 16 z (nI m) 1 τ) fun σ' => again (nI m + 1, σ')) P) : Pt (J_X12_turns_88 N again 218 w c (nI a) (nI m) y τ) P := by
  have no : y = 0 → ¬ TS w (rb (τ.1 c) a) n m := fun z g => by
    rcases hy with h | h
    · exact h.2 g.1
    · rw [h.1] at z; exact absurd z (by decide)
  have lt : ¬ y = 0 → m < n := fun z => by
    rcases hy with h | h
    · exact absurd h.1 z
    · exact h.2
  have g99 : (w = 0 ∨ w = 1) → Pt (J_X12_turns_99 N again 218 w c (nI a) (nI m) y τ) P := fun w01 => by
    rw [J_X12_turns_99.eq_1]
    refine pt_if (fun z => K0 (no z)) (fun z => pt_aI ?_)
    rw [ix1 ha (by omega)]
    have e0 : w = 0 → (TS w (rb (τ.1 c) a) n m ↔ rb (τ.1 c) a m = true ∧ ¬ ∃ t, t < n ∧ t ≠ m ∧ rb (τ.1 c) a t = true ∧ sb t m) := fun w0 => by
      unfold TS; rw [if_pos w0]; exact ⟨fun h => h.2, fun h => ⟨lt z, h⟩⟩
    have e1 : ¬ w = 0 → (TS w (rb (τ.1 c) a) n m ↔ rb (τ.1 c) a m = true ∧ ¬ ∃ t, t < n ∧ t ≠ m ∧ rb (τ.1 c) a t = true ∧ sb m t) := fun w0 => by
      have w1 := w01.resolve_left w0
      unfold TS; rw [if_neg w0, if_pos w1]; exact ⟨fun h => h.2, fun h => ⟨lt z, h⟩⟩
    refine pt_if (fun x => K0 (fun g => ?_)) (fun x => pt_if (fun w0 => ?_) (fun w0 => ?_))
    · by_cases w0 : w = 0
      · exact rb_t.mp ((e0 w0).mp g).1 x
      · exact rb_t.mp ((e1 w0).mp g).1 x
    · rw [J_X12_turns_127.eq_1]
      have V := vr_isNested (N := N) (c := c) (a := a) (s := m) (n := n) (w := 1) (σ := τ) ha hm hn h10
      refine pt_gC (pt_zbq V (fun v hv => pt_if (fun k => K1 ((e0 w0).mpr ⟨rb_t.mpr x, fun ⟨t, h1, h2, h3, h4⟩ => ?_⟩)) (fun k => K0 (fun g => ?_))))
      · have := hv.2.mpr ⟨t, h1, h2, h3, by rw [if_neg (by decide)]; exact h4⟩
        rw [this] at k; exact absurd k (by decide)
      · obtain ⟨t, h1, h2, h3, h4⟩ := hv.2.mp (hv.1.resolve_left k)
        rw [if_neg (by decide)] at h4
        exact ((e0 w0).mp g).2 ⟨t, h1, h2, h3, h4⟩
    · rw [J_X12_turns_127.eq_1]
      have V := vr_isNested (N := N) (c := c) (a := a) (s := m) (n := n) (w := 0) (σ := τ) ha hm hn h10
      refine pt_gC (pt_zbq V (fun v hv => pt_if (fun k => K1 ((e1 w0).mpr ⟨rb_t.mpr x, fun ⟨t, h1, h2, h3, h4⟩ => ?_⟩)) (fun k => K0 (fun g => ?_))))
      · have := hv.2.mpr ⟨t, h1, h2, h3, by rw [if_pos rfl]; exact h4⟩
        rw [this] at k; exact absurd k (by decide)
      · obtain ⟨t, h1, h2, h3, h4⟩ := hv.2.mp (hv.1.resolve_left k)
        rw [if_pos rfl] at h4
        exact ((e1 w0).mp g).2 ⟨t, h1, h2, h3, h4⟩
  have g182 : ¬ w = 0 → ¬ w = 1 → ¬ w = 3 → (w = 4 ∨ w = 5) → Pt (J_X12_turns_182 N again 218 w c (nI a) (nI m) y τ) P := fun w0 w1 w3 w45 => by
    rw [J_X12_turns_182.eq_1]
    refine pt_if (fun z => K0 (no z)) (fun z => pt_aI ?_)
    rw [ix1 ha (by omega)]
    have e4 : w = 4 → (TS w (rb (τ.1 c) a) n m ↔ rb (τ.1 c) a m = true ∨ ∃ t, t < n ∧ t ≠ m ∧ rb (τ.1 c) a t = true ∧ sb t m) := fun w4 => by
      unfold TS; rw [if_neg w0, if_neg w1, if_neg w3, if_pos w4]; exact ⟨fun h => h.2, fun h => ⟨lt z, h⟩⟩
    have e5 : ¬ w = 4 → (TS w (rb (τ.1 c) a) n m ↔ rb (τ.1 c) a m = true ∨ ∃ t, t < n ∧ t ≠ m ∧ rb (τ.1 c) a t = true ∧ sb m t) := fun w4 => by
      have w5 := w45.resolve_left w4
      unfold TS; rw [if_neg w0, if_neg w1, if_neg w3, if_neg w4, if_pos w5]; exact ⟨fun h => h.2, fun h => ⟨lt z, h⟩⟩
    refine pt_if (fun x => pt_if (fun w4 => ?_) (fun w4 => ?_)) (fun x => K1 ?_)
    · rw [J_X12_turns_211.eq_1]
      have V := vr_isNested (N := N) (c := c) (a := a) (s := m) (n := n) (w := 1) (σ := τ) ha hm hn h10
      refine pt_gC (pt_zbq V (fun v hv => pt_if (fun k => K0 (fun g => ?_)) (fun k => K1 ((e4 w4).mpr (Or.inr ?_)))))
      · rcases (e4 w4).mp g with g | ⟨t, h1, h2, h3, h4⟩
        · exact rb_t.mp g x
        · have := hv.2.mpr ⟨t, h1, h2, h3, by rw [if_neg (by decide)]; exact h4⟩
          rw [this] at k; exact absurd k (by decide)
      · obtain ⟨t, h1, h2, h3, h4⟩ := hv.2.mp (hv.1.resolve_left k)
        rw [if_neg (by decide)] at h4
        exact ⟨t, h1, h2, h3, h4⟩
    · rw [J_X12_turns_211.eq_1]
      have V := vr_isNested (N := N) (c := c) (a := a) (s := m) (n := n) (w := 0) (σ := τ) ha hm hn h10
      refine pt_gC (pt_zbq V (fun v hv => pt_if (fun k => K0 (fun g => ?_)) (fun k => K1 ((e5 w4).mpr (Or.inr ?_)))))
      · rcases (e5 w4).mp g with g | ⟨t, h1, h2, h3, h4⟩
        · exact rb_t.mp g x
        · have := hv.2.mpr ⟨t, h1, h2, h3, by rw [if_pos rfl]; exact h4⟩
          rw [this] at k; exact absurd k (by decide)
      · obtain ⟨t, h1, h2, h3, h4⟩ := hv.2.mp (hv.1.resolve_left k)
        rw [if_pos rfl] at h4
        exact ⟨t, h1, h2, h3, h4⟩
    · by_cases w4 : w = 4
      · exact (e4 w4).mpr (Or.inl (rb_t.mpr x))
      · exact (e5 w4).mpr (Or.inl (rb_t.mpr x))
  rw [J_X12_turns_88.eq_1]
  refine pt_if (fun w0 => g99 (Or.inl w0)) (fun w0 => pt_if (fun w1 => g99 (Or.inr w1)) (fun w1 => pt_if (fun w3 => pt_if (fun z => K0 (no z)) (fun z => pt_aI ?_)) (fun w3 => pt_if (fun w4 => g182 w0 w1 w3 (Or.inl w4)) (fun w4 => pt_if (fun w5 => g182 w0 w1 w3 (Or.inr w5)) (fun w5 => pt_if (fun z => K0 (no z)) (fun z => pt_aI ?_))))))
  · rw [ix1 ha (by omega)]
    have e : TS w (rb (τ.1 c) a) n m ↔ rb (τ.1 c) a m = false := by
      unfold TS; rw [if_neg w0, if_neg w1, if_pos w3]; exact ⟨fun h => h.2, fun h => ⟨lt z, h⟩⟩
    exact pt_if (fun x => K1 (e.mpr (rb_f.mpr x))) (fun x => K0 (fun g => x (rb_f.mp (e.mp g))))
  · rw [ix1 ha (by omega)]
    have e : TS w (rb (τ.1 c) a) n m ↔ rb (τ.1 c) a m = true := by
      unfold TS; rw [if_neg w0, if_neg w1, if_neg w3, if_neg w4, if_neg w5]; exact ⟨fun h => h.2, fun h => ⟨lt z, h⟩⟩
    exact pt_if (fun x => K0 (fun g => rb_t.mp (e.mp g) x)) (fun x => K1 (e.mpr (rb_t.mpr x)))
theorem vr_t66 {w : Int32} (hR : RF σ.2.2) (ha : a ≤ 100000) (hn : σ.1 218 20 = nI n) (h10 : n ≤ 1024) (n1 : c ≠ 227) : Pt (zlp (F_X12_turns_66 N 218 w c (nI a)) N (0, σ)) (fun r => FG [227] σ r.2 ∧ ∀ u, u < 1024 → (rb (r.2.1 227) 0 u = true ↔ TS w (rb (σ.1 c) a) n u)) := by
  refine pt_lp (fun x : Int32 × zS => ∃ m, (x.1 = nI m ∧ m ≤ 1024) ∧ FG [227] σ x.2 ∧ ∀ u, u < m → (rb (x.2.1 227) 0 u = true ↔ TS w (rb (σ.1 c) a) n u)) (fun again x hI ih => ?_) N _ ⟨0, ⟨rfl, Nat.zero_le _⟩, FG.rf, fun u hu => absurd hu (by omega)⟩
  obtain ⟨x4, τ⟩ := x
  obtain ⟨m, ⟨e, hm⟩, hf, hu⟩ := hI
  have e : x4 = nI m := e
  subst e
  have hf : FG [227] σ τ := hf
  have hu : ∀ u, u < m → (rb (τ.1 227) 0 u = true ↔ TS w (rb (σ.1 c) a) n u) := hu
  have e18 : τ.1 218 = σ.1 218 := hf.2 218 (by decide)
  have ec : τ.1 c = σ.1 c := hf.2 c (by simpa using n1)
  have R9 := hf.R hR
  rw [F_X12_turns_66.eq_1]
  refine pt_if (fun q => pt_some ⟨hf, fun u h => hu u ?_⟩) (fun q => ?_)
  · have q : nI 1024 ≤ nI m := q
    rw [nlt (by omega) (by omega)] at q; omega
  · have q : ¬ nI 1024 ≤ nI m := q
    rw [nlt (by omega) (by omega)] at q
    have K : ∀ v : Int32, ((v = 0 ∧ ¬ TS w (rb (σ.1 c) a) n m) ∨ (v = 1 ∧ TS w (rb (σ.1 c) a) n m)) → Pt (zl (gR 12 17 218 τ) fun z => zl (sI 16 z (nI m) v τ) fun σ' => again (nI m + 1, σ')) (fun r => FG [227] σ r.2 ∧ ∀ u, u < 1024 → (rb (r.2.1 227) 0 u = true ↔ TS w (rb (σ.1 c) a) n u)) := fun v hv => by
      refine pt_gR (v := 227) (R9 218 17 rfl) (pt_s16 ?_)
      rw [iN (by omega), nI_s1 (by omega)]
      exact ih (nI (m + 1), _) ⟨m + 1, ⟨rfl, by omega⟩, hf.u (by simp), put_st hu hv⟩
    refine pt_gI ?_
    rw [e18, hn]
    have go : ∀ y : Int32, ((y = 0 ∧ ¬ m < n) ∨ (y = 1 ∧ m < n)) → Pt (J_X12_turns_88 N again 218 w c (nI a) (nI m) y τ) (fun r => FG [227] σ r.2 ∧ ∀ u, u < 1024 → (rb (r.2.1 227) 0 u = true ↔ TS w (rb (σ.1 c) a) n u)) := fun y hy => by
      refine vr_t88 ha (by omega) (by rw [e18]; exact hn) h10 hy (fun g => K 0 (Or.inl ⟨rfl, ?_⟩)) (fun g => K 1 (Or.inr ⟨rfl, ?_⟩))
      · rw [ec] at g; exact g
      · rw [ec] at g; exact g
    refine pt_if (fun z => go 0 (Or.inl ⟨rfl, ?_⟩)) (fun z => go 1 (Or.inr ⟨rfl, ?_⟩))
    · rw [nlt (by omega) (by omega)] at z; omega
    · rw [nlt (by omega) (by omega)] at z; omega
/-- the least of a row -/
theorem vr_turns_ (hR : RF σ.2.2) (hn : σ.1 218 20 = nI n) (h10 : n ≤ 1024) (n1 : c ≠ 227) : Pt (f_X12_turns_ N 218 c σ) (fun r => FG [227] σ r.2 ∧ ∀ u, u < 1024 → (rb (r.2.1 227) 0 u = true ↔ TS 0 (rb (σ.1 c) 0) n u)) := by
  rw [f_X12_turns_.eq_1]
  refine pt_lp (fun x : Int32 × zS => ∃ m, (x.1 = nI m ∧ m ≤ 1024) ∧ FG [227] σ x.2 ∧ ∀ u, u < m → (rb (x.2.1 227) 0 u = true ↔ TS 0 (rb (σ.1 c) 0) n u)) (fun again x hI ih => ?_) N _ ⟨0, ⟨rfl, Nat.zero_le _⟩, FG.rf, fun u hu => absurd hu (by omega)⟩
  obtain ⟨x2, τ⟩ := x
  obtain ⟨m, ⟨e, hm⟩, hf, hu⟩ := hI
  have e : x2 = nI m := e
  subst e
  have hf : FG [227] σ τ := hf
  have hu : ∀ u, u < m → (rb (τ.1 227) 0 u = true ↔ TS 0 (rb (σ.1 c) 0) n u) := hu
  have e18 : τ.1 218 = σ.1 218 := hf.2 218 (by decide)
  have ec : τ.1 c = σ.1 c := hf.2 c (by simpa using n1)
  have R9 := hf.R hR
  rw [F_X12_turns__2.eq_1]
  refine pt_if (fun q => pt_some ⟨hf, fun u h => hu u ?_⟩) (fun q => ?_)
  · have q : nI 1024 ≤ nI m := q
    rw [nlt (by omega) (by omega)] at q; omega
  · have q : ¬ nI 1024 ≤ nI m := q
    rw [nlt (by omega) (by omega)] at q
    have K : ∀ v : Int32, ((v = 0 ∧ ¬ TS 0 (rb (σ.1 c) 0) n m) ∨ (v = 1 ∧ TS 0 (rb (σ.1 c) 0) n m)) → Pt (zl (sI 16 227 (nI m) v τ) fun σ' => again (nI m + 1, σ')) (fun r => FG [227] σ r.2 ∧ ∀ u, u < 1024 → (rb (r.2.1 227) 0 u = true ↔ TS 0 (rb (σ.1 c) 0) n u)) := fun v hv => by
      refine pt_s16 ?_
      rw [iN (by omega), nI_s1 (by omega)]
      exact ih (nI (m + 1), _) ⟨m + 1, ⟨rfl, by omega⟩, hf.u (by simp), put_st hu hv⟩
    refine pt_gR (v := 227) (R9 218 17 rfl) (pt_gI ?_)
    rw [e18, hn]
    refine pt_if (fun z => K 0 (Or.inl ⟨rfl, fun g => ?_⟩)) (fun z => pt_aI ?_)
    · rw [nlt (by omega) (by omega)] at z
      have := g.1
      omega
    · rw [nlt (by omega) (by omega)] at z
      rw [iN (by omega), ec]
      have e : TS 0 (rb (σ.1 c) 0) n m ↔ rb (σ.1 c) 0 m = true ∧ ¬ ∃ t, t < n ∧ t ≠ m ∧ rb (σ.1 c) 0 t = true ∧ sb t m := by
        unfold TS; rw [if_pos rfl]; exact ⟨fun h => h.2, fun h => ⟨by omega, h⟩⟩
      refine pt_if (fun x => K 0 (Or.inl ⟨rfl, fun g => rb_t.mp (e.mp g).1 (by rw [Nat.zero_add]; exact x)⟩)) (fun x => ?_)
      have V := vr_isNested (N := N) (c := c) (a := 0) (s := m) (n := n) (w := 1) (σ := τ) (by omega) (by omega) (by rw [e18]; exact hn) h10
      rw [ec] at V
      refine pt_gC (pt_zbq V (fun v hv => pt_if (fun k => K 1 (Or.inr ⟨rfl, e.mpr ⟨rb_t.mpr (by rw [Nat.zero_add]; exact x), fun ⟨t, h1, h2, h3, h4⟩ => ?_⟩⟩)) (fun k => K 0 (Or.inl ⟨rfl, fun g => ?_⟩))))
      · have := hv.2.mpr ⟨t, h1, h2, h3, by rw [if_neg (by decide)]; exact h4⟩
        rw [this] at k; exact absurd k (by decide)
      · obtain ⟨t, h1, h2, h3, h4⟩ := hv.2.mp (hv.1.resolve_left k)
        rw [if_neg (by decide)] at h4
        exact (e.mp g).2 ⟨t, h1, h2, h3, h4⟩
/-- those that have something of each -/
def HT (X : Nat → Bool) (n u : Nat) : Prop := u < n ∧ ∀ t, t < n → X t = true → ¬ u &&& t = 0
theorem vr_turns {w : Int32} (hR : RF σ.2.2) (ha : a ≤ 100000) (hn : σ.1 218 20 = nI n) (h10 : n ≤ 1024) (n1 : c ≠ 227 ∧ c ≠ 228) : Pt (f_X12_turns N 218 w c (nI a) σ) (fun r => FG [227, 228] σ r.2 ∧ ∀ u, u < 1024 → (rb (r.2.1 227) 0 u = true ↔ if w = 2 then HT (rb (σ.1 c) a) n u ∧ ¬ ∃ t, t ≠ u ∧ HT (rb (σ.1 c) a) n t ∧ sb t u else TS w (rb (σ.1 c) a) n u)) := by
  rw [f_X12_turns.eq_1]
  refine pt_if (fun w2 => ?_) (fun w2 => ?_)
  · refine pt_lp (fun x : Int32 × zS => ∃ m, (x.1 = nI m ∧ m ≤ 1024) ∧ FG [227, 228] σ x.2 ∧ ∀ u, u < m → (rb (x.2.1 228) 0 u = true ↔ HT (rb (σ.1 c) a) n u)) (fun again x hI ih => ?_) N _ ⟨0, ⟨rfl, Nat.zero_le _⟩, FG.rf, fun u hu => absurd hu (by omega)⟩
    obtain ⟨x4, τ⟩ := x
    obtain ⟨m, ⟨e, hm⟩, hf, hu⟩ := hI
    have e : x4 = nI m := e
    subst e
    have hf : FG [227, 228] σ τ := hf
    have hu : ∀ u, u < m → (rb (τ.1 228) 0 u = true ↔ HT (rb (σ.1 c) a) n u) := hu
    have e18 : τ.1 218 = σ.1 218 := hf.2 218 (by decide)
    have ec : τ.1 c = σ.1 c := hf.2 c (by simp only [List.mem_cons, List.not_mem_nil, or_false]; omega)
    have R9 := hf.R hR
    rw [F_X12_turns_8.eq_1]
    refine pt_if (fun q => ?_) (fun q => ?_)
    · have q : nI 1024 ≤ nI m := q
      rw [nlt (by omega) (by omega)] at q
      have e : m = 1024 := by omega
      subst e
      refine pt_gR (v := 228) (R9 218 18 rfl) (pt_gC (pt_zb (vr_turns_ (c := 228) R9 (by rw [e18]; exact hn) h10 (by decide)) (fun _ σ1 h1 => pt_some ⟨hf.tr (h1.1.wk (by simp)), fun u hlt => ?_⟩)))
      have u1 : rb (σ1.1 227) 0 u = true ↔ TS 0 (rb (τ.1 228) 0) n u := h1.2 u hlt
      show rb (σ1.1 227) 0 u = true ↔ _
      rw [if_pos w2, u1]
      unfold TS
      rw [if_pos rfl]
      constructor
      · rintro ⟨h1, h2, h3⟩
        refine ⟨(hu u hlt).mp h2, fun ⟨t, a1, a2, a3⟩ => h3 ⟨t, a2.1, a1, (hu t (by have := a2.1; omega)).mpr a2, a3⟩⟩
      · rintro ⟨h1, h2⟩
        exact ⟨h1.1, (hu u hlt).mpr h1, fun ⟨t, a1, a2, a3, a4⟩ => h2 ⟨t, a2, (hu t (by omega)).mp a3, a4⟩⟩
    · have q : ¬ nI 1024 ≤ nI m := q
      rw [nlt (by omega) (by omega)] at q
      have K : ∀ v : Int32, ((v = 0 ∧ ¬ HT (rb (σ.1 c) a) n m) ∨ (v = 1 ∧ HT (rb (σ.1 c) a) n m)) → Pt (zl (sI 16 228 (nI m) v τ) fun σ' => again (nI m + 1, σ')) (fun r => FG [227, 228] σ r.2 ∧ ∀ u, u < 1024 → (rb (r.2.1 227) 0 u = true ↔ if w = 2 then HT (rb (σ.1 c) a) n u ∧ ¬ ∃ t, t ≠ u ∧ HT (rb (σ.1 c) a) n t ∧ sb t u else TS w (rb (σ.1 c) a) n u)) := fun v hv => by
        refine pt_s16 ?_
        rw [iN (by omega), nI_s1 (by omega)]
        exact ih (nI (m + 1), _) ⟨m + 1, ⟨rfl, by omega⟩, hf.u (by simp), put_st hu hv⟩
      refine pt_gR (v := 228) (R9 218 18 rfl) (pt_gI ?_)
      rw [e18, hn]
      refine pt_if (fun z => K 0 (Or.inl ⟨rfl, fun g => ?_⟩)) (fun z => ?_)
      · rw [nlt (by omega) (by omega)] at z
        have := g.1
        omega
      · rw [nlt (by omega) (by omega)] at z
        have V := vr_isTouching (N := N) (c := c) (a := a) (s := m) (n := n) (σ := τ) ha (by omega) (by rw [e18]; exact hn) h10
        rw [ec] at V
        refine pt_gC (pt_zbq V (fun v hv => pt_if (fun x => K 0 (Or.inl ⟨rfl, fun g => ?_⟩)) (fun x => K 1 (Or.inr ⟨rfl, by omega, hv.2.mp (hv.1.resolve_left x)⟩))))
        rw [hv.2.mpr g.2] at x
        exact absurd x (by decide)
  · refine pt_w (vr_t66 hR ha hn h10 n1.1) (fun r h => ⟨h.1.wk (by simp), fun u hu => ?_⟩)
    rw [if_neg w2]; exact h.2 u hu
end RTRN

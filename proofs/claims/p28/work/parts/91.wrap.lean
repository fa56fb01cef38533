theorem ZB_e {S : List Nat} {s s' : Nat → Nat → Int32} (e : ∀ k, k ∉ S → s' k = s k) (hs : ∀ k ∈ [55, 220, 222, 223, 226, 227, 228, 229, 232, 234, 236], k ∉ S) (h : ZB s) : ZB s' := by
  intro k hk j
  have : k ∉ S := by
    apply hs
    rcases zbc k (zKd_lt hk (by decide)) hk with rfl | rfl | rfl | rfl | rfl | rfl | rfl | rfl | rfl | rfl | rfl <;> decide
  rw [e k this]; exact h k hk j
/-- ints of the cells of S alone may be other -/
def FC (S : List Nat) (σ τ : zS) : Prop := ∀ k, k ∉ S → τ.1 k = σ.1 k
theorem k012 {x : Int32} (h : 0 ≤ x.toInt ∧ x.toInt ≤ 2) : x = 0 ∨ x = 1 ∨ x = 2 := by
  rcases (show x.toInt = 0 ∨ x.toInt = 1 ∨ x.toInt = 2 by omega) with q | q | q
  · exact Or.inl (Int32.toInt_inj.mp q)
  · exact Or.inr (Or.inl (Int32.toInt_inj.mp q))
  · exact Or.inr (Or.inr (Int32.toInt_inj.mp q))

theorem wc_feed {N : Nat} (hN : 1048576 ≤ N) {x1 : Int32} {x2 : Int32} {x3 : Int32} {x4 : Int32} {x5 : Int32} {σ : zS} (hI : IV σ) : Ok (f_X11_feed N 0 x1 x2 x3 x4 x5 σ) (fun r => (CI r.2 ∧ RI r.2) ∧ FC [0, 1] σ r.2 ∧ r.1 = fdV (σ.1 0 1) ∧ r.2.1 0 1 = fdT (σ.1 0 1) ∧ r.2.1 1 = (if (σ.1 0 1).toInt ≤ 580 then fdR (σ.1 1) (σ.1 0 1).toInt.toNat x1 x2 x3 x4 x5 else σ.1 1)) := by
  rcases hI.1.1.2.2 with q | q
  · refine ok_w (ok_pt (s_X11_feed_n2v hN hI.1.1.1 q.1 q.2 hI.1.1.2.1) (vl_feed hI.1.1.1 hI.1.1.2.1.2.2.2.2.2.2.2.2)) (fun r h => ?_)
    have hx := h.2
    have h := h.1
    exact ⟨⟨CI_c hI.1.1 h.1 h.2.1, RI_c h.1 (by decide) (by decide) hI.1.2⟩, h.1.2, ⟨h.2.2.1, h.2.2.2, hx⟩⟩
  · refine ok_w (ok_pt (s_X11_feed_n28v hN hI.1.1.1 q.1 q.2 hI.1.1.2.1) (vl_feed hI.1.1.1 hI.1.1.2.1.2.2.2.2.2.2.2.2)) (fun r h => ?_)
    have hx := h.2
    have h := h.1
    exact ⟨⟨CI_c hI.1.1 h.1 h.2.1, RI_c h.1 (by decide) (by decide) hI.1.2⟩, h.1.2, ⟨h.2.2.1, h.2.2.2, hx⟩⟩

theorem wc_end {N : Nat} (hN : 1048576 ≤ N) {x1 : Int32} {σ : zS} (hI : IV σ) : Ok (f_X11_end N 0 x1 σ) (fun r => (CI r.2 ∧ RI r.2) ∧ FC [0] σ r.2 ∧ r.1 = enV x1 (σ.1 0 1) ∧ r.2.1 0 1 = enT x1 (σ.1 0 1)) := by
  rcases hI.1.1.2.2 with q | q
  · exact ok_w (s_X11_end_n2v hN hI.1.1.1 q.1 q.2 hI.1.1.2.1) (fun r h => ⟨⟨CI_c hI.1.1 h.1 h.2.1, RI_c h.1 (by decide) (by decide) hI.1.2⟩, h.1.2, ⟨h.2.2.1, h.2.2.2⟩⟩)
  · exact ok_w (s_X11_end_n28v hN hI.1.1.1 q.1 q.2 hI.1.1.2.1) (fun r h => ⟨⟨CI_c hI.1.1 h.1 h.2.1, RI_c h.1 (by decide) (by decide) hI.1.2⟩, h.1.2, ⟨h.2.2.1, h.2.2.2⟩⟩)

theorem wc_put {N : Nat} (hN : 1048576 ≤ N) {x1 : Int32} {σ : zS} (hI : IV σ) : Ok (f_X11_put N 0 x1 σ) (fun r => (CI r.2 ∧ RI r.2) ∧ FC [0, 57, 58, 59, 61, 62, 63, 64, 65, 106, 107] σ r.2 ∧ r.2.1 0 1 = 0) := by
  rcases hI.1.1.2.2 with q | q
  · exact ok_w (s_X11_put_n2v hN hI.1.1.1 q.1 q.2 hI.1.1.2.1) (fun r h => ⟨⟨CI_c hI.1.1 h.1 h.2.1, RI_c h.1 (by decide) (by decide) hI.1.2⟩, h.1.2, h.2.2⟩)
  · exact ok_w (s_X11_put_n28v hN hI.1.1.1 q.1 q.2 hI.1.1.2.1) (fun r h => ⟨⟨CI_c hI.1.1 h.1 h.2.1, RI_c h.1 (by decide) (by decide) hI.1.2⟩, h.1.2, h.2.2⟩)

theorem wc_fault {N : Nat} (hN : 1048576 ≤ N) {x1 : Int32} {σ : zS} (hI : IV σ) : Ok (f_X11_fault N 0 x1 σ) (fun r => IV r.2) := by
  rcases hI.1.1.2.2 with q | q
  · exact ok_w (s_X11_fault_n2 hN hI.1.1.1 q.1 q.2 hI.1.1.2.1) (fun r h => ⟨⟨CI_c hI.1.1 h.1 h.2, RI_c h.1 (by decide) (by decide) hI.1.2⟩, EQ_c hI.2 h.1 (by decide)⟩)
  · exact ok_w (s_X11_fault_n28 hN hI.1.1.1 q.1 q.2 hI.1.1.2.1) (fun r h => ⟨⟨CI_c hI.1.1 h.1 h.2, RI_c h.1 (by decide) (by decide) hI.1.2⟩, EQ_c hI.2 h.1 (by decide)⟩)

theorem wc_size {N : Nat} (hN : 1048576 ≤ N) {x1 : Int32} {σ : zS} (hI : IV σ) : Ok (f_X11_size N 0 x1 σ) (fun r => IV r.2) := by
  rcases hI.1.1.2.2 with q | q
  · exact ok_w (s_X11_size_n2 hN hI.1.1.1 q.1 q.2 hI.1.1.2.1) (fun r h => ⟨⟨CI_c hI.1.1 h.1 h.2, RI_c h.1 (by decide) (by decide) hI.1.2⟩, EQ_c hI.2 h.1 (by decide)⟩)
  · exact ok_w (s_X11_size_n28 hN hI.1.1.1 q.1 q.2 hI.1.1.2.1) (fun r h => ⟨⟨CI_c hI.1.1 h.1 h.2, RI_c h.1 (by decide) (by decide) hI.1.2⟩, EQ_c hI.2 h.1 (by decide)⟩)

theorem wc_has {N : Nat} (hN : 1048576 ≤ N) {x1 : Int32} {x2 : Int32} {σ : zS} (hI : IV σ) : Ok (f_X11_has N 0 x1 x2 σ) (fun r => IV r.2) := by
  rcases hI.1.1.2.2 with q | q
  · exact ok_w (s_X11_has_n2 hN hI.1.1.1 q.1 q.2 hI.1.1.2.1) (fun r h => ⟨⟨CI_c hI.1.1 h.1 h.2, RI_c h.1 (by decide) (by decide) hI.1.2⟩, EQ_c hI.2 h.1 (by decide)⟩)
  · exact ok_w (s_X11_has_n28 hN hI.1.1.1 q.1 q.2 hI.1.1.2.1) (fun r h => ⟨⟨CI_c hI.1.1 h.1 h.2, RI_c h.1 (by decide) (by decide) hI.1.2⟩, EQ_c hI.2 h.1 (by decide)⟩)

theorem wc_makes {N : Nat} (hN : 1048576 ≤ N) {x1 : Int32} {x2 : Int32} {x3 : Int32} {x4 : Int32} {σ : zS} (hI : IV σ) : Ok (f_X11_makes N 0 x1 x2 x3 x4 σ) (fun r => IV r.2) := by
  rcases hI.1.1.2.2 with q | q
  · exact ok_w (s_X11_makes_n2 hN hI.1.1.1 q.1 q.2 hI.1.1.2.1) (fun r h => ⟨⟨CI_c hI.1.1 h.1 h.2, RI_c h.1 (by decide) (by decide) hI.1.2⟩, EQ_c hI.2 h.1 (by decide)⟩)
  · exact ok_w (s_X11_makes_n28 hN hI.1.1.1 q.1 q.2 hI.1.1.2.1) (fun r h => ⟨⟨CI_c hI.1.1 h.1 h.2, RI_c h.1 (by decide) (by decide) hI.1.2⟩, EQ_c hI.2 h.1 (by decide)⟩)

theorem wc_turn {N : Nat} (hN : 1048576 ≤ N) {x1 : Int32} {x2 : Int32} {x3 : Int32} {σ : zS} (hI : IV σ) : Ok (f_X11_turn N 0 x1 x2 x3 σ) (fun r => IV r.2) := by
  rcases hI.1.1.2.2 with q | q
  · exact ok_w (s_X11_turn_n2 hN hI.1.1.1 q.1 q.2 hI.1.1.2.1) (fun r h => ⟨⟨CI_c hI.1.1 h.1 h.2, RI_c h.1 (by decide) (by decide) hI.1.2⟩, EQ_c hI.2 h.1 (by decide)⟩)
  · exact ok_w (s_X11_turn_n28 hN hI.1.1.1 q.1 q.2 hI.1.1.2.1) (fun r h => ⟨⟨CI_c hI.1.1 h.1 h.2, RI_c h.1 (by decide) (by decide) hI.1.2⟩, EQ_c hI.2 h.1 (by decide)⟩)

theorem wc_sets {N : Nat} (hN : 1048576 ≤ N) {x1 : Int32} {x2 : Int32} {x3 : Int32} {σ : zS} (hI : IV σ) : Ok (f_X11_sets N 0 x1 x2 x3 σ) (fun r => IV r.2) := by
  rcases hI.1.1.2.2 with q | q
  · exact ok_w (s_X11_sets_n2 hN hI.1.1.1 q.1 q.2 hI.1.1.2.1) (fun r h => ⟨⟨CI_c hI.1.1 h.1 h.2, RI_c h.1 (by decide) (by decide) hI.1.2⟩, EQ_c hI.2 h.1 (by decide)⟩)
  · exact ok_w (s_X11_sets_n28 hN hI.1.1.1 q.1 q.2 hI.1.1.2.1) (fun r h => ⟨⟨CI_c hI.1.1 h.1 h.2, RI_c h.1 (by decide) (by decide) hI.1.2⟩, EQ_c hI.2 h.1 (by decide)⟩)

theorem wc_change {N : Nat} (hN : 1048576 ≤ N) {x1 : Int32} {x2 : Int32} {x3 : Int32} {σ : zS} (hI : IV σ) : Ok (f_X11_change N 0 x1 x2 x3 σ) (fun r => IV r.2) := by
  rcases hI.1.1.2.2 with q | q
  · exact ok_w (s_X11_change_n2 hN hI.1.1.1 q.1 q.2 hI.1.1.2.1) (fun r h => ⟨⟨CI_c hI.1.1 h.1 h.2, RI_c h.1 (by decide) (by decide) hI.1.2⟩, EQ_c hI.2 h.1 (by decide)⟩)
  · exact ok_w (s_X11_change_n28 hN hI.1.1.1 q.1 q.2 hI.1.1.2.1) (fun r h => ⟨⟨CI_c hI.1.1 h.1 h.2, RI_c h.1 (by decide) (by decide) hI.1.2⟩, EQ_c hI.2 h.1 (by decide)⟩)

theorem wc_half {N : Nat} (hN : 1048576 ≤ N) {x1 : Int32} {x2 : Int32} {x3 : Int32} {x4 : Int32} {σ : zS} (hI : IV σ) : Ok (f_X11_half N 0 x1 x2 x3 x4 σ) (fun r => IV r.2) := by
  rcases hI.1.1.2.2 with q | q
  · exact ok_w (s_X11_half_n2 hN hI.1.1.1 q.1 q.2 hI.1.1.2.1) (fun r h => ⟨⟨CI_c hI.1.1 h.1 h.2, RI_c h.1 (by decide) (by decide) hI.1.2⟩, EQ_c hI.2 h.1 (by decide)⟩)
  · exact ok_w (s_X11_half_n28 hN hI.1.1.1 q.1 q.2 hI.1.1.2.1) (fun r h => ⟨⟨CI_c hI.1.1 h.1 h.2, RI_c h.1 (by decide) (by decide) hI.1.2⟩, EQ_c hI.2 h.1 (by decide)⟩)

theorem wc_level {N : Nat} (hN : 1048576 ≤ N) {x1 : Int32} {x2 : Int32} {x3 : Int32} {σ : zS} (hI : IV σ) : Ok (f_X11_level N 0 x1 x2 x3 σ) (fun r => IV r.2) := by
  rcases hI.1.1.2.2 with q | q
  · exact ok_w (s_X11_level_n2 hN hI.1.1.1 q.1 q.2 hI.1.1.2.1) (fun r h => ⟨⟨CI_c hI.1.1 h.1 h.2, RI_c h.1 (by decide) (by decide) hI.1.2⟩, EQ_c hI.2 h.1 (by decide)⟩)
  · exact ok_w (s_X11_level_n28 hN hI.1.1.1 q.1 q.2 hI.1.1.2.1) (fun r h => ⟨⟨CI_c hI.1.1 h.1 h.2, RI_c h.1 (by decide) (by decide) hI.1.2⟩, EQ_c hI.2 h.1 (by decide)⟩)

theorem wc_nth {N : Nat} (hN : 1048576 ≤ N) {x1 : Int32} {x2 : Int32} {σ : zS} (hI : IV σ) : Ok (f_X11_nth N 0 x1 x2 σ) (fun r => IV r.2) := by
  rcases hI.1.1.2.2 with q | q
  · exact ok_w (s_X11_nth_n2 hN hI.1.1.1 q.1 q.2 hI.1.1.2.1) (fun r h => ⟨⟨CI_c hI.1.1 h.1 h.2, RI_c h.1 (by decide) (by decide) hI.1.2⟩, EQ_c hI.2 h.1 (by decide)⟩)
  · exact ok_w (s_X11_nth_n28 hN hI.1.1.1 q.1 q.2 hI.1.1.2.1) (fun r h => ⟨⟨CI_c hI.1.1 h.1 h.2, RI_c h.1 (by decide) (by decide) hI.1.2⟩, EQ_c hI.2 h.1 (by decide)⟩)

theorem wc_rank {N : Nat} (hN : 1048576 ≤ N) {x1 : Int32} {x2 : Int32} {σ : zS} (hI : IV σ) : Ok (f_X11_rank N 0 x1 x2 σ) (fun r => IV r.2) := by
  rcases hI.1.1.2.2 with q | q
  · exact ok_w (s_X11_rank_n2 hN hI.1.1.1 q.1 q.2 hI.1.1.2.1) (fun r h => ⟨⟨CI_c hI.1.1 h.1 h.2, RI_c h.1 (by decide) (by decide) hI.1.2⟩, EQ_c hI.2 h.1 (by decide)⟩)
  · exact ok_w (s_X11_rank_n28 hN hI.1.1.1 q.1 q.2 hI.1.1.2.1) (fun r h => ⟨⟨CI_c hI.1.1 h.1 h.2, RI_c h.1 (by decide) (by decide) hI.1.2⟩, EQ_c hI.2 h.1 (by decide)⟩)

theorem wc_light {N : Nat} (hN : 1048576 ≤ N) {x1 : Int32} {x2 : Int32} {σ : zS} (hI : IV σ) : Ok (f_X11_light N 0 x1 x2 σ) (fun r => IV r.2) := by
  rcases hI.1.1.2.2 with q | q
  · exact ok_w (s_X11_light_n2 hN hI.1.1.1 q.1 q.2 hI.1.1.2.1) (fun r h => ⟨⟨CI_c hI.1.1 h.1 h.2, RI_c h.1 (by decide) (by decide) hI.1.2⟩, EQ_c hI.2 h.1 (by decide)⟩)
  · exact ok_w (s_X11_light_n28 hN hI.1.1.1 q.1 q.2 hI.1.1.2.1) (fun r h => ⟨⟨CI_c hI.1.1 h.1 h.2, RI_c h.1 (by decide) (by decide) hI.1.2⟩, EQ_c hI.2 h.1 (by decide)⟩)

theorem wc_weight {N : Nat} (hN : 1048576 ≤ N) {x1 : Int32} {σ : zS} (hI : IV σ) : Ok (f_X11_weight N 0 x1 σ) (fun r => IV r.2) := by
  rcases hI.1.1.2.2 with q | q
  · exact ok_w (s_X11_weight_n2 hN hI.1.1.1 q.1 q.2 hI.1.1.2.1) (fun r h => ⟨⟨CI_c hI.1.1 h.1 h.2, RI_c h.1 (by decide) (by decide) hI.1.2⟩, EQ_c hI.2 h.1 (by decide)⟩)
  · exact ok_w (s_X11_weight_n28 hN hI.1.1.1 q.1 q.2 hI.1.1.2.1) (fun r h => ⟨⟨CI_c hI.1.1 h.1 h.2, RI_c h.1 (by decide) (by decide) hI.1.2⟩, EQ_c hI.2 h.1 (by decide)⟩)

theorem wc_weigh {N : Nat} (hN : 1048576 ≤ N) {x1 : Int32} {x2 : Int32} {σ : zS} (hI : IV σ) : Ok (f_X11_weigh N 0 x1 x2 σ) (fun r => IV r.2) := by
  rcases hI.1.1.2.2 with q | q
  · exact ok_w (s_X11_weigh_n2 hN hI.1.1.1 q.1 q.2 hI.1.1.2.1) (fun r h => ⟨⟨CI_c hI.1.1 h.1 h.2, RI_c h.1 (by decide) (by decide) hI.1.2⟩, EQ_c hI.2 h.1 (by decide)⟩)
  · exact ok_w (s_X11_weigh_n28 hN hI.1.1.1 q.1 q.2 hI.1.1.2.1) (fun r h => ⟨⟨CI_c hI.1.1 h.1 h.2, RI_c h.1 (by decide) (by decide) hI.1.2⟩, EQ_c hI.2 h.1 (by decide)⟩)

theorem wc_weighs {N : Nat} (hN : 1048576 ≤ N) {x1 : Int32} {x2 : Int32} {σ : zS} (hI : IV σ) : Ok (f_X11_weighs N 0 x1 x2 σ) (fun r => IV r.2) := by
  rcases hI.1.1.2.2 with q | q
  · exact ok_w (s_X11_weighs_n2 hN hI.1.1.1 q.1 q.2 hI.1.1.2.1) (fun r h => ⟨⟨CI_c hI.1.1 h.1 h.2, RI_c h.1 (by decide) (by decide) hI.1.2⟩, EQ_c hI.2 h.1 (by decide)⟩)
  · exact ok_w (s_X11_weighs_n28 hN hI.1.1.1 q.1 q.2 hI.1.1.2.1) (fun r h => ⟨⟨CI_c hI.1.1 h.1 h.2, RI_c h.1 (by decide) (by decide) hI.1.2⟩, EQ_c hI.2 h.1 (by decide)⟩)

theorem wc_each {N : Nat} (hN : 1048576 ≤ N) {x1 : Int32} {x2 : Int32} {σ : zS} (hI : IV σ) : Ok (f_X11_each N 0 x1 x2 σ) (fun r => IV r.2) := by
  rcases hI.1.1.2.2 with q | q
  · exact ok_w (s_X11_each_n2 hN hI.1.1.1 q.1 q.2 hI.1.1.2.1) (fun r h => ⟨⟨CI_c hI.1.1 h.1 h.2, RI_c h.1 (by decide) (by decide) hI.1.2⟩, EQ_c hI.2 h.1 (by decide)⟩)
  · exact ok_w (s_X11_each_n28 hN hI.1.1.1 q.1 q.2 hI.1.1.2.1) (fun r h => ⟨⟨CI_c hI.1.1 h.1 h.2, RI_c h.1 (by decide) (by decide) hI.1.2⟩, EQ_c hI.2 h.1 (by decide)⟩)

theorem wc_names {N : Nat} (hN : 1048576 ≤ N) {x1 : Int32} {x2 : Int32} {σ : zS} (hI : IV σ) : Ok (f_X11_names N 0 x1 x2 σ) (fun r => IV r.2) := by
  rcases hI.1.1.2.2 with q | q
  · exact ok_w (s_X11_names_n2 hN hI.1.1.1 q.1 q.2 hI.1.1.2.1) (fun r h => ⟨⟨CI_c hI.1.1 h.1 h.2, RI_c h.1 (by decide) (by decide) hI.1.2⟩, EQ_c hI.2 h.1 (by decide)⟩)
  · exact ok_w (s_X11_names_n28 hN hI.1.1.1 q.1 q.2 hI.1.1.2.1) (fun r h => ⟨⟨CI_c hI.1.1 h.1 h.2, RI_c h.1 (by decide) (by decide) hI.1.2⟩, EQ_c hI.2 h.1 (by decide)⟩)

theorem wc_draw {N : Nat} (hN : 1048576 ≤ N) {x1 : Int32} {x2 : Int32} {σ : zS} (hI : IV σ) : Ok (f_X11_draw N 0 x1 x2 σ) (fun r => IV r.2) := by
  rcases hI.1.1.2.2 with q | q
  · exact ok_w (s_X11_draw_n2 hN hI.1.1.1 q.1 q.2 hI.1.1.2.1) (fun r h => ⟨⟨CI_c hI.1.1 h.1 h.2, RI_c h.1 (by decide) (by decide) hI.1.2⟩, EQ_c hI.2 h.1 (by decide)⟩)
  · exact ok_w (s_X11_draw_n28 hN hI.1.1.1 q.1 q.2 hI.1.1.2.1) (fun r h => ⟨⟨CI_c hI.1.1 h.1 h.2, RI_c h.1 (by decide) (by decide) hI.1.2⟩, EQ_c hI.2 h.1 (by decide)⟩)

theorem wc_alike {N : Nat} (hN : 1048576 ≤ N) {x1 : Int32} {x2 : Int32} {σ : zS} (hI : IV σ) : Ok (f_X11_alike N 0 x1 x2 σ) (fun r => IV r.2) := by
  rcases hI.1.1.2.2 with q | q
  · exact ok_w (s_X11_alike_n2 hN hI.1.1.1 q.1 q.2 hI.1.1.2.1) (fun r h => ⟨⟨CI_c hI.1.1 h.1 h.2, RI_c h.1 (by decide) (by decide) hI.1.2⟩, EQ_c hI.2 h.1 (by decide)⟩)
  · exact ok_w (s_X11_alike_n28 hN hI.1.1.1 q.1 q.2 hI.1.1.2.1) (fun r h => ⟨⟨CI_c hI.1.1 h.1 h.2, RI_c h.1 (by decide) (by decide) hI.1.2⟩, EQ_c hI.2 h.1 (by decide)⟩)

theorem wc_differ {N : Nat} (hN : 1048576 ≤ N) {x1 : Int32} {x2 : Int32} {σ : zS} (hI : IV σ) : Ok (f_X11_differ N 0 x1 x2 σ) (fun r => IV r.2) := by
  rcases hI.1.1.2.2 with q | q
  · exact ok_w (s_X11_differ_n2 hN hI.1.1.1 q.1 q.2 hI.1.1.2.1) (fun r h => ⟨⟨CI_c hI.1.1 h.1 h.2, RI_c h.1 (by decide) (by decide) hI.1.2⟩, EQ_c hI.2 h.1 (by decide)⟩)
  · exact ok_w (s_X11_differ_n28 hN hI.1.1.1 q.1 q.2 hI.1.1.2.1) (fun r h => ⟨⟨CI_c hI.1.1 h.1 h.2, RI_c h.1 (by decide) (by decide) hI.1.2⟩, EQ_c hI.2 h.1 (by decide)⟩)

theorem wc_within {N : Nat} (hN : 1048576 ≤ N) {x1 : Int32} {x2 : Int32} {σ : zS} (hI : IV σ) : Ok (f_X11_within N 0 x1 x2 σ) (fun r => IV r.2) := by
  rcases hI.1.1.2.2 with q | q
  · exact ok_w (s_X11_within_n2 hN hI.1.1.1 q.1 q.2 hI.1.1.2.1) (fun r h => ⟨⟨CI_c hI.1.1 h.1 h.2, RI_c h.1 (by decide) (by decide) hI.1.2⟩, EQ_c hI.2 h.1 (by decide)⟩)
  · exact ok_w (s_X11_within_n28 hN hI.1.1.1 q.1 q.2 hI.1.1.2.1) (fun r h => ⟨⟨CI_c hI.1.1 h.1 h.2, RI_c h.1 (by decide) (by decide) hI.1.2⟩, EQ_c hI.2 h.1 (by decide)⟩)

theorem wc_dual {N : Nat} (hN : 1048576 ≤ N) {x1 : Int32} {x2 : Int32} {σ : zS} (hI : IV σ) : Ok (f_X11_dual N 0 x1 x2 σ) (fun r => IV r.2) := by
  rcases hI.1.1.2.2 with q | q
  · exact ok_w (s_X11_dual_n2 hN hI.1.1.1 q.1 q.2 hI.1.1.2.1) (fun r h => ⟨⟨CI_c hI.1.1 h.1 h.2, RI_c h.1 (by decide) (by decide) hI.1.2⟩, EQ_c hI.2 h.1 (by decide)⟩)
  · exact ok_w (s_X11_dual_n28 hN hI.1.1.1 q.1 q.2 hI.1.1.2.1) (fun r h => ⟨⟨CI_c hI.1.1 h.1 h.2, RI_c h.1 (by decide) (by decide) hI.1.2⟩, EQ_c hI.2 h.1 (by decide)⟩)

theorem wc_apart {N : Nat} (hN : 1048576 ≤ N) {x1 : Int32} {x2 : Int32} {σ : zS} (hI : IV σ) : Ok (f_X11_apart N 0 x1 x2 σ) (fun r => IV r.2) := by
  rcases hI.1.1.2.2 with q | q
  · exact ok_w (s_X11_apart_n2 hN hI.1.1.1 q.1 q.2 hI.1.1.2.1) (fun r h => ⟨⟨CI_c hI.1.1 h.1 h.2, RI_c h.1 (by decide) (by decide) hI.1.2⟩, EQ_c hI.2 h.1 (by decide)⟩)
  · exact ok_w (s_X11_apart_n28 hN hI.1.1.1 q.1 q.2 hI.1.1.2.1) (fun r h => ⟨⟨CI_c hI.1.1 h.1 h.2, RI_c h.1 (by decide) (by decide) hI.1.2⟩, EQ_c hI.2 h.1 (by decide)⟩)

theorem wc_packs {N : Nat} (hN : 1048576 ≤ N) {x1 : Int32} {x2 : Int32} {σ : zS} (hI : IV σ) : Ok (f_X11_packs N 0 x1 x2 σ) (fun r => IV r.2) := by
  rcases hI.1.1.2.2 with q | q
  · exact ok_w (s_X11_packs_n2 hN hI.1.1.1 q.1 q.2 hI.1.1.2.1) (fun r h => ⟨⟨CI_c hI.1.1 h.1 h.2, RI_c h.1 (by decide) (by decide) hI.1.2⟩, EQ_c hI.2 h.1 (by decide)⟩)
  · exact ok_w (s_X11_packs_n28 hN hI.1.1.1 q.1 q.2 hI.1.1.2.1) (fun r h => ⟨⟨CI_c hI.1.1 h.1 h.2, RI_c h.1 (by decide) (by decide) hI.1.2⟩, EQ_c hI.2 h.1 (by decide)⟩)

theorem wc_nodes {N : Nat} (hN : 1048576 ≤ N) {x1 : Int32} {σ : zS} (hI : IV σ) : Ok (f_X11_nodes N 0 x1 σ) (fun r => IV r.2) := by
  rcases hI.1.1.2.2 with q | q
  · exact ok_w (s_X11_nodes_n2 hN hI.1.1.1 q.1 q.2 hI.1.1.2.1) (fun r h => ⟨⟨CI_c hI.1.1 h.1 h.2, RI_c h.1 (by decide) (by decide) hI.1.2⟩, EQ_c hI.2 h.1 (by decide)⟩)
  · exact ok_w (s_X11_nodes_n28 hN hI.1.1.1 q.1 q.2 hI.1.1.2.1) (fun r h => ⟨⟨CI_c hI.1.1 h.1 h.2, RI_c h.1 (by decide) (by decide) hI.1.2⟩, EQ_c hI.2 h.1 (by decide)⟩)

theorem wc_net {N : Nat} (hN : 1048576 ≤ N)  {σ : zS} (hI : IV σ) : Ok (f_X11_net N 0  σ) (fun r => IV r.2) := by
  rcases hI.1.1.2.2 with q | q
  · exact ok_w (s_X11_net_n2 hN hI.1.1.1 q.1 q.2 hI.1.1.2.1) (fun r h => ⟨⟨CI_c hI.1.1 h.1 h.2, RI_c h.1 (by decide) (by decide) hI.1.2⟩, EQ_c hI.2 h.1 (by decide)⟩)
  · exact ok_w (s_X11_net_n28 hN hI.1.1.1 q.1 q.2 hI.1.1.2.1) (fun r h => ⟨⟨CI_c hI.1.1 h.1 h.2, RI_c h.1 (by decide) (by decide) hI.1.2⟩, EQ_c hI.2 h.1 (by decide)⟩)

theorem wc_wide {N : Nat} (hN : 1048576 ≤ N) {x1 : Int32} {x2 : Int32} {σ : zS} (hI : IV σ) : Ok (f_X11_wide N 0 x1 x2 σ) (fun r => IV r.2) := by
  rcases hI.1.1.2.2 with q | q
  · exact ok_w (s_X11_wide_n2 hN hI.1.1.1 q.1 q.2 hI.1.1.2.1) (fun r h => ⟨⟨CI_c hI.1.1 h.1 h.2, RI_c h.1 (by decide) (by decide) hI.1.2⟩, EQ_c hI.2 h.1 (by decide)⟩)
  · exact ok_w (s_X11_wide_n28 hN hI.1.1.1 q.1 q.2 hI.1.1.2.1) (fun r h => ⟨⟨CI_c hI.1.1 h.1 h.2, RI_c h.1 (by decide) (by decide) hI.1.2⟩, EQ_c hI.2 h.1 (by decide)⟩)

theorem wc_order {N : Nat} (hN : 1048576 ≤ N) {x1 : Int32} {σ : zS} (hI : IV σ) : Ok (f_X11_order N 0 x1 σ) (fun r => IV r.2) := by
  rcases hI.1.1.2.2 with q | q
  · exact ok_w (s_X11_order_n2 hN hI.1.1.1 q.1 q.2 hI.1.1.2.1) (fun r h => ⟨⟨CI_c hI.1.1 h.1 h.2, RI_c h.1 (by decide) (by decide) hI.1.2⟩, EQ_c hI.2 h.1 (by decide)⟩)
  · exact ok_w (s_X11_order_n28 hN hI.1.1.1 q.1 q.2 hI.1.1.2.1) (fun r h => ⟨⟨CI_c hI.1.1 h.1 h.2, RI_c h.1 (by decide) (by decide) hI.1.2⟩, EQ_c hI.2 h.1 (by decide)⟩)

theorem wc_swap {N : Nat} (hN : 1048576 ≤ N) {x1 : Int32} {σ : zS} (hI : IV σ) : Ok (f_X11_swap N 0 x1 σ) (fun r => IV r.2) := by
  rcases hI.1.1.2.2 with q | q
  · exact ok_w (s_X11_swap_n2 hN hI.1.1.1 q.1 q.2 hI.1.1.2.1) (fun r h => ⟨⟨CI_c hI.1.1 h.1 h.2, RI_c h.1 (by decide) (by decide) hI.1.2⟩, EQ_c hI.2 h.1 (by decide)⟩)
  · exact ok_w (s_X11_swap_n28 hN hI.1.1.1 q.1 q.2 hI.1.1.2.1) (fun r h => ⟨⟨CI_c hI.1.1 h.1 h.2, RI_c h.1 (by decide) (by decide) hI.1.2⟩, EQ_c hI.2 h.1 (by decide)⟩)

theorem wc_move {N : Nat} (hN : 1048576 ≤ N) {x1 : Int32} {x2 : Int32} {σ : zS} (hI : IV σ) : Ok (f_X11_move N 0 x1 x2 σ) (fun r => IV r.2) := by
  rcases hI.1.1.2.2 with q | q
  · exact ok_w (s_X11_move_n2 hN hI.1.1.1 q.1 q.2 hI.1.1.2.1) (fun r h => ⟨⟨CI_c hI.1.1 h.1 h.2, RI_c h.1 (by decide) (by decide) hI.1.2⟩, EQ_c hI.2 h.1 (by decide)⟩)
  · exact ok_w (s_X11_move_n28 hN hI.1.1.1 q.1 q.2 hI.1.1.2.1) (fun r h => ⟨⟨CI_c hI.1.1 h.1 h.2, RI_c h.1 (by decide) (by decide) hI.1.2⟩, EQ_c hI.2 h.1 (by decide)⟩)

theorem wc_best {N : Nat} (hN : 1048576 ≤ N) {x1 : Int32} {x2 : Int32} {σ : zS} (hI : IV σ) : Ok (f_X11_best N 0 x1 x2 σ) (fun r => IV r.2) := by
  rcases hI.1.1.2.2 with q | q
  · exact ok_w (s_X11_best_n2 hN hI.1.1.1 q.1 q.2 hI.1.1.2.1) (fun r h => ⟨⟨CI_c hI.1.1 h.1 h.2, RI_c h.1 (by decide) (by decide) hI.1.2⟩, EQ_c hI.2 h.1 (by decide)⟩)
  · exact ok_w (s_X11_best_n28 hN hI.1.1.1 q.1 q.2 hI.1.1.2.1) (fun r h => ⟨⟨CI_c hI.1.1 h.1 h.2, RI_c h.1 (by decide) (by decide) hI.1.2⟩, EQ_c hI.2 h.1 (by decide)⟩)

theorem wc_sift {N : Nat} (hN : 1048576 ≤ N) {x1 : Int32} {σ : zS} (hI : IV σ) : Ok (f_X11_sift N 0 x1 σ) (fun r => IV r.2) := by
  rcases hI.1.1.2.2 with q | q
  · exact ok_w (s_X11_sift_n2 hN hI.1.1.1 q.1 q.2 hI.1.1.2.1) (fun r h => ⟨⟨CI_c hI.1.1 h.1 h.2, RI_c h.1 (by decide) (by decide) hI.1.2⟩, EQ_c hI.2 h.1 (by decide)⟩)
  · exact ok_w (s_X11_sift_n28 hN hI.1.1.1 q.1 q.2 hI.1.1.2.1) (fun r h => ⟨⟨CI_c hI.1.1 h.1 h.2, RI_c h.1 (by decide) (by decide) hI.1.2⟩, EQ_c hI.2 h.1 (by decide)⟩)

theorem wc_ways {N : Nat} (hN : 1048576 ≤ N) {x1 : Int32} {x2 : Int32} {x3 : Int32} {σ : zS} (hI : IV σ) : Ok (f_X11_ways N 0 x1 x2 x3 σ) (fun r => IV r.2) := by
  rcases hI.1.1.2.2 with q | q
  · exact ok_w (s_X11_ways_n2 hN hI.1.1.1 q.1 q.2 hI.1.1.2.1) (fun r h => ⟨⟨CI_c hI.1.1 h.1 h.2, RI_c h.1 (by decide) (by decide) hI.1.2⟩, EQ_c hI.2 h.1 (by decide)⟩)
  · exact ok_w (s_X11_ways_n28 hN hI.1.1.1 q.1 q.2 hI.1.1.2.1) (fun r h => ⟨⟨CI_c hI.1.1 h.1 h.2, RI_c h.1 (by decide) (by decide) hI.1.2⟩, EQ_c hI.2 h.1 (by decide)⟩)

theorem wc_map {N : Nat} (hN : 1048576 ≤ N) {x1 : Int32} {x2 : Int32} {σ : zS} (hI : IV σ) : Ok (f_X11_map N 0 x1 x2 σ) (fun r => IV r.2) := by
  rcases hI.1.1.2.2 with q | q
  · exact ok_w (s_X11_map_n2 hN hI.1.1.1 q.1 q.2 hI.1.1.2.1) (fun r h => ⟨⟨CI_c hI.1.1 h.1 h.2, RI_c h.1 (by decide) (by decide) hI.1.2⟩, EQ_c hI.2 h.1 (by decide)⟩)
  · exact ok_w (s_X11_map_n28 hN hI.1.1.1 q.1 q.2 hI.1.1.2.1) (fun r h => ⟨⟨CI_c hI.1.1 h.1 h.2, RI_c h.1 (by decide) (by decide) hI.1.2⟩, EQ_c hI.2 h.1 (by decide)⟩)

theorem wc_cuts {N : Nat} (hN : 1048576 ≤ N) {x1 : Int32} {x2 : Int32} {x3 : Int32} {σ : zS} (hI : IV σ) : Ok (f_X11_cuts N 0 x1 x2 x3 σ) (fun r => IV r.2) := by
  rcases hI.1.1.2.2 with q | q
  · exact ok_w (s_X11_cuts_n2 hN hI.1.1.1 q.1 q.2 hI.1.1.2.1) (fun r h => ⟨⟨CI_c hI.1.1 h.1 h.2, RI_c h.1 (by decide) (by decide) hI.1.2⟩, EQ_c hI.2 h.1 (by decide)⟩)
  · exact ok_w (s_X11_cuts_n28 hN hI.1.1.1 q.1 q.2 hI.1.1.2.1) (fun r h => ⟨⟨CI_c hI.1.1 h.1 h.2, RI_c h.1 (by decide) (by decide) hI.1.2⟩, EQ_c hI.2 h.1 (by decide)⟩)

theorem wc_judge {N : Nat} (hN : 1048576 ≤ N) {x1 : Int32} {x2 : Int32} {σ : zS} (hI : IV σ) : Ok (f_X11_judge N 0 x1 x2 σ) (fun r => IV r.2) := by
  rcases hI.1.1.2.2 with q | q
  · exact ok_w (s_X11_judge_n2 hN hI.1.1.1 q.1 q.2 hI.1.1.2.1) (fun r h => ⟨⟨CI_c hI.1.1 h.1 h.2, RI_c h.1 (by decide) (by decide) hI.1.2⟩, EQ_c hI.2 h.1 (by decide)⟩)
  · exact ok_w (s_X11_judge_n28 hN hI.1.1.1 q.1 q.2 hI.1.1.2.1) (fun r h => ⟨⟨CI_c hI.1.1 h.1 h.2, RI_c h.1 (by decide) (by decide) hI.1.2⟩, EQ_c hI.2 h.1 (by decide)⟩)

theorem wc_takes {N : Nat} (hN : 1048576 ≤ N) {x1 : Int32} {x2 : Int32} {σ : zS} (hI : IV σ) : Ok (f_X11_takes N 0 x1 x2 σ) (fun r => IV r.2) := by
  rcases hI.1.1.2.2 with q | q
  · exact ok_w (s_X11_takes_n2 hN hI.1.1.1 q.1 q.2 hI.1.1.2.1) (fun r h => ⟨⟨CI_c hI.1.1 h.1 h.2, RI_c h.1 (by decide) (by decide) hI.1.2⟩, EQ_c hI.2 h.1 (by decide)⟩)
  · exact ok_w (s_X11_takes_n28 hN hI.1.1.1 q.1 q.2 hI.1.1.2.1) (fun r h => ⟨⟨CI_c hI.1.1 h.1 h.2, RI_c h.1 (by decide) (by decide) hI.1.2⟩, EQ_c hI.2 h.1 (by decide)⟩)

theorem wc_count {N : Nat} (hN : 1048576 ≤ N) {x1 : Int32} {σ : zS} (hI : IV σ) : Ok (f_X11_count N 0 x1 σ) (fun r => IV r.2) := by
  rcases hI.1.1.2.2 with q | q
  · exact ok_w (s_X11_count_n2 hN hI.1.1.1 q.1 q.2 hI.1.1.2.1) (fun r h => ⟨⟨CI_c hI.1.1 h.1 h.2, RI_c h.1 (by decide) (by decide) hI.1.2⟩, EQ_c hI.2 h.1 (by decide)⟩)
  · exact ok_w (s_X11_count_n28 hN hI.1.1.1 q.1 q.2 hI.1.1.2.1) (fun r h => ⟨⟨CI_c hI.1.1 h.1 h.2, RI_c h.1 (by decide) (by decide) hI.1.2⟩, EQ_c hI.2 h.1 (by decide)⟩)

theorem wc_row {N : Nat} (hN : 1048576 ≤ N) {x1 : Int32} {x2 : Int32} {x3 : Int32} {σ : zS} (hI : IV σ) : Ok (f_X11_row N 0 x1 x2 x3 σ) (fun r => (CI r.2 ∧ RI r.2) ∧ FC [210, 212, 214, 216] σ r.2 ∧ r.1 = rowV x1 x2 x3 ∧ RWC σ.1 r.2.1 x1 x2 x3 r.1) := by
  rcases hI.1.1.2.2 with q | q
  · exact ok_w (s_X11_row_n2v hN hI.1.1.1 q.1 q.2 hI.1.1.2.1) (fun r h => ⟨⟨CI_c hI.1.1 h.1 h.2.1, RI_c h.1 (by decide) (by decide) hI.1.2⟩, h.1.2, ⟨h.2.2.1, h.2.2.2⟩⟩)
  · exact ok_w (s_X11_row_n28v hN hI.1.1.1 q.1 q.2 hI.1.1.2.1) (fun r h => ⟨⟨CI_c hI.1.1 h.1 h.2.1, RI_c h.1 (by decide) (by decide) hI.1.2⟩, h.1.2, ⟨h.2.2.1, h.2.2.2⟩⟩)

theorem wc_write {N : Nat} (hN : 1048576 ≤ N) {x1 : Int32} {x2 : Int32} {x3 : Int64} {σ : zS} (hI : IV σ) : Ok (f_X11_write N 0 x1 x2 x3 σ) (fun r => IV r.2 ∧ FC [] σ r.2 ∧ r.1 = wrV x1 x2 (σ.1 (210 + 2 * x1.toInt.toNat) 2)) := by
  rcases hI.1.1.2.2 with q | q
  · exact ok_w (s_X11_write_n2v hN hI.1.1.1 q.1 q.2 hI.1.1.2.1) (fun r h => ⟨⟨⟨CI_c hI.1.1 h.1 h.2.1, RI_c h.1 (by decide) (by decide) hI.1.2⟩, EQ_c hI.2 h.1 (by decide)⟩, h.1.2, h.2.2⟩)
  · exact ok_w (s_X11_write_n28v hN hI.1.1.1 q.1 q.2 hI.1.1.2.1) (fun r h => ⟨⟨⟨CI_c hI.1.1 h.1 h.2.1, RI_c h.1 (by decide) (by decide) hI.1.2⟩, EQ_c hI.2 h.1 (by decide)⟩, h.1.2, h.2.2⟩)

theorem wc_paste {N : Nat} (hN : 1048576 ≤ N) {x1 : Int32} {x2 : Int32} {x3 : Int32} {x4 : Int32} {x5 : Int32} {σ : zS} (hI : IV σ) : Ok (f_X11_paste N 0 x1 x2 x3 x4 x5 σ) (fun r => IV r.2 ∧ FC [] σ r.2 ∧ r.1 = paV x1 x2 x3 x4 x5 (σ.1 (210 + 2 * x1.toInt.toNat) 2) (σ.1 (210 + 2 * x3.toInt.toNat) 2) (σ.1 (210 + 2 * x1.toInt.toNat) 1) (σ.1 (210 + 2 * x3.toInt.toNat) 1)) := by
  rcases hI.1.1.2.2 with q | q
  · exact ok_w (s_X11_paste_n2v hN hI.1.1.1 q.1 q.2 hI.1.1.2.1) (fun r h => ⟨⟨⟨CI_c hI.1.1 h.1 h.2.1, RI_c h.1 (by decide) (by decide) hI.1.2⟩, EQ_c hI.2 h.1 (by decide)⟩, h.1.2, h.2.2⟩)
  · exact ok_w (s_X11_paste_n28v hN hI.1.1.1 q.1 q.2 hI.1.1.2.1) (fun r h => ⟨⟨⟨CI_c hI.1.1 h.1 h.2.1, RI_c h.1 (by decide) (by decide) hI.1.2⟩, EQ_c hI.2 h.1 (by decide)⟩, h.1.2, h.2.2⟩)

theorem wc_world {N : Nat} (hN : 1048576 ≤ N) {σ : zS} (hI : IV σ) : Ok (f_X11_world N 0 σ) (fun r => (CI r.2 ∧ RI r.2) ∧ FC [0, 2, 3, 4, 5, 6, 28, 29, 30, 31, 32, 57, 58, 59, 61, 62, 63, 64, 65, 106, 107] σ r.2 ∧ r.2.1 0 1 = 0 ∧ ∀ G : Nat → Int32, (∀ j, j < 43 → G j = 0) → CXQ (σ.1 1) (σ.1 0 1).toInt.toNat (σ.2.2 0 5) σ G r) := by
  have hC := hI.1.1.2.1
  have ht := hC.2.2.2.2.2.2.2.2
  rcases hI.1.1.2.2 with q | q
  · refine ok_w (ok_pt (s_X11_world_n2 hN hI.1.1.1 q.1 q.2 hI.1.1.2.1) (P := fun r => ∀ G : Nat → Int32, (∀ j, j < 43 → G j = 0) → CXQ (σ.1 1) (σ.1 0 1).toInt.toNat (σ.2.2 0 5) σ G r) (fun a e G hG => by rw [q.2]; exact vl_world (B := 28) (n := (σ.1 0 1).toInt.toNat) hN (by decide) hI.1.1.1 q.2 hC.2.1 hC.2.2.2.2.2.2.1 (by omega) hG a e)) (fun r h => ?_)
    have hx := h.2
    have h := h.1
    rcases h with h | h
    · exact ⟨⟨CI_c hI.1.1 h.1 h.2.1, RI_c h.1 (by decide) (by decide) hI.1.2⟩, (fun k hk => h.1.2 k (fun q => hk ((show ∀ k ∈ [0, 28, 29, 30, 31, 32, 57, 58, 59, 61, 62, 63, 64, 65, 106, 107], k ∈ [0, 2, 3, 4, 5, 6, 28, 29, 30, 31, 32, 57, 58, 59, 61, 62, 63, 64, 65, 106, 107] by decide) k q))), h.2.2, hx⟩
    · exact ⟨⟨⟨h.1, h.2.2.2.1, Or.inr ⟨h.2.1, h.2.2.1⟩⟩, RI_e (fun k hk => h.2.2.2.2.2 k (hiS (by decide) k hk)) (ZB_e h.2.2.2.2.2 (by decide) hI.1.2.2.1) hI.1.2⟩, (fun k hk => h.2.2.2.2.2 k (fun q => hk ((show ∀ k ∈ [0, 28, 29, 30, 31, 32, 57, 58, 59, 61, 62, 63, 64, 65, 106, 107], k ∈ [0, 2, 3, 4, 5, 6, 28, 29, 30, 31, 32, 57, 58, 59, 61, 62, 63, 64, 65, 106, 107] by decide) k q))), h.2.2.2.2.1, hx⟩
  · refine ok_w (ok_pt (s_X11_world_n28 hN hI.1.1.1 q.1 q.2 hI.1.1.2.1) (P := fun r => ∀ G : Nat → Int32, (∀ j, j < 43 → G j = 0) → CXQ (σ.1 1) (σ.1 0 1).toInt.toNat (σ.2.2 0 5) σ G r) (fun a e G hG => by rw [q.2]; exact vl_world (B := 2) (n := (σ.1 0 1).toInt.toNat) hN (by decide) hI.1.1.1 q.2 hC.1 hC.2.2.2.2.2.2.1 (by omega) hG a e)) (fun r h => ?_)
    have hx := h.2
    have h := h.1
    rcases h with h | h
    · exact ⟨⟨CI_c hI.1.1 h.1 h.2.1, RI_c h.1 (by decide) (by decide) hI.1.2⟩, (fun k hk => h.1.2 k (fun q => hk ((show ∀ k ∈ [0, 2, 3, 4, 5, 6, 57, 58, 59, 61, 62, 63, 64, 65, 106, 107], k ∈ [0, 2, 3, 4, 5, 6, 28, 29, 30, 31, 32, 57, 58, 59, 61, 62, 63, 64, 65, 106, 107] by decide) k q))), h.2.2, hx⟩
    · exact ⟨⟨⟨h.1, h.2.2.2.1, Or.inl ⟨h.2.1, h.2.2.1⟩⟩, RI_e (fun k hk => h.2.2.2.2.2 k (hiS (by decide) k hk)) (ZB_e h.2.2.2.2.2 (by decide) hI.1.2.2.1) hI.1.2⟩, (fun k hk => h.2.2.2.2.2 k (fun q => hk ((show ∀ k ∈ [0, 2, 3, 4, 5, 6, 57, 58, 59, 61, 62, 63, 64, 65, 106, 107], k ∈ [0, 2, 3, 4, 5, 6, 28, 29, 30, 31, 32, 57, 58, 59, 61, 62, 63, 64, 65, 106, 107] by decide) k q))), h.2.2.2.2.1, hx⟩

theorem wc_keep {N : Nat} (hN : 1048576 ≤ N) {x1 : Int32} {σ : zS} (hI : IV σ) : Ok (f_X11_keep N 0 x1 σ) (fun r => (CI r.2 ∧ RI r.2) ∧ FC [55, 132, 133, 134, 135, 136, 158, 159, 160, 161, 162, 184, 185, 186, 187, 188] σ r.2 ∧ r.1 = (if 0 ≤ x1.toInt ∧ x1.toInt ≤ 2 then 0 else -2) ∧ ∀ j, r.2.1 55 j = if (0 ≤ x1.toInt ∧ x1.toInt ≤ 2) ∧ j = x1.toInt.toNat then vp_nar .boolean 1 else σ.1 55 j) := by
  by_cases h : 0 ≤ x1.toInt ∧ x1.toInt ≤ 2
  · rw [if_pos h]
    rcases hI.1.1.2.2 with q | q
    · rcases k012 h with rfl | rfl | rfl
      · exact ok_w (s_X11_keep_n2_0v hN hI.1.1.1 q.1 q.2 hI.1.1.2.1 hI.1.2.2.1) (fun r g => ⟨⟨CI_c hI.1.1 g.1 g.2.1, RI_e (fun k hk => g.1.2 k (hiS (by decide) k hk)) g.2.2.1 hI.1.2⟩, (fun k hk => g.1.2 k (fun q => hk ((show ∀ k ∈ [55, 132, 133, 134, 135, 136], k ∈ [55, 132, 133, 134, 135, 136, 158, 159, 160, 161, 162, 184, 185, 186, 187, 188] by decide) k q))), g.2.2.2.1, fun j => (g.2.2.2.2 j).trans (by by_cases e : j = 0; rw [if_pos e, if_pos ⟨h, e⟩]; rw [if_neg e, if_neg (fun q => e q.2)])⟩)
      · exact ok_w (s_X11_keep_n2_1v hN hI.1.1.1 q.1 q.2 hI.1.1.2.1 hI.1.2.2.1) (fun r g => ⟨⟨CI_c hI.1.1 g.1 g.2.1, RI_e (fun k hk => g.1.2 k (hiS (by decide) k hk)) g.2.2.1 hI.1.2⟩, (fun k hk => g.1.2 k (fun q => hk ((show ∀ k ∈ [55, 158, 159, 160, 161, 162], k ∈ [55, 132, 133, 134, 135, 136, 158, 159, 160, 161, 162, 184, 185, 186, 187, 188] by decide) k q))), g.2.2.2.1, fun j => (g.2.2.2.2 j).trans (by by_cases e : j = 1; rw [if_pos e, if_pos ⟨h, e⟩]; rw [if_neg e, if_neg (fun q => e q.2)])⟩)
      · exact ok_w (s_X11_keep_n2_2v hN hI.1.1.1 q.1 q.2 hI.1.1.2.1 hI.1.2.2.1) (fun r g => ⟨⟨CI_c hI.1.1 g.1 g.2.1, RI_e (fun k hk => g.1.2 k (hiS (by decide) k hk)) g.2.2.1 hI.1.2⟩, (fun k hk => g.1.2 k (fun q => hk ((show ∀ k ∈ [55, 184, 185, 186, 187, 188], k ∈ [55, 132, 133, 134, 135, 136, 158, 159, 160, 161, 162, 184, 185, 186, 187, 188] by decide) k q))), g.2.2.2.1, fun j => (g.2.2.2.2 j).trans (by by_cases e : j = 2; rw [if_pos e, if_pos ⟨h, e⟩]; rw [if_neg e, if_neg (fun q => e q.2)])⟩)
    · rcases k012 h with rfl | rfl | rfl
      · exact ok_w (s_X11_keep_n28_0v hN hI.1.1.1 q.1 q.2 hI.1.1.2.1 hI.1.2.2.1) (fun r g => ⟨⟨CI_c hI.1.1 g.1 g.2.1, RI_e (fun k hk => g.1.2 k (hiS (by decide) k hk)) g.2.2.1 hI.1.2⟩, (fun k hk => g.1.2 k (fun q => hk ((show ∀ k ∈ [55, 132, 133, 134, 135, 136], k ∈ [55, 132, 133, 134, 135, 136, 158, 159, 160, 161, 162, 184, 185, 186, 187, 188] by decide) k q))), g.2.2.2.1, fun j => (g.2.2.2.2 j).trans (by by_cases e : j = 0; rw [if_pos e, if_pos ⟨h, e⟩]; rw [if_neg e, if_neg (fun q => e q.2)])⟩)
      · exact ok_w (s_X11_keep_n28_1v hN hI.1.1.1 q.1 q.2 hI.1.1.2.1 hI.1.2.2.1) (fun r g => ⟨⟨CI_c hI.1.1 g.1 g.2.1, RI_e (fun k hk => g.1.2 k (hiS (by decide) k hk)) g.2.2.1 hI.1.2⟩, (fun k hk => g.1.2 k (fun q => hk ((show ∀ k ∈ [55, 158, 159, 160, 161, 162], k ∈ [55, 132, 133, 134, 135, 136, 158, 159, 160, 161, 162, 184, 185, 186, 187, 188] by decide) k q))), g.2.2.2.1, fun j => (g.2.2.2.2 j).trans (by by_cases e : j = 1; rw [if_pos e, if_pos ⟨h, e⟩]; rw [if_neg e, if_neg (fun q => e q.2)])⟩)
      · exact ok_w (s_X11_keep_n28_2v hN hI.1.1.1 q.1 q.2 hI.1.1.2.1 hI.1.2.2.1) (fun r g => ⟨⟨CI_c hI.1.1 g.1 g.2.1, RI_e (fun k hk => g.1.2 k (hiS (by decide) k hk)) g.2.2.1 hI.1.2⟩, (fun k hk => g.1.2 k (fun q => hk ((show ∀ k ∈ [55, 184, 185, 186, 187, 188], k ∈ [55, 132, 133, 134, 135, 136, 158, 159, 160, 161, 162, 184, 185, 186, 187, 188] by decide) k q))), g.2.2.2.1, fun j => (g.2.2.2.2 j).trans (by by_cases e : j = 2; rw [if_pos e, if_pos ⟨h, e⟩]; rw [if_neg e, if_neg (fun q => e q.2)])⟩)
  · rw [if_neg h, f_X11_keep.eq_1]
    have n : ∀ j, σ.1 55 j = if (0 ≤ x1.toInt ∧ x1.toInt ≤ 2) ∧ j = x1.toInt.toNat then vp_nar .boolean 1 else σ.1 55 j := fun j => (if_neg (fun q => h q.1)).symm
    refine ok_if (fun _ => ok_some ⟨hI.1, fun _ _ => rfl, rfl, n⟩) (fun h1 => ok_if (fun h2 => ?_) (fun _ => ok_some ⟨hI.1, fun _ _ => rfl, rfl, n⟩))
    rw [Int32.lt_iff_toInt_lt] at h1 h2
    simp only [Int32.reduceToInt] at h1 h2
    omega
theorem wc_back {N : Nat} (hN : 1048576 ≤ N) {x1 : Int32} {σ : zS} (hI : IV σ) : Ok (f_X11_back N 0 x1 σ) (fun r => IV r.2 ∧ FC [2, 3, 4, 5, 6, 28, 29, 30, 31, 32] σ r.2 ∧ r.1 = if 0 ≤ x1.toInt ∧ x1.toInt ≤ 2 then (if σ.1 55 x1.toInt.toNat = 0 then -6 else 0) else -2) := by
  by_cases h : 0 ≤ x1.toInt ∧ x1.toInt ≤ 2
  · rw [if_pos h]
    rcases hI.1.1.2.2 with q | q
    · rcases k012 h with rfl | rfl | rfl
      · exact ok_w (s_X11_back_n2_0v hN hI.1.1.1 q.1 q.2 hI.1.1.2.1) (fun r g => ⟨⟨⟨CI_c hI.1.1 g.1 g.2.1, RI_c g.1 (by decide) (by decide) hI.1.2⟩, EQ_c hI.2 g.1 (by decide)⟩, (fun k hk => g.1.2 k (fun q => hk ((show ∀ k ∈ [2, 3, 4, 5, 6], k ∈ [2, 3, 4, 5, 6, 28, 29, 30, 31, 32] by decide) k q))), g.2.2⟩)
      · exact ok_w (s_X11_back_n2_1v hN hI.1.1.1 q.1 q.2 hI.1.1.2.1) (fun r g => ⟨⟨⟨CI_c hI.1.1 g.1 g.2.1, RI_c g.1 (by decide) (by decide) hI.1.2⟩, EQ_c hI.2 g.1 (by decide)⟩, (fun k hk => g.1.2 k (fun q => hk ((show ∀ k ∈ [2, 3, 4, 5, 6], k ∈ [2, 3, 4, 5, 6, 28, 29, 30, 31, 32] by decide) k q))), g.2.2⟩)
      · exact ok_w (s_X11_back_n2_2v hN hI.1.1.1 q.1 q.2 hI.1.1.2.1) (fun r g => ⟨⟨⟨CI_c hI.1.1 g.1 g.2.1, RI_c g.1 (by decide) (by decide) hI.1.2⟩, EQ_c hI.2 g.1 (by decide)⟩, (fun k hk => g.1.2 k (fun q => hk ((show ∀ k ∈ [2, 3, 4, 5, 6], k ∈ [2, 3, 4, 5, 6, 28, 29, 30, 31, 32] by decide) k q))), g.2.2⟩)
    · rcases k012 h with rfl | rfl | rfl
      · exact ok_w (s_X11_back_n28_0v hN hI.1.1.1 q.1 q.2 hI.1.1.2.1) (fun r g => ⟨⟨⟨CI_c hI.1.1 g.1 g.2.1, RI_c g.1 (by decide) (by decide) hI.1.2⟩, EQ_c hI.2 g.1 (by decide)⟩, (fun k hk => g.1.2 k (fun q => hk ((show ∀ k ∈ [28, 29, 30, 31, 32], k ∈ [2, 3, 4, 5, 6, 28, 29, 30, 31, 32] by decide) k q))), g.2.2⟩)
      · exact ok_w (s_X11_back_n28_1v hN hI.1.1.1 q.1 q.2 hI.1.1.2.1) (fun r g => ⟨⟨⟨CI_c hI.1.1 g.1 g.2.1, RI_c g.1 (by decide) (by decide) hI.1.2⟩, EQ_c hI.2 g.1 (by decide)⟩, (fun k hk => g.1.2 k (fun q => hk ((show ∀ k ∈ [28, 29, 30, 31, 32], k ∈ [2, 3, 4, 5, 6, 28, 29, 30, 31, 32] by decide) k q))), g.2.2⟩)
      · exact ok_w (s_X11_back_n28_2v hN hI.1.1.1 q.1 q.2 hI.1.1.2.1) (fun r g => ⟨⟨⟨CI_c hI.1.1 g.1 g.2.1, RI_c g.1 (by decide) (by decide) hI.1.2⟩, EQ_c hI.2 g.1 (by decide)⟩, (fun k hk => g.1.2 k (fun q => hk ((show ∀ k ∈ [28, 29, 30, 31, 32], k ∈ [2, 3, 4, 5, 6, 28, 29, 30, 31, 32] by decide) k q))), g.2.2⟩)
  · rw [if_neg h, f_X11_back.eq_1]
    refine ok_if (fun _ => ok_some ⟨hI, fun _ _ => rfl, rfl⟩) (fun h1 => ok_if (fun h2 => ?_) (fun _ => ok_some ⟨hI, fun _ _ => rfl, rfl⟩))
    rw [Int32.lt_iff_toInt_lt] at h1 h2
    simp only [Int32.reduceToInt] at h1 h2
    omega

theorem wr_feed {N : Nat} (hN : 1048576 ≤ N) {x1 : Int32} {x2 : Int32} {x3 : Int32} {x4 : Int32} {x5 : Int32} {σ : zS} (hC : CI σ) (hR : RI σ) : Ok (f_X12_feed N 218 x1 x2 x3 x4 x5 σ) (fun r => (CI r.2 ∧ RI r.2) ∧ FC [218, 224, 225] σ r.2 ∧ r.1 = fdV (σ.1 218 7) ∧ r.2.1 218 7 = fdT (σ.1 218 7) ∧ r.2.1 224 = (if (σ.1 218 7).toInt ≤ 580 then fdR (σ.1 224) (σ.1 218 7).toInt.toNat x1 x2 x3 x4 x5 else σ.1 224)) := by
  refine ok_w (ok_pt (s_X12_feed_v hN hC.1 hR.2.2.1 hR.2.2.2) (vr_feed hC.1 hR.2.2.1)) (fun r h => ?_)
  have hx := h.2
  have h := h.1
  exact ⟨⟨CI_r h.1 (by decide) hC, RI_r hR h.1 (Or.inr (by decide)) (Or.inr (by decide)) (Or.inr (by decide)) (ZB.tr h.1 (by decide) hR.2.1) (Or.inl h.2.1.1) (Or.inl h.2.1.2)⟩, h.1.2, ⟨h.2.2.1, h.2.2.2, hx⟩⟩

theorem wr_end {N : Nat} (hN : 1048576 ≤ N) {x1 : Int32} {σ : zS} (hC : CI σ) (hR : RI σ) : Ok (f_X12_end N 218 x1 σ) (fun r => (CI r.2 ∧ RI r.2) ∧ FC [218] σ r.2 ∧ r.1 = enV x1 (σ.1 218 7) ∧ r.2.1 218 7 = enT x1 (σ.1 218 7)) :=
  ok_w (s_X12_end_v hN hC.1 hR.2.2.1) (fun r h => ⟨⟨CI_r h.1 (by decide) hC, RI_r hR h.1 (Or.inr (by decide)) (Or.inr (by decide)) (Or.inr (by decide)) (ZB.tr h.1 (by decide) hR.2.1) (Or.inl h.2.1) (Or.inr (by decide))⟩, h.1.2, ⟨h.2.2.1, h.2.2.2⟩⟩)

theorem wr_put {N : Nat} (hN : 1048576 ≤ N) {x1 : Int32} {σ : zS} (hC : CI σ) (hR : RI σ) : Ok (f_X12_put N 218 x1 σ) (fun r => (CI r.2 ∧ RI r.2) ∧ FC [218, 220, 226, 227, 228, 229, 230] σ r.2 ∧ r.2.1 218 7 = 0) :=
  ok_w (s_X12_put hN hC.1 hR.1.1 hR.2.1 hR.2.2.1 hR.2.2.2) (fun r h => ⟨⟨CI_r h.1 (by decide) hC, RI_r hR h.1 (Or.inr (by decide)) (Or.inr (by decide)) (Or.inr (by decide)) (h.2.1) (Or.inl (by rw [h.2.2]; decide)) (Or.inr (by decide))⟩, h.1.2, h.2.2⟩)

theorem wr_fault {N : Nat} (hN : 1048576 ≤ N) {x1 : Int32} {σ : zS} (hI : IV σ) : Ok (f_X12_fault N 218 x1 σ) (fun r => IV r.2) := by
  have hC := hI.1.1
  have hR := hI.1.2
  exact ok_w (s_X12_fault hN hC.1 ) (fun r h => ⟨⟨CI_r h.1 (by decide) hC, RI_r hR h.1 (Or.inr (by decide)) (Or.inr (by decide)) (Or.inr (by decide)) (ZB.tr h.1 (by decide) hR.2.1) (Or.inr (by rw [h.1.2 218 (by decide)])) (Or.inr (by decide))⟩, EQ_r hI.2 h.1 (by decide) ((by rw [h.1.2 218 (by decide)]))⟩)

theorem wr_size {N : Nat} (hN : 1048576 ≤ N) {x1 : Int32} {σ : zS} (hI : IV σ) : Ok (f_X12_size N 218 x1 σ) (fun r => IV r.2) := by
  have hC := hI.1.1
  have hR := hI.1.2
  exact ok_w (s_X12_size hN hC.1 hR.1.1 hR.2.1) (fun r h => ⟨⟨CI_r h.1 (by decide) hC, RI_r hR h.1 (Or.inr (by decide)) (Or.inr (by decide)) (Or.inr (by decide)) (ZB.tr h.1 (by decide) hR.2.1) (Or.inr (by rw [h.1.2 218 (by decide)])) (Or.inr (by decide))⟩, EQ_r hI.2 h.1 (by decide) ((by rw [h.1.2 218 (by decide)]))⟩)

theorem wr_has {N : Nat} (hN : 1048576 ≤ N) {x1 : Int32} {x2 : Int32} {σ : zS} (hI : IV σ) : Ok (f_X12_has N 218 x1 x2 σ) (fun r => IV r.2) := by
  have hC := hI.1.1
  have hR := hI.1.2
  exact ok_w (s_X12_has hN hC.1 hR.1.1 hR.2.1) (fun r h => ⟨⟨CI_r h.1 (by decide) hC, RI_r hR h.1 (Or.inr (by decide)) (Or.inr (by decide)) (Or.inr (by decide)) (ZB.tr h.1 (by decide) hR.2.1) (Or.inr (by rw [h.1.2 218 (by decide)])) (Or.inr (by decide))⟩, EQ_r hI.2 h.1 (by decide) ((by rw [h.1.2 218 (by decide)]))⟩)

theorem wr_makes {N : Nat} (hN : 1048576 ≤ N) {x1 : Int32} {x2 : Int32} {x3 : Int32} {x4 : Int32} {σ : zS} (hI : IV σ) : Ok (f_X12_makes N 218 x1 x2 x3 x4 σ) (fun r => IV r.2) := by
  have hC := hI.1.1
  have hR := hI.1.2
  exact ok_w (s_X12_makes hN hC.1 hR.1.1 hR.2.1) (fun r h => ⟨⟨CI_r h.1 (by decide) hC, RI_r hR h.1 (Or.inr (by decide)) (Or.inr (by decide)) (Or.inr (by decide)) (h.2.1) (Or.inr h.2.2) (Or.inr (by decide))⟩, EQ_r hI.2 h.1 (by decide) (h.2.2)⟩)

theorem wr_turn {N : Nat} (hN : 1048576 ≤ N) {x1 : Int32} {x2 : Int32} {x3 : Int32} {σ : zS} (hI : IV σ) : Ok (f_X12_turn N 218 x1 x2 x3 σ) (fun r => IV r.2) := by
  have hC := hI.1.1
  have hR := hI.1.2
  exact ok_w (s_X12_turn hN hC.1 hR.1.1 hR.2.1) (fun r h => ⟨⟨CI_r h.1 (by decide) hC, RI_r hR h.1 (Or.inr (by decide)) (Or.inr (by decide)) (Or.inr (by decide)) (h.2.1) (Or.inr h.2.2) (Or.inr (by decide))⟩, EQ_r hI.2 h.1 (by decide) (h.2.2)⟩)

theorem wr_sets {N : Nat} (hN : 1048576 ≤ N) {x1 : Int32} {x2 : Int32} {x3 : Int32} {σ : zS} (hI : IV σ) : Ok (f_X12_sets N 218 x1 x2 x3 σ) (fun r => IV r.2) := by
  have hC := hI.1.1
  have hR := hI.1.2
  exact ok_w (s_X12_sets hN hC.1 hR.1.1 hR.2.1) (fun r h => ⟨⟨CI_r h.1 (by decide) hC, RI_r hR h.1 (Or.inr (by decide)) (Or.inr (by decide)) (Or.inr (by decide)) (h.2) (Or.inr (by rw [h.1.2 218 (by decide)])) (Or.inr (by decide))⟩, EQ_r hI.2 h.1 (by decide) ((by rw [h.1.2 218 (by decide)]))⟩)

theorem wr_change {N : Nat} (hN : 1048576 ≤ N) {x1 : Int32} {x2 : Int32} {x3 : Int32} {σ : zS} (hI : IV σ) : Ok (f_X12_change N 218 x1 x2 x3 σ) (fun r => IV r.2) := by
  have hC := hI.1.1
  have hR := hI.1.2
  exact ok_w (s_X12_change hN hC.1 hR.1.1 hR.2.1) (fun r h => ⟨⟨CI_r h.1 (by decide) hC, RI_r hR h.1 (Or.inr (by decide)) (Or.inr (by decide)) (Or.inr (by decide)) (h.2) (Or.inr (by rw [h.1.2 218 (by decide)])) (Or.inr (by decide))⟩, EQ_r hI.2 h.1 (by decide) ((by rw [h.1.2 218 (by decide)]))⟩)

theorem wr_half {N : Nat} (hN : 1048576 ≤ N) {x1 : Int32} {x2 : Int32} {x3 : Int32} {x4 : Int32} {σ : zS} (hI : IV σ) : Ok (f_X12_half N 218 x1 x2 x3 x4 σ) (fun r => IV r.2) := by
  have hC := hI.1.1
  have hR := hI.1.2
  exact ok_w (s_X12_half hN hC.1 hR.1.1 hR.2.1) (fun r h => ⟨⟨CI_r h.1 (by decide) hC, RI_r hR h.1 (Or.inr (by decide)) (Or.inr (by decide)) (Or.inr (by decide)) (h.2) (Or.inr (by rw [h.1.2 218 (by decide)])) (Or.inr (by decide))⟩, EQ_r hI.2 h.1 (by decide) ((by rw [h.1.2 218 (by decide)]))⟩)

theorem wr_level {N : Nat} (hN : 1048576 ≤ N) {x1 : Int32} {x2 : Int32} {x3 : Int32} {σ : zS} (hI : IV σ) : Ok (f_X12_level N 218 x1 x2 x3 σ) (fun r => IV r.2) := by
  have hC := hI.1.1
  have hR := hI.1.2
  exact ok_w (s_X12_level hN hC.1 hR.1.1 hR.2.1) (fun r h => ⟨⟨CI_r h.1 (by decide) hC, RI_r hR h.1 (Or.inr (by decide)) (Or.inr (by decide)) (Or.inr (by decide)) (h.2) (Or.inr (by rw [h.1.2 218 (by decide)])) (Or.inr (by decide))⟩, EQ_r hI.2 h.1 (by decide) ((by rw [h.1.2 218 (by decide)]))⟩)

theorem wr_nth {N : Nat} (hN : 1048576 ≤ N) {x1 : Int32} {x2 : Int32} {σ : zS} (hI : IV σ) : Ok (f_X12_nth N 218 x1 x2 σ) (fun r => IV r.2) := by
  have hC := hI.1.1
  have hR := hI.1.2
  exact ok_w (s_X12_nth hN hC.1 hR.1.1 hR.2.1) (fun r h => ⟨⟨CI_r h.1 (by decide) hC, RI_r hR h.1 (Or.inr (by decide)) (Or.inr (by decide)) (Or.inr (by decide)) (ZB.tr h.1 (by decide) hR.2.1) (Or.inr (by rw [h.1.2 218 (by decide)])) (Or.inr (by decide))⟩, EQ_r hI.2 h.1 (by decide) ((by rw [h.1.2 218 (by decide)]))⟩)

theorem wr_rank_ {N : Nat} (hN : 1048576 ≤ N) {x1 : Int32} {x2 : Int32} {σ : zS} (hI : IV σ) : Ok (f_X12_rank_ N 218 x1 x2 σ) (fun r => IV r.2) := by
  have hC := hI.1.1
  have hR := hI.1.2
  exact ok_w (s_X12_rank_ hN hC.1 hR.1.1 hR.2.1) (fun r h => ⟨⟨CI_r h.1 (by decide) hC, RI_r hR h.1 (Or.inr (by decide)) (Or.inr (by decide)) (Or.inr (by decide)) (ZB.tr h.1 (by decide) hR.2.1) (Or.inr (by rw [h.1.2 218 (by decide)])) (Or.inr (by decide))⟩, EQ_r hI.2 h.1 (by decide) ((by rw [h.1.2 218 (by decide)]))⟩)

theorem wr_light {N : Nat} (hN : 1048576 ≤ N) {x1 : Int32} {x2 : Int32} {σ : zS} (hI : IV σ) : Ok (f_X12_light N 218 x1 x2 σ) (fun r => IV r.2) := by
  have hC := hI.1.1
  have hR := hI.1.2
  exact ok_w (s_X12_light hN hC.1 hR.1.1 hR.2.1) (fun r h => ⟨⟨CI_r h.1 (by decide) hC, RI_r hR h.1 (Or.inr (by decide)) (Or.inr (by decide)) (Or.inr (by decide)) (ZB.tr h.1 (by decide) hR.2.1) (Or.inr (by rw [h.1.2 218 (by decide)])) (Or.inr (by decide))⟩, EQ_r hI.2 h.1 (by decide) ((by rw [h.1.2 218 (by decide)]))⟩)

theorem wr_weight {N : Nat} (hN : 1048576 ≤ N) {x1 : Int32} {σ : zS} (hI : IV σ) : Ok (f_X12_weight N 218 x1 σ) (fun r => IV r.2) := by
  have hC := hI.1.1
  have hR := hI.1.2
  exact ok_w (s_X12_weight hN hC.1 hR.1.1) (fun r h => ⟨⟨CI_r h.1 (by decide) hC, RI_r hR h.1 (Or.inr (by decide)) (Or.inr (by decide)) (Or.inr (by decide)) (ZB.tr h.1 (by decide) hR.2.1) (Or.inr (by rw [h.1.2 218 (by decide)])) (Or.inr (by decide))⟩, EQ_r hI.2 h.1 (by decide) ((by rw [h.1.2 218 (by decide)]))⟩)

theorem wr_weigh {N : Nat} (hN : 1048576 ≤ N) {x1 : Int32} {x2 : Int32} {σ : zS} (hI : IV σ) : Ok (f_X12_weigh N 218 x1 x2 σ) (fun r => IV r.2) := by
  have hC := hI.1.1
  have hR := hI.1.2
  exact ok_w (s_X12_weigh hN hC.1 hR.1.1) (fun r h => ⟨⟨CI_r h.1 (by decide) hC, RI_r hR h.1 (Or.inl h.2) (Or.inr (by decide)) (Or.inr (by decide)) (ZB.tr h.1 (by decide) hR.2.1) (Or.inr (by rw [h.1.2 218 (by decide)])) (Or.inr (by decide))⟩, EQ_r hI.2 h.1 (by decide) ((by rw [h.1.2 218 (by decide)]))⟩)

theorem wr_weighs {N : Nat} (hN : 1048576 ≤ N) {x1 : Int32} {x2 : Int32} {σ : zS} (hI : IV σ) : Ok (f_X12_weighs N 218 x1 x2 σ) (fun r => IV r.2) := by
  have hC := hI.1.1
  have hR := hI.1.2
  exact ok_w (s_X12_weighs hN hC.1 hR.1.1 hR.2.1) (fun r h => ⟨⟨CI_r h.1 (by decide) hC, RI_r hR h.1 (Or.inr (by decide)) (Or.inr (by decide)) (Or.inr (by decide)) (ZB.tr h.1 (by decide) hR.2.1) (Or.inr (by rw [h.1.2 218 (by decide)])) (Or.inr (by decide))⟩, EQ_r hI.2 h.1 (by decide) ((by rw [h.1.2 218 (by decide)]))⟩)

theorem wr_each {N : Nat} (hN : 1048576 ≤ N) {x1 : Int32} {x2 : Int32} {σ : zS} (hI : IV σ) : Ok (f_X12_each N 218 x1 x2 σ) (fun r => IV r.2) := by
  have hC := hI.1.1
  have hR := hI.1.2
  exact ok_w (s_X12_each hN hC.1 hR.1.1 hR.2.1) (fun r h => ⟨⟨CI_r h.1 (by decide) hC, RI_r hR h.1 (Or.inr (by decide)) (Or.inr (by decide)) (Or.inr (by decide)) (ZB.tr h.1 (by decide) hR.2.1) (Or.inr (by rw [h.1.2 218 (by decide)])) (Or.inr (by decide))⟩, EQ_r hI.2 h.1 (by decide) ((by rw [h.1.2 218 (by decide)]))⟩)

theorem wr_names {N : Nat} (hN : 1048576 ≤ N) {x1 : Int32} {x2 : Int32} {σ : zS} (hI : IV σ) : Ok (f_X12_names N 218 x1 x2 σ) (fun r => IV r.2) := by
  have hC := hI.1.1
  have hR := hI.1.2
  exact ok_w (s_X12_names hN hC.1 hR.1.1 hR.2.1) (fun r h => ⟨⟨CI_r h.1 (by decide) hC, RI_r hR h.1 (Or.inr (by decide)) (Or.inr (by decide)) (Or.inr (by decide)) (ZB.tr h.1 (by decide) hR.2.1) (Or.inr (by rw [h.1.2 218 (by decide)])) (Or.inr (by decide))⟩, EQ_r hI.2 h.1 (by decide) ((by rw [h.1.2 218 (by decide)]))⟩)

theorem wr_draw {N : Nat} (hN : 1048576 ≤ N) {x1 : Int32} {x2 : Int32} {σ : zS} (hI : IV σ) : Ok (f_X12_draw N 218 x1 x2 σ) (fun r => IV r.2) := by
  have hC := hI.1.1
  have hR := hI.1.2
  exact ok_w (s_X12_draw hN hC.1 hR.1.1 hR.2.1) (fun r h => ⟨⟨CI_r h.1 (by decide) hC, RI_r hR h.1 (Or.inr (by decide)) (Or.inr (by decide)) (Or.inr (by decide)) (ZB.tr h.1 (by decide) hR.2.1) (Or.inr (by rw [h.1.2 218 (by decide)])) (Or.inr (by decide))⟩, EQ_r hI.2 h.1 (by decide) ((by rw [h.1.2 218 (by decide)]))⟩)

theorem wr_alike {N : Nat} (hN : 1048576 ≤ N) {x1 : Int32} {x2 : Int32} {σ : zS} (hI : IV σ) : Ok (f_X12_alike N 218 x1 x2 σ) (fun r => IV r.2) := by
  have hC := hI.1.1
  have hR := hI.1.2
  exact ok_w (s_X12_alike hN hC.1 hR.1.1 hR.2.1) (fun r h => ⟨⟨CI_r h.1 (by decide) hC, RI_r hR h.1 (Or.inr (by decide)) (Or.inr (by decide)) (Or.inr (by decide)) (ZB.tr h.1 (by decide) hR.2.1) (Or.inr (by rw [h.1.2 218 (by decide)])) (Or.inr (by decide))⟩, EQ_r hI.2 h.1 (by decide) ((by rw [h.1.2 218 (by decide)]))⟩)

theorem wr_differ {N : Nat} (hN : 1048576 ≤ N) {x1 : Int32} {x2 : Int32} {σ : zS} (hI : IV σ) : Ok (f_X12_differ N 218 x1 x2 σ) (fun r => IV r.2) := by
  have hC := hI.1.1
  have hR := hI.1.2
  exact ok_w (s_X12_differ hN hC.1 hR.1.1 hR.2.1) (fun r h => ⟨⟨CI_r h.1 (by decide) hC, RI_r hR h.1 (Or.inr (by decide)) (Or.inr (by decide)) (Or.inr (by decide)) (ZB.tr h.1 (by decide) hR.2.1) (Or.inr (by rw [h.1.2 218 (by decide)])) (Or.inr (by decide))⟩, EQ_r hI.2 h.1 (by decide) ((by rw [h.1.2 218 (by decide)]))⟩)

theorem wr_within {N : Nat} (hN : 1048576 ≤ N) {x1 : Int32} {x2 : Int32} {σ : zS} (hI : IV σ) : Ok (f_X12_within N 218 x1 x2 σ) (fun r => IV r.2) := by
  have hC := hI.1.1
  have hR := hI.1.2
  exact ok_w (s_X12_within hN hC.1 hR.1.1 hR.2.1) (fun r h => ⟨⟨CI_r h.1 (by decide) hC, RI_r hR h.1 (Or.inr (by decide)) (Or.inr (by decide)) (Or.inr (by decide)) (ZB.tr h.1 (by decide) hR.2.1) (Or.inr (by rw [h.1.2 218 (by decide)])) (Or.inr (by decide))⟩, EQ_r hI.2 h.1 (by decide) ((by rw [h.1.2 218 (by decide)]))⟩)

theorem wr_dual {N : Nat} (hN : 1048576 ≤ N) {x1 : Int32} {x2 : Int32} {σ : zS} (hI : IV σ) : Ok (f_X12_dual N 218 x1 x2 σ) (fun r => IV r.2) := by
  have hC := hI.1.1
  have hR := hI.1.2
  exact ok_w (s_X12_dual hN hC.1 hR.1.1 hR.2.1) (fun r h => ⟨⟨CI_r h.1 (by decide) hC, RI_r hR h.1 (Or.inr (by decide)) (Or.inr (by decide)) (Or.inr (by decide)) (h.2.1) (Or.inr h.2.2) (Or.inr (by decide))⟩, EQ_r hI.2 h.1 (by decide) (h.2.2)⟩)

theorem wr_apart {N : Nat} (hN : 1048576 ≤ N) {x1 : Int32} {x2 : Int32} {σ : zS} (hI : IV σ) : Ok (f_X12_apart N 218 x1 x2 σ) (fun r => IV r.2) := by
  have hC := hI.1.1
  have hR := hI.1.2
  exact ok_w (s_X12_apart hN hC.1 hR.1.1 hR.2.1) (fun r h => ⟨⟨CI_r h.1 (by decide) hC, RI_r hR h.1 (Or.inr (by decide)) (Or.inr (by decide)) (Or.inr (by decide)) (ZB.tr h.1 (by decide) hR.2.1) (Or.inr (by rw [h.1.2 218 (by decide)])) (Or.inr (by decide))⟩, EQ_r hI.2 h.1 (by decide) ((by rw [h.1.2 218 (by decide)]))⟩)

theorem wr_packs {N : Nat} (hN : 1048576 ≤ N) {x1 : Int32} {x2 : Int32} {σ : zS} (hI : IV σ) : Ok (f_X12_packs N 218 x1 x2 σ) (fun r => IV r.2) := by
  have hC := hI.1.1
  have hR := hI.1.2
  exact ok_w (s_X12_packs hN hC.1 hR.1.1 hR.2.1) (fun r h => ⟨⟨CI_r h.1 (by decide) hC, RI_r hR h.1 (Or.inr (by decide)) (Or.inr (by decide)) (Or.inr (by decide)) (ZB.tr h.1 (by decide) hR.2.1) (Or.inr (by rw [h.1.2 218 (by decide)])) (Or.inr (by decide))⟩, EQ_r hI.2 h.1 (by decide) ((by rw [h.1.2 218 (by decide)]))⟩)

theorem wr_nodes {N : Nat} (hN : 1048576 ≤ N) {x1 : Int32} {σ : zS} (hI : IV σ) : Ok (f_X12_nodes N 218 x1 σ) (fun r => IV r.2) := by
  have hC := hI.1.1
  have hR := hI.1.2
  exact ok_w (s_X12_nodes hN hC.1 hR.1.1 hR.2.1) (fun r h => ⟨⟨CI_r h.1 (by decide) hC, RI_r hR h.1 (Or.inr (by decide)) (Or.inr (by decide)) (Or.inr (by decide)) (h.2.1) (Or.inr h.2.2) (Or.inr (by decide))⟩, EQ_r hI.2 h.1 (by decide) (h.2.2)⟩)

theorem wr_net {N : Nat} (hN : 1048576 ≤ N)  {σ : zS} (hI : IV σ) : Ok (f_X12_net N 218 σ) (fun r => IV r.2) := by
  have hC := hI.1.1
  have hR := hI.1.2
  exact ok_w (s_X12_net hN hC.1 hR.1.1 hR.2.1) (fun r h => ⟨⟨CI_r h.1 (by decide) hC, RI_r hR h.1 (Or.inr (by decide)) (Or.inr (by decide)) (Or.inr (by decide)) (h.2.1) (Or.inr h.2.2) (Or.inr (by decide))⟩, EQ_r hI.2 h.1 (by decide) (h.2.2)⟩)

theorem wr_wide {N : Nat} (hN : 1048576 ≤ N) {x1 : Int32} {x2 : Int32} {σ : zS} (hI : IV σ) : Ok (f_X12_wide N 218 x1 x2 σ) (fun r => IV r.2) := by
  have hC := hI.1.1
  have hR := hI.1.2
  exact ok_w (s_X12_wide hN hC.1 hR.1.1 hR.2.1) (fun r h => ⟨⟨CI_r h.1 (by decide) hC, RI_r hR h.1 (Or.inr (by decide)) (Or.inr (by decide)) (Or.inr (by decide)) (h.2.1) (Or.inr h.2.2) (Or.inr (by decide))⟩, EQ_r hI.2 h.1 (by decide) (h.2.2)⟩)

theorem wr_order {N : Nat} (hN : 1048576 ≤ N) {x1 : Int32} {σ : zS} (hI : IV σ) : Ok (f_X12_order N 218 x1 σ) (fun r => IV r.2) := by
  have hC := hI.1.1
  have hR := hI.1.2
  exact ok_w (s_X12_order hN hC.1 hR.1.1) (fun r h => ⟨⟨CI_r h.1 (by decide) hC, RI_r hR h.1 (Or.inr (by decide)) (Or.inr (by decide)) (Or.inr (by decide)) (ZB.tr h.1 (by decide) hR.2.1) (Or.inr (by rw [h.1.2 218 (by decide)])) (Or.inr (by decide))⟩, EQ_r hI.2 h.1 (by decide) ((by rw [h.1.2 218 (by decide)]))⟩)

theorem wr_swap {N : Nat} (hN : 1048576 ≤ N) {x1 : Int32} {σ : zS} (hI : IV σ) : Ok (f_X12_swap N 218 x1 σ) (fun r => IV r.2) := by
  have hC := hI.1.1
  have hR := hI.1.2
  exact ok_w (s_X12_swap hN hC.1 hR.1.1 hR.2.1) (fun r h => ⟨⟨CI_r h.1 (by decide) hC, RI_r hR h.1 (Or.inl h.2.2.2) (Or.inr (by decide)) (Or.inr (by decide)) (h.2.1) (Or.inr h.2.2.1) (Or.inr (by decide))⟩, EQ_r hI.2 h.1 (by decide) (h.2.2.1)⟩)

theorem wr_move {N : Nat} (hN : 1048576 ≤ N) {x1 : Int32} {x2 : Int32} {σ : zS} (hI : IV σ) : Ok (f_X12_move N 218 x1 x2 σ) (fun r => IV r.2) := by
  have hC := hI.1.1
  have hR := hI.1.2
  exact ok_w (s_X12_move hN hC.1 hR.1.1) (fun r h => ⟨⟨CI_r h.1 (by decide) hC, RI_r hR h.1 (Or.inl h.2) (Or.inr (by decide)) (Or.inr (by decide)) (ZB.tr h.1 (by decide) hR.2.1) (Or.inr (by rw [h.1.2 218 (by decide)])) (Or.inr (by decide))⟩, EQ_r hI.2 h.1 (by decide) ((by rw [h.1.2 218 (by decide)]))⟩)

theorem wr_best {N : Nat} (hN : 1048576 ≤ N) {x1 : Int32} {x2 : Int32} {σ : zS} (hI : IV σ) : Ok (f_X12_best N 218 x1 x2 σ) (fun r => IV r.2) := by
  have hC := hI.1.1
  have hR := hI.1.2
  exact ok_w (s_X12_best hN hC.1 hR.1.1 hR.2.1) (fun r h => ⟨⟨CI_r h.1 (by decide) hC, RI_r hR h.1 (Or.inr (by decide)) (Or.inr (by decide)) (Or.inr (by decide)) (h.2.1) (Or.inr h.2.2) (Or.inr (by decide))⟩, EQ_r hI.2 h.1 (by decide) (h.2.2)⟩)

theorem wr_sift {N : Nat} (hN : 1048576 ≤ N) {x1 : Int32} {σ : zS} (hI : IV σ) : Ok (f_X12_sift N 218 x1 σ) (fun r => IV r.2) := by
  have hC := hI.1.1
  have hR := hI.1.2
  exact ok_w (s_X12_sift hN hC.1 hR.1.1 hR.2.1) (fun r h => ⟨⟨CI_r h.1 (by decide) hC, RI_r hR h.1 (Or.inl h.2.2.2) (Or.inr (by decide)) (Or.inr (by decide)) (h.2.1) (Or.inr h.2.2.1) (Or.inr (by decide))⟩, EQ_r hI.2 h.1 (by decide) (h.2.2.1)⟩)

theorem wr_ways {N : Nat} (hN : 1048576 ≤ N) {x1 : Int32} {x2 : Int32} {x3 : Int32} {σ : zS} (hI : IV σ) : Ok (f_X12_ways N 218 x1 x2 x3 σ) (fun r => IV r.2) := by
  have hC := hI.1.1
  have hR := hI.1.2
  exact ok_w (s_X12_ways hN hC.1 hR.1.1 hR.2.1) (fun r h => ⟨⟨CI_r h.1 (by decide) hC, RI_r hR h.1 (Or.inr (by decide)) (Or.inr (by decide)) (Or.inr (by decide)) (h.2) (Or.inr (by rw [h.1.2 218 (by decide)])) (Or.inr (by decide))⟩, EQ_r hI.2 h.1 (by decide) ((by rw [h.1.2 218 (by decide)]))⟩)

theorem wr_map {N : Nat} (hN : 1048576 ≤ N) {x1 : Int32} {x2 : Int32} {σ : zS} (hI : IV σ) : Ok (f_X12_map N 218 x1 x2 σ) (fun r => IV r.2) := by
  have hC := hI.1.1
  have hR := hI.1.2
  exact ok_w (s_X12_map hN hC.1 hR.1.1 hR.2.1) (fun r h => ⟨⟨CI_r h.1 (by decide) hC, RI_r hR h.1 (Or.inr (by decide)) (Or.inr (by decide)) (Or.inr (by decide)) (h.2) (Or.inr (by rw [h.1.2 218 (by decide)])) (Or.inr (by decide))⟩, EQ_r hI.2 h.1 (by decide) ((by rw [h.1.2 218 (by decide)]))⟩)

theorem wr_cuts {N : Nat} (hN : 1048576 ≤ N) {x1 : Int32} {x2 : Int32} {x3 : Int32} {σ : zS} (hI : IV σ) : Ok (f_X12_cuts N 218 x1 x2 x3 σ) (fun r => IV r.2) := by
  have hC := hI.1.1
  have hR := hI.1.2
  exact ok_w (s_X12_cuts hN hC.1 hR.1.1 hR.2.1) (fun r h => ⟨⟨CI_r h.1 (by decide) hC, RI_r hR h.1 (Or.inr (by decide)) (Or.inr (by decide)) (Or.inr (by decide)) (h.2.1) (Or.inr h.2.2) (Or.inr (by decide))⟩, EQ_r hI.2 h.1 (by decide) (h.2.2)⟩)

theorem wr_judge {N : Nat} (hN : 1048576 ≤ N) {x1 : Int32} {x2 : Int32} {σ : zS} (hI : IV σ) : Ok (f_X12_judge N 218 x1 x2 σ) (fun r => IV r.2) := by
  have hC := hI.1.1
  have hR := hI.1.2
  exact ok_w (s_X12_judge hN hC.1 hR.1.1 hR.2.1 hR.1.2.2) (fun r h => ⟨⟨CI_r h.1 (by decide) hC, RI_r hR h.1 (Or.inr (by decide)) (Or.inr (by decide)) (Or.inr (by decide)) (ZB.tr h.1 (by decide) hR.2.1) (Or.inr (by rw [h.1.2 218 (by decide)])) (Or.inr (by decide))⟩, EQ_r hI.2 h.1 (by decide) ((by rw [h.1.2 218 (by decide)]))⟩)

theorem wr_takes_ {N : Nat} (hN : 1048576 ≤ N) {x1 : Int32} {x2 : Int32} {σ : zS} (hI : IV σ) : Ok (f_X12_takes_ N 218 x1 x2 σ) (fun r => IV r.2) := by
  have hC := hI.1.1
  have hR := hI.1.2
  exact ok_w (s_X12_takes_ hN hC.1 hR.1.1 hR.2.1 hR.1.2.2) (fun r h => ⟨⟨CI_r h.1 (by decide) hC, RI_r hR h.1 (Or.inr (by decide)) (Or.inr (by decide)) (Or.inr (by decide)) (h.2) (Or.inr (by rw [h.1.2 218 (by decide)])) (Or.inr (by decide))⟩, EQ_r hI.2 h.1 (by decide) ((by rw [h.1.2 218 (by decide)]))⟩)

theorem wr_count {N : Nat} (hN : 1048576 ≤ N) {x1 : Int32} {σ : zS} (hI : IV σ) : Ok (f_X12_count N 218 x1 σ) (fun r => IV r.2) := by
  have hC := hI.1.1
  have hR := hI.1.2
  exact ok_w (s_X12_count hN hC.1 hR.1.1 hR.2.1) (fun r h => ⟨⟨CI_r h.1 (by decide) hC, RI_r hR h.1 (Or.inr (by decide)) (Or.inr (by decide)) (Or.inr (by decide)) (ZB.tr h.1 (by decide) hR.2.1) (Or.inr (by rw [h.1.2 218 (by decide)])) (Or.inr (by decide))⟩, EQ_r hI.2 h.1 (by decide) ((by rw [h.1.2 218 (by decide)]))⟩)

theorem wr_row {N : Nat} (hN : 1048576 ≤ N) {x1 : Int32} {x2 : Int32} {x3 : Int32} {σ : zS} (hC : CI σ) (hR : RI σ) : Ok (f_X12_row N 218 x1 x2 x3 σ) (fun r => (CI r.2 ∧ RI r.2) ∧ FC [239, 240] σ r.2 ∧ r.1 = rowV x1 x2 x3 ∧ RWR σ.1 r.2.1 x1 x2 x3 r.1) :=
  ok_w (s_X12_row_v hN hC.1 hR.1.2.2) (fun r h => ⟨⟨CI_r h.1 (by decide) hC, RI_r hR h.1 (Or.inr (by decide)) (Or.inr (by decide)) (Or.inl h.2.1) (ZB.tr h.1 (by decide) hR.2.1) (Or.inr (by rw [h.1.2 218 (by decide)])) (Or.inr (by decide))⟩, h.1.2, ⟨h.2.2.1, h.2.2.2⟩⟩)

theorem wr_write {N : Nat} (hN : 1048576 ≤ N) {x1 : Int32} {x2 : Int32} {x3 : Int64} {σ : zS} (hI : IV σ) : Ok (f_X12_write N 218 x1 x2 x3 σ) (fun r => IV r.2 ∧ r.1 = wrV x1 x2 (σ.1 239 x1.toNatClampNeg)) := by
  have hC := hI.1.1
  have hR := hI.1.2
  exact ok_w (s_X12_write_v hN hC.1 hR.1.2.2) (fun r h => ⟨⟨⟨CI_r h.1 (by decide) hC, RI_r hR h.1 (Or.inr (by decide)) (Or.inr (by decide)) (Or.inr (by decide)) (ZB.tr h.1 (by decide) hR.2.1) (Or.inr (by rw [h.1.2 218 (by decide)])) (Or.inr (by decide))⟩, EQ_r hI.2 h.1 (by decide) ((by rw [h.1.2 218 (by decide)]))⟩, h.2⟩)

theorem wr_paste {N : Nat} (hN : 1048576 ≤ N) {x1 : Int32} {x2 : Int32} {x3 : Int32} {x4 : Int32} {x5 : Int32} {σ : zS} (hI : IV σ) : Ok (f_X12_paste N 218 x1 x2 x3 x4 x5 σ) (fun r => IV r.2 ∧ r.1 = paV x1 x2 x3 x4 x5 (σ.1 239 x1.toNatClampNeg) (σ.1 239 x3.toNatClampNeg) (σ.1 240 x1.toNatClampNeg) (σ.1 240 x3.toNatClampNeg)) := by
  have hC := hI.1.1
  have hR := hI.1.2
  exact ok_w (s_X12_paste_v hN hC.1 hR.1.2.2) (fun r h => ⟨⟨⟨CI_r h.1 (by decide) hC, RI_r hR h.1 (Or.inr (by decide)) (Or.inr (by decide)) (Or.inr (by decide)) (ZB.tr h.1 (by decide) hR.2.1) (Or.inr (by rw [h.1.2 218 (by decide)])) (Or.inr (by decide))⟩, EQ_r hI.2 h.1 (by decide) ((by rw [h.1.2 218 (by decide)]))⟩, h.2⟩)

theorem wr_world {N : Nat} (hN : 1048576 ≤ N)  {σ : zS} (hC : CI σ) (hR : RI σ) : Ok (f_X12_world N 218 σ) (fun r => (CI r.2 ∧ RI r.2) ∧ FC [218, 219, 220, 226, 227, 228, 229, 230, 231, 232] σ r.2 ∧ r.2.1 218 7 = 0 ∧ ∃ G, (∀ j, j < 43 → G j = 0) ∧ RWQ (σ.1 224) (σ.1 218 7).toInt.toNat G (σ.1 219) r) := by
  refine ok_w (ok_pt (s_X12_world hN hC.1 hR.1.1 hR.2.1 hR.2.2.1 hR.2.2.2) (vr_world hN hC.1 hR.2.1 hR.2.2.1 hR.2.2.2)) (fun r h => ?_)
  have hx := h.2
  have h := h.1
  exact ⟨⟨CI_r h.1 (by decide) hC, RI_r hR h.1 (Or.inl h.2.1) (Or.inr (by decide)) (Or.inr (by decide)) (h.2.2.1) (Or.inl (by rw [h.2.2.2]; decide)) (Or.inr (by decide))⟩, h.1.2, ⟨h.2.2.2, hx⟩⟩

theorem wr_keep {N : Nat} (hN : 1048576 ≤ N) {x1 : Int32} {σ : zS} (hC : CI σ) (hR : RI σ) : Ok (f_X12_keep N 218 x1 σ) (fun r => (CI r.2 ∧ RI r.2) ∧ FC [221, 222, 223] σ r.2 ∧ r.1 = (if 0 ≤ x1.toInt ∧ x1.toInt ≤ 2 then 0 else -2) ∧ ∀ j, r.2.1 223 j = if (0 ≤ x1.toInt ∧ x1.toInt ≤ 2) ∧ j = x1.toInt.toNat then vp_nar .boolean 1 else σ.1 223 j) :=
  ok_w (s_X12_keep_v hN hC.1 hR.1.1 hR.2.1 hR.1.2.1) (fun r h => ⟨⟨CI_r h.1 (by decide) hC, RI_r hR h.1 (Or.inr (by decide)) (Or.inl h.2.1.2) (Or.inr (by decide)) (h.2.1.1) (Or.inr (by rw [h.1.2 218 (by decide)])) (Or.inr (by decide))⟩, h.1.2, ⟨h.2.2.1, h.2.2.2⟩⟩)

theorem wr_back {N : Nat} (hN : 1048576 ≤ N) {x1 : Int32} {σ : zS} (hI : IV σ) : Ok (f_X12_back N 218 x1 σ) (fun r => IV r.2 ∧ r.1 = if 0 ≤ x1.toInt ∧ x1.toInt ≤ 2 then (if σ.1 223 x1.toInt.toNat = 0 then -6 else 0) else -2) := by
  have hC := hI.1.1
  have hR := hI.1.2
  exact ok_w (s_X12_back_v hN hC.1 hR.1.1 hR.2.1 hR.1.2.1) (fun r h => ⟨⟨⟨CI_r h.1 (by decide) hC, RI_r hR h.1 (Or.inl h.2.1.2) (Or.inr (by decide)) (Or.inr (by decide)) (h.2.1.1) (Or.inr (by rw [h.1.2 218 (by decide)])) (Or.inr (by decide))⟩, EQ_r hI.2 h.1 (by decide) ((by rw [h.1.2 218 (by decide)]))⟩, h.2.2⟩)

theorem WEQ {t : Nat → Int32} {n B : Nat} {G W : Nat → Int32} {v w : Int32} {σ1 σ2 : zS} {σ : zS} (hc : CXQ t n B σ G (v, σ1)) (hr : RWQ t n G W (w, σ2)) : v = w := by
  rcases hc with ⟨⟨v4, _⟩, d, rc, sn⟩ | ⟨_, d, ⟨rc, se⟩, ⟨ev, _⟩, _⟩
  · rcases hr with ⟨w4, _⟩ | ⟨d', ⟨rc', se'⟩, _⟩
    · exact (show v = -4 from v4).trans (show w = -4 from w4).symm
    · have u : d = d' := rc.un rc' (fun x k => by rw [sn] at k; cases k) (fun x k => by rw [se'] at k; cases k)
      rw [u, se'] at sn; cases sn
  · rcases hr with ⟨_, _, d', rc', sn'⟩ | ⟨d', ⟨rc', se'⟩, ⟨ew, _⟩, _⟩
    · have u : d = d' := rc.un rc' (fun x k => by rw [se] at k; cases k) (fun x k => by rw [sn'] at k; cases k)
      rw [u, sn'] at se; cases se
    · have u : d = d' := rc.un rc' (fun x k => by rw [se] at k; cases k) (fun x k => by rw [se'] at k; cases k)
      have ev : v = d.2.1 1 := ev
      have ew : w = d'.2.1 1 := ew
      rw [ev, ew, u]
theorem FCu {S1 S2 : List Nat} {σ σ1 σ2 : zS} (h1 : FC S1 σ σ1) (h2 : FC S2 σ1 σ2) : FC (S1 ++ S2) σ σ2 := fun k hk => (h2 k (fun q => hk (List.mem_append_right _ q))).trans (h1 k (fun q => hk (List.mem_append_left _ q)))

theorem pr_feed {x1 : Int32} {x2 : Int32} {x3 : Int32} {x4 : Int32} {x5 : Int32} {v w : Int32} {σ σ1 σ2 : zS} (hE : EQ σ) (h1 : (CI σ1 ∧ RI σ1) ∧ FC [0, 1] σ σ1 ∧ v = fdV (σ.1 0 1) ∧ σ1.1 0 1 = fdT (σ.1 0 1) ∧ σ1.1 1 = (if (σ.1 0 1).toInt ≤ 580 then fdR (σ.1 1) (σ.1 0 1).toInt.toNat x1 x2 x3 x4 x5 else σ.1 1)) (h2 : (CI σ2 ∧ RI σ2) ∧ FC [218, 224, 225] σ1 σ2 ∧ w = fdV (σ1.1 218 7) ∧ σ2.1 218 7 = fdT (σ1.1 218 7) ∧ σ2.1 224 = (if (σ1.1 218 7).toInt ≤ 580 then fdR (σ1.1 224) (σ1.1 218 7).toInt.toNat x1 x2 x3 x4 x5 else σ1.1 224)) : IV σ2 ∧ v = w := by
  have hv : v = w := by rw [h1.2.2.1, h2.2.2.1, h1.2.1 218 (by decide), hE.1]
  have hI : EQ σ2 := EQ_p hE (FCu h1.2.1 h2.2.1) (by rw [h2.2.1 0 (by decide), h1.2.2.2.1, h2.2.2.2.1, h1.2.1 218 (by decide), hE.1]) (Or.inl (by decide)) (Or.inl (by decide)) (Or.inr (by rw [h2.2.1 1 (by decide), h1.2.2.2.2, h2.2.2.2.2, h1.2.1 218 (by decide), h1.2.1 224 (by decide), hE.1, hE.2.2.2]))
  exact ⟨⟨h2.1, hI⟩, hv⟩

theorem pr_end {x1 : Int32} {v w : Int32} {σ σ1 σ2 : zS} (hE : EQ σ) (h1 : (CI σ1 ∧ RI σ1) ∧ FC [0] σ σ1 ∧ v = enV x1 (σ.1 0 1) ∧ σ1.1 0 1 = enT x1 (σ.1 0 1)) (h2 : (CI σ2 ∧ RI σ2) ∧ FC [218] σ1 σ2 ∧ w = enV x1 (σ1.1 218 7) ∧ σ2.1 218 7 = enT x1 (σ1.1 218 7)) : IV σ2 ∧ v = w := by
  have hv : v = w := by rw [h1.2.2.1, h2.2.2.1, h1.2.1 218 (by decide), hE.1]
  have hI : EQ σ2 := EQ_p hE (FCu h1.2.1 h2.2.1) (by rw [h2.2.1 0 (by decide), h1.2.2.2, h2.2.2.2, h1.2.1 218 (by decide), hE.1]) (Or.inl (by decide)) (Or.inl (by decide)) (Or.inl (by decide))
  exact ⟨⟨h2.1, hI⟩, hv⟩

theorem pr_put  {σ σ1 σ2 : zS} (hE : EQ σ) (h1 : (CI σ1 ∧ RI σ1) ∧ FC [0, 57, 58, 59, 61, 62, 63, 64, 65, 106, 107] σ σ1 ∧ σ1.1 0 1 = 0) (h2 : (CI σ2 ∧ RI σ2) ∧ FC [218, 220, 226, 227, 228, 229, 230] σ1 σ2 ∧ σ2.1 218 7 = 0) : IV σ2 := by
  have hI : EQ σ2 := EQ_p hE (FCu h1.2.1 h2.2.1) (by rw [h2.2.1 0 (by decide), h1.2.2, h2.2.2]) (Or.inl (by decide)) (Or.inl (by decide)) (Or.inl (by decide))
  exact ⟨h2.1, hI⟩

theorem pr_world  {v w : Int32} {σ σ1 σ2 : zS} (hE : EQ σ) (h1 : (CI σ1 ∧ RI σ1) ∧ FC [0, 2, 3, 4, 5, 6, 28, 29, 30, 31, 32, 57, 58, 59, 61, 62, 63, 64, 65, 106, 107] σ σ1 ∧ σ1.1 0 1 = 0 ∧ ∀ G : Nat → Int32, (∀ j, j < 43 → G j = 0) → CXQ (σ.1 1) (σ.1 0 1).toInt.toNat (σ.2.2 0 5) σ G (v, σ1)) (h2 : (CI σ2 ∧ RI σ2) ∧ FC [218, 219, 220, 226, 227, 228, 229, 230, 231, 232] σ1 σ2 ∧ σ2.1 218 7 = 0 ∧ ∃ G, (∀ j, j < 43 → G j = 0) ∧ RWQ (σ1.1 224) (σ1.1 218 7).toInt.toNat G (σ1.1 219) (w, σ2)) : IV σ2 ∧ v = w := by
  have hv : v = w := by 
    obtain ⟨G, hG, hr⟩ := h2.2.2.2
    have hc := h1.2.2.2 G hG
    rw [h1.2.1 218 (by decide), h1.2.1 224 (by decide), ← hE.1, ← hE.2.2.2] at hr
    exact WEQ hc hr
  have hI : EQ σ2 := EQ_p hE (FCu h1.2.1 h2.2.1) (by rw [h2.2.1 0 (by decide), h1.2.2.1, h2.2.2.1]) (Or.inl (by decide)) (Or.inl (by decide)) (Or.inl (by decide))
  exact ⟨⟨h2.1, hI⟩, hv⟩

theorem pr_keep {x1 : Int32} {v w : Int32} {σ σ1 σ2 : zS} (hE : EQ σ) (h1 : (CI σ1 ∧ RI σ1) ∧ FC [55, 132, 133, 134, 135, 136, 158, 159, 160, 161, 162, 184, 185, 186, 187, 188] σ σ1 ∧ v = (if 0 ≤ x1.toInt ∧ x1.toInt ≤ 2 then 0 else -2) ∧ ∀ j, σ1.1 55 j = if (0 ≤ x1.toInt ∧ x1.toInt ≤ 2) ∧ j = x1.toInt.toNat then vp_nar .boolean 1 else σ.1 55 j) (h2 : (CI σ2 ∧ RI σ2) ∧ FC [221, 222, 223] σ1 σ2 ∧ w = (if 0 ≤ x1.toInt ∧ x1.toInt ≤ 2 then 0 else -2) ∧ ∀ j, σ2.1 223 j = if (0 ≤ x1.toInt ∧ x1.toInt ≤ 2) ∧ j = x1.toInt.toNat then vp_nar .boolean 1 else σ1.1 223 j) : IV σ2 ∧ v = w := by
  have hv : v = w := by rw [h1.2.2.1, h2.2.2.1]
  have hI : EQ σ2 := EQ_p hE (FCu h1.2.1 h2.2.1) (by rw [h2.2.1 0 (by decide), h2.2.1 218 (by decide), h1.2.1 218 (by decide), h1.2.1 0 (by decide)]; exact hE.1) (Or.inr (fun j hj => by rw [h2.2.1 55 (by decide), h1.2.2.2 j, h2.2.2.2 j, h1.2.1 223 (by decide), hE.2.1 j hj])) (Or.inl (by decide)) (Or.inl (by decide))
  exact ⟨⟨h2.1, hI⟩, hv⟩

theorem pr_row {x1 : Int32} {x2 : Int32} {x3 : Int32} {v w : Int32} {σ σ1 σ2 : zS} (hE : EQ σ) (h1 : (CI σ1 ∧ RI σ1) ∧ FC [210, 212, 214, 216] σ σ1 ∧ v = rowV x1 x2 x3 ∧ RWC σ.1 σ1.1 x1 x2 x3 v) (h2 : (CI σ2 ∧ RI σ2) ∧ FC [239, 240] σ1 σ2 ∧ w = rowV x1 x2 x3 ∧ RWR σ1.1 σ2.1 x1 x2 x3 w) : IV σ2 ∧ v = w := by
  have hv : v = w := by rw [h1.2.2.1, h2.2.2.1]
  have hI : EQ σ2 := EQ_p hE (FCu h1.2.1 h2.2.1) (by rw [h2.2.1 0 (by decide), h2.2.1 218 (by decide), h1.2.1 218 (by decide), h1.2.1 0 (by decide)]; exact hE.1) (Or.inl (by decide)) (Or.inr (fun s hs => by rw [h2.2.1 _ (m4 (by decide) s hs), (h1.2.2.2 s hs).1, (h1.2.2.2 s hs).2, (h2.2.2.2 s hs).1, (h2.2.2.2 s hs).2, h1.2.1 239 (by decide), h1.2.1 240 (by decide), hv, (hE.2.2.1 s hs).1, (hE.2.2.1 s hs).2]; exact ⟨rfl, rfl⟩)) (Or.inl (by decide))
  exact ⟨⟨h2.1, hI⟩, hv⟩

theorem eq_write {x1 : Int32} {x2 : Int32} {v w : Int32} {σ σ1 : zS} (hE : EQ σ) (h1 : FC [] σ σ1 ∧ v = wrV x1 x2 (σ.1 (210 + 2 * x1.toInt.toNat) 2)) (h2 : w = wrV x1 x2 (σ1.1 239 x1.toNatClampNeg)) : v = w := by
  rw [h1.2, h2, h1.1 239 (by decide)]
  by_cases q : 0 ≤ x1.toInt ∧ x1.toInt ≤ 3
  · rw [(hE.2.2.1 x1.toInt.toNat (by omega)).1]
    rfl
  · exact (if_neg q).trans (if_neg q).symm

theorem eq_paste {x1 : Int32} {x2 : Int32} {x3 : Int32} {x4 : Int32} {x5 : Int32} {v w : Int32} {σ σ1 : zS} (hE : EQ σ) (h1 : FC [] σ σ1 ∧ v = paV x1 x2 x3 x4 x5 (σ.1 (210 + 2 * x1.toInt.toNat) 2) (σ.1 (210 + 2 * x3.toInt.toNat) 2) (σ.1 (210 + 2 * x1.toInt.toNat) 1) (σ.1 (210 + 2 * x3.toInt.toNat) 1)) (h2 : w = paV x1 x2 x3 x4 x5 (σ1.1 239 x1.toNatClampNeg) (σ1.1 239 x3.toNatClampNeg) (σ1.1 240 x1.toNatClampNeg) (σ1.1 240 x3.toNatClampNeg)) : v = w := by
  rw [h1.2, h2, h1.1 239 (by decide), h1.1 240 (by decide)]
  by_cases q : (0 ≤ x1.toInt ∧ x1.toInt ≤ 3) ∧ (0 ≤ x3.toInt ∧ x3.toInt ≤ 3)
  · rw [(hE.2.2.1 x1.toInt.toNat (by omega)).1, (hE.2.2.1 x3.toInt.toNat (by omega)).1, (hE.2.2.1 x1.toInt.toNat (by omega)).2, (hE.2.2.1 x3.toInt.toNat (by omega)).2]
    rfl
  · exact (if_neg q).trans (if_neg q).symm

theorem eq_back {x1 : Int32} {v w : Int32} {σ σ1 : zS} (hE : EQ σ) (h1 : FC [2, 3, 4, 5, 6, 28, 29, 30, 31, 32] σ σ1 ∧ v = if 0 ≤ x1.toInt ∧ x1.toInt ≤ 2 then (if σ.1 55 x1.toInt.toNat = 0 then -6 else 0) else -2) (h2 : w = if 0 ≤ x1.toInt ∧ x1.toInt ≤ 2 then (if σ1.1 223 x1.toInt.toNat = 0 then -6 else 0) else -2) : v = w := by
  rw [h1.2, h2, h1.1 223 (by decide)]
  by_cases q : 0 ≤ x1.toInt ∧ x1.toInt ≤ 2
  · rw [hE.2.1 x1.toInt.toNat (by omega)]
  · rw [if_neg q, if_neg q]

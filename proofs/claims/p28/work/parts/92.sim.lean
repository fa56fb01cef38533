/-- ints of the cells of S alone may be other; the same world is now -/
def FR (S : List Nat) (σ τ : zS) : Prop := (∀ k, k ∉ S → τ.1 k = σ.1 k) ∧ τ.2.2 0 4 = σ.2.2 0 4
def IW (σ : zS) : Prop := IV σ ∧ WQ σ
theorem IV_10 {σ : zS} (hI : IV σ) : E10 σ := ⟨hI.1.2.1.1.2.1.2, fun k hk => (hI.1.2.1.2.1 k hk).2.1.2⟩
theorem IV_4 {σ : zS} (hI : IV σ) : σ.2.2 0 4 = 2 ∨ σ.2.2 0 4 = 28 := hI.1.1.2.2.elim (fun q => Or.inl q.1) (fun q => Or.inr q.1)
theorem RI_n {σ : zS} (hR : RI σ) : 0 ≤ (σ.1 219 0).toInt ∧ (σ.1 219 0).toInt ≤ 10 := hR.1.1.1
theorem CF_n {σ : zS} (hI : IV σ) {B : Nat} (h : σ.2.2 0 4 = B) : 0 ≤ (σ.1 B 0).toInt ∧ (σ.1 B 0).toInt ≤ 10 := by
  rcases IV_4 hI with q | q
  · rw [← h, q]; exact hI.1.1.2.1.1.1
  · rw [← h, q]; exact hI.1.1.2.1.2.1.1
theorem FRu {S1 S2 : List Nat} {σ σ1 σ2 : zS} (h1 : FR S1 σ σ1) (h2 : FR S2 σ1 σ2) : FR (S1 ++ S2) σ σ2 := ⟨fun k hk => (h2.1 k (fun q => hk (List.mem_append_right _ q))).trans (h1.1 k (fun q => hk (List.mem_append_left _ q))), h2.2.trans h1.2⟩
/-- neither call touches a world -/
theorem sim_f {S1 S2 : List Nat} {σ σ1 σ2 : zS} (hI : IV σ) (hW : WQ σ) (h1 : FR S1 σ σ1) (h2 : FR S2 σ1 σ2) (hS : ∀ k ∈ 219 :: 221 :: WCL, k ∉ S1 ++ S2) : WQ σ2 := by
  have f := FRu h1 h2
  refine WQ_f (IV_10 hI) (IV_4 hI) f.1 f.2 (fun k hk => hS k (List.mem_cons_of_mem _ (List.mem_cons_of_mem _ hk))) ?_ (hS 221 (by decide)) hW
  rw [f.1 219 (hS 219 (by decide))]
  exact B33.rf
/-- one call that touches no world -/
theorem sim_1 {S : List Nat} {σ σ1 : zS} (hI : IV σ) (hW : WQ σ) (h1 : FR S σ σ1) (hS : ∀ k ∈ 219 :: 221 :: WCL, k ∉ S) : WQ σ1 := by
  refine WQ_f (IV_10 hI) (IV_4 hI) h1.1 h1.2 (fun k hk => hS k (List.mem_cons_of_mem _ (List.mem_cons_of_mem _ hk))) ?_ (hS 221 (by decide)) hW
  rw [h1.1 219 (hS 219 (by decide))]
  exact B33.rf
/-- a move of the order -/
theorem sim_o {S1 S2 : List Nat} {σ σ1 σ2 : zS} (hI : IV σ) (hW : WQ σ) (h1 : FR S1 σ σ1) (h2 : FR S2 σ1 σ2 ∧ B33 (σ1.1 219) (σ2.1 219)) (h9 : 219 ∉ S1) (hS : ∀ k ∈ 221 :: WCL, k ∉ S1 ++ S2) : WQ σ2 := by
  have f := FRu h1 h2.1
  refine WQ_f (IV_10 hI) (IV_4 hI) f.1 f.2 (fun k hk => hS k (List.mem_cons_of_mem _ hk)) ?_ (hS 221 (by decide)) hW
  have b := h2.2
  rw [h1.1 219 h9] at b
  exact b

theorem tc_feed {N : Nat} (hN : 1048576 ≤ N) {x1 : Int32} {x2 : Int32} {x3 : Int32} {x4 : Int32} {x5 : Int32} {σ : zS} (hI : IV σ) : Pt (f_X11_feed N 0 x1 x2 x3 x4 x5 σ) (fun r => FR [0, 1] σ r.2) := by
  rcases hI.1.1.2.2 with q | q
  · exact pt_w (pt_ok (s_X11_feed_n2 hN hI.1.1.1 q.1 q.2 hI.1.1.2.1)) (fun r h => ⟨fun k hk => h.1.2 k (fun z => hk ((fun _ z => z) k z)), h.1.1.1 0 4 (by decide)⟩)
  · exact pt_w (pt_ok (s_X11_feed_n28 hN hI.1.1.1 q.1 q.2 hI.1.1.2.1)) (fun r h => ⟨fun k hk => h.1.2 k (fun z => hk ((fun _ z => z) k z)), h.1.1.1 0 4 (by decide)⟩)

theorem tc_end {N : Nat} (hN : 1048576 ≤ N) {x1 : Int32} {σ : zS} (hI : IV σ) : Pt (f_X11_end N 0 x1 σ) (fun r => FR [0] σ r.2) := by
  rcases hI.1.1.2.2 with q | q
  · exact pt_w (pt_ok (s_X11_end_n2 hN hI.1.1.1 q.1 q.2 hI.1.1.2.1)) (fun r h => ⟨fun k hk => h.1.2 k (fun z => hk ((fun _ z => z) k z)), h.1.1.1 0 4 (by decide)⟩)
  · exact pt_w (pt_ok (s_X11_end_n28 hN hI.1.1.1 q.1 q.2 hI.1.1.2.1)) (fun r h => ⟨fun k hk => h.1.2 k (fun z => hk ((fun _ z => z) k z)), h.1.1.1 0 4 (by decide)⟩)

theorem tc_put {N : Nat} (hN : 1048576 ≤ N) {x1 : Int32} {σ : zS} (hI : IV σ) : Pt (f_X11_put N 0 x1 σ) (fun r => FR [0, 57, 58, 59, 61, 62, 63, 64, 65, 106, 107] σ r.2) := by
  rcases hI.1.1.2.2 with q | q
  · exact pt_w (pt_ok (s_X11_put_n2 hN hI.1.1.1 q.1 q.2 hI.1.1.2.1)) (fun r h => ⟨fun k hk => h.1.2 k (fun z => hk ((fun _ z => z) k z)), h.1.1.1 0 4 (by decide)⟩)
  · exact pt_w (pt_ok (s_X11_put_n28 hN hI.1.1.1 q.1 q.2 hI.1.1.2.1)) (fun r h => ⟨fun k hk => h.1.2 k (fun z => hk ((fun _ z => z) k z)), h.1.1.1 0 4 (by decide)⟩)

theorem tc_fault {N : Nat} (hN : 1048576 ≤ N) {x1 : Int32} {σ : zS} (hI : IV σ) : Pt (f_X11_fault N 0 x1 σ) (fun r => FR [] σ r.2) := by
  rcases hI.1.1.2.2 with q | q
  · exact pt_w (pt_ok (s_X11_fault_n2 hN hI.1.1.1 q.1 q.2 hI.1.1.2.1)) (fun r h => ⟨fun k hk => h.1.2 k (fun z => hk ((fun _ z => z) k z)), h.1.1.1 0 4 (by decide)⟩)
  · exact pt_w (pt_ok (s_X11_fault_n28 hN hI.1.1.1 q.1 q.2 hI.1.1.2.1)) (fun r h => ⟨fun k hk => h.1.2 k (fun z => hk ((fun _ z => z) k z)), h.1.1.1 0 4 (by decide)⟩)

theorem tc_size {N : Nat} (hN : 1048576 ≤ N) {x1 : Int32} {σ : zS} (hI : IV σ) : Pt (f_X11_size N 0 x1 σ) (fun r => FR [] σ r.2) := by
  rcases hI.1.1.2.2 with q | q
  · exact pt_w (pt_ok (s_X11_size_n2 hN hI.1.1.1 q.1 q.2 hI.1.1.2.1)) (fun r h => ⟨fun k hk => h.1.2 k (fun z => hk ((fun _ z => z) k z)), h.1.1.1 0 4 (by decide)⟩)
  · exact pt_w (pt_ok (s_X11_size_n28 hN hI.1.1.1 q.1 q.2 hI.1.1.2.1)) (fun r h => ⟨fun k hk => h.1.2 k (fun z => hk ((fun _ z => z) k z)), h.1.1.1 0 4 (by decide)⟩)

theorem tc_has {N : Nat} (hN : 1048576 ≤ N) {x1 : Int32} {x2 : Int32} {σ : zS} (hI : IV σ) : Pt (f_X11_has N 0 x1 x2 σ) (fun r => FR [] σ r.2) := by
  rcases hI.1.1.2.2 with q | q
  · exact pt_w (pt_ok (s_X11_has_n2 hN hI.1.1.1 q.1 q.2 hI.1.1.2.1)) (fun r h => ⟨fun k hk => h.1.2 k (fun z => hk ((fun _ z => z) k z)), h.1.1.1 0 4 (by decide)⟩)
  · exact pt_w (pt_ok (s_X11_has_n28 hN hI.1.1.1 q.1 q.2 hI.1.1.2.1)) (fun r h => ⟨fun k hk => h.1.2 k (fun z => hk ((fun _ z => z) k z)), h.1.1.1 0 4 (by decide)⟩)

theorem tc_makes {N : Nat} (hN : 1048576 ≤ N) {x1 : Int32} {x2 : Int32} {x3 : Int32} {x4 : Int32} {σ : zS} (hI : IV σ) : Pt (f_X11_makes N 0 x1 x2 x3 x4 σ) (fun r => FR [106, 107] σ r.2) := by
  rcases hI.1.1.2.2 with q | q
  · exact pt_w (pt_ok (s_X11_makes_n2 hN hI.1.1.1 q.1 q.2 hI.1.1.2.1)) (fun r h => ⟨fun k hk => h.1.2 k (fun z => hk ((fun _ z => z) k z)), h.1.1.1 0 4 (by decide)⟩)
  · exact pt_w (pt_ok (s_X11_makes_n28 hN hI.1.1.1 q.1 q.2 hI.1.1.2.1)) (fun r h => ⟨fun k hk => h.1.2 k (fun z => hk ((fun _ z => z) k z)), h.1.1.1 0 4 (by decide)⟩)

theorem tc_turn {N : Nat} (hN : 1048576 ≤ N) {x1 : Int32} {x2 : Int32} {x3 : Int32} {σ : zS} (hI : IV σ) : Pt (f_X11_turn N 0 x1 x2 x3 σ) (fun r => FR [] σ r.2) := by
  rcases hI.1.1.2.2 with q | q
  · exact pt_w (pt_ok (s_X11_turn_n2 hN hI.1.1.1 q.1 q.2 hI.1.1.2.1)) (fun r h => ⟨fun k hk => h.1.2 k (fun z => hk ((fun _ z => z) k z)), h.1.1.1 0 4 (by decide)⟩)
  · exact pt_w (pt_ok (s_X11_turn_n28 hN hI.1.1.1 q.1 q.2 hI.1.1.2.1)) (fun r h => ⟨fun k hk => h.1.2 k (fun z => hk ((fun _ z => z) k z)), h.1.1.1 0 4 (by decide)⟩)

theorem tc_sets {N : Nat} (hN : 1048576 ≤ N) {x1 : Int32} {x2 : Int32} {x3 : Int32} {σ : zS} (hI : IV σ) : Pt (f_X11_sets N 0 x1 x2 x3 σ) (fun r => FR [] σ r.2) := by
  rcases hI.1.1.2.2 with q | q
  · exact pt_w (pt_ok (s_X11_sets_n2 hN hI.1.1.1 q.1 q.2 hI.1.1.2.1)) (fun r h => ⟨fun k hk => h.1.2 k (fun z => hk ((fun _ z => z) k z)), h.1.1.1 0 4 (by decide)⟩)
  · exact pt_w (pt_ok (s_X11_sets_n28 hN hI.1.1.1 q.1 q.2 hI.1.1.2.1)) (fun r h => ⟨fun k hk => h.1.2 k (fun z => hk ((fun _ z => z) k z)), h.1.1.1 0 4 (by decide)⟩)

theorem tc_change {N : Nat} (hN : 1048576 ≤ N) {x1 : Int32} {x2 : Int32} {x3 : Int32} {σ : zS} (hI : IV σ) : Pt (f_X11_change N 0 x1 x2 x3 σ) (fun r => FR [] σ r.2) := by
  rcases hI.1.1.2.2 with q | q
  · exact pt_w (pt_ok (s_X11_change_n2 hN hI.1.1.1 q.1 q.2 hI.1.1.2.1)) (fun r h => ⟨fun k hk => h.1.2 k (fun z => hk ((fun _ z => z) k z)), h.1.1.1 0 4 (by decide)⟩)
  · exact pt_w (pt_ok (s_X11_change_n28 hN hI.1.1.1 q.1 q.2 hI.1.1.2.1)) (fun r h => ⟨fun k hk => h.1.2 k (fun z => hk ((fun _ z => z) k z)), h.1.1.1 0 4 (by decide)⟩)

theorem tc_half {N : Nat} (hN : 1048576 ≤ N) {x1 : Int32} {x2 : Int32} {x3 : Int32} {x4 : Int32} {σ : zS} (hI : IV σ) : Pt (f_X11_half N 0 x1 x2 x3 x4 σ) (fun r => FR [] σ r.2) := by
  rcases hI.1.1.2.2 with q | q
  · exact pt_w (pt_ok (s_X11_half_n2 hN hI.1.1.1 q.1 q.2 hI.1.1.2.1)) (fun r h => ⟨fun k hk => h.1.2 k (fun z => hk ((fun _ z => z) k z)), h.1.1.1 0 4 (by decide)⟩)
  · exact pt_w (pt_ok (s_X11_half_n28 hN hI.1.1.1 q.1 q.2 hI.1.1.2.1)) (fun r h => ⟨fun k hk => h.1.2 k (fun z => hk ((fun _ z => z) k z)), h.1.1.1 0 4 (by decide)⟩)

theorem tc_level {N : Nat} (hN : 1048576 ≤ N) {x1 : Int32} {x2 : Int32} {x3 : Int32} {σ : zS} (hI : IV σ) : Pt (f_X11_level N 0 x1 x2 x3 σ) (fun r => FR [] σ r.2) := by
  rcases hI.1.1.2.2 with q | q
  · exact pt_w (pt_ok (s_X11_level_n2 hN hI.1.1.1 q.1 q.2 hI.1.1.2.1)) (fun r h => ⟨fun k hk => h.1.2 k (fun z => hk ((fun _ z => z) k z)), h.1.1.1 0 4 (by decide)⟩)
  · exact pt_w (pt_ok (s_X11_level_n28 hN hI.1.1.1 q.1 q.2 hI.1.1.2.1)) (fun r h => ⟨fun k hk => h.1.2 k (fun z => hk ((fun _ z => z) k z)), h.1.1.1 0 4 (by decide)⟩)

theorem tc_nth {N : Nat} (hN : 1048576 ≤ N) {x1 : Int32} {x2 : Int32} {σ : zS} (hI : IV σ) : Pt (f_X11_nth N 0 x1 x2 σ) (fun r => FR [] σ r.2) := by
  rcases hI.1.1.2.2 with q | q
  · exact pt_w (pt_ok (s_X11_nth_n2 hN hI.1.1.1 q.1 q.2 hI.1.1.2.1)) (fun r h => ⟨fun k hk => h.1.2 k (fun z => hk ((fun _ z => z) k z)), h.1.1.1 0 4 (by decide)⟩)
  · exact pt_w (pt_ok (s_X11_nth_n28 hN hI.1.1.1 q.1 q.2 hI.1.1.2.1)) (fun r h => ⟨fun k hk => h.1.2 k (fun z => hk ((fun _ z => z) k z)), h.1.1.1 0 4 (by decide)⟩)

theorem tc_rank {N : Nat} (hN : 1048576 ≤ N) {x1 : Int32} {x2 : Int32} {σ : zS} (hI : IV σ) : Pt (f_X11_rank N 0 x1 x2 σ) (fun r => FR [] σ r.2) := by
  rcases hI.1.1.2.2 with q | q
  · exact pt_w (pt_ok (s_X11_rank_n2 hN hI.1.1.1 q.1 q.2 hI.1.1.2.1)) (fun r h => ⟨fun k hk => h.1.2 k (fun z => hk ((fun _ z => z) k z)), h.1.1.1 0 4 (by decide)⟩)
  · exact pt_w (pt_ok (s_X11_rank_n28 hN hI.1.1.1 q.1 q.2 hI.1.1.2.1)) (fun r h => ⟨fun k hk => h.1.2 k (fun z => hk ((fun _ z => z) k z)), h.1.1.1 0 4 (by decide)⟩)

theorem tc_light {N : Nat} (hN : 1048576 ≤ N) {x1 : Int32} {x2 : Int32} {σ : zS} (hI : IV σ) : Pt (f_X11_light N 0 x1 x2 σ) (fun r => FR [109, 110] σ r.2) := by
  rcases hI.1.1.2.2 with q | q
  · exact pt_w (pt_ok (s_X11_light_n2 hN hI.1.1.1 q.1 q.2 hI.1.1.2.1)) (fun r h => ⟨fun k hk => h.1.2 k (fun z => hk ((fun _ z => z) k z)), h.1.1.1 0 4 (by decide)⟩)
  · exact pt_w (pt_ok (s_X11_light_n28 hN hI.1.1.1 q.1 q.2 hI.1.1.2.1)) (fun r h => ⟨fun k hk => h.1.2 k (fun z => hk ((fun _ z => z) k z)), h.1.1.1 0 4 (by decide)⟩)

theorem tc_weight {N : Nat} (hN : 1048576 ≤ N) {x1 : Int32} {σ : zS} (hI : IV σ) : Pt (f_X11_weight N 0 x1 σ) (fun r => FR [] σ r.2 ∧ wtV (σ.1 (σ.2.2 0 4) 0) (σ.1 ((σ.2.2 0 4) + 3)) x1 r.1) := by
  refine pt_and ?_ (vl_weight_ (IV_4 hI) hI.1.1.1 rfl (CF_n hI rfl))
  rcases hI.1.1.2.2 with q | q
  · exact pt_w (pt_ok (s_X11_weight_n2 hN hI.1.1.1 q.1 q.2 hI.1.1.2.1)) (fun r h => ⟨fun k hk => h.1.2 k (fun z => hk ((fun _ z => z) k z)), h.1.1.1 0 4 (by decide)⟩)
  · exact pt_w (pt_ok (s_X11_weight_n28 hN hI.1.1.1 q.1 q.2 hI.1.1.2.1)) (fun r h => ⟨fun k hk => h.1.2 k (fun z => hk ((fun _ z => z) k z)), h.1.1.1 0 4 (by decide)⟩)

theorem tc_weigh {N : Nat} (hN : 1048576 ≤ N) {x1 : Int32} {x2 : Int32} {σ : zS} (hI : IV σ) : Pt (f_X11_weigh N 0 x1 x2 σ) (fun r => FR [5, 31] σ r.2 ∧ (wgOK (σ.1 (σ.2.2 0 4) 0) x1 x2 → r.1 = σ.1 ((σ.2.2 0 4) + 3) x1.toInt.toNat ∧ r.2.1 ((σ.2.2 0 4) + 3) = upd (σ.1 ((σ.2.2 0 4) + 3)) x1.toInt.toNat x2) ∧ (¬ wgOK (σ.1 (σ.2.2 0 4) 0) x1 x2 → r.1 = -2 ∧ r.2.1 ((σ.2.2 0 4) + 3) = σ.1 ((σ.2.2 0 4) + 3))) := by
  refine pt_and ?_ (vl_weigh_ (IV_4 hI) hI.1.1.1 rfl)
  rcases hI.1.1.2.2 with q | q
  · exact pt_w (pt_ok (s_X11_weigh_n2 hN hI.1.1.1 q.1 q.2 hI.1.1.2.1)) (fun r h => ⟨fun k hk => h.1.2 k (fun z => hk ((show ∀ k ∈ [5], k ∈ [5, 31] by decide) k z)), h.1.1.1 0 4 (by decide)⟩)
  · exact pt_w (pt_ok (s_X11_weigh_n28 hN hI.1.1.1 q.1 q.2 hI.1.1.2.1)) (fun r h => ⟨fun k hk => h.1.2 k (fun z => hk ((show ∀ k ∈ [31], k ∈ [5, 31] by decide) k z)), h.1.1.1 0 4 (by decide)⟩)

theorem tc_weighs {N : Nat} (hN : 1048576 ≤ N) {x1 : Int32} {x2 : Int32} {σ : zS} (hI : IV σ) : Pt (f_X11_weighs N 0 x1 x2 σ) (fun r => FR [109] σ r.2) := by
  rcases hI.1.1.2.2 with q | q
  · exact pt_w (pt_ok (s_X11_weighs_n2 hN hI.1.1.1 q.1 q.2 hI.1.1.2.1)) (fun r h => ⟨fun k hk => h.1.2 k (fun z => hk ((fun _ z => z) k z)), h.1.1.1 0 4 (by decide)⟩)
  · exact pt_w (pt_ok (s_X11_weighs_n28 hN hI.1.1.1 q.1 q.2 hI.1.1.2.1)) (fun r h => ⟨fun k hk => h.1.2 k (fun z => hk ((fun _ z => z) k z)), h.1.1.1 0 4 (by decide)⟩)

theorem tc_each {N : Nat} (hN : 1048576 ≤ N) {x1 : Int32} {x2 : Int32} {σ : zS} (hI : IV σ) : Pt (f_X11_each N 0 x1 x2 σ) (fun r => FR [] σ r.2) := by
  rcases hI.1.1.2.2 with q | q
  · exact pt_w (pt_ok (s_X11_each_n2 hN hI.1.1.1 q.1 q.2 hI.1.1.2.1)) (fun r h => ⟨fun k hk => h.1.2 k (fun z => hk ((fun _ z => z) k z)), h.1.1.1 0 4 (by decide)⟩)
  · exact pt_w (pt_ok (s_X11_each_n28 hN hI.1.1.1 q.1 q.2 hI.1.1.2.1)) (fun r h => ⟨fun k hk => h.1.2 k (fun z => hk ((fun _ z => z) k z)), h.1.1.1 0 4 (by decide)⟩)

theorem tc_names {N : Nat} (hN : 1048576 ≤ N) {x1 : Int32} {x2 : Int32} {σ : zS} (hI : IV σ) : Pt (f_X11_names N 0 x1 x2 σ) (fun r => FR [] σ r.2) := by
  rcases hI.1.1.2.2 with q | q
  · exact pt_w (pt_ok (s_X11_names_n2 hN hI.1.1.1 q.1 q.2 hI.1.1.2.1)) (fun r h => ⟨fun k hk => h.1.2 k (fun z => hk ((fun _ z => z) k z)), h.1.1.1 0 4 (by decide)⟩)
  · exact pt_w (pt_ok (s_X11_names_n28 hN hI.1.1.1 q.1 q.2 hI.1.1.2.1)) (fun r h => ⟨fun k hk => h.1.2 k (fun z => hk ((fun _ z => z) k z)), h.1.1.1 0 4 (by decide)⟩)

theorem tc_draw {N : Nat} (hN : 1048576 ≤ N) {x1 : Int32} {x2 : Int32} {σ : zS} (hI : IV σ) : Pt (f_X11_draw N 0 x1 x2 σ) (fun r => FR [] σ r.2) := by
  rcases hI.1.1.2.2 with q | q
  · exact pt_w (pt_ok (s_X11_draw_n2 hN hI.1.1.1 q.1 q.2 hI.1.1.2.1)) (fun r h => ⟨fun k hk => h.1.2 k (fun z => hk ((fun _ z => z) k z)), h.1.1.1 0 4 (by decide)⟩)
  · exact pt_w (pt_ok (s_X11_draw_n28 hN hI.1.1.1 q.1 q.2 hI.1.1.2.1)) (fun r h => ⟨fun k hk => h.1.2 k (fun z => hk ((fun _ z => z) k z)), h.1.1.1 0 4 (by decide)⟩)

theorem tc_alike {N : Nat} (hN : 1048576 ≤ N) {x1 : Int32} {x2 : Int32} {σ : zS} (hI : IV σ) : Pt (f_X11_alike N 0 x1 x2 σ) (fun r => FR [] σ r.2) := by
  rcases hI.1.1.2.2 with q | q
  · exact pt_w (pt_ok (s_X11_alike_n2 hN hI.1.1.1 q.1 q.2 hI.1.1.2.1)) (fun r h => ⟨fun k hk => h.1.2 k (fun z => hk ((fun _ z => z) k z)), h.1.1.1 0 4 (by decide)⟩)
  · exact pt_w (pt_ok (s_X11_alike_n28 hN hI.1.1.1 q.1 q.2 hI.1.1.2.1)) (fun r h => ⟨fun k hk => h.1.2 k (fun z => hk ((fun _ z => z) k z)), h.1.1.1 0 4 (by decide)⟩)

theorem tc_differ {N : Nat} (hN : 1048576 ≤ N) {x1 : Int32} {x2 : Int32} {σ : zS} (hI : IV σ) : Pt (f_X11_differ N 0 x1 x2 σ) (fun r => FR [] σ r.2) := by
  rcases hI.1.1.2.2 with q | q
  · exact pt_w (pt_ok (s_X11_differ_n2 hN hI.1.1.1 q.1 q.2 hI.1.1.2.1)) (fun r h => ⟨fun k hk => h.1.2 k (fun z => hk ((fun _ z => z) k z)), h.1.1.1 0 4 (by decide)⟩)
  · exact pt_w (pt_ok (s_X11_differ_n28 hN hI.1.1.1 q.1 q.2 hI.1.1.2.1)) (fun r h => ⟨fun k hk => h.1.2 k (fun z => hk ((fun _ z => z) k z)), h.1.1.1 0 4 (by decide)⟩)

theorem tc_within {N : Nat} (hN : 1048576 ≤ N) {x1 : Int32} {x2 : Int32} {σ : zS} (hI : IV σ) : Pt (f_X11_within N 0 x1 x2 σ) (fun r => FR [] σ r.2) := by
  rcases hI.1.1.2.2 with q | q
  · exact pt_w (pt_ok (s_X11_within_n2 hN hI.1.1.1 q.1 q.2 hI.1.1.2.1)) (fun r h => ⟨fun k hk => h.1.2 k (fun z => hk ((fun _ z => z) k z)), h.1.1.1 0 4 (by decide)⟩)
  · exact pt_w (pt_ok (s_X11_within_n28 hN hI.1.1.1 q.1 q.2 hI.1.1.2.1)) (fun r h => ⟨fun k hk => h.1.2 k (fun z => hk ((fun _ z => z) k z)), h.1.1.1 0 4 (by decide)⟩)

theorem tc_dual {N : Nat} (hN : 1048576 ≤ N) {x1 : Int32} {x2 : Int32} {σ : zS} (hI : IV σ) : Pt (f_X11_dual N 0 x1 x2 σ) (fun r => FR [] σ r.2) := by
  rcases hI.1.1.2.2 with q | q
  · exact pt_w (pt_ok (s_X11_dual_n2 hN hI.1.1.1 q.1 q.2 hI.1.1.2.1)) (fun r h => ⟨fun k hk => h.1.2 k (fun z => hk ((fun _ z => z) k z)), h.1.1.1 0 4 (by decide)⟩)
  · exact pt_w (pt_ok (s_X11_dual_n28 hN hI.1.1.1 q.1 q.2 hI.1.1.2.1)) (fun r h => ⟨fun k hk => h.1.2 k (fun z => hk ((fun _ z => z) k z)), h.1.1.1 0 4 (by decide)⟩)

theorem tc_apart {N : Nat} (hN : 1048576 ≤ N) {x1 : Int32} {x2 : Int32} {σ : zS} (hI : IV σ) : Pt (f_X11_apart N 0 x1 x2 σ) (fun r => FR [107] σ r.2) := by
  rcases hI.1.1.2.2 with q | q
  · exact pt_w (pt_ok (s_X11_apart_n2 hN hI.1.1.1 q.1 q.2 hI.1.1.2.1)) (fun r h => ⟨fun k hk => h.1.2 k (fun z => hk ((fun _ z => z) k z)), h.1.1.1 0 4 (by decide)⟩)
  · exact pt_w (pt_ok (s_X11_apart_n28 hN hI.1.1.1 q.1 q.2 hI.1.1.2.1)) (fun r h => ⟨fun k hk => h.1.2 k (fun z => hk ((fun _ z => z) k z)), h.1.1.1 0 4 (by decide)⟩)

theorem tc_packs {N : Nat} (hN : 1048576 ≤ N) {x1 : Int32} {x2 : Int32} {σ : zS} (hI : IV σ) : Pt (f_X11_packs N 0 x1 x2 σ) (fun r => FR [126, 127] σ r.2) := by
  rcases hI.1.1.2.2 with q | q
  · exact pt_w (pt_ok (s_X11_packs_n2 hN hI.1.1.1 q.1 q.2 hI.1.1.2.1)) (fun r h => ⟨fun k hk => h.1.2 k (fun z => hk ((fun _ z => z) k z)), h.1.1.1 0 4 (by decide)⟩)
  · exact pt_w (pt_ok (s_X11_packs_n28 hN hI.1.1.1 q.1 q.2 hI.1.1.2.1)) (fun r h => ⟨fun k hk => h.1.2 k (fun z => hk ((fun _ z => z) k z)), h.1.1.1 0 4 (by decide)⟩)

theorem tc_nodes {N : Nat} (hN : 1048576 ≤ N) {x1 : Int32} {σ : zS} (hI : IV σ) : Pt (f_X11_nodes N 0 x1 σ) (fun r => FR [111, 112, 113, 114, 115, 116, 117, 118, 119] σ r.2) := by
  rcases hI.1.1.2.2 with q | q
  · exact pt_w (pt_ok (s_X11_nodes_n2 hN hI.1.1.1 q.1 q.2 hI.1.1.2.1)) (fun r h => ⟨fun k hk => h.1.2 k (fun z => hk ((fun _ z => z) k z)), h.1.1.1 0 4 (by decide)⟩)
  · exact pt_w (pt_ok (s_X11_nodes_n28 hN hI.1.1.1 q.1 q.2 hI.1.1.2.1)) (fun r h => ⟨fun k hk => h.1.2 k (fun z => hk ((fun _ z => z) k z)), h.1.1.1 0 4 (by decide)⟩)

theorem tc_net {N : Nat} (hN : 1048576 ≤ N)  {σ : zS} (hI : IV σ) : Pt (f_X11_net N 0  σ) (fun r => FR [111, 112, 113, 114, 115, 116, 117, 118, 119] σ r.2) := by
  rcases hI.1.1.2.2 with q | q
  · exact pt_w (pt_ok (s_X11_net_n2 hN hI.1.1.1 q.1 q.2 hI.1.1.2.1)) (fun r h => ⟨fun k hk => h.1.2 k (fun z => hk ((fun _ z => z) k z)), h.1.1.1 0 4 (by decide)⟩)
  · exact pt_w (pt_ok (s_X11_net_n28 hN hI.1.1.1 q.1 q.2 hI.1.1.2.1)) (fun r h => ⟨fun k hk => h.1.2 k (fun z => hk ((fun _ z => z) k z)), h.1.1.1 0 4 (by decide)⟩)

theorem tc_wide {N : Nat} (hN : 1048576 ≤ N) {x1 : Int32} {x2 : Int32} {σ : zS} (hI : IV σ) : Pt (f_X11_wide N 0 x1 x2 σ) (fun r => FR [111, 112, 113, 114, 115, 116, 117, 118, 119] σ r.2) := by
  rcases hI.1.1.2.2 with q | q
  · exact pt_w (pt_ok (s_X11_wide_n2 hN hI.1.1.1 q.1 q.2 hI.1.1.2.1)) (fun r h => ⟨fun k hk => h.1.2 k (fun z => hk ((fun _ z => z) k z)), h.1.1.1 0 4 (by decide)⟩)
  · exact pt_w (pt_ok (s_X11_wide_n28 hN hI.1.1.1 q.1 q.2 hI.1.1.2.1)) (fun r h => ⟨fun k hk => h.1.2 k (fun z => hk ((fun _ z => z) k z)), h.1.1.1 0 4 (by decide)⟩)

theorem tc_order {N : Nat} (hN : 1048576 ≤ N) {x1 : Int32} {σ : zS} (hI : IV σ) : Pt (f_X11_order N 0 x1 σ) (fun r => FR [] σ r.2) := by
  rcases hI.1.1.2.2 with q | q
  · exact pt_w (pt_ok (s_X11_order_n2 hN hI.1.1.1 q.1 q.2 hI.1.1.2.1)) (fun r h => ⟨fun k hk => h.1.2 k (fun z => hk ((fun _ z => z) k z)), h.1.1.1 0 4 (by decide)⟩)
  · exact pt_w (pt_ok (s_X11_order_n28 hN hI.1.1.1 q.1 q.2 hI.1.1.2.1)) (fun r h => ⟨fun k hk => h.1.2 k (fun z => hk ((fun _ z => z) k z)), h.1.1.1 0 4 (by decide)⟩)

theorem tc_swap {N : Nat} (hN : 1048576 ≤ N) {x1 : Int32} {σ : zS} (hI : IV σ) : Pt (f_X11_swap N 0 x1 σ) (fun r => FR [6, 32, 111, 112, 113, 114, 115, 116, 117, 118, 119] σ r.2) := by
  rcases hI.1.1.2.2 with q | q
  · exact pt_w (pt_ok (s_X11_swap_n2 hN hI.1.1.1 q.1 q.2 hI.1.1.2.1)) (fun r h => ⟨fun k hk => h.1.2 k (fun z => hk ((show ∀ k ∈ [6, 111, 112, 113, 114, 115, 116, 117, 118, 119], k ∈ [6, 32, 111, 112, 113, 114, 115, 116, 117, 118, 119] by decide) k z)), h.1.1.1 0 4 (by decide)⟩)
  · exact pt_w (pt_ok (s_X11_swap_n28 hN hI.1.1.1 q.1 q.2 hI.1.1.2.1)) (fun r h => ⟨fun k hk => h.1.2 k (fun z => hk ((show ∀ k ∈ [32, 111, 112, 113, 114, 115, 116, 117, 118, 119], k ∈ [6, 32, 111, 112, 113, 114, 115, 116, 117, 118, 119] by decide) k z)), h.1.1.1 0 4 (by decide)⟩)

theorem tc_move {N : Nat} (hN : 1048576 ≤ N) {x1 : Int32} {x2 : Int32} {σ : zS} (hI : IV σ) : Pt (f_X11_move N 0 x1 x2 σ) (fun r => FR [6, 32] σ r.2) := by
  rcases hI.1.1.2.2 with q | q
  · exact pt_w (pt_ok (s_X11_move_n2 hN hI.1.1.1 q.1 q.2 hI.1.1.2.1)) (fun r h => ⟨fun k hk => h.1.2 k (fun z => hk ((show ∀ k ∈ [6], k ∈ [6, 32] by decide) k z)), h.1.1.1 0 4 (by decide)⟩)
  · exact pt_w (pt_ok (s_X11_move_n28 hN hI.1.1.1 q.1 q.2 hI.1.1.2.1)) (fun r h => ⟨fun k hk => h.1.2 k (fun z => hk ((show ∀ k ∈ [32], k ∈ [6, 32] by decide) k z)), h.1.1.1 0 4 (by decide)⟩)

theorem tc_best {N : Nat} (hN : 1048576 ≤ N) {x1 : Int32} {x2 : Int32} {σ : zS} (hI : IV σ) : Pt (f_X11_best N 0 x1 x2 σ) (fun r => FR [122, 123] σ r.2) := by
  rcases hI.1.1.2.2 with q | q
  · exact pt_w (pt_ok (s_X11_best_n2 hN hI.1.1.1 q.1 q.2 hI.1.1.2.1)) (fun r h => ⟨fun k hk => h.1.2 k (fun z => hk ((fun _ z => z) k z)), h.1.1.1 0 4 (by decide)⟩)
  · exact pt_w (pt_ok (s_X11_best_n28 hN hI.1.1.1 q.1 q.2 hI.1.1.2.1)) (fun r h => ⟨fun k hk => h.1.2 k (fun z => hk ((fun _ z => z) k z)), h.1.1.1 0 4 (by decide)⟩)

theorem tc_sift {N : Nat} (hN : 1048576 ≤ N) {x1 : Int32} {σ : zS} (hI : IV σ) : Pt (f_X11_sift N 0 x1 σ) (fun r => FR [6, 32, 111, 112, 113, 114, 115, 116, 117, 118, 119] σ r.2) := by
  rcases hI.1.1.2.2 with q | q
  · exact pt_w (pt_ok (s_X11_sift_n2 hN hI.1.1.1 q.1 q.2 hI.1.1.2.1)) (fun r h => ⟨fun k hk => h.1.2 k (fun z => hk ((show ∀ k ∈ [6, 111, 112, 113, 114, 115, 116, 117, 118, 119], k ∈ [6, 32, 111, 112, 113, 114, 115, 116, 117, 118, 119] by decide) k z)), h.1.1.1 0 4 (by decide)⟩)
  · exact pt_w (pt_ok (s_X11_sift_n28 hN hI.1.1.1 q.1 q.2 hI.1.1.2.1)) (fun r h => ⟨fun k hk => h.1.2 k (fun z => hk ((show ∀ k ∈ [32, 111, 112, 113, 114, 115, 116, 117, 118, 119], k ∈ [6, 32, 111, 112, 113, 114, 115, 116, 117, 118, 119] by decide) k z)), h.1.1.1 0 4 (by decide)⟩)

theorem tc_ways {N : Nat} (hN : 1048576 ≤ N) {x1 : Int32} {x2 : Int32} {x3 : Int32} {σ : zS} (hI : IV σ) : Pt (f_X11_ways N 0 x1 x2 x3 σ) (fun r => FR [] σ r.2) := by
  rcases hI.1.1.2.2 with q | q
  · exact pt_w (pt_ok (s_X11_ways_n2 hN hI.1.1.1 q.1 q.2 hI.1.1.2.1)) (fun r h => ⟨fun k hk => h.1.2 k (fun z => hk ((fun _ z => z) k z)), h.1.1.1 0 4 (by decide)⟩)
  · exact pt_w (pt_ok (s_X11_ways_n28 hN hI.1.1.1 q.1 q.2 hI.1.1.2.1)) (fun r h => ⟨fun k hk => h.1.2 k (fun z => hk ((fun _ z => z) k z)), h.1.1.1 0 4 (by decide)⟩)

theorem tc_map {N : Nat} (hN : 1048576 ≤ N) {x1 : Int32} {x2 : Int32} {σ : zS} (hI : IV σ) : Pt (f_X11_map N 0 x1 x2 σ) (fun r => FR [125] σ r.2) := by
  rcases hI.1.1.2.2 with q | q
  · exact pt_w (pt_ok (s_X11_map_n2 hN hI.1.1.1 q.1 q.2 hI.1.1.2.1)) (fun r h => ⟨fun k hk => h.1.2 k (fun z => hk ((fun _ z => z) k z)), h.1.1.1 0 4 (by decide)⟩)
  · exact pt_w (pt_ok (s_X11_map_n28 hN hI.1.1.1 q.1 q.2 hI.1.1.2.1)) (fun r h => ⟨fun k hk => h.1.2 k (fun z => hk ((fun _ z => z) k z)), h.1.1.1 0 4 (by decide)⟩)

theorem tc_cuts {N : Nat} (hN : 1048576 ≤ N) {x1 : Int32} {x2 : Int32} {x3 : Int32} {σ : zS} (hI : IV σ) : Pt (f_X11_cuts N 0 x1 x2 x3 σ) (fun r => FR [] σ r.2) := by
  rcases hI.1.1.2.2 with q | q
  · exact pt_w (pt_ok (s_X11_cuts_n2 hN hI.1.1.1 q.1 q.2 hI.1.1.2.1)) (fun r h => ⟨fun k hk => h.1.2 k (fun z => hk ((fun _ z => z) k z)), h.1.1.1 0 4 (by decide)⟩)
  · exact pt_w (pt_ok (s_X11_cuts_n28 hN hI.1.1.1 q.1 q.2 hI.1.1.2.1)) (fun r h => ⟨fun k hk => h.1.2 k (fun z => hk ((fun _ z => z) k z)), h.1.1.1 0 4 (by decide)⟩)

theorem tc_judge {N : Nat} (hN : 1048576 ≤ N) {x1 : Int32} {x2 : Int32} {σ : zS} (hI : IV σ) : Pt (f_X11_judge N 0 x1 x2 σ) (fun r => FR [] σ r.2) := by
  rcases hI.1.1.2.2 with q | q
  · exact pt_w (pt_ok (s_X11_judge_n2 hN hI.1.1.1 q.1 q.2 hI.1.1.2.1)) (fun r h => ⟨fun k hk => h.1.2 k (fun z => hk ((fun _ z => z) k z)), h.1.1.1 0 4 (by decide)⟩)
  · exact pt_w (pt_ok (s_X11_judge_n28 hN hI.1.1.1 q.1 q.2 hI.1.1.2.1)) (fun r h => ⟨fun k hk => h.1.2 k (fun z => hk ((fun _ z => z) k z)), h.1.1.1 0 4 (by decide)⟩)

theorem tc_takes {N : Nat} (hN : 1048576 ≤ N) {x1 : Int32} {x2 : Int32} {σ : zS} (hI : IV σ) : Pt (f_X11_takes N 0 x1 x2 σ) (fun r => FR [] σ r.2) := by
  rcases hI.1.1.2.2 with q | q
  · exact pt_w (pt_ok (s_X11_takes_n2 hN hI.1.1.1 q.1 q.2 hI.1.1.2.1)) (fun r h => ⟨fun k hk => h.1.2 k (fun z => hk ((fun _ z => z) k z)), h.1.1.1 0 4 (by decide)⟩)
  · exact pt_w (pt_ok (s_X11_takes_n28 hN hI.1.1.1 q.1 q.2 hI.1.1.2.1)) (fun r h => ⟨fun k hk => h.1.2 k (fun z => hk ((fun _ z => z) k z)), h.1.1.1 0 4 (by decide)⟩)

theorem tc_count {N : Nat} (hN : 1048576 ≤ N) {x1 : Int32} {σ : zS} (hI : IV σ) : Pt (f_X11_count N 0 x1 σ) (fun r => FR [] σ r.2) := by
  rcases hI.1.1.2.2 with q | q
  · exact pt_w (pt_ok (s_X11_count_n2 hN hI.1.1.1 q.1 q.2 hI.1.1.2.1)) (fun r h => ⟨fun k hk => h.1.2 k (fun z => hk ((fun _ z => z) k z)), h.1.1.1 0 4 (by decide)⟩)
  · exact pt_w (pt_ok (s_X11_count_n28 hN hI.1.1.1 q.1 q.2 hI.1.1.2.1)) (fun r h => ⟨fun k hk => h.1.2 k (fun z => hk ((fun _ z => z) k z)), h.1.1.1 0 4 (by decide)⟩)

theorem tc_row {N : Nat} (hN : 1048576 ≤ N) {x1 : Int32} {x2 : Int32} {x3 : Int32} {σ : zS} (hI : IV σ) : Pt (f_X11_row N 0 x1 x2 x3 σ) (fun r => FR [210, 212, 214, 216] σ r.2) := by
  rcases hI.1.1.2.2 with q | q
  · exact pt_w (pt_ok (s_X11_row_n2 hN hI.1.1.1 q.1 q.2 hI.1.1.2.1)) (fun r h => ⟨fun k hk => h.1.2 k (fun z => hk ((fun _ z => z) k z)), h.1.1.1 0 4 (by decide)⟩)
  · exact pt_w (pt_ok (s_X11_row_n28 hN hI.1.1.1 q.1 q.2 hI.1.1.2.1)) (fun r h => ⟨fun k hk => h.1.2 k (fun z => hk ((fun _ z => z) k z)), h.1.1.1 0 4 (by decide)⟩)

theorem tc_write {N : Nat} (hN : 1048576 ≤ N) {x1 : Int32} {x2 : Int32} {x3 : Int64} {σ : zS} (hI : IV σ) : Pt (f_X11_write N 0 x1 x2 x3 σ) (fun r => FR [] σ r.2) := by
  rcases hI.1.1.2.2 with q | q
  · exact pt_w (pt_ok (s_X11_write_n2 hN hI.1.1.1 q.1 q.2 hI.1.1.2.1)) (fun r h => ⟨fun k hk => h.1.2 k (fun z => hk ((fun _ z => z) k z)), h.1.1.1 0 4 (by decide)⟩)
  · exact pt_w (pt_ok (s_X11_write_n28 hN hI.1.1.1 q.1 q.2 hI.1.1.2.1)) (fun r h => ⟨fun k hk => h.1.2 k (fun z => hk ((fun _ z => z) k z)), h.1.1.1 0 4 (by decide)⟩)

theorem tc_paste {N : Nat} (hN : 1048576 ≤ N) {x1 : Int32} {x2 : Int32} {x3 : Int32} {x4 : Int32} {x5 : Int32} {σ : zS} (hI : IV σ) : Pt (f_X11_paste N 0 x1 x2 x3 x4 x5 σ) (fun r => FR [] σ r.2) := by
  rcases hI.1.1.2.2 with q | q
  · exact pt_w (pt_ok (s_X11_paste_n2 hN hI.1.1.1 q.1 q.2 hI.1.1.2.1)) (fun r h => ⟨fun k hk => h.1.2 k (fun z => hk ((fun _ z => z) k z)), h.1.1.1 0 4 (by decide)⟩)
  · exact pt_w (pt_ok (s_X11_paste_n28 hN hI.1.1.1 q.1 q.2 hI.1.1.2.1)) (fun r h => ⟨fun k hk => h.1.2 k (fun z => hk ((fun _ z => z) k z)), h.1.1.1 0 4 (by decide)⟩)

theorem tc_keep {N : Nat} (hN : 1048576 ≤ N) {x1 : Int32} {σ : zS} (hI : IV σ) : Pt (f_X11_keep N 0 x1 σ) (fun r => r.2.2.2 = σ.2.2 ∧ (0 ≤ x1.toInt ∧ x1.toInt ≤ 2 → CPY σ.1 r.2.1 (132 + 26 * x1.toInt.toNat) (σ.2.2 0 4) ∧ ∀ k, (k < 132 + 26 * x1.toInt.toNat ∨ 132 + 26 * x1.toInt.toNat + 4 < k) → k ≠ 55 → r.2.1 k = σ.1 k) ∧ (¬ (0 ≤ x1.toInt ∧ x1.toInt ≤ 2) → r.2.1 = σ.1)) := vl_keep_ hN (IV_4 hI) hI.1.1.1 rfl
theorem tc_back {N : Nat} (hN : 1048576 ≤ N) {x1 : Int32} {σ : zS} (hI : IV σ) : Pt (f_X11_back N 0 x1 σ) (fun r => r.2.2.2 = σ.2.2 ∧ ((0 ≤ x1.toInt ∧ x1.toInt ≤ 2) ∧ ¬ σ.1 55 x1.toInt.toNat = 0 → CPY σ.1 r.2.1 (σ.2.2 0 4) (132 + 26 * x1.toInt.toNat) ∧ ∀ k, (k < (σ.2.2 0 4) ∨ (σ.2.2 0 4) + 4 < k) → r.2.1 k = σ.1 k) ∧ (¬ ((0 ≤ x1.toInt ∧ x1.toInt ≤ 2) ∧ ¬ σ.1 55 x1.toInt.toNat = 0) → r.2.1 = σ.1)) := vl_back_ hN (IV_4 hI) hI.1.1.1 rfl

theorem tr_feed {N : Nat} (hN : 1048576 ≤ N) {x1 : Int32} {x2 : Int32} {x3 : Int32} {x4 : Int32} {x5 : Int32} {σ : zS} (hC : CI σ) (hR : RI σ) : Pt (f_X12_feed N 218 x1 x2 x3 x4 x5 σ) (fun r => FR [218, 224, 225] σ r.2) := pt_w (pt_ok (s_X12_feed hN hC.1 hR.2.2.1)) (fun r h => ⟨h.1.2, h.1.1.1 0 4 (by decide)⟩)

theorem tr_end {N : Nat} (hN : 1048576 ≤ N) {x1 : Int32} {σ : zS} (hC : CI σ) (hR : RI σ) : Pt (f_X12_end N 218 x1 σ) (fun r => FR [218] σ r.2) := pt_w (pt_ok (s_X12_end hN hC.1 hR.2.2.1)) (fun r h => ⟨h.1.2, h.1.1.1 0 4 (by decide)⟩)

theorem tr_put {N : Nat} (hN : 1048576 ≤ N) {x1 : Int32} {σ : zS} (hC : CI σ) (hR : RI σ) : Pt (f_X12_put N 218 x1 σ) (fun r => FR [218, 220, 226, 227, 228, 229, 230] σ r.2) := pt_w (pt_ok (s_X12_put hN hC.1 hR.1.1 hR.2.1 hR.2.2.1 hR.2.2.2)) (fun r h => ⟨h.1.2, h.1.1.1 0 4 (by decide)⟩)

theorem tr_fault {N : Nat} (hN : 1048576 ≤ N) {x1 : Int32} {σ : zS} (hC : CI σ) (hR : RI σ) : Pt (f_X12_fault N 218 x1 σ) (fun r => FR [] σ r.2) := pt_w (pt_ok (s_X12_fault hN hC.1 )) (fun r h => ⟨h.1.2, h.1.1.1 0 4 (by decide)⟩)

theorem tr_size {N : Nat} (hN : 1048576 ≤ N) {x1 : Int32} {σ : zS} (hC : CI σ) (hR : RI σ) : Pt (f_X12_size N 218 x1 σ) (fun r => FR [] σ r.2) := pt_w (pt_ok (s_X12_size hN hC.1 hR.1.1 hR.2.1)) (fun r h => ⟨h.1.2, h.1.1.1 0 4 (by decide)⟩)

theorem tr_has {N : Nat} (hN : 1048576 ≤ N) {x1 : Int32} {x2 : Int32} {σ : zS} (hC : CI σ) (hR : RI σ) : Pt (f_X12_has N 218 x1 x2 σ) (fun r => FR [] σ r.2) := pt_w (pt_ok (s_X12_has hN hC.1 hR.1.1 hR.2.1)) (fun r h => ⟨h.1.2, h.1.1.1 0 4 (by decide)⟩)

theorem tr_makes {N : Nat} (hN : 1048576 ≤ N) {x1 : Int32} {x2 : Int32} {x3 : Int32} {x4 : Int32} {σ : zS} (hC : CI σ) (hR : RI σ) : Pt (f_X12_makes N 218 x1 x2 x3 x4 σ) (fun r => FR [218, 220, 227, 228, 229] σ r.2) := pt_w (pt_ok (s_X12_makes hN hC.1 hR.1.1 hR.2.1)) (fun r h => ⟨h.1.2, h.1.1.1 0 4 (by decide)⟩)

theorem tr_turn {N : Nat} (hN : 1048576 ≤ N) {x1 : Int32} {x2 : Int32} {x3 : Int32} {σ : zS} (hC : CI σ) (hR : RI σ) : Pt (f_X12_turn N 218 x1 x2 x3 σ) (fun r => FR [218, 220, 227, 228] σ r.2) := pt_w (pt_ok (s_X12_turn hN hC.1 hR.1.1 hR.2.1)) (fun r h => ⟨h.1.2, h.1.1.1 0 4 (by decide)⟩)

theorem tr_sets {N : Nat} (hN : 1048576 ≤ N) {x1 : Int32} {x2 : Int32} {x3 : Int32} {σ : zS} (hC : CI σ) (hR : RI σ) : Pt (f_X12_sets N 218 x1 x2 x3 σ) (fun r => FR [220] σ r.2) := pt_w (pt_ok (s_X12_sets hN hC.1 hR.1.1 hR.2.1)) (fun r h => ⟨h.1.2, h.1.1.1 0 4 (by decide)⟩)

theorem tr_change {N : Nat} (hN : 1048576 ≤ N) {x1 : Int32} {x2 : Int32} {x3 : Int32} {σ : zS} (hC : CI σ) (hR : RI σ) : Pt (f_X12_change N 218 x1 x2 x3 σ) (fun r => FR [220, 227] σ r.2) := pt_w (pt_ok (s_X12_change hN hC.1 hR.1.1 hR.2.1)) (fun r h => ⟨h.1.2, h.1.1.1 0 4 (by decide)⟩)

theorem tr_half {N : Nat} (hN : 1048576 ≤ N) {x1 : Int32} {x2 : Int32} {x3 : Int32} {x4 : Int32} {σ : zS} (hC : CI σ) (hR : RI σ) : Pt (f_X12_half N 218 x1 x2 x3 x4 σ) (fun r => FR [220, 227] σ r.2) := pt_w (pt_ok (s_X12_half hN hC.1 hR.1.1 hR.2.1)) (fun r h => ⟨h.1.2, h.1.1.1 0 4 (by decide)⟩)

theorem tr_level {N : Nat} (hN : 1048576 ≤ N) {x1 : Int32} {x2 : Int32} {x3 : Int32} {σ : zS} (hC : CI σ) (hR : RI σ) : Pt (f_X12_level N 218 x1 x2 x3 σ) (fun r => FR [220, 227] σ r.2) := pt_w (pt_ok (s_X12_level hN hC.1 hR.1.1 hR.2.1)) (fun r h => ⟨h.1.2, h.1.1.1 0 4 (by decide)⟩)

theorem tr_nth {N : Nat} (hN : 1048576 ≤ N) {x1 : Int32} {x2 : Int32} {σ : zS} (hC : CI σ) (hR : RI σ) : Pt (f_X12_nth N 218 x1 x2 σ) (fun r => FR [] σ r.2) := pt_w (pt_ok (s_X12_nth hN hC.1 hR.1.1 hR.2.1)) (fun r h => ⟨h.1.2, h.1.1.1 0 4 (by decide)⟩)

theorem tr_rank {N : Nat} (hN : 1048576 ≤ N) {x1 : Int32} {x2 : Int32} {σ : zS} (hC : CI σ) (hR : RI σ) : Pt (f_X12_rank_ N 218 x1 x2 σ) (fun r => FR [] σ r.2) := pt_w (pt_ok (s_X12_rank_ hN hC.1 hR.1.1 hR.2.1)) (fun r h => ⟨h.1.2, h.1.1.1 0 4 (by decide)⟩)

theorem tr_light {N : Nat} (hN : 1048576 ≤ N) {x1 : Int32} {x2 : Int32} {σ : zS} (hC : CI σ) (hR : RI σ) : Pt (f_X12_light N 218 x1 x2 σ) (fun r => FR [] σ r.2) := pt_w (pt_ok (s_X12_light hN hC.1 hR.1.1 hR.2.1)) (fun r h => ⟨h.1.2, h.1.1.1 0 4 (by decide)⟩)

theorem tr_weight {N : Nat} (hN : 1048576 ≤ N) {x1 : Int32} {σ : zS} (hC : CI σ) (hR : RI σ) : Pt (f_X12_weight N 218 x1 σ) (fun r => FR [] σ r.2 ∧ wtV (σ.1 219 0) (fun j => σ.1 219 (3 + j)) x1 r.1) := pt_and (pt_w (pt_ok (s_X12_weight hN hC.1 hR.1.1)) (fun r h => ⟨h.1.2, h.1.1.1 0 4 (by decide)⟩)) (vr_weight_ hC.1 (RI_n hR))

theorem tr_weigh {N : Nat} (hN : 1048576 ≤ N) {x1 : Int32} {x2 : Int32} {σ : zS} (hC : CI σ) (hR : RI σ) : Pt (f_X12_weigh N 218 x1 x2 σ) (fun r => FR [219] σ r.2 ∧ (wgOK (σ.1 219 0) x1 x2 → r.1 = σ.1 219 (3 + x1.toInt.toNat) ∧ r.2.1 219 = upd (σ.1 219) (3 + x1.toInt.toNat) x2) ∧ (¬ wgOK (σ.1 219 0) x1 x2 → r.1 = -2 ∧ r.2.1 219 = σ.1 219)) := pt_and (pt_w (pt_ok (s_X12_weigh hN hC.1 hR.1.1)) (fun r h => ⟨h.1.2, h.1.1.1 0 4 (by decide)⟩)) (vr_weigh_ hC.1 (RI_n hR))

theorem tr_weighs {N : Nat} (hN : 1048576 ≤ N) {x1 : Int32} {x2 : Int32} {σ : zS} (hC : CI σ) (hR : RI σ) : Pt (f_X12_weighs N 218 x1 x2 σ) (fun r => FR [] σ r.2) := pt_w (pt_ok (s_X12_weighs hN hC.1 hR.1.1 hR.2.1)) (fun r h => ⟨h.1.2, h.1.1.1 0 4 (by decide)⟩)

theorem tr_each {N : Nat} (hN : 1048576 ≤ N) {x1 : Int32} {x2 : Int32} {σ : zS} (hC : CI σ) (hR : RI σ) : Pt (f_X12_each N 218 x1 x2 σ) (fun r => FR [] σ r.2) := pt_w (pt_ok (s_X12_each hN hC.1 hR.1.1 hR.2.1)) (fun r h => ⟨h.1.2, h.1.1.1 0 4 (by decide)⟩)

theorem tr_names {N : Nat} (hN : 1048576 ≤ N) {x1 : Int32} {x2 : Int32} {σ : zS} (hC : CI σ) (hR : RI σ) : Pt (f_X12_names N 218 x1 x2 σ) (fun r => FR [] σ r.2) := pt_w (pt_ok (s_X12_names hN hC.1 hR.1.1 hR.2.1)) (fun r h => ⟨h.1.2, h.1.1.1 0 4 (by decide)⟩)

theorem tr_draw {N : Nat} (hN : 1048576 ≤ N) {x1 : Int32} {x2 : Int32} {σ : zS} (hC : CI σ) (hR : RI σ) : Pt (f_X12_draw N 218 x1 x2 σ) (fun r => FR [] σ r.2) := pt_w (pt_ok (s_X12_draw hN hC.1 hR.1.1 hR.2.1)) (fun r h => ⟨h.1.2, h.1.1.1 0 4 (by decide)⟩)

theorem tr_alike {N : Nat} (hN : 1048576 ≤ N) {x1 : Int32} {x2 : Int32} {σ : zS} (hC : CI σ) (hR : RI σ) : Pt (f_X12_alike N 218 x1 x2 σ) (fun r => FR [] σ r.2) := pt_w (pt_ok (s_X12_alike hN hC.1 hR.1.1 hR.2.1)) (fun r h => ⟨h.1.2, h.1.1.1 0 4 (by decide)⟩)

theorem tr_differ {N : Nat} (hN : 1048576 ≤ N) {x1 : Int32} {x2 : Int32} {σ : zS} (hC : CI σ) (hR : RI σ) : Pt (f_X12_differ N 218 x1 x2 σ) (fun r => FR [] σ r.2) := pt_w (pt_ok (s_X12_differ hN hC.1 hR.1.1 hR.2.1)) (fun r h => ⟨h.1.2, h.1.1.1 0 4 (by decide)⟩)

theorem tr_within {N : Nat} (hN : 1048576 ≤ N) {x1 : Int32} {x2 : Int32} {σ : zS} (hC : CI σ) (hR : RI σ) : Pt (f_X12_within N 218 x1 x2 σ) (fun r => FR [] σ r.2) := pt_w (pt_ok (s_X12_within hN hC.1 hR.1.1 hR.2.1)) (fun r h => ⟨h.1.2, h.1.1.1 0 4 (by decide)⟩)

theorem tr_dual {N : Nat} (hN : 1048576 ≤ N) {x1 : Int32} {x2 : Int32} {σ : zS} (hC : CI σ) (hR : RI σ) : Pt (f_X12_dual N 218 x1 x2 σ) (fun r => FR [218, 227, 228] σ r.2) := pt_w (pt_ok (s_X12_dual hN hC.1 hR.1.1 hR.2.1)) (fun r h => ⟨h.1.2, h.1.1.1 0 4 (by decide)⟩)

theorem tr_apart {N : Nat} (hN : 1048576 ≤ N) {x1 : Int32} {x2 : Int32} {σ : zS} (hC : CI σ) (hR : RI σ) : Pt (f_X12_apart N 218 x1 x2 σ) (fun r => FR [] σ r.2) := pt_w (pt_ok (s_X12_apart hN hC.1 hR.1.1 hR.2.1)) (fun r h => ⟨h.1.2, h.1.1.1 0 4 (by decide)⟩)

theorem tr_packs {N : Nat} (hN : 1048576 ≤ N) {x1 : Int32} {x2 : Int32} {σ : zS} (hC : CI σ) (hR : RI σ) : Pt (f_X12_packs N 218 x1 x2 σ) (fun r => FR [233] σ r.2) := pt_w (pt_ok (s_X12_packs hN hC.1 hR.1.1 hR.2.1)) (fun r h => ⟨h.1.2, h.1.1.1 0 4 (by decide)⟩)

theorem tr_nodes {N : Nat} (hN : 1048576 ≤ N) {x1 : Int32} {σ : zS} (hC : CI σ) (hR : RI σ) : Pt (f_X12_nodes N 218 x1 σ) (fun r => FR [218, 234, 235, 236] σ r.2) := pt_w (pt_ok (s_X12_nodes hN hC.1 hR.1.1 hR.2.1)) (fun r h => ⟨h.1.2, h.1.1.1 0 4 (by decide)⟩)

theorem tr_net {N : Nat} (hN : 1048576 ≤ N)  {σ : zS} (hC : CI σ) (hR : RI σ) : Pt (f_X12_net N 218 σ) (fun r => FR [218, 234, 235, 236] σ r.2) := pt_w (pt_ok (s_X12_net hN hC.1 hR.1.1 hR.2.1)) (fun r h => ⟨h.1.2, h.1.1.1 0 4 (by decide)⟩)

theorem tr_wide {N : Nat} (hN : 1048576 ≤ N) {x1 : Int32} {x2 : Int32} {σ : zS} (hC : CI σ) (hR : RI σ) : Pt (f_X12_wide N 218 x1 x2 σ) (fun r => FR [218, 234, 235, 236] σ r.2) := pt_w (pt_ok (s_X12_wide hN hC.1 hR.1.1 hR.2.1)) (fun r h => ⟨h.1.2, h.1.1.1 0 4 (by decide)⟩)

theorem tr_order {N : Nat} (hN : 1048576 ≤ N) {x1 : Int32} {σ : zS} (hC : CI σ) (hR : RI σ) : Pt (f_X12_order N 218 x1 σ) (fun r => FR [] σ r.2) := pt_w (pt_ok (s_X12_order hN hC.1 hR.1.1)) (fun r h => ⟨h.1.2, h.1.1.1 0 4 (by decide)⟩)

theorem tr_swap {N : Nat} (hN : 1048576 ≤ N) {x1 : Int32} {σ : zS} (hC : CI σ) (hR : RI σ) : Pt (f_X12_swap N 218 x1 σ) (fun r => FR [218, 219, 234, 235, 236] σ r.2 ∧ B33 (σ.1 219) (r.2.1 219)) := pt_and (pt_w (pt_ok (s_X12_swap hN hC.1 hR.1.1 hR.2.1)) (fun r h => ⟨h.1.2, h.1.1.1 0 4 (by decide)⟩)) (vr_swap_ hN hC.1 hR.1.1 hR.2.1)

theorem tr_move {N : Nat} (hN : 1048576 ≤ N) {x1 : Int32} {x2 : Int32} {σ : zS} (hC : CI σ) (hR : RI σ) : Pt (f_X12_move N 218 x1 x2 σ) (fun r => FR [219] σ r.2 ∧ B33 (σ.1 219) (r.2.1 219)) := pt_and (pt_w (pt_ok (s_X12_move hN hC.1 hR.1.1)) (fun r h => ⟨h.1.2, h.1.1.1 0 4 (by decide)⟩)) (vr_move_ hN hC.1 hR.1.1)

theorem tr_best {N : Nat} (hN : 1048576 ≤ N) {x1 : Int32} {x2 : Int32} {σ : zS} (hC : CI σ) (hR : RI σ) : Pt (f_X12_best N 218 x1 x2 σ) (fun r => FR [218, 234, 235, 236, 237] σ r.2) := pt_w (pt_ok (s_X12_best hN hC.1 hR.1.1 hR.2.1)) (fun r h => ⟨h.1.2, h.1.1.1 0 4 (by decide)⟩)

theorem tr_sift {N : Nat} (hN : 1048576 ≤ N) {x1 : Int32} {σ : zS} (hC : CI σ) (hR : RI σ) : Pt (f_X12_sift N 218 x1 σ) (fun r => FR [218, 219, 234, 235, 236] σ r.2 ∧ B33 (σ.1 219) (r.2.1 219)) := pt_and (pt_w (pt_ok (s_X12_sift hN hC.1 hR.1.1 hR.2.1)) (fun r h => ⟨h.1.2, h.1.1.1 0 4 (by decide)⟩)) (vr_sift_ hN hC.1 hR.1.1 hR.2.1)

theorem tr_ways {N : Nat} (hN : 1048576 ≤ N) {x1 : Int32} {x2 : Int32} {x3 : Int32} {σ : zS} (hC : CI σ) (hR : RI σ) : Pt (f_X12_ways N 218 x1 x2 x3 σ) (fun r => FR [220, 227, 238] σ r.2) := pt_w (pt_ok (s_X12_ways hN hC.1 hR.1.1 hR.2.1)) (fun r h => ⟨h.1.2, h.1.1.1 0 4 (by decide)⟩)

theorem tr_map {N : Nat} (hN : 1048576 ≤ N) {x1 : Int32} {x2 : Int32} {σ : zS} (hC : CI σ) (hR : RI σ) : Pt (f_X12_map N 218 x1 x2 σ) (fun r => FR [220, 227, 238] σ r.2) := pt_w (pt_ok (s_X12_map hN hC.1 hR.1.1 hR.2.1)) (fun r h => ⟨h.1.2, h.1.1.1 0 4 (by decide)⟩)

theorem tr_cuts {N : Nat} (hN : 1048576 ≤ N) {x1 : Int32} {x2 : Int32} {x3 : Int32} {σ : zS} (hC : CI σ) (hR : RI σ) : Pt (f_X12_cuts N 218 x1 x2 x3 σ) (fun r => FR [218, 220, 227, 228, 229, 238] σ r.2) := pt_w (pt_ok (s_X12_cuts hN hC.1 hR.1.1 hR.2.1)) (fun r h => ⟨h.1.2, h.1.1.1 0 4 (by decide)⟩)

theorem tr_judge {N : Nat} (hN : 1048576 ≤ N) {x1 : Int32} {x2 : Int32} {σ : zS} (hC : CI σ) (hR : RI σ) : Pt (f_X12_judge N 218 x1 x2 σ) (fun r => FR [] σ r.2) := pt_w (pt_ok (s_X12_judge hN hC.1 hR.1.1 hR.2.1 hR.1.2.2)) (fun r h => ⟨h.1.2, h.1.1.1 0 4 (by decide)⟩)

theorem tr_takes {N : Nat} (hN : 1048576 ≤ N) {x1 : Int32} {x2 : Int32} {σ : zS} (hC : CI σ) (hR : RI σ) : Pt (f_X12_takes_ N 218 x1 x2 σ) (fun r => FR [220, 227] σ r.2) := pt_w (pt_ok (s_X12_takes_ hN hC.1 hR.1.1 hR.2.1 hR.1.2.2)) (fun r h => ⟨h.1.2, h.1.1.1 0 4 (by decide)⟩)

theorem tr_count {N : Nat} (hN : 1048576 ≤ N) {x1 : Int32} {σ : zS} (hC : CI σ) (hR : RI σ) : Pt (f_X12_count N 218 x1 σ) (fun r => FR [] σ r.2) := pt_w (pt_ok (s_X12_count hN hC.1 hR.1.1 hR.2.1)) (fun r h => ⟨h.1.2, h.1.1.1 0 4 (by decide)⟩)

theorem tr_row {N : Nat} (hN : 1048576 ≤ N) {x1 : Int32} {x2 : Int32} {x3 : Int32} {σ : zS} (hC : CI σ) (hR : RI σ) : Pt (f_X12_row N 218 x1 x2 x3 σ) (fun r => FR [239, 240] σ r.2) := pt_w (pt_ok (s_X12_row hN hC.1 hR.1.2.2)) (fun r h => ⟨h.1.2, h.1.1.1 0 4 (by decide)⟩)

theorem tr_write {N : Nat} (hN : 1048576 ≤ N) {x1 : Int32} {x2 : Int32} {x3 : Int64} {σ : zS} (hC : CI σ) (hR : RI σ) : Pt (f_X12_write N 218 x1 x2 x3 σ) (fun r => FR [] σ r.2) := pt_w (pt_ok (s_X12_write hN hC.1 hR.1.2.2)) (fun r h => ⟨h.1.2, h.1.1.1 0 4 (by decide)⟩)

theorem tr_paste {N : Nat} (hN : 1048576 ≤ N) {x1 : Int32} {x2 : Int32} {x3 : Int32} {x4 : Int32} {x5 : Int32} {σ : zS} (hC : CI σ) (hR : RI σ) : Pt (f_X12_paste N 218 x1 x2 x3 x4 x5 σ) (fun r => FR [] σ r.2) := pt_w (pt_ok (s_X12_paste hN hC.1 hR.1.2.2)) (fun r h => ⟨h.1.2, h.1.1.1 0 4 (by decide)⟩)

theorem tr_world {N : Nat} (hN : 1048576 ≤ N)  {σ : zS} (hC : CI σ) (hR : RI σ) : Pt (f_X12_world N 218 σ) (fun r => FR [218, 219, 220, 226, 227, 228, 229, 230, 231, 232] σ r.2) := pt_w (pt_ok (s_X12_world hN hC.1 hR.1.1 hR.2.1 hR.2.2.1 hR.2.2.2)) (fun r h => ⟨h.1.2, h.1.1.1 0 4 (by decide)⟩)

theorem tr_keep {N : Nat} (hN : 1048576 ≤ N) {x1 : Int32} {σ : zS} (hC : CI σ) (hR : RI σ) : Pt (f_X12_keep N 218 x1 σ) (fun r => FR [221, 222, 223] σ r.2 ∧ (0 ≤ x1.toInt ∧ x1.toInt ≤ 2 → (∀ j, j < 43 → r.2.1 221 (43 * x1.toInt.toNat + j) = σ.1 219 j) ∧ ∀ k, (k < 43 * x1.toInt.toNat ∨ 43 * x1.toInt.toNat + 43 ≤ k) → r.2.1 221 k = σ.1 221 k) ∧ (¬ (0 ≤ x1.toInt ∧ x1.toInt ≤ 2) → r.2.1 = σ.1)) := pt_and (pt_w (pt_ok (s_X12_keep hN hC.1 hR.1.1 hR.2.1 hR.1.2.1)) (fun r h => ⟨h.1.2, h.1.1.1 0 4 (by decide)⟩)) (vr_keep_ hC.1)

theorem tr_back {N : Nat} (hN : 1048576 ≤ N) {x1 : Int32} {σ : zS} (hC : CI σ) (hR : RI σ) : Pt (f_X12_back N 218 x1 σ) (fun r => FR [219, 220] σ r.2 ∧ ((0 ≤ x1.toInt ∧ x1.toInt ≤ 2) ∧ ¬ σ.1 223 x1.toInt.toNat = 0 → ∀ j, j < 43 → r.2.1 219 j = σ.1 221 (43 * x1.toInt.toNat + j)) ∧ (¬ ((0 ≤ x1.toInt ∧ x1.toInt ≤ 2) ∧ ¬ σ.1 223 x1.toInt.toNat = 0) → r.2.1 = σ.1)) := pt_and (pt_w (pt_ok (s_X12_back hN hC.1 hR.1.1 hR.2.1 hR.1.2.1)) (fun r h => ⟨h.1.2, h.1.1.1 0 4 (by decide)⟩)) (vr_back_ hC.1)

theorem sim_weigh {x1 x2 v w : Int32} {σ σ1 σ2 : zS} (hI : IV σ) (hW : WQ σ) (h1 : FR [5, 31] σ σ1 ∧ (wgOK (σ.1 (σ.2.2 0 4) 0) x1 x2 → v = σ.1 ((σ.2.2 0 4) + 3) x1.toInt.toNat ∧ σ1.1 ((σ.2.2 0 4) + 3) = upd (σ.1 ((σ.2.2 0 4) + 3)) x1.toInt.toNat x2) ∧ (¬ wgOK (σ.1 (σ.2.2 0 4) 0) x1 x2 → v = -2 ∧ σ1.1 ((σ.2.2 0 4) + 3) = σ.1 ((σ.2.2 0 4) + 3))) (h2 : FR [219] σ1 σ2 ∧ (wgOK (σ1.1 219 0) x1 x2 → w = σ1.1 219 (3 + x1.toInt.toNat) ∧ σ2.1 219 = upd (σ1.1 219) (3 + x1.toInt.toNat) x2) ∧ (¬ wgOK (σ1.1 219 0) x1 x2 → w = -2 ∧ σ2.1 219 = σ1.1 219)) : WQ σ2 ∧ v = w := by
  have h4 := IV_4 hI
  have n10 := CF_n hI rfl
  obtain ⟨f1, t1, n1⟩ := h1
  obtain ⟨f2, t2, n2⟩ := h2
  have e9 : σ1.1 219 = σ.1 219 := f1.1 219 (by decide)
  rw [e9] at t2 n2
  have e0 : σ.1 (σ.2.2 0 4) 0 = σ.1 219 0 := hW.1.1.1
  have fr : ∀ k, k ∉ [5, 31, 219] → σ2.1 k = σ.1 k := fun k hk => by
    simp only [List.mem_cons, List.not_mem_nil, or_false, not_or] at hk
    rw [f2.1 k (by simp only [List.mem_cons, List.not_mem_nil, or_false]; omega), f1.1 k (by simp only [List.mem_cons, List.not_mem_nil, or_false]; omega)]
  have im : ∀ k, k < 3 → WE σ2.1 (132 + 26 * k) (fun j => σ2.1 221 (43 * k + j)) := fun k hk => by
    rw [fr 221 (by decide)]
    exact WE_e ((IV_10 hI).2 k hk) (fun a ha => fr _ (by simp only [List.mem_cons, List.not_mem_nil, or_false]; omega)) (fun _ _ => rfl) (hW.2 k hk)
  have r4 : σ2.2.2 0 4 = (σ.2.2 0 4) := f2.2.trans f1.2
  have o0 : σ2.1 (σ.2.2 0 4) = σ.1 (σ.2.2 0 4) := fr _ (by simp only [List.mem_cons, List.not_mem_nil, or_false]; omega)
  have o1 : σ2.1 ((σ.2.2 0 4) + 1) = σ.1 ((σ.2.2 0 4) + 1) := fr _ (by simp only [List.mem_cons, List.not_mem_nil, or_false]; omega)
  have o2 : σ2.1 ((σ.2.2 0 4) + 2) = σ.1 ((σ.2.2 0 4) + 2) := fr _ (by simp only [List.mem_cons, List.not_mem_nil, or_false]; omega)
  have o3 : σ2.1 ((σ.2.2 0 4) + 3) = σ1.1 ((σ.2.2 0 4) + 3) := f2.1 _ (by simp only [List.mem_cons, List.not_mem_nil, or_false]; omega)
  by_cases q : wgOK (σ.1 (σ.2.2 0 4) 0) x1 x2
  · have a := t1 q
    have b := t2 (by rw [← e0]; exact q)
    have nz : ¬ σ.1 219 0 = 0 := fun z => by have := q.1; rw [e0, z] at this; simp only [Int32.reduceToInt] at this; omega
    have hx : 0 ≤ x1.toInt ∧ x1.toInt < 10 := by have := q.1; omega
    refine ⟨⟨?_, im⟩, ?_⟩
    · rw [r4, b.2]
      exact WE_w hx o0 o1 o2 (o3.trans a.2) hW.1
    · rw [a.1, b.1]; exact (hW.1.2 nz).1 _ (by omega)
  · have a := n1 q
    have b := n2 (by rw [← e0]; exact q)
    refine ⟨⟨?_, im⟩, by rw [a.1, b.1]⟩
    rw [r4, b.2]
    exact WE_e (IV_10 hI).1 (fun c hc => by
      rcases (show c = 0 ∨ c = 1 ∨ c = 2 ∨ c = 3 by omega) with rfl | rfl | rfl | rfl
      · exact o0
      · exact o1
      · exact o2
      · exact o3.trans a.2) (fun _ _ => rfl) hW.1
theorem eq_weight {x1 v w : Int32} {σ σ1 σ2 : zS} (hI : IV σ) (hW : WQ σ) (h1 : FR [] σ σ1 ∧ wtV (σ.1 (σ.2.2 0 4) 0) (σ.1 ((σ.2.2 0 4) + 3)) x1 v) (h2 : FR [] σ1 σ2 ∧ wtV (σ1.1 219 0) (fun j => σ1.1 219 (3 + j)) x1 w) : v = w := by
  have e9 : σ1.1 219 = σ.1 219 := h1.1.1 219 (by decide)
  have b := h2.2
  rw [e9, ← show σ.1 (σ.2.2 0 4) 0 = σ.1 219 0 from hW.1.1.1] at b
  refine wtV_eq h1.2 b (CF_n hI rfl).2 (fun nz j hj => (hW.1.2 ?_).1 j hj)
  rw [← show σ.1 (σ.2.2 0 4) 0 = σ.1 219 0 from hW.1.1.1]
  exact nz
theorem sim_keep {x1 : Int32} {σ σ1 σ2 : zS} (hI : IV σ) (hW : WQ σ) (h1 : σ1.2.2 = σ.2.2 ∧ (0 ≤ x1.toInt ∧ x1.toInt ≤ 2 → CPY σ.1 σ1.1 (132 + 26 * x1.toInt.toNat) (σ.2.2 0 4) ∧ ∀ k, (k < 132 + 26 * x1.toInt.toNat ∨ 132 + 26 * x1.toInt.toNat + 4 < k) → k ≠ 55 → σ1.1 k = σ.1 k) ∧ (¬ (0 ≤ x1.toInt ∧ x1.toInt ≤ 2) → σ1.1 = σ.1)) (h2 : FR [221, 222, 223] σ1 σ2 ∧ (0 ≤ x1.toInt ∧ x1.toInt ≤ 2 → (∀ j, j < 43 → σ2.1 221 (43 * x1.toInt.toNat + j) = σ1.1 219 j) ∧ ∀ k, (k < 43 * x1.toInt.toNat ∨ 43 * x1.toInt.toNat + 43 ≤ k) → σ2.1 221 k = σ1.1 221 k) ∧ (¬ (0 ≤ x1.toInt ∧ x1.toInt ≤ 2) → σ2.1 = σ1.1)) : WQ σ2 := by
  have h4 := IV_4 hI
  obtain ⟨r1, t1, n1⟩ := h1
  obtain ⟨f2, t2, n2⟩ := h2
  have r4 : σ2.2.2 0 4 = (σ.2.2 0 4) := f2.2.trans (by rw [r1])
  by_cases q : 0 ≤ x1.toInt ∧ x1.toInt ≤ 2
  · obtain ⟨c1, o1⟩ := t1 q
    obtain ⟨c2, k2⟩ := t2 q
    have e2 : ∀ k, k < 218 → σ2.1 k = σ1.1 k := fun k hk => f2.1 k (by simp only [List.mem_cons, List.not_mem_nil, or_false]; omega)
    have e9 : σ1.1 219 = σ.1 219 := o1 219 (by omega) (by decide)
    have e21 : σ1.1 221 = σ.1 221 := o1 221 (by omega) (by decide)
    rw [e9] at c2
    rw [e21] at k2
    refine ⟨?_, fun k hk => ?_⟩
    · rw [r4, f2.1 219 (by decide), e9]
      exact WE_e (IV_10 hI).1 (fun a ha => by rw [e2 _ (by omega), o1 _ (by omega) (by omega)]) (fun _ _ => rfl) hW.1
    · by_cases e : k = x1.toInt.toNat
      · subst e
        have c1' : CPY σ.1 σ2.1 (132 + 26 * x1.toInt.toNat) (σ.2.2 0 4) := by
          unfold CPY at c1 ⊢
          rw [e2 (132 + 26 * x1.toInt.toNat) (by omega)]
          exact ⟨c1.1, fun a l1 l4 j hj => by rw [e2 _ (by omega)]; exact c1.2 a l1 l4 j hj⟩
        exact WE_cp (IV_10 hI).1 c1' c2 hW.1
      · refine WE_e ((IV_10 hI).2 k hk) (fun a ha => by rw [e2 _ (by omega), o1 _ (by omega) (by omega)]) (fun j hj => ?_) (hW.2 k hk)
        exact k2 _ (by omega)
  · refine ⟨?_, fun k hk => ?_⟩
    · rw [r4, n2 q, n1 q]; exact hW.1
    · rw [n2 q, n1 q]; exact hW.2 k hk
theorem sim_back {x1 : Int32} {σ σ1 σ2 : zS} (hI : IV σ) (hW : WQ σ) (h1 : σ1.2.2 = σ.2.2 ∧ ((0 ≤ x1.toInt ∧ x1.toInt ≤ 2) ∧ ¬ σ.1 55 x1.toInt.toNat = 0 → CPY σ.1 σ1.1 (σ.2.2 0 4) (132 + 26 * x1.toInt.toNat) ∧ ∀ k, (k < (σ.2.2 0 4) ∨ (σ.2.2 0 4) + 4 < k) → σ1.1 k = σ.1 k) ∧ (¬ ((0 ≤ x1.toInt ∧ x1.toInt ≤ 2) ∧ ¬ σ.1 55 x1.toInt.toNat = 0) → σ1.1 = σ.1)) (h2 : FR [219, 220] σ1 σ2 ∧ ((0 ≤ x1.toInt ∧ x1.toInt ≤ 2) ∧ ¬ σ1.1 223 x1.toInt.toNat = 0 → ∀ j, j < 43 → σ2.1 219 j = σ1.1 221 (43 * x1.toInt.toNat + j)) ∧ (¬ ((0 ≤ x1.toInt ∧ x1.toInt ≤ 2) ∧ ¬ σ1.1 223 x1.toInt.toNat = 0) → σ2.1 = σ1.1)) : WQ σ2 := by
  have h4 := IV_4 hI
  obtain ⟨r1, t1, n1⟩ := h1
  obtain ⟨f2, t2, n2⟩ := h2
  have r4 : σ2.2.2 0 4 = (σ.2.2 0 4) := f2.2.trans (by rw [r1])
  have e5 : (0 ≤ x1.toInt ∧ x1.toInt ≤ 2) → σ.1 55 x1.toInt.toNat = σ.1 223 x1.toInt.toNat := fun q => hI.2.2.1 _ (by omega)
  by_cases q : (0 ≤ x1.toInt ∧ x1.toInt ≤ 2) ∧ ¬ σ.1 55 x1.toInt.toNat = 0
  · obtain ⟨c1, o1⟩ := t1 q
    have e23 : σ1.1 223 = σ.1 223 := o1 223 (by omega)
    have e21 : σ1.1 221 = σ.1 221 := o1 221 (by omega)
    have c2 := t2 ⟨q.1, by rw [e23, ← e5 q.1]; exact q.2⟩
    rw [e21] at c2
    have e2 : ∀ k, k < 218 → σ2.1 k = σ1.1 k := fun k hk => f2.1 k (by simp only [List.mem_cons, List.not_mem_nil, or_false]; omega)
    refine ⟨?_, fun k hk => ?_⟩
    · rw [r4]
      have c1' : CPY σ.1 σ2.1 (σ.2.2 0 4) (132 + 26 * x1.toInt.toNat) := by
        unfold CPY at c1 ⊢
        rw [e2 (σ.2.2 0 4) (by omega)]
        exact ⟨c1.1, fun a l1 l4 j hj => by rw [e2 _ (by omega)]; exact c1.2 a l1 l4 j hj⟩
      exact WE_cp (g := fun j => σ.1 221 (43 * x1.toInt.toNat + j)) ((IV_10 hI).2 _ (by omega)) c1' c2 (hW.2 _ (by omega))
    · rw [f2.1 221 (by decide), e21]
      exact WE_e ((IV_10 hI).2 k hk) (fun a ha => by rw [e2 _ (by omega), o1 _ (by omega)]) (fun _ _ => rfl) (hW.2 k hk)
  · have e1 := n1 q
    have e2 := n2 (fun z => q ⟨z.1, by rw [e5 z.1, ← e1]; exact z.2⟩)
    refine ⟨?_, fun k hk => ?_⟩
    · rw [r4, e2, e1]; exact hW.1
    · rw [e2, e1]; exact hW.2 k hk
theorem sim_world {v w : Int32} {σ σ1 σ2 : zS} (hI : IV σ) (hW : WQ σ) (h1 : (CI σ1 ∧ RI σ1) ∧ FC [0, 2, 3, 4, 5, 6, 28, 29, 30, 31, 32, 57, 58, 59, 61, 62, 63, 64, 65, 106, 107] σ σ1 ∧ σ1.1 0 1 = 0 ∧ ∀ G : Nat → Int32, (∀ j, j < 43 → G j = 0) → CXQ (σ.1 1) (σ.1 0 1).toInt.toNat (σ.2.2 0 5) σ G (v, σ1)) (h2 : (CI σ2 ∧ RI σ2) ∧ FC [218, 219, 220, 226, 227, 228, 229, 230, 231, 232] σ1 σ2 ∧ σ2.1 218 7 = 0 ∧ ∃ G, (∀ j, j < 43 → G j = 0) ∧ RWQ (σ1.1 224) (σ1.1 218 7).toInt.toNat G (σ1.1 219) (w, σ2)) (f2 : FR [218, 219, 220, 226, 227, 228, 229, 230, 231, 232] σ1 σ2) : WQ σ2 := by
  have h4 := hI.1.1.2.2
  have e9 : σ1.1 219 = σ.1 219 := h1.2.1 219 (by decide)
  have e21 : σ2.1 221 = σ.1 221 := (f2.1 221 (by decide)).trans (h1.2.1 221 (by decide))
  have e2 : ∀ k, k < 218 → σ2.1 k = σ1.1 k := fun k hk => f2.1 k (by simp only [List.mem_cons, List.not_mem_nil, or_false]; omega)
  have im : ∀ k, k < 3 → WE σ2.1 (132 + 26 * k) (fun j => σ2.1 221 (43 * k + j)) := fun k hk => by
    rw [e21]
    exact WE_e ((IV_10 hI).2 k hk) (fun a ha => by rw [e2 _ (by omega), h1.2.1 _ (by simp only [List.mem_cons, List.not_mem_nil, or_false]; omega)]) (fun _ _ => rfl) (hW.2 k hk)
  refine ⟨?_, im⟩
  rw [f2.2]
  obtain ⟨G, hG, hr⟩ := h2.2.2.2
  have hc := h1.2.2.2 G hG
  rw [h1.2.1 218 (by decide), h1.2.1 224 (by decide), ← hI.2.1, ← hI.2.2.2.2, e9] at hr
  rcases hc with ⟨⟨v4, r4, o4⟩, d, rc, sn⟩ | ⟨r4, d, ⟨rc, se⟩, ⟨ev, hL⟩, hWP⟩
  · rcases hr with ⟨w4, e219, _⟩ | ⟨d', ⟨rc', se'⟩, _⟩
    · have r4 : σ1.2.2 0 4 = (σ.2.2 0 4) := r4
      have o4 : ∀ k, 1 < k → k < 57 → (k < σ.2.2 0 5 ∨ σ.2.2 0 5 + 4 < k) → σ1.1 k = σ.1 k := o4
      have e219 : σ2.1 219 = σ.1 219 := e219
      rw [r4, e219]
      exact WE_e (IV_10 hI).1 (fun a ha => by rw [e2 _ (by omega), o4 _ (by omega) (by omega) (by omega)]) (fun _ _ => rfl) hW.1
    · have u : d = d' := rc.un rc' (fun x k => by rw [sn] at k; cases k) (fun x k => by rw [se'] at k; cases k)
      rw [u, se'] at sn; cases sn
  · rcases hr with ⟨_, _, d', rc', sn'⟩ | ⟨d', ⟨rc', se'⟩, _, e219⟩
    · have u : d = d' := rc.un rc' (fun x k => by rw [se] at k; cases k) (fun x k => by rw [sn'] at k; cases k)
      rw [u, sn'] at se; cases se
    · have u : d = d' := rc.un rc' (fun x k => by rw [se] at k; cases k) (fun x k => by rw [se'] at k; cases k)
      have r4 : σ1.2.2 0 4 = σ.2.2 0 5 := r4
      have e219 : ∀ j, j < 43 → σ2.1 219 j = d'.2.1 j := e219
      have hWP : WP σ1.1 (σ.2.2 0 5) d.2.1 := hWP
      rw [r4]
      have e5 : ∀ a, a ≤ 4 → σ2.1 (σ.2.2 0 5 + a) = σ1.1 (σ.2.2 0 5 + a) := fun a ha => e2 _ (by omega)
      have e50 := e5 0 (by decide)
      rw [Nat.add_zero] at e50
      have hWP2 : WP σ2.1 (σ.2.2 0 5) d.2.1 := by
        unfold WP WB at hWP ⊢
        rw [e50, e5 1 (by decide), e5 2 (by decide), e5 3 (by decide), e5 4 (by decide)]; exact hWP
      exact WE_wp hL hWP2 (by rw [u]; exact e219)
theorem WQ_0 : WQ zs00 := by
  refine ⟨?_, fun k hk => ?_⟩
  · refine ⟨⟨?_, ?_, ?_⟩, fun q => absurd (zs_0 (k := 219) (by decide) 0) q⟩
    · exact (zs_0 (k := 2) (by decide) 0).trans (zs_0 (k := 219) (by decide) 0).symm
    · exact (zs_0 (k := 2) (by decide) 1).trans (zs_0 (k := 219) (by decide) 1).symm
    · exact (zs_0 (k := 2) (by decide) 2).trans (zs_0 (k := 219) (by decide) 2).symm
  · have z : ∀ j, zs00.1 (132 + 26 * k) j = 0 := fun j => zs_0 (by simp only [List.mem_cons, List.not_mem_nil, or_false]; omega) j
    have y : ∀ j, zs00.1 221 j = 0 := fun j => zs_0 (by decide) j
    refine ⟨⟨?_, ?_, ?_⟩, fun q => absurd (y _) q⟩
    · exact (z _).trans (y _).symm
    · exact (z _).trans (y _).symm
    · exact (z _).trans (y _).symm

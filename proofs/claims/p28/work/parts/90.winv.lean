/-- the class's own: its references, its numbers, which world is now -/
def CI (σ : zS) : Prop := RF σ.2.2 ∧ CF σ.1 ∧ ((σ.2.2 0 4 = 2 ∧ σ.2.2 0 5 = 28) ∨ (σ.2.2 0 4 = 28 ∧ σ.2.2 0 5 = 2))
/-- the reference's own -/
def RI (σ : zS) : Prop := (MW (σ.1 219) 0 ∧ MI (σ.1 221) ∧ MS (σ.1 239)) ∧ ZB σ.1 ∧ (0 ≤ (σ.1 218 7).toInt ∧ (σ.1 218 7).toInt ≤ 600) ∧ BYT (σ.1 224)
theorem CI_c {S : List Nat} {σ τ : zS} (h : CI σ) (hT : Tr S σ τ) (hC : CF τ.1) : CI τ := by
  refine ⟨h.1.tr hT, hC, ?_⟩
  rw [hT.1.1 0 4 (by decide), hT.1.1 0 5 (by decide)]
  exact h.2.2
theorem RI_e {σ τ : zS} (e : ∀ k, 218 ≤ k → τ.1 k = σ.1 k) (hB : ZB τ.1) (h : RI σ) : RI τ := by
  unfold RI at h ⊢
  rw [e 219 (by decide), e 221 (by decide), e 239 (by decide), e 218 (by decide), e 224 (by decide)]
  exact ⟨h.1, hB, h.2.2⟩
theorem hiS {S : List Nat} (hs : ∀ k ∈ S, k < 218) : ∀ k, 218 ≤ k → k ∉ S := fun k hk q => absurd (hs k q) (by omega)
theorem RI_c {S : List Nat} {σ τ : zS} (hT : Tr S σ τ) (hs : ∀ k ∈ S, k < 218) (h55 : 55 ∉ S) (h : RI σ) : RI τ := by
  refine RI_e (fun k hk => hT.2 k (hiS hs k hk)) (ZB.tr hT (fun k hk => ?_) h.2.1) h
  simp only [List.mem_cons, List.not_mem_nil, or_false] at hk
  rcases hk with rfl | rfl | rfl | rfl | rfl | rfl | rfl | rfl | rfl | rfl | rfl
  · exact h55
  all_goals exact hiS hs _ (by decide)
theorem CF_e {s s' : Nat → Nat → Int32} (e : ∀ k, k < 218 → s' k = s k) (h : CF s) : CF s' := by
  unfold CF at h ⊢
  unfold WI SI RD at h ⊢
  rw [e 2 (by decide), e (2 + 1) (by decide), e (2 + 2) (by decide), e 28 (by decide), e (28 + 1) (by decide), e (28 + 2) (by decide), e 132 (by decide), e (132 + 1) (by decide), e (132 + 2) (by decide), e 158 (by decide), e (158 + 1) (by decide), e (158 + 2) (by decide), e 184 (by decide), e (184 + 1) (by decide), e (184 + 2) (by decide), e 57 (by decide), e 61 (by decide), e 63 (by decide), e 64 (by decide), e 111 (by decide), e 0 (by decide)]
  refine ⟨h.1, h.2.1, h.2.2.1, h.2.2.2.1, h.2.2.2.2.1, fun k hk => ?_, h.2.2.2.2.2.2⟩
  have hl : k < 218 := by rcases zslm k (zKd_lt hk (by decide)) hk with rfl | rfl | rfl | rfl <;> decide
  rw [e k hl]; exact h.2.2.2.2.2.1 k hk
theorem CI_r {S : List Nat} {σ τ : zS} (hT : Tr S σ τ) (hs : ∀ k ∈ S, 218 ≤ k) (h : CI σ) : CI τ :=
  CI_c h hT (CF_e (fun k hk => hT.2 k (fun q => absurd (hs k q) (by omega))) h.2.1)
theorem RI_r {S : List Nat} {σ τ : zS} (h : RI σ) (hT : Tr S σ τ) (hM : MW (τ.1 219) 0 ∨ 219 ∉ S) (hI : MI (τ.1 221) ∨ 221 ∉ S) (hS : MS (τ.1 239) ∨ 239 ∉ S) (hB : ZB τ.1) (ht : (0 ≤ (τ.1 218 7).toInt ∧ (τ.1 218 7).toInt ≤ 600) ∨ τ.1 218 7 = σ.1 218 7) (hY : BYT (τ.1 224) ∨ 224 ∉ S) : RI τ := by
  refine ⟨⟨?_, ?_, ?_⟩, hB, ?_, ?_⟩
  · rcases hM with q | q
    · exact q
    · rw [hT.2 219 q]; exact h.1.1
  · rcases hI with q | q
    · exact q
    · rw [hT.2 221 q]; exact h.1.2.1
  · rcases hS with q | q
    · exact q
    · rw [hT.2 239 q]; exact h.1.2.2
  · rcases ht with q | q
    · exact q
    · rw [q]; exact h.2.2.1
  · rcases hY with q | q
    · exact q
    · rw [hT.2 224 q]; exact h.2.2.2
theorem zi_z {k : Nat} (h : k ∉ [0, 57, 111, 210, 212, 214, 216, 218, 239]) : zi0 k = fun _ => 0 := by
  simp only [List.mem_cons, List.not_mem_nil, or_false, not_or] at h
  unfold zi0
  simp only [h.1, h.2.1, h.2.2.1, h.2.2.2.1, h.2.2.2.2.1, h.2.2.2.2.2.1, h.2.2.2.2.2.2.1, h.2.2.2.2.2.2.2.1, h.2.2.2.2.2.2.2.2, if_false]
theorem zi_0 {k : Nat} (h : k ∉ [0, 57, 111, 210, 212, 214, 216, 218, 239]) (j : Nat) : zi0 k j = 0 := by rw [zi_z h]
theorem zs_0 {k : Nat} (h : k ∉ [0, 57, 111, 210, 212, 214, 216, 218, 239]) (j : Nat) : zs00.1 k j = 0 := zi_0 h j
theorem WI_0 {B : Nat} (h0 : B ∉ [0, 57, 111, 210, 212, 214, 216, 218, 239]) (h1 : B + 1 ∉ [0, 57, 111, 210, 212, 214, 216, 218, 239]) (h2 : B + 2 ∉ [0, 57, 111, 210, 212, 214, 216, 218, 239]) : WI B zi0 := by
  unfold WI
  rw [zi_z h0, zi_z h1, zi_z h2]
  exact ⟨by decide, by decide, fun _ _ => (by decide : (0 ≤ (0 : Int32).toInt ∧ (0 : Int32).toInt ≤ 7) ∧ 0 ≤ (0 : Int32).toInt ∧ (0 : Int32).toInt ≤ 7)⟩
theorem CI_0 : CI zs00 := by
  refine ⟨fun k j _ => rfl, ⟨WI_0 (by decide) (by decide) (by decide), WI_0 (by decide) (by decide) (by decide), WI_0 (by decide) (by decide) (by decide), WI_0 (by decide) (by decide) (by decide), WI_0 (by decide) (by decide) (by decide), ?_, ?_, ?_⟩, Or.inl ⟨by decide, by decide⟩⟩
  · intro k hk
    rcases zslm k (zKd_lt hk (by decide)) hk with rfl | rfl | rfl | rfl <;> decide
  · refine ⟨by decide, by decide, zs_0 (by decide) _, fun j _ => ?_, fun j _ => ?_⟩
    · show 0 ≤ (zi0 63 j).toInt ∧ (zi0 63 j).toInt ≤ 600
      rw [zi_0 (by decide)]; decide
    · show 0 ≤ (zi0 64 j).toInt ∧ (zi0 64 j).toInt ≤ 600
      rw [zi_0 (by decide)]; decide
  · exact ⟨by decide, by decide⟩
theorem MW_0 {g : Nat → Int32} {b : Nat} (h : ∀ j, g j = 0) : MW g b := by
  unfold MW
  refine ⟨by rw [h]; decide, by rw [h]; decide, fun j _ => by rw [h, h]; decide, fun v hv => ?_⟩
  rw [h] at hv
  exact absurd hv (by simp only [Int32.reduceToInt]; omega)
theorem MS_0 : MS (zi0 239) := by
  have e : zi0 239 = upd (upd (upd (upd (fun _ => 0) 0 (-1)) 1 (-1)) 2 (-1)) 3 (-1) := rfl
  have u : ∀ (g : Nat → Int32) (i : Nat), MS g → MS (upd g i (-1)) := by
    intro g i hg j
    unfold upd
    split
    · decide
    · exact hg j
  rw [e]
  exact u _ _ (u _ _ (u _ _ (u _ _ (fun _ => by decide))))
theorem RI_0 : RI zs00 := by
  refine ⟨⟨MW_0 (zs_0 (by decide)), fun k _ => MW_0 (zs_0 (by decide)), MS_0⟩, fun k hk j => ?_, by decide, fun k => ?_⟩
  · rcases zbc k (zKd_lt hk (by decide)) hk with rfl | rfl | rfl | rfl | rfl | rfl | rfl | rfl | rfl | rfl | rfl <;> exact Or.inl (zs_0 (by decide) j)
  · show -128 ≤ (zi0 224 k).toInt ∧ (zi0 224 k).toInt ≤ 127
    rw [zi_0 (by decide)]; decide
theorem ok_w {α : Type} {x : Option α} {P Q : α → Prop} (h : Ok x P) (f : ∀ a, P a → Q a) : Ok x Q := by
  obtain ⟨a, e, p⟩ := h
  exact ⟨a, e, f a p⟩

/-- what is alike in both: the tape's length, which images are kept, the slots' lengths and widths -/
def EQ (σ : zS) : Prop := σ.1 0 1 = σ.1 218 7 ∧ (∀ j, j < 3 → σ.1 55 j = σ.1 223 j) ∧ (∀ s, s < 4 → σ.1 (210 + 2 * s) 2 = σ.1 239 s ∧ σ.1 (210 + 2 * s) 1 = σ.1 240 s) ∧ σ.1 1 = σ.1 224
theorem m4 {S : List Nat} (h : ∀ k ∈ [210, 212, 214, 216], k ∉ S) : ∀ s, s < 4 → 210 + 2 * s ∉ S := fun s hs => by
  rcases (show s = 0 ∨ s = 1 ∨ s = 2 ∨ s = 3 by omega) with rfl | rfl | rfl | rfl
  · exact h 210 (by decide)
  · exact h 212 (by decide)
  · exact h 214 (by decide)
  · exact h 216 (by decide)
theorem EQ_p {σ τ : zS} {S : List Nat} (hE : EQ σ) (t : ∀ k, k ∉ S → τ.1 k = σ.1 k) (ht : τ.1 0 1 = τ.1 218 7) (hk : (∀ k ∈ [55, 223], k ∉ S) ∨ ∀ j, j < 3 → τ.1 55 j = τ.1 223 j) (hs : (∀ k ∈ [210, 212, 214, 216, 239, 240], k ∉ S) ∨ ∀ s, s < 4 → τ.1 (210 + 2 * s) 2 = τ.1 239 s ∧ τ.1 (210 + 2 * s) 1 = τ.1 240 s) (hr : (∀ k ∈ [1, 224], k ∉ S) ∨ τ.1 1 = τ.1 224) : EQ τ := by
  refine ⟨ht, ?_, ?_, ?_⟩
  · rcases hk with q | q
    · intro j hj
      rw [t 55 (q 55 (by decide)), t 223 (q 223 (by decide))]; exact hE.2.1 j hj
    · exact q
  · rcases hs with q | q
    · intro s hs
      rw [t _ (m4 (fun k hk => q k (by simp only [List.mem_cons, List.not_mem_nil, or_false] at hk ⊢; omega)) s hs), t 239 (q 239 (by decide)), t 240 (q 240 (by decide))]; exact hE.2.2.1 s hs
    · exact q
  · rcases hr with q | q
    · rw [t 1 (q 1 (by decide)), t 224 (q 224 (by decide))]; exact hE.2.2.2
    · exact q
theorem EQ_c {S : List Nat} {σ τ : zS} (hE : EQ σ) (hT : Tr S σ τ) (h : ∀ k ∈ [0, 218, 55, 223, 210, 212, 214, 216, 239, 240, 1, 224], k ∉ S) : EQ τ :=
  EQ_p hE hT.2 (by rw [hT.2 0 (h 0 (by decide)), hT.2 218 (h 218 (by decide))]; exact hE.1) (Or.inl (fun k hk => h k (by simp only [List.mem_cons, List.not_mem_nil, or_false] at hk ⊢; omega))) (Or.inl (fun k hk => h k (by simp only [List.mem_cons, List.not_mem_nil, or_false] at hk ⊢; omega))) (Or.inl (fun k hk => h k (by simp only [List.mem_cons, List.not_mem_nil, or_false] at hk ⊢; omega)))
theorem EQ_r {S : List Nat} {σ τ : zS} (hE : EQ σ) (hT : Tr S σ τ) (h : ∀ k ∈ [0, 55, 223, 210, 212, 214, 216, 239, 240, 1, 224], k ∉ S) (h7 : τ.1 218 7 = σ.1 218 7) : EQ τ :=
  EQ_p hE hT.2 (by rw [hT.2 0 (h 0 (by decide)), h7]; exact hE.1) (Or.inl (fun k hk => h k (by simp only [List.mem_cons, List.not_mem_nil, or_false] at hk ⊢; omega))) (Or.inl (fun k hk => h k (by simp only [List.mem_cons, List.not_mem_nil, or_false] at hk ⊢; omega))) (Or.inl (fun k hk => h k (by simp only [List.mem_cons, List.not_mem_nil, or_false] at hk ⊢; omega)))
def IV (σ : zS) : Prop := (CI σ ∧ RI σ) ∧ EQ σ
theorem EQ_0 : EQ zs00 := by
  refine ⟨rfl, fun j _ => ?_, fun s hs => ?_, ?_⟩
  · rw [zs_0 (k := 55) (by decide), zs_0 (k := 223) (by decide)]
  · rcases (show s = 0 ∨ s = 1 ∨ s = 2 ∨ s = 3 by omega) with rfl | rfl | rfl | rfl <;> exact ⟨rfl, rfl⟩
  · funext j
    rw [zs_0 (k := 1) (by decide), zs_0 (k := 224) (by decide)]

/-! ===== functions that leave the rows of longs ===== -/
section JU
variable {N : Nat} {L : Nat → Nat → Int64} {σ : zS}
theorem pj_a {α β : Type} {x : Option α} {f : α → Option β} {P : β → Prop} (h : ∀ v, Pt (f v) P) : Pt (zl x f) P := fun a e => by
  obtain ⟨v, _, h2⟩ := zl_some e
  exact h v a h2
theorem pj_s {β : Type} {x : Option zS} {f : zS → Option β} {P : β → Prop} (hx : ∀ τ, x = some τ → τ.2.1 = L) (h : ∀ τ : zS, τ.2.1 = L → Pt (f τ) P) : Pt (zl x f) P := fun a e => by
  obtain ⟨v, h1, h2⟩ := zl_some e
  exact h v (hx v h1) a h2
theorem j_pI {ci j k : Nat} {v : Int32} (h : σ.2.1 = L) : ∀ τ, pI ci j k v σ = some τ → τ.2.1 = L := fun τ e => by
  obtain ⟨_, rfl⟩ := zguard e
  exact h
theorem j_sI {ti k : Nat} {i v : Int32} (h : σ.2.1 = L) : ∀ τ, sI ti k i v σ = some τ → τ.2.1 = L := fun τ e => by
  obtain ⟨_, rfl⟩ := zguard e
  exact h
theorem j_pR {ci j k v : Nat} (h : σ.2.1 = L) : ∀ τ, pR ci j k v σ = some τ → τ.2.1 = L := fun τ e => by
  obtain ⟨_, rfl⟩ := zguard e
  exact h
theorem j_cpI {a c : Nat} {b d n : Int32} (h : σ.2.1 = L) : ∀ τ, cpI a b c d n σ = some τ → τ.2.1 = L := fun τ e => by
  obtain ⟨_, rfl⟩ := zguard e
  exact h
theorem jf_J0_length_8abf5 {x0 : Nat} (hj : σ.2.1 = L) : Pt (f_J0_length_8abf5 N x0 σ) (fun r => r.2.2.1 = L) := fun a e => by
  obtain ⟨_, rfl⟩ := zguard e
  exact hj
theorem jf_J0_charAt_5068e {x0 : Nat} {x1 : Int32} (hj : σ.2.1 = L) : Pt (f_J0_charAt_5068e N x0 x1 σ) (fun r => r.2.2.1 = L) := fun a e => by
  obtain ⟨_, rfl⟩ := zguard e
  exact hj
theorem jJ_J6_numberOfTrailingZeros_0f7a4_62 {x0 : Int32} {x1 : Int32} {σ : zS}  (hj : σ.2.1 = L) : Pt (J_J6_numberOfTrailingZeros_0f7a4_62 N x0 x1 σ) (fun r => r.2.2.1 = L) := by
  rw [J_J6_numberOfTrailingZeros_0f7a4_62.eq_1]
  exact pt_if (fun _ => pt_some hj) (fun _ => pt_some hj)
theorem jJ_J6_numberOfTrailingZeros_0f7a4_49 {x0 : Int32} {x1 : Int32} {σ : zS}  (hj : σ.2.1 = L) : Pt (J_J6_numberOfTrailingZeros_0f7a4_49 N x0 x1 σ) (fun r => r.2.2.1 = L) := by
  rw [J_J6_numberOfTrailingZeros_0f7a4_49.eq_1]
  exact pt_if (fun _ => (jJ_J6_numberOfTrailingZeros_0f7a4_62 hj)) (fun _ => (jJ_J6_numberOfTrailingZeros_0f7a4_62 hj))
theorem jJ_J6_numberOfTrailingZeros_0f7a4_34 {x0 : Int32} {x1 : Int32} {σ : zS}  (hj : σ.2.1 = L) : Pt (J_J6_numberOfTrailingZeros_0f7a4_34 N x0 x1 σ) (fun r => r.2.2.1 = L) := by
  rw [J_J6_numberOfTrailingZeros_0f7a4_34.eq_1]
  exact pt_if (fun _ => (jJ_J6_numberOfTrailingZeros_0f7a4_49 hj)) (fun _ => (jJ_J6_numberOfTrailingZeros_0f7a4_49 hj))
theorem jf_J6_numberOfTrailingZeros_0f7a4 {x0 : Int32} {σ : zS}  (hj : σ.2.1 = L) : Pt (f_J6_numberOfTrailingZeros_0f7a4 N x0 σ) (fun r => r.2.2.1 = L) := by
  rw [f_J6_numberOfTrailingZeros_0f7a4.eq_1]
  exact pt_if (fun _ => pt_if (fun _ => (jJ_J6_numberOfTrailingZeros_0f7a4_34 hj)) (fun _ => (jJ_J6_numberOfTrailingZeros_0f7a4_34 hj))) (fun _ => pt_some hj)
theorem jf_J6_bitCount_0f7a4 {x0 : Int32} {σ : zS}  (hj : σ.2.1 = L) : Pt (f_J6_bitCount_0f7a4 N x0 σ) (fun r => r.2.2.1 = L) := by
  rw [f_J6_bitCount_0f7a4.eq_1]
  exact pt_some hj
theorem jf_J13_numberOfTrailingZeros_95d88 {x0 : Int64} {σ : zS}  (hj : σ.2.1 = L) : Pt (f_J13_numberOfTrailingZeros_95d88 N x0 σ) (fun r => r.2.2.1 = L) := by
  rw [f_J13_numberOfTrailingZeros_95d88.eq_1]
  exact pt_if (fun _ => pt_zb (jf_J6_numberOfTrailingZeros_0f7a4 hj) (fun _ _ h1 => pt_some h1)) (fun _ => pt_zb (jf_J6_numberOfTrailingZeros_0f7a4 hj) (fun _ _ h2 => pt_some h2))
theorem jf_J13_bitCount_95d88 {x0 : Int64} {σ : zS}  (hj : σ.2.1 = L) : Pt (f_J13_bitCount_95d88 N x0 σ) (fun r => r.2.2.1 = L) := by
  rw [f_J13_bitCount_95d88.eq_1]
  exact pt_some hj
theorem jF_J7_fill_53178_5 {x0 : Nat} {x1 : Int32} {x3 : Int32} {again5 : (Int32 × zS) → Option (Unit × zS)} (ihagain5 : ∀ s : Int32 × zS, s.2.2.1 = L → Pt (again5 s) (fun r => r.2.2.1 = L)) {s : Int32 × zS} (hj : s.2.2.1 = L) : Pt (F_J7_fill_53178_5 N x0 x1 x3 again5 s) (fun r => r.2.2.1 = L) := by
  obtain ⟨x2, σ⟩ := s
  rw [F_J7_fill_53178_5.eq_1]
  exact pt_if (fun _ => pt_some hj) (fun _ => pj_s (j_sI hj) (fun _ h1 => (ihagain5 _ h1)))
theorem jf_J7_fill_53178 {x0 : Nat} {x1 : Int32} {σ : zS}  (hj : σ.2.1 = L) : Pt (f_J7_fill_53178 N x0 x1 σ) (fun r => r.2.2.1 = L) := by
  rw [f_J7_fill_53178.eq_1]
  exact pj_a (fun _ => pt_lp (fun s => s.2.2.1 = L) (fun again s hI ih => jF_J7_fill_53178_5 ih hI) N _ hj)
theorem jJ_X2_firstFrom_62 {again38 : (Int64 × Int32 × zS) → Option (Int32 × zS)} {x0 : Nat} {x1 : Int32} {x4 : Int32} {x2 : Int64} {σ : zS} (ihagain38 : ∀ s : Int64 × Int32 × zS, s.2.2.2.1 = L → Pt (again38 s) (fun r => r.2.2.1 = L)) (hj : σ.2.1 = L) : Pt (J_X2_firstFrom_62 N again38 x0 x1 x4 x2 σ) (fun r => r.2.2.1 = L) := by
  rw [J_X2_firstFrom_62.eq_1]
  exact pt_if (fun _ => (ihagain38 _ hj)) (fun _ => pt_zb (jf_J13_numberOfTrailingZeros_95d88 hj) (fun _ _ h1 => pt_some h1))
theorem jF_X2_firstFrom_38 {x0 : Nat} {x1 : Int32} {again38 : (Int64 × Int32 × zS) → Option (Int32 × zS)} (ihagain38 : ∀ s : Int64 × Int32 × zS, s.2.2.2.1 = L → Pt (again38 s) (fun r => r.2.2.1 = L)) {s : Int64 × Int32 × zS} (hj : s.2.2.2.1 = L) : Pt (F_X2_firstFrom_38 N x0 x1 again38 s) (fun r => r.2.2.1 = L) := by
  obtain ⟨x2, x4, σ⟩ := s
  rw [F_X2_firstFrom_38.eq_1]
  exact pt_if (fun _ => pt_some hj) (fun _ => pt_if (fun _ => (jJ_X2_firstFrom_62 ihagain38 hj)) (fun _ => pj_a (fun _ => pj_a (fun _ => (jJ_X2_firstFrom_62 ihagain38 hj)))))
theorem jf_X2_firstFrom {x0 : Nat} {x1 : Int32} {σ : zS}  (hj : σ.2.1 = L) : Pt (f_X2_firstFrom N x0 x1 σ) (fun r => r.2.2.1 = L) := by
  rw [f_X2_firstFrom.eq_1]
  exact pt_if (fun _ => pt_some hj) (fun _ => pt_if (fun _ => pj_a (fun _ => pj_a (fun _ => pt_lp (fun s => s.2.2.2.1 = L) (fun again s hI ih => jF_X2_firstFrom_38 ih hI) N _ hj))) (fun _ => pt_some hj))
theorem jf_X2_holds {x0 : Nat} {x1 : Int32} {σ : zS}  (hj : σ.2.1 = L) : Pt (f_X2_holds N x0 x1 σ) (fun r => r.2.2.1 = L) := by
  rw [f_X2_holds.eq_1]
  exact pt_if (fun _ => pt_rZ hj) (fun _ => pt_if (fun _ => pt_rZ hj) (fun _ => pj_a (fun _ => pj_a (fun _ => pt_if (fun _ => pt_rZ hj) (fun _ => pt_rZ hj)))))
theorem jF_X0_allJoined_10 {x1 : Nat} {x2 : Nat} {x3 : Int32} {again10 : (Int32 × Int32 × zS) → Option (Int32 × zS)} (ihagain10 : ∀ s : Int32 × Int32 × zS, s.2.2.2.1 = L → Pt (again10 s) (fun r => r.2.2.1 = L)) {s : Int32 × Int32 × zS} (hj : s.2.2.2.1 = L) : Pt (F_X0_allJoined_10 N x1 x2 x3 again10 s) (fun r => r.2.2.1 = L) := by
  obtain ⟨x4, x5, σ⟩ := s
  rw [F_X0_allJoined_10.eq_1]
  exact pt_if (fun _ => pt_rZ hj) (fun _ => pt_if (fun _ => pt_rZ hj) (fun _ => pj_a (fun _ => pt_zb (jf_X2_holds hj) (fun _ _ h1 => pt_if (fun _ => pt_rZ h1) (fun _ => pj_a (fun _ => pt_zb (jf_X2_firstFrom h1) (fun _ _ h2 => (ihagain10 _ h2))))))))
theorem jf_X0_allJoined {x0 : Nat} {x1 : Nat} {x2 : Nat} {x3 : Int32} {σ : zS}  (hj : σ.2.1 = L) : Pt (f_X0_allJoined N x0 x1 x2 x3 σ) (fun r => r.2.2.1 = L) := by
  rw [f_X0_allJoined.eq_1]
  exact pj_a (fun _ => pt_zb (jf_X2_firstFrom hj) (fun _ _ h1 => pt_lp (fun s => s.2.2.2.1 = L) (fun again s hI ih => jF_X0_allJoined_10 ih hI) N _ h1))
theorem jF_X2_sameAs_2 {x0 : Nat} {x1 : Nat} {again2 : (Int32 × zS) → Option (Int32 × zS)} (ihagain2 : ∀ s : Int32 × zS, s.2.2.1 = L → Pt (again2 s) (fun r => r.2.2.1 = L)) {s : Int32 × zS} (hj : s.2.2.1 = L) : Pt (F_X2_sameAs_2 N x0 x1 again2 s) (fun r => r.2.2.1 = L) := by
  obtain ⟨x2, σ⟩ := s
  rw [F_X2_sameAs_2.eq_1]
  exact pt_if (fun _ => pt_rZ hj) (fun _ => pj_a (fun _ => pj_a (fun _ => pj_a (fun _ => pj_a (fun _ => pt_if (fun _ => (ihagain2 _ hj)) (fun _ => pt_rZ hj))))))
theorem jf_X2_sameAs {x0 : Nat} {x1 : Nat} {σ : zS}  (hj : σ.2.1 = L) : Pt (f_X2_sameAs N x0 x1 σ) (fun r => r.2.2.1 = L) := by
  rw [f_X2_sameAs.eq_1]
  exact pt_lp (fun s => s.2.2.1 = L) (fun again s hI ih => jF_X2_sameAs_2 ih hI) N _ hj
theorem jf_X0_setsOf {x0 : Int32} {σ : zS}  (hj : σ.2.1 = L) : Pt (f_X0_setsOf N x0 σ) (fun r => r.2.2.1 = L) := by
  rw [f_X0_setsOf.eq_1]
  exact pt_some hj
theorem jF_X2_isEmpty_2 {x0 : Nat} {again2 : (Int32 × zS) → Option (Int32 × zS)} (ihagain2 : ∀ s : Int32 × zS, s.2.2.1 = L → Pt (again2 s) (fun r => r.2.2.1 = L)) {s : Int32 × zS} (hj : s.2.2.1 = L) : Pt (F_X2_isEmpty_2 N x0 again2 s) (fun r => r.2.2.1 = L) := by
  obtain ⟨x1, σ⟩ := s
  rw [F_X2_isEmpty_2.eq_1]
  exact pt_if (fun _ => pt_rZ hj) (fun _ => pj_a (fun _ => pj_a (fun _ => pt_if (fun _ => (ihagain2 _ hj)) (fun _ => pt_rZ hj))))
theorem jf_X2_isEmpty {x0 : Nat} {σ : zS}  (hj : σ.2.1 = L) : Pt (f_X2_isEmpty N x0 σ) (fun r => r.2.2.1 = L) := by
  rw [f_X2_isEmpty.eq_1]
  exact pt_lp (fun s => s.2.2.1 = L) (fun again s hI ih => jF_X2_isEmpty_2 ih hI) N _ hj
theorem jF_X0_countBelow_54 {x2 : Nat} {x4 : Int32} {x5 : Int32} {again43 : (Int32 × zS) → Option (Unit × zS)} {again54 : (Int32 × zS) → Option (Unit × zS)} (ihagain43 : ∀ s : Int32 × zS, s.2.2.1 = L → Pt (again43 s) (fun r => r.2.2.1 = L)) (ihagain54 : ∀ s : Int32 × zS, s.2.2.1 = L → Pt (again54 s) (fun r => r.2.2.1 = L)) {s : Int32 × zS} (hj : s.2.2.1 = L) : Pt (F_X0_countBelow_54 N x2 x4 x5 again43 again54 s) (fun r => r.2.2.1 = L) := by
  obtain ⟨x6, σ⟩ := s
  rw [F_X0_countBelow_54.eq_1]
  exact pt_if (fun _ => (ihagain43 _ hj)) (fun _ => pt_if (fun _ => (ihagain54 _ hj)) (fun _ => pj_a (fun _ => pj_a (fun _ => pj_s (j_sI hj) (fun _ h1 => (ihagain54 _ h1))))))
theorem jF_X0_countBelow_43 {x2 : Nat} {x4 : Int32} {again43 : (Int32 × zS) → Option (Unit × zS)} (ihagain43 : ∀ s : Int32 × zS, s.2.2.1 = L → Pt (again43 s) (fun r => r.2.2.1 = L)) {s : Int32 × zS} (hj : s.2.2.1 = L) : Pt (F_X0_countBelow_43 N x2 x4 again43 s) (fun r => r.2.2.1 = L) := by
  obtain ⟨x5, σ⟩ := s
  rw [F_X0_countBelow_43.eq_1]
  exact pt_if (fun _ => pt_some hj) (fun _ => pt_lp (fun s => s.2.2.1 = L) (fun again s hI ih => jF_X0_countBelow_54 ihagain43 ih hI) N _ hj)
theorem jF_X0_countBelow_9 {x1 : Nat} {x2 : Nat} {x4 : Int32} {again9 : (Int32 × zS) → Option (Unit × zS)} (ihagain9 : ∀ s : Int32 × zS, s.2.2.1 = L → Pt (again9 s) (fun r => r.2.2.1 = L)) {s : Int32 × zS} (hj : s.2.2.1 = L) : Pt (F_X0_countBelow_9 N x1 x2 x4 again9 s) (fun r => r.2.2.1 = L) := by
  obtain ⟨x5, σ⟩ := s
  rw [F_X0_countBelow_9.eq_1]
  exact pt_if (fun _ => pt_lp (fun s => s.2.2.1 = L) (fun again s hI ih => jF_X0_countBelow_43 ih hI) N _ hj) (fun _ => pj_a (fun _ => pt_zb (jf_X2_holds hj) (fun _ _ h1 => pt_if (fun _ => pj_s (j_sI h1) (fun _ h2 => (ihagain9 _ h2))) (fun _ => pj_s (j_sI h1) (fun _ h3 => (ihagain9 _ h3))))))
theorem jf_X0_countBelow {x0 : Nat} {x1 : Nat} {x2 : Nat} {x3 : Int32} {σ : zS}  (hj : σ.2.1 = L) : Pt (f_X0_countBelow N x0 x1 x2 x3 σ) (fun r => r.2.2.1 = L) := by
  rw [f_X0_countBelow.eq_1]
  exact pt_zb (jf_X0_setsOf hj) (fun _ _ h1 => pt_lp (fun s => s.2.2.1 = L) (fun again s hI ih => jF_X0_countBelow_9 ih hI) N _ h1)
theorem jF_X0_multiply_73 {x0 : Nat} {x1 : Nat} {x4 : Int32} {x5 : Int32} {again62 : (Int32 × zS) → Option (Unit × zS)} {again73 : (Int32 × zS) → Option (Unit × zS)} (ihagain62 : ∀ s : Int32 × zS, s.2.2.1 = L → Pt (again62 s) (fun r => r.2.2.1 = L)) (ihagain73 : ∀ s : Int32 × zS, s.2.2.1 = L → Pt (again73 s) (fun r => r.2.2.1 = L)) {s : Int32 × zS} (hj : s.2.2.1 = L) : Pt (F_X0_multiply_73 N x0 x1 x4 x5 again62 again73 s) (fun r => r.2.2.1 = L) := by
  obtain ⟨x6, σ⟩ := s
  rw [F_X0_multiply_73.eq_1]
  exact pt_if (fun _ => (ihagain62 _ hj)) (fun _ => pt_if (fun _ => (ihagain73 _ hj)) (fun _ => pj_a (fun _ => pj_a (fun _ => pj_a (fun _ => pj_a (fun _ => pj_s (j_sI hj) (fun _ h1 => (ihagain73 _ h1))))))))
theorem jF_X0_disjointPairs_22 {x0 : Nat} {x1 : Nat} {x4 : Int32} {again22 : (Int32 × Int32 × zS) → Option (Int32 × zS)} (ihagain22 : ∀ s : Int32 × Int32 × zS, s.2.2.2.1 = L → Pt (again22 s) (fun r => r.2.2.1 = L)) {s : Int32 × Int32 × zS} (hj : s.2.2.2.1 = L) : Pt (F_X0_disjointPairs_22 N x0 x1 x4 again22 s) (fun r => r.2.2.1 = L) := by
  obtain ⟨x5, x6, σ⟩ := s
  rw [F_X0_disjointPairs_22.eq_1]
  exact pt_if (fun _ => pt_some hj) (fun _ => pj_a (fun _ => pt_zb (jf_X2_holds hj) (fun _ _ h1 => pt_if (fun _ => (ihagain22 _ h1)) (fun _ => pj_a (fun _ => pj_a (fun _ => (ihagain22 _ h1)))))))
theorem jf_X0_disjointPairs {x0 : Nat} {x1 : Nat} {x2 : Nat} {x3 : Int32} {σ : zS}  (hj : σ.2.1 = L) : Pt (f_X0_disjointPairs N x0 x1 x2 x3 σ) (fun r => r.2.2.1 = L) := by
  rw [f_X0_disjointPairs.eq_1]
  exact pj_a (fun _ => pj_a (fun _ => pt_zb (jf_X0_countBelow hj) (fun _ _ h1 => pt_zb (jf_X0_setsOf h1) (fun _ _ h2 => pt_lp (fun s => s.2.2.2.1 = L) (fun again s hI ih => jF_X0_disjointPairs_22 ih hI) N _ h2))))
theorem jf_X1_headOf {x0 : Int32} {x1 : Int32} {x2 : Int32} {σ : zS}  (hj : σ.2.1 = L) : Pt (f_X1_headOf N x0 x1 x2 σ) (fun r => r.2.2.1 = L) := by
  rw [f_X1_headOf.eq_1]
  exact pt_some hj
theorem jJ_X1_node_93 {x0 : Nat} {x1 : Int32} {x2 : Int32} {x3 : Int32} {x4 : Int32} {σ : zS}  (hj : σ.2.1 = L) : Pt (J_X1_node_93 N x0 x1 x2 x3 x4 σ) (fun r => r.2.2.1 = L) := by
  rw [J_X1_node_93.eq_1]
  exact pj_a (fun _ => pt_if (fun _ => pt_some hj) (fun _ => pt_if (fun _ => pt_some hj) (fun _ => pt_if (fun _ => pj_a (fun _ => pj_s (j_pI hj) (fun _ h1 => pj_a (fun _ => pj_s (j_sI h1) (fun _ h2 => pj_a (fun _ => pj_s (j_sI h2) (fun _ h3 => pj_a (fun _ => pj_s (j_sI h3) (fun _ h4 => pj_a (fun _ => pj_a (fun _ => pj_a (fun _ => pj_s (j_sI h4) (fun _ h5 => pj_a (fun _ => pj_s (j_sI h5) (fun _ h6 => pj_a (fun _ => pj_a (fun _ => pj_s (j_sI h6) (fun _ h7 => pt_some h7)))))))))))))))))) (fun _ => pt_some hj))))
theorem jF_X1_node_20 {x0 : Nat} {x1 : Int32} {x2 : Int32} {x3 : Int32} {x4 : Int32} {again20 : (Int32 × Int32 × zS) → Option (Int32 × zS)} (ihagain20 : ∀ s : Int32 × Int32 × zS, s.2.2.2.1 = L → Pt (again20 s) (fun r => r.2.2.1 = L)) {s : Int32 × Int32 × zS} (hj : s.2.2.2.1 = L) : Pt (F_X1_node_20 N x0 x1 x2 x3 x4 again20 s) (fun r => r.2.2.1 = L) := by
  obtain ⟨x5, x6, σ⟩ := s
  rw [F_X1_node_20.eq_1]
  exact pt_if (fun _ => (jJ_X1_node_93 hj)) (fun _ => pt_if (fun _ => (jJ_X1_node_93 hj)) (fun _ => pt_if (fun _ => (jJ_X1_node_93 hj)) (fun _ => pj_a (fun _ => pj_a (fun _ => pt_if (fun _ => pj_a (fun _ => pj_a (fun _ => pt_if (fun _ => pj_a (fun _ => pj_a (fun _ => pt_if (fun _ => pt_some hj) (fun _ => pj_a (fun _ => pj_a (fun _ => (ihagain20 _ hj))))))) (fun _ => pj_a (fun _ => pj_a (fun _ => (ihagain20 _ hj))))))) (fun _ => pj_a (fun _ => pj_a (fun _ => (ihagain20 _ hj)))))))))
theorem jf_X1_node {x0 : Nat} {x1 : Int32} {x2 : Int32} {x3 : Int32} {σ : zS}  (hj : σ.2.1 = L) : Pt (f_X1_node N x0 x1 x2 x3 σ) (fun r => r.2.2.1 = L) := by
  rw [f_X1_node.eq_1]
  exact pt_zb (jf_X1_headOf hj) (fun _ _ h1 => pj_a (fun _ => pj_a (fun _ => pt_lp (fun s => s.2.2.2.1 = L) (fun again s hI ih => jF_X1_node_20 ih hI) N _ h1)))
theorem jF_X1_grow_72 {x0 : Nat} {x4 : Int32} {again64 : (Int32 × zS) → Option (Unit × zS)} {again72 : (Int32 × zS) → Option (Unit × zS)} (ihagain64 : ∀ s : Int32 × zS, s.2.2.1 = L → Pt (again64 s) (fun r => r.2.2.1 = L)) (ihagain72 : ∀ s : Int32 × zS, s.2.2.1 = L → Pt (again72 s) (fun r => r.2.2.1 = L)) {s : Int32 × zS} (hj : s.2.2.1 = L) : Pt (F_X1_grow_72 N x0 x4 again64 again72 s) (fun r => r.2.2.1 = L) := by
  obtain ⟨x5, σ⟩ := s
  rw [F_X1_grow_72.eq_1]
  exact pt_if (fun _ => (ihagain64 _ hj)) (fun _ => pj_a (fun _ => pj_a (fun _ => pj_a (fun _ => pt_if (fun _ => pj_a (fun _ => pj_a (fun _ => pj_s (j_sI hj) (fun _ h1 => (ihagain72 _ h1))))) (fun _ => pj_a (fun _ => pj_a (fun _ => pj_a (fun _ => pt_zb (jf_X1_node hj) (fun _ _ h2 => pj_s (j_sI h2) (fun _ h3 => (ihagain72 _ h3)))))))))))
theorem jF_X1_grow_64 {x0 : Nat} {again64 : (Int32 × zS) → Option (Unit × zS)} (ihagain64 : ∀ s : Int32 × zS, s.2.2.1 = L → Pt (again64 s) (fun r => r.2.2.1 = L)) {s : Int32 × zS} (hj : s.2.2.1 = L) : Pt (F_X1_grow_64 N x0 again64 s) (fun r => r.2.2.1 = L) := by
  obtain ⟨x4, σ⟩ := s
  rw [F_X1_grow_64.eq_1]
  exact pt_if (fun _ => pt_some hj) (fun _ => pt_lp (fun s => s.2.2.1 = L) (fun again s hI ih => jF_X1_grow_72 ihagain64 ih hI) N _ hj)
theorem jF_X1_grow_16 {x0 : Nat} {x1 : Nat} {x2 : Int32} {x3 : Int32} {again16 : (Int32 × zS) → Option (Unit × zS)} (ihagain16 : ∀ s : Int32 × zS, s.2.2.1 = L → Pt (again16 s) (fun r => r.2.2.1 = L)) {s : Int32 × zS} (hj : s.2.2.1 = L) : Pt (F_X1_grow_16 N x0 x1 x2 x3 again16 s) (fun r => r.2.2.1 = L) := by
  obtain ⟨x4, σ⟩ := s
  rw [F_X1_grow_16.eq_1]
  exact pt_if (fun _ => pt_lp (fun s => s.2.2.1 = L) (fun again s hI ih => jF_X1_grow_64 ih hI) N _ hj) (fun _ => pj_a (fun _ => pj_a (fun _ => pj_a (fun _ => pj_a (fun _ => pt_zb (jf_X2_holds hj) (fun _ _ h1 => pt_if (fun _ => pj_s (j_sI h1) (fun _ h2 => (ihagain16 _ h2))) (fun _ => pj_s (j_sI h1) (fun _ h3 => (ihagain16 _ h3)))))))))
theorem jf_X1_grow {x0 : Nat} {x1 : Nat} {x2 : Int32} {σ : zS}  (hj : σ.2.1 = L) : Pt (f_X1_grow N x0 x1 x2 σ) (fun r => r.2.2.1 = L) := by
  rw [f_X1_grow.eq_1]
  exact pt_lp (fun s => s.2.2.1 = L) (fun again s hI ih => jF_X1_grow_16 ih hI) N _ hj
theorem jF_X1_reset_2 {x0 : Nat} {again2 : (Int32 × zS) → Option (Unit × zS)} (ihagain2 : ∀ s : Int32 × zS, s.2.2.1 = L → Pt (again2 s) (fun r => r.2.2.1 = L)) {s : Int32 × zS} (hj : s.2.2.1 = L) : Pt (F_X1_reset_2 N x0 again2 s) (fun r => r.2.2.1 = L) := by
  obtain ⟨x1, σ⟩ := s
  rw [F_X1_reset_2.eq_1]
  exact pj_a (fun _ => pt_if (fun _ => pj_a (fun _ => pt_zb (jf_J7_fill_53178 hj) (fun _ _ h1 => pj_s (j_pI h1) (fun _ h2 => pt_some h2)))) (fun _ => pj_a (fun _ => pj_a (fun _ => pj_a (fun _ => pj_a (fun _ => pj_a (fun _ => pj_a (fun _ => pj_a (fun _ => pt_zb (jf_X1_headOf hj) (fun _ _ h3 => pj_s (j_sI h3) (fun _ h4 => (ihagain2 _ h4))))))))))))
theorem jf_X1_reset {x0 : Nat} {σ : zS}  (hj : σ.2.1 = L) : Pt (f_X1_reset N x0 σ) (fun r => r.2.2.1 = L) := by
  rw [f_X1_reset.eq_1]
  exact pt_lp (fun s => s.2.2.1 = L) (fun again s hI ih => jF_X1_reset_2 ih hI) N _ hj
theorem jF_X1_spread_47 {x0 : Nat} {x1 : Nat} {x2 : Int32} {x3 : Int32} {x4 : Int32} {again9 : (Int32 × zS) → Option (Unit × zS)} {again47 : (Int32 × zS) → Option (Unit × zS)} (ihagain9 : ∀ s : Int32 × zS, s.2.2.1 = L → Pt (again9 s) (fun r => r.2.2.1 = L)) (ihagain47 : ∀ s : Int32 × zS, s.2.2.1 = L → Pt (again47 s) (fun r => r.2.2.1 = L)) {s : Int32 × zS} (hj : s.2.2.1 = L) : Pt (F_X1_spread_47 N x0 x1 x2 x3 x4 again9 again47 s) (fun r => r.2.2.1 = L) := by
  obtain ⟨x5, σ⟩ := s
  rw [F_X1_spread_47.eq_1]
  exact pt_if (fun _ => (ihagain9 _ hj)) (fun _ => pj_a (fun _ => pj_a (fun _ => pj_a (fun _ => pj_s (j_sI hj) (fun _ h1 => (ihagain47 _ h1))))))
theorem jF_X1_spread_9 {x0 : Nat} {x1 : Nat} {again9 : (Int32 × zS) → Option (Unit × zS)} (ihagain9 : ∀ s : Int32 × zS, s.2.2.1 = L → Pt (again9 s) (fun r => r.2.2.1 = L)) {s : Int32 × zS} (hj : s.2.2.1 = L) : Pt (F_X1_spread_9 N x0 x1 again9 s) (fun r => r.2.2.1 = L) := by
  obtain ⟨x2, σ⟩ := s
  rw [F_X1_spread_9.eq_1]
  exact pj_a (fun _ => pt_if (fun _ => pt_some hj) (fun _ => pt_if (fun _ => pt_some hj) (fun _ => pj_a (fun _ => pj_a (fun _ => pj_a (fun _ => pt_lp (fun s => s.2.2.1 = L) (fun again s hI ih => jF_X1_spread_47 ihagain9 ih hI) N _ hj))))))
theorem jf_X1_spread {x0 : Nat} {x1 : Nat} {σ : zS}  (hj : σ.2.1 = L) : Pt (f_X1_spread N x0 x1 σ) (fun r => r.2.2.1 = L) := by
  rw [f_X1_spread.eq_1]
  exact pj_a (fun _ => pj_s (j_sI hj) (fun _ h1 => pt_lp (fun s => s.2.2.1 = L) (fun again s hI ih => jF_X1_spread_9 ih hI) N _ h1))
theorem jf_X1_tallyOf {x0 : Nat} {x1 : Nat} {x2 : Nat} {σ : zS}  (hj : σ.2.1 = L) : Pt (f_X1_tallyOf N x0 x1 x2 σ) (fun r => r.2.2.1 = L) := by
  rw [f_X1_tallyOf.eq_1]
  exact pj_a (fun _ => pt_zb (jf_X1_reset hj) (fun _ _ h1 => pj_a (fun _ => pt_zb (jf_X1_spread h1) (fun _ _ h2 => pj_a (fun _ => pj_a (fun _ => pt_zb (jf_X1_grow h2) (fun _ _ h3 => pj_a (fun _ => pt_some h3))))))))
theorem jF_X10_firstLike_2 {x0 : Nat} {x1 : Int32} {again2 : (Int32 × zS) → Option (Int32 × zS)} (ihagain2 : ∀ s : Int32 × zS, s.2.2.1 = L → Pt (again2 s) (fun r => r.2.2.1 = L)) {s : Int32 × zS} (hj : s.2.2.1 = L) : Pt (F_X10_firstLike_2 N x0 x1 again2 s) (fun r => r.2.2.1 = L) := by
  obtain ⟨x2, σ⟩ := s
  rw [F_X10_firstLike_2.eq_1]
  exact pt_if (fun _ => pt_some hj) (fun _ => pt_if (fun _ => pt_some hj) (fun _ => pt_if (fun _ => (ihagain2 _ hj)) (fun _ => pj_a (fun _ => pj_a (fun _ => pj_a (fun _ => pj_a (fun _ => pj_a (fun _ => pt_zb (jf_X2_sameAs hj) (fun _ _ h1 => pt_if (fun _ => (ihagain2 _ h1)) (fun _ => pt_some h1))))))))))
theorem jf_X10_firstLike {x0 : Nat} {x1 : Int32} {σ : zS}  (hj : σ.2.1 = L) : Pt (f_X10_firstLike N x0 x1 σ) (fun r => r.2.2.1 = L) := by
  rw [f_X10_firstLike.eq_1]
  exact pt_lp (fun s => s.2.2.1 = L) (fun again s hI ih => jF_X10_firstLike_2 ih hI) N _ hj
theorem jF_X1_tallyOfAll_11 {x0 : Nat} {x1 : Nat} {again11 : (Int32 × zS) → Option (Int32 × zS)} (ihagain11 : ∀ s : Int32 × zS, s.2.2.1 = L → Pt (again11 s) (fun r => r.2.2.1 = L)) {s : Int32 × zS} (hj : s.2.2.1 = L) : Pt (F_X1_tallyOfAll_11 N x0 x1 again11 s) (fun r => r.2.2.1 = L) := by
  obtain ⟨x2, σ⟩ := s
  rw [F_X1_tallyOfAll_11.eq_1]
  exact pt_if (fun _ => pj_a (fun _ => pt_some hj)) (fun _ => pj_a (fun _ => pt_zb (jf_X10_firstLike hj) (fun _ _ h1 => pt_if (fun _ => pj_a (fun _ => pj_a (fun _ => pj_a (fun _ => pj_a (fun _ => pt_zb (jf_X1_grow h1) (fun _ _ h2 => (ihagain11 _ h2))))))) (fun _ => (ihagain11 _ h1)))))
theorem jf_X1_tallyOfAll {x0 : Nat} {x1 : Nat} {σ : zS}  (hj : σ.2.1 = L) : Pt (f_X1_tallyOfAll N x0 x1 σ) (fun r => r.2.2.1 = L) := by
  rw [f_X1_tallyOfAll.eq_1]
  exact pj_a (fun _ => pt_zb (jf_X1_reset hj) (fun _ _ h1 => pj_a (fun _ => pt_zb (jf_X1_spread h1) (fun _ _ h2 => pt_lp (fun s => s.2.2.1 = L) (fun again s hI ih => jF_X1_tallyOfAll_11 ih hI) N _ h2))))
theorem jf_X1_tallyAt {x0 : Nat} {x1 : Int32} {σ : zS}  (hj : σ.2.1 = L) : Pt (f_X1_tallyAt N x0 x1 σ) (fun r => r.2.2.1 = L) := by
  rw [f_X1_tallyAt.eq_1]
  exact pt_if (fun _ => pt_some hj) (fun _ => pt_if (fun _ => pt_some hj) (fun _ => pj_a (fun _ => pj_a (fun _ => pt_some hj))))
theorem jF_X2_tally_4 {x0 : Nat} {again4 : (Int32 × Int32 × zS) → Option (Int32 × zS)} (ihagain4 : ∀ s : Int32 × Int32 × zS, s.2.2.2.1 = L → Pt (again4 s) (fun r => r.2.2.1 = L)) {s : Int32 × Int32 × zS} (hj : s.2.2.2.1 = L) : Pt (F_X2_tally_4 N x0 again4 s) (fun r => r.2.2.1 = L) := by
  obtain ⟨x1, x2, σ⟩ := s
  rw [F_X2_tally_4.eq_1]
  exact pt_if (fun _ => pt_some hj) (fun _ => pj_a (fun _ => pj_a (fun _ => pt_zb (jf_J13_bitCount_95d88 hj) (fun _ _ h1 => (ihagain4 _ h1)))))
theorem jf_X2_tally {x0 : Nat} {σ : zS}  (hj : σ.2.1 = L) : Pt (f_X2_tally N x0 σ) (fun r => r.2.2.1 = L) := by
  rw [f_X2_tally.eq_1]
  exact pt_lp (fun s => s.2.2.2.1 = L) (fun again s hI ih => jF_X2_tally_4 ih hI) N _ hj
theorem jJ_X2_tallyBelow_36 {x0 : Nat} {x1 : Int32} {x2 : Int32} {σ : zS}  (hj : σ.2.1 = L) : Pt (J_X2_tallyBelow_36 N x0 x1 x2 σ) (fun r => r.2.2.1 = L) := by
  rw [J_X2_tallyBelow_36.eq_1]
  exact pt_if (fun _ => pt_some hj) (fun _ => pt_if (fun _ => pt_some hj) (fun _ => pj_a (fun _ => pj_a (fun _ => pt_zb (jf_J13_bitCount_95d88 hj) (fun _ _ h1 => pt_some h1)))))
theorem jF_X2_tallyBelow_4 {x0 : Nat} {x1 : Int32} {again4 : (Int32 × Int32 × zS) → Option (Int32 × zS)} (ihagain4 : ∀ s : Int32 × Int32 × zS, s.2.2.2.1 = L → Pt (again4 s) (fun r => r.2.2.1 = L)) {s : Int32 × Int32 × zS} (hj : s.2.2.2.1 = L) : Pt (F_X2_tallyBelow_4 N x0 x1 again4 s) (fun r => r.2.2.1 = L) := by
  obtain ⟨x2, x3, σ⟩ := s
  rw [F_X2_tallyBelow_4.eq_1]
  exact pt_if (fun _ => (jJ_X2_tallyBelow_36 hj)) (fun _ => pt_if (fun _ => (jJ_X2_tallyBelow_36 hj)) (fun _ => pj_a (fun _ => pj_a (fun _ => pt_zb (jf_J13_bitCount_95d88 hj) (fun _ _ h1 => (ihagain4 _ h1))))))
theorem jf_X2_tallyBelow {x0 : Nat} {x1 : Int32} {σ : zS}  (hj : σ.2.1 = L) : Pt (f_X2_tallyBelow N x0 x1 σ) (fun r => r.2.2.1 = L) := by
  rw [f_X2_tallyBelow.eq_1]
  exact pt_lp (fun s => s.2.2.2.1 = L) (fun again s hI ih => jF_X2_tallyBelow_4 ih hI) N _ hj
theorem jF_X2_pickInWord_6 {x3 : Int32} {again6 : (Int64 × Int32 × zS) → Option (Int32 × zS)} (ihagain6 : ∀ s : Int64 × Int32 × zS, s.2.2.2.1 = L → Pt (again6 s) (fun r => r.2.2.1 = L)) {s : Int64 × Int32 × zS} (hj : s.2.2.2.1 = L) : Pt (F_X2_pickInWord_6 N x3 again6 s) (fun r => r.2.2.1 = L) := by
  obtain ⟨x4, x6, σ⟩ := s
  rw [F_X2_pickInWord_6.eq_1]
  exact pt_if (fun _ => pt_zb (jf_J13_numberOfTrailingZeros_95d88 hj) (fun _ _ h1 => pt_some h1)) (fun _ => pt_if (fun _ => pt_zb (jf_J13_numberOfTrailingZeros_95d88 hj) (fun _ _ h2 => pt_some h2)) (fun _ => (ihagain6 _ hj)))
theorem jf_X2_pickInWord {x0 : Nat} {x1 : Int64} {x3 : Int32} {σ : zS}  (hj : σ.2.1 = L) : Pt (f_X2_pickInWord N x0 x1 x3 σ) (fun r => r.2.2.1 = L) := by
  rw [f_X2_pickInWord.eq_1]
  exact pt_lp (fun s => s.2.2.2.1 = L) (fun again s hI ih => jF_X2_pickInWord_6 ih hI) N _ hj
theorem jF_X2_pick_10 {x0 : Nat} {again10 : (Int32 × Int32 × zS) → Option (Int32 × zS)} (ihagain10 : ∀ s : Int32 × Int32 × zS, s.2.2.2.1 = L → Pt (again10 s) (fun r => r.2.2.1 = L)) {s : Int32 × Int32 × zS} (hj : s.2.2.2.1 = L) : Pt (F_X2_pick_10 N x0 again10 s) (fun r => r.2.2.1 = L) := by
  obtain ⟨x2, x3, σ⟩ := s
  rw [F_X2_pick_10.eq_1]
  exact pt_if (fun _ => pt_some hj) (fun _ => pj_a (fun _ => pj_a (fun _ => pt_zb (jf_J13_bitCount_95d88 hj) (fun _ _ h1 => pt_if (fun _ => (ihagain10 _ h1)) (fun _ => pj_a (fun _ => pj_a (fun _ => pj_a (fun _ => pt_zb (jf_X2_pickInWord h1) (fun _ _ h2 => pt_some h2)))))))))
theorem jf_X2_pick {x0 : Nat} {x1 : Int32} {σ : zS}  (hj : σ.2.1 = L) : Pt (f_X2_pick N x0 x1 σ) (fun r => r.2.2.1 = L) := by
  rw [f_X2_pick.eq_1]
  exact pt_if (fun _ => pt_lp (fun s => s.2.2.2.1 = L) (fun again s hI ih => jF_X2_pick_10 ih hI) N _ hj) (fun _ => pt_some hj)
theorem jF_X3_isGathered_3 {x0 : Nat} {x1 : Int64} {x3 : Int32} {again3 : (Int32 × zS) → Option (Int32 × zS)} (ihagain3 : ∀ s : Int32 × zS, s.2.2.1 = L → Pt (again3 s) (fun r => r.2.2.1 = L)) {s : Int32 × zS} (hj : s.2.2.1 = L) : Pt (F_X3_isGathered_3 N x0 x1 x3 again3 s) (fun r => r.2.2.1 = L) := by
  obtain ⟨x4, σ⟩ := s
  rw [F_X3_isGathered_3.eq_1]
  exact pt_if (fun _ => pt_rZ hj) (fun _ => pt_if (fun _ => pt_rZ hj) (fun _ => pj_a (fun _ => pj_a (fun _ => pt_if (fun _ => pt_rZ hj) (fun _ => (ihagain3 _ hj))))))
theorem jf_X3_isGathered {x0 : Nat} {x1 : Int64} {x3 : Int32} {σ : zS}  (hj : σ.2.1 = L) : Pt (f_X3_isGathered N x0 x1 x3 σ) (fun r => r.2.2.1 = L) := by
  rw [f_X3_isGathered.eq_1]
  exact pt_lp (fun s => s.2.2.1 = L) (fun again s hI ih => jF_X3_isGathered_3 ih hI) N _ hj
theorem jJ_X3_gatherParts_100 {again54 : (Int32 × Int32 × Int32 × zS) → Option (Int32 × zS)} {x0 : Nat} {x1 : Int64} {x3 : Int32} {x5 : Int64} {x8 : Int32} {x9 : Int32} {x7 : Int32} {σ : zS} (ihagain54 : ∀ s : Int32 × Int32 × Int32 × zS, s.2.2.2.2.1 = L → Pt (again54 s) (fun r => r.2.2.1 = L)) (hj : σ.2.1 = L) : Pt (J_X3_gatherParts_100 N again54 x0 x1 x3 x5 x8 x9 x7 σ) (fun r => r.2.2.1 = L) := by
  rw [J_X3_gatherParts_100.eq_1]
  exact pt_if (fun _ => pt_some hj) (fun _ => (ihagain54 _ hj))
theorem jF_X3_partsWith_30 {x0 : Nat} {x2 : Int32} {x3 : Int64} {again30 : (Int32 × Int32 × zS) → Option (Int32 × zS)} (ihagain30 : ∀ s : Int32 × Int32 × zS, s.2.2.2.1 = L → Pt (again30 s) (fun r => r.2.2.1 = L)) {s : Int32 × Int32 × zS} (hj : s.2.2.2.1 = L) : Pt (F_X3_partsWith_30 N x0 x2 x3 again30 s) (fun r => r.2.2.1 = L) := by
  obtain ⟨x5, x6, σ⟩ := s
  rw [F_X3_partsWith_30.eq_1]
  exact pt_if (fun _ => pt_some hj) (fun _ => pt_if (fun _ => pt_some hj) (fun _ => pj_a (fun _ => pj_a (fun _ => pt_if (fun _ => (ihagain30 _ hj)) (fun _ => (ihagain30 _ hj))))))
theorem jJ_X3_partsWith_23 {x0 : Nat} {x2 : Int32} {y0 : Int64} {σ : zS}  (hj : σ.2.1 = L) : Pt (J_X3_partsWith_23 N x0 x2 y0 σ) (fun r => r.2.2.1 = L) := by
  rw [J_X3_partsWith_23.eq_1]
  exact pt_lp (fun s => s.2.2.2.1 = L) (fun again s hI ih => jF_X3_partsWith_30 ih hI) N _ hj
theorem jf_X3_partsWith {x0 : Nat} {x1 : Int32} {x2 : Int32} {σ : zS}  (hj : σ.2.1 = L) : Pt (f_X3_partsWith N x0 x1 x2 σ) (fun r => r.2.2.1 = L) := by
  rw [f_X3_partsWith.eq_1]
  exact pt_if (fun _ => (jJ_X3_partsWith_23 hj)) (fun _ => pt_if (fun _ => (jJ_X3_partsWith_23 hj)) (fun _ => pj_a (fun _ => (jJ_X3_partsWith_23 hj))))
theorem jF_X3_weighAll_59 {x0 : Nat} {x1 : Nat} {x2 : Int32} {x3 : Int32} {x4 : Int32} {x5 : Int32} {again27 : (Int32 × zS) → Option (Unit × zS)} {again59 : (Int32 × zS) → Option (Unit × zS)} (ihagain27 : ∀ s : Int32 × zS, s.2.2.1 = L → Pt (again27 s) (fun r => r.2.2.1 = L)) (ihagain59 : ∀ s : Int32 × zS, s.2.2.1 = L → Pt (again59 s) (fun r => r.2.2.1 = L)) {s : Int32 × zS} (hj : s.2.2.1 = L) : Pt (F_X3_weighAll_59 N x0 x1 x2 x3 x4 x5 again27 again59 s) (fun r => r.2.2.1 = L) := by
  obtain ⟨x6, σ⟩ := s
  rw [F_X3_weighAll_59.eq_1]
  exact pt_if (fun _ => (ihagain27 _ hj)) (fun _ => pt_if (fun _ => (ihagain27 _ hj)) (fun _ => pt_if (fun _ => pj_a (fun _ => pt_zb (jf_X3_partsWith hj) (fun _ _ h1 => pj_a (fun _ => pj_a (fun _ => pj_a (fun _ => pj_a (fun _ => pt_if (fun _ => (ihagain59 _ h1)) (fun _ => pj_a (fun _ => pj_s (j_sI h1) (fun _ h2 => pj_a (fun _ => pj_s (j_sI h2) (fun _ h3 => (ihagain59 _ h3))))))))))))) (fun _ => (ihagain59 _ hj))))
theorem jf_X3_fewest {x0 : Nat} {σ : zS}  (hj : σ.2.1 = L) : Pt (f_X3_fewest N x0 σ) (fun r => r.2.2.1 = L) := by
  rw [f_X3_fewest.eq_1]
  exact pj_a (fun _ => pj_a (fun _ => pt_some hj))
theorem jF_X3_nameAt_4 {x0 : Nat} {x1 : Int32} {again4 : (Int32 × Int32 × zS) → Option (Int32 × zS)} (ihagain4 : ∀ s : Int32 × Int32 × zS, s.2.2.2.1 = L → Pt (again4 s) (fun r => r.2.2.1 = L)) {s : Int32 × Int32 × zS} (hj : s.2.2.2.1 = L) : Pt (F_X3_nameAt_4 N x0 x1 again4 s) (fun r => r.2.2.1 = L) := by
  obtain ⟨x2, x3, σ⟩ := s
  rw [F_X3_nameAt_4.eq_1]
  exact pt_if (fun _ => pj_a (fun _ => pj_a (fun _ => pt_some hj))) (fun _ => pt_if (fun _ => pj_a (fun _ => pj_a (fun _ => pt_some hj))) (fun _ => pj_a (fun _ => pj_a (fun _ => (ihagain4 _ hj)))))
theorem jf_X3_nameAt {x0 : Nat} {x1 : Int32} {σ : zS}  (hj : σ.2.1 = L) : Pt (f_X3_nameAt N x0 x1 σ) (fun r => r.2.2.1 = L) := by
  rw [f_X3_nameAt.eq_1]
  exact pt_lp (fun s => s.2.2.2.1 = L) (fun again s hI ih => jF_X3_nameAt_4 ih hI) N _ hj
theorem jF_X10_placeOf_2 {x0 : Nat} {x1 : Int32} {again2 : (Int32 × zS) → Option (Int32 × zS)} (ihagain2 : ∀ s : Int32 × zS, s.2.2.1 = L → Pt (again2 s) (fun r => r.2.2.1 = L)) {s : Int32 × zS} (hj : s.2.2.1 = L) : Pt (F_X10_placeOf_2 N x0 x1 again2 s) (fun r => r.2.2.1 = L) := by
  obtain ⟨x2, σ⟩ := s
  rw [F_X10_placeOf_2.eq_1]
  exact pj_a (fun _ => pt_if (fun _ => pt_some hj) (fun _ => pt_if (fun _ => pt_some hj) (fun _ => pj_a (fun _ => pj_a (fun _ => pt_if (fun _ => pt_some hj) (fun _ => (ihagain2 _ hj)))))))
theorem jf_X10_placeOf {x0 : Nat} {x1 : Int32} {σ : zS}  (hj : σ.2.1 = L) : Pt (f_X10_placeOf N x0 x1 σ) (fun r => r.2.2.1 = L) := by
  rw [f_X10_placeOf.eq_1]
  exact pt_lp (fun s => s.2.2.1 = L) (fun again s hI ih => jF_X10_placeOf_2 ih hI) N _ hj
theorem jF_X10_moveName_37 {x0 : Nat} {x1 : Int32} {x2 : Int32} {x3 : Int32} {x4 : Int32} {again37 : (Int32 × zS) → Option (Int32 × zS)} (ihagain37 : ∀ s : Int32 × zS, s.2.2.1 = L → Pt (again37 s) (fun r => r.2.2.1 = L)) {s : Int32 × zS} (hj : s.2.2.1 = L) : Pt (F_X10_moveName_37 N x0 x1 x2 x3 x4 again37 s) (fun r => r.2.2.1 = L) := by
  obtain ⟨x5, σ⟩ := s
  rw [F_X10_moveName_37.eq_1]
  exact pt_if (fun _ => pj_a (fun _ => pj_s (j_sI hj) (fun _ h1 => pt_some h1))) (fun _ => pt_if (fun _ => pj_a (fun _ => pj_s (j_sI hj) (fun _ h2 => pt_some h2))) (fun _ => pt_if (fun _ => pj_a (fun _ => pj_s (j_sI hj) (fun _ h3 => pt_some h3))) (fun _ => pj_a (fun _ => pj_a (fun _ => pj_a (fun _ => pj_s (j_sI hj) (fun _ h4 => (ihagain37 _ h4))))))))
theorem jJ_X10_moveName_32 {x0 : Nat} {x1 : Int32} {x2 : Int32} {x3 : Int32} {y0 : Int32} {σ : zS}  (hj : σ.2.1 = L) : Pt (J_X10_moveName_32 N x0 x1 x2 x3 y0 σ) (fun r => r.2.2.1 = L) := by
  rw [J_X10_moveName_32.eq_1]
  exact pt_lp (fun s => s.2.2.1 = L) (fun again s hI ih => jF_X10_moveName_37 ih hI) N _ hj
theorem jf_X10_moveName {x0 : Nat} {x1 : Int32} {x2 : Int32} {σ : zS}  (hj : σ.2.1 = L) : Pt (f_X10_moveName N x0 x1 x2 σ) (fun r => r.2.2.1 = L) := by
  rw [f_X10_moveName.eq_1]
  exact pj_a (fun _ => pt_zb (jf_X10_placeOf hj) (fun _ _ h1 => pt_if (fun _ => pt_some h1) (fun _ => pt_if (fun _ => pt_some h1) (fun _ => pt_if (fun _ => pt_if (fun _ => (jJ_X10_moveName_32 h1)) (fun _ => (jJ_X10_moveName_32 h1))) (fun _ => pt_some h1)))))
theorem jF_X3_siftAll_32 {x1 : Nat} {x2 : Nat} {x3 : Nat} {x5 : Int32} {again6 : (Int32 × Int32 × zS) → Option (Int32 × zS)} {again32 : (Int32 × Int32 × Int32 × zS) → Option (Int32 × zS)} (ihagain6 : ∀ s : Int32 × Int32 × zS, s.2.2.2.1 = L → Pt (again6 s) (fun r => r.2.2.1 = L)) (ihagain32 : ∀ s : Int32 × Int32 × Int32 × zS, s.2.2.2.2.1 = L → Pt (again32 s) (fun r => r.2.2.1 = L)) {s : Int32 × Int32 × Int32 × zS} (hj : s.2.2.2.2.1 = L) : Pt (F_X3_siftAll_32 N x1 x2 x3 x5 again6 again32 s) (fun r => r.2.2.1 = L) := by
  obtain ⟨x4, x6, x7, σ⟩ := s
  rw [F_X3_siftAll_32.eq_1]
  exact pj_a (fun _ => pt_if (fun _ => pj_a (fun _ => pt_zb (jf_X10_moveName hj) (fun _ _ h1 => (ihagain6 _ h1)))) (fun _ => pt_if (fun _ => pj_a (fun _ => pt_zb (jf_X10_moveName hj) (fun _ _ h2 => (ihagain6 _ h2)))) (fun _ => pj_a (fun _ => pt_zb (jf_X10_moveName hj) (fun _ _ h3 => pj_a (fun _ => pt_zb (jf_X1_tallyOf h3) (fun _ _ h4 => pt_if (fun _ => (ihagain32 _ h4)) (fun _ => (ihagain32 _ h4)))))))))
theorem jF_X3_siftAll_6 {x1 : Nat} {x2 : Nat} {x3 : Nat} {again6 : (Int32 × Int32 × zS) → Option (Int32 × zS)} (ihagain6 : ∀ s : Int32 × Int32 × zS, s.2.2.2.1 = L → Pt (again6 s) (fun r => r.2.2.1 = L)) {s : Int32 × Int32 × zS} (hj : s.2.2.2.1 = L) : Pt (F_X3_siftAll_6 N x1 x2 x3 again6 s) (fun r => r.2.2.1 = L) := by
  obtain ⟨x4, x5, σ⟩ := s
  rw [F_X3_siftAll_6.eq_1]
  exact pj_a (fun _ => pt_if (fun _ => pt_some hj) (fun _ => pt_if (fun _ => pt_some hj) (fun _ => pt_lp (fun s => s.2.2.2.2.1 = L) (fun again s hI ih => jF_X3_siftAll_32 ihagain6 ih hI) N _ hj)))
theorem jf_X3_siftAll {x0 : Nat} {x1 : Nat} {x2 : Nat} {x3 : Nat} {σ : zS}  (hj : σ.2.1 = L) : Pt (f_X3_siftAll N x0 x1 x2 x3 σ) (fun r => r.2.2.1 = L) := by
  rw [f_X3_siftAll.eq_1]
  exact pt_lp (fun s => s.2.2.2.1 = L) (fun again s hI ih => jF_X3_siftAll_6 ih hI) N _ hj
theorem jF_X4_load_18 {x0 : Nat} {x1 : Nat} {again18 : (Int32 × Int32 × zS) → Option (Unit × zS)} (ihagain18 : ∀ s : Int32 × Int32 × zS, s.2.2.2.1 = L → Pt (again18 s) (fun r => r.2.2.1 = L)) {s : Int32 × Int32 × zS} (hj : s.2.2.2.1 = L) : Pt (F_X4_load_18 N x0 x1 again18 s) (fun r => r.2.2.1 = L) := by
  obtain ⟨x2, x3, σ⟩ := s
  rw [F_X4_load_18.eq_1]
  exact pt_if (fun _ => pt_some hj) (fun _ => pt_if (fun _ => pt_some hj) (fun _ => pj_a (fun _ => pj_s (j_sI hj) (fun _ h1 => pj_a (fun _ => pj_s (j_pI h1) (fun _ h2 => pj_a (fun _ => pj_s (j_pI h2) (fun _ h3 => pj_a (fun _ => pt_zb (jf_X2_firstFrom h3) (fun _ _ h4 => (ihagain18 _ h4)))))))))))
theorem jf_X4_load {x0 : Nat} {x1 : Nat} {σ : zS}  (hj : σ.2.1 = L) : Pt (f_X4_load N x0 x1 σ) (fun r => r.2.2.1 = L) := by
  rw [f_X4_load.eq_1]
  exact pj_s (j_pI hj) (fun _ h1 => pj_s (j_pI h1) (fun _ h2 => pj_a (fun _ => pt_zb (jf_X2_firstFrom h2) (fun _ _ h3 => pt_lp (fun s => s.2.2.2.1 = L) (fun again s hI ih => jF_X4_load_18 ih hI) N _ h3))))
theorem jf_X5_isDigit {x0 : Int32} {σ : zS}  (hj : σ.2.1 = L) : Pt (f_X5_isDigit N x0 σ) (fun r => r.2.2.1 = L) := by
  rw [f_X5_isDigit.eq_1]
  exact pt_if (fun _ => pt_rZ hj) (fun _ => pt_if (fun _ => pt_rZ hj) (fun _ => pt_rZ hj))
theorem jf_X5_isLetter {x0 : Int32} {σ : zS}  (hj : σ.2.1 = L) : Pt (f_X5_isLetter N x0 σ) (fun r => r.2.2.1 = L) := by
  rw [f_X5_isLetter.eq_1]
  exact pt_if (fun _ => pt_rZ hj) (fun _ => pt_if (fun _ => pt_rZ hj) (fun _ => pt_rZ hj))
theorem jf_X5_combination {x0 : Int32} {σ : zS}  (hj : σ.2.1 = L) : Pt (f_X5_combination N x0 σ) (fun r => r.2.2.1 = L) := by
  rw [f_X5_combination.eq_1]
  exact pt_if (fun _ => pt_some hj) (fun _ => pt_if (fun _ => pt_some hj) (fun _ => pt_if (fun _ => pt_some hj) (fun _ => pt_if (fun _ => pt_some hj) (fun _ => pt_if (fun _ => pt_some hj) (fun _ => pt_if (fun _ => pt_some hj) (fun _ => pt_if (fun _ => pt_some hj) (fun _ => pt_if (fun _ => pt_some hj) (fun _ => pt_if (fun _ => pt_some hj) (fun _ => pt_if (fun _ => pt_some hj) (fun _ => pt_if (fun _ => pt_some hj) (fun _ => pt_if (fun _ => pt_some hj) (fun _ => pt_if (fun _ => pt_some hj) (fun _ => pt_some hj)))))))))))))
theorem jf_X5_isSign {x0 : Int32} {σ : zS}  (hj : σ.2.1 = L) : Pt (f_X5_isSign N x0 σ) (fun r => r.2.2.1 = L) := by
  rw [f_X5_isSign.eq_1]
  exact pt_if (fun _ => pt_rZ hj) (fun _ => pt_if (fun _ => pt_rZ hj) (fun _ => pt_if (fun _ => pt_rZ hj) (fun _ => pt_if (fun _ => pt_rZ hj) (fun _ => pt_if (fun _ => pt_rZ hj) (fun _ => pt_if (fun _ => pt_rZ hj) (fun _ => pt_if (fun _ => pt_rZ hj) (fun _ => pt_zb (jf_X5_combination hj) (fun _ _ h1 => pt_if (fun _ => pt_rZ h1) (fun _ => pt_rZ h1)))))))))
theorem jF_X5_splitNumber_5 {x0 : Nat} {x1 : Int32} {again5 : (Int32 × Int32 × zS) → Option (Int32 × zS)} (ihagain5 : ∀ s : Int32 × Int32 × zS, s.2.2.2.1 = L → Pt (again5 s) (fun r => r.2.2.1 = L)) {s : Int32 × Int32 × zS} (hj : s.2.2.2.1 = L) : Pt (F_X5_splitNumber_5 N x0 x1 again5 s) (fun r => r.2.2.1 = L) := by
  obtain ⟨x3, x4, σ⟩ := s
  rw [F_X5_splitNumber_5.eq_1]
  exact pj_a (fun _ => pt_if (fun _ => pj_a (fun _ => pj_s (j_sI hj) (fun _ h1 => pj_a (fun _ => pj_s (j_sI h1) (fun _ h2 => pt_some h2))))) (fun _ => pj_a (fun _ => pj_a (fun _ => pt_zb (jf_X5_isDigit hj) (fun _ _ h3 => pt_if (fun _ => pj_a (fun _ => pj_s (j_sI h3) (fun _ h4 => pj_a (fun _ => pj_s (j_sI h4) (fun _ h5 => pt_some h5))))) (fun _ => pj_a (fun _ => pj_a (fun _ => (ihagain5 _ h3)))))))))
theorem jf_X5_splitNumber {x0 : Nat} {x1 : Int32} {x2 : Int32} {σ : zS}  (hj : σ.2.1 = L) : Pt (f_X5_splitNumber N x0 x1 x2 σ) (fun r => r.2.2.1 = L) := by
  rw [f_X5_splitNumber.eq_1]
  exact pt_lp (fun s => s.2.2.2.1 = L) (fun again s hI ih => jF_X5_splitNumber_5 ih hI) N _ hj
theorem jF_X5_spells_27 {x0 : Nat} {x1 : Nat} {x2 : Int32} {again27 : (Int32 × zS) → Option (Int32 × zS)} (ihagain27 : ∀ s : Int32 × zS, s.2.2.1 = L → Pt (again27 s) (fun r => r.2.2.1 = L)) {s : Int32 × zS} (hj : s.2.2.1 = L) : Pt (F_X5_spells_27 N x0 x1 x2 again27 s) (fun r => r.2.2.1 = L) := by
  obtain ⟨x4, σ⟩ := s
  rw [F_X5_spells_27.eq_1]
  exact pt_zb (jf_J0_length_8abf5 hj) (fun _ _ h1 => pt_if (fun _ => pt_rZ h1) (fun _ => pj_a (fun _ => pj_a (fun _ => pt_zb (jf_J0_charAt_5068e h1) (fun _ _ h2 => pt_if (fun _ => (ihagain27 _ h2)) (fun _ => pt_rZ h2))))))
theorem jf_X5_spells {x0 : Nat} {x1 : Nat} {x2 : Int32} {x3 : Int32} {σ : zS}  (hj : σ.2.1 = L) : Pt (f_X5_spells N x0 x1 x2 x3 σ) (fun r => r.2.2.1 = L) := by
  rw [f_X5_spells.eq_1]
  exact pt_zb (jf_J0_length_8abf5 hj) (fun _ _ h1 => pt_if (fun _ => pt_if (fun _ => pt_rZ h1) (fun _ => pj_a (fun _ => pt_if (fun _ => pt_lp (fun s => s.2.2.1 = L) (fun again s hI ih => jF_X5_spells_27 ih hI) N _ h1) (fun _ => pt_rZ h1)))) (fun _ => pt_rZ h1))
theorem jf_X5_wordValue {x0 : Nat} {x1 : Int32} {x2 : Int32} {σ : zS}  (hj : σ.2.1 = L) : Pt (f_X5_wordValue N x0 x1 x2 σ) (fun r => r.2.2.1 = L) := by
  rw [f_X5_wordValue.eq_1]
  exact pj_a (fun _ => pt_zb (jf_X5_spells hj) (fun _ _ h1 => pt_if (fun _ => pj_a (fun _ => pt_zb (jf_X5_spells h1) (fun _ _ h2 => pt_if (fun _ => pj_a (fun _ => pt_zb (jf_X5_spells h2) (fun _ _ h3 => pt_if (fun _ => pj_a (fun _ => pt_zb (jf_X5_spells h3) (fun _ _ h4 => pt_if (fun _ => pj_a (fun _ => pt_zb (jf_X5_spells h4) (fun _ _ h5 => pt_if (fun _ => pj_a (fun _ => pt_zb (jf_X5_spells h5) (fun _ _ h6 => pt_if (fun _ => pj_a (fun _ => pt_zb (jf_X5_spells h6) (fun _ _ h7 => pt_if (fun _ => pj_a (fun _ => pt_zb (jf_X5_spells h7) (fun _ _ h8 => pt_if (fun _ => pj_a (fun _ => pt_zb (jf_X5_spells h8) (fun _ _ h9 => pt_if (fun _ => pj_a (fun _ => pt_zb (jf_X5_spells h9) (fun _ _ h10 => pt_if (fun _ => pj_a (fun _ => pt_zb (jf_X5_spells h10) (fun _ _ h11 => pt_if (fun _ => pt_some h11) (fun _ => pt_some h11)))) (fun _ => pt_some h10)))) (fun _ => pt_some h9)))) (fun _ => pt_some h8)))) (fun _ => pt_some h7)))) (fun _ => pt_some h6)))) (fun _ => pt_some h5)))) (fun _ => pt_some h4)))) (fun _ => pt_some h3)))) (fun _ => pt_some h2)))) (fun _ => pt_some h1)))
theorem jJ_X5_splitWord_28 {x0 : Nat} {x1 : Int32} {x2 : Int32} {x3 : Int32} {σ : zS}  (hj : σ.2.1 = L) : Pt (J_X5_splitWord_28 N x0 x1 x2 x3 σ) (fun r => r.2.2.1 = L) := by
  rw [J_X5_splitWord_28.eq_1]
  exact pj_a (fun _ => pj_s (j_sI hj) (fun _ h1 => pj_a (fun _ => pj_a (fun _ => pt_zb (jf_X5_wordValue h1) (fun _ _ h2 => pj_s (j_sI h2) (fun _ h3 => pt_some h3))))))
theorem jF_X5_splitWord_2 {x0 : Nat} {x1 : Int32} {x2 : Int32} {again2 : (Int32 × zS) → Option (Int32 × zS)} (ihagain2 : ∀ s : Int32 × zS, s.2.2.1 = L → Pt (again2 s) (fun r => r.2.2.1 = L)) {s : Int32 × zS} (hj : s.2.2.1 = L) : Pt (F_X5_splitWord_2 N x0 x1 x2 again2 s) (fun r => r.2.2.1 = L) := by
  obtain ⟨x3, σ⟩ := s
  rw [F_X5_splitWord_2.eq_1]
  exact pj_a (fun _ => pt_if (fun _ => (jJ_X5_splitWord_28 hj)) (fun _ => pj_a (fun _ => pj_a (fun _ => pt_zb (jf_X5_isLetter hj) (fun _ _ h1 => pt_if (fun _ => (jJ_X5_splitWord_28 h1)) (fun _ => (ihagain2 _ h1)))))))
theorem jf_X5_splitWord {x0 : Nat} {x1 : Int32} {x2 : Int32} {σ : zS}  (hj : σ.2.1 = L) : Pt (f_X5_splitWord N x0 x1 x2 σ) (fun r => r.2.2.1 = L) := by
  rw [f_X5_splitWord.eq_1]
  exact pt_lp (fun s => s.2.2.1 = L) (fun again s hI ih => jF_X5_splitWord_2 ih hI) N _ hj
theorem jJ_X5_split_142 {x0 : Nat} {x1 : Int32} {σ : zS}  (hj : σ.2.1 = L) : Pt (J_X5_split_142 N x0 x1 σ) (fun r => r.2.2.1 = L) := by
  rw [J_X5_split_142.eq_1]
  exact pj_a (fun _ => pj_s (j_sI hj) (fun _ h1 => pj_a (fun _ => pj_a (fun _ => pj_s (j_sI h1) (fun _ h2 => pj_a (fun _ => pj_a (fun _ => pj_s (j_sI h2) (fun _ h3 => pt_some h3))))))))
theorem jF_X5_split_4 {x0 : Nat} {again4 : (Int32 × Int32 × zS) → Option (Unit × zS)} (ihagain4 : ∀ s : Int32 × Int32 × zS, s.2.2.2.1 = L → Pt (again4 s) (fun r => r.2.2.1 = L)) {s : Int32 × Int32 × zS} (hj : s.2.2.2.1 = L) : Pt (F_X5_split_4 N x0 again4 s) (fun r => r.2.2.1 = L) := by
  obtain ⟨x1, x2, σ⟩ := s
  rw [F_X5_split_4.eq_1]
  exact pj_a (fun _ => pt_if (fun _ => (jJ_X5_split_142 hj)) (fun _ => pt_if (fun _ => (jJ_X5_split_142 hj)) (fun _ => pj_a (fun _ => pj_a (fun _ => pt_if (fun _ => (ihagain4 _ hj)) (fun _ => pj_a (fun _ => pj_a (fun _ => pt_if (fun _ => (ihagain4 _ hj)) (fun _ => pj_a (fun _ => pj_s (j_sI hj) (fun _ h1 => pj_a (fun _ => pj_a (fun _ => pt_zb (jf_X5_isLetter h1) (fun _ _ h2 => pt_if (fun _ => pj_a (fun _ => pj_a (fun _ => pt_zb (jf_X5_isDigit h2) (fun _ _ h3 => pt_if (fun _ => pj_a (fun _ => pj_a (fun _ => pj_a (fun _ => pt_zb (jf_X5_isSign h3) (fun _ _ h4 => pt_if (fun _ => pj_s (j_sI h4) (fun _ h5 => pj_a (fun _ => pj_s (j_sI h5) (fun _ h6 => (ihagain4 _ h6))))) (fun _ => pj_a (fun _ => pj_a (fun _ => pj_s (j_sI h4) (fun _ h7 => pj_a (fun _ => pj_s (j_sI h7) (fun _ h8 => (ihagain4 _ h8)))))))))))) (fun _ => pj_a (fun _ => pt_zb (jf_X5_splitNumber h3) (fun _ _ h9 => pj_a (fun _ => pj_s (j_sI h9) (fun _ h10 => (ihagain4 _ h10)))))))))) (fun _ => pj_a (fun _ => pt_zb (jf_X5_splitWord h2) (fun _ _ h11 => pj_a (fun _ => pj_s (j_sI h11) (fun _ h12 => (ihagain4 _ h12))))))))))))))))))))
theorem jf_X5_split {x0 : Nat} {σ : zS}  (hj : σ.2.1 = L) : Pt (f_X5_split N x0 σ) (fun r => r.2.2.1 = L) := by
  rw [f_X5_split.eq_1]
  exact pt_lp (fun s => s.2.2.2.1 = L) (fun again s hI ih => jF_X5_split_4 ih hI) N _ hj
theorem jf_X5_open {x0 : Nat} {x1 : Nat} {x2 : Int32} {σ : zS}  (hj : σ.2.1 = L) : Pt (f_X5_open N x0 x1 x2 σ) (fun r => r.2.2.1 = L) := by
  rw [f_X5_open.eq_1]
  exact pj_s (j_pR hj) (fun _ h1 => pj_a (fun _ => pj_s (j_pI h1) (fun _ h2 => pj_s (j_pI h2) (fun _ h3 => pj_s (j_pI h3) (fun _ h4 => pj_s (j_pI h4) (fun _ h5 => pj_s (j_pI h5) (fun _ h6 => pj_s (j_pI h6) (fun _ h7 => pj_s (j_pI h7) (fun _ h8 => pj_a (fun _ => pt_zb (jf_X5_split h8) (fun _ _ h9 => pt_some h9)))))))))))
theorem jf_X5_emit {x0 : Nat} {x1 : Int32} {x2 : Int32} {σ : zS}  (hj : σ.2.1 = L) : Pt (f_X5_emit N x0 x1 x2 σ) (fun r => r.2.2.1 = L) := by
  rw [f_X5_emit.eq_1]
  exact pj_a (fun _ => pt_if (fun _ => pt_rZ hj) (fun _ => pj_a (fun _ => pt_if (fun _ => pt_rZ hj) (fun _ => pj_a (fun _ => pj_a (fun _ => pj_s (j_sI hj) (fun _ h1 => pj_a (fun _ => pj_a (fun _ => pj_s (j_sI h1) (fun _ h2 => pj_a (fun _ => pj_s (j_pI h2) (fun _ h3 => pt_rZ h3))))))))))))
theorem jf_X5_advance {x0 : Nat} {x1 : Int32} {x2 : Int32} {σ : zS}  (hj : σ.2.1 = L) : Pt (f_X5_advance N x0 x1 x2 σ) (fun r => r.2.2.1 = L) := by
  rw [f_X5_advance.eq_1]
  exact pt_if (fun _ => pj_s (j_pI hj) (fun _ h1 => pj_a (fun _ => pj_a (fun _ => pj_a (fun _ => pj_s (j_pI h1) (fun _ h2 => pt_rZ h2)))))) (fun _ => pj_a (fun _ => pj_a (fun _ => pj_a (fun _ => pt_if (fun _ => pt_rZ hj) (fun _ => pj_a (fun _ => pt_if (fun _ => pt_rZ hj) (fun _ => pj_a (fun _ => pj_s (j_pI hj) (fun _ h3 => pt_rZ h3)))))))))
theorem jf_X5_fail {x0 : Nat} {x1 : Int32} {σ : zS}  (hj : σ.2.1 = L) : Pt (f_X5_fail N x0 x1 σ) (fun r => r.2.2.1 = L) := by
  rw [f_X5_fail.eq_1]
  exact pj_a (fun _ => pt_zb (jf_X5_advance hj) (fun _ _ h1 => pt_rZ h1))
theorem jf_X5_pass {x0 : Nat} {x1 : Int32} {σ : zS}  (hj : σ.2.1 = L) : Pt (f_X5_pass N x0 x1 σ) (fun r => r.2.2.1 = L) := by
  rw [f_X5_pass.eq_1]
  exact pj_a (fun _ => pj_a (fun _ => pj_a (fun _ => pt_if (fun _ => pj_a (fun _ => pt_zb (jf_X5_advance hj) (fun _ _ h1 => pt_rZ h1))) (fun _ => pj_a (fun _ => pt_zb (jf_X5_advance hj) (fun _ _ h2 => pt_rZ h2))))))
theorem jf_X5_passNumber {x0 : Nat} {x1 : Int32} {x2 : Int32} {σ : zS}  (hj : σ.2.1 = L) : Pt (f_X5_passNumber N x0 x1 x2 σ) (fun r => r.2.2.1 = L) := by
  rw [f_X5_passNumber.eq_1]
  exact pj_a (fun _ => pj_a (fun _ => pj_a (fun _ => pt_if (fun _ => pj_a (fun _ => pj_a (fun _ => pj_a (fun _ => pt_if (fun _ => pj_a (fun _ => pt_zb (jf_X5_advance hj) (fun _ _ h1 => pt_rZ h1))) (fun _ => pj_a (fun _ => pj_a (fun _ => pj_a (fun _ => pt_if (fun _ => pj_a (fun _ => pt_zb (jf_X5_advance hj) (fun _ _ h2 => pt_rZ h2))) (fun _ => pj_a (fun _ => pt_zb (jf_X5_advance hj) (fun _ _ h3 => pt_rZ h3))))))))))) (fun _ => pj_a (fun _ => pt_zb (jf_X5_fail hj) (fun _ _ h4 => pt_rZ h4))))))
theorem jf_X10_addEdge {x0 : Nat} {x1 : Int32} {x2 : Int32} {σ : zS}  (hj : σ.2.1 = L) : Pt (f_X10_addEdge N x0 x1 x2 σ) (fun r => r.2.2.1 = L) := by
  rw [f_X10_addEdge.eq_1]
  exact pj_a (fun _ => pt_if (fun _ => pt_some hj) (fun _ => pj_a (fun _ => pt_if (fun _ => pt_some hj) (fun _ => pj_a (fun _ => pj_a (fun _ => pj_s (j_sI hj) (fun _ h1 => pj_a (fun _ => pj_a (fun _ => pj_s (j_sI h1) (fun _ h2 => pj_a (fun _ => pj_s (j_pI h2) (fun _ h3 => pt_some h3))))))))))))
theorem jf_X5_passed {x0 : Nat} {σ : zS}  (hj : σ.2.1 = L) : Pt (f_X5_passed N x0 σ) (fun r => r.2.2.1 = L) := by
  rw [f_X5_passed.eq_1]
  exact pj_a (fun _ => pt_if (fun _ => pt_some hj) (fun _ => pj_a (fun _ => pj_a (fun _ => pj_a (fun _ => pt_some hj)))))
theorem jJ_X5_readEdge_49 {x0 : Nat} {x1 : Nat} {x2 : Int32} {σ : zS}  (hj : σ.2.1 = L) : Pt (J_X5_readEdge_49 N x0 x1 x2 σ) (fun r => r.2.2.1 = L) := by
  rw [J_X5_readEdge_49.eq_1]
  exact pj_a (fun _ => pt_zb (jf_X5_passNumber hj) (fun _ _ h1 => pt_if (fun _ => pt_rZ h1) (fun _ => pj_a (fun _ => pt_zb (jf_X5_passed h1) (fun _ _ h2 => pj_a (fun _ => pt_zb (jf_X10_addEdge h2) (fun _ _ h3 => pt_rZ h3)))))))
theorem jf_X5_readEdge {x0 : Nat} {x1 : Nat} {σ : zS}  (hj : σ.2.1 = L) : Pt (f_X5_readEdge N x0 x1 σ) (fun r => r.2.2.1 = L) := by
  rw [f_X5_readEdge.eq_1]
  exact pj_a (fun _ => pt_zb (jf_X5_passNumber hj) (fun _ _ h1 => pt_if (fun _ => pt_rZ h1) (fun _ => pj_a (fun _ => pt_zb (jf_X5_passed h1) (fun _ _ h2 => pj_a (fun _ => pj_a (fun _ => pj_a (fun _ => pt_if (fun _ => pj_a (fun _ => pj_a (fun _ => pj_a (fun _ => pt_if (fun _ => pj_a (fun _ => pt_zb (jf_X5_fail h2) (fun _ _ h3 => pt_rZ h3))) (fun _ => (jJ_X5_readEdge_49 h2)))))) (fun _ => (jJ_X5_readEdge_49 h2))))))))))
theorem jf_X5_readNames {x0 : Nat} {x1 : Nat} {σ : zS}  (hj : σ.2.1 = L) : Pt (f_X5_readNames N x0 x1 σ) (fun r => r.2.2.1 = L) := by
  rw [f_X5_readNames.eq_1]
  exact pj_a (fun _ => pt_zb (jf_X5_passNumber hj) (fun _ _ h1 => pt_if (fun _ => pt_rZ h1) (fun _ => pj_a (fun _ => pt_zb (jf_X5_passed h1) (fun _ _ h2 => pj_s (j_pI h2) (fun _ h3 => pj_a (fun _ => pj_s (j_pI h3) (fun _ h4 => pt_rZ h4))))))))
theorem jJ_X5_readWeight_83 {x0 : Nat} {x1 : Nat} {x2 : Int32} {y0 : Int32} {σ : zS}  (hj : σ.2.1 = L) : Pt (J_X5_readWeight_83 N x0 x1 x2 y0 σ) (fun r => r.2.2.1 = L) := by
  rw [J_X5_readWeight_83.eq_1]
  exact pj_a (fun _ => pt_zb (jf_X5_advance hj) (fun _ _ h1 => pt_if (fun _ => pt_rZ h1) (fun _ => pj_a (fun _ => pt_zb (jf_X5_passNumber h1) (fun _ _ h2 => pt_if (fun _ => pt_rZ h2) (fun _ => pj_a (fun _ => pj_a (fun _ => pt_zb (jf_X5_passed h2) (fun _ _ h3 => pj_s (j_sI h3) (fun _ h4 => pt_rZ h4))))))))))
theorem jf_X5_readWeight {x0 : Nat} {x1 : Nat} {σ : zS}  (hj : σ.2.1 = L) : Pt (f_X5_readWeight N x0 x1 σ) (fun r => r.2.2.1 = L) := by
  rw [f_X5_readWeight.eq_1]
  exact pj_a (fun _ => pj_a (fun _ => pj_a (fun _ => pt_if (fun _ => pj_a (fun _ => pj_a (fun _ => pj_a (fun _ => pj_a (fun _ => pj_a (fun _ => pj_a (fun _ => pt_if (fun _ => pj_a (fun _ => pj_a (fun _ => pj_a (fun _ => pj_a (fun _ => pj_a (fun _ => pt_if (fun _ => (jJ_X5_readWeight_83 hj)) (fun _ => pj_a (fun _ => pt_if (fun _ => (jJ_X5_readWeight_83 hj)) (fun _ => pt_if (fun _ => (jJ_X5_readWeight_83 hj)) (fun _ => (jJ_X5_readWeight_83 hj))))))))))) (fun _ => pj_a (fun _ => pt_zb (jf_X5_fail hj) (fun _ _ h1 => pt_rZ h1)))))))))) (fun _ => pj_a (fun _ => pt_zb (jf_X5_fail hj) (fun _ _ h2 => pt_rZ h2))))))
theorem jJ_X5_member_31 {x0 : Nat} {y0 : Int32} {y1 : Nat} {σ : zS}  (hj : σ.2.1 = L) : Pt (J_X5_member_31 N x0 y0 y1 σ) (fun r => r.2.2.1 = L) := by
  rw [J_X5_member_31.eq_1]
  exact pj_a (fun _ => pt_zb (jf_X5_advance hj) (fun _ _ h1 => pt_if (fun _ => pt_rZ h1) (fun _ => pj_a (fun _ => pt_zb (jf_X5_emit h1) (fun _ _ h2 => pt_if (fun _ => pt_rZ h2) (fun _ => pt_rZ h2))))))
theorem jJ_X5_member_173 {x0 : Nat} {x1 : Int32} {x2 : Int32} {σ : zS}  (hj : σ.2.1 = L) : Pt (J_X5_member_173 N x0 x1 x2 σ) (fun r => r.2.2.1 = L) := by
  rw [J_X5_member_173.eq_1]
  exact pj_a (fun _ => pt_zb (jf_X5_advance hj) (fun _ _ h1 => pt_if (fun _ => pt_rZ h1) (fun _ => pj_a (fun _ => pt_zb (jf_X5_emit h1) (fun _ _ h2 => pt_if (fun _ => pt_rZ h2) (fun _ => pt_rZ h2))))))
theorem jJ_X5_member_151 {again87 : (Int32 × Int32 × Int32 × zS) → Option (Int32 × zS)} {x0 : Nat} {x1 : Int32} {x3 : Int32} {x4 : Int32} {y0 : Int32} {σ : zS} (ihagain87 : ∀ s : Int32 × Int32 × Int32 × zS, s.2.2.2.2.1 = L → Pt (again87 s) (fun r => r.2.2.1 = L)) (hj : σ.2.1 = L) : Pt (J_X5_member_151 N again87 x0 x1 x3 x4 y0 σ) (fun r => r.2.2.1 = L) := by
  rw [J_X5_member_151.eq_1]
  exact pt_if (fun _ => (ihagain87 _ hj)) (fun _ => (ihagain87 _ hj))
theorem jF_X5_member_87 {x0 : Nat} {again87 : (Int32 × Int32 × Int32 × zS) → Option (Int32 × zS)} (ihagain87 : ∀ s : Int32 × Int32 × Int32 × zS, s.2.2.2.2.1 = L → Pt (again87 s) (fun r => r.2.2.1 = L)) {s : Int32 × Int32 × Int32 × zS} (hj : s.2.2.2.2.1 = L) : Pt (F_X5_member_87 N x0 again87 s) (fun r => r.2.2.1 = L) := by
  obtain ⟨x1, x2, x3, σ⟩ := s
  rw [F_X5_member_87.eq_1]
  exact pj_a (fun _ => pj_a (fun _ => pj_a (fun _ => pt_if (fun _ => (jJ_X5_member_173 hj)) (fun _ => pj_a (fun _ => pt_if (fun _ => (jJ_X5_member_173 hj)) (fun _ => pj_a (fun _ => pj_a (fun _ => pt_if (fun _ => (jJ_X5_member_151 ihagain87 hj)) (fun _ => pt_if (fun _ => (jJ_X5_member_151 ihagain87 hj)) (fun _ => pj_a (fun _ => pt_if (fun _ => (jJ_X5_member_151 ihagain87 hj)) (fun _ => pt_if (fun _ => (jJ_X5_member_151 ihagain87 hj)) (fun _ => (jJ_X5_member_151 ihagain87 hj))))))))))))))
theorem jf_X5_member {x0 : Nat} {σ : zS}  (hj : σ.2.1 = L) : Pt (f_X5_member N x0 σ) (fun r => r.2.2.1 = L) := by
  rw [f_X5_member.eq_1]
  exact pj_a (fun _ => pj_a (fun _ => pj_a (fun _ => pt_if (fun _ => pj_a (fun _ => pj_a (fun _ => pj_a (fun _ => pt_if (fun _ => (jJ_X5_member_31 hj)) (fun _ => (jJ_X5_member_31 hj)))))) (fun _ => pj_a (fun _ => pj_a (fun _ => pj_a (fun _ => pt_if (fun _ => pj_a (fun _ => pj_a (fun _ => pj_a (fun _ => pt_lp (fun s => s.2.2.2.2.1 = L) (fun again s hI ih => jF_X5_member_87 ih hI) N _ hj)))) (fun _ => pj_a (fun _ => pt_zb (jf_X5_advance hj) (fun _ _ h1 => pt_rZ h1))))))))))
theorem jF_X5_family_37 {x0 : Nat} {again37 : (Int32 × zS) → Option (Int32 × zS)} (ihagain37 : ∀ s : Int32 × zS, s.2.2.1 = L → Pt (again37 s) (fun r => r.2.2.1 = L)) {s : Int32 × zS} (hj : s.2.2.1 = L) : Pt (F_X5_family_37 N x0 again37 s) (fun r => r.2.2.1 = L) := by
  obtain ⟨x1, σ⟩ := s
  rw [F_X5_family_37.eq_1]
  exact pt_if (fun _ => pj_a (fun _ => pt_zb (jf_X5_fail hj) (fun _ _ h1 => pt_rZ h1))) (fun _ => pj_a (fun _ => pt_zb (jf_X5_member hj) (fun _ _ h2 => pt_if (fun _ => pt_rZ h2) (fun _ => pj_a (fun _ => pj_a (fun _ => pj_a (fun _ => pt_if (fun _ => pj_a (fun _ => pt_zb (jf_X5_pass h2) (fun _ _ h3 => (ihagain37 _ h3)))) (fun _ => pj_a (fun _ => pt_zb (jf_X5_pass h2) (fun _ _ h4 => pt_rZ h4))))))))))
theorem jf_X5_family {x0 : Nat} {σ : zS}  (hj : σ.2.1 = L) : Pt (f_X5_family N x0 σ) (fun r => r.2.2.1 = L) := by
  rw [f_X5_family.eq_1]
  exact pj_a (fun _ => pt_zb (jf_X5_pass hj) (fun _ _ h1 => pj_a (fun _ => pt_zb (jf_X5_emit h1) (fun _ _ h2 => pj_a (fun _ => pj_a (fun _ => pj_a (fun _ => pt_if (fun _ => pj_a (fun _ => pt_zb (jf_X5_pass h2) (fun _ _ h3 => pt_rZ h3))) (fun _ => pt_lp (fun s => s.2.2.1 = L) (fun again s hI ih => jF_X5_family_37 ih hI) N _ h2))))))))
theorem jJ_X5_sum_151 {r0 : Nat → Int32 → zS → Option (Int32 × zS)} {r1 : Nat → Int32 → zS → Option (Int32 × zS)} {r2 : Nat → Int32 → Int32 → zS → Option (Int32 × zS)} {x0 : Nat} {x2 : Int32} {σ : zS} (hr0 : ∀ (a0 : Nat) (a1 : Int32) (a2 : zS), a2.2.1 = L → Pt (r0 a0 a1 a2) (fun r => r.2.2.1 = L)) (hr1 : ∀ (a0 : Nat) (a1 : Int32) (a2 : zS), a2.2.1 = L → Pt (r1 a0 a1 a2) (fun r => r.2.2.1 = L)) (hr2 : ∀ (a0 : Nat) (a1 : Int32) (a2 : Int32) (a3 : zS), a3.2.1 = L → Pt (r2 a0 a1 a2 a3) (fun r => r.2.2.1 = L)) (hj : σ.2.1 = L) : Pt (J_X5_sum_151 N r0 r1 r2 x0 x2 σ) (fun r => r.2.2.1 = L) := by
  rw [J_X5_sum_151.eq_1]
  exact pt_if (fun _ => pt_rZ hj) (fun _ => pj_a (fun _ => pt_zb (jf_X5_emit hj) (fun _ _ h1 => pt_if (fun _ => pt_rZ h1) (fun _ => pt_rZ h1))))
theorem jJ_X5_sum_109 {r0 : Nat → Int32 → zS → Option (Int32 × zS)} {r1 : Nat → Int32 → zS → Option (Int32 × zS)} {r2 : Nat → Int32 → Int32 → zS → Option (Int32 × zS)} {again14 : (Int32 × Int32 × zS) → Option (Int32 × zS)} {x0 : Nat} {x1 : Int32} {x2 : Int32} {x3 : Int32} {x4 : Int32} {x5 : Int32} {y0 : Int32} {y1 : Nat} {σ : zS} (hr0 : ∀ (a0 : Nat) (a1 : Int32) (a2 : zS), a2.2.1 = L → Pt (r0 a0 a1 a2) (fun r => r.2.2.1 = L)) (hr1 : ∀ (a0 : Nat) (a1 : Int32) (a2 : zS), a2.2.1 = L → Pt (r1 a0 a1 a2) (fun r => r.2.2.1 = L)) (hr2 : ∀ (a0 : Nat) (a1 : Int32) (a2 : Int32) (a3 : zS), a3.2.1 = L → Pt (r2 a0 a1 a2 a3) (fun r => r.2.2.1 = L)) (ihagain14 : ∀ s : Int32 × Int32 × zS, s.2.2.2.1 = L → Pt (again14 s) (fun r => r.2.2.1 = L)) (hj : σ.2.1 = L) : Pt (J_X5_sum_109 N r0 r1 r2 again14 x0 x1 x2 x3 x4 x5 y0 y1 σ) (fun r => r.2.2.1 = L) := by
  rw [J_X5_sum_109.eq_1]
  exact pj_a (fun _ => pt_zb (jf_X5_advance hj) (fun _ _ h1 => pt_if (fun _ => pt_rZ h1) (fun _ => pj_a (fun _ => pt_zb (hr1 _ _ _ h1) (fun _ _ h2 => pt_if (fun _ => pt_rZ h2) (fun _ => pt_if (fun _ => pj_a (fun _ => pt_zb (jf_X5_emit h2) (fun _ _ h3 => (ihagain14 _ h3)))) (fun _ => (ihagain14 _ h2))))))))
theorem jJ_X5_sum_84 {r0 : Nat → Int32 → zS → Option (Int32 × zS)} {r1 : Nat → Int32 → zS → Option (Int32 × zS)} {r2 : Nat → Int32 → Int32 → zS → Option (Int32 × zS)} {again14 : (Int32 × Int32 × zS) → Option (Int32 × zS)} {x0 : Nat} {x1 : Int32} {x2 : Int32} {x3 : Int32} {x4 : Int32} {x5 : Int32} {σ : zS} (hr0 : ∀ (a0 : Nat) (a1 : Int32) (a2 : zS), a2.2.1 = L → Pt (r0 a0 a1 a2) (fun r => r.2.2.1 = L)) (hr1 : ∀ (a0 : Nat) (a1 : Int32) (a2 : zS), a2.2.1 = L → Pt (r1 a0 a1 a2) (fun r => r.2.2.1 = L)) (hr2 : ∀ (a0 : Nat) (a1 : Int32) (a2 : Int32) (a3 : zS), a3.2.1 = L → Pt (r2 a0 a1 a2 a3) (fun r => r.2.2.1 = L)) (ihagain14 : ∀ s : Int32 × Int32 × zS, s.2.2.2.1 = L → Pt (again14 s) (fun r => r.2.2.1 = L)) (hj : σ.2.1 = L) : Pt (J_X5_sum_84 N r0 r1 r2 again14 x0 x1 x2 x3 x4 x5 σ) (fun r => r.2.2.1 = L) := by
  rw [J_X5_sum_84.eq_1]
  exact pj_a (fun _ => pj_s (j_pI hj) (fun _ h1 => pj_a (fun _ => pt_if (fun _ => (jJ_X5_sum_109 hr0 hr1 hr2 ihagain14 h1)) (fun _ => (jJ_X5_sum_109 hr0 hr1 hr2 ihagain14 h1)))))
theorem jJ_X5_sum_66 {r0 : Nat → Int32 → zS → Option (Int32 × zS)} {r1 : Nat → Int32 → zS → Option (Int32 × zS)} {r2 : Nat → Int32 → Int32 → zS → Option (Int32 × zS)} {again14 : (Int32 × Int32 × zS) → Option (Int32 × zS)} {x0 : Nat} {x1 : Int32} {x2 : Int32} {x3 : Int32} {x4 : Int32} {y0 : Int32} {σ : zS} (hr0 : ∀ (a0 : Nat) (a1 : Int32) (a2 : zS), a2.2.1 = L → Pt (r0 a0 a1 a2) (fun r => r.2.2.1 = L)) (hr1 : ∀ (a0 : Nat) (a1 : Int32) (a2 : zS), a2.2.1 = L → Pt (r1 a0 a1 a2) (fun r => r.2.2.1 = L)) (hr2 : ∀ (a0 : Nat) (a1 : Int32) (a2 : Int32) (a3 : zS), a3.2.1 = L → Pt (r2 a0 a1 a2 a3) (fun r => r.2.2.1 = L)) (ihagain14 : ∀ s : Int32 × Int32 × zS, s.2.2.2.1 = L → Pt (again14 s) (fun r => r.2.2.1 = L)) (hj : σ.2.1 = L) : Pt (J_X5_sum_66 N r0 r1 r2 again14 x0 x1 x2 x3 x4 y0 σ) (fun r => r.2.2.1 = L) := by
  rw [J_X5_sum_66.eq_1]
  exact pt_if (fun _ => (jJ_X5_sum_84 hr0 hr1 hr2 ihagain14 hj)) (fun _ => pt_if (fun _ => (jJ_X5_sum_84 hr0 hr1 hr2 ihagain14 hj)) (fun _ => pj_a (fun _ => pt_zb (jf_X5_emit hj) (fun _ _ h1 => (jJ_X5_sum_84 hr0 hr1 hr2 ihagain14 h1)))))
theorem jF_X5_sum_14 {r0 : Nat → Int32 → zS → Option (Int32 × zS)} {r1 : Nat → Int32 → zS → Option (Int32 × zS)} {r2 : Nat → Int32 → Int32 → zS → Option (Int32 × zS)} {x0 : Nat} {x1 : Int32} {again14 : (Int32 × Int32 × zS) → Option (Int32 × zS)} (hr0 : ∀ (a0 : Nat) (a1 : Int32) (a2 : zS), a2.2.1 = L → Pt (r0 a0 a1 a2) (fun r => r.2.2.1 = L)) (hr1 : ∀ (a0 : Nat) (a1 : Int32) (a2 : zS), a2.2.1 = L → Pt (r1 a0 a1 a2) (fun r => r.2.2.1 = L)) (hr2 : ∀ (a0 : Nat) (a1 : Int32) (a2 : Int32) (a3 : zS), a3.2.1 = L → Pt (r2 a0 a1 a2 a3) (fun r => r.2.2.1 = L)) (ihagain14 : ∀ s : Int32 × Int32 × zS, s.2.2.2.1 = L → Pt (again14 s) (fun r => r.2.2.1 = L)) {s : Int32 × Int32 × zS} (hj : s.2.2.2.1 = L) : Pt (F_X5_sum_14 N r0 r1 r2 x0 x1 again14 s) (fun r => r.2.2.1 = L) := by
  obtain ⟨x2, x3, σ⟩ := s
  rw [F_X5_sum_14.eq_1]
  exact pt_if (fun _ => (jJ_X5_sum_151 hr0 hr1 hr2 hj)) (fun _ => pj_a (fun _ => pj_a (fun _ => pj_a (fun _ => pt_zb (jf_X5_combination hj) (fun _ _ h1 => pt_if (fun _ => (jJ_X5_sum_151 hr0 hr1 hr2 h1)) (fun _ => pj_a (fun _ => pj_a (fun _ => pj_a (fun _ => pt_zb (jf_X5_combination h1) (fun _ _ h2 => pt_if (fun _ => (jJ_X5_sum_66 hr0 hr1 hr2 ihagain14 h2)) (fun _ => pt_if (fun _ => (jJ_X5_sum_66 hr0 hr1 hr2 ihagain14 h2)) (fun _ => (jJ_X5_sum_66 hr0 hr1 hr2 ihagain14 h2)))))))))))))
theorem jJ_X5_part_97 {r0 : Nat → Int32 → zS → Option (Int32 × zS)} {r1 : Nat → Int32 → zS → Option (Int32 × zS)} {r2 : Nat → Int32 → Int32 → zS → Option (Int32 × zS)} {x0 : Nat} {x1 : Int32} {y0 : Int32} {y1 : Nat} {σ : zS} (hr0 : ∀ (a0 : Nat) (a1 : Int32) (a2 : zS), a2.2.1 = L → Pt (r0 a0 a1 a2) (fun r => r.2.2.1 = L)) (hr1 : ∀ (a0 : Nat) (a1 : Int32) (a2 : zS), a2.2.1 = L → Pt (r1 a0 a1 a2) (fun r => r.2.2.1 = L)) (hr2 : ∀ (a0 : Nat) (a1 : Int32) (a2 : Int32) (a3 : zS), a3.2.1 = L → Pt (r2 a0 a1 a2 a3) (fun r => r.2.2.1 = L)) (hj : σ.2.1 = L) : Pt (J_X5_part_97 N r0 r1 r2 x0 x1 y0 y1 σ) (fun r => r.2.2.1 = L) := by
  rw [J_X5_part_97.eq_1]
  exact pj_a (fun _ => pt_zb (jf_X5_advance hj) (fun _ _ h1 => pt_if (fun _ => pt_rZ h1) (fun _ => pj_a (fun _ => pt_zb (hr0 _ _ _ h1) (fun _ _ h2 => pt_if (fun _ => pt_rZ h2) (fun _ => pj_a (fun _ => pt_zb (jf_X5_pass h2) (fun _ _ h3 => pt_if (fun _ => pt_rZ h3) (fun _ => pt_rZ h3)))))))))
theorem jJ_X5_wordPart_52 {r0 : Nat → Int32 → zS → Option (Int32 × zS)} {r1 : Nat → Int32 → zS → Option (Int32 × zS)} {r2 : Nat → Int32 → Int32 → zS → Option (Int32 × zS)} {x0 : Nat} {x1 : Int32} {x2 : Int32} {y0 : Int32} {y1 : Nat} {σ : zS} (hr0 : ∀ (a0 : Nat) (a1 : Int32) (a2 : zS), a2.2.1 = L → Pt (r0 a0 a1 a2) (fun r => r.2.2.1 = L)) (hr1 : ∀ (a0 : Nat) (a1 : Int32) (a2 : zS), a2.2.1 = L → Pt (r1 a0 a1 a2) (fun r => r.2.2.1 = L)) (hr2 : ∀ (a0 : Nat) (a1 : Int32) (a2 : Int32) (a3 : zS), a3.2.1 = L → Pt (r2 a0 a1 a2 a3) (fun r => r.2.2.1 = L)) (hj : σ.2.1 = L) : Pt (J_X5_wordPart_52 N r0 r1 r2 x0 x1 x2 y0 y1 σ) (fun r => r.2.2.1 = L) := by
  rw [J_X5_wordPart_52.eq_1]
  exact pj_a (fun _ => pt_zb (jf_X5_advance hj) (fun _ _ h1 => pt_if (fun _ => pt_rZ h1) (fun _ => pj_a (fun _ => pt_zb (hr1 _ _ _ h1) (fun _ _ h2 => pt_if (fun _ => pt_rZ h2) (fun _ => pj_a (fun _ => pt_zb (jf_X5_emit h2) (fun _ _ h3 => pt_if (fun _ => pt_rZ h3) (fun _ => pt_rZ h3)))))))))
theorem jJ_X5_readLine_211 {x0 : Nat} {x5 : Int32} {σ : zS}  (hj : σ.2.1 = L) : Pt (J_X5_readLine_211 N x0 x5 σ) (fun r => r.2.2.1 = L) := by
  rw [J_X5_readLine_211.eq_1]
  exact pt_if (fun _ => pt_rZ hj) (fun _ => pj_a (fun _ => pt_zb (jf_X5_pass hj) (fun _ _ h1 => pt_if (fun _ => pt_rZ h1) (fun _ => pt_rZ h1))))
theorem jf_X6_acrossFrom {x0 : Nat} {x1 : Int32} {x2 : Int32} {σ : zS}  (hj : σ.2.1 = L) : Pt (f_X6_acrossFrom N x0 x1 x2 σ) (fun r => r.2.2.1 = L) := by
  rw [f_X6_acrossFrom.eq_1]
  exact pt_if (fun _ => pt_some hj) (fun _ => pt_if (fun _ => pj_a (fun _ => pj_a (fun _ => pt_if (fun _ => pj_a (fun _ => pj_a (fun _ => pt_some hj))) (fun _ => pj_a (fun _ => pj_a (fun _ => pt_if (fun _ => pj_a (fun _ => pj_a (fun _ => pt_some hj))) (fun _ => pt_some hj))))))) (fun _ => pt_some hj))
theorem jF_X6_joinClumps_47 {x0 : Nat} {x1 : Int32} {x3 : Int32} {again47 : (Int32 × zS) → Option (Int32 × zS)} (ihagain47 : ∀ s : Int32 × zS, s.2.2.1 = L → Pt (again47 s) (fun r => r.2.2.1 = L)) {s : Int32 × zS} (hj : s.2.2.1 = L) : Pt (F_X6_joinClumps_47 N x0 x1 x3 again47 s) (fun r => r.2.2.1 = L) := by
  obtain ⟨x4, σ⟩ := s
  rw [F_X6_joinClumps_47.eq_1]
  exact pt_if (fun _ => pt_rZ hj) (fun _ => pj_a (fun _ => pj_a (fun _ => pt_if (fun _ => pj_a (fun _ => pj_a (fun _ => pj_a (fun _ => pj_s (j_sI hj) (fun _ h1 => (ihagain47 _ h1)))))) (fun _ => (ihagain47 _ hj)))))
theorem jf_X6_joinClumps {x0 : Nat} {x1 : Int32} {x2 : Int32} {σ : zS}  (hj : σ.2.1 = L) : Pt (f_X6_joinClumps N x0 x1 x2 σ) (fun r => r.2.2.1 = L) := by
  rw [f_X6_joinClumps.eq_1]
  exact pt_if (fun _ => pt_rZ hj) (fun _ => pt_if (fun _ => pt_rZ hj) (fun _ => pt_if (fun _ => pt_rZ hj) (fun _ => pt_if (fun _ => pt_rZ hj) (fun _ => pj_a (fun _ => pj_a (fun _ => pj_a (fun _ => pj_a (fun _ => pt_if (fun _ => pt_rZ hj) (fun _ => pj_a (fun _ => pj_a (fun _ => pt_lp (fun s => s.2.2.1 = L) (fun again s hI ih => jF_X6_joinClumps_47 ih hI) N _ hj)))))))))))
theorem jF_X6_isWithoutRing_23 {x0 : Nat} {x1 : Nat} {x2 : Int32} {again23 : (Int32 × zS) → Option (Int32 × zS)} (ihagain23 : ∀ s : Int32 × zS, s.2.2.1 = L → Pt (again23 s) (fun r => r.2.2.1 = L)) {s : Int32 × zS} (hj : s.2.2.1 = L) : Pt (F_X6_isWithoutRing_23 N x0 x1 x2 again23 s) (fun r => r.2.2.1 = L) := by
  obtain ⟨x3, σ⟩ := s
  rw [F_X6_isWithoutRing_23.eq_1]
  exact pj_a (fun _ => pt_if (fun _ => pt_rZ hj) (fun _ => pt_if (fun _ => pt_rZ hj) (fun _ => pt_if (fun _ => (ihagain23 _ hj)) (fun _ => pj_a (fun _ => pj_a (fun _ => pj_a (fun _ => pj_a (fun _ => pj_a (fun _ => pt_zb (jf_X6_joinClumps hj) (fun _ _ h1 => pt_if (fun _ => pt_rZ h1) (fun _ => (ihagain23 _ h1))))))))))))
theorem jF_X6_isWithoutRing_2 {x0 : Nat} {x1 : Nat} {x2 : Int32} {again2 : (Int32 × zS) → Option (Int32 × zS)} (ihagain2 : ∀ s : Int32 × zS, s.2.2.1 = L → Pt (again2 s) (fun r => r.2.2.1 = L)) {s : Int32 × zS} (hj : s.2.2.1 = L) : Pt (F_X6_isWithoutRing_2 N x0 x1 x2 again2 s) (fun r => r.2.2.1 = L) := by
  obtain ⟨x3, σ⟩ := s
  rw [F_X6_isWithoutRing_2.eq_1]
  exact pt_if (fun _ => pt_lp (fun s => s.2.2.1 = L) (fun again s hI ih => jF_X6_isWithoutRing_23 ih hI) N _ hj) (fun _ => pj_a (fun _ => pj_s (j_sI hj) (fun _ h1 => (ihagain2 _ h1))))
theorem jf_X6_isWithoutRing {x0 : Nat} {x1 : Nat} {x2 : Int32} {σ : zS}  (hj : σ.2.1 = L) : Pt (f_X6_isWithoutRing N x0 x1 x2 σ) (fun r => r.2.2.1 = L) := by
  rw [f_X6_isWithoutRing.eq_1]
  exact pt_lp (fun s => s.2.2.1 = L) (fun again s hI ih => jF_X6_isWithoutRing_2 ih hI) N _ hj
theorem jF_X6_touchedBy_4 {x0 : Nat} {x1 : Int32} {again4 : (Int32 × Int32 × zS) → Option (Int32 × zS)} (ihagain4 : ∀ s : Int32 × Int32 × zS, s.2.2.2.1 = L → Pt (again4 s) (fun r => r.2.2.1 = L)) {s : Int32 × Int32 × zS} (hj : s.2.2.2.1 = L) : Pt (F_X6_touchedBy_4 N x0 x1 again4 s) (fun r => r.2.2.1 = L) := by
  obtain ⟨x2, x3, σ⟩ := s
  rw [F_X6_touchedBy_4.eq_1]
  exact pj_a (fun _ => pt_if (fun _ => pt_some hj) (fun _ => pt_if (fun _ => pt_some hj) (fun _ => pt_if (fun _ => (ihagain4 _ hj)) (fun _ => pj_a (fun _ => pj_a (fun _ => pj_a (fun _ => pj_a (fun _ => (ihagain4 _ hj)))))))))
theorem jf_X6_touchedBy {x0 : Nat} {x1 : Int32} {σ : zS}  (hj : σ.2.1 = L) : Pt (f_X6_touchedBy N x0 x1 σ) (fun r => r.2.2.1 = L) := by
  rw [f_X6_touchedBy.eq_1]
  exact pt_lp (fun s => s.2.2.2.1 = L) (fun again s hI ih => jF_X6_touchedBy_4 ih hI) N _ hj
theorem jf_X6_isOneOf {x0 : Nat} {x1 : Nat} {x2 : Int32} {x3 : Int32} {x4 : Int32} {σ : zS}  (hj : σ.2.1 = L) : Pt (f_X6_isOneOf N x0 x1 x2 x3 x4 σ) (fun r => r.2.2.1 = L) := by
  rw [f_X6_isOneOf.eq_1]
  exact pt_zb (jf_J6_bitCount_0f7a4 hj) (fun _ _ h1 => pt_zb (jf_J6_bitCount_0f7a4 h1) (fun _ _ h2 => pt_if (fun _ => pt_if (fun _ => pj_a (fun _ => pt_zb (jf_X6_isWithoutRing h2) (fun _ _ h3 => pt_if (fun _ => pt_rZ h3) (fun _ => pt_rZ h3)))) (fun _ => pt_rZ h2)) (fun _ => pt_if (fun _ => pt_zb (jf_X6_touchedBy h2) (fun _ _ h4 => pt_zb (jf_J6_bitCount_0f7a4 h4) (fun _ _ h5 => pt_if (fun _ => pt_rZ h5) (fun _ => pt_rZ h5)))) (fun _ => pt_zb (jf_X6_touchedBy h2) (fun _ _ h6 => pt_if (fun _ => pt_rZ h6) (fun _ => pt_rZ h6))))))
theorem jf_X7_isRegisterNumber {x0 : Int32} {σ : zS}  (hj : σ.2.1 = L) : Pt (f_X7_isRegisterNumber N x0 σ) (fun r => r.2.2.1 = L) := by
  rw [f_X7_isRegisterNumber.eq_1]
  exact pt_if (fun _ => pt_rZ hj) (fun _ => pt_if (fun _ => pt_rZ hj) (fun _ => pt_rZ hj))
theorem jf_X7_top {x0 : Nat} {x1 : Int32} {σ : zS}  (hj : σ.2.1 = L) : Pt (f_X7_top N x0 x1 σ) (fun r => r.2.2.1 = L) := by
  rw [f_X7_top.eq_1]
  exact pj_a (fun _ => pj_a (fun _ => pj_a (fun _ => pt_some hj)))
theorem jf_X7_pushed {x0 : Nat} {σ : zS}  (hj : σ.2.1 = L) : Pt (f_X7_pushed N x0 σ) (fun r => r.2.2.1 = L) := by
  rw [f_X7_pushed.eq_1]
  exact pj_a (fun _ => pj_s (j_pI hj) (fun _ h1 => pj_a (fun _ => pt_zb (jf_X7_top h1) (fun _ _ h2 => pt_some h2))))
theorem jF_X8_weighSets_30 {x0 : Nat} {x1 : Nat} {x2 : Int32} {x3 : Int32} {again9 : (Int32 × zS) → Option (Unit × zS)} {again30 : (Int32 × zS) → Option (Unit × zS)} (ihagain9 : ∀ s : Int32 × zS, s.2.2.1 = L → Pt (again9 s) (fun r => r.2.2.1 = L)) (ihagain30 : ∀ s : Int32 × zS, s.2.2.1 = L → Pt (again30 s) (fun r => r.2.2.1 = L)) {s : Int32 × zS} (hj : s.2.2.1 = L) : Pt (F_X8_weighSets_30 N x0 x1 x2 x3 again9 again30 s) (fun r => r.2.2.1 = L) := by
  obtain ⟨x4, σ⟩ := s
  rw [F_X8_weighSets_30.eq_1]
  exact pt_if (fun _ => (ihagain9 _ hj)) (fun _ => pj_a (fun _ => pj_a (fun _ => pj_a (fun _ => pj_a (fun _ => pj_a (fun _ => pj_s (j_sI hj) (fun _ h1 => (ihagain30 _ h1))))))))
theorem jF_X8_weighSets_9 {x0 : Nat} {x1 : Nat} {again9 : (Int32 × zS) → Option (Unit × zS)} (ihagain9 : ∀ s : Int32 × zS, s.2.2.1 = L → Pt (again9 s) (fun r => r.2.2.1 = L)) {s : Int32 × zS} (hj : s.2.2.1 = L) : Pt (F_X8_weighSets_9 N x0 x1 again9 s) (fun r => r.2.2.1 = L) := by
  obtain ⟨x2, σ⟩ := s
  rw [F_X8_weighSets_9.eq_1]
  exact pj_a (fun _ => pt_if (fun _ => pt_some hj) (fun _ => pt_if (fun _ => pt_some hj) (fun _ => pt_lp (fun s => s.2.2.1 = L) (fun again s hI ih => jF_X8_weighSets_30 ihagain9 ih hI) N _ hj)))
theorem jf_X8_weighSets {x0 : Nat} {x1 : Nat} {σ : zS}  (hj : σ.2.1 = L) : Pt (f_X8_weighSets N x0 x1 σ) (fun r => r.2.2.1 = L) := by
  rw [f_X8_weighSets.eq_1]
  exact pj_a (fun _ => pj_s (j_sI hj) (fun _ h1 => pt_lp (fun s => s.2.2.1 = L) (fun again s hI ih => jF_X8_weighSets_9 ih hI) N _ h1))
theorem jJ_X8_sum_113 {x3 : Int32} {x4 : Int32} {x5 : Int32} {x6 : Int32} {σ : zS}  (hj : σ.2.1 = L) : Pt (J_X8_sum_113 N x3 x4 x5 x6 σ) (fun r => r.2.2.1 = L) := by
  rw [J_X8_sum_113.eq_1]
  exact pt_if (fun _ => pt_some hj) (fun _ => pt_if (fun _ => pt_some hj) (fun _ => pt_some hj))
theorem jF_X8_sum_44 {x0 : Nat} {x2 : Nat} {x3 : Int32} {again44 : (Int32 × Int32 × Int32 × Int32 × Int32 × zS) → Option (Int32 × zS)} (ihagain44 : ∀ s : Int32 × Int32 × Int32 × Int32 × Int32 × zS, s.2.2.2.2.2.2.1 = L → Pt (again44 s) (fun r => r.2.2.1 = L)) {s : Int32 × Int32 × Int32 × Int32 × Int32 × zS} (hj : s.2.2.2.2.2.2.1 = L) : Pt (F_X8_sum_44 N x0 x2 x3 again44 s) (fun r => r.2.2.1 = L) := by
  obtain ⟨x4, x5, x6, x7, x8, σ⟩ := s
  rw [F_X8_sum_44.eq_1]
  exact pt_if (fun _ => (jJ_X8_sum_113 hj)) (fun _ => pt_if (fun _ => (jJ_X8_sum_113 hj)) (fun _ => pj_a (fun _ => pj_a (fun _ => pj_a (fun _ => pj_a (fun _ => pj_a (fun _ => pj_a (fun _ => pj_a (fun _ => pt_zb (jf_X2_firstFrom hj) (fun _ _ h1 => (ihagain44 _ h1)))))))))))
theorem jf_X8_sum {x0 : Nat} {x1 : Nat} {x2 : Nat} {x3 : Int32} {σ : zS}  (hj : σ.2.1 = L) : Pt (f_X8_sum N x0 x1 x2 x3 σ) (fun r => r.2.2.1 = L) := by
  rw [f_X8_sum.eq_1]
  exact pj_a (fun _ => pt_zb (jf_X2_isEmpty hj) (fun _ _ h1 => pt_if (fun _ => pj_a (fun _ => pt_zb (jf_X8_weighSets h1) (fun _ _ h2 => pj_a (fun _ => pt_zb (jf_X2_firstFrom h2) (fun _ _ h3 => pt_lp (fun s => s.2.2.2.2.2.2.1 = L) (fun again s hI ih => jF_X8_sum_44 ih hI) N _ h3))))) (fun _ => pt_if (fun _ => pt_some h1) (fun _ => pt_some h1))))
theorem jF_X8_pickOfLoad_13 {x0 : Nat} {x1 : Nat} {x2 : Int32} {again13 : (Int32 × Int32 × Int32 × zS) → Option (Int32 × zS)} (ihagain13 : ∀ s : Int32 × Int32 × Int32 × zS, s.2.2.2.2.1 = L → Pt (again13 s) (fun r => r.2.2.1 = L)) {s : Int32 × Int32 × Int32 × zS} (hj : s.2.2.2.2.1 = L) : Pt (F_X8_pickOfLoad_13 N x0 x1 x2 again13 s) (fun r => r.2.2.1 = L) := by
  obtain ⟨x4, x5, x6, σ⟩ := s
  rw [F_X8_pickOfLoad_13.eq_1]
  exact pt_if (fun _ => pt_some hj) (fun _ => pt_if (fun _ => pt_some hj) (fun _ => pj_a (fun _ => pj_a (fun _ => pt_if (fun _ => pt_if (fun _ => pt_some hj) (fun _ => pj_a (fun _ => pt_zb (jf_X2_firstFrom hj) (fun _ _ h1 => (ihagain13 _ h1))))) (fun _ => pj_a (fun _ => pt_zb (jf_X2_firstFrom hj) (fun _ _ h2 => (ihagain13 _ h2))))))))
theorem jf_X8_pickOfLoad {x0 : Nat} {x1 : Nat} {x2 : Int32} {x3 : Int32} {σ : zS}  (hj : σ.2.1 = L) : Pt (f_X8_pickOfLoad N x0 x1 x2 x3 σ) (fun r => r.2.2.1 = L) := by
  rw [f_X8_pickOfLoad.eq_1]
  exact pj_a (fun _ => pt_zb (jf_X2_firstFrom hj) (fun _ _ h1 => pt_lp (fun s => s.2.2.2.2.1 = L) (fun again s hI ih => jF_X8_pickOfLoad_13 ih hI) N _ h1))
theorem jF_X8_pick_113 {x0 : Nat} {x2 : Nat} {again113 : (Int32 × Int32 × zS) → Option (Int32 × zS)} (ihagain113 : ∀ s : Int32 × Int32 × zS, s.2.2.2.1 = L → Pt (again113 s) (fun r => r.2.2.1 = L)) {s : Int32 × Int32 × zS} (hj : s.2.2.2.1 = L) : Pt (F_X8_pick_113 N x0 x2 again113 s) (fun r => r.2.2.1 = L) := by
  obtain ⟨x5, x6, σ⟩ := s
  rw [F_X8_pick_113.eq_1]
  exact pj_a (fun _ => pj_a (fun _ => pt_if (fun _ => pt_some hj) (fun _ => pj_a (fun _ => pj_a (fun _ => pt_if (fun _ => pj_a (fun _ => pj_a (fun _ => (ihagain113 _ hj)))) (fun _ => pj_a (fun _ => pt_zb (jf_X8_pickOfLoad hj) (fun _ _ h1 => pt_some h1))))))))
theorem jJ_X8_pick_107 {x0 : Nat} {x2 : Nat} {x3 : Int32} {σ : zS}  (hj : σ.2.1 = L) : Pt (J_X8_pick_107 N x0 x2 x3 σ) (fun r => r.2.2.1 = L) := by
  rw [J_X8_pick_107.eq_1]
  exact pt_lp (fun s => s.2.2.2.1 = L) (fun again s hI ih => jF_X8_pick_113 ih hI) N _ hj
theorem jF_X8_pick_37 {x0 : Nat} {x2 : Nat} {x3 : Int32} {again37 : (Int32 × Int32 × zS) → Option (Int32 × zS)} (ihagain37 : ∀ s : Int32 × Int32 × zS, s.2.2.2.1 = L → Pt (again37 s) (fun r => r.2.2.1 = L)) {s : Int32 × Int32 × zS} (hj : s.2.2.2.1 = L) : Pt (F_X8_pick_37 N x0 x2 x3 again37 s) (fun r => r.2.2.1 = L) := by
  obtain ⟨x4, x5, σ⟩ := s
  rw [F_X8_pick_37.eq_1]
  exact pt_if (fun _ => (jJ_X8_pick_107 hj)) (fun _ => pt_if (fun _ => (jJ_X8_pick_107 hj)) (fun _ => pj_a (fun _ => pj_a (fun _ => pt_if (fun _ => pj_a (fun _ => pt_zb (jf_X2_firstFrom hj) (fun _ _ h1 => (ihagain37 _ h1)))) (fun _ => pj_a (fun _ => pj_a (fun _ => pj_a (fun _ => pj_a (fun _ => pt_if (fun _ => pj_a (fun _ => pt_zb (jf_X2_firstFrom hj) (fun _ _ h2 => (ihagain37 _ h2)))) (fun _ => pj_a (fun _ => pj_a (fun _ => pj_a (fun _ => pj_a (fun _ => pj_s (j_sI hj) (fun _ h3 => pj_a (fun _ => pt_zb (jf_X2_firstFrom h3) (fun _ _ h4 => (ihagain37 _ h4))))))))))))))))))
theorem jf_X8_pick {x0 : Nat} {x1 : Nat} {x2 : Nat} {x3 : Int32} {σ : zS}  (hj : σ.2.1 = L) : Pt (f_X8_pick N x0 x1 x2 x3 σ) (fun r => r.2.2.1 = L) := by
  rw [f_X8_pick.eq_1]
  exact pt_if (fun _ => pt_some hj) (fun _ => pj_a (fun _ => pt_zb (jf_X2_tally hj) (fun _ _ h1 => pt_if (fun _ => pj_a (fun _ => pt_zb (jf_X8_weighSets h1) (fun _ _ h2 => pj_a (fun _ => pt_zb (jf_J7_fill_53178 h2) (fun _ _ h3 => pj_a (fun _ => pt_zb (jf_X2_firstFrom h3) (fun _ _ h4 => pt_lp (fun s => s.2.2.2.1 = L) (fun again s hI ih => jF_X8_pick_37 ih hI) N _ h4))))))) (fun _ => pt_some h1))))
theorem jf_X9_isBare {x0 : Nat} {σ : zS}  (hj : σ.2.1 = L) : Pt (f_X9_isBare N x0 σ) (fun r => r.2.2.1 = L) := by
  rw [f_X9_isBare.eq_1]
  exact pj_a (fun _ => pt_if (fun _ => pt_rZ hj) (fun _ => pt_rZ hj))
theorem jf_X9_cut {x0 : Nat} {x1 : Int64} {σ : zS}  (hj : σ.2.1 = L) : Pt (f_X9_cut N x0 x1 σ) (fun r => r.2.2.1 = L) := by
  rw [f_X9_cut.eq_1]
  exact pj_a (fun _ => pt_if (fun _ => pt_some hj) (fun _ => pt_if (fun _ => pt_some hj) (fun _ => pt_if (fun _ => pt_some hj) (fun _ => pt_some hj))))
theorem jf_X9_spans {x0 : Nat} {x1 : Int32} {x2 : Int32} {σ : zS}  (hj : σ.2.1 = L) : Pt (f_X9_spans N x0 x1 x2 σ) (fun r => r.2.2.1 = L) := by
  rw [f_X9_spans.eq_1]
  exact pt_if (fun _ => pt_rZ hj) (fun _ => pt_if (fun _ => pt_rZ hj) (fun _ => pj_a (fun _ => pt_if (fun _ => pt_rZ hj) (fun _ => pt_rZ hj))))
theorem jF_X10_load_4 {x0 : Nat} {x1 : Int32} {again4 : (Int32 × Int32 × zS) → Option (Int32 × zS)} (ihagain4 : ∀ s : Int32 × Int32 × zS, s.2.2.2.1 = L → Pt (again4 s) (fun r => r.2.2.1 = L)) {s : Int32 × Int32 × zS} (hj : s.2.2.2.1 = L) : Pt (F_X10_load_4 N x0 x1 again4 s) (fun r => r.2.2.1 = L) := by
  obtain ⟨x2, x3, σ⟩ := s
  rw [F_X10_load_4.eq_1]
  exact pj_a (fun _ => pt_if (fun _ => pt_some hj) (fun _ => pt_if (fun _ => pt_some hj) (fun _ => pt_if (fun _ => (ihagain4 _ hj)) (fun _ => pj_a (fun _ => pj_a (fun _ => (ihagain4 _ hj)))))))
theorem jf_X10_load {x0 : Nat} {x1 : Int32} {σ : zS}  (hj : σ.2.1 = L) : Pt (f_X10_load N x0 x1 σ) (fun r => r.2.2.1 = L) := by
  rw [f_X10_load.eq_1]
  exact pt_lp (fun s => s.2.2.2.1 = L) (fun again s hI ih => jF_X10_load_4 ih hI) N _ hj
theorem jF_X10_filledRegisters_4 {x0 : Nat} {again4 : (Int32 × Int32 × zS) → Option (Int32 × zS)} (ihagain4 : ∀ s : Int32 × Int32 × zS, s.2.2.2.1 = L → Pt (again4 s) (fun r => r.2.2.1 = L)) {s : Int32 × Int32 × zS} (hj : s.2.2.2.1 = L) : Pt (F_X10_filledRegisters_4 N x0 again4 s) (fun r => r.2.2.1 = L) := by
  obtain ⟨x1, x2, σ⟩ := s
  rw [F_X10_filledRegisters_4.eq_1]
  exact pt_if (fun _ => pt_some hj) (fun _ => pj_a (fun _ => pj_a (fun _ => pj_a (fun _ => pt_zb (jf_X2_isEmpty hj) (fun _ _ h1 => pt_if (fun _ => (ihagain4 _ h1)) (fun _ => (ihagain4 _ h1)))))))
theorem jf_X10_filledRegisters {x0 : Nat} {σ : zS}  (hj : σ.2.1 = L) : Pt (f_X10_filledRegisters N x0 σ) (fun r => r.2.2.1 = L) := by
  rw [f_X10_filledRegisters.eq_1]
  exact pt_lp (fun s => s.2.2.2.1 = L) (fun again s hI ih => jF_X10_filledRegisters_4 ih hI) N _ hj
theorem jF_X10_unlikeFamilies_4 {x0 : Nat} {again4 : (Int32 × Int32 × zS) → Option (Int32 × zS)} (ihagain4 : ∀ s : Int32 × Int32 × zS, s.2.2.2.1 = L → Pt (again4 s) (fun r => r.2.2.1 = L)) {s : Int32 × Int32 × zS} (hj : s.2.2.2.1 = L) : Pt (F_X10_unlikeFamilies_4 N x0 again4 s) (fun r => r.2.2.1 = L) := by
  obtain ⟨x1, x2, σ⟩ := s
  rw [F_X10_unlikeFamilies_4.eq_1]
  exact pt_if (fun _ => pt_some hj) (fun _ => pj_a (fun _ => pt_zb (jf_X10_firstLike hj) (fun _ _ h1 => pt_if (fun _ => (ihagain4 _ h1)) (fun _ => (ihagain4 _ h1)))))
theorem jf_X10_unlikeFamilies {x0 : Nat} {σ : zS}  (hj : σ.2.1 = L) : Pt (f_X10_unlikeFamilies N x0 σ) (fun r => r.2.2.1 = L) := by
  rw [f_X10_unlikeFamilies.eq_1]
  exact pt_lp (fun s => s.2.2.2.1 = L) (fun again s hI ih => jF_X10_unlikeFamilies_4 ih hI) N _ hj
theorem jF_X11_tapeNumber_2 {x0 : Nat} {x1 : Int32} {x2 : Int32} {again2 : (Int32 × zS) → Option (Unit × zS)} (ihagain2 : ∀ s : Int32 × zS, s.2.2.1 = L → Pt (again2 s) (fun r => r.2.2.1 = L)) {s : Int32 × zS} (hj : s.2.2.1 = L) : Pt (F_X11_tapeNumber_2 N x0 x1 x2 again2 s) (fun r => r.2.2.1 = L) := by
  obtain ⟨x3, σ⟩ := s
  rw [F_X11_tapeNumber_2.eq_1]
  exact pt_if (fun _ => pt_some hj) (fun _ => pt_if (fun _ => (ihagain2 _ hj)) (fun _ => pt_if (fun _ => (ihagain2 _ hj)) (fun _ => pj_a (fun _ => pj_s (j_sI hj) (fun _ h1 => (ihagain2 _ h1))))))
theorem jf_X11_tapeNumber {x0 : Nat} {x1 : Int32} {x2 : Int32} {σ : zS}  (hj : σ.2.1 = L) : Pt (f_X11_tapeNumber N x0 x1 x2 σ) (fun r => r.2.2.1 = L) := by
  rw [f_X11_tapeNumber.eq_1]
  exact pt_lp (fun s => s.2.2.1 = L) (fun again s hI ih => jF_X11_tapeNumber_2 ih hI) N _ hj
theorem jf_X11_feed {x0 : Nat} {x1 : Int32} {x2 : Int32} {x3 : Int32} {x4 : Int32} {x5 : Int32} {σ : zS}  (hj : σ.2.1 = L) : Pt (f_X11_feed N x0 x1 x2 x3 x4 x5 σ) (fun r => r.2.2.1 = L) := by
  rw [f_X11_feed.eq_1]
  exact pj_a (fun _ => pt_if (fun _ => pt_some hj) (fun _ => pj_a (fun _ => pt_if (fun _ => pj_a (fun _ => pj_a (fun _ => pt_zb (jf_X11_tapeNumber hj) (fun _ _ h1 => pj_a (fun _ => pj_a (fun _ => pt_zb (jf_X11_tapeNumber h1) (fun _ _ h2 => pj_a (fun _ => pj_a (fun _ => pt_zb (jf_X11_tapeNumber h2) (fun _ _ h3 => pj_a (fun _ => pj_a (fun _ => pt_zb (jf_X11_tapeNumber h3) (fun _ _ h4 => pj_a (fun _ => pj_a (fun _ => pt_zb (jf_X11_tapeNumber h4) (fun _ _ h5 => pj_a (fun _ => pj_s (j_pI h5) (fun _ h6 => pj_a (fun _ => pt_some h6))))))))))))))))))) (fun _ => pt_some hj))))
theorem jf_X11_end {x0 : Nat} {x1 : Int32} {σ : zS}  (hj : σ.2.1 = L) : Pt (f_X11_end N x0 x1 σ) (fun r => r.2.2.1 = L) := by
  rw [f_X11_end.eq_1]
  exact pt_if (fun _ => pt_some hj) (fun _ => pj_a (fun _ => pt_if (fun _ => pj_s (j_pI hj) (fun _ h1 => pt_some h1)) (fun _ => pt_some hj)))
theorem jf_X11_takeFault {x0 : Nat} {σ : zS}  (hj : σ.2.1 = L) : Pt (f_X11_takeFault N x0 σ) (fun r => r.2.2.1 = L) := by
  rw [f_X11_takeFault.eq_1]
  exact pj_s (j_pI hj) (fun _ h1 => pj_a (fun _ => pj_a (fun _ => pj_s (j_pI h1) (fun _ h2 => pj_a (fun _ => pj_a (fun _ => pj_s (j_pI h2) (fun _ h3 => pt_some h3)))))))
theorem jf_X11_isWorld {x0 : Nat} {σ : zS}  (hj : σ.2.1 = L) : Pt (f_X11_isWorld N x0 σ) (fun r => r.2.2.1 = L) := by
  rw [f_X11_isWorld.eq_1]
  exact pj_a (fun _ => pj_a (fun _ => pt_if (fun _ => pt_rZ hj) (fun _ => pt_rZ hj)))
theorem jf_X11_isRegister {x0 : Nat} {x1 : Int32} {σ : zS}  (hj : σ.2.1 = L) : Pt (f_X11_isRegister N x0 x1 σ) (fun r => r.2.2.1 = L) := by
  rw [f_X11_isRegister.eq_1]
  exact pj_a (fun _ => pt_zb (jf_X11_isWorld hj) (fun _ _ h1 => pt_if (fun _ => pt_rZ h1) (fun _ => pt_if (fun _ => pt_rZ h1) (fun _ => pt_if (fun _ => pt_rZ h1) (fun _ => pt_rZ h1)))))
theorem jf_X11_fault {x0 : Nat} {x1 : Int32} {σ : zS}  (hj : σ.2.1 = L) : Pt (f_X11_fault N x0 x1 σ) (fun r => r.2.2.1 = L) := by
  rw [f_X11_fault.eq_1]
  exact pt_if (fun _ => pj_a (fun _ => pt_some hj)) (fun _ => pt_if (fun _ => pj_a (fun _ => pt_some hj)) (fun _ => pt_some hj))
theorem jf_X11_size {x0 : Nat} {x1 : Int32} {σ : zS}  (hj : σ.2.1 = L) : Pt (f_X11_size N x0 x1 σ) (fun r => r.2.2.1 = L) := by
  rw [f_X11_size.eq_1]
  exact pj_a (fun _ => pt_zb (jf_X11_isRegister hj) (fun _ _ h1 => pt_if (fun _ => pt_some h1) (fun _ => pj_a (fun _ => pj_a (fun _ => pj_a (fun _ => pj_a (fun _ => pt_zb (jf_X2_tally h1) (fun _ _ h2 => pt_some h2))))))))
theorem jf_X11_isSet {x0 : Nat} {x1 : Int32} {σ : zS}  (hj : σ.2.1 = L) : Pt (f_X11_isSet N x0 x1 σ) (fun r => r.2.2.1 = L) := by
  rw [f_X11_isSet.eq_1]
  exact pj_a (fun _ => pt_zb (jf_X11_isWorld hj) (fun _ _ h1 => pt_if (fun _ => pt_rZ h1) (fun _ => pt_if (fun _ => pt_rZ h1) (fun _ => pj_a (fun _ => pj_a (fun _ => pt_if (fun _ => pt_rZ h1) (fun _ => pt_rZ h1)))))))
theorem jf_X11_has {x0 : Nat} {x1 : Int32} {x2 : Int32} {σ : zS}  (hj : σ.2.1 = L) : Pt (f_X11_has N x0 x1 x2 σ) (fun r => r.2.2.1 = L) := by
  rw [f_X11_has.eq_1]
  exact pj_a (fun _ => pt_zb (jf_X11_isRegister hj) (fun _ _ h1 => pt_if (fun _ => pt_some h1) (fun _ => pj_a (fun _ => pt_zb (jf_X11_isSet h1) (fun _ _ h2 => pt_if (fun _ => pt_some h2) (fun _ => pj_a (fun _ => pj_a (fun _ => pj_a (fun _ => pj_a (fun _ => pt_zb (jf_X2_holds h2) (fun _ _ h3 => pt_if (fun _ => pt_some h3) (fun _ => pt_some h3))))))))))))
theorem jf_X11_isName {x0 : Nat} {x1 : Int32} {σ : zS}  (hj : σ.2.1 = L) : Pt (f_X11_isName N x0 x1 σ) (fun r => r.2.2.1 = L) := by
  rw [f_X11_isName.eq_1]
  exact pt_if (fun _ => pt_rZ hj) (fun _ => pj_a (fun _ => pj_a (fun _ => pt_if (fun _ => pt_rZ hj) (fun _ => pt_rZ hj))))
theorem jf_X11_nth {x0 : Nat} {x1 : Int32} {x2 : Int32} {σ : zS}  (hj : σ.2.1 = L) : Pt (f_X11_nth N x0 x1 x2 σ) (fun r => r.2.2.1 = L) := by
  rw [f_X11_nth.eq_1]
  exact pj_a (fun _ => pt_zb (jf_X11_isRegister hj) (fun _ _ h1 => pt_if (fun _ => pt_some h1) (fun _ => pj_a (fun _ => pj_a (fun _ => pj_a (fun _ => pj_a (fun _ => pt_zb (jf_X2_pick h1) (fun _ _ h2 => pt_some h2))))))))
theorem jf_X11_rank {x0 : Nat} {x1 : Int32} {x2 : Int32} {σ : zS}  (hj : σ.2.1 = L) : Pt (f_X11_rank N x0 x1 x2 σ) (fun r => r.2.2.1 = L) := by
  rw [f_X11_rank.eq_1]
  exact pj_a (fun _ => pt_zb (jf_X11_isRegister hj) (fun _ _ h1 => pt_if (fun _ => pt_some h1) (fun _ => pj_a (fun _ => pt_zb (jf_X11_isSet h1) (fun _ _ h2 => pt_if (fun _ => pt_some h2) (fun _ => pj_a (fun _ => pj_a (fun _ => pj_a (fun _ => pj_a (fun _ => pt_zb (jf_X2_tallyBelow h2) (fun _ _ h3 => pt_some h3)))))))))))
theorem jf_X11_light {x0 : Nat} {x1 : Int32} {x2 : Int32} {σ : zS}  (hj : σ.2.1 = L) : Pt (f_X11_light N x0 x1 x2 σ) (fun r => r.2.2.1 = L) := by
  rw [f_X11_light.eq_1]
  exact pj_a (fun _ => pt_zb (jf_X11_isRegister hj) (fun _ _ h1 => pt_if (fun _ => pt_some h1) (fun _ => pj_a (fun _ => pj_a (fun _ => pj_a (fun _ => pj_a (fun _ => pj_a (fun _ => pj_a (fun _ => pt_zb (jf_X8_pick h1) (fun _ _ h2 => pt_some h2))))))))))
theorem jf_X11_weight {x0 : Nat} {x1 : Int32} {σ : zS}  (hj : σ.2.1 = L) : Pt (f_X11_weight N x0 x1 σ) (fun r => r.2.2.1 = L) := by
  rw [f_X11_weight.eq_1]
  exact pj_a (fun _ => pt_zb (jf_X11_isSet hj) (fun _ _ h1 => pt_if (fun _ => pt_some h1) (fun _ => pj_a (fun _ => pj_a (fun _ => pt_zb (jf_X10_load h1) (fun _ _ h2 => pt_some h2))))))
theorem jf_X11_weigh {x0 : Nat} {x1 : Int32} {x2 : Int32} {σ : zS}  (hj : σ.2.1 = L) : Pt (f_X11_weigh N x0 x1 x2 σ) (fun r => r.2.2.1 = L) := by
  rw [f_X11_weigh.eq_1]
  exact pj_a (fun _ => pt_zb (jf_X11_isName hj) (fun _ _ h1 => pt_if (fun _ => pt_some h1) (fun _ => pt_if (fun _ => pt_some h1) (fun _ => pt_if (fun _ => pj_a (fun _ => pj_a (fun _ => pj_a (fun _ => pj_a (fun _ => pj_a (fun _ => pj_s (j_sI h1) (fun _ h2 => pt_some h2))))))) (fun _ => pt_some h1)))))
theorem jf_X11_weighs {x0 : Nat} {x1 : Int32} {x2 : Int32} {σ : zS}  (hj : σ.2.1 = L) : Pt (f_X11_weighs N x0 x1 x2 σ) (fun r => r.2.2.1 = L) := by
  rw [f_X11_weighs.eq_1]
  exact pj_a (fun _ => pt_zb (jf_X11_isRegister hj) (fun _ _ h1 => pt_if (fun _ => pt_some h1) (fun _ => pt_if (fun _ => pt_some h1) (fun _ => pt_if (fun _ => pj_a (fun _ => pj_a (fun _ => pj_a (fun _ => pj_a (fun _ => pj_a (fun _ => pj_a (fun _ => pt_zb (jf_X8_sum h1) (fun _ _ h2 => pt_some h2)))))))) (fun _ => pt_some h1)))))
theorem jf_X11_draw {x0 : Nat} {x1 : Int32} {x2 : Int32} {σ : zS}  (hj : σ.2.1 = L) : Pt (f_X11_draw N x0 x1 x2 σ) (fun r => r.2.2.1 = L) := by
  rw [f_X11_draw.eq_1]
  exact pj_a (fun _ => pt_zb (jf_X11_isRegister hj) (fun _ _ h1 => pt_if (fun _ => pt_some h1) (fun _ => pt_if (fun _ => pt_some h1) (fun _ => pt_if (fun _ => pj_a (fun _ => pj_a (fun _ => pj_a (fun _ => pj_a (fun _ => pt_zb (jf_X2_tally h1) (fun _ _ h2 => pt_if (fun _ => pj_a (fun _ => pj_a (fun _ => pj_a (fun _ => pj_a (fun _ => pj_a (fun _ => pj_a (fun _ => pj_a (fun _ => pt_zb (jf_X2_pick h2) (fun _ _ h3 => pt_some h3))))))))) (fun _ => pt_some h2))))))) (fun _ => pt_some h1)))))
theorem jf_X11_alike {x0 : Nat} {x1 : Int32} {x2 : Int32} {σ : zS}  (hj : σ.2.1 = L) : Pt (f_X11_alike N x0 x1 x2 σ) (fun r => r.2.2.1 = L) := by
  rw [f_X11_alike.eq_1]
  exact pj_a (fun _ => pt_zb (jf_X11_isRegister hj) (fun _ _ h1 => pt_if (fun _ => pt_some h1) (fun _ => pj_a (fun _ => pt_zb (jf_X11_isRegister h1) (fun _ _ h2 => pt_if (fun _ => pt_some h2) (fun _ => pj_a (fun _ => pj_a (fun _ => pj_a (fun _ => pj_a (fun _ => pj_a (fun _ => pj_a (fun _ => pj_a (fun _ => pt_zb (jf_X2_sameAs h2) (fun _ _ h3 => pt_if (fun _ => pt_some h3) (fun _ => pt_some h3)))))))))))))))
theorem jf_X11_apart {x0 : Nat} {x1 : Int32} {x2 : Int32} {σ : zS}  (hj : σ.2.1 = L) : Pt (f_X11_apart N x0 x1 x2 σ) (fun r => r.2.2.1 = L) := by
  rw [f_X11_apart.eq_1]
  exact pj_a (fun _ => pt_zb (jf_X11_isRegister hj) (fun _ _ h1 => pt_if (fun _ => pt_some h1) (fun _ => pj_a (fun _ => pt_zb (jf_X11_isRegister h1) (fun _ _ h2 => pt_if (fun _ => pt_some h2) (fun _ => pj_a (fun _ => pj_a (fun _ => pj_a (fun _ => pj_a (fun _ => pj_a (fun _ => pj_a (fun _ => pj_a (fun _ => pj_a (fun _ => pj_a (fun _ => pj_a (fun _ => pt_zb (jf_X0_disjointPairs h2) (fun _ _ h3 => pt_some h3)))))))))))))))))
theorem jf_X11_nodes {x0 : Nat} {x1 : Int32} {σ : zS}  (hj : σ.2.1 = L) : Pt (f_X11_nodes N x0 x1 σ) (fun r => r.2.2.1 = L) := by
  rw [f_X11_nodes.eq_1]
  exact pj_a (fun _ => pt_zb (jf_X11_isRegister hj) (fun _ _ h1 => pt_if (fun _ => pt_some h1) (fun _ => pj_a (fun _ => pj_a (fun _ => pj_a (fun _ => pj_a (fun _ => pj_a (fun _ => pj_a (fun _ => pt_zb (jf_X1_tallyOf h1) (fun _ _ h2 => pt_some h2))))))))))
theorem jf_X11_net {x0 : Nat} {σ : zS}  (hj : σ.2.1 = L) : Pt (f_X11_net N x0 σ) (fun r => r.2.2.1 = L) := by
  rw [f_X11_net.eq_1]
  exact pj_a (fun _ => pt_zb (jf_X11_isWorld hj) (fun _ _ h1 => pt_if (fun _ => pt_some h1) (fun _ => pj_a (fun _ => pj_a (fun _ => pj_a (fun _ => pt_zb (jf_X1_tallyOfAll h1) (fun _ _ h2 => pt_some h2)))))))
theorem jf_X11_wide {x0 : Nat} {x1 : Int32} {x2 : Int32} {σ : zS}  (hj : σ.2.1 = L) : Pt (f_X11_wide N x0 x1 x2 σ) (fun r => r.2.2.1 = L) := by
  rw [f_X11_wide.eq_1]
  exact pj_a (fun _ => pt_zb (jf_X11_isRegister hj) (fun _ _ h1 => pt_if (fun _ => pt_some h1) (fun _ => pj_a (fun _ => pt_zb (jf_X11_isName h1) (fun _ _ h2 => pt_if (fun _ => pt_some h2) (fun _ => pj_a (fun _ => pj_a (fun _ => pj_a (fun _ => pj_a (fun _ => pj_a (fun _ => pj_a (fun _ => pt_zb (jf_X1_tallyOf h2) (fun _ _ h3 => pj_a (fun _ => pj_a (fun _ => pt_zb (jf_X1_tallyAt h3) (fun _ _ h4 => pt_some h4))))))))))))))))
theorem jf_X11_order {x0 : Nat} {x1 : Int32} {σ : zS}  (hj : σ.2.1 = L) : Pt (f_X11_order N x0 x1 σ) (fun r => r.2.2.1 = L) := by
  rw [f_X11_order.eq_1]
  exact pj_a (fun _ => pt_zb (jf_X11_isName hj) (fun _ _ h1 => pt_if (fun _ => pt_some h1) (fun _ => pj_a (fun _ => pj_a (fun _ => pj_a (fun _ => pt_some h1))))))
theorem jf_X11_swap {x0 : Nat} {x1 : Int32} {σ : zS}  (hj : σ.2.1 = L) : Pt (f_X11_swap N x0 x1 σ) (fun r => r.2.2.1 = L) := by
  rw [f_X11_swap.eq_1]
  exact pj_a (fun _ => pt_zb (jf_X11_isName hj) (fun _ _ h1 => pt_if (fun _ => pt_some h1) (fun _ => pj_a (fun _ => pj_a (fun _ => pt_if (fun _ => pj_a (fun _ => pj_a (fun _ => pj_a (fun _ => pj_a (fun _ => pj_a (fun _ => pt_zb (jf_X10_moveName h1) (fun _ _ h2 => pj_a (fun _ => pj_a (fun _ => pj_a (fun _ => pt_zb (jf_X1_tallyOfAll h2) (fun _ _ h3 => pt_some h3))))))))))) (fun _ => pt_some h1))))))
theorem jf_X11_move {x0 : Nat} {x1 : Int32} {x2 : Int32} {σ : zS}  (hj : σ.2.1 = L) : Pt (f_X11_move N x0 x1 x2 σ) (fun r => r.2.2.1 = L) := by
  rw [f_X11_move.eq_1]
  exact pj_a (fun _ => pt_zb (jf_X11_isName hj) (fun _ _ h1 => pt_if (fun _ => pt_some h1) (fun _ => pj_a (fun _ => pt_zb (jf_X11_isName h1) (fun _ _ h2 => pt_if (fun _ => pt_some h2) (fun _ => pj_a (fun _ => pj_a (fun _ => pt_zb (jf_X10_moveName h2) (fun _ _ h3 => pt_some h3)))))))))
theorem jf_X11_sift {x0 : Nat} {x1 : Int32} {σ : zS}  (hj : σ.2.1 = L) : Pt (f_X11_sift N x0 x1 σ) (fun r => r.2.2.1 = L) := by
  rw [f_X11_sift.eq_1]
  exact pj_a (fun _ => pt_zb (jf_X11_isRegister hj) (fun _ _ h1 => pt_if (fun _ => pt_some h1) (fun _ => pj_a (fun _ => pj_a (fun _ => pj_a (fun _ => pj_a (fun _ => pj_a (fun _ => pj_a (fun _ => pj_a (fun _ => pt_zb (jf_X3_siftAll h1) (fun _ _ h2 => pt_some h2)))))))))))
theorem jf_X11_isCrossing {x0 : Nat} {x1 : Int32} {σ : zS}  (hj : σ.2.1 = L) : Pt (f_X11_isCrossing N x0 x1 σ) (fun r => r.2.2.1 = L) := by
  rw [f_X11_isCrossing.eq_1]
  exact pt_if (fun _ => pt_rZ hj) (fun _ => pt_if (fun _ => pt_rZ hj) (fun _ => pt_rZ hj))
theorem jf_X11_isSlot {x0 : Nat} {x1 : Int32} {σ : zS}  (hj : σ.2.1 = L) : Pt (f_X11_isSlot N x0 x1 σ) (fun r => r.2.2.1 = L) := by
  rw [f_X11_isSlot.eq_1]
  exact pt_if (fun _ => pt_rZ hj) (fun _ => pt_if (fun _ => pt_rZ hj) (fun _ => pt_rZ hj))
theorem jF_X11_judge_53 {x3 : Nat} {x4 : Nat} {again53 : (Int32 × Int32 × zS) → Option (Int32 × zS)} (ihagain53 : ∀ s : Int32 × Int32 × zS, s.2.2.2.1 = L → Pt (again53 s) (fun r => r.2.2.1 = L)) {s : Int32 × Int32 × zS} (hj : s.2.2.2.1 = L) : Pt (F_X11_judge_53 N x3 x4 again53 s) (fun r => r.2.2.1 = L) := by
  obtain ⟨x5, x6, σ⟩ := s
  rw [F_X11_judge_53.eq_1]
  exact pj_a (fun _ => pt_if (fun _ => pj_a (fun _ => pt_zb (jf_X2_firstFrom hj) (fun _ _ h1 => pt_if (fun _ => pj_a (fun _ => pt_some h1)) (fun _ => pt_some h1)))) (fun _ => pj_a (fun _ => pt_zb (jf_X2_firstFrom hj) (fun _ _ h2 => pt_if (fun _ => pt_some h2) (fun _ => pj_a (fun _ => pj_a (fun _ => pt_if (fun _ => (ihagain53 _ h2)) (fun _ => pt_some h2))))))))
theorem jf_X11_judge {x0 : Nat} {x1 : Int32} {x2 : Int32} {σ : zS}  (hj : σ.2.1 = L) : Pt (f_X11_judge N x0 x1 x2 σ) (fun r => r.2.2.1 = L) := by
  rw [f_X11_judge.eq_1]
  exact pj_a (fun _ => pt_zb (jf_X11_isSlot hj) (fun _ _ h1 => pt_if (fun _ => pt_some h1) (fun _ => pj_a (fun _ => pt_zb (jf_X11_isRegister h1) (fun _ _ h2 => pt_if (fun _ => pt_some h2) (fun _ => pj_a (fun _ => pj_a (fun _ => pj_a (fun _ => pt_zb (jf_X9_isBare h2) (fun _ _ h3 => pt_if (fun _ => pj_a (fun _ => pj_a (fun _ => pj_a (fun _ => pt_lp (fun s => s.2.2.2.1 = L) (fun again s hI ih => jF_X11_judge_53 ih hI) N _ h3)))) (fun _ => pt_some h3)))))))))))
theorem jF_X11_rowsInSlots_4 {x0 : Nat} {again4 : (Int32 × Int32 × zS) → Option (Int32 × zS)} (ihagain4 : ∀ s : Int32 × Int32 × zS, s.2.2.2.1 = L → Pt (again4 s) (fun r => r.2.2.1 = L)) {s : Int32 × Int32 × zS} (hj : s.2.2.2.1 = L) : Pt (F_X11_rowsInSlots_4 N x0 again4 s) (fun r => r.2.2.1 = L) := by
  obtain ⟨x1, x2, σ⟩ := s
  rw [F_X11_rowsInSlots_4.eq_1]
  exact pt_if (fun _ => pt_some hj) (fun _ => pj_a (fun _ => pj_a (fun _ => pj_a (fun _ => pt_zb (jf_X9_isBare hj) (fun _ _ h1 => pt_if (fun _ => (ihagain4 _ h1)) (fun _ => (ihagain4 _ h1)))))))
theorem jf_X11_rowsInSlots {x0 : Nat} {σ : zS}  (hj : σ.2.1 = L) : Pt (f_X11_rowsInSlots N x0 σ) (fun r => r.2.2.1 = L) := by
  rw [f_X11_rowsInSlots.eq_1]
  exact pt_lp (fun s => s.2.2.2.1 = L) (fun again s hI ih => jF_X11_rowsInSlots_4 ih hI) N _ hj
theorem jf_X11_count {x0 : Nat} {x1 : Int32} {σ : zS}  (hj : σ.2.1 = L) : Pt (f_X11_count N x0 x1 σ) (fun r => r.2.2.1 = L) := by
  rw [f_X11_count.eq_1]
  exact pt_if (fun _ => pj_a (fun _ => pj_a (fun _ => pt_some hj))) (fun _ => pt_if (fun _ => pj_a (fun _ => pj_a (fun _ => pt_some hj))) (fun _ => pt_if (fun _ => pj_a (fun _ => pj_a (fun _ => pt_some hj))) (fun _ => pt_if (fun _ => pj_a (fun _ => pt_some hj)) (fun _ => pt_if (fun _ => pj_a (fun _ => pj_a (fun _ => pt_zb (jf_X10_filledRegisters hj) (fun _ _ h1 => pt_some h1)))) (fun _ => pt_if (fun _ => pj_a (fun _ => pt_zb (jf_X11_isWorld hj) (fun _ _ h2 => pt_if (fun _ => pt_some h2) (fun _ => pj_a (fun _ => pj_a (fun _ => pt_zb (jf_X10_unlikeFamilies h2) (fun _ _ h3 => pt_some h3))))))) (fun _ => pt_if (fun _ => pj_a (fun _ => pt_zb (jf_X11_rowsInSlots hj) (fun _ _ h4 => pt_some h4))) (fun _ => pt_some hj)))))))
theorem jf_X12_in {x0 : Int64} {x2 : Int64} {x4 : Int64} {σ : zS}  (hj : σ.2.1 = L) : Pt (f_X12_in N x0 x2 x4 σ) (fun r => r.2.2.1 = L) := by
  rw [f_X12_in.eq_1]
  exact pt_if (fun _ => pt_rZ hj) (fun _ => pt_if (fun _ => pt_rZ hj) (fun _ => pt_rZ hj))
theorem jF_X12_keep_48 {x0 : Nat} {x1 : Int32} {again48 : (Int32 × zS) → Option (Int32 × zS)} (ihagain48 : ∀ s : Int32 × zS, s.2.2.1 = L → Pt (again48 s) (fun r => r.2.2.1 = L)) {s : Int32 × zS} (hj : s.2.2.1 = L) : Pt (F_X12_keep_48 N x0 x1 again48 s) (fun r => r.2.2.1 = L) := by
  obtain ⟨x2, σ⟩ := s
  rw [F_X12_keep_48.eq_1]
  exact pt_if (fun _ => pj_a (fun _ => pj_s (j_sI hj) (fun _ h1 => pt_some h1))) (fun _ => pj_a (fun _ => pj_a (fun _ => pj_a (fun _ => pj_s (j_sI hj) (fun _ h2 => (ihagain48 _ h2))))))
theorem jF_X12_keep_17 {x0 : Nat} {x1 : Int32} {again17 : (Int32 × zS) → Option (Int32 × zS)} (ihagain17 : ∀ s : Int32 × zS, s.2.2.1 = L → Pt (again17 s) (fun r => r.2.2.1 = L)) {s : Int32 × zS} (hj : s.2.2.1 = L) : Pt (F_X12_keep_17 N x0 x1 again17 s) (fun r => r.2.2.1 = L) := by
  obtain ⟨x2, σ⟩ := s
  rw [F_X12_keep_17.eq_1]
  exact pt_if (fun _ => pt_lp (fun s => s.2.2.1 = L) (fun again s hI ih => jF_X12_keep_48 ih hI) N _ hj) (fun _ => pj_a (fun _ => pj_a (fun _ => pj_a (fun _ => pj_s (j_sI hj) (fun _ h1 => (ihagain17 _ h1))))))
theorem jf_X12_keep {x0 : Nat} {x1 : Int32} {σ : zS}  (hj : σ.2.1 = L) : Pt (f_X12_keep N x0 x1 σ) (fun r => r.2.2.1 = L) := by
  rw [f_X12_keep.eq_1]
  exact pt_zb (jf_X12_in hj) (fun _ _ h1 => pt_if (fun _ => pt_some h1) (fun _ => pt_lp (fun s => s.2.2.1 = L) (fun again s hI ih => jF_X12_keep_17 ih hI) N _ h1))
theorem jF_X12_back_60 {x0 : Nat} {x1 : Int32} {again60 : (Int32 × zS) → Option (Int32 × zS)} (ihagain60 : ∀ s : Int32 × zS, s.2.2.1 = L → Pt (again60 s) (fun r => r.2.2.1 = L)) {s : Int32 × zS} (hj : s.2.2.1 = L) : Pt (F_X12_back_60 N x0 x1 again60 s) (fun r => r.2.2.1 = L) := by
  obtain ⟨x2, σ⟩ := s
  rw [F_X12_back_60.eq_1]
  exact pt_if (fun _ => pt_some hj) (fun _ => pj_a (fun _ => pj_a (fun _ => pj_a (fun _ => pj_s (j_sI hj) (fun _ h1 => (ihagain60 _ h1))))))
theorem jF_X12_back_29 {x0 : Nat} {x1 : Int32} {again29 : (Int32 × zS) → Option (Int32 × zS)} (ihagain29 : ∀ s : Int32 × zS, s.2.2.1 = L → Pt (again29 s) (fun r => r.2.2.1 = L)) {s : Int32 × zS} (hj : s.2.2.1 = L) : Pt (F_X12_back_29 N x0 x1 again29 s) (fun r => r.2.2.1 = L) := by
  obtain ⟨x2, σ⟩ := s
  rw [F_X12_back_29.eq_1]
  exact pt_if (fun _ => pt_lp (fun s => s.2.2.1 = L) (fun again s hI ih => jF_X12_back_60 ih hI) N _ hj) (fun _ => pj_a (fun _ => pj_a (fun _ => pj_a (fun _ => pj_s (j_sI hj) (fun _ h1 => (ihagain29 _ h1))))))
theorem jf_X12_back {x0 : Nat} {x1 : Int32} {σ : zS}  (hj : σ.2.1 = L) : Pt (f_X12_back N x0 x1 σ) (fun r => r.2.2.1 = L) := by
  rw [f_X12_back.eq_1]
  exact pt_zb (jf_X12_in hj) (fun _ _ h1 => pt_if (fun _ => pt_some h1) (fun _ => pj_a (fun _ => pj_a (fun _ => pt_if (fun _ => pt_some h1) (fun _ => pt_lp (fun s => s.2.2.1 = L) (fun again s hI ih => jF_X12_back_29 ih hI) N _ h1)))))
theorem jf_X12_isWorld {x0 : Nat} {σ : zS}  (hj : σ.2.1 = L) : Pt (f_X12_isWorld N x0 σ) (fun r => r.2.2.1 = L) := by
  rw [f_X12_isWorld.eq_1]
  exact pj_a (fun _ => pj_a (fun _ => pt_if (fun _ => pt_rZ hj) (fun _ => pt_rZ hj)))
theorem jf_X12_isRegister {x0 : Nat} {x1 : Int32} {σ : zS}  (hj : σ.2.1 = L) : Pt (f_X12_isRegister N x0 x1 σ) (fun r => r.2.2.1 = L) := by
  rw [f_X12_isRegister.eq_1]
  exact pj_a (fun _ => pt_zb (jf_X12_isWorld hj) (fun _ _ h1 => pt_if (fun _ => pt_rZ h1) (fun _ => pt_zb (jf_X12_in h1) (fun _ _ h2 => pt_if (fun _ => pt_rZ h2) (fun _ => pt_rZ h2)))))
theorem jf_X12_many {x0 : Nat} {σ : zS}  (hj : σ.2.1 = L) : Pt (f_X12_many N x0 σ) (fun r => r.2.2.1 = L) := by
  rw [f_X12_many.eq_1]
  exact pj_a (fun _ => pt_zb (jf_X12_isWorld hj) (fun _ _ h1 => pt_if (fun _ => pt_some h1) (fun _ => pj_a (fun _ => pj_a (fun _ => pt_some h1)))))
theorem jf_X12_isSet {x0 : Nat} {x1 : Int32} {σ : zS}  (hj : σ.2.1 = L) : Pt (f_X12_isSet N x0 x1 σ) (fun r => r.2.2.1 = L) := by
  rw [f_X12_isSet.eq_1]
  exact pj_a (fun _ => pt_zb (jf_X12_many hj) (fun _ _ h1 => pt_zb (jf_X12_in h1) (fun _ _ h2 => pt_rZ h2)))
theorem jf_X12_isName {x0 : Nat} {x1 : Int32} {σ : zS}  (hj : σ.2.1 = L) : Pt (f_X12_isName N x0 x1 σ) (fun r => r.2.2.1 = L) := by
  rw [f_X12_isName.eq_1]
  exact pj_a (fun _ => pj_a (fun _ => pt_zb (jf_X12_in hj) (fun _ _ h1 => pt_rZ h1)))
theorem jf_X12_of {x0 : Nat} {x1 : Int32} {x2 : Int32} {σ : zS}  (hj : σ.2.1 = L) : Pt (f_X12_of N x0 x1 x2 σ) (fun r => r.2.2.1 = L) := by
  rw [f_X12_of.eq_1]
  exact pj_a (fun _ => pj_a (fun _ => pt_rZ hj))
theorem jF_X12_namesOf_4 {x0 : Int32} {again4 : (Int32 × Int32 × zS) → Option (Int32 × zS)} (ihagain4 : ∀ s : Int32 × Int32 × zS, s.2.2.2.1 = L → Pt (again4 s) (fun r => r.2.2.1 = L)) {s : Int32 × Int32 × zS} (hj : s.2.2.2.1 = L) : Pt (F_X12_namesOf_4 N x0 again4 s) (fun r => r.2.2.1 = L) := by
  obtain ⟨x1, x2, σ⟩ := s
  rw [F_X12_namesOf_4.eq_1]
  exact pt_if (fun _ => pt_some hj) (fun _ => (ihagain4 _ hj))
theorem jf_X12_namesOf {x0 : Int32} {σ : zS}  (hj : σ.2.1 = L) : Pt (f_X12_namesOf N x0 σ) (fun r => r.2.2.1 = L) := by
  rw [f_X12_namesOf.eq_1]
  exact pt_lp (fun s => s.2.2.2.1 = L) (fun again s hI ih => jF_X12_namesOf_4 ih hI) N _ hj
theorem jF_X12_feed_55 {x0 : Nat} {again55 : (Int32 × zS) → Option (Int32 × zS)} (ihagain55 : ∀ s : Int32 × zS, s.2.2.1 = L → Pt (again55 s) (fun r => r.2.2.1 = L)) {s : Int32 × zS} (hj : s.2.2.1 = L) : Pt (F_X12_feed_55 N x0 again55 s) (fun r => r.2.2.1 = L) := by
  obtain ⟨x6, σ⟩ := s
  rw [F_X12_feed_55.eq_1]
  exact pt_if (fun _ => pj_a (fun _ => pj_s (j_pI hj) (fun _ h1 => pj_a (fun _ => pt_some h1)))) (fun _ => pj_a (fun _ => pj_a (fun _ => pj_a (fun _ => pj_a (fun _ => pj_a (fun _ => pj_a (fun _ => pj_s (j_sI hj) (fun _ h2 => (ihagain55 _ h2)))))))))
theorem jf_X12_feed {x0 : Nat} {x1 : Int32} {x2 : Int32} {x3 : Int32} {x4 : Int32} {x5 : Int32} {σ : zS}  (hj : σ.2.1 = L) : Pt (f_X12_feed N x0 x1 x2 x3 x4 x5 σ) (fun r => r.2.2.1 = L) := by
  rw [f_X12_feed.eq_1]
  exact pj_a (fun _ => pt_if (fun _ => pj_a (fun _ => pj_s (j_sI hj) (fun _ h1 => pj_a (fun _ => pj_s (j_sI h1) (fun _ h2 => pj_a (fun _ => pj_s (j_sI h2) (fun _ h3 => pj_a (fun _ => pj_s (j_sI h3) (fun _ h4 => pj_a (fun _ => pj_s (j_sI h4) (fun _ h5 => pt_lp (fun s => s.2.2.1 = L) (fun again s hI ih => jF_X12_feed_55 ih hI) N _ h5))))))))))) (fun _ => pt_some hj))
theorem jf_X12_end {x0 : Nat} {x1 : Int32} {σ : zS}  (hj : σ.2.1 = L) : Pt (f_X12_end N x0 x1 σ) (fun r => r.2.2.1 = L) := by
  rw [f_X12_end.eq_1]
  exact pj_a (fun _ => pt_zb (jf_X12_in hj) (fun _ _ h1 => pt_if (fun _ => pt_some h1) (fun _ => pj_s (j_pI h1) (fun _ h2 => pt_some h2))))
theorem jf_X12_see {x0 : Nat} {x1 : Int32} {σ : zS}  (hj : σ.2.1 = L) : Pt (f_X12_see N x0 x1 σ) (fun r => r.2.2.1 = L) := by
  rw [f_X12_see.eq_1]
  exact pj_a (fun _ => pt_if (fun _ => pt_some hj) (fun _ => pj_a (fun _ => pj_a (fun _ => pt_some hj))))
theorem jf_X12_isSign {x0 : Int32} {σ : zS}  (hj : σ.2.1 = L) : Pt (f_X12_isSign N x0 σ) (fun r => r.2.2.1 = L) := by
  rw [f_X12_isSign.eq_1]
  exact pt_if (fun _ => pt_rZ hj) (fun _ => pt_if (fun _ => pt_rZ hj) (fun _ => pt_if (fun _ => pt_rZ hj) (fun _ => pt_if (fun _ => pt_rZ hj) (fun _ => pt_if (fun _ => pt_rZ hj) (fun _ => pt_if (fun _ => pt_rZ hj) (fun _ => pt_if (fun _ => pt_rZ hj) (fun _ => pt_if (fun _ => pt_rZ hj) (fun _ => pt_if (fun _ => pt_rZ hj) (fun _ => pt_if (fun _ => pt_rZ hj) (fun _ => pt_if (fun _ => pt_rZ hj) (fun _ => pt_if (fun _ => pt_rZ hj) (fun _ => pt_if (fun _ => pt_rZ hj) (fun _ => pt_if (fun _ => pt_rZ hj) (fun _ => pt_rZ hj))))))))))))))
theorem jF_X12_advance_144 {x0 : Nat} {again144 : zS → Option (Unit × zS)} (ihagain144 : ∀ s : zS, s.2.1 = L → Pt (again144 s) (fun r => r.2.2.1 = L)) {s : zS} (hj : s.2.1 = L) : Pt (F_X12_advance_144 N x0 again144 s) (fun r => r.2.2.1 = L) := by
  rw [F_X12_advance_144.eq_1]
  exact pj_a (fun _ => pj_a (fun _ => pt_zb (jf_X12_see hj) (fun _ _ h1 => pt_zb (jf_X12_in h1) (fun _ _ h2 => pt_if (fun _ => pj_s (j_pI h2) (fun _ h3 => pt_some h3)) (fun _ => pj_a (fun _ => pj_a (fun _ => pj_a (fun _ => pt_zb (jf_X12_see h2) (fun _ _ h4 => pj_s (j_pI h4) (fun _ h5 => pj_a (fun _ => pj_s (j_pI h5) (fun _ h6 => (ihagain144 _ h6)))))))))))))
theorem jF_X12_advance_83 {x0 : Nat} {again83 : zS → Option (Unit × zS)} (ihagain83 : ∀ s : zS, s.2.1 = L → Pt (again83 s) (fun r => r.2.2.1 = L)) {s : zS} (hj : s.2.1 = L) : Pt (F_X12_advance_83 N x0 again83 s) (fun r => r.2.2.1 = L) := by
  rw [F_X12_advance_83.eq_1]
  exact pj_a (fun _ => pj_a (fun _ => pt_zb (jf_X12_see hj) (fun _ _ h1 => pt_zb (jf_X12_in h1) (fun _ _ h2 => pt_if (fun _ => pj_s (j_pI h2) (fun _ h3 => pt_some h3)) (fun _ => pj_a (fun _ => pj_s (j_pI h2) (fun _ h4 => (ihagain83 _ h4))))))))
theorem jF_X12_advance_0 {x0 : Nat} {again0 : zS → Option (Unit × zS)} (ihagain0 : ∀ s : zS, s.2.1 = L → Pt (again0 s) (fun r => r.2.2.1 = L)) {s : zS} (hj : s.2.1 = L) : Pt (F_X12_advance_0 N x0 again0 s) (fun r => r.2.2.1 = L) := by
  rw [F_X12_advance_0.eq_1]
  exact pj_a (fun _ => pj_a (fun _ => pt_zb (jf_X12_see hj) (fun _ _ h1 => pt_if (fun _ => pj_a (fun _ => pj_s (j_pI h1) (fun _ h2 => (ihagain0 _ h2)))) (fun _ => pj_a (fun _ => pj_a (fun _ => pt_zb (jf_X12_see h1) (fun _ _ h3 => pt_if (fun _ => pj_a (fun _ => pj_s (j_pI h3) (fun _ h4 => (ihagain0 _ h4)))) (fun _ => pj_a (fun _ => pj_s (j_pI h3) (fun _ h5 => pj_a (fun _ => pj_a (fun _ => pt_zb (jf_X12_see h5) (fun _ _ h6 => pt_if (fun _ => pj_s (j_pI h6) (fun _ h7 => pt_some h7)) (fun _ => pt_zb (jf_X12_in h6) (fun _ _ h8 => pt_if (fun _ => pt_zb (jf_X12_in h8) (fun _ _ h9 => pt_if (fun _ => pt_zb (jf_X12_isSign h9) (fun _ _ h10 => pt_if (fun _ => pj_s (j_pI h10) (fun _ h11 => pj_a (fun _ => pj_s (j_pI h11) (fun _ h12 => pt_some h12)))) (fun _ => pj_s (j_pI h10) (fun _ h13 => pj_a (fun _ => pj_s (j_pI h13) (fun _ h14 => pt_some h14)))))) (fun _ => pj_s (j_pI h9) (fun _ h15 => pt_lp (fun s => s.2.1 = L) (fun again s hI ih => jF_X12_advance_144 ih hI) N _ h15)))) (fun _ => pt_lp (fun s => s.2.1 = L) (fun again s hI ih => jF_X12_advance_83 ih hI) N _ h8))))))))))))))))
theorem jf_X12_advance {x0 : Nat} {σ : zS}  (hj : σ.2.1 = L) : Pt (f_X12_advance N x0 σ) (fun r => r.2.2.1 = L) := by
  rw [f_X12_advance.eq_1]
  exact pt_lp (fun s => s.2.1 = L) (fun again s hI ih => jF_X12_advance_0 ih hI) N _ hj
theorem jf_X12_begins {x0 : Nat} {σ : zS}  (hj : σ.2.1 = L) : Pt (f_X12_begins N x0 σ) (fun r => r.2.2.1 = L) := by
  rw [f_X12_begins.eq_1]
  exact pj_a (fun _ => pj_s (j_pI hj) (fun _ h1 => pj_s (j_pI h1) (fun _ h2 => pj_s (j_pI h2) (fun _ h3 => pj_s (j_pI h3) (fun _ h4 => pj_s (j_pI h4) (fun _ h5 => pj_s (j_pI h5) (fun _ h6 => pj_a (fun _ => pt_zb (jf_X12_advance h6) (fun _ _ h7 => pt_some h7)))))))))
theorem jf_X12_good {x0 : Nat} {σ : zS}  (hj : σ.2.1 = L) : Pt (f_X12_good N x0 σ) (fun r => r.2.2.1 = L) := by
  rw [f_X12_good.eq_1]
  exact pj_a (fun _ => pt_if (fun _ => pt_rZ hj) (fun _ => pt_rZ hj))
theorem jf_X12_errs {x0 : Nat} {x1 : Int32} {σ : zS}  (hj : σ.2.1 = L) : Pt (f_X12_errs N x0 x1 σ) (fun r => r.2.2.1 = L) := by
  rw [f_X12_errs.eq_1]
  exact pj_a (fun _ => pt_zb (jf_X12_good hj) (fun _ _ h1 => pt_if (fun _ => pt_some h1) (fun _ => pj_s (j_pI h1) (fun _ h2 => pj_a (fun _ => pj_s (j_pI h2) (fun _ h3 => pt_some h3))))))
theorem jF_X12_is_39 {x0 : Nat} {x1 : Nat} {again39 : (Int32 × Int32 × zS) → Option (Int32 × zS)} (ihagain39 : ∀ s : Int32 × Int32 × zS, s.2.2.2.1 = L → Pt (again39 s) (fun r => r.2.2.1 = L)) {s : Int32 × Int32 × zS} (hj : s.2.2.2.1 = L) : Pt (F_X12_is_39 N x0 x1 again39 s) (fun r => r.2.2.1 = L) := by
  obtain ⟨x2, x3, σ⟩ := s
  rw [F_X12_is_39.eq_1]
  exact pt_zb (jf_J0_length_8abf5 hj) (fun _ _ h1 => pt_if (fun _ => pt_rZ h1) (fun _ => pt_if (fun _ => pt_rZ h1) (fun _ => pj_a (fun _ => pj_a (fun _ => pj_a (fun _ => pt_zb (jf_J0_charAt_5068e h1) (fun _ _ h2 => pt_if (fun _ => (ihagain39 _ h2)) (fun _ => (ihagain39 _ h2)))))))))
theorem jJ_X12_is_36 {x0 : Nat} {x1 : Nat} {y0 : Int32} {σ : zS}  (hj : σ.2.1 = L) : Pt (J_X12_is_36 N x0 x1 y0 σ) (fun r => r.2.2.1 = L) := by
  rw [J_X12_is_36.eq_1]
  exact pt_lp (fun s => s.2.2.2.1 = L) (fun again s hI ih => jF_X12_is_39 ih hI) N _ hj
theorem jf_X12_is {x0 : Nat} {x1 : Nat} {σ : zS}  (hj : σ.2.1 = L) : Pt (f_X12_is N x0 x1 σ) (fun r => r.2.2.1 = L) := by
  rw [f_X12_is.eq_1]
  exact pj_a (fun _ => pt_zb (jf_X12_good hj) (fun _ _ h1 => pt_if (fun _ => (jJ_X12_is_36 h1)) (fun _ => pj_a (fun _ => pt_if (fun _ => pj_a (fun _ => pj_a (fun _ => pt_zb (jf_J0_length_8abf5 h1) (fun _ _ h2 => pt_if (fun _ => (jJ_X12_is_36 h2)) (fun _ => (jJ_X12_is_36 h2)))))) (fun _ => (jJ_X12_is_36 h1))))))
theorem jf_X12_takes {x0 : Nat} {x1 : Nat} {σ : zS}  (hj : σ.2.1 = L) : Pt (f_X12_takes N x0 x1 σ) (fun r => r.2.2.1 = L) := by
  rw [f_X12_takes.eq_1]
  exact pj_a (fun _ => pt_zb (jf_X12_is hj) (fun _ _ h1 => pt_if (fun _ => pt_rZ h1) (fun _ => pj_a (fun _ => pt_zb (jf_X12_advance h1) (fun _ _ h2 => pt_rZ h2)))))
theorem jf_X12_needs {x0 : Nat} {x1 : Nat} {σ : zS}  (hj : σ.2.1 = L) : Pt (f_X12_needs N x0 x1 σ) (fun r => r.2.2.1 = L) := by
  rw [f_X12_needs.eq_1]
  exact pj_a (fun _ => pt_zb (jf_X12_takes hj) (fun _ _ h1 => pt_if (fun _ => pj_a (fun _ => pt_zb (jf_X12_errs h1) (fun _ _ h2 => pt_some h2))) (fun _ => pt_some h1)))
theorem jJ_X12_needsSign_20 {x0 : Nat} {σ : zS}  (hj : σ.2.1 = L) : Pt (J_X12_needsSign_20 N x0 σ) (fun r => r.2.2.1 = L) := by
  rw [J_X12_needsSign_20.eq_1]
  exact pj_a (fun _ => pt_zb (jf_X12_good hj) (fun _ _ h1 => pt_if (fun _ => pt_some h1) (fun _ => pj_a (fun _ => pt_zb (jf_X12_advance h1) (fun _ _ h2 => pt_some h2)))))
theorem jf_X12_needsSign {x0 : Nat} {x1 : Int32} {σ : zS}  (hj : σ.2.1 = L) : Pt (f_X12_needsSign N x0 x1 σ) (fun r => r.2.2.1 = L) := by
  rw [f_X12_needsSign.eq_1]
  exact pj_a (fun _ => pt_zb (jf_X12_good hj) (fun _ _ h1 => pt_if (fun _ => (jJ_X12_needsSign_20 h1)) (fun _ => pj_a (fun _ => pt_if (fun _ => (jJ_X12_needsSign_20 h1)) (fun _ => pj_a (fun _ => pt_zb (jf_X12_errs h1) (fun _ _ h2 => (jJ_X12_needsSign_20 h2))))))))
theorem jJ_X12_number_47 {x0 : Nat} {σ : zS}  (hj : σ.2.1 = L) : Pt (J_X12_number_47 N x0 σ) (fun r => r.2.2.1 = L) := by
  rw [J_X12_number_47.eq_1]
  exact pj_a (fun _ => pt_zb (jf_X12_good hj) (fun _ _ h1 => pt_if (fun _ => pt_some h1) (fun _ => pj_a (fun _ => pj_a (fun _ => pt_zb (jf_X12_advance h1) (fun _ _ h2 => pt_some h2))))))
theorem jJ_X12_number_20 {x0 : Nat} {x1 : Int32} {x2 : Int32} {σ : zS}  (hj : σ.2.1 = L) : Pt (J_X12_number_20 N x0 x1 x2 σ) (fun r => r.2.2.1 = L) := by
  rw [J_X12_number_20.eq_1]
  exact pj_a (fun _ => pt_zb (jf_X12_good hj) (fun _ _ h1 => pt_if (fun _ => (jJ_X12_number_47 h1)) (fun _ => pj_a (fun _ => pt_zb (jf_X12_in h1) (fun _ _ h2 => pt_if (fun _ => pj_a (fun _ => pt_zb (jf_X12_errs h2) (fun _ _ h3 => (jJ_X12_number_47 h3)))) (fun _ => (jJ_X12_number_47 h2)))))))
theorem jf_X12_number {x0 : Nat} {x1 : Int32} {x2 : Int32} {σ : zS}  (hj : σ.2.1 = L) : Pt (f_X12_number N x0 x1 x2 σ) (fun r => r.2.2.1 = L) := by
  rw [f_X12_number.eq_1]
  exact pj_a (fun _ => pt_zb (jf_X12_good hj) (fun _ _ h1 => pt_if (fun _ => (jJ_X12_number_20 h1)) (fun _ => pj_a (fun _ => pt_if (fun _ => (jJ_X12_number_20 h1)) (fun _ => pj_a (fun _ => pt_zb (jf_X12_errs h1) (fun _ _ h2 => (jJ_X12_number_20 h2))))))))
theorem jf_X12_fault {x0 : Nat} {x1 : Int32} {σ : zS}  (hj : σ.2.1 = L) : Pt (f_X12_fault N x0 x1 σ) (fun r => r.2.2.1 = L) := by
  rw [f_X12_fault.eq_1]
  exact pt_if (fun _ => pj_a (fun _ => pt_some hj)) (fun _ => pt_if (fun _ => pj_a (fun _ => pt_some hj)) (fun _ => pt_some hj))
theorem jF_X12_joins_38 {x0 : Nat} {x1 : Nat} {x2 : Int32} {x3 : Nat} {x4 : Int32} {x5 : Nat} {x6 : Int32} {again26 : (Int32 × zS) → Option (Unit × zS)} {again38 : (Int32 × zS) → Option (Unit × zS)} (ihagain26 : ∀ s : Int32 × zS, s.2.2.1 = L → Pt (again26 s) (fun r => r.2.2.1 = L)) (ihagain38 : ∀ s : Int32 × zS, s.2.2.1 = L → Pt (again38 s) (fun r => r.2.2.1 = L)) {s : Int32 × zS} (hj : s.2.2.1 = L) : Pt (F_X12_joins_38 N x0 x1 x2 x3 x4 x5 x6 again26 again38 s) (fun r => r.2.2.1 = L) := by
  obtain ⟨x7, σ⟩ := s
  rw [F_X12_joins_38.eq_1]
  exact pj_a (fun _ => pt_if (fun _ => (ihagain26 _ hj)) (fun _ => pj_a (fun _ => pt_if (fun _ => (ihagain26 _ hj)) (fun _ => pj_a (fun _ => pt_if (fun _ => (ihagain38 _ hj)) (fun _ => pj_s (j_sI hj) (fun _ h1 => (ihagain38 _ h1))))))))
theorem jF_X12_joins_26 {x0 : Nat} {x1 : Nat} {x2 : Int32} {x3 : Nat} {x4 : Int32} {x5 : Nat} {again26 : (Int32 × zS) → Option (Unit × zS)} (ihagain26 : ∀ s : Int32 × zS, s.2.2.1 = L → Pt (again26 s) (fun r => r.2.2.1 = L)) {s : Int32 × zS} (hj : s.2.2.1 = L) : Pt (F_X12_joins_26 N x0 x1 x2 x3 x4 x5 again26 s) (fun r => r.2.2.1 = L) := by
  obtain ⟨x6, σ⟩ := s
  rw [F_X12_joins_26.eq_1]
  exact pj_a (fun _ => pt_if (fun _ => pt_some hj) (fun _ => pt_lp (fun s => s.2.2.1 = L) (fun again s hI ih => jF_X12_joins_38 ihagain26 ih hI) N _ hj))
theorem jF_X12_joins_3 {x0 : Nat} {x1 : Nat} {x2 : Int32} {x3 : Nat} {x4 : Int32} {x5 : Nat} {again3 : (Int32 × zS) → Option (Unit × zS)} (ihagain3 : ∀ s : Int32 × zS, s.2.2.1 = L → Pt (again3 s) (fun r => r.2.2.1 = L)) {s : Int32 × zS} (hj : s.2.2.1 = L) : Pt (F_X12_joins_3 N x0 x1 x2 x3 x4 x5 again3 s) (fun r => r.2.2.1 = L) := by
  obtain ⟨x6, σ⟩ := s
  rw [F_X12_joins_3.eq_1]
  exact pt_if (fun _ => pt_lp (fun s => s.2.2.1 = L) (fun again s hI ih => jF_X12_joins_26 ih hI) N _ hj) (fun _ => pj_s (j_sI hj) (fun _ h1 => (ihagain3 _ h1)))
theorem jf_X12_joins {x0 : Nat} {x1 : Nat} {x2 : Int32} {x3 : Nat} {x4 : Int32} {x5 : Nat} {σ : zS}  (hj : σ.2.1 = L) : Pt (f_X12_joins N x0 x1 x2 x3 x4 x5 σ) (fun r => r.2.2.1 = L) := by
  rw [f_X12_joins.eq_1]
  exact pt_lp (fun s => s.2.2.1 = L) (fun again s hI ih => jF_X12_joins_3 ih hI) N _ hj
theorem jF_X12_isOver_6 {x0 : Nat} {x1 : Nat} {x2 : Int32} {x3 : Nat} {x4 : Int32} {x5 : Int32} {again6 : (Int32 × Int32 × zS) → Option (Int32 × zS)} (ihagain6 : ∀ s : Int32 × Int32 × zS, s.2.2.2.1 = L → Pt (again6 s) (fun r => r.2.2.1 = L)) {s : Int32 × Int32 × zS} (hj : s.2.2.2.1 = L) : Pt (F_X12_isOver_6 N x0 x1 x2 x3 x4 x5 again6 s) (fun r => r.2.2.1 = L) := by
  obtain ⟨x6, x7, σ⟩ := s
  rw [F_X12_isOver_6.eq_1]
  exact pj_a (fun _ => pt_if (fun _ => pt_rZ hj) (fun _ => pj_a (fun _ => pt_if (fun _ => (ihagain6 _ hj)) (fun _ => pt_if (fun _ => pj_a (fun _ => pt_if (fun _ => pt_rZ hj) (fun _ => (ihagain6 _ hj)))) (fun _ => pt_rZ hj)))))
theorem jf_X12_isOver {x0 : Nat} {x1 : Nat} {x2 : Int32} {x3 : Nat} {x4 : Int32} {x5 : Int32} {σ : zS}  (hj : σ.2.1 = L) : Pt (f_X12_isOver N x0 x1 x2 x3 x4 x5 σ) (fun r => r.2.2.1 = L) := by
  rw [f_X12_isOver.eq_1]
  exact pt_lp (fun s => s.2.2.2.1 = L) (fun again s hI ih => jF_X12_isOver_6 ih hI) N _ hj
theorem jF_X12_isTouching_3 {x0 : Nat} {x1 : Nat} {x2 : Int32} {x3 : Int32} {again3 : (Int32 × zS) → Option (Int32 × zS)} (ihagain3 : ∀ s : Int32 × zS, s.2.2.1 = L → Pt (again3 s) (fun r => r.2.2.1 = L)) {s : Int32 × zS} (hj : s.2.2.1 = L) : Pt (F_X12_isTouching_3 N x0 x1 x2 x3 again3 s) (fun r => r.2.2.1 = L) := by
  obtain ⟨x4, σ⟩ := s
  rw [F_X12_isTouching_3.eq_1]
  exact pj_a (fun _ => pt_if (fun _ => pt_rZ hj) (fun _ => pj_a (fun _ => pt_if (fun _ => (ihagain3 _ hj)) (fun _ => pt_if (fun _ => pt_rZ hj) (fun _ => (ihagain3 _ hj))))))
theorem jf_X12_isTouching {x0 : Nat} {x1 : Nat} {x2 : Int32} {x3 : Int32} {σ : zS}  (hj : σ.2.1 = L) : Pt (f_X12_isTouching N x0 x1 x2 x3 σ) (fun r => r.2.2.1 = L) := by
  rw [f_X12_isTouching.eq_1]
  exact pt_lp (fun s => s.2.2.1 = L) (fun again s hI ih => jF_X12_isTouching_3 ih hI) N _ hj
theorem jF_X12_gives_98 {x0 : Nat} {x2 : Nat} {x3 : Int32} {again98 : (Int32 × zS) → Option (Unit × zS)} (ihagain98 : ∀ s : Int32 × zS, s.2.2.1 = L → Pt (again98 s) (fun r => r.2.2.1 = L)) {s : Int32 × zS} (hj : s.2.2.1 = L) : Pt (F_X12_gives_98 N x0 x2 x3 again98 s) (fun r => r.2.2.1 = L) := by
  obtain ⟨x6, σ⟩ := s
  rw [F_X12_gives_98.eq_1]
  exact pt_if (fun _ => pt_some hj) (fun _ => pj_a (fun _ => pj_a (fun _ => pt_if (fun _ => pj_s (j_sI hj) (fun _ h1 => (ihagain98 _ h1))) (fun _ => pj_a (fun _ => pt_if (fun _ => pj_s (j_sI hj) (fun _ h2 => (ihagain98 _ h2))) (fun _ => pj_a (fun _ => pj_a (fun _ => pt_if (fun _ => pj_s (j_sI hj) (fun _ h3 => (ihagain98 _ h3))) (fun _ => pj_s (j_sI hj) (fun _ h4 => (ihagain98 _ h4)))))))))))
theorem jF_X12_gives_28 {x0 : Nat} {x2 : Nat} {x3 : Int32} {x4 : Nat} {x5 : Int32} {again28 : (Int32 × zS) → Option (Unit × zS)} (ihagain28 : ∀ s : Int32 × zS, s.2.2.1 = L → Pt (again28 s) (fun r => r.2.2.1 = L)) {s : Int32 × zS} (hj : s.2.2.1 = L) : Pt (F_X12_gives_28 N x0 x2 x3 x4 x5 again28 s) (fun r => r.2.2.1 = L) := by
  obtain ⟨x6, σ⟩ := s
  rw [F_X12_gives_28.eq_1]
  exact pt_if (fun _ => pj_a (fun _ => pj_a (fun _ => pj_a (fun _ => pt_zb (jf_X12_joins hj) (fun _ _ h1 => pt_lp (fun s => s.2.2.1 = L) (fun again s hI ih => jF_X12_gives_98 ih hI) N _ h1))))) (fun _ => pj_a (fun _ => pj_a (fun _ => pt_if (fun _ => pj_s (j_sI hj) (fun _ h2 => (ihagain28 _ h2))) (fun _ => pj_a (fun _ => pt_zb (jf_X12_isOver hj) (fun _ _ h3 => pt_if (fun _ => pj_s (j_sI h3) (fun _ h4 => (ihagain28 _ h4))) (fun _ => pj_s (j_sI h3) (fun _ h5 => (ihagain28 _ h5)))))))))
theorem jJ_X12_gives_178 {again156 : (Int32 × zS) → Option (Unit × zS)} {x0 : Nat} {x1 : Int32} {x2 : Nat} {x3 : Int32} {x4 : Nat} {x5 : Int32} {x6 : Int32} {y0 : Int32} {σ : zS} (ihagain156 : ∀ s : Int32 × zS, s.2.2.1 = L → Pt (again156 s) (fun r => r.2.2.1 = L)) (hj : σ.2.1 = L) : Pt (J_X12_gives_178 N again156 x0 x1 x2 x3 x4 x5 x6 y0 σ) (fun r => r.2.2.1 = L) := by
  rw [J_X12_gives_178.eq_1]
  exact pt_if (fun _ => pt_if (fun _ => pj_a (fun _ => pj_s (j_sI hj) (fun _ h1 => (ihagain156 _ h1)))) (fun _ => pj_a (fun _ => pt_if (fun _ => pj_a (fun _ => pt_if (fun _ => pj_a (fun _ => pj_s (j_sI hj) (fun _ h2 => (ihagain156 _ h2)))) (fun _ => pj_a (fun _ => pj_s (j_sI hj) (fun _ h3 => (ihagain156 _ h3)))))) (fun _ => pj_a (fun _ => pj_s (j_sI hj) (fun _ h4 => (ihagain156 _ h4))))))) (fun _ => pt_if (fun _ => pt_if (fun _ => pj_a (fun _ => pj_s (j_sI hj) (fun _ h5 => (ihagain156 _ h5)))) (fun _ => pj_a (fun _ => pt_if (fun _ => pj_a (fun _ => pj_s (j_sI hj) (fun _ h6 => (ihagain156 _ h6)))) (fun _ => pj_a (fun _ => pt_if (fun _ => pj_a (fun _ => pj_s (j_sI hj) (fun _ h7 => (ihagain156 _ h7)))) (fun _ => pj_a (fun _ => pj_s (j_sI hj) (fun _ h8 => (ihagain156 _ h8))))))))) (fun _ => pt_if (fun _ => pt_if (fun _ => pj_a (fun _ => pj_s (j_sI hj) (fun _ h9 => (ihagain156 _ h9)))) (fun _ => pj_a (fun _ => pt_if (fun _ => pj_a (fun _ => pj_s (j_sI hj) (fun _ h10 => (ihagain156 _ h10)))) (fun _ => pj_a (fun _ => pt_if (fun _ => pj_a (fun _ => pj_s (j_sI hj) (fun _ h11 => (ihagain156 _ h11)))) (fun _ => pj_a (fun _ => pj_s (j_sI hj) (fun _ h12 => (ihagain156 _ h12))))))))) (fun _ => pt_if (fun _ => pt_if (fun _ => pj_a (fun _ => pj_s (j_sI hj) (fun _ h13 => (ihagain156 _ h13)))) (fun _ => pj_a (fun _ => pt_zb (jf_X12_isOver hj) (fun _ _ h14 => pt_if (fun _ => pj_a (fun _ => pj_s (j_sI h14) (fun _ h15 => (ihagain156 _ h15)))) (fun _ => pj_a (fun _ => pj_s (j_sI h14) (fun _ h16 => (ihagain156 _ h16)))))))) (fun _ => pt_if (fun _ => pj_a (fun _ => pj_s (j_sI hj) (fun _ h17 => (ihagain156 _ h17)))) (fun _ => pj_a (fun _ => pt_if (fun _ => pj_a (fun _ => pj_s (j_sI hj) (fun _ h18 => (ihagain156 _ h18)))) (fun _ => pj_a (fun _ => pt_zb (jf_X12_isTouching hj) (fun _ _ h19 => pt_if (fun _ => pj_a (fun _ => pj_s (j_sI h19) (fun _ h20 => (ihagain156 _ h20)))) (fun _ => pj_a (fun _ => pj_s (j_sI h19) (fun _ h21 => (ihagain156 _ h21)))))))))))))
theorem jF_X12_gives_156 {x0 : Nat} {x1 : Int32} {x2 : Nat} {x3 : Int32} {x4 : Nat} {x5 : Int32} {again156 : (Int32 × zS) → Option (Unit × zS)} (ihagain156 : ∀ s : Int32 × zS, s.2.2.1 = L → Pt (again156 s) (fun r => r.2.2.1 = L)) {s : Int32 × zS} (hj : s.2.2.1 = L) : Pt (F_X12_gives_156 N x0 x1 x2 x3 x4 x5 again156 s) (fun r => r.2.2.1 = L) := by
  obtain ⟨x6, σ⟩ := s
  rw [F_X12_gives_156.eq_1]
  exact pt_if (fun _ => pt_some hj) (fun _ => pj_a (fun _ => pt_if (fun _ => (jJ_X12_gives_178 ihagain156 hj)) (fun _ => (jJ_X12_gives_178 ihagain156 hj))))
theorem jf_X12_gives {x0 : Nat} {x1 : Int32} {x2 : Nat} {x3 : Int32} {x4 : Nat} {x5 : Int32} {σ : zS}  (hj : σ.2.1 = L) : Pt (f_X12_gives N x0 x1 x2 x3 x4 x5 σ) (fun r => r.2.2.1 = L) := by
  rw [f_X12_gives.eq_1]
  exact pt_if (fun _ => pj_a (fun _ => pj_a (fun _ => pt_zb (jf_X12_joins hj) (fun _ _ h1 => pt_some h1)))) (fun _ => pt_if (fun _ => pt_lp (fun s => s.2.2.1 = L) (fun again s hI ih => jF_X12_gives_28 ih hI) N _ hj) (fun _ => pt_lp (fun s => s.2.2.1 = L) (fun again s hI ih => jF_X12_gives_156 ih hI) N _ hj))
theorem jF_X12_isNested_3 {x0 : Nat} {x1 : Nat} {x2 : Int32} {x3 : Int32} {x4 : Int32} {again3 : (Int32 × zS) → Option (Int32 × zS)} (ihagain3 : ∀ s : Int32 × zS, s.2.2.1 = L → Pt (again3 s) (fun r => r.2.2.1 = L)) {s : Int32 × zS} (hj : s.2.2.1 = L) : Pt (F_X12_isNested_3 N x0 x1 x2 x3 x4 again3 s) (fun r => r.2.2.1 = L) := by
  obtain ⟨x5, σ⟩ := s
  rw [F_X12_isNested_3.eq_1]
  exact pj_a (fun _ => pt_if (fun _ => pt_rZ hj) (fun _ => pt_if (fun _ => (ihagain3 _ hj)) (fun _ => pj_a (fun _ => pt_if (fun _ => (ihagain3 _ hj)) (fun _ => pt_if (fun _ => pt_if (fun _ => pt_rZ hj) (fun _ => (ihagain3 _ hj))) (fun _ => pt_if (fun _ => pt_rZ hj) (fun _ => (ihagain3 _ hj))))))))
theorem jf_X12_isNested {x0 : Nat} {x1 : Nat} {x2 : Int32} {x3 : Int32} {x4 : Int32} {σ : zS}  (hj : σ.2.1 = L) : Pt (f_X12_isNested N x0 x1 x2 x3 x4 σ) (fun r => r.2.2.1 = L) := by
  rw [f_X12_isNested.eq_1]
  exact pt_lp (fun s => s.2.2.1 = L) (fun again s hI ih => jF_X12_isNested_3 ih hI) N _ hj
theorem jF_X12_turns__2 {x0 : Nat} {x1 : Nat} {again2 : (Int32 × zS) → Option (Unit × zS)} (ihagain2 : ∀ s : Int32 × zS, s.2.2.1 = L → Pt (again2 s) (fun r => r.2.2.1 = L)) {s : Int32 × zS} (hj : s.2.2.1 = L) : Pt (F_X12_turns__2 N x0 x1 again2 s) (fun r => r.2.2.1 = L) := by
  obtain ⟨x2, σ⟩ := s
  rw [F_X12_turns__2.eq_1]
  exact pt_if (fun _ => pt_some hj) (fun _ => pj_a (fun _ => pj_a (fun _ => pt_if (fun _ => pj_s (j_sI hj) (fun _ h1 => (ihagain2 _ h1))) (fun _ => pj_a (fun _ => pt_if (fun _ => pj_s (j_sI hj) (fun _ h2 => (ihagain2 _ h2))) (fun _ => pj_a (fun _ => pt_zb (jf_X12_isNested hj) (fun _ _ h3 => pt_if (fun _ => pj_s (j_sI h3) (fun _ h4 => (ihagain2 _ h4))) (fun _ => pj_s (j_sI h3) (fun _ h5 => (ihagain2 _ h5)))))))))))
theorem jf_X12_turns_ {x0 : Nat} {x1 : Nat} {σ : zS}  (hj : σ.2.1 = L) : Pt (f_X12_turns_ N x0 x1 σ) (fun r => r.2.2.1 = L) := by
  rw [f_X12_turns_.eq_1]
  exact pt_lp (fun s => s.2.2.1 = L) (fun again s hI ih => jF_X12_turns__2 ih hI) N _ hj
theorem jF_X12_turns_8 {x0 : Nat} {x2 : Nat} {x3 : Int32} {again8 : (Int32 × zS) → Option (Unit × zS)} (ihagain8 : ∀ s : Int32 × zS, s.2.2.1 = L → Pt (again8 s) (fun r => r.2.2.1 = L)) {s : Int32 × zS} (hj : s.2.2.1 = L) : Pt (F_X12_turns_8 N x0 x2 x3 again8 s) (fun r => r.2.2.1 = L) := by
  obtain ⟨x4, σ⟩ := s
  rw [F_X12_turns_8.eq_1]
  exact pt_if (fun _ => pj_a (fun _ => pj_a (fun _ => pt_zb (jf_X12_turns_ hj) (fun _ _ h1 => pt_some h1)))) (fun _ => pj_a (fun _ => pj_a (fun _ => pt_if (fun _ => pj_s (j_sI hj) (fun _ h2 => (ihagain8 _ h2))) (fun _ => pj_a (fun _ => pt_zb (jf_X12_isTouching hj) (fun _ _ h3 => pt_if (fun _ => pj_s (j_sI h3) (fun _ h4 => (ihagain8 _ h4))) (fun _ => pj_s (j_sI h3) (fun _ h5 => (ihagain8 _ h5)))))))))
theorem jJ_X12_turns_127 {again66 : (Int32 × zS) → Option (Unit × zS)} {x0 : Nat} {x1 : Int32} {x2 : Nat} {x3 : Int32} {x4 : Int32} {y0 : Int32} {y1 : Int32} {y2 : Int32} {y3 : Nat} {y4 : Nat} {σ : zS} (ihagain66 : ∀ s : Int32 × zS, s.2.2.1 = L → Pt (again66 s) (fun r => r.2.2.1 = L)) (hj : σ.2.1 = L) : Pt (J_X12_turns_127 N again66 x0 x1 x2 x3 x4 y0 y1 y2 y3 y4 σ) (fun r => r.2.2.1 = L) := by
  rw [J_X12_turns_127.eq_1]
  exact pj_a (fun _ => pt_zb (jf_X12_isNested hj) (fun _ _ h1 => pt_if (fun _ => pj_a (fun _ => pj_s (j_sI h1) (fun _ h2 => (ihagain66 _ h2)))) (fun _ => pj_a (fun _ => pj_s (j_sI h1) (fun _ h3 => (ihagain66 _ h3))))))
theorem jJ_X12_turns_99 {again66 : (Int32 × zS) → Option (Unit × zS)} {x0 : Nat} {x1 : Int32} {x2 : Nat} {x3 : Int32} {x4 : Int32} {x5 : Int32} {σ : zS} (ihagain66 : ∀ s : Int32 × zS, s.2.2.1 = L → Pt (again66 s) (fun r => r.2.2.1 = L)) (hj : σ.2.1 = L) : Pt (J_X12_turns_99 N again66 x0 x1 x2 x3 x4 x5 σ) (fun r => r.2.2.1 = L) := by
  rw [J_X12_turns_99.eq_1]
  exact pt_if (fun _ => pj_a (fun _ => pj_s (j_sI hj) (fun _ h1 => (ihagain66 _ h1)))) (fun _ => pj_a (fun _ => pt_if (fun _ => pj_a (fun _ => pj_s (j_sI hj) (fun _ h2 => (ihagain66 _ h2)))) (fun _ => pt_if (fun _ => (jJ_X12_turns_127 ihagain66 hj)) (fun _ => (jJ_X12_turns_127 ihagain66 hj)))))
theorem jJ_X12_turns_211 {again66 : (Int32 × zS) → Option (Unit × zS)} {x0 : Nat} {x1 : Int32} {x2 : Nat} {x3 : Int32} {x4 : Int32} {y0 : Int32} {y1 : Int32} {y2 : Int32} {y3 : Nat} {y4 : Nat} {σ : zS} (ihagain66 : ∀ s : Int32 × zS, s.2.2.1 = L → Pt (again66 s) (fun r => r.2.2.1 = L)) (hj : σ.2.1 = L) : Pt (J_X12_turns_211 N again66 x0 x1 x2 x3 x4 y0 y1 y2 y3 y4 σ) (fun r => r.2.2.1 = L) := by
  rw [J_X12_turns_211.eq_1]
  exact pj_a (fun _ => pt_zb (jf_X12_isNested hj) (fun _ _ h1 => pt_if (fun _ => pj_a (fun _ => pj_s (j_sI h1) (fun _ h2 => (ihagain66 _ h2)))) (fun _ => pj_a (fun _ => pj_s (j_sI h1) (fun _ h3 => (ihagain66 _ h3))))))
theorem jJ_X12_turns_182 {again66 : (Int32 × zS) → Option (Unit × zS)} {x0 : Nat} {x1 : Int32} {x2 : Nat} {x3 : Int32} {x4 : Int32} {x5 : Int32} {σ : zS} (ihagain66 : ∀ s : Int32 × zS, s.2.2.1 = L → Pt (again66 s) (fun r => r.2.2.1 = L)) (hj : σ.2.1 = L) : Pt (J_X12_turns_182 N again66 x0 x1 x2 x3 x4 x5 σ) (fun r => r.2.2.1 = L) := by
  rw [J_X12_turns_182.eq_1]
  exact pt_if (fun _ => pj_a (fun _ => pj_s (j_sI hj) (fun _ h1 => (ihagain66 _ h1)))) (fun _ => pj_a (fun _ => pt_if (fun _ => pt_if (fun _ => (jJ_X12_turns_211 ihagain66 hj)) (fun _ => (jJ_X12_turns_211 ihagain66 hj))) (fun _ => pj_a (fun _ => pj_s (j_sI hj) (fun _ h2 => (ihagain66 _ h2))))))
theorem jJ_X12_turns_88 {again66 : (Int32 × zS) → Option (Unit × zS)} {x0 : Nat} {x1 : Int32} {x2 : Nat} {x3 : Int32} {x4 : Int32} {y0 : Int32} {σ : zS} (ihagain66 : ∀ s : Int32 × zS, s.2.2.1 = L → Pt (again66 s) (fun r => r.2.2.1 = L)) (hj : σ.2.1 = L) : Pt (J_X12_turns_88 N again66 x0 x1 x2 x3 x4 y0 σ) (fun r => r.2.2.1 = L) := by
  rw [J_X12_turns_88.eq_1]
  exact pt_if (fun _ => (jJ_X12_turns_99 ihagain66 hj)) (fun _ => pt_if (fun _ => (jJ_X12_turns_99 ihagain66 hj)) (fun _ => pt_if (fun _ => pt_if (fun _ => pj_a (fun _ => pj_s (j_sI hj) (fun _ h1 => (ihagain66 _ h1)))) (fun _ => pj_a (fun _ => pt_if (fun _ => pj_a (fun _ => pj_s (j_sI hj) (fun _ h2 => (ihagain66 _ h2)))) (fun _ => pj_a (fun _ => pj_s (j_sI hj) (fun _ h3 => (ihagain66 _ h3))))))) (fun _ => pt_if (fun _ => (jJ_X12_turns_182 ihagain66 hj)) (fun _ => pt_if (fun _ => (jJ_X12_turns_182 ihagain66 hj)) (fun _ => pt_if (fun _ => pj_a (fun _ => pj_s (j_sI hj) (fun _ h4 => (ihagain66 _ h4)))) (fun _ => pj_a (fun _ => pt_if (fun _ => pj_a (fun _ => pj_s (j_sI hj) (fun _ h5 => (ihagain66 _ h5)))) (fun _ => pj_a (fun _ => pj_s (j_sI hj) (fun _ h6 => (ihagain66 _ h6)))))))))))
theorem jF_X12_turns_66 {x0 : Nat} {x1 : Int32} {x2 : Nat} {x3 : Int32} {again66 : (Int32 × zS) → Option (Unit × zS)} (ihagain66 : ∀ s : Int32 × zS, s.2.2.1 = L → Pt (again66 s) (fun r => r.2.2.1 = L)) {s : Int32 × zS} (hj : s.2.2.1 = L) : Pt (F_X12_turns_66 N x0 x1 x2 x3 again66 s) (fun r => r.2.2.1 = L) := by
  obtain ⟨x4, σ⟩ := s
  rw [F_X12_turns_66.eq_1]
  exact pt_if (fun _ => pt_some hj) (fun _ => pj_a (fun _ => pt_if (fun _ => (jJ_X12_turns_88 ihagain66 hj)) (fun _ => (jJ_X12_turns_88 ihagain66 hj))))
theorem jf_X12_turns {x0 : Nat} {x1 : Int32} {x2 : Nat} {x3 : Int32} {σ : zS}  (hj : σ.2.1 = L) : Pt (f_X12_turns N x0 x1 x2 x3 σ) (fun r => r.2.2.1 = L) := by
  rw [f_X12_turns.eq_1]
  exact pt_if (fun _ => pt_lp (fun s => s.2.2.1 = L) (fun again s hI ih => jF_X12_turns_8 ih hI) N _ hj) (fun _ => pt_lp (fun s => s.2.2.1 = L) (fun again s hI ih => jF_X12_turns_66 ih hI) N _ hj)
theorem jf_X12_rank {x0 : Int32} {σ : zS}  (hj : σ.2.1 = L) : Pt (f_X12_rank N x0 σ) (fun r => r.2.2.1 = L) := by
  rw [f_X12_rank.eq_1]
  exact pt_if (fun _ => pt_some hj) (fun _ => pt_if (fun _ => pt_if (fun _ => pt_some hj) (fun _ => pt_if (fun _ => pt_some hj) (fun _ => pt_some hj))) (fun _ => pt_some hj))
theorem jF_X12_copiesMade_2 {x0 : Nat} {x1 : Int32} {again2 : (Int32 × zS) → Option (Unit × zS)} (ihagain2 : ∀ s : Int32 × zS, s.2.2.1 = L → Pt (again2 s) (fun r => r.2.2.1 = L)) {s : Int32 × zS} (hj : s.2.2.1 = L) : Pt (F_X12_copiesMade_2 N x0 x1 again2 s) (fun r => r.2.2.1 = L) := by
  obtain ⟨x2, σ⟩ := s
  rw [F_X12_copiesMade_2.eq_1]
  exact pt_if (fun _ => pt_some hj) (fun _ => pj_a (fun _ => pj_a (fun _ => pj_a (fun _ => pj_s (j_sI hj) (fun _ h1 => (ihagain2 _ h1))))))
theorem jf_X12_copiesMade {x0 : Nat} {x1 : Int32} {σ : zS}  (hj : σ.2.1 = L) : Pt (f_X12_copiesMade N x0 x1 σ) (fun r => r.2.2.1 = L) := by
  rw [f_X12_copiesMade.eq_1]
  exact pt_lp (fun s => s.2.2.1 = L) (fun again s hI ih => jF_X12_copiesMade_2 ih hI) N _ hj
theorem jf_X12_settles {x0 : Nat} {σ : zS}  (hj : σ.2.1 = L) : Pt (f_X12_settles N x0 σ) (fun r => r.2.2.1 = L) := by
  rw [f_X12_settles.eq_1]
  exact pj_a (fun _ => pj_s (j_pI hj) (fun _ h1 => pj_a (fun _ => pj_a (fun _ => pj_a (fun _ => pt_if (fun _ => pj_a (fun _ => pj_a (fun _ => pj_a (fun _ => pj_a (fun _ => pj_a (fun _ => pt_zb (jf_X12_gives h1) (fun _ _ h2 => pj_a (fun _ => pj_s (j_pI h2) (fun _ h3 => pj_a (fun _ => pj_a (fun _ => pt_zb (jf_X12_copiesMade h3) (fun _ _ h4 => pt_some h4)))))))))))) (fun _ => pj_a (fun _ => pj_a (fun _ => pj_a (fun _ => pt_zb (jf_X12_turns h1) (fun _ _ h5 => pj_a (fun _ => pj_a (fun _ => pt_zb (jf_X12_copiesMade h5) (fun _ _ h6 => pj_a (fun _ => pj_s (j_pI h6) (fun _ h7 => pt_some h7)))))))))))))))
theorem jF_X12_settlesTo_0 {x0 : Nat} {x1 : Int32} {again0 : zS → Option (Unit × zS)} (ihagain0 : ∀ s : zS, s.2.1 = L → Pt (again0 s) (fun r => r.2.2.1 = L)) {s : zS} (hj : s.2.1 = L) : Pt (F_X12_settlesTo_0 N x0 x1 again0 s) (fun r => r.2.2.1 = L) := by
  rw [F_X12_settlesTo_0.eq_1]
  exact pj_a (fun _ => pt_if (fun _ => pt_some hj) (fun _ => pj_a (fun _ => pj_a (fun _ => pj_a (fun _ => pt_zb (jf_X12_rank hj) (fun _ _ h1 => pt_if (fun _ => pt_some h1) (fun _ => pj_a (fun _ => pt_zb (jf_X12_settles h1) (fun _ _ h2 => (ihagain0 _ h2))))))))))
theorem jf_X12_settlesTo {x0 : Nat} {x1 : Int32} {σ : zS}  (hj : σ.2.1 = L) : Pt (f_X12_settlesTo N x0 x1 σ) (fun r => r.2.2.1 = L) := by
  rw [f_X12_settlesTo.eq_1]
  exact pt_lp (fun s => s.2.1 = L) (fun again s hI ih => jF_X12_settlesTo_0 ih hI) N _ hj
theorem jJ_X12_opens_14 {x0 : Nat} {x1 : Int32} {σ : zS}  (hj : σ.2.1 = L) : Pt (J_X12_opens_14 N x0 x1 σ) (fun r => r.2.2.1 = L) := by
  rw [J_X12_opens_14.eq_1]
  exact pj_a (fun _ => pt_zb (jf_X12_good hj) (fun _ _ h1 => pt_if (fun _ => pt_some h1) (fun _ => pj_a (fun _ => pt_zb (jf_X12_advance h1) (fun _ _ h2 => pj_a (fun _ => pj_s (j_pI h2) (fun _ h3 => pj_a (fun _ => pj_a (fun _ => pj_s (j_sI h3) (fun _ h4 => pj_a (fun _ => pj_s (j_pI h4) (fun _ h5 => pt_some h5))))))))))))
theorem jf_X12_opens {x0 : Nat} {x1 : Int32} {σ : zS}  (hj : σ.2.1 = L) : Pt (f_X12_opens N x0 x1 σ) (fun r => r.2.2.1 = L) := by
  rw [f_X12_opens.eq_1]
  exact pj_a (fun _ => pt_if (fun _ => pj_a (fun _ => pt_zb (jf_X12_errs hj) (fun _ _ h1 => (jJ_X12_opens_14 h1)))) (fun _ => (jJ_X12_opens_14 hj)))
theorem jf_X12_prefixOf {x0 : Nat} {σ : zS}  (hj : σ.2.1 = L) : Pt (f_X12_prefixOf N x0 σ) (fun r => r.2.2.1 = L) := by
  rw [f_X12_prefixOf.eq_1]
  exact pj_a (fun _ => pt_zb (jf_X12_is hj) (fun _ _ h1 => pt_if (fun _ => pj_a (fun _ => pt_zb (jf_X12_is h1) (fun _ _ h2 => pt_if (fun _ => pj_a (fun _ => pt_zb (jf_X12_is h2) (fun _ _ h3 => pt_if (fun _ => pj_a (fun _ => pt_zb (jf_X12_is h3) (fun _ _ h4 => pt_if (fun _ => pj_a (fun _ => pt_zb (jf_X12_is h4) (fun _ _ h5 => pt_if (fun _ => pj_a (fun _ => pt_zb (jf_X12_is h5) (fun _ _ h6 => pt_if (fun _ => pt_some h6) (fun _ => pt_some h6)))) (fun _ => pt_some h5)))) (fun _ => pt_some h4)))) (fun _ => pt_some h3)))) (fun _ => pt_some h2)))) (fun _ => pt_some h1)))
theorem jf_X12_signOf {x0 : Int32} {σ : zS}  (hj : σ.2.1 = L) : Pt (f_X12_signOf N x0 σ) (fun r => r.2.2.1 = L) := by
  rw [f_X12_signOf.eq_1]
  exact pt_if (fun _ => pt_some hj) (fun _ => pt_if (fun _ => pt_some hj) (fun _ => pt_if (fun _ => pt_some hj) (fun _ => pt_if (fun _ => pt_some hj) (fun _ => pt_if (fun _ => pt_some hj) (fun _ => pt_if (fun _ => pt_some hj) (fun _ => pt_if (fun _ => pt_some hj) (fun _ => pt_some hj)))))))
theorem jF_X12_wordSet_7 {x0 : Nat} {x1 : Int32} {again7 : (Int32 × Int32 × zS) → Option (Int32 × zS)} (ihagain7 : ∀ s : Int32 × Int32 × zS, s.2.2.2.1 = L → Pt (again7 s) (fun r => r.2.2.1 = L)) {s : Int32 × Int32 × zS} (hj : s.2.2.2.1 = L) : Pt (F_X12_wordSet_7 N x0 x1 again7 s) (fun r => r.2.2.1 = L) := by
  obtain ⟨x2, x3, σ⟩ := s
  rw [F_X12_wordSet_7.eq_1]
  exact pj_a (fun _ => pt_if (fun _ => pt_some hj) (fun _ => pj_a (fun _ => pj_a (fun _ => pt_if (fun _ => pj_a (fun _ => pt_zb (jf_X12_errs hj) (fun _ _ h1 => pt_some h1))) (fun _ => pt_if (fun _ => pj_a (fun _ => pt_zb (jf_X12_errs hj) (fun _ _ h2 => pt_some h2))) (fun _ => (ihagain7 _ hj)))))))
theorem jf_X12_wordSet {x0 : Nat} {x1 : Int32} {σ : zS}  (hj : σ.2.1 = L) : Pt (f_X12_wordSet N x0 x1 σ) (fun r => r.2.2.1 = L) := by
  rw [f_X12_wordSet.eq_1]
  exact pj_a (fun _ => pt_lp (fun s => s.2.2.2.1 = L) (fun again s hI ih => jF_X12_wordSet_7 ih hI) N _ hj)
theorem jJ_X12_readsSet_53 {x0 : Nat} {x2 : Int32} {σ : zS}  (hj : σ.2.1 = L) : Pt (J_X12_readsSet_53 N x0 x2 σ) (fun r => r.2.2.1 = L) := by
  rw [J_X12_readsSet_53.eq_1]
  exact pj_a (fun _ => pt_zb (jf_X12_good hj) (fun _ _ h1 => pt_if (fun _ => pt_some h1) (fun _ => pj_a (fun _ => pj_a (fun _ => pj_s (j_sI h1) (fun _ h2 => pt_some h2))))))
theorem jf_X12_readsSet {x0 : Nat} {x1 : Int32} {σ : zS}  (hj : σ.2.1 = L) : Pt (f_X12_readsSet N x0 x1 σ) (fun r => r.2.2.1 = L) := by
  rw [f_X12_readsSet.eq_1]
  exact pj_a (fun _ => pt_if (fun _ => pj_a (fun _ => pt_zb (jf_X12_number hj) (fun _ _ h1 => (jJ_X12_readsSet_53 h1)))) (fun _ => pj_a (fun _ => pt_if (fun _ => pj_a (fun _ => pt_zb (jf_X12_wordSet hj) (fun _ _ h2 => pj_a (fun _ => pt_zb (jf_X12_good h2) (fun _ _ h3 => pt_if (fun _ => (jJ_X12_readsSet_53 h3)) (fun _ => pj_a (fun _ => pt_zb (jf_X12_advance h3) (fun _ _ h4 => (jJ_X12_readsSet_53 h4))))))))) (fun _ => pj_a (fun _ => pt_zb (jf_X12_errs hj) (fun _ _ h5 => (jJ_X12_readsSet_53 h5)))))))
theorem jF_X12_pushesEmpty_2 {x0 : Nat} {again2 : (Int32 × zS) → Option (Unit × zS)} (ihagain2 : ∀ s : Int32 × zS, s.2.2.1 = L → Pt (again2 s) (fun r => r.2.2.1 = L)) {s : Int32 × zS} (hj : s.2.2.1 = L) : Pt (F_X12_pushesEmpty_2 N x0 again2 s) (fun r => r.2.2.1 = L) := by
  obtain ⟨x1, σ⟩ := s
  rw [F_X12_pushesEmpty_2.eq_1]
  exact pt_if (fun _ => pj_a (fun _ => pj_s (j_pI hj) (fun _ h1 => pt_some h1))) (fun _ => pj_a (fun _ => pj_a (fun _ => pj_s (j_sI hj) (fun _ h2 => (ihagain2 _ h2)))))
theorem jf_X12_pushesEmpty {x0 : Nat} {σ : zS}  (hj : σ.2.1 = L) : Pt (f_X12_pushesEmpty N x0 σ) (fun r => r.2.2.1 = L) := by
  rw [f_X12_pushesEmpty.eq_1]
  exact pt_lp (fun s => s.2.2.1 = L) (fun again s hI ih => jF_X12_pushesEmpty_2 ih hI) N _ hj
theorem jF_X12_readsSets_22 {x0 : Nat} {x1 : Int32} {again22 : zS → Option (Unit × zS)} (ihagain22 : ∀ s : zS, s.2.1 = L → Pt (again22 s) (fun r => r.2.2.1 = L)) {s : zS} (hj : s.2.1 = L) : Pt (F_X12_readsSets_22 N x0 x1 again22 s) (fun r => r.2.2.1 = L) := by
  rw [F_X12_readsSets_22.eq_1]
  exact pj_a (fun _ => pt_zb (jf_X12_good hj) (fun _ _ h1 => pt_if (fun _ => pj_a (fun _ => pt_zb (jf_X12_needsSign h1) (fun _ _ h2 => pt_some h2))) (fun _ => pj_a (fun _ => pt_if (fun _ => pj_a (fun _ => pt_zb (jf_X12_advance h1) (fun _ _ h3 => pj_a (fun _ => pt_zb (jf_X12_readsSet h3) (fun _ _ h4 => (ihagain22 _ h4)))))) (fun _ => pj_a (fun _ => pt_zb (jf_X12_needsSign h1) (fun _ _ h5 => pt_some h5)))))))
theorem jf_X12_readsSets {x0 : Nat} {x1 : Int32} {σ : zS}  (hj : σ.2.1 = L) : Pt (f_X12_readsSets N x0 x1 σ) (fun r => r.2.2.1 = L) := by
  rw [f_X12_readsSets.eq_1]
  exact pj_a (fun _ => pt_zb (jf_X12_advance hj) (fun _ _ h1 => pj_a (fun _ => pt_zb (jf_X12_pushesEmpty h1) (fun _ _ h2 => pj_a (fun _ => pt_if (fun _ => pj_a (fun _ => pt_zb (jf_X12_needsSign h2) (fun _ _ h3 => pt_some h3))) (fun _ => pj_a (fun _ => pt_zb (jf_X12_readsSet h2) (fun _ _ h4 => pt_lp (fun s => s.2.1 = L) (fun again s hI ih => jF_X12_readsSets_22 ih hI) N _ h4))))))))
theorem jJ_X12_readsPart_19 {x0 : Nat} {x3 : Int32} {σ : zS}  (hj : σ.2.1 = L) : Pt (J_X12_readsPart_19 N x0 x3 σ) (fun r => r.2.2.1 = L) := by
  rw [J_X12_readsPart_19.eq_1]
  exact pt_if (fun _ => pj_a (fun _ => pt_zb (jf_X12_opens hj) (fun _ _ h1 => pt_rZ h1))) (fun _ => pj_a (fun _ => pt_zb (jf_X12_opens hj) (fun _ _ h2 => pt_rZ h2)))
theorem jJ_X12_readsPart_192 {x0 : Nat} {σ : zS}  (hj : σ.2.1 = L) : Pt (J_X12_readsPart_192 N x0 σ) (fun r => r.2.2.1 = L) := by
  rw [J_X12_readsPart_192.eq_1]
  exact pj_a (fun _ => pt_zb (jf_X12_good hj) (fun _ _ h1 => pt_if (fun _ => pt_rZ h1) (fun _ => pj_a (fun _ => pt_zb (jf_X12_settlesTo h1) (fun _ _ h2 => pt_rZ h2)))))
theorem jF_X12_readsPart_63 {x0 : Nat} {x2 : Nat} {x4 : Int32} {again63 : (Int32 × zS) → Option (Int32 × zS)} (ihagain63 : ∀ s : Int32 × zS, s.2.2.1 = L → Pt (again63 s) (fun r => r.2.2.1 = L)) {s : Int32 × zS} (hj : s.2.2.1 = L) : Pt (F_X12_readsPart_63 N x0 x2 x4 again63 s) (fun r => r.2.2.1 = L) := by
  obtain ⟨x5, σ⟩ := s
  rw [F_X12_readsPart_63.eq_1]
  exact pt_if (fun _ => (jJ_X12_readsPart_192 hj)) (fun _ => pj_a (fun _ => pt_zb (jf_X12_good hj) (fun _ _ h1 => pt_if (fun _ => (jJ_X12_readsPart_192 h1)) (fun _ => pj_a (fun _ => pj_a (fun _ => pj_a (fun _ => pj_s (j_sI h1) (fun _ h2 => (ihagain63 _ h2)))))))))
theorem jF_X12_readsPart_150 {x0 : Nat} {again150 : (Int32 × zS) → Option (Int32 × zS)} (ihagain150 : ∀ s : Int32 × zS, s.2.2.1 = L → Pt (again150 s) (fun r => r.2.2.1 = L)) {s : Int32 × zS} (hj : s.2.2.1 = L) : Pt (F_X12_readsPart_150 N x0 again150 s) (fun r => r.2.2.1 = L) := by
  obtain ⟨x4, σ⟩ := s
  rw [F_X12_readsPart_150.eq_1]
  exact pj_a (fun _ => pt_if (fun _ => (jJ_X12_readsPart_192 hj)) (fun _ => pj_a (fun _ => pj_a (fun _ => pj_s (j_sI hj) (fun _ h1 => (ihagain150 _ h1))))))
theorem jf_X12_readsPart {x0 : Nat} {x1 : Int32} {x2 : Nat} {σ : zS}  (hj : σ.2.1 = L) : Pt (f_X12_readsPart N x0 x1 x2 σ) (fun r => r.2.2.1 = L) := by
  rw [f_X12_readsPart.eq_1]
  exact pj_a (fun _ => pt_zb (jf_X12_prefixOf hj) (fun _ _ h1 => pt_if (fun _ => pj_a (fun _ => pt_if (fun _ => (jJ_X12_readsPart_19 h1)) (fun _ => pj_a (fun _ => pt_if (fun _ => pj_a (fun _ => pt_zb (jf_X12_number h1) (fun _ _ h2 => pj_a (fun _ => pt_zb (jf_X12_pushesEmpty h2) (fun _ _ h3 => pt_lp (fun s => s.2.2.1 = L) (fun again s hI ih => jF_X12_readsPart_63 ih hI) N _ h3))))) (fun _ => pj_a (fun _ => pt_if (fun _ => pj_a (fun _ => pt_zb (jf_X12_readsSets h1) (fun _ _ h4 => (jJ_X12_readsPart_192 h4)))) (fun _ => pj_a (fun _ => pt_zb (jf_X12_takes h1) (fun _ _ h5 => pt_if (fun _ => pj_a (fun _ => pt_zb (jf_X12_errs h5) (fun _ _ h6 => (jJ_X12_readsPart_192 h6)))) (fun _ => pj_a (fun _ => pt_zb (jf_X12_pushesEmpty h5) (fun _ _ h7 => pt_lp (fun s => s.2.2.1 = L) (fun again s hI ih => jF_X12_readsPart_150 ih hI) N _ h7)))))))))))) (fun _ => (jJ_X12_readsPart_19 h1))))
theorem jF_X12_isOpen_2 {x0 : Nat} {again2 : (Int32 × zS) → Option (Int32 × zS)} (ihagain2 : ∀ s : Int32 × zS, s.2.2.1 = L → Pt (again2 s) (fun r => r.2.2.1 = L)) {s : Int32 × zS} (hj : s.2.2.1 = L) : Pt (F_X12_isOpen_2 N x0 again2 s) (fun r => r.2.2.1 = L) := by
  obtain ⟨x1, σ⟩ := s
  rw [F_X12_isOpen_2.eq_1]
  exact pj_a (fun _ => pt_if (fun _ => pt_rZ hj) (fun _ => pj_a (fun _ => pj_a (fun _ => pt_if (fun _ => pt_rZ hj) (fun _ => (ihagain2 _ hj))))))
theorem jf_X12_isOpen {x0 : Nat} {σ : zS}  (hj : σ.2.1 = L) : Pt (f_X12_isOpen N x0 σ) (fun r => r.2.2.1 = L) := by
  rw [f_X12_isOpen.eq_1]
  exact pt_lp (fun s => s.2.2.1 = L) (fun again s hI ih => jF_X12_isOpen_2 ih hI) N _ hj
theorem jJ_X12_goesBehind_27 {x0 : Nat} {x1 : Int32} {σ : zS}  (hj : σ.2.1 = L) : Pt (J_X12_goesBehind_27 N x0 x1 σ) (fun r => r.2.2.1 = L) := by
  rw [J_X12_goesBehind_27.eq_1]
  exact pj_a (fun _ => pt_zb (jf_X12_good hj) (fun _ _ h1 => pt_if (fun _ => pt_some h1) (fun _ => pj_a (fun _ => pj_s (j_pI h1) (fun _ h2 => pt_zb (jf_X12_rank h2) (fun _ _ h3 => pj_a (fun _ => pt_zb (jf_X12_settlesTo h3) (fun _ _ h4 => pj_a (fun _ => pj_a (fun _ => pj_s (j_sI h4) (fun _ h5 => pj_a (fun _ => pj_s (j_pI h5) (fun _ h6 => pj_a (fun _ => pt_zb (jf_X12_advance h6) (fun _ _ h7 => pt_some h7)))))))))))))))
theorem jf_X12_goesBehind {x0 : Nat} {σ : zS}  (hj : σ.2.1 = L) : Pt (f_X12_goesBehind N x0 σ) (fun r => r.2.2.1 = L) := by
  rw [f_X12_goesBehind.eq_1]
  exact pj_a (fun _ => pt_zb (jf_X12_signOf hj) (fun _ _ h1 => pt_if (fun _ => pj_a (fun _ => pt_if (fun _ => pj_a (fun _ => pt_zb (jf_X12_isOpen h1) (fun _ _ h2 => pt_if (fun _ => pt_some h2) (fun _ => pj_a (fun _ => pt_zb (jf_X12_settlesTo h2) (fun _ _ h3 => pj_a (fun _ => pj_s (j_pI h3) (fun _ h4 => pj_a (fun _ => pj_s (j_pI h4) (fun _ h5 => pj_a (fun _ => pt_zb (jf_X12_advance h5) (fun _ _ h6 => pj_a (fun _ => pt_zb (jf_X12_settlesTo h6) (fun _ _ h7 => pt_some h7)))))))))))))) (fun _ => pt_some h1))) (fun _ => pj_a (fun _ => pt_if (fun _ => pj_a (fun _ => pt_zb (jf_X12_errs h1) (fun _ _ h8 => (jJ_X12_goesBehind_27 h8)))) (fun _ => (jJ_X12_goesBehind_27 h1))))))
theorem jJ_X12_readsSum_98 {x0 : Nat} {σ : zS}  (hj : σ.2.1 = L) : Pt (J_X12_readsSum_98 N x0 σ) (fun r => r.2.2.1 = L) := by
  rw [J_X12_readsSum_98.eq_1]
  exact pj_a (fun _ => pt_zb (jf_X12_good hj) (fun _ _ h1 => pt_if (fun _ => pt_some h1) (fun _ => pj_a (fun _ => pt_zb (jf_X12_settlesTo h1) (fun _ _ h2 => pt_some h2)))))
theorem jJ_X12_readsSum_86 {x0 : Nat} {σ : zS}  (hj : σ.2.1 = L) : Pt (J_X12_readsSum_86 N x0 σ) (fun r => r.2.2.1 = L) := by
  rw [J_X12_readsSum_86.eq_1]
  exact pj_a (fun _ => pt_zb (jf_X12_isOpen hj) (fun _ _ h1 => pt_if (fun _ => (jJ_X12_readsSum_98 h1)) (fun _ => pj_a (fun _ => pt_zb (jf_X12_errs h1) (fun _ _ h2 => (jJ_X12_readsSum_98 h2))))))
theorem jJ_X12_readsSum_69 {again27 : (Int32 × Int32 × zS) → Option (Unit × zS)} {x0 : Nat} {x1 : Int32} {x2 : Nat} {x5 : Int32} {y0 : Int32} {σ : zS} (ihagain27 : ∀ s : Int32 × Int32 × zS, s.2.2.2.1 = L → Pt (again27 s) (fun r => r.2.2.1 = L)) (hj : σ.2.1 = L) : Pt (J_X12_readsSum_69 N again27 x0 x1 x2 x5 y0 σ) (fun r => r.2.2.1 = L) := by
  rw [J_X12_readsSum_69.eq_1]
  exact pt_if (fun _ => (ihagain27 _ hj)) (fun _ => (ihagain27 _ hj))
theorem jF_X12_readsSum_27 {x0 : Nat} {x1 : Int32} {x2 : Nat} {again27 : (Int32 × Int32 × zS) → Option (Unit × zS)} (ihagain27 : ∀ s : Int32 × Int32 × zS, s.2.2.2.1 = L → Pt (again27 s) (fun r => r.2.2.1 = L)) {s : Int32 × Int32 × zS} (hj : s.2.2.2.1 = L) : Pt (F_X12_readsSum_27 N x0 x1 x2 again27 s) (fun r => r.2.2.1 = L) := by
  obtain ⟨x3, x4, σ⟩ := s
  rw [F_X12_readsSum_27.eq_1]
  exact pj_a (fun _ => pt_zb (jf_X12_good hj) (fun _ _ h1 => pt_if (fun _ => (jJ_X12_readsSum_86 h1)) (fun _ => pt_if (fun _ => (jJ_X12_readsSum_86 h1)) (fun _ => pt_if (fun _ => pj_a (fun _ => pt_zb (jf_X12_readsPart h1) (fun _ _ h2 => (ihagain27 _ h2)))) (fun _ => pj_a (fun _ => pt_zb (jf_X12_goesBehind h1) (fun _ _ h3 => pt_if (fun _ => (jJ_X12_readsSum_69 ihagain27 h3)) (fun _ => (jJ_X12_readsSum_69 ihagain27 h3)))))))))
theorem jf_X12_readsSum {x0 : Nat} {x1 : Int32} {x2 : Nat} {σ : zS}  (hj : σ.2.1 = L) : Pt (f_X12_readsSum N x0 x1 x2 σ) (fun r => r.2.2.1 = L) := by
  rw [f_X12_readsSum.eq_1]
  exact pj_s (j_pI hj) (fun _ h1 => pj_s (j_pI h1) (fun _ h2 => pj_s (j_pI h2) (fun _ h3 => pj_s (j_pI h3) (fun _ h4 => pt_lp (fun s => s.2.2.2.1 = L) (fun again s hI ih => jF_X12_readsSum_27 ih hI) N _ h4))))
theorem jF_X12_readsNames_22 {x0 : Nat} {again22 : (Int32 × zS) → Option (Unit × zS)} (ihagain22 : ∀ s : Int32 × zS, s.2.2.1 = L → Pt (again22 s) (fun r => r.2.2.1 = L)) {s : Int32 × zS} (hj : s.2.2.1 = L) : Pt (F_X12_readsNames_22 N x0 again22 s) (fun r => r.2.2.1 = L) := by
  obtain ⟨x1, σ⟩ := s
  rw [F_X12_readsNames_22.eq_1]
  exact pt_if (fun _ => pt_some hj) (fun _ => pj_a (fun _ => pj_s (j_sI hj) (fun _ h1 => pj_a (fun _ => pj_s (j_sI h1) (fun _ h2 => (ihagain22 _ h2))))))
theorem jf_X12_readsNames {x0 : Nat} {σ : zS}  (hj : σ.2.1 = L) : Pt (f_X12_readsNames N x0 σ) (fun r => r.2.2.1 = L) := by
  rw [f_X12_readsNames.eq_1]
  exact pj_a (fun _ => pt_zb (jf_X12_needs hj) (fun _ _ h1 => pj_a (fun _ => pj_a (fun _ => pt_zb (jf_X12_number h1) (fun _ _ h2 => pj_s (j_sI h2) (fun _ h3 => pt_lp (fun s => s.2.2.1 = L) (fun again s hI ih => jF_X12_readsNames_22 ih hI) N _ h3))))))
theorem jJ_X12_readsName_89 {x0 : Nat} {y0 : Int32} {σ : zS}  (hj : σ.2.1 = L) : Pt (J_X12_readsName_89 N x0 y0 σ) (fun r => r.2.2.1 = L) := by
  rw [J_X12_readsName_89.eq_1]
  exact pj_a (fun _ => pt_zb (jf_X12_good hj) (fun _ _ h1 => pt_if (fun _ => pt_some h1) (fun _ => pj_a (fun _ => pt_zb (jf_X12_advance h1) (fun _ _ h2 => pt_some h2)))))
theorem jJ_X12_readsName_66 {x0 : Nat} {σ : zS}  (hj : σ.2.1 = L) : Pt (J_X12_readsName_66 N x0 σ) (fun r => r.2.2.1 = L) := by
  rw [J_X12_readsName_66.eq_1]
  exact pj_a (fun _ => pt_zb (jf_X12_good hj) (fun _ _ h1 => pt_if (fun _ => (jJ_X12_readsName_89 h1)) (fun _ => pj_a (fun _ => pj_a (fun _ => pj_a (fun _ => (jJ_X12_readsName_89 h1)))))))
theorem jJ_X12_readsName_20 {x0 : Nat} {σ : zS}  (hj : σ.2.1 = L) : Pt (J_X12_readsName_20 N x0 σ) (fun r => r.2.2.1 = L) := by
  rw [J_X12_readsName_20.eq_1]
  exact pj_a (fun _ => pt_zb (jf_X12_good hj) (fun _ _ h1 => pt_if (fun _ => (jJ_X12_readsName_66 h1)) (fun _ => pj_a (fun _ => pj_a (fun _ => pt_if (fun _ => pj_a (fun _ => pt_zb (jf_X12_errs h1) (fun _ _ h2 => (jJ_X12_readsName_66 h2)))) (fun _ => pj_a (fun _ => pj_a (fun _ => pj_a (fun _ => pj_a (fun _ => pj_a (fun _ => pt_if (fun _ => (jJ_X12_readsName_66 h1)) (fun _ => pj_a (fun _ => pt_zb (jf_X12_errs h1) (fun _ _ h3 => (jJ_X12_readsName_66 h3)))))))))))))))
theorem jf_X12_readsName {x0 : Nat} {σ : zS}  (hj : σ.2.1 = L) : Pt (f_X12_readsName N x0 σ) (fun r => r.2.2.1 = L) := by
  rw [f_X12_readsName.eq_1]
  exact pj_a (fun _ => pt_zb (jf_X12_good hj) (fun _ _ h1 => pt_if (fun _ => (jJ_X12_readsName_20 h1)) (fun _ => pj_a (fun _ => pt_if (fun _ => (jJ_X12_readsName_20 h1)) (fun _ => pj_a (fun _ => pt_zb (jf_X12_errs h1) (fun _ _ h2 => (jJ_X12_readsName_20 h2))))))))
theorem jJ_X12_readsEdge_36 {x0 : Nat} {x1 : Int32} {σ : zS}  (hj : σ.2.1 = L) : Pt (J_X12_readsEdge_36 N x0 x1 σ) (fun r => r.2.2.1 = L) := by
  rw [J_X12_readsEdge_36.eq_1]
  exact pj_a (fun _ => pt_zb (jf_X12_number hj) (fun _ _ h1 => pj_a (fun _ => pt_zb (jf_X12_good h1) (fun _ _ h2 => pt_if (fun _ => pt_some h2) (fun _ => pj_a (fun _ => pj_a (fun _ => pj_a (fun _ => pj_s (j_sI h2) (fun _ h3 => pj_a (fun _ => pj_a (fun _ => pj_a (fun _ => pj_s (j_sI h3) (fun _ h4 => pj_a (fun _ => pj_a (fun _ => pj_s (j_sI h4) (fun _ h5 => pt_some h5))))))))))))))))
theorem jf_X12_readsEdge {x0 : Nat} {σ : zS}  (hj : σ.2.1 = L) : Pt (f_X12_readsEdge N x0 σ) (fun r => r.2.2.1 = L) := by
  rw [f_X12_readsEdge.eq_1]
  exact pj_a (fun _ => pt_zb (jf_X12_number hj) (fun _ _ h1 => pj_a (fun _ => pt_zb (jf_X12_good h1) (fun _ _ h2 => pt_if (fun _ => (jJ_X12_readsEdge_36 h2)) (fun _ => pj_a (fun _ => pt_if (fun _ => pj_a (fun _ => pt_if (fun _ => pj_a (fun _ => pt_zb (jf_X12_errs h2) (fun _ _ h3 => (jJ_X12_readsEdge_36 h3)))) (fun _ => (jJ_X12_readsEdge_36 h2)))) (fun _ => (jJ_X12_readsEdge_36 h2))))))))
theorem jF_X12_readsLet_37 {x0 : Nat} {x1 : Int32} {again37 : (Int32 × zS) → Option (Unit × zS)} (ihagain37 : ∀ s : Int32 × zS, s.2.2.1 = L → Pt (again37 s) (fun r => r.2.2.1 = L)) {s : Int32 × zS} (hj : s.2.2.1 = L) : Pt (F_X12_readsLet_37 N x0 x1 again37 s) (fun r => r.2.2.1 = L) := by
  obtain ⟨x2, σ⟩ := s
  rw [F_X12_readsLet_37.eq_1]
  exact pt_if (fun _ => pt_some hj) (fun _ => pj_a (fun _ => pt_zb (jf_X12_good hj) (fun _ _ h1 => pt_if (fun _ => pt_some h1) (fun _ => pj_a (fun _ => pj_a (fun _ => pj_a (fun _ => pj_s (j_sI h1) (fun _ h2 => (ihagain37 _ h2)))))))))
theorem jJ_X12_readsLet_35 {x0 : Nat} {x1 : Int32} {σ : zS}  (hj : σ.2.1 = L) : Pt (J_X12_readsLet_35 N x0 x1 σ) (fun r => r.2.2.1 = L) := by
  rw [J_X12_readsLet_35.eq_1]
  exact pt_lp (fun s => s.2.2.1 = L) (fun again s hI ih => jF_X12_readsLet_37 ih hI) N _ hj
theorem jf_X12_readsLet {x0 : Nat} {σ : zS}  (hj : σ.2.1 = L) : Pt (f_X12_readsLet N x0 σ) (fun r => r.2.2.1 = L) := by
  rw [f_X12_readsLet.eq_1]
  exact pj_a (fun _ => pt_zb (jf_X12_number hj) (fun _ _ h1 => pj_a (fun _ => pt_zb (jf_X12_needsSign h1) (fun _ _ h2 => pj_a (fun _ => pt_zb (jf_X12_good h2) (fun _ _ h3 => pt_if (fun _ => (jJ_X12_readsLet_35 h3)) (fun _ => pj_a (fun _ => pj_a (fun _ => pj_a (fun _ => pj_a (fun _ => pt_zb (jf_X12_readsSum h3) (fun _ _ h4 => (jJ_X12_readsLet_35 h4)))))))))))))
theorem jJ_X12_readsLine_65 {x0 : Nat} {σ : zS}  (hj : σ.2.1 = L) : Pt (J_X12_readsLine_65 N x0 σ) (fun r => r.2.2.1 = L) := by
  rw [J_X12_readsLine_65.eq_1]
  exact pj_a (fun _ => pt_zb (jf_X12_good hj) (fun _ _ h1 => pt_if (fun _ => pt_some h1) (fun _ => pj_a (fun _ => pt_zb (jf_X12_takes h1) (fun _ _ h2 => pt_if (fun _ => pj_a (fun _ => pt_zb (jf_X12_takes h2) (fun _ _ h3 => pt_if (fun _ => pj_a (fun _ => pt_zb (jf_X12_advance h3) (fun _ _ h4 => pj_a (fun _ => pt_zb (jf_X12_readsLet h4) (fun _ _ h5 => pt_some h5))))) (fun _ => pj_a (fun _ => pt_zb (jf_X12_readsEdge h3) (fun _ _ h6 => pt_some h6)))))) (fun _ => pj_a (fun _ => pt_zb (jf_X12_readsName h2) (fun _ _ h7 => pj_a (fun _ => pj_a (fun _ => pt_zb (jf_X12_number h7) (fun _ _ h8 => pj_s (j_sI h8) (fun _ h9 => pt_some h9))))))))))))
theorem jJ_X12_readsLine_35 {x0 : Nat} {σ : zS}  (hj : σ.2.1 = L) : Pt (J_X12_readsLine_35 N x0 σ) (fun r => r.2.2.1 = L) := by
  rw [J_X12_readsLine_35.eq_1]
  exact pj_a (fun _ => pt_zb (jf_X12_is hj) (fun _ _ h1 => pt_if (fun _ => (jJ_X12_readsLine_65 h1)) (fun _ => pj_a (fun _ => pj_a (fun _ => pj_a (fun _ => pj_a (fun _ => pt_if (fun _ => pj_a (fun _ => pt_zb (jf_X12_errs h1) (fun _ _ h2 => (jJ_X12_readsLine_65 h2)))) (fun _ => (jJ_X12_readsLine_65 h1)))))))))
theorem jf_X12_readsLine {x0 : Nat} {σ : zS}  (hj : σ.2.1 = L) : Pt (f_X12_readsLine N x0 σ) (fun r => r.2.2.1 = L) := by
  rw [f_X12_readsLine.eq_1]
  exact pj_a (fun _ => pt_zb (jf_X12_is hj) (fun _ _ h1 => pt_if (fun _ => pj_a (fun _ => pt_zb (jf_X12_is h1) (fun _ _ h2 => pt_if (fun _ => pj_a (fun _ => pt_zb (jf_X12_is h2) (fun _ _ h3 => pt_if (fun _ => pj_a (fun _ => pt_zb (jf_X12_errs h3) (fun _ _ h4 => (jJ_X12_readsLine_35 h4)))) (fun _ => (jJ_X12_readsLine_35 h3))))) (fun _ => (jJ_X12_readsLine_35 h2))))) (fun _ => (jJ_X12_readsLine_35 h1))))
theorem jF_X12_world_138 {x0 : Nat} {again138 : (Int32 × zS) → Option (Int32 × zS)} (ihagain138 : ∀ s : Int32 × zS, s.2.2.1 = L → Pt (again138 s) (fun r => r.2.2.1 = L)) {s : Int32 × zS} (hj : s.2.2.1 = L) : Pt (F_X12_world_138 N x0 again138 s) (fun r => r.2.2.1 = L) := by
  obtain ⟨x1, σ⟩ := s
  rw [F_X12_world_138.eq_1]
  exact pt_if (fun _ => pj_a (fun _ => pj_a (fun _ => pt_some hj))) (fun _ => pj_a (fun _ => pj_a (fun _ => pj_a (fun _ => pj_s (j_sI hj) (fun _ h1 => (ihagain138 _ h1))))))
theorem jF_X12_world_112 {x0 : Nat} {again112 : (Int32 × zS) → Option (Int32 × zS)} (ihagain112 : ∀ s : Int32 × zS, s.2.2.1 = L → Pt (again112 s) (fun r => r.2.2.1 = L)) {s : Int32 × zS} (hj : s.2.2.1 = L) : Pt (F_X12_world_112 N x0 again112 s) (fun r => r.2.2.1 = L) := by
  obtain ⟨x1, σ⟩ := s
  rw [F_X12_world_112.eq_1]
  exact pt_if (fun _ => pt_lp (fun s => s.2.2.1 = L) (fun again s hI ih => jF_X12_world_138 ih hI) N _ hj) (fun _ => pj_a (fun _ => pj_a (fun _ => pj_a (fun _ => pj_s (j_sI hj) (fun _ h1 => (ihagain112 _ h1))))))
theorem jJ_X12_world_100 {x0 : Nat} {σ : zS}  (hj : σ.2.1 = L) : Pt (J_X12_world_100 N x0 σ) (fun r => r.2.2.1 = L) := by
  rw [J_X12_world_100.eq_1]
  exact pj_a (fun _ => pt_zb (jf_X12_good hj) (fun _ _ h1 => pt_if (fun _ => pt_some h1) (fun _ => pt_lp (fun s => s.2.2.1 = L) (fun again s hI ih => jF_X12_world_112 ih hI) N _ h1)))
theorem jF_X12_world_47 {x0 : Nat} {again47 : zS → Option (Int32 × zS)} (ihagain47 : ∀ s : zS, s.2.1 = L → Pt (again47 s) (fun r => r.2.2.1 = L)) {s : zS} (hj : s.2.1 = L) : Pt (F_X12_world_47 N x0 again47 s) (fun r => r.2.2.1 = L) := by
  rw [F_X12_world_47.eq_1]
  exact pj_a (fun _ => pt_zb (jf_X12_good hj) (fun _ _ h1 => pt_if (fun _ => (jJ_X12_world_100 h1)) (fun _ => pj_a (fun _ => pt_if (fun _ => (jJ_X12_world_100 h1)) (fun _ => pj_a (fun _ => pj_a (fun _ => pt_if (fun _ => pj_a (fun _ => pt_zb (jf_X12_readsNames h1) (fun _ _ h2 => pj_a (fun _ => pt_zb (jf_X12_needsSign h2) (fun _ _ h3 => pj_a (fun _ => pj_a (fun _ => pj_s (j_sI h3) (fun _ h4 => (ihagain47 _ h4))))))))) (fun _ => pj_a (fun _ => pt_zb (jf_X12_readsLine h1) (fun _ _ h5 => pj_a (fun _ => pt_zb (jf_X12_needsSign h5) (fun _ _ h6 => pj_a (fun _ => pj_a (fun _ => pj_s (j_sI h6) (fun _ h7 => (ihagain47 _ h7))))))))))))))))
theorem jF_X12_world_27 {x0 : Nat} {again27 : (Int32 × zS) → Option (Int32 × zS)} (ihagain27 : ∀ s : Int32 × zS, s.2.2.1 = L → Pt (again27 s) (fun r => r.2.2.1 = L)) {s : Int32 × zS} (hj : s.2.2.1 = L) : Pt (F_X12_world_27 N x0 again27 s) (fun r => r.2.2.1 = L) := by
  obtain ⟨x1, σ⟩ := s
  rw [F_X12_world_27.eq_1]
  exact pt_if (fun _ => pt_lp (fun s => s.2.1 = L) (fun again s hI ih => jF_X12_world_47 ih hI) N _ hj) (fun _ => pj_a (fun _ => pj_s (j_sI hj) (fun _ h1 => (ihagain27 _ h1))))
theorem jF_X12_world_6 {x0 : Nat} {again6 : (Int32 × zS) → Option (Int32 × zS)} (ihagain6 : ∀ s : Int32 × zS, s.2.2.1 = L → Pt (again6 s) (fun r => r.2.2.1 = L)) {s : Int32 × zS} (hj : s.2.2.1 = L) : Pt (F_X12_world_6 N x0 again6 s) (fun r => r.2.2.1 = L) := by
  obtain ⟨x1, σ⟩ := s
  rw [F_X12_world_6.eq_1]
  exact pt_if (fun _ => pt_lp (fun s => s.2.2.1 = L) (fun again s hI ih => jF_X12_world_27 ih hI) N _ hj) (fun _ => pj_a (fun _ => pj_s (j_sI hj) (fun _ h1 => (ihagain6 _ h1))))
theorem jf_X12_world {x0 : Nat} {σ : zS}  (hj : σ.2.1 = L) : Pt (f_X12_world N x0 σ) (fun r => r.2.2.1 = L) := by
  rw [f_X12_world.eq_1]
  exact pj_a (fun _ => pt_zb (jf_X12_begins hj) (fun _ _ h1 => pt_lp (fun s => s.2.2.1 = L) (fun again s hI ih => jF_X12_world_6 ih hI) N _ h1))
theorem jF_X12_sizeOf_4 {x0 : Nat} {x1 : Int32} {again4 : (Int32 × Int32 × zS) → Option (Int32 × zS)} (ihagain4 : ∀ s : Int32 × Int32 × zS, s.2.2.2.1 = L → Pt (again4 s) (fun r => r.2.2.1 = L)) {s : Int32 × Int32 × zS} (hj : s.2.2.2.1 = L) : Pt (F_X12_sizeOf_4 N x0 x1 again4 s) (fun r => r.2.2.1 = L) := by
  obtain ⟨x2, x3, σ⟩ := s
  rw [F_X12_sizeOf_4.eq_1]
  exact pj_a (fun _ => pt_zb (jf_X12_many hj) (fun _ _ h1 => pt_if (fun _ => pt_some h1) (fun _ => pj_a (fun _ => pt_zb (jf_X12_of h1) (fun _ _ h2 => pt_if (fun _ => (ihagain4 _ h2)) (fun _ => (ihagain4 _ h2)))))))
theorem jf_X12_sizeOf {x0 : Nat} {x1 : Int32} {σ : zS}  (hj : σ.2.1 = L) : Pt (f_X12_sizeOf N x0 x1 σ) (fun r => r.2.2.1 = L) := by
  rw [f_X12_sizeOf.eq_1]
  exact pt_lp (fun s => s.2.2.2.1 = L) (fun again s hI ih => jF_X12_sizeOf_4 ih hI) N _ hj
theorem jF_X12_lays_2 {x0 : Nat} {x1 : Int32} {again2 : (Int32 × zS) → Option (Int32 × zS)} (ihagain2 : ∀ s : Int32 × zS, s.2.2.1 = L → Pt (again2 s) (fun r => r.2.2.1 = L)) {s : Int32 × zS} (hj : s.2.2.1 = L) : Pt (F_X12_lays_2 N x0 x1 again2 s) (fun r => r.2.2.1 = L) := by
  obtain ⟨x2, σ⟩ := s
  rw [F_X12_lays_2.eq_1]
  exact pt_if (fun _ => pj_a (fun _ => pt_zb (jf_X12_sizeOf hj) (fun _ _ h1 => pt_some h1))) (fun _ => pj_a (fun _ => pj_a (fun _ => pj_a (fun _ => pj_s (j_sI hj) (fun _ h2 => (ihagain2 _ h2))))))
theorem jf_X12_lays {x0 : Nat} {x1 : Int32} {σ : zS}  (hj : σ.2.1 = L) : Pt (f_X12_lays N x0 x1 σ) (fun r => r.2.2.1 = L) := by
  rw [f_X12_lays.eq_1]
  exact pt_lp (fun s => s.2.2.1 = L) (fun again s hI ih => jF_X12_lays_2 ih hI) N _ hj
theorem jF_X12_put_65 {x0 : Nat} {x1 : Int32} {again65 : (Int32 × zS) → Option (Int32 × zS)} (ihagain65 : ∀ s : Int32 × zS, s.2.2.1 = L → Pt (again65 s) (fun r => r.2.2.1 = L)) {s : Int32 × zS} (hj : s.2.2.1 = L) : Pt (F_X12_put_65 N x0 x1 again65 s) (fun r => r.2.2.1 = L) := by
  obtain ⟨x2, σ⟩ := s
  rw [F_X12_put_65.eq_1]
  exact pt_if (fun _ => pj_a (fun _ => pt_zb (jf_X12_lays hj) (fun _ _ h1 => pt_some h1))) (fun _ => pj_a (fun _ => pj_a (fun _ => pj_a (fun _ => pj_s (j_sI hj) (fun _ h2 => (ihagain65 _ h2))))))
theorem jJ_X12_put_53 {x0 : Nat} {x1 : Int32} {σ : zS}  (hj : σ.2.1 = L) : Pt (J_X12_put_53 N x0 x1 σ) (fun r => r.2.2.1 = L) := by
  rw [J_X12_put_53.eq_1]
  exact pj_a (fun _ => pt_zb (jf_X12_good hj) (fun _ _ h1 => pt_if (fun _ => pt_some h1) (fun _ => pt_lp (fun s => s.2.2.1 = L) (fun again s hI ih => jF_X12_put_65 ih hI) N _ h1)))
theorem jf_X12_put {x0 : Nat} {x1 : Int32} {σ : zS}  (hj : σ.2.1 = L) : Pt (f_X12_put N x0 x1 σ) (fun r => r.2.2.1 = L) := by
  rw [f_X12_put.eq_1]
  exact pj_a (fun _ => pt_zb (jf_X12_isRegister hj) (fun _ _ h1 => pt_if (fun _ => pj_s (j_pI h1) (fun _ h2 => pt_some h2)) (fun _ => pj_a (fun _ => pt_zb (jf_X12_begins h1) (fun _ _ h3 => pj_a (fun _ => pj_a (fun _ => pj_a (fun _ => pj_a (fun _ => pt_zb (jf_X12_readsSum h3) (fun _ _ h4 => pj_a (fun _ => pt_zb (jf_X12_good h4) (fun _ _ h5 => pt_if (fun _ => (jJ_X12_put_53 h5)) (fun _ => pj_a (fun _ => pt_if (fun _ => (jJ_X12_put_53 h5)) (fun _ => pj_a (fun _ => pt_zb (jf_X12_errs h5) (fun _ _ h6 => (jJ_X12_put_53 h6))))))))))))))))))
theorem jf_X12_size {x0 : Nat} {x1 : Int32} {σ : zS}  (hj : σ.2.1 = L) : Pt (f_X12_size N x0 x1 σ) (fun r => r.2.2.1 = L) := by
  rw [f_X12_size.eq_1]
  exact pj_a (fun _ => pt_zb (jf_X12_isRegister hj) (fun _ _ h1 => pt_if (fun _ => pt_some h1) (fun _ => pj_a (fun _ => pt_zb (jf_X12_sizeOf h1) (fun _ _ h2 => pt_some h2)))))
theorem jf_X12_has {x0 : Nat} {x1 : Int32} {x2 : Int32} {σ : zS}  (hj : σ.2.1 = L) : Pt (f_X12_has N x0 x1 x2 σ) (fun r => r.2.2.1 = L) := by
  rw [f_X12_has.eq_1]
  exact pj_a (fun _ => pt_zb (jf_X12_isRegister hj) (fun _ _ h1 => pt_if (fun _ => pt_some h1) (fun _ => pj_a (fun _ => pt_zb (jf_X12_isSet h1) (fun _ _ h2 => pt_if (fun _ => pt_some h2) (fun _ => pj_a (fun _ => pt_zb (jf_X12_of h2) (fun _ _ h3 => pt_if (fun _ => pt_some h3) (fun _ => pt_some h3)))))))))
theorem jf_X12_makes {x0 : Nat} {x1 : Int32} {x2 : Int32} {x3 : Int32} {x4 : Int32} {σ : zS}  (hj : σ.2.1 = L) : Pt (f_X12_makes N x0 x1 x2 x3 x4 σ) (fun r => r.2.2.1 = L) := by
  rw [f_X12_makes.eq_1]
  exact pj_a (fun _ => pt_zb (jf_X12_isRegister hj) (fun _ _ h1 => pt_if (fun _ => pt_some h1) (fun _ => pt_zb (jf_X12_in h1) (fun _ _ h2 => pt_if (fun _ => pt_some h2) (fun _ => pj_a (fun _ => pt_zb (jf_X12_isRegister h2) (fun _ _ h3 => pt_if (fun _ => pt_some h3) (fun _ => pj_a (fun _ => pt_zb (jf_X12_isRegister h3) (fun _ _ h4 => pt_if (fun _ => pt_some h4) (fun _ => pj_a (fun _ => pt_zb (jf_X12_many h4) (fun _ _ h5 => pj_s (j_pI h5) (fun _ h6 => pj_a (fun _ => pj_a (fun _ => pj_a (fun _ => pt_zb (jf_X12_gives h6) (fun _ _ h7 => pj_a (fun _ => pt_zb (jf_X12_lays h7) (fun _ _ h8 => pt_some h8))))))))))))))))))))
theorem jf_X12_turn {x0 : Nat} {x1 : Int32} {x2 : Int32} {x3 : Int32} {σ : zS}  (hj : σ.2.1 = L) : Pt (f_X12_turn N x0 x1 x2 x3 σ) (fun r => r.2.2.1 = L) := by
  rw [f_X12_turn.eq_1]
  exact pj_a (fun _ => pt_zb (jf_X12_isRegister hj) (fun _ _ h1 => pt_if (fun _ => pt_some h1) (fun _ => pt_zb (jf_X12_in h1) (fun _ _ h2 => pt_if (fun _ => pt_some h2) (fun _ => pj_a (fun _ => pt_zb (jf_X12_isRegister h2) (fun _ _ h3 => pt_if (fun _ => pt_some h3) (fun _ => pj_a (fun _ => pt_zb (jf_X12_many h3) (fun _ _ h4 => pj_s (j_pI h4) (fun _ h5 => pj_a (fun _ => pj_a (fun _ => pt_zb (jf_X12_turns h5) (fun _ _ h6 => pj_a (fun _ => pt_zb (jf_X12_lays h6) (fun _ _ h7 => pt_some h7))))))))))))))))
theorem jf_X12_sets {x0 : Nat} {x1 : Int32} {x2 : Int32} {x3 : Int32} {σ : zS}  (hj : σ.2.1 = L) : Pt (f_X12_sets N x0 x1 x2 x3 σ) (fun r => r.2.2.1 = L) := by
  rw [f_X12_sets.eq_1]
  exact pj_a (fun _ => pt_zb (jf_X12_isRegister hj) (fun _ _ h1 => pt_if (fun _ => pt_some h1) (fun _ => pj_a (fun _ => pt_zb (jf_X12_isSet h1) (fun _ _ h2 => pt_if (fun _ => pt_some h2) (fun _ => pj_a (fun _ => pt_zb (jf_X12_of h2) (fun _ _ h3 => pj_a (fun _ => pj_s (j_sI h3) (fun _ h4 => pt_if (fun _ => pt_some h4) (fun _ => pt_some h4)))))))))))
theorem jF_X12_change_30 {x0 : Nat} {x1 : Int32} {x2 : Int32} {x3 : Int32} {again30 : (Int32 × zS) → Option (Int32 × zS)} (ihagain30 : ∀ s : Int32 × zS, s.2.2.1 = L → Pt (again30 s) (fun r => r.2.2.1 = L)) {s : Int32 × zS} (hj : s.2.2.1 = L) : Pt (F_X12_change_30 N x0 x1 x2 x3 again30 s) (fun r => r.2.2.1 = L) := by
  obtain ⟨x4, σ⟩ := s
  rw [F_X12_change_30.eq_1]
  exact pt_if (fun _ => pj_a (fun _ => pt_zb (jf_X12_lays hj) (fun _ _ h1 => pt_some h1))) (fun _ => pj_a (fun _ => pj_a (fun _ => pt_zb (jf_X12_many hj) (fun _ _ h2 => pt_if (fun _ => pj_s (j_sI h2) (fun _ h3 => (ihagain30 _ h3))) (fun _ => pj_a (fun _ => pt_zb (jf_X12_of h2) (fun _ _ h4 => pt_if (fun _ => pj_s (j_sI h4) (fun _ h5 => (ihagain30 _ h5))) (fun _ => pj_s (j_sI h4) (fun _ h6 => (ihagain30 _ h6))))))))))
theorem jf_X12_change {x0 : Nat} {x1 : Int32} {x2 : Int32} {x3 : Int32} {σ : zS}  (hj : σ.2.1 = L) : Pt (f_X12_change N x0 x1 x2 x3 σ) (fun r => r.2.2.1 = L) := by
  rw [f_X12_change.eq_1]
  exact pj_a (fun _ => pt_zb (jf_X12_isRegister hj) (fun _ _ h1 => pt_if (fun _ => pt_some h1) (fun _ => pj_a (fun _ => pt_zb (jf_X12_isRegister h1) (fun _ _ h2 => pt_if (fun _ => pt_some h2) (fun _ => pj_a (fun _ => pt_zb (jf_X12_isName h2) (fun _ _ h3 => pt_if (fun _ => pt_some h3) (fun _ => pt_lp (fun s => s.2.2.1 = L) (fun again s hI ih => jF_X12_change_30 ih hI) N _ h3)))))))))
theorem jJ_X12_half_83 {again35 : (Int32 × zS) → Option (Int32 × zS)} {x0 : Nat} {x1 : Int32} {x2 : Int32} {x4 : Int32} {x5 : Int32} {x6 : Int32} {y0 : Int32} {y1 : Int32} {y2 : Nat} {y3 : Int32} {y4 : Nat} {σ : zS} (ihagain35 : ∀ s : Int32 × zS, s.2.2.1 = L → Pt (again35 s) (fun r => r.2.2.1 = L)) (hj : σ.2.1 = L) : Pt (J_X12_half_83 N again35 x0 x1 x2 x4 x5 x6 y0 y1 y2 y3 y4 σ) (fun r => r.2.2.1 = L) := by
  rw [J_X12_half_83.eq_1]
  exact pj_a (fun _ => pt_zb (jf_X12_of hj) (fun _ _ h1 => pt_if (fun _ => pj_s (j_sI h1) (fun _ h2 => (ihagain35 _ h2))) (fun _ => pj_s (j_sI h1) (fun _ h3 => (ihagain35 _ h3)))))
theorem jF_X12_half_35 {x0 : Nat} {x1 : Int32} {x2 : Int32} {x4 : Int32} {x5 : Int32} {again35 : (Int32 × zS) → Option (Int32 × zS)} (ihagain35 : ∀ s : Int32 × zS, s.2.2.1 = L → Pt (again35 s) (fun r => r.2.2.1 = L)) {s : Int32 × zS} (hj : s.2.2.1 = L) : Pt (F_X12_half_35 N x0 x1 x2 x4 x5 again35 s) (fun r => r.2.2.1 = L) := by
  obtain ⟨x6, σ⟩ := s
  rw [F_X12_half_35.eq_1]
  exact pt_if (fun _ => pj_a (fun _ => pt_zb (jf_X12_lays hj) (fun _ _ h1 => pt_some h1))) (fun _ => pj_a (fun _ => pj_a (fun _ => pt_zb (jf_X12_many hj) (fun _ _ h2 => pt_if (fun _ => pj_s (j_sI h2) (fun _ h3 => (ihagain35 _ h3))) (fun _ => pt_if (fun _ => pt_if (fun _ => (jJ_X12_half_83 ihagain35 h2)) (fun _ => (jJ_X12_half_83 ihagain35 h2))) (fun _ => pj_s (j_sI h2) (fun _ h4 => (ihagain35 _ h4))))))))
theorem jf_X12_half {x0 : Nat} {x1 : Int32} {x2 : Int32} {x3 : Int32} {x4 : Int32} {σ : zS}  (hj : σ.2.1 = L) : Pt (f_X12_half N x0 x1 x2 x3 x4 σ) (fun r => r.2.2.1 = L) := by
  rw [f_X12_half.eq_1]
  exact pj_a (fun _ => pt_zb (jf_X12_isRegister hj) (fun _ _ h1 => pt_if (fun _ => pt_some h1) (fun _ => pj_a (fun _ => pt_zb (jf_X12_isRegister h1) (fun _ _ h2 => pt_if (fun _ => pt_some h2) (fun _ => pj_a (fun _ => pt_zb (jf_X12_isName h2) (fun _ _ h3 => pt_if (fun _ => pt_some h3) (fun _ => pt_lp (fun s => s.2.2.1 = L) (fun again s hI ih => jF_X12_half_35 ih hI) N _ h3)))))))))
theorem jF_X12_level_34 {x0 : Nat} {x1 : Int32} {x2 : Int32} {x3 : Int32} {again34 : (Int32 × zS) → Option (Int32 × zS)} (ihagain34 : ∀ s : Int32 × zS, s.2.2.1 = L → Pt (again34 s) (fun r => r.2.2.1 = L)) {s : Int32 × zS} (hj : s.2.2.1 = L) : Pt (F_X12_level_34 N x0 x1 x2 x3 again34 s) (fun r => r.2.2.1 = L) := by
  obtain ⟨x4, σ⟩ := s
  rw [F_X12_level_34.eq_1]
  exact pt_if (fun _ => pj_a (fun _ => pt_zb (jf_X12_lays hj) (fun _ _ h1 => pt_some h1))) (fun _ => pj_a (fun _ => pj_a (fun _ => pt_zb (jf_X12_many hj) (fun _ _ h2 => pt_if (fun _ => pj_s (j_sI h2) (fun _ h3 => (ihagain34 _ h3))) (fun _ => pj_a (fun _ => pt_zb (jf_X12_of h2) (fun _ _ h4 => pt_if (fun _ => pj_s (j_sI h4) (fun _ h5 => (ihagain34 _ h5))) (fun _ => pt_zb (jf_X12_namesOf h4) (fun _ _ h6 => pt_if (fun _ => pj_s (j_sI h6) (fun _ h7 => (ihagain34 _ h7))) (fun _ => pj_s (j_sI h6) (fun _ h8 => (ihagain34 _ h8))))))))))))
theorem jf_X12_level {x0 : Nat} {x1 : Int32} {x2 : Int32} {x3 : Int32} {σ : zS}  (hj : σ.2.1 = L) : Pt (f_X12_level N x0 x1 x2 x3 σ) (fun r => r.2.2.1 = L) := by
  rw [f_X12_level.eq_1]
  exact pj_a (fun _ => pt_zb (jf_X12_isRegister hj) (fun _ _ h1 => pt_if (fun _ => pt_some h1) (fun _ => pj_a (fun _ => pt_zb (jf_X12_isRegister h1) (fun _ _ h2 => pt_if (fun _ => pt_some h2) (fun _ => pt_zb (jf_X12_in h2) (fun _ _ h3 => pt_if (fun _ => pt_some h3) (fun _ => pt_lp (fun s => s.2.2.1 = L) (fun again s hI ih => jF_X12_level_34 ih hI) N _ h3))))))))
theorem jF_X12_nthOf_5 {x0 : Nat} {x1 : Int32} {x2 : Int32} {again5 : (Int32 × Int32 × zS) → Option (Int32 × zS)} (ihagain5 : ∀ s : Int32 × Int32 × zS, s.2.2.2.1 = L → Pt (again5 s) (fun r => r.2.2.1 = L)) {s : Int32 × Int32 × zS} (hj : s.2.2.2.1 = L) : Pt (F_X12_nthOf_5 N x0 x1 x2 again5 s) (fun r => r.2.2.1 = L) := by
  obtain ⟨x3, x4, σ⟩ := s
  rw [F_X12_nthOf_5.eq_1]
  exact pj_a (fun _ => pt_zb (jf_X12_many hj) (fun _ _ h1 => pt_if (fun _ => pt_some h1) (fun _ => pj_a (fun _ => pt_zb (jf_X12_of h1) (fun _ _ h2 => pt_if (fun _ => (ihagain5 _ h2)) (fun _ => pt_if (fun _ => pt_some h2) (fun _ => (ihagain5 _ h2))))))))
theorem jf_X12_nthOf {x0 : Nat} {x1 : Int32} {x2 : Int32} {σ : zS}  (hj : σ.2.1 = L) : Pt (f_X12_nthOf N x0 x1 x2 σ) (fun r => r.2.2.1 = L) := by
  rw [f_X12_nthOf.eq_1]
  exact pt_lp (fun s => s.2.2.2.1 = L) (fun again s hI ih => jF_X12_nthOf_5 ih hI) N _ hj
theorem jf_X12_nth {x0 : Nat} {x1 : Int32} {x2 : Int32} {σ : zS}  (hj : σ.2.1 = L) : Pt (f_X12_nth N x0 x1 x2 σ) (fun r => r.2.2.1 = L) := by
  rw [f_X12_nth.eq_1]
  exact pj_a (fun _ => pt_zb (jf_X12_isRegister hj) (fun _ _ h1 => pt_if (fun _ => pt_some h1) (fun _ => pj_a (fun _ => pt_zb (jf_X12_nthOf h1) (fun _ _ h2 => pt_some h2)))))
theorem jF_X12_rank__24 {x0 : Nat} {x1 : Int32} {x2 : Int32} {again24 : (Int32 × Int32 × zS) → Option (Int32 × zS)} (ihagain24 : ∀ s : Int32 × Int32 × zS, s.2.2.2.1 = L → Pt (again24 s) (fun r => r.2.2.1 = L)) {s : Int32 × Int32 × zS} (hj : s.2.2.2.1 = L) : Pt (F_X12_rank__24 N x0 x1 x2 again24 s) (fun r => r.2.2.1 = L) := by
  obtain ⟨x3, x4, σ⟩ := s
  rw [F_X12_rank__24.eq_1]
  exact pt_if (fun _ => pt_some hj) (fun _ => pj_a (fun _ => pt_zb (jf_X12_of hj) (fun _ _ h1 => pt_if (fun _ => (ihagain24 _ h1)) (fun _ => (ihagain24 _ h1)))))
theorem jf_X12_rank_ {x0 : Nat} {x1 : Int32} {x2 : Int32} {σ : zS}  (hj : σ.2.1 = L) : Pt (f_X12_rank_ N x0 x1 x2 σ) (fun r => r.2.2.1 = L) := by
  rw [f_X12_rank_.eq_1]
  exact pj_a (fun _ => pt_zb (jf_X12_isRegister hj) (fun _ _ h1 => pt_if (fun _ => pt_some h1) (fun _ => pj_a (fun _ => pt_zb (jf_X12_isSet h1) (fun _ _ h2 => pt_if (fun _ => pt_some h2) (fun _ => pt_lp (fun s => s.2.2.2.1 = L) (fun again s hI ih => jF_X12_rank__24 ih hI) N _ h2))))))
theorem jF_X12_weightOf_4 {x0 : Nat} {x1 : Int32} {again4 : (Int32 × Int32 × zS) → Option (Int32 × zS)} (ihagain4 : ∀ s : Int32 × Int32 × zS, s.2.2.2.1 = L → Pt (again4 s) (fun r => r.2.2.1 = L)) {s : Int32 × Int32 × zS} (hj : s.2.2.2.1 = L) : Pt (F_X12_weightOf_4 N x0 x1 again4 s) (fun r => r.2.2.1 = L) := by
  obtain ⟨x2, x3, σ⟩ := s
  rw [F_X12_weightOf_4.eq_1]
  exact pt_if (fun _ => pt_some hj) (fun _ => pj_a (fun _ => pj_a (fun _ => (ihagain4 _ hj))))
theorem jf_X12_weightOf {x0 : Nat} {x1 : Int32} {σ : zS}  (hj : σ.2.1 = L) : Pt (f_X12_weightOf N x0 x1 σ) (fun r => r.2.2.1 = L) := by
  rw [f_X12_weightOf.eq_1]
  exact pt_lp (fun s => s.2.2.2.1 = L) (fun again s hI ih => jF_X12_weightOf_4 ih hI) N _ hj
theorem jF_X12_light_27 {x0 : Nat} {x1 : Int32} {x2 : Int32} {x4 : Int32} {again16 : (Int32 × Int32 × zS) → Option (Int32 × zS)} {again27 : (Int32 × Int32 × zS) → Option (Int32 × zS)} (ihagain16 : ∀ s : Int32 × Int32 × zS, s.2.2.2.1 = L → Pt (again16 s) (fun r => r.2.2.1 = L)) (ihagain27 : ∀ s : Int32 × Int32 × zS, s.2.2.2.1 = L → Pt (again27 s) (fun r => r.2.2.1 = L)) {s : Int32 × Int32 × zS} (hj : s.2.2.2.1 = L) : Pt (F_X12_light_27 N x0 x1 x2 x4 again16 again27 s) (fun r => r.2.2.1 = L) := by
  obtain ⟨x3, x5, σ⟩ := s
  rw [F_X12_light_27.eq_1]
  exact pj_a (fun _ => pt_zb (jf_X12_many hj) (fun _ _ h1 => pt_if (fun _ => (ihagain16 _ h1)) (fun _ => pj_a (fun _ => pt_zb (jf_X12_of h1) (fun _ _ h2 => pt_if (fun _ => (ihagain27 _ h2)) (fun _ => pj_a (fun _ => pt_zb (jf_X12_weightOf h2) (fun _ _ h3 => pt_if (fun _ => pt_if (fun _ => pt_some h3) (fun _ => (ihagain27 _ h3))) (fun _ => (ihagain27 _ h3))))))))))
theorem jF_X12_light_16 {x0 : Nat} {x1 : Int32} {x2 : Int32} {again16 : (Int32 × Int32 × zS) → Option (Int32 × zS)} (ihagain16 : ∀ s : Int32 × Int32 × zS, s.2.2.2.1 = L → Pt (again16 s) (fun r => r.2.2.1 = L)) {s : Int32 × Int32 × zS} (hj : s.2.2.2.1 = L) : Pt (F_X12_light_16 N x0 x1 x2 again16 s) (fun r => r.2.2.1 = L) := by
  obtain ⟨x3, x4, σ⟩ := s
  rw [F_X12_light_16.eq_1]
  exact pt_if (fun _ => pt_some hj) (fun _ => pt_lp (fun s => s.2.2.2.1 = L) (fun again s hI ih => jF_X12_light_27 ihagain16 ih hI) N _ hj)
theorem jf_X12_light {x0 : Nat} {x1 : Int32} {x2 : Int32} {σ : zS}  (hj : σ.2.1 = L) : Pt (f_X12_light N x0 x1 x2 σ) (fun r => r.2.2.1 = L) := by
  rw [f_X12_light.eq_1]
  exact pj_a (fun _ => pt_zb (jf_X12_isRegister hj) (fun _ _ h1 => pt_if (fun _ => pt_some h1) (fun _ => pt_lp (fun s => s.2.2.2.1 = L) (fun again s hI ih => jF_X12_light_16 ih hI) N _ h1)))
theorem jf_X12_weight {x0 : Nat} {x1 : Int32} {σ : zS}  (hj : σ.2.1 = L) : Pt (f_X12_weight N x0 x1 σ) (fun r => r.2.2.1 = L) := by
  rw [f_X12_weight.eq_1]
  exact pj_a (fun _ => pt_zb (jf_X12_isSet hj) (fun _ _ h1 => pt_if (fun _ => pt_some h1) (fun _ => pj_a (fun _ => pt_zb (jf_X12_weightOf h1) (fun _ _ h2 => pt_some h2)))))
theorem jf_X12_weigh {x0 : Nat} {x1 : Int32} {x2 : Int32} {σ : zS}  (hj : σ.2.1 = L) : Pt (f_X12_weigh N x0 x1 x2 σ) (fun r => r.2.2.1 = L) := by
  rw [f_X12_weigh.eq_1]
  exact pj_a (fun _ => pt_zb (jf_X12_isName hj) (fun _ _ h1 => pt_if (fun _ => pt_some h1) (fun _ => pt_zb (jf_X12_in h1) (fun _ _ h2 => pt_if (fun _ => pt_some h2) (fun _ => pj_a (fun _ => pj_a (fun _ => pj_a (fun _ => pj_s (j_sI h2) (fun _ h3 => pt_some h3)))))))))
theorem jF_X12_weighs_34 {x0 : Nat} {x1 : Int32} {x2 : Int32} {again34 : (Int32 × Int32 × Int32 × Int32 × zS) → Option (Int32 × zS)} (ihagain34 : ∀ s : Int32 × Int32 × Int32 × Int32 × zS, s.2.2.2.2.2.1 = L → Pt (again34 s) (fun r => r.2.2.1 = L)) {s : Int32 × Int32 × Int32 × Int32 × zS} (hj : s.2.2.2.2.2.1 = L) : Pt (F_X12_weighs_34 N x0 x1 x2 again34 s) (fun r => r.2.2.1 = L) := by
  obtain ⟨x3, x4, x5, x6, σ⟩ := s
  rw [F_X12_weighs_34.eq_1]
  exact pj_a (fun _ => pt_zb (jf_X12_many hj) (fun _ _ h1 => pt_if (fun _ => pt_if (fun _ => pt_some h1) (fun _ => pt_if (fun _ => pt_some h1) (fun _ => pt_some h1))) (fun _ => pj_a (fun _ => pt_zb (jf_X12_of h1) (fun _ _ h2 => pt_if (fun _ => (ihagain34 _ h2)) (fun _ => pj_a (fun _ => pt_zb (jf_X12_weightOf h2) (fun _ _ h3 => pt_if (fun _ => (ihagain34 _ h3)) (fun _ => (ihagain34 _ h3))))))))))
theorem jf_X12_weighs {x0 : Nat} {x1 : Int32} {x2 : Int32} {σ : zS}  (hj : σ.2.1 = L) : Pt (f_X12_weighs N x0 x1 x2 σ) (fun r => r.2.2.1 = L) := by
  rw [f_X12_weighs.eq_1]
  exact pj_a (fun _ => pt_zb (jf_X12_isRegister hj) (fun _ _ h1 => pt_if (fun _ => pt_some h1) (fun _ => pt_zb (jf_X12_in h1) (fun _ _ h2 => pt_if (fun _ => pt_some h2) (fun _ => pt_lp (fun s => s.2.2.2.2.2.1 = L) (fun again s hI ih => jF_X12_weighs_34 ih hI) N _ h2)))))
theorem jF_X12_each_24 {x0 : Nat} {x1 : Int32} {x2 : Int32} {again24 : (Int32 × Int32 × zS) → Option (Int32 × zS)} (ihagain24 : ∀ s : Int32 × Int32 × zS, s.2.2.2.1 = L → Pt (again24 s) (fun r => r.2.2.1 = L)) {s : Int32 × Int32 × zS} (hj : s.2.2.2.1 = L) : Pt (F_X12_each_24 N x0 x1 x2 again24 s) (fun r => r.2.2.1 = L) := by
  obtain ⟨x3, x4, σ⟩ := s
  rw [F_X12_each_24.eq_1]
  exact pj_a (fun _ => pt_zb (jf_X12_many hj) (fun _ _ h1 => pt_if (fun _ => pt_some h1) (fun _ => pj_a (fun _ => pt_zb (jf_X12_of h1) (fun _ _ h2 => pt_if (fun _ => (ihagain24 _ h2)) (fun _ => (ihagain24 _ h2)))))))
theorem jf_X12_each {x0 : Nat} {x1 : Int32} {x2 : Int32} {σ : zS}  (hj : σ.2.1 = L) : Pt (f_X12_each N x0 x1 x2 σ) (fun r => r.2.2.1 = L) := by
  rw [f_X12_each.eq_1]
  exact pj_a (fun _ => pt_zb (jf_X12_isRegister hj) (fun _ _ h1 => pt_if (fun _ => pt_some h1) (fun _ => pj_a (fun _ => pt_zb (jf_X12_isName h1) (fun _ _ h2 => pt_if (fun _ => pt_some h2) (fun _ => pt_lp (fun s => s.2.2.2.1 = L) (fun again s hI ih => jF_X12_each_24 ih hI) N _ h2))))))
theorem jF_X12_names_96 {x0 : Nat} {x1 : Int32} {x2 : Int32} {x3 : Int32} {x4 : Int32} {x6 : Int32} {again44 : (Int32 × Int32 × Int32 × Int32 × zS) → Option (Int32 × zS)} {again96 : (Int32 × Int32 × zS) → Option (Int32 × zS)} (ihagain44 : ∀ s : Int32 × Int32 × Int32 × Int32 × zS, s.2.2.2.2.2.1 = L → Pt (again44 s) (fun r => r.2.2.1 = L)) (ihagain96 : ∀ s : Int32 × Int32 × zS, s.2.2.2.1 = L → Pt (again96 s) (fun r => r.2.2.1 = L)) {s : Int32 × Int32 × zS} (hj : s.2.2.2.1 = L) : Pt (F_X12_names_96 N x0 x1 x2 x3 x4 x6 again44 again96 s) (fun r => r.2.2.1 = L) := by
  obtain ⟨x5, x7, σ⟩ := s
  rw [F_X12_names_96.eq_1]
  exact pj_a (fun _ => pj_a (fun _ => pt_if (fun _ => (ihagain44 _ hj)) (fun _ => pj_a (fun _ => pt_zb (jf_X12_of hj) (fun _ _ h1 => pj_a (fun _ => pt_zb (jf_X12_of h1) (fun _ _ h2 => pt_if (fun _ => (ihagain96 _ h2)) (fun _ => (ihagain96 _ h2)))))))))
theorem jJ_X12_names_90 {again44 : (Int32 × Int32 × Int32 × Int32 × zS) → Option (Int32 × zS)} {x0 : Nat} {x1 : Int32} {x2 : Int32} {x3 : Int32} {x5 : Int32} {x6 : Int32} {y0 : Int32} {y1 : Int32} {σ : zS} (ihagain44 : ∀ s : Int32 × Int32 × Int32 × Int32 × zS, s.2.2.2.2.2.1 = L → Pt (again44 s) (fun r => r.2.2.1 = L)) (hj : σ.2.1 = L) : Pt (J_X12_names_90 N again44 x0 x1 x2 x3 x5 x6 y0 y1 σ) (fun r => r.2.2.1 = L) := by
  rw [J_X12_names_90.eq_1]
  exact pt_lp (fun s => s.2.2.2.1 = L) (fun again s hI ih => jF_X12_names_96 ihagain44 ih hI) N _ hj
theorem jJ_X12_names_70 {again44 : (Int32 × Int32 × Int32 × Int32 × zS) → Option (Int32 × zS)} {x0 : Nat} {x1 : Int32} {x2 : Int32} {x4 : Int32} {x5 : Int32} {x6 : Int32} {y0 : Int32} {y1 : Int32} {σ : zS} (ihagain44 : ∀ s : Int32 × Int32 × Int32 × Int32 × zS, s.2.2.2.2.2.1 = L → Pt (again44 s) (fun r => r.2.2.1 = L)) (hj : σ.2.1 = L) : Pt (J_X12_names_70 N again44 x0 x1 x2 x4 x5 x6 y0 y1 σ) (fun r => r.2.2.1 = L) := by
  rw [J_X12_names_70.eq_1]
  exact pj_a (fun _ => pt_zb (jf_X12_of hj) (fun _ _ h1 => pt_if (fun _ => (jJ_X12_names_90 ihagain44 h1)) (fun _ => (jJ_X12_names_90 ihagain44 h1))))
theorem jF_X12_names_44 {x0 : Nat} {x1 : Int32} {x2 : Int32} {again44 : (Int32 × Int32 × Int32 × Int32 × zS) → Option (Int32 × zS)} (ihagain44 : ∀ s : Int32 × Int32 × Int32 × Int32 × zS, s.2.2.2.2.2.1 = L → Pt (again44 s) (fun r => r.2.2.1 = L)) {s : Int32 × Int32 × Int32 × Int32 × zS} (hj : s.2.2.2.2.2.1 = L) : Pt (F_X12_names_44 N x0 x1 x2 again44 s) (fun r => r.2.2.1 = L) := by
  obtain ⟨x3, x4, x5, x6, σ⟩ := s
  rw [F_X12_names_44.eq_1]
  exact pj_a (fun _ => pt_zb (jf_X12_many hj) (fun _ _ h1 => pt_if (fun _ => pt_if (fun _ => pt_some h1) (fun _ => pt_if (fun _ => pt_some h1) (fun _ => pt_some h1))) (fun _ => pj_a (fun _ => pt_zb (jf_X12_of h1) (fun _ _ h2 => pt_if (fun _ => (jJ_X12_names_70 ihagain44 h2)) (fun _ => (jJ_X12_names_70 ihagain44 h2)))))))
theorem jf_X12_names {x0 : Nat} {x1 : Int32} {x2 : Int32} {σ : zS}  (hj : σ.2.1 = L) : Pt (f_X12_names N x0 x1 x2 σ) (fun r => r.2.2.1 = L) := by
  rw [f_X12_names.eq_1]
  exact pj_a (fun _ => pt_zb (jf_X12_isRegister hj) (fun _ _ h1 => pt_if (fun _ => pt_some h1) (fun _ => pt_zb (jf_X12_in h1) (fun _ _ h2 => pt_if (fun _ => pt_some h2) (fun _ => pj_a (fun _ => pt_zb (jf_X12_many h2) (fun _ _ h3 => pj_a (fun _ => pt_zb (jf_X12_many h3) (fun _ _ h4 => pt_lp (fun s => s.2.2.2.2.2.1 = L) (fun again s hI ih => jF_X12_names_44 ih hI) N _ h4)))))))))
theorem jf_X12_draw {x0 : Nat} {x1 : Int32} {x2 : Int32} {σ : zS}  (hj : σ.2.1 = L) : Pt (f_X12_draw N x0 x1 x2 σ) (fun r => r.2.2.1 = L) := by
  rw [f_X12_draw.eq_1]
  exact pj_a (fun _ => pt_zb (jf_X12_isRegister hj) (fun _ _ h1 => pt_if (fun _ => pt_some h1) (fun _ => pt_zb (jf_X12_in h1) (fun _ _ h2 => pt_if (fun _ => pt_some h2) (fun _ => pj_a (fun _ => pt_zb (jf_X12_sizeOf h2) (fun _ _ h3 => pj_a (fun _ => pt_if (fun _ => pt_some h3) (fun _ => pj_a (fun _ => pj_a (fun _ => pj_a (fun _ => pt_zb (jf_X12_nthOf h3) (fun _ _ h4 => pt_some h4)))))))))))))
theorem jf_X12_areRegisters {x0 : Nat} {x1 : Int32} {x2 : Int32} {σ : zS}  (hj : σ.2.1 = L) : Pt (f_X12_areRegisters N x0 x1 x2 σ) (fun r => r.2.2.1 = L) := by
  rw [f_X12_areRegisters.eq_1]
  exact pj_a (fun _ => pt_zb (jf_X12_isRegister hj) (fun _ _ h1 => pt_if (fun _ => pt_rZ h1) (fun _ => pj_a (fun _ => pt_zb (jf_X12_isRegister h1) (fun _ _ h2 => pt_if (fun _ => pt_rZ h2) (fun _ => pt_rZ h2))))))
theorem jF_X12_differOf_2 {x0 : Nat} {x1 : Int32} {x2 : Int32} {again2 : (Int32 × zS) → Option (Int32 × zS)} (ihagain2 : ∀ s : Int32 × zS, s.2.2.1 = L → Pt (again2 s) (fun r => r.2.2.1 = L)) {s : Int32 × zS} (hj : s.2.2.1 = L) : Pt (F_X12_differOf_2 N x0 x1 x2 again2 s) (fun r => r.2.2.1 = L) := by
  obtain ⟨x3, σ⟩ := s
  rw [F_X12_differOf_2.eq_1]
  exact pj_a (fun _ => pt_zb (jf_X12_many hj) (fun _ _ h1 => pt_if (fun _ => pt_some h1) (fun _ => pj_a (fun _ => pt_zb (jf_X12_of h1) (fun _ _ h2 => pj_a (fun _ => pt_zb (jf_X12_of h2) (fun _ _ h3 => pt_if (fun _ => (ihagain2 _ h3)) (fun _ => pt_some h3))))))))
theorem jf_X12_differOf {x0 : Nat} {x1 : Int32} {x2 : Int32} {σ : zS}  (hj : σ.2.1 = L) : Pt (f_X12_differOf N x0 x1 x2 σ) (fun r => r.2.2.1 = L) := by
  rw [f_X12_differOf.eq_1]
  exact pt_lp (fun s => s.2.2.1 = L) (fun again s hI ih => jF_X12_differOf_2 ih hI) N _ hj
theorem jf_X12_alike {x0 : Nat} {x1 : Int32} {x2 : Int32} {σ : zS}  (hj : σ.2.1 = L) : Pt (f_X12_alike N x0 x1 x2 σ) (fun r => r.2.2.1 = L) := by
  rw [f_X12_alike.eq_1]
  exact pj_a (fun _ => pt_zb (jf_X12_areRegisters hj) (fun _ _ h1 => pt_if (fun _ => pt_some h1) (fun _ => pj_a (fun _ => pt_zb (jf_X12_differOf h1) (fun _ _ h2 => pt_if (fun _ => pt_some h2) (fun _ => pt_some h2))))))
theorem jf_X12_differ {x0 : Nat} {x1 : Int32} {x2 : Int32} {σ : zS}  (hj : σ.2.1 = L) : Pt (f_X12_differ N x0 x1 x2 σ) (fun r => r.2.2.1 = L) := by
  rw [f_X12_differ.eq_1]
  exact pj_a (fun _ => pt_zb (jf_X12_areRegisters hj) (fun _ _ h1 => pt_if (fun _ => pt_some h1) (fun _ => pj_a (fun _ => pt_zb (jf_X12_differOf h1) (fun _ _ h2 => pt_some h2)))))
theorem jF_X12_within_14 {x0 : Nat} {x1 : Int32} {x2 : Int32} {again14 : (Int32 × zS) → Option (Int32 × zS)} (ihagain14 : ∀ s : Int32 × zS, s.2.2.1 = L → Pt (again14 s) (fun r => r.2.2.1 = L)) {s : Int32 × zS} (hj : s.2.2.1 = L) : Pt (F_X12_within_14 N x0 x1 x2 again14 s) (fun r => r.2.2.1 = L) := by
  obtain ⟨x3, σ⟩ := s
  rw [F_X12_within_14.eq_1]
  exact pj_a (fun _ => pt_zb (jf_X12_many hj) (fun _ _ h1 => pt_if (fun _ => pt_some h1) (fun _ => pj_a (fun _ => pt_zb (jf_X12_of h1) (fun _ _ h2 => pt_if (fun _ => (ihagain14 _ h2)) (fun _ => pj_a (fun _ => pt_zb (jf_X12_of h2) (fun _ _ h3 => pt_if (fun _ => pt_some h3) (fun _ => (ihagain14 _ h3))))))))))
theorem jf_X12_within {x0 : Nat} {x1 : Int32} {x2 : Int32} {σ : zS}  (hj : σ.2.1 = L) : Pt (f_X12_within N x0 x1 x2 σ) (fun r => r.2.2.1 = L) := by
  rw [f_X12_within.eq_1]
  exact pj_a (fun _ => pt_zb (jf_X12_areRegisters hj) (fun _ _ h1 => pt_if (fun _ => pt_some h1) (fun _ => pt_lp (fun s => s.2.2.1 = L) (fun again s hI ih => jF_X12_within_14 ih hI) N _ h1)))
theorem jF_X12_isHits_24 {x0 : Nat} {x1 : Int32} {again24 : (Int32 × zS) → Option (Int32 × zS)} (ihagain24 : ∀ s : Int32 × zS, s.2.2.1 = L → Pt (again24 s) (fun r => r.2.2.1 = L)) {s : Int32 × zS} (hj : s.2.2.1 = L) : Pt (F_X12_isHits_24 N x0 x1 again24 s) (fun r => r.2.2.1 = L) := by
  obtain ⟨x3, σ⟩ := s
  rw [F_X12_isHits_24.eq_1]
  exact pj_a (fun _ => pt_if (fun _ => pt_rZ hj) (fun _ => pj_a (fun _ => pt_zb (jf_X12_of hj) (fun _ _ h1 => pj_a (fun _ => pj_a (fun _ => pt_if (fun _ => (ihagain24 _ h1)) (fun _ => pt_rZ h1)))))))
theorem jf_X12_isHits {x0 : Nat} {x1 : Int32} {x2 : Int32} {σ : zS}  (hj : σ.2.1 = L) : Pt (f_X12_isHits N x0 x1 x2 σ) (fun r => r.2.2.1 = L) := by
  rw [f_X12_isHits.eq_1]
  exact pj_a (fun _ => pt_zb (jf_X12_many hj) (fun _ _ h1 => pj_s (j_pI h1) (fun _ h2 => pj_a (fun _ => pj_a (fun _ => pt_zb (jf_X12_turns h2) (fun _ _ h3 => pt_lp (fun s => s.2.2.1 = L) (fun again s hI ih => jF_X12_isHits_24 ih hI) N _ h3))))))
theorem jf_X12_dual {x0 : Nat} {x1 : Int32} {x2 : Int32} {σ : zS}  (hj : σ.2.1 = L) : Pt (f_X12_dual N x0 x1 x2 σ) (fun r => r.2.2.1 = L) := by
  rw [f_X12_dual.eq_1]
  exact pj_a (fun _ => pt_zb (jf_X12_areRegisters hj) (fun _ _ h1 => pt_if (fun _ => pt_some h1) (fun _ => pj_a (fun _ => pt_zb (jf_X12_isHits h1) (fun _ _ h2 => pt_if (fun _ => pt_some h2) (fun _ => pj_a (fun _ => pt_zb (jf_X12_isHits h2) (fun _ _ h3 => pt_if (fun _ => pt_some h3) (fun _ => pt_some h3)))))))))
theorem jF_X12_apart_29 {x0 : Nat} {x1 : Int32} {x2 : Int32} {x4 : Int32} {again17 : (Int32 × Int32 × zS) → Option (Int32 × zS)} {again29 : (Int32 × Int32 × zS) → Option (Int32 × zS)} (ihagain17 : ∀ s : Int32 × Int32 × zS, s.2.2.2.1 = L → Pt (again17 s) (fun r => r.2.2.1 = L)) (ihagain29 : ∀ s : Int32 × Int32 × zS, s.2.2.2.1 = L → Pt (again29 s) (fun r => r.2.2.1 = L)) {s : Int32 × Int32 × zS} (hj : s.2.2.2.1 = L) : Pt (F_X12_apart_29 N x0 x1 x2 x4 again17 again29 s) (fun r => r.2.2.1 = L) := by
  obtain ⟨x3, x5, σ⟩ := s
  rw [F_X12_apart_29.eq_1]
  exact pj_a (fun _ => pt_zb (jf_X12_many hj) (fun _ _ h1 => pt_if (fun _ => (ihagain17 _ h1)) (fun _ => pj_a (fun _ => pt_zb (jf_X12_of h1) (fun _ _ h2 => pt_if (fun _ => (ihagain17 _ h2)) (fun _ => pj_a (fun _ => pt_zb (jf_X12_of h2) (fun _ _ h3 => pt_if (fun _ => (ihagain29 _ h3)) (fun _ => pt_if (fun _ => (ihagain29 _ h3)) (fun _ => (ihagain29 _ h3)))))))))))
theorem jF_X12_apart_17 {x0 : Nat} {x1 : Int32} {x2 : Int32} {again17 : (Int32 × Int32 × zS) → Option (Int32 × zS)} (ihagain17 : ∀ s : Int32 × Int32 × zS, s.2.2.2.1 = L → Pt (again17 s) (fun r => r.2.2.1 = L)) {s : Int32 × Int32 × zS} (hj : s.2.2.2.1 = L) : Pt (F_X12_apart_17 N x0 x1 x2 again17 s) (fun r => r.2.2.1 = L) := by
  obtain ⟨x3, x4, σ⟩ := s
  rw [F_X12_apart_17.eq_1]
  exact pj_a (fun _ => pt_zb (jf_X12_many hj) (fun _ _ h1 => pt_if (fun _ => pt_some h1) (fun _ => pt_lp (fun s => s.2.2.2.1 = L) (fun again s hI ih => jF_X12_apart_29 ihagain17 ih hI) N _ h1)))
theorem jf_X12_apart {x0 : Nat} {x1 : Int32} {x2 : Int32} {σ : zS}  (hj : σ.2.1 = L) : Pt (f_X12_apart N x0 x1 x2 σ) (fun r => r.2.2.1 = L) := by
  rw [f_X12_apart.eq_1]
  exact pj_a (fun _ => pt_zb (jf_X12_areRegisters hj) (fun _ _ h1 => pt_if (fun _ => pt_some h1) (fun _ => pt_lp (fun s => s.2.2.2.1 = L) (fun again s hI ih => jF_X12_apart_17 ih hI) N _ h1)))
theorem jJ_X12_packs_199 {again95 : (Int32 × Int32 × Int32 × zS) → Option (Int32 × zS)} {x0 : Nat} {x2 : Int32} {x3 : Int32} {x4 : Int32} {x6 : Int32} {x7 : Int32} {x9 : Int32} {x10 : Int32} {y0 : Int32} {σ : zS} (ihagain95 : ∀ s : Int32 × Int32 × Int32 × zS, s.2.2.2.2.1 = L → Pt (again95 s) (fun r => r.2.2.1 = L)) (hj : σ.2.1 = L) : Pt (J_X12_packs_199 N again95 x0 x2 x3 x4 x6 x7 x9 x10 y0 σ) (fun r => r.2.2.1 = L) := by
  rw [J_X12_packs_199.eq_1]
  exact pt_if (fun _ => (ihagain95 _ hj)) (fun _ => (ihagain95 _ hj))
theorem jF_X12_packs_115 {x0 : Nat} {x2 : Int32} {x3 : Int32} {x4 : Int32} {x5 : Int32} {x6 : Int32} {x7 : Int32} {again95 : (Int32 × Int32 × Int32 × zS) → Option (Int32 × zS)} {again115 : (Int32 × Int32 × Int32 × Int32 × zS) → Option (Int32 × zS)} (ihagain95 : ∀ s : Int32 × Int32 × Int32 × zS, s.2.2.2.2.1 = L → Pt (again95 s) (fun r => r.2.2.1 = L)) (ihagain115 : ∀ s : Int32 × Int32 × Int32 × Int32 × zS, s.2.2.2.2.2.1 = L → Pt (again115 s) (fun r => r.2.2.1 = L)) {s : Int32 × Int32 × Int32 × Int32 × zS} (hj : s.2.2.2.2.2.1 = L) : Pt (F_X12_packs_115 N x0 x2 x3 x4 x5 x6 x7 again95 again115 s) (fun r => r.2.2.1 = L) := by
  obtain ⟨x8, x9, x10, x11, σ⟩ := s
  rw [F_X12_packs_115.eq_1]
  exact pt_if (fun _ => pt_if (fun _ => (jJ_X12_packs_199 ihagain95 hj)) (fun _ => (jJ_X12_packs_199 ihagain95 hj))) (fun _ => pt_if (fun _ => (ihagain115 _ hj)) (fun _ => pt_if (fun _ => pj_a (fun _ => pj_a (fun _ => (ihagain115 _ hj)))) (fun _ => pj_a (fun _ => pj_a (fun _ => pt_if (fun _ => pj_a (fun _ => pj_a (fun _ => (ihagain115 _ hj)))) (fun _ => pj_a (fun _ => pj_a (fun _ => (ihagain115 _ hj)))))))))
theorem jF_X12_packs_95 {x0 : Nat} {x2 : Int32} {x3 : Int32} {x4 : Int32} {again95 : (Int32 × Int32 × Int32 × zS) → Option (Int32 × zS)} (ihagain95 : ∀ s : Int32 × Int32 × Int32 × zS, s.2.2.2.2.1 = L → Pt (again95 s) (fun r => r.2.2.1 = L)) {s : Int32 × Int32 × Int32 × zS} (hj : s.2.2.2.2.1 = L) : Pt (F_X12_packs_95 N x0 x2 x3 x4 again95 s) (fun r => r.2.2.1 = L) := by
  obtain ⟨x5, x6, x7, σ⟩ := s
  rw [F_X12_packs_95.eq_1]
  exact pt_if (fun _ => pt_if (fun _ => pt_some hj) (fun _ => pt_some hj)) (fun _ => pt_lp (fun s => s.2.2.2.2.2.1 = L) (fun again s hI ih => jF_X12_packs_115 ihagain95 ih hI) N _ hj)
theorem jF_X12_packs_48 {x0 : Nat} {x1 : Int32} {x2 : Int32} {x3 : Int32} {again48 : (Int32 × Int32 × zS) → Option (Int32 × zS)} (ihagain48 : ∀ s : Int32 × Int32 × zS, s.2.2.2.1 = L → Pt (again48 s) (fun r => r.2.2.1 = L)) {s : Int32 × Int32 × zS} (hj : s.2.2.2.1 = L) : Pt (F_X12_packs_48 N x0 x1 x2 x3 again48 s) (fun r => r.2.2.1 = L) := by
  obtain ⟨x4, x5, σ⟩ := s
  rw [F_X12_packs_48.eq_1]
  exact pt_if (fun _ => pt_lp (fun s => s.2.2.2.2.1 = L) (fun again s hI ih => jF_X12_packs_95 ih hI) N _ hj) (fun _ => pj_a (fun _ => pj_a (fun _ => pt_zb (jf_X12_nthOf hj) (fun _ _ h1 => pj_s (j_sI h1) (fun _ h2 => pj_a (fun _ => pj_a (fun _ => (ihagain48 _ h2))))))))
theorem jf_X12_packs {x0 : Nat} {x1 : Int32} {x2 : Int32} {σ : zS}  (hj : σ.2.1 = L) : Pt (f_X12_packs N x0 x1 x2 σ) (fun r => r.2.2.1 = L) := by
  rw [f_X12_packs.eq_1]
  exact pj_a (fun _ => pt_zb (jf_X12_isRegister hj) (fun _ _ h1 => pt_if (fun _ => pt_some h1) (fun _ => pt_zb (jf_X12_in h1) (fun _ _ h2 => pt_if (fun _ => pt_some h2) (fun _ => pj_a (fun _ => pt_zb (jf_X12_sizeOf h2) (fun _ _ h3 => pt_if (fun _ => pt_some h3) (fun _ => pt_if (fun _ => pt_lp (fun s => s.2.2.2.1 = L) (fun again s hI ih => jF_X12_packs_48 ih hI) N _ h3) (fun _ => pt_some h3)))))))))
theorem jF_X12_takesOrder_2 {x0 : Nat} {again2 : (Int32 × zS) → Option (Unit × zS)} (ihagain2 : ∀ s : Int32 × zS, s.2.2.1 = L → Pt (again2 s) (fun r => r.2.2.1 = L)) {s : Int32 × zS} (hj : s.2.2.1 = L) : Pt (F_X12_takesOrder_2 N x0 again2 s) (fun r => r.2.2.1 = L) := by
  obtain ⟨x1, σ⟩ := s
  rw [F_X12_takesOrder_2.eq_1]
  exact pt_if (fun _ => pt_some hj) (fun _ => pj_a (fun _ => pj_a (fun _ => pj_a (fun _ => pj_s (j_sI hj) (fun _ h1 => (ihagain2 _ h1))))))
theorem jf_X12_takesOrder {x0 : Nat} {σ : zS}  (hj : σ.2.1 = L) : Pt (f_X12_takesOrder N x0 σ) (fun r => r.2.2.1 = L) := by
  rw [f_X12_takesOrder.eq_1]
  exact pt_lp (fun s => s.2.2.1 = L) (fun again s hI ih => jF_X12_takesOrder_2 ih hI) N _ hj
theorem jF_X12_spotOf_4 {x0 : Nat} {x1 : Int32} {again4 : (Int32 × Int32 × zS) → Option (Int32 × zS)} (ihagain4 : ∀ s : Int32 × Int32 × zS, s.2.2.2.1 = L → Pt (again4 s) (fun r => r.2.2.1 = L)) {s : Int32 × Int32 × zS} (hj : s.2.2.2.1 = L) : Pt (F_X12_spotOf_4 N x0 x1 again4 s) (fun r => r.2.2.1 = L) := by
  obtain ⟨x2, x3, σ⟩ := s
  rw [F_X12_spotOf_4.eq_1]
  exact pj_a (fun _ => pj_a (fun _ => pt_if (fun _ => pt_some hj) (fun _ => pj_a (fun _ => pj_a (fun _ => (ihagain4 _ hj))))))
theorem jf_X12_spotOf {x0 : Nat} {x1 : Int32} {σ : zS}  (hj : σ.2.1 = L) : Pt (f_X12_spotOf N x0 x1 σ) (fun r => r.2.2.1 = L) := by
  rw [f_X12_spotOf.eq_1]
  exact pt_lp (fun s => s.2.2.2.1 = L) (fun again s hI ih => jF_X12_spotOf_4 ih hI) N _ hj
theorem jF_X12_laysOut_2 {x0 : Nat} {x1 : Int32} {again2 : (Int32 × zS) → Option (Unit × zS)} (ihagain2 : ∀ s : Int32 × zS, s.2.2.1 = L → Pt (again2 s) (fun r => r.2.2.1 = L)) {s : Int32 × zS} (hj : s.2.2.1 = L) : Pt (F_X12_laysOut_2 N x0 x1 again2 s) (fun r => r.2.2.1 = L) := by
  obtain ⟨x2, σ⟩ := s
  rw [F_X12_laysOut_2.eq_1]
  exact pj_a (fun _ => pt_zb (jf_X12_many hj) (fun _ _ h1 => pt_if (fun _ => pt_some h1) (fun _ => pj_a (fun _ => pj_a (fun _ => pt_zb (jf_X12_spotOf h1) (fun _ _ h2 => pj_a (fun _ => pt_zb (jf_X12_of h2) (fun _ _ h3 => pj_s (j_sI h3) (fun _ h4 => (ihagain2 _ h4))))))))))
theorem jf_X12_laysOut {x0 : Nat} {x1 : Int32} {σ : zS}  (hj : σ.2.1 = L) : Pt (f_X12_laysOut N x0 x1 σ) (fun r => r.2.2.1 = L) := by
  rw [f_X12_laysOut.eq_1]
  exact pt_lp (fun s => s.2.2.1 = L) (fun again s hI ih => jF_X12_laysOut_2 ih hI) N _ hj
theorem jJ_X12_isKnown_63 {again2 : (Int32 × zS) → Option (Int32 × zS)} {x0 : Nat} {x1 : Int32} {x2 : Int32} {x3 : Int32} {x4 : Int32} {σ : zS} (ihagain2 : ∀ s : Int32 × zS, s.2.2.1 = L → Pt (again2 s) (fun r => r.2.2.1 = L)) (hj : σ.2.1 = L) : Pt (J_X12_isKnown_63 N again2 x0 x1 x2 x3 x4 σ) (fun r => r.2.2.1 = L) := by
  rw [J_X12_isKnown_63.eq_1]
  exact pt_if (fun _ => (ihagain2 _ hj)) (fun _ => pt_rZ hj)
theorem jF_X12_isKnown_16 {x0 : Nat} {x1 : Int32} {x2 : Int32} {x3 : Int32} {again2 : (Int32 × zS) → Option (Int32 × zS)} {again16 : (Int32 × Int32 × zS) → Option (Int32 × zS)} (ihagain2 : ∀ s : Int32 × zS, s.2.2.1 = L → Pt (again2 s) (fun r => r.2.2.1 = L)) (ihagain16 : ∀ s : Int32 × Int32 × zS, s.2.2.2.1 = L → Pt (again16 s) (fun r => r.2.2.1 = L)) {s : Int32 × Int32 × zS} (hj : s.2.2.2.1 = L) : Pt (F_X12_isKnown_16 N x0 x1 x2 x3 again2 again16 s) (fun r => r.2.2.1 = L) := by
  obtain ⟨x4, x5, σ⟩ := s
  rw [F_X12_isKnown_16.eq_1]
  exact pt_if (fun _ => (jJ_X12_isKnown_63 ihagain2 hj)) (fun _ => pt_if (fun _ => (jJ_X12_isKnown_63 ihagain2 hj)) (fun _ => pj_a (fun _ => pj_a (fun _ => pj_a (fun _ => pj_a (fun _ => pt_if (fun _ => (ihagain16 _ hj)) (fun _ => (ihagain16 _ hj))))))))
theorem jF_X12_isKnown_2 {x0 : Nat} {x1 : Int32} {x2 : Int32} {again2 : (Int32 × zS) → Option (Int32 × zS)} (ihagain2 : ∀ s : Int32 × zS, s.2.2.1 = L → Pt (again2 s) (fun r => r.2.2.1 = L)) {s : Int32 × zS} (hj : s.2.2.1 = L) : Pt (F_X12_isKnown_2 N x0 x1 x2 again2 s) (fun r => r.2.2.1 = L) := by
  obtain ⟨x3, σ⟩ := s
  rw [F_X12_isKnown_2.eq_1]
  exact pj_a (fun _ => pt_if (fun _ => pt_rZ hj) (fun _ => pt_lp (fun s => s.2.2.2.1 = L) (fun again s hI ih => jF_X12_isKnown_16 ihagain2 ih hI) N _ hj))
theorem jf_X12_isKnown {x0 : Nat} {x1 : Int32} {x2 : Int32} {σ : zS}  (hj : σ.2.1 = L) : Pt (f_X12_isKnown N x0 x1 x2 σ) (fun r => r.2.2.1 = L) := by
  rw [f_X12_isKnown.eq_1]
  exact pt_lp (fun s => s.2.2.1 = L) (fun again s hI ih => jF_X12_isKnown_2 ih hI) N _ hj
theorem jF_X12_adds_73 {x0 : Nat} {x2 : Int32} {x3 : Int32} {again9 : (Int32 × zS) → Option (Unit × zS)} {again73 : (Int32 × zS) → Option (Unit × zS)} (ihagain9 : ∀ s : Int32 × zS, s.2.2.1 = L → Pt (again9 s) (fun r => r.2.2.1 = L)) (ihagain73 : ∀ s : Int32 × zS, s.2.2.1 = L → Pt (again73 s) (fun r => r.2.2.1 = L)) {s : Int32 × zS} (hj : s.2.2.1 = L) : Pt (F_X12_adds_73 N x0 x2 x3 again9 again73 s) (fun r => r.2.2.1 = L) := by
  obtain ⟨x5, σ⟩ := s
  rw [F_X12_adds_73.eq_1]
  exact pt_if (fun _ => pj_a (fun _ => pj_s (j_pI hj) (fun _ h1 => (ihagain9 _ h1)))) (fun _ => pj_a (fun _ => pj_a (fun _ => pj_a (fun _ => pj_a (fun _ => pj_s (j_sI hj) (fun _ h2 => (ihagain73 _ h2)))))))
theorem jJ_X12_adds_53 {again9 : (Int32 × zS) → Option (Unit × zS)} {x0 : Nat} {x2 : Int32} {x3 : Int32} {x4 : Int32} {σ : zS} (ihagain9 : ∀ s : Int32 × zS, s.2.2.1 = L → Pt (again9 s) (fun r => r.2.2.1 = L)) (hj : σ.2.1 = L) : Pt (J_X12_adds_53 N again9 x0 x2 x3 x4 σ) (fun r => r.2.2.1 = L) := by
  rw [J_X12_adds_53.eq_1]
  exact pt_if (fun _ => (ihagain9 _ hj)) (fun _ => pj_a (fun _ => pt_zb (jf_X12_isKnown hj) (fun _ _ h1 => pt_if (fun _ => pt_lp (fun s => s.2.2.1 = L) (fun again s hI ih => jF_X12_adds_73 ihagain9 ih hI) N _ h1) (fun _ => (ihagain9 _ h1)))))
theorem jF_X12_adds_25 {x0 : Nat} {x2 : Int32} {x3 : Int32} {again9 : (Int32 × zS) → Option (Unit × zS)} {again25 : (Int32 × Int32 × zS) → Option (Unit × zS)} (ihagain9 : ∀ s : Int32 × zS, s.2.2.1 = L → Pt (again9 s) (fun r => r.2.2.1 = L)) (ihagain25 : ∀ s : Int32 × Int32 × zS, s.2.2.2.1 = L → Pt (again25 s) (fun r => r.2.2.1 = L)) {s : Int32 × Int32 × zS} (hj : s.2.2.2.1 = L) : Pt (F_X12_adds_25 N x0 x2 x3 again9 again25 s) (fun r => r.2.2.1 = L) := by
  obtain ⟨x4, x5, σ⟩ := s
  rw [F_X12_adds_25.eq_1]
  exact pt_if (fun _ => (jJ_X12_adds_53 ihagain9 hj)) (fun _ => pt_if (fun _ => pj_a (fun _ => pj_a (fun _ => (ihagain25 _ hj)))) (fun _ => (jJ_X12_adds_53 ihagain9 hj)))
theorem jF_X12_adds_9 {x0 : Nat} {x2 : Int32} {again9 : (Int32 × zS) → Option (Unit × zS)} (ihagain9 : ∀ s : Int32 × zS, s.2.2.1 = L → Pt (again9 s) (fun r => r.2.2.1 = L)) {s : Int32 × zS} (hj : s.2.2.1 = L) : Pt (F_X12_adds_9 N x0 x2 again9 s) (fun r => r.2.2.1 = L) := by
  obtain ⟨x3, σ⟩ := s
  rw [F_X12_adds_9.eq_1]
  exact pj_a (fun _ => pt_zb (jf_X12_many hj) (fun _ _ h1 => pt_if (fun _ => pt_some h1) (fun _ => pj_a (fun _ => pt_lp (fun s => s.2.2.2.1 = L) (fun again s hI ih => jF_X12_adds_25 ihagain9 ih hI) N _ h1))))
theorem jf_X12_adds {x0 : Nat} {x1 : Int32} {σ : zS}  (hj : σ.2.1 = L) : Pt (f_X12_adds N x0 x1 σ) (fun r => r.2.2.1 = L) := by
  rw [f_X12_adds.eq_1]
  exact pj_a (fun _ => pt_zb (jf_X12_many hj) (fun _ _ h1 => pt_lp (fun s => s.2.2.1 = L) (fun again s hI ih => jF_X12_adds_9 ih hI) N _ h1))
theorem jf_X12_wideOf {x0 : Nat} {x1 : Int32} {x2 : Int32} {σ : zS}  (hj : σ.2.1 = L) : Pt (f_X12_wideOf N x0 x1 x2 σ) (fun r => r.2.2.1 = L) := by
  rw [f_X12_wideOf.eq_1]
  exact pj_a (fun _ => pt_zb (jf_X12_laysOut hj) (fun _ _ h1 => pj_s (j_pI h1) (fun _ h2 => pj_a (fun _ => pt_zb (jf_X12_adds h2) (fun _ _ h3 => pj_a (fun _ => pt_some h3))))))
theorem jF_X12_nodesOf_4 {x0 : Nat} {x1 : Int32} {again4 : (Int32 × Int32 × zS) → Option (Int32 × zS)} (ihagain4 : ∀ s : Int32 × Int32 × zS, s.2.2.2.1 = L → Pt (again4 s) (fun r => r.2.2.1 = L)) {s : Int32 × Int32 × zS} (hj : s.2.2.2.1 = L) : Pt (F_X12_nodesOf_4 N x0 x1 again4 s) (fun r => r.2.2.1 = L) := by
  obtain ⟨x2, x3, σ⟩ := s
  rw [F_X12_nodesOf_4.eq_1]
  exact pj_a (fun _ => pj_a (fun _ => pt_if (fun _ => pt_some hj) (fun _ => pj_a (fun _ => pt_zb (jf_X12_wideOf hj) (fun _ _ h1 => (ihagain4 _ h1))))))
theorem jf_X12_nodesOf {x0 : Nat} {x1 : Int32} {σ : zS}  (hj : σ.2.1 = L) : Pt (f_X12_nodesOf N x0 x1 σ) (fun r => r.2.2.1 = L) := by
  rw [f_X12_nodesOf.eq_1]
  exact pt_lp (fun s => s.2.2.2.1 = L) (fun again s hI ih => jF_X12_nodesOf_4 ih hI) N _ hj
theorem jf_X12_nodes {x0 : Nat} {x1 : Int32} {σ : zS}  (hj : σ.2.1 = L) : Pt (f_X12_nodes N x0 x1 σ) (fun r => r.2.2.1 = L) := by
  rw [f_X12_nodes.eq_1]
  exact pj_a (fun _ => pt_zb (jf_X12_isRegister hj) (fun _ _ h1 => pt_if (fun _ => pt_some h1) (fun _ => pj_a (fun _ => pt_zb (jf_X12_takesOrder h1) (fun _ _ h2 => pj_a (fun _ => pt_zb (jf_X12_nodesOf h2) (fun _ _ h3 => pt_some h3)))))))
theorem jF_X12_netOf_25 {x0 : Nat} {x1 : Int32} {x2 : Int32} {again8 : (Int32 × Int32 × zS) → Option (Int32 × zS)} {again25 : (Int32 × zS) → Option (Int32 × zS)} (ihagain8 : ∀ s : Int32 × Int32 × zS, s.2.2.2.1 = L → Pt (again8 s) (fun r => r.2.2.1 = L)) (ihagain25 : ∀ s : Int32 × zS, s.2.2.1 = L → Pt (again25 s) (fun r => r.2.2.1 = L)) {s : Int32 × zS} (hj : s.2.2.1 = L) : Pt (F_X12_netOf_25 N x0 x1 x2 again8 again25 s) (fun r => r.2.2.1 = L) := by
  obtain ⟨x3, σ⟩ := s
  rw [F_X12_netOf_25.eq_1]
  exact pt_if (fun _ => pj_a (fun _ => (ihagain8 _ hj))) (fun _ => pj_a (fun _ => pt_zb (jf_X12_laysOut hj) (fun _ _ h1 => pj_a (fun _ => pt_zb (jf_X12_adds h1) (fun _ _ h2 => (ihagain25 _ h2))))))
theorem jF_X12_netOf_8 {x0 : Nat} {again8 : (Int32 × Int32 × zS) → Option (Int32 × zS)} (ihagain8 : ∀ s : Int32 × Int32 × zS, s.2.2.2.1 = L → Pt (again8 s) (fun r => r.2.2.1 = L)) {s : Int32 × Int32 × zS} (hj : s.2.2.2.1 = L) : Pt (F_X12_netOf_8 N x0 again8 s) (fun r => r.2.2.1 = L) := by
  obtain ⟨x1, x2, σ⟩ := s
  rw [F_X12_netOf_8.eq_1]
  exact pj_a (fun _ => pj_a (fun _ => pt_if (fun _ => pt_some hj) (fun _ => pj_s (j_pI hj) (fun _ h1 => pt_lp (fun s => s.2.2.1 = L) (fun again s hI ih => jF_X12_netOf_25 ihagain8 ih hI) N _ h1))))
theorem jf_X12_netOf {x0 : Nat} {σ : zS}  (hj : σ.2.1 = L) : Pt (f_X12_netOf N x0 σ) (fun r => r.2.2.1 = L) := by
  rw [f_X12_netOf.eq_1]
  exact pj_a (fun _ => pt_zb (jf_X12_takesOrder hj) (fun _ _ h1 => pt_lp (fun s => s.2.2.2.1 = L) (fun again s hI ih => jF_X12_netOf_8 ih hI) N _ h1))
theorem jf_X12_net {x0 : Nat} {σ : zS}  (hj : σ.2.1 = L) : Pt (f_X12_net N x0 σ) (fun r => r.2.2.1 = L) := by
  rw [f_X12_net.eq_1]
  exact pj_a (fun _ => pt_zb (jf_X12_isWorld hj) (fun _ _ h1 => pt_if (fun _ => pt_some h1) (fun _ => pj_a (fun _ => pt_zb (jf_X12_netOf h1) (fun _ _ h2 => pt_some h2)))))
theorem jf_X12_wide {x0 : Nat} {x1 : Int32} {x2 : Int32} {σ : zS}  (hj : σ.2.1 = L) : Pt (f_X12_wide N x0 x1 x2 σ) (fun r => r.2.2.1 = L) := by
  rw [f_X12_wide.eq_1]
  exact pj_a (fun _ => pt_zb (jf_X12_isRegister hj) (fun _ _ h1 => pt_if (fun _ => pt_some h1) (fun _ => pj_a (fun _ => pt_zb (jf_X12_isName h1) (fun _ _ h2 => pt_if (fun _ => pt_some h2) (fun _ => pj_a (fun _ => pt_zb (jf_X12_takesOrder h2) (fun _ _ h3 => pj_a (fun _ => pt_zb (jf_X12_wideOf h3) (fun _ _ h4 => pt_some h4))))))))))
theorem jf_X12_order {x0 : Nat} {x1 : Int32} {σ : zS}  (hj : σ.2.1 = L) : Pt (f_X12_order N x0 x1 σ) (fun r => r.2.2.1 = L) := by
  rw [f_X12_order.eq_1]
  exact pj_a (fun _ => pt_zb (jf_X12_isName hj) (fun _ _ h1 => pt_if (fun _ => pt_some h1) (fun _ => pj_a (fun _ => pj_a (fun _ => pt_some h1)))))
theorem jf_X12_swap {x0 : Nat} {x1 : Int32} {σ : zS}  (hj : σ.2.1 = L) : Pt (f_X12_swap N x0 x1 σ) (fun r => r.2.2.1 = L) := by
  rw [f_X12_swap.eq_1]
  exact pj_a (fun _ => pt_zb (jf_X12_isName hj) (fun _ _ h1 => pt_if (fun _ => pt_some h1) (fun _ => pj_a (fun _ => pt_zb (jf_X12_isName h1) (fun _ _ h2 => pt_if (fun _ => pt_some h2) (fun _ => pj_a (fun _ => pj_a (fun _ => pj_a (fun _ => pj_a (fun _ => pj_a (fun _ => pj_s (j_sI h2) (fun _ h3 => pj_a (fun _ => pj_s (j_sI h3) (fun _ h4 => pj_a (fun _ => pt_zb (jf_X12_netOf h4) (fun _ _ h5 => pt_some h5))))))))))))))))
theorem jF_X12_placeOf_2 {x0 : Nat} {x1 : Int32} {again2 : (Int32 × zS) → Option (Int32 × zS)} (ihagain2 : ∀ s : Int32 × zS, s.2.2.1 = L → Pt (again2 s) (fun r => r.2.2.1 = L)) {s : Int32 × zS} (hj : s.2.2.1 = L) : Pt (F_X12_placeOf_2 N x0 x1 again2 s) (fun r => r.2.2.1 = L) := by
  obtain ⟨x2, σ⟩ := s
  rw [F_X12_placeOf_2.eq_1]
  exact pj_a (fun _ => pj_a (fun _ => pt_if (fun _ => pt_some hj) (fun _ => (ihagain2 _ hj))))
theorem jf_X12_placeOf {x0 : Nat} {x1 : Int32} {σ : zS}  (hj : σ.2.1 = L) : Pt (f_X12_placeOf N x0 x1 σ) (fun r => r.2.2.1 = L) := by
  rw [f_X12_placeOf.eq_1]
  exact pt_lp (fun s => s.2.2.1 = L) (fun again s hI ih => jF_X12_placeOf_2 ih hI) N _ hj
theorem jF_X12_goesTo_37 {x0 : Nat} {x1 : Int32} {x2 : Int32} {again37 : (Int32 × zS) → Option (Unit × zS)} (ihagain37 : ∀ s : Int32 × zS, s.2.2.1 = L → Pt (again37 s) (fun r => r.2.2.1 = L)) {s : Int32 × zS} (hj : s.2.2.1 = L) : Pt (F_X12_goesTo_37 N x0 x1 x2 again37 s) (fun r => r.2.2.1 = L) := by
  obtain ⟨x3, σ⟩ := s
  rw [F_X12_goesTo_37.eq_1]
  exact pt_if (fun _ => pj_a (fun _ => pj_s (j_sI hj) (fun _ h1 => pt_some h1))) (fun _ => pj_a (fun _ => pj_a (fun _ => pj_a (fun _ => pj_s (j_sI hj) (fun _ h2 => (ihagain37 _ h2))))))
theorem jF_X12_goesTo_6 {x0 : Nat} {x1 : Int32} {x2 : Int32} {again6 : (Int32 × zS) → Option (Unit × zS)} (ihagain6 : ∀ s : Int32 × zS, s.2.2.1 = L → Pt (again6 s) (fun r => r.2.2.1 = L)) {s : Int32 × zS} (hj : s.2.2.1 = L) : Pt (F_X12_goesTo_6 N x0 x1 x2 again6 s) (fun r => r.2.2.1 = L) := by
  obtain ⟨x3, σ⟩ := s
  rw [F_X12_goesTo_6.eq_1]
  exact pt_if (fun _ => pt_lp (fun s => s.2.2.1 = L) (fun again s hI ih => jF_X12_goesTo_37 ih hI) N _ hj) (fun _ => pj_a (fun _ => pj_a (fun _ => pj_a (fun _ => pj_s (j_sI hj) (fun _ h1 => (ihagain6 _ h1))))))
theorem jf_X12_goesTo {x0 : Nat} {x1 : Int32} {x2 : Int32} {σ : zS}  (hj : σ.2.1 = L) : Pt (f_X12_goesTo N x0 x1 x2 σ) (fun r => r.2.2.1 = L) := by
  rw [f_X12_goesTo.eq_1]
  exact pj_a (fun _ => pt_zb (jf_X12_placeOf hj) (fun _ _ h1 => pt_lp (fun s => s.2.2.1 = L) (fun again s hI ih => jF_X12_goesTo_6 ih hI) N _ h1))
theorem jf_X12_move {x0 : Nat} {x1 : Int32} {x2 : Int32} {σ : zS}  (hj : σ.2.1 = L) : Pt (f_X12_move N x0 x1 x2 σ) (fun r => r.2.2.1 = L) := by
  rw [f_X12_move.eq_1]
  exact pj_a (fun _ => pt_zb (jf_X12_isName hj) (fun _ _ h1 => pt_if (fun _ => pt_some h1) (fun _ => pj_a (fun _ => pt_zb (jf_X12_isName h1) (fun _ _ h2 => pt_if (fun _ => pt_some h2) (fun _ => pj_a (fun _ => pt_zb (jf_X12_placeOf h2) (fun _ _ h3 => pj_a (fun _ => pt_zb (jf_X12_goesTo h3) (fun _ _ h4 => pt_some h4))))))))))
theorem jf_X12_trades {x0 : Nat} {x1 : Int32} {x2 : Int32} {σ : zS}  (hj : σ.2.1 = L) : Pt (f_X12_trades N x0 x1 x2 σ) (fun r => r.2.2.1 = L) := by
  rw [f_X12_trades.eq_1]
  exact pj_a (fun _ => pj_a (fun _ => pj_a (fun _ => pj_a (fun _ => pj_a (fun _ => pj_s (j_sI hj) (fun _ h1 => pj_a (fun _ => pj_s (j_sI h1) (fun _ h2 => pt_some h2))))))))
theorem jF_X12_nextOrder_78 {x0 : Nat} {again78 : (Int32 × Int32 × zS) → Option (Int32 × zS)} (ihagain78 : ∀ s : Int32 × Int32 × zS, s.2.2.2.1 = L → Pt (again78 s) (fun r => r.2.2.1 = L)) {s : Int32 × Int32 × zS} (hj : s.2.2.2.1 = L) : Pt (F_X12_nextOrder_78 N x0 again78 s) (fun r => r.2.2.1 = L) := by
  obtain ⟨x4, x5, σ⟩ := s
  rw [F_X12_nextOrder_78.eq_1]
  exact pt_if (fun _ => pt_rZ hj) (fun _ => pj_a (fun _ => pt_zb (jf_X12_trades hj) (fun _ _ h1 => (ihagain78 _ h1))))
theorem jF_X12_nextOrder_41 {x0 : Nat} {x1 : Int32} {x2 : Int32} {again41 : (Int32 × zS) → Option (Int32 × zS)} (ihagain41 : ∀ s : Int32 × zS, s.2.2.1 = L → Pt (again41 s) (fun r => r.2.2.1 = L)) {s : Int32 × zS} (hj : s.2.2.1 = L) : Pt (F_X12_nextOrder_41 N x0 x1 x2 again41 s) (fun r => r.2.2.1 = L) := by
  obtain ⟨x3, σ⟩ := s
  rw [F_X12_nextOrder_41.eq_1]
  exact pj_a (fun _ => pj_a (fun _ => pj_a (fun _ => pj_a (fun _ => pt_if (fun _ => pj_a (fun _ => pt_zb (jf_X12_trades hj) (fun _ _ h1 => pt_lp (fun s => s.2.2.2.1 = L) (fun again s hI ih => jF_X12_nextOrder_78 ih hI) N _ h1))) (fun _ => (ihagain41 _ hj))))))
theorem jJ_X12_nextOrder_31 {x0 : Nat} {x1 : Int32} {x2 : Int32} {σ : zS}  (hj : σ.2.1 = L) : Pt (J_X12_nextOrder_31 N x0 x1 x2 σ) (fun r => r.2.2.1 = L) := by
  rw [J_X12_nextOrder_31.eq_1]
  exact pt_if (fun _ => pt_lp (fun s => s.2.2.1 = L) (fun again s hI ih => jF_X12_nextOrder_41 ih hI) N _ hj) (fun _ => pt_rZ hj)
theorem jF_X12_nextOrder_4 {x0 : Nat} {x1 : Int32} {again4 : (Int32 × zS) → Option (Int32 × zS)} (ihagain4 : ∀ s : Int32 × zS, s.2.2.1 = L → Pt (again4 s) (fun r => r.2.2.1 = L)) {s : Int32 × zS} (hj : s.2.2.1 = L) : Pt (F_X12_nextOrder_4 N x0 x1 again4 s) (fun r => r.2.2.1 = L) := by
  obtain ⟨x2, σ⟩ := s
  rw [F_X12_nextOrder_4.eq_1]
  exact pt_if (fun _ => (jJ_X12_nextOrder_31 hj)) (fun _ => pj_a (fun _ => pj_a (fun _ => pj_a (fun _ => pj_a (fun _ => pt_if (fun _ => (jJ_X12_nextOrder_31 hj)) (fun _ => (ihagain4 _ hj)))))))
theorem jf_X12_nextOrder {x0 : Nat} {x1 : Int32} {σ : zS}  (hj : σ.2.1 = L) : Pt (f_X12_nextOrder N x0 x1 σ) (fun r => r.2.2.1 = L) := by
  rw [f_X12_nextOrder.eq_1]
  exact pt_lp (fun s => s.2.2.1 = L) (fun again s hI ih => jF_X12_nextOrder_4 ih hI) N _ hj
theorem jF_X12_findsBest_53 {x0 : Nat} {x1 : Int32} {x2 : Int32} {again25 : (Int32 × Int32 × zS) → Option (Int32 × zS)} {again53 : (Int32 × zS) → Option (Int32 × zS)} (ihagain25 : ∀ s : Int32 × Int32 × zS, s.2.2.2.1 = L → Pt (again25 s) (fun r => r.2.2.1 = L)) (ihagain53 : ∀ s : Int32 × zS, s.2.2.1 = L → Pt (again53 s) (fun r => r.2.2.1 = L)) {s : Int32 × zS} (hj : s.2.2.1 = L) : Pt (F_X12_findsBest_53 N x0 x1 x2 again25 again53 s) (fun r => r.2.2.1 = L) := by
  obtain ⟨x5, σ⟩ := s
  rw [F_X12_findsBest_53.eq_1]
  exact pt_if (fun _ => pj_a (fun _ => pj_a (fun _ => pj_a (fun _ => pt_zb (jf_X12_nextOrder hj) (fun _ _ h1 => (ihagain25 _ h1)))))) (fun _ => pj_a (fun _ => pj_a (fun _ => pj_a (fun _ => pj_s (j_sI hj) (fun _ h2 => (ihagain53 _ h2))))))
theorem jJ_X12_findsBest_47 {again25 : (Int32 × Int32 × zS) → Option (Int32 × zS)} {x0 : Nat} {x1 : Int32} {x4 : Int32} {σ : zS} (ihagain25 : ∀ s : Int32 × Int32 × zS, s.2.2.2.1 = L → Pt (again25 s) (fun r => r.2.2.1 = L)) (hj : σ.2.1 = L) : Pt (J_X12_findsBest_47 N again25 x0 x1 x4 σ) (fun r => r.2.2.1 = L) := by
  rw [J_X12_findsBest_47.eq_1]
  exact pt_lp (fun s => s.2.2.1 = L) (fun again s hI ih => jF_X12_findsBest_53 ihagain25 ih hI) N _ hj
theorem jF_X12_findsBest_25 {x0 : Nat} {x1 : Int32} {again25 : (Int32 × Int32 × zS) → Option (Int32 × zS)} (ihagain25 : ∀ s : Int32 × Int32 × zS, s.2.2.2.1 = L → Pt (again25 s) (fun r => r.2.2.1 = L)) {s : Int32 × Int32 × zS} (hj : s.2.2.2.1 = L) : Pt (F_X12_findsBest_25 N x0 x1 again25 s) (fun r => r.2.2.1 = L) := by
  obtain ⟨x2, x3, σ⟩ := s
  rw [F_X12_findsBest_25.eq_1]
  exact pt_if (fun _ => pt_some hj) (fun _ => pj_a (fun _ => pt_zb (jf_X12_nodesOf hj) (fun _ _ h1 => pt_if (fun _ => (jJ_X12_findsBest_47 ihagain25 h1)) (fun _ => pt_if (fun _ => pj_a (fun _ => pj_a (fun _ => pj_a (fun _ => pt_zb (jf_X12_nextOrder h1) (fun _ _ h2 => (ihagain25 _ h2)))))) (fun _ => (jJ_X12_findsBest_47 ihagain25 h1))))))
theorem jF_X12_findsBest_4 {x0 : Nat} {x1 : Int32} {x2 : Int32} {again4 : (Int32 × zS) → Option (Int32 × zS)} (ihagain4 : ∀ s : Int32 × zS, s.2.2.1 = L → Pt (again4 s) (fun r => r.2.2.1 = L)) {s : Int32 × zS} (hj : s.2.2.1 = L) : Pt (F_X12_findsBest_4 N x0 x1 x2 again4 s) (fun r => r.2.2.1 = L) := by
  obtain ⟨x3, σ⟩ := s
  rw [F_X12_findsBest_4.eq_1]
  exact pt_if (fun _ => pt_lp (fun s => s.2.2.2.1 = L) (fun again s hI ih => jF_X12_findsBest_25 ih hI) N _ hj) (fun _ => pj_a (fun _ => pj_s (j_sI hj) (fun _ h1 => (ihagain4 _ h1))))
theorem jf_X12_findsBest {x0 : Nat} {x1 : Int32} {σ : zS}  (hj : σ.2.1 = L) : Pt (f_X12_findsBest N x0 x1 σ) (fun r => r.2.2.1 = L) := by
  rw [f_X12_findsBest.eq_1]
  exact pt_lp (fun s => s.2.2.1 = L) (fun again s hI ih => jF_X12_findsBest_4 ih hI) N _ hj
theorem jf_X12_best {x0 : Nat} {x1 : Int32} {x2 : Int32} {σ : zS}  (hj : σ.2.1 = L) : Pt (f_X12_best N x0 x1 x2 σ) (fun r => r.2.2.1 = L) := by
  rw [f_X12_best.eq_1]
  exact pj_a (fun _ => pt_zb (jf_X12_isRegister hj) (fun _ _ h1 => pt_if (fun _ => pt_some h1) (fun _ => pt_zb (jf_X12_in h1) (fun _ _ h2 => pt_if (fun _ => pt_some h2) (fun _ => pj_a (fun _ => pj_a (fun _ => pt_if (fun _ => pj_a (fun _ => pt_zb (jf_X12_findsBest h2) (fun _ _ h3 => pt_if (fun _ => pt_some h3) (fun _ => pj_a (fun _ => pj_a (fun _ => pt_if (fun _ => pj_a (fun _ => pj_a (fun _ => pt_some h3))) (fun _ => pt_some h3))))))) (fun _ => pt_some h2))))))))
theorem jF_X12_sift_31 {x0 : Nat} {x1 : Int32} {x3 : Int32} {again15 : (Int32 × Int32 × zS) → Option (Int32 × zS)} {again31 : (Int32 × Int32 × Int32 × zS) → Option (Int32 × zS)} (ihagain15 : ∀ s : Int32 × Int32 × zS, s.2.2.2.1 = L → Pt (again15 s) (fun r => r.2.2.1 = L)) (ihagain31 : ∀ s : Int32 × Int32 × Int32 × zS, s.2.2.2.2.1 = L → Pt (again31 s) (fun r => r.2.2.1 = L)) {s : Int32 × Int32 × Int32 × zS} (hj : s.2.2.2.2.1 = L) : Pt (F_X12_sift_31 N x0 x1 x3 again15 again31 s) (fun r => r.2.2.1 = L) := by
  obtain ⟨x2, x4, x5, σ⟩ := s
  rw [F_X12_sift_31.eq_1]
  exact pj_a (fun _ => pj_a (fun _ => pt_if (fun _ => pj_a (fun _ => pt_zb (jf_X12_goesTo hj) (fun _ _ h1 => (ihagain15 _ h1)))) (fun _ => pj_a (fun _ => pt_zb (jf_X12_goesTo hj) (fun _ _ h2 => pj_a (fun _ => pt_zb (jf_X12_takesOrder h2) (fun _ _ h3 => pj_a (fun _ => pt_zb (jf_X12_nodesOf h3) (fun _ _ h4 => pt_if (fun _ => (ihagain31 _ h4)) (fun _ => pt_if (fun _ => (ihagain31 _ h4)) (fun _ => (ihagain31 _ h4))))))))))))
theorem jF_X12_sift_15 {x0 : Nat} {x1 : Int32} {again15 : (Int32 × Int32 × zS) → Option (Int32 × zS)} (ihagain15 : ∀ s : Int32 × Int32 × zS, s.2.2.2.1 = L → Pt (again15 s) (fun r => r.2.2.1 = L)) {s : Int32 × Int32 × zS} (hj : s.2.2.2.1 = L) : Pt (F_X12_sift_15 N x0 x1 again15 s) (fun r => r.2.2.1 = L) := by
  obtain ⟨x2, x3, σ⟩ := s
  rw [F_X12_sift_15.eq_1]
  exact pj_a (fun _ => pj_a (fun _ => pt_if (fun _ => pt_some hj) (fun _ => pt_lp (fun s => s.2.2.2.2.1 = L) (fun again s hI ih => jF_X12_sift_31 ihagain15 ih hI) N _ hj)))
theorem jf_X12_sift {x0 : Nat} {x1 : Int32} {σ : zS}  (hj : σ.2.1 = L) : Pt (f_X12_sift N x0 x1 σ) (fun r => r.2.2.1 = L) := by
  rw [f_X12_sift.eq_1]
  exact pj_a (fun _ => pt_zb (jf_X12_isRegister hj) (fun _ _ h1 => pt_if (fun _ => pt_some h1) (fun _ => pt_lp (fun s => s.2.2.2.1 = L) (fun again s hI ih => jF_X12_sift_15 ih hI) N _ h1)))
theorem jf_X12_isCrossing {x0 : Nat} {x1 : Int32} {σ : zS}  (hj : σ.2.1 = L) : Pt (f_X12_isCrossing N x0 x1 σ) (fun r => r.2.2.1 = L) := by
  rw [f_X12_isCrossing.eq_1]
  exact pj_a (fun _ => pt_zb (jf_X12_isWorld hj) (fun _ _ h1 => pt_if (fun _ => pt_rZ h1) (fun _ => pt_zb (jf_X12_in h1) (fun _ _ h2 => pt_if (fun _ => pt_rZ h2) (fun _ => pt_rZ h2)))))
theorem jf_X12_one {x0 : Nat} {x1 : Int32} {σ : zS}  (hj : σ.2.1 = L) : Pt (f_X12_one N x0 x1 σ) (fun r => r.2.2.1 = L) := by
  rw [f_X12_one.eq_1]
  exact pj_a (fun _ => pj_a (fun _ => pt_some hj))
theorem jf_X12_other {x0 : Nat} {x1 : Int32} {σ : zS}  (hj : σ.2.1 = L) : Pt (f_X12_other N x0 x1 σ) (fun r => r.2.2.1 = L) := by
  rw [f_X12_other.eq_1]
  exact pj_a (fun _ => pj_a (fun _ => pt_some hj))
theorem jF_X12_fillEnds_23 {x0 : Nat} {x1 : Int32} {again23 : (Int32 × zS) → Option (Unit × zS)} (ihagain23 : ∀ s : Int32 × zS, s.2.2.1 = L → Pt (again23 s) (fun r => r.2.2.1 = L)) {s : Int32 × zS} (hj : s.2.2.1 = L) : Pt (F_X12_fillEnds_23 N x0 x1 again23 s) (fun r => r.2.2.1 = L) := by
  obtain ⟨x2, σ⟩ := s
  rw [F_X12_fillEnds_23.eq_1]
  exact pj_a (fun _ => pj_a (fun _ => pt_if (fun _ => pt_some hj) (fun _ => pj_a (fun _ => pj_a (fun _ => pt_zb (jf_X12_one hj) (fun _ _ h1 => pj_a (fun _ => pj_s (j_sI h1) (fun _ h2 => pj_a (fun _ => pj_a (fun _ => pt_zb (jf_X12_other h2) (fun _ _ h3 => pj_a (fun _ => pj_s (j_sI h3) (fun _ h4 => (ihagain23 _ h4))))))))))))))
theorem jF_X12_fillEnds_2 {x0 : Nat} {x1 : Int32} {again2 : (Int32 × zS) → Option (Unit × zS)} (ihagain2 : ∀ s : Int32 × zS, s.2.2.1 = L → Pt (again2 s) (fun r => r.2.2.1 = L)) {s : Int32 × zS} (hj : s.2.2.1 = L) : Pt (F_X12_fillEnds_2 N x0 x1 again2 s) (fun r => r.2.2.1 = L) := by
  obtain ⟨x2, σ⟩ := s
  rw [F_X12_fillEnds_2.eq_1]
  exact pt_if (fun _ => pt_lp (fun s => s.2.2.1 = L) (fun again s hI ih => jF_X12_fillEnds_23 ih hI) N _ hj) (fun _ => pj_a (fun _ => pj_s (j_sI hj) (fun _ h1 => (ihagain2 _ h1))))
theorem jf_X12_fillEnds {x0 : Nat} {x1 : Int32} {σ : zS}  (hj : σ.2.1 = L) : Pt (f_X12_fillEnds N x0 x1 σ) (fun r => r.2.2.1 = L) := by
  rw [f_X12_fillEnds.eq_1]
  exact pt_lp (fun s => s.2.2.1 = L) (fun again s hI ih => jF_X12_fillEnds_2 ih hI) N _ hj
theorem jF_X12_hangs_17 {x0 : Nat} {x1 : Int32} {x4 : Int32} {again7 : (Int32 × Int32 × zS) → Option (Int32 × zS)} {again17 : (Int32 × Int32 × zS) → Option (Int32 × zS)} (ihagain7 : ∀ s : Int32 × Int32 × zS, s.2.2.2.1 = L → Pt (again7 s) (fun r => r.2.2.1 = L)) (ihagain17 : ∀ s : Int32 × Int32 × zS, s.2.2.2.1 = L → Pt (again17 s) (fun r => r.2.2.1 = L)) {s : Int32 × Int32 × zS} (hj : s.2.2.2.1 = L) : Pt (F_X12_hangs_17 N x0 x1 x4 again7 again17 s) (fun r => r.2.2.1 = L) := by
  obtain ⟨x3, x5, σ⟩ := s
  rw [F_X12_hangs_17.eq_1]
  exact pj_a (fun _ => pj_a (fun _ => pt_if (fun _ => (ihagain7 _ hj)) (fun _ => pt_if (fun _ => pj_a (fun _ => pt_zb (jf_X12_one hj) (fun _ _ h1 => pj_a (fun _ => pt_zb (jf_X12_other h1) (fun _ _ h2 => pt_if (fun _ => pj_a (fun _ => pt_zb (jf_X12_one h2) (fun _ _ h3 => pj_a (fun _ => pt_zb (jf_X12_other h3) (fun _ _ h4 => (ihagain17 _ h4)))))) (fun _ => (ihagain17 _ h2))))))) (fun _ => (ihagain17 _ hj)))))
theorem jF_X12_hangs_7 {x0 : Nat} {x1 : Int32} {again7 : (Int32 × Int32 × zS) → Option (Int32 × zS)} (ihagain7 : ∀ s : Int32 × Int32 × zS, s.2.2.2.1 = L → Pt (again7 s) (fun r => r.2.2.1 = L)) {s : Int32 × Int32 × zS} (hj : s.2.2.2.1 = L) : Pt (F_X12_hangs_7 N x0 x1 again7 s) (fun r => r.2.2.1 = L) := by
  obtain ⟨x3, x4, σ⟩ := s
  rw [F_X12_hangs_7.eq_1]
  exact pt_if (fun _ => pt_some hj) (fun _ => pt_lp (fun s => s.2.2.2.1 = L) (fun again s hI ih => jF_X12_hangs_17 ihagain7 ih hI) N _ hj)
theorem jf_X12_hangs {x0 : Nat} {x1 : Int32} {x2 : Int32} {σ : zS}  (hj : σ.2.1 = L) : Pt (f_X12_hangs N x0 x1 x2 σ) (fun r => r.2.2.1 = L) := by
  rw [f_X12_hangs.eq_1]
  exact pt_lp (fun s => s.2.2.2.1 = L) (fun again s hI ih => jF_X12_hangs_7 ih hI) N _ hj
theorem jJ_X12_isWay_80 {again53 : (Int32 × zS) → Option (Int32 × zS)} {x0 : Nat} {x2 : Int32} {x3 : Int32} {x4 : Int32} {x5 : Int32} {σ : zS} (ihagain53 : ∀ s : Int32 × zS, s.2.2.1 = L → Pt (again53 s) (fun r => r.2.2.1 = L)) (hj : σ.2.1 = L) : Pt (J_X12_isWay_80 N again53 x0 x2 x3 x4 x5 σ) (fun r => r.2.2.1 = L) := by
  rw [J_X12_isWay_80.eq_1]
  exact pt_if (fun _ => (ihagain53 _ hj)) (fun _ => pt_if (fun _ => (ihagain53 _ hj)) (fun _ => pj_a (fun _ => pj_a (fun _ => pt_if (fun _ => (ihagain53 _ hj)) (fun _ => pj_a (fun _ => pj_a (fun _ => pt_if (fun _ => (ihagain53 _ hj)) (fun _ => pt_rZ hj))))))))
theorem jF_X12_isWay_53 {x0 : Nat} {x2 : Int32} {x3 : Int32} {x4 : Int32} {again53 : (Int32 × zS) → Option (Int32 × zS)} (ihagain53 : ∀ s : Int32 × zS, s.2.2.1 = L → Pt (again53 s) (fun r => r.2.2.1 = L)) {s : Int32 × zS} (hj : s.2.2.1 = L) : Pt (F_X12_isWay_53 N x0 x2 x3 x4 again53 s) (fun r => r.2.2.1 = L) := by
  obtain ⟨x5, σ⟩ := s
  rw [F_X12_isWay_53.eq_1]
  exact pt_if (fun _ => pt_rZ hj) (fun _ => pt_if (fun _ => pj_a (fun _ => pj_a (fun _ => pt_if (fun _ => pt_rZ hj) (fun _ => (jJ_X12_isWay_80 ihagain53 hj))))) (fun _ => (jJ_X12_isWay_80 ihagain53 hj)))
theorem jf_X12_isWay {x0 : Nat} {x1 : Int32} {x2 : Int32} {x3 : Int32} {σ : zS}  (hj : σ.2.1 = L) : Pt (f_X12_isWay N x0 x1 x2 x3 σ) (fun r => r.2.2.1 = L) := by
  rw [f_X12_isWay.eq_1]
  exact pt_if (fun _ => pt_if (fun _ => pt_rZ hj) (fun _ => pt_rZ hj)) (fun _ => pj_a (fun _ => pt_zb (jf_X12_fillEnds hj) (fun _ _ h1 => pj_a (fun _ => pj_a (fun _ => pt_if (fun _ => pj_a (fun _ => pj_a (fun _ => pt_if (fun _ => pj_a (fun _ => pt_zb (jf_X12_hangs h1) (fun _ _ h2 => pt_lp (fun s => s.2.2.1 = L) (fun again s hI ih => jF_X12_isWay_53 ih hI) N _ h2))) (fun _ => pt_rZ h1)))) (fun _ => pt_rZ h1))))))
theorem jF_X12_fillWays_2 {x0 : Nat} {x1 : Int32} {x2 : Int32} {again2 : (Int32 × zS) → Option (Unit × zS)} (ihagain2 : ∀ s : Int32 × zS, s.2.2.1 = L → Pt (again2 s) (fun r => r.2.2.1 = L)) {s : Int32 × zS} (hj : s.2.2.1 = L) : Pt (F_X12_fillWays_2 N x0 x1 x2 again2 s) (fun r => r.2.2.1 = L) := by
  obtain ⟨x3, σ⟩ := s
  rw [F_X12_fillWays_2.eq_1]
  exact pt_if (fun _ => pt_some hj) (fun _ => pj_a (fun _ => pj_a (fun _ => pj_a (fun _ => pt_if (fun _ => pj_s (j_sI hj) (fun _ h1 => (ihagain2 _ h1))) (fun _ => pj_a (fun _ => pt_zb (jf_X12_isWay hj) (fun _ _ h2 => pt_if (fun _ => pj_s (j_sI h2) (fun _ h3 => (ihagain2 _ h3))) (fun _ => pj_s (j_sI h2) (fun _ h4 => (ihagain2 _ h4))))))))))
theorem jf_X12_fillWays {x0 : Nat} {x1 : Int32} {x2 : Int32} {σ : zS}  (hj : σ.2.1 = L) : Pt (f_X12_fillWays N x0 x1 x2 σ) (fun r => r.2.2.1 = L) := by
  rw [f_X12_fillWays.eq_1]
  exact pt_lp (fun s => s.2.2.1 = L) (fun again s hI ih => jF_X12_fillWays_2 ih hI) N _ hj
theorem jf_X12_ways {x0 : Nat} {x1 : Int32} {x2 : Int32} {x3 : Int32} {σ : zS}  (hj : σ.2.1 = L) : Pt (f_X12_ways N x0 x1 x2 x3 σ) (fun r => r.2.2.1 = L) := by
  rw [f_X12_ways.eq_1]
  exact pj_a (fun _ => pt_zb (jf_X12_isRegister hj) (fun _ _ h1 => pt_if (fun _ => pt_some h1) (fun _ => pj_a (fun _ => pt_zb (jf_X12_isCrossing h1) (fun _ _ h2 => pt_if (fun _ => pt_some h2) (fun _ => pj_a (fun _ => pt_zb (jf_X12_isCrossing h2) (fun _ _ h3 => pt_if (fun _ => pt_some h3) (fun _ => pj_a (fun _ => pt_zb (jf_X12_fillWays h3) (fun _ _ h4 => pj_a (fun _ => pt_zb (jf_X12_lays h4) (fun _ _ h5 => pt_some h5)))))))))))))
theorem jF_X12_crossings_4 {x0 : Nat} {again4 : (Int32 × Int32 × zS) → Option (Int32 × zS)} (ihagain4 : ∀ s : Int32 × Int32 × zS, s.2.2.2.1 = L → Pt (again4 s) (fun r => r.2.2.1 = L)) {s : Int32 × Int32 × zS} (hj : s.2.2.2.1 = L) : Pt (F_X12_crossings_4 N x0 again4 s) (fun r => r.2.2.1 = L) := by
  obtain ⟨x1, x2, σ⟩ := s
  rw [F_X12_crossings_4.eq_1]
  exact pj_a (fun _ => pj_a (fun _ => pt_if (fun _ => pt_some hj) (fun _ => pj_a (fun _ => pt_zb (jf_X12_one hj) (fun _ _ h1 => pj_a (fun _ => pt_zb (jf_X12_other h1) (fun _ _ h2 => (ihagain4 _ h2))))))))
theorem jf_X12_crossings {x0 : Nat} {σ : zS}  (hj : σ.2.1 = L) : Pt (f_X12_crossings N x0 σ) (fun r => r.2.2.1 = L) := by
  rw [f_X12_crossings.eq_1]
  exact pt_lp (fun s => s.2.2.2.1 = L) (fun again s hI ih => jF_X12_crossings_4 ih hI) N _ hj
theorem jF_X12_isTree_16 {x0 : Nat} {x1 : Int32} {x2 : Int32} {again16 : (Int32 × zS) → Option (Int32 × zS)} (ihagain16 : ∀ s : Int32 × zS, s.2.2.1 = L → Pt (again16 s) (fun r => r.2.2.1 = L)) {s : Int32 × zS} (hj : s.2.2.1 = L) : Pt (F_X12_isTree_16 N x0 x1 x2 again16 s) (fun r => r.2.2.1 = L) := by
  obtain ⟨x3, σ⟩ := s
  rw [F_X12_isTree_16.eq_1]
  exact pt_if (fun _ => (ihagain16 _ hj)) (fun _ => pj_a (fun _ => pt_zb (jf_X12_hangs hj) (fun _ _ h1 => pt_if (fun _ => pt_zb (jf_X12_namesOf h1) (fun _ _ h2 => pt_zb (jf_X12_namesOf h2) (fun _ _ h3 => pt_if (fun _ => pt_rZ h3) (fun _ => pt_rZ h3)))) (fun _ => pt_rZ h1))))
theorem jf_X12_isTree {x0 : Nat} {x1 : Int32} {x2 : Int32} {σ : zS}  (hj : σ.2.1 = L) : Pt (f_X12_isTree N x0 x1 x2 σ) (fun r => r.2.2.1 = L) := by
  rw [f_X12_isTree.eq_1]
  exact pt_if (fun _ => pt_if (fun _ => pt_rZ hj) (fun _ => pt_rZ hj)) (fun _ => pt_lp (fun s => s.2.2.1 = L) (fun again s hI ih => jF_X12_isTree_16 ih hI) N _ hj)
theorem jF_X12_isPairs_9 {x0 : Nat} {again9 : (Int32 × Int32 × zS) → Option (Int32 × zS)} (ihagain9 : ∀ s : Int32 × Int32 × zS, s.2.2.2.1 = L → Pt (again9 s) (fun r => r.2.2.1 = L)) {s : Int32 × Int32 × zS} (hj : s.2.2.2.1 = L) : Pt (F_X12_isPairs_9 N x0 again9 s) (fun r => r.2.2.1 = L) := by
  obtain ⟨x2, x3, σ⟩ := s
  rw [F_X12_isPairs_9.eq_1]
  exact pt_if (fun _ => pt_rZ hj) (fun _ => pt_if (fun _ => (ihagain9 _ hj)) (fun _ => pj_a (fun _ => pj_a (fun _ => pt_if (fun _ => (ihagain9 _ hj)) (fun _ => (ihagain9 _ hj))))))
theorem jf_X12_isPairs {x0 : Nat} {x1 : Int32} {σ : zS}  (hj : σ.2.1 = L) : Pt (f_X12_isPairs N x0 x1 σ) (fun r => r.2.2.1 = L) := by
  rw [f_X12_isPairs.eq_1]
  exact pj_a (fun _ => pt_zb (jf_X12_fillEnds hj) (fun _ _ h1 => pt_lp (fun s => s.2.2.2.1 = L) (fun again s hI ih => jF_X12_isPairs_9 ih hI) N _ h1))
theorem jF_X12_isCover_10 {x0 : Nat} {x2 : Int32} {again10 : (Int32 × Int32 × zS) → Option (Int32 × zS)} (ihagain10 : ∀ s : Int32 × Int32 × zS, s.2.2.2.1 = L → Pt (again10 s) (fun r => r.2.2.1 = L)) {s : Int32 × Int32 × zS} (hj : s.2.2.2.1 = L) : Pt (F_X12_isCover_10 N x0 x2 again10 s) (fun r => r.2.2.1 = L) := by
  obtain ⟨x3, x4, σ⟩ := s
  rw [F_X12_isCover_10.eq_1]
  exact pt_if (fun _ => pt_rZ hj) (fun _ => pt_if (fun _ => (ihagain10 _ hj)) (fun _ => pt_if (fun _ => (ihagain10 _ hj)) (fun _ => pj_a (fun _ => pj_a (fun _ => pt_if (fun _ => (ihagain10 _ hj)) (fun _ => (ihagain10 _ hj)))))))
theorem jf_X12_isCover {x0 : Nat} {x1 : Int32} {x2 : Int32} {σ : zS}  (hj : σ.2.1 = L) : Pt (f_X12_isCover N x0 x1 x2 σ) (fun r => r.2.2.1 = L) := by
  rw [f_X12_isCover.eq_1]
  exact pj_a (fun _ => pt_zb (jf_X12_fillEnds hj) (fun _ _ h1 => pt_lp (fun s => s.2.2.2.1 = L) (fun again s hI ih => jF_X12_isCover_10 ih hI) N _ h1))
theorem jF_X12_map_31 {x0 : Nat} {x1 : Int32} {x2 : Int32} {x3 : Int32} {again31 : (Int32 × zS) → Option (Int32 × zS)} (ihagain31 : ∀ s : Int32 × zS, s.2.2.1 = L → Pt (again31 s) (fun r => r.2.2.1 = L)) {s : Int32 × zS} (hj : s.2.2.1 = L) : Pt (F_X12_map_31 N x0 x1 x2 x3 again31 s) (fun r => r.2.2.1 = L) := by
  obtain ⟨x4, σ⟩ := s
  rw [F_X12_map_31.eq_1]
  exact pt_if (fun _ => pj_a (fun _ => pt_zb (jf_X12_lays hj) (fun _ _ h1 => pt_some h1))) (fun _ => pj_a (fun _ => pj_a (fun _ => pj_a (fun _ => pt_if (fun _ => pj_s (j_sI hj) (fun _ h2 => (ihagain31 _ h2))) (fun _ => pt_if (fun _ => pj_a (fun _ => pt_zb (jf_X12_isTree hj) (fun _ _ h3 => pt_if (fun _ => pj_s (j_sI h3) (fun _ h4 => (ihagain31 _ h4))) (fun _ => pj_s (j_sI h3) (fun _ h5 => (ihagain31 _ h5)))))) (fun _ => pt_if (fun _ => pj_a (fun _ => pt_zb (jf_X12_isPairs hj) (fun _ _ h6 => pt_if (fun _ => pj_s (j_sI h6) (fun _ h7 => (ihagain31 _ h7))) (fun _ => pj_s (j_sI h6) (fun _ h8 => (ihagain31 _ h8)))))) (fun _ => pj_a (fun _ => pt_zb (jf_X12_isCover hj) (fun _ _ h9 => pt_if (fun _ => pj_s (j_sI h9) (fun _ h10 => (ihagain31 _ h10))) (fun _ => pj_s (j_sI h9) (fun _ h11 => (ihagain31 _ h11))))))))))))
theorem jf_X12_map {x0 : Nat} {x1 : Int32} {x2 : Int32} {σ : zS}  (hj : σ.2.1 = L) : Pt (f_X12_map N x0 x1 x2 σ) (fun r => r.2.2.1 = L) := by
  rw [f_X12_map.eq_1]
  exact pj_a (fun _ => pt_zb (jf_X12_isRegister hj) (fun _ _ h1 => pt_if (fun _ => pt_some h1) (fun _ => pt_zb (jf_X12_in h1) (fun _ _ h2 => pt_if (fun _ => pt_some h2) (fun _ => pj_a (fun _ => pt_zb (jf_X12_crossings h2) (fun _ _ h3 => pt_lp (fun s => s.2.2.1 = L) (fun again s hI ih => jF_X12_map_31 ih hI) N _ h3)))))))
theorem jF_X12_cuts_44 {x0 : Nat} {x1 : Int32} {again44 : (Int32 × zS) → Option (Int32 × zS)} (ihagain44 : ∀ s : Int32 × zS, s.2.2.1 = L → Pt (again44 s) (fun r => r.2.2.1 = L)) {s : Int32 × zS} (hj : s.2.2.1 = L) : Pt (F_X12_cuts_44 N x0 x1 again44 s) (fun r => r.2.2.1 = L) := by
  obtain ⟨x4, σ⟩ := s
  rw [F_X12_cuts_44.eq_1]
  exact pt_if (fun _ => pj_a (fun _ => pj_a (fun _ => pt_zb (jf_X12_turns hj) (fun _ _ h1 => pj_a (fun _ => pt_zb (jf_X12_lays h1) (fun _ _ h2 => pt_some h2)))))) (fun _ => pj_a (fun _ => pj_a (fun _ => pj_a (fun _ => pj_s (j_sI hj) (fun _ h3 => (ihagain44 _ h3))))))
theorem jf_X12_cuts {x0 : Nat} {x1 : Int32} {x2 : Int32} {x3 : Int32} {σ : zS}  (hj : σ.2.1 = L) : Pt (f_X12_cuts N x0 x1 x2 x3 σ) (fun r => r.2.2.1 = L) := by
  rw [f_X12_cuts.eq_1]
  exact pj_a (fun _ => pt_zb (jf_X12_isRegister hj) (fun _ _ h1 => pt_if (fun _ => pt_some h1) (fun _ => pj_a (fun _ => pt_zb (jf_X12_isCrossing h1) (fun _ _ h2 => pt_if (fun _ => pt_some h2) (fun _ => pj_a (fun _ => pt_zb (jf_X12_isCrossing h2) (fun _ _ h3 => pt_if (fun _ => pt_some h3) (fun _ => pj_a (fun _ => pt_zb (jf_X12_many h3) (fun _ _ h4 => pj_s (j_pI h4) (fun _ h5 => pj_a (fun _ => pt_zb (jf_X12_fillWays h5) (fun _ _ h6 => pt_lp (fun s => s.2.2.1 = L) (fun again s hI ih => jF_X12_cuts_44 ih hI) N _ h6))))))))))))))
theorem jf_X12_isSlot {x0 : Int32} {σ : zS}  (hj : σ.2.1 = L) : Pt (f_X12_isSlot N x0 σ) (fun r => r.2.2.1 = L) := by
  rw [f_X12_isSlot.eq_1]
  exact pt_zb (jf_X12_in hj) (fun _ _ h1 => pt_rZ h1)
theorem jF_X12_judge_33 {x0 : Nat} {x1 : Int32} {x2 : Int32} {again33 : (Int32 × zS) → Option (Int32 × zS)} (ihagain33 : ∀ s : Int32 × zS, s.2.2.1 = L → Pt (again33 s) (fun r => r.2.2.1 = L)) {s : Int32 × zS} (hj : s.2.2.1 = L) : Pt (F_X12_judge_33 N x0 x1 x2 again33 s) (fun r => r.2.2.1 = L) := by
  obtain ⟨x3, σ⟩ := s
  rw [F_X12_judge_33.eq_1]
  exact pj_a (fun _ => pj_a (fun _ => pt_if (fun _ => pj_a (fun _ => pj_a (fun _ => pj_a (fun _ => pt_zb (jf_X12_nthOf hj) (fun _ _ h1 => pt_if (fun _ => pj_a (fun _ => pj_a (fun _ => pt_some h1))) (fun _ => pt_some h1)))))) (fun _ => pj_a (fun _ => pt_zb (jf_X12_nthOf hj) (fun _ _ h2 => pt_if (fun _ => pt_some h2) (fun _ => pj_a (fun _ => pj_a (fun _ => pt_if (fun _ => (ihagain33 _ h2)) (fun _ => pt_some h2)))))))))
theorem jf_X12_judge {x0 : Nat} {x1 : Int32} {x2 : Int32} {σ : zS}  (hj : σ.2.1 = L) : Pt (f_X12_judge N x0 x1 x2 σ) (fun r => r.2.2.1 = L) := by
  rw [f_X12_judge.eq_1]
  exact pt_zb (jf_X12_isSlot hj) (fun _ _ h1 => pt_if (fun _ => pt_some h1) (fun _ => pj_a (fun _ => pt_zb (jf_X12_isRegister h1) (fun _ _ h2 => pt_if (fun _ => pt_some h2) (fun _ => pj_a (fun _ => pj_a (fun _ => pt_if (fun _ => pt_some h2) (fun _ => pt_lp (fun s => s.2.2.1 = L) (fun again s hI ih => jF_X12_judge_33 ih hI) N _ h2))))))))
theorem jF_X12_takes__101 {x0 : Nat} {x1 : Int32} {x2 : Int32} {again101 : (Int32 × zS) → Option (Int32 × zS)} (ihagain101 : ∀ s : Int32 × zS, s.2.2.1 = L → Pt (again101 s) (fun r => r.2.2.1 = L)) {s : Int32 × zS} (hj : s.2.2.1 = L) : Pt (F_X12_takes__101 N x0 x1 x2 again101 s) (fun r => r.2.2.1 = L) := by
  obtain ⟨x3, σ⟩ := s
  rw [F_X12_takes__101.eq_1]
  exact pj_a (fun _ => pj_a (fun _ => pt_if (fun _ => pj_a (fun _ => pt_zb (jf_X12_lays hj) (fun _ _ h1 => pt_some h1))) (fun _ => pj_a (fun _ => pj_a (fun _ => pj_a (fun _ => pj_s (j_sI hj) (fun _ h2 => (ihagain101 _ h2))))))))
theorem jF_X12_takes__79 {x0 : Nat} {x1 : Int32} {x2 : Int32} {again79 : (Int32 × zS) → Option (Int32 × zS)} (ihagain79 : ∀ s : Int32 × zS, s.2.2.1 = L → Pt (again79 s) (fun r => r.2.2.1 = L)) {s : Int32 × zS} (hj : s.2.2.1 = L) : Pt (F_X12_takes__79 N x0 x1 x2 again79 s) (fun r => r.2.2.1 = L) := by
  obtain ⟨x3, σ⟩ := s
  rw [F_X12_takes__79.eq_1]
  exact pt_if (fun _ => pt_lp (fun s => s.2.2.1 = L) (fun again s hI ih => jF_X12_takes__101 ih hI) N _ hj) (fun _ => pj_a (fun _ => pj_s (j_sI hj) (fun _ h1 => (ihagain79 _ h1))))
theorem jF_X12_takes__33 {x0 : Nat} {x1 : Int32} {x2 : Int32} {again33 : (Int32 × zS) → Option (Int32 × zS)} (ihagain33 : ∀ s : Int32 × zS, s.2.2.1 = L → Pt (again33 s) (fun r => r.2.2.1 = L)) {s : Int32 × zS} (hj : s.2.2.1 = L) : Pt (F_X12_takes__33 N x0 x1 x2 again33 s) (fun r => r.2.2.1 = L) := by
  obtain ⟨x3, σ⟩ := s
  rw [F_X12_takes__33.eq_1]
  exact pj_a (fun _ => pj_a (fun _ => pt_if (fun _ => pt_lp (fun s => s.2.2.1 = L) (fun again s hI ih => jF_X12_takes__79 ih hI) N _ hj) (fun _ => pj_a (fun _ => pj_a (fun _ => pj_a (fun _ => pt_zb (jf_X12_many hj) (fun _ _ h1 => pt_zb (jf_X12_in h1) (fun _ _ h2 => pt_if (fun _ => pt_some h2) (fun _ => (ihagain33 _ h2))))))))))
theorem jf_X12_takes_ {x0 : Nat} {x1 : Int32} {x2 : Int32} {σ : zS}  (hj : σ.2.1 = L) : Pt (f_X12_takes_ N x0 x1 x2 σ) (fun r => r.2.2.1 = L) := by
  rw [f_X12_takes_.eq_1]
  exact pj_a (fun _ => pt_zb (jf_X12_isRegister hj) (fun _ _ h1 => pt_if (fun _ => pt_some h1) (fun _ => pt_zb (jf_X12_isSlot h1) (fun _ _ h2 => pt_if (fun _ => pt_some h2) (fun _ => pj_a (fun _ => pj_a (fun _ => pt_if (fun _ => pt_some h2) (fun _ => pt_lp (fun s => s.2.2.1 = L) (fun again s hI ih => jF_X12_takes__33 ih hI) N _ h2))))))))
theorem jF_X12_unlikeRegisters_22 {x0 : Nat} {x1 : Int32} {x2 : Int32} {again4 : (Int32 × Int32 × zS) → Option (Int32 × zS)} {again22 : (Int32 × Int32 × zS) → Option (Int32 × zS)} (ihagain4 : ∀ s : Int32 × Int32 × zS, s.2.2.2.1 = L → Pt (again4 s) (fun r => r.2.2.1 = L)) (ihagain22 : ∀ s : Int32 × Int32 × zS, s.2.2.2.1 = L → Pt (again22 s) (fun r => r.2.2.1 = L)) {s : Int32 × Int32 × zS} (hj : s.2.2.2.1 = L) : Pt (F_X12_unlikeRegisters_22 N x0 x1 x2 again4 again22 s) (fun r => r.2.2.1 = L) := by
  obtain ⟨x3, x4, σ⟩ := s
  rw [F_X12_unlikeRegisters_22.eq_1]
  exact pt_if (fun _ => pt_if (fun _ => (ihagain4 _ hj)) (fun _ => (ihagain4 _ hj))) (fun _ => pt_if (fun _ => (ihagain22 _ hj)) (fun _ => pj_a (fun _ => pt_zb (jf_X12_differOf hj) (fun _ _ h1 => pt_if (fun _ => (ihagain22 _ h1)) (fun _ => (ihagain22 _ h1))))))
theorem jF_X12_unlikeRegisters_4 {x0 : Nat} {again4 : (Int32 × Int32 × zS) → Option (Int32 × zS)} (ihagain4 : ∀ s : Int32 × Int32 × zS, s.2.2.2.1 = L → Pt (again4 s) (fun r => r.2.2.1 = L)) {s : Int32 × Int32 × zS} (hj : s.2.2.2.1 = L) : Pt (F_X12_unlikeRegisters_4 N x0 again4 s) (fun r => r.2.2.1 = L) := by
  obtain ⟨x1, x2, σ⟩ := s
  rw [F_X12_unlikeRegisters_4.eq_1]
  exact pt_if (fun _ => pt_some hj) (fun _ => pj_a (fun _ => pt_zb (jf_X12_isWorld hj) (fun _ _ h1 => pt_if (fun _ => pt_some h1) (fun _ => pt_lp (fun s => s.2.2.2.1 = L) (fun again s hI ih => jF_X12_unlikeRegisters_22 ihagain4 ih hI) N _ h1))))
theorem jf_X12_unlikeRegisters {x0 : Nat} {σ : zS}  (hj : σ.2.1 = L) : Pt (f_X12_unlikeRegisters N x0 σ) (fun r => r.2.2.1 = L) := by
  rw [f_X12_unlikeRegisters.eq_1]
  exact pt_lp (fun s => s.2.2.2.1 = L) (fun again s hI ih => jF_X12_unlikeRegisters_4 ih hI) N _ hj
theorem jF_X12_count_72 {x0 : Nat} {again72 : (Int32 × Int32 × zS) → Option (Int32 × zS)} (ihagain72 : ∀ s : Int32 × Int32 × zS, s.2.2.2.1 = L → Pt (again72 s) (fun r => r.2.2.1 = L)) {s : Int32 × Int32 × zS} (hj : s.2.2.2.1 = L) : Pt (F_X12_count_72 N x0 again72 s) (fun r => r.2.2.1 = L) := by
  obtain ⟨x2, x3, σ⟩ := s
  rw [F_X12_count_72.eq_1]
  exact pt_if (fun _ => pt_some hj) (fun _ => pj_a (fun _ => pt_zb (jf_X12_sizeOf hj) (fun _ _ h1 => pt_if (fun _ => (ihagain72 _ h1)) (fun _ => (ihagain72 _ h1)))))
theorem jF_X12_count_111 {x0 : Nat} {again111 : (Int32 × Int32 × zS) → Option (Int32 × zS)} (ihagain111 : ∀ s : Int32 × Int32 × zS, s.2.2.2.1 = L → Pt (again111 s) (fun r => r.2.2.1 = L)) {s : Int32 × Int32 × zS} (hj : s.2.2.2.1 = L) : Pt (F_X12_count_111 N x0 again111 s) (fun r => r.2.2.1 = L) := by
  obtain ⟨x2, x3, σ⟩ := s
  rw [F_X12_count_111.eq_1]
  exact pt_if (fun _ => pt_some hj) (fun _ => pj_a (fun _ => pj_a (fun _ => pt_if (fun _ => (ihagain111 _ hj)) (fun _ => (ihagain111 _ hj)))))
theorem jf_X12_count {x0 : Nat} {x1 : Int32} {σ : zS}  (hj : σ.2.1 = L) : Pt (f_X12_count N x0 x1 σ) (fun r => r.2.2.1 = L) := by
  rw [f_X12_count.eq_1]
  exact pt_if (fun _ => pj_a (fun _ => pj_a (fun _ => pt_some hj))) (fun _ => pt_if (fun _ => pj_a (fun _ => pj_a (fun _ => pt_some hj))) (fun _ => pt_if (fun _ => pj_a (fun _ => pj_a (fun _ => pt_some hj))) (fun _ => pt_if (fun _ => pj_a (fun _ => pt_some hj)) (fun _ => pt_if (fun _ => pt_lp (fun s => s.2.2.2.1 = L) (fun again s hI ih => jF_X12_count_72 ih hI) N _ hj) (fun _ => pt_if (fun _ => pj_a (fun _ => pt_zb (jf_X12_unlikeRegisters hj) (fun _ _ h1 => pt_some h1))) (fun _ => pt_if (fun _ => pt_lp (fun s => s.2.2.2.1 = L) (fun again s hI ih => jF_X12_count_111 ih hI) N _ hj) (fun _ => pt_some hj)))))))
theorem jf_X12_cut {x0 : Int64} {x2 : Int32} {σ : zS}  (hj : σ.2.1 = L) : Pt (f_X12_cut N x0 x2 σ) (fun r => r.2.2.1 = L) := by
  rw [f_X12_cut.eq_1]
  exact pt_some hj
theorem jB_X4_fewestFrom {r0 : Nat → Int32 → Int32 → Int32 → Int32 → zS → Option (Int32 × zS)} {x0 : Nat} {x1 : Int32} {x2 : Int32} {x3 : Int32} {x4 : Int32} {σ : zS} (hr0 : ∀ (a0 : Nat) (a1 : Int32) (a2 : Int32) (a3 : Int32) (a4 : Int32) (a5 : zS), a5.2.1 = L → Pt (r0 a0 a1 a2 a3 a4 a5) (fun r => r.2.2.1 = L)) (hj : σ.2.1 = L) : Pt (B_X4_fewestFrom N r0 x0 x1 x2 x3 x4 σ) (fun r => r.2.2.1 = L) := by
  rw [B_X4_fewestFrom.eq_1]
  exact pt_if (fun _ => pt_some hj) (fun _ => pt_if (fun _ => pt_some hj) (fun _ => pt_if (fun _ => pt_some hj) (fun _ => pj_a (fun _ => pt_if (fun _ => pt_zb (hr0 _ _ _ _ _ _ hj) (fun _ _ h1 => pj_a (fun _ => pt_zb (hr0 _ _ _ _ _ _ h1) (fun _ _ h2 => pt_some h2)))) (fun _ => pt_some hj)))))
theorem jjG_X4_fewestFrom : ∀ dd : Nat, (∀ (x0 : Nat) (x1 : Int32) (x2 : Int32) (x3 : Int32) (x4 : Int32) (σ : zS), σ.2.1 = L → Pt (f_X4_fewestFrom N dd x0 x1 x2 x3 x4 σ) (fun r => r.2.2.1 = L)) := by
  intro dd
  induction dd with
  | zero => exact fun _ _ _ _ _ _ _ a h => absurd (show none = some a from h) (by simp)
  | succ dd ih => exact fun x0 x1 x2 x3 x4 σ hj => jB_X4_fewestFrom (N := N) ih hj
theorem jB_X4_mostFrom {r0 : Nat → Int32 → Int32 → Int32 → zS → Option (Int32 × zS)} {x0 : Nat} {x1 : Int32} {x2 : Int32} {x3 : Int32} {σ : zS} (hr0 : ∀ (a0 : Nat) (a1 : Int32) (a2 : Int32) (a3 : Int32) (a4 : zS), a4.2.1 = L → Pt (r0 a0 a1 a2 a3 a4) (fun r => r.2.2.1 = L)) (hj : σ.2.1 = L) : Pt (B_X4_mostFrom N r0 x0 x1 x2 x3 σ) (fun r => r.2.2.1 = L) := by
  rw [B_X4_mostFrom.eq_1]
  exact pt_if (fun _ => pt_some hj) (fun _ => pt_if (fun _ => pt_some hj) (fun _ => pj_a (fun _ => pt_if (fun _ => pt_zb (hr0 _ _ _ _ _ hj) (fun _ _ h1 => pj_a (fun _ => pt_if (fun _ => pj_a (fun _ => pt_zb (hr0 _ _ _ _ _ h1) (fun _ _ h2 => pt_some h2))) (fun _ => pt_some h1)))) (fun _ => pt_some hj))))
theorem jjG_X4_mostFrom : ∀ dd : Nat, (∀ (x0 : Nat) (x1 : Int32) (x2 : Int32) (x3 : Int32) (σ : zS), σ.2.1 = L → Pt (f_X4_mostFrom N dd x0 x1 x2 x3 σ) (fun r => r.2.2.1 = L)) := by
  intro dd
  induction dd with
  | zero => exact fun _ _ _ _ _ _ a h => absurd (show none = some a from h) (by simp)
  | succ dd ih => exact fun x0 x1 x2 x3 σ hj => jB_X4_mostFrom (N := N) ih hj
theorem jB_X5_sum {r0 : Nat → Int32 → zS → Option (Int32 × zS)} {r1 : Nat → Int32 → zS → Option (Int32 × zS)} {r2 : Nat → Int32 → Int32 → zS → Option (Int32 × zS)} {x0 : Nat} {x1 : Int32} {σ : zS} (hr0 : ∀ (a0 : Nat) (a1 : Int32) (a2 : zS), a2.2.1 = L → Pt (r0 a0 a1 a2) (fun r => r.2.2.1 = L)) (hr1 : ∀ (a0 : Nat) (a1 : Int32) (a2 : zS), a2.2.1 = L → Pt (r1 a0 a1 a2) (fun r => r.2.2.1 = L)) (hr2 : ∀ (a0 : Nat) (a1 : Int32) (a2 : Int32) (a3 : zS), a3.2.1 = L → Pt (r2 a0 a1 a2 a3) (fun r => r.2.2.1 = L)) (hj : σ.2.1 = L) : Pt (B_X5_sum N r0 r1 r2 x0 x1 σ) (fun r => r.2.2.1 = L) := by
  rw [B_X5_sum.eq_1]
  exact pj_a (fun _ => pt_zb (hr1 _ _ _ hj) (fun _ _ h1 => pt_if (fun _ => pt_rZ h1) (fun _ => pt_lp (fun s => s.2.2.2.1 = L) (fun again s hI ih => jF_X5_sum_14 hr0 hr1 hr2 ih hI) N _ h1)))
theorem jB_X5_part {r0 : Nat → Int32 → zS → Option (Int32 × zS)} {r1 : Nat → Int32 → zS → Option (Int32 × zS)} {r2 : Nat → Int32 → Int32 → zS → Option (Int32 × zS)} {x0 : Nat} {x1 : Int32} {σ : zS} (hr0 : ∀ (a0 : Nat) (a1 : Int32) (a2 : zS), a2.2.1 = L → Pt (r0 a0 a1 a2) (fun r => r.2.2.1 = L)) (hr1 : ∀ (a0 : Nat) (a1 : Int32) (a2 : zS), a2.2.1 = L → Pt (r1 a0 a1 a2) (fun r => r.2.2.1 = L)) (hr2 : ∀ (a0 : Nat) (a1 : Int32) (a2 : Int32) (a3 : zS), a3.2.1 = L → Pt (r2 a0 a1 a2 a3) (fun r => r.2.2.1 = L)) (hj : σ.2.1 = L) : Pt (B_X5_part N r0 r1 r2 x0 x1 σ) (fun r => r.2.2.1 = L) := by
  rw [B_X5_part.eq_1]
  exact pj_a (fun _ => pj_a (fun _ => pj_a (fun _ => pt_if (fun _ => pj_a (fun _ => pj_a (fun _ => pj_a (fun _ => pj_a (fun _ => pt_zb (hr2 _ _ _ _ hj) (fun _ _ h1 => pt_rZ h1)))))) (fun _ => pt_if (fun _ => pj_a (fun _ => pt_zb (jf_X5_passNumber hj) (fun _ _ h2 => pt_if (fun _ => pt_rZ h2) (fun _ => pj_a (fun _ => pt_zb (jf_X5_passed h2) (fun _ _ h3 => pj_a (fun _ => pt_zb (jf_X5_emit h3) (fun _ _ h4 => pt_if (fun _ => pt_rZ h4) (fun _ => pt_rZ h4))))))))) (fun _ => pt_if (fun _ => pt_if (fun _ => (jJ_X5_part_97 hr0 hr1 hr2 hj)) (fun _ => (jJ_X5_part_97 hr0 hr1 hr2 hj))) (fun _ => pt_if (fun _ => pj_a (fun _ => pt_zb (jf_X5_family hj) (fun _ _ h5 => pt_rZ h5))) (fun _ => pj_a (fun _ => pt_zb (jf_X5_fail hj) (fun _ _ h6 => pt_rZ h6)))))))))
theorem jB_X5_wordPart {r0 : Nat → Int32 → zS → Option (Int32 × zS)} {r1 : Nat → Int32 → zS → Option (Int32 × zS)} {r2 : Nat → Int32 → Int32 → zS → Option (Int32 × zS)} {x0 : Nat} {x1 : Int32} {x2 : Int32} {σ : zS} (hr0 : ∀ (a0 : Nat) (a1 : Int32) (a2 : zS), a2.2.1 = L → Pt (r0 a0 a1 a2) (fun r => r.2.2.1 = L)) (hr1 : ∀ (a0 : Nat) (a1 : Int32) (a2 : zS), a2.2.1 = L → Pt (r1 a0 a1 a2) (fun r => r.2.2.1 = L)) (hr2 : ∀ (a0 : Nat) (a1 : Int32) (a2 : Int32) (a3 : zS), a3.2.1 = L → Pt (r2 a0 a1 a2 a3) (fun r => r.2.2.1 = L)) (hj : σ.2.1 = L) : Pt (B_X5_wordPart N r0 r1 r2 x0 x1 x2 σ) (fun r => r.2.2.1 = L) := by
  rw [B_X5_wordPart.eq_1]
  exact pt_if (fun _ => pj_a (fun _ => pt_zb (jf_X5_pass hj) (fun _ _ h1 => pt_if (fun _ => pt_rZ h1) (fun _ => pj_a (fun _ => pt_zb (jf_X5_emit h1) (fun _ _ h2 => pt_if (fun _ => pt_rZ h2) (fun _ => pt_rZ h2))))))) (fun _ => pt_if (fun _ => pt_if (fun _ => (jJ_X5_wordPart_52 hr0 hr1 hr2 hj)) (fun _ => (jJ_X5_wordPart_52 hr0 hr1 hr2 hj))) (fun _ => pj_a (fun _ => pt_zb (jf_X5_fail hj) (fun _ _ h3 => pt_rZ h3))))
theorem jjG_X5_sum : ∀ dd : Nat, (∀ (x0 : Nat) (x1 : Int32) (σ : zS), σ.2.1 = L → Pt (f_X5_sum N dd x0 x1 σ) (fun r => r.2.2.1 = L)) ∧ (∀ (x0 : Nat) (x1 : Int32) (σ : zS), σ.2.1 = L → Pt (f_X5_part N dd x0 x1 σ) (fun r => r.2.2.1 = L)) ∧ (∀ (x0 : Nat) (x1 : Int32) (x2 : Int32) (σ : zS), σ.2.1 = L → Pt (f_X5_wordPart N dd x0 x1 x2 σ) (fun r => r.2.2.1 = L)) := by
  intro dd
  induction dd with
  | zero => exact ⟨fun _ _ _ _ a h => absurd (show none = some a from h) (by simp), fun _ _ _ _ a h => absurd (show none = some a from h) (by simp), fun _ _ _ _ _ a h => absurd (show none = some a from h) (by simp)⟩
  | succ dd ih => exact ⟨fun x0 x1 σ hj => jB_X5_sum ih.1 ih.2.1 ih.2.2 hj, fun x0 x1 σ hj => jB_X5_part ih.1 ih.2.1 ih.2.2 hj, fun x0 x1 x2 σ hj => jB_X5_wordPart ih.1 ih.2.1 ih.2.2 hj⟩
theorem jf_X4_fewestForAll {x0 : Nat} {σ : zS}  (hj : σ.2.1 = L) : Pt (f_X4_fewestForAll N x0 σ) (fun r => r.2.2.1 = L) := by
  rw [f_X4_fewestForAll.eq_1]
  exact pj_a (fun _ => pj_a (fun _ => pj_a (fun _ => pt_zb ((jjG_X4_fewestFrom 14) _ _ _ _ _ _ hj) (fun _ _ h1 => pt_some h1))))
theorem jf_X4_mostDisjoint {x0 : Nat} {σ : zS}  (hj : σ.2.1 = L) : Pt (f_X4_mostDisjoint N x0 σ) (fun r => r.2.2.1 = L) := by
  rw [f_X4_mostDisjoint.eq_1]
  exact pj_a (fun _ => pj_a (fun _ => pt_zb ((jjG_X4_mostFrom 14) _ _ _ _ _ hj) (fun _ _ h1 => pt_some h1)))
theorem jJ_X5_readLine_92 {x0 : Nat} {x1 : Nat} {x2 : Int32} {σ : zS}  (hj : σ.2.1 = L) : Pt (J_X5_readLine_92 N x0 x1 x2 σ) (fun r => r.2.2.1 = L) := by
  rw [J_X5_readLine_92.eq_1]
  exact pj_a (fun _ => pt_zb (jf_X5_pass hj) (fun _ _ h1 => pj_a (fun _ => pj_a (fun _ => pj_a (fun _ => pt_if (fun _ => pj_a (fun _ => pt_zb (jf_X5_readNames h1) (fun _ _ h2 => (jJ_X5_readLine_211 h2)))) (fun _ => pt_if (fun _ => pj_a (fun _ => pt_zb (jf_X5_readWeight h1) (fun _ _ h3 => (jJ_X5_readLine_211 h3)))) (fun _ => pt_if (fun _ => pj_a (fun _ => pt_zb (jf_X5_readEdge h1) (fun _ _ h4 => (jJ_X5_readLine_211 h4)))) (fun _ => pj_a (fun _ => pt_zb (jf_X5_passNumber h1) (fun _ _ h5 => pt_if (fun _ => (jJ_X5_readLine_211 h5)) (fun _ => pj_a (fun _ => pt_zb (jf_X5_pass h5) (fun _ _ h6 => pt_if (fun _ => (jJ_X5_readLine_211 h6)) (fun _ => pj_a (fun _ => pt_zb ((jjG_X5_sum 24).1 _ _ _ h6) (fun _ _ h7 => pt_if (fun _ => (jJ_X5_readLine_211 h7)) (fun _ => pj_a (fun _ => pt_zb (jf_X5_emit h7) (fun _ _ h8 => pt_if (fun _ => (jJ_X5_readLine_211 h8)) (fun _ => (jJ_X5_readLine_211 h8)))))))))))))))))))))
theorem jJ_X5_readLine_51 {x0 : Nat} {x1 : Nat} {x2 : Int32} {y0 : Int32} {y1 : Int32} {σ : zS}  (hj : σ.2.1 = L) : Pt (J_X5_readLine_51 N x0 x1 x2 y0 y1 σ) (fun r => r.2.2.1 = L) := by
  rw [J_X5_readLine_51.eq_1]
  exact pt_if (fun _ => pt_if (fun _ => pj_a (fun _ => pt_zb (jf_X5_fail hj) (fun _ _ h1 => pt_rZ h1))) (fun _ => pt_if (fun _ => pt_if (fun _ => pj_a (fun _ => pj_a (fun _ => pt_if (fun _ => (jJ_X5_readLine_92 hj)) (fun _ => pj_a (fun _ => pt_zb (jf_X5_fail hj) (fun _ _ h2 => pt_rZ h2)))))) (fun _ => (jJ_X5_readLine_92 hj))) (fun _ => pj_a (fun _ => pt_zb (jf_X5_fail hj) (fun _ _ h3 => pt_rZ h3))))) (fun _ => pj_a (fun _ => pt_zb (jf_X5_fail hj) (fun _ _ h4 => pt_rZ h4)))
theorem jJ_X5_readLine_39 {x0 : Nat} {x1 : Nat} {x2 : Int32} {y0 : Int32} {σ : zS}  (hj : σ.2.1 = L) : Pt (J_X5_readLine_39 N x0 x1 x2 y0 σ) (fun r => r.2.2.1 = L) := by
  rw [J_X5_readLine_39.eq_1]
  exact pt_if (fun _ => (jJ_X5_readLine_51 hj)) (fun _ => (jJ_X5_readLine_51 hj))
theorem jJ_X5_readLine_26 {x0 : Nat} {x1 : Nat} {y0 : Int32} {σ : zS}  (hj : σ.2.1 = L) : Pt (J_X5_readLine_26 N x0 x1 y0 σ) (fun r => r.2.2.1 = L) := by
  rw [J_X5_readLine_26.eq_1]
  exact pj_a (fun _ => pt_if (fun _ => (jJ_X5_readLine_39 hj)) (fun _ => (jJ_X5_readLine_39 hj)))
theorem jf_X5_readLine {x0 : Nat} {x1 : Nat} {σ : zS}  (hj : σ.2.1 = L) : Pt (f_X5_readLine N x0 x1 σ) (fun r => r.2.2.1 = L) := by
  rw [f_X5_readLine.eq_1]
  exact pj_a (fun _ => pj_a (fun _ => pj_a (fun _ => pt_if (fun _ => pj_a (fun _ => pj_a (fun _ => pj_a (fun _ => (jJ_X5_readLine_26 hj))))) (fun _ => (jJ_X5_readLine_26 hj)))))
theorem jF_X5_readWorld_9 {x0 : Nat} {x3 : Nat} {again9 : (Int32 × zS) → Option (Int32 × zS)} (ihagain9 : ∀ s : Int32 × zS, s.2.2.1 = L → Pt (again9 s) (fun r => r.2.2.1 = L)) {s : Int32 × zS} (hj : s.2.2.1 = L) : Pt (F_X5_readWorld_9 N x0 x3 again9 s) (fun r => r.2.2.1 = L) := by
  obtain ⟨x4, σ⟩ := s
  rw [F_X5_readWorld_9.eq_1]
  exact pt_if (fun _ => pt_rZ hj) (fun _ => pj_a (fun _ => pj_a (fun _ => pj_a (fun _ => pt_if (fun _ => pt_rZ hj) (fun _ => pj_a (fun _ => pt_zb (jf_X5_readLine hj) (fun _ _ h1 => pt_if (fun _ => pt_rZ h1) (fun _ => pj_a (fun _ => pj_s (j_pI h1) (fun _ h2 => (ihagain9 _ h2)))))))))))
theorem jf_X5_readWorld {x0 : Nat} {x1 : Nat} {x2 : Int32} {x3 : Nat} {σ : zS}  (hj : σ.2.1 = L) : Pt (f_X5_readWorld N x0 x1 x2 x3 σ) (fun r => r.2.2.1 = L) := by
  rw [f_X5_readWorld.eq_1]
  exact pj_a (fun _ => pt_zb (jf_X5_open hj) (fun _ _ h1 => pt_lp (fun s => s.2.2.1 = L) (fun again s hI ih => jF_X5_readWorld_9 ih hI) N _ h1))
theorem jf_X5_readSum {x0 : Nat} {x1 : Nat} {x2 : Int32} {x3 : Int32} {x4 : Int32} {σ : zS}  (hj : σ.2.1 = L) : Pt (f_X5_readSum N x0 x1 x2 x3 x4 σ) (fun r => r.2.2.1 = L) := by
  rw [f_X5_readSum.eq_1]
  exact pj_a (fun _ => pt_zb (jf_X5_open hj) (fun _ _ h1 => pj_s (j_pI h1) (fun _ h2 => pj_a (fun _ => pt_zb ((jjG_X5_sum 24).1 _ _ _ h2) (fun _ _ h3 => pt_if (fun _ => pt_rZ h3) (fun _ => pj_a (fun _ => pt_zb (jf_X5_pass h3) (fun _ _ h4 => pt_if (fun _ => pt_rZ h4) (fun _ => pj_a (fun _ => pt_zb (jf_X5_emit h4) (fun _ _ h5 => pt_if (fun _ => pt_rZ h5) (fun _ => pt_rZ h5))))))))))))
theorem jf_X11_packs {x0 : Nat} {x1 : Int32} {x2 : Int32} {σ : zS}  (hj : σ.2.1 = L) : Pt (f_X11_packs N x0 x1 x2 σ) (fun r => r.2.2.1 = L) := by
  rw [f_X11_packs.eq_1]
  exact pj_a (fun _ => pt_zb (jf_X11_isRegister hj) (fun _ _ h1 => pt_if (fun _ => pt_some h1) (fun _ => pt_if (fun _ => pt_some h1) (fun _ => pt_if (fun _ => pj_a (fun _ => pj_a (fun _ => pj_a (fun _ => pj_a (fun _ => pt_zb (jf_X2_tally h1) (fun _ _ h2 => pt_if (fun _ => pt_some h2) (fun _ => pt_if (fun _ => pj_a (fun _ => pj_a (fun _ => pt_zb (jf_X4_load h2) (fun _ _ h3 => pt_if (fun _ => pj_a (fun _ => pj_a (fun _ => pt_zb (jf_X4_fewestForAll h3) (fun _ _ h4 => pt_some h4)))) (fun _ => pj_a (fun _ => pj_a (fun _ => pt_zb (jf_X4_mostDisjoint h3) (fun _ _ h5 => pt_some h5)))))))) (fun _ => pt_some h2)))))))) (fun _ => pt_some h1)))))
end JU

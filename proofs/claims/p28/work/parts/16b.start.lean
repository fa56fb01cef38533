def ztm : Nat → Term := fun i => match i with
  | 0 => Term.string RX5 117
  | 1 => Term.string RX5 122
  | 2 => Term.string RX5 124
  | 3 => Term.string RX5 126
  | 4 => Term.string RX5 128
  | 5 => Term.string RX5 130
  | 6 => Term.string RX5 131
  | 7 => Term.string RX5 132
  | 8 => Term.string RX5 134
  | 9 => Term.string RX5 136
  | 10 => Term.string RX5 138
  | 11 => Term.string RX12 280
  | 12 => Term.string RX12 290
  | 13 => Term.string RX12 292
  | 14 => Term.string RX12 294
  | 15 => Term.string RX12 263
  | 16 => Term.string RX12 228
  | 17 => Term.string RX12 229
  | 18 => Term.string RX12 231
  | 19 => Term.string RX12 233
  | 20 => Term.string RX12 235
  | 21 => Term.string RX12 237
  | _ => Term.int 0
def zna : List Cond := flatC (Jvm.Cond.and given_1 narrow_1)
theorem zna_ex : ∀ i, i < zSn → (Cond.exactly (ztm i) "java/lang/String") ∈ zna := by decide +kernel
theorem zna_co : ∀ i, i < zSn → (Cond.eq (.field (ztm i) "java/lang/String" "coder" "B") (.int 0)) ∈ zna := by decide +kernel
theorem zna_ar : ∀ i, i < zSn → (Cond.arrayOf (.field (ztm i) "java/lang/String" "value" "[B") .byte) ∈ zna := by decide +kernel
theorem zna_le : ∀ i, i < zSn → (Cond.eq (.length (.field (ztm i) "java/lang/String" "value" "[B")) (.int (Int32.ofNat (zlen.getD i 0)))) ∈ zna := by decide +kernel
theorem zna_el : ∀ i, i < zSn → ∀ j, j < zlen.getD i 0 → (Cond.eq (.elem (.field (ztm i) "java/lang/String" "value" "[B") (.int (Int32.ofNat j))) (.int ((zbyt.getD i []).getD j 0))) ∈ zna := by decide +kernel
theorem zna_w : Cond.arrayOf (.static RX2 "WITHOUT" "[J") .long ∈ zna := by decide +kernel
theorem zna_wl : Cond.eq (.length (.static RX2 "WITHOUT" "[J")) (.int 6) ∈ zna := by decide +kernel
theorem zna_we : ∀ j, j < 6 → Cond.eq (.elem (.static RX2 "WITHOUT" "[J") (.int (Int32.ofNat j))) (.long (zWo j)) ∈ zna := by decide +kernel
theorem zna_c : Cond.eq (.static "java/lang/String" "COMPACT_STRINGS" "Z") (.int 1) ∈ zna := by decide +kernel
theorem zna_f : Cond.isRef (.static "jdk/internal/util/Preconditions" "SIOOBE_FORMATTER" "Ljava/util/function/BiFunction;") ∈ zna := by decide +kernel
theorem zls_w : Cond.laysStatic "SharedBranch$Family" "WITHOUT" "[J" ∈ lw_tbl := List.mem_of_getElem? (i := 789) (by decide +kernel)
theorem zin_w : Cond.initialized "SharedBranch$Family" ∈ lw_tbl := List.mem_of_getElem? (i := 136) (by decide +kernel)
theorem zls_c : Cond.laysStatic "java/lang/String" "COMPACT_STRINGS" "Z" ∈ lw_tbl := List.mem_of_getElem? (i := 566) (by decide +kernel)
theorem zin_c : Cond.initialized "java/lang/String" ∈ lw_tbl := List.mem_of_getElem? (i := 149) (by decide +kernel)
theorem zls_f : Cond.laysStatic "jdk/internal/util/Preconditions" "SIOOBE_FORMATTER" "Ljava/util/function/BiFunction;" ∈ lw_tbl := List.mem_of_getElem? (i := 582) (by decide +kernel)
theorem zin_f : Cond.initialized "jdk/internal/util/Preconditions" ∈ lw_tbl := List.mem_of_getElem? (i := 151) (by decide +kernel)
theorem zsr_0 : Cond.stringRef RX5 117 "names" ∈ lw_tbl := List.mem_of_getElem? (i := 552) (by decide +kernel)
theorem zsr_1 : Cond.stringRef RX5 122 "weight" ∈ lw_tbl := List.mem_of_getElem? (i := 605) (by decide +kernel)
theorem zsr_2 : Cond.stringRef RX5 124 "edge" ∈ lw_tbl := List.mem_of_getElem? (i := 606) (by decide +kernel)
theorem zsr_3 : Cond.stringRef RX5 126 "let" ∈ lw_tbl := List.mem_of_getElem? (i := 607) (by decide +kernel)
theorem zsr_4 : Cond.stringRef RX5 128 "all" ∈ lw_tbl := List.mem_of_getElem? (i := 608) (by decide +kernel)
theorem zsr_5 : Cond.stringRef RX5 130 "min" ∈ lw_tbl := List.mem_of_getElem? (i := 609) (by decide +kernel)
theorem zsr_6 : Cond.stringRef RX5 131 "max" ∈ lw_tbl := List.mem_of_getElem? (i := 610) (by decide +kernel)
theorem zsr_7 : Cond.stringRef RX5 132 "hit" ∈ lw_tbl := List.mem_of_getElem? (i := 611) (by decide +kernel)
theorem zsr_8 : Cond.stringRef RX5 134 "not" ∈ lw_tbl := List.mem_of_getElem? (i := 612) (by decide +kernel)
theorem zsr_9 : Cond.stringRef RX5 136 "up" ∈ lw_tbl := List.mem_of_getElem? (i := 613) (by decide +kernel)
theorem zsr_10 : Cond.stringRef RX5 138 "down" ∈ lw_tbl := List.mem_of_getElem? (i := 614) (by decide +kernel)
theorem zsr_11 : Cond.stringRef RX12 280 "names" ∈ lw_tbl := List.mem_of_getElem? (i := 1500) (by decide +kernel)
theorem zsr_12 : Cond.stringRef RX12 290 "weight" ∈ lw_tbl := List.mem_of_getElem? (i := 1527) (by decide +kernel)
theorem zsr_13 : Cond.stringRef RX12 292 "edge" ∈ lw_tbl := List.mem_of_getElem? (i := 1528) (by decide +kernel)
theorem zsr_14 : Cond.stringRef RX12 294 "let" ∈ lw_tbl := List.mem_of_getElem? (i := 1529) (by decide +kernel)
theorem zsr_15 : Cond.stringRef RX12 263 "all" ∈ lw_tbl := List.mem_of_getElem? (i := 1584) (by decide +kernel)
theorem zsr_16 : Cond.stringRef RX12 228 "min" ∈ lw_tbl := List.mem_of_getElem? (i := 1558) (by decide +kernel)
theorem zsr_17 : Cond.stringRef RX12 229 "max" ∈ lw_tbl := List.mem_of_getElem? (i := 1559) (by decide +kernel)
theorem zsr_18 : Cond.stringRef RX12 231 "hit" ∈ lw_tbl := List.mem_of_getElem? (i := 1560) (by decide +kernel)
theorem zsr_19 : Cond.stringRef RX12 233 "not" ∈ lw_tbl := List.mem_of_getElem? (i := 1561) (by decide +kernel)
theorem zsr_20 : Cond.stringRef RX12 235 "up" ∈ lw_tbl := List.mem_of_getElem? (i := 1562) (by decide +kernel)
theorem zsr_21 : Cond.stringRef RX12 237 "down" ∈ lw_tbl := List.mem_of_getElem? (i := 1563) (by decide +kernel)
theorem zTx_of {args : Array Value} {s : State} {A : Nat → Prop} (hn : ∀ c ∈ zna, c.before args s = true) (hA : ∀ a : Nat, a < s.heap.size → ¬ A a) : ∃ ad : Nat → Nat × Nat, ∀ i : Nat, i < zSn → (ztm i).eval args s none [] s = some (.ref (ad i).1) ∧ va_O "java/lang/String" (ad i).1 A s s.heap ∧ va_OF "java/lang/String" "coder" "B" (.int 0) (ad i).1 A s s.heap ∧ va_OF "java/lang/String" "value" "[B" (.ref (ad i).2) (ad i).1 A s s.heap ∧ va_T .byte (ad i).2 (zlen.getD i 0) (fun j => .int ((zbyt.getD i []).getD j 0)) A s s.heap := by
  have h0 : ∀ i : Nat, ∃ q : Nat × Nat, i < zSn → (ztm i).eval args s none [] s = some (.ref q.1) ∧ va_O "java/lang/String" q.1 A s s.heap ∧ va_OF "java/lang/String" "coder" "B" (.int 0) q.1 A s s.heap ∧ va_OF "java/lang/String" "value" "[B" (.ref q.2) q.1 A s s.heap ∧ va_T .byte q.2 (zlen.getD i 0) (fun j => .int ((zbyt.getD i []).getD j 0)) A s s.heap := by
    intro i
    by_cases hi : i < zSn
    · obtain ⟨a, c, cA, kA, q1, q2, q3, q4, q5, q6, -⟩ := Cond.exactly_spec (args := args) (first := s) (o := none) (s := s) (idx := []) (t := ztm i) (cls := "java/lang/String") (hn _ (zna_ex i hi))
      obtain ⟨t, ht, hT⟩ := va_Tof (f := fun j => .int ((zbyt.getD i []).getD j 0)) (A := A) (zlen_sh i hi).2 (hn _ (zna_ar i hi)) (va_eqt (hn _ (zna_le i hi))) (fun j hj => va_eqt (hn _ (zna_el i hi j hj))) hA
      exact ⟨(a, t), fun _ => ⟨q1, ⟨cA, q3, q5, by rw [q6]; exact q2, hA a (Array.getElem?_eq_some_iff.mp q3).1⟩, vk_OFof q1 (va_eqt (hn _ (zna_co i hi))) hA, vk_OFof q1 ht hA, hT⟩⟩
    · exact ⟨(0, 0), fun h => absurd h hi⟩
  exact Classical.axiomOfChoice h0
theorem lw_E {p : Program} {s : State} {m : MethodId} {meth : Method} {cd : Code} {b L : Nat} {xs : Nat → Int32} (C0 : lw_At p s m meth cd b L xs) : ∃ g : zEp, zE g s.heap.size s s.heap := by
  obtain ⟨hx, hb, hr, hml, hown, hts0, hX0, hbl, hlocks, hgv⟩ := C0
  have hn : ∀ c ∈ zna, c.before #[Value.ref b] s = true := flat_of_before _ hgv
  have hA : ∀ a : Nat, a < s.heap.size → ¬ zA s.heap.size a := fun a h => by show ¬ s.heap.size ≤ a; omega
  obtain ⟨w, hw, hT⟩ := va_Tof (f := fun j => .long (zWo j)) (A := zA s.heap.size) (N := 6) (by decide) (hn _ zna_w) (va_eqt (hn _ zna_wl)) (fun j hj => va_eqtl (hn _ (zna_we j hj))) hA
  obtain ⟨ad, had⟩ := zTx_of hn hA
  refine ⟨(w, fun i => (ad i).1, fun i => (ad i).2), va_Zref (hts0 _ zls_w) (hts0 _ zin_w) hw hA, hT, va_Zof (hts0 _ zls_c) (hts0 _ zin_c) (va_eqt (hn _ zna_c)) hA, va_Zqof (hts0 _ zls_f) (hts0 _ zin_f) (hn _ zna_f) hA, fun i hi => (had i hi).2, fun q hq => ?_⟩
  simp only [zSl, List.mem_cons, List.not_mem_nil, or_false] at hq
  rcases hq with rfl | rfl | rfl | rfl | rfl | rfl | rfl | rfl | rfl | rfl | rfl | rfl | rfl | rfl | rfl | rfl | rfl | rfl | rfl | rfl | rfl | rfl
  · exact vk_R.of (hts0 _ zsr_0) (had 0 (by decide)).1
  · exact vk_R.of (hts0 _ zsr_1) (had 1 (by decide)).1
  · exact vk_R.of (hts0 _ zsr_2) (had 2 (by decide)).1
  · exact vk_R.of (hts0 _ zsr_3) (had 3 (by decide)).1
  · exact vk_R.of (hts0 _ zsr_4) (had 4 (by decide)).1
  · exact vk_R.of (hts0 _ zsr_5) (had 5 (by decide)).1
  · exact vk_R.of (hts0 _ zsr_6) (had 6 (by decide)).1
  · exact vk_R.of (hts0 _ zsr_7) (had 7 (by decide)).1
  · exact vk_R.of (hts0 _ zsr_8) (had 8 (by decide)).1
  · exact vk_R.of (hts0 _ zsr_9) (had 9 (by decide)).1
  · exact vk_R.of (hts0 _ zsr_10) (had 10 (by decide)).1
  · exact vk_R.of (hts0 _ zsr_16) (had 16 (by decide)).1
  · exact vk_R.of (hts0 _ zsr_17) (had 17 (by decide)).1
  · exact vk_R.of (hts0 _ zsr_18) (had 18 (by decide)).1
  · exact vk_R.of (hts0 _ zsr_19) (had 19 (by decide)).1
  · exact vk_R.of (hts0 _ zsr_20) (had 20 (by decide)).1
  · exact vk_R.of (hts0 _ zsr_21) (had 21 (by decide)).1
  · exact vk_R.of (hts0 _ zsr_15) (had 15 (by decide)).1
  · exact vk_R.of (hts0 _ zsr_11) (had 11 (by decide)).1
  · exact vk_R.of (hts0 _ zsr_12) (had 12 (by decide)).1
  · exact vk_R.of (hts0 _ zsr_13) (had 13 (by decide)).1
  · exact vk_R.of (hts0 _ zsr_14) (had 14 (by decide)).1

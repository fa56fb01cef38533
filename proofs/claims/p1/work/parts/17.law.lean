theorem lw_X {b : Nat} {s : State} (hts : ∀ w ∈ lw_tbl, w.before #[Value.ref b] s = true) : zX s := by
  refine ⟨fun w hw => ?_, ?_, ?_, ?_⟩
  · simp only [zNl, List.mem_cons, List.not_mem_nil, or_false] at hw
    rcases hw with rfl | rfl | rfl | rfl | rfl | rfl | rfl | rfl | rfl | rfl | rfl | rfl
    · exact va_Nw.of rfl (hts _ (List.mem_of_getElem? (i := 174) (by decide +kernel)))
    · exact va_Nw.of rfl (hts _ (List.mem_of_getElem? (i := 237) (by decide +kernel)))
    · exact va_Nw.of rfl (hts _ (List.mem_of_getElem? (i := 297) (by decide +kernel)))
    · exact va_Nw.of rfl (hts _ (List.mem_of_getElem? (i := 307) (by decide +kernel)))
    · exact va_Nw.of rfl (hts _ (List.mem_of_getElem? (i := 312) (by decide +kernel)))
    · exact va_Nw.of rfl (hts _ (List.mem_of_getElem? (i := 331) (by decide +kernel)))
    · exact va_Nw.of rfl (hts _ (List.mem_of_getElem? (i := 344) (by decide +kernel)))
    · exact va_Nw.of rfl (hts _ (List.mem_of_getElem? (i := 378) (by decide +kernel)))
    · exact va_Nw.of rfl (hts _ (List.mem_of_getElem? (i := 394) (by decide +kernel)))
    · exact va_Nw.of rfl (hts _ (List.mem_of_getElem? (i := 404) (by decide +kernel)))
    · exact va_Nw.of rfl (hts _ (List.mem_of_getElem? (i := 419) (by decide +kernel)))
    · exact va_Nw.of rfl (hts _ (List.mem_of_getElem? (i := 421) (by decide +kernel)))
  · exact va_AO.of (hts _ (List.mem_of_getElem? (i := 172) (by decide +kernel)))
  · exact va_AO.of (hts _ (List.mem_of_getElem? (i := 234) (by decide +kernel)))
  · exact va_AO.of (hts _ (List.mem_of_getElem? (i := 232) (by decide +kernel)))
set_option maxHeartbeats 4000000 in
set_option maxRecDepth 100000 in
theorem lw_round {p : Program} {e : Env} {s : State} {m : MethodId} {below : List Frame} {meth : Method} {cd : Code} (l : Launch) {b : Nat} {xs : Nat → Int32} {o : Nat} {D : va_G} {c : zC} (ho : s.heap.size = o) (C0 : lw_At p s m meth cd b 6 xs) (hK : zKt D c s) {σ : zS} (hσ : σ = zs0 o) {H : Heap} {locs : List Loc} {ls : Array Slot} (hP : zP D c o σ H) (hS : va_S (zA o) s.heap H locs) (hl : lv_has ls 4 [(3, .int 0), (2, .ref (o + 218)), (1, .ref (o + 0)), (0, .ref b)]) : W p l e room_1 s m #[Value.ref b] below meth cd H locs 243 106038 (lw_Z below #[Value.ref b] s) (F0 m 18 ls []) := by
  have C00 := C0
  obtain ⟨hx, hb, hr, hml, hown, hts0, hX0, hbl, hlocks, hgv⟩ := C0
  have hts : ∀ w ∈ zWl, w.before #[Value.ref b] s = true := fun w hw => hts0 w (List.mem_filter.mp hw).1
  have hown : s.vm.findClass RL = some m.cls := hown
  have hbA : ¬ zA o b := by show ¬ o ≤ b; omega
  have h0 : σ.1 2 0 = 0 := by rw [hσ]; rfl
  have h1 : σ.1 2 1 = 0 := by rw [hσ]; rfl
  have h2 : σ.1 2 2 = 0 := by rw [hσ]; rfl
  have ht : σ.1 0 1 = 0 := by rw [hσ]; rfl
  have hk : σ.1 0 2 = 0 := by rw [hσ]; rfl
  have hp : σ.1 0 3 = (-1) := by rw [hσ]; rfl
  have hk0 : σ.1 55 0 = 0 := by rw [hσ]; rfl
  have hk1 : σ.1 55 1 = 0 := by rw [hσ]; rfl
  have hk2 : σ.1 55 2 = 0 := by rw [hσ]; rfl
  have hb210 : σ.1 210 2 = (-1) := by rw [hσ]; rfl
  have hb212 : σ.1 212 2 = (-1) := by rw [hσ]; rfl
  have hb214 : σ.1 214 2 = (-1) := by rw [hσ]; rfl
  have hb216 : σ.1 216 2 = (-1) := by rw [hσ]; rfl
  have m0 : σ.1 219 0 = 0 := by rw [hσ]; rfl
  have m1 : σ.1 219 1 = 0 := by rw [hσ]; rfl
  have m2 : σ.1 219 2 = 0 := by rw [hσ]; rfl
  have mt : σ.1 218 7 = 0 := by rw [hσ]; rfl
  have mk : σ.1 218 14 = 0 := by rw [hσ]; rfl
  have mp : σ.1 218 15 = (-1) := by rw [hσ]; rfl
  have mh0 : σ.1 223 0 = 0 := by rw [hσ]; rfl
  have mh1 : σ.1 223 1 = 0 := by rw [hσ]; rfl
  have mh2 : σ.1 223 2 = 0 := by rw [hσ]; rfl
  have mm0 : σ.1 239 0 = (-1) := by rw [hσ]; rfl
  have mm1 : σ.1 239 1 = (-1) := by rw [hσ]; rfl
  have mm2 : σ.1 239 2 = (-1) := by rw [hσ]; rfl
  have mm3 : σ.1 239 3 = (-1) := by rw [hσ]; rfl
  have hR : zRef o σ.2.2 := by rw [hσ]; exact fun _ _ _ => rfl
  have hN : σ.2.2 0 4 = o + 2 := by rw [hσ]; rfl
  have hSp : σ.2.2 0 5 = o + 28 := by rw [hσ]; rfl
  have hz : ∀ k j, σ.2.1 k j = 0 := by rw [hσ]; exact fun _ _ => rfl
  refine lv_iload_n (pc := 18) hx hb dL_law_18 rfl (lv_at hl 0 rfl) ?_
  refine lv_aload_n (pc := 19) hx hb dL_law_19 rfl (lv_at hl 3 rfl) ?_
  refine va_slen (pc := 20) hx hb hX0 hbl hbA hS dL_law_20 ?_
  refine lv_topi (pc := 21) (fun v1 ev1 => ?_)
  obtain rfl : v1 = 6 := ev1.trans (by decide)
  refine lv_bipush (pc := 21) (v := 6) hx hb dL_law_21 (by decide) ?_
  refine lv_isub (pc := 23) hx hb dL_law_23 ?_
  refine lv_topi (pc := 24) (fun v2 ev2 => ?_)
  obtain rfl : v2 = 0 := ev2.trans (by decide)
  refine lv_icmp_gt (pc := 24) (tgt := 1875) hx hb dL_law_24 (by decide) (fun c3 => absurd c3 (by decide)) (fun _ => ?_)
  refine lv_aload_n (pc := 27) hx hb dL_law_27 rfl (lv_at hl 3 rfl) ?_
  refine lv_iload_n (pc := 28) hx hb dL_law_28 rfl (lv_at hl 0 rfl) ?_
  refine zsld (pc := 29) (k := 0) hx hb hX0 hbl hbA hS (vp_in_iff.mpr ⟨by decide, by decide⟩) rfl dL_law_29 ?_
  refine lv_bipush (pc := 30) (v := 63) hx hb dL_law_30 (by decide) ?_
  refine lv_iand (pc := 32) hx hb dL_law_32 ?_
  refine lv_topi (pc := 33) (fun v4 ev4 => ?_)
  by_cases w0_ : v4 = 0
  · subst w0_
    refine lv_tableIn (pc := 33) (tgt := 236) hx hb dL_law_33 (by decide) (by decide) rfl (by decide) ?_
    exact lw_case0 l ho C00 hK h0 h1 h2 ht hk hp hk0 hk1 hk2 hb210 hb212 hb214 hb216 m0 m1 m2 mt mk mp mh0 mh1 mh2 mm0 mm1 mm2 mm3 hR hN hSp hz hP hS (lv_sub hl [0, 1, 2, 3] rfl)
  by_cases w1_ : v4 = 1
  · subst w1_
    refine lv_tableIn (pc := 33) (tgt := 299) hx hb dL_law_33 (by decide) (by decide) rfl (by decide) ?_
    exact lw_case1 l ho C00 hK h0 h1 h2 ht hk hp hk0 hk1 hk2 hb210 hb212 hb214 hb216 m0 m1 m2 mt mk mp mh0 mh1 mh2 mm0 mm1 mm2 mm3 hR hN hSp hz hP hS (lv_sub hl [0, 1, 2, 3] rfl)
  by_cases w2_ : v4 = 2
  · subst w2_
    refine lv_tableIn (pc := 33) (tgt := 322) hx hb dL_law_33 (by decide) (by decide) rfl (by decide) ?_
    exact lw_case2 l ho C00 hK h0 h1 h2 ht hk hp hk0 hk1 hk2 hb210 hb212 hb214 hb216 m0 m1 m2 mt mk mp mh0 mh1 mh2 mm0 mm1 mm2 mm3 hR hN hSp hz hP hS (lv_sub hl [0, 1, 2, 3] rfl)
  by_cases w3_ : v4 = 3
  · subst w3_
    refine lv_tableIn (pc := 33) (tgt := 335) hx hb dL_law_33 (by decide) (by decide) rfl (by decide) ?_
    exact lw_case3 l ho C00 hK h0 h1 h2 ht hk hp hk0 hk1 hk2 hb210 hb212 hb214 hb216 m0 m1 m2 mt mk mp mh0 mh1 mh2 mm0 mm1 mm2 mm3 hR hN hSp hz hP hS (lv_sub hl [0, 1, 2, 3] rfl)
  by_cases w4_ : v4 = 4
  · subst w4_
    refine lv_tableIn (pc := 33) (tgt := 358) hx hb dL_law_33 (by decide) (by decide) rfl (by decide) ?_
    exact lw_case4 l ho C00 hK h0 h1 h2 ht hk hp hk0 hk1 hk2 hb210 hb212 hb214 hb216 m0 m1 m2 mt mk mp mh0 mh1 mh2 mm0 mm1 mm2 mm3 hR hN hSp hz hP hS (lv_sub hl [0, 1, 2, 3] rfl)
  by_cases w5_ : v4 = 5
  · subst w5_
    refine lv_tableIn (pc := 33) (tgt := 381) hx hb dL_law_33 (by decide) (by decide) rfl (by decide) ?_
    exact lw_case5 l ho C00 hK h0 h1 h2 ht hk hp hk0 hk1 hk2 hb210 hb212 hb214 hb216 m0 m1 m2 mt mk mp mh0 mh1 mh2 mm0 mm1 mm2 mm3 hR hN hSp hz hP hS (lv_sub hl [0, 1, 2, 3] rfl)
  by_cases w6_ : v4 = 6
  · subst w6_
    refine lv_tableIn (pc := 33) (tgt := 404) hx hb dL_law_33 (by decide) (by decide) rfl (by decide) ?_
    exact lw_case6 l ho C00 hK h0 h1 h2 ht hk hp hk0 hk1 hk2 hb210 hb212 hb214 hb216 m0 m1 m2 mt mk mp mh0 mh1 mh2 mm0 mm1 mm2 mm3 hR hN hSp hz hP hS (lv_sub hl [0, 1, 2, 3] rfl)
  by_cases w7_ : v4 = 7
  · subst w7_
    refine lv_tableIn (pc := 33) (tgt := 437) hx hb dL_law_33 (by decide) (by decide) rfl (by decide) ?_
    exact lw_case7 l ho C00 hK h0 h1 h2 ht hk hp hk0 hk1 hk2 hb210 hb212 hb214 hb216 m0 m1 m2 mt mk mp mh0 mh1 mh2 mm0 mm1 mm2 mm3 hR hN hSp hz hP hS (lv_sub hl [0, 1, 2, 3] rfl)
  by_cases w8_ : v4 = 8
  · subst w8_
    refine lv_tableIn (pc := 33) (tgt := 490) hx hb dL_law_33 (by decide) (by decide) rfl (by decide) ?_
    exact lw_case8 l ho C00 hK h0 h1 h2 ht hk hp hk0 hk1 hk2 hb210 hb212 hb214 hb216 m0 m1 m2 mt mk mp mh0 mh1 mh2 mm0 mm1 mm2 mm3 hR hN hSp hz hP hS (lv_sub hl [0, 1, 2, 3] rfl)
  by_cases w9_ : v4 = 9
  · subst w9_
    refine lv_tableIn (pc := 33) (tgt := 533) hx hb dL_law_33 (by decide) (by decide) rfl (by decide) ?_
    exact lw_case9 l ho C00 hK h0 h1 h2 ht hk hp hk0 hk1 hk2 hb210 hb212 hb214 hb216 m0 m1 m2 mt mk mp mh0 mh1 mh2 mm0 mm1 mm2 mm3 hR hN hSp hz hP hS (lv_sub hl [0, 1, 2, 3] rfl)
  by_cases w10_ : v4 = 10
  · subst w10_
    refine lv_tableIn (pc := 33) (tgt := 592) hx hb dL_law_33 (by decide) (by decide) rfl (by decide) ?_
    exact lw_case10 l ho C00 hK h0 h1 h2 ht hk hp hk0 hk1 hk2 hb210 hb212 hb214 hb216 m0 m1 m2 mt mk mp mh0 mh1 mh2 mm0 mm1 mm2 mm3 hR hN hSp hz hP hS (lv_sub hl [0, 1, 2, 3] rfl)
  by_cases w11_ : v4 = 11
  · subst w11_
    refine lv_tableIn (pc := 33) (tgt := 635) hx hb dL_law_33 (by decide) (by decide) rfl (by decide) ?_
    exact lw_case11 l ho C00 hK h0 h1 h2 ht hk hp hk0 hk1 hk2 hb210 hb212 hb214 hb216 m0 m1 m2 mt mk mp mh0 mh1 mh2 mm0 mm1 mm2 mm3 hR hN hSp hz hP hS (lv_sub hl [0, 1, 2, 3] rfl)
  by_cases w12_ : v4 = 12
  · subst w12_
    refine lv_tableIn (pc := 33) (tgt := 704) hx hb dL_law_33 (by decide) (by decide) rfl (by decide) ?_
    exact lw_case12 l ho C00 hK h0 h1 h2 ht hk hp hk0 hk1 hk2 hb210 hb212 hb214 hb216 m0 m1 m2 mt mk mp mh0 mh1 mh2 mm0 mm1 mm2 mm3 hR hN hSp hz hP hS (lv_sub hl [0, 1, 2, 3] rfl)
  by_cases w13_ : v4 = 13
  · subst w13_
    refine lv_tableIn (pc := 33) (tgt := 747) hx hb dL_law_33 (by decide) (by decide) rfl (by decide) ?_
    exact lw_case13 l ho C00 hK h0 h1 h2 ht hk hp hk0 hk1 hk2 hb210 hb212 hb214 hb216 m0 m1 m2 mt mk mp mh0 mh1 mh2 mm0 mm1 mm2 mm3 hR hN hSp hz hP hS (lv_sub hl [0, 1, 2, 3] rfl)
  by_cases w14_ : v4 = 14
  · subst w14_
    refine lv_tableIn (pc := 33) (tgt := 780) hx hb dL_law_33 (by decide) (by decide) rfl (by decide) ?_
    exact lw_case14 l ho C00 hK h0 h1 h2 ht hk hp hk0 hk1 hk2 hb210 hb212 hb214 hb216 m0 m1 m2 mt mk mp mh0 mh1 mh2 mm0 mm1 mm2 mm3 hR hN hSp hz hP hS (lv_sub hl [0, 1, 2, 3] rfl)
  by_cases w15_ : v4 = 15
  · subst w15_
    refine lv_tableIn (pc := 33) (tgt := 813) hx hb dL_law_33 (by decide) (by decide) rfl (by decide) ?_
    exact lw_case15 l ho C00 hK h0 h1 h2 ht hk hp hk0 hk1 hk2 hb210 hb212 hb214 hb216 m0 m1 m2 mt mk mp mh0 mh1 mh2 mm0 mm1 mm2 mm3 hR hN hSp hz hP hS (lv_sub hl [0, 1, 2, 3] rfl)
  by_cases w16_ : v4 = 16
  · subst w16_
    refine lv_tableIn (pc := 33) (tgt := 846) hx hb dL_law_33 (by decide) (by decide) rfl (by decide) ?_
    exact lw_case16 l ho C00 hK h0 h1 h2 ht hk hp hk0 hk1 hk2 hb210 hb212 hb214 hb216 m0 m1 m2 mt mk mp mh0 mh1 mh2 mm0 mm1 mm2 mm3 hR hN hSp hz hP hS (lv_sub hl [0, 1, 2, 3] rfl)
  by_cases w17_ : v4 = 17
  · subst w17_
    refine lv_tableIn (pc := 33) (tgt := 869) hx hb dL_law_33 (by decide) (by decide) rfl (by decide) ?_
    exact lw_case17 l ho C00 hK h0 h1 h2 ht hk hp hk0 hk1 hk2 hb210 hb212 hb214 hb216 m0 m1 m2 mt mk mp mh0 mh1 mh2 mm0 mm1 mm2 mm3 hR hN hSp hz hP hS (lv_sub hl [0, 1, 2, 3] rfl)
  by_cases w18_ : v4 = 18
  · subst w18_
    refine lv_tableIn (pc := 33) (tgt := 902) hx hb dL_law_33 (by decide) (by decide) rfl (by decide) ?_
    exact lw_case18 l ho C00 hK h0 h1 h2 ht hk hp hk0 hk1 hk2 hb210 hb212 hb214 hb216 m0 m1 m2 mt mk mp mh0 mh1 mh2 mm0 mm1 mm2 mm3 hR hN hSp hz hP hS (lv_sub hl [0, 1, 2, 3] rfl)
  by_cases w19_ : v4 = 19
  · subst w19_
    refine lv_tableIn (pc := 33) (tgt := 935) hx hb dL_law_33 (by decide) (by decide) rfl (by decide) ?_
    exact lw_case19 l ho C00 hK h0 h1 h2 ht hk hp hk0 hk1 hk2 hb210 hb212 hb214 hb216 m0 m1 m2 mt mk mp mh0 mh1 mh2 mm0 mm1 mm2 mm3 hR hN hSp hz hP hS (lv_sub hl [0, 1, 2, 3] rfl)
  by_cases w20_ : v4 = 20
  · subst w20_
    refine lv_tableIn (pc := 33) (tgt := 968) hx hb dL_law_33 (by decide) (by decide) rfl (by decide) ?_
    exact lw_case20 l ho C00 hK h0 h1 h2 ht hk hp hk0 hk1 hk2 hb210 hb212 hb214 hb216 m0 m1 m2 mt mk mp mh0 mh1 mh2 mm0 mm1 mm2 mm3 hR hN hSp hz hP hS (lv_sub hl [0, 1, 2, 3] rfl)
  by_cases w21_ : v4 = 21
  · subst w21_
    refine lv_tableIn (pc := 33) (tgt := 1001) hx hb dL_law_33 (by decide) (by decide) rfl (by decide) ?_
    exact lw_case21 l ho C00 hK h0 h1 h2 ht hk hp hk0 hk1 hk2 hb210 hb212 hb214 hb216 m0 m1 m2 mt mk mp mh0 mh1 mh2 mm0 mm1 mm2 mm3 hR hN hSp hz hP hS (lv_sub hl [0, 1, 2, 3] rfl)
  by_cases w22_ : v4 = 22
  · subst w22_
    refine lv_tableIn (pc := 33) (tgt := 1034) hx hb dL_law_33 (by decide) (by decide) rfl (by decide) ?_
    exact lw_case22 l ho C00 hK h0 h1 h2 ht hk hp hk0 hk1 hk2 hb210 hb212 hb214 hb216 m0 m1 m2 mt mk mp mh0 mh1 mh2 mm0 mm1 mm2 mm3 hR hN hSp hz hP hS (lv_sub hl [0, 1, 2, 3] rfl)
  by_cases w23_ : v4 = 23
  · subst w23_
    refine lv_tableIn (pc := 33) (tgt := 1067) hx hb dL_law_33 (by decide) (by decide) rfl (by decide) ?_
    exact lw_case23 l ho C00 hK h0 h1 h2 ht hk hp hk0 hk1 hk2 hb210 hb212 hb214 hb216 m0 m1 m2 mt mk mp mh0 mh1 mh2 mm0 mm1 mm2 mm3 hR hN hSp hz hP hS (lv_sub hl [0, 1, 2, 3] rfl)
  by_cases w24_ : v4 = 24
  · subst w24_
    refine lv_tableIn (pc := 33) (tgt := 1100) hx hb dL_law_33 (by decide) (by decide) rfl (by decide) ?_
    exact lw_case24 l ho C00 hK h0 h1 h2 ht hk hp hk0 hk1 hk2 hb210 hb212 hb214 hb216 m0 m1 m2 mt mk mp mh0 mh1 mh2 mm0 mm1 mm2 mm3 hR hN hSp hz hP hS (lv_sub hl [0, 1, 2, 3] rfl)
  by_cases w25_ : v4 = 25
  · subst w25_
    refine lv_tableIn (pc := 33) (tgt := 1133) hx hb dL_law_33 (by decide) (by decide) rfl (by decide) ?_
    exact lw_case25 l ho C00 hK h0 h1 h2 ht hk hp hk0 hk1 hk2 hb210 hb212 hb214 hb216 m0 m1 m2 mt mk mp mh0 mh1 mh2 mm0 mm1 mm2 mm3 hR hN hSp hz hP hS (lv_sub hl [0, 1, 2, 3] rfl)
  by_cases w26_ : v4 = 26
  · subst w26_
    refine lv_tableIn (pc := 33) (tgt := 1166) hx hb dL_law_33 (by decide) (by decide) rfl (by decide) ?_
    exact lw_case26 l ho C00 hK h0 h1 h2 ht hk hp hk0 hk1 hk2 hb210 hb212 hb214 hb216 m0 m1 m2 mt mk mp mh0 mh1 mh2 mm0 mm1 mm2 mm3 hR hN hSp hz hP hS (lv_sub hl [0, 1, 2, 3] rfl)
  by_cases w27_ : v4 = 27
  · subst w27_
    refine lv_tableIn (pc := 33) (tgt := 1199) hx hb dL_law_33 (by decide) (by decide) rfl (by decide) ?_
    exact lw_case27 l ho C00 hK h0 h1 h2 ht hk hp hk0 hk1 hk2 hb210 hb212 hb214 hb216 m0 m1 m2 mt mk mp mh0 mh1 mh2 mm0 mm1 mm2 mm3 hR hN hSp hz hP hS (lv_sub hl [0, 1, 2, 3] rfl)
  by_cases w28_ : v4 = 28
  · subst w28_
    refine lv_tableIn (pc := 33) (tgt := 1232) hx hb dL_law_33 (by decide) (by decide) rfl (by decide) ?_
    exact lw_case28 l ho C00 hK h0 h1 h2 ht hk hp hk0 hk1 hk2 hb210 hb212 hb214 hb216 m0 m1 m2 mt mk mp mh0 mh1 mh2 mm0 mm1 mm2 mm3 hR hN hSp hz hP hS (lv_sub hl [0, 1, 2, 3] rfl)
  by_cases w29_ : v4 = 29
  · subst w29_
    refine lv_tableIn (pc := 33) (tgt := 1255) hx hb dL_law_33 (by decide) (by decide) rfl (by decide) ?_
    exact lw_case29 l ho C00 hK h0 h1 h2 ht hk hp hk0 hk1 hk2 hb210 hb212 hb214 hb216 m0 m1 m2 mt mk mp mh0 mh1 mh2 mm0 mm1 mm2 mm3 hR hN hSp hz hP hS (lv_sub hl [0, 1, 2, 3] rfl)
  by_cases w30_ : v4 = 30
  · subst w30_
    refine lv_tableIn (pc := 33) (tgt := 1268) hx hb dL_law_33 (by decide) (by decide) rfl (by decide) ?_
    exact lw_case30 l ho C00 hK h0 h1 h2 ht hk hp hk0 hk1 hk2 hb210 hb212 hb214 hb216 m0 m1 m2 mt mk mp mh0 mh1 mh2 mm0 mm1 mm2 mm3 hR hN hSp hz hP hS (lv_sub hl [0, 1, 2, 3] rfl)
  by_cases w31_ : v4 = 31
  · subst w31_
    refine lv_tableIn (pc := 33) (tgt := 1301) hx hb dL_law_33 (by decide) (by decide) rfl (by decide) ?_
    exact lw_case31 l ho C00 hK h0 h1 h2 ht hk hp hk0 hk1 hk2 hb210 hb212 hb214 hb216 m0 m1 m2 mt mk mp mh0 mh1 mh2 mm0 mm1 mm2 mm3 hR hN hSp hz hP hS (lv_sub hl [0, 1, 2, 3] rfl)
  by_cases w32_ : v4 = 32
  · subst w32_
    refine lv_tableIn (pc := 33) (tgt := 1324) hx hb dL_law_33 (by decide) (by decide) rfl (by decide) ?_
    exact lw_case32 l ho C00 hK h0 h1 h2 ht hk hp hk0 hk1 hk2 hb210 hb212 hb214 hb216 m0 m1 m2 mt mk mp mh0 mh1 mh2 mm0 mm1 mm2 mm3 hR hN hSp hz hP hS (lv_sub hl [0, 1, 2, 3] rfl)
  by_cases w33_ : v4 = 33
  · subst w33_
    refine lv_tableIn (pc := 33) (tgt := 1347) hx hb dL_law_33 (by decide) (by decide) rfl (by decide) ?_
    exact lw_case33 l ho C00 hK h0 h1 h2 ht hk hp hk0 hk1 hk2 hb210 hb212 hb214 hb216 m0 m1 m2 mt mk mp mh0 mh1 mh2 mm0 mm1 mm2 mm3 hR hN hSp hz hP hS (lv_sub hl [0, 1, 2, 3] rfl)
  by_cases w34_ : v4 = 34
  · subst w34_
    refine lv_tableIn (pc := 33) (tgt := 1380) hx hb dL_law_33 (by decide) (by decide) rfl (by decide) ?_
    exact lw_case34 l ho C00 hK h0 h1 h2 ht hk hp hk0 hk1 hk2 hb210 hb212 hb214 hb216 m0 m1 m2 mt mk mp mh0 mh1 mh2 mm0 mm1 mm2 mm3 hR hN hSp hz hP hS (lv_sub hl [0, 1, 2, 3] rfl)
  by_cases w35_ : v4 = 35
  · subst w35_
    refine lv_tableIn (pc := 33) (tgt := 1413) hx hb dL_law_33 (by decide) (by decide) rfl (by decide) ?_
    exact lw_case35 l ho C00 hK h0 h1 h2 ht hk hp hk0 hk1 hk2 hb210 hb212 hb214 hb216 m0 m1 m2 mt mk mp mh0 mh1 mh2 mm0 mm1 mm2 mm3 hR hN hSp hz hP hS (lv_sub hl [0, 1, 2, 3] rfl)
  by_cases w36_ : v4 = 36
  · subst w36_
    refine lv_tableIn (pc := 33) (tgt := 1436) hx hb dL_law_33 (by decide) (by decide) rfl (by decide) ?_
    exact lw_case36 l ho C00 hK h0 h1 h2 ht hk hp hk0 hk1 hk2 hb210 hb212 hb214 hb216 m0 m1 m2 mt mk mp mh0 mh1 mh2 mm0 mm1 mm2 mm3 hR hN hSp hz hP hS (lv_sub hl [0, 1, 2, 3] rfl)
  by_cases w37_ : v4 = 37
  · subst w37_
    refine lv_tableIn (pc := 33) (tgt := 1479) hx hb dL_law_33 (by decide) (by decide) rfl (by decide) ?_
    exact lw_case37 l ho C00 hK h0 h1 h2 ht hk hp hk0 hk1 hk2 hb210 hb212 hb214 hb216 m0 m1 m2 mt mk mp mh0 mh1 mh2 mm0 mm1 mm2 mm3 hR hN hSp hz hP hS (lv_sub hl [0, 1, 2, 3] rfl)
  by_cases w38_ : v4 = 38
  · subst w38_
    refine lv_tableIn (pc := 33) (tgt := 1512) hx hb dL_law_33 (by decide) (by decide) rfl (by decide) ?_
    exact lw_case38 l ho C00 hK h0 h1 h2 ht hk hp hk0 hk1 hk2 hb210 hb212 hb214 hb216 m0 m1 m2 mt mk mp mh0 mh1 mh2 mm0 mm1 mm2 mm3 hR hN hSp hz hP hS (lv_sub hl [0, 1, 2, 3] rfl)
  by_cases w39_ : v4 = 39
  · subst w39_
    refine lv_tableIn (pc := 33) (tgt := 1555) hx hb dL_law_33 (by decide) (by decide) rfl (by decide) ?_
    exact lw_case39 l ho C00 hK h0 h1 h2 ht hk hp hk0 hk1 hk2 hb210 hb212 hb214 hb216 m0 m1 m2 mt mk mp mh0 mh1 mh2 mm0 mm1 mm2 mm3 hR hN hSp hz hP hS (lv_sub hl [0, 1, 2, 3] rfl)
  by_cases w40_ : v4 = 40
  · subst w40_
    refine lv_tableIn (pc := 33) (tgt := 1588) hx hb dL_law_33 (by decide) (by decide) rfl (by decide) ?_
    exact lw_case40 l ho C00 hK h0 h1 h2 ht hk hp hk0 hk1 hk2 hb210 hb212 hb214 hb216 m0 m1 m2 mt mk mp mh0 mh1 mh2 mm0 mm1 mm2 mm3 hR hN hSp hz hP hS (lv_sub hl [0, 1, 2, 3] rfl)
  by_cases w41_ : v4 = 41
  · subst w41_
    refine lv_tableIn (pc := 33) (tgt := 1621) hx hb dL_law_33 (by decide) (by decide) rfl (by decide) ?_
    exact lw_case41 l ho C00 hK h0 h1 h2 ht hk hp hk0 hk1 hk2 hb210 hb212 hb214 hb216 m0 m1 m2 mt mk mp mh0 mh1 mh2 mm0 mm1 mm2 mm3 hR hN hSp hz hP hS (lv_sub hl [0, 1, 2, 3] rfl)
  by_cases w42_ : v4 = 42
  · subst w42_
    refine lv_tableIn (pc := 33) (tgt := 1644) hx hb dL_law_33 (by decide) (by decide) rfl (by decide) ?_
    exact lw_case42 l ho C00 hK h0 h1 h2 ht hk hp hk0 hk1 hk2 hb210 hb212 hb214 hb216 m0 m1 m2 mt mk mp mh0 mh1 mh2 mm0 mm1 mm2 mm3 hR hN hSp hz hP hS (lv_sub hl [0, 1, 2, 3] rfl)
  by_cases w43_ : v4 = 43
  · subst w43_
    refine lv_tableIn (pc := 33) (tgt := 1667) hx hb dL_law_33 (by decide) (by decide) rfl (by decide) ?_
    exact lw_case43 l ho C00 hK h0 h1 h2 ht hk hp hk0 hk1 hk2 hb210 hb212 hb214 hb216 m0 m1 m2 mt mk mp mh0 mh1 mh2 mm0 mm1 mm2 mm3 hR hN hSp hz hP hS (lv_sub hl [0, 1, 2, 3] rfl)
  by_cases w44_ : v4 = 44
  · subst w44_
    refine lv_tableIn (pc := 33) (tgt := 1690) hx hb dL_law_33 (by decide) (by decide) rfl (by decide) ?_
    exact lw_case44 l ho C00 hK h0 h1 h2 ht hk hp hk0 hk1 hk2 hb210 hb212 hb214 hb216 m0 m1 m2 mt mk mp mh0 mh1 mh2 mm0 mm1 mm2 mm3 hR hN hSp hz hP hS (lv_sub hl [0, 1, 2, 3] rfl)
  by_cases w45_ : v4 = 45
  · subst w45_
    refine lv_tableIn (pc := 33) (tgt := 1733) hx hb dL_law_33 (by decide) (by decide) rfl (by decide) ?_
    exact lw_case45 l ho C00 hK h0 h1 h2 ht hk hp hk0 hk1 hk2 hb210 hb212 hb214 hb216 m0 m1 m2 mt mk mp mh0 mh1 mh2 mm0 mm1 mm2 mm3 hR hN hSp hz hP hS (lv_sub hl [0, 1, 2, 3] rfl)
  by_cases w46_ : v4 = 46
  · subst w46_
    refine lv_tableIn (pc := 33) (tgt := 1806) hx hb dL_law_33 (by decide) (by decide) rfl (by decide) ?_
    exact lw_case46 l ho C00 hK h0 h1 h2 ht hk hp hk0 hk1 hk2 hb210 hb212 hb214 hb216 m0 m1 m2 mt mk mp mh0 mh1 mh2 mm0 mm1 mm2 mm3 hR hN hSp hz hP hS (lv_sub hl [0, 1, 2, 3] rfl)
  have wo : v4.toInt < 0 ∨ 46 < v4.toInt := by
    have q0 := lv_neT w0_ (a := 0) rfl
    have q1 := lv_neT w1_ (a := 1) rfl
    have q2 := lv_neT w2_ (a := 2) rfl
    have q3 := lv_neT w3_ (a := 3) rfl
    have q4 := lv_neT w4_ (a := 4) rfl
    have q5 := lv_neT w5_ (a := 5) rfl
    have q6 := lv_neT w6_ (a := 6) rfl
    have q7 := lv_neT w7_ (a := 7) rfl
    have q8 := lv_neT w8_ (a := 8) rfl
    have q9 := lv_neT w9_ (a := 9) rfl
    have q10 := lv_neT w10_ (a := 10) rfl
    have q11 := lv_neT w11_ (a := 11) rfl
    have q12 := lv_neT w12_ (a := 12) rfl
    have q13 := lv_neT w13_ (a := 13) rfl
    have q14 := lv_neT w14_ (a := 14) rfl
    have q15 := lv_neT w15_ (a := 15) rfl
    have q16 := lv_neT w16_ (a := 16) rfl
    have q17 := lv_neT w17_ (a := 17) rfl
    have q18 := lv_neT w18_ (a := 18) rfl
    have q19 := lv_neT w19_ (a := 19) rfl
    have q20 := lv_neT w20_ (a := 20) rfl
    have q21 := lv_neT w21_ (a := 21) rfl
    have q22 := lv_neT w22_ (a := 22) rfl
    have q23 := lv_neT w23_ (a := 23) rfl
    have q24 := lv_neT w24_ (a := 24) rfl
    have q25 := lv_neT w25_ (a := 25) rfl
    have q26 := lv_neT w26_ (a := 26) rfl
    have q27 := lv_neT w27_ (a := 27) rfl
    have q28 := lv_neT w28_ (a := 28) rfl
    have q29 := lv_neT w29_ (a := 29) rfl
    have q30 := lv_neT w30_ (a := 30) rfl
    have q31 := lv_neT w31_ (a := 31) rfl
    have q32 := lv_neT w32_ (a := 32) rfl
    have q33 := lv_neT w33_ (a := 33) rfl
    have q34 := lv_neT w34_ (a := 34) rfl
    have q35 := lv_neT w35_ (a := 35) rfl
    have q36 := lv_neT w36_ (a := 36) rfl
    have q37 := lv_neT w37_ (a := 37) rfl
    have q38 := lv_neT w38_ (a := 38) rfl
    have q39 := lv_neT w39_ (a := 39) rfl
    have q40 := lv_neT w40_ (a := 40) rfl
    have q41 := lv_neT w41_ (a := 41) rfl
    have q42 := lv_neT w42_ (a := 42) rfl
    have q43 := lv_neT w43_ (a := 43) rfl
    have q44 := lv_neT w44_ (a := 44) rfl
    have q45 := lv_neT w45_ (a := 45) rfl
    have q46 := lv_neT w46_ (a := 46) rfl
    omega
  refine lv_tableOut (pc := 33) (tgt := 1869) hx hb dL_law_33 wo (by decide) ?_
  exact lw_tail l ho C00 hK hS (lv_sub hl [0, 1, 2, 3] rfl)
set_option maxHeartbeats 4000000 in
set_option maxRecDepth 100000 in
theorem whole_start {p : Program} {e : Env} {s : State} {m : MethodId} {below : List Frame} {meth : Method} {c : Code} (l : Launch) {b L : Nat} {xs : Nat → Int32} (hL : L ≤ 6) (C0 : lw_At p s m meth c b L xs) : W p l e room_1 s m #[Value.ref b] below meth c s.heap [] 0 0 (lw_Z below #[Value.ref b] s) (entryFrame m ([Value.ref b] : List Value).toArray 4) := by
  have C00 := C0
  obtain ⟨hx, hb, hr, hml, hown, hts0, hX0, hbl, hlocks, hgv⟩ := C0
  have hts : ∀ w ∈ zWl, w.before #[Value.ref b] s = true := fun w hw => hts0 w (List.mem_filter.mp hw).1
  have hown : s.vm.findClass RL = some m.cls := hown
  have hX : zX s := lw_X hts0
  obtain ⟨D, cC, hK⟩ := zknown hts hX
  obtain ⟨o, ho⟩ : ∃ o, s.heap.size = o := ⟨_, rfl⟩
  have hbA : ¬ zA o b := by show ¬ o ≤ b; omega
  have hS : va_S (zA o) s.heap s.heap [] := va_S.rf
  have hP : zL D o [] s.heap := ⟨ho, fun k q h => by simp at h⟩
  have hl := lv_entry ([.ref b]) (n := 4) (Nat.le_of_ble_eq_true rfl)
  rw [lg_entry_eq]
  generalize (lg_sl ([.ref b]) ++ List.replicate (4 - (lg_sl ([.ref b])).length) Slot.unset).toArray = ls at hl ⊢
  have hl : lv_has ls 4 [(0, .ref b)] := hl
  refine zcnew (c := cC) (pc := 0) (fs := [.null, .int 0, .int 0, .int 0, .null, .null, .null, .null, .null, .null, .null, .null, .null, .null, .null, .null, .null, .null, .null]) (a := o) zc11 hx hb hts hown hK hP hS zc_L_7 zi_X11 zn_X11 zdf11 (Nat.le_of_ble_eq_true rfl) (Nat.le_of_ble_eq_true rfl) rfl dL_law_0 (fun H hP hS => ?_)
  refine W.widen (k := 1) (n := 19) (Nat.le_of_ble_eq_true rfl) (Nat.le_of_ble_eq_true rfl) ?_
  refine lv_dup (pc := 3) hx hb dL_law_3 rfl ?_
  refine zccallI (c := cC) (pc := 4) (ws := []) (e0 := .inr (11, [.null, .int 0, .int 0, .int 0, .null, .null, .null, .null, .null, .null, .null, .null, .null, .null, .null, .null, .null, .null, .null])) (b' := o) (ws1 := zB11 cC o) (rest := [.ref o]) ⟨hx, hb, hml, hown, hts⟩ (k_X11_init l D cC o) zq_X11_init zm_L_9 zn_X11 zim_X11_init rfl zd_X11_init.2 ⟨(Nat.le_of_ble_eq_true rfl), (Nat.le_of_ble_eq_true rfl)⟩ hK hX hP hS rfl hl.1 (Nat.le_of_ble_eq_true rfl) ⟨(Nat.le_of_ble_eq_true rfl), (Nat.le_of_ble_eq_true rfl)⟩ dL_law_4 (fun H locs hP hS => ?_)
  have hP : zL D o (zB11 cC o) H := hP
  refine W.widen (k := 218) (n := 20820) (Nat.le_of_ble_eq_true rfl) (Nat.le_of_ble_eq_true rfl) ?_
  refine lv_astore_n (pc := 7) (lv' := [(1, .ref o), (0, .ref b)]) hx hb dL_law_7 rfl hl (by decide) rfl (fun ls hl => ?_)
  refine zcnew (c := cC) (pc := 8) (fs := [.int 0, .null, .null, .null, .null, .null, .null, .int 0, .null, .int 0, .int 0, .int 0, .int 0, .int 0, .int 0, .int 0, .null, .null, .null, .null, .int 0, .null, .int 0, .int 0, .int 0, .int 0, .null, .null, .null, .null, .null, .null, .int 0, .null, .null, .null, .null, .null, .null]) (a := o + 218) zc12 hx hb hts hown hK hP hS zc_L_10 zi_X12 zn_X12 zdf12 (Nat.le_of_ble_eq_true rfl) (Nat.le_of_ble_eq_true rfl) rfl dL_law_8 (fun H hP hS => ?_)
  refine W.widen (k := 219) (n := 20859) (Nat.le_of_ble_eq_true rfl) (Nat.le_of_ble_eq_true rfl) ?_
  refine lv_dup (pc := 11) hx hb dL_law_11 rfl ?_
  refine zccallI (c := cC) (pc := 12) (ws := zB11 cC o) (e0 := .inr (12, [.int 0, .null, .null, .null, .null, .null, .null, .int 0, .null, .int 0, .int 0, .int 0, .int 0, .int 0, .int 0, .int 0, .null, .null, .null, .null, .int 0, .null, .int 0, .int 0, .int 0, .int 0, .null, .null, .null, .null, .null, .null, .int 0, .null, .null, .null, .null, .null, .null])) (b' := o + 218) (ws1 := zB12 cC (o + 218)) (rest := [.ref (o + 218)]) ⟨hx, hb, hml, hown, hts⟩ (k_X12_init l D cC (o + 218)) zq_X12_init zm_L_12 zn_X12 zim_X12_init rfl zd_X12_init.2 ⟨(Nat.le_of_ble_eq_true rfl), (Nat.le_of_ble_eq_true rfl)⟩ hK hX hP hS rfl hl.1 (Nat.le_of_ble_eq_true rfl) ⟨(Nat.le_of_ble_eq_true rfl), (Nat.le_of_ble_eq_true rfl)⟩ dL_law_12 (fun H locs hP hS => ?_)
  refine W.widen (k := 243) (n := 106038) (Nat.le_of_ble_eq_true rfl) (Nat.le_of_ble_eq_true rfl) ?_
  have hP := zfresh hP
  refine lv_astore_n (pc := 15) (lv' := [(2, .ref (o + 218)), (1, .ref o), (0, .ref b)]) hx hb dL_law_15 rfl hl (by decide) rfl (fun ls hl => ?_)
  refine lv_iconst (pc := 16) (v := 0) hx hb dL_law_16 (by decide) ?_
  refine lv_istore_n (pc := 17) (lv' := [(3, .int 0), (2, .ref (o + 218)), (1, .ref o), (0, .ref b)]) hx hb dL_law_17 rfl hl (by decide) rfl (fun ls hl => ?_)
  rcases Nat.lt_or_ge L 6 with hL6 | hL6
  · refine lv_iload_n (pc := 18) hx hb dL_law_18 rfl (lv_at hl 0 rfl) ?_
    refine lv_aload_n (pc := 19) hx hb dL_law_19 rfl (lv_at hl 3 rfl) ?_
    refine va_slen (pc := 20) hx hb hX0 hbl hbA hS dL_law_20 ?_
    refine lv_bipush (pc := 21) (v := 6) hx hb dL_law_21 (by decide) ?_
    refine lv_isub (pc := 23) hx hb dL_law_23 ?_
    refine lv_icmp_gt (pc := 24) (tgt := 1875) hx hb dL_law_24 (by decide) (fun _ => ?_) (fun q9 => absurd (pk_sneg (a := L) (b := 6) (by decide) hL6) q9)
    refine lv_iconst (pc := 1875) (v := 1) hx hb dL_law_1875 (by decide) ?_
    refine va_forget (fun q hq => by rw [ho]; exact hS.2.2 q hq) ?_
    refine W.widen (k := 600000) (n := 7302250) (Nat.le_of_ble_eq_true rfl) (Nat.le_of_ble_eq_true rfl) ?_
    exact lw_ret (pc := 1876) hx hb hr hlocks dL_law_1876
  · have hL7 : L = 6 := by omega
    subst hL7
    exact lw_round l ho C00 hK rfl hP hS hl
set_option maxHeartbeats 4000000 in
theorem lw_walk (l : Launch) (b : Addr) (xs : List Int32) : MetFree l x (headSpec (Jvm.Cond.code x code maxLocals ret :: tables_1) room_1) (lw_P b xs) (fun _ _ _ _ _ => True) lw_Q := by
  refine MetFree.of_bodyS (code := code) (maxLocals := maxLocals) (ret := ret) (by decide) ?_ ?_
  · intro args s m h hn
    obtain ⟨meth, c, h1, h2, h3, h4, h5, h6, -, -⟩ := Cond.code_spec hn (atoms_spec (ws := Jvm.Cond.code x code maxLocals ret :: tables_1) h _ List.mem_cons_self)
    exact ⟨meth, c, h1, h2, h3, h4, h5, h6⟩
  · intro p e s m args below meth c s₁ B hml0 hP _
    obtain ⟨rfl, hx, hbd, hgv⟩ := hP
    obtain ⟨scr, harrAt, hlist, hof, hsmall⟩ := hx
    obtain ⟨hcb, hkn, -, -⟩ := State.arrayAt?_spec harrAt
    have hown : s.vm.findClass R_law = some m.cls := findClass_of_methodNamed B.named
    have hts0 : ∀ c ∈ (Jvm.Cond.code x code maxLocals ret :: tables_1), c.before #[Value.ref b] s = true := atoms_spec (ws := Jvm.Cond.code x code maxLocals ret :: tables_1) B.pre
    have hts : ∀ w ∈ lw_tbl, w.before #[Value.ref b] s = true := k2_hts_sels lw_privs (fun w hw => hts0 w (List.mem_cons_of_mem _ hw)) lw_privs_ok
    have hml : c.maxLocals = 4 := B.maxLocals_eq (hts0 _ List.mem_cons_self)
    have X₀ : Stand p l e room_1 s m #[Value.ref b] below meth c s₁ [] 0 0 := Stand.of_body B
    have hh0 : s₁.heap = s.heap := by rw [B.state]; rfl
    have hsz : scr.slots.size = xs.length := by rw [← Array.length_toList, hlist, List.length_map]
    have hval : ∀ j : Nat, j < xs.length → scr.slots[j]? = some (.int (xs.getD j 0)) := fun j hj => by
      rw [← Array.getElem?_toList, hlist]
      simp [hj]
    have hbl : b < s.heap.size := (Array.getElem?_eq_some_iff.mp hcb).1
    have hX : va_X b xs.length (fun j => xs.getD j 0) s s.heap := ⟨scr, hcb, hof, hkn, hsz, hval⟩
    have K : W p l e room_1 s m #[Value.ref b] below meth c s₁.heap [] 0 0 (lw_Z below #[Value.ref b] s) (entryFrame m ([Value.ref b] : List Value).toArray 4) := by
      rw [hh0]
      exact whole_start l hbd ⟨B.exec, B.bytes, B.returns, hml, hown, hts, hX, hbl, B.notSynchronized, hgv⟩
    obtain ⟨t, a1, o, b1, b2, b3⟩ := K s₁ rfl X₀
    exact ⟨t, o, a1, b1, b2, b3⟩
theorem lw_pre_spec {args : Array Value} {s : State} (h : (Jvm.Cond.and given_1 narrow_1).before args s = true) (hr : rest_1_c.before args s = true) : ∃ (b : Addr) (xs : List Int32), lw_P b xs args s := by
  have hs := flat_of_before _ h
  have hq := flat_of_before _ hr
  have hc : (Cond.count 1).before args s = true := hs _ (by decide +kernel)
  have harr : (Cond.arrayOf (.arg 0) .int).before args s = true := hs _ (by decide +kernel)
  have hle : (Cond.le (.length (.arg 0)) (.int 6)).before args s = true := hs _ (by decide +kernel)
  have hlen : (Cond.isInt (.length (.arg 0))).before args s = true := hq _ (by decide +kernel)
  have hall : (Cond.all (.arg 0) (.isInt (.elem (.arg 0) (.index 0)))).before args s = true := hq _ (by decide +kernel)
  obtain ⟨b, xs, hb, hx⟩ := State.ints_of_pre rfl harr hlen hall
  have hsm : xs.length < 2 ^ 31 := hx.choose_spec.2.2.2
  have hev : (Term.length (.arg 0)).eval args s none [] s = some (.int xs.length.toInt32) := hx.length_eval hb
  have hv := Cond.le_ints hev (show (Term.int 6).eval args s none [] s = some (.int 6) from rfl)
  have hd : xs.length.toInt32 ≤ 6 := by
    simpa [Cond.before, Cond.holds, hv] using hle
  have hN : xs.length ≤ 6 := (Int32.ofNat_le_ofNat hsm (by decide)).mp (show Int32.ofNat xs.length ≤ Int32.ofNat 6 from hd)
  exact ⟨b, xs, Cond.one_arg hc (show args[0]? = some (.ref b) from hb), hx, hN, h⟩
theorem lw_comes (l : Launch) : Comes l x (Jvm.Cond.code x code maxLocals ret :: tables_1) room_1 (fun tb e args s => Calls_1 tb e args s ∧ rest_1 tb e args s ∧ Pre_1 tb e args s)
    (fun _ _ args s o t => lw_Q args s o t) := by
  intro p e ha hc hk s m args below hf hfit hheap happ hpre
  obtain ⟨b, xs, hP⟩ := lw_pre_spec hpre.2.2 hpre.2.1
  obtain ⟨k, o, h1, h2, h3, hQ⟩ := lw_walk l b xs p e ha hc hk s m args below hf ((Spec.applies_iff_loose hf).mp happ).1 hP trivial
  exact ⟨k, o, h1, h2, h3, hQ⟩
theorem lw_frame {s t : State} {o : Outcome} {args : Array Value} (h : Framed s o t [] 600000 7302250) :
    Framed s o t (fieldLocs frame_1_writes args s ++ arrayLocs frame_1_arrays args s ++ staticLocs frame_1_statics s) 600000 7302250 := h
theorem lw_limb (L : Cond) (hL : ∀ (args : Array Value) (s t : State), L.after args s (.returned (some (.int 1))) t = true) :
    ArmFor flags0 classFile x code maxLocals ret World_1 tables_1 room_1 Calls_1 rest_1 Pre_1
      (fun tb e a s o t => postC L tb e a s o t ∧ Framed s o t (fieldLocs frame_1_writes a s ++ arrayLocs frame_1_arrays a s ++ staticLocs frame_1_statics s) 600000 7302250) := by
  intro l _ _ _ p e ha hc hk s m args below hf hfit hheap happ hpre
  obtain ⟨k, o, h1, h2, h3, rfl, hF⟩ := lw_comes l p e ha hc hk s m args below hf hfit hheap happ hpre
  exact ⟨k, _, h1, h2, h3, hL args s _, lw_frame hF⟩
theorem i_vc : Claimed_1_1 ∧ Claimed_1_2 := ⟨lw_limb limb_1_1 (fun args s t => by simp [limb_1_1, Cond.after, Cond.holds, Cond.value]), lw_limb limb_1_2 (fun args s t => Cond.after_iff.mpr (by
  first | (rw [show limb_1_2 = Cond.eq .result (.int 1) from rfl, Cond.eq_ints (x := 1) (y := 1) rfl rfl]; simp; done) | (simp [limb_1_2, Cond.value, Term.eval]; done)))⟩


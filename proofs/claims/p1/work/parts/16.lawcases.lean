set_option maxHeartbeats 4000000 in
set_option maxRecDepth 100000 in
theorem lw_tail {p : Program} {e : Env} {s : State} {m : MethodId} {below : List Frame} {meth : Method} {cd : Code} (l : Launch) {b : Nat} {xs : Nat → Int32} {o : Nat} {D : va_G} {c : zC} (ho : s.heap.size = o) (C0 : lw_At p s m meth cd b 6 xs) (hK : zKt D c s) {H : Heap} {locs : List Loc} {ls : Array Slot} (hS : va_S (zA o) s.heap H locs) (hl : lv_has ls 4 [(3, .int 0), (2, .ref (o + 218)), (1, .ref (o + 0)), (0, .ref b)]) : W p l e room_1 s m #[Value.ref b] below meth cd H locs 243 106038 (lw_Z below #[Value.ref b] s) (F0 m 1869 ls []) := by
  obtain ⟨hx, hb, hr, hml, hown, hts0, hX0, hbl, hlocks, hgv⟩ := C0
  have hts : ∀ w ∈ zWl, w.before #[Value.ref b] s = true := fun w hw => hts0 w (List.mem_filter.mp hw).1
  have hown : s.vm.findClass RL = some m.cls := hown
  have hbA : ¬ zA o b := by show ¬ o ≤ b; omega
  refine lv_iinc (pc := 1869) (v := 6) (lv' := [(3, .int 6), (2, .ref (o + 218)), (1, .ref (o + 0)), (0, .ref b)]) hx hb dL_law_1869 hl (k := 0) rfl (by decide) (by decide) rfl (fun ls hl => ?_)
  refine lv_goto (pc := 1872) (tgt := 18) hx hb dL_law_1872 (by decide) ?_
  refine lv_iload_n (pc := 18) hx hb dL_law_18 rfl (lv_at hl 0 rfl) ?_
  refine lv_aload_n (pc := 19) hx hb dL_law_19 rfl (lv_at hl 3 rfl) ?_
  refine va_slen (pc := 20) hx hb hX0 hbl hbA hS dL_law_20 ?_
  refine lv_topi (pc := 21) (fun v1 ev1 => ?_)
  obtain rfl : v1 = 6 := ev1.trans (by decide)
  refine lv_bipush (pc := 21) (v := 6) hx hb dL_law_21 (by decide) ?_
  refine lv_isub (pc := 23) hx hb dL_law_23 ?_
  refine lv_topi (pc := 24) (fun v2 ev2 => ?_)
  obtain rfl : v2 = 0 := ev2.trans (by decide)
  refine lv_icmp_gt (pc := 24) (tgt := 1875) hx hb dL_law_24 (by decide) (fun _ => ?_) (fun c3 => absurd c3 (by decide))
  refine lv_iconst (pc := 1875) (v := 1) hx hb dL_law_1875 (by decide) ?_
  refine va_forget (fun q hq => by rw [ho]; exact hS.2.2 q hq) ?_
  refine W.widen (k := 600000) (n := 7302250) (Nat.le_of_ble_eq_true rfl) (Nat.le_of_ble_eq_true rfl) ?_
  exact lw_ret (pc := 1876) hx hb hr hlocks dL_law_1876
set_option maxHeartbeats 4000000 in
set_option maxRecDepth 100000 in
theorem lw_case0 {p : Program} {e : Env} {s : State} {m : MethodId} {below : List Frame} {meth : Method} {cd : Code} (l : Launch) {b : Nat} {xs : Nat → Int32} {o : Nat} {D : va_G} {c : zC} (ho : s.heap.size = o) (C0 : lw_At p s m meth cd b 6 xs) (hK : zKt D c s) {σ : zS} (h0 : σ.1 2 0 = 0) (h1 : σ.1 2 1 = 0) (h2 : σ.1 2 2 = 0) (ht : σ.1 0 1 = 0) (hk : σ.1 0 2 = 0) (hp : σ.1 0 3 = (-1)) (hk0 : σ.1 55 0 = 0) (hk1 : σ.1 55 1 = 0) (hk2 : σ.1 55 2 = 0) (hb210 : σ.1 210 2 = (-1)) (hb212 : σ.1 212 2 = (-1)) (hb214 : σ.1 214 2 = (-1)) (hb216 : σ.1 216 2 = (-1)) (m0 : σ.1 219 0 = 0) (m1 : σ.1 219 1 = 0) (m2 : σ.1 219 2 = 0) (mt : σ.1 218 7 = 0) (mk : σ.1 218 14 = 0) (mp : σ.1 218 15 = (-1)) (mh0 : σ.1 223 0 = 0) (mh1 : σ.1 223 1 = 0) (mh2 : σ.1 223 2 = 0) (mm0 : σ.1 239 0 = (-1)) (mm1 : σ.1 239 1 = (-1)) (mm2 : σ.1 239 2 = (-1)) (mm3 : σ.1 239 3 = (-1)) (hR : zRef o σ.2.2) (hN : σ.2.2 0 4 = o + 2) (hSp : σ.2.2 0 5 = o + 28) (hz : ∀ k j, σ.2.1 k j = 0) {H : Heap} {locs : List Loc} {ls : Array Slot} (hP : zP D c o σ H) (hS : va_S (zA o) s.heap H locs) (hl : lv_has ls 4 [(3, .int 0), (2, .ref (o + 218)), (1, .ref (o + 0)), (0, .ref b)]) : W p l e room_1 s m #[Value.ref b] below meth cd H locs 243 106038 (lw_Z below #[Value.ref b] s) (F0 m 236 ls []) := by
  have C00 := C0
  obtain ⟨hx, hb, hr, hml, hown, hts0, hX0, hbl, hlocks, hgv⟩ := C0
  have hts : ∀ w ∈ zWl, w.before #[Value.ref b] s = true := fun w hw => hts0 w (List.mem_filter.mp hw).1
  have hown : s.vm.findClass RL = some m.cls := hown
  have hbA : ¬ zA o b := by show ¬ o ≤ b; omega
  refine lv_aload_n (pc := 236) hx hb dL_law_236 rfl (lv_at hl 2 rfl) ?_
  refine lv_aload_n (pc := 237) hx hb dL_law_237 rfl (lv_at hl 3 rfl) ?_
  refine lv_iload_n (pc := 238) hx hb dL_law_238 rfl (lv_at hl 0 rfl) ?_
  refine lv_iconst (pc := 239) (v := 1) hx hb dL_law_239 (by decide) ?_
  refine lv_iadd (pc := 240) hx hb dL_law_240 ?_
  refine lv_topi (pc := 241) (fun v1 ev1 => ?_)
  obtain rfl : v1 = 1 := ev1.trans (by decide)
  refine zsld (pc := 241) (k := 1) hx hb hX0 hbl hbA hS (vp_in_iff.mpr ⟨by decide, by decide⟩) rfl dL_law_241 ?_
  refine lv_aload_n (pc := 242) hx hb dL_law_242 rfl (lv_at hl 3 rfl) ?_
  refine lv_iload_n (pc := 243) hx hb dL_law_243 rfl (lv_at hl 0 rfl) ?_
  refine lv_iconst (pc := 244) (v := 2) hx hb dL_law_244 (by decide) ?_
  refine lv_iadd (pc := 245) hx hb dL_law_245 ?_
  refine lv_topi (pc := 246) (fun v2 ev2 => ?_)
  obtain rfl : v2 = 2 := ev2.trans (by decide)
  refine zsld (pc := 246) (k := 2) hx hb hX0 hbl hbA hS (vp_in_iff.mpr ⟨by decide, by decide⟩) rfl dL_law_246 ?_
  refine lv_aload_n (pc := 247) hx hb dL_law_247 rfl (lv_at hl 3 rfl) ?_
  refine lv_iload_n (pc := 248) hx hb dL_law_248 rfl (lv_at hl 0 rfl) ?_
  refine lv_iconst (pc := 249) (v := 3) hx hb dL_law_249 (by decide) ?_
  refine lv_iadd (pc := 250) hx hb dL_law_250 ?_
  refine lv_topi (pc := 251) (fun v3 ev3 => ?_)
  obtain rfl : v3 = 3 := ev3.trans (by decide)
  refine zsld (pc := 251) (k := 3) hx hb hX0 hbl hbA hS (vp_in_iff.mpr ⟨by decide, by decide⟩) rfl dL_law_251 ?_
  refine lv_aload_n (pc := 252) hx hb dL_law_252 rfl (lv_at hl 3 rfl) ?_
  refine lv_iload_n (pc := 253) hx hb dL_law_253 rfl (lv_at hl 0 rfl) ?_
  refine lv_iconst (pc := 254) (v := 4) hx hb dL_law_254 (by decide) ?_
  refine lv_iadd (pc := 255) hx hb dL_law_255 ?_
  refine lv_topi (pc := 256) (fun v4 ev4 => ?_)
  obtain rfl : v4 = 4 := ev4.trans (by decide)
  refine zsld (pc := 256) (k := 4) hx hb hX0 hbl hbA hS (vp_in_iff.mpr ⟨by decide, by decide⟩) rfl dL_law_256 ?_
  refine lv_aload_n (pc := 257) hx hb dL_law_257 rfl (lv_at hl 3 rfl) ?_
  refine lv_iload_n (pc := 258) hx hb dL_law_258 rfl (lv_at hl 0 rfl) ?_
  refine lv_iconst (pc := 259) (v := 5) hx hb dL_law_259 (by decide) ?_
  refine lv_iadd (pc := 260) hx hb dL_law_260 ?_
  refine lv_topi (pc := 261) (fun v5 ev5 => ?_)
  obtain rfl : v5 = 5 := ev5.trans (by decide)
  refine zsld (pc := 261) (k := 5) hx hb hX0 hbl hbA hS (vp_in_iff.mpr ⟨by decide, by decide⟩) rfl dL_law_261 ?_
  refine zcallVi (pc := 262) (k := 0) (As := [.int (xs 1), .int (xs 2), .int (xs 3), .int (xs 4), .int (xs 5)]) (rest := []) ⟨hx, hb, hml, hown, hts⟩ (fr_X11_feed l D c o σ (xs 1) (xs 2) (xs 3) (xs 4) (xs 5) hR ht) zc11 zV_L_13 rfl zd_X11_feed ⟨Nat.le_of_ble_eq_true rfl, Nat.le_of_ble_eq_true rfl⟩ hK hP hS rfl (by decide) hl.1 rfl (Nat.le_of_ble_eq_true rfl) ⟨Nat.le_of_ble_eq_true rfl, Nat.le_of_ble_eq_true rfl⟩ dL_law_262 (fun r6 σ7 H locs hw8 hP hS => ?_)
  obtain ⟨er6, hR, hH⟩ := hw8
  have m0 : σ7.1 219 0 = 0 := (congrFun (hH 219 (by decide)) 0).trans m0
  have m1 : σ7.1 219 1 = 0 := (congrFun (hH 219 (by decide)) 1).trans m1
  have m2 : σ7.1 219 2 = 0 := (congrFun (hH 219 (by decide)) 2).trans m2
  have mt : σ7.1 218 7 = 0 := (congrFun (hH 218 (by decide)) 7).trans mt
  have mk : σ7.1 218 14 = 0 := (congrFun (hH 218 (by decide)) 14).trans mk
  have mp : σ7.1 218 15 = (-1) := (congrFun (hH 218 (by decide)) 15).trans mp
  have mh0 : σ7.1 223 0 = 0 := (congrFun (hH 223 (by decide)) 0).trans mh0
  have mh1 : σ7.1 223 1 = 0 := (congrFun (hH 223 (by decide)) 1).trans mh1
  have mh2 : σ7.1 223 2 = 0 := (congrFun (hH 223 (by decide)) 2).trans mh2
  have mm0 : σ7.1 239 0 = (-1) := (congrFun (hH 239 (by decide)) 0).trans mm0
  have mm1 : σ7.1 239 1 = (-1) := (congrFun (hH 239 (by decide)) 1).trans mm1
  have mm2 : σ7.1 239 2 = (-1) := (congrFun (hH 239 (by decide)) 2).trans mm2
  have mm3 : σ7.1 239 3 = (-1) := (congrFun (hH 239 (by decide)) 3).trans mm3
  refine lv_aload_n (pc := 265) hx hb dL_law_265 rfl (lv_at hl 1 rfl) ?_
  refine lv_aload_n (pc := 266) hx hb dL_law_266 rfl (lv_at hl 3 rfl) ?_
  refine lv_iload_n (pc := 267) hx hb dL_law_267 rfl (lv_at hl 0 rfl) ?_
  refine lv_iconst (pc := 268) (v := 1) hx hb dL_law_268 (by decide) ?_
  refine lv_iadd (pc := 269) hx hb dL_law_269 ?_
  refine lv_topi (pc := 270) (fun v9 ev9 => ?_)
  obtain rfl : v9 = 1 := ev9.trans (by decide)
  refine zsld (pc := 270) (k := 1) hx hb hX0 hbl hbA hS (vp_in_iff.mpr ⟨by decide, by decide⟩) rfl dL_law_270 ?_
  refine lv_aload_n (pc := 271) hx hb dL_law_271 rfl (lv_at hl 3 rfl) ?_
  refine lv_iload_n (pc := 272) hx hb dL_law_272 rfl (lv_at hl 0 rfl) ?_
  refine lv_iconst (pc := 273) (v := 2) hx hb dL_law_273 (by decide) ?_
  refine lv_iadd (pc := 274) hx hb dL_law_274 ?_
  refine lv_topi (pc := 275) (fun v10 ev10 => ?_)
  obtain rfl : v10 = 2 := ev10.trans (by decide)
  refine zsld (pc := 275) (k := 2) hx hb hX0 hbl hbA hS (vp_in_iff.mpr ⟨by decide, by decide⟩) rfl dL_law_275 ?_
  refine lv_aload_n (pc := 276) hx hb dL_law_276 rfl (lv_at hl 3 rfl) ?_
  refine lv_iload_n (pc := 277) hx hb dL_law_277 rfl (lv_at hl 0 rfl) ?_
  refine lv_iconst (pc := 278) (v := 3) hx hb dL_law_278 (by decide) ?_
  refine lv_iadd (pc := 279) hx hb dL_law_279 ?_
  refine lv_topi (pc := 280) (fun v11 ev11 => ?_)
  obtain rfl : v11 = 3 := ev11.trans (by decide)
  refine zsld (pc := 280) (k := 3) hx hb hX0 hbl hbA hS (vp_in_iff.mpr ⟨by decide, by decide⟩) rfl dL_law_280 ?_
  refine lv_aload_n (pc := 281) hx hb dL_law_281 rfl (lv_at hl 3 rfl) ?_
  refine lv_iload_n (pc := 282) hx hb dL_law_282 rfl (lv_at hl 0 rfl) ?_
  refine lv_iconst (pc := 283) (v := 4) hx hb dL_law_283 (by decide) ?_
  refine lv_iadd (pc := 284) hx hb dL_law_284 ?_
  refine lv_topi (pc := 285) (fun v12 ev12 => ?_)
  obtain rfl : v12 = 4 := ev12.trans (by decide)
  refine zsld (pc := 285) (k := 4) hx hb hX0 hbl hbA hS (vp_in_iff.mpr ⟨by decide, by decide⟩) rfl dL_law_285 ?_
  refine lv_aload_n (pc := 286) hx hb dL_law_286 rfl (lv_at hl 3 rfl) ?_
  refine lv_iload_n (pc := 287) hx hb dL_law_287 rfl (lv_at hl 0 rfl) ?_
  refine lv_iconst (pc := 288) (v := 5) hx hb dL_law_288 (by decide) ?_
  refine lv_iadd (pc := 289) hx hb dL_law_289 ?_
  refine lv_topi (pc := 290) (fun v13 ev13 => ?_)
  obtain rfl : v13 = 5 := ev13.trans (by decide)
  refine zsld (pc := 290) (k := 5) hx hb hX0 hbl hbA hS (vp_in_iff.mpr ⟨by decide, by decide⟩) rfl dL_law_290 ?_
  refine zcallVi (pc := 291) (k := 218) (As := [.int (xs 1), .int (xs 2), .int (xs 3), .int (xs 4), .int (xs 5)]) (rest := [.int r6]) ⟨hx, hb, hml, hown, hts⟩ (fr_X12_feed l D c o σ7 (xs 1) (xs 2) (xs 3) (xs 4) (xs 5) hR mt) zc12 zV_L_17 rfl zd_X12_feed ⟨Nat.le_of_ble_eq_true rfl, Nat.le_of_ble_eq_true rfl⟩ hK hP hS rfl (by decide) hl.1 rfl (Nat.le_of_ble_eq_true rfl) ⟨Nat.le_of_ble_eq_true rfl, Nat.le_of_ble_eq_true rfl⟩ dL_law_291 (fun r14 σ15 H locs hw16 hP hS => ?_)
  have er14 := hw16
  refine lv_icmp_eq (pc := 294) (tgt := 1869) hx hb dL_law_294 (by decide) (fun _ => ?_) (fun q9 => absurd (er6.trans er14.symm) q9)
  exact lw_tail l ho C00 hK hS (lv_sub hl [0, 1, 2, 3] rfl)
set_option maxHeartbeats 4000000 in
set_option maxRecDepth 100000 in
theorem lw_case1 {p : Program} {e : Env} {s : State} {m : MethodId} {below : List Frame} {meth : Method} {cd : Code} (l : Launch) {b : Nat} {xs : Nat → Int32} {o : Nat} {D : va_G} {c : zC} (ho : s.heap.size = o) (C0 : lw_At p s m meth cd b 6 xs) (hK : zKt D c s) {σ : zS} (h0 : σ.1 2 0 = 0) (h1 : σ.1 2 1 = 0) (h2 : σ.1 2 2 = 0) (ht : σ.1 0 1 = 0) (hk : σ.1 0 2 = 0) (hp : σ.1 0 3 = (-1)) (hk0 : σ.1 55 0 = 0) (hk1 : σ.1 55 1 = 0) (hk2 : σ.1 55 2 = 0) (hb210 : σ.1 210 2 = (-1)) (hb212 : σ.1 212 2 = (-1)) (hb214 : σ.1 214 2 = (-1)) (hb216 : σ.1 216 2 = (-1)) (m0 : σ.1 219 0 = 0) (m1 : σ.1 219 1 = 0) (m2 : σ.1 219 2 = 0) (mt : σ.1 218 7 = 0) (mk : σ.1 218 14 = 0) (mp : σ.1 218 15 = (-1)) (mh0 : σ.1 223 0 = 0) (mh1 : σ.1 223 1 = 0) (mh2 : σ.1 223 2 = 0) (mm0 : σ.1 239 0 = (-1)) (mm1 : σ.1 239 1 = (-1)) (mm2 : σ.1 239 2 = (-1)) (mm3 : σ.1 239 3 = (-1)) (hR : zRef o σ.2.2) (hN : σ.2.2 0 4 = o + 2) (hSp : σ.2.2 0 5 = o + 28) (hz : ∀ k j, σ.2.1 k j = 0) {H : Heap} {locs : List Loc} {ls : Array Slot} (hP : zP D c o σ H) (hS : va_S (zA o) s.heap H locs) (hl : lv_has ls 4 [(3, .int 0), (2, .ref (o + 218)), (1, .ref (o + 0)), (0, .ref b)]) : W p l e room_1 s m #[Value.ref b] below meth cd H locs 243 106038 (lw_Z below #[Value.ref b] s) (F0 m 299 ls []) := by
  have C00 := C0
  obtain ⟨hx, hb, hr, hml, hown, hts0, hX0, hbl, hlocks, hgv⟩ := C0
  have hts : ∀ w ∈ zWl, w.before #[Value.ref b] s = true := fun w hw => hts0 w (List.mem_filter.mp hw).1
  have hown : s.vm.findClass RL = some m.cls := hown
  have hbA : ¬ zA o b := by show ¬ o ≤ b; omega
  refine lv_aload_n (pc := 299) hx hb dL_law_299 rfl (lv_at hl 2 rfl) ?_
  refine lv_aload_n (pc := 300) hx hb dL_law_300 rfl (lv_at hl 3 rfl) ?_
  refine lv_iload_n (pc := 301) hx hb dL_law_301 rfl (lv_at hl 0 rfl) ?_
  refine lv_iconst (pc := 302) (v := 1) hx hb dL_law_302 (by decide) ?_
  refine lv_iadd (pc := 303) hx hb dL_law_303 ?_
  refine lv_topi (pc := 304) (fun v1 ev1 => ?_)
  obtain rfl : v1 = 1 := ev1.trans (by decide)
  refine zsld (pc := 304) (k := 1) hx hb hX0 hbl hbA hS (vp_in_iff.mpr ⟨by decide, by decide⟩) rfl dL_law_304 ?_
  refine zcallVi (pc := 305) (k := 0) (As := [.int (xs 1)]) (rest := []) ⟨hx, hb, hml, hown, hts⟩ (fr_X11_end l D c o σ (xs 1) hR ht) zc11 zV_L_18 rfl zd_X11_end ⟨Nat.le_of_ble_eq_true rfl, Nat.le_of_ble_eq_true rfl⟩ hK hP hS rfl (by decide) hl.1 rfl (Nat.le_of_ble_eq_true rfl) ⟨Nat.le_of_ble_eq_true rfl, Nat.le_of_ble_eq_true rfl⟩ dL_law_305 (fun r2 σ3 H locs hw4 hP hS => ?_)
  obtain ⟨er2, hR, hH⟩ := hw4
  have m0 : σ3.1 219 0 = 0 := (congrFun (hH 219 (by decide)) 0).trans m0
  have m1 : σ3.1 219 1 = 0 := (congrFun (hH 219 (by decide)) 1).trans m1
  have m2 : σ3.1 219 2 = 0 := (congrFun (hH 219 (by decide)) 2).trans m2
  have mt : σ3.1 218 7 = 0 := (congrFun (hH 218 (by decide)) 7).trans mt
  have mk : σ3.1 218 14 = 0 := (congrFun (hH 218 (by decide)) 14).trans mk
  have mp : σ3.1 218 15 = (-1) := (congrFun (hH 218 (by decide)) 15).trans mp
  have mh0 : σ3.1 223 0 = 0 := (congrFun (hH 223 (by decide)) 0).trans mh0
  have mh1 : σ3.1 223 1 = 0 := (congrFun (hH 223 (by decide)) 1).trans mh1
  have mh2 : σ3.1 223 2 = 0 := (congrFun (hH 223 (by decide)) 2).trans mh2
  have mm0 : σ3.1 239 0 = (-1) := (congrFun (hH 239 (by decide)) 0).trans mm0
  have mm1 : σ3.1 239 1 = (-1) := (congrFun (hH 239 (by decide)) 1).trans mm1
  have mm2 : σ3.1 239 2 = (-1) := (congrFun (hH 239 (by decide)) 2).trans mm2
  have mm3 : σ3.1 239 3 = (-1) := (congrFun (hH 239 (by decide)) 3).trans mm3
  refine lv_aload_n (pc := 308) hx hb dL_law_308 rfl (lv_at hl 1 rfl) ?_
  refine lv_aload_n (pc := 309) hx hb dL_law_309 rfl (lv_at hl 3 rfl) ?_
  refine lv_iload_n (pc := 310) hx hb dL_law_310 rfl (lv_at hl 0 rfl) ?_
  refine lv_iconst (pc := 311) (v := 1) hx hb dL_law_311 (by decide) ?_
  refine lv_iadd (pc := 312) hx hb dL_law_312 ?_
  refine lv_topi (pc := 313) (fun v5 ev5 => ?_)
  obtain rfl : v5 = 1 := ev5.trans (by decide)
  refine zsld (pc := 313) (k := 1) hx hb hX0 hbl hbA hS (vp_in_iff.mpr ⟨by decide, by decide⟩) rfl dL_law_313 ?_
  refine zcallVi (pc := 314) (k := 218) (As := [.int (xs 1)]) (rest := [.int r2]) ⟨hx, hb, hml, hown, hts⟩ (fr_X12_end l D c o σ3 (xs 1) hR mt) zc12 zV_L_22 rfl zd_X12_end ⟨Nat.le_of_ble_eq_true rfl, Nat.le_of_ble_eq_true rfl⟩ hK hP hS rfl (by decide) hl.1 rfl (Nat.le_of_ble_eq_true rfl) ⟨Nat.le_of_ble_eq_true rfl, Nat.le_of_ble_eq_true rfl⟩ dL_law_314 (fun r6 σ7 H locs hw8 hP hS => ?_)
  have er6 := hw8
  refine lv_icmp_eq (pc := 317) (tgt := 1869) hx hb dL_law_317 (by decide) (fun _ => ?_) (fun q9 => absurd (er2.trans er6.symm) q9)
  exact lw_tail l ho C00 hK hS (lv_sub hl [0, 1, 2, 3] rfl)
set_option maxHeartbeats 4000000 in
set_option maxRecDepth 100000 in
theorem lw_case2 {p : Program} {e : Env} {s : State} {m : MethodId} {below : List Frame} {meth : Method} {cd : Code} (l : Launch) {b : Nat} {xs : Nat → Int32} {o : Nat} {D : va_G} {c : zC} (ho : s.heap.size = o) (C0 : lw_At p s m meth cd b 6 xs) (hK : zKt D c s) {σ : zS} (h0 : σ.1 2 0 = 0) (h1 : σ.1 2 1 = 0) (h2 : σ.1 2 2 = 0) (ht : σ.1 0 1 = 0) (hk : σ.1 0 2 = 0) (hp : σ.1 0 3 = (-1)) (hk0 : σ.1 55 0 = 0) (hk1 : σ.1 55 1 = 0) (hk2 : σ.1 55 2 = 0) (hb210 : σ.1 210 2 = (-1)) (hb212 : σ.1 212 2 = (-1)) (hb214 : σ.1 214 2 = (-1)) (hb216 : σ.1 216 2 = (-1)) (m0 : σ.1 219 0 = 0) (m1 : σ.1 219 1 = 0) (m2 : σ.1 219 2 = 0) (mt : σ.1 218 7 = 0) (mk : σ.1 218 14 = 0) (mp : σ.1 218 15 = (-1)) (mh0 : σ.1 223 0 = 0) (mh1 : σ.1 223 1 = 0) (mh2 : σ.1 223 2 = 0) (mm0 : σ.1 239 0 = (-1)) (mm1 : σ.1 239 1 = (-1)) (mm2 : σ.1 239 2 = (-1)) (mm3 : σ.1 239 3 = (-1)) (hR : zRef o σ.2.2) (hN : σ.2.2 0 4 = o + 2) (hSp : σ.2.2 0 5 = o + 28) (hz : ∀ k j, σ.2.1 k j = 0) {H : Heap} {locs : List Loc} {ls : Array Slot} (hP : zP D c o σ H) (hS : va_S (zA o) s.heap H locs) (hl : lv_has ls 4 [(3, .int 0), (2, .ref (o + 218)), (1, .ref (o + 0)), (0, .ref b)]) : W p l e room_1 s m #[Value.ref b] below meth cd H locs 243 106038 (lw_Z below #[Value.ref b] s) (F0 m 322 ls []) := by
  have C00 := C0
  obtain ⟨hx, hb, hr, hml, hown, hts0, hX0, hbl, hlocks, hgv⟩ := C0
  have hts : ∀ w ∈ zWl, w.before #[Value.ref b] s = true := fun w hw => hts0 w (List.mem_filter.mp hw).1
  have hown : s.vm.findClass RL = some m.cls := hown
  have hbA : ¬ zA o b := by show ¬ o ≤ b; omega
  refine lv_aload_n (pc := 322) hx hb dL_law_322 rfl (lv_at hl 2 rfl) ?_
  refine zcallVi (pc := 323) (k := 0) (As := []) (rest := []) ⟨hx, hb, hml, hown, hts⟩ (fr_X11_world l D c o σ  hR hN hSp ht) zc11 zV_L_23 rfl zd_X11_world ⟨Nat.le_of_ble_eq_true rfl, Nat.le_of_ble_eq_true rfl⟩ hK hP hS rfl (by decide) hl.1 rfl (Nat.le_of_ble_eq_true rfl) ⟨Nat.le_of_ble_eq_true rfl, Nat.le_of_ble_eq_true rfl⟩ dL_law_323 (fun r1 σ2 H locs hw3 hP hS => ?_)
  obtain ⟨er1, hR, hH⟩ := hw3
  have m0 : σ2.1 219 0 = 0 := (congrFun (hH 219 (by decide)) 0).trans m0
  have m1 : σ2.1 219 1 = 0 := (congrFun (hH 219 (by decide)) 1).trans m1
  have m2 : σ2.1 219 2 = 0 := (congrFun (hH 219 (by decide)) 2).trans m2
  have mt : σ2.1 218 7 = 0 := (congrFun (hH 218 (by decide)) 7).trans mt
  have mk : σ2.1 218 14 = 0 := (congrFun (hH 218 (by decide)) 14).trans mk
  have mp : σ2.1 218 15 = (-1) := (congrFun (hH 218 (by decide)) 15).trans mp
  have mh0 : σ2.1 223 0 = 0 := (congrFun (hH 223 (by decide)) 0).trans mh0
  have mh1 : σ2.1 223 1 = 0 := (congrFun (hH 223 (by decide)) 1).trans mh1
  have mh2 : σ2.1 223 2 = 0 := (congrFun (hH 223 (by decide)) 2).trans mh2
  have mm0 : σ2.1 239 0 = (-1) := (congrFun (hH 239 (by decide)) 0).trans mm0
  have mm1 : σ2.1 239 1 = (-1) := (congrFun (hH 239 (by decide)) 1).trans mm1
  have mm2 : σ2.1 239 2 = (-1) := (congrFun (hH 239 (by decide)) 2).trans mm2
  have mm3 : σ2.1 239 3 = (-1) := (congrFun (hH 239 (by decide)) 3).trans mm3
  refine lv_aload_n (pc := 326) hx hb dL_law_326 rfl (lv_at hl 1 rfl) ?_
  refine zcallVi (pc := 327) (k := 218) (As := []) (rest := [.int r1]) ⟨hx, hb, hml, hown, hts⟩ (fr_X12_world l D c o σ2  hR mt) zc12 zV_L_27 rfl zd_X12_world ⟨Nat.le_of_ble_eq_true rfl, Nat.le_of_ble_eq_true rfl⟩ hK hP hS rfl (by decide) hl.1 rfl (Nat.le_of_ble_eq_true rfl) ⟨Nat.le_of_ble_eq_true rfl, Nat.le_of_ble_eq_true rfl⟩ dL_law_327 (fun r4 σ5 H locs hw6 hP hS => ?_)
  have er4 := hw6
  refine lv_icmp_eq (pc := 330) (tgt := 1869) hx hb dL_law_330 (by decide) (fun _ => ?_) (fun q9 => absurd (er1.trans er4.symm) q9)
  exact lw_tail l ho C00 hK hS (lv_sub hl [0, 1, 2, 3] rfl)
set_option maxHeartbeats 4000000 in
set_option maxRecDepth 100000 in
theorem lw_case3 {p : Program} {e : Env} {s : State} {m : MethodId} {below : List Frame} {meth : Method} {cd : Code} (l : Launch) {b : Nat} {xs : Nat → Int32} {o : Nat} {D : va_G} {c : zC} (ho : s.heap.size = o) (C0 : lw_At p s m meth cd b 6 xs) (hK : zKt D c s) {σ : zS} (h0 : σ.1 2 0 = 0) (h1 : σ.1 2 1 = 0) (h2 : σ.1 2 2 = 0) (ht : σ.1 0 1 = 0) (hk : σ.1 0 2 = 0) (hp : σ.1 0 3 = (-1)) (hk0 : σ.1 55 0 = 0) (hk1 : σ.1 55 1 = 0) (hk2 : σ.1 55 2 = 0) (hb210 : σ.1 210 2 = (-1)) (hb212 : σ.1 212 2 = (-1)) (hb214 : σ.1 214 2 = (-1)) (hb216 : σ.1 216 2 = (-1)) (m0 : σ.1 219 0 = 0) (m1 : σ.1 219 1 = 0) (m2 : σ.1 219 2 = 0) (mt : σ.1 218 7 = 0) (mk : σ.1 218 14 = 0) (mp : σ.1 218 15 = (-1)) (mh0 : σ.1 223 0 = 0) (mh1 : σ.1 223 1 = 0) (mh2 : σ.1 223 2 = 0) (mm0 : σ.1 239 0 = (-1)) (mm1 : σ.1 239 1 = (-1)) (mm2 : σ.1 239 2 = (-1)) (mm3 : σ.1 239 3 = (-1)) (hR : zRef o σ.2.2) (hN : σ.2.2 0 4 = o + 2) (hSp : σ.2.2 0 5 = o + 28) (hz : ∀ k j, σ.2.1 k j = 0) {H : Heap} {locs : List Loc} {ls : Array Slot} (hP : zP D c o σ H) (hS : va_S (zA o) s.heap H locs) (hl : lv_has ls 4 [(3, .int 0), (2, .ref (o + 218)), (1, .ref (o + 0)), (0, .ref b)]) : W p l e room_1 s m #[Value.ref b] below meth cd H locs 243 106038 (lw_Z below #[Value.ref b] s) (F0 m 335 ls []) := by
  have C00 := C0
  obtain ⟨hx, hb, hr, hml, hown, hts0, hX0, hbl, hlocks, hgv⟩ := C0
  have hts : ∀ w ∈ zWl, w.before #[Value.ref b] s = true := fun w hw => hts0 w (List.mem_filter.mp hw).1
  have hown : s.vm.findClass RL = some m.cls := hown
  have hbA : ¬ zA o b := by show ¬ o ≤ b; omega
  refine lv_aload_n (pc := 335) hx hb dL_law_335 rfl (lv_at hl 2 rfl) ?_
  refine lv_aload_n (pc := 336) hx hb dL_law_336 rfl (lv_at hl 3 rfl) ?_
  refine lv_iload_n (pc := 337) hx hb dL_law_337 rfl (lv_at hl 0 rfl) ?_
  refine lv_iconst (pc := 338) (v := 1) hx hb dL_law_338 (by decide) ?_
  refine lv_iadd (pc := 339) hx hb dL_law_339 ?_
  refine lv_topi (pc := 340) (fun v1 ev1 => ?_)
  obtain rfl : v1 = 1 := ev1.trans (by decide)
  refine zsld (pc := 340) (k := 1) hx hb hX0 hbl hbA hS (vp_in_iff.mpr ⟨by decide, by decide⟩) rfl dL_law_340 ?_
  refine zcallVi (pc := 341) (k := 0) (As := [.int (xs 1)]) (rest := []) ⟨hx, hb, hml, hown, hts⟩ (nw_X11_put l D c o σ (xs 1) hR hN h0) zc11 zV_L_28 rfl zd_X11_put ⟨Nat.le_of_ble_eq_true rfl, Nat.le_of_ble_eq_true rfl⟩ hK hP hS rfl (by decide) hl.1 rfl (Nat.le_of_ble_eq_true rfl) ⟨Nat.le_of_ble_eq_true rfl, Nat.le_of_ble_eq_true rfl⟩ dL_law_341 (fun r2 σ3 H locs hw4 hP hS => ?_)
  obtain ⟨er2, hR, hH⟩ := hw4
  have m0 : σ3.1 219 0 = 0 := (congrFun (hH 219 (by decide)) 0).trans m0
  have m1 : σ3.1 219 1 = 0 := (congrFun (hH 219 (by decide)) 1).trans m1
  have m2 : σ3.1 219 2 = 0 := (congrFun (hH 219 (by decide)) 2).trans m2
  have mt : σ3.1 218 7 = 0 := (congrFun (hH 218 (by decide)) 7).trans mt
  have mk : σ3.1 218 14 = 0 := (congrFun (hH 218 (by decide)) 14).trans mk
  have mp : σ3.1 218 15 = (-1) := (congrFun (hH 218 (by decide)) 15).trans mp
  have mh0 : σ3.1 223 0 = 0 := (congrFun (hH 223 (by decide)) 0).trans mh0
  have mh1 : σ3.1 223 1 = 0 := (congrFun (hH 223 (by decide)) 1).trans mh1
  have mh2 : σ3.1 223 2 = 0 := (congrFun (hH 223 (by decide)) 2).trans mh2
  have mm0 : σ3.1 239 0 = (-1) := (congrFun (hH 239 (by decide)) 0).trans mm0
  have mm1 : σ3.1 239 1 = (-1) := (congrFun (hH 239 (by decide)) 1).trans mm1
  have mm2 : σ3.1 239 2 = (-1) := (congrFun (hH 239 (by decide)) 2).trans mm2
  have mm3 : σ3.1 239 3 = (-1) := (congrFun (hH 239 (by decide)) 3).trans mm3
  refine lv_aload_n (pc := 344) hx hb dL_law_344 rfl (lv_at hl 1 rfl) ?_
  refine lv_aload_n (pc := 345) hx hb dL_law_345 rfl (lv_at hl 3 rfl) ?_
  refine lv_iload_n (pc := 346) hx hb dL_law_346 rfl (lv_at hl 0 rfl) ?_
  refine lv_iconst (pc := 347) (v := 1) hx hb dL_law_347 (by decide) ?_
  refine lv_iadd (pc := 348) hx hb dL_law_348 ?_
  refine lv_topi (pc := 349) (fun v5 ev5 => ?_)
  obtain rfl : v5 = 1 := ev5.trans (by decide)
  refine zsld (pc := 349) (k := 1) hx hb hX0 hbl hbA hS (vp_in_iff.mpr ⟨by decide, by decide⟩) rfl dL_law_349 ?_
  refine zcallVi (pc := 350) (k := 218) (As := [.int (xs 1)]) (rest := [.int r2]) ⟨hx, hb, hml, hown, hts⟩ (nw_X12_put l D c o σ3 (xs 1) hR m0) zc12 zV_L_31 rfl zd_X12_put ⟨Nat.le_of_ble_eq_true rfl, Nat.le_of_ble_eq_true rfl⟩ hK hP hS rfl (by decide) hl.1 rfl (Nat.le_of_ble_eq_true rfl) ⟨Nat.le_of_ble_eq_true rfl, Nat.le_of_ble_eq_true rfl⟩ dL_law_350 (fun r6 σ7 H locs hw8 hP hS => ?_)
  have er6 := hw8
  refine lv_icmp_eq (pc := 353) (tgt := 1869) hx hb dL_law_353 (by decide) (fun _ => ?_) (fun q9 => absurd (er2.trans er6.symm) q9)
  exact lw_tail l ho C00 hK hS (lv_sub hl [0, 1, 2, 3] rfl)
set_option maxHeartbeats 4000000 in
set_option maxRecDepth 100000 in
theorem lw_case4 {p : Program} {e : Env} {s : State} {m : MethodId} {below : List Frame} {meth : Method} {cd : Code} (l : Launch) {b : Nat} {xs : Nat → Int32} {o : Nat} {D : va_G} {c : zC} (ho : s.heap.size = o) (C0 : lw_At p s m meth cd b 6 xs) (hK : zKt D c s) {σ : zS} (h0 : σ.1 2 0 = 0) (h1 : σ.1 2 1 = 0) (h2 : σ.1 2 2 = 0) (ht : σ.1 0 1 = 0) (hk : σ.1 0 2 = 0) (hp : σ.1 0 3 = (-1)) (hk0 : σ.1 55 0 = 0) (hk1 : σ.1 55 1 = 0) (hk2 : σ.1 55 2 = 0) (hb210 : σ.1 210 2 = (-1)) (hb212 : σ.1 212 2 = (-1)) (hb214 : σ.1 214 2 = (-1)) (hb216 : σ.1 216 2 = (-1)) (m0 : σ.1 219 0 = 0) (m1 : σ.1 219 1 = 0) (m2 : σ.1 219 2 = 0) (mt : σ.1 218 7 = 0) (mk : σ.1 218 14 = 0) (mp : σ.1 218 15 = (-1)) (mh0 : σ.1 223 0 = 0) (mh1 : σ.1 223 1 = 0) (mh2 : σ.1 223 2 = 0) (mm0 : σ.1 239 0 = (-1)) (mm1 : σ.1 239 1 = (-1)) (mm2 : σ.1 239 2 = (-1)) (mm3 : σ.1 239 3 = (-1)) (hR : zRef o σ.2.2) (hN : σ.2.2 0 4 = o + 2) (hSp : σ.2.2 0 5 = o + 28) (hz : ∀ k j, σ.2.1 k j = 0) {H : Heap} {locs : List Loc} {ls : Array Slot} (hP : zP D c o σ H) (hS : va_S (zA o) s.heap H locs) (hl : lv_has ls 4 [(3, .int 0), (2, .ref (o + 218)), (1, .ref (o + 0)), (0, .ref b)]) : W p l e room_1 s m #[Value.ref b] below meth cd H locs 243 106038 (lw_Z below #[Value.ref b] s) (F0 m 358 ls []) := by
  have C00 := C0
  obtain ⟨hx, hb, hr, hml, hown, hts0, hX0, hbl, hlocks, hgv⟩ := C0
  have hts : ∀ w ∈ zWl, w.before #[Value.ref b] s = true := fun w hw => hts0 w (List.mem_filter.mp hw).1
  have hown : s.vm.findClass RL = some m.cls := hown
  have hbA : ¬ zA o b := by show ¬ o ≤ b; omega
  refine lv_aload_n (pc := 358) hx hb dL_law_358 rfl (lv_at hl 2 rfl) ?_
  refine lv_aload_n (pc := 359) hx hb dL_law_359 rfl (lv_at hl 3 rfl) ?_
  refine lv_iload_n (pc := 360) hx hb dL_law_360 rfl (lv_at hl 0 rfl) ?_
  refine lv_iconst (pc := 361) (v := 1) hx hb dL_law_361 (by decide) ?_
  refine lv_iadd (pc := 362) hx hb dL_law_362 ?_
  refine lv_topi (pc := 363) (fun v1 ev1 => ?_)
  obtain rfl : v1 = 1 := ev1.trans (by decide)
  refine zsld (pc := 363) (k := 1) hx hb hX0 hbl hbA hS (vp_in_iff.mpr ⟨by decide, by decide⟩) rfl dL_law_363 ?_
  refine zcallVi (pc := 364) (k := 0) (As := [.int (xs 1)]) (rest := []) ⟨hx, hb, hml, hown, hts⟩ (fr_X11_fault l D c o σ (xs 1) hk hp) zc11 zV_L_32 rfl zd_X11_fault ⟨Nat.le_of_ble_eq_true rfl, Nat.le_of_ble_eq_true rfl⟩ hK hP hS rfl (by decide) hl.1 rfl (Nat.le_of_ble_eq_true rfl) ⟨Nat.le_of_ble_eq_true rfl, Nat.le_of_ble_eq_true rfl⟩ dL_law_364 (fun r2 σ3 H locs hw4 hP hS => ?_)
  obtain ⟨er2, rfl⟩ := hw4
  refine lv_aload_n (pc := 367) hx hb dL_law_367 rfl (lv_at hl 1 rfl) ?_
  refine lv_aload_n (pc := 368) hx hb dL_law_368 rfl (lv_at hl 3 rfl) ?_
  refine lv_iload_n (pc := 369) hx hb dL_law_369 rfl (lv_at hl 0 rfl) ?_
  refine lv_iconst (pc := 370) (v := 1) hx hb dL_law_370 (by decide) ?_
  refine lv_iadd (pc := 371) hx hb dL_law_371 ?_
  refine lv_topi (pc := 372) (fun v5 ev5 => ?_)
  obtain rfl : v5 = 1 := ev5.trans (by decide)
  refine zsld (pc := 372) (k := 1) hx hb hX0 hbl hbA hS (vp_in_iff.mpr ⟨by decide, by decide⟩) rfl dL_law_372 ?_
  refine zcallVi (pc := 373) (k := 218) (As := [.int (xs 1)]) (rest := [.int r2]) ⟨hx, hb, hml, hown, hts⟩ (fr_X12_fault l D c o σ (xs 1) mk mp) zc12 zV_L_35 rfl zd_X12_fault ⟨Nat.le_of_ble_eq_true rfl, Nat.le_of_ble_eq_true rfl⟩ hK hP hS rfl (by decide) hl.1 rfl (Nat.le_of_ble_eq_true rfl) ⟨Nat.le_of_ble_eq_true rfl, Nat.le_of_ble_eq_true rfl⟩ dL_law_373 (fun r6 σ7 H locs hw8 hP hS => ?_)
  have er6 := hw8
  refine lv_icmp_eq (pc := 376) (tgt := 1869) hx hb dL_law_376 (by decide) (fun _ => ?_) (fun q9 => absurd (er2.trans er6.symm) q9)
  exact lw_tail l ho C00 hK hS (lv_sub hl [0, 1, 2, 3] rfl)
set_option maxHeartbeats 4000000 in
set_option maxRecDepth 100000 in
theorem lw_case5 {p : Program} {e : Env} {s : State} {m : MethodId} {below : List Frame} {meth : Method} {cd : Code} (l : Launch) {b : Nat} {xs : Nat → Int32} {o : Nat} {D : va_G} {c : zC} (ho : s.heap.size = o) (C0 : lw_At p s m meth cd b 6 xs) (hK : zKt D c s) {σ : zS} (h0 : σ.1 2 0 = 0) (h1 : σ.1 2 1 = 0) (h2 : σ.1 2 2 = 0) (ht : σ.1 0 1 = 0) (hk : σ.1 0 2 = 0) (hp : σ.1 0 3 = (-1)) (hk0 : σ.1 55 0 = 0) (hk1 : σ.1 55 1 = 0) (hk2 : σ.1 55 2 = 0) (hb210 : σ.1 210 2 = (-1)) (hb212 : σ.1 212 2 = (-1)) (hb214 : σ.1 214 2 = (-1)) (hb216 : σ.1 216 2 = (-1)) (m0 : σ.1 219 0 = 0) (m1 : σ.1 219 1 = 0) (m2 : σ.1 219 2 = 0) (mt : σ.1 218 7 = 0) (mk : σ.1 218 14 = 0) (mp : σ.1 218 15 = (-1)) (mh0 : σ.1 223 0 = 0) (mh1 : σ.1 223 1 = 0) (mh2 : σ.1 223 2 = 0) (mm0 : σ.1 239 0 = (-1)) (mm1 : σ.1 239 1 = (-1)) (mm2 : σ.1 239 2 = (-1)) (mm3 : σ.1 239 3 = (-1)) (hR : zRef o σ.2.2) (hN : σ.2.2 0 4 = o + 2) (hSp : σ.2.2 0 5 = o + 28) (hz : ∀ k j, σ.2.1 k j = 0) {H : Heap} {locs : List Loc} {ls : Array Slot} (hP : zP D c o σ H) (hS : va_S (zA o) s.heap H locs) (hl : lv_has ls 4 [(3, .int 0), (2, .ref (o + 218)), (1, .ref (o + 0)), (0, .ref b)]) : W p l e room_1 s m #[Value.ref b] below meth cd H locs 243 106038 (lw_Z below #[Value.ref b] s) (F0 m 381 ls []) := by
  have C00 := C0
  obtain ⟨hx, hb, hr, hml, hown, hts0, hX0, hbl, hlocks, hgv⟩ := C0
  have hts : ∀ w ∈ zWl, w.before #[Value.ref b] s = true := fun w hw => hts0 w (List.mem_filter.mp hw).1
  have hown : s.vm.findClass RL = some m.cls := hown
  have hbA : ¬ zA o b := by show ¬ o ≤ b; omega
  refine lv_aload_n (pc := 381) hx hb dL_law_381 rfl (lv_at hl 2 rfl) ?_
  refine lv_aload_n (pc := 382) hx hb dL_law_382 rfl (lv_at hl 3 rfl) ?_
  refine lv_iload_n (pc := 383) hx hb dL_law_383 rfl (lv_at hl 0 rfl) ?_
  refine lv_iconst (pc := 384) (v := 1) hx hb dL_law_384 (by decide) ?_
  refine lv_iadd (pc := 385) hx hb dL_law_385 ?_
  refine lv_topi (pc := 386) (fun v1 ev1 => ?_)
  obtain rfl : v1 = 1 := ev1.trans (by decide)
  refine zsld (pc := 386) (k := 1) hx hb hX0 hbl hbA hS (vp_in_iff.mpr ⟨by decide, by decide⟩) rfl dL_law_386 ?_
  refine zcallVi (pc := 387) (k := 0) (As := [.int (xs 1)]) (rest := []) ⟨hx, hb, hml, hown, hts⟩ (nw_X11_size l D c o σ (xs 1) hR hN h0) zc11 zV_L_36 rfl zd_X11_size ⟨Nat.le_of_ble_eq_true rfl, Nat.le_of_ble_eq_true rfl⟩ hK hP hS rfl (by decide) hl.1 rfl (Nat.le_of_ble_eq_true rfl) ⟨Nat.le_of_ble_eq_true rfl, Nat.le_of_ble_eq_true rfl⟩ dL_law_387 (fun r2 σ3 H locs hw4 hP hS => ?_)
  obtain ⟨er2, rfl⟩ := hw4
  refine lv_aload_n (pc := 390) hx hb dL_law_390 rfl (lv_at hl 1 rfl) ?_
  refine lv_aload_n (pc := 391) hx hb dL_law_391 rfl (lv_at hl 3 rfl) ?_
  refine lv_iload_n (pc := 392) hx hb dL_law_392 rfl (lv_at hl 0 rfl) ?_
  refine lv_iconst (pc := 393) (v := 1) hx hb dL_law_393 (by decide) ?_
  refine lv_iadd (pc := 394) hx hb dL_law_394 ?_
  refine lv_topi (pc := 395) (fun v5 ev5 => ?_)
  obtain rfl : v5 = 1 := ev5.trans (by decide)
  refine zsld (pc := 395) (k := 1) hx hb hX0 hbl hbA hS (vp_in_iff.mpr ⟨by decide, by decide⟩) rfl dL_law_395 ?_
  refine zcallVi (pc := 396) (k := 218) (As := [.int (xs 1)]) (rest := [.int r2]) ⟨hx, hb, hml, hown, hts⟩ (nw_X12_size l D c o σ (xs 1) hR m0) zc12 zV_L_39 rfl zd_X12_size ⟨Nat.le_of_ble_eq_true rfl, Nat.le_of_ble_eq_true rfl⟩ hK hP hS rfl (by decide) hl.1 rfl (Nat.le_of_ble_eq_true rfl) ⟨Nat.le_of_ble_eq_true rfl, Nat.le_of_ble_eq_true rfl⟩ dL_law_396 (fun r6 σ7 H locs hw8 hP hS => ?_)
  obtain ⟨er6, rfl⟩ := hw8
  refine lv_icmp_eq (pc := 399) (tgt := 1869) hx hb dL_law_399 (by decide) (fun _ => ?_) (fun q9 => absurd (er2.trans er6.symm) q9)
  exact lw_tail l ho C00 hK hS (lv_sub hl [0, 1, 2, 3] rfl)
set_option maxHeartbeats 4000000 in
set_option maxRecDepth 100000 in
theorem lw_case6 {p : Program} {e : Env} {s : State} {m : MethodId} {below : List Frame} {meth : Method} {cd : Code} (l : Launch) {b : Nat} {xs : Nat → Int32} {o : Nat} {D : va_G} {c : zC} (ho : s.heap.size = o) (C0 : lw_At p s m meth cd b 6 xs) (hK : zKt D c s) {σ : zS} (h0 : σ.1 2 0 = 0) (h1 : σ.1 2 1 = 0) (h2 : σ.1 2 2 = 0) (ht : σ.1 0 1 = 0) (hk : σ.1 0 2 = 0) (hp : σ.1 0 3 = (-1)) (hk0 : σ.1 55 0 = 0) (hk1 : σ.1 55 1 = 0) (hk2 : σ.1 55 2 = 0) (hb210 : σ.1 210 2 = (-1)) (hb212 : σ.1 212 2 = (-1)) (hb214 : σ.1 214 2 = (-1)) (hb216 : σ.1 216 2 = (-1)) (m0 : σ.1 219 0 = 0) (m1 : σ.1 219 1 = 0) (m2 : σ.1 219 2 = 0) (mt : σ.1 218 7 = 0) (mk : σ.1 218 14 = 0) (mp : σ.1 218 15 = (-1)) (mh0 : σ.1 223 0 = 0) (mh1 : σ.1 223 1 = 0) (mh2 : σ.1 223 2 = 0) (mm0 : σ.1 239 0 = (-1)) (mm1 : σ.1 239 1 = (-1)) (mm2 : σ.1 239 2 = (-1)) (mm3 : σ.1 239 3 = (-1)) (hR : zRef o σ.2.2) (hN : σ.2.2 0 4 = o + 2) (hSp : σ.2.2 0 5 = o + 28) (hz : ∀ k j, σ.2.1 k j = 0) {H : Heap} {locs : List Loc} {ls : Array Slot} (hP : zP D c o σ H) (hS : va_S (zA o) s.heap H locs) (hl : lv_has ls 4 [(3, .int 0), (2, .ref (o + 218)), (1, .ref (o + 0)), (0, .ref b)]) : W p l e room_1 s m #[Value.ref b] below meth cd H locs 243 106038 (lw_Z below #[Value.ref b] s) (F0 m 404 ls []) := by
  have C00 := C0
  obtain ⟨hx, hb, hr, hml, hown, hts0, hX0, hbl, hlocks, hgv⟩ := C0
  have hts : ∀ w ∈ zWl, w.before #[Value.ref b] s = true := fun w hw => hts0 w (List.mem_filter.mp hw).1
  have hown : s.vm.findClass RL = some m.cls := hown
  have hbA : ¬ zA o b := by show ¬ o ≤ b; omega
  refine lv_aload_n (pc := 404) hx hb dL_law_404 rfl (lv_at hl 2 rfl) ?_
  refine lv_aload_n (pc := 405) hx hb dL_law_405 rfl (lv_at hl 3 rfl) ?_
  refine lv_iload_n (pc := 406) hx hb dL_law_406 rfl (lv_at hl 0 rfl) ?_
  refine lv_iconst (pc := 407) (v := 1) hx hb dL_law_407 (by decide) ?_
  refine lv_iadd (pc := 408) hx hb dL_law_408 ?_
  refine lv_topi (pc := 409) (fun v1 ev1 => ?_)
  obtain rfl : v1 = 1 := ev1.trans (by decide)
  refine zsld (pc := 409) (k := 1) hx hb hX0 hbl hbA hS (vp_in_iff.mpr ⟨by decide, by decide⟩) rfl dL_law_409 ?_
  refine lv_aload_n (pc := 410) hx hb dL_law_410 rfl (lv_at hl 3 rfl) ?_
  refine lv_iload_n (pc := 411) hx hb dL_law_411 rfl (lv_at hl 0 rfl) ?_
  refine lv_iconst (pc := 412) (v := 2) hx hb dL_law_412 (by decide) ?_
  refine lv_iadd (pc := 413) hx hb dL_law_413 ?_
  refine lv_topi (pc := 414) (fun v2 ev2 => ?_)
  obtain rfl : v2 = 2 := ev2.trans (by decide)
  refine zsld (pc := 414) (k := 2) hx hb hX0 hbl hbA hS (vp_in_iff.mpr ⟨by decide, by decide⟩) rfl dL_law_414 ?_
  refine zcallVi (pc := 415) (k := 0) (As := [.int (xs 1), .int (xs 2)]) (rest := []) ⟨hx, hb, hml, hown, hts⟩ (nw_X11_has l D c o σ (xs 1) (xs 2) hR hN h0) zc11 zV_L_40 rfl zd_X11_has ⟨Nat.le_of_ble_eq_true rfl, Nat.le_of_ble_eq_true rfl⟩ hK hP hS rfl (by decide) hl.1 rfl (Nat.le_of_ble_eq_true rfl) ⟨Nat.le_of_ble_eq_true rfl, Nat.le_of_ble_eq_true rfl⟩ dL_law_415 (fun r3 σ4 H locs hw5 hP hS => ?_)
  obtain ⟨er3, rfl⟩ := hw5
  refine lv_aload_n (pc := 418) hx hb dL_law_418 rfl (lv_at hl 1 rfl) ?_
  refine lv_aload_n (pc := 419) hx hb dL_law_419 rfl (lv_at hl 3 rfl) ?_
  refine lv_iload_n (pc := 420) hx hb dL_law_420 rfl (lv_at hl 0 rfl) ?_
  refine lv_iconst (pc := 421) (v := 1) hx hb dL_law_421 (by decide) ?_
  refine lv_iadd (pc := 422) hx hb dL_law_422 ?_
  refine lv_topi (pc := 423) (fun v6 ev6 => ?_)
  obtain rfl : v6 = 1 := ev6.trans (by decide)
  refine zsld (pc := 423) (k := 1) hx hb hX0 hbl hbA hS (vp_in_iff.mpr ⟨by decide, by decide⟩) rfl dL_law_423 ?_
  refine lv_aload_n (pc := 424) hx hb dL_law_424 rfl (lv_at hl 3 rfl) ?_
  refine lv_iload_n (pc := 425) hx hb dL_law_425 rfl (lv_at hl 0 rfl) ?_
  refine lv_iconst (pc := 426) (v := 2) hx hb dL_law_426 (by decide) ?_
  refine lv_iadd (pc := 427) hx hb dL_law_427 ?_
  refine lv_topi (pc := 428) (fun v7 ev7 => ?_)
  obtain rfl : v7 = 2 := ev7.trans (by decide)
  refine zsld (pc := 428) (k := 2) hx hb hX0 hbl hbA hS (vp_in_iff.mpr ⟨by decide, by decide⟩) rfl dL_law_428 ?_
  refine zcallVi (pc := 429) (k := 218) (As := [.int (xs 1), .int (xs 2)]) (rest := [.int r3]) ⟨hx, hb, hml, hown, hts⟩ (nw_X12_has l D c o σ (xs 1) (xs 2) hR m0) zc12 zV_L_44 rfl zd_X12_has ⟨Nat.le_of_ble_eq_true rfl, Nat.le_of_ble_eq_true rfl⟩ hK hP hS rfl (by decide) hl.1 rfl (Nat.le_of_ble_eq_true rfl) ⟨Nat.le_of_ble_eq_true rfl, Nat.le_of_ble_eq_true rfl⟩ dL_law_429 (fun r8 σ9 H locs hw10 hP hS => ?_)
  obtain ⟨er8, rfl⟩ := hw10
  refine lv_icmp_eq (pc := 432) (tgt := 1869) hx hb dL_law_432 (by decide) (fun _ => ?_) (fun q9 => absurd (er3.trans er8.symm) q9)
  exact lw_tail l ho C00 hK hS (lv_sub hl [0, 1, 2, 3] rfl)
set_option maxHeartbeats 4000000 in
set_option maxRecDepth 100000 in
theorem lw_case7 {p : Program} {e : Env} {s : State} {m : MethodId} {below : List Frame} {meth : Method} {cd : Code} (l : Launch) {b : Nat} {xs : Nat → Int32} {o : Nat} {D : va_G} {c : zC} (ho : s.heap.size = o) (C0 : lw_At p s m meth cd b 6 xs) (hK : zKt D c s) {σ : zS} (h0 : σ.1 2 0 = 0) (h1 : σ.1 2 1 = 0) (h2 : σ.1 2 2 = 0) (ht : σ.1 0 1 = 0) (hk : σ.1 0 2 = 0) (hp : σ.1 0 3 = (-1)) (hk0 : σ.1 55 0 = 0) (hk1 : σ.1 55 1 = 0) (hk2 : σ.1 55 2 = 0) (hb210 : σ.1 210 2 = (-1)) (hb212 : σ.1 212 2 = (-1)) (hb214 : σ.1 214 2 = (-1)) (hb216 : σ.1 216 2 = (-1)) (m0 : σ.1 219 0 = 0) (m1 : σ.1 219 1 = 0) (m2 : σ.1 219 2 = 0) (mt : σ.1 218 7 = 0) (mk : σ.1 218 14 = 0) (mp : σ.1 218 15 = (-1)) (mh0 : σ.1 223 0 = 0) (mh1 : σ.1 223 1 = 0) (mh2 : σ.1 223 2 = 0) (mm0 : σ.1 239 0 = (-1)) (mm1 : σ.1 239 1 = (-1)) (mm2 : σ.1 239 2 = (-1)) (mm3 : σ.1 239 3 = (-1)) (hR : zRef o σ.2.2) (hN : σ.2.2 0 4 = o + 2) (hSp : σ.2.2 0 5 = o + 28) (hz : ∀ k j, σ.2.1 k j = 0) {H : Heap} {locs : List Loc} {ls : Array Slot} (hP : zP D c o σ H) (hS : va_S (zA o) s.heap H locs) (hl : lv_has ls 4 [(3, .int 0), (2, .ref (o + 218)), (1, .ref (o + 0)), (0, .ref b)]) : W p l e room_1 s m #[Value.ref b] below meth cd H locs 243 106038 (lw_Z below #[Value.ref b] s) (F0 m 437 ls []) := by
  have C00 := C0
  obtain ⟨hx, hb, hr, hml, hown, hts0, hX0, hbl, hlocks, hgv⟩ := C0
  have hts : ∀ w ∈ zWl, w.before #[Value.ref b] s = true := fun w hw => hts0 w (List.mem_filter.mp hw).1
  have hown : s.vm.findClass RL = some m.cls := hown
  have hbA : ¬ zA o b := by show ¬ o ≤ b; omega
  refine lv_aload_n (pc := 437) hx hb dL_law_437 rfl (lv_at hl 2 rfl) ?_
  refine lv_aload_n (pc := 438) hx hb dL_law_438 rfl (lv_at hl 3 rfl) ?_
  refine lv_iload_n (pc := 439) hx hb dL_law_439 rfl (lv_at hl 0 rfl) ?_
  refine lv_iconst (pc := 440) (v := 1) hx hb dL_law_440 (by decide) ?_
  refine lv_iadd (pc := 441) hx hb dL_law_441 ?_
  refine lv_topi (pc := 442) (fun v1 ev1 => ?_)
  obtain rfl : v1 = 1 := ev1.trans (by decide)
  refine zsld (pc := 442) (k := 1) hx hb hX0 hbl hbA hS (vp_in_iff.mpr ⟨by decide, by decide⟩) rfl dL_law_442 ?_
  refine lv_aload_n (pc := 443) hx hb dL_law_443 rfl (lv_at hl 3 rfl) ?_
  refine lv_iload_n (pc := 444) hx hb dL_law_444 rfl (lv_at hl 0 rfl) ?_
  refine lv_iconst (pc := 445) (v := 2) hx hb dL_law_445 (by decide) ?_
  refine lv_iadd (pc := 446) hx hb dL_law_446 ?_
  refine lv_topi (pc := 447) (fun v2 ev2 => ?_)
  obtain rfl : v2 = 2 := ev2.trans (by decide)
  refine zsld (pc := 447) (k := 2) hx hb hX0 hbl hbA hS (vp_in_iff.mpr ⟨by decide, by decide⟩) rfl dL_law_447 ?_
  refine lv_aload_n (pc := 448) hx hb dL_law_448 rfl (lv_at hl 3 rfl) ?_
  refine lv_iload_n (pc := 449) hx hb dL_law_449 rfl (lv_at hl 0 rfl) ?_
  refine lv_iconst (pc := 450) (v := 3) hx hb dL_law_450 (by decide) ?_
  refine lv_iadd (pc := 451) hx hb dL_law_451 ?_
  refine lv_topi (pc := 452) (fun v3 ev3 => ?_)
  obtain rfl : v3 = 3 := ev3.trans (by decide)
  refine zsld (pc := 452) (k := 3) hx hb hX0 hbl hbA hS (vp_in_iff.mpr ⟨by decide, by decide⟩) rfl dL_law_452 ?_
  refine lv_aload_n (pc := 453) hx hb dL_law_453 rfl (lv_at hl 3 rfl) ?_
  refine lv_iload_n (pc := 454) hx hb dL_law_454 rfl (lv_at hl 0 rfl) ?_
  refine lv_iconst (pc := 455) (v := 4) hx hb dL_law_455 (by decide) ?_
  refine lv_iadd (pc := 456) hx hb dL_law_456 ?_
  refine lv_topi (pc := 457) (fun v4 ev4 => ?_)
  obtain rfl : v4 = 4 := ev4.trans (by decide)
  refine zsld (pc := 457) (k := 4) hx hb hX0 hbl hbA hS (vp_in_iff.mpr ⟨by decide, by decide⟩) rfl dL_law_457 ?_
  refine zcallVi (pc := 458) (k := 0) (As := [.int (xs 1), .int (xs 2), .int (xs 3), .int (xs 4)]) (rest := []) ⟨hx, hb, hml, hown, hts⟩ (nw_X11_makes l D c o σ (xs 1) (xs 2) (xs 3) (xs 4) hR hN h0) zc11 zV_L_45 rfl zd_X11_makes ⟨Nat.le_of_ble_eq_true rfl, Nat.le_of_ble_eq_true rfl⟩ hK hP hS rfl (by decide) hl.1 rfl (Nat.le_of_ble_eq_true rfl) ⟨Nat.le_of_ble_eq_true rfl, Nat.le_of_ble_eq_true rfl⟩ dL_law_458 (fun r5 σ6 H locs hw7 hP hS => ?_)
  obtain ⟨er5, rfl⟩ := hw7
  refine lv_aload_n (pc := 461) hx hb dL_law_461 rfl (lv_at hl 1 rfl) ?_
  refine lv_aload_n (pc := 462) hx hb dL_law_462 rfl (lv_at hl 3 rfl) ?_
  refine lv_iload_n (pc := 463) hx hb dL_law_463 rfl (lv_at hl 0 rfl) ?_
  refine lv_iconst (pc := 464) (v := 1) hx hb dL_law_464 (by decide) ?_
  refine lv_iadd (pc := 465) hx hb dL_law_465 ?_
  refine lv_topi (pc := 466) (fun v8 ev8 => ?_)
  obtain rfl : v8 = 1 := ev8.trans (by decide)
  refine zsld (pc := 466) (k := 1) hx hb hX0 hbl hbA hS (vp_in_iff.mpr ⟨by decide, by decide⟩) rfl dL_law_466 ?_
  refine lv_aload_n (pc := 467) hx hb dL_law_467 rfl (lv_at hl 3 rfl) ?_
  refine lv_iload_n (pc := 468) hx hb dL_law_468 rfl (lv_at hl 0 rfl) ?_
  refine lv_iconst (pc := 469) (v := 2) hx hb dL_law_469 (by decide) ?_
  refine lv_iadd (pc := 470) hx hb dL_law_470 ?_
  refine lv_topi (pc := 471) (fun v9 ev9 => ?_)
  obtain rfl : v9 = 2 := ev9.trans (by decide)
  refine zsld (pc := 471) (k := 2) hx hb hX0 hbl hbA hS (vp_in_iff.mpr ⟨by decide, by decide⟩) rfl dL_law_471 ?_
  refine lv_aload_n (pc := 472) hx hb dL_law_472 rfl (lv_at hl 3 rfl) ?_
  refine lv_iload_n (pc := 473) hx hb dL_law_473 rfl (lv_at hl 0 rfl) ?_
  refine lv_iconst (pc := 474) (v := 3) hx hb dL_law_474 (by decide) ?_
  refine lv_iadd (pc := 475) hx hb dL_law_475 ?_
  refine lv_topi (pc := 476) (fun v10 ev10 => ?_)
  obtain rfl : v10 = 3 := ev10.trans (by decide)
  refine zsld (pc := 476) (k := 3) hx hb hX0 hbl hbA hS (vp_in_iff.mpr ⟨by decide, by decide⟩) rfl dL_law_476 ?_
  refine lv_aload_n (pc := 477) hx hb dL_law_477 rfl (lv_at hl 3 rfl) ?_
  refine lv_iload_n (pc := 478) hx hb dL_law_478 rfl (lv_at hl 0 rfl) ?_
  refine lv_iconst (pc := 479) (v := 4) hx hb dL_law_479 (by decide) ?_
  refine lv_iadd (pc := 480) hx hb dL_law_480 ?_
  refine lv_topi (pc := 481) (fun v11 ev11 => ?_)
  obtain rfl : v11 = 4 := ev11.trans (by decide)
  refine zsld (pc := 481) (k := 4) hx hb hX0 hbl hbA hS (vp_in_iff.mpr ⟨by decide, by decide⟩) rfl dL_law_481 ?_
  refine zcallVi (pc := 482) (k := 218) (As := [.int (xs 1), .int (xs 2), .int (xs 3), .int (xs 4)]) (rest := [.int r5]) ⟨hx, hb, hml, hown, hts⟩ (nw_X12_makes l D c o σ (xs 1) (xs 2) (xs 3) (xs 4) hR m0) zc12 zV_L_49 rfl zd_X12_makes ⟨Nat.le_of_ble_eq_true rfl, Nat.le_of_ble_eq_true rfl⟩ hK hP hS rfl (by decide) hl.1 rfl (Nat.le_of_ble_eq_true rfl) ⟨Nat.le_of_ble_eq_true rfl, Nat.le_of_ble_eq_true rfl⟩ dL_law_482 (fun r12 σ13 H locs hw14 hP hS => ?_)
  obtain ⟨er12, rfl⟩ := hw14
  refine lv_icmp_eq (pc := 485) (tgt := 1869) hx hb dL_law_485 (by decide) (fun _ => ?_) (fun q9 => absurd (er5.trans er12.symm) q9)
  exact lw_tail l ho C00 hK hS (lv_sub hl [0, 1, 2, 3] rfl)
set_option maxHeartbeats 4000000 in
set_option maxRecDepth 100000 in
theorem lw_case8 {p : Program} {e : Env} {s : State} {m : MethodId} {below : List Frame} {meth : Method} {cd : Code} (l : Launch) {b : Nat} {xs : Nat → Int32} {o : Nat} {D : va_G} {c : zC} (ho : s.heap.size = o) (C0 : lw_At p s m meth cd b 6 xs) (hK : zKt D c s) {σ : zS} (h0 : σ.1 2 0 = 0) (h1 : σ.1 2 1 = 0) (h2 : σ.1 2 2 = 0) (ht : σ.1 0 1 = 0) (hk : σ.1 0 2 = 0) (hp : σ.1 0 3 = (-1)) (hk0 : σ.1 55 0 = 0) (hk1 : σ.1 55 1 = 0) (hk2 : σ.1 55 2 = 0) (hb210 : σ.1 210 2 = (-1)) (hb212 : σ.1 212 2 = (-1)) (hb214 : σ.1 214 2 = (-1)) (hb216 : σ.1 216 2 = (-1)) (m0 : σ.1 219 0 = 0) (m1 : σ.1 219 1 = 0) (m2 : σ.1 219 2 = 0) (mt : σ.1 218 7 = 0) (mk : σ.1 218 14 = 0) (mp : σ.1 218 15 = (-1)) (mh0 : σ.1 223 0 = 0) (mh1 : σ.1 223 1 = 0) (mh2 : σ.1 223 2 = 0) (mm0 : σ.1 239 0 = (-1)) (mm1 : σ.1 239 1 = (-1)) (mm2 : σ.1 239 2 = (-1)) (mm3 : σ.1 239 3 = (-1)) (hR : zRef o σ.2.2) (hN : σ.2.2 0 4 = o + 2) (hSp : σ.2.2 0 5 = o + 28) (hz : ∀ k j, σ.2.1 k j = 0) {H : Heap} {locs : List Loc} {ls : Array Slot} (hP : zP D c o σ H) (hS : va_S (zA o) s.heap H locs) (hl : lv_has ls 4 [(3, .int 0), (2, .ref (o + 218)), (1, .ref (o + 0)), (0, .ref b)]) : W p l e room_1 s m #[Value.ref b] below meth cd H locs 243 106038 (lw_Z below #[Value.ref b] s) (F0 m 490 ls []) := by
  have C00 := C0
  obtain ⟨hx, hb, hr, hml, hown, hts0, hX0, hbl, hlocks, hgv⟩ := C0
  have hts : ∀ w ∈ zWl, w.before #[Value.ref b] s = true := fun w hw => hts0 w (List.mem_filter.mp hw).1
  have hown : s.vm.findClass RL = some m.cls := hown
  have hbA : ¬ zA o b := by show ¬ o ≤ b; omega
  refine lv_aload_n (pc := 490) hx hb dL_law_490 rfl (lv_at hl 2 rfl) ?_
  refine lv_aload_n (pc := 491) hx hb dL_law_491 rfl (lv_at hl 3 rfl) ?_
  refine lv_iload_n (pc := 492) hx hb dL_law_492 rfl (lv_at hl 0 rfl) ?_
  refine lv_iconst (pc := 493) (v := 1) hx hb dL_law_493 (by decide) ?_
  refine lv_iadd (pc := 494) hx hb dL_law_494 ?_
  refine lv_topi (pc := 495) (fun v1 ev1 => ?_)
  obtain rfl : v1 = 1 := ev1.trans (by decide)
  refine zsld (pc := 495) (k := 1) hx hb hX0 hbl hbA hS (vp_in_iff.mpr ⟨by decide, by decide⟩) rfl dL_law_495 ?_
  refine lv_aload_n (pc := 496) hx hb dL_law_496 rfl (lv_at hl 3 rfl) ?_
  refine lv_iload_n (pc := 497) hx hb dL_law_497 rfl (lv_at hl 0 rfl) ?_
  refine lv_iconst (pc := 498) (v := 2) hx hb dL_law_498 (by decide) ?_
  refine lv_iadd (pc := 499) hx hb dL_law_499 ?_
  refine lv_topi (pc := 500) (fun v2 ev2 => ?_)
  obtain rfl : v2 = 2 := ev2.trans (by decide)
  refine zsld (pc := 500) (k := 2) hx hb hX0 hbl hbA hS (vp_in_iff.mpr ⟨by decide, by decide⟩) rfl dL_law_500 ?_
  refine lv_aload_n (pc := 501) hx hb dL_law_501 rfl (lv_at hl 3 rfl) ?_
  refine lv_iload_n (pc := 502) hx hb dL_law_502 rfl (lv_at hl 0 rfl) ?_
  refine lv_iconst (pc := 503) (v := 3) hx hb dL_law_503 (by decide) ?_
  refine lv_iadd (pc := 504) hx hb dL_law_504 ?_
  refine lv_topi (pc := 505) (fun v3 ev3 => ?_)
  obtain rfl : v3 = 3 := ev3.trans (by decide)
  refine zsld (pc := 505) (k := 3) hx hb hX0 hbl hbA hS (vp_in_iff.mpr ⟨by decide, by decide⟩) rfl dL_law_505 ?_
  refine zcallVi (pc := 506) (k := 0) (As := [.int (xs 1), .int (xs 2), .int (xs 3)]) (rest := []) ⟨hx, hb, hml, hown, hts⟩ (nw_X11_turn l D c o σ (xs 1) (xs 2) (xs 3) hR hN h0) zc11 zV_L_50 rfl zd_X11_turn ⟨Nat.le_of_ble_eq_true rfl, Nat.le_of_ble_eq_true rfl⟩ hK hP hS rfl (by decide) hl.1 rfl (Nat.le_of_ble_eq_true rfl) ⟨Nat.le_of_ble_eq_true rfl, Nat.le_of_ble_eq_true rfl⟩ dL_law_506 (fun r4 σ5 H locs hw6 hP hS => ?_)
  obtain ⟨er4, rfl⟩ := hw6
  refine lv_aload_n (pc := 509) hx hb dL_law_509 rfl (lv_at hl 1 rfl) ?_
  refine lv_aload_n (pc := 510) hx hb dL_law_510 rfl (lv_at hl 3 rfl) ?_
  refine lv_iload_n (pc := 511) hx hb dL_law_511 rfl (lv_at hl 0 rfl) ?_
  refine lv_iconst (pc := 512) (v := 1) hx hb dL_law_512 (by decide) ?_
  refine lv_iadd (pc := 513) hx hb dL_law_513 ?_
  refine lv_topi (pc := 514) (fun v7 ev7 => ?_)
  obtain rfl : v7 = 1 := ev7.trans (by decide)
  refine zsld (pc := 514) (k := 1) hx hb hX0 hbl hbA hS (vp_in_iff.mpr ⟨by decide, by decide⟩) rfl dL_law_514 ?_
  refine lv_aload_n (pc := 515) hx hb dL_law_515 rfl (lv_at hl 3 rfl) ?_
  refine lv_iload_n (pc := 516) hx hb dL_law_516 rfl (lv_at hl 0 rfl) ?_
  refine lv_iconst (pc := 517) (v := 2) hx hb dL_law_517 (by decide) ?_
  refine lv_iadd (pc := 518) hx hb dL_law_518 ?_
  refine lv_topi (pc := 519) (fun v8 ev8 => ?_)
  obtain rfl : v8 = 2 := ev8.trans (by decide)
  refine zsld (pc := 519) (k := 2) hx hb hX0 hbl hbA hS (vp_in_iff.mpr ⟨by decide, by decide⟩) rfl dL_law_519 ?_
  refine lv_aload_n (pc := 520) hx hb dL_law_520 rfl (lv_at hl 3 rfl) ?_
  refine lv_iload_n (pc := 521) hx hb dL_law_521 rfl (lv_at hl 0 rfl) ?_
  refine lv_iconst (pc := 522) (v := 3) hx hb dL_law_522 (by decide) ?_
  refine lv_iadd (pc := 523) hx hb dL_law_523 ?_
  refine lv_topi (pc := 524) (fun v9 ev9 => ?_)
  obtain rfl : v9 = 3 := ev9.trans (by decide)
  refine zsld (pc := 524) (k := 3) hx hb hX0 hbl hbA hS (vp_in_iff.mpr ⟨by decide, by decide⟩) rfl dL_law_524 ?_
  refine zcallVi (pc := 525) (k := 218) (As := [.int (xs 1), .int (xs 2), .int (xs 3)]) (rest := [.int r4]) ⟨hx, hb, hml, hown, hts⟩ (nw_X12_turn l D c o σ (xs 1) (xs 2) (xs 3) hR m0) zc12 zV_L_54 rfl zd_X12_turn ⟨Nat.le_of_ble_eq_true rfl, Nat.le_of_ble_eq_true rfl⟩ hK hP hS rfl (by decide) hl.1 rfl (Nat.le_of_ble_eq_true rfl) ⟨Nat.le_of_ble_eq_true rfl, Nat.le_of_ble_eq_true rfl⟩ dL_law_525 (fun r10 σ11 H locs hw12 hP hS => ?_)
  obtain ⟨er10, rfl⟩ := hw12
  refine lv_icmp_eq (pc := 528) (tgt := 1869) hx hb dL_law_528 (by decide) (fun _ => ?_) (fun q9 => absurd (er4.trans er10.symm) q9)
  exact lw_tail l ho C00 hK hS (lv_sub hl [0, 1, 2, 3] rfl)
set_option maxHeartbeats 4000000 in
set_option maxRecDepth 100000 in
theorem lw_case9 {p : Program} {e : Env} {s : State} {m : MethodId} {below : List Frame} {meth : Method} {cd : Code} (l : Launch) {b : Nat} {xs : Nat → Int32} {o : Nat} {D : va_G} {c : zC} (ho : s.heap.size = o) (C0 : lw_At p s m meth cd b 6 xs) (hK : zKt D c s) {σ : zS} (h0 : σ.1 2 0 = 0) (h1 : σ.1 2 1 = 0) (h2 : σ.1 2 2 = 0) (ht : σ.1 0 1 = 0) (hk : σ.1 0 2 = 0) (hp : σ.1 0 3 = (-1)) (hk0 : σ.1 55 0 = 0) (hk1 : σ.1 55 1 = 0) (hk2 : σ.1 55 2 = 0) (hb210 : σ.1 210 2 = (-1)) (hb212 : σ.1 212 2 = (-1)) (hb214 : σ.1 214 2 = (-1)) (hb216 : σ.1 216 2 = (-1)) (m0 : σ.1 219 0 = 0) (m1 : σ.1 219 1 = 0) (m2 : σ.1 219 2 = 0) (mt : σ.1 218 7 = 0) (mk : σ.1 218 14 = 0) (mp : σ.1 218 15 = (-1)) (mh0 : σ.1 223 0 = 0) (mh1 : σ.1 223 1 = 0) (mh2 : σ.1 223 2 = 0) (mm0 : σ.1 239 0 = (-1)) (mm1 : σ.1 239 1 = (-1)) (mm2 : σ.1 239 2 = (-1)) (mm3 : σ.1 239 3 = (-1)) (hR : zRef o σ.2.2) (hN : σ.2.2 0 4 = o + 2) (hSp : σ.2.2 0 5 = o + 28) (hz : ∀ k j, σ.2.1 k j = 0) {H : Heap} {locs : List Loc} {ls : Array Slot} (hP : zP D c o σ H) (hS : va_S (zA o) s.heap H locs) (hl : lv_has ls 4 [(3, .int 0), (2, .ref (o + 218)), (1, .ref (o + 0)), (0, .ref b)]) : W p l e room_1 s m #[Value.ref b] below meth cd H locs 243 106038 (lw_Z below #[Value.ref b] s) (F0 m 533 ls []) := by
  have C00 := C0
  obtain ⟨hx, hb, hr, hml, hown, hts0, hX0, hbl, hlocks, hgv⟩ := C0
  have hts : ∀ w ∈ zWl, w.before #[Value.ref b] s = true := fun w hw => hts0 w (List.mem_filter.mp hw).1
  have hown : s.vm.findClass RL = some m.cls := hown
  have hbA : ¬ zA o b := by show ¬ o ≤ b; omega
  refine lv_aload_n (pc := 533) hx hb dL_law_533 rfl (lv_at hl 2 rfl) ?_
  refine lv_aload_n (pc := 534) hx hb dL_law_534 rfl (lv_at hl 3 rfl) ?_
  refine lv_iload_n (pc := 535) hx hb dL_law_535 rfl (lv_at hl 0 rfl) ?_
  refine lv_iconst (pc := 536) (v := 1) hx hb dL_law_536 (by decide) ?_
  refine lv_iadd (pc := 537) hx hb dL_law_537 ?_
  refine lv_topi (pc := 538) (fun v1 ev1 => ?_)
  obtain rfl : v1 = 1 := ev1.trans (by decide)
  refine zsld (pc := 538) (k := 1) hx hb hX0 hbl hbA hS (vp_in_iff.mpr ⟨by decide, by decide⟩) rfl dL_law_538 ?_
  refine lv_aload_n (pc := 539) hx hb dL_law_539 rfl (lv_at hl 3 rfl) ?_
  refine lv_iload_n (pc := 540) hx hb dL_law_540 rfl (lv_at hl 0 rfl) ?_
  refine lv_iconst (pc := 541) (v := 2) hx hb dL_law_541 (by decide) ?_
  refine lv_iadd (pc := 542) hx hb dL_law_542 ?_
  refine lv_topi (pc := 543) (fun v2 ev2 => ?_)
  obtain rfl : v2 = 2 := ev2.trans (by decide)
  refine zsld (pc := 543) (k := 2) hx hb hX0 hbl hbA hS (vp_in_iff.mpr ⟨by decide, by decide⟩) rfl dL_law_543 ?_
  refine lv_aload_n (pc := 544) hx hb dL_law_544 rfl (lv_at hl 3 rfl) ?_
  refine lv_iload_n (pc := 545) hx hb dL_law_545 rfl (lv_at hl 0 rfl) ?_
  refine lv_iconst (pc := 546) (v := 3) hx hb dL_law_546 (by decide) ?_
  refine lv_iadd (pc := 547) hx hb dL_law_547 ?_
  refine lv_topi (pc := 548) (fun v3 ev3 => ?_)
  obtain rfl : v3 = 3 := ev3.trans (by decide)
  refine zsld (pc := 548) (k := 3) hx hb hX0 hbl hbA hS (vp_in_iff.mpr ⟨by decide, by decide⟩) rfl dL_law_548 ?_
  refine lv_if_eq (pc := 549) (tgt := 556) hx hb dL_law_549 (by decide) (fun c4 => ?_) (fun c4 => ?_)
  · refine lv_iconst (pc := 556) (v := 0) hx hb dL_law_556 (by decide) ?_
    refine zcallVi (pc := 557) (k := 0) (As := [.int (xs 1), .int (xs 2), .int 0]) (rest := []) ⟨hx, hb, hml, hown, hts⟩ (nw_X11_sets l D c o σ (xs 1) (xs 2) 0 hR hN h0) zc11 zV_L_55 rfl zd_X11_sets ⟨Nat.le_of_ble_eq_true rfl, Nat.le_of_ble_eq_true rfl⟩ hK hP hS rfl (by decide) hl.1 rfl (Nat.le_of_ble_eq_true rfl) ⟨Nat.le_of_ble_eq_true rfl, Nat.le_of_ble_eq_true rfl⟩ dL_law_557 (fun r5 σ6 H locs hw7 hP hS => ?_)
    obtain ⟨er5, rfl⟩ := hw7
    refine lv_aload_n (pc := 560) hx hb dL_law_560 rfl (lv_at hl 1 rfl) ?_
    refine lv_aload_n (pc := 561) hx hb dL_law_561 rfl (lv_at hl 3 rfl) ?_
    refine lv_iload_n (pc := 562) hx hb dL_law_562 rfl (lv_at hl 0 rfl) ?_
    refine lv_iconst (pc := 563) (v := 1) hx hb dL_law_563 (by decide) ?_
    refine lv_iadd (pc := 564) hx hb dL_law_564 ?_
    refine lv_topi (pc := 565) (fun v8 ev8 => ?_)
    obtain rfl : v8 = 1 := ev8.trans (by decide)
    refine zsld (pc := 565) (k := 1) hx hb hX0 hbl hbA hS (vp_in_iff.mpr ⟨by decide, by decide⟩) rfl dL_law_565 ?_
    refine lv_aload_n (pc := 566) hx hb dL_law_566 rfl (lv_at hl 3 rfl) ?_
    refine lv_iload_n (pc := 567) hx hb dL_law_567 rfl (lv_at hl 0 rfl) ?_
    refine lv_iconst (pc := 568) (v := 2) hx hb dL_law_568 (by decide) ?_
    refine lv_iadd (pc := 569) hx hb dL_law_569 ?_
    refine lv_topi (pc := 570) (fun v9 ev9 => ?_)
    obtain rfl : v9 = 2 := ev9.trans (by decide)
    refine zsld (pc := 570) (k := 2) hx hb hX0 hbl hbA hS (vp_in_iff.mpr ⟨by decide, by decide⟩) rfl dL_law_570 ?_
    refine lv_aload_n (pc := 571) hx hb dL_law_571 rfl (lv_at hl 3 rfl) ?_
    refine lv_iload_n (pc := 572) hx hb dL_law_572 rfl (lv_at hl 0 rfl) ?_
    refine lv_iconst (pc := 573) (v := 3) hx hb dL_law_573 (by decide) ?_
    refine lv_iadd (pc := 574) hx hb dL_law_574 ?_
    refine lv_topi (pc := 575) (fun v10 ev10 => ?_)
    obtain rfl : v10 = 3 := ev10.trans (by decide)
    refine zsld (pc := 575) (k := 3) hx hb hX0 hbl hbA hS (vp_in_iff.mpr ⟨by decide, by decide⟩) rfl dL_law_575 ?_
    refine lv_if_eq (pc := 576) (tgt := 583) hx hb dL_law_576 (by decide) (fun c11 => ?_) (fun c11 => ?_)
    · refine lv_iconst (pc := 583) (v := 0) hx hb dL_law_583 (by decide) ?_
      refine zcallVi (pc := 584) (k := 218) (As := [.int (xs 1), .int (xs 2), .int 0]) (rest := [.int r5]) ⟨hx, hb, hml, hown, hts⟩ (nw_X12_sets l D c o σ (xs 1) (xs 2) 0 hR m0) zc12 zV_L_59 rfl zd_X12_sets ⟨Nat.le_of_ble_eq_true rfl, Nat.le_of_ble_eq_true rfl⟩ hK hP hS rfl (by decide) hl.1 rfl (Nat.le_of_ble_eq_true rfl) ⟨Nat.le_of_ble_eq_true rfl, Nat.le_of_ble_eq_true rfl⟩ dL_law_584 (fun r12 σ13 H locs hw14 hP hS => ?_)
      obtain ⟨er12, rfl⟩ := hw14
      refine lv_icmp_eq (pc := 587) (tgt := 1869) hx hb dL_law_587 (by decide) (fun _ => ?_) (fun q9 => absurd (er5.trans er12.symm) q9)
      exact lw_tail l ho C00 hK hS (lv_sub hl [0, 1, 2, 3] rfl)
    · refine lv_iconst (pc := 579) (v := 1) hx hb dL_law_579 (by decide) ?_
      refine lv_goto (pc := 580) (tgt := 584) hx hb dL_law_580 (by decide) ?_
      refine zcallVi (pc := 584) (k := 218) (As := [.int (xs 1), .int (xs 2), .int 1]) (rest := [.int r5]) ⟨hx, hb, hml, hown, hts⟩ (nw_X12_sets l D c o σ (xs 1) (xs 2) 1 hR m0) zc12 zV_L_59 rfl zd_X12_sets ⟨Nat.le_of_ble_eq_true rfl, Nat.le_of_ble_eq_true rfl⟩ hK hP hS rfl (by decide) hl.1 rfl (Nat.le_of_ble_eq_true rfl) ⟨Nat.le_of_ble_eq_true rfl, Nat.le_of_ble_eq_true rfl⟩ dL_law_584 (fun r15 σ16 H locs hw17 hP hS => ?_)
      obtain ⟨er15, rfl⟩ := hw17
      refine lv_icmp_eq (pc := 587) (tgt := 1869) hx hb dL_law_587 (by decide) (fun _ => ?_) (fun q9 => absurd (er5.trans er15.symm) q9)
      exact lw_tail l ho C00 hK hS (lv_sub hl [0, 1, 2, 3] rfl)
  · refine lv_iconst (pc := 552) (v := 1) hx hb dL_law_552 (by decide) ?_
    refine lv_goto (pc := 553) (tgt := 557) hx hb dL_law_553 (by decide) ?_
    refine zcallVi (pc := 557) (k := 0) (As := [.int (xs 1), .int (xs 2), .int 1]) (rest := []) ⟨hx, hb, hml, hown, hts⟩ (nw_X11_sets l D c o σ (xs 1) (xs 2) 1 hR hN h0) zc11 zV_L_55 rfl zd_X11_sets ⟨Nat.le_of_ble_eq_true rfl, Nat.le_of_ble_eq_true rfl⟩ hK hP hS rfl (by decide) hl.1 rfl (Nat.le_of_ble_eq_true rfl) ⟨Nat.le_of_ble_eq_true rfl, Nat.le_of_ble_eq_true rfl⟩ dL_law_557 (fun r18 σ19 H locs hw20 hP hS => ?_)
    obtain ⟨er18, rfl⟩ := hw20
    refine lv_aload_n (pc := 560) hx hb dL_law_560 rfl (lv_at hl 1 rfl) ?_
    refine lv_aload_n (pc := 561) hx hb dL_law_561 rfl (lv_at hl 3 rfl) ?_
    refine lv_iload_n (pc := 562) hx hb dL_law_562 rfl (lv_at hl 0 rfl) ?_
    refine lv_iconst (pc := 563) (v := 1) hx hb dL_law_563 (by decide) ?_
    refine lv_iadd (pc := 564) hx hb dL_law_564 ?_
    refine lv_topi (pc := 565) (fun v21 ev21 => ?_)
    obtain rfl : v21 = 1 := ev21.trans (by decide)
    refine zsld (pc := 565) (k := 1) hx hb hX0 hbl hbA hS (vp_in_iff.mpr ⟨by decide, by decide⟩) rfl dL_law_565 ?_
    refine lv_aload_n (pc := 566) hx hb dL_law_566 rfl (lv_at hl 3 rfl) ?_
    refine lv_iload_n (pc := 567) hx hb dL_law_567 rfl (lv_at hl 0 rfl) ?_
    refine lv_iconst (pc := 568) (v := 2) hx hb dL_law_568 (by decide) ?_
    refine lv_iadd (pc := 569) hx hb dL_law_569 ?_
    refine lv_topi (pc := 570) (fun v22 ev22 => ?_)
    obtain rfl : v22 = 2 := ev22.trans (by decide)
    refine zsld (pc := 570) (k := 2) hx hb hX0 hbl hbA hS (vp_in_iff.mpr ⟨by decide, by decide⟩) rfl dL_law_570 ?_
    refine lv_aload_n (pc := 571) hx hb dL_law_571 rfl (lv_at hl 3 rfl) ?_
    refine lv_iload_n (pc := 572) hx hb dL_law_572 rfl (lv_at hl 0 rfl) ?_
    refine lv_iconst (pc := 573) (v := 3) hx hb dL_law_573 (by decide) ?_
    refine lv_iadd (pc := 574) hx hb dL_law_574 ?_
    refine lv_topi (pc := 575) (fun v23 ev23 => ?_)
    obtain rfl : v23 = 3 := ev23.trans (by decide)
    refine zsld (pc := 575) (k := 3) hx hb hX0 hbl hbA hS (vp_in_iff.mpr ⟨by decide, by decide⟩) rfl dL_law_575 ?_
    refine lv_if_eq (pc := 576) (tgt := 583) hx hb dL_law_576 (by decide) (fun c24 => ?_) (fun c24 => ?_)
    · refine lv_iconst (pc := 583) (v := 0) hx hb dL_law_583 (by decide) ?_
      refine zcallVi (pc := 584) (k := 218) (As := [.int (xs 1), .int (xs 2), .int 0]) (rest := [.int r18]) ⟨hx, hb, hml, hown, hts⟩ (nw_X12_sets l D c o σ (xs 1) (xs 2) 0 hR m0) zc12 zV_L_59 rfl zd_X12_sets ⟨Nat.le_of_ble_eq_true rfl, Nat.le_of_ble_eq_true rfl⟩ hK hP hS rfl (by decide) hl.1 rfl (Nat.le_of_ble_eq_true rfl) ⟨Nat.le_of_ble_eq_true rfl, Nat.le_of_ble_eq_true rfl⟩ dL_law_584 (fun r25 σ26 H locs hw27 hP hS => ?_)
      obtain ⟨er25, rfl⟩ := hw27
      refine lv_icmp_eq (pc := 587) (tgt := 1869) hx hb dL_law_587 (by decide) (fun _ => ?_) (fun q9 => absurd (er18.trans er25.symm) q9)
      exact lw_tail l ho C00 hK hS (lv_sub hl [0, 1, 2, 3] rfl)
    · refine lv_iconst (pc := 579) (v := 1) hx hb dL_law_579 (by decide) ?_
      refine lv_goto (pc := 580) (tgt := 584) hx hb dL_law_580 (by decide) ?_
      refine zcallVi (pc := 584) (k := 218) (As := [.int (xs 1), .int (xs 2), .int 1]) (rest := [.int r18]) ⟨hx, hb, hml, hown, hts⟩ (nw_X12_sets l D c o σ (xs 1) (xs 2) 1 hR m0) zc12 zV_L_59 rfl zd_X12_sets ⟨Nat.le_of_ble_eq_true rfl, Nat.le_of_ble_eq_true rfl⟩ hK hP hS rfl (by decide) hl.1 rfl (Nat.le_of_ble_eq_true rfl) ⟨Nat.le_of_ble_eq_true rfl, Nat.le_of_ble_eq_true rfl⟩ dL_law_584 (fun r28 σ29 H locs hw30 hP hS => ?_)
      obtain ⟨er28, rfl⟩ := hw30
      refine lv_icmp_eq (pc := 587) (tgt := 1869) hx hb dL_law_587 (by decide) (fun _ => ?_) (fun q9 => absurd (er18.trans er28.symm) q9)
      exact lw_tail l ho C00 hK hS (lv_sub hl [0, 1, 2, 3] rfl)
set_option maxHeartbeats 4000000 in
set_option maxRecDepth 100000 in
theorem lw_case10 {p : Program} {e : Env} {s : State} {m : MethodId} {below : List Frame} {meth : Method} {cd : Code} (l : Launch) {b : Nat} {xs : Nat → Int32} {o : Nat} {D : va_G} {c : zC} (ho : s.heap.size = o) (C0 : lw_At p s m meth cd b 6 xs) (hK : zKt D c s) {σ : zS} (h0 : σ.1 2 0 = 0) (h1 : σ.1 2 1 = 0) (h2 : σ.1 2 2 = 0) (ht : σ.1 0 1 = 0) (hk : σ.1 0 2 = 0) (hp : σ.1 0 3 = (-1)) (hk0 : σ.1 55 0 = 0) (hk1 : σ.1 55 1 = 0) (hk2 : σ.1 55 2 = 0) (hb210 : σ.1 210 2 = (-1)) (hb212 : σ.1 212 2 = (-1)) (hb214 : σ.1 214 2 = (-1)) (hb216 : σ.1 216 2 = (-1)) (m0 : σ.1 219 0 = 0) (m1 : σ.1 219 1 = 0) (m2 : σ.1 219 2 = 0) (mt : σ.1 218 7 = 0) (mk : σ.1 218 14 = 0) (mp : σ.1 218 15 = (-1)) (mh0 : σ.1 223 0 = 0) (mh1 : σ.1 223 1 = 0) (mh2 : σ.1 223 2 = 0) (mm0 : σ.1 239 0 = (-1)) (mm1 : σ.1 239 1 = (-1)) (mm2 : σ.1 239 2 = (-1)) (mm3 : σ.1 239 3 = (-1)) (hR : zRef o σ.2.2) (hN : σ.2.2 0 4 = o + 2) (hSp : σ.2.2 0 5 = o + 28) (hz : ∀ k j, σ.2.1 k j = 0) {H : Heap} {locs : List Loc} {ls : Array Slot} (hP : zP D c o σ H) (hS : va_S (zA o) s.heap H locs) (hl : lv_has ls 4 [(3, .int 0), (2, .ref (o + 218)), (1, .ref (o + 0)), (0, .ref b)]) : W p l e room_1 s m #[Value.ref b] below meth cd H locs 243 106038 (lw_Z below #[Value.ref b] s) (F0 m 592 ls []) := by
  have C00 := C0
  obtain ⟨hx, hb, hr, hml, hown, hts0, hX0, hbl, hlocks, hgv⟩ := C0
  have hts : ∀ w ∈ zWl, w.before #[Value.ref b] s = true := fun w hw => hts0 w (List.mem_filter.mp hw).1
  have hown : s.vm.findClass RL = some m.cls := hown
  have hbA : ¬ zA o b := by show ¬ o ≤ b; omega
  refine lv_aload_n (pc := 592) hx hb dL_law_592 rfl (lv_at hl 2 rfl) ?_
  refine lv_aload_n (pc := 593) hx hb dL_law_593 rfl (lv_at hl 3 rfl) ?_
  refine lv_iload_n (pc := 594) hx hb dL_law_594 rfl (lv_at hl 0 rfl) ?_
  refine lv_iconst (pc := 595) (v := 1) hx hb dL_law_595 (by decide) ?_
  refine lv_iadd (pc := 596) hx hb dL_law_596 ?_
  refine lv_topi (pc := 597) (fun v1 ev1 => ?_)
  obtain rfl : v1 = 1 := ev1.trans (by decide)
  refine zsld (pc := 597) (k := 1) hx hb hX0 hbl hbA hS (vp_in_iff.mpr ⟨by decide, by decide⟩) rfl dL_law_597 ?_
  refine lv_aload_n (pc := 598) hx hb dL_law_598 rfl (lv_at hl 3 rfl) ?_
  refine lv_iload_n (pc := 599) hx hb dL_law_599 rfl (lv_at hl 0 rfl) ?_
  refine lv_iconst (pc := 600) (v := 2) hx hb dL_law_600 (by decide) ?_
  refine lv_iadd (pc := 601) hx hb dL_law_601 ?_
  refine lv_topi (pc := 602) (fun v2 ev2 => ?_)
  obtain rfl : v2 = 2 := ev2.trans (by decide)
  refine zsld (pc := 602) (k := 2) hx hb hX0 hbl hbA hS (vp_in_iff.mpr ⟨by decide, by decide⟩) rfl dL_law_602 ?_
  refine lv_aload_n (pc := 603) hx hb dL_law_603 rfl (lv_at hl 3 rfl) ?_
  refine lv_iload_n (pc := 604) hx hb dL_law_604 rfl (lv_at hl 0 rfl) ?_
  refine lv_iconst (pc := 605) (v := 3) hx hb dL_law_605 (by decide) ?_
  refine lv_iadd (pc := 606) hx hb dL_law_606 ?_
  refine lv_topi (pc := 607) (fun v3 ev3 => ?_)
  obtain rfl : v3 = 3 := ev3.trans (by decide)
  refine zsld (pc := 607) (k := 3) hx hb hX0 hbl hbA hS (vp_in_iff.mpr ⟨by decide, by decide⟩) rfl dL_law_607 ?_
  refine zcallVi (pc := 608) (k := 0) (As := [.int (xs 1), .int (xs 2), .int (xs 3)]) (rest := []) ⟨hx, hb, hml, hown, hts⟩ (nw_X11_change l D c o σ (xs 1) (xs 2) (xs 3) hR hN h0) zc11 zV_L_60 rfl zd_X11_change ⟨Nat.le_of_ble_eq_true rfl, Nat.le_of_ble_eq_true rfl⟩ hK hP hS rfl (by decide) hl.1 rfl (Nat.le_of_ble_eq_true rfl) ⟨Nat.le_of_ble_eq_true rfl, Nat.le_of_ble_eq_true rfl⟩ dL_law_608 (fun r4 σ5 H locs hw6 hP hS => ?_)
  obtain ⟨er4, rfl⟩ := hw6
  refine lv_aload_n (pc := 611) hx hb dL_law_611 rfl (lv_at hl 1 rfl) ?_
  refine lv_aload_n (pc := 612) hx hb dL_law_612 rfl (lv_at hl 3 rfl) ?_
  refine lv_iload_n (pc := 613) hx hb dL_law_613 rfl (lv_at hl 0 rfl) ?_
  refine lv_iconst (pc := 614) (v := 1) hx hb dL_law_614 (by decide) ?_
  refine lv_iadd (pc := 615) hx hb dL_law_615 ?_
  refine lv_topi (pc := 616) (fun v7 ev7 => ?_)
  obtain rfl : v7 = 1 := ev7.trans (by decide)
  refine zsld (pc := 616) (k := 1) hx hb hX0 hbl hbA hS (vp_in_iff.mpr ⟨by decide, by decide⟩) rfl dL_law_616 ?_
  refine lv_aload_n (pc := 617) hx hb dL_law_617 rfl (lv_at hl 3 rfl) ?_
  refine lv_iload_n (pc := 618) hx hb dL_law_618 rfl (lv_at hl 0 rfl) ?_
  refine lv_iconst (pc := 619) (v := 2) hx hb dL_law_619 (by decide) ?_
  refine lv_iadd (pc := 620) hx hb dL_law_620 ?_
  refine lv_topi (pc := 621) (fun v8 ev8 => ?_)
  obtain rfl : v8 = 2 := ev8.trans (by decide)
  refine zsld (pc := 621) (k := 2) hx hb hX0 hbl hbA hS (vp_in_iff.mpr ⟨by decide, by decide⟩) rfl dL_law_621 ?_
  refine lv_aload_n (pc := 622) hx hb dL_law_622 rfl (lv_at hl 3 rfl) ?_
  refine lv_iload_n (pc := 623) hx hb dL_law_623 rfl (lv_at hl 0 rfl) ?_
  refine lv_iconst (pc := 624) (v := 3) hx hb dL_law_624 (by decide) ?_
  refine lv_iadd (pc := 625) hx hb dL_law_625 ?_
  refine lv_topi (pc := 626) (fun v9 ev9 => ?_)
  obtain rfl : v9 = 3 := ev9.trans (by decide)
  refine zsld (pc := 626) (k := 3) hx hb hX0 hbl hbA hS (vp_in_iff.mpr ⟨by decide, by decide⟩) rfl dL_law_626 ?_
  refine zcallVi (pc := 627) (k := 218) (As := [.int (xs 1), .int (xs 2), .int (xs 3)]) (rest := [.int r4]) ⟨hx, hb, hml, hown, hts⟩ (nw_X12_change l D c o σ (xs 1) (xs 2) (xs 3) hR m0) zc12 zV_L_63 rfl zd_X12_change ⟨Nat.le_of_ble_eq_true rfl, Nat.le_of_ble_eq_true rfl⟩ hK hP hS rfl (by decide) hl.1 rfl (Nat.le_of_ble_eq_true rfl) ⟨Nat.le_of_ble_eq_true rfl, Nat.le_of_ble_eq_true rfl⟩ dL_law_627 (fun r10 σ11 H locs hw12 hP hS => ?_)
  obtain ⟨er10, rfl⟩ := hw12
  refine lv_icmp_eq (pc := 630) (tgt := 1869) hx hb dL_law_630 (by decide) (fun _ => ?_) (fun q9 => absurd (er4.trans er10.symm) q9)
  exact lw_tail l ho C00 hK hS (lv_sub hl [0, 1, 2, 3] rfl)
set_option maxHeartbeats 4000000 in
set_option maxRecDepth 100000 in
theorem lw_case11 {p : Program} {e : Env} {s : State} {m : MethodId} {below : List Frame} {meth : Method} {cd : Code} (l : Launch) {b : Nat} {xs : Nat → Int32} {o : Nat} {D : va_G} {c : zC} (ho : s.heap.size = o) (C0 : lw_At p s m meth cd b 6 xs) (hK : zKt D c s) {σ : zS} (h0 : σ.1 2 0 = 0) (h1 : σ.1 2 1 = 0) (h2 : σ.1 2 2 = 0) (ht : σ.1 0 1 = 0) (hk : σ.1 0 2 = 0) (hp : σ.1 0 3 = (-1)) (hk0 : σ.1 55 0 = 0) (hk1 : σ.1 55 1 = 0) (hk2 : σ.1 55 2 = 0) (hb210 : σ.1 210 2 = (-1)) (hb212 : σ.1 212 2 = (-1)) (hb214 : σ.1 214 2 = (-1)) (hb216 : σ.1 216 2 = (-1)) (m0 : σ.1 219 0 = 0) (m1 : σ.1 219 1 = 0) (m2 : σ.1 219 2 = 0) (mt : σ.1 218 7 = 0) (mk : σ.1 218 14 = 0) (mp : σ.1 218 15 = (-1)) (mh0 : σ.1 223 0 = 0) (mh1 : σ.1 223 1 = 0) (mh2 : σ.1 223 2 = 0) (mm0 : σ.1 239 0 = (-1)) (mm1 : σ.1 239 1 = (-1)) (mm2 : σ.1 239 2 = (-1)) (mm3 : σ.1 239 3 = (-1)) (hR : zRef o σ.2.2) (hN : σ.2.2 0 4 = o + 2) (hSp : σ.2.2 0 5 = o + 28) (hz : ∀ k j, σ.2.1 k j = 0) {H : Heap} {locs : List Loc} {ls : Array Slot} (hP : zP D c o σ H) (hS : va_S (zA o) s.heap H locs) (hl : lv_has ls 4 [(3, .int 0), (2, .ref (o + 218)), (1, .ref (o + 0)), (0, .ref b)]) : W p l e room_1 s m #[Value.ref b] below meth cd H locs 243 106038 (lw_Z below #[Value.ref b] s) (F0 m 635 ls []) := by
  have C00 := C0
  obtain ⟨hx, hb, hr, hml, hown, hts0, hX0, hbl, hlocks, hgv⟩ := C0
  have hts : ∀ w ∈ zWl, w.before #[Value.ref b] s = true := fun w hw => hts0 w (List.mem_filter.mp hw).1
  have hown : s.vm.findClass RL = some m.cls := hown
  have hbA : ¬ zA o b := by show ¬ o ≤ b; omega
  refine lv_aload_n (pc := 635) hx hb dL_law_635 rfl (lv_at hl 2 rfl) ?_
  refine lv_aload_n (pc := 636) hx hb dL_law_636 rfl (lv_at hl 3 rfl) ?_
  refine lv_iload_n (pc := 637) hx hb dL_law_637 rfl (lv_at hl 0 rfl) ?_
  refine lv_iconst (pc := 638) (v := 1) hx hb dL_law_638 (by decide) ?_
  refine lv_iadd (pc := 639) hx hb dL_law_639 ?_
  refine lv_topi (pc := 640) (fun v1 ev1 => ?_)
  obtain rfl : v1 = 1 := ev1.trans (by decide)
  refine zsld (pc := 640) (k := 1) hx hb hX0 hbl hbA hS (vp_in_iff.mpr ⟨by decide, by decide⟩) rfl dL_law_640 ?_
  refine lv_aload_n (pc := 641) hx hb dL_law_641 rfl (lv_at hl 3 rfl) ?_
  refine lv_iload_n (pc := 642) hx hb dL_law_642 rfl (lv_at hl 0 rfl) ?_
  refine lv_iconst (pc := 643) (v := 2) hx hb dL_law_643 (by decide) ?_
  refine lv_iadd (pc := 644) hx hb dL_law_644 ?_
  refine lv_topi (pc := 645) (fun v2 ev2 => ?_)
  obtain rfl : v2 = 2 := ev2.trans (by decide)
  refine zsld (pc := 645) (k := 2) hx hb hX0 hbl hbA hS (vp_in_iff.mpr ⟨by decide, by decide⟩) rfl dL_law_645 ?_
  refine lv_aload_n (pc := 646) hx hb dL_law_646 rfl (lv_at hl 3 rfl) ?_
  refine lv_iload_n (pc := 647) hx hb dL_law_647 rfl (lv_at hl 0 rfl) ?_
  refine lv_iconst (pc := 648) (v := 3) hx hb dL_law_648 (by decide) ?_
  refine lv_iadd (pc := 649) hx hb dL_law_649 ?_
  refine lv_topi (pc := 650) (fun v3 ev3 => ?_)
  obtain rfl : v3 = 3 := ev3.trans (by decide)
  refine zsld (pc := 650) (k := 3) hx hb hX0 hbl hbA hS (vp_in_iff.mpr ⟨by decide, by decide⟩) rfl dL_law_650 ?_
  refine lv_aload_n (pc := 651) hx hb dL_law_651 rfl (lv_at hl 3 rfl) ?_
  refine lv_iload_n (pc := 652) hx hb dL_law_652 rfl (lv_at hl 0 rfl) ?_
  refine lv_iconst (pc := 653) (v := 4) hx hb dL_law_653 (by decide) ?_
  refine lv_iadd (pc := 654) hx hb dL_law_654 ?_
  refine lv_topi (pc := 655) (fun v4 ev4 => ?_)
  obtain rfl : v4 = 4 := ev4.trans (by decide)
  refine zsld (pc := 655) (k := 4) hx hb hX0 hbl hbA hS (vp_in_iff.mpr ⟨by decide, by decide⟩) rfl dL_law_655 ?_
  refine lv_if_eq (pc := 656) (tgt := 663) hx hb dL_law_656 (by decide) (fun c5 => ?_) (fun c5 => ?_)
  · refine lv_iconst (pc := 663) (v := 0) hx hb dL_law_663 (by decide) ?_
    refine zcallVi (pc := 664) (k := 0) (As := [.int (xs 1), .int (xs 2), .int (xs 3), .int 0]) (rest := []) ⟨hx, hb, hml, hown, hts⟩ (nw_X11_half l D c o σ (xs 1) (xs 2) (xs 3) 0 hR hN h0) zc11 zV_L_64 rfl zd_X11_half ⟨Nat.le_of_ble_eq_true rfl, Nat.le_of_ble_eq_true rfl⟩ hK hP hS rfl (by decide) hl.1 rfl (Nat.le_of_ble_eq_true rfl) ⟨Nat.le_of_ble_eq_true rfl, Nat.le_of_ble_eq_true rfl⟩ dL_law_664 (fun r6 σ7 H locs hw8 hP hS => ?_)
    obtain ⟨er6, rfl⟩ := hw8
    refine lv_aload_n (pc := 667) hx hb dL_law_667 rfl (lv_at hl 1 rfl) ?_
    refine lv_aload_n (pc := 668) hx hb dL_law_668 rfl (lv_at hl 3 rfl) ?_
    refine lv_iload_n (pc := 669) hx hb dL_law_669 rfl (lv_at hl 0 rfl) ?_
    refine lv_iconst (pc := 670) (v := 1) hx hb dL_law_670 (by decide) ?_
    refine lv_iadd (pc := 671) hx hb dL_law_671 ?_
    refine lv_topi (pc := 672) (fun v9 ev9 => ?_)
    obtain rfl : v9 = 1 := ev9.trans (by decide)
    refine zsld (pc := 672) (k := 1) hx hb hX0 hbl hbA hS (vp_in_iff.mpr ⟨by decide, by decide⟩) rfl dL_law_672 ?_
    refine lv_aload_n (pc := 673) hx hb dL_law_673 rfl (lv_at hl 3 rfl) ?_
    refine lv_iload_n (pc := 674) hx hb dL_law_674 rfl (lv_at hl 0 rfl) ?_
    refine lv_iconst (pc := 675) (v := 2) hx hb dL_law_675 (by decide) ?_
    refine lv_iadd (pc := 676) hx hb dL_law_676 ?_
    refine lv_topi (pc := 677) (fun v10 ev10 => ?_)
    obtain rfl : v10 = 2 := ev10.trans (by decide)
    refine zsld (pc := 677) (k := 2) hx hb hX0 hbl hbA hS (vp_in_iff.mpr ⟨by decide, by decide⟩) rfl dL_law_677 ?_
    refine lv_aload_n (pc := 678) hx hb dL_law_678 rfl (lv_at hl 3 rfl) ?_
    refine lv_iload_n (pc := 679) hx hb dL_law_679 rfl (lv_at hl 0 rfl) ?_
    refine lv_iconst (pc := 680) (v := 3) hx hb dL_law_680 (by decide) ?_
    refine lv_iadd (pc := 681) hx hb dL_law_681 ?_
    refine lv_topi (pc := 682) (fun v11 ev11 => ?_)
    obtain rfl : v11 = 3 := ev11.trans (by decide)
    refine zsld (pc := 682) (k := 3) hx hb hX0 hbl hbA hS (vp_in_iff.mpr ⟨by decide, by decide⟩) rfl dL_law_682 ?_
    refine lv_aload_n (pc := 683) hx hb dL_law_683 rfl (lv_at hl 3 rfl) ?_
    refine lv_iload_n (pc := 684) hx hb dL_law_684 rfl (lv_at hl 0 rfl) ?_
    refine lv_iconst (pc := 685) (v := 4) hx hb dL_law_685 (by decide) ?_
    refine lv_iadd (pc := 686) hx hb dL_law_686 ?_
    refine lv_topi (pc := 687) (fun v12 ev12 => ?_)
    obtain rfl : v12 = 4 := ev12.trans (by decide)
    refine zsld (pc := 687) (k := 4) hx hb hX0 hbl hbA hS (vp_in_iff.mpr ⟨by decide, by decide⟩) rfl dL_law_687 ?_
    refine lv_if_eq (pc := 688) (tgt := 695) hx hb dL_law_688 (by decide) (fun c13 => ?_) (fun c13 => ?_)
    · refine lv_iconst (pc := 695) (v := 0) hx hb dL_law_695 (by decide) ?_
      refine zcallVi (pc := 696) (k := 218) (As := [.int (xs 1), .int (xs 2), .int (xs 3), .int 0]) (rest := [.int r6]) ⟨hx, hb, hml, hown, hts⟩ (nw_X12_half l D c o σ (xs 1) (xs 2) (xs 3) 0 hR m0) zc12 zV_L_68 rfl zd_X12_half ⟨Nat.le_of_ble_eq_true rfl, Nat.le_of_ble_eq_true rfl⟩ hK hP hS rfl (by decide) hl.1 rfl (Nat.le_of_ble_eq_true rfl) ⟨Nat.le_of_ble_eq_true rfl, Nat.le_of_ble_eq_true rfl⟩ dL_law_696 (fun r14 σ15 H locs hw16 hP hS => ?_)
      obtain ⟨er14, rfl⟩ := hw16
      refine lv_icmp_eq (pc := 699) (tgt := 1869) hx hb dL_law_699 (by decide) (fun _ => ?_) (fun q9 => absurd (er6.trans er14.symm) q9)
      exact lw_tail l ho C00 hK hS (lv_sub hl [0, 1, 2, 3] rfl)
    · refine lv_iconst (pc := 691) (v := 1) hx hb dL_law_691 (by decide) ?_
      refine lv_goto (pc := 692) (tgt := 696) hx hb dL_law_692 (by decide) ?_
      refine zcallVi (pc := 696) (k := 218) (As := [.int (xs 1), .int (xs 2), .int (xs 3), .int 1]) (rest := [.int r6]) ⟨hx, hb, hml, hown, hts⟩ (nw_X12_half l D c o σ (xs 1) (xs 2) (xs 3) 1 hR m0) zc12 zV_L_68 rfl zd_X12_half ⟨Nat.le_of_ble_eq_true rfl, Nat.le_of_ble_eq_true rfl⟩ hK hP hS rfl (by decide) hl.1 rfl (Nat.le_of_ble_eq_true rfl) ⟨Nat.le_of_ble_eq_true rfl, Nat.le_of_ble_eq_true rfl⟩ dL_law_696 (fun r17 σ18 H locs hw19 hP hS => ?_)
      obtain ⟨er17, rfl⟩ := hw19
      refine lv_icmp_eq (pc := 699) (tgt := 1869) hx hb dL_law_699 (by decide) (fun _ => ?_) (fun q9 => absurd (er6.trans er17.symm) q9)
      exact lw_tail l ho C00 hK hS (lv_sub hl [0, 1, 2, 3] rfl)
  · refine lv_iconst (pc := 659) (v := 1) hx hb dL_law_659 (by decide) ?_
    refine lv_goto (pc := 660) (tgt := 664) hx hb dL_law_660 (by decide) ?_
    refine zcallVi (pc := 664) (k := 0) (As := [.int (xs 1), .int (xs 2), .int (xs 3), .int 1]) (rest := []) ⟨hx, hb, hml, hown, hts⟩ (nw_X11_half l D c o σ (xs 1) (xs 2) (xs 3) 1 hR hN h0) zc11 zV_L_64 rfl zd_X11_half ⟨Nat.le_of_ble_eq_true rfl, Nat.le_of_ble_eq_true rfl⟩ hK hP hS rfl (by decide) hl.1 rfl (Nat.le_of_ble_eq_true rfl) ⟨Nat.le_of_ble_eq_true rfl, Nat.le_of_ble_eq_true rfl⟩ dL_law_664 (fun r20 σ21 H locs hw22 hP hS => ?_)
    obtain ⟨er20, rfl⟩ := hw22
    refine lv_aload_n (pc := 667) hx hb dL_law_667 rfl (lv_at hl 1 rfl) ?_
    refine lv_aload_n (pc := 668) hx hb dL_law_668 rfl (lv_at hl 3 rfl) ?_
    refine lv_iload_n (pc := 669) hx hb dL_law_669 rfl (lv_at hl 0 rfl) ?_
    refine lv_iconst (pc := 670) (v := 1) hx hb dL_law_670 (by decide) ?_
    refine lv_iadd (pc := 671) hx hb dL_law_671 ?_
    refine lv_topi (pc := 672) (fun v23 ev23 => ?_)
    obtain rfl : v23 = 1 := ev23.trans (by decide)
    refine zsld (pc := 672) (k := 1) hx hb hX0 hbl hbA hS (vp_in_iff.mpr ⟨by decide, by decide⟩) rfl dL_law_672 ?_
    refine lv_aload_n (pc := 673) hx hb dL_law_673 rfl (lv_at hl 3 rfl) ?_
    refine lv_iload_n (pc := 674) hx hb dL_law_674 rfl (lv_at hl 0 rfl) ?_
    refine lv_iconst (pc := 675) (v := 2) hx hb dL_law_675 (by decide) ?_
    refine lv_iadd (pc := 676) hx hb dL_law_676 ?_
    refine lv_topi (pc := 677) (fun v24 ev24 => ?_)
    obtain rfl : v24 = 2 := ev24.trans (by decide)
    refine zsld (pc := 677) (k := 2) hx hb hX0 hbl hbA hS (vp_in_iff.mpr ⟨by decide, by decide⟩) rfl dL_law_677 ?_
    refine lv_aload_n (pc := 678) hx hb dL_law_678 rfl (lv_at hl 3 rfl) ?_
    refine lv_iload_n (pc := 679) hx hb dL_law_679 rfl (lv_at hl 0 rfl) ?_
    refine lv_iconst (pc := 680) (v := 3) hx hb dL_law_680 (by decide) ?_
    refine lv_iadd (pc := 681) hx hb dL_law_681 ?_
    refine lv_topi (pc := 682) (fun v25 ev25 => ?_)
    obtain rfl : v25 = 3 := ev25.trans (by decide)
    refine zsld (pc := 682) (k := 3) hx hb hX0 hbl hbA hS (vp_in_iff.mpr ⟨by decide, by decide⟩) rfl dL_law_682 ?_
    refine lv_aload_n (pc := 683) hx hb dL_law_683 rfl (lv_at hl 3 rfl) ?_
    refine lv_iload_n (pc := 684) hx hb dL_law_684 rfl (lv_at hl 0 rfl) ?_
    refine lv_iconst (pc := 685) (v := 4) hx hb dL_law_685 (by decide) ?_
    refine lv_iadd (pc := 686) hx hb dL_law_686 ?_
    refine lv_topi (pc := 687) (fun v26 ev26 => ?_)
    obtain rfl : v26 = 4 := ev26.trans (by decide)
    refine zsld (pc := 687) (k := 4) hx hb hX0 hbl hbA hS (vp_in_iff.mpr ⟨by decide, by decide⟩) rfl dL_law_687 ?_
    refine lv_if_eq (pc := 688) (tgt := 695) hx hb dL_law_688 (by decide) (fun c27 => ?_) (fun c27 => ?_)
    · refine lv_iconst (pc := 695) (v := 0) hx hb dL_law_695 (by decide) ?_
      refine zcallVi (pc := 696) (k := 218) (As := [.int (xs 1), .int (xs 2), .int (xs 3), .int 0]) (rest := [.int r20]) ⟨hx, hb, hml, hown, hts⟩ (nw_X12_half l D c o σ (xs 1) (xs 2) (xs 3) 0 hR m0) zc12 zV_L_68 rfl zd_X12_half ⟨Nat.le_of_ble_eq_true rfl, Nat.le_of_ble_eq_true rfl⟩ hK hP hS rfl (by decide) hl.1 rfl (Nat.le_of_ble_eq_true rfl) ⟨Nat.le_of_ble_eq_true rfl, Nat.le_of_ble_eq_true rfl⟩ dL_law_696 (fun r28 σ29 H locs hw30 hP hS => ?_)
      obtain ⟨er28, rfl⟩ := hw30
      refine lv_icmp_eq (pc := 699) (tgt := 1869) hx hb dL_law_699 (by decide) (fun _ => ?_) (fun q9 => absurd (er20.trans er28.symm) q9)
      exact lw_tail l ho C00 hK hS (lv_sub hl [0, 1, 2, 3] rfl)
    · refine lv_iconst (pc := 691) (v := 1) hx hb dL_law_691 (by decide) ?_
      refine lv_goto (pc := 692) (tgt := 696) hx hb dL_law_692 (by decide) ?_
      refine zcallVi (pc := 696) (k := 218) (As := [.int (xs 1), .int (xs 2), .int (xs 3), .int 1]) (rest := [.int r20]) ⟨hx, hb, hml, hown, hts⟩ (nw_X12_half l D c o σ (xs 1) (xs 2) (xs 3) 1 hR m0) zc12 zV_L_68 rfl zd_X12_half ⟨Nat.le_of_ble_eq_true rfl, Nat.le_of_ble_eq_true rfl⟩ hK hP hS rfl (by decide) hl.1 rfl (Nat.le_of_ble_eq_true rfl) ⟨Nat.le_of_ble_eq_true rfl, Nat.le_of_ble_eq_true rfl⟩ dL_law_696 (fun r31 σ32 H locs hw33 hP hS => ?_)
      obtain ⟨er31, rfl⟩ := hw33
      refine lv_icmp_eq (pc := 699) (tgt := 1869) hx hb dL_law_699 (by decide) (fun _ => ?_) (fun q9 => absurd (er20.trans er31.symm) q9)
      exact lw_tail l ho C00 hK hS (lv_sub hl [0, 1, 2, 3] rfl)
set_option maxHeartbeats 4000000 in
set_option maxRecDepth 100000 in
theorem lw_case12 {p : Program} {e : Env} {s : State} {m : MethodId} {below : List Frame} {meth : Method} {cd : Code} (l : Launch) {b : Nat} {xs : Nat → Int32} {o : Nat} {D : va_G} {c : zC} (ho : s.heap.size = o) (C0 : lw_At p s m meth cd b 6 xs) (hK : zKt D c s) {σ : zS} (h0 : σ.1 2 0 = 0) (h1 : σ.1 2 1 = 0) (h2 : σ.1 2 2 = 0) (ht : σ.1 0 1 = 0) (hk : σ.1 0 2 = 0) (hp : σ.1 0 3 = (-1)) (hk0 : σ.1 55 0 = 0) (hk1 : σ.1 55 1 = 0) (hk2 : σ.1 55 2 = 0) (hb210 : σ.1 210 2 = (-1)) (hb212 : σ.1 212 2 = (-1)) (hb214 : σ.1 214 2 = (-1)) (hb216 : σ.1 216 2 = (-1)) (m0 : σ.1 219 0 = 0) (m1 : σ.1 219 1 = 0) (m2 : σ.1 219 2 = 0) (mt : σ.1 218 7 = 0) (mk : σ.1 218 14 = 0) (mp : σ.1 218 15 = (-1)) (mh0 : σ.1 223 0 = 0) (mh1 : σ.1 223 1 = 0) (mh2 : σ.1 223 2 = 0) (mm0 : σ.1 239 0 = (-1)) (mm1 : σ.1 239 1 = (-1)) (mm2 : σ.1 239 2 = (-1)) (mm3 : σ.1 239 3 = (-1)) (hR : zRef o σ.2.2) (hN : σ.2.2 0 4 = o + 2) (hSp : σ.2.2 0 5 = o + 28) (hz : ∀ k j, σ.2.1 k j = 0) {H : Heap} {locs : List Loc} {ls : Array Slot} (hP : zP D c o σ H) (hS : va_S (zA o) s.heap H locs) (hl : lv_has ls 4 [(3, .int 0), (2, .ref (o + 218)), (1, .ref (o + 0)), (0, .ref b)]) : W p l e room_1 s m #[Value.ref b] below meth cd H locs 243 106038 (lw_Z below #[Value.ref b] s) (F0 m 704 ls []) := by
  have C00 := C0
  obtain ⟨hx, hb, hr, hml, hown, hts0, hX0, hbl, hlocks, hgv⟩ := C0
  have hts : ∀ w ∈ zWl, w.before #[Value.ref b] s = true := fun w hw => hts0 w (List.mem_filter.mp hw).1
  have hown : s.vm.findClass RL = some m.cls := hown
  have hbA : ¬ zA o b := by show ¬ o ≤ b; omega
  refine lv_aload_n (pc := 704) hx hb dL_law_704 rfl (lv_at hl 2 rfl) ?_
  refine lv_aload_n (pc := 705) hx hb dL_law_705 rfl (lv_at hl 3 rfl) ?_
  refine lv_iload_n (pc := 706) hx hb dL_law_706 rfl (lv_at hl 0 rfl) ?_
  refine lv_iconst (pc := 707) (v := 1) hx hb dL_law_707 (by decide) ?_
  refine lv_iadd (pc := 708) hx hb dL_law_708 ?_
  refine lv_topi (pc := 709) (fun v1 ev1 => ?_)
  obtain rfl : v1 = 1 := ev1.trans (by decide)
  refine zsld (pc := 709) (k := 1) hx hb hX0 hbl hbA hS (vp_in_iff.mpr ⟨by decide, by decide⟩) rfl dL_law_709 ?_
  refine lv_aload_n (pc := 710) hx hb dL_law_710 rfl (lv_at hl 3 rfl) ?_
  refine lv_iload_n (pc := 711) hx hb dL_law_711 rfl (lv_at hl 0 rfl) ?_
  refine lv_iconst (pc := 712) (v := 2) hx hb dL_law_712 (by decide) ?_
  refine lv_iadd (pc := 713) hx hb dL_law_713 ?_
  refine lv_topi (pc := 714) (fun v2 ev2 => ?_)
  obtain rfl : v2 = 2 := ev2.trans (by decide)
  refine zsld (pc := 714) (k := 2) hx hb hX0 hbl hbA hS (vp_in_iff.mpr ⟨by decide, by decide⟩) rfl dL_law_714 ?_
  refine lv_aload_n (pc := 715) hx hb dL_law_715 rfl (lv_at hl 3 rfl) ?_
  refine lv_iload_n (pc := 716) hx hb dL_law_716 rfl (lv_at hl 0 rfl) ?_
  refine lv_iconst (pc := 717) (v := 3) hx hb dL_law_717 (by decide) ?_
  refine lv_iadd (pc := 718) hx hb dL_law_718 ?_
  refine lv_topi (pc := 719) (fun v3 ev3 => ?_)
  obtain rfl : v3 = 3 := ev3.trans (by decide)
  refine zsld (pc := 719) (k := 3) hx hb hX0 hbl hbA hS (vp_in_iff.mpr ⟨by decide, by decide⟩) rfl dL_law_719 ?_
  refine zcallVi (pc := 720) (k := 0) (As := [.int (xs 1), .int (xs 2), .int (xs 3)]) (rest := []) ⟨hx, hb, hml, hown, hts⟩ (nw_X11_level l D c o σ (xs 1) (xs 2) (xs 3) hR hN h0) zc11 zV_L_69 rfl zd_X11_level ⟨Nat.le_of_ble_eq_true rfl, Nat.le_of_ble_eq_true rfl⟩ hK hP hS rfl (by decide) hl.1 rfl (Nat.le_of_ble_eq_true rfl) ⟨Nat.le_of_ble_eq_true rfl, Nat.le_of_ble_eq_true rfl⟩ dL_law_720 (fun r4 σ5 H locs hw6 hP hS => ?_)
  obtain ⟨er4, rfl⟩ := hw6
  refine lv_aload_n (pc := 723) hx hb dL_law_723 rfl (lv_at hl 1 rfl) ?_
  refine lv_aload_n (pc := 724) hx hb dL_law_724 rfl (lv_at hl 3 rfl) ?_
  refine lv_iload_n (pc := 725) hx hb dL_law_725 rfl (lv_at hl 0 rfl) ?_
  refine lv_iconst (pc := 726) (v := 1) hx hb dL_law_726 (by decide) ?_
  refine lv_iadd (pc := 727) hx hb dL_law_727 ?_
  refine lv_topi (pc := 728) (fun v7 ev7 => ?_)
  obtain rfl : v7 = 1 := ev7.trans (by decide)
  refine zsld (pc := 728) (k := 1) hx hb hX0 hbl hbA hS (vp_in_iff.mpr ⟨by decide, by decide⟩) rfl dL_law_728 ?_
  refine lv_aload_n (pc := 729) hx hb dL_law_729 rfl (lv_at hl 3 rfl) ?_
  refine lv_iload_n (pc := 730) hx hb dL_law_730 rfl (lv_at hl 0 rfl) ?_
  refine lv_iconst (pc := 731) (v := 2) hx hb dL_law_731 (by decide) ?_
  refine lv_iadd (pc := 732) hx hb dL_law_732 ?_
  refine lv_topi (pc := 733) (fun v8 ev8 => ?_)
  obtain rfl : v8 = 2 := ev8.trans (by decide)
  refine zsld (pc := 733) (k := 2) hx hb hX0 hbl hbA hS (vp_in_iff.mpr ⟨by decide, by decide⟩) rfl dL_law_733 ?_
  refine lv_aload_n (pc := 734) hx hb dL_law_734 rfl (lv_at hl 3 rfl) ?_
  refine lv_iload_n (pc := 735) hx hb dL_law_735 rfl (lv_at hl 0 rfl) ?_
  refine lv_iconst (pc := 736) (v := 3) hx hb dL_law_736 (by decide) ?_
  refine lv_iadd (pc := 737) hx hb dL_law_737 ?_
  refine lv_topi (pc := 738) (fun v9 ev9 => ?_)
  obtain rfl : v9 = 3 := ev9.trans (by decide)
  refine zsld (pc := 738) (k := 3) hx hb hX0 hbl hbA hS (vp_in_iff.mpr ⟨by decide, by decide⟩) rfl dL_law_738 ?_
  refine zcallVi (pc := 739) (k := 218) (As := [.int (xs 1), .int (xs 2), .int (xs 3)]) (rest := [.int r4]) ⟨hx, hb, hml, hown, hts⟩ (nw_X12_level l D c o σ (xs 1) (xs 2) (xs 3) hR m0) zc12 zV_L_72 rfl zd_X12_level ⟨Nat.le_of_ble_eq_true rfl, Nat.le_of_ble_eq_true rfl⟩ hK hP hS rfl (by decide) hl.1 rfl (Nat.le_of_ble_eq_true rfl) ⟨Nat.le_of_ble_eq_true rfl, Nat.le_of_ble_eq_true rfl⟩ dL_law_739 (fun r10 σ11 H locs hw12 hP hS => ?_)
  obtain ⟨er10, rfl⟩ := hw12
  refine lv_icmp_eq (pc := 742) (tgt := 1869) hx hb dL_law_742 (by decide) (fun _ => ?_) (fun q9 => absurd (er4.trans er10.symm) q9)
  exact lw_tail l ho C00 hK hS (lv_sub hl [0, 1, 2, 3] rfl)
set_option maxHeartbeats 4000000 in
set_option maxRecDepth 100000 in
theorem lw_case13 {p : Program} {e : Env} {s : State} {m : MethodId} {below : List Frame} {meth : Method} {cd : Code} (l : Launch) {b : Nat} {xs : Nat → Int32} {o : Nat} {D : va_G} {c : zC} (ho : s.heap.size = o) (C0 : lw_At p s m meth cd b 6 xs) (hK : zKt D c s) {σ : zS} (h0 : σ.1 2 0 = 0) (h1 : σ.1 2 1 = 0) (h2 : σ.1 2 2 = 0) (ht : σ.1 0 1 = 0) (hk : σ.1 0 2 = 0) (hp : σ.1 0 3 = (-1)) (hk0 : σ.1 55 0 = 0) (hk1 : σ.1 55 1 = 0) (hk2 : σ.1 55 2 = 0) (hb210 : σ.1 210 2 = (-1)) (hb212 : σ.1 212 2 = (-1)) (hb214 : σ.1 214 2 = (-1)) (hb216 : σ.1 216 2 = (-1)) (m0 : σ.1 219 0 = 0) (m1 : σ.1 219 1 = 0) (m2 : σ.1 219 2 = 0) (mt : σ.1 218 7 = 0) (mk : σ.1 218 14 = 0) (mp : σ.1 218 15 = (-1)) (mh0 : σ.1 223 0 = 0) (mh1 : σ.1 223 1 = 0) (mh2 : σ.1 223 2 = 0) (mm0 : σ.1 239 0 = (-1)) (mm1 : σ.1 239 1 = (-1)) (mm2 : σ.1 239 2 = (-1)) (mm3 : σ.1 239 3 = (-1)) (hR : zRef o σ.2.2) (hN : σ.2.2 0 4 = o + 2) (hSp : σ.2.2 0 5 = o + 28) (hz : ∀ k j, σ.2.1 k j = 0) {H : Heap} {locs : List Loc} {ls : Array Slot} (hP : zP D c o σ H) (hS : va_S (zA o) s.heap H locs) (hl : lv_has ls 4 [(3, .int 0), (2, .ref (o + 218)), (1, .ref (o + 0)), (0, .ref b)]) : W p l e room_1 s m #[Value.ref b] below meth cd H locs 243 106038 (lw_Z below #[Value.ref b] s) (F0 m 747 ls []) := by
  have C00 := C0
  obtain ⟨hx, hb, hr, hml, hown, hts0, hX0, hbl, hlocks, hgv⟩ := C0
  have hts : ∀ w ∈ zWl, w.before #[Value.ref b] s = true := fun w hw => hts0 w (List.mem_filter.mp hw).1
  have hown : s.vm.findClass RL = some m.cls := hown
  have hbA : ¬ zA o b := by show ¬ o ≤ b; omega
  refine lv_aload_n (pc := 747) hx hb dL_law_747 rfl (lv_at hl 2 rfl) ?_
  refine lv_aload_n (pc := 748) hx hb dL_law_748 rfl (lv_at hl 3 rfl) ?_
  refine lv_iload_n (pc := 749) hx hb dL_law_749 rfl (lv_at hl 0 rfl) ?_
  refine lv_iconst (pc := 750) (v := 1) hx hb dL_law_750 (by decide) ?_
  refine lv_iadd (pc := 751) hx hb dL_law_751 ?_
  refine lv_topi (pc := 752) (fun v1 ev1 => ?_)
  obtain rfl : v1 = 1 := ev1.trans (by decide)
  refine zsld (pc := 752) (k := 1) hx hb hX0 hbl hbA hS (vp_in_iff.mpr ⟨by decide, by decide⟩) rfl dL_law_752 ?_
  refine lv_aload_n (pc := 753) hx hb dL_law_753 rfl (lv_at hl 3 rfl) ?_
  refine lv_iload_n (pc := 754) hx hb dL_law_754 rfl (lv_at hl 0 rfl) ?_
  refine lv_iconst (pc := 755) (v := 2) hx hb dL_law_755 (by decide) ?_
  refine lv_iadd (pc := 756) hx hb dL_law_756 ?_
  refine lv_topi (pc := 757) (fun v2 ev2 => ?_)
  obtain rfl : v2 = 2 := ev2.trans (by decide)
  refine zsld (pc := 757) (k := 2) hx hb hX0 hbl hbA hS (vp_in_iff.mpr ⟨by decide, by decide⟩) rfl dL_law_757 ?_
  refine zcallVi (pc := 758) (k := 0) (As := [.int (xs 1), .int (xs 2)]) (rest := []) ⟨hx, hb, hml, hown, hts⟩ (nw_X11_nth l D c o σ (xs 1) (xs 2) hR hN h0) zc11 zV_L_73 rfl zd_X11_nth ⟨Nat.le_of_ble_eq_true rfl, Nat.le_of_ble_eq_true rfl⟩ hK hP hS rfl (by decide) hl.1 rfl (Nat.le_of_ble_eq_true rfl) ⟨Nat.le_of_ble_eq_true rfl, Nat.le_of_ble_eq_true rfl⟩ dL_law_758 (fun r3 σ4 H locs hw5 hP hS => ?_)
  obtain ⟨er3, rfl⟩ := hw5
  refine lv_aload_n (pc := 761) hx hb dL_law_761 rfl (lv_at hl 1 rfl) ?_
  refine lv_aload_n (pc := 762) hx hb dL_law_762 rfl (lv_at hl 3 rfl) ?_
  refine lv_iload_n (pc := 763) hx hb dL_law_763 rfl (lv_at hl 0 rfl) ?_
  refine lv_iconst (pc := 764) (v := 1) hx hb dL_law_764 (by decide) ?_
  refine lv_iadd (pc := 765) hx hb dL_law_765 ?_
  refine lv_topi (pc := 766) (fun v6 ev6 => ?_)
  obtain rfl : v6 = 1 := ev6.trans (by decide)
  refine zsld (pc := 766) (k := 1) hx hb hX0 hbl hbA hS (vp_in_iff.mpr ⟨by decide, by decide⟩) rfl dL_law_766 ?_
  refine lv_aload_n (pc := 767) hx hb dL_law_767 rfl (lv_at hl 3 rfl) ?_
  refine lv_iload_n (pc := 768) hx hb dL_law_768 rfl (lv_at hl 0 rfl) ?_
  refine lv_iconst (pc := 769) (v := 2) hx hb dL_law_769 (by decide) ?_
  refine lv_iadd (pc := 770) hx hb dL_law_770 ?_
  refine lv_topi (pc := 771) (fun v7 ev7 => ?_)
  obtain rfl : v7 = 2 := ev7.trans (by decide)
  refine zsld (pc := 771) (k := 2) hx hb hX0 hbl hbA hS (vp_in_iff.mpr ⟨by decide, by decide⟩) rfl dL_law_771 ?_
  refine zcallVi (pc := 772) (k := 218) (As := [.int (xs 1), .int (xs 2)]) (rest := [.int r3]) ⟨hx, hb, hml, hown, hts⟩ (nw_X12_nth l D c o σ (xs 1) (xs 2) hR m0) zc12 zV_L_76 rfl zd_X12_nth ⟨Nat.le_of_ble_eq_true rfl, Nat.le_of_ble_eq_true rfl⟩ hK hP hS rfl (by decide) hl.1 rfl (Nat.le_of_ble_eq_true rfl) ⟨Nat.le_of_ble_eq_true rfl, Nat.le_of_ble_eq_true rfl⟩ dL_law_772 (fun r8 σ9 H locs hw10 hP hS => ?_)
  obtain ⟨er8, rfl⟩ := hw10
  refine lv_icmp_eq (pc := 775) (tgt := 1869) hx hb dL_law_775 (by decide) (fun _ => ?_) (fun q9 => absurd (er3.trans er8.symm) q9)
  exact lw_tail l ho C00 hK hS (lv_sub hl [0, 1, 2, 3] rfl)
set_option maxHeartbeats 4000000 in
set_option maxRecDepth 100000 in
theorem lw_case14 {p : Program} {e : Env} {s : State} {m : MethodId} {below : List Frame} {meth : Method} {cd : Code} (l : Launch) {b : Nat} {xs : Nat → Int32} {o : Nat} {D : va_G} {c : zC} (ho : s.heap.size = o) (C0 : lw_At p s m meth cd b 6 xs) (hK : zKt D c s) {σ : zS} (h0 : σ.1 2 0 = 0) (h1 : σ.1 2 1 = 0) (h2 : σ.1 2 2 = 0) (ht : σ.1 0 1 = 0) (hk : σ.1 0 2 = 0) (hp : σ.1 0 3 = (-1)) (hk0 : σ.1 55 0 = 0) (hk1 : σ.1 55 1 = 0) (hk2 : σ.1 55 2 = 0) (hb210 : σ.1 210 2 = (-1)) (hb212 : σ.1 212 2 = (-1)) (hb214 : σ.1 214 2 = (-1)) (hb216 : σ.1 216 2 = (-1)) (m0 : σ.1 219 0 = 0) (m1 : σ.1 219 1 = 0) (m2 : σ.1 219 2 = 0) (mt : σ.1 218 7 = 0) (mk : σ.1 218 14 = 0) (mp : σ.1 218 15 = (-1)) (mh0 : σ.1 223 0 = 0) (mh1 : σ.1 223 1 = 0) (mh2 : σ.1 223 2 = 0) (mm0 : σ.1 239 0 = (-1)) (mm1 : σ.1 239 1 = (-1)) (mm2 : σ.1 239 2 = (-1)) (mm3 : σ.1 239 3 = (-1)) (hR : zRef o σ.2.2) (hN : σ.2.2 0 4 = o + 2) (hSp : σ.2.2 0 5 = o + 28) (hz : ∀ k j, σ.2.1 k j = 0) {H : Heap} {locs : List Loc} {ls : Array Slot} (hP : zP D c o σ H) (hS : va_S (zA o) s.heap H locs) (hl : lv_has ls 4 [(3, .int 0), (2, .ref (o + 218)), (1, .ref (o + 0)), (0, .ref b)]) : W p l e room_1 s m #[Value.ref b] below meth cd H locs 243 106038 (lw_Z below #[Value.ref b] s) (F0 m 780 ls []) := by
  have C00 := C0
  obtain ⟨hx, hb, hr, hml, hown, hts0, hX0, hbl, hlocks, hgv⟩ := C0
  have hts : ∀ w ∈ zWl, w.before #[Value.ref b] s = true := fun w hw => hts0 w (List.mem_filter.mp hw).1
  have hown : s.vm.findClass RL = some m.cls := hown
  have hbA : ¬ zA o b := by show ¬ o ≤ b; omega
  refine lv_aload_n (pc := 780) hx hb dL_law_780 rfl (lv_at hl 2 rfl) ?_
  refine lv_aload_n (pc := 781) hx hb dL_law_781 rfl (lv_at hl 3 rfl) ?_
  refine lv_iload_n (pc := 782) hx hb dL_law_782 rfl (lv_at hl 0 rfl) ?_
  refine lv_iconst (pc := 783) (v := 1) hx hb dL_law_783 (by decide) ?_
  refine lv_iadd (pc := 784) hx hb dL_law_784 ?_
  refine lv_topi (pc := 785) (fun v1 ev1 => ?_)
  obtain rfl : v1 = 1 := ev1.trans (by decide)
  refine zsld (pc := 785) (k := 1) hx hb hX0 hbl hbA hS (vp_in_iff.mpr ⟨by decide, by decide⟩) rfl dL_law_785 ?_
  refine lv_aload_n (pc := 786) hx hb dL_law_786 rfl (lv_at hl 3 rfl) ?_
  refine lv_iload_n (pc := 787) hx hb dL_law_787 rfl (lv_at hl 0 rfl) ?_
  refine lv_iconst (pc := 788) (v := 2) hx hb dL_law_788 (by decide) ?_
  refine lv_iadd (pc := 789) hx hb dL_law_789 ?_
  refine lv_topi (pc := 790) (fun v2 ev2 => ?_)
  obtain rfl : v2 = 2 := ev2.trans (by decide)
  refine zsld (pc := 790) (k := 2) hx hb hX0 hbl hbA hS (vp_in_iff.mpr ⟨by decide, by decide⟩) rfl dL_law_790 ?_
  refine zcallVi (pc := 791) (k := 0) (As := [.int (xs 1), .int (xs 2)]) (rest := []) ⟨hx, hb, hml, hown, hts⟩ (nw_X11_rank l D c o σ (xs 1) (xs 2) hR hN h0) zc11 zV_L_77 rfl zd_X11_rank ⟨Nat.le_of_ble_eq_true rfl, Nat.le_of_ble_eq_true rfl⟩ hK hP hS rfl (by decide) hl.1 rfl (Nat.le_of_ble_eq_true rfl) ⟨Nat.le_of_ble_eq_true rfl, Nat.le_of_ble_eq_true rfl⟩ dL_law_791 (fun r3 σ4 H locs hw5 hP hS => ?_)
  obtain ⟨er3, rfl⟩ := hw5
  refine lv_aload_n (pc := 794) hx hb dL_law_794 rfl (lv_at hl 1 rfl) ?_
  refine lv_aload_n (pc := 795) hx hb dL_law_795 rfl (lv_at hl 3 rfl) ?_
  refine lv_iload_n (pc := 796) hx hb dL_law_796 rfl (lv_at hl 0 rfl) ?_
  refine lv_iconst (pc := 797) (v := 1) hx hb dL_law_797 (by decide) ?_
  refine lv_iadd (pc := 798) hx hb dL_law_798 ?_
  refine lv_topi (pc := 799) (fun v6 ev6 => ?_)
  obtain rfl : v6 = 1 := ev6.trans (by decide)
  refine zsld (pc := 799) (k := 1) hx hb hX0 hbl hbA hS (vp_in_iff.mpr ⟨by decide, by decide⟩) rfl dL_law_799 ?_
  refine lv_aload_n (pc := 800) hx hb dL_law_800 rfl (lv_at hl 3 rfl) ?_
  refine lv_iload_n (pc := 801) hx hb dL_law_801 rfl (lv_at hl 0 rfl) ?_
  refine lv_iconst (pc := 802) (v := 2) hx hb dL_law_802 (by decide) ?_
  refine lv_iadd (pc := 803) hx hb dL_law_803 ?_
  refine lv_topi (pc := 804) (fun v7 ev7 => ?_)
  obtain rfl : v7 = 2 := ev7.trans (by decide)
  refine zsld (pc := 804) (k := 2) hx hb hX0 hbl hbA hS (vp_in_iff.mpr ⟨by decide, by decide⟩) rfl dL_law_804 ?_
  refine zcallVi (pc := 805) (k := 218) (As := [.int (xs 1), .int (xs 2)]) (rest := [.int r3]) ⟨hx, hb, hml, hown, hts⟩ (nw_X12_rank_ l D c o σ (xs 1) (xs 2) hR m0) zc12 zV_L_80 rfl zd_X12_rank_ ⟨Nat.le_of_ble_eq_true rfl, Nat.le_of_ble_eq_true rfl⟩ hK hP hS rfl (by decide) hl.1 rfl (Nat.le_of_ble_eq_true rfl) ⟨Nat.le_of_ble_eq_true rfl, Nat.le_of_ble_eq_true rfl⟩ dL_law_805 (fun r8 σ9 H locs hw10 hP hS => ?_)
  obtain ⟨er8, rfl⟩ := hw10
  refine lv_icmp_eq (pc := 808) (tgt := 1869) hx hb dL_law_808 (by decide) (fun _ => ?_) (fun q9 => absurd (er3.trans er8.symm) q9)
  exact lw_tail l ho C00 hK hS (lv_sub hl [0, 1, 2, 3] rfl)
set_option maxHeartbeats 4000000 in
set_option maxRecDepth 100000 in
theorem lw_case15 {p : Program} {e : Env} {s : State} {m : MethodId} {below : List Frame} {meth : Method} {cd : Code} (l : Launch) {b : Nat} {xs : Nat → Int32} {o : Nat} {D : va_G} {c : zC} (ho : s.heap.size = o) (C0 : lw_At p s m meth cd b 6 xs) (hK : zKt D c s) {σ : zS} (h0 : σ.1 2 0 = 0) (h1 : σ.1 2 1 = 0) (h2 : σ.1 2 2 = 0) (ht : σ.1 0 1 = 0) (hk : σ.1 0 2 = 0) (hp : σ.1 0 3 = (-1)) (hk0 : σ.1 55 0 = 0) (hk1 : σ.1 55 1 = 0) (hk2 : σ.1 55 2 = 0) (hb210 : σ.1 210 2 = (-1)) (hb212 : σ.1 212 2 = (-1)) (hb214 : σ.1 214 2 = (-1)) (hb216 : σ.1 216 2 = (-1)) (m0 : σ.1 219 0 = 0) (m1 : σ.1 219 1 = 0) (m2 : σ.1 219 2 = 0) (mt : σ.1 218 7 = 0) (mk : σ.1 218 14 = 0) (mp : σ.1 218 15 = (-1)) (mh0 : σ.1 223 0 = 0) (mh1 : σ.1 223 1 = 0) (mh2 : σ.1 223 2 = 0) (mm0 : σ.1 239 0 = (-1)) (mm1 : σ.1 239 1 = (-1)) (mm2 : σ.1 239 2 = (-1)) (mm3 : σ.1 239 3 = (-1)) (hR : zRef o σ.2.2) (hN : σ.2.2 0 4 = o + 2) (hSp : σ.2.2 0 5 = o + 28) (hz : ∀ k j, σ.2.1 k j = 0) {H : Heap} {locs : List Loc} {ls : Array Slot} (hP : zP D c o σ H) (hS : va_S (zA o) s.heap H locs) (hl : lv_has ls 4 [(3, .int 0), (2, .ref (o + 218)), (1, .ref (o + 0)), (0, .ref b)]) : W p l e room_1 s m #[Value.ref b] below meth cd H locs 243 106038 (lw_Z below #[Value.ref b] s) (F0 m 813 ls []) := by
  have C00 := C0
  obtain ⟨hx, hb, hr, hml, hown, hts0, hX0, hbl, hlocks, hgv⟩ := C0
  have hts : ∀ w ∈ zWl, w.before #[Value.ref b] s = true := fun w hw => hts0 w (List.mem_filter.mp hw).1
  have hown : s.vm.findClass RL = some m.cls := hown
  have hbA : ¬ zA o b := by show ¬ o ≤ b; omega
  refine lv_aload_n (pc := 813) hx hb dL_law_813 rfl (lv_at hl 2 rfl) ?_
  refine lv_aload_n (pc := 814) hx hb dL_law_814 rfl (lv_at hl 3 rfl) ?_
  refine lv_iload_n (pc := 815) hx hb dL_law_815 rfl (lv_at hl 0 rfl) ?_
  refine lv_iconst (pc := 816) (v := 1) hx hb dL_law_816 (by decide) ?_
  refine lv_iadd (pc := 817) hx hb dL_law_817 ?_
  refine lv_topi (pc := 818) (fun v1 ev1 => ?_)
  obtain rfl : v1 = 1 := ev1.trans (by decide)
  refine zsld (pc := 818) (k := 1) hx hb hX0 hbl hbA hS (vp_in_iff.mpr ⟨by decide, by decide⟩) rfl dL_law_818 ?_
  refine lv_aload_n (pc := 819) hx hb dL_law_819 rfl (lv_at hl 3 rfl) ?_
  refine lv_iload_n (pc := 820) hx hb dL_law_820 rfl (lv_at hl 0 rfl) ?_
  refine lv_iconst (pc := 821) (v := 2) hx hb dL_law_821 (by decide) ?_
  refine lv_iadd (pc := 822) hx hb dL_law_822 ?_
  refine lv_topi (pc := 823) (fun v2 ev2 => ?_)
  obtain rfl : v2 = 2 := ev2.trans (by decide)
  refine zsld (pc := 823) (k := 2) hx hb hX0 hbl hbA hS (vp_in_iff.mpr ⟨by decide, by decide⟩) rfl dL_law_823 ?_
  refine zcallVi (pc := 824) (k := 0) (As := [.int (xs 1), .int (xs 2)]) (rest := []) ⟨hx, hb, hml, hown, hts⟩ (nw_X11_light l D c o σ (xs 1) (xs 2) hR hN h0) zc11 zV_L_81 rfl zd_X11_light ⟨Nat.le_of_ble_eq_true rfl, Nat.le_of_ble_eq_true rfl⟩ hK hP hS rfl (by decide) hl.1 rfl (Nat.le_of_ble_eq_true rfl) ⟨Nat.le_of_ble_eq_true rfl, Nat.le_of_ble_eq_true rfl⟩ dL_law_824 (fun r3 σ4 H locs hw5 hP hS => ?_)
  obtain ⟨er3, rfl⟩ := hw5
  refine lv_aload_n (pc := 827) hx hb dL_law_827 rfl (lv_at hl 1 rfl) ?_
  refine lv_aload_n (pc := 828) hx hb dL_law_828 rfl (lv_at hl 3 rfl) ?_
  refine lv_iload_n (pc := 829) hx hb dL_law_829 rfl (lv_at hl 0 rfl) ?_
  refine lv_iconst (pc := 830) (v := 1) hx hb dL_law_830 (by decide) ?_
  refine lv_iadd (pc := 831) hx hb dL_law_831 ?_
  refine lv_topi (pc := 832) (fun v6 ev6 => ?_)
  obtain rfl : v6 = 1 := ev6.trans (by decide)
  refine zsld (pc := 832) (k := 1) hx hb hX0 hbl hbA hS (vp_in_iff.mpr ⟨by decide, by decide⟩) rfl dL_law_832 ?_
  refine lv_aload_n (pc := 833) hx hb dL_law_833 rfl (lv_at hl 3 rfl) ?_
  refine lv_iload_n (pc := 834) hx hb dL_law_834 rfl (lv_at hl 0 rfl) ?_
  refine lv_iconst (pc := 835) (v := 2) hx hb dL_law_835 (by decide) ?_
  refine lv_iadd (pc := 836) hx hb dL_law_836 ?_
  refine lv_topi (pc := 837) (fun v7 ev7 => ?_)
  obtain rfl : v7 = 2 := ev7.trans (by decide)
  refine zsld (pc := 837) (k := 2) hx hb hX0 hbl hbA hS (vp_in_iff.mpr ⟨by decide, by decide⟩) rfl dL_law_837 ?_
  refine zcallVi (pc := 838) (k := 218) (As := [.int (xs 1), .int (xs 2)]) (rest := [.int r3]) ⟨hx, hb, hml, hown, hts⟩ (nw_X12_light l D c o σ (xs 1) (xs 2) hR m0) zc12 zV_L_84 rfl zd_X12_light ⟨Nat.le_of_ble_eq_true rfl, Nat.le_of_ble_eq_true rfl⟩ hK hP hS rfl (by decide) hl.1 rfl (Nat.le_of_ble_eq_true rfl) ⟨Nat.le_of_ble_eq_true rfl, Nat.le_of_ble_eq_true rfl⟩ dL_law_838 (fun r8 σ9 H locs hw10 hP hS => ?_)
  obtain ⟨er8, rfl⟩ := hw10
  refine lv_icmp_eq (pc := 841) (tgt := 1869) hx hb dL_law_841 (by decide) (fun _ => ?_) (fun q9 => absurd (er3.trans er8.symm) q9)
  exact lw_tail l ho C00 hK hS (lv_sub hl [0, 1, 2, 3] rfl)
set_option maxHeartbeats 4000000 in
set_option maxRecDepth 100000 in
theorem lw_case16 {p : Program} {e : Env} {s : State} {m : MethodId} {below : List Frame} {meth : Method} {cd : Code} (l : Launch) {b : Nat} {xs : Nat → Int32} {o : Nat} {D : va_G} {c : zC} (ho : s.heap.size = o) (C0 : lw_At p s m meth cd b 6 xs) (hK : zKt D c s) {σ : zS} (h0 : σ.1 2 0 = 0) (h1 : σ.1 2 1 = 0) (h2 : σ.1 2 2 = 0) (ht : σ.1 0 1 = 0) (hk : σ.1 0 2 = 0) (hp : σ.1 0 3 = (-1)) (hk0 : σ.1 55 0 = 0) (hk1 : σ.1 55 1 = 0) (hk2 : σ.1 55 2 = 0) (hb210 : σ.1 210 2 = (-1)) (hb212 : σ.1 212 2 = (-1)) (hb214 : σ.1 214 2 = (-1)) (hb216 : σ.1 216 2 = (-1)) (m0 : σ.1 219 0 = 0) (m1 : σ.1 219 1 = 0) (m2 : σ.1 219 2 = 0) (mt : σ.1 218 7 = 0) (mk : σ.1 218 14 = 0) (mp : σ.1 218 15 = (-1)) (mh0 : σ.1 223 0 = 0) (mh1 : σ.1 223 1 = 0) (mh2 : σ.1 223 2 = 0) (mm0 : σ.1 239 0 = (-1)) (mm1 : σ.1 239 1 = (-1)) (mm2 : σ.1 239 2 = (-1)) (mm3 : σ.1 239 3 = (-1)) (hR : zRef o σ.2.2) (hN : σ.2.2 0 4 = o + 2) (hSp : σ.2.2 0 5 = o + 28) (hz : ∀ k j, σ.2.1 k j = 0) {H : Heap} {locs : List Loc} {ls : Array Slot} (hP : zP D c o σ H) (hS : va_S (zA o) s.heap H locs) (hl : lv_has ls 4 [(3, .int 0), (2, .ref (o + 218)), (1, .ref (o + 0)), (0, .ref b)]) : W p l e room_1 s m #[Value.ref b] below meth cd H locs 243 106038 (lw_Z below #[Value.ref b] s) (F0 m 846 ls []) := by
  have C00 := C0
  obtain ⟨hx, hb, hr, hml, hown, hts0, hX0, hbl, hlocks, hgv⟩ := C0
  have hts : ∀ w ∈ zWl, w.before #[Value.ref b] s = true := fun w hw => hts0 w (List.mem_filter.mp hw).1
  have hown : s.vm.findClass RL = some m.cls := hown
  have hbA : ¬ zA o b := by show ¬ o ≤ b; omega
  refine lv_aload_n (pc := 846) hx hb dL_law_846 rfl (lv_at hl 2 rfl) ?_
  refine lv_aload_n (pc := 847) hx hb dL_law_847 rfl (lv_at hl 3 rfl) ?_
  refine lv_iload_n (pc := 848) hx hb dL_law_848 rfl (lv_at hl 0 rfl) ?_
  refine lv_iconst (pc := 849) (v := 1) hx hb dL_law_849 (by decide) ?_
  refine lv_iadd (pc := 850) hx hb dL_law_850 ?_
  refine lv_topi (pc := 851) (fun v1 ev1 => ?_)
  obtain rfl : v1 = 1 := ev1.trans (by decide)
  refine zsld (pc := 851) (k := 1) hx hb hX0 hbl hbA hS (vp_in_iff.mpr ⟨by decide, by decide⟩) rfl dL_law_851 ?_
  refine zcallVi (pc := 852) (k := 0) (As := [.int (xs 1)]) (rest := []) ⟨hx, hb, hml, hown, hts⟩ (nw_X11_weight l D c o σ (xs 1) hR hN h0) zc11 zV_L_85 rfl zd_X11_weight ⟨Nat.le_of_ble_eq_true rfl, Nat.le_of_ble_eq_true rfl⟩ hK hP hS rfl (by decide) hl.1 rfl (Nat.le_of_ble_eq_true rfl) ⟨Nat.le_of_ble_eq_true rfl, Nat.le_of_ble_eq_true rfl⟩ dL_law_852 (fun r2 σ3 H locs hw4 hP hS => ?_)
  obtain ⟨er2, rfl⟩ := hw4
  refine lv_aload_n (pc := 855) hx hb dL_law_855 rfl (lv_at hl 1 rfl) ?_
  refine lv_aload_n (pc := 856) hx hb dL_law_856 rfl (lv_at hl 3 rfl) ?_
  refine lv_iload_n (pc := 857) hx hb dL_law_857 rfl (lv_at hl 0 rfl) ?_
  refine lv_iconst (pc := 858) (v := 1) hx hb dL_law_858 (by decide) ?_
  refine lv_iadd (pc := 859) hx hb dL_law_859 ?_
  refine lv_topi (pc := 860) (fun v5 ev5 => ?_)
  obtain rfl : v5 = 1 := ev5.trans (by decide)
  refine zsld (pc := 860) (k := 1) hx hb hX0 hbl hbA hS (vp_in_iff.mpr ⟨by decide, by decide⟩) rfl dL_law_860 ?_
  refine zcallVi (pc := 861) (k := 218) (As := [.int (xs 1)]) (rest := [.int r2]) ⟨hx, hb, hml, hown, hts⟩ (nw_X12_weight l D c o σ (xs 1) hR m0) zc12 zV_L_88 rfl zd_X12_weight ⟨Nat.le_of_ble_eq_true rfl, Nat.le_of_ble_eq_true rfl⟩ hK hP hS rfl (by decide) hl.1 rfl (Nat.le_of_ble_eq_true rfl) ⟨Nat.le_of_ble_eq_true rfl, Nat.le_of_ble_eq_true rfl⟩ dL_law_861 (fun r6 σ7 H locs hw8 hP hS => ?_)
  obtain ⟨er6, rfl⟩ := hw8
  refine lv_icmp_eq (pc := 864) (tgt := 1869) hx hb dL_law_864 (by decide) (fun _ => ?_) (fun q9 => absurd (er2.trans er6.symm) q9)
  exact lw_tail l ho C00 hK hS (lv_sub hl [0, 1, 2, 3] rfl)
set_option maxHeartbeats 4000000 in
set_option maxRecDepth 100000 in
theorem lw_case17 {p : Program} {e : Env} {s : State} {m : MethodId} {below : List Frame} {meth : Method} {cd : Code} (l : Launch) {b : Nat} {xs : Nat → Int32} {o : Nat} {D : va_G} {c : zC} (ho : s.heap.size = o) (C0 : lw_At p s m meth cd b 6 xs) (hK : zKt D c s) {σ : zS} (h0 : σ.1 2 0 = 0) (h1 : σ.1 2 1 = 0) (h2 : σ.1 2 2 = 0) (ht : σ.1 0 1 = 0) (hk : σ.1 0 2 = 0) (hp : σ.1 0 3 = (-1)) (hk0 : σ.1 55 0 = 0) (hk1 : σ.1 55 1 = 0) (hk2 : σ.1 55 2 = 0) (hb210 : σ.1 210 2 = (-1)) (hb212 : σ.1 212 2 = (-1)) (hb214 : σ.1 214 2 = (-1)) (hb216 : σ.1 216 2 = (-1)) (m0 : σ.1 219 0 = 0) (m1 : σ.1 219 1 = 0) (m2 : σ.1 219 2 = 0) (mt : σ.1 218 7 = 0) (mk : σ.1 218 14 = 0) (mp : σ.1 218 15 = (-1)) (mh0 : σ.1 223 0 = 0) (mh1 : σ.1 223 1 = 0) (mh2 : σ.1 223 2 = 0) (mm0 : σ.1 239 0 = (-1)) (mm1 : σ.1 239 1 = (-1)) (mm2 : σ.1 239 2 = (-1)) (mm3 : σ.1 239 3 = (-1)) (hR : zRef o σ.2.2) (hN : σ.2.2 0 4 = o + 2) (hSp : σ.2.2 0 5 = o + 28) (hz : ∀ k j, σ.2.1 k j = 0) {H : Heap} {locs : List Loc} {ls : Array Slot} (hP : zP D c o σ H) (hS : va_S (zA o) s.heap H locs) (hl : lv_has ls 4 [(3, .int 0), (2, .ref (o + 218)), (1, .ref (o + 0)), (0, .ref b)]) : W p l e room_1 s m #[Value.ref b] below meth cd H locs 243 106038 (lw_Z below #[Value.ref b] s) (F0 m 869 ls []) := by
  have C00 := C0
  obtain ⟨hx, hb, hr, hml, hown, hts0, hX0, hbl, hlocks, hgv⟩ := C0
  have hts : ∀ w ∈ zWl, w.before #[Value.ref b] s = true := fun w hw => hts0 w (List.mem_filter.mp hw).1
  have hown : s.vm.findClass RL = some m.cls := hown
  have hbA : ¬ zA o b := by show ¬ o ≤ b; omega
  refine lv_aload_n (pc := 869) hx hb dL_law_869 rfl (lv_at hl 2 rfl) ?_
  refine lv_aload_n (pc := 870) hx hb dL_law_870 rfl (lv_at hl 3 rfl) ?_
  refine lv_iload_n (pc := 871) hx hb dL_law_871 rfl (lv_at hl 0 rfl) ?_
  refine lv_iconst (pc := 872) (v := 1) hx hb dL_law_872 (by decide) ?_
  refine lv_iadd (pc := 873) hx hb dL_law_873 ?_
  refine lv_topi (pc := 874) (fun v1 ev1 => ?_)
  obtain rfl : v1 = 1 := ev1.trans (by decide)
  refine zsld (pc := 874) (k := 1) hx hb hX0 hbl hbA hS (vp_in_iff.mpr ⟨by decide, by decide⟩) rfl dL_law_874 ?_
  refine lv_aload_n (pc := 875) hx hb dL_law_875 rfl (lv_at hl 3 rfl) ?_
  refine lv_iload_n (pc := 876) hx hb dL_law_876 rfl (lv_at hl 0 rfl) ?_
  refine lv_iconst (pc := 877) (v := 2) hx hb dL_law_877 (by decide) ?_
  refine lv_iadd (pc := 878) hx hb dL_law_878 ?_
  refine lv_topi (pc := 879) (fun v2 ev2 => ?_)
  obtain rfl : v2 = 2 := ev2.trans (by decide)
  refine zsld (pc := 879) (k := 2) hx hb hX0 hbl hbA hS (vp_in_iff.mpr ⟨by decide, by decide⟩) rfl dL_law_879 ?_
  refine zcallVi (pc := 880) (k := 0) (As := [.int (xs 1), .int (xs 2)]) (rest := []) ⟨hx, hb, hml, hown, hts⟩ (nw_X11_weigh l D c o σ (xs 1) (xs 2) hR hN h0) zc11 zV_L_89 rfl zd_X11_weigh ⟨Nat.le_of_ble_eq_true rfl, Nat.le_of_ble_eq_true rfl⟩ hK hP hS rfl (by decide) hl.1 rfl (Nat.le_of_ble_eq_true rfl) ⟨Nat.le_of_ble_eq_true rfl, Nat.le_of_ble_eq_true rfl⟩ dL_law_880 (fun r3 σ4 H locs hw5 hP hS => ?_)
  obtain ⟨er3, rfl⟩ := hw5
  refine lv_aload_n (pc := 883) hx hb dL_law_883 rfl (lv_at hl 1 rfl) ?_
  refine lv_aload_n (pc := 884) hx hb dL_law_884 rfl (lv_at hl 3 rfl) ?_
  refine lv_iload_n (pc := 885) hx hb dL_law_885 rfl (lv_at hl 0 rfl) ?_
  refine lv_iconst (pc := 886) (v := 1) hx hb dL_law_886 (by decide) ?_
  refine lv_iadd (pc := 887) hx hb dL_law_887 ?_
  refine lv_topi (pc := 888) (fun v6 ev6 => ?_)
  obtain rfl : v6 = 1 := ev6.trans (by decide)
  refine zsld (pc := 888) (k := 1) hx hb hX0 hbl hbA hS (vp_in_iff.mpr ⟨by decide, by decide⟩) rfl dL_law_888 ?_
  refine lv_aload_n (pc := 889) hx hb dL_law_889 rfl (lv_at hl 3 rfl) ?_
  refine lv_iload_n (pc := 890) hx hb dL_law_890 rfl (lv_at hl 0 rfl) ?_
  refine lv_iconst (pc := 891) (v := 2) hx hb dL_law_891 (by decide) ?_
  refine lv_iadd (pc := 892) hx hb dL_law_892 ?_
  refine lv_topi (pc := 893) (fun v7 ev7 => ?_)
  obtain rfl : v7 = 2 := ev7.trans (by decide)
  refine zsld (pc := 893) (k := 2) hx hb hX0 hbl hbA hS (vp_in_iff.mpr ⟨by decide, by decide⟩) rfl dL_law_893 ?_
  refine zcallVi (pc := 894) (k := 218) (As := [.int (xs 1), .int (xs 2)]) (rest := [.int r3]) ⟨hx, hb, hml, hown, hts⟩ (nw_X12_weigh l D c o σ (xs 1) (xs 2) hR m0) zc12 zV_L_92 rfl zd_X12_weigh ⟨Nat.le_of_ble_eq_true rfl, Nat.le_of_ble_eq_true rfl⟩ hK hP hS rfl (by decide) hl.1 rfl (Nat.le_of_ble_eq_true rfl) ⟨Nat.le_of_ble_eq_true rfl, Nat.le_of_ble_eq_true rfl⟩ dL_law_894 (fun r8 σ9 H locs hw10 hP hS => ?_)
  obtain ⟨er8, rfl⟩ := hw10
  refine lv_icmp_eq (pc := 897) (tgt := 1869) hx hb dL_law_897 (by decide) (fun _ => ?_) (fun q9 => absurd (er3.trans er8.symm) q9)
  exact lw_tail l ho C00 hK hS (lv_sub hl [0, 1, 2, 3] rfl)
set_option maxHeartbeats 4000000 in
set_option maxRecDepth 100000 in
theorem lw_case18 {p : Program} {e : Env} {s : State} {m : MethodId} {below : List Frame} {meth : Method} {cd : Code} (l : Launch) {b : Nat} {xs : Nat → Int32} {o : Nat} {D : va_G} {c : zC} (ho : s.heap.size = o) (C0 : lw_At p s m meth cd b 6 xs) (hK : zKt D c s) {σ : zS} (h0 : σ.1 2 0 = 0) (h1 : σ.1 2 1 = 0) (h2 : σ.1 2 2 = 0) (ht : σ.1 0 1 = 0) (hk : σ.1 0 2 = 0) (hp : σ.1 0 3 = (-1)) (hk0 : σ.1 55 0 = 0) (hk1 : σ.1 55 1 = 0) (hk2 : σ.1 55 2 = 0) (hb210 : σ.1 210 2 = (-1)) (hb212 : σ.1 212 2 = (-1)) (hb214 : σ.1 214 2 = (-1)) (hb216 : σ.1 216 2 = (-1)) (m0 : σ.1 219 0 = 0) (m1 : σ.1 219 1 = 0) (m2 : σ.1 219 2 = 0) (mt : σ.1 218 7 = 0) (mk : σ.1 218 14 = 0) (mp : σ.1 218 15 = (-1)) (mh0 : σ.1 223 0 = 0) (mh1 : σ.1 223 1 = 0) (mh2 : σ.1 223 2 = 0) (mm0 : σ.1 239 0 = (-1)) (mm1 : σ.1 239 1 = (-1)) (mm2 : σ.1 239 2 = (-1)) (mm3 : σ.1 239 3 = (-1)) (hR : zRef o σ.2.2) (hN : σ.2.2 0 4 = o + 2) (hSp : σ.2.2 0 5 = o + 28) (hz : ∀ k j, σ.2.1 k j = 0) {H : Heap} {locs : List Loc} {ls : Array Slot} (hP : zP D c o σ H) (hS : va_S (zA o) s.heap H locs) (hl : lv_has ls 4 [(3, .int 0), (2, .ref (o + 218)), (1, .ref (o + 0)), (0, .ref b)]) : W p l e room_1 s m #[Value.ref b] below meth cd H locs 243 106038 (lw_Z below #[Value.ref b] s) (F0 m 902 ls []) := by
  have C00 := C0
  obtain ⟨hx, hb, hr, hml, hown, hts0, hX0, hbl, hlocks, hgv⟩ := C0
  have hts : ∀ w ∈ zWl, w.before #[Value.ref b] s = true := fun w hw => hts0 w (List.mem_filter.mp hw).1
  have hown : s.vm.findClass RL = some m.cls := hown
  have hbA : ¬ zA o b := by show ¬ o ≤ b; omega
  refine lv_aload_n (pc := 902) hx hb dL_law_902 rfl (lv_at hl 2 rfl) ?_
  refine lv_aload_n (pc := 903) hx hb dL_law_903 rfl (lv_at hl 3 rfl) ?_
  refine lv_iload_n (pc := 904) hx hb dL_law_904 rfl (lv_at hl 0 rfl) ?_
  refine lv_iconst (pc := 905) (v := 1) hx hb dL_law_905 (by decide) ?_
  refine lv_iadd (pc := 906) hx hb dL_law_906 ?_
  refine lv_topi (pc := 907) (fun v1 ev1 => ?_)
  obtain rfl : v1 = 1 := ev1.trans (by decide)
  refine zsld (pc := 907) (k := 1) hx hb hX0 hbl hbA hS (vp_in_iff.mpr ⟨by decide, by decide⟩) rfl dL_law_907 ?_
  refine lv_aload_n (pc := 908) hx hb dL_law_908 rfl (lv_at hl 3 rfl) ?_
  refine lv_iload_n (pc := 909) hx hb dL_law_909 rfl (lv_at hl 0 rfl) ?_
  refine lv_iconst (pc := 910) (v := 2) hx hb dL_law_910 (by decide) ?_
  refine lv_iadd (pc := 911) hx hb dL_law_911 ?_
  refine lv_topi (pc := 912) (fun v2 ev2 => ?_)
  obtain rfl : v2 = 2 := ev2.trans (by decide)
  refine zsld (pc := 912) (k := 2) hx hb hX0 hbl hbA hS (vp_in_iff.mpr ⟨by decide, by decide⟩) rfl dL_law_912 ?_
  refine zcallVi (pc := 913) (k := 0) (As := [.int (xs 1), .int (xs 2)]) (rest := []) ⟨hx, hb, hml, hown, hts⟩ (nw_X11_weighs l D c o σ (xs 1) (xs 2) hR hN h0) zc11 zV_L_93 rfl zd_X11_weighs ⟨Nat.le_of_ble_eq_true rfl, Nat.le_of_ble_eq_true rfl⟩ hK hP hS rfl (by decide) hl.1 rfl (Nat.le_of_ble_eq_true rfl) ⟨Nat.le_of_ble_eq_true rfl, Nat.le_of_ble_eq_true rfl⟩ dL_law_913 (fun r3 σ4 H locs hw5 hP hS => ?_)
  obtain ⟨er3, rfl⟩ := hw5
  refine lv_aload_n (pc := 916) hx hb dL_law_916 rfl (lv_at hl 1 rfl) ?_
  refine lv_aload_n (pc := 917) hx hb dL_law_917 rfl (lv_at hl 3 rfl) ?_
  refine lv_iload_n (pc := 918) hx hb dL_law_918 rfl (lv_at hl 0 rfl) ?_
  refine lv_iconst (pc := 919) (v := 1) hx hb dL_law_919 (by decide) ?_
  refine lv_iadd (pc := 920) hx hb dL_law_920 ?_
  refine lv_topi (pc := 921) (fun v6 ev6 => ?_)
  obtain rfl : v6 = 1 := ev6.trans (by decide)
  refine zsld (pc := 921) (k := 1) hx hb hX0 hbl hbA hS (vp_in_iff.mpr ⟨by decide, by decide⟩) rfl dL_law_921 ?_
  refine lv_aload_n (pc := 922) hx hb dL_law_922 rfl (lv_at hl 3 rfl) ?_
  refine lv_iload_n (pc := 923) hx hb dL_law_923 rfl (lv_at hl 0 rfl) ?_
  refine lv_iconst (pc := 924) (v := 2) hx hb dL_law_924 (by decide) ?_
  refine lv_iadd (pc := 925) hx hb dL_law_925 ?_
  refine lv_topi (pc := 926) (fun v7 ev7 => ?_)
  obtain rfl : v7 = 2 := ev7.trans (by decide)
  refine zsld (pc := 926) (k := 2) hx hb hX0 hbl hbA hS (vp_in_iff.mpr ⟨by decide, by decide⟩) rfl dL_law_926 ?_
  refine zcallVi (pc := 927) (k := 218) (As := [.int (xs 1), .int (xs 2)]) (rest := [.int r3]) ⟨hx, hb, hml, hown, hts⟩ (nw_X12_weighs l D c o σ (xs 1) (xs 2) hR m0) zc12 zV_L_96 rfl zd_X12_weighs ⟨Nat.le_of_ble_eq_true rfl, Nat.le_of_ble_eq_true rfl⟩ hK hP hS rfl (by decide) hl.1 rfl (Nat.le_of_ble_eq_true rfl) ⟨Nat.le_of_ble_eq_true rfl, Nat.le_of_ble_eq_true rfl⟩ dL_law_927 (fun r8 σ9 H locs hw10 hP hS => ?_)
  obtain ⟨er8, rfl⟩ := hw10
  refine lv_icmp_eq (pc := 930) (tgt := 1869) hx hb dL_law_930 (by decide) (fun _ => ?_) (fun q9 => absurd (er3.trans er8.symm) q9)
  exact lw_tail l ho C00 hK hS (lv_sub hl [0, 1, 2, 3] rfl)
set_option maxHeartbeats 4000000 in
set_option maxRecDepth 100000 in
theorem lw_case19 {p : Program} {e : Env} {s : State} {m : MethodId} {below : List Frame} {meth : Method} {cd : Code} (l : Launch) {b : Nat} {xs : Nat → Int32} {o : Nat} {D : va_G} {c : zC} (ho : s.heap.size = o) (C0 : lw_At p s m meth cd b 6 xs) (hK : zKt D c s) {σ : zS} (h0 : σ.1 2 0 = 0) (h1 : σ.1 2 1 = 0) (h2 : σ.1 2 2 = 0) (ht : σ.1 0 1 = 0) (hk : σ.1 0 2 = 0) (hp : σ.1 0 3 = (-1)) (hk0 : σ.1 55 0 = 0) (hk1 : σ.1 55 1 = 0) (hk2 : σ.1 55 2 = 0) (hb210 : σ.1 210 2 = (-1)) (hb212 : σ.1 212 2 = (-1)) (hb214 : σ.1 214 2 = (-1)) (hb216 : σ.1 216 2 = (-1)) (m0 : σ.1 219 0 = 0) (m1 : σ.1 219 1 = 0) (m2 : σ.1 219 2 = 0) (mt : σ.1 218 7 = 0) (mk : σ.1 218 14 = 0) (mp : σ.1 218 15 = (-1)) (mh0 : σ.1 223 0 = 0) (mh1 : σ.1 223 1 = 0) (mh2 : σ.1 223 2 = 0) (mm0 : σ.1 239 0 = (-1)) (mm1 : σ.1 239 1 = (-1)) (mm2 : σ.1 239 2 = (-1)) (mm3 : σ.1 239 3 = (-1)) (hR : zRef o σ.2.2) (hN : σ.2.2 0 4 = o + 2) (hSp : σ.2.2 0 5 = o + 28) (hz : ∀ k j, σ.2.1 k j = 0) {H : Heap} {locs : List Loc} {ls : Array Slot} (hP : zP D c o σ H) (hS : va_S (zA o) s.heap H locs) (hl : lv_has ls 4 [(3, .int 0), (2, .ref (o + 218)), (1, .ref (o + 0)), (0, .ref b)]) : W p l e room_1 s m #[Value.ref b] below meth cd H locs 243 106038 (lw_Z below #[Value.ref b] s) (F0 m 935 ls []) := by
  have C00 := C0
  obtain ⟨hx, hb, hr, hml, hown, hts0, hX0, hbl, hlocks, hgv⟩ := C0
  have hts : ∀ w ∈ zWl, w.before #[Value.ref b] s = true := fun w hw => hts0 w (List.mem_filter.mp hw).1
  have hown : s.vm.findClass RL = some m.cls := hown
  have hbA : ¬ zA o b := by show ¬ o ≤ b; omega
  refine lv_aload_n (pc := 935) hx hb dL_law_935 rfl (lv_at hl 2 rfl) ?_
  refine lv_aload_n (pc := 936) hx hb dL_law_936 rfl (lv_at hl 3 rfl) ?_
  refine lv_iload_n (pc := 937) hx hb dL_law_937 rfl (lv_at hl 0 rfl) ?_
  refine lv_iconst (pc := 938) (v := 1) hx hb dL_law_938 (by decide) ?_
  refine lv_iadd (pc := 939) hx hb dL_law_939 ?_
  refine lv_topi (pc := 940) (fun v1 ev1 => ?_)
  obtain rfl : v1 = 1 := ev1.trans (by decide)
  refine zsld (pc := 940) (k := 1) hx hb hX0 hbl hbA hS (vp_in_iff.mpr ⟨by decide, by decide⟩) rfl dL_law_940 ?_
  refine lv_aload_n (pc := 941) hx hb dL_law_941 rfl (lv_at hl 3 rfl) ?_
  refine lv_iload_n (pc := 942) hx hb dL_law_942 rfl (lv_at hl 0 rfl) ?_
  refine lv_iconst (pc := 943) (v := 2) hx hb dL_law_943 (by decide) ?_
  refine lv_iadd (pc := 944) hx hb dL_law_944 ?_
  refine lv_topi (pc := 945) (fun v2 ev2 => ?_)
  obtain rfl : v2 = 2 := ev2.trans (by decide)
  refine zsld (pc := 945) (k := 2) hx hb hX0 hbl hbA hS (vp_in_iff.mpr ⟨by decide, by decide⟩) rfl dL_law_945 ?_
  refine zcallVi (pc := 946) (k := 0) (As := [.int (xs 1), .int (xs 2)]) (rest := []) ⟨hx, hb, hml, hown, hts⟩ (nw_X11_each l D c o σ (xs 1) (xs 2) hR hN h0) zc11 zV_L_97 rfl zd_X11_each ⟨Nat.le_of_ble_eq_true rfl, Nat.le_of_ble_eq_true rfl⟩ hK hP hS rfl (by decide) hl.1 rfl (Nat.le_of_ble_eq_true rfl) ⟨Nat.le_of_ble_eq_true rfl, Nat.le_of_ble_eq_true rfl⟩ dL_law_946 (fun r3 σ4 H locs hw5 hP hS => ?_)
  obtain ⟨er3, rfl⟩ := hw5
  refine lv_aload_n (pc := 949) hx hb dL_law_949 rfl (lv_at hl 1 rfl) ?_
  refine lv_aload_n (pc := 950) hx hb dL_law_950 rfl (lv_at hl 3 rfl) ?_
  refine lv_iload_n (pc := 951) hx hb dL_law_951 rfl (lv_at hl 0 rfl) ?_
  refine lv_iconst (pc := 952) (v := 1) hx hb dL_law_952 (by decide) ?_
  refine lv_iadd (pc := 953) hx hb dL_law_953 ?_
  refine lv_topi (pc := 954) (fun v6 ev6 => ?_)
  obtain rfl : v6 = 1 := ev6.trans (by decide)
  refine zsld (pc := 954) (k := 1) hx hb hX0 hbl hbA hS (vp_in_iff.mpr ⟨by decide, by decide⟩) rfl dL_law_954 ?_
  refine lv_aload_n (pc := 955) hx hb dL_law_955 rfl (lv_at hl 3 rfl) ?_
  refine lv_iload_n (pc := 956) hx hb dL_law_956 rfl (lv_at hl 0 rfl) ?_
  refine lv_iconst (pc := 957) (v := 2) hx hb dL_law_957 (by decide) ?_
  refine lv_iadd (pc := 958) hx hb dL_law_958 ?_
  refine lv_topi (pc := 959) (fun v7 ev7 => ?_)
  obtain rfl : v7 = 2 := ev7.trans (by decide)
  refine zsld (pc := 959) (k := 2) hx hb hX0 hbl hbA hS (vp_in_iff.mpr ⟨by decide, by decide⟩) rfl dL_law_959 ?_
  refine zcallVi (pc := 960) (k := 218) (As := [.int (xs 1), .int (xs 2)]) (rest := [.int r3]) ⟨hx, hb, hml, hown, hts⟩ (nw_X12_each l D c o σ (xs 1) (xs 2) hR m0) zc12 zV_L_100 rfl zd_X12_each ⟨Nat.le_of_ble_eq_true rfl, Nat.le_of_ble_eq_true rfl⟩ hK hP hS rfl (by decide) hl.1 rfl (Nat.le_of_ble_eq_true rfl) ⟨Nat.le_of_ble_eq_true rfl, Nat.le_of_ble_eq_true rfl⟩ dL_law_960 (fun r8 σ9 H locs hw10 hP hS => ?_)
  obtain ⟨er8, rfl⟩ := hw10
  refine lv_icmp_eq (pc := 963) (tgt := 1869) hx hb dL_law_963 (by decide) (fun _ => ?_) (fun q9 => absurd (er3.trans er8.symm) q9)
  exact lw_tail l ho C00 hK hS (lv_sub hl [0, 1, 2, 3] rfl)
set_option maxHeartbeats 4000000 in
set_option maxRecDepth 100000 in
theorem lw_case20 {p : Program} {e : Env} {s : State} {m : MethodId} {below : List Frame} {meth : Method} {cd : Code} (l : Launch) {b : Nat} {xs : Nat → Int32} {o : Nat} {D : va_G} {c : zC} (ho : s.heap.size = o) (C0 : lw_At p s m meth cd b 6 xs) (hK : zKt D c s) {σ : zS} (h0 : σ.1 2 0 = 0) (h1 : σ.1 2 1 = 0) (h2 : σ.1 2 2 = 0) (ht : σ.1 0 1 = 0) (hk : σ.1 0 2 = 0) (hp : σ.1 0 3 = (-1)) (hk0 : σ.1 55 0 = 0) (hk1 : σ.1 55 1 = 0) (hk2 : σ.1 55 2 = 0) (hb210 : σ.1 210 2 = (-1)) (hb212 : σ.1 212 2 = (-1)) (hb214 : σ.1 214 2 = (-1)) (hb216 : σ.1 216 2 = (-1)) (m0 : σ.1 219 0 = 0) (m1 : σ.1 219 1 = 0) (m2 : σ.1 219 2 = 0) (mt : σ.1 218 7 = 0) (mk : σ.1 218 14 = 0) (mp : σ.1 218 15 = (-1)) (mh0 : σ.1 223 0 = 0) (mh1 : σ.1 223 1 = 0) (mh2 : σ.1 223 2 = 0) (mm0 : σ.1 239 0 = (-1)) (mm1 : σ.1 239 1 = (-1)) (mm2 : σ.1 239 2 = (-1)) (mm3 : σ.1 239 3 = (-1)) (hR : zRef o σ.2.2) (hN : σ.2.2 0 4 = o + 2) (hSp : σ.2.2 0 5 = o + 28) (hz : ∀ k j, σ.2.1 k j = 0) {H : Heap} {locs : List Loc} {ls : Array Slot} (hP : zP D c o σ H) (hS : va_S (zA o) s.heap H locs) (hl : lv_has ls 4 [(3, .int 0), (2, .ref (o + 218)), (1, .ref (o + 0)), (0, .ref b)]) : W p l e room_1 s m #[Value.ref b] below meth cd H locs 243 106038 (lw_Z below #[Value.ref b] s) (F0 m 968 ls []) := by
  have C00 := C0
  obtain ⟨hx, hb, hr, hml, hown, hts0, hX0, hbl, hlocks, hgv⟩ := C0
  have hts : ∀ w ∈ zWl, w.before #[Value.ref b] s = true := fun w hw => hts0 w (List.mem_filter.mp hw).1
  have hown : s.vm.findClass RL = some m.cls := hown
  have hbA : ¬ zA o b := by show ¬ o ≤ b; omega
  refine lv_aload_n (pc := 968) hx hb dL_law_968 rfl (lv_at hl 2 rfl) ?_
  refine lv_aload_n (pc := 969) hx hb dL_law_969 rfl (lv_at hl 3 rfl) ?_
  refine lv_iload_n (pc := 970) hx hb dL_law_970 rfl (lv_at hl 0 rfl) ?_
  refine lv_iconst (pc := 971) (v := 1) hx hb dL_law_971 (by decide) ?_
  refine lv_iadd (pc := 972) hx hb dL_law_972 ?_
  refine lv_topi (pc := 973) (fun v1 ev1 => ?_)
  obtain rfl : v1 = 1 := ev1.trans (by decide)
  refine zsld (pc := 973) (k := 1) hx hb hX0 hbl hbA hS (vp_in_iff.mpr ⟨by decide, by decide⟩) rfl dL_law_973 ?_
  refine lv_aload_n (pc := 974) hx hb dL_law_974 rfl (lv_at hl 3 rfl) ?_
  refine lv_iload_n (pc := 975) hx hb dL_law_975 rfl (lv_at hl 0 rfl) ?_
  refine lv_iconst (pc := 976) (v := 2) hx hb dL_law_976 (by decide) ?_
  refine lv_iadd (pc := 977) hx hb dL_law_977 ?_
  refine lv_topi (pc := 978) (fun v2 ev2 => ?_)
  obtain rfl : v2 = 2 := ev2.trans (by decide)
  refine zsld (pc := 978) (k := 2) hx hb hX0 hbl hbA hS (vp_in_iff.mpr ⟨by decide, by decide⟩) rfl dL_law_978 ?_
  refine zcallVi (pc := 979) (k := 0) (As := [.int (xs 1), .int (xs 2)]) (rest := []) ⟨hx, hb, hml, hown, hts⟩ (nw_X11_names l D c o σ (xs 1) (xs 2) hR hN h0) zc11 zV_L_101 rfl zd_X11_names ⟨Nat.le_of_ble_eq_true rfl, Nat.le_of_ble_eq_true rfl⟩ hK hP hS rfl (by decide) hl.1 rfl (Nat.le_of_ble_eq_true rfl) ⟨Nat.le_of_ble_eq_true rfl, Nat.le_of_ble_eq_true rfl⟩ dL_law_979 (fun r3 σ4 H locs hw5 hP hS => ?_)
  obtain ⟨er3, rfl⟩ := hw5
  refine lv_aload_n (pc := 982) hx hb dL_law_982 rfl (lv_at hl 1 rfl) ?_
  refine lv_aload_n (pc := 983) hx hb dL_law_983 rfl (lv_at hl 3 rfl) ?_
  refine lv_iload_n (pc := 984) hx hb dL_law_984 rfl (lv_at hl 0 rfl) ?_
  refine lv_iconst (pc := 985) (v := 1) hx hb dL_law_985 (by decide) ?_
  refine lv_iadd (pc := 986) hx hb dL_law_986 ?_
  refine lv_topi (pc := 987) (fun v6 ev6 => ?_)
  obtain rfl : v6 = 1 := ev6.trans (by decide)
  refine zsld (pc := 987) (k := 1) hx hb hX0 hbl hbA hS (vp_in_iff.mpr ⟨by decide, by decide⟩) rfl dL_law_987 ?_
  refine lv_aload_n (pc := 988) hx hb dL_law_988 rfl (lv_at hl 3 rfl) ?_
  refine lv_iload_n (pc := 989) hx hb dL_law_989 rfl (lv_at hl 0 rfl) ?_
  refine lv_iconst (pc := 990) (v := 2) hx hb dL_law_990 (by decide) ?_
  refine lv_iadd (pc := 991) hx hb dL_law_991 ?_
  refine lv_topi (pc := 992) (fun v7 ev7 => ?_)
  obtain rfl : v7 = 2 := ev7.trans (by decide)
  refine zsld (pc := 992) (k := 2) hx hb hX0 hbl hbA hS (vp_in_iff.mpr ⟨by decide, by decide⟩) rfl dL_law_992 ?_
  refine zcallVi (pc := 993) (k := 218) (As := [.int (xs 1), .int (xs 2)]) (rest := [.int r3]) ⟨hx, hb, hml, hown, hts⟩ (nw_X12_names l D c o σ (xs 1) (xs 2) hR m0) zc12 zV_L_104 rfl zd_X12_names ⟨Nat.le_of_ble_eq_true rfl, Nat.le_of_ble_eq_true rfl⟩ hK hP hS rfl (by decide) hl.1 rfl (Nat.le_of_ble_eq_true rfl) ⟨Nat.le_of_ble_eq_true rfl, Nat.le_of_ble_eq_true rfl⟩ dL_law_993 (fun r8 σ9 H locs hw10 hP hS => ?_)
  obtain ⟨er8, rfl⟩ := hw10
  refine lv_icmp_eq (pc := 996) (tgt := 1869) hx hb dL_law_996 (by decide) (fun _ => ?_) (fun q9 => absurd (er3.trans er8.symm) q9)
  exact lw_tail l ho C00 hK hS (lv_sub hl [0, 1, 2, 3] rfl)
set_option maxHeartbeats 4000000 in
set_option maxRecDepth 100000 in
theorem lw_case21 {p : Program} {e : Env} {s : State} {m : MethodId} {below : List Frame} {meth : Method} {cd : Code} (l : Launch) {b : Nat} {xs : Nat → Int32} {o : Nat} {D : va_G} {c : zC} (ho : s.heap.size = o) (C0 : lw_At p s m meth cd b 6 xs) (hK : zKt D c s) {σ : zS} (h0 : σ.1 2 0 = 0) (h1 : σ.1 2 1 = 0) (h2 : σ.1 2 2 = 0) (ht : σ.1 0 1 = 0) (hk : σ.1 0 2 = 0) (hp : σ.1 0 3 = (-1)) (hk0 : σ.1 55 0 = 0) (hk1 : σ.1 55 1 = 0) (hk2 : σ.1 55 2 = 0) (hb210 : σ.1 210 2 = (-1)) (hb212 : σ.1 212 2 = (-1)) (hb214 : σ.1 214 2 = (-1)) (hb216 : σ.1 216 2 = (-1)) (m0 : σ.1 219 0 = 0) (m1 : σ.1 219 1 = 0) (m2 : σ.1 219 2 = 0) (mt : σ.1 218 7 = 0) (mk : σ.1 218 14 = 0) (mp : σ.1 218 15 = (-1)) (mh0 : σ.1 223 0 = 0) (mh1 : σ.1 223 1 = 0) (mh2 : σ.1 223 2 = 0) (mm0 : σ.1 239 0 = (-1)) (mm1 : σ.1 239 1 = (-1)) (mm2 : σ.1 239 2 = (-1)) (mm3 : σ.1 239 3 = (-1)) (hR : zRef o σ.2.2) (hN : σ.2.2 0 4 = o + 2) (hSp : σ.2.2 0 5 = o + 28) (hz : ∀ k j, σ.2.1 k j = 0) {H : Heap} {locs : List Loc} {ls : Array Slot} (hP : zP D c o σ H) (hS : va_S (zA o) s.heap H locs) (hl : lv_has ls 4 [(3, .int 0), (2, .ref (o + 218)), (1, .ref (o + 0)), (0, .ref b)]) : W p l e room_1 s m #[Value.ref b] below meth cd H locs 243 106038 (lw_Z below #[Value.ref b] s) (F0 m 1001 ls []) := by
  have C00 := C0
  obtain ⟨hx, hb, hr, hml, hown, hts0, hX0, hbl, hlocks, hgv⟩ := C0
  have hts : ∀ w ∈ zWl, w.before #[Value.ref b] s = true := fun w hw => hts0 w (List.mem_filter.mp hw).1
  have hown : s.vm.findClass RL = some m.cls := hown
  have hbA : ¬ zA o b := by show ¬ o ≤ b; omega
  refine lv_aload_n (pc := 1001) hx hb dL_law_1001 rfl (lv_at hl 2 rfl) ?_
  refine lv_aload_n (pc := 1002) hx hb dL_law_1002 rfl (lv_at hl 3 rfl) ?_
  refine lv_iload_n (pc := 1003) hx hb dL_law_1003 rfl (lv_at hl 0 rfl) ?_
  refine lv_iconst (pc := 1004) (v := 1) hx hb dL_law_1004 (by decide) ?_
  refine lv_iadd (pc := 1005) hx hb dL_law_1005 ?_
  refine lv_topi (pc := 1006) (fun v1 ev1 => ?_)
  obtain rfl : v1 = 1 := ev1.trans (by decide)
  refine zsld (pc := 1006) (k := 1) hx hb hX0 hbl hbA hS (vp_in_iff.mpr ⟨by decide, by decide⟩) rfl dL_law_1006 ?_
  refine lv_aload_n (pc := 1007) hx hb dL_law_1007 rfl (lv_at hl 3 rfl) ?_
  refine lv_iload_n (pc := 1008) hx hb dL_law_1008 rfl (lv_at hl 0 rfl) ?_
  refine lv_iconst (pc := 1009) (v := 2) hx hb dL_law_1009 (by decide) ?_
  refine lv_iadd (pc := 1010) hx hb dL_law_1010 ?_
  refine lv_topi (pc := 1011) (fun v2 ev2 => ?_)
  obtain rfl : v2 = 2 := ev2.trans (by decide)
  refine zsld (pc := 1011) (k := 2) hx hb hX0 hbl hbA hS (vp_in_iff.mpr ⟨by decide, by decide⟩) rfl dL_law_1011 ?_
  refine zcallVi (pc := 1012) (k := 0) (As := [.int (xs 1), .int (xs 2)]) (rest := []) ⟨hx, hb, hml, hown, hts⟩ (nw_X11_draw l D c o σ (xs 1) (xs 2) hR hN h0) zc11 zV_L_105 rfl zd_X11_draw ⟨Nat.le_of_ble_eq_true rfl, Nat.le_of_ble_eq_true rfl⟩ hK hP hS rfl (by decide) hl.1 rfl (Nat.le_of_ble_eq_true rfl) ⟨Nat.le_of_ble_eq_true rfl, Nat.le_of_ble_eq_true rfl⟩ dL_law_1012 (fun r3 σ4 H locs hw5 hP hS => ?_)
  obtain ⟨er3, rfl⟩ := hw5
  refine lv_aload_n (pc := 1015) hx hb dL_law_1015 rfl (lv_at hl 1 rfl) ?_
  refine lv_aload_n (pc := 1016) hx hb dL_law_1016 rfl (lv_at hl 3 rfl) ?_
  refine lv_iload_n (pc := 1017) hx hb dL_law_1017 rfl (lv_at hl 0 rfl) ?_
  refine lv_iconst (pc := 1018) (v := 1) hx hb dL_law_1018 (by decide) ?_
  refine lv_iadd (pc := 1019) hx hb dL_law_1019 ?_
  refine lv_topi (pc := 1020) (fun v6 ev6 => ?_)
  obtain rfl : v6 = 1 := ev6.trans (by decide)
  refine zsld (pc := 1020) (k := 1) hx hb hX0 hbl hbA hS (vp_in_iff.mpr ⟨by decide, by decide⟩) rfl dL_law_1020 ?_
  refine lv_aload_n (pc := 1021) hx hb dL_law_1021 rfl (lv_at hl 3 rfl) ?_
  refine lv_iload_n (pc := 1022) hx hb dL_law_1022 rfl (lv_at hl 0 rfl) ?_
  refine lv_iconst (pc := 1023) (v := 2) hx hb dL_law_1023 (by decide) ?_
  refine lv_iadd (pc := 1024) hx hb dL_law_1024 ?_
  refine lv_topi (pc := 1025) (fun v7 ev7 => ?_)
  obtain rfl : v7 = 2 := ev7.trans (by decide)
  refine zsld (pc := 1025) (k := 2) hx hb hX0 hbl hbA hS (vp_in_iff.mpr ⟨by decide, by decide⟩) rfl dL_law_1025 ?_
  refine zcallVi (pc := 1026) (k := 218) (As := [.int (xs 1), .int (xs 2)]) (rest := [.int r3]) ⟨hx, hb, hml, hown, hts⟩ (nw_X12_draw l D c o σ (xs 1) (xs 2) hR m0) zc12 zV_L_108 rfl zd_X12_draw ⟨Nat.le_of_ble_eq_true rfl, Nat.le_of_ble_eq_true rfl⟩ hK hP hS rfl (by decide) hl.1 rfl (Nat.le_of_ble_eq_true rfl) ⟨Nat.le_of_ble_eq_true rfl, Nat.le_of_ble_eq_true rfl⟩ dL_law_1026 (fun r8 σ9 H locs hw10 hP hS => ?_)
  obtain ⟨er8, rfl⟩ := hw10
  refine lv_icmp_eq (pc := 1029) (tgt := 1869) hx hb dL_law_1029 (by decide) (fun _ => ?_) (fun q9 => absurd (er3.trans er8.symm) q9)
  exact lw_tail l ho C00 hK hS (lv_sub hl [0, 1, 2, 3] rfl)
set_option maxHeartbeats 4000000 in
set_option maxRecDepth 100000 in
theorem lw_case22 {p : Program} {e : Env} {s : State} {m : MethodId} {below : List Frame} {meth : Method} {cd : Code} (l : Launch) {b : Nat} {xs : Nat → Int32} {o : Nat} {D : va_G} {c : zC} (ho : s.heap.size = o) (C0 : lw_At p s m meth cd b 6 xs) (hK : zKt D c s) {σ : zS} (h0 : σ.1 2 0 = 0) (h1 : σ.1 2 1 = 0) (h2 : σ.1 2 2 = 0) (ht : σ.1 0 1 = 0) (hk : σ.1 0 2 = 0) (hp : σ.1 0 3 = (-1)) (hk0 : σ.1 55 0 = 0) (hk1 : σ.1 55 1 = 0) (hk2 : σ.1 55 2 = 0) (hb210 : σ.1 210 2 = (-1)) (hb212 : σ.1 212 2 = (-1)) (hb214 : σ.1 214 2 = (-1)) (hb216 : σ.1 216 2 = (-1)) (m0 : σ.1 219 0 = 0) (m1 : σ.1 219 1 = 0) (m2 : σ.1 219 2 = 0) (mt : σ.1 218 7 = 0) (mk : σ.1 218 14 = 0) (mp : σ.1 218 15 = (-1)) (mh0 : σ.1 223 0 = 0) (mh1 : σ.1 223 1 = 0) (mh2 : σ.1 223 2 = 0) (mm0 : σ.1 239 0 = (-1)) (mm1 : σ.1 239 1 = (-1)) (mm2 : σ.1 239 2 = (-1)) (mm3 : σ.1 239 3 = (-1)) (hR : zRef o σ.2.2) (hN : σ.2.2 0 4 = o + 2) (hSp : σ.2.2 0 5 = o + 28) (hz : ∀ k j, σ.2.1 k j = 0) {H : Heap} {locs : List Loc} {ls : Array Slot} (hP : zP D c o σ H) (hS : va_S (zA o) s.heap H locs) (hl : lv_has ls 4 [(3, .int 0), (2, .ref (o + 218)), (1, .ref (o + 0)), (0, .ref b)]) : W p l e room_1 s m #[Value.ref b] below meth cd H locs 243 106038 (lw_Z below #[Value.ref b] s) (F0 m 1034 ls []) := by
  have C00 := C0
  obtain ⟨hx, hb, hr, hml, hown, hts0, hX0, hbl, hlocks, hgv⟩ := C0
  have hts : ∀ w ∈ zWl, w.before #[Value.ref b] s = true := fun w hw => hts0 w (List.mem_filter.mp hw).1
  have hown : s.vm.findClass RL = some m.cls := hown
  have hbA : ¬ zA o b := by show ¬ o ≤ b; omega
  refine lv_aload_n (pc := 1034) hx hb dL_law_1034 rfl (lv_at hl 2 rfl) ?_
  refine lv_aload_n (pc := 1035) hx hb dL_law_1035 rfl (lv_at hl 3 rfl) ?_
  refine lv_iload_n (pc := 1036) hx hb dL_law_1036 rfl (lv_at hl 0 rfl) ?_
  refine lv_iconst (pc := 1037) (v := 1) hx hb dL_law_1037 (by decide) ?_
  refine lv_iadd (pc := 1038) hx hb dL_law_1038 ?_
  refine lv_topi (pc := 1039) (fun v1 ev1 => ?_)
  obtain rfl : v1 = 1 := ev1.trans (by decide)
  refine zsld (pc := 1039) (k := 1) hx hb hX0 hbl hbA hS (vp_in_iff.mpr ⟨by decide, by decide⟩) rfl dL_law_1039 ?_
  refine lv_aload_n (pc := 1040) hx hb dL_law_1040 rfl (lv_at hl 3 rfl) ?_
  refine lv_iload_n (pc := 1041) hx hb dL_law_1041 rfl (lv_at hl 0 rfl) ?_
  refine lv_iconst (pc := 1042) (v := 2) hx hb dL_law_1042 (by decide) ?_
  refine lv_iadd (pc := 1043) hx hb dL_law_1043 ?_
  refine lv_topi (pc := 1044) (fun v2 ev2 => ?_)
  obtain rfl : v2 = 2 := ev2.trans (by decide)
  refine zsld (pc := 1044) (k := 2) hx hb hX0 hbl hbA hS (vp_in_iff.mpr ⟨by decide, by decide⟩) rfl dL_law_1044 ?_
  refine zcallVi (pc := 1045) (k := 0) (As := [.int (xs 1), .int (xs 2)]) (rest := []) ⟨hx, hb, hml, hown, hts⟩ (nw_X11_alike l D c o σ (xs 1) (xs 2) hR hN h0) zc11 zV_L_109 rfl zd_X11_alike ⟨Nat.le_of_ble_eq_true rfl, Nat.le_of_ble_eq_true rfl⟩ hK hP hS rfl (by decide) hl.1 rfl (Nat.le_of_ble_eq_true rfl) ⟨Nat.le_of_ble_eq_true rfl, Nat.le_of_ble_eq_true rfl⟩ dL_law_1045 (fun r3 σ4 H locs hw5 hP hS => ?_)
  obtain ⟨er3, rfl⟩ := hw5
  refine lv_aload_n (pc := 1048) hx hb dL_law_1048 rfl (lv_at hl 1 rfl) ?_
  refine lv_aload_n (pc := 1049) hx hb dL_law_1049 rfl (lv_at hl 3 rfl) ?_
  refine lv_iload_n (pc := 1050) hx hb dL_law_1050 rfl (lv_at hl 0 rfl) ?_
  refine lv_iconst (pc := 1051) (v := 1) hx hb dL_law_1051 (by decide) ?_
  refine lv_iadd (pc := 1052) hx hb dL_law_1052 ?_
  refine lv_topi (pc := 1053) (fun v6 ev6 => ?_)
  obtain rfl : v6 = 1 := ev6.trans (by decide)
  refine zsld (pc := 1053) (k := 1) hx hb hX0 hbl hbA hS (vp_in_iff.mpr ⟨by decide, by decide⟩) rfl dL_law_1053 ?_
  refine lv_aload_n (pc := 1054) hx hb dL_law_1054 rfl (lv_at hl 3 rfl) ?_
  refine lv_iload_n (pc := 1055) hx hb dL_law_1055 rfl (lv_at hl 0 rfl) ?_
  refine lv_iconst (pc := 1056) (v := 2) hx hb dL_law_1056 (by decide) ?_
  refine lv_iadd (pc := 1057) hx hb dL_law_1057 ?_
  refine lv_topi (pc := 1058) (fun v7 ev7 => ?_)
  obtain rfl : v7 = 2 := ev7.trans (by decide)
  refine zsld (pc := 1058) (k := 2) hx hb hX0 hbl hbA hS (vp_in_iff.mpr ⟨by decide, by decide⟩) rfl dL_law_1058 ?_
  refine zcallVi (pc := 1059) (k := 218) (As := [.int (xs 1), .int (xs 2)]) (rest := [.int r3]) ⟨hx, hb, hml, hown, hts⟩ (nw_X12_alike l D c o σ (xs 1) (xs 2) hR m0) zc12 zV_L_112 rfl zd_X12_alike ⟨Nat.le_of_ble_eq_true rfl, Nat.le_of_ble_eq_true rfl⟩ hK hP hS rfl (by decide) hl.1 rfl (Nat.le_of_ble_eq_true rfl) ⟨Nat.le_of_ble_eq_true rfl, Nat.le_of_ble_eq_true rfl⟩ dL_law_1059 (fun r8 σ9 H locs hw10 hP hS => ?_)
  obtain ⟨er8, rfl⟩ := hw10
  refine lv_icmp_eq (pc := 1062) (tgt := 1869) hx hb dL_law_1062 (by decide) (fun _ => ?_) (fun q9 => absurd (er3.trans er8.symm) q9)
  exact lw_tail l ho C00 hK hS (lv_sub hl [0, 1, 2, 3] rfl)
set_option maxHeartbeats 4000000 in
set_option maxRecDepth 100000 in
theorem lw_case23 {p : Program} {e : Env} {s : State} {m : MethodId} {below : List Frame} {meth : Method} {cd : Code} (l : Launch) {b : Nat} {xs : Nat → Int32} {o : Nat} {D : va_G} {c : zC} (ho : s.heap.size = o) (C0 : lw_At p s m meth cd b 6 xs) (hK : zKt D c s) {σ : zS} (h0 : σ.1 2 0 = 0) (h1 : σ.1 2 1 = 0) (h2 : σ.1 2 2 = 0) (ht : σ.1 0 1 = 0) (hk : σ.1 0 2 = 0) (hp : σ.1 0 3 = (-1)) (hk0 : σ.1 55 0 = 0) (hk1 : σ.1 55 1 = 0) (hk2 : σ.1 55 2 = 0) (hb210 : σ.1 210 2 = (-1)) (hb212 : σ.1 212 2 = (-1)) (hb214 : σ.1 214 2 = (-1)) (hb216 : σ.1 216 2 = (-1)) (m0 : σ.1 219 0 = 0) (m1 : σ.1 219 1 = 0) (m2 : σ.1 219 2 = 0) (mt : σ.1 218 7 = 0) (mk : σ.1 218 14 = 0) (mp : σ.1 218 15 = (-1)) (mh0 : σ.1 223 0 = 0) (mh1 : σ.1 223 1 = 0) (mh2 : σ.1 223 2 = 0) (mm0 : σ.1 239 0 = (-1)) (mm1 : σ.1 239 1 = (-1)) (mm2 : σ.1 239 2 = (-1)) (mm3 : σ.1 239 3 = (-1)) (hR : zRef o σ.2.2) (hN : σ.2.2 0 4 = o + 2) (hSp : σ.2.2 0 5 = o + 28) (hz : ∀ k j, σ.2.1 k j = 0) {H : Heap} {locs : List Loc} {ls : Array Slot} (hP : zP D c o σ H) (hS : va_S (zA o) s.heap H locs) (hl : lv_has ls 4 [(3, .int 0), (2, .ref (o + 218)), (1, .ref (o + 0)), (0, .ref b)]) : W p l e room_1 s m #[Value.ref b] below meth cd H locs 243 106038 (lw_Z below #[Value.ref b] s) (F0 m 1067 ls []) := by
  have C00 := C0
  obtain ⟨hx, hb, hr, hml, hown, hts0, hX0, hbl, hlocks, hgv⟩ := C0
  have hts : ∀ w ∈ zWl, w.before #[Value.ref b] s = true := fun w hw => hts0 w (List.mem_filter.mp hw).1
  have hown : s.vm.findClass RL = some m.cls := hown
  have hbA : ¬ zA o b := by show ¬ o ≤ b; omega
  refine lv_aload_n (pc := 1067) hx hb dL_law_1067 rfl (lv_at hl 2 rfl) ?_
  refine lv_aload_n (pc := 1068) hx hb dL_law_1068 rfl (lv_at hl 3 rfl) ?_
  refine lv_iload_n (pc := 1069) hx hb dL_law_1069 rfl (lv_at hl 0 rfl) ?_
  refine lv_iconst (pc := 1070) (v := 1) hx hb dL_law_1070 (by decide) ?_
  refine lv_iadd (pc := 1071) hx hb dL_law_1071 ?_
  refine lv_topi (pc := 1072) (fun v1 ev1 => ?_)
  obtain rfl : v1 = 1 := ev1.trans (by decide)
  refine zsld (pc := 1072) (k := 1) hx hb hX0 hbl hbA hS (vp_in_iff.mpr ⟨by decide, by decide⟩) rfl dL_law_1072 ?_
  refine lv_aload_n (pc := 1073) hx hb dL_law_1073 rfl (lv_at hl 3 rfl) ?_
  refine lv_iload_n (pc := 1074) hx hb dL_law_1074 rfl (lv_at hl 0 rfl) ?_
  refine lv_iconst (pc := 1075) (v := 2) hx hb dL_law_1075 (by decide) ?_
  refine lv_iadd (pc := 1076) hx hb dL_law_1076 ?_
  refine lv_topi (pc := 1077) (fun v2 ev2 => ?_)
  obtain rfl : v2 = 2 := ev2.trans (by decide)
  refine zsld (pc := 1077) (k := 2) hx hb hX0 hbl hbA hS (vp_in_iff.mpr ⟨by decide, by decide⟩) rfl dL_law_1077 ?_
  refine zcallVi (pc := 1078) (k := 0) (As := [.int (xs 1), .int (xs 2)]) (rest := []) ⟨hx, hb, hml, hown, hts⟩ (nw_X11_differ l D c o σ (xs 1) (xs 2) hR hN h0) zc11 zV_L_113 rfl zd_X11_differ ⟨Nat.le_of_ble_eq_true rfl, Nat.le_of_ble_eq_true rfl⟩ hK hP hS rfl (by decide) hl.1 rfl (Nat.le_of_ble_eq_true rfl) ⟨Nat.le_of_ble_eq_true rfl, Nat.le_of_ble_eq_true rfl⟩ dL_law_1078 (fun r3 σ4 H locs hw5 hP hS => ?_)
  obtain ⟨er3, rfl⟩ := hw5
  refine lv_aload_n (pc := 1081) hx hb dL_law_1081 rfl (lv_at hl 1 rfl) ?_
  refine lv_aload_n (pc := 1082) hx hb dL_law_1082 rfl (lv_at hl 3 rfl) ?_
  refine lv_iload_n (pc := 1083) hx hb dL_law_1083 rfl (lv_at hl 0 rfl) ?_
  refine lv_iconst (pc := 1084) (v := 1) hx hb dL_law_1084 (by decide) ?_
  refine lv_iadd (pc := 1085) hx hb dL_law_1085 ?_
  refine lv_topi (pc := 1086) (fun v6 ev6 => ?_)
  obtain rfl : v6 = 1 := ev6.trans (by decide)
  refine zsld (pc := 1086) (k := 1) hx hb hX0 hbl hbA hS (vp_in_iff.mpr ⟨by decide, by decide⟩) rfl dL_law_1086 ?_
  refine lv_aload_n (pc := 1087) hx hb dL_law_1087 rfl (lv_at hl 3 rfl) ?_
  refine lv_iload_n (pc := 1088) hx hb dL_law_1088 rfl (lv_at hl 0 rfl) ?_
  refine lv_iconst (pc := 1089) (v := 2) hx hb dL_law_1089 (by decide) ?_
  refine lv_iadd (pc := 1090) hx hb dL_law_1090 ?_
  refine lv_topi (pc := 1091) (fun v7 ev7 => ?_)
  obtain rfl : v7 = 2 := ev7.trans (by decide)
  refine zsld (pc := 1091) (k := 2) hx hb hX0 hbl hbA hS (vp_in_iff.mpr ⟨by decide, by decide⟩) rfl dL_law_1091 ?_
  refine zcallVi (pc := 1092) (k := 218) (As := [.int (xs 1), .int (xs 2)]) (rest := [.int r3]) ⟨hx, hb, hml, hown, hts⟩ (nw_X12_differ l D c o σ (xs 1) (xs 2) hR m0) zc12 zV_L_116 rfl zd_X12_differ ⟨Nat.le_of_ble_eq_true rfl, Nat.le_of_ble_eq_true rfl⟩ hK hP hS rfl (by decide) hl.1 rfl (Nat.le_of_ble_eq_true rfl) ⟨Nat.le_of_ble_eq_true rfl, Nat.le_of_ble_eq_true rfl⟩ dL_law_1092 (fun r8 σ9 H locs hw10 hP hS => ?_)
  obtain ⟨er8, rfl⟩ := hw10
  refine lv_icmp_eq (pc := 1095) (tgt := 1869) hx hb dL_law_1095 (by decide) (fun _ => ?_) (fun q9 => absurd (er3.trans er8.symm) q9)
  exact lw_tail l ho C00 hK hS (lv_sub hl [0, 1, 2, 3] rfl)
set_option maxHeartbeats 4000000 in
set_option maxRecDepth 100000 in
theorem lw_case24 {p : Program} {e : Env} {s : State} {m : MethodId} {below : List Frame} {meth : Method} {cd : Code} (l : Launch) {b : Nat} {xs : Nat → Int32} {o : Nat} {D : va_G} {c : zC} (ho : s.heap.size = o) (C0 : lw_At p s m meth cd b 6 xs) (hK : zKt D c s) {σ : zS} (h0 : σ.1 2 0 = 0) (h1 : σ.1 2 1 = 0) (h2 : σ.1 2 2 = 0) (ht : σ.1 0 1 = 0) (hk : σ.1 0 2 = 0) (hp : σ.1 0 3 = (-1)) (hk0 : σ.1 55 0 = 0) (hk1 : σ.1 55 1 = 0) (hk2 : σ.1 55 2 = 0) (hb210 : σ.1 210 2 = (-1)) (hb212 : σ.1 212 2 = (-1)) (hb214 : σ.1 214 2 = (-1)) (hb216 : σ.1 216 2 = (-1)) (m0 : σ.1 219 0 = 0) (m1 : σ.1 219 1 = 0) (m2 : σ.1 219 2 = 0) (mt : σ.1 218 7 = 0) (mk : σ.1 218 14 = 0) (mp : σ.1 218 15 = (-1)) (mh0 : σ.1 223 0 = 0) (mh1 : σ.1 223 1 = 0) (mh2 : σ.1 223 2 = 0) (mm0 : σ.1 239 0 = (-1)) (mm1 : σ.1 239 1 = (-1)) (mm2 : σ.1 239 2 = (-1)) (mm3 : σ.1 239 3 = (-1)) (hR : zRef o σ.2.2) (hN : σ.2.2 0 4 = o + 2) (hSp : σ.2.2 0 5 = o + 28) (hz : ∀ k j, σ.2.1 k j = 0) {H : Heap} {locs : List Loc} {ls : Array Slot} (hP : zP D c o σ H) (hS : va_S (zA o) s.heap H locs) (hl : lv_has ls 4 [(3, .int 0), (2, .ref (o + 218)), (1, .ref (o + 0)), (0, .ref b)]) : W p l e room_1 s m #[Value.ref b] below meth cd H locs 243 106038 (lw_Z below #[Value.ref b] s) (F0 m 1100 ls []) := by
  have C00 := C0
  obtain ⟨hx, hb, hr, hml, hown, hts0, hX0, hbl, hlocks, hgv⟩ := C0
  have hts : ∀ w ∈ zWl, w.before #[Value.ref b] s = true := fun w hw => hts0 w (List.mem_filter.mp hw).1
  have hown : s.vm.findClass RL = some m.cls := hown
  have hbA : ¬ zA o b := by show ¬ o ≤ b; omega
  refine lv_aload_n (pc := 1100) hx hb dL_law_1100 rfl (lv_at hl 2 rfl) ?_
  refine lv_aload_n (pc := 1101) hx hb dL_law_1101 rfl (lv_at hl 3 rfl) ?_
  refine lv_iload_n (pc := 1102) hx hb dL_law_1102 rfl (lv_at hl 0 rfl) ?_
  refine lv_iconst (pc := 1103) (v := 1) hx hb dL_law_1103 (by decide) ?_
  refine lv_iadd (pc := 1104) hx hb dL_law_1104 ?_
  refine lv_topi (pc := 1105) (fun v1 ev1 => ?_)
  obtain rfl : v1 = 1 := ev1.trans (by decide)
  refine zsld (pc := 1105) (k := 1) hx hb hX0 hbl hbA hS (vp_in_iff.mpr ⟨by decide, by decide⟩) rfl dL_law_1105 ?_
  refine lv_aload_n (pc := 1106) hx hb dL_law_1106 rfl (lv_at hl 3 rfl) ?_
  refine lv_iload_n (pc := 1107) hx hb dL_law_1107 rfl (lv_at hl 0 rfl) ?_
  refine lv_iconst (pc := 1108) (v := 2) hx hb dL_law_1108 (by decide) ?_
  refine lv_iadd (pc := 1109) hx hb dL_law_1109 ?_
  refine lv_topi (pc := 1110) (fun v2 ev2 => ?_)
  obtain rfl : v2 = 2 := ev2.trans (by decide)
  refine zsld (pc := 1110) (k := 2) hx hb hX0 hbl hbA hS (vp_in_iff.mpr ⟨by decide, by decide⟩) rfl dL_law_1110 ?_
  refine zcallVi (pc := 1111) (k := 0) (As := [.int (xs 1), .int (xs 2)]) (rest := []) ⟨hx, hb, hml, hown, hts⟩ (nw_X11_within l D c o σ (xs 1) (xs 2) hR hN h0) zc11 zV_L_117 rfl zd_X11_within ⟨Nat.le_of_ble_eq_true rfl, Nat.le_of_ble_eq_true rfl⟩ hK hP hS rfl (by decide) hl.1 rfl (Nat.le_of_ble_eq_true rfl) ⟨Nat.le_of_ble_eq_true rfl, Nat.le_of_ble_eq_true rfl⟩ dL_law_1111 (fun r3 σ4 H locs hw5 hP hS => ?_)
  obtain ⟨er3, rfl⟩ := hw5
  refine lv_aload_n (pc := 1114) hx hb dL_law_1114 rfl (lv_at hl 1 rfl) ?_
  refine lv_aload_n (pc := 1115) hx hb dL_law_1115 rfl (lv_at hl 3 rfl) ?_
  refine lv_iload_n (pc := 1116) hx hb dL_law_1116 rfl (lv_at hl 0 rfl) ?_
  refine lv_iconst (pc := 1117) (v := 1) hx hb dL_law_1117 (by decide) ?_
  refine lv_iadd (pc := 1118) hx hb dL_law_1118 ?_
  refine lv_topi (pc := 1119) (fun v6 ev6 => ?_)
  obtain rfl : v6 = 1 := ev6.trans (by decide)
  refine zsld (pc := 1119) (k := 1) hx hb hX0 hbl hbA hS (vp_in_iff.mpr ⟨by decide, by decide⟩) rfl dL_law_1119 ?_
  refine lv_aload_n (pc := 1120) hx hb dL_law_1120 rfl (lv_at hl 3 rfl) ?_
  refine lv_iload_n (pc := 1121) hx hb dL_law_1121 rfl (lv_at hl 0 rfl) ?_
  refine lv_iconst (pc := 1122) (v := 2) hx hb dL_law_1122 (by decide) ?_
  refine lv_iadd (pc := 1123) hx hb dL_law_1123 ?_
  refine lv_topi (pc := 1124) (fun v7 ev7 => ?_)
  obtain rfl : v7 = 2 := ev7.trans (by decide)
  refine zsld (pc := 1124) (k := 2) hx hb hX0 hbl hbA hS (vp_in_iff.mpr ⟨by decide, by decide⟩) rfl dL_law_1124 ?_
  refine zcallVi (pc := 1125) (k := 218) (As := [.int (xs 1), .int (xs 2)]) (rest := [.int r3]) ⟨hx, hb, hml, hown, hts⟩ (nw_X12_within l D c o σ (xs 1) (xs 2) hR m0) zc12 zV_L_120 rfl zd_X12_within ⟨Nat.le_of_ble_eq_true rfl, Nat.le_of_ble_eq_true rfl⟩ hK hP hS rfl (by decide) hl.1 rfl (Nat.le_of_ble_eq_true rfl) ⟨Nat.le_of_ble_eq_true rfl, Nat.le_of_ble_eq_true rfl⟩ dL_law_1125 (fun r8 σ9 H locs hw10 hP hS => ?_)
  obtain ⟨er8, rfl⟩ := hw10
  refine lv_icmp_eq (pc := 1128) (tgt := 1869) hx hb dL_law_1128 (by decide) (fun _ => ?_) (fun q9 => absurd (er3.trans er8.symm) q9)
  exact lw_tail l ho C00 hK hS (lv_sub hl [0, 1, 2, 3] rfl)
set_option maxHeartbeats 4000000 in
set_option maxRecDepth 100000 in
theorem lw_case25 {p : Program} {e : Env} {s : State} {m : MethodId} {below : List Frame} {meth : Method} {cd : Code} (l : Launch) {b : Nat} {xs : Nat → Int32} {o : Nat} {D : va_G} {c : zC} (ho : s.heap.size = o) (C0 : lw_At p s m meth cd b 6 xs) (hK : zKt D c s) {σ : zS} (h0 : σ.1 2 0 = 0) (h1 : σ.1 2 1 = 0) (h2 : σ.1 2 2 = 0) (ht : σ.1 0 1 = 0) (hk : σ.1 0 2 = 0) (hp : σ.1 0 3 = (-1)) (hk0 : σ.1 55 0 = 0) (hk1 : σ.1 55 1 = 0) (hk2 : σ.1 55 2 = 0) (hb210 : σ.1 210 2 = (-1)) (hb212 : σ.1 212 2 = (-1)) (hb214 : σ.1 214 2 = (-1)) (hb216 : σ.1 216 2 = (-1)) (m0 : σ.1 219 0 = 0) (m1 : σ.1 219 1 = 0) (m2 : σ.1 219 2 = 0) (mt : σ.1 218 7 = 0) (mk : σ.1 218 14 = 0) (mp : σ.1 218 15 = (-1)) (mh0 : σ.1 223 0 = 0) (mh1 : σ.1 223 1 = 0) (mh2 : σ.1 223 2 = 0) (mm0 : σ.1 239 0 = (-1)) (mm1 : σ.1 239 1 = (-1)) (mm2 : σ.1 239 2 = (-1)) (mm3 : σ.1 239 3 = (-1)) (hR : zRef o σ.2.2) (hN : σ.2.2 0 4 = o + 2) (hSp : σ.2.2 0 5 = o + 28) (hz : ∀ k j, σ.2.1 k j = 0) {H : Heap} {locs : List Loc} {ls : Array Slot} (hP : zP D c o σ H) (hS : va_S (zA o) s.heap H locs) (hl : lv_has ls 4 [(3, .int 0), (2, .ref (o + 218)), (1, .ref (o + 0)), (0, .ref b)]) : W p l e room_1 s m #[Value.ref b] below meth cd H locs 243 106038 (lw_Z below #[Value.ref b] s) (F0 m 1133 ls []) := by
  have C00 := C0
  obtain ⟨hx, hb, hr, hml, hown, hts0, hX0, hbl, hlocks, hgv⟩ := C0
  have hts : ∀ w ∈ zWl, w.before #[Value.ref b] s = true := fun w hw => hts0 w (List.mem_filter.mp hw).1
  have hown : s.vm.findClass RL = some m.cls := hown
  have hbA : ¬ zA o b := by show ¬ o ≤ b; omega
  refine lv_aload_n (pc := 1133) hx hb dL_law_1133 rfl (lv_at hl 2 rfl) ?_
  refine lv_aload_n (pc := 1134) hx hb dL_law_1134 rfl (lv_at hl 3 rfl) ?_
  refine lv_iload_n (pc := 1135) hx hb dL_law_1135 rfl (lv_at hl 0 rfl) ?_
  refine lv_iconst (pc := 1136) (v := 1) hx hb dL_law_1136 (by decide) ?_
  refine lv_iadd (pc := 1137) hx hb dL_law_1137 ?_
  refine lv_topi (pc := 1138) (fun v1 ev1 => ?_)
  obtain rfl : v1 = 1 := ev1.trans (by decide)
  refine zsld (pc := 1138) (k := 1) hx hb hX0 hbl hbA hS (vp_in_iff.mpr ⟨by decide, by decide⟩) rfl dL_law_1138 ?_
  refine lv_aload_n (pc := 1139) hx hb dL_law_1139 rfl (lv_at hl 3 rfl) ?_
  refine lv_iload_n (pc := 1140) hx hb dL_law_1140 rfl (lv_at hl 0 rfl) ?_
  refine lv_iconst (pc := 1141) (v := 2) hx hb dL_law_1141 (by decide) ?_
  refine lv_iadd (pc := 1142) hx hb dL_law_1142 ?_
  refine lv_topi (pc := 1143) (fun v2 ev2 => ?_)
  obtain rfl : v2 = 2 := ev2.trans (by decide)
  refine zsld (pc := 1143) (k := 2) hx hb hX0 hbl hbA hS (vp_in_iff.mpr ⟨by decide, by decide⟩) rfl dL_law_1143 ?_
  refine zcallVi (pc := 1144) (k := 0) (As := [.int (xs 1), .int (xs 2)]) (rest := []) ⟨hx, hb, hml, hown, hts⟩ (nw_X11_dual l D c o σ (xs 1) (xs 2) hR hN h0) zc11 zV_L_121 rfl zd_X11_dual ⟨Nat.le_of_ble_eq_true rfl, Nat.le_of_ble_eq_true rfl⟩ hK hP hS rfl (by decide) hl.1 rfl (Nat.le_of_ble_eq_true rfl) ⟨Nat.le_of_ble_eq_true rfl, Nat.le_of_ble_eq_true rfl⟩ dL_law_1144 (fun r3 σ4 H locs hw5 hP hS => ?_)
  obtain ⟨er3, rfl⟩ := hw5
  refine lv_aload_n (pc := 1147) hx hb dL_law_1147 rfl (lv_at hl 1 rfl) ?_
  refine lv_aload_n (pc := 1148) hx hb dL_law_1148 rfl (lv_at hl 3 rfl) ?_
  refine lv_iload_n (pc := 1149) hx hb dL_law_1149 rfl (lv_at hl 0 rfl) ?_
  refine lv_iconst (pc := 1150) (v := 1) hx hb dL_law_1150 (by decide) ?_
  refine lv_iadd (pc := 1151) hx hb dL_law_1151 ?_
  refine lv_topi (pc := 1152) (fun v6 ev6 => ?_)
  obtain rfl : v6 = 1 := ev6.trans (by decide)
  refine zsld (pc := 1152) (k := 1) hx hb hX0 hbl hbA hS (vp_in_iff.mpr ⟨by decide, by decide⟩) rfl dL_law_1152 ?_
  refine lv_aload_n (pc := 1153) hx hb dL_law_1153 rfl (lv_at hl 3 rfl) ?_
  refine lv_iload_n (pc := 1154) hx hb dL_law_1154 rfl (lv_at hl 0 rfl) ?_
  refine lv_iconst (pc := 1155) (v := 2) hx hb dL_law_1155 (by decide) ?_
  refine lv_iadd (pc := 1156) hx hb dL_law_1156 ?_
  refine lv_topi (pc := 1157) (fun v7 ev7 => ?_)
  obtain rfl : v7 = 2 := ev7.trans (by decide)
  refine zsld (pc := 1157) (k := 2) hx hb hX0 hbl hbA hS (vp_in_iff.mpr ⟨by decide, by decide⟩) rfl dL_law_1157 ?_
  refine zcallVi (pc := 1158) (k := 218) (As := [.int (xs 1), .int (xs 2)]) (rest := [.int r3]) ⟨hx, hb, hml, hown, hts⟩ (nw_X12_dual l D c o σ (xs 1) (xs 2) hR m0) zc12 zV_L_124 rfl zd_X12_dual ⟨Nat.le_of_ble_eq_true rfl, Nat.le_of_ble_eq_true rfl⟩ hK hP hS rfl (by decide) hl.1 rfl (Nat.le_of_ble_eq_true rfl) ⟨Nat.le_of_ble_eq_true rfl, Nat.le_of_ble_eq_true rfl⟩ dL_law_1158 (fun r8 σ9 H locs hw10 hP hS => ?_)
  obtain ⟨er8, rfl⟩ := hw10
  refine lv_icmp_eq (pc := 1161) (tgt := 1869) hx hb dL_law_1161 (by decide) (fun _ => ?_) (fun q9 => absurd (er3.trans er8.symm) q9)
  exact lw_tail l ho C00 hK hS (lv_sub hl [0, 1, 2, 3] rfl)
set_option maxHeartbeats 4000000 in
set_option maxRecDepth 100000 in
theorem lw_case26 {p : Program} {e : Env} {s : State} {m : MethodId} {below : List Frame} {meth : Method} {cd : Code} (l : Launch) {b : Nat} {xs : Nat → Int32} {o : Nat} {D : va_G} {c : zC} (ho : s.heap.size = o) (C0 : lw_At p s m meth cd b 6 xs) (hK : zKt D c s) {σ : zS} (h0 : σ.1 2 0 = 0) (h1 : σ.1 2 1 = 0) (h2 : σ.1 2 2 = 0) (ht : σ.1 0 1 = 0) (hk : σ.1 0 2 = 0) (hp : σ.1 0 3 = (-1)) (hk0 : σ.1 55 0 = 0) (hk1 : σ.1 55 1 = 0) (hk2 : σ.1 55 2 = 0) (hb210 : σ.1 210 2 = (-1)) (hb212 : σ.1 212 2 = (-1)) (hb214 : σ.1 214 2 = (-1)) (hb216 : σ.1 216 2 = (-1)) (m0 : σ.1 219 0 = 0) (m1 : σ.1 219 1 = 0) (m2 : σ.1 219 2 = 0) (mt : σ.1 218 7 = 0) (mk : σ.1 218 14 = 0) (mp : σ.1 218 15 = (-1)) (mh0 : σ.1 223 0 = 0) (mh1 : σ.1 223 1 = 0) (mh2 : σ.1 223 2 = 0) (mm0 : σ.1 239 0 = (-1)) (mm1 : σ.1 239 1 = (-1)) (mm2 : σ.1 239 2 = (-1)) (mm3 : σ.1 239 3 = (-1)) (hR : zRef o σ.2.2) (hN : σ.2.2 0 4 = o + 2) (hSp : σ.2.2 0 5 = o + 28) (hz : ∀ k j, σ.2.1 k j = 0) {H : Heap} {locs : List Loc} {ls : Array Slot} (hP : zP D c o σ H) (hS : va_S (zA o) s.heap H locs) (hl : lv_has ls 4 [(3, .int 0), (2, .ref (o + 218)), (1, .ref (o + 0)), (0, .ref b)]) : W p l e room_1 s m #[Value.ref b] below meth cd H locs 243 106038 (lw_Z below #[Value.ref b] s) (F0 m 1166 ls []) := by
  have C00 := C0
  obtain ⟨hx, hb, hr, hml, hown, hts0, hX0, hbl, hlocks, hgv⟩ := C0
  have hts : ∀ w ∈ zWl, w.before #[Value.ref b] s = true := fun w hw => hts0 w (List.mem_filter.mp hw).1
  have hown : s.vm.findClass RL = some m.cls := hown
  have hbA : ¬ zA o b := by show ¬ o ≤ b; omega
  refine lv_aload_n (pc := 1166) hx hb dL_law_1166 rfl (lv_at hl 2 rfl) ?_
  refine lv_aload_n (pc := 1167) hx hb dL_law_1167 rfl (lv_at hl 3 rfl) ?_
  refine lv_iload_n (pc := 1168) hx hb dL_law_1168 rfl (lv_at hl 0 rfl) ?_
  refine lv_iconst (pc := 1169) (v := 1) hx hb dL_law_1169 (by decide) ?_
  refine lv_iadd (pc := 1170) hx hb dL_law_1170 ?_
  refine lv_topi (pc := 1171) (fun v1 ev1 => ?_)
  obtain rfl : v1 = 1 := ev1.trans (by decide)
  refine zsld (pc := 1171) (k := 1) hx hb hX0 hbl hbA hS (vp_in_iff.mpr ⟨by decide, by decide⟩) rfl dL_law_1171 ?_
  refine lv_aload_n (pc := 1172) hx hb dL_law_1172 rfl (lv_at hl 3 rfl) ?_
  refine lv_iload_n (pc := 1173) hx hb dL_law_1173 rfl (lv_at hl 0 rfl) ?_
  refine lv_iconst (pc := 1174) (v := 2) hx hb dL_law_1174 (by decide) ?_
  refine lv_iadd (pc := 1175) hx hb dL_law_1175 ?_
  refine lv_topi (pc := 1176) (fun v2 ev2 => ?_)
  obtain rfl : v2 = 2 := ev2.trans (by decide)
  refine zsld (pc := 1176) (k := 2) hx hb hX0 hbl hbA hS (vp_in_iff.mpr ⟨by decide, by decide⟩) rfl dL_law_1176 ?_
  refine zcallVi (pc := 1177) (k := 0) (As := [.int (xs 1), .int (xs 2)]) (rest := []) ⟨hx, hb, hml, hown, hts⟩ (nw_X11_apart l D c o σ (xs 1) (xs 2) hR hN h0) zc11 zV_L_125 rfl zd_X11_apart ⟨Nat.le_of_ble_eq_true rfl, Nat.le_of_ble_eq_true rfl⟩ hK hP hS rfl (by decide) hl.1 rfl (Nat.le_of_ble_eq_true rfl) ⟨Nat.le_of_ble_eq_true rfl, Nat.le_of_ble_eq_true rfl⟩ dL_law_1177 (fun r3 σ4 H locs hw5 hP hS => ?_)
  obtain ⟨er3, rfl⟩ := hw5
  refine lv_aload_n (pc := 1180) hx hb dL_law_1180 rfl (lv_at hl 1 rfl) ?_
  refine lv_aload_n (pc := 1181) hx hb dL_law_1181 rfl (lv_at hl 3 rfl) ?_
  refine lv_iload_n (pc := 1182) hx hb dL_law_1182 rfl (lv_at hl 0 rfl) ?_
  refine lv_iconst (pc := 1183) (v := 1) hx hb dL_law_1183 (by decide) ?_
  refine lv_iadd (pc := 1184) hx hb dL_law_1184 ?_
  refine lv_topi (pc := 1185) (fun v6 ev6 => ?_)
  obtain rfl : v6 = 1 := ev6.trans (by decide)
  refine zsld (pc := 1185) (k := 1) hx hb hX0 hbl hbA hS (vp_in_iff.mpr ⟨by decide, by decide⟩) rfl dL_law_1185 ?_
  refine lv_aload_n (pc := 1186) hx hb dL_law_1186 rfl (lv_at hl 3 rfl) ?_
  refine lv_iload_n (pc := 1187) hx hb dL_law_1187 rfl (lv_at hl 0 rfl) ?_
  refine lv_iconst (pc := 1188) (v := 2) hx hb dL_law_1188 (by decide) ?_
  refine lv_iadd (pc := 1189) hx hb dL_law_1189 ?_
  refine lv_topi (pc := 1190) (fun v7 ev7 => ?_)
  obtain rfl : v7 = 2 := ev7.trans (by decide)
  refine zsld (pc := 1190) (k := 2) hx hb hX0 hbl hbA hS (vp_in_iff.mpr ⟨by decide, by decide⟩) rfl dL_law_1190 ?_
  refine zcallVi (pc := 1191) (k := 218) (As := [.int (xs 1), .int (xs 2)]) (rest := [.int r3]) ⟨hx, hb, hml, hown, hts⟩ (nw_X12_apart l D c o σ (xs 1) (xs 2) hR m0) zc12 zV_L_128 rfl zd_X12_apart ⟨Nat.le_of_ble_eq_true rfl, Nat.le_of_ble_eq_true rfl⟩ hK hP hS rfl (by decide) hl.1 rfl (Nat.le_of_ble_eq_true rfl) ⟨Nat.le_of_ble_eq_true rfl, Nat.le_of_ble_eq_true rfl⟩ dL_law_1191 (fun r8 σ9 H locs hw10 hP hS => ?_)
  obtain ⟨er8, rfl⟩ := hw10
  refine lv_icmp_eq (pc := 1194) (tgt := 1869) hx hb dL_law_1194 (by decide) (fun _ => ?_) (fun q9 => absurd (er3.trans er8.symm) q9)
  exact lw_tail l ho C00 hK hS (lv_sub hl [0, 1, 2, 3] rfl)
set_option maxHeartbeats 4000000 in
set_option maxRecDepth 100000 in
theorem lw_case27 {p : Program} {e : Env} {s : State} {m : MethodId} {below : List Frame} {meth : Method} {cd : Code} (l : Launch) {b : Nat} {xs : Nat → Int32} {o : Nat} {D : va_G} {c : zC} (ho : s.heap.size = o) (C0 : lw_At p s m meth cd b 6 xs) (hK : zKt D c s) {σ : zS} (h0 : σ.1 2 0 = 0) (h1 : σ.1 2 1 = 0) (h2 : σ.1 2 2 = 0) (ht : σ.1 0 1 = 0) (hk : σ.1 0 2 = 0) (hp : σ.1 0 3 = (-1)) (hk0 : σ.1 55 0 = 0) (hk1 : σ.1 55 1 = 0) (hk2 : σ.1 55 2 = 0) (hb210 : σ.1 210 2 = (-1)) (hb212 : σ.1 212 2 = (-1)) (hb214 : σ.1 214 2 = (-1)) (hb216 : σ.1 216 2 = (-1)) (m0 : σ.1 219 0 = 0) (m1 : σ.1 219 1 = 0) (m2 : σ.1 219 2 = 0) (mt : σ.1 218 7 = 0) (mk : σ.1 218 14 = 0) (mp : σ.1 218 15 = (-1)) (mh0 : σ.1 223 0 = 0) (mh1 : σ.1 223 1 = 0) (mh2 : σ.1 223 2 = 0) (mm0 : σ.1 239 0 = (-1)) (mm1 : σ.1 239 1 = (-1)) (mm2 : σ.1 239 2 = (-1)) (mm3 : σ.1 239 3 = (-1)) (hR : zRef o σ.2.2) (hN : σ.2.2 0 4 = o + 2) (hSp : σ.2.2 0 5 = o + 28) (hz : ∀ k j, σ.2.1 k j = 0) {H : Heap} {locs : List Loc} {ls : Array Slot} (hP : zP D c o σ H) (hS : va_S (zA o) s.heap H locs) (hl : lv_has ls 4 [(3, .int 0), (2, .ref (o + 218)), (1, .ref (o + 0)), (0, .ref b)]) : W p l e room_1 s m #[Value.ref b] below meth cd H locs 243 106038 (lw_Z below #[Value.ref b] s) (F0 m 1199 ls []) := by
  have C00 := C0
  obtain ⟨hx, hb, hr, hml, hown, hts0, hX0, hbl, hlocks, hgv⟩ := C0
  have hts : ∀ w ∈ zWl, w.before #[Value.ref b] s = true := fun w hw => hts0 w (List.mem_filter.mp hw).1
  have hown : s.vm.findClass RL = some m.cls := hown
  have hbA : ¬ zA o b := by show ¬ o ≤ b; omega
  refine lv_aload_n (pc := 1199) hx hb dL_law_1199 rfl (lv_at hl 2 rfl) ?_
  refine lv_aload_n (pc := 1200) hx hb dL_law_1200 rfl (lv_at hl 3 rfl) ?_
  refine lv_iload_n (pc := 1201) hx hb dL_law_1201 rfl (lv_at hl 0 rfl) ?_
  refine lv_iconst (pc := 1202) (v := 1) hx hb dL_law_1202 (by decide) ?_
  refine lv_iadd (pc := 1203) hx hb dL_law_1203 ?_
  refine lv_topi (pc := 1204) (fun v1 ev1 => ?_)
  obtain rfl : v1 = 1 := ev1.trans (by decide)
  refine zsld (pc := 1204) (k := 1) hx hb hX0 hbl hbA hS (vp_in_iff.mpr ⟨by decide, by decide⟩) rfl dL_law_1204 ?_
  refine lv_aload_n (pc := 1205) hx hb dL_law_1205 rfl (lv_at hl 3 rfl) ?_
  refine lv_iload_n (pc := 1206) hx hb dL_law_1206 rfl (lv_at hl 0 rfl) ?_
  refine lv_iconst (pc := 1207) (v := 2) hx hb dL_law_1207 (by decide) ?_
  refine lv_iadd (pc := 1208) hx hb dL_law_1208 ?_
  refine lv_topi (pc := 1209) (fun v2 ev2 => ?_)
  obtain rfl : v2 = 2 := ev2.trans (by decide)
  refine zsld (pc := 1209) (k := 2) hx hb hX0 hbl hbA hS (vp_in_iff.mpr ⟨by decide, by decide⟩) rfl dL_law_1209 ?_
  refine zcallVi (pc := 1210) (k := 0) (As := [.int (xs 1), .int (xs 2)]) (rest := []) ⟨hx, hb, hml, hown, hts⟩ (nw_X11_packs l D c o σ (xs 1) (xs 2) hR hN h0) zc11 zV_L_129 rfl zd_X11_packs ⟨Nat.le_of_ble_eq_true rfl, Nat.le_of_ble_eq_true rfl⟩ hK hP hS rfl (by decide) hl.1 rfl (Nat.le_of_ble_eq_true rfl) ⟨Nat.le_of_ble_eq_true rfl, Nat.le_of_ble_eq_true rfl⟩ dL_law_1210 (fun r3 σ4 H locs hw5 hP hS => ?_)
  obtain ⟨er3, rfl⟩ := hw5
  refine lv_aload_n (pc := 1213) hx hb dL_law_1213 rfl (lv_at hl 1 rfl) ?_
  refine lv_aload_n (pc := 1214) hx hb dL_law_1214 rfl (lv_at hl 3 rfl) ?_
  refine lv_iload_n (pc := 1215) hx hb dL_law_1215 rfl (lv_at hl 0 rfl) ?_
  refine lv_iconst (pc := 1216) (v := 1) hx hb dL_law_1216 (by decide) ?_
  refine lv_iadd (pc := 1217) hx hb dL_law_1217 ?_
  refine lv_topi (pc := 1218) (fun v6 ev6 => ?_)
  obtain rfl : v6 = 1 := ev6.trans (by decide)
  refine zsld (pc := 1218) (k := 1) hx hb hX0 hbl hbA hS (vp_in_iff.mpr ⟨by decide, by decide⟩) rfl dL_law_1218 ?_
  refine lv_aload_n (pc := 1219) hx hb dL_law_1219 rfl (lv_at hl 3 rfl) ?_
  refine lv_iload_n (pc := 1220) hx hb dL_law_1220 rfl (lv_at hl 0 rfl) ?_
  refine lv_iconst (pc := 1221) (v := 2) hx hb dL_law_1221 (by decide) ?_
  refine lv_iadd (pc := 1222) hx hb dL_law_1222 ?_
  refine lv_topi (pc := 1223) (fun v7 ev7 => ?_)
  obtain rfl : v7 = 2 := ev7.trans (by decide)
  refine zsld (pc := 1223) (k := 2) hx hb hX0 hbl hbA hS (vp_in_iff.mpr ⟨by decide, by decide⟩) rfl dL_law_1223 ?_
  refine zcallVi (pc := 1224) (k := 218) (As := [.int (xs 1), .int (xs 2)]) (rest := [.int r3]) ⟨hx, hb, hml, hown, hts⟩ (nw_X12_packs l D c o σ (xs 1) (xs 2) hR m0) zc12 zV_L_132 rfl zd_X12_packs ⟨Nat.le_of_ble_eq_true rfl, Nat.le_of_ble_eq_true rfl⟩ hK hP hS rfl (by decide) hl.1 rfl (Nat.le_of_ble_eq_true rfl) ⟨Nat.le_of_ble_eq_true rfl, Nat.le_of_ble_eq_true rfl⟩ dL_law_1224 (fun r8 σ9 H locs hw10 hP hS => ?_)
  obtain ⟨er8, rfl⟩ := hw10
  refine lv_icmp_eq (pc := 1227) (tgt := 1869) hx hb dL_law_1227 (by decide) (fun _ => ?_) (fun q9 => absurd (er3.trans er8.symm) q9)
  exact lw_tail l ho C00 hK hS (lv_sub hl [0, 1, 2, 3] rfl)
set_option maxHeartbeats 4000000 in
set_option maxRecDepth 100000 in
theorem lw_case28 {p : Program} {e : Env} {s : State} {m : MethodId} {below : List Frame} {meth : Method} {cd : Code} (l : Launch) {b : Nat} {xs : Nat → Int32} {o : Nat} {D : va_G} {c : zC} (ho : s.heap.size = o) (C0 : lw_At p s m meth cd b 6 xs) (hK : zKt D c s) {σ : zS} (h0 : σ.1 2 0 = 0) (h1 : σ.1 2 1 = 0) (h2 : σ.1 2 2 = 0) (ht : σ.1 0 1 = 0) (hk : σ.1 0 2 = 0) (hp : σ.1 0 3 = (-1)) (hk0 : σ.1 55 0 = 0) (hk1 : σ.1 55 1 = 0) (hk2 : σ.1 55 2 = 0) (hb210 : σ.1 210 2 = (-1)) (hb212 : σ.1 212 2 = (-1)) (hb214 : σ.1 214 2 = (-1)) (hb216 : σ.1 216 2 = (-1)) (m0 : σ.1 219 0 = 0) (m1 : σ.1 219 1 = 0) (m2 : σ.1 219 2 = 0) (mt : σ.1 218 7 = 0) (mk : σ.1 218 14 = 0) (mp : σ.1 218 15 = (-1)) (mh0 : σ.1 223 0 = 0) (mh1 : σ.1 223 1 = 0) (mh2 : σ.1 223 2 = 0) (mm0 : σ.1 239 0 = (-1)) (mm1 : σ.1 239 1 = (-1)) (mm2 : σ.1 239 2 = (-1)) (mm3 : σ.1 239 3 = (-1)) (hR : zRef o σ.2.2) (hN : σ.2.2 0 4 = o + 2) (hSp : σ.2.2 0 5 = o + 28) (hz : ∀ k j, σ.2.1 k j = 0) {H : Heap} {locs : List Loc} {ls : Array Slot} (hP : zP D c o σ H) (hS : va_S (zA o) s.heap H locs) (hl : lv_has ls 4 [(3, .int 0), (2, .ref (o + 218)), (1, .ref (o + 0)), (0, .ref b)]) : W p l e room_1 s m #[Value.ref b] below meth cd H locs 243 106038 (lw_Z below #[Value.ref b] s) (F0 m 1232 ls []) := by
  have C00 := C0
  obtain ⟨hx, hb, hr, hml, hown, hts0, hX0, hbl, hlocks, hgv⟩ := C0
  have hts : ∀ w ∈ zWl, w.before #[Value.ref b] s = true := fun w hw => hts0 w (List.mem_filter.mp hw).1
  have hown : s.vm.findClass RL = some m.cls := hown
  have hbA : ¬ zA o b := by show ¬ o ≤ b; omega
  refine lv_aload_n (pc := 1232) hx hb dL_law_1232 rfl (lv_at hl 2 rfl) ?_
  refine lv_aload_n (pc := 1233) hx hb dL_law_1233 rfl (lv_at hl 3 rfl) ?_
  refine lv_iload_n (pc := 1234) hx hb dL_law_1234 rfl (lv_at hl 0 rfl) ?_
  refine lv_iconst (pc := 1235) (v := 1) hx hb dL_law_1235 (by decide) ?_
  refine lv_iadd (pc := 1236) hx hb dL_law_1236 ?_
  refine lv_topi (pc := 1237) (fun v1 ev1 => ?_)
  obtain rfl : v1 = 1 := ev1.trans (by decide)
  refine zsld (pc := 1237) (k := 1) hx hb hX0 hbl hbA hS (vp_in_iff.mpr ⟨by decide, by decide⟩) rfl dL_law_1237 ?_
  refine zcallVi (pc := 1238) (k := 0) (As := [.int (xs 1)]) (rest := []) ⟨hx, hb, hml, hown, hts⟩ (nw_X11_nodes l D c o σ (xs 1) hR hN h0) zc11 zV_L_133 rfl zd_X11_nodes ⟨Nat.le_of_ble_eq_true rfl, Nat.le_of_ble_eq_true rfl⟩ hK hP hS rfl (by decide) hl.1 rfl (Nat.le_of_ble_eq_true rfl) ⟨Nat.le_of_ble_eq_true rfl, Nat.le_of_ble_eq_true rfl⟩ dL_law_1238 (fun r2 σ3 H locs hw4 hP hS => ?_)
  obtain ⟨er2, rfl⟩ := hw4
  refine lv_aload_n (pc := 1241) hx hb dL_law_1241 rfl (lv_at hl 1 rfl) ?_
  refine lv_aload_n (pc := 1242) hx hb dL_law_1242 rfl (lv_at hl 3 rfl) ?_
  refine lv_iload_n (pc := 1243) hx hb dL_law_1243 rfl (lv_at hl 0 rfl) ?_
  refine lv_iconst (pc := 1244) (v := 1) hx hb dL_law_1244 (by decide) ?_
  refine lv_iadd (pc := 1245) hx hb dL_law_1245 ?_
  refine lv_topi (pc := 1246) (fun v5 ev5 => ?_)
  obtain rfl : v5 = 1 := ev5.trans (by decide)
  refine zsld (pc := 1246) (k := 1) hx hb hX0 hbl hbA hS (vp_in_iff.mpr ⟨by decide, by decide⟩) rfl dL_law_1246 ?_
  refine zcallVi (pc := 1247) (k := 218) (As := [.int (xs 1)]) (rest := [.int r2]) ⟨hx, hb, hml, hown, hts⟩ (nw_X12_nodes l D c o σ (xs 1) hR m0) zc12 zV_L_136 rfl zd_X12_nodes ⟨Nat.le_of_ble_eq_true rfl, Nat.le_of_ble_eq_true rfl⟩ hK hP hS rfl (by decide) hl.1 rfl (Nat.le_of_ble_eq_true rfl) ⟨Nat.le_of_ble_eq_true rfl, Nat.le_of_ble_eq_true rfl⟩ dL_law_1247 (fun r6 σ7 H locs hw8 hP hS => ?_)
  obtain ⟨er6, rfl⟩ := hw8
  refine lv_icmp_eq (pc := 1250) (tgt := 1869) hx hb dL_law_1250 (by decide) (fun _ => ?_) (fun q9 => absurd (er2.trans er6.symm) q9)
  exact lw_tail l ho C00 hK hS (lv_sub hl [0, 1, 2, 3] rfl)
set_option maxHeartbeats 4000000 in
set_option maxRecDepth 100000 in
theorem lw_case29 {p : Program} {e : Env} {s : State} {m : MethodId} {below : List Frame} {meth : Method} {cd : Code} (l : Launch) {b : Nat} {xs : Nat → Int32} {o : Nat} {D : va_G} {c : zC} (ho : s.heap.size = o) (C0 : lw_At p s m meth cd b 6 xs) (hK : zKt D c s) {σ : zS} (h0 : σ.1 2 0 = 0) (h1 : σ.1 2 1 = 0) (h2 : σ.1 2 2 = 0) (ht : σ.1 0 1 = 0) (hk : σ.1 0 2 = 0) (hp : σ.1 0 3 = (-1)) (hk0 : σ.1 55 0 = 0) (hk1 : σ.1 55 1 = 0) (hk2 : σ.1 55 2 = 0) (hb210 : σ.1 210 2 = (-1)) (hb212 : σ.1 212 2 = (-1)) (hb214 : σ.1 214 2 = (-1)) (hb216 : σ.1 216 2 = (-1)) (m0 : σ.1 219 0 = 0) (m1 : σ.1 219 1 = 0) (m2 : σ.1 219 2 = 0) (mt : σ.1 218 7 = 0) (mk : σ.1 218 14 = 0) (mp : σ.1 218 15 = (-1)) (mh0 : σ.1 223 0 = 0) (mh1 : σ.1 223 1 = 0) (mh2 : σ.1 223 2 = 0) (mm0 : σ.1 239 0 = (-1)) (mm1 : σ.1 239 1 = (-1)) (mm2 : σ.1 239 2 = (-1)) (mm3 : σ.1 239 3 = (-1)) (hR : zRef o σ.2.2) (hN : σ.2.2 0 4 = o + 2) (hSp : σ.2.2 0 5 = o + 28) (hz : ∀ k j, σ.2.1 k j = 0) {H : Heap} {locs : List Loc} {ls : Array Slot} (hP : zP D c o σ H) (hS : va_S (zA o) s.heap H locs) (hl : lv_has ls 4 [(3, .int 0), (2, .ref (o + 218)), (1, .ref (o + 0)), (0, .ref b)]) : W p l e room_1 s m #[Value.ref b] below meth cd H locs 243 106038 (lw_Z below #[Value.ref b] s) (F0 m 1255 ls []) := by
  have C00 := C0
  obtain ⟨hx, hb, hr, hml, hown, hts0, hX0, hbl, hlocks, hgv⟩ := C0
  have hts : ∀ w ∈ zWl, w.before #[Value.ref b] s = true := fun w hw => hts0 w (List.mem_filter.mp hw).1
  have hown : s.vm.findClass RL = some m.cls := hown
  have hbA : ¬ zA o b := by show ¬ o ≤ b; omega
  refine lv_aload_n (pc := 1255) hx hb dL_law_1255 rfl (lv_at hl 2 rfl) ?_
  refine zcallVi (pc := 1256) (k := 0) (As := []) (rest := []) ⟨hx, hb, hml, hown, hts⟩ (nw_X11_net l D c o σ  hR hN h0) zc11 zV_L_137 rfl zd_X11_net ⟨Nat.le_of_ble_eq_true rfl, Nat.le_of_ble_eq_true rfl⟩ hK hP hS rfl (by decide) hl.1 rfl (Nat.le_of_ble_eq_true rfl) ⟨Nat.le_of_ble_eq_true rfl, Nat.le_of_ble_eq_true rfl⟩ dL_law_1256 (fun r1 σ2 H locs hw3 hP hS => ?_)
  obtain ⟨er1, rfl⟩ := hw3
  refine lv_aload_n (pc := 1259) hx hb dL_law_1259 rfl (lv_at hl 1 rfl) ?_
  refine zcallVi (pc := 1260) (k := 218) (As := []) (rest := [.int r1]) ⟨hx, hb, hml, hown, hts⟩ (nw_X12_net l D c o σ  hR m0) zc12 zV_L_140 rfl zd_X12_net ⟨Nat.le_of_ble_eq_true rfl, Nat.le_of_ble_eq_true rfl⟩ hK hP hS rfl (by decide) hl.1 rfl (Nat.le_of_ble_eq_true rfl) ⟨Nat.le_of_ble_eq_true rfl, Nat.le_of_ble_eq_true rfl⟩ dL_law_1260 (fun r4 σ5 H locs hw6 hP hS => ?_)
  obtain ⟨er4, rfl⟩ := hw6
  refine lv_icmp_eq (pc := 1263) (tgt := 1869) hx hb dL_law_1263 (by decide) (fun _ => ?_) (fun q9 => absurd (er1.trans er4.symm) q9)
  exact lw_tail l ho C00 hK hS (lv_sub hl [0, 1, 2, 3] rfl)
set_option maxHeartbeats 4000000 in
set_option maxRecDepth 100000 in
theorem lw_case30 {p : Program} {e : Env} {s : State} {m : MethodId} {below : List Frame} {meth : Method} {cd : Code} (l : Launch) {b : Nat} {xs : Nat → Int32} {o : Nat} {D : va_G} {c : zC} (ho : s.heap.size = o) (C0 : lw_At p s m meth cd b 6 xs) (hK : zKt D c s) {σ : zS} (h0 : σ.1 2 0 = 0) (h1 : σ.1 2 1 = 0) (h2 : σ.1 2 2 = 0) (ht : σ.1 0 1 = 0) (hk : σ.1 0 2 = 0) (hp : σ.1 0 3 = (-1)) (hk0 : σ.1 55 0 = 0) (hk1 : σ.1 55 1 = 0) (hk2 : σ.1 55 2 = 0) (hb210 : σ.1 210 2 = (-1)) (hb212 : σ.1 212 2 = (-1)) (hb214 : σ.1 214 2 = (-1)) (hb216 : σ.1 216 2 = (-1)) (m0 : σ.1 219 0 = 0) (m1 : σ.1 219 1 = 0) (m2 : σ.1 219 2 = 0) (mt : σ.1 218 7 = 0) (mk : σ.1 218 14 = 0) (mp : σ.1 218 15 = (-1)) (mh0 : σ.1 223 0 = 0) (mh1 : σ.1 223 1 = 0) (mh2 : σ.1 223 2 = 0) (mm0 : σ.1 239 0 = (-1)) (mm1 : σ.1 239 1 = (-1)) (mm2 : σ.1 239 2 = (-1)) (mm3 : σ.1 239 3 = (-1)) (hR : zRef o σ.2.2) (hN : σ.2.2 0 4 = o + 2) (hSp : σ.2.2 0 5 = o + 28) (hz : ∀ k j, σ.2.1 k j = 0) {H : Heap} {locs : List Loc} {ls : Array Slot} (hP : zP D c o σ H) (hS : va_S (zA o) s.heap H locs) (hl : lv_has ls 4 [(3, .int 0), (2, .ref (o + 218)), (1, .ref (o + 0)), (0, .ref b)]) : W p l e room_1 s m #[Value.ref b] below meth cd H locs 243 106038 (lw_Z below #[Value.ref b] s) (F0 m 1268 ls []) := by
  have C00 := C0
  obtain ⟨hx, hb, hr, hml, hown, hts0, hX0, hbl, hlocks, hgv⟩ := C0
  have hts : ∀ w ∈ zWl, w.before #[Value.ref b] s = true := fun w hw => hts0 w (List.mem_filter.mp hw).1
  have hown : s.vm.findClass RL = some m.cls := hown
  have hbA : ¬ zA o b := by show ¬ o ≤ b; omega
  refine lv_aload_n (pc := 1268) hx hb dL_law_1268 rfl (lv_at hl 2 rfl) ?_
  refine lv_aload_n (pc := 1269) hx hb dL_law_1269 rfl (lv_at hl 3 rfl) ?_
  refine lv_iload_n (pc := 1270) hx hb dL_law_1270 rfl (lv_at hl 0 rfl) ?_
  refine lv_iconst (pc := 1271) (v := 1) hx hb dL_law_1271 (by decide) ?_
  refine lv_iadd (pc := 1272) hx hb dL_law_1272 ?_
  refine lv_topi (pc := 1273) (fun v1 ev1 => ?_)
  obtain rfl : v1 = 1 := ev1.trans (by decide)
  refine zsld (pc := 1273) (k := 1) hx hb hX0 hbl hbA hS (vp_in_iff.mpr ⟨by decide, by decide⟩) rfl dL_law_1273 ?_
  refine lv_aload_n (pc := 1274) hx hb dL_law_1274 rfl (lv_at hl 3 rfl) ?_
  refine lv_iload_n (pc := 1275) hx hb dL_law_1275 rfl (lv_at hl 0 rfl) ?_
  refine lv_iconst (pc := 1276) (v := 2) hx hb dL_law_1276 (by decide) ?_
  refine lv_iadd (pc := 1277) hx hb dL_law_1277 ?_
  refine lv_topi (pc := 1278) (fun v2 ev2 => ?_)
  obtain rfl : v2 = 2 := ev2.trans (by decide)
  refine zsld (pc := 1278) (k := 2) hx hb hX0 hbl hbA hS (vp_in_iff.mpr ⟨by decide, by decide⟩) rfl dL_law_1278 ?_
  refine zcallVi (pc := 1279) (k := 0) (As := [.int (xs 1), .int (xs 2)]) (rest := []) ⟨hx, hb, hml, hown, hts⟩ (nw_X11_wide l D c o σ (xs 1) (xs 2) hR hN h0) zc11 zV_L_141 rfl zd_X11_wide ⟨Nat.le_of_ble_eq_true rfl, Nat.le_of_ble_eq_true rfl⟩ hK hP hS rfl (by decide) hl.1 rfl (Nat.le_of_ble_eq_true rfl) ⟨Nat.le_of_ble_eq_true rfl, Nat.le_of_ble_eq_true rfl⟩ dL_law_1279 (fun r3 σ4 H locs hw5 hP hS => ?_)
  obtain ⟨er3, rfl⟩ := hw5
  refine lv_aload_n (pc := 1282) hx hb dL_law_1282 rfl (lv_at hl 1 rfl) ?_
  refine lv_aload_n (pc := 1283) hx hb dL_law_1283 rfl (lv_at hl 3 rfl) ?_
  refine lv_iload_n (pc := 1284) hx hb dL_law_1284 rfl (lv_at hl 0 rfl) ?_
  refine lv_iconst (pc := 1285) (v := 1) hx hb dL_law_1285 (by decide) ?_
  refine lv_iadd (pc := 1286) hx hb dL_law_1286 ?_
  refine lv_topi (pc := 1287) (fun v6 ev6 => ?_)
  obtain rfl : v6 = 1 := ev6.trans (by decide)
  refine zsld (pc := 1287) (k := 1) hx hb hX0 hbl hbA hS (vp_in_iff.mpr ⟨by decide, by decide⟩) rfl dL_law_1287 ?_
  refine lv_aload_n (pc := 1288) hx hb dL_law_1288 rfl (lv_at hl 3 rfl) ?_
  refine lv_iload_n (pc := 1289) hx hb dL_law_1289 rfl (lv_at hl 0 rfl) ?_
  refine lv_iconst (pc := 1290) (v := 2) hx hb dL_law_1290 (by decide) ?_
  refine lv_iadd (pc := 1291) hx hb dL_law_1291 ?_
  refine lv_topi (pc := 1292) (fun v7 ev7 => ?_)
  obtain rfl : v7 = 2 := ev7.trans (by decide)
  refine zsld (pc := 1292) (k := 2) hx hb hX0 hbl hbA hS (vp_in_iff.mpr ⟨by decide, by decide⟩) rfl dL_law_1292 ?_
  refine zcallVi (pc := 1293) (k := 218) (As := [.int (xs 1), .int (xs 2)]) (rest := [.int r3]) ⟨hx, hb, hml, hown, hts⟩ (nw_X12_wide l D c o σ (xs 1) (xs 2) hR m0) zc12 zV_L_144 rfl zd_X12_wide ⟨Nat.le_of_ble_eq_true rfl, Nat.le_of_ble_eq_true rfl⟩ hK hP hS rfl (by decide) hl.1 rfl (Nat.le_of_ble_eq_true rfl) ⟨Nat.le_of_ble_eq_true rfl, Nat.le_of_ble_eq_true rfl⟩ dL_law_1293 (fun r8 σ9 H locs hw10 hP hS => ?_)
  obtain ⟨er8, rfl⟩ := hw10
  refine lv_icmp_eq (pc := 1296) (tgt := 1869) hx hb dL_law_1296 (by decide) (fun _ => ?_) (fun q9 => absurd (er3.trans er8.symm) q9)
  exact lw_tail l ho C00 hK hS (lv_sub hl [0, 1, 2, 3] rfl)
set_option maxHeartbeats 4000000 in
set_option maxRecDepth 100000 in
theorem lw_case31 {p : Program} {e : Env} {s : State} {m : MethodId} {below : List Frame} {meth : Method} {cd : Code} (l : Launch) {b : Nat} {xs : Nat → Int32} {o : Nat} {D : va_G} {c : zC} (ho : s.heap.size = o) (C0 : lw_At p s m meth cd b 6 xs) (hK : zKt D c s) {σ : zS} (h0 : σ.1 2 0 = 0) (h1 : σ.1 2 1 = 0) (h2 : σ.1 2 2 = 0) (ht : σ.1 0 1 = 0) (hk : σ.1 0 2 = 0) (hp : σ.1 0 3 = (-1)) (hk0 : σ.1 55 0 = 0) (hk1 : σ.1 55 1 = 0) (hk2 : σ.1 55 2 = 0) (hb210 : σ.1 210 2 = (-1)) (hb212 : σ.1 212 2 = (-1)) (hb214 : σ.1 214 2 = (-1)) (hb216 : σ.1 216 2 = (-1)) (m0 : σ.1 219 0 = 0) (m1 : σ.1 219 1 = 0) (m2 : σ.1 219 2 = 0) (mt : σ.1 218 7 = 0) (mk : σ.1 218 14 = 0) (mp : σ.1 218 15 = (-1)) (mh0 : σ.1 223 0 = 0) (mh1 : σ.1 223 1 = 0) (mh2 : σ.1 223 2 = 0) (mm0 : σ.1 239 0 = (-1)) (mm1 : σ.1 239 1 = (-1)) (mm2 : σ.1 239 2 = (-1)) (mm3 : σ.1 239 3 = (-1)) (hR : zRef o σ.2.2) (hN : σ.2.2 0 4 = o + 2) (hSp : σ.2.2 0 5 = o + 28) (hz : ∀ k j, σ.2.1 k j = 0) {H : Heap} {locs : List Loc} {ls : Array Slot} (hP : zP D c o σ H) (hS : va_S (zA o) s.heap H locs) (hl : lv_has ls 4 [(3, .int 0), (2, .ref (o + 218)), (1, .ref (o + 0)), (0, .ref b)]) : W p l e room_1 s m #[Value.ref b] below meth cd H locs 243 106038 (lw_Z below #[Value.ref b] s) (F0 m 1301 ls []) := by
  have C00 := C0
  obtain ⟨hx, hb, hr, hml, hown, hts0, hX0, hbl, hlocks, hgv⟩ := C0
  have hts : ∀ w ∈ zWl, w.before #[Value.ref b] s = true := fun w hw => hts0 w (List.mem_filter.mp hw).1
  have hown : s.vm.findClass RL = some m.cls := hown
  have hbA : ¬ zA o b := by show ¬ o ≤ b; omega
  refine lv_aload_n (pc := 1301) hx hb dL_law_1301 rfl (lv_at hl 2 rfl) ?_
  refine lv_aload_n (pc := 1302) hx hb dL_law_1302 rfl (lv_at hl 3 rfl) ?_
  refine lv_iload_n (pc := 1303) hx hb dL_law_1303 rfl (lv_at hl 0 rfl) ?_
  refine lv_iconst (pc := 1304) (v := 1) hx hb dL_law_1304 (by decide) ?_
  refine lv_iadd (pc := 1305) hx hb dL_law_1305 ?_
  refine lv_topi (pc := 1306) (fun v1 ev1 => ?_)
  obtain rfl : v1 = 1 := ev1.trans (by decide)
  refine zsld (pc := 1306) (k := 1) hx hb hX0 hbl hbA hS (vp_in_iff.mpr ⟨by decide, by decide⟩) rfl dL_law_1306 ?_
  refine zcallVi (pc := 1307) (k := 0) (As := [.int (xs 1)]) (rest := []) ⟨hx, hb, hml, hown, hts⟩ (nw_X11_order l D c o σ (xs 1) hR hN h0) zc11 zV_L_145 rfl zd_X11_order ⟨Nat.le_of_ble_eq_true rfl, Nat.le_of_ble_eq_true rfl⟩ hK hP hS rfl (by decide) hl.1 rfl (Nat.le_of_ble_eq_true rfl) ⟨Nat.le_of_ble_eq_true rfl, Nat.le_of_ble_eq_true rfl⟩ dL_law_1307 (fun r2 σ3 H locs hw4 hP hS => ?_)
  obtain ⟨er2, rfl⟩ := hw4
  refine lv_aload_n (pc := 1310) hx hb dL_law_1310 rfl (lv_at hl 1 rfl) ?_
  refine lv_aload_n (pc := 1311) hx hb dL_law_1311 rfl (lv_at hl 3 rfl) ?_
  refine lv_iload_n (pc := 1312) hx hb dL_law_1312 rfl (lv_at hl 0 rfl) ?_
  refine lv_iconst (pc := 1313) (v := 1) hx hb dL_law_1313 (by decide) ?_
  refine lv_iadd (pc := 1314) hx hb dL_law_1314 ?_
  refine lv_topi (pc := 1315) (fun v5 ev5 => ?_)
  obtain rfl : v5 = 1 := ev5.trans (by decide)
  refine zsld (pc := 1315) (k := 1) hx hb hX0 hbl hbA hS (vp_in_iff.mpr ⟨by decide, by decide⟩) rfl dL_law_1315 ?_
  refine zcallVi (pc := 1316) (k := 218) (As := [.int (xs 1)]) (rest := [.int r2]) ⟨hx, hb, hml, hown, hts⟩ (nw_X12_order l D c o σ (xs 1) hR m0) zc12 zV_L_148 rfl zd_X12_order ⟨Nat.le_of_ble_eq_true rfl, Nat.le_of_ble_eq_true rfl⟩ hK hP hS rfl (by decide) hl.1 rfl (Nat.le_of_ble_eq_true rfl) ⟨Nat.le_of_ble_eq_true rfl, Nat.le_of_ble_eq_true rfl⟩ dL_law_1316 (fun r6 σ7 H locs hw8 hP hS => ?_)
  obtain ⟨er6, rfl⟩ := hw8
  refine lv_icmp_eq (pc := 1319) (tgt := 1869) hx hb dL_law_1319 (by decide) (fun _ => ?_) (fun q9 => absurd (er2.trans er6.symm) q9)
  exact lw_tail l ho C00 hK hS (lv_sub hl [0, 1, 2, 3] rfl)
set_option maxHeartbeats 4000000 in
set_option maxRecDepth 100000 in
theorem lw_case32 {p : Program} {e : Env} {s : State} {m : MethodId} {below : List Frame} {meth : Method} {cd : Code} (l : Launch) {b : Nat} {xs : Nat → Int32} {o : Nat} {D : va_G} {c : zC} (ho : s.heap.size = o) (C0 : lw_At p s m meth cd b 6 xs) (hK : zKt D c s) {σ : zS} (h0 : σ.1 2 0 = 0) (h1 : σ.1 2 1 = 0) (h2 : σ.1 2 2 = 0) (ht : σ.1 0 1 = 0) (hk : σ.1 0 2 = 0) (hp : σ.1 0 3 = (-1)) (hk0 : σ.1 55 0 = 0) (hk1 : σ.1 55 1 = 0) (hk2 : σ.1 55 2 = 0) (hb210 : σ.1 210 2 = (-1)) (hb212 : σ.1 212 2 = (-1)) (hb214 : σ.1 214 2 = (-1)) (hb216 : σ.1 216 2 = (-1)) (m0 : σ.1 219 0 = 0) (m1 : σ.1 219 1 = 0) (m2 : σ.1 219 2 = 0) (mt : σ.1 218 7 = 0) (mk : σ.1 218 14 = 0) (mp : σ.1 218 15 = (-1)) (mh0 : σ.1 223 0 = 0) (mh1 : σ.1 223 1 = 0) (mh2 : σ.1 223 2 = 0) (mm0 : σ.1 239 0 = (-1)) (mm1 : σ.1 239 1 = (-1)) (mm2 : σ.1 239 2 = (-1)) (mm3 : σ.1 239 3 = (-1)) (hR : zRef o σ.2.2) (hN : σ.2.2 0 4 = o + 2) (hSp : σ.2.2 0 5 = o + 28) (hz : ∀ k j, σ.2.1 k j = 0) {H : Heap} {locs : List Loc} {ls : Array Slot} (hP : zP D c o σ H) (hS : va_S (zA o) s.heap H locs) (hl : lv_has ls 4 [(3, .int 0), (2, .ref (o + 218)), (1, .ref (o + 0)), (0, .ref b)]) : W p l e room_1 s m #[Value.ref b] below meth cd H locs 243 106038 (lw_Z below #[Value.ref b] s) (F0 m 1324 ls []) := by
  have C00 := C0
  obtain ⟨hx, hb, hr, hml, hown, hts0, hX0, hbl, hlocks, hgv⟩ := C0
  have hts : ∀ w ∈ zWl, w.before #[Value.ref b] s = true := fun w hw => hts0 w (List.mem_filter.mp hw).1
  have hown : s.vm.findClass RL = some m.cls := hown
  have hbA : ¬ zA o b := by show ¬ o ≤ b; omega
  refine lv_aload_n (pc := 1324) hx hb dL_law_1324 rfl (lv_at hl 2 rfl) ?_
  refine lv_aload_n (pc := 1325) hx hb dL_law_1325 rfl (lv_at hl 3 rfl) ?_
  refine lv_iload_n (pc := 1326) hx hb dL_law_1326 rfl (lv_at hl 0 rfl) ?_
  refine lv_iconst (pc := 1327) (v := 1) hx hb dL_law_1327 (by decide) ?_
  refine lv_iadd (pc := 1328) hx hb dL_law_1328 ?_
  refine lv_topi (pc := 1329) (fun v1 ev1 => ?_)
  obtain rfl : v1 = 1 := ev1.trans (by decide)
  refine zsld (pc := 1329) (k := 1) hx hb hX0 hbl hbA hS (vp_in_iff.mpr ⟨by decide, by decide⟩) rfl dL_law_1329 ?_
  refine zcallVi (pc := 1330) (k := 0) (As := [.int (xs 1)]) (rest := []) ⟨hx, hb, hml, hown, hts⟩ (nw_X11_swap l D c o σ (xs 1) hR hN h0) zc11 zV_L_149 rfl zd_X11_swap ⟨Nat.le_of_ble_eq_true rfl, Nat.le_of_ble_eq_true rfl⟩ hK hP hS rfl (by decide) hl.1 rfl (Nat.le_of_ble_eq_true rfl) ⟨Nat.le_of_ble_eq_true rfl, Nat.le_of_ble_eq_true rfl⟩ dL_law_1330 (fun r2 σ3 H locs hw4 hP hS => ?_)
  obtain ⟨er2, rfl⟩ := hw4
  refine lv_aload_n (pc := 1333) hx hb dL_law_1333 rfl (lv_at hl 1 rfl) ?_
  refine lv_aload_n (pc := 1334) hx hb dL_law_1334 rfl (lv_at hl 3 rfl) ?_
  refine lv_iload_n (pc := 1335) hx hb dL_law_1335 rfl (lv_at hl 0 rfl) ?_
  refine lv_iconst (pc := 1336) (v := 1) hx hb dL_law_1336 (by decide) ?_
  refine lv_iadd (pc := 1337) hx hb dL_law_1337 ?_
  refine lv_topi (pc := 1338) (fun v5 ev5 => ?_)
  obtain rfl : v5 = 1 := ev5.trans (by decide)
  refine zsld (pc := 1338) (k := 1) hx hb hX0 hbl hbA hS (vp_in_iff.mpr ⟨by decide, by decide⟩) rfl dL_law_1338 ?_
  refine zcallVi (pc := 1339) (k := 218) (As := [.int (xs 1)]) (rest := [.int r2]) ⟨hx, hb, hml, hown, hts⟩ (nw_X12_swap l D c o σ (xs 1) hR m0) zc12 zV_L_152 rfl zd_X12_swap ⟨Nat.le_of_ble_eq_true rfl, Nat.le_of_ble_eq_true rfl⟩ hK hP hS rfl (by decide) hl.1 rfl (Nat.le_of_ble_eq_true rfl) ⟨Nat.le_of_ble_eq_true rfl, Nat.le_of_ble_eq_true rfl⟩ dL_law_1339 (fun r6 σ7 H locs hw8 hP hS => ?_)
  obtain ⟨er6, rfl⟩ := hw8
  refine lv_icmp_eq (pc := 1342) (tgt := 1869) hx hb dL_law_1342 (by decide) (fun _ => ?_) (fun q9 => absurd (er2.trans er6.symm) q9)
  exact lw_tail l ho C00 hK hS (lv_sub hl [0, 1, 2, 3] rfl)
set_option maxHeartbeats 4000000 in
set_option maxRecDepth 100000 in
theorem lw_case33 {p : Program} {e : Env} {s : State} {m : MethodId} {below : List Frame} {meth : Method} {cd : Code} (l : Launch) {b : Nat} {xs : Nat → Int32} {o : Nat} {D : va_G} {c : zC} (ho : s.heap.size = o) (C0 : lw_At p s m meth cd b 6 xs) (hK : zKt D c s) {σ : zS} (h0 : σ.1 2 0 = 0) (h1 : σ.1 2 1 = 0) (h2 : σ.1 2 2 = 0) (ht : σ.1 0 1 = 0) (hk : σ.1 0 2 = 0) (hp : σ.1 0 3 = (-1)) (hk0 : σ.1 55 0 = 0) (hk1 : σ.1 55 1 = 0) (hk2 : σ.1 55 2 = 0) (hb210 : σ.1 210 2 = (-1)) (hb212 : σ.1 212 2 = (-1)) (hb214 : σ.1 214 2 = (-1)) (hb216 : σ.1 216 2 = (-1)) (m0 : σ.1 219 0 = 0) (m1 : σ.1 219 1 = 0) (m2 : σ.1 219 2 = 0) (mt : σ.1 218 7 = 0) (mk : σ.1 218 14 = 0) (mp : σ.1 218 15 = (-1)) (mh0 : σ.1 223 0 = 0) (mh1 : σ.1 223 1 = 0) (mh2 : σ.1 223 2 = 0) (mm0 : σ.1 239 0 = (-1)) (mm1 : σ.1 239 1 = (-1)) (mm2 : σ.1 239 2 = (-1)) (mm3 : σ.1 239 3 = (-1)) (hR : zRef o σ.2.2) (hN : σ.2.2 0 4 = o + 2) (hSp : σ.2.2 0 5 = o + 28) (hz : ∀ k j, σ.2.1 k j = 0) {H : Heap} {locs : List Loc} {ls : Array Slot} (hP : zP D c o σ H) (hS : va_S (zA o) s.heap H locs) (hl : lv_has ls 4 [(3, .int 0), (2, .ref (o + 218)), (1, .ref (o + 0)), (0, .ref b)]) : W p l e room_1 s m #[Value.ref b] below meth cd H locs 243 106038 (lw_Z below #[Value.ref b] s) (F0 m 1347 ls []) := by
  have C00 := C0
  obtain ⟨hx, hb, hr, hml, hown, hts0, hX0, hbl, hlocks, hgv⟩ := C0
  have hts : ∀ w ∈ zWl, w.before #[Value.ref b] s = true := fun w hw => hts0 w (List.mem_filter.mp hw).1
  have hown : s.vm.findClass RL = some m.cls := hown
  have hbA : ¬ zA o b := by show ¬ o ≤ b; omega
  refine lv_aload_n (pc := 1347) hx hb dL_law_1347 rfl (lv_at hl 2 rfl) ?_
  refine lv_aload_n (pc := 1348) hx hb dL_law_1348 rfl (lv_at hl 3 rfl) ?_
  refine lv_iload_n (pc := 1349) hx hb dL_law_1349 rfl (lv_at hl 0 rfl) ?_
  refine lv_iconst (pc := 1350) (v := 1) hx hb dL_law_1350 (by decide) ?_
  refine lv_iadd (pc := 1351) hx hb dL_law_1351 ?_
  refine lv_topi (pc := 1352) (fun v1 ev1 => ?_)
  obtain rfl : v1 = 1 := ev1.trans (by decide)
  refine zsld (pc := 1352) (k := 1) hx hb hX0 hbl hbA hS (vp_in_iff.mpr ⟨by decide, by decide⟩) rfl dL_law_1352 ?_
  refine lv_aload_n (pc := 1353) hx hb dL_law_1353 rfl (lv_at hl 3 rfl) ?_
  refine lv_iload_n (pc := 1354) hx hb dL_law_1354 rfl (lv_at hl 0 rfl) ?_
  refine lv_iconst (pc := 1355) (v := 2) hx hb dL_law_1355 (by decide) ?_
  refine lv_iadd (pc := 1356) hx hb dL_law_1356 ?_
  refine lv_topi (pc := 1357) (fun v2 ev2 => ?_)
  obtain rfl : v2 = 2 := ev2.trans (by decide)
  refine zsld (pc := 1357) (k := 2) hx hb hX0 hbl hbA hS (vp_in_iff.mpr ⟨by decide, by decide⟩) rfl dL_law_1357 ?_
  refine zcallVi (pc := 1358) (k := 0) (As := [.int (xs 1), .int (xs 2)]) (rest := []) ⟨hx, hb, hml, hown, hts⟩ (nw_X11_move l D c o σ (xs 1) (xs 2) hR hN h0) zc11 zV_L_153 rfl zd_X11_move ⟨Nat.le_of_ble_eq_true rfl, Nat.le_of_ble_eq_true rfl⟩ hK hP hS rfl (by decide) hl.1 rfl (Nat.le_of_ble_eq_true rfl) ⟨Nat.le_of_ble_eq_true rfl, Nat.le_of_ble_eq_true rfl⟩ dL_law_1358 (fun r3 σ4 H locs hw5 hP hS => ?_)
  obtain ⟨er3, rfl⟩ := hw5
  refine lv_aload_n (pc := 1361) hx hb dL_law_1361 rfl (lv_at hl 1 rfl) ?_
  refine lv_aload_n (pc := 1362) hx hb dL_law_1362 rfl (lv_at hl 3 rfl) ?_
  refine lv_iload_n (pc := 1363) hx hb dL_law_1363 rfl (lv_at hl 0 rfl) ?_
  refine lv_iconst (pc := 1364) (v := 1) hx hb dL_law_1364 (by decide) ?_
  refine lv_iadd (pc := 1365) hx hb dL_law_1365 ?_
  refine lv_topi (pc := 1366) (fun v6 ev6 => ?_)
  obtain rfl : v6 = 1 := ev6.trans (by decide)
  refine zsld (pc := 1366) (k := 1) hx hb hX0 hbl hbA hS (vp_in_iff.mpr ⟨by decide, by decide⟩) rfl dL_law_1366 ?_
  refine lv_aload_n (pc := 1367) hx hb dL_law_1367 rfl (lv_at hl 3 rfl) ?_
  refine lv_iload_n (pc := 1368) hx hb dL_law_1368 rfl (lv_at hl 0 rfl) ?_
  refine lv_iconst (pc := 1369) (v := 2) hx hb dL_law_1369 (by decide) ?_
  refine lv_iadd (pc := 1370) hx hb dL_law_1370 ?_
  refine lv_topi (pc := 1371) (fun v7 ev7 => ?_)
  obtain rfl : v7 = 2 := ev7.trans (by decide)
  refine zsld (pc := 1371) (k := 2) hx hb hX0 hbl hbA hS (vp_in_iff.mpr ⟨by decide, by decide⟩) rfl dL_law_1371 ?_
  refine zcallVi (pc := 1372) (k := 218) (As := [.int (xs 1), .int (xs 2)]) (rest := [.int r3]) ⟨hx, hb, hml, hown, hts⟩ (nw_X12_move l D c o σ (xs 1) (xs 2) hR m0) zc12 zV_L_156 rfl zd_X12_move ⟨Nat.le_of_ble_eq_true rfl, Nat.le_of_ble_eq_true rfl⟩ hK hP hS rfl (by decide) hl.1 rfl (Nat.le_of_ble_eq_true rfl) ⟨Nat.le_of_ble_eq_true rfl, Nat.le_of_ble_eq_true rfl⟩ dL_law_1372 (fun r8 σ9 H locs hw10 hP hS => ?_)
  obtain ⟨er8, rfl⟩ := hw10
  refine lv_icmp_eq (pc := 1375) (tgt := 1869) hx hb dL_law_1375 (by decide) (fun _ => ?_) (fun q9 => absurd (er3.trans er8.symm) q9)
  exact lw_tail l ho C00 hK hS (lv_sub hl [0, 1, 2, 3] rfl)
set_option maxHeartbeats 4000000 in
set_option maxRecDepth 100000 in
theorem lw_case34 {p : Program} {e : Env} {s : State} {m : MethodId} {below : List Frame} {meth : Method} {cd : Code} (l : Launch) {b : Nat} {xs : Nat → Int32} {o : Nat} {D : va_G} {c : zC} (ho : s.heap.size = o) (C0 : lw_At p s m meth cd b 6 xs) (hK : zKt D c s) {σ : zS} (h0 : σ.1 2 0 = 0) (h1 : σ.1 2 1 = 0) (h2 : σ.1 2 2 = 0) (ht : σ.1 0 1 = 0) (hk : σ.1 0 2 = 0) (hp : σ.1 0 3 = (-1)) (hk0 : σ.1 55 0 = 0) (hk1 : σ.1 55 1 = 0) (hk2 : σ.1 55 2 = 0) (hb210 : σ.1 210 2 = (-1)) (hb212 : σ.1 212 2 = (-1)) (hb214 : σ.1 214 2 = (-1)) (hb216 : σ.1 216 2 = (-1)) (m0 : σ.1 219 0 = 0) (m1 : σ.1 219 1 = 0) (m2 : σ.1 219 2 = 0) (mt : σ.1 218 7 = 0) (mk : σ.1 218 14 = 0) (mp : σ.1 218 15 = (-1)) (mh0 : σ.1 223 0 = 0) (mh1 : σ.1 223 1 = 0) (mh2 : σ.1 223 2 = 0) (mm0 : σ.1 239 0 = (-1)) (mm1 : σ.1 239 1 = (-1)) (mm2 : σ.1 239 2 = (-1)) (mm3 : σ.1 239 3 = (-1)) (hR : zRef o σ.2.2) (hN : σ.2.2 0 4 = o + 2) (hSp : σ.2.2 0 5 = o + 28) (hz : ∀ k j, σ.2.1 k j = 0) {H : Heap} {locs : List Loc} {ls : Array Slot} (hP : zP D c o σ H) (hS : va_S (zA o) s.heap H locs) (hl : lv_has ls 4 [(3, .int 0), (2, .ref (o + 218)), (1, .ref (o + 0)), (0, .ref b)]) : W p l e room_1 s m #[Value.ref b] below meth cd H locs 243 106038 (lw_Z below #[Value.ref b] s) (F0 m 1380 ls []) := by
  have C00 := C0
  obtain ⟨hx, hb, hr, hml, hown, hts0, hX0, hbl, hlocks, hgv⟩ := C0
  have hts : ∀ w ∈ zWl, w.before #[Value.ref b] s = true := fun w hw => hts0 w (List.mem_filter.mp hw).1
  have hown : s.vm.findClass RL = some m.cls := hown
  have hbA : ¬ zA o b := by show ¬ o ≤ b; omega
  refine lv_aload_n (pc := 1380) hx hb dL_law_1380 rfl (lv_at hl 2 rfl) ?_
  refine lv_aload_n (pc := 1381) hx hb dL_law_1381 rfl (lv_at hl 3 rfl) ?_
  refine lv_iload_n (pc := 1382) hx hb dL_law_1382 rfl (lv_at hl 0 rfl) ?_
  refine lv_iconst (pc := 1383) (v := 1) hx hb dL_law_1383 (by decide) ?_
  refine lv_iadd (pc := 1384) hx hb dL_law_1384 ?_
  refine lv_topi (pc := 1385) (fun v1 ev1 => ?_)
  obtain rfl : v1 = 1 := ev1.trans (by decide)
  refine zsld (pc := 1385) (k := 1) hx hb hX0 hbl hbA hS (vp_in_iff.mpr ⟨by decide, by decide⟩) rfl dL_law_1385 ?_
  refine lv_aload_n (pc := 1386) hx hb dL_law_1386 rfl (lv_at hl 3 rfl) ?_
  refine lv_iload_n (pc := 1387) hx hb dL_law_1387 rfl (lv_at hl 0 rfl) ?_
  refine lv_iconst (pc := 1388) (v := 2) hx hb dL_law_1388 (by decide) ?_
  refine lv_iadd (pc := 1389) hx hb dL_law_1389 ?_
  refine lv_topi (pc := 1390) (fun v2 ev2 => ?_)
  obtain rfl : v2 = 2 := ev2.trans (by decide)
  refine zsld (pc := 1390) (k := 2) hx hb hX0 hbl hbA hS (vp_in_iff.mpr ⟨by decide, by decide⟩) rfl dL_law_1390 ?_
  refine zcallVi (pc := 1391) (k := 0) (As := [.int (xs 1), .int (xs 2)]) (rest := []) ⟨hx, hb, hml, hown, hts⟩ (nw_X11_best l D c o σ (xs 1) (xs 2) hR hN h0) zc11 zV_L_157 rfl zd_X11_best ⟨Nat.le_of_ble_eq_true rfl, Nat.le_of_ble_eq_true rfl⟩ hK hP hS rfl (by decide) hl.1 rfl (Nat.le_of_ble_eq_true rfl) ⟨Nat.le_of_ble_eq_true rfl, Nat.le_of_ble_eq_true rfl⟩ dL_law_1391 (fun r3 σ4 H locs hw5 hP hS => ?_)
  obtain ⟨er3, rfl⟩ := hw5
  refine lv_aload_n (pc := 1394) hx hb dL_law_1394 rfl (lv_at hl 1 rfl) ?_
  refine lv_aload_n (pc := 1395) hx hb dL_law_1395 rfl (lv_at hl 3 rfl) ?_
  refine lv_iload_n (pc := 1396) hx hb dL_law_1396 rfl (lv_at hl 0 rfl) ?_
  refine lv_iconst (pc := 1397) (v := 1) hx hb dL_law_1397 (by decide) ?_
  refine lv_iadd (pc := 1398) hx hb dL_law_1398 ?_
  refine lv_topi (pc := 1399) (fun v6 ev6 => ?_)
  obtain rfl : v6 = 1 := ev6.trans (by decide)
  refine zsld (pc := 1399) (k := 1) hx hb hX0 hbl hbA hS (vp_in_iff.mpr ⟨by decide, by decide⟩) rfl dL_law_1399 ?_
  refine lv_aload_n (pc := 1400) hx hb dL_law_1400 rfl (lv_at hl 3 rfl) ?_
  refine lv_iload_n (pc := 1401) hx hb dL_law_1401 rfl (lv_at hl 0 rfl) ?_
  refine lv_iconst (pc := 1402) (v := 2) hx hb dL_law_1402 (by decide) ?_
  refine lv_iadd (pc := 1403) hx hb dL_law_1403 ?_
  refine lv_topi (pc := 1404) (fun v7 ev7 => ?_)
  obtain rfl : v7 = 2 := ev7.trans (by decide)
  refine zsld (pc := 1404) (k := 2) hx hb hX0 hbl hbA hS (vp_in_iff.mpr ⟨by decide, by decide⟩) rfl dL_law_1404 ?_
  refine zcallVi (pc := 1405) (k := 218) (As := [.int (xs 1), .int (xs 2)]) (rest := [.int r3]) ⟨hx, hb, hml, hown, hts⟩ (nw_X12_best l D c o σ (xs 1) (xs 2) hR m0) zc12 zV_L_160 rfl zd_X12_best ⟨Nat.le_of_ble_eq_true rfl, Nat.le_of_ble_eq_true rfl⟩ hK hP hS rfl (by decide) hl.1 rfl (Nat.le_of_ble_eq_true rfl) ⟨Nat.le_of_ble_eq_true rfl, Nat.le_of_ble_eq_true rfl⟩ dL_law_1405 (fun r8 σ9 H locs hw10 hP hS => ?_)
  obtain ⟨er8, rfl⟩ := hw10
  refine lv_icmp_eq (pc := 1408) (tgt := 1869) hx hb dL_law_1408 (by decide) (fun _ => ?_) (fun q9 => absurd (er3.trans er8.symm) q9)
  exact lw_tail l ho C00 hK hS (lv_sub hl [0, 1, 2, 3] rfl)
set_option maxHeartbeats 4000000 in
set_option maxRecDepth 100000 in
theorem lw_case35 {p : Program} {e : Env} {s : State} {m : MethodId} {below : List Frame} {meth : Method} {cd : Code} (l : Launch) {b : Nat} {xs : Nat → Int32} {o : Nat} {D : va_G} {c : zC} (ho : s.heap.size = o) (C0 : lw_At p s m meth cd b 6 xs) (hK : zKt D c s) {σ : zS} (h0 : σ.1 2 0 = 0) (h1 : σ.1 2 1 = 0) (h2 : σ.1 2 2 = 0) (ht : σ.1 0 1 = 0) (hk : σ.1 0 2 = 0) (hp : σ.1 0 3 = (-1)) (hk0 : σ.1 55 0 = 0) (hk1 : σ.1 55 1 = 0) (hk2 : σ.1 55 2 = 0) (hb210 : σ.1 210 2 = (-1)) (hb212 : σ.1 212 2 = (-1)) (hb214 : σ.1 214 2 = (-1)) (hb216 : σ.1 216 2 = (-1)) (m0 : σ.1 219 0 = 0) (m1 : σ.1 219 1 = 0) (m2 : σ.1 219 2 = 0) (mt : σ.1 218 7 = 0) (mk : σ.1 218 14 = 0) (mp : σ.1 218 15 = (-1)) (mh0 : σ.1 223 0 = 0) (mh1 : σ.1 223 1 = 0) (mh2 : σ.1 223 2 = 0) (mm0 : σ.1 239 0 = (-1)) (mm1 : σ.1 239 1 = (-1)) (mm2 : σ.1 239 2 = (-1)) (mm3 : σ.1 239 3 = (-1)) (hR : zRef o σ.2.2) (hN : σ.2.2 0 4 = o + 2) (hSp : σ.2.2 0 5 = o + 28) (hz : ∀ k j, σ.2.1 k j = 0) {H : Heap} {locs : List Loc} {ls : Array Slot} (hP : zP D c o σ H) (hS : va_S (zA o) s.heap H locs) (hl : lv_has ls 4 [(3, .int 0), (2, .ref (o + 218)), (1, .ref (o + 0)), (0, .ref b)]) : W p l e room_1 s m #[Value.ref b] below meth cd H locs 243 106038 (lw_Z below #[Value.ref b] s) (F0 m 1413 ls []) := by
  have C00 := C0
  obtain ⟨hx, hb, hr, hml, hown, hts0, hX0, hbl, hlocks, hgv⟩ := C0
  have hts : ∀ w ∈ zWl, w.before #[Value.ref b] s = true := fun w hw => hts0 w (List.mem_filter.mp hw).1
  have hown : s.vm.findClass RL = some m.cls := hown
  have hbA : ¬ zA o b := by show ¬ o ≤ b; omega
  refine lv_aload_n (pc := 1413) hx hb dL_law_1413 rfl (lv_at hl 2 rfl) ?_
  refine lv_aload_n (pc := 1414) hx hb dL_law_1414 rfl (lv_at hl 3 rfl) ?_
  refine lv_iload_n (pc := 1415) hx hb dL_law_1415 rfl (lv_at hl 0 rfl) ?_
  refine lv_iconst (pc := 1416) (v := 1) hx hb dL_law_1416 (by decide) ?_
  refine lv_iadd (pc := 1417) hx hb dL_law_1417 ?_
  refine lv_topi (pc := 1418) (fun v1 ev1 => ?_)
  obtain rfl : v1 = 1 := ev1.trans (by decide)
  refine zsld (pc := 1418) (k := 1) hx hb hX0 hbl hbA hS (vp_in_iff.mpr ⟨by decide, by decide⟩) rfl dL_law_1418 ?_
  refine zcallVi (pc := 1419) (k := 0) (As := [.int (xs 1)]) (rest := []) ⟨hx, hb, hml, hown, hts⟩ (nw_X11_sift l D c o σ (xs 1) hR hN h0) zc11 zV_L_161 rfl zd_X11_sift ⟨Nat.le_of_ble_eq_true rfl, Nat.le_of_ble_eq_true rfl⟩ hK hP hS rfl (by decide) hl.1 rfl (Nat.le_of_ble_eq_true rfl) ⟨Nat.le_of_ble_eq_true rfl, Nat.le_of_ble_eq_true rfl⟩ dL_law_1419 (fun r2 σ3 H locs hw4 hP hS => ?_)
  obtain ⟨er2, rfl⟩ := hw4
  refine lv_aload_n (pc := 1422) hx hb dL_law_1422 rfl (lv_at hl 1 rfl) ?_
  refine lv_aload_n (pc := 1423) hx hb dL_law_1423 rfl (lv_at hl 3 rfl) ?_
  refine lv_iload_n (pc := 1424) hx hb dL_law_1424 rfl (lv_at hl 0 rfl) ?_
  refine lv_iconst (pc := 1425) (v := 1) hx hb dL_law_1425 (by decide) ?_
  refine lv_iadd (pc := 1426) hx hb dL_law_1426 ?_
  refine lv_topi (pc := 1427) (fun v5 ev5 => ?_)
  obtain rfl : v5 = 1 := ev5.trans (by decide)
  refine zsld (pc := 1427) (k := 1) hx hb hX0 hbl hbA hS (vp_in_iff.mpr ⟨by decide, by decide⟩) rfl dL_law_1427 ?_
  refine zcallVi (pc := 1428) (k := 218) (As := [.int (xs 1)]) (rest := [.int r2]) ⟨hx, hb, hml, hown, hts⟩ (nw_X12_sift l D c o σ (xs 1) hR m0) zc12 zV_L_164 rfl zd_X12_sift ⟨Nat.le_of_ble_eq_true rfl, Nat.le_of_ble_eq_true rfl⟩ hK hP hS rfl (by decide) hl.1 rfl (Nat.le_of_ble_eq_true rfl) ⟨Nat.le_of_ble_eq_true rfl, Nat.le_of_ble_eq_true rfl⟩ dL_law_1428 (fun r6 σ7 H locs hw8 hP hS => ?_)
  obtain ⟨er6, rfl⟩ := hw8
  refine lv_icmp_eq (pc := 1431) (tgt := 1869) hx hb dL_law_1431 (by decide) (fun _ => ?_) (fun q9 => absurd (er2.trans er6.symm) q9)
  exact lw_tail l ho C00 hK hS (lv_sub hl [0, 1, 2, 3] rfl)
set_option maxHeartbeats 4000000 in
set_option maxRecDepth 100000 in
theorem lw_case36 {p : Program} {e : Env} {s : State} {m : MethodId} {below : List Frame} {meth : Method} {cd : Code} (l : Launch) {b : Nat} {xs : Nat → Int32} {o : Nat} {D : va_G} {c : zC} (ho : s.heap.size = o) (C0 : lw_At p s m meth cd b 6 xs) (hK : zKt D c s) {σ : zS} (h0 : σ.1 2 0 = 0) (h1 : σ.1 2 1 = 0) (h2 : σ.1 2 2 = 0) (ht : σ.1 0 1 = 0) (hk : σ.1 0 2 = 0) (hp : σ.1 0 3 = (-1)) (hk0 : σ.1 55 0 = 0) (hk1 : σ.1 55 1 = 0) (hk2 : σ.1 55 2 = 0) (hb210 : σ.1 210 2 = (-1)) (hb212 : σ.1 212 2 = (-1)) (hb214 : σ.1 214 2 = (-1)) (hb216 : σ.1 216 2 = (-1)) (m0 : σ.1 219 0 = 0) (m1 : σ.1 219 1 = 0) (m2 : σ.1 219 2 = 0) (mt : σ.1 218 7 = 0) (mk : σ.1 218 14 = 0) (mp : σ.1 218 15 = (-1)) (mh0 : σ.1 223 0 = 0) (mh1 : σ.1 223 1 = 0) (mh2 : σ.1 223 2 = 0) (mm0 : σ.1 239 0 = (-1)) (mm1 : σ.1 239 1 = (-1)) (mm2 : σ.1 239 2 = (-1)) (mm3 : σ.1 239 3 = (-1)) (hR : zRef o σ.2.2) (hN : σ.2.2 0 4 = o + 2) (hSp : σ.2.2 0 5 = o + 28) (hz : ∀ k j, σ.2.1 k j = 0) {H : Heap} {locs : List Loc} {ls : Array Slot} (hP : zP D c o σ H) (hS : va_S (zA o) s.heap H locs) (hl : lv_has ls 4 [(3, .int 0), (2, .ref (o + 218)), (1, .ref (o + 0)), (0, .ref b)]) : W p l e room_1 s m #[Value.ref b] below meth cd H locs 243 106038 (lw_Z below #[Value.ref b] s) (F0 m 1436 ls []) := by
  have C00 := C0
  obtain ⟨hx, hb, hr, hml, hown, hts0, hX0, hbl, hlocks, hgv⟩ := C0
  have hts : ∀ w ∈ zWl, w.before #[Value.ref b] s = true := fun w hw => hts0 w (List.mem_filter.mp hw).1
  have hown : s.vm.findClass RL = some m.cls := hown
  have hbA : ¬ zA o b := by show ¬ o ≤ b; omega
  refine lv_aload_n (pc := 1436) hx hb dL_law_1436 rfl (lv_at hl 2 rfl) ?_
  refine lv_aload_n (pc := 1437) hx hb dL_law_1437 rfl (lv_at hl 3 rfl) ?_
  refine lv_iload_n (pc := 1438) hx hb dL_law_1438 rfl (lv_at hl 0 rfl) ?_
  refine lv_iconst (pc := 1439) (v := 1) hx hb dL_law_1439 (by decide) ?_
  refine lv_iadd (pc := 1440) hx hb dL_law_1440 ?_
  refine lv_topi (pc := 1441) (fun v1 ev1 => ?_)
  obtain rfl : v1 = 1 := ev1.trans (by decide)
  refine zsld (pc := 1441) (k := 1) hx hb hX0 hbl hbA hS (vp_in_iff.mpr ⟨by decide, by decide⟩) rfl dL_law_1441 ?_
  refine lv_aload_n (pc := 1442) hx hb dL_law_1442 rfl (lv_at hl 3 rfl) ?_
  refine lv_iload_n (pc := 1443) hx hb dL_law_1443 rfl (lv_at hl 0 rfl) ?_
  refine lv_iconst (pc := 1444) (v := 2) hx hb dL_law_1444 (by decide) ?_
  refine lv_iadd (pc := 1445) hx hb dL_law_1445 ?_
  refine lv_topi (pc := 1446) (fun v2 ev2 => ?_)
  obtain rfl : v2 = 2 := ev2.trans (by decide)
  refine zsld (pc := 1446) (k := 2) hx hb hX0 hbl hbA hS (vp_in_iff.mpr ⟨by decide, by decide⟩) rfl dL_law_1446 ?_
  refine lv_aload_n (pc := 1447) hx hb dL_law_1447 rfl (lv_at hl 3 rfl) ?_
  refine lv_iload_n (pc := 1448) hx hb dL_law_1448 rfl (lv_at hl 0 rfl) ?_
  refine lv_iconst (pc := 1449) (v := 3) hx hb dL_law_1449 (by decide) ?_
  refine lv_iadd (pc := 1450) hx hb dL_law_1450 ?_
  refine lv_topi (pc := 1451) (fun v3 ev3 => ?_)
  obtain rfl : v3 = 3 := ev3.trans (by decide)
  refine zsld (pc := 1451) (k := 3) hx hb hX0 hbl hbA hS (vp_in_iff.mpr ⟨by decide, by decide⟩) rfl dL_law_1451 ?_
  refine zcallVi (pc := 1452) (k := 0) (As := [.int (xs 1), .int (xs 2), .int (xs 3)]) (rest := []) ⟨hx, hb, hml, hown, hts⟩ (nw_X11_ways l D c o σ (xs 1) (xs 2) (xs 3) hR hN h0) zc11 zV_L_165 rfl zd_X11_ways ⟨Nat.le_of_ble_eq_true rfl, Nat.le_of_ble_eq_true rfl⟩ hK hP hS rfl (by decide) hl.1 rfl (Nat.le_of_ble_eq_true rfl) ⟨Nat.le_of_ble_eq_true rfl, Nat.le_of_ble_eq_true rfl⟩ dL_law_1452 (fun r4 σ5 H locs hw6 hP hS => ?_)
  obtain ⟨er4, rfl⟩ := hw6
  refine lv_aload_n (pc := 1455) hx hb dL_law_1455 rfl (lv_at hl 1 rfl) ?_
  refine lv_aload_n (pc := 1456) hx hb dL_law_1456 rfl (lv_at hl 3 rfl) ?_
  refine lv_iload_n (pc := 1457) hx hb dL_law_1457 rfl (lv_at hl 0 rfl) ?_
  refine lv_iconst (pc := 1458) (v := 1) hx hb dL_law_1458 (by decide) ?_
  refine lv_iadd (pc := 1459) hx hb dL_law_1459 ?_
  refine lv_topi (pc := 1460) (fun v7 ev7 => ?_)
  obtain rfl : v7 = 1 := ev7.trans (by decide)
  refine zsld (pc := 1460) (k := 1) hx hb hX0 hbl hbA hS (vp_in_iff.mpr ⟨by decide, by decide⟩) rfl dL_law_1460 ?_
  refine lv_aload_n (pc := 1461) hx hb dL_law_1461 rfl (lv_at hl 3 rfl) ?_
  refine lv_iload_n (pc := 1462) hx hb dL_law_1462 rfl (lv_at hl 0 rfl) ?_
  refine lv_iconst (pc := 1463) (v := 2) hx hb dL_law_1463 (by decide) ?_
  refine lv_iadd (pc := 1464) hx hb dL_law_1464 ?_
  refine lv_topi (pc := 1465) (fun v8 ev8 => ?_)
  obtain rfl : v8 = 2 := ev8.trans (by decide)
  refine zsld (pc := 1465) (k := 2) hx hb hX0 hbl hbA hS (vp_in_iff.mpr ⟨by decide, by decide⟩) rfl dL_law_1465 ?_
  refine lv_aload_n (pc := 1466) hx hb dL_law_1466 rfl (lv_at hl 3 rfl) ?_
  refine lv_iload_n (pc := 1467) hx hb dL_law_1467 rfl (lv_at hl 0 rfl) ?_
  refine lv_iconst (pc := 1468) (v := 3) hx hb dL_law_1468 (by decide) ?_
  refine lv_iadd (pc := 1469) hx hb dL_law_1469 ?_
  refine lv_topi (pc := 1470) (fun v9 ev9 => ?_)
  obtain rfl : v9 = 3 := ev9.trans (by decide)
  refine zsld (pc := 1470) (k := 3) hx hb hX0 hbl hbA hS (vp_in_iff.mpr ⟨by decide, by decide⟩) rfl dL_law_1470 ?_
  refine zcallVi (pc := 1471) (k := 218) (As := [.int (xs 1), .int (xs 2), .int (xs 3)]) (rest := [.int r4]) ⟨hx, hb, hml, hown, hts⟩ (nw_X12_ways l D c o σ (xs 1) (xs 2) (xs 3) hR m0) zc12 zV_L_168 rfl zd_X12_ways ⟨Nat.le_of_ble_eq_true rfl, Nat.le_of_ble_eq_true rfl⟩ hK hP hS rfl (by decide) hl.1 rfl (Nat.le_of_ble_eq_true rfl) ⟨Nat.le_of_ble_eq_true rfl, Nat.le_of_ble_eq_true rfl⟩ dL_law_1471 (fun r10 σ11 H locs hw12 hP hS => ?_)
  obtain ⟨er10, rfl⟩ := hw12
  refine lv_icmp_eq (pc := 1474) (tgt := 1869) hx hb dL_law_1474 (by decide) (fun _ => ?_) (fun q9 => absurd (er4.trans er10.symm) q9)
  exact lw_tail l ho C00 hK hS (lv_sub hl [0, 1, 2, 3] rfl)
set_option maxHeartbeats 4000000 in
set_option maxRecDepth 100000 in
theorem lw_case37 {p : Program} {e : Env} {s : State} {m : MethodId} {below : List Frame} {meth : Method} {cd : Code} (l : Launch) {b : Nat} {xs : Nat → Int32} {o : Nat} {D : va_G} {c : zC} (ho : s.heap.size = o) (C0 : lw_At p s m meth cd b 6 xs) (hK : zKt D c s) {σ : zS} (h0 : σ.1 2 0 = 0) (h1 : σ.1 2 1 = 0) (h2 : σ.1 2 2 = 0) (ht : σ.1 0 1 = 0) (hk : σ.1 0 2 = 0) (hp : σ.1 0 3 = (-1)) (hk0 : σ.1 55 0 = 0) (hk1 : σ.1 55 1 = 0) (hk2 : σ.1 55 2 = 0) (hb210 : σ.1 210 2 = (-1)) (hb212 : σ.1 212 2 = (-1)) (hb214 : σ.1 214 2 = (-1)) (hb216 : σ.1 216 2 = (-1)) (m0 : σ.1 219 0 = 0) (m1 : σ.1 219 1 = 0) (m2 : σ.1 219 2 = 0) (mt : σ.1 218 7 = 0) (mk : σ.1 218 14 = 0) (mp : σ.1 218 15 = (-1)) (mh0 : σ.1 223 0 = 0) (mh1 : σ.1 223 1 = 0) (mh2 : σ.1 223 2 = 0) (mm0 : σ.1 239 0 = (-1)) (mm1 : σ.1 239 1 = (-1)) (mm2 : σ.1 239 2 = (-1)) (mm3 : σ.1 239 3 = (-1)) (hR : zRef o σ.2.2) (hN : σ.2.2 0 4 = o + 2) (hSp : σ.2.2 0 5 = o + 28) (hz : ∀ k j, σ.2.1 k j = 0) {H : Heap} {locs : List Loc} {ls : Array Slot} (hP : zP D c o σ H) (hS : va_S (zA o) s.heap H locs) (hl : lv_has ls 4 [(3, .int 0), (2, .ref (o + 218)), (1, .ref (o + 0)), (0, .ref b)]) : W p l e room_1 s m #[Value.ref b] below meth cd H locs 243 106038 (lw_Z below #[Value.ref b] s) (F0 m 1479 ls []) := by
  have C00 := C0
  obtain ⟨hx, hb, hr, hml, hown, hts0, hX0, hbl, hlocks, hgv⟩ := C0
  have hts : ∀ w ∈ zWl, w.before #[Value.ref b] s = true := fun w hw => hts0 w (List.mem_filter.mp hw).1
  have hown : s.vm.findClass RL = some m.cls := hown
  have hbA : ¬ zA o b := by show ¬ o ≤ b; omega
  refine lv_aload_n (pc := 1479) hx hb dL_law_1479 rfl (lv_at hl 2 rfl) ?_
  refine lv_aload_n (pc := 1480) hx hb dL_law_1480 rfl (lv_at hl 3 rfl) ?_
  refine lv_iload_n (pc := 1481) hx hb dL_law_1481 rfl (lv_at hl 0 rfl) ?_
  refine lv_iconst (pc := 1482) (v := 1) hx hb dL_law_1482 (by decide) ?_
  refine lv_iadd (pc := 1483) hx hb dL_law_1483 ?_
  refine lv_topi (pc := 1484) (fun v1 ev1 => ?_)
  obtain rfl : v1 = 1 := ev1.trans (by decide)
  refine zsld (pc := 1484) (k := 1) hx hb hX0 hbl hbA hS (vp_in_iff.mpr ⟨by decide, by decide⟩) rfl dL_law_1484 ?_
  refine lv_aload_n (pc := 1485) hx hb dL_law_1485 rfl (lv_at hl 3 rfl) ?_
  refine lv_iload_n (pc := 1486) hx hb dL_law_1486 rfl (lv_at hl 0 rfl) ?_
  refine lv_iconst (pc := 1487) (v := 2) hx hb dL_law_1487 (by decide) ?_
  refine lv_iadd (pc := 1488) hx hb dL_law_1488 ?_
  refine lv_topi (pc := 1489) (fun v2 ev2 => ?_)
  obtain rfl : v2 = 2 := ev2.trans (by decide)
  refine zsld (pc := 1489) (k := 2) hx hb hX0 hbl hbA hS (vp_in_iff.mpr ⟨by decide, by decide⟩) rfl dL_law_1489 ?_
  refine zcallVi (pc := 1490) (k := 0) (As := [.int (xs 1), .int (xs 2)]) (rest := []) ⟨hx, hb, hml, hown, hts⟩ (nw_X11_map l D c o σ (xs 1) (xs 2) hR hN h0) zc11 zV_L_169 rfl zd_X11_map ⟨Nat.le_of_ble_eq_true rfl, Nat.le_of_ble_eq_true rfl⟩ hK hP hS rfl (by decide) hl.1 rfl (Nat.le_of_ble_eq_true rfl) ⟨Nat.le_of_ble_eq_true rfl, Nat.le_of_ble_eq_true rfl⟩ dL_law_1490 (fun r3 σ4 H locs hw5 hP hS => ?_)
  obtain ⟨er3, rfl⟩ := hw5
  refine lv_aload_n (pc := 1493) hx hb dL_law_1493 rfl (lv_at hl 1 rfl) ?_
  refine lv_aload_n (pc := 1494) hx hb dL_law_1494 rfl (lv_at hl 3 rfl) ?_
  refine lv_iload_n (pc := 1495) hx hb dL_law_1495 rfl (lv_at hl 0 rfl) ?_
  refine lv_iconst (pc := 1496) (v := 1) hx hb dL_law_1496 (by decide) ?_
  refine lv_iadd (pc := 1497) hx hb dL_law_1497 ?_
  refine lv_topi (pc := 1498) (fun v6 ev6 => ?_)
  obtain rfl : v6 = 1 := ev6.trans (by decide)
  refine zsld (pc := 1498) (k := 1) hx hb hX0 hbl hbA hS (vp_in_iff.mpr ⟨by decide, by decide⟩) rfl dL_law_1498 ?_
  refine lv_aload_n (pc := 1499) hx hb dL_law_1499 rfl (lv_at hl 3 rfl) ?_
  refine lv_iload_n (pc := 1500) hx hb dL_law_1500 rfl (lv_at hl 0 rfl) ?_
  refine lv_iconst (pc := 1501) (v := 2) hx hb dL_law_1501 (by decide) ?_
  refine lv_iadd (pc := 1502) hx hb dL_law_1502 ?_
  refine lv_topi (pc := 1503) (fun v7 ev7 => ?_)
  obtain rfl : v7 = 2 := ev7.trans (by decide)
  refine zsld (pc := 1503) (k := 2) hx hb hX0 hbl hbA hS (vp_in_iff.mpr ⟨by decide, by decide⟩) rfl dL_law_1503 ?_
  refine zcallVi (pc := 1504) (k := 218) (As := [.int (xs 1), .int (xs 2)]) (rest := [.int r3]) ⟨hx, hb, hml, hown, hts⟩ (nw_X12_map l D c o σ (xs 1) (xs 2) hR m0) zc12 zV_L_172 rfl zd_X12_map ⟨Nat.le_of_ble_eq_true rfl, Nat.le_of_ble_eq_true rfl⟩ hK hP hS rfl (by decide) hl.1 rfl (Nat.le_of_ble_eq_true rfl) ⟨Nat.le_of_ble_eq_true rfl, Nat.le_of_ble_eq_true rfl⟩ dL_law_1504 (fun r8 σ9 H locs hw10 hP hS => ?_)
  obtain ⟨er8, rfl⟩ := hw10
  refine lv_icmp_eq (pc := 1507) (tgt := 1869) hx hb dL_law_1507 (by decide) (fun _ => ?_) (fun q9 => absurd (er3.trans er8.symm) q9)
  exact lw_tail l ho C00 hK hS (lv_sub hl [0, 1, 2, 3] rfl)
set_option maxHeartbeats 4000000 in
set_option maxRecDepth 100000 in
theorem lw_case38 {p : Program} {e : Env} {s : State} {m : MethodId} {below : List Frame} {meth : Method} {cd : Code} (l : Launch) {b : Nat} {xs : Nat → Int32} {o : Nat} {D : va_G} {c : zC} (ho : s.heap.size = o) (C0 : lw_At p s m meth cd b 6 xs) (hK : zKt D c s) {σ : zS} (h0 : σ.1 2 0 = 0) (h1 : σ.1 2 1 = 0) (h2 : σ.1 2 2 = 0) (ht : σ.1 0 1 = 0) (hk : σ.1 0 2 = 0) (hp : σ.1 0 3 = (-1)) (hk0 : σ.1 55 0 = 0) (hk1 : σ.1 55 1 = 0) (hk2 : σ.1 55 2 = 0) (hb210 : σ.1 210 2 = (-1)) (hb212 : σ.1 212 2 = (-1)) (hb214 : σ.1 214 2 = (-1)) (hb216 : σ.1 216 2 = (-1)) (m0 : σ.1 219 0 = 0) (m1 : σ.1 219 1 = 0) (m2 : σ.1 219 2 = 0) (mt : σ.1 218 7 = 0) (mk : σ.1 218 14 = 0) (mp : σ.1 218 15 = (-1)) (mh0 : σ.1 223 0 = 0) (mh1 : σ.1 223 1 = 0) (mh2 : σ.1 223 2 = 0) (mm0 : σ.1 239 0 = (-1)) (mm1 : σ.1 239 1 = (-1)) (mm2 : σ.1 239 2 = (-1)) (mm3 : σ.1 239 3 = (-1)) (hR : zRef o σ.2.2) (hN : σ.2.2 0 4 = o + 2) (hSp : σ.2.2 0 5 = o + 28) (hz : ∀ k j, σ.2.1 k j = 0) {H : Heap} {locs : List Loc} {ls : Array Slot} (hP : zP D c o σ H) (hS : va_S (zA o) s.heap H locs) (hl : lv_has ls 4 [(3, .int 0), (2, .ref (o + 218)), (1, .ref (o + 0)), (0, .ref b)]) : W p l e room_1 s m #[Value.ref b] below meth cd H locs 243 106038 (lw_Z below #[Value.ref b] s) (F0 m 1512 ls []) := by
  have C00 := C0
  obtain ⟨hx, hb, hr, hml, hown, hts0, hX0, hbl, hlocks, hgv⟩ := C0
  have hts : ∀ w ∈ zWl, w.before #[Value.ref b] s = true := fun w hw => hts0 w (List.mem_filter.mp hw).1
  have hown : s.vm.findClass RL = some m.cls := hown
  have hbA : ¬ zA o b := by show ¬ o ≤ b; omega
  refine lv_aload_n (pc := 1512) hx hb dL_law_1512 rfl (lv_at hl 2 rfl) ?_
  refine lv_aload_n (pc := 1513) hx hb dL_law_1513 rfl (lv_at hl 3 rfl) ?_
  refine lv_iload_n (pc := 1514) hx hb dL_law_1514 rfl (lv_at hl 0 rfl) ?_
  refine lv_iconst (pc := 1515) (v := 1) hx hb dL_law_1515 (by decide) ?_
  refine lv_iadd (pc := 1516) hx hb dL_law_1516 ?_
  refine lv_topi (pc := 1517) (fun v1 ev1 => ?_)
  obtain rfl : v1 = 1 := ev1.trans (by decide)
  refine zsld (pc := 1517) (k := 1) hx hb hX0 hbl hbA hS (vp_in_iff.mpr ⟨by decide, by decide⟩) rfl dL_law_1517 ?_
  refine lv_aload_n (pc := 1518) hx hb dL_law_1518 rfl (lv_at hl 3 rfl) ?_
  refine lv_iload_n (pc := 1519) hx hb dL_law_1519 rfl (lv_at hl 0 rfl) ?_
  refine lv_iconst (pc := 1520) (v := 2) hx hb dL_law_1520 (by decide) ?_
  refine lv_iadd (pc := 1521) hx hb dL_law_1521 ?_
  refine lv_topi (pc := 1522) (fun v2 ev2 => ?_)
  obtain rfl : v2 = 2 := ev2.trans (by decide)
  refine zsld (pc := 1522) (k := 2) hx hb hX0 hbl hbA hS (vp_in_iff.mpr ⟨by decide, by decide⟩) rfl dL_law_1522 ?_
  refine lv_aload_n (pc := 1523) hx hb dL_law_1523 rfl (lv_at hl 3 rfl) ?_
  refine lv_iload_n (pc := 1524) hx hb dL_law_1524 rfl (lv_at hl 0 rfl) ?_
  refine lv_iconst (pc := 1525) (v := 3) hx hb dL_law_1525 (by decide) ?_
  refine lv_iadd (pc := 1526) hx hb dL_law_1526 ?_
  refine lv_topi (pc := 1527) (fun v3 ev3 => ?_)
  obtain rfl : v3 = 3 := ev3.trans (by decide)
  refine zsld (pc := 1527) (k := 3) hx hb hX0 hbl hbA hS (vp_in_iff.mpr ⟨by decide, by decide⟩) rfl dL_law_1527 ?_
  refine zcallVi (pc := 1528) (k := 0) (As := [.int (xs 1), .int (xs 2), .int (xs 3)]) (rest := []) ⟨hx, hb, hml, hown, hts⟩ (nw_X11_cuts l D c o σ (xs 1) (xs 2) (xs 3) hR hN h0) zc11 zV_L_173 rfl zd_X11_cuts ⟨Nat.le_of_ble_eq_true rfl, Nat.le_of_ble_eq_true rfl⟩ hK hP hS rfl (by decide) hl.1 rfl (Nat.le_of_ble_eq_true rfl) ⟨Nat.le_of_ble_eq_true rfl, Nat.le_of_ble_eq_true rfl⟩ dL_law_1528 (fun r4 σ5 H locs hw6 hP hS => ?_)
  obtain ⟨er4, rfl⟩ := hw6
  refine lv_aload_n (pc := 1531) hx hb dL_law_1531 rfl (lv_at hl 1 rfl) ?_
  refine lv_aload_n (pc := 1532) hx hb dL_law_1532 rfl (lv_at hl 3 rfl) ?_
  refine lv_iload_n (pc := 1533) hx hb dL_law_1533 rfl (lv_at hl 0 rfl) ?_
  refine lv_iconst (pc := 1534) (v := 1) hx hb dL_law_1534 (by decide) ?_
  refine lv_iadd (pc := 1535) hx hb dL_law_1535 ?_
  refine lv_topi (pc := 1536) (fun v7 ev7 => ?_)
  obtain rfl : v7 = 1 := ev7.trans (by decide)
  refine zsld (pc := 1536) (k := 1) hx hb hX0 hbl hbA hS (vp_in_iff.mpr ⟨by decide, by decide⟩) rfl dL_law_1536 ?_
  refine lv_aload_n (pc := 1537) hx hb dL_law_1537 rfl (lv_at hl 3 rfl) ?_
  refine lv_iload_n (pc := 1538) hx hb dL_law_1538 rfl (lv_at hl 0 rfl) ?_
  refine lv_iconst (pc := 1539) (v := 2) hx hb dL_law_1539 (by decide) ?_
  refine lv_iadd (pc := 1540) hx hb dL_law_1540 ?_
  refine lv_topi (pc := 1541) (fun v8 ev8 => ?_)
  obtain rfl : v8 = 2 := ev8.trans (by decide)
  refine zsld (pc := 1541) (k := 2) hx hb hX0 hbl hbA hS (vp_in_iff.mpr ⟨by decide, by decide⟩) rfl dL_law_1541 ?_
  refine lv_aload_n (pc := 1542) hx hb dL_law_1542 rfl (lv_at hl 3 rfl) ?_
  refine lv_iload_n (pc := 1543) hx hb dL_law_1543 rfl (lv_at hl 0 rfl) ?_
  refine lv_iconst (pc := 1544) (v := 3) hx hb dL_law_1544 (by decide) ?_
  refine lv_iadd (pc := 1545) hx hb dL_law_1545 ?_
  refine lv_topi (pc := 1546) (fun v9 ev9 => ?_)
  obtain rfl : v9 = 3 := ev9.trans (by decide)
  refine zsld (pc := 1546) (k := 3) hx hb hX0 hbl hbA hS (vp_in_iff.mpr ⟨by decide, by decide⟩) rfl dL_law_1546 ?_
  refine zcallVi (pc := 1547) (k := 218) (As := [.int (xs 1), .int (xs 2), .int (xs 3)]) (rest := [.int r4]) ⟨hx, hb, hml, hown, hts⟩ (nw_X12_cuts l D c o σ (xs 1) (xs 2) (xs 3) hR m0) zc12 zV_L_176 rfl zd_X12_cuts ⟨Nat.le_of_ble_eq_true rfl, Nat.le_of_ble_eq_true rfl⟩ hK hP hS rfl (by decide) hl.1 rfl (Nat.le_of_ble_eq_true rfl) ⟨Nat.le_of_ble_eq_true rfl, Nat.le_of_ble_eq_true rfl⟩ dL_law_1547 (fun r10 σ11 H locs hw12 hP hS => ?_)
  obtain ⟨er10, rfl⟩ := hw12
  refine lv_icmp_eq (pc := 1550) (tgt := 1869) hx hb dL_law_1550 (by decide) (fun _ => ?_) (fun q9 => absurd (er4.trans er10.symm) q9)
  exact lw_tail l ho C00 hK hS (lv_sub hl [0, 1, 2, 3] rfl)
set_option maxHeartbeats 4000000 in
set_option maxRecDepth 100000 in
theorem lw_case39 {p : Program} {e : Env} {s : State} {m : MethodId} {below : List Frame} {meth : Method} {cd : Code} (l : Launch) {b : Nat} {xs : Nat → Int32} {o : Nat} {D : va_G} {c : zC} (ho : s.heap.size = o) (C0 : lw_At p s m meth cd b 6 xs) (hK : zKt D c s) {σ : zS} (h0 : σ.1 2 0 = 0) (h1 : σ.1 2 1 = 0) (h2 : σ.1 2 2 = 0) (ht : σ.1 0 1 = 0) (hk : σ.1 0 2 = 0) (hp : σ.1 0 3 = (-1)) (hk0 : σ.1 55 0 = 0) (hk1 : σ.1 55 1 = 0) (hk2 : σ.1 55 2 = 0) (hb210 : σ.1 210 2 = (-1)) (hb212 : σ.1 212 2 = (-1)) (hb214 : σ.1 214 2 = (-1)) (hb216 : σ.1 216 2 = (-1)) (m0 : σ.1 219 0 = 0) (m1 : σ.1 219 1 = 0) (m2 : σ.1 219 2 = 0) (mt : σ.1 218 7 = 0) (mk : σ.1 218 14 = 0) (mp : σ.1 218 15 = (-1)) (mh0 : σ.1 223 0 = 0) (mh1 : σ.1 223 1 = 0) (mh2 : σ.1 223 2 = 0) (mm0 : σ.1 239 0 = (-1)) (mm1 : σ.1 239 1 = (-1)) (mm2 : σ.1 239 2 = (-1)) (mm3 : σ.1 239 3 = (-1)) (hR : zRef o σ.2.2) (hN : σ.2.2 0 4 = o + 2) (hSp : σ.2.2 0 5 = o + 28) (hz : ∀ k j, σ.2.1 k j = 0) {H : Heap} {locs : List Loc} {ls : Array Slot} (hP : zP D c o σ H) (hS : va_S (zA o) s.heap H locs) (hl : lv_has ls 4 [(3, .int 0), (2, .ref (o + 218)), (1, .ref (o + 0)), (0, .ref b)]) : W p l e room_1 s m #[Value.ref b] below meth cd H locs 243 106038 (lw_Z below #[Value.ref b] s) (F0 m 1555 ls []) := by
  have C00 := C0
  obtain ⟨hx, hb, hr, hml, hown, hts0, hX0, hbl, hlocks, hgv⟩ := C0
  have hts : ∀ w ∈ zWl, w.before #[Value.ref b] s = true := fun w hw => hts0 w (List.mem_filter.mp hw).1
  have hown : s.vm.findClass RL = some m.cls := hown
  have hbA : ¬ zA o b := by show ¬ o ≤ b; omega
  refine lv_aload_n (pc := 1555) hx hb dL_law_1555 rfl (lv_at hl 2 rfl) ?_
  refine lv_aload_n (pc := 1556) hx hb dL_law_1556 rfl (lv_at hl 3 rfl) ?_
  refine lv_iload_n (pc := 1557) hx hb dL_law_1557 rfl (lv_at hl 0 rfl) ?_
  refine lv_iconst (pc := 1558) (v := 1) hx hb dL_law_1558 (by decide) ?_
  refine lv_iadd (pc := 1559) hx hb dL_law_1559 ?_
  refine lv_topi (pc := 1560) (fun v1 ev1 => ?_)
  obtain rfl : v1 = 1 := ev1.trans (by decide)
  refine zsld (pc := 1560) (k := 1) hx hb hX0 hbl hbA hS (vp_in_iff.mpr ⟨by decide, by decide⟩) rfl dL_law_1560 ?_
  refine lv_aload_n (pc := 1561) hx hb dL_law_1561 rfl (lv_at hl 3 rfl) ?_
  refine lv_iload_n (pc := 1562) hx hb dL_law_1562 rfl (lv_at hl 0 rfl) ?_
  refine lv_iconst (pc := 1563) (v := 2) hx hb dL_law_1563 (by decide) ?_
  refine lv_iadd (pc := 1564) hx hb dL_law_1564 ?_
  refine lv_topi (pc := 1565) (fun v2 ev2 => ?_)
  obtain rfl : v2 = 2 := ev2.trans (by decide)
  refine zsld (pc := 1565) (k := 2) hx hb hX0 hbl hbA hS (vp_in_iff.mpr ⟨by decide, by decide⟩) rfl dL_law_1565 ?_
  refine zcallVi (pc := 1566) (k := 0) (As := [.int (xs 1), .int (xs 2)]) (rest := []) ⟨hx, hb, hml, hown, hts⟩ (nw_X11_judge l D c o σ (xs 1) (xs 2) hR hN h0) zc11 zV_L_177 rfl zd_X11_judge ⟨Nat.le_of_ble_eq_true rfl, Nat.le_of_ble_eq_true rfl⟩ hK hP hS rfl (by decide) hl.1 rfl (Nat.le_of_ble_eq_true rfl) ⟨Nat.le_of_ble_eq_true rfl, Nat.le_of_ble_eq_true rfl⟩ dL_law_1566 (fun r3 σ4 H locs hw5 hP hS => ?_)
  obtain ⟨er3, rfl⟩ := hw5
  refine lv_aload_n (pc := 1569) hx hb dL_law_1569 rfl (lv_at hl 1 rfl) ?_
  refine lv_aload_n (pc := 1570) hx hb dL_law_1570 rfl (lv_at hl 3 rfl) ?_
  refine lv_iload_n (pc := 1571) hx hb dL_law_1571 rfl (lv_at hl 0 rfl) ?_
  refine lv_iconst (pc := 1572) (v := 1) hx hb dL_law_1572 (by decide) ?_
  refine lv_iadd (pc := 1573) hx hb dL_law_1573 ?_
  refine lv_topi (pc := 1574) (fun v6 ev6 => ?_)
  obtain rfl : v6 = 1 := ev6.trans (by decide)
  refine zsld (pc := 1574) (k := 1) hx hb hX0 hbl hbA hS (vp_in_iff.mpr ⟨by decide, by decide⟩) rfl dL_law_1574 ?_
  refine lv_aload_n (pc := 1575) hx hb dL_law_1575 rfl (lv_at hl 3 rfl) ?_
  refine lv_iload_n (pc := 1576) hx hb dL_law_1576 rfl (lv_at hl 0 rfl) ?_
  refine lv_iconst (pc := 1577) (v := 2) hx hb dL_law_1577 (by decide) ?_
  refine lv_iadd (pc := 1578) hx hb dL_law_1578 ?_
  refine lv_topi (pc := 1579) (fun v7 ev7 => ?_)
  obtain rfl : v7 = 2 := ev7.trans (by decide)
  refine zsld (pc := 1579) (k := 2) hx hb hX0 hbl hbA hS (vp_in_iff.mpr ⟨by decide, by decide⟩) rfl dL_law_1579 ?_
  refine zcallVi (pc := 1580) (k := 218) (As := [.int (xs 1), .int (xs 2)]) (rest := [.int r3]) ⟨hx, hb, hml, hown, hts⟩ (nw_X12_judge l D c o σ (xs 1) (xs 2) hR m0) zc12 zV_L_180 rfl zd_X12_judge ⟨Nat.le_of_ble_eq_true rfl, Nat.le_of_ble_eq_true rfl⟩ hK hP hS rfl (by decide) hl.1 rfl (Nat.le_of_ble_eq_true rfl) ⟨Nat.le_of_ble_eq_true rfl, Nat.le_of_ble_eq_true rfl⟩ dL_law_1580 (fun r8 σ9 H locs hw10 hP hS => ?_)
  obtain ⟨er8, rfl⟩ := hw10
  refine lv_icmp_eq (pc := 1583) (tgt := 1869) hx hb dL_law_1583 (by decide) (fun _ => ?_) (fun q9 => absurd (er3.trans er8.symm) q9)
  exact lw_tail l ho C00 hK hS (lv_sub hl [0, 1, 2, 3] rfl)
set_option maxHeartbeats 4000000 in
set_option maxRecDepth 100000 in
theorem lw_case40 {p : Program} {e : Env} {s : State} {m : MethodId} {below : List Frame} {meth : Method} {cd : Code} (l : Launch) {b : Nat} {xs : Nat → Int32} {o : Nat} {D : va_G} {c : zC} (ho : s.heap.size = o) (C0 : lw_At p s m meth cd b 6 xs) (hK : zKt D c s) {σ : zS} (h0 : σ.1 2 0 = 0) (h1 : σ.1 2 1 = 0) (h2 : σ.1 2 2 = 0) (ht : σ.1 0 1 = 0) (hk : σ.1 0 2 = 0) (hp : σ.1 0 3 = (-1)) (hk0 : σ.1 55 0 = 0) (hk1 : σ.1 55 1 = 0) (hk2 : σ.1 55 2 = 0) (hb210 : σ.1 210 2 = (-1)) (hb212 : σ.1 212 2 = (-1)) (hb214 : σ.1 214 2 = (-1)) (hb216 : σ.1 216 2 = (-1)) (m0 : σ.1 219 0 = 0) (m1 : σ.1 219 1 = 0) (m2 : σ.1 219 2 = 0) (mt : σ.1 218 7 = 0) (mk : σ.1 218 14 = 0) (mp : σ.1 218 15 = (-1)) (mh0 : σ.1 223 0 = 0) (mh1 : σ.1 223 1 = 0) (mh2 : σ.1 223 2 = 0) (mm0 : σ.1 239 0 = (-1)) (mm1 : σ.1 239 1 = (-1)) (mm2 : σ.1 239 2 = (-1)) (mm3 : σ.1 239 3 = (-1)) (hR : zRef o σ.2.2) (hN : σ.2.2 0 4 = o + 2) (hSp : σ.2.2 0 5 = o + 28) (hz : ∀ k j, σ.2.1 k j = 0) {H : Heap} {locs : List Loc} {ls : Array Slot} (hP : zP D c o σ H) (hS : va_S (zA o) s.heap H locs) (hl : lv_has ls 4 [(3, .int 0), (2, .ref (o + 218)), (1, .ref (o + 0)), (0, .ref b)]) : W p l e room_1 s m #[Value.ref b] below meth cd H locs 243 106038 (lw_Z below #[Value.ref b] s) (F0 m 1588 ls []) := by
  have C00 := C0
  obtain ⟨hx, hb, hr, hml, hown, hts0, hX0, hbl, hlocks, hgv⟩ := C0
  have hts : ∀ w ∈ zWl, w.before #[Value.ref b] s = true := fun w hw => hts0 w (List.mem_filter.mp hw).1
  have hown : s.vm.findClass RL = some m.cls := hown
  have hbA : ¬ zA o b := by show ¬ o ≤ b; omega
  refine lv_aload_n (pc := 1588) hx hb dL_law_1588 rfl (lv_at hl 2 rfl) ?_
  refine lv_aload_n (pc := 1589) hx hb dL_law_1589 rfl (lv_at hl 3 rfl) ?_
  refine lv_iload_n (pc := 1590) hx hb dL_law_1590 rfl (lv_at hl 0 rfl) ?_
  refine lv_iconst (pc := 1591) (v := 1) hx hb dL_law_1591 (by decide) ?_
  refine lv_iadd (pc := 1592) hx hb dL_law_1592 ?_
  refine lv_topi (pc := 1593) (fun v1 ev1 => ?_)
  obtain rfl : v1 = 1 := ev1.trans (by decide)
  refine zsld (pc := 1593) (k := 1) hx hb hX0 hbl hbA hS (vp_in_iff.mpr ⟨by decide, by decide⟩) rfl dL_law_1593 ?_
  refine lv_aload_n (pc := 1594) hx hb dL_law_1594 rfl (lv_at hl 3 rfl) ?_
  refine lv_iload_n (pc := 1595) hx hb dL_law_1595 rfl (lv_at hl 0 rfl) ?_
  refine lv_iconst (pc := 1596) (v := 2) hx hb dL_law_1596 (by decide) ?_
  refine lv_iadd (pc := 1597) hx hb dL_law_1597 ?_
  refine lv_topi (pc := 1598) (fun v2 ev2 => ?_)
  obtain rfl : v2 = 2 := ev2.trans (by decide)
  refine zsld (pc := 1598) (k := 2) hx hb hX0 hbl hbA hS (vp_in_iff.mpr ⟨by decide, by decide⟩) rfl dL_law_1598 ?_
  refine zcallVi (pc := 1599) (k := 0) (As := [.int (xs 1), .int (xs 2)]) (rest := []) ⟨hx, hb, hml, hown, hts⟩ (nw_X11_takes l D c o σ (xs 1) (xs 2) hR hN h0) zc11 zV_L_181 rfl zd_X11_takes ⟨Nat.le_of_ble_eq_true rfl, Nat.le_of_ble_eq_true rfl⟩ hK hP hS rfl (by decide) hl.1 rfl (Nat.le_of_ble_eq_true rfl) ⟨Nat.le_of_ble_eq_true rfl, Nat.le_of_ble_eq_true rfl⟩ dL_law_1599 (fun r3 σ4 H locs hw5 hP hS => ?_)
  obtain ⟨er3, rfl⟩ := hw5
  refine lv_aload_n (pc := 1602) hx hb dL_law_1602 rfl (lv_at hl 1 rfl) ?_
  refine lv_aload_n (pc := 1603) hx hb dL_law_1603 rfl (lv_at hl 3 rfl) ?_
  refine lv_iload_n (pc := 1604) hx hb dL_law_1604 rfl (lv_at hl 0 rfl) ?_
  refine lv_iconst (pc := 1605) (v := 1) hx hb dL_law_1605 (by decide) ?_
  refine lv_iadd (pc := 1606) hx hb dL_law_1606 ?_
  refine lv_topi (pc := 1607) (fun v6 ev6 => ?_)
  obtain rfl : v6 = 1 := ev6.trans (by decide)
  refine zsld (pc := 1607) (k := 1) hx hb hX0 hbl hbA hS (vp_in_iff.mpr ⟨by decide, by decide⟩) rfl dL_law_1607 ?_
  refine lv_aload_n (pc := 1608) hx hb dL_law_1608 rfl (lv_at hl 3 rfl) ?_
  refine lv_iload_n (pc := 1609) hx hb dL_law_1609 rfl (lv_at hl 0 rfl) ?_
  refine lv_iconst (pc := 1610) (v := 2) hx hb dL_law_1610 (by decide) ?_
  refine lv_iadd (pc := 1611) hx hb dL_law_1611 ?_
  refine lv_topi (pc := 1612) (fun v7 ev7 => ?_)
  obtain rfl : v7 = 2 := ev7.trans (by decide)
  refine zsld (pc := 1612) (k := 2) hx hb hX0 hbl hbA hS (vp_in_iff.mpr ⟨by decide, by decide⟩) rfl dL_law_1612 ?_
  refine zcallVi (pc := 1613) (k := 218) (As := [.int (xs 1), .int (xs 2)]) (rest := [.int r3]) ⟨hx, hb, hml, hown, hts⟩ (nw_X12_takes_ l D c o σ (xs 1) (xs 2) hR m0) zc12 zV_L_184 rfl zd_X12_takes_ ⟨Nat.le_of_ble_eq_true rfl, Nat.le_of_ble_eq_true rfl⟩ hK hP hS rfl (by decide) hl.1 rfl (Nat.le_of_ble_eq_true rfl) ⟨Nat.le_of_ble_eq_true rfl, Nat.le_of_ble_eq_true rfl⟩ dL_law_1613 (fun r8 σ9 H locs hw10 hP hS => ?_)
  obtain ⟨er8, rfl⟩ := hw10
  refine lv_icmp_eq (pc := 1616) (tgt := 1869) hx hb dL_law_1616 (by decide) (fun _ => ?_) (fun q9 => absurd (er3.trans er8.symm) q9)
  exact lw_tail l ho C00 hK hS (lv_sub hl [0, 1, 2, 3] rfl)
set_option maxHeartbeats 4000000 in
set_option maxRecDepth 100000 in
theorem lw_case41 {p : Program} {e : Env} {s : State} {m : MethodId} {below : List Frame} {meth : Method} {cd : Code} (l : Launch) {b : Nat} {xs : Nat → Int32} {o : Nat} {D : va_G} {c : zC} (ho : s.heap.size = o) (C0 : lw_At p s m meth cd b 6 xs) (hK : zKt D c s) {σ : zS} (h0 : σ.1 2 0 = 0) (h1 : σ.1 2 1 = 0) (h2 : σ.1 2 2 = 0) (ht : σ.1 0 1 = 0) (hk : σ.1 0 2 = 0) (hp : σ.1 0 3 = (-1)) (hk0 : σ.1 55 0 = 0) (hk1 : σ.1 55 1 = 0) (hk2 : σ.1 55 2 = 0) (hb210 : σ.1 210 2 = (-1)) (hb212 : σ.1 212 2 = (-1)) (hb214 : σ.1 214 2 = (-1)) (hb216 : σ.1 216 2 = (-1)) (m0 : σ.1 219 0 = 0) (m1 : σ.1 219 1 = 0) (m2 : σ.1 219 2 = 0) (mt : σ.1 218 7 = 0) (mk : σ.1 218 14 = 0) (mp : σ.1 218 15 = (-1)) (mh0 : σ.1 223 0 = 0) (mh1 : σ.1 223 1 = 0) (mh2 : σ.1 223 2 = 0) (mm0 : σ.1 239 0 = (-1)) (mm1 : σ.1 239 1 = (-1)) (mm2 : σ.1 239 2 = (-1)) (mm3 : σ.1 239 3 = (-1)) (hR : zRef o σ.2.2) (hN : σ.2.2 0 4 = o + 2) (hSp : σ.2.2 0 5 = o + 28) (hz : ∀ k j, σ.2.1 k j = 0) {H : Heap} {locs : List Loc} {ls : Array Slot} (hP : zP D c o σ H) (hS : va_S (zA o) s.heap H locs) (hl : lv_has ls 4 [(3, .int 0), (2, .ref (o + 218)), (1, .ref (o + 0)), (0, .ref b)]) : W p l e room_1 s m #[Value.ref b] below meth cd H locs 243 106038 (lw_Z below #[Value.ref b] s) (F0 m 1621 ls []) := by
  have C00 := C0
  obtain ⟨hx, hb, hr, hml, hown, hts0, hX0, hbl, hlocks, hgv⟩ := C0
  have hts : ∀ w ∈ zWl, w.before #[Value.ref b] s = true := fun w hw => hts0 w (List.mem_filter.mp hw).1
  have hown : s.vm.findClass RL = some m.cls := hown
  have hbA : ¬ zA o b := by show ¬ o ≤ b; omega
  refine lv_aload_n (pc := 1621) hx hb dL_law_1621 rfl (lv_at hl 2 rfl) ?_
  refine lv_aload_n (pc := 1622) hx hb dL_law_1622 rfl (lv_at hl 3 rfl) ?_
  refine lv_iload_n (pc := 1623) hx hb dL_law_1623 rfl (lv_at hl 0 rfl) ?_
  refine lv_iconst (pc := 1624) (v := 1) hx hb dL_law_1624 (by decide) ?_
  refine lv_iadd (pc := 1625) hx hb dL_law_1625 ?_
  refine lv_topi (pc := 1626) (fun v1 ev1 => ?_)
  obtain rfl : v1 = 1 := ev1.trans (by decide)
  refine zsld (pc := 1626) (k := 1) hx hb hX0 hbl hbA hS (vp_in_iff.mpr ⟨by decide, by decide⟩) rfl dL_law_1626 ?_
  refine zcallVi (pc := 1627) (k := 0) (As := [.int (xs 1)]) (rest := []) ⟨hx, hb, hml, hown, hts⟩ (fr_X11_count l D c o σ (xs 1) hR hN h0 h1 h2 ht hz hb210 hb212 hb214 hb216) zc11 zV_L_185 rfl zd_X11_count ⟨Nat.le_of_ble_eq_true rfl, Nat.le_of_ble_eq_true rfl⟩ hK hP hS rfl (by decide) hl.1 rfl (Nat.le_of_ble_eq_true rfl) ⟨Nat.le_of_ble_eq_true rfl, Nat.le_of_ble_eq_true rfl⟩ dL_law_1627 (fun r2 σ3 H locs hw4 hP hS => ?_)
  obtain ⟨er2, rfl⟩ := hw4
  refine lv_aload_n (pc := 1630) hx hb dL_law_1630 rfl (lv_at hl 1 rfl) ?_
  refine lv_aload_n (pc := 1631) hx hb dL_law_1631 rfl (lv_at hl 3 rfl) ?_
  refine lv_iload_n (pc := 1632) hx hb dL_law_1632 rfl (lv_at hl 0 rfl) ?_
  refine lv_iconst (pc := 1633) (v := 1) hx hb dL_law_1633 (by decide) ?_
  refine lv_iadd (pc := 1634) hx hb dL_law_1634 ?_
  refine lv_topi (pc := 1635) (fun v5 ev5 => ?_)
  obtain rfl : v5 = 1 := ev5.trans (by decide)
  refine zsld (pc := 1635) (k := 1) hx hb hX0 hbl hbA hS (vp_in_iff.mpr ⟨by decide, by decide⟩) rfl dL_law_1635 ?_
  refine zcallVi (pc := 1636) (k := 218) (As := [.int (xs 1)]) (rest := [.int r2]) ⟨hx, hb, hml, hown, hts⟩ (fr_X12_count l D c o σ (xs 1) hR m0 m1 m2 mt mm0 mm1 mm2 mm3) zc12 zV_L_188 rfl zd_X12_count ⟨Nat.le_of_ble_eq_true rfl, Nat.le_of_ble_eq_true rfl⟩ hK hP hS rfl (by decide) hl.1 rfl (Nat.le_of_ble_eq_true rfl) ⟨Nat.le_of_ble_eq_true rfl, Nat.le_of_ble_eq_true rfl⟩ dL_law_1636 (fun r6 σ7 H locs hw8 hP hS => ?_)
  have er6 := hw8
  refine lv_icmp_eq (pc := 1639) (tgt := 1869) hx hb dL_law_1639 (by decide) (fun _ => ?_) (fun q9 => absurd (er2.trans er6.symm) q9)
  exact lw_tail l ho C00 hK hS (lv_sub hl [0, 1, 2, 3] rfl)
set_option maxHeartbeats 4000000 in
set_option maxRecDepth 100000 in
theorem lw_case42 {p : Program} {e : Env} {s : State} {m : MethodId} {below : List Frame} {meth : Method} {cd : Code} (l : Launch) {b : Nat} {xs : Nat → Int32} {o : Nat} {D : va_G} {c : zC} (ho : s.heap.size = o) (C0 : lw_At p s m meth cd b 6 xs) (hK : zKt D c s) {σ : zS} (h0 : σ.1 2 0 = 0) (h1 : σ.1 2 1 = 0) (h2 : σ.1 2 2 = 0) (ht : σ.1 0 1 = 0) (hk : σ.1 0 2 = 0) (hp : σ.1 0 3 = (-1)) (hk0 : σ.1 55 0 = 0) (hk1 : σ.1 55 1 = 0) (hk2 : σ.1 55 2 = 0) (hb210 : σ.1 210 2 = (-1)) (hb212 : σ.1 212 2 = (-1)) (hb214 : σ.1 214 2 = (-1)) (hb216 : σ.1 216 2 = (-1)) (m0 : σ.1 219 0 = 0) (m1 : σ.1 219 1 = 0) (m2 : σ.1 219 2 = 0) (mt : σ.1 218 7 = 0) (mk : σ.1 218 14 = 0) (mp : σ.1 218 15 = (-1)) (mh0 : σ.1 223 0 = 0) (mh1 : σ.1 223 1 = 0) (mh2 : σ.1 223 2 = 0) (mm0 : σ.1 239 0 = (-1)) (mm1 : σ.1 239 1 = (-1)) (mm2 : σ.1 239 2 = (-1)) (mm3 : σ.1 239 3 = (-1)) (hR : zRef o σ.2.2) (hN : σ.2.2 0 4 = o + 2) (hSp : σ.2.2 0 5 = o + 28) (hz : ∀ k j, σ.2.1 k j = 0) {H : Heap} {locs : List Loc} {ls : Array Slot} (hP : zP D c o σ H) (hS : va_S (zA o) s.heap H locs) (hl : lv_has ls 4 [(3, .int 0), (2, .ref (o + 218)), (1, .ref (o + 0)), (0, .ref b)]) : W p l e room_1 s m #[Value.ref b] below meth cd H locs 243 106038 (lw_Z below #[Value.ref b] s) (F0 m 1644 ls []) := by
  have C00 := C0
  obtain ⟨hx, hb, hr, hml, hown, hts0, hX0, hbl, hlocks, hgv⟩ := C0
  have hts : ∀ w ∈ zWl, w.before #[Value.ref b] s = true := fun w hw => hts0 w (List.mem_filter.mp hw).1
  have hown : s.vm.findClass RL = some m.cls := hown
  have hbA : ¬ zA o b := by show ¬ o ≤ b; omega
  refine lv_aload_n (pc := 1644) hx hb dL_law_1644 rfl (lv_at hl 2 rfl) ?_
  refine lv_aload_n (pc := 1645) hx hb dL_law_1645 rfl (lv_at hl 3 rfl) ?_
  refine lv_iload_n (pc := 1646) hx hb dL_law_1646 rfl (lv_at hl 0 rfl) ?_
  refine lv_iconst (pc := 1647) (v := 1) hx hb dL_law_1647 (by decide) ?_
  refine lv_iadd (pc := 1648) hx hb dL_law_1648 ?_
  refine lv_topi (pc := 1649) (fun v1 ev1 => ?_)
  obtain rfl : v1 = 1 := ev1.trans (by decide)
  refine zsld (pc := 1649) (k := 1) hx hb hX0 hbl hbA hS (vp_in_iff.mpr ⟨by decide, by decide⟩) rfl dL_law_1649 ?_
  refine zcallVi (pc := 1650) (k := 0) (As := [.int (xs 1)]) (rest := []) ⟨hx, hb, hml, hown, hts⟩ (fr_X11_keep l D c o σ (xs 1) hR hN h0) zc11 zV_L_189 rfl zd_X11_keep ⟨Nat.le_of_ble_eq_true rfl, Nat.le_of_ble_eq_true rfl⟩ hK hP hS rfl (by decide) hl.1 rfl (Nat.le_of_ble_eq_true rfl) ⟨Nat.le_of_ble_eq_true rfl, Nat.le_of_ble_eq_true rfl⟩ dL_law_1650 (fun r2 σ3 H locs hw4 hP hS => ?_)
  obtain ⟨er2, hR, hH⟩ := hw4
  have m0 : σ3.1 219 0 = 0 := (congrFun (hH 219 (by decide)) 0).trans m0
  have m1 : σ3.1 219 1 = 0 := (congrFun (hH 219 (by decide)) 1).trans m1
  have m2 : σ3.1 219 2 = 0 := (congrFun (hH 219 (by decide)) 2).trans m2
  have mt : σ3.1 218 7 = 0 := (congrFun (hH 218 (by decide)) 7).trans mt
  have mk : σ3.1 218 14 = 0 := (congrFun (hH 218 (by decide)) 14).trans mk
  have mp : σ3.1 218 15 = (-1) := (congrFun (hH 218 (by decide)) 15).trans mp
  have mh0 : σ3.1 223 0 = 0 := (congrFun (hH 223 (by decide)) 0).trans mh0
  have mh1 : σ3.1 223 1 = 0 := (congrFun (hH 223 (by decide)) 1).trans mh1
  have mh2 : σ3.1 223 2 = 0 := (congrFun (hH 223 (by decide)) 2).trans mh2
  have mm0 : σ3.1 239 0 = (-1) := (congrFun (hH 239 (by decide)) 0).trans mm0
  have mm1 : σ3.1 239 1 = (-1) := (congrFun (hH 239 (by decide)) 1).trans mm1
  have mm2 : σ3.1 239 2 = (-1) := (congrFun (hH 239 (by decide)) 2).trans mm2
  have mm3 : σ3.1 239 3 = (-1) := (congrFun (hH 239 (by decide)) 3).trans mm3
  refine lv_aload_n (pc := 1653) hx hb dL_law_1653 rfl (lv_at hl 1 rfl) ?_
  refine lv_aload_n (pc := 1654) hx hb dL_law_1654 rfl (lv_at hl 3 rfl) ?_
  refine lv_iload_n (pc := 1655) hx hb dL_law_1655 rfl (lv_at hl 0 rfl) ?_
  refine lv_iconst (pc := 1656) (v := 1) hx hb dL_law_1656 (by decide) ?_
  refine lv_iadd (pc := 1657) hx hb dL_law_1657 ?_
  refine lv_topi (pc := 1658) (fun v5 ev5 => ?_)
  obtain rfl : v5 = 1 := ev5.trans (by decide)
  refine zsld (pc := 1658) (k := 1) hx hb hX0 hbl hbA hS (vp_in_iff.mpr ⟨by decide, by decide⟩) rfl dL_law_1658 ?_
  refine zcallVi (pc := 1659) (k := 218) (As := [.int (xs 1)]) (rest := [.int r2]) ⟨hx, hb, hml, hown, hts⟩ (fr_X12_keep l D c o σ3 (xs 1) hR) zc12 zV_L_192 rfl zd_X12_keep ⟨Nat.le_of_ble_eq_true rfl, Nat.le_of_ble_eq_true rfl⟩ hK hP hS rfl (by decide) hl.1 rfl (Nat.le_of_ble_eq_true rfl) ⟨Nat.le_of_ble_eq_true rfl, Nat.le_of_ble_eq_true rfl⟩ dL_law_1659 (fun r6 σ7 H locs hw8 hP hS => ?_)
  have er6 := hw8
  refine lv_icmp_eq (pc := 1662) (tgt := 1869) hx hb dL_law_1662 (by decide) (fun _ => ?_) (fun q9 => absurd (er2.trans er6.symm) q9)
  exact lw_tail l ho C00 hK hS (lv_sub hl [0, 1, 2, 3] rfl)
set_option maxHeartbeats 4000000 in
set_option maxRecDepth 100000 in
theorem lw_case43 {p : Program} {e : Env} {s : State} {m : MethodId} {below : List Frame} {meth : Method} {cd : Code} (l : Launch) {b : Nat} {xs : Nat → Int32} {o : Nat} {D : va_G} {c : zC} (ho : s.heap.size = o) (C0 : lw_At p s m meth cd b 6 xs) (hK : zKt D c s) {σ : zS} (h0 : σ.1 2 0 = 0) (h1 : σ.1 2 1 = 0) (h2 : σ.1 2 2 = 0) (ht : σ.1 0 1 = 0) (hk : σ.1 0 2 = 0) (hp : σ.1 0 3 = (-1)) (hk0 : σ.1 55 0 = 0) (hk1 : σ.1 55 1 = 0) (hk2 : σ.1 55 2 = 0) (hb210 : σ.1 210 2 = (-1)) (hb212 : σ.1 212 2 = (-1)) (hb214 : σ.1 214 2 = (-1)) (hb216 : σ.1 216 2 = (-1)) (m0 : σ.1 219 0 = 0) (m1 : σ.1 219 1 = 0) (m2 : σ.1 219 2 = 0) (mt : σ.1 218 7 = 0) (mk : σ.1 218 14 = 0) (mp : σ.1 218 15 = (-1)) (mh0 : σ.1 223 0 = 0) (mh1 : σ.1 223 1 = 0) (mh2 : σ.1 223 2 = 0) (mm0 : σ.1 239 0 = (-1)) (mm1 : σ.1 239 1 = (-1)) (mm2 : σ.1 239 2 = (-1)) (mm3 : σ.1 239 3 = (-1)) (hR : zRef o σ.2.2) (hN : σ.2.2 0 4 = o + 2) (hSp : σ.2.2 0 5 = o + 28) (hz : ∀ k j, σ.2.1 k j = 0) {H : Heap} {locs : List Loc} {ls : Array Slot} (hP : zP D c o σ H) (hS : va_S (zA o) s.heap H locs) (hl : lv_has ls 4 [(3, .int 0), (2, .ref (o + 218)), (1, .ref (o + 0)), (0, .ref b)]) : W p l e room_1 s m #[Value.ref b] below meth cd H locs 243 106038 (lw_Z below #[Value.ref b] s) (F0 m 1667 ls []) := by
  have C00 := C0
  obtain ⟨hx, hb, hr, hml, hown, hts0, hX0, hbl, hlocks, hgv⟩ := C0
  have hts : ∀ w ∈ zWl, w.before #[Value.ref b] s = true := fun w hw => hts0 w (List.mem_filter.mp hw).1
  have hown : s.vm.findClass RL = some m.cls := hown
  have hbA : ¬ zA o b := by show ¬ o ≤ b; omega
  refine lv_aload_n (pc := 1667) hx hb dL_law_1667 rfl (lv_at hl 2 rfl) ?_
  refine lv_aload_n (pc := 1668) hx hb dL_law_1668 rfl (lv_at hl 3 rfl) ?_
  refine lv_iload_n (pc := 1669) hx hb dL_law_1669 rfl (lv_at hl 0 rfl) ?_
  refine lv_iconst (pc := 1670) (v := 1) hx hb dL_law_1670 (by decide) ?_
  refine lv_iadd (pc := 1671) hx hb dL_law_1671 ?_
  refine lv_topi (pc := 1672) (fun v1 ev1 => ?_)
  obtain rfl : v1 = 1 := ev1.trans (by decide)
  refine zsld (pc := 1672) (k := 1) hx hb hX0 hbl hbA hS (vp_in_iff.mpr ⟨by decide, by decide⟩) rfl dL_law_1672 ?_
  refine zcallVi (pc := 1673) (k := 0) (As := [.int (xs 1)]) (rest := []) ⟨hx, hb, hml, hown, hts⟩ (fr_X11_back l D c o σ (xs 1) hR hk0 hk1 hk2) zc11 zV_L_193 rfl zd_X11_back ⟨Nat.le_of_ble_eq_true rfl, Nat.le_of_ble_eq_true rfl⟩ hK hP hS rfl (by decide) hl.1 rfl (Nat.le_of_ble_eq_true rfl) ⟨Nat.le_of_ble_eq_true rfl, Nat.le_of_ble_eq_true rfl⟩ dL_law_1673 (fun r2 σ3 H locs hw4 hP hS => ?_)
  obtain ⟨er2, rfl⟩ := hw4
  refine lv_aload_n (pc := 1676) hx hb dL_law_1676 rfl (lv_at hl 1 rfl) ?_
  refine lv_aload_n (pc := 1677) hx hb dL_law_1677 rfl (lv_at hl 3 rfl) ?_
  refine lv_iload_n (pc := 1678) hx hb dL_law_1678 rfl (lv_at hl 0 rfl) ?_
  refine lv_iconst (pc := 1679) (v := 1) hx hb dL_law_1679 (by decide) ?_
  refine lv_iadd (pc := 1680) hx hb dL_law_1680 ?_
  refine lv_topi (pc := 1681) (fun v5 ev5 => ?_)
  obtain rfl : v5 = 1 := ev5.trans (by decide)
  refine zsld (pc := 1681) (k := 1) hx hb hX0 hbl hbA hS (vp_in_iff.mpr ⟨by decide, by decide⟩) rfl dL_law_1681 ?_
  refine zcallVi (pc := 1682) (k := 218) (As := [.int (xs 1)]) (rest := [.int r2]) ⟨hx, hb, hml, hown, hts⟩ (fr_X12_back l D c o σ (xs 1) hR mh0 mh1 mh2) zc12 zV_L_196 rfl zd_X12_back ⟨Nat.le_of_ble_eq_true rfl, Nat.le_of_ble_eq_true rfl⟩ hK hP hS rfl (by decide) hl.1 rfl (Nat.le_of_ble_eq_true rfl) ⟨Nat.le_of_ble_eq_true rfl, Nat.le_of_ble_eq_true rfl⟩ dL_law_1682 (fun r6 σ7 H locs hw8 hP hS => ?_)
  have er6 := hw8
  refine lv_icmp_eq (pc := 1685) (tgt := 1869) hx hb dL_law_1685 (by decide) (fun _ => ?_) (fun q9 => absurd (er2.trans er6.symm) q9)
  exact lw_tail l ho C00 hK hS (lv_sub hl [0, 1, 2, 3] rfl)
set_option maxHeartbeats 4000000 in
set_option maxRecDepth 100000 in
theorem lw_case44 {p : Program} {e : Env} {s : State} {m : MethodId} {below : List Frame} {meth : Method} {cd : Code} (l : Launch) {b : Nat} {xs : Nat → Int32} {o : Nat} {D : va_G} {c : zC} (ho : s.heap.size = o) (C0 : lw_At p s m meth cd b 6 xs) (hK : zKt D c s) {σ : zS} (h0 : σ.1 2 0 = 0) (h1 : σ.1 2 1 = 0) (h2 : σ.1 2 2 = 0) (ht : σ.1 0 1 = 0) (hk : σ.1 0 2 = 0) (hp : σ.1 0 3 = (-1)) (hk0 : σ.1 55 0 = 0) (hk1 : σ.1 55 1 = 0) (hk2 : σ.1 55 2 = 0) (hb210 : σ.1 210 2 = (-1)) (hb212 : σ.1 212 2 = (-1)) (hb214 : σ.1 214 2 = (-1)) (hb216 : σ.1 216 2 = (-1)) (m0 : σ.1 219 0 = 0) (m1 : σ.1 219 1 = 0) (m2 : σ.1 219 2 = 0) (mt : σ.1 218 7 = 0) (mk : σ.1 218 14 = 0) (mp : σ.1 218 15 = (-1)) (mh0 : σ.1 223 0 = 0) (mh1 : σ.1 223 1 = 0) (mh2 : σ.1 223 2 = 0) (mm0 : σ.1 239 0 = (-1)) (mm1 : σ.1 239 1 = (-1)) (mm2 : σ.1 239 2 = (-1)) (mm3 : σ.1 239 3 = (-1)) (hR : zRef o σ.2.2) (hN : σ.2.2 0 4 = o + 2) (hSp : σ.2.2 0 5 = o + 28) (hz : ∀ k j, σ.2.1 k j = 0) {H : Heap} {locs : List Loc} {ls : Array Slot} (hP : zP D c o σ H) (hS : va_S (zA o) s.heap H locs) (hl : lv_has ls 4 [(3, .int 0), (2, .ref (o + 218)), (1, .ref (o + 0)), (0, .ref b)]) : W p l e room_1 s m #[Value.ref b] below meth cd H locs 243 106038 (lw_Z below #[Value.ref b] s) (F0 m 1690 ls []) := by
  have C00 := C0
  obtain ⟨hx, hb, hr, hml, hown, hts0, hX0, hbl, hlocks, hgv⟩ := C0
  have hts : ∀ w ∈ zWl, w.before #[Value.ref b] s = true := fun w hw => hts0 w (List.mem_filter.mp hw).1
  have hown : s.vm.findClass RL = some m.cls := hown
  have hbA : ¬ zA o b := by show ¬ o ≤ b; omega
  refine lv_aload_n (pc := 1690) hx hb dL_law_1690 rfl (lv_at hl 2 rfl) ?_
  refine lv_aload_n (pc := 1691) hx hb dL_law_1691 rfl (lv_at hl 3 rfl) ?_
  refine lv_iload_n (pc := 1692) hx hb dL_law_1692 rfl (lv_at hl 0 rfl) ?_
  refine lv_iconst (pc := 1693) (v := 1) hx hb dL_law_1693 (by decide) ?_
  refine lv_iadd (pc := 1694) hx hb dL_law_1694 ?_
  refine lv_topi (pc := 1695) (fun v1 ev1 => ?_)
  obtain rfl : v1 = 1 := ev1.trans (by decide)
  refine zsld (pc := 1695) (k := 1) hx hb hX0 hbl hbA hS (vp_in_iff.mpr ⟨by decide, by decide⟩) rfl dL_law_1695 ?_
  refine lv_aload_n (pc := 1696) hx hb dL_law_1696 rfl (lv_at hl 3 rfl) ?_
  refine lv_iload_n (pc := 1697) hx hb dL_law_1697 rfl (lv_at hl 0 rfl) ?_
  refine lv_iconst (pc := 1698) (v := 2) hx hb dL_law_1698 (by decide) ?_
  refine lv_iadd (pc := 1699) hx hb dL_law_1699 ?_
  refine lv_topi (pc := 1700) (fun v2 ev2 => ?_)
  obtain rfl : v2 = 2 := ev2.trans (by decide)
  refine zsld (pc := 1700) (k := 2) hx hb hX0 hbl hbA hS (vp_in_iff.mpr ⟨by decide, by decide⟩) rfl dL_law_1700 ?_
  refine lv_aload_n (pc := 1701) hx hb dL_law_1701 rfl (lv_at hl 3 rfl) ?_
  refine lv_iload_n (pc := 1702) hx hb dL_law_1702 rfl (lv_at hl 0 rfl) ?_
  refine lv_iconst (pc := 1703) (v := 3) hx hb dL_law_1703 (by decide) ?_
  refine lv_iadd (pc := 1704) hx hb dL_law_1704 ?_
  refine lv_topi (pc := 1705) (fun v3 ev3 => ?_)
  obtain rfl : v3 = 3 := ev3.trans (by decide)
  refine zsld (pc := 1705) (k := 3) hx hb hX0 hbl hbA hS (vp_in_iff.mpr ⟨by decide, by decide⟩) rfl dL_law_1705 ?_
  refine zcallVi (pc := 1706) (k := 0) (As := [.int (xs 1), .int (xs 2), .int (xs 3)]) (rest := []) ⟨hx, hb, hml, hown, hts⟩ (fr_X11_row l D c o σ (xs 1) (xs 2) (xs 3) hR) zc11 zV_L_197 rfl zd_X11_row ⟨Nat.le_of_ble_eq_true rfl, Nat.le_of_ble_eq_true rfl⟩ hK hP hS rfl (by decide) hl.1 rfl (Nat.le_of_ble_eq_true rfl) ⟨Nat.le_of_ble_eq_true rfl, Nat.le_of_ble_eq_true rfl⟩ dL_law_1706 (fun r4 σ5 H locs hw6 hP hS => ?_)
  obtain ⟨er4, hR, hH⟩ := hw6
  have m0 : σ5.1 219 0 = 0 := (congrFun (hH 219 (by decide)) 0).trans m0
  have m1 : σ5.1 219 1 = 0 := (congrFun (hH 219 (by decide)) 1).trans m1
  have m2 : σ5.1 219 2 = 0 := (congrFun (hH 219 (by decide)) 2).trans m2
  have mt : σ5.1 218 7 = 0 := (congrFun (hH 218 (by decide)) 7).trans mt
  have mk : σ5.1 218 14 = 0 := (congrFun (hH 218 (by decide)) 14).trans mk
  have mp : σ5.1 218 15 = (-1) := (congrFun (hH 218 (by decide)) 15).trans mp
  have mh0 : σ5.1 223 0 = 0 := (congrFun (hH 223 (by decide)) 0).trans mh0
  have mh1 : σ5.1 223 1 = 0 := (congrFun (hH 223 (by decide)) 1).trans mh1
  have mh2 : σ5.1 223 2 = 0 := (congrFun (hH 223 (by decide)) 2).trans mh2
  have mm0 : σ5.1 239 0 = (-1) := (congrFun (hH 239 (by decide)) 0).trans mm0
  have mm1 : σ5.1 239 1 = (-1) := (congrFun (hH 239 (by decide)) 1).trans mm1
  have mm2 : σ5.1 239 2 = (-1) := (congrFun (hH 239 (by decide)) 2).trans mm2
  have mm3 : σ5.1 239 3 = (-1) := (congrFun (hH 239 (by decide)) 3).trans mm3
  refine lv_aload_n (pc := 1709) hx hb dL_law_1709 rfl (lv_at hl 1 rfl) ?_
  refine lv_aload_n (pc := 1710) hx hb dL_law_1710 rfl (lv_at hl 3 rfl) ?_
  refine lv_iload_n (pc := 1711) hx hb dL_law_1711 rfl (lv_at hl 0 rfl) ?_
  refine lv_iconst (pc := 1712) (v := 1) hx hb dL_law_1712 (by decide) ?_
  refine lv_iadd (pc := 1713) hx hb dL_law_1713 ?_
  refine lv_topi (pc := 1714) (fun v7 ev7 => ?_)
  obtain rfl : v7 = 1 := ev7.trans (by decide)
  refine zsld (pc := 1714) (k := 1) hx hb hX0 hbl hbA hS (vp_in_iff.mpr ⟨by decide, by decide⟩) rfl dL_law_1714 ?_
  refine lv_aload_n (pc := 1715) hx hb dL_law_1715 rfl (lv_at hl 3 rfl) ?_
  refine lv_iload_n (pc := 1716) hx hb dL_law_1716 rfl (lv_at hl 0 rfl) ?_
  refine lv_iconst (pc := 1717) (v := 2) hx hb dL_law_1717 (by decide) ?_
  refine lv_iadd (pc := 1718) hx hb dL_law_1718 ?_
  refine lv_topi (pc := 1719) (fun v8 ev8 => ?_)
  obtain rfl : v8 = 2 := ev8.trans (by decide)
  refine zsld (pc := 1719) (k := 2) hx hb hX0 hbl hbA hS (vp_in_iff.mpr ⟨by decide, by decide⟩) rfl dL_law_1719 ?_
  refine lv_aload_n (pc := 1720) hx hb dL_law_1720 rfl (lv_at hl 3 rfl) ?_
  refine lv_iload_n (pc := 1721) hx hb dL_law_1721 rfl (lv_at hl 0 rfl) ?_
  refine lv_iconst (pc := 1722) (v := 3) hx hb dL_law_1722 (by decide) ?_
  refine lv_iadd (pc := 1723) hx hb dL_law_1723 ?_
  refine lv_topi (pc := 1724) (fun v9 ev9 => ?_)
  obtain rfl : v9 = 3 := ev9.trans (by decide)
  refine zsld (pc := 1724) (k := 3) hx hb hX0 hbl hbA hS (vp_in_iff.mpr ⟨by decide, by decide⟩) rfl dL_law_1724 ?_
  refine zcallVi (pc := 1725) (k := 218) (As := [.int (xs 1), .int (xs 2), .int (xs 3)]) (rest := [.int r4]) ⟨hx, hb, hml, hown, hts⟩ (fr_X12_row l D c o σ5 (xs 1) (xs 2) (xs 3) hR) zc12 zV_L_200 rfl zd_X12_row ⟨Nat.le_of_ble_eq_true rfl, Nat.le_of_ble_eq_true rfl⟩ hK hP hS rfl (by decide) hl.1 rfl (Nat.le_of_ble_eq_true rfl) ⟨Nat.le_of_ble_eq_true rfl, Nat.le_of_ble_eq_true rfl⟩ dL_law_1725 (fun r10 σ11 H locs hw12 hP hS => ?_)
  have er10 := hw12
  refine lv_icmp_eq (pc := 1728) (tgt := 1869) hx hb dL_law_1728 (by decide) (fun _ => ?_) (fun q9 => absurd (er4.trans er10.symm) q9)
  exact lw_tail l ho C00 hK hS (lv_sub hl [0, 1, 2, 3] rfl)
set_option maxHeartbeats 4000000 in
set_option maxRecDepth 100000 in
theorem lw_case45 {p : Program} {e : Env} {s : State} {m : MethodId} {below : List Frame} {meth : Method} {cd : Code} (l : Launch) {b : Nat} {xs : Nat → Int32} {o : Nat} {D : va_G} {c : zC} (ho : s.heap.size = o) (C0 : lw_At p s m meth cd b 6 xs) (hK : zKt D c s) {σ : zS} (h0 : σ.1 2 0 = 0) (h1 : σ.1 2 1 = 0) (h2 : σ.1 2 2 = 0) (ht : σ.1 0 1 = 0) (hk : σ.1 0 2 = 0) (hp : σ.1 0 3 = (-1)) (hk0 : σ.1 55 0 = 0) (hk1 : σ.1 55 1 = 0) (hk2 : σ.1 55 2 = 0) (hb210 : σ.1 210 2 = (-1)) (hb212 : σ.1 212 2 = (-1)) (hb214 : σ.1 214 2 = (-1)) (hb216 : σ.1 216 2 = (-1)) (m0 : σ.1 219 0 = 0) (m1 : σ.1 219 1 = 0) (m2 : σ.1 219 2 = 0) (mt : σ.1 218 7 = 0) (mk : σ.1 218 14 = 0) (mp : σ.1 218 15 = (-1)) (mh0 : σ.1 223 0 = 0) (mh1 : σ.1 223 1 = 0) (mh2 : σ.1 223 2 = 0) (mm0 : σ.1 239 0 = (-1)) (mm1 : σ.1 239 1 = (-1)) (mm2 : σ.1 239 2 = (-1)) (mm3 : σ.1 239 3 = (-1)) (hR : zRef o σ.2.2) (hN : σ.2.2 0 4 = o + 2) (hSp : σ.2.2 0 5 = o + 28) (hz : ∀ k j, σ.2.1 k j = 0) {H : Heap} {locs : List Loc} {ls : Array Slot} (hP : zP D c o σ H) (hS : va_S (zA o) s.heap H locs) (hl : lv_has ls 4 [(3, .int 0), (2, .ref (o + 218)), (1, .ref (o + 0)), (0, .ref b)]) : W p l e room_1 s m #[Value.ref b] below meth cd H locs 243 106038 (lw_Z below #[Value.ref b] s) (F0 m 1733 ls []) := by
  have C00 := C0
  obtain ⟨hx, hb, hr, hml, hown, hts0, hX0, hbl, hlocks, hgv⟩ := C0
  have hts : ∀ w ∈ zWl, w.before #[Value.ref b] s = true := fun w hw => hts0 w (List.mem_filter.mp hw).1
  have hown : s.vm.findClass RL = some m.cls := hown
  have hbA : ¬ zA o b := by show ¬ o ≤ b; omega
  refine lv_aload_n (pc := 1733) hx hb dL_law_1733 rfl (lv_at hl 2 rfl) ?_
  refine lv_aload_n (pc := 1734) hx hb dL_law_1734 rfl (lv_at hl 3 rfl) ?_
  refine lv_iload_n (pc := 1735) hx hb dL_law_1735 rfl (lv_at hl 0 rfl) ?_
  refine lv_iconst (pc := 1736) (v := 1) hx hb dL_law_1736 (by decide) ?_
  refine lv_iadd (pc := 1737) hx hb dL_law_1737 ?_
  refine lv_topi (pc := 1738) (fun v1 ev1 => ?_)
  obtain rfl : v1 = 1 := ev1.trans (by decide)
  refine zsld (pc := 1738) (k := 1) hx hb hX0 hbl hbA hS (vp_in_iff.mpr ⟨by decide, by decide⟩) rfl dL_law_1738 ?_
  refine lv_aload_n (pc := 1739) hx hb dL_law_1739 rfl (lv_at hl 3 rfl) ?_
  refine lv_iload_n (pc := 1740) hx hb dL_law_1740 rfl (lv_at hl 0 rfl) ?_
  refine lv_iconst (pc := 1741) (v := 2) hx hb dL_law_1741 (by decide) ?_
  refine lv_iadd (pc := 1742) hx hb dL_law_1742 ?_
  refine lv_topi (pc := 1743) (fun v2 ev2 => ?_)
  obtain rfl : v2 = 2 := ev2.trans (by decide)
  refine zsld (pc := 1743) (k := 2) hx hb hX0 hbl hbA hS (vp_in_iff.mpr ⟨by decide, by decide⟩) rfl dL_law_1743 ?_
  refine lv_aload_n (pc := 1744) hx hb dL_law_1744 rfl (lv_at hl 3 rfl) ?_
  refine lv_iload_n (pc := 1745) hx hb dL_law_1745 rfl (lv_at hl 0 rfl) ?_
  refine lv_iconst (pc := 1746) (v := 3) hx hb dL_law_1746 (by decide) ?_
  refine lv_iadd (pc := 1747) hx hb dL_law_1747 ?_
  refine lv_topi (pc := 1748) (fun v3 ev3 => ?_)
  obtain rfl : v3 = 3 := ev3.trans (by decide)
  refine zsld (pc := 1748) (k := 3) hx hb hX0 hbl hbA hS (vp_in_iff.mpr ⟨by decide, by decide⟩) rfl dL_law_1748 ?_
  refine lv_i2l (pc := 1749) hx hb dL_law_1749 rfl ?_
  refine lv_bipush (pc := 1750) (v := 32) hx hb dL_law_1750 (by decide) ?_
  refine lv_lshl (pc := 1752) hx hb dL_law_1752 rfl ?_
  refine lv_topl (pc := 1753) (fun v4 ev4 => ?_)
  refine lv_aload_n (pc := 1753) hx hb dL_law_1753 rfl (lv_at hl 3 rfl) ?_
  refine lv_iload_n (pc := 1754) hx hb dL_law_1754 rfl (lv_at hl 0 rfl) ?_
  refine lv_iconst (pc := 1755) (v := 4) hx hb dL_law_1755 (by decide) ?_
  refine lv_iadd (pc := 1756) hx hb dL_law_1756 ?_
  refine lv_topi (pc := 1757) (fun v5 ev5 => ?_)
  obtain rfl : v5 = 4 := ev5.trans (by decide)
  refine zsld (pc := 1757) (k := 4) hx hb hX0 hbl hbA hS (vp_in_iff.mpr ⟨by decide, by decide⟩) rfl dL_law_1757 ?_
  refine lv_i2l (pc := 1758) hx hb dL_law_1758 rfl ?_
  refine lv_ldc2 (pc := 1759) hx hb hown (hts _ zk_L_201) dL_law_1759 ?_
  refine lv_land (pc := 1762) hx hb dL_law_1762 ?_
  refine lv_topl (pc := 1763) (fun v6 ev6 => ?_)
  refine lv_lor (pc := 1763) hx hb dL_law_1763 ?_
  refine lv_topl (pc := 1764) (fun v7 ev7 => ?_)
  refine zcallVi (pc := 1764) (k := 0) (As := [.int (xs 1), .int (xs 2), .long v7]) (rest := []) ⟨hx, hb, hml, hown, hts⟩ (fr_X11_write l D c o σ (xs 1) (xs 2) v7 hR hb210 hb212 hb214 hb216) zc11 zV_L_203 rfl zd_X11_write ⟨Nat.le_of_ble_eq_true rfl, Nat.le_of_ble_eq_true rfl⟩ hK hP hS rfl (by decide) hl.1 rfl (Nat.le_of_ble_eq_true rfl) ⟨Nat.le_of_ble_eq_true rfl, Nat.le_of_ble_eq_true rfl⟩ dL_law_1764 (fun r8 σ9 H locs hw10 hP hS => ?_)
  obtain ⟨er8, rfl⟩ := hw10
  refine lv_aload_n (pc := 1767) hx hb dL_law_1767 rfl (lv_at hl 1 rfl) ?_
  refine lv_aload_n (pc := 1768) hx hb dL_law_1768 rfl (lv_at hl 3 rfl) ?_
  refine lv_iload_n (pc := 1769) hx hb dL_law_1769 rfl (lv_at hl 0 rfl) ?_
  refine lv_iconst (pc := 1770) (v := 1) hx hb dL_law_1770 (by decide) ?_
  refine lv_iadd (pc := 1771) hx hb dL_law_1771 ?_
  refine lv_topi (pc := 1772) (fun v11 ev11 => ?_)
  obtain rfl : v11 = 1 := ev11.trans (by decide)
  refine zsld (pc := 1772) (k := 1) hx hb hX0 hbl hbA hS (vp_in_iff.mpr ⟨by decide, by decide⟩) rfl dL_law_1772 ?_
  refine lv_aload_n (pc := 1773) hx hb dL_law_1773 rfl (lv_at hl 3 rfl) ?_
  refine lv_iload_n (pc := 1774) hx hb dL_law_1774 rfl (lv_at hl 0 rfl) ?_
  refine lv_iconst (pc := 1775) (v := 2) hx hb dL_law_1775 (by decide) ?_
  refine lv_iadd (pc := 1776) hx hb dL_law_1776 ?_
  refine lv_topi (pc := 1777) (fun v12 ev12 => ?_)
  obtain rfl : v12 = 2 := ev12.trans (by decide)
  refine zsld (pc := 1777) (k := 2) hx hb hX0 hbl hbA hS (vp_in_iff.mpr ⟨by decide, by decide⟩) rfl dL_law_1777 ?_
  refine lv_aload_n (pc := 1778) hx hb dL_law_1778 rfl (lv_at hl 3 rfl) ?_
  refine lv_iload_n (pc := 1779) hx hb dL_law_1779 rfl (lv_at hl 0 rfl) ?_
  refine lv_iconst (pc := 1780) (v := 3) hx hb dL_law_1780 (by decide) ?_
  refine lv_iadd (pc := 1781) hx hb dL_law_1781 ?_
  refine lv_topi (pc := 1782) (fun v13 ev13 => ?_)
  obtain rfl : v13 = 3 := ev13.trans (by decide)
  refine zsld (pc := 1782) (k := 3) hx hb hX0 hbl hbA hS (vp_in_iff.mpr ⟨by decide, by decide⟩) rfl dL_law_1782 ?_
  refine lv_i2l (pc := 1783) hx hb dL_law_1783 rfl ?_
  refine lv_bipush (pc := 1784) (v := 32) hx hb dL_law_1784 (by decide) ?_
  refine lv_lshl (pc := 1786) hx hb dL_law_1786 rfl ?_
  refine lv_topl (pc := 1787) (fun v14 ev14 => ?_)
  refine lv_aload_n (pc := 1787) hx hb dL_law_1787 rfl (lv_at hl 3 rfl) ?_
  refine lv_iload_n (pc := 1788) hx hb dL_law_1788 rfl (lv_at hl 0 rfl) ?_
  refine lv_iconst (pc := 1789) (v := 4) hx hb dL_law_1789 (by decide) ?_
  refine lv_iadd (pc := 1790) hx hb dL_law_1790 ?_
  refine lv_topi (pc := 1791) (fun v15 ev15 => ?_)
  obtain rfl : v15 = 4 := ev15.trans (by decide)
  refine zsld (pc := 1791) (k := 4) hx hb hX0 hbl hbA hS (vp_in_iff.mpr ⟨by decide, by decide⟩) rfl dL_law_1791 ?_
  refine lv_i2l (pc := 1792) hx hb dL_law_1792 rfl ?_
  refine lv_ldc2 (pc := 1793) hx hb hown (hts _ zk_L_201) dL_law_1793 ?_
  refine lv_land (pc := 1796) hx hb dL_law_1796 ?_
  refine lv_topl (pc := 1797) (fun v16 ev16 => ?_)
  refine lv_lor (pc := 1797) hx hb dL_law_1797 ?_
  refine lv_topl (pc := 1798) (fun v17 ev17 => ?_)
  refine zcallVi (pc := 1798) (k := 218) (As := [.int (xs 1), .int (xs 2), .long v17]) (rest := [.int r8]) ⟨hx, hb, hml, hown, hts⟩ (fr_X12_write l D c o σ (xs 1) (xs 2) v17 hR mm0 mm1 mm2 mm3) zc12 zV_L_207 rfl zd_X12_write ⟨Nat.le_of_ble_eq_true rfl, Nat.le_of_ble_eq_true rfl⟩ hK hP hS rfl (by decide) hl.1 rfl (Nat.le_of_ble_eq_true rfl) ⟨Nat.le_of_ble_eq_true rfl, Nat.le_of_ble_eq_true rfl⟩ dL_law_1798 (fun r18 σ19 H locs hw20 hP hS => ?_)
  have er18 := hw20
  refine lv_icmp_eq (pc := 1801) (tgt := 1869) hx hb dL_law_1801 (by decide) (fun _ => ?_) (fun q9 => absurd (er8.trans er18.symm) q9)
  exact lw_tail l ho C00 hK hS (lv_sub hl [0, 1, 2, 3] rfl)
set_option maxHeartbeats 4000000 in
set_option maxRecDepth 100000 in
theorem lw_case46 {p : Program} {e : Env} {s : State} {m : MethodId} {below : List Frame} {meth : Method} {cd : Code} (l : Launch) {b : Nat} {xs : Nat → Int32} {o : Nat} {D : va_G} {c : zC} (ho : s.heap.size = o) (C0 : lw_At p s m meth cd b 6 xs) (hK : zKt D c s) {σ : zS} (h0 : σ.1 2 0 = 0) (h1 : σ.1 2 1 = 0) (h2 : σ.1 2 2 = 0) (ht : σ.1 0 1 = 0) (hk : σ.1 0 2 = 0) (hp : σ.1 0 3 = (-1)) (hk0 : σ.1 55 0 = 0) (hk1 : σ.1 55 1 = 0) (hk2 : σ.1 55 2 = 0) (hb210 : σ.1 210 2 = (-1)) (hb212 : σ.1 212 2 = (-1)) (hb214 : σ.1 214 2 = (-1)) (hb216 : σ.1 216 2 = (-1)) (m0 : σ.1 219 0 = 0) (m1 : σ.1 219 1 = 0) (m2 : σ.1 219 2 = 0) (mt : σ.1 218 7 = 0) (mk : σ.1 218 14 = 0) (mp : σ.1 218 15 = (-1)) (mh0 : σ.1 223 0 = 0) (mh1 : σ.1 223 1 = 0) (mh2 : σ.1 223 2 = 0) (mm0 : σ.1 239 0 = (-1)) (mm1 : σ.1 239 1 = (-1)) (mm2 : σ.1 239 2 = (-1)) (mm3 : σ.1 239 3 = (-1)) (hR : zRef o σ.2.2) (hN : σ.2.2 0 4 = o + 2) (hSp : σ.2.2 0 5 = o + 28) (hz : ∀ k j, σ.2.1 k j = 0) {H : Heap} {locs : List Loc} {ls : Array Slot} (hP : zP D c o σ H) (hS : va_S (zA o) s.heap H locs) (hl : lv_has ls 4 [(3, .int 0), (2, .ref (o + 218)), (1, .ref (o + 0)), (0, .ref b)]) : W p l e room_1 s m #[Value.ref b] below meth cd H locs 243 106038 (lw_Z below #[Value.ref b] s) (F0 m 1806 ls []) := by
  have C00 := C0
  obtain ⟨hx, hb, hr, hml, hown, hts0, hX0, hbl, hlocks, hgv⟩ := C0
  have hts : ∀ w ∈ zWl, w.before #[Value.ref b] s = true := fun w hw => hts0 w (List.mem_filter.mp hw).1
  have hown : s.vm.findClass RL = some m.cls := hown
  have hbA : ¬ zA o b := by show ¬ o ≤ b; omega
  refine lv_aload_n (pc := 1806) hx hb dL_law_1806 rfl (lv_at hl 2 rfl) ?_
  refine lv_aload_n (pc := 1807) hx hb dL_law_1807 rfl (lv_at hl 3 rfl) ?_
  refine lv_iload_n (pc := 1808) hx hb dL_law_1808 rfl (lv_at hl 0 rfl) ?_
  refine lv_iconst (pc := 1809) (v := 1) hx hb dL_law_1809 (by decide) ?_
  refine lv_iadd (pc := 1810) hx hb dL_law_1810 ?_
  refine lv_topi (pc := 1811) (fun v1 ev1 => ?_)
  obtain rfl : v1 = 1 := ev1.trans (by decide)
  refine zsld (pc := 1811) (k := 1) hx hb hX0 hbl hbA hS (vp_in_iff.mpr ⟨by decide, by decide⟩) rfl dL_law_1811 ?_
  refine lv_aload_n (pc := 1812) hx hb dL_law_1812 rfl (lv_at hl 3 rfl) ?_
  refine lv_iload_n (pc := 1813) hx hb dL_law_1813 rfl (lv_at hl 0 rfl) ?_
  refine lv_iconst (pc := 1814) (v := 2) hx hb dL_law_1814 (by decide) ?_
  refine lv_iadd (pc := 1815) hx hb dL_law_1815 ?_
  refine lv_topi (pc := 1816) (fun v2 ev2 => ?_)
  obtain rfl : v2 = 2 := ev2.trans (by decide)
  refine zsld (pc := 1816) (k := 2) hx hb hX0 hbl hbA hS (vp_in_iff.mpr ⟨by decide, by decide⟩) rfl dL_law_1816 ?_
  refine lv_aload_n (pc := 1817) hx hb dL_law_1817 rfl (lv_at hl 3 rfl) ?_
  refine lv_iload_n (pc := 1818) hx hb dL_law_1818 rfl (lv_at hl 0 rfl) ?_
  refine lv_iconst (pc := 1819) (v := 3) hx hb dL_law_1819 (by decide) ?_
  refine lv_iadd (pc := 1820) hx hb dL_law_1820 ?_
  refine lv_topi (pc := 1821) (fun v3 ev3 => ?_)
  obtain rfl : v3 = 3 := ev3.trans (by decide)
  refine zsld (pc := 1821) (k := 3) hx hb hX0 hbl hbA hS (vp_in_iff.mpr ⟨by decide, by decide⟩) rfl dL_law_1821 ?_
  refine lv_aload_n (pc := 1822) hx hb dL_law_1822 rfl (lv_at hl 3 rfl) ?_
  refine lv_iload_n (pc := 1823) hx hb dL_law_1823 rfl (lv_at hl 0 rfl) ?_
  refine lv_iconst (pc := 1824) (v := 4) hx hb dL_law_1824 (by decide) ?_
  refine lv_iadd (pc := 1825) hx hb dL_law_1825 ?_
  refine lv_topi (pc := 1826) (fun v4 ev4 => ?_)
  obtain rfl : v4 = 4 := ev4.trans (by decide)
  refine zsld (pc := 1826) (k := 4) hx hb hX0 hbl hbA hS (vp_in_iff.mpr ⟨by decide, by decide⟩) rfl dL_law_1826 ?_
  refine lv_aload_n (pc := 1827) hx hb dL_law_1827 rfl (lv_at hl 3 rfl) ?_
  refine lv_iload_n (pc := 1828) hx hb dL_law_1828 rfl (lv_at hl 0 rfl) ?_
  refine lv_iconst (pc := 1829) (v := 5) hx hb dL_law_1829 (by decide) ?_
  refine lv_iadd (pc := 1830) hx hb dL_law_1830 ?_
  refine lv_topi (pc := 1831) (fun v5 ev5 => ?_)
  obtain rfl : v5 = 5 := ev5.trans (by decide)
  refine zsld (pc := 1831) (k := 5) hx hb hX0 hbl hbA hS (vp_in_iff.mpr ⟨by decide, by decide⟩) rfl dL_law_1831 ?_
  refine zcallVi (pc := 1832) (k := 0) (As := [.int (xs 1), .int (xs 2), .int (xs 3), .int (xs 4), .int (xs 5)]) (rest := []) ⟨hx, hb, hml, hown, hts⟩ (fr_X11_paste l D c o σ (xs 1) (xs 2) (xs 3) (xs 4) (xs 5) hR hb210 hb212 hb214 hb216) zc11 zV_L_208 rfl zd_X11_paste ⟨Nat.le_of_ble_eq_true rfl, Nat.le_of_ble_eq_true rfl⟩ hK hP hS rfl (by decide) hl.1 rfl (Nat.le_of_ble_eq_true rfl) ⟨Nat.le_of_ble_eq_true rfl, Nat.le_of_ble_eq_true rfl⟩ dL_law_1832 (fun r6 σ7 H locs hw8 hP hS => ?_)
  obtain ⟨er6, rfl⟩ := hw8
  refine lv_aload_n (pc := 1835) hx hb dL_law_1835 rfl (lv_at hl 1 rfl) ?_
  refine lv_aload_n (pc := 1836) hx hb dL_law_1836 rfl (lv_at hl 3 rfl) ?_
  refine lv_iload_n (pc := 1837) hx hb dL_law_1837 rfl (lv_at hl 0 rfl) ?_
  refine lv_iconst (pc := 1838) (v := 1) hx hb dL_law_1838 (by decide) ?_
  refine lv_iadd (pc := 1839) hx hb dL_law_1839 ?_
  refine lv_topi (pc := 1840) (fun v9 ev9 => ?_)
  obtain rfl : v9 = 1 := ev9.trans (by decide)
  refine zsld (pc := 1840) (k := 1) hx hb hX0 hbl hbA hS (vp_in_iff.mpr ⟨by decide, by decide⟩) rfl dL_law_1840 ?_
  refine lv_aload_n (pc := 1841) hx hb dL_law_1841 rfl (lv_at hl 3 rfl) ?_
  refine lv_iload_n (pc := 1842) hx hb dL_law_1842 rfl (lv_at hl 0 rfl) ?_
  refine lv_iconst (pc := 1843) (v := 2) hx hb dL_law_1843 (by decide) ?_
  refine lv_iadd (pc := 1844) hx hb dL_law_1844 ?_
  refine lv_topi (pc := 1845) (fun v10 ev10 => ?_)
  obtain rfl : v10 = 2 := ev10.trans (by decide)
  refine zsld (pc := 1845) (k := 2) hx hb hX0 hbl hbA hS (vp_in_iff.mpr ⟨by decide, by decide⟩) rfl dL_law_1845 ?_
  refine lv_aload_n (pc := 1846) hx hb dL_law_1846 rfl (lv_at hl 3 rfl) ?_
  refine lv_iload_n (pc := 1847) hx hb dL_law_1847 rfl (lv_at hl 0 rfl) ?_
  refine lv_iconst (pc := 1848) (v := 3) hx hb dL_law_1848 (by decide) ?_
  refine lv_iadd (pc := 1849) hx hb dL_law_1849 ?_
  refine lv_topi (pc := 1850) (fun v11 ev11 => ?_)
  obtain rfl : v11 = 3 := ev11.trans (by decide)
  refine zsld (pc := 1850) (k := 3) hx hb hX0 hbl hbA hS (vp_in_iff.mpr ⟨by decide, by decide⟩) rfl dL_law_1850 ?_
  refine lv_aload_n (pc := 1851) hx hb dL_law_1851 rfl (lv_at hl 3 rfl) ?_
  refine lv_iload_n (pc := 1852) hx hb dL_law_1852 rfl (lv_at hl 0 rfl) ?_
  refine lv_iconst (pc := 1853) (v := 4) hx hb dL_law_1853 (by decide) ?_
  refine lv_iadd (pc := 1854) hx hb dL_law_1854 ?_
  refine lv_topi (pc := 1855) (fun v12 ev12 => ?_)
  obtain rfl : v12 = 4 := ev12.trans (by decide)
  refine zsld (pc := 1855) (k := 4) hx hb hX0 hbl hbA hS (vp_in_iff.mpr ⟨by decide, by decide⟩) rfl dL_law_1855 ?_
  refine lv_aload_n (pc := 1856) hx hb dL_law_1856 rfl (lv_at hl 3 rfl) ?_
  refine lv_iload_n (pc := 1857) hx hb dL_law_1857 rfl (lv_at hl 0 rfl) ?_
  refine lv_iconst (pc := 1858) (v := 5) hx hb dL_law_1858 (by decide) ?_
  refine lv_iadd (pc := 1859) hx hb dL_law_1859 ?_
  refine lv_topi (pc := 1860) (fun v13 ev13 => ?_)
  obtain rfl : v13 = 5 := ev13.trans (by decide)
  refine zsld (pc := 1860) (k := 5) hx hb hX0 hbl hbA hS (vp_in_iff.mpr ⟨by decide, by decide⟩) rfl dL_law_1860 ?_
  refine zcallVi (pc := 1861) (k := 218) (As := [.int (xs 1), .int (xs 2), .int (xs 3), .int (xs 4), .int (xs 5)]) (rest := [.int r6]) ⟨hx, hb, hml, hown, hts⟩ (fr_X12_paste l D c o σ (xs 1) (xs 2) (xs 3) (xs 4) (xs 5) hR mm0 mm1 mm2 mm3) zc12 zV_L_211 rfl zd_X12_paste ⟨Nat.le_of_ble_eq_true rfl, Nat.le_of_ble_eq_true rfl⟩ hK hP hS rfl (by decide) hl.1 rfl (Nat.le_of_ble_eq_true rfl) ⟨Nat.le_of_ble_eq_true rfl, Nat.le_of_ble_eq_true rfl⟩ dL_law_1861 (fun r14 σ15 H locs hw16 hP hS => ?_)
  have er14 := hw16
  refine lv_icmp_eq (pc := 1864) (tgt := 1869) hx hb dL_law_1864 (by decide) (fun _ => ?_) (fun q9 => absurd (er6.trans er14.symm) q9)
  exact lw_tail l ho C00 hK hS (lv_sub hl [0, 1, 2, 3] rfl)

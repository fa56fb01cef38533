section XLAW
variable {p : Program} {l : Launch} {e : Env} {R : Room} {s : State} {m : MethodId} {args : Array Value} {below : List Frame} {meth : Method} {cd : Code} {H : Heap} {locs : List Loc} {cells slots : Nat} {Q : State → Prop}
variable {cc : ByteArray} {pc : Nat} {ls : Array Slot} {rest : List Value} {A : Nat → Prop} {H0 : Heap}
theorem xlX {b L : Nat} {xs : Nat → Int32} {i v : Int32} (hx : p.tables.exec = Jvm.exec) (hb : cd.code = cc) (hX : va_X b L xs s H0) (hbl : b < H0.size) (hbA : ¬ A b) (hS : va_S A H0 H locs) (hv : aX L xs i = some v) (hdg : decode cc pc = .ok (.iaload, 1))
    (kk : W p l e R s m args below meth cd H locs cells slots Q (F0 m (pc + 1) ls (.int v :: rest))) : W p l e R s m args below meth cd H locs cells slots Q (F0 m pc ls (.int i :: .ref b :: rest)) := by
  obtain ⟨h1, h2⟩ := zguard hv
  subst h2
  exact va_sld hx hb hX hbl hbA hS (vp_in_iff.mpr h1) hdg kk
theorem xlret {o b : Nat} {ρ : Int32 × zS} {v : Int32} {σ : zS} (ho : s.heap.size = o) (hx : p.tables.exec = Jvm.exec) (hb : cd.code = code) (hr : meth.sig.returnType = ret) (hlocks : meth.locks = false) (hS : va_S (zA o) s.heap H locs) (hρ : ρ.1 = 1) (h : some (v, σ) = some ρ) (hdg : decode code pc = .ok (.ireturn, 1)) :
    W p l e room_1 s m #[Value.ref b] below meth cd H locs 243 106038 (lw_Z below #[Value.ref b] s) (F0 m pc ls [.int v]) := by
  have e1 : v = 1 := (congrArg Prod.fst (Option.some.inj h)).trans hρ
  subst e1
  refine va_forget (fun q hq => by rw [ho]; exact hS.2.2 q hq) ?_
  refine W.widen (k := 600000) (n := 7302250) (Nat.le_of_ble_eq_true rfl) (Nat.le_of_ble_eq_true rfl) ?_
  exact lw_ret hx hb hr hlocks hdg
end XLAW
set_option maxHeartbeats 4000000 in
set_option maxRecDepth 100000 in
theorem wl_236 {p : Program} {e : Env} {s : State} {m : MethodId} {below : List Frame} {meth : Method} {cd : Code} (l : Launch) {b L : Nat} {xs : Nat → Int32} {o : Nat} {D : va_G} {c : zC} {g : zEp} (ho : s.heap.size = o) (C0 : lw_At p s m meth cd b L xs) (hK : zKt D c s) (hE : zE g o s s.heap) (N : Nat) {ρ : Int32 × zS} (hρ : ρ.1 = 1) {ag : Int32 × zS → Option (Int32 × zS)} (ih : ∀ (t : Int32 × zS), ag t = some ρ → ∀ (H : Heap) (locs : List Loc) (ls : Array Slot), zP D c o (zabs o t.2) H → va_S (zA o) s.heap H locs → lv_has ls 4 [(3, .int t.1), (0, .ref b), (1, .ref (o + 0)), (2, .ref (o + 218))] → W p l e room_1 s m #[Value.ref b] below meth cd H locs 243 106038 (lw_Z below #[Value.ref b] s) (F0 m 18 ls [])) {x3 : Int32} {σ : zS} (h : J_L_law_236 N L xs ag x3 σ = some ρ) (H : Heap) (locs : List Loc) (ls : Array Slot) (hP : zP D c o (zabs o σ) H) (hS : va_S (zA o) s.heap H locs) (hl : lv_has ls 4 [(3, .int x3), (0, .ref b), (1, .ref (o + 0)), (2, .ref (o + 218))]) : W p l e room_1 s m #[Value.ref b] below meth cd H locs 243 106038 (lw_Z below #[Value.ref b] s) (F0 m 236 ls []) := by
  obtain ⟨hx, hb, hr, hml, hown, hts0, hX0, hbl, hlocks, hgv⟩ := C0
  have hts : ∀ w ∈ zWl, w.before #[Value.ref b] s = true := fun w hw => hts0 w (List.mem_filter.mp hw).1
  have hown : s.vm.findClass RL = some m.cls := hown
  have hbA : ¬ zA o b := by show ¬ o ≤ b; omega
  rw [J_L_law_236.eq_1] at h
  refine lv_aload_n (pc := 236) hx hb dL_law_236 rfl (lv_at hl 2 rfl) ?_
  refine lv_aload_n (pc := 237) hx hb dL_law_237 rfl (lv_at hl 1 rfl) ?_
  refine lv_iload_n (pc := 238) hx hb dL_law_238 rfl (lv_at hl 0 rfl) ?_
  refine lv_iconst (pc := 239) (v := 1) hx hb dL_law_239 (by decide) ?_
  refine lv_iadd (pc := 240) hx hb dL_law_240 ?_
  obtain ⟨v1, hv, h⟩ := zl_some h
  refine xlX (pc := 241) hx hb hX0 hbl hbA hS hv dL_law_241 ?_
  refine lv_aload_n (pc := 242) hx hb dL_law_242 rfl (lv_at hl 1 rfl) ?_
  refine lv_iload_n (pc := 243) hx hb dL_law_243 rfl (lv_at hl 0 rfl) ?_
  refine lv_iconst (pc := 244) (v := 2) hx hb dL_law_244 (by decide) ?_
  refine lv_iadd (pc := 245) hx hb dL_law_245 ?_
  obtain ⟨v2, hv, h⟩ := zl_some h
  refine xlX (pc := 246) hx hb hX0 hbl hbA hS hv dL_law_246 ?_
  refine lv_aload_n (pc := 247) hx hb dL_law_247 rfl (lv_at hl 1 rfl) ?_
  refine lv_iload_n (pc := 248) hx hb dL_law_248 rfl (lv_at hl 0 rfl) ?_
  refine lv_iconst (pc := 249) (v := 3) hx hb dL_law_249 (by decide) ?_
  refine lv_iadd (pc := 250) hx hb dL_law_250 ?_
  obtain ⟨v3, hv, h⟩ := zl_some h
  refine xlX (pc := 251) hx hb hX0 hbl hbA hS hv dL_law_251 ?_
  refine lv_aload_n (pc := 252) hx hb dL_law_252 rfl (lv_at hl 1 rfl) ?_
  refine lv_iload_n (pc := 253) hx hb dL_law_253 rfl (lv_at hl 0 rfl) ?_
  refine lv_iconst (pc := 254) (v := 4) hx hb dL_law_254 (by decide) ?_
  refine lv_iadd (pc := 255) hx hb dL_law_255 ?_
  obtain ⟨v4, hv, h⟩ := zl_some h
  refine xlX (pc := 256) hx hb hX0 hbl hbA hS hv dL_law_256 ?_
  refine lv_aload_n (pc := 257) hx hb dL_law_257 rfl (lv_at hl 1 rfl) ?_
  refine lv_iload_n (pc := 258) hx hb dL_law_258 rfl (lv_at hl 0 rfl) ?_
  refine lv_iconst (pc := 259) (v := 5) hx hb dL_law_259 (by decide) ?_
  refine lv_iadd (pc := 260) hx hb dL_law_260 ?_
  obtain ⟨v5, hv, h⟩ := zl_some h
  refine xlX (pc := 261) hx hb hX0 hbl hbA hS hv dL_law_261 ?_
  obtain ⟨_, hg, h⟩ := zl_some h
  obtain ⟨v6, σ7, hv, h⟩ := zb_some h
  refine xcallVi (pc := 262) (As := [.int v1, .int v2, .int v3, .int v4, .int v5]) (rest := []) ⟨hx, hb, hml, hown, hts⟩ (c_X11_feed l D c o g N hv) zc11 zV_L_13 rfl zd_X11_feed ⟨Nat.le_of_ble_eq_true rfl, Nat.le_of_ble_eq_true rfl⟩ hK hP hE hS hg hl.1 rfl (Nat.le_of_ble_eq_true rfl) ⟨Nat.le_of_ble_eq_true rfl, Nat.le_of_ble_eq_true rfl⟩ dL_law_262 (fun H locs hP hS => ?_)
  refine lv_pop (pc := 265) hx hb dL_law_265 rfl ?_
  refine lv_aload_n (pc := 266) hx hb dL_law_266 rfl (lv_at hl 3 rfl) ?_
  refine lv_aload_n (pc := 267) hx hb dL_law_267 rfl (lv_at hl 1 rfl) ?_
  refine lv_iload_n (pc := 268) hx hb dL_law_268 rfl (lv_at hl 0 rfl) ?_
  refine lv_iconst (pc := 269) (v := 1) hx hb dL_law_269 (by decide) ?_
  refine lv_iadd (pc := 270) hx hb dL_law_270 ?_
  obtain ⟨v8, hv, h⟩ := zl_some h
  refine xlX (pc := 271) hx hb hX0 hbl hbA hS hv dL_law_271 ?_
  refine lv_aload_n (pc := 272) hx hb dL_law_272 rfl (lv_at hl 1 rfl) ?_
  refine lv_iload_n (pc := 273) hx hb dL_law_273 rfl (lv_at hl 0 rfl) ?_
  refine lv_iconst (pc := 274) (v := 2) hx hb dL_law_274 (by decide) ?_
  refine lv_iadd (pc := 275) hx hb dL_law_275 ?_
  obtain ⟨v9, hv, h⟩ := zl_some h
  refine xlX (pc := 276) hx hb hX0 hbl hbA hS hv dL_law_276 ?_
  refine lv_aload_n (pc := 277) hx hb dL_law_277 rfl (lv_at hl 1 rfl) ?_
  refine lv_iload_n (pc := 278) hx hb dL_law_278 rfl (lv_at hl 0 rfl) ?_
  refine lv_iconst (pc := 279) (v := 3) hx hb dL_law_279 (by decide) ?_
  refine lv_iadd (pc := 280) hx hb dL_law_280 ?_
  obtain ⟨v10, hv, h⟩ := zl_some h
  refine xlX (pc := 281) hx hb hX0 hbl hbA hS hv dL_law_281 ?_
  refine lv_aload_n (pc := 282) hx hb dL_law_282 rfl (lv_at hl 1 rfl) ?_
  refine lv_iload_n (pc := 283) hx hb dL_law_283 rfl (lv_at hl 0 rfl) ?_
  refine lv_iconst (pc := 284) (v := 4) hx hb dL_law_284 (by decide) ?_
  refine lv_iadd (pc := 285) hx hb dL_law_285 ?_
  obtain ⟨v11, hv, h⟩ := zl_some h
  refine xlX (pc := 286) hx hb hX0 hbl hbA hS hv dL_law_286 ?_
  refine lv_aload_n (pc := 287) hx hb dL_law_287 rfl (lv_at hl 1 rfl) ?_
  refine lv_iload_n (pc := 288) hx hb dL_law_288 rfl (lv_at hl 0 rfl) ?_
  refine lv_iconst (pc := 289) (v := 5) hx hb dL_law_289 (by decide) ?_
  refine lv_iadd (pc := 290) hx hb dL_law_290 ?_
  obtain ⟨v12, hv, h⟩ := zl_some h
  refine xlX (pc := 291) hx hb hX0 hbl hbA hS hv dL_law_291 ?_
  obtain ⟨_, hg, h⟩ := zl_some h
  obtain ⟨v13, σ14, hv, h⟩ := zb_some h
  refine xcallVi (pc := 292) (As := [.int v8, .int v9, .int v10, .int v11, .int v12]) (rest := []) ⟨hx, hb, hml, hown, hts⟩ (c_X12_feed l D c o g N hv) zc12 zV_L_17 rfl zd_X12_feed ⟨Nat.le_of_ble_eq_true rfl, Nat.le_of_ble_eq_true rfl⟩ hK hP hE hS hg hl.1 rfl (Nat.le_of_ble_eq_true rfl) ⟨Nat.le_of_ble_eq_true rfl, Nat.le_of_ble_eq_true rfl⟩ dL_law_292 (fun H locs hP hS => ?_)
  refine lv_pop (pc := 295) hx hb dL_law_295 rfl ?_
  refine lv_goto (pc := 296) (tgt := 1869) hx hb dL_law_296 (by decide) ?_
  refine lv_iinc (pc := 1869) (v := x3 + 6) (lv' := [(3, .int (x3 + 6)), (0, .ref b), (1, .ref (o + 0)), (2, .ref (o + 218))]) hx hb dL_law_1869 hl (k := 0) rfl rfl (by decide) rfl (fun ls hl => ?_)
  refine lv_goto (pc := 1872) (tgt := 18) hx hb dL_law_1872 (by decide) ?_
  exact ih (x3 + 6, σ14) h _ _ ls hP hS (lv_sub hl [0, 1, 2, 3] rfl)
set_option maxHeartbeats 4000000 in
set_option maxRecDepth 100000 in
theorem wl_299 {p : Program} {e : Env} {s : State} {m : MethodId} {below : List Frame} {meth : Method} {cd : Code} (l : Launch) {b L : Nat} {xs : Nat → Int32} {o : Nat} {D : va_G} {c : zC} {g : zEp} (ho : s.heap.size = o) (C0 : lw_At p s m meth cd b L xs) (hK : zKt D c s) (hE : zE g o s s.heap) (N : Nat) {ρ : Int32 × zS} (hρ : ρ.1 = 1) {ag : Int32 × zS → Option (Int32 × zS)} (ih : ∀ (t : Int32 × zS), ag t = some ρ → ∀ (H : Heap) (locs : List Loc) (ls : Array Slot), zP D c o (zabs o t.2) H → va_S (zA o) s.heap H locs → lv_has ls 4 [(3, .int t.1), (0, .ref b), (1, .ref (o + 0)), (2, .ref (o + 218))] → W p l e room_1 s m #[Value.ref b] below meth cd H locs 243 106038 (lw_Z below #[Value.ref b] s) (F0 m 18 ls [])) {x3 : Int32} {σ : zS} (h : J_L_law_299 N L xs ag x3 σ = some ρ) (H : Heap) (locs : List Loc) (ls : Array Slot) (hP : zP D c o (zabs o σ) H) (hS : va_S (zA o) s.heap H locs) (hl : lv_has ls 4 [(3, .int x3), (0, .ref b), (1, .ref (o + 0)), (2, .ref (o + 218))]) : W p l e room_1 s m #[Value.ref b] below meth cd H locs 243 106038 (lw_Z below #[Value.ref b] s) (F0 m 299 ls []) := by
  obtain ⟨hx, hb, hr, hml, hown, hts0, hX0, hbl, hlocks, hgv⟩ := C0
  have hts : ∀ w ∈ zWl, w.before #[Value.ref b] s = true := fun w hw => hts0 w (List.mem_filter.mp hw).1
  have hown : s.vm.findClass RL = some m.cls := hown
  have hbA : ¬ zA o b := by show ¬ o ≤ b; omega
  rw [J_L_law_299.eq_1] at h
  refine lv_aload_n (pc := 299) hx hb dL_law_299 rfl (lv_at hl 2 rfl) ?_
  refine lv_aload_n (pc := 300) hx hb dL_law_300 rfl (lv_at hl 1 rfl) ?_
  refine lv_iload_n (pc := 301) hx hb dL_law_301 rfl (lv_at hl 0 rfl) ?_
  refine lv_iconst (pc := 302) (v := 1) hx hb dL_law_302 (by decide) ?_
  refine lv_iadd (pc := 303) hx hb dL_law_303 ?_
  obtain ⟨v1, hv, h⟩ := zl_some h
  refine xlX (pc := 304) hx hb hX0 hbl hbA hS hv dL_law_304 ?_
  obtain ⟨_, hg, h⟩ := zl_some h
  obtain ⟨v2, σ3, hv, h⟩ := zb_some h
  refine xcallVi (pc := 305) (As := [.int v1]) (rest := []) ⟨hx, hb, hml, hown, hts⟩ (c_X11_end l D c o g N hv) zc11 zV_L_18 rfl zd_X11_end ⟨Nat.le_of_ble_eq_true rfl, Nat.le_of_ble_eq_true rfl⟩ hK hP hE hS hg hl.1 rfl (Nat.le_of_ble_eq_true rfl) ⟨Nat.le_of_ble_eq_true rfl, Nat.le_of_ble_eq_true rfl⟩ dL_law_305 (fun H locs hP hS => ?_)
  refine lv_pop (pc := 308) hx hb dL_law_308 rfl ?_
  refine lv_aload_n (pc := 309) hx hb dL_law_309 rfl (lv_at hl 3 rfl) ?_
  refine lv_aload_n (pc := 310) hx hb dL_law_310 rfl (lv_at hl 1 rfl) ?_
  refine lv_iload_n (pc := 311) hx hb dL_law_311 rfl (lv_at hl 0 rfl) ?_
  refine lv_iconst (pc := 312) (v := 1) hx hb dL_law_312 (by decide) ?_
  refine lv_iadd (pc := 313) hx hb dL_law_313 ?_
  obtain ⟨v4, hv, h⟩ := zl_some h
  refine xlX (pc := 314) hx hb hX0 hbl hbA hS hv dL_law_314 ?_
  obtain ⟨_, hg, h⟩ := zl_some h
  obtain ⟨v5, σ6, hv, h⟩ := zb_some h
  refine xcallVi (pc := 315) (As := [.int v4]) (rest := []) ⟨hx, hb, hml, hown, hts⟩ (c_X12_end l D c o g N hv) zc12 zV_L_22 rfl zd_X12_end ⟨Nat.le_of_ble_eq_true rfl, Nat.le_of_ble_eq_true rfl⟩ hK hP hE hS hg hl.1 rfl (Nat.le_of_ble_eq_true rfl) ⟨Nat.le_of_ble_eq_true rfl, Nat.le_of_ble_eq_true rfl⟩ dL_law_315 (fun H locs hP hS => ?_)
  refine lv_pop (pc := 318) hx hb dL_law_318 rfl ?_
  refine lv_goto (pc := 319) (tgt := 1869) hx hb dL_law_319 (by decide) ?_
  refine lv_iinc (pc := 1869) (v := x3 + 6) (lv' := [(3, .int (x3 + 6)), (0, .ref b), (1, .ref (o + 0)), (2, .ref (o + 218))]) hx hb dL_law_1869 hl (k := 0) rfl rfl (by decide) rfl (fun ls hl => ?_)
  refine lv_goto (pc := 1872) (tgt := 18) hx hb dL_law_1872 (by decide) ?_
  exact ih (x3 + 6, σ6) h _ _ ls hP hS (lv_sub hl [0, 1, 2, 3] rfl)
set_option maxHeartbeats 4000000 in
set_option maxRecDepth 100000 in
theorem wl_322 {p : Program} {e : Env} {s : State} {m : MethodId} {below : List Frame} {meth : Method} {cd : Code} (l : Launch) {b L : Nat} {xs : Nat → Int32} {o : Nat} {D : va_G} {c : zC} {g : zEp} (ho : s.heap.size = o) (C0 : lw_At p s m meth cd b L xs) (hK : zKt D c s) (hE : zE g o s s.heap) (N : Nat) {ρ : Int32 × zS} (hρ : ρ.1 = 1) {ag : Int32 × zS → Option (Int32 × zS)} (ih : ∀ (t : Int32 × zS), ag t = some ρ → ∀ (H : Heap) (locs : List Loc) (ls : Array Slot), zP D c o (zabs o t.2) H → va_S (zA o) s.heap H locs → lv_has ls 4 [(3, .int t.1), (0, .ref b), (1, .ref (o + 0)), (2, .ref (o + 218))] → W p l e room_1 s m #[Value.ref b] below meth cd H locs 243 106038 (lw_Z below #[Value.ref b] s) (F0 m 18 ls [])) {x3 : Int32} {σ : zS} (h : J_L_law_322 N L xs ag x3 σ = some ρ) (H : Heap) (locs : List Loc) (ls : Array Slot) (hP : zP D c o (zabs o σ) H) (hS : va_S (zA o) s.heap H locs) (hl : lv_has ls 4 [(3, .int x3), (0, .ref b), (1, .ref (o + 0)), (2, .ref (o + 218))]) : W p l e room_1 s m #[Value.ref b] below meth cd H locs 243 106038 (lw_Z below #[Value.ref b] s) (F0 m 322 ls []) := by
  obtain ⟨hx, hb, hr, hml, hown, hts0, hX0, hbl, hlocks, hgv⟩ := C0
  have hts : ∀ w ∈ zWl, w.before #[Value.ref b] s = true := fun w hw => hts0 w (List.mem_filter.mp hw).1
  have hown : s.vm.findClass RL = some m.cls := hown
  have hbA : ¬ zA o b := by show ¬ o ≤ b; omega
  rw [J_L_law_322.eq_1] at h
  refine lv_aload_n (pc := 322) hx hb dL_law_322 rfl (lv_at hl 2 rfl) ?_
  obtain ⟨_, hg, h⟩ := zl_some h
  obtain ⟨v1, σ2, hv, h⟩ := zb_some h
  refine xcallVi (pc := 323) (As := []) (rest := []) ⟨hx, hb, hml, hown, hts⟩ (c_X11_world l D c o g N hv) zc11 zV_L_23 rfl zd_X11_world ⟨Nat.le_of_ble_eq_true rfl, Nat.le_of_ble_eq_true rfl⟩ hK hP hE hS hg hl.1 rfl (Nat.le_of_ble_eq_true rfl) ⟨Nat.le_of_ble_eq_true rfl, Nat.le_of_ble_eq_true rfl⟩ dL_law_323 (fun H locs hP hS => ?_)
  refine lv_pop (pc := 326) hx hb dL_law_326 rfl ?_
  refine lv_aload_n (pc := 327) hx hb dL_law_327 rfl (lv_at hl 3 rfl) ?_
  obtain ⟨_, hg, h⟩ := zl_some h
  obtain ⟨v3, σ4, hv, h⟩ := zb_some h
  refine xcallVi (pc := 328) (As := []) (rest := []) ⟨hx, hb, hml, hown, hts⟩ (c_X12_world l D c o g N hv) zc12 zV_L_27 rfl zd_X12_world ⟨Nat.le_of_ble_eq_true rfl, Nat.le_of_ble_eq_true rfl⟩ hK hP hE hS hg hl.1 rfl (Nat.le_of_ble_eq_true rfl) ⟨Nat.le_of_ble_eq_true rfl, Nat.le_of_ble_eq_true rfl⟩ dL_law_328 (fun H locs hP hS => ?_)
  refine lv_pop (pc := 331) hx hb dL_law_331 rfl ?_
  refine lv_goto (pc := 332) (tgt := 1869) hx hb dL_law_332 (by decide) ?_
  refine lv_iinc (pc := 1869) (v := x3 + 6) (lv' := [(3, .int (x3 + 6)), (0, .ref b), (1, .ref (o + 0)), (2, .ref (o + 218))]) hx hb dL_law_1869 hl (k := 0) rfl rfl (by decide) rfl (fun ls hl => ?_)
  refine lv_goto (pc := 1872) (tgt := 18) hx hb dL_law_1872 (by decide) ?_
  exact ih (x3 + 6, σ4) h _ _ ls hP hS (lv_sub hl [0, 1, 2, 3] rfl)
set_option maxHeartbeats 4000000 in
set_option maxRecDepth 100000 in
theorem wl_335 {p : Program} {e : Env} {s : State} {m : MethodId} {below : List Frame} {meth : Method} {cd : Code} (l : Launch) {b L : Nat} {xs : Nat → Int32} {o : Nat} {D : va_G} {c : zC} {g : zEp} (ho : s.heap.size = o) (C0 : lw_At p s m meth cd b L xs) (hK : zKt D c s) (hE : zE g o s s.heap) (N : Nat) {ρ : Int32 × zS} (hρ : ρ.1 = 1) {ag : Int32 × zS → Option (Int32 × zS)} (ih : ∀ (t : Int32 × zS), ag t = some ρ → ∀ (H : Heap) (locs : List Loc) (ls : Array Slot), zP D c o (zabs o t.2) H → va_S (zA o) s.heap H locs → lv_has ls 4 [(3, .int t.1), (0, .ref b), (1, .ref (o + 0)), (2, .ref (o + 218))] → W p l e room_1 s m #[Value.ref b] below meth cd H locs 243 106038 (lw_Z below #[Value.ref b] s) (F0 m 18 ls [])) {x3 : Int32} {σ : zS} (h : J_L_law_335 N L xs ag x3 σ = some ρ) (H : Heap) (locs : List Loc) (ls : Array Slot) (hP : zP D c o (zabs o σ) H) (hS : va_S (zA o) s.heap H locs) (hl : lv_has ls 4 [(3, .int x3), (0, .ref b), (1, .ref (o + 0)), (2, .ref (o + 218))]) : W p l e room_1 s m #[Value.ref b] below meth cd H locs 243 106038 (lw_Z below #[Value.ref b] s) (F0 m 335 ls []) := by
  obtain ⟨hx, hb, hr, hml, hown, hts0, hX0, hbl, hlocks, hgv⟩ := C0
  have hts : ∀ w ∈ zWl, w.before #[Value.ref b] s = true := fun w hw => hts0 w (List.mem_filter.mp hw).1
  have hown : s.vm.findClass RL = some m.cls := hown
  have hbA : ¬ zA o b := by show ¬ o ≤ b; omega
  rw [J_L_law_335.eq_1] at h
  refine lv_aload_n (pc := 335) hx hb dL_law_335 rfl (lv_at hl 2 rfl) ?_
  refine lv_aload_n (pc := 336) hx hb dL_law_336 rfl (lv_at hl 1 rfl) ?_
  refine lv_iload_n (pc := 337) hx hb dL_law_337 rfl (lv_at hl 0 rfl) ?_
  refine lv_iconst (pc := 338) (v := 1) hx hb dL_law_338 (by decide) ?_
  refine lv_iadd (pc := 339) hx hb dL_law_339 ?_
  obtain ⟨v1, hv, h⟩ := zl_some h
  refine xlX (pc := 340) hx hb hX0 hbl hbA hS hv dL_law_340 ?_
  obtain ⟨_, hg, h⟩ := zl_some h
  obtain ⟨v2, σ3, hv, h⟩ := zb_some h
  refine xcallVi (pc := 341) (As := [.int v1]) (rest := []) ⟨hx, hb, hml, hown, hts⟩ (c_X11_put l D c o g N hv) zc11 zV_L_28 rfl zd_X11_put ⟨Nat.le_of_ble_eq_true rfl, Nat.le_of_ble_eq_true rfl⟩ hK hP hE hS hg hl.1 rfl (Nat.le_of_ble_eq_true rfl) ⟨Nat.le_of_ble_eq_true rfl, Nat.le_of_ble_eq_true rfl⟩ dL_law_341 (fun H locs hP hS => ?_)
  refine lv_pop (pc := 344) hx hb dL_law_344 rfl ?_
  refine lv_aload_n (pc := 345) hx hb dL_law_345 rfl (lv_at hl 3 rfl) ?_
  refine lv_aload_n (pc := 346) hx hb dL_law_346 rfl (lv_at hl 1 rfl) ?_
  refine lv_iload_n (pc := 347) hx hb dL_law_347 rfl (lv_at hl 0 rfl) ?_
  refine lv_iconst (pc := 348) (v := 1) hx hb dL_law_348 (by decide) ?_
  refine lv_iadd (pc := 349) hx hb dL_law_349 ?_
  obtain ⟨v4, hv, h⟩ := zl_some h
  refine xlX (pc := 350) hx hb hX0 hbl hbA hS hv dL_law_350 ?_
  obtain ⟨_, hg, h⟩ := zl_some h
  obtain ⟨v5, σ6, hv, h⟩ := zb_some h
  refine xcallVi (pc := 351) (As := [.int v4]) (rest := []) ⟨hx, hb, hml, hown, hts⟩ (c_X12_put l D c o g N hv) zc12 zV_L_31 rfl zd_X12_put ⟨Nat.le_of_ble_eq_true rfl, Nat.le_of_ble_eq_true rfl⟩ hK hP hE hS hg hl.1 rfl (Nat.le_of_ble_eq_true rfl) ⟨Nat.le_of_ble_eq_true rfl, Nat.le_of_ble_eq_true rfl⟩ dL_law_351 (fun H locs hP hS => ?_)
  refine lv_pop (pc := 354) hx hb dL_law_354 rfl ?_
  refine lv_goto (pc := 355) (tgt := 1869) hx hb dL_law_355 (by decide) ?_
  refine lv_iinc (pc := 1869) (v := x3 + 6) (lv' := [(3, .int (x3 + 6)), (0, .ref b), (1, .ref (o + 0)), (2, .ref (o + 218))]) hx hb dL_law_1869 hl (k := 0) rfl rfl (by decide) rfl (fun ls hl => ?_)
  refine lv_goto (pc := 1872) (tgt := 18) hx hb dL_law_1872 (by decide) ?_
  exact ih (x3 + 6, σ6) h _ _ ls hP hS (lv_sub hl [0, 1, 2, 3] rfl)
set_option maxHeartbeats 4000000 in
set_option maxRecDepth 100000 in
theorem wl_358 {p : Program} {e : Env} {s : State} {m : MethodId} {below : List Frame} {meth : Method} {cd : Code} (l : Launch) {b L : Nat} {xs : Nat → Int32} {o : Nat} {D : va_G} {c : zC} {g : zEp} (ho : s.heap.size = o) (C0 : lw_At p s m meth cd b L xs) (hK : zKt D c s) (hE : zE g o s s.heap) (N : Nat) {ρ : Int32 × zS} (hρ : ρ.1 = 1) {ag : Int32 × zS → Option (Int32 × zS)} (ih : ∀ (t : Int32 × zS), ag t = some ρ → ∀ (H : Heap) (locs : List Loc) (ls : Array Slot), zP D c o (zabs o t.2) H → va_S (zA o) s.heap H locs → lv_has ls 4 [(3, .int t.1), (0, .ref b), (1, .ref (o + 0)), (2, .ref (o + 218))] → W p l e room_1 s m #[Value.ref b] below meth cd H locs 243 106038 (lw_Z below #[Value.ref b] s) (F0 m 18 ls [])) {x3 : Int32} {σ : zS} (h : J_L_law_358 N L xs ag x3 σ = some ρ) (H : Heap) (locs : List Loc) (ls : Array Slot) (hP : zP D c o (zabs o σ) H) (hS : va_S (zA o) s.heap H locs) (hl : lv_has ls 4 [(3, .int x3), (0, .ref b), (1, .ref (o + 0)), (2, .ref (o + 218))]) : W p l e room_1 s m #[Value.ref b] below meth cd H locs 243 106038 (lw_Z below #[Value.ref b] s) (F0 m 358 ls []) := by
  obtain ⟨hx, hb, hr, hml, hown, hts0, hX0, hbl, hlocks, hgv⟩ := C0
  have hts : ∀ w ∈ zWl, w.before #[Value.ref b] s = true := fun w hw => hts0 w (List.mem_filter.mp hw).1
  have hown : s.vm.findClass RL = some m.cls := hown
  have hbA : ¬ zA o b := by show ¬ o ≤ b; omega
  rw [J_L_law_358.eq_1] at h
  refine lv_aload_n (pc := 358) hx hb dL_law_358 rfl (lv_at hl 2 rfl) ?_
  refine lv_aload_n (pc := 359) hx hb dL_law_359 rfl (lv_at hl 1 rfl) ?_
  refine lv_iload_n (pc := 360) hx hb dL_law_360 rfl (lv_at hl 0 rfl) ?_
  refine lv_iconst (pc := 361) (v := 1) hx hb dL_law_361 (by decide) ?_
  refine lv_iadd (pc := 362) hx hb dL_law_362 ?_
  obtain ⟨v1, hv, h⟩ := zl_some h
  refine xlX (pc := 363) hx hb hX0 hbl hbA hS hv dL_law_363 ?_
  obtain ⟨_, hg, h⟩ := zl_some h
  obtain ⟨v2, σ3, hv, h⟩ := zb_some h
  refine xcallVi (pc := 364) (As := [.int v1]) (rest := []) ⟨hx, hb, hml, hown, hts⟩ (c_X11_fault l D c o g N hv) zc11 zV_L_32 rfl zd_X11_fault ⟨Nat.le_of_ble_eq_true rfl, Nat.le_of_ble_eq_true rfl⟩ hK hP hE hS hg hl.1 rfl (Nat.le_of_ble_eq_true rfl) ⟨Nat.le_of_ble_eq_true rfl, Nat.le_of_ble_eq_true rfl⟩ dL_law_364 (fun H locs hP hS => ?_)
  refine lv_pop (pc := 367) hx hb dL_law_367 rfl ?_
  refine lv_aload_n (pc := 368) hx hb dL_law_368 rfl (lv_at hl 3 rfl) ?_
  refine lv_aload_n (pc := 369) hx hb dL_law_369 rfl (lv_at hl 1 rfl) ?_
  refine lv_iload_n (pc := 370) hx hb dL_law_370 rfl (lv_at hl 0 rfl) ?_
  refine lv_iconst (pc := 371) (v := 1) hx hb dL_law_371 (by decide) ?_
  refine lv_iadd (pc := 372) hx hb dL_law_372 ?_
  obtain ⟨v4, hv, h⟩ := zl_some h
  refine xlX (pc := 373) hx hb hX0 hbl hbA hS hv dL_law_373 ?_
  obtain ⟨_, hg, h⟩ := zl_some h
  obtain ⟨v5, σ6, hv, h⟩ := zb_some h
  refine xcallVi (pc := 374) (As := [.int v4]) (rest := []) ⟨hx, hb, hml, hown, hts⟩ (c_X12_fault l D c o g N hv) zc12 zV_L_35 rfl zd_X12_fault ⟨Nat.le_of_ble_eq_true rfl, Nat.le_of_ble_eq_true rfl⟩ hK hP hE hS hg hl.1 rfl (Nat.le_of_ble_eq_true rfl) ⟨Nat.le_of_ble_eq_true rfl, Nat.le_of_ble_eq_true rfl⟩ dL_law_374 (fun H locs hP hS => ?_)
  refine lv_pop (pc := 377) hx hb dL_law_377 rfl ?_
  refine lv_goto (pc := 378) (tgt := 1869) hx hb dL_law_378 (by decide) ?_
  refine lv_iinc (pc := 1869) (v := x3 + 6) (lv' := [(3, .int (x3 + 6)), (0, .ref b), (1, .ref (o + 0)), (2, .ref (o + 218))]) hx hb dL_law_1869 hl (k := 0) rfl rfl (by decide) rfl (fun ls hl => ?_)
  refine lv_goto (pc := 1872) (tgt := 18) hx hb dL_law_1872 (by decide) ?_
  exact ih (x3 + 6, σ6) h _ _ ls hP hS (lv_sub hl [0, 1, 2, 3] rfl)
set_option maxHeartbeats 4000000 in
set_option maxRecDepth 100000 in
theorem wl_381 {p : Program} {e : Env} {s : State} {m : MethodId} {below : List Frame} {meth : Method} {cd : Code} (l : Launch) {b L : Nat} {xs : Nat → Int32} {o : Nat} {D : va_G} {c : zC} {g : zEp} (ho : s.heap.size = o) (C0 : lw_At p s m meth cd b L xs) (hK : zKt D c s) (hE : zE g o s s.heap) (N : Nat) {ρ : Int32 × zS} (hρ : ρ.1 = 1) {ag : Int32 × zS → Option (Int32 × zS)} (ih : ∀ (t : Int32 × zS), ag t = some ρ → ∀ (H : Heap) (locs : List Loc) (ls : Array Slot), zP D c o (zabs o t.2) H → va_S (zA o) s.heap H locs → lv_has ls 4 [(3, .int t.1), (0, .ref b), (1, .ref (o + 0)), (2, .ref (o + 218))] → W p l e room_1 s m #[Value.ref b] below meth cd H locs 243 106038 (lw_Z below #[Value.ref b] s) (F0 m 18 ls [])) {x3 : Int32} {σ : zS} (h : J_L_law_381 N L xs ag x3 σ = some ρ) (H : Heap) (locs : List Loc) (ls : Array Slot) (hP : zP D c o (zabs o σ) H) (hS : va_S (zA o) s.heap H locs) (hl : lv_has ls 4 [(3, .int x3), (0, .ref b), (1, .ref (o + 0)), (2, .ref (o + 218))]) : W p l e room_1 s m #[Value.ref b] below meth cd H locs 243 106038 (lw_Z below #[Value.ref b] s) (F0 m 381 ls []) := by
  obtain ⟨hx, hb, hr, hml, hown, hts0, hX0, hbl, hlocks, hgv⟩ := C0
  have hts : ∀ w ∈ zWl, w.before #[Value.ref b] s = true := fun w hw => hts0 w (List.mem_filter.mp hw).1
  have hown : s.vm.findClass RL = some m.cls := hown
  have hbA : ¬ zA o b := by show ¬ o ≤ b; omega
  rw [J_L_law_381.eq_1] at h
  refine lv_aload_n (pc := 381) hx hb dL_law_381 rfl (lv_at hl 2 rfl) ?_
  refine lv_aload_n (pc := 382) hx hb dL_law_382 rfl (lv_at hl 1 rfl) ?_
  refine lv_iload_n (pc := 383) hx hb dL_law_383 rfl (lv_at hl 0 rfl) ?_
  refine lv_iconst (pc := 384) (v := 1) hx hb dL_law_384 (by decide) ?_
  refine lv_iadd (pc := 385) hx hb dL_law_385 ?_
  obtain ⟨v1, hv, h⟩ := zl_some h
  refine xlX (pc := 386) hx hb hX0 hbl hbA hS hv dL_law_386 ?_
  obtain ⟨_, hg, h⟩ := zl_some h
  obtain ⟨v2, σ3, hv, h⟩ := zb_some h
  refine xcallVi (pc := 387) (As := [.int v1]) (rest := []) ⟨hx, hb, hml, hown, hts⟩ (c_X11_size l D c o g N hv) zc11 zV_L_36 rfl zd_X11_size ⟨Nat.le_of_ble_eq_true rfl, Nat.le_of_ble_eq_true rfl⟩ hK hP hE hS hg hl.1 rfl (Nat.le_of_ble_eq_true rfl) ⟨Nat.le_of_ble_eq_true rfl, Nat.le_of_ble_eq_true rfl⟩ dL_law_387 (fun H locs hP hS => ?_)
  refine lv_pop (pc := 390) hx hb dL_law_390 rfl ?_
  refine lv_aload_n (pc := 391) hx hb dL_law_391 rfl (lv_at hl 3 rfl) ?_
  refine lv_aload_n (pc := 392) hx hb dL_law_392 rfl (lv_at hl 1 rfl) ?_
  refine lv_iload_n (pc := 393) hx hb dL_law_393 rfl (lv_at hl 0 rfl) ?_
  refine lv_iconst (pc := 394) (v := 1) hx hb dL_law_394 (by decide) ?_
  refine lv_iadd (pc := 395) hx hb dL_law_395 ?_
  obtain ⟨v4, hv, h⟩ := zl_some h
  refine xlX (pc := 396) hx hb hX0 hbl hbA hS hv dL_law_396 ?_
  obtain ⟨_, hg, h⟩ := zl_some h
  obtain ⟨v5, σ6, hv, h⟩ := zb_some h
  refine xcallVi (pc := 397) (As := [.int v4]) (rest := []) ⟨hx, hb, hml, hown, hts⟩ (c_X12_size l D c o g N hv) zc12 zV_L_39 rfl zd_X12_size ⟨Nat.le_of_ble_eq_true rfl, Nat.le_of_ble_eq_true rfl⟩ hK hP hE hS hg hl.1 rfl (Nat.le_of_ble_eq_true rfl) ⟨Nat.le_of_ble_eq_true rfl, Nat.le_of_ble_eq_true rfl⟩ dL_law_397 (fun H locs hP hS => ?_)
  refine lv_pop (pc := 400) hx hb dL_law_400 rfl ?_
  refine lv_goto (pc := 401) (tgt := 1869) hx hb dL_law_401 (by decide) ?_
  refine lv_iinc (pc := 1869) (v := x3 + 6) (lv' := [(3, .int (x3 + 6)), (0, .ref b), (1, .ref (o + 0)), (2, .ref (o + 218))]) hx hb dL_law_1869 hl (k := 0) rfl rfl (by decide) rfl (fun ls hl => ?_)
  refine lv_goto (pc := 1872) (tgt := 18) hx hb dL_law_1872 (by decide) ?_
  exact ih (x3 + 6, σ6) h _ _ ls hP hS (lv_sub hl [0, 1, 2, 3] rfl)
set_option maxHeartbeats 4000000 in
set_option maxRecDepth 100000 in
theorem wl_404 {p : Program} {e : Env} {s : State} {m : MethodId} {below : List Frame} {meth : Method} {cd : Code} (l : Launch) {b L : Nat} {xs : Nat → Int32} {o : Nat} {D : va_G} {c : zC} {g : zEp} (ho : s.heap.size = o) (C0 : lw_At p s m meth cd b L xs) (hK : zKt D c s) (hE : zE g o s s.heap) (N : Nat) {ρ : Int32 × zS} (hρ : ρ.1 = 1) {ag : Int32 × zS → Option (Int32 × zS)} (ih : ∀ (t : Int32 × zS), ag t = some ρ → ∀ (H : Heap) (locs : List Loc) (ls : Array Slot), zP D c o (zabs o t.2) H → va_S (zA o) s.heap H locs → lv_has ls 4 [(3, .int t.1), (0, .ref b), (1, .ref (o + 0)), (2, .ref (o + 218))] → W p l e room_1 s m #[Value.ref b] below meth cd H locs 243 106038 (lw_Z below #[Value.ref b] s) (F0 m 18 ls [])) {x3 : Int32} {σ : zS} (h : J_L_law_404 N L xs ag x3 σ = some ρ) (H : Heap) (locs : List Loc) (ls : Array Slot) (hP : zP D c o (zabs o σ) H) (hS : va_S (zA o) s.heap H locs) (hl : lv_has ls 4 [(3, .int x3), (0, .ref b), (1, .ref (o + 0)), (2, .ref (o + 218))]) : W p l e room_1 s m #[Value.ref b] below meth cd H locs 243 106038 (lw_Z below #[Value.ref b] s) (F0 m 404 ls []) := by
  obtain ⟨hx, hb, hr, hml, hown, hts0, hX0, hbl, hlocks, hgv⟩ := C0
  have hts : ∀ w ∈ zWl, w.before #[Value.ref b] s = true := fun w hw => hts0 w (List.mem_filter.mp hw).1
  have hown : s.vm.findClass RL = some m.cls := hown
  have hbA : ¬ zA o b := by show ¬ o ≤ b; omega
  rw [J_L_law_404.eq_1] at h
  refine lv_aload_n (pc := 404) hx hb dL_law_404 rfl (lv_at hl 2 rfl) ?_
  refine lv_aload_n (pc := 405) hx hb dL_law_405 rfl (lv_at hl 1 rfl) ?_
  refine lv_iload_n (pc := 406) hx hb dL_law_406 rfl (lv_at hl 0 rfl) ?_
  refine lv_iconst (pc := 407) (v := 1) hx hb dL_law_407 (by decide) ?_
  refine lv_iadd (pc := 408) hx hb dL_law_408 ?_
  obtain ⟨v1, hv, h⟩ := zl_some h
  refine xlX (pc := 409) hx hb hX0 hbl hbA hS hv dL_law_409 ?_
  refine lv_aload_n (pc := 410) hx hb dL_law_410 rfl (lv_at hl 1 rfl) ?_
  refine lv_iload_n (pc := 411) hx hb dL_law_411 rfl (lv_at hl 0 rfl) ?_
  refine lv_iconst (pc := 412) (v := 2) hx hb dL_law_412 (by decide) ?_
  refine lv_iadd (pc := 413) hx hb dL_law_413 ?_
  obtain ⟨v2, hv, h⟩ := zl_some h
  refine xlX (pc := 414) hx hb hX0 hbl hbA hS hv dL_law_414 ?_
  obtain ⟨_, hg, h⟩ := zl_some h
  obtain ⟨v3, σ4, hv, h⟩ := zb_some h
  refine xcallVi (pc := 415) (As := [.int v1, .int v2]) (rest := []) ⟨hx, hb, hml, hown, hts⟩ (c_X11_has l D c o g N hv) zc11 zV_L_40 rfl zd_X11_has ⟨Nat.le_of_ble_eq_true rfl, Nat.le_of_ble_eq_true rfl⟩ hK hP hE hS hg hl.1 rfl (Nat.le_of_ble_eq_true rfl) ⟨Nat.le_of_ble_eq_true rfl, Nat.le_of_ble_eq_true rfl⟩ dL_law_415 (fun H locs hP hS => ?_)
  refine lv_pop (pc := 418) hx hb dL_law_418 rfl ?_
  refine lv_aload_n (pc := 419) hx hb dL_law_419 rfl (lv_at hl 3 rfl) ?_
  refine lv_aload_n (pc := 420) hx hb dL_law_420 rfl (lv_at hl 1 rfl) ?_
  refine lv_iload_n (pc := 421) hx hb dL_law_421 rfl (lv_at hl 0 rfl) ?_
  refine lv_iconst (pc := 422) (v := 1) hx hb dL_law_422 (by decide) ?_
  refine lv_iadd (pc := 423) hx hb dL_law_423 ?_
  obtain ⟨v5, hv, h⟩ := zl_some h
  refine xlX (pc := 424) hx hb hX0 hbl hbA hS hv dL_law_424 ?_
  refine lv_aload_n (pc := 425) hx hb dL_law_425 rfl (lv_at hl 1 rfl) ?_
  refine lv_iload_n (pc := 426) hx hb dL_law_426 rfl (lv_at hl 0 rfl) ?_
  refine lv_iconst (pc := 427) (v := 2) hx hb dL_law_427 (by decide) ?_
  refine lv_iadd (pc := 428) hx hb dL_law_428 ?_
  obtain ⟨v6, hv, h⟩ := zl_some h
  refine xlX (pc := 429) hx hb hX0 hbl hbA hS hv dL_law_429 ?_
  obtain ⟨_, hg, h⟩ := zl_some h
  obtain ⟨v7, σ8, hv, h⟩ := zb_some h
  refine xcallVi (pc := 430) (As := [.int v5, .int v6]) (rest := []) ⟨hx, hb, hml, hown, hts⟩ (c_X12_has l D c o g N hv) zc12 zV_L_44 rfl zd_X12_has ⟨Nat.le_of_ble_eq_true rfl, Nat.le_of_ble_eq_true rfl⟩ hK hP hE hS hg hl.1 rfl (Nat.le_of_ble_eq_true rfl) ⟨Nat.le_of_ble_eq_true rfl, Nat.le_of_ble_eq_true rfl⟩ dL_law_430 (fun H locs hP hS => ?_)
  refine lv_pop (pc := 433) hx hb dL_law_433 rfl ?_
  refine lv_goto (pc := 434) (tgt := 1869) hx hb dL_law_434 (by decide) ?_
  refine lv_iinc (pc := 1869) (v := x3 + 6) (lv' := [(3, .int (x3 + 6)), (0, .ref b), (1, .ref (o + 0)), (2, .ref (o + 218))]) hx hb dL_law_1869 hl (k := 0) rfl rfl (by decide) rfl (fun ls hl => ?_)
  refine lv_goto (pc := 1872) (tgt := 18) hx hb dL_law_1872 (by decide) ?_
  exact ih (x3 + 6, σ8) h _ _ ls hP hS (lv_sub hl [0, 1, 2, 3] rfl)
set_option maxHeartbeats 4000000 in
set_option maxRecDepth 100000 in
theorem wl_437 {p : Program} {e : Env} {s : State} {m : MethodId} {below : List Frame} {meth : Method} {cd : Code} (l : Launch) {b L : Nat} {xs : Nat → Int32} {o : Nat} {D : va_G} {c : zC} {g : zEp} (ho : s.heap.size = o) (C0 : lw_At p s m meth cd b L xs) (hK : zKt D c s) (hE : zE g o s s.heap) (N : Nat) {ρ : Int32 × zS} (hρ : ρ.1 = 1) {ag : Int32 × zS → Option (Int32 × zS)} (ih : ∀ (t : Int32 × zS), ag t = some ρ → ∀ (H : Heap) (locs : List Loc) (ls : Array Slot), zP D c o (zabs o t.2) H → va_S (zA o) s.heap H locs → lv_has ls 4 [(3, .int t.1), (0, .ref b), (1, .ref (o + 0)), (2, .ref (o + 218))] → W p l e room_1 s m #[Value.ref b] below meth cd H locs 243 106038 (lw_Z below #[Value.ref b] s) (F0 m 18 ls [])) {x3 : Int32} {σ : zS} (h : J_L_law_437 N L xs ag x3 σ = some ρ) (H : Heap) (locs : List Loc) (ls : Array Slot) (hP : zP D c o (zabs o σ) H) (hS : va_S (zA o) s.heap H locs) (hl : lv_has ls 4 [(3, .int x3), (0, .ref b), (1, .ref (o + 0)), (2, .ref (o + 218))]) : W p l e room_1 s m #[Value.ref b] below meth cd H locs 243 106038 (lw_Z below #[Value.ref b] s) (F0 m 437 ls []) := by
  obtain ⟨hx, hb, hr, hml, hown, hts0, hX0, hbl, hlocks, hgv⟩ := C0
  have hts : ∀ w ∈ zWl, w.before #[Value.ref b] s = true := fun w hw => hts0 w (List.mem_filter.mp hw).1
  have hown : s.vm.findClass RL = some m.cls := hown
  have hbA : ¬ zA o b := by show ¬ o ≤ b; omega
  rw [J_L_law_437.eq_1] at h
  refine lv_aload_n (pc := 437) hx hb dL_law_437 rfl (lv_at hl 2 rfl) ?_
  refine lv_aload_n (pc := 438) hx hb dL_law_438 rfl (lv_at hl 1 rfl) ?_
  refine lv_iload_n (pc := 439) hx hb dL_law_439 rfl (lv_at hl 0 rfl) ?_
  refine lv_iconst (pc := 440) (v := 1) hx hb dL_law_440 (by decide) ?_
  refine lv_iadd (pc := 441) hx hb dL_law_441 ?_
  obtain ⟨v1, hv, h⟩ := zl_some h
  refine xlX (pc := 442) hx hb hX0 hbl hbA hS hv dL_law_442 ?_
  refine lv_aload_n (pc := 443) hx hb dL_law_443 rfl (lv_at hl 1 rfl) ?_
  refine lv_iload_n (pc := 444) hx hb dL_law_444 rfl (lv_at hl 0 rfl) ?_
  refine lv_iconst (pc := 445) (v := 2) hx hb dL_law_445 (by decide) ?_
  refine lv_iadd (pc := 446) hx hb dL_law_446 ?_
  obtain ⟨v2, hv, h⟩ := zl_some h
  refine xlX (pc := 447) hx hb hX0 hbl hbA hS hv dL_law_447 ?_
  refine lv_aload_n (pc := 448) hx hb dL_law_448 rfl (lv_at hl 1 rfl) ?_
  refine lv_iload_n (pc := 449) hx hb dL_law_449 rfl (lv_at hl 0 rfl) ?_
  refine lv_iconst (pc := 450) (v := 3) hx hb dL_law_450 (by decide) ?_
  refine lv_iadd (pc := 451) hx hb dL_law_451 ?_
  obtain ⟨v3, hv, h⟩ := zl_some h
  refine xlX (pc := 452) hx hb hX0 hbl hbA hS hv dL_law_452 ?_
  refine lv_aload_n (pc := 453) hx hb dL_law_453 rfl (lv_at hl 1 rfl) ?_
  refine lv_iload_n (pc := 454) hx hb dL_law_454 rfl (lv_at hl 0 rfl) ?_
  refine lv_iconst (pc := 455) (v := 4) hx hb dL_law_455 (by decide) ?_
  refine lv_iadd (pc := 456) hx hb dL_law_456 ?_
  obtain ⟨v4, hv, h⟩ := zl_some h
  refine xlX (pc := 457) hx hb hX0 hbl hbA hS hv dL_law_457 ?_
  obtain ⟨_, hg, h⟩ := zl_some h
  obtain ⟨v5, σ6, hv, h⟩ := zb_some h
  refine xcallVi (pc := 458) (As := [.int v1, .int v2, .int v3, .int v4]) (rest := []) ⟨hx, hb, hml, hown, hts⟩ (c_X11_makes l D c o g N hv) zc11 zV_L_45 rfl zd_X11_makes ⟨Nat.le_of_ble_eq_true rfl, Nat.le_of_ble_eq_true rfl⟩ hK hP hE hS hg hl.1 rfl (Nat.le_of_ble_eq_true rfl) ⟨Nat.le_of_ble_eq_true rfl, Nat.le_of_ble_eq_true rfl⟩ dL_law_458 (fun H locs hP hS => ?_)
  refine lv_pop (pc := 461) hx hb dL_law_461 rfl ?_
  refine lv_aload_n (pc := 462) hx hb dL_law_462 rfl (lv_at hl 3 rfl) ?_
  refine lv_aload_n (pc := 463) hx hb dL_law_463 rfl (lv_at hl 1 rfl) ?_
  refine lv_iload_n (pc := 464) hx hb dL_law_464 rfl (lv_at hl 0 rfl) ?_
  refine lv_iconst (pc := 465) (v := 1) hx hb dL_law_465 (by decide) ?_
  refine lv_iadd (pc := 466) hx hb dL_law_466 ?_
  obtain ⟨v7, hv, h⟩ := zl_some h
  refine xlX (pc := 467) hx hb hX0 hbl hbA hS hv dL_law_467 ?_
  refine lv_aload_n (pc := 468) hx hb dL_law_468 rfl (lv_at hl 1 rfl) ?_
  refine lv_iload_n (pc := 469) hx hb dL_law_469 rfl (lv_at hl 0 rfl) ?_
  refine lv_iconst (pc := 470) (v := 2) hx hb dL_law_470 (by decide) ?_
  refine lv_iadd (pc := 471) hx hb dL_law_471 ?_
  obtain ⟨v8, hv, h⟩ := zl_some h
  refine xlX (pc := 472) hx hb hX0 hbl hbA hS hv dL_law_472 ?_
  refine lv_aload_n (pc := 473) hx hb dL_law_473 rfl (lv_at hl 1 rfl) ?_
  refine lv_iload_n (pc := 474) hx hb dL_law_474 rfl (lv_at hl 0 rfl) ?_
  refine lv_iconst (pc := 475) (v := 3) hx hb dL_law_475 (by decide) ?_
  refine lv_iadd (pc := 476) hx hb dL_law_476 ?_
  obtain ⟨v9, hv, h⟩ := zl_some h
  refine xlX (pc := 477) hx hb hX0 hbl hbA hS hv dL_law_477 ?_
  refine lv_aload_n (pc := 478) hx hb dL_law_478 rfl (lv_at hl 1 rfl) ?_
  refine lv_iload_n (pc := 479) hx hb dL_law_479 rfl (lv_at hl 0 rfl) ?_
  refine lv_iconst (pc := 480) (v := 4) hx hb dL_law_480 (by decide) ?_
  refine lv_iadd (pc := 481) hx hb dL_law_481 ?_
  obtain ⟨v10, hv, h⟩ := zl_some h
  refine xlX (pc := 482) hx hb hX0 hbl hbA hS hv dL_law_482 ?_
  obtain ⟨_, hg, h⟩ := zl_some h
  obtain ⟨v11, σ12, hv, h⟩ := zb_some h
  refine xcallVi (pc := 483) (As := [.int v7, .int v8, .int v9, .int v10]) (rest := []) ⟨hx, hb, hml, hown, hts⟩ (c_X12_makes l D c o g N hv) zc12 zV_L_49 rfl zd_X12_makes ⟨Nat.le_of_ble_eq_true rfl, Nat.le_of_ble_eq_true rfl⟩ hK hP hE hS hg hl.1 rfl (Nat.le_of_ble_eq_true rfl) ⟨Nat.le_of_ble_eq_true rfl, Nat.le_of_ble_eq_true rfl⟩ dL_law_483 (fun H locs hP hS => ?_)
  refine lv_pop (pc := 486) hx hb dL_law_486 rfl ?_
  refine lv_goto (pc := 487) (tgt := 1869) hx hb dL_law_487 (by decide) ?_
  refine lv_iinc (pc := 1869) (v := x3 + 6) (lv' := [(3, .int (x3 + 6)), (0, .ref b), (1, .ref (o + 0)), (2, .ref (o + 218))]) hx hb dL_law_1869 hl (k := 0) rfl rfl (by decide) rfl (fun ls hl => ?_)
  refine lv_goto (pc := 1872) (tgt := 18) hx hb dL_law_1872 (by decide) ?_
  exact ih (x3 + 6, σ12) h _ _ ls hP hS (lv_sub hl [0, 1, 2, 3] rfl)
set_option maxHeartbeats 4000000 in
set_option maxRecDepth 100000 in
theorem wl_490 {p : Program} {e : Env} {s : State} {m : MethodId} {below : List Frame} {meth : Method} {cd : Code} (l : Launch) {b L : Nat} {xs : Nat → Int32} {o : Nat} {D : va_G} {c : zC} {g : zEp} (ho : s.heap.size = o) (C0 : lw_At p s m meth cd b L xs) (hK : zKt D c s) (hE : zE g o s s.heap) (N : Nat) {ρ : Int32 × zS} (hρ : ρ.1 = 1) {ag : Int32 × zS → Option (Int32 × zS)} (ih : ∀ (t : Int32 × zS), ag t = some ρ → ∀ (H : Heap) (locs : List Loc) (ls : Array Slot), zP D c o (zabs o t.2) H → va_S (zA o) s.heap H locs → lv_has ls 4 [(3, .int t.1), (0, .ref b), (1, .ref (o + 0)), (2, .ref (o + 218))] → W p l e room_1 s m #[Value.ref b] below meth cd H locs 243 106038 (lw_Z below #[Value.ref b] s) (F0 m 18 ls [])) {x3 : Int32} {σ : zS} (h : J_L_law_490 N L xs ag x3 σ = some ρ) (H : Heap) (locs : List Loc) (ls : Array Slot) (hP : zP D c o (zabs o σ) H) (hS : va_S (zA o) s.heap H locs) (hl : lv_has ls 4 [(3, .int x3), (0, .ref b), (1, .ref (o + 0)), (2, .ref (o + 218))]) : W p l e room_1 s m #[Value.ref b] below meth cd H locs 243 106038 (lw_Z below #[Value.ref b] s) (F0 m 490 ls []) := by
  obtain ⟨hx, hb, hr, hml, hown, hts0, hX0, hbl, hlocks, hgv⟩ := C0
  have hts : ∀ w ∈ zWl, w.before #[Value.ref b] s = true := fun w hw => hts0 w (List.mem_filter.mp hw).1
  have hown : s.vm.findClass RL = some m.cls := hown
  have hbA : ¬ zA o b := by show ¬ o ≤ b; omega
  rw [J_L_law_490.eq_1] at h
  refine lv_aload_n (pc := 490) hx hb dL_law_490 rfl (lv_at hl 2 rfl) ?_
  refine lv_aload_n (pc := 491) hx hb dL_law_491 rfl (lv_at hl 1 rfl) ?_
  refine lv_iload_n (pc := 492) hx hb dL_law_492 rfl (lv_at hl 0 rfl) ?_
  refine lv_iconst (pc := 493) (v := 1) hx hb dL_law_493 (by decide) ?_
  refine lv_iadd (pc := 494) hx hb dL_law_494 ?_
  obtain ⟨v1, hv, h⟩ := zl_some h
  refine xlX (pc := 495) hx hb hX0 hbl hbA hS hv dL_law_495 ?_
  refine lv_aload_n (pc := 496) hx hb dL_law_496 rfl (lv_at hl 1 rfl) ?_
  refine lv_iload_n (pc := 497) hx hb dL_law_497 rfl (lv_at hl 0 rfl) ?_
  refine lv_iconst (pc := 498) (v := 2) hx hb dL_law_498 (by decide) ?_
  refine lv_iadd (pc := 499) hx hb dL_law_499 ?_
  obtain ⟨v2, hv, h⟩ := zl_some h
  refine xlX (pc := 500) hx hb hX0 hbl hbA hS hv dL_law_500 ?_
  refine lv_aload_n (pc := 501) hx hb dL_law_501 rfl (lv_at hl 1 rfl) ?_
  refine lv_iload_n (pc := 502) hx hb dL_law_502 rfl (lv_at hl 0 rfl) ?_
  refine lv_iconst (pc := 503) (v := 3) hx hb dL_law_503 (by decide) ?_
  refine lv_iadd (pc := 504) hx hb dL_law_504 ?_
  obtain ⟨v3, hv, h⟩ := zl_some h
  refine xlX (pc := 505) hx hb hX0 hbl hbA hS hv dL_law_505 ?_
  obtain ⟨_, hg, h⟩ := zl_some h
  obtain ⟨v4, σ5, hv, h⟩ := zb_some h
  refine xcallVi (pc := 506) (As := [.int v1, .int v2, .int v3]) (rest := []) ⟨hx, hb, hml, hown, hts⟩ (c_X11_turn l D c o g N hv) zc11 zV_L_50 rfl zd_X11_turn ⟨Nat.le_of_ble_eq_true rfl, Nat.le_of_ble_eq_true rfl⟩ hK hP hE hS hg hl.1 rfl (Nat.le_of_ble_eq_true rfl) ⟨Nat.le_of_ble_eq_true rfl, Nat.le_of_ble_eq_true rfl⟩ dL_law_506 (fun H locs hP hS => ?_)
  refine lv_pop (pc := 509) hx hb dL_law_509 rfl ?_
  refine lv_aload_n (pc := 510) hx hb dL_law_510 rfl (lv_at hl 3 rfl) ?_
  refine lv_aload_n (pc := 511) hx hb dL_law_511 rfl (lv_at hl 1 rfl) ?_
  refine lv_iload_n (pc := 512) hx hb dL_law_512 rfl (lv_at hl 0 rfl) ?_
  refine lv_iconst (pc := 513) (v := 1) hx hb dL_law_513 (by decide) ?_
  refine lv_iadd (pc := 514) hx hb dL_law_514 ?_
  obtain ⟨v6, hv, h⟩ := zl_some h
  refine xlX (pc := 515) hx hb hX0 hbl hbA hS hv dL_law_515 ?_
  refine lv_aload_n (pc := 516) hx hb dL_law_516 rfl (lv_at hl 1 rfl) ?_
  refine lv_iload_n (pc := 517) hx hb dL_law_517 rfl (lv_at hl 0 rfl) ?_
  refine lv_iconst (pc := 518) (v := 2) hx hb dL_law_518 (by decide) ?_
  refine lv_iadd (pc := 519) hx hb dL_law_519 ?_
  obtain ⟨v7, hv, h⟩ := zl_some h
  refine xlX (pc := 520) hx hb hX0 hbl hbA hS hv dL_law_520 ?_
  refine lv_aload_n (pc := 521) hx hb dL_law_521 rfl (lv_at hl 1 rfl) ?_
  refine lv_iload_n (pc := 522) hx hb dL_law_522 rfl (lv_at hl 0 rfl) ?_
  refine lv_iconst (pc := 523) (v := 3) hx hb dL_law_523 (by decide) ?_
  refine lv_iadd (pc := 524) hx hb dL_law_524 ?_
  obtain ⟨v8, hv, h⟩ := zl_some h
  refine xlX (pc := 525) hx hb hX0 hbl hbA hS hv dL_law_525 ?_
  obtain ⟨_, hg, h⟩ := zl_some h
  obtain ⟨v9, σ10, hv, h⟩ := zb_some h
  refine xcallVi (pc := 526) (As := [.int v6, .int v7, .int v8]) (rest := []) ⟨hx, hb, hml, hown, hts⟩ (c_X12_turn l D c o g N hv) zc12 zV_L_54 rfl zd_X12_turn ⟨Nat.le_of_ble_eq_true rfl, Nat.le_of_ble_eq_true rfl⟩ hK hP hE hS hg hl.1 rfl (Nat.le_of_ble_eq_true rfl) ⟨Nat.le_of_ble_eq_true rfl, Nat.le_of_ble_eq_true rfl⟩ dL_law_526 (fun H locs hP hS => ?_)
  refine lv_pop (pc := 529) hx hb dL_law_529 rfl ?_
  refine lv_goto (pc := 530) (tgt := 1869) hx hb dL_law_530 (by decide) ?_
  refine lv_iinc (pc := 1869) (v := x3 + 6) (lv' := [(3, .int (x3 + 6)), (0, .ref b), (1, .ref (o + 0)), (2, .ref (o + 218))]) hx hb dL_law_1869 hl (k := 0) rfl rfl (by decide) rfl (fun ls hl => ?_)
  refine lv_goto (pc := 1872) (tgt := 18) hx hb dL_law_1872 (by decide) ?_
  exact ih (x3 + 6, σ10) h _ _ ls hP hS (lv_sub hl [0, 1, 2, 3] rfl)
set_option maxHeartbeats 4000000 in
set_option maxRecDepth 100000 in
theorem wl_533 {p : Program} {e : Env} {s : State} {m : MethodId} {below : List Frame} {meth : Method} {cd : Code} (l : Launch) {b L : Nat} {xs : Nat → Int32} {o : Nat} {D : va_G} {c : zC} {g : zEp} (ho : s.heap.size = o) (C0 : lw_At p s m meth cd b L xs) (hK : zKt D c s) (hE : zE g o s s.heap) (N : Nat) {ρ : Int32 × zS} (hρ : ρ.1 = 1) {ag : Int32 × zS → Option (Int32 × zS)} (ih : ∀ (t : Int32 × zS), ag t = some ρ → ∀ (H : Heap) (locs : List Loc) (ls : Array Slot), zP D c o (zabs o t.2) H → va_S (zA o) s.heap H locs → lv_has ls 4 [(3, .int t.1), (0, .ref b), (1, .ref (o + 0)), (2, .ref (o + 218))] → W p l e room_1 s m #[Value.ref b] below meth cd H locs 243 106038 (lw_Z below #[Value.ref b] s) (F0 m 18 ls [])) {x3 : Int32} {σ : zS} (h : J_L_law_533 N L xs ag x3 σ = some ρ) (H : Heap) (locs : List Loc) (ls : Array Slot) (hP : zP D c o (zabs o σ) H) (hS : va_S (zA o) s.heap H locs) (hl : lv_has ls 4 [(3, .int x3), (0, .ref b), (1, .ref (o + 0)), (2, .ref (o + 218))]) : W p l e room_1 s m #[Value.ref b] below meth cd H locs 243 106038 (lw_Z below #[Value.ref b] s) (F0 m 533 ls []) := by
  obtain ⟨hx, hb, hr, hml, hown, hts0, hX0, hbl, hlocks, hgv⟩ := C0
  have hts : ∀ w ∈ zWl, w.before #[Value.ref b] s = true := fun w hw => hts0 w (List.mem_filter.mp hw).1
  have hown : s.vm.findClass RL = some m.cls := hown
  have hbA : ¬ zA o b := by show ¬ o ≤ b; omega
  rw [J_L_law_533.eq_1] at h
  refine lv_aload_n (pc := 533) hx hb dL_law_533 rfl (lv_at hl 2 rfl) ?_
  refine lv_aload_n (pc := 534) hx hb dL_law_534 rfl (lv_at hl 1 rfl) ?_
  refine lv_iload_n (pc := 535) hx hb dL_law_535 rfl (lv_at hl 0 rfl) ?_
  refine lv_iconst (pc := 536) (v := 1) hx hb dL_law_536 (by decide) ?_
  refine lv_iadd (pc := 537) hx hb dL_law_537 ?_
  obtain ⟨v1, hv, h⟩ := zl_some h
  refine xlX (pc := 538) hx hb hX0 hbl hbA hS hv dL_law_538 ?_
  refine lv_aload_n (pc := 539) hx hb dL_law_539 rfl (lv_at hl 1 rfl) ?_
  refine lv_iload_n (pc := 540) hx hb dL_law_540 rfl (lv_at hl 0 rfl) ?_
  refine lv_iconst (pc := 541) (v := 2) hx hb dL_law_541 (by decide) ?_
  refine lv_iadd (pc := 542) hx hb dL_law_542 ?_
  obtain ⟨v2, hv, h⟩ := zl_some h
  refine xlX (pc := 543) hx hb hX0 hbl hbA hS hv dL_law_543 ?_
  refine lv_aload_n (pc := 544) hx hb dL_law_544 rfl (lv_at hl 1 rfl) ?_
  refine lv_iload_n (pc := 545) hx hb dL_law_545 rfl (lv_at hl 0 rfl) ?_
  refine lv_iconst (pc := 546) (v := 3) hx hb dL_law_546 (by decide) ?_
  refine lv_iadd (pc := 547) hx hb dL_law_547 ?_
  obtain ⟨v3, hv, h⟩ := zl_some h
  refine xlX (pc := 548) hx hb hX0 hbl hbA hS hv dL_law_548 ?_
  have hj557_4 : ∀ (y0_4 : Int32) (y1_4 : Int32) (y2_4 : Int32) (y3_4 : Nat) (σ4 : zS), J_L_law_557 N L xs ag x3 y0_4 y1_4 y2_4 y3_4 σ4 = some ρ → ∀ (H : Heap) (locs : List Loc) (ls : Array Slot), zP D c o (zabs o σ4) H → va_S (zA o) s.heap H locs → lv_has ls 4 [(0, .ref b), (1, .ref (o + 0)), (2, .ref (o + 218)), (3, .int x3)] → W p l e room_1 s m #[Value.ref b] below meth cd H locs 243 106038 (lw_Z below #[Value.ref b] s) (F0 m 557 ls [.int y0_4, .int y1_4, .int y2_4, .ref (o + y3_4)]) := by
    intro y0_4 y1_4 y2_4 y3_4 σ4 h H locs ls hP hS hl
    rw [J_L_law_557.eq_1] at h
    obtain ⟨_, hg, h⟩ := zl_some h
    obtain ⟨v5, σ6, hv, h⟩ := zb_some h
    refine xcallVi (pc := 557) (As := [.int y2_4, .int y1_4, .int y0_4]) (rest := []) ⟨hx, hb, hml, hown, hts⟩ (c_X11_sets l D c o g N hv) zc11 zV_L_55 rfl zd_X11_sets ⟨Nat.le_of_ble_eq_true rfl, Nat.le_of_ble_eq_true rfl⟩ hK hP hE hS hg hl.1 rfl (Nat.le_of_ble_eq_true rfl) ⟨Nat.le_of_ble_eq_true rfl, Nat.le_of_ble_eq_true rfl⟩ dL_law_557 (fun H locs hP hS => ?_)
    refine lv_pop (pc := 560) hx hb dL_law_560 rfl ?_
    refine lv_aload_n (pc := 561) hx hb dL_law_561 rfl (lv_at hl 2 rfl) ?_
    refine lv_aload_n (pc := 562) hx hb dL_law_562 rfl (lv_at hl 0 rfl) ?_
    refine lv_iload_n (pc := 563) hx hb dL_law_563 rfl (lv_at hl 3 rfl) ?_
    refine lv_iconst (pc := 564) (v := 1) hx hb dL_law_564 (by decide) ?_
    refine lv_iadd (pc := 565) hx hb dL_law_565 ?_
    obtain ⟨v7, hv, h⟩ := zl_some h
    refine xlX (pc := 566) hx hb hX0 hbl hbA hS hv dL_law_566 ?_
    refine lv_aload_n (pc := 567) hx hb dL_law_567 rfl (lv_at hl 0 rfl) ?_
    refine lv_iload_n (pc := 568) hx hb dL_law_568 rfl (lv_at hl 3 rfl) ?_
    refine lv_iconst (pc := 569) (v := 2) hx hb dL_law_569 (by decide) ?_
    refine lv_iadd (pc := 570) hx hb dL_law_570 ?_
    obtain ⟨v8, hv, h⟩ := zl_some h
    refine xlX (pc := 571) hx hb hX0 hbl hbA hS hv dL_law_571 ?_
    refine lv_aload_n (pc := 572) hx hb dL_law_572 rfl (lv_at hl 0 rfl) ?_
    refine lv_iload_n (pc := 573) hx hb dL_law_573 rfl (lv_at hl 3 rfl) ?_
    refine lv_iconst (pc := 574) (v := 3) hx hb dL_law_574 (by decide) ?_
    refine lv_iadd (pc := 575) hx hb dL_law_575 ?_
    obtain ⟨v9, hv, h⟩ := zl_some h
    refine xlX (pc := 576) hx hb hX0 hbl hbA hS hv dL_law_576 ?_
    refine lv_if_eq (pc := 577) (tgt := 584) hx hb dL_law_577 (by decide) (fun c1 => ?_) (fun c1 => ?_)
    · rw [if_pos c1] at h
      refine lv_iconst (pc := 584) (v := 0) hx hb dL_law_584 (by decide) ?_
      obtain ⟨_, hg, h⟩ := zl_some h
      obtain ⟨v10, σ11, hv, h⟩ := zb_some h
      refine xcallVi (pc := 585) (As := [.int v7, .int v8, .int 0]) (rest := []) ⟨hx, hb, hml, hown, hts⟩ (c_X12_sets l D c o g N hv) zc12 zV_L_59 rfl zd_X12_sets ⟨Nat.le_of_ble_eq_true rfl, Nat.le_of_ble_eq_true rfl⟩ hK hP hE hS hg hl.1 rfl (Nat.le_of_ble_eq_true rfl) ⟨Nat.le_of_ble_eq_true rfl, Nat.le_of_ble_eq_true rfl⟩ dL_law_585 (fun H locs hP hS => ?_)
      refine lv_pop (pc := 588) hx hb dL_law_588 rfl ?_
      refine lv_goto (pc := 589) (tgt := 1869) hx hb dL_law_589 (by decide) ?_
      refine lv_iinc (pc := 1869) (v := x3 + 6) (lv' := [(3, .int (x3 + 6)), (0, .ref b), (1, .ref (o + 0)), (2, .ref (o + 218))]) hx hb dL_law_1869 hl (k := 3) rfl rfl (by decide) rfl (fun ls hl => ?_)
      refine lv_goto (pc := 1872) (tgt := 18) hx hb dL_law_1872 (by decide) ?_
      exact ih (x3 + 6, σ11) h _ _ ls hP hS (lv_sub hl [0, 1, 2, 3] rfl)
    · rw [if_neg c1] at h
      refine lv_iconst (pc := 580) (v := 1) hx hb dL_law_580 (by decide) ?_
      refine lv_goto (pc := 581) (tgt := 585) hx hb dL_law_581 (by decide) ?_
      obtain ⟨_, hg, h⟩ := zl_some h
      obtain ⟨v12, σ13, hv, h⟩ := zb_some h
      refine xcallVi (pc := 585) (As := [.int v7, .int v8, .int 1]) (rest := []) ⟨hx, hb, hml, hown, hts⟩ (c_X12_sets l D c o g N hv) zc12 zV_L_59 rfl zd_X12_sets ⟨Nat.le_of_ble_eq_true rfl, Nat.le_of_ble_eq_true rfl⟩ hK hP hE hS hg hl.1 rfl (Nat.le_of_ble_eq_true rfl) ⟨Nat.le_of_ble_eq_true rfl, Nat.le_of_ble_eq_true rfl⟩ dL_law_585 (fun H locs hP hS => ?_)
      refine lv_pop (pc := 588) hx hb dL_law_588 rfl ?_
      refine lv_goto (pc := 589) (tgt := 1869) hx hb dL_law_589 (by decide) ?_
      refine lv_iinc (pc := 1869) (v := x3 + 6) (lv' := [(3, .int (x3 + 6)), (0, .ref b), (1, .ref (o + 0)), (2, .ref (o + 218))]) hx hb dL_law_1869 hl (k := 3) rfl rfl (by decide) rfl (fun ls hl => ?_)
      refine lv_goto (pc := 1872) (tgt := 18) hx hb dL_law_1872 (by decide) ?_
      exact ih (x3 + 6, σ13) h _ _ ls hP hS (lv_sub hl [0, 1, 2, 3] rfl)
  refine lv_if_eq (pc := 549) (tgt := 556) hx hb dL_law_549 (by decide) (fun c1 => ?_) (fun c1 => ?_)
  · rw [if_pos c1] at h
    refine lv_iconst (pc := 556) (v := 0) hx hb dL_law_556 (by decide) ?_
    exact hj557_4 (0) (v2) (v1) (0) σ h _ _ ls hP hS (lv_sub hl [1, 2, 3, 0] rfl)
  · rw [if_neg c1] at h
    refine lv_iconst (pc := 552) (v := 1) hx hb dL_law_552 (by decide) ?_
    refine lv_goto (pc := 553) (tgt := 557) hx hb dL_law_553 (by decide) ?_
    exact hj557_4 (1) (v2) (v1) (0) σ h _ _ ls hP hS (lv_sub hl [1, 2, 3, 0] rfl)
set_option maxHeartbeats 4000000 in
set_option maxRecDepth 100000 in
theorem wl_592 {p : Program} {e : Env} {s : State} {m : MethodId} {below : List Frame} {meth : Method} {cd : Code} (l : Launch) {b L : Nat} {xs : Nat → Int32} {o : Nat} {D : va_G} {c : zC} {g : zEp} (ho : s.heap.size = o) (C0 : lw_At p s m meth cd b L xs) (hK : zKt D c s) (hE : zE g o s s.heap) (N : Nat) {ρ : Int32 × zS} (hρ : ρ.1 = 1) {ag : Int32 × zS → Option (Int32 × zS)} (ih : ∀ (t : Int32 × zS), ag t = some ρ → ∀ (H : Heap) (locs : List Loc) (ls : Array Slot), zP D c o (zabs o t.2) H → va_S (zA o) s.heap H locs → lv_has ls 4 [(3, .int t.1), (0, .ref b), (1, .ref (o + 0)), (2, .ref (o + 218))] → W p l e room_1 s m #[Value.ref b] below meth cd H locs 243 106038 (lw_Z below #[Value.ref b] s) (F0 m 18 ls [])) {x3 : Int32} {σ : zS} (h : J_L_law_592 N L xs ag x3 σ = some ρ) (H : Heap) (locs : List Loc) (ls : Array Slot) (hP : zP D c o (zabs o σ) H) (hS : va_S (zA o) s.heap H locs) (hl : lv_has ls 4 [(3, .int x3), (0, .ref b), (1, .ref (o + 0)), (2, .ref (o + 218))]) : W p l e room_1 s m #[Value.ref b] below meth cd H locs 243 106038 (lw_Z below #[Value.ref b] s) (F0 m 592 ls []) := by
  obtain ⟨hx, hb, hr, hml, hown, hts0, hX0, hbl, hlocks, hgv⟩ := C0
  have hts : ∀ w ∈ zWl, w.before #[Value.ref b] s = true := fun w hw => hts0 w (List.mem_filter.mp hw).1
  have hown : s.vm.findClass RL = some m.cls := hown
  have hbA : ¬ zA o b := by show ¬ o ≤ b; omega
  rw [J_L_law_592.eq_1] at h
  refine lv_aload_n (pc := 592) hx hb dL_law_592 rfl (lv_at hl 2 rfl) ?_
  refine lv_aload_n (pc := 593) hx hb dL_law_593 rfl (lv_at hl 1 rfl) ?_
  refine lv_iload_n (pc := 594) hx hb dL_law_594 rfl (lv_at hl 0 rfl) ?_
  refine lv_iconst (pc := 595) (v := 1) hx hb dL_law_595 (by decide) ?_
  refine lv_iadd (pc := 596) hx hb dL_law_596 ?_
  obtain ⟨v1, hv, h⟩ := zl_some h
  refine xlX (pc := 597) hx hb hX0 hbl hbA hS hv dL_law_597 ?_
  refine lv_aload_n (pc := 598) hx hb dL_law_598 rfl (lv_at hl 1 rfl) ?_
  refine lv_iload_n (pc := 599) hx hb dL_law_599 rfl (lv_at hl 0 rfl) ?_
  refine lv_iconst (pc := 600) (v := 2) hx hb dL_law_600 (by decide) ?_
  refine lv_iadd (pc := 601) hx hb dL_law_601 ?_
  obtain ⟨v2, hv, h⟩ := zl_some h
  refine xlX (pc := 602) hx hb hX0 hbl hbA hS hv dL_law_602 ?_
  refine lv_aload_n (pc := 603) hx hb dL_law_603 rfl (lv_at hl 1 rfl) ?_
  refine lv_iload_n (pc := 604) hx hb dL_law_604 rfl (lv_at hl 0 rfl) ?_
  refine lv_iconst (pc := 605) (v := 3) hx hb dL_law_605 (by decide) ?_
  refine lv_iadd (pc := 606) hx hb dL_law_606 ?_
  obtain ⟨v3, hv, h⟩ := zl_some h
  refine xlX (pc := 607) hx hb hX0 hbl hbA hS hv dL_law_607 ?_
  obtain ⟨_, hg, h⟩ := zl_some h
  obtain ⟨v4, σ5, hv, h⟩ := zb_some h
  refine xcallVi (pc := 608) (As := [.int v1, .int v2, .int v3]) (rest := []) ⟨hx, hb, hml, hown, hts⟩ (c_X11_change l D c o g N hv) zc11 zV_L_60 rfl zd_X11_change ⟨Nat.le_of_ble_eq_true rfl, Nat.le_of_ble_eq_true rfl⟩ hK hP hE hS hg hl.1 rfl (Nat.le_of_ble_eq_true rfl) ⟨Nat.le_of_ble_eq_true rfl, Nat.le_of_ble_eq_true rfl⟩ dL_law_608 (fun H locs hP hS => ?_)
  refine lv_pop (pc := 611) hx hb dL_law_611 rfl ?_
  refine lv_aload_n (pc := 612) hx hb dL_law_612 rfl (lv_at hl 3 rfl) ?_
  refine lv_aload_n (pc := 613) hx hb dL_law_613 rfl (lv_at hl 1 rfl) ?_
  refine lv_iload_n (pc := 614) hx hb dL_law_614 rfl (lv_at hl 0 rfl) ?_
  refine lv_iconst (pc := 615) (v := 1) hx hb dL_law_615 (by decide) ?_
  refine lv_iadd (pc := 616) hx hb dL_law_616 ?_
  obtain ⟨v6, hv, h⟩ := zl_some h
  refine xlX (pc := 617) hx hb hX0 hbl hbA hS hv dL_law_617 ?_
  refine lv_aload_n (pc := 618) hx hb dL_law_618 rfl (lv_at hl 1 rfl) ?_
  refine lv_iload_n (pc := 619) hx hb dL_law_619 rfl (lv_at hl 0 rfl) ?_
  refine lv_iconst (pc := 620) (v := 2) hx hb dL_law_620 (by decide) ?_
  refine lv_iadd (pc := 621) hx hb dL_law_621 ?_
  obtain ⟨v7, hv, h⟩ := zl_some h
  refine xlX (pc := 622) hx hb hX0 hbl hbA hS hv dL_law_622 ?_
  refine lv_aload_n (pc := 623) hx hb dL_law_623 rfl (lv_at hl 1 rfl) ?_
  refine lv_iload_n (pc := 624) hx hb dL_law_624 rfl (lv_at hl 0 rfl) ?_
  refine lv_iconst (pc := 625) (v := 3) hx hb dL_law_625 (by decide) ?_
  refine lv_iadd (pc := 626) hx hb dL_law_626 ?_
  obtain ⟨v8, hv, h⟩ := zl_some h
  refine xlX (pc := 627) hx hb hX0 hbl hbA hS hv dL_law_627 ?_
  obtain ⟨_, hg, h⟩ := zl_some h
  obtain ⟨v9, σ10, hv, h⟩ := zb_some h
  refine xcallVi (pc := 628) (As := [.int v6, .int v7, .int v8]) (rest := []) ⟨hx, hb, hml, hown, hts⟩ (c_X12_change l D c o g N hv) zc12 zV_L_63 rfl zd_X12_change ⟨Nat.le_of_ble_eq_true rfl, Nat.le_of_ble_eq_true rfl⟩ hK hP hE hS hg hl.1 rfl (Nat.le_of_ble_eq_true rfl) ⟨Nat.le_of_ble_eq_true rfl, Nat.le_of_ble_eq_true rfl⟩ dL_law_628 (fun H locs hP hS => ?_)
  refine lv_pop (pc := 631) hx hb dL_law_631 rfl ?_
  refine lv_goto (pc := 632) (tgt := 1869) hx hb dL_law_632 (by decide) ?_
  refine lv_iinc (pc := 1869) (v := x3 + 6) (lv' := [(3, .int (x3 + 6)), (0, .ref b), (1, .ref (o + 0)), (2, .ref (o + 218))]) hx hb dL_law_1869 hl (k := 0) rfl rfl (by decide) rfl (fun ls hl => ?_)
  refine lv_goto (pc := 1872) (tgt := 18) hx hb dL_law_1872 (by decide) ?_
  exact ih (x3 + 6, σ10) h _ _ ls hP hS (lv_sub hl [0, 1, 2, 3] rfl)
set_option maxHeartbeats 4000000 in
set_option maxRecDepth 100000 in
theorem wl_635 {p : Program} {e : Env} {s : State} {m : MethodId} {below : List Frame} {meth : Method} {cd : Code} (l : Launch) {b L : Nat} {xs : Nat → Int32} {o : Nat} {D : va_G} {c : zC} {g : zEp} (ho : s.heap.size = o) (C0 : lw_At p s m meth cd b L xs) (hK : zKt D c s) (hE : zE g o s s.heap) (N : Nat) {ρ : Int32 × zS} (hρ : ρ.1 = 1) {ag : Int32 × zS → Option (Int32 × zS)} (ih : ∀ (t : Int32 × zS), ag t = some ρ → ∀ (H : Heap) (locs : List Loc) (ls : Array Slot), zP D c o (zabs o t.2) H → va_S (zA o) s.heap H locs → lv_has ls 4 [(3, .int t.1), (0, .ref b), (1, .ref (o + 0)), (2, .ref (o + 218))] → W p l e room_1 s m #[Value.ref b] below meth cd H locs 243 106038 (lw_Z below #[Value.ref b] s) (F0 m 18 ls [])) {x3 : Int32} {σ : zS} (h : J_L_law_635 N L xs ag x3 σ = some ρ) (H : Heap) (locs : List Loc) (ls : Array Slot) (hP : zP D c o (zabs o σ) H) (hS : va_S (zA o) s.heap H locs) (hl : lv_has ls 4 [(3, .int x3), (0, .ref b), (1, .ref (o + 0)), (2, .ref (o + 218))]) : W p l e room_1 s m #[Value.ref b] below meth cd H locs 243 106038 (lw_Z below #[Value.ref b] s) (F0 m 635 ls []) := by
  obtain ⟨hx, hb, hr, hml, hown, hts0, hX0, hbl, hlocks, hgv⟩ := C0
  have hts : ∀ w ∈ zWl, w.before #[Value.ref b] s = true := fun w hw => hts0 w (List.mem_filter.mp hw).1
  have hown : s.vm.findClass RL = some m.cls := hown
  have hbA : ¬ zA o b := by show ¬ o ≤ b; omega
  rw [J_L_law_635.eq_1] at h
  refine lv_aload_n (pc := 635) hx hb dL_law_635 rfl (lv_at hl 2 rfl) ?_
  refine lv_aload_n (pc := 636) hx hb dL_law_636 rfl (lv_at hl 1 rfl) ?_
  refine lv_iload_n (pc := 637) hx hb dL_law_637 rfl (lv_at hl 0 rfl) ?_
  refine lv_iconst (pc := 638) (v := 1) hx hb dL_law_638 (by decide) ?_
  refine lv_iadd (pc := 639) hx hb dL_law_639 ?_
  obtain ⟨v1, hv, h⟩ := zl_some h
  refine xlX (pc := 640) hx hb hX0 hbl hbA hS hv dL_law_640 ?_
  refine lv_aload_n (pc := 641) hx hb dL_law_641 rfl (lv_at hl 1 rfl) ?_
  refine lv_iload_n (pc := 642) hx hb dL_law_642 rfl (lv_at hl 0 rfl) ?_
  refine lv_iconst (pc := 643) (v := 2) hx hb dL_law_643 (by decide) ?_
  refine lv_iadd (pc := 644) hx hb dL_law_644 ?_
  obtain ⟨v2, hv, h⟩ := zl_some h
  refine xlX (pc := 645) hx hb hX0 hbl hbA hS hv dL_law_645 ?_
  refine lv_aload_n (pc := 646) hx hb dL_law_646 rfl (lv_at hl 1 rfl) ?_
  refine lv_iload_n (pc := 647) hx hb dL_law_647 rfl (lv_at hl 0 rfl) ?_
  refine lv_iconst (pc := 648) (v := 3) hx hb dL_law_648 (by decide) ?_
  refine lv_iadd (pc := 649) hx hb dL_law_649 ?_
  obtain ⟨v3, hv, h⟩ := zl_some h
  refine xlX (pc := 650) hx hb hX0 hbl hbA hS hv dL_law_650 ?_
  refine lv_aload_n (pc := 651) hx hb dL_law_651 rfl (lv_at hl 1 rfl) ?_
  refine lv_iload_n (pc := 652) hx hb dL_law_652 rfl (lv_at hl 0 rfl) ?_
  refine lv_iconst (pc := 653) (v := 4) hx hb dL_law_653 (by decide) ?_
  refine lv_iadd (pc := 654) hx hb dL_law_654 ?_
  obtain ⟨v4, hv, h⟩ := zl_some h
  refine xlX (pc := 655) hx hb hX0 hbl hbA hS hv dL_law_655 ?_
  have hj664_5 : ∀ (y0_5 : Int32) (y1_5 : Int32) (y2_5 : Int32) (y3_5 : Int32) (y4_5 : Nat) (σ5 : zS), J_L_law_664 N L xs ag x3 y0_5 y1_5 y2_5 y3_5 y4_5 σ5 = some ρ → ∀ (H : Heap) (locs : List Loc) (ls : Array Slot), zP D c o (zabs o σ5) H → va_S (zA o) s.heap H locs → lv_has ls 4 [(0, .ref b), (1, .ref (o + 0)), (2, .ref (o + 218)), (3, .int x3)] → W p l e room_1 s m #[Value.ref b] below meth cd H locs 243 106038 (lw_Z below #[Value.ref b] s) (F0 m 664 ls [.int y0_5, .int y1_5, .int y2_5, .int y3_5, .ref (o + y4_5)]) := by
    intro y0_5 y1_5 y2_5 y3_5 y4_5 σ5 h H locs ls hP hS hl
    rw [J_L_law_664.eq_1] at h
    obtain ⟨_, hg, h⟩ := zl_some h
    obtain ⟨v6, σ7, hv, h⟩ := zb_some h
    refine xcallVi (pc := 664) (As := [.int y3_5, .int y2_5, .int y1_5, .int y0_5]) (rest := []) ⟨hx, hb, hml, hown, hts⟩ (c_X11_half l D c o g N hv) zc11 zV_L_64 rfl zd_X11_half ⟨Nat.le_of_ble_eq_true rfl, Nat.le_of_ble_eq_true rfl⟩ hK hP hE hS hg hl.1 rfl (Nat.le_of_ble_eq_true rfl) ⟨Nat.le_of_ble_eq_true rfl, Nat.le_of_ble_eq_true rfl⟩ dL_law_664 (fun H locs hP hS => ?_)
    refine lv_pop (pc := 667) hx hb dL_law_667 rfl ?_
    refine lv_aload_n (pc := 668) hx hb dL_law_668 rfl (lv_at hl 2 rfl) ?_
    refine lv_aload_n (pc := 669) hx hb dL_law_669 rfl (lv_at hl 0 rfl) ?_
    refine lv_iload_n (pc := 670) hx hb dL_law_670 rfl (lv_at hl 3 rfl) ?_
    refine lv_iconst (pc := 671) (v := 1) hx hb dL_law_671 (by decide) ?_
    refine lv_iadd (pc := 672) hx hb dL_law_672 ?_
    obtain ⟨v8, hv, h⟩ := zl_some h
    refine xlX (pc := 673) hx hb hX0 hbl hbA hS hv dL_law_673 ?_
    refine lv_aload_n (pc := 674) hx hb dL_law_674 rfl (lv_at hl 0 rfl) ?_
    refine lv_iload_n (pc := 675) hx hb dL_law_675 rfl (lv_at hl 3 rfl) ?_
    refine lv_iconst (pc := 676) (v := 2) hx hb dL_law_676 (by decide) ?_
    refine lv_iadd (pc := 677) hx hb dL_law_677 ?_
    obtain ⟨v9, hv, h⟩ := zl_some h
    refine xlX (pc := 678) hx hb hX0 hbl hbA hS hv dL_law_678 ?_
    refine lv_aload_n (pc := 679) hx hb dL_law_679 rfl (lv_at hl 0 rfl) ?_
    refine lv_iload_n (pc := 680) hx hb dL_law_680 rfl (lv_at hl 3 rfl) ?_
    refine lv_iconst (pc := 681) (v := 3) hx hb dL_law_681 (by decide) ?_
    refine lv_iadd (pc := 682) hx hb dL_law_682 ?_
    obtain ⟨v10, hv, h⟩ := zl_some h
    refine xlX (pc := 683) hx hb hX0 hbl hbA hS hv dL_law_683 ?_
    refine lv_aload_n (pc := 684) hx hb dL_law_684 rfl (lv_at hl 0 rfl) ?_
    refine lv_iload_n (pc := 685) hx hb dL_law_685 rfl (lv_at hl 3 rfl) ?_
    refine lv_iconst (pc := 686) (v := 4) hx hb dL_law_686 (by decide) ?_
    refine lv_iadd (pc := 687) hx hb dL_law_687 ?_
    obtain ⟨v11, hv, h⟩ := zl_some h
    refine xlX (pc := 688) hx hb hX0 hbl hbA hS hv dL_law_688 ?_
    refine lv_if_eq (pc := 689) (tgt := 696) hx hb dL_law_689 (by decide) (fun c1 => ?_) (fun c1 => ?_)
    · rw [if_pos c1] at h
      refine lv_iconst (pc := 696) (v := 0) hx hb dL_law_696 (by decide) ?_
      obtain ⟨_, hg, h⟩ := zl_some h
      obtain ⟨v12, σ13, hv, h⟩ := zb_some h
      refine xcallVi (pc := 697) (As := [.int v8, .int v9, .int v10, .int 0]) (rest := []) ⟨hx, hb, hml, hown, hts⟩ (c_X12_half l D c o g N hv) zc12 zV_L_68 rfl zd_X12_half ⟨Nat.le_of_ble_eq_true rfl, Nat.le_of_ble_eq_true rfl⟩ hK hP hE hS hg hl.1 rfl (Nat.le_of_ble_eq_true rfl) ⟨Nat.le_of_ble_eq_true rfl, Nat.le_of_ble_eq_true rfl⟩ dL_law_697 (fun H locs hP hS => ?_)
      refine lv_pop (pc := 700) hx hb dL_law_700 rfl ?_
      refine lv_goto (pc := 701) (tgt := 1869) hx hb dL_law_701 (by decide) ?_
      refine lv_iinc (pc := 1869) (v := x3 + 6) (lv' := [(3, .int (x3 + 6)), (0, .ref b), (1, .ref (o + 0)), (2, .ref (o + 218))]) hx hb dL_law_1869 hl (k := 3) rfl rfl (by decide) rfl (fun ls hl => ?_)
      refine lv_goto (pc := 1872) (tgt := 18) hx hb dL_law_1872 (by decide) ?_
      exact ih (x3 + 6, σ13) h _ _ ls hP hS (lv_sub hl [0, 1, 2, 3] rfl)
    · rw [if_neg c1] at h
      refine lv_iconst (pc := 692) (v := 1) hx hb dL_law_692 (by decide) ?_
      refine lv_goto (pc := 693) (tgt := 697) hx hb dL_law_693 (by decide) ?_
      obtain ⟨_, hg, h⟩ := zl_some h
      obtain ⟨v14, σ15, hv, h⟩ := zb_some h
      refine xcallVi (pc := 697) (As := [.int v8, .int v9, .int v10, .int 1]) (rest := []) ⟨hx, hb, hml, hown, hts⟩ (c_X12_half l D c o g N hv) zc12 zV_L_68 rfl zd_X12_half ⟨Nat.le_of_ble_eq_true rfl, Nat.le_of_ble_eq_true rfl⟩ hK hP hE hS hg hl.1 rfl (Nat.le_of_ble_eq_true rfl) ⟨Nat.le_of_ble_eq_true rfl, Nat.le_of_ble_eq_true rfl⟩ dL_law_697 (fun H locs hP hS => ?_)
      refine lv_pop (pc := 700) hx hb dL_law_700 rfl ?_
      refine lv_goto (pc := 701) (tgt := 1869) hx hb dL_law_701 (by decide) ?_
      refine lv_iinc (pc := 1869) (v := x3 + 6) (lv' := [(3, .int (x3 + 6)), (0, .ref b), (1, .ref (o + 0)), (2, .ref (o + 218))]) hx hb dL_law_1869 hl (k := 3) rfl rfl (by decide) rfl (fun ls hl => ?_)
      refine lv_goto (pc := 1872) (tgt := 18) hx hb dL_law_1872 (by decide) ?_
      exact ih (x3 + 6, σ15) h _ _ ls hP hS (lv_sub hl [0, 1, 2, 3] rfl)
  refine lv_if_eq (pc := 656) (tgt := 663) hx hb dL_law_656 (by decide) (fun c1 => ?_) (fun c1 => ?_)
  · rw [if_pos c1] at h
    refine lv_iconst (pc := 663) (v := 0) hx hb dL_law_663 (by decide) ?_
    exact hj664_5 (0) (v3) (v2) (v1) (0) σ h _ _ ls hP hS (lv_sub hl [1, 2, 3, 0] rfl)
  · rw [if_neg c1] at h
    refine lv_iconst (pc := 659) (v := 1) hx hb dL_law_659 (by decide) ?_
    refine lv_goto (pc := 660) (tgt := 664) hx hb dL_law_660 (by decide) ?_
    exact hj664_5 (1) (v3) (v2) (v1) (0) σ h _ _ ls hP hS (lv_sub hl [1, 2, 3, 0] rfl)
set_option maxHeartbeats 4000000 in
set_option maxRecDepth 100000 in
theorem wl_704 {p : Program} {e : Env} {s : State} {m : MethodId} {below : List Frame} {meth : Method} {cd : Code} (l : Launch) {b L : Nat} {xs : Nat → Int32} {o : Nat} {D : va_G} {c : zC} {g : zEp} (ho : s.heap.size = o) (C0 : lw_At p s m meth cd b L xs) (hK : zKt D c s) (hE : zE g o s s.heap) (N : Nat) {ρ : Int32 × zS} (hρ : ρ.1 = 1) {ag : Int32 × zS → Option (Int32 × zS)} (ih : ∀ (t : Int32 × zS), ag t = some ρ → ∀ (H : Heap) (locs : List Loc) (ls : Array Slot), zP D c o (zabs o t.2) H → va_S (zA o) s.heap H locs → lv_has ls 4 [(3, .int t.1), (0, .ref b), (1, .ref (o + 0)), (2, .ref (o + 218))] → W p l e room_1 s m #[Value.ref b] below meth cd H locs 243 106038 (lw_Z below #[Value.ref b] s) (F0 m 18 ls [])) {x3 : Int32} {σ : zS} (h : J_L_law_704 N L xs ag x3 σ = some ρ) (H : Heap) (locs : List Loc) (ls : Array Slot) (hP : zP D c o (zabs o σ) H) (hS : va_S (zA o) s.heap H locs) (hl : lv_has ls 4 [(3, .int x3), (0, .ref b), (1, .ref (o + 0)), (2, .ref (o + 218))]) : W p l e room_1 s m #[Value.ref b] below meth cd H locs 243 106038 (lw_Z below #[Value.ref b] s) (F0 m 704 ls []) := by
  obtain ⟨hx, hb, hr, hml, hown, hts0, hX0, hbl, hlocks, hgv⟩ := C0
  have hts : ∀ w ∈ zWl, w.before #[Value.ref b] s = true := fun w hw => hts0 w (List.mem_filter.mp hw).1
  have hown : s.vm.findClass RL = some m.cls := hown
  have hbA : ¬ zA o b := by show ¬ o ≤ b; omega
  rw [J_L_law_704.eq_1] at h
  refine lv_aload_n (pc := 704) hx hb dL_law_704 rfl (lv_at hl 2 rfl) ?_
  refine lv_aload_n (pc := 705) hx hb dL_law_705 rfl (lv_at hl 1 rfl) ?_
  refine lv_iload_n (pc := 706) hx hb dL_law_706 rfl (lv_at hl 0 rfl) ?_
  refine lv_iconst (pc := 707) (v := 1) hx hb dL_law_707 (by decide) ?_
  refine lv_iadd (pc := 708) hx hb dL_law_708 ?_
  obtain ⟨v1, hv, h⟩ := zl_some h
  refine xlX (pc := 709) hx hb hX0 hbl hbA hS hv dL_law_709 ?_
  refine lv_aload_n (pc := 710) hx hb dL_law_710 rfl (lv_at hl 1 rfl) ?_
  refine lv_iload_n (pc := 711) hx hb dL_law_711 rfl (lv_at hl 0 rfl) ?_
  refine lv_iconst (pc := 712) (v := 2) hx hb dL_law_712 (by decide) ?_
  refine lv_iadd (pc := 713) hx hb dL_law_713 ?_
  obtain ⟨v2, hv, h⟩ := zl_some h
  refine xlX (pc := 714) hx hb hX0 hbl hbA hS hv dL_law_714 ?_
  refine lv_aload_n (pc := 715) hx hb dL_law_715 rfl (lv_at hl 1 rfl) ?_
  refine lv_iload_n (pc := 716) hx hb dL_law_716 rfl (lv_at hl 0 rfl) ?_
  refine lv_iconst (pc := 717) (v := 3) hx hb dL_law_717 (by decide) ?_
  refine lv_iadd (pc := 718) hx hb dL_law_718 ?_
  obtain ⟨v3, hv, h⟩ := zl_some h
  refine xlX (pc := 719) hx hb hX0 hbl hbA hS hv dL_law_719 ?_
  obtain ⟨_, hg, h⟩ := zl_some h
  obtain ⟨v4, σ5, hv, h⟩ := zb_some h
  refine xcallVi (pc := 720) (As := [.int v1, .int v2, .int v3]) (rest := []) ⟨hx, hb, hml, hown, hts⟩ (c_X11_level l D c o g N hv) zc11 zV_L_69 rfl zd_X11_level ⟨Nat.le_of_ble_eq_true rfl, Nat.le_of_ble_eq_true rfl⟩ hK hP hE hS hg hl.1 rfl (Nat.le_of_ble_eq_true rfl) ⟨Nat.le_of_ble_eq_true rfl, Nat.le_of_ble_eq_true rfl⟩ dL_law_720 (fun H locs hP hS => ?_)
  refine lv_pop (pc := 723) hx hb dL_law_723 rfl ?_
  refine lv_aload_n (pc := 724) hx hb dL_law_724 rfl (lv_at hl 3 rfl) ?_
  refine lv_aload_n (pc := 725) hx hb dL_law_725 rfl (lv_at hl 1 rfl) ?_
  refine lv_iload_n (pc := 726) hx hb dL_law_726 rfl (lv_at hl 0 rfl) ?_
  refine lv_iconst (pc := 727) (v := 1) hx hb dL_law_727 (by decide) ?_
  refine lv_iadd (pc := 728) hx hb dL_law_728 ?_
  obtain ⟨v6, hv, h⟩ := zl_some h
  refine xlX (pc := 729) hx hb hX0 hbl hbA hS hv dL_law_729 ?_
  refine lv_aload_n (pc := 730) hx hb dL_law_730 rfl (lv_at hl 1 rfl) ?_
  refine lv_iload_n (pc := 731) hx hb dL_law_731 rfl (lv_at hl 0 rfl) ?_
  refine lv_iconst (pc := 732) (v := 2) hx hb dL_law_732 (by decide) ?_
  refine lv_iadd (pc := 733) hx hb dL_law_733 ?_
  obtain ⟨v7, hv, h⟩ := zl_some h
  refine xlX (pc := 734) hx hb hX0 hbl hbA hS hv dL_law_734 ?_
  refine lv_aload_n (pc := 735) hx hb dL_law_735 rfl (lv_at hl 1 rfl) ?_
  refine lv_iload_n (pc := 736) hx hb dL_law_736 rfl (lv_at hl 0 rfl) ?_
  refine lv_iconst (pc := 737) (v := 3) hx hb dL_law_737 (by decide) ?_
  refine lv_iadd (pc := 738) hx hb dL_law_738 ?_
  obtain ⟨v8, hv, h⟩ := zl_some h
  refine xlX (pc := 739) hx hb hX0 hbl hbA hS hv dL_law_739 ?_
  obtain ⟨_, hg, h⟩ := zl_some h
  obtain ⟨v9, σ10, hv, h⟩ := zb_some h
  refine xcallVi (pc := 740) (As := [.int v6, .int v7, .int v8]) (rest := []) ⟨hx, hb, hml, hown, hts⟩ (c_X12_level l D c o g N hv) zc12 zV_L_72 rfl zd_X12_level ⟨Nat.le_of_ble_eq_true rfl, Nat.le_of_ble_eq_true rfl⟩ hK hP hE hS hg hl.1 rfl (Nat.le_of_ble_eq_true rfl) ⟨Nat.le_of_ble_eq_true rfl, Nat.le_of_ble_eq_true rfl⟩ dL_law_740 (fun H locs hP hS => ?_)
  refine lv_pop (pc := 743) hx hb dL_law_743 rfl ?_
  refine lv_goto (pc := 744) (tgt := 1869) hx hb dL_law_744 (by decide) ?_
  refine lv_iinc (pc := 1869) (v := x3 + 6) (lv' := [(3, .int (x3 + 6)), (0, .ref b), (1, .ref (o + 0)), (2, .ref (o + 218))]) hx hb dL_law_1869 hl (k := 0) rfl rfl (by decide) rfl (fun ls hl => ?_)
  refine lv_goto (pc := 1872) (tgt := 18) hx hb dL_law_1872 (by decide) ?_
  exact ih (x3 + 6, σ10) h _ _ ls hP hS (lv_sub hl [0, 1, 2, 3] rfl)
set_option maxHeartbeats 4000000 in
set_option maxRecDepth 100000 in
theorem wl_747 {p : Program} {e : Env} {s : State} {m : MethodId} {below : List Frame} {meth : Method} {cd : Code} (l : Launch) {b L : Nat} {xs : Nat → Int32} {o : Nat} {D : va_G} {c : zC} {g : zEp} (ho : s.heap.size = o) (C0 : lw_At p s m meth cd b L xs) (hK : zKt D c s) (hE : zE g o s s.heap) (N : Nat) {ρ : Int32 × zS} (hρ : ρ.1 = 1) {ag : Int32 × zS → Option (Int32 × zS)} (ih : ∀ (t : Int32 × zS), ag t = some ρ → ∀ (H : Heap) (locs : List Loc) (ls : Array Slot), zP D c o (zabs o t.2) H → va_S (zA o) s.heap H locs → lv_has ls 4 [(3, .int t.1), (0, .ref b), (1, .ref (o + 0)), (2, .ref (o + 218))] → W p l e room_1 s m #[Value.ref b] below meth cd H locs 243 106038 (lw_Z below #[Value.ref b] s) (F0 m 18 ls [])) {x3 : Int32} {σ : zS} (h : J_L_law_747 N L xs ag x3 σ = some ρ) (H : Heap) (locs : List Loc) (ls : Array Slot) (hP : zP D c o (zabs o σ) H) (hS : va_S (zA o) s.heap H locs) (hl : lv_has ls 4 [(3, .int x3), (0, .ref b), (1, .ref (o + 0)), (2, .ref (o + 218))]) : W p l e room_1 s m #[Value.ref b] below meth cd H locs 243 106038 (lw_Z below #[Value.ref b] s) (F0 m 747 ls []) := by
  obtain ⟨hx, hb, hr, hml, hown, hts0, hX0, hbl, hlocks, hgv⟩ := C0
  have hts : ∀ w ∈ zWl, w.before #[Value.ref b] s = true := fun w hw => hts0 w (List.mem_filter.mp hw).1
  have hown : s.vm.findClass RL = some m.cls := hown
  have hbA : ¬ zA o b := by show ¬ o ≤ b; omega
  rw [J_L_law_747.eq_1] at h
  refine lv_aload_n (pc := 747) hx hb dL_law_747 rfl (lv_at hl 2 rfl) ?_
  refine lv_aload_n (pc := 748) hx hb dL_law_748 rfl (lv_at hl 1 rfl) ?_
  refine lv_iload_n (pc := 749) hx hb dL_law_749 rfl (lv_at hl 0 rfl) ?_
  refine lv_iconst (pc := 750) (v := 1) hx hb dL_law_750 (by decide) ?_
  refine lv_iadd (pc := 751) hx hb dL_law_751 ?_
  obtain ⟨v1, hv, h⟩ := zl_some h
  refine xlX (pc := 752) hx hb hX0 hbl hbA hS hv dL_law_752 ?_
  refine lv_aload_n (pc := 753) hx hb dL_law_753 rfl (lv_at hl 1 rfl) ?_
  refine lv_iload_n (pc := 754) hx hb dL_law_754 rfl (lv_at hl 0 rfl) ?_
  refine lv_iconst (pc := 755) (v := 2) hx hb dL_law_755 (by decide) ?_
  refine lv_iadd (pc := 756) hx hb dL_law_756 ?_
  obtain ⟨v2, hv, h⟩ := zl_some h
  refine xlX (pc := 757) hx hb hX0 hbl hbA hS hv dL_law_757 ?_
  obtain ⟨_, hg, h⟩ := zl_some h
  obtain ⟨v3, σ4, hv, h⟩ := zb_some h
  refine xcallVi (pc := 758) (As := [.int v1, .int v2]) (rest := []) ⟨hx, hb, hml, hown, hts⟩ (c_X11_nth l D c o g N hv) zc11 zV_L_73 rfl zd_X11_nth ⟨Nat.le_of_ble_eq_true rfl, Nat.le_of_ble_eq_true rfl⟩ hK hP hE hS hg hl.1 rfl (Nat.le_of_ble_eq_true rfl) ⟨Nat.le_of_ble_eq_true rfl, Nat.le_of_ble_eq_true rfl⟩ dL_law_758 (fun H locs hP hS => ?_)
  refine lv_pop (pc := 761) hx hb dL_law_761 rfl ?_
  refine lv_aload_n (pc := 762) hx hb dL_law_762 rfl (lv_at hl 3 rfl) ?_
  refine lv_aload_n (pc := 763) hx hb dL_law_763 rfl (lv_at hl 1 rfl) ?_
  refine lv_iload_n (pc := 764) hx hb dL_law_764 rfl (lv_at hl 0 rfl) ?_
  refine lv_iconst (pc := 765) (v := 1) hx hb dL_law_765 (by decide) ?_
  refine lv_iadd (pc := 766) hx hb dL_law_766 ?_
  obtain ⟨v5, hv, h⟩ := zl_some h
  refine xlX (pc := 767) hx hb hX0 hbl hbA hS hv dL_law_767 ?_
  refine lv_aload_n (pc := 768) hx hb dL_law_768 rfl (lv_at hl 1 rfl) ?_
  refine lv_iload_n (pc := 769) hx hb dL_law_769 rfl (lv_at hl 0 rfl) ?_
  refine lv_iconst (pc := 770) (v := 2) hx hb dL_law_770 (by decide) ?_
  refine lv_iadd (pc := 771) hx hb dL_law_771 ?_
  obtain ⟨v6, hv, h⟩ := zl_some h
  refine xlX (pc := 772) hx hb hX0 hbl hbA hS hv dL_law_772 ?_
  obtain ⟨_, hg, h⟩ := zl_some h
  obtain ⟨v7, σ8, hv, h⟩ := zb_some h
  refine xcallVi (pc := 773) (As := [.int v5, .int v6]) (rest := []) ⟨hx, hb, hml, hown, hts⟩ (c_X12_nth l D c o g N hv) zc12 zV_L_76 rfl zd_X12_nth ⟨Nat.le_of_ble_eq_true rfl, Nat.le_of_ble_eq_true rfl⟩ hK hP hE hS hg hl.1 rfl (Nat.le_of_ble_eq_true rfl) ⟨Nat.le_of_ble_eq_true rfl, Nat.le_of_ble_eq_true rfl⟩ dL_law_773 (fun H locs hP hS => ?_)
  refine lv_pop (pc := 776) hx hb dL_law_776 rfl ?_
  refine lv_goto (pc := 777) (tgt := 1869) hx hb dL_law_777 (by decide) ?_
  refine lv_iinc (pc := 1869) (v := x3 + 6) (lv' := [(3, .int (x3 + 6)), (0, .ref b), (1, .ref (o + 0)), (2, .ref (o + 218))]) hx hb dL_law_1869 hl (k := 0) rfl rfl (by decide) rfl (fun ls hl => ?_)
  refine lv_goto (pc := 1872) (tgt := 18) hx hb dL_law_1872 (by decide) ?_
  exact ih (x3 + 6, σ8) h _ _ ls hP hS (lv_sub hl [0, 1, 2, 3] rfl)
set_option maxHeartbeats 4000000 in
set_option maxRecDepth 100000 in
theorem wl_780 {p : Program} {e : Env} {s : State} {m : MethodId} {below : List Frame} {meth : Method} {cd : Code} (l : Launch) {b L : Nat} {xs : Nat → Int32} {o : Nat} {D : va_G} {c : zC} {g : zEp} (ho : s.heap.size = o) (C0 : lw_At p s m meth cd b L xs) (hK : zKt D c s) (hE : zE g o s s.heap) (N : Nat) {ρ : Int32 × zS} (hρ : ρ.1 = 1) {ag : Int32 × zS → Option (Int32 × zS)} (ih : ∀ (t : Int32 × zS), ag t = some ρ → ∀ (H : Heap) (locs : List Loc) (ls : Array Slot), zP D c o (zabs o t.2) H → va_S (zA o) s.heap H locs → lv_has ls 4 [(3, .int t.1), (0, .ref b), (1, .ref (o + 0)), (2, .ref (o + 218))] → W p l e room_1 s m #[Value.ref b] below meth cd H locs 243 106038 (lw_Z below #[Value.ref b] s) (F0 m 18 ls [])) {x3 : Int32} {σ : zS} (h : J_L_law_780 N L xs ag x3 σ = some ρ) (H : Heap) (locs : List Loc) (ls : Array Slot) (hP : zP D c o (zabs o σ) H) (hS : va_S (zA o) s.heap H locs) (hl : lv_has ls 4 [(3, .int x3), (0, .ref b), (1, .ref (o + 0)), (2, .ref (o + 218))]) : W p l e room_1 s m #[Value.ref b] below meth cd H locs 243 106038 (lw_Z below #[Value.ref b] s) (F0 m 780 ls []) := by
  obtain ⟨hx, hb, hr, hml, hown, hts0, hX0, hbl, hlocks, hgv⟩ := C0
  have hts : ∀ w ∈ zWl, w.before #[Value.ref b] s = true := fun w hw => hts0 w (List.mem_filter.mp hw).1
  have hown : s.vm.findClass RL = some m.cls := hown
  have hbA : ¬ zA o b := by show ¬ o ≤ b; omega
  rw [J_L_law_780.eq_1] at h
  refine lv_aload_n (pc := 780) hx hb dL_law_780 rfl (lv_at hl 2 rfl) ?_
  refine lv_aload_n (pc := 781) hx hb dL_law_781 rfl (lv_at hl 1 rfl) ?_
  refine lv_iload_n (pc := 782) hx hb dL_law_782 rfl (lv_at hl 0 rfl) ?_
  refine lv_iconst (pc := 783) (v := 1) hx hb dL_law_783 (by decide) ?_
  refine lv_iadd (pc := 784) hx hb dL_law_784 ?_
  obtain ⟨v1, hv, h⟩ := zl_some h
  refine xlX (pc := 785) hx hb hX0 hbl hbA hS hv dL_law_785 ?_
  refine lv_aload_n (pc := 786) hx hb dL_law_786 rfl (lv_at hl 1 rfl) ?_
  refine lv_iload_n (pc := 787) hx hb dL_law_787 rfl (lv_at hl 0 rfl) ?_
  refine lv_iconst (pc := 788) (v := 2) hx hb dL_law_788 (by decide) ?_
  refine lv_iadd (pc := 789) hx hb dL_law_789 ?_
  obtain ⟨v2, hv, h⟩ := zl_some h
  refine xlX (pc := 790) hx hb hX0 hbl hbA hS hv dL_law_790 ?_
  obtain ⟨_, hg, h⟩ := zl_some h
  obtain ⟨v3, σ4, hv, h⟩ := zb_some h
  refine xcallVi (pc := 791) (As := [.int v1, .int v2]) (rest := []) ⟨hx, hb, hml, hown, hts⟩ (c_X11_rank l D c o g N hv) zc11 zV_L_77 rfl zd_X11_rank ⟨Nat.le_of_ble_eq_true rfl, Nat.le_of_ble_eq_true rfl⟩ hK hP hE hS hg hl.1 rfl (Nat.le_of_ble_eq_true rfl) ⟨Nat.le_of_ble_eq_true rfl, Nat.le_of_ble_eq_true rfl⟩ dL_law_791 (fun H locs hP hS => ?_)
  refine lv_pop (pc := 794) hx hb dL_law_794 rfl ?_
  refine lv_aload_n (pc := 795) hx hb dL_law_795 rfl (lv_at hl 3 rfl) ?_
  refine lv_aload_n (pc := 796) hx hb dL_law_796 rfl (lv_at hl 1 rfl) ?_
  refine lv_iload_n (pc := 797) hx hb dL_law_797 rfl (lv_at hl 0 rfl) ?_
  refine lv_iconst (pc := 798) (v := 1) hx hb dL_law_798 (by decide) ?_
  refine lv_iadd (pc := 799) hx hb dL_law_799 ?_
  obtain ⟨v5, hv, h⟩ := zl_some h
  refine xlX (pc := 800) hx hb hX0 hbl hbA hS hv dL_law_800 ?_
  refine lv_aload_n (pc := 801) hx hb dL_law_801 rfl (lv_at hl 1 rfl) ?_
  refine lv_iload_n (pc := 802) hx hb dL_law_802 rfl (lv_at hl 0 rfl) ?_
  refine lv_iconst (pc := 803) (v := 2) hx hb dL_law_803 (by decide) ?_
  refine lv_iadd (pc := 804) hx hb dL_law_804 ?_
  obtain ⟨v6, hv, h⟩ := zl_some h
  refine xlX (pc := 805) hx hb hX0 hbl hbA hS hv dL_law_805 ?_
  obtain ⟨_, hg, h⟩ := zl_some h
  obtain ⟨v7, σ8, hv, h⟩ := zb_some h
  refine xcallVi (pc := 806) (As := [.int v5, .int v6]) (rest := []) ⟨hx, hb, hml, hown, hts⟩ (c_X12_rank_ l D c o g N hv) zc12 zV_L_80 rfl zd_X12_rank_ ⟨Nat.le_of_ble_eq_true rfl, Nat.le_of_ble_eq_true rfl⟩ hK hP hE hS hg hl.1 rfl (Nat.le_of_ble_eq_true rfl) ⟨Nat.le_of_ble_eq_true rfl, Nat.le_of_ble_eq_true rfl⟩ dL_law_806 (fun H locs hP hS => ?_)
  refine lv_pop (pc := 809) hx hb dL_law_809 rfl ?_
  refine lv_goto (pc := 810) (tgt := 1869) hx hb dL_law_810 (by decide) ?_
  refine lv_iinc (pc := 1869) (v := x3 + 6) (lv' := [(3, .int (x3 + 6)), (0, .ref b), (1, .ref (o + 0)), (2, .ref (o + 218))]) hx hb dL_law_1869 hl (k := 0) rfl rfl (by decide) rfl (fun ls hl => ?_)
  refine lv_goto (pc := 1872) (tgt := 18) hx hb dL_law_1872 (by decide) ?_
  exact ih (x3 + 6, σ8) h _ _ ls hP hS (lv_sub hl [0, 1, 2, 3] rfl)
set_option maxHeartbeats 4000000 in
set_option maxRecDepth 100000 in
theorem wl_813 {p : Program} {e : Env} {s : State} {m : MethodId} {below : List Frame} {meth : Method} {cd : Code} (l : Launch) {b L : Nat} {xs : Nat → Int32} {o : Nat} {D : va_G} {c : zC} {g : zEp} (ho : s.heap.size = o) (C0 : lw_At p s m meth cd b L xs) (hK : zKt D c s) (hE : zE g o s s.heap) (N : Nat) {ρ : Int32 × zS} (hρ : ρ.1 = 1) {ag : Int32 × zS → Option (Int32 × zS)} (ih : ∀ (t : Int32 × zS), ag t = some ρ → ∀ (H : Heap) (locs : List Loc) (ls : Array Slot), zP D c o (zabs o t.2) H → va_S (zA o) s.heap H locs → lv_has ls 4 [(3, .int t.1), (0, .ref b), (1, .ref (o + 0)), (2, .ref (o + 218))] → W p l e room_1 s m #[Value.ref b] below meth cd H locs 243 106038 (lw_Z below #[Value.ref b] s) (F0 m 18 ls [])) {x3 : Int32} {σ : zS} (h : J_L_law_813 N L xs ag x3 σ = some ρ) (H : Heap) (locs : List Loc) (ls : Array Slot) (hP : zP D c o (zabs o σ) H) (hS : va_S (zA o) s.heap H locs) (hl : lv_has ls 4 [(3, .int x3), (0, .ref b), (1, .ref (o + 0)), (2, .ref (o + 218))]) : W p l e room_1 s m #[Value.ref b] below meth cd H locs 243 106038 (lw_Z below #[Value.ref b] s) (F0 m 813 ls []) := by
  obtain ⟨hx, hb, hr, hml, hown, hts0, hX0, hbl, hlocks, hgv⟩ := C0
  have hts : ∀ w ∈ zWl, w.before #[Value.ref b] s = true := fun w hw => hts0 w (List.mem_filter.mp hw).1
  have hown : s.vm.findClass RL = some m.cls := hown
  have hbA : ¬ zA o b := by show ¬ o ≤ b; omega
  rw [J_L_law_813.eq_1] at h
  refine lv_aload_n (pc := 813) hx hb dL_law_813 rfl (lv_at hl 2 rfl) ?_
  refine lv_aload_n (pc := 814) hx hb dL_law_814 rfl (lv_at hl 1 rfl) ?_
  refine lv_iload_n (pc := 815) hx hb dL_law_815 rfl (lv_at hl 0 rfl) ?_
  refine lv_iconst (pc := 816) (v := 1) hx hb dL_law_816 (by decide) ?_
  refine lv_iadd (pc := 817) hx hb dL_law_817 ?_
  obtain ⟨v1, hv, h⟩ := zl_some h
  refine xlX (pc := 818) hx hb hX0 hbl hbA hS hv dL_law_818 ?_
  refine lv_aload_n (pc := 819) hx hb dL_law_819 rfl (lv_at hl 1 rfl) ?_
  refine lv_iload_n (pc := 820) hx hb dL_law_820 rfl (lv_at hl 0 rfl) ?_
  refine lv_iconst (pc := 821) (v := 2) hx hb dL_law_821 (by decide) ?_
  refine lv_iadd (pc := 822) hx hb dL_law_822 ?_
  obtain ⟨v2, hv, h⟩ := zl_some h
  refine xlX (pc := 823) hx hb hX0 hbl hbA hS hv dL_law_823 ?_
  obtain ⟨_, hg, h⟩ := zl_some h
  obtain ⟨v3, σ4, hv, h⟩ := zb_some h
  refine xcallVi (pc := 824) (As := [.int v1, .int v2]) (rest := []) ⟨hx, hb, hml, hown, hts⟩ (c_X11_light l D c o g N hv) zc11 zV_L_81 rfl zd_X11_light ⟨Nat.le_of_ble_eq_true rfl, Nat.le_of_ble_eq_true rfl⟩ hK hP hE hS hg hl.1 rfl (Nat.le_of_ble_eq_true rfl) ⟨Nat.le_of_ble_eq_true rfl, Nat.le_of_ble_eq_true rfl⟩ dL_law_824 (fun H locs hP hS => ?_)
  refine lv_pop (pc := 827) hx hb dL_law_827 rfl ?_
  refine lv_aload_n (pc := 828) hx hb dL_law_828 rfl (lv_at hl 3 rfl) ?_
  refine lv_aload_n (pc := 829) hx hb dL_law_829 rfl (lv_at hl 1 rfl) ?_
  refine lv_iload_n (pc := 830) hx hb dL_law_830 rfl (lv_at hl 0 rfl) ?_
  refine lv_iconst (pc := 831) (v := 1) hx hb dL_law_831 (by decide) ?_
  refine lv_iadd (pc := 832) hx hb dL_law_832 ?_
  obtain ⟨v5, hv, h⟩ := zl_some h
  refine xlX (pc := 833) hx hb hX0 hbl hbA hS hv dL_law_833 ?_
  refine lv_aload_n (pc := 834) hx hb dL_law_834 rfl (lv_at hl 1 rfl) ?_
  refine lv_iload_n (pc := 835) hx hb dL_law_835 rfl (lv_at hl 0 rfl) ?_
  refine lv_iconst (pc := 836) (v := 2) hx hb dL_law_836 (by decide) ?_
  refine lv_iadd (pc := 837) hx hb dL_law_837 ?_
  obtain ⟨v6, hv, h⟩ := zl_some h
  refine xlX (pc := 838) hx hb hX0 hbl hbA hS hv dL_law_838 ?_
  obtain ⟨_, hg, h⟩ := zl_some h
  obtain ⟨v7, σ8, hv, h⟩ := zb_some h
  refine xcallVi (pc := 839) (As := [.int v5, .int v6]) (rest := []) ⟨hx, hb, hml, hown, hts⟩ (c_X12_light l D c o g N hv) zc12 zV_L_84 rfl zd_X12_light ⟨Nat.le_of_ble_eq_true rfl, Nat.le_of_ble_eq_true rfl⟩ hK hP hE hS hg hl.1 rfl (Nat.le_of_ble_eq_true rfl) ⟨Nat.le_of_ble_eq_true rfl, Nat.le_of_ble_eq_true rfl⟩ dL_law_839 (fun H locs hP hS => ?_)
  refine lv_pop (pc := 842) hx hb dL_law_842 rfl ?_
  refine lv_goto (pc := 843) (tgt := 1869) hx hb dL_law_843 (by decide) ?_
  refine lv_iinc (pc := 1869) (v := x3 + 6) (lv' := [(3, .int (x3 + 6)), (0, .ref b), (1, .ref (o + 0)), (2, .ref (o + 218))]) hx hb dL_law_1869 hl (k := 0) rfl rfl (by decide) rfl (fun ls hl => ?_)
  refine lv_goto (pc := 1872) (tgt := 18) hx hb dL_law_1872 (by decide) ?_
  exact ih (x3 + 6, σ8) h _ _ ls hP hS (lv_sub hl [0, 1, 2, 3] rfl)
set_option maxHeartbeats 4000000 in
set_option maxRecDepth 100000 in
theorem wl_846 {p : Program} {e : Env} {s : State} {m : MethodId} {below : List Frame} {meth : Method} {cd : Code} (l : Launch) {b L : Nat} {xs : Nat → Int32} {o : Nat} {D : va_G} {c : zC} {g : zEp} (ho : s.heap.size = o) (C0 : lw_At p s m meth cd b L xs) (hK : zKt D c s) (hE : zE g o s s.heap) (N : Nat) {ρ : Int32 × zS} (hρ : ρ.1 = 1) {ag : Int32 × zS → Option (Int32 × zS)} (ih : ∀ (t : Int32 × zS), ag t = some ρ → ∀ (H : Heap) (locs : List Loc) (ls : Array Slot), zP D c o (zabs o t.2) H → va_S (zA o) s.heap H locs → lv_has ls 4 [(3, .int t.1), (0, .ref b), (1, .ref (o + 0)), (2, .ref (o + 218))] → W p l e room_1 s m #[Value.ref b] below meth cd H locs 243 106038 (lw_Z below #[Value.ref b] s) (F0 m 18 ls [])) {x3 : Int32} {σ : zS} (h : J_L_law_846 N L xs ag x3 σ = some ρ) (H : Heap) (locs : List Loc) (ls : Array Slot) (hP : zP D c o (zabs o σ) H) (hS : va_S (zA o) s.heap H locs) (hl : lv_has ls 4 [(3, .int x3), (0, .ref b), (1, .ref (o + 0)), (2, .ref (o + 218))]) : W p l e room_1 s m #[Value.ref b] below meth cd H locs 243 106038 (lw_Z below #[Value.ref b] s) (F0 m 846 ls []) := by
  obtain ⟨hx, hb, hr, hml, hown, hts0, hX0, hbl, hlocks, hgv⟩ := C0
  have hts : ∀ w ∈ zWl, w.before #[Value.ref b] s = true := fun w hw => hts0 w (List.mem_filter.mp hw).1
  have hown : s.vm.findClass RL = some m.cls := hown
  have hbA : ¬ zA o b := by show ¬ o ≤ b; omega
  rw [J_L_law_846.eq_1] at h
  refine lv_aload_n (pc := 846) hx hb dL_law_846 rfl (lv_at hl 2 rfl) ?_
  refine lv_aload_n (pc := 847) hx hb dL_law_847 rfl (lv_at hl 1 rfl) ?_
  refine lv_iload_n (pc := 848) hx hb dL_law_848 rfl (lv_at hl 0 rfl) ?_
  refine lv_iconst (pc := 849) (v := 1) hx hb dL_law_849 (by decide) ?_
  refine lv_iadd (pc := 850) hx hb dL_law_850 ?_
  obtain ⟨v1, hv, h⟩ := zl_some h
  refine xlX (pc := 851) hx hb hX0 hbl hbA hS hv dL_law_851 ?_
  obtain ⟨_, hg, h⟩ := zl_some h
  obtain ⟨v2, σ3, hv, h⟩ := zb_some h
  refine xcallVi (pc := 852) (As := [.int v1]) (rest := []) ⟨hx, hb, hml, hown, hts⟩ (c_X11_weight l D c o g N hv) zc11 zV_L_85 rfl zd_X11_weight ⟨Nat.le_of_ble_eq_true rfl, Nat.le_of_ble_eq_true rfl⟩ hK hP hE hS hg hl.1 rfl (Nat.le_of_ble_eq_true rfl) ⟨Nat.le_of_ble_eq_true rfl, Nat.le_of_ble_eq_true rfl⟩ dL_law_852 (fun H locs hP hS => ?_)
  refine lv_pop (pc := 855) hx hb dL_law_855 rfl ?_
  refine lv_aload_n (pc := 856) hx hb dL_law_856 rfl (lv_at hl 3 rfl) ?_
  refine lv_aload_n (pc := 857) hx hb dL_law_857 rfl (lv_at hl 1 rfl) ?_
  refine lv_iload_n (pc := 858) hx hb dL_law_858 rfl (lv_at hl 0 rfl) ?_
  refine lv_iconst (pc := 859) (v := 1) hx hb dL_law_859 (by decide) ?_
  refine lv_iadd (pc := 860) hx hb dL_law_860 ?_
  obtain ⟨v4, hv, h⟩ := zl_some h
  refine xlX (pc := 861) hx hb hX0 hbl hbA hS hv dL_law_861 ?_
  obtain ⟨_, hg, h⟩ := zl_some h
  obtain ⟨v5, σ6, hv, h⟩ := zb_some h
  refine xcallVi (pc := 862) (As := [.int v4]) (rest := []) ⟨hx, hb, hml, hown, hts⟩ (c_X12_weight l D c o g N hv) zc12 zV_L_88 rfl zd_X12_weight ⟨Nat.le_of_ble_eq_true rfl, Nat.le_of_ble_eq_true rfl⟩ hK hP hE hS hg hl.1 rfl (Nat.le_of_ble_eq_true rfl) ⟨Nat.le_of_ble_eq_true rfl, Nat.le_of_ble_eq_true rfl⟩ dL_law_862 (fun H locs hP hS => ?_)
  refine lv_pop (pc := 865) hx hb dL_law_865 rfl ?_
  refine lv_goto (pc := 866) (tgt := 1869) hx hb dL_law_866 (by decide) ?_
  refine lv_iinc (pc := 1869) (v := x3 + 6) (lv' := [(3, .int (x3 + 6)), (0, .ref b), (1, .ref (o + 0)), (2, .ref (o + 218))]) hx hb dL_law_1869 hl (k := 0) rfl rfl (by decide) rfl (fun ls hl => ?_)
  refine lv_goto (pc := 1872) (tgt := 18) hx hb dL_law_1872 (by decide) ?_
  exact ih (x3 + 6, σ6) h _ _ ls hP hS (lv_sub hl [0, 1, 2, 3] rfl)
set_option maxHeartbeats 4000000 in
set_option maxRecDepth 100000 in
theorem wl_869 {p : Program} {e : Env} {s : State} {m : MethodId} {below : List Frame} {meth : Method} {cd : Code} (l : Launch) {b L : Nat} {xs : Nat → Int32} {o : Nat} {D : va_G} {c : zC} {g : zEp} (ho : s.heap.size = o) (C0 : lw_At p s m meth cd b L xs) (hK : zKt D c s) (hE : zE g o s s.heap) (N : Nat) {ρ : Int32 × zS} (hρ : ρ.1 = 1) {ag : Int32 × zS → Option (Int32 × zS)} (ih : ∀ (t : Int32 × zS), ag t = some ρ → ∀ (H : Heap) (locs : List Loc) (ls : Array Slot), zP D c o (zabs o t.2) H → va_S (zA o) s.heap H locs → lv_has ls 4 [(3, .int t.1), (0, .ref b), (1, .ref (o + 0)), (2, .ref (o + 218))] → W p l e room_1 s m #[Value.ref b] below meth cd H locs 243 106038 (lw_Z below #[Value.ref b] s) (F0 m 18 ls [])) {x3 : Int32} {σ : zS} (h : J_L_law_869 N L xs ag x3 σ = some ρ) (H : Heap) (locs : List Loc) (ls : Array Slot) (hP : zP D c o (zabs o σ) H) (hS : va_S (zA o) s.heap H locs) (hl : lv_has ls 4 [(3, .int x3), (0, .ref b), (1, .ref (o + 0)), (2, .ref (o + 218))]) : W p l e room_1 s m #[Value.ref b] below meth cd H locs 243 106038 (lw_Z below #[Value.ref b] s) (F0 m 869 ls []) := by
  obtain ⟨hx, hb, hr, hml, hown, hts0, hX0, hbl, hlocks, hgv⟩ := C0
  have hts : ∀ w ∈ zWl, w.before #[Value.ref b] s = true := fun w hw => hts0 w (List.mem_filter.mp hw).1
  have hown : s.vm.findClass RL = some m.cls := hown
  have hbA : ¬ zA o b := by show ¬ o ≤ b; omega
  rw [J_L_law_869.eq_1] at h
  refine lv_aload_n (pc := 869) hx hb dL_law_869 rfl (lv_at hl 2 rfl) ?_
  refine lv_aload_n (pc := 870) hx hb dL_law_870 rfl (lv_at hl 1 rfl) ?_
  refine lv_iload_n (pc := 871) hx hb dL_law_871 rfl (lv_at hl 0 rfl) ?_
  refine lv_iconst (pc := 872) (v := 1) hx hb dL_law_872 (by decide) ?_
  refine lv_iadd (pc := 873) hx hb dL_law_873 ?_
  obtain ⟨v1, hv, h⟩ := zl_some h
  refine xlX (pc := 874) hx hb hX0 hbl hbA hS hv dL_law_874 ?_
  refine lv_aload_n (pc := 875) hx hb dL_law_875 rfl (lv_at hl 1 rfl) ?_
  refine lv_iload_n (pc := 876) hx hb dL_law_876 rfl (lv_at hl 0 rfl) ?_
  refine lv_iconst (pc := 877) (v := 2) hx hb dL_law_877 (by decide) ?_
  refine lv_iadd (pc := 878) hx hb dL_law_878 ?_
  obtain ⟨v2, hv, h⟩ := zl_some h
  refine xlX (pc := 879) hx hb hX0 hbl hbA hS hv dL_law_879 ?_
  obtain ⟨_, hg, h⟩ := zl_some h
  obtain ⟨v3, σ4, hv, h⟩ := zb_some h
  refine xcallVi (pc := 880) (As := [.int v1, .int v2]) (rest := []) ⟨hx, hb, hml, hown, hts⟩ (c_X11_weigh l D c o g N hv) zc11 zV_L_89 rfl zd_X11_weigh ⟨Nat.le_of_ble_eq_true rfl, Nat.le_of_ble_eq_true rfl⟩ hK hP hE hS hg hl.1 rfl (Nat.le_of_ble_eq_true rfl) ⟨Nat.le_of_ble_eq_true rfl, Nat.le_of_ble_eq_true rfl⟩ dL_law_880 (fun H locs hP hS => ?_)
  refine lv_pop (pc := 883) hx hb dL_law_883 rfl ?_
  refine lv_aload_n (pc := 884) hx hb dL_law_884 rfl (lv_at hl 3 rfl) ?_
  refine lv_aload_n (pc := 885) hx hb dL_law_885 rfl (lv_at hl 1 rfl) ?_
  refine lv_iload_n (pc := 886) hx hb dL_law_886 rfl (lv_at hl 0 rfl) ?_
  refine lv_iconst (pc := 887) (v := 1) hx hb dL_law_887 (by decide) ?_
  refine lv_iadd (pc := 888) hx hb dL_law_888 ?_
  obtain ⟨v5, hv, h⟩ := zl_some h
  refine xlX (pc := 889) hx hb hX0 hbl hbA hS hv dL_law_889 ?_
  refine lv_aload_n (pc := 890) hx hb dL_law_890 rfl (lv_at hl 1 rfl) ?_
  refine lv_iload_n (pc := 891) hx hb dL_law_891 rfl (lv_at hl 0 rfl) ?_
  refine lv_iconst (pc := 892) (v := 2) hx hb dL_law_892 (by decide) ?_
  refine lv_iadd (pc := 893) hx hb dL_law_893 ?_
  obtain ⟨v6, hv, h⟩ := zl_some h
  refine xlX (pc := 894) hx hb hX0 hbl hbA hS hv dL_law_894 ?_
  obtain ⟨_, hg, h⟩ := zl_some h
  obtain ⟨v7, σ8, hv, h⟩ := zb_some h
  refine xcallVi (pc := 895) (As := [.int v5, .int v6]) (rest := []) ⟨hx, hb, hml, hown, hts⟩ (c_X12_weigh l D c o g N hv) zc12 zV_L_92 rfl zd_X12_weigh ⟨Nat.le_of_ble_eq_true rfl, Nat.le_of_ble_eq_true rfl⟩ hK hP hE hS hg hl.1 rfl (Nat.le_of_ble_eq_true rfl) ⟨Nat.le_of_ble_eq_true rfl, Nat.le_of_ble_eq_true rfl⟩ dL_law_895 (fun H locs hP hS => ?_)
  refine lv_pop (pc := 898) hx hb dL_law_898 rfl ?_
  refine lv_goto (pc := 899) (tgt := 1869) hx hb dL_law_899 (by decide) ?_
  refine lv_iinc (pc := 1869) (v := x3 + 6) (lv' := [(3, .int (x3 + 6)), (0, .ref b), (1, .ref (o + 0)), (2, .ref (o + 218))]) hx hb dL_law_1869 hl (k := 0) rfl rfl (by decide) rfl (fun ls hl => ?_)
  refine lv_goto (pc := 1872) (tgt := 18) hx hb dL_law_1872 (by decide) ?_
  exact ih (x3 + 6, σ8) h _ _ ls hP hS (lv_sub hl [0, 1, 2, 3] rfl)
set_option maxHeartbeats 4000000 in
set_option maxRecDepth 100000 in
theorem wl_902 {p : Program} {e : Env} {s : State} {m : MethodId} {below : List Frame} {meth : Method} {cd : Code} (l : Launch) {b L : Nat} {xs : Nat → Int32} {o : Nat} {D : va_G} {c : zC} {g : zEp} (ho : s.heap.size = o) (C0 : lw_At p s m meth cd b L xs) (hK : zKt D c s) (hE : zE g o s s.heap) (N : Nat) {ρ : Int32 × zS} (hρ : ρ.1 = 1) {ag : Int32 × zS → Option (Int32 × zS)} (ih : ∀ (t : Int32 × zS), ag t = some ρ → ∀ (H : Heap) (locs : List Loc) (ls : Array Slot), zP D c o (zabs o t.2) H → va_S (zA o) s.heap H locs → lv_has ls 4 [(3, .int t.1), (0, .ref b), (1, .ref (o + 0)), (2, .ref (o + 218))] → W p l e room_1 s m #[Value.ref b] below meth cd H locs 243 106038 (lw_Z below #[Value.ref b] s) (F0 m 18 ls [])) {x3 : Int32} {σ : zS} (h : J_L_law_902 N L xs ag x3 σ = some ρ) (H : Heap) (locs : List Loc) (ls : Array Slot) (hP : zP D c o (zabs o σ) H) (hS : va_S (zA o) s.heap H locs) (hl : lv_has ls 4 [(3, .int x3), (0, .ref b), (1, .ref (o + 0)), (2, .ref (o + 218))]) : W p l e room_1 s m #[Value.ref b] below meth cd H locs 243 106038 (lw_Z below #[Value.ref b] s) (F0 m 902 ls []) := by
  obtain ⟨hx, hb, hr, hml, hown, hts0, hX0, hbl, hlocks, hgv⟩ := C0
  have hts : ∀ w ∈ zWl, w.before #[Value.ref b] s = true := fun w hw => hts0 w (List.mem_filter.mp hw).1
  have hown : s.vm.findClass RL = some m.cls := hown
  have hbA : ¬ zA o b := by show ¬ o ≤ b; omega
  rw [J_L_law_902.eq_1] at h
  refine lv_aload_n (pc := 902) hx hb dL_law_902 rfl (lv_at hl 2 rfl) ?_
  refine lv_aload_n (pc := 903) hx hb dL_law_903 rfl (lv_at hl 1 rfl) ?_
  refine lv_iload_n (pc := 904) hx hb dL_law_904 rfl (lv_at hl 0 rfl) ?_
  refine lv_iconst (pc := 905) (v := 1) hx hb dL_law_905 (by decide) ?_
  refine lv_iadd (pc := 906) hx hb dL_law_906 ?_
  obtain ⟨v1, hv, h⟩ := zl_some h
  refine xlX (pc := 907) hx hb hX0 hbl hbA hS hv dL_law_907 ?_
  refine lv_aload_n (pc := 908) hx hb dL_law_908 rfl (lv_at hl 1 rfl) ?_
  refine lv_iload_n (pc := 909) hx hb dL_law_909 rfl (lv_at hl 0 rfl) ?_
  refine lv_iconst (pc := 910) (v := 2) hx hb dL_law_910 (by decide) ?_
  refine lv_iadd (pc := 911) hx hb dL_law_911 ?_
  obtain ⟨v2, hv, h⟩ := zl_some h
  refine xlX (pc := 912) hx hb hX0 hbl hbA hS hv dL_law_912 ?_
  obtain ⟨_, hg, h⟩ := zl_some h
  obtain ⟨v3, σ4, hv, h⟩ := zb_some h
  refine xcallVi (pc := 913) (As := [.int v1, .int v2]) (rest := []) ⟨hx, hb, hml, hown, hts⟩ (c_X11_weighs l D c o g N hv) zc11 zV_L_93 rfl zd_X11_weighs ⟨Nat.le_of_ble_eq_true rfl, Nat.le_of_ble_eq_true rfl⟩ hK hP hE hS hg hl.1 rfl (Nat.le_of_ble_eq_true rfl) ⟨Nat.le_of_ble_eq_true rfl, Nat.le_of_ble_eq_true rfl⟩ dL_law_913 (fun H locs hP hS => ?_)
  refine lv_pop (pc := 916) hx hb dL_law_916 rfl ?_
  refine lv_aload_n (pc := 917) hx hb dL_law_917 rfl (lv_at hl 3 rfl) ?_
  refine lv_aload_n (pc := 918) hx hb dL_law_918 rfl (lv_at hl 1 rfl) ?_
  refine lv_iload_n (pc := 919) hx hb dL_law_919 rfl (lv_at hl 0 rfl) ?_
  refine lv_iconst (pc := 920) (v := 1) hx hb dL_law_920 (by decide) ?_
  refine lv_iadd (pc := 921) hx hb dL_law_921 ?_
  obtain ⟨v5, hv, h⟩ := zl_some h
  refine xlX (pc := 922) hx hb hX0 hbl hbA hS hv dL_law_922 ?_
  refine lv_aload_n (pc := 923) hx hb dL_law_923 rfl (lv_at hl 1 rfl) ?_
  refine lv_iload_n (pc := 924) hx hb dL_law_924 rfl (lv_at hl 0 rfl) ?_
  refine lv_iconst (pc := 925) (v := 2) hx hb dL_law_925 (by decide) ?_
  refine lv_iadd (pc := 926) hx hb dL_law_926 ?_
  obtain ⟨v6, hv, h⟩ := zl_some h
  refine xlX (pc := 927) hx hb hX0 hbl hbA hS hv dL_law_927 ?_
  obtain ⟨_, hg, h⟩ := zl_some h
  obtain ⟨v7, σ8, hv, h⟩ := zb_some h
  refine xcallVi (pc := 928) (As := [.int v5, .int v6]) (rest := []) ⟨hx, hb, hml, hown, hts⟩ (c_X12_weighs l D c o g N hv) zc12 zV_L_96 rfl zd_X12_weighs ⟨Nat.le_of_ble_eq_true rfl, Nat.le_of_ble_eq_true rfl⟩ hK hP hE hS hg hl.1 rfl (Nat.le_of_ble_eq_true rfl) ⟨Nat.le_of_ble_eq_true rfl, Nat.le_of_ble_eq_true rfl⟩ dL_law_928 (fun H locs hP hS => ?_)
  refine lv_pop (pc := 931) hx hb dL_law_931 rfl ?_
  refine lv_goto (pc := 932) (tgt := 1869) hx hb dL_law_932 (by decide) ?_
  refine lv_iinc (pc := 1869) (v := x3 + 6) (lv' := [(3, .int (x3 + 6)), (0, .ref b), (1, .ref (o + 0)), (2, .ref (o + 218))]) hx hb dL_law_1869 hl (k := 0) rfl rfl (by decide) rfl (fun ls hl => ?_)
  refine lv_goto (pc := 1872) (tgt := 18) hx hb dL_law_1872 (by decide) ?_
  exact ih (x3 + 6, σ8) h _ _ ls hP hS (lv_sub hl [0, 1, 2, 3] rfl)
set_option maxHeartbeats 4000000 in
set_option maxRecDepth 100000 in
theorem wl_935 {p : Program} {e : Env} {s : State} {m : MethodId} {below : List Frame} {meth : Method} {cd : Code} (l : Launch) {b L : Nat} {xs : Nat → Int32} {o : Nat} {D : va_G} {c : zC} {g : zEp} (ho : s.heap.size = o) (C0 : lw_At p s m meth cd b L xs) (hK : zKt D c s) (hE : zE g o s s.heap) (N : Nat) {ρ : Int32 × zS} (hρ : ρ.1 = 1) {ag : Int32 × zS → Option (Int32 × zS)} (ih : ∀ (t : Int32 × zS), ag t = some ρ → ∀ (H : Heap) (locs : List Loc) (ls : Array Slot), zP D c o (zabs o t.2) H → va_S (zA o) s.heap H locs → lv_has ls 4 [(3, .int t.1), (0, .ref b), (1, .ref (o + 0)), (2, .ref (o + 218))] → W p l e room_1 s m #[Value.ref b] below meth cd H locs 243 106038 (lw_Z below #[Value.ref b] s) (F0 m 18 ls [])) {x3 : Int32} {σ : zS} (h : J_L_law_935 N L xs ag x3 σ = some ρ) (H : Heap) (locs : List Loc) (ls : Array Slot) (hP : zP D c o (zabs o σ) H) (hS : va_S (zA o) s.heap H locs) (hl : lv_has ls 4 [(3, .int x3), (0, .ref b), (1, .ref (o + 0)), (2, .ref (o + 218))]) : W p l e room_1 s m #[Value.ref b] below meth cd H locs 243 106038 (lw_Z below #[Value.ref b] s) (F0 m 935 ls []) := by
  obtain ⟨hx, hb, hr, hml, hown, hts0, hX0, hbl, hlocks, hgv⟩ := C0
  have hts : ∀ w ∈ zWl, w.before #[Value.ref b] s = true := fun w hw => hts0 w (List.mem_filter.mp hw).1
  have hown : s.vm.findClass RL = some m.cls := hown
  have hbA : ¬ zA o b := by show ¬ o ≤ b; omega
  rw [J_L_law_935.eq_1] at h
  refine lv_aload_n (pc := 935) hx hb dL_law_935 rfl (lv_at hl 2 rfl) ?_
  refine lv_aload_n (pc := 936) hx hb dL_law_936 rfl (lv_at hl 1 rfl) ?_
  refine lv_iload_n (pc := 937) hx hb dL_law_937 rfl (lv_at hl 0 rfl) ?_
  refine lv_iconst (pc := 938) (v := 1) hx hb dL_law_938 (by decide) ?_
  refine lv_iadd (pc := 939) hx hb dL_law_939 ?_
  obtain ⟨v1, hv, h⟩ := zl_some h
  refine xlX (pc := 940) hx hb hX0 hbl hbA hS hv dL_law_940 ?_
  refine lv_aload_n (pc := 941) hx hb dL_law_941 rfl (lv_at hl 1 rfl) ?_
  refine lv_iload_n (pc := 942) hx hb dL_law_942 rfl (lv_at hl 0 rfl) ?_
  refine lv_iconst (pc := 943) (v := 2) hx hb dL_law_943 (by decide) ?_
  refine lv_iadd (pc := 944) hx hb dL_law_944 ?_
  obtain ⟨v2, hv, h⟩ := zl_some h
  refine xlX (pc := 945) hx hb hX0 hbl hbA hS hv dL_law_945 ?_
  obtain ⟨_, hg, h⟩ := zl_some h
  obtain ⟨v3, σ4, hv, h⟩ := zb_some h
  refine xcallVi (pc := 946) (As := [.int v1, .int v2]) (rest := []) ⟨hx, hb, hml, hown, hts⟩ (c_X11_each l D c o g N hv) zc11 zV_L_97 rfl zd_X11_each ⟨Nat.le_of_ble_eq_true rfl, Nat.le_of_ble_eq_true rfl⟩ hK hP hE hS hg hl.1 rfl (Nat.le_of_ble_eq_true rfl) ⟨Nat.le_of_ble_eq_true rfl, Nat.le_of_ble_eq_true rfl⟩ dL_law_946 (fun H locs hP hS => ?_)
  refine lv_pop (pc := 949) hx hb dL_law_949 rfl ?_
  refine lv_aload_n (pc := 950) hx hb dL_law_950 rfl (lv_at hl 3 rfl) ?_
  refine lv_aload_n (pc := 951) hx hb dL_law_951 rfl (lv_at hl 1 rfl) ?_
  refine lv_iload_n (pc := 952) hx hb dL_law_952 rfl (lv_at hl 0 rfl) ?_
  refine lv_iconst (pc := 953) (v := 1) hx hb dL_law_953 (by decide) ?_
  refine lv_iadd (pc := 954) hx hb dL_law_954 ?_
  obtain ⟨v5, hv, h⟩ := zl_some h
  refine xlX (pc := 955) hx hb hX0 hbl hbA hS hv dL_law_955 ?_
  refine lv_aload_n (pc := 956) hx hb dL_law_956 rfl (lv_at hl 1 rfl) ?_
  refine lv_iload_n (pc := 957) hx hb dL_law_957 rfl (lv_at hl 0 rfl) ?_
  refine lv_iconst (pc := 958) (v := 2) hx hb dL_law_958 (by decide) ?_
  refine lv_iadd (pc := 959) hx hb dL_law_959 ?_
  obtain ⟨v6, hv, h⟩ := zl_some h
  refine xlX (pc := 960) hx hb hX0 hbl hbA hS hv dL_law_960 ?_
  obtain ⟨_, hg, h⟩ := zl_some h
  obtain ⟨v7, σ8, hv, h⟩ := zb_some h
  refine xcallVi (pc := 961) (As := [.int v5, .int v6]) (rest := []) ⟨hx, hb, hml, hown, hts⟩ (c_X12_each l D c o g N hv) zc12 zV_L_100 rfl zd_X12_each ⟨Nat.le_of_ble_eq_true rfl, Nat.le_of_ble_eq_true rfl⟩ hK hP hE hS hg hl.1 rfl (Nat.le_of_ble_eq_true rfl) ⟨Nat.le_of_ble_eq_true rfl, Nat.le_of_ble_eq_true rfl⟩ dL_law_961 (fun H locs hP hS => ?_)
  refine lv_pop (pc := 964) hx hb dL_law_964 rfl ?_
  refine lv_goto (pc := 965) (tgt := 1869) hx hb dL_law_965 (by decide) ?_
  refine lv_iinc (pc := 1869) (v := x3 + 6) (lv' := [(3, .int (x3 + 6)), (0, .ref b), (1, .ref (o + 0)), (2, .ref (o + 218))]) hx hb dL_law_1869 hl (k := 0) rfl rfl (by decide) rfl (fun ls hl => ?_)
  refine lv_goto (pc := 1872) (tgt := 18) hx hb dL_law_1872 (by decide) ?_
  exact ih (x3 + 6, σ8) h _ _ ls hP hS (lv_sub hl [0, 1, 2, 3] rfl)
set_option maxHeartbeats 4000000 in
set_option maxRecDepth 100000 in
theorem wl_968 {p : Program} {e : Env} {s : State} {m : MethodId} {below : List Frame} {meth : Method} {cd : Code} (l : Launch) {b L : Nat} {xs : Nat → Int32} {o : Nat} {D : va_G} {c : zC} {g : zEp} (ho : s.heap.size = o) (C0 : lw_At p s m meth cd b L xs) (hK : zKt D c s) (hE : zE g o s s.heap) (N : Nat) {ρ : Int32 × zS} (hρ : ρ.1 = 1) {ag : Int32 × zS → Option (Int32 × zS)} (ih : ∀ (t : Int32 × zS), ag t = some ρ → ∀ (H : Heap) (locs : List Loc) (ls : Array Slot), zP D c o (zabs o t.2) H → va_S (zA o) s.heap H locs → lv_has ls 4 [(3, .int t.1), (0, .ref b), (1, .ref (o + 0)), (2, .ref (o + 218))] → W p l e room_1 s m #[Value.ref b] below meth cd H locs 243 106038 (lw_Z below #[Value.ref b] s) (F0 m 18 ls [])) {x3 : Int32} {σ : zS} (h : J_L_law_968 N L xs ag x3 σ = some ρ) (H : Heap) (locs : List Loc) (ls : Array Slot) (hP : zP D c o (zabs o σ) H) (hS : va_S (zA o) s.heap H locs) (hl : lv_has ls 4 [(3, .int x3), (0, .ref b), (1, .ref (o + 0)), (2, .ref (o + 218))]) : W p l e room_1 s m #[Value.ref b] below meth cd H locs 243 106038 (lw_Z below #[Value.ref b] s) (F0 m 968 ls []) := by
  obtain ⟨hx, hb, hr, hml, hown, hts0, hX0, hbl, hlocks, hgv⟩ := C0
  have hts : ∀ w ∈ zWl, w.before #[Value.ref b] s = true := fun w hw => hts0 w (List.mem_filter.mp hw).1
  have hown : s.vm.findClass RL = some m.cls := hown
  have hbA : ¬ zA o b := by show ¬ o ≤ b; omega
  rw [J_L_law_968.eq_1] at h
  refine lv_aload_n (pc := 968) hx hb dL_law_968 rfl (lv_at hl 2 rfl) ?_
  refine lv_aload_n (pc := 969) hx hb dL_law_969 rfl (lv_at hl 1 rfl) ?_
  refine lv_iload_n (pc := 970) hx hb dL_law_970 rfl (lv_at hl 0 rfl) ?_
  refine lv_iconst (pc := 971) (v := 1) hx hb dL_law_971 (by decide) ?_
  refine lv_iadd (pc := 972) hx hb dL_law_972 ?_
  obtain ⟨v1, hv, h⟩ := zl_some h
  refine xlX (pc := 973) hx hb hX0 hbl hbA hS hv dL_law_973 ?_
  refine lv_aload_n (pc := 974) hx hb dL_law_974 rfl (lv_at hl 1 rfl) ?_
  refine lv_iload_n (pc := 975) hx hb dL_law_975 rfl (lv_at hl 0 rfl) ?_
  refine lv_iconst (pc := 976) (v := 2) hx hb dL_law_976 (by decide) ?_
  refine lv_iadd (pc := 977) hx hb dL_law_977 ?_
  obtain ⟨v2, hv, h⟩ := zl_some h
  refine xlX (pc := 978) hx hb hX0 hbl hbA hS hv dL_law_978 ?_
  obtain ⟨_, hg, h⟩ := zl_some h
  obtain ⟨v3, σ4, hv, h⟩ := zb_some h
  refine xcallVi (pc := 979) (As := [.int v1, .int v2]) (rest := []) ⟨hx, hb, hml, hown, hts⟩ (c_X11_names l D c o g N hv) zc11 zV_L_101 rfl zd_X11_names ⟨Nat.le_of_ble_eq_true rfl, Nat.le_of_ble_eq_true rfl⟩ hK hP hE hS hg hl.1 rfl (Nat.le_of_ble_eq_true rfl) ⟨Nat.le_of_ble_eq_true rfl, Nat.le_of_ble_eq_true rfl⟩ dL_law_979 (fun H locs hP hS => ?_)
  refine lv_pop (pc := 982) hx hb dL_law_982 rfl ?_
  refine lv_aload_n (pc := 983) hx hb dL_law_983 rfl (lv_at hl 3 rfl) ?_
  refine lv_aload_n (pc := 984) hx hb dL_law_984 rfl (lv_at hl 1 rfl) ?_
  refine lv_iload_n (pc := 985) hx hb dL_law_985 rfl (lv_at hl 0 rfl) ?_
  refine lv_iconst (pc := 986) (v := 1) hx hb dL_law_986 (by decide) ?_
  refine lv_iadd (pc := 987) hx hb dL_law_987 ?_
  obtain ⟨v5, hv, h⟩ := zl_some h
  refine xlX (pc := 988) hx hb hX0 hbl hbA hS hv dL_law_988 ?_
  refine lv_aload_n (pc := 989) hx hb dL_law_989 rfl (lv_at hl 1 rfl) ?_
  refine lv_iload_n (pc := 990) hx hb dL_law_990 rfl (lv_at hl 0 rfl) ?_
  refine lv_iconst (pc := 991) (v := 2) hx hb dL_law_991 (by decide) ?_
  refine lv_iadd (pc := 992) hx hb dL_law_992 ?_
  obtain ⟨v6, hv, h⟩ := zl_some h
  refine xlX (pc := 993) hx hb hX0 hbl hbA hS hv dL_law_993 ?_
  obtain ⟨_, hg, h⟩ := zl_some h
  obtain ⟨v7, σ8, hv, h⟩ := zb_some h
  refine xcallVi (pc := 994) (As := [.int v5, .int v6]) (rest := []) ⟨hx, hb, hml, hown, hts⟩ (c_X12_names l D c o g N hv) zc12 zV_L_104 rfl zd_X12_names ⟨Nat.le_of_ble_eq_true rfl, Nat.le_of_ble_eq_true rfl⟩ hK hP hE hS hg hl.1 rfl (Nat.le_of_ble_eq_true rfl) ⟨Nat.le_of_ble_eq_true rfl, Nat.le_of_ble_eq_true rfl⟩ dL_law_994 (fun H locs hP hS => ?_)
  refine lv_pop (pc := 997) hx hb dL_law_997 rfl ?_
  refine lv_goto (pc := 998) (tgt := 1869) hx hb dL_law_998 (by decide) ?_
  refine lv_iinc (pc := 1869) (v := x3 + 6) (lv' := [(3, .int (x3 + 6)), (0, .ref b), (1, .ref (o + 0)), (2, .ref (o + 218))]) hx hb dL_law_1869 hl (k := 0) rfl rfl (by decide) rfl (fun ls hl => ?_)
  refine lv_goto (pc := 1872) (tgt := 18) hx hb dL_law_1872 (by decide) ?_
  exact ih (x3 + 6, σ8) h _ _ ls hP hS (lv_sub hl [0, 1, 2, 3] rfl)
set_option maxHeartbeats 4000000 in
set_option maxRecDepth 100000 in
theorem wl_1001 {p : Program} {e : Env} {s : State} {m : MethodId} {below : List Frame} {meth : Method} {cd : Code} (l : Launch) {b L : Nat} {xs : Nat → Int32} {o : Nat} {D : va_G} {c : zC} {g : zEp} (ho : s.heap.size = o) (C0 : lw_At p s m meth cd b L xs) (hK : zKt D c s) (hE : zE g o s s.heap) (N : Nat) {ρ : Int32 × zS} (hρ : ρ.1 = 1) {ag : Int32 × zS → Option (Int32 × zS)} (ih : ∀ (t : Int32 × zS), ag t = some ρ → ∀ (H : Heap) (locs : List Loc) (ls : Array Slot), zP D c o (zabs o t.2) H → va_S (zA o) s.heap H locs → lv_has ls 4 [(3, .int t.1), (0, .ref b), (1, .ref (o + 0)), (2, .ref (o + 218))] → W p l e room_1 s m #[Value.ref b] below meth cd H locs 243 106038 (lw_Z below #[Value.ref b] s) (F0 m 18 ls [])) {x3 : Int32} {σ : zS} (h : J_L_law_1001 N L xs ag x3 σ = some ρ) (H : Heap) (locs : List Loc) (ls : Array Slot) (hP : zP D c o (zabs o σ) H) (hS : va_S (zA o) s.heap H locs) (hl : lv_has ls 4 [(3, .int x3), (0, .ref b), (1, .ref (o + 0)), (2, .ref (o + 218))]) : W p l e room_1 s m #[Value.ref b] below meth cd H locs 243 106038 (lw_Z below #[Value.ref b] s) (F0 m 1001 ls []) := by
  obtain ⟨hx, hb, hr, hml, hown, hts0, hX0, hbl, hlocks, hgv⟩ := C0
  have hts : ∀ w ∈ zWl, w.before #[Value.ref b] s = true := fun w hw => hts0 w (List.mem_filter.mp hw).1
  have hown : s.vm.findClass RL = some m.cls := hown
  have hbA : ¬ zA o b := by show ¬ o ≤ b; omega
  rw [J_L_law_1001.eq_1] at h
  refine lv_aload_n (pc := 1001) hx hb dL_law_1001 rfl (lv_at hl 2 rfl) ?_
  refine lv_aload_n (pc := 1002) hx hb dL_law_1002 rfl (lv_at hl 1 rfl) ?_
  refine lv_iload_n (pc := 1003) hx hb dL_law_1003 rfl (lv_at hl 0 rfl) ?_
  refine lv_iconst (pc := 1004) (v := 1) hx hb dL_law_1004 (by decide) ?_
  refine lv_iadd (pc := 1005) hx hb dL_law_1005 ?_
  obtain ⟨v1, hv, h⟩ := zl_some h
  refine xlX (pc := 1006) hx hb hX0 hbl hbA hS hv dL_law_1006 ?_
  refine lv_aload_n (pc := 1007) hx hb dL_law_1007 rfl (lv_at hl 1 rfl) ?_
  refine lv_iload_n (pc := 1008) hx hb dL_law_1008 rfl (lv_at hl 0 rfl) ?_
  refine lv_iconst (pc := 1009) (v := 2) hx hb dL_law_1009 (by decide) ?_
  refine lv_iadd (pc := 1010) hx hb dL_law_1010 ?_
  obtain ⟨v2, hv, h⟩ := zl_some h
  refine xlX (pc := 1011) hx hb hX0 hbl hbA hS hv dL_law_1011 ?_
  obtain ⟨_, hg, h⟩ := zl_some h
  obtain ⟨v3, σ4, hv, h⟩ := zb_some h
  refine xcallVi (pc := 1012) (As := [.int v1, .int v2]) (rest := []) ⟨hx, hb, hml, hown, hts⟩ (c_X11_draw l D c o g N hv) zc11 zV_L_105 rfl zd_X11_draw ⟨Nat.le_of_ble_eq_true rfl, Nat.le_of_ble_eq_true rfl⟩ hK hP hE hS hg hl.1 rfl (Nat.le_of_ble_eq_true rfl) ⟨Nat.le_of_ble_eq_true rfl, Nat.le_of_ble_eq_true rfl⟩ dL_law_1012 (fun H locs hP hS => ?_)
  refine lv_pop (pc := 1015) hx hb dL_law_1015 rfl ?_
  refine lv_aload_n (pc := 1016) hx hb dL_law_1016 rfl (lv_at hl 3 rfl) ?_
  refine lv_aload_n (pc := 1017) hx hb dL_law_1017 rfl (lv_at hl 1 rfl) ?_
  refine lv_iload_n (pc := 1018) hx hb dL_law_1018 rfl (lv_at hl 0 rfl) ?_
  refine lv_iconst (pc := 1019) (v := 1) hx hb dL_law_1019 (by decide) ?_
  refine lv_iadd (pc := 1020) hx hb dL_law_1020 ?_
  obtain ⟨v5, hv, h⟩ := zl_some h
  refine xlX (pc := 1021) hx hb hX0 hbl hbA hS hv dL_law_1021 ?_
  refine lv_aload_n (pc := 1022) hx hb dL_law_1022 rfl (lv_at hl 1 rfl) ?_
  refine lv_iload_n (pc := 1023) hx hb dL_law_1023 rfl (lv_at hl 0 rfl) ?_
  refine lv_iconst (pc := 1024) (v := 2) hx hb dL_law_1024 (by decide) ?_
  refine lv_iadd (pc := 1025) hx hb dL_law_1025 ?_
  obtain ⟨v6, hv, h⟩ := zl_some h
  refine xlX (pc := 1026) hx hb hX0 hbl hbA hS hv dL_law_1026 ?_
  obtain ⟨_, hg, h⟩ := zl_some h
  obtain ⟨v7, σ8, hv, h⟩ := zb_some h
  refine xcallVi (pc := 1027) (As := [.int v5, .int v6]) (rest := []) ⟨hx, hb, hml, hown, hts⟩ (c_X12_draw l D c o g N hv) zc12 zV_L_108 rfl zd_X12_draw ⟨Nat.le_of_ble_eq_true rfl, Nat.le_of_ble_eq_true rfl⟩ hK hP hE hS hg hl.1 rfl (Nat.le_of_ble_eq_true rfl) ⟨Nat.le_of_ble_eq_true rfl, Nat.le_of_ble_eq_true rfl⟩ dL_law_1027 (fun H locs hP hS => ?_)
  refine lv_pop (pc := 1030) hx hb dL_law_1030 rfl ?_
  refine lv_goto (pc := 1031) (tgt := 1869) hx hb dL_law_1031 (by decide) ?_
  refine lv_iinc (pc := 1869) (v := x3 + 6) (lv' := [(3, .int (x3 + 6)), (0, .ref b), (1, .ref (o + 0)), (2, .ref (o + 218))]) hx hb dL_law_1869 hl (k := 0) rfl rfl (by decide) rfl (fun ls hl => ?_)
  refine lv_goto (pc := 1872) (tgt := 18) hx hb dL_law_1872 (by decide) ?_
  exact ih (x3 + 6, σ8) h _ _ ls hP hS (lv_sub hl [0, 1, 2, 3] rfl)
set_option maxHeartbeats 4000000 in
set_option maxRecDepth 100000 in
theorem wl_1034 {p : Program} {e : Env} {s : State} {m : MethodId} {below : List Frame} {meth : Method} {cd : Code} (l : Launch) {b L : Nat} {xs : Nat → Int32} {o : Nat} {D : va_G} {c : zC} {g : zEp} (ho : s.heap.size = o) (C0 : lw_At p s m meth cd b L xs) (hK : zKt D c s) (hE : zE g o s s.heap) (N : Nat) {ρ : Int32 × zS} (hρ : ρ.1 = 1) {ag : Int32 × zS → Option (Int32 × zS)} (ih : ∀ (t : Int32 × zS), ag t = some ρ → ∀ (H : Heap) (locs : List Loc) (ls : Array Slot), zP D c o (zabs o t.2) H → va_S (zA o) s.heap H locs → lv_has ls 4 [(3, .int t.1), (0, .ref b), (1, .ref (o + 0)), (2, .ref (o + 218))] → W p l e room_1 s m #[Value.ref b] below meth cd H locs 243 106038 (lw_Z below #[Value.ref b] s) (F0 m 18 ls [])) {x3 : Int32} {σ : zS} (h : J_L_law_1034 N L xs ag x3 σ = some ρ) (H : Heap) (locs : List Loc) (ls : Array Slot) (hP : zP D c o (zabs o σ) H) (hS : va_S (zA o) s.heap H locs) (hl : lv_has ls 4 [(3, .int x3), (0, .ref b), (1, .ref (o + 0)), (2, .ref (o + 218))]) : W p l e room_1 s m #[Value.ref b] below meth cd H locs 243 106038 (lw_Z below #[Value.ref b] s) (F0 m 1034 ls []) := by
  obtain ⟨hx, hb, hr, hml, hown, hts0, hX0, hbl, hlocks, hgv⟩ := C0
  have hts : ∀ w ∈ zWl, w.before #[Value.ref b] s = true := fun w hw => hts0 w (List.mem_filter.mp hw).1
  have hown : s.vm.findClass RL = some m.cls := hown
  have hbA : ¬ zA o b := by show ¬ o ≤ b; omega
  rw [J_L_law_1034.eq_1] at h
  refine lv_aload_n (pc := 1034) hx hb dL_law_1034 rfl (lv_at hl 2 rfl) ?_
  refine lv_aload_n (pc := 1035) hx hb dL_law_1035 rfl (lv_at hl 1 rfl) ?_
  refine lv_iload_n (pc := 1036) hx hb dL_law_1036 rfl (lv_at hl 0 rfl) ?_
  refine lv_iconst (pc := 1037) (v := 1) hx hb dL_law_1037 (by decide) ?_
  refine lv_iadd (pc := 1038) hx hb dL_law_1038 ?_
  obtain ⟨v1, hv, h⟩ := zl_some h
  refine xlX (pc := 1039) hx hb hX0 hbl hbA hS hv dL_law_1039 ?_
  refine lv_aload_n (pc := 1040) hx hb dL_law_1040 rfl (lv_at hl 1 rfl) ?_
  refine lv_iload_n (pc := 1041) hx hb dL_law_1041 rfl (lv_at hl 0 rfl) ?_
  refine lv_iconst (pc := 1042) (v := 2) hx hb dL_law_1042 (by decide) ?_
  refine lv_iadd (pc := 1043) hx hb dL_law_1043 ?_
  obtain ⟨v2, hv, h⟩ := zl_some h
  refine xlX (pc := 1044) hx hb hX0 hbl hbA hS hv dL_law_1044 ?_
  obtain ⟨_, hg, h⟩ := zl_some h
  obtain ⟨v3, σ4, hv, h⟩ := zb_some h
  refine xcallVi (pc := 1045) (As := [.int v1, .int v2]) (rest := []) ⟨hx, hb, hml, hown, hts⟩ (c_X11_alike l D c o g N hv) zc11 zV_L_109 rfl zd_X11_alike ⟨Nat.le_of_ble_eq_true rfl, Nat.le_of_ble_eq_true rfl⟩ hK hP hE hS hg hl.1 rfl (Nat.le_of_ble_eq_true rfl) ⟨Nat.le_of_ble_eq_true rfl, Nat.le_of_ble_eq_true rfl⟩ dL_law_1045 (fun H locs hP hS => ?_)
  refine lv_pop (pc := 1048) hx hb dL_law_1048 rfl ?_
  refine lv_aload_n (pc := 1049) hx hb dL_law_1049 rfl (lv_at hl 3 rfl) ?_
  refine lv_aload_n (pc := 1050) hx hb dL_law_1050 rfl (lv_at hl 1 rfl) ?_
  refine lv_iload_n (pc := 1051) hx hb dL_law_1051 rfl (lv_at hl 0 rfl) ?_
  refine lv_iconst (pc := 1052) (v := 1) hx hb dL_law_1052 (by decide) ?_
  refine lv_iadd (pc := 1053) hx hb dL_law_1053 ?_
  obtain ⟨v5, hv, h⟩ := zl_some h
  refine xlX (pc := 1054) hx hb hX0 hbl hbA hS hv dL_law_1054 ?_
  refine lv_aload_n (pc := 1055) hx hb dL_law_1055 rfl (lv_at hl 1 rfl) ?_
  refine lv_iload_n (pc := 1056) hx hb dL_law_1056 rfl (lv_at hl 0 rfl) ?_
  refine lv_iconst (pc := 1057) (v := 2) hx hb dL_law_1057 (by decide) ?_
  refine lv_iadd (pc := 1058) hx hb dL_law_1058 ?_
  obtain ⟨v6, hv, h⟩ := zl_some h
  refine xlX (pc := 1059) hx hb hX0 hbl hbA hS hv dL_law_1059 ?_
  obtain ⟨_, hg, h⟩ := zl_some h
  obtain ⟨v7, σ8, hv, h⟩ := zb_some h
  refine xcallVi (pc := 1060) (As := [.int v5, .int v6]) (rest := []) ⟨hx, hb, hml, hown, hts⟩ (c_X12_alike l D c o g N hv) zc12 zV_L_112 rfl zd_X12_alike ⟨Nat.le_of_ble_eq_true rfl, Nat.le_of_ble_eq_true rfl⟩ hK hP hE hS hg hl.1 rfl (Nat.le_of_ble_eq_true rfl) ⟨Nat.le_of_ble_eq_true rfl, Nat.le_of_ble_eq_true rfl⟩ dL_law_1060 (fun H locs hP hS => ?_)
  refine lv_pop (pc := 1063) hx hb dL_law_1063 rfl ?_
  refine lv_goto (pc := 1064) (tgt := 1869) hx hb dL_law_1064 (by decide) ?_
  refine lv_iinc (pc := 1869) (v := x3 + 6) (lv' := [(3, .int (x3 + 6)), (0, .ref b), (1, .ref (o + 0)), (2, .ref (o + 218))]) hx hb dL_law_1869 hl (k := 0) rfl rfl (by decide) rfl (fun ls hl => ?_)
  refine lv_goto (pc := 1872) (tgt := 18) hx hb dL_law_1872 (by decide) ?_
  exact ih (x3 + 6, σ8) h _ _ ls hP hS (lv_sub hl [0, 1, 2, 3] rfl)
set_option maxHeartbeats 4000000 in
set_option maxRecDepth 100000 in
theorem wl_1067 {p : Program} {e : Env} {s : State} {m : MethodId} {below : List Frame} {meth : Method} {cd : Code} (l : Launch) {b L : Nat} {xs : Nat → Int32} {o : Nat} {D : va_G} {c : zC} {g : zEp} (ho : s.heap.size = o) (C0 : lw_At p s m meth cd b L xs) (hK : zKt D c s) (hE : zE g o s s.heap) (N : Nat) {ρ : Int32 × zS} (hρ : ρ.1 = 1) {ag : Int32 × zS → Option (Int32 × zS)} (ih : ∀ (t : Int32 × zS), ag t = some ρ → ∀ (H : Heap) (locs : List Loc) (ls : Array Slot), zP D c o (zabs o t.2) H → va_S (zA o) s.heap H locs → lv_has ls 4 [(3, .int t.1), (0, .ref b), (1, .ref (o + 0)), (2, .ref (o + 218))] → W p l e room_1 s m #[Value.ref b] below meth cd H locs 243 106038 (lw_Z below #[Value.ref b] s) (F0 m 18 ls [])) {x3 : Int32} {σ : zS} (h : J_L_law_1067 N L xs ag x3 σ = some ρ) (H : Heap) (locs : List Loc) (ls : Array Slot) (hP : zP D c o (zabs o σ) H) (hS : va_S (zA o) s.heap H locs) (hl : lv_has ls 4 [(3, .int x3), (0, .ref b), (1, .ref (o + 0)), (2, .ref (o + 218))]) : W p l e room_1 s m #[Value.ref b] below meth cd H locs 243 106038 (lw_Z below #[Value.ref b] s) (F0 m 1067 ls []) := by
  obtain ⟨hx, hb, hr, hml, hown, hts0, hX0, hbl, hlocks, hgv⟩ := C0
  have hts : ∀ w ∈ zWl, w.before #[Value.ref b] s = true := fun w hw => hts0 w (List.mem_filter.mp hw).1
  have hown : s.vm.findClass RL = some m.cls := hown
  have hbA : ¬ zA o b := by show ¬ o ≤ b; omega
  rw [J_L_law_1067.eq_1] at h
  refine lv_aload_n (pc := 1067) hx hb dL_law_1067 rfl (lv_at hl 2 rfl) ?_
  refine lv_aload_n (pc := 1068) hx hb dL_law_1068 rfl (lv_at hl 1 rfl) ?_
  refine lv_iload_n (pc := 1069) hx hb dL_law_1069 rfl (lv_at hl 0 rfl) ?_
  refine lv_iconst (pc := 1070) (v := 1) hx hb dL_law_1070 (by decide) ?_
  refine lv_iadd (pc := 1071) hx hb dL_law_1071 ?_
  obtain ⟨v1, hv, h⟩ := zl_some h
  refine xlX (pc := 1072) hx hb hX0 hbl hbA hS hv dL_law_1072 ?_
  refine lv_aload_n (pc := 1073) hx hb dL_law_1073 rfl (lv_at hl 1 rfl) ?_
  refine lv_iload_n (pc := 1074) hx hb dL_law_1074 rfl (lv_at hl 0 rfl) ?_
  refine lv_iconst (pc := 1075) (v := 2) hx hb dL_law_1075 (by decide) ?_
  refine lv_iadd (pc := 1076) hx hb dL_law_1076 ?_
  obtain ⟨v2, hv, h⟩ := zl_some h
  refine xlX (pc := 1077) hx hb hX0 hbl hbA hS hv dL_law_1077 ?_
  obtain ⟨_, hg, h⟩ := zl_some h
  obtain ⟨v3, σ4, hv, h⟩ := zb_some h
  refine xcallVi (pc := 1078) (As := [.int v1, .int v2]) (rest := []) ⟨hx, hb, hml, hown, hts⟩ (c_X11_differ l D c o g N hv) zc11 zV_L_113 rfl zd_X11_differ ⟨Nat.le_of_ble_eq_true rfl, Nat.le_of_ble_eq_true rfl⟩ hK hP hE hS hg hl.1 rfl (Nat.le_of_ble_eq_true rfl) ⟨Nat.le_of_ble_eq_true rfl, Nat.le_of_ble_eq_true rfl⟩ dL_law_1078 (fun H locs hP hS => ?_)
  refine lv_pop (pc := 1081) hx hb dL_law_1081 rfl ?_
  refine lv_aload_n (pc := 1082) hx hb dL_law_1082 rfl (lv_at hl 3 rfl) ?_
  refine lv_aload_n (pc := 1083) hx hb dL_law_1083 rfl (lv_at hl 1 rfl) ?_
  refine lv_iload_n (pc := 1084) hx hb dL_law_1084 rfl (lv_at hl 0 rfl) ?_
  refine lv_iconst (pc := 1085) (v := 1) hx hb dL_law_1085 (by decide) ?_
  refine lv_iadd (pc := 1086) hx hb dL_law_1086 ?_
  obtain ⟨v5, hv, h⟩ := zl_some h
  refine xlX (pc := 1087) hx hb hX0 hbl hbA hS hv dL_law_1087 ?_
  refine lv_aload_n (pc := 1088) hx hb dL_law_1088 rfl (lv_at hl 1 rfl) ?_
  refine lv_iload_n (pc := 1089) hx hb dL_law_1089 rfl (lv_at hl 0 rfl) ?_
  refine lv_iconst (pc := 1090) (v := 2) hx hb dL_law_1090 (by decide) ?_
  refine lv_iadd (pc := 1091) hx hb dL_law_1091 ?_
  obtain ⟨v6, hv, h⟩ := zl_some h
  refine xlX (pc := 1092) hx hb hX0 hbl hbA hS hv dL_law_1092 ?_
  obtain ⟨_, hg, h⟩ := zl_some h
  obtain ⟨v7, σ8, hv, h⟩ := zb_some h
  refine xcallVi (pc := 1093) (As := [.int v5, .int v6]) (rest := []) ⟨hx, hb, hml, hown, hts⟩ (c_X12_differ l D c o g N hv) zc12 zV_L_116 rfl zd_X12_differ ⟨Nat.le_of_ble_eq_true rfl, Nat.le_of_ble_eq_true rfl⟩ hK hP hE hS hg hl.1 rfl (Nat.le_of_ble_eq_true rfl) ⟨Nat.le_of_ble_eq_true rfl, Nat.le_of_ble_eq_true rfl⟩ dL_law_1093 (fun H locs hP hS => ?_)
  refine lv_pop (pc := 1096) hx hb dL_law_1096 rfl ?_
  refine lv_goto (pc := 1097) (tgt := 1869) hx hb dL_law_1097 (by decide) ?_
  refine lv_iinc (pc := 1869) (v := x3 + 6) (lv' := [(3, .int (x3 + 6)), (0, .ref b), (1, .ref (o + 0)), (2, .ref (o + 218))]) hx hb dL_law_1869 hl (k := 0) rfl rfl (by decide) rfl (fun ls hl => ?_)
  refine lv_goto (pc := 1872) (tgt := 18) hx hb dL_law_1872 (by decide) ?_
  exact ih (x3 + 6, σ8) h _ _ ls hP hS (lv_sub hl [0, 1, 2, 3] rfl)
set_option maxHeartbeats 4000000 in
set_option maxRecDepth 100000 in
theorem wl_1100 {p : Program} {e : Env} {s : State} {m : MethodId} {below : List Frame} {meth : Method} {cd : Code} (l : Launch) {b L : Nat} {xs : Nat → Int32} {o : Nat} {D : va_G} {c : zC} {g : zEp} (ho : s.heap.size = o) (C0 : lw_At p s m meth cd b L xs) (hK : zKt D c s) (hE : zE g o s s.heap) (N : Nat) {ρ : Int32 × zS} (hρ : ρ.1 = 1) {ag : Int32 × zS → Option (Int32 × zS)} (ih : ∀ (t : Int32 × zS), ag t = some ρ → ∀ (H : Heap) (locs : List Loc) (ls : Array Slot), zP D c o (zabs o t.2) H → va_S (zA o) s.heap H locs → lv_has ls 4 [(3, .int t.1), (0, .ref b), (1, .ref (o + 0)), (2, .ref (o + 218))] → W p l e room_1 s m #[Value.ref b] below meth cd H locs 243 106038 (lw_Z below #[Value.ref b] s) (F0 m 18 ls [])) {x3 : Int32} {σ : zS} (h : J_L_law_1100 N L xs ag x3 σ = some ρ) (H : Heap) (locs : List Loc) (ls : Array Slot) (hP : zP D c o (zabs o σ) H) (hS : va_S (zA o) s.heap H locs) (hl : lv_has ls 4 [(3, .int x3), (0, .ref b), (1, .ref (o + 0)), (2, .ref (o + 218))]) : W p l e room_1 s m #[Value.ref b] below meth cd H locs 243 106038 (lw_Z below #[Value.ref b] s) (F0 m 1100 ls []) := by
  obtain ⟨hx, hb, hr, hml, hown, hts0, hX0, hbl, hlocks, hgv⟩ := C0
  have hts : ∀ w ∈ zWl, w.before #[Value.ref b] s = true := fun w hw => hts0 w (List.mem_filter.mp hw).1
  have hown : s.vm.findClass RL = some m.cls := hown
  have hbA : ¬ zA o b := by show ¬ o ≤ b; omega
  rw [J_L_law_1100.eq_1] at h
  refine lv_aload_n (pc := 1100) hx hb dL_law_1100 rfl (lv_at hl 2 rfl) ?_
  refine lv_aload_n (pc := 1101) hx hb dL_law_1101 rfl (lv_at hl 1 rfl) ?_
  refine lv_iload_n (pc := 1102) hx hb dL_law_1102 rfl (lv_at hl 0 rfl) ?_
  refine lv_iconst (pc := 1103) (v := 1) hx hb dL_law_1103 (by decide) ?_
  refine lv_iadd (pc := 1104) hx hb dL_law_1104 ?_
  obtain ⟨v1, hv, h⟩ := zl_some h
  refine xlX (pc := 1105) hx hb hX0 hbl hbA hS hv dL_law_1105 ?_
  refine lv_aload_n (pc := 1106) hx hb dL_law_1106 rfl (lv_at hl 1 rfl) ?_
  refine lv_iload_n (pc := 1107) hx hb dL_law_1107 rfl (lv_at hl 0 rfl) ?_
  refine lv_iconst (pc := 1108) (v := 2) hx hb dL_law_1108 (by decide) ?_
  refine lv_iadd (pc := 1109) hx hb dL_law_1109 ?_
  obtain ⟨v2, hv, h⟩ := zl_some h
  refine xlX (pc := 1110) hx hb hX0 hbl hbA hS hv dL_law_1110 ?_
  obtain ⟨_, hg, h⟩ := zl_some h
  obtain ⟨v3, σ4, hv, h⟩ := zb_some h
  refine xcallVi (pc := 1111) (As := [.int v1, .int v2]) (rest := []) ⟨hx, hb, hml, hown, hts⟩ (c_X11_within l D c o g N hv) zc11 zV_L_117 rfl zd_X11_within ⟨Nat.le_of_ble_eq_true rfl, Nat.le_of_ble_eq_true rfl⟩ hK hP hE hS hg hl.1 rfl (Nat.le_of_ble_eq_true rfl) ⟨Nat.le_of_ble_eq_true rfl, Nat.le_of_ble_eq_true rfl⟩ dL_law_1111 (fun H locs hP hS => ?_)
  refine lv_pop (pc := 1114) hx hb dL_law_1114 rfl ?_
  refine lv_aload_n (pc := 1115) hx hb dL_law_1115 rfl (lv_at hl 3 rfl) ?_
  refine lv_aload_n (pc := 1116) hx hb dL_law_1116 rfl (lv_at hl 1 rfl) ?_
  refine lv_iload_n (pc := 1117) hx hb dL_law_1117 rfl (lv_at hl 0 rfl) ?_
  refine lv_iconst (pc := 1118) (v := 1) hx hb dL_law_1118 (by decide) ?_
  refine lv_iadd (pc := 1119) hx hb dL_law_1119 ?_
  obtain ⟨v5, hv, h⟩ := zl_some h
  refine xlX (pc := 1120) hx hb hX0 hbl hbA hS hv dL_law_1120 ?_
  refine lv_aload_n (pc := 1121) hx hb dL_law_1121 rfl (lv_at hl 1 rfl) ?_
  refine lv_iload_n (pc := 1122) hx hb dL_law_1122 rfl (lv_at hl 0 rfl) ?_
  refine lv_iconst (pc := 1123) (v := 2) hx hb dL_law_1123 (by decide) ?_
  refine lv_iadd (pc := 1124) hx hb dL_law_1124 ?_
  obtain ⟨v6, hv, h⟩ := zl_some h
  refine xlX (pc := 1125) hx hb hX0 hbl hbA hS hv dL_law_1125 ?_
  obtain ⟨_, hg, h⟩ := zl_some h
  obtain ⟨v7, σ8, hv, h⟩ := zb_some h
  refine xcallVi (pc := 1126) (As := [.int v5, .int v6]) (rest := []) ⟨hx, hb, hml, hown, hts⟩ (c_X12_within l D c o g N hv) zc12 zV_L_120 rfl zd_X12_within ⟨Nat.le_of_ble_eq_true rfl, Nat.le_of_ble_eq_true rfl⟩ hK hP hE hS hg hl.1 rfl (Nat.le_of_ble_eq_true rfl) ⟨Nat.le_of_ble_eq_true rfl, Nat.le_of_ble_eq_true rfl⟩ dL_law_1126 (fun H locs hP hS => ?_)
  refine lv_pop (pc := 1129) hx hb dL_law_1129 rfl ?_
  refine lv_goto (pc := 1130) (tgt := 1869) hx hb dL_law_1130 (by decide) ?_
  refine lv_iinc (pc := 1869) (v := x3 + 6) (lv' := [(3, .int (x3 + 6)), (0, .ref b), (1, .ref (o + 0)), (2, .ref (o + 218))]) hx hb dL_law_1869 hl (k := 0) rfl rfl (by decide) rfl (fun ls hl => ?_)
  refine lv_goto (pc := 1872) (tgt := 18) hx hb dL_law_1872 (by decide) ?_
  exact ih (x3 + 6, σ8) h _ _ ls hP hS (lv_sub hl [0, 1, 2, 3] rfl)
set_option maxHeartbeats 4000000 in
set_option maxRecDepth 100000 in
theorem wl_1133 {p : Program} {e : Env} {s : State} {m : MethodId} {below : List Frame} {meth : Method} {cd : Code} (l : Launch) {b L : Nat} {xs : Nat → Int32} {o : Nat} {D : va_G} {c : zC} {g : zEp} (ho : s.heap.size = o) (C0 : lw_At p s m meth cd b L xs) (hK : zKt D c s) (hE : zE g o s s.heap) (N : Nat) {ρ : Int32 × zS} (hρ : ρ.1 = 1) {ag : Int32 × zS → Option (Int32 × zS)} (ih : ∀ (t : Int32 × zS), ag t = some ρ → ∀ (H : Heap) (locs : List Loc) (ls : Array Slot), zP D c o (zabs o t.2) H → va_S (zA o) s.heap H locs → lv_has ls 4 [(3, .int t.1), (0, .ref b), (1, .ref (o + 0)), (2, .ref (o + 218))] → W p l e room_1 s m #[Value.ref b] below meth cd H locs 243 106038 (lw_Z below #[Value.ref b] s) (F0 m 18 ls [])) {x3 : Int32} {σ : zS} (h : J_L_law_1133 N L xs ag x3 σ = some ρ) (H : Heap) (locs : List Loc) (ls : Array Slot) (hP : zP D c o (zabs o σ) H) (hS : va_S (zA o) s.heap H locs) (hl : lv_has ls 4 [(3, .int x3), (0, .ref b), (1, .ref (o + 0)), (2, .ref (o + 218))]) : W p l e room_1 s m #[Value.ref b] below meth cd H locs 243 106038 (lw_Z below #[Value.ref b] s) (F0 m 1133 ls []) := by
  obtain ⟨hx, hb, hr, hml, hown, hts0, hX0, hbl, hlocks, hgv⟩ := C0
  have hts : ∀ w ∈ zWl, w.before #[Value.ref b] s = true := fun w hw => hts0 w (List.mem_filter.mp hw).1
  have hown : s.vm.findClass RL = some m.cls := hown
  have hbA : ¬ zA o b := by show ¬ o ≤ b; omega
  rw [J_L_law_1133.eq_1] at h
  refine lv_aload_n (pc := 1133) hx hb dL_law_1133 rfl (lv_at hl 2 rfl) ?_
  refine lv_aload_n (pc := 1134) hx hb dL_law_1134 rfl (lv_at hl 1 rfl) ?_
  refine lv_iload_n (pc := 1135) hx hb dL_law_1135 rfl (lv_at hl 0 rfl) ?_
  refine lv_iconst (pc := 1136) (v := 1) hx hb dL_law_1136 (by decide) ?_
  refine lv_iadd (pc := 1137) hx hb dL_law_1137 ?_
  obtain ⟨v1, hv, h⟩ := zl_some h
  refine xlX (pc := 1138) hx hb hX0 hbl hbA hS hv dL_law_1138 ?_
  refine lv_aload_n (pc := 1139) hx hb dL_law_1139 rfl (lv_at hl 1 rfl) ?_
  refine lv_iload_n (pc := 1140) hx hb dL_law_1140 rfl (lv_at hl 0 rfl) ?_
  refine lv_iconst (pc := 1141) (v := 2) hx hb dL_law_1141 (by decide) ?_
  refine lv_iadd (pc := 1142) hx hb dL_law_1142 ?_
  obtain ⟨v2, hv, h⟩ := zl_some h
  refine xlX (pc := 1143) hx hb hX0 hbl hbA hS hv dL_law_1143 ?_
  obtain ⟨_, hg, h⟩ := zl_some h
  obtain ⟨v3, σ4, hv, h⟩ := zb_some h
  refine xcallVi (pc := 1144) (As := [.int v1, .int v2]) (rest := []) ⟨hx, hb, hml, hown, hts⟩ (c_X11_dual l D c o g N hv) zc11 zV_L_121 rfl zd_X11_dual ⟨Nat.le_of_ble_eq_true rfl, Nat.le_of_ble_eq_true rfl⟩ hK hP hE hS hg hl.1 rfl (Nat.le_of_ble_eq_true rfl) ⟨Nat.le_of_ble_eq_true rfl, Nat.le_of_ble_eq_true rfl⟩ dL_law_1144 (fun H locs hP hS => ?_)
  refine lv_pop (pc := 1147) hx hb dL_law_1147 rfl ?_
  refine lv_aload_n (pc := 1148) hx hb dL_law_1148 rfl (lv_at hl 3 rfl) ?_
  refine lv_aload_n (pc := 1149) hx hb dL_law_1149 rfl (lv_at hl 1 rfl) ?_
  refine lv_iload_n (pc := 1150) hx hb dL_law_1150 rfl (lv_at hl 0 rfl) ?_
  refine lv_iconst (pc := 1151) (v := 1) hx hb dL_law_1151 (by decide) ?_
  refine lv_iadd (pc := 1152) hx hb dL_law_1152 ?_
  obtain ⟨v5, hv, h⟩ := zl_some h
  refine xlX (pc := 1153) hx hb hX0 hbl hbA hS hv dL_law_1153 ?_
  refine lv_aload_n (pc := 1154) hx hb dL_law_1154 rfl (lv_at hl 1 rfl) ?_
  refine lv_iload_n (pc := 1155) hx hb dL_law_1155 rfl (lv_at hl 0 rfl) ?_
  refine lv_iconst (pc := 1156) (v := 2) hx hb dL_law_1156 (by decide) ?_
  refine lv_iadd (pc := 1157) hx hb dL_law_1157 ?_
  obtain ⟨v6, hv, h⟩ := zl_some h
  refine xlX (pc := 1158) hx hb hX0 hbl hbA hS hv dL_law_1158 ?_
  obtain ⟨_, hg, h⟩ := zl_some h
  obtain ⟨v7, σ8, hv, h⟩ := zb_some h
  refine xcallVi (pc := 1159) (As := [.int v5, .int v6]) (rest := []) ⟨hx, hb, hml, hown, hts⟩ (c_X12_dual l D c o g N hv) zc12 zV_L_124 rfl zd_X12_dual ⟨Nat.le_of_ble_eq_true rfl, Nat.le_of_ble_eq_true rfl⟩ hK hP hE hS hg hl.1 rfl (Nat.le_of_ble_eq_true rfl) ⟨Nat.le_of_ble_eq_true rfl, Nat.le_of_ble_eq_true rfl⟩ dL_law_1159 (fun H locs hP hS => ?_)
  refine lv_pop (pc := 1162) hx hb dL_law_1162 rfl ?_
  refine lv_goto (pc := 1163) (tgt := 1869) hx hb dL_law_1163 (by decide) ?_
  refine lv_iinc (pc := 1869) (v := x3 + 6) (lv' := [(3, .int (x3 + 6)), (0, .ref b), (1, .ref (o + 0)), (2, .ref (o + 218))]) hx hb dL_law_1869 hl (k := 0) rfl rfl (by decide) rfl (fun ls hl => ?_)
  refine lv_goto (pc := 1872) (tgt := 18) hx hb dL_law_1872 (by decide) ?_
  exact ih (x3 + 6, σ8) h _ _ ls hP hS (lv_sub hl [0, 1, 2, 3] rfl)
set_option maxHeartbeats 4000000 in
set_option maxRecDepth 100000 in
theorem wl_1166 {p : Program} {e : Env} {s : State} {m : MethodId} {below : List Frame} {meth : Method} {cd : Code} (l : Launch) {b L : Nat} {xs : Nat → Int32} {o : Nat} {D : va_G} {c : zC} {g : zEp} (ho : s.heap.size = o) (C0 : lw_At p s m meth cd b L xs) (hK : zKt D c s) (hE : zE g o s s.heap) (N : Nat) {ρ : Int32 × zS} (hρ : ρ.1 = 1) {ag : Int32 × zS → Option (Int32 × zS)} (ih : ∀ (t : Int32 × zS), ag t = some ρ → ∀ (H : Heap) (locs : List Loc) (ls : Array Slot), zP D c o (zabs o t.2) H → va_S (zA o) s.heap H locs → lv_has ls 4 [(3, .int t.1), (0, .ref b), (1, .ref (o + 0)), (2, .ref (o + 218))] → W p l e room_1 s m #[Value.ref b] below meth cd H locs 243 106038 (lw_Z below #[Value.ref b] s) (F0 m 18 ls [])) {x3 : Int32} {σ : zS} (h : J_L_law_1166 N L xs ag x3 σ = some ρ) (H : Heap) (locs : List Loc) (ls : Array Slot) (hP : zP D c o (zabs o σ) H) (hS : va_S (zA o) s.heap H locs) (hl : lv_has ls 4 [(3, .int x3), (0, .ref b), (1, .ref (o + 0)), (2, .ref (o + 218))]) : W p l e room_1 s m #[Value.ref b] below meth cd H locs 243 106038 (lw_Z below #[Value.ref b] s) (F0 m 1166 ls []) := by
  obtain ⟨hx, hb, hr, hml, hown, hts0, hX0, hbl, hlocks, hgv⟩ := C0
  have hts : ∀ w ∈ zWl, w.before #[Value.ref b] s = true := fun w hw => hts0 w (List.mem_filter.mp hw).1
  have hown : s.vm.findClass RL = some m.cls := hown
  have hbA : ¬ zA o b := by show ¬ o ≤ b; omega
  rw [J_L_law_1166.eq_1] at h
  refine lv_aload_n (pc := 1166) hx hb dL_law_1166 rfl (lv_at hl 2 rfl) ?_
  refine lv_aload_n (pc := 1167) hx hb dL_law_1167 rfl (lv_at hl 1 rfl) ?_
  refine lv_iload_n (pc := 1168) hx hb dL_law_1168 rfl (lv_at hl 0 rfl) ?_
  refine lv_iconst (pc := 1169) (v := 1) hx hb dL_law_1169 (by decide) ?_
  refine lv_iadd (pc := 1170) hx hb dL_law_1170 ?_
  obtain ⟨v1, hv, h⟩ := zl_some h
  refine xlX (pc := 1171) hx hb hX0 hbl hbA hS hv dL_law_1171 ?_
  refine lv_aload_n (pc := 1172) hx hb dL_law_1172 rfl (lv_at hl 1 rfl) ?_
  refine lv_iload_n (pc := 1173) hx hb dL_law_1173 rfl (lv_at hl 0 rfl) ?_
  refine lv_iconst (pc := 1174) (v := 2) hx hb dL_law_1174 (by decide) ?_
  refine lv_iadd (pc := 1175) hx hb dL_law_1175 ?_
  obtain ⟨v2, hv, h⟩ := zl_some h
  refine xlX (pc := 1176) hx hb hX0 hbl hbA hS hv dL_law_1176 ?_
  obtain ⟨_, hg, h⟩ := zl_some h
  obtain ⟨v3, σ4, hv, h⟩ := zb_some h
  refine xcallVi (pc := 1177) (As := [.int v1, .int v2]) (rest := []) ⟨hx, hb, hml, hown, hts⟩ (c_X11_apart l D c o g N hv) zc11 zV_L_125 rfl zd_X11_apart ⟨Nat.le_of_ble_eq_true rfl, Nat.le_of_ble_eq_true rfl⟩ hK hP hE hS hg hl.1 rfl (Nat.le_of_ble_eq_true rfl) ⟨Nat.le_of_ble_eq_true rfl, Nat.le_of_ble_eq_true rfl⟩ dL_law_1177 (fun H locs hP hS => ?_)
  refine lv_aload_n (pc := 1180) hx hb dL_law_1180 rfl (lv_at hl 3 rfl) ?_
  refine lv_aload_n (pc := 1181) hx hb dL_law_1181 rfl (lv_at hl 1 rfl) ?_
  refine lv_iload_n (pc := 1182) hx hb dL_law_1182 rfl (lv_at hl 0 rfl) ?_
  refine lv_iconst (pc := 1183) (v := 1) hx hb dL_law_1183 (by decide) ?_
  refine lv_iadd (pc := 1184) hx hb dL_law_1184 ?_
  obtain ⟨v5, hv, h⟩ := zl_some h
  refine xlX (pc := 1185) hx hb hX0 hbl hbA hS hv dL_law_1185 ?_
  refine lv_aload_n (pc := 1186) hx hb dL_law_1186 rfl (lv_at hl 1 rfl) ?_
  refine lv_iload_n (pc := 1187) hx hb dL_law_1187 rfl (lv_at hl 0 rfl) ?_
  refine lv_iconst (pc := 1188) (v := 2) hx hb dL_law_1188 (by decide) ?_
  refine lv_iadd (pc := 1189) hx hb dL_law_1189 ?_
  obtain ⟨v6, hv, h⟩ := zl_some h
  refine xlX (pc := 1190) hx hb hX0 hbl hbA hS hv dL_law_1190 ?_
  obtain ⟨_, hg, h⟩ := zl_some h
  obtain ⟨v7, σ8, hv, h⟩ := zb_some h
  refine xcallVi (pc := 1191) (As := [.int v5, .int v6]) (rest := [.int v3]) ⟨hx, hb, hml, hown, hts⟩ (c_X12_apart l D c o g N hv) zc12 zV_L_128 rfl zd_X12_apart ⟨Nat.le_of_ble_eq_true rfl, Nat.le_of_ble_eq_true rfl⟩ hK hP hE hS hg hl.1 rfl (Nat.le_of_ble_eq_true rfl) ⟨Nat.le_of_ble_eq_true rfl, Nat.le_of_ble_eq_true rfl⟩ dL_law_1191 (fun H locs hP hS => ?_)
  refine lv_icmp_eq (pc := 1194) (tgt := 1869) hx hb dL_law_1194 (by decide) (fun c1 => ?_) (fun c1 => ?_)
  · rw [if_pos c1] at h
    refine lv_iinc (pc := 1869) (v := x3 + 6) (lv' := [(3, .int (x3 + 6)), (0, .ref b), (1, .ref (o + 0)), (2, .ref (o + 218))]) hx hb dL_law_1869 hl (k := 0) rfl rfl (by decide) rfl (fun ls hl => ?_)
    refine lv_goto (pc := 1872) (tgt := 18) hx hb dL_law_1872 (by decide) ?_
    exact ih (x3 + 6, σ8) h _ _ ls hP hS (lv_sub hl [0, 1, 2, 3] rfl)
  · rw [if_neg c1] at h
    refine lv_iconst (pc := 1197) (v := 0) hx hb dL_law_1197 (by decide) ?_
    exact xlret (pc := 1198) ho hx hb hr hlocks hS hρ h dL_law_1198
set_option maxHeartbeats 4000000 in
set_option maxRecDepth 100000 in
theorem wl_1199 {p : Program} {e : Env} {s : State} {m : MethodId} {below : List Frame} {meth : Method} {cd : Code} (l : Launch) {b L : Nat} {xs : Nat → Int32} {o : Nat} {D : va_G} {c : zC} {g : zEp} (ho : s.heap.size = o) (C0 : lw_At p s m meth cd b L xs) (hK : zKt D c s) (hE : zE g o s s.heap) (N : Nat) {ρ : Int32 × zS} (hρ : ρ.1 = 1) {ag : Int32 × zS → Option (Int32 × zS)} (ih : ∀ (t : Int32 × zS), ag t = some ρ → ∀ (H : Heap) (locs : List Loc) (ls : Array Slot), zP D c o (zabs o t.2) H → va_S (zA o) s.heap H locs → lv_has ls 4 [(3, .int t.1), (0, .ref b), (1, .ref (o + 0)), (2, .ref (o + 218))] → W p l e room_1 s m #[Value.ref b] below meth cd H locs 243 106038 (lw_Z below #[Value.ref b] s) (F0 m 18 ls [])) {x3 : Int32} {σ : zS} (h : J_L_law_1199 N L xs ag x3 σ = some ρ) (H : Heap) (locs : List Loc) (ls : Array Slot) (hP : zP D c o (zabs o σ) H) (hS : va_S (zA o) s.heap H locs) (hl : lv_has ls 4 [(3, .int x3), (0, .ref b), (1, .ref (o + 0)), (2, .ref (o + 218))]) : W p l e room_1 s m #[Value.ref b] below meth cd H locs 243 106038 (lw_Z below #[Value.ref b] s) (F0 m 1199 ls []) := by
  obtain ⟨hx, hb, hr, hml, hown, hts0, hX0, hbl, hlocks, hgv⟩ := C0
  have hts : ∀ w ∈ zWl, w.before #[Value.ref b] s = true := fun w hw => hts0 w (List.mem_filter.mp hw).1
  have hown : s.vm.findClass RL = some m.cls := hown
  have hbA : ¬ zA o b := by show ¬ o ≤ b; omega
  rw [J_L_law_1199.eq_1] at h
  refine lv_aload_n (pc := 1199) hx hb dL_law_1199 rfl (lv_at hl 2 rfl) ?_
  refine lv_aload_n (pc := 1200) hx hb dL_law_1200 rfl (lv_at hl 1 rfl) ?_
  refine lv_iload_n (pc := 1201) hx hb dL_law_1201 rfl (lv_at hl 0 rfl) ?_
  refine lv_iconst (pc := 1202) (v := 1) hx hb dL_law_1202 (by decide) ?_
  refine lv_iadd (pc := 1203) hx hb dL_law_1203 ?_
  obtain ⟨v1, hv, h⟩ := zl_some h
  refine xlX (pc := 1204) hx hb hX0 hbl hbA hS hv dL_law_1204 ?_
  refine lv_aload_n (pc := 1205) hx hb dL_law_1205 rfl (lv_at hl 1 rfl) ?_
  refine lv_iload_n (pc := 1206) hx hb dL_law_1206 rfl (lv_at hl 0 rfl) ?_
  refine lv_iconst (pc := 1207) (v := 2) hx hb dL_law_1207 (by decide) ?_
  refine lv_iadd (pc := 1208) hx hb dL_law_1208 ?_
  obtain ⟨v2, hv, h⟩ := zl_some h
  refine xlX (pc := 1209) hx hb hX0 hbl hbA hS hv dL_law_1209 ?_
  obtain ⟨_, hg, h⟩ := zl_some h
  obtain ⟨v3, σ4, hv, h⟩ := zb_some h
  refine xcallVi (pc := 1210) (As := [.int v1, .int v2]) (rest := []) ⟨hx, hb, hml, hown, hts⟩ (c_X11_packs l D c o g N hv) zc11 zV_L_129 rfl zd_X11_packs ⟨Nat.le_of_ble_eq_true rfl, Nat.le_of_ble_eq_true rfl⟩ hK hP hE hS hg hl.1 rfl (Nat.le_of_ble_eq_true rfl) ⟨Nat.le_of_ble_eq_true rfl, Nat.le_of_ble_eq_true rfl⟩ dL_law_1210 (fun H locs hP hS => ?_)
  refine lv_pop (pc := 1213) hx hb dL_law_1213 rfl ?_
  refine lv_aload_n (pc := 1214) hx hb dL_law_1214 rfl (lv_at hl 3 rfl) ?_
  refine lv_aload_n (pc := 1215) hx hb dL_law_1215 rfl (lv_at hl 1 rfl) ?_
  refine lv_iload_n (pc := 1216) hx hb dL_law_1216 rfl (lv_at hl 0 rfl) ?_
  refine lv_iconst (pc := 1217) (v := 1) hx hb dL_law_1217 (by decide) ?_
  refine lv_iadd (pc := 1218) hx hb dL_law_1218 ?_
  obtain ⟨v5, hv, h⟩ := zl_some h
  refine xlX (pc := 1219) hx hb hX0 hbl hbA hS hv dL_law_1219 ?_
  refine lv_aload_n (pc := 1220) hx hb dL_law_1220 rfl (lv_at hl 1 rfl) ?_
  refine lv_iload_n (pc := 1221) hx hb dL_law_1221 rfl (lv_at hl 0 rfl) ?_
  refine lv_iconst (pc := 1222) (v := 2) hx hb dL_law_1222 (by decide) ?_
  refine lv_iadd (pc := 1223) hx hb dL_law_1223 ?_
  obtain ⟨v6, hv, h⟩ := zl_some h
  refine xlX (pc := 1224) hx hb hX0 hbl hbA hS hv dL_law_1224 ?_
  obtain ⟨_, hg, h⟩ := zl_some h
  obtain ⟨v7, σ8, hv, h⟩ := zb_some h
  refine xcallVi (pc := 1225) (As := [.int v5, .int v6]) (rest := []) ⟨hx, hb, hml, hown, hts⟩ (c_X12_packs l D c o g N hv) zc12 zV_L_132 rfl zd_X12_packs ⟨Nat.le_of_ble_eq_true rfl, Nat.le_of_ble_eq_true rfl⟩ hK hP hE hS hg hl.1 rfl (Nat.le_of_ble_eq_true rfl) ⟨Nat.le_of_ble_eq_true rfl, Nat.le_of_ble_eq_true rfl⟩ dL_law_1225 (fun H locs hP hS => ?_)
  refine lv_pop (pc := 1228) hx hb dL_law_1228 rfl ?_
  refine lv_goto (pc := 1229) (tgt := 1869) hx hb dL_law_1229 (by decide) ?_
  refine lv_iinc (pc := 1869) (v := x3 + 6) (lv' := [(3, .int (x3 + 6)), (0, .ref b), (1, .ref (o + 0)), (2, .ref (o + 218))]) hx hb dL_law_1869 hl (k := 0) rfl rfl (by decide) rfl (fun ls hl => ?_)
  refine lv_goto (pc := 1872) (tgt := 18) hx hb dL_law_1872 (by decide) ?_
  exact ih (x3 + 6, σ8) h _ _ ls hP hS (lv_sub hl [0, 1, 2, 3] rfl)
set_option maxHeartbeats 4000000 in
set_option maxRecDepth 100000 in
theorem wl_1232 {p : Program} {e : Env} {s : State} {m : MethodId} {below : List Frame} {meth : Method} {cd : Code} (l : Launch) {b L : Nat} {xs : Nat → Int32} {o : Nat} {D : va_G} {c : zC} {g : zEp} (ho : s.heap.size = o) (C0 : lw_At p s m meth cd b L xs) (hK : zKt D c s) (hE : zE g o s s.heap) (N : Nat) {ρ : Int32 × zS} (hρ : ρ.1 = 1) {ag : Int32 × zS → Option (Int32 × zS)} (ih : ∀ (t : Int32 × zS), ag t = some ρ → ∀ (H : Heap) (locs : List Loc) (ls : Array Slot), zP D c o (zabs o t.2) H → va_S (zA o) s.heap H locs → lv_has ls 4 [(3, .int t.1), (0, .ref b), (1, .ref (o + 0)), (2, .ref (o + 218))] → W p l e room_1 s m #[Value.ref b] below meth cd H locs 243 106038 (lw_Z below #[Value.ref b] s) (F0 m 18 ls [])) {x3 : Int32} {σ : zS} (h : J_L_law_1232 N L xs ag x3 σ = some ρ) (H : Heap) (locs : List Loc) (ls : Array Slot) (hP : zP D c o (zabs o σ) H) (hS : va_S (zA o) s.heap H locs) (hl : lv_has ls 4 [(3, .int x3), (0, .ref b), (1, .ref (o + 0)), (2, .ref (o + 218))]) : W p l e room_1 s m #[Value.ref b] below meth cd H locs 243 106038 (lw_Z below #[Value.ref b] s) (F0 m 1232 ls []) := by
  obtain ⟨hx, hb, hr, hml, hown, hts0, hX0, hbl, hlocks, hgv⟩ := C0
  have hts : ∀ w ∈ zWl, w.before #[Value.ref b] s = true := fun w hw => hts0 w (List.mem_filter.mp hw).1
  have hown : s.vm.findClass RL = some m.cls := hown
  have hbA : ¬ zA o b := by show ¬ o ≤ b; omega
  rw [J_L_law_1232.eq_1] at h
  refine lv_aload_n (pc := 1232) hx hb dL_law_1232 rfl (lv_at hl 2 rfl) ?_
  refine lv_aload_n (pc := 1233) hx hb dL_law_1233 rfl (lv_at hl 1 rfl) ?_
  refine lv_iload_n (pc := 1234) hx hb dL_law_1234 rfl (lv_at hl 0 rfl) ?_
  refine lv_iconst (pc := 1235) (v := 1) hx hb dL_law_1235 (by decide) ?_
  refine lv_iadd (pc := 1236) hx hb dL_law_1236 ?_
  obtain ⟨v1, hv, h⟩ := zl_some h
  refine xlX (pc := 1237) hx hb hX0 hbl hbA hS hv dL_law_1237 ?_
  obtain ⟨_, hg, h⟩ := zl_some h
  obtain ⟨v2, σ3, hv, h⟩ := zb_some h
  refine xcallVi (pc := 1238) (As := [.int v1]) (rest := []) ⟨hx, hb, hml, hown, hts⟩ (c_X11_nodes l D c o g N hv) zc11 zV_L_133 rfl zd_X11_nodes ⟨Nat.le_of_ble_eq_true rfl, Nat.le_of_ble_eq_true rfl⟩ hK hP hE hS hg hl.1 rfl (Nat.le_of_ble_eq_true rfl) ⟨Nat.le_of_ble_eq_true rfl, Nat.le_of_ble_eq_true rfl⟩ dL_law_1238 (fun H locs hP hS => ?_)
  refine lv_pop (pc := 1241) hx hb dL_law_1241 rfl ?_
  refine lv_aload_n (pc := 1242) hx hb dL_law_1242 rfl (lv_at hl 3 rfl) ?_
  refine lv_aload_n (pc := 1243) hx hb dL_law_1243 rfl (lv_at hl 1 rfl) ?_
  refine lv_iload_n (pc := 1244) hx hb dL_law_1244 rfl (lv_at hl 0 rfl) ?_
  refine lv_iconst (pc := 1245) (v := 1) hx hb dL_law_1245 (by decide) ?_
  refine lv_iadd (pc := 1246) hx hb dL_law_1246 ?_
  obtain ⟨v4, hv, h⟩ := zl_some h
  refine xlX (pc := 1247) hx hb hX0 hbl hbA hS hv dL_law_1247 ?_
  obtain ⟨_, hg, h⟩ := zl_some h
  obtain ⟨v5, σ6, hv, h⟩ := zb_some h
  refine xcallVi (pc := 1248) (As := [.int v4]) (rest := []) ⟨hx, hb, hml, hown, hts⟩ (c_X12_nodes l D c o g N hv) zc12 zV_L_136 rfl zd_X12_nodes ⟨Nat.le_of_ble_eq_true rfl, Nat.le_of_ble_eq_true rfl⟩ hK hP hE hS hg hl.1 rfl (Nat.le_of_ble_eq_true rfl) ⟨Nat.le_of_ble_eq_true rfl, Nat.le_of_ble_eq_true rfl⟩ dL_law_1248 (fun H locs hP hS => ?_)
  refine lv_pop (pc := 1251) hx hb dL_law_1251 rfl ?_
  refine lv_goto (pc := 1252) (tgt := 1869) hx hb dL_law_1252 (by decide) ?_
  refine lv_iinc (pc := 1869) (v := x3 + 6) (lv' := [(3, .int (x3 + 6)), (0, .ref b), (1, .ref (o + 0)), (2, .ref (o + 218))]) hx hb dL_law_1869 hl (k := 0) rfl rfl (by decide) rfl (fun ls hl => ?_)
  refine lv_goto (pc := 1872) (tgt := 18) hx hb dL_law_1872 (by decide) ?_
  exact ih (x3 + 6, σ6) h _ _ ls hP hS (lv_sub hl [0, 1, 2, 3] rfl)
set_option maxHeartbeats 4000000 in
set_option maxRecDepth 100000 in
theorem wl_1255 {p : Program} {e : Env} {s : State} {m : MethodId} {below : List Frame} {meth : Method} {cd : Code} (l : Launch) {b L : Nat} {xs : Nat → Int32} {o : Nat} {D : va_G} {c : zC} {g : zEp} (ho : s.heap.size = o) (C0 : lw_At p s m meth cd b L xs) (hK : zKt D c s) (hE : zE g o s s.heap) (N : Nat) {ρ : Int32 × zS} (hρ : ρ.1 = 1) {ag : Int32 × zS → Option (Int32 × zS)} (ih : ∀ (t : Int32 × zS), ag t = some ρ → ∀ (H : Heap) (locs : List Loc) (ls : Array Slot), zP D c o (zabs o t.2) H → va_S (zA o) s.heap H locs → lv_has ls 4 [(3, .int t.1), (0, .ref b), (1, .ref (o + 0)), (2, .ref (o + 218))] → W p l e room_1 s m #[Value.ref b] below meth cd H locs 243 106038 (lw_Z below #[Value.ref b] s) (F0 m 18 ls [])) {x3 : Int32} {σ : zS} (h : J_L_law_1255 N L xs ag x3 σ = some ρ) (H : Heap) (locs : List Loc) (ls : Array Slot) (hP : zP D c o (zabs o σ) H) (hS : va_S (zA o) s.heap H locs) (hl : lv_has ls 4 [(3, .int x3), (0, .ref b), (1, .ref (o + 0)), (2, .ref (o + 218))]) : W p l e room_1 s m #[Value.ref b] below meth cd H locs 243 106038 (lw_Z below #[Value.ref b] s) (F0 m 1255 ls []) := by
  obtain ⟨hx, hb, hr, hml, hown, hts0, hX0, hbl, hlocks, hgv⟩ := C0
  have hts : ∀ w ∈ zWl, w.before #[Value.ref b] s = true := fun w hw => hts0 w (List.mem_filter.mp hw).1
  have hown : s.vm.findClass RL = some m.cls := hown
  have hbA : ¬ zA o b := by show ¬ o ≤ b; omega
  rw [J_L_law_1255.eq_1] at h
  refine lv_aload_n (pc := 1255) hx hb dL_law_1255 rfl (lv_at hl 2 rfl) ?_
  obtain ⟨_, hg, h⟩ := zl_some h
  obtain ⟨v1, σ2, hv, h⟩ := zb_some h
  refine xcallVi (pc := 1256) (As := []) (rest := []) ⟨hx, hb, hml, hown, hts⟩ (c_X11_net l D c o g N hv) zc11 zV_L_137 rfl zd_X11_net ⟨Nat.le_of_ble_eq_true rfl, Nat.le_of_ble_eq_true rfl⟩ hK hP hE hS hg hl.1 rfl (Nat.le_of_ble_eq_true rfl) ⟨Nat.le_of_ble_eq_true rfl, Nat.le_of_ble_eq_true rfl⟩ dL_law_1256 (fun H locs hP hS => ?_)
  refine lv_pop (pc := 1259) hx hb dL_law_1259 rfl ?_
  refine lv_aload_n (pc := 1260) hx hb dL_law_1260 rfl (lv_at hl 3 rfl) ?_
  obtain ⟨_, hg, h⟩ := zl_some h
  obtain ⟨v3, σ4, hv, h⟩ := zb_some h
  refine xcallVi (pc := 1261) (As := []) (rest := []) ⟨hx, hb, hml, hown, hts⟩ (c_X12_net l D c o g N hv) zc12 zV_L_140 rfl zd_X12_net ⟨Nat.le_of_ble_eq_true rfl, Nat.le_of_ble_eq_true rfl⟩ hK hP hE hS hg hl.1 rfl (Nat.le_of_ble_eq_true rfl) ⟨Nat.le_of_ble_eq_true rfl, Nat.le_of_ble_eq_true rfl⟩ dL_law_1261 (fun H locs hP hS => ?_)
  refine lv_pop (pc := 1264) hx hb dL_law_1264 rfl ?_
  refine lv_goto (pc := 1265) (tgt := 1869) hx hb dL_law_1265 (by decide) ?_
  refine lv_iinc (pc := 1869) (v := x3 + 6) (lv' := [(3, .int (x3 + 6)), (0, .ref b), (1, .ref (o + 0)), (2, .ref (o + 218))]) hx hb dL_law_1869 hl (k := 0) rfl rfl (by decide) rfl (fun ls hl => ?_)
  refine lv_goto (pc := 1872) (tgt := 18) hx hb dL_law_1872 (by decide) ?_
  exact ih (x3 + 6, σ4) h _ _ ls hP hS (lv_sub hl [0, 1, 2, 3] rfl)
set_option maxHeartbeats 4000000 in
set_option maxRecDepth 100000 in
theorem wl_1268 {p : Program} {e : Env} {s : State} {m : MethodId} {below : List Frame} {meth : Method} {cd : Code} (l : Launch) {b L : Nat} {xs : Nat → Int32} {o : Nat} {D : va_G} {c : zC} {g : zEp} (ho : s.heap.size = o) (C0 : lw_At p s m meth cd b L xs) (hK : zKt D c s) (hE : zE g o s s.heap) (N : Nat) {ρ : Int32 × zS} (hρ : ρ.1 = 1) {ag : Int32 × zS → Option (Int32 × zS)} (ih : ∀ (t : Int32 × zS), ag t = some ρ → ∀ (H : Heap) (locs : List Loc) (ls : Array Slot), zP D c o (zabs o t.2) H → va_S (zA o) s.heap H locs → lv_has ls 4 [(3, .int t.1), (0, .ref b), (1, .ref (o + 0)), (2, .ref (o + 218))] → W p l e room_1 s m #[Value.ref b] below meth cd H locs 243 106038 (lw_Z below #[Value.ref b] s) (F0 m 18 ls [])) {x3 : Int32} {σ : zS} (h : J_L_law_1268 N L xs ag x3 σ = some ρ) (H : Heap) (locs : List Loc) (ls : Array Slot) (hP : zP D c o (zabs o σ) H) (hS : va_S (zA o) s.heap H locs) (hl : lv_has ls 4 [(3, .int x3), (0, .ref b), (1, .ref (o + 0)), (2, .ref (o + 218))]) : W p l e room_1 s m #[Value.ref b] below meth cd H locs 243 106038 (lw_Z below #[Value.ref b] s) (F0 m 1268 ls []) := by
  obtain ⟨hx, hb, hr, hml, hown, hts0, hX0, hbl, hlocks, hgv⟩ := C0
  have hts : ∀ w ∈ zWl, w.before #[Value.ref b] s = true := fun w hw => hts0 w (List.mem_filter.mp hw).1
  have hown : s.vm.findClass RL = some m.cls := hown
  have hbA : ¬ zA o b := by show ¬ o ≤ b; omega
  rw [J_L_law_1268.eq_1] at h
  refine lv_aload_n (pc := 1268) hx hb dL_law_1268 rfl (lv_at hl 2 rfl) ?_
  refine lv_aload_n (pc := 1269) hx hb dL_law_1269 rfl (lv_at hl 1 rfl) ?_
  refine lv_iload_n (pc := 1270) hx hb dL_law_1270 rfl (lv_at hl 0 rfl) ?_
  refine lv_iconst (pc := 1271) (v := 1) hx hb dL_law_1271 (by decide) ?_
  refine lv_iadd (pc := 1272) hx hb dL_law_1272 ?_
  obtain ⟨v1, hv, h⟩ := zl_some h
  refine xlX (pc := 1273) hx hb hX0 hbl hbA hS hv dL_law_1273 ?_
  refine lv_aload_n (pc := 1274) hx hb dL_law_1274 rfl (lv_at hl 1 rfl) ?_
  refine lv_iload_n (pc := 1275) hx hb dL_law_1275 rfl (lv_at hl 0 rfl) ?_
  refine lv_iconst (pc := 1276) (v := 2) hx hb dL_law_1276 (by decide) ?_
  refine lv_iadd (pc := 1277) hx hb dL_law_1277 ?_
  obtain ⟨v2, hv, h⟩ := zl_some h
  refine xlX (pc := 1278) hx hb hX0 hbl hbA hS hv dL_law_1278 ?_
  obtain ⟨_, hg, h⟩ := zl_some h
  obtain ⟨v3, σ4, hv, h⟩ := zb_some h
  refine xcallVi (pc := 1279) (As := [.int v1, .int v2]) (rest := []) ⟨hx, hb, hml, hown, hts⟩ (c_X11_wide l D c o g N hv) zc11 zV_L_141 rfl zd_X11_wide ⟨Nat.le_of_ble_eq_true rfl, Nat.le_of_ble_eq_true rfl⟩ hK hP hE hS hg hl.1 rfl (Nat.le_of_ble_eq_true rfl) ⟨Nat.le_of_ble_eq_true rfl, Nat.le_of_ble_eq_true rfl⟩ dL_law_1279 (fun H locs hP hS => ?_)
  refine lv_pop (pc := 1282) hx hb dL_law_1282 rfl ?_
  refine lv_aload_n (pc := 1283) hx hb dL_law_1283 rfl (lv_at hl 3 rfl) ?_
  refine lv_aload_n (pc := 1284) hx hb dL_law_1284 rfl (lv_at hl 1 rfl) ?_
  refine lv_iload_n (pc := 1285) hx hb dL_law_1285 rfl (lv_at hl 0 rfl) ?_
  refine lv_iconst (pc := 1286) (v := 1) hx hb dL_law_1286 (by decide) ?_
  refine lv_iadd (pc := 1287) hx hb dL_law_1287 ?_
  obtain ⟨v5, hv, h⟩ := zl_some h
  refine xlX (pc := 1288) hx hb hX0 hbl hbA hS hv dL_law_1288 ?_
  refine lv_aload_n (pc := 1289) hx hb dL_law_1289 rfl (lv_at hl 1 rfl) ?_
  refine lv_iload_n (pc := 1290) hx hb dL_law_1290 rfl (lv_at hl 0 rfl) ?_
  refine lv_iconst (pc := 1291) (v := 2) hx hb dL_law_1291 (by decide) ?_
  refine lv_iadd (pc := 1292) hx hb dL_law_1292 ?_
  obtain ⟨v6, hv, h⟩ := zl_some h
  refine xlX (pc := 1293) hx hb hX0 hbl hbA hS hv dL_law_1293 ?_
  obtain ⟨_, hg, h⟩ := zl_some h
  obtain ⟨v7, σ8, hv, h⟩ := zb_some h
  refine xcallVi (pc := 1294) (As := [.int v5, .int v6]) (rest := []) ⟨hx, hb, hml, hown, hts⟩ (c_X12_wide l D c o g N hv) zc12 zV_L_144 rfl zd_X12_wide ⟨Nat.le_of_ble_eq_true rfl, Nat.le_of_ble_eq_true rfl⟩ hK hP hE hS hg hl.1 rfl (Nat.le_of_ble_eq_true rfl) ⟨Nat.le_of_ble_eq_true rfl, Nat.le_of_ble_eq_true rfl⟩ dL_law_1294 (fun H locs hP hS => ?_)
  refine lv_pop (pc := 1297) hx hb dL_law_1297 rfl ?_
  refine lv_goto (pc := 1298) (tgt := 1869) hx hb dL_law_1298 (by decide) ?_
  refine lv_iinc (pc := 1869) (v := x3 + 6) (lv' := [(3, .int (x3 + 6)), (0, .ref b), (1, .ref (o + 0)), (2, .ref (o + 218))]) hx hb dL_law_1869 hl (k := 0) rfl rfl (by decide) rfl (fun ls hl => ?_)
  refine lv_goto (pc := 1872) (tgt := 18) hx hb dL_law_1872 (by decide) ?_
  exact ih (x3 + 6, σ8) h _ _ ls hP hS (lv_sub hl [0, 1, 2, 3] rfl)
set_option maxHeartbeats 4000000 in
set_option maxRecDepth 100000 in
theorem wl_1301 {p : Program} {e : Env} {s : State} {m : MethodId} {below : List Frame} {meth : Method} {cd : Code} (l : Launch) {b L : Nat} {xs : Nat → Int32} {o : Nat} {D : va_G} {c : zC} {g : zEp} (ho : s.heap.size = o) (C0 : lw_At p s m meth cd b L xs) (hK : zKt D c s) (hE : zE g o s s.heap) (N : Nat) {ρ : Int32 × zS} (hρ : ρ.1 = 1) {ag : Int32 × zS → Option (Int32 × zS)} (ih : ∀ (t : Int32 × zS), ag t = some ρ → ∀ (H : Heap) (locs : List Loc) (ls : Array Slot), zP D c o (zabs o t.2) H → va_S (zA o) s.heap H locs → lv_has ls 4 [(3, .int t.1), (0, .ref b), (1, .ref (o + 0)), (2, .ref (o + 218))] → W p l e room_1 s m #[Value.ref b] below meth cd H locs 243 106038 (lw_Z below #[Value.ref b] s) (F0 m 18 ls [])) {x3 : Int32} {σ : zS} (h : J_L_law_1301 N L xs ag x3 σ = some ρ) (H : Heap) (locs : List Loc) (ls : Array Slot) (hP : zP D c o (zabs o σ) H) (hS : va_S (zA o) s.heap H locs) (hl : lv_has ls 4 [(3, .int x3), (0, .ref b), (1, .ref (o + 0)), (2, .ref (o + 218))]) : W p l e room_1 s m #[Value.ref b] below meth cd H locs 243 106038 (lw_Z below #[Value.ref b] s) (F0 m 1301 ls []) := by
  obtain ⟨hx, hb, hr, hml, hown, hts0, hX0, hbl, hlocks, hgv⟩ := C0
  have hts : ∀ w ∈ zWl, w.before #[Value.ref b] s = true := fun w hw => hts0 w (List.mem_filter.mp hw).1
  have hown : s.vm.findClass RL = some m.cls := hown
  have hbA : ¬ zA o b := by show ¬ o ≤ b; omega
  rw [J_L_law_1301.eq_1] at h
  refine lv_aload_n (pc := 1301) hx hb dL_law_1301 rfl (lv_at hl 2 rfl) ?_
  refine lv_aload_n (pc := 1302) hx hb dL_law_1302 rfl (lv_at hl 1 rfl) ?_
  refine lv_iload_n (pc := 1303) hx hb dL_law_1303 rfl (lv_at hl 0 rfl) ?_
  refine lv_iconst (pc := 1304) (v := 1) hx hb dL_law_1304 (by decide) ?_
  refine lv_iadd (pc := 1305) hx hb dL_law_1305 ?_
  obtain ⟨v1, hv, h⟩ := zl_some h
  refine xlX (pc := 1306) hx hb hX0 hbl hbA hS hv dL_law_1306 ?_
  obtain ⟨_, hg, h⟩ := zl_some h
  obtain ⟨v2, σ3, hv, h⟩ := zb_some h
  refine xcallVi (pc := 1307) (As := [.int v1]) (rest := []) ⟨hx, hb, hml, hown, hts⟩ (c_X11_order l D c o g N hv) zc11 zV_L_145 rfl zd_X11_order ⟨Nat.le_of_ble_eq_true rfl, Nat.le_of_ble_eq_true rfl⟩ hK hP hE hS hg hl.1 rfl (Nat.le_of_ble_eq_true rfl) ⟨Nat.le_of_ble_eq_true rfl, Nat.le_of_ble_eq_true rfl⟩ dL_law_1307 (fun H locs hP hS => ?_)
  refine lv_pop (pc := 1310) hx hb dL_law_1310 rfl ?_
  refine lv_aload_n (pc := 1311) hx hb dL_law_1311 rfl (lv_at hl 3 rfl) ?_
  refine lv_aload_n (pc := 1312) hx hb dL_law_1312 rfl (lv_at hl 1 rfl) ?_
  refine lv_iload_n (pc := 1313) hx hb dL_law_1313 rfl (lv_at hl 0 rfl) ?_
  refine lv_iconst (pc := 1314) (v := 1) hx hb dL_law_1314 (by decide) ?_
  refine lv_iadd (pc := 1315) hx hb dL_law_1315 ?_
  obtain ⟨v4, hv, h⟩ := zl_some h
  refine xlX (pc := 1316) hx hb hX0 hbl hbA hS hv dL_law_1316 ?_
  obtain ⟨_, hg, h⟩ := zl_some h
  obtain ⟨v5, σ6, hv, h⟩ := zb_some h
  refine xcallVi (pc := 1317) (As := [.int v4]) (rest := []) ⟨hx, hb, hml, hown, hts⟩ (c_X12_order l D c o g N hv) zc12 zV_L_148 rfl zd_X12_order ⟨Nat.le_of_ble_eq_true rfl, Nat.le_of_ble_eq_true rfl⟩ hK hP hE hS hg hl.1 rfl (Nat.le_of_ble_eq_true rfl) ⟨Nat.le_of_ble_eq_true rfl, Nat.le_of_ble_eq_true rfl⟩ dL_law_1317 (fun H locs hP hS => ?_)
  refine lv_pop (pc := 1320) hx hb dL_law_1320 rfl ?_
  refine lv_goto (pc := 1321) (tgt := 1869) hx hb dL_law_1321 (by decide) ?_
  refine lv_iinc (pc := 1869) (v := x3 + 6) (lv' := [(3, .int (x3 + 6)), (0, .ref b), (1, .ref (o + 0)), (2, .ref (o + 218))]) hx hb dL_law_1869 hl (k := 0) rfl rfl (by decide) rfl (fun ls hl => ?_)
  refine lv_goto (pc := 1872) (tgt := 18) hx hb dL_law_1872 (by decide) ?_
  exact ih (x3 + 6, σ6) h _ _ ls hP hS (lv_sub hl [0, 1, 2, 3] rfl)
set_option maxHeartbeats 4000000 in
set_option maxRecDepth 100000 in
theorem wl_1324 {p : Program} {e : Env} {s : State} {m : MethodId} {below : List Frame} {meth : Method} {cd : Code} (l : Launch) {b L : Nat} {xs : Nat → Int32} {o : Nat} {D : va_G} {c : zC} {g : zEp} (ho : s.heap.size = o) (C0 : lw_At p s m meth cd b L xs) (hK : zKt D c s) (hE : zE g o s s.heap) (N : Nat) {ρ : Int32 × zS} (hρ : ρ.1 = 1) {ag : Int32 × zS → Option (Int32 × zS)} (ih : ∀ (t : Int32 × zS), ag t = some ρ → ∀ (H : Heap) (locs : List Loc) (ls : Array Slot), zP D c o (zabs o t.2) H → va_S (zA o) s.heap H locs → lv_has ls 4 [(3, .int t.1), (0, .ref b), (1, .ref (o + 0)), (2, .ref (o + 218))] → W p l e room_1 s m #[Value.ref b] below meth cd H locs 243 106038 (lw_Z below #[Value.ref b] s) (F0 m 18 ls [])) {x3 : Int32} {σ : zS} (h : J_L_law_1324 N L xs ag x3 σ = some ρ) (H : Heap) (locs : List Loc) (ls : Array Slot) (hP : zP D c o (zabs o σ) H) (hS : va_S (zA o) s.heap H locs) (hl : lv_has ls 4 [(3, .int x3), (0, .ref b), (1, .ref (o + 0)), (2, .ref (o + 218))]) : W p l e room_1 s m #[Value.ref b] below meth cd H locs 243 106038 (lw_Z below #[Value.ref b] s) (F0 m 1324 ls []) := by
  obtain ⟨hx, hb, hr, hml, hown, hts0, hX0, hbl, hlocks, hgv⟩ := C0
  have hts : ∀ w ∈ zWl, w.before #[Value.ref b] s = true := fun w hw => hts0 w (List.mem_filter.mp hw).1
  have hown : s.vm.findClass RL = some m.cls := hown
  have hbA : ¬ zA o b := by show ¬ o ≤ b; omega
  rw [J_L_law_1324.eq_1] at h
  refine lv_aload_n (pc := 1324) hx hb dL_law_1324 rfl (lv_at hl 2 rfl) ?_
  refine lv_aload_n (pc := 1325) hx hb dL_law_1325 rfl (lv_at hl 1 rfl) ?_
  refine lv_iload_n (pc := 1326) hx hb dL_law_1326 rfl (lv_at hl 0 rfl) ?_
  refine lv_iconst (pc := 1327) (v := 1) hx hb dL_law_1327 (by decide) ?_
  refine lv_iadd (pc := 1328) hx hb dL_law_1328 ?_
  obtain ⟨v1, hv, h⟩ := zl_some h
  refine xlX (pc := 1329) hx hb hX0 hbl hbA hS hv dL_law_1329 ?_
  obtain ⟨_, hg, h⟩ := zl_some h
  obtain ⟨v2, σ3, hv, h⟩ := zb_some h
  refine xcallVi (pc := 1330) (As := [.int v1]) (rest := []) ⟨hx, hb, hml, hown, hts⟩ (c_X11_swap l D c o g N hv) zc11 zV_L_149 rfl zd_X11_swap ⟨Nat.le_of_ble_eq_true rfl, Nat.le_of_ble_eq_true rfl⟩ hK hP hE hS hg hl.1 rfl (Nat.le_of_ble_eq_true rfl) ⟨Nat.le_of_ble_eq_true rfl, Nat.le_of_ble_eq_true rfl⟩ dL_law_1330 (fun H locs hP hS => ?_)
  refine lv_pop (pc := 1333) hx hb dL_law_1333 rfl ?_
  refine lv_aload_n (pc := 1334) hx hb dL_law_1334 rfl (lv_at hl 3 rfl) ?_
  refine lv_aload_n (pc := 1335) hx hb dL_law_1335 rfl (lv_at hl 1 rfl) ?_
  refine lv_iload_n (pc := 1336) hx hb dL_law_1336 rfl (lv_at hl 0 rfl) ?_
  refine lv_iconst (pc := 1337) (v := 1) hx hb dL_law_1337 (by decide) ?_
  refine lv_iadd (pc := 1338) hx hb dL_law_1338 ?_
  obtain ⟨v4, hv, h⟩ := zl_some h
  refine xlX (pc := 1339) hx hb hX0 hbl hbA hS hv dL_law_1339 ?_
  obtain ⟨_, hg, h⟩ := zl_some h
  obtain ⟨v5, σ6, hv, h⟩ := zb_some h
  refine xcallVi (pc := 1340) (As := [.int v4]) (rest := []) ⟨hx, hb, hml, hown, hts⟩ (c_X12_swap l D c o g N hv) zc12 zV_L_152 rfl zd_X12_swap ⟨Nat.le_of_ble_eq_true rfl, Nat.le_of_ble_eq_true rfl⟩ hK hP hE hS hg hl.1 rfl (Nat.le_of_ble_eq_true rfl) ⟨Nat.le_of_ble_eq_true rfl, Nat.le_of_ble_eq_true rfl⟩ dL_law_1340 (fun H locs hP hS => ?_)
  refine lv_pop (pc := 1343) hx hb dL_law_1343 rfl ?_
  refine lv_goto (pc := 1344) (tgt := 1869) hx hb dL_law_1344 (by decide) ?_
  refine lv_iinc (pc := 1869) (v := x3 + 6) (lv' := [(3, .int (x3 + 6)), (0, .ref b), (1, .ref (o + 0)), (2, .ref (o + 218))]) hx hb dL_law_1869 hl (k := 0) rfl rfl (by decide) rfl (fun ls hl => ?_)
  refine lv_goto (pc := 1872) (tgt := 18) hx hb dL_law_1872 (by decide) ?_
  exact ih (x3 + 6, σ6) h _ _ ls hP hS (lv_sub hl [0, 1, 2, 3] rfl)
set_option maxHeartbeats 4000000 in
set_option maxRecDepth 100000 in
theorem wl_1347 {p : Program} {e : Env} {s : State} {m : MethodId} {below : List Frame} {meth : Method} {cd : Code} (l : Launch) {b L : Nat} {xs : Nat → Int32} {o : Nat} {D : va_G} {c : zC} {g : zEp} (ho : s.heap.size = o) (C0 : lw_At p s m meth cd b L xs) (hK : zKt D c s) (hE : zE g o s s.heap) (N : Nat) {ρ : Int32 × zS} (hρ : ρ.1 = 1) {ag : Int32 × zS → Option (Int32 × zS)} (ih : ∀ (t : Int32 × zS), ag t = some ρ → ∀ (H : Heap) (locs : List Loc) (ls : Array Slot), zP D c o (zabs o t.2) H → va_S (zA o) s.heap H locs → lv_has ls 4 [(3, .int t.1), (0, .ref b), (1, .ref (o + 0)), (2, .ref (o + 218))] → W p l e room_1 s m #[Value.ref b] below meth cd H locs 243 106038 (lw_Z below #[Value.ref b] s) (F0 m 18 ls [])) {x3 : Int32} {σ : zS} (h : J_L_law_1347 N L xs ag x3 σ = some ρ) (H : Heap) (locs : List Loc) (ls : Array Slot) (hP : zP D c o (zabs o σ) H) (hS : va_S (zA o) s.heap H locs) (hl : lv_has ls 4 [(3, .int x3), (0, .ref b), (1, .ref (o + 0)), (2, .ref (o + 218))]) : W p l e room_1 s m #[Value.ref b] below meth cd H locs 243 106038 (lw_Z below #[Value.ref b] s) (F0 m 1347 ls []) := by
  obtain ⟨hx, hb, hr, hml, hown, hts0, hX0, hbl, hlocks, hgv⟩ := C0
  have hts : ∀ w ∈ zWl, w.before #[Value.ref b] s = true := fun w hw => hts0 w (List.mem_filter.mp hw).1
  have hown : s.vm.findClass RL = some m.cls := hown
  have hbA : ¬ zA o b := by show ¬ o ≤ b; omega
  rw [J_L_law_1347.eq_1] at h
  refine lv_aload_n (pc := 1347) hx hb dL_law_1347 rfl (lv_at hl 2 rfl) ?_
  refine lv_aload_n (pc := 1348) hx hb dL_law_1348 rfl (lv_at hl 1 rfl) ?_
  refine lv_iload_n (pc := 1349) hx hb dL_law_1349 rfl (lv_at hl 0 rfl) ?_
  refine lv_iconst (pc := 1350) (v := 1) hx hb dL_law_1350 (by decide) ?_
  refine lv_iadd (pc := 1351) hx hb dL_law_1351 ?_
  obtain ⟨v1, hv, h⟩ := zl_some h
  refine xlX (pc := 1352) hx hb hX0 hbl hbA hS hv dL_law_1352 ?_
  refine lv_aload_n (pc := 1353) hx hb dL_law_1353 rfl (lv_at hl 1 rfl) ?_
  refine lv_iload_n (pc := 1354) hx hb dL_law_1354 rfl (lv_at hl 0 rfl) ?_
  refine lv_iconst (pc := 1355) (v := 2) hx hb dL_law_1355 (by decide) ?_
  refine lv_iadd (pc := 1356) hx hb dL_law_1356 ?_
  obtain ⟨v2, hv, h⟩ := zl_some h
  refine xlX (pc := 1357) hx hb hX0 hbl hbA hS hv dL_law_1357 ?_
  obtain ⟨_, hg, h⟩ := zl_some h
  obtain ⟨v3, σ4, hv, h⟩ := zb_some h
  refine xcallVi (pc := 1358) (As := [.int v1, .int v2]) (rest := []) ⟨hx, hb, hml, hown, hts⟩ (c_X11_move l D c o g N hv) zc11 zV_L_153 rfl zd_X11_move ⟨Nat.le_of_ble_eq_true rfl, Nat.le_of_ble_eq_true rfl⟩ hK hP hE hS hg hl.1 rfl (Nat.le_of_ble_eq_true rfl) ⟨Nat.le_of_ble_eq_true rfl, Nat.le_of_ble_eq_true rfl⟩ dL_law_1358 (fun H locs hP hS => ?_)
  refine lv_pop (pc := 1361) hx hb dL_law_1361 rfl ?_
  refine lv_aload_n (pc := 1362) hx hb dL_law_1362 rfl (lv_at hl 3 rfl) ?_
  refine lv_aload_n (pc := 1363) hx hb dL_law_1363 rfl (lv_at hl 1 rfl) ?_
  refine lv_iload_n (pc := 1364) hx hb dL_law_1364 rfl (lv_at hl 0 rfl) ?_
  refine lv_iconst (pc := 1365) (v := 1) hx hb dL_law_1365 (by decide) ?_
  refine lv_iadd (pc := 1366) hx hb dL_law_1366 ?_
  obtain ⟨v5, hv, h⟩ := zl_some h
  refine xlX (pc := 1367) hx hb hX0 hbl hbA hS hv dL_law_1367 ?_
  refine lv_aload_n (pc := 1368) hx hb dL_law_1368 rfl (lv_at hl 1 rfl) ?_
  refine lv_iload_n (pc := 1369) hx hb dL_law_1369 rfl (lv_at hl 0 rfl) ?_
  refine lv_iconst (pc := 1370) (v := 2) hx hb dL_law_1370 (by decide) ?_
  refine lv_iadd (pc := 1371) hx hb dL_law_1371 ?_
  obtain ⟨v6, hv, h⟩ := zl_some h
  refine xlX (pc := 1372) hx hb hX0 hbl hbA hS hv dL_law_1372 ?_
  obtain ⟨_, hg, h⟩ := zl_some h
  obtain ⟨v7, σ8, hv, h⟩ := zb_some h
  refine xcallVi (pc := 1373) (As := [.int v5, .int v6]) (rest := []) ⟨hx, hb, hml, hown, hts⟩ (c_X12_move l D c o g N hv) zc12 zV_L_156 rfl zd_X12_move ⟨Nat.le_of_ble_eq_true rfl, Nat.le_of_ble_eq_true rfl⟩ hK hP hE hS hg hl.1 rfl (Nat.le_of_ble_eq_true rfl) ⟨Nat.le_of_ble_eq_true rfl, Nat.le_of_ble_eq_true rfl⟩ dL_law_1373 (fun H locs hP hS => ?_)
  refine lv_pop (pc := 1376) hx hb dL_law_1376 rfl ?_
  refine lv_goto (pc := 1377) (tgt := 1869) hx hb dL_law_1377 (by decide) ?_
  refine lv_iinc (pc := 1869) (v := x3 + 6) (lv' := [(3, .int (x3 + 6)), (0, .ref b), (1, .ref (o + 0)), (2, .ref (o + 218))]) hx hb dL_law_1869 hl (k := 0) rfl rfl (by decide) rfl (fun ls hl => ?_)
  refine lv_goto (pc := 1872) (tgt := 18) hx hb dL_law_1872 (by decide) ?_
  exact ih (x3 + 6, σ8) h _ _ ls hP hS (lv_sub hl [0, 1, 2, 3] rfl)
set_option maxHeartbeats 4000000 in
set_option maxRecDepth 100000 in
theorem wl_1380 {p : Program} {e : Env} {s : State} {m : MethodId} {below : List Frame} {meth : Method} {cd : Code} (l : Launch) {b L : Nat} {xs : Nat → Int32} {o : Nat} {D : va_G} {c : zC} {g : zEp} (ho : s.heap.size = o) (C0 : lw_At p s m meth cd b L xs) (hK : zKt D c s) (hE : zE g o s s.heap) (N : Nat) {ρ : Int32 × zS} (hρ : ρ.1 = 1) {ag : Int32 × zS → Option (Int32 × zS)} (ih : ∀ (t : Int32 × zS), ag t = some ρ → ∀ (H : Heap) (locs : List Loc) (ls : Array Slot), zP D c o (zabs o t.2) H → va_S (zA o) s.heap H locs → lv_has ls 4 [(3, .int t.1), (0, .ref b), (1, .ref (o + 0)), (2, .ref (o + 218))] → W p l e room_1 s m #[Value.ref b] below meth cd H locs 243 106038 (lw_Z below #[Value.ref b] s) (F0 m 18 ls [])) {x3 : Int32} {σ : zS} (h : J_L_law_1380 N L xs ag x3 σ = some ρ) (H : Heap) (locs : List Loc) (ls : Array Slot) (hP : zP D c o (zabs o σ) H) (hS : va_S (zA o) s.heap H locs) (hl : lv_has ls 4 [(3, .int x3), (0, .ref b), (1, .ref (o + 0)), (2, .ref (o + 218))]) : W p l e room_1 s m #[Value.ref b] below meth cd H locs 243 106038 (lw_Z below #[Value.ref b] s) (F0 m 1380 ls []) := by
  obtain ⟨hx, hb, hr, hml, hown, hts0, hX0, hbl, hlocks, hgv⟩ := C0
  have hts : ∀ w ∈ zWl, w.before #[Value.ref b] s = true := fun w hw => hts0 w (List.mem_filter.mp hw).1
  have hown : s.vm.findClass RL = some m.cls := hown
  have hbA : ¬ zA o b := by show ¬ o ≤ b; omega
  rw [J_L_law_1380.eq_1] at h
  refine lv_aload_n (pc := 1380) hx hb dL_law_1380 rfl (lv_at hl 2 rfl) ?_
  refine lv_aload_n (pc := 1381) hx hb dL_law_1381 rfl (lv_at hl 1 rfl) ?_
  refine lv_iload_n (pc := 1382) hx hb dL_law_1382 rfl (lv_at hl 0 rfl) ?_
  refine lv_iconst (pc := 1383) (v := 1) hx hb dL_law_1383 (by decide) ?_
  refine lv_iadd (pc := 1384) hx hb dL_law_1384 ?_
  obtain ⟨v1, hv, h⟩ := zl_some h
  refine xlX (pc := 1385) hx hb hX0 hbl hbA hS hv dL_law_1385 ?_
  refine lv_aload_n (pc := 1386) hx hb dL_law_1386 rfl (lv_at hl 1 rfl) ?_
  refine lv_iload_n (pc := 1387) hx hb dL_law_1387 rfl (lv_at hl 0 rfl) ?_
  refine lv_iconst (pc := 1388) (v := 2) hx hb dL_law_1388 (by decide) ?_
  refine lv_iadd (pc := 1389) hx hb dL_law_1389 ?_
  obtain ⟨v2, hv, h⟩ := zl_some h
  refine xlX (pc := 1390) hx hb hX0 hbl hbA hS hv dL_law_1390 ?_
  obtain ⟨_, hg, h⟩ := zl_some h
  obtain ⟨v3, σ4, hv, h⟩ := zb_some h
  refine xcallVi (pc := 1391) (As := [.int v1, .int v2]) (rest := []) ⟨hx, hb, hml, hown, hts⟩ (c_X11_best l D c o g N hv) zc11 zV_L_157 rfl zd_X11_best ⟨Nat.le_of_ble_eq_true rfl, Nat.le_of_ble_eq_true rfl⟩ hK hP hE hS hg hl.1 rfl (Nat.le_of_ble_eq_true rfl) ⟨Nat.le_of_ble_eq_true rfl, Nat.le_of_ble_eq_true rfl⟩ dL_law_1391 (fun H locs hP hS => ?_)
  refine lv_pop (pc := 1394) hx hb dL_law_1394 rfl ?_
  refine lv_aload_n (pc := 1395) hx hb dL_law_1395 rfl (lv_at hl 3 rfl) ?_
  refine lv_aload_n (pc := 1396) hx hb dL_law_1396 rfl (lv_at hl 1 rfl) ?_
  refine lv_iload_n (pc := 1397) hx hb dL_law_1397 rfl (lv_at hl 0 rfl) ?_
  refine lv_iconst (pc := 1398) (v := 1) hx hb dL_law_1398 (by decide) ?_
  refine lv_iadd (pc := 1399) hx hb dL_law_1399 ?_
  obtain ⟨v5, hv, h⟩ := zl_some h
  refine xlX (pc := 1400) hx hb hX0 hbl hbA hS hv dL_law_1400 ?_
  refine lv_aload_n (pc := 1401) hx hb dL_law_1401 rfl (lv_at hl 1 rfl) ?_
  refine lv_iload_n (pc := 1402) hx hb dL_law_1402 rfl (lv_at hl 0 rfl) ?_
  refine lv_iconst (pc := 1403) (v := 2) hx hb dL_law_1403 (by decide) ?_
  refine lv_iadd (pc := 1404) hx hb dL_law_1404 ?_
  obtain ⟨v6, hv, h⟩ := zl_some h
  refine xlX (pc := 1405) hx hb hX0 hbl hbA hS hv dL_law_1405 ?_
  obtain ⟨_, hg, h⟩ := zl_some h
  obtain ⟨v7, σ8, hv, h⟩ := zb_some h
  refine xcallVi (pc := 1406) (As := [.int v5, .int v6]) (rest := []) ⟨hx, hb, hml, hown, hts⟩ (c_X12_best l D c o g N hv) zc12 zV_L_160 rfl zd_X12_best ⟨Nat.le_of_ble_eq_true rfl, Nat.le_of_ble_eq_true rfl⟩ hK hP hE hS hg hl.1 rfl (Nat.le_of_ble_eq_true rfl) ⟨Nat.le_of_ble_eq_true rfl, Nat.le_of_ble_eq_true rfl⟩ dL_law_1406 (fun H locs hP hS => ?_)
  refine lv_pop (pc := 1409) hx hb dL_law_1409 rfl ?_
  refine lv_goto (pc := 1410) (tgt := 1869) hx hb dL_law_1410 (by decide) ?_
  refine lv_iinc (pc := 1869) (v := x3 + 6) (lv' := [(3, .int (x3 + 6)), (0, .ref b), (1, .ref (o + 0)), (2, .ref (o + 218))]) hx hb dL_law_1869 hl (k := 0) rfl rfl (by decide) rfl (fun ls hl => ?_)
  refine lv_goto (pc := 1872) (tgt := 18) hx hb dL_law_1872 (by decide) ?_
  exact ih (x3 + 6, σ8) h _ _ ls hP hS (lv_sub hl [0, 1, 2, 3] rfl)
set_option maxHeartbeats 4000000 in
set_option maxRecDepth 100000 in
theorem wl_1413 {p : Program} {e : Env} {s : State} {m : MethodId} {below : List Frame} {meth : Method} {cd : Code} (l : Launch) {b L : Nat} {xs : Nat → Int32} {o : Nat} {D : va_G} {c : zC} {g : zEp} (ho : s.heap.size = o) (C0 : lw_At p s m meth cd b L xs) (hK : zKt D c s) (hE : zE g o s s.heap) (N : Nat) {ρ : Int32 × zS} (hρ : ρ.1 = 1) {ag : Int32 × zS → Option (Int32 × zS)} (ih : ∀ (t : Int32 × zS), ag t = some ρ → ∀ (H : Heap) (locs : List Loc) (ls : Array Slot), zP D c o (zabs o t.2) H → va_S (zA o) s.heap H locs → lv_has ls 4 [(3, .int t.1), (0, .ref b), (1, .ref (o + 0)), (2, .ref (o + 218))] → W p l e room_1 s m #[Value.ref b] below meth cd H locs 243 106038 (lw_Z below #[Value.ref b] s) (F0 m 18 ls [])) {x3 : Int32} {σ : zS} (h : J_L_law_1413 N L xs ag x3 σ = some ρ) (H : Heap) (locs : List Loc) (ls : Array Slot) (hP : zP D c o (zabs o σ) H) (hS : va_S (zA o) s.heap H locs) (hl : lv_has ls 4 [(3, .int x3), (0, .ref b), (1, .ref (o + 0)), (2, .ref (o + 218))]) : W p l e room_1 s m #[Value.ref b] below meth cd H locs 243 106038 (lw_Z below #[Value.ref b] s) (F0 m 1413 ls []) := by
  obtain ⟨hx, hb, hr, hml, hown, hts0, hX0, hbl, hlocks, hgv⟩ := C0
  have hts : ∀ w ∈ zWl, w.before #[Value.ref b] s = true := fun w hw => hts0 w (List.mem_filter.mp hw).1
  have hown : s.vm.findClass RL = some m.cls := hown
  have hbA : ¬ zA o b := by show ¬ o ≤ b; omega
  rw [J_L_law_1413.eq_1] at h
  refine lv_aload_n (pc := 1413) hx hb dL_law_1413 rfl (lv_at hl 2 rfl) ?_
  refine lv_aload_n (pc := 1414) hx hb dL_law_1414 rfl (lv_at hl 1 rfl) ?_
  refine lv_iload_n (pc := 1415) hx hb dL_law_1415 rfl (lv_at hl 0 rfl) ?_
  refine lv_iconst (pc := 1416) (v := 1) hx hb dL_law_1416 (by decide) ?_
  refine lv_iadd (pc := 1417) hx hb dL_law_1417 ?_
  obtain ⟨v1, hv, h⟩ := zl_some h
  refine xlX (pc := 1418) hx hb hX0 hbl hbA hS hv dL_law_1418 ?_
  obtain ⟨_, hg, h⟩ := zl_some h
  obtain ⟨v2, σ3, hv, h⟩ := zb_some h
  refine xcallVi (pc := 1419) (As := [.int v1]) (rest := []) ⟨hx, hb, hml, hown, hts⟩ (c_X11_sift l D c o g N hv) zc11 zV_L_161 rfl zd_X11_sift ⟨Nat.le_of_ble_eq_true rfl, Nat.le_of_ble_eq_true rfl⟩ hK hP hE hS hg hl.1 rfl (Nat.le_of_ble_eq_true rfl) ⟨Nat.le_of_ble_eq_true rfl, Nat.le_of_ble_eq_true rfl⟩ dL_law_1419 (fun H locs hP hS => ?_)
  refine lv_pop (pc := 1422) hx hb dL_law_1422 rfl ?_
  refine lv_aload_n (pc := 1423) hx hb dL_law_1423 rfl (lv_at hl 3 rfl) ?_
  refine lv_aload_n (pc := 1424) hx hb dL_law_1424 rfl (lv_at hl 1 rfl) ?_
  refine lv_iload_n (pc := 1425) hx hb dL_law_1425 rfl (lv_at hl 0 rfl) ?_
  refine lv_iconst (pc := 1426) (v := 1) hx hb dL_law_1426 (by decide) ?_
  refine lv_iadd (pc := 1427) hx hb dL_law_1427 ?_
  obtain ⟨v4, hv, h⟩ := zl_some h
  refine xlX (pc := 1428) hx hb hX0 hbl hbA hS hv dL_law_1428 ?_
  obtain ⟨_, hg, h⟩ := zl_some h
  obtain ⟨v5, σ6, hv, h⟩ := zb_some h
  refine xcallVi (pc := 1429) (As := [.int v4]) (rest := []) ⟨hx, hb, hml, hown, hts⟩ (c_X12_sift l D c o g N hv) zc12 zV_L_164 rfl zd_X12_sift ⟨Nat.le_of_ble_eq_true rfl, Nat.le_of_ble_eq_true rfl⟩ hK hP hE hS hg hl.1 rfl (Nat.le_of_ble_eq_true rfl) ⟨Nat.le_of_ble_eq_true rfl, Nat.le_of_ble_eq_true rfl⟩ dL_law_1429 (fun H locs hP hS => ?_)
  refine lv_pop (pc := 1432) hx hb dL_law_1432 rfl ?_
  refine lv_goto (pc := 1433) (tgt := 1869) hx hb dL_law_1433 (by decide) ?_
  refine lv_iinc (pc := 1869) (v := x3 + 6) (lv' := [(3, .int (x3 + 6)), (0, .ref b), (1, .ref (o + 0)), (2, .ref (o + 218))]) hx hb dL_law_1869 hl (k := 0) rfl rfl (by decide) rfl (fun ls hl => ?_)
  refine lv_goto (pc := 1872) (tgt := 18) hx hb dL_law_1872 (by decide) ?_
  exact ih (x3 + 6, σ6) h _ _ ls hP hS (lv_sub hl [0, 1, 2, 3] rfl)
set_option maxHeartbeats 4000000 in
set_option maxRecDepth 100000 in
theorem wl_1436 {p : Program} {e : Env} {s : State} {m : MethodId} {below : List Frame} {meth : Method} {cd : Code} (l : Launch) {b L : Nat} {xs : Nat → Int32} {o : Nat} {D : va_G} {c : zC} {g : zEp} (ho : s.heap.size = o) (C0 : lw_At p s m meth cd b L xs) (hK : zKt D c s) (hE : zE g o s s.heap) (N : Nat) {ρ : Int32 × zS} (hρ : ρ.1 = 1) {ag : Int32 × zS → Option (Int32 × zS)} (ih : ∀ (t : Int32 × zS), ag t = some ρ → ∀ (H : Heap) (locs : List Loc) (ls : Array Slot), zP D c o (zabs o t.2) H → va_S (zA o) s.heap H locs → lv_has ls 4 [(3, .int t.1), (0, .ref b), (1, .ref (o + 0)), (2, .ref (o + 218))] → W p l e room_1 s m #[Value.ref b] below meth cd H locs 243 106038 (lw_Z below #[Value.ref b] s) (F0 m 18 ls [])) {x3 : Int32} {σ : zS} (h : J_L_law_1436 N L xs ag x3 σ = some ρ) (H : Heap) (locs : List Loc) (ls : Array Slot) (hP : zP D c o (zabs o σ) H) (hS : va_S (zA o) s.heap H locs) (hl : lv_has ls 4 [(3, .int x3), (0, .ref b), (1, .ref (o + 0)), (2, .ref (o + 218))]) : W p l e room_1 s m #[Value.ref b] below meth cd H locs 243 106038 (lw_Z below #[Value.ref b] s) (F0 m 1436 ls []) := by
  obtain ⟨hx, hb, hr, hml, hown, hts0, hX0, hbl, hlocks, hgv⟩ := C0
  have hts : ∀ w ∈ zWl, w.before #[Value.ref b] s = true := fun w hw => hts0 w (List.mem_filter.mp hw).1
  have hown : s.vm.findClass RL = some m.cls := hown
  have hbA : ¬ zA o b := by show ¬ o ≤ b; omega
  rw [J_L_law_1436.eq_1] at h
  refine lv_aload_n (pc := 1436) hx hb dL_law_1436 rfl (lv_at hl 2 rfl) ?_
  refine lv_aload_n (pc := 1437) hx hb dL_law_1437 rfl (lv_at hl 1 rfl) ?_
  refine lv_iload_n (pc := 1438) hx hb dL_law_1438 rfl (lv_at hl 0 rfl) ?_
  refine lv_iconst (pc := 1439) (v := 1) hx hb dL_law_1439 (by decide) ?_
  refine lv_iadd (pc := 1440) hx hb dL_law_1440 ?_
  obtain ⟨v1, hv, h⟩ := zl_some h
  refine xlX (pc := 1441) hx hb hX0 hbl hbA hS hv dL_law_1441 ?_
  refine lv_aload_n (pc := 1442) hx hb dL_law_1442 rfl (lv_at hl 1 rfl) ?_
  refine lv_iload_n (pc := 1443) hx hb dL_law_1443 rfl (lv_at hl 0 rfl) ?_
  refine lv_iconst (pc := 1444) (v := 2) hx hb dL_law_1444 (by decide) ?_
  refine lv_iadd (pc := 1445) hx hb dL_law_1445 ?_
  obtain ⟨v2, hv, h⟩ := zl_some h
  refine xlX (pc := 1446) hx hb hX0 hbl hbA hS hv dL_law_1446 ?_
  refine lv_aload_n (pc := 1447) hx hb dL_law_1447 rfl (lv_at hl 1 rfl) ?_
  refine lv_iload_n (pc := 1448) hx hb dL_law_1448 rfl (lv_at hl 0 rfl) ?_
  refine lv_iconst (pc := 1449) (v := 3) hx hb dL_law_1449 (by decide) ?_
  refine lv_iadd (pc := 1450) hx hb dL_law_1450 ?_
  obtain ⟨v3, hv, h⟩ := zl_some h
  refine xlX (pc := 1451) hx hb hX0 hbl hbA hS hv dL_law_1451 ?_
  obtain ⟨_, hg, h⟩ := zl_some h
  obtain ⟨v4, σ5, hv, h⟩ := zb_some h
  refine xcallVi (pc := 1452) (As := [.int v1, .int v2, .int v3]) (rest := []) ⟨hx, hb, hml, hown, hts⟩ (c_X11_ways l D c o g N hv) zc11 zV_L_165 rfl zd_X11_ways ⟨Nat.le_of_ble_eq_true rfl, Nat.le_of_ble_eq_true rfl⟩ hK hP hE hS hg hl.1 rfl (Nat.le_of_ble_eq_true rfl) ⟨Nat.le_of_ble_eq_true rfl, Nat.le_of_ble_eq_true rfl⟩ dL_law_1452 (fun H locs hP hS => ?_)
  refine lv_pop (pc := 1455) hx hb dL_law_1455 rfl ?_
  refine lv_aload_n (pc := 1456) hx hb dL_law_1456 rfl (lv_at hl 3 rfl) ?_
  refine lv_aload_n (pc := 1457) hx hb dL_law_1457 rfl (lv_at hl 1 rfl) ?_
  refine lv_iload_n (pc := 1458) hx hb dL_law_1458 rfl (lv_at hl 0 rfl) ?_
  refine lv_iconst (pc := 1459) (v := 1) hx hb dL_law_1459 (by decide) ?_
  refine lv_iadd (pc := 1460) hx hb dL_law_1460 ?_
  obtain ⟨v6, hv, h⟩ := zl_some h
  refine xlX (pc := 1461) hx hb hX0 hbl hbA hS hv dL_law_1461 ?_
  refine lv_aload_n (pc := 1462) hx hb dL_law_1462 rfl (lv_at hl 1 rfl) ?_
  refine lv_iload_n (pc := 1463) hx hb dL_law_1463 rfl (lv_at hl 0 rfl) ?_
  refine lv_iconst (pc := 1464) (v := 2) hx hb dL_law_1464 (by decide) ?_
  refine lv_iadd (pc := 1465) hx hb dL_law_1465 ?_
  obtain ⟨v7, hv, h⟩ := zl_some h
  refine xlX (pc := 1466) hx hb hX0 hbl hbA hS hv dL_law_1466 ?_
  refine lv_aload_n (pc := 1467) hx hb dL_law_1467 rfl (lv_at hl 1 rfl) ?_
  refine lv_iload_n (pc := 1468) hx hb dL_law_1468 rfl (lv_at hl 0 rfl) ?_
  refine lv_iconst (pc := 1469) (v := 3) hx hb dL_law_1469 (by decide) ?_
  refine lv_iadd (pc := 1470) hx hb dL_law_1470 ?_
  obtain ⟨v8, hv, h⟩ := zl_some h
  refine xlX (pc := 1471) hx hb hX0 hbl hbA hS hv dL_law_1471 ?_
  obtain ⟨_, hg, h⟩ := zl_some h
  obtain ⟨v9, σ10, hv, h⟩ := zb_some h
  refine xcallVi (pc := 1472) (As := [.int v6, .int v7, .int v8]) (rest := []) ⟨hx, hb, hml, hown, hts⟩ (c_X12_ways l D c o g N hv) zc12 zV_L_168 rfl zd_X12_ways ⟨Nat.le_of_ble_eq_true rfl, Nat.le_of_ble_eq_true rfl⟩ hK hP hE hS hg hl.1 rfl (Nat.le_of_ble_eq_true rfl) ⟨Nat.le_of_ble_eq_true rfl, Nat.le_of_ble_eq_true rfl⟩ dL_law_1472 (fun H locs hP hS => ?_)
  refine lv_pop (pc := 1475) hx hb dL_law_1475 rfl ?_
  refine lv_goto (pc := 1476) (tgt := 1869) hx hb dL_law_1476 (by decide) ?_
  refine lv_iinc (pc := 1869) (v := x3 + 6) (lv' := [(3, .int (x3 + 6)), (0, .ref b), (1, .ref (o + 0)), (2, .ref (o + 218))]) hx hb dL_law_1869 hl (k := 0) rfl rfl (by decide) rfl (fun ls hl => ?_)
  refine lv_goto (pc := 1872) (tgt := 18) hx hb dL_law_1872 (by decide) ?_
  exact ih (x3 + 6, σ10) h _ _ ls hP hS (lv_sub hl [0, 1, 2, 3] rfl)
set_option maxHeartbeats 4000000 in
set_option maxRecDepth 100000 in
theorem wl_1479 {p : Program} {e : Env} {s : State} {m : MethodId} {below : List Frame} {meth : Method} {cd : Code} (l : Launch) {b L : Nat} {xs : Nat → Int32} {o : Nat} {D : va_G} {c : zC} {g : zEp} (ho : s.heap.size = o) (C0 : lw_At p s m meth cd b L xs) (hK : zKt D c s) (hE : zE g o s s.heap) (N : Nat) {ρ : Int32 × zS} (hρ : ρ.1 = 1) {ag : Int32 × zS → Option (Int32 × zS)} (ih : ∀ (t : Int32 × zS), ag t = some ρ → ∀ (H : Heap) (locs : List Loc) (ls : Array Slot), zP D c o (zabs o t.2) H → va_S (zA o) s.heap H locs → lv_has ls 4 [(3, .int t.1), (0, .ref b), (1, .ref (o + 0)), (2, .ref (o + 218))] → W p l e room_1 s m #[Value.ref b] below meth cd H locs 243 106038 (lw_Z below #[Value.ref b] s) (F0 m 18 ls [])) {x3 : Int32} {σ : zS} (h : J_L_law_1479 N L xs ag x3 σ = some ρ) (H : Heap) (locs : List Loc) (ls : Array Slot) (hP : zP D c o (zabs o σ) H) (hS : va_S (zA o) s.heap H locs) (hl : lv_has ls 4 [(3, .int x3), (0, .ref b), (1, .ref (o + 0)), (2, .ref (o + 218))]) : W p l e room_1 s m #[Value.ref b] below meth cd H locs 243 106038 (lw_Z below #[Value.ref b] s) (F0 m 1479 ls []) := by
  obtain ⟨hx, hb, hr, hml, hown, hts0, hX0, hbl, hlocks, hgv⟩ := C0
  have hts : ∀ w ∈ zWl, w.before #[Value.ref b] s = true := fun w hw => hts0 w (List.mem_filter.mp hw).1
  have hown : s.vm.findClass RL = some m.cls := hown
  have hbA : ¬ zA o b := by show ¬ o ≤ b; omega
  rw [J_L_law_1479.eq_1] at h
  refine lv_aload_n (pc := 1479) hx hb dL_law_1479 rfl (lv_at hl 2 rfl) ?_
  refine lv_aload_n (pc := 1480) hx hb dL_law_1480 rfl (lv_at hl 1 rfl) ?_
  refine lv_iload_n (pc := 1481) hx hb dL_law_1481 rfl (lv_at hl 0 rfl) ?_
  refine lv_iconst (pc := 1482) (v := 1) hx hb dL_law_1482 (by decide) ?_
  refine lv_iadd (pc := 1483) hx hb dL_law_1483 ?_
  obtain ⟨v1, hv, h⟩ := zl_some h
  refine xlX (pc := 1484) hx hb hX0 hbl hbA hS hv dL_law_1484 ?_
  refine lv_aload_n (pc := 1485) hx hb dL_law_1485 rfl (lv_at hl 1 rfl) ?_
  refine lv_iload_n (pc := 1486) hx hb dL_law_1486 rfl (lv_at hl 0 rfl) ?_
  refine lv_iconst (pc := 1487) (v := 2) hx hb dL_law_1487 (by decide) ?_
  refine lv_iadd (pc := 1488) hx hb dL_law_1488 ?_
  obtain ⟨v2, hv, h⟩ := zl_some h
  refine xlX (pc := 1489) hx hb hX0 hbl hbA hS hv dL_law_1489 ?_
  obtain ⟨_, hg, h⟩ := zl_some h
  obtain ⟨v3, σ4, hv, h⟩ := zb_some h
  refine xcallVi (pc := 1490) (As := [.int v1, .int v2]) (rest := []) ⟨hx, hb, hml, hown, hts⟩ (c_X11_map l D c o g N hv) zc11 zV_L_169 rfl zd_X11_map ⟨Nat.le_of_ble_eq_true rfl, Nat.le_of_ble_eq_true rfl⟩ hK hP hE hS hg hl.1 rfl (Nat.le_of_ble_eq_true rfl) ⟨Nat.le_of_ble_eq_true rfl, Nat.le_of_ble_eq_true rfl⟩ dL_law_1490 (fun H locs hP hS => ?_)
  refine lv_pop (pc := 1493) hx hb dL_law_1493 rfl ?_
  refine lv_aload_n (pc := 1494) hx hb dL_law_1494 rfl (lv_at hl 3 rfl) ?_
  refine lv_aload_n (pc := 1495) hx hb dL_law_1495 rfl (lv_at hl 1 rfl) ?_
  refine lv_iload_n (pc := 1496) hx hb dL_law_1496 rfl (lv_at hl 0 rfl) ?_
  refine lv_iconst (pc := 1497) (v := 1) hx hb dL_law_1497 (by decide) ?_
  refine lv_iadd (pc := 1498) hx hb dL_law_1498 ?_
  obtain ⟨v5, hv, h⟩ := zl_some h
  refine xlX (pc := 1499) hx hb hX0 hbl hbA hS hv dL_law_1499 ?_
  refine lv_aload_n (pc := 1500) hx hb dL_law_1500 rfl (lv_at hl 1 rfl) ?_
  refine lv_iload_n (pc := 1501) hx hb dL_law_1501 rfl (lv_at hl 0 rfl) ?_
  refine lv_iconst (pc := 1502) (v := 2) hx hb dL_law_1502 (by decide) ?_
  refine lv_iadd (pc := 1503) hx hb dL_law_1503 ?_
  obtain ⟨v6, hv, h⟩ := zl_some h
  refine xlX (pc := 1504) hx hb hX0 hbl hbA hS hv dL_law_1504 ?_
  obtain ⟨_, hg, h⟩ := zl_some h
  obtain ⟨v7, σ8, hv, h⟩ := zb_some h
  refine xcallVi (pc := 1505) (As := [.int v5, .int v6]) (rest := []) ⟨hx, hb, hml, hown, hts⟩ (c_X12_map l D c o g N hv) zc12 zV_L_172 rfl zd_X12_map ⟨Nat.le_of_ble_eq_true rfl, Nat.le_of_ble_eq_true rfl⟩ hK hP hE hS hg hl.1 rfl (Nat.le_of_ble_eq_true rfl) ⟨Nat.le_of_ble_eq_true rfl, Nat.le_of_ble_eq_true rfl⟩ dL_law_1505 (fun H locs hP hS => ?_)
  refine lv_pop (pc := 1508) hx hb dL_law_1508 rfl ?_
  refine lv_goto (pc := 1509) (tgt := 1869) hx hb dL_law_1509 (by decide) ?_
  refine lv_iinc (pc := 1869) (v := x3 + 6) (lv' := [(3, .int (x3 + 6)), (0, .ref b), (1, .ref (o + 0)), (2, .ref (o + 218))]) hx hb dL_law_1869 hl (k := 0) rfl rfl (by decide) rfl (fun ls hl => ?_)
  refine lv_goto (pc := 1872) (tgt := 18) hx hb dL_law_1872 (by decide) ?_
  exact ih (x3 + 6, σ8) h _ _ ls hP hS (lv_sub hl [0, 1, 2, 3] rfl)
set_option maxHeartbeats 4000000 in
set_option maxRecDepth 100000 in
theorem wl_1512 {p : Program} {e : Env} {s : State} {m : MethodId} {below : List Frame} {meth : Method} {cd : Code} (l : Launch) {b L : Nat} {xs : Nat → Int32} {o : Nat} {D : va_G} {c : zC} {g : zEp} (ho : s.heap.size = o) (C0 : lw_At p s m meth cd b L xs) (hK : zKt D c s) (hE : zE g o s s.heap) (N : Nat) {ρ : Int32 × zS} (hρ : ρ.1 = 1) {ag : Int32 × zS → Option (Int32 × zS)} (ih : ∀ (t : Int32 × zS), ag t = some ρ → ∀ (H : Heap) (locs : List Loc) (ls : Array Slot), zP D c o (zabs o t.2) H → va_S (zA o) s.heap H locs → lv_has ls 4 [(3, .int t.1), (0, .ref b), (1, .ref (o + 0)), (2, .ref (o + 218))] → W p l e room_1 s m #[Value.ref b] below meth cd H locs 243 106038 (lw_Z below #[Value.ref b] s) (F0 m 18 ls [])) {x3 : Int32} {σ : zS} (h : J_L_law_1512 N L xs ag x3 σ = some ρ) (H : Heap) (locs : List Loc) (ls : Array Slot) (hP : zP D c o (zabs o σ) H) (hS : va_S (zA o) s.heap H locs) (hl : lv_has ls 4 [(3, .int x3), (0, .ref b), (1, .ref (o + 0)), (2, .ref (o + 218))]) : W p l e room_1 s m #[Value.ref b] below meth cd H locs 243 106038 (lw_Z below #[Value.ref b] s) (F0 m 1512 ls []) := by
  obtain ⟨hx, hb, hr, hml, hown, hts0, hX0, hbl, hlocks, hgv⟩ := C0
  have hts : ∀ w ∈ zWl, w.before #[Value.ref b] s = true := fun w hw => hts0 w (List.mem_filter.mp hw).1
  have hown : s.vm.findClass RL = some m.cls := hown
  have hbA : ¬ zA o b := by show ¬ o ≤ b; omega
  rw [J_L_law_1512.eq_1] at h
  refine lv_aload_n (pc := 1512) hx hb dL_law_1512 rfl (lv_at hl 2 rfl) ?_
  refine lv_aload_n (pc := 1513) hx hb dL_law_1513 rfl (lv_at hl 1 rfl) ?_
  refine lv_iload_n (pc := 1514) hx hb dL_law_1514 rfl (lv_at hl 0 rfl) ?_
  refine lv_iconst (pc := 1515) (v := 1) hx hb dL_law_1515 (by decide) ?_
  refine lv_iadd (pc := 1516) hx hb dL_law_1516 ?_
  obtain ⟨v1, hv, h⟩ := zl_some h
  refine xlX (pc := 1517) hx hb hX0 hbl hbA hS hv dL_law_1517 ?_
  refine lv_aload_n (pc := 1518) hx hb dL_law_1518 rfl (lv_at hl 1 rfl) ?_
  refine lv_iload_n (pc := 1519) hx hb dL_law_1519 rfl (lv_at hl 0 rfl) ?_
  refine lv_iconst (pc := 1520) (v := 2) hx hb dL_law_1520 (by decide) ?_
  refine lv_iadd (pc := 1521) hx hb dL_law_1521 ?_
  obtain ⟨v2, hv, h⟩ := zl_some h
  refine xlX (pc := 1522) hx hb hX0 hbl hbA hS hv dL_law_1522 ?_
  refine lv_aload_n (pc := 1523) hx hb dL_law_1523 rfl (lv_at hl 1 rfl) ?_
  refine lv_iload_n (pc := 1524) hx hb dL_law_1524 rfl (lv_at hl 0 rfl) ?_
  refine lv_iconst (pc := 1525) (v := 3) hx hb dL_law_1525 (by decide) ?_
  refine lv_iadd (pc := 1526) hx hb dL_law_1526 ?_
  obtain ⟨v3, hv, h⟩ := zl_some h
  refine xlX (pc := 1527) hx hb hX0 hbl hbA hS hv dL_law_1527 ?_
  obtain ⟨_, hg, h⟩ := zl_some h
  obtain ⟨v4, σ5, hv, h⟩ := zb_some h
  refine xcallVi (pc := 1528) (As := [.int v1, .int v2, .int v3]) (rest := []) ⟨hx, hb, hml, hown, hts⟩ (c_X11_cuts l D c o g N hv) zc11 zV_L_173 rfl zd_X11_cuts ⟨Nat.le_of_ble_eq_true rfl, Nat.le_of_ble_eq_true rfl⟩ hK hP hE hS hg hl.1 rfl (Nat.le_of_ble_eq_true rfl) ⟨Nat.le_of_ble_eq_true rfl, Nat.le_of_ble_eq_true rfl⟩ dL_law_1528 (fun H locs hP hS => ?_)
  refine lv_pop (pc := 1531) hx hb dL_law_1531 rfl ?_
  refine lv_aload_n (pc := 1532) hx hb dL_law_1532 rfl (lv_at hl 3 rfl) ?_
  refine lv_aload_n (pc := 1533) hx hb dL_law_1533 rfl (lv_at hl 1 rfl) ?_
  refine lv_iload_n (pc := 1534) hx hb dL_law_1534 rfl (lv_at hl 0 rfl) ?_
  refine lv_iconst (pc := 1535) (v := 1) hx hb dL_law_1535 (by decide) ?_
  refine lv_iadd (pc := 1536) hx hb dL_law_1536 ?_
  obtain ⟨v6, hv, h⟩ := zl_some h
  refine xlX (pc := 1537) hx hb hX0 hbl hbA hS hv dL_law_1537 ?_
  refine lv_aload_n (pc := 1538) hx hb dL_law_1538 rfl (lv_at hl 1 rfl) ?_
  refine lv_iload_n (pc := 1539) hx hb dL_law_1539 rfl (lv_at hl 0 rfl) ?_
  refine lv_iconst (pc := 1540) (v := 2) hx hb dL_law_1540 (by decide) ?_
  refine lv_iadd (pc := 1541) hx hb dL_law_1541 ?_
  obtain ⟨v7, hv, h⟩ := zl_some h
  refine xlX (pc := 1542) hx hb hX0 hbl hbA hS hv dL_law_1542 ?_
  refine lv_aload_n (pc := 1543) hx hb dL_law_1543 rfl (lv_at hl 1 rfl) ?_
  refine lv_iload_n (pc := 1544) hx hb dL_law_1544 rfl (lv_at hl 0 rfl) ?_
  refine lv_iconst (pc := 1545) (v := 3) hx hb dL_law_1545 (by decide) ?_
  refine lv_iadd (pc := 1546) hx hb dL_law_1546 ?_
  obtain ⟨v8, hv, h⟩ := zl_some h
  refine xlX (pc := 1547) hx hb hX0 hbl hbA hS hv dL_law_1547 ?_
  obtain ⟨_, hg, h⟩ := zl_some h
  obtain ⟨v9, σ10, hv, h⟩ := zb_some h
  refine xcallVi (pc := 1548) (As := [.int v6, .int v7, .int v8]) (rest := []) ⟨hx, hb, hml, hown, hts⟩ (c_X12_cuts l D c o g N hv) zc12 zV_L_176 rfl zd_X12_cuts ⟨Nat.le_of_ble_eq_true rfl, Nat.le_of_ble_eq_true rfl⟩ hK hP hE hS hg hl.1 rfl (Nat.le_of_ble_eq_true rfl) ⟨Nat.le_of_ble_eq_true rfl, Nat.le_of_ble_eq_true rfl⟩ dL_law_1548 (fun H locs hP hS => ?_)
  refine lv_pop (pc := 1551) hx hb dL_law_1551 rfl ?_
  refine lv_goto (pc := 1552) (tgt := 1869) hx hb dL_law_1552 (by decide) ?_
  refine lv_iinc (pc := 1869) (v := x3 + 6) (lv' := [(3, .int (x3 + 6)), (0, .ref b), (1, .ref (o + 0)), (2, .ref (o + 218))]) hx hb dL_law_1869 hl (k := 0) rfl rfl (by decide) rfl (fun ls hl => ?_)
  refine lv_goto (pc := 1872) (tgt := 18) hx hb dL_law_1872 (by decide) ?_
  exact ih (x3 + 6, σ10) h _ _ ls hP hS (lv_sub hl [0, 1, 2, 3] rfl)
set_option maxHeartbeats 4000000 in
set_option maxRecDepth 100000 in
theorem wl_1555 {p : Program} {e : Env} {s : State} {m : MethodId} {below : List Frame} {meth : Method} {cd : Code} (l : Launch) {b L : Nat} {xs : Nat → Int32} {o : Nat} {D : va_G} {c : zC} {g : zEp} (ho : s.heap.size = o) (C0 : lw_At p s m meth cd b L xs) (hK : zKt D c s) (hE : zE g o s s.heap) (N : Nat) {ρ : Int32 × zS} (hρ : ρ.1 = 1) {ag : Int32 × zS → Option (Int32 × zS)} (ih : ∀ (t : Int32 × zS), ag t = some ρ → ∀ (H : Heap) (locs : List Loc) (ls : Array Slot), zP D c o (zabs o t.2) H → va_S (zA o) s.heap H locs → lv_has ls 4 [(3, .int t.1), (0, .ref b), (1, .ref (o + 0)), (2, .ref (o + 218))] → W p l e room_1 s m #[Value.ref b] below meth cd H locs 243 106038 (lw_Z below #[Value.ref b] s) (F0 m 18 ls [])) {x3 : Int32} {σ : zS} (h : J_L_law_1555 N L xs ag x3 σ = some ρ) (H : Heap) (locs : List Loc) (ls : Array Slot) (hP : zP D c o (zabs o σ) H) (hS : va_S (zA o) s.heap H locs) (hl : lv_has ls 4 [(3, .int x3), (0, .ref b), (1, .ref (o + 0)), (2, .ref (o + 218))]) : W p l e room_1 s m #[Value.ref b] below meth cd H locs 243 106038 (lw_Z below #[Value.ref b] s) (F0 m 1555 ls []) := by
  obtain ⟨hx, hb, hr, hml, hown, hts0, hX0, hbl, hlocks, hgv⟩ := C0
  have hts : ∀ w ∈ zWl, w.before #[Value.ref b] s = true := fun w hw => hts0 w (List.mem_filter.mp hw).1
  have hown : s.vm.findClass RL = some m.cls := hown
  have hbA : ¬ zA o b := by show ¬ o ≤ b; omega
  rw [J_L_law_1555.eq_1] at h
  refine lv_aload_n (pc := 1555) hx hb dL_law_1555 rfl (lv_at hl 2 rfl) ?_
  refine lv_aload_n (pc := 1556) hx hb dL_law_1556 rfl (lv_at hl 1 rfl) ?_
  refine lv_iload_n (pc := 1557) hx hb dL_law_1557 rfl (lv_at hl 0 rfl) ?_
  refine lv_iconst (pc := 1558) (v := 1) hx hb dL_law_1558 (by decide) ?_
  refine lv_iadd (pc := 1559) hx hb dL_law_1559 ?_
  obtain ⟨v1, hv, h⟩ := zl_some h
  refine xlX (pc := 1560) hx hb hX0 hbl hbA hS hv dL_law_1560 ?_
  refine lv_aload_n (pc := 1561) hx hb dL_law_1561 rfl (lv_at hl 1 rfl) ?_
  refine lv_iload_n (pc := 1562) hx hb dL_law_1562 rfl (lv_at hl 0 rfl) ?_
  refine lv_iconst (pc := 1563) (v := 2) hx hb dL_law_1563 (by decide) ?_
  refine lv_iadd (pc := 1564) hx hb dL_law_1564 ?_
  obtain ⟨v2, hv, h⟩ := zl_some h
  refine xlX (pc := 1565) hx hb hX0 hbl hbA hS hv dL_law_1565 ?_
  obtain ⟨_, hg, h⟩ := zl_some h
  obtain ⟨v3, σ4, hv, h⟩ := zb_some h
  refine xcallVi (pc := 1566) (As := [.int v1, .int v2]) (rest := []) ⟨hx, hb, hml, hown, hts⟩ (c_X11_judge l D c o g N hv) zc11 zV_L_177 rfl zd_X11_judge ⟨Nat.le_of_ble_eq_true rfl, Nat.le_of_ble_eq_true rfl⟩ hK hP hE hS hg hl.1 rfl (Nat.le_of_ble_eq_true rfl) ⟨Nat.le_of_ble_eq_true rfl, Nat.le_of_ble_eq_true rfl⟩ dL_law_1566 (fun H locs hP hS => ?_)
  refine lv_pop (pc := 1569) hx hb dL_law_1569 rfl ?_
  refine lv_aload_n (pc := 1570) hx hb dL_law_1570 rfl (lv_at hl 3 rfl) ?_
  refine lv_aload_n (pc := 1571) hx hb dL_law_1571 rfl (lv_at hl 1 rfl) ?_
  refine lv_iload_n (pc := 1572) hx hb dL_law_1572 rfl (lv_at hl 0 rfl) ?_
  refine lv_iconst (pc := 1573) (v := 1) hx hb dL_law_1573 (by decide) ?_
  refine lv_iadd (pc := 1574) hx hb dL_law_1574 ?_
  obtain ⟨v5, hv, h⟩ := zl_some h
  refine xlX (pc := 1575) hx hb hX0 hbl hbA hS hv dL_law_1575 ?_
  refine lv_aload_n (pc := 1576) hx hb dL_law_1576 rfl (lv_at hl 1 rfl) ?_
  refine lv_iload_n (pc := 1577) hx hb dL_law_1577 rfl (lv_at hl 0 rfl) ?_
  refine lv_iconst (pc := 1578) (v := 2) hx hb dL_law_1578 (by decide) ?_
  refine lv_iadd (pc := 1579) hx hb dL_law_1579 ?_
  obtain ⟨v6, hv, h⟩ := zl_some h
  refine xlX (pc := 1580) hx hb hX0 hbl hbA hS hv dL_law_1580 ?_
  obtain ⟨_, hg, h⟩ := zl_some h
  obtain ⟨v7, σ8, hv, h⟩ := zb_some h
  refine xcallVi (pc := 1581) (As := [.int v5, .int v6]) (rest := []) ⟨hx, hb, hml, hown, hts⟩ (c_X12_judge l D c o g N hv) zc12 zV_L_180 rfl zd_X12_judge ⟨Nat.le_of_ble_eq_true rfl, Nat.le_of_ble_eq_true rfl⟩ hK hP hE hS hg hl.1 rfl (Nat.le_of_ble_eq_true rfl) ⟨Nat.le_of_ble_eq_true rfl, Nat.le_of_ble_eq_true rfl⟩ dL_law_1581 (fun H locs hP hS => ?_)
  refine lv_pop (pc := 1584) hx hb dL_law_1584 rfl ?_
  refine lv_goto (pc := 1585) (tgt := 1869) hx hb dL_law_1585 (by decide) ?_
  refine lv_iinc (pc := 1869) (v := x3 + 6) (lv' := [(3, .int (x3 + 6)), (0, .ref b), (1, .ref (o + 0)), (2, .ref (o + 218))]) hx hb dL_law_1869 hl (k := 0) rfl rfl (by decide) rfl (fun ls hl => ?_)
  refine lv_goto (pc := 1872) (tgt := 18) hx hb dL_law_1872 (by decide) ?_
  exact ih (x3 + 6, σ8) h _ _ ls hP hS (lv_sub hl [0, 1, 2, 3] rfl)
set_option maxHeartbeats 4000000 in
set_option maxRecDepth 100000 in
theorem wl_1588 {p : Program} {e : Env} {s : State} {m : MethodId} {below : List Frame} {meth : Method} {cd : Code} (l : Launch) {b L : Nat} {xs : Nat → Int32} {o : Nat} {D : va_G} {c : zC} {g : zEp} (ho : s.heap.size = o) (C0 : lw_At p s m meth cd b L xs) (hK : zKt D c s) (hE : zE g o s s.heap) (N : Nat) {ρ : Int32 × zS} (hρ : ρ.1 = 1) {ag : Int32 × zS → Option (Int32 × zS)} (ih : ∀ (t : Int32 × zS), ag t = some ρ → ∀ (H : Heap) (locs : List Loc) (ls : Array Slot), zP D c o (zabs o t.2) H → va_S (zA o) s.heap H locs → lv_has ls 4 [(3, .int t.1), (0, .ref b), (1, .ref (o + 0)), (2, .ref (o + 218))] → W p l e room_1 s m #[Value.ref b] below meth cd H locs 243 106038 (lw_Z below #[Value.ref b] s) (F0 m 18 ls [])) {x3 : Int32} {σ : zS} (h : J_L_law_1588 N L xs ag x3 σ = some ρ) (H : Heap) (locs : List Loc) (ls : Array Slot) (hP : zP D c o (zabs o σ) H) (hS : va_S (zA o) s.heap H locs) (hl : lv_has ls 4 [(3, .int x3), (0, .ref b), (1, .ref (o + 0)), (2, .ref (o + 218))]) : W p l e room_1 s m #[Value.ref b] below meth cd H locs 243 106038 (lw_Z below #[Value.ref b] s) (F0 m 1588 ls []) := by
  obtain ⟨hx, hb, hr, hml, hown, hts0, hX0, hbl, hlocks, hgv⟩ := C0
  have hts : ∀ w ∈ zWl, w.before #[Value.ref b] s = true := fun w hw => hts0 w (List.mem_filter.mp hw).1
  have hown : s.vm.findClass RL = some m.cls := hown
  have hbA : ¬ zA o b := by show ¬ o ≤ b; omega
  rw [J_L_law_1588.eq_1] at h
  refine lv_aload_n (pc := 1588) hx hb dL_law_1588 rfl (lv_at hl 2 rfl) ?_
  refine lv_aload_n (pc := 1589) hx hb dL_law_1589 rfl (lv_at hl 1 rfl) ?_
  refine lv_iload_n (pc := 1590) hx hb dL_law_1590 rfl (lv_at hl 0 rfl) ?_
  refine lv_iconst (pc := 1591) (v := 1) hx hb dL_law_1591 (by decide) ?_
  refine lv_iadd (pc := 1592) hx hb dL_law_1592 ?_
  obtain ⟨v1, hv, h⟩ := zl_some h
  refine xlX (pc := 1593) hx hb hX0 hbl hbA hS hv dL_law_1593 ?_
  refine lv_aload_n (pc := 1594) hx hb dL_law_1594 rfl (lv_at hl 1 rfl) ?_
  refine lv_iload_n (pc := 1595) hx hb dL_law_1595 rfl (lv_at hl 0 rfl) ?_
  refine lv_iconst (pc := 1596) (v := 2) hx hb dL_law_1596 (by decide) ?_
  refine lv_iadd (pc := 1597) hx hb dL_law_1597 ?_
  obtain ⟨v2, hv, h⟩ := zl_some h
  refine xlX (pc := 1598) hx hb hX0 hbl hbA hS hv dL_law_1598 ?_
  obtain ⟨_, hg, h⟩ := zl_some h
  obtain ⟨v3, σ4, hv, h⟩ := zb_some h
  refine xcallVi (pc := 1599) (As := [.int v1, .int v2]) (rest := []) ⟨hx, hb, hml, hown, hts⟩ (c_X11_takes l D c o g N hv) zc11 zV_L_181 rfl zd_X11_takes ⟨Nat.le_of_ble_eq_true rfl, Nat.le_of_ble_eq_true rfl⟩ hK hP hE hS hg hl.1 rfl (Nat.le_of_ble_eq_true rfl) ⟨Nat.le_of_ble_eq_true rfl, Nat.le_of_ble_eq_true rfl⟩ dL_law_1599 (fun H locs hP hS => ?_)
  refine lv_pop (pc := 1602) hx hb dL_law_1602 rfl ?_
  refine lv_aload_n (pc := 1603) hx hb dL_law_1603 rfl (lv_at hl 3 rfl) ?_
  refine lv_aload_n (pc := 1604) hx hb dL_law_1604 rfl (lv_at hl 1 rfl) ?_
  refine lv_iload_n (pc := 1605) hx hb dL_law_1605 rfl (lv_at hl 0 rfl) ?_
  refine lv_iconst (pc := 1606) (v := 1) hx hb dL_law_1606 (by decide) ?_
  refine lv_iadd (pc := 1607) hx hb dL_law_1607 ?_
  obtain ⟨v5, hv, h⟩ := zl_some h
  refine xlX (pc := 1608) hx hb hX0 hbl hbA hS hv dL_law_1608 ?_
  refine lv_aload_n (pc := 1609) hx hb dL_law_1609 rfl (lv_at hl 1 rfl) ?_
  refine lv_iload_n (pc := 1610) hx hb dL_law_1610 rfl (lv_at hl 0 rfl) ?_
  refine lv_iconst (pc := 1611) (v := 2) hx hb dL_law_1611 (by decide) ?_
  refine lv_iadd (pc := 1612) hx hb dL_law_1612 ?_
  obtain ⟨v6, hv, h⟩ := zl_some h
  refine xlX (pc := 1613) hx hb hX0 hbl hbA hS hv dL_law_1613 ?_
  obtain ⟨_, hg, h⟩ := zl_some h
  obtain ⟨v7, σ8, hv, h⟩ := zb_some h
  refine xcallVi (pc := 1614) (As := [.int v5, .int v6]) (rest := []) ⟨hx, hb, hml, hown, hts⟩ (c_X12_takes_ l D c o g N hv) zc12 zV_L_184 rfl zd_X12_takes_ ⟨Nat.le_of_ble_eq_true rfl, Nat.le_of_ble_eq_true rfl⟩ hK hP hE hS hg hl.1 rfl (Nat.le_of_ble_eq_true rfl) ⟨Nat.le_of_ble_eq_true rfl, Nat.le_of_ble_eq_true rfl⟩ dL_law_1614 (fun H locs hP hS => ?_)
  refine lv_pop (pc := 1617) hx hb dL_law_1617 rfl ?_
  refine lv_goto (pc := 1618) (tgt := 1869) hx hb dL_law_1618 (by decide) ?_
  refine lv_iinc (pc := 1869) (v := x3 + 6) (lv' := [(3, .int (x3 + 6)), (0, .ref b), (1, .ref (o + 0)), (2, .ref (o + 218))]) hx hb dL_law_1869 hl (k := 0) rfl rfl (by decide) rfl (fun ls hl => ?_)
  refine lv_goto (pc := 1872) (tgt := 18) hx hb dL_law_1872 (by decide) ?_
  exact ih (x3 + 6, σ8) h _ _ ls hP hS (lv_sub hl [0, 1, 2, 3] rfl)
set_option maxHeartbeats 4000000 in
set_option maxRecDepth 100000 in
theorem wl_1621 {p : Program} {e : Env} {s : State} {m : MethodId} {below : List Frame} {meth : Method} {cd : Code} (l : Launch) {b L : Nat} {xs : Nat → Int32} {o : Nat} {D : va_G} {c : zC} {g : zEp} (ho : s.heap.size = o) (C0 : lw_At p s m meth cd b L xs) (hK : zKt D c s) (hE : zE g o s s.heap) (N : Nat) {ρ : Int32 × zS} (hρ : ρ.1 = 1) {ag : Int32 × zS → Option (Int32 × zS)} (ih : ∀ (t : Int32 × zS), ag t = some ρ → ∀ (H : Heap) (locs : List Loc) (ls : Array Slot), zP D c o (zabs o t.2) H → va_S (zA o) s.heap H locs → lv_has ls 4 [(3, .int t.1), (0, .ref b), (1, .ref (o + 0)), (2, .ref (o + 218))] → W p l e room_1 s m #[Value.ref b] below meth cd H locs 243 106038 (lw_Z below #[Value.ref b] s) (F0 m 18 ls [])) {x3 : Int32} {σ : zS} (h : J_L_law_1621 N L xs ag x3 σ = some ρ) (H : Heap) (locs : List Loc) (ls : Array Slot) (hP : zP D c o (zabs o σ) H) (hS : va_S (zA o) s.heap H locs) (hl : lv_has ls 4 [(3, .int x3), (0, .ref b), (1, .ref (o + 0)), (2, .ref (o + 218))]) : W p l e room_1 s m #[Value.ref b] below meth cd H locs 243 106038 (lw_Z below #[Value.ref b] s) (F0 m 1621 ls []) := by
  obtain ⟨hx, hb, hr, hml, hown, hts0, hX0, hbl, hlocks, hgv⟩ := C0
  have hts : ∀ w ∈ zWl, w.before #[Value.ref b] s = true := fun w hw => hts0 w (List.mem_filter.mp hw).1
  have hown : s.vm.findClass RL = some m.cls := hown
  have hbA : ¬ zA o b := by show ¬ o ≤ b; omega
  rw [J_L_law_1621.eq_1] at h
  refine lv_aload_n (pc := 1621) hx hb dL_law_1621 rfl (lv_at hl 2 rfl) ?_
  refine lv_aload_n (pc := 1622) hx hb dL_law_1622 rfl (lv_at hl 1 rfl) ?_
  refine lv_iload_n (pc := 1623) hx hb dL_law_1623 rfl (lv_at hl 0 rfl) ?_
  refine lv_iconst (pc := 1624) (v := 1) hx hb dL_law_1624 (by decide) ?_
  refine lv_iadd (pc := 1625) hx hb dL_law_1625 ?_
  obtain ⟨v1, hv, h⟩ := zl_some h
  refine xlX (pc := 1626) hx hb hX0 hbl hbA hS hv dL_law_1626 ?_
  obtain ⟨_, hg, h⟩ := zl_some h
  obtain ⟨v2, σ3, hv, h⟩ := zb_some h
  refine xcallVi (pc := 1627) (As := [.int v1]) (rest := []) ⟨hx, hb, hml, hown, hts⟩ (c_X11_count l D c o g N hv) zc11 zV_L_185 rfl zd_X11_count ⟨Nat.le_of_ble_eq_true rfl, Nat.le_of_ble_eq_true rfl⟩ hK hP hE hS hg hl.1 rfl (Nat.le_of_ble_eq_true rfl) ⟨Nat.le_of_ble_eq_true rfl, Nat.le_of_ble_eq_true rfl⟩ dL_law_1627 (fun H locs hP hS => ?_)
  refine lv_pop (pc := 1630) hx hb dL_law_1630 rfl ?_
  refine lv_aload_n (pc := 1631) hx hb dL_law_1631 rfl (lv_at hl 3 rfl) ?_
  refine lv_aload_n (pc := 1632) hx hb dL_law_1632 rfl (lv_at hl 1 rfl) ?_
  refine lv_iload_n (pc := 1633) hx hb dL_law_1633 rfl (lv_at hl 0 rfl) ?_
  refine lv_iconst (pc := 1634) (v := 1) hx hb dL_law_1634 (by decide) ?_
  refine lv_iadd (pc := 1635) hx hb dL_law_1635 ?_
  obtain ⟨v4, hv, h⟩ := zl_some h
  refine xlX (pc := 1636) hx hb hX0 hbl hbA hS hv dL_law_1636 ?_
  obtain ⟨_, hg, h⟩ := zl_some h
  obtain ⟨v5, σ6, hv, h⟩ := zb_some h
  refine xcallVi (pc := 1637) (As := [.int v4]) (rest := []) ⟨hx, hb, hml, hown, hts⟩ (c_X12_count l D c o g N hv) zc12 zV_L_188 rfl zd_X12_count ⟨Nat.le_of_ble_eq_true rfl, Nat.le_of_ble_eq_true rfl⟩ hK hP hE hS hg hl.1 rfl (Nat.le_of_ble_eq_true rfl) ⟨Nat.le_of_ble_eq_true rfl, Nat.le_of_ble_eq_true rfl⟩ dL_law_1637 (fun H locs hP hS => ?_)
  refine lv_pop (pc := 1640) hx hb dL_law_1640 rfl ?_
  refine lv_goto (pc := 1641) (tgt := 1869) hx hb dL_law_1641 (by decide) ?_
  refine lv_iinc (pc := 1869) (v := x3 + 6) (lv' := [(3, .int (x3 + 6)), (0, .ref b), (1, .ref (o + 0)), (2, .ref (o + 218))]) hx hb dL_law_1869 hl (k := 0) rfl rfl (by decide) rfl (fun ls hl => ?_)
  refine lv_goto (pc := 1872) (tgt := 18) hx hb dL_law_1872 (by decide) ?_
  exact ih (x3 + 6, σ6) h _ _ ls hP hS (lv_sub hl [0, 1, 2, 3] rfl)
set_option maxHeartbeats 4000000 in
set_option maxRecDepth 100000 in
theorem wl_1644 {p : Program} {e : Env} {s : State} {m : MethodId} {below : List Frame} {meth : Method} {cd : Code} (l : Launch) {b L : Nat} {xs : Nat → Int32} {o : Nat} {D : va_G} {c : zC} {g : zEp} (ho : s.heap.size = o) (C0 : lw_At p s m meth cd b L xs) (hK : zKt D c s) (hE : zE g o s s.heap) (N : Nat) {ρ : Int32 × zS} (hρ : ρ.1 = 1) {ag : Int32 × zS → Option (Int32 × zS)} (ih : ∀ (t : Int32 × zS), ag t = some ρ → ∀ (H : Heap) (locs : List Loc) (ls : Array Slot), zP D c o (zabs o t.2) H → va_S (zA o) s.heap H locs → lv_has ls 4 [(3, .int t.1), (0, .ref b), (1, .ref (o + 0)), (2, .ref (o + 218))] → W p l e room_1 s m #[Value.ref b] below meth cd H locs 243 106038 (lw_Z below #[Value.ref b] s) (F0 m 18 ls [])) {x3 : Int32} {σ : zS} (h : J_L_law_1644 N L xs ag x3 σ = some ρ) (H : Heap) (locs : List Loc) (ls : Array Slot) (hP : zP D c o (zabs o σ) H) (hS : va_S (zA o) s.heap H locs) (hl : lv_has ls 4 [(3, .int x3), (0, .ref b), (1, .ref (o + 0)), (2, .ref (o + 218))]) : W p l e room_1 s m #[Value.ref b] below meth cd H locs 243 106038 (lw_Z below #[Value.ref b] s) (F0 m 1644 ls []) := by
  obtain ⟨hx, hb, hr, hml, hown, hts0, hX0, hbl, hlocks, hgv⟩ := C0
  have hts : ∀ w ∈ zWl, w.before #[Value.ref b] s = true := fun w hw => hts0 w (List.mem_filter.mp hw).1
  have hown : s.vm.findClass RL = some m.cls := hown
  have hbA : ¬ zA o b := by show ¬ o ≤ b; omega
  rw [J_L_law_1644.eq_1] at h
  refine lv_aload_n (pc := 1644) hx hb dL_law_1644 rfl (lv_at hl 2 rfl) ?_
  refine lv_aload_n (pc := 1645) hx hb dL_law_1645 rfl (lv_at hl 1 rfl) ?_
  refine lv_iload_n (pc := 1646) hx hb dL_law_1646 rfl (lv_at hl 0 rfl) ?_
  refine lv_iconst (pc := 1647) (v := 1) hx hb dL_law_1647 (by decide) ?_
  refine lv_iadd (pc := 1648) hx hb dL_law_1648 ?_
  obtain ⟨v1, hv, h⟩ := zl_some h
  refine xlX (pc := 1649) hx hb hX0 hbl hbA hS hv dL_law_1649 ?_
  obtain ⟨_, hg, h⟩ := zl_some h
  obtain ⟨v2, σ3, hv, h⟩ := zb_some h
  refine xcallVi (pc := 1650) (As := [.int v1]) (rest := []) ⟨hx, hb, hml, hown, hts⟩ (c_X11_keep l D c o g N hv) zc11 zV_L_189 rfl zd_X11_keep ⟨Nat.le_of_ble_eq_true rfl, Nat.le_of_ble_eq_true rfl⟩ hK hP hE hS hg hl.1 rfl (Nat.le_of_ble_eq_true rfl) ⟨Nat.le_of_ble_eq_true rfl, Nat.le_of_ble_eq_true rfl⟩ dL_law_1650 (fun H locs hP hS => ?_)
  refine lv_pop (pc := 1653) hx hb dL_law_1653 rfl ?_
  refine lv_aload_n (pc := 1654) hx hb dL_law_1654 rfl (lv_at hl 3 rfl) ?_
  refine lv_aload_n (pc := 1655) hx hb dL_law_1655 rfl (lv_at hl 1 rfl) ?_
  refine lv_iload_n (pc := 1656) hx hb dL_law_1656 rfl (lv_at hl 0 rfl) ?_
  refine lv_iconst (pc := 1657) (v := 1) hx hb dL_law_1657 (by decide) ?_
  refine lv_iadd (pc := 1658) hx hb dL_law_1658 ?_
  obtain ⟨v4, hv, h⟩ := zl_some h
  refine xlX (pc := 1659) hx hb hX0 hbl hbA hS hv dL_law_1659 ?_
  obtain ⟨_, hg, h⟩ := zl_some h
  obtain ⟨v5, σ6, hv, h⟩ := zb_some h
  refine xcallVi (pc := 1660) (As := [.int v4]) (rest := []) ⟨hx, hb, hml, hown, hts⟩ (c_X12_keep l D c o g N hv) zc12 zV_L_192 rfl zd_X12_keep ⟨Nat.le_of_ble_eq_true rfl, Nat.le_of_ble_eq_true rfl⟩ hK hP hE hS hg hl.1 rfl (Nat.le_of_ble_eq_true rfl) ⟨Nat.le_of_ble_eq_true rfl, Nat.le_of_ble_eq_true rfl⟩ dL_law_1660 (fun H locs hP hS => ?_)
  refine lv_pop (pc := 1663) hx hb dL_law_1663 rfl ?_
  refine lv_goto (pc := 1664) (tgt := 1869) hx hb dL_law_1664 (by decide) ?_
  refine lv_iinc (pc := 1869) (v := x3 + 6) (lv' := [(3, .int (x3 + 6)), (0, .ref b), (1, .ref (o + 0)), (2, .ref (o + 218))]) hx hb dL_law_1869 hl (k := 0) rfl rfl (by decide) rfl (fun ls hl => ?_)
  refine lv_goto (pc := 1872) (tgt := 18) hx hb dL_law_1872 (by decide) ?_
  exact ih (x3 + 6, σ6) h _ _ ls hP hS (lv_sub hl [0, 1, 2, 3] rfl)
set_option maxHeartbeats 4000000 in
set_option maxRecDepth 100000 in
theorem wl_1667 {p : Program} {e : Env} {s : State} {m : MethodId} {below : List Frame} {meth : Method} {cd : Code} (l : Launch) {b L : Nat} {xs : Nat → Int32} {o : Nat} {D : va_G} {c : zC} {g : zEp} (ho : s.heap.size = o) (C0 : lw_At p s m meth cd b L xs) (hK : zKt D c s) (hE : zE g o s s.heap) (N : Nat) {ρ : Int32 × zS} (hρ : ρ.1 = 1) {ag : Int32 × zS → Option (Int32 × zS)} (ih : ∀ (t : Int32 × zS), ag t = some ρ → ∀ (H : Heap) (locs : List Loc) (ls : Array Slot), zP D c o (zabs o t.2) H → va_S (zA o) s.heap H locs → lv_has ls 4 [(3, .int t.1), (0, .ref b), (1, .ref (o + 0)), (2, .ref (o + 218))] → W p l e room_1 s m #[Value.ref b] below meth cd H locs 243 106038 (lw_Z below #[Value.ref b] s) (F0 m 18 ls [])) {x3 : Int32} {σ : zS} (h : J_L_law_1667 N L xs ag x3 σ = some ρ) (H : Heap) (locs : List Loc) (ls : Array Slot) (hP : zP D c o (zabs o σ) H) (hS : va_S (zA o) s.heap H locs) (hl : lv_has ls 4 [(3, .int x3), (0, .ref b), (1, .ref (o + 0)), (2, .ref (o + 218))]) : W p l e room_1 s m #[Value.ref b] below meth cd H locs 243 106038 (lw_Z below #[Value.ref b] s) (F0 m 1667 ls []) := by
  obtain ⟨hx, hb, hr, hml, hown, hts0, hX0, hbl, hlocks, hgv⟩ := C0
  have hts : ∀ w ∈ zWl, w.before #[Value.ref b] s = true := fun w hw => hts0 w (List.mem_filter.mp hw).1
  have hown : s.vm.findClass RL = some m.cls := hown
  have hbA : ¬ zA o b := by show ¬ o ≤ b; omega
  rw [J_L_law_1667.eq_1] at h
  refine lv_aload_n (pc := 1667) hx hb dL_law_1667 rfl (lv_at hl 2 rfl) ?_
  refine lv_aload_n (pc := 1668) hx hb dL_law_1668 rfl (lv_at hl 1 rfl) ?_
  refine lv_iload_n (pc := 1669) hx hb dL_law_1669 rfl (lv_at hl 0 rfl) ?_
  refine lv_iconst (pc := 1670) (v := 1) hx hb dL_law_1670 (by decide) ?_
  refine lv_iadd (pc := 1671) hx hb dL_law_1671 ?_
  obtain ⟨v1, hv, h⟩ := zl_some h
  refine xlX (pc := 1672) hx hb hX0 hbl hbA hS hv dL_law_1672 ?_
  obtain ⟨_, hg, h⟩ := zl_some h
  obtain ⟨v2, σ3, hv, h⟩ := zb_some h
  refine xcallVi (pc := 1673) (As := [.int v1]) (rest := []) ⟨hx, hb, hml, hown, hts⟩ (c_X11_back l D c o g N hv) zc11 zV_L_193 rfl zd_X11_back ⟨Nat.le_of_ble_eq_true rfl, Nat.le_of_ble_eq_true rfl⟩ hK hP hE hS hg hl.1 rfl (Nat.le_of_ble_eq_true rfl) ⟨Nat.le_of_ble_eq_true rfl, Nat.le_of_ble_eq_true rfl⟩ dL_law_1673 (fun H locs hP hS => ?_)
  refine lv_pop (pc := 1676) hx hb dL_law_1676 rfl ?_
  refine lv_aload_n (pc := 1677) hx hb dL_law_1677 rfl (lv_at hl 3 rfl) ?_
  refine lv_aload_n (pc := 1678) hx hb dL_law_1678 rfl (lv_at hl 1 rfl) ?_
  refine lv_iload_n (pc := 1679) hx hb dL_law_1679 rfl (lv_at hl 0 rfl) ?_
  refine lv_iconst (pc := 1680) (v := 1) hx hb dL_law_1680 (by decide) ?_
  refine lv_iadd (pc := 1681) hx hb dL_law_1681 ?_
  obtain ⟨v4, hv, h⟩ := zl_some h
  refine xlX (pc := 1682) hx hb hX0 hbl hbA hS hv dL_law_1682 ?_
  obtain ⟨_, hg, h⟩ := zl_some h
  obtain ⟨v5, σ6, hv, h⟩ := zb_some h
  refine xcallVi (pc := 1683) (As := [.int v4]) (rest := []) ⟨hx, hb, hml, hown, hts⟩ (c_X12_back l D c o g N hv) zc12 zV_L_196 rfl zd_X12_back ⟨Nat.le_of_ble_eq_true rfl, Nat.le_of_ble_eq_true rfl⟩ hK hP hE hS hg hl.1 rfl (Nat.le_of_ble_eq_true rfl) ⟨Nat.le_of_ble_eq_true rfl, Nat.le_of_ble_eq_true rfl⟩ dL_law_1683 (fun H locs hP hS => ?_)
  refine lv_pop (pc := 1686) hx hb dL_law_1686 rfl ?_
  refine lv_goto (pc := 1687) (tgt := 1869) hx hb dL_law_1687 (by decide) ?_
  refine lv_iinc (pc := 1869) (v := x3 + 6) (lv' := [(3, .int (x3 + 6)), (0, .ref b), (1, .ref (o + 0)), (2, .ref (o + 218))]) hx hb dL_law_1869 hl (k := 0) rfl rfl (by decide) rfl (fun ls hl => ?_)
  refine lv_goto (pc := 1872) (tgt := 18) hx hb dL_law_1872 (by decide) ?_
  exact ih (x3 + 6, σ6) h _ _ ls hP hS (lv_sub hl [0, 1, 2, 3] rfl)
set_option maxHeartbeats 4000000 in
set_option maxRecDepth 100000 in
theorem wl_1690 {p : Program} {e : Env} {s : State} {m : MethodId} {below : List Frame} {meth : Method} {cd : Code} (l : Launch) {b L : Nat} {xs : Nat → Int32} {o : Nat} {D : va_G} {c : zC} {g : zEp} (ho : s.heap.size = o) (C0 : lw_At p s m meth cd b L xs) (hK : zKt D c s) (hE : zE g o s s.heap) (N : Nat) {ρ : Int32 × zS} (hρ : ρ.1 = 1) {ag : Int32 × zS → Option (Int32 × zS)} (ih : ∀ (t : Int32 × zS), ag t = some ρ → ∀ (H : Heap) (locs : List Loc) (ls : Array Slot), zP D c o (zabs o t.2) H → va_S (zA o) s.heap H locs → lv_has ls 4 [(3, .int t.1), (0, .ref b), (1, .ref (o + 0)), (2, .ref (o + 218))] → W p l e room_1 s m #[Value.ref b] below meth cd H locs 243 106038 (lw_Z below #[Value.ref b] s) (F0 m 18 ls [])) {x3 : Int32} {σ : zS} (h : J_L_law_1690 N L xs ag x3 σ = some ρ) (H : Heap) (locs : List Loc) (ls : Array Slot) (hP : zP D c o (zabs o σ) H) (hS : va_S (zA o) s.heap H locs) (hl : lv_has ls 4 [(3, .int x3), (0, .ref b), (1, .ref (o + 0)), (2, .ref (o + 218))]) : W p l e room_1 s m #[Value.ref b] below meth cd H locs 243 106038 (lw_Z below #[Value.ref b] s) (F0 m 1690 ls []) := by
  obtain ⟨hx, hb, hr, hml, hown, hts0, hX0, hbl, hlocks, hgv⟩ := C0
  have hts : ∀ w ∈ zWl, w.before #[Value.ref b] s = true := fun w hw => hts0 w (List.mem_filter.mp hw).1
  have hown : s.vm.findClass RL = some m.cls := hown
  have hbA : ¬ zA o b := by show ¬ o ≤ b; omega
  rw [J_L_law_1690.eq_1] at h
  refine lv_aload_n (pc := 1690) hx hb dL_law_1690 rfl (lv_at hl 2 rfl) ?_
  refine lv_aload_n (pc := 1691) hx hb dL_law_1691 rfl (lv_at hl 1 rfl) ?_
  refine lv_iload_n (pc := 1692) hx hb dL_law_1692 rfl (lv_at hl 0 rfl) ?_
  refine lv_iconst (pc := 1693) (v := 1) hx hb dL_law_1693 (by decide) ?_
  refine lv_iadd (pc := 1694) hx hb dL_law_1694 ?_
  obtain ⟨v1, hv, h⟩ := zl_some h
  refine xlX (pc := 1695) hx hb hX0 hbl hbA hS hv dL_law_1695 ?_
  refine lv_aload_n (pc := 1696) hx hb dL_law_1696 rfl (lv_at hl 1 rfl) ?_
  refine lv_iload_n (pc := 1697) hx hb dL_law_1697 rfl (lv_at hl 0 rfl) ?_
  refine lv_iconst (pc := 1698) (v := 2) hx hb dL_law_1698 (by decide) ?_
  refine lv_iadd (pc := 1699) hx hb dL_law_1699 ?_
  obtain ⟨v2, hv, h⟩ := zl_some h
  refine xlX (pc := 1700) hx hb hX0 hbl hbA hS hv dL_law_1700 ?_
  refine lv_aload_n (pc := 1701) hx hb dL_law_1701 rfl (lv_at hl 1 rfl) ?_
  refine lv_iload_n (pc := 1702) hx hb dL_law_1702 rfl (lv_at hl 0 rfl) ?_
  refine lv_iconst (pc := 1703) (v := 3) hx hb dL_law_1703 (by decide) ?_
  refine lv_iadd (pc := 1704) hx hb dL_law_1704 ?_
  obtain ⟨v3, hv, h⟩ := zl_some h
  refine xlX (pc := 1705) hx hb hX0 hbl hbA hS hv dL_law_1705 ?_
  obtain ⟨_, hg, h⟩ := zl_some h
  obtain ⟨v4, σ5, hv, h⟩ := zb_some h
  refine xcallVi (pc := 1706) (As := [.int v1, .int v2, .int v3]) (rest := []) ⟨hx, hb, hml, hown, hts⟩ (c_X11_row l D c o g N hv) zc11 zV_L_197 rfl zd_X11_row ⟨Nat.le_of_ble_eq_true rfl, Nat.le_of_ble_eq_true rfl⟩ hK hP hE hS hg hl.1 rfl (Nat.le_of_ble_eq_true rfl) ⟨Nat.le_of_ble_eq_true rfl, Nat.le_of_ble_eq_true rfl⟩ dL_law_1706 (fun H locs hP hS => ?_)
  refine lv_pop (pc := 1709) hx hb dL_law_1709 rfl ?_
  refine lv_aload_n (pc := 1710) hx hb dL_law_1710 rfl (lv_at hl 3 rfl) ?_
  refine lv_aload_n (pc := 1711) hx hb dL_law_1711 rfl (lv_at hl 1 rfl) ?_
  refine lv_iload_n (pc := 1712) hx hb dL_law_1712 rfl (lv_at hl 0 rfl) ?_
  refine lv_iconst (pc := 1713) (v := 1) hx hb dL_law_1713 (by decide) ?_
  refine lv_iadd (pc := 1714) hx hb dL_law_1714 ?_
  obtain ⟨v6, hv, h⟩ := zl_some h
  refine xlX (pc := 1715) hx hb hX0 hbl hbA hS hv dL_law_1715 ?_
  refine lv_aload_n (pc := 1716) hx hb dL_law_1716 rfl (lv_at hl 1 rfl) ?_
  refine lv_iload_n (pc := 1717) hx hb dL_law_1717 rfl (lv_at hl 0 rfl) ?_
  refine lv_iconst (pc := 1718) (v := 2) hx hb dL_law_1718 (by decide) ?_
  refine lv_iadd (pc := 1719) hx hb dL_law_1719 ?_
  obtain ⟨v7, hv, h⟩ := zl_some h
  refine xlX (pc := 1720) hx hb hX0 hbl hbA hS hv dL_law_1720 ?_
  refine lv_aload_n (pc := 1721) hx hb dL_law_1721 rfl (lv_at hl 1 rfl) ?_
  refine lv_iload_n (pc := 1722) hx hb dL_law_1722 rfl (lv_at hl 0 rfl) ?_
  refine lv_iconst (pc := 1723) (v := 3) hx hb dL_law_1723 (by decide) ?_
  refine lv_iadd (pc := 1724) hx hb dL_law_1724 ?_
  obtain ⟨v8, hv, h⟩ := zl_some h
  refine xlX (pc := 1725) hx hb hX0 hbl hbA hS hv dL_law_1725 ?_
  obtain ⟨_, hg, h⟩ := zl_some h
  obtain ⟨v9, σ10, hv, h⟩ := zb_some h
  refine xcallVi (pc := 1726) (As := [.int v6, .int v7, .int v8]) (rest := []) ⟨hx, hb, hml, hown, hts⟩ (c_X12_row l D c o g N hv) zc12 zV_L_200 rfl zd_X12_row ⟨Nat.le_of_ble_eq_true rfl, Nat.le_of_ble_eq_true rfl⟩ hK hP hE hS hg hl.1 rfl (Nat.le_of_ble_eq_true rfl) ⟨Nat.le_of_ble_eq_true rfl, Nat.le_of_ble_eq_true rfl⟩ dL_law_1726 (fun H locs hP hS => ?_)
  refine lv_pop (pc := 1729) hx hb dL_law_1729 rfl ?_
  refine lv_goto (pc := 1730) (tgt := 1869) hx hb dL_law_1730 (by decide) ?_
  refine lv_iinc (pc := 1869) (v := x3 + 6) (lv' := [(3, .int (x3 + 6)), (0, .ref b), (1, .ref (o + 0)), (2, .ref (o + 218))]) hx hb dL_law_1869 hl (k := 0) rfl rfl (by decide) rfl (fun ls hl => ?_)
  refine lv_goto (pc := 1872) (tgt := 18) hx hb dL_law_1872 (by decide) ?_
  exact ih (x3 + 6, σ10) h _ _ ls hP hS (lv_sub hl [0, 1, 2, 3] rfl)
set_option maxHeartbeats 4000000 in
set_option maxRecDepth 100000 in
theorem wl_1733 {p : Program} {e : Env} {s : State} {m : MethodId} {below : List Frame} {meth : Method} {cd : Code} (l : Launch) {b L : Nat} {xs : Nat → Int32} {o : Nat} {D : va_G} {c : zC} {g : zEp} (ho : s.heap.size = o) (C0 : lw_At p s m meth cd b L xs) (hK : zKt D c s) (hE : zE g o s s.heap) (N : Nat) {ρ : Int32 × zS} (hρ : ρ.1 = 1) {ag : Int32 × zS → Option (Int32 × zS)} (ih : ∀ (t : Int32 × zS), ag t = some ρ → ∀ (H : Heap) (locs : List Loc) (ls : Array Slot), zP D c o (zabs o t.2) H → va_S (zA o) s.heap H locs → lv_has ls 4 [(3, .int t.1), (0, .ref b), (1, .ref (o + 0)), (2, .ref (o + 218))] → W p l e room_1 s m #[Value.ref b] below meth cd H locs 243 106038 (lw_Z below #[Value.ref b] s) (F0 m 18 ls [])) {x3 : Int32} {σ : zS} (h : J_L_law_1733 N L xs ag x3 σ = some ρ) (H : Heap) (locs : List Loc) (ls : Array Slot) (hP : zP D c o (zabs o σ) H) (hS : va_S (zA o) s.heap H locs) (hl : lv_has ls 4 [(3, .int x3), (0, .ref b), (1, .ref (o + 0)), (2, .ref (o + 218))]) : W p l e room_1 s m #[Value.ref b] below meth cd H locs 243 106038 (lw_Z below #[Value.ref b] s) (F0 m 1733 ls []) := by
  obtain ⟨hx, hb, hr, hml, hown, hts0, hX0, hbl, hlocks, hgv⟩ := C0
  have hts : ∀ w ∈ zWl, w.before #[Value.ref b] s = true := fun w hw => hts0 w (List.mem_filter.mp hw).1
  have hown : s.vm.findClass RL = some m.cls := hown
  have hbA : ¬ zA o b := by show ¬ o ≤ b; omega
  rw [J_L_law_1733.eq_1] at h
  refine lv_aload_n (pc := 1733) hx hb dL_law_1733 rfl (lv_at hl 2 rfl) ?_
  refine lv_aload_n (pc := 1734) hx hb dL_law_1734 rfl (lv_at hl 1 rfl) ?_
  refine lv_iload_n (pc := 1735) hx hb dL_law_1735 rfl (lv_at hl 0 rfl) ?_
  refine lv_iconst (pc := 1736) (v := 1) hx hb dL_law_1736 (by decide) ?_
  refine lv_iadd (pc := 1737) hx hb dL_law_1737 ?_
  obtain ⟨v1, hv, h⟩ := zl_some h
  refine xlX (pc := 1738) hx hb hX0 hbl hbA hS hv dL_law_1738 ?_
  refine lv_aload_n (pc := 1739) hx hb dL_law_1739 rfl (lv_at hl 1 rfl) ?_
  refine lv_iload_n (pc := 1740) hx hb dL_law_1740 rfl (lv_at hl 0 rfl) ?_
  refine lv_iconst (pc := 1741) (v := 2) hx hb dL_law_1741 (by decide) ?_
  refine lv_iadd (pc := 1742) hx hb dL_law_1742 ?_
  obtain ⟨v2, hv, h⟩ := zl_some h
  refine xlX (pc := 1743) hx hb hX0 hbl hbA hS hv dL_law_1743 ?_
  refine lv_aload_n (pc := 1744) hx hb dL_law_1744 rfl (lv_at hl 1 rfl) ?_
  refine lv_iload_n (pc := 1745) hx hb dL_law_1745 rfl (lv_at hl 0 rfl) ?_
  refine lv_iconst (pc := 1746) (v := 3) hx hb dL_law_1746 (by decide) ?_
  refine lv_iadd (pc := 1747) hx hb dL_law_1747 ?_
  obtain ⟨v3, hv, h⟩ := zl_some h
  refine xlX (pc := 1748) hx hb hX0 hbl hbA hS hv dL_law_1748 ?_
  refine lv_i2l (pc := 1749) hx hb dL_law_1749 rfl ?_
  refine lv_bipush (pc := 1750) (v := 32) hx hb dL_law_1750 (by decide) ?_
  refine lv_lshl (pc := 1752) (v := zsl (Int32.toInt64 v3) 32) hx hb dL_law_1752 rfl ?_
  refine lv_aload_n (pc := 1753) hx hb dL_law_1753 rfl (lv_at hl 1 rfl) ?_
  refine lv_iload_n (pc := 1754) hx hb dL_law_1754 rfl (lv_at hl 0 rfl) ?_
  refine lv_iconst (pc := 1755) (v := 4) hx hb dL_law_1755 (by decide) ?_
  refine lv_iadd (pc := 1756) hx hb dL_law_1756 ?_
  obtain ⟨v4, hv, h⟩ := zl_some h
  refine xlX (pc := 1757) hx hb hX0 hbl hbA hS hv dL_law_1757 ?_
  refine lv_i2l (pc := 1758) hx hb dL_law_1758 rfl ?_
  refine lv_ldc2 (pc := 1759) hx hb hown (hts _ zk_L_201) dL_law_1759 ?_
  refine lv_land (pc := 1762) hx hb dL_law_1762 ?_
  refine lv_lor (pc := 1763) hx hb dL_law_1763 ?_
  obtain ⟨_, hg, h⟩ := zl_some h
  obtain ⟨v5, σ6, hv, h⟩ := zb_some h
  refine xcallVi (pc := 1764) (As := [.int v1, .int v2, .long ((zsl (Int32.toInt64 v3) 32) ||| ((Int32.toInt64 v4) &&& 4294967295))]) (rest := []) ⟨hx, hb, hml, hown, hts⟩ (c_X11_write l D c o g N hv) zc11 zV_L_203 rfl zd_X11_write ⟨Nat.le_of_ble_eq_true rfl, Nat.le_of_ble_eq_true rfl⟩ hK hP hE hS hg hl.1 rfl (Nat.le_of_ble_eq_true rfl) ⟨Nat.le_of_ble_eq_true rfl, Nat.le_of_ble_eq_true rfl⟩ dL_law_1764 (fun H locs hP hS => ?_)
  refine lv_pop (pc := 1767) hx hb dL_law_1767 rfl ?_
  refine lv_aload_n (pc := 1768) hx hb dL_law_1768 rfl (lv_at hl 3 rfl) ?_
  refine lv_aload_n (pc := 1769) hx hb dL_law_1769 rfl (lv_at hl 1 rfl) ?_
  refine lv_iload_n (pc := 1770) hx hb dL_law_1770 rfl (lv_at hl 0 rfl) ?_
  refine lv_iconst (pc := 1771) (v := 1) hx hb dL_law_1771 (by decide) ?_
  refine lv_iadd (pc := 1772) hx hb dL_law_1772 ?_
  obtain ⟨v7, hv, h⟩ := zl_some h
  refine xlX (pc := 1773) hx hb hX0 hbl hbA hS hv dL_law_1773 ?_
  refine lv_aload_n (pc := 1774) hx hb dL_law_1774 rfl (lv_at hl 1 rfl) ?_
  refine lv_iload_n (pc := 1775) hx hb dL_law_1775 rfl (lv_at hl 0 rfl) ?_
  refine lv_iconst (pc := 1776) (v := 2) hx hb dL_law_1776 (by decide) ?_
  refine lv_iadd (pc := 1777) hx hb dL_law_1777 ?_
  obtain ⟨v8, hv, h⟩ := zl_some h
  refine xlX (pc := 1778) hx hb hX0 hbl hbA hS hv dL_law_1778 ?_
  refine lv_aload_n (pc := 1779) hx hb dL_law_1779 rfl (lv_at hl 1 rfl) ?_
  refine lv_iload_n (pc := 1780) hx hb dL_law_1780 rfl (lv_at hl 0 rfl) ?_
  refine lv_iconst (pc := 1781) (v := 3) hx hb dL_law_1781 (by decide) ?_
  refine lv_iadd (pc := 1782) hx hb dL_law_1782 ?_
  obtain ⟨v9, hv, h⟩ := zl_some h
  refine xlX (pc := 1783) hx hb hX0 hbl hbA hS hv dL_law_1783 ?_
  refine lv_i2l (pc := 1784) hx hb dL_law_1784 rfl ?_
  refine lv_bipush (pc := 1785) (v := 32) hx hb dL_law_1785 (by decide) ?_
  refine lv_lshl (pc := 1787) (v := zsl (Int32.toInt64 v9) 32) hx hb dL_law_1787 rfl ?_
  refine lv_aload_n (pc := 1788) hx hb dL_law_1788 rfl (lv_at hl 1 rfl) ?_
  refine lv_iload_n (pc := 1789) hx hb dL_law_1789 rfl (lv_at hl 0 rfl) ?_
  refine lv_iconst (pc := 1790) (v := 4) hx hb dL_law_1790 (by decide) ?_
  refine lv_iadd (pc := 1791) hx hb dL_law_1791 ?_
  obtain ⟨v10, hv, h⟩ := zl_some h
  refine xlX (pc := 1792) hx hb hX0 hbl hbA hS hv dL_law_1792 ?_
  refine lv_i2l (pc := 1793) hx hb dL_law_1793 rfl ?_
  refine lv_ldc2 (pc := 1794) hx hb hown (hts _ zk_L_201) dL_law_1794 ?_
  refine lv_land (pc := 1797) hx hb dL_law_1797 ?_
  refine lv_lor (pc := 1798) hx hb dL_law_1798 ?_
  obtain ⟨_, hg, h⟩ := zl_some h
  obtain ⟨v11, σ12, hv, h⟩ := zb_some h
  refine xcallVi (pc := 1799) (As := [.int v7, .int v8, .long ((zsl (Int32.toInt64 v9) 32) ||| ((Int32.toInt64 v10) &&& 4294967295))]) (rest := []) ⟨hx, hb, hml, hown, hts⟩ (c_X12_write l D c o g N hv) zc12 zV_L_207 rfl zd_X12_write ⟨Nat.le_of_ble_eq_true rfl, Nat.le_of_ble_eq_true rfl⟩ hK hP hE hS hg hl.1 rfl (Nat.le_of_ble_eq_true rfl) ⟨Nat.le_of_ble_eq_true rfl, Nat.le_of_ble_eq_true rfl⟩ dL_law_1799 (fun H locs hP hS => ?_)
  refine lv_pop (pc := 1802) hx hb dL_law_1802 rfl ?_
  refine lv_goto (pc := 1803) (tgt := 1869) hx hb dL_law_1803 (by decide) ?_
  refine lv_iinc (pc := 1869) (v := x3 + 6) (lv' := [(3, .int (x3 + 6)), (0, .ref b), (1, .ref (o + 0)), (2, .ref (o + 218))]) hx hb dL_law_1869 hl (k := 0) rfl rfl (by decide) rfl (fun ls hl => ?_)
  refine lv_goto (pc := 1872) (tgt := 18) hx hb dL_law_1872 (by decide) ?_
  exact ih (x3 + 6, σ12) h _ _ ls hP hS (lv_sub hl [0, 1, 2, 3] rfl)
set_option maxHeartbeats 4000000 in
set_option maxRecDepth 100000 in
theorem wl_1806 {p : Program} {e : Env} {s : State} {m : MethodId} {below : List Frame} {meth : Method} {cd : Code} (l : Launch) {b L : Nat} {xs : Nat → Int32} {o : Nat} {D : va_G} {c : zC} {g : zEp} (ho : s.heap.size = o) (C0 : lw_At p s m meth cd b L xs) (hK : zKt D c s) (hE : zE g o s s.heap) (N : Nat) {ρ : Int32 × zS} (hρ : ρ.1 = 1) {ag : Int32 × zS → Option (Int32 × zS)} (ih : ∀ (t : Int32 × zS), ag t = some ρ → ∀ (H : Heap) (locs : List Loc) (ls : Array Slot), zP D c o (zabs o t.2) H → va_S (zA o) s.heap H locs → lv_has ls 4 [(3, .int t.1), (0, .ref b), (1, .ref (o + 0)), (2, .ref (o + 218))] → W p l e room_1 s m #[Value.ref b] below meth cd H locs 243 106038 (lw_Z below #[Value.ref b] s) (F0 m 18 ls [])) {x3 : Int32} {σ : zS} (h : J_L_law_1806 N L xs ag x3 σ = some ρ) (H : Heap) (locs : List Loc) (ls : Array Slot) (hP : zP D c o (zabs o σ) H) (hS : va_S (zA o) s.heap H locs) (hl : lv_has ls 4 [(3, .int x3), (0, .ref b), (1, .ref (o + 0)), (2, .ref (o + 218))]) : W p l e room_1 s m #[Value.ref b] below meth cd H locs 243 106038 (lw_Z below #[Value.ref b] s) (F0 m 1806 ls []) := by
  obtain ⟨hx, hb, hr, hml, hown, hts0, hX0, hbl, hlocks, hgv⟩ := C0
  have hts : ∀ w ∈ zWl, w.before #[Value.ref b] s = true := fun w hw => hts0 w (List.mem_filter.mp hw).1
  have hown : s.vm.findClass RL = some m.cls := hown
  have hbA : ¬ zA o b := by show ¬ o ≤ b; omega
  rw [J_L_law_1806.eq_1] at h
  refine lv_aload_n (pc := 1806) hx hb dL_law_1806 rfl (lv_at hl 2 rfl) ?_
  refine lv_aload_n (pc := 1807) hx hb dL_law_1807 rfl (lv_at hl 1 rfl) ?_
  refine lv_iload_n (pc := 1808) hx hb dL_law_1808 rfl (lv_at hl 0 rfl) ?_
  refine lv_iconst (pc := 1809) (v := 1) hx hb dL_law_1809 (by decide) ?_
  refine lv_iadd (pc := 1810) hx hb dL_law_1810 ?_
  obtain ⟨v1, hv, h⟩ := zl_some h
  refine xlX (pc := 1811) hx hb hX0 hbl hbA hS hv dL_law_1811 ?_
  refine lv_aload_n (pc := 1812) hx hb dL_law_1812 rfl (lv_at hl 1 rfl) ?_
  refine lv_iload_n (pc := 1813) hx hb dL_law_1813 rfl (lv_at hl 0 rfl) ?_
  refine lv_iconst (pc := 1814) (v := 2) hx hb dL_law_1814 (by decide) ?_
  refine lv_iadd (pc := 1815) hx hb dL_law_1815 ?_
  obtain ⟨v2, hv, h⟩ := zl_some h
  refine xlX (pc := 1816) hx hb hX0 hbl hbA hS hv dL_law_1816 ?_
  refine lv_aload_n (pc := 1817) hx hb dL_law_1817 rfl (lv_at hl 1 rfl) ?_
  refine lv_iload_n (pc := 1818) hx hb dL_law_1818 rfl (lv_at hl 0 rfl) ?_
  refine lv_iconst (pc := 1819) (v := 3) hx hb dL_law_1819 (by decide) ?_
  refine lv_iadd (pc := 1820) hx hb dL_law_1820 ?_
  obtain ⟨v3, hv, h⟩ := zl_some h
  refine xlX (pc := 1821) hx hb hX0 hbl hbA hS hv dL_law_1821 ?_
  refine lv_aload_n (pc := 1822) hx hb dL_law_1822 rfl (lv_at hl 1 rfl) ?_
  refine lv_iload_n (pc := 1823) hx hb dL_law_1823 rfl (lv_at hl 0 rfl) ?_
  refine lv_iconst (pc := 1824) (v := 4) hx hb dL_law_1824 (by decide) ?_
  refine lv_iadd (pc := 1825) hx hb dL_law_1825 ?_
  obtain ⟨v4, hv, h⟩ := zl_some h
  refine xlX (pc := 1826) hx hb hX0 hbl hbA hS hv dL_law_1826 ?_
  refine lv_aload_n (pc := 1827) hx hb dL_law_1827 rfl (lv_at hl 1 rfl) ?_
  refine lv_iload_n (pc := 1828) hx hb dL_law_1828 rfl (lv_at hl 0 rfl) ?_
  refine lv_iconst (pc := 1829) (v := 5) hx hb dL_law_1829 (by decide) ?_
  refine lv_iadd (pc := 1830) hx hb dL_law_1830 ?_
  obtain ⟨v5, hv, h⟩ := zl_some h
  refine xlX (pc := 1831) hx hb hX0 hbl hbA hS hv dL_law_1831 ?_
  obtain ⟨_, hg, h⟩ := zl_some h
  obtain ⟨v6, σ7, hv, h⟩ := zb_some h
  refine xcallVi (pc := 1832) (As := [.int v1, .int v2, .int v3, .int v4, .int v5]) (rest := []) ⟨hx, hb, hml, hown, hts⟩ (c_X11_paste l D c o g N hv) zc11 zV_L_208 rfl zd_X11_paste ⟨Nat.le_of_ble_eq_true rfl, Nat.le_of_ble_eq_true rfl⟩ hK hP hE hS hg hl.1 rfl (Nat.le_of_ble_eq_true rfl) ⟨Nat.le_of_ble_eq_true rfl, Nat.le_of_ble_eq_true rfl⟩ dL_law_1832 (fun H locs hP hS => ?_)
  refine lv_pop (pc := 1835) hx hb dL_law_1835 rfl ?_
  refine lv_aload_n (pc := 1836) hx hb dL_law_1836 rfl (lv_at hl 3 rfl) ?_
  refine lv_aload_n (pc := 1837) hx hb dL_law_1837 rfl (lv_at hl 1 rfl) ?_
  refine lv_iload_n (pc := 1838) hx hb dL_law_1838 rfl (lv_at hl 0 rfl) ?_
  refine lv_iconst (pc := 1839) (v := 1) hx hb dL_law_1839 (by decide) ?_
  refine lv_iadd (pc := 1840) hx hb dL_law_1840 ?_
  obtain ⟨v8, hv, h⟩ := zl_some h
  refine xlX (pc := 1841) hx hb hX0 hbl hbA hS hv dL_law_1841 ?_
  refine lv_aload_n (pc := 1842) hx hb dL_law_1842 rfl (lv_at hl 1 rfl) ?_
  refine lv_iload_n (pc := 1843) hx hb dL_law_1843 rfl (lv_at hl 0 rfl) ?_
  refine lv_iconst (pc := 1844) (v := 2) hx hb dL_law_1844 (by decide) ?_
  refine lv_iadd (pc := 1845) hx hb dL_law_1845 ?_
  obtain ⟨v9, hv, h⟩ := zl_some h
  refine xlX (pc := 1846) hx hb hX0 hbl hbA hS hv dL_law_1846 ?_
  refine lv_aload_n (pc := 1847) hx hb dL_law_1847 rfl (lv_at hl 1 rfl) ?_
  refine lv_iload_n (pc := 1848) hx hb dL_law_1848 rfl (lv_at hl 0 rfl) ?_
  refine lv_iconst (pc := 1849) (v := 3) hx hb dL_law_1849 (by decide) ?_
  refine lv_iadd (pc := 1850) hx hb dL_law_1850 ?_
  obtain ⟨v10, hv, h⟩ := zl_some h
  refine xlX (pc := 1851) hx hb hX0 hbl hbA hS hv dL_law_1851 ?_
  refine lv_aload_n (pc := 1852) hx hb dL_law_1852 rfl (lv_at hl 1 rfl) ?_
  refine lv_iload_n (pc := 1853) hx hb dL_law_1853 rfl (lv_at hl 0 rfl) ?_
  refine lv_iconst (pc := 1854) (v := 4) hx hb dL_law_1854 (by decide) ?_
  refine lv_iadd (pc := 1855) hx hb dL_law_1855 ?_
  obtain ⟨v11, hv, h⟩ := zl_some h
  refine xlX (pc := 1856) hx hb hX0 hbl hbA hS hv dL_law_1856 ?_
  refine lv_aload_n (pc := 1857) hx hb dL_law_1857 rfl (lv_at hl 1 rfl) ?_
  refine lv_iload_n (pc := 1858) hx hb dL_law_1858 rfl (lv_at hl 0 rfl) ?_
  refine lv_iconst (pc := 1859) (v := 5) hx hb dL_law_1859 (by decide) ?_
  refine lv_iadd (pc := 1860) hx hb dL_law_1860 ?_
  obtain ⟨v12, hv, h⟩ := zl_some h
  refine xlX (pc := 1861) hx hb hX0 hbl hbA hS hv dL_law_1861 ?_
  obtain ⟨_, hg, h⟩ := zl_some h
  obtain ⟨v13, σ14, hv, h⟩ := zb_some h
  refine xcallVi (pc := 1862) (As := [.int v8, .int v9, .int v10, .int v11, .int v12]) (rest := []) ⟨hx, hb, hml, hown, hts⟩ (c_X12_paste l D c o g N hv) zc12 zV_L_211 rfl zd_X12_paste ⟨Nat.le_of_ble_eq_true rfl, Nat.le_of_ble_eq_true rfl⟩ hK hP hE hS hg hl.1 rfl (Nat.le_of_ble_eq_true rfl) ⟨Nat.le_of_ble_eq_true rfl, Nat.le_of_ble_eq_true rfl⟩ dL_law_1862 (fun H locs hP hS => ?_)
  refine lv_pop (pc := 1865) hx hb dL_law_1865 rfl ?_
  refine lv_goto (pc := 1866) (tgt := 1869) hx hb dL_law_1866 (by decide) ?_
  refine lv_iinc (pc := 1869) (v := x3 + 6) (lv' := [(3, .int (x3 + 6)), (0, .ref b), (1, .ref (o + 0)), (2, .ref (o + 218))]) hx hb dL_law_1869 hl (k := 0) rfl rfl (by decide) rfl (fun ls hl => ?_)
  refine lv_goto (pc := 1872) (tgt := 18) hx hb dL_law_1872 (by decide) ?_
  exact ih (x3 + 6, σ14) h _ _ ls hP hS (lv_sub hl [0, 1, 2, 3] rfl)
set_option maxHeartbeats 4000000 in
set_option maxRecDepth 100000 in
theorem wl_loop {p : Program} {e : Env} {s : State} {m : MethodId} {below : List Frame} {meth : Method} {cd : Code} (l : Launch) {b L : Nat} {xs : Nat → Int32} {o : Nat} {D : va_G} {c : zC} {g : zEp} (ho : s.heap.size = o) (C0 : lw_At p s m meth cd b L xs) (hK : zKt D c s) (hE : zE g o s s.heap) (N : Nat) {ρ : Int32 × zS} (hρ : ρ.1 = 1) : ∀ (n : Nat) (t : Int32 × zS), zlp (F_L_law_18 N L xs) n t = some ρ → ∀ (H : Heap) (locs : List Loc) (ls : Array Slot), zP D c o (zabs o t.2) H → va_S (zA o) s.heap H locs → lv_has ls 4 [(3, .int t.1), (0, .ref b), (1, .ref (o + 0)), (2, .ref (o + 218))] → W p l e room_1 s m #[Value.ref b] below meth cd H locs 243 106038 (lw_Z below #[Value.ref b] s) (F0 m 18 ls []) := by
  have C00 := C0
  obtain ⟨hx, hb, hr, hml, hown, hts0, hX0, hbl, hlocks, hgv⟩ := C0
  have hts : ∀ w ∈ zWl, w.before #[Value.ref b] s = true := fun w hw => hts0 w (List.mem_filter.mp hw).1
  have hown : s.vm.findClass RL = some m.cls := hown
  have hbA : ¬ zA o b := by show ¬ o ≤ b; omega
  refine zlp_ind (fun ag ih t h H locs ls hP hS hl => ?_)
  obtain ⟨x3, σ⟩ := t
  have hP : zP D c o (zabs o σ) H := hP
  have hl : lv_has ls 4 [(3, .int x3), (0, .ref b), (1, .ref (o + 0)), (2, .ref (o + 218))] := hl
  rw [F_L_law_18.eq_1] at h
  show W p l e room_1 s m #[Value.ref b] below meth cd H locs 243 106038 (lw_Z below #[Value.ref b] s) (F0 m 18 ls [])
  refine lv_iload_n (pc := 18) hx hb dL_law_18 rfl (lv_at hl 0 rfl) ?_
  refine lv_aload_n (pc := 19) hx hb dL_law_19 rfl (lv_at hl 1 rfl) ?_
  refine va_slen (pc := 20) hx hb hX0 hbl hbA hS dL_law_20 ?_
  refine lv_bipush (pc := 21) (v := 6) hx hb dL_law_21 (by decide) ?_
  refine lv_isub (pc := 23) hx hb dL_law_23 ?_
  refine lv_icmp_gt (pc := 24) (tgt := 1875) hx hb dL_law_24 (by decide) (fun c1 => ?_) (fun c1 => ?_)
  · rw [if_pos c1] at h
    refine lv_iconst (pc := 1875) (v := 1) hx hb dL_law_1875 (by decide) ?_
    exact xlret (pc := 1876) ho hx hb hr hlocks hS hρ h dL_law_1876
  · rw [if_neg c1] at h
    refine lv_aload_n (pc := 27) hx hb dL_law_27 rfl (lv_at hl 1 rfl) ?_
    refine lv_iload_n (pc := 28) hx hb dL_law_28 rfl (lv_at hl 0 rfl) ?_
    obtain ⟨v1, hv, h⟩ := zl_some h
    refine xlX (pc := 29) hx hb hX0 hbl hbA hS hv dL_law_29 ?_
    refine lv_bipush (pc := 30) (v := 63) hx hb dL_law_30 (by decide) ?_
    refine lv_iand (pc := 32) hx hb dL_law_32 ?_
    by_cases w0_33 : (v1 &&& 63) = 0
    · rw [if_pos w0_33] at h
      refine lv_tableIn (pc := 33) (tgt := 236) hx hb dL_law_33 (by rw [w0_33]; decide) (by rw [w0_33]; decide) (by rw [w0_33]; rfl) (by decide) ?_
      exact wl_236 l ho C00 hK hE N hρ ih h _ _ ls hP hS (lv_sub hl [0, 1, 2, 3] rfl)
    rw [if_neg w0_33] at h
    by_cases w1_33 : (v1 &&& 63) = 1
    · rw [if_pos w1_33] at h
      refine lv_tableIn (pc := 33) (tgt := 299) hx hb dL_law_33 (by rw [w1_33]; decide) (by rw [w1_33]; decide) (by rw [w1_33]; rfl) (by decide) ?_
      exact wl_299 l ho C00 hK hE N hρ ih h _ _ ls hP hS (lv_sub hl [0, 1, 2, 3] rfl)
    rw [if_neg w1_33] at h
    by_cases w2_33 : (v1 &&& 63) = 2
    · rw [if_pos w2_33] at h
      refine lv_tableIn (pc := 33) (tgt := 322) hx hb dL_law_33 (by rw [w2_33]; decide) (by rw [w2_33]; decide) (by rw [w2_33]; rfl) (by decide) ?_
      exact wl_322 l ho C00 hK hE N hρ ih h _ _ ls hP hS (lv_sub hl [0, 1, 2, 3] rfl)
    rw [if_neg w2_33] at h
    by_cases w3_33 : (v1 &&& 63) = 3
    · rw [if_pos w3_33] at h
      refine lv_tableIn (pc := 33) (tgt := 335) hx hb dL_law_33 (by rw [w3_33]; decide) (by rw [w3_33]; decide) (by rw [w3_33]; rfl) (by decide) ?_
      exact wl_335 l ho C00 hK hE N hρ ih h _ _ ls hP hS (lv_sub hl [0, 1, 2, 3] rfl)
    rw [if_neg w3_33] at h
    by_cases w4_33 : (v1 &&& 63) = 4
    · rw [if_pos w4_33] at h
      refine lv_tableIn (pc := 33) (tgt := 358) hx hb dL_law_33 (by rw [w4_33]; decide) (by rw [w4_33]; decide) (by rw [w4_33]; rfl) (by decide) ?_
      exact wl_358 l ho C00 hK hE N hρ ih h _ _ ls hP hS (lv_sub hl [0, 1, 2, 3] rfl)
    rw [if_neg w4_33] at h
    by_cases w5_33 : (v1 &&& 63) = 5
    · rw [if_pos w5_33] at h
      refine lv_tableIn (pc := 33) (tgt := 381) hx hb dL_law_33 (by rw [w5_33]; decide) (by rw [w5_33]; decide) (by rw [w5_33]; rfl) (by decide) ?_
      exact wl_381 l ho C00 hK hE N hρ ih h _ _ ls hP hS (lv_sub hl [0, 1, 2, 3] rfl)
    rw [if_neg w5_33] at h
    by_cases w6_33 : (v1 &&& 63) = 6
    · rw [if_pos w6_33] at h
      refine lv_tableIn (pc := 33) (tgt := 404) hx hb dL_law_33 (by rw [w6_33]; decide) (by rw [w6_33]; decide) (by rw [w6_33]; rfl) (by decide) ?_
      exact wl_404 l ho C00 hK hE N hρ ih h _ _ ls hP hS (lv_sub hl [0, 1, 2, 3] rfl)
    rw [if_neg w6_33] at h
    by_cases w7_33 : (v1 &&& 63) = 7
    · rw [if_pos w7_33] at h
      refine lv_tableIn (pc := 33) (tgt := 437) hx hb dL_law_33 (by rw [w7_33]; decide) (by rw [w7_33]; decide) (by rw [w7_33]; rfl) (by decide) ?_
      exact wl_437 l ho C00 hK hE N hρ ih h _ _ ls hP hS (lv_sub hl [0, 1, 2, 3] rfl)
    rw [if_neg w7_33] at h
    by_cases w8_33 : (v1 &&& 63) = 8
    · rw [if_pos w8_33] at h
      refine lv_tableIn (pc := 33) (tgt := 490) hx hb dL_law_33 (by rw [w8_33]; decide) (by rw [w8_33]; decide) (by rw [w8_33]; rfl) (by decide) ?_
      exact wl_490 l ho C00 hK hE N hρ ih h _ _ ls hP hS (lv_sub hl [0, 1, 2, 3] rfl)
    rw [if_neg w8_33] at h
    by_cases w9_33 : (v1 &&& 63) = 9
    · rw [if_pos w9_33] at h
      refine lv_tableIn (pc := 33) (tgt := 533) hx hb dL_law_33 (by rw [w9_33]; decide) (by rw [w9_33]; decide) (by rw [w9_33]; rfl) (by decide) ?_
      exact wl_533 l ho C00 hK hE N hρ ih h _ _ ls hP hS (lv_sub hl [0, 1, 2, 3] rfl)
    rw [if_neg w9_33] at h
    by_cases w10_33 : (v1 &&& 63) = 10
    · rw [if_pos w10_33] at h
      refine lv_tableIn (pc := 33) (tgt := 592) hx hb dL_law_33 (by rw [w10_33]; decide) (by rw [w10_33]; decide) (by rw [w10_33]; rfl) (by decide) ?_
      exact wl_592 l ho C00 hK hE N hρ ih h _ _ ls hP hS (lv_sub hl [0, 1, 2, 3] rfl)
    rw [if_neg w10_33] at h
    by_cases w11_33 : (v1 &&& 63) = 11
    · rw [if_pos w11_33] at h
      refine lv_tableIn (pc := 33) (tgt := 635) hx hb dL_law_33 (by rw [w11_33]; decide) (by rw [w11_33]; decide) (by rw [w11_33]; rfl) (by decide) ?_
      exact wl_635 l ho C00 hK hE N hρ ih h _ _ ls hP hS (lv_sub hl [0, 1, 2, 3] rfl)
    rw [if_neg w11_33] at h
    by_cases w12_33 : (v1 &&& 63) = 12
    · rw [if_pos w12_33] at h
      refine lv_tableIn (pc := 33) (tgt := 704) hx hb dL_law_33 (by rw [w12_33]; decide) (by rw [w12_33]; decide) (by rw [w12_33]; rfl) (by decide) ?_
      exact wl_704 l ho C00 hK hE N hρ ih h _ _ ls hP hS (lv_sub hl [0, 1, 2, 3] rfl)
    rw [if_neg w12_33] at h
    by_cases w13_33 : (v1 &&& 63) = 13
    · rw [if_pos w13_33] at h
      refine lv_tableIn (pc := 33) (tgt := 747) hx hb dL_law_33 (by rw [w13_33]; decide) (by rw [w13_33]; decide) (by rw [w13_33]; rfl) (by decide) ?_
      exact wl_747 l ho C00 hK hE N hρ ih h _ _ ls hP hS (lv_sub hl [0, 1, 2, 3] rfl)
    rw [if_neg w13_33] at h
    by_cases w14_33 : (v1 &&& 63) = 14
    · rw [if_pos w14_33] at h
      refine lv_tableIn (pc := 33) (tgt := 780) hx hb dL_law_33 (by rw [w14_33]; decide) (by rw [w14_33]; decide) (by rw [w14_33]; rfl) (by decide) ?_
      exact wl_780 l ho C00 hK hE N hρ ih h _ _ ls hP hS (lv_sub hl [0, 1, 2, 3] rfl)
    rw [if_neg w14_33] at h
    by_cases w15_33 : (v1 &&& 63) = 15
    · rw [if_pos w15_33] at h
      refine lv_tableIn (pc := 33) (tgt := 813) hx hb dL_law_33 (by rw [w15_33]; decide) (by rw [w15_33]; decide) (by rw [w15_33]; rfl) (by decide) ?_
      exact wl_813 l ho C00 hK hE N hρ ih h _ _ ls hP hS (lv_sub hl [0, 1, 2, 3] rfl)
    rw [if_neg w15_33] at h
    by_cases w16_33 : (v1 &&& 63) = 16
    · rw [if_pos w16_33] at h
      refine lv_tableIn (pc := 33) (tgt := 846) hx hb dL_law_33 (by rw [w16_33]; decide) (by rw [w16_33]; decide) (by rw [w16_33]; rfl) (by decide) ?_
      exact wl_846 l ho C00 hK hE N hρ ih h _ _ ls hP hS (lv_sub hl [0, 1, 2, 3] rfl)
    rw [if_neg w16_33] at h
    by_cases w17_33 : (v1 &&& 63) = 17
    · rw [if_pos w17_33] at h
      refine lv_tableIn (pc := 33) (tgt := 869) hx hb dL_law_33 (by rw [w17_33]; decide) (by rw [w17_33]; decide) (by rw [w17_33]; rfl) (by decide) ?_
      exact wl_869 l ho C00 hK hE N hρ ih h _ _ ls hP hS (lv_sub hl [0, 1, 2, 3] rfl)
    rw [if_neg w17_33] at h
    by_cases w18_33 : (v1 &&& 63) = 18
    · rw [if_pos w18_33] at h
      refine lv_tableIn (pc := 33) (tgt := 902) hx hb dL_law_33 (by rw [w18_33]; decide) (by rw [w18_33]; decide) (by rw [w18_33]; rfl) (by decide) ?_
      exact wl_902 l ho C00 hK hE N hρ ih h _ _ ls hP hS (lv_sub hl [0, 1, 2, 3] rfl)
    rw [if_neg w18_33] at h
    by_cases w19_33 : (v1 &&& 63) = 19
    · rw [if_pos w19_33] at h
      refine lv_tableIn (pc := 33) (tgt := 935) hx hb dL_law_33 (by rw [w19_33]; decide) (by rw [w19_33]; decide) (by rw [w19_33]; rfl) (by decide) ?_
      exact wl_935 l ho C00 hK hE N hρ ih h _ _ ls hP hS (lv_sub hl [0, 1, 2, 3] rfl)
    rw [if_neg w19_33] at h
    by_cases w20_33 : (v1 &&& 63) = 20
    · rw [if_pos w20_33] at h
      refine lv_tableIn (pc := 33) (tgt := 968) hx hb dL_law_33 (by rw [w20_33]; decide) (by rw [w20_33]; decide) (by rw [w20_33]; rfl) (by decide) ?_
      exact wl_968 l ho C00 hK hE N hρ ih h _ _ ls hP hS (lv_sub hl [0, 1, 2, 3] rfl)
    rw [if_neg w20_33] at h
    by_cases w21_33 : (v1 &&& 63) = 21
    · rw [if_pos w21_33] at h
      refine lv_tableIn (pc := 33) (tgt := 1001) hx hb dL_law_33 (by rw [w21_33]; decide) (by rw [w21_33]; decide) (by rw [w21_33]; rfl) (by decide) ?_
      exact wl_1001 l ho C00 hK hE N hρ ih h _ _ ls hP hS (lv_sub hl [0, 1, 2, 3] rfl)
    rw [if_neg w21_33] at h
    by_cases w22_33 : (v1 &&& 63) = 22
    · rw [if_pos w22_33] at h
      refine lv_tableIn (pc := 33) (tgt := 1034) hx hb dL_law_33 (by rw [w22_33]; decide) (by rw [w22_33]; decide) (by rw [w22_33]; rfl) (by decide) ?_
      exact wl_1034 l ho C00 hK hE N hρ ih h _ _ ls hP hS (lv_sub hl [0, 1, 2, 3] rfl)
    rw [if_neg w22_33] at h
    by_cases w23_33 : (v1 &&& 63) = 23
    · rw [if_pos w23_33] at h
      refine lv_tableIn (pc := 33) (tgt := 1067) hx hb dL_law_33 (by rw [w23_33]; decide) (by rw [w23_33]; decide) (by rw [w23_33]; rfl) (by decide) ?_
      exact wl_1067 l ho C00 hK hE N hρ ih h _ _ ls hP hS (lv_sub hl [0, 1, 2, 3] rfl)
    rw [if_neg w23_33] at h
    by_cases w24_33 : (v1 &&& 63) = 24
    · rw [if_pos w24_33] at h
      refine lv_tableIn (pc := 33) (tgt := 1100) hx hb dL_law_33 (by rw [w24_33]; decide) (by rw [w24_33]; decide) (by rw [w24_33]; rfl) (by decide) ?_
      exact wl_1100 l ho C00 hK hE N hρ ih h _ _ ls hP hS (lv_sub hl [0, 1, 2, 3] rfl)
    rw [if_neg w24_33] at h
    by_cases w25_33 : (v1 &&& 63) = 25
    · rw [if_pos w25_33] at h
      refine lv_tableIn (pc := 33) (tgt := 1133) hx hb dL_law_33 (by rw [w25_33]; decide) (by rw [w25_33]; decide) (by rw [w25_33]; rfl) (by decide) ?_
      exact wl_1133 l ho C00 hK hE N hρ ih h _ _ ls hP hS (lv_sub hl [0, 1, 2, 3] rfl)
    rw [if_neg w25_33] at h
    by_cases w26_33 : (v1 &&& 63) = 26
    · rw [if_pos w26_33] at h
      refine lv_tableIn (pc := 33) (tgt := 1166) hx hb dL_law_33 (by rw [w26_33]; decide) (by rw [w26_33]; decide) (by rw [w26_33]; rfl) (by decide) ?_
      exact wl_1166 l ho C00 hK hE N hρ ih h _ _ ls hP hS (lv_sub hl [0, 1, 2, 3] rfl)
    rw [if_neg w26_33] at h
    by_cases w27_33 : (v1 &&& 63) = 27
    · rw [if_pos w27_33] at h
      refine lv_tableIn (pc := 33) (tgt := 1199) hx hb dL_law_33 (by rw [w27_33]; decide) (by rw [w27_33]; decide) (by rw [w27_33]; rfl) (by decide) ?_
      exact wl_1199 l ho C00 hK hE N hρ ih h _ _ ls hP hS (lv_sub hl [0, 1, 2, 3] rfl)
    rw [if_neg w27_33] at h
    by_cases w28_33 : (v1 &&& 63) = 28
    · rw [if_pos w28_33] at h
      refine lv_tableIn (pc := 33) (tgt := 1232) hx hb dL_law_33 (by rw [w28_33]; decide) (by rw [w28_33]; decide) (by rw [w28_33]; rfl) (by decide) ?_
      exact wl_1232 l ho C00 hK hE N hρ ih h _ _ ls hP hS (lv_sub hl [0, 1, 2, 3] rfl)
    rw [if_neg w28_33] at h
    by_cases w29_33 : (v1 &&& 63) = 29
    · rw [if_pos w29_33] at h
      refine lv_tableIn (pc := 33) (tgt := 1255) hx hb dL_law_33 (by rw [w29_33]; decide) (by rw [w29_33]; decide) (by rw [w29_33]; rfl) (by decide) ?_
      exact wl_1255 l ho C00 hK hE N hρ ih h _ _ ls hP hS (lv_sub hl [0, 1, 2, 3] rfl)
    rw [if_neg w29_33] at h
    by_cases w30_33 : (v1 &&& 63) = 30
    · rw [if_pos w30_33] at h
      refine lv_tableIn (pc := 33) (tgt := 1268) hx hb dL_law_33 (by rw [w30_33]; decide) (by rw [w30_33]; decide) (by rw [w30_33]; rfl) (by decide) ?_
      exact wl_1268 l ho C00 hK hE N hρ ih h _ _ ls hP hS (lv_sub hl [0, 1, 2, 3] rfl)
    rw [if_neg w30_33] at h
    by_cases w31_33 : (v1 &&& 63) = 31
    · rw [if_pos w31_33] at h
      refine lv_tableIn (pc := 33) (tgt := 1301) hx hb dL_law_33 (by rw [w31_33]; decide) (by rw [w31_33]; decide) (by rw [w31_33]; rfl) (by decide) ?_
      exact wl_1301 l ho C00 hK hE N hρ ih h _ _ ls hP hS (lv_sub hl [0, 1, 2, 3] rfl)
    rw [if_neg w31_33] at h
    by_cases w32_33 : (v1 &&& 63) = 32
    · rw [if_pos w32_33] at h
      refine lv_tableIn (pc := 33) (tgt := 1324) hx hb dL_law_33 (by rw [w32_33]; decide) (by rw [w32_33]; decide) (by rw [w32_33]; rfl) (by decide) ?_
      exact wl_1324 l ho C00 hK hE N hρ ih h _ _ ls hP hS (lv_sub hl [0, 1, 2, 3] rfl)
    rw [if_neg w32_33] at h
    by_cases w33_33 : (v1 &&& 63) = 33
    · rw [if_pos w33_33] at h
      refine lv_tableIn (pc := 33) (tgt := 1347) hx hb dL_law_33 (by rw [w33_33]; decide) (by rw [w33_33]; decide) (by rw [w33_33]; rfl) (by decide) ?_
      exact wl_1347 l ho C00 hK hE N hρ ih h _ _ ls hP hS (lv_sub hl [0, 1, 2, 3] rfl)
    rw [if_neg w33_33] at h
    by_cases w34_33 : (v1 &&& 63) = 34
    · rw [if_pos w34_33] at h
      refine lv_tableIn (pc := 33) (tgt := 1380) hx hb dL_law_33 (by rw [w34_33]; decide) (by rw [w34_33]; decide) (by rw [w34_33]; rfl) (by decide) ?_
      exact wl_1380 l ho C00 hK hE N hρ ih h _ _ ls hP hS (lv_sub hl [0, 1, 2, 3] rfl)
    rw [if_neg w34_33] at h
    by_cases w35_33 : (v1 &&& 63) = 35
    · rw [if_pos w35_33] at h
      refine lv_tableIn (pc := 33) (tgt := 1413) hx hb dL_law_33 (by rw [w35_33]; decide) (by rw [w35_33]; decide) (by rw [w35_33]; rfl) (by decide) ?_
      exact wl_1413 l ho C00 hK hE N hρ ih h _ _ ls hP hS (lv_sub hl [0, 1, 2, 3] rfl)
    rw [if_neg w35_33] at h
    by_cases w36_33 : (v1 &&& 63) = 36
    · rw [if_pos w36_33] at h
      refine lv_tableIn (pc := 33) (tgt := 1436) hx hb dL_law_33 (by rw [w36_33]; decide) (by rw [w36_33]; decide) (by rw [w36_33]; rfl) (by decide) ?_
      exact wl_1436 l ho C00 hK hE N hρ ih h _ _ ls hP hS (lv_sub hl [0, 1, 2, 3] rfl)
    rw [if_neg w36_33] at h
    by_cases w37_33 : (v1 &&& 63) = 37
    · rw [if_pos w37_33] at h
      refine lv_tableIn (pc := 33) (tgt := 1479) hx hb dL_law_33 (by rw [w37_33]; decide) (by rw [w37_33]; decide) (by rw [w37_33]; rfl) (by decide) ?_
      exact wl_1479 l ho C00 hK hE N hρ ih h _ _ ls hP hS (lv_sub hl [0, 1, 2, 3] rfl)
    rw [if_neg w37_33] at h
    by_cases w38_33 : (v1 &&& 63) = 38
    · rw [if_pos w38_33] at h
      refine lv_tableIn (pc := 33) (tgt := 1512) hx hb dL_law_33 (by rw [w38_33]; decide) (by rw [w38_33]; decide) (by rw [w38_33]; rfl) (by decide) ?_
      exact wl_1512 l ho C00 hK hE N hρ ih h _ _ ls hP hS (lv_sub hl [0, 1, 2, 3] rfl)
    rw [if_neg w38_33] at h
    by_cases w39_33 : (v1 &&& 63) = 39
    · rw [if_pos w39_33] at h
      refine lv_tableIn (pc := 33) (tgt := 1555) hx hb dL_law_33 (by rw [w39_33]; decide) (by rw [w39_33]; decide) (by rw [w39_33]; rfl) (by decide) ?_
      exact wl_1555 l ho C00 hK hE N hρ ih h _ _ ls hP hS (lv_sub hl [0, 1, 2, 3] rfl)
    rw [if_neg w39_33] at h
    by_cases w40_33 : (v1 &&& 63) = 40
    · rw [if_pos w40_33] at h
      refine lv_tableIn (pc := 33) (tgt := 1588) hx hb dL_law_33 (by rw [w40_33]; decide) (by rw [w40_33]; decide) (by rw [w40_33]; rfl) (by decide) ?_
      exact wl_1588 l ho C00 hK hE N hρ ih h _ _ ls hP hS (lv_sub hl [0, 1, 2, 3] rfl)
    rw [if_neg w40_33] at h
    by_cases w41_33 : (v1 &&& 63) = 41
    · rw [if_pos w41_33] at h
      refine lv_tableIn (pc := 33) (tgt := 1621) hx hb dL_law_33 (by rw [w41_33]; decide) (by rw [w41_33]; decide) (by rw [w41_33]; rfl) (by decide) ?_
      exact wl_1621 l ho C00 hK hE N hρ ih h _ _ ls hP hS (lv_sub hl [0, 1, 2, 3] rfl)
    rw [if_neg w41_33] at h
    by_cases w42_33 : (v1 &&& 63) = 42
    · rw [if_pos w42_33] at h
      refine lv_tableIn (pc := 33) (tgt := 1644) hx hb dL_law_33 (by rw [w42_33]; decide) (by rw [w42_33]; decide) (by rw [w42_33]; rfl) (by decide) ?_
      exact wl_1644 l ho C00 hK hE N hρ ih h _ _ ls hP hS (lv_sub hl [0, 1, 2, 3] rfl)
    rw [if_neg w42_33] at h
    by_cases w43_33 : (v1 &&& 63) = 43
    · rw [if_pos w43_33] at h
      refine lv_tableIn (pc := 33) (tgt := 1667) hx hb dL_law_33 (by rw [w43_33]; decide) (by rw [w43_33]; decide) (by rw [w43_33]; rfl) (by decide) ?_
      exact wl_1667 l ho C00 hK hE N hρ ih h _ _ ls hP hS (lv_sub hl [0, 1, 2, 3] rfl)
    rw [if_neg w43_33] at h
    by_cases w44_33 : (v1 &&& 63) = 44
    · rw [if_pos w44_33] at h
      refine lv_tableIn (pc := 33) (tgt := 1690) hx hb dL_law_33 (by rw [w44_33]; decide) (by rw [w44_33]; decide) (by rw [w44_33]; rfl) (by decide) ?_
      exact wl_1690 l ho C00 hK hE N hρ ih h _ _ ls hP hS (lv_sub hl [0, 1, 2, 3] rfl)
    rw [if_neg w44_33] at h
    by_cases w45_33 : (v1 &&& 63) = 45
    · rw [if_pos w45_33] at h
      refine lv_tableIn (pc := 33) (tgt := 1733) hx hb dL_law_33 (by rw [w45_33]; decide) (by rw [w45_33]; decide) (by rw [w45_33]; rfl) (by decide) ?_
      exact wl_1733 l ho C00 hK hE N hρ ih h _ _ ls hP hS (lv_sub hl [0, 1, 2, 3] rfl)
    rw [if_neg w45_33] at h
    by_cases w46_33 : (v1 &&& 63) = 46
    · rw [if_pos w46_33] at h
      refine lv_tableIn (pc := 33) (tgt := 1806) hx hb dL_law_33 (by rw [w46_33]; decide) (by rw [w46_33]; decide) (by rw [w46_33]; rfl) (by decide) ?_
      exact wl_1806 l ho C00 hK hE N hρ ih h _ _ ls hP hS (lv_sub hl [0, 1, 2, 3] rfl)
    rw [if_neg w46_33] at h
    have wo_33 : (v1 &&& 63).toInt < 0 ∨ 46 < (v1 &&& 63).toInt := by
      have q0 := lv_neT w0_33 (a := 0) rfl; have q1 := lv_neT w1_33 (a := 1) rfl; have q2 := lv_neT w2_33 (a := 2) rfl; have q3 := lv_neT w3_33 (a := 3) rfl; have q4 := lv_neT w4_33 (a := 4) rfl; have q5 := lv_neT w5_33 (a := 5) rfl; have q6 := lv_neT w6_33 (a := 6) rfl; have q7 := lv_neT w7_33 (a := 7) rfl; have q8 := lv_neT w8_33 (a := 8) rfl; have q9 := lv_neT w9_33 (a := 9) rfl; have q10 := lv_neT w10_33 (a := 10) rfl; have q11 := lv_neT w11_33 (a := 11) rfl; have q12 := lv_neT w12_33 (a := 12) rfl; have q13 := lv_neT w13_33 (a := 13) rfl; have q14 := lv_neT w14_33 (a := 14) rfl; have q15 := lv_neT w15_33 (a := 15) rfl; have q16 := lv_neT w16_33 (a := 16) rfl; have q17 := lv_neT w17_33 (a := 17) rfl; have q18 := lv_neT w18_33 (a := 18) rfl; have q19 := lv_neT w19_33 (a := 19) rfl; have q20 := lv_neT w20_33 (a := 20) rfl; have q21 := lv_neT w21_33 (a := 21) rfl; have q22 := lv_neT w22_33 (a := 22) rfl; have q23 := lv_neT w23_33 (a := 23) rfl; have q24 := lv_neT w24_33 (a := 24) rfl; have q25 := lv_neT w25_33 (a := 25) rfl; have q26 := lv_neT w26_33 (a := 26) rfl; have q27 := lv_neT w27_33 (a := 27) rfl; have q28 := lv_neT w28_33 (a := 28) rfl; have q29 := lv_neT w29_33 (a := 29) rfl; have q30 := lv_neT w30_33 (a := 30) rfl; have q31 := lv_neT w31_33 (a := 31) rfl; have q32 := lv_neT w32_33 (a := 32) rfl; have q33 := lv_neT w33_33 (a := 33) rfl; have q34 := lv_neT w34_33 (a := 34) rfl; have q35 := lv_neT w35_33 (a := 35) rfl; have q36 := lv_neT w36_33 (a := 36) rfl; have q37 := lv_neT w37_33 (a := 37) rfl; have q38 := lv_neT w38_33 (a := 38) rfl; have q39 := lv_neT w39_33 (a := 39) rfl; have q40 := lv_neT w40_33 (a := 40) rfl; have q41 := lv_neT w41_33 (a := 41) rfl; have q42 := lv_neT w42_33 (a := 42) rfl; have q43 := lv_neT w43_33 (a := 43) rfl; have q44 := lv_neT w44_33 (a := 44) rfl; have q45 := lv_neT w45_33 (a := 45) rfl; have q46 := lv_neT w46_33 (a := 46) rfl
      omega
    refine lv_tableOut (pc := 33) (tgt := 1869) hx hb dL_law_33 wo_33 (by decide) ?_
    refine lv_iinc (pc := 1869) (v := x3 + 6) (lv' := [(3, .int (x3 + 6)), (0, .ref b), (1, .ref (o + 0)), (2, .ref (o + 218))]) hx hb dL_law_1869 hl (k := 0) rfl rfl (by decide) rfl (fun ls hl => ?_)
    refine lv_goto (pc := 1872) (tgt := 18) hx hb dL_law_1872 (by decide) ?_
    exact ih (x3 + 6, σ) h _ _ ls hP hS (lv_sub hl [0, 1, 2, 3] rfl)

/-! ===== how the cells are made: the cells from b on, one behind another ===== -/
def zL (D : va_G) (b : Nat) (ws : List va_E) (H : Heap) : Prop := H.size = b + ws.length ∧ ∀ (k : Nat) (e : va_E), ws[k]? = some e → va_at D vwCl (b + k, e) H
theorem zL.set {D : va_G} {b k : Nat} {ws : List va_E} {H H1 : Heap} {e0 e : va_E} (h : zL D b ws H) (hp : ws[k]? = some e0) (he : va_at D vwCl (b + k, e) H1) (z : H1.size = H.size) (oq : ∀ q : Nat, q ≠ b + k → H1[q]? = H[q]?) : zL D b (ws.set k e) H1 := by
  have hl := (List.getElem?_eq_some_iff.mp hp).1
  refine ⟨by rw [z, h.1, List.length_set], fun i x hi => ?_⟩
  by_cases hik : i = k
  · subst hik
    rw [List.getElem?_set_self hl] at hi
    cases hi
    exact he
  · rw [List.getElem?_set_ne (Ne.symm hik)] at hi
    exact (h.2 i x hi).kept (oq _ (by show b + i ≠ b + k; omega))
theorem zL.push {D : va_G} {b : Nat} {ws : List va_E} {H H1 : Heap} {e : va_E} (h : zL D b ws H) (he : va_at D vwCl (b + ws.length, e) H1) (z : H1.size = H.size + 1) (oq : ∀ q : Nat, q < H.size → H1[q]? = H[q]?) : zL D b (ws ++ [e]) H1 := by
  refine ⟨by rw [z, h.1, List.length_append, List.length_singleton]; omega, fun i x hi => ?_⟩
  by_cases hl : i < ws.length
  · rw [List.getElem?_append_left hl] at hi
    exact (h.2 i x hi).kept (oq _ (by show b + i < H.size; rw [h.1]; omega))
  · rw [List.getElem?_append_right (by omega)] at hi
    have hz : i - ws.length < 1 := (List.getElem?_eq_some_iff.mp hi).1
    rw [show i - ws.length = 0 by omega] at hi
    cases hi
    have hi2 : i = ws.length := by omega
    subst hi2
    exact he
theorem zL.tail {D : va_G} {b : Nat} {ws l : List va_E} {H : Heap} (h : zL D b (ws ++ l) H) : zL D (b + ws.length) l H := by
  refine ⟨by rw [h.1, List.length_append]; omega, fun i x hi => ?_⟩
  have := h.2 (ws.length + i) x (by rw [List.getElem?_append_right (by omega), show ws.length + i - ws.length = i by omega]; exact hi)
  rw [Nat.add_assoc]
  exact this
theorem zL.glue {D : va_G} {b : Nat} {ws l l1 : List va_E} {H H1 : Heap} (h : zL D b (ws ++ l) H) (h1 : zL D (b + ws.length) l1 H1) (hk : ∀ q : Nat, q < H.size → ¬ (b + ws.length ≤ q) → H1[q]? = H[q]?) : zL D b (ws ++ l1) H1 := by
  refine ⟨by rw [h1.1, List.length_append]; omega, fun i x hi => ?_⟩
  by_cases hl : i < ws.length
  · rw [List.getElem?_append_left hl] at hi
    have h2 := h.2 i x (by rw [List.getElem?_append_left hl]; exact hi)
    exact h2.kept (hk _ h2.lt (by show ¬ (b + ws.length ≤ b + i); omega))
  · rw [List.getElem?_append_right (by omega)] at hi
    have := h1.2 _ x hi
    rw [show b + ws.length + (i - ws.length) = b + i by omega] at this
    exact this
/-- the links to private constructors of nest mates, and the arrays of references -/
def zNl : List Cond := [Cond.methodLinkNest RX10 40 yX2_init "SharedBranch", Cond.methodLinkNest RX11 49 yX5_init "SharedBranch", Cond.methodLinkNest RX7 21 yX2_init "SharedBranch", Cond.methodLinkNest RX11 63 yX0_init "SharedBranch", Cond.methodLinkNest RX0 11 yX2_init "SharedBranch", Cond.methodLinkNest RX11 70 yX8_init "SharedBranch", Cond.methodLinkNest RX11 77 yX1_init "SharedBranch", Cond.methodLinkNest RX11 84 yX3_init "SharedBranch", Cond.methodLinkNest RX11 91 yX6_init "SharedBranch", Cond.methodLinkNest RX11 98 yX4_init "SharedBranch", Cond.methodLinkNest RX11 105 yX2_init "SharedBranch", Cond.methodLinkNest RX11 113 yX9_init "SharedBranch"]
def zX (U : State) : Prop := (∀ w ∈ zNl, va_Nw w U) ∧ va_AO RX2 U ∧ va_AO RX9 U ∧ va_AO RX10 U
theorem zX.warm {s U : State} (hW : s.WarmedH U.vm) (h : zX s) : zX U := by
  refine ⟨fun w hw => ?_, va_AO.moved hW.alike h.2.1, va_AO.moved hW.alike h.2.2.1, va_AO.moved hW.alike h.2.2.2⟩
  have h1 := h.1 w hw
  simp only [zNl, List.mem_cons, List.not_mem_nil, or_false] at hw
  rcases hw with rfl | rfl | rfl | rfl | rfl | rfl | rfl | rfl | rfl | rfl | rfl | rfl <;> exact va_Nw.warmM hW h1
theorem zX.same {u U : State} (hv : u.vm = U.vm) (h : zX u) : zX U := by
  refine ⟨fun w hw => ?_, va_AO.moved (by rw [hv]; exact Vm.Alike.refl _) h.2.1, va_AO.moved (by rw [hv]; exact Vm.Alike.refl _) h.2.2.1, va_AO.moved (by rw [hv]; exact Vm.Alike.refl _) h.2.2.2⟩
  have h1 := h.1 w hw
  simp only [zNl, List.mem_cons, List.not_mem_nil, or_false] at hw
  rcases hw with rfl | rfl | rfl | rfl | rfl | rfl | rfl | rfl | rfl | rfl | rfl | rfl <;> exact va_Nw.same rfl hv h1
def zQc (D : va_G) (c : zC) (b : Nat) (ws : List va_E) (U : State) : Prop := zL D b ws U.heap ∧ zKt D c U ∧ zX U
theorem zblindC (D : va_G) (c : zC) (b : Nat) (ws : List va_E) (av : List Value) : FrameBlind (va_Pc av (zQc D c b ws)) := fun a U g mk q => ⟨q.1, q.2.1, va_K.moved (u := U) (U := U.calling g mk a) (Vm.Alike.refl U.vm) q.2.2.1, zX.same (u := U) (U := U.calling g mk a) rfl q.2.2.2⟩
abbrev zrc (h mc ms : Nat) : Room := { frames := h, cells := mc, slots := ms, locals := 60 * h }
/-- what comes behind a constructor -/
abbrev zQv (D : va_G) (c : zC) (b : Nat) (ws : List va_E) : Array Value → State → Outcome → State → Prop := va_Qv (fun _ : Unit => True) (fun _ t => zL D b ws t.heap ∧ zKt D c t) (zA b)
theorem zMetC {l : Launch} {y : MethodName} {cc : ByteArray} {maxL h mc ms : Nat} {D : va_G} {c : zC} {b : Nat} {ws ws1 : List va_E}
    (hy : plainName y.cls = true) (hlen : 1 ≤ maxL)
    (body : ∀ (p : Program) (e : Env) (s : State) (m : MethodId) (below : List Frame) (meth : Method) (cd : Code), zB p s m meth cd cc maxL y.cls none #[.ref b] → meth.name = y.name → zL D b ws s.heap → zKt D c s → zX s → ∀ ls : Array Slot, lv_has ls maxL [(0, .ref b)] →
      W p l e (zrc h mc ms) s m #[.ref b] below meth cd s.heap [] 0 0 (MQ below (zQv D c b ws1) #[.ref b] s mc ms (zA b)) (F0 m 0 ls [])) :
    Met l y (Cond.code y cc maxL none :: zWl) (zrc h mc ms) (va_Pc [.ref b] (zQc D c b ws)) (zQv D c b ws1) mc ms (zA b) := by
  refine Met.ofW (cc := cc) (maxL := maxL) (ret := none) hy rfl ?_
  intro p e s m args below meth cd s₁ B hml hv
  obtain ⟨rfl, hP, hK, hX⟩ := hv
  have hts := atoms_spec (ws := Cond.code y cc maxL none :: zWl) B.pre
  have hl := lv_entry [.ref b] (n := maxL) hlen
  rw [lg_entry_eq]
  exact body p e s m below meth cd ⟨B.exec, B.bytes, B.returns, hml, findClass_of_methodNamed B.named, fun w hw => hts w (List.mem_cons_of_mem _ hw), B.notSynchronized⟩ (name_of_methodNamed B.named B.method).1 hP hK hX _ hl
section ZCT
variable {p : Program} {l : Launch} {e : Env} {R : Room} {s : State} {m : MethodId} {args : Array Value} {below : List Frame} {meth : Method} {cd : Code} {H : Heap} {locs : List Loc} {cells slots : Nat} {Q : State → Prop}
variable {cc : ByteArray} {pc : Nat} {ls : Array Slot} {rest : List Value} {D : va_G} {c : zC} {b : Nat} {ws : List va_E} {H0 : Heap}
theorem zcnew {ci : Nat} {C : String} {T : u_T} {N : Nat} {ty : Nat → FieldType} (hc : zCl ci C T N ty) {own : String} {index : Nat} {fs : List Value} {a : Nat} (hx : p.tables.exec = Jvm.exec) (hb : cd.code = cc) (hts : ∀ w ∈ zWl, w.before args s = true) (hown : s.vm.findClass own = some m.cls) (hK : zKt D c s) (hP : zL D b ws H) (hS : va_S (zA b) H0 H locs)
    (hcl : Cond.classLink own index C ∈ zWl) (hinst : Cond.instantiable C N ∈ zWl) (hini : Cond.initialized C ∈ zWl) (hfs : ∀ j, j < N → defaultValue (ty j) = vp_V fs j) (hcells : cells + 1 ≤ R.cells) (hslots : slots + N ≤ R.slots) (ha : b + ws.length = a) (hdg : decode cc pc = .ok (.new index, 3))
    (kk : ∀ H1 : Heap, zL D b (ws ++ [.inr (ci, fs)]) H1 → va_S (zA b) H0 H1 locs → W p l e R s m args below meth cd H1 locs (cells + 1) (slots + N) Q (F0 m (pc + 3) ls (.ref a :: rest))) : W p l e R s m args below meth cd H locs cells slots Q (F0 m pc ls rest) := by
  subst ha
  obtain ⟨h13, h1, h2, h3, h4, h5⟩ := hc
  have hKn := hK.1 ci _ h1
  refine W.newcK hx hb hown (hts _ hcl) (hts _ hinst) (hts _ hini) rfl hdg hcells hslots hKn.2.1 hP.1 fun H1 kC hkC e1 z1 o1 => ?_
  refine kk H1 (hP.push ⟨_, h1, (u_born ty hts h5 hKn hkC e1 h2).to hfs⟩ (by rw [z1, hP.1]) (by rw [hP.1]; exact o1)) ⟨Nat.le_trans hS.1 (by rw [z1, hP.1]; omega), fun x q1 q2 => ?_, hS.2.2⟩
  exact (o1 x (by have := hS.1; rw [hP.1] at this; omega)).trans (hS.2.1 x q1 q2)
theorem zcarr {atype : ArrayType} {ty : FieldType} {cA : ClassId} {a0 : vp_A} {a : Nat} (t : Nat) (ht : (zty c)[t]? = some (cA, ty)) (hx : p.tables.exec = Jvm.exec) (hb : cd.code = cc) (hts : ∀ w ∈ zWl, w.before args s = true) (harr : Cond.arrayClass ty ∈ zWl) (hty : newarray.typeOf atype = ty) (hra : va_RA s cA ty = (s.vm.findClass ("[" ++ ty.toString) = some cA)) (hK : zKt D c s) (hP : zL D b ws H) (hS : va_S (zA b) H0 H locs)
    {n : Int32} {N : Nat} (ha0 : vp_cell cA a0 = arrV cA N (fun _ => defaultValue ty)) (hn : ¬ n < 0) (hN : n.toNatClampNeg = N) (hbytes : N * componentBytes ty ≤ 536870912) (hcells : cells + 1 ≤ R.cells) (hslots : slots + N ≤ R.slots) (ha : b + ws.length = a) (hdg : decode cc pc = .ok (.newarray atype, 2))
    (kk : ∀ H1 : Heap, zL D b (ws ++ [.inl (cA, a0)]) H1 → va_S (zA b) H0 H1 locs → W p l e R s m args below meth cd H1 locs (cells + 1) (slots + N) Q (F0 m (pc + 2) ls (.ref a :: rest))) : W p l e R s m args below meth cd H locs cells slots Q (F0 m pc ls (.int n :: rest)) := by
  subst ha
  subst hty
  have h1 := (hK.2 t _ ht).2
  rw [hra] at h1
  refine va_newaK hx hb (hts _ harr) rfl hdg rfl hn hN hbytes hcells hslots hP.1 fun H1 cA' e1 z1 o1 hAr hNm => ?_
  have hcA : cA' = cA := Option.some.inj (hNm.symm.trans h1)
  subst hcA
  refine kk H1 (hP.push ?_ (by rw [z1, hP.1]) (by rw [hP.1]; exact o1)) ⟨Nat.le_trans hS.1 (by rw [z1, hP.1]; omega), fun x q1 q2 => ?_, hS.2.2⟩
  · show H1[b + ws.length]? = some (vp_cell _ _)
    rw [ha0]
    exact e1
  · exact (o1 x (by have := hS.1; rw [hP.1] at this; omega)).trans (hS.2.1 x q1 q2)
theorem zcarrq {C own : String} {index : Nat} {cA : ClassId} {a : Nat} (t : Nat) (ht : (zty c)[t]? = some (cA, .object C)) (hx : p.tables.exec = Jvm.exec) (hb : cd.code = cc) (hts : ∀ w ∈ zWl, w.before args s = true) (hown : s.vm.findClass own = some m.cls) (hcl : Cond.classLink own index C ∈ zWl) (hover : va_AO C s) (hK : zKt D c s) (hP : zL D b ws H) (hS : va_S (zA b) H0 H locs)
    {n : Int32} {N : Nat} (hn : ¬ n < 0) (hN : n.toNatClampNeg = N) (hbytes : N * 4 ≤ 536870912) (hcells : cells + 1 ≤ R.cells) (hslots : slots + N ≤ R.slots) (ha : b + ws.length = a) (hdg : decode cc pc = .ok (.anewarray index, 3))
    (kk : ∀ H1 : Heap, zL D b (ws ++ [.inl (cA, N, .inr (.inr (.inr (.inr (fun _ => none)))))]) H1 → va_S (zA b) H0 H1 locs → W p l e R s m args below meth cd H1 locs (cells + 1) (slots + N) Q (F0 m (pc + 3) ls (.ref a :: rest))) : W p l e R s m args below meth cd H locs cells slots Q (F0 m pc ls (.int n :: rest)) := by
  subst ha
  subst hN
  obtain ⟨_, _, _, _, _, h1⟩ := (hK.2 t _ ht).2
  refine W.anew hx hb hown (hts _ hcl) (va_AO.use hover) rfl hdg rfl hn hbytes hcells hslots fun cA' kA comp f1 f2 f3 f4 => ?_
  have hcA : cA' = cA := Option.some.inj (f1.symm.trans h1)
  subst hcA
  generalize hH1 : H.push ({ cls := cA', slots := Array.replicate n.toNatClampNeg .null, vm := .none } : Cell) = H1
  have z1 : H1.size = H.size + 1 := by rw [← hH1, Array.size_push]
  have e1 : H1[H.size]? = some (arrV cA' n.toNatClampNeg (fun _ => .null)) := by rw [← hH1, Array.getElem?_push_size, ← arrV_new]
  have o1 : ∀ q : Nat, q < H.size → H1[q]? = H[q]? := fun q hq => by rw [← hH1, Array.getElem?_push, if_neg (Nat.ne_of_lt hq)]
  rw [hP.1] at e1
  have hk := kk H1 (hP.push (e := .inl (cA', n.toNatClampNeg, .inr (.inr (.inr (.inr (fun _ => none)))))) e1 z1 o1) ⟨Nat.le_trans hS.1 (by rw [z1]; omega), fun x q1 q2 => (o1 x (Nat.lt_of_lt_of_le q1 hS.1)).trans (hS.2.1 x q1 q2), hS.2.2⟩
  rw [← hP.1] at hk
  exact hk
theorem zcputF {ci k j : Nat} {C : String} {T : u_T} {N : Nat} {ty : Nat → FieldType} (hc : zCl ci C T N ty) {index : Nat} {fs : List Value} {v : Value} (hx : p.tables.exec = Jvm.exec) (hb : cd.code = cc) (hts : ∀ w ∈ zWl, w.before args s = true) (hown : s.vm.findClass C = some m.cls) (hK : zKt D c s) (hP : zL D b ws H) (hS : va_S (zA b) H0 H locs)
    (he : ws[k]? = some (.inr (ci, fs))) (hj : j < N) (hlink : Cond.fieldLink C index (T j).1 (T j).2.1 (T j).2.2.1 ∈ zWl) (hfin : (T j).2.2.2 = true) (hin2 : meth.name = "<init>") (hdecl : (T j).1 = C) (hn : narrow (ty j) v = v) (hfit : fits (ty j) v = true) (hl : j < fs.length) (hdg : decode cc pc = .ok (.putfield index, 3))
    (kk : ∀ (H1 : Heap) (locs1 : List Loc), zL D b (ws.set k (.inr (ci, fs.set j v))) H1 → va_S (zA b) H0 H1 locs1 → W p l e R s m args below meth cd H1 locs1 cells slots Q (F0 m (pc + 3) ls rest)) : W p l e R s m args below meth cd H locs cells slots Q (F0 m pc ls (v :: .ref (b + k) :: rest)) := by
  obtain ⟨h13, h1, h2, h3, h4, h5⟩ := hc
  have hap := va_apart (own := C) hts h5 ty h2 h3 hK h1
  obtain ⟨r, g1, cell, q1, q2, q3, q4⟩ := hP.2 k _ he
  have hr : r = (C, T, N) := Option.some.inj (g1.symm.trans h1)
  subst hr
  obtain ⟨hSl, hfc, kC, hkC, hkind⟩ := hK.1 ci _ h1
  obtain ⟨cf, kf, fi, f, hi, hsl⟩ := hSl j hj
  have hlay := hts _ (h5 _ (u_in_lay hj))
  unfold u_lay at hlay
  rw [if_pos hfin] at hlay
  have hst := (u_facts hfc hkC (u_lays hts h5 hj) hi).1
  have hcf : m.cls = cf := by
    obtain ⟨_, _, c', _, _, _, -, -, hf', -, -, -, hown2, -⟩ := Cond.laysFinal_spec hlay
    have e1 : c' = cf := by have := hi.symm.trans hf'; simp at this; exact this.1.symm
    rw [hdecl] at hown2
    rw [← e1]; exact Option.some.inj (hown.symm.trans hown2)
  refine W.putFinK hx hb hown (hts _ hlink) hi hst hcf hin2 (by rw [q2]; exact u_fits hfc hkC hkind (Or.inr hlay) hi (h2 j hj) hn hfit) q1 q3 (by rw [hsl]; exact k2_hasslot (q4 j hj)) rfl rfl hdg fun H' e1 e2 e3 => ?_
  rw [hsl] at e1 ⊢
  exact kk H' _ (hP.set he ⟨_, h1, t_OB.to (V := updV (vp_V fs) j v) ⟨_, e1, q2, q3, t_set q4 hap hj v⟩ (fun i _ => vp_updV_set hl v i)⟩ e2 e3) (hS.put e2 e3 (Nat.le_add_right b k))
theorem zcputN {ci k j : Nat} {C : String} {T : u_T} {N : Nat} {ty : Nat → FieldType} (hc : zCl ci C T N ty) {index : Nat} {fs : List Value} {v : Value} (hx : p.tables.exec = Jvm.exec) (hb : cd.code = cc) (hts : ∀ w ∈ zWl, w.before args s = true) (hown : s.vm.findClass C = some m.cls) (hK : zKt D c s) (hP : zL D b ws H) (hS : va_S (zA b) H0 H locs)
    (he : ws[k]? = some (.inr (ci, fs))) (hj : j < N) (hlink : Cond.fieldLink C index (T j).1 (T j).2.1 (T j).2.2.1 ∈ zWl) (hfin : (T j).2.2.2 = false) (hn : narrow (ty j) v = v) (hfit : fits (ty j) v = true) (hl : j < fs.length) (hdg : decode cc pc = .ok (.putfield index, 3))
    (kk : ∀ (H1 : Heap) (locs1 : List Loc), zL D b (ws.set k (.inr (ci, fs.set j v))) H1 → va_S (zA b) H0 H1 locs1 → W p l e R s m args below meth cd H1 locs1 cells slots Q (F0 m (pc + 3) ls rest)) : W p l e R s m args below meth cd H locs cells slots Q (F0 m pc ls (v :: .ref (b + k) :: rest)) := by
  obtain ⟨h13, h1, h2, h3, h4, h5⟩ := hc
  have hap := va_apart (own := C) hts h5 ty h2 h3 hK h1
  obtain ⟨r, g1, cell, q1, q2, q3, q4⟩ := hP.2 k _ he
  have hr : r = (C, T, N) := Option.some.inj (g1.symm.trans h1)
  subst hr
  obtain ⟨hSl, hfc, kC, hkC, hkind⟩ := hK.1 ci _ h1
  obtain ⟨cf, kf, fi, f, hi, hsl⟩ := hSl j hj
  have hlay := hts _ (h5 _ (u_in_lay hj))
  unfold u_lay at hlay
  rw [if_neg (by rw [hfin]; decide)] at hlay
  have hst := (u_facts hfc hkC (u_lays hts h5 hj) hi).1
  refine W.putK hx hb (f := f) ⟨hown, hts _ hlink, ⟨_, _, _, hi⟩, hst⟩ (by rw [q2]; exact u_store hfc hkC hkind hlay hi (h2 j hj) hn hfit) q1 q3 (by rw [hsl]; exact k2_hasslot (q4 j hj)) rfl rfl hdg fun H' e1 e2 e3 => ?_
  rw [hsl] at e1 ⊢
  exact kk H' _ (hP.set he ⟨_, h1, t_OB.to (V := updV (vp_V fs) j v) ⟨_, e1, q2, q3, t_set q4 hap hj v⟩ (fun i _ => vp_updV_set hl v i)⟩ e2 e3) (hS.put e2 e3 (Nat.le_add_right b k))
theorem zcget {ci k j : Nat} {C : String} {T : u_T} {N : Nat} {ty : Nat → FieldType} (hc : zCl ci C T N ty) {own : String} {index : Nat} {fs : List Value} {v : Value} (hx : p.tables.exec = Jvm.exec) (hb : cd.code = cc) (hts : ∀ w ∈ zWl, w.before args s = true) (hown : s.vm.findClass own = some m.cls) (hK : zKt D c s) (hP : zL D b ws H)
    (he : ws[k]? = some (.inr (ci, fs))) (hj : j < N) (hlink : Cond.fieldLink own index (T j).1 (T j).2.1 (T j).2.2.1 ∈ zWl) (hv : fs[j]? = some v) (hdg : decode cc pc = .ok (.getfield index, 3))
    (kk : W p l e R s m args below meth cd H locs cells slots Q (F0 m (pc + 3) ls (v :: rest))) : W p l e R s m args below meth cd H locs cells slots Q (F0 m pc ls (.ref (b + k) :: rest)) := by
  have hP1 : va_P D vwCl [(b + k, .inr (ci, fs))] H := fun i q hi => by
    have hz : i < 1 := (List.getElem?_eq_some_iff.mp hi).1
    rw [show i = 0 by omega] at hi
    cases hi
    exact hP.2 k _ he
  exact va_get (D := D) (ci := ci) (v := v) (C := C) (T := T) (N := N) hx hb hts hc.2.2.2.2.2 hown hK hP1 0 rfl hc.2.1 j hj (hts _ hlink) (fun _ h9 => h9) hv hdg kk
theorem zciast {k n : Nat} {f : Nat → Int32} (hx : p.tables.exec = Jvm.exec) (hb : cd.code = cc) (hK : zKt D c s) (hP : zL D b ws H) (hS : va_S (zA b) H0 H locs) (ha : ws[k]? = some (.inl (c.2.1, n, .inl f))) {i x : Int32} (hin : vp_in i n) (hdg : decode cc pc = .ok (.iastore, 1))
    (kk : ∀ (H1 : Heap) (locs1 : List Loc), zL D b (ws.set k (.inl (c.2.1, n, .inl (upd f i.toNatClampNeg x)))) H1 → va_S (zA b) H0 H1 locs1 → W p l e R s m args below meth cd H1 locs1 cells slots Q (F0 m (pc + 1) ls rest)) : W p l e R s m args below meth cd H locs cells slots Q (F0 m pc ls (.int x :: .int i :: .ref (b + k) :: rest)) := by
  refine W.iast hx hb (hP.2 k _ ha) ((hK.2 1 _ rfl).1 n (fun j => .int (f j))) (fun q => by cases q) (by show ¬ (i < 0 ∨ (arrV _ _ _).slots.size ≤ _); rw [arrV_size]; exact hin) rfl rfl hdg fun H1 e1 z oq => ?_
  refine kk H1 _ (hP.set ha ?_ z oq) (hS.put z oq (Nat.le_add_right b k))
  show H1[b + k]? = some (vp_cell _ _)
  rw [e1, vp_cell_i, vp_cell_i, arrV_store]
  congr 2
  funext q
  by_cases hq : q = i.toNatClampNeg
  · subst hq
    simp [updV, upd]
  · simp [updV, upd, hq]
theorem zcaast {k kv ci n t : Nat} {cA : ClassId} {f : Nat → Option Nat} {r : vw_C} {vs : List Value} (hx : p.tables.exec = Jvm.exec) (hb : cd.code = cc) (hK : zKt D c s) (hP : zL D b ws H) (hS : va_S (zA b) H0 H locs) (ht : (zty c)[t]? = some (cA, .object r.1)) (ha : ws[k]? = some (.inl (cA, n, .inr (.inr (.inr (.inr f)))))) (hv : ws[kv]? = some (.inr (ci, vs))) (hc : vwCl[ci]? = some r) {i : Int32} (hin : vp_in i n) (hdg : decode cc pc = .ok (.aastore, 1))
    (kk : ∀ (H1 : Heap) (locs1 : List Loc), zL D b (ws.set k (.inl (cA, n, .inr (.inr (.inr (.inr (va_up f i.toNatClampNeg (some (b + kv)))))))) ) H1 → va_S (zA b) H0 H1 locs1 → W p l e R s m args below meth cd H1 locs1 cells slots Q (F0 m (pc + 1) ls rest)) : W p l e R s m args below meth cd H locs cells slots Q (F0 m pc ls (.ref (b + kv) :: .int i :: .ref (b + k) :: rest)) := by
  have hlt : i.toNatClampNeg < n := Nat.not_le.mp fun q => hin (Or.inr q)
  have h0 : ¬ i < 0 := fun q => hin (Or.inl q)
  obtain ⟨r', hr', cellV, g1, g2, g3, -⟩ := hP.2 kv _ hv
  have hcls := (hK.1 ci r hc).2
  obtain ⟨kA, comp, k1, k2, k3, -⟩ := (hK.2 t _ ht).2
  have hcomp : comp = D.1 ci := Option.some.inj (k3.symm.trans hcls.1)
  subst hcomp
  obtain ⟨kC, hkC, -⟩ := hcls.2
  refine W.aast hx hb (hP.2 k _ ha) (fun q h => by cases h) (fun h => by cases h) k1 k2 rfl hkC ⟨h0, by show _ < (arrV _ _ _).slots.size; rw [arrV_size]; exact hlt⟩ g1 (fun q h => by rw [g3] at h; cases h) (by rw [g2]; exact hkC) (by rw [g2]; exact va_assign hcls) rfl rfl hdg fun H1 e1 z oq => ?_
  refine kk H1 _ (hP.set ha ?_ z oq) (hS.put z oq (Nat.le_add_right b k))
  show H1[b + k]? = some (vp_cell _ _)
  rw [e1, vp_cell_q, vp_cell_q, arrV_store]
  congr 2
  funext q
  by_cases hq : q = i.toNatClampNeg
  · subst hq
    simp [updV, va_up, va_rf]
  · simp [updV, va_up, hq]
variable {y : MethodName} {bytes : ByteArray} {maxL nL index mc ms h : Nat} {wc : List Cond} {own : String} {ws1 : List va_E} {e0 : va_E} {b' : Nat}
theorem zcback (hS : va_S (zA b) H0 H locs) (hP : zL D b (ws ++ [e0]) H) (hb' : b + ws.length = b')
    (hr : va_Run p l e R s m args below meth cd H locs cells slots mc ms (F0 m pc ls (.ref b' :: rest)) rest (zQv D c b' ws1 #[.ref b']) (zA b'))
    (kk : ∀ (H1 : Heap) (locs1 : List Loc), zL D b (ws ++ ws1) H1 → va_S (zA b) H0 H1 locs1 → W p l e R s m args below meth cd H1 locs1 (cells + mc) (slots + ms) Q (F0 m (pc + 3) ls rest)) : W p l e R s m args below meth cd H locs cells slots Q (F0 m pc ls (.ref b' :: rest)) := by
  subst hb'
  refine va_callv hr hS (fun q _ hq => Nat.le_trans (Nat.le_add_right b ws.length) hq) (fun q hq => Nat.le_trans (Nat.le_add_right b ws.length) hq) (fun u t H1 locs1 ht hvm hw hB hz1 hk1 hS1 => ?_)
  exact kk H1 locs1 (hP.glue (by rw [← ht]; exact hB.1) hk1) hS1
/-- a constructor of a nest mate (a private one), and an open one -/
theorem zccallN (S : CallFix p m cd cc nL s args zWl own) (hM : Met l y (Cond.code y bytes maxL none :: zWl) (zrc h mc ms) (va_Pc [.ref b'] (zQc D c b' [e0])) (zQv D c b' ws1) mc ms (zA b')) (hG : GoodIn zWl (Cond.code y bytes maxL none :: zWl)) (hl : Cond.methodLinkNest own index y "SharedBranch" ∈ zNl) (hini : Cond.initialized y.cls ∈ zWl) (him : Cond.instanceMethod y ∈ zWl) (hy : y.name = "<init>")
    (hd : y.cls ≠ "java/lang/invoke/MethodHandle" ∧ y.cls ≠ "java/lang/invoke/VarHandle" ∧ (parseMethodDescriptor y.desc).map (fun d => d.parameters.length) = some 0) (hR : h + 1 ≤ R.frames ∧ 8 + (maxL + 11) + 60 * h ≤ R.locals)
    (hK : zKt D c s) (hX : zX s) (hP : zL D b (ws ++ [e0]) H) (hS : va_S (zA b) H0 H locs) (hb' : b + ws.length = b') (hsize : ls.size = nL) (hroom : (rest.map fun v => v.category).sum ≤ 8) (hcs : cells + mc ≤ R.cells ∧ slots + ms ≤ R.slots) (hdg : decode cc pc = .ok (.invokespecial index, 3))
    (kk : ∀ (H1 : Heap) (locs1 : List Loc), zL D b (ws ++ ws1) H1 → va_S (zA b) H0 H1 locs1 → W p l e R s m args below meth cd H1 locs1 (cells + mc) (slots + ms) Q (F0 m (pc + 3) ls rest)) : W p l e R s m args below meth cd H locs cells slots Q (F0 m pc ls (.ref b' :: rest)) := by
  refine zcback hS hP hb' (va_runIN (As := []) (rest := rest) S hM ⟨va_cnB 0 S.2.2.2.2 hG rfl rfl rfl (hX.1 _ hl) (S.2.2.2.2 _ hini) hd hR, hy, S.2.2.2.2 _ him⟩ ⟨zblindC D c b' [e0] _, fun U hU hW => ⟨rfl, by rw [hU, ← hb']; exact hP.tail, va_K.moved hW.alike hK, hX.warm hW⟩⟩ rfl rfl hsize rfl (lv_room hroom) hdg hcs) kk
theorem zccallI (S : CallFix p m cd cc nL s args zWl own) (hM : Met l y (Cond.code y bytes maxL none :: zWl) (zrc h mc ms) (va_Pc [.ref b'] (zQc D c b' [e0])) (zQv D c b' ws1) mc ms (zA b')) (hG : GoodIn zWl (Cond.code y bytes maxL none :: zWl)) (hl : Cond.methodLink own index y ∈ zWl) (hini : Cond.initialized y.cls ∈ zWl) (him : Cond.instanceMethod y ∈ zWl) (hy : y.name = "<init>")
    (hd : y.cls ≠ "java/lang/invoke/MethodHandle" ∧ y.cls ≠ "java/lang/invoke/VarHandle" ∧ (parseMethodDescriptor y.desc).map (fun d => d.parameters.length) = some 0) (hR : h + 1 ≤ R.frames ∧ 8 + (maxL + 11) + 60 * h ≤ R.locals)
    (hK : zKt D c s) (hX : zX s) (hP : zL D b (ws ++ [e0]) H) (hS : va_S (zA b) H0 H locs) (hb' : b + ws.length = b') (hsize : ls.size = nL) (hroom : (rest.map fun v => v.category).sum ≤ 8) (hcs : cells + mc ≤ R.cells ∧ slots + ms ≤ R.slots) (hdg : decode cc pc = .ok (.invokespecial index, 3))
    (kk : ∀ (H1 : Heap) (locs1 : List Loc), zL D b (ws ++ ws1) H1 → va_S (zA b) H0 H1 locs1 → W p l e R s m args below meth cd H1 locs1 (cells + mc) (slots + ms) Q (F0 m (pc + 3) ls rest)) : W p l e R s m args below meth cd H locs cells slots Q (F0 m pc ls (.ref b' :: rest)) := by
  refine zcback hS hP hb' (va_runI (As := []) (rest := rest) S hM (cwI 0 S.2.2.2.2 hG rfl rfl rfl (S.2.2.2.2 _ hini) (S.2.2.2.2 _ hl) (S.2.2.2.2 _ him) hy hd hR) ⟨zblindC D c b' [e0] _, fun U hU hW => ⟨rfl, by rw [hU, ← hb']; exact hP.tail, va_K.moved hW.alike hK, hX.warm hW⟩⟩ rfl rfl hsize rfl (lv_room hroom) hdg hcs) kk
end ZCT

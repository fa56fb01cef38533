/-- a class of the tables -/
def zCl (ci : Nat) (C : String) (T : u_T) (N : Nat) (ty : Nat → FieldType) : Prop := ci < 13 ∧ vwCl[ci]? = some (C, T, N) ∧ (∀ k, k < N → parseFieldDescriptor (T k).2.2.1 = some (ty k)) ∧ (∀ a, a < N → ∀ b, b < N → a ≠ b → (T a).2.1 ≠ (T b).2.1) ∧ (zF ci).length = N ∧ (∀ w ∈ u_ws C T N, w ∈ zWl)
theorem zc0 : zCl 0 RX0 TX0 5 tyX0 := ⟨by decide, rfl, tyX0_ok, nmX0, rfl, zu_X0⟩
theorem zc1 : zCl 1 RX1 TX1 9 tyX1 := ⟨by decide, rfl, tyX1_ok, nmX1, rfl, zu_X1⟩
theorem zc2 : zCl 2 RX2 TX2 1 tyX2 := ⟨by decide, rfl, tyX2_ok, nmX2, rfl, zu_X2⟩
theorem zc3 : zCl 3 RX3 TX3 3 tyX3 := ⟨by decide, rfl, tyX3_ok, nmX3, rfl, zu_X3⟩
theorem zc4 : zCl 4 RX4 TX4 3 tyX4 := ⟨by decide, rfl, tyX4_ok, nmX4, rfl, zu_X4⟩
theorem zc5 : zCl 5 RX5 TX5 14 tyX5 := ⟨by decide, rfl, tyX5_ok, nmX5, rfl, zu_X5⟩
theorem zc6 : zCl 6 RX6 TX6 1 tyX6 := ⟨by decide, rfl, tyX6_ok, nmX6, rfl, zu_X6⟩
theorem zc7 : zCl 7 RX7 TX7 2 tyX7 := ⟨by decide, rfl, tyX7_ok, nmX7, rfl, zu_X7⟩
theorem zc8 : zCl 8 RX8 TX8 2 tyX8 := ⟨by decide, rfl, tyX8_ok, nmX8, rfl, zu_X8⟩
theorem zc9 : zCl 9 RX9 TX9 3 tyX9 := ⟨by decide, rfl, tyX9_ok, nmX9, rfl, zu_X9⟩
theorem zc10 : zCl 10 RX10 TX10 8 tyX10 := ⟨by decide, rfl, tyX10_ok, nmX10, rfl, zu_X10⟩
theorem zc11 : zCl 11 RX11 TX11 19 tyX11 := ⟨by decide, rfl, tyX11_ok, nmX11, rfl, zu_X11⟩
theorem zc12 : zCl 12 RX12 TX12 39 tyX12 := ⟨by decide, rfl, tyX12_ok, nmX12, rfl, zu_X12⟩
section ZROWS
variable {p : Program} {l : Launch} {e : Env} {R : Room} {s : State} {m : MethodId} {args : Array Value} {below : List Frame} {meth : Method} {cd : Code} {H : Heap} {locs : List Loc} {cells slots : Nat} {Q : State → Prop}
variable {cc : ByteArray} {pc : Nat} {ls : Array Slot} {rest : List Value} {D : va_G} {c : zC} {o : Nat} {σ : zS} {H0 : Heap}
theorem zgetI {ci k n j : Nat} {C : String} {T : u_T} {N : Nat} {ty : Nat → FieldType} (hc : zCl ci C T N ty) {own : String} {index : Nat} {v : Int32} (hx : p.tables.exec = Jvm.exec) (hb : cd.code = cc) (hts : ∀ w ∈ zWl, w.before args s = true) (hown : s.vm.findClass own = some m.cls) (hK : zKt D c s) (hP : zP D c o σ H)
    (hk : zK k = (ci, n)) (hn : k < 243) (hj : (zF ci)[j]? = some true) (hv : σ.1 k j = v) (hlink : Cond.fieldLink own index (T j).1 (T j).2.1 (T j).2.2.1 ∈ zWl) (hdg : decode cc pc = .ok (.getfield index, 3))
    (kk : W p l e R s m args below meth cd H locs cells slots Q (F0 m (pc + 3) ls (.int v :: rest))) : W p l e R s m args below meth cd H locs cells slots Q (F0 m pc ls (.ref (o + k) :: rest)) := by
  obtain ⟨h13, h1, -, -, h4, h5⟩ := hc
  have hjN : j < N := by rw [← h4]; exact (List.getElem?_eq_some_iff.mp hj).1
  refine va_get (D := D) (ci := ci) (v := .int v) (C := C) (T := T) (N := N) hx hb hts h5 hown hK hP k (zW_at hn (zenc_o hk h13)) h1 j hjN (hts _ hlink) (fun _ h9 => h9) ?_ hdg kk
  have := zval_int (σ.1 k) (σ.2.2 k) (zF ci) 0 j hj
  rwa [Nat.zero_add, hv] at this
theorem zgetR {ci k n j : Nat} {C : String} {T : u_T} {N : Nat} {ty : Nat → FieldType} (hc : zCl ci C T N ty) {own : String} {index a : Nat} (hx : p.tables.exec = Jvm.exec) (hb : cd.code = cc) (hts : ∀ w ∈ zWl, w.before args s = true) (hown : s.vm.findClass own = some m.cls) (hK : zKt D c s) (hP : zP D c o σ H)
    (hk : zK k = (ci, n)) (hn : k < 243) (hj : (zF ci)[j]? = some false) (ha : σ.2.2 k j = a) (hlink : Cond.fieldLink own index (T j).1 (T j).2.1 (T j).2.2.1 ∈ zWl) (hdg : decode cc pc = .ok (.getfield index, 3))
    (kk : W p l e R s m args below meth cd H locs cells slots Q (F0 m (pc + 3) ls (.ref a :: rest))) : W p l e R s m args below meth cd H locs cells slots Q (F0 m pc ls (.ref (o + k) :: rest)) := by
  obtain ⟨h13, h1, -, -, h4, h5⟩ := hc
  have hjN : j < N := by rw [← h4]; exact (List.getElem?_eq_some_iff.mp hj).1
  refine va_get (D := D) (ci := ci) (v := .ref a) (C := C) (T := T) (N := N) hx hb hts h5 hown hK hP k (zW_at hn (zenc_o hk h13)) h1 j hjN (hts _ hlink) (fun _ h9 => h9) ?_ hdg kk
  have := zval_ref (σ.1 k) (σ.2.2 k) (zF ci) 0 j hj
  rwa [Nat.zero_add, ha] at this
theorem zputI {ci k n j : Nat} {C : String} {T : u_T} {N : Nat} {ty : Nat → FieldType} (hc : zCl ci C T N ty) {own : String} {index : Nat} {v : Int32} (hx : p.tables.exec = Jvm.exec) (hb : cd.code = cc) (hts : ∀ w ∈ zWl, w.before args s = true) (hown : s.vm.findClass own = some m.cls) (hK : zKt D c s) (hP : zP D c o σ H) (hS : va_S (zA o) H0 H locs)
    (hk : zK k = (ci, n)) (hn : k < 243) (hj : (zF ci)[j]? = some true) (hty : ty j = .int) (hfin : (T j).2.2.2 = false) (hlink : Cond.fieldLink own index (T j).1 (T j).2.1 (T j).2.2.1 ∈ zWl) (hdg : decode cc pc = .ok (.putfield index, 3))
    (kk : ∀ (H1 : Heap) (locs1 : List Loc), zP D c o (zI σ k (upd (σ.1 k) j v)) H1 → va_S (zA o) H0 H1 locs1 → W p l e R s m args below meth cd H1 locs1 cells slots Q (F0 m (pc + 3) ls rest)) : W p l e R s m args below meth cd H locs cells slots Q (F0 m pc ls (.int v :: .ref (o + k) :: rest)) := by
  obtain ⟨h13, h1, h2, h3, h4, h5⟩ := hc
  have hjN : j < N := by rw [← h4]; exact (List.getElem?_eq_some_iff.mp hj).1
  refine va_put (D := D) (ci := ci) (v := .int v) (ty := .int) (C := C) (T := T) (N := N) hx hb hts h5 ty h2 h3 hown hK hP zW_D hS k (zW_at hn (zenc_o hk h13)) h1 j hjN (hts _ hlink) (fun _ h9 => h9) hfin (by rw [h2 j hjN, hty]) rfl rfl (by rw [zval_len, h4]; exact hjN) hdg (fun H1 locs1 hP1 _ hS1 => kk H1 locs1 ?_ hS1)
  rw [zW_set, zval_setI _ _ _ _ _ _ hj, Nat.zero_add] at hP1
  show va_P D vwCl (zW o 243 (zenc c (zI σ k (upd (σ.1 k) j v)))) H1
  rw [zenc_I, hk, zcell_o c h13]
  exact hP1
theorem zputR {ci k n j : Nat} {C : String} {T : u_T} {N : Nat} {ty : Nat → FieldType} (hc : zCl ci C T N ty) {own : String} {index : Nat} {v : Nat} (hx : p.tables.exec = Jvm.exec) (hb : cd.code = cc) (hts : ∀ w ∈ zWl, w.before args s = true) (hown : s.vm.findClass own = some m.cls) (hK : zKt D c s) (hP : zP D c o σ H) (hS : va_S (zA o) H0 H locs)
    (hk : zK k = (ci, n)) (hn : k < 243) (hj : (zF ci)[j]? = some false) (hfit : fits (ty j) (.ref v) = true) (hnar : narrow (ty j) (.ref v) = .ref v) (hfin : (T j).2.2.2 = false) (hlink : Cond.fieldLink own index (T j).1 (T j).2.1 (T j).2.2.1 ∈ zWl) (hdg : decode cc pc = .ok (.putfield index, 3))
    (kk : ∀ (H1 : Heap) (locs1 : List Loc), zP D c o (zR σ k (va_up (σ.2.2 k) j v)) H1 → va_S (zA o) H0 H1 locs1 → W p l e R s m args below meth cd H1 locs1 cells slots Q (F0 m (pc + 3) ls rest)) : W p l e R s m args below meth cd H locs cells slots Q (F0 m pc ls (.ref v :: .ref (o + k) :: rest)) := by
  obtain ⟨h13, h1, h2, h3, h4, h5⟩ := hc
  have hjN : j < N := by rw [← h4]; exact (List.getElem?_eq_some_iff.mp hj).1
  refine va_put (D := D) (ci := ci) (v := .ref v) (ty := ty j) (C := C) (T := T) (N := N) hx hb hts h5 ty h2 h3 hown hK hP zW_D hS k (zW_at hn (zenc_o hk h13)) h1 j hjN (hts _ hlink) (fun _ h9 => h9) hfin (h2 j hjN) hnar hfit (by rw [zval_len, h4]; exact hjN) hdg (fun H1 locs1 hP1 _ hS1 => kk H1 locs1 ?_ hS1)
  rw [zW_set, zval_setR _ _ _ _ _ _ hj, Nat.zero_add] at hP1
  show va_P D vwCl (zW o 243 (zenc c (zR σ k (va_up (σ.2.2 k) j v)))) H1
  rw [zenc_R, hk, zcell_o c h13]
  exact hP1
theorem ziald {k n : Nat} (hx : p.tables.exec = Jvm.exec) (hb : cd.code = cc) (hK : zKt D c s) (hP : zP D c o σ H) (hk : zK k = (14, n)) (hn : k < 243) {i : Int32} (hin : vp_in i n) (hdg : decode cc pc = .ok (.iaload, 1))
    (kk : W p l e R s m args below meth cd H locs cells slots Q (F0 m (pc + 1) ls (.int (σ.1 k i.toNatClampNeg) :: rest))) : W p l e R s m args below meth cd H locs cells slots Q (F0 m pc ls (.int i :: .ref (o + k) :: rest)) :=
  va_iald hx hb hK hP k 1 (zW_at hn (zenc_i hk)) rfl hin hdg kk
theorem zbald {k n : Nat} (hx : p.tables.exec = Jvm.exec) (hb : cd.code = cc) (hK : zKt D c s) (hP : zP D c o σ H) (hk : zK k = (13, n)) (hn : k < 243) {i : Int32} (hin : vp_in i n) (hdg : decode cc pc = .ok (.baload, 1))
    (kk : W p l e R s m args below meth cd H locs cells slots Q (F0 m (pc + 1) ls (.int (σ.1 k i.toNatClampNeg) :: rest))) : W p l e R s m args below meth cd H locs cells slots Q (F0 m pc ls (.int i :: .ref (o + k) :: rest)) :=
  va_bald hx hb hK hP k 0 (zW_at hn (zenc_b hk)) rfl hin hdg kk
theorem zzald {k n : Nat} (hx : p.tables.exec = Jvm.exec) (hb : cd.code = cc) (hK : zKt D c s) (hP : zP D c o σ H) (hk : zK k = (16, n)) (hn : k < 243) {i : Int32} (hin : vp_in i n) (hdg : decode cc pc = .ok (.baload, 1))
    (kk : W p l e R s m args below meth cd H locs cells slots Q (F0 m (pc + 1) ls (.int (σ.1 k i.toNatClampNeg) :: rest))) : W p l e R s m args below meth cd H locs cells slots Q (F0 m pc ls (.int i :: .ref (o + k) :: rest)) :=
  va_zald hx hb hK hP k 3 (zW_at hn (zenc_z hk)) rfl hin hdg kk
theorem zlald {k n : Nat} (hx : p.tables.exec = Jvm.exec) (hb : cd.code = cc) (hK : zKt D c s) (hP : zP D c o σ H) (hk : zK k = (15, n)) (hn : k < 243) {i : Int32} (hin : vp_in i n) (hdg : decode cc pc = .ok (.laload, 1))
    (kk : W p l e R s m args below meth cd H locs cells slots Q (F0 m (pc + 1) ls (.long (σ.2.1 k i.toNatClampNeg) :: rest))) : W p l e R s m args below meth cd H locs cells slots Q (F0 m pc ls (.int i :: .ref (o + k) :: rest)) :=
  va_lald hx hb hK hP k 2 (zW_at hn (zenc_l hk)) rfl hin hdg kk
theorem zFald {k n a : Nat} (hx : p.tables.exec = Jvm.exec) (hb : cd.code = cc) (hK : zKt D c s) (hP : zP D c o σ H) (hk : zK k = (17, n)) (hn : k < 243) {i : Int32} (hin : vp_in i n) (ha : σ.2.2 k i.toNatClampNeg = a) (hdg : decode cc pc = .ok (.aaload, 1))
    (kk : W p l e R s m args below meth cd H locs cells slots Q (F0 m (pc + 1) ls (.ref a :: rest))) : W p l e R s m args below meth cd H locs cells slots Q (F0 m pc ls (.int i :: .ref (o + k) :: rest)) := by
  subst ha
  exact va_aldq hx hb hK hP k 4 (zW_at hn (zenc_F hk)) rfl hin hdg kk
theorem zSald {k n a : Nat} (hx : p.tables.exec = Jvm.exec) (hb : cd.code = cc) (hK : zKt D c s) (hP : zP D c o σ H) (hk : zK k = (18, n)) (hn : k < 243) {i : Int32} (hin : vp_in i n) (ha : σ.2.2 k i.toNatClampNeg = a) (hdg : decode cc pc = .ok (.aaload, 1))
    (kk : W p l e R s m args below meth cd H locs cells slots Q (F0 m (pc + 1) ls (.ref a :: rest))) : W p l e R s m args below meth cd H locs cells slots Q (F0 m pc ls (.int i :: .ref (o + k) :: rest)) := by
  subst ha
  exact va_aldq hx hb hK hP k 5 (zW_at hn (zenc_S hk)) rfl hin hdg kk
theorem zWald {k n a : Nat} (hx : p.tables.exec = Jvm.exec) (hb : cd.code = cc) (hK : zKt D c s) (hP : zP D c o σ H) (hk : zK k = (19, n)) (hn : k < 243) {i : Int32} (hin : vp_in i n) (ha : σ.2.2 k i.toNatClampNeg = a) (hdg : decode cc pc = .ok (.aaload, 1))
    (kk : W p l e R s m args below meth cd H locs cells slots Q (F0 m (pc + 1) ls (.ref a :: rest))) : W p l e R s m args below meth cd H locs cells slots Q (F0 m pc ls (.int i :: .ref (o + k) :: rest)) := by
  subst ha
  exact va_aldq hx hb hK hP k 6 (zW_at hn (zenc_W hk)) rfl hin hdg kk
theorem ziast {k n : Nat} (hx : p.tables.exec = Jvm.exec) (hb : cd.code = cc) (hK : zKt D c s) (hP : zP D c o σ H) (hS : va_S (zA o) H0 H locs) (hk : zK k = (14, n)) (hn : k < 243) {i x : Int32} (hin : vp_in i n) (hdg : decode cc pc = .ok (.iastore, 1))
    (kk : ∀ (H1 : Heap) (locs1 : List Loc), zP D c o (zI σ k (upd (σ.1 k) i.toNatClampNeg x)) H1 → va_S (zA o) H0 H1 locs1 → W p l e R s m args below meth cd H1 locs1 cells slots Q (F0 m (pc + 1) ls rest)) : W p l e R s m args below meth cd H locs cells slots Q (F0 m pc ls (.int x :: .int i :: .ref (o + k) :: rest)) := by
  refine va_iast hx hb hK hP zW_D hS k 1 (zW_at hn (zenc_i hk)) rfl hin hdg (fun H1 locs1 hP1 _ hS1 => kk H1 locs1 ?_ hS1)
  rw [zW_set] at hP1
  show va_P D vwCl (zW o 243 (zenc c (zI σ k _))) H1
  rw [zenc_I, hk]
  exact hP1
theorem zbast {k n : Nat} (hx : p.tables.exec = Jvm.exec) (hb : cd.code = cc) (hK : zKt D c s) (hP : zP D c o σ H) (hS : va_S (zA o) H0 H locs) (hk : zK k = (13, n)) (hn : k < 243) {i x : Int32} (hin : vp_in i n) (hdg : decode cc pc = .ok (.bastore, 1))
    (kk : ∀ (H1 : Heap) (locs1 : List Loc), zP D c o (zI σ k (upd (σ.1 k) i.toNatClampNeg (vp_nar .byte x))) H1 → va_S (zA o) H0 H1 locs1 → W p l e R s m args below meth cd H1 locs1 cells slots Q (F0 m (pc + 1) ls rest)) : W p l e R s m args below meth cd H locs cells slots Q (F0 m pc ls (.int x :: .int i :: .ref (o + k) :: rest)) := by
  refine va_bast hx hb hK hP zW_D hS k 0 (zW_at hn (zenc_b hk)) rfl hin hdg (fun H1 locs1 hP1 _ hS1 => kk H1 locs1 ?_ hS1)
  rw [zW_set] at hP1
  show va_P D vwCl (zW o 243 (zenc c (zI σ k _))) H1
  rw [zenc_I, hk]
  exact hP1
theorem zzast {k n : Nat} (hx : p.tables.exec = Jvm.exec) (hb : cd.code = cc) (hK : zKt D c s) (hP : zP D c o σ H) (hS : va_S (zA o) H0 H locs) (hk : zK k = (16, n)) (hn : k < 243) {i x : Int32} (hin : vp_in i n) (hdg : decode cc pc = .ok (.bastore, 1))
    (kk : ∀ (H1 : Heap) (locs1 : List Loc), zP D c o (zI σ k (upd (σ.1 k) i.toNatClampNeg (vp_nar .boolean x))) H1 → va_S (zA o) H0 H1 locs1 → W p l e R s m args below meth cd H1 locs1 cells slots Q (F0 m (pc + 1) ls rest)) : W p l e R s m args below meth cd H locs cells slots Q (F0 m pc ls (.int x :: .int i :: .ref (o + k) :: rest)) := by
  refine va_zast hx hb hK hP zW_D hS k 3 (zW_at hn (zenc_z hk)) rfl hin hdg (fun H1 locs1 hP1 _ hS1 => kk H1 locs1 ?_ hS1)
  rw [zW_set] at hP1
  show va_P D vwCl (zW o 243 (zenc c (zI σ k _))) H1
  rw [zenc_I, hk]
  exact hP1
theorem zlast {k n : Nat} (hx : p.tables.exec = Jvm.exec) (hb : cd.code = cc) (hK : zKt D c s) (hP : zP D c o σ H) (hS : va_S (zA o) H0 H locs) (hk : zK k = (15, n)) (hn : k < 243) {i : Int32} {x : Int64} (hin : vp_in i n) (hdg : decode cc pc = .ok (.lastore, 1))
    (kk : ∀ (H1 : Heap) (locs1 : List Loc), zP D c o (zJ σ k (vp_updL (σ.2.1 k) i.toNatClampNeg x)) H1 → va_S (zA o) H0 H1 locs1 → W p l e R s m args below meth cd H1 locs1 cells slots Q (F0 m (pc + 1) ls rest)) : W p l e R s m args below meth cd H locs cells slots Q (F0 m pc ls (.long x :: .int i :: .ref (o + k) :: rest)) := by
  refine va_last hx hb hK hP zW_D hS k 2 (zW_at hn (zenc_l hk)) rfl hin hdg (fun H1 locs1 hP1 _ hS1 => kk H1 locs1 ?_ hS1)
  rw [zW_set] at hP1
  show va_P D vwCl (zW o 243 (zenc c (zJ σ k _))) H1
  rw [zenc_J, hk]
  exact hP1
theorem zlenL {k n : Nat} (hx : p.tables.exec = Jvm.exec) (hb : cd.code = cc) (hK : zKt D c s) (hP : zP D c o σ H) (hk : zK k = (15, n)) (hn : k < 243) {v : Int32} (hv : Int32.ofNat n = v) (hdg : decode cc pc = .ok (.arraylength, 1))
    (kk : W p l e R s m args below meth cd H locs cells slots Q (F0 m (pc + 1) ls (.int v :: rest))) : W p l e R s m args below meth cd H locs cells slots Q (F0 m pc ls (.ref (o + k) :: rest)) :=
  va_alen hx hb hK hP k 2 (zW_at hn (zenc_l hk)) rfl hv hdg kk
theorem zlenI {k n : Nat} (hx : p.tables.exec = Jvm.exec) (hb : cd.code = cc) (hK : zKt D c s) (hP : zP D c o σ H) (hk : zK k = (14, n)) (hn : k < 243) {v : Int32} (hv : Int32.ofNat n = v) (hdg : decode cc pc = .ok (.arraylength, 1))
    (kk : W p l e R s m args below meth cd H locs cells slots Q (F0 m (pc + 1) ls (.int v :: rest))) : W p l e R s m args below meth cd H locs cells slots Q (F0 m pc ls (.ref (o + k) :: rest)) :=
  va_alen hx hb hK hP k 1 (zW_at hn (zenc_i hk)) rfl hv hdg kk
theorem zlenB {k n : Nat} (hx : p.tables.exec = Jvm.exec) (hb : cd.code = cc) (hK : zKt D c s) (hP : zP D c o σ H) (hk : zK k = (13, n)) (hn : k < 243) {v : Int32} (hv : Int32.ofNat n = v) (hdg : decode cc pc = .ok (.arraylength, 1))
    (kk : W p l e R s m args below meth cd H locs cells slots Q (F0 m (pc + 1) ls (.int v :: rest))) : W p l e R s m args below meth cd H locs cells slots Q (F0 m pc ls (.ref (o + k) :: rest)) :=
  va_alen hx hb hK hP k 0 (zW_at hn (zenc_b hk)) rfl hv hdg kk
theorem zcopyI {k0 k1 n0 n1 : Nat} (hx : p.tables.exec = Jvm.exec) (hb : cd.code = cc) (hml : cd.maxLocals = ls.size) {own : String} {index : Nat} (hown : s.vm.findClass own = some m.cls) (hts : ∀ w ∈ zWl, w.before args s = true) (hlink : Cond.methodLink own index arraycopyName ∈ zWl) (hK : zKt D c s) (hP : zP D c o σ H) (hS : va_S (zA o) H0 H locs)
    (hk0 : zK k0 = (14, n0)) (hn0 : k0 < 243) (hk1 : zK k1 = (14, n1)) (hn1 : k1 < 243) {sp dp n : Int32} (h1 : ¬ sp < 0) (h2 : ¬ dp < 0) (h3 : ¬ n < 0) (h4 : sp.toNatClampNeg + n.toNatClampNeg ≤ n0) (h5 : dp.toNatClampNeg + n.toNatClampNeg ≤ n1)
    (hframes : 1 ≤ R.frames) (hlocals : (rest.map fun v => v.category).sum + (nativeFrameWords "java/lang/System" "arraycopy" 5 + 11) ≤ R.locals) (hdg : decode cc pc = .ok (.invokestatic index, 3))
    (kk : ∀ (H1 : Heap) (locs1 : List Loc), zP D c o (zI σ k1 (va_cpy (σ.1 k0) (σ.1 k1) sp.toNatClampNeg dp.toNatClampNeg n.toNatClampNeg)) H1 → va_S (zA o) H0 H1 locs1 → W p l e R s m args below meth cd H1 locs1 cells slots Q (F0 m (pc + 3) ls rest)) : W p l e R s m args below meth cd H locs cells slots Q (F0 m pc ls (.int n :: .int dp :: .ref (o + k1) :: .int sp :: .ref (o + k0) :: rest)) := by
  refine va_copyi hx hb hml hown (hts _ hlink) (hts _ zac1) (hts _ zac2) (hts _ zn_J10) hK hP zW_D hS k0 k1 1 1 (zW_at hn0 (zenc_i hk0)) (zW_at hn1 (zenc_i hk1)) rfl rfl rfl h1 h2 h3 h4 h5 (fun _ _ => rfl) hframes hlocals hdg (fun H1 locs1 hP1 _ hS1 => kk H1 locs1 ?_ hS1)
  rw [zW_set] at hP1
  show va_P D vwCl (zW o 243 (zenc c (zI σ k1 _))) H1
  rw [zenc_I, hk1]
  exact hP1
theorem zcopyL {k0 k1 n0 n1 : Nat} (hx : p.tables.exec = Jvm.exec) (hb : cd.code = cc) (hml : cd.maxLocals = ls.size) {own : String} {index : Nat} (hown : s.vm.findClass own = some m.cls) (hts : ∀ w ∈ zWl, w.before args s = true) (hlink : Cond.methodLink own index arraycopyName ∈ zWl) (hK : zKt D c s) (hP : zP D c o σ H) (hS : va_S (zA o) H0 H locs)
    (hk0 : zK k0 = (15, n0)) (hn0 : k0 < 243) (hk1 : zK k1 = (15, n1)) (hn1 : k1 < 243) {sp dp n : Int32} (h1 : ¬ sp < 0) (h2 : ¬ dp < 0) (h3 : ¬ n < 0) (h4 : sp.toNatClampNeg + n.toNatClampNeg ≤ n0) (h5 : dp.toNatClampNeg + n.toNatClampNeg ≤ n1)
    (hframes : 1 ≤ R.frames) (hlocals : (rest.map fun v => v.category).sum + (nativeFrameWords "java/lang/System" "arraycopy" 5 + 11) ≤ R.locals) (hdg : decode cc pc = .ok (.invokestatic index, 3))
    (kk : ∀ (H1 : Heap) (locs1 : List Loc), zP D c o (zJ σ k1 (va_cpy (σ.2.1 k0) (σ.2.1 k1) sp.toNatClampNeg dp.toNatClampNeg n.toNatClampNeg)) H1 → va_S (zA o) H0 H1 locs1 → W p l e R s m args below meth cd H1 locs1 cells slots Q (F0 m (pc + 3) ls rest)) : W p l e R s m args below meth cd H locs cells slots Q (F0 m pc ls (.int n :: .int dp :: .ref (o + k1) :: .int sp :: .ref (o + k0) :: rest)) := by
  refine va_copyl hx hb hml hown (hts _ hlink) (hts _ zac1) (hts _ zac2) (hts _ zn_J10) hK hP zW_D hS k0 k1 2 2 (zW_at hn0 (zenc_l hk0)) (zW_at hn1 (zenc_l hk1)) rfl rfl rfl h1 h2 h3 h4 h5 (fun _ _ => rfl) hframes hlocals hdg (fun H1 locs1 hP1 _ hS1 => kk H1 locs1 ?_ hS1)
  rw [zW_set] at hP1
  show va_P D vwCl (zW o 243 (zenc c (zJ σ k1 _))) H1
  rw [zenc_J, hk1]
  exact hP1
/-- the ends of a method -/
theorem zreti {post : Int32 → zS → Prop} {v : Int32} (hx : p.tables.exec = Jvm.exec) (hb : cd.code = cc) (hr : meth.sig.returnType = some .int) (hlocks : meth.locks = false) (hP : zP D c o σ H) (hK : zKt D c s) (hS : va_S (zA o) s.heap H locs) (hp : post v σ) (hdg : decode cc pc = .ok (.ireturn, 1)) :
    W p l e R s m args below meth cd H locs cells slots (MQ below (va_Qi post (zQ D c o) (zA o)) args s cells slots (zA o)) (F0 m pc ls [.int v]) :=
  W.iret hx hb hr (fun t ht hW => ⟨⟨v, σ, rfl, hp, by rw [ht]; exact hP, va_K.moved hW.alike hK⟩, hS.F ht⟩) hS.2.2 hdg hlocks
theorem zretz {post : Int32 → zS → Prop} {v : Int32} (hx : p.tables.exec = Jvm.exec) (hb : cd.code = cc) (hr : meth.sig.returnType = some .boolean) (hlocks : meth.locks = false) (hP : zP D c o σ H) (hK : zKt D c s) (hS : va_S (zA o) s.heap H locs) (hn : narrow .boolean (.int v) = .int v) (hp : post v σ) (hdg : decode cc pc = .ok (.ireturn, 1)) :
    W p l e R s m args below meth cd H locs cells slots (MQ below (va_Qi post (zQ D c o) (zA o)) args s cells slots (zA o)) (F0 m pc ls [.int v]) :=
  W.zret hx hb hr hn (fun t ht hW => ⟨⟨v, σ, rfl, hp, by rw [ht]; exact hP, va_K.moved hW.alike hK⟩, hS.F ht⟩) hS.2.2 hdg hlocks
theorem zretl {post : Int64 → zS → Prop} {v : Int64} (hx : p.tables.exec = Jvm.exec) (hb : cd.code = cc) (hr : meth.sig.returnType = some .long) (hlocks : meth.locks = false) (hP : zP D c o σ H) (hK : zKt D c s) (hS : va_S (zA o) s.heap H locs) (hp : post v σ) (hdg : decode cc pc = .ok (.lreturn, 1)) :
    W p l e R s m args below meth cd H locs cells slots (MQ below (va_Ql post (zQ D c o) (zA o)) args s cells slots (zA o)) (F0 m pc ls [.long v]) :=
  W.lret hx hb hr (fun t ht hW => ⟨⟨v, σ, rfl, hp, by rw [ht]; exact hP, va_K.moved hW.alike hK⟩, hS.F ht⟩) hS.2.2 hdg hlocks
theorem zretv {post : zS → Prop} (hx : p.tables.exec = Jvm.exec) (hb : cd.code = cc) (hr : meth.sig.returnType = none) (hlocks : meth.locks = false) (hP : zP D c o σ H) (hK : zKt D c s) (hS : va_S (zA o) s.heap H locs) (hp : post σ) (hdg : decode cc pc = .ok (.return_, 1)) :
    W p l e R s m args below meth cd H locs cells slots (MQ below (va_Qv post (zQ D c o) (zA o)) args s cells slots (zA o)) (F0 m pc ls []) :=
  W.vret hx hb hr (fun t ht hW => ⟨⟨σ, rfl, hp, by rw [ht]; exact hP, va_K.moved hW.alike hK⟩, hS.F ht⟩) hS.2.2 hdg hlocks
variable {y : MethodName} {bytes : ByteArray} {maxL nL n index ci k len : Nat} {ret : Option FieldType} {ws ws' : List Cond} {h : Nat} {own C : String} {T : u_T} {N : Nat} {ty : Nat → FieldType} {As : List Value}
theorem zpre (hP : zP D c o σ H) (hK : zKt D c s) (av : List Value) : ∀ U : State, U.heap = H → s.WarmedH U.vm → va_Pc av (zQ D c o σ) av.toArray U := fun U hU hW => ⟨rfl, by rw [hU]; exact hP, va_K.moved hW.alike hK⟩
theorem zrecv (hc : zCl ci C T N ty) (hK : zKt D c s) (hP : zP D c o σ H) (hk : zK k = (ci, len)) (hn : k < 243) : ∃ cell : Cell, H[o + k]? = some cell ∧ cell.vm.isStatics = false ∧ s.vm.findClass C = some cell.cls :=
  va_recv hK hP hc.2.1 (zW_at hn (zenc_o hk hc.1))
/-- a call of a method of an object: an int comes -/
theorem zcallVi {post : Int32 → zS → Prop} (S : CallFix p m cd cc nL s args zWl own) (hM : Met l y ws (zr h) (va_Pc (.ref (o + k) :: As) (zQ D c o σ)) (va_Qi post (zQ D c o) (zA o)) 0 0 (zA o)) (hc : zCl ci C T N ty) (hG : GoodIn zWl (wsV own index C y ws)) (hw : ws = Cond.code y bytes maxL ret :: ws')
    (hd : y.cls = C ∧ y.cls ≠ "java/lang/invoke/MethodHandle" ∧ y.cls ≠ "java/lang/invoke/VarHandle" ∧ (parseMethodDescriptor y.desc).map (fun d => d.parameters.length) = some As.length) (hR : h + 1 ≤ R.frames ∧ 8 + (maxL + 11) + 60 * h ≤ R.locals)
    (hK : zKt D c s) (hP : zP D c o σ H) (hS : va_S (zA o) H0 H locs) (hk : zK k = (ci, len)) (hn : k < 243) (hsize : ls.size = nL) {st : List Value} (hst : st = As.reverse ++ .ref (o + k) :: rest) (hroom : (rest.map fun v => v.category).sum ≤ 8) (hcs : cells ≤ R.cells ∧ slots ≤ R.slots) (hdg : decode cc pc = .ok (.invokevirtual index, 3))
    (kk : ∀ (r : Int32) (σ1 : zS) (H1 : Heap) (locs1 : List Loc), post r σ1 → zP D c o σ1 H1 → va_S (zA o) H0 H1 locs1 → W p l e R s m args below meth cd H1 locs1 cells slots Q (F0 m (pc + 3) ls (.int r :: rest))) : W p l e R s m args below meth cd H locs cells slots Q (F0 m pc ls st) := by
  refine va_calli (va_runV (As := As) (rest := rest) S hM (cwV As.length S.2.2.2.2 hG hw rfl rfl hd hR) ⟨zblind D c o σ _, zrecv hc hK hP hk hn, zpre hP hK _⟩ rfl rfl hsize hst (lv_room hroom) hdg hcs) hS (fun _ _ h => h) (fun _ h => h) (fun r u t H1 locs1 ht hvm hw hB hz1 hk1 hS1 => ?_)
  exact kk r u H1 locs1 hw (by rw [← ht]; exact hB.1) hS1
theorem zcallVv {post : zS → Prop} (S : CallFix p m cd cc nL s args zWl own) (hM : Met l y ws (zr h) (va_Pc (.ref (o + k) :: As) (zQ D c o σ)) (va_Qv post (zQ D c o) (zA o)) 0 0 (zA o)) (hc : zCl ci C T N ty) (hG : GoodIn zWl (wsV own index C y ws)) (hw : ws = Cond.code y bytes maxL ret :: ws')
    (hd : y.cls = C ∧ y.cls ≠ "java/lang/invoke/MethodHandle" ∧ y.cls ≠ "java/lang/invoke/VarHandle" ∧ (parseMethodDescriptor y.desc).map (fun d => d.parameters.length) = some As.length) (hR : h + 1 ≤ R.frames ∧ 8 + (maxL + 11) + 60 * h ≤ R.locals)
    (hK : zKt D c s) (hP : zP D c o σ H) (hS : va_S (zA o) H0 H locs) (hk : zK k = (ci, len)) (hn : k < 243) (hsize : ls.size = nL) {st : List Value} (hst : st = As.reverse ++ .ref (o + k) :: rest) (hroom : (rest.map fun v => v.category).sum ≤ 8) (hcs : cells ≤ R.cells ∧ slots ≤ R.slots) (hdg : decode cc pc = .ok (.invokevirtual index, 3))
    (kk : ∀ (σ1 : zS) (H1 : Heap) (locs1 : List Loc), post σ1 → zP D c o σ1 H1 → va_S (zA o) H0 H1 locs1 → W p l e R s m args below meth cd H1 locs1 cells slots Q (F0 m (pc + 3) ls rest)) : W p l e R s m args below meth cd H locs cells slots Q (F0 m pc ls st) := by
  refine va_callv (va_runV (As := As) (rest := rest) S hM (cwV As.length S.2.2.2.2 hG hw rfl rfl hd hR) ⟨zblind D c o σ _, zrecv hc hK hP hk hn, zpre hP hK _⟩ rfl rfl hsize hst (lv_room hroom) hdg hcs) hS (fun _ _ h => h) (fun _ h => h) (fun u t H1 locs1 ht hvm hw hB hz1 hk1 hS1 => ?_)
  exact kk u H1 locs1 hw (by rw [← ht]; exact hB.1) hS1
theorem zcallVl {post : Int64 → zS → Prop} (S : CallFix p m cd cc nL s args zWl own) (hM : Met l y ws (zr h) (va_Pc (.ref (o + k) :: As) (zQ D c o σ)) (va_Ql post (zQ D c o) (zA o)) 0 0 (zA o)) (hc : zCl ci C T N ty) (hG : GoodIn zWl (wsV own index C y ws)) (hw : ws = Cond.code y bytes maxL ret :: ws')
    (hd : y.cls = C ∧ y.cls ≠ "java/lang/invoke/MethodHandle" ∧ y.cls ≠ "java/lang/invoke/VarHandle" ∧ (parseMethodDescriptor y.desc).map (fun d => d.parameters.length) = some As.length) (hR : h + 1 ≤ R.frames ∧ 8 + (maxL + 11) + 60 * h ≤ R.locals)
    (hK : zKt D c s) (hP : zP D c o σ H) (hS : va_S (zA o) H0 H locs) (hk : zK k = (ci, len)) (hn : k < 243) (hsize : ls.size = nL) {st : List Value} (hst : st = As.reverse ++ .ref (o + k) :: rest) (hroom : (rest.map fun v => v.category).sum ≤ 8) (hcs : cells ≤ R.cells ∧ slots ≤ R.slots) (hdg : decode cc pc = .ok (.invokevirtual index, 3))
    (kk : ∀ (r : Int64) (σ1 : zS) (H1 : Heap) (locs1 : List Loc), post r σ1 → zP D c o σ1 H1 → va_S (zA o) H0 H1 locs1 → W p l e R s m args below meth cd H1 locs1 cells slots Q (F0 m (pc + 3) ls (.long r :: rest))) : W p l e R s m args below meth cd H locs cells slots Q (F0 m pc ls st) := by
  refine va_calll (va_runV (As := As) (rest := rest) S hM (cwV As.length S.2.2.2.2 hG hw rfl rfl hd hR) ⟨zblind D c o σ _, zrecv hc hK hP hk hn, zpre hP hK _⟩ rfl rfl hsize hst (lv_room hroom) hdg hcs) hS (fun _ _ h => h) (fun _ h => h) (fun r u t H1 locs1 ht hvm hw hB hz1 hk1 hS1 => ?_)
  exact kk r u H1 locs1 hw (by rw [← ht]; exact hB.1) hS1
theorem zcallSi {post : Int32 → zS → Prop} (S : CallFix p m cd cc nL s args zWl own) (hM : Met l y ws (zr h) (va_Pc As (zQ D c o σ)) (va_Qi post (zQ D c o) (zA o)) 0 0 (zA o)) (hG : GoodIn zWl (va_wsS own index y ws)) (hw : ws = Cond.code y bytes maxL ret :: ws')
    (hd : y.cls ≠ "java/lang/invoke/MethodHandle" ∧ y.cls ≠ "java/lang/invoke/VarHandle" ∧ (parseMethodDescriptor y.desc).map (fun d => d.parameters.length) = some As.length) (hR : h + 1 ≤ R.frames ∧ 8 + (maxL + 11) + 60 * h ≤ R.locals)
    (hK : zKt D c s) (hP : zP D c o σ H) (hS : va_S (zA o) H0 H locs) (hsize : ls.size = nL) {st : List Value} (hst : st = As.reverse ++ rest) (hroom : (rest.map fun v => v.category).sum ≤ 8) (hcs : cells ≤ R.cells ∧ slots ≤ R.slots) (hdg : decode cc pc = .ok (.invokestatic index, 3))
    (kk : ∀ (r : Int32) (σ1 : zS) (H1 : Heap) (locs1 : List Loc), post r σ1 → zP D c o σ1 H1 → va_S (zA o) H0 H1 locs1 → W p l e R s m args below meth cd H1 locs1 cells slots Q (F0 m (pc + 3) ls (.int r :: rest))) : W p l e R s m args below meth cd H locs cells slots Q (F0 m pc ls st) := by
  refine va_calli (va_runS (As := As) (rest := rest) S hM (va_cwS As.length S.2.2.2.2 hG hw rfl rfl hd hR) ⟨zblind D c o σ _, zpre hP hK _⟩ rfl rfl hsize hst (lv_room hroom) hdg hcs) hS (fun _ _ h => h) (fun _ h => h) (fun r u t H1 locs1 ht hvm hw hB hz1 hk1 hS1 => ?_)
  exact kk r u H1 locs1 hw (by rw [← ht]; exact hB.1) hS1
theorem zcallSv {post : zS → Prop} (S : CallFix p m cd cc nL s args zWl own) (hM : Met l y ws (zr h) (va_Pc As (zQ D c o σ)) (va_Qv post (zQ D c o) (zA o)) 0 0 (zA o)) (hG : GoodIn zWl (va_wsS own index y ws)) (hw : ws = Cond.code y bytes maxL ret :: ws')
    (hd : y.cls ≠ "java/lang/invoke/MethodHandle" ∧ y.cls ≠ "java/lang/invoke/VarHandle" ∧ (parseMethodDescriptor y.desc).map (fun d => d.parameters.length) = some As.length) (hR : h + 1 ≤ R.frames ∧ 8 + (maxL + 11) + 60 * h ≤ R.locals)
    (hK : zKt D c s) (hP : zP D c o σ H) (hS : va_S (zA o) H0 H locs) (hsize : ls.size = nL) {st : List Value} (hst : st = As.reverse ++ rest) (hroom : (rest.map fun v => v.category).sum ≤ 8) (hcs : cells ≤ R.cells ∧ slots ≤ R.slots) (hdg : decode cc pc = .ok (.invokestatic index, 3))
    (kk : ∀ (σ1 : zS) (H1 : Heap) (locs1 : List Loc), post σ1 → zP D c o σ1 H1 → va_S (zA o) H0 H1 locs1 → W p l e R s m args below meth cd H1 locs1 cells slots Q (F0 m (pc + 3) ls rest)) : W p l e R s m args below meth cd H locs cells slots Q (F0 m pc ls st) := by
  refine va_callv (va_runS (As := As) (rest := rest) S hM (va_cwS As.length S.2.2.2.2 hG hw rfl rfl hd hR) ⟨zblind D c o σ _, zpre hP hK _⟩ rfl rfl hsize hst (lv_room hroom) hdg hcs) hS (fun _ _ h => h) (fun _ h => h) (fun u t H1 locs1 ht hvm hw hB hz1 hk1 hS1 => ?_)
  exact kk u H1 locs1 hw (by rw [← ht]; exact hB.1) hS1
end ZROWS

/-! ===== the picture of the heap: cells o, o + 1, .. ===== -/
/-- what the cells hold: ints, longs, references, by cell and place -/
abbrev zS : Type := (Nat → Nat → Int32) × (Nat → Nat → Int64) × (Nat → Nat → Nat)
/-- the array classes: byte, int, long, boolean, Family, Slot, World -/
abbrev zC : Type := ClassId × ClassId × ClassId × ClassId × ClassId × ClassId × ClassId
abbrev zty (c : zC) : List (ClassId × FieldType) := [(c.1, .byte), (c.2.1, .int), (c.2.2.1, .long), (c.2.2.2.1, .boolean), (c.2.2.2.2.1, .object RX2), (c.2.2.2.2.2.1, .object RX9), (c.2.2.2.2.2.2, .object RX10)]
def zval (f : Nat → Int32) (g : Nat → Nat) : Nat → List Bool → List Value
  | _, [] => []
  | j, true :: l => .int (f j) :: zval f g (j + 1) l
  | j, false :: l => .ref (g j) :: zval f g (j + 1) l
theorem zval_len (f : Nat → Int32) (g : Nat → Nat) : ∀ (l : List Bool) (i : Nat), (zval f g i l).length = l.length
  | [], _ => rfl
  | true :: l, i => by simp [zval, zval_len f g l]
  | false :: l, i => by simp [zval, zval_len f g l]
theorem zval_int (f : Nat → Int32) (g : Nat → Nat) : ∀ (l : List Bool) (i j : Nat), l[j]? = some true → (zval f g i l)[j]? = some (.int (f (i + j)))
  | [], _, j, h => by simp at h
  | b :: l, i, 0, h => by
    simp at h; subst h; simp [zval]
  | b :: l, i, j + 1, h => by
    have h' : l[j]? = some true := by simpa using h
    have := zval_int f g l (i + 1) j h'
    rw [Nat.add_right_comm] at this
    cases b <;> simpa [zval, Nat.add_assoc] using this
theorem zval_ref (f : Nat → Int32) (g : Nat → Nat) : ∀ (l : List Bool) (i j : Nat), l[j]? = some false → (zval f g i l)[j]? = some (.ref (g (i + j)))
  | [], _, j, h => by simp at h
  | b :: l, i, 0, h => by
    simp at h; subst h; simp [zval]
  | b :: l, i, j + 1, h => by
    have h' : l[j]? = some false := by simpa using h
    have := zval_ref f g l (i + 1) j h'
    rw [Nat.add_right_comm] at this
    cases b <;> simpa [zval, Nat.add_assoc] using this
theorem zval_congr {f f' : Nat → Int32} {g g' : Nat → Nat} : ∀ (l : List Bool) (i : Nat), (∀ k, i ≤ k → f k = f' k) → (∀ k, i ≤ k → g k = g' k) → zval f g i l = zval f' g' i l
  | [], _, _, _ => rfl
  | true :: l, i, h, h2 => by
    simp only [zval]; rw [h i (Nat.le_refl i), zval_congr l (i + 1) (fun k hk => h k (by omega)) (fun k hk => h2 k (by omega))]
  | false :: l, i, h, h2 => by
    simp only [zval]; rw [h2 i (Nat.le_refl i), zval_congr l (i + 1) (fun k hk => h k (by omega)) (fun k hk => h2 k (by omega))]
theorem zval_setI (g : Nat → Nat) (v : Int32) : ∀ (l : List Bool) (f : Nat → Int32) (i j : Nat), l[j]? = some true → (zval f g i l).set j (.int v) = zval (upd f (i + j) v) g i l
  | [], _, _, j, h => by simp at h
  | b :: l, f, i, 0, h => by
    simp at h; subst h
    simp only [zval, List.set_cons_zero, Nat.add_zero]
    rw [show upd f i v i = v by simp [upd], zval_congr l (i + 1) (f := f) (f' := upd f i v) (g := g) (g' := g) (fun k hk => by simp [upd, show ¬ k = i by omega]) (fun _ _ => rfl)]
  | b :: l, f, i, j + 1, h => by
    have h' : l[j]? = some true := by simpa using h
    have := zval_setI g v l f (i + 1) j h'
    have e : i + 1 + j = i + (j + 1) := by omega
    rw [e] at this
    cases b
    · simp only [zval, List.set_cons_succ, this]
    · simp only [zval, List.set_cons_succ, this]; rw [show upd f (i + (j + 1)) v i = f i by simp [upd]]
theorem zval_setR (f : Nat → Int32) (v : Nat) : ∀ (l : List Bool) (g : Nat → Nat) (i j : Nat), l[j]? = some false → (zval f g i l).set j (.ref v) = zval f (va_up g (i + j) v) i l
  | [], _, _, j, h => by simp at h
  | b :: l, g, i, 0, h => by
    simp at h; subst h
    simp only [zval, List.set_cons_zero, Nat.add_zero]
    rw [va_up_self, zval_congr l (i + 1) (f := f) (f' := f) (g := g) (g' := va_up g i v) (fun _ _ => rfl) (fun k hk => by rw [va_up_ne]; omega)]
  | b :: l, g, i, j + 1, h => by
    have h' : l[j]? = some false := by simpa using h
    have := zval_setR f v l g (i + 1) j h'
    have e : i + 1 + j = i + (j + 1) := by omega
    rw [e] at this
    cases b
    · simp only [zval, List.set_cons_succ, this]; rw [va_up_ne g v (show i ≠ i + (j + 1) by omega)]
    · simp only [zval, List.set_cons_succ, this]
def zF : Nat → List Bool := fun ci => match ci with
  | 0 => [false, false, false, false, false]
  | 1 => [false, false, false, false, false, false, false, false, true]
  | 2 => [false]
  | 3 => [false, false, false]
  | 4 => [false, true, true]
  | 5 => [true, true, true, false, false, false, true, true, true, true, false, false, false, false]
  | 6 => [false]
  | 7 => [false, true]
  | 8 => [false, false]
  | 9 => [false, true, true]
  | 10 => [true, true, true, false, false, false, false, false]
  | 11 => [false, true, true, true, false, false, false, false, false, false, false, false, false, false, false, false, false, false, false]
  | 12 => [true, false, false, false, false, false, false, true, false, true, true, true, true, true, true, true, false, false, false, false, true, false, true, true, true, true, false, false, false, false, false, false, true, false, false, false, false, false, false]
  | _ => []
def zKl : List (Nat × Nat) := [(11, 0), (13, 600), (10, 0), (14, 10), (14, 10), (14, 10), (14, 10), (17, 10), (2, 0), (15, 16), (2, 0), (15, 16), (2, 0), (15, 16), (2, 0), (15, 16), (2, 0), (15, 16), (2, 0), (15, 16), (2, 0), (15, 16), (2, 0), (15, 16), (2, 0), (15, 16), (2, 0), (15, 16), (10, 0), (14, 10), (14, 10), (14, 10), (14, 10), (17, 10), (2, 0), (15, 16), (2, 0), (15, 16), (2, 0), (15, 16), (2, 0), (15, 16), (2, 0), (15, 16), (2, 0), (15, 16), (2, 0), (15, 16), (2, 0), (15, 16), (2, 0), (15, 16), (2, 0), (15, 16), (19, 3), (16, 3), (18, 4), (5, 0), (14, 601), (14, 601), (13, 0), (14, 601), (14, 601), (14, 601), (14, 601), (7, 0), (17, 16), (2, 0), (15, 16), (2, 0), (15, 16), (2, 0), (15, 16), (2, 0), (15, 16), (2, 0), (15, 16), (2, 0), (15, 16), (2, 0), (15, 16), (2, 0), (15, 16), (2, 0), (15, 16), (2, 0), (15, 16), (2, 0), (15, 16), (2, 0), (15, 16), (2, 0), (15, 16), (2, 0), (15, 16), (2, 0), (15, 16), (2, 0), (15, 16), (0, 0), (2, 0), (15, 16), (2, 0), (15, 16), (2, 0), (15, 16), (14, 1024), (14, 1024), (8, 0), (14, 1024), (14, 991), (1, 0), (14, 2048), (14, 1600), (14, 1600), (14, 1600), (14, 1600), (14, 1024), (14, 1024), (14, 10), (3, 0), (15, 64), (14, 64), (14, 64), (6, 0), (14, 8), (4, 0), (14, 12), (2, 0), (15, 16), (2, 0), (15, 16), (10, 0), (14, 10), (14, 10), (14, 10), (14, 10), (17, 10), (2, 0), (15, 16), (2, 0), (15, 16), (2, 0), (15, 16), (2, 0), (15, 16), (2, 0), (15, 16), (2, 0), (15, 16), (2, 0), (15, 16), (2, 0), (15, 16), (2, 0), (15, 16), (2, 0), (15, 16), (10, 0), (14, 10), (14, 10), (14, 10), (14, 10), (17, 10), (2, 0), (15, 16), (2, 0), (15, 16), (2, 0), (15, 16), (2, 0), (15, 16), (2, 0), (15, 16), (2, 0), (15, 16), (2, 0), (15, 16), (2, 0), (15, 16), (2, 0), (15, 16), (2, 0), (15, 16), (10, 0), (14, 10), (14, 10), (14, 10), (14, 10), (17, 10), (2, 0), (15, 16), (2, 0), (15, 16), (2, 0), (15, 16), (2, 0), (15, 16), (2, 0), (15, 16), (2, 0), (15, 16), (2, 0), (15, 16), (2, 0), (15, 16), (2, 0), (15, 16), (2, 0), (15, 16), (9, 0), (15, 60), (9, 0), (15, 60), (9, 0), (15, 60), (9, 0), (15, 60), (12, 0), (14, 43), (16, 10240), (14, 129), (16, 30720), (16, 3), (13, 600), (14, 5), (16, 18432), (16, 1024), (16, 1024), (16, 1024), (14, 40), (14, 43), (16, 10240), (14, 12), (16, 1024), (14, 10), (16, 10240), (14, 10), (14, 8), (14, 4), (14, 4), (15, 240), (15, 60)]
/-- where the references point that never change (and where the others point at first) -/
def zTl : List (List Nat) := [[1, 0, 0, 0, 2, 28, 54, 55, 56, 57, 65, 99, 108, 111, 120, 124, 126, 128, 130], [], [0, 0, 0, 3, 4, 5, 6, 7], [], [], [], [], [8, 10, 12, 14, 16, 18, 20, 22, 24, 26], [9], [], [11], [], [13], [], [15], [], [17], [], [19], [], [21], [], [23], [], [25], [], [27], [], [0, 0, 0, 29, 30, 31, 32, 33], [], [], [], [], [34, 36, 38, 40, 42, 44, 46, 48, 50, 52], [35], [], [37], [], [39], [], [41], [], [43], [], [45], [], [47], [], [49], [], [51], [], [53], [], [132, 158, 184], [], [210, 212, 214, 216], [0, 0, 0, 58, 59, 60, 0, 0, 0, 0, 61, 62, 63, 64], [], [], [], [], [], [], [], [66], [67, 69, 71, 73, 75, 77, 79, 81, 83, 85, 87, 89, 91, 93, 95, 97], [68], [], [70], [], [72], [], [74], [], [76], [], [78], [], [80], [], [82], [], [84], [], [86], [], [88], [], [90], [], [92], [], [94], [], [96], [], [98], [], [100, 102, 104, 106, 107], [101], [], [103], [], [105], [], [], [], [109, 110], [], [], [112, 113, 114, 115, 116, 117, 118, 119], [], [], [], [], [], [], [], [], [121, 122, 123], [], [], [], [125], [], [127], [], [129], [], [131], [], [0, 0, 0, 133, 134, 135, 136, 137], [], [], [], [], [138, 140, 142, 144, 146, 148, 150, 152, 154, 156], [139], [], [141], [], [143], [], [145], [], [147], [], [149], [], [151], [], [153], [], [155], [], [157], [], [0, 0, 0, 159, 160, 161, 162, 163], [], [], [], [], [164, 166, 168, 170, 172, 174, 176, 178, 180, 182], [165], [], [167], [], [169], [], [171], [], [173], [], [175], [], [177], [], [179], [], [181], [], [183], [], [0, 0, 0, 185, 186, 187, 188, 189], [], [], [], [], [190, 192, 194, 196, 198, 200, 202, 204, 206, 208], [191], [], [193], [], [195], [], [197], [], [199], [], [201], [], [203], [], [205], [], [207], [], [209], [], [211], [], [213], [], [215], [], [217], [], [0, 219, 220, 221, 222, 223, 224, 0, 225, 0, 0, 0, 0, 0, 0, 0, 226, 227, 228, 229, 0, 230, 0, 0, 0, 0, 231, 232, 233, 234, 235, 236, 0, 237, 238, 239, 240, 241, 242], [], [], [], [], [], [], [], [], [], [], [], [], [], [], [], [], [], [], [], [], [], [], [], []]
def zT (k j : Nat) : Nat := (zTl.getD k []).getD j 0
def zdyn (k j : Nat) : Bool := (k == 0 && (j == 4 || j == 5)) || (k == 57 && j == 5)
def zK (k : Nat) : Nat × Nat := zKl.getD k (0, 0)
def zcell (c : zC) (q : Nat × Nat) (f : Nat → Int32) (g : Nat → Int64) (h : Nat → Nat) : va_E :=
  if q.1 = 13 then .inl (c.1, q.2, .inl f)
  else if q.1 = 14 then .inl (c.2.1, q.2, .inl f)
  else if q.1 = 15 then .inl (c.2.2.1, q.2, .inr (.inl g))
  else if q.1 = 16 then .inl (c.2.2.2.1, q.2, .inl f)
  else if q.1 = 17 then .inl (c.2.2.2.2.1, q.2, .inr (.inr (.inr (.inr (fun i => some (h i))))))
  else if q.1 = 18 then .inl (c.2.2.2.2.2.1, q.2, .inr (.inr (.inr (.inr (fun i => some (h i))))))
  else if q.1 = 19 then .inl (c.2.2.2.2.2.2, q.2, .inr (.inr (.inr (.inr (fun i => some (h i))))))
  else .inr (q.1, zval f h 0 (zF q.1))
def zenc (c : zC) (σ : zS) (k : Nat) : va_E := zcell c (zK k) (σ.1 k) (σ.2.1 k) (σ.2.2 k)
theorem zcell_o (c : zC) {ci n : Nat} (h : ci < 13) (f : Nat → Int32) (g : Nat → Int64) (r : Nat → Nat) : zcell c (ci, n) f g r = .inr (ci, zval f r 0 (zF ci)) := by
  unfold zcell
  rw [if_neg (by simp; omega), if_neg (by simp; omega), if_neg (by simp; omega), if_neg (by simp; omega), if_neg (by simp; omega), if_neg (by simp; omega), if_neg (by simp; omega)]
theorem zenc_o {c : zC} {σ : zS} {k ci n : Nat} (hk : zK k = (ci, n)) (h : ci < 13) : zenc c σ k = .inr (ci, zval (σ.1 k) (σ.2.2 k) 0 (zF ci)) := by
  unfold zenc; rw [hk, zcell_o c h]
theorem zenc_b {c : zC} {σ : zS} {k n : Nat} (hk : zK k = (13, n)) : zenc c σ k = .inl (c.1, n, .inl (σ.1 k)) := by unfold zenc; rw [hk]; rfl
theorem zenc_i {c : zC} {σ : zS} {k n : Nat} (hk : zK k = (14, n)) : zenc c σ k = .inl (c.2.1, n, .inl (σ.1 k)) := by unfold zenc; rw [hk]; rfl
theorem zenc_l {c : zC} {σ : zS} {k n : Nat} (hk : zK k = (15, n)) : zenc c σ k = .inl (c.2.2.1, n, .inr (.inl (σ.2.1 k))) := by unfold zenc; rw [hk]; rfl
theorem zenc_z {c : zC} {σ : zS} {k n : Nat} (hk : zK k = (16, n)) : zenc c σ k = .inl (c.2.2.2.1, n, .inl (σ.1 k)) := by unfold zenc; rw [hk]; rfl
theorem zenc_F {c : zC} {σ : zS} {k n : Nat} (hk : zK k = (17, n)) : zenc c σ k = .inl (c.2.2.2.2.1, n, .inr (.inr (.inr (.inr (fun i => some (σ.2.2 k i)))))) := by unfold zenc; rw [hk]; rfl
theorem zenc_S {c : zC} {σ : zS} {k n : Nat} (hk : zK k = (18, n)) : zenc c σ k = .inl (c.2.2.2.2.2.1, n, .inr (.inr (.inr (.inr (fun i => some (σ.2.2 k i)))))) := by unfold zenc; rw [hk]; rfl
theorem zenc_W {c : zC} {σ : zS} {k n : Nat} (hk : zK k = (19, n)) : zenc c σ k = .inl (c.2.2.2.2.2.2, n, .inr (.inr (.inr (.inr (fun i => some (σ.2.2 k i)))))) := by unfold zenc; rw [hk]; rfl
/-- a row of ints, of longs, of references is another -/
abbrev zI (σ : zS) (k : Nat) (f : Nat → Int32) : zS := (va_up σ.1 k f, σ.2.1, σ.2.2)
abbrev zJ (σ : zS) (k : Nat) (f : Nat → Int64) : zS := (σ.1, va_up σ.2.1 k f, σ.2.2)
abbrev zR (σ : zS) (k : Nat) (f : Nat → Nat) : zS := (σ.1, σ.2.1, va_up σ.2.2 k f)
theorem zenc_I (c : zC) (σ : zS) (k : Nat) (f : Nat → Int32) : zenc c (zI σ k f) = va_up (zenc c σ) k (zcell c (zK k) f (σ.2.1 k) (σ.2.2 k)) := by
  funext a
  by_cases h : a = k
  · subst h; rw [va_up_self]; simp only [zenc, zI, va_up_self]
  · rw [va_up_ne _ _ h]; simp only [zenc, zI, va_up_ne _ _ h]
theorem zenc_J (c : zC) (σ : zS) (k : Nat) (f : Nat → Int64) : zenc c (zJ σ k f) = va_up (zenc c σ) k (zcell c (zK k) (σ.1 k) f (σ.2.2 k)) := by
  funext a
  by_cases h : a = k
  · subst h; rw [va_up_self]; simp only [zenc, zJ, va_up_self]
  · rw [va_up_ne _ _ h]; simp only [zenc, zJ, va_up_ne _ _ h]
theorem zenc_R (c : zC) (σ : zS) (k : Nat) (f : Nat → Nat) : zenc c (zR σ k f) = va_up (zenc c σ) k (zcell c (zK k) (σ.1 k) (σ.2.1 k) f) := by
  funext a
  by_cases h : a = k
  · subst h; rw [va_up_self]; simp only [zenc, zR, va_up_self]
  · rw [va_up_ne _ _ h]; simp only [zenc, zR, va_up_ne _ _ h]
/-- the world: n cells from o on -/
def zW (o n : Nat) (E : Nat → va_E) : va_W := (List.range n).map fun k => (o + k, E k)
theorem zW_get {o n i : Nat} {E : Nat → va_E} {p : Nat × va_E} (h : (zW o n E)[i]? = some p) : i < n ∧ p = (o + i, E i) := by
  unfold zW at h
  rw [List.getElem?_map] at h
  by_cases hi : i < n
  · rw [List.getElem?_range hi] at h
    exact ⟨hi, (Option.some.inj h).symm⟩
  · rw [List.getElem?_eq_none (by simp; omega)] at h
    cases h
theorem zW_at {o n k : Nat} {E : Nat → va_E} {e : va_E} (hk : k < n) (he : E k = e) : (zW o n E)[k]? = some (o + k, e) := by
  unfold zW
  rw [List.getElem?_map, List.getElem?_range hk, ← he]
  rfl
theorem zW_set {o n k : Nat} {E : Nat → va_E} {e : va_E} : (zW o n E).set k (o + k, e) = zW o n (va_up E k e) := by
  apply List.ext_getElem?
  intro i
  rw [List.getElem?_set]
  by_cases hi : i < n
  · rw [zW_at hi rfl, zW_at hi rfl]
    by_cases hk : k = i
    · subst hk
      rw [if_pos rfl, if_pos (by simp [zW]; exact hi), va_up_self]
    · rw [if_neg hk, va_up_ne _ _ (fun h => hk h.symm)]
  · have h1 : ∀ E : Nat → va_E, (zW o n E)[i]? = none := fun E => List.getElem?_eq_none (by simp [zW]; omega)
    rw [h1, h1]
    by_cases hk : k = i
    · subst hk
      rw [if_pos rfl, if_neg (by simp [zW]; omega)]
    · rw [if_neg hk]
abbrev zA (o : Nat) : Nat → Prop := fun q => o ≤ q
theorem zW_D {o n : Nat} {E : Nat → va_E} : va_D (zA o) (zW o n E) := by
  refine ⟨fun i j p q hp hq e => ?_, fun k q hk => ?_⟩
  · obtain ⟨-, rfl⟩ := zW_get hp
    obtain ⟨-, rfl⟩ := zW_get hq
    have e : o + i = o + j := e
    omega
  · obtain ⟨-, rfl⟩ := zW_get hk
    exact Nat.le_add_right o k
/-- the whole picture, and the tables -/
abbrev zP (D : va_G) (c : zC) (o : Nat) (σ : zS) (H : Heap) : Prop := va_P D vwCl (zW o 243 (zenc c σ)) H
abbrev zKt (D : va_G) (c : zC) (s : State) : Prop := va_K D vwCl (zty c) s
def zQ (D : va_G) (c : zC) (o : Nat) (σ : zS) (U : State) : Prop := zP D c o σ U.heap ∧ zKt D c U
theorem zblind (D : va_G) (c : zC) (o : Nat) (σ : zS) (av : List Value) : FrameBlind (va_Pc av (zQ D c o σ)) := fun a U g mk q => ⟨q.1, q.2.1, va_K.moved (u := U) (U := U.calling g mk a) (Vm.Alike.refl U.vm) q.2.2⟩
/-- the room of a method whose calls go h deep -/
abbrev zr (h : Nat) : Room := { frames := h, cells := 0, slots := 0, locals := 60 * h }
def zB (p : Program) (s : State) (m : MethodId) (meth : Method) (cd : Code) (cc : ByteArray) (nL : Nat) (own : String) (ret : Option FieldType) (args : Array Value) : Prop :=
  p.tables.exec = Jvm.exec ∧ cd.code = cc ∧ meth.sig.returnType = ret ∧ cd.maxLocals = nL ∧ s.vm.findClass own = some m.cls ∧ (∀ w ∈ zWl, w.before args s = true) ∧ meth.locks = false
theorem zMet {l : Launch} {y : MethodName} {cc : ByteArray} {maxL : Nat} {ret : Option FieldType} {h : Nat} {av : List Value} {D : va_G} {c : zC} {o : Nat} {σ : zS} {Qc : Array Value → State → Outcome → State → Prop}
    (hy : plainName y.cls = true) (hlen : (lg_sl av).length ≤ maxL)
    (body : ∀ (p : Program) (e : Env) (s : State) (m : MethodId) (below : List Frame) (meth : Method) (cd : Code), zB p s m meth cd cc maxL y.cls ret av.toArray → zP D c o σ s.heap → zKt D c s → ∀ ls : Array Slot, lv_has ls maxL (lv_args 0 av) →
      W p l e (zr h) s m av.toArray below meth cd s.heap [] 0 0 (MQ below Qc av.toArray s 0 0 (zA o)) (F0 m 0 ls [])) :
    Met l y (Cond.code y cc maxL ret :: zWl) (zr h) (va_Pc av (zQ D c o σ)) Qc 0 0 (zA o) := by
  refine Met.ofW (cc := cc) (maxL := maxL) (ret := ret) hy rfl ?_
  intro p e s m args below meth cd s₁ B hml hv
  obtain ⟨rfl, hP, hK⟩ := hv
  have hts := atoms_spec (ws := Cond.code y cc maxL ret :: zWl) B.pre
  have hl := lv_entry av (n := maxL) hlen
  rw [lg_entry_eq]
  exact body p e s m below meth cd ⟨B.exec, B.bytes, B.returns, hml, findClass_of_methodNamed B.named, fun w hw => hts w (List.mem_cons_of_mem _ hw), B.notSynchronized⟩ hP hK _ hl

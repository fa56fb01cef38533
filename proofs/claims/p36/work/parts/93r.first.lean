/-! ===== the first of the least (best) ===== -/
section FST
variable {α β : Type} {c : α → Nat} {d : β → Nat} {k : Nat}
/-- the least so far -/
def fup (c : α → Nat) (o : Option α) (x : α) : Option α := match o with
  | none => some x
  | some b => if c x < c b then some x else some b
def fsl (c : α → Nat) (o : Option α) (L : List α) : Option α := L.foldl (fup c) o
theorem fup_t {b x : α} (h : c x < c b) : fup c (some b) x = some x := if_pos h
theorem fup_f {b x : α} (h : ¬ c x < c b) : fup c (some b) x = some b := if_neg h
theorem fsl_a {o : Option α} {L M : List α} : fsl c o (L ++ M) = fsl c (fsl c o L) M := List.foldl_append
theorem fsl_c {o : Option α} {x : α} {L : List α} : fsl c o (x :: L) = fsl c (fup c o x) L := rfl
theorem fup_s {o : Option α} {x : α} : ∃ r, fup c o x = some r := by
  cases o with
  | none => exact ⟨x, rfl⟩
  | some b =>
    by_cases h : c x < c b
    · exact ⟨x, fup_t h⟩
    · exact ⟨b, fup_f h⟩
theorem fsl_s : ∀ {L : List α} {b : α}, ∃ r, fsl c (some b) L = some r
  | [], b => ⟨b, rfl⟩
  | x :: L, b => by
    obtain ⟨r, h⟩ := fup_s (c := c) (o := some b) (x := x)
    rw [fsl_c, h]
    exact fsl_s
theorem fsl_m : ∀ {L : List α} {o : Option α} {r : α}, fsl c o L = some r → o = some r ∨ r ∈ L
  | [], _, _, h => Or.inl h
  | x :: L, o, r, h => by
    rw [fsl_c] at h
    rcases fsl_m h with e | e
    · cases o with
      | none =>
        have e : some x = some r := e
        rw [← Option.some.inj e]
        exact Or.inr (List.mem_cons_self)
      | some b =>
        by_cases q : c x < c b
        · rw [fup_t q] at e
          rw [← Option.some.inj e]
          exact Or.inr (List.mem_cons_self)
        · rw [fup_f q] at e
          exact Or.inl e
    · exact Or.inr (List.mem_cons_of_mem _ e)
theorem fsl_u : ∀ {L : List α} {o : Option α} {b r : α}, fsl c (some b) L = some r → fsl c (fup c o b) L = fup c o r
  | [], o, b, r, h => by
    have h : some b = some r := h
    rw [Option.some.inj h]; rfl
  | x :: L, o, b, r, h => by
    rw [fsl_c] at h ⊢
    by_cases q : c x < c b
    · rw [fup_t q] at h
      rw [← fsl_u (o := o) h]
      congr 1
      cases o with
      | none => exact fup_t q
      | some a =>
        by_cases q2 : c b < c a
        · rw [fup_t q2, fup_t q, fup_t (show c x < c a by omega)]
        · rw [fup_f q2]
    · rw [fup_f q] at h
      rw [← fsl_u (o := o) h]
      congr 1
      cases o with
      | none => exact fup_f q
      | some a =>
        by_cases q2 : c b < c a
        · rw [fup_t q2]; exact fup_f q
        · rw [fup_f q2]; exact fup_f (by omega)
theorem fsl_map {f : α → β} (hc : ∀ l, d (f l) = k + c l) : ∀ {L : List α} {o : Option α}, fsl d (o.map f) (L.map f) = (fsl c o L).map f
  | [], _ => rfl
  | x :: L, o => by
    rw [List.map_cons, fsl_c, fsl_c, ← fsl_map hc]
    congr 1
    cases o with
    | none => rfl
    | some b =>
      show fup d (some (f b)) (f x) = _
      by_cases q : c x < c b
      · rw [fup_t q, fup_t (by rw [hc, hc]; omega)]; rfl
      · rw [fup_f q, fup_f (by rw [hc, hc]; omega)]; rfl
/-- a block whose costs are those of L and k -/
theorem fsl_blk {f : α → β} (hc : ∀ l, d (f l) = k + c l) {L : List α} {r : α} (h : fsl c none L = some r) (o : Option β) : fsl d o (L.map f) = fup d o (f r) := by
  cases L with
  | nil => cases h
  | cons x L =>
    have h : fsl c (some x) L = some r := h
    rw [List.map_cons, fsl_c]
    refine fsl_u ?_
    have := fsl_map (f := f) hc (L := L) (o := some x)
    rw [h] at this
    exact this
theorem fsl_fm {g : α → List β} : ∀ {L : List α} {o : Option β}, fsl d o (L.flatMap g) = L.foldl (fun o v => fsl d o (g v)) o
  | [], _ => rfl
  | x :: L, o => by
    rw [List.flatMap_cons, fsl_a, fsl_fm]
    rfl
theorem fd_c {f g : Option β → α → Option β} : ∀ {L : List α} {o : Option β}, (∀ x, x ∈ L → ∀ o, f o x = g o x) → L.foldl f o = L.foldl g o
  | [], _, _ => rfl
  | x :: L, o, h => by
    show L.foldl f (f o x) = L.foldl g (g o x)
    rw [h x List.mem_cons_self]
    exact fd_c (fun y hy => h y (List.mem_cons_of_mem _ hy))
end FST
section BOS
variable {F : Nat → Bool} {n j S v : Nat}
/-- what the names of a list cost behind those of S -/
noncomputable def cl (F : Nat → Bool) (n : Nat) : Nat → List Nat → Nat
  | _, [] => 0
  | S, v :: l => wN F n S v + cl F n (S ||| 2 ^ v) l
/-- names that are not in S -/
def vsn (n S : Nat) : List Nat := (List.range n).filter (fun v => !S.testBit v)
/-- the first best list behind S -/
noncomputable def bo (F : Nat → Bool) (n j S : Nat) : Option (List Nat) := fsl (cl F n S) none (lp n j S)
noncomputable def bR (F : Nat → Bool) (n j S v : Nat) : List Nat := (bo F n j (S ||| 2 ^ v)).getD []
theorem vsn_m : v ∈ vsn n S ↔ v < n ∧ S.testBit v = false := by
  unfold vsn
  rw [List.mem_filter, List.mem_range, Bool.not_eq_true']
/-- the names one by one -/
noncomputable def bom (F : Nat → Bool) (n j S m : Nat) : Option (List Nat) := fsl (cl F n S) none ((vsn m S).map (fun v => v :: bR F n j S v))
theorem bo_s (h : ∀ v, v ∈ vsn n S → ∃ r, bo F n j (S ||| 2 ^ v) = some r) : bo F n (j + 1) S = bom F n j S n := by
  show fsl (cl F n S) none ((vsn n S).flatMap (fun v => (lp n j (S ||| 2 ^ v)).map (fun l => v :: l))) = _
  rw [fsl_fm]
  show _ = List.foldl (fup (cl F n S)) none _
  rw [List.foldl_map]
  refine fd_c (fun v hv o => ?_)
  obtain ⟨r, hr⟩ := h v hv
  have e : bR F n j S v = r := by
    unfold bR
    rw [hr]; rfl
  show fsl (cl F n S) o ((lp n j (S ||| 2 ^ v)).map (fun l => v :: l)) = fup (cl F n S) o (v :: bR F n j S v)
  rw [e]
  exact fsl_blk (k := wN F n S v) (c := cl F n (S ||| 2 ^ v)) (d := cl F n S) (f := fun l => v :: l) (fun l => rfl) hr o
theorem bom_0 : bom F n j S 0 = none := rfl
theorem vsn_s (m : Nat) : vsn (m + 1) S = vsn m S ++ (if S.testBit m = true then [] else [m]) := by
  unfold vsn
  rw [List.range_succ, List.filter_append]
  congr 1
  by_cases q : S.testBit m = true
  · rw [if_pos q]
    exact List.filter_cons_of_neg (by show ¬ (!S.testBit m) = true; rw [q]; decide)
  · rw [if_neg q]
    exact List.filter_cons_of_pos (by show (!S.testBit m) = true; rw [Bool.eq_false_iff.mpr q]; rfl)
theorem bom_t {m : Nat} (h : S.testBit m = true) : bom F n j S (m + 1) = bom F n j S m := by
  unfold bom
  rw [vsn_s, if_pos h, List.append_nil]
theorem bom_f {m : Nat} (h : S.testBit m = false) : bom F n j S (m + 1) = fup (cl F n S) (bom F n j S m) (m :: bR F n j S m) := by
  unfold bom
  rw [vsn_s, if_neg (by rw [h]; decide), List.map_append, fsl_a]
  rfl
theorem bom_r {m : Nat} {r : List Nat} (h : bom F n j S m = some r) : ∃ v, v ∈ vsn m S ∧ r = v :: bR F n j S v := by
  rcases fsl_m h with e | e
  · cases e
  · obtain ⟨v, hv, e⟩ := List.mem_map.mp e
    exact ⟨v, hv, e.symm⟩
theorem lp_len : ∀ {j S : Nat} {l : List Nat}, l ∈ lp n j S → l.length = j
  | 0, S, l, h => by
    have h : l ∈ [[]] := h
    rw [List.mem_singleton.mp h]; rfl
  | j + 1, S, l, h => by
    obtain ⟨v, _, h⟩ := List.mem_flatMap.mp (show l ∈ (vsn n S).flatMap (fun v => (lp n j (S ||| 2 ^ v)).map (fun l => v :: l)) from h)
    obtain ⟨t, ht, e⟩ := List.mem_map.mp h
    rw [← e, List.length_cons, lp_len ht]
theorem wN_le (n6 : n ≤ 6) : wN F n S v ≤ 64 := by
  have a := ct_le (bl (fun x => FX F n S x ∧ hvP F n S v x)) (2 ^ n)
  have b : 2 ^ n ≤ 2 ^ 6 := Nat.pow_le_pow_right (by decide) n6
  unfold wN
  omega
theorem cl_le (n6 : n ≤ 6) : ∀ (l : List Nat) (S : Nat), cl F n S l ≤ 64 * l.length
  | [], _ => Nat.le_refl _
  | v :: l, S => by
    have a := cl_le n6 l (S ||| 2 ^ v)
    have b := wN_le (F := F) (S := S) (v := v) n6
    show wN F n S v + cl F n (S ||| 2 ^ v) l ≤ 64 * (l.length + 1)
    omega
theorem bo_len {r : List Nat} (h : bo F n j S = some r) : r.length = j := by
  rcases fsl_m h with e | e
  · cases e
  · exact lp_len e
end BOS
/-- how many names are not in S -/
def jn (n S : Nat) : Nat := (vsn n S).length
theorem jn_a : ∀ n, n < 7 → jn n 0 = n ∧ jn n (2 ^ n - 1) = 0 := by decide +kernel
theorem jn_b : ∀ n, n < 7 → ∀ S, S < 2 ^ n → jn n S < 7 ∧ (S + 1 < 2 ^ n → 0 < jn n S) := by decide +kernel
theorem jn_c : (List.range 7).all (fun n => (List.range (2 ^ n)).all (fun S => (List.range n).all (fun v => S.testBit v || (decide (jn n S = jn n (S ||| 2 ^ v) + 1) && decide (S ||| 2 ^ v < 2 ^ n) && decide (S < S ||| 2 ^ v))))) = true := by decide +kernel
theorem jn_t (n : Nat) (hn : n < 7) : jn n 0 = n ∧ jn n (2 ^ n - 1) = 0 ∧ ∀ S, S < 2 ^ n → jn n S < 7 ∧ (S + 1 < 2 ^ n → 0 < jn n S) ∧ ∀ v, v < n → S.testBit v = false → jn n S = jn n (S ||| 2 ^ v) + 1 ∧ S ||| 2 ^ v < 2 ^ n ∧ S < S ||| 2 ^ v := by
  refine ⟨(jn_a n hn).1, (jn_a n hn).2, fun S hS => ⟨(jn_b n hn S hS).1, (jn_b n hn S hS).2, fun v hv h => ?_⟩⟩
  have k : (S.testBit v || (decide (jn n S = jn n (S ||| 2 ^ v) + 1) && decide (S ||| 2 ^ v < 2 ^ n) && decide (S < S ||| 2 ^ v))) = true := all_r (all_r (all_r jn_c hn) hS) hv
  rw [h, Bool.false_or] at k
  exact ⟨of_decide_eq_true (and_1 (and_1 k)), of_decide_eq_true (and_2 (and_1 k)), of_decide_eq_true (and_2 k)⟩
/-- cost by places -/
theorem lo_s {v k : Nat} {l : List Nat} : lo (v :: l) (k + 1) = lo l k := rfl
theorem mk_s {v : Nat} {l : List Nat} : ∀ k, mkN (lo (v :: l)) (k + 1) = 2 ^ v ||| mkN (lo l) k
  | 0 => by
    show 0 ||| 2 ^ v = 2 ^ v ||| 0
    rw [Nat.zero_or, Nat.or_zero]
  | k + 1 => by
    show mkN (lo (v :: l)) (k + 1) ||| 2 ^ lo l k = 2 ^ v ||| (mkN (lo l) k ||| 2 ^ lo l k)
    rw [mk_s k, Nat.or_assoc]
theorem sF_s {f : Nat → Nat} : ∀ n, sF f (n + 1) = f 0 + sF (fun k => f (k + 1)) n
  | 0 => by show 0 + f 0 = f 0 + 0; omega
  | n + 1 => by
    have := sF_s (f := f) n
    show sF f (n + 1) + f (n + 1) = f 0 + (sF (fun k => f (k + 1)) n + f (n + 1))
    omega
theorem cl_sF {F : Nat → Bool} {n : Nat} : ∀ (l : List Nat) (S : Nat), cl F n S l = sF (fun k => wN F n (S ||| mkN (lo l) k) (lo l k)) l.length
  | [], _ => rfl
  | v :: l, S => by
    show wN F n S v + cl F n (S ||| 2 ^ v) l = sF _ (l.length + 1)
    rw [sF_s, cl_sF l]
    have e0 : wN F n (S ||| mkN (lo (v :: l)) 0) (lo (v :: l) 0) = wN F n S v := by
      show wN F n (S ||| 0) v = _
      rw [Nat.or_zero]
    rw [e0]
    congr 1
    refine sF_c (fun k _ => ?_)
    show wN F n (S ||| 2 ^ v ||| mkN (lo l) k) (lo l k) = wN F n (S ||| mkN (lo (v :: l)) (k + 1)) (lo l k)
    rw [mk_s, Nat.or_assoc]
/-- the orders are permutations -/
theorem chk2 : ∀ n, n < 7 → (lp n n 0).all (fun l => (List.range n).all (fun v => (List.range n).any (fun k => lo l k == v))) = true := by decide +kernel
theorem lp_pm {n : Nat} {l : List Nat} (hn : n < 7) (h : l ∈ lp n n 0) : PmO n (lo l) := pm_of (fun v hv => by
  obtain ⟨k, hk, e⟩ := List.any_eq_true.mp (all_r (List.all_eq_true.mp (chk2 n hn) l h) hv)
  exact ⟨k, List.mem_range.mp hk, eq_of_beq e⟩)
theorem cl_nodes {F : Nat → Bool} {n : Nat} {l : List Nat} (hn : n < 7) (h : l ∈ lp n n 0) : aN (Gs F (lo l) n) n 1 = cl F n 0 l := by
  have P := lp_pm hn h
  rw [cl_sF, lp_len h]
  show sF (fun k => cF (Gs F (lo l) n) n k (1 * 2 ^ k)) n = _
  refine sF_c (fun k hk => ?_)
  rw [Nat.one_mul, cF_w P hk, Nat.zero_or]

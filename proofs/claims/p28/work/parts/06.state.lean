/-- the references that never change are as the layout has them -/
def zRef (o : Nat) (R : Nat → Nat → Nat) : Prop := ∀ k j, zdyn k j = false → R k j = o + zT k j
theorem zle_lt {x y : Int32} (h : ¬ y ≤ x) : x < y := by
  rw [Int32.lt_iff_toInt_lt]; rw [Int32.le_iff_toInt_le] at h; omega
theorem zlt_le {x y : Int32} (h : ¬ x < y) : y ≤ x := by
  rw [Int32.le_iff_toInt_le]; rw [Int32.lt_iff_toInt_lt] at h; omega
section ZST
variable {σ g τ : zS} {k a j o : Nat} {v : Int32}
theorem zI_ne {f : Nat → Int32} (e : g = zI σ k f) (h : a ≠ k) (hv : σ.1 a j = v) : g.1 a j = v := by subst e; exact (congrFun (va_up_ne _ _ h) j).trans hv
theorem zI_eq {f : Nat → Int32} (e : g = zI σ k f) (hv : f j = v) : g.1 k j = v := by subst e; exact (congrFun (va_up_self _ _ _) j).trans hv
theorem zJ_i {f : Nat → Int64} (e : g = zJ σ k f) (hv : σ.1 a j = v) : g.1 a j = v := by subst e; exact hv
theorem zR_i {f : Nat → Nat} (e : g = zR σ k f) (hv : σ.1 a j = v) : g.1 a j = v := by subst e; exact hv
theorem zI_r {f : Nat → Int32} {w : Nat} (e : g = zI σ k f) (hv : σ.2.2 a j = w) : g.2.2 a j = w := by subst e; exact hv
theorem zJ_r {f : Nat → Int64} {w : Nat} (e : g = zJ σ k f) (hv : σ.2.2 a j = w) : g.2.2 a j = w := by subst e; exact hv
theorem zR_ne {f : Nat → Nat} {w : Nat} (e : g = zR σ k f) (h : a ≠ k) (hv : σ.2.2 a j = w) : g.2.2 a j = w := by subst e; exact (congrFun (va_up_ne _ _ h) j).trans hv
theorem zR_eq {f : Nat → Nat} {w : Nat} (e : g = zR σ k f) (hv : f j = w) : g.2.2 k j = w := by subst e; exact (congrFun (va_up_self _ _ _) j).trans hv
theorem zI_ref {f : Nat → Int32} (e : g = zI σ k f) (h : zRef o σ.2.2) : zRef o g.2.2 := by subst e; exact h
theorem zJ_ref {f : Nat → Int64} (e : g = zJ σ k f) (h : zRef o σ.2.2) : zRef o g.2.2 := by subst e; exact h
theorem zR_ref {w : Nat} (e : g = zR σ k (va_up (σ.2.2 k) j w)) (hd : zdyn k j = true) (h : zRef o σ.2.2) : zRef o g.2.2 := by
  subst e
  intro a b hab
  show va_up σ.2.2 k (va_up (σ.2.2 k) j w) a b = _
  by_cases ha : a = k
  · subst ha
    rw [va_up_self]
    by_cases hb : b = j
    · subst hb; rw [hd] at hab; cases hab
    · rw [va_up_ne _ _ hb]; exact h a b hab
  · rw [va_up_ne _ _ ha]; exact h a b hab
/-- only ints of the cells S (and longs) are other -/
def zFr (S : List Nat) (σ σ1 : zS) : Prop := σ1.2.2 = σ.2.2 ∧ ∀ k, k ∉ S → σ1.1 k = σ.1 k
theorem zFr_rf {S : List Nat} : zFr S σ σ := ⟨rfl, fun _ _ => rfl⟩
theorem zFr_I {S : List Nat} {f : Nat → Int32} (e : g = zI τ k f) (h : zFr S σ τ) (hk : k ∈ S) : zFr S σ g := by
  subst e
  exact ⟨h.1, fun a ha => (va_up_ne _ _ (fun q => ha (by rw [q]; exact hk))).trans (h.2 a ha)⟩
theorem zFr_J {S : List Nat} {f : Nat → Int64} (e : g = zJ τ k f) (h : zFr S σ τ) : zFr S σ g := by subst e; exact ⟨h.1, h.2⟩
theorem zFr_tr {S S' : List Nat} (h : zFr S σ τ) (h' : zFr S' τ g) (hs : ∀ x ∈ S', x ∈ S) : zFr S σ g := ⟨h'.1.trans h.1, fun a ha => (h'.2 a (fun q => ha (hs a q))).trans (h.2 a ha)⟩
theorem zFr_i {S : List Nat} (h : zFr S σ g) (ha : a ∉ S) (hv : σ.1 a j = v) : g.1 a j = v := by rw [h.2 a ha]; exact hv
theorem zFr_r {S : List Nat} {w : Nat} (h : zFr S σ g) (hv : σ.2.2 a j = w) : g.2.2 a j = w := by rw [h.1]; exact hv
theorem zFr_ref {S : List Nat} (h : zFr S σ g) (hv : zRef o σ.2.2) : zRef o g.2.2 := by rw [h.1]; exact hv
end ZST
/-! numbers -/
theorem zt0 : (0 : Int32).toInt = 0 := rfl
theorem zt1 : (1 : Int32).toInt = 1 := rfl
theorem zt2 : (2 : Int32).toInt = 2 := rfl
theorem zt3 : (3 : Int32).toInt = 3 := rfl
theorem zt4 : (4 : Int32).toInt = 4 := rfl
theorem zt6 : (6 : Int32).toInt = 6 := rfl
theorem zt60 : (60 : Int32).toInt = 60 := rfl
def zin3 (v lo hi : Int) : Int32 := if lo ≤ v ∧ v ≤ hi then 1 else 0
theorem zin_ne {r : Int32} {v lo hi : Int} (e : r = zin3 v lo hi) (h : ¬ r = 0) : lo ≤ v ∧ v ≤ hi := by
  unfold zin3 at e
  split at e
  · assumption
  · exact absurd e h
theorem zin_eq {r : Int32} {v lo hi : Int} (e : r = zin3 v lo hi) (h : r = 0) : ¬ (lo ≤ v ∧ v ≤ hi) := by
  unfold zin3 at e
  split at e
  · rw [h] at e; exact absurd e (by decide)
  · assumption
theorem znar3 {r : Int32} {v lo hi : Int} (e : r = zin3 v lo hi) : narrow .boolean (.int r) = .int r := by
  unfold zin3 at e
  split at e <;> (subst e; rfl)
theorem zcase {x : Int32} {a : Int32} (h : x.toInt = a.toInt) : x = a := Int32.toInt_inj.mp h
theorem zcase4 {x : Int32} (h : 0 ≤ x.toInt ∧ x.toInt ≤ 3) : x = 0 ∨ x = 1 ∨ x = 2 ∨ x = 3 := by
  rcases (show x.toInt = 0 ∨ x.toInt = 1 ∨ x.toInt = 2 ∨ x.toInt = 3 by omega) with q | q | q | q
  · exact Or.inl (zcase q)
  · exact Or.inr (Or.inl (zcase q))
  · exact Or.inr (Or.inr (Or.inl (zcase q)))
  · exact Or.inr (Or.inr (Or.inr (zcase q)))
theorem zcase3 {x : Int32} (h : 0 ≤ x.toInt ∧ x.toInt ≤ 2) : x = 0 ∨ x = 1 ∨ x = 2 := by
  rcases (show x.toInt = 0 ∨ x.toInt = 1 ∨ x.toInt = 2 by omega) with q | q | q
  · exact Or.inl (zcase q)
  · exact Or.inr (Or.inl (zcase q))
  · exact Or.inr (Or.inr (zcase q))
theorem zeq0 {x : Int32} (h1 : ¬ x < 0) (h2 : x ≤ 0) : x = 0 := by
  apply zcase
  rw [Int32.lt_iff_toInt_lt] at h1
  rw [Int32.le_iff_toInt_le] at h2
  rw [zt0] at *
  omega
theorem zlit {i N : Nat} (hN : N < 2 ^ 31) (hi : i < 2 ^ 31) (h : ¬ nI N ≤ nI i) : i < N := by
  rcases Nat.lt_or_ge i N with q | q
  · exact q
  · exact absurd (nI_le q hi) h
theorem zlit2 {i N : Nat} (hN : N < 2 ^ 31) (h : nI N ≤ nI i) : N ≤ i ∨ 2 ^ 31 ≤ i := by
  rcases Nat.lt_or_ge i N with q | q
  · exact absurd h (nI_ge q hN)
  · exact Or.inl q
/-! what the first call on a fresh object answers -/
def zsp_end (n : Int32) : Int32 := if n = 0 then 0 else -1
def zsp_fault (w : Int32) : Int32 := if w = 0 then 0 else -1
def zsp_count (w : Int32) : Int32 := if 0 ≤ w.toInt ∧ w.toInt ≤ 6 then 0 else -1
def zsp_keep (k : Int32) : Int32 := if 0 ≤ k.toInt ∧ k.toInt ≤ 2 then 0 else -2
def zsp_back (k : Int32) : Int32 := if 0 ≤ k.toInt ∧ k.toInt ≤ 2 then -6 else -2
def zsp_row (t w n : Int32) : Int32 := if (0 ≤ t.toInt ∧ t.toInt ≤ 3) ∧ (0 ≤ w.toInt ∧ w.toInt ≤ 3) ∧ n.toInt ≤ 60 then (if n.toInt < 0 then -3 else 0) else -2
def zsp_write (t : Int32) : Int32 := if 0 ≤ t.toInt ∧ t.toInt ≤ 3 then -6 else -2
def zsp_paste (t u : Int32) : Int32 := if (0 ≤ t.toInt ∧ t.toInt ≤ 3) ∧ (0 ≤ u.toInt ∧ u.toInt ≤ 3) then -6 else -2
/-- the reader's text is another, ints of the cells S -/
theorem zO_R {σ g : zS} {w : Nat} {S : List Nat} (e : g = zR σ 57 (va_up (σ.2.2 57) 5 w)) : (∀ k j, (k, j) ≠ (57, 5) → g.2.2 k j = σ.2.2 k j) ∧ (∀ k, k ∉ S → g.1 k = σ.1 k) := by
  subst e
  refine ⟨fun k j h => ?_, fun _ _ => rfl⟩
  show va_up σ.2.2 57 (va_up (σ.2.2 57) 5 w) k j = _
  by_cases hk : k = 57
  · subst hk
    rw [va_up_self]
    by_cases hj : j = 5
    · subst hj; exact absurd rfl h
    · rw [va_up_ne _ _ hj]
  · rw [va_up_ne _ _ hk]
theorem zO_I {σ τ g : zS} {k : Nat} {f : Nat → Int32} {S : List Nat} (e : g = zI τ k f) (h : (∀ k j, (k, j) ≠ (57, 5) → τ.2.2 k j = σ.2.2 k j) ∧ (∀ k, k ∉ S → τ.1 k = σ.1 k)) (hk : k ∈ S) : (∀ k j, (k, j) ≠ (57, 5) → g.2.2 k j = σ.2.2 k j) ∧ (∀ k, k ∉ S → g.1 k = σ.1 k) := by
  subst e
  exact ⟨h.1, fun a ha => (va_up_ne _ _ (fun q => ha (by rw [q]; exact hk))).trans (h.2 a ha)⟩
theorem zO_F {σ τ g : zS} {S S' : List Nat} (e : zFr S' τ g) (h : (∀ k j, (k, j) ≠ (57, 5) → τ.2.2 k j = σ.2.2 k j) ∧ (∀ k, k ∉ S → τ.1 k = σ.1 k)) (hs : ∀ x ∈ S', x ∈ S) : (∀ k j, (k, j) ≠ (57, 5) → g.2.2 k j = σ.2.2 k j) ∧ (∀ k, k ∉ S → g.1 k = σ.1 k) :=
  ⟨fun k j q => by rw [e.1]; exact h.1 k j q, fun a ha => (e.2 a (fun q => ha (hs a q))).trans (h.2 a ha)⟩
theorem zcmp_lt (x y : Int64) : lg_cmp x y < 0 ↔ x.toInt < y.toInt := by
  unfold lg_cmp
  simp only [gt_iff_lt, Int64.lt_iff_toInt_lt, ← Int64.toInt_inj]
  split
  · exact ⟨fun h => absurd h (by decide), fun h => by omega⟩
  · split
    · exact ⟨fun h => absurd h (by decide), fun h => by omega⟩
    · exact ⟨fun _ => by omega, fun _ => by decide⟩
theorem zcmp_gt (x y : Int64) : 0 < lg_cmp x y ↔ y.toInt < x.toInt := by
  unfold lg_cmp
  simp only [gt_iff_lt, Int64.lt_iff_toInt_lt, ← Int64.toInt_inj]
  split
  · exact ⟨fun _ => by omega, fun _ => by decide⟩
  · split
    · exact ⟨fun h => absurd h (by decide), fun h => by omega⟩
    · exact ⟨fun h => absurd h (by decide), fun h => by omega⟩
theorem zin3_none (v : Int) : zin3 v 0 (-1) = 0 := if_neg (by omega)
theorem zrow_step {τ g : zS} {k i : Nat} {v : Int32} (e : g = zI τ k (upd (τ.1 k) (nI i).toNatClampNeg v)) (hi : i < 2 ^ 31) (h : ∀ j, j < i → τ.1 k j = v) : ∀ j, j < i + 1 → g.1 k j = v := by
  intro j hj
  subst e
  show va_up τ.1 k (upd (τ.1 k) (nI i).toNatClampNeg v) k j = v
  rw [va_up_self, nI_clamp hi]
  by_cases q : j = i
  · subst q; exact pk_us
  · rw [pk_un q]; exact h j (by omega)
theorem zrow_ne {τ g : zS} {k a n : Nat} {v : Int32} {f : Nat → Int32} (e : g = zI τ k f) (ha : a ≠ k) (h : ∀ j, j < n → τ.1 a j = v) : ∀ j, j < n → g.1 a j = v := fun j hj => zI_ne e ha (h j hj)
/-- the reference's cells stay -/
theorem zI_hi {σ τ g : zS} {k : Nat} {f : Nat → Int32} (e : g = zI τ k f) (hk : k < 218) (h : ∀ a, 218 ≤ a → τ.1 a = σ.1 a) : ∀ a, 218 ≤ a → g.1 a = σ.1 a := by
  subst e
  exact fun a ha => (va_up_ne _ _ (by omega)).trans (h a ha)
theorem zJ_hi {σ τ g : zS} {k : Nat} {f : Nat → Int64} (e : g = zJ τ k f) (h : ∀ a, 218 ≤ a → τ.1 a = σ.1 a) : ∀ a, 218 ≤ a → g.1 a = σ.1 a := by subst e; exact h
theorem zR_hi {σ τ g : zS} {k : Nat} {f : Nat → Nat} (e : g = zR τ k f) (h : ∀ a, 218 ≤ a → τ.1 a = σ.1 a) : ∀ a, 218 ≤ a → g.1 a = σ.1 a := by subst e; exact h
theorem zFr_hi {σ τ g : zS} {S : List Nat} (e : zFr S τ g) (hs : ∀ x ∈ S, x < 218) (h : ∀ a, 218 ≤ a → τ.1 a = σ.1 a) : ∀ a, 218 ≤ a → g.1 a = σ.1 a :=
  fun a ha => (e.2 a (fun q => by have := hs a q; omega)).trans (h a ha)
theorem zO_hi {σ τ g : zS} {S : List Nat} (e : ∀ k, k ∉ S → g.1 k = τ.1 k) (hs : ∀ x ∈ S, x < 218) (h : ∀ a, 218 ≤ a → τ.1 a = σ.1 a) : ∀ a, 218 ≤ a → g.1 a = σ.1 a :=
  fun a ha => (e a (fun q => by have := hs a q; omega)).trans (h a ha)
/-- behind a call of the class: the references, and the reference's cells -/
def zMd (o : Nat) (σ σ1 : zS) : Prop := zRef o σ1.2.2 ∧ ∀ a, 218 ≤ a → σ1.1 a = σ.1 a

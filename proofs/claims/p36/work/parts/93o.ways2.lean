/-! ===== as many blocks as unlike parts (best) ===== -/
section WN2
variable {n k S v x y z e e' : Nat} {o : Nat → Nat} {F : Nat → Bool}
theorem pe_s (h : PEq F n S x y) : PEq F n S y x := fun w hw => (h w hw).symm
theorem pe_t (h : PEq F n S x y) (h2 : PEq F n S y z) : PEq F n S x z := fun w hw => (h2 w hw).trans (h w hw)
theorem hv_c (h : PEq F n S x y) (hv : hvP F n S v x) : hvP F n S v y := by
  obtain ⟨w, a, b, c⟩ := hv
  exact ⟨w, a, b, (h w a).trans c⟩
theorem FX_ex : ∀ x0, sbm S x0 → PEq F n S z x0 → ∃ x, x ≤ x0 ∧ FX F n S x ∧ PEq F n S z x := fun x0 => by
  induction x0 using Nat.strongRecOn with
  | ind x0 ih =>
    intro hs hp
    by_cases q : FX F n S x0
    · exact ⟨x0, Nat.le_refl _, q, hp⟩
    · by_cases w : ∃ x1, x1 < x0 ∧ sbm S x1 ∧ PEq F n S x0 x1
      · obtain ⟨x1, h1, h2, h3⟩ := w
        obtain ⟨x2, a, b, c⟩ := ih x1 h1 h2 (pe_t hp h3)
        exact ⟨x2, by omega, b, c⟩
      · exact absurd ⟨hs, fun x1 h1 h2 h3 => w ⟨x1, h1, h2, h3⟩⟩ q
theorem FX_in (h1 : FX F n S x) (h2 : FX F n S y) (h : PEq F n S x y) : x = y := by
  by_cases q : y < x
  · exact absurd h (h1.2 y q h2.1)
  · by_cases q2 : x < y
    · exact absurd (pe_s h) (h2.2 x q2 h1.1)
    · omega
/-- the family by spots -/
def Gs (F : Nat → Bool) (o : Nat → Nat) (n : Nat) : Nat → Nat → Bool := fun _ e => F (saN o n e n)
theorem bb_x (hk : k ≤ n) (he : e < 2 ^ k) (t : Nat) : BB (Gs F o n) n k e t = (decide (t < 2 ^ (n - k)) && F (saN o n (e * 2 ^ (n - k)) n ||| saN o n t n)) := by
  have b := bb_r (Gr := Gs F o n) (n := n) (r := 0) (t := t) he
  rw [Nat.zero_mul, Nat.zero_add] at b
  rw [b]
  by_cases q : t < 2 ^ (n - k)
  · rw [decide_eq_true q, Bool.true_and, Bool.true_and]
    show F (saN o n (e * 2 ^ (n - k) + t) n) = _
    rw [sa_hl hk he q]
  · rw [decide_eq_false q]; rfl
theorem sm_pe (hP : PmO n o) (hk : k ≤ n) (he : e < 2 ^ k) (he' : e' < 2 ^ k) : SM (Gs F o n) n k e e' ↔ PEq F n (mkN o k) (saN o n (e * 2 ^ (n - k)) n) (saN o n (e' * 2 ^ (n - k)) n) := by
  constructor
  · intro h y hy
    obtain ⟨t, ht, rfl⟩ := off_sa hP hk hy
    have := h t
    rw [bb_x hk he, bb_x hk he', decide_eq_true ht, Bool.true_and, Bool.true_and] at this
    exact this
  · intro h t
    rw [bb_x hk he, bb_x hk he']
    by_cases q : t < 2 ^ (n - k)
    · rw [h _ (sa_off hP hk q)]
    · rw [decide_eq_false q]; rfl
theorem qq_hv (hP : PmO n o) (hk : k < n) (he : e < 2 ^ k) : QQ (Gs F o n) n k e ↔ hvP F n (mkN o k) (o k) (saN o n (e * 2 ^ (n - k)) n) := by
  obtain ⟨a1, a2, _⟩ := pw2 hk
  constructor
  · rintro ⟨t, h1, h2⟩
    have ht := bb_t h2
    rw [bb_x (by omega) he, decide_eq_true ht, Bool.true_and] at h2
    refine ⟨saN o n t n, sa_off hP (by omega) ht, sa_tb.mpr ⟨n - k - 1, by omega, ?_, by rw [show n - 1 - (n - k - 1) = k by omega]⟩, h2⟩
    have p := pow_add (show t - 2 ^ (n - k - 1) < 2 ^ (n - k - 1) by omega)
    rw [show 2 ^ (n - k - 1) + (t - 2 ^ (n - k - 1)) = t by omega] at p
    exact p.1
  · rintro ⟨y, hy, hv, hF⟩
    obtain ⟨t, ht, rfl⟩ := off_sa hP (by omega) hy
    obtain ⟨i, hi, h1, h2⟩ := sa_tb.mp hv
    have ik := hP.2.1 (n - 1 - i) k (by omega) hk h2
    refine ⟨t, ?_, by rw [bb_x (by omega) he, decide_eq_true ht, Bool.true_and]; exact hF⟩
    by_cases q : 2 ^ (n - k - 1) ≤ t
    · exact q
    · rw [tb_lt (show t < 2 ^ (n - k - 1) by omega) (by omega)] at h1; cases h1
/-- nodes at a place: unlike parts with its name -/
theorem cF_w (hP : PmO n o) (hk : k < n) : cF (Gs F o n) n k (2 ^ k) = wN F n (mkN o k) (o k) := by
  have xs : ∀ e, sbm (mkN o k) (saN o n (e * 2 ^ (n - k)) n) := fun e => sa_in (by omega)
  have xl : ∀ e, saN o n (e * 2 ^ (n - k)) n < 2 ^ n := fun e => sa_lt hP
  refine Nat.le_antisymm ?_ ?_
  · refine en_le (R := fun e x => PEq F n (mkN o k) (saN o n (e * 2 ^ (n - k)) n) x) (fun e he ha => ?_) (fun e e' x he he' ha ha' h1 h2 => ?_)
    · have fo := bl_t.mp ha
      obtain ⟨x, x1, x2, x3⟩ := FX_ex (F := F) (n := n) (S := mkN o k) (z := saN o n (e * 2 ^ (n - k)) n) _ (xs e) (fun _ _ => rfl)
      exact ⟨x, Nat.lt_of_le_of_lt x1 (xl e), bl_t.mpr ⟨x2, hv_c x3 ((qq_hv hP hk he).mp fo.1)⟩, x3⟩
    · exact FO_in (bl_t.mp ha) (bl_t.mp ha') ((sm_pe hP (by omega) he he').mpr (pe_t h1 (pe_s h2)))
  · refine en_le (R := fun x e => e < 2 ^ k ∧ PEq F n (mkN o k) (saN o n (e * 2 ^ (n - k)) n) x) (fun x hx ha => ?_) (fun x x' e hx hx' ha ha' h1 h2 => ?_)
    · have fx := bl_t.mp ha
      obtain ⟨e0, h0, rfl⟩ := sbm_sa hP (by omega) fx.1.1
      obtain ⟨e2, a, b, c⟩ := FO_ex (Gr := Gs F o n) (n := n) (k := k) (e := e0) e0 ((qq_hv hP hk h0).mpr fx.2) (fun _ => rfl)
      exact ⟨e2, by omega, bl_t.mpr b, by omega, pe_s ((sm_pe hP (by omega) h0 (by omega)).mp c)⟩
    · exact FX_in (bl_t.mp ha).1 (bl_t.mp ha').1 (pe_t (pe_s h1.2) h2.2)
end WN2

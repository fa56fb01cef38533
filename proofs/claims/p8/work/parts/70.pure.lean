/-! ===== tokens of a text t of n bytes ===== -/
abbrev isSp (c : Int32) : Prop := c.toInt = 32 ∨ c.toInt = 10
abbrev isLt (c : Int32) : Prop := 97 ≤ c.toInt ∧ c.toInt ≤ 122
abbrev isDg (c : Int32) : Prop := 48 ≤ c.toInt ∧ c.toInt ≤ 57
/-- the first place from i on that is not p -/
def rnF (p : Int32 → Prop) [DecidablePred p] (t : Nat → Int32) (n : Nat) : Nat → Nat → Nat
  | 0, i => i
  | f + 1, i => if i < n ∧ p (t i) then rnF p t n f (i + 1) else i
def Rn (p : Int32 → Prop) [DecidablePred p] (t : Nat → Int32) (n i : Nat) : Nat := rnF p t n (n - i) i
theorem Rn_s {p : Int32 → Prop} [DecidablePred p] {t : Nat → Int32} {n i : Nat} (h : i < n) (hp : p (t i)) : Rn p t n i = Rn p t n (i + 1) := by
  unfold Rn
  rw [show n - i = (n - (i + 1)) + 1 by omega]
  exact if_pos ⟨h, hp⟩
theorem Rn_e {p : Int32 → Prop} [DecidablePred p] {t : Nat → Int32} {n i : Nat} (h : i < n → ¬ p (t i)) : Rn p t n i = i := by
  unfold Rn
  cases n - i with
  | zero => rfl
  | succ f => exact if_neg (fun q => h q.1 q.2)
theorem rnF_b {p : Int32 → Prop} [DecidablePred p] {t : Nat → Int32} {n : Nat} : ∀ f i, i ≤ rnF p t n f i ∧ (i ≤ n → rnF p t n f i ≤ n)
  | 0, i => ⟨Nat.le_refl _, id⟩
  | f + 1, i => by
    show i ≤ (if i < n ∧ p (t i) then rnF p t n f (i + 1) else i) ∧ (i ≤ n → (if i < n ∧ p (t i) then rnF p t n f (i + 1) else i) ≤ n)
    split
    · have := rnF_b (p := p) (t := t) (n := n) f (i + 1)
      omega
    · omega
theorem Rn_b {p : Int32 → Prop} [DecidablePred p] {t : Nat → Int32} {n i : Nat} (h : i ≤ n) : i ≤ Rn p t n i ∧ Rn p t n i ≤ n := ⟨(rnF_b _ _).1, (rnF_b _ _).2 h⟩
/-- the number from i on, behind a -/
def nvF (t : Nat → Int32) (n : Nat) : Nat → Nat → Nat → Nat
  | 0, _, a => a
  | f + 1, i, a => if i < n ∧ isDg (t i) then nvF t n f (i + 1) (10 * a + ((t i).toInt - 48).toNat) else a
def Nv (t : Nat → Int32) (n i a : Nat) : Nat := nvF t n (n - i) i a
theorem Nv_s {t : Nat → Int32} {n i a : Nat} (h : i < n) (hp : isDg (t i)) : Nv t n i a = Nv t n (i + 1) (10 * a + ((t i).toInt - 48).toNat) := by
  unfold Nv
  rw [show n - i = (n - (i + 1)) + 1 by omega]
  exact if_pos ⟨h, hp⟩
theorem Nv_e {t : Nat → Int32} {n i a : Nat} (h : i < n → ¬ isDg (t i)) : Nv t n i a = a := by
  unfold Nv
  cases n - i with
  | zero => rfl
  | succ f => exact if_neg (fun q => h q.1 q.2)
abbrev sgn (c : Int32) : Prop := c = 59 ∨ c = 61 ∨ c = 43 ∨ c = 45 ∨ c = 38 ∨ c = 42 ∨ c = 47 ∨ c = 37 ∨ c = 35 ∨ c = 40 ∨ c = 41 ∨ c = 123 ∨ c = 125 ∨ c = 44
/-- the token that is found from i on: where it stands, its kind (0 end, 1 word, 2 number, 3 bad, else the sign), its end -/
def tkF (t : Nat → Int32) (n i : Nat) : Nat := Rn isSp t n i
def tkK (t : Nat → Int32) (n i : Nat) : Int32 := let f := tkF t n i; if f < n then (if isLt (t f) then 1 else if isDg (t f) then 2 else if sgn (t f) then t f else 3) else 0
def tkE (t : Nat → Int32) (n i : Nat) : Nat := let f := tkF t n i; if f < n then (if isLt (t f) then Rn isLt t n f else if isDg (t f) then Rn isDg t n f else f + 1) else f

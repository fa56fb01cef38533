/-- the references that never change are as the layout has them -/
def zRef (o : Nat) (R : Nat → Nat → Nat) : Prop := ∀ k j, zdyn k j = false → R k j = o + zT k j
theorem zle_lt {x y : Int32} (h : ¬ y ≤ x) : x < y := by
  rw [Int32.lt_iff_toInt_lt]; rw [Int32.le_iff_toInt_le] at h; omega
theorem zlt_le {x y : Int32} (h : ¬ x < y) : y ≤ x := by
  rw [Int32.le_iff_toInt_le]; rw [Int32.lt_iff_toInt_lt] at h; omega

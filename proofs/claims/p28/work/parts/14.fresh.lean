/-- the ints of fresh objects -/
def zi0 : Nat → Nat → Int32 := fun k => if k = 0 then (fun j => if j = 3 then (-1) else 0) else if k = 57 then (fun j => if j = 1 then (-1) else 0) else if k = 111 then (fun j => if j = 8 then 2 else 0) else if k = 210 then (fun j => if j = 2 then (-1) else 0) else if k = 212 then (fun j => if j = 2 then (-1) else 0) else if k = 214 then (fun j => if j = 2 then (-1) else 0) else if k = 216 then (fun j => if j = 2 then (-1) else 0) else if k = 218 then (fun j => if j = 15 then (-1) else 0) else if k = 239 then (upd (upd (upd (upd (fun _ => 0) 0 (-1)) 1 (-1)) 2 (-1)) 3 (-1)) else fun _ => 0
def zs0 (o : Nat) : zS := (zi0, fun _ _ => 0, fun k j => o + zT k j)
theorem zq_sw {D : va_G} {a n : Nat} {cA : ClassId} {f g : Nat → Option Nat} {H : Heap} (h : va_at D vwCl (a, .inl (cA, n, .inr (.inr (.inr (.inr f))))) H) (hfg : ∀ j, j < n → f j = g j) : va_at D vwCl (a, .inl (cA, n, .inr (.inr (.inr (.inr g))))) H := by
  have h1 : H[a]? = some (vp_cell cA (n, .inr (.inr (.inr (.inr f))))) := h
  show H[a]? = some (vp_cell cA (n, .inr (.inr (.inr (.inr g)))))
  rw [h1, vp_cell_q, vp_cell_q]
  have e : (Array.ofFn (n := n) fun j => va_rf (f j.val)) = Array.ofFn (n := n) fun j => va_rf (g j.val) := congrArg _ (funext fun j => by rw [hfg j.val j.isLt])
  unfold arrV
  rw [e]
set_option maxRecDepth 100000 in
theorem zfr_0 {D : va_G} {c : zC} {o : Nat} {H : Heap} (h : zL D o (zB11 c o ++ zB12 c (o + 218)) H) : va_at D vwCl (o + 0, zenc c (zs0 o) 0) H := h.2 0 _ rfl
set_option maxRecDepth 100000 in
theorem zfr_1 {D : va_G} {c : zC} {o : Nat} {H : Heap} (h : zL D o (zB11 c o ++ zB12 c (o + 218)) H) : va_at D vwCl (o + 1, zenc c (zs0 o) 1) H := h.2 1 _ rfl
set_option maxRecDepth 100000 in
theorem zfr_2 {D : va_G} {c : zC} {o : Nat} {H : Heap} (h : zL D o (zB11 c o ++ zB12 c (o + 218)) H) : va_at D vwCl (o + 2, zenc c (zs0 o) 2) H := h.2 2 _ rfl
set_option maxRecDepth 100000 in
theorem zfr_3 {D : va_G} {c : zC} {o : Nat} {H : Heap} (h : zL D o (zB11 c o ++ zB12 c (o + 218)) H) : va_at D vwCl (o + 3, zenc c (zs0 o) 3) H := h.2 3 _ rfl
set_option maxRecDepth 100000 in
theorem zfr_4 {D : va_G} {c : zC} {o : Nat} {H : Heap} (h : zL D o (zB11 c o ++ zB12 c (o + 218)) H) : va_at D vwCl (o + 4, zenc c (zs0 o) 4) H := h.2 4 _ rfl
set_option maxRecDepth 100000 in
theorem zfr_5 {D : va_G} {c : zC} {o : Nat} {H : Heap} (h : zL D o (zB11 c o ++ zB12 c (o + 218)) H) : va_at D vwCl (o + 5, zenc c (zs0 o) 5) H := h.2 5 _ rfl
set_option maxRecDepth 100000 in
theorem zfr_6 {D : va_G} {c : zC} {o : Nat} {H : Heap} (h : zL D o (zB11 c o ++ zB12 c (o + 218)) H) : va_at D vwCl (o + 6, zenc c (zs0 o) 6) H := h.2 6 _ rfl
set_option maxRecDepth 100000 in
theorem zfr_7 {D : va_G} {c : zC} {o : Nat} {H : Heap} (h : zL D o (zB11 c o ++ zB12 c (o + 218)) H) : va_at D vwCl (o + 7, zenc c (zs0 o) 7) H := zq_sw (n := 10) (h.2 7 _ rfl) (fun j hj => match j, hj with | 0, _ => rfl | 1, _ => rfl | 2, _ => rfl | 3, _ => rfl | 4, _ => rfl | 5, _ => rfl | 6, _ => rfl | 7, _ => rfl | 8, _ => rfl | 9, _ => rfl | j + 10, h => absurd h (by omega))
set_option maxRecDepth 100000 in
theorem zfr_8 {D : va_G} {c : zC} {o : Nat} {H : Heap} (h : zL D o (zB11 c o ++ zB12 c (o + 218)) H) : va_at D vwCl (o + 8, zenc c (zs0 o) 8) H := h.2 8 _ rfl
set_option maxRecDepth 100000 in
theorem zfr_9 {D : va_G} {c : zC} {o : Nat} {H : Heap} (h : zL D o (zB11 c o ++ zB12 c (o + 218)) H) : va_at D vwCl (o + 9, zenc c (zs0 o) 9) H := h.2 9 _ rfl
set_option maxRecDepth 100000 in
theorem zfr_10 {D : va_G} {c : zC} {o : Nat} {H : Heap} (h : zL D o (zB11 c o ++ zB12 c (o + 218)) H) : va_at D vwCl (o + 10, zenc c (zs0 o) 10) H := h.2 10 _ rfl
set_option maxRecDepth 100000 in
theorem zfr_11 {D : va_G} {c : zC} {o : Nat} {H : Heap} (h : zL D o (zB11 c o ++ zB12 c (o + 218)) H) : va_at D vwCl (o + 11, zenc c (zs0 o) 11) H := h.2 11 _ rfl
set_option maxRecDepth 100000 in
theorem zfr_12 {D : va_G} {c : zC} {o : Nat} {H : Heap} (h : zL D o (zB11 c o ++ zB12 c (o + 218)) H) : va_at D vwCl (o + 12, zenc c (zs0 o) 12) H := h.2 12 _ rfl
set_option maxRecDepth 100000 in
theorem zfr_13 {D : va_G} {c : zC} {o : Nat} {H : Heap} (h : zL D o (zB11 c o ++ zB12 c (o + 218)) H) : va_at D vwCl (o + 13, zenc c (zs0 o) 13) H := h.2 13 _ rfl
set_option maxRecDepth 100000 in
theorem zfr_14 {D : va_G} {c : zC} {o : Nat} {H : Heap} (h : zL D o (zB11 c o ++ zB12 c (o + 218)) H) : va_at D vwCl (o + 14, zenc c (zs0 o) 14) H := h.2 14 _ rfl
set_option maxRecDepth 100000 in
theorem zfr_15 {D : va_G} {c : zC} {o : Nat} {H : Heap} (h : zL D o (zB11 c o ++ zB12 c (o + 218)) H) : va_at D vwCl (o + 15, zenc c (zs0 o) 15) H := h.2 15 _ rfl
set_option maxRecDepth 100000 in
theorem zfr_16 {D : va_G} {c : zC} {o : Nat} {H : Heap} (h : zL D o (zB11 c o ++ zB12 c (o + 218)) H) : va_at D vwCl (o + 16, zenc c (zs0 o) 16) H := h.2 16 _ rfl
set_option maxRecDepth 100000 in
theorem zfr_17 {D : va_G} {c : zC} {o : Nat} {H : Heap} (h : zL D o (zB11 c o ++ zB12 c (o + 218)) H) : va_at D vwCl (o + 17, zenc c (zs0 o) 17) H := h.2 17 _ rfl
set_option maxRecDepth 100000 in
theorem zfr_18 {D : va_G} {c : zC} {o : Nat} {H : Heap} (h : zL D o (zB11 c o ++ zB12 c (o + 218)) H) : va_at D vwCl (o + 18, zenc c (zs0 o) 18) H := h.2 18 _ rfl
set_option maxRecDepth 100000 in
theorem zfr_19 {D : va_G} {c : zC} {o : Nat} {H : Heap} (h : zL D o (zB11 c o ++ zB12 c (o + 218)) H) : va_at D vwCl (o + 19, zenc c (zs0 o) 19) H := h.2 19 _ rfl
set_option maxRecDepth 100000 in
theorem zfr_20 {D : va_G} {c : zC} {o : Nat} {H : Heap} (h : zL D o (zB11 c o ++ zB12 c (o + 218)) H) : va_at D vwCl (o + 20, zenc c (zs0 o) 20) H := h.2 20 _ rfl
set_option maxRecDepth 100000 in
theorem zfr_21 {D : va_G} {c : zC} {o : Nat} {H : Heap} (h : zL D o (zB11 c o ++ zB12 c (o + 218)) H) : va_at D vwCl (o + 21, zenc c (zs0 o) 21) H := h.2 21 _ rfl
set_option maxRecDepth 100000 in
theorem zfr_22 {D : va_G} {c : zC} {o : Nat} {H : Heap} (h : zL D o (zB11 c o ++ zB12 c (o + 218)) H) : va_at D vwCl (o + 22, zenc c (zs0 o) 22) H := h.2 22 _ rfl
set_option maxRecDepth 100000 in
theorem zfr_23 {D : va_G} {c : zC} {o : Nat} {H : Heap} (h : zL D o (zB11 c o ++ zB12 c (o + 218)) H) : va_at D vwCl (o + 23, zenc c (zs0 o) 23) H := h.2 23 _ rfl
set_option maxRecDepth 100000 in
theorem zfr_24 {D : va_G} {c : zC} {o : Nat} {H : Heap} (h : zL D o (zB11 c o ++ zB12 c (o + 218)) H) : va_at D vwCl (o + 24, zenc c (zs0 o) 24) H := h.2 24 _ rfl
set_option maxRecDepth 100000 in
theorem zfr_25 {D : va_G} {c : zC} {o : Nat} {H : Heap} (h : zL D o (zB11 c o ++ zB12 c (o + 218)) H) : va_at D vwCl (o + 25, zenc c (zs0 o) 25) H := h.2 25 _ rfl
set_option maxRecDepth 100000 in
theorem zfr_26 {D : va_G} {c : zC} {o : Nat} {H : Heap} (h : zL D o (zB11 c o ++ zB12 c (o + 218)) H) : va_at D vwCl (o + 26, zenc c (zs0 o) 26) H := h.2 26 _ rfl
set_option maxRecDepth 100000 in
theorem zfr_27 {D : va_G} {c : zC} {o : Nat} {H : Heap} (h : zL D o (zB11 c o ++ zB12 c (o + 218)) H) : va_at D vwCl (o + 27, zenc c (zs0 o) 27) H := h.2 27 _ rfl
set_option maxRecDepth 100000 in
theorem zfr_28 {D : va_G} {c : zC} {o : Nat} {H : Heap} (h : zL D o (zB11 c o ++ zB12 c (o + 218)) H) : va_at D vwCl (o + 28, zenc c (zs0 o) 28) H := h.2 28 _ rfl
set_option maxRecDepth 100000 in
theorem zfr_29 {D : va_G} {c : zC} {o : Nat} {H : Heap} (h : zL D o (zB11 c o ++ zB12 c (o + 218)) H) : va_at D vwCl (o + 29, zenc c (zs0 o) 29) H := h.2 29 _ rfl
set_option maxRecDepth 100000 in
theorem zfr_30 {D : va_G} {c : zC} {o : Nat} {H : Heap} (h : zL D o (zB11 c o ++ zB12 c (o + 218)) H) : va_at D vwCl (o + 30, zenc c (zs0 o) 30) H := h.2 30 _ rfl
set_option maxRecDepth 100000 in
theorem zfr_31 {D : va_G} {c : zC} {o : Nat} {H : Heap} (h : zL D o (zB11 c o ++ zB12 c (o + 218)) H) : va_at D vwCl (o + 31, zenc c (zs0 o) 31) H := h.2 31 _ rfl
set_option maxRecDepth 100000 in
theorem zfr_32 {D : va_G} {c : zC} {o : Nat} {H : Heap} (h : zL D o (zB11 c o ++ zB12 c (o + 218)) H) : va_at D vwCl (o + 32, zenc c (zs0 o) 32) H := h.2 32 _ rfl
set_option maxRecDepth 100000 in
theorem zfr_33 {D : va_G} {c : zC} {o : Nat} {H : Heap} (h : zL D o (zB11 c o ++ zB12 c (o + 218)) H) : va_at D vwCl (o + 33, zenc c (zs0 o) 33) H := zq_sw (n := 10) (h.2 33 _ rfl) (fun j hj => match j, hj with | 0, _ => rfl | 1, _ => rfl | 2, _ => rfl | 3, _ => rfl | 4, _ => rfl | 5, _ => rfl | 6, _ => rfl | 7, _ => rfl | 8, _ => rfl | 9, _ => rfl | j + 10, h => absurd h (by omega))
set_option maxRecDepth 100000 in
theorem zfr_34 {D : va_G} {c : zC} {o : Nat} {H : Heap} (h : zL D o (zB11 c o ++ zB12 c (o + 218)) H) : va_at D vwCl (o + 34, zenc c (zs0 o) 34) H := h.2 34 _ rfl
set_option maxRecDepth 100000 in
theorem zfr_35 {D : va_G} {c : zC} {o : Nat} {H : Heap} (h : zL D o (zB11 c o ++ zB12 c (o + 218)) H) : va_at D vwCl (o + 35, zenc c (zs0 o) 35) H := h.2 35 _ rfl
set_option maxRecDepth 100000 in
theorem zfr_36 {D : va_G} {c : zC} {o : Nat} {H : Heap} (h : zL D o (zB11 c o ++ zB12 c (o + 218)) H) : va_at D vwCl (o + 36, zenc c (zs0 o) 36) H := h.2 36 _ rfl
set_option maxRecDepth 100000 in
theorem zfr_37 {D : va_G} {c : zC} {o : Nat} {H : Heap} (h : zL D o (zB11 c o ++ zB12 c (o + 218)) H) : va_at D vwCl (o + 37, zenc c (zs0 o) 37) H := h.2 37 _ rfl
set_option maxRecDepth 100000 in
theorem zfr_38 {D : va_G} {c : zC} {o : Nat} {H : Heap} (h : zL D o (zB11 c o ++ zB12 c (o + 218)) H) : va_at D vwCl (o + 38, zenc c (zs0 o) 38) H := h.2 38 _ rfl
set_option maxRecDepth 100000 in
theorem zfr_39 {D : va_G} {c : zC} {o : Nat} {H : Heap} (h : zL D o (zB11 c o ++ zB12 c (o + 218)) H) : va_at D vwCl (o + 39, zenc c (zs0 o) 39) H := h.2 39 _ rfl
set_option maxRecDepth 100000 in
theorem zfr_40 {D : va_G} {c : zC} {o : Nat} {H : Heap} (h : zL D o (zB11 c o ++ zB12 c (o + 218)) H) : va_at D vwCl (o + 40, zenc c (zs0 o) 40) H := h.2 40 _ rfl
set_option maxRecDepth 100000 in
theorem zfr_41 {D : va_G} {c : zC} {o : Nat} {H : Heap} (h : zL D o (zB11 c o ++ zB12 c (o + 218)) H) : va_at D vwCl (o + 41, zenc c (zs0 o) 41) H := h.2 41 _ rfl
set_option maxRecDepth 100000 in
theorem zfr_42 {D : va_G} {c : zC} {o : Nat} {H : Heap} (h : zL D o (zB11 c o ++ zB12 c (o + 218)) H) : va_at D vwCl (o + 42, zenc c (zs0 o) 42) H := h.2 42 _ rfl
set_option maxRecDepth 100000 in
theorem zfr_43 {D : va_G} {c : zC} {o : Nat} {H : Heap} (h : zL D o (zB11 c o ++ zB12 c (o + 218)) H) : va_at D vwCl (o + 43, zenc c (zs0 o) 43) H := h.2 43 _ rfl
set_option maxRecDepth 100000 in
theorem zfr_44 {D : va_G} {c : zC} {o : Nat} {H : Heap} (h : zL D o (zB11 c o ++ zB12 c (o + 218)) H) : va_at D vwCl (o + 44, zenc c (zs0 o) 44) H := h.2 44 _ rfl
set_option maxRecDepth 100000 in
theorem zfr_45 {D : va_G} {c : zC} {o : Nat} {H : Heap} (h : zL D o (zB11 c o ++ zB12 c (o + 218)) H) : va_at D vwCl (o + 45, zenc c (zs0 o) 45) H := h.2 45 _ rfl
set_option maxRecDepth 100000 in
theorem zfr_46 {D : va_G} {c : zC} {o : Nat} {H : Heap} (h : zL D o (zB11 c o ++ zB12 c (o + 218)) H) : va_at D vwCl (o + 46, zenc c (zs0 o) 46) H := h.2 46 _ rfl
set_option maxRecDepth 100000 in
theorem zfr_47 {D : va_G} {c : zC} {o : Nat} {H : Heap} (h : zL D o (zB11 c o ++ zB12 c (o + 218)) H) : va_at D vwCl (o + 47, zenc c (zs0 o) 47) H := h.2 47 _ rfl
set_option maxRecDepth 100000 in
theorem zfr_48 {D : va_G} {c : zC} {o : Nat} {H : Heap} (h : zL D o (zB11 c o ++ zB12 c (o + 218)) H) : va_at D vwCl (o + 48, zenc c (zs0 o) 48) H := h.2 48 _ rfl
set_option maxRecDepth 100000 in
theorem zfr_49 {D : va_G} {c : zC} {o : Nat} {H : Heap} (h : zL D o (zB11 c o ++ zB12 c (o + 218)) H) : va_at D vwCl (o + 49, zenc c (zs0 o) 49) H := h.2 49 _ rfl
set_option maxRecDepth 100000 in
theorem zfr_50 {D : va_G} {c : zC} {o : Nat} {H : Heap} (h : zL D o (zB11 c o ++ zB12 c (o + 218)) H) : va_at D vwCl (o + 50, zenc c (zs0 o) 50) H := h.2 50 _ rfl
set_option maxRecDepth 100000 in
theorem zfr_51 {D : va_G} {c : zC} {o : Nat} {H : Heap} (h : zL D o (zB11 c o ++ zB12 c (o + 218)) H) : va_at D vwCl (o + 51, zenc c (zs0 o) 51) H := h.2 51 _ rfl
set_option maxRecDepth 100000 in
theorem zfr_52 {D : va_G} {c : zC} {o : Nat} {H : Heap} (h : zL D o (zB11 c o ++ zB12 c (o + 218)) H) : va_at D vwCl (o + 52, zenc c (zs0 o) 52) H := h.2 52 _ rfl
set_option maxRecDepth 100000 in
theorem zfr_53 {D : va_G} {c : zC} {o : Nat} {H : Heap} (h : zL D o (zB11 c o ++ zB12 c (o + 218)) H) : va_at D vwCl (o + 53, zenc c (zs0 o) 53) H := h.2 53 _ rfl
set_option maxRecDepth 100000 in
theorem zfr_54 {D : va_G} {c : zC} {o : Nat} {H : Heap} (h : zL D o (zB11 c o ++ zB12 c (o + 218)) H) : va_at D vwCl (o + 54, zenc c (zs0 o) 54) H := zq_sw (n := 3) (h.2 54 _ rfl) (fun j hj => match j, hj with | 0, _ => rfl | 1, _ => rfl | 2, _ => rfl | j + 3, h => absurd h (by omega))
set_option maxRecDepth 100000 in
theorem zfr_55 {D : va_G} {c : zC} {o : Nat} {H : Heap} (h : zL D o (zB11 c o ++ zB12 c (o + 218)) H) : va_at D vwCl (o + 55, zenc c (zs0 o) 55) H := h.2 55 _ rfl
set_option maxRecDepth 100000 in
theorem zfr_56 {D : va_G} {c : zC} {o : Nat} {H : Heap} (h : zL D o (zB11 c o ++ zB12 c (o + 218)) H) : va_at D vwCl (o + 56, zenc c (zs0 o) 56) H := zq_sw (n := 4) (h.2 56 _ rfl) (fun j hj => match j, hj with | 0, _ => rfl | 1, _ => rfl | 2, _ => rfl | 3, _ => rfl | j + 4, h => absurd h (by omega))
set_option maxRecDepth 100000 in
theorem zfr_57 {D : va_G} {c : zC} {o : Nat} {H : Heap} (h : zL D o (zB11 c o ++ zB12 c (o + 218)) H) : va_at D vwCl (o + 57, zenc c (zs0 o) 57) H := h.2 57 _ rfl
set_option maxRecDepth 100000 in
theorem zfr_58 {D : va_G} {c : zC} {o : Nat} {H : Heap} (h : zL D o (zB11 c o ++ zB12 c (o + 218)) H) : va_at D vwCl (o + 58, zenc c (zs0 o) 58) H := h.2 58 _ rfl
set_option maxRecDepth 100000 in
theorem zfr_59 {D : va_G} {c : zC} {o : Nat} {H : Heap} (h : zL D o (zB11 c o ++ zB12 c (o + 218)) H) : va_at D vwCl (o + 59, zenc c (zs0 o) 59) H := h.2 59 _ rfl
set_option maxRecDepth 100000 in
theorem zfr_60 {D : va_G} {c : zC} {o : Nat} {H : Heap} (h : zL D o (zB11 c o ++ zB12 c (o + 218)) H) : va_at D vwCl (o + 60, zenc c (zs0 o) 60) H := h.2 60 _ rfl
set_option maxRecDepth 100000 in
theorem zfr_61 {D : va_G} {c : zC} {o : Nat} {H : Heap} (h : zL D o (zB11 c o ++ zB12 c (o + 218)) H) : va_at D vwCl (o + 61, zenc c (zs0 o) 61) H := h.2 61 _ rfl
set_option maxRecDepth 100000 in
theorem zfr_62 {D : va_G} {c : zC} {o : Nat} {H : Heap} (h : zL D o (zB11 c o ++ zB12 c (o + 218)) H) : va_at D vwCl (o + 62, zenc c (zs0 o) 62) H := h.2 62 _ rfl
set_option maxRecDepth 100000 in
theorem zfr_63 {D : va_G} {c : zC} {o : Nat} {H : Heap} (h : zL D o (zB11 c o ++ zB12 c (o + 218)) H) : va_at D vwCl (o + 63, zenc c (zs0 o) 63) H := h.2 63 _ rfl
set_option maxRecDepth 100000 in
theorem zfr_64 {D : va_G} {c : zC} {o : Nat} {H : Heap} (h : zL D o (zB11 c o ++ zB12 c (o + 218)) H) : va_at D vwCl (o + 64, zenc c (zs0 o) 64) H := h.2 64 _ rfl
set_option maxRecDepth 100000 in
theorem zfr_65 {D : va_G} {c : zC} {o : Nat} {H : Heap} (h : zL D o (zB11 c o ++ zB12 c (o + 218)) H) : va_at D vwCl (o + 65, zenc c (zs0 o) 65) H := h.2 65 _ rfl
set_option maxRecDepth 100000 in
theorem zfr_66 {D : va_G} {c : zC} {o : Nat} {H : Heap} (h : zL D o (zB11 c o ++ zB12 c (o + 218)) H) : va_at D vwCl (o + 66, zenc c (zs0 o) 66) H := zq_sw (n := 16) (h.2 66 _ rfl) (fun j hj => match j, hj with | 0, _ => rfl | 1, _ => rfl | 2, _ => rfl | 3, _ => rfl | 4, _ => rfl | 5, _ => rfl | 6, _ => rfl | 7, _ => rfl | 8, _ => rfl | 9, _ => rfl | 10, _ => rfl | 11, _ => rfl | 12, _ => rfl | 13, _ => rfl | 14, _ => rfl | 15, _ => rfl | j + 16, h => absurd h (by omega))
set_option maxRecDepth 100000 in
theorem zfr_67 {D : va_G} {c : zC} {o : Nat} {H : Heap} (h : zL D o (zB11 c o ++ zB12 c (o + 218)) H) : va_at D vwCl (o + 67, zenc c (zs0 o) 67) H := h.2 67 _ rfl
set_option maxRecDepth 100000 in
theorem zfr_68 {D : va_G} {c : zC} {o : Nat} {H : Heap} (h : zL D o (zB11 c o ++ zB12 c (o + 218)) H) : va_at D vwCl (o + 68, zenc c (zs0 o) 68) H := h.2 68 _ rfl
set_option maxRecDepth 100000 in
theorem zfr_69 {D : va_G} {c : zC} {o : Nat} {H : Heap} (h : zL D o (zB11 c o ++ zB12 c (o + 218)) H) : va_at D vwCl (o + 69, zenc c (zs0 o) 69) H := h.2 69 _ rfl
set_option maxRecDepth 100000 in
theorem zfr_70 {D : va_G} {c : zC} {o : Nat} {H : Heap} (h : zL D o (zB11 c o ++ zB12 c (o + 218)) H) : va_at D vwCl (o + 70, zenc c (zs0 o) 70) H := h.2 70 _ rfl
set_option maxRecDepth 100000 in
theorem zfr_71 {D : va_G} {c : zC} {o : Nat} {H : Heap} (h : zL D o (zB11 c o ++ zB12 c (o + 218)) H) : va_at D vwCl (o + 71, zenc c (zs0 o) 71) H := h.2 71 _ rfl
set_option maxRecDepth 100000 in
theorem zfr_72 {D : va_G} {c : zC} {o : Nat} {H : Heap} (h : zL D o (zB11 c o ++ zB12 c (o + 218)) H) : va_at D vwCl (o + 72, zenc c (zs0 o) 72) H := h.2 72 _ rfl
set_option maxRecDepth 100000 in
theorem zfr_73 {D : va_G} {c : zC} {o : Nat} {H : Heap} (h : zL D o (zB11 c o ++ zB12 c (o + 218)) H) : va_at D vwCl (o + 73, zenc c (zs0 o) 73) H := h.2 73 _ rfl
set_option maxRecDepth 100000 in
theorem zfr_74 {D : va_G} {c : zC} {o : Nat} {H : Heap} (h : zL D o (zB11 c o ++ zB12 c (o + 218)) H) : va_at D vwCl (o + 74, zenc c (zs0 o) 74) H := h.2 74 _ rfl
set_option maxRecDepth 100000 in
theorem zfr_75 {D : va_G} {c : zC} {o : Nat} {H : Heap} (h : zL D o (zB11 c o ++ zB12 c (o + 218)) H) : va_at D vwCl (o + 75, zenc c (zs0 o) 75) H := h.2 75 _ rfl
set_option maxRecDepth 100000 in
theorem zfr_76 {D : va_G} {c : zC} {o : Nat} {H : Heap} (h : zL D o (zB11 c o ++ zB12 c (o + 218)) H) : va_at D vwCl (o + 76, zenc c (zs0 o) 76) H := h.2 76 _ rfl
set_option maxRecDepth 100000 in
theorem zfr_77 {D : va_G} {c : zC} {o : Nat} {H : Heap} (h : zL D o (zB11 c o ++ zB12 c (o + 218)) H) : va_at D vwCl (o + 77, zenc c (zs0 o) 77) H := h.2 77 _ rfl
set_option maxRecDepth 100000 in
theorem zfr_78 {D : va_G} {c : zC} {o : Nat} {H : Heap} (h : zL D o (zB11 c o ++ zB12 c (o + 218)) H) : va_at D vwCl (o + 78, zenc c (zs0 o) 78) H := h.2 78 _ rfl
set_option maxRecDepth 100000 in
theorem zfr_79 {D : va_G} {c : zC} {o : Nat} {H : Heap} (h : zL D o (zB11 c o ++ zB12 c (o + 218)) H) : va_at D vwCl (o + 79, zenc c (zs0 o) 79) H := h.2 79 _ rfl
set_option maxRecDepth 100000 in
theorem zfr_80 {D : va_G} {c : zC} {o : Nat} {H : Heap} (h : zL D o (zB11 c o ++ zB12 c (o + 218)) H) : va_at D vwCl (o + 80, zenc c (zs0 o) 80) H := h.2 80 _ rfl
set_option maxRecDepth 100000 in
theorem zfr_81 {D : va_G} {c : zC} {o : Nat} {H : Heap} (h : zL D o (zB11 c o ++ zB12 c (o + 218)) H) : va_at D vwCl (o + 81, zenc c (zs0 o) 81) H := h.2 81 _ rfl
set_option maxRecDepth 100000 in
theorem zfr_82 {D : va_G} {c : zC} {o : Nat} {H : Heap} (h : zL D o (zB11 c o ++ zB12 c (o + 218)) H) : va_at D vwCl (o + 82, zenc c (zs0 o) 82) H := h.2 82 _ rfl
set_option maxRecDepth 100000 in
theorem zfr_83 {D : va_G} {c : zC} {o : Nat} {H : Heap} (h : zL D o (zB11 c o ++ zB12 c (o + 218)) H) : va_at D vwCl (o + 83, zenc c (zs0 o) 83) H := h.2 83 _ rfl
set_option maxRecDepth 100000 in
theorem zfr_84 {D : va_G} {c : zC} {o : Nat} {H : Heap} (h : zL D o (zB11 c o ++ zB12 c (o + 218)) H) : va_at D vwCl (o + 84, zenc c (zs0 o) 84) H := h.2 84 _ rfl
set_option maxRecDepth 100000 in
theorem zfr_85 {D : va_G} {c : zC} {o : Nat} {H : Heap} (h : zL D o (zB11 c o ++ zB12 c (o + 218)) H) : va_at D vwCl (o + 85, zenc c (zs0 o) 85) H := h.2 85 _ rfl
set_option maxRecDepth 100000 in
theorem zfr_86 {D : va_G} {c : zC} {o : Nat} {H : Heap} (h : zL D o (zB11 c o ++ zB12 c (o + 218)) H) : va_at D vwCl (o + 86, zenc c (zs0 o) 86) H := h.2 86 _ rfl
set_option maxRecDepth 100000 in
theorem zfr_87 {D : va_G} {c : zC} {o : Nat} {H : Heap} (h : zL D o (zB11 c o ++ zB12 c (o + 218)) H) : va_at D vwCl (o + 87, zenc c (zs0 o) 87) H := h.2 87 _ rfl
set_option maxRecDepth 100000 in
theorem zfr_88 {D : va_G} {c : zC} {o : Nat} {H : Heap} (h : zL D o (zB11 c o ++ zB12 c (o + 218)) H) : va_at D vwCl (o + 88, zenc c (zs0 o) 88) H := h.2 88 _ rfl
set_option maxRecDepth 100000 in
theorem zfr_89 {D : va_G} {c : zC} {o : Nat} {H : Heap} (h : zL D o (zB11 c o ++ zB12 c (o + 218)) H) : va_at D vwCl (o + 89, zenc c (zs0 o) 89) H := h.2 89 _ rfl
set_option maxRecDepth 100000 in
theorem zfr_90 {D : va_G} {c : zC} {o : Nat} {H : Heap} (h : zL D o (zB11 c o ++ zB12 c (o + 218)) H) : va_at D vwCl (o + 90, zenc c (zs0 o) 90) H := h.2 90 _ rfl
set_option maxRecDepth 100000 in
theorem zfr_91 {D : va_G} {c : zC} {o : Nat} {H : Heap} (h : zL D o (zB11 c o ++ zB12 c (o + 218)) H) : va_at D vwCl (o + 91, zenc c (zs0 o) 91) H := h.2 91 _ rfl
set_option maxRecDepth 100000 in
theorem zfr_92 {D : va_G} {c : zC} {o : Nat} {H : Heap} (h : zL D o (zB11 c o ++ zB12 c (o + 218)) H) : va_at D vwCl (o + 92, zenc c (zs0 o) 92) H := h.2 92 _ rfl
set_option maxRecDepth 100000 in
theorem zfr_93 {D : va_G} {c : zC} {o : Nat} {H : Heap} (h : zL D o (zB11 c o ++ zB12 c (o + 218)) H) : va_at D vwCl (o + 93, zenc c (zs0 o) 93) H := h.2 93 _ rfl
set_option maxRecDepth 100000 in
theorem zfr_94 {D : va_G} {c : zC} {o : Nat} {H : Heap} (h : zL D o (zB11 c o ++ zB12 c (o + 218)) H) : va_at D vwCl (o + 94, zenc c (zs0 o) 94) H := h.2 94 _ rfl
set_option maxRecDepth 100000 in
theorem zfr_95 {D : va_G} {c : zC} {o : Nat} {H : Heap} (h : zL D o (zB11 c o ++ zB12 c (o + 218)) H) : va_at D vwCl (o + 95, zenc c (zs0 o) 95) H := h.2 95 _ rfl
set_option maxRecDepth 100000 in
theorem zfr_96 {D : va_G} {c : zC} {o : Nat} {H : Heap} (h : zL D o (zB11 c o ++ zB12 c (o + 218)) H) : va_at D vwCl (o + 96, zenc c (zs0 o) 96) H := h.2 96 _ rfl
set_option maxRecDepth 100000 in
theorem zfr_97 {D : va_G} {c : zC} {o : Nat} {H : Heap} (h : zL D o (zB11 c o ++ zB12 c (o + 218)) H) : va_at D vwCl (o + 97, zenc c (zs0 o) 97) H := h.2 97 _ rfl
set_option maxRecDepth 100000 in
theorem zfr_98 {D : va_G} {c : zC} {o : Nat} {H : Heap} (h : zL D o (zB11 c o ++ zB12 c (o + 218)) H) : va_at D vwCl (o + 98, zenc c (zs0 o) 98) H := h.2 98 _ rfl
set_option maxRecDepth 100000 in
theorem zfr_99 {D : va_G} {c : zC} {o : Nat} {H : Heap} (h : zL D o (zB11 c o ++ zB12 c (o + 218)) H) : va_at D vwCl (o + 99, zenc c (zs0 o) 99) H := h.2 99 _ rfl
set_option maxRecDepth 100000 in
theorem zfr_100 {D : va_G} {c : zC} {o : Nat} {H : Heap} (h : zL D o (zB11 c o ++ zB12 c (o + 218)) H) : va_at D vwCl (o + 100, zenc c (zs0 o) 100) H := h.2 100 _ rfl
set_option maxRecDepth 100000 in
theorem zfr_101 {D : va_G} {c : zC} {o : Nat} {H : Heap} (h : zL D o (zB11 c o ++ zB12 c (o + 218)) H) : va_at D vwCl (o + 101, zenc c (zs0 o) 101) H := h.2 101 _ rfl
set_option maxRecDepth 100000 in
theorem zfr_102 {D : va_G} {c : zC} {o : Nat} {H : Heap} (h : zL D o (zB11 c o ++ zB12 c (o + 218)) H) : va_at D vwCl (o + 102, zenc c (zs0 o) 102) H := h.2 102 _ rfl
set_option maxRecDepth 100000 in
theorem zfr_103 {D : va_G} {c : zC} {o : Nat} {H : Heap} (h : zL D o (zB11 c o ++ zB12 c (o + 218)) H) : va_at D vwCl (o + 103, zenc c (zs0 o) 103) H := h.2 103 _ rfl
set_option maxRecDepth 100000 in
theorem zfr_104 {D : va_G} {c : zC} {o : Nat} {H : Heap} (h : zL D o (zB11 c o ++ zB12 c (o + 218)) H) : va_at D vwCl (o + 104, zenc c (zs0 o) 104) H := h.2 104 _ rfl
set_option maxRecDepth 100000 in
theorem zfr_105 {D : va_G} {c : zC} {o : Nat} {H : Heap} (h : zL D o (zB11 c o ++ zB12 c (o + 218)) H) : va_at D vwCl (o + 105, zenc c (zs0 o) 105) H := h.2 105 _ rfl
set_option maxRecDepth 100000 in
theorem zfr_106 {D : va_G} {c : zC} {o : Nat} {H : Heap} (h : zL D o (zB11 c o ++ zB12 c (o + 218)) H) : va_at D vwCl (o + 106, zenc c (zs0 o) 106) H := h.2 106 _ rfl
set_option maxRecDepth 100000 in
theorem zfr_107 {D : va_G} {c : zC} {o : Nat} {H : Heap} (h : zL D o (zB11 c o ++ zB12 c (o + 218)) H) : va_at D vwCl (o + 107, zenc c (zs0 o) 107) H := h.2 107 _ rfl
set_option maxRecDepth 100000 in
theorem zfr_108 {D : va_G} {c : zC} {o : Nat} {H : Heap} (h : zL D o (zB11 c o ++ zB12 c (o + 218)) H) : va_at D vwCl (o + 108, zenc c (zs0 o) 108) H := h.2 108 _ rfl
set_option maxRecDepth 100000 in
theorem zfr_109 {D : va_G} {c : zC} {o : Nat} {H : Heap} (h : zL D o (zB11 c o ++ zB12 c (o + 218)) H) : va_at D vwCl (o + 109, zenc c (zs0 o) 109) H := h.2 109 _ rfl
set_option maxRecDepth 100000 in
theorem zfr_110 {D : va_G} {c : zC} {o : Nat} {H : Heap} (h : zL D o (zB11 c o ++ zB12 c (o + 218)) H) : va_at D vwCl (o + 110, zenc c (zs0 o) 110) H := h.2 110 _ rfl
set_option maxRecDepth 100000 in
theorem zfr_111 {D : va_G} {c : zC} {o : Nat} {H : Heap} (h : zL D o (zB11 c o ++ zB12 c (o + 218)) H) : va_at D vwCl (o + 111, zenc c (zs0 o) 111) H := h.2 111 _ rfl
set_option maxRecDepth 100000 in
theorem zfr_112 {D : va_G} {c : zC} {o : Nat} {H : Heap} (h : zL D o (zB11 c o ++ zB12 c (o + 218)) H) : va_at D vwCl (o + 112, zenc c (zs0 o) 112) H := h.2 112 _ rfl
set_option maxRecDepth 100000 in
theorem zfr_113 {D : va_G} {c : zC} {o : Nat} {H : Heap} (h : zL D o (zB11 c o ++ zB12 c (o + 218)) H) : va_at D vwCl (o + 113, zenc c (zs0 o) 113) H := h.2 113 _ rfl
set_option maxRecDepth 100000 in
theorem zfr_114 {D : va_G} {c : zC} {o : Nat} {H : Heap} (h : zL D o (zB11 c o ++ zB12 c (o + 218)) H) : va_at D vwCl (o + 114, zenc c (zs0 o) 114) H := h.2 114 _ rfl
set_option maxRecDepth 100000 in
theorem zfr_115 {D : va_G} {c : zC} {o : Nat} {H : Heap} (h : zL D o (zB11 c o ++ zB12 c (o + 218)) H) : va_at D vwCl (o + 115, zenc c (zs0 o) 115) H := h.2 115 _ rfl
set_option maxRecDepth 100000 in
theorem zfr_116 {D : va_G} {c : zC} {o : Nat} {H : Heap} (h : zL D o (zB11 c o ++ zB12 c (o + 218)) H) : va_at D vwCl (o + 116, zenc c (zs0 o) 116) H := h.2 116 _ rfl
set_option maxRecDepth 100000 in
theorem zfr_117 {D : va_G} {c : zC} {o : Nat} {H : Heap} (h : zL D o (zB11 c o ++ zB12 c (o + 218)) H) : va_at D vwCl (o + 117, zenc c (zs0 o) 117) H := h.2 117 _ rfl
set_option maxRecDepth 100000 in
theorem zfr_118 {D : va_G} {c : zC} {o : Nat} {H : Heap} (h : zL D o (zB11 c o ++ zB12 c (o + 218)) H) : va_at D vwCl (o + 118, zenc c (zs0 o) 118) H := h.2 118 _ rfl
set_option maxRecDepth 100000 in
theorem zfr_119 {D : va_G} {c : zC} {o : Nat} {H : Heap} (h : zL D o (zB11 c o ++ zB12 c (o + 218)) H) : va_at D vwCl (o + 119, zenc c (zs0 o) 119) H := h.2 119 _ rfl
set_option maxRecDepth 100000 in
theorem zfr_120 {D : va_G} {c : zC} {o : Nat} {H : Heap} (h : zL D o (zB11 c o ++ zB12 c (o + 218)) H) : va_at D vwCl (o + 120, zenc c (zs0 o) 120) H := h.2 120 _ rfl
set_option maxRecDepth 100000 in
theorem zfr_121 {D : va_G} {c : zC} {o : Nat} {H : Heap} (h : zL D o (zB11 c o ++ zB12 c (o + 218)) H) : va_at D vwCl (o + 121, zenc c (zs0 o) 121) H := h.2 121 _ rfl
set_option maxRecDepth 100000 in
theorem zfr_122 {D : va_G} {c : zC} {o : Nat} {H : Heap} (h : zL D o (zB11 c o ++ zB12 c (o + 218)) H) : va_at D vwCl (o + 122, zenc c (zs0 o) 122) H := h.2 122 _ rfl
set_option maxRecDepth 100000 in
theorem zfr_123 {D : va_G} {c : zC} {o : Nat} {H : Heap} (h : zL D o (zB11 c o ++ zB12 c (o + 218)) H) : va_at D vwCl (o + 123, zenc c (zs0 o) 123) H := h.2 123 _ rfl
set_option maxRecDepth 100000 in
theorem zfr_124 {D : va_G} {c : zC} {o : Nat} {H : Heap} (h : zL D o (zB11 c o ++ zB12 c (o + 218)) H) : va_at D vwCl (o + 124, zenc c (zs0 o) 124) H := h.2 124 _ rfl
set_option maxRecDepth 100000 in
theorem zfr_125 {D : va_G} {c : zC} {o : Nat} {H : Heap} (h : zL D o (zB11 c o ++ zB12 c (o + 218)) H) : va_at D vwCl (o + 125, zenc c (zs0 o) 125) H := h.2 125 _ rfl
set_option maxRecDepth 100000 in
theorem zfr_126 {D : va_G} {c : zC} {o : Nat} {H : Heap} (h : zL D o (zB11 c o ++ zB12 c (o + 218)) H) : va_at D vwCl (o + 126, zenc c (zs0 o) 126) H := h.2 126 _ rfl
set_option maxRecDepth 100000 in
theorem zfr_127 {D : va_G} {c : zC} {o : Nat} {H : Heap} (h : zL D o (zB11 c o ++ zB12 c (o + 218)) H) : va_at D vwCl (o + 127, zenc c (zs0 o) 127) H := h.2 127 _ rfl
set_option maxRecDepth 100000 in
theorem zfr_128 {D : va_G} {c : zC} {o : Nat} {H : Heap} (h : zL D o (zB11 c o ++ zB12 c (o + 218)) H) : va_at D vwCl (o + 128, zenc c (zs0 o) 128) H := h.2 128 _ rfl
set_option maxRecDepth 100000 in
theorem zfr_129 {D : va_G} {c : zC} {o : Nat} {H : Heap} (h : zL D o (zB11 c o ++ zB12 c (o + 218)) H) : va_at D vwCl (o + 129, zenc c (zs0 o) 129) H := h.2 129 _ rfl
set_option maxRecDepth 100000 in
theorem zfr_130 {D : va_G} {c : zC} {o : Nat} {H : Heap} (h : zL D o (zB11 c o ++ zB12 c (o + 218)) H) : va_at D vwCl (o + 130, zenc c (zs0 o) 130) H := h.2 130 _ rfl
set_option maxRecDepth 100000 in
theorem zfr_131 {D : va_G} {c : zC} {o : Nat} {H : Heap} (h : zL D o (zB11 c o ++ zB12 c (o + 218)) H) : va_at D vwCl (o + 131, zenc c (zs0 o) 131) H := h.2 131 _ rfl
set_option maxRecDepth 100000 in
theorem zfr_132 {D : va_G} {c : zC} {o : Nat} {H : Heap} (h : zL D o (zB11 c o ++ zB12 c (o + 218)) H) : va_at D vwCl (o + 132, zenc c (zs0 o) 132) H := h.2 132 _ rfl
set_option maxRecDepth 100000 in
theorem zfr_133 {D : va_G} {c : zC} {o : Nat} {H : Heap} (h : zL D o (zB11 c o ++ zB12 c (o + 218)) H) : va_at D vwCl (o + 133, zenc c (zs0 o) 133) H := h.2 133 _ rfl
set_option maxRecDepth 100000 in
theorem zfr_134 {D : va_G} {c : zC} {o : Nat} {H : Heap} (h : zL D o (zB11 c o ++ zB12 c (o + 218)) H) : va_at D vwCl (o + 134, zenc c (zs0 o) 134) H := h.2 134 _ rfl
set_option maxRecDepth 100000 in
theorem zfr_135 {D : va_G} {c : zC} {o : Nat} {H : Heap} (h : zL D o (zB11 c o ++ zB12 c (o + 218)) H) : va_at D vwCl (o + 135, zenc c (zs0 o) 135) H := h.2 135 _ rfl
set_option maxRecDepth 100000 in
theorem zfr_136 {D : va_G} {c : zC} {o : Nat} {H : Heap} (h : zL D o (zB11 c o ++ zB12 c (o + 218)) H) : va_at D vwCl (o + 136, zenc c (zs0 o) 136) H := h.2 136 _ rfl
set_option maxRecDepth 100000 in
theorem zfr_137 {D : va_G} {c : zC} {o : Nat} {H : Heap} (h : zL D o (zB11 c o ++ zB12 c (o + 218)) H) : va_at D vwCl (o + 137, zenc c (zs0 o) 137) H := zq_sw (n := 10) (h.2 137 _ rfl) (fun j hj => match j, hj with | 0, _ => rfl | 1, _ => rfl | 2, _ => rfl | 3, _ => rfl | 4, _ => rfl | 5, _ => rfl | 6, _ => rfl | 7, _ => rfl | 8, _ => rfl | 9, _ => rfl | j + 10, h => absurd h (by omega))
set_option maxRecDepth 100000 in
theorem zfr_138 {D : va_G} {c : zC} {o : Nat} {H : Heap} (h : zL D o (zB11 c o ++ zB12 c (o + 218)) H) : va_at D vwCl (o + 138, zenc c (zs0 o) 138) H := h.2 138 _ rfl
set_option maxRecDepth 100000 in
theorem zfr_139 {D : va_G} {c : zC} {o : Nat} {H : Heap} (h : zL D o (zB11 c o ++ zB12 c (o + 218)) H) : va_at D vwCl (o + 139, zenc c (zs0 o) 139) H := h.2 139 _ rfl
set_option maxRecDepth 100000 in
theorem zfr_140 {D : va_G} {c : zC} {o : Nat} {H : Heap} (h : zL D o (zB11 c o ++ zB12 c (o + 218)) H) : va_at D vwCl (o + 140, zenc c (zs0 o) 140) H := h.2 140 _ rfl
set_option maxRecDepth 100000 in
theorem zfr_141 {D : va_G} {c : zC} {o : Nat} {H : Heap} (h : zL D o (zB11 c o ++ zB12 c (o + 218)) H) : va_at D vwCl (o + 141, zenc c (zs0 o) 141) H := h.2 141 _ rfl
set_option maxRecDepth 100000 in
theorem zfr_142 {D : va_G} {c : zC} {o : Nat} {H : Heap} (h : zL D o (zB11 c o ++ zB12 c (o + 218)) H) : va_at D vwCl (o + 142, zenc c (zs0 o) 142) H := h.2 142 _ rfl
set_option maxRecDepth 100000 in
theorem zfr_143 {D : va_G} {c : zC} {o : Nat} {H : Heap} (h : zL D o (zB11 c o ++ zB12 c (o + 218)) H) : va_at D vwCl (o + 143, zenc c (zs0 o) 143) H := h.2 143 _ rfl
set_option maxRecDepth 100000 in
theorem zfr_144 {D : va_G} {c : zC} {o : Nat} {H : Heap} (h : zL D o (zB11 c o ++ zB12 c (o + 218)) H) : va_at D vwCl (o + 144, zenc c (zs0 o) 144) H := h.2 144 _ rfl
set_option maxRecDepth 100000 in
theorem zfr_145 {D : va_G} {c : zC} {o : Nat} {H : Heap} (h : zL D o (zB11 c o ++ zB12 c (o + 218)) H) : va_at D vwCl (o + 145, zenc c (zs0 o) 145) H := h.2 145 _ rfl
set_option maxRecDepth 100000 in
theorem zfr_146 {D : va_G} {c : zC} {o : Nat} {H : Heap} (h : zL D o (zB11 c o ++ zB12 c (o + 218)) H) : va_at D vwCl (o + 146, zenc c (zs0 o) 146) H := h.2 146 _ rfl
set_option maxRecDepth 100000 in
theorem zfr_147 {D : va_G} {c : zC} {o : Nat} {H : Heap} (h : zL D o (zB11 c o ++ zB12 c (o + 218)) H) : va_at D vwCl (o + 147, zenc c (zs0 o) 147) H := h.2 147 _ rfl
set_option maxRecDepth 100000 in
theorem zfr_148 {D : va_G} {c : zC} {o : Nat} {H : Heap} (h : zL D o (zB11 c o ++ zB12 c (o + 218)) H) : va_at D vwCl (o + 148, zenc c (zs0 o) 148) H := h.2 148 _ rfl
set_option maxRecDepth 100000 in
theorem zfr_149 {D : va_G} {c : zC} {o : Nat} {H : Heap} (h : zL D o (zB11 c o ++ zB12 c (o + 218)) H) : va_at D vwCl (o + 149, zenc c (zs0 o) 149) H := h.2 149 _ rfl
set_option maxRecDepth 100000 in
theorem zfr_150 {D : va_G} {c : zC} {o : Nat} {H : Heap} (h : zL D o (zB11 c o ++ zB12 c (o + 218)) H) : va_at D vwCl (o + 150, zenc c (zs0 o) 150) H := h.2 150 _ rfl
set_option maxRecDepth 100000 in
theorem zfr_151 {D : va_G} {c : zC} {o : Nat} {H : Heap} (h : zL D o (zB11 c o ++ zB12 c (o + 218)) H) : va_at D vwCl (o + 151, zenc c (zs0 o) 151) H := h.2 151 _ rfl
set_option maxRecDepth 100000 in
theorem zfr_152 {D : va_G} {c : zC} {o : Nat} {H : Heap} (h : zL D o (zB11 c o ++ zB12 c (o + 218)) H) : va_at D vwCl (o + 152, zenc c (zs0 o) 152) H := h.2 152 _ rfl
set_option maxRecDepth 100000 in
theorem zfr_153 {D : va_G} {c : zC} {o : Nat} {H : Heap} (h : zL D o (zB11 c o ++ zB12 c (o + 218)) H) : va_at D vwCl (o + 153, zenc c (zs0 o) 153) H := h.2 153 _ rfl
set_option maxRecDepth 100000 in
theorem zfr_154 {D : va_G} {c : zC} {o : Nat} {H : Heap} (h : zL D o (zB11 c o ++ zB12 c (o + 218)) H) : va_at D vwCl (o + 154, zenc c (zs0 o) 154) H := h.2 154 _ rfl
set_option maxRecDepth 100000 in
theorem zfr_155 {D : va_G} {c : zC} {o : Nat} {H : Heap} (h : zL D o (zB11 c o ++ zB12 c (o + 218)) H) : va_at D vwCl (o + 155, zenc c (zs0 o) 155) H := h.2 155 _ rfl
set_option maxRecDepth 100000 in
theorem zfr_156 {D : va_G} {c : zC} {o : Nat} {H : Heap} (h : zL D o (zB11 c o ++ zB12 c (o + 218)) H) : va_at D vwCl (o + 156, zenc c (zs0 o) 156) H := h.2 156 _ rfl
set_option maxRecDepth 100000 in
theorem zfr_157 {D : va_G} {c : zC} {o : Nat} {H : Heap} (h : zL D o (zB11 c o ++ zB12 c (o + 218)) H) : va_at D vwCl (o + 157, zenc c (zs0 o) 157) H := h.2 157 _ rfl
set_option maxRecDepth 100000 in
theorem zfr_158 {D : va_G} {c : zC} {o : Nat} {H : Heap} (h : zL D o (zB11 c o ++ zB12 c (o + 218)) H) : va_at D vwCl (o + 158, zenc c (zs0 o) 158) H := h.2 158 _ rfl
set_option maxRecDepth 100000 in
theorem zfr_159 {D : va_G} {c : zC} {o : Nat} {H : Heap} (h : zL D o (zB11 c o ++ zB12 c (o + 218)) H) : va_at D vwCl (o + 159, zenc c (zs0 o) 159) H := h.2 159 _ rfl
set_option maxRecDepth 100000 in
theorem zfr_160 {D : va_G} {c : zC} {o : Nat} {H : Heap} (h : zL D o (zB11 c o ++ zB12 c (o + 218)) H) : va_at D vwCl (o + 160, zenc c (zs0 o) 160) H := h.2 160 _ rfl
set_option maxRecDepth 100000 in
theorem zfr_161 {D : va_G} {c : zC} {o : Nat} {H : Heap} (h : zL D o (zB11 c o ++ zB12 c (o + 218)) H) : va_at D vwCl (o + 161, zenc c (zs0 o) 161) H := h.2 161 _ rfl
set_option maxRecDepth 100000 in
theorem zfr_162 {D : va_G} {c : zC} {o : Nat} {H : Heap} (h : zL D o (zB11 c o ++ zB12 c (o + 218)) H) : va_at D vwCl (o + 162, zenc c (zs0 o) 162) H := h.2 162 _ rfl
set_option maxRecDepth 100000 in
theorem zfr_163 {D : va_G} {c : zC} {o : Nat} {H : Heap} (h : zL D o (zB11 c o ++ zB12 c (o + 218)) H) : va_at D vwCl (o + 163, zenc c (zs0 o) 163) H := zq_sw (n := 10) (h.2 163 _ rfl) (fun j hj => match j, hj with | 0, _ => rfl | 1, _ => rfl | 2, _ => rfl | 3, _ => rfl | 4, _ => rfl | 5, _ => rfl | 6, _ => rfl | 7, _ => rfl | 8, _ => rfl | 9, _ => rfl | j + 10, h => absurd h (by omega))
set_option maxRecDepth 100000 in
theorem zfr_164 {D : va_G} {c : zC} {o : Nat} {H : Heap} (h : zL D o (zB11 c o ++ zB12 c (o + 218)) H) : va_at D vwCl (o + 164, zenc c (zs0 o) 164) H := h.2 164 _ rfl
set_option maxRecDepth 100000 in
theorem zfr_165 {D : va_G} {c : zC} {o : Nat} {H : Heap} (h : zL D o (zB11 c o ++ zB12 c (o + 218)) H) : va_at D vwCl (o + 165, zenc c (zs0 o) 165) H := h.2 165 _ rfl
set_option maxRecDepth 100000 in
theorem zfr_166 {D : va_G} {c : zC} {o : Nat} {H : Heap} (h : zL D o (zB11 c o ++ zB12 c (o + 218)) H) : va_at D vwCl (o + 166, zenc c (zs0 o) 166) H := h.2 166 _ rfl
set_option maxRecDepth 100000 in
theorem zfr_167 {D : va_G} {c : zC} {o : Nat} {H : Heap} (h : zL D o (zB11 c o ++ zB12 c (o + 218)) H) : va_at D vwCl (o + 167, zenc c (zs0 o) 167) H := h.2 167 _ rfl
set_option maxRecDepth 100000 in
theorem zfr_168 {D : va_G} {c : zC} {o : Nat} {H : Heap} (h : zL D o (zB11 c o ++ zB12 c (o + 218)) H) : va_at D vwCl (o + 168, zenc c (zs0 o) 168) H := h.2 168 _ rfl
set_option maxRecDepth 100000 in
theorem zfr_169 {D : va_G} {c : zC} {o : Nat} {H : Heap} (h : zL D o (zB11 c o ++ zB12 c (o + 218)) H) : va_at D vwCl (o + 169, zenc c (zs0 o) 169) H := h.2 169 _ rfl
set_option maxRecDepth 100000 in
theorem zfr_170 {D : va_G} {c : zC} {o : Nat} {H : Heap} (h : zL D o (zB11 c o ++ zB12 c (o + 218)) H) : va_at D vwCl (o + 170, zenc c (zs0 o) 170) H := h.2 170 _ rfl
set_option maxRecDepth 100000 in
theorem zfr_171 {D : va_G} {c : zC} {o : Nat} {H : Heap} (h : zL D o (zB11 c o ++ zB12 c (o + 218)) H) : va_at D vwCl (o + 171, zenc c (zs0 o) 171) H := h.2 171 _ rfl
set_option maxRecDepth 100000 in
theorem zfr_172 {D : va_G} {c : zC} {o : Nat} {H : Heap} (h : zL D o (zB11 c o ++ zB12 c (o + 218)) H) : va_at D vwCl (o + 172, zenc c (zs0 o) 172) H := h.2 172 _ rfl
set_option maxRecDepth 100000 in
theorem zfr_173 {D : va_G} {c : zC} {o : Nat} {H : Heap} (h : zL D o (zB11 c o ++ zB12 c (o + 218)) H) : va_at D vwCl (o + 173, zenc c (zs0 o) 173) H := h.2 173 _ rfl
set_option maxRecDepth 100000 in
theorem zfr_174 {D : va_G} {c : zC} {o : Nat} {H : Heap} (h : zL D o (zB11 c o ++ zB12 c (o + 218)) H) : va_at D vwCl (o + 174, zenc c (zs0 o) 174) H := h.2 174 _ rfl
set_option maxRecDepth 100000 in
theorem zfr_175 {D : va_G} {c : zC} {o : Nat} {H : Heap} (h : zL D o (zB11 c o ++ zB12 c (o + 218)) H) : va_at D vwCl (o + 175, zenc c (zs0 o) 175) H := h.2 175 _ rfl
set_option maxRecDepth 100000 in
theorem zfr_176 {D : va_G} {c : zC} {o : Nat} {H : Heap} (h : zL D o (zB11 c o ++ zB12 c (o + 218)) H) : va_at D vwCl (o + 176, zenc c (zs0 o) 176) H := h.2 176 _ rfl
set_option maxRecDepth 100000 in
theorem zfr_177 {D : va_G} {c : zC} {o : Nat} {H : Heap} (h : zL D o (zB11 c o ++ zB12 c (o + 218)) H) : va_at D vwCl (o + 177, zenc c (zs0 o) 177) H := h.2 177 _ rfl
set_option maxRecDepth 100000 in
theorem zfr_178 {D : va_G} {c : zC} {o : Nat} {H : Heap} (h : zL D o (zB11 c o ++ zB12 c (o + 218)) H) : va_at D vwCl (o + 178, zenc c (zs0 o) 178) H := h.2 178 _ rfl
set_option maxRecDepth 100000 in
theorem zfr_179 {D : va_G} {c : zC} {o : Nat} {H : Heap} (h : zL D o (zB11 c o ++ zB12 c (o + 218)) H) : va_at D vwCl (o + 179, zenc c (zs0 o) 179) H := h.2 179 _ rfl
set_option maxRecDepth 100000 in
theorem zfr_180 {D : va_G} {c : zC} {o : Nat} {H : Heap} (h : zL D o (zB11 c o ++ zB12 c (o + 218)) H) : va_at D vwCl (o + 180, zenc c (zs0 o) 180) H := h.2 180 _ rfl
set_option maxRecDepth 100000 in
theorem zfr_181 {D : va_G} {c : zC} {o : Nat} {H : Heap} (h : zL D o (zB11 c o ++ zB12 c (o + 218)) H) : va_at D vwCl (o + 181, zenc c (zs0 o) 181) H := h.2 181 _ rfl
set_option maxRecDepth 100000 in
theorem zfr_182 {D : va_G} {c : zC} {o : Nat} {H : Heap} (h : zL D o (zB11 c o ++ zB12 c (o + 218)) H) : va_at D vwCl (o + 182, zenc c (zs0 o) 182) H := h.2 182 _ rfl
set_option maxRecDepth 100000 in
theorem zfr_183 {D : va_G} {c : zC} {o : Nat} {H : Heap} (h : zL D o (zB11 c o ++ zB12 c (o + 218)) H) : va_at D vwCl (o + 183, zenc c (zs0 o) 183) H := h.2 183 _ rfl
set_option maxRecDepth 100000 in
theorem zfr_184 {D : va_G} {c : zC} {o : Nat} {H : Heap} (h : zL D o (zB11 c o ++ zB12 c (o + 218)) H) : va_at D vwCl (o + 184, zenc c (zs0 o) 184) H := h.2 184 _ rfl
set_option maxRecDepth 100000 in
theorem zfr_185 {D : va_G} {c : zC} {o : Nat} {H : Heap} (h : zL D o (zB11 c o ++ zB12 c (o + 218)) H) : va_at D vwCl (o + 185, zenc c (zs0 o) 185) H := h.2 185 _ rfl
set_option maxRecDepth 100000 in
theorem zfr_186 {D : va_G} {c : zC} {o : Nat} {H : Heap} (h : zL D o (zB11 c o ++ zB12 c (o + 218)) H) : va_at D vwCl (o + 186, zenc c (zs0 o) 186) H := h.2 186 _ rfl
set_option maxRecDepth 100000 in
theorem zfr_187 {D : va_G} {c : zC} {o : Nat} {H : Heap} (h : zL D o (zB11 c o ++ zB12 c (o + 218)) H) : va_at D vwCl (o + 187, zenc c (zs0 o) 187) H := h.2 187 _ rfl
set_option maxRecDepth 100000 in
theorem zfr_188 {D : va_G} {c : zC} {o : Nat} {H : Heap} (h : zL D o (zB11 c o ++ zB12 c (o + 218)) H) : va_at D vwCl (o + 188, zenc c (zs0 o) 188) H := h.2 188 _ rfl
set_option maxRecDepth 100000 in
theorem zfr_189 {D : va_G} {c : zC} {o : Nat} {H : Heap} (h : zL D o (zB11 c o ++ zB12 c (o + 218)) H) : va_at D vwCl (o + 189, zenc c (zs0 o) 189) H := zq_sw (n := 10) (h.2 189 _ rfl) (fun j hj => match j, hj with | 0, _ => rfl | 1, _ => rfl | 2, _ => rfl | 3, _ => rfl | 4, _ => rfl | 5, _ => rfl | 6, _ => rfl | 7, _ => rfl | 8, _ => rfl | 9, _ => rfl | j + 10, h => absurd h (by omega))
set_option maxRecDepth 100000 in
theorem zfr_190 {D : va_G} {c : zC} {o : Nat} {H : Heap} (h : zL D o (zB11 c o ++ zB12 c (o + 218)) H) : va_at D vwCl (o + 190, zenc c (zs0 o) 190) H := h.2 190 _ rfl
set_option maxRecDepth 100000 in
theorem zfr_191 {D : va_G} {c : zC} {o : Nat} {H : Heap} (h : zL D o (zB11 c o ++ zB12 c (o + 218)) H) : va_at D vwCl (o + 191, zenc c (zs0 o) 191) H := h.2 191 _ rfl
set_option maxRecDepth 100000 in
theorem zfr_192 {D : va_G} {c : zC} {o : Nat} {H : Heap} (h : zL D o (zB11 c o ++ zB12 c (o + 218)) H) : va_at D vwCl (o + 192, zenc c (zs0 o) 192) H := h.2 192 _ rfl
set_option maxRecDepth 100000 in
theorem zfr_193 {D : va_G} {c : zC} {o : Nat} {H : Heap} (h : zL D o (zB11 c o ++ zB12 c (o + 218)) H) : va_at D vwCl (o + 193, zenc c (zs0 o) 193) H := h.2 193 _ rfl
set_option maxRecDepth 100000 in
theorem zfr_194 {D : va_G} {c : zC} {o : Nat} {H : Heap} (h : zL D o (zB11 c o ++ zB12 c (o + 218)) H) : va_at D vwCl (o + 194, zenc c (zs0 o) 194) H := h.2 194 _ rfl
set_option maxRecDepth 100000 in
theorem zfr_195 {D : va_G} {c : zC} {o : Nat} {H : Heap} (h : zL D o (zB11 c o ++ zB12 c (o + 218)) H) : va_at D vwCl (o + 195, zenc c (zs0 o) 195) H := h.2 195 _ rfl
set_option maxRecDepth 100000 in
theorem zfr_196 {D : va_G} {c : zC} {o : Nat} {H : Heap} (h : zL D o (zB11 c o ++ zB12 c (o + 218)) H) : va_at D vwCl (o + 196, zenc c (zs0 o) 196) H := h.2 196 _ rfl
set_option maxRecDepth 100000 in
theorem zfr_197 {D : va_G} {c : zC} {o : Nat} {H : Heap} (h : zL D o (zB11 c o ++ zB12 c (o + 218)) H) : va_at D vwCl (o + 197, zenc c (zs0 o) 197) H := h.2 197 _ rfl
set_option maxRecDepth 100000 in
theorem zfr_198 {D : va_G} {c : zC} {o : Nat} {H : Heap} (h : zL D o (zB11 c o ++ zB12 c (o + 218)) H) : va_at D vwCl (o + 198, zenc c (zs0 o) 198) H := h.2 198 _ rfl
set_option maxRecDepth 100000 in
theorem zfr_199 {D : va_G} {c : zC} {o : Nat} {H : Heap} (h : zL D o (zB11 c o ++ zB12 c (o + 218)) H) : va_at D vwCl (o + 199, zenc c (zs0 o) 199) H := h.2 199 _ rfl
set_option maxRecDepth 100000 in
theorem zfr_200 {D : va_G} {c : zC} {o : Nat} {H : Heap} (h : zL D o (zB11 c o ++ zB12 c (o + 218)) H) : va_at D vwCl (o + 200, zenc c (zs0 o) 200) H := h.2 200 _ rfl
set_option maxRecDepth 100000 in
theorem zfr_201 {D : va_G} {c : zC} {o : Nat} {H : Heap} (h : zL D o (zB11 c o ++ zB12 c (o + 218)) H) : va_at D vwCl (o + 201, zenc c (zs0 o) 201) H := h.2 201 _ rfl
set_option maxRecDepth 100000 in
theorem zfr_202 {D : va_G} {c : zC} {o : Nat} {H : Heap} (h : zL D o (zB11 c o ++ zB12 c (o + 218)) H) : va_at D vwCl (o + 202, zenc c (zs0 o) 202) H := h.2 202 _ rfl
set_option maxRecDepth 100000 in
theorem zfr_203 {D : va_G} {c : zC} {o : Nat} {H : Heap} (h : zL D o (zB11 c o ++ zB12 c (o + 218)) H) : va_at D vwCl (o + 203, zenc c (zs0 o) 203) H := h.2 203 _ rfl
set_option maxRecDepth 100000 in
theorem zfr_204 {D : va_G} {c : zC} {o : Nat} {H : Heap} (h : zL D o (zB11 c o ++ zB12 c (o + 218)) H) : va_at D vwCl (o + 204, zenc c (zs0 o) 204) H := h.2 204 _ rfl
set_option maxRecDepth 100000 in
theorem zfr_205 {D : va_G} {c : zC} {o : Nat} {H : Heap} (h : zL D o (zB11 c o ++ zB12 c (o + 218)) H) : va_at D vwCl (o + 205, zenc c (zs0 o) 205) H := h.2 205 _ rfl
set_option maxRecDepth 100000 in
theorem zfr_206 {D : va_G} {c : zC} {o : Nat} {H : Heap} (h : zL D o (zB11 c o ++ zB12 c (o + 218)) H) : va_at D vwCl (o + 206, zenc c (zs0 o) 206) H := h.2 206 _ rfl
set_option maxRecDepth 100000 in
theorem zfr_207 {D : va_G} {c : zC} {o : Nat} {H : Heap} (h : zL D o (zB11 c o ++ zB12 c (o + 218)) H) : va_at D vwCl (o + 207, zenc c (zs0 o) 207) H := h.2 207 _ rfl
set_option maxRecDepth 100000 in
theorem zfr_208 {D : va_G} {c : zC} {o : Nat} {H : Heap} (h : zL D o (zB11 c o ++ zB12 c (o + 218)) H) : va_at D vwCl (o + 208, zenc c (zs0 o) 208) H := h.2 208 _ rfl
set_option maxRecDepth 100000 in
theorem zfr_209 {D : va_G} {c : zC} {o : Nat} {H : Heap} (h : zL D o (zB11 c o ++ zB12 c (o + 218)) H) : va_at D vwCl (o + 209, zenc c (zs0 o) 209) H := h.2 209 _ rfl
set_option maxRecDepth 100000 in
theorem zfr_210 {D : va_G} {c : zC} {o : Nat} {H : Heap} (h : zL D o (zB11 c o ++ zB12 c (o + 218)) H) : va_at D vwCl (o + 210, zenc c (zs0 o) 210) H := h.2 210 _ rfl
set_option maxRecDepth 100000 in
theorem zfr_211 {D : va_G} {c : zC} {o : Nat} {H : Heap} (h : zL D o (zB11 c o ++ zB12 c (o + 218)) H) : va_at D vwCl (o + 211, zenc c (zs0 o) 211) H := h.2 211 _ rfl
set_option maxRecDepth 100000 in
theorem zfr_212 {D : va_G} {c : zC} {o : Nat} {H : Heap} (h : zL D o (zB11 c o ++ zB12 c (o + 218)) H) : va_at D vwCl (o + 212, zenc c (zs0 o) 212) H := h.2 212 _ rfl
set_option maxRecDepth 100000 in
theorem zfr_213 {D : va_G} {c : zC} {o : Nat} {H : Heap} (h : zL D o (zB11 c o ++ zB12 c (o + 218)) H) : va_at D vwCl (o + 213, zenc c (zs0 o) 213) H := h.2 213 _ rfl
set_option maxRecDepth 100000 in
theorem zfr_214 {D : va_G} {c : zC} {o : Nat} {H : Heap} (h : zL D o (zB11 c o ++ zB12 c (o + 218)) H) : va_at D vwCl (o + 214, zenc c (zs0 o) 214) H := h.2 214 _ rfl
set_option maxRecDepth 100000 in
theorem zfr_215 {D : va_G} {c : zC} {o : Nat} {H : Heap} (h : zL D o (zB11 c o ++ zB12 c (o + 218)) H) : va_at D vwCl (o + 215, zenc c (zs0 o) 215) H := h.2 215 _ rfl
set_option maxRecDepth 100000 in
theorem zfr_216 {D : va_G} {c : zC} {o : Nat} {H : Heap} (h : zL D o (zB11 c o ++ zB12 c (o + 218)) H) : va_at D vwCl (o + 216, zenc c (zs0 o) 216) H := h.2 216 _ rfl
set_option maxRecDepth 100000 in
theorem zfr_217 {D : va_G} {c : zC} {o : Nat} {H : Heap} (h : zL D o (zB11 c o ++ zB12 c (o + 218)) H) : va_at D vwCl (o + 217, zenc c (zs0 o) 217) H := h.2 217 _ rfl
set_option maxRecDepth 100000 in
theorem zfr_218 {D : va_G} {c : zC} {o : Nat} {H : Heap} (h : zL D o (zB11 c o ++ zB12 c (o + 218)) H) : va_at D vwCl (o + 218, zenc c (zs0 o) 218) H := h.2 218 _ rfl
set_option maxRecDepth 100000 in
theorem zfr_219 {D : va_G} {c : zC} {o : Nat} {H : Heap} (h : zL D o (zB11 c o ++ zB12 c (o + 218)) H) : va_at D vwCl (o + 219, zenc c (zs0 o) 219) H := h.2 219 _ rfl
set_option maxRecDepth 100000 in
theorem zfr_220 {D : va_G} {c : zC} {o : Nat} {H : Heap} (h : zL D o (zB11 c o ++ zB12 c (o + 218)) H) : va_at D vwCl (o + 220, zenc c (zs0 o) 220) H := h.2 220 _ rfl
set_option maxRecDepth 100000 in
theorem zfr_221 {D : va_G} {c : zC} {o : Nat} {H : Heap} (h : zL D o (zB11 c o ++ zB12 c (o + 218)) H) : va_at D vwCl (o + 221, zenc c (zs0 o) 221) H := h.2 221 _ rfl
set_option maxRecDepth 100000 in
theorem zfr_222 {D : va_G} {c : zC} {o : Nat} {H : Heap} (h : zL D o (zB11 c o ++ zB12 c (o + 218)) H) : va_at D vwCl (o + 222, zenc c (zs0 o) 222) H := h.2 222 _ rfl
set_option maxRecDepth 100000 in
theorem zfr_223 {D : va_G} {c : zC} {o : Nat} {H : Heap} (h : zL D o (zB11 c o ++ zB12 c (o + 218)) H) : va_at D vwCl (o + 223, zenc c (zs0 o) 223) H := h.2 223 _ rfl
set_option maxRecDepth 100000 in
theorem zfr_224 {D : va_G} {c : zC} {o : Nat} {H : Heap} (h : zL D o (zB11 c o ++ zB12 c (o + 218)) H) : va_at D vwCl (o + 224, zenc c (zs0 o) 224) H := h.2 224 _ rfl
set_option maxRecDepth 100000 in
theorem zfr_225 {D : va_G} {c : zC} {o : Nat} {H : Heap} (h : zL D o (zB11 c o ++ zB12 c (o + 218)) H) : va_at D vwCl (o + 225, zenc c (zs0 o) 225) H := h.2 225 _ rfl
set_option maxRecDepth 100000 in
theorem zfr_226 {D : va_G} {c : zC} {o : Nat} {H : Heap} (h : zL D o (zB11 c o ++ zB12 c (o + 218)) H) : va_at D vwCl (o + 226, zenc c (zs0 o) 226) H := h.2 226 _ rfl
set_option maxRecDepth 100000 in
theorem zfr_227 {D : va_G} {c : zC} {o : Nat} {H : Heap} (h : zL D o (zB11 c o ++ zB12 c (o + 218)) H) : va_at D vwCl (o + 227, zenc c (zs0 o) 227) H := h.2 227 _ rfl
set_option maxRecDepth 100000 in
theorem zfr_228 {D : va_G} {c : zC} {o : Nat} {H : Heap} (h : zL D o (zB11 c o ++ zB12 c (o + 218)) H) : va_at D vwCl (o + 228, zenc c (zs0 o) 228) H := h.2 228 _ rfl
set_option maxRecDepth 100000 in
theorem zfr_229 {D : va_G} {c : zC} {o : Nat} {H : Heap} (h : zL D o (zB11 c o ++ zB12 c (o + 218)) H) : va_at D vwCl (o + 229, zenc c (zs0 o) 229) H := h.2 229 _ rfl
set_option maxRecDepth 100000 in
theorem zfr_230 {D : va_G} {c : zC} {o : Nat} {H : Heap} (h : zL D o (zB11 c o ++ zB12 c (o + 218)) H) : va_at D vwCl (o + 230, zenc c (zs0 o) 230) H := h.2 230 _ rfl
set_option maxRecDepth 100000 in
theorem zfr_231 {D : va_G} {c : zC} {o : Nat} {H : Heap} (h : zL D o (zB11 c o ++ zB12 c (o + 218)) H) : va_at D vwCl (o + 231, zenc c (zs0 o) 231) H := h.2 231 _ rfl
set_option maxRecDepth 100000 in
theorem zfr_232 {D : va_G} {c : zC} {o : Nat} {H : Heap} (h : zL D o (zB11 c o ++ zB12 c (o + 218)) H) : va_at D vwCl (o + 232, zenc c (zs0 o) 232) H := h.2 232 _ rfl
set_option maxRecDepth 100000 in
theorem zfr_233 {D : va_G} {c : zC} {o : Nat} {H : Heap} (h : zL D o (zB11 c o ++ zB12 c (o + 218)) H) : va_at D vwCl (o + 233, zenc c (zs0 o) 233) H := h.2 233 _ rfl
set_option maxRecDepth 100000 in
theorem zfr_234 {D : va_G} {c : zC} {o : Nat} {H : Heap} (h : zL D o (zB11 c o ++ zB12 c (o + 218)) H) : va_at D vwCl (o + 234, zenc c (zs0 o) 234) H := h.2 234 _ rfl
set_option maxRecDepth 100000 in
theorem zfr_235 {D : va_G} {c : zC} {o : Nat} {H : Heap} (h : zL D o (zB11 c o ++ zB12 c (o + 218)) H) : va_at D vwCl (o + 235, zenc c (zs0 o) 235) H := h.2 235 _ rfl
set_option maxRecDepth 100000 in
theorem zfr_236 {D : va_G} {c : zC} {o : Nat} {H : Heap} (h : zL D o (zB11 c o ++ zB12 c (o + 218)) H) : va_at D vwCl (o + 236, zenc c (zs0 o) 236) H := h.2 236 _ rfl
set_option maxRecDepth 100000 in
theorem zfr_237 {D : va_G} {c : zC} {o : Nat} {H : Heap} (h : zL D o (zB11 c o ++ zB12 c (o + 218)) H) : va_at D vwCl (o + 237, zenc c (zs0 o) 237) H := h.2 237 _ rfl
set_option maxRecDepth 100000 in
theorem zfr_238 {D : va_G} {c : zC} {o : Nat} {H : Heap} (h : zL D o (zB11 c o ++ zB12 c (o + 218)) H) : va_at D vwCl (o + 238, zenc c (zs0 o) 238) H := h.2 238 _ rfl
set_option maxRecDepth 100000 in
theorem zfr_239 {D : va_G} {c : zC} {o : Nat} {H : Heap} (h : zL D o (zB11 c o ++ zB12 c (o + 218)) H) : va_at D vwCl (o + 239, zenc c (zs0 o) 239) H := h.2 239 _ rfl
set_option maxRecDepth 100000 in
theorem zfr_240 {D : va_G} {c : zC} {o : Nat} {H : Heap} (h : zL D o (zB11 c o ++ zB12 c (o + 218)) H) : va_at D vwCl (o + 240, zenc c (zs0 o) 240) H := h.2 240 _ rfl
set_option maxRecDepth 100000 in
theorem zfr_241 {D : va_G} {c : zC} {o : Nat} {H : Heap} (h : zL D o (zB11 c o ++ zB12 c (o + 218)) H) : va_at D vwCl (o + 241, zenc c (zs0 o) 241) H := h.2 241 _ rfl
set_option maxRecDepth 100000 in
theorem zfr_242 {D : va_G} {c : zC} {o : Nat} {H : Heap} (h : zL D o (zB11 c o ++ zB12 c (o + 218)) H) : va_at D vwCl (o + 242, zenc c (zs0 o) 242) H := h.2 242 _ rfl

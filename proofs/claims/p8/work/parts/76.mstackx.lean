/-- what stands unclosed, the last first: true a bracket, false a word -/
def lst (g : Nat → Int32) : Nat → List Bool
  | 0 => []
  | n + 1 => if (g n).toInt < 50 then lst g n else (decide (g n = 100)) :: lst g n
def popP : List Bool → List Bool
  | [] => []
  | true :: L => true :: L
  | false :: L => popP L
theorem popP_le : ∀ L : List Bool, (popP L).length ≤ L.length
  | [] => Nat.le_refl _
  | true :: L => Nat.le_refl _
  | false :: L => Nat.le_succ_of_le (popP_le L)
theorem popP_n {L : List Bool} (h : popP (false :: L) = false :: L) : False := by
  have a := popP_le L
  have b := congrArg List.length h
  have c : (popP (false :: L)).length = (popP L).length := rfl
  rw [c, List.length_cons] at b
  omega
/-- no sign waits on an unclosed word -/
def NP (g : Nat → Int32) : Nat → Prop
  | 0 => True
  | n + 1 => NP g n ∧ ((g n).toInt < 50 → popP (lst g n) = lst g n)
theorem NP_le {g : Nat → Int32} : ∀ {n m : Nat}, NP g n → m ≤ n → NP g m
  | 0, m, h, hm => by rw [show m = 0 by omega]; exact h
  | n + 1, m, h, hm => by
    by_cases q : m = n + 1
    · rw [q]; exact h
    · exact NP_le h.1 (by omega)
theorem lst_c {g g' : Nat → Int32} : ∀ {n : Nat}, (∀ k, k < n → g' k = g k) → lst g' n = lst g n
  | 0, _ => rfl
  | n + 1, e => by
    show (if (g' n).toInt < 50 then lst g' n else _ :: lst g' n) = (if (g n).toInt < 50 then lst g n else _ :: lst g n)
    rw [e n (by omega), lst_c (fun k hk => e k (by omega))]
theorem NP_c {g g' : Nat → Int32} : ∀ {n : Nat}, (∀ k, k < n → g' k = g k) → NP g n → NP g' n
  | 0, _, _ => trivial
  | n + 1, e, h => ⟨NP_c (fun k hk => e k (by omega)) h.1, by rw [e n (by omega), lst_c (fun k hk => e k (by omega))]; exact h.2⟩
theorem lst_len {g : Nat → Int32} : ∀ {n b d r : Nat}, Stk g n b d r → (lst g n).length = d
  | 0, b, d, r, h => h.2.1.symm
  | n + 1, b, d, r, h => by
    show (if (g n).toInt < 50 then lst g n else _ :: lst g n).length = d
    rcases h with ⟨hw, _, d', r', e, h⟩ | ⟨hw, _, b', r', e, _, h⟩
    · rw [if_neg (by omega), List.length_cons, lst_len h, e]
    · rw [if_pos (by omega), lst_len h]
theorem lst_s {g : Nat → Int32} {n : Nat} (h : (g n).toInt < 50) : lst g (n + 1) = lst g n := if_pos h
theorem lst_o {g : Nat → Int32} {n : Nat} (h : ¬ (g n).toInt < 50) : lst g (n + 1) = (decide (g n = 100)) :: lst g n := if_neg h
theorem rk3 {w : Int32} (h : ¬ w.toInt < 50) (h2 : ¬ w = 100) : (rkI w).toInt = 3 := by
  unfold rkI
  rw [if_neg h2, if_neg (by rw [Int32.lt_iff_toInt_lt]; simp only [Int32.reduceToInt]; exact h)]
  rfl
/-- one is settled -/
theorem set1 {g : Nat → Int32} {n : Nat} {x : Int} {L0 : List Bool} (hx : 1 ≤ x) (hr : x ≤ (rkI (g n)).toInt) (h1 : popP (lst g (n + 1)) = popP L0) (h2 : popP L0 = L0 → lst g (n + 1) = L0) : popP (lst g n) = popP L0 ∧ (popP L0 = L0 → lst g n = L0) := by
  by_cases a : (g n).toInt < 50
  · rw [lst_s a] at h1 h2; exact ⟨h1, h2⟩
  · have b : ¬ g n = 100 := fun q => by
      rw [q] at hr
      have : (rkI 100).toInt = 0 := by decide
      omega
    rw [lst_o a, decide_eq_false b] at h1 h2
    refine ⟨h1, fun q => ?_⟩
    have e := h2 q
    rw [← e] at q
    exact (popP_n q).elim
/-- none is left to settle -/
theorem set0 {g : Nat → Int32} {a : Int32} {x : Int32} {L0 : List Bool} (hN : NP g a.toInt.toNat) (h0 : 0 ≤ a.toInt) (hx : x.toInt = 3 ∨ popP L0 = L0) (hr : a.toInt ≤ 0 ∨ (rkI (g (a - 1).toNatClampNeg)).toInt < x.toInt) (h1 : popP (lst g a.toInt.toNat) = popP L0) (h2 : popP L0 = L0 → lst g a.toInt.toNat = L0) : lst g a.toInt.toNat = popP L0 := by
  rcases hx with hx | hx
  · rw [← h1]
    by_cases z : a.toInt ≤ 0
    · rw [show a.toInt.toNat = 0 by omega]; rfl
    · have hr := hr.resolve_left z
      obtain ⟨m, hm⟩ : ∃ m, a.toInt.toNat = m + 1 := ⟨a.toInt.toNat - 1, by omega⟩
      have e : (a - 1).toNatClampNeg = m := by
        show (a - 1).toInt.toNat = m
        have := a.toInt_lt
        rw [ti_sub]; simp only [Int32.reduceToInt]; omega
      rw [e] at hr
      rw [hm] at hN ⊢
      by_cases b : (g m).toInt < 50
      · rw [lst_s b]; exact (hN.2 b).symm
      · rw [lst_o b]
        by_cases c : g m = 100
        · rw [decide_eq_true c]; rfl
        · have := rk3 b c
          omega
  · rw [hx]; exact h2 hx
theorem lst_t {g : Nat → Int32} : ∀ {n : Nat}, true ∈ lst g n ↔ ∃ k, k < n ∧ g k = 100
  | 0 => ⟨fun h => absurd h List.not_mem_nil, fun ⟨k, hk, _⟩ => absurd hk (by omega)⟩
  | n + 1 => by
    have ih := lst_t (g := g) (n := n)
    constructor
    · intro h
      by_cases a : (g n).toInt < 50
      · rw [lst_s a] at h
        obtain ⟨k, hk, e⟩ := ih.mp h
        exact ⟨k, by omega, e⟩
      · rw [lst_o a] at h
        rcases List.mem_cons.mp h with q | q
        · exact ⟨n, by omega, of_decide_eq_true q.symm⟩
        · obtain ⟨k, hk, e⟩ := ih.mp q
          exact ⟨k, by omega, e⟩
    · rintro ⟨k, hk, e⟩
      by_cases a : (g n).toInt < 50
      · rw [lst_s a]
        refine ih.mpr ⟨k, ?_, e⟩
        by_cases q : k = n
        · rw [q] at e; rw [e] at a; exact absurd a (by decide)
        · omega
      · rw [lst_o a]
        by_cases q : k = n
        · rw [q] at e; rw [decide_eq_true e]; exact List.mem_cons_self
        · exact List.mem_cons_of_mem _ (ih.mpr ⟨k, by omega, e⟩)

set_option maxHeartbeats 4000000 in
set_option maxRecDepth 100000 in
theorem s_X12_settlesTo_r {N : Nat} (hN : 1048576 ≤ N) {x1 : Int32} {σ0 : zS}  (hR : RF σ0.2.2) (hK : TOK σ0.1) (hY : BYT (σ0.1 224)) (hB : ZB σ0.1) (ha : 0 ≤ (σ0.1 218 20).toInt ∧ (σ0.1 218 20).toInt ≤ 1024) (hP : PIL σ0.1 1) (h1 : 1 ≤ x1.toInt) (hNP : NP (σ0.1 230) (σ0.1 218 22).toInt.toNat) (hx3 : x1.toInt = 3 ∨ popP (lst (σ0.1 230) (σ0.1 218 22).toInt.toNat) = (lst (σ0.1 230) (σ0.1 218 22).toInt.toNat)) : Ok (f_X12_settlesTo N 218 x1 σ0) (fun r => Tr [218, 226, 227, 228, 229] σ0 r.2 ∧ ((TOK r.2.1 ∧ ZB r.2.1 ∧ PIL r.2.1 1 ∧ ((r.2.1 218 22).toInt.toNat ≤ (σ0.1 218 22).toInt.toNat ∧ lst (σ0.1 230) (r.2.1 218 22).toInt.toNat = popP (lst (σ0.1 230) (σ0.1 218 22).toInt.toNat)) ∧ ((r.2.1 218 22).toInt ≤ 0 ∨ (rkI (σ0.1 230 ((r.2.1 218 22) - 1).toNatClampNeg)).toInt < x1.toInt)) ∧ (r.2.1 218 7 = σ0.1 218 7 ∧ r.2.1 218 9 = σ0.1 218 9 ∧ r.2.1 218 10 = σ0.1 218 10 ∧ r.2.1 218 11 = σ0.1 218 11 ∧ r.2.1 218 12 = σ0.1 218 12 ∧ r.2.1 218 13 = σ0.1 218 13 ∧ r.2.1 218 14 = σ0.1 218 14 ∧ r.2.1 218 15 = σ0.1 218 15 ∧ r.2.1 218 20 = σ0.1 218 20 ∧ r.2.1 218 25 = σ0.1 218 25))) := by
  have hT : Tr [218, 226, 227, 228, 229] σ0 σ0 := Tr.rf
  have hK1 := hK.1
  have hb0 := PIL_b hP (by decide)
  rw [f_X12_settlesTo.eq_1]
  refine ok_lp (fun t : zS => Tr [218, 226, 227, 228, 229] σ0 (t) ∧ ((PIL (t).1 1 ∧ ((t).1 218 22).toInt.toNat ≤ (σ0.1 218 22).toInt.toNat) ∧ popP (lst (σ0.1 230) ((t).1 218 22).toInt.toNat) = popP (lst (σ0.1 230) (σ0.1 218 22).toInt.toNat) ∧ (popP (lst (σ0.1 230) (σ0.1 218 22).toInt.toNat) = (lst (σ0.1 230) (σ0.1 218 22).toInt.toNat) → lst (σ0.1 230) ((t).1 218 22).toInt.toNat = (lst (σ0.1 230) (σ0.1 218 22).toInt.toNat))) ∧ (TOK (t).1) ∧ (ZB (t).1) ∧ ((t).1 218 7 = (σ0.1 218 7)) ∧ ((t).1 218 9 = (σ0.1 218 9)) ∧ ((t).1 218 10 = (σ0.1 218 10)) ∧ ((t).1 218 11 = (σ0.1 218 11)) ∧ ((t).1 218 12 = (σ0.1 218 12)) ∧ ((t).1 218 13 = (σ0.1 218 13)) ∧ ((t).1 218 14 = (σ0.1 218 14)) ∧ ((t).1 218 15 = (σ0.1 218 15)) ∧ ((t).1 218 20 = (σ0.1 218 20)) ∧ ((t).1 218 25 = (σ0.1 218 25))) (fun t : zS => ((t).1 218 22).toInt.toNat) (fun again1 t hI ih0_1 => ?_) N _ (show Tr [218, 226, 227, 228, 229] σ0 σ0 ∧ ((PIL σ0.1 1 ∧ (σ0.1 218 22).toInt.toNat ≤ (σ0.1 218 22).toInt.toNat) ∧ popP (lst (σ0.1 230) (σ0.1 218 22).toInt.toNat) = popP (lst (σ0.1 230) (σ0.1 218 22).toInt.toNat) ∧ (popP (lst (σ0.1 230) (σ0.1 218 22).toInt.toNat) = (lst (σ0.1 230) (σ0.1 218 22).toInt.toNat) → lst (σ0.1 230) (σ0.1 218 22).toInt.toNat = (lst (σ0.1 230) (σ0.1 218 22).toInt.toNat))) ∧ (TOK σ0.1) ∧ (ZB σ0.1) ∧ (σ0.1 218 7 = (σ0.1 218 7)) ∧ (σ0.1 218 9 = (σ0.1 218 9)) ∧ (σ0.1 218 10 = (σ0.1 218 10)) ∧ (σ0.1 218 11 = (σ0.1 218 11)) ∧ (σ0.1 218 12 = (σ0.1 218 12)) ∧ (σ0.1 218 13 = (σ0.1 218 13)) ∧ (σ0.1 218 14 = (σ0.1 218 14)) ∧ (σ0.1 218 15 = (σ0.1 218 15)) ∧ (σ0.1 218 20 = (σ0.1 218 20)) ∧ (σ0.1 218 25 = (σ0.1 218 25)) from ⟨hT, (by exact ⟨⟨hP, Nat.le_refl _⟩, rfl, fun _ => rfl⟩), hK, hB, rfl, rfl, rfl, rfl, rfl, rfl, rfl, rfl, rfl, rfl⟩) (show (σ0.1 218 22).toInt.toNat < N from (by omega))
  obtain ⟨σ1, rfl⟩ : ∃ x, x = t := ⟨t, rfl⟩
  have hI : Tr [218, 226, 227, 228, 229] σ0 σ1 ∧ ((PIL σ1.1 1 ∧ (σ1.1 218 22).toInt.toNat ≤ (σ0.1 218 22).toInt.toNat) ∧ popP (lst (σ0.1 230) (σ1.1 218 22).toInt.toNat) = popP (lst (σ0.1 230) (σ0.1 218 22).toInt.toNat) ∧ (popP (lst (σ0.1 230) (σ0.1 218 22).toInt.toNat) = (lst (σ0.1 230) (σ0.1 218 22).toInt.toNat) → lst (σ0.1 230) (σ1.1 218 22).toInt.toNat = (lst (σ0.1 230) (σ0.1 218 22).toInt.toNat))) ∧ (TOK σ1.1) ∧ (ZB σ1.1) ∧ (σ1.1 218 7 = (σ0.1 218 7)) ∧ (σ1.1 218 9 = (σ0.1 218 9)) ∧ (σ1.1 218 10 = (σ0.1 218 10)) ∧ (σ1.1 218 11 = (σ0.1 218 11)) ∧ (σ1.1 218 12 = (σ0.1 218 12)) ∧ (σ1.1 218 13 = (σ0.1 218 13)) ∧ (σ1.1 218 14 = (σ0.1 218 14)) ∧ (σ1.1 218 15 = (σ0.1 218 15)) ∧ (σ1.1 218 20 = (σ0.1 218 20)) ∧ (σ1.1 218 25 = (σ0.1 218 25)) := hI
  obtain ⟨hT, hI1, hK, hB, g7_σ1, g9_σ1, g10_σ1, g11_σ1, g12_σ1, g13_σ1, g14_σ1, g15_σ1, g20_σ1, g25_σ1⟩ := hI
  rw [F_X12_settlesTo_0.eq_1]
  have hP := hI1.1.1
  have hle := hI1.1.2
  have p0 := hI1.2.1
  have p1 := hI1.2.2
  have hb9 := PIL_b hI1.1.1 (by decide)
  refine ok_gI rfl ?_
  refine ok_if (fun hc3 => ?_) (fun hc3 => ?_)
  · have w9 := hc3
    rw [Int32.le_iff_toInt_le] at w9
    simp only [Int32.reduceToInt] at w9
    exact ok_some ⟨hT, (show (TOK σ1.1 ∧ ZB σ1.1 ∧ PIL σ1.1 1 ∧ ((σ1.1 218 22).toInt.toNat ≤ (σ0.1 218 22).toInt.toNat ∧ lst (σ0.1 230) (σ1.1 218 22).toInt.toNat = popP (lst (σ0.1 230) (σ0.1 218 22).toInt.toNat)) ∧ ((σ1.1 218 22).toInt ≤ 0 ∨ (rkI (σ0.1 230 ((σ1.1 218 22) - 1).toNatClampNeg)).toInt < x1.toInt)) ∧ (σ1.1 218 7 = σ0.1 218 7 ∧ σ1.1 218 9 = σ0.1 218 9 ∧ σ1.1 218 10 = σ0.1 218 10 ∧ σ1.1 218 11 = σ0.1 218 11 ∧ σ1.1 218 12 = σ0.1 218 12 ∧ σ1.1 218 13 = σ0.1 218 13 ∧ σ1.1 218 14 = σ0.1 218 14 ∧ σ1.1 218 15 = σ0.1 218 15 ∧ σ1.1 218 20 = σ0.1 218 20 ∧ σ1.1 218 25 = σ0.1 218 25) from ⟨by first | exact ⟨hK, hB, hP, ⟨hle, set0 (NP_le hNP hle) (by omega) hx3 (Or.inl w9) p0 p1⟩, Or.inl w9⟩ | exact ⟨hK, hB, hP, ⟨hle, set0 (NP_le hNP hle) (by omega) hx3 (Or.inr x9) p0 p1⟩, Or.inr x9⟩, g7_σ1, g9_σ1, g10_σ1, g11_σ1, g12_σ1, g13_σ1, g14_σ1, g15_σ1, g20_σ1, g25_σ1⟩)⟩
  · have w9 := hc3
    rw [Int32.le_iff_toInt_le] at w9
    simp only [Int32.reduceToInt] at w9
    have s22 : ((σ1.1 218 22) - 1).toInt = (σ1.1 218 22).toInt - 1 := by rw [ti_sub]; simp only [Int32.reduceToInt]; omega
    obtain ⟨m9, hm9⟩ : ∃ m : Nat, (σ1.1 218 22).toInt.toNat = m + 1 := ⟨(σ1.1 218 22).toInt.toNat - 1, by omega⟩
    have i22 : ((σ1.1 218 22) - 1).toNatClampNeg = m9 := by show ((σ1.1 218 22) - 1).toInt.toNat = m9; rw [s22]; omega
    refine ok_gR (v := 230) hT rfl (hR 218 21 rfl) ?_
    refine ok_gI rfl ?_
    refine ok_aIn rfl (by rw [s22]; omega) (by rw [s22]; omega) (fun v6 ev6 => ?_)
    have ev17 := ev6
    rw [hT.2 230 (by decide)] at ev17
    refine ok_zbX (Q := fun V => V = rkI v6) (x_X12_rank) (fun v7 hqv7 => ?_)
    have hqv7 : v7 = rkI v6 := hqv7
    try simp only [g7_σ1, g9_σ1, g10_σ1, g11_σ1, g12_σ1, g13_σ1, g14_σ1, g15_σ1, g20_σ1, g25_σ1, hT.2 224 (by decide)] at hqv7
    refine ok_if (fun hc9 => ?_) (fun hc9 => ?_)
    · have x9 := hc9
      rw [hqv7, ev17, Int32.lt_iff_toInt_lt] at x9
      exact ok_some ⟨hT, (show (TOK σ1.1 ∧ ZB σ1.1 ∧ PIL σ1.1 1 ∧ ((σ1.1 218 22).toInt.toNat ≤ (σ0.1 218 22).toInt.toNat ∧ lst (σ0.1 230) (σ1.1 218 22).toInt.toNat = popP (lst (σ0.1 230) (σ0.1 218 22).toInt.toNat)) ∧ ((σ1.1 218 22).toInt ≤ 0 ∨ (rkI (σ0.1 230 ((σ1.1 218 22) - 1).toNatClampNeg)).toInt < x1.toInt)) ∧ (σ1.1 218 7 = σ0.1 218 7 ∧ σ1.1 218 9 = σ0.1 218 9 ∧ σ1.1 218 10 = σ0.1 218 10 ∧ σ1.1 218 11 = σ0.1 218 11 ∧ σ1.1 218 12 = σ0.1 218 12 ∧ σ1.1 218 13 = σ0.1 218 13 ∧ σ1.1 218 14 = σ0.1 218 14 ∧ σ1.1 218 15 = σ0.1 218 15 ∧ σ1.1 218 20 = σ0.1 218 20 ∧ σ1.1 218 25 = σ0.1 218 25) from ⟨by first | exact ⟨hK, hB, hP, ⟨hle, set0 (NP_le hNP hle) (by omega) hx3 (Or.inl w9) p0 p1⟩, Or.inl w9⟩ | exact ⟨hK, hB, hP, ⟨hle, set0 (NP_le hNP hle) (by omega) hx3 (Or.inr x9) p0 p1⟩, Or.inr x9⟩, g7_σ1, g9_σ1, g10_σ1, g11_σ1, g12_σ1, g13_σ1, g14_σ1, g15_σ1, g20_σ1, g25_σ1⟩)⟩
    · have x9 := hc9
      rw [hqv7, ev17, Int32.lt_iff_toInt_lt] at x9
      have x9 := Int.not_lt.mp x9
      rw [i22] at x9
      refine ok_gC rfl ?_
      refine ok_zbT (Q := fun V σ => (TOK σ.1 ∧ ZB σ.1 ∧ PIL σ.1 1 ∧ (σ.1 218 22).toInt = (σ1.1 218 22).toInt - 1) ∧ (σ.1 218 7 = σ1.1 218 7 ∧ σ.1 218 9 = σ1.1 218 9 ∧ σ.1 218 10 = σ1.1 218 10 ∧ σ.1 218 11 = σ1.1 218 11 ∧ σ.1 218 12 = σ1.1 218 12 ∧ σ.1 218 13 = σ1.1 218 13 ∧ σ.1 218 14 = σ1.1 218 14 ∧ σ.1 218 15 = σ1.1 218 15 ∧ σ.1 218 20 = σ1.1 218 20 ∧ σ.1 218 25 = σ1.1 218 25)) hT (s_X12_settles hN (hR.tr hT) (hK) (by rw [hT.2 224 (by decide)]; exact hY) (hB) (by (try simp only [g7_σ1, g9_σ1, g10_σ1, g11_σ1, g12_σ1, g13_σ1, g14_σ1, g15_σ1, g20_σ1, g25_σ1]); exact ha) (hP) (by omega)) (by decide) (fun v10 σ11 hOσ11 hT hqv10 => ?_)
      have hqv10 : (TOK σ11.1 ∧ ZB σ11.1 ∧ PIL σ11.1 1 ∧ (σ11.1 218 22).toInt = (σ1.1 218 22).toInt - 1) ∧ (σ11.1 218 7 = σ1.1 218 7 ∧ σ11.1 218 9 = σ1.1 218 9 ∧ σ11.1 218 10 = σ1.1 218 10 ∧ σ11.1 218 11 = σ1.1 218 11 ∧ σ11.1 218 12 = σ1.1 218 12 ∧ σ11.1 218 13 = σ1.1 218 13 ∧ σ11.1 218 14 = σ1.1 218 14 ∧ σ11.1 218 15 = σ1.1 218 15 ∧ σ11.1 218 20 = σ1.1 218 20 ∧ σ11.1 218 25 = σ1.1 218 25) := hqv10
      have hkv10 := hqv10
      have hqv10 := hqv10.1
      have hK : TOK σ11.1 := by first | exact hqv10.1 | exact TOK_p eσ11 (by decide) hK
      have hB : ZB σ11.1 := hqv10.2.1
      try simp only [g7_σ1, g9_σ1, g10_σ1, g11_σ1, g12_σ1, g13_σ1, g14_σ1, g15_σ1, g20_σ1, g25_σ1] at hqv10
      have g7_σ11 : σ11.1 218 7 = (σ0.1 218 7) := (hkv10.2.1).trans g7_σ1
      have g9_σ11 : σ11.1 218 9 = (σ0.1 218 9) := (hkv10.2.2.1).trans g9_σ1
      have g10_σ11 : σ11.1 218 10 = (σ0.1 218 10) := (hkv10.2.2.2.1).trans g10_σ1
      have g11_σ11 : σ11.1 218 11 = (σ0.1 218 11) := (hkv10.2.2.2.2.1).trans g11_σ1
      have g12_σ11 : σ11.1 218 12 = (σ0.1 218 12) := (hkv10.2.2.2.2.2.1).trans g12_σ1
      have g13_σ11 : σ11.1 218 13 = (σ0.1 218 13) := (hkv10.2.2.2.2.2.2.1).trans g13_σ1
      have g14_σ11 : σ11.1 218 14 = (σ0.1 218 14) := (hkv10.2.2.2.2.2.2.2.1).trans g14_σ1
      have g15_σ11 : σ11.1 218 15 = (σ0.1 218 15) := (hkv10.2.2.2.2.2.2.2.2.1).trans g15_σ1
      have g20_σ11 : σ11.1 218 20 = (σ0.1 218 20) := (hkv10.2.2.2.2.2.2.2.2.2.1).trans g20_σ1
      have g25_σ11 : σ11.1 218 25 = (σ0.1 218 25) := (hkv10.2.2.2.2.2.2.2.2.2.2).trans g25_σ1
      have hP := hqv10.2.2.1
      have w26 := hqv10.2.2.2
      have n26 : (σ11.1 218 22).toInt.toNat = m9 := by omega
      have hle : (σ11.1 218 22).toInt.toNat ≤ (σ0.1 218 22).toInt.toNat := by omega
      have s26 := set1 h1 x9 (hm9 ▸ p0) (fun q => hm9 ▸ p1 q)
      exact ih0_1 σ11 (show Tr [218, 226, 227, 228, 229] σ0 σ11 ∧ ((PIL σ11.1 1 ∧ (σ11.1 218 22).toInt.toNat ≤ (σ0.1 218 22).toInt.toNat) ∧ popP (lst (σ0.1 230) (σ11.1 218 22).toInt.toNat) = popP (lst (σ0.1 230) (σ0.1 218 22).toInt.toNat) ∧ (popP (lst (σ0.1 230) (σ0.1 218 22).toInt.toNat) = (lst (σ0.1 230) (σ0.1 218 22).toInt.toNat) → lst (σ0.1 230) (σ11.1 218 22).toInt.toNat = (lst (σ0.1 230) (σ0.1 218 22).toInt.toNat))) ∧ (TOK σ11.1) ∧ (ZB σ11.1) ∧ (σ11.1 218 7 = (σ0.1 218 7)) ∧ (σ11.1 218 9 = (σ0.1 218 9)) ∧ (σ11.1 218 10 = (σ0.1 218 10)) ∧ (σ11.1 218 11 = (σ0.1 218 11)) ∧ (σ11.1 218 12 = (σ0.1 218 12)) ∧ (σ11.1 218 13 = (σ0.1 218 13)) ∧ (σ11.1 218 14 = (σ0.1 218 14)) ∧ (σ11.1 218 15 = (σ0.1 218 15)) ∧ (σ11.1 218 20 = (σ0.1 218 20)) ∧ (σ11.1 218 25 = (σ0.1 218 25)) from ⟨hT, (by exact ⟨⟨hP, hle⟩, by rw [n26]; exact s26⟩), hK, hB, g7_σ11, g9_σ11, g10_σ11, g11_σ11, g12_σ11, g13_σ11, g14_σ11, g15_σ11, g20_σ11, g25_σ11⟩) (show (σ11.1 218 22).toInt.toNat < (σ1.1 218 22).toInt.toNat from (by omega))

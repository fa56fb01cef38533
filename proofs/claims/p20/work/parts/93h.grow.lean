/-! ===== the class's growing of nodes ===== -/
section GROW
variable {N n u r B x0 : Nat} {Gr : Nat → Nat → Bool} {m pl lo hi : Nat → Nat} {D : Nat → Nat → Bool} {σ τ : zS}
theorem nd_m {m' : Nat → Nat} (hm : ∀ k, k < n → m' k = m k) (H : ND Gr n u m pl lo hi D) : ND Gr n u m' pl lo hi D := by
  obtain ⟨h1, h2, h3, h4, h5⟩ := H
  refine ⟨h1, h2, fun i a b => ?_, fun k e hk he q => h4 k e hk (by rw [← hm k hk]; exact he) q, ?_⟩
  · obtain ⟨c1, c2, c3, e3, c4, c5⟩ := h3 i a b
    exact ⟨c1, c2, c3, e3, by rw [hm _ c1.1]; exact c4, c5⟩
  · rw [h5]
    congr 1
    refine sF_c (fun k hk => ?_)
    show cF Gr n k (m k) = cF Gr n k (m' k)
    rw [hm k hk]
theorem nd_nf {k e : Nat} (H : ND Gr n u m pl lo hi D) (he : e = m k) {i : Nat} (i2 : 2 ≤ i) (iu : i < u) (ip : pl i = k) (ie : ∀ t, D i t = BB Gr n k e t) : ¬ FO Gr n k e := fun f => by
  obtain ⟨_, _, _, e2, a, b, c⟩ := H.2.2.1 i i2 iu
  rw [ip] at a b c
  exact f.2 e2 (by omega) b (fun t => (c t).symm.trans (ie t))
/-- the store holds the nodes of the first m k blocks of every place k -/
def ST (Gr : Nat → Nat → Bool) (n u : Nat) (m pl lo hi : Nat → Nat) (D : Nat → Nat → Bool) (σ : zS) : Prop := (NS σ u pl lo hi ∧ ND Gr n u m pl lo hi D) ∧ ∀ k, k < n → σ.1 119 k = nI (cF Gr n k (m k))
theorem ST_c (h : ∀ a ∈ NLS, τ.1 a = σ.1 a) (hS : ST Gr n u m pl lo hi D σ) : ST Gr n u m pl lo hi D τ := ⟨⟨NS_c (fun a ha => h a ((by decide : ∀ a ∈ [111, 112, 113, 114, 115, 116], a ∈ NLS) a ha)) hS.1.1, hS.1.2⟩, fun k hk => by rw [h 119 (by decide)]; exact hS.2 k hk⟩
theorem ST_m {m' : Nat → Nat} (hm : ∀ k, k < n → m' k = m k) (hS : ST Gr n u m pl lo hi D σ) : ST Gr n u m' pl lo hi D σ := ⟨⟨hS.1.1, nd_m hm hS.1.2⟩, fun k hk => by rw [hm k hk]; exact hS.2 k hk⟩
/-- how many blocks are done: of register r all from place k on -/
def mK (r k : Nat) : Nat → Nat := fun j => if j < k then r * 2 ^ j else (r + 1) * 2 ^ j
/-- and c of place k -/
def mC (r k c : Nat) : Nat → Nat := fun j => if j < k then r * 2 ^ j else if j = k then r * 2 ^ k + c else (r + 1) * 2 ^ j
theorem mC_0 {r k : Nat} : mC r k 0 = mK r (k + 1) := funext (fun j => by
  unfold mC mK
  by_cases a : j < k
  · rw [if_pos a, if_pos (by omega)]
  · by_cases b : j = k
    · subst b
      rw [if_neg a, if_pos rfl, if_pos (by omega)]; rfl
    · rw [if_neg a, if_neg b, if_neg (by omega)])
theorem mC_e {r k : Nat} : mC r k (2 ^ k) = mK r k := funext (fun j => by
  unfold mC mK
  by_cases a : j < k
  · rw [if_pos a, if_pos a]
  · by_cases b : j = k
    · subst b
      rw [if_neg a, if_pos rfl, if_neg a, Nat.add_mul, Nat.one_mul]
    · rw [if_neg a, if_neg b, if_neg a])
theorem mC_k {r k c : Nat} : mC r k c k = r * 2 ^ k + c := by
  unfold mC
  rw [if_neg (by omega), if_pos rfl]
theorem mC_o {r k c j : Nat} (h : j ≠ k) : mC r k (c + 1) j = mC r k c j := by
  unfold mC
  rw [if_neg h, if_neg h]
theorem mC_b {r k c j : Nat} (hr : r < 10) (hc : c ≤ 2 ^ k) : mC r k c j ≤ 10 * 2 ^ j := by
  have a : r * 2 ^ j ≤ 9 * 2 ^ j := Nat.mul_le_mul_right _ (by omega)
  have b : (r + 1) * 2 ^ j ≤ 10 * 2 ^ j := Nat.mul_le_mul_right _ (by omega)
  unfold mC
  by_cases q : j < k
  · rw [if_pos q]; omega
  · by_cases z : j = k
    · subst z
      rw [if_neg q, if_pos rfl]; omega
    · rw [if_neg q, if_neg z]; exact b
/-- the part at j is the node of block e of place k -/
def PE (Gr : Nat → Nat → Bool) (n u : Nat) (D : Nat → Nat → Bool) (σ : zS) (k e j : Nat) : Prop := ∃ i, i < u ∧ σ.1 118 j = nI i ∧ ∀ t, D i t = BB Gr n k e t
theorem PE_c {k e j u' : Nat} {D' : Nat → Nat → Bool} (hu : u ≤ u') (hD : ∀ i, i < u → D' i = D i) (h : τ.1 118 j = σ.1 118 j) (hP : PE Gr n u D σ k e j) : PE Gr n u' D' τ k e j := by
  obtain ⟨i, a, b, c⟩ := hP
  exact ⟨i, by omega, h.trans b, fun t => by rw [hD i a]; exact c t⟩
theorem zm10 : ∀ a, a < 11 → zmin 10 (nI a) = nI a := by decide
/-- a level of it -/
theorem v_g72 {k : Nat} {P : Unit × zS → Prop} {again64 : Int32 × zS → Option (Unit × zS)} (hR : RF σ.2.2) (n10 : n ≤ 10) (hr : r < 10) (hk : k < n)
    (ih : ∀ τ : zS, τ.2 = σ.2 → (∀ a, a ∉ NLS → a ≠ 118 → τ.1 a = σ.1 a) → (∃ u pl lo hi D, ST Gr n u (mK r k) pl lo hi D τ ∧ ∀ e, e < 2 ^ k → PE Gr n u D τ k (r * 2 ^ k + e) e) → Pt (again64 (nI k + (-1), τ)) P)
    (h0 : ∃ u pl lo hi D, ST Gr n u (mK r (k + 1)) pl lo hi D σ ∧ ∀ e, e < 2 ^ (k + 1) → PE Gr n u D σ (k + 1) (r * 2 ^ (k + 1) + e) e) : Pt (zlp (F_X1_grow_72 N 111 (nI k) again64) N (0, σ)) P := by
  obtain ⟨u, pl, lo, hi, D, hS, hP⟩ := h0
  have p2 := p2le (show k ≤ 10 by omega)
  refine pt_lp (fun x : Int32 × zS => x.2.2 = σ.2 ∧ (∀ a, a ∉ NLS → a ≠ 118 → x.2.1 a = σ.1 a) ∧ ∃ c, (x.1 = nI c ∧ c ≤ 2 ^ k) ∧ ∃ u pl lo hi D, ST Gr n u (mC r k c) pl lo hi D x.2 ∧ (∀ e, e < c → PE Gr n u D x.2 k (r * 2 ^ k + e) e) ∧ ∀ e, 2 * c ≤ e → e < 2 ^ (k + 1) → PE Gr n u D x.2 (k + 1) (r * 2 ^ (k + 1) + e) e) (fun again x hJ ih2 => ?_) N _ ⟨rfl, fun _ _ _ => rfl, 0, ⟨rfl, Nat.zero_le _⟩, u, pl, lo, hi, D, by rw [mC_0]; exact hS, fun e he => absurd he (Nat.not_lt_zero _), fun e _ he => hP e he⟩
  clear hS hP u pl lo hi D
  obtain ⟨y, τ⟩ := x
  obtain ⟨e, o, c, ⟨ec, hc⟩, u, pl, lo, hi, D, hS, hP1, hP2⟩ := hJ
  have e : τ.2 = σ.2 := e
  have o : ∀ a, a ∉ NLS → a ≠ 118 → τ.1 a = σ.1 a := o
  have ec : y = nI c := ec
  subst ec
  have hS : ST Gr n u (mC r k c) pl lo hi D τ := hS
  have hP1 : ∀ e, e < c → PE Gr n u D τ k (r * 2 ^ k + e) e := hP1
  have hP2 : ∀ e, 2 * c ≤ e → e < 2 ^ (k + 1) → PE Gr n u D τ (k + 1) (r * 2 ^ (k + 1) + e) e := hP2
  have Rt : RF τ.2.2 := by rw [e]; exact hR
  have hu := nd_u hS.1.2 n10 (fun j _ => mC_b hr hc)
  have hu2 := hS.1.2.1.1
  rw [F_X1_grow_72.eq_1, one10 k (by omega)]
  refine pt_if (fun q => ?_) (fun q => ?_)
  · rw [nlt (by omega) (by omega)] at q
    have cc : c = 2 ^ k := by omega
    subst cc
    exact ih τ e o ⟨u, pl, lo, hi, D, by rw [← mC_e]; exact hS, hP1⟩
  · rw [nlt (by omega) (by omega)] at q
    have cx : c < 2 ^ k := by omega
    have xx := x2_lt cx
    obtain ⟨a, b, d⟩ := pw2 hk
    obtain ⟨l, hl, el, dl⟩ := hP2 (2 * c) (Nat.le_refl _) xx.1
    obtain ⟨h, hh, eh, dh⟩ := hP2 (2 * c + 1) (by omega) xx.2
    have hdl : ∀ t, D l t = if t < 2 ^ (n - k - 1) then BB Gr n k (r * 2 ^ k + c) t else false := fun t => by
      rw [dl]
      by_cases z : t < 2 ^ (n - k - 1)
      · rw [if_pos z, bb_lo hk cx z]
      · rw [if_neg z]; exact bb_0 (by rw [d]; omega)
    have hdh : ∀ t, D h t = BB Gr n k (r * 2 ^ k + c) (2 ^ (n - k - 1) + t) := fun t => by rw [dh, bb_hi hk cx]
    have i2c : (2 : Int32) * nI c = nI (2 * c) := by rw [show (2 : Int32) = nI 2 from rfl, nI_mul]
    -- behind a write of part c
    have fin : ∀ (φ : zS) (u' : Nat) (pl' lo' hi' : Nat → Nat) (D' : Nat → Nat → Bool) (i : Nat), φ.2 = τ.2 → (∀ a, a ∉ NLS → φ.1 a = τ.1 a) → u ≤ u' → (∀ i, i < u → D' i = D i) → ST Gr n u' (mC r k (c + 1)) pl' lo' hi' D' φ → i < u' → (∀ t, D' i t = BB Gr n k (r * 2 ^ k + c) t) → Pt (zl (sI 14 118 (nI c) (nI i) φ) fun σ11 => again (nI c + 1, σ11)) P := fun φ u' pl' lo' hi' D' i f1 f2 f3 f4 f5 f6 f7 => by
      refine pt_s14x (fun ψ a1 b1 c1 => ?_)
      rw [iN (m := c) (by omega)] at a1
      rw [nI_m1]
      have f118 : φ.1 118 = τ.1 118 := f2 118 (by decide)
      refine ih2 (nI (c + 1), ψ) ⟨(c1.trans f1).trans e, fun a' h1 h2 => by
        show ψ.1 a' = _
        rw [b1 a' h2, f2 a' h1, o a' h1 h2], c + 1, ⟨rfl, by omega⟩, u', pl', lo', hi', D', ST_c (fun a' ha => b1 a' (fun z => by rw [z] at ha; exact absurd ha (by decide))) f5, fun e2 he2 => ?_, fun e2 h1 h2 => ?_⟩
      · by_cases z : e2 = c
        · subst z
          exact ⟨i, f6, by show ψ.1 118 e2 = _; rw [a1, upd_s], f7⟩
        · exact PE_c f3 f4 (by show ψ.1 118 e2 = _; rw [a1, upd_n z, f118]) (hP1 e2 (by omega))
      · exact PE_c f3 f4 (by show ψ.1 118 e2 = _; rw [a1, upd_n (by omega), f118]) (hP2 e2 (by omega) h2)
    have m0 : mC r k (c + 1) k = r * 2 ^ k + c + 1 := by rw [mC_k]; rfl
    have mk : r * 2 ^ k + c = mC r k c k := mC_k.symm
    refine pt_gR (v := 118) (Rt 111 6 rfl) (pt_aI ?_)
    rw [i2c, nI_m1 (m := 2 * c), iNb (m := 2 * c + 1) (by omega), eh]
    refine pt_gR (v := 118) (Rt 111 6 rfl) (pt_if (fun z => ?_) (fun z => ?_))
    · rw [nI_z (by omega)] at z
      refine pt_gR (v := 118) (Rt 111 6 rfl) (pt_aI ?_)
      rw [iNb (m := 2 * c) (by omega), el]
      have nq : ¬ QQ Gr n k (r * 2 ^ k + c) := fun y => (nd_up hdh hS.1.2 hh).mp y z
      have nf : ¬ FO Gr n k (r * 2 ^ k + c) := fun f => nq f.1
      refine fin τ u pl lo hi D l rfl (fun _ _ => rfl) (Nat.le_refl _) (fun _ _ => rfl) ⟨⟨hS.1.1, nd_st hS.1.2 hk mk m0 (fun j hj => mC_o hj) nf (fun y => absurd y nq)⟩, fun j hj => ?_⟩ hl (fun t => ?_)
      · by_cases y : j = k
        · subst y
          rw [m0, cF_f nf, mk]; exact hS.2 j hj
        · rw [mC_o y]; exact hS.2 j hj
      · rw [hdl]
        by_cases y : t < 2 ^ (n - k - 1)
        · rw [if_pos y]
        · rw [if_neg y]
          cases w : BB Gr n k (r * 2 ^ k + c) t with
          | false => rfl
          | true => exact absurd ⟨t, by omega, w⟩ nq
    · rw [nI_z (by omega)] at z
      refine pt_gR (v := 118) (Rt 111 6 rfl) (pt_aI (pt_gC ?_))
      rw [iNb (m := 2 * c) (by omega), el]
      have qq : QQ Gr n k (r * 2 ^ k + c) := (nd_up hdh hS.1.2 hh).mpr z
      refine pt_zb (v_node (u := u) (pl := pl) (lo := lo) (hi := hi) Rt hS.1.1 ⟨hu2, by omega⟩ (by omega) (by omega) (by omega) (fun i i2 iu => ?_)) (fun v9 φ h9 => ?_)
      · obtain ⟨⟨w1, w2, w3⟩, _⟩ := hS.1.2.2.2.1 i i2 iu
        exact ⟨by omega, by omega, by omega⟩
      · obtain ⟨h9e, h9⟩ := h9
        have h9e : φ.2 = τ.2 := h9e
        rcases h9 with ⟨i, ⟨⟨i2, iu⟩, ip, il, ih'⟩, ev, es⟩ | ⟨no, ev, ns, e119, oo⟩
        · have ev : v9 = nI i := ev
          have es : φ.1 = τ.1 := es
          subst ev
          have ie := nd_is2 hS.1.2 hdl hdh i2 iu ip il ih'
          have nf := nd_nf hS.1.2 mk i2 iu ip ie
          refine fin φ u pl lo hi D i h9e (fun a' _ => by rw [es]) (Nat.le_refl _) (fun _ _ => rfl) ⟨⟨NS_c (fun a' _ => by rw [es]) hS.1.1, nd_found hS.1.2 hk mk m0 (fun j hj => mC_o hj) i2 iu ip ie⟩, fun j hj => ?_⟩ iu ie
          rw [es]
          by_cases y : j = k
          · subst y
            rw [m0, cF_f nf, mk]; exact hS.2 j hj
          · rw [mC_o y]; exact hS.2 j hj
        · have ev : v9 = nI u := ev
          have ns : NS φ (u + 1) (un pl u k) (un lo u l) (un hi u h) := ns
          have e119 : φ.1 119 = upd (τ.1 119) k (τ.1 119 k + 1) := e119
          have oo : ∀ a, a ∉ NLS → φ.1 a = τ.1 a := oo
          subst ev
          have fo := nd_FO hS.1.2 hk mk hl hh hdl hdh qq no
          refine fin φ (u + 1) (un pl u k) (un lo u l) (un hi u h) (unD D u (BB Gr n k (r * 2 ^ k + c))) u h9e oo (by omega) (fun i hi' => unD_n (by omega)) ⟨⟨ns, nd_new hS.1.2 hk mk m0 (fun j hj => mC_o hj) hl hh hdl hdh qq no⟩, fun j hj => ?_⟩ (by omega) (fun t => by rw [unD_s])
          rw [e119, upd_i]
          by_cases y : j = k
          · subst y
            rw [if_pos rfl, hS.2 j hj, m0, cF_t fo, nI_m1, ← mk]
          · rw [if_neg y, mC_o y]; exact hS.2 j hj
/-- all levels of it -/
theorem v_g64 {k : Nat} (hR : RF σ.2.2) (n10 : n ≤ 10) (hr : r < 10) (hk : k ≤ n) (h0 : ∃ u pl lo hi D, ST Gr n u (mK r k) pl lo hi D σ ∧ ∀ e, e < 2 ^ k → PE Gr n u D σ k (r * 2 ^ k + e) e) : Pt (zlp (F_X1_grow_64 N 111) N (nI k - 1, σ)) (fun x => x.2.2 = σ.2 ∧ (∀ a, a ∉ NLS → a ≠ 118 → x.2.1 a = σ.1 a) ∧ ∃ u pl lo hi D, ST Gr n u (mK r 0) pl lo hi D x.2) := by
  refine pt_lp (fun x : Int32 × zS => x.2.2 = σ.2 ∧ (∀ a, a ∉ NLS → a ≠ 118 → x.2.1 a = σ.1 a) ∧ ∃ k, (x.1 = nI k - 1 ∧ k ≤ n) ∧ ∃ u pl lo hi D, ST Gr n u (mK r k) pl lo hi D x.2 ∧ ∀ e, e < 2 ^ k → PE Gr n u D x.2 k (r * 2 ^ k + e) e) (fun again x hJ ih => ?_) N _ ⟨rfl, fun _ _ _ => rfl, k, ⟨rfl, hk⟩, h0⟩
  obtain ⟨y, τ⟩ := x
  obtain ⟨e, o, k, ⟨ek, hk⟩, hS⟩ := hJ
  have e : τ.2 = σ.2 := e
  have o : ∀ a, a ∉ NLS → a ≠ 118 → τ.1 a = σ.1 a := o
  have ek : y = nI k - 1 := ek
  subst ek
  have Rt : RF τ.2.2 := by rw [e]; exact hR
  rw [F_X1_grow_64.eq_1]
  cases k with
  | zero =>
    refine pt_if (fun _ => ?_) (fun q => absurd (by decide : nI 0 - 1 < 0) q)
    obtain ⟨u, pl, lo, hi, D, hS, _⟩ := hS
    exact pt_some ⟨e, o, u, pl, lo, hi, D, hS⟩
  | succ k =>
    have ek : nI (k + 1) - 1 = nI k := by rw [show (1 : Int32) = nI 1 from rfl]; exact nI_sub rfl
    rw [ek]
    refine pt_if (fun q => ?_) (fun _ => ?_)
    · have q : nI k < nI 0 := q
      rw [nl_ (by omega) (by omega)] at q
      omega
    · refine v_g72 Rt n10 hr (by omega) (fun φ f1 f2 f3 => ?_) hS
      rw [← Int32.sub_eq_add_neg]
      exact ih (nI k - 1, φ) ⟨f1.trans e, fun a h1 h2 => (f2 a h1 h2).trans (o a h1 h2), k, ⟨rfl, by omega⟩, f3⟩
theorem v_grow {sa : Nat → Nat} (hR : RF σ.2.2) (h0 : (zKd x0).1 = 2) (n10 : n ≤ 10) (hr : r < 10) (hs : ∀ e, e < 2 ^ n → σ.1 117 e = nI (sa e) ∧ sa e < 1024) (hG : ∀ e, e < 2 ^ n → bt (σ.2.1 (x0 + 1)) (sa e) = Gr r e) (hST : ∃ u pl lo hi D, ST Gr n u (mK r n) pl lo hi D σ) : Pt (f_X1_grow N 111 x0 (nI n) σ) (fun x => x.2.2 = σ.2 ∧ (∀ a, a ∉ NLS → a ≠ 118 → x.2.1 a = σ.1 a) ∧ ∃ u pl lo hi D, ST Gr n u (mK r 0) pl lo hi D x.2) := by
  have p2 := p2le n10
  rw [f_X1_grow.eq_1, sets10 n (by omega)]
  refine pt_lp (fun x : Int32 × zS => x.2.2 = σ.2 ∧ (∀ a, a ≠ 118 → x.2.1 a = σ.1 a) ∧ ∃ c, (x.1 = nI c ∧ c ≤ 2 ^ n) ∧ ∀ e, e < c → x.2.1 118 e = nI (if Gr r e = true then 1 else 0)) (fun again x hJ ih => ?_) N _ ⟨rfl, fun _ _ => rfl, 0, ⟨rfl, Nat.zero_le _⟩, fun e he => absurd he (Nat.not_lt_zero _)⟩
  obtain ⟨y, τ⟩ := x
  obtain ⟨e, o, c, ⟨ec, hc⟩, hp⟩ := hJ
  have e : τ.2 = σ.2 := e
  have o : ∀ a, a ≠ 118 → τ.1 a = σ.1 a := o
  have ec : y = nI c := ec
  subst ec
  have hp : ∀ e, e < c → τ.1 118 e = nI (if Gr r e = true then 1 else 0) := hp
  have Rt : RF τ.2.2 := by rw [e]; exact hR
  rw [F_X1_grow_16.eq_1]
  refine pt_if (fun q => ?_) (fun q => ?_)
  · rw [nlt (by omega) (by omega)] at q
    have cc : c = 2 ^ n := by omega
    subst cc
    rw [zm10 n (by omega)]
    obtain ⟨u, pl, lo, hi, D, hS⟩ := hST
    have hS2 : ST Gr n u (mK r n) pl lo hi D τ := ST_c (fun a ha => o a (fun z => by rw [z] at ha; exact absurd ha (by decide))) hS
    refine pt_w (v_g64 (Gr := Gr) Rt n10 hr (Nat.le_refl n) ⟨u, pl, lo, hi, D, hS2, fun e2 he2 => ?_⟩) (fun x h => ⟨h.1.trans e, fun a h1 h2 => (h.2.1 a h1 h2).trans (o a h2), h.2.2⟩)
    have u2 := hS.1.2.1
    have bb : ∀ t, BB Gr n n (r * 2 ^ n + e2) t = (decide (t = 0) && Gr r e2) := fun t => by
      rw [bb_r he2, Nat.sub_self, Nat.pow_zero, Nat.mul_one]
      by_cases z : t = 0
      · subst z; rfl
      · rw [decide_eq_false (by omega), decide_eq_false z]; rfl
    cases g : Gr r e2 with
    | true => exact ⟨1, by omega, by rw [hp e2 he2, g]; rfl, fun t => by rw [bb, g, u2.2.2, Bool.and_true]⟩
    | false => exact ⟨0, by omega, by rw [hp e2 he2, g]; rfl, fun t => by rw [bb, g, u2.2.1, Bool.and_false]⟩
  · rw [nlt (by omega) (by omega)] at q
    obtain ⟨w1, w2⟩ := hs c (by omega)
    refine pt_gR (v := 118) (Rt 111 6 rfl) (pt_gR (v := 117) (Rt 111 5 rfl) (pt_aI (pt_gC ?_)))
    rw [iN (m := c) (by omega), o 117 (by decide), w1]
    refine pt_zbq (v_holds Rt h0 w2) (fun v hv => ?_)
    rw [show τ.2.1 (x0 + 1) = σ.2.1 (x0 + 1) by rw [e], hG c (by omega)] at hv
    have nxt : ∀ b : Int32, b = nI (if Gr r c = true then 1 else 0) → Pt (zl (sI 14 118 (nI c) b τ) fun σ17 => again (nI c + 1, σ17)) (fun x => x.2.2 = σ.2 ∧ (∀ a, a ∉ NLS → a ≠ 118 → x.2.1 a = σ.1 a) ∧ ∃ u pl lo hi D, ST Gr n u (mK r 0) pl lo hi D x.2) := fun b hb => by
      refine pt_s14x (fun φ a1 b1 c1 => ?_)
      rw [iN (m := c) (by omega)] at a1
      rw [nI_m1]
      refine ih (nI (c + 1), φ) ⟨c1.trans e, fun a ha => (b1 a ha).trans (o a ha), c + 1, ⟨rfl, by omega⟩, fun e2 he2 => ?_⟩
      show φ.1 118 e2 = _
      rw [a1, upd_i]
      by_cases z : e2 = c
      · rw [if_pos z, hb, z]
      · rw [if_neg z]; exact hp e2 (by omega)
    refine pt_if (fun z => nxt 0 ?_) (fun z => nxt 1 ?_)
    · rw [show Gr r c = false from vb_f hv z]; rfl
    · rw [show Gr r c = true from vb_t hv z]; rfl
end GROW
/-! the answers -/
section TALLY
variable {N n B x0 : Nat} {F : Nat → Bool} {σ : zS} {a : Nat → Nat}
/-- the nodes of all places -/
noncomputable def aN (Gr : Nat → Nat → Bool) (n R : Nat) : Nat := sF (fun k => cF Gr n k (R * 2 ^ k)) n
theorem st_0 {Gr : Nat → Nat → Bool} (h8 : σ.1 111 8 = nI 2) (h9 : ∀ j, j < 10 → σ.1 119 j = 0) (h2 : ∀ b, b < 2048 → σ.1 112 b = 0) (n10 : n ≤ 10) : ∃ u pl lo hi D, ST Gr n u (mK 0 n) pl lo hi D σ := by
  have z : ∀ {k}, k < n → mK 0 n k = 0 := fun hk => by
    unfold mK
    rw [if_pos hk, Nat.zero_mul]
  refine ⟨2, fun _ => 0, fun _ => 0, fun _ => 0, fun i t => decide (i = 1) && decide (t = 0), ⟨⟨h8, fun i a b => by omega, fun b hb => ?_⟩, ?_⟩, fun k hk => ?_⟩
  · rw [h2 b hb]
    show (0 : Int32) = nI (if 2 ≤ 1 ∧ _ then _ else (if 2 ≤ 0 ∧ _ then _ else 0))
    rw [if_neg (by omega), if_neg (by omega)]; rfl
  · exact nd_m (m := fun _ => 0) (fun k hk => z hk) (nd_0 rfl (fun _ => rfl) (fun _ => rfl) (fun t => by
      show (decide ((1 : Nat) = 1) && decide (t = 0)) = decide (t = 0)
      rw [decide_eq_true (rfl : (1 : Nat) = 1), Bool.true_and]))
  · rw [h9 k (by omega), z hk]; rfl
theorem v_tallyOf (hR : RF σ.2.2) (hB : isWc B) (h0 : (zKd x0).1 = 2) (hH : HQ σ) (en : σ.1 B 0 = nI n) (n10 : n ≤ 10) (ha : ∀ k, k < n → σ.1 (B + 4) k = nI (a k)) (hP : PmO n a) : Pt (f_X1_tallyOf N 111 B x0 σ) (fun r => (r.2.2 = σ.2 ∧ ∀ b, b ∉ NLS → b ≠ 117 → b ≠ 118 → r.2.1 b = σ.1 b) ∧ HQ r.2 ∧ r.1 = nI (aN (fun _ e => bt (σ.2.1 (x0 + 1)) (saN a n e n)) n 1) ∧ ∀ k, k < n → r.2.1 119 k = nI (cF (fun _ e => bt (σ.2.1 (x0 + 1)) (saN a n e n)) n k (2 ^ k))) := by
  have p2 := p2le n10
  have bn : ∀ b, b ≤ 4 → B + b ≠ 111 ∧ B + b ≠ 112 ∧ B + b ≠ 119 ∧ B + b ≠ 117 := fun b hb => by unfold isWc at hB; omega
  have b0 := bn 0 (by decide)
  have b4 := bn 4 (by decide)
  rw [Nat.add_zero] at b0
  rw [f_X1_tallyOf.eq_1]
  refine pt_gC (pt_zb (v_reset hR hH) (fun _ σ2 h2 => ?_))
  obtain ⟨e2, o2, ⟨x8, x9⟩, x2⟩ := h2
  have e2 : σ2.2 = σ.2 := e2
  have o2 : ∀ a, a ≠ 111 → a ≠ 112 → a ≠ 119 → σ2.1 a = σ.1 a := o2
  have R2 : RF σ2.2.2 := by rw [e2]; exact hR
  refine pt_gC (pt_zb (v_spread (n := n) (a := a) hB R2 (by rw [o2 B b0.1 b0.2.1 b0.2.2.1]; exact en) n10 (fun k hk => by
    rw [o2 (B + 4) b4.1 b4.2.1 b4.2.2.1]
    exact ⟨ha k hk, by have := hP.1 k hk; omega⟩)) (fun _ σ4 h4 => ?_))
  obtain ⟨e4, o4, x4⟩ := h4
  have e4 : σ4.2 = σ2.2 := e4
  have o4 : ∀ b, b ≠ 117 → σ4.1 b = σ2.1 b := o4
  have x4 : ∀ e, e < 2 ^ n → σ4.1 117 e = nI (saN a n e n) := x4
  have R4 : RF σ4.2.2 := by rw [e4]; exact R2
  refine pt_gI ?_
  rw [o4 B b0.2.2.2, o2 B b0.1 b0.2.1 b0.2.2.1, en]
  refine pt_gC (pt_zb (v_grow (Gr := fun _ e => bt (σ.2.1 (x0 + 1)) (saN a n e n)) (r := 0) (sa := fun e => saN a n e n) R4 h0 n10 (by decide) (fun e he => ⟨x4 e he, by have := sa_lt (e := e) hP; omega⟩) (fun e he => by rw [e4, e2]) (st_0 (by rw [o4 111 (by decide)]; exact x8) (fun j hj => by rw [o4 119 (by decide)]; exact x9 j hj) (fun b hb => by rw [o4 112 (by decide)]; exact x2 b hb) n10)) (fun _ σ7 h7 => ?_))
  obtain ⟨e7, o7, u, pl, lo, hi, D, hS⟩ := h7
  have e7 : σ7.2 = σ4.2 := e7
  have o7 : ∀ a, a ∉ NLS → a ≠ 118 → σ7.1 a = σ4.1 a := o7
  have hS : ST (fun _ e => bt (σ.2.1 (x0 + 1)) (saN a n e n)) n u (mK 0 0) pl lo hi D σ7 := hS
  have m0 : ∀ k, mK 0 0 k = 2 ^ k := fun k => by
    unfold mK
    rw [if_neg (Nat.not_lt_zero _), Nat.zero_add, Nat.one_mul]
  have hu := nd_u hS.1.2 n10 (fun k _ => by rw [m0]; omega)
  refine pt_gI ?_
  rw [hS.1.1.1]
  refine pt_some ⟨⟨(e7.trans e4).trans e2, fun b h1 h2 h3 => ?_⟩, HQ_NS hS.1.1 ⟨hS.1.2.1.1, by omega⟩, ?_, fun k hk => ?_⟩
  · show σ7.1 b = σ.1 b
    rw [o7 b h1 h3, o4 b h2]
    unfold NLS at h1
    simp only [List.mem_cons, List.not_mem_nil, or_false, not_or] at h1
    exact o2 b (by omega) (by omega) (by omega)
  · show nI u - 2 = nI _
    rw [show (2 : Int32) = nI 2 from rfl]
    refine nI_sub ?_
    have h5 := hS.1.2.2.2.2.2
    have q : aN (fun _ e => bt (σ.2.1 (x0 + 1)) (saN a n e n)) n 1 = sF (fun k => cF (fun _ e => bt (σ.2.1 (x0 + 1)) (saN a n e n)) n k (mK 0 0 k)) n := sF_c (fun k _ => by
      show cF _ n k (1 * 2 ^ k) = cF _ n k (mK 0 0 k)
      rw [m0, Nat.one_mul])
    omega
  · have := hS.2 k hk
    rw [m0] at this
    exact this
/-- the first register like register p -/
theorem v_firstLike {p : Nat} (hB : isWc B) (hR : RF σ.2.2) (hp : p < 10) : Px (f_X10_firstLike N B (nI p) σ) σ (fun v => (v = nI p ∧ ∀ q, q < p → ¬ ∀ s, s < 1024 → bt (σ.2.1 (B + 6 + 2 * q + 1)) s = bt (σ.2.1 (B + 6 + 2 * p + 1)) s) ∨ ∃ q, q < p ∧ v = nI q ∧ ∀ s, s < 1024 → bt (σ.2.1 (B + 6 + 2 * q + 1)) s = bt (σ.2.1 (B + 6 + 2 * p + 1)) s) := by
  have kd : ∀ q, q < 10 → (zKd (B + 6 + 2 * q)).1 = 2 := fun q hq => (rgW hB hR hq).2
  rw [f_X10_firstLike.eq_1]
  refine pt_lp (fun x : Int32 × zS => x.2 = σ ∧ ∃ q, (x.1 = nI q ∧ q ≤ p) ∧ ∀ q', q' < q → ¬ ∀ s, s < 1024 → bt (σ.2.1 (B + 6 + 2 * q' + 1)) s = bt (σ.2.1 (B + 6 + 2 * p + 1)) s) (fun again x hJ ih => ?_) N _ ⟨rfl, 0, ⟨rfl, Nat.zero_le _⟩, fun q hq => absurd hq (Nat.not_lt_zero _)⟩
  obtain ⟨y, τ⟩ := x
  obtain ⟨eo, q, ⟨eq', hq⟩, hno⟩ := hJ
  have e : τ = σ := eo
  have eq' : y = nI q := eq'
  subst e
  subst eq'
  rw [F_X10_firstLike_2.eq_1]
  refine pt_if (fun z => ?_) (fun z => pt_if (fun z2 => ?_) (fun _ => pt_if (fun z2 => ?_) (fun _ => ?_)))
  · rw [nlt (by omega) (by omega)] at z
    have : q = p := by omega
    subst this
    exact pt_some ⟨rfl, Or.inl ⟨rfl, hno⟩⟩
  · rw [nlt (by omega) (by omega)] at z
    have z2 : nI 10 ≤ nI q := z2
    rw [nlt (by omega) (by omega)] at z2
    omega
  · have z2 : nI 10 ≤ nI p := z2
    rw [nlt (by omega) (by omega)] at z2
    omega
  · rw [nlt (by omega) (by omega)] at z
    refine pt_rg2 hB hR (show q < 10 by omega) (pt_rg2 hB hR hp (pt_gC (pt_zbq (v_sameAs hR (kd q (by omega)) (kd p hp)) (fun v hv => pt_if (fun w => ?_) (fun w => ?_)))))
    · rw [nI_m1]
      refine ih (nI (q + 1), τ) ⟨rfl, q + 1, ⟨rfl, by omega⟩, fun q' hq' => ?_⟩
      by_cases y : q' = q
      · subst y
        intro h
        have := hv.2.mpr h
        rw [w] at this
        exact absurd this (by decide)
      · exact hno q' (by omega)
    · exact pt_some ⟨rfl, Or.inr ⟨q, by omega, rfl, hv.2.mp (hv.1.resolve_left w)⟩⟩
theorem v_tallyOfAll (hR : RF σ.2.2) (hB : isWc B) (hH : HQ σ) (en : σ.1 B 0 = nI n) (n10 : n ≤ 10) (ha : ∀ k, k < n → σ.1 (B + 4) k = nI (a k)) (hP : PmO n a) : Pt (f_X1_tallyOfAll N 111 B σ) (fun r => (r.2.2 = σ.2 ∧ ∀ b, b ∉ NLS → b ≠ 117 → b ≠ 118 → r.2.1 b = σ.1 b) ∧ HQ r.2 ∧ r.1 = nI (aN (fun p e => bt (σ.2.1 (B + 6 + 2 * p + 1)) (saN a n e n)) n 10)) := by
  have p2 := p2le n10
  have bn : ∀ b, b ≤ 4 → (B + b ≠ 111 ∧ B + b ≠ 112 ∧ B + b ≠ 119 ∧ B + b ≠ 117) ∧ B + b ∉ NLS ∧ B + b ≠ 118 := fun b hb => by
    refine ⟨by unfold isWc at hB; omega, fun z => ?_, by unfold isWc at hB; omega⟩
    unfold NLS at z
    simp only [List.mem_cons, List.not_mem_nil, or_false] at z
    unfold isWc at hB
    omega
  have b0 := bn 0 (by decide)
  have b4 := bn 4 (by decide)
  rw [Nat.add_zero] at b0
  rw [f_X1_tallyOfAll.eq_1]
  refine pt_gC (pt_zb (v_reset hR hH) (fun _ σ2 h2 => ?_))
  obtain ⟨e2, o2, ⟨x8, x9⟩, x2⟩ := h2
  have e2 : σ2.2 = σ.2 := e2
  have o2 : ∀ a, a ≠ 111 → a ≠ 112 → a ≠ 119 → σ2.1 a = σ.1 a := o2
  have R2 : RF σ2.2.2 := by rw [e2]; exact hR
  refine pt_gC (pt_zb (v_spread (n := n) (a := a) hB R2 (by rw [o2 B b0.1.1 b0.1.2.1 b0.1.2.2.1]; exact en) n10 (fun k hk => by
    rw [o2 (B + 4) b4.1.1 b4.1.2.1 b4.1.2.2.1]
    exact ⟨ha k hk, by have := hP.1 k hk; omega⟩)) (fun _ σ4 h4 => ?_))
  obtain ⟨e4, o4, x4⟩ := h4
  have e4 : σ4.2 = σ2.2 := e4
  have o4 : ∀ b, b ≠ 117 → σ4.1 b = σ2.1 b := o4
  have x4 : ∀ e, e < 2 ^ n → σ4.1 117 e = nI (saN a n e n) := x4
  have R4 : RF σ4.2.2 := by rw [e4]; exact R2
  have e42 : σ4.2 = σ.2 := e4.trans e2
  have m10 : ∀ k, mK 9 0 k = 10 * 2 ^ k := fun k => by
    unfold mK
    rw [if_neg (Nat.not_lt_zero _)]
  -- at register q all of the earlier ones are done
  refine pt_lp (fun x : Int32 × zS => x.2.2 = σ.2 ∧ (∀ b, b ∉ NLS → b ≠ 118 → x.2.1 b = σ4.1 b) ∧ ∃ q, (x.1 = nI q ∧ q ≤ 10) ∧ ∃ u pl lo hi D, ST (fun p e => bt (σ.2.1 (B + 6 + 2 * p + 1)) (saN a n e n)) n u (fun k => q * 2 ^ k) pl lo hi D x.2) (fun again x hJ ih => ?_) N _ ⟨e42, fun _ _ _ => rfl, 0, ⟨rfl, by decide⟩, ?_⟩
  · obtain ⟨y, τ⟩ := x
    obtain ⟨e, o, q, ⟨eq', hq⟩, u, pl, lo, hi, D, hS⟩ := hJ
    have e : τ.2 = σ.2 := e
    have o : ∀ b, b ∉ NLS → b ≠ 118 → τ.1 b = σ4.1 b := o
    have eq' : y = nI q := eq'
    subst eq'
    have hS : ST (fun p e => bt (σ.2.1 (B + 6 + 2 * p + 1)) (saN a n e n)) n u (fun k => q * 2 ^ k) pl lo hi D τ := hS
    have Rt : RF τ.2.2 := by rw [e]; exact hR
    rw [F_X1_tallyOfAll_11.eq_1]
    refine pt_if (fun z => ?_) (fun z => ?_)
    · have z : nI 10 ≤ nI q := z
      rw [nlt (by omega) (by omega)] at z
      have : q = 10 := by omega
      subst this
      have hu := nd_u hS.1.2 n10 (fun k _ => Nat.le_refl _)
      refine pt_gI ?_
      rw [hS.1.1.1]
      refine pt_some ⟨⟨e, fun b h1 h2 h3 => ?_⟩, HQ_NS hS.1.1 ⟨hS.1.2.1.1, by omega⟩, ?_⟩
      · show τ.1 b = σ.1 b
        rw [o b h1 h3, o4 b h2]
        unfold NLS at h1
        simp only [List.mem_cons, List.not_mem_nil, or_false, not_or] at h1
        exact o2 b (by omega) (by omega) (by omega)
      · show nI u - 2 = nI _
        rw [show (2 : Int32) = nI 2 from rfl]
        refine nI_sub ?_
        have h5 : u = 2 + sF (fun k => cF (fun p e => bt (σ.2.1 (B + 6 + 2 * p + 1)) (saN a n e n)) n k (10 * 2 ^ k)) n := hS.1.2.2.2.2.2
        unfold aN
        omega
    · have z : ¬ nI 10 ≤ nI q := z
      rw [nlt (by omega) (by omega)] at z
      have q10 : q < 10 := by omega
      have mk1 : ∀ k, k < n → mK q n k = q * 2 ^ k := fun k hk => by
        unfold mK
        rw [if_pos hk]
      have mk0 : ∀ k, (q + 1) * 2 ^ k = mK q 0 k := fun k => by
        unfold mK
        rw [if_neg (Nat.not_lt_zero _)]
      refine pt_gC (pt_zbq (v_firstLike hB Rt q10) (fun v hv => ?_))
      rw [e] at hv
      rcases hv with ⟨rfl, _⟩ | ⟨q2, hq2, rfl, hlike⟩
      · refine pt_if (fun _ => ?_) (fun w => absurd rfl w)
        refine pt_rg2 hB Rt q10 (pt_gI ?_)
        rw [o B b0.2.1 b0.2.2, o4 B b0.1.2.2.2, o2 B b0.1.1 b0.1.2.1 b0.1.2.2.1, en]
        refine pt_gC (pt_zb (v_grow (Gr := fun p e => bt (σ.2.1 (B + 6 + 2 * p + 1)) (saN a n e n)) (r := q) (sa := fun e => saN a n e n) Rt (rgW hB Rt q10).2 n10 q10 (fun e he => ⟨by rw [o 117 (by decide) (by decide)]; exact x4 e he, by have := sa_lt (e := e) hP; omega⟩) (fun e2 he => by rw [e]) ⟨u, pl, lo, hi, D, ST_m (fun k hk => mk1 k hk) hS⟩) (fun _ σ7 h7 => ?_))
        obtain ⟨e7, o7, u', pl', lo', hi', D', hS'⟩ := h7
        rw [nI_m1]
        exact ih (nI (q + 1), σ7) ⟨(show σ7.2 = τ.2 from e7).trans e, fun b h1 h2 => ((show ∀ a, a ∉ NLS → a ≠ 118 → σ7.1 a = τ.1 a from o7) b h1 h2).trans (o b h1 h2), q + 1, ⟨rfl, by omega⟩, u', pl', lo', hi', D', ST_m (fun k _ => mk0 k) hS'⟩
      · refine pt_if (fun w => ?_) (fun _ => ?_)
        · rw [nI_inj (by omega) (by omega)] at w
          omega
        · rw [nI_m1]
          have hG : ∀ t, t < 2 ^ n → (fun p e => bt (σ.2.1 (B + 6 + 2 * p + 1)) (saN a n e n)) q t = (fun p e => bt (σ.2.1 (B + 6 + 2 * p + 1)) (saN a n e n)) q2 t := fun t _ => (hlike _ (by have := sa_lt (e := t) hP; omega)).symm
          refine ih (nI (q + 1), τ) ⟨e, o, q + 1, ⟨rfl, by omega⟩, u, pl, lo, hi, D, ⟨hS.1.1, nd_dup (r := q) (r0 := q2) hS.1.2 hq2 hG (fun _ _ => rfl) (fun _ _ => rfl)⟩, fun k hk => ?_⟩
          rw [cF_dup hk hq2 hG]
          exact hS.2 k hk
  · exact (st_0 (Gr := fun p e => bt (σ.2.1 (B + 6 + 2 * p + 1)) (saN a n e n)) (by rw [o4 111 (by decide)]; exact x8) (fun j hj => by rw [o4 119 (by decide)]; exact x9 j hj) (fun b hb => by rw [o4 112 (by decide)]; exact x2 b hb) n10).elim (fun u ⟨pl, lo, hi, D, h⟩ => ⟨u, pl, lo, hi, D, ST_m (fun k hk => by show 0 * 2 ^ k = mK 0 n k; unfold mK; rw [if_pos hk]) h⟩)
end TALLY

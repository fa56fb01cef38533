/-! ===== decoding by bytes ===== -/
/-- the bytes from k on, as numbers -/
def zby (c : ByteArray) (k n : Nat) : List Nat := ((c.data.toList.drop k).take n).map UInt8.toNat
def zbt (c : ByteArray) (p b : Nat) : Prop := ∃ hp : p < c.size, (c[p]'hp).toNat = b
theorem zby_at {c : ByteArray} {k n j b : Nat} {w : List Nat} (h : zby c k n = w) (hj : w[j]? = some b) : zbt c (k + j) b := by
  subst h
  unfold zby at hj
  rw [List.getElem?_map] at hj
  obtain ⟨x, hx, rfl⟩ := Option.map_eq_some_iff.mp hj
  rw [List.getElem?_take] at hx
  split at hx
  · rw [List.getElem?_drop] at hx
    obtain ⟨hp, e⟩ := List.getElem?_eq_some_iff.mp hx
    refine ⟨(by simpa using hp : k + j < c.size), ?_⟩
    show (c.data[k + j]).toNat = x.toNat
    rw [← e]; rfl
  · cases hx
theorem zu1 {c : ByteArray} {p b : Nat} (h : zbt c p b) : (Reader.u1 : Decoder Nat) c p = .ok (b, p + 1) := by
  obtain ⟨hp, rfl⟩ := h
  unfold Reader.u1
  simp [bind, ReaderT.bind, StateT.bind, Except.bind, Pure.pure, ReaderT.pure, StateT.pure, Except.pure, MonadReader.read, readThe, MonadReaderOf.read, ReaderT.read, getThe, MonadStateOf.get, StateT.get, MonadState.get, StateT.set, MonadStateOf.set, liftM, monadLift, MonadLift.monadLift, hp]
theorem zu2 {c : ByteArray} {p a b : Nat} (h : zbt c p a) (h2 : zbt c (p + 1) b) : (Reader.u2 : Decoder Nat) c p = .ok (a * 256 + b, p + 2) := by
  change Except.bind ((Reader.u1 : Decoder Nat) c p) _ = _
  rw [zu1 h]
  change Except.bind ((Reader.u1 : Decoder Nat) c (p + 1)) _ = _
  rw [zu1 h2]
  rfl
theorem zs2 {c : ByteArray} {p a b : Nat} (h : zbt c p a) (h2 : zbt c (p + 1) b) : (Reader.s2 : Decoder Int) c p = .ok (Reader.signed 16 (a * 256 + b), p + 2) := by
  change Except.bind ((Reader.u2 : Decoder Nat) c p) _ = _
  rw [zu2 h h2]
  rfl
theorem zs1 {c : ByteArray} {p a : Nat} (h : zbt c p a) : (Reader.s1 : Decoder Int) c p = .ok (Reader.signed 8 a, p + 1) := by
  change Except.bind ((Reader.u1 : Decoder Nat) c p) _ = _
  rw [zu1 h]
  rfl

theorem dq_42 {c : ByteArray} {p : Nat} (h : zbt c p 42) : decode c p = .ok (.aload_n 0, 1) := by
  change Except.bind (Except.bind ((Reader.u1 : Decoder Nat) c p) _) _ = _
  rw [zu1 h]
  exact congrArg (fun k => Except.ok ((.aload_n 0 : Instr), k)) (Nat.add_sub_cancel_left p 1)
theorem dq_183 {c : ByteArray} {p a b : Nat} (h : zbt c p 183) (h1 : zbt c (p + 1) a) (h2 : zbt c (p + 1 + 1) b) : decode c p = .ok (.invokespecial (a * 256 + b), 3) := by
  change Except.bind (Except.bind ((Reader.u1 : Decoder Nat) c p) _) _ = _
  rw [zu1 h]
  change Except.bind (Except.bind ((Reader.u2 : Decoder Nat) c (p + 1)) _) _ = _
  rw [zu2 h1 h2]
  exact congrArg (fun k => Except.ok ((.invokespecial (a * 256 + b) : Instr), k)) (Nat.add_sub_cancel_left p 3)
theorem dq_187 {c : ByteArray} {p a b : Nat} (h : zbt c p 187) (h1 : zbt c (p + 1) a) (h2 : zbt c (p + 1 + 1) b) : decode c p = .ok (.new (a * 256 + b), 3) := by
  change Except.bind (Except.bind ((Reader.u1 : Decoder Nat) c p) _) _ = _
  rw [zu1 h]
  change Except.bind (Except.bind ((Reader.u2 : Decoder Nat) c (p + 1)) _) _ = _
  rw [zu2 h1 h2]
  exact congrArg (fun k => Except.ok ((.new (a * 256 + b) : Instr), k)) (Nat.add_sub_cancel_left p 3)
theorem dq_89 {c : ByteArray} {p : Nat} (h : zbt c p 89) : decode c p = .ok (.dup, 1) := by
  change Except.bind (Except.bind ((Reader.u1 : Decoder Nat) c p) _) _ = _
  rw [zu1 h]
  exact congrArg (fun k => Except.ok ((.dup : Instr), k)) (Nat.add_sub_cancel_left p 1)
theorem dq_181 {c : ByteArray} {p a b : Nat} (h : zbt c p 181) (h1 : zbt c (p + 1) a) (h2 : zbt c (p + 1 + 1) b) : decode c p = .ok (.putfield (a * 256 + b), 3) := by
  change Except.bind (Except.bind ((Reader.u1 : Decoder Nat) c p) _) _ = _
  rw [zu1 h]
  change Except.bind (Except.bind ((Reader.u2 : Decoder Nat) c (p + 1)) _) _ = _
  rw [zu2 h1 h2]
  exact congrArg (fun k => Except.ok ((.putfield (a * 256 + b) : Instr), k)) (Nat.add_sub_cancel_left p 3)
theorem dq_17 {c : ByteArray} {p a b : Nat} {v : Int} (h : zbt c p 17) (h1 : zbt c (p + 1) a) (h2 : zbt c (p + 1 + 1) b) (hv : Reader.signed 16 (a * 256 + b) = v) : decode c p = .ok (.sipush v, 3) := by
  subst hv
  change Except.bind (Except.bind ((Reader.u1 : Decoder Nat) c p) _) _ = _
  rw [zu1 h]
  change Except.bind (Except.bind ((Reader.s2 : Decoder Int) c (p + 1)) _) _ = _
  rw [zs2 h1 h2]
  exact congrArg (fun k => Except.ok ((.sipush _ : Instr), k)) (Nat.add_sub_cancel_left p 3)
theorem dq_188_10 {c : ByteArray} {p : Nat} (h : zbt c p 188) (h1 : zbt c (p + 1) 10) : decode c p = .ok (.newarray .int, 2) := by
  change Except.bind (Except.bind ((Reader.u1 : Decoder Nat) c p) _) _ = _
  rw [zu1 h]
  change Except.bind (Except.bind ((Reader.u1 : Decoder Nat) c (p + 1)) _) _ = _
  rw [zu1 h1]
  exact congrArg (fun k => Except.ok ((.newarray .int : Instr), k)) (Nat.add_sub_cancel_left p 2)
theorem dq_177 {c : ByteArray} {p : Nat} (h : zbt c p 177) : decode c p = .ok (.return_, 1) := by
  change Except.bind (Except.bind ((Reader.u1 : Decoder Nat) c p) _) _ = _
  rw [zu1 h]
  exact congrArg (fun k => Except.ok ((.return_ : Instr), k)) (Nat.add_sub_cancel_left p 1)
theorem dq_27 {c : ByteArray} {p : Nat} (h : zbt c p 27) : decode c p = .ok (.iload_n 1, 1) := by
  change Except.bind (Except.bind ((Reader.u1 : Decoder Nat) c p) _) _ = _
  rw [zu1 h]
  exact congrArg (fun k => Except.ok ((.iload_n 1 : Instr), k)) (Nat.add_sub_cancel_left p 1)
theorem dq_44 {c : ByteArray} {p : Nat} (h : zbt c p 44) : decode c p = .ok (.aload_n 2, 1) := by
  change Except.bind (Except.bind ((Reader.u1 : Decoder Nat) c p) _) _ = _
  rw [zu1 h]
  exact congrArg (fun k => Except.ok ((.aload_n 2 : Instr), k)) (Nat.add_sub_cancel_left p 1)
theorem dq_45 {c : ByteArray} {p : Nat} (h : zbt c p 45) : decode c p = .ok (.aload_n 3, 1) := by
  change Except.bind (Except.bind ((Reader.u1 : Decoder Nat) c p) _) _ = _
  rw [zu1 h]
  exact congrArg (fun k => Except.ok ((.aload_n 3 : Instr), k)) (Nat.add_sub_cancel_left p 1)
theorem dq_182 {c : ByteArray} {p a b : Nat} (h : zbt c p 182) (h1 : zbt c (p + 1) a) (h2 : zbt c (p + 1 + 1) b) : decode c p = .ok (.invokevirtual (a * 256 + b), 3) := by
  change Except.bind (Except.bind ((Reader.u1 : Decoder Nat) c p) _) _ = _
  rw [zu1 h]
  change Except.bind (Except.bind ((Reader.u2 : Decoder Nat) c (p + 1)) _) _ = _
  rw [zu2 h1 h2]
  exact congrArg (fun k => Except.ok ((.invokevirtual (a * 256 + b) : Instr), k)) (Nat.add_sub_cancel_left p 3)
theorem dq_167 {c : ByteArray} {p a b : Nat} {v : Int} (h : zbt c p 167) (h1 : zbt c (p + 1) a) (h2 : zbt c (p + 1 + 1) b) (hv : Reader.signed 16 (a * 256 + b) = v) : decode c p = .ok (.goto v, 3) := by
  subst hv
  change Except.bind (Except.bind ((Reader.u1 : Decoder Nat) c p) _) _ = _
  rw [zu1 h]
  change Except.bind (Except.bind ((Reader.s2 : Decoder Int) c (p + 1)) _) _ = _
  rw [zs2 h1 h2]
  exact congrArg (fun k => Except.ok ((.goto _ : Instr), k)) (Nat.add_sub_cancel_left p 3)
theorem dq_21 {c : ByteArray} {p a : Nat} (h : zbt c p 21) (h1 : zbt c (p + 1) a) : decode c p = .ok (.iload a, 2) := by
  change Except.bind (Except.bind ((Reader.u1 : Decoder Nat) c p) _) _ = _
  rw [zu1 h]
  change Except.bind (Except.bind ((Reader.u1 : Decoder Nat) c (p + 1)) _) _ = _
  rw [zu1 h1]
  exact congrArg (fun k => Except.ok ((.iload a : Instr), k)) (Nat.add_sub_cancel_left p 2)
theorem dq_180 {c : ByteArray} {p a b : Nat} (h : zbt c p 180) (h1 : zbt c (p + 1) a) (h2 : zbt c (p + 1 + 1) b) : decode c p = .ok (.getfield (a * 256 + b), 3) := by
  change Except.bind (Except.bind ((Reader.u1 : Decoder Nat) c p) _) _ = _
  rw [zu1 h]
  change Except.bind (Except.bind ((Reader.u2 : Decoder Nat) c (p + 1)) _) _ = _
  rw [zu2 h1 h2]
  exact congrArg (fun k => Except.ok ((.getfield (a * 256 + b) : Instr), k)) (Nat.add_sub_cancel_left p 3)
theorem dq_29 {c : ByteArray} {p : Nat} (h : zbt c p 29) : decode c p = .ok (.iload_n 3, 1) := by
  change Except.bind (Except.bind ((Reader.u1 : Decoder Nat) c p) _) _ = _
  rw [zu1 h]
  exact congrArg (fun k => Except.ok ((.iload_n 3 : Instr), k)) (Nat.add_sub_cancel_left p 1)
theorem dq_28 {c : ByteArray} {p : Nat} (h : zbt c p 28) : decode c p = .ok (.iload_n 2, 1) := by
  change Except.bind (Except.bind ((Reader.u1 : Decoder Nat) c p) _) _ = _
  rw [zu1 h]
  exact congrArg (fun k => Except.ok ((.iload_n 2 : Instr), k)) (Nat.add_sub_cancel_left p 1)
theorem dq_43 {c : ByteArray} {p : Nat} (h : zbt c p 43) : decode c p = .ok (.aload_n 1, 1) := by
  change Except.bind (Except.bind ((Reader.u1 : Decoder Nat) c p) _) _ = _
  rw [zu1 h]
  exact congrArg (fun k => Except.ok ((.aload_n 1 : Instr), k)) (Nat.add_sub_cancel_left p 1)
theorem dq_3 {c : ByteArray} {p : Nat} (h : zbt c p 3) : decode c p = .ok (.iconst 0, 1) := by
  change Except.bind (Except.bind ((Reader.u1 : Decoder Nat) c p) _) _ = _
  rw [zu1 h]
  exact congrArg (fun k => Except.ok ((.iconst 0 : Instr), k)) (Nat.add_sub_cancel_left p 1)
theorem dq_62 {c : ByteArray} {p : Nat} (h : zbt c p 62) : decode c p = .ok (.istore_n 3, 1) := by
  change Except.bind (Except.bind ((Reader.u1 : Decoder Nat) c p) _) _ = _
  rw [zu1 h]
  exact congrArg (fun k => Except.ok ((.istore_n 3 : Instr), k)) (Nat.add_sub_cancel_left p 1)
theorem dq_162 {c : ByteArray} {p a b : Nat} {v : Int} (h : zbt c p 162) (h1 : zbt c (p + 1) a) (h2 : zbt c (p + 1 + 1) b) (hv : Reader.signed 16 (a * 256 + b) = v) : decode c p = .ok (.if_icmp .ge v, 3) := by
  subst hv
  change Except.bind (Except.bind ((Reader.u1 : Decoder Nat) c p) _) _ = _
  rw [zu1 h]
  change Except.bind (Except.bind ((Reader.s2 : Decoder Int) c (p + 1)) _) _ = _
  rw [zs2 h1 h2]
  exact congrArg (fun k => Except.ok ((.if_icmp .ge _ : Instr), k)) (Nat.add_sub_cancel_left p 3)
theorem dq_132 {c : ByteArray} {p a b : Nat} {v : Int} (h : zbt c p 132) (h1 : zbt c (p + 1) a) (h2 : zbt c (p + 1 + 1) b) (hv : Reader.signed 8 b = v) : decode c p = .ok (.iinc a v, 3) := by
  subst hv
  change Except.bind (Except.bind ((Reader.u1 : Decoder Nat) c p) _) _ = _
  rw [zu1 h]
  change Except.bind (Except.bind ((Reader.u1 : Decoder Nat) c (p + 1)) _) _ = _
  rw [zu1 h1]
  change Except.bind (Except.bind ((Reader.s1 : Decoder Int) c (p + 1 + 1)) _) _ = _
  rw [zs1 h2]
  exact congrArg (fun k => Except.ok ((.iinc a _ : Instr), k)) (Nat.add_sub_cancel_left p 3)
theorem dq_184 {c : ByteArray} {p a b : Nat} (h : zbt c p 184) (h1 : zbt c (p + 1) a) (h2 : zbt c (p + 1 + 1) b) : decode c p = .ok (.invokestatic (a * 256 + b), 3) := by
  change Except.bind (Except.bind ((Reader.u1 : Decoder Nat) c p) _) _ = _
  rw [zu1 h]
  change Except.bind (Except.bind ((Reader.u2 : Decoder Nat) c (p + 1)) _) _ = _
  rw [zu2 h1 h2]
  exact congrArg (fun k => Except.ok ((.invokestatic (a * 256 + b) : Instr), k)) (Nat.add_sub_cancel_left p 3)
theorem dq_54 {c : ByteArray} {p a : Nat} (h : zbt c p 54) (h1 : zbt c (p + 1) a) : decode c p = .ok (.istore a, 2) := by
  change Except.bind (Except.bind ((Reader.u1 : Decoder Nat) c p) _) _ = _
  rw [zu1 h]
  change Except.bind (Except.bind ((Reader.u1 : Decoder Nat) c (p + 1)) _) _ = _
  rw [zu1 h1]
  exact congrArg (fun k => Except.ok ((.istore a : Instr), k)) (Nat.add_sub_cancel_left p 2)
theorem dq_92 {c : ByteArray} {p : Nat} (h : zbt c p 92) : decode c p = .ok (.dup2, 1) := by
  change Except.bind (Except.bind ((Reader.u1 : Decoder Nat) c p) _) _ = _
  rw [zu1 h]
  exact congrArg (fun k => Except.ok ((.dup2 : Instr), k)) (Nat.add_sub_cancel_left p 1)
theorem dq_46 {c : ByteArray} {p : Nat} (h : zbt c p 46) : decode c p = .ok (.iaload, 1) := by
  change Except.bind (Except.bind ((Reader.u1 : Decoder Nat) c p) _) _ = _
  rw [zu1 h]
  exact congrArg (fun k => Except.ok ((.iaload : Instr), k)) (Nat.add_sub_cancel_left p 1)
theorem dq_104 {c : ByteArray} {p : Nat} (h : zbt c p 104) : decode c p = .ok (.imul, 1) := by
  change Except.bind (Except.bind ((Reader.u1 : Decoder Nat) c p) _) _ = _
  rw [zu1 h]
  exact congrArg (fun k => Except.ok ((.imul : Instr), k)) (Nat.add_sub_cancel_left p 1)
theorem dq_79 {c : ByteArray} {p : Nat} (h : zbt c p 79) : decode c p = .ok (.iastore, 1) := by
  change Except.bind (Except.bind ((Reader.u1 : Decoder Nat) c p) _) _ = _
  rw [zu1 h]
  exact congrArg (fun k => Except.ok ((.iastore : Instr), k)) (Nat.add_sub_cancel_left p 1)
theorem dq_4 {c : ByteArray} {p : Nat} (h : zbt c p 4) : decode c p = .ok (.iconst 1, 1) := by
  change Except.bind (Except.bind ((Reader.u1 : Decoder Nat) c p) _) _ = _
  rw [zu1 h]
  exact congrArg (fun k => Except.ok ((.iconst 1 : Instr), k)) (Nat.add_sub_cancel_left p 1)
theorem dq_126 {c : ByteArray} {p : Nat} (h : zbt c p 126) : decode c p = .ok (.iand, 1) := by
  change Except.bind (Except.bind ((Reader.u1 : Decoder Nat) c p) _) _ = _
  rw [zu1 h]
  exact congrArg (fun k => Except.ok ((.iand : Instr), k)) (Nat.add_sub_cancel_left p 1)
theorem dq_153 {c : ByteArray} {p a b : Nat} {v : Int} (h : zbt c p 153) (h1 : zbt c (p + 1) a) (h2 : zbt c (p + 1 + 1) b) (hv : Reader.signed 16 (a * 256 + b) = v) : decode c p = .ok (.ifCond .eq v, 3) := by
  subst hv
  change Except.bind (Except.bind ((Reader.u1 : Decoder Nat) c p) _) _ = _
  rw [zu1 h]
  change Except.bind (Except.bind ((Reader.s2 : Decoder Int) c (p + 1)) _) _ = _
  rw [zs2 h1 h2]
  exact congrArg (fun k => Except.ok ((.ifCond .eq _ : Instr), k)) (Nat.add_sub_cancel_left p 3)
theorem dq_100 {c : ByteArray} {p : Nat} (h : zbt c p 100) : decode c p = .ok (.isub, 1) := by
  change Except.bind (Except.bind ((Reader.u1 : Decoder Nat) c p) _) _ = _
  rw [zu1 h]
  exact congrArg (fun k => Except.ok ((.isub : Instr), k)) (Nat.add_sub_cancel_left p 1)
theorem dq_120 {c : ByteArray} {p : Nat} (h : zbt c p 120) : decode c p = .ok (.ishl, 1) := by
  change Except.bind (Except.bind ((Reader.u1 : Decoder Nat) c p) _) _ = _
  rw [zu1 h]
  exact congrArg (fun k => Except.ok ((.ishl : Instr), k)) (Nat.add_sub_cancel_left p 1)
theorem dq_96 {c : ByteArray} {p : Nat} (h : zbt c p 96) : decode c p = .ok (.iadd, 1) := by
  change Except.bind (Except.bind ((Reader.u1 : Decoder Nat) c p) _) _ = _
  rw [zu1 h]
  exact congrArg (fun k => Except.ok ((.iadd : Instr), k)) (Nat.add_sub_cancel_left p 1)
theorem dq_16 {c : ByteArray} {p a : Nat} {v : Int} (h : zbt c p 16) (h1 : zbt c (p + 1) a) (hv : Reader.signed 8 a = v) : decode c p = .ok (.bipush v, 2) := by
  subst hv
  change Except.bind (Except.bind ((Reader.u1 : Decoder Nat) c p) _) _ = _
  rw [zu1 h]
  change Except.bind (Except.bind ((Reader.s1 : Decoder Int) c (p + 1)) _) _ = _
  rw [zs1 h1]
  exact congrArg (fun k => Except.ok ((.bipush _ : Instr), k)) (Nat.add_sub_cancel_left p 2)
theorem dq_26 {c : ByteArray} {p : Nat} (h : zbt c p 26) : decode c p = .ok (.iload_n 0, 1) := by
  change Except.bind (Except.bind ((Reader.u1 : Decoder Nat) c p) _) _ = _
  rw [zu1 h]
  exact congrArg (fun k => Except.ok ((.iload_n 0 : Instr), k)) (Nat.add_sub_cancel_left p 1)
theorem dq_172 {c : ByteArray} {p : Nat} (h : zbt c p 172) : decode c p = .ok (.ireturn, 1) := by
  change Except.bind (Except.bind ((Reader.u1 : Decoder Nat) c p) _) _ = _
  rw [zu1 h]
  exact congrArg (fun k => Except.ok ((.ireturn : Instr), k)) (Nat.add_sub_cancel_left p 1)
theorem dq_154 {c : ByteArray} {p a b : Nat} {v : Int} (h : zbt c p 154) (h1 : zbt c (p + 1) a) (h2 : zbt c (p + 1 + 1) b) (hv : Reader.signed 16 (a * 256 + b) = v) : decode c p = .ok (.ifCond .ne v, 3) := by
  subst hv
  change Except.bind (Except.bind ((Reader.u1 : Decoder Nat) c p) _) _ = _
  rw [zu1 h]
  change Except.bind (Except.bind ((Reader.s2 : Decoder Int) c (p + 1)) _) _ = _
  rw [zs2 h1 h2]
  exact congrArg (fun k => Except.ok ((.ifCond .ne _ : Instr), k)) (Nat.add_sub_cancel_left p 3)
theorem dq_155 {c : ByteArray} {p a b : Nat} {v : Int} (h : zbt c p 155) (h1 : zbt c (p + 1) a) (h2 : zbt c (p + 1 + 1) b) (hv : Reader.signed 16 (a * 256 + b) = v) : decode c p = .ok (.ifCond .lt v, 3) := by
  subst hv
  change Except.bind (Except.bind ((Reader.u1 : Decoder Nat) c p) _) _ = _
  rw [zu1 h]
  change Except.bind (Except.bind ((Reader.s2 : Decoder Int) c (p + 1)) _) _ = _
  rw [zs2 h1 h2]
  exact congrArg (fun k => Except.ok ((.ifCond .lt _ : Instr), k)) (Nat.add_sub_cancel_left p 3)
theorem dq_128 {c : ByteArray} {p : Nat} (h : zbt c p 128) : decode c p = .ok (.ior, 1) := by
  change Except.bind (Except.bind ((Reader.u1 : Decoder Nat) c p) _) _ = _
  rw [zu1 h]
  exact congrArg (fun k => Except.ok ((.ior : Instr), k)) (Nat.add_sub_cancel_left p 1)
theorem dq_5 {c : ByteArray} {p : Nat} (h : zbt c p 5) : decode c p = .ok (.iconst 2, 1) := by
  change Except.bind (Except.bind ((Reader.u1 : Decoder Nat) c p) _) _ = _
  rw [zu1 h]
  exact congrArg (fun k => Except.ok ((.iconst 2 : Instr), k)) (Nat.add_sub_cancel_left p 1)
theorem dq_61 {c : ByteArray} {p : Nat} (h : zbt c p 61) : decode c p = .ok (.istore_n 2, 1) := by
  change Except.bind (Except.bind ((Reader.u1 : Decoder Nat) c p) _) _ = _
  rw [zu1 h]
  exact congrArg (fun k => Except.ok ((.istore_n 2 : Instr), k)) (Nat.add_sub_cancel_left p 1)
theorem dq_160 {c : ByteArray} {p a b : Nat} {v : Int} (h : zbt c p 160) (h1 : zbt c (p + 1) a) (h2 : zbt c (p + 1 + 1) b) (hv : Reader.signed 16 (a * 256 + b) = v) : decode c p = .ok (.if_icmp .ne v, 3) := by
  subst hv
  change Except.bind (Except.bind ((Reader.u1 : Decoder Nat) c p) _) _ = _
  rw [zu1 h]
  change Except.bind (Except.bind ((Reader.s2 : Decoder Int) c (p + 1)) _) _ = _
  rw [zs2 h1 h2]
  exact congrArg (fun k => Except.ok ((.if_icmp .ne _ : Instr), k)) (Nat.add_sub_cancel_left p 3)
theorem dq_50 {c : ByteArray} {p : Nat} (h : zbt c p 50) : decode c p = .ok (.aaload, 1) := by
  change Except.bind (Except.bind ((Reader.u1 : Decoder Nat) c p) _) _ = _
  rw [zu1 h]
  exact congrArg (fun k => Except.ok ((.aaload : Instr), k)) (Nat.add_sub_cancel_left p 1)
theorem dq_60 {c : ByteArray} {p : Nat} (h : zbt c p 60) : decode c p = .ok (.istore_n 1, 1) := by
  change Except.bind (Except.bind ((Reader.u1 : Decoder Nat) c p) _) _ = _
  rw [zu1 h]
  exact congrArg (fun k => Except.ok ((.istore_n 1 : Instr), k)) (Nat.add_sub_cancel_left p 1)
theorem dq_161 {c : ByteArray} {p a b : Nat} {v : Int} (h : zbt c p 161) (h1 : zbt c (p + 1) a) (h2 : zbt c (p + 1 + 1) b) (hv : Reader.signed 16 (a * 256 + b) = v) : decode c p = .ok (.if_icmp .lt v, 3) := by
  subst hv
  change Except.bind (Except.bind ((Reader.u1 : Decoder Nat) c p) _) _ = _
  rw [zu1 h]
  change Except.bind (Except.bind ((Reader.s2 : Decoder Int) c (p + 1)) _) _ = _
  rw [zs2 h1 h2]
  exact congrArg (fun k => Except.ok ((.if_icmp .lt _ : Instr), k)) (Nat.add_sub_cancel_left p 3)
theorem dq_90 {c : ByteArray} {p : Nat} (h : zbt c p 90) : decode c p = .ok (.dup_x1, 1) := by
  change Except.bind (Except.bind ((Reader.u1 : Decoder Nat) c p) _) _ = _
  rw [zu1 h]
  exact congrArg (fun k => Except.ok ((.dup_x1 : Instr), k)) (Nat.add_sub_cancel_left p 1)
theorem dq_188_11 {c : ByteArray} {p : Nat} (h : zbt c p 188) (h1 : zbt c (p + 1) 11) : decode c p = .ok (.newarray .long, 2) := by
  change Except.bind (Except.bind ((Reader.u1 : Decoder Nat) c p) _) _ = _
  rw [zu1 h]
  change Except.bind (Except.bind ((Reader.u1 : Decoder Nat) c (p + 1)) _) _ = _
  rw [zu1 h1]
  exact congrArg (fun k => Except.ok ((.newarray .long : Instr), k)) (Nat.add_sub_cancel_left p 2)
theorem dq_122 {c : ByteArray} {p : Nat} (h : zbt c p 122) : decode c p = .ok (.ishr, 1) := by
  change Except.bind (Except.bind ((Reader.u1 : Decoder Nat) c p) _) _ = _
  rw [zu1 h]
  exact congrArg (fun k => Except.ok ((.ishr : Instr), k)) (Nat.add_sub_cancel_left p 1)
theorem dq_47 {c : ByteArray} {p : Nat} (h : zbt c p 47) : decode c p = .ok (.laload, 1) := by
  change Except.bind (Except.bind ((Reader.u1 : Decoder Nat) c p) _) _ = _
  rw [zu1 h]
  exact congrArg (fun k => Except.ok ((.laload : Instr), k)) (Nat.add_sub_cancel_left p 1)
theorem dq_125 {c : ByteArray} {p : Nat} (h : zbt c p 125) : decode c p = .ok (.lushr, 1) := by
  change Except.bind (Except.bind ((Reader.u1 : Decoder Nat) c p) _) _ = _
  rw [zu1 h]
  exact congrArg (fun k => Except.ok ((.lushr : Instr), k)) (Nat.add_sub_cancel_left p 1)
theorem dq_10 {c : ByteArray} {p : Nat} (h : zbt c p 10) : decode c p = .ok (.lconst 1, 1) := by
  change Except.bind (Except.bind ((Reader.u1 : Decoder Nat) c p) _) _ = _
  rw [zu1 h]
  exact congrArg (fun k => Except.ok ((.lconst 1 : Instr), k)) (Nat.add_sub_cancel_left p 1)
theorem dq_127 {c : ByteArray} {p : Nat} (h : zbt c p 127) : decode c p = .ok (.land, 1) := by
  change Except.bind (Except.bind ((Reader.u1 : Decoder Nat) c p) _) _ = _
  rw [zu1 h]
  exact congrArg (fun k => Except.ok ((.land : Instr), k)) (Nat.add_sub_cancel_left p 1)
theorem dq_9 {c : ByteArray} {p : Nat} (h : zbt c p 9) : decode c p = .ok (.lconst 0, 1) := by
  change Except.bind (Except.bind ((Reader.u1 : Decoder Nat) c p) _) _ = _
  rw [zu1 h]
  exact congrArg (fun k => Except.ok ((.lconst 0 : Instr), k)) (Nat.add_sub_cancel_left p 1)
theorem dq_148 {c : ByteArray} {p : Nat} (h : zbt c p 148) : decode c p = .ok (.lcmp, 1) := by
  change Except.bind (Except.bind ((Reader.u1 : Decoder Nat) c p) _) _ = _
  rw [zu1 h]
  exact congrArg (fun k => Except.ok ((.lcmp : Instr), k)) (Nat.add_sub_cancel_left p 1)
theorem dq_121 {c : ByteArray} {p : Nat} (h : zbt c p 121) : decode c p = .ok (.lshl, 1) := by
  change Except.bind (Except.bind ((Reader.u1 : Decoder Nat) c p) _) _ = _
  rw [zu1 h]
  exact congrArg (fun k => Except.ok ((.lshl : Instr), k)) (Nat.add_sub_cancel_left p 1)
theorem dq_129 {c : ByteArray} {p : Nat} (h : zbt c p 129) : decode c p = .ok (.lor, 1) := by
  change Except.bind (Except.bind ((Reader.u1 : Decoder Nat) c p) _) _ = _
  rw [zu1 h]
  exact congrArg (fun k => Except.ok ((.lor : Instr), k)) (Nat.add_sub_cancel_left p 1)
theorem dq_80 {c : ByteArray} {p : Nat} (h : zbt c p 80) : decode c p = .ok (.lastore, 1) := by
  change Except.bind (Except.bind ((Reader.u1 : Decoder Nat) c p) _) _ = _
  rw [zu1 h]
  exact congrArg (fun k => Except.ok ((.lastore : Instr), k)) (Nat.add_sub_cancel_left p 1)
theorem dq_20 {c : ByteArray} {p a b : Nat} (h : zbt c p 20) (h1 : zbt c (p + 1) a) (h2 : zbt c (p + 1 + 1) b) : decode c p = .ok (.ldc2_w (a * 256 + b), 3) := by
  change Except.bind (Except.bind ((Reader.u1 : Decoder Nat) c p) _) _ = _
  rw [zu1 h]
  change Except.bind (Except.bind ((Reader.u2 : Decoder Nat) c (p + 1)) _) _ = _
  rw [zu2 h1 h2]
  exact congrArg (fun k => Except.ok ((.ldc2_w (a * 256 + b) : Instr), k)) (Nat.add_sub_cancel_left p 3)
theorem dq_131 {c : ByteArray} {p : Nat} (h : zbt c p 131) : decode c p = .ok (.lxor, 1) := by
  change Except.bind (Except.bind ((Reader.u1 : Decoder Nat) c p) _) _ = _
  rw [zu1 h]
  exact congrArg (fun k => Except.ok ((.lxor : Instr), k)) (Nat.add_sub_cancel_left p 1)
theorem dq_101 {c : ByteArray} {p : Nat} (h : zbt c p 101) : decode c p = .ok (.lsub, 1) := by
  change Except.bind (Except.bind ((Reader.u1 : Decoder Nat) c p) _) _ = _
  rw [zu1 h]
  exact congrArg (fun k => Except.ok ((.lsub : Instr), k)) (Nat.add_sub_cancel_left p 1)
theorem dq_2 {c : ByteArray} {p : Nat} (h : zbt c p 2) : decode c p = .ok (.iconst (-1), 1) := by
  change Except.bind (Except.bind ((Reader.u1 : Decoder Nat) c p) _) _ = _
  rw [zu1 h]
  exact congrArg (fun k => Except.ok ((.iconst (-1) : Instr), k)) (Nat.add_sub_cancel_left p 1)
theorem dq_65 {c : ByteArray} {p : Nat} (h : zbt c p 65) : decode c p = .ok (.lstore_n 2, 1) := by
  change Except.bind (Except.bind ((Reader.u1 : Decoder Nat) c p) _) _ = _
  rw [zu1 h]
  exact congrArg (fun k => Except.ok ((.lstore_n 2 : Instr), k)) (Nat.add_sub_cancel_left p 1)
theorem dq_164 {c : ByteArray} {p a b : Nat} {v : Int} (h : zbt c p 164) (h1 : zbt c (p + 1) a) (h2 : zbt c (p + 1 + 1) b) (hv : Reader.signed 16 (a * 256 + b) = v) : decode c p = .ok (.if_icmp .le v, 3) := by
  subst hv
  change Except.bind (Except.bind ((Reader.u1 : Decoder Nat) c p) _) _ = _
  rw [zu1 h]
  change Except.bind (Except.bind ((Reader.s2 : Decoder Int) c (p + 1)) _) _ = _
  rw [zs2 h1 h2]
  exact congrArg (fun k => Except.ok ((.if_icmp .le _ : Instr), k)) (Nat.add_sub_cancel_left p 3)
theorem dq_32 {c : ByteArray} {p : Nat} (h : zbt c p 32) : decode c p = .ok (.lload_n 2, 1) := by
  change Except.bind (Except.bind ((Reader.u1 : Decoder Nat) c p) _) _ = _
  rw [zu1 h]
  exact congrArg (fun k => Except.ok ((.lload_n 2 : Instr), k)) (Nat.add_sub_cancel_left p 1)
theorem dq_156 {c : ByteArray} {p a b : Nat} {v : Int} (h : zbt c p 156) (h1 : zbt c (p + 1) a) (h2 : zbt c (p + 1 + 1) b) (hv : Reader.signed 16 (a * 256 + b) = v) : decode c p = .ok (.ifCond .ge v, 3) := by
  subst hv
  change Except.bind (Except.bind ((Reader.u1 : Decoder Nat) c p) _) _ = _
  rw [zu1 h]
  change Except.bind (Except.bind ((Reader.s2 : Decoder Int) c (p + 1)) _) _ = _
  rw [zs2 h1 h2]
  exact congrArg (fun k => Except.ok ((.ifCond .ge _ : Instr), k)) (Nat.add_sub_cancel_left p 3)
theorem dq_31 {c : ByteArray} {p : Nat} (h : zbt c p 31) : decode c p = .ok (.lload_n 1, 1) := by
  change Except.bind (Except.bind ((Reader.u1 : Decoder Nat) c p) _) _ = _
  rw [zu1 h]
  exact congrArg (fun k => Except.ok ((.lload_n 1 : Instr), k)) (Nat.add_sub_cancel_left p 1)
theorem dq_55 {c : ByteArray} {p a : Nat} (h : zbt c p 55) (h1 : zbt c (p + 1) a) : decode c p = .ok (.lstore a, 2) := by
  change Except.bind (Except.bind ((Reader.u1 : Decoder Nat) c p) _) _ = _
  rw [zu1 h]
  change Except.bind (Except.bind ((Reader.u1 : Decoder Nat) c (p + 1)) _) _ = _
  rw [zu1 h1]
  exact congrArg (fun k => Except.ok ((.lstore a : Instr), k)) (Nat.add_sub_cancel_left p 2)
theorem dq_22 {c : ByteArray} {p a : Nat} (h : zbt c p 22) (h1 : zbt c (p + 1) a) : decode c p = .ok (.lload a, 2) := by
  change Except.bind (Except.bind ((Reader.u1 : Decoder Nat) c p) _) _ = _
  rw [zu1 h]
  change Except.bind (Except.bind ((Reader.u1 : Decoder Nat) c (p + 1)) _) _ = _
  rw [zu1 h1]
  exact congrArg (fun k => Except.ok ((.lload a : Instr), k)) (Nat.add_sub_cancel_left p 2)
theorem dq_178 {c : ByteArray} {p a b : Nat} (h : zbt c p 178) (h1 : zbt c (p + 1) a) (h2 : zbt c (p + 1 + 1) b) : decode c p = .ok (.getstatic (a * 256 + b), 3) := by
  change Except.bind (Except.bind ((Reader.u1 : Decoder Nat) c p) _) _ = _
  rw [zu1 h]
  change Except.bind (Except.bind ((Reader.u2 : Decoder Nat) c (p + 1)) _) _ = _
  rw [zu2 h1 h2]
  exact congrArg (fun k => Except.ok ((.getstatic (a * 256 + b) : Instr), k)) (Nat.add_sub_cancel_left p 3)
theorem dq_18 {c : ByteArray} {p a : Nat} (h : zbt c p 18) (h1 : zbt c (p + 1) a) : decode c p = .ok (.ldc a, 2) := by
  change Except.bind (Except.bind ((Reader.u1 : Decoder Nat) c p) _) _ = _
  rw [zu1 h]
  change Except.bind (Except.bind ((Reader.u1 : Decoder Nat) c (p + 1)) _) _ = _
  rw [zu1 h1]
  exact congrArg (fun k => Except.ok ((.ldc a : Instr), k)) (Nat.add_sub_cancel_left p 2)
theorem dq_130 {c : ByteArray} {p : Nat} (h : zbt c p 130) : decode c p = .ok (.ixor, 1) := by
  change Except.bind (Except.bind ((Reader.u1 : Decoder Nat) c p) _) _ = _
  rw [zu1 h]
  exact congrArg (fun k => Except.ok ((.ixor : Instr), k)) (Nat.add_sub_cancel_left p 1)
theorem dq_66 {c : ByteArray} {p : Nat} (h : zbt c p 66) : decode c p = .ok (.lstore_n 3, 1) := by
  change Except.bind (Except.bind ((Reader.u1 : Decoder Nat) c p) _) _ = _
  rw [zu1 h]
  exact congrArg (fun k => Except.ok ((.lstore_n 3 : Instr), k)) (Nat.add_sub_cancel_left p 1)
theorem dq_33 {c : ByteArray} {p : Nat} (h : zbt c p 33) : decode c p = .ok (.lload_n 3, 1) := by
  change Except.bind (Except.bind ((Reader.u1 : Decoder Nat) c p) _) _ = _
  rw [zu1 h]
  exact congrArg (fun k => Except.ok ((.lload_n 3 : Instr), k)) (Nat.add_sub_cancel_left p 1)
theorem dq_87 {c : ByteArray} {p : Nat} (h : zbt c p 87) : decode c p = .ok (.pop, 1) := by
  change Except.bind (Except.bind ((Reader.u1 : Decoder Nat) c p) _) _ = _
  rw [zu1 h]
  exact congrArg (fun k => Except.ok ((.pop : Instr), k)) (Nat.add_sub_cancel_left p 1)
theorem dq_190 {c : ByteArray} {p : Nat} (h : zbt c p 190) : decode c p = .ok (.arraylength, 1) := by
  change Except.bind (Except.bind ((Reader.u1 : Decoder Nat) c p) _) _ = _
  rw [zu1 h]
  exact congrArg (fun k => Except.ok ((.arraylength : Instr), k)) (Nat.add_sub_cancel_left p 1)
theorem dq_188_8 {c : ByteArray} {p : Nat} (h : zbt c p 188) (h1 : zbt c (p + 1) 8) : decode c p = .ok (.newarray .byte, 2) := by
  change Except.bind (Except.bind ((Reader.u1 : Decoder Nat) c p) _) _ = _
  rw [zu1 h]
  change Except.bind (Except.bind ((Reader.u1 : Decoder Nat) c (p + 1)) _) _ = _
  rw [zu1 h1]
  exact congrArg (fun k => Except.ok ((.newarray .byte : Instr), k)) (Nat.add_sub_cancel_left p 2)
theorem dq_51 {c : ByteArray} {p : Nat} (h : zbt c p 51) : decode c p = .ok (.baload, 1) := by
  change Except.bind (Except.bind ((Reader.u1 : Decoder Nat) c p) _) _ = _
  rw [zu1 h]
  exact congrArg (fun k => Except.ok ((.baload : Instr), k)) (Nat.add_sub_cancel_left p 1)
theorem dq_159 {c : ByteArray} {p a b : Nat} {v : Int} (h : zbt c p 159) (h1 : zbt c (p + 1) a) (h2 : zbt c (p + 1 + 1) b) (hv : Reader.signed 16 (a * 256 + b) = v) : decode c p = .ok (.if_icmp .eq v, 3) := by
  subst hv
  change Except.bind (Except.bind ((Reader.u1 : Decoder Nat) c p) _) _ = _
  rw [zu1 h]
  change Except.bind (Except.bind ((Reader.s2 : Decoder Int) c (p + 1)) _) _ = _
  rw [zs2 h1 h2]
  exact congrArg (fun k => Except.ok ((.if_icmp .eq _ : Instr), k)) (Nat.add_sub_cancel_left p 3)
theorem dq_6 {c : ByteArray} {p : Nat} (h : zbt c p 6) : decode c p = .ok (.iconst 3, 1) := by
  change Except.bind (Except.bind ((Reader.u1 : Decoder Nat) c p) _) _ = _
  rw [zu1 h]
  exact congrArg (fun k => Except.ok ((.iconst 3 : Instr), k)) (Nat.add_sub_cancel_left p 1)
theorem dq_163 {c : ByteArray} {p a b : Nat} {v : Int} (h : zbt c p 163) (h1 : zbt c (p + 1) a) (h2 : zbt c (p + 1 + 1) b) (hv : Reader.signed 16 (a * 256 + b) = v) : decode c p = .ok (.if_icmp .gt v, 3) := by
  subst hv
  change Except.bind (Except.bind ((Reader.u1 : Decoder Nat) c p) _) _ = _
  rw [zu1 h]
  change Except.bind (Except.bind ((Reader.s2 : Decoder Int) c (p + 1)) _) _ = _
  rw [zs2 h1 h2]
  exact congrArg (fun k => Except.ok ((.if_icmp .gt _ : Instr), k)) (Nat.add_sub_cancel_left p 3)
theorem dq_7 {c : ByteArray} {p : Nat} (h : zbt c p 7) : decode c p = .ok (.iconst 4, 1) := by
  change Except.bind (Except.bind ((Reader.u1 : Decoder Nat) c p) _) _ = _
  rw [zu1 h]
  exact congrArg (fun k => Except.ok ((.iconst 4 : Instr), k)) (Nat.add_sub_cancel_left p 1)
theorem dq_8 {c : ByteArray} {p : Nat} (h : zbt c p 8) : decode c p = .ok (.iconst 5, 1) := by
  change Except.bind (Except.bind ((Reader.u1 : Decoder Nat) c p) _) _ = _
  rw [zu1 h]
  exact congrArg (fun k => Except.ok ((.iconst 5 : Instr), k)) (Nat.add_sub_cancel_left p 1)
theorem dq_158 {c : ByteArray} {p a b : Nat} {v : Int} (h : zbt c p 158) (h1 : zbt c (p + 1) a) (h2 : zbt c (p + 1 + 1) b) (hv : Reader.signed 16 (a * 256 + b) = v) : decode c p = .ok (.ifCond .le v, 3) := by
  subst hv
  change Except.bind (Except.bind ((Reader.u1 : Decoder Nat) c p) _) _ = _
  rw [zu1 h]
  change Except.bind (Except.bind ((Reader.s2 : Decoder Int) c (p + 1)) _) _ = _
  rw [zs2 h1 h2]
  exact congrArg (fun k => Except.ok ((.ifCond .le _ : Instr), k)) (Nat.add_sub_cancel_left p 3)
theorem dq_25 {c : ByteArray} {p a : Nat} (h : zbt c p 25) (h1 : zbt c (p + 1) a) : decode c p = .ok (.aload a, 2) := by
  change Except.bind (Except.bind ((Reader.u1 : Decoder Nat) c p) _) _ = _
  rw [zu1 h]
  change Except.bind (Except.bind ((Reader.u1 : Decoder Nat) c (p + 1)) _) _ = _
  rw [zu1 h1]
  exact congrArg (fun k => Except.ok ((.aload a : Instr), k)) (Nat.add_sub_cancel_left p 2)
theorem dq_189 {c : ByteArray} {p a b : Nat} (h : zbt c p 189) (h1 : zbt c (p + 1) a) (h2 : zbt c (p + 1 + 1) b) : decode c p = .ok (.anewarray (a * 256 + b), 3) := by
  change Except.bind (Except.bind ((Reader.u1 : Decoder Nat) c p) _) _ = _
  rw [zu1 h]
  change Except.bind (Except.bind ((Reader.u2 : Decoder Nat) c (p + 1)) _) _ = _
  rw [zu2 h1 h2]
  exact congrArg (fun k => Except.ok ((.anewarray (a * 256 + b) : Instr), k)) (Nat.add_sub_cancel_left p 3)
theorem dq_83 {c : ByteArray} {p : Nat} (h : zbt c p 83) : decode c p = .ok (.aastore, 1) := by
  change Except.bind (Except.bind ((Reader.u1 : Decoder Nat) c p) _) _ = _
  rw [zu1 h]
  exact congrArg (fun k => Except.ok ((.aastore : Instr), k)) (Nat.add_sub_cancel_left p 1)
theorem dq_176 {c : ByteArray} {p : Nat} (h : zbt c p 176) : decode c p = .ok (.areturn, 1) := by
  change Except.bind (Except.bind ((Reader.u1 : Decoder Nat) c p) _) _ = _
  rw [zu1 h]
  exact congrArg (fun k => Except.ok ((.areturn : Instr), k)) (Nat.add_sub_cancel_left p 1)
theorem dq_136 {c : ByteArray} {p : Nat} (h : zbt c p 136) : decode c p = .ok (.l2i, 1) := by
  change Except.bind (Except.bind ((Reader.u1 : Decoder Nat) c p) _) _ = _
  rw [zu1 h]
  exact congrArg (fun k => Except.ok ((.l2i : Instr), k)) (Nat.add_sub_cancel_left p 1)
theorem dq_145 {c : ByteArray} {p : Nat} (h : zbt c p 145) : decode c p = .ok (.i2b, 1) := by
  change Except.bind (Except.bind ((Reader.u1 : Decoder Nat) c p) _) _ = _
  rw [zu1 h]
  exact congrArg (fun k => Except.ok ((.i2b : Instr), k)) (Nat.add_sub_cancel_left p 1)
theorem dq_133 {c : ByteArray} {p : Nat} (h : zbt c p 133) : decode c p = .ok (.i2l, 1) := by
  change Except.bind (Except.bind ((Reader.u1 : Decoder Nat) c p) _) _ = _
  rw [zu1 h]
  exact congrArg (fun k => Except.ok ((.i2l : Instr), k)) (Nat.add_sub_cancel_left p 1)
theorem dq_173 {c : ByteArray} {p : Nat} (h : zbt c p 173) : decode c p = .ok (.lreturn, 1) := by
  change Except.bind (Except.bind ((Reader.u1 : Decoder Nat) c p) _) _ = _
  rw [zu1 h]
  exact congrArg (fun k => Except.ok ((.lreturn : Instr), k)) (Nat.add_sub_cancel_left p 1)
theorem dq_147 {c : ByteArray} {p : Nat} (h : zbt c p 147) : decode c p = .ok (.i2s, 1) := by
  change Except.bind (Except.bind ((Reader.u1 : Decoder Nat) c p) _) _ = _
  rw [zu1 h]
  exact congrArg (fun k => Except.ok ((.i2s : Instr), k)) (Nat.add_sub_cancel_left p 1)
theorem dq_97 {c : ByteArray} {p : Nat} (h : zbt c p 97) : decode c p = .ok (.ladd, 1) := by
  change Except.bind (Except.bind ((Reader.u1 : Decoder Nat) c p) _) _ = _
  rw [zu1 h]
  exact congrArg (fun k => Except.ok ((.ladd : Instr), k)) (Nat.add_sub_cancel_left p 1)
theorem dq_157 {c : ByteArray} {p a b : Nat} {v : Int} (h : zbt c p 157) (h1 : zbt c (p + 1) a) (h2 : zbt c (p + 1 + 1) b) (hv : Reader.signed 16 (a * 256 + b) = v) : decode c p = .ok (.ifCond .gt v, 3) := by
  subst hv
  change Except.bind (Except.bind ((Reader.u1 : Decoder Nat) c p) _) _ = _
  rw [zu1 h]
  change Except.bind (Except.bind ((Reader.s2 : Decoder Int) c (p + 1)) _) _ = _
  rw [zs2 h1 h2]
  exact congrArg (fun k => Except.ok ((.ifCond .gt _ : Instr), k)) (Nat.add_sub_cancel_left p 3)
theorem dq_188_4 {c : ByteArray} {p : Nat} (h : zbt c p 188) (h1 : zbt c (p + 1) 4) : decode c p = .ok (.newarray .boolean, 2) := by
  change Except.bind (Except.bind ((Reader.u1 : Decoder Nat) c p) _) _ = _
  rw [zu1 h]
  change Except.bind (Except.bind ((Reader.u1 : Decoder Nat) c (p + 1)) _) _ = _
  rw [zu1 h1]
  exact congrArg (fun k => Except.ok ((.newarray .boolean : Instr), k)) (Nat.add_sub_cancel_left p 2)
theorem dq_77 {c : ByteArray} {p : Nat} (h : zbt c p 77) : decode c p = .ok (.astore_n 2, 1) := by
  change Except.bind (Except.bind ((Reader.u1 : Decoder Nat) c p) _) _ = _
  rw [zu1 h]
  exact congrArg (fun k => Except.ok ((.astore_n 2 : Instr), k)) (Nat.add_sub_cancel_left p 1)
theorem dq_58 {c : ByteArray} {p a : Nat} (h : zbt c p 58) (h1 : zbt c (p + 1) a) : decode c p = .ok (.astore a, 2) := by
  change Except.bind (Except.bind ((Reader.u1 : Decoder Nat) c p) _) _ = _
  rw [zu1 h]
  change Except.bind (Except.bind ((Reader.u1 : Decoder Nat) c (p + 1)) _) _ = _
  rw [zu1 h1]
  exact congrArg (fun k => Except.ok ((.astore a : Instr), k)) (Nat.add_sub_cancel_left p 2)
theorem dq_78 {c : ByteArray} {p : Nat} (h : zbt c p 78) : decode c p = .ok (.astore_n 3, 1) := by
  change Except.bind (Except.bind ((Reader.u1 : Decoder Nat) c p) _) _ = _
  rw [zu1 h]
  exact congrArg (fun k => Except.ok ((.astore_n 3 : Instr), k)) (Nat.add_sub_cancel_left p 1)
theorem dq_105 {c : ByteArray} {p : Nat} (h : zbt c p 105) : decode c p = .ok (.lmul, 1) := by
  change Except.bind (Except.bind ((Reader.u1 : Decoder Nat) c p) _) _ = _
  rw [zu1 h]
  exact congrArg (fun k => Except.ok ((.lmul : Instr), k)) (Nat.add_sub_cancel_left p 1)
theorem dq_113 {c : ByteArray} {p : Nat} (h : zbt c p 113) : decode c p = .ok (.lrem, 1) := by
  change Except.bind (Except.bind ((Reader.u1 : Decoder Nat) c p) _) _ = _
  rw [zu1 h]
  exact congrArg (fun k => Except.ok ((.lrem : Instr), k)) (Nat.add_sub_cancel_left p 1)
theorem dq_109 {c : ByteArray} {p : Nat} (h : zbt c p 109) : decode c p = .ok (.ldiv, 1) := by
  change Except.bind (Except.bind ((Reader.u1 : Decoder Nat) c p) _) _ = _
  rw [zu1 h]
  exact congrArg (fun k => Except.ok ((.ldiv : Instr), k)) (Nat.add_sub_cancel_left p 1)
theorem dq_84 {c : ByteArray} {p : Nat} (h : zbt c p 84) : decode c p = .ok (.bastore, 1) := by
  change Except.bind (Except.bind ((Reader.u1 : Decoder Nat) c p) _) _ = _
  rw [zu1 h]
  exact congrArg (fun k => Except.ok ((.bastore : Instr), k)) (Nat.add_sub_cancel_left p 1)
theorem dq_124 {c : ByteArray} {p : Nat} (h : zbt c p 124) : decode c p = .ok (.iushr, 1) := by
  change Except.bind (Except.bind ((Reader.u1 : Decoder Nat) c p) _) _ = _
  rw [zu1 h]
  exact congrArg (fun k => Except.ok ((.iushr : Instr), k)) (Nat.add_sub_cancel_left p 1)
theorem dq_30 {c : ByteArray} {p : Nat} (h : zbt c p 30) : decode c p = .ok (.lload_n 0, 1) := by
  change Except.bind (Except.bind ((Reader.u1 : Decoder Nat) c p) _) _ = _
  rw [zu1 h]
  exact congrArg (fun k => Except.ok ((.lload_n 0 : Instr), k)) (Nat.add_sub_cancel_left p 1)
theorem dq_108 {c : ByteArray} {p : Nat} (h : zbt c p 108) : decode c p = .ok (.idiv, 1) := by
  change Except.bind (Except.bind ((Reader.u1 : Decoder Nat) c p) _) _ = _
  rw [zu1 h]
  exact congrArg (fun k => Except.ok ((.idiv : Instr), k)) (Nat.add_sub_cancel_left p 1)
theorem dq_112 {c : ByteArray} {p : Nat} (h : zbt c p 112) : decode c p = .ok (.irem, 1) := by
  change Except.bind (Except.bind ((Reader.u1 : Decoder Nat) c p) _) _ = _
  rw [zu1 h]
  exact congrArg (fun k => Except.ok ((.irem : Instr), k)) (Nat.add_sub_cancel_left p 1)
theorem dq_19 {c : ByteArray} {p a b : Nat} (h : zbt c p 19) (h1 : zbt c (p + 1) a) (h2 : zbt c (p + 1 + 1) b) : decode c p = .ok (.ldc_w (a * 256 + b), 3) := by
  change Except.bind (Except.bind ((Reader.u1 : Decoder Nat) c p) _) _ = _
  rw [zu1 h]
  change Except.bind (Except.bind ((Reader.u2 : Decoder Nat) c (p + 1)) _) _ = _
  rw [zu2 h1 h2]
  exact congrArg (fun k => Except.ok ((.ldc_w (a * 256 + b) : Instr), k)) (Nat.add_sub_cancel_left p 3)
theorem dq_123 {c : ByteArray} {p : Nat} (h : zbt c p 123) : decode c p = .ok (.lshr, 1) := by
  change Except.bind (Except.bind ((Reader.u1 : Decoder Nat) c p) _) _ = _
  rw [zu1 h]
  exact congrArg (fun k => Except.ok ((.lshr : Instr), k)) (Nat.add_sub_cancel_left p 1)
theorem dq_59 {c : ByteArray} {p : Nat} (h : zbt c p 59) : decode c p = .ok (.istore_n 0, 1) := by
  change Except.bind (Except.bind ((Reader.u1 : Decoder Nat) c p) _) _ = _
  rw [zu1 h]
  exact congrArg (fun k => Except.ok ((.istore_n 0 : Instr), k)) (Nat.add_sub_cancel_left p 1)
theorem dq_63 {c : ByteArray} {p : Nat} (h : zbt c p 63) : decode c p = .ok (.lstore_n 0, 1) := by
  change Except.bind (Except.bind ((Reader.u1 : Decoder Nat) c p) _) _ = _
  rw [zu1 h]
  exact congrArg (fun k => Except.ok ((.lstore_n 0 : Instr), k)) (Nat.add_sub_cancel_left p 1)
theorem dq_146 {c : ByteArray} {p : Nat} (h : zbt c p 146) : decode c p = .ok (.i2c, 1) := by
  change Except.bind (Except.bind ((Reader.u1 : Decoder Nat) c p) _) _ = _
  rw [zu1 h]
  exact congrArg (fun k => Except.ok ((.i2c : Instr), k)) (Nat.add_sub_cancel_left p 1)
theorem dq_191 {c : ByteArray} {p : Nat} (h : zbt c p 191) : decode c p = .ok (.athrow, 1) := by
  change Except.bind (Except.bind ((Reader.u1 : Decoder Nat) c p) _) _ = _
  rw [zu1 h]
  exact congrArg (fun k => Except.ok ((.athrow : Instr), k)) (Nat.add_sub_cancel_left p 1)
theorem dq_76 {c : ByteArray} {p : Nat} (h : zbt c p 76) : decode c p = .ok (.astore_n 1, 1) := by
  change Except.bind (Except.bind ((Reader.u1 : Decoder Nat) c p) _) _ = _
  rw [zu1 h]
  exact congrArg (fun k => Except.ok ((.astore_n 1 : Instr), k)) (Nat.add_sub_cancel_left p 1)

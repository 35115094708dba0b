/-! decoding by opcodes: one row for each, over the bytes as a list -/
theorem u1_at {c : ByteArray} {p : Nat} {b : UInt8} (h : c.data.toList[p]? = some b) : (ClassFile.Reader.u1 : ClassFile.Decoder Nat) c p = .ok (b.toNat, p + 1) := by
  obtain ⟨⟨l⟩⟩ := c
  have h : l[p]? = some b := h
  obtain ⟨hp, e⟩ := List.getElem?_eq_some_iff.mp h
  show (dite (p < l.length) (fun h => ((fun _ _ => Except.ok ((l[p]'h).toNat, p + 1)) : ClassFile.Decoder Nat)) (fun _ => (throw (ClassFile.HasTruncated.truncated p) : ClassFile.Decoder Nat))) ⟨⟨l⟩⟩ p = _
  rw [dif_pos hp, e]
theorem dk_0 {c : ByteArray} {pc : Nat} {b : UInt8} {i : ClassFile.Instr} (hM : ∃ M : Nat → ClassFile.Decoder ClassFile.Instr, ClassFile.Decoder.instr pc = (ClassFile.Reader.u1 >>= M) ∧ M b.toNat = Pure.pure i) (h0 : c.data.toList[pc]? = some b) : decode c pc = .ok (i, 1) := by
  obtain ⟨M, hM, hp⟩ := hM
  have e : ClassFile.Decoder.instr pc c pc = .ok (i, pc + 1) := by
    rw [hM]
    show Except.bind ((ClassFile.Reader.u1 : ClassFile.Decoder Nat) c pc) (fun q => M q.1 c q.2) = _
    rw [u1_at h0]
    show M b.toNat c (pc + 1) = _
    rw [hp]
    rfl
  show Except.bind (ClassFile.Decoder.instr pc c pc) (fun q => Except.ok (q.1, q.2 - pc)) = _
  rw [e]
  show Except.ok (i, pc + 1 - pc) = _
  rw [Nat.add_sub_cancel_left]
theorem dk_n {c : ByteArray} {pc n : Nat} {b : UInt8} {i : ClassFile.Instr} {X : ClassFile.Decoder ClassFile.Instr} (hM : ∃ M : Nat → ClassFile.Decoder ClassFile.Instr, ClassFile.Decoder.instr pc = (ClassFile.Reader.u1 >>= M) ∧ M b.toNat = X) (h0 : c.data.toList[pc]? = some b) (hX : X c (pc + 1) = .ok (i, pc + n)) : decode c pc = .ok (i, n) := by
  obtain ⟨M, hM, hp⟩ := hM
  have e : ClassFile.Decoder.instr pc c pc = .ok (i, pc + n) := by
    rw [hM]
    show Except.bind ((ClassFile.Reader.u1 : ClassFile.Decoder Nat) c pc) (fun q => M q.1 c q.2) = _
    rw [u1_at h0]
    show M b.toNat c (pc + 1) = _
    rw [hp]
    exact hX
  show Except.bind (ClassFile.Decoder.instr pc c pc) (fun q => Except.ok (q.1, q.2 - pc)) = _
  rw [e]
  show Except.ok (i, pc + n - pc) = _
  rw [Nat.add_sub_cancel_left]
theorem dk_u1 {c : ByteArray} {pc n : Nat} {b x : UInt8} {f : Nat → ClassFile.Instr} (hM : ∃ M : Nat → ClassFile.Decoder ClassFile.Instr, ClassFile.Decoder.instr pc = (ClassFile.Reader.u1 >>= M) ∧ M b.toNat = (do Pure.pure (f (← ClassFile.Reader.u1)))) (h0 : c.data.toList[pc]? = some b) (h1 : c.data.toList[pc + 1]? = some x) (e : x.toNat = n) : decode c pc = .ok (f n, 2) := by
  refine dk_n hM h0 ?_
  show Except.bind ((ClassFile.Reader.u1 : ClassFile.Decoder Nat) c (pc + 1)) (fun q => Except.ok (f q.1, q.2)) = _
  rw [u1_at h1, ← e]
  rfl
theorem dk_s1 {c : ByteArray} {pc : Nat} {n : Int} {b x : UInt8} {f : Int → ClassFile.Instr} (hM : ∃ M : Nat → ClassFile.Decoder ClassFile.Instr, ClassFile.Decoder.instr pc = (ClassFile.Reader.u1 >>= M) ∧ M b.toNat = (do Pure.pure (f (← ClassFile.Reader.s1)))) (h0 : c.data.toList[pc]? = some b) (h1 : c.data.toList[pc + 1]? = some x) (e : ClassFile.Reader.signed 8 x.toNat = n) : decode c pc = .ok (f n, 2) := by
  refine dk_n hM h0 ?_
  show Except.bind (Except.bind ((ClassFile.Reader.u1 : ClassFile.Decoder Nat) c (pc + 1)) (fun q => Except.ok (ClassFile.Reader.signed 8 q.1, q.2))) (fun q => Except.ok (f q.1, q.2)) = _
  rw [u1_at h1, ← e]
  rfl
theorem u2_at {c : ByteArray} {p : Nat} {x y : UInt8} (h0 : c.data.toList[p]? = some x) (h1 : c.data.toList[p + 1]? = some y) : (ClassFile.Reader.u2 : ClassFile.Decoder Nat) c p = .ok (x.toNat * 256 + y.toNat, p + 2) := by
  show Except.bind ((ClassFile.Reader.u1 : ClassFile.Decoder Nat) c p) (fun q => Except.bind ((ClassFile.Reader.u1 : ClassFile.Decoder Nat) c q.2) (fun r => Except.ok (q.1 * 256 + r.1, r.2))) = _
  rw [u1_at h0]
  show Except.bind ((ClassFile.Reader.u1 : ClassFile.Decoder Nat) c (p + 1)) (fun r => Except.ok (x.toNat * 256 + r.1, r.2)) = _
  rw [u1_at h1]
  rfl
theorem dk_u2 {c : ByteArray} {pc n : Nat} {b x y : UInt8} {f : Nat → ClassFile.Instr} (hM : ∃ M : Nat → ClassFile.Decoder ClassFile.Instr, ClassFile.Decoder.instr pc = (ClassFile.Reader.u1 >>= M) ∧ M b.toNat = (do Pure.pure (f (← ClassFile.Reader.u2)))) (h0 : c.data.toList[pc]? = some b) (h1 : c.data.toList[pc + 1]? = some x) (h2 : c.data.toList[pc + 2]? = some y) (e : x.toNat * 256 + y.toNat = n) : decode c pc = .ok (f n, 3) := by
  refine dk_n hM h0 ?_
  show Except.bind ((ClassFile.Reader.u2 : ClassFile.Decoder Nat) c (pc + 1)) (fun q => Except.ok (f q.1, q.2)) = _
  rw [u2_at h1 h2, ← e]
  rfl
theorem dk_s2 {c : ByteArray} {pc : Nat} {n : Int} {b x y : UInt8} {f : Int → ClassFile.Instr} (hM : ∃ M : Nat → ClassFile.Decoder ClassFile.Instr, ClassFile.Decoder.instr pc = (ClassFile.Reader.u1 >>= M) ∧ M b.toNat = (do Pure.pure (f (← ClassFile.Reader.s2)))) (h0 : c.data.toList[pc]? = some b) (h1 : c.data.toList[pc + 1]? = some x) (h2 : c.data.toList[pc + 2]? = some y) (e : ClassFile.Reader.signed 16 (x.toNat * 256 + y.toNat) = n) : decode c pc = .ok (f n, 3) := by
  refine dk_n hM h0 ?_
  show Except.bind (Except.bind ((ClassFile.Reader.u2 : ClassFile.Decoder Nat) c (pc + 1)) (fun q => Except.ok (ClassFile.Reader.signed 16 q.1, q.2))) (fun q => Except.ok (f q.1, q.2)) = _
  rw [u2_at h1 h2, ← e]
  rfl
theorem dk_us {c : ByteArray} {pc n : Nat} {m : Int} {b x y : UInt8} {f : Nat → Int → ClassFile.Instr} (hM : ∃ M : Nat → ClassFile.Decoder ClassFile.Instr, ClassFile.Decoder.instr pc = (ClassFile.Reader.u1 >>= M) ∧ M b.toNat = (do Pure.pure (f (← ClassFile.Reader.u1) (← ClassFile.Reader.s1)))) (h0 : c.data.toList[pc]? = some b) (h1 : c.data.toList[pc + 1]? = some x) (h2 : c.data.toList[pc + 2]? = some y) (e : x.toNat = n) (e2 : ClassFile.Reader.signed 8 y.toNat = m) : decode c pc = .ok (f n m, 3) := by
  refine dk_n hM h0 ?_
  show Except.bind ((ClassFile.Reader.u1 : ClassFile.Decoder Nat) c (pc + 1)) (fun q => Except.bind (Except.bind ((ClassFile.Reader.u1 : ClassFile.Decoder Nat) c q.2) (fun r => Except.ok (ClassFile.Reader.signed 8 r.1, r.2))) (fun r => Except.ok (f q.1 r.1, r.2))) = _
  rw [u1_at h1]
  show Except.bind (Except.bind ((ClassFile.Reader.u1 : ClassFile.Decoder Nat) c (pc + 1 + 1)) (fun r => Except.ok (ClassFile.Reader.signed 8 r.1, r.2))) (fun r => Except.ok (f x.toNat r.1, r.2)) = _
  rw [u1_at h2, ← e, ← e2]
  rfl
/-- the bytes from a place on -/
theorem dt0 {l r : List UInt8} {k : Nat} {b : UInt8} (h : l.drop k = b :: r) : l[k]? = some b := by
  have e : (l.drop k)[0]? = some b := by rw [h]; rfl
  rw [List.getElem?_drop] at e
  exact e
theorem dt1 {l r : List UInt8} {k : Nat} {b x : UInt8} (h : l.drop k = b :: x :: r) : l[k + 1]? = some x := by
  have e : (l.drop k)[1]? = some x := by rw [h]; rfl
  rw [List.getElem?_drop] at e
  exact e
theorem dt2 {l r : List UInt8} {k : Nat} {b x y : UInt8} (h : l.drop k = b :: x :: y :: r) : l[k + 2]? = some y := by
  have e : (l.drop k)[2]? = some y := by rw [h]; rfl
  rw [List.getElem?_drop] at e
  exact e
theorem dn1 {l r : List UInt8} {k : Nat} {b : UInt8} (h : l.drop k = b :: r) : l.drop (k + 1) = r := by
  rw [← List.drop_drop, h]; rfl
theorem dn2 {l r : List UInt8} {k : Nat} {b x : UInt8} (h : l.drop k = b :: x :: r) : l.drop (k + 2) = r := by
  rw [← List.drop_drop, h]; rfl
theorem dn3 {l r : List UInt8} {k : Nat} {b x y : UInt8} (h : l.drop k = b :: x :: y :: r) : l.drop (k + 3) = r := by
  rw [← List.drop_drop, h]; rfl
theorem dnl {l a r : List UInt8} {k n : Nat} (h : l.drop k = a ++ r) (ha : a.length = n) : l.drop (k + n) = r := by
  rw [← List.drop_drop, h, ← ha]; exact List.drop_left
theorem dk2 {c : ByteArray} {pc : Nat} {r : List UInt8} (h : c.data.toList.drop pc = 2 :: r) : decode c pc = .ok (.iconst (-1), 1) := dk_0 ⟨_, rfl, rfl⟩ (dt0 h)
theorem dk3 {c : ByteArray} {pc : Nat} {r : List UInt8} (h : c.data.toList.drop pc = 3 :: r) : decode c pc = .ok (.iconst 0, 1) := dk_0 ⟨_, rfl, rfl⟩ (dt0 h)
theorem dk4 {c : ByteArray} {pc : Nat} {r : List UInt8} (h : c.data.toList.drop pc = 4 :: r) : decode c pc = .ok (.iconst 1, 1) := dk_0 ⟨_, rfl, rfl⟩ (dt0 h)
theorem dk5 {c : ByteArray} {pc : Nat} {r : List UInt8} (h : c.data.toList.drop pc = 5 :: r) : decode c pc = .ok (.iconst 2, 1) := dk_0 ⟨_, rfl, rfl⟩ (dt0 h)
theorem dk6 {c : ByteArray} {pc : Nat} {r : List UInt8} (h : c.data.toList.drop pc = 6 :: r) : decode c pc = .ok (.iconst 3, 1) := dk_0 ⟨_, rfl, rfl⟩ (dt0 h)
theorem dk7 {c : ByteArray} {pc : Nat} {r : List UInt8} (h : c.data.toList.drop pc = 7 :: r) : decode c pc = .ok (.iconst 4, 1) := dk_0 ⟨_, rfl, rfl⟩ (dt0 h)
theorem dk8 {c : ByteArray} {pc : Nat} {r : List UInt8} (h : c.data.toList.drop pc = 8 :: r) : decode c pc = .ok (.iconst 5, 1) := dk_0 ⟨_, rfl, rfl⟩ (dt0 h)
theorem dk9 {c : ByteArray} {pc : Nat} {r : List UInt8} (h : c.data.toList.drop pc = 9 :: r) : decode c pc = .ok (.lconst 0, 1) := dk_0 ⟨_, rfl, rfl⟩ (dt0 h)
theorem dk10 {c : ByteArray} {pc : Nat} {r : List UInt8} (h : c.data.toList.drop pc = 10 :: r) : decode c pc = .ok (.lconst 1, 1) := dk_0 ⟨_, rfl, rfl⟩ (dt0 h)
theorem dk26 {c : ByteArray} {pc : Nat} {r : List UInt8} (h : c.data.toList.drop pc = 26 :: r) : decode c pc = .ok (.iload_n 0, 1) := dk_0 ⟨_, rfl, rfl⟩ (dt0 h)
theorem dk27 {c : ByteArray} {pc : Nat} {r : List UInt8} (h : c.data.toList.drop pc = 27 :: r) : decode c pc = .ok (.iload_n 1, 1) := dk_0 ⟨_, rfl, rfl⟩ (dt0 h)
theorem dk28 {c : ByteArray} {pc : Nat} {r : List UInt8} (h : c.data.toList.drop pc = 28 :: r) : decode c pc = .ok (.iload_n 2, 1) := dk_0 ⟨_, rfl, rfl⟩ (dt0 h)
theorem dk29 {c : ByteArray} {pc : Nat} {r : List UInt8} (h : c.data.toList.drop pc = 29 :: r) : decode c pc = .ok (.iload_n 3, 1) := dk_0 ⟨_, rfl, rfl⟩ (dt0 h)
theorem dk30 {c : ByteArray} {pc : Nat} {r : List UInt8} (h : c.data.toList.drop pc = 30 :: r) : decode c pc = .ok (.lload_n 0, 1) := dk_0 ⟨_, rfl, rfl⟩ (dt0 h)
theorem dk31 {c : ByteArray} {pc : Nat} {r : List UInt8} (h : c.data.toList.drop pc = 31 :: r) : decode c pc = .ok (.lload_n 1, 1) := dk_0 ⟨_, rfl, rfl⟩ (dt0 h)
theorem dk32 {c : ByteArray} {pc : Nat} {r : List UInt8} (h : c.data.toList.drop pc = 32 :: r) : decode c pc = .ok (.lload_n 2, 1) := dk_0 ⟨_, rfl, rfl⟩ (dt0 h)
theorem dk33 {c : ByteArray} {pc : Nat} {r : List UInt8} (h : c.data.toList.drop pc = 33 :: r) : decode c pc = .ok (.lload_n 3, 1) := dk_0 ⟨_, rfl, rfl⟩ (dt0 h)
theorem dk42 {c : ByteArray} {pc : Nat} {r : List UInt8} (h : c.data.toList.drop pc = 42 :: r) : decode c pc = .ok (.aload_n 0, 1) := dk_0 ⟨_, rfl, rfl⟩ (dt0 h)
theorem dk43 {c : ByteArray} {pc : Nat} {r : List UInt8} (h : c.data.toList.drop pc = 43 :: r) : decode c pc = .ok (.aload_n 1, 1) := dk_0 ⟨_, rfl, rfl⟩ (dt0 h)
theorem dk44 {c : ByteArray} {pc : Nat} {r : List UInt8} (h : c.data.toList.drop pc = 44 :: r) : decode c pc = .ok (.aload_n 2, 1) := dk_0 ⟨_, rfl, rfl⟩ (dt0 h)
theorem dk45 {c : ByteArray} {pc : Nat} {r : List UInt8} (h : c.data.toList.drop pc = 45 :: r) : decode c pc = .ok (.aload_n 3, 1) := dk_0 ⟨_, rfl, rfl⟩ (dt0 h)
theorem dk59 {c : ByteArray} {pc : Nat} {r : List UInt8} (h : c.data.toList.drop pc = 59 :: r) : decode c pc = .ok (.istore_n 0, 1) := dk_0 ⟨_, rfl, rfl⟩ (dt0 h)
theorem dk60 {c : ByteArray} {pc : Nat} {r : List UInt8} (h : c.data.toList.drop pc = 60 :: r) : decode c pc = .ok (.istore_n 1, 1) := dk_0 ⟨_, rfl, rfl⟩ (dt0 h)
theorem dk61 {c : ByteArray} {pc : Nat} {r : List UInt8} (h : c.data.toList.drop pc = 61 :: r) : decode c pc = .ok (.istore_n 2, 1) := dk_0 ⟨_, rfl, rfl⟩ (dt0 h)
theorem dk62 {c : ByteArray} {pc : Nat} {r : List UInt8} (h : c.data.toList.drop pc = 62 :: r) : decode c pc = .ok (.istore_n 3, 1) := dk_0 ⟨_, rfl, rfl⟩ (dt0 h)
theorem dk63 {c : ByteArray} {pc : Nat} {r : List UInt8} (h : c.data.toList.drop pc = 63 :: r) : decode c pc = .ok (.lstore_n 0, 1) := dk_0 ⟨_, rfl, rfl⟩ (dt0 h)
theorem dk64 {c : ByteArray} {pc : Nat} {r : List UInt8} (h : c.data.toList.drop pc = 64 :: r) : decode c pc = .ok (.lstore_n 1, 1) := dk_0 ⟨_, rfl, rfl⟩ (dt0 h)
theorem dk65 {c : ByteArray} {pc : Nat} {r : List UInt8} (h : c.data.toList.drop pc = 65 :: r) : decode c pc = .ok (.lstore_n 2, 1) := dk_0 ⟨_, rfl, rfl⟩ (dt0 h)
theorem dk66 {c : ByteArray} {pc : Nat} {r : List UInt8} (h : c.data.toList.drop pc = 66 :: r) : decode c pc = .ok (.lstore_n 3, 1) := dk_0 ⟨_, rfl, rfl⟩ (dt0 h)
theorem dk75 {c : ByteArray} {pc : Nat} {r : List UInt8} (h : c.data.toList.drop pc = 75 :: r) : decode c pc = .ok (.astore_n 0, 1) := dk_0 ⟨_, rfl, rfl⟩ (dt0 h)
theorem dk76 {c : ByteArray} {pc : Nat} {r : List UInt8} (h : c.data.toList.drop pc = 76 :: r) : decode c pc = .ok (.astore_n 1, 1) := dk_0 ⟨_, rfl, rfl⟩ (dt0 h)
theorem dk77 {c : ByteArray} {pc : Nat} {r : List UInt8} (h : c.data.toList.drop pc = 77 :: r) : decode c pc = .ok (.astore_n 2, 1) := dk_0 ⟨_, rfl, rfl⟩ (dt0 h)
theorem dk78 {c : ByteArray} {pc : Nat} {r : List UInt8} (h : c.data.toList.drop pc = 78 :: r) : decode c pc = .ok (.astore_n 3, 1) := dk_0 ⟨_, rfl, rfl⟩ (dt0 h)
theorem dk46 {c : ByteArray} {pc : Nat} {r : List UInt8} (h : c.data.toList.drop pc = 46 :: r) : decode c pc = .ok (.iaload, 1) := dk_0 ⟨_, rfl, rfl⟩ (dt0 h)
theorem dk47 {c : ByteArray} {pc : Nat} {r : List UInt8} (h : c.data.toList.drop pc = 47 :: r) : decode c pc = .ok (.laload, 1) := dk_0 ⟨_, rfl, rfl⟩ (dt0 h)
theorem dk50 {c : ByteArray} {pc : Nat} {r : List UInt8} (h : c.data.toList.drop pc = 50 :: r) : decode c pc = .ok (.aaload, 1) := dk_0 ⟨_, rfl, rfl⟩ (dt0 h)
theorem dk51 {c : ByteArray} {pc : Nat} {r : List UInt8} (h : c.data.toList.drop pc = 51 :: r) : decode c pc = .ok (.baload, 1) := dk_0 ⟨_, rfl, rfl⟩ (dt0 h)
theorem dk79 {c : ByteArray} {pc : Nat} {r : List UInt8} (h : c.data.toList.drop pc = 79 :: r) : decode c pc = .ok (.iastore, 1) := dk_0 ⟨_, rfl, rfl⟩ (dt0 h)
theorem dk80 {c : ByteArray} {pc : Nat} {r : List UInt8} (h : c.data.toList.drop pc = 80 :: r) : decode c pc = .ok (.lastore, 1) := dk_0 ⟨_, rfl, rfl⟩ (dt0 h)
theorem dk83 {c : ByteArray} {pc : Nat} {r : List UInt8} (h : c.data.toList.drop pc = 83 :: r) : decode c pc = .ok (.aastore, 1) := dk_0 ⟨_, rfl, rfl⟩ (dt0 h)
theorem dk84 {c : ByteArray} {pc : Nat} {r : List UInt8} (h : c.data.toList.drop pc = 84 :: r) : decode c pc = .ok (.bastore, 1) := dk_0 ⟨_, rfl, rfl⟩ (dt0 h)
theorem dk87 {c : ByteArray} {pc : Nat} {r : List UInt8} (h : c.data.toList.drop pc = 87 :: r) : decode c pc = .ok (.pop, 1) := dk_0 ⟨_, rfl, rfl⟩ (dt0 h)
theorem dk88 {c : ByteArray} {pc : Nat} {r : List UInt8} (h : c.data.toList.drop pc = 88 :: r) : decode c pc = .ok (.pop2, 1) := dk_0 ⟨_, rfl, rfl⟩ (dt0 h)
theorem dk89 {c : ByteArray} {pc : Nat} {r : List UInt8} (h : c.data.toList.drop pc = 89 :: r) : decode c pc = .ok (.dup, 1) := dk_0 ⟨_, rfl, rfl⟩ (dt0 h)
theorem dk90 {c : ByteArray} {pc : Nat} {r : List UInt8} (h : c.data.toList.drop pc = 90 :: r) : decode c pc = .ok (.dup_x1, 1) := dk_0 ⟨_, rfl, rfl⟩ (dt0 h)
theorem dk92 {c : ByteArray} {pc : Nat} {r : List UInt8} (h : c.data.toList.drop pc = 92 :: r) : decode c pc = .ok (.dup2, 1) := dk_0 ⟨_, rfl, rfl⟩ (dt0 h)
theorem dk96 {c : ByteArray} {pc : Nat} {r : List UInt8} (h : c.data.toList.drop pc = 96 :: r) : decode c pc = .ok (.iadd, 1) := dk_0 ⟨_, rfl, rfl⟩ (dt0 h)
theorem dk97 {c : ByteArray} {pc : Nat} {r : List UInt8} (h : c.data.toList.drop pc = 97 :: r) : decode c pc = .ok (.ladd, 1) := dk_0 ⟨_, rfl, rfl⟩ (dt0 h)
theorem dk100 {c : ByteArray} {pc : Nat} {r : List UInt8} (h : c.data.toList.drop pc = 100 :: r) : decode c pc = .ok (.isub, 1) := dk_0 ⟨_, rfl, rfl⟩ (dt0 h)
theorem dk101 {c : ByteArray} {pc : Nat} {r : List UInt8} (h : c.data.toList.drop pc = 101 :: r) : decode c pc = .ok (.lsub, 1) := dk_0 ⟨_, rfl, rfl⟩ (dt0 h)
theorem dk104 {c : ByteArray} {pc : Nat} {r : List UInt8} (h : c.data.toList.drop pc = 104 :: r) : decode c pc = .ok (.imul, 1) := dk_0 ⟨_, rfl, rfl⟩ (dt0 h)
theorem dk105 {c : ByteArray} {pc : Nat} {r : List UInt8} (h : c.data.toList.drop pc = 105 :: r) : decode c pc = .ok (.lmul, 1) := dk_0 ⟨_, rfl, rfl⟩ (dt0 h)
theorem dk108 {c : ByteArray} {pc : Nat} {r : List UInt8} (h : c.data.toList.drop pc = 108 :: r) : decode c pc = .ok (.idiv, 1) := dk_0 ⟨_, rfl, rfl⟩ (dt0 h)
theorem dk109 {c : ByteArray} {pc : Nat} {r : List UInt8} (h : c.data.toList.drop pc = 109 :: r) : decode c pc = .ok (.ldiv, 1) := dk_0 ⟨_, rfl, rfl⟩ (dt0 h)
theorem dk112 {c : ByteArray} {pc : Nat} {r : List UInt8} (h : c.data.toList.drop pc = 112 :: r) : decode c pc = .ok (.irem, 1) := dk_0 ⟨_, rfl, rfl⟩ (dt0 h)
theorem dk113 {c : ByteArray} {pc : Nat} {r : List UInt8} (h : c.data.toList.drop pc = 113 :: r) : decode c pc = .ok (.lrem, 1) := dk_0 ⟨_, rfl, rfl⟩ (dt0 h)
theorem dk116 {c : ByteArray} {pc : Nat} {r : List UInt8} (h : c.data.toList.drop pc = 116 :: r) : decode c pc = .ok (.ineg, 1) := dk_0 ⟨_, rfl, rfl⟩ (dt0 h)
theorem dk120 {c : ByteArray} {pc : Nat} {r : List UInt8} (h : c.data.toList.drop pc = 120 :: r) : decode c pc = .ok (.ishl, 1) := dk_0 ⟨_, rfl, rfl⟩ (dt0 h)
theorem dk122 {c : ByteArray} {pc : Nat} {r : List UInt8} (h : c.data.toList.drop pc = 122 :: r) : decode c pc = .ok (.ishr, 1) := dk_0 ⟨_, rfl, rfl⟩ (dt0 h)
theorem dk124 {c : ByteArray} {pc : Nat} {r : List UInt8} (h : c.data.toList.drop pc = 124 :: r) : decode c pc = .ok (.iushr, 1) := dk_0 ⟨_, rfl, rfl⟩ (dt0 h)
theorem dk126 {c : ByteArray} {pc : Nat} {r : List UInt8} (h : c.data.toList.drop pc = 126 :: r) : decode c pc = .ok (.iand, 1) := dk_0 ⟨_, rfl, rfl⟩ (dt0 h)
theorem dk128 {c : ByteArray} {pc : Nat} {r : List UInt8} (h : c.data.toList.drop pc = 128 :: r) : decode c pc = .ok (.ior, 1) := dk_0 ⟨_, rfl, rfl⟩ (dt0 h)
theorem dk130 {c : ByteArray} {pc : Nat} {r : List UInt8} (h : c.data.toList.drop pc = 130 :: r) : decode c pc = .ok (.ixor, 1) := dk_0 ⟨_, rfl, rfl⟩ (dt0 h)
theorem dk133 {c : ByteArray} {pc : Nat} {r : List UInt8} (h : c.data.toList.drop pc = 133 :: r) : decode c pc = .ok (.i2l, 1) := dk_0 ⟨_, rfl, rfl⟩ (dt0 h)
theorem dk145 {c : ByteArray} {pc : Nat} {r : List UInt8} (h : c.data.toList.drop pc = 145 :: r) : decode c pc = .ok (.i2b, 1) := dk_0 ⟨_, rfl, rfl⟩ (dt0 h)
theorem dk146 {c : ByteArray} {pc : Nat} {r : List UInt8} (h : c.data.toList.drop pc = 146 :: r) : decode c pc = .ok (.i2c, 1) := dk_0 ⟨_, rfl, rfl⟩ (dt0 h)
theorem dk148 {c : ByteArray} {pc : Nat} {r : List UInt8} (h : c.data.toList.drop pc = 148 :: r) : decode c pc = .ok (.lcmp, 1) := dk_0 ⟨_, rfl, rfl⟩ (dt0 h)
theorem dk172 {c : ByteArray} {pc : Nat} {r : List UInt8} (h : c.data.toList.drop pc = 172 :: r) : decode c pc = .ok (.ireturn, 1) := dk_0 ⟨_, rfl, rfl⟩ (dt0 h)
theorem dk173 {c : ByteArray} {pc : Nat} {r : List UInt8} (h : c.data.toList.drop pc = 173 :: r) : decode c pc = .ok (.lreturn, 1) := dk_0 ⟨_, rfl, rfl⟩ (dt0 h)
theorem dk176 {c : ByteArray} {pc : Nat} {r : List UInt8} (h : c.data.toList.drop pc = 176 :: r) : decode c pc = .ok (.areturn, 1) := dk_0 ⟨_, rfl, rfl⟩ (dt0 h)
theorem dk177 {c : ByteArray} {pc : Nat} {r : List UInt8} (h : c.data.toList.drop pc = 177 :: r) : decode c pc = .ok (.return_, 1) := dk_0 ⟨_, rfl, rfl⟩ (dt0 h)
theorem dk190 {c : ByteArray} {pc : Nat} {r : List UInt8} (h : c.data.toList.drop pc = 190 :: r) : decode c pc = .ok (.arraylength, 1) := dk_0 ⟨_, rfl, rfl⟩ (dt0 h)
theorem dk191 {c : ByteArray} {pc : Nat} {r : List UInt8} (h : c.data.toList.drop pc = 191 :: r) : decode c pc = .ok (.athrow, 1) := dk_0 ⟨_, rfl, rfl⟩ (dt0 h)
theorem dk18 {c : ByteArray} {pc : Nat} {r : List UInt8} {n : Nat} {x : UInt8} (h : c.data.toList.drop pc = 18 :: x :: r) (e : x.toNat = n) : decode c pc = .ok (.ldc n, 2) := dk_u1 (f := fun n => .ldc n) ⟨_, rfl, rfl⟩ (dt0 h) (dt1 h) e
theorem dk21 {c : ByteArray} {pc : Nat} {r : List UInt8} {n : Nat} {x : UInt8} (h : c.data.toList.drop pc = 21 :: x :: r) (e : x.toNat = n) : decode c pc = .ok (.iload n, 2) := dk_u1 (f := fun n => .iload n) ⟨_, rfl, rfl⟩ (dt0 h) (dt1 h) e
theorem dk22 {c : ByteArray} {pc : Nat} {r : List UInt8} {n : Nat} {x : UInt8} (h : c.data.toList.drop pc = 22 :: x :: r) (e : x.toNat = n) : decode c pc = .ok (.lload n, 2) := dk_u1 (f := fun n => .lload n) ⟨_, rfl, rfl⟩ (dt0 h) (dt1 h) e
theorem dk25 {c : ByteArray} {pc : Nat} {r : List UInt8} {n : Nat} {x : UInt8} (h : c.data.toList.drop pc = 25 :: x :: r) (e : x.toNat = n) : decode c pc = .ok (.aload n, 2) := dk_u1 (f := fun n => .aload n) ⟨_, rfl, rfl⟩ (dt0 h) (dt1 h) e
theorem dk54 {c : ByteArray} {pc : Nat} {r : List UInt8} {n : Nat} {x : UInt8} (h : c.data.toList.drop pc = 54 :: x :: r) (e : x.toNat = n) : decode c pc = .ok (.istore n, 2) := dk_u1 (f := fun n => .istore n) ⟨_, rfl, rfl⟩ (dt0 h) (dt1 h) e
theorem dk55 {c : ByteArray} {pc : Nat} {r : List UInt8} {n : Nat} {x : UInt8} (h : c.data.toList.drop pc = 55 :: x :: r) (e : x.toNat = n) : decode c pc = .ok (.lstore n, 2) := dk_u1 (f := fun n => .lstore n) ⟨_, rfl, rfl⟩ (dt0 h) (dt1 h) e
theorem dk58 {c : ByteArray} {pc : Nat} {r : List UInt8} {n : Nat} {x : UInt8} (h : c.data.toList.drop pc = 58 :: x :: r) (e : x.toNat = n) : decode c pc = .ok (.astore n, 2) := dk_u1 (f := fun n => .astore n) ⟨_, rfl, rfl⟩ (dt0 h) (dt1 h) e
theorem dk16 {c : ByteArray} {pc : Nat} {r : List UInt8} {n : Int} {x : UInt8} (h : c.data.toList.drop pc = 16 :: x :: r) (e : ClassFile.Reader.signed 8 x.toNat = n) : decode c pc = .ok (.bipush n, 2) := dk_s1 (f := fun n => .bipush n) ⟨_, rfl, rfl⟩ (dt0 h) (dt1 h) e
theorem dk19 {c : ByteArray} {pc : Nat} {r : List UInt8} {n : Nat} {x y : UInt8} (h : c.data.toList.drop pc = 19 :: x :: y :: r) (e : x.toNat * 256 + y.toNat = n) : decode c pc = .ok (.ldc_w n, 3) := dk_u2 (f := fun n => .ldc_w n) ⟨_, rfl, rfl⟩ (dt0 h) (dt1 h) (dt2 h) e
theorem dk20 {c : ByteArray} {pc : Nat} {r : List UInt8} {n : Nat} {x y : UInt8} (h : c.data.toList.drop pc = 20 :: x :: y :: r) (e : x.toNat * 256 + y.toNat = n) : decode c pc = .ok (.ldc2_w n, 3) := dk_u2 (f := fun n => .ldc2_w n) ⟨_, rfl, rfl⟩ (dt0 h) (dt1 h) (dt2 h) e
theorem dk178 {c : ByteArray} {pc : Nat} {r : List UInt8} {n : Nat} {x y : UInt8} (h : c.data.toList.drop pc = 178 :: x :: y :: r) (e : x.toNat * 256 + y.toNat = n) : decode c pc = .ok (.getstatic n, 3) := dk_u2 (f := fun n => .getstatic n) ⟨_, rfl, rfl⟩ (dt0 h) (dt1 h) (dt2 h) e
theorem dk179 {c : ByteArray} {pc : Nat} {r : List UInt8} {n : Nat} {x y : UInt8} (h : c.data.toList.drop pc = 179 :: x :: y :: r) (e : x.toNat * 256 + y.toNat = n) : decode c pc = .ok (.putstatic n, 3) := dk_u2 (f := fun n => .putstatic n) ⟨_, rfl, rfl⟩ (dt0 h) (dt1 h) (dt2 h) e
theorem dk180 {c : ByteArray} {pc : Nat} {r : List UInt8} {n : Nat} {x y : UInt8} (h : c.data.toList.drop pc = 180 :: x :: y :: r) (e : x.toNat * 256 + y.toNat = n) : decode c pc = .ok (.getfield n, 3) := dk_u2 (f := fun n => .getfield n) ⟨_, rfl, rfl⟩ (dt0 h) (dt1 h) (dt2 h) e
theorem dk181 {c : ByteArray} {pc : Nat} {r : List UInt8} {n : Nat} {x y : UInt8} (h : c.data.toList.drop pc = 181 :: x :: y :: r) (e : x.toNat * 256 + y.toNat = n) : decode c pc = .ok (.putfield n, 3) := dk_u2 (f := fun n => .putfield n) ⟨_, rfl, rfl⟩ (dt0 h) (dt1 h) (dt2 h) e
theorem dk182 {c : ByteArray} {pc : Nat} {r : List UInt8} {n : Nat} {x y : UInt8} (h : c.data.toList.drop pc = 182 :: x :: y :: r) (e : x.toNat * 256 + y.toNat = n) : decode c pc = .ok (.invokevirtual n, 3) := dk_u2 (f := fun n => .invokevirtual n) ⟨_, rfl, rfl⟩ (dt0 h) (dt1 h) (dt2 h) e
theorem dk183 {c : ByteArray} {pc : Nat} {r : List UInt8} {n : Nat} {x y : UInt8} (h : c.data.toList.drop pc = 183 :: x :: y :: r) (e : x.toNat * 256 + y.toNat = n) : decode c pc = .ok (.invokespecial n, 3) := dk_u2 (f := fun n => .invokespecial n) ⟨_, rfl, rfl⟩ (dt0 h) (dt1 h) (dt2 h) e
theorem dk184 {c : ByteArray} {pc : Nat} {r : List UInt8} {n : Nat} {x y : UInt8} (h : c.data.toList.drop pc = 184 :: x :: y :: r) (e : x.toNat * 256 + y.toNat = n) : decode c pc = .ok (.invokestatic n, 3) := dk_u2 (f := fun n => .invokestatic n) ⟨_, rfl, rfl⟩ (dt0 h) (dt1 h) (dt2 h) e
theorem dk187 {c : ByteArray} {pc : Nat} {r : List UInt8} {n : Nat} {x y : UInt8} (h : c.data.toList.drop pc = 187 :: x :: y :: r) (e : x.toNat * 256 + y.toNat = n) : decode c pc = .ok (.new n, 3) := dk_u2 (f := fun n => .new n) ⟨_, rfl, rfl⟩ (dt0 h) (dt1 h) (dt2 h) e
theorem dk189 {c : ByteArray} {pc : Nat} {r : List UInt8} {n : Nat} {x y : UInt8} (h : c.data.toList.drop pc = 189 :: x :: y :: r) (e : x.toNat * 256 + y.toNat = n) : decode c pc = .ok (.anewarray n, 3) := dk_u2 (f := fun n => .anewarray n) ⟨_, rfl, rfl⟩ (dt0 h) (dt1 h) (dt2 h) e
theorem dk17 {c : ByteArray} {pc : Nat} {r : List UInt8} {n : Int} {x y : UInt8} (h : c.data.toList.drop pc = 17 :: x :: y :: r) (e : ClassFile.Reader.signed 16 (x.toNat * 256 + y.toNat) = n) : decode c pc = .ok (.sipush n, 3) := dk_s2 (f := fun n => .sipush n) ⟨_, rfl, rfl⟩ (dt0 h) (dt1 h) (dt2 h) e
theorem dk167 {c : ByteArray} {pc : Nat} {r : List UInt8} {n : Int} {x y : UInt8} (h : c.data.toList.drop pc = 167 :: x :: y :: r) (e : ClassFile.Reader.signed 16 (x.toNat * 256 + y.toNat) = n) : decode c pc = .ok (.goto n, 3) := dk_s2 (f := fun n => .goto n) ⟨_, rfl, rfl⟩ (dt0 h) (dt1 h) (dt2 h) e
theorem dk153 {c : ByteArray} {pc : Nat} {r : List UInt8} {n : Int} {x y : UInt8} (h : c.data.toList.drop pc = 153 :: x :: y :: r) (e : ClassFile.Reader.signed 16 (x.toNat * 256 + y.toNat) = n) : decode c pc = .ok (.ifCond .eq n, 3) := dk_s2 (f := fun n => .ifCond .eq n) ⟨_, rfl, rfl⟩ (dt0 h) (dt1 h) (dt2 h) e
theorem dk159 {c : ByteArray} {pc : Nat} {r : List UInt8} {n : Int} {x y : UInt8} (h : c.data.toList.drop pc = 159 :: x :: y :: r) (e : ClassFile.Reader.signed 16 (x.toNat * 256 + y.toNat) = n) : decode c pc = .ok (.if_icmp .eq n, 3) := dk_s2 (f := fun n => .if_icmp .eq n) ⟨_, rfl, rfl⟩ (dt0 h) (dt1 h) (dt2 h) e
theorem dk154 {c : ByteArray} {pc : Nat} {r : List UInt8} {n : Int} {x y : UInt8} (h : c.data.toList.drop pc = 154 :: x :: y :: r) (e : ClassFile.Reader.signed 16 (x.toNat * 256 + y.toNat) = n) : decode c pc = .ok (.ifCond .ne n, 3) := dk_s2 (f := fun n => .ifCond .ne n) ⟨_, rfl, rfl⟩ (dt0 h) (dt1 h) (dt2 h) e
theorem dk160 {c : ByteArray} {pc : Nat} {r : List UInt8} {n : Int} {x y : UInt8} (h : c.data.toList.drop pc = 160 :: x :: y :: r) (e : ClassFile.Reader.signed 16 (x.toNat * 256 + y.toNat) = n) : decode c pc = .ok (.if_icmp .ne n, 3) := dk_s2 (f := fun n => .if_icmp .ne n) ⟨_, rfl, rfl⟩ (dt0 h) (dt1 h) (dt2 h) e
theorem dk155 {c : ByteArray} {pc : Nat} {r : List UInt8} {n : Int} {x y : UInt8} (h : c.data.toList.drop pc = 155 :: x :: y :: r) (e : ClassFile.Reader.signed 16 (x.toNat * 256 + y.toNat) = n) : decode c pc = .ok (.ifCond .lt n, 3) := dk_s2 (f := fun n => .ifCond .lt n) ⟨_, rfl, rfl⟩ (dt0 h) (dt1 h) (dt2 h) e
theorem dk161 {c : ByteArray} {pc : Nat} {r : List UInt8} {n : Int} {x y : UInt8} (h : c.data.toList.drop pc = 161 :: x :: y :: r) (e : ClassFile.Reader.signed 16 (x.toNat * 256 + y.toNat) = n) : decode c pc = .ok (.if_icmp .lt n, 3) := dk_s2 (f := fun n => .if_icmp .lt n) ⟨_, rfl, rfl⟩ (dt0 h) (dt1 h) (dt2 h) e
theorem dk156 {c : ByteArray} {pc : Nat} {r : List UInt8} {n : Int} {x y : UInt8} (h : c.data.toList.drop pc = 156 :: x :: y :: r) (e : ClassFile.Reader.signed 16 (x.toNat * 256 + y.toNat) = n) : decode c pc = .ok (.ifCond .ge n, 3) := dk_s2 (f := fun n => .ifCond .ge n) ⟨_, rfl, rfl⟩ (dt0 h) (dt1 h) (dt2 h) e
theorem dk162 {c : ByteArray} {pc : Nat} {r : List UInt8} {n : Int} {x y : UInt8} (h : c.data.toList.drop pc = 162 :: x :: y :: r) (e : ClassFile.Reader.signed 16 (x.toNat * 256 + y.toNat) = n) : decode c pc = .ok (.if_icmp .ge n, 3) := dk_s2 (f := fun n => .if_icmp .ge n) ⟨_, rfl, rfl⟩ (dt0 h) (dt1 h) (dt2 h) e
theorem dk157 {c : ByteArray} {pc : Nat} {r : List UInt8} {n : Int} {x y : UInt8} (h : c.data.toList.drop pc = 157 :: x :: y :: r) (e : ClassFile.Reader.signed 16 (x.toNat * 256 + y.toNat) = n) : decode c pc = .ok (.ifCond .gt n, 3) := dk_s2 (f := fun n => .ifCond .gt n) ⟨_, rfl, rfl⟩ (dt0 h) (dt1 h) (dt2 h) e
theorem dk163 {c : ByteArray} {pc : Nat} {r : List UInt8} {n : Int} {x y : UInt8} (h : c.data.toList.drop pc = 163 :: x :: y :: r) (e : ClassFile.Reader.signed 16 (x.toNat * 256 + y.toNat) = n) : decode c pc = .ok (.if_icmp .gt n, 3) := dk_s2 (f := fun n => .if_icmp .gt n) ⟨_, rfl, rfl⟩ (dt0 h) (dt1 h) (dt2 h) e
theorem dk158 {c : ByteArray} {pc : Nat} {r : List UInt8} {n : Int} {x y : UInt8} (h : c.data.toList.drop pc = 158 :: x :: y :: r) (e : ClassFile.Reader.signed 16 (x.toNat * 256 + y.toNat) = n) : decode c pc = .ok (.ifCond .le n, 3) := dk_s2 (f := fun n => .ifCond .le n) ⟨_, rfl, rfl⟩ (dt0 h) (dt1 h) (dt2 h) e
theorem dk164 {c : ByteArray} {pc : Nat} {r : List UInt8} {n : Int} {x y : UInt8} (h : c.data.toList.drop pc = 164 :: x :: y :: r) (e : ClassFile.Reader.signed 16 (x.toNat * 256 + y.toNat) = n) : decode c pc = .ok (.if_icmp .le n, 3) := dk_s2 (f := fun n => .if_icmp .le n) ⟨_, rfl, rfl⟩ (dt0 h) (dt1 h) (dt2 h) e
theorem dk132 {c : ByteArray} {pc : Nat} {r : List UInt8} {n : Nat} {m : Int} {x y : UInt8} (h : c.data.toList.drop pc = 132 :: x :: y :: r) (e : x.toNat = n) (e2 : ClassFile.Reader.signed 8 y.toNat = m) : decode c pc = .ok (.iinc n m, 3) := dk_us (f := fun n m => .iinc n m) ⟨_, rfl, rfl⟩ (dt0 h) (dt1 h) (dt2 h) e e2

/-! DECODING: the bytes at a place say what is decoded there -/
theorem hz_bd {α β : Type} {r : Decoder β} {F : β → Decoder α} {b : ByteArray} {pc q : Nat} {v : β} (h : r b pc = .ok (v, q)) : (r >>= F) b pc = F v b q := by
  show Except.bind (r b pc) _ = _
  rw [h]
  rfl
theorem hz_dec {b : ByteArray} {pc n : Nat} {i : Instr} (h : Decoder.instr pc b pc = .ok (i, pc + n)) : decode b pc = .ok (i, n) := by
  have e : decode b pc = Except.bind (Decoder.instr pc b pc) (fun z => Except.ok (z.1, z.2 - pc)) := rfl
  rw [e, h]
  show Except.ok (i, pc + n - pc) = _
  rw [Nat.add_sub_cancel_left]
theorem hz_u1g {b : ByteArray} {pc : Nat} {x : UInt8} (h : b.data.toList[pc]? = some x) : (Reader.u1 : Decoder Nat) b pc = .ok (x.toNat, pc + 1) := by
  obtain ⟨hl, hx⟩ := List.getElem?_eq_some_iff.mp h
  have h1 : pc < b.size := hl
  have e : (Reader.u1 : Decoder Nat) b pc = (if h : pc < b.size then (do set (pc + 1); pure (b[pc]'h).toNat : Decoder Nat) else throw (HasTruncated.truncated pc)) b pc := rfl
  have h2 : b[pc]'h1 = x := hx
  rw [e, dif_pos h1, h2]
  rfl
theorem hz_u2g {b : ByteArray} {pc x y : Nat} (h0 : (Reader.u1 : Decoder Nat) b pc = .ok (x, pc + 1)) (h1 : (Reader.u1 : Decoder Nat) b (pc + 1) = .ok (y, pc + 2)) : (Reader.u2 : Decoder Nat) b pc = .ok (x * 256 + y, pc + 2) := (hz_bd h0).trans ((hz_bd h1).trans rfl)
theorem hz_s1g {b : ByteArray} {pc x : Nat} (h0 : (Reader.u1 : Decoder Nat) b pc = .ok (x, pc + 1)) : (Reader.s1 : Decoder Int) b pc = .ok (Reader.signed 8 x, pc + 1) := by
  show Except.bind ((Reader.u1 : Decoder Nat) b pc) _ = _
  rw [h0]
  rfl
theorem hz_s2g {b : ByteArray} {pc x : Nat} (h0 : (Reader.u2 : Decoder Nat) b pc = .ok (x, pc + 2)) : (Reader.s2 : Decoder Int) b pc = .ok (Reader.signed 16 x, pc + 2) := by
  show Except.bind ((Reader.u2 : Decoder Nat) b pc) _ = _
  rw [h0]
  rfl
theorem hz_e26 {b : ByteArray} {pc : Nat} (h : (Reader.u1 : Decoder Nat) b pc = .ok (26, pc + 1)) : Decoder.instr pc b pc = .ok (.iload_n 0, pc + 1) := (hz_bd h).trans rfl
theorem hz_e27 {b : ByteArray} {pc : Nat} (h : (Reader.u1 : Decoder Nat) b pc = .ok (27, pc + 1)) : Decoder.instr pc b pc = .ok (.iload_n 1, pc + 1) := (hz_bd h).trans rfl
theorem hz_e28 {b : ByteArray} {pc : Nat} (h : (Reader.u1 : Decoder Nat) b pc = .ok (28, pc + 1)) : Decoder.instr pc b pc = .ok (.iload_n 2, pc + 1) := (hz_bd h).trans rfl
theorem hz_e29 {b : ByteArray} {pc : Nat} (h : (Reader.u1 : Decoder Nat) b pc = .ok (29, pc + 1)) : Decoder.instr pc b pc = .ok (.iload_n 3, pc + 1) := (hz_bd h).trans rfl
theorem hz_e42 {b : ByteArray} {pc : Nat} (h : (Reader.u1 : Decoder Nat) b pc = .ok (42, pc + 1)) : Decoder.instr pc b pc = .ok (.aload_n 0, pc + 1) := (hz_bd h).trans rfl
theorem hz_e43 {b : ByteArray} {pc : Nat} (h : (Reader.u1 : Decoder Nat) b pc = .ok (43, pc + 1)) : Decoder.instr pc b pc = .ok (.aload_n 1, pc + 1) := (hz_bd h).trans rfl
theorem hz_e44 {b : ByteArray} {pc : Nat} (h : (Reader.u1 : Decoder Nat) b pc = .ok (44, pc + 1)) : Decoder.instr pc b pc = .ok (.aload_n 2, pc + 1) := (hz_bd h).trans rfl
theorem hz_e45 {b : ByteArray} {pc : Nat} (h : (Reader.u1 : Decoder Nat) b pc = .ok (45, pc + 1)) : Decoder.instr pc b pc = .ok (.aload_n 3, pc + 1) := (hz_bd h).trans rfl
theorem hz_e30 {b : ByteArray} {pc : Nat} (h : (Reader.u1 : Decoder Nat) b pc = .ok (30, pc + 1)) : Decoder.instr pc b pc = .ok (.lload_n 0, pc + 1) := (hz_bd h).trans rfl
theorem hz_e31 {b : ByteArray} {pc : Nat} (h : (Reader.u1 : Decoder Nat) b pc = .ok (31, pc + 1)) : Decoder.instr pc b pc = .ok (.lload_n 1, pc + 1) := (hz_bd h).trans rfl
theorem hz_e32 {b : ByteArray} {pc : Nat} (h : (Reader.u1 : Decoder Nat) b pc = .ok (32, pc + 1)) : Decoder.instr pc b pc = .ok (.lload_n 2, pc + 1) := (hz_bd h).trans rfl
theorem hz_e33 {b : ByteArray} {pc : Nat} (h : (Reader.u1 : Decoder Nat) b pc = .ok (33, pc + 1)) : Decoder.instr pc b pc = .ok (.lload_n 3, pc + 1) := (hz_bd h).trans rfl
theorem hz_e59 {b : ByteArray} {pc : Nat} (h : (Reader.u1 : Decoder Nat) b pc = .ok (59, pc + 1)) : Decoder.instr pc b pc = .ok (.istore_n 0, pc + 1) := (hz_bd h).trans rfl
theorem hz_e60 {b : ByteArray} {pc : Nat} (h : (Reader.u1 : Decoder Nat) b pc = .ok (60, pc + 1)) : Decoder.instr pc b pc = .ok (.istore_n 1, pc + 1) := (hz_bd h).trans rfl
theorem hz_e61 {b : ByteArray} {pc : Nat} (h : (Reader.u1 : Decoder Nat) b pc = .ok (61, pc + 1)) : Decoder.instr pc b pc = .ok (.istore_n 2, pc + 1) := (hz_bd h).trans rfl
theorem hz_e62 {b : ByteArray} {pc : Nat} (h : (Reader.u1 : Decoder Nat) b pc = .ok (62, pc + 1)) : Decoder.instr pc b pc = .ok (.istore_n 3, pc + 1) := (hz_bd h).trans rfl
theorem hz_e63 {b : ByteArray} {pc : Nat} (h : (Reader.u1 : Decoder Nat) b pc = .ok (63, pc + 1)) : Decoder.instr pc b pc = .ok (.lstore_n 0, pc + 1) := (hz_bd h).trans rfl
theorem hz_e64 {b : ByteArray} {pc : Nat} (h : (Reader.u1 : Decoder Nat) b pc = .ok (64, pc + 1)) : Decoder.instr pc b pc = .ok (.lstore_n 1, pc + 1) := (hz_bd h).trans rfl
theorem hz_e65 {b : ByteArray} {pc : Nat} (h : (Reader.u1 : Decoder Nat) b pc = .ok (65, pc + 1)) : Decoder.instr pc b pc = .ok (.lstore_n 2, pc + 1) := (hz_bd h).trans rfl
theorem hz_e66 {b : ByteArray} {pc : Nat} (h : (Reader.u1 : Decoder Nat) b pc = .ok (66, pc + 1)) : Decoder.instr pc b pc = .ok (.lstore_n 3, pc + 1) := (hz_bd h).trans rfl
theorem hz_e75 {b : ByteArray} {pc : Nat} (h : (Reader.u1 : Decoder Nat) b pc = .ok (75, pc + 1)) : Decoder.instr pc b pc = .ok (.astore_n 0, pc + 1) := (hz_bd h).trans rfl
theorem hz_e76 {b : ByteArray} {pc : Nat} (h : (Reader.u1 : Decoder Nat) b pc = .ok (76, pc + 1)) : Decoder.instr pc b pc = .ok (.astore_n 1, pc + 1) := (hz_bd h).trans rfl
theorem hz_e77 {b : ByteArray} {pc : Nat} (h : (Reader.u1 : Decoder Nat) b pc = .ok (77, pc + 1)) : Decoder.instr pc b pc = .ok (.astore_n 2, pc + 1) := (hz_bd h).trans rfl
theorem hz_e78 {b : ByteArray} {pc : Nat} (h : (Reader.u1 : Decoder Nat) b pc = .ok (78, pc + 1)) : Decoder.instr pc b pc = .ok (.astore_n 3, pc + 1) := (hz_bd h).trans rfl
theorem hz_e9 {b : ByteArray} {pc : Nat} (h : (Reader.u1 : Decoder Nat) b pc = .ok (9, pc + 1)) : Decoder.instr pc b pc = .ok (.lconst 0, pc + 1) := (hz_bd h).trans rfl
theorem hz_e10 {b : ByteArray} {pc : Nat} (h : (Reader.u1 : Decoder Nat) b pc = .ok (10, pc + 1)) : Decoder.instr pc b pc = .ok (.lconst 1, pc + 1) := (hz_bd h).trans rfl
theorem hz_e172 {b : ByteArray} {pc : Nat} (h : (Reader.u1 : Decoder Nat) b pc = .ok (172, pc + 1)) : Decoder.instr pc b pc = .ok (.ireturn, pc + 1) := (hz_bd h).trans rfl
theorem hz_e173 {b : ByteArray} {pc : Nat} (h : (Reader.u1 : Decoder Nat) b pc = .ok (173, pc + 1)) : Decoder.instr pc b pc = .ok (.lreturn, pc + 1) := (hz_bd h).trans rfl
theorem hz_e177 {b : ByteArray} {pc : Nat} (h : (Reader.u1 : Decoder Nat) b pc = .ok (177, pc + 1)) : Decoder.instr pc b pc = .ok (.return_, pc + 1) := (hz_bd h).trans rfl
theorem hz_e46 {b : ByteArray} {pc : Nat} (h : (Reader.u1 : Decoder Nat) b pc = .ok (46, pc + 1)) : Decoder.instr pc b pc = .ok (.iaload, pc + 1) := (hz_bd h).trans rfl
theorem hz_e50 {b : ByteArray} {pc : Nat} (h : (Reader.u1 : Decoder Nat) b pc = .ok (50, pc + 1)) : Decoder.instr pc b pc = .ok (.aaload, pc + 1) := (hz_bd h).trans rfl
theorem hz_e79 {b : ByteArray} {pc : Nat} (h : (Reader.u1 : Decoder Nat) b pc = .ok (79, pc + 1)) : Decoder.instr pc b pc = .ok (.iastore, pc + 1) := (hz_bd h).trans rfl
theorem hz_e96 {b : ByteArray} {pc : Nat} (h : (Reader.u1 : Decoder Nat) b pc = .ok (96, pc + 1)) : Decoder.instr pc b pc = .ok (.iadd, pc + 1) := (hz_bd h).trans rfl
theorem hz_e100 {b : ByteArray} {pc : Nat} (h : (Reader.u1 : Decoder Nat) b pc = .ok (100, pc + 1)) : Decoder.instr pc b pc = .ok (.isub, pc + 1) := (hz_bd h).trans rfl
theorem hz_e104 {b : ByteArray} {pc : Nat} (h : (Reader.u1 : Decoder Nat) b pc = .ok (104, pc + 1)) : Decoder.instr pc b pc = .ok (.imul, pc + 1) := (hz_bd h).trans rfl
theorem hz_e108 {b : ByteArray} {pc : Nat} (h : (Reader.u1 : Decoder Nat) b pc = .ok (108, pc + 1)) : Decoder.instr pc b pc = .ok (.idiv, pc + 1) := (hz_bd h).trans rfl
theorem hz_e112 {b : ByteArray} {pc : Nat} (h : (Reader.u1 : Decoder Nat) b pc = .ok (112, pc + 1)) : Decoder.instr pc b pc = .ok (.irem, pc + 1) := (hz_bd h).trans rfl
theorem hz_e116 {b : ByteArray} {pc : Nat} (h : (Reader.u1 : Decoder Nat) b pc = .ok (116, pc + 1)) : Decoder.instr pc b pc = .ok (.ineg, pc + 1) := (hz_bd h).trans rfl
theorem hz_e126 {b : ByteArray} {pc : Nat} (h : (Reader.u1 : Decoder Nat) b pc = .ok (126, pc + 1)) : Decoder.instr pc b pc = .ok (.iand, pc + 1) := (hz_bd h).trans rfl
theorem hz_e128 {b : ByteArray} {pc : Nat} (h : (Reader.u1 : Decoder Nat) b pc = .ok (128, pc + 1)) : Decoder.instr pc b pc = .ok (.ior, pc + 1) := (hz_bd h).trans rfl
theorem hz_e130 {b : ByteArray} {pc : Nat} (h : (Reader.u1 : Decoder Nat) b pc = .ok (130, pc + 1)) : Decoder.instr pc b pc = .ok (.ixor, pc + 1) := (hz_bd h).trans rfl
theorem hz_e120 {b : ByteArray} {pc : Nat} (h : (Reader.u1 : Decoder Nat) b pc = .ok (120, pc + 1)) : Decoder.instr pc b pc = .ok (.ishl, pc + 1) := (hz_bd h).trans rfl
theorem hz_e122 {b : ByteArray} {pc : Nat} (h : (Reader.u1 : Decoder Nat) b pc = .ok (122, pc + 1)) : Decoder.instr pc b pc = .ok (.ishr, pc + 1) := (hz_bd h).trans rfl
theorem hz_e124 {b : ByteArray} {pc : Nat} (h : (Reader.u1 : Decoder Nat) b pc = .ok (124, pc + 1)) : Decoder.instr pc b pc = .ok (.iushr, pc + 1) := (hz_bd h).trans rfl
theorem hz_e97 {b : ByteArray} {pc : Nat} (h : (Reader.u1 : Decoder Nat) b pc = .ok (97, pc + 1)) : Decoder.instr pc b pc = .ok (.ladd, pc + 1) := (hz_bd h).trans rfl
theorem hz_e101 {b : ByteArray} {pc : Nat} (h : (Reader.u1 : Decoder Nat) b pc = .ok (101, pc + 1)) : Decoder.instr pc b pc = .ok (.lsub, pc + 1) := (hz_bd h).trans rfl
theorem hz_e105 {b : ByteArray} {pc : Nat} (h : (Reader.u1 : Decoder Nat) b pc = .ok (105, pc + 1)) : Decoder.instr pc b pc = .ok (.lmul, pc + 1) := (hz_bd h).trans rfl
theorem hz_e109 {b : ByteArray} {pc : Nat} (h : (Reader.u1 : Decoder Nat) b pc = .ok (109, pc + 1)) : Decoder.instr pc b pc = .ok (.ldiv, pc + 1) := (hz_bd h).trans rfl
theorem hz_e113 {b : ByteArray} {pc : Nat} (h : (Reader.u1 : Decoder Nat) b pc = .ok (113, pc + 1)) : Decoder.instr pc b pc = .ok (.lrem, pc + 1) := (hz_bd h).trans rfl
theorem hz_e148 {b : ByteArray} {pc : Nat} (h : (Reader.u1 : Decoder Nat) b pc = .ok (148, pc + 1)) : Decoder.instr pc b pc = .ok (.lcmp, pc + 1) := (hz_bd h).trans rfl
theorem hz_e133 {b : ByteArray} {pc : Nat} (h : (Reader.u1 : Decoder Nat) b pc = .ok (133, pc + 1)) : Decoder.instr pc b pc = .ok (.i2l, pc + 1) := (hz_bd h).trans rfl
theorem hz_e145 {b : ByteArray} {pc : Nat} (h : (Reader.u1 : Decoder Nat) b pc = .ok (145, pc + 1)) : Decoder.instr pc b pc = .ok (.i2b, pc + 1) := (hz_bd h).trans rfl
theorem hz_e147 {b : ByteArray} {pc : Nat} (h : (Reader.u1 : Decoder Nat) b pc = .ok (147, pc + 1)) : Decoder.instr pc b pc = .ok (.i2s, pc + 1) := (hz_bd h).trans rfl
theorem hz_e87 {b : ByteArray} {pc : Nat} (h : (Reader.u1 : Decoder Nat) b pc = .ok (87, pc + 1)) : Decoder.instr pc b pc = .ok (.pop, pc + 1) := (hz_bd h).trans rfl
theorem hz_e88 {b : ByteArray} {pc : Nat} (h : (Reader.u1 : Decoder Nat) b pc = .ok (88, pc + 1)) : Decoder.instr pc b pc = .ok (.pop2, pc + 1) := (hz_bd h).trans rfl
theorem hz_e89 {b : ByteArray} {pc : Nat} (h : (Reader.u1 : Decoder Nat) b pc = .ok (89, pc + 1)) : Decoder.instr pc b pc = .ok (.dup, pc + 1) := (hz_bd h).trans rfl
theorem hz_e92 {b : ByteArray} {pc : Nat} (h : (Reader.u1 : Decoder Nat) b pc = .ok (92, pc + 1)) : Decoder.instr pc b pc = .ok (.dup2, pc + 1) := (hz_bd h).trans rfl
theorem hz_e190 {b : ByteArray} {pc : Nat} (h : (Reader.u1 : Decoder Nat) b pc = .ok (190, pc + 1)) : Decoder.instr pc b pc = .ok (.arraylength, pc + 1) := (hz_bd h).trans rfl
theorem hz_e2 {b : ByteArray} {pc : Nat} (h : (Reader.u1 : Decoder Nat) b pc = .ok (2, pc + 1)) : Decoder.instr pc b pc = .ok (.iconst (-1), pc + 1) := (hz_bd h).trans rfl
theorem hz_e3 {b : ByteArray} {pc : Nat} (h : (Reader.u1 : Decoder Nat) b pc = .ok (3, pc + 1)) : Decoder.instr pc b pc = .ok (.iconst (0), pc + 1) := (hz_bd h).trans rfl
theorem hz_e4 {b : ByteArray} {pc : Nat} (h : (Reader.u1 : Decoder Nat) b pc = .ok (4, pc + 1)) : Decoder.instr pc b pc = .ok (.iconst (1), pc + 1) := (hz_bd h).trans rfl
theorem hz_e5 {b : ByteArray} {pc : Nat} (h : (Reader.u1 : Decoder Nat) b pc = .ok (5, pc + 1)) : Decoder.instr pc b pc = .ok (.iconst (2), pc + 1) := (hz_bd h).trans rfl
theorem hz_e6 {b : ByteArray} {pc : Nat} (h : (Reader.u1 : Decoder Nat) b pc = .ok (6, pc + 1)) : Decoder.instr pc b pc = .ok (.iconst (3), pc + 1) := (hz_bd h).trans rfl
theorem hz_e7 {b : ByteArray} {pc : Nat} (h : (Reader.u1 : Decoder Nat) b pc = .ok (7, pc + 1)) : Decoder.instr pc b pc = .ok (.iconst (4), pc + 1) := (hz_bd h).trans rfl
theorem hz_e8 {b : ByteArray} {pc : Nat} (h : (Reader.u1 : Decoder Nat) b pc = .ok (8, pc + 1)) : Decoder.instr pc b pc = .ok (.iconst (5), pc + 1) := (hz_bd h).trans rfl
theorem hz_e21 {b : ByteArray} {pc k : Nat} (h : (Reader.u1 : Decoder Nat) b pc = .ok (21, pc + 1)) (h1 : (Reader.u1 : Decoder Nat) b (pc + 1) = .ok (k, pc + 2)) : Decoder.instr pc b pc = .ok (.iload k, pc + 2) := (hz_bd h).trans ((hz_bd h1).trans rfl)
theorem hz_e22 {b : ByteArray} {pc k : Nat} (h : (Reader.u1 : Decoder Nat) b pc = .ok (22, pc + 1)) (h1 : (Reader.u1 : Decoder Nat) b (pc + 1) = .ok (k, pc + 2)) : Decoder.instr pc b pc = .ok (.lload k, pc + 2) := (hz_bd h).trans ((hz_bd h1).trans rfl)
theorem hz_e25 {b : ByteArray} {pc k : Nat} (h : (Reader.u1 : Decoder Nat) b pc = .ok (25, pc + 1)) (h1 : (Reader.u1 : Decoder Nat) b (pc + 1) = .ok (k, pc + 2)) : Decoder.instr pc b pc = .ok (.aload k, pc + 2) := (hz_bd h).trans ((hz_bd h1).trans rfl)
theorem hz_e54 {b : ByteArray} {pc k : Nat} (h : (Reader.u1 : Decoder Nat) b pc = .ok (54, pc + 1)) (h1 : (Reader.u1 : Decoder Nat) b (pc + 1) = .ok (k, pc + 2)) : Decoder.instr pc b pc = .ok (.istore k, pc + 2) := (hz_bd h).trans ((hz_bd h1).trans rfl)
theorem hz_e55 {b : ByteArray} {pc k : Nat} (h : (Reader.u1 : Decoder Nat) b pc = .ok (55, pc + 1)) (h1 : (Reader.u1 : Decoder Nat) b (pc + 1) = .ok (k, pc + 2)) : Decoder.instr pc b pc = .ok (.lstore k, pc + 2) := (hz_bd h).trans ((hz_bd h1).trans rfl)
theorem hz_e58 {b : ByteArray} {pc k : Nat} (h : (Reader.u1 : Decoder Nat) b pc = .ok (58, pc + 1)) (h1 : (Reader.u1 : Decoder Nat) b (pc + 1) = .ok (k, pc + 2)) : Decoder.instr pc b pc = .ok (.astore k, pc + 2) := (hz_bd h).trans ((hz_bd h1).trans rfl)
theorem hz_e18 {b : ByteArray} {pc k : Nat} (h : (Reader.u1 : Decoder Nat) b pc = .ok (18, pc + 1)) (h1 : (Reader.u1 : Decoder Nat) b (pc + 1) = .ok (k, pc + 2)) : Decoder.instr pc b pc = .ok (.ldc k, pc + 2) := (hz_bd h).trans ((hz_bd h1).trans rfl)
theorem hz_e16 {b : ByteArray} {pc k : Nat} (h : (Reader.u1 : Decoder Nat) b pc = .ok (16, pc + 1)) (h1 : (Reader.u1 : Decoder Nat) b (pc + 1) = .ok (k, pc + 2)) : Decoder.instr pc b pc = .ok (.bipush (Reader.signed 8 k), pc + 2) := (hz_bd h).trans ((hz_bd (hz_s1g h1)).trans rfl)
theorem hz_e19 {b : ByteArray} {pc x y : Nat} (h : (Reader.u1 : Decoder Nat) b pc = .ok (19, pc + 1)) (h1 : (Reader.u1 : Decoder Nat) b (pc + 1) = .ok (x, pc + 2)) (h2 : (Reader.u1 : Decoder Nat) b (pc + 2) = .ok (y, pc + 3)) : Decoder.instr pc b pc = .ok (.ldc_w (x * 256 + y), pc + 3) := (hz_bd h).trans ((hz_bd (hz_u2g h1 h2)).trans rfl)
theorem hz_e20 {b : ByteArray} {pc x y : Nat} (h : (Reader.u1 : Decoder Nat) b pc = .ok (20, pc + 1)) (h1 : (Reader.u1 : Decoder Nat) b (pc + 1) = .ok (x, pc + 2)) (h2 : (Reader.u1 : Decoder Nat) b (pc + 2) = .ok (y, pc + 3)) : Decoder.instr pc b pc = .ok (.ldc2_w (x * 256 + y), pc + 3) := (hz_bd h).trans ((hz_bd (hz_u2g h1 h2)).trans rfl)
theorem hz_e180 {b : ByteArray} {pc x y : Nat} (h : (Reader.u1 : Decoder Nat) b pc = .ok (180, pc + 1)) (h1 : (Reader.u1 : Decoder Nat) b (pc + 1) = .ok (x, pc + 2)) (h2 : (Reader.u1 : Decoder Nat) b (pc + 2) = .ok (y, pc + 3)) : Decoder.instr pc b pc = .ok (.getfield (x * 256 + y), pc + 3) := (hz_bd h).trans ((hz_bd (hz_u2g h1 h2)).trans rfl)
theorem hz_e181 {b : ByteArray} {pc x y : Nat} (h : (Reader.u1 : Decoder Nat) b pc = .ok (181, pc + 1)) (h1 : (Reader.u1 : Decoder Nat) b (pc + 1) = .ok (x, pc + 2)) (h2 : (Reader.u1 : Decoder Nat) b (pc + 2) = .ok (y, pc + 3)) : Decoder.instr pc b pc = .ok (.putfield (x * 256 + y), pc + 3) := (hz_bd h).trans ((hz_bd (hz_u2g h1 h2)).trans rfl)
theorem hz_e182 {b : ByteArray} {pc x y : Nat} (h : (Reader.u1 : Decoder Nat) b pc = .ok (182, pc + 1)) (h1 : (Reader.u1 : Decoder Nat) b (pc + 1) = .ok (x, pc + 2)) (h2 : (Reader.u1 : Decoder Nat) b (pc + 2) = .ok (y, pc + 3)) : Decoder.instr pc b pc = .ok (.invokevirtual (x * 256 + y), pc + 3) := (hz_bd h).trans ((hz_bd (hz_u2g h1 h2)).trans rfl)
theorem hz_e184 {b : ByteArray} {pc x y : Nat} (h : (Reader.u1 : Decoder Nat) b pc = .ok (184, pc + 1)) (h1 : (Reader.u1 : Decoder Nat) b (pc + 1) = .ok (x, pc + 2)) (h2 : (Reader.u1 : Decoder Nat) b (pc + 2) = .ok (y, pc + 3)) : Decoder.instr pc b pc = .ok (.invokestatic (x * 256 + y), pc + 3) := (hz_bd h).trans ((hz_bd (hz_u2g h1 h2)).trans rfl)
theorem hz_e153 {b : ByteArray} {pc x y : Nat} (h : (Reader.u1 : Decoder Nat) b pc = .ok (153, pc + 1)) (h1 : (Reader.u1 : Decoder Nat) b (pc + 1) = .ok (x, pc + 2)) (h2 : (Reader.u1 : Decoder Nat) b (pc + 2) = .ok (y, pc + 3)) : Decoder.instr pc b pc = .ok (.ifCond .eq (Reader.signed 16 (x * 256 + y)), pc + 3) := (hz_bd h).trans ((hz_bd (hz_s2g (hz_u2g h1 h2))).trans rfl)
theorem hz_e154 {b : ByteArray} {pc x y : Nat} (h : (Reader.u1 : Decoder Nat) b pc = .ok (154, pc + 1)) (h1 : (Reader.u1 : Decoder Nat) b (pc + 1) = .ok (x, pc + 2)) (h2 : (Reader.u1 : Decoder Nat) b (pc + 2) = .ok (y, pc + 3)) : Decoder.instr pc b pc = .ok (.ifCond .ne (Reader.signed 16 (x * 256 + y)), pc + 3) := (hz_bd h).trans ((hz_bd (hz_s2g (hz_u2g h1 h2))).trans rfl)
theorem hz_e155 {b : ByteArray} {pc x y : Nat} (h : (Reader.u1 : Decoder Nat) b pc = .ok (155, pc + 1)) (h1 : (Reader.u1 : Decoder Nat) b (pc + 1) = .ok (x, pc + 2)) (h2 : (Reader.u1 : Decoder Nat) b (pc + 2) = .ok (y, pc + 3)) : Decoder.instr pc b pc = .ok (.ifCond .lt (Reader.signed 16 (x * 256 + y)), pc + 3) := (hz_bd h).trans ((hz_bd (hz_s2g (hz_u2g h1 h2))).trans rfl)
theorem hz_e156 {b : ByteArray} {pc x y : Nat} (h : (Reader.u1 : Decoder Nat) b pc = .ok (156, pc + 1)) (h1 : (Reader.u1 : Decoder Nat) b (pc + 1) = .ok (x, pc + 2)) (h2 : (Reader.u1 : Decoder Nat) b (pc + 2) = .ok (y, pc + 3)) : Decoder.instr pc b pc = .ok (.ifCond .ge (Reader.signed 16 (x * 256 + y)), pc + 3) := (hz_bd h).trans ((hz_bd (hz_s2g (hz_u2g h1 h2))).trans rfl)
theorem hz_e157 {b : ByteArray} {pc x y : Nat} (h : (Reader.u1 : Decoder Nat) b pc = .ok (157, pc + 1)) (h1 : (Reader.u1 : Decoder Nat) b (pc + 1) = .ok (x, pc + 2)) (h2 : (Reader.u1 : Decoder Nat) b (pc + 2) = .ok (y, pc + 3)) : Decoder.instr pc b pc = .ok (.ifCond .gt (Reader.signed 16 (x * 256 + y)), pc + 3) := (hz_bd h).trans ((hz_bd (hz_s2g (hz_u2g h1 h2))).trans rfl)
theorem hz_e158 {b : ByteArray} {pc x y : Nat} (h : (Reader.u1 : Decoder Nat) b pc = .ok (158, pc + 1)) (h1 : (Reader.u1 : Decoder Nat) b (pc + 1) = .ok (x, pc + 2)) (h2 : (Reader.u1 : Decoder Nat) b (pc + 2) = .ok (y, pc + 3)) : Decoder.instr pc b pc = .ok (.ifCond .le (Reader.signed 16 (x * 256 + y)), pc + 3) := (hz_bd h).trans ((hz_bd (hz_s2g (hz_u2g h1 h2))).trans rfl)
theorem hz_e159 {b : ByteArray} {pc x y : Nat} (h : (Reader.u1 : Decoder Nat) b pc = .ok (159, pc + 1)) (h1 : (Reader.u1 : Decoder Nat) b (pc + 1) = .ok (x, pc + 2)) (h2 : (Reader.u1 : Decoder Nat) b (pc + 2) = .ok (y, pc + 3)) : Decoder.instr pc b pc = .ok (.if_icmp .eq (Reader.signed 16 (x * 256 + y)), pc + 3) := (hz_bd h).trans ((hz_bd (hz_s2g (hz_u2g h1 h2))).trans rfl)
theorem hz_e160 {b : ByteArray} {pc x y : Nat} (h : (Reader.u1 : Decoder Nat) b pc = .ok (160, pc + 1)) (h1 : (Reader.u1 : Decoder Nat) b (pc + 1) = .ok (x, pc + 2)) (h2 : (Reader.u1 : Decoder Nat) b (pc + 2) = .ok (y, pc + 3)) : Decoder.instr pc b pc = .ok (.if_icmp .ne (Reader.signed 16 (x * 256 + y)), pc + 3) := (hz_bd h).trans ((hz_bd (hz_s2g (hz_u2g h1 h2))).trans rfl)
theorem hz_e161 {b : ByteArray} {pc x y : Nat} (h : (Reader.u1 : Decoder Nat) b pc = .ok (161, pc + 1)) (h1 : (Reader.u1 : Decoder Nat) b (pc + 1) = .ok (x, pc + 2)) (h2 : (Reader.u1 : Decoder Nat) b (pc + 2) = .ok (y, pc + 3)) : Decoder.instr pc b pc = .ok (.if_icmp .lt (Reader.signed 16 (x * 256 + y)), pc + 3) := (hz_bd h).trans ((hz_bd (hz_s2g (hz_u2g h1 h2))).trans rfl)
theorem hz_e162 {b : ByteArray} {pc x y : Nat} (h : (Reader.u1 : Decoder Nat) b pc = .ok (162, pc + 1)) (h1 : (Reader.u1 : Decoder Nat) b (pc + 1) = .ok (x, pc + 2)) (h2 : (Reader.u1 : Decoder Nat) b (pc + 2) = .ok (y, pc + 3)) : Decoder.instr pc b pc = .ok (.if_icmp .ge (Reader.signed 16 (x * 256 + y)), pc + 3) := (hz_bd h).trans ((hz_bd (hz_s2g (hz_u2g h1 h2))).trans rfl)
theorem hz_e163 {b : ByteArray} {pc x y : Nat} (h : (Reader.u1 : Decoder Nat) b pc = .ok (163, pc + 1)) (h1 : (Reader.u1 : Decoder Nat) b (pc + 1) = .ok (x, pc + 2)) (h2 : (Reader.u1 : Decoder Nat) b (pc + 2) = .ok (y, pc + 3)) : Decoder.instr pc b pc = .ok (.if_icmp .gt (Reader.signed 16 (x * 256 + y)), pc + 3) := (hz_bd h).trans ((hz_bd (hz_s2g (hz_u2g h1 h2))).trans rfl)
theorem hz_e164 {b : ByteArray} {pc x y : Nat} (h : (Reader.u1 : Decoder Nat) b pc = .ok (164, pc + 1)) (h1 : (Reader.u1 : Decoder Nat) b (pc + 1) = .ok (x, pc + 2)) (h2 : (Reader.u1 : Decoder Nat) b (pc + 2) = .ok (y, pc + 3)) : Decoder.instr pc b pc = .ok (.if_icmp .le (Reader.signed 16 (x * 256 + y)), pc + 3) := (hz_bd h).trans ((hz_bd (hz_s2g (hz_u2g h1 h2))).trans rfl)
theorem hz_e167 {b : ByteArray} {pc x y : Nat} (h : (Reader.u1 : Decoder Nat) b pc = .ok (167, pc + 1)) (h1 : (Reader.u1 : Decoder Nat) b (pc + 1) = .ok (x, pc + 2)) (h2 : (Reader.u1 : Decoder Nat) b (pc + 2) = .ok (y, pc + 3)) : Decoder.instr pc b pc = .ok (.goto (Reader.signed 16 (x * 256 + y)), pc + 3) := (hz_bd h).trans ((hz_bd (hz_s2g (hz_u2g h1 h2))).trans rfl)
theorem hz_e17 {b : ByteArray} {pc x y : Nat} (h : (Reader.u1 : Decoder Nat) b pc = .ok (17, pc + 1)) (h1 : (Reader.u1 : Decoder Nat) b (pc + 1) = .ok (x, pc + 2)) (h2 : (Reader.u1 : Decoder Nat) b (pc + 2) = .ok (y, pc + 3)) : Decoder.instr pc b pc = .ok (.sipush (Reader.signed 16 (x * 256 + y)), pc + 3) := (hz_bd h).trans ((hz_bd (hz_s2g (hz_u2g h1 h2))).trans rfl)
theorem hz_e132 {b : ByteArray} {pc x y : Nat} (h : (Reader.u1 : Decoder Nat) b pc = .ok (132, pc + 1)) (h1 : (Reader.u1 : Decoder Nat) b (pc + 1) = .ok (x, pc + 2)) (h2 : (Reader.u1 : Decoder Nat) b (pc + 2) = .ok (y, pc + 3)) : Decoder.instr pc b pc = .ok (.iinc x (Reader.signed 8 y), pc + 3) := (hz_bd h).trans ((hz_bd h1).trans ((hz_bd (hz_s1g h2)).trans rfl))
def hz_b0 (L : List UInt8) (op : Nat) : Bool := match L with
  | x :: _ => x.toNat == op
  | _ => false
def hz_b1 (L : List UInt8) (op k : Nat) : Bool := match L with
  | x :: y :: _ => x.toNat == op && y.toNat == k
  | _ => false
def hz_b1s (L : List UInt8) (op : Nat) (n : Int) : Bool := match L with
  | x :: y :: _ => x.toNat == op && decide (Reader.signed 8 y.toNat = n)
  | _ => false
def hz_b2 (L : List UInt8) (op k : Nat) : Bool := match L with
  | x :: y :: z :: _ => x.toNat == op && y.toNat * 256 + z.toNat == k
  | _ => false
def hz_b2s (L : List UInt8) (op : Nat) (n : Int) : Bool := match L with
  | x :: y :: z :: _ => x.toNat == op && decide (Reader.signed 16 (y.toNat * 256 + z.toNat) = n)
  | _ => false
def hz_b3 (L : List UInt8) (op k : Nat) (n : Int) : Bool := match L with
  | x :: y :: z :: _ => x.toNat == op && (y.toNat == k && decide (Reader.signed 8 z.toNat = n))
  | _ => false
theorem hz_gj {b : ByteArray} {pc : Nat} {L : List UInt8} (hL : b.data.toList.drop pc = L) (j : Nat) {x : UInt8} (h : L[j]? = some x) : (Reader.u1 : Decoder Nat) b (pc + j) = .ok (x.toNat, pc + j + 1) := by
  subst hL
  rw [List.getElem?_drop] at h
  exact hz_u1g h
theorem hz_b0k {b : ByteArray} {pc op : Nat} {L : List UInt8} (hL : b.data.toList.drop pc = L) (h : hz_b0 L op = true) : (Reader.u1 : Decoder Nat) b pc = .ok (op, pc + 1) := by
  unfold hz_b0 at h
  split at h
  · rename_i x r
    rw [← beq_iff_eq.mp h]
    exact hz_gj hL 0 rfl
  · cases h
theorem hz_b1k {b : ByteArray} {pc op k : Nat} {L : List UInt8} (hL : b.data.toList.drop pc = L) (h : hz_b1 L op k = true) : (Reader.u1 : Decoder Nat) b pc = .ok (op, pc + 1) ∧ (Reader.u1 : Decoder Nat) b (pc + 1) = .ok (k, pc + 2) := by
  unfold hz_b1 at h
  split at h
  · rename_i x y r
    rw [Bool.and_eq_true] at h
    rw [← beq_iff_eq.mp h.1, ← beq_iff_eq.mp h.2]
    exact ⟨hz_gj hL 0 rfl, hz_gj hL 1 rfl⟩
  · cases h
theorem hz_b1sk {b : ByteArray} {pc op : Nat} {n : Int} {L : List UInt8} (hL : b.data.toList.drop pc = L) (h : hz_b1s L op n = true) : ∃ k : Nat, (Reader.u1 : Decoder Nat) b pc = .ok (op, pc + 1) ∧ (Reader.u1 : Decoder Nat) b (pc + 1) = .ok (k, pc + 2) ∧ Reader.signed 8 k = n := by
  unfold hz_b1s at h
  split at h
  · rename_i x y r
    rw [Bool.and_eq_true] at h
    rw [← beq_iff_eq.mp h.1]
    exact ⟨_, hz_gj hL 0 rfl, hz_gj hL 1 rfl, of_decide_eq_true h.2⟩
  · cases h
theorem hz_b2k {b : ByteArray} {pc op k : Nat} {L : List UInt8} (hL : b.data.toList.drop pc = L) (h : hz_b2 L op k = true) : ∃ x y : Nat, (Reader.u1 : Decoder Nat) b pc = .ok (op, pc + 1) ∧ (Reader.u1 : Decoder Nat) b (pc + 1) = .ok (x, pc + 2) ∧ (Reader.u1 : Decoder Nat) b (pc + 2) = .ok (y, pc + 3) ∧ x * 256 + y = k := by
  unfold hz_b2 at h
  split at h
  · rename_i x y z r
    rw [Bool.and_eq_true] at h
    rw [← beq_iff_eq.mp h.1]
    exact ⟨_, _, hz_gj hL 0 rfl, hz_gj hL 1 rfl, hz_gj hL 2 rfl, beq_iff_eq.mp h.2⟩
  · cases h
theorem hz_b2sk {b : ByteArray} {pc op : Nat} {n : Int} {L : List UInt8} (hL : b.data.toList.drop pc = L) (h : hz_b2s L op n = true) : ∃ x y : Nat, (Reader.u1 : Decoder Nat) b pc = .ok (op, pc + 1) ∧ (Reader.u1 : Decoder Nat) b (pc + 1) = .ok (x, pc + 2) ∧ (Reader.u1 : Decoder Nat) b (pc + 2) = .ok (y, pc + 3) ∧ Reader.signed 16 (x * 256 + y) = n := by
  unfold hz_b2s at h
  split at h
  · rename_i x y z r
    rw [Bool.and_eq_true] at h
    rw [← beq_iff_eq.mp h.1]
    exact ⟨_, _, hz_gj hL 0 rfl, hz_gj hL 1 rfl, hz_gj hL 2 rfl, of_decide_eq_true h.2⟩
  · cases h
theorem hz_b3k {b : ByteArray} {pc op k : Nat} {n : Int} {L : List UInt8} (hL : b.data.toList.drop pc = L) (h : hz_b3 L op k n = true) : ∃ y : Nat, (Reader.u1 : Decoder Nat) b pc = .ok (op, pc + 1) ∧ (Reader.u1 : Decoder Nat) b (pc + 1) = .ok (k, pc + 2) ∧ (Reader.u1 : Decoder Nat) b (pc + 2) = .ok (y, pc + 3) ∧ Reader.signed 8 y = n := by
  unfold hz_b3 at h
  split at h
  · rename_i x y z r
    rw [Bool.and_eq_true, Bool.and_eq_true] at h
    rw [← beq_iff_eq.mp h.1, ← beq_iff_eq.mp h.2.1]
    exact ⟨_, hz_gj hL 0 rfl, hz_gj hL 1 rfl, hz_gj hL 2 rfl, of_decide_eq_true h.2.2⟩
  · cases h
def hz_okE (b : ByteArray) (pc : Nat) (L : List UInt8) (i : Instr) : Bool := match i with
  | .iload_n k => hz_b0 L (26 + k.val)
  | .aload_n k => hz_b0 L (42 + k.val)
  | .lload_n k => hz_b0 L (30 + k.val)
  | .istore_n k => hz_b0 L (59 + k.val)
  | .lstore_n k => hz_b0 L (63 + k.val)
  | .astore_n k => hz_b0 L (75 + k.val)
  | .lconst k => hz_b0 L (9 + k.val)
  | .ireturn => hz_b0 L 172
  | .lreturn => hz_b0 L 173
  | .return_ => hz_b0 L 177
  | .iaload => hz_b0 L 46
  | .aaload => hz_b0 L 50
  | .iastore => hz_b0 L 79
  | .iadd => hz_b0 L 96
  | .isub => hz_b0 L 100
  | .imul => hz_b0 L 104
  | .idiv => hz_b0 L 108
  | .irem => hz_b0 L 112
  | .ineg => hz_b0 L 116
  | .iand => hz_b0 L 126
  | .ior => hz_b0 L 128
  | .ixor => hz_b0 L 130
  | .ishl => hz_b0 L 120
  | .ishr => hz_b0 L 122
  | .iushr => hz_b0 L 124
  | .ladd => hz_b0 L 97
  | .lsub => hz_b0 L 101
  | .lmul => hz_b0 L 105
  | .ldiv => hz_b0 L 109
  | .lrem => hz_b0 L 113
  | .lcmp => hz_b0 L 148
  | .i2l => hz_b0 L 133
  | .i2b => hz_b0 L 145
  | .i2s => hz_b0 L 147
  | .pop => hz_b0 L 87
  | .pop2 => hz_b0 L 88
  | .dup => hz_b0 L 89
  | .dup2 => hz_b0 L 92
  | .arraylength => hz_b0 L 190
  | .iconst n => decide (-1 ≤ n ∧ n ≤ 5) && hz_b0 L (n + 3).toNat
  | .iload k => hz_b1 L 21 k
  | .lload k => hz_b1 L 22 k
  | .aload k => hz_b1 L 25 k
  | .istore k => hz_b1 L 54 k
  | .lstore k => hz_b1 L 55 k
  | .astore k => hz_b1 L 58 k
  | .ldc k => hz_b1 L 18 k
  | .bipush n => hz_b1s L 16 n
  | .ldc_w k => hz_b2 L 19 k
  | .ldc2_w k => hz_b2 L 20 k
  | .getfield k => hz_b2 L 180 k
  | .putfield k => hz_b2 L 181 k
  | .invokevirtual k => hz_b2 L 182 k
  | .invokestatic k => hz_b2 L 184 k
  | .ifCond .eq n => hz_b2s L 153 n
  | .ifCond .ne n => hz_b2s L 154 n
  | .ifCond .lt n => hz_b2s L 155 n
  | .ifCond .ge n => hz_b2s L 156 n
  | .ifCond .gt n => hz_b2s L 157 n
  | .ifCond .le n => hz_b2s L 158 n
  | .if_icmp .eq n => hz_b2s L 159 n
  | .if_icmp .ne n => hz_b2s L 160 n
  | .if_icmp .lt n => hz_b2s L 161 n
  | .if_icmp .ge n => hz_b2s L 162 n
  | .if_icmp .gt n => hz_b2s L 163 n
  | .if_icmp .le n => hz_b2s L 164 n
  | .goto n => hz_b2s L 167 n
  | .sipush n => hz_b2s L 17 n
  | .iinc k n => hz_b3 L 132 k n
  | .tableswitch d lo hi o => hz_okD b pc (.tableswitch d lo hi o)
  | .lookupswitch d o => hz_okD b pc (.lookupswitch d o)
  | _ => false
theorem hz_fi4 : ∀ k : Fin 4, k = 0 ∨ k = 1 ∨ k = 2 ∨ k = 3 := by decide
theorem hz_fi2 : ∀ k : Fin 2, k = 0 ∨ k = 1 := by decide
theorem hz_okDd {b : ByteArray} {pc : Nat} {i : Instr} (h : decode b pc = .ok (i, hz_len i)) : hz_okD b pc i = true := by
  unfold hz_okD
  split
  · rw [h]
    exact decide_eq_true rfl
  · rw [h]
    exact decide_eq_true rfl
  · exact decide_eq_true h
theorem hz_okE_ok {b : ByteArray} {pc : Nat} {L : List UInt8} (hL : b.data.toList.drop pc = L) {i : Instr} (h : hz_okE b pc L i = true) : hz_okD b pc i = true := by
  unfold hz_okE at h
  split at h
  · rename_i k
    have h0 := hz_b0k hL h
    rcases hz_fi4 k with rfl | rfl | rfl | rfl
    · exact hz_okDd (hz_dec (hz_e26 h0))
    · exact hz_okDd (hz_dec (hz_e27 h0))
    · exact hz_okDd (hz_dec (hz_e28 h0))
    · exact hz_okDd (hz_dec (hz_e29 h0))
  · rename_i k
    have h0 := hz_b0k hL h
    rcases hz_fi4 k with rfl | rfl | rfl | rfl
    · exact hz_okDd (hz_dec (hz_e42 h0))
    · exact hz_okDd (hz_dec (hz_e43 h0))
    · exact hz_okDd (hz_dec (hz_e44 h0))
    · exact hz_okDd (hz_dec (hz_e45 h0))
  · rename_i k
    have h0 := hz_b0k hL h
    rcases hz_fi4 k with rfl | rfl | rfl | rfl
    · exact hz_okDd (hz_dec (hz_e30 h0))
    · exact hz_okDd (hz_dec (hz_e31 h0))
    · exact hz_okDd (hz_dec (hz_e32 h0))
    · exact hz_okDd (hz_dec (hz_e33 h0))
  · rename_i k
    have h0 := hz_b0k hL h
    rcases hz_fi4 k with rfl | rfl | rfl | rfl
    · exact hz_okDd (hz_dec (hz_e59 h0))
    · exact hz_okDd (hz_dec (hz_e60 h0))
    · exact hz_okDd (hz_dec (hz_e61 h0))
    · exact hz_okDd (hz_dec (hz_e62 h0))
  · rename_i k
    have h0 := hz_b0k hL h
    rcases hz_fi4 k with rfl | rfl | rfl | rfl
    · exact hz_okDd (hz_dec (hz_e63 h0))
    · exact hz_okDd (hz_dec (hz_e64 h0))
    · exact hz_okDd (hz_dec (hz_e65 h0))
    · exact hz_okDd (hz_dec (hz_e66 h0))
  · rename_i k
    have h0 := hz_b0k hL h
    rcases hz_fi4 k with rfl | rfl | rfl | rfl
    · exact hz_okDd (hz_dec (hz_e75 h0))
    · exact hz_okDd (hz_dec (hz_e76 h0))
    · exact hz_okDd (hz_dec (hz_e77 h0))
    · exact hz_okDd (hz_dec (hz_e78 h0))
  · rename_i k
    have h0 := hz_b0k hL h
    rcases hz_fi2 k with rfl | rfl
    · exact hz_okDd (hz_dec (hz_e9 h0))
    · exact hz_okDd (hz_dec (hz_e10 h0))
  · exact hz_okDd (hz_dec (hz_e172 (hz_b0k hL h)))
  · exact hz_okDd (hz_dec (hz_e173 (hz_b0k hL h)))
  · exact hz_okDd (hz_dec (hz_e177 (hz_b0k hL h)))
  · exact hz_okDd (hz_dec (hz_e46 (hz_b0k hL h)))
  · exact hz_okDd (hz_dec (hz_e50 (hz_b0k hL h)))
  · exact hz_okDd (hz_dec (hz_e79 (hz_b0k hL h)))
  · exact hz_okDd (hz_dec (hz_e96 (hz_b0k hL h)))
  · exact hz_okDd (hz_dec (hz_e100 (hz_b0k hL h)))
  · exact hz_okDd (hz_dec (hz_e104 (hz_b0k hL h)))
  · exact hz_okDd (hz_dec (hz_e108 (hz_b0k hL h)))
  · exact hz_okDd (hz_dec (hz_e112 (hz_b0k hL h)))
  · exact hz_okDd (hz_dec (hz_e116 (hz_b0k hL h)))
  · exact hz_okDd (hz_dec (hz_e126 (hz_b0k hL h)))
  · exact hz_okDd (hz_dec (hz_e128 (hz_b0k hL h)))
  · exact hz_okDd (hz_dec (hz_e130 (hz_b0k hL h)))
  · exact hz_okDd (hz_dec (hz_e120 (hz_b0k hL h)))
  · exact hz_okDd (hz_dec (hz_e122 (hz_b0k hL h)))
  · exact hz_okDd (hz_dec (hz_e124 (hz_b0k hL h)))
  · exact hz_okDd (hz_dec (hz_e97 (hz_b0k hL h)))
  · exact hz_okDd (hz_dec (hz_e101 (hz_b0k hL h)))
  · exact hz_okDd (hz_dec (hz_e105 (hz_b0k hL h)))
  · exact hz_okDd (hz_dec (hz_e109 (hz_b0k hL h)))
  · exact hz_okDd (hz_dec (hz_e113 (hz_b0k hL h)))
  · exact hz_okDd (hz_dec (hz_e148 (hz_b0k hL h)))
  · exact hz_okDd (hz_dec (hz_e133 (hz_b0k hL h)))
  · exact hz_okDd (hz_dec (hz_e145 (hz_b0k hL h)))
  · exact hz_okDd (hz_dec (hz_e147 (hz_b0k hL h)))
  · exact hz_okDd (hz_dec (hz_e87 (hz_b0k hL h)))
  · exact hz_okDd (hz_dec (hz_e88 (hz_b0k hL h)))
  · exact hz_okDd (hz_dec (hz_e89 (hz_b0k hL h)))
  · exact hz_okDd (hz_dec (hz_e92 (hz_b0k hL h)))
  · exact hz_okDd (hz_dec (hz_e190 (hz_b0k hL h)))
  · rename_i n
    rw [Bool.and_eq_true] at h
    have hn := of_decide_eq_true h.1
    have h0 := hz_b0k hL h.2
    rcases (show n = -1 ∨ n = 0 ∨ n = 1 ∨ n = 2 ∨ n = 3 ∨ n = 4 ∨ n = 5 by omega) with rfl | rfl | rfl | rfl | rfl | rfl | rfl
    · exact hz_okDd (hz_dec (hz_e2 h0))
    · exact hz_okDd (hz_dec (hz_e3 h0))
    · exact hz_okDd (hz_dec (hz_e4 h0))
    · exact hz_okDd (hz_dec (hz_e5 h0))
    · exact hz_okDd (hz_dec (hz_e6 h0))
    · exact hz_okDd (hz_dec (hz_e7 h0))
    · exact hz_okDd (hz_dec (hz_e8 h0))
  · exact hz_okDd (hz_dec (hz_e21 (hz_b1k hL h).1 (hz_b1k hL h).2))
  · exact hz_okDd (hz_dec (hz_e22 (hz_b1k hL h).1 (hz_b1k hL h).2))
  · exact hz_okDd (hz_dec (hz_e25 (hz_b1k hL h).1 (hz_b1k hL h).2))
  · exact hz_okDd (hz_dec (hz_e54 (hz_b1k hL h).1 (hz_b1k hL h).2))
  · exact hz_okDd (hz_dec (hz_e55 (hz_b1k hL h).1 (hz_b1k hL h).2))
  · exact hz_okDd (hz_dec (hz_e58 (hz_b1k hL h).1 (hz_b1k hL h).2))
  · exact hz_okDd (hz_dec (hz_e18 (hz_b1k hL h).1 (hz_b1k hL h).2))
  · obtain ⟨k, h0, h1, rfl⟩ := hz_b1sk hL h
    exact hz_okDd (hz_dec (hz_e16 h0 h1))
  · obtain ⟨x, y, h0, h1, h2, rfl⟩ := hz_b2k hL h
    exact hz_okDd (hz_dec (hz_e19 h0 h1 h2))
  · obtain ⟨x, y, h0, h1, h2, rfl⟩ := hz_b2k hL h
    exact hz_okDd (hz_dec (hz_e20 h0 h1 h2))
  · obtain ⟨x, y, h0, h1, h2, rfl⟩ := hz_b2k hL h
    exact hz_okDd (hz_dec (hz_e180 h0 h1 h2))
  · obtain ⟨x, y, h0, h1, h2, rfl⟩ := hz_b2k hL h
    exact hz_okDd (hz_dec (hz_e181 h0 h1 h2))
  · obtain ⟨x, y, h0, h1, h2, rfl⟩ := hz_b2k hL h
    exact hz_okDd (hz_dec (hz_e182 h0 h1 h2))
  · obtain ⟨x, y, h0, h1, h2, rfl⟩ := hz_b2k hL h
    exact hz_okDd (hz_dec (hz_e184 h0 h1 h2))
  · obtain ⟨x, y, h0, h1, h2, rfl⟩ := hz_b2sk hL h
    exact hz_okDd (hz_dec (hz_e153 h0 h1 h2))
  · obtain ⟨x, y, h0, h1, h2, rfl⟩ := hz_b2sk hL h
    exact hz_okDd (hz_dec (hz_e154 h0 h1 h2))
  · obtain ⟨x, y, h0, h1, h2, rfl⟩ := hz_b2sk hL h
    exact hz_okDd (hz_dec (hz_e155 h0 h1 h2))
  · obtain ⟨x, y, h0, h1, h2, rfl⟩ := hz_b2sk hL h
    exact hz_okDd (hz_dec (hz_e156 h0 h1 h2))
  · obtain ⟨x, y, h0, h1, h2, rfl⟩ := hz_b2sk hL h
    exact hz_okDd (hz_dec (hz_e157 h0 h1 h2))
  · obtain ⟨x, y, h0, h1, h2, rfl⟩ := hz_b2sk hL h
    exact hz_okDd (hz_dec (hz_e158 h0 h1 h2))
  · obtain ⟨x, y, h0, h1, h2, rfl⟩ := hz_b2sk hL h
    exact hz_okDd (hz_dec (hz_e159 h0 h1 h2))
  · obtain ⟨x, y, h0, h1, h2, rfl⟩ := hz_b2sk hL h
    exact hz_okDd (hz_dec (hz_e160 h0 h1 h2))
  · obtain ⟨x, y, h0, h1, h2, rfl⟩ := hz_b2sk hL h
    exact hz_okDd (hz_dec (hz_e161 h0 h1 h2))
  · obtain ⟨x, y, h0, h1, h2, rfl⟩ := hz_b2sk hL h
    exact hz_okDd (hz_dec (hz_e162 h0 h1 h2))
  · obtain ⟨x, y, h0, h1, h2, rfl⟩ := hz_b2sk hL h
    exact hz_okDd (hz_dec (hz_e163 h0 h1 h2))
  · obtain ⟨x, y, h0, h1, h2, rfl⟩ := hz_b2sk hL h
    exact hz_okDd (hz_dec (hz_e164 h0 h1 h2))
  · obtain ⟨x, y, h0, h1, h2, rfl⟩ := hz_b2sk hL h
    exact hz_okDd (hz_dec (hz_e167 h0 h1 h2))
  · obtain ⟨x, y, h0, h1, h2, rfl⟩ := hz_b2sk hL h
    exact hz_okDd (hz_dec (hz_e17 h0 h1 h2))
  · obtain ⟨y, h0, h1, h2, rfl⟩ := hz_b3k hL h
    exact hz_okDd (hz_dec (hz_e132 h0 h1 h2))
  · exact h
  · exact h
  · cases h
/-- all that stands in a list of places, one after another -/
def hz_okP (b : ByteArray) (fr lc : Nat) : List UInt8 → Nat → List hzE → Bool
  | _, _, [] => true
  | L, p, e :: B => Nat.ble p e.1 && (hz_okE b e.1 (L.drop (e.1 - p)) e.2.1 && hz_okA fr lc e.1 e.2.1 e.2.2.1 e.2.2.2.1 e.2.2.2.2.1) && hz_okP b fr lc (L.drop (e.1 - p)) e.1 B
theorem hz_okP_ok {b : ByteArray} {fr lc : Nat} : ∀ (B : List hzE) (L : List UInt8) (p : Nat), b.data.toList.drop p = L → hz_okP b fr lc L p B = true → ∀ e ∈ B, (hz_okD b e.1 e.2.1 && hz_okA fr lc e.1 e.2.1 e.2.2.1 e.2.2.2.1 e.2.2.2.2.1) = true
  | [], _, _, _, _, e, he => absurd he List.not_mem_nil
  | e0 :: B, L, p, hL, h, e, he => by
    rw [hz_okP, Bool.and_eq_true, Bool.and_eq_true, Bool.and_eq_true] at h
    have hp : p ≤ e0.1 := Nat.le_of_ble_eq_true h.1.1
    have hL' : b.data.toList.drop e0.1 = L.drop (e0.1 - p) := by
      rw [← hL, List.drop_drop, show p + (e0.1 - p) = e0.1 by omega]
    rcases List.mem_cons.mp he with q | q
    · subst q
      rw [Bool.and_eq_true]
      exact ⟨hz_okE_ok hL' h.1.2.1, h.1.2.2⟩
    · exact hz_okP_ok B _ _ hL' h.2 e q
def hz_okQ (k : Nat) : Bool := match hzM[k]? with
  | some (_, b, _, _, _, fr, lc, _, _) => hz_okP b fr lc b.data.toList 0 (hzCf k).flatten
  | none => false
theorem hz_okQ_ok {k : Nat} (h : hz_okQ k = true) : hz_okC k = true := by
  unfold hz_okQ at h
  unfold hz_okC
  split at h
  · rename_i y b nL ret rc fr lc cs hh e
    rw [e]
    show List.all _ _ = true
    rw [List.all_eq_true]
    intro B hB
    rw [List.all_eq_true]
    intro x hx
    exact hz_okP_ok _ _ 0 rfl h x (List.mem_flatten.mpr ⟨B, hB, hx⟩)
  · cases h
theorem hz_okQ_all {L : List Nat} (h : L.all hz_okQ = true) : L.all hz_okC = true := List.all_eq_true.mpr fun k hk => hz_okQ_ok (List.all_eq_true.mp h k hk)

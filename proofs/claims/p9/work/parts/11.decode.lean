/-! decode, an opcode a row: so that a method's own rows ask for single bytes alone. -/
/-- the byte at a place -/
def obA (b : ByteArray) (pc : Nat) : Nat := (b.data.toList.getD pc 0).toNat
def lnA (b : ByteArray) : Nat := b.data.toList.length
theorem u1_at {b : ByteArray} {pc : Nat} (h : pc < lnA b) : (Reader.u1 : Decoder Nat) b pc = .ok (obA b pc, pc + 1) := by
  have h' : pc < b.size := h
  have e : b[pc].toNat = obA b pc := by
    unfold obA
    rw [List.getD_eq_getElem?_getD, Array.getElem?_toList, Array.getElem?_eq_getElem (by simpa [lnA] using h)]
    rfl
  simp [Reader.u1, bind, ReaderT.bind, StateT.bind, Except.bind, MonadReader.read, readThe, MonadReaderOf.read, ReaderT.read, get, getThe, MonadStateOf.get, StateT.get, set, StateT.set, Pure.pure, ReaderT.pure, StateT.pure, Except.pure, monadLift, MonadLift.monadLift, liftM, h', e]
theorem run_bind {α β : Type} {x : Decoder α} {f : α → Decoder β} {b : ByteArray} {pc p : Nat} {v : α} (h : x b pc = .ok (v, p)) : (Bind.bind x f) b pc = f v b p := by
  simp only [Bind.bind, ReaderT.bind, StateT.bind, Except.bind, h]
theorem run_map {α β : Type} {x : Decoder α} {f : α → β} {b : ByteArray} {pc p : Nat} {v : α} (h : x b pc = .ok (v, p)) : (Functor.map f x : Decoder β) b pc = .ok (f v, p) := by
  simp [Functor.map, ReaderT.run, StateT.map, Bind.bind, ReaderT.bind, StateT.bind, Except.bind, h, Pure.pure, Except.pure]
theorem u2_at {b : ByteArray} {pc v w : Nat} (h : pc + 1 < lnA b) (h1 : obA b pc = v) (h2 : obA b (pc + 1) = w) : (Reader.u2 : Decoder Nat) b pc = .ok (v * 256 + w, pc + 2) := by
  unfold Reader.u2
  refine (run_bind (v := v) (p := pc + 1) (by rw [u1_at (by omega), h1])).trans ?_
  refine (run_bind (v := w) (p := pc + 2) (by rw [u1_at h, h2])).trans ?_
  rfl
theorem s1_at {b : ByteArray} {pc v : Nat} (h : pc < lnA b) (h1 : obA b pc = v) : (Reader.s1 : Decoder Int) b pc = .ok (Reader.signed 8 v, pc + 1) := by
  unfold Reader.s1
  exact run_map (by rw [u1_at h, h1])
theorem s2_at {b : ByteArray} {pc v w : Nat} (h : pc + 1 < lnA b) (h1 : obA b pc = v) (h2 : obA b (pc + 1) = w) : (Reader.s2 : Decoder Int) b pc = .ok (Reader.signed 16 (v * 256 + w), pc + 2) := by
  unfold Reader.s2
  exact run_map (u2_at h h1 h2)
theorem dec_of {b : ByteArray} {pc : Nat} {i : Instr} {n : Nat} (hi : (Decoder.instr pc) b pc = .ok (i, pc + n)) : decode b pc = .ok (i, n) := by
  unfold decode Reader.runAt
  show (do let (instr, next) ← (Decoder.instr pc) b pc; pure (instr, next - pc) : Except DecodeError (Instr × Nat)) = _
  rw [hi]
  show Except.ok (i, pc + n - pc) = _
  rw [Nat.add_sub_cancel_left]
theorem D0_2 {b : ByteArray} {pc : Nat} (h : pc < lnA b) (ho : obA b pc = 2) : decode b pc = .ok (.iconst (-1), 1) := by
  refine dec_of ?_
  unfold Decoder.instr
  refine (run_bind (v := 2) (p := pc + 1) (by rw [u1_at (by omega), ho])).trans ?_
  rfl
theorem D0_3 {b : ByteArray} {pc : Nat} (h : pc < lnA b) (ho : obA b pc = 3) : decode b pc = .ok (.iconst 0, 1) := by
  refine dec_of ?_
  unfold Decoder.instr
  refine (run_bind (v := 3) (p := pc + 1) (by rw [u1_at (by omega), ho])).trans ?_
  rfl
theorem D0_4 {b : ByteArray} {pc : Nat} (h : pc < lnA b) (ho : obA b pc = 4) : decode b pc = .ok (.iconst 1, 1) := by
  refine dec_of ?_
  unfold Decoder.instr
  refine (run_bind (v := 4) (p := pc + 1) (by rw [u1_at (by omega), ho])).trans ?_
  rfl
theorem D0_5 {b : ByteArray} {pc : Nat} (h : pc < lnA b) (ho : obA b pc = 5) : decode b pc = .ok (.iconst 2, 1) := by
  refine dec_of ?_
  unfold Decoder.instr
  refine (run_bind (v := 5) (p := pc + 1) (by rw [u1_at (by omega), ho])).trans ?_
  rfl
theorem D0_6 {b : ByteArray} {pc : Nat} (h : pc < lnA b) (ho : obA b pc = 6) : decode b pc = .ok (.iconst 3, 1) := by
  refine dec_of ?_
  unfold Decoder.instr
  refine (run_bind (v := 6) (p := pc + 1) (by rw [u1_at (by omega), ho])).trans ?_
  rfl
theorem D0_7 {b : ByteArray} {pc : Nat} (h : pc < lnA b) (ho : obA b pc = 7) : decode b pc = .ok (.iconst 4, 1) := by
  refine dec_of ?_
  unfold Decoder.instr
  refine (run_bind (v := 7) (p := pc + 1) (by rw [u1_at (by omega), ho])).trans ?_
  rfl
theorem D0_8 {b : ByteArray} {pc : Nat} (h : pc < lnA b) (ho : obA b pc = 8) : decode b pc = .ok (.iconst 5, 1) := by
  refine dec_of ?_
  unfold Decoder.instr
  refine (run_bind (v := 8) (p := pc + 1) (by rw [u1_at (by omega), ho])).trans ?_
  rfl
theorem D0_9 {b : ByteArray} {pc : Nat} (h : pc < lnA b) (ho : obA b pc = 9) : decode b pc = .ok (.lconst 0, 1) := by
  refine dec_of ?_
  unfold Decoder.instr
  refine (run_bind (v := 9) (p := pc + 1) (by rw [u1_at (by omega), ho])).trans ?_
  rfl
theorem D0_10 {b : ByteArray} {pc : Nat} (h : pc < lnA b) (ho : obA b pc = 10) : decode b pc = .ok (.lconst 1, 1) := by
  refine dec_of ?_
  unfold Decoder.instr
  refine (run_bind (v := 10) (p := pc + 1) (by rw [u1_at (by omega), ho])).trans ?_
  rfl
theorem D1_16 {b : ByteArray} {pc v : Nat} {z : Int} (h : pc + 1 < lnA b) (ho : obA b pc = 16) (h1 : obA b (pc + 1) = v) (hz : Reader.signed 8 v = z) : decode b pc = .ok (.bipush z, 2) := by
  refine dec_of ?_
  unfold Decoder.instr
  refine (run_bind (v := 16) (p := pc + 1) (by rw [u1_at (by omega), ho])).trans ?_
  subst hz
  refine (run_bind (v := Reader.signed 8 v) (p := pc + 2) (s1_at h h1)).trans ?_
  rfl
theorem D2_17 {b : ByteArray} {pc v w : Nat} {z : Int} (h : pc + 2 < lnA b) (ho : obA b pc = 17) (h1 : obA b (pc + 1) = v) (h2 : obA b (pc + 2) = w) (hz : Reader.signed 16 (v * 256 + w) = z) : decode b pc = .ok (.sipush z, 3) := by
  refine dec_of ?_
  unfold Decoder.instr
  refine (run_bind (v := 17) (p := pc + 1) (by rw [u1_at (by omega), ho])).trans ?_
  subst hz
  refine (run_bind (v := Reader.signed 16 (v * 256 + w)) (p := pc + 3) (s2_at (pc := pc + 1) h h1 h2)).trans ?_
  rfl
theorem D1_18 {b : ByteArray} {pc v : Nat} (h : pc + 1 < lnA b) (ho : obA b pc = 18) (h1 : obA b (pc + 1) = v) : decode b pc = .ok (.ldc v, 2) := by
  refine dec_of ?_
  unfold Decoder.instr
  refine (run_bind (v := 18) (p := pc + 1) (by rw [u1_at (by omega), ho])).trans ?_
  refine (run_bind (v := v) (p := pc + 2) (by rw [u1_at h, h1])).trans ?_
  rfl
theorem D2_20 {b : ByteArray} {pc v w x : Nat} (h : pc + 2 < lnA b) (ho : obA b pc = 20) (h1 : obA b (pc + 1) = v) (h2 : obA b (pc + 2) = w) (hx : v * 256 + w = x) : decode b pc = .ok (.ldc2_w x, 3) := by
  refine dec_of ?_
  unfold Decoder.instr
  refine (run_bind (v := 20) (p := pc + 1) (by rw [u1_at (by omega), ho])).trans ?_
  subst hx
  refine (run_bind (v := v * 256 + w) (p := pc + 3) (u2_at (pc := pc + 1) h h1 h2)).trans ?_
  rfl
theorem D1_21 {b : ByteArray} {pc v : Nat} (h : pc + 1 < lnA b) (ho : obA b pc = 21) (h1 : obA b (pc + 1) = v) : decode b pc = .ok (.iload v, 2) := by
  refine dec_of ?_
  unfold Decoder.instr
  refine (run_bind (v := 21) (p := pc + 1) (by rw [u1_at (by omega), ho])).trans ?_
  refine (run_bind (v := v) (p := pc + 2) (by rw [u1_at h, h1])).trans ?_
  rfl
theorem D1_22 {b : ByteArray} {pc v : Nat} (h : pc + 1 < lnA b) (ho : obA b pc = 22) (h1 : obA b (pc + 1) = v) : decode b pc = .ok (.lload v, 2) := by
  refine dec_of ?_
  unfold Decoder.instr
  refine (run_bind (v := 22) (p := pc + 1) (by rw [u1_at (by omega), ho])).trans ?_
  refine (run_bind (v := v) (p := pc + 2) (by rw [u1_at h, h1])).trans ?_
  rfl
theorem D1_25 {b : ByteArray} {pc v : Nat} (h : pc + 1 < lnA b) (ho : obA b pc = 25) (h1 : obA b (pc + 1) = v) : decode b pc = .ok (.aload v, 2) := by
  refine dec_of ?_
  unfold Decoder.instr
  refine (run_bind (v := 25) (p := pc + 1) (by rw [u1_at (by omega), ho])).trans ?_
  refine (run_bind (v := v) (p := pc + 2) (by rw [u1_at h, h1])).trans ?_
  rfl
theorem D0_26 {b : ByteArray} {pc : Nat} (h : pc < lnA b) (ho : obA b pc = 26) : decode b pc = .ok (.iload_n 0, 1) := by
  refine dec_of ?_
  unfold Decoder.instr
  refine (run_bind (v := 26) (p := pc + 1) (by rw [u1_at (by omega), ho])).trans ?_
  rfl
theorem D0_27 {b : ByteArray} {pc : Nat} (h : pc < lnA b) (ho : obA b pc = 27) : decode b pc = .ok (.iload_n 1, 1) := by
  refine dec_of ?_
  unfold Decoder.instr
  refine (run_bind (v := 27) (p := pc + 1) (by rw [u1_at (by omega), ho])).trans ?_
  rfl
theorem D0_28 {b : ByteArray} {pc : Nat} (h : pc < lnA b) (ho : obA b pc = 28) : decode b pc = .ok (.iload_n 2, 1) := by
  refine dec_of ?_
  unfold Decoder.instr
  refine (run_bind (v := 28) (p := pc + 1) (by rw [u1_at (by omega), ho])).trans ?_
  rfl
theorem D0_29 {b : ByteArray} {pc : Nat} (h : pc < lnA b) (ho : obA b pc = 29) : decode b pc = .ok (.iload_n 3, 1) := by
  refine dec_of ?_
  unfold Decoder.instr
  refine (run_bind (v := 29) (p := pc + 1) (by rw [u1_at (by omega), ho])).trans ?_
  rfl
theorem D0_30 {b : ByteArray} {pc : Nat} (h : pc < lnA b) (ho : obA b pc = 30) : decode b pc = .ok (.lload_n 0, 1) := by
  refine dec_of ?_
  unfold Decoder.instr
  refine (run_bind (v := 30) (p := pc + 1) (by rw [u1_at (by omega), ho])).trans ?_
  rfl
theorem D0_31 {b : ByteArray} {pc : Nat} (h : pc < lnA b) (ho : obA b pc = 31) : decode b pc = .ok (.lload_n 1, 1) := by
  refine dec_of ?_
  unfold Decoder.instr
  refine (run_bind (v := 31) (p := pc + 1) (by rw [u1_at (by omega), ho])).trans ?_
  rfl
theorem D0_32 {b : ByteArray} {pc : Nat} (h : pc < lnA b) (ho : obA b pc = 32) : decode b pc = .ok (.lload_n 2, 1) := by
  refine dec_of ?_
  unfold Decoder.instr
  refine (run_bind (v := 32) (p := pc + 1) (by rw [u1_at (by omega), ho])).trans ?_
  rfl
theorem D0_33 {b : ByteArray} {pc : Nat} (h : pc < lnA b) (ho : obA b pc = 33) : decode b pc = .ok (.lload_n 3, 1) := by
  refine dec_of ?_
  unfold Decoder.instr
  refine (run_bind (v := 33) (p := pc + 1) (by rw [u1_at (by omega), ho])).trans ?_
  rfl
theorem D0_42 {b : ByteArray} {pc : Nat} (h : pc < lnA b) (ho : obA b pc = 42) : decode b pc = .ok (.aload_n 0, 1) := by
  refine dec_of ?_
  unfold Decoder.instr
  refine (run_bind (v := 42) (p := pc + 1) (by rw [u1_at (by omega), ho])).trans ?_
  rfl
theorem D0_43 {b : ByteArray} {pc : Nat} (h : pc < lnA b) (ho : obA b pc = 43) : decode b pc = .ok (.aload_n 1, 1) := by
  refine dec_of ?_
  unfold Decoder.instr
  refine (run_bind (v := 43) (p := pc + 1) (by rw [u1_at (by omega), ho])).trans ?_
  rfl
theorem D0_44 {b : ByteArray} {pc : Nat} (h : pc < lnA b) (ho : obA b pc = 44) : decode b pc = .ok (.aload_n 2, 1) := by
  refine dec_of ?_
  unfold Decoder.instr
  refine (run_bind (v := 44) (p := pc + 1) (by rw [u1_at (by omega), ho])).trans ?_
  rfl
theorem D0_45 {b : ByteArray} {pc : Nat} (h : pc < lnA b) (ho : obA b pc = 45) : decode b pc = .ok (.aload_n 3, 1) := by
  refine dec_of ?_
  unfold Decoder.instr
  refine (run_bind (v := 45) (p := pc + 1) (by rw [u1_at (by omega), ho])).trans ?_
  rfl
theorem D0_46 {b : ByteArray} {pc : Nat} (h : pc < lnA b) (ho : obA b pc = 46) : decode b pc = .ok (.iaload, 1) := by
  refine dec_of ?_
  unfold Decoder.instr
  refine (run_bind (v := 46) (p := pc + 1) (by rw [u1_at (by omega), ho])).trans ?_
  rfl
theorem D0_47 {b : ByteArray} {pc : Nat} (h : pc < lnA b) (ho : obA b pc = 47) : decode b pc = .ok (.laload, 1) := by
  refine dec_of ?_
  unfold Decoder.instr
  refine (run_bind (v := 47) (p := pc + 1) (by rw [u1_at (by omega), ho])).trans ?_
  rfl
theorem D0_50 {b : ByteArray} {pc : Nat} (h : pc < lnA b) (ho : obA b pc = 50) : decode b pc = .ok (.aaload, 1) := by
  refine dec_of ?_
  unfold Decoder.instr
  refine (run_bind (v := 50) (p := pc + 1) (by rw [u1_at (by omega), ho])).trans ?_
  rfl
theorem D0_51 {b : ByteArray} {pc : Nat} (h : pc < lnA b) (ho : obA b pc = 51) : decode b pc = .ok (.baload, 1) := by
  refine dec_of ?_
  unfold Decoder.instr
  refine (run_bind (v := 51) (p := pc + 1) (by rw [u1_at (by omega), ho])).trans ?_
  rfl
theorem D1_54 {b : ByteArray} {pc v : Nat} (h : pc + 1 < lnA b) (ho : obA b pc = 54) (h1 : obA b (pc + 1) = v) : decode b pc = .ok (.istore v, 2) := by
  refine dec_of ?_
  unfold Decoder.instr
  refine (run_bind (v := 54) (p := pc + 1) (by rw [u1_at (by omega), ho])).trans ?_
  refine (run_bind (v := v) (p := pc + 2) (by rw [u1_at h, h1])).trans ?_
  rfl
theorem D1_55 {b : ByteArray} {pc v : Nat} (h : pc + 1 < lnA b) (ho : obA b pc = 55) (h1 : obA b (pc + 1) = v) : decode b pc = .ok (.lstore v, 2) := by
  refine dec_of ?_
  unfold Decoder.instr
  refine (run_bind (v := 55) (p := pc + 1) (by rw [u1_at (by omega), ho])).trans ?_
  refine (run_bind (v := v) (p := pc + 2) (by rw [u1_at h, h1])).trans ?_
  rfl
theorem D1_58 {b : ByteArray} {pc v : Nat} (h : pc + 1 < lnA b) (ho : obA b pc = 58) (h1 : obA b (pc + 1) = v) : decode b pc = .ok (.astore v, 2) := by
  refine dec_of ?_
  unfold Decoder.instr
  refine (run_bind (v := 58) (p := pc + 1) (by rw [u1_at (by omega), ho])).trans ?_
  refine (run_bind (v := v) (p := pc + 2) (by rw [u1_at h, h1])).trans ?_
  rfl
theorem D0_60 {b : ByteArray} {pc : Nat} (h : pc < lnA b) (ho : obA b pc = 60) : decode b pc = .ok (.istore_n 1, 1) := by
  refine dec_of ?_
  unfold Decoder.instr
  refine (run_bind (v := 60) (p := pc + 1) (by rw [u1_at (by omega), ho])).trans ?_
  rfl
theorem D0_61 {b : ByteArray} {pc : Nat} (h : pc < lnA b) (ho : obA b pc = 61) : decode b pc = .ok (.istore_n 2, 1) := by
  refine dec_of ?_
  unfold Decoder.instr
  refine (run_bind (v := 61) (p := pc + 1) (by rw [u1_at (by omega), ho])).trans ?_
  rfl
theorem D0_62 {b : ByteArray} {pc : Nat} (h : pc < lnA b) (ho : obA b pc = 62) : decode b pc = .ok (.istore_n 3, 1) := by
  refine dec_of ?_
  unfold Decoder.instr
  refine (run_bind (v := 62) (p := pc + 1) (by rw [u1_at (by omega), ho])).trans ?_
  rfl
theorem D0_64 {b : ByteArray} {pc : Nat} (h : pc < lnA b) (ho : obA b pc = 64) : decode b pc = .ok (.lstore_n 1, 1) := by
  refine dec_of ?_
  unfold Decoder.instr
  refine (run_bind (v := 64) (p := pc + 1) (by rw [u1_at (by omega), ho])).trans ?_
  rfl
theorem D0_65 {b : ByteArray} {pc : Nat} (h : pc < lnA b) (ho : obA b pc = 65) : decode b pc = .ok (.lstore_n 2, 1) := by
  refine dec_of ?_
  unfold Decoder.instr
  refine (run_bind (v := 65) (p := pc + 1) (by rw [u1_at (by omega), ho])).trans ?_
  rfl
theorem D0_66 {b : ByteArray} {pc : Nat} (h : pc < lnA b) (ho : obA b pc = 66) : decode b pc = .ok (.lstore_n 3, 1) := by
  refine dec_of ?_
  unfold Decoder.instr
  refine (run_bind (v := 66) (p := pc + 1) (by rw [u1_at (by omega), ho])).trans ?_
  rfl
theorem D0_76 {b : ByteArray} {pc : Nat} (h : pc < lnA b) (ho : obA b pc = 76) : decode b pc = .ok (.astore_n 1, 1) := by
  refine dec_of ?_
  unfold Decoder.instr
  refine (run_bind (v := 76) (p := pc + 1) (by rw [u1_at (by omega), ho])).trans ?_
  rfl
theorem D0_77 {b : ByteArray} {pc : Nat} (h : pc < lnA b) (ho : obA b pc = 77) : decode b pc = .ok (.astore_n 2, 1) := by
  refine dec_of ?_
  unfold Decoder.instr
  refine (run_bind (v := 77) (p := pc + 1) (by rw [u1_at (by omega), ho])).trans ?_
  rfl
theorem D0_78 {b : ByteArray} {pc : Nat} (h : pc < lnA b) (ho : obA b pc = 78) : decode b pc = .ok (.astore_n 3, 1) := by
  refine dec_of ?_
  unfold Decoder.instr
  refine (run_bind (v := 78) (p := pc + 1) (by rw [u1_at (by omega), ho])).trans ?_
  rfl
theorem D0_79 {b : ByteArray} {pc : Nat} (h : pc < lnA b) (ho : obA b pc = 79) : decode b pc = .ok (.iastore, 1) := by
  refine dec_of ?_
  unfold Decoder.instr
  refine (run_bind (v := 79) (p := pc + 1) (by rw [u1_at (by omega), ho])).trans ?_
  rfl
theorem D0_80 {b : ByteArray} {pc : Nat} (h : pc < lnA b) (ho : obA b pc = 80) : decode b pc = .ok (.lastore, 1) := by
  refine dec_of ?_
  unfold Decoder.instr
  refine (run_bind (v := 80) (p := pc + 1) (by rw [u1_at (by omega), ho])).trans ?_
  rfl
theorem D0_83 {b : ByteArray} {pc : Nat} (h : pc < lnA b) (ho : obA b pc = 83) : decode b pc = .ok (.aastore, 1) := by
  refine dec_of ?_
  unfold Decoder.instr
  refine (run_bind (v := 83) (p := pc + 1) (by rw [u1_at (by omega), ho])).trans ?_
  rfl
theorem D0_84 {b : ByteArray} {pc : Nat} (h : pc < lnA b) (ho : obA b pc = 84) : decode b pc = .ok (.bastore, 1) := by
  refine dec_of ?_
  unfold Decoder.instr
  refine (run_bind (v := 84) (p := pc + 1) (by rw [u1_at (by omega), ho])).trans ?_
  rfl
theorem D0_87 {b : ByteArray} {pc : Nat} (h : pc < lnA b) (ho : obA b pc = 87) : decode b pc = .ok (.pop, 1) := by
  refine dec_of ?_
  unfold Decoder.instr
  refine (run_bind (v := 87) (p := pc + 1) (by rw [u1_at (by omega), ho])).trans ?_
  rfl
theorem D0_89 {b : ByteArray} {pc : Nat} (h : pc < lnA b) (ho : obA b pc = 89) : decode b pc = .ok (.dup, 1) := by
  refine dec_of ?_
  unfold Decoder.instr
  refine (run_bind (v := 89) (p := pc + 1) (by rw [u1_at (by omega), ho])).trans ?_
  rfl
theorem D0_92 {b : ByteArray} {pc : Nat} (h : pc < lnA b) (ho : obA b pc = 92) : decode b pc = .ok (.dup2, 1) := by
  refine dec_of ?_
  unfold Decoder.instr
  refine (run_bind (v := 92) (p := pc + 1) (by rw [u1_at (by omega), ho])).trans ?_
  rfl
theorem D0_96 {b : ByteArray} {pc : Nat} (h : pc < lnA b) (ho : obA b pc = 96) : decode b pc = .ok (.iadd, 1) := by
  refine dec_of ?_
  unfold Decoder.instr
  refine (run_bind (v := 96) (p := pc + 1) (by rw [u1_at (by omega), ho])).trans ?_
  rfl
theorem D0_97 {b : ByteArray} {pc : Nat} (h : pc < lnA b) (ho : obA b pc = 97) : decode b pc = .ok (.ladd, 1) := by
  refine dec_of ?_
  unfold Decoder.instr
  refine (run_bind (v := 97) (p := pc + 1) (by rw [u1_at (by omega), ho])).trans ?_
  rfl
theorem D0_100 {b : ByteArray} {pc : Nat} (h : pc < lnA b) (ho : obA b pc = 100) : decode b pc = .ok (.isub, 1) := by
  refine dec_of ?_
  unfold Decoder.instr
  refine (run_bind (v := 100) (p := pc + 1) (by rw [u1_at (by omega), ho])).trans ?_
  rfl
theorem D0_101 {b : ByteArray} {pc : Nat} (h : pc < lnA b) (ho : obA b pc = 101) : decode b pc = .ok (.lsub, 1) := by
  refine dec_of ?_
  unfold Decoder.instr
  refine (run_bind (v := 101) (p := pc + 1) (by rw [u1_at (by omega), ho])).trans ?_
  rfl
theorem D0_104 {b : ByteArray} {pc : Nat} (h : pc < lnA b) (ho : obA b pc = 104) : decode b pc = .ok (.imul, 1) := by
  refine dec_of ?_
  unfold Decoder.instr
  refine (run_bind (v := 104) (p := pc + 1) (by rw [u1_at (by omega), ho])).trans ?_
  rfl
theorem D0_105 {b : ByteArray} {pc : Nat} (h : pc < lnA b) (ho : obA b pc = 105) : decode b pc = .ok (.lmul, 1) := by
  refine dec_of ?_
  unfold Decoder.instr
  refine (run_bind (v := 105) (p := pc + 1) (by rw [u1_at (by omega), ho])).trans ?_
  rfl
theorem D0_108 {b : ByteArray} {pc : Nat} (h : pc < lnA b) (ho : obA b pc = 108) : decode b pc = .ok (.idiv, 1) := by
  refine dec_of ?_
  unfold Decoder.instr
  refine (run_bind (v := 108) (p := pc + 1) (by rw [u1_at (by omega), ho])).trans ?_
  rfl
theorem D0_112 {b : ByteArray} {pc : Nat} (h : pc < lnA b) (ho : obA b pc = 112) : decode b pc = .ok (.irem, 1) := by
  refine dec_of ?_
  unfold Decoder.instr
  refine (run_bind (v := 112) (p := pc + 1) (by rw [u1_at (by omega), ho])).trans ?_
  rfl
theorem D0_117 {b : ByteArray} {pc : Nat} (h : pc < lnA b) (ho : obA b pc = 117) : decode b pc = .ok (.lneg, 1) := by
  refine dec_of ?_
  unfold Decoder.instr
  refine (run_bind (v := 117) (p := pc + 1) (by rw [u1_at (by omega), ho])).trans ?_
  rfl
theorem D0_120 {b : ByteArray} {pc : Nat} (h : pc < lnA b) (ho : obA b pc = 120) : decode b pc = .ok (.ishl, 1) := by
  refine dec_of ?_
  unfold Decoder.instr
  refine (run_bind (v := 120) (p := pc + 1) (by rw [u1_at (by omega), ho])).trans ?_
  rfl
theorem D0_121 {b : ByteArray} {pc : Nat} (h : pc < lnA b) (ho : obA b pc = 121) : decode b pc = .ok (.lshl, 1) := by
  refine dec_of ?_
  unfold Decoder.instr
  refine (run_bind (v := 121) (p := pc + 1) (by rw [u1_at (by omega), ho])).trans ?_
  rfl
theorem D0_122 {b : ByteArray} {pc : Nat} (h : pc < lnA b) (ho : obA b pc = 122) : decode b pc = .ok (.ishr, 1) := by
  refine dec_of ?_
  unfold Decoder.instr
  refine (run_bind (v := 122) (p := pc + 1) (by rw [u1_at (by omega), ho])).trans ?_
  rfl
theorem D0_123 {b : ByteArray} {pc : Nat} (h : pc < lnA b) (ho : obA b pc = 123) : decode b pc = .ok (.lshr, 1) := by
  refine dec_of ?_
  unfold Decoder.instr
  refine (run_bind (v := 123) (p := pc + 1) (by rw [u1_at (by omega), ho])).trans ?_
  rfl
theorem D0_124 {b : ByteArray} {pc : Nat} (h : pc < lnA b) (ho : obA b pc = 124) : decode b pc = .ok (.iushr, 1) := by
  refine dec_of ?_
  unfold Decoder.instr
  refine (run_bind (v := 124) (p := pc + 1) (by rw [u1_at (by omega), ho])).trans ?_
  rfl
theorem D0_125 {b : ByteArray} {pc : Nat} (h : pc < lnA b) (ho : obA b pc = 125) : decode b pc = .ok (.lushr, 1) := by
  refine dec_of ?_
  unfold Decoder.instr
  refine (run_bind (v := 125) (p := pc + 1) (by rw [u1_at (by omega), ho])).trans ?_
  rfl
theorem D0_126 {b : ByteArray} {pc : Nat} (h : pc < lnA b) (ho : obA b pc = 126) : decode b pc = .ok (.iand, 1) := by
  refine dec_of ?_
  unfold Decoder.instr
  refine (run_bind (v := 126) (p := pc + 1) (by rw [u1_at (by omega), ho])).trans ?_
  rfl
theorem D0_127 {b : ByteArray} {pc : Nat} (h : pc < lnA b) (ho : obA b pc = 127) : decode b pc = .ok (.land, 1) := by
  refine dec_of ?_
  unfold Decoder.instr
  refine (run_bind (v := 127) (p := pc + 1) (by rw [u1_at (by omega), ho])).trans ?_
  rfl
theorem D0_128 {b : ByteArray} {pc : Nat} (h : pc < lnA b) (ho : obA b pc = 128) : decode b pc = .ok (.ior, 1) := by
  refine dec_of ?_
  unfold Decoder.instr
  refine (run_bind (v := 128) (p := pc + 1) (by rw [u1_at (by omega), ho])).trans ?_
  rfl
theorem D0_129 {b : ByteArray} {pc : Nat} (h : pc < lnA b) (ho : obA b pc = 129) : decode b pc = .ok (.lor, 1) := by
  refine dec_of ?_
  unfold Decoder.instr
  refine (run_bind (v := 129) (p := pc + 1) (by rw [u1_at (by omega), ho])).trans ?_
  rfl
theorem D0_130 {b : ByteArray} {pc : Nat} (h : pc < lnA b) (ho : obA b pc = 130) : decode b pc = .ok (.ixor, 1) := by
  refine dec_of ?_
  unfold Decoder.instr
  refine (run_bind (v := 130) (p := pc + 1) (by rw [u1_at (by omega), ho])).trans ?_
  rfl
theorem D0_131 {b : ByteArray} {pc : Nat} (h : pc < lnA b) (ho : obA b pc = 131) : decode b pc = .ok (.lxor, 1) := by
  refine dec_of ?_
  unfold Decoder.instr
  refine (run_bind (v := 131) (p := pc + 1) (by rw [u1_at (by omega), ho])).trans ?_
  rfl
theorem D2_132 {b : ByteArray} {pc v w : Nat} {z : Int} (h : pc + 2 < lnA b) (ho : obA b pc = 132) (h1 : obA b (pc + 1) = v) (h2 : obA b (pc + 2) = w) (hz : Reader.signed 8 w = z) : decode b pc = .ok (.iinc v z, 3) := by
  refine dec_of ?_
  unfold Decoder.instr
  refine (run_bind (v := 132) (p := pc + 1) (by rw [u1_at (by omega), ho])).trans ?_
  subst hz
  refine (run_bind (v := v) (p := pc + 2) (by rw [u1_at (by omega), h1])).trans ?_
  refine (run_bind (v := Reader.signed 8 w) (p := pc + 3) (s1_at (pc := pc + 2) h h2)).trans ?_
  rfl
theorem D0_133 {b : ByteArray} {pc : Nat} (h : pc < lnA b) (ho : obA b pc = 133) : decode b pc = .ok (.i2l, 1) := by
  refine dec_of ?_
  unfold Decoder.instr
  refine (run_bind (v := 133) (p := pc + 1) (by rw [u1_at (by omega), ho])).trans ?_
  rfl
theorem D0_136 {b : ByteArray} {pc : Nat} (h : pc < lnA b) (ho : obA b pc = 136) : decode b pc = .ok (.l2i, 1) := by
  refine dec_of ?_
  unfold Decoder.instr
  refine (run_bind (v := 136) (p := pc + 1) (by rw [u1_at (by omega), ho])).trans ?_
  rfl
theorem D0_145 {b : ByteArray} {pc : Nat} (h : pc < lnA b) (ho : obA b pc = 145) : decode b pc = .ok (.i2b, 1) := by
  refine dec_of ?_
  unfold Decoder.instr
  refine (run_bind (v := 145) (p := pc + 1) (by rw [u1_at (by omega), ho])).trans ?_
  rfl
theorem D0_146 {b : ByteArray} {pc : Nat} (h : pc < lnA b) (ho : obA b pc = 146) : decode b pc = .ok (.i2c, 1) := by
  refine dec_of ?_
  unfold Decoder.instr
  refine (run_bind (v := 146) (p := pc + 1) (by rw [u1_at (by omega), ho])).trans ?_
  rfl
theorem D0_148 {b : ByteArray} {pc : Nat} (h : pc < lnA b) (ho : obA b pc = 148) : decode b pc = .ok (.lcmp, 1) := by
  refine dec_of ?_
  unfold Decoder.instr
  refine (run_bind (v := 148) (p := pc + 1) (by rw [u1_at (by omega), ho])).trans ?_
  rfl
theorem D2_153 {b : ByteArray} {pc v w : Nat} {z : Int} (h : pc + 2 < lnA b) (ho : obA b pc = 153) (h1 : obA b (pc + 1) = v) (h2 : obA b (pc + 2) = w) (hz : Reader.signed 16 (v * 256 + w) = z) : decode b pc = .ok (.ifCond .eq z, 3) := by
  refine dec_of ?_
  unfold Decoder.instr
  refine (run_bind (v := 153) (p := pc + 1) (by rw [u1_at (by omega), ho])).trans ?_
  subst hz
  refine (run_bind (v := Reader.signed 16 (v * 256 + w)) (p := pc + 3) (s2_at (pc := pc + 1) h h1 h2)).trans ?_
  rfl
theorem D2_154 {b : ByteArray} {pc v w : Nat} {z : Int} (h : pc + 2 < lnA b) (ho : obA b pc = 154) (h1 : obA b (pc + 1) = v) (h2 : obA b (pc + 2) = w) (hz : Reader.signed 16 (v * 256 + w) = z) : decode b pc = .ok (.ifCond .ne z, 3) := by
  refine dec_of ?_
  unfold Decoder.instr
  refine (run_bind (v := 154) (p := pc + 1) (by rw [u1_at (by omega), ho])).trans ?_
  subst hz
  refine (run_bind (v := Reader.signed 16 (v * 256 + w)) (p := pc + 3) (s2_at (pc := pc + 1) h h1 h2)).trans ?_
  rfl
theorem D2_155 {b : ByteArray} {pc v w : Nat} {z : Int} (h : pc + 2 < lnA b) (ho : obA b pc = 155) (h1 : obA b (pc + 1) = v) (h2 : obA b (pc + 2) = w) (hz : Reader.signed 16 (v * 256 + w) = z) : decode b pc = .ok (.ifCond .lt z, 3) := by
  refine dec_of ?_
  unfold Decoder.instr
  refine (run_bind (v := 155) (p := pc + 1) (by rw [u1_at (by omega), ho])).trans ?_
  subst hz
  refine (run_bind (v := Reader.signed 16 (v * 256 + w)) (p := pc + 3) (s2_at (pc := pc + 1) h h1 h2)).trans ?_
  rfl
theorem D2_156 {b : ByteArray} {pc v w : Nat} {z : Int} (h : pc + 2 < lnA b) (ho : obA b pc = 156) (h1 : obA b (pc + 1) = v) (h2 : obA b (pc + 2) = w) (hz : Reader.signed 16 (v * 256 + w) = z) : decode b pc = .ok (.ifCond .ge z, 3) := by
  refine dec_of ?_
  unfold Decoder.instr
  refine (run_bind (v := 156) (p := pc + 1) (by rw [u1_at (by omega), ho])).trans ?_
  subst hz
  refine (run_bind (v := Reader.signed 16 (v * 256 + w)) (p := pc + 3) (s2_at (pc := pc + 1) h h1 h2)).trans ?_
  rfl
theorem D2_158 {b : ByteArray} {pc v w : Nat} {z : Int} (h : pc + 2 < lnA b) (ho : obA b pc = 158) (h1 : obA b (pc + 1) = v) (h2 : obA b (pc + 2) = w) (hz : Reader.signed 16 (v * 256 + w) = z) : decode b pc = .ok (.ifCond .le z, 3) := by
  refine dec_of ?_
  unfold Decoder.instr
  refine (run_bind (v := 158) (p := pc + 1) (by rw [u1_at (by omega), ho])).trans ?_
  subst hz
  refine (run_bind (v := Reader.signed 16 (v * 256 + w)) (p := pc + 3) (s2_at (pc := pc + 1) h h1 h2)).trans ?_
  rfl
theorem D2_159 {b : ByteArray} {pc v w : Nat} {z : Int} (h : pc + 2 < lnA b) (ho : obA b pc = 159) (h1 : obA b (pc + 1) = v) (h2 : obA b (pc + 2) = w) (hz : Reader.signed 16 (v * 256 + w) = z) : decode b pc = .ok (.if_icmp .eq z, 3) := by
  refine dec_of ?_
  unfold Decoder.instr
  refine (run_bind (v := 159) (p := pc + 1) (by rw [u1_at (by omega), ho])).trans ?_
  subst hz
  refine (run_bind (v := Reader.signed 16 (v * 256 + w)) (p := pc + 3) (s2_at (pc := pc + 1) h h1 h2)).trans ?_
  rfl
theorem D2_160 {b : ByteArray} {pc v w : Nat} {z : Int} (h : pc + 2 < lnA b) (ho : obA b pc = 160) (h1 : obA b (pc + 1) = v) (h2 : obA b (pc + 2) = w) (hz : Reader.signed 16 (v * 256 + w) = z) : decode b pc = .ok (.if_icmp .ne z, 3) := by
  refine dec_of ?_
  unfold Decoder.instr
  refine (run_bind (v := 160) (p := pc + 1) (by rw [u1_at (by omega), ho])).trans ?_
  subst hz
  refine (run_bind (v := Reader.signed 16 (v * 256 + w)) (p := pc + 3) (s2_at (pc := pc + 1) h h1 h2)).trans ?_
  rfl
theorem D2_161 {b : ByteArray} {pc v w : Nat} {z : Int} (h : pc + 2 < lnA b) (ho : obA b pc = 161) (h1 : obA b (pc + 1) = v) (h2 : obA b (pc + 2) = w) (hz : Reader.signed 16 (v * 256 + w) = z) : decode b pc = .ok (.if_icmp .lt z, 3) := by
  refine dec_of ?_
  unfold Decoder.instr
  refine (run_bind (v := 161) (p := pc + 1) (by rw [u1_at (by omega), ho])).trans ?_
  subst hz
  refine (run_bind (v := Reader.signed 16 (v * 256 + w)) (p := pc + 3) (s2_at (pc := pc + 1) h h1 h2)).trans ?_
  rfl
theorem D2_162 {b : ByteArray} {pc v w : Nat} {z : Int} (h : pc + 2 < lnA b) (ho : obA b pc = 162) (h1 : obA b (pc + 1) = v) (h2 : obA b (pc + 2) = w) (hz : Reader.signed 16 (v * 256 + w) = z) : decode b pc = .ok (.if_icmp .ge z, 3) := by
  refine dec_of ?_
  unfold Decoder.instr
  refine (run_bind (v := 162) (p := pc + 1) (by rw [u1_at (by omega), ho])).trans ?_
  subst hz
  refine (run_bind (v := Reader.signed 16 (v * 256 + w)) (p := pc + 3) (s2_at (pc := pc + 1) h h1 h2)).trans ?_
  rfl
theorem D2_163 {b : ByteArray} {pc v w : Nat} {z : Int} (h : pc + 2 < lnA b) (ho : obA b pc = 163) (h1 : obA b (pc + 1) = v) (h2 : obA b (pc + 2) = w) (hz : Reader.signed 16 (v * 256 + w) = z) : decode b pc = .ok (.if_icmp .gt z, 3) := by
  refine dec_of ?_
  unfold Decoder.instr
  refine (run_bind (v := 163) (p := pc + 1) (by rw [u1_at (by omega), ho])).trans ?_
  subst hz
  refine (run_bind (v := Reader.signed 16 (v * 256 + w)) (p := pc + 3) (s2_at (pc := pc + 1) h h1 h2)).trans ?_
  rfl
theorem D2_164 {b : ByteArray} {pc v w : Nat} {z : Int} (h : pc + 2 < lnA b) (ho : obA b pc = 164) (h1 : obA b (pc + 1) = v) (h2 : obA b (pc + 2) = w) (hz : Reader.signed 16 (v * 256 + w) = z) : decode b pc = .ok (.if_icmp .le z, 3) := by
  refine dec_of ?_
  unfold Decoder.instr
  refine (run_bind (v := 164) (p := pc + 1) (by rw [u1_at (by omega), ho])).trans ?_
  subst hz
  refine (run_bind (v := Reader.signed 16 (v * 256 + w)) (p := pc + 3) (s2_at (pc := pc + 1) h h1 h2)).trans ?_
  rfl
theorem D2_167 {b : ByteArray} {pc v w : Nat} {z : Int} (h : pc + 2 < lnA b) (ho : obA b pc = 167) (h1 : obA b (pc + 1) = v) (h2 : obA b (pc + 2) = w) (hz : Reader.signed 16 (v * 256 + w) = z) : decode b pc = .ok (.goto z, 3) := by
  refine dec_of ?_
  unfold Decoder.instr
  refine (run_bind (v := 167) (p := pc + 1) (by rw [u1_at (by omega), ho])).trans ?_
  subst hz
  refine (run_bind (v := Reader.signed 16 (v * 256 + w)) (p := pc + 3) (s2_at (pc := pc + 1) h h1 h2)).trans ?_
  rfl
theorem D0_172 {b : ByteArray} {pc : Nat} (h : pc < lnA b) (ho : obA b pc = 172) : decode b pc = .ok (.ireturn, 1) := by
  refine dec_of ?_
  unfold Decoder.instr
  refine (run_bind (v := 172) (p := pc + 1) (by rw [u1_at (by omega), ho])).trans ?_
  rfl
theorem D0_173 {b : ByteArray} {pc : Nat} (h : pc < lnA b) (ho : obA b pc = 173) : decode b pc = .ok (.lreturn, 1) := by
  refine dec_of ?_
  unfold Decoder.instr
  refine (run_bind (v := 173) (p := pc + 1) (by rw [u1_at (by omega), ho])).trans ?_
  rfl
theorem D0_176 {b : ByteArray} {pc : Nat} (h : pc < lnA b) (ho : obA b pc = 176) : decode b pc = .ok (.areturn, 1) := by
  refine dec_of ?_
  unfold Decoder.instr
  refine (run_bind (v := 176) (p := pc + 1) (by rw [u1_at (by omega), ho])).trans ?_
  rfl
theorem D0_177 {b : ByteArray} {pc : Nat} (h : pc < lnA b) (ho : obA b pc = 177) : decode b pc = .ok (.return_, 1) := by
  refine dec_of ?_
  unfold Decoder.instr
  refine (run_bind (v := 177) (p := pc + 1) (by rw [u1_at (by omega), ho])).trans ?_
  rfl
theorem D2_178 {b : ByteArray} {pc v w x : Nat} (h : pc + 2 < lnA b) (ho : obA b pc = 178) (h1 : obA b (pc + 1) = v) (h2 : obA b (pc + 2) = w) (hx : v * 256 + w = x) : decode b pc = .ok (.getstatic x, 3) := by
  refine dec_of ?_
  unfold Decoder.instr
  refine (run_bind (v := 178) (p := pc + 1) (by rw [u1_at (by omega), ho])).trans ?_
  subst hx
  refine (run_bind (v := v * 256 + w) (p := pc + 3) (u2_at (pc := pc + 1) h h1 h2)).trans ?_
  rfl
theorem D2_180 {b : ByteArray} {pc v w x : Nat} (h : pc + 2 < lnA b) (ho : obA b pc = 180) (h1 : obA b (pc + 1) = v) (h2 : obA b (pc + 2) = w) (hx : v * 256 + w = x) : decode b pc = .ok (.getfield x, 3) := by
  refine dec_of ?_
  unfold Decoder.instr
  refine (run_bind (v := 180) (p := pc + 1) (by rw [u1_at (by omega), ho])).trans ?_
  subst hx
  refine (run_bind (v := v * 256 + w) (p := pc + 3) (u2_at (pc := pc + 1) h h1 h2)).trans ?_
  rfl
theorem D2_181 {b : ByteArray} {pc v w x : Nat} (h : pc + 2 < lnA b) (ho : obA b pc = 181) (h1 : obA b (pc + 1) = v) (h2 : obA b (pc + 2) = w) (hx : v * 256 + w = x) : decode b pc = .ok (.putfield x, 3) := by
  refine dec_of ?_
  unfold Decoder.instr
  refine (run_bind (v := 181) (p := pc + 1) (by rw [u1_at (by omega), ho])).trans ?_
  subst hx
  refine (run_bind (v := v * 256 + w) (p := pc + 3) (u2_at (pc := pc + 1) h h1 h2)).trans ?_
  rfl
theorem D2_182 {b : ByteArray} {pc v w x : Nat} (h : pc + 2 < lnA b) (ho : obA b pc = 182) (h1 : obA b (pc + 1) = v) (h2 : obA b (pc + 2) = w) (hx : v * 256 + w = x) : decode b pc = .ok (.invokevirtual x, 3) := by
  refine dec_of ?_
  unfold Decoder.instr
  refine (run_bind (v := 182) (p := pc + 1) (by rw [u1_at (by omega), ho])).trans ?_
  subst hx
  refine (run_bind (v := v * 256 + w) (p := pc + 3) (u2_at (pc := pc + 1) h h1 h2)).trans ?_
  rfl
theorem D2_183 {b : ByteArray} {pc v w x : Nat} (h : pc + 2 < lnA b) (ho : obA b pc = 183) (h1 : obA b (pc + 1) = v) (h2 : obA b (pc + 2) = w) (hx : v * 256 + w = x) : decode b pc = .ok (.invokespecial x, 3) := by
  refine dec_of ?_
  unfold Decoder.instr
  refine (run_bind (v := 183) (p := pc + 1) (by rw [u1_at (by omega), ho])).trans ?_
  subst hx
  refine (run_bind (v := v * 256 + w) (p := pc + 3) (u2_at (pc := pc + 1) h h1 h2)).trans ?_
  rfl
theorem D2_184 {b : ByteArray} {pc v w x : Nat} (h : pc + 2 < lnA b) (ho : obA b pc = 184) (h1 : obA b (pc + 1) = v) (h2 : obA b (pc + 2) = w) (hx : v * 256 + w = x) : decode b pc = .ok (.invokestatic x, 3) := by
  refine dec_of ?_
  unfold Decoder.instr
  refine (run_bind (v := 184) (p := pc + 1) (by rw [u1_at (by omega), ho])).trans ?_
  subst hx
  refine (run_bind (v := v * 256 + w) (p := pc + 3) (u2_at (pc := pc + 1) h h1 h2)).trans ?_
  rfl
theorem D2_187 {b : ByteArray} {pc v w x : Nat} (h : pc + 2 < lnA b) (ho : obA b pc = 187) (h1 : obA b (pc + 1) = v) (h2 : obA b (pc + 2) = w) (hx : v * 256 + w = x) : decode b pc = .ok (.new x, 3) := by
  refine dec_of ?_
  unfold Decoder.instr
  refine (run_bind (v := 187) (p := pc + 1) (by rw [u1_at (by omega), ho])).trans ?_
  subst hx
  refine (run_bind (v := v * 256 + w) (p := pc + 3) (u2_at (pc := pc + 1) h h1 h2)).trans ?_
  rfl
theorem D1_188 {b : ByteArray} {pc v : Nat} {t : ArrayType} (h : pc + 1 < lnA b) (ho : obA b pc = 188) (h1 : obA b (pc + 1) = v) (ht : (v = 11 ∧ t = .long) ∨ (v = 8 ∧ t = .byte) ∨ (v = 10 ∧ t = .int) ∨ (v = 4 ∧ t = .boolean)) : decode b pc = .ok (.newarray t, 2) := by
  refine dec_of ?_
  unfold Decoder.instr
  refine (run_bind (v := 188) (p := pc + 1) (by rw [u1_at (by omega), ho])).trans ?_
  show (Decoder.newarray pc) b (pc + 1) = _
  unfold Decoder.newarray
  refine (run_bind (v := v) (p := pc + 2) (by rw [u1_at h, h1])).trans ?_
  rcases ht with ⟨rfl, rfl⟩ | ⟨rfl, rfl⟩ | ⟨rfl, rfl⟩ | ⟨rfl, rfl⟩ <;> rfl
theorem D2_189 {b : ByteArray} {pc v w x : Nat} (h : pc + 2 < lnA b) (ho : obA b pc = 189) (h1 : obA b (pc + 1) = v) (h2 : obA b (pc + 2) = w) (hx : v * 256 + w = x) : decode b pc = .ok (.anewarray x, 3) := by
  refine dec_of ?_
  unfold Decoder.instr
  refine (run_bind (v := 189) (p := pc + 1) (by rw [u1_at (by omega), ho])).trans ?_
  subst hx
  refine (run_bind (v := v * 256 + w) (p := pc + 3) (u2_at (pc := pc + 1) h h1 h2)).trans ?_
  rfl
theorem D0_190 {b : ByteArray} {pc : Nat} (h : pc < lnA b) (ho : obA b pc = 190) : decode b pc = .ok (.arraylength, 1) := by
  refine dec_of ?_
  unfold Decoder.instr
  refine (run_bind (v := 190) (p := pc + 1) (by rw [u1_at (by omega), ho])).trans ?_
  rfl
theorem D0_191 {b : ByteArray} {pc : Nat} (h : pc < lnA b) (ho : obA b pc = 191) : decode b pc = .ok (.athrow, 1) := by
  refine dec_of ?_
  unfold Decoder.instr
  refine (run_bind (v := 191) (p := pc + 1) (by rw [u1_at (by omega), ho])).trans ?_
  rfl
theorem D2_198 {b : ByteArray} {pc v w : Nat} {z : Int} (h : pc + 2 < lnA b) (ho : obA b pc = 198) (h1 : obA b (pc + 1) = v) (h2 : obA b (pc + 2) = w) (hz : Reader.signed 16 (v * 256 + w) = z) : decode b pc = .ok (.ifnull z, 3) := by
  refine dec_of ?_
  unfold Decoder.instr
  refine (run_bind (v := 198) (p := pc + 1) (by rw [u1_at (by omega), ho])).trans ?_
  subst hz
  refine (run_bind (v := Reader.signed 16 (v * 256 + w)) (p := pc + 3) (s2_at (pc := pc + 1) h h1 h2)).trans ?_
  rfl
theorem D2_199 {b : ByteArray} {pc v w : Nat} {z : Int} (h : pc + 2 < lnA b) (ho : obA b pc = 199) (h1 : obA b (pc + 1) = v) (h2 : obA b (pc + 2) = w) (hz : Reader.signed 16 (v * 256 + w) = z) : decode b pc = .ok (.ifnonnull z, 3) := by
  refine dec_of ?_
  unfold Decoder.instr
  refine (run_bind (v := 199) (p := pc + 1) (by rw [u1_at (by omega), ho])).trans ?_
  subst hz
  refine (run_bind (v := Reader.signed 16 (v * 256 + w)) (p := pc + 3) (s2_at (pc := pc + 1) h h1 h2)).trans ?_
  rfl

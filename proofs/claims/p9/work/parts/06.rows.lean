/-! One row an instruction, no memory. -/
theorem ok_pop {n : Nat} {a : Value} {r : List Value} (h : ∀ v ∈ a :: r, okV n v) : ∀ v ∈ r, okV n v := fun v hv => h v (List.mem_cons_of_mem _ hv)
theorem ok_top {n : Nat} {a : Value} {r : List Value} (h : ∀ v ∈ a :: r, okV n v) : okV n a := h a List.mem_cons_self
theorem ok_push {n : Nat} {a : Value} {r : List Value} (ha : okV n a) (h : ∀ v ∈ r, okV n v) : ∀ v ∈ a :: r, okV n v := List.forall_mem_cons.mpr ⟨ha, h⟩
/-- a local by its number -/
def lk : List (Nat × Value) → Nat → Option Value
  | [], _ => none
  | (j, v) :: r, i => bif Nat.beq j i then some v else lk r i
theorem lk_mem {L : List (Nat × Value)} {i : Nat} {v : Value} (h : lk L i = some v) : (i, v) ∈ L := by
  induction L with
  | nil => cases h
  | cons q r ih =>
    obtain ⟨j, w⟩ := q
    simp only [lk] at h
    cases hj : Nat.beq j i with
    | true =>
      rw [hj] at h
      cases h
      rw [Nat.eq_of_beq_eq_true hj]
      exact List.mem_cons_self
    | false =>
      rw [hj] at h
      exact List.mem_cons_of_mem _ (ih h)
/-- a store of one word, of two -/
def st1 (L : List (Nat × Value)) (i : Nat) (v : Value) : List (Nat × Value) := (i, v) :: L.filter (fun q => !(q.1 == i) && !(q.1 + 1 == i && q.2.category == 2))
def st2 (L : List (Nat × Value)) (i : Nat) (v : Value) : List (Nat × Value) := (i, v) :: L.filter (fun q => !(q.1 == i) && (!(q.1 == i + 1) && !(q.1 + 1 == i && q.2.category == 2)))
theorem st1_map (ad : Nat → Nat) (L : List (Nat × Value)) (i : Nat) (v : Value) : (i, mV ad v) :: (mLo ad L).filter (fun q => !(q.1 == i) && !(q.1 + 1 == i && q.2.category == 2)) = mLo ad (st1 L i v) := by
  simp only [mLo, st1, List.map_cons, List.filter_map]
  congr 1
  congr 1
  apply List.filter_congr
  intro q _
  simp [mV_cat]
theorem st2_map (ad : Nat → Nat) (L : List (Nat × Value)) (i : Nat) (v : Value) : (i, mV ad v) :: (mLo ad L).filter (fun q => !(q.1 == i) && (!(q.1 == i + 1) && !(q.1 + 1 == i && q.2.category == 2))) = mLo ad (st2 L i v) := by
  simp only [mLo, st2, List.map_cons, List.filter_map]
  congr 1
  congr 1
  apply List.filter_congr
  intro q _
  simp [mV_cat]
theorem st1_ok {n : Nat} {L : List (Nat × Value)} {i : Nat} {v : Value} (h : ∀ q ∈ L, okV n q.2) (hv : okV n v) : ∀ q ∈ st1 L i v, okV n q.2 :=
  List.forall_mem_cons.mpr ⟨hv, fun q hq => h q (List.mem_filter.mp hq).1⟩
theorem st2_ok {n : Nat} {L : List (Nat × Value)} {i : Nat} {v : Value} (h : ∀ q ∈ L, okV n q.2) (hv : okV n v) : ∀ q ∈ st2 L i v, okV n q.2 :=
  List.forall_mem_cons.mpr ⟨hv, fun q hq => h q (List.mem_filter.mp hq).1⟩
theorem lk_at {ad : Nat → Nat} {L : List (Nat × Value)} {ls : Array Slot} {nL i : Nat} {v : Value} (h : lv_has ls nL (mLo ad L)) (hl : lk L i = some v) : ls[i]? = some (.val (mV ad v)) :=
  h.2.2 (i, mV ad v) (List.mem_map.mpr ⟨(i, v), lk_mem hl, rfl⟩)
section Rows
variable {G : GX} {mi : MI} {pc : Nat} {L : List (Nat × Value)} {st : List Value} {M : List va_E} {kc ks : Nat} {Q : Option Value → List va_E → Prop}
theorem TT.op {pc' : Nat} {st' : List Value} (row : ∀ {p : Program} {e : Env} {R : Room} {s : State} {m : MethodId} {args : Array Value} {below : List Frame} {meth : Method} {c : Code} {H : Heap} {locs : List Loc} {ls : Array Slot} {ad : Nat → Nat} {cells slots : Nat} {QQ : State → Prop},
      p.tables.exec = Jvm.exec → c.code = mC mi → s.vm.findClass (mY mi).cls = some m.cls → (∀ w ∈ gtb, w.before args s = true) → W p G.1 e R s m args below meth c H locs cells slots QQ (F0 m pc' ls (st'.map (mV ad))) → W p G.1 e R s m args below meth c H locs cells slots QQ (F0 m pc ls (st.map (mV ad))))
    (hok : ∀ n, (∀ v ∈ st, okV n v) → ∀ v ∈ st', okV n v) (k : TT G mi pc' L st' M kc ks Q) : TT G mi pc L st M kc ks Q := by
  intro p e R s m args below meth c H locs ls ad ad0 n0 C D
  obtain ⟨d1, d2, d3, d4, d5, d6, d7⟩ := D
  exact row C.1 C.2.1 C.2.2.2.1 C.2.2.2.2.2.2.2.1 (k p e R s m args below meth c H locs ls ad ad0 n0 C ⟨d1, d2, d3, d4, d5, d6, hok _ d7⟩)
/-- the stack's top, named -/
theorem T_topi {x : Int32} (k : ∀ y : Int32, y = x → TT G mi pc L (.int y :: st) M kc ks Q) : TT G mi pc L (.int x :: st) M kc ks Q := k x rfl
theorem T_topl {x : Int64} (k : ∀ y : Int64, y = x → TT G mi pc L (.long y :: st) M kc ks Q) : TT G mi pc L (.long x :: st) M kc ks Q := k x rfl
theorem T_eq {pc' : Nat} {L' : List (Nat × Value)} {st' : List Value} {M' : List va_E} (h1 : pc = pc') (h2 : L = L') (h3 : st = st') (h4 : M = M') (k : TT G mi pc' L' st' M' kc ks Q) : TT G mi pc L st M kc ks Q := by subst h1; subst h2; subst h3; subst h4; exact k
theorem T_post {Q' : Option Value → List va_E → Prop} (h : ∀ r M', Q' r M' → Q r M') (k : TT G mi pc L st M kc ks Q') : TT G mi pc L st M kc ks Q := by
  intro p e R s m args below meth c H locs ls ad ad0 n0 C D T hT X
  obtain ⟨t, a, o, b1, b2, ⟨r, M', ad', c1, c2, c3⟩, b4⟩ := k p e R s m args below meth c H locs ls ad ad0 n0 C D T hT X
  exact ⟨t, a, o, b1, b2, ⟨r, M', ad', c1, h r M' c2, c3⟩, b4⟩
theorem T_iconst {n : Int} {v : Int32} (hd : decode (mC mi) pc = .ok (.iconst n, 1)) (hv : Int32.ofInt n = v) (k : TT G mi (pc + 1) L (.int v :: st) M kc ks Q) : TT G mi pc L st M kc ks Q :=
  TT.op (fun hx hb _ _ k => lv_iconst hx hb hd hv k) (fun _ h => ok_push (by exact trivial) h) k
theorem T_bipush {n : Int} {v : Int32} (hd : decode (mC mi) pc = .ok (.bipush n, 2)) (hv : (Int8.ofInt n).toInt32 = v) (k : TT G mi (pc + 2) L (.int v :: st) M kc ks Q) : TT G mi pc L st M kc ks Q :=
  TT.op (fun hx hb _ _ k => lv_bipush hx hb hd hv k) (fun _ h => ok_push (by exact trivial) h) k
theorem T_sipush {n : Int} {v : Int32} (hd : decode (mC mi) pc = .ok (.sipush n, 3)) (hv : (Int16.ofInt n).toInt32 = v) (k : TT G mi (pc + 3) L (.int v :: st) M kc ks Q) : TT G mi pc L st M kc ks Q :=
  TT.op (fun hx hb _ _ k => lv_sipush hx hb hd hv k) (fun _ h => ok_push (by exact trivial) h) k
theorem T_lconst {n : Fin 2} {v : Int64} (hd : decode (mC mi) pc = .ok (.lconst n, 1)) (hv : Int64.ofNat (n : Nat) = v) (k : TT G mi (pc + 1) L (.long v :: st) M kc ks Q) : TT G mi pc L st M kc ks Q :=
  TT.op (fun hx hb _ _ k => lv_lconst hx hb hd hv k) (fun _ h => ok_push (by exact trivial) h) k
theorem T_null (hd : decode (mC mi) pc = .ok (.aconst_null, 1)) (k : TT G mi (pc + 1) L (.null :: st) M kc ks Q) : TT G mi pc L st M kc ks Q :=
  TT.op (fun hx hb _ _ k => lv_null hx hb hd k) (fun _ h => ok_push (by exact trivial) h) k
theorem T_ldc {idx : Nat} {v : Int32} (hd : decode (mC mi) pc = .ok (.ldc idx, 2)) (hw : Cond.constant (mY mi).cls idx v ∈ gtb) (k : TT G mi (pc + 2) L (.int v :: st) M kc ks Q) : TT G mi pc L st M kc ks Q :=
  TT.op (fun hx hb ho ht k => lv_ldc hx hb ho (ht _ hw) hd k) (fun _ h => ok_push (by exact trivial) h) k
theorem T_ldc2 {idx : Nat} {v : Int64} (hd : decode (mC mi) pc = .ok (.ldc2_w idx, 3)) (hw : Cond.constantLong (mY mi).cls idx v ∈ gtb) (k : TT G mi (pc + 3) L (.long v :: st) M kc ks Q) : TT G mi pc L st M kc ks Q :=
  TT.op (fun hx hb ho ht k => lv_ldc2 hx hb ho (ht _ hw) hd k) (fun _ h => ok_push (by exact trivial) h) k
theorem T_iload_n {j : Fin 4} {x : Int32} (hd : decode (mC mi) pc = .ok (.iload_n j, 1)) (hl : lk L j.val = some (.int x)) (k : TT G mi (pc + 1) L (.int x :: st) M kc ks Q) : TT G mi pc L st M kc ks Q := by
  intro p e R s m args below meth c H locs ls ad ad0 n0 C D
  obtain ⟨d1, d2, d3, d4, d5, d6, d7⟩ := D
  exact lv_iload_n C.1 C.2.1 hd rfl (lk_at d2 hl) (k p e R s m args below meth c H locs ls ad ad0 n0 C ⟨d1, d2, d3, d4, d5, d6, ok_push (by exact trivial) d7⟩)
theorem T_iload {j : Nat} {x : Int32} (hd : decode (mC mi) pc = .ok (.iload j, 2)) (hl : lk L j = some (.int x)) (k : TT G mi (pc + 2) L (.int x :: st) M kc ks Q) : TT G mi pc L st M kc ks Q := by
  intro p e R s m args below meth c H locs ls ad ad0 n0 C D
  obtain ⟨d1, d2, d3, d4, d5, d6, d7⟩ := D
  exact lv_iload C.1 C.2.1 hd (lk_at d2 hl) (k p e R s m args below meth c H locs ls ad ad0 n0 C ⟨d1, d2, d3, d4, d5, d6, ok_push (by exact trivial) d7⟩)
theorem T_lload_n {j : Fin 4} {x : Int64} (hd : decode (mC mi) pc = .ok (.lload_n j, 1)) (hl : lk L j.val = some (.long x)) (k : TT G mi (pc + 1) L (.long x :: st) M kc ks Q) : TT G mi pc L st M kc ks Q := by
  intro p e R s m args below meth c H locs ls ad ad0 n0 C D
  obtain ⟨d1, d2, d3, d4, d5, d6, d7⟩ := D
  exact lv_lload_n C.1 C.2.1 hd rfl (lk_at d2 hl) (k p e R s m args below meth c H locs ls ad ad0 n0 C ⟨d1, d2, d3, d4, d5, d6, ok_push (by exact trivial) d7⟩)
theorem T_lload {j : Nat} {x : Int64} (hd : decode (mC mi) pc = .ok (.lload j, 2)) (hl : lk L j = some (.long x)) (k : TT G mi (pc + 2) L (.long x :: st) M kc ks Q) : TT G mi pc L st M kc ks Q := by
  intro p e R s m args below meth c H locs ls ad ad0 n0 C D
  obtain ⟨d1, d2, d3, d4, d5, d6, d7⟩ := D
  exact lv_lload C.1 C.2.1 hd (lk_at d2 hl) (k p e R s m args below meth c H locs ls ad ad0 n0 C ⟨d1, d2, d3, d4, d5, d6, ok_push (by exact trivial) d7⟩)
theorem T_aload_n {j : Fin 4} {v : Value} (hd : decode (mC mi) pc = .ok (.aload_n j, 1)) (hl : lk L j.val = some v) (hr : v = .null ∨ ∃ i, v = .ref i := by first | exact Or.inr ⟨_, rfl⟩ | exact Or.inl rfl | assumption) (k : TT G mi (pc + 1) L (v :: st) M kc ks Q) : TT G mi pc L st M kc ks Q := by
  intro p e R s m args below meth c H locs ls ad ad0 n0 C D
  obtain ⟨d1, d2, d3, d4, d5, d6, d7⟩ := D
  have hv : okV M.length v := d6 _ (lk_mem hl)
  have K := k p e R s m args below meth c H locs ls ad ad0 n0 C ⟨d1, d2, d3, d4, d5, d6, ok_push hv d7⟩
  rcases hr with rfl | ⟨i, rfl⟩
  · exact lv_aload_nN C.1 C.2.1 hd rfl (lk_at d2 hl) K
  · exact lv_aload_n C.1 C.2.1 hd rfl (lk_at d2 hl) K
theorem T_aload {j : Nat} {v : Value} (hd : decode (mC mi) pc = .ok (.aload j, 2)) (hl : lk L j = some v) (hr : v = .null ∨ ∃ i, v = .ref i := by first | exact Or.inr ⟨_, rfl⟩ | exact Or.inl rfl | assumption) (k : TT G mi (pc + 2) L (v :: st) M kc ks Q) : TT G mi pc L st M kc ks Q := by
  intro p e R s m args below meth c H locs ls ad ad0 n0 C D
  obtain ⟨d1, d2, d3, d4, d5, d6, d7⟩ := D
  have hv : okV M.length v := d6 _ (lk_mem hl)
  have K := k p e R s m args below meth c H locs ls ad ad0 n0 C ⟨d1, d2, d3, d4, d5, d6, ok_push hv d7⟩
  rcases hr with rfl | ⟨i, rfl⟩
  · exact lv_aloadN C.1 C.2.1 hd (lk_at d2 hl) K
  · exact lv_aload C.1 C.2.1 hd (lk_at d2 hl) K
theorem T_istore_n {j : Fin 4} {x : Int32} {L' : List (Nat × Value)} (hd : decode (mC mi) pc = .ok (.istore_n j, 1)) (hn : j.val < mL mi) (hl : st1 L j.val (.int x) = L') (k : TT G mi (pc + 1) L' st M kc ks Q) : TT G mi pc L (.int x :: st) M kc ks Q := by
  intro p e R s m args below meth c H locs ls ad ad0 n0 C D
  obtain ⟨d1, d2, d3, d4, d5, d6, d7⟩ := D
  subst hl
  exact lv_istore_n C.1 C.2.1 hd rfl d2 hn (st1_map ad L _ (.int x)) (fun ls' h => k p e R s m args below meth c H locs ls' ad ad0 n0 C ⟨d1, h, d3, d4, d5, st1_ok d6 trivial, ok_pop d7⟩)
theorem T_istore {j : Nat} {x : Int32} {L' : List (Nat × Value)} (hd : decode (mC mi) pc = .ok (.istore j, 2)) (hn : j < mL mi) (hl : st1 L j (.int x) = L') (k : TT G mi (pc + 2) L' st M kc ks Q) : TT G mi pc L (.int x :: st) M kc ks Q := by
  intro p e R s m args below meth c H locs ls ad ad0 n0 C D
  obtain ⟨d1, d2, d3, d4, d5, d6, d7⟩ := D
  subst hl
  exact lv_istore C.1 C.2.1 hd d2 hn (st1_map ad L _ (.int x)) (fun ls' h => k p e R s m args below meth c H locs ls' ad ad0 n0 C ⟨d1, h, d3, d4, d5, st1_ok d6 trivial, ok_pop d7⟩)
theorem T_lstore_n {j : Fin 4} {x : Int64} {L' : List (Nat × Value)} (hd : decode (mC mi) pc = .ok (.lstore_n j, 1)) (hn : j.val + 1 < mL mi) (hl : st2 L j.val (.long x) = L') (k : TT G mi (pc + 1) L' st M kc ks Q) : TT G mi pc L (.long x :: st) M kc ks Q := by
  intro p e R s m args below meth c H locs ls ad ad0 n0 C D
  obtain ⟨d1, d2, d3, d4, d5, d6, d7⟩ := D
  subst hl
  exact lv_lstore_n C.1 C.2.1 hd rfl d2 hn (st2_map ad L _ (.long x)) (fun ls' h => k p e R s m args below meth c H locs ls' ad ad0 n0 C ⟨d1, h, d3, d4, d5, st2_ok d6 trivial, ok_pop d7⟩)
theorem T_lstore {j : Nat} {x : Int64} {L' : List (Nat × Value)} (hd : decode (mC mi) pc = .ok (.lstore j, 2)) (hn : j + 1 < mL mi) (hl : st2 L j (.long x) = L') (k : TT G mi (pc + 2) L' st M kc ks Q) : TT G mi pc L (.long x :: st) M kc ks Q := by
  intro p e R s m args below meth c H locs ls ad ad0 n0 C D
  obtain ⟨d1, d2, d3, d4, d5, d6, d7⟩ := D
  subst hl
  exact lv_lstore C.1 C.2.1 hd d2 hn (st2_map ad L _ (.long x)) (fun ls' h => k p e R s m args below meth c H locs ls' ad ad0 n0 C ⟨d1, h, d3, d4, d5, st2_ok d6 trivial, ok_pop d7⟩)
theorem T_astore_n {j : Fin 4} {v : Value} {L' : List (Nat × Value)} (hd : decode (mC mi) pc = .ok (.astore_n j, 1)) (hn : j.val < mL mi) (hl : st1 L j.val v = L') (hr : v = .null ∨ ∃ i, v = .ref i := by first | exact Or.inr ⟨_, rfl⟩ | exact Or.inl rfl | assumption) (k : TT G mi (pc + 1) L' st M kc ks Q) : TT G mi pc L (v :: st) M kc ks Q := by
  intro p e R s m args below meth c H locs ls ad ad0 n0 C D
  obtain ⟨d1, d2, d3, d4, d5, d6, d7⟩ := D
  subst hl
  have K := fun ls' h => k p e R s m args below meth c H locs ls' ad ad0 n0 C ⟨d1, h, d3, d4, d5, st1_ok d6 (ok_top d7), ok_pop d7⟩
  rcases hr with rfl | ⟨i, rfl⟩
  · exact lv_astore_nN C.1 C.2.1 hd rfl d2 hn (st1_map ad L _ .null) K
  · exact lv_astore_n C.1 C.2.1 hd rfl d2 hn (st1_map ad L _ (.ref i)) K
theorem T_astore {j : Nat} {v : Value} {L' : List (Nat × Value)} (hd : decode (mC mi) pc = .ok (.astore j, 2)) (hn : j < mL mi) (hl : st1 L j v = L') (hr : v = .null ∨ ∃ i, v = .ref i := by first | exact Or.inr ⟨_, rfl⟩ | exact Or.inl rfl | assumption) (k : TT G mi (pc + 2) L' st M kc ks Q) : TT G mi pc L (v :: st) M kc ks Q := by
  intro p e R s m args below meth c H locs ls ad ad0 n0 C D
  obtain ⟨d1, d2, d3, d4, d5, d6, d7⟩ := D
  subst hl
  have K := fun ls' h => k p e R s m args below meth c H locs ls' ad ad0 n0 C ⟨d1, h, d3, d4, d5, st1_ok d6 (ok_top d7), ok_pop d7⟩
  rcases hr with rfl | ⟨i, rfl⟩
  · exact lv_astoreN C.1 C.2.1 hd d2 hn (st1_map ad L _ .null) K
  · exact lv_astore C.1 C.2.1 hd d2 hn (st1_map ad L _ (.ref i)) K
theorem T_iinc {j : Nat} {n : Int} {x : Int32} {L' : List (Nat × Value)} (hd : decode (mC mi) pc = .ok (.iinc j n, 3)) (hn : j < mL mi) (hx : lk L j = some (.int x)) (hl : st1 L j (.int (x + Int32.ofInt n)) = L') (k : TT G mi (pc + 3) L' st M kc ks Q) : TT G mi pc L st M kc ks Q := by
  intro p e R s m args below meth c H locs ls ad ad0 n0 C D
  obtain ⟨d1, d2, d3, d4, d5, d6, d7⟩ := D
  subst hl
  obtain ⟨q, hq⟩ := List.getElem?_of_mem (List.mem_map.mpr ⟨(j, .int x), lk_mem hx, rfl⟩ : (j, mV ad (.int x)) ∈ mLo ad L)
  exact lv_iinc C.1 C.2.1 hd d2 hq rfl hn (st1_map ad L _ (.int _)) (fun ls' h => k p e R s m args below meth c H locs ls' ad ad0 n0 C ⟨d1, h, d3, d4, d5, st1_ok d6 trivial, d7⟩)
theorem T_iadd {x y : Int32} (hd : decode (mC mi) pc = .ok (.iadd, 1)) (k : TT G mi (pc + 1) L (.int (x + y) :: st) M kc ks Q) : TT G mi pc L (.int y :: .int x :: st) M kc ks Q :=
  TT.op (fun hx hb _ _ k => lv_iadd hx hb hd k) (fun _ h => ok_push (by exact trivial) (ok_pop (ok_pop h))) k
theorem T_isub {x y : Int32} (hd : decode (mC mi) pc = .ok (.isub, 1)) (k : TT G mi (pc + 1) L (.int (x - y) :: st) M kc ks Q) : TT G mi pc L (.int y :: .int x :: st) M kc ks Q :=
  TT.op (fun hx hb _ _ k => lv_isub hx hb hd k) (fun _ h => ok_push (by exact trivial) (ok_pop (ok_pop h))) k
theorem T_imul {x y : Int32} (hd : decode (mC mi) pc = .ok (.imul, 1)) (k : TT G mi (pc + 1) L (.int (x * y) :: st) M kc ks Q) : TT G mi pc L (.int y :: .int x :: st) M kc ks Q :=
  TT.op (fun hx hb _ _ k => lv_imul hx hb hd k) (fun _ h => ok_push (by exact trivial) (ok_pop (ok_pop h))) k
theorem T_iand {x y : Int32} (hd : decode (mC mi) pc = .ok (.iand, 1)) (k : TT G mi (pc + 1) L (.int (x &&& y) :: st) M kc ks Q) : TT G mi pc L (.int y :: .int x :: st) M kc ks Q :=
  TT.op (fun hx hb _ _ k => lv_iand hx hb hd k) (fun _ h => ok_push (by exact trivial) (ok_pop (ok_pop h))) k
theorem T_ior {x y : Int32} (hd : decode (mC mi) pc = .ok (.ior, 1)) (k : TT G mi (pc + 1) L (.int (x ||| y) :: st) M kc ks Q) : TT G mi pc L (.int y :: .int x :: st) M kc ks Q :=
  TT.op (fun hx hb _ _ k => lv_ior hx hb hd k) (fun _ h => ok_push (by exact trivial) (ok_pop (ok_pop h))) k
theorem T_ixor {x y : Int32} (hd : decode (mC mi) pc = .ok (.ixor, 1)) (k : TT G mi (pc + 1) L (.int (x ^^^ y) :: st) M kc ks Q) : TT G mi pc L (.int y :: .int x :: st) M kc ks Q :=
  TT.op (fun hx hb _ _ k => lv_ixor hx hb hd k) (fun _ h => ok_push (by exact trivial) (ok_pop (ok_pop h))) k
theorem T_ishl {x y : Int32} (hd : decode (mC mi) pc = .ok (.ishl, 1)) (k : TT G mi (pc + 1) L (.int (x <<< (y &&& 31)) :: st) M kc ks Q) : TT G mi pc L (.int y :: .int x :: st) M kc ks Q :=
  TT.op (fun hx hb _ _ k => lv_ishl hx hb hd k) (fun _ h => ok_push (by exact trivial) (ok_pop (ok_pop h))) k
theorem T_ishr {x y : Int32} (hd : decode (mC mi) pc = .ok (.ishr, 1)) (k : TT G mi (pc + 1) L (.int (x >>> (y &&& 31)) :: st) M kc ks Q) : TT G mi pc L (.int y :: .int x :: st) M kc ks Q :=
  TT.op (fun hx hb _ _ k => lv_ishr hx hb hd k) (fun _ h => ok_push (by exact trivial) (ok_pop (ok_pop h))) k
theorem T_idiv {x y : Int32} (hd : decode (mC mi) pc = .ok (.idiv, 1)) (hne : ¬ y = 0) (k : TT G mi (pc + 1) L (.int (x / y) :: st) M kc ks Q) : TT G mi pc L (.int y :: .int x :: st) M kc ks Q :=
  TT.op (fun hx hb _ _ k => lv_idiv hx hb hd hne k) (fun _ h => ok_push (by exact trivial) (ok_pop (ok_pop h))) k
theorem T_irem {x y : Int32} (hd : decode (mC mi) pc = .ok (.irem, 1)) (hne : ¬ y = 0) (k : TT G mi (pc + 1) L (.int (x - x / y * y) :: st) M kc ks Q) : TT G mi pc L (.int y :: .int x :: st) M kc ks Q :=
  TT.op (fun hx hb _ _ k => lv_irem hx hb hd hne k) (fun _ h => ok_push (by exact trivial) (ok_pop (ok_pop h))) k
theorem T_ladd {x y : Int64} (hd : decode (mC mi) pc = .ok (.ladd, 1)) (k : TT G mi (pc + 1) L (.long (x + y) :: st) M kc ks Q) : TT G mi pc L (.long y :: .long x :: st) M kc ks Q :=
  TT.op (fun hx hb _ _ k => lv_ladd hx hb hd k) (fun _ h => ok_push (by exact trivial) (ok_pop (ok_pop h))) k
theorem T_lsub {x y : Int64} (hd : decode (mC mi) pc = .ok (.lsub, 1)) (k : TT G mi (pc + 1) L (.long (x - y) :: st) M kc ks Q) : TT G mi pc L (.long y :: .long x :: st) M kc ks Q :=
  TT.op (fun hx hb _ _ k => lv_lsub hx hb hd k) (fun _ h => ok_push (by exact trivial) (ok_pop (ok_pop h))) k
theorem T_lmul {x y : Int64} (hd : decode (mC mi) pc = .ok (.lmul, 1)) (k : TT G mi (pc + 1) L (.long (x * y) :: st) M kc ks Q) : TT G mi pc L (.long y :: .long x :: st) M kc ks Q :=
  TT.op (fun hx hb _ _ k => lv_lmul hx hb hd k) (fun _ h => ok_push (by exact trivial) (ok_pop (ok_pop h))) k
theorem T_land {x y : Int64} (hd : decode (mC mi) pc = .ok (.land, 1)) (k : TT G mi (pc + 1) L (.long (x &&& y) :: st) M kc ks Q) : TT G mi pc L (.long y :: .long x :: st) M kc ks Q :=
  TT.op (fun hx hb _ _ k => lv_land hx hb hd k) (fun _ h => ok_push (by exact trivial) (ok_pop (ok_pop h))) k
theorem T_lor {x y : Int64} (hd : decode (mC mi) pc = .ok (.lor, 1)) (k : TT G mi (pc + 1) L (.long (x ||| y) :: st) M kc ks Q) : TT G mi pc L (.long y :: .long x :: st) M kc ks Q :=
  TT.op (fun hx hb _ _ k => lv_lor hx hb hd k) (fun _ h => ok_push (by exact trivial) (ok_pop (ok_pop h))) k
theorem T_lxor {x y : Int64} (hd : decode (mC mi) pc = .ok (.lxor, 1)) (k : TT G mi (pc + 1) L (.long (x ^^^ y) :: st) M kc ks Q) : TT G mi pc L (.long y :: .long x :: st) M kc ks Q :=
  TT.op (fun hx hb _ _ k => lv_lxor hx hb hd k) (fun _ h => ok_push (by exact trivial) (ok_pop (ok_pop h))) k
theorem T_lneg {x : Int64} (hd : decode (mC mi) pc = .ok (.lneg, 1)) (k : TT G mi (pc + 1) L (.long (-x) :: st) M kc ks Q) : TT G mi pc L (.long x :: st) M kc ks Q :=
  TT.op (fun hx hb _ _ k => lv_lneg hx hb hd k) (fun _ h => ok_push (by exact trivial) (ok_pop h)) k
theorem T_iushr {x y : Int32} (hd : decode (mC mi) pc = .ok (.iushr, 1)) (k : TT G mi (pc + 1) L (.int (x.toUInt32 >>> (y.toUInt32 &&& Int32.toUInt32 31)).toInt32 :: st) M kc ks Q) : TT G mi pc L (.int y :: .int x :: st) M kc ks Q :=
  TT.op (fun hx hb _ _ k => lv_iushr hx hb hd rfl k) (fun _ h => ok_push (by exact trivial) (ok_pop (ok_pop h))) k
theorem T_lushr {x : Int64} {y : Int32} (hd : decode (mC mi) pc = .ok (.lushr, 1)) (k : TT G mi (pc + 1) L (.long (x.toUInt64 >>> (y.toInt64.toUInt64 &&& Int64.toUInt64 63)).toInt64 :: st) M kc ks Q) : TT G mi pc L (.int y :: .long x :: st) M kc ks Q :=
  TT.op (fun hx hb _ _ k => lv_lushr hx hb hd rfl k) (fun _ h => ok_push (by exact trivial) (ok_pop (ok_pop h))) k
theorem T_lshl {x : Int64} {y : Int32} (hd : decode (mC mi) pc = .ok (.lshl, 1)) (k : TT G mi (pc + 1) L (.long (x <<< (y.toInt64 &&& 63)) :: st) M kc ks Q) : TT G mi pc L (.int y :: .long x :: st) M kc ks Q :=
  TT.op (fun hx hb _ _ k => lv_lshl hx hb hd rfl k) (fun _ h => ok_push (by exact trivial) (ok_pop (ok_pop h))) k
theorem T_lshr {x : Int64} {y : Int32} (hd : decode (mC mi) pc = .ok (.lshr, 1)) (k : TT G mi (pc + 1) L (.long (x >>> (y.toInt64 &&& 63)) :: st) M kc ks Q) : TT G mi pc L (.int y :: .long x :: st) M kc ks Q :=
  TT.op (fun hx hb _ _ k => lv_lshr hx hb hd rfl k) (fun _ h => ok_push (by exact trivial) (ok_pop (ok_pop h))) k
theorem T_i2l {x : Int32} (hd : decode (mC mi) pc = .ok (.i2l, 1)) (k : TT G mi (pc + 1) L (.long x.toInt64 :: st) M kc ks Q) : TT G mi pc L (.int x :: st) M kc ks Q :=
  TT.op (fun hx hb _ _ k => lv_i2l hx hb hd rfl k) (fun _ h => ok_push (by exact trivial) (ok_pop h)) k
theorem T_l2i {x : Int64} (hd : decode (mC mi) pc = .ok (.l2i, 1)) (k : TT G mi (pc + 1) L (.int x.toInt32 :: st) M kc ks Q) : TT G mi pc L (.long x :: st) M kc ks Q :=
  TT.op (fun hx hb _ _ k => lv_l2i hx hb hd rfl k) (fun _ h => ok_push (by exact trivial) (ok_pop h)) k
theorem T_i2b {x : Int32} (hd : decode (mC mi) pc = .ok (.i2b, 1)) (k : TT G mi (pc + 1) L (.int x.toInt8.toInt32 :: st) M kc ks Q) : TT G mi pc L (.int x :: st) M kc ks Q :=
  TT.op (fun hx hb _ _ k => lv_i2b hx hb hd rfl k) (fun _ h => ok_push (by exact trivial) (ok_pop h)) k
theorem T_i2c {x : Int32} (hd : decode (mC mi) pc = .ok (.i2c, 1)) (k : TT G mi (pc + 1) L (.int (x.toUInt32 % 65536).toInt32 :: st) M kc ks Q) : TT G mi pc L (.int x :: st) M kc ks Q :=
  TT.op (fun hx hb _ _ k => lv_i2c hx hb hd rfl k) (fun _ h => ok_push (by exact trivial) (ok_pop h)) k
theorem T_lcmp {x y : Int64} (hd : decode (mC mi) pc = .ok (.lcmp, 1)) (k : TT G mi (pc + 1) L (.int (lg_cmp x y) :: st) M kc ks Q) : TT G mi pc L (.long y :: .long x :: st) M kc ks Q :=
  TT.op (fun hx hb _ _ k => W.lcmp hx hb hd k) (fun _ h => ok_push (by exact trivial) (ok_pop (ok_pop h))) k
theorem T_dup {v : Value} (hd : decode (mC mi) pc = .ok (.dup, 1)) (hc : v.category = 1) (k : TT G mi (pc + 1) L (v :: v :: st) M kc ks Q) : TT G mi pc L (v :: st) M kc ks Q :=
  TT.op (fun hx hb _ _ k => lv_dup hx hb hd (by rw [mV_cat]; exact hc) k) (fun _ h => ok_push (ok_top h) h) k
theorem T_pop {v : Value} (hd : decode (mC mi) pc = .ok (.pop, 1)) (hc : v.category = 1) (k : TT G mi (pc + 1) L st M kc ks Q) : TT G mi pc L (v :: st) M kc ks Q :=
  TT.op (fun hx hb _ _ k => lv_pop hx hb hd (by rw [mV_cat]; exact hc) k) (fun _ h => ok_pop h) k
theorem T_dup2 {v w : Value} (hd : decode (mC mi) pc = .ok (.dup2, 1)) (hc : v.category = 1) (hw : w.category = 1) (k : TT G mi (pc + 1) L (v :: w :: v :: w :: st) M kc ks Q) : TT G mi pc L (v :: w :: st) M kc ks Q :=
  TT.op (fun hx hb _ _ k => lv_dup2_11 hx hb hd (by rw [mV_cat]; exact hc) (by rw [mV_cat]; exact hw) k) (fun _ h => ok_push (ok_top h) (ok_push (ok_top (ok_pop h)) h)) k
theorem T_dup2L {x : Int64} (hd : decode (mC mi) pc = .ok (.dup2, 1)) (k : TT G mi (pc + 1) L (.long x :: .long x :: st) M kc ks Q) : TT G mi pc L (.long x :: st) M kc ks Q :=
  TT.op (fun hx hb _ _ k => lv_dup2_2 hx hb hd rfl k) (fun _ h => ok_push (by exact trivial) h) k
theorem T_goto {off : Int} {tgt : Nat} (hd : decode (mC mi) pc = .ok (.goto off, 3)) (ht : (pc : Int) + off = (tgt : Int)) (k : TT G mi tgt L st M kc ks Q) : TT G mi pc L st M kc ks Q :=
  TT.op (fun hx hb _ _ k => lv_goto hx hb hd ht k) (fun _ h => h) k
theorem T_if_eq {x : Int32} {off : Int} {tgt : Nat} (hd : decode (mC mi) pc = .ok (.ifCond .eq off, 3)) (ht : (pc : Int) + off = (tgt : Int)) (kt : x = 0 → TT G mi tgt L st M kc ks Q) (kf : ¬ x = 0 → TT G mi (pc + 3) L st M kc ks Q) : TT G mi pc L (.int x :: st) M kc ks Q := by
  intro p e R s m args below meth c H locs ls ad ad0 n0 C D
  obtain ⟨d1, d2, d3, d4, d5, d6, d7⟩ := D
  exact lv_if_eq C.1 C.2.1 hd ht (fun h => kt h p e R s m args below meth c H locs ls ad ad0 n0 C ⟨d1, d2, d3, d4, d5, d6, ok_pop d7⟩) (fun h => kf h p e R s m args below meth c H locs ls ad ad0 n0 C ⟨d1, d2, d3, d4, d5, d6, ok_pop d7⟩)
theorem T_icmp_eq {x y : Int32} {off : Int} {tgt : Nat} (hd : decode (mC mi) pc = .ok (.if_icmp .eq off, 3)) (ht : (pc : Int) + off = (tgt : Int)) (kt : x = y → TT G mi tgt L st M kc ks Q) (kf : ¬ x = y → TT G mi (pc + 3) L st M kc ks Q) : TT G mi pc L (.int y :: .int x :: st) M kc ks Q := by
  intro p e R s m args below meth c H locs ls ad ad0 n0 C D
  obtain ⟨d1, d2, d3, d4, d5, d6, d7⟩ := D
  exact lv_icmp_eq C.1 C.2.1 hd ht (fun h => kt h p e R s m args below meth c H locs ls ad ad0 n0 C ⟨d1, d2, d3, d4, d5, d6, ok_pop (ok_pop d7)⟩) (fun h => kf h p e R s m args below meth c H locs ls ad ad0 n0 C ⟨d1, d2, d3, d4, d5, d6, ok_pop (ok_pop d7)⟩)
theorem T_if_ne {x : Int32} {off : Int} {tgt : Nat} (hd : decode (mC mi) pc = .ok (.ifCond .ne off, 3)) (ht : (pc : Int) + off = (tgt : Int)) (kt : ¬ x = 0 → TT G mi tgt L st M kc ks Q) (kf : x = 0 → TT G mi (pc + 3) L st M kc ks Q) : TT G mi pc L (.int x :: st) M kc ks Q := by
  intro p e R s m args below meth c H locs ls ad ad0 n0 C D
  obtain ⟨d1, d2, d3, d4, d5, d6, d7⟩ := D
  exact lv_if_ne C.1 C.2.1 hd ht (fun h => kt h p e R s m args below meth c H locs ls ad ad0 n0 C ⟨d1, d2, d3, d4, d5, d6, ok_pop d7⟩) (fun h => kf h p e R s m args below meth c H locs ls ad ad0 n0 C ⟨d1, d2, d3, d4, d5, d6, ok_pop d7⟩)
theorem T_icmp_ne {x y : Int32} {off : Int} {tgt : Nat} (hd : decode (mC mi) pc = .ok (.if_icmp .ne off, 3)) (ht : (pc : Int) + off = (tgt : Int)) (kt : ¬ x = y → TT G mi tgt L st M kc ks Q) (kf : x = y → TT G mi (pc + 3) L st M kc ks Q) : TT G mi pc L (.int y :: .int x :: st) M kc ks Q := by
  intro p e R s m args below meth c H locs ls ad ad0 n0 C D
  obtain ⟨d1, d2, d3, d4, d5, d6, d7⟩ := D
  exact lv_icmp_ne C.1 C.2.1 hd ht (fun h => kt h p e R s m args below meth c H locs ls ad ad0 n0 C ⟨d1, d2, d3, d4, d5, d6, ok_pop (ok_pop d7)⟩) (fun h => kf h p e R s m args below meth c H locs ls ad ad0 n0 C ⟨d1, d2, d3, d4, d5, d6, ok_pop (ok_pop d7)⟩)
theorem T_if_lt {x : Int32} {off : Int} {tgt : Nat} (hd : decode (mC mi) pc = .ok (.ifCond .lt off, 3)) (ht : (pc : Int) + off = (tgt : Int)) (kt : x < 0 → TT G mi tgt L st M kc ks Q) (kf : ¬ x < 0 → TT G mi (pc + 3) L st M kc ks Q) : TT G mi pc L (.int x :: st) M kc ks Q := by
  intro p e R s m args below meth c H locs ls ad ad0 n0 C D
  obtain ⟨d1, d2, d3, d4, d5, d6, d7⟩ := D
  exact lv_if_lt C.1 C.2.1 hd ht (fun h => kt h p e R s m args below meth c H locs ls ad ad0 n0 C ⟨d1, d2, d3, d4, d5, d6, ok_pop d7⟩) (fun h => kf h p e R s m args below meth c H locs ls ad ad0 n0 C ⟨d1, d2, d3, d4, d5, d6, ok_pop d7⟩)
theorem T_icmp_lt {x y : Int32} {off : Int} {tgt : Nat} (hd : decode (mC mi) pc = .ok (.if_icmp .lt off, 3)) (ht : (pc : Int) + off = (tgt : Int)) (kt : x < y → TT G mi tgt L st M kc ks Q) (kf : ¬ x < y → TT G mi (pc + 3) L st M kc ks Q) : TT G mi pc L (.int y :: .int x :: st) M kc ks Q := by
  intro p e R s m args below meth c H locs ls ad ad0 n0 C D
  obtain ⟨d1, d2, d3, d4, d5, d6, d7⟩ := D
  exact lv_icmp_lt C.1 C.2.1 hd ht (fun h => kt h p e R s m args below meth c H locs ls ad ad0 n0 C ⟨d1, d2, d3, d4, d5, d6, ok_pop (ok_pop d7)⟩) (fun h => kf h p e R s m args below meth c H locs ls ad ad0 n0 C ⟨d1, d2, d3, d4, d5, d6, ok_pop (ok_pop d7)⟩)
theorem T_if_ge {x : Int32} {off : Int} {tgt : Nat} (hd : decode (mC mi) pc = .ok (.ifCond .ge off, 3)) (ht : (pc : Int) + off = (tgt : Int)) (kt : 0 ≤ x → TT G mi tgt L st M kc ks Q) (kf : ¬ 0 ≤ x → TT G mi (pc + 3) L st M kc ks Q) : TT G mi pc L (.int x :: st) M kc ks Q := by
  intro p e R s m args below meth c H locs ls ad ad0 n0 C D
  obtain ⟨d1, d2, d3, d4, d5, d6, d7⟩ := D
  exact lv_if_ge C.1 C.2.1 hd ht (fun h => kt h p e R s m args below meth c H locs ls ad ad0 n0 C ⟨d1, d2, d3, d4, d5, d6, ok_pop d7⟩) (fun h => kf h p e R s m args below meth c H locs ls ad ad0 n0 C ⟨d1, d2, d3, d4, d5, d6, ok_pop d7⟩)
theorem T_icmp_ge {x y : Int32} {off : Int} {tgt : Nat} (hd : decode (mC mi) pc = .ok (.if_icmp .ge off, 3)) (ht : (pc : Int) + off = (tgt : Int)) (kt : y ≤ x → TT G mi tgt L st M kc ks Q) (kf : ¬ y ≤ x → TT G mi (pc + 3) L st M kc ks Q) : TT G mi pc L (.int y :: .int x :: st) M kc ks Q := by
  intro p e R s m args below meth c H locs ls ad ad0 n0 C D
  obtain ⟨d1, d2, d3, d4, d5, d6, d7⟩ := D
  exact lv_icmp_ge C.1 C.2.1 hd ht (fun h => kt h p e R s m args below meth c H locs ls ad ad0 n0 C ⟨d1, d2, d3, d4, d5, d6, ok_pop (ok_pop d7)⟩) (fun h => kf h p e R s m args below meth c H locs ls ad ad0 n0 C ⟨d1, d2, d3, d4, d5, d6, ok_pop (ok_pop d7)⟩)
theorem T_if_gt {x : Int32} {off : Int} {tgt : Nat} (hd : decode (mC mi) pc = .ok (.ifCond .gt off, 3)) (ht : (pc : Int) + off = (tgt : Int)) (kt : 0 < x → TT G mi tgt L st M kc ks Q) (kf : ¬ 0 < x → TT G mi (pc + 3) L st M kc ks Q) : TT G mi pc L (.int x :: st) M kc ks Q := by
  intro p e R s m args below meth c H locs ls ad ad0 n0 C D
  obtain ⟨d1, d2, d3, d4, d5, d6, d7⟩ := D
  exact lv_if_gt C.1 C.2.1 hd ht (fun h => kt h p e R s m args below meth c H locs ls ad ad0 n0 C ⟨d1, d2, d3, d4, d5, d6, ok_pop d7⟩) (fun h => kf h p e R s m args below meth c H locs ls ad ad0 n0 C ⟨d1, d2, d3, d4, d5, d6, ok_pop d7⟩)
theorem T_icmp_gt {x y : Int32} {off : Int} {tgt : Nat} (hd : decode (mC mi) pc = .ok (.if_icmp .gt off, 3)) (ht : (pc : Int) + off = (tgt : Int)) (kt : y < x → TT G mi tgt L st M kc ks Q) (kf : ¬ y < x → TT G mi (pc + 3) L st M kc ks Q) : TT G mi pc L (.int y :: .int x :: st) M kc ks Q := by
  intro p e R s m args below meth c H locs ls ad ad0 n0 C D
  obtain ⟨d1, d2, d3, d4, d5, d6, d7⟩ := D
  exact lv_icmp_gt C.1 C.2.1 hd ht (fun h => kt h p e R s m args below meth c H locs ls ad ad0 n0 C ⟨d1, d2, d3, d4, d5, d6, ok_pop (ok_pop d7)⟩) (fun h => kf h p e R s m args below meth c H locs ls ad ad0 n0 C ⟨d1, d2, d3, d4, d5, d6, ok_pop (ok_pop d7)⟩)
theorem T_if_le {x : Int32} {off : Int} {tgt : Nat} (hd : decode (mC mi) pc = .ok (.ifCond .le off, 3)) (ht : (pc : Int) + off = (tgt : Int)) (kt : x ≤ 0 → TT G mi tgt L st M kc ks Q) (kf : ¬ x ≤ 0 → TT G mi (pc + 3) L st M kc ks Q) : TT G mi pc L (.int x :: st) M kc ks Q := by
  intro p e R s m args below meth c H locs ls ad ad0 n0 C D
  obtain ⟨d1, d2, d3, d4, d5, d6, d7⟩ := D
  exact lv_if_le C.1 C.2.1 hd ht (fun h => kt h p e R s m args below meth c H locs ls ad ad0 n0 C ⟨d1, d2, d3, d4, d5, d6, ok_pop d7⟩) (fun h => kf h p e R s m args below meth c H locs ls ad ad0 n0 C ⟨d1, d2, d3, d4, d5, d6, ok_pop d7⟩)
theorem T_icmp_le {x y : Int32} {off : Int} {tgt : Nat} (hd : decode (mC mi) pc = .ok (.if_icmp .le off, 3)) (ht : (pc : Int) + off = (tgt : Int)) (kt : x ≤ y → TT G mi tgt L st M kc ks Q) (kf : ¬ x ≤ y → TT G mi (pc + 3) L st M kc ks Q) : TT G mi pc L (.int y :: .int x :: st) M kc ks Q := by
  intro p e R s m args below meth c H locs ls ad ad0 n0 C D
  obtain ⟨d1, d2, d3, d4, d5, d6, d7⟩ := D
  exact lv_icmp_le C.1 C.2.1 hd ht (fun h => kt h p e R s m args below meth c H locs ls ad ad0 n0 C ⟨d1, d2, d3, d4, d5, d6, ok_pop (ok_pop d7)⟩) (fun h => kf h p e R s m args below meth c H locs ls ad ad0 n0 C ⟨d1, d2, d3, d4, d5, d6, ok_pop (ok_pop d7)⟩)
theorem T_ifnull {v : Value} {off : Int} {tgt : Nat} (hd : decode (mC mi) pc = .ok (.ifnull off, 3)) (ht : (pc : Int) + off = (tgt : Int)) (hr : v = .null ∨ ∃ i, v = .ref i) (kt : v = .null → TT G mi tgt L st M kc ks Q) (kf : (∃ i, v = .ref i) → TT G mi (pc + 3) L st M kc ks Q) : TT G mi pc L (v :: st) M kc ks Q := by
  rcases hr with h | ⟨i, h⟩
  · have K := kt h; subst h; exact TT.op (fun hx hb _ _ k => lv_ifnullN hx hb hd ht k) (fun _ h => ok_pop h) K
  · have K := kf ⟨i, h⟩; subst h; exact TT.op (fun hx hb _ _ k => lv_ifnull hx hb hd k) (fun _ h => ok_pop h) K
theorem T_ifnonnull {v : Value} {off : Int} {tgt : Nat} (hd : decode (mC mi) pc = .ok (.ifnonnull off, 3)) (ht : (pc : Int) + off = (tgt : Int)) (hr : v = .null ∨ ∃ i, v = .ref i) (kt : (∃ i, v = .ref i) → TT G mi tgt L st M kc ks Q) (kf : v = .null → TT G mi (pc + 3) L st M kc ks Q) : TT G mi pc L (v :: st) M kc ks Q := by
  rcases hr with h | ⟨i, h⟩
  · have K := kf h; subst h; exact TT.op (fun hx hb _ _ k => lv_ifnonnullN hx hb hd k) (fun _ h => ok_pop h) K
  · have K := kt ⟨i, h⟩; subst h; exact TT.op (fun hx hb _ _ k => lv_ifnonnull hx hb hd ht k) (fun _ h => ok_pop h) K
end Rows

/-! A more general logic: locals E that are no places, a premise on the state, any end. Z = (E, premise, end). -/
abbrev GZ : Type := List (Nat × Value) × (GX → Program → Env → State → Code → Prop) × (GX → MI → (Nat → Nat) → Nat → (Option Value → List va_E → Prop) → List Frame → Array Value → State → State → Prop)
def DG (E : List (Nat × Value)) (G : GX) (mi : MI) (s : State) (H : Heap) (locs : List Loc) (ls : Array Slot) (ad ad0 : Nat → Nat) (n0 : Nat) (L : List (Nat × Value)) (st : List Value) (M : List va_E) : Prop :=
  va_S (gA G) s.heap H locs ∧ lv_has ls (mL mi) (E ++ mLo ad L) ∧ mR G ad M H ∧ n0 ≤ M.length ∧ (∀ i, i < n0 → ad i = ad0 i) ∧ (∀ q ∈ L, okV M.length q.2) ∧ ∀ v ∈ st, okV M.length v
def TG (Z : GZ) (G : GX) (mi : MI) (pc : Nat) (L : List (Nat × Value)) (st : List Value) (M : List va_E) (kc ks : Nat) (Q : Option Value → List va_E → Prop) : Prop :=
  ∀ (p : Program) (e : Env) (R : Room) (s : State) (m : MethodId) (args : Array Value) (below : List Frame) (meth : Method) (c : Code) (H : Heap) (locs : List Loc) (ls : Array Slot) (ad ad0 : Nat → Nat) (n0 : Nat),
    CX G mi p R s m args meth c → Z.2.1 G p e s c → DG Z.1 G mi s H locs ls ad ad0 n0 L st M → W p G.1 e R s m args below meth c H locs kc ks (Z.2.2 G mi ad0 n0 Q below args s) (F0 m pc ls (st.map (mV ad)))
def SG (Z : GZ) (G : GX) (mi : MI) (pc : Nat) (L : List (Nat × Value)) (st : List Value) (v : Nat → Int32) (kc ks : Nat) (Q : Option Value → (Nat → Int32) → Prop) : Prop :=
  ∀ X M1, Wd v M1 → TG Z G mi pc L st (M1 ++ X) kc ks (SQ X Q)
/-- a store at i leaves E -/
def keepE (E : List (Nat × Value)) (i : Nat) : Prop := E.filter (fun q => !(q.1 == i) && !(q.1 + 1 == i && q.2.category == 2)) = E
theorem lkE {E : List (Nat × Value)} {ad : Nat → Nat} {L : List (Nat × Value)} {ls : Array Slot} {nL i : Nat} {v : Value} (h : lv_has ls nL (E ++ mLo ad L)) (hl : lk L i = some v) : ls[i]? = some (.val (mV ad v)) :=
  h.2.2 (i, mV ad v) (List.mem_append_right _ (List.mem_map.mpr ⟨(i, v), lk_mem hl, rfl⟩))
theorem fixE {E : List (Nat × Value)} {ad : Nat → Nat} {L : List (Nat × Value)} {ls : Array Slot} {nL i : Nat} {v : Value} (h : lv_has ls nL ((i, mV ad v) :: (E ++ mLo ad L).filter (fun q => !(q.1 == i) && !(q.1 + 1 == i && q.2.category == 2)))) (hE : keepE E i) : lv_has ls nL (E ++ mLo ad (st1 L i v)) := by
  refine ⟨h.1, h.2.1, fun q hq => h.2.2 q ?_⟩
  rw [List.filter_append, hE]
  rcases List.mem_append.mp hq with h1 | h1
  · exact List.mem_cons_of_mem _ (List.mem_append_left _ h1)
  · rw [← st1_map] at h1
    rcases List.mem_cons.mp h1 with rfl | h2
    · exact List.mem_cons_self
    · exact List.mem_cons_of_mem _ (List.mem_append_right _ h2)
theorem DG.push {G : GX} {Z : GZ} {mi : MI} {s : State} {H H1 : Heap} {locs : List Loc} {ls : Array Slot} {ad ad0 : Nat → Nat} {n0 q : Nat} {L : List (Nat × Value)} {st : List Value} {M : List va_E} {e : va_E} (D : DG Z.1 G mi s H locs ls ad ad0 n0 L st M) (he : okE M.length e) (hP : va_P G.2.1 classes (wl G.2.2.1 ad M ++ [(q, mE G.2.2.1 (va_up ad M.length q) e)]) H1) (hD : va_D (gA G) (wl G.2.2.1 ad M ++ [(q, mE G.2.2.1 (va_up ad M.length q) e)])) (hS : va_S (gA G) s.heap H1 locs) :
    DG Z.1 G mi s H1 locs ls (va_up ad M.length q) ad0 n0 L (.ref M.length :: st) (M ++ [e]) ∧ (Value.ref M.length :: st).map (mV (va_up ad M.length q)) = .ref q :: st.map (mV ad) := by
  obtain ⟨d1, d2, d3, d4, d5, d6, d7⟩ := D
  have hx : ∀ i, i < M.length → va_up ad M.length q i = ad i := fun i hi => by simp [va_up]; omega
  have hl : mLo (va_up ad M.length q) L = mLo ad L := List.map_congr_left fun x hxm => by rw [mV_ext hx (d6 x hxm)]
  have hst : st.map (mV (va_up ad M.length q)) = st.map (mV ad) := List.map_congr_left fun v hv => mV_ext hx (d7 v hv)
  refine ⟨⟨hS, by rw [hl]; exact d2, d3.push he hP hD, by simp; omega, fun i hi => by rw [hx i (by omega)]; exact d5 i hi, fun x hxm => (d6 x hxm).mono (by simp), ok_push (by simp [okV]) fun v hv => (d7 v hv).mono (by simp)⟩, ?_⟩
  simp only [List.map_cons, hst]
  simp [mV, va_up]
section GR
variable {Z : GZ} {G : GX} {mi : MI} {pc : Nat} {L : List (Nat × Value)} {st : List Value} {M : List va_E} {kc ks : Nat} {Q : Option Value → List va_E → Prop}
theorem TG.op {pc' : Nat} {st' : List Value} (row : ∀ {p : Program} {e : Env} {R : Room} {s : State} {m : MethodId} {args : Array Value} {below : List Frame} {meth : Method} {c : Code} {H : Heap} {locs : List Loc} {ls : Array Slot} {ad : Nat → Nat} {cells slots : Nat} {QQ : State → Prop},
      p.tables.exec = Jvm.exec → c.code = mC mi → s.vm.findClass (mY mi).cls = some m.cls → (∀ w ∈ gtb, w.before args s = true) → W p G.1 e R s m args below meth c H locs cells slots QQ (F0 m pc' ls (st'.map (mV ad))) → W p G.1 e R s m args below meth c H locs cells slots QQ (F0 m pc ls (st.map (mV ad))))
    (hok : ∀ n, (∀ v ∈ st, okV n v) → ∀ v ∈ st', okV n v) (k : TG Z G mi pc' L st' M kc ks Q) : TG Z G mi pc L st M kc ks Q := by
  intro p e R s m args below meth c H locs ls ad ad0 n0 C P D
  obtain ⟨d1, d2, d3, d4, d5, d6, d7⟩ := D
  exact row C.1 C.2.1 C.2.2.2.1 C.2.2.2.2.2.2.2.1 (k p e R s m args below meth c H locs ls ad ad0 n0 C P ⟨d1, d2, d3, d4, d5, d6, hok _ d7⟩)
theorem G_topi {x : Int32} (k : ∀ y : Int32, y = x → TG Z G mi pc L (.int y :: st) M kc ks Q) : TG Z G mi pc L (.int x :: st) M kc ks Q := k x rfl
theorem G_eq {pc' : Nat} {L' : List (Nat × Value)} {st' : List Value} {M' : List va_E} (h1 : pc = pc') (h2 : L = L') (h3 : st = st') (h4 : M = M') (k : TG Z G mi pc' L' st' M' kc ks Q) : TG Z G mi pc L st M kc ks Q := by subst h1; subst h2; subst h3; subst h4; exact k
theorem G_iconst {n : Int} {v : Int32} (hd : decode (mC mi) pc = .ok (.iconst n, 1)) (hv : Int32.ofInt n = v) (k : TG Z G mi (pc + 1) L (.int v :: st) M kc ks Q) : TG Z G mi pc L st M kc ks Q :=
  TG.op (fun hx hb _ _ k => lv_iconst hx hb hd hv k) (fun _ h => ok_push (by exact trivial) h) k
theorem G_bipush {n : Int} {v : Int32} (hd : decode (mC mi) pc = .ok (.bipush n, 2)) (hv : (Int8.ofInt n).toInt32 = v) (k : TG Z G mi (pc + 2) L (.int v :: st) M kc ks Q) : TG Z G mi pc L st M kc ks Q :=
  TG.op (fun hx hb _ _ k => lv_bipush hx hb hd hv k) (fun _ h => ok_push (by exact trivial) h) k
theorem G_sipush {n : Int} {v : Int32} (hd : decode (mC mi) pc = .ok (.sipush n, 3)) (hv : (Int16.ofInt n).toInt32 = v) (k : TG Z G mi (pc + 3) L (.int v :: st) M kc ks Q) : TG Z G mi pc L st M kc ks Q :=
  TG.op (fun hx hb _ _ k => lv_sipush hx hb hd hv k) (fun _ h => ok_push (by exact trivial) h) k
theorem G_iload_n {j : Fin 4} {x : Int32} (hd : decode (mC mi) pc = .ok (.iload_n j, 1)) (hl : lk L j.val = some (.int x)) (k : TG Z G mi (pc + 1) L (.int x :: st) M kc ks Q) : TG Z G mi pc L st M kc ks Q := by
  intro p e R s m args below meth c H locs ls ad ad0 n0 C P D
  obtain ⟨d1, d2, d3, d4, d5, d6, d7⟩ := D
  exact lv_iload_n C.1 C.2.1 hd rfl (lkE d2 hl) (k p e R s m args below meth c H locs ls ad ad0 n0 C P ⟨d1, d2, d3, d4, d5, d6, ok_push (by exact trivial) d7⟩)
theorem G_iload {j : Nat} {x : Int32} (hd : decode (mC mi) pc = .ok (.iload j, 2)) (hl : lk L j = some (.int x)) (k : TG Z G mi (pc + 2) L (.int x :: st) M kc ks Q) : TG Z G mi pc L st M kc ks Q := by
  intro p e R s m args below meth c H locs ls ad ad0 n0 C P D
  obtain ⟨d1, d2, d3, d4, d5, d6, d7⟩ := D
  exact lv_iload C.1 C.2.1 hd (lkE d2 hl) (k p e R s m args below meth c H locs ls ad ad0 n0 C P ⟨d1, d2, d3, d4, d5, d6, ok_push (by exact trivial) d7⟩)
theorem G_aload_n {j : Fin 4} {v : Value} (hd : decode (mC mi) pc = .ok (.aload_n j, 1)) (hl : lk L j.val = some v) (hr : v = .null ∨ ∃ i, v = .ref i := by first | exact Or.inr ⟨_, rfl⟩ | exact Or.inl rfl | assumption) (k : TG Z G mi (pc + 1) L (v :: st) M kc ks Q) : TG Z G mi pc L st M kc ks Q := by
  intro p e R s m args below meth c H locs ls ad ad0 n0 C P D
  obtain ⟨d1, d2, d3, d4, d5, d6, d7⟩ := D
  have hv : okV M.length v := d6 _ (lk_mem hl)
  have K := k p e R s m args below meth c H locs ls ad ad0 n0 C P ⟨d1, d2, d3, d4, d5, d6, ok_push hv d7⟩
  rcases hr with rfl | ⟨i, rfl⟩
  · exact lv_aload_nN C.1 C.2.1 hd rfl (lkE d2 hl) K
  · exact lv_aload_n C.1 C.2.1 hd rfl (lkE d2 hl) K
theorem G_aload {j : Nat} {v : Value} (hd : decode (mC mi) pc = .ok (.aload j, 2)) (hl : lk L j = some v) (hr : v = .null ∨ ∃ i, v = .ref i := by first | exact Or.inr ⟨_, rfl⟩ | exact Or.inl rfl | assumption) (k : TG Z G mi (pc + 2) L (v :: st) M kc ks Q) : TG Z G mi pc L st M kc ks Q := by
  intro p e R s m args below meth c H locs ls ad ad0 n0 C P D
  obtain ⟨d1, d2, d3, d4, d5, d6, d7⟩ := D
  have hv : okV M.length v := d6 _ (lk_mem hl)
  have K := k p e R s m args below meth c H locs ls ad ad0 n0 C P ⟨d1, d2, d3, d4, d5, d6, ok_push hv d7⟩
  rcases hr with rfl | ⟨i, rfl⟩
  · exact lv_aloadN C.1 C.2.1 hd (lkE d2 hl) K
  · exact lv_aload C.1 C.2.1 hd (lkE d2 hl) K
theorem G_istore_n {j : Fin 4} {x : Int32} {L' : List (Nat × Value)} (hd : decode (mC mi) pc = .ok (.istore_n j, 1)) (hn : j.val < mL mi) (hl : st1 L j.val (.int x) = L') (hE : keepE Z.1 j.val) (k : TG Z G mi (pc + 1) L' st M kc ks Q) : TG Z G mi pc L (.int x :: st) M kc ks Q := by
  intro p e R s m args below meth c H locs ls ad ad0 n0 C P D
  obtain ⟨d1, d2, d3, d4, d5, d6, d7⟩ := D
  subst hl
  exact lv_istore_n C.1 C.2.1 hd rfl d2 hn rfl (fun ls' h => k p e R s m args below meth c H locs ls' ad ad0 n0 C P ⟨d1, fixE h hE, d3, d4, d5, st1_ok d6 trivial, ok_pop d7⟩)
theorem G_istore {j : Nat} {x : Int32} {L' : List (Nat × Value)} (hd : decode (mC mi) pc = .ok (.istore j, 2)) (hn : j < mL mi) (hl : st1 L j (.int x) = L') (hE : keepE Z.1 j) (k : TG Z G mi (pc + 2) L' st M kc ks Q) : TG Z G mi pc L (.int x :: st) M kc ks Q := by
  intro p e R s m args below meth c H locs ls ad ad0 n0 C P D
  obtain ⟨d1, d2, d3, d4, d5, d6, d7⟩ := D
  subst hl
  exact lv_istore C.1 C.2.1 hd d2 hn rfl (fun ls' h => k p e R s m args below meth c H locs ls' ad ad0 n0 C P ⟨d1, fixE h hE, d3, d4, d5, st1_ok d6 trivial, ok_pop d7⟩)
theorem G_astore_n {j : Fin 4} {v : Value} {L' : List (Nat × Value)} (hd : decode (mC mi) pc = .ok (.astore_n j, 1)) (hn : j.val < mL mi) (hl : st1 L j.val v = L') (hr : v = .null ∨ ∃ i, v = .ref i := by first | exact Or.inr ⟨_, rfl⟩ | exact Or.inl rfl | assumption) (hE : keepE Z.1 j.val) (k : TG Z G mi (pc + 1) L' st M kc ks Q) : TG Z G mi pc L (v :: st) M kc ks Q := by
  intro p e R s m args below meth c H locs ls ad ad0 n0 C P D
  obtain ⟨d1, d2, d3, d4, d5, d6, d7⟩ := D
  subst hl
  have K := fun ls' h => k p e R s m args below meth c H locs ls' ad ad0 n0 C P ⟨d1, fixE h hE, d3, d4, d5, st1_ok d6 (ok_top d7), ok_pop d7⟩
  rcases hr with rfl | ⟨i, rfl⟩
  · exact lv_astore_nN C.1 C.2.1 hd rfl d2 hn rfl K
  · exact lv_astore_n C.1 C.2.1 hd rfl d2 hn rfl K
theorem G_astore {j : Nat} {v : Value} {L' : List (Nat × Value)} (hd : decode (mC mi) pc = .ok (.astore j, 2)) (hn : j < mL mi) (hl : st1 L j v = L') (hr : v = .null ∨ ∃ i, v = .ref i := by first | exact Or.inr ⟨_, rfl⟩ | exact Or.inl rfl | assumption) (hE : keepE Z.1 j) (k : TG Z G mi (pc + 2) L' st M kc ks Q) : TG Z G mi pc L (v :: st) M kc ks Q := by
  intro p e R s m args below meth c H locs ls ad ad0 n0 C P D
  obtain ⟨d1, d2, d3, d4, d5, d6, d7⟩ := D
  subst hl
  have K := fun ls' h => k p e R s m args below meth c H locs ls' ad ad0 n0 C P ⟨d1, fixE h hE, d3, d4, d5, st1_ok d6 (ok_top d7), ok_pop d7⟩
  rcases hr with rfl | ⟨i, rfl⟩
  · exact lv_astoreN C.1 C.2.1 hd d2 hn rfl K
  · exact lv_astore C.1 C.2.1 hd d2 hn rfl K
theorem G_iinc {j : Nat} {n : Int} {x : Int32} {L' : List (Nat × Value)} (hd : decode (mC mi) pc = .ok (.iinc j n, 3)) (hn : j < mL mi) (hx : lk L j = some (.int x)) (hl : st1 L j (.int (x + Int32.ofInt n)) = L') (hE : keepE Z.1 j) (k : TG Z G mi (pc + 3) L' st M kc ks Q) : TG Z G mi pc L st M kc ks Q := by
  intro p e R s m args below meth c H locs ls ad ad0 n0 C P D
  obtain ⟨d1, d2, d3, d4, d5, d6, d7⟩ := D
  subst hl
  obtain ⟨q, hq⟩ := List.getElem?_of_mem (List.mem_append_right Z.1 (List.mem_map.mpr ⟨(j, .int x), lk_mem hx, rfl⟩ : (j, mV ad (.int x)) ∈ mLo ad L))
  exact lv_iinc C.1 C.2.1 hd d2 hq rfl hn rfl (fun ls' h => k p e R s m args below meth c H locs ls' ad ad0 n0 C P ⟨d1, fixE h hE, d3, d4, d5, st1_ok d6 trivial, d7⟩)
theorem G_iadd {x y : Int32} (hd : decode (mC mi) pc = .ok (.iadd, 1)) (k : TG Z G mi (pc + 1) L (.int (x + y) :: st) M kc ks Q) : TG Z G mi pc L (.int y :: .int x :: st) M kc ks Q :=
  TG.op (fun hx hb _ _ k => lv_iadd hx hb hd k) (fun _ h => ok_push (by exact trivial) (ok_pop (ok_pop h))) k
theorem G_isub {x y : Int32} (hd : decode (mC mi) pc = .ok (.isub, 1)) (k : TG Z G mi (pc + 1) L (.int (x - y) :: st) M kc ks Q) : TG Z G mi pc L (.int y :: .int x :: st) M kc ks Q :=
  TG.op (fun hx hb _ _ k => lv_isub hx hb hd k) (fun _ h => ok_push (by exact trivial) (ok_pop (ok_pop h))) k
theorem G_iand {x y : Int32} (hd : decode (mC mi) pc = .ok (.iand, 1)) (k : TG Z G mi (pc + 1) L (.int (x &&& y) :: st) M kc ks Q) : TG Z G mi pc L (.int y :: .int x :: st) M kc ks Q :=
  TG.op (fun hx hb _ _ k => lv_iand hx hb hd k) (fun _ h => ok_push (by exact trivial) (ok_pop (ok_pop h))) k
theorem G_i2l {x : Int32} (hd : decode (mC mi) pc = .ok (.i2l, 1)) (k : TG Z G mi (pc + 1) L (.long x.toInt64 :: st) M kc ks Q) : TG Z G mi pc L (.int x :: st) M kc ks Q :=
  TG.op (fun hx hb _ _ k => lv_i2l hx hb hd rfl k) (fun _ h => ok_push (by exact trivial) (ok_pop h)) k
theorem G_lcmp {x y : Int64} (hd : decode (mC mi) pc = .ok (.lcmp, 1)) (k : TG Z G mi (pc + 1) L (.int (lg_cmp x y) :: st) M kc ks Q) : TG Z G mi pc L (.long y :: .long x :: st) M kc ks Q :=
  TG.op (fun hx hb _ _ k => W.lcmp hx hb hd k) (fun _ h => ok_push (by exact trivial) (ok_pop (ok_pop h))) k
theorem G_dup {v : Value} (hd : decode (mC mi) pc = .ok (.dup, 1)) (hc : v.category = 1) (k : TG Z G mi (pc + 1) L (v :: v :: st) M kc ks Q) : TG Z G mi pc L (v :: st) M kc ks Q :=
  TG.op (fun hx hb _ _ k => lv_dup hx hb hd (by rw [mV_cat]; exact hc) k) (fun _ h => ok_push (ok_top h) h) k
theorem G_pop {v : Value} (hd : decode (mC mi) pc = .ok (.pop, 1)) (hc : v.category = 1) (k : TG Z G mi (pc + 1) L st M kc ks Q) : TG Z G mi pc L (v :: st) M kc ks Q :=
  TG.op (fun hx hb _ _ k => lv_pop hx hb hd (by rw [mV_cat]; exact hc) k) (fun _ h => ok_pop h) k
theorem G_goto {off : Int} {tgt : Nat} (hd : decode (mC mi) pc = .ok (.goto off, 3)) (ht : (pc : Int) + off = (tgt : Int)) (k : TG Z G mi tgt L st M kc ks Q) : TG Z G mi pc L st M kc ks Q :=
  TG.op (fun hx hb _ _ k => lv_goto hx hb hd ht k) (fun _ h => h) k
theorem G_if_eq {x : Int32} {off : Int} {tgt : Nat} (hd : decode (mC mi) pc = .ok (.ifCond .eq off, 3)) (ht : (pc : Int) + off = (tgt : Int)) (kt : x = 0 → TG Z G mi tgt L st M kc ks Q) (kf : ¬ x = 0 → TG Z G mi (pc + 3) L st M kc ks Q) : TG Z G mi pc L (.int x :: st) M kc ks Q := by
  intro p e R s m args below meth c H locs ls ad ad0 n0 C P D
  obtain ⟨d1, d2, d3, d4, d5, d6, d7⟩ := D
  exact lv_if_eq C.1 C.2.1 hd ht (fun h => kt h p e R s m args below meth c H locs ls ad ad0 n0 C P ⟨d1, d2, d3, d4, d5, d6, ok_pop d7⟩) (fun h => kf h p e R s m args below meth c H locs ls ad ad0 n0 C P ⟨d1, d2, d3, d4, d5, d6, ok_pop d7⟩)
theorem G_if_ne {x : Int32} {off : Int} {tgt : Nat} (hd : decode (mC mi) pc = .ok (.ifCond .ne off, 3)) (ht : (pc : Int) + off = (tgt : Int)) (kt : ¬ x = 0 → TG Z G mi tgt L st M kc ks Q) (kf : x = 0 → TG Z G mi (pc + 3) L st M kc ks Q) : TG Z G mi pc L (.int x :: st) M kc ks Q := by
  intro p e R s m args below meth c H locs ls ad ad0 n0 C P D
  obtain ⟨d1, d2, d3, d4, d5, d6, d7⟩ := D
  exact lv_if_ne C.1 C.2.1 hd ht (fun h => kt h p e R s m args below meth c H locs ls ad ad0 n0 C P ⟨d1, d2, d3, d4, d5, d6, ok_pop d7⟩) (fun h => kf h p e R s m args below meth c H locs ls ad ad0 n0 C P ⟨d1, d2, d3, d4, d5, d6, ok_pop d7⟩)
theorem G_if_lt {x : Int32} {off : Int} {tgt : Nat} (hd : decode (mC mi) pc = .ok (.ifCond .lt off, 3)) (ht : (pc : Int) + off = (tgt : Int)) (kt : x < 0 → TG Z G mi tgt L st M kc ks Q) (kf : ¬ x < 0 → TG Z G mi (pc + 3) L st M kc ks Q) : TG Z G mi pc L (.int x :: st) M kc ks Q := by
  intro p e R s m args below meth c H locs ls ad ad0 n0 C P D
  obtain ⟨d1, d2, d3, d4, d5, d6, d7⟩ := D
  exact lv_if_lt C.1 C.2.1 hd ht (fun h => kt h p e R s m args below meth c H locs ls ad ad0 n0 C P ⟨d1, d2, d3, d4, d5, d6, ok_pop d7⟩) (fun h => kf h p e R s m args below meth c H locs ls ad ad0 n0 C P ⟨d1, d2, d3, d4, d5, d6, ok_pop d7⟩)
theorem G_if_ge {x : Int32} {off : Int} {tgt : Nat} (hd : decode (mC mi) pc = .ok (.ifCond .ge off, 3)) (ht : (pc : Int) + off = (tgt : Int)) (kt : 0 ≤ x → TG Z G mi tgt L st M kc ks Q) (kf : ¬ 0 ≤ x → TG Z G mi (pc + 3) L st M kc ks Q) : TG Z G mi pc L (.int x :: st) M kc ks Q := by
  intro p e R s m args below meth c H locs ls ad ad0 n0 C P D
  obtain ⟨d1, d2, d3, d4, d5, d6, d7⟩ := D
  exact lv_if_ge C.1 C.2.1 hd ht (fun h => kt h p e R s m args below meth c H locs ls ad ad0 n0 C P ⟨d1, d2, d3, d4, d5, d6, ok_pop d7⟩) (fun h => kf h p e R s m args below meth c H locs ls ad ad0 n0 C P ⟨d1, d2, d3, d4, d5, d6, ok_pop d7⟩)
theorem G_if_gt {x : Int32} {off : Int} {tgt : Nat} (hd : decode (mC mi) pc = .ok (.ifCond .gt off, 3)) (ht : (pc : Int) + off = (tgt : Int)) (kt : 0 < x → TG Z G mi tgt L st M kc ks Q) (kf : ¬ 0 < x → TG Z G mi (pc + 3) L st M kc ks Q) : TG Z G mi pc L (.int x :: st) M kc ks Q := by
  intro p e R s m args below meth c H locs ls ad ad0 n0 C P D
  obtain ⟨d1, d2, d3, d4, d5, d6, d7⟩ := D
  exact lv_if_gt C.1 C.2.1 hd ht (fun h => kt h p e R s m args below meth c H locs ls ad ad0 n0 C P ⟨d1, d2, d3, d4, d5, d6, ok_pop d7⟩) (fun h => kf h p e R s m args below meth c H locs ls ad ad0 n0 C P ⟨d1, d2, d3, d4, d5, d6, ok_pop d7⟩)
theorem G_if_le {x : Int32} {off : Int} {tgt : Nat} (hd : decode (mC mi) pc = .ok (.ifCond .le off, 3)) (ht : (pc : Int) + off = (tgt : Int)) (kt : x ≤ 0 → TG Z G mi tgt L st M kc ks Q) (kf : ¬ x ≤ 0 → TG Z G mi (pc + 3) L st M kc ks Q) : TG Z G mi pc L (.int x :: st) M kc ks Q := by
  intro p e R s m args below meth c H locs ls ad ad0 n0 C P D
  obtain ⟨d1, d2, d3, d4, d5, d6, d7⟩ := D
  exact lv_if_le C.1 C.2.1 hd ht (fun h => kt h p e R s m args below meth c H locs ls ad ad0 n0 C P ⟨d1, d2, d3, d4, d5, d6, ok_pop d7⟩) (fun h => kf h p e R s m args below meth c H locs ls ad ad0 n0 C P ⟨d1, d2, d3, d4, d5, d6, ok_pop d7⟩)
theorem G_icmp_eq {x y : Int32} {off : Int} {tgt : Nat} (hd : decode (mC mi) pc = .ok (.if_icmp .eq off, 3)) (ht : (pc : Int) + off = (tgt : Int)) (kt : x = y → TG Z G mi tgt L st M kc ks Q) (kf : ¬ x = y → TG Z G mi (pc + 3) L st M kc ks Q) : TG Z G mi pc L (.int y :: .int x :: st) M kc ks Q := by
  intro p e R s m args below meth c H locs ls ad ad0 n0 C P D
  obtain ⟨d1, d2, d3, d4, d5, d6, d7⟩ := D
  exact lv_icmp_eq C.1 C.2.1 hd ht (fun h => kt h p e R s m args below meth c H locs ls ad ad0 n0 C P ⟨d1, d2, d3, d4, d5, d6, ok_pop (ok_pop d7)⟩) (fun h => kf h p e R s m args below meth c H locs ls ad ad0 n0 C P ⟨d1, d2, d3, d4, d5, d6, ok_pop (ok_pop d7)⟩)
theorem G_icmp_ne {x y : Int32} {off : Int} {tgt : Nat} (hd : decode (mC mi) pc = .ok (.if_icmp .ne off, 3)) (ht : (pc : Int) + off = (tgt : Int)) (kt : ¬ x = y → TG Z G mi tgt L st M kc ks Q) (kf : x = y → TG Z G mi (pc + 3) L st M kc ks Q) : TG Z G mi pc L (.int y :: .int x :: st) M kc ks Q := by
  intro p e R s m args below meth c H locs ls ad ad0 n0 C P D
  obtain ⟨d1, d2, d3, d4, d5, d6, d7⟩ := D
  exact lv_icmp_ne C.1 C.2.1 hd ht (fun h => kt h p e R s m args below meth c H locs ls ad ad0 n0 C P ⟨d1, d2, d3, d4, d5, d6, ok_pop (ok_pop d7)⟩) (fun h => kf h p e R s m args below meth c H locs ls ad ad0 n0 C P ⟨d1, d2, d3, d4, d5, d6, ok_pop (ok_pop d7)⟩)
theorem G_icmp_lt {x y : Int32} {off : Int} {tgt : Nat} (hd : decode (mC mi) pc = .ok (.if_icmp .lt off, 3)) (ht : (pc : Int) + off = (tgt : Int)) (kt : x < y → TG Z G mi tgt L st M kc ks Q) (kf : ¬ x < y → TG Z G mi (pc + 3) L st M kc ks Q) : TG Z G mi pc L (.int y :: .int x :: st) M kc ks Q := by
  intro p e R s m args below meth c H locs ls ad ad0 n0 C P D
  obtain ⟨d1, d2, d3, d4, d5, d6, d7⟩ := D
  exact lv_icmp_lt C.1 C.2.1 hd ht (fun h => kt h p e R s m args below meth c H locs ls ad ad0 n0 C P ⟨d1, d2, d3, d4, d5, d6, ok_pop (ok_pop d7)⟩) (fun h => kf h p e R s m args below meth c H locs ls ad ad0 n0 C P ⟨d1, d2, d3, d4, d5, d6, ok_pop (ok_pop d7)⟩)
theorem G_icmp_ge {x y : Int32} {off : Int} {tgt : Nat} (hd : decode (mC mi) pc = .ok (.if_icmp .ge off, 3)) (ht : (pc : Int) + off = (tgt : Int)) (kt : y ≤ x → TG Z G mi tgt L st M kc ks Q) (kf : ¬ y ≤ x → TG Z G mi (pc + 3) L st M kc ks Q) : TG Z G mi pc L (.int y :: .int x :: st) M kc ks Q := by
  intro p e R s m args below meth c H locs ls ad ad0 n0 C P D
  obtain ⟨d1, d2, d3, d4, d5, d6, d7⟩ := D
  exact lv_icmp_ge C.1 C.2.1 hd ht (fun h => kt h p e R s m args below meth c H locs ls ad ad0 n0 C P ⟨d1, d2, d3, d4, d5, d6, ok_pop (ok_pop d7)⟩) (fun h => kf h p e R s m args below meth c H locs ls ad ad0 n0 C P ⟨d1, d2, d3, d4, d5, d6, ok_pop (ok_pop d7)⟩)
theorem G_icmp_gt {x y : Int32} {off : Int} {tgt : Nat} (hd : decode (mC mi) pc = .ok (.if_icmp .gt off, 3)) (ht : (pc : Int) + off = (tgt : Int)) (kt : y < x → TG Z G mi tgt L st M kc ks Q) (kf : ¬ y < x → TG Z G mi (pc + 3) L st M kc ks Q) : TG Z G mi pc L (.int y :: .int x :: st) M kc ks Q := by
  intro p e R s m args below meth c H locs ls ad ad0 n0 C P D
  obtain ⟨d1, d2, d3, d4, d5, d6, d7⟩ := D
  exact lv_icmp_gt C.1 C.2.1 hd ht (fun h => kt h p e R s m args below meth c H locs ls ad ad0 n0 C P ⟨d1, d2, d3, d4, d5, d6, ok_pop (ok_pop d7)⟩) (fun h => kf h p e R s m args below meth c H locs ls ad ad0 n0 C P ⟨d1, d2, d3, d4, d5, d6, ok_pop (ok_pop d7)⟩)
theorem G_icmp_le {x y : Int32} {off : Int} {tgt : Nat} (hd : decode (mC mi) pc = .ok (.if_icmp .le off, 3)) (ht : (pc : Int) + off = (tgt : Int)) (kt : x ≤ y → TG Z G mi tgt L st M kc ks Q) (kf : ¬ x ≤ y → TG Z G mi (pc + 3) L st M kc ks Q) : TG Z G mi pc L (.int y :: .int x :: st) M kc ks Q := by
  intro p e R s m args below meth c H locs ls ad ad0 n0 C P D
  obtain ⟨d1, d2, d3, d4, d5, d6, d7⟩ := D
  exact lv_icmp_le C.1 C.2.1 hd ht (fun h => kt h p e R s m args below meth c H locs ls ad ad0 n0 C P ⟨d1, d2, d3, d4, d5, d6, ok_pop (ok_pop d7)⟩) (fun h => kf h p e R s m args below meth c H locs ls ad ad0 n0 C P ⟨d1, d2, d3, d4, d5, d6, ok_pop (ok_pop d7)⟩)
theorem G_getfield {idx ci k a : Nat} {fs : List Value} {v : Value} (hd : decode (mC mi) pc = .ok (.getfield idx, 3)) (hf : FG mi idx ci k) (hm : M[a]? = some (.inr (ci, fs))) (hv : fs[k]? = some v) (kk : TG Z G mi (pc + 3) L (v :: st) M kc ks Q) : TG Z G mi pc L (.ref a :: st) M kc ks Q := by
  intro p e R s m args below meth c H locs ls ad ad0 n0 C P D
  obtain ⟨d1, d2, d3, d4, d5, d6, d7⟩ := D
  obtain ⟨⟨C0, T, N⟩, hc, hk, hl⟩ := hf
  have ha := d3.obj hm hc
  have hok : okV M.length v := d3.okAt hm v (List.mem_of_getElem? hv)
  refine va_get (D := G.2.1) (ci := ci) (v := mV ad v) (C := C0) (T := T) (N := N) (Ts := gtb) C.1 C.2.1 C.2.2.2.2.2.2.2.1 (gtb_lay (okC_at hc).1) C.2.2.2.1 C.2.2.2.2.2.2.2.2.2.1 d3.world (a - K0) (wl_at ha hm) hc k hk (C.2.2.2.2.2.2.2.1 _ hl) (fun _ h => h) ?_ hd (kk p e R s m args below meth c H locs ls ad ad0 n0 C P ⟨d1, d2, d3, d4, d5, d6, ok_push hok (ok_pop d7)⟩)
  rw [List.getElem?_map, hv]; rfl
theorem G_laload {a n : Nat} {f : Nat → Int64} {i : Int32} (hd : decode (mC mi) pc = .ok (.laload, 1)) (hm : M[a]? = some (.inl (0, n, .inr (.inl f)))) (hi : vp_in i n) (kk : TG Z G mi (pc + 1) L (.long (f i.toNatClampNeg) :: st) M kc ks Q) : TG Z G mi pc L (.int i :: .ref a :: st) M kc ks Q := by
  intro p e R s m args below meth c H locs ls ad ad0 n0 C P D
  obtain ⟨d1, d2, d3, d4, d5, d6, d7⟩ := D
  have K := kk p e R s m args below meth c H locs ls ad ad0 n0 C P ⟨d1, d2, d3, d4, d5, d6, ok_push trivial (ok_pop (ok_pop d7))⟩
  by_cases ha : K0 ≤ a
  · exact va_lald C.1 C.2.1 C.2.2.2.2.2.2.2.2.2.1 d3.world (a - K0) 0 (wl_at ha hm) (tysG_at rfl) hi hd K
  · obtain ⟨h1, h2⟩ := d3.fixed hm ha
    have hT := C.2.2.2.2.2.2.2.2.2.2.1.1 a n f h1
    rw [← h2] at hT
    exact va_tl C.1 C.2.1 hT d1 hi rfl hd K
theorem G_lastore {a n : Nat} {f : Nat → Int64} {i : Int32} {x : Int64} {M' : List va_E} (hd : decode (mC mi) pc = .ok (.lastore, 1)) (ha : K0 ≤ a) (hm : M[a]? = some (.inl (0, n, .inr (.inl f)))) (hi : vp_in i n) (hM : M.set a (.inl (0, n, .inr (.inl (vp_updL f i.toNatClampNeg x)))) = M') (kk : TG Z G mi (pc + 1) L st M' kc ks Q) : TG Z G mi pc L (.long x :: .int i :: .ref a :: st) M kc ks Q := by
  intro p e R s m args below meth c H locs ls ad ad0 n0 C P D
  obtain ⟨d1, d2, d3, d4, d5, d6, d7⟩ := D
  subst hM
  exact va_last C.1 C.2.1 C.2.2.2.2.2.2.2.2.2.1 d3.world d3.apart d1 (a - K0) 0 (wl_at ha hm) (tysG_at rfl) hi hd (fun H1 locs1 hP hD hS => kk p e R s m args below meth c H1 locs1 ls ad ad0 n0 C P ⟨hS, d2, d3.set ha trivial hP hD, by simpa using d4, d5, by simpa using d6, by simpa using ok_pop (ok_pop (ok_pop d7))⟩)
theorem G_aaload {a t n : Nat} {f : Nat → Option Nat} {C0 : String} {i : Int32} (hd : decode (mC mi) pc = .ok (.aaload, 1)) (ha : K0 ≤ a) (hm : M[a]? = some (.inl (t, n, .inr (.inr (.inr (.inr f)))))) (ht : tyl[t]? = some (.object C0)) (hi : vp_in i n) (kk : TG Z G mi (pc + 1) L (va_rf (f i.toNatClampNeg) :: st) M kc ks Q) : TG Z G mi pc L (.int i :: .ref a :: st) M kc ks Q := by
  intro p e R s m args below meth c H locs ls ad ad0 n0 C P D
  obtain ⟨d1, d2, d3, d4, d5, d6, d7⟩ := D
  have hok : okV M.length (va_rf (f i.toNatClampNeg)) := by
    cases hf : f i.toNatClampNeg with
    | none => trivial
    | some j => exact d3.okAt hm _ j hf
  have K := kk p e R s m args below meth c H locs ls ad ad0 n0 C P ⟨d1, d2, d3, d4, d5, d6, ok_push hok (ok_pop (ok_pop d7))⟩
  refine va_aldq C.1 C.2.1 C.2.2.2.2.2.2.2.2.2.1 d3.world (a - K0) t (wl_at ha hm) (tysG_at ht) hi hd ?_
  rw [va_rf_map]
  exact K
theorem G_alen {a t n : Nat} {x : (Nat → Int32) ⊕ (Nat → Int64) ⊕ (Nat → UInt32) ⊕ (Nat → UInt64) ⊕ (Nat → Option Nat)} {v : Int32} {ty : FieldType} (hd : decode (mC mi) pc = .ok (.arraylength, 1)) (ha : K0 ≤ a) (hm : M[a]? = some (.inl (t, n, x))) (ht : tyl[t]? = some ty) (hv : Int32.ofNat n = v) (kk : TG Z G mi (pc + 1) L (.int v :: st) M kc ks Q) : TG Z G mi pc L (.ref a :: st) M kc ks Q := by
  intro p e R s m args below meth c H locs ls ad ad0 n0 C P D
  obtain ⟨d1, d2, d3, d4, d5, d6, d7⟩ := D
  have K := kk p e R s m args below meth c H locs ls ad ad0 n0 C P ⟨d1, d2, d3, d4, d5, d6, ok_push trivial (ok_pop d7)⟩
  have hw : ∃ x', (wl G.2.2.1 ad M)[a - K0]? = some (ad a, .inl (G.2.2.1 t, n, x')) := by
    rw [wl_at ha hm]
    rcases x with f | f | f | f | f
    · exact ⟨_, rfl⟩
    · exact ⟨_, rfl⟩
    · exact ⟨_, rfl⟩
    · exact ⟨_, rfl⟩
    · exact ⟨_, rfl⟩
  obtain ⟨x', hw⟩ := hw
  exact va_alen C.1 C.2.1 C.2.2.2.2.2.2.2.2.2.1 d3.world (a - K0) t hw (tysG_at ht) hv hd K
theorem G_new {idx ci : Nat} {q : vw_C} {fs : List Value} (hd : decode (mC mi) pc = .ok (.new idx, 3)) (hc : classes[ci]? = some q) (h1 : Cond.classLink (mY mi).cls idx q.1 ∈ gtb) (h2 : Cond.instantiable q.1 q.2.2 ∈ gtb) (h3 : Cond.initialized q.1 ∈ gtb) (hfs : dfl q = fs) (hkc : kc + 1 ≤ (mRm mi).cells) (hks : ks + q.2.2 ≤ (mRm mi).slots)
    (kk : TG Z G mi (pc + 3) L (.ref M.length :: st) (M ++ [.inr (ci, fs)]) (kc + 1) (ks + q.2.2) Q) : TG Z G mi pc L st M kc ks Q := by
  intro p e R s m args below meth c H locs ls ad ad0 n0 C P D
  have hD := D
  obtain ⟨d1, d2, d3, d4, d5, d6, d7⟩ := D
  obtain ⟨C0, T, N⟩ := q
  have hq := okC_at hc
  have hR : R = mRm mi := C.2.2.2.2.2.2.2.2.1
  subst hfs
  refine va_new (D := G.2.1) (ci := ci) (fs := dfl (C0, T, N)) (C := C0) (T := T) (N := N) (Ts := gtb) C.1 C.2.1 C.2.2.2.2.2.2.2.1 (gtb_lay hq.1) (fun j => ftyD (T j).2.2.1) (fun j hj => ftyD_ok (hq.2.1 j hj)) C.2.2.2.1 (C.2.2.2.2.2.2.2.1 _ h1) (C.2.2.2.2.2.2.2.1 _ h2) (C.2.2.2.2.2.2.2.1 _ h3) C.2.2.2.2.2.2.2.2.2.1 d3.world d3.apart d1 (gA_of C) hc ?_ (by rw [hR]; exact hkc) (by rw [hR]; exact hks) hd (fun q H1 hP hD1 hS => ?_)
  · intro j hj
    have hj' : j < N := hj
    simp [vp_V, dfl, hj']
  · obtain ⟨D', e'⟩ := hD.push (q := q) (e := .inr (ci, dfl (C0, T, N))) (dfl_ok _ _) (by simp only [mE, dfl_map]; exact hP) (by simp only [mE, dfl_map]; exact hD1) hS
    have K := kk p e R s m args below meth c H1 locs ls _ ad0 n0 C P D'
    rw [e'] at K
    exact K
theorem G_newarr {atype : ArrayType} {ty : FieldType} {t N : Nat} {n : Int32} {x : (Nat → Int32) ⊕ (Nat → Int64) ⊕ (Nat → UInt32) ⊕ (Nat → UInt64) ⊕ (Nat → Option Nat)} (hty : newarray.typeOf atype = ty) (hw : Cond.arrayClass ty ∈ gtb) (ht : tyl[t]? = some ty) (hra : ∀ U cA, va_RA U cA ty → U.vm.findClass ("[" ++ ty.toString) = some cA)
    (hx : ∀ cA : ClassId, vp_cell cA (N, x) = arrV cA N (fun _ => defaultValue ty)) (hme : ∀ dT ad, mE dT ad (.inl (t, N, x)) = .inl (dT t, N, x)) (hok : ∀ k, okE k (.inl (t, N, x))) (hd : decode (mC mi) pc = .ok (.newarray atype, 2)) (hn : ¬ n < 0) (hN : n.toNatClampNeg = N) (hb : N * componentBytes ty ≤ 536870912) (hkc : kc + 1 ≤ (mRm mi).cells) (hks : ks + N ≤ (mRm mi).slots)
    (kk : TG Z G mi (pc + 2) L (.ref M.length :: st) (M ++ [.inl (t, N, x)]) (kc + 1) (ks + N) Q) : TG Z G mi pc L (.int n :: st) M kc ks Q := by
  intro p e R s m args below meth c H locs ls ad ad0 n0 C P D
  obtain ⟨d1, d2, d3, d4, d5, d6, d7⟩ := D
  have hD : DG Z.1 G mi s H locs ls ad ad0 n0 L st M := ⟨d1, d2, d3, d4, d5, d6, ok_pop d7⟩
  have hR : R = mRm mi := C.2.2.2.2.2.2.2.2.1
  have hK := C.2.2.2.2.2.2.2.2.2.1
  subst hty
  refine va_newa (a0 := (N, x)) (atype := atype) C.1 C.2.1 (C.2.2.2.2.2.2.2.1 _ hw) rfl hK d3.world d3.apart d1 (gA_of C) hx hn hN hb (by rw [hR]; exact hkc) (by rw [hR]; exact hks) hd (fun q cA H1 hK1 hP hD1 hS => ?_)
  have e1 : cA = G.2.2.1 t := by
    have a1 := hra _ _ (hK1.2 (tysG G).length (cA, newarray.typeOf atype) (by simp)).2
    have a2 := hra _ _ (hK.2 t _ (tysG_at ht)).2
    exact Option.some.inj (a1.symm.trans a2)
  subst e1
  obtain ⟨D', e'⟩ := hD.push (q := q) (e := .inl (t, N, x)) (hok _) (by rw [hme]; exact hP) (by rw [hme]; exact hD1) hS
  have K := kk p e R s m args below meth c H1 locs ls _ ad0 n0 C P D'
  rw [e'] at K
  exact K
theorem G_newJ {N : Nat} {n : Int32} (hd : decode (mC mi) pc = .ok (.newarray .long, 2)) (hn : ¬ n < 0) (hN : n.toNatClampNeg = N) (hb : N ≤ 60000000) (hkc : kc + 1 ≤ (mRm mi).cells) (hks : ks + N ≤ (mRm mi).slots)
    (kk : TG Z G mi (pc + 2) L (.ref M.length :: st) (M ++ [.inl (0, N, .inr (.inl fun _ => 0))]) (kc + 1) (ks + N) Q) : TG Z G mi pc L (.int n :: st) M kc ks Q :=
  G_newarr (ty := .long) (t := 0) (x := .inr (.inl fun _ => 0)) rfl gtb_J rfl (fun _ _ h => h) (fun _ => rfl) (fun _ _ => rfl) (fun _ => trivial) hd hn hN (by show N * 8 ≤ _; omega) hkc hks kk
theorem cg_run {p : Program} {e : Env} {R : Room} {s : State} {m : MethodId} {args : Array Value} {below : List Frame} {meth : Method} {c : Code} {H : Heap} {locs : List Loc} {ls : Array Slot} {ad ad0 : Nat → Nat} {n0 mc ms : Nat} {st0 rest : List Value} {a : Array Value} {Qc : Option Value → List va_E → Prop} {pc : Nat}
    (hr : va_Run p G.1 e R s m args below meth c H locs kc ks mc ms (F0 m pc ls st0) (rest.map (mV ad)) (qQ G ad M.length Qc a) (gA G)) (C : CX G mi p R s m args meth c) (D : DG Z.1 G mi s H locs ls ad ad0 n0 L rest M)
    (P : Z.2.1 G p e s c) (kk : ∀ r M', Qc r M' → TG Z G mi (pc + 3) L (r.toList ++ rest) M' (kc + mc) (ks + ms) Q) : W p G.1 e R s m args below meth c H locs kc ks (Z.2.2 G mi ad0 n0 Q below args s) (F0 m pc ls st0) := by
  obtain ⟨d1, d2, d3, d4, d5, d6, d7⟩ := D
  intro T hT X
  obtain ⟨v, st₀, t, T', L', h0, X', hL, e1, e2, ⟨r, M', ad', hv, hQ, hR, hn, hag, hokr, hF⟩, hgo⟩ := hr T hT X
  have hv' : v = r.map (mV ad') := by injection hv
  subst hv'
  have hl : mLo ad' L = mLo ad L := List.map_congr_left fun x hxm => by rw [mV_ext hag (d6 x hxm)]
  have hst : rest.map (mV ad') = rest.map (mV ad) := List.map_congr_left fun v hv => mV_ext hag (d7 v hv)
  obtain ⟨hz, hk⟩ := hF
  rw [h0] at hz hk
  have hS : va_S (gA G) s.heap T'.heap (locs ++ L') := by
    rw [e1]
    refine ⟨Nat.le_trans d1.1 hz, fun q h1 h2 => by rw [hk q (Nat.lt_of_lt_of_le h1 d1.1) h2]; exact d1.2.1 q h1 h2, fun q hq => ?_⟩
    rcases List.mem_append.mp hq with h | h
    · exact d1.2.2 q h
    · exact hL q h
  have K := kk r M' hQ p e R s m args below meth c T'.heap (locs ++ L') ls ad' ad0 n0 C P ⟨hS, by rw [hl]; exact d2, by rw [e1]; exact hR, Nat.le_trans d4 hn, fun i hi => by rw [hag i (by omega)]; exact d5 i hi, fun q hq => (d6 q hq).mono hn, fun v hv => by
    rcases List.mem_append.mp hv with h | h
    · exact hokr v (by cases r with | none => cases h | some w => rw [List.mem_singleton.mp h])
    · exact (d7 v h).mono hn⟩
  have es : (r.toList ++ rest).map (mV ad') = (r.map (mV ad')).toList ++ rest.map (mV ad) := by
    rw [List.map_append, hst]
    cases r <;> rfl
  rw [es] at K
  obtain ⟨t2, a1, b1⟩ := K T' rfl X'
  exact ⟨t2, hgo t2 a1, b1⟩
theorem G_static {idx n : Nat} {mj : MI} {as rest : List Value} {Qc : Option Value → List va_E → Prop} (hd : decode (mC mi) pc = .ok (.invokestatic idx, 3)) (hst : st = as.reverse ++ rest) (hj : JO mi mj n) (hl : Cond.methodLink (mY mi).cls idx (mY mj) ∈ gtb) (hs : Cond.static (mY mj) ∈ gtb) (hn : as.length = n) (hw : (rest.map fun v => v.category).sum ≤ 8) (hkc : kc + (mRm mj).cells ≤ (mRm mi).cells) (hks : ks + (mRm mj).slots ≤ (mRm mi).slots)
    (hM : CT G mj as M Qc) (kk : ∀ r M', Qc r M' → TG Z G mi (pc + 3) L (r.toList ++ rest) M' (kc + (mRm mj).cells) (ks + (mRm mj).slots) Q) : TG Z G mi pc L st M kc ks Q := by
  intro p e R s m args below meth c H locs ls ad ad0 n0 C P D
  obtain ⟨d1, d2, d3, d4, d5, d6, d7⟩ := D
  subst hst
  have hR : R = mRm mi := C.2.2.2.2.2.2.2.2.1
  have hA : okA M.length as := fun v hv => d7 v (List.mem_append_left _ (List.mem_reverse.mpr hv))
  have hg : GoodIn gtb (va_wsS (mY mi).cls idx (mY mj) (mW mj)) := good_gtb (List.forall_mem_cons.mpr ⟨hl, List.forall_mem_cons.mpr ⟨hs, List.forall_mem_cons.mpr ⟨hj.2.1, hj.ws⟩⟩⟩)
  have cw : CallB R s args (mY mi).cls idx (mY mj) (mC mj) (mL mj) (mT mj) (mW mj) (mRm mj) (mRm mj).cells (mRm mj).slots n ∧ (Cond.static (mY mj)).before args s = true := va_cwS n C.2.2.2.2.2.2.2.1 hg rfl rfl rfl hj.2.2.1 (by rw [hR]; exact hj.2.2.2)
  have hrun := va_runS (nL := mL mi) (Ts := gtb) (own := (mY mi).cls) (n := n) (As := as.map (mV ad)) (rest := rest.map (mV ad)) (g := F0 m pc ls ((as.reverse ++ rest).map (mV ad))) (locs := locs) (cells := kc) (slots := ks) (below := below) (e := e) (meth := meth) ⟨C.1, C.2.1, C.2.2.1, C.2.2.2.1, C.2.2.2.2.2.2.2.1⟩ (hM ad)
    cw
    (pre_of C d1 d3 hA) rfl (by simpa using hn) d2.1 (by simp) (lv_room (by rw [cat_sum]; exact hw)) hd (by rw [hR]; exact ⟨hkc, hks⟩)
  exact cg_run hrun C ⟨d1, d2, d3, d4, d5, d6, fun v hv => d7 v (List.mem_append_right _ hv)⟩ P kk
theorem G_virtual {idx n b ci : Nat} {mj : MI} {as rest fs : List Value} {q : vw_C} {Qc : Option Value → List va_E → Prop} (hd : decode (mC mi) pc = .ok (.invokevirtual idx, 3)) (hst : st = as.reverse ++ .ref b :: rest) (hj : JO mi mj n) (hl : Cond.methodLink (mY mi).cls idx (mY mj) ∈ gtb) (hi : Cond.instanceMethod (mY mj) ∈ gtb) (hse : Cond.selects (mY mj).cls (mY mj) (mY mj) ∈ gtb) (hm : M[b]? = some (.inr (ci, fs))) (hc : classes[ci]? = some q) (hq : q.1 = (mY mj).cls) (hn : as.length = n) (hw : (rest.map fun v => v.category).sum ≤ 8) (hkc : kc + (mRm mj).cells ≤ (mRm mi).cells) (hks : ks + (mRm mj).slots ≤ (mRm mi).slots)
    (hM : CT G mj (.ref b :: as) M Qc) (kk : ∀ r M', Qc r M' → TG Z G mi (pc + 3) L (r.toList ++ rest) M' (kc + (mRm mj).cells) (ks + (mRm mj).slots) Q) : TG Z G mi pc L st M kc ks Q := by
  intro p e R s m args below meth c H locs ls ad ad0 n0 C P D
  obtain ⟨d1, d2, d3, d4, d5, d6, d7⟩ := D
  subst hst
  have hR : R = mRm mi := C.2.2.2.2.2.2.2.2.1
  have hA : okA M.length (.ref b :: as) := ok_push (d7 _ (by simp)) fun v hv => d7 v (List.mem_append_left _ (List.mem_reverse.mpr hv))
  have hpre := pre_of C d1 d3 hA
  have hb0 := d3.obj hm hc
  have hg : GoodIn gtb (wsV (mY mi).cls idx (mY mj).cls (mY mj) (mW mj)) := good_gtb (List.forall_mem_cons.mpr ⟨hl, List.forall_mem_cons.mpr ⟨hi, List.forall_mem_cons.mpr ⟨hse, List.forall_mem_cons.mpr ⟨hj.2.1, hj.ws⟩⟩⟩⟩)
  have cw : CallW R s args (mY mi).cls (mY mj).cls idx (mY mj) (mC mj) (mL mj) (mT mj) (mW mj) (mRm mj) (mRm mj).cells (mRm mj).slots n := cwV n C.2.2.2.2.2.2.2.1 hg rfl rfl rfl ⟨rfl, hj.2.2.1⟩ (by rw [hR]; exact hj.2.2.2)
  have hrun := va_runV (nL := mL mi) (Ts := gtb) (own := (mY mi).cls) (C := (mY mj).cls) (n := n) (b := ad b) (As := as.map (mV ad)) (rest := rest.map (mV ad)) (g := F0 m pc ls ((as.reverse ++ .ref b :: rest).map (mV ad))) (locs := locs) (cells := kc) (slots := ks) (below := below) (e := e) (meth := meth) ⟨C.1, C.2.1, C.2.2.1, C.2.2.2.1, C.2.2.2.2.2.2.2.1⟩ (hM ad)
    cw
    ⟨hpre.1, by rw [← hq]; exact va_recv C.2.2.2.2.2.2.2.2.2.1 d3.world hc (wl_at hb0 hm), hpre.2⟩ rfl (by simpa using hn) d2.1 (by simp [mV]) (lv_room (by rw [cat_sum]; exact hw)) hd (by rw [hR]; exact ⟨hkc, hks⟩)
  exact cg_run hrun C ⟨d1, d2, d3, d4, d5, d6, fun v hv => d7 v (List.mem_append_right _ (List.mem_cons_of_mem _ hv))⟩ P kk
theorem G_init {idx n b : Nat} {mj : MI} {as rest : List Value} {Qc : Option Value → List va_E → Prop} (hd : decode (mC mi) pc = .ok (.invokespecial idx, 3)) (hst : st = as.reverse ++ .ref b :: rest) (hj : JO mi mj n) (hl : Cond.methodLink (mY mi).cls idx (mY mj) ∈ gtb) (hi : Cond.instanceMethod (mY mj) ∈ gtb) (hy : (mY mj).name = "<init>") (hT : mT mj = none) (hn : as.length = n) (hw : (rest.map fun v => v.category).sum ≤ 8) (hkc : kc + (mRm mj).cells ≤ (mRm mi).cells) (hks : ks + (mRm mj).slots ≤ (mRm mi).slots)
    (hM : CT G mj (.ref b :: as) M Qc) (kk : ∀ r M', Qc r M' → TG Z G mi (pc + 3) L (r.toList ++ rest) M' (kc + (mRm mj).cells) (ks + (mRm mj).slots) Q) : TG Z G mi pc L st M kc ks Q := by
  intro p e R s m args below meth c H locs ls ad ad0 n0 C P D
  obtain ⟨d1, d2, d3, d4, d5, d6, d7⟩ := D
  subst hst
  have hR : R = mRm mi := C.2.2.2.2.2.2.2.2.1
  have hA : okA M.length (.ref b :: as) := ok_push (d7 _ (by simp)) fun v hv => d7 v (List.mem_append_left _ (List.mem_reverse.mpr hv))
  have hws : mW mj = Cond.code (mY mj) (mC mj) (mL mj) none :: gtb := by show Cond.code _ _ _ (mT mj) :: _ = _; rw [hT]
  have cw : CallB R s args (mY mi).cls idx (mY mj) (mC mj) (mL mj) none (mW mj) (mRm mj) (mRm mj).cells (mRm mj).slots n ∧ (mY mj).name = "<init>" ∧ (Cond.instanceMethod (mY mj)).before args s = true := cwI n C.2.2.2.2.2.2.2.1 (good_gtb hj.ws) hws rfl rfl (C.2.2.2.2.2.2.2.1 _ hj.2.1) (C.2.2.2.2.2.2.2.1 _ hl) (C.2.2.2.2.2.2.2.1 _ hi) hy hj.2.2.1 (by rw [hR]; exact hj.2.2.2)
  have hrun := va_runI (nL := mL mi) (Ts := gtb) (own := (mY mi).cls) (n := n) (b := ad b) (As := as.map (mV ad)) (rest := rest.map (mV ad)) (g := F0 m pc ls ((as.reverse ++ .ref b :: rest).map (mV ad))) (locs := locs) (cells := kc) (slots := ks) (below := below) (e := e) (meth := meth) ⟨C.1, C.2.1, C.2.2.1, C.2.2.2.1, C.2.2.2.2.2.2.2.1⟩ (hM ad)
    cw
    (pre_of C d1 d3 hA) rfl (by simpa using hn) d2.1 (by simp [mV]) (lv_room (by rw [cat_sum]; exact hw)) hd (by rw [hR]; exact ⟨hkc, hks⟩)
  exact cg_run hrun C ⟨d1, d2, d3, d4, d5, d6, fun v hv => d7 v (List.mem_append_right _ (List.mem_cons_of_mem _ hv))⟩ P kk
theorem G_wide {kc' ks' : Nat} (h1 : kc ≤ kc') (h2 : ks ≤ ks') (k : TG Z G mi pc L st M kc' ks' Q) : TG Z G mi pc L st M kc ks Q :=
  fun p e R s m args below meth c H locs ls ad ad0 n0 C P D => W.widen h1 h2 (k p e R s m args below meth c H locs ls ad ad0 n0 C P D)
end GR
section HR
variable {Z : GZ} {G : GX} {mi : MI} {pc : Nat} {L : List (Nat × Value)} {st : List Value} {v : Nat → Int32} {kc ks : Nat} {Q : Option Value → (Nat → Int32) → Prop}
theorem SG.lift {pc' : Nat} {L' : List (Nat × Value)} {st' : List Value} {kc' ks' : Nat} (f : ∀ M Q, TG Z G mi pc' L' st' M kc' ks' Q → TG Z G mi pc L st M kc ks Q) (k : SG Z G mi pc' L' st' v kc' ks' Q) : SG Z G mi pc L st v kc ks Q := fun X M1 h => f _ _ (k X M1 h)
theorem H_topi {x y : Int32} (h : x = y) (k : SG Z G mi pc L (.int y :: st) v kc ks Q) : SG Z G mi pc L (.int x :: st) v kc ks Q := by subst h; exact k
theorem H_if_eq {x : Int32} {off : Int} {tgt : Nat} (hd : decode (mC mi) pc = .ok (.ifCond .eq off, 3)) (ht : (pc : Int) + off = (tgt : Int)) (kt : x = 0 → SG Z G mi tgt L st v kc ks Q) (kf : ¬ x = 0 → SG Z G mi (pc + 3) L st v kc ks Q) : SG Z G mi pc L (.int x :: st) v kc ks Q :=
  fun X M1 h => G_if_eq hd ht (fun c => kt c X M1 h) (fun c => kf c X M1 h)
theorem H_if_ne {x : Int32} {off : Int} {tgt : Nat} (hd : decode (mC mi) pc = .ok (.ifCond .ne off, 3)) (ht : (pc : Int) + off = (tgt : Int)) (kt : ¬ x = 0 → SG Z G mi tgt L st v kc ks Q) (kf : x = 0 → SG Z G mi (pc + 3) L st v kc ks Q) : SG Z G mi pc L (.int x :: st) v kc ks Q :=
  fun X M1 h => G_if_ne hd ht (fun c => kt c X M1 h) (fun c => kf c X M1 h)
theorem H_if_lt {x : Int32} {off : Int} {tgt : Nat} (hd : decode (mC mi) pc = .ok (.ifCond .lt off, 3)) (ht : (pc : Int) + off = (tgt : Int)) (kt : x < 0 → SG Z G mi tgt L st v kc ks Q) (kf : ¬ x < 0 → SG Z G mi (pc + 3) L st v kc ks Q) : SG Z G mi pc L (.int x :: st) v kc ks Q :=
  fun X M1 h => G_if_lt hd ht (fun c => kt c X M1 h) (fun c => kf c X M1 h)
theorem H_if_ge {x : Int32} {off : Int} {tgt : Nat} (hd : decode (mC mi) pc = .ok (.ifCond .ge off, 3)) (ht : (pc : Int) + off = (tgt : Int)) (kt : 0 ≤ x → SG Z G mi tgt L st v kc ks Q) (kf : ¬ 0 ≤ x → SG Z G mi (pc + 3) L st v kc ks Q) : SG Z G mi pc L (.int x :: st) v kc ks Q :=
  fun X M1 h => G_if_ge hd ht (fun c => kt c X M1 h) (fun c => kf c X M1 h)
theorem H_if_gt {x : Int32} {off : Int} {tgt : Nat} (hd : decode (mC mi) pc = .ok (.ifCond .gt off, 3)) (ht : (pc : Int) + off = (tgt : Int)) (kt : 0 < x → SG Z G mi tgt L st v kc ks Q) (kf : ¬ 0 < x → SG Z G mi (pc + 3) L st v kc ks Q) : SG Z G mi pc L (.int x :: st) v kc ks Q :=
  fun X M1 h => G_if_gt hd ht (fun c => kt c X M1 h) (fun c => kf c X M1 h)
theorem H_if_le {x : Int32} {off : Int} {tgt : Nat} (hd : decode (mC mi) pc = .ok (.ifCond .le off, 3)) (ht : (pc : Int) + off = (tgt : Int)) (kt : x ≤ 0 → SG Z G mi tgt L st v kc ks Q) (kf : ¬ x ≤ 0 → SG Z G mi (pc + 3) L st v kc ks Q) : SG Z G mi pc L (.int x :: st) v kc ks Q :=
  fun X M1 h => G_if_le hd ht (fun c => kt c X M1 h) (fun c => kf c X M1 h)
theorem H_icmp_eq {x y : Int32} {off : Int} {tgt : Nat} (hd : decode (mC mi) pc = .ok (.if_icmp .eq off, 3)) (ht : (pc : Int) + off = (tgt : Int)) (kt : x = y → SG Z G mi tgt L st v kc ks Q) (kf : ¬ x = y → SG Z G mi (pc + 3) L st v kc ks Q) : SG Z G mi pc L (.int y :: .int x :: st) v kc ks Q :=
  fun X M1 h => G_icmp_eq hd ht (fun c => kt c X M1 h) (fun c => kf c X M1 h)
theorem H_icmp_ne {x y : Int32} {off : Int} {tgt : Nat} (hd : decode (mC mi) pc = .ok (.if_icmp .ne off, 3)) (ht : (pc : Int) + off = (tgt : Int)) (kt : ¬ x = y → SG Z G mi tgt L st v kc ks Q) (kf : x = y → SG Z G mi (pc + 3) L st v kc ks Q) : SG Z G mi pc L (.int y :: .int x :: st) v kc ks Q :=
  fun X M1 h => G_icmp_ne hd ht (fun c => kt c X M1 h) (fun c => kf c X M1 h)
theorem H_icmp_lt {x y : Int32} {off : Int} {tgt : Nat} (hd : decode (mC mi) pc = .ok (.if_icmp .lt off, 3)) (ht : (pc : Int) + off = (tgt : Int)) (kt : x < y → SG Z G mi tgt L st v kc ks Q) (kf : ¬ x < y → SG Z G mi (pc + 3) L st v kc ks Q) : SG Z G mi pc L (.int y :: .int x :: st) v kc ks Q :=
  fun X M1 h => G_icmp_lt hd ht (fun c => kt c X M1 h) (fun c => kf c X M1 h)
theorem H_icmp_ge {x y : Int32} {off : Int} {tgt : Nat} (hd : decode (mC mi) pc = .ok (.if_icmp .ge off, 3)) (ht : (pc : Int) + off = (tgt : Int)) (kt : y ≤ x → SG Z G mi tgt L st v kc ks Q) (kf : ¬ y ≤ x → SG Z G mi (pc + 3) L st v kc ks Q) : SG Z G mi pc L (.int y :: .int x :: st) v kc ks Q :=
  fun X M1 h => G_icmp_ge hd ht (fun c => kt c X M1 h) (fun c => kf c X M1 h)
theorem H_icmp_gt {x y : Int32} {off : Int} {tgt : Nat} (hd : decode (mC mi) pc = .ok (.if_icmp .gt off, 3)) (ht : (pc : Int) + off = (tgt : Int)) (kt : y < x → SG Z G mi tgt L st v kc ks Q) (kf : ¬ y < x → SG Z G mi (pc + 3) L st v kc ks Q) : SG Z G mi pc L (.int y :: .int x :: st) v kc ks Q :=
  fun X M1 h => G_icmp_gt hd ht (fun c => kt c X M1 h) (fun c => kf c X M1 h)
theorem H_icmp_le {x y : Int32} {off : Int} {tgt : Nat} (hd : decode (mC mi) pc = .ok (.if_icmp .le off, 3)) (ht : (pc : Int) + off = (tgt : Int)) (kt : x ≤ y → SG Z G mi tgt L st v kc ks Q) (kf : ¬ x ≤ y → SG Z G mi (pc + 3) L st v kc ks Q) : SG Z G mi pc L (.int y :: .int x :: st) v kc ks Q :=
  fun X M1 h => G_icmp_le hd ht (fun c => kt c X M1 h) (fun c => kf c X M1 h)
theorem H_if_eqN {a : Nat} {off : Int} {tgt : Nat} (hd : decode (mC mi) pc = .ok (.ifCond .eq off, 3)) (ht : (pc : Int) + off = (tgt : Int)) (ha : a < 2 ^ 31) (kt : a = 0 → SG Z G mi tgt L st v kc ks Q) (kf : ¬ a = 0 → SG Z G mi (pc + 3) L st v kc ks Q) : SG Z G mi pc L (.int (nI a) :: st) v kc ks Q := by
  have e1 := nI_eq ha (b := 0) (by decide); have e2 := nI_ltI ha (b := 0) (by decide); have e3 := nI_leI ha (b := 0) (by decide); have e4 := nI_ltI (a := 0) (by decide) ha; have e5 := nI_leI (a := 0) (by decide) ha
  rw [nI_0] at e1 e2 e3 e4 e5
  refine H_if_eq hd ht (fun c => kt ?_) (fun c => kf ?_)
  · first | trivial | exact e1.mp c | exact e2.mp c | exact e4.mp c | exact fun h => c (e1.mpr h) | exact absurd (e2.mp c) (by omega) | exact (c (e5.mpr (by omega))).elim | (have := e3.mp c; omega) | (have : ¬ a < 0 := fun h => c (e2.mpr h); omega) | (have : ¬ 0 < a := fun h => c (e4.mpr h); omega) | (have : ¬ a ≤ 0 := fun h => c (e3.mpr h); omega)
  · first | trivial | exact e1.mp c | exact e2.mp c | exact e4.mp c | exact fun h => c (e1.mpr h) | exact absurd (e2.mp c) (by omega) | exact (c (e5.mpr (by omega))).elim | (have := e3.mp c; omega) | (have : ¬ a < 0 := fun h => c (e2.mpr h); omega) | (have : ¬ 0 < a := fun h => c (e4.mpr h); omega) | (have : ¬ a ≤ 0 := fun h => c (e3.mpr h); omega)
theorem H_if_neN {a : Nat} {off : Int} {tgt : Nat} (hd : decode (mC mi) pc = .ok (.ifCond .ne off, 3)) (ht : (pc : Int) + off = (tgt : Int)) (ha : a < 2 ^ 31) (kt : ¬ a = 0 → SG Z G mi tgt L st v kc ks Q) (kf : a = 0 → SG Z G mi (pc + 3) L st v kc ks Q) : SG Z G mi pc L (.int (nI a) :: st) v kc ks Q := by
  have e1 := nI_eq ha (b := 0) (by decide); have e2 := nI_ltI ha (b := 0) (by decide); have e3 := nI_leI ha (b := 0) (by decide); have e4 := nI_ltI (a := 0) (by decide) ha; have e5 := nI_leI (a := 0) (by decide) ha
  rw [nI_0] at e1 e2 e3 e4 e5
  refine H_if_ne hd ht (fun c => kt ?_) (fun c => kf ?_)
  · first | trivial | exact e1.mp c | exact e2.mp c | exact e4.mp c | exact fun h => c (e1.mpr h) | exact absurd (e2.mp c) (by omega) | exact (c (e5.mpr (by omega))).elim | (have := e3.mp c; omega) | (have : ¬ a < 0 := fun h => c (e2.mpr h); omega) | (have : ¬ 0 < a := fun h => c (e4.mpr h); omega) | (have : ¬ a ≤ 0 := fun h => c (e3.mpr h); omega)
  · first | trivial | exact e1.mp c | exact e2.mp c | exact e4.mp c | exact fun h => c (e1.mpr h) | exact absurd (e2.mp c) (by omega) | exact (c (e5.mpr (by omega))).elim | (have := e3.mp c; omega) | (have : ¬ a < 0 := fun h => c (e2.mpr h); omega) | (have : ¬ 0 < a := fun h => c (e4.mpr h); omega) | (have : ¬ a ≤ 0 := fun h => c (e3.mpr h); omega)
theorem H_if_ltN {a : Nat} {off : Int} {tgt : Nat} (hd : decode (mC mi) pc = .ok (.ifCond .lt off, 3)) (ht : (pc : Int) + off = (tgt : Int)) (ha : a < 2 ^ 31) (kt : False → SG Z G mi tgt L st v kc ks Q) (kf : True → SG Z G mi (pc + 3) L st v kc ks Q) : SG Z G mi pc L (.int (nI a) :: st) v kc ks Q := by
  have e1 := nI_eq ha (b := 0) (by decide); have e2 := nI_ltI ha (b := 0) (by decide); have e3 := nI_leI ha (b := 0) (by decide); have e4 := nI_ltI (a := 0) (by decide) ha; have e5 := nI_leI (a := 0) (by decide) ha
  rw [nI_0] at e1 e2 e3 e4 e5
  refine H_if_lt hd ht (fun c => kt ?_) (fun c => kf ?_)
  · first | trivial | exact e1.mp c | exact e2.mp c | exact e4.mp c | exact fun h => c (e1.mpr h) | exact absurd (e2.mp c) (by omega) | exact (c (e5.mpr (by omega))).elim | (have := e3.mp c; omega) | (have : ¬ a < 0 := fun h => c (e2.mpr h); omega) | (have : ¬ 0 < a := fun h => c (e4.mpr h); omega) | (have : ¬ a ≤ 0 := fun h => c (e3.mpr h); omega)
  · first | trivial | exact e1.mp c | exact e2.mp c | exact e4.mp c | exact fun h => c (e1.mpr h) | exact absurd (e2.mp c) (by omega) | exact (c (e5.mpr (by omega))).elim | (have := e3.mp c; omega) | (have : ¬ a < 0 := fun h => c (e2.mpr h); omega) | (have : ¬ 0 < a := fun h => c (e4.mpr h); omega) | (have : ¬ a ≤ 0 := fun h => c (e3.mpr h); omega)
theorem H_if_geN {a : Nat} {off : Int} {tgt : Nat} (hd : decode (mC mi) pc = .ok (.ifCond .ge off, 3)) (ht : (pc : Int) + off = (tgt : Int)) (ha : a < 2 ^ 31) (kt : True → SG Z G mi tgt L st v kc ks Q) (kf : False → SG Z G mi (pc + 3) L st v kc ks Q) : SG Z G mi pc L (.int (nI a) :: st) v kc ks Q := by
  have e1 := nI_eq ha (b := 0) (by decide); have e2 := nI_ltI ha (b := 0) (by decide); have e3 := nI_leI ha (b := 0) (by decide); have e4 := nI_ltI (a := 0) (by decide) ha; have e5 := nI_leI (a := 0) (by decide) ha
  rw [nI_0] at e1 e2 e3 e4 e5
  refine H_if_ge hd ht (fun c => kt ?_) (fun c => kf ?_)
  · first | trivial | exact e1.mp c | exact e2.mp c | exact e4.mp c | exact fun h => c (e1.mpr h) | exact absurd (e2.mp c) (by omega) | exact (c (e5.mpr (by omega))).elim | (have := e3.mp c; omega) | (have : ¬ a < 0 := fun h => c (e2.mpr h); omega) | (have : ¬ 0 < a := fun h => c (e4.mpr h); omega) | (have : ¬ a ≤ 0 := fun h => c (e3.mpr h); omega)
  · first | trivial | exact e1.mp c | exact e2.mp c | exact e4.mp c | exact fun h => c (e1.mpr h) | exact absurd (e2.mp c) (by omega) | exact (c (e5.mpr (by omega))).elim | (have := e3.mp c; omega) | (have : ¬ a < 0 := fun h => c (e2.mpr h); omega) | (have : ¬ 0 < a := fun h => c (e4.mpr h); omega) | (have : ¬ a ≤ 0 := fun h => c (e3.mpr h); omega)
theorem H_if_gtN {a : Nat} {off : Int} {tgt : Nat} (hd : decode (mC mi) pc = .ok (.ifCond .gt off, 3)) (ht : (pc : Int) + off = (tgt : Int)) (ha : a < 2 ^ 31) (kt : 0 < a → SG Z G mi tgt L st v kc ks Q) (kf : a = 0 → SG Z G mi (pc + 3) L st v kc ks Q) : SG Z G mi pc L (.int (nI a) :: st) v kc ks Q := by
  have e1 := nI_eq ha (b := 0) (by decide); have e2 := nI_ltI ha (b := 0) (by decide); have e3 := nI_leI ha (b := 0) (by decide); have e4 := nI_ltI (a := 0) (by decide) ha; have e5 := nI_leI (a := 0) (by decide) ha
  rw [nI_0] at e1 e2 e3 e4 e5
  refine H_if_gt hd ht (fun c => kt ?_) (fun c => kf ?_)
  · first | trivial | exact e1.mp c | exact e2.mp c | exact e4.mp c | exact fun h => c (e1.mpr h) | exact absurd (e2.mp c) (by omega) | exact (c (e5.mpr (by omega))).elim | (have := e3.mp c; omega) | (have : ¬ a < 0 := fun h => c (e2.mpr h); omega) | (have : ¬ 0 < a := fun h => c (e4.mpr h); omega) | (have : ¬ a ≤ 0 := fun h => c (e3.mpr h); omega)
  · first | trivial | exact e1.mp c | exact e2.mp c | exact e4.mp c | exact fun h => c (e1.mpr h) | exact absurd (e2.mp c) (by omega) | exact (c (e5.mpr (by omega))).elim | (have := e3.mp c; omega) | (have : ¬ a < 0 := fun h => c (e2.mpr h); omega) | (have : ¬ 0 < a := fun h => c (e4.mpr h); omega) | (have : ¬ a ≤ 0 := fun h => c (e3.mpr h); omega)
theorem H_if_leN {a : Nat} {off : Int} {tgt : Nat} (hd : decode (mC mi) pc = .ok (.ifCond .le off, 3)) (ht : (pc : Int) + off = (tgt : Int)) (ha : a < 2 ^ 31) (kt : a = 0 → SG Z G mi tgt L st v kc ks Q) (kf : 0 < a → SG Z G mi (pc + 3) L st v kc ks Q) : SG Z G mi pc L (.int (nI a) :: st) v kc ks Q := by
  have e1 := nI_eq ha (b := 0) (by decide); have e2 := nI_ltI ha (b := 0) (by decide); have e3 := nI_leI ha (b := 0) (by decide); have e4 := nI_ltI (a := 0) (by decide) ha; have e5 := nI_leI (a := 0) (by decide) ha
  rw [nI_0] at e1 e2 e3 e4 e5
  refine H_if_le hd ht (fun c => kt ?_) (fun c => kf ?_)
  · first | trivial | exact e1.mp c | exact e2.mp c | exact e4.mp c | exact fun h => c (e1.mpr h) | exact absurd (e2.mp c) (by omega) | exact (c (e5.mpr (by omega))).elim | (have := e3.mp c; omega) | (have : ¬ a < 0 := fun h => c (e2.mpr h); omega) | (have : ¬ 0 < a := fun h => c (e4.mpr h); omega) | (have : ¬ a ≤ 0 := fun h => c (e3.mpr h); omega)
  · first | trivial | exact e1.mp c | exact e2.mp c | exact e4.mp c | exact fun h => c (e1.mpr h) | exact absurd (e2.mp c) (by omega) | exact (c (e5.mpr (by omega))).elim | (have := e3.mp c; omega) | (have : ¬ a < 0 := fun h => c (e2.mpr h); omega) | (have : ¬ 0 < a := fun h => c (e4.mpr h); omega) | (have : ¬ a ≤ 0 := fun h => c (e3.mpr h); omega)
theorem H_icmp_eqN {a b : Nat} {off : Int} {tgt : Nat} (hd : decode (mC mi) pc = .ok (.if_icmp .eq off, 3)) (ht : (pc : Int) + off = (tgt : Int)) (ha : a < 2 ^ 31) (hb : b < 2 ^ 31) (kt : a = b → SG Z G mi tgt L st v kc ks Q) (kf : ¬ a = b → SG Z G mi (pc + 3) L st v kc ks Q) : SG Z G mi pc L (.int (nI b) :: .int (nI a) :: st) v kc ks Q := by
  have e1 := nI_eq ha hb; have e2 := nI_ltI ha hb; have e3 := nI_leI ha hb; have e4 := nI_ltI hb ha; have e5 := nI_leI hb ha
  refine H_icmp_eq hd ht (fun c => kt ?_) (fun c => kf ?_)
  · first | exact e1.mp c | exact e2.mp c | exact e3.mp c | exact e4.mp c | exact e5.mp c | exact fun h => c (e1.mpr h) | exact Nat.not_lt.mp fun h => c (e2.mpr h) | exact Nat.not_lt.mp fun h => c (e4.mpr h) | exact Nat.not_le.mp fun h => c (e3.mpr h) | exact Nat.not_le.mp fun h => c (e5.mpr h)
  · first | exact e1.mp c | exact e2.mp c | exact e3.mp c | exact e4.mp c | exact e5.mp c | exact fun h => c (e1.mpr h) | exact Nat.not_lt.mp fun h => c (e2.mpr h) | exact Nat.not_lt.mp fun h => c (e4.mpr h) | exact Nat.not_le.mp fun h => c (e3.mpr h) | exact Nat.not_le.mp fun h => c (e5.mpr h)
theorem H_icmp_neN {a b : Nat} {off : Int} {tgt : Nat} (hd : decode (mC mi) pc = .ok (.if_icmp .ne off, 3)) (ht : (pc : Int) + off = (tgt : Int)) (ha : a < 2 ^ 31) (hb : b < 2 ^ 31) (kt : ¬ a = b → SG Z G mi tgt L st v kc ks Q) (kf : a = b → SG Z G mi (pc + 3) L st v kc ks Q) : SG Z G mi pc L (.int (nI b) :: .int (nI a) :: st) v kc ks Q := by
  have e1 := nI_eq ha hb; have e2 := nI_ltI ha hb; have e3 := nI_leI ha hb; have e4 := nI_ltI hb ha; have e5 := nI_leI hb ha
  refine H_icmp_ne hd ht (fun c => kt ?_) (fun c => kf ?_)
  · first | exact e1.mp c | exact e2.mp c | exact e3.mp c | exact e4.mp c | exact e5.mp c | exact fun h => c (e1.mpr h) | exact Nat.not_lt.mp fun h => c (e2.mpr h) | exact Nat.not_lt.mp fun h => c (e4.mpr h) | exact Nat.not_le.mp fun h => c (e3.mpr h) | exact Nat.not_le.mp fun h => c (e5.mpr h)
  · first | exact e1.mp c | exact e2.mp c | exact e3.mp c | exact e4.mp c | exact e5.mp c | exact fun h => c (e1.mpr h) | exact Nat.not_lt.mp fun h => c (e2.mpr h) | exact Nat.not_lt.mp fun h => c (e4.mpr h) | exact Nat.not_le.mp fun h => c (e3.mpr h) | exact Nat.not_le.mp fun h => c (e5.mpr h)
theorem H_icmp_ltN {a b : Nat} {off : Int} {tgt : Nat} (hd : decode (mC mi) pc = .ok (.if_icmp .lt off, 3)) (ht : (pc : Int) + off = (tgt : Int)) (ha : a < 2 ^ 31) (hb : b < 2 ^ 31) (kt : a < b → SG Z G mi tgt L st v kc ks Q) (kf : b ≤ a → SG Z G mi (pc + 3) L st v kc ks Q) : SG Z G mi pc L (.int (nI b) :: .int (nI a) :: st) v kc ks Q := by
  have e1 := nI_eq ha hb; have e2 := nI_ltI ha hb; have e3 := nI_leI ha hb; have e4 := nI_ltI hb ha; have e5 := nI_leI hb ha
  refine H_icmp_lt hd ht (fun c => kt ?_) (fun c => kf ?_)
  · first | exact e1.mp c | exact e2.mp c | exact e3.mp c | exact e4.mp c | exact e5.mp c | exact fun h => c (e1.mpr h) | exact Nat.not_lt.mp fun h => c (e2.mpr h) | exact Nat.not_lt.mp fun h => c (e4.mpr h) | exact Nat.not_le.mp fun h => c (e3.mpr h) | exact Nat.not_le.mp fun h => c (e5.mpr h)
  · first | exact e1.mp c | exact e2.mp c | exact e3.mp c | exact e4.mp c | exact e5.mp c | exact fun h => c (e1.mpr h) | exact Nat.not_lt.mp fun h => c (e2.mpr h) | exact Nat.not_lt.mp fun h => c (e4.mpr h) | exact Nat.not_le.mp fun h => c (e3.mpr h) | exact Nat.not_le.mp fun h => c (e5.mpr h)
theorem H_icmp_geN {a b : Nat} {off : Int} {tgt : Nat} (hd : decode (mC mi) pc = .ok (.if_icmp .ge off, 3)) (ht : (pc : Int) + off = (tgt : Int)) (ha : a < 2 ^ 31) (hb : b < 2 ^ 31) (kt : b ≤ a → SG Z G mi tgt L st v kc ks Q) (kf : a < b → SG Z G mi (pc + 3) L st v kc ks Q) : SG Z G mi pc L (.int (nI b) :: .int (nI a) :: st) v kc ks Q := by
  have e1 := nI_eq ha hb; have e2 := nI_ltI ha hb; have e3 := nI_leI ha hb; have e4 := nI_ltI hb ha; have e5 := nI_leI hb ha
  refine H_icmp_ge hd ht (fun c => kt ?_) (fun c => kf ?_)
  · first | exact e1.mp c | exact e2.mp c | exact e3.mp c | exact e4.mp c | exact e5.mp c | exact fun h => c (e1.mpr h) | exact Nat.not_lt.mp fun h => c (e2.mpr h) | exact Nat.not_lt.mp fun h => c (e4.mpr h) | exact Nat.not_le.mp fun h => c (e3.mpr h) | exact Nat.not_le.mp fun h => c (e5.mpr h)
  · first | exact e1.mp c | exact e2.mp c | exact e3.mp c | exact e4.mp c | exact e5.mp c | exact fun h => c (e1.mpr h) | exact Nat.not_lt.mp fun h => c (e2.mpr h) | exact Nat.not_lt.mp fun h => c (e4.mpr h) | exact Nat.not_le.mp fun h => c (e3.mpr h) | exact Nat.not_le.mp fun h => c (e5.mpr h)
theorem H_icmp_gtN {a b : Nat} {off : Int} {tgt : Nat} (hd : decode (mC mi) pc = .ok (.if_icmp .gt off, 3)) (ht : (pc : Int) + off = (tgt : Int)) (ha : a < 2 ^ 31) (hb : b < 2 ^ 31) (kt : b < a → SG Z G mi tgt L st v kc ks Q) (kf : a ≤ b → SG Z G mi (pc + 3) L st v kc ks Q) : SG Z G mi pc L (.int (nI b) :: .int (nI a) :: st) v kc ks Q := by
  have e1 := nI_eq ha hb; have e2 := nI_ltI ha hb; have e3 := nI_leI ha hb; have e4 := nI_ltI hb ha; have e5 := nI_leI hb ha
  refine H_icmp_gt hd ht (fun c => kt ?_) (fun c => kf ?_)
  · first | exact e1.mp c | exact e2.mp c | exact e3.mp c | exact e4.mp c | exact e5.mp c | exact fun h => c (e1.mpr h) | exact Nat.not_lt.mp fun h => c (e2.mpr h) | exact Nat.not_lt.mp fun h => c (e4.mpr h) | exact Nat.not_le.mp fun h => c (e3.mpr h) | exact Nat.not_le.mp fun h => c (e5.mpr h)
  · first | exact e1.mp c | exact e2.mp c | exact e3.mp c | exact e4.mp c | exact e5.mp c | exact fun h => c (e1.mpr h) | exact Nat.not_lt.mp fun h => c (e2.mpr h) | exact Nat.not_lt.mp fun h => c (e4.mpr h) | exact Nat.not_le.mp fun h => c (e3.mpr h) | exact Nat.not_le.mp fun h => c (e5.mpr h)
theorem H_icmp_leN {a b : Nat} {off : Int} {tgt : Nat} (hd : decode (mC mi) pc = .ok (.if_icmp .le off, 3)) (ht : (pc : Int) + off = (tgt : Int)) (ha : a < 2 ^ 31) (hb : b < 2 ^ 31) (kt : a ≤ b → SG Z G mi tgt L st v kc ks Q) (kf : b < a → SG Z G mi (pc + 3) L st v kc ks Q) : SG Z G mi pc L (.int (nI b) :: .int (nI a) :: st) v kc ks Q := by
  have e1 := nI_eq ha hb; have e2 := nI_ltI ha hb; have e3 := nI_leI ha hb; have e4 := nI_ltI hb ha; have e5 := nI_leI hb ha
  refine H_icmp_le hd ht (fun c => kt ?_) (fun c => kf ?_)
  · first | exact e1.mp c | exact e2.mp c | exact e3.mp c | exact e4.mp c | exact e5.mp c | exact fun h => c (e1.mpr h) | exact Nat.not_lt.mp fun h => c (e2.mpr h) | exact Nat.not_lt.mp fun h => c (e4.mpr h) | exact Nat.not_le.mp fun h => c (e3.mpr h) | exact Nat.not_le.mp fun h => c (e5.mpr h)
  · first | exact e1.mp c | exact e2.mp c | exact e3.mp c | exact e4.mp c | exact e5.mp c | exact fun h => c (e1.mpr h) | exact Nat.not_lt.mp fun h => c (e2.mpr h) | exact Nat.not_lt.mp fun h => c (e4.mpr h) | exact Nat.not_le.mp fun h => c (e3.mpr h) | exact Nat.not_le.mp fun h => c (e5.mpr h)
theorem H_getfield {idx ci k a : Nat} {fs : List Value} {x : Value} (hd : decode (mC mi) pc = .ok (.getfield idx, 3)) (hf : FG mi idx ci k) (hm : (WS v)[a]? = some (.inr (ci, fs))) (hv : fs[k]? = some x) (kk : SG Z G mi (pc + 3) L (x :: st) v kc ks Q) : SG Z G mi pc L (.ref a :: st) v kc ks Q := by
  intro X M1 h
  obtain ⟨e, h1, h2, -⟩ := h.at hm X
  rw [skI_obj h2] at h1
  exact G_getfield hd hf h1 hv (kk X M1 h)
theorem H_aaload {a t n : Nat} {f : Nat → Option Nat} {C0 : String} {i : Int32} (hd : decode (mC mi) pc = .ok (.aaload, 1)) (ha : K0 ≤ a) (hm : (WS v)[a]? = some (.inl (t, n, .inr (.inr (.inr (.inr f)))))) (ht : tyl[t]? = some (.object C0)) (hi : vp_in i n) (kk : SG Z G mi (pc + 1) L (va_rf (f i.toNatClampNeg) :: st) v kc ks Q) : SG Z G mi pc L (.int i :: .ref a :: st) v kc ks Q := by
  intro X M1 h
  obtain ⟨e, h1, h2, -⟩ := h.at hm X
  rw [skI_refs h2] at h1
  exact G_aaload hd ha h1 ht hi (kk X M1 h)
theorem H_static {idx n : Nat} {mj : MI} {as rest : List Value} {Qc : Option Value → (Nat → Int32) → Prop} (hd : decode (mC mi) pc = .ok (.invokestatic idx, 3)) (hst : st = as.reverse ++ rest) (hj : JO mi mj n) (hl : Cond.methodLink (mY mi).cls idx (mY mj) ∈ gtb) (hs : Cond.static (mY mj) ∈ gtb) (hn : as.length = n) (hw : (rest.map fun v => v.category).sum ≤ 8) (hkc : kc + (mRm mj).cells ≤ (mRm mi).cells) (hks : ks + (mRm mj).slots ≤ (mRm mi).slots)
    (hM : CS G mj as v Qc) (kk : ∀ r v', Qc r v' → SG Z G mi (pc + 3) L (r.toList ++ rest) v' (kc + (mRm mj).cells) (ks + (mRm mj).slots) Q) : SG Z G mi pc L st v kc ks Q :=
  fun X M1 h => G_static hd hst hj hl hs hn hw hkc hks (hM X M1 h) (fun r _ hq => by obtain ⟨M1', v', rfl, hW, hq⟩ := hq; exact kk r v' hq X M1' hW)
theorem H_virtual {idx n b ci : Nat} {mj : MI} {as rest fs : List Value} {q : vw_C} {Qc : Option Value → (Nat → Int32) → Prop} (hd : decode (mC mi) pc = .ok (.invokevirtual idx, 3)) (hst : st = as.reverse ++ .ref b :: rest) (hj : JO mi mj n) (hl : Cond.methodLink (mY mi).cls idx (mY mj) ∈ gtb) (hi : Cond.instanceMethod (mY mj) ∈ gtb) (hse : Cond.selects (mY mj).cls (mY mj) (mY mj) ∈ gtb) (hm : (WS v)[b]? = some (.inr (ci, fs))) (hc : classes[ci]? = some q) (hq : q.1 = (mY mj).cls) (hn : as.length = n) (hw : (rest.map fun v => v.category).sum ≤ 8) (hkc : kc + (mRm mj).cells ≤ (mRm mi).cells) (hks : ks + (mRm mj).slots ≤ (mRm mi).slots)
    (hM : CS G mj (.ref b :: as) v Qc) (kk : ∀ r v', Qc r v' → SG Z G mi (pc + 3) L (r.toList ++ rest) v' (kc + (mRm mj).cells) (ks + (mRm mj).slots) Q) : SG Z G mi pc L st v kc ks Q := by
  intro X M1 h
  obtain ⟨e, h1, h2, -⟩ := h.at hm X
  rw [skI_obj h2] at h1
  exact G_virtual hd hst hj hl hi hse h1 hc hq hn hw hkc hks (hM X M1 h) (fun r _ hq => by obtain ⟨M1', v', rfl, hW, hq⟩ := hq; exact kk r v' hq X M1' hW)
end HR

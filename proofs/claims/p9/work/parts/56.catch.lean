/-! Contracts of methods that throw, and the row of one that catches. -/
/-- behind a throw: what is left, where the thrown object lies -/
def XR (G : GX) (mi : MI) (ad0 : Nat → Nat) (n0 : Nat) (Q : Option Value → List va_E → Prop) (s : State) (x : Addr) (t : State) : Prop :=
  s.WarmedH t.vm ∧ (∃ Lc : List Loc, s.sameButNew ({ t with vm := s.vm } : State) Lc (mRm mi).cells (mRm mi).slots ∧ ∀ q ∈ Lc, gA G q.base) ∧
  (∃ (M' : List va_E) (ad' : Nat → Nat), Q none M' ∧ mR G ad' M' t.heap ∧ n0 ≤ M'.length ∧ (∀ i, i < n0 → ad' i = ad0 i) ∧ va_F (gA G) s t) ∧
  ∃ ce : Cell, t.heap[x]? = some ce ∧ s.vm.findClass nsN = some ce.cls ∧ s.vm.assignable ce.cls ce.cls = true ∧ ce.vm = VmData.none
def ZX : GZ := ([], fun G _ _ s c => thOK G s ∧ c.exceptionTable.isEmpty = true ∧ G.1.stackTraces = false, fun G mi ad0 n0 Q below _ s t => t.status = .running ∧ ∃ x, Ended t below (.threw x) ∧ XR G mi ad0 n0 Q s x t)
theorem mR.kept {G : GX} {ad : Nat → Nat} {M : List va_E} {H H' : Heap} (h : mR G ad M H) (hk : ∀ (a : Nat) (c : Cell), H[a]? = some c → H'[a]? = some c) : mR G ad M H' := by
  refine ⟨h.1.kept fun k x hx => ?_, h.2⟩
  have hl := (h.1 k x hx).lt
  rw [hk x.1 H[x.1] (Array.getElem?_eq_getElem hl), Array.getElem?_eq_getElem hl]
theorem same_root {T t : State} {fs : List Frame} {vm : Vm} {L : List Loc} {k n : Nat} (h : (T.setFrames fs).sameButNew ({ t with vm := (T.setFrames fs).vm } : State) L k n) : (T.setVm vm).sameButNew ({ t with vm := vm } : State) L k n := by
  obtain ⟨q1, q2⟩ := h.setVm vm
  refine ⟨?_, q2⟩
  have e1 : ((T.setFrames fs).setVm vm) = (T.setVm vm).setFrames fs := rfl
  rw [e1, State.setFrames_setFrames] at q1
  exact q1
theorem G_throw {G : GX} {mi : MI} {pc : Nat} {L : List (Nat × Value)} {st : List Value} {M : List va_E} {kc ks : Nat} {Q : Option Value → List va_E → Prop} (hy : (mY mi).cls = "PasswordGate")
    (d0 : decode (mC mi) pc = .ok (.new 123, 3)) (d3 : decode (mC mi) (pc + 3) = .ok (.dup, 1)) (d4 : decode (mC mi) (pc + 4) = .ok (.invokespecial 125, 3)) (d7 : decode (mC mi) (pc + 7) = .ok (.athrow, 1))
    (h1 : Cond.classLink "PasswordGate" 123 nsN ∈ gtb) (h2 : Cond.initialized nsN ∈ gtb) (hf : 5 < (mRm mi).frames) (hl : (st.map fun v => v.category).sum + 90 ≤ (mRm mi).locals) (hkc : kc + 1 ≤ (mRm mi).cells) (hks : ks + 6 ≤ (mRm mi).slots) (hQ : Q none M) : TG ZX G mi pc L st M kc ks Q := by
  intro p e R s m args below meth c H locs ls ad ad0 n0 C P D T hT X
  obtain ⟨d1, d2, dR, dn, da, -, -⟩ := D
  obtain ⟨p1, p2, p3⟩ := P
  have hR : R = mRm mi := C.2.2.2.2.2.2.2.2.1
  have X' := re_stand X (R' := { frames := R.frames, locals := R.locals, cells := 1, slots := 6 }) (Nat.le_refl _) (Nat.le_refl _) (by rw [hR]; exact hkc) (by rw [hR]; exact hks)
  have hW : s.WarmedH (T.setFrames (.invoking m args :: below)).vm := X.warmed
  have hg : ∀ w ∈ gtb, w.before args (T.setFrames (.invoking m args :: below)) = true := fun w hw => word_at hW (gdw_spec (List.mem_filter.mp hw).2) (C.2.2.2.2.2.2.2.1 w hw)
  have ht : thOK G (T.setFrames (.invoking m args :: below)) := thOK.go hW (fun a h1 h2 => by show T.heap[a]? = _; rw [hT]; exact d1.2.1 a h1 h2) p1
  have ho : (T.setFrames (.invoking m args :: below)).vm.findClass "PasswordGate" = some m.cls := by
    rw [hW.alike.findClass, ← hy]; exact C.2.2.2.1
  have K := thr_W (s := T.setFrames (.invoking m args :: below)) (p := p) (l := G.1) (e := e) (R := { frames := R.frames, locals := R.locals, cells := 1, slots := 6 }) (m := m) (args := args) (below := below) (meth := meth) (c := c) (ls := ls) (rest := st.map (mV ad)) C.1 C.2.1 p3 ho (th_words hg ht) (hg _ h1) (hg _ h2) d0 d3 d4 d7 (by rw [C.2.2.1]; exact d2.1) p2 C.2.2.2.2.2.1 (by rw [hR]; exact hf) (by rw [cat_sum, hR]; exact hl) (Nat.le_refl _) (Nat.le_refl _)
  obtain ⟨t, a1, b1, b2, b3, b4, ce, b5, b6, b7, b8⟩ := K T rfl X'
  have hkeep : ∀ (a : Nat) (c : Cell), H[a]? = some c → t.heap[a]? = some c := by
    intro a cl hc
    obtain ⟨c', q1, q2, q3, q4⟩ := b4.2.2.2.2.2 a cl (by show T.heap[a]? = _; rw [hT]; exact hc)
    have : c' = cl := by
      rw [q2]
      have : c'.slots = cl.slots := Array.ext_getElem? fun i => q4 i (by simp)
      rw [this]
    rw [← this]; exact q1
  have hfc : s.vm.findClass nsN = some ce.cls := by rw [← hW.alike.findClass]; exact b6
  refine ⟨t, a1, b1, _, b2, State.WarmedH.trans (t := T.setFrames (.invoking m args :: below)) hW b3, ⟨locs, ?_, d1.2.2⟩, ⟨M, ad, hQ, dR.kept hkeep, dn, da, ?_, fun q h1 h2 => ?_⟩, ce, b5, hfc, by rw [← hW.alike.assignable]; exact b7, b8⟩
  · have := X.same.trans (same_root (vm := s.vm) b4)
    rw [List.append_nil] at this
    exact this.weaken (fun x hx _ => hx) hkc hks
  · exact Nat.le_trans (by rw [← hT] at d1; exact d1.1) b4.2.1
  · have hH : H[q]? = s.heap[q]? := d1.2.1 q h1 h2
    have hq : s.heap[q]? = some s.heap[q] := Array.getElem?_eq_getElem h1
    rw [hkeep q _ (hH.trans hq), hq]
/-- the contract of a method that throws -/
def CTx (G : GX) (mi : MI) (as : List Value) (M : List va_E) (Q : Option Value → List va_E → Prop) : Prop :=
  ∀ ad : Nat → Nat, MetFree G.1 (mY mi) (headSpec (mW mi) (mRm mi)) (va_Pc (as.map (mV ad)) (fun U => G.2.2.2.1 ≤ U.heap.size ∧ va_K G.2.1 classes (tysG G) U ∧ fxOK G U ∧ mR G ad M U.heap ∧ okA M.length as ∧ thOK G U)) (fun _ _ _ _ _ => True) (fun _ s o t => ∃ x, o = .threw x ∧ XR G mi ad M.length Q s x t)
theorem CTx.of {G : GX} {mi : MI} {as : List Value} {M : List va_E} {Q : Option Value → List va_E → Prop} (hNT : G.1.stackTraces = false) (hy : plainName (mY mi).cls = true) (hn : (lg_sl as).length ≤ mL mi) (h : TG ZX G mi 0 (lv_args 0 as) [] M 0 0 Q) : CTx G mi as M Q := by
  intro ad
  refine MetFree.of_bodyS (code := mC mi) (maxLocals := mL mi) (ret := mT mi) hy ?_ ?_
  · intro args s m h hn
    obtain ⟨meth, c, h1, h2, h3, h4, h5, h6, -, -⟩ := Cond.code_spec hn (atoms_spec (ws := mW mi) h _ List.mem_cons_self)
    exact ⟨meth, c, h1, h2, h3, h4, h5, h6⟩
  · intro p e s m args below meth c s₁ B hml hv _
    obtain ⟨rfl, hN, hK, hF, hR, hA, hT⟩ := hv
    have hts := atoms_spec (ws := mW mi) B.pre
    have hown : s.vm.findClass (mY mi).cls = some m.cls := findClass_of_methodNamed B.named
    have hl := lv_entry (as.map (mV ad)) (n := mL mi) (by rw [lg_sl_len]; exact hn)
    obtain ⟨meth', c', g1, g2, -, -, -, -, g3, -⟩ := Cond.code_spec B.named (hts _ List.mem_cons_self)
    have e1 : meth' = meth := Option.some.inj (g1.symm.trans B.method)
    subst e1
    have X₀ := Stand.of_body B
    have e2 : c' = c := Option.some.inj (g2.symm.trans X₀.code)
    subst e2
    have hh0 : s₁.heap = s.heap := by rw [B.state]; rfl
    rw [lv_args_map] at hl
    have K := h p e _ s m _ below meth' c' s.heap [] _ ad ad M.length ⟨B.exec, B.bytes, hml, hown, B.returns, B.notSynchronized, (name_of_methodNamed B.named B.method).1, fun w hw => hts w (List.mem_cons_of_mem _ hw), rfl, hK, hF, hN⟩ ⟨hT, g3, hNT⟩ ⟨va_S.rf, hl, hR, Nat.le_refl _, fun _ _ => rfl, lv_args_ok as 0 hA, fun _ h => by cases h⟩
    obtain ⟨t, a1, b1, x, b2, b3⟩ := K s₁ hh0 X₀
    refine ⟨t, .threw x, ?_, b1, b2, x, rfl, b3⟩
    rw [lg_entry_eq]
    exact a1
/-- a method of the law's own that catches: its handlers are known -/
def ZH (hs : List (Nat × Nat × Nat × Nat)) : GZ := ([], fun G _ _ s c => thOK G s ∧ c.exceptionTable.toList.map (fun h => (h.startPc, h.endPc, h.handlerPc, h.catchType)) = hs, fun G mi ad0 n0 Q below args s => MQ below (qQ G ad0 n0 Q) args s (mRm mi).cells (mRm mi).slots (gA G))
theorem G_retH {hs : List (Nat × Nat × Nat × Nat)} {G : GX} {mi : MI} {pc : Nat} {L : List (Nat × Value)} {M : List va_E} {kc ks : Nat} {Q : Option Value → List va_E → Prop} {v : Int32} {ty : FieldType} (hd : decode (mC mi) pc = .ok (.ireturn, 1)) (hT : mT mi = some ty) (hn : narrow ty (.int v) = .int v) (hkc : kc ≤ (mRm mi).cells) (hks : ks ≤ (mRm mi).slots) (hQ : Q (some (.int v)) M) : TG (ZH hs) G mi pc L [.int v] M kc ks Q := by
  intro p e R s m args below meth c H locs ls ad ad0 n0 C P D
  obtain ⟨d1, d2, d3, d4, d5, d6, d7⟩ := D
  refine W.widen hkc hks ?_
  exact W.zret (ty := ty) C.1 C.2.1 (by rw [C.2.2.2.2.1, hT]) hn (fun t ht hW => ⟨some (.int v), M, ad, rfl, hQ, by rw [ht]; exact d3, d4, d5, fun w hw => (by cases hw; trivial), d1.F ht⟩) d1.2.2 hd C.2.2.2.2.2.1
abbrev mWh (i : MI) (hs : List (Nat × Nat × Nat × Nat)) : List Cond := Cond.codeWith i.1 i.2.1 i.2.2.1 i.2.2.2.1 hs :: gtb
def PcT (G : GX) (as : List Value) (M : List va_E) (ad : Nat → Nat) : Array Value → State → Prop := va_Pc (as.map (mV ad)) (fun U => G.2.2.2.1 ≤ U.heap.size ∧ va_K G.2.1 classes (tysG G) U ∧ fxOK G U ∧ mR G ad M U.heap ∧ okA M.length as ∧ thOK G U)
def CTh (G : GX) (mi : MI) (hs : List (Nat × Nat × Nat × Nat)) (as : List Value) (M : List va_E) (Q : Option Value → List va_E → Prop) : Prop :=
  ∀ ad : Nat → Nat, Met G.1 (mY mi) (mWh mi hs) (mRm mi) (PcT G as M ad) (qQ G ad M.length Q) (mRm mi).cells (mRm mi).slots (gA G)
theorem CTh.of {G : GX} {mi : MI} {hs : List (Nat × Nat × Nat × Nat)} {as : List Value} {M : List va_E} {Q : Option Value → List va_E → Prop} (hy : plainName (mY mi).cls = true) (hn : (lg_sl as).length ≤ mL mi) (h : TG (ZH hs) G mi 0 (lv_args 0 as) [] M 0 0 Q) : CTh G mi hs as M Q := by
  intro ad
  refine MetFree.of_bodyS (code := mC mi) (maxLocals := mL mi) (ret := mT mi) hy ?_ ?_
  · intro args s m h hn
    obtain ⟨m', meth, c, h0, h1, h2, h3, h4, -, h5, h6, -⟩ := Cond.codeWith_spec (atoms_spec (ws := mWh mi hs) h _ List.mem_cons_self)
    have : m' = m := Option.some.inj (h0.symm.trans hn)
    subst this
    exact ⟨meth, c, h1, h2, h3, h4, h5, h6⟩
  · intro p e s m args below meth c s₁ B hml hv _
    obtain ⟨rfl, hN, hK, hF, hR, hA, hT⟩ := hv
    have hts := atoms_spec (ws := mWh mi hs) B.pre
    have hown : s.vm.findClass (mY mi).cls = some m.cls := findClass_of_methodNamed B.named
    have hl := lv_entry (as.map (mV ad)) (n := mL mi) (by rw [lg_sl_len]; exact hn)
    obtain ⟨m', meth', c', g0, g1, g2, -, -, g3, -, -, -⟩ := Cond.codeWith_spec (hts _ List.mem_cons_self)
    have e0 : m' = m := Option.some.inj (g0.symm.trans B.named)
    subst e0
    have e1 : meth' = meth := Option.some.inj (g1.symm.trans B.method)
    subst e1
    have X₀ := Stand.of_body B
    have e2 : c' = c := Option.some.inj (g2.symm.trans X₀.code)
    subst e2
    have hh0 : s₁.heap = s.heap := by rw [B.state]; rfl
    rw [lv_args_map] at hl
    have K := h p e _ s m' _ below meth' c' s.heap [] _ ad ad M.length ⟨B.exec, B.bytes, hml, hown, B.returns, B.notSynchronized, (name_of_methodNamed B.named B.method).1, fun w hw => hts w (List.mem_cons_of_mem _ hw), rfl, hK, hF, hN⟩ ⟨hT, g3⟩ ⟨va_S.rf, hl, hR, Nat.le_refl _, fun _ _ => rfl, lv_args_ok as 0 hA, fun _ h => by cases h⟩
    obtain ⟨t, a1, o, b1, b2, b3, b4⟩ := K s₁ hh0 X₀
    refine ⟨t, o, ?_, b1, b2, b3, b4⟩
    rw [lg_entry_eq]
    exact a1
theorem PcT.blind {G : GX} {as : List Value} {M : List va_E} {ad : Nat → Nat} (a : Array Value) (U : State) (g : JFrame) (mk : MethodId) (q : PcT G as M ad a U) : PcT G as M ad a (U.calling g mk a) := by
  obtain ⟨q0, q1, q2, q3, q4, q5, q6⟩ := q
  exact ⟨q0, q1, va_K.moved (u := U) (U := U.calling g mk a) (Vm.Alike.refl U.vm) q2, fxOK.same (u := U) rfl rfl q3, q4, q5, thOK.same (u := U) rfl rfl q6⟩
theorem PcT.at {G : GX} {mi : MI} {p : Program} {R : Room} {s : State} {m : MethodId} {args : Array Value} {meth : Method} {c : Code} {H : Heap} {locs : List Loc} {ad : Nat → Nat} {as : List Value} {M : List va_E} (C : CX G mi p R s m args meth c) (ht : thOK G s) (d1 : va_S (gA G) s.heap H locs) (d3 : mR G ad M H) (hA : okA M.length as) (U : State) (hU : U.heap = H) (hW : s.WarmedH U.vm) : PcT G as M ad (as.map (mV ad)).toArray U :=
  ⟨rfl, by rw [hU]; exact Nat.le_trans C.2.2.2.2.2.2.2.2.2.2.2 d1.1, va_K.moved hW.alike C.2.2.2.2.2.2.2.2.2.1, fxOK.go hW (fun a h1 h2 => by rw [hU]; exact d1.2.1 a h1 h2) C.2.2.2.2.2.2.2.2.2.2.1, by rw [hU]; exact d3, hA, thOK.go hW (fun a h1 h2 => by rw [hU]; exact d1.2.1 a h1 h2) ht⟩
theorem G_catch {hs : List (Nat × Nat × Nat × Nat)} {G : GX} {mi : MI} {pc : Nat} {L : List (Nat × Value)} {st : List Value} {M : List va_E} {kc ks : Nat} {Q : Option Value → List va_E → Prop} {idx n b ci he hp ct len i : Nat} {mj : MI} {as rest fs : List Value} {q : vw_C} {Qc : Option Value → List va_E → Prop} {L' : List (Nat × Value)}
    (hd : decode (mC mi) pc = .ok (.invokevirtual idx, 3)) (hst : st = as.reverse ++ .ref b :: rest) (hj : JO mi mj n) (hl : Cond.methodLink (mY mi).cls idx (mY mj) ∈ gtb) (hi : Cond.instanceMethod (mY mj) ∈ gtb) (hse : Cond.selects (mY mj).cls (mY mj) (mY mj) ∈ gtb) (hm : M[b]? = some (.inr (ci, fs))) (hc : classes[ci]? = some q) (hq : q.1 = (mY mj).cls) (hn : as.length = n) (hw : (rest.map fun v => v.category).sum ≤ 8) (hkc : kc + (mRm mj).cells ≤ (mRm mi).cells) (hks : ks + (mRm mj).slots ≤ (mRm mi).slots)
    (hM : CTx G mj (.ref b :: as) M Qc) (hhs : hs = [(0, he, hp, ct)]) (hcov : pc < he) (hct : ct ≠ 0) (hcl : Cond.classLink (mY mi).cls ct nsN ∈ gtb) (hi0 : i < mL mi)
    (hrow : ∀ {p : Program} {e : Env} {R : Room} {s : State} {m : MethodId} {args : Array Value} {below : List Frame} {meth : Method} {c : Code} {H : Heap} {locs : List Loc} {ls : Array Slot} {cells slots : Nat} {QQ : State → Prop} {x : Nat} {lv : List (Nat × Value)}, p.tables.exec = Jvm.exec → c.code = mC mi → lv_has ls (mL mi) lv → (∀ ls', lv_has ls' (mL mi) ((i, Value.ref x) :: lv.filter (fun q => !(q.1 == i) && !(q.1 + 1 == i && q.2.category == 2))) → W p G.1 e R s m args below meth c H locs cells slots QQ (F0 m (hp + len) ls' [])) → W p G.1 e R s m args below meth c H locs cells slots QQ (F0 m hp ls [.ref x]))
    (hL : L.filter (fun q => !(q.1 == i) && !(q.1 + 1 == i && q.2.category == 2)) = L')
    (kk : ∀ M', Qc none M' → TG (ZH hs) G mi (hp + len) L' [] M' (kc + (mRm mj).cells) (ks + (mRm mj).slots) Q) : TG (ZH hs) G mi pc L st M kc ks Q := by
  intro p e R s m args below meth c H locs ls ad ad0 n0 C P D T hT X
  obtain ⟨d1, d2, d3, d4, d5, d6, d7⟩ := D
  subst hst
  subst hL
  have hR : R = mRm mi := C.2.2.2.2.2.2.2.2.1
  have hA : okA M.length (.ref b :: as) := ok_push (d7 _ (by simp)) fun v hv => d7 v (List.mem_append_left _ (List.mem_reverse.mpr hv))
  have hb0 := d3.obj hm hc
  obtain ⟨cellB, hcB, hoB, hclB⟩ := va_recv C.2.2.2.2.2.2.2.2.2.1 d3.world hc (wl_at hb0 hm)
  have hgt := C.2.2.2.2.2.2.2.1
  have hcode := hgt _ hj.1
  obtain ⟨c2, r2, m2, q1, q2, q3, q4, kP, hkP, hkPi⟩ := Cond.selects_spec (hgt _ hse)
  have hnf : NotFace s (mY mj) := fun r0 hr0 => by
    have e2 := hr0.symm.trans q3
    cases Option.some.inj e2
    exact ⟨kP, hkP, hkPi⟩
  have hBT : BackT G.1 R p e below s args (mY mj) 3 8 (fun A a => A.cells + (mRm mj).cells ≤ R.cells ∧ A.slots + (mRm mj).slots ≤ R.slots ∧ PcT G (.ref b :: as) M ad a A.U)
      (fun A a x B => ∃ (g : JFrame) (mk : MethodId) (t : State) (Lc : List Loc), B.U.heap = t.heap ∧ B.U.vm = t.vm ∧ XR G mj ad M.length Qc (A.U.calling g mk a) x t ∧ B.locs = A.locs ++ Lc ∧ (∀ q ∈ Lc, gA G q.base) ∧ B.cells = A.cells + (mRm mj).cells ∧ B.slots = A.slots + (mRm mj).slots) := by
    refine BackT.of_free (S := headSpec (mW mj) (mRm mj)) (bytes := mC mj) (maxL := mL mj) (ret := mT mj) (E := fun _ _ _ _ Lc k n => k = (mRm mj).cells ∧ n = (mRm mj).slots ∧ ∀ q ∈ Lc, gA G q.base) (hM ad) (by rw [hR]; exact hj.2.2.2.1) (by rw [hR]; exact hj.2.2.2.2) ?_ ?_ (fun _ _ _ _ _ _ _ _ _ => trivial) ?_ ?_
    · intro m' meth' c' A a X' hp'
      have hw' : ∀ w ∈ mW mj, w.before a A.U = true := fun w hw' => word_at X'.warmed (gdw_spec (List.mem_filter.mp (hj.ws w hw')).2) (hgt w (hj.ws w hw'))
      exact ⟨atoms_intro hw', hw' _ List.mem_cons_self, word_at X'.warmed (gdw_spec (List.mem_filter.mp hj.2.1).2) (hgt _ hj.2.1), hp'.1, hp'.2.1⟩
    · intro m' meth' c' A a g mk X' hp'
      exact PcT.blind a A.U g mk hp'.2.2
    · intro a st o t hq'
      obtain ⟨x, rfl, hX⟩ := hq'
      obtain ⟨h1, ⟨Lc, h2, h3⟩, h4⟩ := hX
      exact ⟨Lc, _, _, ⟨⟨x, rfl⟩, h1, h2⟩, rfl, rfl, h3⟩
    · intro m' meth' c' A a g mk v t Lc k n' X' hp' hq' hF hE
      obtain ⟨e1, e2, hL⟩ := hE
      subst e1; subst e2
      obtain ⟨x, hx, hX⟩ := hq'
      cases hx
      exact ⟨g, mk, t, Lc, rfl, rfl, hX, rfl, hL, rfl, rfl⟩
  obtain ⟨x, vm₁, ⟨U, l2, c3, s3⟩, hW₁, XB, ⟨g', mk, t, Lc, e1, e2, ⟨x1, -, ⟨M', ad', hQ, hMR, hn', hag, hF⟩, ce, x4, x5, x6, x7⟩, h1, hLc, h2, h3⟩, hsteps⟩ := X.virtualThrows C.1 (own := (mY mi).cls) (C := (mY mj).cls) (index := idx) (y := mY mj) (z := mY mj) C.2.2.2.1 (hgt _ hl) (decl_of (hgt _ hi) hcode) hnf (hgt _ hse) (hgt _ hi) ⟨hj.2.2.1.1, hj.2.2.1.2.1⟩ hBT (b := ad b) (cB := cellB.cls) (by rw [← hq]; exact hclB) ⟨cellB, by rw [hT]; exact hcB, rfl, hoB⟩ (g := F0 m pc ls ((as.reverse ++ .ref b :: rest).map (mV ad))) rfl (by rw [C.2.2.1]; exact d2.1) (Steps.refl _) (argsL := as.map (mV ad)) (rest := rest.map (mV ad)) (fun sig hs' => by
      rw [List.length_map, hn]
      have := hj.2.2.1.2.2
      rw [hs'] at this
      exact (Option.some.inj this).symm) (by simp [mV]) (lv_room (by rw [cat_sum]; exact hw)) (by rw [C.2.1]; exact hd)
    (fun vm₁ hW₁ => ⟨by rw [hR]; exact hkc, by rw [hR]; exact hks, PcT.at C P.1 d1 d3 hA (T.setVm vm₁) hT hW₁⟩)
  dsimp only [Pt.U, Pt.locs, Pt.cells, Pt.slots] at XB e1 e2 x1 hF x5 x6 h1 h2 h3 hsteps
  subst h1; subst h2; subst h3
  have hsp : ∃ en, c.exceptionTable.toList = [] ++ en :: [] ∧ en.startPc = 0 ∧ en.endPc = he ∧ en.handlerPc = hp ∧ en.catchType = ct := by
    have := P.2
    rw [hhs] at this
    cases hE : c.exceptionTable.toList with
    | nil => rw [hE] at this; simp at this
    | cons en r =>
      rw [hE] at this
      cases r with
      | cons _ _ => simp at this
      | nil =>
        simp only [List.map_cons, List.map_nil, List.cons.injEq, Prod.mk.injEq, and_true] at this
        exact ⟨en, rfl, this.1, this.2.1, this.2.2.1, this.2.2.2⟩
  obtain ⟨en, hen, s0, s1, s2, s4⟩ := hsp
  have hcx : s.vm.findClass nsN = some ce.cls := by rw [← hW₁.alike.findClass]; exact x5
  obtain ⟨vm', XV, hgo⟩ := XB.thenCaughtLink x (g := { F0 m pc ls ((as.reverse ++ .ref b :: rest).map (mV ad)) with stack := rest.map (mV ad) }) rfl hsteps (own := (mY mi).cls) (name := nsN) C.2.2.2.1 [] en [] hen (fun _ h => by cases h) (by show (decide (en.startPc ≤ pc) && decide (pc < en.endPc)) = true; rw [s0, s1]; simp [hcov]) (by rw [s4]; exact hct) (by rw [s4]; exact hgt _ hcl) (cT := ce.cls) (cell := ce) hcx (by rw [e1]; exact x4) (by rw [x7]; rfl) (by rw [← hW₁.alike.assignable]; exact x6)
  obtain ⟨hz, hk⟩ := hF
  have hst0 : ((T.setVm vm₁).calling g' mk ((Value.ref (ad b) :: as.map (mV ad)).toArray)).heap = H := hT
  rw [hst0] at hz hk
  have hl' : mLo ad' L = mLo ad L := List.map_congr_left fun x hxm => by rw [mV_ext hag (d6 x hxm)]
  have hS : va_S (gA G) s.heap U.heap (locs ++ Lc) := by
    rw [e1]
    refine ⟨Nat.le_trans d1.1 hz, fun q h1 h2 => by rw [hk q (Nat.lt_of_lt_of_le h1 d1.1) h2]; exact d1.2.1 q h1 h2, fun q hq => ?_⟩
    rcases List.mem_append.mp hq with h | h
    · exact d1.2.2 q h
    · exact hLc q h
  have K : W p G.1 e R s m args below meth c U.heap (locs ++ Lc) (kc + (mRm mj).cells) (ks + (mRm mj).slots) ((ZH hs).2.2 G mi ad0 n0 Q below args s) (F0 m hp ls [.ref x]) := by
    refine hrow C.1 C.2.1 d2 (fun ls' h => ?_)
    refine kk M' hQ p e R s m args below meth c U.heap (locs ++ Lc) ls' ad' ad0 n0 C P ⟨hS, ⟨h.1, h.2.1, fun y hy => h.2.2 y (List.mem_cons_of_mem _ ?_)⟩, by rw [e1]; exact hMR, Nat.le_trans d4 hn', fun i hi => by rw [hag i (by omega)]; exact d5 i hi, fun y hy => (d6 y (List.mem_filter.mp hy).1).mono hn', fun _ h => by cases h⟩
    obtain ⟨z, hz1, rfl⟩ := List.mem_map.mp hy
    obtain ⟨hz2, hz3⟩ := List.mem_filter.mp hz1
    refine List.mem_filter.mpr ⟨?_, by simpa [mV_cat] using hz3⟩
    show _ ∈ mLo ad L
    rw [← hl']
    exact List.mem_map.mpr ⟨z, hz2, rfl⟩
  obtain ⟨t2, a1, b1⟩ := K (U.setVm vm') rfl XV
  refine ⟨t2, hgo.trans ?_, b1⟩
  rw [s2]
  exact a1
def JH (mi mj : MI) (hs : List (Nat × Nat × Nat × Nat)) (n : Nat) : Prop := Cond.codeWith (mY mj) (mC mj) (mL mj) (mT mj) hs ∈ gtb ∧ Cond.initialized (mY mj).cls ∈ gtb ∧ ((mY mj).cls ≠ "java/lang/invoke/MethodHandle" ∧ (mY mj).cls ≠ "java/lang/invoke/VarHandle" ∧ (parseMethodDescriptor (mY mj).desc).map (fun d => d.parameters.length) = some n) ∧ (mRm mj).frames + 1 ≤ (mRm mi).frames ∧ 8 + (mL mj + 11) + (mRm mj).locals ≤ (mRm mi).locals
theorem G_staticH {Z : GZ} {hs : List (Nat × Nat × Nat × Nat)} {G : GX} {mi : MI} {pc : Nat} {L : List (Nat × Value)} {st : List Value} {M : List va_E} {kc ks : Nat} {Q : Option Value → List va_E → Prop} {idx n : Nat} {mj : MI} {as rest : List Value} {Qc : Option Value → List va_E → Prop} (hZ : ∀ p e s c, Z.2.1 G p e s c → thOK G s) (hd : decode (mC mi) pc = .ok (.invokestatic idx, 3)) (hst : st = as.reverse ++ rest) (hj : JH mi mj hs n) (hl : Cond.methodLink (mY mi).cls idx (mY mj) ∈ gtb) (hs0 : Cond.static (mY mj) ∈ gtb) (hn : as.length = n) (hw : (rest.map fun v => v.category).sum ≤ 8) (hkc : kc + (mRm mj).cells ≤ (mRm mi).cells) (hks : ks + (mRm mj).slots ≤ (mRm mi).slots)
    (hM : CTh G mj hs as M Qc) (kk : ∀ r M', Qc r M' → TG Z G mi (pc + 3) L (r.toList ++ rest) M' (kc + (mRm mj).cells) (ks + (mRm mj).slots) Q) : TG Z G mi pc L st M kc ks Q := by
  intro p e R s m args below meth c H locs ls ad ad0 n0 C P D
  obtain ⟨d1, d2, d3, d4, d5, d6, d7⟩ := D
  subst hst
  have hR : R = mRm mi := C.2.2.2.2.2.2.2.2.1
  have hA : okA M.length as := fun v hv => d7 v (List.mem_append_left _ (List.mem_reverse.mpr hv))
  have hgt := C.2.2.2.2.2.2.2.1
  have hwall : ∀ w ∈ mWh mj hs, w ∈ gtb := List.forall_mem_cons.mpr ⟨hj.1, fun _ h => h⟩
  have hK : Back G.1 R p e below s args (mY mj) 3 8 (PreOf R (mRm mj).cells (mRm mj).slots (PcT G as M ad)) (PostOf (qQ G ad M.length Qc) (mRm mj).cells (mRm mj).slots (gA G)) := by
    refine Back.of_freeWith (handlers := hs) (S := headSpec (mWh mj hs) (mRm mj)) (P := PcT G as M ad) (K := fun _ _ _ _ _ => True) (Q := fun a st o t => qQ G ad M.length Qc a st o t ∧ ∃ Lc, FrameEnd st o t Lc (mRm mj).cells (mRm mj).slots ∧ ∀ q ∈ Lc, gA G q.base) (bytes := mC mj) (maxL := mL mj) (ret := mT mj)
      (E := fun a st o t Lc k n => k = (mRm mj).cells ∧ n = (mRm mj).slots ∧ ∀ q ∈ Lc, gA G q.base) (hM ad) (by rw [hR]; exact hj.2.2.2.1) (by rw [hR]; exact hj.2.2.2.2) ?_ ?_ (fun _ _ _ _ _ _ _ _ _ => trivial) ?_ ?_
    · intro m' meth' c' A a X' hp'
      have hw' : ∀ w ∈ mWh mj hs, w.before a A.U = true := fun w hw' => word_at X'.warmed (gdw_spec (List.mem_filter.mp (hwall w hw')).2) (hgt w (hwall w hw'))
      exact ⟨atoms_intro hw', hw' _ List.mem_cons_self, word_at X'.warmed (gdw_spec (List.mem_filter.mp hj.2.1).2) (hgt _ hj.2.1), hp'.1, hp'.2.1⟩
    · intro m' meth' c' A a g mk X' hp'
      exact PcT.blind a A.U g mk hp'.2.2
    · intro a st o t ⟨hq, Lc, hF, hL⟩
      exact ⟨Lc, _, _, hF, rfl, rfl, hL⟩
    · intro m' meth' c' A a g mk v t Lc k n' X' hp' hq hF ⟨e1, e2, hL⟩
      subst e1; subst e2
      exact ⟨g, mk, t, Lc, rfl, rfl, hq.1, rfl, hL, rfl, rfl⟩
  have hrun : va_Run p G.1 e R s m args below meth c H locs kc ks (mRm mj).cells (mRm mj).slots (F0 m pc ls ((as.reverse ++ rest).map (mV ad))) (rest.map (mV ad)) (qQ G ad M.length Qc (as.map (mV ad)).toArray) (gA G) := by
    intro T hT X
    obtain ⟨mk, methM, cM, hnamed, hmethM, -, -, -, -, -, -, hsigM⟩ := Cond.codeWith_spec (show (Cond.codeWith (mY mj) (mC mj) (mL mj) (mT mj) hs).holds args s none s [] = true from hgt _ hj.1)
    have hstatic : methM.isStatic = true := Cond.static_spec hnamed hmethM (hgt _ hs0)
    obtain ⟨kP, hkP, -⟩ := className_of_methodNamed hnamed
    have hinitP : kP.init = .initialized := Cond.initialized_spec (findClass_of_methodNamed hnamed) hkP (hgt _ hj.2.1)
    obtain ⟨vm₁, X₁, hstep₁⟩ := X.invokestatic C.1 C.2.2.2.1 (hgt _ hl) hnamed hmethM hstatic hkP hinitP ⟨hj.2.2.1.1, hj.2.2.1.2.1⟩ (g := F0 m pc ls ((as.reverse ++ rest).map (mV ad))) rfl (argsL := as.map (mV ad)) (rest := rest.map (mV ad)) (by
      rw [List.length_map, hn]
      have := hj.2.2.1.2.2
      rw [hsigM] at this
      exact (Option.some.inj this).symm) (by simp) (by rw [C.2.1]; exact hd)
    obtain ⟨v, ⟨U', l2, c2, s2⟩, X', ⟨g', mk', t, Lc, e1, e2, hq, h1, hL, h2, h3⟩, hsteps⟩ := hK m meth c ⟨T.setVm vm₁, locs, kc, ks⟩ { F0 m pc ls ((as.reverse ++ rest).map (mV ad)) with stack := rest.map (mV ad) } (.invokestatic idx) mk (as.map (mV ad)).toArray X₁ rfl (by rw [C.2.2.1]; exact d2.1) (by rw [C.2.1]; exact hd) (lv_room (by rw [cat_sum]; exact hw)) (X₁.named hnamed) ⟨by rw [hR]; exact hkc, by rw [hR]; exact hks, PcT.at C (hZ _ _ _ _ P) d1 d3 hA (T.setVm vm₁) hT X₁.warmed⟩
    dsimp only [Pt.U, Pt.locs, Pt.cells, Pt.slots] at X' e1 e2 h1 h2 h3 hsteps
    subst h1; subst h2; subst h3
    exact ⟨v, (T.setVm vm₁).calling g' mk' (as.map (mV ad)).toArray, t, U', Lc, hT, X', hL, e1, e2, hq, fun target h => hstep₁ _ fun acts => by rw [doInvoke_state]; exact hsteps.trans h⟩
  exact cg_run hrun C ⟨d1, d2, d3, d4, d5, d6, fun v hv => d7 v (List.mem_append_right _ hv)⟩ P kk

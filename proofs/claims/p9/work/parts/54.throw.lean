/-! Throwing: an object of java/util/NoSuchElementException is made and thrown; caught by the law's helpers. -/
/-- the same frame, as if the invocation began here -/
theorem re_stand {p : Program} {l : Launch} {e : Env} {R R' : Room} {s : State} {m : MethodId} {args : Array Value} {below : List Frame} {meth : Method} {c : Code} {T : State} {locs : List Loc} {cells slots : Nat} (X : Stand p l e R s m args below meth c T locs cells slots) (h1 : R'.frames ≤ R.frames) (h2 : R'.locals ≤ R.locals) (h3 : cells + R'.cells ≤ R.cells) (h4 : slots + R'.slots ≤ R.slots) : Stand p l e R' (T.setFrames (.invoking m args :: below)) m args below meth c T [] 0 0 := by
  obtain ⟨g0, hf⟩ := X.frames_eq
  have hcur : T.cur < T.threads.size := State.cur_lt_of_frames hf
  have hF : (T.setFrames (.invoking m args :: below)).frames = .invoking m args :: below := State.frames_setFrames _ hcur
  have hme : ∀ fs, (T.setFrames fs).me.stackBytes = T.me.stackBytes := fun fs => by
    obtain ⟨t, ht⟩ : ∃ t, T.threads[T.cur]? = some t := ⟨_, Array.getElem?_eq_getElem hcur⟩
    simp [State.me, State.setFrames, Array.getElem?_modify, ht]
  refine ⟨X.admits, X.cas, X.clock, hF, ?_, ?_, X.method', X.code, X.here, X.tail, State.WarmedH.refl _, by rw [State.stackLimits_setFrames], by rw [hme], ?_⟩
  · have hr := X.room
    unfold State.hasRoom at hr ⊢
    rw [State.localsInUse_invoking X.frames X.method X.code, X.frames] at hr
    rw [State.localsInUse_invoking hF X.method' X.code, hF, State.stackLimits_setFrames, hme, X.limits, X.bytes]
    simp only [Bool.and_eq_true, decide_eq_true_eq] at hr ⊢
    obtain ⟨⟨⟨⟨r1, r2, r3, r4, r5, r6⟩, r7⟩, r8⟩, r9⟩ := hr
    have a1 := X.heapSize
    have a2 := X.used
    refine ⟨⟨⟨⟨by omega, by omega, by omega, by omega, by omega, r6⟩, ?_⟩, ?_⟩, ?_⟩
    · show T.heap.size + R'.cells ≤ _
      omega
    · show T.slotsUsed + R'.slots ≤ _
      omega
    · exact X.book
  · have hh := X.hears
    have hk : ∀ q, (T.setFrames (.invoking m args :: below)).code? q = s.code? q := fun q => by
      rw [State.code?_eq, State.code?_eq]
      show (T.vm.method? q).bind _ = _
      rw [X.warmed.alike.method?]
    have hm : (T.setFrames (.invoking m args :: below)).vm.method? m = s.vm.method? m := X.warmed.alike.method? m
    unfold State.hears at hh ⊢
    cases below with
    | nil => simp only [hm] at hh ⊢; exact hh
    | cons f r => cases f <;> simp only [hk, hm] at hh ⊢ <;> exact hh
  · refine ⟨?_, Nat.le_refl _, Nat.le_refl _, ?_, ?_, fun a c hc => ⟨c, hc, rfl, rfl, fun _ _ => rfl⟩⟩
    · show T.setVm T.vm = _
      rw [show T.setVm T.vm = T from rfl]
      show T = { (T.setFrames (.invoking m args :: below)).setFrames T.frames with heap := T.heap, slotsUsed := T.slotsUsed }
      rw [State.setFrames_setFrames]
      obtain ⟨t, ht, -⟩ := State.frames_cons hf
      rw [State.setFrames_self ht]
    · show T.slotsUsed = T.slotsUsed + ((T.heap.toList.drop T.heap.size).map (·.slots.size)).sum
      rw [List.drop_eq_nil_of_le (by simp)]; simp
    · show ((T.heap.toList.drop T.heap.size).map (·.slots.size)).sum ≤ 0
      rw [List.drop_eq_nil_of_le (by simp)]; simp
def nsN : String := "java/util/NoSuchElementException"
def nsU : List String := ["java/lang/RuntimeException", "java/lang/Exception"]
/-- how it ends: thrown, nothing old changed, the thrown object's cell -/
def thE (s : State) (below : List Frame) (n : Nat) (t : State) : Prop :=
  t.status = .running ∧ Ended t below (.threw n) ∧ s.WarmedH t.vm ∧ s.sameButNew ({ t with vm := s.vm } : State) [] 1 6 ∧ ∃ ce : Cell, t.heap[n]? = some ce ∧ s.vm.findClass nsN = some ce.cls ∧ s.vm.assignable ce.cls ce.cls = true ∧ ce.vm = VmData.none
theorem thr_W {p : Program} {l : Launch} {e : Env} {R : Room} {s : State} {m : MethodId} {args : Array Value} {below : List Frame} {meth : Method} {c : Code} {cc : ByteArray} {own : String} {ic ix pc : Nat} {ls : Array Slot} {rest : List Value}
    (hexec : p.tables.exec = Jvm.exec) (hb : c.code = cc) (htr : l.stackTraces = false) (hown : s.vm.findClass own = some m.cls)
    (h : ∀ a ∈ Bundle.ownAtoms0 own ic nsN nsU, a.before args s = true) (hcl : (Cond.classLink own ix nsN).before args s = true) (hini : (Cond.initialized nsN).before args s = true)
    (d0 : decode cc pc = .ok (.new ix, 3)) (d3 : decode cc (pc + 3) = .ok (.dup, 1)) (d4 : decode cc (pc + 4) = .ok (.invokespecial ic, 3)) (d7 : decode cc (pc + 7) = .ok (.athrow, 1))
    (hls : ls.size = c.maxLocals) (hex : c.exceptionTable.isEmpty = true) (hlocks : meth.locks = false) (hf : 5 < R.frames) (hl : (rest.map fun v => v.category).sum + 90 ≤ R.locals) (hc1 : 1 ≤ R.cells) (hs1 : 6 ≤ R.slots) :
    W p l e R s m args below meth c s.heap [] 0 0 (thE s below s.heap.size) (F0 m pc ls rest) := by
  have hin : (Cond.instantiable nsN 6).before args s = true := h _ (by simp [Bundle.ownAtoms0])
  obtain ⟨cX, kX, hfX, hkX, -⟩ := Cond.instantiable_spec (show (Cond.instantiable nsN 6).holds args s none s [] = true from hin)
  refine W.newcK hexec hb hown hcl hin hini rfl d0 (by omega) (by omega) hfX rfl (fun H' kC hkC e1 z1 o1 => ?_)
  refine lv_dup hexec hb d3 rfl ?_
  intro T hT X
  have hst : e.platform.stackTraces = false := by
    rw [X.admits.2.2.2.2.1]; exact htr
  obtain ⟨U, a1, a2, a3, a4, a5, ce, a6, a7⟩ := X.ctorThrow0 hexec hst (own := own) (cls := nsN) (names := nsU) (ic := ic) hown (by decide +kernel) (by decide +kernel) h (fun x hx => by cases hx) (a := s.heap.size) hfX hkC (by rw [hT]; exact e1) (Nat.le_refl _)
    (g := F0 m (pc + 3 + 1) ls (.ref s.heap.size :: .ref s.heap.size :: rest)) rfl hls rfl rfl rfl (by rw [hb]; exact d4) (by rw [hb]; exact d7) (fun x hx => by rw [Array.isEmpty_iff.mp hex] at hx; cases hx) (by show 2 + 3 < _; omega)
    (by show 2 * 0 + (1 + (rest.map fun v => v.category).sum) + (13 * (2 + 1) + 41) ≤ _; omega) hlocks
  exact ⟨U, a1, a2, a3, a4, a5, ce, a6, a7.cls, a7.self, a7.vm⟩
/-- a static of Throwable's that holds a reference or null -/
def tZ (n d : String) (A : Nat → Prop) (U : State) (H : Heap) : Prop :=
  ∃ (c : ClassId) (k : Class) (i : Nat) (f : Field) (a : Nat) (cell : Cell) (v : Value), U.vm.findClass Bundle.tN = some c ∧ U.fieldFound? Bundle.tN n d = some (c, k, i, f) ∧ f.isStatic = true ∧ k.statics = some a ∧ k.staticTypes[f.slot]? = some f.type ∧ H[a]? = some cell ∧ cell.vm.isStatics = true ∧ cell.cls = c ∧ f.slot < cell.slots.size ∧ cell.slots[f.slot]? = some v ∧ (v = .null ∨ ∃ x, v = .ref x) ∧ ¬ A a
theorem tZ.moved {n d : String} {A : Nat → Prop} {u U : State} {H : Heap} (hvm : u.vm.Alike U.vm) (h : tZ n d A u H) : tZ n d A U H := by
  obtain ⟨c, k, i, f, a, cell, v, h1, h2, h3, h4, h5, h6⟩ := h
  obtain ⟨k', hi', he⟩ := State.fieldFound?_setVm hvm h2
  exact ⟨c, k', i, f, a, cell, v, by rw [hvm.findClass]; exact h1, hi', h3, by rw [he]; exact h4, by rw [he]; exact h5, h6⟩
theorem tZ.kept {n d : String} {A : Nat → Prop} {U : State} {H H' : Heap} (hq : ∀ a : Nat, a < H.size → ¬ A a → H'[a]? = H[a]?) (h : tZ n d A U H) : tZ n d A U H' := by
  obtain ⟨c, k, i, f, a, cell, v, h1, h2, h3, h4, h5, h6, h7, h8, h9, h10, h11, h12⟩ := h
  exact ⟨c, k, i, f, a, cell, v, h1, h2, h3, h4, h5, by rw [hq a (Array.getElem?_eq_some_iff.mp h6).1 h12]; exact h6, h7, h8, h9, h10, h11, h12⟩
theorem tZ.lays {n d : String} {A : Nat → Prop} {U : State} (h : tZ n d A U U.heap) (args : Array Value) : (Cond.laysStatic Bundle.tN n d).before args U = true := by
  obtain ⟨c, k, i, f, a, cell, v, h1, h2, h3, h4, h5, h6, h7, h8, h9, h10, h11, h12⟩ := h
  exact Cond.laysStatic_of h1 h2 h3 h4 h6 h7 h8 h9 h5
theorem tZ.ref {n d : String} {A : Nat → Prop} {U : State} (h : tZ n d A U U.heap) (args : Array Value) : (Cond.isRef (.static Bundle.tN n d)).before args U = true := by
  obtain ⟨c, k, i, f, a, cell, v, h1, h2, h3, h4, h5, h6, h7, h8, h9, h10, h11, h12⟩ := h
  have he : (Term.static Bundle.tN n d).eval args U none [] U = some v := by
    simp [Term.eval, State.fieldNamed?, h2, h3, h4, h6, h7, h10]
  simp only [Cond.before, Cond.holds, Cond.value, he]
  rcases h11 with e | ⟨x, e⟩ <;> simp [e]
theorem tZ.of {n d : String} {A : Nat → Prop} {s : State} {args : Array Value} (h1 : (Cond.laysStatic Bundle.tN n d).before args s = true) (h2 : (Cond.isRef (.static Bundle.tN n d)).before args s = true) (hA : ∀ a : Nat, a < s.heap.size → ¬ A a) : tZ n d A s s.heap := by
  obtain ⟨c, k, i, f, a, cell, hc, hi, hst, ha, hcell, hs, hcls, hlt, hty⟩ := Cond.laysStatic_spec (show (Cond.laysStatic Bundle.tN n d).holds args s none s [] = true from h1)
  have hv : cell.slots[f.slot]? = some cell.slots[f.slot] := Array.getElem?_eq_getElem hlt
  have he : (Term.static Bundle.tN n d).eval args s none [] s = some cell.slots[f.slot] := by
    simp [Term.eval, State.fieldNamed?, hi, hst, ha, hcell, hs, hv]
  refine ⟨c, k, i, f, a, cell, _, hc, hi, hst, ha, hty, hcell, hs, hcls, hlt, hv, ?_, hA a (Array.getElem?_eq_some_iff.mp hcell).1⟩
  simp only [Cond.before, Cond.holds, Cond.value, he] at h2
  generalize cell.slots[f.slot] = w at h2
  cases w <;> simp_all
def cA (U : State) : Prop := ∃ c : ClassId, U.vm.findClass nsN = some c ∧ U.vm.assignable c c = true
theorem cA.moved {u U : State} (hvm : u.vm.Alike U.vm) (h : cA u) : cA U := by
  obtain ⟨c, h1, h2⟩ := h
  exact ⟨c, by rw [hvm.findClass]; exact h1, by rw [hvm.assignable]; exact h2⟩
theorem cA.of {s : State} {args : Array Value} (h : (Cond.castable nsN nsN).before args s = true) : cA s := by
  obtain ⟨c3, c4, hc3, hc4, hasg⟩ := Cond.castable_spec (show (Cond.castable nsN nsN).holds args s none s [] = true from h)
  cases hc3.symm.trans hc4
  exact ⟨c3, hc3, hasg⟩
theorem cA.word {s : State} (h : cA s) (args : Array Value) : (Cond.castable nsN nsN).before args s = true := by
  obtain ⟨c, h1, h2⟩ := h
  simp [Cond.before, Cond.holds, Cond.value, h1, h2]
def thOK (G : GX) (U : State) : Prop := tZ "UNASSIGNED_STACK" Bundle.steD (gA G) U U.heap ∧ tZ "SUPPRESSED_SENTINEL" Bundle.listD (gA G) U U.heap ∧ cA U
theorem thOK.same {G : GX} {u U : State} (hv : U.vm = u.vm) (hh : U.heap = u.heap) (h : thOK G u) : thOK G U := by
  have ha : u.vm.Alike U.vm := by rw [hv]; exact Vm.Alike.refl _
  exact ⟨by rw [hh]; exact h.1.moved ha, by rw [hh]; exact h.2.1.moved ha, h.2.2.moved ha⟩
theorem thOK.go {G : GX} {s U : State} (hW : s.WarmedH U.vm) (hq : ∀ a : Nat, a < s.heap.size → ¬ gA G a → U.heap[a]? = s.heap[a]?) (h : thOK G s) : thOK G U :=
  ⟨(h.1.moved hW.alike).kept hq, (h.2.1.moved hW.alike).kept hq, h.2.2.moved hW.alike⟩
theorem decl_of {args : Array Value} {s : State} {x : MethodName} {bytes : ByteArray} {maxL : Nat} {ret : Option FieldType} (h1 : (Cond.instanceMethod x).before args s = true) (h2 : (Cond.code x bytes maxL ret).before args s = true) : (Cond.declares x).before args s = true := by
  obtain ⟨mk, methM, hnamed, hmethM, hstM, habM⟩ := Cond.instanceMethod_spec h1
  obtain ⟨methM', cM, hmethM', -, -, -, -, -, -, hsigM⟩ := Cond.code_spec hnamed h2
  cases hmethM.symm.trans hmethM'
  simp [Cond.before, Cond.holds, Cond.value, hnamed, hmethM, hstM, hsigM]
theorem th_w0 : (Bundle.ownAtoms0 "PasswordGate" 125 nsN nsU)[0]? = lw_tbl[106]? := by decide +kernel
theorem th_w1 : (Bundle.ownAtoms0 "PasswordGate" 125 nsN nsU)[1]? = lw_tbl[1147]? := by decide +kernel
theorem th_w2 : (Bundle.ownAtoms0 "PasswordGate" 125 nsN nsU)[2]? = lw_tbl[1156]? := by decide +kernel
set_option maxRecDepth 100000 in
theorem th_w3 : (Bundle.ownAtoms0 "PasswordGate" 125 nsN nsU)[3]? = lw_tbl[1158]? := by rfl
theorem th_w4 : (Bundle.ownAtoms0 "PasswordGate" 125 nsN nsU)[4]? = lw_tbl[1161]? := by decide +kernel
theorem th_w5 : (Bundle.ownAtoms0 "PasswordGate" 125 nsN nsU)[5]? = lw_tbl[1163]? := by decide +kernel
theorem th_w6 : (Bundle.ownAtoms0 "PasswordGate" 125 nsN nsU)[6]? = lw_tbl[1148]? := by decide +kernel
set_option maxRecDepth 100000 in
theorem th_w7 : (Bundle.ownAtoms0 "PasswordGate" 125 nsN nsU)[7]? = lw_tbl[1149]? := by rfl
theorem th_w8 : (Bundle.ownAtoms0 "PasswordGate" 125 nsN nsU)[8]? = lw_tbl[117]? := by decide +kernel
set_option maxRecDepth 100000 in
theorem th_w9 : (Bundle.ownAtoms0 "PasswordGate" 125 nsN nsU)[9]? = lw_tbl[118]? := by rfl
theorem th_w10 : (Bundle.ownAtoms0 "PasswordGate" 125 nsN nsU)[10]? = lw_tbl[1150]? := by decide +kernel
theorem th_w11 : (Bundle.ownAtoms0 "PasswordGate" 125 nsN nsU)[11]? = lw_tbl[1155]? := by decide +kernel
theorem th_w12 : (Bundle.ownAtoms0 "PasswordGate" 125 nsN nsU)[12]? = lw_tbl[1159]? := by decide +kernel
theorem th_w13 : (Bundle.ownAtoms0 "PasswordGate" 125 nsN nsU)[13]? = lw_tbl[1175]? := by decide +kernel
theorem th_w14 : (Bundle.ownAtoms0 "PasswordGate" 125 nsN nsU)[14]? = lw_tbl[1137]? := by decide +kernel
theorem th_w15 : (Bundle.ownAtoms0 "PasswordGate" 125 nsN nsU)[15]? = lw_tbl[1176]? := by decide +kernel
theorem th_w16 : (Bundle.ownAtoms0 "PasswordGate" 125 nsN nsU)[16]? = lw_tbl[1139]? := by decide +kernel
theorem th_w17 : (Bundle.ownAtoms0 "PasswordGate" 125 nsN nsU)[17]? = lw_tbl[1177]? := by decide +kernel
theorem th_w18 : (Bundle.ownAtoms0 "PasswordGate" 125 nsN nsU)[18]? = lw_tbl[1141]? := by decide +kernel
theorem th_w19 : (Bundle.ownAtoms0 "PasswordGate" 125 nsN nsU)[19]? = lw_tbl[1151]? := by decide +kernel
theorem th_w21 : (Bundle.ownAtoms0 "PasswordGate" 125 nsN nsU)[21]? = lw_tbl[1153]? := by decide +kernel
theorem th_w23 : (Bundle.ownAtoms0 "PasswordGate" 125 nsN nsU)[23]? = lw_tbl[1143]? := by decide +kernel
theorem th_w24 : (Bundle.ownAtoms0 "PasswordGate" 125 nsN nsU)[24]? = lw_tbl[1165]? := by decide +kernel
set_option maxRecDepth 100000 in
theorem th_w25 : (Bundle.ownAtoms0 "PasswordGate" 125 nsN nsU)[25]? = lw_tbl[1166]? := by rfl
theorem th_w26 : (Bundle.ownAtoms0 "PasswordGate" 125 nsN nsU)[26]? = lw_tbl[1167]? := by decide +kernel
theorem th_w27 : (Bundle.ownAtoms0 "PasswordGate" 125 nsN nsU)[27]? = lw_tbl[1168]? := by decide +kernel
theorem th_w29 : (Bundle.ownAtoms0 "PasswordGate" 125 nsN nsU)[29]? = lw_tbl[1168]? := by decide +kernel
set_option maxRecDepth 100000 in
theorem th_w30 : (Bundle.ownAtoms0 "PasswordGate" 125 nsN nsU)[30]? = lw_tbl[1169]? := by rfl
theorem th_w31 : (Bundle.ownAtoms0 "PasswordGate" 125 nsN nsU)[31]? = lw_tbl[1170]? := by decide +kernel
theorem th_w32 : (Bundle.ownAtoms0 "PasswordGate" 125 nsN nsU)[32]? = lw_tbl[1171]? := by decide +kernel
theorem th_w34 : (Bundle.ownAtoms0 "PasswordGate" 125 nsN nsU)[34]? = lw_tbl[1171]? := by decide +kernel
set_option maxRecDepth 100000 in
theorem th_w35 : (Bundle.ownAtoms0 "PasswordGate" 125 nsN nsU)[35]? = lw_tbl[1172]? := by rfl
theorem th_w36 : (Bundle.ownAtoms0 "PasswordGate" 125 nsN nsU)[36]? = lw_tbl[1173]? := by decide +kernel
theorem th_w37 : (Bundle.ownAtoms0 "PasswordGate" 125 nsN nsU)[37]? = lw_tbl[1148]? := by decide +kernel
theorem th_w39 : (Bundle.ownAtoms0 "PasswordGate" 125 nsN nsU)[39]? = lw_tbl[1164]? := by decide +kernel
theorem th_w40 : (Bundle.ownAtoms0 "PasswordGate" 125 nsN nsU)[40]? = lw_tbl[1126]? := by decide +kernel
theorem th_w42 : (Bundle.ownAtoms0 "PasswordGate" 125 nsN nsU)[42]? = lw_tbl[1134]? := by decide +kernel
theorem th_w43 : (Bundle.ownAtoms0 "PasswordGate" 125 nsN nsU)[43]? = lw_tbl[1135]? := by decide +kernel
theorem th_w44 : (Bundle.ownAtoms0 "PasswordGate" 125 nsN nsU)[44]? = lw_tbl[1136]? := by decide +kernel
theorem th_w45 : (Bundle.ownAtoms0 "PasswordGate" 125 nsN nsU)[45]? = lw_tbl[1138]? := by decide +kernel
theorem th_w46 : (Bundle.ownAtoms0 "PasswordGate" 125 nsN nsU)[46]? = lw_tbl[1140]? := by decide +kernel
theorem th_w47 : (Bundle.ownAtoms0 "PasswordGate" 125 nsN nsU)[47]? = lw_tbl[1142]? := by decide +kernel
theorem th_w50 : (Bundle.ownAtoms0 "PasswordGate" 125 nsN nsU)[50]? = lw_tbl[1146]? := by decide +kernel
theorem th_w51 : (Bundle.ownAtoms0 "PasswordGate" 125 nsN nsU)[51]? = lw_tbl[1145]? := by decide +kernel
theorem th_w52 : (Bundle.ownAtoms0 "PasswordGate" 125 nsN nsU)[52]? = lw_tbl[1144]? := by decide +kernel
theorem th_len : (Bundle.ownAtoms0 "PasswordGate" 125 nsN nsU).length = 53 := rfl
theorem th_words {G : GX} {args : Array Value} {s : State} (hg : ∀ w ∈ gtb, w.before args s = true) (ht : thOK G s) : ∀ a ∈ Bundle.ownAtoms0 "PasswordGate" 125 nsN nsU, a.before args s = true := by
  have key : ∀ (k i : Nat) (w : Cond), (Bundle.ownAtoms0 "PasswordGate" 125 nsN nsU)[k]? = lw_tbl[i]? → (Bundle.ownAtoms0 "PasswordGate" 125 nsN nsU)[k]? = some w → gdw w = true → w.before args s = true := fun k i w h1 h2 h3 => hg w (gtb_of (List.mem_of_getElem? (h1.symm.trans h2)) h3)
  exact List.forall_mem_cons.mpr ⟨key 0 _ _ th_w0 rfl rfl, List.forall_mem_cons.mpr ⟨key 1 _ _ th_w1 rfl rfl, List.forall_mem_cons.mpr ⟨key 2 _ _ th_w2 rfl rfl, List.forall_mem_cons.mpr ⟨key 3 _ _ th_w3 rfl rfl, List.forall_mem_cons.mpr ⟨key 4 _ _ th_w4 rfl rfl, List.forall_mem_cons.mpr ⟨key 5 _ _ th_w5 rfl rfl, List.forall_mem_cons.mpr ⟨key 6 _ _ th_w6 rfl rfl, List.forall_mem_cons.mpr ⟨key 7 _ _ th_w7 rfl rfl, List.forall_mem_cons.mpr ⟨key 8 _ _ th_w8 rfl rfl, List.forall_mem_cons.mpr ⟨key 9 _ _ th_w9 rfl rfl, List.forall_mem_cons.mpr ⟨key 10 _ _ th_w10 rfl rfl, List.forall_mem_cons.mpr ⟨key 11 _ _ th_w11 rfl rfl, List.forall_mem_cons.mpr ⟨key 12 _ _ th_w12 rfl rfl, List.forall_mem_cons.mpr ⟨key 13 _ _ th_w13 rfl rfl, List.forall_mem_cons.mpr ⟨key 14 _ _ th_w14 rfl rfl, List.forall_mem_cons.mpr ⟨key 15 _ _ th_w15 rfl rfl, List.forall_mem_cons.mpr ⟨key 16 _ _ th_w16 rfl rfl, List.forall_mem_cons.mpr ⟨key 17 _ _ th_w17 rfl rfl, List.forall_mem_cons.mpr ⟨key 18 _ _ th_w18 rfl rfl, List.forall_mem_cons.mpr ⟨key 19 _ _ th_w19 rfl rfl, List.forall_mem_cons.mpr ⟨ht.1.lays args, List.forall_mem_cons.mpr ⟨key 21 _ _ th_w21 rfl rfl, List.forall_mem_cons.mpr ⟨ht.2.1.lays args, List.forall_mem_cons.mpr ⟨key 23 _ _ th_w23 rfl rfl, List.forall_mem_cons.mpr ⟨key 24 _ _ th_w24 rfl rfl, List.forall_mem_cons.mpr ⟨key 25 _ _ th_w25 rfl rfl, List.forall_mem_cons.mpr ⟨key 26 _ _ th_w26 rfl rfl, List.forall_mem_cons.mpr ⟨key 27 _ _ th_w27 rfl rfl, List.forall_mem_cons.mpr ⟨decl_of (key 27 _ _ th_w27 rfl rfl) (key 30 _ _ th_w30 rfl rfl), List.forall_mem_cons.mpr ⟨key 29 _ _ th_w29 rfl rfl, List.forall_mem_cons.mpr ⟨key 30 _ _ th_w30 rfl rfl, List.forall_mem_cons.mpr ⟨key 31 _ _ th_w31 rfl rfl, List.forall_mem_cons.mpr ⟨key 32 _ _ th_w32 rfl rfl, List.forall_mem_cons.mpr ⟨decl_of (key 32 _ _ th_w32 rfl rfl) (key 35 _ _ th_w35 rfl rfl), List.forall_mem_cons.mpr ⟨key 34 _ _ th_w34 rfl rfl, List.forall_mem_cons.mpr ⟨key 35 _ _ th_w35 rfl rfl, List.forall_mem_cons.mpr ⟨key 36 _ _ th_w36 rfl rfl, List.forall_mem_cons.mpr ⟨key 37 _ _ th_w37 rfl rfl, List.forall_mem_cons.mpr ⟨decl_of (key 6 _ _ th_w6 rfl rfl) (key 7 _ _ th_w7 rfl rfl), List.forall_mem_cons.mpr ⟨key 39 _ _ th_w39 rfl rfl, List.forall_mem_cons.mpr ⟨key 40 _ _ th_w40 rfl rfl, List.forall_mem_cons.mpr ⟨ht.2.2.word args, List.forall_mem_cons.mpr ⟨key 42 _ _ th_w42 rfl rfl, List.forall_mem_cons.mpr ⟨key 43 _ _ th_w43 rfl rfl, List.forall_mem_cons.mpr ⟨key 44 _ _ th_w44 rfl rfl, List.forall_mem_cons.mpr ⟨key 45 _ _ th_w45 rfl rfl, List.forall_mem_cons.mpr ⟨key 46 _ _ th_w46 rfl rfl, List.forall_mem_cons.mpr ⟨key 47 _ _ th_w47 rfl rfl, List.forall_mem_cons.mpr ⟨ht.1.ref args, List.forall_mem_cons.mpr ⟨ht.2.1.ref args, List.forall_mem_cons.mpr ⟨key 50 _ _ th_w50 rfl rfl, List.forall_mem_cons.mpr ⟨key 51 _ _ th_w51 rfl rfl, List.forall_mem_cons.mpr ⟨key 52 _ _ th_w52 rfl rfl, fun _ h => absurd h List.not_mem_nil⟩⟩⟩⟩⟩⟩⟩⟩⟩⟩⟩⟩⟩⟩⟩⟩⟩⟩⟩⟩⟩⟩⟩⟩⟩⟩⟩⟩⟩⟩⟩⟩⟩⟩⟩⟩⟩⟩⟩⟩⟩⟩⟩⟩⟩⟩⟩⟩⟩⟩⟩⟩⟩

/-! Frames: what holds at every instruction (CX: the method's own; DR: what moves), TT, contracts CT, and the row from one to the other. -/
/-- words that a callee may take over as they are -/
def gdw (w : Cond) : Bool := (w.onTables && w.keeps) || (match w with | .arrayClass _ => true | _ => false)
def gtb : List Cond := lw_tbl.filter gdw
theorem gtb_of {w : Cond} (h : w ∈ lw_tbl) (hg : gdw w = true) : w ∈ gtb := List.mem_filter.mpr ⟨h, hg⟩
theorem gdw_spec {w : Cond} (h : gdw w = true) : (w.onTables && w.keeps) = true ∨ ∃ ty, w = .arrayClass ty := by
  unfold gdw at h
  rcases (Bool.or_eq_true _ _).mp h with h | h
  · exact Or.inl h
  · right
    cases w <;> first | exact ⟨_, rfl⟩ | cases h
theorem gtb_lay {C : String} {T : u_T} {N : Nat} (h : ∀ w ∈ u_ws C T N, w ∈ lw_tbl) : ∀ w ∈ u_ws C T N, w ∈ gtb := by
  intro w hw
  refine gtb_of (h w hw) ?_
  obtain ⟨k, -, rfl⟩ := List.mem_map.mp hw
  unfold u_lay
  split <;> rfl
def nwl : List Cond := [.methodLinkNest "PasswordGate$Kit" 9 ⟨"PasswordGate$Digest", "<init>", "()V"⟩ "PasswordGate", .methodLinkNest "PasswordGate$Kit" 18 ⟨"PasswordGate$Keyed", "<init>", "()V"⟩ "PasswordGate", .methodLinkNest "PasswordGate$Keyed" 9 ⟨"PasswordGate$Digest", "<init>", "()V"⟩ "PasswordGate", .methodLinkNest "PasswordGate$Curve" 9 ⟨"PasswordGate$Field", "<init>", "()V"⟩ "PasswordGate", .methodLinkNest "PasswordGate$Curve" 22 ⟨"PasswordGate$Point", "<init>", "()V"⟩ "PasswordGate", .methodLinkNest "PasswordGate$Kit" 32 ⟨"PasswordGate$Scalars", "<init>", "()V"⟩ "PasswordGate", .methodLinkNest "PasswordGate$Kit" 39 ⟨"PasswordGate$Point", "<init>", "()V"⟩ "PasswordGate", .methodLinkNest "PasswordGate" 20 ⟨"PasswordGate$Exchange", "<init>", "()V"⟩ "PasswordGate"]
def aol : List String := ["PasswordGate$Point", "PasswordGate$Bytes", "PasswordGate$Session"]
abbrev mY (i : MI) : MethodName := i.1
abbrev mC (i : MI) : ByteArray := i.2.1
abbrev mL (i : MI) : Nat := i.2.2.1
abbrev mT (i : MI) : Option FieldType := i.2.2.2.1
abbrev mRm (i : MI) : Room := { frames := i.2.2.2.2.1.1, locals := i.2.2.2.2.1.2, cells := i.2.2.2.2.2.1, slots := i.2.2.2.2.2.2 }
abbrev mW (i : MI) : List Cond := Cond.code i.1 i.2.1 i.2.2.1 i.2.2.2.1 :: gtb
abbrev gF (G : GX) : Nat → Nat := G.2.2.2.2.1
/-- what holds of the fixed cells, the statics and the String constants in a state -/
def fxOK (G : GX) (s : State) : Prop :=
  (∀ k n f, fxc[k]? = some (.inl (0, n, .inr (.inl f))) → va_T .long (gF G k) n (fun j => .long (f j)) (gA G) s s.heap) ∧
  (∀ k n f, fxc[k]? = some (.inl (1, n, .inl f)) → va_T .byte (gF G k) n (fun j => .int (f j)) (gA G) s s.heap) ∧
  (∀ k c fs, fxc[k]? = some (.inr (c, fs)) → va_O "java/lang/String" (gF G k) (gA G) s s.heap ∧ va_OF "java/lang/String" "coder" "B" (mV (gF G) (fs.getD 1 .null)) (gF G k) (gA G) s s.heap ∧ va_OF "java/lang/String" "value" "[B" (mV (gF G) (fs.getD 0 .null)) (gF G k) (gA G) s s.heap) ∧
  (∀ q ∈ stl G.2.2.2.2.2, va_Z q.1 q.2.1 q.2.2.1 (mV (gF G) q.2.2.2) (gA G) s s.heap) ∧
  (∀ q ∈ scl, vk_R q.1 q.2.1 q.2.2.1 (gF G q.2.2.2) s) ∧ (∀ w ∈ nwl, va_Nw w s) ∧ ∀ C ∈ aol, va_AO C s
theorem nwl_on : ∀ w ∈ nwl, w.onTables = true := by decide +kernel
theorem nwl_form : ∀ w ∈ nwl, ∃ a i x h, w = .methodLinkNest a i x h := by
  intro w hw
  simp only [nwl, List.mem_cons, List.not_mem_nil, or_false] at hw
  rcases hw with rfl | rfl | rfl | rfl | rfl | rfl | rfl | rfl <;> exact ⟨_, _, _, _, rfl⟩
theorem nwl_warm {s U : State} (hW : s.WarmedH U.vm) : ∀ w ∈ nwl, va_Nw w s → va_Nw w U := by
  intro w hw h
  obtain ⟨a, i, x, y, rfl⟩ := nwl_form w hw
  exact va_Nw.warmM hW h
theorem fxOK.same {G : GX} {u U : State} (hv : U.vm = u.vm) (hh : U.heap = u.heap) (h : fxOK G u) : fxOK G U := by
  have ha : u.vm.Alike U.vm := by rw [hv]; exact Vm.Alike.refl _
  refine ⟨fun k n f hk => ?_, fun k n f hk => ?_, fun k c fs hk => ?_, fun q hq => ?_, fun q hq => vk_R.same hv (h.2.2.2.2.1 q hq), fun w hw => ?_, fun C hC => va_AO.moved ha (h.2.2.2.2.2.2 C hC)⟩
  · rw [hh]; exact (h.1 k n f hk).moved ha
  · rw [hh]; exact (h.2.1 k n f hk).moved ha
  · rw [hh]; exact ⟨(h.2.2.1 k c fs hk).1.moved ha, (h.2.2.1 k c fs hk).2.1.moved ha, (h.2.2.1 k c fs hk).2.2.moved ha⟩
  · rw [hh]; exact (h.2.2.2.1 q hq).moved ha
  · exact va_Nw.same (nwl_on w hw) hv.symm (h.2.2.2.2.2.1 w hw)
theorem fxOK.go {G : GX} {s U : State} (hW : s.WarmedH U.vm) (hq : ∀ a : Nat, a < s.heap.size → ¬ gA G a → U.heap[a]? = s.heap[a]?) (h : fxOK G s) : fxOK G U := by
  have ha := hW.alike
  exact ⟨fun k n f hk => ((h.1 k n f hk).moved ha).kept hq, fun k n f hk => ((h.2.1 k n f hk).moved ha).kept hq, fun k c fs hk => ⟨((h.2.2.1 k c fs hk).1.moved ha).kept hq, ((h.2.2.1 k c fs hk).2.1.moved ha).kept hq, ((h.2.2.1 k c fs hk).2.2.moved ha).kept hq⟩, fun q hm => ((h.2.2.2.1 q hm).moved ha).kept hq, fun q hm => (h.2.2.2.2.1 q hm).warm hW, fun w hw => nwl_warm hW w hw (h.2.2.2.2.2.1 w hw), fun C hC => va_AO.moved ha (h.2.2.2.2.2.2 C hC)⟩
def CX (G : GX) (mi : MI) (p : Program) (R : Room) (s : State) (m : MethodId) (args : Array Value) (meth : Method) (c : Code) : Prop :=
  p.tables.exec = Jvm.exec ∧ c.code = mC mi ∧ c.maxLocals = mL mi ∧ s.vm.findClass (mY mi).cls = some m.cls ∧ meth.sig.returnType = mT mi ∧ meth.locks = false ∧ meth.name = (mY mi).name ∧ (∀ w ∈ gtb, w.before args s = true) ∧ R = mRm mi ∧ va_K G.2.1 classes (tysG G) s ∧ fxOK G s ∧ G.2.2.2.1 ≤ s.heap.size
def mLo (ad : Nat → Nat) (L : List (Nat × Value)) : List (Nat × Value) := L.map fun q => (q.1, mV ad q.2)
def DR (G : GX) (mi : MI) (s : State) (H : Heap) (locs : List Loc) (ls : Array Slot) (ad ad0 : Nat → Nat) (n0 : Nat) (L : List (Nat × Value)) (st : List Value) (M : List va_E) : Prop :=
  va_S (gA G) s.heap H locs ∧ lv_has ls (mL mi) (mLo ad L) ∧ mR G ad M H ∧ n0 ≤ M.length ∧ (∀ i, i < n0 → ad i = ad0 i) ∧ (∀ q ∈ L, okV M.length q.2) ∧ ∀ v ∈ st, okV M.length v
/-- a method's end: its answer, the new cells; old places keep their addresses -/
def qQ (G : GX) (ad0 : Nat → Nat) (n0 : Nat) (Q : Option Value → List va_E → Prop) : Array Value → State → Outcome → State → Prop := fun _ s0 oc t =>
  ∃ (r : Option Value) (M' : List va_E) (ad' : Nat → Nat), oc = .returned (r.map (mV ad')) ∧ Q r M' ∧ mR G ad' M' t.heap ∧ n0 ≤ M'.length ∧ (∀ i, i < n0 → ad' i = ad0 i) ∧ (∀ v, r = some v → okV M'.length v) ∧ va_F (gA G) s0 t
def TT (G : GX) (mi : MI) (pc : Nat) (L : List (Nat × Value)) (st : List Value) (M : List va_E) (kc ks : Nat) (Q : Option Value → List va_E → Prop) : Prop :=
  ∀ (p : Program) (e : Env) (R : Room) (s : State) (m : MethodId) (args : Array Value) (below : List Frame) (meth : Method) (c : Code) (H : Heap) (locs : List Loc) (ls : Array Slot) (ad ad0 : Nat → Nat) (n0 : Nat),
    CX G mi p R s m args meth c → DR G mi s H locs ls ad ad0 n0 L st M → W p G.1 e R s m args below meth c H locs kc ks (MQ below (qQ G ad0 n0 Q) args s (mRm mi).cells (mRm mi).slots (gA G)) (F0 m pc ls (st.map (mV ad)))
def okA (n : Nat) (as : List Value) : Prop := ∀ v ∈ as, okV n v
/-- the contract of a method at arguments and cells given by places -/
def CT (G : GX) (mi : MI) (as : List Value) (M : List va_E) (Q : Option Value → List va_E → Prop) : Prop :=
  ∀ ad : Nat → Nat, Met G.1 (mY mi) (mW mi) (mRm mi) (va_Pc (as.map (mV ad)) (fun U => G.2.2.2.1 ≤ U.heap.size ∧ va_K G.2.1 classes (tysG G) U ∧ fxOK G U ∧ mR G ad M U.heap ∧ okA M.length as)) (qQ G ad M.length Q) (mRm mi).cells (mRm mi).slots (gA G)
theorem lv_args_map (ad : Nat → Nat) (vs : List Value) : ∀ i, lv_args i (vs.map (mV ad)) = mLo ad (lv_args i vs) := by
  induction vs with
  | nil => intro i; rfl
  | cons v t ih => intro i; simp only [List.map_cons, lv_args, mV_cat, ih]; rfl
theorem lg_sl_len (ad : Nat → Nat) (vs : List Value) : (lg_sl (vs.map (mV ad))).length = (lg_sl vs).length := by
  induction vs with
  | nil => rfl
  | cons v t ih => cases v <;> simp_all [lg_sl, mV, Value.category]
theorem lv_args_ok {n : Nat} : ∀ (vs : List Value) (i : Nat), okA n vs → ∀ q ∈ lv_args i vs, okV n q.2 := by
  intro vs
  induction vs with
  | nil => intro i _ q hq; cases hq
  | cons v t ih =>
    intro i h q hq
    simp only [lv_args, List.mem_cons] at hq
    rcases hq with rfl | hq
    · exact h v List.mem_cons_self
    · exact ih _ (fun w hw => h w (List.mem_cons_of_mem _ hw)) q hq
theorem CT.of {G : GX} {mi : MI} {as : List Value} {M : List va_E} {Q : Option Value → List va_E → Prop} (hy : plainName (mY mi).cls = true) (hn : (lg_sl as).length ≤ mL mi) (h : TT G mi 0 (lv_args 0 as) [] M 0 0 Q) : CT G mi as M Q := by
  intro ad
  refine Met.ofW (cc := mC mi) (maxL := mL mi) (ret := mT mi) hy rfl ?_
  intro p e s m args below meth c s₁ B hml hv
  obtain ⟨rfl, hN, hK, hF, hR, hA⟩ := hv
  have hts := atoms_spec (ws := mW mi) B.pre
  have hown : s.vm.findClass (mY mi).cls = some m.cls := findClass_of_methodNamed B.named
  have hl := lv_entry (as.map (mV ad)) (n := mL mi) (by rw [lg_sl_len]; exact hn)
  rw [lg_entry_eq]
  refine h p e _ s m _ below meth c s.heap [] _ ad ad M.length ⟨B.exec, B.bytes, hml, hown, B.returns, B.notSynchronized, (name_of_methodNamed B.named B.method).1, fun w hw => hts w (List.mem_cons_of_mem _ hw), rfl, hK, hF, hN⟩ ⟨va_S.rf, ?_, hR, Nat.le_refl _, fun _ _ => rfl, lv_args_ok as 0 hA, fun _ h => by cases h⟩
  rw [lv_args_map] at hl
  exact hl

/-! Ends and calls. -/
section Ends
variable {G : GX} {mi : MI} {pc : Nat} {L : List (Nat × Value)} {st : List Value} {M : List va_E} {kc ks : Nat} {Q : Option Value → List va_E → Prop}
theorem T_ret {v : Int32} {ty : FieldType} (hd : decode (mC mi) pc = .ok (.ireturn, 1)) (hT : mT mi = some ty) (hn : narrow ty (.int v) = .int v) (hkc : kc ≤ (mRm mi).cells) (hks : ks ≤ (mRm mi).slots) (hQ : Q (some (.int v)) M) : TT G mi pc L [.int v] M kc ks Q := by
  intro p e R s m args below meth c H locs ls ad ad0 n0 C D
  obtain ⟨d1, d2, d3, d4, d5, d6, d7⟩ := D
  refine W.widen hkc hks ?_
  exact W.zret (ty := ty) C.1 C.2.1 (by rw [C.2.2.2.2.1, hT]) hn (fun t ht hW => ⟨some (.int v), M, ad, rfl, hQ, by rw [ht]; exact d3, d4, d5, fun w hw => (by cases hw; trivial), d1.F ht⟩) d1.2.2 hd C.2.2.2.2.2.1
theorem T_lret {v : Int64} (hd : decode (mC mi) pc = .ok (.lreturn, 1)) (hT : mT mi = some .long) (hkc : kc ≤ (mRm mi).cells) (hks : ks ≤ (mRm mi).slots) (hQ : Q (some (.long v)) M) : TT G mi pc L [.long v] M kc ks Q := by
  intro p e R s m args below meth c H locs ls ad ad0 n0 C D
  obtain ⟨d1, d2, d3, d4, d5, d6, d7⟩ := D
  refine W.widen hkc hks ?_
  exact W.lret C.1 C.2.1 (by rw [C.2.2.2.2.1, hT]) (fun t ht hW => ⟨some (.long v), M, ad, rfl, hQ, by rw [ht]; exact d3, d4, d5, fun w hw => (by cases hw; trivial), d1.F ht⟩) d1.2.2 hd C.2.2.2.2.2.1
theorem T_vret (hd : decode (mC mi) pc = .ok (.return_, 1)) (hT : mT mi = none) (hkc : kc ≤ (mRm mi).cells) (hks : ks ≤ (mRm mi).slots) (hQ : Q none M) : TT G mi pc L [] M kc ks Q := by
  intro p e R s m args below meth c H locs ls ad ad0 n0 C D
  obtain ⟨d1, d2, d3, d4, d5, d6, d7⟩ := D
  refine W.widen hkc hks ?_
  exact W.vret C.1 C.2.1 (by rw [C.2.2.2.2.1, hT]) (fun t ht hW => ⟨none, M, ad, rfl, hQ, by rw [ht]; exact d3, d4, d5, fun w hw => (by cases hw), d1.F ht⟩) d1.2.2 hd C.2.2.2.2.2.1
theorem cs_run {p : Program} {e : Env} {R : Room} {s : State} {m : MethodId} {args : Array Value} {below : List Frame} {meth : Method} {c : Code} {H : Heap} {locs : List Loc} {ls : Array Slot} {ad ad0 : Nat → Nat} {n0 mc ms : Nat} {st0 rest : List Value} {a : Array Value} {Qc : Option Value → List va_E → Prop} {pc : Nat}
    (hr : va_Run p G.1 e R s m args below meth c H locs kc ks mc ms (F0 m pc ls st0) (rest.map (mV ad)) (qQ G ad M.length Qc a) (gA G)) (C : CX G mi p R s m args meth c) (D : DR G mi s H locs ls ad ad0 n0 L rest M)
    (kk : ∀ r M', Qc r M' → TT G mi (pc + 3) L (r.toList ++ rest) M' (kc + mc) (ks + ms) Q) : W p G.1 e R s m args below meth c H locs kc ks (MQ below (qQ G ad0 n0 Q) args s (mRm mi).cells (mRm mi).slots (gA G)) (F0 m pc ls st0) := by
  obtain ⟨d1, d2, d3, d4, d5, d6, d7⟩ := D
  intro T hT X
  obtain ⟨v, st₀, t, T', L', h0, X', hL, e1, e2, ⟨r, M', ad', hv, hQ, hR, hn, hag, hokr, hF⟩, hgo⟩ := hr T hT X
  have hv' : v = r.map (mV ad') := by injection hv
  subst hv'
  have hl : mLo ad' L = mLo ad L := List.map_congr_left fun x hxm => by rw [mV_ext hag (d6 x hxm)]
  have hst : rest.map (mV ad') = rest.map (mV ad) := List.map_congr_left fun v hv => mV_ext hag (d7 v hv)
  obtain ⟨hz, hk⟩ := hF
  rw [h0] at hz hk
  have hS : va_S (gA G) s.heap T'.heap (locs ++ L') := by
    rw [e1]
    refine ⟨Nat.le_trans d1.1 hz, fun q h1 h2 => by rw [hk q (Nat.lt_of_lt_of_le h1 d1.1) h2]; exact d1.2.1 q h1 h2, fun q hq => ?_⟩
    rcases List.mem_append.mp hq with h | h
    · exact d1.2.2 q h
    · exact hL q h
  have K := kk r M' hQ p e R s m args below meth c T'.heap (locs ++ L') ls ad' ad0 n0 C ⟨hS, by rw [hl]; exact d2, by rw [e1]; exact hR, Nat.le_trans d4 hn, fun i hi => by rw [hag i (by omega)]; exact d5 i hi, fun q hq => (d6 q hq).mono hn, fun v hv => by
    rcases List.mem_append.mp hv with h | h
    · exact hokr v (by cases r with | none => cases h | some w => rw [List.mem_singleton.mp h])
    · exact (d7 v h).mono hn⟩
  have es : (r.toList ++ rest).map (mV ad') = (r.map (mV ad')).toList ++ rest.map (mV ad) := by
    rw [List.map_append, hst]
    cases r <;> rfl
  rw [es] at K
  obtain ⟨t2, a1, b1⟩ := K T' rfl X'
  exact ⟨t2, hgo t2 a1, b1⟩
theorem good_gtb {ws : List Cond} (h : ∀ w ∈ ws, w ∈ gtb) : GoodIn gtb ws := fun w hw => ⟨h w hw, gdw_spec (List.mem_filter.mp (h w hw)).2⟩
/-- what a call asks of the callee: its code word, its class, the arguments' number, the room -/
def JO (mi mj : MI) (n : Nat) : Prop := Cond.code (mY mj) (mC mj) (mL mj) (mT mj) ∈ gtb ∧ Cond.initialized (mY mj).cls ∈ gtb ∧ ((mY mj).cls ≠ "java/lang/invoke/MethodHandle" ∧ (mY mj).cls ≠ "java/lang/invoke/VarHandle" ∧ (parseMethodDescriptor (mY mj).desc).map (fun d => d.parameters.length) = some n) ∧ (mRm mj).frames + 1 ≤ (mRm mi).frames ∧ 8 + (mL mj + 11) + (mRm mj).locals ≤ (mRm mi).locals
theorem JO.ws {mi mj : MI} {n : Nat} (h : JO mi mj n) : ∀ w ∈ mW mj, w ∈ gtb := List.forall_mem_cons.mpr ⟨h.1, fun _ h => h⟩
theorem pre_of {p : Program} {R : Room} {s : State} {m : MethodId} {args : Array Value} {meth : Method} {c : Code} {H : Heap} {locs : List Loc} {ad : Nat → Nat} {as : List Value} (C : CX G mi p R s m args meth c) (d1 : va_S (gA G) s.heap H locs) (d3 : mR G ad M H) (hA : okA M.length as) :
    PreS s H (va_Pc (as.map (mV ad)) (fun U => G.2.2.2.1 ≤ U.heap.size ∧ va_K G.2.1 classes (tysG G) U ∧ fxOK G U ∧ mR G ad M U.heap ∧ okA M.length as)) (as.map (mV ad)) := by
  refine ⟨fun a U g mk q => ?_, fun U hU hW => ?_⟩
  · obtain ⟨q0, q1, q2, q3, q4, q5⟩ := q
    exact ⟨q0, q1, va_K.moved (u := U) (U := U.calling g mk a) (Vm.Alike.refl U.vm) q2, fxOK.same (u := U) rfl rfl q3, q4, q5⟩
  · exact ⟨rfl, by rw [hU]; exact Nat.le_trans C.2.2.2.2.2.2.2.2.2.2.2 d1.1, va_K.moved hW.alike C.2.2.2.2.2.2.2.2.2.1, fxOK.go hW (fun a h1 h2 => by rw [hU]; exact d1.2.1 a h1 h2) C.2.2.2.2.2.2.2.2.2.2.1, by rw [hU]; exact d3, hA⟩
theorem cat_sum (ad : Nat → Nat) (rest : List Value) : ((rest.map (mV ad)).map fun v => v.category).sum = (rest.map fun v => v.category).sum := by
  rw [List.map_map]
  congr 1
  apply List.map_congr_left
  intro v _
  exact mV_cat ad v
theorem T_static {idx n : Nat} {mj : MI} {as rest : List Value} {Qc : Option Value → List va_E → Prop} (hd : decode (mC mi) pc = .ok (.invokestatic idx, 3)) (hst : st = as.reverse ++ rest) (hj : JO mi mj n) (hl : Cond.methodLink (mY mi).cls idx (mY mj) ∈ gtb) (hs : Cond.static (mY mj) ∈ gtb) (hn : as.length = n) (hw : (rest.map fun v => v.category).sum ≤ 8) (hkc : kc + (mRm mj).cells ≤ (mRm mi).cells) (hks : ks + (mRm mj).slots ≤ (mRm mi).slots)
    (hM : CT G mj as M Qc) (kk : ∀ r M', Qc r M' → TT G mi (pc + 3) L (r.toList ++ rest) M' (kc + (mRm mj).cells) (ks + (mRm mj).slots) Q) : TT G mi pc L st M kc ks Q := by
  intro p e R s m args below meth c H locs ls ad ad0 n0 C D
  obtain ⟨d1, d2, d3, d4, d5, d6, d7⟩ := D
  subst hst
  have hR : R = mRm mi := C.2.2.2.2.2.2.2.2.1
  have hA : okA M.length as := fun v hv => d7 v (List.mem_append_left _ (List.mem_reverse.mpr hv))
  have hg : GoodIn gtb (va_wsS (mY mi).cls idx (mY mj) (mW mj)) := good_gtb (List.forall_mem_cons.mpr ⟨hl, List.forall_mem_cons.mpr ⟨hs, List.forall_mem_cons.mpr ⟨hj.2.1, hj.ws⟩⟩⟩)
  have cw : CallB R s args (mY mi).cls idx (mY mj) (mC mj) (mL mj) (mT mj) (mW mj) (mRm mj) (mRm mj).cells (mRm mj).slots n ∧ (Cond.static (mY mj)).before args s = true := va_cwS n C.2.2.2.2.2.2.2.1 hg rfl rfl rfl hj.2.2.1 (by rw [hR]; exact hj.2.2.2)
  have hrun := va_runS (nL := mL mi) (Ts := gtb) (own := (mY mi).cls) (n := n) (As := as.map (mV ad)) (rest := rest.map (mV ad)) (g := F0 m pc ls ((as.reverse ++ rest).map (mV ad))) (locs := locs) (cells := kc) (slots := ks) (below := below) (e := e) (meth := meth) ⟨C.1, C.2.1, C.2.2.1, C.2.2.2.1, C.2.2.2.2.2.2.2.1⟩ (hM ad)
    cw
    (pre_of C d1 d3 hA) rfl (by simpa using hn) d2.1 (by simp) (lv_room (by rw [cat_sum]; exact hw)) hd (by rw [hR]; exact ⟨hkc, hks⟩)
  exact cs_run hrun C ⟨d1, d2, d3, d4, d5, d6, fun v hv => d7 v (List.mem_append_right _ hv)⟩ kk
theorem T_virtual {idx n b ci : Nat} {mj : MI} {as rest fs : List Value} {q : vw_C} {Qc : Option Value → List va_E → Prop} (hd : decode (mC mi) pc = .ok (.invokevirtual idx, 3)) (hst : st = as.reverse ++ .ref b :: rest) (hj : JO mi mj n) (hl : Cond.methodLink (mY mi).cls idx (mY mj) ∈ gtb) (hi : Cond.instanceMethod (mY mj) ∈ gtb) (hse : Cond.selects (mY mj).cls (mY mj) (mY mj) ∈ gtb) (hm : M[b]? = some (.inr (ci, fs))) (hc : classes[ci]? = some q) (hq : q.1 = (mY mj).cls) (hn : as.length = n) (hw : (rest.map fun v => v.category).sum ≤ 8) (hkc : kc + (mRm mj).cells ≤ (mRm mi).cells) (hks : ks + (mRm mj).slots ≤ (mRm mi).slots)
    (hM : CT G mj (.ref b :: as) M Qc) (kk : ∀ r M', Qc r M' → TT G mi (pc + 3) L (r.toList ++ rest) M' (kc + (mRm mj).cells) (ks + (mRm mj).slots) Q) : TT G mi pc L st M kc ks Q := by
  intro p e R s m args below meth c H locs ls ad ad0 n0 C D
  obtain ⟨d1, d2, d3, d4, d5, d6, d7⟩ := D
  subst hst
  have hR : R = mRm mi := C.2.2.2.2.2.2.2.2.1
  have hA : okA M.length (.ref b :: as) := ok_push (d7 _ (by simp)) fun v hv => d7 v (List.mem_append_left _ (List.mem_reverse.mpr hv))
  have hpre := pre_of C d1 d3 hA
  have hb0 := d3.obj hm hc
  have hg : GoodIn gtb (wsV (mY mi).cls idx (mY mj).cls (mY mj) (mW mj)) := good_gtb (List.forall_mem_cons.mpr ⟨hl, List.forall_mem_cons.mpr ⟨hi, List.forall_mem_cons.mpr ⟨hse, List.forall_mem_cons.mpr ⟨hj.2.1, hj.ws⟩⟩⟩⟩)
  have cw : CallW R s args (mY mi).cls (mY mj).cls idx (mY mj) (mC mj) (mL mj) (mT mj) (mW mj) (mRm mj) (mRm mj).cells (mRm mj).slots n := cwV n C.2.2.2.2.2.2.2.1 hg rfl rfl rfl ⟨rfl, hj.2.2.1⟩ (by rw [hR]; exact hj.2.2.2)
  have hrun := va_runV (nL := mL mi) (Ts := gtb) (own := (mY mi).cls) (C := (mY mj).cls) (n := n) (b := ad b) (As := as.map (mV ad)) (rest := rest.map (mV ad)) (g := F0 m pc ls ((as.reverse ++ .ref b :: rest).map (mV ad))) (locs := locs) (cells := kc) (slots := ks) (below := below) (e := e) (meth := meth) ⟨C.1, C.2.1, C.2.2.1, C.2.2.2.1, C.2.2.2.2.2.2.2.1⟩ (hM ad)
    cw
    ⟨hpre.1, by rw [← hq]; exact va_recv C.2.2.2.2.2.2.2.2.2.1 d3.world hc (wl_at hb0 hm), hpre.2⟩ rfl (by simpa using hn) d2.1 (by simp [mV]) (lv_room (by rw [cat_sum]; exact hw)) hd (by rw [hR]; exact ⟨hkc, hks⟩)
  exact cs_run hrun C ⟨d1, d2, d3, d4, d5, d6, fun v hv => d7 v (List.mem_append_right _ (List.mem_cons_of_mem _ hv))⟩ kk
theorem T_init {idx n b : Nat} {mj : MI} {as rest : List Value} {Qc : Option Value → List va_E → Prop} (hd : decode (mC mi) pc = .ok (.invokespecial idx, 3)) (hst : st = as.reverse ++ .ref b :: rest) (hj : JO mi mj n) (hl : Cond.methodLink (mY mi).cls idx (mY mj) ∈ gtb) (hi : Cond.instanceMethod (mY mj) ∈ gtb) (hy : (mY mj).name = "<init>") (hT : mT mj = none) (hn : as.length = n) (hw : (rest.map fun v => v.category).sum ≤ 8) (hkc : kc + (mRm mj).cells ≤ (mRm mi).cells) (hks : ks + (mRm mj).slots ≤ (mRm mi).slots)
    (hM : CT G mj (.ref b :: as) M Qc) (kk : ∀ r M', Qc r M' → TT G mi (pc + 3) L (r.toList ++ rest) M' (kc + (mRm mj).cells) (ks + (mRm mj).slots) Q) : TT G mi pc L st M kc ks Q := by
  intro p e R s m args below meth c H locs ls ad ad0 n0 C D
  obtain ⟨d1, d2, d3, d4, d5, d6, d7⟩ := D
  subst hst
  have hR : R = mRm mi := C.2.2.2.2.2.2.2.2.1
  have hA : okA M.length (.ref b :: as) := ok_push (d7 _ (by simp)) fun v hv => d7 v (List.mem_append_left _ (List.mem_reverse.mpr hv))
  have hws : mW mj = Cond.code (mY mj) (mC mj) (mL mj) none :: gtb := by show Cond.code _ _ _ (mT mj) :: _ = _; rw [hT]
  have cw : CallB R s args (mY mi).cls idx (mY mj) (mC mj) (mL mj) none (mW mj) (mRm mj) (mRm mj).cells (mRm mj).slots n ∧ (mY mj).name = "<init>" ∧ (Cond.instanceMethod (mY mj)).before args s = true := cwI n C.2.2.2.2.2.2.2.1 (good_gtb hj.ws) hws rfl rfl (C.2.2.2.2.2.2.2.1 _ hj.2.1) (C.2.2.2.2.2.2.2.1 _ hl) (C.2.2.2.2.2.2.2.1 _ hi) hy hj.2.2.1 (by rw [hR]; exact hj.2.2.2)
  have hrun := va_runI (nL := mL mi) (Ts := gtb) (own := (mY mi).cls) (n := n) (b := ad b) (As := as.map (mV ad)) (rest := rest.map (mV ad)) (g := F0 m pc ls ((as.reverse ++ .ref b :: rest).map (mV ad))) (locs := locs) (cells := kc) (slots := ks) (below := below) (e := e) (meth := meth) ⟨C.1, C.2.1, C.2.2.1, C.2.2.2.1, C.2.2.2.2.2.2.2.1⟩ (hM ad)
    cw
    (pre_of C d1 d3 hA) rfl (by simpa using hn) d2.1 (by simp [mV]) (lv_room (by rw [cat_sum]; exact hw)) hd (by rw [hR]; exact ⟨hkc, hks⟩)
  exact cs_run hrun C ⟨d1, d2, d3, d4, d5, d6, fun v hv => d7 v (List.mem_append_right _ (List.mem_cons_of_mem _ hv))⟩ kk
theorem T_initN {idx n b : Nat} {mj : MI} {as rest : List Value} {host : String} {Qc : Option Value → List va_E → Prop} (hd : decode (mC mi) pc = .ok (.invokespecial idx, 3)) (hst : st = as.reverse ++ .ref b :: rest) (hj : JO mi mj n) (hl : Cond.methodLinkNest (mY mi).cls idx (mY mj) host ∈ nwl) (hi : Cond.instanceMethod (mY mj) ∈ gtb) (hy : (mY mj).name = "<init>") (hT : mT mj = none) (hn : as.length = n) (hw : (rest.map fun v => v.category).sum ≤ 8) (hkc : kc + (mRm mj).cells ≤ (mRm mi).cells) (hks : ks + (mRm mj).slots ≤ (mRm mi).slots)
    (hM : CT G mj (.ref b :: as) M Qc) (kk : ∀ r M', Qc r M' → TT G mi (pc + 3) L (r.toList ++ rest) M' (kc + (mRm mj).cells) (ks + (mRm mj).slots) Q) : TT G mi pc L st M kc ks Q := by
  intro p e R s m args below meth c H locs ls ad ad0 n0 C D
  obtain ⟨d1, d2, d3, d4, d5, d6, d7⟩ := D
  subst hst
  have hR : R = mRm mi := C.2.2.2.2.2.2.2.2.1
  have hA : okA M.length (.ref b :: as) := ok_push (d7 _ (by simp)) fun v hv => d7 v (List.mem_append_left _ (List.mem_reverse.mpr hv))
  have hws : mW mj = Cond.code (mY mj) (mC mj) (mL mj) none :: gtb := by show Cond.code _ _ _ (mT mj) :: _ = _; rw [hT]
  have cw : va_CN R s args (mY mi).cls idx (mY mj) host (mC mj) (mL mj) none (mW mj) (mRm mj) (mRm mj).cells (mRm mj).slots n ∧ (mY mj).name = "<init>" ∧ (Cond.instanceMethod (mY mj)).before args s = true := ⟨va_cnB n C.2.2.2.2.2.2.2.1 (good_gtb hj.ws) hws rfl rfl (C.2.2.2.2.2.2.2.2.2.2.1.2.2.2.2.2.1 _ hl) (C.2.2.2.2.2.2.2.1 _ hj.2.1) hj.2.2.1 (by rw [hR]; exact hj.2.2.2), hy, C.2.2.2.2.2.2.2.1 _ hi⟩
  have hrun := va_runIN (nL := mL mi) (Ts := gtb) (own := (mY mi).cls) (n := n) (b := ad b) (As := as.map (mV ad)) (rest := rest.map (mV ad)) (g := F0 m pc ls ((as.reverse ++ .ref b :: rest).map (mV ad))) (locs := locs) (cells := kc) (slots := ks) (below := below) (e := e) (meth := meth) ⟨C.1, C.2.1, C.2.2.1, C.2.2.2.1, C.2.2.2.2.2.2.2.1⟩ (hM ad)
    cw
    (pre_of C d1 d3 hA) rfl (by simpa using hn) d2.1 (by simp [mV]) (lv_room (by rw [cat_sum]; exact hw)) hd (by rw [hR]; exact ⟨hkc, hks⟩)
  exact cs_run hrun C ⟨d1, d2, d3, d4, d5, d6, fun v hv => d7 v (List.mem_append_right _ (List.mem_cons_of_mem _ hv))⟩ kk
theorem objI_code : Cond.code Lib.objectInit ⟨#[0xb1]⟩ 1 none ∈ gtb := by decide +kernel
theorem objI_inst : Cond.instanceMethod Lib.objectInit ∈ gtb := by decide +kernel
theorem T_objInit {idx a : Nat} (hd : decode (mC mi) pc = .ok (.invokespecial idx, 3)) (hl : Cond.methodLink (mY mi).cls idx Lib.objectInit ∈ gtb) (hf : 1 ≤ (mRm mi).frames) (hlo : (st.map fun v => v.category).sum + 12 ≤ (mRm mi).locals) (kk : TT G mi (pc + 3) L st M kc ks Q) : TT G mi pc L (.ref a :: st) M kc ks Q := by
  intro p e R s m args below meth c H locs ls ad ad0 n0 C D
  obtain ⟨d1, d2, d3, d4, d5, d6, d7⟩ := D
  have hR : R = mRm mi := C.2.2.2.2.2.2.2.2.1
  have K := kk p e R s m args below meth c H locs ls ad ad0 n0 C ⟨d1, d2, d3, d4, d5, d6, ok_pop d7⟩
  have hts := C.2.2.2.2.2.2.2.1
  exact W.objInit (g := F0 m pc ls (.ref (ad a) :: st.map (mV ad))) C.1 C.2.1 C.2.2.2.1 (hts _ hl) (hts _ objI_inst) (hts _ objI_code) rfl (by rw [C.2.2.1]; exact d2.1) rfl hd (by rw [hR]; exact hf) (by rw [hR, cat_sum]; show 2 * 0 + _ + 12 ≤ _; omega) K
end Ends

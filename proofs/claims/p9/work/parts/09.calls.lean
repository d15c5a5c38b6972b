/-! Makings, ends, calls. -/
theorem DR.push {G : GX} {mi : MI} {s : State} {H H1 : Heap} {locs : List Loc} {ls : Array Slot} {ad ad0 : Nat → Nat} {n0 q : Nat} {L : List (Nat × Value)} {st : List Value} {M : List va_E} {e : va_E} (D : DR G mi s H locs ls ad ad0 n0 L st M) (he : okE M.length e) (hP : va_P G.2.1 classes (wl G.2.2.1 ad M ++ [(q, mE G.2.2.1 (va_up ad M.length q) e)]) H1) (hD : va_D (gA G) (wl G.2.2.1 ad M ++ [(q, mE G.2.2.1 (va_up ad M.length q) e)])) (hS : va_S (gA G) s.heap H1 locs) :
    DR G mi s H1 locs ls (va_up ad M.length q) ad0 n0 L (.ref M.length :: st) (M ++ [e]) ∧ (Value.ref M.length :: st).map (mV (va_up ad M.length q)) = .ref q :: st.map (mV ad) := by
  obtain ⟨d1, d2, d3, d4, d5, d6, d7⟩ := D
  have hx : ∀ i, i < M.length → va_up ad M.length q i = ad i := fun i hi => by simp [va_up]; omega
  have hl : mLo (va_up ad M.length q) L = mLo ad L := List.map_congr_left fun x hxm => by rw [mV_ext hx (d6 x hxm)]
  have hst : st.map (mV (va_up ad M.length q)) = st.map (mV ad) := List.map_congr_left fun v hv => mV_ext hx (d7 v hv)
  refine ⟨⟨hS, by rw [hl]; exact d2, d3.push he hP hD, by simp; omega, fun i hi => by rw [hx i (by omega)]; exact d5 i hi, fun x hxm => (d6 x hxm).mono (by simp), ok_push (by simp [okV]) fun v hv => (d7 v hv).mono (by simp)⟩, ?_⟩
  simp only [List.map_cons, hst]
  simp [mV, va_up]
section Make
variable {G : GX} {mi : MI} {pc : Nat} {L : List (Nat × Value)} {st : List Value} {M : List va_E} {kc ks : Nat} {Q : Option Value → List va_E → Prop}
def dfl (q : vw_C) : List Value := (List.range q.2.2).map fun j => defaultValue (ftyD (q.2.1 j).2.2.1)
theorem dfl_map (q : vw_C) (ad : Nat → Nat) : (dfl q).map (mV ad) = dfl q := by
  unfold dfl
  rw [List.map_map]
  apply List.map_congr_left
  intro j _
  show mV ad (defaultValue _) = _
  generalize ftyD _ = ty
  cases ty <;> rfl
theorem dfl_ok (q : vw_C) (n : Nat) : ∀ v ∈ dfl q, okV n v := by
  intro v hv
  obtain ⟨j, -, rfl⟩ := List.mem_map.mp hv
  generalize ftyD _ = ty
  cases ty <;> trivial
theorem T_new {idx ci : Nat} {q : vw_C} {fs : List Value} (hd : decode (mC mi) pc = .ok (.new idx, 3)) (hc : classes[ci]? = some q) (h1 : Cond.classLink (mY mi).cls idx q.1 ∈ gtb) (h2 : Cond.instantiable q.1 q.2.2 ∈ gtb) (h3 : Cond.initialized q.1 ∈ gtb) (hfs : dfl q = fs) (hkc : kc + 1 ≤ (mRm mi).cells) (hks : ks + q.2.2 ≤ (mRm mi).slots)
    (kk : TT G mi (pc + 3) L (.ref M.length :: st) (M ++ [.inr (ci, fs)]) (kc + 1) (ks + q.2.2) Q) : TT G mi pc L st M kc ks Q := by
  intro p e R s m args below meth c H locs ls ad ad0 n0 C D
  have hD := D
  obtain ⟨d1, d2, d3, d4, d5, d6, d7⟩ := D
  obtain ⟨C0, T, N⟩ := q
  have hq := okC_at hc
  have hR : R = mRm mi := C.2.2.2.2.2.2.2.2.1
  subst hfs
  refine va_new (D := G.2.1) (ci := ci) (fs := dfl (C0, T, N)) (C := C0) (T := T) (N := N) (Ts := gtb) C.1 C.2.1 C.2.2.2.2.2.2.2.1 (gtb_lay hq.1) (fun j => ftyD (T j).2.2.1) (fun j hj => ftyD_ok (hq.2.1 j hj)) C.2.2.2.1 (C.2.2.2.2.2.2.2.1 _ h1) (C.2.2.2.2.2.2.2.1 _ h2) (C.2.2.2.2.2.2.2.1 _ h3) C.2.2.2.2.2.2.2.2.2.1 d3.world d3.apart d1 (gA_of C) hc ?_ (by rw [hR]; exact hkc) (by rw [hR]; exact hks) hd (fun q H1 hP hD1 hS => ?_)
  · intro j hj
    have hj' : j < N := hj
    simp [vp_V, dfl, hj']
  · obtain ⟨D', e'⟩ := hD.push (q := q) (e := .inr (ci, dfl (C0, T, N))) (dfl_ok _ _) (by simp only [mE, dfl_map]; exact hP) (by simp only [mE, dfl_map]; exact hD1) hS
    have K := kk p e R s m args below meth c H1 locs ls _ ad0 n0 C D'
    rw [e'] at K
    exact K
theorem T_newarr {atype : ArrayType} {ty : FieldType} {t N : Nat} {n : Int32} {x : (Nat → Int32) ⊕ (Nat → Int64) ⊕ (Nat → UInt32) ⊕ (Nat → UInt64) ⊕ (Nat → Option Nat)} (hty : newarray.typeOf atype = ty) (hw : Cond.arrayClass ty ∈ gtb) (ht : tyl[t]? = some ty) (hra : ∀ U cA, va_RA U cA ty → U.vm.findClass ("[" ++ ty.toString) = some cA)
    (hx : ∀ cA : ClassId, vp_cell cA (N, x) = arrV cA N (fun _ => defaultValue ty)) (hme : ∀ dT ad, mE dT ad (.inl (t, N, x)) = .inl (dT t, N, x)) (hok : ∀ k, okE k (.inl (t, N, x))) (hd : decode (mC mi) pc = .ok (.newarray atype, 2)) (hn : ¬ n < 0) (hN : n.toNatClampNeg = N) (hb : N * componentBytes ty ≤ 536870912) (hkc : kc + 1 ≤ (mRm mi).cells) (hks : ks + N ≤ (mRm mi).slots)
    (kk : TT G mi (pc + 2) L (.ref M.length :: st) (M ++ [.inl (t, N, x)]) (kc + 1) (ks + N) Q) : TT G mi pc L (.int n :: st) M kc ks Q := by
  intro p e R s m args below meth c H locs ls ad ad0 n0 C D
  obtain ⟨d1, d2, d3, d4, d5, d6, d7⟩ := D
  have hD : DR G mi s H locs ls ad ad0 n0 L st M := ⟨d1, d2, d3, d4, d5, d6, ok_pop d7⟩
  have hR : R = mRm mi := C.2.2.2.2.2.2.2.2.1
  have hK := C.2.2.2.2.2.2.2.2.2.1
  subst hty
  refine va_newa (a0 := (N, x)) (atype := atype) C.1 C.2.1 (C.2.2.2.2.2.2.2.1 _ hw) rfl hK d3.world d3.apart d1 (gA_of C) hx hn hN hb (by rw [hR]; exact hkc) (by rw [hR]; exact hks) hd (fun q cA H1 hK1 hP hD1 hS => ?_)
  have e1 : cA = G.2.2.1 t := by
    have a1 := hra _ _ (hK1.2 (tysG G).length (cA, newarray.typeOf atype) (by simp)).2
    have a2 := hra _ _ (hK.2 t _ (tysG_at ht)).2
    exact Option.some.inj (a1.symm.trans a2)
  subst e1
  obtain ⟨D', e'⟩ := hD.push (q := q) (e := .inl (t, N, x)) (hok _) (by rw [hme]; exact hP) (by rw [hme]; exact hD1) hS
  have K := kk p e R s m args below meth c H1 locs ls _ ad0 n0 C D'
  rw [e'] at K
  exact K
theorem gtb_J : Cond.arrayClass .long ∈ gtb := by decide +kernel
theorem gtb_B : Cond.arrayClass .byte ∈ gtb := by decide +kernel
theorem gtb_I : Cond.arrayClass .int ∈ gtb := by decide +kernel
theorem gtb_Z : Cond.arrayClass .boolean ∈ gtb := by decide +kernel
theorem T_newJ {N : Nat} {n : Int32} (hd : decode (mC mi) pc = .ok (.newarray .long, 2)) (hn : ¬ n < 0) (hN : n.toNatClampNeg = N) (hb : N ≤ 60000000) (hkc : kc + 1 ≤ (mRm mi).cells) (hks : ks + N ≤ (mRm mi).slots)
    (kk : TT G mi (pc + 2) L (.ref M.length :: st) (M ++ [.inl (0, N, .inr (.inl fun _ => 0))]) (kc + 1) (ks + N) Q) : TT G mi pc L (.int n :: st) M kc ks Q :=
  T_newarr (ty := .long) (t := 0) (x := .inr (.inl fun _ => 0)) rfl gtb_J rfl (fun _ _ h => h) (fun _ => rfl) (fun _ _ => rfl) (fun _ => trivial) hd hn hN (by show N * 8 ≤ _; omega) hkc hks kk
theorem T_newB {N : Nat} {n : Int32} (hd : decode (mC mi) pc = .ok (.newarray .byte, 2)) (hn : ¬ n < 0) (hN : n.toNatClampNeg = N) (hb : N ≤ 60000000) (hkc : kc + 1 ≤ (mRm mi).cells) (hks : ks + N ≤ (mRm mi).slots)
    (kk : TT G mi (pc + 2) L (.ref M.length :: st) (M ++ [.inl (1, N, .inl fun _ => 0)]) (kc + 1) (ks + N) Q) : TT G mi pc L (.int n :: st) M kc ks Q :=
  T_newarr (ty := .byte) (t := 1) (x := .inl fun _ => 0) rfl gtb_B rfl (fun _ _ h => h) (fun _ => rfl) (fun _ _ => rfl) (fun _ _ => ⟨fun _ => rfl, fun _ => rfl⟩) hd hn hN (by show N * 1 ≤ _; omega) hkc hks kk
theorem T_newI {N : Nat} {n : Int32} (hd : decode (mC mi) pc = .ok (.newarray .int, 2)) (hn : ¬ n < 0) (hN : n.toNatClampNeg = N) (hb : N ≤ 60000000) (hkc : kc + 1 ≤ (mRm mi).cells) (hks : ks + N ≤ (mRm mi).slots)
    (kk : TT G mi (pc + 2) L (.ref M.length :: st) (M ++ [.inl (2, N, .inl fun _ => 0)]) (kc + 1) (ks + N) Q) : TT G mi pc L (.int n :: st) M kc ks Q :=
  T_newarr (ty := .int) (t := 2) (x := .inl fun _ => 0) rfl gtb_I rfl (fun _ _ h => h) (fun _ => rfl) (fun _ _ => rfl) (fun _ _ => ⟨fun _ => rfl, fun _ => rfl⟩) hd hn hN (by show N * 4 ≤ _; omega) hkc hks kk
theorem T_newZ {N : Nat} {n : Int32} (hd : decode (mC mi) pc = .ok (.newarray .boolean, 2)) (hn : ¬ n < 0) (hN : n.toNatClampNeg = N) (hb : N ≤ 60000000) (hkc : kc + 1 ≤ (mRm mi).cells) (hks : ks + N ≤ (mRm mi).slots)
    (kk : TT G mi (pc + 2) L (.ref M.length :: st) (M ++ [.inl (3, N, .inl fun _ => 0)]) (kc + 1) (ks + N) Q) : TT G mi pc L (.int n :: st) M kc ks Q :=
  T_newarr (ty := .boolean) (t := 3) (x := .inl fun _ => 0) rfl gtb_Z rfl (fun _ _ h => h) (fun _ => rfl) (fun _ _ => rfl) (fun _ _ => ⟨fun _ => rfl, fun _ => rfl⟩) hd hn hN (by show N * 1 ≤ _; omega) hkc hks kk
theorem T_newQ {idx t N : Nat} {n : Int32} {C0 : String} (hd : decode (mC mi) pc = .ok (.anewarray idx, 3)) (h1 : Cond.classLink (mY mi).cls idx C0 ∈ gtb) (h2 : C0 ∈ aol) (ht : tyl[t]? = some (.object C0)) (hn : ¬ n < 0) (hN : n.toNatClampNeg = N) (hb : N ≤ 60000000) (hkc : kc + 1 ≤ (mRm mi).cells) (hks : ks + N ≤ (mRm mi).slots)
    (kk : TT G mi (pc + 3) L (.ref M.length :: st) (M ++ [.inl (t, N, .inr (.inr (.inr (.inr fun _ => none))))]) (kc + 1) (ks + N) Q) : TT G mi pc L (.int n :: st) M kc ks Q := by
  intro p e R s m args below meth c H locs ls ad ad0 n0 C D
  obtain ⟨d1, d2, d3, d4, d5, d6, d7⟩ := D
  have hD : DR G mi s H locs ls ad ad0 n0 L st M := ⟨d1, d2, d3, d4, d5, d6, ok_pop d7⟩
  have hR : R = mRm mi := C.2.2.2.2.2.2.2.2.1
  have hK := C.2.2.2.2.2.2.2.2.2.1
  refine va_newq C.1 C.2.1 C.2.2.2.1 (C.2.2.2.2.2.2.2.1 _ h1) (C.2.2.2.2.2.2.2.2.2.2.1.2.2.2.2.2.2 _ h2) hK d3.world d3.apart d1 (gA_of C) hn hN (by omega) (by rw [hR]; exact hkc) (by rw [hR]; exact hks) hd (fun q cA H1 hK1 hP hD1 hS => ?_)
  have e1 : cA = G.2.2.1 t := by
    obtain ⟨_, _, _, _, _, a1⟩ := (hK1.2 (tysG G).length (cA, .object C0) (by simp)).2
    obtain ⟨_, _, _, _, _, a2⟩ := (hK.2 t _ (tysG_at ht)).2
    exact Option.some.inj (a1.symm.trans a2)
  subst e1
  obtain ⟨D', e'⟩ := hD.push (q := q) (e := .inl (t, N, .inr (.inr (.inr (.inr fun _ => none))))) (fun _ _ h => by cases h) hP hD1 hS
  have K := kk p e R s m args below meth c H1 locs ls _ ad0 n0 C D'
  rw [e'] at K
  exact K
end Make

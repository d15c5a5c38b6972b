/-! Rows for the instructions that read and write cells. -/
def fx100 : va_E → Bool
  | .inr (c, _) => c == 100
  | _ => true
theorem fxc_100 : fxc.all fx100 = true := by rfl
theorem fxc_obj {k c : Nat} {fs : List Value} (h : fxc[k]? = some (.inr (c, fs))) : c = 100 := by
  have h1 := List.all_eq_true.mp fxc_100 _ (List.mem_of_getElem? h)
  simpa [fx100] using h1
theorem mR.fixed {G : GX} {ad : Nat → Nat} {M : List va_E} {H : Heap} (h : mR G ad M H) {a : Nat} {e : va_E} (he : M[a]? = some e) (ha : ¬ K0 ≤ a) : fxc[a]? = some e ∧ ad a = gF G a :=
  ⟨by rw [← h.2.2.2.2.1 a (by omega)]; exact he, h.2.2.2.2.2 a (by omega)⟩
theorem mR.obj {G : GX} {ad : Nat → Nat} {M : List va_E} {H : Heap} (h : mR G ad M H) {a ci : Nat} {fs : List Value} {q : vw_C} (he : M[a]? = some (.inr (ci, fs))) (hc : classes[ci]? = some q) : K0 ≤ a := by
  by_cases ha : K0 ≤ a
  · exact ha
  · have h1 := fxc_obj (h.fixed he ha).1
    subst h1
    cases hc
/-- getfield number idx of the method's class reads field k of class ci -/
def FG (mi : MI) (idx ci k : Nat) : Prop := ∃ q : vw_C, classes[ci]? = some q ∧ k < q.2.2 ∧ Cond.fieldLink (mY mi).cls idx (q.2.1 k).1 (q.2.1 k).2.1 (q.2.1 k).2.2.1 ∈ gtb
def FP (mi : MI) (idx ci k : Nat) (ty : FieldType) : Prop := ∃ q : vw_C, classes[ci]? = some q ∧ k < q.2.2 ∧ Cond.fieldLink (mY mi).cls idx (q.2.1 k).1 (q.2.1 k).2.1 (q.2.1 k).2.2.1 ∈ gtb ∧ parseFieldDescriptor (q.2.1 k).2.2.1 = some ty ∧
  ((q.2.1 k).2.2.2 = false ∨ ((q.2.1 k).2.2.2 = true ∧ (mY mi).name = "<init>" ∧ (q.2.1 k).1 = (mY mi).cls))
def fitV (ty : FieldType) (v : Value) : Prop := narrow ty v = v ∧ fits ty v = true
theorem fitV.mapped {ty : FieldType} {v : Value} (ad : Nat → Nat) (h : fitV ty v) : fitV ty (mV ad v) := by
  cases v with
  | ref i =>
    refine ⟨?_, ?_⟩
    · cases ty <;> rfl
    · have h2 := h.2
      cases ty <;> first | exact h2 | rfl
  | _ => exact h
theorem okC_at {ci : Nat} {q : vw_C} (hc : classes[ci]? = some q) : okC q := classes_ok q (List.mem_of_getElem? hc)
def ftyD (d : String) : FieldType := (parseFieldDescriptor d).getD .int
theorem ftyD_ok {d : String} (h : (parseFieldDescriptor d).isSome = true) : parseFieldDescriptor d = some (ftyD d) := by
  unfold ftyD
  cases hp : parseFieldDescriptor d with
  | none => rw [hp] at h; cases h
  | some t => rfl
theorem gA_of {G : GX} {mi : MI} {p : Program} {R : Room} {s : State} {m : MethodId} {args : Array Value} {meth : Method} {c : Code} (C : CX G mi p R s m args meth c) : ∀ q : Nat, s.heap.size ≤ q → gA G q := fun q hq => Nat.le_trans C.2.2.2.2.2.2.2.2.2.2.2 hq
section Cells
variable {G : GX} {mi : MI} {pc : Nat} {L : List (Nat × Value)} {st : List Value} {M : List va_E} {kc ks : Nat} {Q : Option Value → List va_E → Prop}
theorem T_getfield {idx ci k a : Nat} {fs : List Value} {v : Value} (hd : decode (mC mi) pc = .ok (.getfield idx, 3)) (hf : FG mi idx ci k) (hm : M[a]? = some (.inr (ci, fs))) (hv : fs[k]? = some v) (kk : TT G mi (pc + 3) L (v :: st) M kc ks Q) : TT G mi pc L (.ref a :: st) M kc ks Q := by
  intro p e R s m args below meth c H locs ls ad ad0 n0 C D
  obtain ⟨d1, d2, d3, d4, d5, d6, d7⟩ := D
  obtain ⟨⟨C0, T, N⟩, hc, hk, hl⟩ := hf
  have ha := d3.obj hm hc
  have hok : okV M.length v := d3.okAt hm v (List.mem_of_getElem? hv)
  refine va_get (D := G.2.1) (ci := ci) (v := mV ad v) (C := C0) (T := T) (N := N) (Ts := gtb) C.1 C.2.1 C.2.2.2.2.2.2.2.1 (gtb_lay (okC_at hc).1) C.2.2.2.1 C.2.2.2.2.2.2.2.2.2.1 d3.world (a - K0) (wl_at ha hm) hc k hk (C.2.2.2.2.2.2.2.1 _ hl) (fun _ h => h) ?_ hd (kk p e R s m args below meth c H locs ls ad ad0 n0 C ⟨d1, d2, d3, d4, d5, d6, ok_push hok (ok_pop d7)⟩)
  rw [List.getElem?_map, hv]; rfl
theorem okE_set {n ci k : Nat} {fs : List Value} {v : Value} (h : okE n (.inr (ci, fs))) (hv : okV n v) : okE n (.inr (ci, fs.set k v)) := fun w hw => by
  rcases List.mem_or_eq_of_mem_set hw with h1 | rfl
  · exact h w h1
  · exact hv
theorem T_putfield {idx ci k a : Nat} {fs : List Value} {v : Value} {ty : FieldType} {M' : List va_E} (hd : decode (mC mi) pc = .ok (.putfield idx, 3)) (hf : FP mi idx ci k ty) (hm : M[a]? = some (.inr (ci, fs))) (hl : k < fs.length) (hv : fitV ty v) (hM : M.set a (.inr (ci, fs.set k v)) = M') (kk : TT G mi (pc + 3) L st M' kc ks Q) : TT G mi pc L (v :: .ref a :: st) M kc ks Q := by
  intro p e R s m args below meth c H locs ls ad ad0 n0 C D
  obtain ⟨d1, d2, d3, d4, d5, d6, d7⟩ := D
  obtain ⟨⟨C0, T, N⟩, hc, hk, hlk, hty, hfin⟩ := hf
  subst hM
  have ha := d3.obj hm hc
  have hok := okE_set (k := k) (d3.okAt hm) (ok_top d7)
  have hq := okC_at hc
  have hfv := hv.mapped ad
  have K : ∀ (H1 : Heap) (locs1 : List Loc), va_P G.2.1 classes ((wl G.2.2.1 ad M).set (a - K0) (ad a, .inr (ci, (fs.map (mV ad)).set k (mV ad v)))) H1 → va_D (gA G) ((wl G.2.2.1 ad M).set (a - K0) (ad a, .inr (ci, (fs.map (mV ad)).set k (mV ad v)))) → va_S (gA G) s.heap H1 locs1 → W p G.1 e R s m args below meth c H1 locs1 kc ks (MQ below (qQ G ad0 n0 Q) args s (mRm mi).cells (mRm mi).slots (gA G)) (F0 m (pc + 3) ls (st.map (mV ad))) := by
    intro H1 locs1 hP hD hS
    rw [← List.map_set] at hP hD
    exact kk p e R s m args below meth c H1 locs1 ls ad ad0 n0 C ⟨hS, d2, d3.set ha hok hP hD, by simpa using d4, d5, by simpa using d6, by simpa using ok_pop (ok_pop d7)⟩
  have hl' : k < (fs.map (mV ad)).length := by simpa using hl
  rcases hfin with hfin | ⟨hfin, hin, hdec⟩
  · exact va_put (D := G.2.1) (ci := ci) (v := mV ad v) (ty := ty) (C := C0) (T := T) (N := N) (Ts := gtb) C.1 C.2.1 C.2.2.2.2.2.2.2.1 (gtb_lay hq.1) (fun j => ftyD (T j).2.2.1) (fun j hj => ftyD_ok (hq.2.1 j hj)) hq.2.2 C.2.2.2.1 C.2.2.2.2.2.2.2.2.2.1 d3.world d3.apart d1 (a - K0) (wl_at ha hm) hc k hk (C.2.2.2.2.2.2.2.1 _ hlk) (fun _ h => h) hfin hty hfv.1 hfv.2 hl' hd K
  · exact va_putF (D := G.2.1) (ci := ci) (v := mV ad v) (ty := ty) (C := C0) (T := T) (N := N) (Ts := gtb) C.1 C.2.1 C.2.2.2.2.2.2.2.1 (gtb_lay hq.1) (fun j => ftyD (T j).2.2.1) (fun j hj => ftyD_ok (hq.2.1 j hj)) hq.2.2 C.2.2.2.1 C.2.2.2.2.2.2.2.2.2.1 d3.world d3.apart d1 (a - K0) (wl_at ha hm) hc k hk (C.2.2.2.2.2.2.2.1 _ hlk) (fun _ h => h) hfin (by rw [C.2.2.2.2.2.2.1]; exact hin) hdec hty hfv.1 hfv.2 hl' hd K
theorem T_getstatic {idx : Nat} {q : String × String × String × Value} (hd : decode (mC mi) pc = .ok (.getstatic idx, 3)) (hq : q ∈ stl G.2.2.2.2.2) (hw : Cond.fieldLink (mY mi).cls idx q.1 q.2.1 q.2.2.1 ∈ gtb) (hok : okV K0 q.2.2.2) (kk : TT G mi (pc + 3) L (q.2.2.2 :: st) M kc ks Q) : TT G mi pc L st M kc ks Q := by
  intro p e R s m args below meth c H locs ls ad ad0 n0 C D
  obtain ⟨d1, d2, d3, d4, d5, d6, d7⟩ := D
  have hz := C.2.2.2.2.2.2.2.2.2.2.1.2.2.2.1 q hq
  refine va_gets (A := gA G) C.1 C.2.1 hz d1 C.2.2.2.1 (C.2.2.2.2.2.2.2.1 _ hw) (fun _ h => h) hd ?_
  rw [← mV_ext (n := K0) (ad' := ad) d3.2.2.2.2.2 hok]
  exact kk p e R s m args below meth c H locs ls ad ad0 n0 C ⟨d1, d2, d3, d4, d5, d6, ok_push (hok.mono d3.2.2.2.1) d7⟩
theorem T_ldcS {idx : Nat} {q : String × Nat × String × Nat} (hd : decode (mC mi) pc = .ok (.ldc idx, 2)) (hq : q ∈ scl) (h1 : q.1 = (mY mi).cls) (h2 : q.2.1 = idx) (hok : q.2.2.2 < K0) (kk : TT G mi (pc + 2) L (.ref q.2.2.2 :: st) M kc ks Q) : TT G mi pc L st M kc ks Q := by
  intro p e R s m args below meth c H locs ls ad ad0 n0 C D
  obtain ⟨d1, d2, d3, d4, d5, d6, d7⟩ := D
  have hz := C.2.2.2.2.2.2.2.2.2.2.1.2.2.2.2.1 q hq
  subst h2
  rw [h1] at hz
  refine va_ldcS C.1 C.2.1 C.2.2.2.1 hz hd ?_
  rw [show gF G q.2.2.2 = ad q.2.2.2 from (d3.2.2.2.2.2 q.2.2.2 hok).symm]
  exact kk p e R s m args below meth c H locs ls ad ad0 n0 C ⟨d1, d2, d3, d4, d5, d6, ok_push (Nat.lt_of_lt_of_le hok d3.2.2.2.1) d7⟩
end Cells

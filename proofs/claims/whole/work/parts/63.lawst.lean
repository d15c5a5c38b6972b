def nfl : List Cond := flatC (Jvm.Cond.and given_1 narrow_1)
theorem nfl_seg {k n : Nat} {l : List Cond} (e : (nfl.drop k).take n = l) : ∀ w ∈ l, w ∈ nfl := by
  intro w hw
  rw [← e] at hw
  exact List.mem_of_mem_drop (List.mem_of_mem_take hw)
def tbC (C n : String) (l : List Int64) : List Cond := .arrayOf (.static C n "[J") .long :: .eq (.length (.static C n "[J")) (.int (Int32.ofNat l.length)) :: (List.range l.length).map fun j => .eq (.elem (.static C n "[J") (.int (Int32.ofNat j))) (.long (l.getD j 0))
def txC (o : String) (i : Nat) (l : List Int32) : List Cond := .exactly (.string o i) "java/lang/String" :: .eq (.field (.string o i) "java/lang/String" "coder" "B") (.int 0) :: .arrayOf (.field (.string o i) "java/lang/String" "value" "[B") .byte :: .eq (.length (.field (.string o i) "java/lang/String" "value" "[B")) (.int (Int32.ofNat l.length)) :: (List.range l.length).map fun j => .eq (.elem (.field (.string o i) "java/lang/String" "value" "[B") (.int (Int32.ofNat j))) (.int (l.getD j 0))
theorem st_tab {C n : String} {l : List Int64} {args : Array Value} {s : State} {A : Nat → Prop} (hm : ∀ w ∈ tbC C n l, w.before args s = true) (hl : l.length < 2 ^ 31) (hA : ∀ a : Nat, a < s.heap.size → ¬ A a) : ∃ q : Nat, (Term.static C n "[J").eval args s none [] s = some (.ref q) ∧ va_T .long q l.length (fun j => .long (l.getD j 0)) A s s.heap := by
  refine va_Tof hl (hm _ List.mem_cons_self) (va_eqt (hm _ (List.mem_cons_of_mem _ List.mem_cons_self))) (fun j hj => va_eqtl (hm _ (List.mem_cons_of_mem _ (List.mem_cons_of_mem _ (List.mem_map.mpr ⟨j, List.mem_range.mpr hj, rfl⟩))))) hA
theorem st_str {o : String} {i : Nat} {l : List Int32} {args : Array Value} {s : State} {A : Nat → Prop} (hm : ∀ w ∈ txC o i l, w.before args s = true) (hl : l.length < 2 ^ 31) (hA : ∀ a : Nat, a < s.heap.size → ¬ A a) : ∃ a q : Nat, (Term.string o i).eval args s none [] s = some (.ref a) ∧ va_O "java/lang/String" a A s s.heap ∧ va_OF "java/lang/String" "coder" "B" (.int 0) a A s s.heap ∧ va_OF "java/lang/String" "value" "[B" (.ref q) a A s s.heap ∧ va_T .byte q l.length (fun j => .int (l.getD j 0)) A s s.heap := by
  have m1 := hm _ List.mem_cons_self
  have m2 := hm _ (List.mem_cons_of_mem _ List.mem_cons_self)
  have m3 := hm _ (List.mem_cons_of_mem _ (List.mem_cons_of_mem _ List.mem_cons_self))
  have m4 := hm _ (List.mem_cons_of_mem _ (List.mem_cons_of_mem _ (List.mem_cons_of_mem _ List.mem_cons_self)))
  obtain ⟨a, c, cA, kA, q1, q2, q3, q4, q5, q6, -⟩ := Cond.exactly_spec (args := args) (first := s) (o := none) (s := s) (idx := []) (t := .string o i) (cls := "java/lang/String") m1
  obtain ⟨q, hq, hT⟩ := va_Tof (f := fun j => .int (l.getD j 0)) (A := A) hl m3 (va_eqt m4) (fun j hj => va_eqt (hm _ (List.mem_cons_of_mem _ (List.mem_cons_of_mem _ (List.mem_cons_of_mem _ (List.mem_cons_of_mem _ (List.mem_map.mpr ⟨j, List.mem_range.mpr hj, rfl⟩))))))) hA
  exact ⟨a, q, q1, ⟨cA, q3, q5, by rw [q6]; exact q2, hA a (Array.getElem?_eq_some_iff.mp q3).1⟩, vk_OFof q1 (va_eqt m2) hA, vk_OFof q1 hq hA, hT⟩
theorem st_un {C n d : String} {args : Array Value} {s : State} {A : Nat → Prop} (h1 : (Cond.laysStatic C n d).before args s = true) (h2 : (Cond.initialized C).before args s = true) (h3 : (Cond.isRef (.static C n d)).before args s = true) (hA : ∀ a : Nat, a < s.heap.size → ¬ A a) : ∃ (z : Bool) (u : Nat), va_Z C n d (if z then .null else .ref u) A s s.heap := by
  have hv : (Term.static C n d).eval args s none [] s = some .null ∨ ∃ u, (Term.static C n d).eval args s none [] s = some (.ref u) := by
    cases hv : (Term.static C n d).eval args s none [] s with
    | none => simp [Cond.before, Cond.holds, Cond.value, hv] at h3
    | some w =>
      simp only [Cond.before, Cond.holds, Cond.value, hv] at h3
      cases w <;> simp_all
  rcases hv with hv | ⟨u, hv⟩
  · exact ⟨true, 0, va_Zof h1 h2 hv hA⟩
  · exact ⟨false, u, va_Zof h1 h2 hv hA⟩
def FX (G : GX) (s : State) (k : Nat) (e : va_E) : Prop :=
  (∀ n f, e = .inl (0, n, .inr (.inl f)) → va_T .long (gF G k) n (fun j => .long (f j)) (gA G) s s.heap) ∧
  (∀ n f, e = .inl (1, n, .inl f) → va_T .byte (gF G k) n (fun j => .int (f j)) (gA G) s s.heap) ∧
  (∀ c fs, e = .inr (c, fs) → va_O "java/lang/String" (gF G k) (gA G) s s.heap ∧ va_OF "java/lang/String" "coder" "B" (mV (gF G) (fs.getD 1 .null)) (gF G k) (gA G) s s.heap ∧ va_OF "java/lang/String" "value" "[B" (mV (gF G) (fs.getD 0 .null)) (gF G k) (gA G) s s.heap)
theorem FXt {G : GX} {s : State} {k N : Nat} {f : Nat → Int64} (h : va_T .long (gF G k) N (fun j => .long (f j)) (gA G) s s.heap) : FX G s k (.inl (0, N, .inr (.inl f))) := by
  refine ⟨fun n g e => ?_, fun n g e => ?_, fun c fs e => ?_⟩
  · cases e; exact h
  · cases e
  · cases e
theorem FXb {G : GX} {s : State} {k N : Nat} {f : Nat → Int32} (h : va_T .byte (gF G k) N (fun j => .int (f j)) (gA G) s s.heap) : FX G s k (.inl (1, N, .inl f)) := by
  refine ⟨fun n g e => ?_, fun n g e => ?_, fun c fs e => ?_⟩
  · cases e
  · cases e; exact h
  · cases e
theorem FXs {G : GX} {s : State} {k q c : Nat} (h1 : va_O "java/lang/String" (gF G k) (gA G) s s.heap) (h2 : va_OF "java/lang/String" "coder" "B" (.int 0) (gF G k) (gA G) s s.heap) (h3 : va_OF "java/lang/String" "value" "[B" (.ref (gF G q)) (gF G k) (gA G) s s.heap) : FX G s k (.inr (c, [.ref q, .int 0])) := by
  refine ⟨fun n g e => ?_, fun n g e => ?_, fun c fs e => ?_⟩
  · cases e
  · cases e
  · cases e; exact ⟨h1, h2, h3⟩
theorem FXn {G : GX} {s : State} {k : Nat} : FX G s k (.inl (9, 0, .inl fun _ => 0)) := by
  refine ⟨fun n g e => ?_, fun n g e => ?_, fun c fs e => ?_⟩
  · cases e
  · injection e with e1; injection e1 with e2; cases e2
  · cases e
def FXL (P : Nat → va_E → Prop) : Nat → List va_E → Prop
  | _, [] => True
  | k, e :: r => P k e ∧ FXL P (k + 1) r
theorem FXL_at {P : Nat → va_E → Prop} (l : List va_E) : ∀ k0, FXL P k0 l → ∀ i e, l[i]? = some e → P (k0 + i) e := by
  induction l with
  | nil => intro k0 _ i e h; cases h
  | cons a r ih =>
    intro k0 h i e he
    cases i with
    | zero =>
      have : a = e := by simpa using he
      subst this
      exact h.1
    | succ j =>
      have := ih (k0 + 1) h.2 j e (by simpa using he)
      rw [show k0 + (j + 1) = k0 + 1 + j by omega]
      exact this
theorem ok_tx {l : List Int32} (h : l.all (fun x => fits .byte (.int x)) = true) (j : Nat) : fits .byte (.int (l.getD j 0)) = true := by
  by_cases hj : j < l.length
  · rw [List.getD_eq_getElem?_getD, List.getElem?_eq_getElem hj]
    exact List.all_eq_true.mp h _ (List.getElem_mem hj)
  · rw [List.getD_eq_getElem?_getD, List.getElem?_eq_none (by omega)]
    rfl
theorem okb {n N : Nat} {l : List Int32} (h : l.all (fun x => fits .byte (.int x)) = true) : okE n (.inl (1, N, .inl fun j => l.getD j 0)) := fun j => ⟨fun _ => ok_tx h j, fun h => absurd h (by decide)⟩
theorem okr {n a c : Nat} (h : a < n) : okE n (.inr (c, [.ref a, .int 0])) := by
  intro v hv
  rcases List.mem_cons.mp hv with rfl | hv
  · exact h
  · rcases List.mem_cons.mp hv with rfl | hv
    · trivial
    · cases hv
theorem okn {n : Nat} : okE n (.inl (9, 0, .inl fun _ => 0)) := fun j => ⟨fun h => absurd h (by decide), fun h => absurd h (by decide)⟩
set_option maxRecDepth 100000 in
theorem fxc_ok : FXL (fun _ e => okE 61 e) 0 fxc := ⟨trivial, trivial, trivial, trivial, trivial, trivial, trivial, trivial, trivial, trivial, trivial, trivial, trivial, trivial, okr (by decide), okb (by decide +kernel), okr (by decide), okb (by decide +kernel), okr (by decide), okb (by decide +kernel), okr (by decide), okb (by decide +kernel), okr (by decide), okb (by decide +kernel), okr (by decide), okb (by decide +kernel), okr (by decide), okb (by decide +kernel), okr (by decide), okb (by decide +kernel), okr (by decide), okb (by decide +kernel), okr (by decide), okb (by decide +kernel), okr (by decide), okb (by decide +kernel), okr (by decide), okb (by decide +kernel), okr (by decide), okb (by decide +kernel), okr (by decide), okb (by decide +kernel), okr (by decide), okb (by decide +kernel), okr (by decide), okb (by decide +kernel), okr (by decide), okb (by decide +kernel), okr (by decide), okb (by decide +kernel), okr (by decide), okb (by decide +kernel), okr (by decide), okb (by decide +kernel), okr (by decide), okb (by decide +kernel), okr (by decide), okb (by decide +kernel), okn, okn, okn, trivial⟩
set_option maxRecDepth 100000 in
theorem fxc_len : fxc.length = 61 := rfl
theorem fxc_mem : ∀ e ∈ fxc, okE fxc.length e := by
  intro e he
  obtain ⟨i, hi⟩ := List.getElem?_of_mem he
  rw [fxc_len]
  exact FXL_at fxc 0 fxc_ok i e hi
theorem cl_in : ∀ q ∈ classes, Cond.instantiable q.1 q.2.2 ∈ lw_tbl := List.forall_mem_cons.mpr ⟨List.mem_of_getElem? (i := 112) (by decide +kernel), List.forall_mem_cons.mpr ⟨List.mem_of_getElem? (i := 120) (by decide +kernel), List.forall_mem_cons.mpr ⟨List.mem_of_getElem? (i := 126) (by decide +kernel), List.forall_mem_cons.mpr ⟨List.mem_of_getElem? (i := 140) (by decide +kernel), List.forall_mem_cons.mpr ⟨List.mem_of_getElem? (i := 148) (by decide +kernel), List.forall_mem_cons.mpr ⟨List.mem_of_getElem? (i := 192) (by decide +kernel), List.forall_mem_cons.mpr ⟨List.mem_of_getElem? (i := 198) (by decide +kernel), List.forall_mem_cons.mpr ⟨List.mem_of_getElem? (i := 227) (by decide +kernel), List.forall_mem_cons.mpr ⟨List.mem_of_getElem? (i := 292) (by decide +kernel), List.forall_mem_cons.mpr ⟨List.mem_of_getElem? (i := 404) (by decide +kernel), List.forall_mem_cons.mpr ⟨List.mem_of_getElem? (i := 449) (by decide +kernel), List.forall_mem_cons.mpr ⟨List.mem_of_getElem? (i := 493) (by decide +kernel), List.forall_mem_cons.mpr ⟨List.mem_of_getElem? (i := 1201) (by decide +kernel), List.forall_mem_cons.mpr ⟨List.mem_of_getElem? (i := 1126) (by decide +kernel), fun _ h => by cases h⟩⟩⟩⟩⟩⟩⟩⟩⟩⟩⟩⟩⟩⟩
theorem st_cl {args : Array Value} {s : State} (ht : ∀ w ∈ lw_tbl, w.before args s = true) : ∃ d : Nat → ClassId × (Nat → Nat), ∀ (c : Nat) (q : vw_C), classes[c]? = some q → u_Kn s q.1 q.2.1 q.2.2 (d c).1 (d c).2 := by
  have h0 : ∀ c : Nat, ∃ d : ClassId × (Nat → Nat), ∀ q : vw_C, classes[c]? = some q → u_Kn s q.1 q.2.1 q.2.2 d.1 d.2 := by
    intro c
    cases hc : classes[c]? with
    | none => exact ⟨(0, fun _ => 0), fun q h => by cases h⟩
    | some q =>
      obtain ⟨cC, iS, h⟩ := u_known ht (okC_at hc).1 (ht _ (cl_in q (List.mem_of_getElem? hc)))
      exact ⟨(cC, iS), fun q' e => by cases e; exact h⟩
  obtain ⟨d, hd⟩ := Classical.axiomOfChoice h0
  exact ⟨d, fun c q h => hd c q h⟩
theorem st_pr {args : Array Value} {s : State} {ty : FieldType} (h : (Cond.arrayClass ty).before args s = true) (hr : ∀ cA, s.vm.findClass ("[" ++ ty.toString) = some cA → va_RA s cA ty) : ∃ cA, ArrOfT s cA ty ∧ va_RA s cA ty := by
  obtain ⟨cA, kA, comp, h1, h2, h3⟩ := Cond.arrayClass_spec (show (Cond.arrayClass ty).holds args s none s [] = true from h)
  exact ⟨cA, fun n z => ⟨fun k h => (by cases h), kA, h2, comp, h3⟩, hr cA h1⟩
theorem st_ob {args : Array Value} {s : State} {C : String} (h : (Cond.arrayOver (.object C)).before args s = true) : ∃ cA, ArrOfT s cA (.object C) ∧ va_RA s cA (.object C) := by
  obtain ⟨comp, cA, kA, h1, h2, h3, h4, h5⟩ := Cond.arrayOver_spec (show (Cond.arrayOver (.object C)).holds args s none s [] = true from h)
  exact ⟨cA, fun n z => ⟨fun k h => (by cases h), kA, h3, comp, h4⟩, kA, comp, h3, h4, h1, h5⟩
theorem st_ty {args : Array Value} {s : State} (ht : ∀ w ∈ lw_tbl, w.before args s = true) : ∃ d : Nat → ClassId, ∀ (c : Nat) (ty : FieldType), tyl[c]? = some ty → ArrOfT s (d c) ty ∧ va_RA s (d c) ty := by
  have h1 : ∀ ty ∈ tyl, ∃ cA, ArrOfT s cA ty ∧ va_RA s cA ty := by
    refine List.forall_mem_cons.mpr ⟨?_, List.forall_mem_cons.mpr ⟨?_, List.forall_mem_cons.mpr ⟨?_, List.forall_mem_cons.mpr ⟨?_, List.forall_mem_cons.mpr ⟨?_, List.forall_mem_cons.mpr ⟨?_, List.forall_mem_cons.mpr ⟨?_, fun _ h => by cases h⟩⟩⟩⟩⟩⟩⟩
    · exact st_pr (ht _ (List.mem_of_getElem? (i := 138) (by decide +kernel))) (fun _ h => h)
    · exact st_pr (ht _ (List.mem_of_getElem? (i := 171) (by decide +kernel))) (fun _ h => h)
    · exact st_pr (ht _ (List.mem_of_getElem? (i := 1655) (by decide +kernel))) (fun _ h => h)
    · exact st_pr (ht _ (List.mem_of_getElem? (i := 540) (by decide +kernel))) (fun _ h => h)
    · exact st_ob (ht _ (List.mem_of_getElem? (i := 226) (by decide +kernel)))
    · exact st_ob (ht _ (List.mem_of_getElem? (i := 455) (by decide +kernel)))
    · exact st_ob (ht _ (List.mem_of_getElem? (i := 492) (by decide +kernel)))
  have h0 : ∀ c : Nat, ∃ d : ClassId, ∀ ty, tyl[c]? = some ty → ArrOfT s d ty ∧ va_RA s d ty := by
    intro c
    cases hc : tyl[c]? with
    | none => exact ⟨0, fun q h => by cases h⟩
    | some q =>
      obtain ⟨cA, h⟩ := h1 q (List.mem_of_getElem? hc)
      exact ⟨cA, fun q' e => by cases e; exact h⟩
  obtain ⟨d, hd⟩ := Classical.axiomOfChoice h0
  exact ⟨d, fun c q h => hd c q h⟩
theorem sg_t0 : (nfl.drop 5).take 10 = tbC "PasswordGate$Digest" "FIRST" tb_0 := by decide +kernel
theorem sg_t1 : (nfl.drop 16).take 82 = tbC "PasswordGate$Digest" "ADDED" tb_1 := by decide +kernel
theorem sg_t2 : (nfl.drop 104).take 12 = tbC "PasswordGate$Field" "I" tb_2 := by decide +kernel
theorem sg_t3 : (nfl.drop 117).take 12 = tbC "PasswordGate$Field" "ONE" tb_3 := by decide +kernel
theorem sg_t4 : (nfl.drop 130).take 12 = tbC "PasswordGate$Curve" "ONE_LESS_SQUARE" tb_4 := by decide +kernel
theorem sg_t5 : (nfl.drop 143).take 12 = tbC "PasswordGate$Curve" "D" tb_5 := by decide +kernel
theorem sg_t6 : (nfl.drop 156).take 12 = tbC "PasswordGate$Curve" "LESS_ONE_SQUARED" tb_6 := by decide +kernel
theorem sg_t7 : (nfl.drop 169).take 12 = tbC "PasswordGate$Curve" "G" tb_7 := by decide +kernel
theorem sg_t8 : (nfl.drop 182).take 12 = tbC "PasswordGate$Curve" "TWICE_D" tb_8 := by decide +kernel
theorem sg_t9 : (nfl.drop 195).take 12 = tbC "PasswordGate$Curve" "E" tb_9 := by decide +kernel
theorem sg_t10 : (nfl.drop 208).take 12 = tbC "PasswordGate$Scalars" "Q" tb_10 := by decide +kernel
theorem sg_t11 : (nfl.drop 221).take 12 = tbC "PasswordGate$Curve" "ZERO" tb_11 := by decide +kernel
theorem sg_t12 : (nfl.drop 234).take 12 = tbC "PasswordGate$Curve" "BASE_X" tb_12 := by decide +kernel
theorem sg_t13 : (nfl.drop 247).take 12 = tbC "PasswordGate$Curve" "BASE_Y" tb_13 := by decide +kernel
theorem sg_x0 : (nfl.drop 274).take 16 = txC "PasswordGate$Kit" 150 tx_0 := by decide +kernel
theorem sg_x1 : (nfl.drop 290).take 11 = txC "PasswordGate$Kit" 146 tx_1 := by decide +kernel
theorem sg_x2 : (nfl.drop 302).take 24 = txC "PasswordGate$Kit" 148 tx_2 := by decide +kernel
theorem sg_x3 : (nfl.drop 328).take 10 = txC "PasswordGate$Kit" 100 tx_3 := by decide +kernel
theorem sg_x4 : (nfl.drop 341).take 37 = txC "PasswordGate$Server" 65 tx_4 := by decide +kernel
theorem sg_x5 : (nfl.drop 382).take 17 = txC "PasswordGate$Kit" 165 tx_5 := by decide +kernel
theorem sg_x6 : (nfl.drop 404).take 8 = txC "PasswordGate$Server" 78 tx_6 := by decide +kernel
theorem sg_x7 : (nfl.drop 418).take 11 = txC "PasswordGate$Server" 87 tx_7 := by decide +kernel
theorem sg_x8 : (nfl.drop 436).take 24 = txC "PasswordGate$Server" 99 tx_8 := by decide +kernel
theorem sg_x9 : (nfl.drop 468).take 12 = txC "PasswordGate$Kit" 175 tx_9 := by decide +kernel
theorem sg_x10 : (nfl.drop 489).take 14 = txC "PasswordGate$Kit" 180 tx_10 := by decide +kernel
theorem sg_x11 : (nfl.drop 513).take 14 = txC "PasswordGate$Kit" 186 tx_11 := by decide +kernel
theorem sg_x12 : (nfl.drop 538).take 37 = txC "PasswordGate$Kit" 192 tx_12 := by decide +kernel
theorem sg_x13 : (nfl.drop 587).take 13 = txC "PasswordGate$Kit" 202 tx_13 := by decide +kernel
theorem sg_x14 : (nfl.drop 613).take 11 = txC "PasswordGate$Kit" 210 tx_14 := by decide +kernel
theorem sg_x15 : (nfl.drop 638).take 25 = txC "PasswordGate$Kit" 216 tx_15 := by decide +kernel
theorem sg_x16 : (nfl.drop 678).take 13 = txC "PasswordGate$Exchange" 49 tx_16 := by decide +kernel
theorem sg_x17 : (nfl.drop 707).take 19 = txC "PasswordGate$Exchange" 102 tx_17 := by decide +kernel
theorem sg_x18 : (nfl.drop 743).take 11 = txC "PasswordGate$Keyed" 92 tx_18 := by decide +kernel
theorem sg_x19 : (nfl.drop 772).take 14 = txC "PasswordGate$Exchange" 108 tx_19 := by decide +kernel
theorem sg_x20 : (nfl.drop 805).take 13 = txC "PasswordGate$Exchange" 110 tx_20 := by decide +kernel
theorem sg_x21 : (nfl.drop 838).take 13 = txC "PasswordGate$Exchange" 116 tx_21 := by decide +kernel
set_option maxHeartbeats 4000000 in
set_option maxRecDepth 100000 in
theorem st_all {args : Array Value} {s : State} (l : Launch) (hs : ∀ w ∈ nfl, w.before args s = true) (ht : ∀ w ∈ lw_tbl, w.before args s = true) : ∃ G : GX, G.1 = l ∧ G.2.2.2.1 = s.heap.size ∧ fxOK G s ∧ va_K G.2.1 classes (tysG G) s ∧ thOK G s ∧ mR G (gF G) fxc s.heap := by
  have hA : ∀ a : Nat, a < s.heap.size → ¬ (fun q : Nat => s.heap.size ≤ q) a := fun a h1 h2 => absurd h1 (Nat.not_lt.mpr h2)
  obtain ⟨t0, e0, T0⟩ := st_tab (A := fun q : Nat => s.heap.size ≤ q) (fun w hw => hs w (nfl_seg sg_t0 w hw)) (by decide) hA
  obtain ⟨t1, e1, T1⟩ := st_tab (A := fun q : Nat => s.heap.size ≤ q) (fun w hw => hs w (nfl_seg sg_t1 w hw)) (by decide) hA
  obtain ⟨t2, e2, T2⟩ := st_tab (A := fun q : Nat => s.heap.size ≤ q) (fun w hw => hs w (nfl_seg sg_t2 w hw)) (by decide) hA
  obtain ⟨t3, e3, T3⟩ := st_tab (A := fun q : Nat => s.heap.size ≤ q) (fun w hw => hs w (nfl_seg sg_t3 w hw)) (by decide) hA
  obtain ⟨t4, e4, T4⟩ := st_tab (A := fun q : Nat => s.heap.size ≤ q) (fun w hw => hs w (nfl_seg sg_t4 w hw)) (by decide) hA
  obtain ⟨t5, e5, T5⟩ := st_tab (A := fun q : Nat => s.heap.size ≤ q) (fun w hw => hs w (nfl_seg sg_t5 w hw)) (by decide) hA
  obtain ⟨t6, e6, T6⟩ := st_tab (A := fun q : Nat => s.heap.size ≤ q) (fun w hw => hs w (nfl_seg sg_t6 w hw)) (by decide) hA
  obtain ⟨t7, e7, T7⟩ := st_tab (A := fun q : Nat => s.heap.size ≤ q) (fun w hw => hs w (nfl_seg sg_t7 w hw)) (by decide) hA
  obtain ⟨t8, e8, T8⟩ := st_tab (A := fun q : Nat => s.heap.size ≤ q) (fun w hw => hs w (nfl_seg sg_t8 w hw)) (by decide) hA
  obtain ⟨t9, e9, T9⟩ := st_tab (A := fun q : Nat => s.heap.size ≤ q) (fun w hw => hs w (nfl_seg sg_t9 w hw)) (by decide) hA
  obtain ⟨t10, e10, T10⟩ := st_tab (A := fun q : Nat => s.heap.size ≤ q) (fun w hw => hs w (nfl_seg sg_t10 w hw)) (by decide) hA
  obtain ⟨t11, e11, T11⟩ := st_tab (A := fun q : Nat => s.heap.size ≤ q) (fun w hw => hs w (nfl_seg sg_t11 w hw)) (by decide) hA
  obtain ⟨t12, e12, T12⟩ := st_tab (A := fun q : Nat => s.heap.size ≤ q) (fun w hw => hs w (nfl_seg sg_t12 w hw)) (by decide) hA
  obtain ⟨t13, e13, T13⟩ := st_tab (A := fun q : Nat => s.heap.size ≤ q) (fun w hw => hs w (nfl_seg sg_t13 w hw)) (by decide) hA
  obtain ⟨k0, v0, f0, O0, P0, Q0, B0⟩ := st_str (A := fun q : Nat => s.heap.size ≤ q) (fun w hw => hs w (nfl_seg sg_x0 w hw)) (by decide) hA
  obtain ⟨k1, v1, f1, O1, P1, Q1, B1⟩ := st_str (A := fun q : Nat => s.heap.size ≤ q) (fun w hw => hs w (nfl_seg sg_x1 w hw)) (by decide) hA
  obtain ⟨k2, v2, f2, O2, P2, Q2, B2⟩ := st_str (A := fun q : Nat => s.heap.size ≤ q) (fun w hw => hs w (nfl_seg sg_x2 w hw)) (by decide) hA
  obtain ⟨k3, v3, f3, O3, P3, Q3, B3⟩ := st_str (A := fun q : Nat => s.heap.size ≤ q) (fun w hw => hs w (nfl_seg sg_x3 w hw)) (by decide) hA
  obtain ⟨k4, v4, f4, O4, P4, Q4, B4⟩ := st_str (A := fun q : Nat => s.heap.size ≤ q) (fun w hw => hs w (nfl_seg sg_x4 w hw)) (by decide) hA
  obtain ⟨k5, v5, f5, O5, P5, Q5, B5⟩ := st_str (A := fun q : Nat => s.heap.size ≤ q) (fun w hw => hs w (nfl_seg sg_x5 w hw)) (by decide) hA
  obtain ⟨k6, v6, f6, O6, P6, Q6, B6⟩ := st_str (A := fun q : Nat => s.heap.size ≤ q) (fun w hw => hs w (nfl_seg sg_x6 w hw)) (by decide) hA
  obtain ⟨k7, v7, f7, O7, P7, Q7, B7⟩ := st_str (A := fun q : Nat => s.heap.size ≤ q) (fun w hw => hs w (nfl_seg sg_x7 w hw)) (by decide) hA
  obtain ⟨k8, v8, f8, O8, P8, Q8, B8⟩ := st_str (A := fun q : Nat => s.heap.size ≤ q) (fun w hw => hs w (nfl_seg sg_x8 w hw)) (by decide) hA
  obtain ⟨k9, v9, f9, O9, P9, Q9, B9⟩ := st_str (A := fun q : Nat => s.heap.size ≤ q) (fun w hw => hs w (nfl_seg sg_x9 w hw)) (by decide) hA
  obtain ⟨k10, v10, f10, O10, P10, Q10, B10⟩ := st_str (A := fun q : Nat => s.heap.size ≤ q) (fun w hw => hs w (nfl_seg sg_x10 w hw)) (by decide) hA
  obtain ⟨k11, v11, f11, O11, P11, Q11, B11⟩ := st_str (A := fun q : Nat => s.heap.size ≤ q) (fun w hw => hs w (nfl_seg sg_x11 w hw)) (by decide) hA
  obtain ⟨k12, v12, f12, O12, P12, Q12, B12⟩ := st_str (A := fun q : Nat => s.heap.size ≤ q) (fun w hw => hs w (nfl_seg sg_x12 w hw)) (by decide) hA
  obtain ⟨k13, v13, f13, O13, P13, Q13, B13⟩ := st_str (A := fun q : Nat => s.heap.size ≤ q) (fun w hw => hs w (nfl_seg sg_x13 w hw)) (by decide) hA
  obtain ⟨k14, v14, f14, O14, P14, Q14, B14⟩ := st_str (A := fun q : Nat => s.heap.size ≤ q) (fun w hw => hs w (nfl_seg sg_x14 w hw)) (by decide) hA
  obtain ⟨k15, v15, f15, O15, P15, Q15, B15⟩ := st_str (A := fun q : Nat => s.heap.size ≤ q) (fun w hw => hs w (nfl_seg sg_x15 w hw)) (by decide) hA
  obtain ⟨k16, v16, f16, O16, P16, Q16, B16⟩ := st_str (A := fun q : Nat => s.heap.size ≤ q) (fun w hw => hs w (nfl_seg sg_x16 w hw)) (by decide) hA
  obtain ⟨k17, v17, f17, O17, P17, Q17, B17⟩ := st_str (A := fun q : Nat => s.heap.size ≤ q) (fun w hw => hs w (nfl_seg sg_x17 w hw)) (by decide) hA
  obtain ⟨k18, v18, f18, O18, P18, Q18, B18⟩ := st_str (A := fun q : Nat => s.heap.size ≤ q) (fun w hw => hs w (nfl_seg sg_x18 w hw)) (by decide) hA
  obtain ⟨k19, v19, f19, O19, P19, Q19, B19⟩ := st_str (A := fun q : Nat => s.heap.size ≤ q) (fun w hw => hs w (nfl_seg sg_x19 w hw)) (by decide) hA
  obtain ⟨k20, v20, f20, O20, P20, Q20, B20⟩ := st_str (A := fun q : Nat => s.heap.size ≤ q) (fun w hw => hs w (nfl_seg sg_x20 w hw)) (by decide) hA
  obtain ⟨k21, v21, f21, O21, P21, Q21, B21⟩ := st_str (A := fun q : Nat => s.heap.size ≤ q) (fun w hw => hs w (nfl_seg sg_x21 w hw)) (by decide) hA
  obtain ⟨z0, u0, Z0⟩ := st_un (C := "jdk/internal/util/Preconditions") (n := "SIOOBE_FORMATTER") (d := "Ljava/util/function/BiFunction;") (A := fun q : Nat => s.heap.size ≤ q) (ht _ (List.mem_of_getElem? (i := 670) (by decide +kernel))) (ht _ (List.mem_of_getElem? (i := 104) (by decide +kernel))) (hs _ (List.mem_of_getElem? (i := 99) (by decide +kernel))) hA
  obtain ⟨z1, u1, Z1⟩ := st_un (C := "java/lang/Throwable") (n := "UNASSIGNED_STACK") (d := "[Ljava/lang/StackTraceElement;") (A := fun q : Nat => s.heap.size ≤ q) (ht _ (List.mem_of_getElem? (i := 1152) (by decide +kernel))) (ht _ (List.mem_of_getElem? (i := 106) (by decide +kernel))) (hs _ (List.mem_of_getElem? (i := 259) (by decide +kernel))) hA
  obtain ⟨z2, u2, Z2⟩ := st_un (C := "java/lang/Throwable") (n := "SUPPRESSED_SENTINEL") (d := "Ljava/util/List;") (A := fun q : Nat => s.heap.size ≤ q) (ht _ (List.mem_of_getElem? (i := 1154) (by decide +kernel))) (ht _ (List.mem_of_getElem? (i := 106) (by decide +kernel))) (hs _ (List.mem_of_getElem? (i := 260) (by decide +kernel))) hA
  obtain ⟨dC, hC⟩ := st_cl ht
  obtain ⟨dT, hT⟩ := st_ty ht
  let G : GX := (l, (fun c => (dC c).1, fun c => (dC c).2), dT, s.heap.size, (fun k => ([t0, t1, t2, t3, t4, t5, t6, t7, t8, t9, t10, t11, t12, t13, k0, v0, k1, v1, k2, v2, k3, v3, k4, v4, k5, v5, k6, v6, k7, v7, k8, v8, k9, v9, k10, v10, k11, v11, k12, v12, k13, v13, k14, v14, k15, v15, k16, v16, k17, v17, k18, v18, k19, v19, k20, v20, k21, v21, u0, u1, u2] : List Nat).getD k 0), fun i => ([z0, z1, z2] : List Bool).getD i false)
  have hX : FXL (FX G s) 0 fxc := ⟨FXt T0, FXt T1, FXt T2, FXt T3, FXt T4, FXt T5, FXt T6, FXt T7, FXt T8, FXt T9, FXt T10, FXt T11, FXt T12, FXt T13, FXs O0 P0 Q0, FXb B0, FXs O1 P1 Q1, FXb B1, FXs O2 P2 Q2, FXb B2, FXs O3 P3 Q3, FXb B3, FXs O4 P4 Q4, FXb B4, FXs O5 P5 Q5, FXb B5, FXs O6 P6 Q6, FXb B6, FXs O7 P7 Q7, FXb B7, FXs O8 P8 Q8, FXb B8, FXs O9 P9 Q9, FXb B9, FXs O10 P10 Q10, FXb B10, FXs O11 P11 Q11, FXb B11, FXs O12 P12 Q12, FXb B12, FXs O13 P13 Q13, FXb B13, FXs O14 P14 Q14, FXb B14, FXs O15 P15 Q15, FXb B15, FXs O16 P16 Q16, FXb B16, FXs O17 P17 Q17, FXb B17, FXs O18 P18 Q18, FXb B18, FXs O19 P19 Q19, FXb B19, FXs O20 P20 Q20, FXb B20, FXs O21 P21 Q21, FXb B21, FXn, FXn, FXn, trivial⟩
  have hx : ∀ k e, fxc[k]? = some e → FX G s k e := fun k e h => by have := FXL_at fxc 0 hX k e h; rwa [Nat.zero_add] at this
  refine ⟨G, rfl, rfl, ⟨fun k n f h => (hx k _ h).1 n f rfl, fun k n f h => (hx k _ h).2.1 n f rfl, fun k c fs h => (hx k _ h).2.2 c fs rfl, ?_, ?_, ?_, ?_⟩, ⟨fun c q h => hC c q h, fun k q h => ?_⟩, ⟨?_, ?_, ?_⟩, ?_⟩
  · exact List.forall_mem_cons.mpr ⟨va_Zof (ht _ (List.mem_of_getElem? (i := 587) (by decide +kernel))) (ht _ (List.mem_of_getElem? (i := 90) (by decide +kernel))) e0 hA, List.forall_mem_cons.mpr ⟨va_Zof (ht _ (List.mem_of_getElem? (i := 602) (by decide +kernel))) (ht _ (List.mem_of_getElem? (i := 90) (by decide +kernel))) e1 hA, List.forall_mem_cons.mpr ⟨va_Zof (ht _ (List.mem_of_getElem? (i := 718) (by decide +kernel))) (ht _ (List.mem_of_getElem? (i := 94) (by decide +kernel))) e2 hA, List.forall_mem_cons.mpr ⟨va_Zof (ht _ (List.mem_of_getElem? (i := 723) (by decide +kernel))) (ht _ (List.mem_of_getElem? (i := 94) (by decide +kernel))) e3 hA, List.forall_mem_cons.mpr ⟨va_Zof (ht _ (List.mem_of_getElem? (i := 728) (by decide +kernel))) (ht _ (List.mem_of_getElem? (i := 93) (by decide +kernel))) e4 hA, List.forall_mem_cons.mpr ⟨va_Zof (ht _ (List.mem_of_getElem? (i := 730) (by decide +kernel))) (ht _ (List.mem_of_getElem? (i := 93) (by decide +kernel))) e5 hA, List.forall_mem_cons.mpr ⟨va_Zof (ht _ (List.mem_of_getElem? (i := 768) (by decide +kernel))) (ht _ (List.mem_of_getElem? (i := 93) (by decide +kernel))) e6 hA, List.forall_mem_cons.mpr ⟨va_Zof (ht _ (List.mem_of_getElem? (i := 770) (by decide +kernel))) (ht _ (List.mem_of_getElem? (i := 93) (by decide +kernel))) e7 hA, List.forall_mem_cons.mpr ⟨va_Zof (ht _ (List.mem_of_getElem? (i := 776) (by decide +kernel))) (ht _ (List.mem_of_getElem? (i := 93) (by decide +kernel))) e8 hA, List.forall_mem_cons.mpr ⟨va_Zof (ht _ (List.mem_of_getElem? (i := 786) (by decide +kernel))) (ht _ (List.mem_of_getElem? (i := 93) (by decide +kernel))) e9 hA, List.forall_mem_cons.mpr ⟨va_Zof (ht _ (List.mem_of_getElem? (i := 840) (by decide +kernel))) (ht _ (List.mem_of_getElem? (i := 96) (by decide +kernel))) e10 hA, List.forall_mem_cons.mpr ⟨va_Zof (ht _ (List.mem_of_getElem? (i := 858) (by decide +kernel))) (ht _ (List.mem_of_getElem? (i := 93) (by decide +kernel))) e11 hA, List.forall_mem_cons.mpr ⟨va_Zof (ht _ (List.mem_of_getElem? (i := 900) (by decide +kernel))) (ht _ (List.mem_of_getElem? (i := 93) (by decide +kernel))) e12 hA, List.forall_mem_cons.mpr ⟨va_Zof (ht _ (List.mem_of_getElem? (i := 902) (by decide +kernel))) (ht _ (List.mem_of_getElem? (i := 93) (by decide +kernel))) e13 hA, List.forall_mem_cons.mpr ⟨va_Zof (ht _ (List.mem_of_getElem? (i := 654) (by decide +kernel))) (ht _ (List.mem_of_getElem? (i := 102) (by decide +kernel))) (va_eqt (hs _ (List.mem_of_getElem? (i := 98) (by decide +kernel)))) hA, List.forall_mem_cons.mpr ⟨va_Zof (ht _ (List.mem_of_getElem? (i := 688) (by decide +kernel))) (ht _ (List.mem_of_getElem? (i := 105) (by decide +kernel))) (va_eqt (hs _ (List.mem_of_getElem? (i := 100) (by decide +kernel)))) hA, List.forall_mem_cons.mpr ⟨va_Zof (ht _ (List.mem_of_getElem? (i := 690) (by decide +kernel))) (ht _ (List.mem_of_getElem? (i := 105) (by decide +kernel))) (va_eqt (hs _ (List.mem_of_getElem? (i := 101) (by decide +kernel)))) hA, List.forall_mem_cons.mpr ⟨va_Zof (ht _ (List.mem_of_getElem? (i := 692) (by decide +kernel))) (ht _ (List.mem_of_getElem? (i := 105) (by decide +kernel))) (va_eqt (hs _ (List.mem_of_getElem? (i := 102) (by decide +kernel)))) hA, List.forall_mem_cons.mpr ⟨(by cases z0 <;> exact Z0), List.forall_mem_cons.mpr ⟨(by cases z1 <;> exact Z1), List.forall_mem_cons.mpr ⟨(by cases z2 <;> exact Z2), fun _ h => by cases h⟩⟩⟩⟩⟩⟩⟩⟩⟩⟩⟩⟩⟩⟩⟩⟩⟩⟩⟩⟩⟩
  · exact List.forall_mem_cons.mpr ⟨vk_R.of (ht _ (List.mem_of_getElem? (i := 620) (by decide +kernel))) f0, List.forall_mem_cons.mpr ⟨vk_R.of (ht _ (List.mem_of_getElem? (i := 693) (by decide +kernel))) f1, List.forall_mem_cons.mpr ⟨vk_R.of (ht _ (List.mem_of_getElem? (i := 694) (by decide +kernel))) f2, List.forall_mem_cons.mpr ⟨vk_R.of (ht _ (List.mem_of_getElem? (i := 882) (by decide +kernel))) f3, List.forall_mem_cons.mpr ⟨vk_R.of (ht _ (List.mem_of_getElem? (i := 883) (by decide +kernel))) f4, List.forall_mem_cons.mpr ⟨vk_R.of (ht _ (List.mem_of_getElem? (i := 889) (by decide +kernel))) f5, List.forall_mem_cons.mpr ⟨vk_R.of (ht _ (List.mem_of_getElem? (i := 910) (by decide +kernel))) f6, List.forall_mem_cons.mpr ⟨vk_R.of (ht _ (List.mem_of_getElem? (i := 913) (by decide +kernel))) f7, List.forall_mem_cons.mpr ⟨vk_R.of (ht _ (List.mem_of_getElem? (i := 935) (by decide +kernel))) f8, List.forall_mem_cons.mpr ⟨vk_R.of (ht _ (List.mem_of_getElem? (i := 942) (by decide +kernel))) f9, List.forall_mem_cons.mpr ⟨vk_R.of (ht _ (List.mem_of_getElem? (i := 947) (by decide +kernel))) f10, List.forall_mem_cons.mpr ⟨vk_R.of (ht _ (List.mem_of_getElem? (i := 962) (by decide +kernel))) f11, List.forall_mem_cons.mpr ⟨vk_R.of (ht _ (List.mem_of_getElem? (i := 967) (by decide +kernel))) f12, List.forall_mem_cons.mpr ⟨vk_R.of (ht _ (List.mem_of_getElem? (i := 970) (by decide +kernel))) f13, List.forall_mem_cons.mpr ⟨vk_R.of (ht _ (List.mem_of_getElem? (i := 972) (by decide +kernel))) f14, List.forall_mem_cons.mpr ⟨vk_R.of (ht _ (List.mem_of_getElem? (i := 1028) (by decide +kernel))) f15, List.forall_mem_cons.mpr ⟨vk_R.of (ht _ (List.mem_of_getElem? (i := 1034) (by decide +kernel))) f16, List.forall_mem_cons.mpr ⟨vk_R.of (ht _ (List.mem_of_getElem? (i := 1050) (by decide +kernel))) f17, List.forall_mem_cons.mpr ⟨vk_R.of (ht _ (List.mem_of_getElem? (i := 1057) (by decide +kernel))) f18, List.forall_mem_cons.mpr ⟨vk_R.of (ht _ (List.mem_of_getElem? (i := 1059) (by decide +kernel))) f19, List.forall_mem_cons.mpr ⟨vk_R.of (ht _ (List.mem_of_getElem? (i := 1060) (by decide +kernel))) f20, List.forall_mem_cons.mpr ⟨vk_R.of (ht _ (List.mem_of_getElem? (i := 1066) (by decide +kernel))) f21, fun _ h => by cases h⟩⟩⟩⟩⟩⟩⟩⟩⟩⟩⟩⟩⟩⟩⟩⟩⟩⟩⟩⟩⟩⟩
  · exact List.forall_mem_cons.mpr ⟨va_Nw.of rfl (ht _ (List.mem_of_getElem? (i := 127) (by decide +kernel))), List.forall_mem_cons.mpr ⟨va_Nw.of rfl (ht _ (List.mem_of_getElem? (i := 141) (by decide +kernel))), List.forall_mem_cons.mpr ⟨va_Nw.of rfl (ht _ (List.mem_of_getElem? (i := 146) (by decide +kernel))), List.forall_mem_cons.mpr ⟨va_Nw.of rfl (ht _ (List.mem_of_getElem? (i := 199) (by decide +kernel))), List.forall_mem_cons.mpr ⟨va_Nw.of rfl (ht _ (List.mem_of_getElem? (i := 228) (by decide +kernel))), List.forall_mem_cons.mpr ⟨va_Nw.of rfl (ht _ (List.mem_of_getElem? (i := 293) (by decide +kernel))), List.forall_mem_cons.mpr ⟨va_Nw.of rfl (ht _ (List.mem_of_getElem? (i := 311) (by decide +kernel))), List.forall_mem_cons.mpr ⟨va_Nw.of rfl (ht _ (List.mem_of_getElem? (i := 405) (by decide +kernel))), fun _ h => by cases h⟩⟩⟩⟩⟩⟩⟩⟩
  · exact List.forall_mem_cons.mpr ⟨va_AO.of (ht _ (List.mem_of_getElem? (i := 226) (by decide +kernel))), List.forall_mem_cons.mpr ⟨va_AO.of (ht _ (List.mem_of_getElem? (i := 455) (by decide +kernel))), List.forall_mem_cons.mpr ⟨va_AO.of (ht _ (List.mem_of_getElem? (i := 492) (by decide +kernel))), fun _ h => by cases h⟩⟩⟩
  · have h1 : (tyl.mapIdx fun i t => (dT i, t))[k]? = some q := h
    rw [List.getElem?_mapIdx] at h1
    cases hq : tyl[k]? with
    | none => rw [hq] at h1; cases h1
    | some ty =>
      rw [hq] at h1
      have : (dT k, ty) = q := Option.some.inj h1
      subst this
      exact hT k ty hq
  · exact tZ.of (ht _ (List.mem_of_getElem? (i := 1152) (by decide +kernel))) (hs _ (List.mem_of_getElem? (i := 259) (by decide +kernel))) hA
  · exact tZ.of (ht _ (List.mem_of_getElem? (i := 1154) (by decide +kernel))) (hs _ (List.mem_of_getElem? (i := 260) (by decide +kernel))) hA
  · exact cA.of (ht _ (List.mem_of_getElem? (i := 1127) (by decide +kernel)))
  · have hw : wl G.2.2.1 (gF G) fxc = [] := by
      unfold wl
      rw [List.drop_eq_nil_of_le (by rw [fxc_len]; exact Nat.le_refl _)]
      rfl
    refine ⟨(by rw [hw]; intro k q h; cases h), (by rw [hw]; exact ⟨fun i j p q h => (by cases h), fun k q h => (by cases h)⟩), fxc_mem, by rw [fxc_len]; exact Nat.le_refl _, fun _ _ => rfl, fun _ _ => rfl⟩

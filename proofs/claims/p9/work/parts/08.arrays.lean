/-! Rows for arrays. Kinds: 0 long, 1 byte, 2 int, 3 boolean, 4 to 6 references. -/
theorem fits_b (x : Int32) : fits .byte (.int (vp_nar .byte x)) = true := by rw [vp_nar_byte]; exact pk_fb x
theorem fits_z (x : Int32) : fits .boolean (.int (vp_nar .boolean x)) = true := by
  show (x &&& 1 == 0 || x &&& 1 == 1) = true
  have h : x &&& 1 = 0 ∨ x &&& 1 = 1 := by
    obtain ⟨j, hj, e⟩ := pk_andE x (m := 1) 1 (by decide)
    rw [e]
    have : j = 0 ∨ j = 1 := by omega
    rcases this with rfl | rfl <;> decide
  rcases h with h | h <;> rw [h] <;> rfl
theorem ok_byte {k n i : Nat} {f : Nat → Int32} (h : okE k (.inl (1, n, .inl f))) (x : Int32) : okE k (.inl (1, n, .inl (upd f i (vp_nar .byte x)))) := fun j => ⟨fun _ => by
  by_cases hj : j = i
  · rw [hj, pk_us]; exact fits_b x
  · rw [pk_un hj]; exact (h j).1 rfl, fun h => absurd h (by decide)⟩
theorem ok_bool {k n i : Nat} {f : Nat → Int32} (h : okE k (.inl (3, n, .inl f))) (x : Int32) : okE k (.inl (3, n, .inl (upd f i (vp_nar .boolean x)))) := fun j => ⟨fun h => absurd h (by decide), fun _ => by
  by_cases hj : j = i
  · rw [hj, pk_us]; exact fits_z x
  · rw [pk_un hj]; exact (h j).2 rfl⟩
section Arrays
variable {G : GX} {mi : MI} {pc : Nat} {L : List (Nat × Value)} {st : List Value} {M : List va_E} {kc ks : Nat} {Q : Option Value → List va_E → Prop}
theorem T_laload {a n : Nat} {f : Nat → Int64} {i : Int32} (hd : decode (mC mi) pc = .ok (.laload, 1)) (hm : M[a]? = some (.inl (0, n, .inr (.inl f)))) (hi : vp_in i n) (kk : TT G mi (pc + 1) L (.long (f i.toNatClampNeg) :: st) M kc ks Q) : TT G mi pc L (.int i :: .ref a :: st) M kc ks Q := by
  intro p e R s m args below meth c H locs ls ad ad0 n0 C D
  obtain ⟨d1, d2, d3, d4, d5, d6, d7⟩ := D
  have K := kk p e R s m args below meth c H locs ls ad ad0 n0 C ⟨d1, d2, d3, d4, d5, d6, ok_push trivial (ok_pop (ok_pop d7))⟩
  by_cases ha : K0 ≤ a
  · exact va_lald C.1 C.2.1 C.2.2.2.2.2.2.2.2.2.1 d3.world (a - K0) 0 (wl_at ha hm) (tysG_at rfl) hi hd K
  · obtain ⟨h1, h2⟩ := d3.fixed hm ha
    have hT := C.2.2.2.2.2.2.2.2.2.2.1.1 a n f h1
    rw [← h2] at hT
    exact va_tl C.1 C.2.1 hT d1 hi rfl hd K
theorem T_baload {a n : Nat} {f : Nat → Int32} {i : Int32} (hd : decode (mC mi) pc = .ok (.baload, 1)) (hm : M[a]? = some (.inl (1, n, .inl f))) (hi : vp_in i n) (kk : fits .byte (.int (f i.toNatClampNeg)) = true → TT G mi (pc + 1) L (.int (f i.toNatClampNeg) :: st) M kc ks Q) : TT G mi pc L (.int i :: .ref a :: st) M kc ks Q := by
  intro p e R s m args below meth c H locs ls ad ad0 n0 C D
  obtain ⟨d1, d2, d3, d4, d5, d6, d7⟩ := D
  have K := kk ((d3.okAt hm i.toNatClampNeg).1 rfl) p e R s m args below meth c H locs ls ad ad0 n0 C ⟨d1, d2, d3, d4, d5, d6, ok_push trivial (ok_pop (ok_pop d7))⟩
  by_cases ha : K0 ≤ a
  · exact va_bald C.1 C.2.1 C.2.2.2.2.2.2.2.2.2.1 d3.world (a - K0) 1 (wl_at ha hm) (tysG_at rfl) hi hd K
  · obtain ⟨h1, h2⟩ := d3.fixed hm ha
    have hT := C.2.2.2.2.2.2.2.2.2.2.1.2.1 a n f h1
    rw [← h2] at hT
    exact va_tb C.1 C.2.1 hT d1 hi rfl hd K
theorem fxc_no {t n : Nat} {f : Nat → Int32} (ht : t = 2 ∨ t = 3) : ∀ k : Nat, fxc[k]? = some (.inl (t, n, .inl f)) → False := by
  intro k h
  have h1 : fxc.all (fun e => match e with | .inl (t, _, _) => t == 0 || (t == 1 || t == 9) | _ => true) = true := by rfl
  have h2 := List.all_eq_true.mp h1 _ (List.mem_of_getElem? h)
  rcases ht with rfl | rfl <;> simp at h2
theorem T_iaload {a n : Nat} {f : Nat → Int32} {i : Int32} (hd : decode (mC mi) pc = .ok (.iaload, 1)) (hm : M[a]? = some (.inl (2, n, .inl f))) (hi : vp_in i n) (kk : TT G mi (pc + 1) L (.int (f i.toNatClampNeg) :: st) M kc ks Q) : TT G mi pc L (.int i :: .ref a :: st) M kc ks Q := by
  intro p e R s m args below meth c H locs ls ad ad0 n0 C D
  obtain ⟨d1, d2, d3, d4, d5, d6, d7⟩ := D
  have K := kk p e R s m args below meth c H locs ls ad ad0 n0 C ⟨d1, d2, d3, d4, d5, d6, ok_push trivial (ok_pop (ok_pop d7))⟩
  by_cases ha : K0 ≤ a
  · exact va_iald C.1 C.2.1 C.2.2.2.2.2.2.2.2.2.1 d3.world (a - K0) 2 (wl_at ha hm) (tysG_at rfl) hi hd K
  · exact (fxc_no (by decide) a (d3.fixed hm ha).1).elim
theorem T_zaload {a n : Nat} {f : Nat → Int32} {i : Int32} (hd : decode (mC mi) pc = .ok (.baload, 1)) (hm : M[a]? = some (.inl (3, n, .inl f))) (hi : vp_in i n) (kk : fits .boolean (.int (f i.toNatClampNeg)) = true → TT G mi (pc + 1) L (.int (f i.toNatClampNeg) :: st) M kc ks Q) : TT G mi pc L (.int i :: .ref a :: st) M kc ks Q := by
  intro p e R s m args below meth c H locs ls ad ad0 n0 C D
  obtain ⟨d1, d2, d3, d4, d5, d6, d7⟩ := D
  have K := kk ((d3.okAt hm i.toNatClampNeg).2 rfl) p e R s m args below meth c H locs ls ad ad0 n0 C ⟨d1, d2, d3, d4, d5, d6, ok_push trivial (ok_pop (ok_pop d7))⟩
  by_cases ha : K0 ≤ a
  · exact va_zald C.1 C.2.1 C.2.2.2.2.2.2.2.2.2.1 d3.world (a - K0) 3 (wl_at ha hm) (tysG_at rfl) hi hd K
  · exact (fxc_no (by decide) a (d3.fixed hm ha).1).elim
theorem T_lastore {a n : Nat} {f : Nat → Int64} {i : Int32} {x : Int64} {M' : List va_E} (hd : decode (mC mi) pc = .ok (.lastore, 1)) (ha : K0 ≤ a) (hm : M[a]? = some (.inl (0, n, .inr (.inl f)))) (hi : vp_in i n) (hM : M.set a (.inl (0, n, .inr (.inl (vp_updL f i.toNatClampNeg x)))) = M') (kk : TT G mi (pc + 1) L st M' kc ks Q) : TT G mi pc L (.long x :: .int i :: .ref a :: st) M kc ks Q := by
  intro p e R s m args below meth c H locs ls ad ad0 n0 C D
  obtain ⟨d1, d2, d3, d4, d5, d6, d7⟩ := D
  subst hM
  exact va_last C.1 C.2.1 C.2.2.2.2.2.2.2.2.2.1 d3.world d3.apart d1 (a - K0) 0 (wl_at ha hm) (tysG_at rfl) hi hd (fun H1 locs1 hP hD hS => kk p e R s m args below meth c H1 locs1 ls ad ad0 n0 C ⟨hS, d2, d3.set ha trivial hP hD, by simpa using d4, d5, by simpa using d6, by simpa using ok_pop (ok_pop (ok_pop d7))⟩)
theorem T_bastore {a n : Nat} {f : Nat → Int32} {i : Int32} {x : Int32} {M' : List va_E} (hd : decode (mC mi) pc = .ok (.bastore, 1)) (ha : K0 ≤ a) (hm : M[a]? = some (.inl (1, n, .inl f))) (hi : vp_in i n) (hM : M.set a (.inl (1, n, .inl (upd f i.toNatClampNeg (vp_nar .byte x)))) = M') (kk : TT G mi (pc + 1) L st M' kc ks Q) : TT G mi pc L (.int x :: .int i :: .ref a :: st) M kc ks Q := by
  intro p e R s m args below meth c H locs ls ad ad0 n0 C D
  obtain ⟨d1, d2, d3, d4, d5, d6, d7⟩ := D
  subst hM
  exact va_bast C.1 C.2.1 C.2.2.2.2.2.2.2.2.2.1 d3.world d3.apart d1 (a - K0) 1 (wl_at ha hm) (tysG_at rfl) hi hd (fun H1 locs1 hP hD hS => kk p e R s m args below meth c H1 locs1 ls ad ad0 n0 C ⟨hS, d2, d3.set ha (ok_byte (d3.okAt hm) x) hP hD, by simpa using d4, d5, by simpa using d6, by simpa using ok_pop (ok_pop (ok_pop d7))⟩)
theorem T_iastore {a n : Nat} {f : Nat → Int32} {i : Int32} {x : Int32} {M' : List va_E} (hd : decode (mC mi) pc = .ok (.iastore, 1)) (ha : K0 ≤ a) (hm : M[a]? = some (.inl (2, n, .inl f))) (hi : vp_in i n) (hM : M.set a (.inl (2, n, .inl (upd f i.toNatClampNeg x))) = M') (kk : TT G mi (pc + 1) L st M' kc ks Q) : TT G mi pc L (.int x :: .int i :: .ref a :: st) M kc ks Q := by
  intro p e R s m args below meth c H locs ls ad ad0 n0 C D
  obtain ⟨d1, d2, d3, d4, d5, d6, d7⟩ := D
  subst hM
  exact va_iast C.1 C.2.1 C.2.2.2.2.2.2.2.2.2.1 d3.world d3.apart d1 (a - K0) 2 (wl_at ha hm) (tysG_at rfl) hi hd (fun H1 locs1 hP hD hS => kk p e R s m args below meth c H1 locs1 ls ad ad0 n0 C ⟨hS, d2, d3.set ha (fun _ => ⟨fun h => absurd h (by decide), fun h => absurd h (by decide)⟩) hP hD, by simpa using d4, d5, by simpa using d6, by simpa using ok_pop (ok_pop (ok_pop d7))⟩)
theorem T_zastore {a n : Nat} {f : Nat → Int32} {i : Int32} {x : Int32} {M' : List va_E} (hd : decode (mC mi) pc = .ok (.bastore, 1)) (ha : K0 ≤ a) (hm : M[a]? = some (.inl (3, n, .inl f))) (hi : vp_in i n) (hM : M.set a (.inl (3, n, .inl (upd f i.toNatClampNeg (vp_nar .boolean x)))) = M') (kk : TT G mi (pc + 1) L st M' kc ks Q) : TT G mi pc L (.int x :: .int i :: .ref a :: st) M kc ks Q := by
  intro p e R s m args below meth c H locs ls ad ad0 n0 C D
  obtain ⟨d1, d2, d3, d4, d5, d6, d7⟩ := D
  subst hM
  exact va_zast C.1 C.2.1 C.2.2.2.2.2.2.2.2.2.1 d3.world d3.apart d1 (a - K0) 3 (wl_at ha hm) (tysG_at rfl) hi hd (fun H1 locs1 hP hD hS => kk p e R s m args below meth c H1 locs1 ls ad ad0 n0 C ⟨hS, d2, d3.set ha (ok_bool (d3.okAt hm) x) hP hD, by simpa using d4, d5, by simpa using d6, by simpa using ok_pop (ok_pop (ok_pop d7))⟩)
theorem T_alen {a t n : Nat} {x : (Nat → Int32) ⊕ (Nat → Int64) ⊕ (Nat → UInt32) ⊕ (Nat → UInt64) ⊕ (Nat → Option Nat)} {v : Int32} {ty : FieldType} (hd : decode (mC mi) pc = .ok (.arraylength, 1)) (ha : K0 ≤ a) (hm : M[a]? = some (.inl (t, n, x))) (ht : tyl[t]? = some ty) (hv : Int32.ofNat n = v) (kk : TT G mi (pc + 1) L (.int v :: st) M kc ks Q) : TT G mi pc L (.ref a :: st) M kc ks Q := by
  intro p e R s m args below meth c H locs ls ad ad0 n0 C D
  obtain ⟨d1, d2, d3, d4, d5, d6, d7⟩ := D
  have K := kk p e R s m args below meth c H locs ls ad ad0 n0 C ⟨d1, d2, d3, d4, d5, d6, ok_push trivial (ok_pop d7)⟩
  have hw : ∃ x', (wl G.2.2.1 ad M)[a - K0]? = some (ad a, .inl (G.2.2.1 t, n, x')) := by
    rw [wl_at ha hm]
    rcases x with f | f | f | f | f
    · exact ⟨_, rfl⟩
    · exact ⟨_, rfl⟩
    · exact ⟨_, rfl⟩
    · exact ⟨_, rfl⟩
    · exact ⟨_, rfl⟩
  obtain ⟨x', hw⟩ := hw
  exact va_alen C.1 C.2.1 C.2.2.2.2.2.2.2.2.2.1 d3.world (a - K0) t hw (tysG_at ht) hv hd K
theorem T_alenF {a n : Nat} {f : Nat → Int32} {v : Int32} (hd : decode (mC mi) pc = .ok (.arraylength, 1)) (ha : ¬ K0 ≤ a) (hm : M[a]? = some (.inl (1, n, .inl f))) (hv : Int32.ofNat n = v) (kk : TT G mi (pc + 1) L (.int v :: st) M kc ks Q) : TT G mi pc L (.ref a :: st) M kc ks Q := by
  intro p e R s m args below meth c H locs ls ad ad0 n0 C D
  obtain ⟨d1, d2, d3, d4, d5, d6, d7⟩ := D
  have K := kk p e R s m args below meth c H locs ls ad ad0 n0 C ⟨d1, d2, d3, d4, d5, d6, ok_push trivial (ok_pop d7)⟩
  obtain ⟨h1, h2⟩ := d3.fixed hm ha
  have hT := C.2.2.2.2.2.2.2.2.2.2.1.2.1 a n f h1
  rw [← h2] at hT
  exact va_tlen C.1 C.2.1 hT d1 hv hd K
theorem va_rf_map (ad : Nat → Nat) (x : Option Nat) : va_rf (x.map ad) = mV ad (va_rf x) := by cases x <;> rfl
theorem T_aaload {a t n : Nat} {f : Nat → Option Nat} {C0 : String} {i : Int32} (hd : decode (mC mi) pc = .ok (.aaload, 1)) (ha : K0 ≤ a) (hm : M[a]? = some (.inl (t, n, .inr (.inr (.inr (.inr f)))))) (ht : tyl[t]? = some (.object C0)) (hi : vp_in i n) (kk : TT G mi (pc + 1) L (va_rf (f i.toNatClampNeg) :: st) M kc ks Q) : TT G mi pc L (.int i :: .ref a :: st) M kc ks Q := by
  intro p e R s m args below meth c H locs ls ad ad0 n0 C D
  obtain ⟨d1, d2, d3, d4, d5, d6, d7⟩ := D
  have hok : okV M.length (va_rf (f i.toNatClampNeg)) := by
    cases hf : f i.toNatClampNeg with
    | none => trivial
    | some j => exact d3.okAt hm _ j hf
  have K := kk p e R s m args below meth c H locs ls ad ad0 n0 C ⟨d1, d2, d3, d4, d5, d6, ok_push hok (ok_pop (ok_pop d7))⟩
  refine va_aldq C.1 C.2.1 C.2.2.2.2.2.2.2.2.2.1 d3.world (a - K0) t (wl_at ha hm) (tysG_at ht) hi hd ?_
  rw [va_rf_map]
  exact K
theorem T_aastore {a t n ci b : Nat} {f : Nat → Option Nat} {q : vw_C} {fs : List Value} {i : Int32} {M' : List va_E} (hd : decode (mC mi) pc = .ok (.aastore, 1)) (ha : K0 ≤ a) (hm : M[a]? = some (.inl (t, n, .inr (.inr (.inr (.inr f)))))) (hb : M[b]? = some (.inr (ci, fs))) (hc : classes[ci]? = some q) (ht : tyl[t]? = some (.object q.1)) (hi : vp_in i n) (hM : M.set a (.inl (t, n, .inr (.inr (.inr (.inr (va_up f i.toNatClampNeg (some b))))))) = M') (kk : TT G mi (pc + 1) L st M' kc ks Q) : TT G mi pc L (.ref b :: .int i :: .ref a :: st) M kc ks Q := by
  intro p e R s m args below meth c H locs ls ad ad0 n0 C D
  obtain ⟨d1, d2, d3, d4, d5, d6, d7⟩ := D
  subst hM
  have hb0 := d3.obj hb hc
  have hok : okE M.length (.inl (t, n, .inr (.inr (.inr (.inr (va_up f i.toNatClampNeg (some b))))))) := by
    intro j k hj
    simp only [va_up] at hj
    split at hj
    · cases hj; exact ok_top d7
    · exact d3.okAt hm j k hj
  have hmap : (fun j => (va_up f i.toNatClampNeg (some b) j).map ad) = va_up (fun j => (f j).map ad) i.toNatClampNeg (some (ad b)) := by
    funext j
    simp only [va_up]
    split <;> rfl
  refine va_astq C.1 C.2.1 C.2.2.2.2.2.2.2.2.2.1 d3.world d3.apart d1 (a - K0) t (b - K0) ci (wl_at ha hm) (tysG_at ht) (wl_at hb0 hb) hc hi hd (fun H1 locs1 hP hD hS => ?_)
  rw [← hmap] at hP hD
  exact kk p e R s m args below meth c H1 locs1 ls ad ad0 n0 C ⟨hS, d2, d3.set ha hok hP hD, by simpa using d4, d5, by simpa using d6, by simpa using ok_pop (ok_pop (ok_pop d7))⟩
end Arrays

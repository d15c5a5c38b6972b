/-! System.arraycopy; lengths of byte rows (okv), which numbers may change (mdf). -/
theorem ac_nat : Cond.native arraycopyName ∈ gtb := by decide +kernel
theorem ac_stat : Cond.static arraycopyName ∈ gtb := by decide +kernel
theorem ac_ini : Cond.initialized "java/lang/System" ∈ gtb := by decide +kernel
theorem ok_cpyB {k n0 n1 sp dp n : Nat} {f g : Nat → Int32} (hf : okE k (.inl (1, n0, .inl f))) (hg : okE k (.inl (1, n1, .inl g))) : okE k (.inl (1, n1, .inl (va_cpy f g sp dp n))) := fun j => ⟨fun _ => by
  by_cases h : dp ≤ j ∧ j < dp + n
  · rw [pk_cpy_in h.1 h.2]; exact (hf _).1 rfl
  · rw [pk_cpy_out (by omega)]; exact (hg _).1 rfl, fun h => absurd h (by decide)⟩
section Copy
variable {G : GX} {mi : MI} {pc : Nat} {L : List (Nat × Value)} {st : List Value} {M : List va_E} {kc ks : Nat} {Q : Option Value → List va_E → Prop}
theorem T_copyB {idx a0 a n0 n1 : Nat} {f g : Nat → Int32} {sp dp n : Int32} {M' : List va_E} (hd : decode (mC mi) pc = .ok (.invokestatic idx, 3)) (hl : Cond.methodLink (mY mi).cls idx arraycopyName ∈ gtb) (ha0 : K0 ≤ a0) (ha : K0 ≤ a) (hm0 : M[a0]? = some (.inl (1, n0, .inl f))) (hm1 : M[a]? = some (.inl (1, n1, .inl g))) (h1 : ¬ sp < 0) (h2 : ¬ dp < 0) (h3 : ¬ n < 0) (h4 : sp.toNatClampNeg + n.toNatClampNeg ≤ n0) (h5 : dp.toNatClampNeg + n.toNatClampNeg ≤ n1) (hf : 1 ≤ (mRm mi).frames) (hlo : (st.map fun v => v.category).sum + 18 ≤ (mRm mi).locals) (hM : M.set a (.inl (1, n1, .inl (va_cpy f g sp.toNatClampNeg dp.toNatClampNeg n.toNatClampNeg))) = M') (kk : TT G mi (pc + 3) L st M' kc ks Q) : TT G mi pc L (.int n :: .int dp :: .ref a :: .int sp :: .ref a0 :: st) M kc ks Q := by
  intro p e R s m args below meth c H locs ls ad ad0 nn0 C D
  obtain ⟨d1, d2, d3, d4, d5, d6, d7⟩ := D
  subst hM
  have hR : R = mRm mi := C.2.2.2.2.2.2.2.2.1
  have hts := C.2.2.2.2.2.2.2.1
  have hK := C.2.2.2.2.2.2.2.2.2.1
  have o0 := d3.okAt hm0
  refine va_copyi (ty := .byte) C.1 C.2.1 (by rw [C.2.2.1]; exact d2.1.symm) C.2.2.2.1 (hts _ hl) (hts _ ac_nat) (hts _ ac_stat) (hts _ ac_ini) hK d3.world d3.apart d1 (a0 - K0) (a - K0) 1 1 (wl_at ha0 hm0) (wl_at ha hm1) (tysG_at rfl) (tysG_at rfl) rfl h1 h2 h3 h4 h5 (fun i _ => (o0 _).1 rfl) (by rw [hR]; exact hf) (by rw [hR, cat_sum]; exact hlo) hd (fun H1 locs1 hP hD hS => ?_)
  exact kk p e R s m args below meth c H1 locs1 ls ad ad0 nn0 C ⟨hS, d2, d3.set ha (ok_cpyB o0 (d3.okAt hm1)) hP hD, by simpa using d4, d5, by simpa using d6, by simpa using ok_pop (ok_pop (ok_pop (ok_pop (ok_pop d7))))⟩
theorem T_copyL {idx a0 a n0 n1 : Nat} {f g : Nat → Int64} {sp dp n : Int32} {M' : List va_E} (hd : decode (mC mi) pc = .ok (.invokestatic idx, 3)) (hl : Cond.methodLink (mY mi).cls idx arraycopyName ∈ gtb) (ha0 : K0 ≤ a0) (ha : K0 ≤ a) (hm0 : M[a0]? = some (.inl (0, n0, .inr (.inl f)))) (hm1 : M[a]? = some (.inl (0, n1, .inr (.inl g)))) (h1 : ¬ sp < 0) (h2 : ¬ dp < 0) (h3 : ¬ n < 0) (h4 : sp.toNatClampNeg + n.toNatClampNeg ≤ n0) (h5 : dp.toNatClampNeg + n.toNatClampNeg ≤ n1) (hf : 1 ≤ (mRm mi).frames) (hlo : (st.map fun v => v.category).sum + 18 ≤ (mRm mi).locals) (hM : M.set a (.inl (0, n1, .inr (.inl (va_cpy f g sp.toNatClampNeg dp.toNatClampNeg n.toNatClampNeg)))) = M') (kk : TT G mi (pc + 3) L st M' kc ks Q) : TT G mi pc L (.int n :: .int dp :: .ref a :: .int sp :: .ref a0 :: st) M kc ks Q := by
  intro p e R s m args below meth c H locs ls ad ad0 nn0 C D
  obtain ⟨d1, d2, d3, d4, d5, d6, d7⟩ := D
  subst hM
  have hR : R = mRm mi := C.2.2.2.2.2.2.2.2.1
  have hts := C.2.2.2.2.2.2.2.1
  have hK := C.2.2.2.2.2.2.2.2.2.1
  refine va_copyl (ty := .long) C.1 C.2.1 (by rw [C.2.2.1]; exact d2.1.symm) C.2.2.2.1 (hts _ hl) (hts _ ac_nat) (hts _ ac_stat) (hts _ ac_ini) hK d3.world d3.apart d1 (a0 - K0) (a - K0) 0 0 (wl_at ha0 hm0) (wl_at ha hm1) (tysG_at rfl) (tysG_at rfl) rfl h1 h2 h3 h4 h5 (fun i _ => rfl) (by rw [hR]; exact hf) (by rw [hR, cat_sum]; exact hlo) hd (fun H1 locs1 hP hD hS => ?_)
  exact kk p e R s m args below meth c H1 locs1 ls ad ad0 nn0 C ⟨hS, d2, d3.set ha trivial hP hD, by simpa using d4, d5, by simpa using d6, by simpa using ok_pop (ok_pop (ok_pop (ok_pop (ok_pop d7))))⟩
/-- the same, out of a fixed table -/
theorem T_copyF {idx a0 a n0 n1 : Nat} {f g : Nat → Int64} {sp dp n : Int32} {M' : List va_E} (hd : decode (mC mi) pc = .ok (.invokestatic idx, 3)) (hl : Cond.methodLink (mY mi).cls idx arraycopyName ∈ gtb) (ha0 : ¬ K0 ≤ a0) (ha : K0 ≤ a) (hm0 : M[a0]? = some (.inl (0, n0, .inr (.inl f)))) (hm1 : M[a]? = some (.inl (0, n1, .inr (.inl g)))) (h1 : ¬ sp < 0) (h2 : ¬ dp < 0) (h3 : ¬ n < 0) (h4 : sp.toNatClampNeg + n.toNatClampNeg ≤ n0) (h5 : dp.toNatClampNeg + n.toNatClampNeg ≤ n1) (hf : 1 ≤ (mRm mi).frames) (hlo : (st.map fun v => v.category).sum + 18 ≤ (mRm mi).locals) (hM : M.set a (.inl (0, n1, .inr (.inl (va_cpy f g sp.toNatClampNeg dp.toNatClampNeg n.toNatClampNeg)))) = M') (kk : TT G mi (pc + 3) L st M' kc ks Q) : TT G mi pc L (.int n :: .int dp :: .ref a :: .int sp :: .ref a0 :: st) M kc ks Q := by
  intro p e R s m args below meth c H locs ls ad ad0 nn0 C D
  obtain ⟨d1, d2, d3, d4, d5, d6, d7⟩ := D
  subst hM
  have hR : R = mRm mi := C.2.2.2.2.2.2.2.2.1
  have hts := C.2.2.2.2.2.2.2.1
  have hK := C.2.2.2.2.2.2.2.2.2.1
  obtain ⟨x1, x2⟩ := d3.fixed hm0 ha0
  have hT := C.2.2.2.2.2.2.2.2.2.2.1.1 a0 n0 f x1
  rw [← x2] at hT
  have hw := wl_at (dT := G.2.2.1) (ad := ad) ha hm1
  have pos : ∀ z : Int32, ¬ z < 0 → z.toInt = (z.toNatClampNeg : Int) := by
    intro z hz
    have h0 := Int32.le_iff_toInt_le.mp (Int32.not_lt.mp hz)
    simp at h0
    show z.toInt = ((z.toInt.toNat : Nat) : Int)
    omega
  intro T hTT X
  obtain ⟨src, s1, s2, s3, s4, -, s5, s7⟩ := hT
  obtain ⟨s6, k0, hk0, cm0, hkk0⟩ := s2
  have hc0 : H[ad a0]? = some src := by rw [d1.2.1 (ad a0) (Array.getElem?_eq_some_iff.mp s1).1 s7]; exact s1
  have hc1 : H[ad a]? = some (vp_cell (G.2.2.1 0) (n1, .inr (.inl g))) := d3.world (a - K0) _ hw
  obtain ⟨-, k1, hk1, cm1, hkk1⟩ := (hK.2 0 _ (tysG_at (ty := .long) rfl)).1 n1 (fun j => .long (g j))
  generalize hnew : vp_cell (G.2.2.1 0) (n1, .inr (.inl (va_cpy f g sp.toNatClampNeg dp.toNatClampNeg n.toNatClampNeg))) = new
  have e1 : copied src (vp_cell (G.2.2.1 0) (n1, .inr (.inl g))) sp dp n = new := by rw [← hnew]; exact va_copiedX (fun z => .long z) src _ f g s5 h4
  obtain ⟨vm', X', step⟩ := X.arraycopy C.1 C.2.2.2.1 (hts _ hl) (hts _ ac_nat) (hts _ ac_stat) (hts _ ac_ini) (src := ad a0) (dst := ad a) (cs := src) (cd := vp_cell (G.2.2.1 0) (n1, .inr (.inl g))) (srcPos := sp) (destPos := dp) (n := n) (by rw [hTT]; exact hc0) (by rw [hTT]; exact hc1)
    s6 (fun _ h => by cases h) s3 (fun h => by cases h) hk0 hk1 hkk0 hkk1 (by simp [refKind]) h1 h2 h3 (by rw [pos sp h1, pos n h3]; omega)
    (by rw [pos dp h2, pos n h3]; show ¬ _ > ((arrV (G.2.2.1 0) n1 (fun j => .long (g j))).slots.size : Int); rw [arrV_size]; omega)
    (fun _ _ i hi => by
      have e : src.slots.getD (sp.toNatClampNeg + i) .null = .long (f (sp.toNatClampNeg + i)) := by rw [Array.getD_eq_getD_getElem?, s5 _ (by omega)]; rfl
      exact ⟨by rw [e]; rfl, by rw [e]; exact trivial⟩)
    (g := F0 m pc ls (.int n :: .int dp :: .ref (ad a) :: .int sp :: .ref (ad a0) :: st.map (mV ad))) rfl (by rw [C.2.2.1]; exact d2.1) (rest := st.map (mV ad)) rfl (by rw [C.2.1]; exact hd) (by rw [hR]; exact hf) (by rw [hR, cat_sum]; show 2 * 0 + _ + _ ≤ _; have := hlo; simp only [nativeFrameWords]; simp; omega)
  rw [e1] at X' step
  have hlt : ad a < H.size := (Array.getElem?_eq_some_iff.mp hc1).1
  have hheap : ((T.setVm vm').setCell (ad a) new).heap = H.setIfInBounds (ad a) new := by rw [← hTT]; rfl
  have oq : ∀ q : Nat, q ≠ ad a → (H.setIfInBounds (ad a) new)[q]? = H[q]? := fun q hq => by simp [Array.getElem?_setIfInBounds, Ne.symm hq]
  have hin := d3.apart.2 (a - K0) _ hw
  have hset : (H.setIfInBounds (ad a) new)[ad a]? = some new := by simp [Array.getElem?_setIfInBounds, hlt]
  have hP' := d3.world.set d3.apart hw (e := .inl (G.2.2.1 0, n1, .inr (.inl (va_cpy f g sp.toNatClampNeg dp.toNatClampNeg n.toNatClampNeg)))) (H1 := H.setIfInBounds (ad a) new) (by show _ = some (vp_cell _ _); rw [hnew]; exact hset) oq
  obtain ⟨t, a1, b1⟩ := kk p e R s m args below meth c _ _ ls ad ad0 nn0 C ⟨⟨by simp; exact d1.1, fun q g1 g2 => by rw [oq q (fun e => g2 (by rw [e]; exact hin))]; exact d1.2.1 q g1 g2, fun q hq => by
      rcases List.mem_append.mp hq with h | h
      · exact d1.2.2 q h
      · obtain ⟨z, -, hz⟩ := List.mem_map.mp h
        rw [← hz]; exact hin⟩, d2, d3.set ha trivial hP' (d3.apart.set hw), by simpa using d4, d5, by simpa using d6, by simpa using ok_pop (ok_pop (ok_pop (ok_pop (ok_pop d7))))⟩ _ hheap X'
  exact ⟨t, step t a1, b1⟩
end Copy

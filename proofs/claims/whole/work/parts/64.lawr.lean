def lw_Q (_ : Array Value) (s : State) (o : Outcome) (t : State) : Prop := o = .returned (some (.int 1)) ∧ Framed s o t [] 601024 7293000
def lw_Z (below : List Frame) (a : Array Value) (s : State) : State → Prop := fun t => ∃ o, t.status = .running ∧ Ended t below o ∧ lw_Q a s o t
def mi_lw : MI := (x, code, 7, ret, (14, 534), 601024, 7293000)
def ZL (b N : Nat) (xs : Nat → Int32) : GZ := ([(0, .ref b)], fun G _ _ s _ => thOK G s ∧ va_X b N xs s s.heap ∧ b < s.heap.size ∧ G.2.2.2.1 = s.heap.size, fun _ _ _ _ _ below a s => lw_Z below a s)
theorem G_retL {b N : Nat} {xs : Nat → Int32} {G : GX} {pc : Nat} {L : List (Nat × Value)} {M : List va_E} {kc ks : Nat} {Q : Option Value → List va_E → Prop} (hdg : decode (mC mi_lw) pc = .ok (.ireturn, 1)) (hkc : kc ≤ 601024) (hks : ks ≤ 7293000) : TG (ZL b N xs) G mi_lw pc L [.int (nI 1)] M kc ks Q := by
  intro p e R s m args below meth c H locs ls ad ad0 n0 C P D
  obtain ⟨d1, d2, d3, d4, d5, d6, d7⟩ := D
  obtain ⟨p1, p2, p3, p4⟩ := P
  have hx := C.1
  have hb : c.code = code := C.2.1
  have hr : meth.sig.returnType = ret := C.2.2.2.2.1
  have hlocks := C.2.2.2.2.2.1
  refine W.widen hkc hks (va_forget (fun q hq => by rw [← p4]; exact d1.2.2 q hq) ?_)
  refine (show W p G.1 e R s m args below meth c H [] 601024 7293000 (lw_Z below args s) (F0 m pc ls [.int 1]) from ?_)
  intro T hT X
  obtain ⟨fs, hret, hrun, hended, hW, hframe⟩ := X.leave (v := some (.int 1)) (hlocks := hlocks) (fun h => by rw [hr] at h; cases h)
  have hmeth' : T.vm.method? m = some meth := X.method'
  refine ⟨T.setFrames fs, ?_, .returned (some (.int 1)), hrun, hended, rfl, ⟨_, rfl⟩, hW, hframe⟩
  have hdg : decode code pc = .ok (.ireturn, 1) := hdg
  jvm_step X.here [X.here.top, hx, hb, hdg, hmeth', hr, ret, narrow_b1]
  (try refine ⟨rfl, ?_⟩); (try refine ⟨rfl, ?_⟩)
  first | (intro acts; rw [hret _ acts rfl rfl rfl]) | rw [hret _ _ rfl rfl rfl]
  exact Steps.refl _
theorem ZL.out {b N : Nat} {xs : Nat → Int32} {G : GX} {p : Program} {e : Env} {s : State} {c : Code} (h : (ZL b N xs).2.1 G p e s c) : ¬ gA G b := by
  obtain ⟨-, -, h1, h2⟩ := h
  intro hA
  have : G.2.2.2.1 ≤ b := hA
  omega
section LWR
variable {b N : Nat} {xs : Nat → Int32} {G : GX} {pc : Nat} {L : List (Nat × Value)} {st : List Value} {M : List va_E} {kc ks : Nat} {Q : Option Value → List va_E → Prop}
theorem L_ld {i k : Nat} {n : Int} (h0 : decode (mC mi_lw) pc = .ok (.aload_n 0, 1)) (h1 : decode (mC mi_lw) (pc + 1) = .ok (.iload 4, 2)) (h2 : decode (mC mi_lw) (pc + 3) = .ok (.iconst n, 1)) (h3 : decode (mC mi_lw) (pc + 4) = .ok (.iadd, 1)) (h4 : decode (mC mi_lw) (pc + 5) = .ok (.iaload, 1)) (hl : lk L 4 = some (.int (nI i))) (hn : Int32.ofInt n = nI k) (hi : i + k < N) (hN : N ≤ 3073) (kk : TG (ZL b N xs) G mi_lw (pc + 6) L (.int (xs (i + k)) :: st) M kc ks Q) : TG (ZL b N xs) G mi_lw pc L st M kc ks Q := by
  intro p e R s m args below meth c H locs ls ad ad0 n0 C P D
  obtain ⟨d1, d2, d3, d4, d5, d6, d7⟩ := D
  have hA := ZL.out P
  have K := kk p e R s m args below meth c H locs ls ad ad0 n0 C P ⟨d1, d2, d3, d4, d5, d6, ok_push (by exact trivial) d7⟩
  refine lv_aload_n C.1 C.2.1 h0 rfl (d2.2.2 (0, .ref b) (List.mem_append_left _ List.mem_cons_self)) ?_
  refine lv_iload C.1 C.2.1 h1 (lkE d2 hl) ?_
  refine lv_iconst C.1 C.2.1 h2 hn ?_
  refine lv_iadd C.1 C.2.1 h3 ?_
  rw [nI_add]
  refine va_sld C.1 C.2.1 P.2.1 P.2.2.1 hA d1 (vp_in_nI hi (by omega)) h4 ?_
  rw [nI_clamp (by omega)]
  exact K
theorem L_ld0 {i : Nat} (h0 : decode (mC mi_lw) pc = .ok (.aload_n 0, 1)) (h1 : decode (mC mi_lw) (pc + 1) = .ok (.iload 4, 2)) (h4 : decode (mC mi_lw) (pc + 3) = .ok (.iaload, 1)) (hl : lk L 4 = some (.int (nI i))) (hi : i < N) (hN : N ≤ 3073) (kk : TG (ZL b N xs) G mi_lw (pc + 4) L (.int (xs i) :: st) M kc ks Q) : TG (ZL b N xs) G mi_lw pc L st M kc ks Q := by
  intro p e R s m args below meth c H locs ls ad ad0 n0 C P D
  obtain ⟨d1, d2, d3, d4, d5, d6, d7⟩ := D
  have hA := ZL.out P
  have K := kk p e R s m args below meth c H locs ls ad ad0 n0 C P ⟨d1, d2, d3, d4, d5, d6, ok_push (by exact trivial) d7⟩
  refine lv_aload_n C.1 C.2.1 h0 rfl (d2.2.2 (0, .ref b) (List.mem_append_left _ List.mem_cons_self)) ?_
  refine lv_iload C.1 C.2.1 h1 (lkE d2 hl) ?_
  refine va_sld C.1 C.2.1 P.2.1 P.2.2.1 hA d1 (vp_in_nI hi (by omega)) h4 ?_
  rw [nI_clamp (by omega)]
  exact K
theorem L_len (h0 : decode (mC mi_lw) pc = .ok (.aload_n 0, 1)) (h1 : decode (mC mi_lw) (pc + 1) = .ok (.arraylength, 1)) (kk : TG (ZL b N xs) G mi_lw (pc + 2) L (.int (nI N) :: st) M kc ks Q) : TG (ZL b N xs) G mi_lw pc L st M kc ks Q := by
  intro p e R s m args below meth c H locs ls ad ad0 n0 C P D
  obtain ⟨d1, d2, d3, d4, d5, d6, d7⟩ := D
  have hA := ZL.out P
  have K := kk p e R s m args below meth c H locs ls ad ad0 n0 C P ⟨d1, d2, d3, d4, d5, d6, ok_push (by exact trivial) d7⟩
  refine lv_aload_n C.1 C.2.1 h0 rfl (d2.2.2 (0, .ref b) (List.mem_append_left _ List.mem_cons_self)) ?_
  exact va_slen C.1 C.2.1 P.2.1 P.2.2.1 hA d1 h1 K
end LWR
theorem G_sub {Z : GZ} {G : GX} {mi : MI} {pc : Nat} {L L' : List (Nat × Value)} {st : List Value} {M : List va_E} {kc ks : Nat} {Q : Option Value → List va_E → Prop} (h : ∀ q ∈ L', q ∈ L) (k : TG Z G mi pc L' st M kc ks Q) : TG Z G mi pc L st M kc ks Q := by
  intro p e R s m args below meth c H locs ls ad ad0 n0 C P D
  obtain ⟨d1, d2, d3, d4, d5, d6, d7⟩ := D
  refine k p e R s m args below meth c H locs ls ad ad0 n0 C P ⟨d1, ⟨d2.1, d2.2.1, fun q hq => d2.2.2 q ?_⟩, d3, d4, d5, fun q hq => d6 q (h q hq), d7⟩
  rcases List.mem_append.mp hq with h1 | h1
  · exact List.mem_append_left _ h1
  · obtain ⟨q', hq', rfl⟩ := List.mem_map.mp h1
    exact List.mem_append_right _ (List.mem_map.mpr ⟨q', h q' hq', rfl⟩)
theorem G_tableIn {Z : GZ} {G : GX} {mi : MI} {pc : Nat} {L : List (Nat × Value)} {st : List Value} {M : List va_E} {kc ks : Nat} {Q : Option Value → List va_E → Prop} {dflt lo hi : Int} {offs : Array Int} {len : Nat} {x : Int32} {off : Int} {tgt : Nat} (hd : decode (mC mi) pc = .ok (.tableswitch dflt lo hi offs, len)) (h1 : ¬ x.toInt < lo) (h2 : ¬ hi < x.toInt) (ho : offs[(x.toInt - lo).toNat]? = some off) (ht : (pc : Int) + off = (tgt : Int)) (k : TG Z G mi tgt L st M kc ks Q) : TG Z G mi pc L (.int x :: st) M kc ks Q :=
  TG.op (fun hx hb _ _ k => lv_tableIn hx hb hd h1 h2 ho ht k) (fun _ h => ok_pop h) k
theorem G_tableOut {Z : GZ} {G : GX} {mi : MI} {pc : Nat} {L : List (Nat × Value)} {st : List Value} {M : List va_E} {kc ks : Nat} {Q : Option Value → List va_E → Prop} {dflt lo hi : Int} {offs : Array Int} {len : Nat} {x : Int32} {tgt : Nat} (hd : decode (mC mi) pc = .ok (.tableswitch dflt lo hi offs, len)) (h : x.toInt < lo ∨ hi < x.toInt) (ht : (pc : Int) + dflt = (tgt : Int)) (k : TG Z G mi tgt L st M kc ks Q) : TG Z G mi pc L (.int x :: st) M kc ks Q :=
  TG.op (fun hx hb _ _ k => lv_tableOut hx hb hd h ht k) (fun _ h => ok_pop h) k
def sd0 (N : Nat) (xs : Nat → Int32) : Int32 := if 0 < N then xs 0 else 0
def mi_lcell : MI := (⟨"PasswordGateLaw", "cell", "([II)I"⟩, method_2_code, 2, some .int, (0, 0), 0, 0)
theorem m_cell {l : Launch} {b N : Nat} {xs : Nat → Int32} (hN : N ≤ 3073) : Met l (mY mi_lcell) (mW mi_lcell) (mRm mi_lcell) (va_Pc [.ref b, .int (nI 0)] (fun U => va_X b N xs U U.heap ∧ b < U.heap.size)) (fun _ s o t => o = .returned (some (.int (sd0 N xs))) ∧ t.heap = s.heap) 0 0 (fun _ => False) := by
  refine Met.ofW (cc := mC mi_lcell) (maxL := 2) (ret := some .int) (by decide) rfl ?_
  intro p e s m args below meth c s₁ B hml hv
  obtain ⟨rfl, hX, hbl⟩ := hv
  have hl := lv_entry [Value.ref b, .int (nI 0)] (n := 2) (Nat.le_refl 2)
  rw [lg_entry_eq]
  generalize (lg_sl [Value.ref b, .int (nI 0)] ++ List.replicate (2 - (lg_sl [Value.ref b, .int (nI 0)]).length) Slot.unset).toArray = ls at hl ⊢
  have hx := B.exec
  have hb : c.code = mC mi_lcell := B.bytes
  have l0 : ls[0]? = some (.val (.ref b)) := hl.2.2 (0, .ref b) (by simp [lv_args])
  have l1 : ls[1]? = some (.val (.int (nI 0))) := hl.2.2 (1, .int (nI 0)) (by simp [lv_args, Value.category])
  have hA : ¬ (fun _ : Nat => False) b := fun h => h
  refine lv_iload_n hx hb d_lcell_0 rfl l1 ?_
  refine lv_aload_n hx hb d_lcell_1 rfl l0 ?_
  refine va_slen (A := fun _ => False) hx hb hX hbl hA va_S.rf d_lcell_2 ?_
  refine lv_icmp_ge hx hb d_lcell_3 (tgt := 12) rfl (fun hc => ?_) (fun hc => ?_)
  · have h0 : ¬ 0 < N := by
      have := (nI_leI (a := N) (b := 0) (by omega) (by omega)).mp hc
      omega
    refine lv_iconst (v := sd0 N xs) hx hb d_lcell_12 (by unfold sd0; rw [if_neg h0]; rfl) ?_
    exact W.iret hx hb B.returns (fun t ht _ => ⟨rfl, ht⟩) (fun q h => by cases h) d_lcell_13
  · have h0 : 0 < N := by
      apply Nat.not_le.mp
      intro h
      exact hc ((nI_leI (a := N) (b := 0) (by omega) (by omega)).mpr h)
    refine lv_aload_n hx hb d_lcell_6 rfl l0 ?_
    refine lv_iload_n hx hb d_lcell_7 rfl l1 ?_
    refine va_sld (A := fun _ => False) hx hb hX hbl hA va_S.rf (vp_in_nI h0 (by omega)) d_lcell_8 ?_
    refine lv_goto hx hb d_lcell_9 (tgt := 13) rfl ?_
    have e : xs (nI 0).toNatClampNeg = sd0 N xs := by unfold sd0; rw [if_pos h0, nI_clamp (by decide)]
    rw [e]
    exact W.iret hx hb B.returns (fun t ht _ => ⟨rfl, ht⟩) (fun q h => by cases h) d_lcell_13
theorem va_X_go {b N : Nat} {xs : Nat → Int32} {s U : State} {H : Heap} (hW : s.vm.Alike U.vm) (hk : H[b]? = s.heap[b]?) (h : va_X b N xs s s.heap) : va_X b N xs U H := by
  obtain ⟨scr, h1, h2, h3⟩ := h
  exact ⟨scr, by rw [hk]; exact h1, State.isArrayOf_alike hW h2, h3⟩
theorem L_cell {b N : Nat} {xs : Nat → Int32} {G : GX} {pc : Nat} {L : List (Nat × Value)} {st : List Value} {M : List va_E} {kc ks : Nat} {Q : Option Value → List va_E → Prop} (hN : N ≤ 3073) (h0 : decode (mC mi_lw) pc = .ok (.aload_n 0, 1)) (h1 : decode (mC mi_lw) (pc + 1) = .ok (.iconst 0, 1)) (h2 : decode (mC mi_lw) (pc + 2) = .ok (.invokestatic 22, 3)) (hw : (st.map fun v => v.category).sum ≤ 8) (hkc : kc ≤ 601024) (hks : ks ≤ 7293000) (kk : TG (ZL b N xs) G mi_lw (pc + 5) L (.int (sd0 N xs) :: st) M kc ks Q) : TG (ZL b N xs) G mi_lw pc L st M kc ks Q := by
  intro p e R s m args below meth c H locs ls ad ad0 n0 C P D
  obtain ⟨d1, d2, d3, d4, d5, d6, d7⟩ := D
  have hA := ZL.out P
  have hR : R = mRm mi_lw := C.2.2.2.2.2.2.2.2.1
  refine lv_aload_n C.1 C.2.1 h0 rfl (d2.2.2 (0, .ref b) (List.mem_append_left _ List.mem_cons_self)) ?_
  refine lv_iconst (v := nI 0) C.1 C.2.1 h1 rfl ?_
  have hg : GoodIn gtb (va_wsS (mY mi_lw).cls 22 (mY mi_lcell) (mW mi_lcell)) := good_gtb (List.forall_mem_cons.mpr ⟨lm_lw_22, List.forall_mem_cons.mpr ⟨jt_lcell, List.forall_mem_cons.mpr ⟨lw_ini, List.forall_mem_cons.mpr ⟨jc_lcell, fun _ h => h⟩⟩⟩⟩)
  have cw : CallB R s args (mY mi_lw).cls 22 (mY mi_lcell) (mC mi_lcell) (mL mi_lcell) (mT mi_lcell) (mW mi_lcell) (mRm mi_lcell) (mRm mi_lcell).cells (mRm mi_lcell).slots 2 ∧ (Cond.static (mY mi_lcell)).before args s = true := va_cwS 2 C.2.2.2.2.2.2.2.1 hg rfl rfl rfl (by decide +kernel) (by rw [hR]; decide)
  have hrun := va_runS (nL := mL mi_lw) (Ts := gtb) (own := (mY mi_lw).cls) (n := 2) (As := [.ref b, .int (nI 0)]) (rest := st.map (mV ad)) (g := F0 m (pc + 2) ls (.int (nI 0) :: .ref b :: st.map (mV ad))) (locs := locs) (cells := kc) (slots := ks) (below := below) (e := e) (meth := meth) (H := H) ⟨C.1, C.2.1, C.2.2.1, C.2.2.2.1, C.2.2.2.2.2.2.2.1⟩ (m_cell (l := G.1) (b := b) (xs := xs) hN)
    cw
    ⟨fun a U g mk q => ⟨q.1, va_X_go (s := U) (Vm.Alike.refl U.vm) rfl q.2.1, q.2.2⟩, fun U hU hW => ⟨rfl, va_X_go hW.alike (by rw [hU]; exact d1.2.1 b P.2.2.1 hA) P.2.1, by rw [hU]; exact Nat.lt_of_lt_of_le P.2.2.1 d1.1⟩⟩ rfl rfl d2.1 rfl (lv_room (by rw [cat_sum]; exact hw)) h2 (by rw [hR]; exact ⟨hkc, hks⟩)
  intro T hT X
  obtain ⟨v, st₀, t, T', L', e0, X', hL, e1, e2, ⟨hv, hh⟩, hgo⟩ := hrun T hT X
  cases hv
  have hL' : L' = [] := by
    cases L' with
    | nil => rfl
    | cons q r => exact absurd (hL q List.mem_cons_self) id
  subst hL'
  rw [List.append_nil] at X'
  have hT' : T'.heap = H := by rw [e1, hh, e0]
  have K := kk p e R s m args below meth c H locs ls ad ad0 n0 C P ⟨d1, d2, d3, d4, d5, d6, ok_push (by exact trivial) d7⟩
  obtain ⟨t2, a1, b1⟩ := K T' hT' X'
  exact ⟨t2, hgo t2 a1, b1⟩

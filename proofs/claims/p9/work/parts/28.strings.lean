/-! Strings: fixed objects of class 100 with their bytes behind them. -/
def isSt (s d n : Nat) : Prop := (∀ v, (WS v)[s]? = some (.inr (100, [.ref d, .int 0]))) ∧ aB d n ∧ s < K0 ∧ d < K0 ∧ n ≤ 100
theorem unV_ok (un : Nat → Bool) : okV K0 (unV un 0) := by
  unfold unV
  split
  · trivial
  · show 58 + 0 < K0; decide
section Str
variable {G : GX} {mi : MI} {pc : Nat} {L : List (Nat × Value)} {st : List Value} {M : List va_E} {v : Nat → Int32} {kc ks : Nat}
theorem T_getS {Q : Option Value → List va_E → Prop} {idx a k : Nat} {nm ds : String} {x : Value} (hd : decode (mC mi) pc = .ok (.getfield idx, 3)) (hl : Cond.fieldLink (mY mi).cls idx "java/lang/String" nm ds ∈ gtb) (ha : a < K0) {fs : List Value} (hm : M[a]? = some (.inr (100, fs))) (hk : (k = 0 ∧ nm = "value" ∧ ds = "[B") ∨ (k = 1 ∧ nm = "coder" ∧ ds = "B")) (hx : fs.getD k .null = x) (hok : okV K0 x) (kk : TT G mi (pc + 3) L (x :: st) M kc ks Q) : TT G mi pc L (.ref a :: st) M kc ks Q := by
  intro p e R s m args below meth c H locs ls ad ad0 n0 C D
  obtain ⟨d1, d2, d3, d4, d5, d6, d7⟩ := D
  obtain ⟨h1, h2⟩ := d3.fixed hm (by omega)
  have hF := C.2.2.2.2.2.2.2.2.2.2.1.2.2.1 a 100 fs h1
  have K := kk p e R s m args below meth c H locs ls ad ad0 n0 C ⟨d1, d2, d3, d4, d5, d6, ok_push (hok.mono d3.2.2.2.1) (ok_pop d7)⟩
  have hmv : mV (gF G) x = mV ad x := (mV_ext (n := K0) (ad' := ad) d3.2.2.2.2.2 hok).symm
  rw [← h2] at hF
  have hE : va_OF "java/lang/String" nm ds (mV ad x) (ad a) (gA G) s s.heap := by
    rcases hk with ⟨rfl, rfl, rfl⟩ | ⟨rfl, rfl, rfl⟩
    · rw [← hmv, ← hx]; exact hF.2.2
    · rw [← hmv, ← hx]; exact hF.2.1
  exact vk_getf C.1 C.2.1 hE d1 C.2.2.2.1 (C.2.2.2.2.2.2.2.1 _ hl) (fun _ h => h) hd K
theorem T_virtualS {Q : Option Value → List va_E → Prop} {idx n b : Nat} {mj : MI} {as rest fs : List Value} {Qc : Option Value → List va_E → Prop} (hd : decode (mC mi) pc = .ok (.invokevirtual idx, 3)) (hst : st = as.reverse ++ .ref b :: rest) (hj : JO mi mj n) (hl : Cond.methodLink (mY mi).cls idx (mY mj) ∈ gtb) (hi : Cond.instanceMethod (mY mj) ∈ gtb) (hse : Cond.selects (mY mj).cls (mY mj) (mY mj) ∈ gtb) (hb : b < K0) (hm : M[b]? = some (.inr (100, fs))) (hq : (mY mj).cls = "java/lang/String") (hn : as.length = n) (hw : (rest.map fun v => v.category).sum ≤ 8) (hkc : kc + (mRm mj).cells ≤ (mRm mi).cells) (hks : ks + (mRm mj).slots ≤ (mRm mi).slots)
    (hM : CT G mj (.ref b :: as) M Qc) (kk : ∀ r M', Qc r M' → TT G mi (pc + 3) L (r.toList ++ rest) M' (kc + (mRm mj).cells) (ks + (mRm mj).slots) Q) : TT G mi pc L st M kc ks Q := by
  intro p e R s m args below meth c H locs ls ad ad0 n0 C D
  obtain ⟨d1, d2, d3, d4, d5, d6, d7⟩ := D
  subst hst
  have hR : R = mRm mi := C.2.2.2.2.2.2.2.2.1
  have hA : okA M.length (.ref b :: as) := ok_push (d7 _ (by simp)) fun v hv => d7 v (List.mem_append_left _ (List.mem_reverse.mpr hv))
  have hpre := pre_of C d1 d3 hA
  obtain ⟨h1, h2⟩ := d3.fixed hm (by omega)
  have hO := (C.2.2.2.2.2.2.2.2.2.2.1.2.2.1 b 100 fs h1).1
  rw [← h2] at hO
  obtain ⟨cell, g1, g2, g3, -⟩ := hO.kept d1.2.1
  have hg : GoodIn gtb (wsV (mY mi).cls idx (mY mj).cls (mY mj) (mW mj)) := good_gtb (List.forall_mem_cons.mpr ⟨hl, List.forall_mem_cons.mpr ⟨hi, List.forall_mem_cons.mpr ⟨hse, List.forall_mem_cons.mpr ⟨hj.2.1, hj.ws⟩⟩⟩⟩)
  have cw : CallW R s args (mY mi).cls (mY mj).cls idx (mY mj) (mC mj) (mL mj) (mT mj) (mW mj) (mRm mj) (mRm mj).cells (mRm mj).slots n := cwV n C.2.2.2.2.2.2.2.1 hg rfl rfl rfl ⟨rfl, hj.2.2.1⟩ (by rw [hR]; exact hj.2.2.2)
  have hrun := va_runV (nL := mL mi) (Ts := gtb) (own := (mY mi).cls) (C := (mY mj).cls) (n := n) (b := ad b) (As := as.map (mV ad)) (rest := rest.map (mV ad)) (g := F0 m pc ls ((as.reverse ++ .ref b :: rest).map (mV ad))) (locs := locs) (cells := kc) (slots := ks) (below := below) (e := e) (meth := meth) ⟨C.1, C.2.1, C.2.2.1, C.2.2.2.1, C.2.2.2.2.2.2.2.1⟩ (hM ad)
    cw ⟨hpre.1, ⟨cell, g1, g2, by rw [hq]; exact g3⟩, hpre.2⟩ rfl (by simpa using hn) d2.1 (by simp [mV]) (lv_room (by rw [cat_sum]; exact hw)) hd (by rw [hR]; exact ⟨hkc, hks⟩)
  exact cs_run hrun C ⟨d1, d2, d3, d4, d5, d6, fun v hv => d7 v (List.mem_append_right _ (List.mem_cons_of_mem _ hv))⟩ kk
variable {Q : Option Value → (Nat → Int32) → Prop}
theorem S_getSv {idx s d n : Nat} (hd : decode (mC mi) pc = .ok (.getfield idx, 3)) (hl : Cond.fieldLink (mY mi).cls idx "java/lang/String" "value" "[B" ∈ gtb) (hs : isSt s d n) (kk : ST G mi (pc + 3) L (.ref d :: st) v kc ks Q) : ST G mi pc L (.ref s :: st) v kc ks Q := by
  intro X M1 h
  obtain ⟨e, h1, h2, -⟩ := h.at (hs.1 v) X
  rw [skI_obj h2] at h1
  exact T_getS (k := 0) hd hl hs.2.2.1 h1 (Or.inl ⟨rfl, rfl, rfl⟩) rfl hs.2.2.2.1 (kk X M1 h)
theorem S_getSc {idx s d n : Nat} (hd : decode (mC mi) pc = .ok (.getfield idx, 3)) (hl : Cond.fieldLink (mY mi).cls idx "java/lang/String" "coder" "B" ∈ gtb) (hs : isSt s d n) (kk : ST G mi (pc + 3) L (.int (nI 0) :: st) v kc ks Q) : ST G mi pc L (.ref s :: st) v kc ks Q := by
  intro X M1 h
  obtain ⟨e, h1, h2, -⟩ := h.at (hs.1 v) X
  rw [skI_obj h2] at h1
  exact T_getS (k := 1) hd hl hs.2.2.1 h1 (Or.inr ⟨rfl, rfl, rfl⟩) rfl trivial (kk X M1 h)
theorem S_virtualS {idx n b d m : Nat} {mj : MI} {as rest : List Value} {Qc : Option Value → (Nat → Int32) → Prop} (hd : decode (mC mi) pc = .ok (.invokevirtual idx, 3)) (hst : st = as.reverse ++ .ref b :: rest) (hj : JO mi mj n) (hl : Cond.methodLink (mY mi).cls idx (mY mj) ∈ gtb) (hi : Cond.instanceMethod (mY mj) ∈ gtb) (hse : Cond.selects (mY mj).cls (mY mj) (mY mj) ∈ gtb) (hs : isSt b d m) (hq : (mY mj).cls = "java/lang/String") (hn : as.length = n) (hw : (rest.map fun v => v.category).sum ≤ 8) (hkc : kc + (mRm mj).cells ≤ (mRm mi).cells) (hks : ks + (mRm mj).slots ≤ (mRm mi).slots)
    (hM : CS G mj (.ref b :: as) v Qc) (kk : ∀ r v', Qc r v' → ST G mi (pc + 3) L (r.toList ++ rest) v' (kc + (mRm mj).cells) (ks + (mRm mj).slots) Q) : ST G mi pc L st v kc ks Q := by
  intro X M1 h
  obtain ⟨e, h1, h2, -⟩ := h.at (hs.1 v) X
  rw [skI_obj h2] at h1
  exact T_virtualS hd hst hj hl hi hse hs.2.2.1 h1 hq hn hw hkc hks (hM X M1 h) (fun r _ hq => by obtain ⟨M1', v', rfl, hW, hq⟩ := hq; exact kk r v' hq X M1' hW)
theorem S_anyC {P : Int32 → Prop} {x : Int32} (hx : P x) (k : ∀ z : Int32, P z → ST G mi pc L (.int z :: st) v kc ks Q) : ST G mi pc L (.int x :: st) v kc ks Q := k x hx
end Str
theorem mn_stat : Cond.static Lib.Math.min.name ∈ gtb := by decide +kernel
theorem mn_ini : Cond.initialized "java/lang/Math" ∈ gtb := by decide +kernel
theorem mn_code : Cond.code Lib.Math.min.name Lib.Math.min.code 2 (some .int) ∈ gtb := by decide +kernel
theorem T_min {G : GX} {mi : MI} {pc : Nat} {L : List (Nat × Value)} {st : List Value} {M : List va_E} {kc ks : Nat} {Q : Option Value → List va_E → Prop} {idx : Nat} {x y : Int32} (hd : decode (mC mi) pc = .ok (.invokestatic idx, 3)) (hl : Cond.methodLink (mY mi).cls idx Lib.Math.min.name ∈ gtb) (hf : 1 ≤ (mRm mi).frames) (hlo : (st.map fun v => v.category).sum + 13 ≤ (mRm mi).locals) (hkc : kc ≤ (mRm mi).cells) (hks : ks ≤ (mRm mi).slots) (kk : TT G mi (pc + 3) L (.int (if y < x then y else x) :: st) M kc ks Q) : TT G mi pc L (.int y :: .int x :: st) M kc ks Q := by
  intro p e R s m args below meth c H locs ls ad ad0 n0 C D
  obtain ⟨d1, d2, d3, d4, d5, d6, d7⟩ := D
  have hR : R = mRm mi := C.2.2.2.2.2.2.2.2.1
  have hts := C.2.2.2.2.2.2.2.1
  have K := kk p e R s m args below meth c H locs ls ad ad0 n0 C ⟨d1, d2, d3, d4, d5, d6, ok_push trivial (ok_pop (ok_pop d7))⟩
  exact va_mmin C.1 C.2.1 (by rw [C.2.2.1]; exact d2.1.symm) C.2.2.2.1 (hts _ hl) (hts _ mn_stat) (hts _ mn_ini) (hts _ mn_code) (by rw [hR]; exact hf) (by rw [hR, cat_sum]; exact hlo) (by rw [hR]; exact hkc) (by rw [hR]; exact hks) hd K
theorem S_min {G : GX} {mi : MI} {pc : Nat} {L : List (Nat × Value)} {st : List Value} {v : Nat → Int32} {kc ks : Nat} {Q : Option Value → (Nat → Int32) → Prop} {idx a b : Nat} (hd : decode (mC mi) pc = .ok (.invokestatic idx, 3)) (hl : Cond.methodLink (mY mi).cls idx Lib.Math.min.name ∈ gtb) (hf : 1 ≤ (mRm mi).frames) (hlo : (st.map fun v => v.category).sum + 13 ≤ (mRm mi).locals) (hkc : kc ≤ (mRm mi).cells) (hks : ks ≤ (mRm mi).slots) (ha : a < 2 ^ 31) (hb : b < 2 ^ 31) (kk : ∀ z, z ≤ a → z ≤ b → ST G mi (pc + 3) L (.int (nI z) :: st) v kc ks Q) : ST G mi pc L (.int (nI b) :: .int (nI a) :: st) v kc ks Q := by
  refine ST.lift (fun _ _ k => T_min hd hl hf hlo hkc hks k) ?_
  by_cases h : nI b < nI a
  · rw [if_pos h]; have := (nI_ltI hb ha).mp h; exact kk b (by omega) (by omega)
  · rw [if_neg h]; have : ¬ b < a := fun q => h ((nI_ltI hb ha).mpr q); exact kk a (by omega) (by omega)

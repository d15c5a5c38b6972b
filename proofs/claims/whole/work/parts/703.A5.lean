def Rv (M : List va_E) (q : Nat) (x : Int) (n : Nat) : Prop := ∃ F, M[q]? = some (lr 10 F) ∧ V10 F x n
def Rq (M : List va_E) (q : Nat) : Prop := ∃ F, M[q]? = some (lr 10 F)
def Ex (to : Nat) (M M' : List va_E) : Prop := ∀ q, q ≠ to → M'[q]? = M[q]?
def Kp (W : List Nat) (M M' : List va_E) : Prop := ∀ q, q ∉ W → M'[q]? = M[q]?
theorem Rv.rq {M : List va_E} {q : Nat} {x : Int} {n : Nat} (h : Rv M q x n) : Rq M q := by obtain ⟨F, h1, -⟩ := h; exact ⟨F, h1⟩
theorem Rv.st {M M' : List va_E} {q to : Nat} {x : Int} {n : Nat} (h : Rv M q x n) (s : Ex to M M') (hn : q ≠ to) : Rv M' q x n := by obtain ⟨F, h1, h2⟩ := h; exact ⟨F, (s q hn).trans h1, h2⟩
theorem Rq.st {M M' : List va_E} {q to : Nat} (h : Rq M q) (s : Ex to M M') (hn : q ≠ to) : Rq M' q := by obtain ⟨F, h1⟩ := h; exact ⟨F, (s q hn).trans h1⟩
theorem Rv.kp {M M' : List va_E} {q : Nat} {W : List Nat} {x : Int} {n : Nat} (h : Rv M q x n) (s : Kp W M M') (hn : q ∉ W) : Rv M' q x n := by obtain ⟨F, h1, h2⟩ := h; exact ⟨F, (s q hn).trans h1, h2⟩
theorem Rq.kp {M M' : List va_E} {q : Nat} {W : List Nat} (h : Rq M q) (s : Kp W M M') (hn : q ∉ W) : Rq M' q := by obtain ⟨F, h1⟩ := h; exact ⟨F, (s q hn).trans h1⟩
theorem Rv.eq {M : List va_E} {q : Nat} {x y : Int} {n : Nat} (h : Rv M q x n) (e : eqP x y) : Rv M q y n := by obtain ⟨F, h1, h2⟩ := h; exact ⟨F, h1, h2.eq e⟩
theorem Rv.up {M : List va_E} {q : Nat} {x : Int} {n m : Nat} (h : Rv M q x n) (e : n ≤ m) : Rv M q x m := by obtain ⟨F, h1, h2⟩ := h; exact ⟨F, h1, h2.up e⟩
theorem Kp.rf {W : List Nat} {M : List va_E} : Kp W M M := fun _ _ => rfl
theorem Kp.tr {W : List Nat} {M M' M'' : List va_E} (h : Kp W M M') (h' : Kp W M' M'') : Kp W M M'' := fun q hq => (h' q hq).trans (h q hq)
theorem Kp.mono {W W' : List Nat} {M M' : List va_E} (h : Kp W M M') (hs : ∀ q ∈ W, q ∈ W') : Kp W' M M' := fun q hq => h q (fun c => hq (hs q c))
theorem Kp.ex {W : List Nat} {to : Nat} {M M' M'' : List va_E} (h : Kp W M M') (h' : Ex to M' M'') (ht : to ∈ W) : Kp W M M'' := fun q hq => (h' q (fun c => hq (c ▸ ht))).trans (h q hq)
theorem set_ex {M : List va_E} {to : Nat} {e : va_E} : Ex to M (M.set to e) := fun q hq => List.getElem?_set_ne (Ne.symm hq)
theorem set_rv {M : List va_E} {to : Nat} {F : Nat → Int64} {x : Int} {n : Nat} (h : Rq M to) (hF : V10 F x n) : Rv (M.set to (lr 10 F)) to x n := by obtain ⟨F0, h0⟩ := h; exact ⟨F, List.getElem?_set_self (X_len h0), hF⟩
def pw (x : Int) (e : Nat) : Int := x ^ e
theorem pw_1 (x : Int) : pw x 1 = x := by unfold pw; rw [Int.pow_succ, Int.pow_zero, Int.one_mul]
theorem pw_m (x : Int) (a b : Nat) : pw x a * pw x b = pw x (a + b) := (Int.pow_add x a b).symm
theorem pw_s (x : Int) (a k : Nat) : (pw x a) ^ (2 ^ k) = pw x (a * 2 ^ k) := Int.pow_mul.symm
section VR
variable {G : GX} {mi : MI} {pc : Nat} {L : List (Nat × Value)} {rest : List Value} {M : List va_E} {kc ks : Nat} {Q : Option Value → List va_E → Prop} {idx to f g : Nat} {x y : Int} {n m : Nat}
theorem T_vmul (hd : decode (mC mi) pc = .ok (.invokestatic idx, 3)) (hj : JO mi mi_Fi_multiply 3) (hl : Cond.methodLink (mY mi).cls idx (mY mi_Fi_multiply) ∈ gtb) (hw : (rest.map fun v => v.category).sum ≤ 8) (hkc : kc ≤ (mRm mi).cells) (hks : ks ≤ (mRm mi).slots) (kto : K0 ≤ to) (hto : Rq M to) (hf : Rv M f x n) (hg : Rv M g y m) (hnm : n * m ≤ 15) (kk : ∀ M', Rv M' to (x * y) 1 → Ex to M M' → TT G mi (pc + 3) L rest M' kc ks Q) : TT G mi pc L (.ref g :: .ref f :: .ref to :: rest) M kc ks Q := by
  obtain ⟨F, f1, f2⟩ := hf; obtain ⟨E, g1, g2⟩ := hg
  have hto' := hto
  obtain ⟨H, h1⟩ := hto'
  refine T_static (as := [.ref to, .ref f, .ref g]) (rest := rest) hd rfl hj hl jt_Fi_multiply rfl hw hkc hks (x_Fi_multiply G kto h1 f1 g1) (fun r M' hq => ?_)
  obtain ⟨rfl, F', rfl, e⟩ := hq
  exact kk _ (set_rv hto ((mulW_V hnm f2 g2).ext e)) set_ex
theorem T_vsq {k : Nat} (hd : decode (mC mi) pc = .ok (.invokestatic idx, 3)) (hj : JO mi mi_Fi_square 3) (hl : Cond.methodLink (mY mi).cls idx (mY mi_Fi_square) ∈ gtb) (hw : (rest.map fun v => v.category).sum ≤ 8) (hkc : kc ≤ (mRm mi).cells) (hks : ks ≤ (mRm mi).slots) (kto : K0 ≤ to) (hto : Rq M to) (hf : Rv M f x n) (hn : n ≤ 3) (hk : 0 < k) (hk2 : k < 1000) (kk : ∀ M', Rv M' to (x ^ (2 ^ k)) 1 → Ex to M M' → TT G mi (pc + 3) L rest M' kc ks Q) : TT G mi pc L (.int (nI k) :: .ref f :: .ref to :: rest) M kc ks Q := by
  obtain ⟨F, f1, f2⟩ := hf
  have hto' := hto
  obtain ⟨H, h1⟩ := hto'
  refine T_static (as := [.ref to, .ref f, .int (nI k)]) (rest := rest) hd rfl hj hl jt_Fi_square rfl hw hkc hks (x_Fi_square G (by omega) kto h1 f1) (fun r M' hq => ?_)
  obtain ⟨rfl, F', rfl, e⟩ := hq
  have := sqI_V hn f2 k
  rw [if_neg (by omega)] at this
  exact kk _ (set_rv hto (this.ext e)) set_ex
theorem T_vsq1 (hd : decode (mC mi) pc = .ok (.invokestatic idx, 3)) (hj : JO mi mi_Fi_square 3) (hl : Cond.methodLink (mY mi).cls idx (mY mi_Fi_square) ∈ gtb) (hw : (rest.map fun v => v.category).sum ≤ 8) (hkc : kc ≤ (mRm mi).cells) (hks : ks ≤ (mRm mi).slots) (kto : K0 ≤ to) (hto : Rq M to) (hf : Rv M f x n) (hn : n ≤ 3) (kk : ∀ M', Rv M' to (x * x) 1 → Ex to M M' → TT G mi (pc + 3) L rest M' kc ks Q) : TT G mi pc L (.int (nI 1) :: .ref f :: .ref to :: rest) M kc ks Q := by
  refine T_vsq (k := 1) hd hj hl hw hkc hks kto hto hf hn (by decide) (by decide) (fun M' h s => kk M' ?_ s)
  have e : x ^ (2 ^ 1) = x * x := by rw [show 2 ^ 1 = 1 + 1 from rfl, Int.pow_succ, Int.pow_succ, Int.pow_zero, Int.one_mul]
  rw [← e]; exact h
theorem T_vadd (hd : decode (mC mi) pc = .ok (.invokestatic idx, 3)) (hj : JO mi mi_Fi_add 3) (hl : Cond.methodLink (mY mi).cls idx (mY mi_Fi_add) ∈ gtb) (hw : (rest.map fun v => v.category).sum ≤ 8) (hkc : kc ≤ (mRm mi).cells) (hks : ks ≤ (mRm mi).slots) (kto : K0 ≤ to) (hto : Rq M to) (hf : Rv M f x n) (hg : Rv M g y m) (hnm : n + m ≤ 1000) (kk : ∀ M', Rv M' to (x + y) (n + m) → Ex to M M' → TT G mi (pc + 3) L rest M' kc ks Q) : TT G mi pc L (.ref g :: .ref f :: .ref to :: rest) M kc ks Q := by
  obtain ⟨F, f1, f2⟩ := hf; obtain ⟨E, g1, g2⟩ := hg
  have hto' := hto
  obtain ⟨H, h1⟩ := hto'
  refine T_static (as := [.ref to, .ref f, .ref g]) (rest := rest) hd rfl hj hl jt_Fi_add rfl hw hkc hks (x_Fi_add G kto h1 f1 g1) (fun r M' hq => ?_)
  obtain ⟨rfl, F', rfl, e⟩ := hq
  exact kk _ (set_rv hto ((f2.ad g2 hnm).ext e)) set_ex
theorem T_vsub (hd : decode (mC mi) pc = .ok (.invokestatic idx, 3)) (hj : JO mi mi_Fi_subtract 3) (hl : Cond.methodLink (mY mi).cls idx (mY mi_Fi_subtract) ∈ gtb) (hw : (rest.map fun v => v.category).sum ≤ 8) (hkc : kc ≤ (mRm mi).cells) (hks : ks ≤ (mRm mi).slots) (kto : K0 ≤ to) (hto : Rq M to) (hf : Rv M f x n) (hg : Rv M g y m) (hnm : n + m ≤ 1000) (kk : ∀ M', Rv M' to (x - y) (n + m) → Ex to M M' → TT G mi (pc + 3) L rest M' kc ks Q) : TT G mi pc L (.ref g :: .ref f :: .ref to :: rest) M kc ks Q := by
  obtain ⟨F, f1, f2⟩ := hf; obtain ⟨E, g1, g2⟩ := hg
  have hto' := hto
  obtain ⟨H, h1⟩ := hto'
  refine T_static (as := [.ref to, .ref f, .ref g]) (rest := rest) hd rfl hj hl jt_Fi_subtract rfl hw hkc hks (x_Fi_subtract G kto h1 f1 g1) (fun r M' hq => ?_)
  obtain ⟨rfl, F', rfl, e⟩ := hq
  exact kk _ (set_rv hto ((f2.sb g2 hnm).ext e)) set_ex
theorem T_vneg (hd : decode (mC mi) pc = .ok (.invokestatic idx, 3)) (hj : JO mi mi_Fi_negate 2) (hl : Cond.methodLink (mY mi).cls idx (mY mi_Fi_negate) ∈ gtb) (hw : (rest.map fun v => v.category).sum ≤ 8) (hkc : kc ≤ (mRm mi).cells) (hks : ks ≤ (mRm mi).slots) (kto : K0 ≤ to) (hto : Rq M to) (hf : Rv M f x n) (hnm : n ≤ 1000) (kk : ∀ M', Rv M' to (-x) n → Ex to M M' → TT G mi (pc + 3) L rest M' kc ks Q) : TT G mi pc L (.ref f :: .ref to :: rest) M kc ks Q := by
  obtain ⟨F, f1, f2⟩ := hf
  have hto' := hto
  obtain ⟨H, h1⟩ := hto'
  refine T_static (as := [.ref to, .ref f]) (rest := rest) hd rfl hj hl jt_Fi_negate rfl hw hkc hks (x_Fi_negate G kto h1 f1) (fun r M' hq => ?_)
  obtain ⟨rfl, F', rfl, e⟩ := hq
  exact kk _ (set_rv hto ((f2.ng hnm).ext e)) set_ex
theorem T_vcopy (hd : decode (mC mi) pc = .ok (.invokestatic idx, 3)) (hj : JO mi mi_Fi_copy 2) (hl : Cond.methodLink (mY mi).cls idx (mY mi_Fi_copy) ∈ gtb) (hw : (rest.map fun v => v.category).sum ≤ 8) (hkc : kc ≤ (mRm mi).cells) (hks : ks ≤ (mRm mi).slots) (kto : K0 ≤ to) (hto : Rq M to) (hf : Rv M f x n) (kk : ∀ M', Rv M' to x n → Ex to M M' → TT G mi (pc + 3) L rest M' kc ks Q) : TT G mi pc L (.ref f :: .ref to :: rest) M kc ks Q := by
  obtain ⟨F, f1, f2⟩ := hf
  have hto' := hto
  obtain ⟨H, h1⟩ := hto'
  refine T_static (as := [.ref to, .ref f]) (rest := rest) hd rfl hj hl jt_Fi_copy rfl hw hkc hks (x_Fi_copy G kto h1 f1) (fun r M' hq => ?_)
  obtain ⟨rfl, F', rfl, e⟩ := hq
  exact kk _ (set_rv hto (f2.ext e)) set_ex
theorem T_know (kk : (∀ k, k < K0 → M[k]? = fxc[k]?) → TT G mi pc L rest M kc ks Q) : TT G mi pc L rest M kc ks Q := fun p e R s m args below meth c H locs ls ad ad0 n0 C D => kk D.2.2.1.2.2.2.2.1 p e R s m args below meth c H locs ls ad ad0 n0 C D
end VR
def foO : va_E := .inr (6, [.ref 79, .ref 80, .ref 81, .ref 82, .ref 83, .ref 84, .ref 85])
set_option maxHeartbeats 2000000 in
theorem v_Fi_raise (G : GX) {M : List va_E} {to z : Nat} {x : Int} (ho : M[78]? = some foO) (h81 : Rq M 81) (h82 : Rq M 82) (h83 : Rq M 83) (hto : Rq M to) (hz : Rv M z x 1) (k_to : K0 ≤ to) (h_to_78 : to ≠ 78) (h_to_81 : to ≠ 81) (h_to_82 : to ≠ 82) (h_to_83 : to ≠ 83) (h_z_to : z ≠ to) (h_z_81 : z ≠ 81) (h_z_82 : z ≠ 82) (h_z_83 : z ≠ 83) : CT G mi_Fi_raise [.ref 78, .ref to, .ref z] M (fun r M' => r = none ∧ Rv M' to (pw x 7237005577332262213973186563042994240829374041602535252466099000494570602493) 1 ∧ Kp [to, 81, 82, 83] M M' ∧ Rq M' 81 ∧ Rq M' 82 ∧ Rq M' 83) := by
  have hz0 : Rv M z (pw x 1) 1 := by rw [pw_1]; exact hz
  refine CT.of (by decide) (Nat.le_of_ble_eq_true rfl) ?_
  show TT G mi_Fi_raise 0 [(0, .ref 78), (1, .ref to), (2, .ref z)] [] M 0 0 _
  refine T_aload_n (v := .ref 78) d_Fi_raise_0 rfl (Or.inr ⟨_, rfl⟩) ?_
  refine T_getfield d_Fi_raise_1 fg_Fi_16 ho rfl ?_
  refine T_aload_n (v := .ref z) d_Fi_raise_4 rfl (Or.inr ⟨_, rfl⟩) ?_
  refine T_iconst (v := nI 1) d_Fi_raise_5 (by decide) ?_
  refine T_vsq (k := 1) d_Fi_raise_6 (jw_Fi_square.jo (by decide)) lm_Fi_53 (by decide) (by decide) (by decide) (by decide) h81 hz0 (by decide) (by decide) (by decide) (fun M1 w1 s1 => ?_)
  have p1 : Rv M1 81 (pw x 2) 1 := by rw [pw_s] at w1; exact w1
  have vz_1 := hz0.st s1 h_z_81
  have rto_1 := hto.st s1 h_to_81
  have r82_1 := h82.st s1 (by decide)
  have r83_1 := h83.st s1 (by decide)
  have o78_1 := (s1 78 (by decide)).trans ho
  refine T_aload_n (v := .ref 78) d_Fi_raise_9 rfl (Or.inr ⟨_, rfl⟩) ?_
  refine T_getfield d_Fi_raise_10 fg_Fi_19 o78_1 rfl ?_
  refine T_aload_n (v := .ref 78) d_Fi_raise_13 rfl (Or.inr ⟨_, rfl⟩) ?_
  refine T_getfield d_Fi_raise_14 fg_Fi_16 o78_1 rfl ?_
  refine T_iconst (v := nI 2) d_Fi_raise_17 (by decide) ?_
  refine T_vsq (k := 2) d_Fi_raise_18 (jw_Fi_square.jo (by decide)) lm_Fi_53 (by decide) (by decide) (by decide) (by decide) r82_1 p1 (by decide) (by decide) (by decide) (fun M2 w2 s2 => ?_)
  have p2 : Rv M2 82 (pw x 8) 1 := by rw [pw_s] at w2; exact w2
  have vz_2 := vz_1.st s2 h_z_82
  have v81_2 := p1.st s2 (by decide)
  have rto_2 := rto_1.st s2 h_to_82
  have r83_2 := r83_1.st s2 (by decide)
  have o78_2 := (s2 78 (by decide)).trans o78_1
  refine T_aload_n (v := .ref 78) d_Fi_raise_21 rfl (Or.inr ⟨_, rfl⟩) ?_
  refine T_getfield d_Fi_raise_22 fg_Fi_19 o78_2 rfl ?_
  refine T_aload_n (v := .ref 78) d_Fi_raise_25 rfl (Or.inr ⟨_, rfl⟩) ?_
  refine T_getfield d_Fi_raise_26 fg_Fi_19 o78_2 rfl ?_
  refine T_aload_n (v := .ref z) d_Fi_raise_29 rfl (Or.inr ⟨_, rfl⟩) ?_
  refine T_vmul d_Fi_raise_30 (jw_Fi_multiply.jo (by decide)) lm_Fi_57 (by decide) (by decide) (by decide) (by decide) p2.rq p2 vz_2 (by decide) (fun M3 w3 s3 => ?_)
  have p3 : Rv M3 82 (pw x 9) 1 := by rw [pw_m] at w3; exact w3
  have vz_3 := vz_2.st s3 h_z_82
  have v81_3 := v81_2.st s3 (by decide)
  have rto_3 := rto_2.st s3 h_to_82
  have r83_3 := r83_2.st s3 (by decide)
  have o78_3 := (s3 78 (by decide)).trans o78_2
  refine T_aload_n (v := .ref 78) d_Fi_raise_33 rfl (Or.inr ⟨_, rfl⟩) ?_
  refine T_getfield d_Fi_raise_34 fg_Fi_16 o78_3 rfl ?_
  refine T_aload_n (v := .ref 78) d_Fi_raise_37 rfl (Or.inr ⟨_, rfl⟩) ?_
  refine T_getfield d_Fi_raise_38 fg_Fi_16 o78_3 rfl ?_
  refine T_aload_n (v := .ref 78) d_Fi_raise_41 rfl (Or.inr ⟨_, rfl⟩) ?_
  refine T_getfield d_Fi_raise_42 fg_Fi_19 o78_3 rfl ?_
  refine T_vmul d_Fi_raise_45 (jw_Fi_multiply.jo (by decide)) lm_Fi_57 (by decide) (by decide) (by decide) (by decide) v81_3.rq v81_3 p3 (by decide) (fun M4 w4 s4 => ?_)
  have p4 : Rv M4 81 (pw x 11) 1 := by rw [pw_m] at w4; exact w4
  have vz_4 := vz_3.st s4 h_z_81
  have v82_4 := p3.st s4 (by decide)
  have rto_4 := rto_3.st s4 h_to_81
  have r83_4 := r83_3.st s4 (by decide)
  have o78_4 := (s4 78 (by decide)).trans o78_3
  refine T_aload_n (v := .ref 78) d_Fi_raise_48 rfl (Or.inr ⟨_, rfl⟩) ?_
  refine T_getfield d_Fi_raise_49 fg_Fi_16 o78_4 rfl ?_
  refine T_aload_n (v := .ref 78) d_Fi_raise_52 rfl (Or.inr ⟨_, rfl⟩) ?_
  refine T_getfield d_Fi_raise_53 fg_Fi_16 o78_4 rfl ?_
  refine T_iconst (v := nI 1) d_Fi_raise_56 (by decide) ?_
  refine T_vsq (k := 1) d_Fi_raise_57 (jw_Fi_square.jo (by decide)) lm_Fi_53 (by decide) (by decide) (by decide) (by decide) p4.rq p4 (by decide) (by decide) (by decide) (fun M5 w5 s5 => ?_)
  have p5 : Rv M5 81 (pw x 22) 1 := by rw [pw_s] at w5; exact w5
  have vz_5 := vz_4.st s5 h_z_81
  have v82_5 := v82_4.st s5 (by decide)
  have rto_5 := rto_4.st s5 h_to_81
  have r83_5 := r83_4.st s5 (by decide)
  have o78_5 := (s5 78 (by decide)).trans o78_4
  refine T_aload_n (v := .ref 78) d_Fi_raise_60 rfl (Or.inr ⟨_, rfl⟩) ?_
  refine T_getfield d_Fi_raise_61 fg_Fi_16 o78_5 rfl ?_
  refine T_aload_n (v := .ref 78) d_Fi_raise_64 rfl (Or.inr ⟨_, rfl⟩) ?_
  refine T_getfield d_Fi_raise_65 fg_Fi_16 o78_5 rfl ?_
  refine T_aload_n (v := .ref 78) d_Fi_raise_68 rfl (Or.inr ⟨_, rfl⟩) ?_
  refine T_getfield d_Fi_raise_69 fg_Fi_19 o78_5 rfl ?_
  refine T_vmul d_Fi_raise_72 (jw_Fi_multiply.jo (by decide)) lm_Fi_57 (by decide) (by decide) (by decide) (by decide) p5.rq p5 v82_5 (by decide) (fun M6 w6 s6 => ?_)
  have p6 : Rv M6 81 (pw x 31) 1 := by rw [pw_m] at w6; exact w6
  have vz_6 := vz_5.st s6 h_z_81
  have v82_6 := v82_5.st s6 (by decide)
  have rto_6 := rto_5.st s6 h_to_81
  have r83_6 := r83_5.st s6 (by decide)
  have o78_6 := (s6 78 (by decide)).trans o78_5
  refine T_aload_n (v := .ref 78) d_Fi_raise_75 rfl (Or.inr ⟨_, rfl⟩) ?_
  refine T_getfield d_Fi_raise_76 fg_Fi_19 o78_6 rfl ?_
  refine T_aload_n (v := .ref 78) d_Fi_raise_79 rfl (Or.inr ⟨_, rfl⟩) ?_
  refine T_getfield d_Fi_raise_80 fg_Fi_16 o78_6 rfl ?_
  refine T_iconst (v := nI 5) d_Fi_raise_83 (by decide) ?_
  refine T_vsq (k := 5) d_Fi_raise_84 (jw_Fi_square.jo (by decide)) lm_Fi_53 (by decide) (by decide) (by decide) (by decide) v82_6.rq p6 (by decide) (by decide) (by decide) (fun M7 w7 s7 => ?_)
  have p7 : Rv M7 82 (pw x 992) 1 := by rw [pw_s] at w7; exact w7
  have vz_7 := vz_6.st s7 h_z_82
  have v81_7 := p6.st s7 (by decide)
  have rto_7 := rto_6.st s7 h_to_82
  have r83_7 := r83_6.st s7 (by decide)
  have o78_7 := (s7 78 (by decide)).trans o78_6
  refine T_aload_n (v := .ref 78) d_Fi_raise_87 rfl (Or.inr ⟨_, rfl⟩) ?_
  refine T_getfield d_Fi_raise_88 fg_Fi_16 o78_7 rfl ?_
  refine T_aload_n (v := .ref 78) d_Fi_raise_91 rfl (Or.inr ⟨_, rfl⟩) ?_
  refine T_getfield d_Fi_raise_92 fg_Fi_19 o78_7 rfl ?_
  refine T_aload_n (v := .ref 78) d_Fi_raise_95 rfl (Or.inr ⟨_, rfl⟩) ?_
  refine T_getfield d_Fi_raise_96 fg_Fi_16 o78_7 rfl ?_
  refine T_vmul d_Fi_raise_99 (jw_Fi_multiply.jo (by decide)) lm_Fi_57 (by decide) (by decide) (by decide) (by decide) v81_7.rq p7 v81_7 (by decide) (fun M8 w8 s8 => ?_)
  have p8 : Rv M8 81 (pw x 1023) 1 := by rw [pw_m] at w8; exact w8
  have vz_8 := vz_7.st s8 h_z_81
  have v82_8 := p7.st s8 (by decide)
  have rto_8 := rto_7.st s8 h_to_81
  have r83_8 := r83_7.st s8 (by decide)
  have o78_8 := (s8 78 (by decide)).trans o78_7
  refine T_aload_n (v := .ref 78) d_Fi_raise_102 rfl (Or.inr ⟨_, rfl⟩) ?_
  refine T_getfield d_Fi_raise_103 fg_Fi_19 o78_8 rfl ?_
  refine T_aload_n (v := .ref 78) d_Fi_raise_106 rfl (Or.inr ⟨_, rfl⟩) ?_
  refine T_getfield d_Fi_raise_107 fg_Fi_16 o78_8 rfl ?_
  refine T_bipush (v := nI 10) d_Fi_raise_110 (by decide) ?_
  refine T_vsq (k := 10) d_Fi_raise_112 (jw_Fi_square.jo (by decide)) lm_Fi_53 (by decide) (by decide) (by decide) (by decide) v82_8.rq p8 (by decide) (by decide) (by decide) (fun M9 w9 s9 => ?_)
  have p9 : Rv M9 82 (pw x 1047552) 1 := by rw [pw_s] at w9; exact w9
  have vz_9 := vz_8.st s9 h_z_82
  have v81_9 := p8.st s9 (by decide)
  have rto_9 := rto_8.st s9 h_to_82
  have r83_9 := r83_8.st s9 (by decide)
  have o78_9 := (s9 78 (by decide)).trans o78_8
  refine T_aload_n (v := .ref 78) d_Fi_raise_115 rfl (Or.inr ⟨_, rfl⟩) ?_
  refine T_getfield d_Fi_raise_116 fg_Fi_19 o78_9 rfl ?_
  refine T_aload_n (v := .ref 78) d_Fi_raise_119 rfl (Or.inr ⟨_, rfl⟩) ?_
  refine T_getfield d_Fi_raise_120 fg_Fi_19 o78_9 rfl ?_
  refine T_aload_n (v := .ref 78) d_Fi_raise_123 rfl (Or.inr ⟨_, rfl⟩) ?_
  refine T_getfield d_Fi_raise_124 fg_Fi_16 o78_9 rfl ?_
  refine T_vmul d_Fi_raise_127 (jw_Fi_multiply.jo (by decide)) lm_Fi_57 (by decide) (by decide) (by decide) (by decide) p9.rq p9 v81_9 (by decide) (fun M10 w10 s10 => ?_)
  have p10 : Rv M10 82 (pw x 1048575) 1 := by rw [pw_m] at w10; exact w10
  have vz_10 := vz_9.st s10 h_z_82
  have v81_10 := v81_9.st s10 (by decide)
  have rto_10 := rto_9.st s10 h_to_82
  have r83_10 := r83_9.st s10 (by decide)
  have o78_10 := (s10 78 (by decide)).trans o78_9
  refine T_aload_n (v := .ref 78) d_Fi_raise_130 rfl (Or.inr ⟨_, rfl⟩) ?_
  refine T_getfield d_Fi_raise_131 fg_Fi_22 o78_10 rfl ?_
  refine T_aload_n (v := .ref 78) d_Fi_raise_134 rfl (Or.inr ⟨_, rfl⟩) ?_
  refine T_getfield d_Fi_raise_135 fg_Fi_19 o78_10 rfl ?_
  refine T_bipush (v := nI 20) d_Fi_raise_138 (by decide) ?_
  refine T_vsq (k := 20) d_Fi_raise_140 (jw_Fi_square.jo (by decide)) lm_Fi_53 (by decide) (by decide) (by decide) (by decide) r83_10 p10 (by decide) (by decide) (by decide) (fun M11 w11 s11 => ?_)
  have p11 : Rv M11 83 (pw x 1099510579200) 1 := by rw [pw_s] at w11; exact w11
  have vz_11 := vz_10.st s11 h_z_83
  have v81_11 := v81_10.st s11 (by decide)
  have v82_11 := p10.st s11 (by decide)
  have rto_11 := rto_10.st s11 h_to_83
  have o78_11 := (s11 78 (by decide)).trans o78_10
  refine T_aload_n (v := .ref 78) d_Fi_raise_143 rfl (Or.inr ⟨_, rfl⟩) ?_
  refine T_getfield d_Fi_raise_144 fg_Fi_19 o78_11 rfl ?_
  refine T_aload_n (v := .ref 78) d_Fi_raise_147 rfl (Or.inr ⟨_, rfl⟩) ?_
  refine T_getfield d_Fi_raise_148 fg_Fi_22 o78_11 rfl ?_
  refine T_aload_n (v := .ref 78) d_Fi_raise_151 rfl (Or.inr ⟨_, rfl⟩) ?_
  refine T_getfield d_Fi_raise_152 fg_Fi_19 o78_11 rfl ?_
  refine T_vmul d_Fi_raise_155 (jw_Fi_multiply.jo (by decide)) lm_Fi_57 (by decide) (by decide) (by decide) (by decide) v82_11.rq p11 v82_11 (by decide) (fun M12 w12 s12 => ?_)
  have p12 : Rv M12 82 (pw x 1099511627775) 1 := by rw [pw_m] at w12; exact w12
  have vz_12 := vz_11.st s12 h_z_82
  have v81_12 := v81_11.st s12 (by decide)
  have v83_12 := p11.st s12 (by decide)
  have rto_12 := rto_11.st s12 h_to_82
  have o78_12 := (s12 78 (by decide)).trans o78_11
  refine T_aload_n (v := .ref 78) d_Fi_raise_158 rfl (Or.inr ⟨_, rfl⟩) ?_
  refine T_getfield d_Fi_raise_159 fg_Fi_19 o78_12 rfl ?_
  refine T_aload_n (v := .ref 78) d_Fi_raise_162 rfl (Or.inr ⟨_, rfl⟩) ?_
  refine T_getfield d_Fi_raise_163 fg_Fi_19 o78_12 rfl ?_
  refine T_bipush (v := nI 10) d_Fi_raise_166 (by decide) ?_
  refine T_vsq (k := 10) d_Fi_raise_168 (jw_Fi_square.jo (by decide)) lm_Fi_53 (by decide) (by decide) (by decide) (by decide) p12.rq p12 (by decide) (by decide) (by decide) (fun M13 w13 s13 => ?_)
  have p13 : Rv M13 82 (pw x 1125899906841600) 1 := by rw [pw_s] at w13; exact w13
  have vz_13 := vz_12.st s13 h_z_82
  have v81_13 := v81_12.st s13 (by decide)
  have v83_13 := v83_12.st s13 (by decide)
  have rto_13 := rto_12.st s13 h_to_82
  have o78_13 := (s13 78 (by decide)).trans o78_12
  refine T_aload_n (v := .ref 78) d_Fi_raise_171 rfl (Or.inr ⟨_, rfl⟩) ?_
  refine T_getfield d_Fi_raise_172 fg_Fi_16 o78_13 rfl ?_
  refine T_aload_n (v := .ref 78) d_Fi_raise_175 rfl (Or.inr ⟨_, rfl⟩) ?_
  refine T_getfield d_Fi_raise_176 fg_Fi_19 o78_13 rfl ?_
  refine T_aload_n (v := .ref 78) d_Fi_raise_179 rfl (Or.inr ⟨_, rfl⟩) ?_
  refine T_getfield d_Fi_raise_180 fg_Fi_16 o78_13 rfl ?_
  refine T_vmul d_Fi_raise_183 (jw_Fi_multiply.jo (by decide)) lm_Fi_57 (by decide) (by decide) (by decide) (by decide) v81_13.rq p13 v81_13 (by decide) (fun M14 w14 s14 => ?_)
  have p14 : Rv M14 81 (pw x 1125899906842623) 1 := by rw [pw_m] at w14; exact w14
  have vz_14 := vz_13.st s14 h_z_81
  have v82_14 := p13.st s14 (by decide)
  have v83_14 := v83_13.st s14 (by decide)
  have rto_14 := rto_13.st s14 h_to_81
  have o78_14 := (s14 78 (by decide)).trans o78_13
  refine T_aload_n (v := .ref 78) d_Fi_raise_186 rfl (Or.inr ⟨_, rfl⟩) ?_
  refine T_getfield d_Fi_raise_187 fg_Fi_19 o78_14 rfl ?_
  refine T_aload_n (v := .ref 78) d_Fi_raise_190 rfl (Or.inr ⟨_, rfl⟩) ?_
  refine T_getfield d_Fi_raise_191 fg_Fi_16 o78_14 rfl ?_
  refine T_bipush (v := nI 50) d_Fi_raise_194 (by decide) ?_
  refine T_vsq (k := 50) d_Fi_raise_196 (jw_Fi_square.jo (by decide)) lm_Fi_53 (by decide) (by decide) (by decide) (by decide) v82_14.rq p14 (by decide) (by decide) (by decide) (fun M15 w15 s15 => ?_)
  have p15 : Rv M15 82 (pw x 1267650600228228275596796362752) 1 := by rw [pw_s] at w15; exact w15
  have vz_15 := vz_14.st s15 h_z_82
  have v81_15 := p14.st s15 (by decide)
  have v83_15 := v83_14.st s15 (by decide)
  have rto_15 := rto_14.st s15 h_to_82
  have o78_15 := (s15 78 (by decide)).trans o78_14
  refine T_aload_n (v := .ref 78) d_Fi_raise_199 rfl (Or.inr ⟨_, rfl⟩) ?_
  refine T_getfield d_Fi_raise_200 fg_Fi_19 o78_15 rfl ?_
  refine T_aload_n (v := .ref 78) d_Fi_raise_203 rfl (Or.inr ⟨_, rfl⟩) ?_
  refine T_getfield d_Fi_raise_204 fg_Fi_19 o78_15 rfl ?_
  refine T_aload_n (v := .ref 78) d_Fi_raise_207 rfl (Or.inr ⟨_, rfl⟩) ?_
  refine T_getfield d_Fi_raise_208 fg_Fi_16 o78_15 rfl ?_
  refine T_vmul d_Fi_raise_211 (jw_Fi_multiply.jo (by decide)) lm_Fi_57 (by decide) (by decide) (by decide) (by decide) p15.rq p15 v81_15 (by decide) (fun M16 w16 s16 => ?_)
  have p16 : Rv M16 82 (pw x 1267650600228229401496703205375) 1 := by rw [pw_m] at w16; exact w16
  have vz_16 := vz_15.st s16 h_z_82
  have v81_16 := v81_15.st s16 (by decide)
  have v83_16 := v83_15.st s16 (by decide)
  have rto_16 := rto_15.st s16 h_to_82
  have o78_16 := (s16 78 (by decide)).trans o78_15
  refine T_aload_n (v := .ref 78) d_Fi_raise_214 rfl (Or.inr ⟨_, rfl⟩) ?_
  refine T_getfield d_Fi_raise_215 fg_Fi_22 o78_16 rfl ?_
  refine T_aload_n (v := .ref 78) d_Fi_raise_218 rfl (Or.inr ⟨_, rfl⟩) ?_
  refine T_getfield d_Fi_raise_219 fg_Fi_19 o78_16 rfl ?_
  refine T_bipush (v := nI 100) d_Fi_raise_222 (by decide) ?_
  refine T_vsq (k := 100) d_Fi_raise_224 (jw_Fi_square.jo (by decide)) lm_Fi_53 (by decide) (by decide) (by decide) (by decide) v83_16.rq p16 (by decide) (by decide) (by decide) (fun M17 w17 s17 => ?_)
  have p17 : Rv M17 83 (pw x 1606938044258990275541962092339894951921974764381296132096000) 1 := by rw [pw_s] at w17; exact w17
  have vz_17 := vz_16.st s17 h_z_83
  have v81_17 := v81_16.st s17 (by decide)
  have v82_17 := p16.st s17 (by decide)
  have rto_17 := rto_16.st s17 h_to_83
  have o78_17 := (s17 78 (by decide)).trans o78_16
  refine T_aload_n (v := .ref 78) d_Fi_raise_227 rfl (Or.inr ⟨_, rfl⟩) ?_
  refine T_getfield d_Fi_raise_228 fg_Fi_19 o78_17 rfl ?_
  refine T_aload_n (v := .ref 78) d_Fi_raise_231 rfl (Or.inr ⟨_, rfl⟩) ?_
  refine T_getfield d_Fi_raise_232 fg_Fi_22 o78_17 rfl ?_
  refine T_aload_n (v := .ref 78) d_Fi_raise_235 rfl (Or.inr ⟨_, rfl⟩) ?_
  refine T_getfield d_Fi_raise_236 fg_Fi_19 o78_17 rfl ?_
  refine T_vmul d_Fi_raise_239 (jw_Fi_multiply.jo (by decide)) lm_Fi_57 (by decide) (by decide) (by decide) (by decide) v82_17.rq p17 v82_17 (by decide) (fun M18 w18 s18 => ?_)
  have p18 : Rv M18 82 (pw x 1606938044258990275541962092341162602522202993782792835301375) 1 := by rw [pw_m] at w18; exact w18
  have vz_18 := vz_17.st s18 h_z_82
  have v81_18 := v81_17.st s18 (by decide)
  have v83_18 := p17.st s18 (by decide)
  have rto_18 := rto_17.st s18 h_to_82
  have o78_18 := (s18 78 (by decide)).trans o78_17
  refine T_aload_n (v := .ref 78) d_Fi_raise_242 rfl (Or.inr ⟨_, rfl⟩) ?_
  refine T_getfield d_Fi_raise_243 fg_Fi_19 o78_18 rfl ?_
  refine T_aload_n (v := .ref 78) d_Fi_raise_246 rfl (Or.inr ⟨_, rfl⟩) ?_
  refine T_getfield d_Fi_raise_247 fg_Fi_19 o78_18 rfl ?_
  refine T_bipush (v := nI 50) d_Fi_raise_250 (by decide) ?_
  refine T_vsq (k := 50) d_Fi_raise_252 (jw_Fi_square.jo (by decide)) lm_Fi_53 (by decide) (by decide) (by decide) (by decide) p18.rq p18 (by decide) (by decide) (by decide) (fun M19 w19 s19 => ?_)
  have p19 : Rv M19 82 (pw x 1809251394333065553493296640760748560207343510400633813116523624223735808000) 1 := by rw [pw_s] at w19; exact w19
  have vz_19 := vz_18.st s19 h_z_82
  have v81_19 := v81_18.st s19 (by decide)
  have v83_19 := v83_18.st s19 (by decide)
  have rto_19 := rto_18.st s19 h_to_82
  have o78_19 := (s19 78 (by decide)).trans o78_18
  refine T_aload_n (v := .ref 78) d_Fi_raise_255 rfl (Or.inr ⟨_, rfl⟩) ?_
  refine T_getfield d_Fi_raise_256 fg_Fi_16 o78_19 rfl ?_
  refine T_aload_n (v := .ref 78) d_Fi_raise_259 rfl (Or.inr ⟨_, rfl⟩) ?_
  refine T_getfield d_Fi_raise_260 fg_Fi_19 o78_19 rfl ?_
  refine T_aload_n (v := .ref 78) d_Fi_raise_263 rfl (Or.inr ⟨_, rfl⟩) ?_
  refine T_getfield d_Fi_raise_264 fg_Fi_16 o78_19 rfl ?_
  refine T_vmul d_Fi_raise_267 (jw_Fi_multiply.jo (by decide)) lm_Fi_57 (by decide) (by decide) (by decide) (by decide) v81_19.rq p19 v81_19 (by decide) (fun M20 w20 s20 => ?_)
  have p20 : Rv M20 81 (pw x 1809251394333065553493296640760748560207343510400633813116524750123642650623) 1 := by rw [pw_m] at w20; exact w20
  have vz_20 := vz_19.st s20 h_z_81
  have v82_20 := p19.st s20 (by decide)
  have v83_20 := v83_19.st s20 (by decide)
  have rto_20 := rto_19.st s20 h_to_81
  have o78_20 := (s20 78 (by decide)).trans o78_19
  refine T_aload_n (v := .ref 78) d_Fi_raise_270 rfl (Or.inr ⟨_, rfl⟩) ?_
  refine T_getfield d_Fi_raise_271 fg_Fi_16 o78_20 rfl ?_
  refine T_aload_n (v := .ref 78) d_Fi_raise_274 rfl (Or.inr ⟨_, rfl⟩) ?_
  refine T_getfield d_Fi_raise_275 fg_Fi_16 o78_20 rfl ?_
  refine T_iconst (v := nI 2) d_Fi_raise_278 (by decide) ?_
  refine T_vsq (k := 2) d_Fi_raise_279 (jw_Fi_square.jo (by decide)) lm_Fi_53 (by decide) (by decide) (by decide) (by decide) p20.rq p20 (by decide) (by decide) (by decide) (fun M21 w21 s21 => ?_)
  have p21 : Rv M21 81 (pw x 7237005577332262213973186563042994240829374041602535252466099000494570602492) 1 := by rw [pw_s] at w21; exact w21
  have vz_21 := vz_20.st s21 h_z_81
  have v82_21 := v82_20.st s21 (by decide)
  have v83_21 := v83_20.st s21 (by decide)
  have rto_21 := rto_20.st s21 h_to_81
  have o78_21 := (s21 78 (by decide)).trans o78_20
  refine T_aload_n (v := .ref to) d_Fi_raise_282 rfl (Or.inr ⟨_, rfl⟩) ?_
  refine T_aload_n (v := .ref 78) d_Fi_raise_283 rfl (Or.inr ⟨_, rfl⟩) ?_
  refine T_getfield d_Fi_raise_284 fg_Fi_16 o78_21 rfl ?_
  refine T_aload_n (v := .ref z) d_Fi_raise_287 rfl (Or.inr ⟨_, rfl⟩) ?_
  refine T_vmul d_Fi_raise_288 (jw_Fi_multiply.jo (by decide)) lm_Fi_57 (by decide) (by decide) (by decide) k_to rto_21 p21 vz_21 (by decide) (fun M22 w22 s22 => ?_)
  have p22 : Rv M22 to (pw x 7237005577332262213973186563042994240829374041602535252466099000494570602493) 1 := by rw [pw_m] at w22; exact w22
  have vz_22 := vz_21.st s22 h_z_to
  have v81_22 := p21.st s22 h_to_81.symm
  have v82_22 := v82_21.st s22 h_to_82.symm
  have v83_22 := v83_21.st s22 h_to_83.symm
  have o78_22 := (s22 78 h_to_78.symm).trans o78_21
  exact T_vret d_Fi_raise_291 rfl (by decide) (by decide) ⟨rfl, p22, (Kp.ex (Kp.ex (Kp.ex (Kp.ex (Kp.ex (Kp.ex (Kp.ex (Kp.ex (Kp.ex (Kp.ex (Kp.ex (Kp.ex (Kp.ex (Kp.ex (Kp.ex (Kp.ex (Kp.ex (Kp.ex (Kp.ex (Kp.ex (Kp.ex (Kp.ex Kp.rf s1 (by simp)) s2 (by simp)) s3 (by simp)) s4 (by simp)) s5 (by simp)) s6 (by simp)) s7 (by simp)) s8 (by simp)) s9 (by simp)) s10 (by simp)) s11 (by simp)) s12 (by simp)) s13 (by simp)) s14 (by simp)) s15 (by simp)) s16 (by simp)) s17 (by simp)) s18 (by simp)) s19 (by simp)) s20 (by simp)) s21 (by simp)) s22 (by simp)), v81_22.rq, v82_22.rq, v83_22.rq⟩
def cv_2 : Int := 19681161376707505956807079304988542015446066515923890162744021073123829784752
theorem vt_2 : V10 (fun j => tb_2.getD j 0) cv_2 1 := by
  refine ⟨⟨0, by decide⟩, fun i hi => ?_⟩
  have h10 : i = 0 ∨ i = 1 ∨ i = 2 ∨ i = 3 ∨ i = 4 ∨ i = 5 ∨ i = 6 ∨ i = 7 ∨ i = 8 ∨ i = 9 := by omega
  rcases h10 with rfl | rfl | rfl | rfl | rfl | rfl | rfl | rfl | rfl | rfl <;> decide
def cv_3 : Int := 1
theorem vt_3 : V10 (fun j => tb_3.getD j 0) cv_3 1 := by
  refine ⟨⟨0, by decide⟩, fun i hi => ?_⟩
  have h10 : i = 0 ∨ i = 1 ∨ i = 2 ∨ i = 3 ∨ i = 4 ∨ i = 5 ∨ i = 6 ∨ i = 7 ∨ i = 8 ∨ i = 9 := by omega
  rcases h10 with rfl | rfl | rfl | rfl | rfl | rfl | rfl | rfl | rfl | rfl <;> decide
def cv_5 : Int := 37095705934669439343138083508754565189542113879843219016388785533085940283555
theorem vt_5 : V10 (fun j => tb_5.getD j 0) cv_5 1 := by
  refine ⟨⟨0, by decide⟩, fun i hi => ?_⟩
  have h10 : i = 0 ∨ i = 1 ∨ i = 2 ∨ i = 3 ∨ i = 4 ∨ i = 5 ∨ i = 6 ∨ i = 7 ∨ i = 8 ∨ i = 9 := by omega
  rcases h10 with rfl | rfl | rfl | rfl | rfl | rfl | rfl | rfl | rfl | rfl <;> decide
def rtA (u w : Int) : Int := (pw ((((((w * w) * w) * ((w * w) * w)) * w)) * u) 7237005577332262213973186563042994240829374041602535252466099000494570602493 * ((w * w) * w)) * u
def rtC (u w : Int) : Int := (rtA u w * rtA u w) * w
def rtB (u w : Int) : Int := if (rtC u w + u) % pP = 0 ∨ (rtC u w + u * cv_2) % pP = 0 then rtA u w * cv_2 else rtA u w
def rt (u w : Int) : Int := if (rtB u w % pP) % 2 = 1 then -rtB u w else rtB u w
def rtG (u w : Int) : Nat := if (rtC u w - u) % pP = 0 ∨ (rtC u w + u) % pP = 0 then 1 else 0
section VR2
variable {G : GX} {mi : MI} {pc : Nat} {L : List (Nat × Value)} {rest : List Value} {M : List va_E} {kc ks : Nat} {Q : Option Value → List va_E → Prop} {idx f : Nat} {x : Int} {n : Nat}
theorem T_visz (hd : decode (mC mi) pc = .ok (.invokevirtual idx, 3)) (hj : JO mi mi_Fi_isZero 1) (hl : Cond.methodLink (mY mi).cls idx (mY mi_Fi_isZero) ∈ gtb) (hw : (rest.map fun v => v.category).sum ≤ 8) (hkc : kc ≤ (mRm mi).cells) (hks : ks ≤ (mRm mi).slots) (ho : M[78]? = some foO) (h79 : Rq M 79) (hf : Rv M f x n) (hn : n ≤ 100) (kk : ∀ M', Rq M' 79 → Ex 79 M M' → TT G mi (pc + 3) L (.int (nI (if x % pP = 0 then 1 else 0)) :: rest) M' kc ks Q) : TT G mi pc L (.ref f :: .ref 78 :: rest) M kc ks Q := by
  obtain ⟨F, f1, f2⟩ := hf; obtain ⟨W, w1⟩ := h79
  refine T_virtual (as := [.ref f]) (rest := rest) (b := 78) hd rfl hj hl ji_Fi_isZero js_Fi_isZero ho rfl rfl rfl hw hkc hks (x_Fi_isZero G ho w1 f1 f2 hn) (fun r M' hq => ?_)
  obtain ⟨rfl, W', rfl⟩ := hq
  exact kk _ ⟨W', List.getElem?_set_self (X_len w1)⟩ set_ex
theorem T_visodd (hd : decode (mC mi) pc = .ok (.invokevirtual idx, 3)) (hj : JO mi mi_Fi_isOdd 1) (hl : Cond.methodLink (mY mi).cls idx (mY mi_Fi_isOdd) ∈ gtb) (hw : (rest.map fun v => v.category).sum ≤ 8) (hkc : kc ≤ (mRm mi).cells) (hks : ks ≤ (mRm mi).slots) (ho : M[78]? = some foO) (h79 : Rq M 79) (hf : Rv M f x n) (hn : n ≤ 100) (kk : ∀ M', Rq M' 79 → Ex 79 M M' → TT G mi (pc + 3) L (.int (nI (if (x % pP) % 2 = 1 then 1 else 0)) :: rest) M' kc ks Q) : TT G mi pc L (.ref f :: .ref 78 :: rest) M kc ks Q := by
  obtain ⟨F, f1, f2⟩ := hf; obtain ⟨W, w1⟩ := h79
  refine T_virtual (as := [.ref f]) (rest := rest) (b := 78) hd rfl hj hl ji_Fi_isOdd js_Fi_isOdd ho rfl rfl rfl hw hkc hks (x_Fi_isOdd G ho w1 f1 f2 hn) (fun r M' hq => ?_)
  obtain ⟨rfl, W', rfl⟩ := hq
  exact kk _ ⟨W', List.getElem?_set_self (X_len w1)⟩ set_ex
end VR2
set_option maxHeartbeats 4000000 in
theorem v_Fi_root (G : GX) {M : List va_E} {r u w : Nat} {U V : Int} (ho : M[78]? = some foO) (h79 : Rq M 79) (h80 : Rq M 80) (h81 : Rq M 81) (h82 : Rq M 82) (h83 : Rq M 83) (h84 : Rq M 84) (h85 : Rq M 85) (hr : Rq M r) (hu : Rv M u U 1) (hw : Rv M w V 1) (k_r : K0 ≤ r) (h_r_2 : r ≠ 2) (h_r_78 : r ≠ 78) (h_r_79 : r ≠ 79) (h_r_80 : r ≠ 80) (h_r_81 : r ≠ 81) (h_r_82 : r ≠ 82) (h_r_83 : r ≠ 83) (h_r_84 : r ≠ 84) (h_r_85 : r ≠ 85) (h_u_r : u ≠ r) (h_u_79 : u ≠ 79) (h_u_80 : u ≠ 80) (h_u_81 : u ≠ 81) (h_u_82 : u ≠ 82) (h_u_83 : u ≠ 83) (h_u_84 : u ≠ 84) (h_u_85 : u ≠ 85) (h_w_r : w ≠ r) (h_w_79 : w ≠ 79) (h_w_80 : w ≠ 80) (h_w_81 : w ≠ 81) (h_w_82 : w ≠ 82) (h_w_83 : w ≠ 83) (h_w_84 : w ≠ 84) (h_w_85 : w ≠ 85) : CT G mi_Fi_root [.ref 78, .ref r, .ref u, .ref w] M (fun q M' => q = some (.int (nI (rtG U V))) ∧ Rv M' r (rt U V) 1 ∧ Kp [r, 79, 80, 81, 82, 83, 84, 85] M M' ∧ Rq M' 79 ∧ Rq M' 80 ∧ Rq M' 81 ∧ Rq M' 82 ∧ Rq M' 83 ∧ Rq M' 84 ∧ Rq M' 85) := by
  refine CT.of (by decide) (Nat.le_of_ble_eq_true rfl) ?_
  show TT G mi_Fi_root 0 [(0, .ref 78), (1, .ref r), (2, .ref u), (3, .ref w)] [] M 0 0 _
  refine T_know (fun hk => ?_)
  have h2 : Rv M 2 cv_2 1 := ⟨_, hk 2 (by decide), vt_2⟩
  clear hk
  refine T_aload_n (v := .ref 78) d_Fi_root_0 rfl (Or.inr ⟨_, rfl⟩) ?_
  refine T_getfield d_Fi_root_1 fg_Fi_25 ho rfl ?_
  refine T_aload_n (v := .ref w) d_Fi_root_4 rfl (Or.inr ⟨_, rfl⟩) ?_
  refine T_iconst (v := nI 1) d_Fi_root_5 (by decide) ?_
  refine T_vsq1 d_Fi_root_6 (jw_Fi_square.jo (by decide)) lm_Fi_53 (by decide) (by decide) (by decide) (by decide) h84 hw (by decide) (fun M1 w1 s1 => ?_)
  have vu_1 := hu.st s1 h_u_84
  have vw_1 := hw.st s1 h_w_84
  have v2_1 := h2.st s1 (by decide)
  have rr_1 := hr.st s1 h_r_84
  have r79_1 := h79.st s1 (by decide)
  have r80_1 := h80.st s1 (by decide)
  have r81_1 := h81.st s1 (by decide)
  have r82_1 := h82.st s1 (by decide)
  have r83_1 := h83.st s1 (by decide)
  have r85_1 := h85.st s1 (by decide)
  have o78_1 := (s1 78 (by decide)).trans ho
  refine T_aload_n (v := .ref 78) d_Fi_root_9 rfl (Or.inr ⟨_, rfl⟩) ?_
  refine T_getfield d_Fi_root_10 fg_Fi_25 o78_1 rfl ?_
  refine T_aload_n (v := .ref 78) d_Fi_root_13 rfl (Or.inr ⟨_, rfl⟩) ?_
  refine T_getfield d_Fi_root_14 fg_Fi_25 o78_1 rfl ?_
  refine T_aload_n (v := .ref w) d_Fi_root_17 rfl (Or.inr ⟨_, rfl⟩) ?_
  refine T_vmul d_Fi_root_18 (jw_Fi_multiply.jo (by decide)) lm_Fi_57 (by decide) (by decide) (by decide) (by decide) w1.rq w1 vw_1 (by decide) (fun M2 w2 s2 => ?_)
  have vu_2 := vu_1.st s2 h_u_84
  have vw_2 := vw_1.st s2 h_w_84
  have v2_2 := v2_1.st s2 (by decide)
  have rr_2 := rr_1.st s2 h_r_84
  have r79_2 := r79_1.st s2 (by decide)
  have r80_2 := r80_1.st s2 (by decide)
  have r81_2 := r81_1.st s2 (by decide)
  have r82_2 := r82_1.st s2 (by decide)
  have r83_2 := r83_1.st s2 (by decide)
  have r85_2 := r85_1.st s2 (by decide)
  have o78_2 := (s2 78 (by decide)).trans o78_1
  refine T_aload_n (v := .ref 78) d_Fi_root_21 rfl (Or.inr ⟨_, rfl⟩) ?_
  refine T_getfield d_Fi_root_22 fg_Fi_28 o78_2 rfl ?_
  refine T_aload_n (v := .ref 78) d_Fi_root_25 rfl (Or.inr ⟨_, rfl⟩) ?_
  refine T_getfield d_Fi_root_26 fg_Fi_25 o78_2 rfl ?_
  refine T_iconst (v := nI 1) d_Fi_root_29 (by decide) ?_
  refine T_vsq1 d_Fi_root_30 (jw_Fi_square.jo (by decide)) lm_Fi_53 (by decide) (by decide) (by decide) (by decide) r85_2 w2 (by decide) (fun M3 w3 s3 => ?_)
  have vu_3 := vu_2.st s3 h_u_85
  have vw_3 := vw_2.st s3 h_w_85
  have v2_3 := v2_2.st s3 (by decide)
  have v84_3 := w2.st s3 (by decide)
  have rr_3 := rr_2.st s3 h_r_85
  have r79_3 := r79_2.st s3 (by decide)
  have r80_3 := r80_2.st s3 (by decide)
  have r81_3 := r81_2.st s3 (by decide)
  have r82_3 := r82_2.st s3 (by decide)
  have r83_3 := r83_2.st s3 (by decide)
  have o78_3 := (s3 78 (by decide)).trans o78_2
  refine T_aload_n (v := .ref 78) d_Fi_root_33 rfl (Or.inr ⟨_, rfl⟩) ?_
  refine T_getfield d_Fi_root_34 fg_Fi_28 o78_3 rfl ?_
  refine T_aload_n (v := .ref 78) d_Fi_root_37 rfl (Or.inr ⟨_, rfl⟩) ?_
  refine T_getfield d_Fi_root_38 fg_Fi_28 o78_3 rfl ?_
  refine T_aload_n (v := .ref w) d_Fi_root_41 rfl (Or.inr ⟨_, rfl⟩) ?_
  refine T_vmul d_Fi_root_42 (jw_Fi_multiply.jo (by decide)) lm_Fi_57 (by decide) (by decide) (by decide) (by decide) w3.rq w3 vw_3 (by decide) (fun M4 w4 s4 => ?_)
  have vu_4 := vu_3.st s4 h_u_85
  have vw_4 := vw_3.st s4 h_w_85
  have v2_4 := v2_3.st s4 (by decide)
  have v84_4 := v84_3.st s4 (by decide)
  have rr_4 := rr_3.st s4 h_r_85
  have r79_4 := r79_3.st s4 (by decide)
  have r80_4 := r80_3.st s4 (by decide)
  have r81_4 := r81_3.st s4 (by decide)
  have r82_4 := r82_3.st s4 (by decide)
  have r83_4 := r83_3.st s4 (by decide)
  have o78_4 := (s4 78 (by decide)).trans o78_3
  refine T_aload_n (v := .ref 78) d_Fi_root_45 rfl (Or.inr ⟨_, rfl⟩) ?_
  refine T_getfield d_Fi_root_46 fg_Fi_28 o78_4 rfl ?_
  refine T_aload_n (v := .ref 78) d_Fi_root_49 rfl (Or.inr ⟨_, rfl⟩) ?_
  refine T_getfield d_Fi_root_50 fg_Fi_28 o78_4 rfl ?_
  refine T_aload_n (v := .ref u) d_Fi_root_53 rfl (Or.inr ⟨_, rfl⟩) ?_
  refine T_vmul d_Fi_root_54 (jw_Fi_multiply.jo (by decide)) lm_Fi_57 (by decide) (by decide) (by decide) (by decide) w4.rq w4 vu_4 (by decide) (fun M5 w5 s5 => ?_)
  have vu_5 := vu_4.st s5 h_u_85
  have vw_5 := vw_4.st s5 h_w_85
  have v2_5 := v2_4.st s5 (by decide)
  have v84_5 := v84_4.st s5 (by decide)
  have rr_5 := rr_4.st s5 h_r_85
  have r79_5 := r79_4.st s5 (by decide)
  have r80_5 := r80_4.st s5 (by decide)
  have r81_5 := r81_4.st s5 (by decide)
  have r82_5 := r82_4.st s5 (by decide)
  have r83_5 := r83_4.st s5 (by decide)
  have o78_5 := (s5 78 (by decide)).trans o78_4
  refine T_aload_n (v := .ref 78) d_Fi_root_57 rfl (Or.inr ⟨_, rfl⟩) ?_
  refine T_aload_n (v := .ref r) d_Fi_root_58 rfl (Or.inr ⟨_, rfl⟩) ?_
  refine T_aload_n (v := .ref 78) d_Fi_root_59 rfl (Or.inr ⟨_, rfl⟩) ?_
  refine T_getfield d_Fi_root_60 fg_Fi_28 o78_5 rfl ?_
  refine T_virtual (as := [.ref r, .ref 85]) (rest := []) (b := 78) d_Fi_root_63 rfl (jw_Fi_raise.jo (by decide)) lm_Fi_61 ji_Fi_raise js_Fi_raise o78_5 rfl rfl rfl (Nat.le_of_ble_eq_true rfl) (by decide) (by decide) (v_Fi_raise G o78_5 r81_5 r82_5 r83_5 rr_5 w5 k_r h_r_78 h_r_81 h_r_82 h_r_83 h_r_85.symm (by decide) (by decide) (by decide)) (fun r0 M6 hq => ?_)
  obtain ⟨rfl, w6, s6, r81_6, r82_6, r83_6⟩ := hq
  have vu_6 := vu_5.kp s6 (by simp [h_u_r, h_u_81, h_u_82, h_u_83])
  have vw_6 := vw_5.kp s6 (by simp [h_w_r, h_w_81, h_w_82, h_w_83])
  have v2_6 := v2_5.kp s6 (by simp [Ne.symm h_r_2])
  have v84_6 := v84_5.kp s6 (by simp [Ne.symm h_r_84])
  have v85_6 := w5.kp s6 (by simp [Ne.symm h_r_85])
  have r79_6 := r79_5.kp s6 (by simp [Ne.symm h_r_79])
  have r80_6 := r80_5.kp s6 (by simp [Ne.symm h_r_80])
  have o78_6 := (s6 78 (by simp [Ne.symm h_r_78])).trans o78_5
  refine T_eq (pc' := 66) (L' := [(0, .ref 78), (1, .ref r), (2, .ref u), (3, .ref w)]) (st' := []) (M' := M6) rfl rfl rfl rfl ?_
  refine T_aload_n (v := .ref r) d_Fi_root_66 rfl (Or.inr ⟨_, rfl⟩) ?_
  refine T_aload_n (v := .ref r) d_Fi_root_67 rfl (Or.inr ⟨_, rfl⟩) ?_
  refine T_aload_n (v := .ref 78) d_Fi_root_68 rfl (Or.inr ⟨_, rfl⟩) ?_
  refine T_getfield d_Fi_root_69 fg_Fi_25 o78_6 rfl ?_
  refine T_vmul d_Fi_root_72 (jw_Fi_multiply.jo (by decide)) lm_Fi_57 (by decide) (by decide) (by decide) k_r w6.rq w6 v84_6 (by decide) (fun M7 w7 s7 => ?_)
  have vu_7 := vu_6.st s7 h_u_r
  have vw_7 := vw_6.st s7 h_w_r
  have v2_7 := v2_6.st s7 h_r_2.symm
  have v84_7 := v84_6.st s7 h_r_84.symm
  have v85_7 := v85_6.st s7 h_r_85.symm
  have r79_7 := r79_6.st s7 h_r_79.symm
  have r80_7 := r80_6.st s7 h_r_80.symm
  have r81_7 := r81_6.st s7 h_r_81.symm
  have r82_7 := r82_6.st s7 h_r_82.symm
  have r83_7 := r83_6.st s7 h_r_83.symm
  have o78_7 := (s7 78 h_r_78.symm).trans o78_6
  refine T_aload_n (v := .ref r) d_Fi_root_75 rfl (Or.inr ⟨_, rfl⟩) ?_
  refine T_aload_n (v := .ref r) d_Fi_root_76 rfl (Or.inr ⟨_, rfl⟩) ?_
  refine T_aload_n (v := .ref u) d_Fi_root_77 rfl (Or.inr ⟨_, rfl⟩) ?_
  refine T_vmul d_Fi_root_78 (jw_Fi_multiply.jo (by decide)) lm_Fi_57 (by decide) (by decide) (by decide) k_r w7.rq w7 vu_7 (by decide) (fun M8 w8 s8 => ?_)
  have vu_8 := vu_7.st s8 h_u_r
  have vw_8 := vw_7.st s8 h_w_r
  have v2_8 := v2_7.st s8 h_r_2.symm
  have v84_8 := v84_7.st s8 h_r_84.symm
  have v85_8 := v85_7.st s8 h_r_85.symm
  have r79_8 := r79_7.st s8 h_r_79.symm
  have r80_8 := r80_7.st s8 h_r_80.symm
  have r81_8 := r81_7.st s8 h_r_81.symm
  have r82_8 := r82_7.st s8 h_r_82.symm
  have r83_8 := r83_7.st s8 h_r_83.symm
  have o78_8 := (s8 78 h_r_78.symm).trans o78_7
  have x8 : Rv M8 r (rtA U V) 1 := w8
  refine T_aload_n (v := .ref 78) d_Fi_root_81 rfl (Or.inr ⟨_, rfl⟩) ?_
  refine T_getfield d_Fi_root_82 fg_Fi_25 o78_8 rfl ?_
  refine T_aload_n (v := .ref r) d_Fi_root_85 rfl (Or.inr ⟨_, rfl⟩) ?_
  refine T_iconst (v := nI 1) d_Fi_root_86 (by decide) ?_
  refine T_vsq1 d_Fi_root_87 (jw_Fi_square.jo (by decide)) lm_Fi_53 (by decide) (by decide) (by decide) (by decide) v84_8.rq x8 (by decide) (fun M9 w9 s9 => ?_)
  have vu_9 := vu_8.st s9 h_u_84
  have vw_9 := vw_8.st s9 h_w_84
  have v2_9 := v2_8.st s9 (by decide)
  have v85_9 := v85_8.st s9 (by decide)
  have vr_9 := x8.st s9 h_r_84
  have r79_9 := r79_8.st s9 (by decide)
  have r80_9 := r80_8.st s9 (by decide)
  have r81_9 := r81_8.st s9 (by decide)
  have r82_9 := r82_8.st s9 (by decide)
  have r83_9 := r83_8.st s9 (by decide)
  have o78_9 := (s9 78 (by decide)).trans o78_8
  refine T_aload_n (v := .ref 78) d_Fi_root_90 rfl (Or.inr ⟨_, rfl⟩) ?_
  refine T_getfield d_Fi_root_91 fg_Fi_25 o78_9 rfl ?_
  refine T_aload_n (v := .ref 78) d_Fi_root_94 rfl (Or.inr ⟨_, rfl⟩) ?_
  refine T_getfield d_Fi_root_95 fg_Fi_25 o78_9 rfl ?_
  refine T_aload_n (v := .ref w) d_Fi_root_98 rfl (Or.inr ⟨_, rfl⟩) ?_
  refine T_vmul d_Fi_root_99 (jw_Fi_multiply.jo (by decide)) lm_Fi_57 (by decide) (by decide) (by decide) (by decide) w9.rq w9 vw_9 (by decide) (fun M10 w10 s10 => ?_)
  have vu_10 := vu_9.st s10 h_u_84
  have vw_10 := vw_9.st s10 h_w_84
  have v2_10 := v2_9.st s10 (by decide)
  have v85_10 := v85_9.st s10 (by decide)
  have vr_10 := vr_9.st s10 h_r_84
  have r79_10 := r79_9.st s10 (by decide)
  have r80_10 := r80_9.st s10 (by decide)
  have r81_10 := r81_9.st s10 (by decide)
  have r82_10 := r82_9.st s10 (by decide)
  have r83_10 := r83_9.st s10 (by decide)
  have o78_10 := (s10 78 (by decide)).trans o78_9
  have x10 : Rv M10 84 (rtC U V) 1 := w10
  refine T_aload_n (v := .ref 78) d_Fi_root_102 rfl (Or.inr ⟨_, rfl⟩) ?_
  refine T_getfield d_Fi_root_103 fg_Fi_13 o78_10 rfl ?_
  refine T_aload_n (v := .ref 78) d_Fi_root_106 rfl (Or.inr ⟨_, rfl⟩) ?_
  refine T_getfield d_Fi_root_107 fg_Fi_25 o78_10 rfl ?_
  refine T_aload_n (v := .ref u) d_Fi_root_110 rfl (Or.inr ⟨_, rfl⟩) ?_
  refine T_vsub d_Fi_root_111 (jw_Fi_subtract.jo (by decide)) lm_Fi_65 (by decide) (by decide) (by decide) (by decide) r80_10 x10 vu_10 (by decide) (fun M11 w11 s11 => ?_)
  have vu_11 := vu_10.st s11 h_u_80
  have vw_11 := vw_10.st s11 h_w_80
  have v2_11 := v2_10.st s11 (by decide)
  have v84_11 := x10.st s11 (by decide)
  have v85_11 := v85_10.st s11 (by decide)
  have vr_11 := vr_10.st s11 h_r_80
  have r79_11 := r79_10.st s11 (by decide)
  have r81_11 := r81_10.st s11 (by decide)
  have r82_11 := r82_10.st s11 (by decide)
  have r83_11 := r83_10.st s11 (by decide)
  have o78_11 := (s11 78 (by decide)).trans o78_10
  refine T_aload_n (v := .ref 78) d_Fi_root_114 rfl (Or.inr ⟨_, rfl⟩) ?_
  refine T_aload_n (v := .ref 78) d_Fi_root_115 rfl (Or.inr ⟨_, rfl⟩) ?_
  refine T_getfield d_Fi_root_116 fg_Fi_13 o78_11 rfl ?_
  refine T_visz d_Fi_root_119 (jw_Fi_isZero.jo (by decide)) lm_Fi_68 (by decide) (by decide) (by decide) o78_11 r79_11 w11 (by decide) (fun M12 w12 s12 => ?_)
  have vu_12 := vu_11.st s12 h_u_79
  have vw_12 := vw_11.st s12 h_w_79
  have v2_12 := v2_11.st s12 (by decide)
  have v84_12 := v84_11.st s12 (by decide)
  have v85_12 := v85_11.st s12 (by decide)
  have vr_12 := vr_11.st s12 h_r_79
  have v80_12 := w11.st s12 (by decide)
  have r81_12 := r81_11.st s12 (by decide)
  have r82_12 := r82_11.st s12 (by decide)
  have r83_12 := r83_11.st s12 (by decide)
  have o78_12 := (s12 78 (by decide)).trans o78_11
  by_cases h12 : ((rtC U V) - U) % pP = 0
  · rw [if_pos h12]
    refine T_eq (pc' := 122) (L' := [(0, .ref 78), (1, .ref r), (2, .ref u), (3, .ref w)]) (st' := [.int (nI 1)]) (M' := M12) rfl rfl rfl rfl ?_
    refine T_istore (L' := [(4, .int (nI 1)), (0, .ref 78), (1, .ref r), (2, .ref u), (3, .ref w)]) d_Fi_root_122 (by decide) rfl ?_
    refine T_aload_n (v := .ref 78) d_Fi_root_124 rfl (Or.inr ⟨_, rfl⟩) ?_
    refine T_getfield d_Fi_root_125 fg_Fi_13 o78_12 rfl ?_
    refine T_aload_n (v := .ref 78) d_Fi_root_128 rfl (Or.inr ⟨_, rfl⟩) ?_
    refine T_getfield d_Fi_root_129 fg_Fi_25 o78_12 rfl ?_
    refine T_aload_n (v := .ref u) d_Fi_root_132 rfl (Or.inr ⟨_, rfl⟩) ?_
    refine T_vadd d_Fi_root_133 (jw_Fi_add.jo (by decide)) lm_Fi_72 (by decide) (by decide) (by decide) (by decide) v80_12.rq v84_12 vu_12 (by decide) (fun M13 w13 s13 => ?_)
    have vu_13 := vu_12.st s13 h_u_80
    have vw_13 := vw_12.st s13 h_w_80
    have v2_13 := v2_12.st s13 (by decide)
    have v84_13 := v84_12.st s13 (by decide)
    have v85_13 := v85_12.st s13 (by decide)
    have vr_13 := vr_12.st s13 h_r_80
    have r79_13 := w12.st s13 (by decide)
    have r81_13 := r81_12.st s13 (by decide)
    have r82_13 := r82_12.st s13 (by decide)
    have r83_13 := r83_12.st s13 (by decide)
    have o78_13 := (s13 78 (by decide)).trans o78_12
    refine T_aload_n (v := .ref 78) d_Fi_root_136 rfl (Or.inr ⟨_, rfl⟩) ?_
    refine T_aload_n (v := .ref 78) d_Fi_root_137 rfl (Or.inr ⟨_, rfl⟩) ?_
    refine T_getfield d_Fi_root_138 fg_Fi_13 o78_13 rfl ?_
    refine T_visz d_Fi_root_141 (jw_Fi_isZero.jo (by decide)) lm_Fi_68 (by decide) (by decide) (by decide) o78_13 r79_13 w13 (by decide) (fun M14 w14 s14 => ?_)
    have vu_14 := vu_13.st s14 h_u_79
    have vw_14 := vw_13.st s14 h_w_79
    have v2_14 := v2_13.st s14 (by decide)
    have v84_14 := v84_13.st s14 (by decide)
    have v85_14 := v85_13.st s14 (by decide)
    have vr_14 := vr_13.st s14 h_r_79
    have v80_14 := w13.st s14 (by decide)
    have r81_14 := r81_13.st s14 (by decide)
    have r82_14 := r82_13.st s14 (by decide)
    have r83_14 := r83_13.st s14 (by decide)
    have o78_14 := (s14 78 (by decide)).trans o78_13
    by_cases h14 : ((rtC U V) + U) % pP = 0
    · rw [if_pos h14]
      refine T_eq (pc' := 144) (L' := [(4, .int (nI 1)), (0, .ref 78), (1, .ref r), (2, .ref u), (3, .ref w)]) (st' := [.int (nI 1)]) (M' := M14) rfl rfl rfl rfl ?_
      refine T_istore (L' := [(5, .int (nI 1)), (4, .int (nI 1)), (0, .ref 78), (1, .ref r), (2, .ref u), (3, .ref w)]) d_Fi_root_144 (by decide) rfl ?_
      refine T_aload_n (v := .ref 78) d_Fi_root_146 rfl (Or.inr ⟨_, rfl⟩) ?_
      refine T_getfield d_Fi_root_147 fg_Fi_13 o78_14 rfl ?_
      refine T_aload_n (v := .ref u) d_Fi_root_150 rfl (Or.inr ⟨_, rfl⟩) ?_
      refine T_getstatic (q := ("PasswordGate$Field", "I", "[J", .ref 2)) d_Fi_root_151 (List.mem_of_getElem? (i := 2) rfl) gs_Fi_75 (show 2 < K0 by decide) ?_
      refine T_vmul d_Fi_root_154 (jw_Fi_multiply.jo (by decide)) lm_Fi_57 (by decide) (by decide) (by decide) (by decide) v80_14.rq vu_14 v2_14 (by decide) (fun M15 w15 s15 => ?_)
      have vu_15 := vu_14.st s15 h_u_80
      have vw_15 := vw_14.st s15 h_w_80
      have v2_15 := v2_14.st s15 (by decide)
      have v84_15 := v84_14.st s15 (by decide)
      have v85_15 := v85_14.st s15 (by decide)
      have vr_15 := vr_14.st s15 h_r_80
      have r79_15 := w14.st s15 (by decide)
      have r81_15 := r81_14.st s15 (by decide)
      have r82_15 := r82_14.st s15 (by decide)
      have r83_15 := r83_14.st s15 (by decide)
      have o78_15 := (s15 78 (by decide)).trans o78_14
      refine T_aload_n (v := .ref 78) d_Fi_root_157 rfl (Or.inr ⟨_, rfl⟩) ?_
      refine T_getfield d_Fi_root_158 fg_Fi_13 o78_15 rfl ?_
      refine T_aload_n (v := .ref 78) d_Fi_root_161 rfl (Or.inr ⟨_, rfl⟩) ?_
      refine T_getfield d_Fi_root_162 fg_Fi_25 o78_15 rfl ?_
      refine T_aload_n (v := .ref 78) d_Fi_root_165 rfl (Or.inr ⟨_, rfl⟩) ?_
      refine T_getfield d_Fi_root_166 fg_Fi_13 o78_15 rfl ?_
      refine T_vadd d_Fi_root_169 (jw_Fi_add.jo (by decide)) lm_Fi_72 (by decide) (by decide) (by decide) (by decide) w15.rq v84_15 w15 (by decide) (fun M16 w16 s16 => ?_)
      have vu_16 := vu_15.st s16 h_u_80
      have vw_16 := vw_15.st s16 h_w_80
      have v2_16 := v2_15.st s16 (by decide)
      have v84_16 := v84_15.st s16 (by decide)
      have v85_16 := v85_15.st s16 (by decide)
      have vr_16 := vr_15.st s16 h_r_80
      have r79_16 := r79_15.st s16 (by decide)
      have r81_16 := r81_15.st s16 (by decide)
      have r82_16 := r82_15.st s16 (by decide)
      have r83_16 := r83_15.st s16 (by decide)
      have o78_16 := (s16 78 (by decide)).trans o78_15
      refine T_iload d_Fi_root_172 rfl ?_
      refine T_if_ne d_Fi_root_174 (tgt := 188) rfl (fun _ => ?_) (fun c => absurd c (by decide))
      refine T_aload_n (v := .ref r) d_Fi_root_188 rfl (Or.inr ⟨_, rfl⟩) ?_
      refine T_aload_n (v := .ref r) d_Fi_root_189 rfl (Or.inr ⟨_, rfl⟩) ?_
      refine T_getstatic (q := ("PasswordGate$Field", "I", "[J", .ref 2)) d_Fi_root_190 (List.mem_of_getElem? (i := 2) rfl) gs_Fi_75 (show 2 < K0 by decide) ?_
      refine T_vmul d_Fi_root_193 (jw_Fi_multiply.jo (by decide)) lm_Fi_57 (by decide) (by decide) (by decide) k_r vr_16.rq vr_16 v2_16 (by decide) (fun M17 w17 s17 => ?_)
      have vu_17 := vu_16.st s17 h_u_r
      have vw_17 := vw_16.st s17 h_w_r
      have v2_17 := v2_16.st s17 h_r_2.symm
      have v84_17 := v84_16.st s17 h_r_84.symm
      have v85_17 := v85_16.st s17 h_r_85.symm
      have v80_17 := w16.st s17 h_r_80.symm
      have r79_17 := r79_16.st s17 h_r_79.symm
      have r81_17 := r81_16.st s17 h_r_81.symm
      have r82_17 := r82_16.st s17 h_r_82.symm
      have r83_17 := r83_16.st s17 h_r_83.symm
      have o78_17 := (s17 78 h_r_78.symm).trans o78_16
      refine T_aload_n (v := .ref 78) d_Fi_root_196 rfl (Or.inr ⟨_, rfl⟩) ?_
      refine T_aload_n (v := .ref r) d_Fi_root_197 rfl (Or.inr ⟨_, rfl⟩) ?_
      refine T_visodd d_Fi_root_198 (jw_Fi_isOdd.jo (by decide)) lm_Fi_78 (by decide) (by decide) (by decide) o78_17 r79_17 w17 (by decide) (fun M18 w18 s18 => ?_)
      have vu_18 := vu_17.st s18 h_u_79
      have vw_18 := vw_17.st s18 h_w_79
      have v2_18 := v2_17.st s18 (by decide)
      have v84_18 := v84_17.st s18 (by decide)
      have v85_18 := v85_17.st s18 (by decide)
      have vr_18 := w17.st s18 h_r_79
      have v80_18 := v80_17.st s18 (by decide)
      have r81_18 := r81_17.st s18 (by decide)
      have r82_18 := r82_17.st s18 (by decide)
      have r83_18 := r83_17.st s18 (by decide)
      have o78_18 := (s18 78 (by decide)).trans o78_17
      by_cases h18 : (((rtA U V) * cv_2) % pP) % 2 = 1
      · rw [if_pos h18]
        refine T_eq (pc' := 201) (L' := [(5, .int (nI 1)), (4, .int (nI 1)), (0, .ref 78), (1, .ref r), (2, .ref u), (3, .ref w)]) (st' := [.int (nI 1)]) (M' := M18) rfl rfl rfl rfl ?_
        refine T_if_eq d_Fi_root_201 (tgt := 209) rfl (fun c => absurd c (by decide)) (fun _ => ?_)
        refine T_aload_n (v := .ref r) d_Fi_root_204 rfl (Or.inr ⟨_, rfl⟩) ?_
        refine T_aload_n (v := .ref r) d_Fi_root_205 rfl (Or.inr ⟨_, rfl⟩) ?_
        refine T_vneg d_Fi_root_206 (jw_Fi_negate.jo (by decide)) lm_Fi_81 (by decide) (by decide) (by decide) k_r vr_18.rq vr_18 (by decide) (fun M19 w19 s19 => ?_)
        have vu_19 := vu_18.st s19 h_u_r
        have vw_19 := vw_18.st s19 h_w_r
        have v2_19 := v2_18.st s19 h_r_2.symm
        have v84_19 := v84_18.st s19 h_r_84.symm
        have v85_19 := v85_18.st s19 h_r_85.symm
        have v80_19 := v80_18.st s19 h_r_80.symm
        have r79_19 := w18.st s19 h_r_79.symm
        have r81_19 := r81_18.st s19 h_r_81.symm
        have r82_19 := r82_18.st s19 h_r_82.symm
        have r83_19 := r83_18.st s19 h_r_83.symm
        have o78_19 := (s19 78 h_r_78.symm).trans o78_18
        refine T_iload d_Fi_root_209 rfl ?_
        refine T_if_ne d_Fi_root_211 (tgt := 219) rfl (fun _ => ?_) (fun c => absurd c (by decide))
        refine T_iconst (v := nI 1) d_Fi_root_219 (by decide) ?_
        refine T_goto (tgt := 224) d_Fi_root_220 rfl ?_
        refine T_ret d_Fi_root_224 rfl (by decide) (by decide) (by decide) ⟨?_, ?_, ?_, r79_19, v80_19.rq, r81_19, r82_19, r83_19, v84_19.rq, v85_19.rq⟩
        · unfold rtG; rw [if_pos (Or.inl h12)]
        · have hB : rtB U V = rtA U V * cv_2 := by unfold rtB; exact if_pos (Or.inl h14)
          unfold rt; rw [hB, if_pos h18]; exact w19
        · exact (Kp.ex (Kp.ex (Kp.ex (Kp.ex (Kp.ex (Kp.ex (Kp.ex (Kp.ex (Kp.ex (Kp.ex (Kp.ex (Kp.ex (Kp.ex (Kp.tr (Kp.ex (Kp.ex (Kp.ex (Kp.ex (Kp.ex Kp.rf s1 (by simp)) s2 (by simp)) s3 (by simp)) s4 (by simp)) s5 (by simp)) (Kp.mono s6 (by simp))) s7 (by simp)) s8 (by simp)) s9 (by simp)) s10 (by simp)) s11 (by simp)) s12 (by simp)) s13 (by simp)) s14 (by simp)) s15 (by simp)) s16 (by simp)) s17 (by simp)) s18 (by simp)) s19 (by simp))
      · rw [if_neg h18]
        refine T_eq (pc' := 201) (L' := [(5, .int (nI 1)), (4, .int (nI 1)), (0, .ref 78), (1, .ref r), (2, .ref u), (3, .ref w)]) (st' := [.int (nI 0)]) (M' := M18) rfl rfl rfl rfl ?_
        refine T_if_eq d_Fi_root_201 (tgt := 209) rfl (fun _ => ?_) (fun c => absurd c (by decide))
        refine T_iload d_Fi_root_209 rfl ?_
        refine T_if_ne d_Fi_root_211 (tgt := 219) rfl (fun _ => ?_) (fun c => absurd c (by decide))
        refine T_iconst (v := nI 1) d_Fi_root_219 (by decide) ?_
        refine T_goto (tgt := 224) d_Fi_root_220 rfl ?_
        refine T_ret d_Fi_root_224 rfl (by decide) (by decide) (by decide) ⟨?_, ?_, ?_, w18, v80_18.rq, r81_18, r82_18, r83_18, v84_18.rq, v85_18.rq⟩
        · unfold rtG; rw [if_pos (Or.inl h12)]
        · have hB : rtB U V = rtA U V * cv_2 := by unfold rtB; exact if_pos (Or.inl h14)
          unfold rt; rw [hB, if_neg h18]; exact vr_18
        · exact (Kp.ex (Kp.ex (Kp.ex (Kp.ex (Kp.ex (Kp.ex (Kp.ex (Kp.ex (Kp.ex (Kp.ex (Kp.ex (Kp.ex (Kp.tr (Kp.ex (Kp.ex (Kp.ex (Kp.ex (Kp.ex Kp.rf s1 (by simp)) s2 (by simp)) s3 (by simp)) s4 (by simp)) s5 (by simp)) (Kp.mono s6 (by simp))) s7 (by simp)) s8 (by simp)) s9 (by simp)) s10 (by simp)) s11 (by simp)) s12 (by simp)) s13 (by simp)) s14 (by simp)) s15 (by simp)) s16 (by simp)) s17 (by simp)) s18 (by simp))
    · rw [if_neg h14]
      refine T_eq (pc' := 144) (L' := [(4, .int (nI 1)), (0, .ref 78), (1, .ref r), (2, .ref u), (3, .ref w)]) (st' := [.int (nI 0)]) (M' := M14) rfl rfl rfl rfl ?_
      refine T_istore (L' := [(5, .int (nI 0)), (4, .int (nI 1)), (0, .ref 78), (1, .ref r), (2, .ref u), (3, .ref w)]) d_Fi_root_144 (by decide) rfl ?_
      refine T_aload_n (v := .ref 78) d_Fi_root_146 rfl (Or.inr ⟨_, rfl⟩) ?_
      refine T_getfield d_Fi_root_147 fg_Fi_13 o78_14 rfl ?_
      refine T_aload_n (v := .ref u) d_Fi_root_150 rfl (Or.inr ⟨_, rfl⟩) ?_
      refine T_getstatic (q := ("PasswordGate$Field", "I", "[J", .ref 2)) d_Fi_root_151 (List.mem_of_getElem? (i := 2) rfl) gs_Fi_75 (show 2 < K0 by decide) ?_
      refine T_vmul d_Fi_root_154 (jw_Fi_multiply.jo (by decide)) lm_Fi_57 (by decide) (by decide) (by decide) (by decide) v80_14.rq vu_14 v2_14 (by decide) (fun M15 w15 s15 => ?_)
      have vu_15 := vu_14.st s15 h_u_80
      have vw_15 := vw_14.st s15 h_w_80
      have v2_15 := v2_14.st s15 (by decide)
      have v84_15 := v84_14.st s15 (by decide)
      have v85_15 := v85_14.st s15 (by decide)
      have vr_15 := vr_14.st s15 h_r_80
      have r79_15 := w14.st s15 (by decide)
      have r81_15 := r81_14.st s15 (by decide)
      have r82_15 := r82_14.st s15 (by decide)
      have r83_15 := r83_14.st s15 (by decide)
      have o78_15 := (s15 78 (by decide)).trans o78_14
      refine T_aload_n (v := .ref 78) d_Fi_root_157 rfl (Or.inr ⟨_, rfl⟩) ?_
      refine T_getfield d_Fi_root_158 fg_Fi_13 o78_15 rfl ?_
      refine T_aload_n (v := .ref 78) d_Fi_root_161 rfl (Or.inr ⟨_, rfl⟩) ?_
      refine T_getfield d_Fi_root_162 fg_Fi_25 o78_15 rfl ?_
      refine T_aload_n (v := .ref 78) d_Fi_root_165 rfl (Or.inr ⟨_, rfl⟩) ?_
      refine T_getfield d_Fi_root_166 fg_Fi_13 o78_15 rfl ?_
      refine T_vadd d_Fi_root_169 (jw_Fi_add.jo (by decide)) lm_Fi_72 (by decide) (by decide) (by decide) (by decide) w15.rq v84_15 w15 (by decide) (fun M16 w16 s16 => ?_)
      have vu_16 := vu_15.st s16 h_u_80
      have vw_16 := vw_15.st s16 h_w_80
      have v2_16 := v2_15.st s16 (by decide)
      have v84_16 := v84_15.st s16 (by decide)
      have v85_16 := v85_15.st s16 (by decide)
      have vr_16 := vr_15.st s16 h_r_80
      have r79_16 := r79_15.st s16 (by decide)
      have r81_16 := r81_15.st s16 (by decide)
      have r82_16 := r82_15.st s16 (by decide)
      have r83_16 := r83_15.st s16 (by decide)
      have o78_16 := (s16 78 (by decide)).trans o78_15
      refine T_iload d_Fi_root_172 rfl ?_
      refine T_if_ne d_Fi_root_174 (tgt := 188) rfl (fun c => absurd c (by decide)) (fun _ => ?_)
      refine T_aload_n (v := .ref 78) d_Fi_root_177 rfl (Or.inr ⟨_, rfl⟩) ?_
      refine T_aload_n (v := .ref 78) d_Fi_root_178 rfl (Or.inr ⟨_, rfl⟩) ?_
      refine T_getfield d_Fi_root_179 fg_Fi_13 o78_16 rfl ?_
      refine T_visz d_Fi_root_182 (jw_Fi_isZero.jo (by decide)) lm_Fi_68 (by decide) (by decide) (by decide) o78_16 r79_16 w16 (by decide) (fun M17 w17 s17 => ?_)
      have vu_17 := vu_16.st s17 h_u_79
      have vw_17 := vw_16.st s17 h_w_79
      have v2_17 := v2_16.st s17 (by decide)
      have v84_17 := v84_16.st s17 (by decide)
      have v85_17 := v85_16.st s17 (by decide)
      have vr_17 := vr_16.st s17 h_r_79
      have v80_17 := w16.st s17 (by decide)
      have r81_17 := r81_16.st s17 (by decide)
      have r82_17 := r82_16.st s17 (by decide)
      have r83_17 := r83_16.st s17 (by decide)
      have o78_17 := (s17 78 (by decide)).trans o78_16
      by_cases h17 : ((rtC U V) + (U * cv_2)) % pP = 0
      · rw [if_pos h17]
        refine T_eq (pc' := 185) (L' := [(5, .int (nI 0)), (4, .int (nI 1)), (0, .ref 78), (1, .ref r), (2, .ref u), (3, .ref w)]) (st' := [.int (nI 1)]) (M' := M17) rfl rfl rfl rfl ?_
        refine T_if_eq d_Fi_root_185 (tgt := 196) rfl (fun c => absurd c (by decide)) (fun _ => ?_)
        refine T_aload_n (v := .ref r) d_Fi_root_188 rfl (Or.inr ⟨_, rfl⟩) ?_
        refine T_aload_n (v := .ref r) d_Fi_root_189 rfl (Or.inr ⟨_, rfl⟩) ?_
        refine T_getstatic (q := ("PasswordGate$Field", "I", "[J", .ref 2)) d_Fi_root_190 (List.mem_of_getElem? (i := 2) rfl) gs_Fi_75 (show 2 < K0 by decide) ?_
        refine T_vmul d_Fi_root_193 (jw_Fi_multiply.jo (by decide)) lm_Fi_57 (by decide) (by decide) (by decide) k_r vr_17.rq vr_17 v2_17 (by decide) (fun M18 w18 s18 => ?_)
        have vu_18 := vu_17.st s18 h_u_r
        have vw_18 := vw_17.st s18 h_w_r
        have v2_18 := v2_17.st s18 h_r_2.symm
        have v84_18 := v84_17.st s18 h_r_84.symm
        have v85_18 := v85_17.st s18 h_r_85.symm
        have v80_18 := v80_17.st s18 h_r_80.symm
        have r79_18 := w17.st s18 h_r_79.symm
        have r81_18 := r81_17.st s18 h_r_81.symm
        have r82_18 := r82_17.st s18 h_r_82.symm
        have r83_18 := r83_17.st s18 h_r_83.symm
        have o78_18 := (s18 78 h_r_78.symm).trans o78_17
        refine T_aload_n (v := .ref 78) d_Fi_root_196 rfl (Or.inr ⟨_, rfl⟩) ?_
        refine T_aload_n (v := .ref r) d_Fi_root_197 rfl (Or.inr ⟨_, rfl⟩) ?_
        refine T_visodd d_Fi_root_198 (jw_Fi_isOdd.jo (by decide)) lm_Fi_78 (by decide) (by decide) (by decide) o78_18 r79_18 w18 (by decide) (fun M19 w19 s19 => ?_)
        have vu_19 := vu_18.st s19 h_u_79
        have vw_19 := vw_18.st s19 h_w_79
        have v2_19 := v2_18.st s19 (by decide)
        have v84_19 := v84_18.st s19 (by decide)
        have v85_19 := v85_18.st s19 (by decide)
        have vr_19 := w18.st s19 h_r_79
        have v80_19 := v80_18.st s19 (by decide)
        have r81_19 := r81_18.st s19 (by decide)
        have r82_19 := r82_18.st s19 (by decide)
        have r83_19 := r83_18.st s19 (by decide)
        have o78_19 := (s19 78 (by decide)).trans o78_18
        by_cases h19 : (((rtA U V) * cv_2) % pP) % 2 = 1
        · rw [if_pos h19]
          refine T_eq (pc' := 201) (L' := [(5, .int (nI 0)), (4, .int (nI 1)), (0, .ref 78), (1, .ref r), (2, .ref u), (3, .ref w)]) (st' := [.int (nI 1)]) (M' := M19) rfl rfl rfl rfl ?_
          refine T_if_eq d_Fi_root_201 (tgt := 209) rfl (fun c => absurd c (by decide)) (fun _ => ?_)
          refine T_aload_n (v := .ref r) d_Fi_root_204 rfl (Or.inr ⟨_, rfl⟩) ?_
          refine T_aload_n (v := .ref r) d_Fi_root_205 rfl (Or.inr ⟨_, rfl⟩) ?_
          refine T_vneg d_Fi_root_206 (jw_Fi_negate.jo (by decide)) lm_Fi_81 (by decide) (by decide) (by decide) k_r vr_19.rq vr_19 (by decide) (fun M20 w20 s20 => ?_)
          have vu_20 := vu_19.st s20 h_u_r
          have vw_20 := vw_19.st s20 h_w_r
          have v2_20 := v2_19.st s20 h_r_2.symm
          have v84_20 := v84_19.st s20 h_r_84.symm
          have v85_20 := v85_19.st s20 h_r_85.symm
          have v80_20 := v80_19.st s20 h_r_80.symm
          have r79_20 := w19.st s20 h_r_79.symm
          have r81_20 := r81_19.st s20 h_r_81.symm
          have r82_20 := r82_19.st s20 h_r_82.symm
          have r83_20 := r83_19.st s20 h_r_83.symm
          have o78_20 := (s20 78 h_r_78.symm).trans o78_19
          refine T_iload d_Fi_root_209 rfl ?_
          refine T_if_ne d_Fi_root_211 (tgt := 219) rfl (fun _ => ?_) (fun c => absurd c (by decide))
          refine T_iconst (v := nI 1) d_Fi_root_219 (by decide) ?_
          refine T_goto (tgt := 224) d_Fi_root_220 rfl ?_
          refine T_ret d_Fi_root_224 rfl (by decide) (by decide) (by decide) ⟨?_, ?_, ?_, r79_20, v80_20.rq, r81_20, r82_20, r83_20, v84_20.rq, v85_20.rq⟩
          · unfold rtG; rw [if_pos (Or.inl h12)]
          · have hB : rtB U V = rtA U V * cv_2 := by unfold rtB; exact if_pos (Or.inr h17)
            unfold rt; rw [hB, if_pos h19]; exact w20
          · exact (Kp.ex (Kp.ex (Kp.ex (Kp.ex (Kp.ex (Kp.ex (Kp.ex (Kp.ex (Kp.ex (Kp.ex (Kp.ex (Kp.ex (Kp.ex (Kp.ex (Kp.tr (Kp.ex (Kp.ex (Kp.ex (Kp.ex (Kp.ex Kp.rf s1 (by simp)) s2 (by simp)) s3 (by simp)) s4 (by simp)) s5 (by simp)) (Kp.mono s6 (by simp))) s7 (by simp)) s8 (by simp)) s9 (by simp)) s10 (by simp)) s11 (by simp)) s12 (by simp)) s13 (by simp)) s14 (by simp)) s15 (by simp)) s16 (by simp)) s17 (by simp)) s18 (by simp)) s19 (by simp)) s20 (by simp))
        · rw [if_neg h19]
          refine T_eq (pc' := 201) (L' := [(5, .int (nI 0)), (4, .int (nI 1)), (0, .ref 78), (1, .ref r), (2, .ref u), (3, .ref w)]) (st' := [.int (nI 0)]) (M' := M19) rfl rfl rfl rfl ?_
          refine T_if_eq d_Fi_root_201 (tgt := 209) rfl (fun _ => ?_) (fun c => absurd c (by decide))
          refine T_iload d_Fi_root_209 rfl ?_
          refine T_if_ne d_Fi_root_211 (tgt := 219) rfl (fun _ => ?_) (fun c => absurd c (by decide))
          refine T_iconst (v := nI 1) d_Fi_root_219 (by decide) ?_
          refine T_goto (tgt := 224) d_Fi_root_220 rfl ?_
          refine T_ret d_Fi_root_224 rfl (by decide) (by decide) (by decide) ⟨?_, ?_, ?_, w19, v80_19.rq, r81_19, r82_19, r83_19, v84_19.rq, v85_19.rq⟩
          · unfold rtG; rw [if_pos (Or.inl h12)]
          · have hB : rtB U V = rtA U V * cv_2 := by unfold rtB; exact if_pos (Or.inr h17)
            unfold rt; rw [hB, if_neg h19]; exact vr_19
          · exact (Kp.ex (Kp.ex (Kp.ex (Kp.ex (Kp.ex (Kp.ex (Kp.ex (Kp.ex (Kp.ex (Kp.ex (Kp.ex (Kp.ex (Kp.ex (Kp.tr (Kp.ex (Kp.ex (Kp.ex (Kp.ex (Kp.ex Kp.rf s1 (by simp)) s2 (by simp)) s3 (by simp)) s4 (by simp)) s5 (by simp)) (Kp.mono s6 (by simp))) s7 (by simp)) s8 (by simp)) s9 (by simp)) s10 (by simp)) s11 (by simp)) s12 (by simp)) s13 (by simp)) s14 (by simp)) s15 (by simp)) s16 (by simp)) s17 (by simp)) s18 (by simp)) s19 (by simp))
      · rw [if_neg h17]
        refine T_eq (pc' := 185) (L' := [(5, .int (nI 0)), (4, .int (nI 1)), (0, .ref 78), (1, .ref r), (2, .ref u), (3, .ref w)]) (st' := [.int (nI 0)]) (M' := M17) rfl rfl rfl rfl ?_
        refine T_if_eq d_Fi_root_185 (tgt := 196) rfl (fun _ => ?_) (fun c => absurd c (by decide))
        refine T_aload_n (v := .ref 78) d_Fi_root_196 rfl (Or.inr ⟨_, rfl⟩) ?_
        refine T_aload_n (v := .ref r) d_Fi_root_197 rfl (Or.inr ⟨_, rfl⟩) ?_
        refine T_visodd d_Fi_root_198 (jw_Fi_isOdd.jo (by decide)) lm_Fi_78 (by decide) (by decide) (by decide) o78_17 w17 vr_17 (by decide) (fun M18 w18 s18 => ?_)
        have vu_18 := vu_17.st s18 h_u_79
        have vw_18 := vw_17.st s18 h_w_79
        have v2_18 := v2_17.st s18 (by decide)
        have v84_18 := v84_17.st s18 (by decide)
        have v85_18 := v85_17.st s18 (by decide)
        have vr_18 := vr_17.st s18 h_r_79
        have v80_18 := v80_17.st s18 (by decide)
        have r81_18 := r81_17.st s18 (by decide)
        have r82_18 := r82_17.st s18 (by decide)
        have r83_18 := r83_17.st s18 (by decide)
        have o78_18 := (s18 78 (by decide)).trans o78_17
        by_cases h18 : ((rtA U V) % pP) % 2 = 1
        · rw [if_pos h18]
          refine T_eq (pc' := 201) (L' := [(5, .int (nI 0)), (4, .int (nI 1)), (0, .ref 78), (1, .ref r), (2, .ref u), (3, .ref w)]) (st' := [.int (nI 1)]) (M' := M18) rfl rfl rfl rfl ?_
          refine T_if_eq d_Fi_root_201 (tgt := 209) rfl (fun c => absurd c (by decide)) (fun _ => ?_)
          refine T_aload_n (v := .ref r) d_Fi_root_204 rfl (Or.inr ⟨_, rfl⟩) ?_
          refine T_aload_n (v := .ref r) d_Fi_root_205 rfl (Or.inr ⟨_, rfl⟩) ?_
          refine T_vneg d_Fi_root_206 (jw_Fi_negate.jo (by decide)) lm_Fi_81 (by decide) (by decide) (by decide) k_r vr_18.rq vr_18 (by decide) (fun M19 w19 s19 => ?_)
          have vu_19 := vu_18.st s19 h_u_r
          have vw_19 := vw_18.st s19 h_w_r
          have v2_19 := v2_18.st s19 h_r_2.symm
          have v84_19 := v84_18.st s19 h_r_84.symm
          have v85_19 := v85_18.st s19 h_r_85.symm
          have v80_19 := v80_18.st s19 h_r_80.symm
          have r79_19 := w18.st s19 h_r_79.symm
          have r81_19 := r81_18.st s19 h_r_81.symm
          have r82_19 := r82_18.st s19 h_r_82.symm
          have r83_19 := r83_18.st s19 h_r_83.symm
          have o78_19 := (s19 78 h_r_78.symm).trans o78_18
          refine T_iload d_Fi_root_209 rfl ?_
          refine T_if_ne d_Fi_root_211 (tgt := 219) rfl (fun _ => ?_) (fun c => absurd c (by decide))
          refine T_iconst (v := nI 1) d_Fi_root_219 (by decide) ?_
          refine T_goto (tgt := 224) d_Fi_root_220 rfl ?_
          refine T_ret d_Fi_root_224 rfl (by decide) (by decide) (by decide) ⟨?_, ?_, ?_, r79_19, v80_19.rq, r81_19, r82_19, r83_19, v84_19.rq, v85_19.rq⟩
          · unfold rtG; rw [if_pos (Or.inl h12)]
          · have hB : rtB U V = rtA U V := by unfold rtB; exact if_neg (fun c => c.elim h14 h17)
            unfold rt; rw [hB, if_pos h18]; exact w19
          · exact (Kp.ex (Kp.ex (Kp.ex (Kp.ex (Kp.ex (Kp.ex (Kp.ex (Kp.ex (Kp.ex (Kp.ex (Kp.ex (Kp.ex (Kp.ex (Kp.tr (Kp.ex (Kp.ex (Kp.ex (Kp.ex (Kp.ex Kp.rf s1 (by simp)) s2 (by simp)) s3 (by simp)) s4 (by simp)) s5 (by simp)) (Kp.mono s6 (by simp))) s7 (by simp)) s8 (by simp)) s9 (by simp)) s10 (by simp)) s11 (by simp)) s12 (by simp)) s13 (by simp)) s14 (by simp)) s15 (by simp)) s16 (by simp)) s17 (by simp)) s18 (by simp)) s19 (by simp))
        · rw [if_neg h18]
          refine T_eq (pc' := 201) (L' := [(5, .int (nI 0)), (4, .int (nI 1)), (0, .ref 78), (1, .ref r), (2, .ref u), (3, .ref w)]) (st' := [.int (nI 0)]) (M' := M18) rfl rfl rfl rfl ?_
          refine T_if_eq d_Fi_root_201 (tgt := 209) rfl (fun _ => ?_) (fun c => absurd c (by decide))
          refine T_iload d_Fi_root_209 rfl ?_
          refine T_if_ne d_Fi_root_211 (tgt := 219) rfl (fun _ => ?_) (fun c => absurd c (by decide))
          refine T_iconst (v := nI 1) d_Fi_root_219 (by decide) ?_
          refine T_goto (tgt := 224) d_Fi_root_220 rfl ?_
          refine T_ret d_Fi_root_224 rfl (by decide) (by decide) (by decide) ⟨?_, ?_, ?_, w18, v80_18.rq, r81_18, r82_18, r83_18, v84_18.rq, v85_18.rq⟩
          · unfold rtG; rw [if_pos (Or.inl h12)]
          · have hB : rtB U V = rtA U V := by unfold rtB; exact if_neg (fun c => c.elim h14 h17)
            unfold rt; rw [hB, if_neg h18]; exact vr_18
          · exact (Kp.ex (Kp.ex (Kp.ex (Kp.ex (Kp.ex (Kp.ex (Kp.ex (Kp.ex (Kp.ex (Kp.ex (Kp.ex (Kp.ex (Kp.tr (Kp.ex (Kp.ex (Kp.ex (Kp.ex (Kp.ex Kp.rf s1 (by simp)) s2 (by simp)) s3 (by simp)) s4 (by simp)) s5 (by simp)) (Kp.mono s6 (by simp))) s7 (by simp)) s8 (by simp)) s9 (by simp)) s10 (by simp)) s11 (by simp)) s12 (by simp)) s13 (by simp)) s14 (by simp)) s15 (by simp)) s16 (by simp)) s17 (by simp)) s18 (by simp))
  · rw [if_neg h12]
    refine T_eq (pc' := 122) (L' := [(0, .ref 78), (1, .ref r), (2, .ref u), (3, .ref w)]) (st' := [.int (nI 0)]) (M' := M12) rfl rfl rfl rfl ?_
    refine T_istore (L' := [(4, .int (nI 0)), (0, .ref 78), (1, .ref r), (2, .ref u), (3, .ref w)]) d_Fi_root_122 (by decide) rfl ?_
    refine T_aload_n (v := .ref 78) d_Fi_root_124 rfl (Or.inr ⟨_, rfl⟩) ?_
    refine T_getfield d_Fi_root_125 fg_Fi_13 o78_12 rfl ?_
    refine T_aload_n (v := .ref 78) d_Fi_root_128 rfl (Or.inr ⟨_, rfl⟩) ?_
    refine T_getfield d_Fi_root_129 fg_Fi_25 o78_12 rfl ?_
    refine T_aload_n (v := .ref u) d_Fi_root_132 rfl (Or.inr ⟨_, rfl⟩) ?_
    refine T_vadd d_Fi_root_133 (jw_Fi_add.jo (by decide)) lm_Fi_72 (by decide) (by decide) (by decide) (by decide) v80_12.rq v84_12 vu_12 (by decide) (fun M13 w13 s13 => ?_)
    have vu_13 := vu_12.st s13 h_u_80
    have vw_13 := vw_12.st s13 h_w_80
    have v2_13 := v2_12.st s13 (by decide)
    have v84_13 := v84_12.st s13 (by decide)
    have v85_13 := v85_12.st s13 (by decide)
    have vr_13 := vr_12.st s13 h_r_80
    have r79_13 := w12.st s13 (by decide)
    have r81_13 := r81_12.st s13 (by decide)
    have r82_13 := r82_12.st s13 (by decide)
    have r83_13 := r83_12.st s13 (by decide)
    have o78_13 := (s13 78 (by decide)).trans o78_12
    refine T_aload_n (v := .ref 78) d_Fi_root_136 rfl (Or.inr ⟨_, rfl⟩) ?_
    refine T_aload_n (v := .ref 78) d_Fi_root_137 rfl (Or.inr ⟨_, rfl⟩) ?_
    refine T_getfield d_Fi_root_138 fg_Fi_13 o78_13 rfl ?_
    refine T_visz d_Fi_root_141 (jw_Fi_isZero.jo (by decide)) lm_Fi_68 (by decide) (by decide) (by decide) o78_13 r79_13 w13 (by decide) (fun M14 w14 s14 => ?_)
    have vu_14 := vu_13.st s14 h_u_79
    have vw_14 := vw_13.st s14 h_w_79
    have v2_14 := v2_13.st s14 (by decide)
    have v84_14 := v84_13.st s14 (by decide)
    have v85_14 := v85_13.st s14 (by decide)
    have vr_14 := vr_13.st s14 h_r_79
    have v80_14 := w13.st s14 (by decide)
    have r81_14 := r81_13.st s14 (by decide)
    have r82_14 := r82_13.st s14 (by decide)
    have r83_14 := r83_13.st s14 (by decide)
    have o78_14 := (s14 78 (by decide)).trans o78_13
    by_cases h14 : ((rtC U V) + U) % pP = 0
    · rw [if_pos h14]
      refine T_eq (pc' := 144) (L' := [(4, .int (nI 0)), (0, .ref 78), (1, .ref r), (2, .ref u), (3, .ref w)]) (st' := [.int (nI 1)]) (M' := M14) rfl rfl rfl rfl ?_
      refine T_istore (L' := [(5, .int (nI 1)), (4, .int (nI 0)), (0, .ref 78), (1, .ref r), (2, .ref u), (3, .ref w)]) d_Fi_root_144 (by decide) rfl ?_
      refine T_aload_n (v := .ref 78) d_Fi_root_146 rfl (Or.inr ⟨_, rfl⟩) ?_
      refine T_getfield d_Fi_root_147 fg_Fi_13 o78_14 rfl ?_
      refine T_aload_n (v := .ref u) d_Fi_root_150 rfl (Or.inr ⟨_, rfl⟩) ?_
      refine T_getstatic (q := ("PasswordGate$Field", "I", "[J", .ref 2)) d_Fi_root_151 (List.mem_of_getElem? (i := 2) rfl) gs_Fi_75 (show 2 < K0 by decide) ?_
      refine T_vmul d_Fi_root_154 (jw_Fi_multiply.jo (by decide)) lm_Fi_57 (by decide) (by decide) (by decide) (by decide) v80_14.rq vu_14 v2_14 (by decide) (fun M15 w15 s15 => ?_)
      have vu_15 := vu_14.st s15 h_u_80
      have vw_15 := vw_14.st s15 h_w_80
      have v2_15 := v2_14.st s15 (by decide)
      have v84_15 := v84_14.st s15 (by decide)
      have v85_15 := v85_14.st s15 (by decide)
      have vr_15 := vr_14.st s15 h_r_80
      have r79_15 := w14.st s15 (by decide)
      have r81_15 := r81_14.st s15 (by decide)
      have r82_15 := r82_14.st s15 (by decide)
      have r83_15 := r83_14.st s15 (by decide)
      have o78_15 := (s15 78 (by decide)).trans o78_14
      refine T_aload_n (v := .ref 78) d_Fi_root_157 rfl (Or.inr ⟨_, rfl⟩) ?_
      refine T_getfield d_Fi_root_158 fg_Fi_13 o78_15 rfl ?_
      refine T_aload_n (v := .ref 78) d_Fi_root_161 rfl (Or.inr ⟨_, rfl⟩) ?_
      refine T_getfield d_Fi_root_162 fg_Fi_25 o78_15 rfl ?_
      refine T_aload_n (v := .ref 78) d_Fi_root_165 rfl (Or.inr ⟨_, rfl⟩) ?_
      refine T_getfield d_Fi_root_166 fg_Fi_13 o78_15 rfl ?_
      refine T_vadd d_Fi_root_169 (jw_Fi_add.jo (by decide)) lm_Fi_72 (by decide) (by decide) (by decide) (by decide) w15.rq v84_15 w15 (by decide) (fun M16 w16 s16 => ?_)
      have vu_16 := vu_15.st s16 h_u_80
      have vw_16 := vw_15.st s16 h_w_80
      have v2_16 := v2_15.st s16 (by decide)
      have v84_16 := v84_15.st s16 (by decide)
      have v85_16 := v85_15.st s16 (by decide)
      have vr_16 := vr_15.st s16 h_r_80
      have r79_16 := r79_15.st s16 (by decide)
      have r81_16 := r81_15.st s16 (by decide)
      have r82_16 := r82_15.st s16 (by decide)
      have r83_16 := r83_15.st s16 (by decide)
      have o78_16 := (s16 78 (by decide)).trans o78_15
      refine T_iload d_Fi_root_172 rfl ?_
      refine T_if_ne d_Fi_root_174 (tgt := 188) rfl (fun _ => ?_) (fun c => absurd c (by decide))
      refine T_aload_n (v := .ref r) d_Fi_root_188 rfl (Or.inr ⟨_, rfl⟩) ?_
      refine T_aload_n (v := .ref r) d_Fi_root_189 rfl (Or.inr ⟨_, rfl⟩) ?_
      refine T_getstatic (q := ("PasswordGate$Field", "I", "[J", .ref 2)) d_Fi_root_190 (List.mem_of_getElem? (i := 2) rfl) gs_Fi_75 (show 2 < K0 by decide) ?_
      refine T_vmul d_Fi_root_193 (jw_Fi_multiply.jo (by decide)) lm_Fi_57 (by decide) (by decide) (by decide) k_r vr_16.rq vr_16 v2_16 (by decide) (fun M17 w17 s17 => ?_)
      have vu_17 := vu_16.st s17 h_u_r
      have vw_17 := vw_16.st s17 h_w_r
      have v2_17 := v2_16.st s17 h_r_2.symm
      have v84_17 := v84_16.st s17 h_r_84.symm
      have v85_17 := v85_16.st s17 h_r_85.symm
      have v80_17 := w16.st s17 h_r_80.symm
      have r79_17 := r79_16.st s17 h_r_79.symm
      have r81_17 := r81_16.st s17 h_r_81.symm
      have r82_17 := r82_16.st s17 h_r_82.symm
      have r83_17 := r83_16.st s17 h_r_83.symm
      have o78_17 := (s17 78 h_r_78.symm).trans o78_16
      refine T_aload_n (v := .ref 78) d_Fi_root_196 rfl (Or.inr ⟨_, rfl⟩) ?_
      refine T_aload_n (v := .ref r) d_Fi_root_197 rfl (Or.inr ⟨_, rfl⟩) ?_
      refine T_visodd d_Fi_root_198 (jw_Fi_isOdd.jo (by decide)) lm_Fi_78 (by decide) (by decide) (by decide) o78_17 r79_17 w17 (by decide) (fun M18 w18 s18 => ?_)
      have vu_18 := vu_17.st s18 h_u_79
      have vw_18 := vw_17.st s18 h_w_79
      have v2_18 := v2_17.st s18 (by decide)
      have v84_18 := v84_17.st s18 (by decide)
      have v85_18 := v85_17.st s18 (by decide)
      have vr_18 := w17.st s18 h_r_79
      have v80_18 := v80_17.st s18 (by decide)
      have r81_18 := r81_17.st s18 (by decide)
      have r82_18 := r82_17.st s18 (by decide)
      have r83_18 := r83_17.st s18 (by decide)
      have o78_18 := (s18 78 (by decide)).trans o78_17
      by_cases h18 : (((rtA U V) * cv_2) % pP) % 2 = 1
      · rw [if_pos h18]
        refine T_eq (pc' := 201) (L' := [(5, .int (nI 1)), (4, .int (nI 0)), (0, .ref 78), (1, .ref r), (2, .ref u), (3, .ref w)]) (st' := [.int (nI 1)]) (M' := M18) rfl rfl rfl rfl ?_
        refine T_if_eq d_Fi_root_201 (tgt := 209) rfl (fun c => absurd c (by decide)) (fun _ => ?_)
        refine T_aload_n (v := .ref r) d_Fi_root_204 rfl (Or.inr ⟨_, rfl⟩) ?_
        refine T_aload_n (v := .ref r) d_Fi_root_205 rfl (Or.inr ⟨_, rfl⟩) ?_
        refine T_vneg d_Fi_root_206 (jw_Fi_negate.jo (by decide)) lm_Fi_81 (by decide) (by decide) (by decide) k_r vr_18.rq vr_18 (by decide) (fun M19 w19 s19 => ?_)
        have vu_19 := vu_18.st s19 h_u_r
        have vw_19 := vw_18.st s19 h_w_r
        have v2_19 := v2_18.st s19 h_r_2.symm
        have v84_19 := v84_18.st s19 h_r_84.symm
        have v85_19 := v85_18.st s19 h_r_85.symm
        have v80_19 := v80_18.st s19 h_r_80.symm
        have r79_19 := w18.st s19 h_r_79.symm
        have r81_19 := r81_18.st s19 h_r_81.symm
        have r82_19 := r82_18.st s19 h_r_82.symm
        have r83_19 := r83_18.st s19 h_r_83.symm
        have o78_19 := (s19 78 h_r_78.symm).trans o78_18
        refine T_iload d_Fi_root_209 rfl ?_
        refine T_if_ne d_Fi_root_211 (tgt := 219) rfl (fun c => absurd c (by decide)) (fun _ => ?_)
        refine T_iload d_Fi_root_214 rfl ?_
        refine T_if_eq d_Fi_root_216 (tgt := 223) rfl (fun c => absurd c (by decide)) (fun _ => ?_)
        refine T_iconst (v := nI 1) d_Fi_root_219 (by decide) ?_
        refine T_goto (tgt := 224) d_Fi_root_220 rfl ?_
        refine T_ret d_Fi_root_224 rfl (by decide) (by decide) (by decide) ⟨?_, ?_, ?_, r79_19, v80_19.rq, r81_19, r82_19, r83_19, v84_19.rq, v85_19.rq⟩
        · unfold rtG; rw [if_pos (Or.inr h14)]
        · have hB : rtB U V = rtA U V * cv_2 := by unfold rtB; exact if_pos (Or.inl h14)
          unfold rt; rw [hB, if_pos h18]; exact w19
        · exact (Kp.ex (Kp.ex (Kp.ex (Kp.ex (Kp.ex (Kp.ex (Kp.ex (Kp.ex (Kp.ex (Kp.ex (Kp.ex (Kp.ex (Kp.ex (Kp.tr (Kp.ex (Kp.ex (Kp.ex (Kp.ex (Kp.ex Kp.rf s1 (by simp)) s2 (by simp)) s3 (by simp)) s4 (by simp)) s5 (by simp)) (Kp.mono s6 (by simp))) s7 (by simp)) s8 (by simp)) s9 (by simp)) s10 (by simp)) s11 (by simp)) s12 (by simp)) s13 (by simp)) s14 (by simp)) s15 (by simp)) s16 (by simp)) s17 (by simp)) s18 (by simp)) s19 (by simp))
      · rw [if_neg h18]
        refine T_eq (pc' := 201) (L' := [(5, .int (nI 1)), (4, .int (nI 0)), (0, .ref 78), (1, .ref r), (2, .ref u), (3, .ref w)]) (st' := [.int (nI 0)]) (M' := M18) rfl rfl rfl rfl ?_
        refine T_if_eq d_Fi_root_201 (tgt := 209) rfl (fun _ => ?_) (fun c => absurd c (by decide))
        refine T_iload d_Fi_root_209 rfl ?_
        refine T_if_ne d_Fi_root_211 (tgt := 219) rfl (fun c => absurd c (by decide)) (fun _ => ?_)
        refine T_iload d_Fi_root_214 rfl ?_
        refine T_if_eq d_Fi_root_216 (tgt := 223) rfl (fun c => absurd c (by decide)) (fun _ => ?_)
        refine T_iconst (v := nI 1) d_Fi_root_219 (by decide) ?_
        refine T_goto (tgt := 224) d_Fi_root_220 rfl ?_
        refine T_ret d_Fi_root_224 rfl (by decide) (by decide) (by decide) ⟨?_, ?_, ?_, w18, v80_18.rq, r81_18, r82_18, r83_18, v84_18.rq, v85_18.rq⟩
        · unfold rtG; rw [if_pos (Or.inr h14)]
        · have hB : rtB U V = rtA U V * cv_2 := by unfold rtB; exact if_pos (Or.inl h14)
          unfold rt; rw [hB, if_neg h18]; exact vr_18
        · exact (Kp.ex (Kp.ex (Kp.ex (Kp.ex (Kp.ex (Kp.ex (Kp.ex (Kp.ex (Kp.ex (Kp.ex (Kp.ex (Kp.ex (Kp.tr (Kp.ex (Kp.ex (Kp.ex (Kp.ex (Kp.ex Kp.rf s1 (by simp)) s2 (by simp)) s3 (by simp)) s4 (by simp)) s5 (by simp)) (Kp.mono s6 (by simp))) s7 (by simp)) s8 (by simp)) s9 (by simp)) s10 (by simp)) s11 (by simp)) s12 (by simp)) s13 (by simp)) s14 (by simp)) s15 (by simp)) s16 (by simp)) s17 (by simp)) s18 (by simp))
    · rw [if_neg h14]
      refine T_eq (pc' := 144) (L' := [(4, .int (nI 0)), (0, .ref 78), (1, .ref r), (2, .ref u), (3, .ref w)]) (st' := [.int (nI 0)]) (M' := M14) rfl rfl rfl rfl ?_
      refine T_istore (L' := [(5, .int (nI 0)), (4, .int (nI 0)), (0, .ref 78), (1, .ref r), (2, .ref u), (3, .ref w)]) d_Fi_root_144 (by decide) rfl ?_
      refine T_aload_n (v := .ref 78) d_Fi_root_146 rfl (Or.inr ⟨_, rfl⟩) ?_
      refine T_getfield d_Fi_root_147 fg_Fi_13 o78_14 rfl ?_
      refine T_aload_n (v := .ref u) d_Fi_root_150 rfl (Or.inr ⟨_, rfl⟩) ?_
      refine T_getstatic (q := ("PasswordGate$Field", "I", "[J", .ref 2)) d_Fi_root_151 (List.mem_of_getElem? (i := 2) rfl) gs_Fi_75 (show 2 < K0 by decide) ?_
      refine T_vmul d_Fi_root_154 (jw_Fi_multiply.jo (by decide)) lm_Fi_57 (by decide) (by decide) (by decide) (by decide) v80_14.rq vu_14 v2_14 (by decide) (fun M15 w15 s15 => ?_)
      have vu_15 := vu_14.st s15 h_u_80
      have vw_15 := vw_14.st s15 h_w_80
      have v2_15 := v2_14.st s15 (by decide)
      have v84_15 := v84_14.st s15 (by decide)
      have v85_15 := v85_14.st s15 (by decide)
      have vr_15 := vr_14.st s15 h_r_80
      have r79_15 := w14.st s15 (by decide)
      have r81_15 := r81_14.st s15 (by decide)
      have r82_15 := r82_14.st s15 (by decide)
      have r83_15 := r83_14.st s15 (by decide)
      have o78_15 := (s15 78 (by decide)).trans o78_14
      refine T_aload_n (v := .ref 78) d_Fi_root_157 rfl (Or.inr ⟨_, rfl⟩) ?_
      refine T_getfield d_Fi_root_158 fg_Fi_13 o78_15 rfl ?_
      refine T_aload_n (v := .ref 78) d_Fi_root_161 rfl (Or.inr ⟨_, rfl⟩) ?_
      refine T_getfield d_Fi_root_162 fg_Fi_25 o78_15 rfl ?_
      refine T_aload_n (v := .ref 78) d_Fi_root_165 rfl (Or.inr ⟨_, rfl⟩) ?_
      refine T_getfield d_Fi_root_166 fg_Fi_13 o78_15 rfl ?_
      refine T_vadd d_Fi_root_169 (jw_Fi_add.jo (by decide)) lm_Fi_72 (by decide) (by decide) (by decide) (by decide) w15.rq v84_15 w15 (by decide) (fun M16 w16 s16 => ?_)
      have vu_16 := vu_15.st s16 h_u_80
      have vw_16 := vw_15.st s16 h_w_80
      have v2_16 := v2_15.st s16 (by decide)
      have v84_16 := v84_15.st s16 (by decide)
      have v85_16 := v85_15.st s16 (by decide)
      have vr_16 := vr_15.st s16 h_r_80
      have r79_16 := r79_15.st s16 (by decide)
      have r81_16 := r81_15.st s16 (by decide)
      have r82_16 := r82_15.st s16 (by decide)
      have r83_16 := r83_15.st s16 (by decide)
      have o78_16 := (s16 78 (by decide)).trans o78_15
      refine T_iload d_Fi_root_172 rfl ?_
      refine T_if_ne d_Fi_root_174 (tgt := 188) rfl (fun c => absurd c (by decide)) (fun _ => ?_)
      refine T_aload_n (v := .ref 78) d_Fi_root_177 rfl (Or.inr ⟨_, rfl⟩) ?_
      refine T_aload_n (v := .ref 78) d_Fi_root_178 rfl (Or.inr ⟨_, rfl⟩) ?_
      refine T_getfield d_Fi_root_179 fg_Fi_13 o78_16 rfl ?_
      refine T_visz d_Fi_root_182 (jw_Fi_isZero.jo (by decide)) lm_Fi_68 (by decide) (by decide) (by decide) o78_16 r79_16 w16 (by decide) (fun M17 w17 s17 => ?_)
      have vu_17 := vu_16.st s17 h_u_79
      have vw_17 := vw_16.st s17 h_w_79
      have v2_17 := v2_16.st s17 (by decide)
      have v84_17 := v84_16.st s17 (by decide)
      have v85_17 := v85_16.st s17 (by decide)
      have vr_17 := vr_16.st s17 h_r_79
      have v80_17 := w16.st s17 (by decide)
      have r81_17 := r81_16.st s17 (by decide)
      have r82_17 := r82_16.st s17 (by decide)
      have r83_17 := r83_16.st s17 (by decide)
      have o78_17 := (s17 78 (by decide)).trans o78_16
      by_cases h17 : ((rtC U V) + (U * cv_2)) % pP = 0
      · rw [if_pos h17]
        refine T_eq (pc' := 185) (L' := [(5, .int (nI 0)), (4, .int (nI 0)), (0, .ref 78), (1, .ref r), (2, .ref u), (3, .ref w)]) (st' := [.int (nI 1)]) (M' := M17) rfl rfl rfl rfl ?_
        refine T_if_eq d_Fi_root_185 (tgt := 196) rfl (fun c => absurd c (by decide)) (fun _ => ?_)
        refine T_aload_n (v := .ref r) d_Fi_root_188 rfl (Or.inr ⟨_, rfl⟩) ?_
        refine T_aload_n (v := .ref r) d_Fi_root_189 rfl (Or.inr ⟨_, rfl⟩) ?_
        refine T_getstatic (q := ("PasswordGate$Field", "I", "[J", .ref 2)) d_Fi_root_190 (List.mem_of_getElem? (i := 2) rfl) gs_Fi_75 (show 2 < K0 by decide) ?_
        refine T_vmul d_Fi_root_193 (jw_Fi_multiply.jo (by decide)) lm_Fi_57 (by decide) (by decide) (by decide) k_r vr_17.rq vr_17 v2_17 (by decide) (fun M18 w18 s18 => ?_)
        have vu_18 := vu_17.st s18 h_u_r
        have vw_18 := vw_17.st s18 h_w_r
        have v2_18 := v2_17.st s18 h_r_2.symm
        have v84_18 := v84_17.st s18 h_r_84.symm
        have v85_18 := v85_17.st s18 h_r_85.symm
        have v80_18 := v80_17.st s18 h_r_80.symm
        have r79_18 := w17.st s18 h_r_79.symm
        have r81_18 := r81_17.st s18 h_r_81.symm
        have r82_18 := r82_17.st s18 h_r_82.symm
        have r83_18 := r83_17.st s18 h_r_83.symm
        have o78_18 := (s18 78 h_r_78.symm).trans o78_17
        refine T_aload_n (v := .ref 78) d_Fi_root_196 rfl (Or.inr ⟨_, rfl⟩) ?_
        refine T_aload_n (v := .ref r) d_Fi_root_197 rfl (Or.inr ⟨_, rfl⟩) ?_
        refine T_visodd d_Fi_root_198 (jw_Fi_isOdd.jo (by decide)) lm_Fi_78 (by decide) (by decide) (by decide) o78_18 r79_18 w18 (by decide) (fun M19 w19 s19 => ?_)
        have vu_19 := vu_18.st s19 h_u_79
        have vw_19 := vw_18.st s19 h_w_79
        have v2_19 := v2_18.st s19 (by decide)
        have v84_19 := v84_18.st s19 (by decide)
        have v85_19 := v85_18.st s19 (by decide)
        have vr_19 := w18.st s19 h_r_79
        have v80_19 := v80_18.st s19 (by decide)
        have r81_19 := r81_18.st s19 (by decide)
        have r82_19 := r82_18.st s19 (by decide)
        have r83_19 := r83_18.st s19 (by decide)
        have o78_19 := (s19 78 (by decide)).trans o78_18
        by_cases h19 : (((rtA U V) * cv_2) % pP) % 2 = 1
        · rw [if_pos h19]
          refine T_eq (pc' := 201) (L' := [(5, .int (nI 0)), (4, .int (nI 0)), (0, .ref 78), (1, .ref r), (2, .ref u), (3, .ref w)]) (st' := [.int (nI 1)]) (M' := M19) rfl rfl rfl rfl ?_
          refine T_if_eq d_Fi_root_201 (tgt := 209) rfl (fun c => absurd c (by decide)) (fun _ => ?_)
          refine T_aload_n (v := .ref r) d_Fi_root_204 rfl (Or.inr ⟨_, rfl⟩) ?_
          refine T_aload_n (v := .ref r) d_Fi_root_205 rfl (Or.inr ⟨_, rfl⟩) ?_
          refine T_vneg d_Fi_root_206 (jw_Fi_negate.jo (by decide)) lm_Fi_81 (by decide) (by decide) (by decide) k_r vr_19.rq vr_19 (by decide) (fun M20 w20 s20 => ?_)
          have vu_20 := vu_19.st s20 h_u_r
          have vw_20 := vw_19.st s20 h_w_r
          have v2_20 := v2_19.st s20 h_r_2.symm
          have v84_20 := v84_19.st s20 h_r_84.symm
          have v85_20 := v85_19.st s20 h_r_85.symm
          have v80_20 := v80_19.st s20 h_r_80.symm
          have r79_20 := w19.st s20 h_r_79.symm
          have r81_20 := r81_19.st s20 h_r_81.symm
          have r82_20 := r82_19.st s20 h_r_82.symm
          have r83_20 := r83_19.st s20 h_r_83.symm
          have o78_20 := (s20 78 h_r_78.symm).trans o78_19
          refine T_iload d_Fi_root_209 rfl ?_
          refine T_if_ne d_Fi_root_211 (tgt := 219) rfl (fun c => absurd c (by decide)) (fun _ => ?_)
          refine T_iload d_Fi_root_214 rfl ?_
          refine T_if_eq d_Fi_root_216 (tgt := 223) rfl (fun _ => ?_) (fun c => absurd c (by decide))
          refine T_iconst (v := nI 0) d_Fi_root_223 (by decide) ?_
          refine T_ret d_Fi_root_224 rfl (by decide) (by decide) (by decide) ⟨?_, ?_, ?_, r79_20, v80_20.rq, r81_20, r82_20, r83_20, v84_20.rq, v85_20.rq⟩
          · unfold rtG; rw [if_neg (fun c => c.elim h12 h14)]
          · have hB : rtB U V = rtA U V * cv_2 := by unfold rtB; exact if_pos (Or.inr h17)
            unfold rt; rw [hB, if_pos h19]; exact w20
          · exact (Kp.ex (Kp.ex (Kp.ex (Kp.ex (Kp.ex (Kp.ex (Kp.ex (Kp.ex (Kp.ex (Kp.ex (Kp.ex (Kp.ex (Kp.ex (Kp.ex (Kp.tr (Kp.ex (Kp.ex (Kp.ex (Kp.ex (Kp.ex Kp.rf s1 (by simp)) s2 (by simp)) s3 (by simp)) s4 (by simp)) s5 (by simp)) (Kp.mono s6 (by simp))) s7 (by simp)) s8 (by simp)) s9 (by simp)) s10 (by simp)) s11 (by simp)) s12 (by simp)) s13 (by simp)) s14 (by simp)) s15 (by simp)) s16 (by simp)) s17 (by simp)) s18 (by simp)) s19 (by simp)) s20 (by simp))
        · rw [if_neg h19]
          refine T_eq (pc' := 201) (L' := [(5, .int (nI 0)), (4, .int (nI 0)), (0, .ref 78), (1, .ref r), (2, .ref u), (3, .ref w)]) (st' := [.int (nI 0)]) (M' := M19) rfl rfl rfl rfl ?_
          refine T_if_eq d_Fi_root_201 (tgt := 209) rfl (fun _ => ?_) (fun c => absurd c (by decide))
          refine T_iload d_Fi_root_209 rfl ?_
          refine T_if_ne d_Fi_root_211 (tgt := 219) rfl (fun c => absurd c (by decide)) (fun _ => ?_)
          refine T_iload d_Fi_root_214 rfl ?_
          refine T_if_eq d_Fi_root_216 (tgt := 223) rfl (fun _ => ?_) (fun c => absurd c (by decide))
          refine T_iconst (v := nI 0) d_Fi_root_223 (by decide) ?_
          refine T_ret d_Fi_root_224 rfl (by decide) (by decide) (by decide) ⟨?_, ?_, ?_, w19, v80_19.rq, r81_19, r82_19, r83_19, v84_19.rq, v85_19.rq⟩
          · unfold rtG; rw [if_neg (fun c => c.elim h12 h14)]
          · have hB : rtB U V = rtA U V * cv_2 := by unfold rtB; exact if_pos (Or.inr h17)
            unfold rt; rw [hB, if_neg h19]; exact vr_19
          · exact (Kp.ex (Kp.ex (Kp.ex (Kp.ex (Kp.ex (Kp.ex (Kp.ex (Kp.ex (Kp.ex (Kp.ex (Kp.ex (Kp.ex (Kp.ex (Kp.tr (Kp.ex (Kp.ex (Kp.ex (Kp.ex (Kp.ex Kp.rf s1 (by simp)) s2 (by simp)) s3 (by simp)) s4 (by simp)) s5 (by simp)) (Kp.mono s6 (by simp))) s7 (by simp)) s8 (by simp)) s9 (by simp)) s10 (by simp)) s11 (by simp)) s12 (by simp)) s13 (by simp)) s14 (by simp)) s15 (by simp)) s16 (by simp)) s17 (by simp)) s18 (by simp)) s19 (by simp))
      · rw [if_neg h17]
        refine T_eq (pc' := 185) (L' := [(5, .int (nI 0)), (4, .int (nI 0)), (0, .ref 78), (1, .ref r), (2, .ref u), (3, .ref w)]) (st' := [.int (nI 0)]) (M' := M17) rfl rfl rfl rfl ?_
        refine T_if_eq d_Fi_root_185 (tgt := 196) rfl (fun _ => ?_) (fun c => absurd c (by decide))
        refine T_aload_n (v := .ref 78) d_Fi_root_196 rfl (Or.inr ⟨_, rfl⟩) ?_
        refine T_aload_n (v := .ref r) d_Fi_root_197 rfl (Or.inr ⟨_, rfl⟩) ?_
        refine T_visodd d_Fi_root_198 (jw_Fi_isOdd.jo (by decide)) lm_Fi_78 (by decide) (by decide) (by decide) o78_17 w17 vr_17 (by decide) (fun M18 w18 s18 => ?_)
        have vu_18 := vu_17.st s18 h_u_79
        have vw_18 := vw_17.st s18 h_w_79
        have v2_18 := v2_17.st s18 (by decide)
        have v84_18 := v84_17.st s18 (by decide)
        have v85_18 := v85_17.st s18 (by decide)
        have vr_18 := vr_17.st s18 h_r_79
        have v80_18 := v80_17.st s18 (by decide)
        have r81_18 := r81_17.st s18 (by decide)
        have r82_18 := r82_17.st s18 (by decide)
        have r83_18 := r83_17.st s18 (by decide)
        have o78_18 := (s18 78 (by decide)).trans o78_17
        by_cases h18 : ((rtA U V) % pP) % 2 = 1
        · rw [if_pos h18]
          refine T_eq (pc' := 201) (L' := [(5, .int (nI 0)), (4, .int (nI 0)), (0, .ref 78), (1, .ref r), (2, .ref u), (3, .ref w)]) (st' := [.int (nI 1)]) (M' := M18) rfl rfl rfl rfl ?_
          refine T_if_eq d_Fi_root_201 (tgt := 209) rfl (fun c => absurd c (by decide)) (fun _ => ?_)
          refine T_aload_n (v := .ref r) d_Fi_root_204 rfl (Or.inr ⟨_, rfl⟩) ?_
          refine T_aload_n (v := .ref r) d_Fi_root_205 rfl (Or.inr ⟨_, rfl⟩) ?_
          refine T_vneg d_Fi_root_206 (jw_Fi_negate.jo (by decide)) lm_Fi_81 (by decide) (by decide) (by decide) k_r vr_18.rq vr_18 (by decide) (fun M19 w19 s19 => ?_)
          have vu_19 := vu_18.st s19 h_u_r
          have vw_19 := vw_18.st s19 h_w_r
          have v2_19 := v2_18.st s19 h_r_2.symm
          have v84_19 := v84_18.st s19 h_r_84.symm
          have v85_19 := v85_18.st s19 h_r_85.symm
          have v80_19 := v80_18.st s19 h_r_80.symm
          have r79_19 := w18.st s19 h_r_79.symm
          have r81_19 := r81_18.st s19 h_r_81.symm
          have r82_19 := r82_18.st s19 h_r_82.symm
          have r83_19 := r83_18.st s19 h_r_83.symm
          have o78_19 := (s19 78 h_r_78.symm).trans o78_18
          refine T_iload d_Fi_root_209 rfl ?_
          refine T_if_ne d_Fi_root_211 (tgt := 219) rfl (fun c => absurd c (by decide)) (fun _ => ?_)
          refine T_iload d_Fi_root_214 rfl ?_
          refine T_if_eq d_Fi_root_216 (tgt := 223) rfl (fun _ => ?_) (fun c => absurd c (by decide))
          refine T_iconst (v := nI 0) d_Fi_root_223 (by decide) ?_
          refine T_ret d_Fi_root_224 rfl (by decide) (by decide) (by decide) ⟨?_, ?_, ?_, r79_19, v80_19.rq, r81_19, r82_19, r83_19, v84_19.rq, v85_19.rq⟩
          · unfold rtG; rw [if_neg (fun c => c.elim h12 h14)]
          · have hB : rtB U V = rtA U V := by unfold rtB; exact if_neg (fun c => c.elim h14 h17)
            unfold rt; rw [hB, if_pos h18]; exact w19
          · exact (Kp.ex (Kp.ex (Kp.ex (Kp.ex (Kp.ex (Kp.ex (Kp.ex (Kp.ex (Kp.ex (Kp.ex (Kp.ex (Kp.ex (Kp.ex (Kp.tr (Kp.ex (Kp.ex (Kp.ex (Kp.ex (Kp.ex Kp.rf s1 (by simp)) s2 (by simp)) s3 (by simp)) s4 (by simp)) s5 (by simp)) (Kp.mono s6 (by simp))) s7 (by simp)) s8 (by simp)) s9 (by simp)) s10 (by simp)) s11 (by simp)) s12 (by simp)) s13 (by simp)) s14 (by simp)) s15 (by simp)) s16 (by simp)) s17 (by simp)) s18 (by simp)) s19 (by simp))
        · rw [if_neg h18]
          refine T_eq (pc' := 201) (L' := [(5, .int (nI 0)), (4, .int (nI 0)), (0, .ref 78), (1, .ref r), (2, .ref u), (3, .ref w)]) (st' := [.int (nI 0)]) (M' := M18) rfl rfl rfl rfl ?_
          refine T_if_eq d_Fi_root_201 (tgt := 209) rfl (fun _ => ?_) (fun c => absurd c (by decide))
          refine T_iload d_Fi_root_209 rfl ?_
          refine T_if_ne d_Fi_root_211 (tgt := 219) rfl (fun c => absurd c (by decide)) (fun _ => ?_)
          refine T_iload d_Fi_root_214 rfl ?_
          refine T_if_eq d_Fi_root_216 (tgt := 223) rfl (fun _ => ?_) (fun c => absurd c (by decide))
          refine T_iconst (v := nI 0) d_Fi_root_223 (by decide) ?_
          refine T_ret d_Fi_root_224 rfl (by decide) (by decide) (by decide) ⟨?_, ?_, ?_, w18, v80_18.rq, r81_18, r82_18, r83_18, v84_18.rq, v85_18.rq⟩
          · unfold rtG; rw [if_neg (fun c => c.elim h12 h14)]
          · have hB : rtB U V = rtA U V := by unfold rtB; exact if_neg (fun c => c.elim h14 h17)
            unfold rt; rw [hB, if_neg h18]; exact vr_18
          · exact (Kp.ex (Kp.ex (Kp.ex (Kp.ex (Kp.ex (Kp.ex (Kp.ex (Kp.ex (Kp.ex (Kp.ex (Kp.ex (Kp.ex (Kp.tr (Kp.ex (Kp.ex (Kp.ex (Kp.ex (Kp.ex Kp.rf s1 (by simp)) s2 (by simp)) s3 (by simp)) s4 (by simp)) s5 (by simp)) (Kp.mono s6 (by simp))) s7 (by simp)) s8 (by simp)) s9 (by simp)) s10 (by simp)) s11 (by simp)) s12 (by simp)) s13 (by simp)) s14 (by simp)) s15 (by simp)) s16 (by simp)) s17 (by simp)) s18 (by simp))
def cuO : va_E := .inr (5, [.ref 78, .ref 86, .ref 87, .ref 92, .ref 94, .ref 95, .ref 96, .ref 97, .ref 98, .ref 99, .ref 100, .ref 101, .ref 102])
def poO (x y z t : Nat) : va_E := .inr (7, [.ref x, .ref y, .ref z, .ref t])
theorem rtG_01 (u w : Int) : rtG u w = 1 ∨ rtG u w = 0 := by unfold rtG; split <;> simp
set_option maxHeartbeats 8000000 in
theorem v_Po_setPlain (G : GX) {M : List va_E} {po f g X Y Z T : Nat} {x y : Int} {n m : Nat} (hp : M[po]? = some (poO X Y Z T)) (hX : Rq M X) (hY : Rq M Y) (hZ : Rq M Z) (hT : Rq M T) (hf : Rv M f x n) (hg : Rv M g y m) (hnm : n * m ≤ 15) (k_X : K0 ≤ X) (k_Y : K0 ≤ Y) (k_Z : K0 ≤ Z) (k_T : K0 ≤ T) (nn_3_T : 3 ≠ T) (nn_3_X : 3 ≠ X) (nn_3_Y : 3 ≠ Y) (nn_3_Z : 3 ≠ Z) (nn_T_X : T ≠ X) (nn_T_Y : T ≠ Y) (nn_T_Z : T ≠ Z) (nn_X_T : X ≠ T) (nn_X_Y : X ≠ Y) (nn_X_Z : X ≠ Z) (nn_Y_T : Y ≠ T) (nn_Y_X : Y ≠ X) (nn_Y_Z : Y ≠ Z) (nn_Z_T : Z ≠ T) (nn_Z_X : Z ≠ X) (nn_Z_Y : Z ≠ Y) (nn_f_T : f ≠ T) (nn_f_X : f ≠ X) (nn_f_Y : f ≠ Y) (nn_f_Z : f ≠ Z) (nn_g_T : g ≠ T) (nn_g_X : g ≠ X) (nn_g_Y : g ≠ Y) (nn_g_Z : g ≠ Z) (nn_po_T : po ≠ T) (nn_po_X : po ≠ X) (nn_po_Y : po ≠ Y) (nn_po_Z : po ≠ Z) : CT G mi_Po_setPlain [.ref po, .ref f, .ref g] M (fun r M' => r = none ∧ (Rv M' X x n ∧ Rv M' Y y m ∧ Rv M' Z 1 1 ∧ Rv M' T (x * y) 1) ∧ Kp [X, Y, Z, T] M M') := by
  refine CT.of (by decide) (Nat.le_of_ble_eq_true rfl) ?_
  show TT G mi_Po_setPlain 0 [(0, .ref po), (1, .ref f), (2, .ref g)] [] M 0 0 _
  refine T_know (fun hk => ?_)
  have h3 : Rv M 3 cv_3 1 := ⟨_, hk 3 (by decide), vt_3⟩
  clear hk
  refine T_aload_n (v := .ref po) d_Po_setPlain_0 rfl (Or.inr ⟨_, rfl⟩) ?_
  refine T_getfield d_Po_setPlain_1 fg_Po_9 hp rfl ?_
  refine T_aload_n (v := .ref f) d_Po_setPlain_4 rfl (Or.inr ⟨_, rfl⟩) ?_
  refine T_vcopy d_Po_setPlain_5 (jw_Fi_copy.jo (by decide)) lm_Po_24 (by decide) (by decide) (by decide) k_X hX hf (fun M1 w1 s1 => ?_)
  have vf_1 := hf.st s1 nn_f_X
  have vg_1 := hg.st s1 nn_g_X
  have v3_1 := h3.st s1 nn_3_X
  have rY_1 := hY.st s1 nn_Y_X
  have rZ_1 := hZ.st s1 nn_Z_X
  have rT_1 := hT.st s1 nn_T_X
  have opo_1 := (s1 po nn_po_X).trans hp
  refine T_aload_n (v := .ref po) d_Po_setPlain_8 rfl (Or.inr ⟨_, rfl⟩) ?_
  refine T_getfield d_Po_setPlain_9 fg_Po_15 opo_1 rfl ?_
  refine T_aload_n (v := .ref g) d_Po_setPlain_12 rfl (Or.inr ⟨_, rfl⟩) ?_
  refine T_vcopy d_Po_setPlain_13 (jw_Fi_copy.jo (by decide)) lm_Po_24 (by decide) (by decide) (by decide) k_Y rY_1 vg_1 (fun M2 w2 s2 => ?_)
  have vf_2 := vf_1.st s2 nn_f_Y
  have vg_2 := vg_1.st s2 nn_g_Y
  have v3_2 := v3_1.st s2 nn_3_Y
  have vX_2 := w1.st s2 nn_X_Y
  have rZ_2 := rZ_1.st s2 nn_Z_Y
  have rT_2 := rT_1.st s2 nn_T_Y
  have opo_2 := (s2 po nn_po_Y).trans opo_1
  refine T_aload_n (v := .ref po) d_Po_setPlain_16 rfl (Or.inr ⟨_, rfl⟩) ?_
  refine T_getfield d_Po_setPlain_17 fg_Po_18 opo_2 rfl ?_
  refine T_getstatic (q := ("PasswordGate$Field", "ONE", "[J", .ref 3)) d_Po_setPlain_20 (List.mem_of_getElem? (i := 3) rfl) gs_Po_28 (show 3 < K0 by decide) ?_
  refine T_vcopy d_Po_setPlain_23 (jw_Fi_copy.jo (by decide)) lm_Po_24 (by decide) (by decide) (by decide) k_Z rZ_2 v3_2 (fun M3 w3 s3 => ?_)
  have vf_3 := vf_2.st s3 nn_f_Z
  have vg_3 := vg_2.st s3 nn_g_Z
  have v3_3 := v3_2.st s3 nn_3_Z
  have vX_3 := vX_2.st s3 nn_X_Z
  have vY_3 := w2.st s3 nn_Y_Z
  have rT_3 := rT_2.st s3 nn_T_Z
  have opo_3 := (s3 po nn_po_Z).trans opo_2
  refine T_aload_n (v := .ref po) d_Po_setPlain_26 rfl (Or.inr ⟨_, rfl⟩) ?_
  refine T_getfield d_Po_setPlain_27 fg_Po_21 opo_3 rfl ?_
  refine T_aload_n (v := .ref f) d_Po_setPlain_30 rfl (Or.inr ⟨_, rfl⟩) ?_
  refine T_aload_n (v := .ref g) d_Po_setPlain_31 rfl (Or.inr ⟨_, rfl⟩) ?_
  refine T_vmul d_Po_setPlain_32 (jw_Fi_multiply.jo (by decide)) lm_Po_31 (by decide) (by decide) (by decide) k_T rT_3 vf_3 vg_3 hnm (fun M4 w4 s4 => ?_)
  have vf_4 := vf_3.st s4 nn_f_T
  have vg_4 := vg_3.st s4 nn_g_T
  have v3_4 := v3_3.st s4 nn_3_T
  have vX_4 := vX_3.st s4 nn_X_T
  have vY_4 := vY_3.st s4 nn_Y_T
  have vZ_4 := w3.st s4 nn_Z_T
  have opo_4 := (s4 po nn_po_T).trans opo_3
  exact T_vret d_Po_setPlain_35 rfl (by decide) (by decide) ⟨rfl, ⟨vX_4, vY_4, vZ_4, w4⟩, (Kp.ex (Kp.ex (Kp.ex (Kp.ex Kp.rf s1 (by simp)) s2 (by simp)) s3 (by simp)) s4 (by simp))⟩
def dB (s : Int) : Int := cv_3 + s * s
def dA (s : Int) : Int := cv_3 - s * s
def dF (s : Int) : Int := -((dA s * dA s) * cv_5 + dB s * dB s)
def dC (s : Int) : Int := (dB s * dB s) * dF s
def dR (s : Int) : Int := rt cv_3 (dC s)
def dE0 (s : Int) : Int := ((s * dR s) * dB s) + ((s * dR s) * dB s)
def dE (s : Int) : Int := if (dE0 s % pP) % 2 = 1 then -dE0 s else dE0 s
def dG (s : Int) : Int := (((dR s * dR s) * dA s) * dB s) * dF s
def dH (s : Int) : Int := dE s * dG s
def dOK (s : Int) : Bool := decide (rtG cv_3 (dC s) = 1) && (!decide ((dH s % pP) % 2 = 1) && !decide (dG s % pP = 0))
def solP (M M' : List va_E) (S : Int) (X Y Z T : Nat) : Prop := (dOK S = true → Rv M' X (dE S) 2 ∧ Rv M' Y (dG S) 1 ∧ Rv M' Z 1 1 ∧ Rv M' T (dE S * dG S) 1) ∧ Kp [79, 80, 81, 82, 83, 84, 85, 94, 95, 96, 97, 98, 99, 100, 101, X, Y, Z, T] M M' ∧ (∀ q ∈ [79, 80, 81, 82, 83, 84, 85, 94, 95, 96, 97, 98, 99, 100, 101], Rq M' q) ∧ Rq M' X ∧ Rq M' Y ∧ Rq M' Z ∧ Rq M' T
set_option maxRecDepth 100000 in
set_option maxHeartbeats 8000000 in
theorem v_Cu_solve (G : GX) {M : List va_E} {po X Y Z T : Nat} {S : Int} (hc : M[77]? = some cuO) (ho : M[78]? = some foO) (h102 : Rv M 102 S 1) (h79 : Rq M 79) (h80 : Rq M 80) (h81 : Rq M 81) (h82 : Rq M 82) (h83 : Rq M 83) (h84 : Rq M 84) (h85 : Rq M 85) (h94 : Rq M 94) (h95 : Rq M 95) (h96 : Rq M 96) (h97 : Rq M 97) (h98 : Rq M 98) (h99 : Rq M 99) (h100 : Rq M 100) (h101 : Rq M 101) (hp : M[po]? = some (poO X Y Z T)) (hX : Rq M X) (hY : Rq M Y) (hZ : Rq M Z) (hT : Rq M T) (bp : 102 < po) (bX : 102 < X) (bY : 102 < Y) (bZ : 102 < Z) (bT : 102 < T) (d_T_X : T ≠ X) (d_T_Y : T ≠ Y) (d_T_Z : T ≠ Z) (d_X_T : X ≠ T) (d_X_Y : X ≠ Y) (d_X_Z : X ≠ Z) (d_Y_T : Y ≠ T) (d_Y_X : Y ≠ X) (d_Y_Z : Y ≠ Z) (d_Z_T : Z ≠ T) (d_Z_X : Z ≠ X) (d_Z_Y : Z ≠ Y) (d_po_T : po ≠ T) (d_po_X : po ≠ X) (d_po_Y : po ≠ Y) (d_po_Z : po ≠ Z) : CT G mi_Cu_solve [.ref 77, .ref po] M (fun r M' => r = some (.int (nI (if dOK S then 1 else 0))) ∧ solP M M' S X Y Z T) := by
  have nw : ∀ q, 102 < q → q ∉ [79, 80, 81, 82, 83, 84, 85, 94, 95, 96, 97, 98, 99, 100, 101] := fun q hq c => by simp only [List.mem_cons, List.not_mem_nil, or_false] at c; omega
  have k6 : ∀ q, 102 < q → K0 ≤ q := fun q hq => by unfold K0; omega
  have m6 : ∀ q, 102 < q → ∀ k, k ≤ 102 → q ≠ k := fun q hq k hk => by omega
  have nx : ∀ q, q ≤ 102 → q ∉ [X, Y, Z, T] := fun q hq c => by simp only [List.mem_cons, List.not_mem_nil, or_false] at c; omega
  refine CT.of (by decide) (Nat.le_of_ble_eq_true rfl) ?_
  show TT G mi_Cu_solve 0 [(0, .ref 77), (1, .ref po)] [] M 0 0 _
  refine T_know (fun hk => ?_)
  have c3 : Rv M 3 cv_3 1 := ⟨_, hk 3 (by decide), vt_3⟩
  have c5 : Rv M 5 cv_5 1 := ⟨_, hk 5 (by decide), vt_5⟩
  clear hk
  refine T_aload_n (v := .ref 77) d_Cu_solve_0 rfl (Or.inr ⟨_, rfl⟩) ?_
  refine T_getfield d_Cu_solve_1 fg_Cu_36 hc rfl ?_
  refine T_aload_n (v := .ref 77) d_Cu_solve_4 rfl (Or.inr ⟨_, rfl⟩) ?_
  refine T_getfield d_Cu_solve_5 fg_Cu_61 hc rfl ?_
  refine T_iconst (v := nI 1) d_Cu_solve_8 (by decide) ?_
  refine T_vsq1 d_Cu_solve_9 (jw_Fi_square.jo (by decide)) lm_Cu_89 (by decide) (by decide) (by decide) (by decide) h94 h102 (by decide) (fun M1 w1 s1 => ?_)
  have v102_1 := h102.st s1 (by decide)
  have v3_1 := c3.st s1 (by decide)
  have v5_1 := c5.st s1 (by decide)
  have r79_1 := h79.st s1 (by decide)
  have r80_1 := h80.st s1 (by decide)
  have r81_1 := h81.st s1 (by decide)
  have r82_1 := h82.st s1 (by decide)
  have r83_1 := h83.st s1 (by decide)
  have r84_1 := h84.st s1 (by decide)
  have r85_1 := h85.st s1 (by decide)
  have r95_1 := h95.st s1 (by decide)
  have r96_1 := h96.st s1 (by decide)
  have r97_1 := h97.st s1 (by decide)
  have r98_1 := h98.st s1 (by decide)
  have r99_1 := h99.st s1 (by decide)
  have r100_1 := h100.st s1 (by decide)
  have r101_1 := h101.st s1 (by decide)
  have o77_1 := (s1 77 (by decide)).trans hc
  have o78_1 := (s1 78 (by decide)).trans ho
  refine T_aload_n (v := .ref 77) d_Cu_solve_12 rfl (Or.inr ⟨_, rfl⟩) ?_
  refine T_getfield d_Cu_solve_13 fg_Cu_40 o77_1 rfl ?_
  refine T_getstatic (q := ("PasswordGate$Field", "ONE", "[J", .ref 3)) d_Cu_solve_16 (List.mem_of_getElem? (i := 3) rfl) gs_Cu_103 (show 3 < K0 by decide) ?_
  refine T_aload_n (v := .ref 77) d_Cu_solve_19 rfl (Or.inr ⟨_, rfl⟩) ?_
  refine T_getfield d_Cu_solve_20 fg_Cu_36 o77_1 rfl ?_
  refine T_vadd d_Cu_solve_23 (jw_Fi_add.jo (by decide)) lm_Cu_77 (by decide) (by decide) (by decide) (by decide) r95_1 v3_1 w1 (by decide) (fun M2 w2 s2 => ?_)
  have v102_2 := v102_1.st s2 (by decide)
  have v3_2 := v3_1.st s2 (by decide)
  have v5_2 := v5_1.st s2 (by decide)
  have v94_2 := w1.st s2 (by decide)
  have r79_2 := r79_1.st s2 (by decide)
  have r80_2 := r80_1.st s2 (by decide)
  have r81_2 := r81_1.st s2 (by decide)
  have r82_2 := r82_1.st s2 (by decide)
  have r83_2 := r83_1.st s2 (by decide)
  have r84_2 := r84_1.st s2 (by decide)
  have r85_2 := r85_1.st s2 (by decide)
  have r96_2 := r96_1.st s2 (by decide)
  have r97_2 := r97_1.st s2 (by decide)
  have r98_2 := r98_1.st s2 (by decide)
  have r99_2 := r99_1.st s2 (by decide)
  have r100_2 := r100_1.st s2 (by decide)
  have r101_2 := r101_1.st s2 (by decide)
  have o77_2 := (s2 77 (by decide)).trans o77_1
  have o78_2 := (s2 78 (by decide)).trans o78_1
  have x2 : Rv M2 95 (dB S) 2 := w2
  refine T_aload_n (v := .ref 77) d_Cu_solve_26 rfl (Or.inr ⟨_, rfl⟩) ?_
  refine T_getfield d_Cu_solve_27 fg_Cu_36 o77_2 rfl ?_
  refine T_getstatic (q := ("PasswordGate$Field", "ONE", "[J", .ref 3)) d_Cu_solve_30 (List.mem_of_getElem? (i := 3) rfl) gs_Cu_103 (show 3 < K0 by decide) ?_
  refine T_aload_n (v := .ref 77) d_Cu_solve_33 rfl (Or.inr ⟨_, rfl⟩) ?_
  refine T_getfield d_Cu_solve_34 fg_Cu_36 o77_2 rfl ?_
  refine T_vsub d_Cu_solve_37 (jw_Fi_subtract.jo (by decide)) lm_Cu_70 (by decide) (by decide) (by decide) (by decide) v94_2.rq v3_2 v94_2 (by decide) (fun M3 w3 s3 => ?_)
  have v102_3 := v102_2.st s3 (by decide)
  have v3_3 := v3_2.st s3 (by decide)
  have v5_3 := v5_2.st s3 (by decide)
  have v95_3 := x2.st s3 (by decide)
  have r79_3 := r79_2.st s3 (by decide)
  have r80_3 := r80_2.st s3 (by decide)
  have r81_3 := r81_2.st s3 (by decide)
  have r82_3 := r82_2.st s3 (by decide)
  have r83_3 := r83_2.st s3 (by decide)
  have r84_3 := r84_2.st s3 (by decide)
  have r85_3 := r85_2.st s3 (by decide)
  have r96_3 := r96_2.st s3 (by decide)
  have r97_3 := r97_2.st s3 (by decide)
  have r98_3 := r98_2.st s3 (by decide)
  have r99_3 := r99_2.st s3 (by decide)
  have r100_3 := r100_2.st s3 (by decide)
  have r101_3 := r101_2.st s3 (by decide)
  have o77_3 := (s3 77 (by decide)).trans o77_2
  have o78_3 := (s3 78 (by decide)).trans o78_2
  have x3 : Rv M3 94 (dA S) 2 := w3
  refine T_aload_n (v := .ref 77) d_Cu_solve_40 rfl (Or.inr ⟨_, rfl⟩) ?_
  refine T_getfield d_Cu_solve_41 fg_Cu_43 o77_3 rfl ?_
  refine T_aload_n (v := .ref 77) d_Cu_solve_44 rfl (Or.inr ⟨_, rfl⟩) ?_
  refine T_getfield d_Cu_solve_45 fg_Cu_40 o77_3 rfl ?_
  refine T_iconst (v := nI 1) d_Cu_solve_48 (by decide) ?_
  refine T_vsq1 d_Cu_solve_49 (jw_Fi_square.jo (by decide)) lm_Cu_89 (by decide) (by decide) (by decide) (by decide) r96_3 v95_3 (by decide) (fun M4 w4 s4 => ?_)
  have v102_4 := v102_3.st s4 (by decide)
  have v3_4 := v3_3.st s4 (by decide)
  have v5_4 := v5_3.st s4 (by decide)
  have v94_4 := x3.st s4 (by decide)
  have v95_4 := v95_3.st s4 (by decide)
  have r79_4 := r79_3.st s4 (by decide)
  have r80_4 := r80_3.st s4 (by decide)
  have r81_4 := r81_3.st s4 (by decide)
  have r82_4 := r82_3.st s4 (by decide)
  have r83_4 := r83_3.st s4 (by decide)
  have r84_4 := r84_3.st s4 (by decide)
  have r85_4 := r85_3.st s4 (by decide)
  have r97_4 := r97_3.st s4 (by decide)
  have r98_4 := r98_3.st s4 (by decide)
  have r99_4 := r99_3.st s4 (by decide)
  have r100_4 := r100_3.st s4 (by decide)
  have r101_4 := r101_3.st s4 (by decide)
  have o77_4 := (s4 77 (by decide)).trans o77_3
  have o78_4 := (s4 78 (by decide)).trans o78_3
  refine T_aload_n (v := .ref 77) d_Cu_solve_52 rfl (Or.inr ⟨_, rfl⟩) ?_
  refine T_getfield d_Cu_solve_53 fg_Cu_49 o77_4 rfl ?_
  refine T_aload_n (v := .ref 77) d_Cu_solve_56 rfl (Or.inr ⟨_, rfl⟩) ?_
  refine T_getfield d_Cu_solve_57 fg_Cu_36 o77_4 rfl ?_
  refine T_iconst (v := nI 1) d_Cu_solve_60 (by decide) ?_
  refine T_vsq1 d_Cu_solve_61 (jw_Fi_square.jo (by decide)) lm_Cu_89 (by decide) (by decide) (by decide) (by decide) r98_4 v94_4 (by decide) (fun M5 w5 s5 => ?_)
  have v102_5 := v102_4.st s5 (by decide)
  have v3_5 := v3_4.st s5 (by decide)
  have v5_5 := v5_4.st s5 (by decide)
  have v94_5 := v94_4.st s5 (by decide)
  have v95_5 := v95_4.st s5 (by decide)
  have v96_5 := w4.st s5 (by decide)
  have r79_5 := r79_4.st s5 (by decide)
  have r80_5 := r80_4.st s5 (by decide)
  have r81_5 := r81_4.st s5 (by decide)
  have r82_5 := r82_4.st s5 (by decide)
  have r83_5 := r83_4.st s5 (by decide)
  have r84_5 := r84_4.st s5 (by decide)
  have r85_5 := r85_4.st s5 (by decide)
  have r97_5 := r97_4.st s5 (by decide)
  have r99_5 := r99_4.st s5 (by decide)
  have r100_5 := r100_4.st s5 (by decide)
  have r101_5 := r101_4.st s5 (by decide)
  have o77_5 := (s5 77 (by decide)).trans o77_4
  have o78_5 := (s5 78 (by decide)).trans o78_4
  refine T_aload_n (v := .ref 77) d_Cu_solve_64 rfl (Or.inr ⟨_, rfl⟩) ?_
  refine T_getfield d_Cu_solve_65 fg_Cu_49 o77_5 rfl ?_
  refine T_aload_n (v := .ref 77) d_Cu_solve_68 rfl (Or.inr ⟨_, rfl⟩) ?_
  refine T_getfield d_Cu_solve_69 fg_Cu_49 o77_5 rfl ?_
  refine T_getstatic (q := ("PasswordGate$Curve", "D", "[J", .ref 5)) d_Cu_solve_72 (List.mem_of_getElem? (i := 5) rfl) gs_Cu_161 (show 5 < K0 by decide) ?_
  refine T_vmul d_Cu_solve_75 (jw_Fi_multiply.jo (by decide)) lm_Cu_74 (by decide) (by decide) (by decide) (by decide) w5.rq w5 v5_5 (by decide) (fun M6 w6 s6 => ?_)
  have v102_6 := v102_5.st s6 (by decide)
  have v3_6 := v3_5.st s6 (by decide)
  have v5_6 := v5_5.st s6 (by decide)
  have v94_6 := v94_5.st s6 (by decide)
  have v95_6 := v95_5.st s6 (by decide)
  have v96_6 := v96_5.st s6 (by decide)
  have r79_6 := r79_5.st s6 (by decide)
  have r80_6 := r80_5.st s6 (by decide)
  have r81_6 := r81_5.st s6 (by decide)
  have r82_6 := r82_5.st s6 (by decide)
  have r83_6 := r83_5.st s6 (by decide)
  have r84_6 := r84_5.st s6 (by decide)
  have r85_6 := r85_5.st s6 (by decide)
  have r97_6 := r97_5.st s6 (by decide)
  have r99_6 := r99_5.st s6 (by decide)
  have r100_6 := r100_5.st s6 (by decide)
  have r101_6 := r101_5.st s6 (by decide)
  have o77_6 := (s6 77 (by decide)).trans o77_5
  have o78_6 := (s6 78 (by decide)).trans o78_5
  refine T_aload_n (v := .ref 77) d_Cu_solve_78 rfl (Or.inr ⟨_, rfl⟩) ?_
  refine T_getfield d_Cu_solve_79 fg_Cu_49 o77_6 rfl ?_
  refine T_aload_n (v := .ref 77) d_Cu_solve_82 rfl (Or.inr ⟨_, rfl⟩) ?_
  refine T_getfield d_Cu_solve_83 fg_Cu_49 o77_6 rfl ?_
  refine T_aload_n (v := .ref 77) d_Cu_solve_86 rfl (Or.inr ⟨_, rfl⟩) ?_
  refine T_getfield d_Cu_solve_87 fg_Cu_43 o77_6 rfl ?_
  refine T_vadd d_Cu_solve_90 (jw_Fi_add.jo (by decide)) lm_Cu_77 (by decide) (by decide) (by decide) (by decide) w6.rq w6 v96_6 (by decide) (fun M7 w7 s7 => ?_)
  have v102_7 := v102_6.st s7 (by decide)
  have v3_7 := v3_6.st s7 (by decide)
  have v5_7 := v5_6.st s7 (by decide)
  have v94_7 := v94_6.st s7 (by decide)
  have v95_7 := v95_6.st s7 (by decide)
  have v96_7 := v96_6.st s7 (by decide)
  have r79_7 := r79_6.st s7 (by decide)
  have r80_7 := r80_6.st s7 (by decide)
  have r81_7 := r81_6.st s7 (by decide)
  have r82_7 := r82_6.st s7 (by decide)
  have r83_7 := r83_6.st s7 (by decide)
  have r84_7 := r84_6.st s7 (by decide)
  have r85_7 := r85_6.st s7 (by decide)
  have r97_7 := r97_6.st s7 (by decide)
  have r99_7 := r99_6.st s7 (by decide)
  have r100_7 := r100_6.st s7 (by decide)
  have r101_7 := r101_6.st s7 (by decide)
  have o77_7 := (s7 77 (by decide)).trans o77_6
  have o78_7 := (s7 78 (by decide)).trans o78_6
  refine T_aload_n (v := .ref 77) d_Cu_solve_93 rfl (Or.inr ⟨_, rfl⟩) ?_
  refine T_getfield d_Cu_solve_94 fg_Cu_49 o77_7 rfl ?_
  refine T_aload_n (v := .ref 77) d_Cu_solve_97 rfl (Or.inr ⟨_, rfl⟩) ?_
  refine T_getfield d_Cu_solve_98 fg_Cu_49 o77_7 rfl ?_
  refine T_vneg d_Cu_solve_101 (jw_Fi_negate.jo (by decide)) lm_Cu_139 (by decide) (by decide) (by decide) (by decide) w7.rq w7 (by decide) (fun M8 w8 s8 => ?_)
  have v102_8 := v102_7.st s8 (by decide)
  have v3_8 := v3_7.st s8 (by decide)
  have v5_8 := v5_7.st s8 (by decide)
  have v94_8 := v94_7.st s8 (by decide)
  have v95_8 := v95_7.st s8 (by decide)
  have v96_8 := v96_7.st s8 (by decide)
  have r79_8 := r79_7.st s8 (by decide)
  have r80_8 := r80_7.st s8 (by decide)
  have r81_8 := r81_7.st s8 (by decide)
  have r82_8 := r82_7.st s8 (by decide)
  have r83_8 := r83_7.st s8 (by decide)
  have r84_8 := r84_7.st s8 (by decide)
  have r85_8 := r85_7.st s8 (by decide)
  have r97_8 := r97_7.st s8 (by decide)
  have r99_8 := r99_7.st s8 (by decide)
  have r100_8 := r100_7.st s8 (by decide)
  have r101_8 := r101_7.st s8 (by decide)
  have o77_8 := (s8 77 (by decide)).trans o77_7
  have o78_8 := (s8 78 (by decide)).trans o78_7
  have x8 : Rv M8 98 (dF S) 2 := w8
  refine T_aload_n (v := .ref 77) d_Cu_solve_104 rfl (Or.inr ⟨_, rfl⟩) ?_
  refine T_getfield d_Cu_solve_105 fg_Cu_43 o77_8 rfl ?_
  refine T_aload_n (v := .ref 77) d_Cu_solve_108 rfl (Or.inr ⟨_, rfl⟩) ?_
  refine T_getfield d_Cu_solve_109 fg_Cu_43 o77_8 rfl ?_
  refine T_aload_n (v := .ref 77) d_Cu_solve_112 rfl (Or.inr ⟨_, rfl⟩) ?_
  refine T_getfield d_Cu_solve_113 fg_Cu_49 o77_8 rfl ?_
  refine T_vmul d_Cu_solve_116 (jw_Fi_multiply.jo (by decide)) lm_Cu_74 (by decide) (by decide) (by decide) (by decide) v96_8.rq v96_8 x8 (by decide) (fun M9 w9 s9 => ?_)
  have v102_9 := v102_8.st s9 (by decide)
  have v3_9 := v3_8.st s9 (by decide)
  have v5_9 := v5_8.st s9 (by decide)
  have v94_9 := v94_8.st s9 (by decide)
  have v95_9 := v95_8.st s9 (by decide)
  have v98_9 := x8.st s9 (by decide)
  have r79_9 := r79_8.st s9 (by decide)
  have r80_9 := r80_8.st s9 (by decide)
  have r81_9 := r81_8.st s9 (by decide)
  have r82_9 := r82_8.st s9 (by decide)
  have r83_9 := r83_8.st s9 (by decide)
  have r84_9 := r84_8.st s9 (by decide)
  have r85_9 := r85_8.st s9 (by decide)
  have r97_9 := r97_8.st s9 (by decide)
  have r99_9 := r99_8.st s9 (by decide)
  have r100_9 := r100_8.st s9 (by decide)
  have r101_9 := r101_8.st s9 (by decide)
  have o77_9 := (s9 77 (by decide)).trans o77_8
  have o78_9 := (s9 78 (by decide)).trans o78_8
  have x9 : Rv M9 96 (dC S) 1 := w9
  refine T_aload_n (v := .ref 77) d_Cu_solve_119 rfl (Or.inr ⟨_, rfl⟩) ?_
  refine T_getfield d_Cu_solve_120 fg_Cu_10 o77_9 rfl ?_
  refine T_aload_n (v := .ref 77) d_Cu_solve_123 rfl (Or.inr ⟨_, rfl⟩) ?_
  refine T_getfield d_Cu_solve_124 fg_Cu_58 o77_9 rfl ?_
  refine T_getstatic (q := ("PasswordGate$Field", "ONE", "[J", .ref 3)) d_Cu_solve_127 (List.mem_of_getElem? (i := 3) rfl) gs_Cu_103 (show 3 < K0 by decide) ?_
  refine T_aload_n (v := .ref 77) d_Cu_solve_130 rfl (Or.inr ⟨_, rfl⟩) ?_
  refine T_getfield d_Cu_solve_131 fg_Cu_43 o77_9 rfl ?_
  refine T_virtual (as := [.ref 101, .ref 3, .ref 96]) (rest := []) (b := 78) d_Cu_solve_134 rfl (jw_Fi_root.jo (by decide)) lm_Cu_123 ji_Fi_root js_Fi_root o78_9 rfl rfl rfl (Nat.le_of_ble_eq_true rfl) (by decide) (by decide) (v_Fi_root G o78_9 r79_9 r80_9 r81_9 r82_9 r83_9 r84_9 r85_9 r101_9 v3_9 x9 (by decide) (by decide) (by decide) (by decide) (by decide) (by decide) (by decide) (by decide) (by decide) (by decide) (by decide) (by decide) (by decide) (by decide) (by decide) (by decide) (by decide) (by decide) (by decide) (by decide) (by decide) (by decide) (by decide) (by decide) (by decide) (by decide)) (fun r0 M10 hq => ?_)
  obtain ⟨rfl, w10, s10, r79_10, r80_10, r81_10, r82_10, r83_10, r84_10, r85_10⟩ := hq
  have v102_10 := v102_9.kp s10 (by decide)
  have v3_10 := v3_9.kp s10 (by decide)
  have v5_10 := v5_9.kp s10 (by decide)
  have v94_10 := v94_9.kp s10 (by decide)
  have v95_10 := v95_9.kp s10 (by decide)
  have v96_10 := x9.kp s10 (by decide)
  have v98_10 := v98_9.kp s10 (by decide)
  have r97_10 := r97_9.kp s10 (by decide)
  have r99_10 := r99_9.kp s10 (by decide)
  have r100_10 := r100_9.kp s10 (by decide)
  have o77_10 := (s10 77 (by decide)).trans o77_9
  have o78_10 := (s10 78 (by decide)).trans o78_9
  have x10 : Rv M10 101 (dR S) 1 := w10
  rcases rtG_01 cv_3 (dC S) with hG | hG
  · rw [hG]
    refine T_eq (pc' := 137) (L' := [(0, .ref 77), (1, .ref po)]) (st' := [.int (nI 1)]) (M' := M10) rfl rfl rfl rfl ?_
    refine T_istore_n (L' := [(2, .int (nI 1)), (0, .ref 77), (1, .ref po)]) d_Cu_solve_137 (by decide) rfl ?_
    refine T_aload_n (v := .ref 77) d_Cu_solve_138 rfl (Or.inr ⟨_, rfl⟩) ?_
    refine T_getfield d_Cu_solve_139 fg_Cu_46 o77_10 rfl ?_
    refine T_aload_n (v := .ref 77) d_Cu_solve_142 rfl (Or.inr ⟨_, rfl⟩) ?_
    refine T_getfield d_Cu_solve_143 fg_Cu_61 o77_10 rfl ?_
    refine T_aload_n (v := .ref 77) d_Cu_solve_146 rfl (Or.inr ⟨_, rfl⟩) ?_
    refine T_getfield d_Cu_solve_147 fg_Cu_58 o77_10 rfl ?_
    refine T_vmul d_Cu_solve_150 (jw_Fi_multiply.jo (by decide)) lm_Cu_74 (by decide) (by decide) (by decide) (by decide) r97_10 v102_10 x10 (by decide) (fun M11 w11 s11 => ?_)
    have v102_11 := v102_10.st s11 (by decide)
    have v3_11 := v3_10.st s11 (by decide)
    have v5_11 := v5_10.st s11 (by decide)
    have v94_11 := v94_10.st s11 (by decide)
    have v95_11 := v95_10.st s11 (by decide)
    have v96_11 := v96_10.st s11 (by decide)
    have v98_11 := v98_10.st s11 (by decide)
    have v101_11 := x10.st s11 (by decide)
    have r79_11 := r79_10.st s11 (by decide)
    have r80_11 := r80_10.st s11 (by decide)
    have r81_11 := r81_10.st s11 (by decide)
    have r82_11 := r82_10.st s11 (by decide)
    have r83_11 := r83_10.st s11 (by decide)
    have r84_11 := r84_10.st s11 (by decide)
    have r85_11 := r85_10.st s11 (by decide)
    have r99_11 := r99_10.st s11 (by decide)
    have r100_11 := r100_10.st s11 (by decide)
    have o77_11 := (s11 77 (by decide)).trans o77_10
    have o78_11 := (s11 78 (by decide)).trans o78_10
    refine T_aload_n (v := .ref 77) d_Cu_solve_153 rfl (Or.inr ⟨_, rfl⟩) ?_
    refine T_getfield d_Cu_solve_154 fg_Cu_46 o77_11 rfl ?_
    refine T_aload_n (v := .ref 77) d_Cu_solve_157 rfl (Or.inr ⟨_, rfl⟩) ?_
    refine T_getfield d_Cu_solve_158 fg_Cu_46 o77_11 rfl ?_
    refine T_aload_n (v := .ref 77) d_Cu_solve_161 rfl (Or.inr ⟨_, rfl⟩) ?_
    refine T_getfield d_Cu_solve_162 fg_Cu_40 o77_11 rfl ?_
    refine T_vmul d_Cu_solve_165 (jw_Fi_multiply.jo (by decide)) lm_Cu_74 (by decide) (by decide) (by decide) (by decide) w11.rq w11 v95_11 (by decide) (fun M12 w12 s12 => ?_)
    have v102_12 := v102_11.st s12 (by decide)
    have v3_12 := v3_11.st s12 (by decide)
    have v5_12 := v5_11.st s12 (by decide)
    have v94_12 := v94_11.st s12 (by decide)
    have v95_12 := v95_11.st s12 (by decide)
    have v96_12 := v96_11.st s12 (by decide)
    have v98_12 := v98_11.st s12 (by decide)
    have v101_12 := v101_11.st s12 (by decide)
    have r79_12 := r79_11.st s12 (by decide)
    have r80_12 := r80_11.st s12 (by decide)
    have r81_12 := r81_11.st s12 (by decide)
    have r82_12 := r82_11.st s12 (by decide)
    have r83_12 := r83_11.st s12 (by decide)
    have r84_12 := r84_11.st s12 (by decide)
    have r85_12 := r85_11.st s12 (by decide)
    have r99_12 := r99_11.st s12 (by decide)
    have r100_12 := r100_11.st s12 (by decide)
    have o77_12 := (s12 77 (by decide)).trans o77_11
    have o78_12 := (s12 78 (by decide)).trans o78_11
    refine T_aload_n (v := .ref 77) d_Cu_solve_168 rfl (Or.inr ⟨_, rfl⟩) ?_
    refine T_getfield d_Cu_solve_169 fg_Cu_46 o77_12 rfl ?_
    refine T_aload_n (v := .ref 77) d_Cu_solve_172 rfl (Or.inr ⟨_, rfl⟩) ?_
    refine T_getfield d_Cu_solve_173 fg_Cu_46 o77_12 rfl ?_
    refine T_aload_n (v := .ref 77) d_Cu_solve_176 rfl (Or.inr ⟨_, rfl⟩) ?_
    refine T_getfield d_Cu_solve_177 fg_Cu_46 o77_12 rfl ?_
    refine T_vadd d_Cu_solve_180 (jw_Fi_add.jo (by decide)) lm_Cu_77 (by decide) (by decide) (by decide) (by decide) w12.rq w12 w12 (by decide) (fun M13 w13 s13 => ?_)
    have v102_13 := v102_12.st s13 (by decide)
    have v3_13 := v3_12.st s13 (by decide)
    have v5_13 := v5_12.st s13 (by decide)
    have v94_13 := v94_12.st s13 (by decide)
    have v95_13 := v95_12.st s13 (by decide)
    have v96_13 := v96_12.st s13 (by decide)
    have v98_13 := v98_12.st s13 (by decide)
    have v101_13 := v101_12.st s13 (by decide)
    have r79_13 := r79_12.st s13 (by decide)
    have r80_13 := r80_12.st s13 (by decide)
    have r81_13 := r81_12.st s13 (by decide)
    have r82_13 := r82_12.st s13 (by decide)
    have r83_13 := r83_12.st s13 (by decide)
    have r84_13 := r84_12.st s13 (by decide)
    have r85_13 := r85_12.st s13 (by decide)
    have r99_13 := r99_12.st s13 (by decide)
    have r100_13 := r100_12.st s13 (by decide)
    have o77_13 := (s13 77 (by decide)).trans o77_12
    have o78_13 := (s13 78 (by decide)).trans o78_12
    have x13 : Rv M13 97 (dE0 S) 2 := w13
    refine T_aload_n (v := .ref 77) d_Cu_solve_183 rfl (Or.inr ⟨_, rfl⟩) ?_
    refine T_getfield d_Cu_solve_184 fg_Cu_10 o77_13 rfl ?_
    refine T_aload_n (v := .ref 77) d_Cu_solve_187 rfl (Or.inr ⟨_, rfl⟩) ?_
    refine T_getfield d_Cu_solve_188 fg_Cu_46 o77_13 rfl ?_
    refine T_visodd d_Cu_solve_191 (jw_Fi_isOdd.jo (by decide)) lm_Cu_127 (by decide) (by decide) (by decide) o78_13 r79_13 x13 (by decide) (fun M14 w14 s14 => ?_)
    have v102_14 := v102_13.st s14 (by decide)
    have v3_14 := v3_13.st s14 (by decide)
    have v5_14 := v5_13.st s14 (by decide)
    have v94_14 := v94_13.st s14 (by decide)
    have v95_14 := v95_13.st s14 (by decide)
    have v96_14 := v96_13.st s14 (by decide)
    have v98_14 := v98_13.st s14 (by decide)
    have v101_14 := v101_13.st s14 (by decide)
    have v97_14 := x13.st s14 (by decide)
    have r80_14 := r80_13.st s14 (by decide)
    have r81_14 := r81_13.st s14 (by decide)
    have r82_14 := r82_13.st s14 (by decide)
    have r83_14 := r83_13.st s14 (by decide)
    have r84_14 := r84_13.st s14 (by decide)
    have r85_14 := r85_13.st s14 (by decide)
    have r99_14 := r99_13.st s14 (by decide)
    have r100_14 := r100_13.st s14 (by decide)
    have o77_14 := (s14 77 (by decide)).trans o77_13
    have o78_14 := (s14 78 (by decide)).trans o78_13
    by_cases h14 : ((dE0 S) % pP) % 2 = 1
    · rw [if_pos h14]
      refine T_eq (pc' := 194) (L' := [(2, .int (nI 1)), (0, .ref 77), (1, .ref po)]) (st' := [.int (nI 1)]) (M' := M14) rfl rfl rfl rfl ?_
      refine T_if_eq d_Cu_solve_194 (tgt := 208) rfl (fun c => absurd c (by decide)) (fun _ => ?_)
      refine T_aload_n (v := .ref 77) d_Cu_solve_197 rfl (Or.inr ⟨_, rfl⟩) ?_
      refine T_getfield d_Cu_solve_198 fg_Cu_46 o77_14 rfl ?_
      refine T_aload_n (v := .ref 77) d_Cu_solve_201 rfl (Or.inr ⟨_, rfl⟩) ?_
      refine T_getfield d_Cu_solve_202 fg_Cu_46 o77_14 rfl ?_
      refine T_vneg d_Cu_solve_205 (jw_Fi_negate.jo (by decide)) lm_Cu_139 (by decide) (by decide) (by decide) (by decide) v97_14.rq v97_14 (by decide) (fun M15 w15 s15 => ?_)
      have v102_15 := v102_14.st s15 (by decide)
      have v3_15 := v3_14.st s15 (by decide)
      have v5_15 := v5_14.st s15 (by decide)
      have v94_15 := v94_14.st s15 (by decide)
      have v95_15 := v95_14.st s15 (by decide)
      have v96_15 := v96_14.st s15 (by decide)
      have v98_15 := v98_14.st s15 (by decide)
      have v101_15 := v101_14.st s15 (by decide)
      have r79_15 := w14.st s15 (by decide)
      have r80_15 := r80_14.st s15 (by decide)
      have r81_15 := r81_14.st s15 (by decide)
      have r82_15 := r82_14.st s15 (by decide)
      have r83_15 := r83_14.st s15 (by decide)
      have r84_15 := r84_14.st s15 (by decide)
      have r85_15 := r85_14.st s15 (by decide)
      have r99_15 := r99_14.st s15 (by decide)
      have r100_15 := r100_14.st s15 (by decide)
      have o77_15 := (s15 77 (by decide)).trans o77_14
      have o78_15 := (s15 78 (by decide)).trans o78_14
      refine T_aload_n (v := .ref 77) d_Cu_solve_208 rfl (Or.inr ⟨_, rfl⟩) ?_
      refine T_getfield d_Cu_solve_209 fg_Cu_52 o77_15 rfl ?_
      refine T_aload_n (v := .ref 77) d_Cu_solve_212 rfl (Or.inr ⟨_, rfl⟩) ?_
      refine T_getfield d_Cu_solve_213 fg_Cu_58 o77_15 rfl ?_
      refine T_iconst (v := nI 1) d_Cu_solve_216 (by decide) ?_
      refine T_vsq1 d_Cu_solve_217 (jw_Fi_square.jo (by decide)) lm_Cu_89 (by decide) (by decide) (by decide) (by decide) r99_15 v101_15 (by decide) (fun M16 w16 s16 => ?_)
      have v102_16 := v102_15.st s16 (by decide)
      have v3_16 := v3_15.st s16 (by decide)
      have v5_16 := v5_15.st s16 (by decide)
      have v94_16 := v94_15.st s16 (by decide)
      have v95_16 := v95_15.st s16 (by decide)
      have v96_16 := v96_15.st s16 (by decide)
      have v98_16 := v98_15.st s16 (by decide)
      have v101_16 := v101_15.st s16 (by decide)
      have v97_16 := w15.st s16 (by decide)
      have r79_16 := r79_15.st s16 (by decide)
      have r80_16 := r80_15.st s16 (by decide)
      have r81_16 := r81_15.st s16 (by decide)
      have r82_16 := r82_15.st s16 (by decide)
      have r83_16 := r83_15.st s16 (by decide)
      have r84_16 := r84_15.st s16 (by decide)
      have r85_16 := r85_15.st s16 (by decide)
      have r100_16 := r100_15.st s16 (by decide)
      have o77_16 := (s16 77 (by decide)).trans o77_15
      have o78_16 := (s16 78 (by decide)).trans o78_15
      refine T_aload_n (v := .ref 77) d_Cu_solve_220 rfl (Or.inr ⟨_, rfl⟩) ?_
      refine T_getfield d_Cu_solve_221 fg_Cu_52 o77_16 rfl ?_
      refine T_aload_n (v := .ref 77) d_Cu_solve_224 rfl (Or.inr ⟨_, rfl⟩) ?_
      refine T_getfield d_Cu_solve_225 fg_Cu_52 o77_16 rfl ?_
      refine T_aload_n (v := .ref 77) d_Cu_solve_228 rfl (Or.inr ⟨_, rfl⟩) ?_
      refine T_getfield d_Cu_solve_229 fg_Cu_36 o77_16 rfl ?_
      refine T_vmul d_Cu_solve_232 (jw_Fi_multiply.jo (by decide)) lm_Cu_74 (by decide) (by decide) (by decide) (by decide) w16.rq w16 v94_16 (by decide) (fun M17 w17 s17 => ?_)
      have v102_17 := v102_16.st s17 (by decide)
      have v3_17 := v3_16.st s17 (by decide)
      have v5_17 := v5_16.st s17 (by decide)
      have v94_17 := v94_16.st s17 (by decide)
      have v95_17 := v95_16.st s17 (by decide)
      have v96_17 := v96_16.st s17 (by decide)
      have v98_17 := v98_16.st s17 (by decide)
      have v101_17 := v101_16.st s17 (by decide)
      have v97_17 := v97_16.st s17 (by decide)
      have r79_17 := r79_16.st s17 (by decide)
      have r80_17 := r80_16.st s17 (by decide)
      have r81_17 := r81_16.st s17 (by decide)
      have r82_17 := r82_16.st s17 (by decide)
      have r83_17 := r83_16.st s17 (by decide)
      have r84_17 := r84_16.st s17 (by decide)
      have r85_17 := r85_16.st s17 (by decide)
      have r100_17 := r100_16.st s17 (by decide)
      have o77_17 := (s17 77 (by decide)).trans o77_16
      have o78_17 := (s17 78 (by decide)).trans o78_16
      refine T_aload_n (v := .ref 77) d_Cu_solve_235 rfl (Or.inr ⟨_, rfl⟩) ?_
      refine T_getfield d_Cu_solve_236 fg_Cu_52 o77_17 rfl ?_
      refine T_aload_n (v := .ref 77) d_Cu_solve_239 rfl (Or.inr ⟨_, rfl⟩) ?_
      refine T_getfield d_Cu_solve_240 fg_Cu_52 o77_17 rfl ?_
      refine T_aload_n (v := .ref 77) d_Cu_solve_243 rfl (Or.inr ⟨_, rfl⟩) ?_
      refine T_getfield d_Cu_solve_244 fg_Cu_40 o77_17 rfl ?_
      refine T_vmul d_Cu_solve_247 (jw_Fi_multiply.jo (by decide)) lm_Cu_74 (by decide) (by decide) (by decide) (by decide) w17.rq w17 v95_17 (by decide) (fun M18 w18 s18 => ?_)
      have v102_18 := v102_17.st s18 (by decide)
      have v3_18 := v3_17.st s18 (by decide)
      have v5_18 := v5_17.st s18 (by decide)
      have v94_18 := v94_17.st s18 (by decide)
      have v95_18 := v95_17.st s18 (by decide)
      have v96_18 := v96_17.st s18 (by decide)
      have v98_18 := v98_17.st s18 (by decide)
      have v101_18 := v101_17.st s18 (by decide)
      have v97_18 := v97_17.st s18 (by decide)
      have r79_18 := r79_17.st s18 (by decide)
      have r80_18 := r80_17.st s18 (by decide)
      have r81_18 := r81_17.st s18 (by decide)
      have r82_18 := r82_17.st s18 (by decide)
      have r83_18 := r83_17.st s18 (by decide)
      have r84_18 := r84_17.st s18 (by decide)
      have r85_18 := r85_17.st s18 (by decide)
      have r100_18 := r100_17.st s18 (by decide)
      have o77_18 := (s18 77 (by decide)).trans o77_17
      have o78_18 := (s18 78 (by decide)).trans o78_17
      refine T_aload_n (v := .ref 77) d_Cu_solve_250 rfl (Or.inr ⟨_, rfl⟩) ?_
      refine T_getfield d_Cu_solve_251 fg_Cu_52 o77_18 rfl ?_
      refine T_aload_n (v := .ref 77) d_Cu_solve_254 rfl (Or.inr ⟨_, rfl⟩) ?_
      refine T_getfield d_Cu_solve_255 fg_Cu_52 o77_18 rfl ?_
      refine T_aload_n (v := .ref 77) d_Cu_solve_258 rfl (Or.inr ⟨_, rfl⟩) ?_
      refine T_getfield d_Cu_solve_259 fg_Cu_49 o77_18 rfl ?_
      refine T_vmul d_Cu_solve_262 (jw_Fi_multiply.jo (by decide)) lm_Cu_74 (by decide) (by decide) (by decide) (by decide) w18.rq w18 v98_18 (by decide) (fun M19 w19 s19 => ?_)
      have v102_19 := v102_18.st s19 (by decide)
      have v3_19 := v3_18.st s19 (by decide)
      have v5_19 := v5_18.st s19 (by decide)
      have v94_19 := v94_18.st s19 (by decide)
      have v95_19 := v95_18.st s19 (by decide)
      have v96_19 := v96_18.st s19 (by decide)
      have v98_19 := v98_18.st s19 (by decide)
      have v101_19 := v101_18.st s19 (by decide)
      have v97_19 := v97_18.st s19 (by decide)
      have r79_19 := r79_18.st s19 (by decide)
      have r80_19 := r80_18.st s19 (by decide)
      have r81_19 := r81_18.st s19 (by decide)
      have r82_19 := r82_18.st s19 (by decide)
      have r83_19 := r83_18.st s19 (by decide)
      have r84_19 := r84_18.st s19 (by decide)
      have r85_19 := r85_18.st s19 (by decide)
      have r100_19 := r100_18.st s19 (by decide)
      have o77_19 := (s19 77 (by decide)).trans o77_18
      have o78_19 := (s19 78 (by decide)).trans o78_18
      have x19 : Rv M19 99 (dG S) 1 := w19
      refine T_aload_n (v := .ref 77) d_Cu_solve_265 rfl (Or.inr ⟨_, rfl⟩) ?_
      refine T_getfield d_Cu_solve_266 fg_Cu_55 o77_19 rfl ?_
      refine T_aload_n (v := .ref 77) d_Cu_solve_269 rfl (Or.inr ⟨_, rfl⟩) ?_
      refine T_getfield d_Cu_solve_270 fg_Cu_46 o77_19 rfl ?_
      refine T_aload_n (v := .ref 77) d_Cu_solve_273 rfl (Or.inr ⟨_, rfl⟩) ?_
      refine T_getfield d_Cu_solve_274 fg_Cu_52 o77_19 rfl ?_
      refine T_vmul d_Cu_solve_277 (jw_Fi_multiply.jo (by decide)) lm_Cu_74 (by decide) (by decide) (by decide) (by decide) r100_19 v97_19 x19 (by decide) (fun M20 w20 s20 => ?_)
      have v102_20 := v102_19.st s20 (by decide)
      have v3_20 := v3_19.st s20 (by decide)
      have v5_20 := v5_19.st s20 (by decide)
      have v94_20 := v94_19.st s20 (by decide)
      have v95_20 := v95_19.st s20 (by decide)
      have v96_20 := v96_19.st s20 (by decide)
      have v98_20 := v98_19.st s20 (by decide)
      have v101_20 := v101_19.st s20 (by decide)
      have v97_20 := v97_19.st s20 (by decide)
      have v99_20 := x19.st s20 (by decide)
      have r79_20 := r79_19.st s20 (by decide)
      have r80_20 := r80_19.st s20 (by decide)
      have r81_20 := r81_19.st s20 (by decide)
      have r82_20 := r82_19.st s20 (by decide)
      have r83_20 := r83_19.st s20 (by decide)
      have r84_20 := r84_19.st s20 (by decide)
      have r85_20 := r85_19.st s20 (by decide)
      have o77_20 := (s20 77 (by decide)).trans o77_19
      have o78_20 := (s20 78 (by decide)).trans o78_19
      refine T_iload_n d_Cu_solve_280 rfl ?_
      refine T_if_eq d_Cu_solve_281 (tgt := 312) rfl (fun c => absurd c (by decide)) (fun _ => ?_)
      refine T_aload_n (v := .ref 77) d_Cu_solve_284 rfl (Or.inr ⟨_, rfl⟩) ?_
      refine T_getfield d_Cu_solve_285 fg_Cu_10 o77_20 rfl ?_
      refine T_aload_n (v := .ref 77) d_Cu_solve_288 rfl (Or.inr ⟨_, rfl⟩) ?_
      refine T_getfield d_Cu_solve_289 fg_Cu_55 o77_20 rfl ?_
      refine T_visodd d_Cu_solve_292 (jw_Fi_isOdd.jo (by decide)) lm_Cu_127 (by decide) (by decide) (by decide) o78_20 r79_20 w20 (by decide) (fun M21 w21 s21 => ?_)
      have v102_21 := v102_20.st s21 (by decide)
      have v3_21 := v3_20.st s21 (by decide)
      have v5_21 := v5_20.st s21 (by decide)
      have v94_21 := v94_20.st s21 (by decide)
      have v95_21 := v95_20.st s21 (by decide)
      have v96_21 := v96_20.st s21 (by decide)
      have v98_21 := v98_20.st s21 (by decide)
      have v101_21 := v101_20.st s21 (by decide)
      have v97_21 := v97_20.st s21 (by decide)
      have v99_21 := v99_20.st s21 (by decide)
      have v100_21 := w20.st s21 (by decide)
      have r80_21 := r80_20.st s21 (by decide)
      have r81_21 := r81_20.st s21 (by decide)
      have r82_21 := r82_20.st s21 (by decide)
      have r83_21 := r83_20.st s21 (by decide)
      have r84_21 := r84_20.st s21 (by decide)
      have r85_21 := r85_20.st s21 (by decide)
      have o77_21 := (s21 77 (by decide)).trans o77_20
      have o78_21 := (s21 78 (by decide)).trans o78_20
      by_cases h21 : (((-(dE0 S)) * (dG S)) % pP) % 2 = 1
      · rw [if_pos h21]
        refine T_eq (pc' := 295) (L' := [(2, .int (nI 1)), (0, .ref 77), (1, .ref po)]) (st' := [.int (nI 1)]) (M' := M21) rfl rfl rfl rfl ?_
        refine T_if_ne d_Cu_solve_295 (tgt := 312) rfl (fun _ => ?_) (fun c => absurd c (by decide))
        refine T_iconst (v := nI 0) d_Cu_solve_312 (by decide) ?_
        have eE : dE S = -dE0 S := by unfold dE; exact if_pos h14
        have kp0 : Kp [79, 80, 81, 82, 83, 84, 85, 94, 95, 96, 97, 98, 99, 100, 101] M M21 := (Kp.ex (Kp.ex (Kp.ex (Kp.ex (Kp.ex (Kp.ex (Kp.ex (Kp.ex (Kp.ex (Kp.ex (Kp.ex (Kp.tr (Kp.ex (Kp.ex (Kp.ex (Kp.ex (Kp.ex (Kp.ex (Kp.ex (Kp.ex (Kp.ex Kp.rf s1 (by decide)) s2 (by decide)) s3 (by decide)) s4 (by decide)) s5 (by decide)) s6 (by decide)) s7 (by decide)) s8 (by decide)) s9 (by decide)) (Kp.mono s10 (by decide))) s11 (by decide)) s12 (by decide)) s13 (by decide)) s14 (by decide)) s15 (by decide)) s16 (by decide)) s17 (by decide)) s18 (by decide)) s19 (by decide)) s20 (by decide)) s21 (by decide))
        have kp1 : Kp [79, 80, 81, 82, 83, 84, 85, 94, 95, 96, 97, 98, 99, 100, 101, X, Y, Z, T] M M21 := kp0.mono (fun q hq => (List.mem_append_left [X, Y, Z, T] hq : q ∈ [79, 80, 81, 82, 83, 84, 85, 94, 95, 96, 97, 98, 99, 100, 101] ++ [X, Y, Z, T]))
        have ok : dOK S = false := by
          unfold dOK
          have eH : (dH S % pP) % 2 = 1 := by unfold dH; rw [eE]; exact h21
          rw [decide_eq_true eH]; simp
        exact T_ret d_Cu_solve_313 rfl (by decide) (by decide) (by decide) ⟨by rw [ok]; rfl, fun c => absurd (ok.symm.trans c) (by decide), kp1, List.forall_mem_cons.mpr ⟨w21, List.forall_mem_cons.mpr ⟨r80_21, List.forall_mem_cons.mpr ⟨r81_21, List.forall_mem_cons.mpr ⟨r82_21, List.forall_mem_cons.mpr ⟨r83_21, List.forall_mem_cons.mpr ⟨r84_21, List.forall_mem_cons.mpr ⟨r85_21, List.forall_mem_cons.mpr ⟨v94_21.rq, List.forall_mem_cons.mpr ⟨v95_21.rq, List.forall_mem_cons.mpr ⟨v96_21.rq, List.forall_mem_cons.mpr ⟨v97_21.rq, List.forall_mem_cons.mpr ⟨v98_21.rq, List.forall_mem_cons.mpr ⟨v99_21.rq, List.forall_mem_cons.mpr ⟨v100_21.rq, List.forall_mem_cons.mpr ⟨v101_21.rq, fun _ h => by cases h⟩⟩⟩⟩⟩⟩⟩⟩⟩⟩⟩⟩⟩⟩⟩, hX.kp kp0 (nw X bX), hY.kp kp0 (nw Y bY), hZ.kp kp0 (nw Z bZ), hT.kp kp0 (nw T bT)⟩
      · rw [if_neg h21]
        refine T_eq (pc' := 295) (L' := [(2, .int (nI 1)), (0, .ref 77), (1, .ref po)]) (st' := [.int (nI 0)]) (M' := M21) rfl rfl rfl rfl ?_
        refine T_if_ne d_Cu_solve_295 (tgt := 312) rfl (fun c => absurd c (by decide)) (fun _ => ?_)
        refine T_aload_n (v := .ref 77) d_Cu_solve_298 rfl (Or.inr ⟨_, rfl⟩) ?_
        refine T_getfield d_Cu_solve_299 fg_Cu_10 o77_21 rfl ?_
        refine T_aload_n (v := .ref 77) d_Cu_solve_302 rfl (Or.inr ⟨_, rfl⟩) ?_
        refine T_getfield d_Cu_solve_303 fg_Cu_52 o77_21 rfl ?_
        refine T_visz d_Cu_solve_306 (jw_Fi_isZero.jo (by decide)) lm_Cu_164 (by decide) (by decide) (by decide) o78_21 w21 v99_21 (by decide) (fun M22 w22 s22 => ?_)
        have v102_22 := v102_21.st s22 (by decide)
        have v3_22 := v3_21.st s22 (by decide)
        have v5_22 := v5_21.st s22 (by decide)
        have v94_22 := v94_21.st s22 (by decide)
        have v95_22 := v95_21.st s22 (by decide)
        have v96_22 := v96_21.st s22 (by decide)
        have v98_22 := v98_21.st s22 (by decide)
        have v101_22 := v101_21.st s22 (by decide)
        have v97_22 := v97_21.st s22 (by decide)
        have v99_22 := v99_21.st s22 (by decide)
        have v100_22 := v100_21.st s22 (by decide)
        have r80_22 := r80_21.st s22 (by decide)
        have r81_22 := r81_21.st s22 (by decide)
        have r82_22 := r82_21.st s22 (by decide)
        have r83_22 := r83_21.st s22 (by decide)
        have r84_22 := r84_21.st s22 (by decide)
        have r85_22 := r85_21.st s22 (by decide)
        have o77_22 := (s22 77 (by decide)).trans o77_21
        have o78_22 := (s22 78 (by decide)).trans o78_21
        by_cases h22 : (dG S) % pP = 0
        · rw [if_pos h22]
          refine T_eq (pc' := 309) (L' := [(2, .int (nI 1)), (0, .ref 77), (1, .ref po)]) (st' := [.int (nI 1)]) (M' := M22) rfl rfl rfl rfl ?_
          refine T_if_eq d_Cu_solve_309 (tgt := 314) rfl (fun c => absurd c (by decide)) (fun _ => ?_)
          refine T_iconst (v := nI 0) d_Cu_solve_312 (by decide) ?_
          have eE : dE S = -dE0 S := by unfold dE; exact if_pos h14
          have kp0 : Kp [79, 80, 81, 82, 83, 84, 85, 94, 95, 96, 97, 98, 99, 100, 101] M M22 := (Kp.ex (Kp.ex (Kp.ex (Kp.ex (Kp.ex (Kp.ex (Kp.ex (Kp.ex (Kp.ex (Kp.ex (Kp.ex (Kp.ex (Kp.tr (Kp.ex (Kp.ex (Kp.ex (Kp.ex (Kp.ex (Kp.ex (Kp.ex (Kp.ex (Kp.ex Kp.rf s1 (by decide)) s2 (by decide)) s3 (by decide)) s4 (by decide)) s5 (by decide)) s6 (by decide)) s7 (by decide)) s8 (by decide)) s9 (by decide)) (Kp.mono s10 (by decide))) s11 (by decide)) s12 (by decide)) s13 (by decide)) s14 (by decide)) s15 (by decide)) s16 (by decide)) s17 (by decide)) s18 (by decide)) s19 (by decide)) s20 (by decide)) s21 (by decide)) s22 (by decide))
          have kp1 : Kp [79, 80, 81, 82, 83, 84, 85, 94, 95, 96, 97, 98, 99, 100, 101, X, Y, Z, T] M M22 := kp0.mono (fun q hq => (List.mem_append_left [X, Y, Z, T] hq : q ∈ [79, 80, 81, 82, 83, 84, 85, 94, 95, 96, 97, 98, 99, 100, 101] ++ [X, Y, Z, T]))
          have ok : dOK S = false := by
            unfold dOK
            rw [decide_eq_true h22]; simp
          exact T_ret d_Cu_solve_313 rfl (by decide) (by decide) (by decide) ⟨by rw [ok]; rfl, fun c => absurd (ok.symm.trans c) (by decide), kp1, List.forall_mem_cons.mpr ⟨w22, List.forall_mem_cons.mpr ⟨r80_22, List.forall_mem_cons.mpr ⟨r81_22, List.forall_mem_cons.mpr ⟨r82_22, List.forall_mem_cons.mpr ⟨r83_22, List.forall_mem_cons.mpr ⟨r84_22, List.forall_mem_cons.mpr ⟨r85_22, List.forall_mem_cons.mpr ⟨v94_22.rq, List.forall_mem_cons.mpr ⟨v95_22.rq, List.forall_mem_cons.mpr ⟨v96_22.rq, List.forall_mem_cons.mpr ⟨v97_22.rq, List.forall_mem_cons.mpr ⟨v98_22.rq, List.forall_mem_cons.mpr ⟨v99_22.rq, List.forall_mem_cons.mpr ⟨v100_22.rq, List.forall_mem_cons.mpr ⟨v101_22.rq, fun _ h => by cases h⟩⟩⟩⟩⟩⟩⟩⟩⟩⟩⟩⟩⟩⟩⟩, hX.kp kp0 (nw X bX), hY.kp kp0 (nw Y bY), hZ.kp kp0 (nw Z bZ), hT.kp kp0 (nw T bT)⟩
        · rw [if_neg h22]
          refine T_eq (pc' := 309) (L' := [(2, .int (nI 1)), (0, .ref 77), (1, .ref po)]) (st' := [.int (nI 0)]) (M' := M22) rfl rfl rfl rfl ?_
          refine T_if_eq d_Cu_solve_309 (tgt := 314) rfl (fun _ => ?_) (fun c => absurd c (by decide))
          refine T_aload_n (v := .ref po) d_Cu_solve_314 rfl (Or.inr ⟨_, rfl⟩) ?_
          refine T_aload_n (v := .ref 77) d_Cu_solve_315 rfl (Or.inr ⟨_, rfl⟩) ?_
          refine T_getfield d_Cu_solve_316 fg_Cu_46 o77_22 rfl ?_
          refine T_aload_n (v := .ref 77) d_Cu_solve_319 rfl (Or.inr ⟨_, rfl⟩) ?_
          refine T_getfield d_Cu_solve_320 fg_Cu_52 o77_22 rfl ?_
          have eE : dE S = -dE0 S := by unfold dE; exact if_pos h14
          have kp0 : Kp [79, 80, 81, 82, 83, 84, 85, 94, 95, 96, 97, 98, 99, 100, 101] M M22 := (Kp.ex (Kp.ex (Kp.ex (Kp.ex (Kp.ex (Kp.ex (Kp.ex (Kp.ex (Kp.ex (Kp.ex (Kp.ex (Kp.ex (Kp.tr (Kp.ex (Kp.ex (Kp.ex (Kp.ex (Kp.ex (Kp.ex (Kp.ex (Kp.ex (Kp.ex Kp.rf s1 (by decide)) s2 (by decide)) s3 (by decide)) s4 (by decide)) s5 (by decide)) s6 (by decide)) s7 (by decide)) s8 (by decide)) s9 (by decide)) (Kp.mono s10 (by decide))) s11 (by decide)) s12 (by decide)) s13 (by decide)) s14 (by decide)) s15 (by decide)) s16 (by decide)) s17 (by decide)) s18 (by decide)) s19 (by decide)) s20 (by decide)) s21 (by decide)) s22 (by decide))
          have kp1 : Kp [79, 80, 81, 82, 83, 84, 85, 94, 95, 96, 97, 98, 99, 100, 101, X, Y, Z, T] M M22 := kp0.mono (fun q hq => (List.mem_append_left [X, Y, Z, T] hq : q ∈ [79, 80, 81, 82, 83, 84, 85, 94, 95, 96, 97, 98, 99, 100, 101] ++ [X, Y, Z, T]))
          have eH : ¬ (dH S % pP) % 2 = 1 := by unfold dH; rw [eE]; exact h21
          have ok : dOK S = true := by unfold dOK; rw [hG, decide_eq_false eH, decide_eq_false h22]; rfl
          have e97 : Rv M22 97 (dE S) 2 := by rw [eE]; exact v97_22
          refine T_virtual (as := [.ref 97, .ref 99]) (rest := []) (b := po) d_Cu_solve_323 rfl (jw_Po_setPlain.jo (by decide)) lm_Cu_106 ji_Po_setPlain js_Po_setPlain ((kp0 po (nw po bp)).trans hp) rfl rfl rfl (Nat.le_of_ble_eq_true rfl) (by decide) (by decide) (v_Po_setPlain G ((kp0 po (nw po bp)).trans hp) (hX.kp kp0 (nw X bX)) (hY.kp kp0 (nw Y bY)) (hZ.kp kp0 (nw Z bZ)) (hT.kp kp0 (nw T bT)) e97 v99_22 (by decide) (k6 X bX) (k6 Y bY) (k6 Z bZ) (k6 T bT) (Ne.symm (m6 T bT 3 (by decide))) (Ne.symm (m6 X bX 3 (by decide))) (Ne.symm (m6 Y bY 3 (by decide))) (Ne.symm (m6 Z bZ 3 (by decide))) d_T_X d_T_Y d_T_Z d_X_T d_X_Y d_X_Z d_Y_T d_Y_X d_Y_Z d_Z_T d_Z_X d_Z_Y (Ne.symm (m6 T bT 97 (by decide))) (Ne.symm (m6 X bX 97 (by decide))) (Ne.symm (m6 Y bY 97 (by decide))) (Ne.symm (m6 Z bZ 97 (by decide))) (Ne.symm (m6 T bT 99 (by decide))) (Ne.symm (m6 X bX 99 (by decide))) (Ne.symm (m6 Y bY 99 (by decide))) (Ne.symm (m6 Z bZ 99 (by decide))) d_po_T d_po_X d_po_Y d_po_Z) (fun r0 M9 hq => ?_)
          obtain ⟨rfl, hv, hk9⟩ := hq
          refine T_iconst (v := nI 1) d_Cu_solve_326 (by decide) ?_
          exact T_ret d_Cu_solve_327 rfl (by decide) (by decide) (by decide) ⟨by rw [ok]; rfl, fun _ => hv, Kp.tr kp1 (hk9.mono (fun q hq => (List.mem_append_right [79, 80, 81, 82, 83, 84, 85, 94, 95, 96, 97, 98, 99, 100, 101] hq : q ∈ [79, 80, 81, 82, 83, 84, 85, 94, 95, 96, 97, 98, 99, 100, 101] ++ [X, Y, Z, T]))), List.forall_mem_cons.mpr ⟨w22.kp hk9 (nx 79 (by decide)), List.forall_mem_cons.mpr ⟨r80_22.kp hk9 (nx 80 (by decide)), List.forall_mem_cons.mpr ⟨r81_22.kp hk9 (nx 81 (by decide)), List.forall_mem_cons.mpr ⟨r82_22.kp hk9 (nx 82 (by decide)), List.forall_mem_cons.mpr ⟨r83_22.kp hk9 (nx 83 (by decide)), List.forall_mem_cons.mpr ⟨r84_22.kp hk9 (nx 84 (by decide)), List.forall_mem_cons.mpr ⟨r85_22.kp hk9 (nx 85 (by decide)), List.forall_mem_cons.mpr ⟨v94_22.rq.kp hk9 (nx 94 (by decide)), List.forall_mem_cons.mpr ⟨v95_22.rq.kp hk9 (nx 95 (by decide)), List.forall_mem_cons.mpr ⟨v96_22.rq.kp hk9 (nx 96 (by decide)), List.forall_mem_cons.mpr ⟨v97_22.rq.kp hk9 (nx 97 (by decide)), List.forall_mem_cons.mpr ⟨v98_22.rq.kp hk9 (nx 98 (by decide)), List.forall_mem_cons.mpr ⟨v99_22.rq.kp hk9 (nx 99 (by decide)), List.forall_mem_cons.mpr ⟨v100_22.rq.kp hk9 (nx 100 (by decide)), List.forall_mem_cons.mpr ⟨v101_22.rq.kp hk9 (nx 101 (by decide)), fun _ h => by cases h⟩⟩⟩⟩⟩⟩⟩⟩⟩⟩⟩⟩⟩⟩⟩, hv.1.rq, hv.2.1.rq, hv.2.2.1.rq, hv.2.2.2.rq⟩
    · rw [if_neg h14]
      refine T_eq (pc' := 194) (L' := [(2, .int (nI 1)), (0, .ref 77), (1, .ref po)]) (st' := [.int (nI 0)]) (M' := M14) rfl rfl rfl rfl ?_
      refine T_if_eq d_Cu_solve_194 (tgt := 208) rfl (fun _ => ?_) (fun c => absurd c (by decide))
      refine T_aload_n (v := .ref 77) d_Cu_solve_208 rfl (Or.inr ⟨_, rfl⟩) ?_
      refine T_getfield d_Cu_solve_209 fg_Cu_52 o77_14 rfl ?_
      refine T_aload_n (v := .ref 77) d_Cu_solve_212 rfl (Or.inr ⟨_, rfl⟩) ?_
      refine T_getfield d_Cu_solve_213 fg_Cu_58 o77_14 rfl ?_
      refine T_iconst (v := nI 1) d_Cu_solve_216 (by decide) ?_
      refine T_vsq1 d_Cu_solve_217 (jw_Fi_square.jo (by decide)) lm_Cu_89 (by decide) (by decide) (by decide) (by decide) r99_14 v101_14 (by decide) (fun M15 w15 s15 => ?_)
      have v102_15 := v102_14.st s15 (by decide)
      have v3_15 := v3_14.st s15 (by decide)
      have v5_15 := v5_14.st s15 (by decide)
      have v94_15 := v94_14.st s15 (by decide)
      have v95_15 := v95_14.st s15 (by decide)
      have v96_15 := v96_14.st s15 (by decide)
      have v98_15 := v98_14.st s15 (by decide)
      have v101_15 := v101_14.st s15 (by decide)
      have v97_15 := v97_14.st s15 (by decide)
      have r79_15 := w14.st s15 (by decide)
      have r80_15 := r80_14.st s15 (by decide)
      have r81_15 := r81_14.st s15 (by decide)
      have r82_15 := r82_14.st s15 (by decide)
      have r83_15 := r83_14.st s15 (by decide)
      have r84_15 := r84_14.st s15 (by decide)
      have r85_15 := r85_14.st s15 (by decide)
      have r100_15 := r100_14.st s15 (by decide)
      have o77_15 := (s15 77 (by decide)).trans o77_14
      have o78_15 := (s15 78 (by decide)).trans o78_14
      refine T_aload_n (v := .ref 77) d_Cu_solve_220 rfl (Or.inr ⟨_, rfl⟩) ?_
      refine T_getfield d_Cu_solve_221 fg_Cu_52 o77_15 rfl ?_
      refine T_aload_n (v := .ref 77) d_Cu_solve_224 rfl (Or.inr ⟨_, rfl⟩) ?_
      refine T_getfield d_Cu_solve_225 fg_Cu_52 o77_15 rfl ?_
      refine T_aload_n (v := .ref 77) d_Cu_solve_228 rfl (Or.inr ⟨_, rfl⟩) ?_
      refine T_getfield d_Cu_solve_229 fg_Cu_36 o77_15 rfl ?_
      refine T_vmul d_Cu_solve_232 (jw_Fi_multiply.jo (by decide)) lm_Cu_74 (by decide) (by decide) (by decide) (by decide) w15.rq w15 v94_15 (by decide) (fun M16 w16 s16 => ?_)
      have v102_16 := v102_15.st s16 (by decide)
      have v3_16 := v3_15.st s16 (by decide)
      have v5_16 := v5_15.st s16 (by decide)
      have v94_16 := v94_15.st s16 (by decide)
      have v95_16 := v95_15.st s16 (by decide)
      have v96_16 := v96_15.st s16 (by decide)
      have v98_16 := v98_15.st s16 (by decide)
      have v101_16 := v101_15.st s16 (by decide)
      have v97_16 := v97_15.st s16 (by decide)
      have r79_16 := r79_15.st s16 (by decide)
      have r80_16 := r80_15.st s16 (by decide)
      have r81_16 := r81_15.st s16 (by decide)
      have r82_16 := r82_15.st s16 (by decide)
      have r83_16 := r83_15.st s16 (by decide)
      have r84_16 := r84_15.st s16 (by decide)
      have r85_16 := r85_15.st s16 (by decide)
      have r100_16 := r100_15.st s16 (by decide)
      have o77_16 := (s16 77 (by decide)).trans o77_15
      have o78_16 := (s16 78 (by decide)).trans o78_15
      refine T_aload_n (v := .ref 77) d_Cu_solve_235 rfl (Or.inr ⟨_, rfl⟩) ?_
      refine T_getfield d_Cu_solve_236 fg_Cu_52 o77_16 rfl ?_
      refine T_aload_n (v := .ref 77) d_Cu_solve_239 rfl (Or.inr ⟨_, rfl⟩) ?_
      refine T_getfield d_Cu_solve_240 fg_Cu_52 o77_16 rfl ?_
      refine T_aload_n (v := .ref 77) d_Cu_solve_243 rfl (Or.inr ⟨_, rfl⟩) ?_
      refine T_getfield d_Cu_solve_244 fg_Cu_40 o77_16 rfl ?_
      refine T_vmul d_Cu_solve_247 (jw_Fi_multiply.jo (by decide)) lm_Cu_74 (by decide) (by decide) (by decide) (by decide) w16.rq w16 v95_16 (by decide) (fun M17 w17 s17 => ?_)
      have v102_17 := v102_16.st s17 (by decide)
      have v3_17 := v3_16.st s17 (by decide)
      have v5_17 := v5_16.st s17 (by decide)
      have v94_17 := v94_16.st s17 (by decide)
      have v95_17 := v95_16.st s17 (by decide)
      have v96_17 := v96_16.st s17 (by decide)
      have v98_17 := v98_16.st s17 (by decide)
      have v101_17 := v101_16.st s17 (by decide)
      have v97_17 := v97_16.st s17 (by decide)
      have r79_17 := r79_16.st s17 (by decide)
      have r80_17 := r80_16.st s17 (by decide)
      have r81_17 := r81_16.st s17 (by decide)
      have r82_17 := r82_16.st s17 (by decide)
      have r83_17 := r83_16.st s17 (by decide)
      have r84_17 := r84_16.st s17 (by decide)
      have r85_17 := r85_16.st s17 (by decide)
      have r100_17 := r100_16.st s17 (by decide)
      have o77_17 := (s17 77 (by decide)).trans o77_16
      have o78_17 := (s17 78 (by decide)).trans o78_16
      refine T_aload_n (v := .ref 77) d_Cu_solve_250 rfl (Or.inr ⟨_, rfl⟩) ?_
      refine T_getfield d_Cu_solve_251 fg_Cu_52 o77_17 rfl ?_
      refine T_aload_n (v := .ref 77) d_Cu_solve_254 rfl (Or.inr ⟨_, rfl⟩) ?_
      refine T_getfield d_Cu_solve_255 fg_Cu_52 o77_17 rfl ?_
      refine T_aload_n (v := .ref 77) d_Cu_solve_258 rfl (Or.inr ⟨_, rfl⟩) ?_
      refine T_getfield d_Cu_solve_259 fg_Cu_49 o77_17 rfl ?_
      refine T_vmul d_Cu_solve_262 (jw_Fi_multiply.jo (by decide)) lm_Cu_74 (by decide) (by decide) (by decide) (by decide) w17.rq w17 v98_17 (by decide) (fun M18 w18 s18 => ?_)
      have v102_18 := v102_17.st s18 (by decide)
      have v3_18 := v3_17.st s18 (by decide)
      have v5_18 := v5_17.st s18 (by decide)
      have v94_18 := v94_17.st s18 (by decide)
      have v95_18 := v95_17.st s18 (by decide)
      have v96_18 := v96_17.st s18 (by decide)
      have v98_18 := v98_17.st s18 (by decide)
      have v101_18 := v101_17.st s18 (by decide)
      have v97_18 := v97_17.st s18 (by decide)
      have r79_18 := r79_17.st s18 (by decide)
      have r80_18 := r80_17.st s18 (by decide)
      have r81_18 := r81_17.st s18 (by decide)
      have r82_18 := r82_17.st s18 (by decide)
      have r83_18 := r83_17.st s18 (by decide)
      have r84_18 := r84_17.st s18 (by decide)
      have r85_18 := r85_17.st s18 (by decide)
      have r100_18 := r100_17.st s18 (by decide)
      have o77_18 := (s18 77 (by decide)).trans o77_17
      have o78_18 := (s18 78 (by decide)).trans o78_17
      have x18 : Rv M18 99 (dG S) 1 := w18
      refine T_aload_n (v := .ref 77) d_Cu_solve_265 rfl (Or.inr ⟨_, rfl⟩) ?_
      refine T_getfield d_Cu_solve_266 fg_Cu_55 o77_18 rfl ?_
      refine T_aload_n (v := .ref 77) d_Cu_solve_269 rfl (Or.inr ⟨_, rfl⟩) ?_
      refine T_getfield d_Cu_solve_270 fg_Cu_46 o77_18 rfl ?_
      refine T_aload_n (v := .ref 77) d_Cu_solve_273 rfl (Or.inr ⟨_, rfl⟩) ?_
      refine T_getfield d_Cu_solve_274 fg_Cu_52 o77_18 rfl ?_
      refine T_vmul d_Cu_solve_277 (jw_Fi_multiply.jo (by decide)) lm_Cu_74 (by decide) (by decide) (by decide) (by decide) r100_18 v97_18 x18 (by decide) (fun M19 w19 s19 => ?_)
      have v102_19 := v102_18.st s19 (by decide)
      have v3_19 := v3_18.st s19 (by decide)
      have v5_19 := v5_18.st s19 (by decide)
      have v94_19 := v94_18.st s19 (by decide)
      have v95_19 := v95_18.st s19 (by decide)
      have v96_19 := v96_18.st s19 (by decide)
      have v98_19 := v98_18.st s19 (by decide)
      have v101_19 := v101_18.st s19 (by decide)
      have v97_19 := v97_18.st s19 (by decide)
      have v99_19 := x18.st s19 (by decide)
      have r79_19 := r79_18.st s19 (by decide)
      have r80_19 := r80_18.st s19 (by decide)
      have r81_19 := r81_18.st s19 (by decide)
      have r82_19 := r82_18.st s19 (by decide)
      have r83_19 := r83_18.st s19 (by decide)
      have r84_19 := r84_18.st s19 (by decide)
      have r85_19 := r85_18.st s19 (by decide)
      have o77_19 := (s19 77 (by decide)).trans o77_18
      have o78_19 := (s19 78 (by decide)).trans o78_18
      refine T_iload_n d_Cu_solve_280 rfl ?_
      refine T_if_eq d_Cu_solve_281 (tgt := 312) rfl (fun c => absurd c (by decide)) (fun _ => ?_)
      refine T_aload_n (v := .ref 77) d_Cu_solve_284 rfl (Or.inr ⟨_, rfl⟩) ?_
      refine T_getfield d_Cu_solve_285 fg_Cu_10 o77_19 rfl ?_
      refine T_aload_n (v := .ref 77) d_Cu_solve_288 rfl (Or.inr ⟨_, rfl⟩) ?_
      refine T_getfield d_Cu_solve_289 fg_Cu_55 o77_19 rfl ?_
      refine T_visodd d_Cu_solve_292 (jw_Fi_isOdd.jo (by decide)) lm_Cu_127 (by decide) (by decide) (by decide) o78_19 r79_19 w19 (by decide) (fun M20 w20 s20 => ?_)
      have v102_20 := v102_19.st s20 (by decide)
      have v3_20 := v3_19.st s20 (by decide)
      have v5_20 := v5_19.st s20 (by decide)
      have v94_20 := v94_19.st s20 (by decide)
      have v95_20 := v95_19.st s20 (by decide)
      have v96_20 := v96_19.st s20 (by decide)
      have v98_20 := v98_19.st s20 (by decide)
      have v101_20 := v101_19.st s20 (by decide)
      have v97_20 := v97_19.st s20 (by decide)
      have v99_20 := v99_19.st s20 (by decide)
      have v100_20 := w19.st s20 (by decide)
      have r80_20 := r80_19.st s20 (by decide)
      have r81_20 := r81_19.st s20 (by decide)
      have r82_20 := r82_19.st s20 (by decide)
      have r83_20 := r83_19.st s20 (by decide)
      have r84_20 := r84_19.st s20 (by decide)
      have r85_20 := r85_19.st s20 (by decide)
      have o77_20 := (s20 77 (by decide)).trans o77_19
      have o78_20 := (s20 78 (by decide)).trans o78_19
      by_cases h20 : (((dE0 S) * (dG S)) % pP) % 2 = 1
      · rw [if_pos h20]
        refine T_eq (pc' := 295) (L' := [(2, .int (nI 1)), (0, .ref 77), (1, .ref po)]) (st' := [.int (nI 1)]) (M' := M20) rfl rfl rfl rfl ?_
        refine T_if_ne d_Cu_solve_295 (tgt := 312) rfl (fun _ => ?_) (fun c => absurd c (by decide))
        refine T_iconst (v := nI 0) d_Cu_solve_312 (by decide) ?_
        have eE : dE S = dE0 S := by unfold dE; exact if_neg h14
        have kp0 : Kp [79, 80, 81, 82, 83, 84, 85, 94, 95, 96, 97, 98, 99, 100, 101] M M20 := (Kp.ex (Kp.ex (Kp.ex (Kp.ex (Kp.ex (Kp.ex (Kp.ex (Kp.ex (Kp.ex (Kp.ex (Kp.tr (Kp.ex (Kp.ex (Kp.ex (Kp.ex (Kp.ex (Kp.ex (Kp.ex (Kp.ex (Kp.ex Kp.rf s1 (by decide)) s2 (by decide)) s3 (by decide)) s4 (by decide)) s5 (by decide)) s6 (by decide)) s7 (by decide)) s8 (by decide)) s9 (by decide)) (Kp.mono s10 (by decide))) s11 (by decide)) s12 (by decide)) s13 (by decide)) s14 (by decide)) s15 (by decide)) s16 (by decide)) s17 (by decide)) s18 (by decide)) s19 (by decide)) s20 (by decide))
        have kp1 : Kp [79, 80, 81, 82, 83, 84, 85, 94, 95, 96, 97, 98, 99, 100, 101, X, Y, Z, T] M M20 := kp0.mono (fun q hq => (List.mem_append_left [X, Y, Z, T] hq : q ∈ [79, 80, 81, 82, 83, 84, 85, 94, 95, 96, 97, 98, 99, 100, 101] ++ [X, Y, Z, T]))
        have ok : dOK S = false := by
          unfold dOK
          have eH : (dH S % pP) % 2 = 1 := by unfold dH; rw [eE]; exact h20
          rw [decide_eq_true eH]; simp
        exact T_ret d_Cu_solve_313 rfl (by decide) (by decide) (by decide) ⟨by rw [ok]; rfl, fun c => absurd (ok.symm.trans c) (by decide), kp1, List.forall_mem_cons.mpr ⟨w20, List.forall_mem_cons.mpr ⟨r80_20, List.forall_mem_cons.mpr ⟨r81_20, List.forall_mem_cons.mpr ⟨r82_20, List.forall_mem_cons.mpr ⟨r83_20, List.forall_mem_cons.mpr ⟨r84_20, List.forall_mem_cons.mpr ⟨r85_20, List.forall_mem_cons.mpr ⟨v94_20.rq, List.forall_mem_cons.mpr ⟨v95_20.rq, List.forall_mem_cons.mpr ⟨v96_20.rq, List.forall_mem_cons.mpr ⟨v97_20.rq, List.forall_mem_cons.mpr ⟨v98_20.rq, List.forall_mem_cons.mpr ⟨v99_20.rq, List.forall_mem_cons.mpr ⟨v100_20.rq, List.forall_mem_cons.mpr ⟨v101_20.rq, fun _ h => by cases h⟩⟩⟩⟩⟩⟩⟩⟩⟩⟩⟩⟩⟩⟩⟩, hX.kp kp0 (nw X bX), hY.kp kp0 (nw Y bY), hZ.kp kp0 (nw Z bZ), hT.kp kp0 (nw T bT)⟩
      · rw [if_neg h20]
        refine T_eq (pc' := 295) (L' := [(2, .int (nI 1)), (0, .ref 77), (1, .ref po)]) (st' := [.int (nI 0)]) (M' := M20) rfl rfl rfl rfl ?_
        refine T_if_ne d_Cu_solve_295 (tgt := 312) rfl (fun c => absurd c (by decide)) (fun _ => ?_)
        refine T_aload_n (v := .ref 77) d_Cu_solve_298 rfl (Or.inr ⟨_, rfl⟩) ?_
        refine T_getfield d_Cu_solve_299 fg_Cu_10 o77_20 rfl ?_
        refine T_aload_n (v := .ref 77) d_Cu_solve_302 rfl (Or.inr ⟨_, rfl⟩) ?_
        refine T_getfield d_Cu_solve_303 fg_Cu_52 o77_20 rfl ?_
        refine T_visz d_Cu_solve_306 (jw_Fi_isZero.jo (by decide)) lm_Cu_164 (by decide) (by decide) (by decide) o78_20 w20 v99_20 (by decide) (fun M21 w21 s21 => ?_)
        have v102_21 := v102_20.st s21 (by decide)
        have v3_21 := v3_20.st s21 (by decide)
        have v5_21 := v5_20.st s21 (by decide)
        have v94_21 := v94_20.st s21 (by decide)
        have v95_21 := v95_20.st s21 (by decide)
        have v96_21 := v96_20.st s21 (by decide)
        have v98_21 := v98_20.st s21 (by decide)
        have v101_21 := v101_20.st s21 (by decide)
        have v97_21 := v97_20.st s21 (by decide)
        have v99_21 := v99_20.st s21 (by decide)
        have v100_21 := v100_20.st s21 (by decide)
        have r80_21 := r80_20.st s21 (by decide)
        have r81_21 := r81_20.st s21 (by decide)
        have r82_21 := r82_20.st s21 (by decide)
        have r83_21 := r83_20.st s21 (by decide)
        have r84_21 := r84_20.st s21 (by decide)
        have r85_21 := r85_20.st s21 (by decide)
        have o77_21 := (s21 77 (by decide)).trans o77_20
        have o78_21 := (s21 78 (by decide)).trans o78_20
        by_cases h21 : (dG S) % pP = 0
        · rw [if_pos h21]
          refine T_eq (pc' := 309) (L' := [(2, .int (nI 1)), (0, .ref 77), (1, .ref po)]) (st' := [.int (nI 1)]) (M' := M21) rfl rfl rfl rfl ?_
          refine T_if_eq d_Cu_solve_309 (tgt := 314) rfl (fun c => absurd c (by decide)) (fun _ => ?_)
          refine T_iconst (v := nI 0) d_Cu_solve_312 (by decide) ?_
          have eE : dE S = dE0 S := by unfold dE; exact if_neg h14
          have kp0 : Kp [79, 80, 81, 82, 83, 84, 85, 94, 95, 96, 97, 98, 99, 100, 101] M M21 := (Kp.ex (Kp.ex (Kp.ex (Kp.ex (Kp.ex (Kp.ex (Kp.ex (Kp.ex (Kp.ex (Kp.ex (Kp.ex (Kp.tr (Kp.ex (Kp.ex (Kp.ex (Kp.ex (Kp.ex (Kp.ex (Kp.ex (Kp.ex (Kp.ex Kp.rf s1 (by decide)) s2 (by decide)) s3 (by decide)) s4 (by decide)) s5 (by decide)) s6 (by decide)) s7 (by decide)) s8 (by decide)) s9 (by decide)) (Kp.mono s10 (by decide))) s11 (by decide)) s12 (by decide)) s13 (by decide)) s14 (by decide)) s15 (by decide)) s16 (by decide)) s17 (by decide)) s18 (by decide)) s19 (by decide)) s20 (by decide)) s21 (by decide))
          have kp1 : Kp [79, 80, 81, 82, 83, 84, 85, 94, 95, 96, 97, 98, 99, 100, 101, X, Y, Z, T] M M21 := kp0.mono (fun q hq => (List.mem_append_left [X, Y, Z, T] hq : q ∈ [79, 80, 81, 82, 83, 84, 85, 94, 95, 96, 97, 98, 99, 100, 101] ++ [X, Y, Z, T]))
          have ok : dOK S = false := by
            unfold dOK
            rw [decide_eq_true h21]; simp
          exact T_ret d_Cu_solve_313 rfl (by decide) (by decide) (by decide) ⟨by rw [ok]; rfl, fun c => absurd (ok.symm.trans c) (by decide), kp1, List.forall_mem_cons.mpr ⟨w21, List.forall_mem_cons.mpr ⟨r80_21, List.forall_mem_cons.mpr ⟨r81_21, List.forall_mem_cons.mpr ⟨r82_21, List.forall_mem_cons.mpr ⟨r83_21, List.forall_mem_cons.mpr ⟨r84_21, List.forall_mem_cons.mpr ⟨r85_21, List.forall_mem_cons.mpr ⟨v94_21.rq, List.forall_mem_cons.mpr ⟨v95_21.rq, List.forall_mem_cons.mpr ⟨v96_21.rq, List.forall_mem_cons.mpr ⟨v97_21.rq, List.forall_mem_cons.mpr ⟨v98_21.rq, List.forall_mem_cons.mpr ⟨v99_21.rq, List.forall_mem_cons.mpr ⟨v100_21.rq, List.forall_mem_cons.mpr ⟨v101_21.rq, fun _ h => by cases h⟩⟩⟩⟩⟩⟩⟩⟩⟩⟩⟩⟩⟩⟩⟩, hX.kp kp0 (nw X bX), hY.kp kp0 (nw Y bY), hZ.kp kp0 (nw Z bZ), hT.kp kp0 (nw T bT)⟩
        · rw [if_neg h21]
          refine T_eq (pc' := 309) (L' := [(2, .int (nI 1)), (0, .ref 77), (1, .ref po)]) (st' := [.int (nI 0)]) (M' := M21) rfl rfl rfl rfl ?_
          refine T_if_eq d_Cu_solve_309 (tgt := 314) rfl (fun _ => ?_) (fun c => absurd c (by decide))
          refine T_aload_n (v := .ref po) d_Cu_solve_314 rfl (Or.inr ⟨_, rfl⟩) ?_
          refine T_aload_n (v := .ref 77) d_Cu_solve_315 rfl (Or.inr ⟨_, rfl⟩) ?_
          refine T_getfield d_Cu_solve_316 fg_Cu_46 o77_21 rfl ?_
          refine T_aload_n (v := .ref 77) d_Cu_solve_319 rfl (Or.inr ⟨_, rfl⟩) ?_
          refine T_getfield d_Cu_solve_320 fg_Cu_52 o77_21 rfl ?_
          have eE : dE S = dE0 S := by unfold dE; exact if_neg h14
          have kp0 : Kp [79, 80, 81, 82, 83, 84, 85, 94, 95, 96, 97, 98, 99, 100, 101] M M21 := (Kp.ex (Kp.ex (Kp.ex (Kp.ex (Kp.ex (Kp.ex (Kp.ex (Kp.ex (Kp.ex (Kp.ex (Kp.ex (Kp.tr (Kp.ex (Kp.ex (Kp.ex (Kp.ex (Kp.ex (Kp.ex (Kp.ex (Kp.ex (Kp.ex Kp.rf s1 (by decide)) s2 (by decide)) s3 (by decide)) s4 (by decide)) s5 (by decide)) s6 (by decide)) s7 (by decide)) s8 (by decide)) s9 (by decide)) (Kp.mono s10 (by decide))) s11 (by decide)) s12 (by decide)) s13 (by decide)) s14 (by decide)) s15 (by decide)) s16 (by decide)) s17 (by decide)) s18 (by decide)) s19 (by decide)) s20 (by decide)) s21 (by decide))
          have kp1 : Kp [79, 80, 81, 82, 83, 84, 85, 94, 95, 96, 97, 98, 99, 100, 101, X, Y, Z, T] M M21 := kp0.mono (fun q hq => (List.mem_append_left [X, Y, Z, T] hq : q ∈ [79, 80, 81, 82, 83, 84, 85, 94, 95, 96, 97, 98, 99, 100, 101] ++ [X, Y, Z, T]))
          have eH : ¬ (dH S % pP) % 2 = 1 := by unfold dH; rw [eE]; exact h20
          have ok : dOK S = true := by unfold dOK; rw [hG, decide_eq_false eH, decide_eq_false h21]; rfl
          have e97 : Rv M21 97 (dE S) 2 := by rw [eE]; exact v97_21
          refine T_virtual (as := [.ref 97, .ref 99]) (rest := []) (b := po) d_Cu_solve_323 rfl (jw_Po_setPlain.jo (by decide)) lm_Cu_106 ji_Po_setPlain js_Po_setPlain ((kp0 po (nw po bp)).trans hp) rfl rfl rfl (Nat.le_of_ble_eq_true rfl) (by decide) (by decide) (v_Po_setPlain G ((kp0 po (nw po bp)).trans hp) (hX.kp kp0 (nw X bX)) (hY.kp kp0 (nw Y bY)) (hZ.kp kp0 (nw Z bZ)) (hT.kp kp0 (nw T bT)) e97 v99_21 (by decide) (k6 X bX) (k6 Y bY) (k6 Z bZ) (k6 T bT) (Ne.symm (m6 T bT 3 (by decide))) (Ne.symm (m6 X bX 3 (by decide))) (Ne.symm (m6 Y bY 3 (by decide))) (Ne.symm (m6 Z bZ 3 (by decide))) d_T_X d_T_Y d_T_Z d_X_T d_X_Y d_X_Z d_Y_T d_Y_X d_Y_Z d_Z_T d_Z_X d_Z_Y (Ne.symm (m6 T bT 97 (by decide))) (Ne.symm (m6 X bX 97 (by decide))) (Ne.symm (m6 Y bY 97 (by decide))) (Ne.symm (m6 Z bZ 97 (by decide))) (Ne.symm (m6 T bT 99 (by decide))) (Ne.symm (m6 X bX 99 (by decide))) (Ne.symm (m6 Y bY 99 (by decide))) (Ne.symm (m6 Z bZ 99 (by decide))) d_po_T d_po_X d_po_Y d_po_Z) (fun r0 M9 hq => ?_)
          obtain ⟨rfl, hv, hk9⟩ := hq
          refine T_iconst (v := nI 1) d_Cu_solve_326 (by decide) ?_
          exact T_ret d_Cu_solve_327 rfl (by decide) (by decide) (by decide) ⟨by rw [ok]; rfl, fun _ => hv, Kp.tr kp1 (hk9.mono (fun q hq => (List.mem_append_right [79, 80, 81, 82, 83, 84, 85, 94, 95, 96, 97, 98, 99, 100, 101] hq : q ∈ [79, 80, 81, 82, 83, 84, 85, 94, 95, 96, 97, 98, 99, 100, 101] ++ [X, Y, Z, T]))), List.forall_mem_cons.mpr ⟨w21.kp hk9 (nx 79 (by decide)), List.forall_mem_cons.mpr ⟨r80_21.kp hk9 (nx 80 (by decide)), List.forall_mem_cons.mpr ⟨r81_21.kp hk9 (nx 81 (by decide)), List.forall_mem_cons.mpr ⟨r82_21.kp hk9 (nx 82 (by decide)), List.forall_mem_cons.mpr ⟨r83_21.kp hk9 (nx 83 (by decide)), List.forall_mem_cons.mpr ⟨r84_21.kp hk9 (nx 84 (by decide)), List.forall_mem_cons.mpr ⟨r85_21.kp hk9 (nx 85 (by decide)), List.forall_mem_cons.mpr ⟨v94_21.rq.kp hk9 (nx 94 (by decide)), List.forall_mem_cons.mpr ⟨v95_21.rq.kp hk9 (nx 95 (by decide)), List.forall_mem_cons.mpr ⟨v96_21.rq.kp hk9 (nx 96 (by decide)), List.forall_mem_cons.mpr ⟨v97_21.rq.kp hk9 (nx 97 (by decide)), List.forall_mem_cons.mpr ⟨v98_21.rq.kp hk9 (nx 98 (by decide)), List.forall_mem_cons.mpr ⟨v99_21.rq.kp hk9 (nx 99 (by decide)), List.forall_mem_cons.mpr ⟨v100_21.rq.kp hk9 (nx 100 (by decide)), List.forall_mem_cons.mpr ⟨v101_21.rq.kp hk9 (nx 101 (by decide)), fun _ h => by cases h⟩⟩⟩⟩⟩⟩⟩⟩⟩⟩⟩⟩⟩⟩⟩, hv.1.rq, hv.2.1.rq, hv.2.2.1.rq, hv.2.2.2.rq⟩
  · rw [hG]
    refine T_eq (pc' := 137) (L' := [(0, .ref 77), (1, .ref po)]) (st' := [.int (nI 0)]) (M' := M10) rfl rfl rfl rfl ?_
    refine T_istore_n (L' := [(2, .int (nI 0)), (0, .ref 77), (1, .ref po)]) d_Cu_solve_137 (by decide) rfl ?_
    refine T_aload_n (v := .ref 77) d_Cu_solve_138 rfl (Or.inr ⟨_, rfl⟩) ?_
    refine T_getfield d_Cu_solve_139 fg_Cu_46 o77_10 rfl ?_
    refine T_aload_n (v := .ref 77) d_Cu_solve_142 rfl (Or.inr ⟨_, rfl⟩) ?_
    refine T_getfield d_Cu_solve_143 fg_Cu_61 o77_10 rfl ?_
    refine T_aload_n (v := .ref 77) d_Cu_solve_146 rfl (Or.inr ⟨_, rfl⟩) ?_
    refine T_getfield d_Cu_solve_147 fg_Cu_58 o77_10 rfl ?_
    refine T_vmul d_Cu_solve_150 (jw_Fi_multiply.jo (by decide)) lm_Cu_74 (by decide) (by decide) (by decide) (by decide) r97_10 v102_10 x10 (by decide) (fun M11 w11 s11 => ?_)
    have v102_11 := v102_10.st s11 (by decide)
    have v3_11 := v3_10.st s11 (by decide)
    have v5_11 := v5_10.st s11 (by decide)
    have v94_11 := v94_10.st s11 (by decide)
    have v95_11 := v95_10.st s11 (by decide)
    have v96_11 := v96_10.st s11 (by decide)
    have v98_11 := v98_10.st s11 (by decide)
    have v101_11 := x10.st s11 (by decide)
    have r79_11 := r79_10.st s11 (by decide)
    have r80_11 := r80_10.st s11 (by decide)
    have r81_11 := r81_10.st s11 (by decide)
    have r82_11 := r82_10.st s11 (by decide)
    have r83_11 := r83_10.st s11 (by decide)
    have r84_11 := r84_10.st s11 (by decide)
    have r85_11 := r85_10.st s11 (by decide)
    have r99_11 := r99_10.st s11 (by decide)
    have r100_11 := r100_10.st s11 (by decide)
    have o77_11 := (s11 77 (by decide)).trans o77_10
    have o78_11 := (s11 78 (by decide)).trans o78_10
    refine T_aload_n (v := .ref 77) d_Cu_solve_153 rfl (Or.inr ⟨_, rfl⟩) ?_
    refine T_getfield d_Cu_solve_154 fg_Cu_46 o77_11 rfl ?_
    refine T_aload_n (v := .ref 77) d_Cu_solve_157 rfl (Or.inr ⟨_, rfl⟩) ?_
    refine T_getfield d_Cu_solve_158 fg_Cu_46 o77_11 rfl ?_
    refine T_aload_n (v := .ref 77) d_Cu_solve_161 rfl (Or.inr ⟨_, rfl⟩) ?_
    refine T_getfield d_Cu_solve_162 fg_Cu_40 o77_11 rfl ?_
    refine T_vmul d_Cu_solve_165 (jw_Fi_multiply.jo (by decide)) lm_Cu_74 (by decide) (by decide) (by decide) (by decide) w11.rq w11 v95_11 (by decide) (fun M12 w12 s12 => ?_)
    have v102_12 := v102_11.st s12 (by decide)
    have v3_12 := v3_11.st s12 (by decide)
    have v5_12 := v5_11.st s12 (by decide)
    have v94_12 := v94_11.st s12 (by decide)
    have v95_12 := v95_11.st s12 (by decide)
    have v96_12 := v96_11.st s12 (by decide)
    have v98_12 := v98_11.st s12 (by decide)
    have v101_12 := v101_11.st s12 (by decide)
    have r79_12 := r79_11.st s12 (by decide)
    have r80_12 := r80_11.st s12 (by decide)
    have r81_12 := r81_11.st s12 (by decide)
    have r82_12 := r82_11.st s12 (by decide)
    have r83_12 := r83_11.st s12 (by decide)
    have r84_12 := r84_11.st s12 (by decide)
    have r85_12 := r85_11.st s12 (by decide)
    have r99_12 := r99_11.st s12 (by decide)
    have r100_12 := r100_11.st s12 (by decide)
    have o77_12 := (s12 77 (by decide)).trans o77_11
    have o78_12 := (s12 78 (by decide)).trans o78_11
    refine T_aload_n (v := .ref 77) d_Cu_solve_168 rfl (Or.inr ⟨_, rfl⟩) ?_
    refine T_getfield d_Cu_solve_169 fg_Cu_46 o77_12 rfl ?_
    refine T_aload_n (v := .ref 77) d_Cu_solve_172 rfl (Or.inr ⟨_, rfl⟩) ?_
    refine T_getfield d_Cu_solve_173 fg_Cu_46 o77_12 rfl ?_
    refine T_aload_n (v := .ref 77) d_Cu_solve_176 rfl (Or.inr ⟨_, rfl⟩) ?_
    refine T_getfield d_Cu_solve_177 fg_Cu_46 o77_12 rfl ?_
    refine T_vadd d_Cu_solve_180 (jw_Fi_add.jo (by decide)) lm_Cu_77 (by decide) (by decide) (by decide) (by decide) w12.rq w12 w12 (by decide) (fun M13 w13 s13 => ?_)
    have v102_13 := v102_12.st s13 (by decide)
    have v3_13 := v3_12.st s13 (by decide)
    have v5_13 := v5_12.st s13 (by decide)
    have v94_13 := v94_12.st s13 (by decide)
    have v95_13 := v95_12.st s13 (by decide)
    have v96_13 := v96_12.st s13 (by decide)
    have v98_13 := v98_12.st s13 (by decide)
    have v101_13 := v101_12.st s13 (by decide)
    have r79_13 := r79_12.st s13 (by decide)
    have r80_13 := r80_12.st s13 (by decide)
    have r81_13 := r81_12.st s13 (by decide)
    have r82_13 := r82_12.st s13 (by decide)
    have r83_13 := r83_12.st s13 (by decide)
    have r84_13 := r84_12.st s13 (by decide)
    have r85_13 := r85_12.st s13 (by decide)
    have r99_13 := r99_12.st s13 (by decide)
    have r100_13 := r100_12.st s13 (by decide)
    have o77_13 := (s13 77 (by decide)).trans o77_12
    have o78_13 := (s13 78 (by decide)).trans o78_12
    have x13 : Rv M13 97 (dE0 S) 2 := w13
    refine T_aload_n (v := .ref 77) d_Cu_solve_183 rfl (Or.inr ⟨_, rfl⟩) ?_
    refine T_getfield d_Cu_solve_184 fg_Cu_10 o77_13 rfl ?_
    refine T_aload_n (v := .ref 77) d_Cu_solve_187 rfl (Or.inr ⟨_, rfl⟩) ?_
    refine T_getfield d_Cu_solve_188 fg_Cu_46 o77_13 rfl ?_
    refine T_visodd d_Cu_solve_191 (jw_Fi_isOdd.jo (by decide)) lm_Cu_127 (by decide) (by decide) (by decide) o78_13 r79_13 x13 (by decide) (fun M14 w14 s14 => ?_)
    have v102_14 := v102_13.st s14 (by decide)
    have v3_14 := v3_13.st s14 (by decide)
    have v5_14 := v5_13.st s14 (by decide)
    have v94_14 := v94_13.st s14 (by decide)
    have v95_14 := v95_13.st s14 (by decide)
    have v96_14 := v96_13.st s14 (by decide)
    have v98_14 := v98_13.st s14 (by decide)
    have v101_14 := v101_13.st s14 (by decide)
    have v97_14 := x13.st s14 (by decide)
    have r80_14 := r80_13.st s14 (by decide)
    have r81_14 := r81_13.st s14 (by decide)
    have r82_14 := r82_13.st s14 (by decide)
    have r83_14 := r83_13.st s14 (by decide)
    have r84_14 := r84_13.st s14 (by decide)
    have r85_14 := r85_13.st s14 (by decide)
    have r99_14 := r99_13.st s14 (by decide)
    have r100_14 := r100_13.st s14 (by decide)
    have o77_14 := (s14 77 (by decide)).trans o77_13
    have o78_14 := (s14 78 (by decide)).trans o78_13
    by_cases h14 : ((dE0 S) % pP) % 2 = 1
    · rw [if_pos h14]
      refine T_eq (pc' := 194) (L' := [(2, .int (nI 0)), (0, .ref 77), (1, .ref po)]) (st' := [.int (nI 1)]) (M' := M14) rfl rfl rfl rfl ?_
      refine T_if_eq d_Cu_solve_194 (tgt := 208) rfl (fun c => absurd c (by decide)) (fun _ => ?_)
      refine T_aload_n (v := .ref 77) d_Cu_solve_197 rfl (Or.inr ⟨_, rfl⟩) ?_
      refine T_getfield d_Cu_solve_198 fg_Cu_46 o77_14 rfl ?_
      refine T_aload_n (v := .ref 77) d_Cu_solve_201 rfl (Or.inr ⟨_, rfl⟩) ?_
      refine T_getfield d_Cu_solve_202 fg_Cu_46 o77_14 rfl ?_
      refine T_vneg d_Cu_solve_205 (jw_Fi_negate.jo (by decide)) lm_Cu_139 (by decide) (by decide) (by decide) (by decide) v97_14.rq v97_14 (by decide) (fun M15 w15 s15 => ?_)
      have v102_15 := v102_14.st s15 (by decide)
      have v3_15 := v3_14.st s15 (by decide)
      have v5_15 := v5_14.st s15 (by decide)
      have v94_15 := v94_14.st s15 (by decide)
      have v95_15 := v95_14.st s15 (by decide)
      have v96_15 := v96_14.st s15 (by decide)
      have v98_15 := v98_14.st s15 (by decide)
      have v101_15 := v101_14.st s15 (by decide)
      have r79_15 := w14.st s15 (by decide)
      have r80_15 := r80_14.st s15 (by decide)
      have r81_15 := r81_14.st s15 (by decide)
      have r82_15 := r82_14.st s15 (by decide)
      have r83_15 := r83_14.st s15 (by decide)
      have r84_15 := r84_14.st s15 (by decide)
      have r85_15 := r85_14.st s15 (by decide)
      have r99_15 := r99_14.st s15 (by decide)
      have r100_15 := r100_14.st s15 (by decide)
      have o77_15 := (s15 77 (by decide)).trans o77_14
      have o78_15 := (s15 78 (by decide)).trans o78_14
      refine T_aload_n (v := .ref 77) d_Cu_solve_208 rfl (Or.inr ⟨_, rfl⟩) ?_
      refine T_getfield d_Cu_solve_209 fg_Cu_52 o77_15 rfl ?_
      refine T_aload_n (v := .ref 77) d_Cu_solve_212 rfl (Or.inr ⟨_, rfl⟩) ?_
      refine T_getfield d_Cu_solve_213 fg_Cu_58 o77_15 rfl ?_
      refine T_iconst (v := nI 1) d_Cu_solve_216 (by decide) ?_
      refine T_vsq1 d_Cu_solve_217 (jw_Fi_square.jo (by decide)) lm_Cu_89 (by decide) (by decide) (by decide) (by decide) r99_15 v101_15 (by decide) (fun M16 w16 s16 => ?_)
      have v102_16 := v102_15.st s16 (by decide)
      have v3_16 := v3_15.st s16 (by decide)
      have v5_16 := v5_15.st s16 (by decide)
      have v94_16 := v94_15.st s16 (by decide)
      have v95_16 := v95_15.st s16 (by decide)
      have v96_16 := v96_15.st s16 (by decide)
      have v98_16 := v98_15.st s16 (by decide)
      have v101_16 := v101_15.st s16 (by decide)
      have v97_16 := w15.st s16 (by decide)
      have r79_16 := r79_15.st s16 (by decide)
      have r80_16 := r80_15.st s16 (by decide)
      have r81_16 := r81_15.st s16 (by decide)
      have r82_16 := r82_15.st s16 (by decide)
      have r83_16 := r83_15.st s16 (by decide)
      have r84_16 := r84_15.st s16 (by decide)
      have r85_16 := r85_15.st s16 (by decide)
      have r100_16 := r100_15.st s16 (by decide)
      have o77_16 := (s16 77 (by decide)).trans o77_15
      have o78_16 := (s16 78 (by decide)).trans o78_15
      refine T_aload_n (v := .ref 77) d_Cu_solve_220 rfl (Or.inr ⟨_, rfl⟩) ?_
      refine T_getfield d_Cu_solve_221 fg_Cu_52 o77_16 rfl ?_
      refine T_aload_n (v := .ref 77) d_Cu_solve_224 rfl (Or.inr ⟨_, rfl⟩) ?_
      refine T_getfield d_Cu_solve_225 fg_Cu_52 o77_16 rfl ?_
      refine T_aload_n (v := .ref 77) d_Cu_solve_228 rfl (Or.inr ⟨_, rfl⟩) ?_
      refine T_getfield d_Cu_solve_229 fg_Cu_36 o77_16 rfl ?_
      refine T_vmul d_Cu_solve_232 (jw_Fi_multiply.jo (by decide)) lm_Cu_74 (by decide) (by decide) (by decide) (by decide) w16.rq w16 v94_16 (by decide) (fun M17 w17 s17 => ?_)
      have v102_17 := v102_16.st s17 (by decide)
      have v3_17 := v3_16.st s17 (by decide)
      have v5_17 := v5_16.st s17 (by decide)
      have v94_17 := v94_16.st s17 (by decide)
      have v95_17 := v95_16.st s17 (by decide)
      have v96_17 := v96_16.st s17 (by decide)
      have v98_17 := v98_16.st s17 (by decide)
      have v101_17 := v101_16.st s17 (by decide)
      have v97_17 := v97_16.st s17 (by decide)
      have r79_17 := r79_16.st s17 (by decide)
      have r80_17 := r80_16.st s17 (by decide)
      have r81_17 := r81_16.st s17 (by decide)
      have r82_17 := r82_16.st s17 (by decide)
      have r83_17 := r83_16.st s17 (by decide)
      have r84_17 := r84_16.st s17 (by decide)
      have r85_17 := r85_16.st s17 (by decide)
      have r100_17 := r100_16.st s17 (by decide)
      have o77_17 := (s17 77 (by decide)).trans o77_16
      have o78_17 := (s17 78 (by decide)).trans o78_16
      refine T_aload_n (v := .ref 77) d_Cu_solve_235 rfl (Or.inr ⟨_, rfl⟩) ?_
      refine T_getfield d_Cu_solve_236 fg_Cu_52 o77_17 rfl ?_
      refine T_aload_n (v := .ref 77) d_Cu_solve_239 rfl (Or.inr ⟨_, rfl⟩) ?_
      refine T_getfield d_Cu_solve_240 fg_Cu_52 o77_17 rfl ?_
      refine T_aload_n (v := .ref 77) d_Cu_solve_243 rfl (Or.inr ⟨_, rfl⟩) ?_
      refine T_getfield d_Cu_solve_244 fg_Cu_40 o77_17 rfl ?_
      refine T_vmul d_Cu_solve_247 (jw_Fi_multiply.jo (by decide)) lm_Cu_74 (by decide) (by decide) (by decide) (by decide) w17.rq w17 v95_17 (by decide) (fun M18 w18 s18 => ?_)
      have v102_18 := v102_17.st s18 (by decide)
      have v3_18 := v3_17.st s18 (by decide)
      have v5_18 := v5_17.st s18 (by decide)
      have v94_18 := v94_17.st s18 (by decide)
      have v95_18 := v95_17.st s18 (by decide)
      have v96_18 := v96_17.st s18 (by decide)
      have v98_18 := v98_17.st s18 (by decide)
      have v101_18 := v101_17.st s18 (by decide)
      have v97_18 := v97_17.st s18 (by decide)
      have r79_18 := r79_17.st s18 (by decide)
      have r80_18 := r80_17.st s18 (by decide)
      have r81_18 := r81_17.st s18 (by decide)
      have r82_18 := r82_17.st s18 (by decide)
      have r83_18 := r83_17.st s18 (by decide)
      have r84_18 := r84_17.st s18 (by decide)
      have r85_18 := r85_17.st s18 (by decide)
      have r100_18 := r100_17.st s18 (by decide)
      have o77_18 := (s18 77 (by decide)).trans o77_17
      have o78_18 := (s18 78 (by decide)).trans o78_17
      refine T_aload_n (v := .ref 77) d_Cu_solve_250 rfl (Or.inr ⟨_, rfl⟩) ?_
      refine T_getfield d_Cu_solve_251 fg_Cu_52 o77_18 rfl ?_
      refine T_aload_n (v := .ref 77) d_Cu_solve_254 rfl (Or.inr ⟨_, rfl⟩) ?_
      refine T_getfield d_Cu_solve_255 fg_Cu_52 o77_18 rfl ?_
      refine T_aload_n (v := .ref 77) d_Cu_solve_258 rfl (Or.inr ⟨_, rfl⟩) ?_
      refine T_getfield d_Cu_solve_259 fg_Cu_49 o77_18 rfl ?_
      refine T_vmul d_Cu_solve_262 (jw_Fi_multiply.jo (by decide)) lm_Cu_74 (by decide) (by decide) (by decide) (by decide) w18.rq w18 v98_18 (by decide) (fun M19 w19 s19 => ?_)
      have v102_19 := v102_18.st s19 (by decide)
      have v3_19 := v3_18.st s19 (by decide)
      have v5_19 := v5_18.st s19 (by decide)
      have v94_19 := v94_18.st s19 (by decide)
      have v95_19 := v95_18.st s19 (by decide)
      have v96_19 := v96_18.st s19 (by decide)
      have v98_19 := v98_18.st s19 (by decide)
      have v101_19 := v101_18.st s19 (by decide)
      have v97_19 := v97_18.st s19 (by decide)
      have r79_19 := r79_18.st s19 (by decide)
      have r80_19 := r80_18.st s19 (by decide)
      have r81_19 := r81_18.st s19 (by decide)
      have r82_19 := r82_18.st s19 (by decide)
      have r83_19 := r83_18.st s19 (by decide)
      have r84_19 := r84_18.st s19 (by decide)
      have r85_19 := r85_18.st s19 (by decide)
      have r100_19 := r100_18.st s19 (by decide)
      have o77_19 := (s19 77 (by decide)).trans o77_18
      have o78_19 := (s19 78 (by decide)).trans o78_18
      have x19 : Rv M19 99 (dG S) 1 := w19
      refine T_aload_n (v := .ref 77) d_Cu_solve_265 rfl (Or.inr ⟨_, rfl⟩) ?_
      refine T_getfield d_Cu_solve_266 fg_Cu_55 o77_19 rfl ?_
      refine T_aload_n (v := .ref 77) d_Cu_solve_269 rfl (Or.inr ⟨_, rfl⟩) ?_
      refine T_getfield d_Cu_solve_270 fg_Cu_46 o77_19 rfl ?_
      refine T_aload_n (v := .ref 77) d_Cu_solve_273 rfl (Or.inr ⟨_, rfl⟩) ?_
      refine T_getfield d_Cu_solve_274 fg_Cu_52 o77_19 rfl ?_
      refine T_vmul d_Cu_solve_277 (jw_Fi_multiply.jo (by decide)) lm_Cu_74 (by decide) (by decide) (by decide) (by decide) r100_19 v97_19 x19 (by decide) (fun M20 w20 s20 => ?_)
      have v102_20 := v102_19.st s20 (by decide)
      have v3_20 := v3_19.st s20 (by decide)
      have v5_20 := v5_19.st s20 (by decide)
      have v94_20 := v94_19.st s20 (by decide)
      have v95_20 := v95_19.st s20 (by decide)
      have v96_20 := v96_19.st s20 (by decide)
      have v98_20 := v98_19.st s20 (by decide)
      have v101_20 := v101_19.st s20 (by decide)
      have v97_20 := v97_19.st s20 (by decide)
      have v99_20 := x19.st s20 (by decide)
      have r79_20 := r79_19.st s20 (by decide)
      have r80_20 := r80_19.st s20 (by decide)
      have r81_20 := r81_19.st s20 (by decide)
      have r82_20 := r82_19.st s20 (by decide)
      have r83_20 := r83_19.st s20 (by decide)
      have r84_20 := r84_19.st s20 (by decide)
      have r85_20 := r85_19.st s20 (by decide)
      have o77_20 := (s20 77 (by decide)).trans o77_19
      have o78_20 := (s20 78 (by decide)).trans o78_19
      refine T_iload_n d_Cu_solve_280 rfl ?_
      refine T_if_eq d_Cu_solve_281 (tgt := 312) rfl (fun _ => ?_) (fun c => absurd c (by decide))
      refine T_iconst (v := nI 0) d_Cu_solve_312 (by decide) ?_
      have eE : dE S = -dE0 S := by unfold dE; exact if_pos h14
      have kp0 : Kp [79, 80, 81, 82, 83, 84, 85, 94, 95, 96, 97, 98, 99, 100, 101] M M20 := (Kp.ex (Kp.ex (Kp.ex (Kp.ex (Kp.ex (Kp.ex (Kp.ex (Kp.ex (Kp.ex (Kp.ex (Kp.tr (Kp.ex (Kp.ex (Kp.ex (Kp.ex (Kp.ex (Kp.ex (Kp.ex (Kp.ex (Kp.ex Kp.rf s1 (by decide)) s2 (by decide)) s3 (by decide)) s4 (by decide)) s5 (by decide)) s6 (by decide)) s7 (by decide)) s8 (by decide)) s9 (by decide)) (Kp.mono s10 (by decide))) s11 (by decide)) s12 (by decide)) s13 (by decide)) s14 (by decide)) s15 (by decide)) s16 (by decide)) s17 (by decide)) s18 (by decide)) s19 (by decide)) s20 (by decide))
      have kp1 : Kp [79, 80, 81, 82, 83, 84, 85, 94, 95, 96, 97, 98, 99, 100, 101, X, Y, Z, T] M M20 := kp0.mono (fun q hq => (List.mem_append_left [X, Y, Z, T] hq : q ∈ [79, 80, 81, 82, 83, 84, 85, 94, 95, 96, 97, 98, 99, 100, 101] ++ [X, Y, Z, T]))
      have ok : dOK S = false := by
        unfold dOK
        rw [hG]; rfl
      exact T_ret d_Cu_solve_313 rfl (by decide) (by decide) (by decide) ⟨by rw [ok]; rfl, fun c => absurd (ok.symm.trans c) (by decide), kp1, List.forall_mem_cons.mpr ⟨r79_20, List.forall_mem_cons.mpr ⟨r80_20, List.forall_mem_cons.mpr ⟨r81_20, List.forall_mem_cons.mpr ⟨r82_20, List.forall_mem_cons.mpr ⟨r83_20, List.forall_mem_cons.mpr ⟨r84_20, List.forall_mem_cons.mpr ⟨r85_20, List.forall_mem_cons.mpr ⟨v94_20.rq, List.forall_mem_cons.mpr ⟨v95_20.rq, List.forall_mem_cons.mpr ⟨v96_20.rq, List.forall_mem_cons.mpr ⟨v97_20.rq, List.forall_mem_cons.mpr ⟨v98_20.rq, List.forall_mem_cons.mpr ⟨v99_20.rq, List.forall_mem_cons.mpr ⟨w20.rq, List.forall_mem_cons.mpr ⟨v101_20.rq, fun _ h => by cases h⟩⟩⟩⟩⟩⟩⟩⟩⟩⟩⟩⟩⟩⟩⟩, hX.kp kp0 (nw X bX), hY.kp kp0 (nw Y bY), hZ.kp kp0 (nw Z bZ), hT.kp kp0 (nw T bT)⟩
    · rw [if_neg h14]
      refine T_eq (pc' := 194) (L' := [(2, .int (nI 0)), (0, .ref 77), (1, .ref po)]) (st' := [.int (nI 0)]) (M' := M14) rfl rfl rfl rfl ?_
      refine T_if_eq d_Cu_solve_194 (tgt := 208) rfl (fun _ => ?_) (fun c => absurd c (by decide))
      refine T_aload_n (v := .ref 77) d_Cu_solve_208 rfl (Or.inr ⟨_, rfl⟩) ?_
      refine T_getfield d_Cu_solve_209 fg_Cu_52 o77_14 rfl ?_
      refine T_aload_n (v := .ref 77) d_Cu_solve_212 rfl (Or.inr ⟨_, rfl⟩) ?_
      refine T_getfield d_Cu_solve_213 fg_Cu_58 o77_14 rfl ?_
      refine T_iconst (v := nI 1) d_Cu_solve_216 (by decide) ?_
      refine T_vsq1 d_Cu_solve_217 (jw_Fi_square.jo (by decide)) lm_Cu_89 (by decide) (by decide) (by decide) (by decide) r99_14 v101_14 (by decide) (fun M15 w15 s15 => ?_)
      have v102_15 := v102_14.st s15 (by decide)
      have v3_15 := v3_14.st s15 (by decide)
      have v5_15 := v5_14.st s15 (by decide)
      have v94_15 := v94_14.st s15 (by decide)
      have v95_15 := v95_14.st s15 (by decide)
      have v96_15 := v96_14.st s15 (by decide)
      have v98_15 := v98_14.st s15 (by decide)
      have v101_15 := v101_14.st s15 (by decide)
      have v97_15 := v97_14.st s15 (by decide)
      have r79_15 := w14.st s15 (by decide)
      have r80_15 := r80_14.st s15 (by decide)
      have r81_15 := r81_14.st s15 (by decide)
      have r82_15 := r82_14.st s15 (by decide)
      have r83_15 := r83_14.st s15 (by decide)
      have r84_15 := r84_14.st s15 (by decide)
      have r85_15 := r85_14.st s15 (by decide)
      have r100_15 := r100_14.st s15 (by decide)
      have o77_15 := (s15 77 (by decide)).trans o77_14
      have o78_15 := (s15 78 (by decide)).trans o78_14
      refine T_aload_n (v := .ref 77) d_Cu_solve_220 rfl (Or.inr ⟨_, rfl⟩) ?_
      refine T_getfield d_Cu_solve_221 fg_Cu_52 o77_15 rfl ?_
      refine T_aload_n (v := .ref 77) d_Cu_solve_224 rfl (Or.inr ⟨_, rfl⟩) ?_
      refine T_getfield d_Cu_solve_225 fg_Cu_52 o77_15 rfl ?_
      refine T_aload_n (v := .ref 77) d_Cu_solve_228 rfl (Or.inr ⟨_, rfl⟩) ?_
      refine T_getfield d_Cu_solve_229 fg_Cu_36 o77_15 rfl ?_
      refine T_vmul d_Cu_solve_232 (jw_Fi_multiply.jo (by decide)) lm_Cu_74 (by decide) (by decide) (by decide) (by decide) w15.rq w15 v94_15 (by decide) (fun M16 w16 s16 => ?_)
      have v102_16 := v102_15.st s16 (by decide)
      have v3_16 := v3_15.st s16 (by decide)
      have v5_16 := v5_15.st s16 (by decide)
      have v94_16 := v94_15.st s16 (by decide)
      have v95_16 := v95_15.st s16 (by decide)
      have v96_16 := v96_15.st s16 (by decide)
      have v98_16 := v98_15.st s16 (by decide)
      have v101_16 := v101_15.st s16 (by decide)
      have v97_16 := v97_15.st s16 (by decide)
      have r79_16 := r79_15.st s16 (by decide)
      have r80_16 := r80_15.st s16 (by decide)
      have r81_16 := r81_15.st s16 (by decide)
      have r82_16 := r82_15.st s16 (by decide)
      have r83_16 := r83_15.st s16 (by decide)
      have r84_16 := r84_15.st s16 (by decide)
      have r85_16 := r85_15.st s16 (by decide)
      have r100_16 := r100_15.st s16 (by decide)
      have o77_16 := (s16 77 (by decide)).trans o77_15
      have o78_16 := (s16 78 (by decide)).trans o78_15
      refine T_aload_n (v := .ref 77) d_Cu_solve_235 rfl (Or.inr ⟨_, rfl⟩) ?_
      refine T_getfield d_Cu_solve_236 fg_Cu_52 o77_16 rfl ?_
      refine T_aload_n (v := .ref 77) d_Cu_solve_239 rfl (Or.inr ⟨_, rfl⟩) ?_
      refine T_getfield d_Cu_solve_240 fg_Cu_52 o77_16 rfl ?_
      refine T_aload_n (v := .ref 77) d_Cu_solve_243 rfl (Or.inr ⟨_, rfl⟩) ?_
      refine T_getfield d_Cu_solve_244 fg_Cu_40 o77_16 rfl ?_
      refine T_vmul d_Cu_solve_247 (jw_Fi_multiply.jo (by decide)) lm_Cu_74 (by decide) (by decide) (by decide) (by decide) w16.rq w16 v95_16 (by decide) (fun M17 w17 s17 => ?_)
      have v102_17 := v102_16.st s17 (by decide)
      have v3_17 := v3_16.st s17 (by decide)
      have v5_17 := v5_16.st s17 (by decide)
      have v94_17 := v94_16.st s17 (by decide)
      have v95_17 := v95_16.st s17 (by decide)
      have v96_17 := v96_16.st s17 (by decide)
      have v98_17 := v98_16.st s17 (by decide)
      have v101_17 := v101_16.st s17 (by decide)
      have v97_17 := v97_16.st s17 (by decide)
      have r79_17 := r79_16.st s17 (by decide)
      have r80_17 := r80_16.st s17 (by decide)
      have r81_17 := r81_16.st s17 (by decide)
      have r82_17 := r82_16.st s17 (by decide)
      have r83_17 := r83_16.st s17 (by decide)
      have r84_17 := r84_16.st s17 (by decide)
      have r85_17 := r85_16.st s17 (by decide)
      have r100_17 := r100_16.st s17 (by decide)
      have o77_17 := (s17 77 (by decide)).trans o77_16
      have o78_17 := (s17 78 (by decide)).trans o78_16
      refine T_aload_n (v := .ref 77) d_Cu_solve_250 rfl (Or.inr ⟨_, rfl⟩) ?_
      refine T_getfield d_Cu_solve_251 fg_Cu_52 o77_17 rfl ?_
      refine T_aload_n (v := .ref 77) d_Cu_solve_254 rfl (Or.inr ⟨_, rfl⟩) ?_
      refine T_getfield d_Cu_solve_255 fg_Cu_52 o77_17 rfl ?_
      refine T_aload_n (v := .ref 77) d_Cu_solve_258 rfl (Or.inr ⟨_, rfl⟩) ?_
      refine T_getfield d_Cu_solve_259 fg_Cu_49 o77_17 rfl ?_
      refine T_vmul d_Cu_solve_262 (jw_Fi_multiply.jo (by decide)) lm_Cu_74 (by decide) (by decide) (by decide) (by decide) w17.rq w17 v98_17 (by decide) (fun M18 w18 s18 => ?_)
      have v102_18 := v102_17.st s18 (by decide)
      have v3_18 := v3_17.st s18 (by decide)
      have v5_18 := v5_17.st s18 (by decide)
      have v94_18 := v94_17.st s18 (by decide)
      have v95_18 := v95_17.st s18 (by decide)
      have v96_18 := v96_17.st s18 (by decide)
      have v98_18 := v98_17.st s18 (by decide)
      have v101_18 := v101_17.st s18 (by decide)
      have v97_18 := v97_17.st s18 (by decide)
      have r79_18 := r79_17.st s18 (by decide)
      have r80_18 := r80_17.st s18 (by decide)
      have r81_18 := r81_17.st s18 (by decide)
      have r82_18 := r82_17.st s18 (by decide)
      have r83_18 := r83_17.st s18 (by decide)
      have r84_18 := r84_17.st s18 (by decide)
      have r85_18 := r85_17.st s18 (by decide)
      have r100_18 := r100_17.st s18 (by decide)
      have o77_18 := (s18 77 (by decide)).trans o77_17
      have o78_18 := (s18 78 (by decide)).trans o78_17
      have x18 : Rv M18 99 (dG S) 1 := w18
      refine T_aload_n (v := .ref 77) d_Cu_solve_265 rfl (Or.inr ⟨_, rfl⟩) ?_
      refine T_getfield d_Cu_solve_266 fg_Cu_55 o77_18 rfl ?_
      refine T_aload_n (v := .ref 77) d_Cu_solve_269 rfl (Or.inr ⟨_, rfl⟩) ?_
      refine T_getfield d_Cu_solve_270 fg_Cu_46 o77_18 rfl ?_
      refine T_aload_n (v := .ref 77) d_Cu_solve_273 rfl (Or.inr ⟨_, rfl⟩) ?_
      refine T_getfield d_Cu_solve_274 fg_Cu_52 o77_18 rfl ?_
      refine T_vmul d_Cu_solve_277 (jw_Fi_multiply.jo (by decide)) lm_Cu_74 (by decide) (by decide) (by decide) (by decide) r100_18 v97_18 x18 (by decide) (fun M19 w19 s19 => ?_)
      have v102_19 := v102_18.st s19 (by decide)
      have v3_19 := v3_18.st s19 (by decide)
      have v5_19 := v5_18.st s19 (by decide)
      have v94_19 := v94_18.st s19 (by decide)
      have v95_19 := v95_18.st s19 (by decide)
      have v96_19 := v96_18.st s19 (by decide)
      have v98_19 := v98_18.st s19 (by decide)
      have v101_19 := v101_18.st s19 (by decide)
      have v97_19 := v97_18.st s19 (by decide)
      have v99_19 := x18.st s19 (by decide)
      have r79_19 := r79_18.st s19 (by decide)
      have r80_19 := r80_18.st s19 (by decide)
      have r81_19 := r81_18.st s19 (by decide)
      have r82_19 := r82_18.st s19 (by decide)
      have r83_19 := r83_18.st s19 (by decide)
      have r84_19 := r84_18.st s19 (by decide)
      have r85_19 := r85_18.st s19 (by decide)
      have o77_19 := (s19 77 (by decide)).trans o77_18
      have o78_19 := (s19 78 (by decide)).trans o78_18
      refine T_iload_n d_Cu_solve_280 rfl ?_
      refine T_if_eq d_Cu_solve_281 (tgt := 312) rfl (fun _ => ?_) (fun c => absurd c (by decide))
      refine T_iconst (v := nI 0) d_Cu_solve_312 (by decide) ?_
      have eE : dE S = dE0 S := by unfold dE; exact if_neg h14
      have kp0 : Kp [79, 80, 81, 82, 83, 84, 85, 94, 95, 96, 97, 98, 99, 100, 101] M M19 := (Kp.ex (Kp.ex (Kp.ex (Kp.ex (Kp.ex (Kp.ex (Kp.ex (Kp.ex (Kp.ex (Kp.tr (Kp.ex (Kp.ex (Kp.ex (Kp.ex (Kp.ex (Kp.ex (Kp.ex (Kp.ex (Kp.ex Kp.rf s1 (by decide)) s2 (by decide)) s3 (by decide)) s4 (by decide)) s5 (by decide)) s6 (by decide)) s7 (by decide)) s8 (by decide)) s9 (by decide)) (Kp.mono s10 (by decide))) s11 (by decide)) s12 (by decide)) s13 (by decide)) s14 (by decide)) s15 (by decide)) s16 (by decide)) s17 (by decide)) s18 (by decide)) s19 (by decide))
      have kp1 : Kp [79, 80, 81, 82, 83, 84, 85, 94, 95, 96, 97, 98, 99, 100, 101, X, Y, Z, T] M M19 := kp0.mono (fun q hq => (List.mem_append_left [X, Y, Z, T] hq : q ∈ [79, 80, 81, 82, 83, 84, 85, 94, 95, 96, 97, 98, 99, 100, 101] ++ [X, Y, Z, T]))
      have ok : dOK S = false := by
        unfold dOK
        rw [hG]; rfl
      exact T_ret d_Cu_solve_313 rfl (by decide) (by decide) (by decide) ⟨by rw [ok]; rfl, fun c => absurd (ok.symm.trans c) (by decide), kp1, List.forall_mem_cons.mpr ⟨r79_19, List.forall_mem_cons.mpr ⟨r80_19, List.forall_mem_cons.mpr ⟨r81_19, List.forall_mem_cons.mpr ⟨r82_19, List.forall_mem_cons.mpr ⟨r83_19, List.forall_mem_cons.mpr ⟨r84_19, List.forall_mem_cons.mpr ⟨r85_19, List.forall_mem_cons.mpr ⟨v94_19.rq, List.forall_mem_cons.mpr ⟨v95_19.rq, List.forall_mem_cons.mpr ⟨v96_19.rq, List.forall_mem_cons.mpr ⟨v97_19.rq, List.forall_mem_cons.mpr ⟨v98_19.rq, List.forall_mem_cons.mpr ⟨v99_19.rq, List.forall_mem_cons.mpr ⟨w19.rq, List.forall_mem_cons.mpr ⟨v101_19.rq, fun _ h => by cases h⟩⟩⟩⟩⟩⟩⟩⟩⟩⟩⟩⟩⟩⟩⟩, hX.kp kp0 (nw X bX), hY.kp kp0 (nw Y bY), hZ.kp kp0 (nw Z bZ), hT.kp kp0 (nw T bT)⟩
def sumN (b : Nat → Int) : Nat → Int
  | 0 => 0
  | n + 1 => sumN b n + b n * 256 ^ n
theorem num32_sum (b : Nat → Int) : num32 b = sumN b 32 := by simp [num32, sumN]
theorem sumN_dig (Y : Int) : ∀ n, Y = sumN (fun k => Y / 256 ^ k % 256) n + 256 ^ n * (Y / 256 ^ n) := by
  intro n
  induction n with
  | zero => simp [sumN]
  | succ n ih =>
    have e : Y / 256 ^ n = Y / 256 ^ n % 256 + 256 * (Y / 256 ^ (n + 1)) := by
      rw [Int.pow_succ, ← Int.ediv_ediv_of_nonneg (Int.le_of_lt (Int.pow_pos (by decide)))]
      have := Int.emod_add_mul_ediv (Y / 256 ^ n) 256
      omega
    have h1 : 256 ^ n * (Y / 256 ^ n) = Y / 256 ^ n % 256 * 256 ^ n + 256 ^ n * 256 * (Y / 256 ^ (n + 1)) := by
      conv => lhs; rw [e]
      grind
    show Y = (sumN (fun k => Y / 256 ^ k % 256) n + Y / 256 ^ n % 256 * 256 ^ n) + 256 ^ (n + 1) * (Y / 256 ^ (n + 1))
    conv => lhs; rw [ih, h1]
    rw [show (256 : Int) ^ (n + 1) = 256 ^ n * 256 from Int.pow_succ 256 n, Int.add_assoc]
theorem sumN_congr {b c : Nat → Int} {n : Nat} (h : ∀ k, k < n → b k = c k) : sumN b n = sumN c n := by
  induction n with
  | zero => rfl
  | succ n ih => show sumN b n + b n * _ = sumN c n + c n * _; rw [ih fun k hk => h k (by omega), h n (by omega)]
theorem num32_dig {Y : Int} (h0 : 0 ≤ Y) (h1 : Y < 2 ^ 256) : num32 (fun k => Y / 256 ^ k % 256) = Y := by
  have := sumN_dig Y 32
  rw [show Y / 256 ^ 32 = 0 from Int.ediv_eq_zero_of_lt h0 h1, Int.mul_zero, Int.add_zero] at this
  rw [num32_sum]; exact this.symm
set_option maxHeartbeats 8000000 in
theorem num32_at {b : Nat → Int} (hb : ∀ k, k < 32 → 0 ≤ b k ∧ b k < 256) {k : Nat} (hk : k < 32) : num32 b / 256 ^ k % 256 = b k := by
  have key : ∀ n, ∀ c : Nat → Int, (∀ j, j < n → 0 ≤ c j ∧ c j < 256) → 0 ≤ sumN c n ∧ sumN c n < 256 ^ n := by
    intro n
    induction n with
    | zero => intro c _; simp [sumN]
    | succ n ih =>
      intro c hc
      have h1 := ih c (fun j hj => hc j (by omega)); have h2 := hc n (by omega)
      have hp : (0 : Int) < 256 ^ n := Int.pow_pos (by decide)
      have h3 : 0 ≤ c n * 256 ^ n := Int.mul_nonneg h2.1 (Int.le_of_lt hp)
      have h4 : c n * 256 ^ n ≤ 255 * 256 ^ n := Int.mul_le_mul_of_nonneg_right (by omega) (Int.le_of_lt hp)
      show 0 ≤ sumN c n + c n * 256 ^ n ∧ sumN c n + c n * 256 ^ n < 256 ^ (n + 1)
      rw [Int.pow_succ]
      omega
  have split : ∀ n, k < n → ∃ R : Int, sumN b n = sumN b k + 256 ^ k * (b k + 256 * R) := by
    intro n
    induction n with
    | zero => intro h; omega
    | succ n ih =>
      intro h
      by_cases hkn : k = n
      · subst hkn; exact ⟨0, by show sumN b k + b k * 256 ^ k = _; grind⟩
      · obtain ⟨R, hR⟩ := ih (by omega)
        refine ⟨R + b n * 256 ^ (n - k - 1), ?_⟩
        show sumN b n + b n * 256 ^ n = _
        have hp : (256 : Int) ^ n = 256 ^ k * (256 * 256 ^ (n - k - 1)) := by
          rw [show (256 : Int) * 256 ^ (n - k - 1) = 256 ^ (n - k - 1 + 1) by rw [Int.pow_succ, Int.mul_comm], ← Int.pow_add]; congr 1; omega
        rw [hR, hp]; grind
  obtain ⟨R, hR⟩ := split 32 hk
  have hs := key k b (fun j hj => hb j (by omega))
  have hp : (0 : Int) < 256 ^ k := Int.pow_pos (by decide)
  rw [num32_sum, hR, Int.add_mul_ediv_left _ _ (Int.ne_of_gt hp), Int.ediv_eq_zero_of_lt hs.1 hs.2, Int.zero_add, Int.add_mul_emod_self_left, Int.emod_eq_of_lt (hb k hk).1 (hb k hk).2]
theorem num32_bd {b : Nat → Int} (hb : ∀ k, k < 32 → 0 ≤ b k ∧ b k < 256) : True := trivial
theorem sb_eq {z : Int} {y : Int32} (h0 : 0 ≤ z ∧ z < 256) (hy : fits .byte (.int y) = true) : sb z = y ↔ z = y.toInt % 256 := by
  have h1 : (-128 : Int32).toInt = -128 := by decide
  have h2 : (127 : Int32).toInt = 127 := by decide
  simp only [fits, Bool.and_eq_true, decide_eq_true_eq, Int32.le_iff_toInt_le, h1, h2] at hy
  have e1 : (sb z).toInt = Int.bmod z 256 := by
    unfold sb
    rw [Int8.toInt_toInt32, Int32.toInt8_ofInt, Int8.toInt_ofInt]
  rw [← Int32.toInt_inj, e1]
  have e2 : Int.bmod z 256 = if z % 256 < (256 + 1) / 2 then z % 256 else z % 256 - 256 := rfl
  rw [e2]
  split <;> omega
theorem T_fit {G : GX} {mi : MI} {pc : Nat} {L : List (Nat × Value)} {st : List Value} {M : List va_E} {kc ks : Nat} {Q : Option Value → List va_E → Prop} (kk : (∀ (a n : Nat) (f : Nat → Int32), M[a]? = some (br n f) → ∀ j, fits .byte (.int (f j)) = true) → TT G mi pc L st M kc ks Q) : TT G mi pc L st M kc ks Q := fun p e R s m args below meth c H locs ls ad ad0 n0 C D => kk (fun a n f h j => ((D.2.2.1.okAt h) j).1 rfl) p e R s m args below meth c H locs ls ad ad0 n0 C D
def n255 : Int := 57896044618658097711785492504343953926634992332820282019728792003956564819968
def decB (N : Int) : Bool := decide (N % n255 % pP = N) && (!decide ((N % n255 % pP) % 2 = 1) && dOK (N % n255))
set_option maxHeartbeats 8000000 in
theorem load_V {F : Nat → Int64} {N : Int} (K : (F 0).toInt = N / 1 % 67108864 ∧ (F 1).toInt = N / 67108864 % 33554432 ∧ (F 2).toInt = N / 2251799813685248 % 67108864 ∧ (F 3).toInt = N / 151115727451828646838272 % 33554432 ∧ (F 4).toInt = N / 5070602400912917605986812821504 % 67108864 ∧ (F 5).toInt = N / 340282366920938463463374607431768211456 % 33554432 ∧ (F 6).toInt = N / 11417981541647679048466287755595961091061972992 % 67108864 ∧ (F 7).toInt = N / 766247770432944429179173513575154591809369561091801088 % 33554432 ∧ (F 8).toInt = N / 25711008708143844408671393477458601640355247900524685364822016 % 67108864 ∧ (F 9).toInt = N / 1725436586697640946858688965569256363112777243042596638790631055949824 % 33554432) : V10 F (N % n255) 1 := by
  obtain ⟨k0, k1, k2, k3, k4, k5, k6, k7, k8, k9⟩ := K
  refine ⟨eqP.of ?_, fun i hi => ?_⟩
  · unfold va10; rw [k0, k1, k2, k3, k4, k5, k6, k7, k8, k9]; exact dsum10 N
  · have h10 : i = 0 ∨ i = 1 ∨ i = 2 ∨ i = 3 ∨ i = 4 ∨ i = 5 ∨ i = 6 ∨ i = 7 ∨ i = 8 ∨ i = 9 := by omega
    have b26 : ∀ z : Int, -(1 * 67108864) ≤ z % 67108864 ∧ z % 67108864 ≤ 1 * 67108864 := fun z => by omega
    have b25 : ∀ z : Int, -(1 * 33562624) ≤ z % 33554432 ∧ z % 33554432 ≤ 1 * 33562624 := fun z => by omega
    rcases h10 with rfl | rfl | rfl | rfl | rfl | rfl | rfl | rfl | rfl | rfl
    · rw [k0]; exact b26 _
    · rw [k1]; exact b25 _
    · rw [k2]; exact b26 _
    · rw [k3]; exact b25 _
    · rw [k4]; exact b26 _
    · rw [k5]; exact b25 _
    · rw [k6]; exact b26 _
    · rw [k7]; exact b25 _
    · rw [k8]; exact b26 _
    · rw [k9]; exact b25 _
set_option maxHeartbeats 8000000 in
theorem ends_iff {f D : Nat → Int32} {at0 : Nat} {Y : Int} (hf : ∀ j, fits .byte (.int (f j)) = true) (h0 : 0 ≤ Y) (h1 : Y < 2 ^ 256) : (∀ i, i < 0 + 32 → bq 0 32 (fun k => sb (Y / 256 ^ k % 256)) D i = f (at0 + i)) ↔ Y = num32 (fun k => (f (at0 + k)).toInt % 256) := by
  have hb : ∀ i, i < 32 → bq 0 32 (fun k => sb (Y / 256 ^ k % 256)) D i = sb (Y / 256 ^ i % 256) := fun i hi => by unfold bq; rw [if_pos (by omega)]; rfl
  have hd : ∀ i : Nat, 0 ≤ Y / 256 ^ i % 256 ∧ Y / 256 ^ i % 256 < 256 := fun i => ⟨Int.emod_nonneg _ (by decide), Int.emod_lt_of_pos _ (by decide)⟩
  constructor
  · intro h
    rw [num32_sum, ← sumN_congr (b := fun k => Y / 256 ^ k % 256) (fun k hk => ?_), ← num32_sum, num32_dig h0 h1]
    have := h k (by omega)
    rw [hb k hk] at this
    exact (sb_eq (hd k) (hf _)).mp this
  · intro h i hi
    rw [hb i (by omega)]
    refine (sb_eq (hd i) (hf _)).mpr ?_
    rw [h]
    exact num32_at (b := fun k => (f (at0 + k)).toInt % 256) (fun k hk => ⟨Int.emod_nonneg _ (by decide), Int.emod_lt_of_pos _ (by decide)⟩) (by omega)
set_option maxHeartbeats 4000000 in
theorem x_Cu_decode (G : GX) {M : List va_E} {fr at0 m po X Y Z T len : Nat} {f D : Nat → Int32} (hc : M[77]? = some cuO) (ho : M[78]? = some foO) (h79 : Rq M 79) (h80 : Rq M 80) (h81 : Rq M 81) (h82 : Rq M 82) (h83 : Rq M 83) (h84 : Rq M 84) (h85 : Rq M 85) (h94 : Rq M 94) (h95 : Rq M 95) (h96 : Rq M 96) (h97 : Rq M 97) (h98 : Rq M 98) (h99 : Rq M 99) (h100 : Rq M 100) (h101 : Rq M 101) (h102 : Rq M 102) (hag : M[92]? = some (byO 93 len)) (had : M[93]? = some (br 32 D)) (hfr : M[fr]? = some (br m f)) (bfr : 102 < fr) (hm : at0 + 32 ≤ m) (hm2 : m < 2 ^ 30) (hp : M[po]? = some (poO X Y Z T)) (hX : Rq M X) (hY : Rq M Y) (hZ : Rq M Z) (hT : Rq M T) (bp : 102 < po) (bX : 102 < X) (bY : 102 < Y) (bZ : 102 < Z) (bT : 102 < T) (d_T_X : T ≠ X) (d_T_Y : T ≠ Y) (d_T_Z : T ≠ Z) (d_X_T : X ≠ T) (d_X_Y : X ≠ Y) (d_X_Z : X ≠ Z) (d_Y_T : Y ≠ T) (d_Y_X : Y ≠ X) (d_Y_Z : Y ≠ Z) (d_Z_T : Z ≠ T) (d_Z_X : Z ≠ X) (d_Z_Y : Z ≠ Y) (d_po_T : po ≠ T) (d_po_X : po ≠ X) (d_po_Y : po ≠ Y) (d_po_Z : po ≠ Z) : CT G mi_Cu_decode [.ref 77, .ref fr, .int (nI at0), .ref po] M (fun r M' => r = some (.int (nI (if decB (num32 fun k => (f (at0 + k)).toInt % 256) then 1 else 0))) ∧ (∃ D', M'[92]? = some (byO 93 32) ∧ M'[93]? = some (br 32 D')) ∧ (Rq M' 79 ∧ Rq M' 80 ∧ Rq M' 81 ∧ Rq M' 82 ∧ Rq M' 83 ∧ Rq M' 84 ∧ Rq M' 85 ∧ Rq M' 94 ∧ Rq M' 95 ∧ Rq M' 96 ∧ Rq M' 97 ∧ Rq M' 98 ∧ Rq M' 99 ∧ Rq M' 100 ∧ Rq M' 101 ∧ Rq M' 102) ∧ Kp [79, 80, 81, 82, 83, 84, 85, 92, 93, 94, 95, 96, 97, 98, 99, 100, 101, 102, X, Y, Z, T] M M' ∧ Rq M' X ∧ Rq M' Y ∧ Rq M' Z ∧ Rq M' T) := by
  refine CT.of (by decide) (Nat.le_of_ble_eq_true rfl) ?_
  show TT G mi_Cu_decode 0 [(0, .ref 77), (1, .ref fr), (2, .int (nI at0)), (3, .ref po)] [] M 0 0 _
  refine T_fit (fun hfit0 => ?_)
  have hfit := hfit0 fr m f hfr
  clear hfit0
  obtain ⟨H2, h102a⟩ := h102
  obtain ⟨W9, h79a⟩ := h79
  obtain ⟨N, hN⟩ : ∃ z : Int, z = num32 (fun k => (f (at0 + k)).toInt % 256) := ⟨_, rfl⟩
  rw [← hN]
  have m6 : ∀ q, 102 < q → ∀ k, k ≤ 102 → q ≠ k := fun q hq k hk => by omega
  have nA : ∀ q, 102 < q → q ∉ [79, 92, 93, 102] := fun q hq c => by simp only [List.mem_cons, List.not_mem_nil, or_false] at c; omega
  refine T_iload_n d_Cu_decode_0 rfl ?_
  refine T_if_lt d_Cu_decode_1 (tgt := 13) rfl (fun c => absurd c (nI_pos (by omega))) (fun _ => ?_)
  refine T_iload_n d_Cu_decode_4 rfl ?_
  refine T_bipush (v := nI 32) d_Cu_decode_5 (by decide) ?_
  refine T_iadd d_Cu_decode_7 ?_
  rw [nI_add]
  refine T_aload_n (v := .ref fr) d_Cu_decode_8 rfl (Or.inr ⟨_, rfl⟩) ?_
  refine T_alen (v := nI m) (ty := .byte) d_Cu_decode_9 (by unfold K0; omega) hfr rfl rfl ?_
  refine T_icmp_le d_Cu_decode_10 (tgt := 15) rfl (fun _ => ?_) (fun c => absurd ((nI_leI (by omega) (by omega)).mpr hm) c)
  refine T_aload_n (v := .ref 77) d_Cu_decode_15 rfl (Or.inr ⟨_, rfl⟩) ?_
  refine T_getfield d_Cu_decode_16 fg_Cu_61 hc rfl ?_
  refine T_aload_n (v := .ref fr) d_Cu_decode_19 rfl (Or.inr ⟨_, rfl⟩) ?_
  refine T_iload_n d_Cu_decode_20 rfl ?_
  refine T_static (as := [.ref 102, .ref fr, .int (nI at0)]) (rest := []) d_Cu_decode_21 rfl (jw_Fi_load.jo (by decide)) lm_Cu_146 jt_Fi_load rfl (by decide) (by decide) (by decide) (x_Fi_load G (by decide) h102a hfr (Ne.symm (m6 fr bfr 102 (by decide))) hm hm2) (fun r M1 hq => ?_)
  obtain ⟨rfl, F1, eM1, kF⟩ := hq
  rw [← hN] at kF
  have V1 := load_V kF
  clear kF
  have x1 : Ex 102 M M1 := by rw [eM1]; exact set_ex
  have f1 : M1[102]? = some (lr 10 F1) := by rw [eM1]; exact List.getElem?_set_self (X_len h102a)
  refine T_eq (pc' := 24) (L' := [(0, .ref 77), (1, .ref fr), (2, .int (nI at0)), (3, .ref po)]) (st' := []) (M' := M1) rfl rfl rfl rfl ?_
  refine T_aload_n (v := .ref 77) d_Cu_decode_24 rfl (Or.inr ⟨_, rfl⟩) ?_
  refine T_getfield d_Cu_decode_25 fg_Cu_32 ((x1 77 (by decide)).trans hc) rfl ?_
  refine T_virtual (as := []) (rest := []) (b := 92) d_Cu_decode_28 rfl (jw_By_clear.jo (by decide)) lm_Cu_150 ji_By_clear js_By_clear ((x1 92 (by decide)).trans hag) rfl rfl rfl (Nat.le_of_ble_eq_true rfl) (by decide) (by decide) (x_By_clear G ((x1 92 (by decide)).trans hag)) (fun r M2 hq => ?_)
  obtain ⟨rfl, eM2⟩ := hq
  have x2 : Ex 92 M1 M2 := by rw [eM2]; exact set_ex
  have g92 : M2[92]? = some (byO 93 0) := by rw [eM2]; exact List.getElem?_set_self (X_len ((x1 92 (by decide)).trans hag))
  refine T_eq (pc' := 31) (L' := [(0, .ref 77), (1, .ref fr), (2, .int (nI at0)), (3, .ref po)]) (st' := []) (M' := M2) rfl rfl rfl rfl ?_
  have t2 : ∀ q, q ≠ 92 → q ≠ 102 → M2[q]? = M[q]? := fun q a b => (x2 q a).trans (x1 q b)
  have c2 := (t2 77 (by decide) (by decide)).trans hc
  refine T_aload_n (v := .ref 77) d_Cu_decode_31 rfl (Or.inr ⟨_, rfl⟩) ?_
  refine T_getfield d_Cu_decode_32 fg_Cu_10 c2 rfl ?_
  refine T_aload_n (v := .ref 77) d_Cu_decode_35 rfl (Or.inr ⟨_, rfl⟩) ?_
  refine T_getfield d_Cu_decode_36 fg_Cu_61 c2 rfl ?_
  refine T_aload_n (v := .ref 77) d_Cu_decode_39 rfl (Or.inr ⟨_, rfl⟩) ?_
  refine T_getfield d_Cu_decode_40 fg_Cu_32 c2 rfl ?_
  have o2 := (t2 78 (by decide) (by decide)).trans ho
  refine T_virtual (as := [.ref 102, .ref 92]) (rest := []) (b := 78) d_Cu_decode_43 rfl (jw_Fi_save.jo (by decide)) lm_Cu_142 ji_Fi_save js_Fi_save o2 rfl rfl rfl (Nat.le_of_ble_eq_true rfl) (by decide) (by decide) (x_Fi_save G o2 ((t2 79 (by decide) (by decide)).trans h79a) ((x2 102 (by decide)).trans f1) V1 (by decide) g92 ((t2 93 (by decide) (by decide)).trans had) (by decide) (by decide) (by decide) (by decide) (by decide) (by decide) (by decide) (by decide)) (fun r M3 hq => ?_)
  obtain ⟨rfl, W3, eM3⟩ := hq
  refine T_eq (pc' := 46) (L' := [(0, .ref 77), (1, .ref fr), (2, .int (nI at0)), (3, .ref po)]) (st' := []) (M' := M3) rfl rfl rfl rfl ?_
  have kp3 : Kp [79, 92, 93, 102] M M3 := by
    rw [eM3]
    exact Kp.ex (Kp.ex (Kp.ex (Kp.ex (Kp.ex Kp.rf x1 (by decide)) x2 (by decide)) set_ex (by decide)) set_ex (by decide)) set_ex (by decide)
  have l2 : ∀ q e, M[q]? = some e → q < M2.length := fun q e h => by rw [eM2, eM1, List.length_set, List.length_set]; exact X_len h
  have q92 : M3[92]? = some (byO 93 32) := by rw [eM3]; exact List.getElem?_set_self (by rw [List.length_set, List.length_set]; exact l2 _ _ hag)
  obtain ⟨D3, hD3⟩ : ∃ z : Nat → Int32, z = bq 0 32 (fun k => sb ((N % n255) % pP / 256 ^ k % 256)) D := ⟨_, rfl⟩
  have q93 : M3[93]? = some (br 32 D3) := by rw [eM3, hD3]; exact X_ne (List.getElem?_set_self (by rw [List.length_set]; exact l2 _ _ had)) (by decide)
  have q79 : Rq M3 79 := ⟨W3, by rw [eM3]; exact X_ne (X_ne (List.getElem?_set_self (l2 _ _ h79a)) (by decide)) (by decide)⟩
  have q102 : Rv M3 102 (N % n255) 1 := ⟨F1, by rw [eM3]; exact X_ne (X_ne (X_ne ((x2 102 (by decide)).trans f1) (by decide)) (by decide)) (by decide), V1⟩
  clear eM1 eM2 eM3 x1 x2 t2 c2 o2 g92 f1 V1 l2 h102a h79a
  have c3 := (kp3 77 (by decide)).trans hc; have o3 := (kp3 78 (by decide)).trans ho
  have p80 := h80.kp kp3 (by decide)
  have p81 := h81.kp kp3 (by decide)
  have p82 := h82.kp kp3 (by decide)
  have p83 := h83.kp kp3 (by decide)
  have p84 := h84.kp kp3 (by decide)
  have p85 := h85.kp kp3 (by decide)
  have p94 := h94.kp kp3 (by decide)
  have p95 := h95.kp kp3 (by decide)
  have p96 := h96.kp kp3 (by decide)
  have p97 := h97.kp kp3 (by decide)
  have p98 := h98.kp kp3 (by decide)
  have p99 := h99.kp kp3 (by decide)
  have p100 := h100.kp kp3 (by decide)
  have p101 := h101.kp kp3 (by decide)
  have fr3 := (kp3 fr (nA fr bfr)).trans hfr; have po3 := (kp3 po (nA po bp)).trans hp
  have pX := hX.kp kp3 (nA X bX)
  have pY := hY.kp kp3 (nA Y bY)
  have pZ := hZ.kp kp3 (nA Z bZ)
  have pT := hT.kp kp3 (nA T bT)
  have kpA : Kp [79, 80, 81, 82, 83, 84, 85, 92, 93, 94, 95, 96, 97, 98, 99, 100, 101, 102, X, Y, Z, T] M M3 := kp3.mono (by intro q hq; simp only [List.mem_cons, List.not_mem_nil, or_false] at hq; rcases hq with rfl | rfl | rfl | rfl <;> simp)
  have hY0 : 0 ≤ N % n255 % pP := Int.emod_nonneg _ (by decide)
  have hY1 : N % n255 % pP < 2 ^ 256 := Int.lt_trans (Int.emod_lt_of_pos _ pP_pos) (by decide)
  refine T_aload_n (v := .ref 77) d_Cu_decode_46 rfl (Or.inr ⟨_, rfl⟩) ?_
  refine T_getfield d_Cu_decode_47 fg_Cu_32 c3 rfl ?_
  refine T_iconst (v := nI 0) d_Cu_decode_50 (by decide) ?_
  refine T_aload_n (v := .ref fr) d_Cu_decode_51 rfl (Or.inr ⟨_, rfl⟩) ?_
  refine T_iload_n d_Cu_decode_52 rfl ?_
  refine T_virtual (as := [.int (nI 0), .ref fr, .int (nI at0)]) (rest := []) (b := 92) d_Cu_decode_53 rfl (jw_By_endsLike.jo (by decide)) lm_Cu_153 ji_By_endsLike js_By_endsLike q92 rfl rfl rfl (Nat.le_of_ble_eq_true rfl) (by decide) (by decide) (x_By_endsLike G q92 q93 fr3 (by unfold K0; omega) (by decide) (by decide) hm hm2) (fun r M3b hq => ?_)
  obtain ⟨⟨z, rfl, hz⟩, rfl⟩ := hq
  rw [hD3] at hz
  rw [ends_iff hfit hY0 hY1, ← hN] at hz
  rcases hz with ⟨rfl, hz⟩ | ⟨rfl, hz⟩
  · refine T_if_eq d_Cu_decode_56 (tgt := 85) rfl (fun c => absurd c (by decide)) (fun _ => ?_)
    refine T_aload_n (v := .ref 77) d_Cu_decode_59 rfl (Or.inr ⟨_, rfl⟩) ?_
    refine T_getfield d_Cu_decode_60 fg_Cu_10 c3 rfl ?_
    refine T_aload_n (v := .ref 77) d_Cu_decode_63 rfl (Or.inr ⟨_, rfl⟩) ?_
    refine T_getfield d_Cu_decode_64 fg_Cu_61 c3 rfl ?_
    refine T_visodd d_Cu_decode_67 (jw_Fi_isOdd.jo (by decide)) lm_Cu_127 (by decide) (by decide) (by decide) o3 q79 q102 (by decide) (fun M4 w4 s4 => ?_)
    have kpB : Kp [79, 80, 81, 82, 83, 84, 85, 92, 93, 94, 95, 96, 97, 98, 99, 100, 101, 102, X, Y, Z, T] M M4 := Kp.ex kpA s4 (by simp)
    by_cases hO : (N % n255 % pP) % 2 = 1
    · rw [if_pos hO]
      refine T_if_ne d_Cu_decode_70 (tgt := 85) rfl (fun _ => ?_) (fun c => absurd c (by decide))
      refine T_iconst (v := nI 0) d_Cu_decode_85 (by decide) ?_
      exact T_ret d_Cu_decode_86 rfl (by decide) (by decide) (by decide) ⟨by unfold decB; rw [decide_eq_true hO]; simp, ⟨_, (s4 92 (by decide)).trans q92, (s4 93 (by decide)).trans q93⟩, ⟨w4, p80.st s4 (by decide), p81.st s4 (by decide), p82.st s4 (by decide), p83.st s4 (by decide), p84.st s4 (by decide), p85.st s4 (by decide), p94.st s4 (by decide), p95.st s4 (by decide), p96.st s4 (by decide), p97.st s4 (by decide), p98.st s4 (by decide), p99.st s4 (by decide), p100.st s4 (by decide), p101.st s4 (by decide), (q102.st s4 (by decide)).rq⟩, kpB, pX.st s4 (m6 X bX 79 (by decide)), pY.st s4 (m6 Y bY 79 (by decide)), pZ.st s4 (m6 Z bZ 79 (by decide)), pT.st s4 (m6 T bT 79 (by decide))⟩
    · rw [if_neg hO]
      refine T_if_ne d_Cu_decode_70 (tgt := 85) rfl (fun c => absurd rfl c) (fun _ => ?_)
      refine T_aload_n (v := .ref 77) d_Cu_decode_73 rfl (Or.inr ⟨_, rfl⟩) ?_
      refine T_aload_n (v := .ref po) d_Cu_decode_74 rfl (Or.inr ⟨_, rfl⟩) ?_
      have c4 := (s4 77 (by decide)).trans c3
      refine T_virtual (as := [.ref po]) (rest := []) (b := 77) d_Cu_decode_75 rfl (jw_Cu_solve.jo (by decide)) lm_Cu_157 ji_Cu_solve js_Cu_solve c4 rfl rfl rfl (Nat.le_of_ble_eq_true rfl) (by decide) (by decide) (v_Cu_solve G c4 ((s4 78 (by decide)).trans o3) (q102.st s4 (by decide)) w4 (p80.st s4 (by decide)) (p81.st s4 (by decide)) (p82.st s4 (by decide)) (p83.st s4 (by decide)) (p84.st s4 (by decide)) (p85.st s4 (by decide)) (p94.st s4 (by decide)) (p95.st s4 (by decide)) (p96.st s4 (by decide)) (p97.st s4 (by decide)) (p98.st s4 (by decide)) (p99.st s4 (by decide)) (p100.st s4 (by decide)) (p101.st s4 (by decide)) ((s4 po (m6 po bp 79 (by decide))).trans po3) (pX.st s4 (m6 X bX 79 (by decide))) (pY.st s4 (m6 Y bY 79 (by decide))) (pZ.st s4 (m6 Z bZ 79 (by decide))) (pT.st s4 (m6 T bT 79 (by decide))) bp bX bY bZ bT d_T_X d_T_Y d_T_Z d_X_T d_X_Y d_X_Z d_Y_T d_Y_X d_Y_Z d_Z_T d_Z_X d_Z_Y d_po_T d_po_X d_po_Y d_po_Z) (fun r M5 hq => ?_)
      obtain ⟨rfl, -, kp5, rows5, xX, xY, xZ, xT⟩ := hq
      have nZ : ∀ q, q ≤ 102 → q ∉ [79, 80, 81, 82, 83, 84, 85, 94, 95, 96, 97, 98, 99, 100, 101] → q ∉ [79, 80, 81, 82, 83, 84, 85, 94, 95, 96, 97, 98, 99, 100, 101, X, Y, Z, T] := fun q h1 h2 c => by
        rcases List.mem_append.mp (show q ∈ [79, 80, 81, 82, 83, 84, 85, 94, 95, 96, 97, 98, 99, 100, 101] ++ [X, Y, Z, T] from c) with h | h
        · exact h2 h
        · simp only [List.mem_cons, List.not_mem_nil, or_false] at h; omega
      have kpC : Kp [79, 80, 81, 82, 83, 84, 85, 92, 93, 94, 95, 96, 97, 98, 99, 100, 101, 102, X, Y, Z, T] M M5 := Kp.tr kpB (kp5.mono (by intro q hq; simp only [List.mem_cons, List.not_mem_nil, or_false] at hq ⊢; omega))
      have u92 := (kp5 92 (nZ 92 (by decide) (by decide))).trans ((s4 92 (by decide)).trans q92); have u93 := (kp5 93 (nZ 93 (by decide) (by decide))).trans ((s4 93 (by decide)).trans q93); have u102 := (q102.st s4 (by decide)).kp kp5 (nZ 102 (by decide) (by decide))
      have hE : N % n255 % pP = N := hz
      cases hS : dOK (N % n255) with
      | false =>
        refine T_if_eq d_Cu_decode_78 (tgt := 85) rfl (fun _ => ?_) (fun c => absurd rfl c)
        refine T_iconst (v := nI 0) d_Cu_decode_85 (by decide) ?_
        exact T_ret d_Cu_decode_86 rfl (by decide) (by decide) (by decide) ⟨by unfold decB; rw [hS]; simp, ⟨_, u92, u93⟩, ⟨rows5 79 (by simp), rows5 80 (by simp), rows5 81 (by simp), rows5 82 (by simp), rows5 83 (by simp), rows5 84 (by simp), rows5 85 (by simp), rows5 94 (by simp), rows5 95 (by simp), rows5 96 (by simp), rows5 97 (by simp), rows5 98 (by simp), rows5 99 (by simp), rows5 100 (by simp), rows5 101 (by simp), u102.rq⟩, kpC, xX, xY, xZ, xT⟩
      | true =>
        refine T_if_eq d_Cu_decode_78 (tgt := 85) rfl (fun c => absurd c (by decide)) (fun _ => ?_)
        refine T_iconst (v := nI 1) d_Cu_decode_81 (by decide) ?_
        refine T_goto (tgt := 86) d_Cu_decode_82 rfl ?_
        exact T_ret d_Cu_decode_86 rfl (by decide) (by decide) (by decide) ⟨by unfold decB; rw [hS, decide_eq_true hE, decide_eq_false hO]; rfl, ⟨_, u92, u93⟩, ⟨rows5 79 (by simp), rows5 80 (by simp), rows5 81 (by simp), rows5 82 (by simp), rows5 83 (by simp), rows5 84 (by simp), rows5 85 (by simp), rows5 94 (by simp), rows5 95 (by simp), rows5 96 (by simp), rows5 97 (by simp), rows5 98 (by simp), rows5 99 (by simp), rows5 100 (by simp), rows5 101 (by simp), u102.rq⟩, kpC, xX, xY, xZ, xT⟩
  · refine T_if_eq d_Cu_decode_56 (tgt := 85) rfl (fun _ => ?_) (fun c => absurd rfl c)
    refine T_iconst (v := nI 0) d_Cu_decode_85 (by decide) ?_
    exact T_ret d_Cu_decode_86 rfl (by decide) (by decide) (by decide) ⟨by unfold decB; rw [decide_eq_false hz]; rfl, ⟨_, q92, q93⟩, ⟨q79, p80, p81, p82, p83, p84, p85, p94, p95, p96, p97, p98, p99, p100, p101, q102.rq⟩, kpA, pX, pY, pZ, pT⟩

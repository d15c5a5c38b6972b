set_option maxHeartbeats 8000000 in
theorem rd_z (G : GX) {M0 : List va_E} {v : Nat → Int32}  (ho : M0[373]? = some (moO v)) {Q : Option Value → List va_E → Prop} (kk : ∀ M, (∃ f, M[397]? = some (lr 17 f) ∧ ∀ i, i < 17 → f i = 0) ∧ Kp [397] M0 M → TT G mi_Mo_reduce 21 [(0, .ref 373)] [] M 0 0 Q) : ∀ j k M, k + j = 17 → (∃ f, M[397]? = some (lr 17 f) ∧ ∀ i, i < k → f i = 0) ∧ Kp [397] M0 M → TT G mi_Mo_reduce 2 [(1, .int (nI k)), (0, .ref 373)] [] M 0 0 Q := by
  intro j
  induction j with
  | zero =>
    intro k M hk hI
    obtain rfl : 17 = k := by omega
    refine T_iload_n d_Mo_reduce_2 rfl ?_
    refine T_bipush (v := nI 17) d_Mo_reduce_3 (by decide) ?_
    refine N_icmp_ge_t (a := 17) (b := 17) d_Mo_reduce_5 (tgt := 21) rfl (by omega) (by omega) (by omega) ?_
    exact T_sub (fun q hq => List.mem_cons_of_mem _ hq) (kk M hI)
  | succ j ih =>
    intro k M hk hI
    obtain ⟨⟨f, h1, h2⟩, hK⟩ := hI
    refine T_iload_n d_Mo_reduce_2 rfl ?_
    refine T_bipush (v := nI 17) d_Mo_reduce_3 (by decide) ?_
    refine N_icmp_ge_f (a := 17) (b := k) d_Mo_reduce_5 (tgt := 21) rfl (by omega) (by omega) (by omega) ?_
    refine T_aload_n (v := .ref 373) d_Mo_reduce_8 rfl (Or.inr ⟨_, rfl⟩) ?_
    have h_1 := (hK 373 (by decide)).trans (ho)
    refine T_getfield (v := .ref 397) d_Mo_reduce_9 fg_Mo_245 h_1 rfl ?_
    refine T_iload_n d_Mo_reduce_12 rfl ?_
    refine T_lconst (v := 0) d_Mo_reduce_13 (by decide) ?_
    refine N_lastore (k := k) d_Mo_reduce_14 (by decide) h1 (by omega) (by decide) rfl (fun M_2 h_3 s_4 => ?_)
    refine N_iinc (k := k) (m := 1) (c := (k + 1)) (L' := [(1, .int (nI ((k + 1)))), (0, .ref 373)]) d_Mo_reduce_15 (by decide) rfl (by decide) rfl rfl ?_
    refine T_goto (tgt := 2) d_Mo_reduce_18 rfl ?_
    exact ih (k + 1) M_2 (by omega) ⟨⟨_, h_3, fun i hi => by by_cases c : i = k; subst c; exact uL_s; rw [uL_n c]; exact h2 i (by omega)⟩, (Kp.ex (Kp.tr (Kp.rf : Kp [397] M0 M0) (Kp.mono hK (by decide))) s_4 (by decide))⟩
set_option maxHeartbeats 8000000 in
theorem rd_s (G : GX) {M0 : List va_E} {v : Nat → Int32} {R b jj : Nat} (ho : M0[373]? = some (moO v)) (hb : b < 2) {Q : Option Value → List va_E → Prop} (kk : ∀ M, (∃ f, M[397]? = some (lr 17 f) ∧ DS f R b 17) ∧ Kp [397] M0 M → TT G mi_Mo_reduce 94 [(1, .int (nI jj)), (0, .ref 373)] [] M 0 0 Q) : ∀ j k M, k + j = 17 → (∃ f, M[397]? = some (lr 17 f) ∧ DS f R b k) ∧ Kp [397] M0 M → TT G mi_Mo_reduce 49 [(4, .int (nI k)), (2, .long (Int64.ofNat (cin R b k))), (1, .int (nI jj)), (0, .ref 373)] [] M 0 0 Q := by
  intro j
  induction j with
  | zero =>
    intro k M hk hI
    obtain rfl : 17 = k := by omega
    refine T_iload d_Mo_reduce_49 rfl ?_
    refine T_bipush (v := nI 17) d_Mo_reduce_51 (by decide) ?_
    refine N_icmp_ge_t (a := 17) (b := 17) d_Mo_reduce_53 (tgt := 94) rfl (by omega) (by omega) (by omega) ?_
    exact T_sub (fun q hq => by simp only [List.mem_cons, List.not_mem_nil, or_false] at hq ⊢; rcases hq with rfl | rfl <;> simp) (kk M hI)
  | succ j ih =>
    intro k M hk hI
    obtain ⟨⟨f, h1, hd⟩, hK⟩ := hI
    refine T_iload d_Mo_reduce_49 rfl ?_
    refine T_bipush (v := nI 17) d_Mo_reduce_51 (by decide) ?_
    refine N_icmp_ge_f (a := 17) (b := k) d_Mo_reduce_53 (tgt := 94) rfl (by omega) (by omega) (by omega) ?_
    refine T_aload_n (v := .ref 373) d_Mo_reduce_56 rfl (Or.inr ⟨_, rfl⟩) ?_
    have h_1 := (hK 373 (by decide)).trans (ho)
    refine T_getfield (v := .ref 397) d_Mo_reduce_57 fg_Mo_245 h_1 rfl ?_
    refine T_iload d_Mo_reduce_60 rfl ?_
    refine N_laload (k := k) (x := (f k)) d_Mo_reduce_62 h1 (by omega) (by decide) rfl ?_
    refine T_iconst (v := nI 1) d_Mo_reduce_63 (by decide) ?_
    refine T_lshl d_Mo_reduce_64 ?_
    refine T_lload_n d_Mo_reduce_65 rfl ?_
    refine T_lor d_Mo_reduce_66 ?_
    refine T_lstore (L' := [(5, .long (((f k) <<< ((nI 1).toInt64 &&& 63)) ||| (Int64.ofNat (cin R b k)))), (4, .int (nI k)), (2, .long (Int64.ofNat (cin R b k))), (1, .int (nI jj)), (0, .ref 373)]) d_Mo_reduce_67 (by decide) rfl ?_
    refine T_aload_n (v := .ref 373) d_Mo_reduce_69 rfl (Or.inr ⟨_, rfl⟩) ?_
    refine T_getfield (v := .ref 397) d_Mo_reduce_70 fg_Mo_245 h_1 rfl ?_
    refine T_iload d_Mo_reduce_73 rfl ?_
    refine T_lload d_Mo_reduce_75 rfl ?_
    refine T_ldc2 d_Mo_reduce_77 kJ_Mo_29 ?_
    refine T_land d_Mo_reduce_80 ?_
    refine N_lastore (k := k) d_Mo_reduce_81 (by decide) h1 (by omega) (by decide) rfl (fun M_2 h_3 s_4 => ?_)
    refine T_lload d_Mo_reduce_82 rfl ?_
    refine T_bipush (v := nI 16) d_Mo_reduce_84 (by decide) ?_
    refine T_lshr d_Mo_reduce_86 ?_
    refine N_topl (y := (Int64.ofNat (cin R b (k + 1)))) (DS_c hd (by omega) hb) ?_
    refine T_lstore_n (L' := [(2, .long (Int64.ofNat (cin R b (k + 1)))), (5, .long (((f k) <<< ((nI 1).toInt64 &&& 63)) ||| (Int64.ofNat (cin R b k)))), (4, .int (nI k)), (1, .int (nI jj)), (0, .ref 373)]) d_Mo_reduce_87 (by decide) rfl ?_
    refine N_iinc (k := k) (m := 1) (c := (k + 1)) (L' := [(4, .int (nI ((k + 1)))), (2, .long (Int64.ofNat (cin R b (k + 1)))), (5, .long (((f k) <<< ((nI 1).toInt64 &&& 63)) ||| (Int64.ofNat (cin R b k)))), (1, .int (nI jj)), (0, .ref 373)]) d_Mo_reduce_88 (by decide) rfl (by decide) rfl rfl ?_
    refine T_goto (tgt := 49) d_Mo_reduce_91 rfl ?_
    exact T_sub (L' := [(4, .int (nI ((k + 1)))), (2, .long (Int64.ofNat (cin R b (k + 1)))), (1, .int (nI jj)), (0, .ref 373)]) (fun q hq => by simp only [List.mem_cons, List.not_mem_nil, or_false] at hq ⊢; rcases hq with rfl | rfl | rfl | rfl <;> simp) (ih (k + 1) M_2 (by omega) ⟨⟨_, h_3, DS_s hd (by omega) hb⟩, (Kp.ex (Kp.tr (Kp.rf : Kp [397] M0 M0) (Kp.mono hK (by decide))) s_4 (by decide))⟩)
set_option maxHeartbeats 8000000 in
theorem rd_c (G : GX) {M : List va_E} {v : Nat → Int32} {X j : Nat} {f g : Nat → Int64} (ho : M[373]? = some (moO v)) (hf : M[397]? = some (lr 17 f)) (hg : M[396]? = some (lr 17 g)) (df : DL f 17 X) (dq : DL g 17 qN) {Q : Option Value → List va_E → Prop} (k1 : X < qN → TT G mi_Mo_reduce 169 [(4, .int (nI 1)), (1, .int (nI j)), (0, .ref 373)] [] M 0 0 Q) (k0 : ¬ X < qN → TT G mi_Mo_reduce 169 [(4, .int (nI 0)), (1, .int (nI j)), (0, .ref 373)] [] M 0 0 Q) : ∀ i, i ≤ 17 → X / 65536 ^ i = qN / 65536 ^ i → TT G mi_Mo_reduce 104 [(6, .int (nI i - 1)), (5, .int (nI 0)), (4, .int (nI 0)), (1, .int (nI j)), (0, .ref 373)] [] M 0 0 Q := by
  intro i
  induction i with
  | zero =>
    intro hi he
    refine T_iload d_Mo_reduce_104 rfl ?_
    refine T_if_lt d_Mo_reduce_106 (tgt := 169) rfl (fun _ => ?_) (fun c => absurd (by decide) c)
    exact T_sub (fun q hq => by simp only [List.mem_cons, List.not_mem_nil, or_false] at hq ⊢; rcases hq with rfl | rfl | rfl <;> simp) (k0 (cmq_0 he))
  | succ i ih =>
    intro hi he
    rw [nI_pp]
    refine T_iload d_Mo_reduce_104 rfl ?_
    refine N_if_lt_f (b := i) d_Mo_reduce_106 (tgt := 169) rfl (by omega) (by omega) ?_
    refine T_iload d_Mo_reduce_109 rfl ?_
    refine N_if_ne_f (b := 0) d_Mo_reduce_111 (tgt := 169) rfl (by omega) (by omega) ?_
    refine T_aload_n (v := .ref 373) d_Mo_reduce_114 rfl (Or.inr ⟨_, rfl⟩) ?_
    refine T_getfield (v := .ref 397) d_Mo_reduce_115 fg_Mo_245 ho rfl ?_
    refine T_iload d_Mo_reduce_118 rfl ?_
    refine N_laload (k := i) (x := (f i)) d_Mo_reduce_120 hf (by omega) (by decide) rfl ?_
    refine T_aload_n (v := .ref 373) d_Mo_reduce_121 rfl (Or.inr ⟨_, rfl⟩) ?_
    refine T_getfield (v := .ref 396) d_Mo_reduce_122 fg_Mo_224 ho rfl ?_
    refine T_iload d_Mo_reduce_125 rfl ?_
    refine N_laload (k := i) (x := (g i)) d_Mo_reduce_127 hg (by omega) (by decide) rfl ?_
    refine T_lcmp d_Mo_reduce_128 ?_
    by_cases he2 : f i = g i
    · rw [show lg_cmp (f i) (g i) = 0 from lcq_e he2]
      refine T_if_ne d_Mo_reduce_129 (tgt := 135) rfl (fun c => absurd c (by decide)) (fun _ => ?_)
      refine T_goto (tgt := 163) d_Mo_reduce_132 rfl ?_
      refine T_iinc (x := nI i) (L' := [(6, .int (nI i - 1)), (5, .int (nI 0)), (4, .int (nI 0)), (1, .int (nI j)), (0, .ref 373)]) d_Mo_reduce_163 (by decide) rfl (by rw [nI_dm]; rfl) ?_
      refine T_goto (tgt := 104) d_Mo_reduce_166 rfl ?_
      exact T_sub (L' := [(6, .int (nI i - 1)), (5, .int (nI 0)), (4, .int (nI 0)), (1, .int (nI j)), (0, .ref 373)]) (fun _ h => h) (ih (by omega) (cmq_eq he ((DL_in df dq (by omega) (by omega)).mp he2)))
    · 
      refine T_if_ne d_Mo_reduce_129 (tgt := 135) rfl (fun _ => ?_) (fun c => absurd c (lcq_n he2))
      refine T_iconst (v := nI 1) d_Mo_reduce_135 (by decide) ?_
      refine T_istore (L' := [(5, .int (nI 1)), (6, .int (nI i)), (4, .int (nI 0)), (1, .int (nI j)), (0, .ref 373)]) d_Mo_reduce_136 (by decide) rfl ?_
      refine T_aload_n (v := .ref 373) d_Mo_reduce_138 rfl (Or.inr ⟨_, rfl⟩) ?_
      refine T_getfield (v := .ref 397) d_Mo_reduce_139 fg_Mo_245 ho rfl ?_
      refine T_iload d_Mo_reduce_142 rfl ?_
      refine N_laload (k := i) (x := (f i)) d_Mo_reduce_144 hf (by omega) (by decide) rfl ?_
      refine T_aload_n (v := .ref 373) d_Mo_reduce_145 rfl (Or.inr ⟨_, rfl⟩) ?_
      refine T_getfield (v := .ref 396) d_Mo_reduce_146 fg_Mo_224 ho rfl ?_
      refine T_iload d_Mo_reduce_149 rfl ?_
      refine N_laload (k := i) (x := (g i)) d_Mo_reduce_151 hg (by omega) (by decide) rfl ?_
      refine T_lcmp d_Mo_reduce_152 ?_
      by_cases hl : f i < g i
      · 
        refine T_if_ge d_Mo_reduce_153 (tgt := 160) rfl (fun c => absurd c (lcq_lt hl)) (fun _ => ?_)
        refine T_iconst (v := nI 1) d_Mo_reduce_156 (by decide) ?_
        refine T_goto (tgt := 161) d_Mo_reduce_157 rfl ?_
        refine T_istore (L' := [(4, .int (nI 1)), (5, .int (nI 1)), (6, .int (nI i)), (1, .int (nI j)), (0, .ref 373)]) d_Mo_reduce_161 (by decide) rfl ?_
        refine T_iinc (x := nI i) (L' := [(6, .int (nI i - 1)), (4, .int (nI 1)), (5, .int (nI 1)), (1, .int (nI j)), (0, .ref 373)]) d_Mo_reduce_163 (by decide) rfl (by rw [nI_dm]; rfl) ?_
        refine T_goto (tgt := 104) d_Mo_reduce_166 rfl ?_
        have fin : TT G mi_Mo_reduce 169 [(6, .int (nI i - 1)), (4, .int (nI 1)), (5, .int (nI 1)), (1, .int (nI j)), (0, .ref 373)] [] M 0 0 Q := T_sub (fun q hq => by simp only [List.mem_cons, List.not_mem_nil, or_false] at hq ⊢; rcases hq with rfl | rfl | rfl <;> simp) (k1 (cmq_lt he ((DL_lt df dq (by omega) (by omega)).mp hl)))
        cases i with
        | zero =>
          refine T_iload d_Mo_reduce_104 rfl ?_
          refine T_if_lt d_Mo_reduce_106 (tgt := 169) rfl (fun _ => ?_) (fun c => absurd (by decide) c)
          exact fin
        | succ i =>
          rw [nI_pp] at fin ⊢
          refine T_iload d_Mo_reduce_104 rfl ?_
          refine N_if_lt_f (b := i) d_Mo_reduce_106 (tgt := 169) rfl (by omega) (by omega) ?_
          refine T_iload d_Mo_reduce_109 rfl ?_
          refine N_if_ne_t (b := 1) d_Mo_reduce_111 (tgt := 169) rfl (by omega) (by omega) ?_
          exact fin
      · 
        refine T_if_ge d_Mo_reduce_153 (tgt := 160) rfl (fun _ => ?_) (fun c => absurd (lcq_ge hl) c)
        refine T_iconst (v := nI 0) d_Mo_reduce_160 (by decide) ?_
        refine T_istore (L' := [(4, .int (nI 0)), (5, .int (nI 1)), (6, .int (nI i)), (1, .int (nI j)), (0, .ref 373)]) d_Mo_reduce_161 (by decide) rfl ?_
        refine T_iinc (x := nI i) (L' := [(6, .int (nI i - 1)), (4, .int (nI 0)), (5, .int (nI 1)), (1, .int (nI j)), (0, .ref 373)]) d_Mo_reduce_163 (by decide) rfl (by rw [nI_dm]; rfl) ?_
        refine T_goto (tgt := 104) d_Mo_reduce_166 rfl ?_
        have fin : TT G mi_Mo_reduce 169 [(6, .int (nI i - 1)), (4, .int (nI 0)), (5, .int (nI 1)), (1, .int (nI j)), (0, .ref 373)] [] M 0 0 Q := T_sub (fun q hq => by simp only [List.mem_cons, List.not_mem_nil, or_false] at hq ⊢; rcases hq with rfl | rfl | rfl <;> simp) (k0 (fun c => hl ((DL_lt df dq (by omega) (by omega)).mpr (cmq_ge he c (fun e => he2 ((DL_in df dq (by omega) (by omega)).mpr e))))))
        cases i with
        | zero =>
          refine T_iload d_Mo_reduce_104 rfl ?_
          refine T_if_lt d_Mo_reduce_106 (tgt := 169) rfl (fun _ => ?_) (fun c => absurd (by decide) c)
          exact fin
        | succ i =>
          rw [nI_pp] at fin ⊢
          refine T_iload d_Mo_reduce_104 rfl ?_
          refine N_if_lt_f (b := i) d_Mo_reduce_106 (tgt := 169) rfl (by omega) (by omega) ?_
          refine T_iload d_Mo_reduce_109 rfl ?_
          refine N_if_ne_t (b := 1) d_Mo_reduce_111 (tgt := 169) rfl (by omega) (by omega) ?_
          exact fin
set_option maxHeartbeats 8000000 in
theorem rd_t (G : GX) {M0 : List va_E} {v : Nat → Int32} {X jj : Nat} {g : Nat → Int64} (ho : M0[373]? = some (moO v)) (hg : M0[396]? = some (lr 17 g)) (dq : DL g 17 qN) (hX : qN ≤ X) {Q : Option Value → List va_E → Prop} (kk : ∀ M, (∃ f, M[397]? = some (lr 17 f) ∧ DT f X qN 17) ∧ Kp [397] M0 M → TT G mi_Mo_reduce 240 [(1, .int (nI jj)), (0, .ref 373)] [] M 0 0 Q) : ∀ j k M, k + j = 17 → (∃ f, M[397]? = some (lr 17 f) ∧ DT f X qN k) ∧ Kp [397] M0 M → TT G mi_Mo_reduce 175 [(8, .int (nI k)), (6, .long (Int64.ofNat (bor X qN k))), (4, .int (nI 0)), (1, .int (nI jj)), (0, .ref 373)] [] M 0 0 Q := by
  intro j
  induction j with
  | zero =>
    intro k M hk hI
    obtain rfl : 17 = k := by omega
    refine T_iload d_Mo_reduce_175 rfl ?_
    refine T_bipush (v := nI 17) d_Mo_reduce_177 (by decide) ?_
    refine N_icmp_ge_t (a := 17) (b := 17) d_Mo_reduce_179 (tgt := 240) rfl (by omega) (by omega) (by omega) ?_
    exact T_sub (fun q hq => by simp only [List.mem_cons, List.not_mem_nil, or_false] at hq ⊢; rcases hq with rfl | rfl <;> simp) (kk M hI)
  | succ j ih =>
    intro k M hk hI
    obtain ⟨⟨f, h1, hd⟩, hK⟩ := hI
    refine T_iload d_Mo_reduce_175 rfl ?_
    refine T_bipush (v := nI 17) d_Mo_reduce_177 (by decide) ?_
    refine N_icmp_ge_f (a := 17) (b := k) d_Mo_reduce_179 (tgt := 240) rfl (by omega) (by omega) (by omega) ?_
    refine T_iload d_Mo_reduce_182 rfl ?_
    refine N_if_ne_f (b := 0) d_Mo_reduce_184 (tgt := 240) rfl (by omega) (by omega) ?_
    refine T_aload_n (v := .ref 373) d_Mo_reduce_187 rfl (Or.inr ⟨_, rfl⟩) ?_
    have h_1 := (hK 373 (by decide)).trans (ho)
    refine T_getfield (v := .ref 397) d_Mo_reduce_188 fg_Mo_245 h_1 rfl ?_
    refine T_iload d_Mo_reduce_191 rfl ?_
    refine N_laload (k := k) (x := (f k)) d_Mo_reduce_193 h1 (by omega) (by decide) rfl ?_
    refine T_aload_n (v := .ref 373) d_Mo_reduce_194 rfl (Or.inr ⟨_, rfl⟩) ?_
    refine T_getfield (v := .ref 396) d_Mo_reduce_195 fg_Mo_224 h_1 rfl ?_
    refine T_iload d_Mo_reduce_198 rfl ?_
    have h_2 := (hK 396 (by decide)).trans (hg)
    refine N_laload (k := k) (x := (g k)) d_Mo_reduce_200 h_2 (by omega) (by decide) rfl ?_
    refine T_lsub d_Mo_reduce_201 ?_
    refine T_lload d_Mo_reduce_202 rfl ?_
    refine T_lsub d_Mo_reduce_204 ?_
    refine T_lstore (L' := [(9, .long (((f k) - (g k)) - (Int64.ofNat (bor X qN k)))), (8, .int (nI k)), (6, .long (Int64.ofNat (bor X qN k))), (4, .int (nI 0)), (1, .int (nI jj)), (0, .ref 373)]) d_Mo_reduce_205 (by decide) rfl ?_
    refine T_aload_n (v := .ref 373) d_Mo_reduce_207 rfl (Or.inr ⟨_, rfl⟩) ?_
    refine T_getfield (v := .ref 397) d_Mo_reduce_208 fg_Mo_245 h_1 rfl ?_
    refine T_iload d_Mo_reduce_211 rfl ?_
    refine T_lload d_Mo_reduce_213 rfl ?_
    refine T_ldc2 d_Mo_reduce_215 kJ_Mo_29 ?_
    refine T_land d_Mo_reduce_218 ?_
    refine N_lastore (k := k) d_Mo_reduce_219 (by decide) h1 (by omega) (by decide) rfl (fun M_3 h_4 s_5 => ?_)
    refine T_lload d_Mo_reduce_220 rfl ?_
    refine T_lconst (v := 0) d_Mo_reduce_222 (by decide) ?_
    refine T_lcmp d_Mo_reduce_223 ?_
    by_cases hn : ((f k - g k) - Int64.ofNat (bor X qN k)).toInt < 0
    · 
      refine T_if_ge d_Mo_reduce_224 (tgt := 231) rfl (fun c => absurd c (lzq_lt hn)) (fun _ => ?_)
      refine T_lconst (v := 1) d_Mo_reduce_227 (by decide) ?_
      refine T_goto (tgt := 232) d_Mo_reduce_228 rfl ?_
      refine N_topl (y := (Int64.ofNat (bor X qN (k + 1)))) (by rw [DT_b (DT_v hd dq (by omega)), if_pos hn]) ?_
      refine T_lstore (L' := [(6, .long (Int64.ofNat (bor X qN (k + 1)))), (9, .long (((f k) - (g k)) - (Int64.ofNat (bor X qN k)))), (8, .int (nI k)), (4, .int (nI 0)), (1, .int (nI jj)), (0, .ref 373)]) d_Mo_reduce_232 (by decide) rfl ?_
      refine N_iinc (k := k) (m := 1) (c := (k + 1)) (L' := [(8, .int (nI ((k + 1)))), (6, .long (Int64.ofNat (bor X qN (k + 1)))), (9, .long (((f k) - (g k)) - (Int64.ofNat (bor X qN k)))), (4, .int (nI 0)), (1, .int (nI jj)), (0, .ref 373)]) d_Mo_reduce_234 (by decide) rfl (by decide) rfl rfl ?_
      refine T_goto (tgt := 175) d_Mo_reduce_237 rfl ?_
      exact T_sub (L' := [(8, .int (nI ((k + 1)))), (6, .long (Int64.ofNat (bor X qN (k + 1)))), (4, .int (nI 0)), (1, .int (nI jj)), (0, .ref 373)]) (fun q hq => by simp only [List.mem_cons, List.not_mem_nil, or_false] at hq ⊢; rcases hq with rfl | rfl | rfl | rfl | rfl <;> simp) (ih (k + 1) M_3 (by omega) ⟨⟨_, h_4, DT_s hd dq (by omega) hX⟩, (Kp.ex (Kp.tr (Kp.rf : Kp [397] M0 M0) (Kp.mono hK (by decide))) s_5 (by decide))⟩)
    · 
      refine T_if_ge d_Mo_reduce_224 (tgt := 231) rfl (fun _ => ?_) (fun c => absurd (lzq_ge hn) c)
      refine T_lconst (v := 0) d_Mo_reduce_231 (by decide) ?_
      refine N_topl (y := (Int64.ofNat (bor X qN (k + 1)))) (by rw [DT_b (DT_v hd dq (by omega)), if_neg hn]) ?_
      refine T_lstore (L' := [(6, .long (Int64.ofNat (bor X qN (k + 1)))), (9, .long (((f k) - (g k)) - (Int64.ofNat (bor X qN k)))), (8, .int (nI k)), (4, .int (nI 0)), (1, .int (nI jj)), (0, .ref 373)]) d_Mo_reduce_232 (by decide) rfl ?_
      refine N_iinc (k := k) (m := 1) (c := (k + 1)) (L' := [(8, .int (nI ((k + 1)))), (6, .long (Int64.ofNat (bor X qN (k + 1)))), (9, .long (((f k) - (g k)) - (Int64.ofNat (bor X qN k)))), (4, .int (nI 0)), (1, .int (nI jj)), (0, .ref 373)]) d_Mo_reduce_234 (by decide) rfl (by decide) rfl rfl ?_
      refine T_goto (tgt := 175) d_Mo_reduce_237 rfl ?_
      exact T_sub (L' := [(8, .int (nI ((k + 1)))), (6, .long (Int64.ofNat (bor X qN (k + 1)))), (4, .int (nI 0)), (1, .int (nI jj)), (0, .ref 373)]) (fun q hq => by simp only [List.mem_cons, List.not_mem_nil, or_false] at hq ⊢; rcases hq with rfl | rfl | rfl | rfl | rfl <;> simp) (ih (k + 1) M_3 (by omega) ⟨⟨_, h_4, DT_s hd dq (by omega) hX⟩, (Kp.ex (Kp.tr (Kp.rf : Kp [397] M0 M0) (Kp.mono hK (by decide))) s_5 (by decide))⟩)
set_option maxHeartbeats 8000000 in
theorem rd_o (G : GX) {M0 : List va_E} {v : Nat → Int32} {V : Nat} {g wd : Nat → Int64} (ho : M0[373]? = some (moO v)) (hg : M0[396]? = some (lr 17 g)) (dq : DL g 17 qN) (hw : M0[398]? = some (lr 32 wd)) (dw : DL wd 32 V) {Q : Option Value → List va_E → Prop} (kk : ∀ M, ((∃ f, M[397]? = some (lr 17 f) ∧ DL f 17 (V / 2 ^ 0 % qN)) ∧ Kp [397] M0 M) → TT G mi_Mo_reduce 246 [(0, .ref 373)] [] M 0 0 Q) : ∀ j M, j ≤ 512 → ((∃ f, M[397]? = some (lr 17 f) ∧ DL f 17 (V / 2 ^ j % qN)) ∧ Kp [397] M0 M) → TT G mi_Mo_reduce 25 [(1, .int (nI j - 1)), (0, .ref 373)] [] M 0 0 Q := by
  intro j
  induction j with
  | zero =>
    intro M hj hI
    refine T_iload_n d_Mo_reduce_25 rfl ?_
    refine T_if_lt d_Mo_reduce_26 (tgt := 246) rfl (fun _ => ?_) (fun c => absurd (by decide) c)
    exact T_sub (fun q hq => List.mem_cons_of_mem _ hq) (kk M hI)
  | succ j ih =>
    intro M hj hI
    obtain ⟨⟨f, hf, df⟩, hK⟩ := hI
    rw [nI_pp]
    refine T_iload_n d_Mo_reduce_25 rfl ?_
    refine N_if_lt_f (b := j) d_Mo_reduce_26 (tgt := 246) rfl (by omega) (by omega) ?_
    refine T_aload_n (v := .ref 373) d_Mo_reduce_29 rfl (Or.inr ⟨_, rfl⟩) ?_
    have h_1 := (hK 373 (by decide)).trans (ho)
    refine T_getfield (v := .ref 398) d_Mo_reduce_30 fg_Mo_248 h_1 rfl ?_
    refine T_iload_n d_Mo_reduce_33 rfl ?_
    refine T_bipush (v := nI 16) d_Mo_reduce_34 (by decide) ?_
    refine N_idiv (a := 16) (b := j) (c := (j / 16)) d_Mo_reduce_36 (by omega) (by omega) (by omega) rfl ?_
    have h_2 := (hK 398 (by decide)).trans (hw)
    refine N_laload (k := (j / 16)) (x := (wd (j / 16))) d_Mo_reduce_37 h_2 (by omega) (by decide) rfl ?_
    refine T_iload_n d_Mo_reduce_38 rfl ?_
    refine T_bipush (v := nI 16) d_Mo_reduce_39 (by decide) ?_
    refine N_irem (a := 16) (b := j) (c := (j % 16)) d_Mo_reduce_41 (by omega) (by omega) (by omega) rfl ?_
    refine T_lshr d_Mo_reduce_42 ?_
    refine T_lconst (v := 1) d_Mo_reduce_43 (by decide) ?_
    refine T_land d_Mo_reduce_44 ?_
    refine N_topl (y := (Int64.ofNat (cin (V / 2 ^ (j + 1) % qN) (V / 2 ^ j % 2) 0))) (bitv (R := (V / 2 ^ (j + 1) % qN)) dw (by omega)) ?_
    refine T_lstore_n (L' := [(2, .long (Int64.ofNat (cin (V / 2 ^ (j + 1) % qN) (V / 2 ^ j % 2) 0))), (1, .int (nI j)), (0, .ref 373)]) d_Mo_reduce_45 (by decide) rfl ?_
    refine T_iconst (v := nI 0) d_Mo_reduce_46 (by decide) ?_
    refine T_istore (L' := [(4, .int (nI 0)), (2, .long (Int64.ofNat (cin (V / 2 ^ (j + 1) % qN) (V / 2 ^ j % 2) 0))), (1, .int (nI j)), (0, .ref 373)]) d_Mo_reduce_47 (by decide) rfl ?_
    have rl := Nat.mod_lt (V / 2 ^ (j + 1)) qOr_pos
    have hb2 : (V / 2 ^ j % 2) < 2 := Nat.mod_lt _ (by decide)
    have hX : (2 * (V / 2 ^ (j + 1) % qN) + (V / 2 ^ j % 2)) < 65536 ^ 17 := by have := qOr_lt; omega
    refine T_sub (L' := [(4, .int (nI 0)), (2, .long (Int64.ofNat (cin (V / 2 ^ (j + 1) % qN) (V / 2 ^ j % 2) 0))), (1, .int (nI j)), (0, .ref 373)]) (fun _ h => h) ?_
    refine rd_s G (R := (V / 2 ^ (j + 1) % qN)) (b := (V / 2 ^ j % 2)) ((hK 373 (by decide)).trans ho) hb2 (fun Ma hI => ?_) 17 0 M rfl ⟨⟨f, hf, DS_0 df⟩, Kp.rf⟩
    obtain ⟨⟨f2, hf2, df2⟩, hKa⟩ := hI
    have d2 := DS_e df2
    refine T_iconst (v := nI 0) d_Mo_reduce_94 (by decide) ?_
    refine T_istore (L' := [(4, .int (nI 0)), (1, .int (nI j)), (0, .ref 373)]) d_Mo_reduce_95 (by decide) rfl ?_
    refine T_iconst (v := nI 0) d_Mo_reduce_97 (by decide) ?_
    refine T_istore (L' := [(5, .int (nI 0)), (4, .int (nI 0)), (1, .int (nI j)), (0, .ref 373)]) d_Mo_reduce_98 (by decide) rfl ?_
    refine T_bipush (v := nI 16) d_Mo_reduce_100 (by decide) ?_
    refine T_istore (L' := [(6, .int (nI 16)), (5, .int (nI 0)), (4, .int (nI 0)), (1, .int (nI j)), (0, .ref 373)]) d_Mo_reduce_102 (by decide) rfl ?_
    refine T_eq (pc' := 104) (L' := [(6, .int (nI 17 - 1)), (5, .int (nI 0)), (4, .int (nI 0)), (1, .int (nI j)), (0, .ref 373)]) (st' := []) (M' := Ma) rfl rfl rfl rfl ?_
    have kA : Kp [397] M0 Ma := Kp.tr hK hKa
    refine rd_c G ((kA 373 (by decide)).trans ho) hf2 ((kA 396 (by decide)).trans hg) d2 dq (fun hc => ?_) (fun hc => ?_) 17 (Nat.le_refl _) (by rw [Nat.div_eq_of_lt hX]; decide +kernel)
    · 
      refine T_lconst (v := 0) d_Mo_reduce_169 (by decide) ?_
      refine T_lstore (L' := [(6, .long 0), (4, .int (nI 1)), (1, .int (nI j)), (0, .ref 373)]) d_Mo_reduce_170 (by decide) rfl ?_
      refine T_iconst (v := nI 0) d_Mo_reduce_172 (by decide) ?_
      refine T_istore (L' := [(8, .int (nI 0)), (6, .long 0), (4, .int (nI 1)), (1, .int (nI j)), (0, .ref 373)]) d_Mo_reduce_173 (by decide) rfl ?_
      refine T_iload d_Mo_reduce_175 rfl ?_
      refine T_bipush (v := nI 17) d_Mo_reduce_177 (by decide) ?_
      refine N_icmp_ge_f (a := 17) (b := 0) d_Mo_reduce_179 (tgt := 240) rfl (by omega) (by omega) (by omega) ?_
      refine T_iload d_Mo_reduce_182 rfl ?_
      refine N_if_ne_t (b := 1) d_Mo_reduce_184 (tgt := 240) rfl (by omega) (by omega) ?_
      refine T_iinc (x := nI j) (L' := [(1, .int (nI j - 1)), (8, .int (nI 0)), (6, .long 0), (4, .int (nI 1)), (0, .ref 373)]) d_Mo_reduce_240 (by decide) rfl (by rw [nI_dm]; rfl) ?_
      refine T_goto (tgt := 25) d_Mo_reduce_243 rfl ?_
      exact T_sub (L' := [(1, .int (nI j - 1)), (0, .ref 373)]) (fun q hq => by simp only [List.mem_cons, List.not_mem_nil, or_false] at hq ⊢; rcases hq with rfl | rfl <;> simp) (ih Ma (by omega) ⟨⟨f2, hf2, by rw [rdv_s V qN j qOr_pos, if_pos hc]; exact d2⟩, kA⟩)
    · 
      refine T_lconst (v := 0) d_Mo_reduce_169 (by decide) ?_
      refine T_lstore (L' := [(6, .long 0), (4, .int (nI 0)), (1, .int (nI j)), (0, .ref 373)]) d_Mo_reduce_170 (by decide) rfl ?_
      refine T_iconst (v := nI 0) d_Mo_reduce_172 (by decide) ?_
      refine T_istore (L' := [(8, .int (nI 0)), (6, .long 0), (4, .int (nI 0)), (1, .int (nI j)), (0, .ref 373)]) d_Mo_reduce_173 (by decide) rfl ?_
      have e0 : (0 : Int64) = Int64.ofNat (bor (2 * (V / 2 ^ (j + 1) % qN) + (V / 2 ^ j % 2)) qN 0) := by rw [bor_0]; rfl
      rw [e0]
      refine rd_t G (X := (2 * (V / 2 ^ (j + 1) % qN) + (V / 2 ^ j % 2))) ((kA 373 (by decide)).trans ho) ((kA 396 (by decide)).trans hg) dq (by omega) (fun Mb hI => ?_) 17 0 Ma rfl ⟨⟨f2, hf2, DT_0 d2⟩, Kp.rf⟩
      obtain ⟨⟨f3, hf3, df3⟩, hKb⟩ := hI
      refine T_iinc (x := nI j) (L' := [(1, .int (nI j - 1)), (0, .ref 373)]) d_Mo_reduce_240 (by decide) rfl (by rw [nI_dm]; rfl) ?_
      refine T_goto (tgt := 25) d_Mo_reduce_243 rfl ?_
      exact T_sub (L' := [(1, .int (nI j - 1)), (0, .ref 373)]) (fun _ h => h) (ih Mb (by omega) ⟨⟨f3, hf3, by rw [rdv_s V qN j qOr_pos, if_neg hc]; exact DT_e df3⟩, Kp.tr kA hKb⟩)
set_option maxHeartbeats 8000000 in
theorem rd_w (G : GX) {M0 : List va_E} {v : Nat → Int32} {X : Nat} {r : Nat → Int64} (ho : M0[373]? = some (moO v)) (hr : M0[397]? = some (lr 17 r)) (dr : DL r 17 X) {Q : Option Value → List va_E → Prop} (kk : ∀ M, (∃ f, M[395]? = some (lr 16 f) ∧ ∀ i, i < 16 → (f i).toInt = ((dg X i : Nat) : Int)) ∧ Kp [395] M0 M → TT G mi_Mo_reduce 272 [(0, .ref 373)] [] M 0 0 Q) : ∀ j k M, k + j = 16 → (∃ f, M[395]? = some (lr 16 f) ∧ ∀ i, i < k → (f i).toInt = ((dg X i : Nat) : Int)) ∧ Kp [395] M0 M → TT G mi_Mo_reduce 248 [(1, .int (nI k)), (0, .ref 373)] [] M 0 0 Q := by
  intro j
  induction j with
  | zero =>
    intro k M hk hI
    obtain rfl : 16 = k := by omega
    refine T_iload_n d_Mo_reduce_248 rfl ?_
    refine T_bipush (v := nI 16) d_Mo_reduce_249 (by decide) ?_
    refine N_icmp_ge_t (a := 16) (b := 16) d_Mo_reduce_251 (tgt := 272) rfl (by omega) (by omega) (by omega) ?_
    exact T_sub (fun q hq => List.mem_cons_of_mem _ hq) (kk M hI)
  | succ j ih =>
    intro k M hk hI
    obtain ⟨⟨f, h1, h2⟩, hK⟩ := hI
    refine T_iload_n d_Mo_reduce_248 rfl ?_
    refine T_bipush (v := nI 16) d_Mo_reduce_249 (by decide) ?_
    refine N_icmp_ge_f (a := 16) (b := k) d_Mo_reduce_251 (tgt := 272) rfl (by omega) (by omega) (by omega) ?_
    refine T_aload_n (v := .ref 373) d_Mo_reduce_254 rfl (Or.inr ⟨_, rfl⟩) ?_
    have h_1 := (hK 373 (by decide)).trans (ho)
    refine T_getfield (v := .ref 395) d_Mo_reduce_255 fg_Mo_194 h_1 rfl ?_
    refine T_iload_n d_Mo_reduce_258 rfl ?_
    refine T_aload_n (v := .ref 373) d_Mo_reduce_259 rfl (Or.inr ⟨_, rfl⟩) ?_
    refine T_getfield (v := .ref 397) d_Mo_reduce_260 fg_Mo_245 h_1 rfl ?_
    refine T_iload_n d_Mo_reduce_263 rfl ?_
    have h_2 := (hK 397 (by decide)).trans (hr)
    refine N_laload (k := k) (x := (r k)) d_Mo_reduce_264 h_2 (by omega) (by decide) rfl ?_
    refine N_lastore (k := k) d_Mo_reduce_265 (by decide) h1 (by omega) (by decide) rfl (fun M_3 h_4 s_5 => ?_)
    refine N_iinc (k := k) (m := 1) (c := (k + 1)) (L' := [(1, .int (nI ((k + 1)))), (0, .ref 373)]) d_Mo_reduce_266 (by decide) rfl (by decide) rfl rfl ?_
    refine T_goto (tgt := 248) d_Mo_reduce_269 rfl ?_
    exact ih (k + 1) M_3 (by omega) ⟨⟨_, h_4, fun i hi => by by_cases c : i = k; subst c; rw [uL_s]; exact dr _ (by omega); rw [uL_n c]; exact h2 i (by omega)⟩, (Kp.ex (Kp.tr (Kp.rf : Kp [395] M0 M0) (Kp.mono hK (by decide))) s_5 (by decide))⟩
set_option maxHeartbeats 8000000 in
theorem x_Mo_reduce {G : GX} {M : List va_E} {v : Nat → Int32} {V : Nat} {g wd : Nat → Int64} (ho : M[373]? = some (moO v)) (hg : M[396]? = some (lr 17 g)) (dq : DL g 17 qN) (hw : M[398]? = some (lr 32 wd)) (dw : DL wd 32 V) (hV : V < 2 ^ 512) (hr : LQ M 397 17) (hs : LQ M 395 16) : CT G mi_Mo_reduce [.ref 373] M (fun r M' => r = none ∧ (∃ f, M'[395]? = some (lr 16 f) ∧ ∀ i, i < 16 → (f i).toInt = ((dg (V % qN) i : Nat) : Int)) ∧ LQ M' 397 17 ∧ Kp [395, 397] M M') := by
  obtain ⟨r0, hr⟩ := hr
  obtain ⟨s0, hs⟩ := hs
  refine CT.of (by decide) (Nat.le_of_ble_eq_true rfl) ?_
  show TT G mi_Mo_reduce 0 [(0, .ref 373)] [] M 0 0 _
  refine T_iconst (v := nI 0) d_Mo_reduce_0 (by decide) ?_
  refine T_istore_n (L' := [(1, .int (nI 0)), (0, .ref 373)]) d_Mo_reduce_1 (by decide) rfl ?_
  refine rd_z G ho (fun Ma hI => ?_) 17 0 M rfl ⟨⟨r0, hr, fun i hi => absurd hi (Nat.not_lt_zero i)⟩, Kp.rf⟩
  obtain ⟨⟨fa, ha, ha2⟩, ka⟩ := hI
  refine T_sipush (v := nI 511) d_Mo_reduce_21 (by decide) ?_
  refine T_istore_n (L' := [(1, .int (nI 511)), (0, .ref 373)]) d_Mo_reduce_24 (by decide) rfl ?_
  rw [show nI 511 = nI 512 - 1 from by decide]
  refine rd_o G ((ka 373 (by decide)).trans ho) ((ka 396 (by decide)).trans hg) dq ((ka 398 (by decide)).trans hw) dw (fun Mb hI => ?_) 512 Ma (Nat.le_refl _) ⟨⟨fa, ha, fun i hi => ?_⟩, Kp.rf⟩
  rotate_left
  · rw [ha2 i hi, Nat.div_eq_of_lt hV, Nat.zero_mod]; unfold dg; rw [Nat.zero_div]; rfl
  obtain ⟨⟨fb, hb, db⟩, kb⟩ := hI
  rw [Nat.pow_zero, Nat.div_one] at db
  refine T_iconst (v := nI 0) d_Mo_reduce_246 (by decide) ?_
  refine T_istore_n (L' := [(1, .int (nI 0)), (0, .ref 373)]) d_Mo_reduce_247 (by decide) rfl ?_
  have kc : Kp [397] M Mb := Kp.tr ka kb
  refine rd_w G ((kc 373 (by decide)).trans ho) hb db (fun Mc hI => ?_) 16 0 Mb rfl ⟨⟨s0, (kc 395 (by decide)).trans hs, fun i hi => absurd hi (Nat.not_lt_zero i)⟩, Kp.rf⟩
  obtain ⟨⟨fc, hc, dc⟩, kd⟩ := hI
  exact T_vret d_Mo_reduce_272 rfl (by decide) (by decide) ⟨rfl, ⟨fc, hc, dc⟩, ⟨fb, (kd 397 (by decide)).trans hb⟩, Kp.tr (Kp.mono kc (by decide)) (Kp.mono kd (by decide))⟩
theorem MS.w3 {M M' : List va_E} (h : MS M) (s : Kp [395, 397, 398] M M') (h5 : LQ M' 395 16) (h7 : LQ M' 397 17) (h8 : LQ M' 398 32) : MS M' := by
  refine h.up s (fun z hz c => absurd c ((by decide +kernel : ∀ z ∈ msI, z.1 ∉ [395, 397, 398]) z hz)) (fun z hz c => ?_) (by decide)
  have e := (by decide +kernel : ∀ z ∈ msL, z.1 ∈ [395, 397, 398] → z = (395, 16) ∨ z = (397, 17) ∨ z = (398, 32)) z hz c
  rcases e with e | e | e <;> subst e
  · exact h5
  · exact h7
  · exact h8
theorem SC.lq {M : List va_E} {q n off x : Nat} (h : SC M q n off x) : LQ M q n := by obtain ⟨f, h, -⟩ := h; exact ⟨f, h⟩
theorem sc_mk {M : List va_E} {q n x : Nat} {f : Nat → Int64} (h : M[q]? = some (lr n f)) (d : ∀ i, i < 16 → (f i).toInt = ((dg x i : Nat) : Int)) : SC M q n 0 x := ⟨f, h, fun k hk => by rw [Nat.zero_add]; exact d k hk⟩
theorem SC.dl {M : List va_E} {q n x : Nat} (h : SC M q n 0 x) : ∃ f, M[q]? = some (lr n f) ∧ DL f 16 x := by
  obtain ⟨f, h1, h2⟩ := h
  exact ⟨f, h1, fun k hk => by have := h2 k hk; rw [Nat.zero_add] at this; exact this⟩
theorem MS.qd {M : List va_E} (h : MS M) : ∃ g, M[396]? = some (lr 17 g) ∧ DL g 17 qN := by
  obtain ⟨-, -, -, f, h1, h2⟩ := h.2.2.1
  exact ⟨f, h1, fun t ht => by rw [h2 t ht]; exact qL_d t ht⟩
theorem b_Mo_reduce {G : GX} {M : List va_E} {v : Nat → Int32} {V : Nat} {wd : Nat → Int64} (ho : M[373]? = some (moO v)) (hms : MS M) (hw : M[398]? = some (lr 32 wd)) (dw : DL wd 32 V) (hV : V < 2 ^ 512) : CT G mi_Mo_reduce [.ref 373] M (fun r M' => r = none ∧ MS M' ∧ SC M' 395 16 0 (V % qN) ∧ Kp [395, 397] M M') := by
  obtain ⟨g, h1, h2⟩ := hms.qd
  refine (x_Mo_reduce ho h1 h2 hw dw hV (hms.lq (by decide)) (hms.lq (by decide))).post fun r M' q => ?_
  obtain ⟨q1, ⟨f, q2, q3⟩, q4, q5⟩ := q
  have s := sc_mk q2 q3
  exact ⟨q1, hms.w3 (q5.mono (by decide)) s.lq q4 ⟨_, (q5 398 (by decide)).trans hw⟩, s, q5⟩
abbrev scaW : List Nat := [395, 397, 398]
set_option maxHeartbeats 8000000 in
theorem so_z (G : GX) {M0 : List va_E} {v : Nat → Int32} {p at0 n : Nat} (ho : M0[373]? = some (moO v)) {Q : Option Value → List va_E → Prop} (kk : ∀ M, (∃ f, M[398]? = some (lr 32 f) ∧ ∀ i, i < 32 → f i = 0) ∧ Kp [398] M0 M → TT G mi_Mo_scalarOf 24 [(0, .ref 373), (1, .ref p), (2, .int (nI at0)), (3, .int (nI n))] [] M 0 0 Q) : ∀ j k M, k + j = 32 → (∃ f, M[398]? = some (lr 32 f) ∧ ∀ i, i < k → f i = 0) ∧ Kp [398] M0 M → TT G mi_Mo_scalarOf 3 [(4, .int (nI k)), (0, .ref 373), (1, .ref p), (2, .int (nI at0)), (3, .int (nI n))] [] M 0 0 Q := by
  intro j
  induction j with
  | zero =>
    intro k M hk hI
    obtain rfl : 32 = k := by omega
    refine T_iload d_Mo_scalarOf_3 rfl ?_
    refine T_bipush (v := nI 32) d_Mo_scalarOf_5 (by decide) ?_
    refine N_icmp_ge_t (a := 32) (b := 32) d_Mo_scalarOf_7 (tgt := 24) rfl (by omega) (by omega) (by omega) ?_
    exact T_sub (fun q hq => List.mem_cons_of_mem _ hq) (kk M hI)
  | succ j ih =>
    intro k M hk hI
    obtain ⟨⟨f, h1, h2⟩, hK⟩ := hI
    refine T_iload d_Mo_scalarOf_3 rfl ?_
    refine T_bipush (v := nI 32) d_Mo_scalarOf_5 (by decide) ?_
    refine N_icmp_ge_f (a := 32) (b := k) d_Mo_scalarOf_7 (tgt := 24) rfl (by omega) (by omega) (by omega) ?_
    refine T_aload_n (v := .ref 373) d_Mo_scalarOf_10 rfl (Or.inr ⟨_, rfl⟩) ?_
    have h_1 := (hK 373 (by decide)).trans (ho)
    refine T_getfield (v := .ref 398) d_Mo_scalarOf_11 fg_Mo_248 h_1 rfl ?_
    refine T_iload d_Mo_scalarOf_14 rfl ?_
    refine T_lconst (v := 0) d_Mo_scalarOf_16 (by decide) ?_
    refine N_lastore (k := k) d_Mo_scalarOf_17 (by decide) h1 (by omega) (by decide) rfl (fun M_2 h_3 s_4 => ?_)
    refine N_iinc (k := k) (m := 1) (c := (k + 1)) (L' := [(4, .int (nI ((k + 1)))), (0, .ref 373), (1, .ref p), (2, .int (nI at0)), (3, .int (nI n))]) d_Mo_scalarOf_18 (by decide) rfl (by decide) rfl rfl ?_
    refine T_goto (tgt := 3) d_Mo_scalarOf_21 rfl ?_
    exact ih (k + 1) M_2 (by omega) ⟨⟨_, h_3, fun i hi => by by_cases c : i = k; subst c; exact uL_s; rw [uL_n c]; exact h2 i (by omega)⟩, (Kp.ex (Kp.tr (Kp.rf : Kp [398] M0 M0) (Kp.mono hK (by decide))) s_4 (by decide))⟩
set_option maxHeartbeats 8000000 in
theorem so_b (G : GX) {M0 : List va_E} {v : Nat → Int32} {p m at0 n : Nat} {s : List UInt8} (ho : M0[373]? = some (moO v)) (hi : IA M0 p m s) (ha : at0 + n ≤ s.length) (hm : m < 2 ^ 30) (hn : n ≤ 64) (hp : p ∉ scaW) {Q : Option Value → List va_E → Prop} (kk : ∀ M, (∃ f, M[398]? = some (lr 32 f) ∧ DL f 32 (leN (sl s at0 n) n)) ∧ Kp [398] M0 M → TT G mi_Mo_scalarOf 66 [(0, .ref 373), (1, .ref p), (2, .int (nI at0)), (3, .int (nI n))] [] M 0 0 Q) : ∀ j k M, k + j = n → (∃ f, M[398]? = some (lr 32 f) ∧ DL f 32 (leN (sl s at0 n) k)) ∧ Kp [398] M0 M → TT G mi_Mo_scalarOf 27 [(4, .int (nI k)), (0, .ref 373), (1, .ref p), (2, .int (nI at0)), (3, .int (nI n))] [] M 0 0 Q := by
  intro j
  induction j with
  | zero =>
    intro k M hk hI
    obtain rfl : n = k := by omega
    refine T_iload d_Mo_scalarOf_27 rfl ?_
    refine T_iload_n d_Mo_scalarOf_29 rfl ?_
    refine N_icmp_ge_t (a := n) (b := n) d_Mo_scalarOf_30 (tgt := 66) rfl (by omega) (by omega) (by omega) ?_
    exact T_sub (fun q hq => List.mem_cons_of_mem _ hq) (kk M hI)
  | succ j ih =>
    intro k M hk hI
    obtain ⟨⟨f, h1, hd⟩, hK⟩ := hI
    have hps := hi.le
    refine T_iload d_Mo_scalarOf_27 rfl ?_
    refine T_iload_n d_Mo_scalarOf_29 rfl ?_
    refine N_icmp_ge_f (a := n) (b := k) d_Mo_scalarOf_30 (tgt := 66) rfl (by omega) (by omega) (by omega) ?_
    refine T_aload_n (v := .ref 373) d_Mo_scalarOf_33 rfl (Or.inr ⟨_, rfl⟩) ?_
    have h_1 := (hK 373 (by decide)).trans (ho)
    refine T_getfield (v := .ref 398) d_Mo_scalarOf_34 fg_Mo_248 h_1 rfl ?_
    refine T_iload d_Mo_scalarOf_37 rfl ?_
    refine T_iconst (v := nI 2) d_Mo_scalarOf_39 (by decide) ?_
    refine N_idiv (a := 2) (b := k) (c := (k / 2)) d_Mo_scalarOf_40 (by omega) (by omega) (by omega) rfl ?_
    refine T_dup2 d_Mo_scalarOf_41 rfl rfl ?_
    refine N_laload (k := (k / 2)) (x := (f (k / 2))) d_Mo_scalarOf_42 h1 (by omega) (by decide) rfl ?_
    refine T_aload_n (v := .ref p) d_Mo_scalarOf_43 rfl (Or.inr ⟨_, rfl⟩) ?_
    refine T_iload_n d_Mo_scalarOf_44 rfl ?_
    refine T_iload d_Mo_scalarOf_45 rfl ?_
    refine N_iadd (a := k) (b := at0) (c := (at0 + k)) d_Mo_scalarOf_47 rfl ?_
    have p_2 := (IA.kp (hi) hK (nm hp (by decide)))
    obtain ⟨f_3, hf_4, hl_5, hv_6⟩ := id p_2
    refine N_iaload (k := (at0 + k)) (x := (bR (gd s (at0 + k)))) d_Mo_scalarOf_48 hf_4 (by omega) (by omega) (hv_6 (at0 + k) (by first | omega | (simp only [List.length_append, List.length_cons, List.length_nil, List.length_replicate, sl_len, be_len, sha_len, hmac_len, ex1_len, ex2_len, stretch_len, zer8_len, tC_len, tag1_len, bnN_len, xkp_len]; omega))) ?_
    refine T_i2l d_Mo_scalarOf_49 ?_
    refine T_bipush (v := nI 8) d_Mo_scalarOf_50 (by decide) ?_
    refine T_iload d_Mo_scalarOf_52 rfl ?_
    refine T_iconst (v := nI 2) d_Mo_scalarOf_54 (by decide) ?_
    refine N_irem (a := 2) (b := k) (c := (k % 2)) d_Mo_scalarOf_55 (by omega) (by omega) (by omega) rfl ?_
    refine N_imul (a := (k % 2)) (b := 8) (c := (8 * (k % 2))) d_Mo_scalarOf_56 rfl ?_
    refine T_lshl d_Mo_scalarOf_57 ?_
    refine T_ladd d_Mo_scalarOf_58 ?_
    refine N_lastore (k := (k / 2)) d_Mo_scalarOf_59 (by decide) h1 (by omega) (by decide) rfl (fun M_7 h_8 s_9 => ?_)
    refine N_iinc (k := k) (m := 1) (c := (k + 1)) (L' := [(4, .int (nI ((k + 1)))), (0, .ref 373), (1, .ref p), (2, .int (nI at0)), (3, .int (nI n))]) d_Mo_scalarOf_60 (by decide) rfl (by decide) rfl rfl ?_
    refine T_goto (tgt := 27) d_Mo_scalarOf_63 rfl ?_
    exact ih (k + 1) M_7 (by omega) ⟨⟨_, h_8, by show DL _ 32 (leN (sl s at0 n) k + (gd (sl s at0 n) k).toNat * 256 ^ k); rw [sl_gd (show k < n by omega)]; exact DL_by hd (leN_lt _ k) (by omega)⟩, (Kp.ex (Kp.tr (Kp.rf : Kp [398] M0 M0) (Kp.mono hK (by decide))) s_9 (by decide))⟩
set_option maxHeartbeats 8000000 in
theorem b_Mo_scalarOf {G : GX} {M : List va_E} {w : Nat → Int32} {p m at0 n : Nat} {l s : List UInt8} (hms : MS M) (h : BG M w l) (hk : IA M p m s) (ha : at0 + n ≤ s.length) (hm2 : m < 2 ^ 30) (hn : n ≤ 64) (hp : p ∉ scaW) : CT G mi_Mo_scalarOf [.ref 373, .ref p, .int (nI at0), .int (nI n)] M (fun r M' => r = none ∧ MS M' ∧ SC M' 395 16 0 (leN (sl s at0 n) n % qN) ∧ Kp scaW M M') := by
  obtain ⟨v, ho, -⟩ := id h
  obtain ⟨f0, h0⟩ := hms.lq (p := 398) (n := 32) (by decide)
  refine CT.of (by decide) (Nat.le_of_ble_eq_true rfl) ?_
  show TT G mi_Mo_scalarOf 0 [(0, .ref 373), (1, .ref p), (2, .int (nI at0)), (3, .int (nI n))] [] M 0 0 _
  refine T_iconst (v := nI 0) d_Mo_scalarOf_0 (by decide) ?_
  refine T_istore (L' := [(4, .int (nI 0)), (0, .ref 373), (1, .ref p), (2, .int (nI at0)), (3, .int (nI n))]) d_Mo_scalarOf_1 (by decide) rfl ?_
  refine so_z G ho (fun Ma hI => ?_) 32 0 M rfl ⟨⟨f0, h0, fun i hi => absurd hi (Nat.not_lt_zero i)⟩, Kp.rf⟩
  obtain ⟨⟨fa, ha1, ha2⟩, ka⟩ := hI
  have ms_1 := MS.wl hms ka ⟨_, ha1⟩ (by decide) (by decide) (by decide)
  refine T_iconst (v := nI 0) d_Mo_scalarOf_24 (by decide) ?_
  refine T_istore (L' := [(4, .int (nI 0)), (0, .ref 373), (1, .ref p), (2, .int (nI at0)), (3, .int (nI n))]) d_Mo_scalarOf_25 (by decide) rfl ?_
  refine so_b G ((ka 373 (by decide)).trans ho) (hk.kp ka (nm hp (by decide))) ha hm2 hn hp (fun Mb hI => ?_) n 0 Ma (Nat.zero_add _) ⟨⟨fa, ha1, fun i hi => by rw [ha2 i hi]; show _ = ((dg 0 i : Nat) : Int); unfold dg; rw [Nat.zero_div]; rfl⟩, Kp.rf⟩
  obtain ⟨⟨fb, hb1, hb2⟩, kb⟩ := hI
  have ms_2 := MS.wl ms_1 kb ⟨_, hb1⟩ (by decide) (by decide) (by decide)
  refine T_aload_n (v := .ref 373) d_Mo_scalarOf_66 rfl (Or.inr ⟨_, rfl⟩) ?_
  have p_4 := (BG.kp ((BG.kp (h) ka (by decide) (by decide))) kb (by decide) (by decide))
  obtain ⟨v_5, hov_5, hwv_5, hsv_5, hiv_5⟩ := id p_4
  refine T_virtual (as := []) (rest := []) (b := 373) d_Mo_scalarOf_67 rfl (jw_Mo_reduce.jo (by decide)) lm_Mo_251 ji_Mo_reduce js_Mo_reduce hov_5 rfl rfl rfl (Nat.le_of_ble_eq_true rfl) (by decide) (by decide) (b_Mo_reduce hov_5 ms_2 hb1 hb2 (Nat.lt_of_lt_of_le (leN_lt _ n) (by rw [show (2 : Nat) ^ 512 = 256 ^ 64 from by decide +kernel]; exact Nat.pow_le_pow_right (by decide) hn))) (fun r M_3 hq => ?_)
  obtain ⟨rfl, ms_3, sc_3, kp_3⟩ := hq
  refine T_eq (pc' := 70) (L' := [(0, .ref 373), (1, .ref p), (2, .int (nI at0)), (3, .int (nI n))]) (st' := []) (M' := M_3) rfl rfl rfl rfl ?_
  exact T_vret d_Mo_scalarOf_70 rfl (by decide) (by decide) ⟨rfl, ms_3, sc_3, (Kp.tr (Kp.tr (Kp.tr (Kp.rf : Kp [395, 397, 398] M M) (Kp.mono ka (by decide))) (Kp.mono kb (by decide))) (Kp.mono kp_3 (by decide)))⟩
set_option maxHeartbeats 8000000 in
theorem tm_z (G : GX) {M0 : List va_E} {v : Nat → Int32} {p : Nat} (ho : M0[373]? = some (moO v)) {Q : Option Value → List va_E → Prop} (kk : ∀ M, (∃ f, M[398]? = some (lr 32 f) ∧ ∀ i, i < 32 → f i = 0) ∧ Kp [398] M0 M → TT G mi_Mo_timesScalar 21 [(0, .ref 373), (1, .ref p)] [] M 0 0 Q) : ∀ j k M, k + j = 32 → (∃ f, M[398]? = some (lr 32 f) ∧ ∀ i, i < k → f i = 0) ∧ Kp [398] M0 M → TT G mi_Mo_timesScalar 2 [(2, .int (nI k)), (0, .ref 373), (1, .ref p)] [] M 0 0 Q := by
  intro j
  induction j with
  | zero =>
    intro k M hk hI
    obtain rfl : 32 = k := by omega
    refine T_iload_n d_Mo_timesScalar_2 rfl ?_
    refine T_bipush (v := nI 32) d_Mo_timesScalar_3 (by decide) ?_
    refine N_icmp_ge_t (a := 32) (b := 32) d_Mo_timesScalar_5 (tgt := 21) rfl (by omega) (by omega) (by omega) ?_
    exact T_sub (fun q hq => List.mem_cons_of_mem _ hq) (kk M hI)
  | succ j ih =>
    intro k M hk hI
    obtain ⟨⟨f, h1, h2⟩, hK⟩ := hI
    refine T_iload_n d_Mo_timesScalar_2 rfl ?_
    refine T_bipush (v := nI 32) d_Mo_timesScalar_3 (by decide) ?_
    refine N_icmp_ge_f (a := 32) (b := k) d_Mo_timesScalar_5 (tgt := 21) rfl (by omega) (by omega) (by omega) ?_
    refine T_aload_n (v := .ref 373) d_Mo_timesScalar_8 rfl (Or.inr ⟨_, rfl⟩) ?_
    have h_1 := (hK 373 (by decide)).trans (ho)
    refine T_getfield (v := .ref 398) d_Mo_timesScalar_9 fg_Mo_248 h_1 rfl ?_
    refine T_iload_n d_Mo_timesScalar_12 rfl ?_
    refine T_lconst (v := 0) d_Mo_timesScalar_13 (by decide) ?_
    refine N_lastore (k := k) d_Mo_timesScalar_14 (by decide) h1 (by omega) (by decide) rfl (fun M_2 h_3 s_4 => ?_)
    refine N_iinc (k := k) (m := 1) (c := (k + 1)) (L' := [(2, .int (nI ((k + 1)))), (0, .ref 373), (1, .ref p)]) d_Mo_timesScalar_15 (by decide) rfl (by decide) rfl rfl ?_
    refine T_goto (tgt := 2) d_Mo_timesScalar_18 rfl ?_
    exact ih (k + 1) M_2 (by omega) ⟨⟨_, h_3, fun i hi => by by_cases c : i = k; subst c; exact uL_s; rw [uL_n c]; exact h2 i (by omega)⟩, (Kp.ex (Kp.tr (Kp.rf : Kp [398] M0 M0) (Kp.mono hK (by decide))) s_4 (by decide))⟩
set_option maxHeartbeats 8000000 in
theorem tm_i (G : GX) {M0 : List va_E} {v : Nat → Int32} {p x y a : Nat} {S Y : Nat → Int64} (ho : M0[373]? = some (moO v)) (hS : M0[395]? = some (lr 16 S)) (dS : DL S 16 x) (hY : M0[p]? = some (lr 16 Y)) (dY : DL Y 16 y) (hp : p ∉ scaW) (ha : a < 16) {Q : Option Value → List va_E → Prop} (kk : ∀ M, (∃ f, M[398]? = some (lr 32 f) ∧ LZm f x y a 16) ∧ Kp [398] M0 M → TT G mi_Mo_timesScalar 64 [(2, .int (nI a)), (0, .ref 373), (1, .ref p)] [] M 0 0 Q) : ∀ j k M, k + j = 16 → (∃ f, M[398]? = some (lr 32 f) ∧ LZm f x y a k) ∧ Kp [398] M0 M → TT G mi_Mo_timesScalar 31 [(3, .int (nI k)), (2, .int (nI a)), (0, .ref 373), (1, .ref p)] [] M 0 0 Q := by
  intro j
  induction j with
  | zero =>
    intro k M hk hI
    obtain rfl : 16 = k := by omega
    refine T_iload_n d_Mo_timesScalar_31 rfl ?_
    refine T_bipush (v := nI 16) d_Mo_timesScalar_32 (by decide) ?_
    refine N_icmp_ge_t (a := 16) (b := 16) d_Mo_timesScalar_34 (tgt := 64) rfl (by omega) (by omega) (by omega) ?_
    exact T_sub (fun q hq => List.mem_cons_of_mem _ hq) (kk M hI)
  | succ j ih =>
    intro k M hk hI
    obtain ⟨⟨f, h1, hd⟩, hK⟩ := hI
    refine T_iload_n d_Mo_timesScalar_31 rfl ?_
    refine T_bipush (v := nI 16) d_Mo_timesScalar_32 (by decide) ?_
    refine N_icmp_ge_f (a := 16) (b := k) d_Mo_timesScalar_34 (tgt := 64) rfl (by omega) (by omega) (by omega) ?_
    refine T_aload_n (v := .ref 373) d_Mo_timesScalar_37 rfl (Or.inr ⟨_, rfl⟩) ?_
    have h_1 := (hK 373 (by decide)).trans (ho)
    refine T_getfield (v := .ref 398) d_Mo_timesScalar_38 fg_Mo_248 h_1 rfl ?_
    refine T_iload_n d_Mo_timesScalar_41 rfl ?_
    refine T_iload_n d_Mo_timesScalar_42 rfl ?_
    refine N_iadd (a := k) (b := a) (c := (a + k)) d_Mo_timesScalar_43 rfl ?_
    refine T_dup2 d_Mo_timesScalar_44 rfl rfl ?_
    refine N_laload (k := (a + k)) (x := (f (a + k))) d_Mo_timesScalar_45 h1 (by omega) (by decide) rfl ?_
    refine T_aload_n (v := .ref 373) d_Mo_timesScalar_46 rfl (Or.inr ⟨_, rfl⟩) ?_
    refine T_getfield (v := .ref 395) d_Mo_timesScalar_47 fg_Mo_194 h_1 rfl ?_
    refine T_iload_n d_Mo_timesScalar_50 rfl ?_
    have h_2 := (hK 395 (by decide)).trans (hS)
    refine N_laload (k := a) (x := (S a)) d_Mo_timesScalar_51 h_2 (by omega) (by decide) rfl ?_
    refine T_aload_n (v := .ref p) d_Mo_timesScalar_52 rfl (Or.inr ⟨_, rfl⟩) ?_
    refine T_iload_n d_Mo_timesScalar_53 rfl ?_
    have h_3 := (hK p (nm hp (by decide))).trans (hY)
    refine N_laload (k := k) (x := (Y k)) d_Mo_timesScalar_54 h_3 (by omega) (by decide) rfl ?_
    refine T_lmul d_Mo_timesScalar_55 ?_
    refine T_ladd d_Mo_timesScalar_56 ?_
    refine N_lastore (k := (a + k)) d_Mo_timesScalar_57 (by decide) h1 (by omega) (by decide) rfl (fun M_4 h_5 s_6 => ?_)
    refine N_iinc (k := k) (m := 1) (c := (k + 1)) (L' := [(3, .int (nI ((k + 1)))), (2, .int (nI a)), (0, .ref 373), (1, .ref p)]) d_Mo_timesScalar_58 (by decide) rfl (by decide) rfl rfl ?_
    refine T_goto (tgt := 31) d_Mo_timesScalar_61 rfl ?_
    exact ih (k + 1) M_4 (by omega) ⟨⟨_, h_5, LZm_s hd dS dY ha (by omega)⟩, (Kp.ex (Kp.tr (Kp.rf : Kp [398] M0 M0) (Kp.mono hK (by decide))) s_6 (by decide))⟩
set_option maxHeartbeats 8000000 in
theorem tm_o (G : GX) {M0 : List va_E} {v : Nat → Int32} {p x y : Nat} {S Y : Nat → Int64} (ho : M0[373]? = some (moO v)) (hS : M0[395]? = some (lr 16 S)) (dS : DL S 16 x) (hY : M0[p]? = some (lr 16 Y)) (dY : DL Y 16 y) (hp : p ∉ scaW) {Q : Option Value → List va_E → Prop} (kk : ∀ M, (∃ f, M[398]? = some (lr 32 f) ∧ LZs f (sN (dg x) 16 * sN (dg y) 16) (16 * 16 * 4294967296)) ∧ Kp [398] M0 M → TT G mi_Mo_timesScalar 70 [(0, .ref 373), (1, .ref p)] [] M 0 0 Q) : ∀ j k M, k + j = 16 → (∃ f, M[398]? = some (lr 32 f) ∧ LZs f (sN (dg x) k * sN (dg y) 16) (16 * k * 4294967296)) ∧ Kp [398] M0 M → TT G mi_Mo_timesScalar 23 [(2, .int (nI k)), (0, .ref 373), (1, .ref p)] [] M 0 0 Q := by
  intro j
  induction j with
  | zero =>
    intro k M hk hI
    obtain rfl : 16 = k := by omega
    refine T_iload_n d_Mo_timesScalar_23 rfl ?_
    refine T_bipush (v := nI 16) d_Mo_timesScalar_24 (by decide) ?_
    refine N_icmp_ge_t (a := 16) (b := 16) d_Mo_timesScalar_26 (tgt := 70) rfl (by omega) (by omega) (by omega) ?_
    exact T_sub (fun q hq => List.mem_cons_of_mem _ hq) (kk M hI)
  | succ j ih =>
    intro k M hk hI
    obtain ⟨⟨f, h1, hd⟩, hK⟩ := hI
    refine T_iload_n d_Mo_timesScalar_23 rfl ?_
    refine T_bipush (v := nI 16) d_Mo_timesScalar_24 (by decide) ?_
    refine N_icmp_ge_f (a := 16) (b := k) d_Mo_timesScalar_26 (tgt := 70) rfl (by omega) (by omega) (by omega) ?_
    refine T_iconst (v := nI 0) d_Mo_timesScalar_29 (by decide) ?_
    refine T_istore_n (L' := [(3, .int (nI 0)), (2, .int (nI k)), (0, .ref 373), (1, .ref p)]) d_Mo_timesScalar_30 (by decide) rfl ?_
    refine tm_i G (a := k) ((hK 373 (by decide)).trans ho) ((hK 395 (by decide)).trans hS) dS ((hK p (nm hp (by decide))).trans hY) dY hp (by omega) (fun Mb hI => ?_) 16 0 M rfl ⟨⟨f, h1, LZm_0 hd⟩, Kp.rf⟩
    obtain ⟨⟨f2, h2, hd2⟩, hKb⟩ := hI
    refine N_iinc (k := k) (m := 1) (c := (k + 1)) (L' := [(2, .int (nI ((k + 1)))), (0, .ref 373), (1, .ref p)]) d_Mo_timesScalar_64 (by decide) rfl (by decide) rfl rfl ?_
    refine T_goto (tgt := 23) d_Mo_timesScalar_67 rfl ?_
    exact ih (k + 1) Mb (by omega) ⟨⟨f2, h2, LZm_e hd2⟩, (Kp.tr (Kp.tr (Kp.rf : Kp [398] M0 M0) (Kp.mono hK (by decide))) (Kp.mono hKb (by decide)))⟩
set_option maxHeartbeats 8000000 in
theorem tm_c (G : GX) {M0 : List va_E} {v : Nat → Int32} {p V : Nat} (ho : M0[373]? = some (moO v)) {Q : Option Value → List va_E → Prop} (kk : ∀ M, (∃ f, M[398]? = some (lr 32 f) ∧ LZc f V 31) ∧ Kp [398] M0 M → TT G mi_Mo_timesScalar 116 [(0, .ref 373), (1, .ref p)] [] M 0 0 Q) : ∀ j k M, k + j = 31 → (∃ f, M[398]? = some (lr 32 f) ∧ LZc f V k) ∧ Kp [398] M0 M → TT G mi_Mo_timesScalar 72 [(2, .int (nI k)), (0, .ref 373), (1, .ref p)] [] M 0 0 Q := by
  intro j
  induction j with
  | zero =>
    intro k M hk hI
    obtain rfl : 31 = k := by omega
    refine T_iload_n d_Mo_timesScalar_72 rfl ?_
    refine T_bipush (v := nI 31) d_Mo_timesScalar_73 (by decide) ?_
    refine N_icmp_ge_t (a := 31) (b := 31) d_Mo_timesScalar_75 (tgt := 116) rfl (by omega) (by omega) (by omega) ?_
    exact T_sub (fun q hq => List.mem_cons_of_mem _ hq) (kk M hI)
  | succ j ih =>
    intro k M hk hI
    obtain ⟨⟨f, h1, hd⟩, hK⟩ := hI
    refine T_iload_n d_Mo_timesScalar_72 rfl ?_
    refine T_bipush (v := nI 31) d_Mo_timesScalar_73 (by decide) ?_
    refine N_icmp_ge_f (a := 31) (b := k) d_Mo_timesScalar_75 (tgt := 116) rfl (by omega) (by omega) (by omega) ?_
    refine T_aload_n (v := .ref 373) d_Mo_timesScalar_78 rfl (Or.inr ⟨_, rfl⟩) ?_
    have h_1 := (hK 373 (by decide)).trans (ho)
    refine T_getfield (v := .ref 398) d_Mo_timesScalar_79 fg_Mo_248 h_1 rfl ?_
    refine T_iload_n d_Mo_timesScalar_82 rfl ?_
    refine T_iconst (v := nI 1) d_Mo_timesScalar_83 (by decide) ?_
    refine N_iadd (a := 1) (b := k) (c := (k + 1)) d_Mo_timesScalar_84 rfl ?_
    refine T_dup2 d_Mo_timesScalar_85 rfl rfl ?_
    refine N_laload (k := (k + 1)) (x := (f (k + 1))) d_Mo_timesScalar_86 h1 (by omega) (by decide) rfl ?_
    refine T_aload_n (v := .ref 373) d_Mo_timesScalar_87 rfl (Or.inr ⟨_, rfl⟩) ?_
    refine T_getfield (v := .ref 398) d_Mo_timesScalar_88 fg_Mo_248 h_1 rfl ?_
    refine T_iload_n d_Mo_timesScalar_91 rfl ?_
    refine N_laload (k := k) (x := (f k)) d_Mo_timesScalar_92 h1 (by omega) (by decide) rfl ?_
    refine T_bipush (v := nI 16) d_Mo_timesScalar_93 (by decide) ?_
    refine T_lshr d_Mo_timesScalar_95 ?_
    refine T_ladd d_Mo_timesScalar_96 ?_
    refine N_lastore (k := (k + 1)) d_Mo_timesScalar_97 (by decide) h1 (by omega) (by decide) rfl (fun M_2 h_3 s_4 => ?_)
    refine T_aload_n (v := .ref 373) d_Mo_timesScalar_98 rfl (Or.inr ⟨_, rfl⟩) ?_
    have h_5 := (s_4 373 (by decide)).trans (h_1)
    refine T_getfield (v := .ref 398) d_Mo_timesScalar_99 fg_Mo_248 h_5 rfl ?_
    refine T_iload_n d_Mo_timesScalar_102 rfl ?_
    refine T_dup2 d_Mo_timesScalar_103 rfl rfl ?_
    refine N_laload (k := k) (x := ((vp_updL f (k + 1) ((f (k + 1)) + ((f k) >>> ((nI 16).toInt64 &&& 63)))) k)) d_Mo_timesScalar_104 h_3 (by omega) (by decide) rfl ?_
    refine T_ldc2 d_Mo_timesScalar_105 kJ_Mo_29 ?_
    refine T_land d_Mo_timesScalar_108 ?_
    refine N_lastore (k := k) d_Mo_timesScalar_109 (by decide) h_3 (by omega) (by decide) rfl (fun M_6 h_7 s_8 => ?_)
    refine N_iinc (k := k) (m := 1) (c := (k + 1)) (L' := [(2, .int (nI ((k + 1)))), (0, .ref 373), (1, .ref p)]) d_Mo_timesScalar_110 (by decide) rfl (by decide) rfl rfl ?_
    refine T_goto (tgt := 72) d_Mo_timesScalar_113 rfl ?_
    exact ih (k + 1) M_6 (by omega) ⟨⟨_, h_7, LZc_s hd (by omega)⟩, (Kp.ex (Kp.ex (Kp.tr (Kp.rf : Kp [398] M0 M0) (Kp.mono hK (by decide))) s_4 (by decide)) s_8 (by decide))⟩
set_option maxHeartbeats 8000000 in
theorem b_Mo_timesScalar {G : GX} {M : List va_E} {v : Nat → Int32} {p x y : Nat} (hms : MS M) (ho : M[373]? = some (moO v)) (hS : SC M 395 16 0 x) (hY : SC M p 16 0 y) (hx : x < 65536 ^ 16) (hy : y < 65536 ^ 16) (hp : p ∉ scaW) : CT G mi_Mo_timesScalar [.ref 373, .ref p] M (fun r M' => r = none ∧ MS M' ∧ SC M' 395 16 0 (x * y % qN) ∧ Kp scaW M M') := by
  obtain ⟨S, hS1, dS⟩ := hS.dl
  obtain ⟨Y, hY1, dY⟩ := hY.dl
  obtain ⟨f0, h0⟩ := hms.lq (p := 398) (n := 32) (by decide)
  refine CT.of (by decide) (Nat.le_of_ble_eq_true rfl) ?_
  show TT G mi_Mo_timesScalar 0 [(0, .ref 373), (1, .ref p)] [] M 0 0 _
  refine T_iconst (v := nI 0) d_Mo_timesScalar_0 (by decide) ?_
  refine T_istore_n (L' := [(2, .int (nI 0)), (0, .ref 373), (1, .ref p)]) d_Mo_timesScalar_1 (by decide) rfl ?_
  refine tm_z G ho (fun Ma hI => ?_) 32 0 M rfl ⟨⟨f0, h0, fun i hi => absurd hi (Nat.not_lt_zero i)⟩, Kp.rf⟩
  obtain ⟨⟨fa, ha1, ha2⟩, ka⟩ := hI
  have ms_1 := MS.wl hms ka ⟨_, ha1⟩ (by decide) (by decide) (by decide)
  refine T_iconst (v := nI 0) d_Mo_timesScalar_21 (by decide) ?_
  refine T_istore_n (L' := [(2, .int (nI 0)), (0, .ref 373), (1, .ref p)]) d_Mo_timesScalar_22 (by decide) rfl ?_
  refine tm_o G ((ka 373 (by decide)).trans ho) ((ka 395 (by decide)).trans hS1) dS ((ka p (nm hp (by decide))).trans hY1) dY hp (fun Mb hI => ?_) 16 0 Ma rfl ⟨⟨fa, ha1, by have g := LZs_0 ha2; show LZs fa (0 * _) _; rw [Nat.zero_mul]; exact g⟩, Kp.rf⟩
  obtain ⟨⟨fb, hb1, hb2⟩, kb⟩ := hI
  rw [LZm_f hx hy] at hb2
  have ms_2 := MS.wl ms_1 kb ⟨_, hb1⟩ (by decide) (by decide) (by decide)
  refine T_iconst (v := nI 0) d_Mo_timesScalar_70 (by decide) ?_
  refine T_istore_n (L' := [(2, .int (nI 0)), (0, .ref 373), (1, .ref p)]) d_Mo_timesScalar_71 (by decide) rfl ?_
  have kc : Kp [398] M Mb := Kp.tr ka kb
  refine tm_c G ((kc 373 (by decide)).trans ho) (fun Mc hI => ?_) 31 0 Mb rfl ⟨⟨fb, hb1, LZc_0 hb2 (by decide)⟩, Kp.rf⟩
  obtain ⟨⟨fc, hc1, hc2⟩, kd⟩ := hI
  have ms_3 := MS.wl ms_2 kd ⟨_, hc1⟩ (by decide) (by decide) (by decide)
  refine T_aload_n (v := .ref 373) d_Mo_timesScalar_116 rfl (Or.inr ⟨_, rfl⟩) ?_
  have h_5 := (kd 373 (by decide)).trans ((kb 373 (by decide)).trans ((ka 373 (by decide)).trans (ho)))
  refine T_virtual (as := []) (rest := []) (b := 373) d_Mo_timesScalar_117 rfl (jw_Mo_reduce.jo (by decide)) lm_Mo_251 ji_Mo_reduce js_Mo_reduce h_5 rfl rfl rfl (Nat.le_of_ble_eq_true rfl) (by decide) (by decide) (b_Mo_reduce h_5 ms_3 hc1 (LZc_e hc2 (xy_lt hx hy)) (Nat.lt_of_lt_of_eq (xy_lt hx hy) (by decide +kernel))) (fun r M_4 hq => ?_)
  obtain ⟨rfl, ms_4, sc_4, kp_4⟩ := hq
  refine T_eq (pc' := 120) (L' := [(0, .ref 373), (1, .ref p)]) (st' := []) (M' := M_4) rfl rfl rfl rfl ?_
  exact T_vret d_Mo_timesScalar_120 rfl (by decide) (by decide) ⟨rfl, ms_4, sc_4, (Kp.tr (Kp.tr (Kp.tr (Kp.tr (Kp.rf : Kp [395, 397, 398] M M) (Kp.mono ka (by decide))) (Kp.mono kb (by decide))) (Kp.mono kd (by decide))) (Kp.mono kp_4 (by decide)))⟩
def PT (M : List va_E) (p : Nat) (P : Fp × Fp) : Prop := ∃ E, RG M E ∧ CK E ∧ PE E p P
theorem PT.kp {M M' : List va_E} {W : List Nat} {p : Nat} {P : Fp × Fp} (h : PT M p P) (s : Kp W M M') (hn : ∀ q ∈ RW, q ∉ W) : PT M' p P := by obtain ⟨E, h1, h2, h3⟩ := h; exact ⟨E, h1.kp s hn, h2, h3⟩
theorem RG.two {M : List va_E} {E E' : Nat → Int} (h : RG M E) (h' : RG M E') {d : Nat} (hd : d < 64) : ph (E d) = ph (E' d) := by
  obtain ⟨F, h1, -, -, -, -, h2⟩ := h
  obtain ⟨F', h1', -, -, -, -, h2'⟩ := h'
  rw [h1] at h1'
  have e := Option.some.inj h1'
  simp only [Sum.inl.injEq, Prod.mk.injEq, Sum.inr.injEq, true_and] at e
  subst e
  rw [ph_eq]
  exact eqP.tr (eqP.sy (h2 d hd).1) (h2' d hd).1
theorem PE.two {M : List va_E} {E E' : Nat → Int} {p : Nat} {P : Fp × Fp} (h : RG M E) (h' : RG M E') (hp : p + 3 < 64) (j : PE E p P) : PE E' p P := by
  unfold PE at j ⊢
  rw [← h.two h' (show p < 64 by omega), ← h.two h' (show p + 1 < 64 by omega), ← h.two h' (show p + 2 < 64 by omega), ← h.two h' (show p + 3 < 64 by omega)]
  exact j
theorem MS.fd {M M' : List va_E} {v : Nat → Int32} {E : Nat → Int} (h : MS M) (k : Kp RW M M') (hE : RE M' v E) (c : CK E) : MS M' := h.rg k (fun _ h => h) hE.rg c
theorem PK.ia {M : List va_E} {c : Int} {a : Fp} (h : PK M c) (e : ph c = a) : IA M 394 32 (lbF a) := by
  obtain ⟨P, h1, h2⟩ := h
  refine ⟨P, h1, by rw [lbF_len]; exact Nat.le_refl _, fun i hi => ?_⟩
  rw [lbF_len] at hi
  rw [h2 i hi, lbF_gd hi, byN_F, e]
  exact congrArg nI (Nat.mod_eq_of_lt (byF_lt a i)).symm
section PTs
variable {G : GX} {M : List va_E} {w : Nat → Int32} {l : List UInt8} {P : Fp × Fp} {x : Nat}
theorem b_Mo_code_12 (hms : MS M) (hb : BG M w l) (h : PT M 12 P) : CT G mi_Mo_code [.ref 373, .int (nI 12)] M (fun r M' => r = none ∧ MS M' ∧ PT M' 12 P ∧ IA M' 394 32 (enc P) ∧ Kp RW M M') := by
  obtain ⟨v, ho, -⟩ := hb
  obtain ⟨E, h1, h2, h3⟩ := h
  refine (u_Mo_code_12 (h1.re ho) h2 ⟨rfl, rfl, rfl, rfl⟩).post fun r M' q => ?_
  obtain ⟨q1, ⟨c, q2, q3⟩, E', q4, q5, q6⟩ := q
  have c' := h2.ke q5 (by decide)
  exact ⟨q1, hms.fd q6 q4 c', ⟨E', q4.rg, c', h3.ke q5 (by decide) (by decide) (by decide) (by decide)⟩, q2.ia (q3.trans (cF_pj h3)), q6⟩
theorem b_Mo_code_16 {P' : Fp × Fp} (hms : MS M) (hb : BG M w l) (h : PT M 16 P) (h' : PT M 12 P') : CT G mi_Mo_code [.ref 373, .int (nI 16)] M (fun r M' => r = none ∧ MS M' ∧ PT M' 12 P' ∧ IA M' 394 32 (enc P) ∧ Kp RW M M') := by
  obtain ⟨v, ho, -⟩ := hb
  obtain ⟨E, h1, h2, h3⟩ := h
  obtain ⟨E2, i1, i2, i3⟩ := h'
  replace i3 := PE.two i1 h1 (by decide) i3
  refine (u_Mo_code_16 (h1.re ho) h2 ⟨rfl, rfl, rfl, rfl⟩).post fun r M' q => ?_
  obtain ⟨q1, ⟨c, q2, q3⟩, E', q4, q5, q6⟩ := q
  have c' := h2.ke q5 (by decide)
  exact ⟨q1, hms.fd q6 q4 c', ⟨E', q4.rg, c', i3.ke q5 (by decide) (by decide) (by decide) (by decide)⟩, q2.ia (q3.trans (cF_pj h3)), q6⟩
theorem b_Mo_code_16o (hms : MS M) (hb : BG M w l) (h : PT M 16 P) : CT G mi_Mo_code [.ref 373, .int (nI 16)] M (fun r M' => r = none ∧ MS M' ∧ IA M' 394 32 (enc P) ∧ Kp RW M M') := by
  obtain ⟨v, ho, -⟩ := hb
  obtain ⟨E, h1, h2, h3⟩ := h
  refine (u_Mo_code_16 (h1.re ho) h2 ⟨rfl, rfl, rfl, rfl⟩).post fun r M' q => ?_
  obtain ⟨q1, ⟨c, q2, q3⟩, E', q4, q5, q6⟩ := q
  exact ⟨q1, hms.fd q6 q4 (h2.ke q5 (by decide)), q2.ia (q3.trans (cF_pj h3)), q6⟩
theorem b_Mo_times_12 (hms : MS M) (hb : BG M w l) (h : PT M 12 P) (hs : SC M 395 16 0 x) (hP : OnP fD P) (hx : x < 2 ^ 256) : CT G mi_Mo_timesPoint [.ref 373, .int (nI 12), .int (nI 12)] M (fun r M' => r = none ∧ MS M' ∧ PT M' 12 (emul fD P x) ∧ Kp RW M M') := by
  obtain ⟨v, ho, -⟩ := hb
  obtain ⟨E, h1, h2, h3⟩ := h
  refine (w_Mo_times_12_12 (h1.re ho) h2.c2 hP hx h3 hs).post fun r M' q => ?_
  obtain ⟨q1, E', q4, q3, q5, q6⟩ := q
  have c' := h2.ke q5 (by decide)
  exact ⟨q1, hms.fd q6 q4 c', ⟨E', q4.rg, c', q3⟩, q6⟩
theorem b_Mo_times_16 (hms : MS M) (hb : BG M w l) (h : PT M 12 P) (hs : SC M 395 16 0 x) (hP : OnP fD P) (hx : x < 2 ^ 256) : CT G mi_Mo_timesPoint [.ref 373, .int (nI 16), .int (nI 12)] M (fun r M' => r = none ∧ MS M' ∧ PT M' 16 (emul fD P x) ∧ PT M' 12 P ∧ Kp RW M M') := by
  obtain ⟨v, ho, -⟩ := hb
  obtain ⟨E, h1, h2, h3⟩ := h
  refine (w_Mo_times_16_12 (h1.re ho) h2.c2 hP hx h3 hs).post fun r M' q => ?_
  obtain ⟨q1, E', q4, q3, q5, q6⟩ := q
  have c' := h2.ke q5 (by decide)
  exact ⟨q1, hms.fd q6 q4 c', ⟨E', q4.rg, c', q3⟩, ⟨E', q4.rg, c', h3.ke q5 (by decide) (by decide) (by decide) (by decide)⟩, q6⟩
theorem base_pe {E : Nat → Int} (h : CK E) : PE E 8 (bX, bY) := by
  unfold PE
  rw [h.c8, h.c9, h.c10, h.c11]
  have e1 : ph cX = bX := rfl
  have e2 : ph cY = bY := rfl
  have e3 : ph cT = bX * bY := by rw [← e1, ← e2, ← ph_mul, ph_eq, eqP.em]; decide +kernel
  rw [e1, e2, e3, ph_1]
  exact pj_pl' bX bY
theorem b_Mo_times_b (hms : MS M) (hb : BG M w l) (hs : SC M 395 16 0 x) (hx : x < 2 ^ 256) : CT G mi_Mo_timesPoint [.ref 373, .int (nI 16), .int (nI 8)] M (fun r M' => r = none ∧ MS M' ∧ PT M' 16 (emul fD (bX, bY) x) ∧ Kp RW M M') := by
  obtain ⟨v, ho, -⟩ := hb
  obtain ⟨E, h1, h2⟩ := hms.2.2.2
  refine (w_Mo_times_16_8 (h1.re ho) h2.c2 b_on hx (base_pe h2) hs).post fun r M' q => ?_
  obtain ⟨q1, E', q4, q3, q5, q6⟩ := q
  have c' := h2.ke q5 (by decide)
  exact ⟨q1, hms.fd q6 q4 c', ⟨E', q4.rg, c', q3⟩, q6⟩
theorem ia_nB {fr n at0 : Nat} {s : List UInt8} (h : IA M fr n s) (ha : at0 + 32 ≤ s.length) : ∃ (g : Nat → Int32) (b : Nat → Nat), M[fr]? = some (ir n g) ∧ at0 + 32 ≤ n ∧ (∀ k, k < 32 → g (at0 + k) = nI (b k)) ∧ (∀ k, k < 32 → b k < 256) ∧ num32 (fun k => ((b k : Nat) : Int)) = nB s at0 := by
  obtain ⟨g, h1, h2, h3⟩ := h
  exact ⟨g, fun k => (gd s (at0 + k)).toNat, h1, by omega, fun k hk => h3 _ (by omega), fun k _ => (gd s (at0 + k)).toNat_lt, rfl⟩
theorem b_Mo_decode {fr n at0 : Nat} {s : List UInt8} (hms : MS M) (hb : BG M w l) (hi : IA M fr n s) (ha : at0 + 32 ≤ s.length) (hn : n < 2 ^ 30) (hf : fr ∉ RW) : CT G mi_Mo_decode [.ref 373, .int (nI 12), .ref fr, .int (nI at0)] M (fun r M' => r = some (.int (nI (if dec (nB s at0) then 1 else 0))) ∧ MS M' ∧ (dec (nB s at0) → PT M' 12 (dPt (nB s at0))) ∧ Kp RW M M') := by
  obtain ⟨v, ho, -⟩ := hb
  obtain ⟨E, h1, h2⟩ := hms.2.2.2
  obtain ⟨g, b, g1, g2, g3, g4, g5⟩ := ia_nB hi ha
  refine (u_Mo_decode (h1.re ho) h2 g1 hf g2 (by omega) g3 g4).post fun r M' q => ?_
  rw [g5] at q
  obtain ⟨q1, E', q4, q3, q5, q6⟩ := q
  have c' := h2.ke q5 (by decide)
  refine ⟨q1, hms.fd q6 q4 c', fun d => ?_, q6⟩
  obtain ⟨X, Y, T, p4, e1, e2, e3⟩ := q3 d
  refine ⟨E', q4.rg, c', PE.p4 p4 ?_⟩
  rw [e1, e2, e3, ph_1]
  exact pj_pl' _ _
theorem b_Mo_map_12 {fr n at0 : Nat} {s : List UInt8} (hms : MS M) (hb : BG M w l) (hi : IA M fr n s) (ha : at0 + 32 ≤ s.length) (hn : n < 2 ^ 30) (hf : fr ∉ RW) : CT G mi_Mo_mapPart [.ref 373, .int (nI 12), .ref fr, .int (nI at0)] M (fun r M' => r = none ∧ MS M' ∧ PT M' 12 (mPt (ph (nB s at0 % n255))) ∧ Kp RW M M') := by
  obtain ⟨v, ho, -⟩ := hb
  obtain ⟨E, h1, h2⟩ := hms.2.2.2
  obtain ⟨g, b, g1, g2, g3, g4, g5⟩ := ia_nB hi ha
  refine (u_Mo_map_12 (h1.re ho) h2 g1 hf g2 (by omega) g3 g4).post fun r M' q => ?_
  rw [g5] at q
  obtain ⟨q1, X, Y, Z, T, ⟨e1, e2, e3, e4⟩, E', q4, q3, q5, q6⟩ := q
  have c' := h2.ke q5 (by decide)
  refine ⟨q1, hms.fd q6 q4 c', ⟨E', q4.rg, c', PE.p4 q3 ?_⟩, q6⟩
  rw [e1, e2, e3, e4]
  exact mPt_pj _
theorem b_Mo_map_16 {fr n at0 : Nat} {s : List UInt8} (hms : MS M) (hb : BG M w l) (h : PT M 12 P) (hi : IA M fr n s) (ha : at0 + 32 ≤ s.length) (hn : n < 2 ^ 30) (hf : fr ∉ RW) : CT G mi_Mo_mapPart [.ref 373, .int (nI 16), .ref fr, .int (nI at0)] M (fun r M' => r = none ∧ MS M' ∧ PT M' 16 (mPt (ph (nB s at0 % n255))) ∧ PT M' 12 P ∧ Kp RW M M') := by
  obtain ⟨v, ho, -⟩ := hb
  obtain ⟨E, h1, h2, h3⟩ := h
  obtain ⟨g, b, g1, g2, g3, g4, g5⟩ := ia_nB hi ha
  refine (u_Mo_map_16 (h1.re ho) h2 g1 hf g2 (by omega) g3 g4).post fun r M' q => ?_
  rw [g5] at q
  obtain ⟨q1, X, Y, Z, T, ⟨e1, e2, e3, e4⟩, E', q4, q3, q5, q6⟩ := q
  have c' := h2.ke q5 (by decide)
  refine ⟨q1, hms.fd q6 q4 c', ⟨E', q4.rg, c', PE.p4 q3 ?_⟩, ⟨E', q4.rg, c', h3.ke q5 (by decide) (by decide) (by decide) (by decide)⟩, q6⟩
  rw [e1, e2, e3, e4]
  exact mPt_pj _
theorem b_Mo_join {Q : Fp × Fp} (hms : MS M) (hb : BG M w l) (h : PT M 12 P) (h' : PT M 16 Q) (hP : OnP fD P) (hQ : OnP fD Q) : CT G mi_Mo_sumPoint [.ref 373, .int (nI 12), .int (nI 12), .int (nI 16)] M (fun r M' => r = none ∧ MS M' ∧ PT M' 12 (ad2 fD P Q) ∧ Kp RW M M') := by
  obtain ⟨v, ho, -⟩ := hb
  obtain ⟨E, h1, h2, h3⟩ := h
  obtain ⟨E2, i1, i2, i3⟩ := h'
  replace i3 := PE.two i1 h1 (by decide) i3
  refine (w_Mo_join (h1.re ho) h2.c2 hP hQ h3 i3).post fun r M' q => ?_
  obtain ⟨q1, E', q4, q3, q5, q6⟩ := q
  have c' := h2.ke q5 (by decide)
  exact ⟨q1, hms.fd q6 q4 c', ⟨E', q4.rg, c', q3⟩, q6⟩
end PTs
set_option maxHeartbeats 8000000 in
theorem tk_l (G : GX) {M0 : List va_E} {v : Nat → Int32} {p n at0 x : Nat} {g : Nat → Int64} (ho : M0[373]? = some (moO v)) (hg : M0[p]? = some (lr n g)) (hn : at0 + 16 ≤ n) (hn2 : n < 2 ^ 30) (dg_ : ∀ k, k < 16 → (g (at0 + k)).toInt = ((dg x k : Nat) : Int)) (hp : p ∉ [395]) {Q : Option Value → List va_E → Prop} (kk : ∀ M, (∃ f, M[395]? = some (lr 16 f) ∧ ∀ i, i < 16 → (f i).toInt = ((dg x i : Nat) : Int)) ∧ Kp [395] M0 M → TT G mi_Mo_takeScalar 25 [(0, .ref 373), (1, .ref p), (2, .int (nI at0))] [] M 0 0 Q) : ∀ j k M, k + j = 16 → (∃ f, M[395]? = some (lr 16 f) ∧ ∀ i, i < k → (f i).toInt = ((dg x i : Nat) : Int)) ∧ Kp [395] M0 M → TT G mi_Mo_takeScalar 2 [(3, .int (nI k)), (0, .ref 373), (1, .ref p), (2, .int (nI at0))] [] M 0 0 Q := by
  intro j
  induction j with
  | zero =>
    intro k M hk hI
    obtain rfl : 16 = k := by omega
    refine T_iload_n d_Mo_takeScalar_2 rfl ?_
    refine T_bipush (v := nI 16) d_Mo_takeScalar_3 (by decide) ?_
    refine N_icmp_ge_t (a := 16) (b := 16) d_Mo_takeScalar_5 (tgt := 25) rfl (by omega) (by omega) (by omega) ?_
    exact T_sub (fun q hq => List.mem_cons_of_mem _ hq) (kk M hI)
  | succ j ih =>
    intro k M hk hI
    obtain ⟨⟨f, h1, h2⟩, hK⟩ := hI
    refine T_iload_n d_Mo_takeScalar_2 rfl ?_
    refine T_bipush (v := nI 16) d_Mo_takeScalar_3 (by decide) ?_
    refine N_icmp_ge_f (a := 16) (b := k) d_Mo_takeScalar_5 (tgt := 25) rfl (by omega) (by omega) (by omega) ?_
    refine T_aload_n (v := .ref 373) d_Mo_takeScalar_8 rfl (Or.inr ⟨_, rfl⟩) ?_
    have h_1 := (hK 373 (by decide)).trans (ho)
    refine T_getfield (v := .ref 395) d_Mo_takeScalar_9 fg_Mo_194 h_1 rfl ?_
    refine T_iload_n d_Mo_takeScalar_12 rfl ?_
    refine T_aload_n (v := .ref p) d_Mo_takeScalar_13 rfl (Or.inr ⟨_, rfl⟩) ?_
    refine T_iload_n d_Mo_takeScalar_14 rfl ?_
    refine T_iload_n d_Mo_takeScalar_15 rfl ?_
    refine N_iadd (a := k) (b := at0) (c := (at0 + k)) d_Mo_takeScalar_16 rfl ?_
    have h_2 := (hK p (nm hp (by decide))).trans (hg)
    refine N_laload (k := (at0 + k)) (x := (g (at0 + k))) d_Mo_takeScalar_17 h_2 (by omega) (by omega) rfl ?_
    refine N_lastore (k := k) d_Mo_takeScalar_18 (by decide) h1 (by omega) (by decide) rfl (fun M_3 h_4 s_5 => ?_)
    refine N_iinc (k := k) (m := 1) (c := (k + 1)) (L' := [(3, .int (nI ((k + 1)))), (0, .ref 373), (1, .ref p), (2, .int (nI at0))]) d_Mo_takeScalar_19 (by decide) rfl (by decide) rfl rfl ?_
    refine T_goto (tgt := 2) d_Mo_takeScalar_22 rfl ?_
    exact ih (k + 1) M_3 (by omega) ⟨⟨_, h_4, fun i hi => by by_cases c : i = k; subst c; rw [uL_s]; exact dg_ _ (by omega); rw [uL_n c]; exact h2 i (by omega)⟩, (Kp.ex (Kp.tr (Kp.rf : Kp [395] M0 M0) (Kp.mono hK (by decide))) s_5 (by decide))⟩
set_option maxHeartbeats 8000000 in
theorem b_Mo_take {G : GX} {M : List va_E} {w : Nat → Int32} {l : List UInt8} {p n at0 x : Nat} (hms : MS M) (hb : BG M w l) (hs : SC M p n at0 x) (hn : at0 + 16 ≤ n) (hn2 : n < 2 ^ 30) (hp : p ∉ [395]) : CT G mi_Mo_takeScalar [.ref 373, .ref p, .int (nI at0)] M (fun r M' => r = none ∧ MS M' ∧ SC M' 395 16 0 x ∧ Kp [395] M M') := by
  obtain ⟨v, ho, -⟩ := hb
  obtain ⟨g, g1, g2⟩ := hs
  obtain ⟨s0, hs0⟩ := hms.lq (p := 395) (n := 16) (by decide)
  refine CT.of (by decide) (Nat.le_of_ble_eq_true rfl) ?_
  show TT G mi_Mo_takeScalar 0 [(0, .ref 373), (1, .ref p), (2, .int (nI at0))] [] M 0 0 _
  refine T_iconst (v := nI 0) d_Mo_takeScalar_0 (by decide) ?_
  refine T_istore_n (L' := [(3, .int (nI 0)), (0, .ref 373), (1, .ref p), (2, .int (nI at0))]) d_Mo_takeScalar_1 (by decide) rfl ?_
  refine tk_l G ho g1 hn hn2 g2 hp (fun Ma hI => ?_) 16 0 M rfl ⟨⟨s0, hs0, fun i hi => absurd hi (Nat.not_lt_zero i)⟩, Kp.rf⟩
  obtain ⟨⟨fa, ha, ha2⟩, ka⟩ := hI
  exact T_vret d_Mo_takeScalar_25 rfl (by decide) (by decide) ⟨rfl, hms.wl ka ⟨_, ha⟩ (by decide) (by decide) (by decide), sc_mk ha ha2, ka⟩
set_option maxHeartbeats 8000000 in
theorem pu_l (G : GX) {M0 : List va_E} {v : Nat → Int32} {p n at0 x : Nat} {g f0 : Nat → Int64} (ho : M0[373]? = some (moO v)) (hg : M0[395]? = some (lr 16 g)) (hn : at0 + 16 ≤ n) (hn2 : n < 2 ^ 30) (dg_ : DL g 16 x) (hp : p ∉ [373, 395]) (k_p : K0 ≤ p) {Q : Option Value → List va_E → Prop} (kk : ∀ M, (∃ f, M[p]? = some (lr n f) ∧ (∀ i, i < 16 → (f (at0 + i)).toInt = ((dg x i : Nat) : Int)) ∧ ∀ i, i < at0 ∨ at0 + 16 ≤ i → f i = f0 i) ∧ Kp [p] M0 M → TT G mi_Mo_putScalar 25 [(0, .ref 373), (1, .ref p), (2, .int (nI at0))] [] M 0 0 Q) : ∀ j k M, k + j = 16 → (∃ f, M[p]? = some (lr n f) ∧ (∀ i, i < k → (f (at0 + i)).toInt = ((dg x i : Nat) : Int)) ∧ ∀ i, i < at0 ∨ at0 + 16 ≤ i → f i = f0 i) ∧ Kp [p] M0 M → TT G mi_Mo_putScalar 2 [(3, .int (nI k)), (0, .ref 373), (1, .ref p), (2, .int (nI at0))] [] M 0 0 Q := by
  intro j
  induction j with
  | zero =>
    intro k M hk hI
    obtain rfl : 16 = k := by omega
    refine T_iload_n d_Mo_putScalar_2 rfl ?_
    refine T_bipush (v := nI 16) d_Mo_putScalar_3 (by decide) ?_
    refine N_icmp_ge_t (a := 16) (b := 16) d_Mo_putScalar_5 (tgt := 25) rfl (by omega) (by omega) (by omega) ?_
    exact T_sub (fun q hq => List.mem_cons_of_mem _ hq) (kk M hI)
  | succ j ih =>
    intro k M hk hI
    obtain ⟨⟨f, h1, h2, h3⟩, hK⟩ := hI
    refine T_iload_n d_Mo_putScalar_2 rfl ?_
    refine T_bipush (v := nI 16) d_Mo_putScalar_3 (by decide) ?_
    refine N_icmp_ge_f (a := 16) (b := k) d_Mo_putScalar_5 (tgt := 25) rfl (by omega) (by omega) (by omega) ?_
    refine T_aload_n (v := .ref p) d_Mo_putScalar_8 rfl (Or.inr ⟨_, rfl⟩) ?_
    refine T_iload_n d_Mo_putScalar_9 rfl ?_
    refine T_iload_n d_Mo_putScalar_10 rfl ?_
    refine N_iadd (a := k) (b := at0) (c := (at0 + k)) d_Mo_putScalar_11 rfl ?_
    refine T_aload_n (v := .ref 373) d_Mo_putScalar_12 rfl (Or.inr ⟨_, rfl⟩) ?_
    have h_1 := (hK 373 (by simp only [List.mem_cons, List.not_mem_nil, or_false]; exact (Ne.symm (nmne hp (by decide))))).trans (ho)
    refine T_getfield (v := .ref 395) d_Mo_putScalar_13 fg_Mo_194 h_1 rfl ?_
    refine T_iload_n d_Mo_putScalar_16 rfl ?_
    have h_2 := (hK 395 (by simp only [List.mem_cons, List.not_mem_nil, or_false]; exact (Ne.symm (nmne hp (by decide))))).trans (hg)
    refine N_laload (k := k) (x := (g k)) d_Mo_putScalar_17 h_2 (by omega) (by decide) rfl ?_
    refine N_lastore (k := (at0 + k)) d_Mo_putScalar_18 k_p h1 (by omega) (by omega) rfl (fun M_3 h_4 s_5 => ?_)
    refine N_iinc (k := k) (m := 1) (c := (k + 1)) (L' := [(3, .int (nI ((k + 1)))), (0, .ref 373), (1, .ref p), (2, .int (nI at0))]) d_Mo_putScalar_19 (by decide) rfl (by decide) rfl rfl ?_
    refine T_goto (tgt := 2) d_Mo_putScalar_22 rfl ?_
    exact ih (k + 1) M_3 (by omega) ⟨⟨_, h_4, fun i hi => by by_cases c : i = k; subst c; rw [uL_s]; exact dg_ _ (by omega); rw [uL_n (by omega)]; exact h2 i (by omega), fun i hi => by rw [uL_n (by omega)]; exact h3 i hi⟩, (Kp.ex (Kp.tr (Kp.rf : Kp [p] M0 M0) (Kp.mono hK (by simp))) s_5 (by simp))⟩
set_option maxHeartbeats 8000000 in
theorem b_Mo_put {G : GX} {M : List va_E} {w : Nat → Int32} {l : List UInt8} {p n at0 x : Nat} {f0 : Nat → Int64} (hb : BG M w l) (hs : SC M 395 16 0 x) (hf : M[p]? = some (lr n f0)) (hn : at0 + 16 ≤ n) (hn2 : n < 2 ^ 30) (hp : p ∉ [373, 395]) (k_p : K0 ≤ p) : CT G mi_Mo_putScalar [.ref 373, .ref p, .int (nI at0)] M (fun r M' => r = none ∧ (∃ f, M'[p]? = some (lr n f) ∧ (∀ i, i < 16 → (f (at0 + i)).toInt = ((dg x i : Nat) : Int)) ∧ ∀ i, i < at0 ∨ at0 + 16 ≤ i → f i = f0 i) ∧ Kp [p] M M') := by
  obtain ⟨v, ho, -⟩ := hb
  obtain ⟨g, g1, g2⟩ := hs.dl
  refine CT.of (by decide) (Nat.le_of_ble_eq_true rfl) ?_
  show TT G mi_Mo_putScalar 0 [(0, .ref 373), (1, .ref p), (2, .int (nI at0))] [] M 0 0 _
  refine T_iconst (v := nI 0) d_Mo_putScalar_0 (by decide) ?_
  refine T_istore_n (L' := [(3, .int (nI 0)), (0, .ref 373), (1, .ref p), (2, .int (nI at0))]) d_Mo_putScalar_1 (by decide) rfl ?_
  refine pu_l G ho g1 hn hn2 g2 hp k_p (fun Ma hI => ?_) 16 0 M rfl ⟨⟨f0, hf, fun i hi => absurd hi (Nat.not_lt_zero i), fun i _ => rfl⟩, Kp.rf⟩
  exact T_vret d_Mo_putScalar_25 rfl (by decide) (by decide) ⟨rfl, hI⟩
theorem b_Mo_put16 {G : GX} {M : List va_E} {w : Nat → Int32} {l : List UInt8} {p x : Nat} (hms : MS M) (hb : BG M w l) (hs : SC M 395 16 0 x) (hp : (p, 16) ∈ msL) (hp2 : p ∉ [373, 395]) (k_p : K0 ≤ p) : CT G mi_Mo_putScalar [.ref 373, .ref p, .int (nI 0)] M (fun r M' => r = none ∧ MS M' ∧ SC M' p 16 0 x ∧ Kp [p] M M') := by
  obtain ⟨f0, h0⟩ := hms.lq hp
  refine (b_Mo_put hb hs h0 (by decide) (by decide) hp2 k_p).post fun r M' q => ?_
  obtain ⟨q1, ⟨f, q2, q3, -⟩, q4⟩ := q
  have s : SC M' p 16 0 x := ⟨f, q2, q3⟩
  have e := (by decide +kernel : ∀ z ∈ msL, z.2 = 16 → (∀ y ∈ msL, y.1 = z.1 → y.2 = 16) ∧ (∀ y ∈ msI, y.1 ≠ z.1) ∧ z.1 ∉ msC) _ hp rfl
  exact ⟨q1, hms.wl q4 s.lq e.1 e.2.1 e.2.2, s, q4⟩
set_option maxHeartbeats 8000000 in
theorem zs_lp (G : GX) {M : List va_E} {v : Nat → Int32} {x : Nat} {S : Nat → Int64} (ho : M[373]? = some (moO v)) (hS : M[395]? = some (lr 16 S)) (dS : DL S 16 x) {Q : Option Value → List va_E → Prop} (k1 : (∀ i, i < 16 → dg x i = 0) → Q (some (.int (nI 1))) M) (k0 : ¬ (∀ i, i < 16 → dg x i = 0) → Q (some (.int (nI 0))) M) : ∀ j k, k + j = 16 → (∀ i, i < k → dg x i = 0) → TT G mi_Mo_isScalarZero 2 [(1, .int (nI k)), (0, .ref 373)] [] M 0 0 Q := by
  intro j
  induction j with
  | zero =>
    intro k hk hI
    obtain rfl : k = 16 := by omega
    refine T_iload_n d_Mo_isScalarZero_2 rfl ?_
    refine T_bipush (v := nI 16) d_Mo_isScalarZero_3 (by decide) ?_
    refine N_icmp_ge_t (a := 16) (b := 16) d_Mo_isScalarZero_5 (tgt := 27) rfl (by omega) (by omega) (by omega) ?_
    refine T_iconst (v := nI 1) d_Mo_isScalarZero_27 (by decide) ?_
    exact T_ret d_Mo_isScalarZero_28 rfl (by decide) (by decide) (by decide) (k1 hI)
  | succ j ih =>
    intro k hk hI
    refine T_iload_n d_Mo_isScalarZero_2 rfl ?_
    refine T_bipush (v := nI 16) d_Mo_isScalarZero_3 (by decide) ?_
    refine N_icmp_ge_f (a := 16) (b := k) d_Mo_isScalarZero_5 (tgt := 27) rfl (by omega) (by omega) (by omega) ?_
    refine T_aload_n (v := .ref 373) d_Mo_isScalarZero_8 rfl (Or.inr ⟨_, rfl⟩) ?_
    refine T_getfield (v := .ref 395) d_Mo_isScalarZero_9 fg_Mo_194 ho rfl ?_
    refine T_iload_n d_Mo_isScalarZero_12 rfl ?_
    refine N_laload (k := k) (x := (S k)) d_Mo_isScalarZero_13 hS (by omega) (by decide) rfl ?_
    refine T_lconst (v := 0) d_Mo_isScalarZero_14 (by decide) ?_
    refine T_lcmp d_Mo_isScalarZero_15 ?_
    have dk := dS k (by omega)
    by_cases he : S k = 0
    · 
      refine T_if_eq d_Mo_isScalarZero_16 (tgt := 21) rfl (fun _ => ?_) (fun c => absurd (lcq_e he) c)
      refine N_iinc (k := k) (m := 1) (c := (k + 1)) (L' := [(1, .int (nI ((k + 1)))), (0, .ref 373)]) d_Mo_isScalarZero_21 (by decide) rfl (by decide) rfl rfl ?_
      refine T_goto (tgt := 2) d_Mo_isScalarZero_24 rfl ?_
      exact ih (k + 1) (by omega) (fun i hi => by by_cases c : i = k; subst c; rw [he] at dk; have e0 : (0 : Int64).toInt = 0 := rfl; omega; exact hI i (by omega))
    · 
      refine T_if_eq d_Mo_isScalarZero_16 (tgt := 21) rfl (fun c => absurd c (lcq_n he)) (fun _ => ?_)
      refine T_iconst (v := nI 0) d_Mo_isScalarZero_19 (by decide) ?_
      exact T_ret d_Mo_isScalarZero_20 rfl (by decide) (by decide) (by decide) (k0 (fun c => he (Int64.toInt_inj.mp (by rw [dk, c k (by omega)]; rfl))))
theorem b_Mo_isZ {G : GX} {M : List va_E} {w : Nat → Int32} {l : List UInt8} {x : Nat} (hb : BG M w l) (hs : SC M 395 16 0 x) (hx : x < 65536 ^ 16) : CT G mi_Mo_isScalarZero [.ref 373] M (fun r M' => r = some (.int (nI (if x = 0 then 1 else 0))) ∧ M' = M) := by
  obtain ⟨v, ho, -⟩ := hb
  obtain ⟨g, g1, g2⟩ := hs.dl
  refine CT.of (by decide) (Nat.le_of_ble_eq_true rfl) ?_
  show TT G mi_Mo_isScalarZero 0 [(0, .ref 373)] [] M 0 0 _
  refine T_iconst (v := nI 0) d_Mo_isScalarZero_0 (by decide) ?_
  refine T_istore_n (L' := [(1, .int (nI 0)), (0, .ref 373)]) d_Mo_isScalarZero_1 (by decide) rfl ?_
  refine zs_lp G ho g1 g2 (fun h => ⟨by rw [if_pos (dg_z hx h)], rfl⟩) (fun h => ⟨by rw [if_neg (fun c => h (fun i hi => by rw [c]; unfold dg; rw [Nat.zero_div]))], rfl⟩) 16 0 rfl (fun i hi => absurd hi (Nat.not_lt_zero i))
set_option maxHeartbeats 8000000 in
theorem iv_c (G : GX) {M0 : List va_E} {v : Nat → Int32} {x : Nat} {S : Nat → Int64} (ho : M0[373]? = some (moO v)) (dS : DL S 16 x) {Q : Option Value → List va_E → Prop} (kk : ∀ M, (∃ f, M[399]? = some (lr 16 f) ∧ ∀ i, i < 16 → (f i).toInt = ((dg x i : Nat) : Int)) ∧ (∃ g, M[395]? = some (lr 16 g) ∧ (∀ i, i < 16 → g i = 0) ∧ ∀ i, 16 ≤ i → g i = S i) ∧ Kp [395, 399] M0 M → TT G mi_Mo_invertScalar 33 [(0, .ref 373)] [] M 0 0 Q) : ∀ j k M, k + j = 16 → (∃ f, M[399]? = some (lr 16 f) ∧ ∀ i, i < k → (f i).toInt = ((dg x i : Nat) : Int)) ∧ (∃ g, M[395]? = some (lr 16 g) ∧ (∀ i, i < k → g i = 0) ∧ ∀ i, k ≤ i → g i = S i) ∧ Kp [395, 399] M0 M → TT G mi_Mo_invertScalar 2 [(1, .int (nI k)), (0, .ref 373)] [] M 0 0 Q := by
  intro j
  induction j with
  | zero =>
    intro k M hk hI
    obtain rfl : 16 = k := by omega
    refine T_iload_n d_Mo_invertScalar_2 rfl ?_
    refine T_bipush (v := nI 16) d_Mo_invertScalar_3 (by decide) ?_
    refine N_icmp_ge_t (a := 16) (b := 16) d_Mo_invertScalar_5 (tgt := 33) rfl (by omega) (by omega) (by omega) ?_
    exact T_sub (fun q hq => List.mem_cons_of_mem _ hq) (kk M hI)
  | succ j ih =>
    intro k M hk hI
    obtain ⟨⟨f, h1, h2⟩, ⟨g, h3, h4, h5⟩, hK⟩ := hI
    refine T_iload_n d_Mo_invertScalar_2 rfl ?_
    refine T_bipush (v := nI 16) d_Mo_invertScalar_3 (by decide) ?_
    refine N_icmp_ge_f (a := 16) (b := k) d_Mo_invertScalar_5 (tgt := 33) rfl (by omega) (by omega) (by omega) ?_
    refine T_aload_n (v := .ref 373) d_Mo_invertScalar_8 rfl (Or.inr ⟨_, rfl⟩) ?_
    have h_1 := (hK 373 (by decide)).trans (ho)
    refine T_getfield (v := .ref 399) d_Mo_invertScalar_9 fg_Mo_254 h_1 rfl ?_
    refine T_iload_n d_Mo_invertScalar_12 rfl ?_
    refine T_aload_n (v := .ref 373) d_Mo_invertScalar_13 rfl (Or.inr ⟨_, rfl⟩) ?_
    refine T_getfield (v := .ref 395) d_Mo_invertScalar_14 fg_Mo_194 h_1 rfl ?_
    refine T_iload_n d_Mo_invertScalar_17 rfl ?_
    refine N_laload (k := k) (x := (S k)) d_Mo_invertScalar_18 h3 (by omega) (by decide) (h5 k (Nat.le_refl k)) ?_
    refine N_lastore (k := k) d_Mo_invertScalar_19 (by decide) h1 (by omega) (by decide) rfl (fun M_2 h_3 s_4 => ?_)
    refine T_aload_n (v := .ref 373) d_Mo_invertScalar_20 rfl (Or.inr ⟨_, rfl⟩) ?_
    have h_5 := (s_4 373 (by decide)).trans (h_1)
    refine T_getfield (v := .ref 395) d_Mo_invertScalar_21 fg_Mo_194 h_5 rfl ?_
    refine T_iload_n d_Mo_invertScalar_24 rfl ?_
    refine T_lconst (v := 0) d_Mo_invertScalar_25 (by decide) ?_
    have h_6 := (s_4 395 (by decide)).trans (h3)
    refine N_lastore (k := k) d_Mo_invertScalar_26 (by decide) h_6 (by omega) (by decide) rfl (fun M_7 h_8 s_9 => ?_)
    refine N_iinc (k := k) (m := 1) (c := (k + 1)) (L' := [(1, .int (nI ((k + 1)))), (0, .ref 373)]) d_Mo_invertScalar_27 (by decide) rfl (by decide) rfl rfl ?_
    refine T_goto (tgt := 2) d_Mo_invertScalar_30 rfl ?_
    have h_10 := (s_9 399 (by decide)).trans (h_3)
    exact ih (k + 1) M_7 (by omega) ⟨⟨_, h_10, fun i hi => by by_cases c : i = k; subst c; rw [uL_s]; exact dS _ (by omega); rw [uL_n c]; exact h2 i (by omega)⟩, ⟨_, h_8, fun i hi => by by_cases c : i = k; subst c; exact uL_s; rw [uL_n c]; exact h4 i (by omega), fun i hi => by rw [uL_n (by omega)]; exact h5 i (by omega)⟩, (Kp.ex (Kp.ex (Kp.tr (Kp.rf : Kp [395, 399] M0 M0) (Kp.mono hK (by decide))) s_4 (by decide)) s_9 (by decide))⟩
set_option maxHeartbeats 8000000 in
theorem iv_p (G : GX) {M0 : List va_E} {v : Nat → Int32} {x jj : Nat} {S : Nat → Int64} (ho : M0[373]? = some (moO v)) (hS : M0[395]? = some (lr 16 S)) (dS : DL S 16 x) {Q : Option Value → List va_E → Prop} (kk : ∀ M, (∃ f, M[400]? = some (lr 16 f) ∧ ∀ i, i < 16 → (f i).toInt = ((dg x i : Nat) : Int)) ∧ Kp [400] M0 M → TT G mi_Mo_invertScalar 74 [(1, .int (nI jj)), (0, .ref 373)] [] M 0 0 Q) : ∀ j k M, k + j = 16 → (∃ f, M[400]? = some (lr 16 f) ∧ ∀ i, i < k → (f i).toInt = ((dg x i : Nat) : Int)) ∧ Kp [400] M0 M → TT G mi_Mo_invertScalar 50 [(2, .int (nI k)), (1, .int (nI jj)), (0, .ref 373)] [] M 0 0 Q := by
  intro j
  induction j with
  | zero =>
    intro k M hk hI
    obtain rfl : 16 = k := by omega
    refine T_iload_n d_Mo_invertScalar_50 rfl ?_
    refine T_bipush (v := nI 16) d_Mo_invertScalar_51 (by decide) ?_
    refine N_icmp_ge_t (a := 16) (b := 16) d_Mo_invertScalar_53 (tgt := 74) rfl (by omega) (by omega) (by omega) ?_
    exact T_sub (fun q hq => List.mem_cons_of_mem _ hq) (kk M hI)
  | succ j ih =>
    intro k M hk hI
    obtain ⟨⟨f, h1, h2⟩, hK⟩ := hI
    refine T_iload_n d_Mo_invertScalar_50 rfl ?_
    refine T_bipush (v := nI 16) d_Mo_invertScalar_51 (by decide) ?_
    refine N_icmp_ge_f (a := 16) (b := k) d_Mo_invertScalar_53 (tgt := 74) rfl (by omega) (by omega) (by omega) ?_
    refine T_aload_n (v := .ref 373) d_Mo_invertScalar_56 rfl (Or.inr ⟨_, rfl⟩) ?_
    have h_1 := (hK 373 (by decide)).trans (ho)
    refine T_getfield (v := .ref 400) d_Mo_invertScalar_57 fg_Mo_257 h_1 rfl ?_
    refine T_iload_n d_Mo_invertScalar_60 rfl ?_
    refine T_aload_n (v := .ref 373) d_Mo_invertScalar_61 rfl (Or.inr ⟨_, rfl⟩) ?_
    refine T_getfield (v := .ref 395) d_Mo_invertScalar_62 fg_Mo_194 h_1 rfl ?_
    refine T_iload_n d_Mo_invertScalar_65 rfl ?_
    have h_2 := (hK 395 (by decide)).trans (hS)
    refine N_laload (k := k) (x := (S k)) d_Mo_invertScalar_66 h_2 (by omega) (by decide) rfl ?_
    refine N_lastore (k := k) d_Mo_invertScalar_67 (by decide) h1 (by omega) (by decide) rfl (fun M_3 h_4 s_5 => ?_)
    refine N_iinc (k := k) (m := 1) (c := (k + 1)) (L' := [(2, .int (nI ((k + 1)))), (1, .int (nI jj)), (0, .ref 373)]) d_Mo_invertScalar_68 (by decide) rfl (by decide) rfl rfl ?_
    refine T_goto (tgt := 50) d_Mo_invertScalar_71 rfl ?_
    exact ih (k + 1) M_3 (by omega) ⟨⟨_, h_4, fun i hi => by by_cases c : i = k; subst c; rw [uL_s]; exact dS _ (by omega); rw [uL_n c]; exact h2 i (by omega)⟩, (Kp.ex (Kp.tr (Kp.rf : Kp [400] M0 M0) (Kp.mono hK (by decide))) s_5 (by decide))⟩
set_option maxHeartbeats 8000000 in
theorem iv_o (G : GX) {M0 : List va_E} {v : Nat → Int32} {a : Nat} (ho : M0[373]? = some (moO v)) (hF : SC M0 399 16 0 a) (ha : a < 65536 ^ 16) {Q : Option Value → List va_E → Prop} (kk : ∀ M, (MS M ∧ SC M 395 16 0 (a ^ ((qN - 2) / 2 ^ 0) % qN) ∧ Kp [395, 397, 398, 400] M0 M) → TT G mi_Mo_invertScalar 131 [(0, .ref 373)] [] M 0 0 Q) : ∀ j M, j ≤ 253 → (MS M ∧ SC M 395 16 0 (a ^ ((qN - 2) / 2 ^ j) % qN) ∧ Kp [395, 397, 398, 400] M0 M) → TT G mi_Mo_invertScalar 44 [(1, .int (nI j - 1)), (0, .ref 373)] [] M 0 0 Q := by
  intro j
  induction j with
  | zero =>
    intro M hj hI
    refine T_iload_n d_Mo_invertScalar_44 rfl ?_
    refine T_if_lt d_Mo_invertScalar_45 (tgt := 131) rfl (fun _ => ?_) (fun c => absurd (by decide) c)
    exact T_sub (fun q hq => List.mem_cons_of_mem _ hq) (kk M hI)
  | succ j ih =>
    intro M hj hI
    obtain ⟨hm, hS, hK⟩ := hI
    rw [nI_pp]
    obtain ⟨S, hS1, dS⟩ := hS.dl
    obtain ⟨p0, hp0⟩ := hm.lq (p := 400) (n := 16) (by decide)
    have ql := Nat.lt_trans (Nat.mod_lt (a ^ ((qN - 2) / 2 ^ (j + 1))) qOr_pos) qOr_lt
    have ie := ivR_e (qN - 2) j
    have hoM := (hK 373 (by decide)).trans ho
    refine T_iload_n d_Mo_invertScalar_44 rfl ?_
    refine N_if_lt_f (b := j) d_Mo_invertScalar_45 (tgt := 131) rfl (by omega) (by omega) ?_
    refine T_iconst (v := nI 0) d_Mo_invertScalar_48 (by decide) ?_
    refine T_istore_n (L' := [(2, .int (nI 0)), (1, .int (nI j)), (0, .ref 373)]) d_Mo_invertScalar_49 (by decide) rfl ?_
    refine iv_p G hoM hS1 dS (fun Ma hI => ?_) 16 0 M rfl ⟨⟨p0, hp0, fun i hi => absurd hi (Nat.not_lt_zero i)⟩, Kp.rf⟩
    obtain ⟨⟨f2, g1, g2⟩, ka⟩ := hI
    have pA := sc_mk g1 g2
    have msA := MS.wl hm ka ⟨_, g1⟩ (by decide) (by decide) (by decide)
    have sA := hS.kp ka (by decide)
    refine T_aload_n (v := .ref 373) d_Mo_invertScalar_74 rfl (Or.inr ⟨_, rfl⟩) ?_
    refine T_aload_n (v := .ref 373) d_Mo_invertScalar_75 rfl (Or.inr ⟨_, rfl⟩) ?_
    have h_1 := (ka 373 (by decide)).trans (hoM)
    refine T_getfield (v := .ref 400) d_Mo_invertScalar_76 fg_Mo_257 h_1 rfl ?_
    refine T_virtual (as := [.ref 400]) (rest := []) (b := 373) d_Mo_invertScalar_79 rfl (jw_Mo_timesScalar.jo (by decide)) lm_Mo_260 ji_Mo_timesScalar js_Mo_timesScalar h_1 rfl rfl rfl (Nat.le_of_ble_eq_true rfl) (by decide) (by decide) (b_Mo_timesScalar msA h_1 sA pA ql ql (by decide)) (fun r M_2 hq => ?_)
    obtain ⟨rfl, ms_2, sc_2, kp_2⟩ := hq
    refine T_eq (pc' := 82) (L' := [(1, .int (nI j)), (0, .ref 373)]) (st' := []) (M' := M_2) rfl rfl rfl rfl ?_
    rw [ivR_sq] at sc_2
    have ql2 := Nat.lt_trans (Nat.mod_lt (a ^ ((qN - 2) / 2 ^ (j + 1) + (qN - 2) / 2 ^ (j + 1))) qOr_pos) qOr_lt
    obtain ⟨-, -, -, qv, qv1, qv2⟩ := ms_2.2.2.1
    refine T_aload_n (v := .ref 373) d_Mo_invertScalar_82 rfl (Or.inr ⟨_, rfl⟩) ?_
    have h_3 := (kp_2 373 (by decide)).trans (h_1)
    refine T_getfield (v := .ref 396) d_Mo_invertScalar_83 fg_Mo_224 h_3 rfl ?_
    refine T_iload_n d_Mo_invertScalar_86 rfl ?_
    refine T_bipush (v := nI 16) d_Mo_invertScalar_87 (by decide) ?_
    refine N_idiv (a := 16) (b := j) (c := (j / 16)) d_Mo_invertScalar_89 (by omega) (by omega) (by omega) rfl ?_
    refine N_laload (k := (j / 16)) (x := (qL (j / 16))) d_Mo_invertScalar_90 qv1 (by omega) (by decide) (qv2 _ (by omega)) ?_
    refine T_lstore_n (L' := [(2, .long (qL (j / 16))), (1, .int (nI j)), (0, .ref 373)]) d_Mo_invertScalar_91 (by decide) rfl ?_
    refine T_iload_n d_Mo_invertScalar_92 rfl ?_
    refine T_bipush (v := nI 16) d_Mo_invertScalar_93 (by decide) ?_
    refine N_icmp_ge (a := 16) (b := j) d_Mo_invertScalar_95 (tgt := 104) rfl (by omega) (by omega) (fun h16 => ?_) (fun h16 => ?_)
    ·
      refine T_lload_n d_Mo_invertScalar_104 rfl ?_
      refine T_iload_n d_Mo_invertScalar_105 rfl ?_
      refine T_bipush (v := nI 16) d_Mo_invertScalar_106 (by decide) ?_
      refine N_irem (a := 16) (b := j) (c := (j % 16)) d_Mo_invertScalar_108 (by omega) (by omega) (by omega) rfl ?_
      refine T_lshr d_Mo_invertScalar_109 ?_
      refine T_lconst (v := 1) d_Mo_invertScalar_110 (by decide) ?_
      refine T_land d_Mo_invertScalar_111 ?_
      refine T_lconst (v := 1) d_Mo_invertScalar_112 (by decide) ?_
      refine T_lcmp d_Mo_invertScalar_113 ?_
      refine N_topi (y := (if (qN - 2) / 2 ^ j % 2 = 1 then 0 else -1)) (by have e := ivR_bit j (by omega); unfold ivR at e; rw [if_neg (by omega)] at e; exact e) ?_
      by_cases hb : (qN - 2) / 2 ^ j % 2 = 1
      · rw [if_pos hb]
        refine T_if_ne d_Mo_invertScalar_114 (tgt := 125) rfl (fun c => absurd c (by decide)) (fun _ => ?_)
        refine T_aload_n (v := .ref 373) d_Mo_invertScalar_117 rfl (Or.inr ⟨_, rfl⟩) ?_
        refine T_aload_n (v := .ref 373) d_Mo_invertScalar_118 rfl (Or.inr ⟨_, rfl⟩) ?_
        refine T_getfield (v := .ref 399) d_Mo_invertScalar_119 fg_Mo_254 h_3 rfl ?_
        have hF_4 := hF.kp (Kp.tr hK (Kp.tr (Kp.mono ka (by decide)) (Kp.mono kp_2 (by decide)))) (by decide)
        refine T_virtual (as := [.ref 399]) (rest := []) (b := 373) d_Mo_invertScalar_122 rfl (jw_Mo_timesScalar.jo (by decide)) lm_Mo_260 ji_Mo_timesScalar js_Mo_timesScalar h_3 rfl rfl rfl (Nat.le_of_ble_eq_true rfl) (by decide) (by decide) (b_Mo_timesScalar ms_2 h_3 sc_2 hF_4 ql2 ha (by decide)) (fun r M_4 hq => ?_)
        obtain ⟨rfl, ms_4, sc_4, kp_4⟩ := hq
        refine T_eq (pc' := 125) (L' := [(2, .long (qL (j / 16))), (1, .int (nI j)), (0, .ref 373)]) (st' := []) (M' := M_4) rfl rfl rfl rfl ?_
        rw [ivR_mu] at sc_4
        refine T_iinc (x := nI j) (L' := [(1, .int (nI j - 1)), (2, .long (qL (j / 16))), (0, .ref 373)]) d_Mo_invertScalar_125 (by decide) rfl (by rw [nI_dm]; rfl) ?_
        refine T_goto (tgt := 44) d_Mo_invertScalar_128 rfl ?_
        rw [hb] at ie; rw [← ie] at sc_4
        exact T_sub (L' := [(1, .int (nI j - 1)), (0, .ref 373)]) (fun q hq => by simp only [List.mem_cons, List.not_mem_nil, or_false] at hq ⊢; rcases hq with rfl | rfl <;> simp) (ih M_4 (by omega) ⟨ms_4, sc_4, Kp.tr hK ((Kp.tr (Kp.tr (Kp.tr (Kp.rf : Kp [395, 397, 398, 400] M M) (Kp.mono ka (by decide))) (Kp.mono kp_2 (by decide))) (Kp.mono kp_4 (by decide))))⟩)
      · rw [if_neg hb]
        refine T_if_ne d_Mo_invertScalar_114 (tgt := 125) rfl (fun _ => ?_) (fun c => absurd c (by decide))
        refine T_iinc (x := nI j) (L' := [(1, .int (nI j - 1)), (2, .long (qL (j / 16))), (0, .ref 373)]) d_Mo_invertScalar_125 (by decide) rfl (by rw [nI_dm]; rfl) ?_
        refine T_goto (tgt := 44) d_Mo_invertScalar_128 rfl ?_
        have ie2 : (qN - 2) / 2 ^ j = (qN - 2) / 2 ^ (j + 1) + (qN - 2) / 2 ^ (j + 1) := by omega
        rw [← ie2] at sc_2
        exact T_sub (L' := [(1, .int (nI j - 1)), (0, .ref 373)]) (fun q hq => by simp only [List.mem_cons, List.not_mem_nil, or_false] at hq ⊢; rcases hq with rfl | rfl <;> simp) (ih M_2 (by omega) ⟨ms_2, sc_2, Kp.tr hK ((Kp.tr (Kp.tr (Kp.rf : Kp [395, 397, 398, 400] M M) (Kp.mono ka (by decide))) (Kp.mono kp_2 (by decide))))⟩)
    ·
      refine T_lload_n d_Mo_invertScalar_98 rfl ?_
      refine T_ldc2 d_Mo_invertScalar_99 kJ_Mo_264 ?_
      refine T_lsub d_Mo_invertScalar_102 ?_
      refine T_lstore_n (L' := [(2, .long ((qL (j / 16)) - 2)), (1, .int (nI j)), (0, .ref 373)]) d_Mo_invertScalar_103 (by decide) rfl ?_
      refine T_lload_n d_Mo_invertScalar_104 rfl ?_
      refine T_iload_n d_Mo_invertScalar_105 rfl ?_
      refine T_bipush (v := nI 16) d_Mo_invertScalar_106 (by decide) ?_
      refine N_irem (a := 16) (b := j) (c := (j % 16)) d_Mo_invertScalar_108 (by omega) (by omega) (by omega) rfl ?_
      refine T_lshr d_Mo_invertScalar_109 ?_
      refine T_lconst (v := 1) d_Mo_invertScalar_110 (by decide) ?_
      refine T_land d_Mo_invertScalar_111 ?_
      refine T_lconst (v := 1) d_Mo_invertScalar_112 (by decide) ?_
      refine T_lcmp d_Mo_invertScalar_113 ?_
      refine N_topi (y := (if (qN - 2) / 2 ^ j % 2 = 1 then 0 else -1)) (by have e := ivR_bit j (by omega); unfold ivR at e; rw [if_pos (by omega)] at e; exact e) ?_
      by_cases hb : (qN - 2) / 2 ^ j % 2 = 1
      · rw [if_pos hb]
        refine T_if_ne d_Mo_invertScalar_114 (tgt := 125) rfl (fun c => absurd c (by decide)) (fun _ => ?_)
        refine T_aload_n (v := .ref 373) d_Mo_invertScalar_117 rfl (Or.inr ⟨_, rfl⟩) ?_
        refine T_aload_n (v := .ref 373) d_Mo_invertScalar_118 rfl (Or.inr ⟨_, rfl⟩) ?_
        refine T_getfield (v := .ref 399) d_Mo_invertScalar_119 fg_Mo_254 h_3 rfl ?_
        have hF_5 := hF.kp (Kp.tr hK (Kp.tr (Kp.mono ka (by decide)) (Kp.mono kp_2 (by decide)))) (by decide)
        refine T_virtual (as := [.ref 399]) (rest := []) (b := 373) d_Mo_invertScalar_122 rfl (jw_Mo_timesScalar.jo (by decide)) lm_Mo_260 ji_Mo_timesScalar js_Mo_timesScalar h_3 rfl rfl rfl (Nat.le_of_ble_eq_true rfl) (by decide) (by decide) (b_Mo_timesScalar ms_2 h_3 sc_2 hF_5 ql2 ha (by decide)) (fun r M_5 hq => ?_)
        obtain ⟨rfl, ms_5, sc_5, kp_5⟩ := hq
        refine T_eq (pc' := 125) (L' := [(2, .long ((qL (j / 16)) - 2)), (1, .int (nI j)), (0, .ref 373)]) (st' := []) (M' := M_5) rfl rfl rfl rfl ?_
        rw [ivR_mu] at sc_5
        refine T_iinc (x := nI j) (L' := [(1, .int (nI j - 1)), (2, .long ((qL (j / 16)) - 2)), (0, .ref 373)]) d_Mo_invertScalar_125 (by decide) rfl (by rw [nI_dm]; rfl) ?_
        refine T_goto (tgt := 44) d_Mo_invertScalar_128 rfl ?_
        rw [hb] at ie; rw [← ie] at sc_5
        exact T_sub (L' := [(1, .int (nI j - 1)), (0, .ref 373)]) (fun q hq => by simp only [List.mem_cons, List.not_mem_nil, or_false] at hq ⊢; rcases hq with rfl | rfl <;> simp) (ih M_5 (by omega) ⟨ms_5, sc_5, Kp.tr hK ((Kp.tr (Kp.tr (Kp.tr (Kp.rf : Kp [395, 397, 398, 400] M M) (Kp.mono ka (by decide))) (Kp.mono kp_2 (by decide))) (Kp.mono kp_5 (by decide))))⟩)
      · rw [if_neg hb]
        refine T_if_ne d_Mo_invertScalar_114 (tgt := 125) rfl (fun _ => ?_) (fun c => absurd c (by decide))
        refine T_iinc (x := nI j) (L' := [(1, .int (nI j - 1)), (2, .long ((qL (j / 16)) - 2)), (0, .ref 373)]) d_Mo_invertScalar_125 (by decide) rfl (by rw [nI_dm]; rfl) ?_
        refine T_goto (tgt := 44) d_Mo_invertScalar_128 rfl ?_
        have ie2 : (qN - 2) / 2 ^ j = (qN - 2) / 2 ^ (j + 1) + (qN - 2) / 2 ^ (j + 1) := by omega
        rw [← ie2] at sc_2
        exact T_sub (L' := [(1, .int (nI j - 1)), (0, .ref 373)]) (fun q hq => by simp only [List.mem_cons, List.not_mem_nil, or_false] at hq ⊢; rcases hq with rfl | rfl <;> simp) (ih M_2 (by omega) ⟨ms_2, sc_2, Kp.tr hK ((Kp.tr (Kp.tr (Kp.rf : Kp [395, 397, 398, 400] M M) (Kp.mono ka (by decide))) (Kp.mono kp_2 (by decide))))⟩)
set_option maxHeartbeats 8000000 in
theorem b_Mo_invert {G : GX} {M : List va_E} {w : Nat → Int32} {l : List UInt8} {x : Nat} (hms : MS M) (hb : BG M w l) (hs : SC M 395 16 0 x) (hx : x < 65536 ^ 16) : CT G mi_Mo_invertScalar [.ref 373] M (fun r M' => r = none ∧ MS M' ∧ SC M' 395 16 0 (x ^ (qN - 2) % qN) ∧ Kp [395, 397, 398, 399, 400] M M') := by
  obtain ⟨v, ho, -⟩ := hb
  obtain ⟨S, g1, dS⟩ := hs.dl
  obtain ⟨f0, h0⟩ := hms.lq (p := 399) (n := 16) (by decide)
  refine CT.of (by decide) (Nat.le_of_ble_eq_true rfl) ?_
  show TT G mi_Mo_invertScalar 0 [(0, .ref 373)] [] M 0 0 _
  refine T_iconst (v := nI 0) d_Mo_invertScalar_0 (by decide) ?_
  refine T_istore_n (L' := [(1, .int (nI 0)), (0, .ref 373)]) d_Mo_invertScalar_1 (by decide) rfl ?_
  refine iv_c G ho dS (fun Ma hI => ?_) 16 0 M rfl ⟨⟨f0, h0, fun i hi => absurd hi (Nat.not_lt_zero i)⟩, ⟨S, g1, fun i hi => absurd hi (Nat.not_lt_zero i), fun i _ => rfl⟩, Kp.rf⟩
  obtain ⟨⟨fa, a1, a2⟩, ⟨ga, b1, b2, b3⟩, ka⟩ := hI
  have msA : MS Ma := hms.up ka (fun z hz c => absurd c ((by decide +kernel : ∀ z ∈ msI, z.1 ∉ [395, 399]) z hz)) (fun z hz c => by
    rcases (by decide +kernel : ∀ z ∈ msL, z.1 ∈ [395, 399] → z = (395, 16) ∨ z = (399, 16)) z hz c with e | e <;> subst e
    · exact ⟨_, b1⟩
    · exact ⟨_, a1⟩) (by decide)
  refine T_aload_n (v := .ref 373) d_Mo_invertScalar_33 rfl (Or.inr ⟨_, rfl⟩) ?_
  refine T_getfield (v := .ref 395) d_Mo_invertScalar_34 fg_Mo_194 ((ka 373 (by decide)).trans ho) rfl ?_
  refine T_iconst (v := nI 0) d_Mo_invertScalar_37 (by decide) ?_
  refine T_lconst (v := 1) d_Mo_invertScalar_38 (by decide) ?_
  refine N_lastore (k := 0) d_Mo_invertScalar_39 (by decide) b1 (by omega) (by decide) rfl (fun M_1 h_2 s_3 => ?_)
  refine T_sipush (v := nI 252) d_Mo_invertScalar_40 (by decide) ?_
  refine T_istore_n (L' := [(1, .int (nI 252)), (0, .ref 373)]) d_Mo_invertScalar_43 (by decide) rfl ?_
  have kp5 := Ex.kp s_3
  have msB := MS.wl msA kp5 ⟨_, h_2⟩ (by decide) (by decide) (by decide)
  have sB : SC M_1 395 16 0 (x ^ ((qN - 2) / 2 ^ 253) % qN) := by
    rw [show (qN - 2) / 2 ^ 253 = 0 by decide +kernel, Nat.pow_zero]
    refine sc_mk h_2 fun i hi => ?_
    by_cases c : i = 0
    · subst c; rw [uL_s]; decide +kernel
    · rw [uL_n c, b2 i hi, show 1 % qN = 1 from by decide +kernel]; unfold dg; rw [Nat.div_eq_of_lt (Nat.one_lt_pow (by omega) (by decide))]; rfl
  have fB : SC M_1 399 16 0 x := (sc_mk a1 a2).kp kp5 (by decide)
  have hoB := (kp5 373 (by decide)).trans ((ka 373 (by decide)).trans ho)
  rw [show nI 252 = nI 253 - 1 from by decide]
  refine iv_o G hoB fB hx (fun Mb hI => ?_) 253 M_1 (Nat.le_refl _) ⟨msB, sB, Kp.rf⟩
  obtain ⟨msC, sC, kb⟩ := hI
  rw [Nat.pow_zero, Nat.div_one] at sC
  have kall : Kp [395, 397, 398, 399, 400] M Mb := Kp.tr (Kp.tr (Kp.mono ka (by decide)) (Kp.mono kp5 (by decide))) (Kp.mono kb (by decide))
  exact T_vret d_Mo_invertScalar_131 rfl (by decide) (by decide) ⟨rfl, msC, sC, kall⟩
abbrev PTa (M : List va_E) (P : Fp × Fp) : Prop := PT M 12 P
abbrev PTb (M : List va_E) (P : Fp × Fp) : Prop := PT M 16 P
theorem PTa.kp {M M' : List va_E} {W : List Nat} {P : Fp × Fp} (h : PTa M P) (s : Kp W M M') (hn : ∀ q ∈ RW, q ∉ W) : PTa M' P := PT.kp h s hn
theorem PTb.kp {M M' : List va_E} {W : List Nat} {P : Fp × Fp} (h : PTb M P) (s : Kp W M M') (hn : ∀ q ∈ RW, q ∉ W) : PTb M' P := PT.kp h s hn
theorem sar_b4 (b : BitVec 32) (s : Nat) (h : s + 8 ≤ 32) : (b.sshiftRight s).signExtend 8 = (b >>> s).signExtend 8 := by
  ext i hi
  simp only [BitVec.getElem_signExtend, BitVec.getLsbD_eq_getElem, hi, show i < 32 by omega, dif_pos, BitVec.getElem_sshiftRight, BitVec.getElem_ushiftRight, show s + i < 32 by omega]
theorem sar_4 (v : Int32) (i : Nat) (hi : i ≤ 3) : ibh v i = u8 (ius v (8 * i)) := by
  unfold ibh; rw [if_pos hi]
  apply UInt8.toBitVec_inj.mp
  have key : ∀ s : Nat, s + 8 ≤ 32 → (v.toBitVec.sshiftRight s).signExtend 8 = (v.toBitVec >>> s).signExtend 8 := fun s h => sar_b4 _ s h
  match i, hi with
  | 0, _ => exact key 0 (by decide)
  | 1, _ => exact key 8 (by decide)
  | 2, _ => exact key 16 (by decide)
  | 3, _ => exact key 24 (by decide)
theorem bn_be (v : Int32) {n : Nat} (hn : n ≤ 4) : bnN v n = be v n := by
  unfold bnN be bnh beh
  apply List.map_congr_left
  intro i hi
  rw [List.mem_range] at hi
  exact sar_4 v _ (by omega)
set_option maxHeartbeats 8000000 in
theorem b_Mo_chance {G : GX} {M : List va_E} {w : Nat → Int32} {sd : Int32} {ch : Nat} (hms : MS M) (h : BG M w []) (h71 : w 71 = sd) (h72 : w 72 = nI ch) : CT G mi_Mo_chance [.ref 373] M (fun r M' => r = none ∧ MS M' ∧ BG M' (upd w 72 (nI (ch + 1))) [] ∧ IA M' 383 64 (chance sd (nI ch)) ∧ Kp haW M M') := by
  refine CT.of (by decide) (Nat.le_of_ble_eq_true rfl) ?_
  show TT G mi_Mo_chance 0 [(0, .ref 373)] [] M 0 0 _
  refine T_aload_n (v := .ref 373) d_Mo_chance_0 rfl (Or.inr ⟨_, rfl⟩) ?_
  refine T_ldc2 d_Mo_chance_1 kJ_Mo_296 ?_
  obtain ⟨v_2, hov_2, hwv_2, hsv_2, hiv_2⟩ := id h
  refine T_virtual (as := [.long 109299962372965]) (rest := []) (b := 373) d_Mo_chance_4 rfl (jw_Mo_letters.jo (by decide)) lm_Mo_104 ji_Mo_letters js_Mo_letters hov_2 rfl rfl rfl (Nat.le_of_ble_eq_true rfl) (by decide) (by decide) (b_Mo_letters h (by first | omega | (simp only [List.length_append, List.length_cons, List.length_nil, List.length_replicate, sl_len, be_len, sha_len, hmac_len, ex1_len, ex2_len, stretch_len, zer8_len, tC_len, tag1_len, bnN_len, xkp_len, enc_len, chance_len, lbF_len, str2_len]; done) | (simp only [List.length_append, List.length_cons, List.length_nil, List.length_replicate, sl_len, be_len, sha_len, hmac_len, ex1_len, ex2_len, stretch_len, zer8_len, tC_len, tag1_len, bnN_len, xkp_len, enc_len, chance_len, lbF_len, str2_len]; omega))) (fun r M_1 hq => ?_)
  obtain ⟨rfl, p_1_0, kp_1⟩ := hq
  refine T_eq (pc' := 7) (L' := [(0, .ref 373)]) (st' := []) (M' := M_1) rfl rfl rfl rfl ?_
  have p_3 : BG M_1 w ([] ++ [99, 104, 97, 110, 99, 101]) := (by have g := p_1_0; rw [show lts 109299962372965 = [99, 104, 97, 110, 99, 101] from by decide +kernel] at g; exact g)
  refine T_aload_n (v := .ref 373) d_Mo_chance_7 rfl (Or.inr ⟨_, rfl⟩) ?_
  refine T_aload_n (v := .ref 373) d_Mo_chance_8 rfl (Or.inr ⟨_, rfl⟩) ?_
  obtain ⟨v_4, hov_4, hwv_4, hsv_4, hiv_4⟩ := id p_3
  refine N_getI (x := (v_4 71)) (y := sd) d_Mo_chance_9 fg_Mo_298 hov_4 rfl ((hwv_4 71 (by decide)).trans (show w 71 = sd from h71)) ?_
  refine T_iconst (v := nI 4) d_Mo_chance_12 (by decide) ?_
  refine T_virtual (as := [.int sd, .int (nI 4)]) (rest := []) (b := 373) d_Mo_chance_13 rfl (jw_Mo_number.jo (by decide)) lm_Mo_120 ji_Mo_number js_Mo_number hov_4 rfl rfl rfl (Nat.le_of_ble_eq_true rfl) (by decide) (by decide) (b_Mo_number (v := sd) (c := 4) p_3 (by decide) (by first | omega | (simp only [List.length_append, List.length_cons, List.length_nil, List.length_replicate, sl_len, be_len, sha_len, hmac_len, ex1_len, ex2_len, stretch_len, zer8_len, tC_len, tag1_len, bnN_len, xkp_len, enc_len, chance_len, lbF_len, str2_len]; done) | (simp only [List.length_append, List.length_cons, List.length_nil, List.length_replicate, sl_len, be_len, sha_len, hmac_len, ex1_len, ex2_len, stretch_len, zer8_len, tC_len, tag1_len, bnN_len, xkp_len, enc_len, chance_len, lbF_len, str2_len]; omega))) (fun r M_5 hq => ?_)
  obtain ⟨rfl, p_5_0, kp_5⟩ := hq
  refine T_eq (pc' := 16) (L' := [(0, .ref 373)]) (st' := []) (M' := M_5) rfl rfl rfl rfl ?_
  refine T_aload_n (v := .ref 373) d_Mo_chance_16 rfl (Or.inr ⟨_, rfl⟩) ?_
  refine T_aload_n (v := .ref 373) d_Mo_chance_17 rfl (Or.inr ⟨_, rfl⟩) ?_
  obtain ⟨v_6, hov_6, hwv_6, hsv_6, hiv_6⟩ := id p_5_0
  refine N_getI (x := (v_6 72)) (y := (nI ch)) d_Mo_chance_18 fg_Mo_301 hov_6 rfl ((hwv_6 72 (by decide)).trans (show w 72 = (nI ch) from h72)) ?_
  refine T_iconst (v := nI 4) d_Mo_chance_21 (by decide) ?_
  refine T_virtual (as := [.int (nI ch), .int (nI 4)]) (rest := []) (b := 373) d_Mo_chance_22 rfl (jw_Mo_number.jo (by decide)) lm_Mo_120 ji_Mo_number js_Mo_number hov_6 rfl rfl rfl (Nat.le_of_ble_eq_true rfl) (by decide) (by decide) (b_Mo_number (v := (nI ch)) (c := 4) p_5_0 (by decide) (by first | omega | (simp only [List.length_append, List.length_cons, List.length_nil, List.length_replicate, sl_len, be_len, sha_len, hmac_len, ex1_len, ex2_len, stretch_len, zer8_len, tC_len, tag1_len, bnN_len, xkp_len, enc_len, chance_len, lbF_len, str2_len]; done) | (simp only [List.length_append, List.length_cons, List.length_nil, List.length_replicate, sl_len, be_len, sha_len, hmac_len, ex1_len, ex2_len, stretch_len, zer8_len, tC_len, tag1_len, bnN_len, xkp_len, enc_len, chance_len, lbF_len, str2_len]; omega))) (fun r M_7 hq => ?_)
  obtain ⟨rfl, p_7_0, kp_7⟩ := hq
  refine T_eq (pc' := 25) (L' := [(0, .ref 373)]) (st' := []) (M' := M_7) rfl rfl rfl rfl ?_
  refine T_aload_n (v := .ref 373) d_Mo_chance_25 rfl (Or.inr ⟨_, rfl⟩) ?_
  have p_8 := (MS.kp ((MS.kp ((MS.kp (hms) kp_1 (by decide))) kp_5 (by decide))) kp_7 (by decide))
  obtain ⟨v_10, hov_10, hwv_10, hsv_10, hiv_10⟩ := id p_7_0
  refine T_virtual (as := []) (rest := []) (b := 373) d_Mo_chance_26 rfl (jw_Mo_hash0.jo (by decide)) lm_Mo_80 ji_Mo_hash0 js_Mo_hash0 hov_10 rfl rfl rfl (Nat.le_of_ble_eq_true rfl) (by decide) (by decide) (b_Mo_hash0 p_8 p_7_0 (by first | omega | (simp only [List.length_append, List.length_cons, List.length_nil, List.length_replicate, sl_len, be_len, sha_len, hmac_len, ex1_len, ex2_len, stretch_len, zer8_len, tC_len, tag1_len, bnN_len, xkp_len, enc_len, chance_len, lbF_len, str2_len]; done) | (simp only [List.length_append, List.length_cons, List.length_nil, List.length_replicate, sl_len, be_len, sha_len, hmac_len, ex1_len, ex2_len, stretch_len, zer8_len, tC_len, tag1_len, bnN_len, xkp_len, enc_len, chance_len, lbF_len, str2_len]; omega))) (fun r M_9 hq => ?_)
  obtain ⟨rfl, p_9_0, p_9_1, p_9_2, kp_9⟩ := hq
  refine T_eq (pc' := 29) (L' := [(0, .ref 373)]) (st' := []) (M' := M_9) rfl rfl rfl rfl ?_
  refine T_aload_n (v := .ref 373) d_Mo_chance_29 rfl (Or.inr ⟨_, rfl⟩) ?_
  refine T_dup d_Mo_chance_30 rfl ?_
  obtain ⟨v_11, hov_11, hwv_11, hsv_11, hiv_11⟩ := id p_9_1
  refine N_getI (x := (v_11 72)) (y := (nI ch)) d_Mo_chance_31 fg_Mo_301 hov_11 rfl ((hwv_11 72 (by decide)).trans (show w 72 = (nI ch) from h72)) ?_
  refine T_iconst (v := nI 1) d_Mo_chance_34 (by decide) ?_
  refine N_iadd (a := 1) (b := ch) (c := (ch + 1)) d_Mo_chance_35 rfl ?_
  refine N_put (e := (moO (upd v_11 72 (nI ((ch + 1)))))) d_Mo_chance_36 (fp_Mo_301 _) hov_11 (Nat.le_of_ble_eq_true rfl) ⟨rfl, rfl⟩ rfl (fun M_12 h_13 s_14 => ?_)
  have p_15 := BG.st (j := 72) (by decide) hwv_11 hsv_11 hiv_11 h_13 (Ex.kp s_14)
  have p_16 := (IA.kp (p_9_2) (Ex.kp s_14) (by decide))
  have p_17 : IA M_12 383 64 (chance sd (nI ch)) := (by have g := p_16; rw [bn_be _ (by decide), bn_be _ (by decide)] at g; exact g)
  have p_18 := (MS.kp (p_9_0) (Ex.kp s_14) (by decide))
  exact T_vret d_Mo_chance_39 rfl (by decide) (by decide) ⟨rfl, p_18, p_15, p_17, (Kp.ex (Kp.tr (Kp.tr (Kp.tr (Kp.tr (Kp.rf : Kp [373, 374, 380, 382, 381, 383] M M) (Kp.mono kp_1 (by decide))) (Kp.mono kp_5 (by decide))) (Kp.mono kp_7 (by decide))) (Kp.mono kp_9 (by decide))) s_14 (by decide))⟩
abbrev csW : List Nat := [373, 374, 380, 382, 381, 383, 395, 397, 398]
set_option maxHeartbeats 8000000 in
theorem b_Mo_chanceScalar {G : GX} {M : List va_E} {w : Nat → Int32} {sd : Int32} {ch : Nat} (hms : MS M) (h : BG M w []) (h71 : w 71 = sd) (h72 : w 72 = nI ch) : CT G mi_Mo_chanceScalar [.ref 373] M (fun r M' => r = none ∧ MS M' ∧ BG M' (upd w 72 (nI (ch + 1))) [] ∧ SC M' 395 16 0 (scal (chance sd (nI ch))) ∧ Kp csW M M') := by
  refine CT.of (by decide) (Nat.le_of_ble_eq_true rfl) ?_
  show TT G mi_Mo_chanceScalar 0 [(0, .ref 373)] [] M 0 0 _
  refine T_aload_n (v := .ref 373) d_Mo_chanceScalar_0 rfl (Or.inr ⟨_, rfl⟩) ?_
  obtain ⟨v_2, hov_2, hwv_2, hsv_2, hiv_2⟩ := id h
  refine T_virtual (as := []) (rest := []) (b := 373) d_Mo_chanceScalar_1 rfl (jw_Mo_chance.jo (by decide)) lm_Mo_304 ji_Mo_chance js_Mo_chance hov_2 rfl rfl rfl (Nat.le_of_ble_eq_true rfl) (by decide) (by decide) (b_Mo_chance hms h (show w 71 = sd from h71) (show w 72 = nI ch from h72)) (fun r M_1 hq => ?_)
  obtain ⟨rfl, p_1_0, p_1_1, p_1_2, kp_1⟩ := hq
  refine T_eq (pc' := 4) (L' := [(0, .ref 373)]) (st' := []) (M' := M_1) rfl rfl rfl rfl ?_
  refine T_aload_n (v := .ref 373) d_Mo_chanceScalar_4 rfl (Or.inr ⟨_, rfl⟩) ?_
  refine T_aload_n (v := .ref 373) d_Mo_chanceScalar_5 rfl (Or.inr ⟨_, rfl⟩) ?_
  obtain ⟨v_3, hov_3, hwv_3, hsv_3, hiv_3⟩ := id p_1_1
  refine T_getfield (v := .ref 383) d_Mo_chanceScalar_6 fg_Mo_55 hov_3 rfl ?_
  refine T_iconst (v := nI 0) d_Mo_chanceScalar_9 (by decide) ?_
  refine T_bipush (v := nI 64) d_Mo_chanceScalar_10 (by decide) ?_
  refine T_virtual (as := [.ref 383, .int (nI 0), .int (nI 64)]) (rest := []) (b := 373) d_Mo_chanceScalar_12 rfl (jw_Mo_scalarOf.jo (by decide)) lm_Mo_287 ji_Mo_scalarOf js_Mo_scalarOf hov_3 rfl rfl rfl (Nat.le_of_ble_eq_true rfl) (by decide) (by decide) (b_Mo_scalarOf (at0 := 0) (n := 64) p_1_0 p_1_1 p_1_2 (by first | omega | (simp only [List.length_append, List.length_cons, List.length_nil, List.length_replicate, sl_len, be_len, sha_len, hmac_len, ex1_len, ex2_len, stretch_len, zer8_len, tC_len, tag1_len, bnN_len, xkp_len, enc_len, chance_len, lbF_len, str2_len]; done) | (simp only [List.length_append, List.length_cons, List.length_nil, List.length_replicate, sl_len, be_len, sha_len, hmac_len, ex1_len, ex2_len, stretch_len, zer8_len, tC_len, tag1_len, bnN_len, xkp_len, enc_len, chance_len, lbF_len, str2_len]; omega)) (by decide) (by decide) (by decide)) (fun r M_4 hq => ?_)
  obtain ⟨rfl, p_4_0, p_4_1, kp_4⟩ := hq
  refine T_eq (pc' := 15) (L' := [(0, .ref 373)]) (st' := []) (M' := M_4) rfl rfl rfl rfl ?_
  refine T_aload_n (v := .ref 373) d_Mo_chanceScalar_15 rfl (Or.inr ⟨_, rfl⟩) ?_
  have p_6 := (BG.kp (p_1_1) kp_4 (by decide) (by decide))
  have hx : (leN (sl (chance sd (nI ch)) 0 64) 64 % qN) < 65536 ^ 16 := Nat.lt_trans (Nat.mod_lt _ qOr_pos) qOr_lt
  obtain ⟨v_7, hov_7, hwv_7, hsv_7, hiv_7⟩ := id p_6
  refine T_virtual (as := []) (rest := []) (b := 373) d_Mo_chanceScalar_16 rfl (jw_Mo_isScalarZero.jo (by decide)) lm_Mo_307 ji_Mo_isScalarZero js_Mo_isScalarZero hov_7 rfl rfl rfl (Nat.le_of_ble_eq_true rfl) (by decide) (by decide) (b_Mo_isZ p_6 p_4_1 hx) (fun r M_5 hq => ?_)
  obtain ⟨rfl, he⟩ := hq
  obtain rfl := he.symm
  by_cases hz : (leN (sl (chance sd (nI ch)) 0 64) 64 % qN) = 0
  · rw [if_pos hz]
    refine T_eq (pc' := 19) (L' := [(0, .ref 373)]) (st' := [.int (nI 1)]) (M' := M_4) rfl rfl rfl rfl ?_
    refine N_if_eq_f (b := 1) d_Mo_chanceScalar_19 (tgt := 29) rfl (by omega) (by omega) ?_
    obtain ⟨fs, fs1, fs2⟩ := id p_4_1
    refine T_aload_n (v := .ref 373) d_Mo_chanceScalar_22 rfl (Or.inr ⟨_, rfl⟩) ?_
    refine T_getfield (v := .ref 395) d_Mo_chanceScalar_23 fg_Mo_194 hov_7 rfl ?_
    refine T_iconst (v := nI 0) d_Mo_chanceScalar_26 (by decide) ?_
    refine T_lconst (v := 1) d_Mo_chanceScalar_27 (by decide) ?_
    refine N_lastore (k := 0) d_Mo_chanceScalar_28 (by decide) fs1 (by omega) (by decide) rfl (fun M_8 h_9 s_10 => ?_)
    have msz := MS.wl p_4_0 (Ex.kp s_10) ⟨_, h_9⟩ (by decide) (by decide) (by decide)
    rw [sl64 (chance_len _ _)] at hz fs2
    have scz : SC M_8 395 16 0 (scal (chance sd (nI ch))) := by
      unfold scal; rw [if_pos hz]
      refine sc_mk h_9 fun i hi => ?_
      by_cases c : i = 0
      · subst c; rw [uL_s]; decide
      · have g := fs2 i hi
        rw [Nat.zero_add, hz, Nat.zero_div] at g
        rw [uL_n c, g]; unfold dg; rw [Nat.div_eq_of_lt (Nat.one_lt_pow (by omega) (by decide))]
    have p_11 := (BG.kp (p_6) (Ex.kp s_10) (by decide) (by decide))
    exact T_vret d_Mo_chanceScalar_29 rfl (by decide) (by decide) ⟨rfl, msz, p_11, scz, (Kp.ex (Kp.tr (Kp.tr (Kp.rf : Kp [373, 374, 380, 382, 381, 383, 395, 397, 398] M M) (Kp.mono kp_1 (by decide))) (Kp.mono kp_4 (by decide))) s_10 (by decide))⟩
  · rw [if_neg hz]
    refine T_eq (pc' := 19) (L' := [(0, .ref 373)]) (st' := [.int (nI 0)]) (M' := M_4) rfl rfl rfl rfl ?_
    refine N_if_eq_t (b := 0) d_Mo_chanceScalar_19 (tgt := 29) rfl (by omega) (by omega) ?_
    rw [sl64 (chance_len _ _)] at hz
    have p_12 : SC M_4 395 16 0 (scal (chance sd (nI ch))) := (by have g := p_4_1; rw [sl64 (chance_len _ _)] at g; unfold scal; rw [if_neg hz]; exact g)
    exact T_vret d_Mo_chanceScalar_29 rfl (by decide) (by decide) ⟨rfl, p_4_0, p_6, p_12, (Kp.tr (Kp.tr (Kp.rf : Kp [373, 374, 380, 382, 381, 383, 395, 397, 398] M M) (Kp.mono kp_1 (by decide))) (Kp.mono kp_4 (by decide)))⟩
abbrev keW : List Nat := [373, 374, 380, 382, 381, 383, 389, 401, 395, 397, 398]
set_option maxHeartbeats 8000000 in
theorem ko_s0 (G : GX) {M0 : List va_E} {w : Nat → Int32} {l : List UInt8} {p at0 : Nat} (hb : BG M0 w l) (ha : 0 + l.length ≤ l.length) (hd : 0 + l.length ≤ 400)  {Q : Option Value → List va_E → Prop} (kk : ∀ M, IA M 401 400 (sl l 0 l.length) ∧ Kp [401] M0 M → TT G mi_Mo_keyOf 126 [(5, .int (nI (l.length))), (0, .ref 373), (1, .ref p), (2, .int (nI at0)), (3, .int (nI 32)), (4, .int (nI 0))] [] M 0 0 Q) : ∀ j k M, k + j = l.length → IA M 401 400 (sl l 0 k) ∧ Kp [401] M0 M → TT G mi_Mo_keyOf 99 [(6, .int (nI k)), (5, .int (nI (l.length))), (0, .ref 373), (1, .ref p), (2, .int (nI at0)), (3, .int (nI 32)), (4, .int (nI 0))] [] M 0 0 Q := by
  intro j
  induction j with
  | zero =>
    intro k M hk hI
    obtain rfl : l.length = k := by omega
    obtain ⟨hda, hK⟩ := id hI
    refine T_iload d_Mo_keyOf_99 rfl ?_
    refine T_iload d_Mo_keyOf_101 rfl ?_
    refine N_icmp_ge_t (a := l.length) (b := l.length) d_Mo_keyOf_103 (tgt := 126) rfl (by omega) (by omega) (by omega) ?_
    exact T_sub (fun q hq => List.mem_cons_of_mem _ hq) (kk M hI)
  | succ j ih =>
    intro k M hk hI
    obtain ⟨hda, hK⟩ := hI
    obtain ⟨vb, hob, hwb, hsb, hib⟩ := id hb
    have hsl := IA.le hib
    refine T_iload d_Mo_keyOf_99 rfl ?_
    refine T_iload d_Mo_keyOf_101 rfl ?_
    refine N_icmp_ge_f (a := l.length) (b := k) d_Mo_keyOf_103 (tgt := 126) rfl (by omega) (by omega) (by omega) ?_
    refine T_aload_n (v := .ref 373) d_Mo_keyOf_106 rfl (Or.inr ⟨_, rfl⟩) ?_
    have p_1 := (BG.kp (hb) hK (by decide) (by decide))
    obtain ⟨v_2, hov_2, hwv_2, hsv_2, hiv_2⟩ := id p_1
    refine T_getfield (v := .ref 401) d_Mo_keyOf_107 fg_Mo_280 hov_2 rfl ?_
    refine T_iload d_Mo_keyOf_110 rfl ?_
    refine T_aload_n (v := .ref 373) d_Mo_keyOf_112 rfl (Or.inr ⟨_, rfl⟩) ?_
    refine T_getfield (v := .ref 374) d_Mo_keyOf_113 fg_Mo_1 hov_2 rfl ?_
    refine T_iload d_Mo_keyOf_116 rfl ?_
    have p_3 := (IA.kp (hib) hK (by decide))
    obtain ⟨f_4, hf_5, hl_6, hv_7⟩ := id p_3
    refine N_iaload (k := k) (x := (bR (gd l k))) d_Mo_keyOf_118 hf_5 (by omega) (by decide) (hv_7 k (by first | omega | (simp only [List.length_append, List.length_cons, List.length_nil, List.length_replicate, sl_len, be_len, sha_len, hmac_len, ex1_len, ex2_len, stretch_len, zer8_len, tC_len, tag1_len, bnN_len, xkp_len]; omega))) ?_
    obtain ⟨f_8, hf_9, hl_10, hv_11⟩ := id hda
    refine N_iastore (k := k) d_Mo_keyOf_119 (by decide) hf_9 (by omega) (by decide) rfl (fun M_12 h_13 s_14 => ?_)
    refine N_iinc (k := k) (m := 1) (c := (k + 1)) (L' := [(6, .int (nI ((k + 1)))), (5, .int (nI (l.length))), (0, .ref 373), (1, .ref p), (2, .int (nI at0)), (3, .int (nI 32)), (4, .int (nI 0))]) d_Mo_keyOf_120 (by decide) rfl (by decide) rfl rfl ?_
    refine T_goto (tgt := 99) d_Mo_keyOf_123 rfl ?_
    exact ih (k + 1) M_12 (by omega) ⟨ia_c0 h_13 (gd_c (by omega)) (by omega) (by omega) hv_11, (Kp.ex (Kp.tr (Kp.rf : Kp [401] M0 M0) (Kp.mono hK (by decide))) s_14 (by decide))⟩
set_option maxHeartbeats 8000000 in
theorem b_Mo_keyOf0 {G : GX} {M : List va_E} {w : Nat → Int32} {p m at0 : Nat} {s : List UInt8} (hms : MS M) (h : BG M w []) (hk : IA M p m s) (ha : at0 + 32 ≤ s.length) (hm2 : m < 2 ^ 30) (hp : p ∉ keW) : CT G mi_Mo_keyOf [.ref 373, .ref p, .int (nI at0), .int (nI 32), .int (nI 0)] M (fun r M' => r = none ∧ MS M' ∧ BG M' w [] ∧ SC M' 395 16 0 (keyN (sl s at0 32) W8) ∧ Kp keW M M') := by
  refine CT.of (by decide) (Nat.le_of_ble_eq_true rfl) ?_
  show TT G mi_Mo_keyOf 0 [(0, .ref 373), (1, .ref p), (2, .int (nI at0)), (3, .int (nI 32)), (4, .int (nI 0))] [] M 0 0 _
  refine T_aload_n (v := .ref 373) d_Mo_keyOf_0 rfl (Or.inr ⟨_, rfl⟩) ?_
  refine T_aload_n (v := .ref p) d_Mo_keyOf_1 rfl (Or.inr ⟨_, rfl⟩) ?_
  refine T_iload_n d_Mo_keyOf_2 rfl ?_
  refine T_iload_n d_Mo_keyOf_3 rfl ?_
  obtain ⟨v_2, hov_2, hwv_2, hsv_2, hiv_2⟩ := id h
  refine T_virtual (as := [.ref p, .int (nI at0), .int (nI 32)]) (rest := []) (b := 373) d_Mo_keyOf_4 rfl (jw_Mo_bytes.jo (by decide)) lm_Mo_76 ji_Mo_bytes js_Mo_bytes hov_2 rfl rfl rfl (Nat.le_of_ble_eq_true rfl) (by decide) (by decide) (b_Mo_bytes (at0 := at0) (n := 32) h hk (by first | omega | (simp only [List.length_append, List.length_cons, List.length_nil, List.length_replicate, sl_len, be_len, sha_len, hmac_len, ex1_len, ex2_len, stretch_len, zer8_len, tC_len, tag1_len, bnN_len, xkp_len, enc_len, chance_len, lbF_len, str2_len]; done) | (simp only [List.length_append, List.length_cons, List.length_nil, List.length_replicate, sl_len, be_len, sha_len, hmac_len, ex1_len, ex2_len, stretch_len, zer8_len, tC_len, tag1_len, bnN_len, xkp_len, enc_len, chance_len, lbF_len, str2_len]; omega)) (by omega) (by first | omega | (simp only [List.length_append, List.length_cons, List.length_nil, List.length_replicate, sl_len, be_len, sha_len, hmac_len, ex1_len, ex2_len, stretch_len, zer8_len, tC_len, tag1_len, bnN_len, xkp_len, enc_len, chance_len, lbF_len, str2_len]; done) | (simp only [List.length_append, List.length_cons, List.length_nil, List.length_replicate, sl_len, be_len, sha_len, hmac_len, ex1_len, ex2_len, stretch_len, zer8_len, tC_len, tag1_len, bnN_len, xkp_len, enc_len, chance_len, lbF_len, str2_len]; omega)) (nmne hp (by decide)) (nmne hp (by decide))) (fun r M_1 hq => ?_)
  obtain ⟨rfl, p_1_0, kp_1⟩ := hq
  refine T_eq (pc' := 7) (L' := [(0, .ref 373), (1, .ref p), (2, .int (nI at0)), (3, .int (nI 32)), (4, .int (nI 0))]) (st' := []) (M' := M_1) rfl rfl rfl rfl ?_
  refine T_iload d_Mo_keyOf_7 rfl ?_
  refine N_if_ne_f (b := 0) d_Mo_keyOf_9 (tgt := 43) rfl (by omega) (by omega) ?_
  refine T_aload_n (v := .ref 373) d_Mo_keyOf_12 rfl (Or.inr ⟨_, rfl⟩) ?_
  refine T_bipush (v := nI 20) d_Mo_keyOf_13 (by decide) ?_
  refine T_iconst (v := nI 2) d_Mo_keyOf_15 (by decide) ?_
  obtain ⟨v_4, hov_4, hwv_4, hsv_4, hiv_4⟩ := id p_1_0
  refine T_virtual (as := [.int (nI 20), .int (nI 2)]) (rest := []) (b := 373) d_Mo_keyOf_16 rfl (jw_Mo_number.jo (by decide)) lm_Mo_120 ji_Mo_number js_Mo_number hov_4 rfl rfl rfl (Nat.le_of_ble_eq_true rfl) (by decide) (by decide) (b_Mo_number (v := (nI 20)) (c := 2) p_1_0 (by decide) (by first | omega | (simp only [List.length_append, List.length_cons, List.length_nil, List.length_replicate, sl_len, be_len, sha_len, hmac_len, ex1_len, ex2_len, stretch_len, zer8_len, tC_len, tag1_len, bnN_len, xkp_len, enc_len, chance_len, lbF_len, str2_len]; done) | (simp only [List.length_append, List.length_cons, List.length_nil, List.length_replicate, sl_len, be_len, sha_len, hmac_len, ex1_len, ex2_len, stretch_len, zer8_len, tC_len, tag1_len, bnN_len, xkp_len, enc_len, chance_len, lbF_len, str2_len]; omega))) (fun r M_3 hq => ?_)
  obtain ⟨rfl, p_3_0, kp_3⟩ := hq
  refine T_eq (pc' := 19) (L' := [(0, .ref 373), (1, .ref p), (2, .int (nI at0)), (3, .int (nI 32)), (4, .int (nI 0))]) (st' := []) (M' := M_3) rfl rfl rfl rfl ?_
  have p_5 : BG M_3 w ((([]) ++ sl s at0 32) ++ [0, 20]) := (by have g := p_3_0; rw [show bnN (nI 20) 2 = [0, 20] from by decide] at g; exact g)
  refine T_aload_n (v := .ref 373) d_Mo_keyOf_19 rfl (Or.inr ⟨_, rfl⟩) ?_
  refine T_ldc2 d_Mo_keyOf_20 kJ_Mo_266 ?_
  obtain ⟨v_7, hov_7, hwv_7, hsv_7, hiv_7⟩ := id p_5
  refine T_virtual (as := [.long 5715139744711912772]) (rest := []) (b := 373) d_Mo_keyOf_23 rfl (jw_Mo_letters.jo (by decide)) lm_Mo_104 ji_Mo_letters js_Mo_letters hov_7 rfl rfl rfl (Nat.le_of_ble_eq_true rfl) (by decide) (by decide) (b_Mo_letters p_5 (by first | omega | (simp only [List.length_append, List.length_cons, List.length_nil, List.length_replicate, sl_len, be_len, sha_len, hmac_len, ex1_len, ex2_len, stretch_len, zer8_len, tC_len, tag1_len, bnN_len, xkp_len, enc_len, chance_len, lbF_len, str2_len]; done) | (simp only [List.length_append, List.length_cons, List.length_nil, List.length_replicate, sl_len, be_len, sha_len, hmac_len, ex1_len, ex2_len, stretch_len, zer8_len, tC_len, tag1_len, bnN_len, xkp_len, enc_len, chance_len, lbF_len, str2_len]; omega))) (fun r M_6 hq => ?_)
  obtain ⟨rfl, p_6_0, kp_6⟩ := hq
  refine T_eq (pc' := 26) (L' := [(0, .ref 373), (1, .ref p), (2, .int (nI at0)), (3, .int (nI 32)), (4, .int (nI 0))]) (st' := []) (M' := M_6) rfl rfl rfl rfl ?_
  have p_8 : BG M_6 w (((([]) ++ sl s at0 32) ++ [0, 20]) ++ [79, 80, 65, 81, 85, 69, 45, 68]) := (by have g := p_6_0; rw [show lts 5715139744711912772 = [79, 80, 65, 81, 85, 69, 45, 68] from by decide +kernel] at g; exact g)
  refine T_aload_n (v := .ref 373) d_Mo_keyOf_26 rfl (Or.inr ⟨_, rfl⟩) ?_
  refine T_ldc2 d_Mo_keyOf_27 kJ_Mo_268 ?_
  obtain ⟨v_10, hov_10, hwv_10, hsv_10, hiv_10⟩ := id p_8
  refine T_virtual (as := [.long 7310021102402233721]) (rest := []) (b := 373) d_Mo_keyOf_30 rfl (jw_Mo_letters.jo (by decide)) lm_Mo_104 ji_Mo_letters js_Mo_letters hov_10 rfl rfl rfl (Nat.le_of_ble_eq_true rfl) (by decide) (by decide) (b_Mo_letters p_8 (by first | omega | (simp only [List.length_append, List.length_cons, List.length_nil, List.length_replicate, sl_len, be_len, sha_len, hmac_len, ex1_len, ex2_len, stretch_len, zer8_len, tC_len, tag1_len, bnN_len, xkp_len, enc_len, chance_len, lbF_len, str2_len]; done) | (simp only [List.length_append, List.length_cons, List.length_nil, List.length_replicate, sl_len, be_len, sha_len, hmac_len, ex1_len, ex2_len, stretch_len, zer8_len, tC_len, tag1_len, bnN_len, xkp_len, enc_len, chance_len, lbF_len, str2_len]; omega))) (fun r M_9 hq => ?_)
  obtain ⟨rfl, p_9_0, kp_9⟩ := hq
  refine T_eq (pc' := 33) (L' := [(0, .ref 373), (1, .ref p), (2, .int (nI at0)), (3, .int (nI 32)), (4, .int (nI 0))]) (st' := []) (M' := M_9) rfl rfl rfl rfl ?_
  have p_11 : BG M_9 w ((((([]) ++ sl s at0 32) ++ [0, 20]) ++ [79, 80, 65, 81, 85, 69, 45, 68]) ++ [101, 114, 105, 118, 101, 75, 101, 121]) := (by have g := p_9_0; rw [show lts 7310021102402233721 = [101, 114, 105, 118, 101, 75, 101, 121] from by decide +kernel] at g; exact g)
  refine T_aload_n (v := .ref 373) d_Mo_keyOf_33 rfl (Or.inr ⟨_, rfl⟩) ?_
  refine T_ldc2 d_Mo_keyOf_34 kJ_Mo_270 ?_
  obtain ⟨v_13, hov_13, hwv_13, hsv_13, hiv_13⟩ := id p_11
  refine T_virtual (as := [.long 1348561266]) (rest := []) (b := 373) d_Mo_keyOf_37 rfl (jw_Mo_letters.jo (by decide)) lm_Mo_104 ji_Mo_letters js_Mo_letters hov_13 rfl rfl rfl (Nat.le_of_ble_eq_true rfl) (by decide) (by decide) (b_Mo_letters p_11 (by first | omega | (simp only [List.length_append, List.length_cons, List.length_nil, List.length_replicate, sl_len, be_len, sha_len, hmac_len, ex1_len, ex2_len, stretch_len, zer8_len, tC_len, tag1_len, bnN_len, xkp_len, enc_len, chance_len, lbF_len, str2_len]; done) | (simp only [List.length_append, List.length_cons, List.length_nil, List.length_replicate, sl_len, be_len, sha_len, hmac_len, ex1_len, ex2_len, stretch_len, zer8_len, tC_len, tag1_len, bnN_len, xkp_len, enc_len, chance_len, lbF_len, str2_len]; omega))) (fun r M_12 hq => ?_)
  obtain ⟨rfl, p_12_0, kp_12⟩ := hq
  refine T_eq (pc' := 40) (L' := [(0, .ref 373), (1, .ref p), (2, .int (nI at0)), (3, .int (nI 32)), (4, .int (nI 0))]) (st' := []) (M' := M_12) rfl rfl rfl rfl ?_
  have p_14 : BG M_12 w (((((([]) ++ sl s at0 32) ++ [0, 20]) ++ [79, 80, 65, 81, 85, 69, 45, 68]) ++ [101, 114, 105, 118, 101, 75, 101, 121]) ++ [80, 97, 105, 114]) := (by have g := p_12_0; rw [show lts 1348561266 = [80, 97, 105, 114] from by decide +kernel] at g; exact g)
  refine T_goto (tgt := 85) d_Mo_keyOf_40 rfl ?_
  refine T_aload_n (v := .ref 373) d_Mo_keyOf_85 rfl (Or.inr ⟨_, rfl⟩) ?_
  refine T_iconst (v := nI 0) d_Mo_keyOf_86 (by decide) ?_
  obtain ⟨v_16, hov_16, hwv_16, hsv_16, hiv_16⟩ := id p_14
  refine T_virtual (as := [.int (nI 0)]) (rest := []) (b := 373) d_Mo_keyOf_87 rfl (jw_Mo_one.jo (by decide)) lm_Mo_11 ji_Mo_one js_Mo_one hov_16 rfl rfl rfl (Nat.le_of_ble_eq_true rfl) (by decide) (by decide) (b_Mo_one (x := (nI 0)) p_14 (by first | omega | (simp only [List.length_append, List.length_cons, List.length_nil, List.length_replicate, sl_len, be_len, sha_len, hmac_len, ex1_len, ex2_len, stretch_len, zer8_len, tC_len, tag1_len, bnN_len, xkp_len, enc_len, chance_len, lbF_len, str2_len]; done) | (simp only [List.length_append, List.length_cons, List.length_nil, List.length_replicate, sl_len, be_len, sha_len, hmac_len, ex1_len, ex2_len, stretch_len, zer8_len, tC_len, tag1_len, bnN_len, xkp_len, enc_len, chance_len, lbF_len, str2_len]; omega))) (fun r M_15 hq => ?_)
  obtain ⟨rfl, p_15_0, kp_15⟩ := hq
  refine T_eq (pc' := 90) (L' := [(0, .ref 373), (1, .ref p), (2, .int (nI at0)), (3, .int (nI 32)), (4, .int (nI 0))]) (st' := []) (M' := M_15) rfl rfl rfl rfl ?_
  refine T_aload_n (v := .ref 373) d_Mo_keyOf_90 rfl (Or.inr ⟨_, rfl⟩) ?_
  obtain ⟨v_17, hov_17, hwv_17, hsv_17, hiv_17⟩ := id p_15_0
  refine N_getI (x := (v_17 67)) (y := (nI (((((((([]) ++ sl s at0 32) ++ [0, 20]) ++ [79, 80, 65, 81, 85, 69, 45, 68]) ++ [101, 114, 105, 118, 101, 75, 101, 121]) ++ [80, 97, 105, 114]) ++ [u8 (nI 0)]).length))) d_Mo_keyOf_91 fg_Mo_7 hov_17 rfl hsv_17 ?_
  refine T_istore (L' := [(5, .int (nI (((((((([]) ++ sl s at0 32) ++ [0, 20]) ++ [79, 80, 65, 81, 85, 69, 45, 68]) ++ [101, 114, 105, 118, 101, 75, 101, 121]) ++ [80, 97, 105, 114]) ++ [u8 (nI 0)]).length))), (0, .ref 373), (1, .ref p), (2, .int (nI at0)), (3, .int (nI 32)), (4, .int (nI 0))]) d_Mo_keyOf_94 (by decide) rfl ?_
  refine T_iconst (v := nI 0) d_Mo_keyOf_96 (by decide) ?_
  refine T_istore (L' := [(6, .int (nI 0)), (5, .int (nI (((((((([]) ++ sl s at0 32) ++ [0, 20]) ++ [79, 80, 65, 81, 85, 69, 45, 68]) ++ [101, 114, 105, 118, 101, 75, 101, 121]) ++ [80, 97, 105, 114]) ++ [u8 (nI 0)]).length))), (0, .ref 373), (1, .ref p), (2, .int (nI at0)), (3, .int (nI 32)), (4, .int (nI 0))]) d_Mo_keyOf_97 (by decide) rfl ?_
  have p_18 := (MS.kp ((MS.kp ((MS.kp ((MS.kp ((MS.kp ((MS.kp (hms) kp_1 (by decide))) kp_3 (by decide))) kp_6 (by decide))) kp_9 (by decide))) kp_12 (by decide))) kp_15 (by decide))
  refine ko_s0 G p_15_0 (by first | omega | (simp only [List.length_append, List.length_cons, List.length_nil, List.length_replicate, sl_len, be_len, sha_len, hmac_len, ex1_len, ex2_len, stretch_len, zer8_len, tC_len, tag1_len, bnN_len, xkp_len, enc_len, chance_len, lbF_len, str2_len]; done) | (simp only [List.length_append, List.length_cons, List.length_nil, List.length_replicate, sl_len, be_len, sha_len, hmac_len, ex1_len, ex2_len, stretch_len, zer8_len, tC_len, tag1_len, bnN_len, xkp_len, enc_len, chance_len, lbF_len, str2_len]; omega)) (by first | omega | (simp only [List.length_append, List.length_cons, List.length_nil, List.length_replicate, sl_len, be_len, sha_len, hmac_len, ex1_len, ex2_len, stretch_len, zer8_len, tC_len, tag1_len, bnN_len, xkp_len, enc_len, chance_len, lbF_len, str2_len]; done) | (simp only [List.length_append, List.length_cons, List.length_nil, List.length_replicate, sl_len, be_len, sha_len, hmac_len, ex1_len, ex2_len, stretch_len, zer8_len, tC_len, tag1_len, bnN_len, xkp_len, enc_len, chance_len, lbF_len, str2_len]; omega)) (fun Mc19 hI => ?_) ((((((([]) ++ sl s at0 32) ++ [0, 20]) ++ [79, 80, 65, 81, 85, 69, 45, 68]) ++ [101, 114, 105, 118, 101, 75, 101, 121]) ++ [80, 97, 105, 114]) ++ [u8 (nI 0)]).length 0 M_15 (Nat.zero_add _) ⟨by rw [sl_zero]; exact (MS.ia p_18 (p := 401) (n := 400) (by decide)), Kp.rf⟩
  obtain ⟨hd19, hK19⟩ := hI
  have ms19 := MS.wi p_18 hK19 hd19.iq (by decide) (by decide) (by decide)
  have p_20 := (BG.kp (p_15_0) hK19 (by decide) (by decide))
  have p_21 : IA Mc19 401 400 ((((((([]) ++ sl s at0 32) ++ [0, 20]) ++ [79, 80, 65, 81, 85, 69, 45, 68]) ++ [101, 114, 105, 118, 101, 75, 101, 121]) ++ [80, 97, 105, 114]) ++ [u8 (nI 0)]) := (by have g := hd19; rw [sl_all] at g; exact g)
  refine T_aload_n (v := .ref 373) d_Mo_keyOf_126 rfl (Or.inr ⟨_, rfl⟩) ?_
  refine T_iconst (v := nI 0) d_Mo_keyOf_127 (by decide) ?_
  obtain ⟨v_22, hov_22, hwv_22, hsv_22, hiv_22⟩ := id p_20
  refine N_put (e := (moO (upd v_22 67 (nI 0)))) d_Mo_keyOf_128 (fp_Mo_7 _) hov_22 (Nat.le_of_ble_eq_true rfl) ⟨rfl, rfl⟩ rfl (fun M_23 h_24 s_25 => ?_)
  have p_26 := BG.sz hwv_22 hiv_22 h_24 (Ex.kp s_25)
  refine T_aload_n (v := .ref 373) d_Mo_keyOf_131 rfl (Or.inr ⟨_, rfl⟩) ?_
  refine T_ldc2 d_Mo_keyOf_132 kJ_Mo_283 ?_
  obtain ⟨v_28, hov_28, hwv_28, hsv_28, hiv_28⟩ := id p_26
  refine T_virtual (as := [.long 4928471164510358373]) (rest := []) (b := 373) d_Mo_keyOf_135 rfl (jw_Mo_letters.jo (by decide)) lm_Mo_104 ji_Mo_letters js_Mo_letters hov_28 rfl rfl rfl (Nat.le_of_ble_eq_true rfl) (by decide) (by decide) (b_Mo_letters p_26 (by first | omega | (simp only [List.length_append, List.length_cons, List.length_nil, List.length_replicate, sl_len, be_len, sha_len, hmac_len, ex1_len, ex2_len, stretch_len, zer8_len, tC_len, tag1_len, bnN_len, xkp_len, enc_len, chance_len, lbF_len, str2_len]; done) | (simp only [List.length_append, List.length_cons, List.length_nil, List.length_replicate, sl_len, be_len, sha_len, hmac_len, ex1_len, ex2_len, stretch_len, zer8_len, tC_len, tag1_len, bnN_len, xkp_len, enc_len, chance_len, lbF_len, str2_len]; omega))) (fun r M_27 hq => ?_)
  obtain ⟨rfl, p_27_0, kp_27⟩ := hq
  refine T_eq (pc' := 138) (L' := [(5, .int (nI (((((((([]) ++ sl s at0 32) ++ [0, 20]) ++ [79, 80, 65, 81, 85, 69, 45, 68]) ++ [101, 114, 105, 118, 101, 75, 101, 121]) ++ [80, 97, 105, 114]) ++ [u8 (nI 0)]).length))), (0, .ref 373), (1, .ref p), (2, .int (nI at0)), (3, .int (nI 32)), (4, .int (nI 0))]) (st' := []) (M' := M_27) rfl rfl rfl rfl ?_
  have p_29 : BG M_27 w ([] ++ [68, 101, 114, 105, 118, 101, 75, 101]) := (by have g := p_27_0; rw [show lts 4928471164510358373 = [68, 101, 114, 105, 118, 101, 75, 101] from by decide +kernel] at g; exact g)
  refine T_aload_n (v := .ref 373) d_Mo_keyOf_138 rfl (Or.inr ⟨_, rfl⟩) ?_
  refine T_ldc2 d_Mo_keyOf_139 kJ_Mo_285 ?_
  obtain ⟨v_31, hov_31, hwv_31, hsv_31, hiv_31⟩ := id p_29
  refine T_virtual (as := [.long 521039604082]) (rest := []) (b := 373) d_Mo_keyOf_142 rfl (jw_Mo_letters.jo (by decide)) lm_Mo_104 ji_Mo_letters js_Mo_letters hov_31 rfl rfl rfl (Nat.le_of_ble_eq_true rfl) (by decide) (by decide) (b_Mo_letters p_29 (by first | omega | (simp only [List.length_append, List.length_cons, List.length_nil, List.length_replicate, sl_len, be_len, sha_len, hmac_len, ex1_len, ex2_len, stretch_len, zer8_len, tC_len, tag1_len, bnN_len, xkp_len, enc_len, chance_len, lbF_len, str2_len]; done) | (simp only [List.length_append, List.length_cons, List.length_nil, List.length_replicate, sl_len, be_len, sha_len, hmac_len, ex1_len, ex2_len, stretch_len, zer8_len, tC_len, tag1_len, bnN_len, xkp_len, enc_len, chance_len, lbF_len, str2_len]; omega))) (fun r M_30 hq => ?_)
  obtain ⟨rfl, p_30_0, kp_30⟩ := hq
  refine T_eq (pc' := 145) (L' := [(5, .int (nI (((((((([]) ++ sl s at0 32) ++ [0, 20]) ++ [79, 80, 65, 81, 85, 69, 45, 68]) ++ [101, 114, 105, 118, 101, 75, 101, 121]) ++ [80, 97, 105, 114]) ++ [u8 (nI 0)]).length))), (0, .ref 373), (1, .ref p), (2, .int (nI at0)), (3, .int (nI 32)), (4, .int (nI 0))]) (st' := []) (M' := M_30) rfl rfl rfl rfl ?_
  have p_32 : BG M_30 w (([] ++ [68, 101, 114, 105, 118, 101, 75, 101]) ++ [121, 80, 97, 105, 114]) := (by have g := p_30_0; rw [show lts 521039604082 = [121, 80, 97, 105, 114] from by decide +kernel] at g; exact g)
  refine T_aload_n (v := .ref 373) d_Mo_keyOf_145 rfl (Or.inr ⟨_, rfl⟩) ?_
  obtain ⟨v_34, hov_34, hwv_34, hsv_34, hiv_34⟩ := id p_32
  refine T_virtual (as := []) (rest := []) (b := 373) d_Mo_keyOf_146 rfl (jw_Mo_letterC.jo (by decide)) lm_Mo_209 ji_Mo_letterC js_Mo_letterC hov_34 rfl rfl rfl (Nat.le_of_ble_eq_true rfl) (by decide) (by decide) (b_Mo_letterC p_32 (by first | omega | (simp only [List.length_append, List.length_cons, List.length_nil, List.length_replicate, sl_len, be_len, sha_len, hmac_len, ex1_len, ex2_len, stretch_len, zer8_len, tC_len, tag1_len, bnN_len, xkp_len, enc_len, chance_len, lbF_len, str2_len]; done) | (simp only [List.length_append, List.length_cons, List.length_nil, List.length_replicate, sl_len, be_len, sha_len, hmac_len, ex1_len, ex2_len, stretch_len, zer8_len, tC_len, tag1_len, bnN_len, xkp_len, enc_len, chance_len, lbF_len, str2_len]; omega))) (fun r M_33 hq => ?_)
  obtain ⟨rfl, p_33_0, kp_33⟩ := hq
  refine T_eq (pc' := 149) (L' := [(5, .int (nI (((((((([]) ++ sl s at0 32) ++ [0, 20]) ++ [79, 80, 65, 81, 85, 69, 45, 68]) ++ [101, 114, 105, 118, 101, 75, 101, 121]) ++ [80, 97, 105, 114]) ++ [u8 (nI 0)]).length))), (0, .ref 373), (1, .ref p), (2, .int (nI at0)), (3, .int (nI 32)), (4, .int (nI 0))]) (st' := []) (M' := M_33) rfl rfl rfl rfl ?_
  refine T_aload_n (v := .ref 373) d_Mo_keyOf_149 rfl (Or.inr ⟨_, rfl⟩) ?_
  refine T_aload_n (v := .ref 373) d_Mo_keyOf_150 rfl (Or.inr ⟨_, rfl⟩) ?_
  obtain ⟨v_35, hov_35, hwv_35, hsv_35, hiv_35⟩ := id p_33_0
  refine T_getfield (v := .ref 401) d_Mo_keyOf_151 fg_Mo_280 hov_35 rfl ?_
  refine T_iload d_Mo_keyOf_154 rfl ?_
  have p_36 := (MS.kp ((MS.kp ((MS.kp ((MS.kp (ms19) (Ex.kp s_25) (by decide))) kp_27 (by decide))) kp_30 (by decide))) kp_33 (by decide))
  have p_37 := (IA.kp ((IA.kp ((IA.kp ((IA.kp (p_21) (Ex.kp s_25) (by decide))) kp_27 (by decide))) kp_30 (by decide))) kp_33 (by decide))
  refine T_virtual (as := [.ref 401, .int (nI (((((((([]) ++ sl s at0 32) ++ [0, 20]) ++ [79, 80, 65, 81, 85, 69, 45, 68]) ++ [101, 114, 105, 118, 101, 75, 101, 121]) ++ [80, 97, 105, 114]) ++ [u8 (nI 0)]).length))]) (rest := []) (b := 373) d_Mo_keyOf_156 rfl (jw_Mo_stretch.jo (by decide)) lm_Mo_212 ji_Mo_stretch js_Mo_stretch hov_35 rfl rfl rfl (Nat.le_of_ble_eq_true rfl) (by decide) (by decide) (b_Mo_stretch (n := ((((((([]) ++ sl s at0 32) ++ [0, 20]) ++ [79, 80, 65, 81, 85, 69, 45, 68]) ++ [101, 114, 105, 118, 101, 75, 101, 121]) ++ [80, 97, 105, 114]) ++ [u8 (nI 0)]).length) p_36 p_33_0 p_37 (by first | omega | (simp only [List.length_append, List.length_cons, List.length_nil, List.length_replicate, sl_len, be_len, sha_len, hmac_len, ex1_len, ex2_len, stretch_len, zer8_len, tC_len, tag1_len, bnN_len, xkp_len, enc_len, chance_len, lbF_len, str2_len]; done) | (simp only [List.length_append, List.length_cons, List.length_nil, List.length_replicate, sl_len, be_len, sha_len, hmac_len, ex1_len, ex2_len, stretch_len, zer8_len, tC_len, tag1_len, bnN_len, xkp_len, enc_len, chance_len, lbF_len, str2_len]; omega)) (by decide) (by first | omega | (simp only [List.length_append, List.length_cons, List.length_nil, List.length_replicate, sl_len, be_len, sha_len, hmac_len, ex1_len, ex2_len, stretch_len, zer8_len, tC_len, tag1_len, bnN_len, xkp_len, enc_len, chance_len, lbF_len, str2_len]; done) | (simp only [List.length_append, List.length_cons, List.length_nil, List.length_replicate, sl_len, be_len, sha_len, hmac_len, ex1_len, ex2_len, stretch_len, zer8_len, tC_len, tag1_len, bnN_len, xkp_len, enc_len, chance_len, lbF_len, str2_len]; omega)) (by first | omega | (simp only [List.length_append, List.length_cons, List.length_nil, List.length_replicate, sl_len, be_len, sha_len, hmac_len, ex1_len, ex2_len, stretch_len, zer8_len, tC_len, tag1_len, bnN_len, xkp_len, enc_len, chance_len, lbF_len, str2_len]; done) | (simp only [List.length_append, List.length_cons, List.length_nil, List.length_replicate, sl_len, be_len, sha_len, hmac_len, ex1_len, ex2_len, stretch_len, zer8_len, tC_len, tag1_len, bnN_len, xkp_len, enc_len, chance_len, lbF_len, str2_len]; omega)) (by decide)) (fun r M_38 hq => ?_)
  obtain ⟨rfl, p_38_0, p_38_1, p_38_2, kp_38⟩ := hq
  refine T_eq (pc' := 159) (L' := [(5, .int (nI (((((((([]) ++ sl s at0 32) ++ [0, 20]) ++ [79, 80, 65, 81, 85, 69, 45, 68]) ++ [101, 114, 105, 118, 101, 75, 101, 121]) ++ [80, 97, 105, 114]) ++ [u8 (nI 0)]).length))), (0, .ref 373), (1, .ref p), (2, .int (nI at0)), (3, .int (nI 32)), (4, .int (nI 0))]) (st' := []) (M' := M_38) rfl rfl rfl rfl ?_
  refine T_aload_n (v := .ref 373) d_Mo_keyOf_159 rfl (Or.inr ⟨_, rfl⟩) ?_
  refine T_aload_n (v := .ref 373) d_Mo_keyOf_160 rfl (Or.inr ⟨_, rfl⟩) ?_
  obtain ⟨v_39, hov_39, hwv_39, hsv_39, hiv_39⟩ := id p_38_1
  refine T_getfield (v := .ref 383) d_Mo_keyOf_161 fg_Mo_55 hov_39 rfl ?_
  refine T_iconst (v := nI 0) d_Mo_keyOf_164 (by decide) ?_
  refine T_bipush (v := nI 64) d_Mo_keyOf_165 (by decide) ?_
  refine T_virtual (as := [.ref 383, .int (nI 0), .int (nI 64)]) (rest := []) (b := 373) d_Mo_keyOf_167 rfl (jw_Mo_scalarOf.jo (by decide)) lm_Mo_287 ji_Mo_scalarOf js_Mo_scalarOf hov_39 rfl rfl rfl (Nat.le_of_ble_eq_true rfl) (by decide) (by decide) (b_Mo_scalarOf (at0 := 0) (n := 64) p_38_0 p_38_1 p_38_2 (by first | omega | (simp only [List.length_append, List.length_cons, List.length_nil, List.length_replicate, sl_len, be_len, sha_len, hmac_len, ex1_len, ex2_len, stretch_len, zer8_len, tC_len, tag1_len, bnN_len, xkp_len, enc_len, chance_len, lbF_len, str2_len]; done) | (simp only [List.length_append, List.length_cons, List.length_nil, List.length_replicate, sl_len, be_len, sha_len, hmac_len, ex1_len, ex2_len, stretch_len, zer8_len, tC_len, tag1_len, bnN_len, xkp_len, enc_len, chance_len, lbF_len, str2_len]; omega)) (by decide) (by decide) (by decide)) (fun r M_40 hq => ?_)
  obtain ⟨rfl, p_40_0, p_40_1, kp_40⟩ := hq
  refine T_eq (pc' := 170) (L' := [(5, .int (nI (((((((([]) ++ sl s at0 32) ++ [0, 20]) ++ [79, 80, 65, 81, 85, 69, 45, 68]) ++ [101, 114, 105, 118, 101, 75, 101, 121]) ++ [80, 97, 105, 114]) ++ [u8 (nI 0)]).length))), (0, .ref 373), (1, .ref p), (2, .int (nI at0)), (3, .int (nI 32)), (4, .int (nI 0))]) (st' := []) (M' := M_40) rfl rfl rfl rfl ?_
  have p_41 : SC M_40 395 16 0 (keyN (sl s at0 32) W8) := (by have g := p_40_1; rw [sl64 (str2_len _ _), sl_all, show ([] ++ [68, 101, 114, 105, 118, 101, 75, 101]) ++ [121, 80, 97, 105, 114] = W5 from rfl, str2_1 _ _ (by decide), u8_0] at g; unfold keyN; rw [show be (nI (List.length W8)) 2 = [0, 20] from by decide]; simp only [List.append_assoc, List.cons_append, List.nil_append, W8] at g ⊢; exact g)
  have p_42 := (BG.kp (p_38_1) kp_40 (by decide) (by decide))
  exact T_vret d_Mo_keyOf_170 rfl (by decide) (by decide) ⟨rfl, p_40_0, p_42, p_41, (Kp.tr (Kp.tr (Kp.tr (Kp.tr (Kp.tr (Kp.ex (Kp.tr (Kp.tr (Kp.tr (Kp.tr (Kp.tr (Kp.tr (Kp.tr (Kp.rf : Kp [373, 374, 380, 382, 381, 383, 389, 401, 395, 397, 398] M M) (Kp.mono kp_1 (by decide))) (Kp.mono kp_3 (by decide))) (Kp.mono kp_6 (by decide))) (Kp.mono kp_9 (by decide))) (Kp.mono kp_12 (by decide))) (Kp.mono kp_15 (by decide))) (Kp.mono hK19 (by decide))) s_25 (by decide)) (Kp.mono kp_27 (by decide))) (Kp.mono kp_30 (by decide))) (Kp.mono kp_33 (by decide))) (Kp.mono kp_38 (by decide))) (Kp.mono kp_40 (by decide)))⟩
set_option maxHeartbeats 8000000 in
theorem ko_s1 (G : GX) {M0 : List va_E} {w : Nat → Int32} {l : List UInt8} {p at0 : Nat} (hb : BG M0 w l) (ha : 0 + l.length ≤ l.length) (hd : 0 + l.length ≤ 400)  {Q : Option Value → List va_E → Prop} (kk : ∀ M, IA M 401 400 (sl l 0 l.length) ∧ Kp [401] M0 M → TT G mi_Mo_keyOf 126 [(5, .int (nI (l.length))), (0, .ref 373), (1, .ref p), (2, .int (nI at0)), (3, .int (nI 32)), (4, .int (nI 1))] [] M 0 0 Q) : ∀ j k M, k + j = l.length → IA M 401 400 (sl l 0 k) ∧ Kp [401] M0 M → TT G mi_Mo_keyOf 99 [(6, .int (nI k)), (5, .int (nI (l.length))), (0, .ref 373), (1, .ref p), (2, .int (nI at0)), (3, .int (nI 32)), (4, .int (nI 1))] [] M 0 0 Q := by
  intro j
  induction j with
  | zero =>
    intro k M hk hI
    obtain rfl : l.length = k := by omega
    obtain ⟨hda, hK⟩ := id hI
    refine T_iload d_Mo_keyOf_99 rfl ?_
    refine T_iload d_Mo_keyOf_101 rfl ?_
    refine N_icmp_ge_t (a := l.length) (b := l.length) d_Mo_keyOf_103 (tgt := 126) rfl (by omega) (by omega) (by omega) ?_
    exact T_sub (fun q hq => List.mem_cons_of_mem _ hq) (kk M hI)
  | succ j ih =>
    intro k M hk hI
    obtain ⟨hda, hK⟩ := hI
    obtain ⟨vb, hob, hwb, hsb, hib⟩ := id hb
    have hsl := IA.le hib
    refine T_iload d_Mo_keyOf_99 rfl ?_
    refine T_iload d_Mo_keyOf_101 rfl ?_
    refine N_icmp_ge_f (a := l.length) (b := k) d_Mo_keyOf_103 (tgt := 126) rfl (by omega) (by omega) (by omega) ?_
    refine T_aload_n (v := .ref 373) d_Mo_keyOf_106 rfl (Or.inr ⟨_, rfl⟩) ?_
    have p_1 := (BG.kp (hb) hK (by decide) (by decide))
    obtain ⟨v_2, hov_2, hwv_2, hsv_2, hiv_2⟩ := id p_1
    refine T_getfield (v := .ref 401) d_Mo_keyOf_107 fg_Mo_280 hov_2 rfl ?_
    refine T_iload d_Mo_keyOf_110 rfl ?_
    refine T_aload_n (v := .ref 373) d_Mo_keyOf_112 rfl (Or.inr ⟨_, rfl⟩) ?_
    refine T_getfield (v := .ref 374) d_Mo_keyOf_113 fg_Mo_1 hov_2 rfl ?_
    refine T_iload d_Mo_keyOf_116 rfl ?_
    have p_3 := (IA.kp (hib) hK (by decide))
    obtain ⟨f_4, hf_5, hl_6, hv_7⟩ := id p_3
    refine N_iaload (k := k) (x := (bR (gd l k))) d_Mo_keyOf_118 hf_5 (by omega) (by decide) (hv_7 k (by first | omega | (simp only [List.length_append, List.length_cons, List.length_nil, List.length_replicate, sl_len, be_len, sha_len, hmac_len, ex1_len, ex2_len, stretch_len, zer8_len, tC_len, tag1_len, bnN_len, xkp_len]; omega))) ?_
    obtain ⟨f_8, hf_9, hl_10, hv_11⟩ := id hda
    refine N_iastore (k := k) d_Mo_keyOf_119 (by decide) hf_9 (by omega) (by decide) rfl (fun M_12 h_13 s_14 => ?_)
    refine N_iinc (k := k) (m := 1) (c := (k + 1)) (L' := [(6, .int (nI ((k + 1)))), (5, .int (nI (l.length))), (0, .ref 373), (1, .ref p), (2, .int (nI at0)), (3, .int (nI 32)), (4, .int (nI 1))]) d_Mo_keyOf_120 (by decide) rfl (by decide) rfl rfl ?_
    refine T_goto (tgt := 99) d_Mo_keyOf_123 rfl ?_
    exact ih (k + 1) M_12 (by omega) ⟨ia_c0 h_13 (gd_c (by omega)) (by omega) (by omega) hv_11, (Kp.ex (Kp.tr (Kp.rf : Kp [401] M0 M0) (Kp.mono hK (by decide))) s_14 (by decide))⟩
set_option maxHeartbeats 8000000 in
theorem b_Mo_keyOf1 {G : GX} {M : List va_E} {w : Nat → Int32} {p m at0 : Nat} {s : List UInt8} (hms : MS M) (h : BG M w []) (hk : IA M p m s) (ha : at0 + 32 ≤ s.length) (hm2 : m < 2 ^ 30) (hp : p ∉ keW) : CT G mi_Mo_keyOf [.ref 373, .ref p, .int (nI at0), .int (nI 32), .int (nI 1)] M (fun r M' => r = none ∧ MS M' ∧ BG M' w [] ∧ SC M' 395 16 0 (keyN (sl s at0 32) W4) ∧ Kp keW M M') := by
  refine CT.of (by decide) (Nat.le_of_ble_eq_true rfl) ?_
  show TT G mi_Mo_keyOf 0 [(0, .ref 373), (1, .ref p), (2, .int (nI at0)), (3, .int (nI 32)), (4, .int (nI 1))] [] M 0 0 _
  refine T_aload_n (v := .ref 373) d_Mo_keyOf_0 rfl (Or.inr ⟨_, rfl⟩) ?_
  refine T_aload_n (v := .ref p) d_Mo_keyOf_1 rfl (Or.inr ⟨_, rfl⟩) ?_
  refine T_iload_n d_Mo_keyOf_2 rfl ?_
  refine T_iload_n d_Mo_keyOf_3 rfl ?_
  obtain ⟨v_2, hov_2, hwv_2, hsv_2, hiv_2⟩ := id h
  refine T_virtual (as := [.ref p, .int (nI at0), .int (nI 32)]) (rest := []) (b := 373) d_Mo_keyOf_4 rfl (jw_Mo_bytes.jo (by decide)) lm_Mo_76 ji_Mo_bytes js_Mo_bytes hov_2 rfl rfl rfl (Nat.le_of_ble_eq_true rfl) (by decide) (by decide) (b_Mo_bytes (at0 := at0) (n := 32) h hk (by first | omega | (simp only [List.length_append, List.length_cons, List.length_nil, List.length_replicate, sl_len, be_len, sha_len, hmac_len, ex1_len, ex2_len, stretch_len, zer8_len, tC_len, tag1_len, bnN_len, xkp_len, enc_len, chance_len, lbF_len, str2_len]; done) | (simp only [List.length_append, List.length_cons, List.length_nil, List.length_replicate, sl_len, be_len, sha_len, hmac_len, ex1_len, ex2_len, stretch_len, zer8_len, tC_len, tag1_len, bnN_len, xkp_len, enc_len, chance_len, lbF_len, str2_len]; omega)) (by omega) (by first | omega | (simp only [List.length_append, List.length_cons, List.length_nil, List.length_replicate, sl_len, be_len, sha_len, hmac_len, ex1_len, ex2_len, stretch_len, zer8_len, tC_len, tag1_len, bnN_len, xkp_len, enc_len, chance_len, lbF_len, str2_len]; done) | (simp only [List.length_append, List.length_cons, List.length_nil, List.length_replicate, sl_len, be_len, sha_len, hmac_len, ex1_len, ex2_len, stretch_len, zer8_len, tC_len, tag1_len, bnN_len, xkp_len, enc_len, chance_len, lbF_len, str2_len]; omega)) (nmne hp (by decide)) (nmne hp (by decide))) (fun r M_1 hq => ?_)
  obtain ⟨rfl, p_1_0, kp_1⟩ := hq
  refine T_eq (pc' := 7) (L' := [(0, .ref 373), (1, .ref p), (2, .int (nI at0)), (3, .int (nI 32)), (4, .int (nI 1))]) (st' := []) (M' := M_1) rfl rfl rfl rfl ?_
  refine T_iload d_Mo_keyOf_7 rfl ?_
  refine N_if_ne_t (b := 1) d_Mo_keyOf_9 (tgt := 43) rfl (by omega) (by omega) ?_
  refine T_aload_n (v := .ref 373) d_Mo_keyOf_43 rfl (Or.inr ⟨_, rfl⟩) ?_
  refine T_bipush (v := nI 33) d_Mo_keyOf_44 (by decide) ?_
  refine T_iconst (v := nI 2) d_Mo_keyOf_46 (by decide) ?_
  obtain ⟨v_4, hov_4, hwv_4, hsv_4, hiv_4⟩ := id p_1_0
  refine T_virtual (as := [.int (nI 33), .int (nI 2)]) (rest := []) (b := 373) d_Mo_keyOf_47 rfl (jw_Mo_number.jo (by decide)) lm_Mo_120 ji_Mo_number js_Mo_number hov_4 rfl rfl rfl (Nat.le_of_ble_eq_true rfl) (by decide) (by decide) (b_Mo_number (v := (nI 33)) (c := 2) p_1_0 (by decide) (by first | omega | (simp only [List.length_append, List.length_cons, List.length_nil, List.length_replicate, sl_len, be_len, sha_len, hmac_len, ex1_len, ex2_len, stretch_len, zer8_len, tC_len, tag1_len, bnN_len, xkp_len, enc_len, chance_len, lbF_len, str2_len]; done) | (simp only [List.length_append, List.length_cons, List.length_nil, List.length_replicate, sl_len, be_len, sha_len, hmac_len, ex1_len, ex2_len, stretch_len, zer8_len, tC_len, tag1_len, bnN_len, xkp_len, enc_len, chance_len, lbF_len, str2_len]; omega))) (fun r M_3 hq => ?_)
  obtain ⟨rfl, p_3_0, kp_3⟩ := hq
  refine T_eq (pc' := 50) (L' := [(0, .ref 373), (1, .ref p), (2, .int (nI at0)), (3, .int (nI 32)), (4, .int (nI 1))]) (st' := []) (M' := M_3) rfl rfl rfl rfl ?_
  have p_5 : BG M_3 w ((([]) ++ sl s at0 32) ++ [0, 33]) := (by have g := p_3_0; rw [show bnN (nI 33) 2 = [0, 33] from by decide] at g; exact g)
  refine T_aload_n (v := .ref 373) d_Mo_keyOf_50 rfl (Or.inr ⟨_, rfl⟩) ?_
  refine T_ldc2 d_Mo_keyOf_51 kJ_Mo_266 ?_
  obtain ⟨v_7, hov_7, hwv_7, hsv_7, hiv_7⟩ := id p_5
  refine T_virtual (as := [.long 5715139744711912772]) (rest := []) (b := 373) d_Mo_keyOf_54 rfl (jw_Mo_letters.jo (by decide)) lm_Mo_104 ji_Mo_letters js_Mo_letters hov_7 rfl rfl rfl (Nat.le_of_ble_eq_true rfl) (by decide) (by decide) (b_Mo_letters p_5 (by first | omega | (simp only [List.length_append, List.length_cons, List.length_nil, List.length_replicate, sl_len, be_len, sha_len, hmac_len, ex1_len, ex2_len, stretch_len, zer8_len, tC_len, tag1_len, bnN_len, xkp_len, enc_len, chance_len, lbF_len, str2_len]; done) | (simp only [List.length_append, List.length_cons, List.length_nil, List.length_replicate, sl_len, be_len, sha_len, hmac_len, ex1_len, ex2_len, stretch_len, zer8_len, tC_len, tag1_len, bnN_len, xkp_len, enc_len, chance_len, lbF_len, str2_len]; omega))) (fun r M_6 hq => ?_)
  obtain ⟨rfl, p_6_0, kp_6⟩ := hq
  refine T_eq (pc' := 57) (L' := [(0, .ref 373), (1, .ref p), (2, .int (nI at0)), (3, .int (nI 32)), (4, .int (nI 1))]) (st' := []) (M' := M_6) rfl rfl rfl rfl ?_
  have p_8 : BG M_6 w (((([]) ++ sl s at0 32) ++ [0, 33]) ++ [79, 80, 65, 81, 85, 69, 45, 68]) := (by have g := p_6_0; rw [show lts 5715139744711912772 = [79, 80, 65, 81, 85, 69, 45, 68] from by decide +kernel] at g; exact g)
  refine T_aload_n (v := .ref 373) d_Mo_keyOf_57 rfl (Or.inr ⟨_, rfl⟩) ?_
  refine T_ldc2 d_Mo_keyOf_58 kJ_Mo_272 ?_
  obtain ⟨v_10, hov_10, hwv_10, hsv_10, hiv_10⟩ := id p_8
  refine T_virtual (as := [.long 7310021102401775974]) (rest := []) (b := 373) d_Mo_keyOf_61 rfl (jw_Mo_letters.jo (by decide)) lm_Mo_104 ji_Mo_letters js_Mo_letters hov_10 rfl rfl rfl (Nat.le_of_ble_eq_true rfl) (by decide) (by decide) (b_Mo_letters p_8 (by first | omega | (simp only [List.length_append, List.length_cons, List.length_nil, List.length_replicate, sl_len, be_len, sha_len, hmac_len, ex1_len, ex2_len, stretch_len, zer8_len, tC_len, tag1_len, bnN_len, xkp_len, enc_len, chance_len, lbF_len, str2_len]; done) | (simp only [List.length_append, List.length_cons, List.length_nil, List.length_replicate, sl_len, be_len, sha_len, hmac_len, ex1_len, ex2_len, stretch_len, zer8_len, tC_len, tag1_len, bnN_len, xkp_len, enc_len, chance_len, lbF_len, str2_len]; omega))) (fun r M_9 hq => ?_)
  obtain ⟨rfl, p_9_0, kp_9⟩ := hq
  refine T_eq (pc' := 64) (L' := [(0, .ref 373), (1, .ref p), (2, .int (nI at0)), (3, .int (nI 32)), (4, .int (nI 1))]) (st' := []) (M' := M_9) rfl rfl rfl rfl ?_
  have p_11 : BG M_9 w ((((([]) ++ sl s at0 32) ++ [0, 33]) ++ [79, 80, 65, 81, 85, 69, 45, 68]) ++ [101, 114, 105, 118, 101, 68, 105, 102]) := (by have g := p_9_0; rw [show lts 7310021102401775974 = [101, 114, 105, 118, 101, 68, 105, 102] from by decide +kernel] at g; exact g)
  refine T_aload_n (v := .ref 373) d_Mo_keyOf_64 rfl (Or.inr ⟨_, rfl⟩) ?_
  refine T_ldc2 d_Mo_keyOf_65 kJ_Mo_274 ?_
  obtain ⟨v_13, hov_13, hwv_13, hsv_13, hiv_13⟩ := id p_11
  refine T_virtual (as := [.long 7379540826036923501]) (rest := []) (b := 373) d_Mo_keyOf_68 rfl (jw_Mo_letters.jo (by decide)) lm_Mo_104 ji_Mo_letters js_Mo_letters hov_13 rfl rfl rfl (Nat.le_of_ble_eq_true rfl) (by decide) (by decide) (b_Mo_letters p_11 (by first | omega | (simp only [List.length_append, List.length_cons, List.length_nil, List.length_replicate, sl_len, be_len, sha_len, hmac_len, ex1_len, ex2_len, stretch_len, zer8_len, tC_len, tag1_len, bnN_len, xkp_len, enc_len, chance_len, lbF_len, str2_len]; done) | (simp only [List.length_append, List.length_cons, List.length_nil, List.length_replicate, sl_len, be_len, sha_len, hmac_len, ex1_len, ex2_len, stretch_len, zer8_len, tC_len, tag1_len, bnN_len, xkp_len, enc_len, chance_len, lbF_len, str2_len]; omega))) (fun r M_12 hq => ?_)
  obtain ⟨rfl, p_12_0, kp_12⟩ := hq
  refine T_eq (pc' := 71) (L' := [(0, .ref 373), (1, .ref p), (2, .int (nI at0)), (3, .int (nI 32)), (4, .int (nI 1))]) (st' := []) (M' := M_12) rfl rfl rfl rfl ?_
  have p_14 : BG M_12 w (((((([]) ++ sl s at0 32) ++ [0, 33]) ++ [79, 80, 65, 81, 85, 69, 45, 68]) ++ [101, 114, 105, 118, 101, 68, 105, 102]) ++ [102, 105, 101, 72, 101, 108, 108, 109]) := (by have g := p_12_0; rw [show lts 7379540826036923501 = [102, 105, 101, 72, 101, 108, 108, 109] from by decide +kernel] at g; exact g)
  refine T_aload_n (v := .ref 373) d_Mo_keyOf_71 rfl (Or.inr ⟨_, rfl⟩) ?_
  refine T_ldc2 d_Mo_keyOf_72 kJ_Mo_276 ?_
  obtain ⟨v_16, hov_16, hwv_16, hsv_16, hiv_16⟩ := id p_14
  refine T_virtual (as := [.long 7020631768316273001]) (rest := []) (b := 373) d_Mo_keyOf_75 rfl (jw_Mo_letters.jo (by decide)) lm_Mo_104 ji_Mo_letters js_Mo_letters hov_16 rfl rfl rfl (Nat.le_of_ble_eq_true rfl) (by decide) (by decide) (b_Mo_letters p_14 (by first | omega | (simp only [List.length_append, List.length_cons, List.length_nil, List.length_replicate, sl_len, be_len, sha_len, hmac_len, ex1_len, ex2_len, stretch_len, zer8_len, tC_len, tag1_len, bnN_len, xkp_len, enc_len, chance_len, lbF_len, str2_len]; done) | (simp only [List.length_append, List.length_cons, List.length_nil, List.length_replicate, sl_len, be_len, sha_len, hmac_len, ex1_len, ex2_len, stretch_len, zer8_len, tC_len, tag1_len, bnN_len, xkp_len, enc_len, chance_len, lbF_len, str2_len]; omega))) (fun r M_15 hq => ?_)
  obtain ⟨rfl, p_15_0, kp_15⟩ := hq
  refine T_eq (pc' := 78) (L' := [(0, .ref 373), (1, .ref p), (2, .int (nI at0)), (3, .int (nI 32)), (4, .int (nI 1))]) (st' := []) (M' := M_15) rfl rfl rfl rfl ?_
  have p_17 : BG M_15 w ((((((([]) ++ sl s at0 32) ++ [0, 33]) ++ [79, 80, 65, 81, 85, 69, 45, 68]) ++ [101, 114, 105, 118, 101, 68, 105, 102]) ++ [102, 105, 101, 72, 101, 108, 108, 109]) ++ [97, 110, 75, 101, 121, 80, 97, 105]) := (by have g := p_15_0; rw [show lts 7020631768316273001 = [97, 110, 75, 101, 121, 80, 97, 105] from by decide +kernel] at g; exact g)
  refine T_aload_n (v := .ref 373) d_Mo_keyOf_78 rfl (Or.inr ⟨_, rfl⟩) ?_
  refine T_ldc2 d_Mo_keyOf_79 kJ_Mo_278 ?_
  obtain ⟨v_19, hov_19, hwv_19, hsv_19, hiv_19⟩ := id p_17
  refine T_virtual (as := [.long 114]) (rest := []) (b := 373) d_Mo_keyOf_82 rfl (jw_Mo_letters.jo (by decide)) lm_Mo_104 ji_Mo_letters js_Mo_letters hov_19 rfl rfl rfl (Nat.le_of_ble_eq_true rfl) (by decide) (by decide) (b_Mo_letters p_17 (by first | omega | (simp only [List.length_append, List.length_cons, List.length_nil, List.length_replicate, sl_len, be_len, sha_len, hmac_len, ex1_len, ex2_len, stretch_len, zer8_len, tC_len, tag1_len, bnN_len, xkp_len, enc_len, chance_len, lbF_len, str2_len]; done) | (simp only [List.length_append, List.length_cons, List.length_nil, List.length_replicate, sl_len, be_len, sha_len, hmac_len, ex1_len, ex2_len, stretch_len, zer8_len, tC_len, tag1_len, bnN_len, xkp_len, enc_len, chance_len, lbF_len, str2_len]; omega))) (fun r M_18 hq => ?_)
  obtain ⟨rfl, p_18_0, kp_18⟩ := hq
  refine T_eq (pc' := 85) (L' := [(0, .ref 373), (1, .ref p), (2, .int (nI at0)), (3, .int (nI 32)), (4, .int (nI 1))]) (st' := []) (M' := M_18) rfl rfl rfl rfl ?_
  have p_20 : BG M_18 w (((((((([]) ++ sl s at0 32) ++ [0, 33]) ++ [79, 80, 65, 81, 85, 69, 45, 68]) ++ [101, 114, 105, 118, 101, 68, 105, 102]) ++ [102, 105, 101, 72, 101, 108, 108, 109]) ++ [97, 110, 75, 101, 121, 80, 97, 105]) ++ [114]) := (by have g := p_18_0; rw [show lts 114 = [114] from by decide +kernel] at g; exact g)
  refine T_aload_n (v := .ref 373) d_Mo_keyOf_85 rfl (Or.inr ⟨_, rfl⟩) ?_
  refine T_iconst (v := nI 0) d_Mo_keyOf_86 (by decide) ?_
  obtain ⟨v_22, hov_22, hwv_22, hsv_22, hiv_22⟩ := id p_20
  refine T_virtual (as := [.int (nI 0)]) (rest := []) (b := 373) d_Mo_keyOf_87 rfl (jw_Mo_one.jo (by decide)) lm_Mo_11 ji_Mo_one js_Mo_one hov_22 rfl rfl rfl (Nat.le_of_ble_eq_true rfl) (by decide) (by decide) (b_Mo_one (x := (nI 0)) p_20 (by first | omega | (simp only [List.length_append, List.length_cons, List.length_nil, List.length_replicate, sl_len, be_len, sha_len, hmac_len, ex1_len, ex2_len, stretch_len, zer8_len, tC_len, tag1_len, bnN_len, xkp_len, enc_len, chance_len, lbF_len, str2_len]; done) | (simp only [List.length_append, List.length_cons, List.length_nil, List.length_replicate, sl_len, be_len, sha_len, hmac_len, ex1_len, ex2_len, stretch_len, zer8_len, tC_len, tag1_len, bnN_len, xkp_len, enc_len, chance_len, lbF_len, str2_len]; omega))) (fun r M_21 hq => ?_)
  obtain ⟨rfl, p_21_0, kp_21⟩ := hq
  refine T_eq (pc' := 90) (L' := [(0, .ref 373), (1, .ref p), (2, .int (nI at0)), (3, .int (nI 32)), (4, .int (nI 1))]) (st' := []) (M' := M_21) rfl rfl rfl rfl ?_
  refine T_aload_n (v := .ref 373) d_Mo_keyOf_90 rfl (Or.inr ⟨_, rfl⟩) ?_
  obtain ⟨v_23, hov_23, hwv_23, hsv_23, hiv_23⟩ := id p_21_0
  refine N_getI (x := (v_23 67)) (y := (nI (((((((((([]) ++ sl s at0 32) ++ [0, 33]) ++ [79, 80, 65, 81, 85, 69, 45, 68]) ++ [101, 114, 105, 118, 101, 68, 105, 102]) ++ [102, 105, 101, 72, 101, 108, 108, 109]) ++ [97, 110, 75, 101, 121, 80, 97, 105]) ++ [114]) ++ [u8 (nI 0)]).length))) d_Mo_keyOf_91 fg_Mo_7 hov_23 rfl hsv_23 ?_
  refine T_istore (L' := [(5, .int (nI (((((((((([]) ++ sl s at0 32) ++ [0, 33]) ++ [79, 80, 65, 81, 85, 69, 45, 68]) ++ [101, 114, 105, 118, 101, 68, 105, 102]) ++ [102, 105, 101, 72, 101, 108, 108, 109]) ++ [97, 110, 75, 101, 121, 80, 97, 105]) ++ [114]) ++ [u8 (nI 0)]).length))), (0, .ref 373), (1, .ref p), (2, .int (nI at0)), (3, .int (nI 32)), (4, .int (nI 1))]) d_Mo_keyOf_94 (by decide) rfl ?_
  refine T_iconst (v := nI 0) d_Mo_keyOf_96 (by decide) ?_
  refine T_istore (L' := [(6, .int (nI 0)), (5, .int (nI (((((((((([]) ++ sl s at0 32) ++ [0, 33]) ++ [79, 80, 65, 81, 85, 69, 45, 68]) ++ [101, 114, 105, 118, 101, 68, 105, 102]) ++ [102, 105, 101, 72, 101, 108, 108, 109]) ++ [97, 110, 75, 101, 121, 80, 97, 105]) ++ [114]) ++ [u8 (nI 0)]).length))), (0, .ref 373), (1, .ref p), (2, .int (nI at0)), (3, .int (nI 32)), (4, .int (nI 1))]) d_Mo_keyOf_97 (by decide) rfl ?_
  have p_24 := (MS.kp ((MS.kp ((MS.kp ((MS.kp ((MS.kp ((MS.kp ((MS.kp ((MS.kp (hms) kp_1 (by decide))) kp_3 (by decide))) kp_6 (by decide))) kp_9 (by decide))) kp_12 (by decide))) kp_15 (by decide))) kp_18 (by decide))) kp_21 (by decide))
  refine ko_s1 G p_21_0 (by first | omega | (simp only [List.length_append, List.length_cons, List.length_nil, List.length_replicate, sl_len, be_len, sha_len, hmac_len, ex1_len, ex2_len, stretch_len, zer8_len, tC_len, tag1_len, bnN_len, xkp_len, enc_len, chance_len, lbF_len, str2_len]; done) | (simp only [List.length_append, List.length_cons, List.length_nil, List.length_replicate, sl_len, be_len, sha_len, hmac_len, ex1_len, ex2_len, stretch_len, zer8_len, tC_len, tag1_len, bnN_len, xkp_len, enc_len, chance_len, lbF_len, str2_len]; omega)) (by first | omega | (simp only [List.length_append, List.length_cons, List.length_nil, List.length_replicate, sl_len, be_len, sha_len, hmac_len, ex1_len, ex2_len, stretch_len, zer8_len, tC_len, tag1_len, bnN_len, xkp_len, enc_len, chance_len, lbF_len, str2_len]; done) | (simp only [List.length_append, List.length_cons, List.length_nil, List.length_replicate, sl_len, be_len, sha_len, hmac_len, ex1_len, ex2_len, stretch_len, zer8_len, tC_len, tag1_len, bnN_len, xkp_len, enc_len, chance_len, lbF_len, str2_len]; omega)) (fun Mc25 hI => ?_) ((((((((([]) ++ sl s at0 32) ++ [0, 33]) ++ [79, 80, 65, 81, 85, 69, 45, 68]) ++ [101, 114, 105, 118, 101, 68, 105, 102]) ++ [102, 105, 101, 72, 101, 108, 108, 109]) ++ [97, 110, 75, 101, 121, 80, 97, 105]) ++ [114]) ++ [u8 (nI 0)]).length 0 M_21 (Nat.zero_add _) ⟨by rw [sl_zero]; exact (MS.ia p_24 (p := 401) (n := 400) (by decide)), Kp.rf⟩
  obtain ⟨hd25, hK25⟩ := hI
  have ms25 := MS.wi p_24 hK25 hd25.iq (by decide) (by decide) (by decide)
  have p_26 := (BG.kp (p_21_0) hK25 (by decide) (by decide))
  have p_27 : IA Mc25 401 400 ((((((((([]) ++ sl s at0 32) ++ [0, 33]) ++ [79, 80, 65, 81, 85, 69, 45, 68]) ++ [101, 114, 105, 118, 101, 68, 105, 102]) ++ [102, 105, 101, 72, 101, 108, 108, 109]) ++ [97, 110, 75, 101, 121, 80, 97, 105]) ++ [114]) ++ [u8 (nI 0)]) := (by have g := hd25; rw [sl_all] at g; exact g)
  refine T_aload_n (v := .ref 373) d_Mo_keyOf_126 rfl (Or.inr ⟨_, rfl⟩) ?_
  refine T_iconst (v := nI 0) d_Mo_keyOf_127 (by decide) ?_
  obtain ⟨v_28, hov_28, hwv_28, hsv_28, hiv_28⟩ := id p_26
  refine N_put (e := (moO (upd v_28 67 (nI 0)))) d_Mo_keyOf_128 (fp_Mo_7 _) hov_28 (Nat.le_of_ble_eq_true rfl) ⟨rfl, rfl⟩ rfl (fun M_29 h_30 s_31 => ?_)
  have p_32 := BG.sz hwv_28 hiv_28 h_30 (Ex.kp s_31)
  refine T_aload_n (v := .ref 373) d_Mo_keyOf_131 rfl (Or.inr ⟨_, rfl⟩) ?_
  refine T_ldc2 d_Mo_keyOf_132 kJ_Mo_283 ?_
  obtain ⟨v_34, hov_34, hwv_34, hsv_34, hiv_34⟩ := id p_32
  refine T_virtual (as := [.long 4928471164510358373]) (rest := []) (b := 373) d_Mo_keyOf_135 rfl (jw_Mo_letters.jo (by decide)) lm_Mo_104 ji_Mo_letters js_Mo_letters hov_34 rfl rfl rfl (Nat.le_of_ble_eq_true rfl) (by decide) (by decide) (b_Mo_letters p_32 (by first | omega | (simp only [List.length_append, List.length_cons, List.length_nil, List.length_replicate, sl_len, be_len, sha_len, hmac_len, ex1_len, ex2_len, stretch_len, zer8_len, tC_len, tag1_len, bnN_len, xkp_len, enc_len, chance_len, lbF_len, str2_len]; done) | (simp only [List.length_append, List.length_cons, List.length_nil, List.length_replicate, sl_len, be_len, sha_len, hmac_len, ex1_len, ex2_len, stretch_len, zer8_len, tC_len, tag1_len, bnN_len, xkp_len, enc_len, chance_len, lbF_len, str2_len]; omega))) (fun r M_33 hq => ?_)
  obtain ⟨rfl, p_33_0, kp_33⟩ := hq
  refine T_eq (pc' := 138) (L' := [(5, .int (nI (((((((((([]) ++ sl s at0 32) ++ [0, 33]) ++ [79, 80, 65, 81, 85, 69, 45, 68]) ++ [101, 114, 105, 118, 101, 68, 105, 102]) ++ [102, 105, 101, 72, 101, 108, 108, 109]) ++ [97, 110, 75, 101, 121, 80, 97, 105]) ++ [114]) ++ [u8 (nI 0)]).length))), (0, .ref 373), (1, .ref p), (2, .int (nI at0)), (3, .int (nI 32)), (4, .int (nI 1))]) (st' := []) (M' := M_33) rfl rfl rfl rfl ?_
  have p_35 : BG M_33 w ([] ++ [68, 101, 114, 105, 118, 101, 75, 101]) := (by have g := p_33_0; rw [show lts 4928471164510358373 = [68, 101, 114, 105, 118, 101, 75, 101] from by decide +kernel] at g; exact g)
  refine T_aload_n (v := .ref 373) d_Mo_keyOf_138 rfl (Or.inr ⟨_, rfl⟩) ?_
  refine T_ldc2 d_Mo_keyOf_139 kJ_Mo_285 ?_
  obtain ⟨v_37, hov_37, hwv_37, hsv_37, hiv_37⟩ := id p_35
  refine T_virtual (as := [.long 521039604082]) (rest := []) (b := 373) d_Mo_keyOf_142 rfl (jw_Mo_letters.jo (by decide)) lm_Mo_104 ji_Mo_letters js_Mo_letters hov_37 rfl rfl rfl (Nat.le_of_ble_eq_true rfl) (by decide) (by decide) (b_Mo_letters p_35 (by first | omega | (simp only [List.length_append, List.length_cons, List.length_nil, List.length_replicate, sl_len, be_len, sha_len, hmac_len, ex1_len, ex2_len, stretch_len, zer8_len, tC_len, tag1_len, bnN_len, xkp_len, enc_len, chance_len, lbF_len, str2_len]; done) | (simp only [List.length_append, List.length_cons, List.length_nil, List.length_replicate, sl_len, be_len, sha_len, hmac_len, ex1_len, ex2_len, stretch_len, zer8_len, tC_len, tag1_len, bnN_len, xkp_len, enc_len, chance_len, lbF_len, str2_len]; omega))) (fun r M_36 hq => ?_)
  obtain ⟨rfl, p_36_0, kp_36⟩ := hq
  refine T_eq (pc' := 145) (L' := [(5, .int (nI (((((((((([]) ++ sl s at0 32) ++ [0, 33]) ++ [79, 80, 65, 81, 85, 69, 45, 68]) ++ [101, 114, 105, 118, 101, 68, 105, 102]) ++ [102, 105, 101, 72, 101, 108, 108, 109]) ++ [97, 110, 75, 101, 121, 80, 97, 105]) ++ [114]) ++ [u8 (nI 0)]).length))), (0, .ref 373), (1, .ref p), (2, .int (nI at0)), (3, .int (nI 32)), (4, .int (nI 1))]) (st' := []) (M' := M_36) rfl rfl rfl rfl ?_
  have p_38 : BG M_36 w (([] ++ [68, 101, 114, 105, 118, 101, 75, 101]) ++ [121, 80, 97, 105, 114]) := (by have g := p_36_0; rw [show lts 521039604082 = [121, 80, 97, 105, 114] from by decide +kernel] at g; exact g)
  refine T_aload_n (v := .ref 373) d_Mo_keyOf_145 rfl (Or.inr ⟨_, rfl⟩) ?_
  obtain ⟨v_40, hov_40, hwv_40, hsv_40, hiv_40⟩ := id p_38
  refine T_virtual (as := []) (rest := []) (b := 373) d_Mo_keyOf_146 rfl (jw_Mo_letterC.jo (by decide)) lm_Mo_209 ji_Mo_letterC js_Mo_letterC hov_40 rfl rfl rfl (Nat.le_of_ble_eq_true rfl) (by decide) (by decide) (b_Mo_letterC p_38 (by first | omega | (simp only [List.length_append, List.length_cons, List.length_nil, List.length_replicate, sl_len, be_len, sha_len, hmac_len, ex1_len, ex2_len, stretch_len, zer8_len, tC_len, tag1_len, bnN_len, xkp_len, enc_len, chance_len, lbF_len, str2_len]; done) | (simp only [List.length_append, List.length_cons, List.length_nil, List.length_replicate, sl_len, be_len, sha_len, hmac_len, ex1_len, ex2_len, stretch_len, zer8_len, tC_len, tag1_len, bnN_len, xkp_len, enc_len, chance_len, lbF_len, str2_len]; omega))) (fun r M_39 hq => ?_)
  obtain ⟨rfl, p_39_0, kp_39⟩ := hq
  refine T_eq (pc' := 149) (L' := [(5, .int (nI (((((((((([]) ++ sl s at0 32) ++ [0, 33]) ++ [79, 80, 65, 81, 85, 69, 45, 68]) ++ [101, 114, 105, 118, 101, 68, 105, 102]) ++ [102, 105, 101, 72, 101, 108, 108, 109]) ++ [97, 110, 75, 101, 121, 80, 97, 105]) ++ [114]) ++ [u8 (nI 0)]).length))), (0, .ref 373), (1, .ref p), (2, .int (nI at0)), (3, .int (nI 32)), (4, .int (nI 1))]) (st' := []) (M' := M_39) rfl rfl rfl rfl ?_
  refine T_aload_n (v := .ref 373) d_Mo_keyOf_149 rfl (Or.inr ⟨_, rfl⟩) ?_
  refine T_aload_n (v := .ref 373) d_Mo_keyOf_150 rfl (Or.inr ⟨_, rfl⟩) ?_
  obtain ⟨v_41, hov_41, hwv_41, hsv_41, hiv_41⟩ := id p_39_0
  refine T_getfield (v := .ref 401) d_Mo_keyOf_151 fg_Mo_280 hov_41 rfl ?_
  refine T_iload d_Mo_keyOf_154 rfl ?_
  have p_42 := (MS.kp ((MS.kp ((MS.kp ((MS.kp (ms25) (Ex.kp s_31) (by decide))) kp_33 (by decide))) kp_36 (by decide))) kp_39 (by decide))
  have p_43 := (IA.kp ((IA.kp ((IA.kp ((IA.kp (p_27) (Ex.kp s_31) (by decide))) kp_33 (by decide))) kp_36 (by decide))) kp_39 (by decide))
  refine T_virtual (as := [.ref 401, .int (nI (((((((((([]) ++ sl s at0 32) ++ [0, 33]) ++ [79, 80, 65, 81, 85, 69, 45, 68]) ++ [101, 114, 105, 118, 101, 68, 105, 102]) ++ [102, 105, 101, 72, 101, 108, 108, 109]) ++ [97, 110, 75, 101, 121, 80, 97, 105]) ++ [114]) ++ [u8 (nI 0)]).length))]) (rest := []) (b := 373) d_Mo_keyOf_156 rfl (jw_Mo_stretch.jo (by decide)) lm_Mo_212 ji_Mo_stretch js_Mo_stretch hov_41 rfl rfl rfl (Nat.le_of_ble_eq_true rfl) (by decide) (by decide) (b_Mo_stretch (n := ((((((((([]) ++ sl s at0 32) ++ [0, 33]) ++ [79, 80, 65, 81, 85, 69, 45, 68]) ++ [101, 114, 105, 118, 101, 68, 105, 102]) ++ [102, 105, 101, 72, 101, 108, 108, 109]) ++ [97, 110, 75, 101, 121, 80, 97, 105]) ++ [114]) ++ [u8 (nI 0)]).length) p_42 p_39_0 p_43 (by first | omega | (simp only [List.length_append, List.length_cons, List.length_nil, List.length_replicate, sl_len, be_len, sha_len, hmac_len, ex1_len, ex2_len, stretch_len, zer8_len, tC_len, tag1_len, bnN_len, xkp_len, enc_len, chance_len, lbF_len, str2_len]; done) | (simp only [List.length_append, List.length_cons, List.length_nil, List.length_replicate, sl_len, be_len, sha_len, hmac_len, ex1_len, ex2_len, stretch_len, zer8_len, tC_len, tag1_len, bnN_len, xkp_len, enc_len, chance_len, lbF_len, str2_len]; omega)) (by decide) (by first | omega | (simp only [List.length_append, List.length_cons, List.length_nil, List.length_replicate, sl_len, be_len, sha_len, hmac_len, ex1_len, ex2_len, stretch_len, zer8_len, tC_len, tag1_len, bnN_len, xkp_len, enc_len, chance_len, lbF_len, str2_len]; done) | (simp only [List.length_append, List.length_cons, List.length_nil, List.length_replicate, sl_len, be_len, sha_len, hmac_len, ex1_len, ex2_len, stretch_len, zer8_len, tC_len, tag1_len, bnN_len, xkp_len, enc_len, chance_len, lbF_len, str2_len]; omega)) (by first | omega | (simp only [List.length_append, List.length_cons, List.length_nil, List.length_replicate, sl_len, be_len, sha_len, hmac_len, ex1_len, ex2_len, stretch_len, zer8_len, tC_len, tag1_len, bnN_len, xkp_len, enc_len, chance_len, lbF_len, str2_len]; done) | (simp only [List.length_append, List.length_cons, List.length_nil, List.length_replicate, sl_len, be_len, sha_len, hmac_len, ex1_len, ex2_len, stretch_len, zer8_len, tC_len, tag1_len, bnN_len, xkp_len, enc_len, chance_len, lbF_len, str2_len]; omega)) (by decide)) (fun r M_44 hq => ?_)
  obtain ⟨rfl, p_44_0, p_44_1, p_44_2, kp_44⟩ := hq
  refine T_eq (pc' := 159) (L' := [(5, .int (nI (((((((((([]) ++ sl s at0 32) ++ [0, 33]) ++ [79, 80, 65, 81, 85, 69, 45, 68]) ++ [101, 114, 105, 118, 101, 68, 105, 102]) ++ [102, 105, 101, 72, 101, 108, 108, 109]) ++ [97, 110, 75, 101, 121, 80, 97, 105]) ++ [114]) ++ [u8 (nI 0)]).length))), (0, .ref 373), (1, .ref p), (2, .int (nI at0)), (3, .int (nI 32)), (4, .int (nI 1))]) (st' := []) (M' := M_44) rfl rfl rfl rfl ?_
  refine T_aload_n (v := .ref 373) d_Mo_keyOf_159 rfl (Or.inr ⟨_, rfl⟩) ?_
  refine T_aload_n (v := .ref 373) d_Mo_keyOf_160 rfl (Or.inr ⟨_, rfl⟩) ?_
  obtain ⟨v_45, hov_45, hwv_45, hsv_45, hiv_45⟩ := id p_44_1
  refine T_getfield (v := .ref 383) d_Mo_keyOf_161 fg_Mo_55 hov_45 rfl ?_
  refine T_iconst (v := nI 0) d_Mo_keyOf_164 (by decide) ?_
  refine T_bipush (v := nI 64) d_Mo_keyOf_165 (by decide) ?_
  refine T_virtual (as := [.ref 383, .int (nI 0), .int (nI 64)]) (rest := []) (b := 373) d_Mo_keyOf_167 rfl (jw_Mo_scalarOf.jo (by decide)) lm_Mo_287 ji_Mo_scalarOf js_Mo_scalarOf hov_45 rfl rfl rfl (Nat.le_of_ble_eq_true rfl) (by decide) (by decide) (b_Mo_scalarOf (at0 := 0) (n := 64) p_44_0 p_44_1 p_44_2 (by first | omega | (simp only [List.length_append, List.length_cons, List.length_nil, List.length_replicate, sl_len, be_len, sha_len, hmac_len, ex1_len, ex2_len, stretch_len, zer8_len, tC_len, tag1_len, bnN_len, xkp_len, enc_len, chance_len, lbF_len, str2_len]; done) | (simp only [List.length_append, List.length_cons, List.length_nil, List.length_replicate, sl_len, be_len, sha_len, hmac_len, ex1_len, ex2_len, stretch_len, zer8_len, tC_len, tag1_len, bnN_len, xkp_len, enc_len, chance_len, lbF_len, str2_len]; omega)) (by decide) (by decide) (by decide)) (fun r M_46 hq => ?_)
  obtain ⟨rfl, p_46_0, p_46_1, kp_46⟩ := hq
  refine T_eq (pc' := 170) (L' := [(5, .int (nI (((((((((([]) ++ sl s at0 32) ++ [0, 33]) ++ [79, 80, 65, 81, 85, 69, 45, 68]) ++ [101, 114, 105, 118, 101, 68, 105, 102]) ++ [102, 105, 101, 72, 101, 108, 108, 109]) ++ [97, 110, 75, 101, 121, 80, 97, 105]) ++ [114]) ++ [u8 (nI 0)]).length))), (0, .ref 373), (1, .ref p), (2, .int (nI at0)), (3, .int (nI 32)), (4, .int (nI 1))]) (st' := []) (M' := M_46) rfl rfl rfl rfl ?_
  have p_47 : SC M_46 395 16 0 (keyN (sl s at0 32) W4) := (by have g := p_46_1; rw [sl64 (str2_len _ _), sl_all, show ([] ++ [68, 101, 114, 105, 118, 101, 75, 101]) ++ [121, 80, 97, 105, 114] = W5 from rfl, str2_1 _ _ (by decide), u8_0] at g; unfold keyN; rw [show be (nI (List.length W4)) 2 = [0, 33] from by decide]; simp only [List.append_assoc, List.cons_append, List.nil_append, W4] at g ⊢; exact g)
  have p_48 := (BG.kp (p_44_1) kp_46 (by decide) (by decide))
  exact T_vret d_Mo_keyOf_170 rfl (by decide) (by decide) ⟨rfl, p_46_0, p_48, p_47, (Kp.tr (Kp.tr (Kp.tr (Kp.tr (Kp.tr (Kp.ex (Kp.tr (Kp.tr (Kp.tr (Kp.tr (Kp.tr (Kp.tr (Kp.tr (Kp.tr (Kp.tr (Kp.rf : Kp [373, 374, 380, 382, 381, 383, 389, 401, 395, 397, 398] M M) (Kp.mono kp_1 (by decide))) (Kp.mono kp_3 (by decide))) (Kp.mono kp_6 (by decide))) (Kp.mono kp_9 (by decide))) (Kp.mono kp_12 (by decide))) (Kp.mono kp_15 (by decide))) (Kp.mono kp_18 (by decide))) (Kp.mono kp_21 (by decide))) (Kp.mono hK25 (by decide))) s_31 (by decide)) (Kp.mono kp_33 (by decide))) (Kp.mono kp_36 (by decide))) (Kp.mono kp_39 (by decide))) (Kp.mono kp_44 (by decide))) (Kp.mono kp_46 (by decide)))⟩

theorem elB_i {l s : List UInt8} {a b n : Nat} (h : l.length - a = n) : elB l s a b = true ↔ ∀ i, i < n → gd l (a + i) = gd s (b + i) := by
  unfold elB
  rw [h, List.all_eq_true]
  constructor
  · intro g i hi; exact eq_of_beq (g i (List.mem_range.mpr hi))
  · intro g i hi; exact beq_iff_eq.mpr (g i (List.mem_range.mp hi))
set_option maxHeartbeats 8000000 in
theorem fi_3 (G : GX) {M : List va_E} {w : Nat → Int32} {l sa sb : List UInt8} {s : Nat} (hb : BG M w l) (ha : IA M 415 64 sa) (hc : IA M 450 128 sb)  (l1 : 0 + 64 ≤ sa.length) (l2 : 64 + 64 ≤ sb.length) {Q : Option Value → List va_E → Prop} (ky : (∀ i, i < 64 → gd sa (0 + i) = gd sb (64 + i)) → TT G mi_Mo_finish 259 [(3, .int (nI ((320 * s)))), (2, .int (nI s)), (1, .int (nI s)), (0, .ref 373)] [] M 0 0 Q) (kn : ¬ (∀ i, i < 64 → gd sa (0 + i) = gd sb (64 + i)) → Q (some (.int (nI 3))) M) : ∀ j k, k + j = 64 → (∀ i, i < k → gd sa (0 + i) = gd sb (64 + i)) → TT G mi_Mo_finish 224 [(4, .int (nI k)), (3, .int (nI ((320 * s)))), (2, .int (nI s)), (1, .int (nI s)), (0, .ref 373)] [] M 0 0 Q := by
  intro j
  induction j with
  | zero =>
    intro k hk hI
    obtain rfl : k = 64 := by omega
    refine T_iload d_Mo_finish_224 rfl ?_
    refine T_bipush (v := nI 64) d_Mo_finish_226 (by decide) ?_
    refine N_icmp_ge_t (a := 64) (b := 64) d_Mo_finish_228 (tgt := 259) rfl (by omega) (by omega) (by omega) ?_
    exact T_sub (fun q hq => List.mem_cons_of_mem _ hq) (ky hI)
  | succ j ih =>
    intro k hk hI
    have hla := ha.le
    have hlc := hc.le
    refine T_iload d_Mo_finish_224 rfl ?_
    refine T_bipush (v := nI 64) d_Mo_finish_226 (by decide) ?_
    refine N_icmp_ge_f (a := 64) (b := k) d_Mo_finish_228 (tgt := 259) rfl (by omega) (by omega) (by omega) ?_
    refine T_aload_n (v := .ref 373) d_Mo_finish_231 rfl (Or.inr ⟨_, rfl⟩) ?_
    obtain ⟨v_1, hov_1, hwv_1, hsv_1, hiv_1⟩ := id hb
    refine T_getfield (v := .ref 415) d_Mo_finish_232 fg_Mo_365 hov_1 rfl ?_
    refine T_iload d_Mo_finish_235 rfl ?_
    obtain ⟨f_2, hf_3, hl_4, hv_5⟩ := id ha
    refine N_iaload (k := k) (x := (bR (gd sa k))) d_Mo_finish_237 hf_3 (by omega) (by decide) (hv_5 k (by first | omega | (simp only [List.length_append, List.length_cons, List.length_nil, List.length_replicate, sl_len, be_len, sha_len, hmac_len, ex1_len, ex2_len, stretch_len, zer8_len, tC_len, tag1_len, bnN_len, xkp_len]; omega))) ?_
    refine T_aload_n (v := .ref 373) d_Mo_finish_238 rfl (Or.inr ⟨_, rfl⟩) ?_
    refine T_getfield (v := .ref 450) d_Mo_finish_239 fg_Mo_473 hov_1 rfl ?_
    refine T_bipush (v := nI 64) d_Mo_finish_242 (by decide) ?_
    refine T_iload d_Mo_finish_244 rfl ?_
    refine N_iadd (a := k) (b := 64) (c := (64 + k)) d_Mo_finish_246 rfl ?_
    obtain ⟨f_6, hf_7, hl_8, hv_9⟩ := id hc
    refine N_iaload (k := (64 + k)) (x := (bR (gd sb (64 + k)))) d_Mo_finish_247 hf_7 (by omega) (by decide) (hv_9 (64 + k) (by first | omega | (simp only [List.length_append, List.length_cons, List.length_nil, List.length_replicate, sl_len, be_len, sha_len, hmac_len, ex1_len, ex2_len, stretch_len, zer8_len, tC_len, tag1_len, bnN_len, xkp_len]; omega))) ?_
    by_cases he : (gd sa k) = (gd sb (64 + k))
    · 
      refine T_icmp_eq d_Mo_finish_248 (tgt := 253) rfl (fun _ => ?_) (fun c => absurd (by rw [he]) c)
      refine N_iinc (k := k) (m := 1) (c := (k + 1)) (L' := [(4, .int (nI ((k + 1)))), (3, .int (nI ((320 * s)))), (2, .int (nI s)), (1, .int (nI s)), (0, .ref 373)]) d_Mo_finish_253 (by decide) rfl (by decide) rfl rfl ?_
      refine T_goto (tgt := 224) d_Mo_finish_256 rfl ?_
      exact T_sub (L' := [(4, .int (nI ((k + 1)))), (3, .int (nI ((320 * s)))), (2, .int (nI s)), (1, .int (nI s)), (0, .ref 373)]) (fun _ h => h) (ih (k + 1) (by omega) (fun i hi => by by_cases c : i = k; subst c; exact (gd_c (by omega)).trans (he.trans (gd_c (by omega))); exact hI i (by omega)))
    · 
      refine T_icmp_eq d_Mo_finish_248 (tgt := 253) rfl (fun c => absurd c (fun c => he (bR_in.mp c))) (fun _ => ?_)
      refine T_iconst (v := nI 3) d_Mo_finish_251 (by decide) ?_
      exact T_ret d_Mo_finish_252 rfl (by decide) (by decide) (by decide) (kn (fun c => he ((gd_c (by omega)).trans ((c k (by omega)).trans (gd_c (by omega))))))
set_option maxHeartbeats 8000000 in
theorem fi_4 (G : GX) {M : List va_E} {w : Nat → Int32} {l sa sb : List UInt8} {s : Nat} (hb : BG M w l) (ha : IA M 445 64 sa) (hc : IA M 434 1280 sb) (sd0 : s < 4) (l1 : 0 + 64 ≤ sa.length) (l2 : (320 * s + 256) + 64 ≤ sb.length) {Q : Option Value → List va_E → Prop} (ky : (∀ i, i < 64 → gd sa (0 + i) = gd sb ((320 * s + 256) + i)) → TT G mi_Mo_finish 433 [(3, .int (nI ((320 * s)))), (2, .int (nI s)), (1, .int (nI s)), (0, .ref 373)] [] M 0 0 Q) (kn : ¬ (∀ i, i < 64 → gd sa (0 + i) = gd sb ((320 * s + 256) + i)) → Q (some (.int (nI 4))) M) : ∀ j k, k + j = 64 → (∀ i, i < k → gd sa (0 + i) = gd sb ((320 * s + 256) + i)) → TT G mi_Mo_finish 395 [(4, .int (nI k)), (3, .int (nI ((320 * s)))), (2, .int (nI s)), (1, .int (nI s)), (0, .ref 373)] [] M 0 0 Q := by
  intro j
  induction j with
  | zero =>
    intro k hk hI
    obtain rfl : k = 64 := by omega
    refine T_iload d_Mo_finish_395 rfl ?_
    refine T_bipush (v := nI 64) d_Mo_finish_397 (by decide) ?_
    refine N_icmp_ge_t (a := 64) (b := 64) d_Mo_finish_399 (tgt := 433) rfl (by omega) (by omega) (by omega) ?_
    exact T_sub (fun q hq => List.mem_cons_of_mem _ hq) (ky hI)
  | succ j ih =>
    intro k hk hI
    have hla := ha.le
    have hlc := hc.le
    refine T_iload d_Mo_finish_395 rfl ?_
    refine T_bipush (v := nI 64) d_Mo_finish_397 (by decide) ?_
    refine N_icmp_ge_f (a := 64) (b := k) d_Mo_finish_399 (tgt := 433) rfl (by omega) (by omega) (by omega) ?_
    refine T_aload_n (v := .ref 373) d_Mo_finish_402 rfl (Or.inr ⟨_, rfl⟩) ?_
    obtain ⟨v_1, hov_1, hwv_1, hsv_1, hiv_1⟩ := id hb
    refine T_getfield (v := .ref 445) d_Mo_finish_403 fg_Mo_458 hov_1 rfl ?_
    refine T_iload d_Mo_finish_406 rfl ?_
    obtain ⟨f_2, hf_3, hl_4, hv_5⟩ := id ha
    refine N_iaload (k := k) (x := (bR (gd sa k))) d_Mo_finish_408 hf_3 (by omega) (by decide) (hv_5 k (by first | omega | (simp only [List.length_append, List.length_cons, List.length_nil, List.length_replicate, sl_len, be_len, sha_len, hmac_len, ex1_len, ex2_len, stretch_len, zer8_len, tC_len, tag1_len, bnN_len, xkp_len]; omega))) ?_
    refine T_aload_n (v := .ref 373) d_Mo_finish_409 rfl (Or.inr ⟨_, rfl⟩) ?_
    refine T_getfield (v := .ref 434) d_Mo_finish_410 fg_Mo_422 hov_1 rfl ?_
    refine T_iload_n d_Mo_finish_413 rfl ?_
    refine T_sipush (v := nI 256) d_Mo_finish_414 (by decide) ?_
    refine N_iadd (a := 256) (b := (320 * s)) (c := ((320 * s) + 256)) d_Mo_finish_417 rfl ?_
    refine T_iload d_Mo_finish_418 rfl ?_
    refine N_iadd (a := k) (b := ((320 * s) + 256)) (c := (((320 * s) + 256) + k)) d_Mo_finish_420 rfl ?_
    obtain ⟨f_6, hf_7, hl_8, hv_9⟩ := id hc
    refine N_iaload (k := (((320 * s) + 256) + k)) (x := (bR (gd sb (((320 * s) + 256) + k)))) d_Mo_finish_421 hf_7 (by omega) (by decide) (hv_9 (((320 * s) + 256) + k) (by first | omega | (simp only [List.length_append, List.length_cons, List.length_nil, List.length_replicate, sl_len, be_len, sha_len, hmac_len, ex1_len, ex2_len, stretch_len, zer8_len, tC_len, tag1_len, bnN_len, xkp_len]; omega))) ?_
    by_cases he : (gd sa k) = (gd sb (((320 * s) + 256) + k))
    · 
      refine T_icmp_eq d_Mo_finish_422 (tgt := 427) rfl (fun _ => ?_) (fun c => absurd (by rw [he]) c)
      refine N_iinc (k := k) (m := 1) (c := (k + 1)) (L' := [(4, .int (nI ((k + 1)))), (3, .int (nI ((320 * s)))), (2, .int (nI s)), (1, .int (nI s)), (0, .ref 373)]) d_Mo_finish_427 (by decide) rfl (by decide) rfl rfl ?_
      refine T_goto (tgt := 395) d_Mo_finish_430 rfl ?_
      exact T_sub (L' := [(4, .int (nI ((k + 1)))), (3, .int (nI ((320 * s)))), (2, .int (nI s)), (1, .int (nI s)), (0, .ref 373)]) (fun _ h => h) (ih (k + 1) (by omega) (fun i hi => by by_cases c : i = k; subst c; exact (gd_c (by omega)).trans (he.trans (gd_c (by omega))); exact hI i (by omega)))
    · 
      refine T_icmp_eq d_Mo_finish_422 (tgt := 427) rfl (fun c => absurd c (fun c => he (bR_in.mp c))) (fun _ => ?_)
      refine T_iconst (v := nI 4) d_Mo_finish_425 (by decide) ?_
      exact T_ret d_Mo_finish_426 rfl (by decide) (by decide) (by decide) (kn (fun c => he ((gd_c (by omega)).trans ((c k (by omega)).trans (gd_c (by omega))))))
set_option maxHeartbeats 8000000 in
theorem fi_o (G : GX) {M0 : List va_E} {w : Nat → Int32} {l sa sb : List UInt8} {s : Nat} (hb : BG M0 w l) (ha : IA M0 434 1280 sa) (hc : IA M0 448 128 sb) (l1 : sa.length = 1280) (l2 : sb.length = 128) (hs : s < 4) {Q : Option Value → List va_E → Prop} (kk : ∀ M, IA M 450 128 (mp (fun i => gd sa ((320 * s + 64) + i) ^^^ gd sb (0 + i)) 128) ∧ Kp [450] M0 M → TT G mi_Mo_finish 179 [(3, .int (nI ((320 * s)))), (2, .int (nI s)), (1, .int (nI s)), (0, .ref 373)] [] M 0 0 Q) : ∀ j k M, k + j = 128 → IA M 450 128 (mp (fun i => gd sa ((320 * s + 64) + i) ^^^ gd sb (0 + i)) k) ∧ Kp [450] M0 M → TT G mi_Mo_finish 138 [(4, .int (nI k)), (3, .int (nI ((320 * s)))), (2, .int (nI s)), (1, .int (nI s)), (0, .ref 373)] [] M 0 0 Q := by
  intro j
  induction j with
  | zero =>
    intro k M hk hI
    obtain rfl : 128 = k := by omega
    refine T_iload d_Mo_finish_138 rfl ?_
    refine T_sipush (v := nI 128) d_Mo_finish_140 (by decide) ?_
    refine N_icmp_ge_t (a := 128) (b := 128) d_Mo_finish_143 (tgt := 179) rfl (by omega) (by omega) (by omega) ?_
    exact T_sub (fun q hq => List.mem_cons_of_mem _ hq) (kk M hI)
  | succ j ih =>
    intro k M hk hI
    obtain ⟨hda, hK⟩ := hI
    have hla := ha.le
    have hlc := hc.le
    obtain ⟨f, f1, f2, f3⟩ := id hda
    refine T_iload d_Mo_finish_138 rfl ?_
    refine T_sipush (v := nI 128) d_Mo_finish_140 (by decide) ?_
    refine N_icmp_ge_f (a := 128) (b := k) d_Mo_finish_143 (tgt := 179) rfl (by omega) (by omega) (by omega) ?_
    refine T_aload_n (v := .ref 373) d_Mo_finish_146 rfl (Or.inr ⟨_, rfl⟩) ?_
    have p_1 := (BG.kp (hb) hK (by decide) (by decide))
    obtain ⟨v_2, hov_2, hwv_2, hsv_2, hiv_2⟩ := id p_1
    refine T_getfield (v := .ref 450) d_Mo_finish_147 fg_Mo_473 hov_2 rfl ?_
    refine T_iload d_Mo_finish_150 rfl ?_
    refine T_aload_n (v := .ref 373) d_Mo_finish_152 rfl (Or.inr ⟨_, rfl⟩) ?_
    refine T_getfield (v := .ref 434) d_Mo_finish_153 fg_Mo_422 hov_2 rfl ?_
    refine T_iload_n d_Mo_finish_156 rfl ?_
    refine T_bipush (v := nI 64) d_Mo_finish_157 (by decide) ?_
    refine N_iadd (a := 64) (b := (320 * s)) (c := ((320 * s) + 64)) d_Mo_finish_159 rfl ?_
    refine T_iload d_Mo_finish_160 rfl ?_
    refine N_iadd (a := k) (b := ((320 * s) + 64)) (c := (((320 * s) + 64) + k)) d_Mo_finish_162 rfl ?_
    have p_3 := (IA.kp (ha) hK (by decide))
    obtain ⟨f_4, hf_5, hl_6, hv_7⟩ := id p_3
    refine N_iaload (k := (((320 * s) + 64) + k)) (x := (bR (gd sa (((320 * s) + 64) + k)))) d_Mo_finish_163 hf_5 (by omega) (by decide) (hv_7 (((320 * s) + 64) + k) (by first | omega | (simp only [List.length_append, List.length_cons, List.length_nil, List.length_replicate, sl_len, be_len, sha_len, hmac_len, ex1_len, ex2_len, stretch_len, zer8_len, tC_len, tag1_len, bnN_len, xkp_len]; omega))) ?_
    refine T_aload_n (v := .ref 373) d_Mo_finish_164 rfl (Or.inr ⟨_, rfl⟩) ?_
    refine T_getfield (v := .ref 448) d_Mo_finish_165 fg_Mo_467 hov_2 rfl ?_
    refine T_iload d_Mo_finish_168 rfl ?_
    have p_8 := (IA.kp (hc) hK (by decide))
    obtain ⟨f_9, hf_10, hl_11, hv_12⟩ := id p_8
    refine N_iaload (k := k) (x := (bR (gd sb k))) d_Mo_finish_170 hf_10 (by omega) (by decide) (hv_12 k (by first | omega | (simp only [List.length_append, List.length_cons, List.length_nil, List.length_replicate, sl_len, be_len, sha_len, hmac_len, ex1_len, ex2_len, stretch_len, zer8_len, tC_len, tag1_len, bnN_len, xkp_len]; omega))) ?_
    refine T_ixor d_Mo_finish_171 ?_
    refine N_iastore (k := k) d_Mo_finish_172 (by decide) f1 (by omega) (by decide) rfl (fun M_13 h_14 s_15 => ?_)
    refine N_iinc (k := k) (m := 1) (c := (k + 1)) (L' := [(4, .int (nI ((k + 1)))), (3, .int (nI ((320 * s)))), (2, .int (nI s)), (1, .int (nI s)), (0, .ref 373)]) d_Mo_finish_173 (by decide) rfl (by decide) rfl rfl ?_
    refine T_goto (tgt := 138) d_Mo_finish_176 rfl ?_
    exact ih (k + 1) M_13 (by omega) ⟨by rw [mp_s]; exact ia_app (by have g := h_14; rw [bR_xor] at g; rw [xo_c (gd_c (show _ = (320 * s + 64) + k by omega)) (gd_c (show _ = 0 + k by omega))] at g; exact g) (by rw [mp_len]) (by rw [mp_len]; omega) f3, (Kp.ex (Kp.tr (Kp.rf : Kp [450] M0 M0) (Kp.mono hK (by decide))) s_15 (by decide))⟩
set_option maxHeartbeats 8000000 in
theorem fi_n (G : GX) {M0 : List va_E} {w : Nat → Int32} {l s : List UInt8} {se : Nat} (hb : BG M0 w l) (hs : IA M0 450 128 s) (hsn : 128 < 2 ^ 31) (ha : 32 + 32 ≤ s.length) (hd : 0 + 32 ≤ 32)  {Q : Option Value → List va_E → Prop} (kk : ∀ M, IA M 412 32 (sl s 32 32) ∧ Kp [412] M0 M → TT G mi_Mo_finish 212 [(3, .int (nI ((320 * se)))), (2, .int (nI se)), (1, .int (nI se)), (0, .ref 373)] [] M 0 0 Q) : ∀ j k M, k + j = 32 → IA M 412 32 (sl s 32 k) ∧ Kp [412] M0 M → TT G mi_Mo_finish 182 [(4, .int (nI k)), (3, .int (nI ((320 * se)))), (2, .int (nI se)), (1, .int (nI se)), (0, .ref 373)] [] M 0 0 Q := by
  intro j
  induction j with
  | zero =>
    intro k M hk hI
    obtain rfl : 32 = k := by omega
    obtain ⟨hda, hK⟩ := id hI
    refine T_iload d_Mo_finish_182 rfl ?_
    refine T_bipush (v := nI 32) d_Mo_finish_184 (by decide) ?_
    refine N_icmp_ge_t (a := 32) (b := 32) d_Mo_finish_186 (tgt := 212) rfl (by omega) (by omega) (by omega) ?_
    exact T_sub (fun q hq => List.mem_cons_of_mem _ hq) (kk M hI)
  | succ j ih =>
    intro k M hk hI
    obtain ⟨hda, hK⟩ := hI
    have hsl := IA.le hs
    refine T_iload d_Mo_finish_182 rfl ?_
    refine T_bipush (v := nI 32) d_Mo_finish_184 (by decide) ?_
    refine N_icmp_ge_f (a := 32) (b := k) d_Mo_finish_186 (tgt := 212) rfl (by omega) (by omega) (by omega) ?_
    refine T_aload_n (v := .ref 373) d_Mo_finish_189 rfl (Or.inr ⟨_, rfl⟩) ?_
    have p_1 := (BG.kp (hb) hK (by decide) (by decide))
    obtain ⟨v_2, hov_2, hwv_2, hsv_2, hiv_2⟩ := id p_1
    refine T_getfield (v := .ref 412) d_Mo_finish_190 fg_Mo_356 hov_2 rfl ?_
    refine T_iload d_Mo_finish_193 rfl ?_
    refine T_aload_n (v := .ref 373) d_Mo_finish_195 rfl (Or.inr ⟨_, rfl⟩) ?_
    refine T_getfield (v := .ref 450) d_Mo_finish_196 fg_Mo_473 hov_2 rfl ?_
    refine T_bipush (v := nI 32) d_Mo_finish_199 (by decide) ?_
    refine T_iload d_Mo_finish_201 rfl ?_
    refine N_iadd (a := k) (b := 32) (c := (32 + k)) d_Mo_finish_203 rfl ?_
    have p_3 := (IA.kp (hs) hK (by decide))
    obtain ⟨f_4, hf_5, hl_6, hv_7⟩ := id p_3
    refine N_iaload (k := (32 + k)) (x := (bR (gd s (32 + k)))) d_Mo_finish_204 hf_5 (by omega) (by decide) (hv_7 (32 + k) (by first | omega | (simp only [List.length_append, List.length_cons, List.length_nil, List.length_replicate, sl_len, be_len, sha_len, hmac_len, ex1_len, ex2_len, stretch_len, zer8_len, tC_len, tag1_len, bnN_len, xkp_len]; omega))) ?_
    obtain ⟨f_8, hf_9, hl_10, hv_11⟩ := id hda
    refine N_iastore (k := k) d_Mo_finish_205 (by decide) hf_9 (by omega) (by decide) rfl (fun M_12 h_13 s_14 => ?_)
    refine N_iinc (k := k) (m := 1) (c := (k + 1)) (L' := [(4, .int (nI ((k + 1)))), (3, .int (nI ((320 * se)))), (2, .int (nI se)), (1, .int (nI se)), (0, .ref 373)]) d_Mo_finish_206 (by decide) rfl (by decide) rfl rfl ?_
    refine T_goto (tgt := 182) d_Mo_finish_209 rfl ?_
    exact ih (k + 1) M_12 (by omega) ⟨ia_c0 h_13 (gd_c (by omega)) (by omega) (by omega) hv_11, (Kp.ex (Kp.tr (Kp.rf : Kp [412] M0 M0) (Kp.mono hK (by decide))) s_14 (by decide))⟩
set_option maxHeartbeats 8000000 in
theorem fi_f (G : GX) {M0 : List va_E} {w : Nat → Int32} {l l0 l1 l2 R0 R1 R2 sa sb sc : List UInt8} {s : Nat} (hb : BG M0 w l) (hsa : IA M0 446 64 sa) (esa : 64 ≤ sa.length) (hsb : IA M0 447 64 sb) (esb : 64 ≤ sb.length) (hsc : IA M0 416 64 sc) (esc : 64 ≤ sc.length) (of0 : l0.length = 0) (of1 : l1.length = 0) (of2 : l2.length = 0) (sd0 : s < 4)  {Q : Option Value → List va_E → Prop} (kk : ∀ M, (RO M 435 256 R0 (64 * s) 64 (l0 ++ sl sa 0 64) ∧ RO M 437 256 R1 (64 * s) 64 (l1 ++ sl sb 0 64) ∧ RO M 439 256 R2 (64 * s) 64 (l2 ++ sl sc 0 64) ∧ Kp [435, 437, 439] M0 M) → TT G mi_Mo_finish 506 [(3, .int (nI ((320 * s)))), (2, .int (nI s)), (1, .int (nI s)), (0, .ref 373)] [] M 0 0 Q) : ∀ j k M, k + j = 64 → (RO M 435 256 R0 (64 * s) 64 (l0 ++ sl sa 0 k) ∧ RO M 437 256 R1 (64 * s) 64 (l1 ++ sl sb 0 k) ∧ RO M 439 256 R2 (64 * s) 64 (l2 ++ sl sc 0 k) ∧ Kp [435, 437, 439] M0 M) → TT G mi_Mo_finish 436 [(4, .int (nI k)), (3, .int (nI ((320 * s)))), (2, .int (nI s)), (1, .int (nI s)), (0, .ref 373)] [] M 0 0 Q := by
  intro j
  induction j with
  | zero =>
    intro k M hk hI
    obtain rfl : 64 = k := by omega
    refine T_iload d_Mo_finish_436 rfl ?_
    refine T_bipush (v := nI 64) d_Mo_finish_438 (by decide) ?_
    refine N_icmp_ge_t (a := 64) (b := 64) d_Mo_finish_440 (tgt := 506) rfl (by omega) (by omega) (by omega) ?_
    exact T_sub (fun q hq => List.mem_cons_of_mem _ hq) (kk M hI)
  | succ j ih =>
    intro k M hk hI
    obtain ⟨hd0, hd1, hd2, hK⟩ := hI
    obtain ⟨L0, ⟨f0, g0, fb0, fc0⟩, eL0, out0, sg0, hc0, hx0⟩ := id hd0
    have hlsa := hsa.le
    obtain ⟨L1, ⟨f1, g1, fb1, fc1⟩, eL1, out1, sg1, hc1, hx1⟩ := id hd1
    have hlsb := hsb.le
    obtain ⟨L2, ⟨f2, g2, fb2, fc2⟩, eL2, out2, sg2, hc2, hx2⟩ := id hd2
    have hlsc := hsc.le
    refine T_iload d_Mo_finish_436 rfl ?_
    refine T_bipush (v := nI 64) d_Mo_finish_438 (by decide) ?_
    refine N_icmp_ge_f (a := 64) (b := k) d_Mo_finish_440 (tgt := 506) rfl (by omega) (by omega) (by omega) ?_
    refine T_aload_n (v := .ref 373) d_Mo_finish_443 rfl (Or.inr ⟨_, rfl⟩) ?_
    have p_1 := (BG.kp (hb) hK (by decide) (by decide))
    obtain ⟨v_2, hov_2, hwv_2, hsv_2, hiv_2⟩ := id p_1
    refine T_getfield (v := .ref 435) d_Mo_finish_444 fg_Mo_425 hov_2 rfl ?_
    refine T_bipush (v := nI 64) d_Mo_finish_447 (by decide) ?_
    refine T_iload_n d_Mo_finish_449 rfl ?_
    refine N_imul (a := s) (b := 64) (c := (64 * s)) d_Mo_finish_450 rfl ?_
    refine T_iload d_Mo_finish_451 rfl ?_
    refine N_iadd (a := k) (b := (64 * s)) (c := ((64 * s) + k)) d_Mo_finish_453 rfl ?_
    refine T_aload_n (v := .ref 373) d_Mo_finish_454 rfl (Or.inr ⟨_, rfl⟩) ?_
    refine T_getfield (v := .ref 446) d_Mo_finish_455 fg_Mo_461 hov_2 rfl ?_
    refine T_iload d_Mo_finish_458 rfl ?_
    have p_3 := (IA.kp (hsa) hK (by decide))
    obtain ⟨f_4, hf_5, hl_6, hv_7⟩ := id p_3
    refine N_iaload (k := k) (x := (bR (gd sa k))) d_Mo_finish_460 hf_5 (by omega) (by decide) (hv_7 k (by first | omega | (simp only [List.length_append, List.length_cons, List.length_nil, List.length_replicate, sl_len, be_len, sha_len, hmac_len, ex1_len, ex2_len, stretch_len, zer8_len, tC_len, tag1_len, bnN_len, xkp_len]; omega))) ?_
    refine N_iastore (k := ((64 * s) + k)) d_Mo_finish_461 (by decide) g0 (by omega) (by decide) rfl (fun M_8 h_9 s_10 => ?_)
    refine T_aload_n (v := .ref 373) d_Mo_finish_462 rfl (Or.inr ⟨_, rfl⟩) ?_
    have p_11 := (BG.kp (p_1) (Ex.kp s_10) (by decide) (by decide))
    obtain ⟨v_12, hov_12, hwv_12, hsv_12, hiv_12⟩ := id p_11
    refine T_getfield (v := .ref 437) d_Mo_finish_463 fg_Mo_431 hov_12 rfl ?_
    refine T_bipush (v := nI 64) d_Mo_finish_466 (by decide) ?_
    refine T_iload_n d_Mo_finish_468 rfl ?_
    refine N_imul (a := s) (b := 64) (c := (64 * s)) d_Mo_finish_469 rfl ?_
    refine T_iload d_Mo_finish_470 rfl ?_
    refine N_iadd (a := k) (b := (64 * s)) (c := ((64 * s) + k)) d_Mo_finish_472 rfl ?_
    refine T_aload_n (v := .ref 373) d_Mo_finish_473 rfl (Or.inr ⟨_, rfl⟩) ?_
    refine T_getfield (v := .ref 447) d_Mo_finish_474 fg_Mo_464 hov_12 rfl ?_
    refine T_iload d_Mo_finish_477 rfl ?_
    have p_13 := (IA.kp ((IA.kp (hsb) hK (by decide))) (Ex.kp s_10) (by decide))
    obtain ⟨f_14, hf_15, hl_16, hv_17⟩ := id p_13
    refine N_iaload (k := k) (x := (bR (gd sb k))) d_Mo_finish_479 hf_15 (by omega) (by decide) (hv_17 k (by first | omega | (simp only [List.length_append, List.length_cons, List.length_nil, List.length_replicate, sl_len, be_len, sha_len, hmac_len, ex1_len, ex2_len, stretch_len, zer8_len, tC_len, tag1_len, bnN_len, xkp_len]; omega))) ?_
    have h_18 := (s_10 437 (by decide)).trans (g1)
    refine N_iastore (k := ((64 * s) + k)) d_Mo_finish_480 (by decide) h_18 (by omega) (by decide) rfl (fun M_19 h_20 s_21 => ?_)
    refine T_aload_n (v := .ref 373) d_Mo_finish_481 rfl (Or.inr ⟨_, rfl⟩) ?_
    have p_22 := (BG.kp (p_11) (Ex.kp s_21) (by decide) (by decide))
    obtain ⟨v_23, hov_23, hwv_23, hsv_23, hiv_23⟩ := id p_22
    refine T_getfield (v := .ref 439) d_Mo_finish_482 fg_Mo_437 hov_23 rfl ?_
    refine T_bipush (v := nI 64) d_Mo_finish_485 (by decide) ?_
    refine T_iload_n d_Mo_finish_487 rfl ?_
    refine N_imul (a := s) (b := 64) (c := (64 * s)) d_Mo_finish_488 rfl ?_
    refine T_iload d_Mo_finish_489 rfl ?_
    refine N_iadd (a := k) (b := (64 * s)) (c := ((64 * s) + k)) d_Mo_finish_491 rfl ?_
    refine T_aload_n (v := .ref 373) d_Mo_finish_492 rfl (Or.inr ⟨_, rfl⟩) ?_
    refine T_getfield (v := .ref 416) d_Mo_finish_493 fg_Mo_368 hov_23 rfl ?_
    refine T_iload d_Mo_finish_496 rfl ?_
    have p_24 := (IA.kp ((IA.kp ((IA.kp (hsc) hK (by decide))) (Ex.kp s_10) (by decide))) (Ex.kp s_21) (by decide))
    obtain ⟨f_25, hf_26, hl_27, hv_28⟩ := id p_24
    refine N_iaload (k := k) (x := (bR (gd sc k))) d_Mo_finish_498 hf_26 (by omega) (by decide) (hv_28 k (by first | omega | (simp only [List.length_append, List.length_cons, List.length_nil, List.length_replicate, sl_len, be_len, sha_len, hmac_len, ex1_len, ex2_len, stretch_len, zer8_len, tC_len, tag1_len, bnN_len, xkp_len]; omega))) ?_
    have h_29 := (s_21 439 (by decide)).trans ((s_10 439 (by decide)).trans (g2))
    refine N_iastore (k := ((64 * s) + k)) d_Mo_finish_499 (by decide) h_29 (by omega) (by decide) rfl (fun M_30 h_31 s_32 => ?_)
    refine N_iinc (k := k) (m := 1) (c := (k + 1)) (L' := [(4, .int (nI ((k + 1)))), (3, .int (nI ((320 * s)))), (2, .int (nI s)), (1, .int (nI s)), (0, .ref 373)]) d_Mo_finish_500 (by decide) rfl (by decide) rfl rfl ?_
    refine T_goto (tgt := 436) d_Mo_finish_503 rfl ?_
    have h_33 := (s_32 435 (by decide)).trans ((s_21 435 (by decide)).trans (h_9))
    have h_34 := (s_32 437 (by decide)).trans (h_20)
    exact ih (k + 1) M_30 (by omega) ⟨RO.pushm (h0 := fun i => gd sa (0 + i)) h_33 fc0 eL0 out0 sg0 (gd_c (by omega)) (by omega) (by omega) hx0, RO.pushm (h0 := fun i => gd sb (0 + i)) h_34 fc1 eL1 out1 sg1 (gd_c (by omega)) (by omega) (by omega) hx1, RO.pushm (h0 := fun i => gd sc (0 + i)) h_31 fc2 eL2 out2 sg2 (gd_c (by omega)) (by omega) (by omega) hx2, (Kp.ex (Kp.ex (Kp.ex (Kp.tr (Kp.rf : Kp [435, 437, 439] M0 M0) (Kp.mono hK (by decide))) s_10 (by decide)) s_21 (by decide)) s_32 (by decide))⟩
abbrev fbW : List Nat := [373, 374, 380, 381, 382, 383, 384, 385, 387, 388, 389, 390, 391, 392, 393, 394, 395, 397, 398, 399, 400, 401, 408, 411, 412, 413, 414, 415, 416, 417, 428, 440, 441, 442, 443, 444, 445, 446, 447, 448, 450]
abbrev fiW : List Nat := [373, 374, 380, 381, 382, 383, 384, 385, 387, 388, 389, 390, 391, 392, 393, 394, 395, 397, 398, 399, 400, 401, 408, 411, 412, 413, 414, 415, 416, 417, 426, 428, 430, 435, 437, 439, 440, 441, 442, 443, 444, 445, 446, 447, 448, 450]
set_option maxRecDepth 100000 in
set_option maxHeartbeats 8000000 in
theorem p_Mo_finish {G : GX} {M : List va_E} {sd : Int32} {ch n m th : Nat} {s K : Nat} {bl ep ps : Nat → Nat} {pw sn w2 w3 cs xs : Nat → List UInt8} {E : Fp × Fp} {R O J P : List UInt8} {h2 h3 r2 cd : Nat → Bool} (hs : s < 4) (hdue : (h2 s && !r2 s) = true) (hw : (w2 s).length = 320) (hn9 : (sn s).length = 96) (hpl : (pw s).length = ps s) (hp2 : ps s ≤ 200) (hbl : bl s < qN) (hepl : ep s < qN) (hE : emul fD (dPt (nB (w2 s) 0)) ((bl s) ^ (qN - 2) % qN) = E) (hR : sec8 (pw s) E = R) (hO : xr (sl (w2 s) 64 128) (ex1 (ex1 R W10) (sl (w2 s) 32 32 ++ W15) ++ ex2 (ex1 R W10) (sl (w2 s) 32 32 ++ W15)) = O) (hK : cKey R (sl O 32 32) = K) (hJ : (([] ++ enc (emul fD (dPt (nB (w2 s) 224)) (ep s))) ++ enc (emul fD (dPt (nB O 0)) (ep s))) ++ enc (emul fD (dPt (nB (w2 s) 224)) K) = J) (hP : pre8 (pub K) (sn s) O (w2 s) = P) (hms : MS M) (hnb : NB M sd ch n m th) (z2 : ZR M 425 4 h2) (z5 : ZR M 428 4 r2) (z3 : ZR M 426 4 h3) (z7 : ZR M 430 4 cd) (lbl : LR M 422 bl) (lep : LR M 423 ep) (hpw : SL M 420 800 200 4 pw) (hps : NR M 421 4 ps) (hsn : SL M 432 384 96 4 sn) (hw2 : SL M 434 1280 320 4 w2) (hw3 : SL M 435 256 64 4 w3) (hcs : SL M 437 256 64 4 cs) (hxs : SL M 439 256 64 4 xs) : CT G mi_Mo_finish [.ref 373, .int (nI s)] M (fun r M' => r = some (.int (nI (csR (w2 s) O (seal8 R (sl O 32 32) (sl O 0 32)) (xSrv J P)))) ∧ MS M' ∧ NB M' sd ch n m 0 ∧ ZR M' 428 4 (updB r2 s true) ∧ (csR (w2 s) O (seal8 R (sl O 32 32) (sl O 0 32)) (xSrv J P) = 0 → ZR M' 430 4 (updB cd s true) ∧ ZR M' 426 4 (updB h3 s true) ∧ SL M' 435 256 64 4 (updT w3 s (xCli J P)) ∧ SL M' 437 256 64 4 (updT cs s (xSess J P)) ∧ SL M' 439 256 64 4 (updT xs s (ex1 R (sl O 32 32 ++ W13)))) ∧ (csR (w2 s) O (seal8 R (sl O 32 32) (sl O 0 32)) (xSrv J P) ≠ 0 → Kp fbW M M') ∧ Kp fiW M M') := by
  obtain ⟨w, h, h66, h71, h72, h73, h74⟩ := hnb
  refine CT.of (by decide) (Nat.le_of_ble_eq_true rfl) ?_
  show TT G mi_Mo_finish 0 [(0, .ref 373), (1, .int (nI s))] [] M 0 0 _
  have bA : bN (h2 s) = 1 := by revert hdue; cases h2 s <;> cases r2 s <;> decide
  have bB : bN (r2 s) = 0 := by revert hdue; cases h2 s <;> cases r2 s <;> decide
  have lR : R.length = 64 := by rw [← hR]; exact sec8_len _ _
  have lO : O.length = 128 := by rw [← hO]; exact xr_len _ _
  have hK2 : K < 2 ^ 256 := by rw [← hK]; exact Nat.lt_trans (keyN_lt _ _) (by decide)
  have hb2 : bl s < 65536 ^ 16 := Nat.lt_trans hbl qOr_lt
  have hx2 : ep s < 2 ^ 256 := Nat.lt_trans hepl (by decide)
  refine T_aload_n (v := .ref 373) d_Mo_finish_0 rfl (Or.inr ⟨_, rfl⟩) ?_
  refine T_iconst (v := nI 0) d_Mo_finish_1 (by decide) ?_
  obtain ⟨v_1, hov_1, hwv_1, hsv_1, hiv_1⟩ := id h
  refine N_put (e := (moO (upd v_1 66 (nI 0)))) d_Mo_finish_2 (fp_Mo_316 _) hov_1 (Nat.le_of_ble_eq_true rfl) ⟨rfl, rfl⟩ rfl (fun M_2 h_3 s_4 => ?_)
  have p_5 := BG.st (j := 66) (by decide) hwv_1 hsv_1 hiv_1 h_3 (Ex.kp s_4)
  refine T_iload_n d_Mo_finish_5 rfl ?_
  refine T_static (as := [.int (nI s)]) (rest := []) d_Mo_finish_6 rfl (jw_Mo_isSession.jo (by decide)) lm_Mo_545 jt_Mo_isSession rfl (Nat.le_of_ble_eq_true rfl) (by decide) (by decide) (b_Mo_isS_in hs) (fun r M_6 hq => ?_)
  obtain ⟨rfl, he⟩ := hq
  obtain rfl := he.symm
  refine T_eq (pc' := 9) (L' := [(0, .ref 373), (1, .int (nI s))]) (st' := [.int (nI 1)]) (M' := M_2) rfl rfl rfl rfl ?_
  refine N_if_ne_t (b := 1) d_Mo_finish_9 (tgt := 14) rfl (by omega) (by omega) ?_
  refine T_aload_n (v := .ref 373) d_Mo_finish_14 rfl (Or.inr ⟨_, rfl⟩) ?_
  obtain ⟨v_7, hov_7, hwv_7, hsv_7, hiv_7⟩ := id p_5
  refine T_getfield (v := .ref 425) d_Mo_finish_15 fg_Mo_395 hov_7 rfl ?_
  refine T_iload_n d_Mo_finish_18 rfl ?_
  have p_8 := (ZR.kp (z2) (Ex.kp s_4) (by decide))
  obtain ⟨f_9, h_10, h_11⟩ := id p_8
  refine N_zaload (k := s) (x := (nI ((bN (h2 s))))) d_Mo_finish_19 h_10 (by omega) (by decide) (h_11 s (by omega)) ?_
  refine N_if_eq_f (b := (bN (h2 s))) d_Mo_finish_20 (tgt := 32) rfl (by omega) (by omega) ?_
  refine T_aload_n (v := .ref 373) d_Mo_finish_23 rfl (Or.inr ⟨_, rfl⟩) ?_
  refine T_getfield (v := .ref 428) d_Mo_finish_24 fg_Mo_404 hov_7 rfl ?_
  refine T_iload_n d_Mo_finish_27 rfl ?_
  have p_12 := (ZR.kp (z5) (Ex.kp s_4) (by decide))
  obtain ⟨f_13, h_14, h_15⟩ := id p_12
  refine N_zaload (k := s) (x := (nI ((bN (r2 s))))) d_Mo_finish_28 h_14 (by omega) (by decide) (h_15 s (by omega)) ?_
  refine N_if_eq_t (b := (bN (r2 s))) d_Mo_finish_29 (tgt := 34) rfl (by omega) (by omega) ?_
  refine T_iload_n d_Mo_finish_34 rfl ?_
  refine T_istore_n (L' := [(2, .int (nI s)), (0, .ref 373), (1, .int (nI s))]) d_Mo_finish_35 (by decide) rfl ?_
  refine T_sipush (v := nI 320) d_Mo_finish_36 (by decide) ?_
  refine T_iload_n d_Mo_finish_39 rfl ?_
  refine N_imul (a := s) (b := 320) (c := (320 * s)) d_Mo_finish_40 rfl ?_
  refine T_istore_n (L' := [(3, .int (nI ((320 * s)))), (2, .int (nI s)), (0, .ref 373), (1, .int (nI s))]) d_Mo_finish_41 (by decide) rfl ?_
  refine T_aload_n (v := .ref 373) d_Mo_finish_42 rfl (Or.inr ⟨_, rfl⟩) ?_
  refine T_getfield (v := .ref 428) d_Mo_finish_43 fg_Mo_404 hov_7 rfl ?_
  refine T_iload_n d_Mo_finish_46 rfl ?_
  refine T_iconst (v := nI 1) d_Mo_finish_47 (by decide) ?_
  refine N_zastore (k := s) d_Mo_finish_48 (by decide) h_14 (by omega) (by decide) rfl (fun M_16 h_17 s_18 => ?_)
  have p_19 := ZR.up (b := true) h_15 (by decide) h_17
  refine T_aload_n (v := .ref 373) d_Mo_finish_49 rfl (Or.inr ⟨_, rfl⟩) ?_
  refine T_bipush (v := nI 12) d_Mo_finish_50 (by decide) ?_
  refine T_aload_n (v := .ref 373) d_Mo_finish_52 rfl (Or.inr ⟨_, rfl⟩) ?_
  have p_20 := (BG.kp (p_5) (Ex.kp s_18) (by decide) (by decide))
  obtain ⟨v_21, hov_21, hwv_21, hsv_21, hiv_21⟩ := id p_20
  refine T_getfield (v := .ref 434) d_Mo_finish_53 fg_Mo_422 hov_21 rfl ?_
  refine T_iload_n d_Mo_finish_56 rfl ?_
  have p_23 := (SL.kp ((SL.kp (hw2) (Ex.kp s_4) (by decide))) (Ex.kp s_18) (by decide))
  obtain ⟨L24, hL24, eL24, sg24⟩ := SL.rd p_23 hs
  have nq_22 : nB L24 (320 * s) = nB (w2 s) 0 := nB_sg (b := 0) sg24 (by first | omega | (simp only [List.length_append, List.length_cons, List.length_nil, List.length_replicate, sl_len, be_len, sha_len, hmac_len, ex1_len, ex2_len, stretch_len, zer8_len, tC_len, tag1_len, bnN_len, xkp_len, enc_len, chance_len, lbF_len, str2_len, pub_len', sec8_len, mp_len, xSrv_len, xCli_len, xSess_len, seal8_len, mkU_len, lO, lR, sec8_len]; done) | (simp only [List.length_append, List.length_cons, List.length_nil, List.length_replicate, sl_len, be_len, sha_len, hmac_len, ex1_len, ex2_len, stretch_len, zer8_len, tC_len, tag1_len, bnN_len, xkp_len, enc_len, chance_len, lbF_len, str2_len, pub_len', sec8_len, mp_len, xSrv_len, xCli_len, xSess_len, seal8_len, mkU_len, lO, lR, sec8_len]; omega))
  have ln_22 : (320 * s) + 32 ≤ L24.length := by rw [eL24]; omega
  have p_25 := (MS.kp ((MS.kp (hms) (Ex.kp s_4) (by decide))) (Ex.kp s_18) (by decide))
  refine T_virtual (as := [.int (nI 12), .ref 434, .int (nI ((320 * s)))]) (rest := []) (b := 373) d_Mo_finish_57 rfl (jw_Mo_decode.jo (by decide)) lm_Mo_502 ji_Mo_decode js_Mo_decode hov_21 rfl rfl rfl (Nat.le_of_ble_eq_true rfl) (by decide) (by decide) (b_Mo_decode (at0 := (320 * s)) p_25 p_20 hL24 ln_22 (by decide) (by decide)) (fun r M_22 hq => ?_)
  rw [nq_22] at hq
  obtain ⟨rfl, ms_22, pt_22, kp_22⟩ := hq
  by_cases hd_22 : dec (nB (w2 s) 0)
  · rw [if_pos hd_22]
    have pd_22 := pt_22 hd_22
    refine T_eq (pc' := 60) (L' := [(3, .int (nI ((320 * s)))), (2, .int (nI s)), (0, .ref 373), (1, .int (nI s))]) (st' := [.int (nI 1)]) (M' := M_22) rfl rfl rfl rfl ?_
    refine N_if_ne_t (b := 1) d_Mo_finish_60 (tgt := 65) rfl (by omega) (by omega) ?_
    refine T_aload_n (v := .ref 373) d_Mo_finish_65 rfl (Or.inr ⟨_, rfl⟩) ?_
    refine T_aload_n (v := .ref 373) d_Mo_finish_66 rfl (Or.inr ⟨_, rfl⟩) ?_
    have p_26 := (BG.kp (p_20) kp_22 (by decide) (by decide))
    obtain ⟨v_27, hov_27, hwv_27, hsv_27, hiv_27⟩ := id p_26
    refine T_getfield (v := .ref 422) d_Mo_finish_67 fg_Mo_386 hov_27 rfl ?_
    refine T_bipush (v := nI 16) d_Mo_finish_70 (by decide) ?_
    refine T_iload_n d_Mo_finish_72 rfl ?_
    refine N_imul (a := s) (b := 16) (c := (16 * s)) d_Mo_finish_73 rfl ?_
    have p_28 := (LR.kp ((LR.kp ((LR.kp (lbl) (Ex.kp s_4) (by decide))) (Ex.kp s_18) (by decide))) kp_22 (by decide))
    have sx_29 := LR.sc p_28 hs
    refine T_virtual (as := [.ref 422, .int (nI ((16 * s)))]) (rest := []) (b := 373) d_Mo_finish_74 rfl (jw_Mo_takeScalar.jo (by decide)) lm_Mo_533 ji_Mo_takeScalar js_Mo_takeScalar hov_27 rfl rfl rfl (Nat.le_of_ble_eq_true rfl) (by decide) (by decide) (b_Mo_take (at0 := (16 * s)) ms_22 p_26 sx_29 (by omega) (by decide) (by decide)) (fun r M_30 hq => ?_)
    obtain ⟨rfl, p_30_0, p_30_1, kp_30⟩ := hq
    refine T_eq (pc' := 77) (L' := [(3, .int (nI ((320 * s)))), (2, .int (nI s)), (0, .ref 373), (1, .int (nI s))]) (st' := []) (M' := M_30) rfl rfl rfl rfl ?_
    refine T_aload_n (v := .ref 373) d_Mo_finish_77 rfl (Or.inr ⟨_, rfl⟩) ?_
    have p_31 := (BG.kp (p_26) kp_30 (by decide) (by decide))
    obtain ⟨v_33, hov_33, hwv_33, hsv_33, hiv_33⟩ := id p_31
    refine T_virtual (as := []) (rest := []) (b := 373) d_Mo_finish_78 rfl (jw_Mo_invertScalar.jo (by decide)) lm_Mo_592 ji_Mo_invertScalar js_Mo_invertScalar hov_33 rfl rfl rfl (Nat.le_of_ble_eq_true rfl) (by decide) (by decide) (b_Mo_invert p_30_0 p_31 p_30_1 hb2) (fun r M_32 hq => ?_)
    obtain ⟨rfl, p_32_0, p_32_1, kp_32⟩ := hq
    refine T_eq (pc' := 81) (L' := [(3, .int (nI ((320 * s)))), (2, .int (nI s)), (0, .ref 373), (1, .int (nI s))]) (st' := []) (M' := M_32) rfl rfl rfl rfl ?_
    refine T_aload_n (v := .ref 373) d_Mo_finish_81 rfl (Or.inr ⟨_, rfl⟩) ?_
    refine T_bipush (v := nI 12) d_Mo_finish_82 (by decide) ?_
    refine T_bipush (v := nI 12) d_Mo_finish_84 (by decide) ?_
    have p_34 := (BG.kp (p_31) kp_32 (by decide) (by decide))
    have p_35 := (PTa.kp ((PTa.kp (pd_22) kp_30 (by decide))) kp_32 (by decide))
    obtain ⟨v_37, hov_37, hwv_37, hsv_37, hiv_37⟩ := id p_34
    refine T_virtual (as := [.int (nI 12), .int (nI 12)]) (rest := []) (b := 373) d_Mo_finish_86 rfl (jw_Mo_timesPoint.jo (by decide)) lm_Mo_290 ji_Mo_timesPoint js_Mo_timesPoint hov_37 rfl rfl rfl (Nat.le_of_ble_eq_true rfl) (by decide) (by decide) (b_Mo_times_12 p_32_0 p_34 p_35 p_32_1 (dPt_on hd_22) (Nat.lt_trans (Nat.mod_lt _ qOr_pos) (by decide))) (fun r M_36 hq => ?_)
    obtain ⟨rfl, p_36_0, p_36_1, kp_36⟩ := hq
    refine T_eq (pc' := 89) (L' := [(3, .int (nI ((320 * s)))), (2, .int (nI s)), (0, .ref 373), (1, .int (nI s))]) (st' := []) (M' := M_36) rfl rfl rfl rfl ?_
    refine T_aload_n (v := .ref 373) d_Mo_finish_89 rfl (Or.inr ⟨_, rfl⟩) ?_
    refine T_bipush (v := nI 12) d_Mo_finish_90 (by decide) ?_
    have p_38 := (BG.kp (p_34) kp_36 (by decide) (by decide))
    obtain ⟨v_40, hov_40, hwv_40, hsv_40, hiv_40⟩ := id p_38
    refine T_virtual (as := [.int (nI 12)]) (rest := []) (b := 373) d_Mo_finish_92 rfl (jw_Mo_code.jo (by decide)) lm_Mo_293 ji_Mo_code js_Mo_code hov_40 rfl rfl rfl (Nat.le_of_ble_eq_true rfl) (by decide) (by decide) (b_Mo_code_12 p_36_0 p_38 p_36_1) (fun r M_39 hq => ?_)
    obtain ⟨rfl, p_39_0, p_39_1, p_39_2, kp_39⟩ := hq
    refine T_eq (pc' := 95) (L' := [(3, .int (nI ((320 * s)))), (2, .int (nI s)), (0, .ref 373), (1, .int (nI s))]) (st' := []) (M' := M_39) rfl rfl rfl rfl ?_
    refine T_aload_n (v := .ref 373) d_Mo_finish_95 rfl (Or.inr ⟨_, rfl⟩) ?_
    refine T_aload_n (v := .ref 373) d_Mo_finish_96 rfl (Or.inr ⟨_, rfl⟩) ?_
    have p_41 := (BG.kp (p_38) kp_39 (by decide) (by decide))
    obtain ⟨v_42, hov_42, hwv_42, hsv_42, hiv_42⟩ := id p_41
    refine T_getfield (v := .ref 420) d_Mo_finish_97 fg_Mo_380 hov_42 rfl ?_
    refine T_sipush (v := nI 200) d_Mo_finish_100 (by decide) ?_
    refine T_iload_n d_Mo_finish_103 rfl ?_
    refine N_imul (a := s) (b := 200) (c := (200 * s)) d_Mo_finish_104 rfl ?_
    refine T_aload_n (v := .ref 373) d_Mo_finish_105 rfl (Or.inr ⟨_, rfl⟩) ?_
    refine T_getfield (v := .ref 421) d_Mo_finish_106 fg_Mo_383 hov_42 rfl ?_
    refine T_iload_n d_Mo_finish_109 rfl ?_
    have p_43 := (NR.kp ((NR.kp ((NR.kp ((NR.kp ((NR.kp ((NR.kp ((NR.kp (hps) (Ex.kp s_4) (by decide))) (Ex.kp s_18) (by decide))) kp_22 (by decide))) kp_30 (by decide))) kp_32 (by decide))) kp_36 (by decide))) kp_39 (by decide))
    obtain ⟨f_44, h_45, h_46⟩ := id p_43
    refine N_iaload (k := s) (x := (nI ((ps s)))) d_Mo_finish_110 h_45 (by omega) (by decide) (h_46 s (by omega)) ?_
    have p_47 := (SL.kp ((SL.kp ((SL.kp ((SL.kp ((SL.kp ((SL.kp ((SL.kp (hpw) (Ex.kp s_4) (by decide))) (Ex.kp s_18) (by decide))) kp_22 (by decide))) kp_30 (by decide))) kp_32 (by decide))) kp_36 (by decide))) kp_39 (by decide))
    obtain ⟨L48, hL48, eL48, sg48⟩ := SL.rd p_47 hs
    have p_49 : IA M_39 394 32 (enc E) := (by have g := p_39_2; rw [hE] at g; exact g)
    refine T_virtual (as := [.ref 420, .int (nI ((200 * s))), .int (nI ((ps s)))]) (rest := []) (b := 373) d_Mo_finish_111 rfl (jw_Mo_second.jo (by decide)) lm_Mo_536 ji_Mo_second js_Mo_second hov_42 rfl rfl rfl (Nat.le_of_ble_eq_true rfl) (by decide) (by decide) (b_Mo_second (at0 := (200 * s)) (n := (ps s)) p_39_0 p_41 hL48 p_49 (by rw [eL48]; omega) (by decide) (by omega) (by decide)) (fun r M_50 hq => ?_)
    obtain ⟨rfl, p_50_0, p_50_1, p_50_2, kp_50⟩ := hq
    refine T_eq (pc' := 114) (L' := [(3, .int (nI ((320 * s)))), (2, .int (nI s)), (0, .ref 373), (1, .int (nI s))]) (st' := []) (M' := M_50) rfl rfl rfl rfl ?_
    have p_51 : IA M_50 411 64 R := (by have g := p_50_2; rw [show sl L48 (200 * s) (ps s) = pw s from (sl_sg (b := 0) sg48 (by omega)).trans (sl64 hpl), hR] at g; exact g)
    refine T_aload_n (v := .ref 373) d_Mo_finish_114 rfl (Or.inr ⟨_, rfl⟩) ?_
    obtain ⟨v_53, hov_53, hwv_53, hsv_53, hiv_53⟩ := id p_50_1
    refine T_virtual (as := []) (rest := []) (b := 373) d_Mo_finish_115 rfl (jw_Mo_maskOf.jo (by decide)) lm_Mo_542 ji_Mo_maskOf js_Mo_maskOf hov_53 rfl rfl rfl (Nat.le_of_ble_eq_true rfl) (by decide) (by decide) (b_Mo_maskOf p_50_0 p_50_1 p_51 lR) (fun r M_52 hq => ?_)
    obtain ⟨rfl, p_52_0, p_52_1, p_52_2, kp_52⟩ := hq
    refine T_eq (pc' := 118) (L' := [(3, .int (nI ((320 * s)))), (2, .int (nI s)), (0, .ref 373), (1, .int (nI s))]) (st' := []) (M' := M_52) rfl rfl rfl rfl ?_
    refine T_aload_n (v := .ref 373) d_Mo_finish_118 rfl (Or.inr ⟨_, rfl⟩) ?_
    refine T_aload_n (v := .ref 373) d_Mo_finish_119 rfl (Or.inr ⟨_, rfl⟩) ?_
    obtain ⟨v_54, hov_54, hwv_54, hsv_54, hiv_54⟩ := id p_52_1
    refine T_getfield (v := .ref 417) d_Mo_finish_120 fg_Mo_371 hov_54 rfl ?_
    refine T_iconst (v := nI 0) d_Mo_finish_123 (by decide) ?_
    refine T_aload_n (v := .ref 373) d_Mo_finish_124 rfl (Or.inr ⟨_, rfl⟩) ?_
    refine T_getfield (v := .ref 434) d_Mo_finish_125 fg_Mo_422 hov_54 rfl ?_
    refine T_iload_n d_Mo_finish_128 rfl ?_
    refine T_bipush (v := nI 32) d_Mo_finish_129 (by decide) ?_
    refine N_iadd (a := 32) (b := (320 * s)) (c := ((320 * s) + 32)) d_Mo_finish_131 rfl ?_
    have p_55 := (SL.kp ((SL.kp ((SL.kp ((SL.kp ((SL.kp ((SL.kp ((SL.kp (p_23) kp_22 (by decide))) kp_30 (by decide))) kp_32 (by decide))) kp_36 (by decide))) kp_39 (by decide))) kp_50 (by decide))) kp_52 (by decide))
    obtain ⟨L56, hL56, eL56, sg56⟩ := SL.rd p_55 hs
    have le_L56 : ((320 * s) + 32) + 32 ≤ L56.length := by rw [eL56]; omega
    refine T_virtual (as := [.ref 417, .int (nI 0), .ref 434, .int (nI (((320 * s) + 32)))]) (rest := []) (b := 373) d_Mo_finish_132 rfl (jw_Mo_padOf.jo (by decide)) lm_Mo_578 ji_Mo_padOf js_Mo_padOf hov_54 rfl rfl rfl (Nat.le_of_ble_eq_true rfl) (by decide) (by decide) (b_Mo_padOf (at0 := 0) (a1 := ((320 * s) + 32)) p_52_0 p_52_1 p_52_2 hL56 (by first | omega | (simp only [List.length_append, List.length_cons, List.length_nil, List.length_replicate, sl_len, be_len, sha_len, hmac_len, ex1_len, ex2_len, stretch_len, zer8_len, tC_len, tag1_len, bnN_len, xkp_len, enc_len, chance_len, lbF_len, str2_len, pub_len', sec8_len, mp_len, xSrv_len, xCli_len, xSess_len, seal8_len, mkU_len, lO, lR, sec8_len]; done) | (simp only [List.length_append, List.length_cons, List.length_nil, List.length_replicate, sl_len, be_len, sha_len, hmac_len, ex1_len, ex2_len, stretch_len, zer8_len, tC_len, tag1_len, bnN_len, xkp_len, enc_len, chance_len, lbF_len, str2_len, pub_len', sec8_len, mp_len, xSrv_len, xCli_len, xSess_len, seal8_len, mkU_len, lO, lR, sec8_len]; omega)) (by decide) le_L56 (by decide) (by decide) (by decide)) (fun r M_57 hq => ?_)
    obtain ⟨rfl, p_57_0, p_57_1, p_57_2, kp_57⟩ := hq
    refine T_eq (pc' := 135) (L' := [(3, .int (nI ((320 * s)))), (2, .int (nI s)), (0, .ref 373), (1, .int (nI s))]) (st' := []) (M' := M_57) rfl rfl rfl rfl ?_
    have p_58 : IA M_57 448 128 (ex1 (sl (ex1 R W10) 0 64) (sl (w2 s) 32 32 ++ W15) ++ ex2 (sl (ex1 R W10) 0 64) (sl (w2 s) 32 32 ++ W15)) := (by have g := p_57_2; rw [show sl L56 ((320 * s) + 32) 32 = sl (w2 s) 32 32 from sl_sg (b := 32) sg56 (by first | omega | (simp only [List.length_append, List.length_cons, List.length_nil, List.length_replicate, sl_len, be_len, sha_len, hmac_len, ex1_len, ex2_len, stretch_len, zer8_len, tC_len, tag1_len, bnN_len, xkp_len, enc_len, chance_len, lbF_len, str2_len, pub_len', sec8_len, mp_len, xSrv_len, xCli_len, xSess_len, seal8_len, mkU_len, lO, lR, sec8_len]; done) | (simp only [List.length_append, List.length_cons, List.length_nil, List.length_replicate, sl_len, be_len, sha_len, hmac_len, ex1_len, ex2_len, stretch_len, zer8_len, tC_len, tag1_len, bnN_len, xkp_len, enc_len, chance_len, lbF_len, str2_len, pub_len', sec8_len, mp_len, xSrv_len, xCli_len, xSess_len, seal8_len, mkU_len, lO, lR, sec8_len]; omega))] at g; exact g)
    have p_59 : IA M_57 448 128 (ex1 (ex1 R W10) (sl (w2 s) 32 32 ++ W15) ++ ex2 (ex1 R W10) (sl (w2 s) 32 32 ++ W15)) := (by have g := p_58; rw [sl64 (ex1_len _ _)] at g; exact g)
    refine T_iconst (v := nI 0) d_Mo_finish_135 (by decide) ?_
    refine T_istore (L' := [(4, .int (nI 0)), (3, .int (nI ((320 * s)))), (2, .int (nI s)), (0, .ref 373), (1, .int (nI s))]) d_Mo_finish_136 (by decide) rfl ?_
    have p_60 := (SL.kp (p_55) kp_57 (by decide))
    obtain ⟨L61, hL61, eL61, sg61⟩ := SL.rd p_60 hs
    refine T_sub (L' := [(4, .int (nI 0)), (3, .int (nI ((320 * s)))), (2, .int (nI s)), (1, .int (nI s)), (0, .ref 373)]) (fun q hq => by simp only [List.mem_cons, List.not_mem_nil, or_false] at hq ⊢; rcases hq with rfl | rfl | rfl | rfl | rfl <;> simp) ?_
    refine fi_o G p_57_1 hL61 p_59 eL61 (by first | omega | (simp only [List.length_append, List.length_cons, List.length_nil, List.length_replicate, sl_len, be_len, sha_len, hmac_len, ex1_len, ex2_len, stretch_len, zer8_len, tC_len, tag1_len, bnN_len, xkp_len, enc_len, chance_len, lbF_len, str2_len, pub_len', sec8_len, mp_len, xSrv_len, xCli_len, xSess_len, seal8_len, mkU_len, lO, lR, sec8_len]; done) | (simp only [List.length_append, List.length_cons, List.length_nil, List.length_replicate, sl_len, be_len, sha_len, hmac_len, ex1_len, ex2_len, stretch_len, zer8_len, tC_len, tag1_len, bnN_len, xkp_len, enc_len, chance_len, lbF_len, str2_len, pub_len', sec8_len, mp_len, xSrv_len, xCli_len, xSess_len, seal8_len, mkU_len, lO, lR, sec8_len]; omega)) hs (fun Mo1 hI => ?_) 128 0 M_57 rfl ⟨MS.ia p_57_0 (p := 450) (n := 128) (by decide), Kp.rf⟩
    obtain ⟨io1, ko1⟩ := hI
    have mso := MS.w1 p_57_0 ko1 io1.iq (by decide)
    have io2 : IA Mo1 450 128 O := by
      rw [← hO]; refine io1.cut (by rw [mp_len, xr_len]; decide) fun i hi => ?_
      rw [xr_len] at hi; unfold xr; rw [mr_gd hi, mp_gd hi, sl_gd hi, Nat.zero_add, Nat.add_assoc, sg61 (64 + i) (by rw [hw]; omega)]
    refine T_iconst (v := nI 0) d_Mo_finish_179 (by decide) ?_
    refine T_istore (L' := [(4, .int (nI 0)), (3, .int (nI ((320 * s)))), (2, .int (nI s)), (1, .int (nI s)), (0, .ref 373)]) d_Mo_finish_180 (by decide) rfl ?_
    have p_62 := (BG.kp (p_57_1) ko1 (by decide) (by decide))
    refine fi_n G p_62 io2 (by decide) (by first | omega | (simp only [List.length_append, List.length_cons, List.length_nil, List.length_replicate, sl_len, be_len, sha_len, hmac_len, ex1_len, ex2_len, stretch_len, zer8_len, tC_len, tag1_len, bnN_len, xkp_len, enc_len, chance_len, lbF_len, str2_len, pub_len', sec8_len, mp_len, xSrv_len, xCli_len, xSess_len, seal8_len, mkU_len, lO, lR, sec8_len]; done) | (simp only [List.length_append, List.length_cons, List.length_nil, List.length_replicate, sl_len, be_len, sha_len, hmac_len, ex1_len, ex2_len, stretch_len, zer8_len, tC_len, tag1_len, bnN_len, xkp_len, enc_len, chance_len, lbF_len, str2_len, pub_len', sec8_len, mp_len, xSrv_len, xCli_len, xSess_len, seal8_len, mkU_len, lO, lR, sec8_len]; omega)) (by decide) (fun Mc63 hI => ?_) 32 0 Mo1 (Nat.zero_add _) ⟨by rw [sl_zero]; exact (MS.ia mso (p := 412) (n := 32) (by decide)), Kp.rf⟩
    obtain ⟨hd63, hK63⟩ := hI
    have ms63 := MS.wi mso hK63 hd63.iq (by decide) (by decide) (by decide)
    refine T_aload_n (v := .ref 373) d_Mo_finish_212 rfl (Or.inr ⟨_, rfl⟩) ?_
    refine T_aload_n (v := .ref 373) d_Mo_finish_213 rfl (Or.inr ⟨_, rfl⟩) ?_
    have p_64 := (BG.kp (p_62) hK63 (by decide) (by decide))
    obtain ⟨v_65, hov_65, hwv_65, hsv_65, hiv_65⟩ := id p_64
    refine T_getfield (v := .ref 450) d_Mo_finish_214 fg_Mo_473 hov_65 rfl ?_
    refine T_iconst (v := nI 0) d_Mo_finish_217 (by decide) ?_
    have p_66 := (IA.kp (io2) hK63 (by decide))
    have p_67 := (IA.kp ((IA.kp ((IA.kp ((IA.kp (p_51) kp_52 (by decide))) kp_57 (by decide))) ko1 (by decide))) hK63 (by decide))
    refine T_virtual (as := [.ref 450, .int (nI 0)]) (rest := []) (b := 373) d_Mo_finish_218 rfl (jw_Mo_opens.jo (by decide)) lm_Mo_539 ji_Mo_opens js_Mo_opens hov_65 rfl rfl rfl (Nat.le_of_ble_eq_true rfl) (by decide) (by decide) (b_Mo_opens (at0 := 0) ms63 p_64 p_66 hd63 p_67 (by first | omega | (simp only [List.length_append, List.length_cons, List.length_nil, List.length_replicate, sl_len, be_len, sha_len, hmac_len, ex1_len, ex2_len, stretch_len, zer8_len, tC_len, tag1_len, bnN_len, xkp_len, enc_len, chance_len, lbF_len, str2_len, pub_len', sec8_len, mp_len, xSrv_len, xCli_len, xSess_len, seal8_len, mkU_len, lO, lR, sec8_len]; done) | (simp only [List.length_append, List.length_cons, List.length_nil, List.length_replicate, sl_len, be_len, sha_len, hmac_len, ex1_len, ex2_len, stretch_len, zer8_len, tC_len, tag1_len, bnN_len, xkp_len, enc_len, chance_len, lbF_len, str2_len, pub_len', sec8_len, mp_len, xSrv_len, xCli_len, xSess_len, seal8_len, mkU_len, lO, lR, sec8_len]; omega)) (by decide) (sl_len _ _ _) lR (by decide)) (fun r M_68 hq => ?_)
    obtain ⟨rfl, p_68_0, p_68_1, p_68_2, p_68_3, p_68_4, p_68_5, kp_68⟩ := hq
    refine T_eq (pc' := 221) (L' := [(3, .int (nI ((320 * s)))), (2, .int (nI s)), (1, .int (nI s)), (0, .ref 373)]) (st' := []) (M' := M_68) rfl rfl rfl rfl ?_
    have p_69 : SC M_68 414 16 0 K := (by have g := p_68_2; rw [hK] at g; exact g)
    have p_70 : IA M_68 413 32 (pub K) := (by have g := p_68_3; rw [hK] at g; exact g)
    refine T_iconst (v := nI 0) d_Mo_finish_221 (by decide) ?_
    refine T_istore (L' := [(4, .int (nI 0)), (3, .int (nI ((320 * s)))), (2, .int (nI s)), (1, .int (nI s)), (0, .ref 373)]) d_Mo_finish_222 (by decide) rfl ?_
    have cl3 : elB O (seal8 R (sl O 32 32) (sl O 0 32)) 64 0 = true ↔ ∀ i, i < 64 → gd (seal8 R (sl O 32 32) (sl O 0 32)) (0 + i) = gd O (64 + i) := (elB_i (by rw [lO])).trans ⟨fun h i hi => (h i hi).symm, fun h i hi => (h i hi).symm⟩
    have p_71 := (IA.kp (p_66) kp_68 (by decide))
    refine fi_3 G p_68_1 p_68_5 p_71 (by first | omega | (simp only [List.length_append, List.length_cons, List.length_nil, List.length_replicate, sl_len, be_len, sha_len, hmac_len, ex1_len, ex2_len, stretch_len, zer8_len, tC_len, tag1_len, bnN_len, xkp_len, enc_len, chance_len, lbF_len, str2_len, pub_len', sec8_len, mp_len, xSrv_len, xCli_len, xSess_len, seal8_len, mkU_len, lO, lR, sec8_len]; done) | (simp only [List.length_append, List.length_cons, List.length_nil, List.length_replicate, sl_len, be_len, sha_len, hmac_len, ex1_len, ex2_len, stretch_len, zer8_len, tC_len, tag1_len, bnN_len, xkp_len, enc_len, chance_len, lbF_len, str2_len, pub_len', sec8_len, mp_len, xSrv_len, xCli_len, xSess_len, seal8_len, mkU_len, lO, lR, sec8_len]; omega)) (by rw [lO]; decide) (fun hc3 => ?_) (fun hc3 => ?_) 64 0 rfl (fun i hi => absurd hi (Nat.not_lt_zero i))
    rotate_left
    ·
      have rv : csR (w2 s) O (seal8 R (sl O 32 32) (sl O 0 32)) (xSrv J P) = 3 := by unfold csR; rw [if_pos hd_22, if_neg (fun c => hc3 (cl3.mp c))]
      have kb9 : Kp fbW M M_68 := (Kp.tr (Kp.tr (Kp.tr (Kp.tr (Kp.tr (Kp.tr (Kp.tr (Kp.tr (Kp.tr (Kp.tr (Kp.tr (Kp.ex (Kp.ex (Kp.rf : Kp [373, 374, 380, 381, 382, 383, 384, 385, 387, 388, 389, 390, 391, 392, 393, 394, 395, 397, 398, 399, 400, 401, 408, 411, 412, 413, 414, 415, 416, 417, 428, 440, 441, 442, 443, 444, 445, 446, 447, 448, 450] M M) s_4 (by decide)) s_18 (by decide)) (Kp.mono kp_22 (by decide))) (Kp.mono kp_30 (by decide))) (Kp.mono kp_32 (by decide))) (Kp.mono kp_36 (by decide))) (Kp.mono kp_39 (by decide))) (Kp.mono kp_50 (by decide +kernel))) (Kp.mono kp_52 (by decide +kernel))) (Kp.mono kp_57 (by decide +kernel))) (Kp.mono ko1 (by decide))) (Kp.mono hK63 (by decide))) (Kp.mono kp_68 (by decide +kernel)))
      have nb_ : NB M_68 sd ch n m 0 := ⟨_, p_68_1, (show (upd w 66 (nI 0)) 66 = (nI 0) from rfl), (show (upd w 66 (nI 0)) 71 = sd from h71), (show (upd w 66 (nI 0)) 72 = (nI ch) from h72), (show (upd w 66 (nI 0)) 73 = (nI n) from h73), (show (upd w 66 (nI 0)) 74 = (nI m) from h74)⟩
      have p_72 := (ZR.kp ((ZR.kp ((ZR.kp ((ZR.kp ((ZR.kp ((ZR.kp ((ZR.kp ((ZR.kp ((ZR.kp ((ZR.kp ((ZR.kp (p_19) kp_22 (by decide))) kp_30 (by decide))) kp_32 (by decide))) kp_36 (by decide))) kp_39 (by decide))) kp_50 (by decide))) kp_52 (by decide))) kp_57 (by decide))) ko1 (by decide))) hK63 (by decide))) kp_68 (by decide))
      exact ⟨by rw [rv], p_68_0, nb_, p_72, (fun c => absurd (rv.symm.trans c) (by decide)), (fun _ => kb9), kb9.mono (by decide)⟩
    refine T_aload_n (v := .ref 373) d_Mo_finish_259 rfl (Or.inr ⟨_, rfl⟩) ?_
    refine T_bipush (v := nI 12) d_Mo_finish_260 (by decide) ?_
    refine T_aload_n (v := .ref 373) d_Mo_finish_262 rfl (Or.inr ⟨_, rfl⟩) ?_
    obtain ⟨v_73, hov_73, hwv_73, hsv_73, hiv_73⟩ := id p_68_1
    refine T_getfield (v := .ref 450) d_Mo_finish_263 fg_Mo_473 hov_73 rfl ?_
    refine T_iconst (v := nI 0) d_Mo_finish_266 (by decide) ?_
    refine T_virtual (as := [.int (nI 12), .ref 450, .int (nI 0)]) (rest := []) (b := 373) d_Mo_finish_267 rfl (jw_Mo_decode.jo (by decide)) lm_Mo_502 ji_Mo_decode js_Mo_decode hov_73 rfl rfl rfl (Nat.le_of_ble_eq_true rfl) (by decide) (by decide) (b_Mo_decode (at0 := 0) p_68_0 p_68_1 p_71 (by first | omega | (simp only [List.length_append, List.length_cons, List.length_nil, List.length_replicate, sl_len, be_len, sha_len, hmac_len, ex1_len, ex2_len, stretch_len, zer8_len, tC_len, tag1_len, bnN_len, xkp_len, enc_len, chance_len, lbF_len, str2_len, pub_len', sec8_len, mp_len, xSrv_len, xCli_len, xSess_len, seal8_len, mkU_len, lO, lR, sec8_len]; done) | (simp only [List.length_append, List.length_cons, List.length_nil, List.length_replicate, sl_len, be_len, sha_len, hmac_len, ex1_len, ex2_len, stretch_len, zer8_len, tC_len, tag1_len, bnN_len, xkp_len, enc_len, chance_len, lbF_len, str2_len, pub_len', sec8_len, mp_len, xSrv_len, xCli_len, xSess_len, seal8_len, mkU_len, lO, lR, sec8_len]; omega)) (by decide) (by decide)) (fun r M_74 hq => ?_)
    obtain ⟨rfl, ms_74, pt_74, kp_74⟩ := hq
    by_cases hd_74 : dec (nB O 0)
    · rw [if_pos hd_74]
      have pd_74 := pt_74 hd_74
      refine T_eq (pc' := 270) (L' := [(3, .int (nI ((320 * s)))), (2, .int (nI s)), (1, .int (nI s)), (0, .ref 373)]) (st' := [.int (nI 1)]) (M' := M_74) rfl rfl rfl rfl ?_
      refine N_if_eq_f (b := 1) d_Mo_finish_270 (tgt := 291) rfl (by omega) (by omega) ?_
      refine T_aload_n (v := .ref 373) d_Mo_finish_273 rfl (Or.inr ⟨_, rfl⟩) ?_
      refine T_bipush (v := nI 12) d_Mo_finish_274 (by decide) ?_
      refine T_aload_n (v := .ref 373) d_Mo_finish_276 rfl (Or.inr ⟨_, rfl⟩) ?_
      have p_75 := (BG.kp (p_68_1) kp_74 (by decide) (by decide))
      obtain ⟨v_76, hov_76, hwv_76, hsv_76, hiv_76⟩ := id p_75
      refine T_getfield (v := .ref 434) d_Mo_finish_277 fg_Mo_422 hov_76 rfl ?_
      refine T_iload_n d_Mo_finish_280 rfl ?_
      refine T_sipush (v := nI 224) d_Mo_finish_281 (by decide) ?_
      refine N_iadd (a := 224) (b := (320 * s)) (c := ((320 * s) + 224)) d_Mo_finish_284 rfl ?_
      have p_78 := (SL.kp ((SL.kp ((SL.kp ((SL.kp (p_60) ko1 (by decide))) hK63 (by decide))) kp_68 (by decide))) kp_74 (by decide))
      obtain ⟨L79, hL79, eL79, sg79⟩ := SL.rd p_78 hs
      have nq_77 : nB L79 ((320 * s) + 224) = nB (w2 s) 224 := nB_sg (b := 224) sg79 (by first | omega | (simp only [List.length_append, List.length_cons, List.length_nil, List.length_replicate, sl_len, be_len, sha_len, hmac_len, ex1_len, ex2_len, stretch_len, zer8_len, tC_len, tag1_len, bnN_len, xkp_len, enc_len, chance_len, lbF_len, str2_len, pub_len', sec8_len, mp_len, xSrv_len, xCli_len, xSess_len, seal8_len, mkU_len, lO, lR, sec8_len]; done) | (simp only [List.length_append, List.length_cons, List.length_nil, List.length_replicate, sl_len, be_len, sha_len, hmac_len, ex1_len, ex2_len, stretch_len, zer8_len, tC_len, tag1_len, bnN_len, xkp_len, enc_len, chance_len, lbF_len, str2_len, pub_len', sec8_len, mp_len, xSrv_len, xCli_len, xSess_len, seal8_len, mkU_len, lO, lR, sec8_len]; omega))
      have ln_77 : ((320 * s) + 224) + 32 ≤ L79.length := by rw [eL79]; omega
      refine T_virtual (as := [.int (nI 12), .ref 434, .int (nI (((320 * s) + 224)))]) (rest := []) (b := 373) d_Mo_finish_285 rfl (jw_Mo_decode.jo (by decide)) lm_Mo_502 ji_Mo_decode js_Mo_decode hov_76 rfl rfl rfl (Nat.le_of_ble_eq_true rfl) (by decide) (by decide) (b_Mo_decode (at0 := ((320 * s) + 224)) ms_74 p_75 hL79 ln_77 (by decide) (by decide)) (fun r M_77 hq => ?_)
      rw [nq_77] at hq
      obtain ⟨rfl, ms_77, pt_77, kp_77⟩ := hq
      by_cases hd_77 : dec (nB (w2 s) 224)
      · rw [if_pos hd_77]
        have pd_77 := pt_77 hd_77
        refine T_eq (pc' := 288) (L' := [(3, .int (nI ((320 * s)))), (2, .int (nI s)), (1, .int (nI s)), (0, .ref 373)]) (st' := [.int (nI 1)]) (M' := M_77) rfl rfl rfl rfl ?_
        refine N_if_ne_t (b := 1) d_Mo_finish_288 (tgt := 293) rfl (by omega) (by omega) ?_
        have p_80 := (SL.kp ((SL.kp ((SL.kp ((SL.kp ((SL.kp ((SL.kp ((SL.kp ((SL.kp ((SL.kp ((SL.kp ((SL.kp ((SL.kp ((SL.kp ((SL.kp ((SL.kp (hw3) (Ex.kp s_4) (by decide))) (Ex.kp s_18) (by decide))) kp_22 (by decide))) kp_30 (by decide))) kp_32 (by decide))) kp_36 (by decide))) kp_39 (by decide))) kp_50 (by decide))) kp_52 (by decide))) kp_57 (by decide))) ko1 (by decide))) hK63 (by decide))) kp_68 (by decide))) kp_74 (by decide))) kp_77 (by decide))
        obtain ⟨R81, ro81, px81⟩ := SL.ro p_80 hs (by decide)
        have p_82 := (SL.kp ((SL.kp ((SL.kp ((SL.kp ((SL.kp ((SL.kp ((SL.kp ((SL.kp ((SL.kp ((SL.kp ((SL.kp ((SL.kp ((SL.kp ((SL.kp ((SL.kp (hcs) (Ex.kp s_4) (by decide))) (Ex.kp s_18) (by decide))) kp_22 (by decide))) kp_30 (by decide))) kp_32 (by decide))) kp_36 (by decide))) kp_39 (by decide))) kp_50 (by decide))) kp_52 (by decide))) kp_57 (by decide))) ko1 (by decide))) hK63 (by decide))) kp_68 (by decide))) kp_74 (by decide))) kp_77 (by decide))
        obtain ⟨R83, ro83, px83⟩ := SL.ro p_82 hs (by decide)
        have p_84 := (SL.kp ((SL.kp ((SL.kp ((SL.kp ((SL.kp ((SL.kp ((SL.kp ((SL.kp ((SL.kp ((SL.kp ((SL.kp ((SL.kp ((SL.kp ((SL.kp ((SL.kp (hxs) (Ex.kp s_4) (by decide))) (Ex.kp s_18) (by decide))) kp_22 (by decide))) kp_30 (by decide))) kp_32 (by decide))) kp_36 (by decide))) kp_39 (by decide))) kp_50 (by decide))) kp_52 (by decide))) kp_57 (by decide))) ko1 (by decide))) hK63 (by decide))) kp_68 (by decide))) kp_74 (by decide))) kp_77 (by decide))
        obtain ⟨R85, ro85, px85⟩ := SL.ro p_84 hs (by decide)
        refine T_aload_n (v := .ref 373) d_Mo_finish_293 rfl (Or.inr ⟨_, rfl⟩) ?_
        refine T_aload_n (v := .ref 373) d_Mo_finish_294 rfl (Or.inr ⟨_, rfl⟩) ?_
        have p_86 := (BG.kp (p_75) kp_77 (by decide) (by decide))
        obtain ⟨v_87, hov_87, hwv_87, hsv_87, hiv_87⟩ := id p_86
        refine T_getfield (v := .ref 423) d_Mo_finish_295 fg_Mo_389 hov_87 rfl ?_
        refine T_bipush (v := nI 16) d_Mo_finish_298 (by decide) ?_
        refine T_iload_n d_Mo_finish_300 rfl ?_
        refine N_imul (a := s) (b := 16) (c := (16 * s)) d_Mo_finish_301 rfl ?_
        have p_88 := (LR.kp ((LR.kp ((LR.kp ((LR.kp ((LR.kp ((LR.kp ((LR.kp ((LR.kp ((LR.kp ((LR.kp ((LR.kp ((LR.kp ((LR.kp ((LR.kp ((LR.kp (lep) (Ex.kp s_4) (by decide))) (Ex.kp s_18) (by decide))) kp_22 (by decide))) kp_30 (by decide))) kp_32 (by decide))) kp_36 (by decide))) kp_39 (by decide))) kp_50 (by decide))) kp_52 (by decide))) kp_57 (by decide))) ko1 (by decide))) hK63 (by decide))) kp_68 (by decide))) kp_74 (by decide))) kp_77 (by decide))
        have sx_89 := LR.sc p_88 hs
        refine T_virtual (as := [.ref 423, .int (nI ((16 * s)))]) (rest := []) (b := 373) d_Mo_finish_302 rfl (jw_Mo_takeScalar.jo (by decide)) lm_Mo_533 ji_Mo_takeScalar js_Mo_takeScalar hov_87 rfl rfl rfl (Nat.le_of_ble_eq_true rfl) (by decide) (by decide) (b_Mo_take (at0 := (16 * s)) ms_77 p_86 sx_89 (by omega) (by decide) (by decide)) (fun r M_90 hq => ?_)
        obtain ⟨rfl, p_90_0, p_90_1, kp_90⟩ := hq
        refine T_eq (pc' := 305) (L' := [(3, .int (nI ((320 * s)))), (2, .int (nI s)), (1, .int (nI s)), (0, .ref 373)]) (st' := []) (M' := M_90) rfl rfl rfl rfl ?_
        refine T_aload_n (v := .ref 373) d_Mo_finish_305 rfl (Or.inr ⟨_, rfl⟩) ?_
        refine T_iconst (v := nI 0) d_Mo_finish_306 (by decide) ?_
        refine T_bipush (v := nI 12) d_Mo_finish_307 (by decide) ?_
        have p_91 := (BG.kp (p_86) kp_90 (by decide) (by decide))
        have p_92 := (PTa.kp (pd_77) kp_90 (by decide))
        have p_93 := (SH.kp ((MS.sh ms_77)) kp_90 (by decide))
        obtain ⟨v_95, hov_95, hwv_95, hsv_95, hiv_95⟩ := id p_91
        refine T_virtual (as := [.int (nI 0), .int (nI 12)]) (rest := []) (b := 373) d_Mo_finish_309 rfl (jw_Mo_share.jo (by decide)) lm_Mo_582 ji_Mo_share js_Mo_share hov_95 rfl rfl rfl (Nat.le_of_ble_eq_true rfl) (by decide) (by decide) (b_Mo_share (j := 0) (at0 := 0) p_90_0 p_91 p_90_1 p_92 p_93 (dPt_on hd_77) hx2 (by decide) (by decide)) (fun r M_94 hq => ?_)
        obtain ⟨rfl, p_94_0, p_94_1, p_94_2, kp_94⟩ := hq
        refine T_eq (pc' := 312) (L' := [(3, .int (nI ((320 * s)))), (2, .int (nI s)), (1, .int (nI s)), (0, .ref 373)]) (st' := []) (M' := M_94) rfl rfl rfl rfl ?_
        refine T_aload_n (v := .ref 373) d_Mo_finish_312 rfl (Or.inr ⟨_, rfl⟩) ?_
        refine T_aload_n (v := .ref 373) d_Mo_finish_313 rfl (Or.inr ⟨_, rfl⟩) ?_
        have p_96 := (BG.kp (p_91) kp_94 (by decide) (by decide))
        obtain ⟨v_97, hov_97, hwv_97, hsv_97, hiv_97⟩ := id p_96
        refine T_getfield (v := .ref 414) d_Mo_finish_314 fg_Mo_362 hov_97 rfl ?_
        refine T_iconst (v := nI 0) d_Mo_finish_317 (by decide) ?_
        have p_98 := (SC.kp ((SC.kp ((SC.kp ((SC.kp (p_69) kp_74 (by decide))) kp_77 (by decide))) kp_90 (by decide))) kp_94 (by decide))
        refine T_virtual (as := [.ref 414, .int (nI 0)]) (rest := []) (b := 373) d_Mo_finish_318 rfl (jw_Mo_takeScalar.jo (by decide)) lm_Mo_533 ji_Mo_takeScalar js_Mo_takeScalar hov_97 rfl rfl rfl (Nat.le_of_ble_eq_true rfl) (by decide) (by decide) (b_Mo_take (at0 := 0) p_94_0 p_96 p_98 (by decide) (by decide) (by decide)) (fun r M_99 hq => ?_)
        obtain ⟨rfl, p_99_0, p_99_1, kp_99⟩ := hq
        refine T_eq (pc' := 321) (L' := [(3, .int (nI ((320 * s)))), (2, .int (nI s)), (1, .int (nI s)), (0, .ref 373)]) (st' := []) (M' := M_99) rfl rfl rfl rfl ?_
        refine T_aload_n (v := .ref 373) d_Mo_finish_321 rfl (Or.inr ⟨_, rfl⟩) ?_
        refine T_bipush (v := nI 64) d_Mo_finish_322 (by decide) ?_
        refine T_bipush (v := nI 12) d_Mo_finish_324 (by decide) ?_
        have p_100 := (BG.kp (p_96) kp_99 (by decide) (by decide))
        have p_101 := (PTa.kp (p_94_1) kp_99 (by decide))
        have p_102 := (SH.kp (p_94_2) kp_99 (by decide))
        obtain ⟨v_104, hov_104, hwv_104, hsv_104, hiv_104⟩ := id p_100
        refine T_virtual (as := [.int (nI 64), .int (nI 12)]) (rest := []) (b := 373) d_Mo_finish_326 rfl (jw_Mo_share.jo (by decide)) lm_Mo_582 ji_Mo_share js_Mo_share hov_104 rfl rfl rfl (Nat.le_of_ble_eq_true rfl) (by decide) (by decide) (b_Mo_share (j := 2) (at0 := 64) p_99_0 p_100 p_99_1 p_101 p_102 (dPt_on hd_77) hK2 (by decide) (by decide)) (fun r M_103 hq => ?_)
        obtain ⟨rfl, p_103_0, p_103_1, p_103_2, kp_103⟩ := hq
        refine T_eq (pc' := 329) (L' := [(3, .int (nI ((320 * s)))), (2, .int (nI s)), (1, .int (nI s)), (0, .ref 373)]) (st' := []) (M' := M_103) rfl rfl rfl rfl ?_
        refine T_aload_n (v := .ref 373) d_Mo_finish_329 rfl (Or.inr ⟨_, rfl⟩) ?_
        refine T_bipush (v := nI 12) d_Mo_finish_330 (by decide) ?_
        refine T_aload_n (v := .ref 373) d_Mo_finish_332 rfl (Or.inr ⟨_, rfl⟩) ?_
        have p_105 := (BG.kp (p_100) kp_103 (by decide) (by decide))
        obtain ⟨v_106, hov_106, hwv_106, hsv_106, hiv_106⟩ := id p_105
        refine T_getfield (v := .ref 450) d_Mo_finish_333 fg_Mo_473 hov_106 rfl ?_
        refine T_iconst (v := nI 0) d_Mo_finish_336 (by decide) ?_
        have p_108 := (IA.kp ((IA.kp ((IA.kp ((IA.kp ((IA.kp ((IA.kp (p_71) kp_74 (by decide))) kp_77 (by decide))) kp_90 (by decide))) kp_94 (by decide))) kp_99 (by decide))) kp_103 (by decide))
        refine T_virtual (as := [.int (nI 12), .ref 450, .int (nI 0)]) (rest := []) (b := 373) d_Mo_finish_337 rfl (jw_Mo_decode.jo (by decide)) lm_Mo_502 ji_Mo_decode js_Mo_decode hov_106 rfl rfl rfl (Nat.le_of_ble_eq_true rfl) (by decide) (by decide) (b_Mo_decode (at0 := 0) p_103_0 p_105 p_108 (by first | omega | (simp only [List.length_append, List.length_cons, List.length_nil, List.length_replicate, sl_len, be_len, sha_len, hmac_len, ex1_len, ex2_len, stretch_len, zer8_len, tC_len, tag1_len, bnN_len, xkp_len, enc_len, chance_len, lbF_len, str2_len, pub_len', sec8_len, mp_len, xSrv_len, xCli_len, xSess_len, seal8_len, mkU_len, lO, lR, sec8_len]; done) | (simp only [List.length_append, List.length_cons, List.length_nil, List.length_replicate, sl_len, be_len, sha_len, hmac_len, ex1_len, ex2_len, stretch_len, zer8_len, tC_len, tag1_len, bnN_len, xkp_len, enc_len, chance_len, lbF_len, str2_len, pub_len', sec8_len, mp_len, xSrv_len, xCli_len, xSess_len, seal8_len, mkU_len, lO, lR, sec8_len]; omega)) (by decide) (by decide)) (fun r M_107 hq => ?_)
        obtain ⟨rfl, ms_107, pt_107, kp_107⟩ := hq
        rw [if_pos hd_74]
        have pd_107 := pt_107 hd_74
        refine T_eq (pc' := 340) (L' := [(3, .int (nI ((320 * s)))), (2, .int (nI s)), (1, .int (nI s)), (0, .ref 373)]) (st' := [.int (nI 1)]) (M' := M_107) rfl rfl rfl rfl ?_
        refine T_pop d_Mo_finish_340 rfl ?_
        refine T_aload_n (v := .ref 373) d_Mo_finish_341 rfl (Or.inr ⟨_, rfl⟩) ?_
        refine T_aload_n (v := .ref 373) d_Mo_finish_342 rfl (Or.inr ⟨_, rfl⟩) ?_
        have p_109 := (BG.kp (p_105) kp_107 (by decide) (by decide))
        obtain ⟨v_110, hov_110, hwv_110, hsv_110, hiv_110⟩ := id p_109
        refine T_getfield (v := .ref 423) d_Mo_finish_343 fg_Mo_389 hov_110 rfl ?_
        refine T_bipush (v := nI 16) d_Mo_finish_346 (by decide) ?_
        refine T_iload_n d_Mo_finish_348 rfl ?_
        refine N_imul (a := s) (b := 16) (c := (16 * s)) d_Mo_finish_349 rfl ?_
        have p_111 := (LR.kp ((LR.kp ((LR.kp ((LR.kp ((LR.kp (p_88) kp_90 (by decide))) kp_94 (by decide))) kp_99 (by decide))) kp_103 (by decide))) kp_107 (by decide))
        have sx_112 := LR.sc p_111 hs
        refine T_virtual (as := [.ref 423, .int (nI ((16 * s)))]) (rest := []) (b := 373) d_Mo_finish_350 rfl (jw_Mo_takeScalar.jo (by decide)) lm_Mo_533 ji_Mo_takeScalar js_Mo_takeScalar hov_110 rfl rfl rfl (Nat.le_of_ble_eq_true rfl) (by decide) (by decide) (b_Mo_take (at0 := (16 * s)) ms_107 p_109 sx_112 (by omega) (by decide) (by decide)) (fun r M_113 hq => ?_)
        obtain ⟨rfl, p_113_0, p_113_1, kp_113⟩ := hq
        refine T_eq (pc' := 353) (L' := [(3, .int (nI ((320 * s)))), (2, .int (nI s)), (1, .int (nI s)), (0, .ref 373)]) (st' := []) (M' := M_113) rfl rfl rfl rfl ?_
        refine T_aload_n (v := .ref 373) d_Mo_finish_353 rfl (Or.inr ⟨_, rfl⟩) ?_
        refine T_bipush (v := nI 32) d_Mo_finish_354 (by decide) ?_
        refine T_bipush (v := nI 12) d_Mo_finish_356 (by decide) ?_
        have p_114 := (BG.kp (p_109) kp_113 (by decide) (by decide))
        have p_115 := (PTa.kp (pd_107) kp_113 (by decide))
        have p_116 := (SH.kp ((SH.kp (p_103_2) kp_107 (by decide))) kp_113 (by decide))
        obtain ⟨v_118, hov_118, hwv_118, hsv_118, hiv_118⟩ := id p_114
        refine T_virtual (as := [.int (nI 32), .int (nI 12)]) (rest := []) (b := 373) d_Mo_finish_358 rfl (jw_Mo_share.jo (by decide)) lm_Mo_582 ji_Mo_share js_Mo_share hov_118 rfl rfl rfl (Nat.le_of_ble_eq_true rfl) (by decide) (by decide) (b_Mo_share (j := 1) (at0 := 32) p_113_0 p_114 p_113_1 p_115 p_116 (dPt_on hd_74) hx2 (by decide) (by decide)) (fun r M_117 hq => ?_)
        obtain ⟨rfl, p_117_0, p_117_1, p_117_2, kp_117⟩ := hq
        refine T_eq (pc' := 361) (L' := [(3, .int (nI ((320 * s)))), (2, .int (nI s)), (1, .int (nI s)), (0, .ref 373)]) (st' := []) (M' := M_117) rfl rfl rfl rfl ?_
        refine T_aload_n (v := .ref 373) d_Mo_finish_361 rfl (Or.inr ⟨_, rfl⟩) ?_
        refine T_aload_n (v := .ref 373) d_Mo_finish_362 rfl (Or.inr ⟨_, rfl⟩) ?_
        have p_119 := (BG.kp (p_114) kp_117 (by decide) (by decide))
        obtain ⟨v_120, hov_120, hwv_120, hsv_120, hiv_120⟩ := id p_119
        refine T_getfield (v := .ref 413) d_Mo_finish_363 fg_Mo_359 hov_120 rfl ?_
        refine T_iconst (v := nI 0) d_Mo_finish_366 (by decide) ?_
        refine T_aload_n (v := .ref 373) d_Mo_finish_367 rfl (Or.inr ⟨_, rfl⟩) ?_
        refine T_getfield (v := .ref 432) d_Mo_finish_368 fg_Mo_416 hov_120 rfl ?_
        refine T_bipush (v := nI 96) d_Mo_finish_371 (by decide) ?_
        refine T_iload_n d_Mo_finish_373 rfl ?_
        refine N_imul (a := s) (b := 96) (c := (96 * s)) d_Mo_finish_374 rfl ?_
        refine T_aload_n (v := .ref 373) d_Mo_finish_375 rfl (Or.inr ⟨_, rfl⟩) ?_
        refine T_getfield (v := .ref 450) d_Mo_finish_376 fg_Mo_473 hov_120 rfl ?_
        refine T_iconst (v := nI 0) d_Mo_finish_379 (by decide) ?_
        refine T_aload_n (v := .ref 373) d_Mo_finish_380 rfl (Or.inr ⟨_, rfl⟩) ?_
        refine T_getfield (v := .ref 434) d_Mo_finish_381 fg_Mo_422 hov_120 rfl ?_
        refine T_iload_n d_Mo_finish_384 rfl ?_
        have p_121 := (SL.kp ((SL.kp ((SL.kp ((SL.kp ((SL.kp ((SL.kp ((SL.kp ((SL.kp ((SL.kp ((SL.kp ((SL.kp ((SL.kp ((SL.kp ((SL.kp ((SL.kp ((SL.kp ((SL.kp ((SL.kp ((SL.kp ((SL.kp ((SL.kp ((SL.kp (hsn) (Ex.kp s_4) (by decide))) (Ex.kp s_18) (by decide))) kp_22 (by decide))) kp_30 (by decide))) kp_32 (by decide))) kp_36 (by decide))) kp_39 (by decide))) kp_50 (by decide))) kp_52 (by decide))) kp_57 (by decide))) ko1 (by decide))) hK63 (by decide))) kp_68 (by decide))) kp_74 (by decide))) kp_77 (by decide))) kp_90 (by decide))) kp_94 (by decide))) kp_99 (by decide))) kp_103 (by decide))) kp_107 (by decide))) kp_113 (by decide))) kp_117 (by decide))
        obtain ⟨L122, hL122, eL122, sg122⟩ := SL.rd p_121 hs
        have p_123 := (SL.kp ((SL.kp ((SL.kp ((SL.kp ((SL.kp ((SL.kp ((SL.kp ((SL.kp (p_78) kp_77 (by decide))) kp_90 (by decide))) kp_94 (by decide))) kp_99 (by decide))) kp_103 (by decide))) kp_107 (by decide))) kp_113 (by decide))) kp_117 (by decide))
        obtain ⟨L124, hL124, eL124, sg124⟩ := SL.rd p_123 hs
        have p_125 := (IA.kp ((IA.kp ((IA.kp ((IA.kp ((IA.kp ((IA.kp ((IA.kp ((IA.kp ((IA.kp (p_70) kp_74 (by decide))) kp_77 (by decide))) kp_90 (by decide))) kp_94 (by decide))) kp_99 (by decide))) kp_103 (by decide))) kp_107 (by decide))) kp_113 (by decide))) kp_117 (by decide))
        have p_126 := (IA.kp ((IA.kp ((IA.kp (p_108) kp_107 (by decide))) kp_113 (by decide))) kp_117 (by decide))
        refine T_virtual (as := [.ref 413, .int (nI 0), .ref 432, .int (nI ((96 * s))), .ref 450, .int (nI 0), .ref 434, .int (nI ((320 * s)))]) (rest := []) (b := 373) d_Mo_finish_385 rfl (jw_Mo_preambleOf.jo (by decide)) lm_Mo_585 ji_Mo_preambleOf js_Mo_preambleOf hov_120 rfl rfl rfl (Nat.le_of_ble_eq_true rfl) (by decide) (by decide) (b_Mo_preambleOf (aa := 0) (ab := (96 * s)) (ac := 0) (ad := (320 * s)) p_117_0 p_119 p_125 hL122 p_126 hL124 (by first | omega | (simp only [List.length_append, List.length_cons, List.length_nil, List.length_replicate, sl_len, be_len, sha_len, hmac_len, ex1_len, ex2_len, stretch_len, zer8_len, tC_len, tag1_len, bnN_len, xkp_len, enc_len, chance_len, lbF_len, str2_len, pub_len', sec8_len, mp_len, xSrv_len, xCli_len, xSess_len, seal8_len, mkU_len, lO, lR, sec8_len]; done) | (simp only [List.length_append, List.length_cons, List.length_nil, List.length_replicate, sl_len, be_len, sha_len, hmac_len, ex1_len, ex2_len, stretch_len, zer8_len, tC_len, tag1_len, bnN_len, xkp_len, enc_len, chance_len, lbF_len, str2_len, pub_len', sec8_len, mp_len, xSrv_len, xCli_len, xSess_len, seal8_len, mkU_len, lO, lR, sec8_len]; omega)) (by decide) (by decide) (by rw [eL122]; omega) (by decide) (by decide) (by rw [lO]; decide) (by decide) (by decide) (by rw [eL124]; omega) (by decide) (by decide)) (fun r M_127 hq => ?_)
        obtain ⟨rfl, p_127_0, p_127_1, p_127_2, kp_127⟩ := hq
        refine T_eq (pc' := 388) (L' := [(3, .int (nI ((320 * s)))), (2, .int (nI s)), (1, .int (nI s)), (0, .ref 373)]) (st' := []) (M' := M_127) rfl rfl rfl rfl ?_
        have p_128 : IA M_127 441 500 P := (by have g := p_127_2; rw [show pre8 (sl (pub K) 0 32) (sl L122 (96 * s) 96) (sl O 0 32) (sl L124 (320 * s) 256) = P from (pre8_c (sl64 (sl_len _ _ _)) ((sl64 (sl_len _ _ _)).trans (sl_sg (b := 0) sg122 (by rw [hn9]; decide))) (sl64 (sl_len _ _ _)) ((sl64 (sl_len _ _ _)).trans (sl_sg (b := 0) sg124 (by rw [hw]; decide)))).trans hP] at g; exact g)
        have lP : P.length = 431 := by rw [← hP]; exact pre8_len _ _ _ _
        have p_129 := (SH.kp (p_117_2) kp_127 (by decide))
        have hj9 : IA M_127 440 96 J := by rw [← hJ]; exact SH.ia p_129 (enc_len _) (enc_len _) (enc_len _)
        have lJ : J.length = 96 := by rw [← hJ]; simp only [List.length_append, List.length_cons, List.length_nil, List.length_replicate, sl_len, be_len, sha_len, hmac_len, ex1_len, ex2_len, stretch_len, zer8_len, tC_len, tag1_len, bnN_len, xkp_len, enc_len, chance_len, lbF_len, str2_len, pub_len', sec8_len, mp_len, xSrv_len, xCli_len, xSess_len, seal8_len, mkU_len, lO, lR, sec8_len]
        refine T_aload_n (v := .ref 373) d_Mo_finish_388 rfl (Or.inr ⟨_, rfl⟩) ?_
        obtain ⟨v_131, hov_131, hwv_131, hsv_131, hiv_131⟩ := id p_127_1
        refine T_virtual (as := []) (rest := []) (b := 373) d_Mo_finish_389 rfl (jw_Mo_derive.jo (by decide)) lm_Mo_589 ji_Mo_derive js_Mo_derive hov_131 rfl rfl rfl (Nat.le_of_ble_eq_true rfl) (by decide) (by decide) (b_Mo_derive p_127_0 p_127_1 hj9 p_128 lJ lP (show (upd (upd w 66 (nI 0)) 75 (nI 431)) 75 = nI 431 from rfl)) (fun r M_130 hq => ?_)
        obtain ⟨rfl, p_130_0, p_130_1, p_130_2, p_130_3, p_130_4, kp_130⟩ := hq
        refine T_eq (pc' := 392) (L' := [(3, .int (nI ((320 * s)))), (2, .int (nI s)), (1, .int (nI s)), (0, .ref 373)]) (st' := []) (M' := M_130) rfl rfl rfl rfl ?_
        refine T_iconst (v := nI 0) d_Mo_finish_392 (by decide) ?_
        refine T_istore (L' := [(4, .int (nI 0)), (3, .int (nI ((320 * s)))), (2, .int (nI s)), (1, .int (nI s)), (0, .ref 373)]) d_Mo_finish_393 (by decide) rfl ?_
        have p_132 := (SL.kp ((SL.kp (p_123) kp_127 (by decide))) kp_130 (by decide))
        obtain ⟨L133, hL133, eL133, sg133⟩ := SL.rd p_132 hs
        have cl4 : elB (w2 s) (xSrv J P) 256 0 = true ↔ ∀ i, i < 64 → gd (xSrv J P) (0 + i) = gd L133 ((320 * s + 256) + i) := (elB_i (by rw [hw])).trans ⟨fun h i hi => by rw [Nat.add_assoc (320 * s), sg133 (256 + i) (by rw [hw]; omega)]; exact (h i hi).symm, fun h i hi => by have g := h i hi; rw [Nat.add_assoc (320 * s), sg133 (256 + i) (by rw [hw]; omega)] at g; exact g.symm⟩
        refine fi_4 G p_130_1 p_130_2 hL133 hs (by first | omega | (simp only [List.length_append, List.length_cons, List.length_nil, List.length_replicate, sl_len, be_len, sha_len, hmac_len, ex1_len, ex2_len, stretch_len, zer8_len, tC_len, tag1_len, bnN_len, xkp_len, enc_len, chance_len, lbF_len, str2_len, pub_len', sec8_len, mp_len, xSrv_len, xCli_len, xSess_len, seal8_len, mkU_len, lO, lR, sec8_len]; done) | (simp only [List.length_append, List.length_cons, List.length_nil, List.length_replicate, sl_len, be_len, sha_len, hmac_len, ex1_len, ex2_len, stretch_len, zer8_len, tC_len, tag1_len, bnN_len, xkp_len, enc_len, chance_len, lbF_len, str2_len, pub_len', sec8_len, mp_len, xSrv_len, xCli_len, xSess_len, seal8_len, mkU_len, lO, lR, sec8_len]; omega)) (by rw [eL133]; omega) (fun hc4 => ?_) (fun hc4 => ?_) 64 0 rfl (fun i hi => absurd hi (Nat.not_lt_zero i))
        rotate_left
        ·
          have rv : csR (w2 s) O (seal8 R (sl O 32 32) (sl O 0 32)) (xSrv J P) = 4 := by unfold csR; rw [if_pos hd_22, if_pos (cl3.mpr hc3), if_pos hd_74, if_pos hd_77, if_neg (fun c => hc4 (cl4.mp c))]
          have kb9 : Kp fbW M M_130 := (Kp.tr (Kp.tr (Kp.tr (Kp.tr (Kp.tr (Kp.tr (Kp.tr (Kp.tr (Kp.tr (Kp.tr (Kp.tr (Kp.tr (Kp.tr (Kp.tr (Kp.tr (Kp.tr (Kp.tr (Kp.tr (Kp.tr (Kp.tr (Kp.tr (Kp.tr (Kp.ex (Kp.ex (Kp.rf : Kp [373, 374, 380, 381, 382, 383, 384, 385, 387, 388, 389, 390, 391, 392, 393, 394, 395, 397, 398, 399, 400, 401, 408, 411, 412, 413, 414, 415, 416, 417, 428, 440, 441, 442, 443, 444, 445, 446, 447, 448, 450] M M) s_4 (by decide)) s_18 (by decide)) (Kp.mono kp_22 (by decide))) (Kp.mono kp_30 (by decide))) (Kp.mono kp_32 (by decide))) (Kp.mono kp_36 (by decide))) (Kp.mono kp_39 (by decide))) (Kp.mono kp_50 (by decide +kernel))) (Kp.mono kp_52 (by decide +kernel))) (Kp.mono kp_57 (by decide +kernel))) (Kp.mono ko1 (by decide))) (Kp.mono hK63 (by decide))) (Kp.mono kp_68 (by decide +kernel))) (Kp.mono kp_74 (by decide))) (Kp.mono kp_77 (by decide))) (Kp.mono kp_90 (by decide))) (Kp.mono kp_94 (by decide))) (Kp.mono kp_99 (by decide))) (Kp.mono kp_103 (by decide))) (Kp.mono kp_107 (by decide))) (Kp.mono kp_113 (by decide))) (Kp.mono kp_117 (by decide))) (Kp.mono kp_127 (by decide))) (Kp.mono kp_130 (by decide +kernel)))
          have nb_ : NB M_130 sd ch n m 0 := ⟨_, p_130_1, (show (upd (upd w 66 (nI 0)) 75 (nI 431)) 66 = (nI 0) from rfl), (show (upd (upd w 66 (nI 0)) 75 (nI 431)) 71 = sd from h71), (show (upd (upd w 66 (nI 0)) 75 (nI 431)) 72 = (nI ch) from h72), (show (upd (upd w 66 (nI 0)) 75 (nI 431)) 73 = (nI n) from h73), (show (upd (upd w 66 (nI 0)) 75 (nI 431)) 74 = (nI m) from h74)⟩
          have p_134 := (ZR.kp ((ZR.kp ((ZR.kp ((ZR.kp ((ZR.kp ((ZR.kp ((ZR.kp ((ZR.kp ((ZR.kp ((ZR.kp ((ZR.kp ((ZR.kp ((ZR.kp ((ZR.kp ((ZR.kp ((ZR.kp ((ZR.kp ((ZR.kp ((ZR.kp ((ZR.kp ((ZR.kp ((ZR.kp (p_19) kp_22 (by decide))) kp_30 (by decide))) kp_32 (by decide))) kp_36 (by decide))) kp_39 (by decide))) kp_50 (by decide))) kp_52 (by decide))) kp_57 (by decide))) ko1 (by decide))) hK63 (by decide))) kp_68 (by decide))) kp_74 (by decide))) kp_77 (by decide))) kp_90 (by decide))) kp_94 (by decide))) kp_99 (by decide))) kp_103 (by decide))) kp_107 (by decide))) kp_113 (by decide))) kp_117 (by decide))) kp_127 (by decide))) kp_130 (by decide))
          exact ⟨by rw [rv], p_130_0, nb_, p_134, (fun c => absurd (rv.symm.trans c) (by decide)), (fun _ => kb9), kb9.mono (by decide)⟩
        refine T_iconst (v := nI 0) d_Mo_finish_433 (by decide) ?_
        refine T_istore (L' := [(4, .int (nI 0)), (3, .int (nI ((320 * s)))), (2, .int (nI s)), (1, .int (nI s)), (0, .ref 373)]) d_Mo_finish_434 (by decide) rfl ?_
        have p_135 := (RO.kp ((RO.kp ((RO.kp ((RO.kp ((RO.kp ((RO.kp ((RO.kp ((RO.kp ((RO.kp (ro81) kp_90 (by decide))) kp_94 (by decide))) kp_99 (by decide))) kp_103 (by decide))) kp_107 (by decide))) kp_113 (by decide))) kp_117 (by decide))) kp_127 (by decide))) kp_130 (by decide))
        have p_136 := (RO.kp ((RO.kp ((RO.kp ((RO.kp ((RO.kp ((RO.kp ((RO.kp ((RO.kp ((RO.kp (ro83) kp_90 (by decide))) kp_94 (by decide))) kp_99 (by decide))) kp_103 (by decide))) kp_107 (by decide))) kp_113 (by decide))) kp_117 (by decide))) kp_127 (by decide))) kp_130 (by decide))
        have p_137 := (RO.kp ((RO.kp ((RO.kp ((RO.kp ((RO.kp ((RO.kp ((RO.kp ((RO.kp ((RO.kp (ro85) kp_90 (by decide))) kp_94 (by decide))) kp_99 (by decide))) kp_103 (by decide))) kp_107 (by decide))) kp_113 (by decide))) kp_117 (by decide))) kp_127 (by decide))) kp_130 (by decide))
        have p_139 := (IA.kp ((IA.kp ((IA.kp ((IA.kp ((IA.kp ((IA.kp ((IA.kp ((IA.kp ((IA.kp ((IA.kp ((IA.kp (p_68_4) kp_74 (by decide))) kp_77 (by decide))) kp_90 (by decide))) kp_94 (by decide))) kp_99 (by decide))) kp_103 (by decide))) kp_107 (by decide))) kp_113 (by decide))) kp_117 (by decide))) kp_127 (by decide))) kp_130 (by decide))
        refine fi_f G (l0 := []) (l1 := []) (l2 := []) p_130_1 p_130_3 (by first | omega | (simp only [List.length_append, List.length_cons, List.length_nil, List.length_replicate, sl_len, be_len, sha_len, hmac_len, ex1_len, ex2_len, stretch_len, zer8_len, tC_len, tag1_len, bnN_len, xkp_len, enc_len, chance_len, lbF_len, str2_len, pub_len', sec8_len, mp_len, xSrv_len, xCli_len, xSess_len, seal8_len, mkU_len, lO, lR, sec8_len]; done) | (simp only [List.length_append, List.length_cons, List.length_nil, List.length_replicate, sl_len, be_len, sha_len, hmac_len, ex1_len, ex2_len, stretch_len, zer8_len, tC_len, tag1_len, bnN_len, xkp_len, enc_len, chance_len, lbF_len, str2_len, pub_len', sec8_len, mp_len, xSrv_len, xCli_len, xSess_len, seal8_len, mkU_len, lO, lR, sec8_len]; omega)) p_130_4 (by first | omega | (simp only [List.length_append, List.length_cons, List.length_nil, List.length_replicate, sl_len, be_len, sha_len, hmac_len, ex1_len, ex2_len, stretch_len, zer8_len, tC_len, tag1_len, bnN_len, xkp_len, enc_len, chance_len, lbF_len, str2_len, pub_len', sec8_len, mp_len, xSrv_len, xCli_len, xSess_len, seal8_len, mkU_len, lO, lR, sec8_len]; done) | (simp only [List.length_append, List.length_cons, List.length_nil, List.length_replicate, sl_len, be_len, sha_len, hmac_len, ex1_len, ex2_len, stretch_len, zer8_len, tC_len, tag1_len, bnN_len, xkp_len, enc_len, chance_len, lbF_len, str2_len, pub_len', sec8_len, mp_len, xSrv_len, xCli_len, xSess_len, seal8_len, mkU_len, lO, lR, sec8_len]; omega)) p_139 (by first | omega | (simp only [List.length_append, List.length_cons, List.length_nil, List.length_replicate, sl_len, be_len, sha_len, hmac_len, ex1_len, ex2_len, stretch_len, zer8_len, tC_len, tag1_len, bnN_len, xkp_len, enc_len, chance_len, lbF_len, str2_len, pub_len', sec8_len, mp_len, xSrv_len, xCli_len, xSess_len, seal8_len, mkU_len, lO, lR, sec8_len]; done) | (simp only [List.length_append, List.length_cons, List.length_nil, List.length_replicate, sl_len, be_len, sha_len, hmac_len, ex1_len, ex2_len, stretch_len, zer8_len, tC_len, tag1_len, bnN_len, xkp_len, enc_len, chance_len, lbF_len, str2_len, pub_len', sec8_len, mp_len, xSrv_len, xCli_len, xSess_len, seal8_len, mkU_len, lO, lR, sec8_len]; omega)) (by first | omega | (simp only [List.length_append, List.length_cons, List.length_nil, List.length_replicate, sl_len, be_len, sha_len, hmac_len, ex1_len, ex2_len, stretch_len, zer8_len, tC_len, tag1_len, bnN_len, xkp_len, enc_len, chance_len, lbF_len, str2_len, pub_len', sec8_len, mp_len, xSrv_len, xCli_len, xSess_len, seal8_len, mkU_len, lO, lR, sec8_len]; done) | (simp only [List.length_append, List.length_cons, List.length_nil, List.length_replicate, sl_len, be_len, sha_len, hmac_len, ex1_len, ex2_len, stretch_len, zer8_len, tC_len, tag1_len, bnN_len, xkp_len, enc_len, chance_len, lbF_len, str2_len, pub_len', sec8_len, mp_len, xSrv_len, xCli_len, xSess_len, seal8_len, mkU_len, lO, lR, sec8_len]; omega)) (by first | omega | (simp only [List.length_append, List.length_cons, List.length_nil, List.length_replicate, sl_len, be_len, sha_len, hmac_len, ex1_len, ex2_len, stretch_len, zer8_len, tC_len, tag1_len, bnN_len, xkp_len, enc_len, chance_len, lbF_len, str2_len, pub_len', sec8_len, mp_len, xSrv_len, xCli_len, xSess_len, seal8_len, mkU_len, lO, lR, sec8_len]; done) | (simp only [List.length_append, List.length_cons, List.length_nil, List.length_replicate, sl_len, be_len, sha_len, hmac_len, ex1_len, ex2_len, stretch_len, zer8_len, tC_len, tag1_len, bnN_len, xkp_len, enc_len, chance_len, lbF_len, str2_len, pub_len', sec8_len, mp_len, xSrv_len, xCli_len, xSess_len, seal8_len, mkU_len, lO, lR, sec8_len]; omega)) (by first | omega | (simp only [List.length_append, List.length_cons, List.length_nil, List.length_replicate, sl_len, be_len, sha_len, hmac_len, ex1_len, ex2_len, stretch_len, zer8_len, tC_len, tag1_len, bnN_len, xkp_len, enc_len, chance_len, lbF_len, str2_len, pub_len', sec8_len, mp_len, xSrv_len, xCli_len, xSess_len, seal8_len, mkU_len, lO, lR, sec8_len]; done) | (simp only [List.length_append, List.length_cons, List.length_nil, List.length_replicate, sl_len, be_len, sha_len, hmac_len, ex1_len, ex2_len, stretch_len, zer8_len, tC_len, tag1_len, bnN_len, xkp_len, enc_len, chance_len, lbF_len, str2_len, pub_len', sec8_len, mp_len, xSrv_len, xCli_len, xSess_len, seal8_len, mkU_len, lO, lR, sec8_len]; omega)) (by omega) (fun Mq138 hI => ?_) 64 0 M_130 (Nat.zero_add _) ⟨by rw [sl_zero, List.append_nil]; exact p_135, by rw [sl_zero, List.append_nil]; exact p_136, by rw [sl_zero, List.append_nil]; exact p_137, Kp.rf⟩
        obtain ⟨ra1380, ra1381, ra1382, hK138⟩ := hI
        have rb1380 : RO Mq138 435 256 R81 (64 * s) 64 (sl (xCli J P) 0 64) := ra1380
        have rb1381 : RO Mq138 437 256 R83 (64 * s) 64 (sl (xSess J P) 0 64) := ra1381
        have rb1382 : RO Mq138 439 256 R85 (64 * s) 64 (sl (ex1 R ((sl O 32 32) ++ W13)) 0 64) := ra1382
        refine T_aload_n (v := .ref 373) d_Mo_finish_506 rfl (Or.inr ⟨_, rfl⟩) ?_
        have p_140 := (BG.kp (p_130_1) hK138 (by decide) (by decide))
        obtain ⟨v_141, hov_141, hwv_141, hsv_141, hiv_141⟩ := id p_140
        refine T_getfield (v := .ref 430) d_Mo_finish_507 fg_Mo_410 hov_141 rfl ?_
        refine T_iload_n d_Mo_finish_510 rfl ?_
        refine T_iconst (v := nI 1) d_Mo_finish_511 (by decide) ?_
        have p_142 := (ZR.kp ((ZR.kp ((ZR.kp ((ZR.kp ((ZR.kp ((ZR.kp ((ZR.kp ((ZR.kp ((ZR.kp ((ZR.kp ((ZR.kp ((ZR.kp ((ZR.kp ((ZR.kp ((ZR.kp ((ZR.kp ((ZR.kp ((ZR.kp ((ZR.kp ((ZR.kp ((ZR.kp ((ZR.kp ((ZR.kp ((ZR.kp ((ZR.kp (z7) (Ex.kp s_4) (by decide))) (Ex.kp s_18) (by decide))) kp_22 (by decide))) kp_30 (by decide))) kp_32 (by decide))) kp_36 (by decide))) kp_39 (by decide))) kp_50 (by decide))) kp_52 (by decide))) kp_57 (by decide))) ko1 (by decide))) hK63 (by decide))) kp_68 (by decide))) kp_74 (by decide))) kp_77 (by decide))) kp_90 (by decide))) kp_94 (by decide))) kp_99 (by decide))) kp_103 (by decide))) kp_107 (by decide))) kp_113 (by decide))) kp_117 (by decide))) kp_127 (by decide))) kp_130 (by decide))) hK138 (by decide))
        obtain ⟨f_143, h_144, h_145⟩ := id p_142
        refine N_zastore (k := s) d_Mo_finish_512 (by decide) h_144 (by omega) (by decide) rfl (fun M_146 h_147 s_148 => ?_)
        have p_149 := ZR.up (b := true) h_145 (by decide) h_147
        refine T_aload_n (v := .ref 373) d_Mo_finish_513 rfl (Or.inr ⟨_, rfl⟩) ?_
        have p_150 := (BG.kp (p_140) (Ex.kp s_148) (by decide) (by decide))
        obtain ⟨v_151, hov_151, hwv_151, hsv_151, hiv_151⟩ := id p_150
        refine T_getfield (v := .ref 426) d_Mo_finish_514 fg_Mo_398 hov_151 rfl ?_
        refine T_iload_n d_Mo_finish_517 rfl ?_
        refine T_iconst (v := nI 1) d_Mo_finish_518 (by decide) ?_
        have p_152 := (ZR.kp ((ZR.kp ((ZR.kp ((ZR.kp ((ZR.kp ((ZR.kp ((ZR.kp ((ZR.kp ((ZR.kp ((ZR.kp ((ZR.kp ((ZR.kp ((ZR.kp ((ZR.kp ((ZR.kp ((ZR.kp ((ZR.kp ((ZR.kp ((ZR.kp ((ZR.kp ((ZR.kp ((ZR.kp ((ZR.kp ((ZR.kp ((ZR.kp ((ZR.kp (z3) (Ex.kp s_4) (by decide))) (Ex.kp s_18) (by decide))) kp_22 (by decide))) kp_30 (by decide))) kp_32 (by decide))) kp_36 (by decide))) kp_39 (by decide))) kp_50 (by decide))) kp_52 (by decide))) kp_57 (by decide))) ko1 (by decide))) hK63 (by decide))) kp_68 (by decide))) kp_74 (by decide))) kp_77 (by decide))) kp_90 (by decide))) kp_94 (by decide))) kp_99 (by decide))) kp_103 (by decide))) kp_107 (by decide))) kp_113 (by decide))) kp_117 (by decide))) kp_127 (by decide))) kp_130 (by decide))) hK138 (by decide))) (Ex.kp s_148) (by decide))
        obtain ⟨f_153, h_154, h_155⟩ := id p_152
        refine N_zastore (k := s) d_Mo_finish_519 (by decide) h_154 (by omega) (by decide) rfl (fun M_156 h_157 s_158 => ?_)
        have p_159 := ZR.up (b := true) h_155 (by decide) h_157
        refine T_iconst (v := nI 0) d_Mo_finish_520 (by decide) ?_
        have rv : csR (w2 s) O (seal8 R (sl O 32 32) (sl O 0 32)) (xSrv J P) = 0 := by unfold csR; rw [if_pos hd_22, if_pos (cl3.mpr hc3), if_pos hd_74, if_pos hd_77, if_pos (cl4.mpr hc4)]
        have p_160 := (RO.kp ((RO.kp (rb1380) (Ex.kp s_148) (by decide))) (Ex.kp s_158) (by decide))
        have p_161 : RO M_156 435 256 R81 (64 * s) 64 (xCli J P) := (by have g := p_160; rw [sl64 (xCli_len _ _)] at g; exact g)
        have p_162 := RO.sl p_161 px81
        have p_163 := (RO.kp ((RO.kp (rb1381) (Ex.kp s_148) (by decide))) (Ex.kp s_158) (by decide))
        have p_164 : RO M_156 437 256 R83 (64 * s) 64 (xSess J P) := (by have g := p_163; rw [sl64 (xSess_len _ _)] at g; exact g)
        have p_165 := RO.sl p_164 px83
        have p_166 := (RO.kp ((RO.kp (rb1382) (Ex.kp s_148) (by decide))) (Ex.kp s_158) (by decide))
        have p_167 : RO M_156 439 256 R85 (64 * s) 64 (ex1 R (sl O 32 32 ++ W13)) := (by have g := p_166; rw [sl64 (ex1_len _ _)] at g; exact g)
        have p_168 := RO.sl p_167 px85
        have p_169 := (ZR.kp (p_149) (Ex.kp s_158) (by decide))
        have p_170 := (BG.kp (p_150) (Ex.kp s_158) (by decide) (by decide))
        have nb_ : NB M_156 sd ch n m 0 := ⟨_, p_170, (show (upd (upd w 66 (nI 0)) 75 (nI 431)) 66 = (nI 0) from rfl), (show (upd (upd w 66 (nI 0)) 75 (nI 431)) 71 = sd from h71), (show (upd (upd w 66 (nI 0)) 75 (nI 431)) 72 = (nI ch) from h72), (show (upd (upd w 66 (nI 0)) 75 (nI 431)) 73 = (nI n) from h73), (show (upd (upd w 66 (nI 0)) 75 (nI 431)) 74 = (nI m) from h74)⟩
        have p_171 := (MS.kp ((MS.kp ((MS.kp (p_130_0) hK138 (by decide))) (Ex.kp s_148) (by decide))) (Ex.kp s_158) (by decide))
        have p_172 := (ZR.kp ((ZR.kp ((ZR.kp ((ZR.kp ((ZR.kp ((ZR.kp ((ZR.kp ((ZR.kp ((ZR.kp ((ZR.kp ((ZR.kp ((ZR.kp ((ZR.kp ((ZR.kp ((ZR.kp ((ZR.kp ((ZR.kp ((ZR.kp ((ZR.kp ((ZR.kp ((ZR.kp ((ZR.kp ((ZR.kp ((ZR.kp ((ZR.kp (p_19) kp_22 (by decide))) kp_30 (by decide))) kp_32 (by decide))) kp_36 (by decide))) kp_39 (by decide))) kp_50 (by decide))) kp_52 (by decide))) kp_57 (by decide))) ko1 (by decide))) hK63 (by decide))) kp_68 (by decide))) kp_74 (by decide))) kp_77 (by decide))) kp_90 (by decide))) kp_94 (by decide))) kp_99 (by decide))) kp_103 (by decide))) kp_107 (by decide))) kp_113 (by decide))) kp_117 (by decide))) kp_127 (by decide))) kp_130 (by decide))) hK138 (by decide))) (Ex.kp s_148) (by decide))) (Ex.kp s_158) (by decide))
        exact T_ret d_Mo_finish_521 rfl (by decide) (by decide) (by decide) ⟨by rw [rv], p_171, nb_, p_172, (fun _ => ⟨p_169, p_159, p_162, p_165, p_168⟩), (fun c => absurd rv c), (Kp.ex (Kp.ex (Kp.tr (Kp.tr (Kp.tr (Kp.tr (Kp.tr (Kp.tr (Kp.tr (Kp.tr (Kp.tr (Kp.tr (Kp.tr (Kp.tr (Kp.tr (Kp.tr (Kp.tr (Kp.tr (Kp.tr (Kp.tr (Kp.tr (Kp.tr (Kp.tr (Kp.tr (Kp.tr (Kp.ex (Kp.ex (Kp.rf : Kp [373, 374, 380, 381, 382, 383, 384, 385, 387, 388, 389, 390, 391, 392, 393, 394, 395, 397, 398, 399, 400, 401, 408, 411, 412, 413, 414, 415, 416, 417, 426, 428, 430, 435, 437, 439, 440, 441, 442, 443, 444, 445, 446, 447, 448, 450] M M) s_4 (by decide)) s_18 (by decide)) (Kp.mono kp_22 (by decide))) (Kp.mono kp_30 (by decide))) (Kp.mono kp_32 (by decide))) (Kp.mono kp_36 (by decide))) (Kp.mono kp_39 (by decide))) (Kp.mono kp_50 (by decide +kernel))) (Kp.mono kp_52 (by decide +kernel))) (Kp.mono kp_57 (by decide +kernel))) (Kp.mono ko1 (by decide))) (Kp.mono hK63 (by decide))) (Kp.mono kp_68 (by decide +kernel))) (Kp.mono kp_74 (by decide))) (Kp.mono kp_77 (by decide))) (Kp.mono kp_90 (by decide))) (Kp.mono kp_94 (by decide))) (Kp.mono kp_99 (by decide))) (Kp.mono kp_103 (by decide))) (Kp.mono kp_107 (by decide))) (Kp.mono kp_113 (by decide))) (Kp.mono kp_117 (by decide))) (Kp.mono kp_127 (by decide))) (Kp.mono kp_130 (by decide +kernel))) (Kp.mono hK138 (by decide))) s_148 (by decide)) s_158 (by decide))⟩
      · rw [if_neg hd_77]
        refine T_eq (pc' := 288) (L' := [(3, .int (nI ((320 * s)))), (2, .int (nI s)), (1, .int (nI s)), (0, .ref 373)]) (st' := [.int (nI 0)]) (M' := M_77) rfl rfl rfl rfl ?_
        refine N_if_ne_f (b := 0) d_Mo_finish_288 (tgt := 293) rfl (by omega) (by omega) ?_
        refine T_iconst (v := nI 1) d_Mo_finish_291 (by decide) ?_
        have rv : csR (w2 s) O (seal8 R (sl O 32 32) (sl O 0 32)) (xSrv J P) = 1 := by unfold csR; rw [if_pos hd_22, if_pos (cl3.mpr hc3), if_pos hd_74, if_neg hd_77]
        have kb9 : Kp fbW M M_77 := (Kp.tr (Kp.tr (Kp.tr (Kp.tr (Kp.tr (Kp.tr (Kp.tr (Kp.tr (Kp.tr (Kp.tr (Kp.tr (Kp.tr (Kp.tr (Kp.ex (Kp.ex (Kp.rf : Kp [373, 374, 380, 381, 382, 383, 384, 385, 387, 388, 389, 390, 391, 392, 393, 394, 395, 397, 398, 399, 400, 401, 408, 411, 412, 413, 414, 415, 416, 417, 428, 440, 441, 442, 443, 444, 445, 446, 447, 448, 450] M M) s_4 (by decide)) s_18 (by decide)) (Kp.mono kp_22 (by decide))) (Kp.mono kp_30 (by decide))) (Kp.mono kp_32 (by decide))) (Kp.mono kp_36 (by decide))) (Kp.mono kp_39 (by decide))) (Kp.mono kp_50 (by decide +kernel))) (Kp.mono kp_52 (by decide +kernel))) (Kp.mono kp_57 (by decide +kernel))) (Kp.mono ko1 (by decide))) (Kp.mono hK63 (by decide))) (Kp.mono kp_68 (by decide +kernel))) (Kp.mono kp_74 (by decide))) (Kp.mono kp_77 (by decide)))
        have p_173 := (BG.kp (p_75) kp_77 (by decide) (by decide))
        have nb_ : NB M_77 sd ch n m 0 := ⟨_, p_173, (show (upd w 66 (nI 0)) 66 = (nI 0) from rfl), (show (upd w 66 (nI 0)) 71 = sd from h71), (show (upd w 66 (nI 0)) 72 = (nI ch) from h72), (show (upd w 66 (nI 0)) 73 = (nI n) from h73), (show (upd w 66 (nI 0)) 74 = (nI m) from h74)⟩
        have p_174 := (ZR.kp ((ZR.kp ((ZR.kp ((ZR.kp ((ZR.kp ((ZR.kp ((ZR.kp ((ZR.kp ((ZR.kp ((ZR.kp ((ZR.kp ((ZR.kp ((ZR.kp (p_19) kp_22 (by decide))) kp_30 (by decide))) kp_32 (by decide))) kp_36 (by decide))) kp_39 (by decide))) kp_50 (by decide))) kp_52 (by decide))) kp_57 (by decide))) ko1 (by decide))) hK63 (by decide))) kp_68 (by decide))) kp_74 (by decide))) kp_77 (by decide))
        exact T_ret d_Mo_finish_292 rfl (by decide) (by decide) (by decide) ⟨by rw [rv], ms_77, nb_, p_174, (fun c => absurd (rv.symm.trans c) (by decide)), (fun _ => kb9), kb9.mono (by decide)⟩
    · rw [if_neg hd_74]
      refine T_eq (pc' := 270) (L' := [(3, .int (nI ((320 * s)))), (2, .int (nI s)), (1, .int (nI s)), (0, .ref 373)]) (st' := [.int (nI 0)]) (M' := M_74) rfl rfl rfl rfl ?_
      refine N_if_eq_t (b := 0) d_Mo_finish_270 (tgt := 291) rfl (by omega) (by omega) ?_
      refine T_iconst (v := nI 1) d_Mo_finish_291 (by decide) ?_
      have rv : csR (w2 s) O (seal8 R (sl O 32 32) (sl O 0 32)) (xSrv J P) = 1 := by unfold csR; rw [if_pos hd_22, if_pos (cl3.mpr hc3), if_neg hd_74]
      have kb9 : Kp fbW M M_74 := (Kp.tr (Kp.tr (Kp.tr (Kp.tr (Kp.tr (Kp.tr (Kp.tr (Kp.tr (Kp.tr (Kp.tr (Kp.tr (Kp.tr (Kp.ex (Kp.ex (Kp.rf : Kp [373, 374, 380, 381, 382, 383, 384, 385, 387, 388, 389, 390, 391, 392, 393, 394, 395, 397, 398, 399, 400, 401, 408, 411, 412, 413, 414, 415, 416, 417, 428, 440, 441, 442, 443, 444, 445, 446, 447, 448, 450] M M) s_4 (by decide)) s_18 (by decide)) (Kp.mono kp_22 (by decide))) (Kp.mono kp_30 (by decide))) (Kp.mono kp_32 (by decide))) (Kp.mono kp_36 (by decide))) (Kp.mono kp_39 (by decide))) (Kp.mono kp_50 (by decide +kernel))) (Kp.mono kp_52 (by decide +kernel))) (Kp.mono kp_57 (by decide +kernel))) (Kp.mono ko1 (by decide))) (Kp.mono hK63 (by decide))) (Kp.mono kp_68 (by decide +kernel))) (Kp.mono kp_74 (by decide)))
      have p_175 := (BG.kp (p_68_1) kp_74 (by decide) (by decide))
      have nb_ : NB M_74 sd ch n m 0 := ⟨_, p_175, (show (upd w 66 (nI 0)) 66 = (nI 0) from rfl), (show (upd w 66 (nI 0)) 71 = sd from h71), (show (upd w 66 (nI 0)) 72 = (nI ch) from h72), (show (upd w 66 (nI 0)) 73 = (nI n) from h73), (show (upd w 66 (nI 0)) 74 = (nI m) from h74)⟩
      have p_176 := (ZR.kp ((ZR.kp ((ZR.kp ((ZR.kp ((ZR.kp ((ZR.kp ((ZR.kp ((ZR.kp ((ZR.kp ((ZR.kp ((ZR.kp ((ZR.kp (p_19) kp_22 (by decide))) kp_30 (by decide))) kp_32 (by decide))) kp_36 (by decide))) kp_39 (by decide))) kp_50 (by decide))) kp_52 (by decide))) kp_57 (by decide))) ko1 (by decide))) hK63 (by decide))) kp_68 (by decide))) kp_74 (by decide))
      exact T_ret d_Mo_finish_292 rfl (by decide) (by decide) (by decide) ⟨by rw [rv], ms_74, nb_, p_176, (fun c => absurd (rv.symm.trans c) (by decide)), (fun _ => kb9), kb9.mono (by decide)⟩
  · rw [if_neg hd_22]
    refine T_eq (pc' := 60) (L' := [(3, .int (nI ((320 * s)))), (2, .int (nI s)), (0, .ref 373), (1, .int (nI s))]) (st' := [.int (nI 0)]) (M' := M_22) rfl rfl rfl rfl ?_
    refine N_if_ne_f (b := 0) d_Mo_finish_60 (tgt := 65) rfl (by omega) (by omega) ?_
    refine T_iconst (v := nI 1) d_Mo_finish_63 (by decide) ?_
    have rv : csR (w2 s) O (seal8 R (sl O 32 32) (sl O 0 32)) (xSrv J P) = 1 := by unfold csR; rw [if_neg hd_22]
    have kb9 : Kp fbW M M_22 := (Kp.tr (Kp.ex (Kp.ex (Kp.rf : Kp [373, 374, 380, 381, 382, 383, 384, 385, 387, 388, 389, 390, 391, 392, 393, 394, 395, 397, 398, 399, 400, 401, 408, 411, 412, 413, 414, 415, 416, 417, 428, 440, 441, 442, 443, 444, 445, 446, 447, 448, 450] M M) s_4 (by decide)) s_18 (by decide)) (Kp.mono kp_22 (by decide)))
    have p_177 := (BG.kp (p_20) kp_22 (by decide) (by decide))
    have nb_ : NB M_22 sd ch n m 0 := ⟨_, p_177, (show (upd w 66 (nI 0)) 66 = (nI 0) from rfl), (show (upd w 66 (nI 0)) 71 = sd from h71), (show (upd w 66 (nI 0)) 72 = (nI ch) from h72), (show (upd w 66 (nI 0)) 73 = (nI n) from h73), (show (upd w 66 (nI 0)) 74 = (nI m) from h74)⟩
    have p_178 := (ZR.kp (p_19) kp_22 (by decide))
    exact T_ret d_Mo_finish_64 rfl (by decide) (by decide) (by decide) ⟨by rw [rv], ms_22, nb_, p_178, (fun c => absurd (rv.symm.trans c) (by decide)), (fun _ => kb9), kb9.mono (by decide)⟩

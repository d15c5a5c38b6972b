abbrev opW : List Nat := [373, 374, 380, 381, 382, 383, 384, 385, 387, 388, 389, 390, 391, 392, 393, 394, 395, 397, 398, 401, 408, 413, 414, 415, 416]
set_option maxHeartbeats 8000000 in
theorem op_38 (G : GX) {M0 : List va_E} {w : Nat → Int32} {l s : List UInt8} {p at0 : Nat} (hb : BG M0 w l) (hs : IA M0 388 192 s) (hsn : 192 < 2 ^ 31) (ha : 0 + 32 ≤ s.length) (hd : 0 + 32 ≤ 400)  {Q : Option Value → List va_E → Prop} (kk : ∀ M, IA M 408 400 (sl s 0 32) ∧ Kp [408] M0 M → TT G mi_Mo_opens 62 [(0, .ref 373), (1, .ref p), (2, .int (nI at0))] [] M 0 0 Q) : ∀ j k M, k + j = 32 → IA M 408 400 (sl s 0 k) ∧ Kp [408] M0 M → TT G mi_Mo_opens 38 [(3, .int (nI k)), (0, .ref 373), (1, .ref p), (2, .int (nI at0))] [] M 0 0 Q := by
  intro j
  induction j with
  | zero =>
    intro k M hk hI
    obtain rfl : 32 = k := by omega
    obtain ⟨hda, hK⟩ := id hI
    refine T_iload_n d_Mo_opens_38 rfl ?_
    refine T_bipush (v := nI 32) d_Mo_opens_39 (by decide) ?_
    refine N_icmp_ge_t (a := 32) (b := 32) d_Mo_opens_41 (tgt := 62) rfl (by omega) (by omega) (by omega) ?_
    exact T_sub (fun q hq => List.mem_cons_of_mem _ hq) (kk M hI)
  | succ j ih =>
    intro k M hk hI
    obtain ⟨hda, hK⟩ := hI
    have hsl := IA.le hs
    refine T_iload_n d_Mo_opens_38 rfl ?_
    refine T_bipush (v := nI 32) d_Mo_opens_39 (by decide) ?_
    refine N_icmp_ge_f (a := 32) (b := k) d_Mo_opens_41 (tgt := 62) rfl (by omega) (by omega) (by omega) ?_
    refine T_aload_n (v := .ref 373) d_Mo_opens_44 rfl (Or.inr ⟨_, rfl⟩) ?_
    have p_1 := (BG.kp (hb) hK (by decide) (by decide))
    obtain ⟨v_2, hov_2, hwv_2, hsv_2, hiv_2⟩ := id p_1
    refine T_getfield (v := .ref 408) d_Mo_opens_45 fg_Mo_338 hov_2 rfl ?_
    refine T_iload_n d_Mo_opens_48 rfl ?_
    refine T_aload_n (v := .ref 373) d_Mo_opens_49 rfl (Or.inr ⟨_, rfl⟩) ?_
    refine T_getfield (v := .ref 388) d_Mo_opens_50 fg_Mo_99 hov_2 rfl ?_
    refine T_iload_n d_Mo_opens_53 rfl ?_
    have p_3 := (IA.kp (hs) hK (by decide))
    obtain ⟨f_4, hf_5, hl_6, hv_7⟩ := id p_3
    refine N_iaload (k := k) (x := (bR (gd s k))) d_Mo_opens_54 hf_5 (by omega) (by decide) (hv_7 k (by first | omega | (simp only [List.length_append, List.length_cons, List.length_nil, List.length_replicate, sl_len, be_len, sha_len, hmac_len, ex1_len, ex2_len, stretch_len, zer8_len, tC_len, tag1_len, bnN_len, xkp_len]; omega))) ?_
    obtain ⟨f_8, hf_9, hl_10, hv_11⟩ := id hda
    refine N_iastore (k := k) d_Mo_opens_55 (by decide) hf_9 (by omega) (by decide) rfl (fun M_12 h_13 s_14 => ?_)
    refine N_iinc (k := k) (m := 1) (c := (k + 1)) (L' := [(3, .int (nI ((k + 1)))), (0, .ref 373), (1, .ref p), (2, .int (nI at0))]) d_Mo_opens_56 (by decide) rfl (by decide) rfl rfl ?_
    refine T_goto (tgt := 38) d_Mo_opens_59 rfl ?_
    exact ih (k + 1) M_12 (by omega) ⟨ia_c0 h_13 (gd_c (by omega)) (by omega) (by omega) hv_11, (Kp.ex (Kp.tr (Kp.rf : Kp [408] M0 M0) (Kp.mono hK (by decide))) s_14 (by decide))⟩
set_option maxHeartbeats 8000000 in
theorem op_130 (G : GX) {M0 : List va_E} {w : Nat → Int32} {l s : List UInt8} {p at0 : Nat} (hb : BG M0 w l) (hs : IA M0 388 192 s) (hsn : 192 < 2 ^ 31) (ha : 0 + 64 ≤ s.length) (hd : 0 + 64 ≤ 64)  {Q : Option Value → List va_E → Prop} (kk : ∀ M, IA M 416 64 (sl s 0 64) ∧ Kp [416] M0 M → TT G mi_Mo_opens 154 [(0, .ref 373), (1, .ref p), (2, .int (nI at0))] [] M 0 0 Q) : ∀ j k M, k + j = 64 → IA M 416 64 (sl s 0 k) ∧ Kp [416] M0 M → TT G mi_Mo_opens 130 [(3, .int (nI k)), (0, .ref 373), (1, .ref p), (2, .int (nI at0))] [] M 0 0 Q := by
  intro j
  induction j with
  | zero =>
    intro k M hk hI
    obtain rfl : 64 = k := by omega
    obtain ⟨hda, hK⟩ := id hI
    refine T_iload_n d_Mo_opens_130 rfl ?_
    refine T_bipush (v := nI 64) d_Mo_opens_131 (by decide) ?_
    refine N_icmp_ge_t (a := 64) (b := 64) d_Mo_opens_133 (tgt := 154) rfl (by omega) (by omega) (by omega) ?_
    exact T_sub (fun q hq => List.mem_cons_of_mem _ hq) (kk M hI)
  | succ j ih =>
    intro k M hk hI
    obtain ⟨hda, hK⟩ := hI
    have hsl := IA.le hs
    refine T_iload_n d_Mo_opens_130 rfl ?_
    refine T_bipush (v := nI 64) d_Mo_opens_131 (by decide) ?_
    refine N_icmp_ge_f (a := 64) (b := k) d_Mo_opens_133 (tgt := 154) rfl (by omega) (by omega) (by omega) ?_
    refine T_aload_n (v := .ref 373) d_Mo_opens_136 rfl (Or.inr ⟨_, rfl⟩) ?_
    have p_1 := (BG.kp (hb) hK (by decide) (by decide))
    obtain ⟨v_2, hov_2, hwv_2, hsv_2, hiv_2⟩ := id p_1
    refine T_getfield (v := .ref 416) d_Mo_opens_137 fg_Mo_368 hov_2 rfl ?_
    refine T_iload_n d_Mo_opens_140 rfl ?_
    refine T_aload_n (v := .ref 373) d_Mo_opens_141 rfl (Or.inr ⟨_, rfl⟩) ?_
    refine T_getfield (v := .ref 388) d_Mo_opens_142 fg_Mo_99 hov_2 rfl ?_
    refine T_iload_n d_Mo_opens_145 rfl ?_
    have p_3 := (IA.kp (hs) hK (by decide))
    obtain ⟨f_4, hf_5, hl_6, hv_7⟩ := id p_3
    refine N_iaload (k := k) (x := (bR (gd s k))) d_Mo_opens_146 hf_5 (by omega) (by decide) (hv_7 k (by first | omega | (simp only [List.length_append, List.length_cons, List.length_nil, List.length_replicate, sl_len, be_len, sha_len, hmac_len, ex1_len, ex2_len, stretch_len, zer8_len, tC_len, tag1_len, bnN_len, xkp_len]; omega))) ?_
    obtain ⟨f_8, hf_9, hl_10, hv_11⟩ := id hda
    refine N_iastore (k := k) d_Mo_opens_147 (by decide) hf_9 (by omega) (by decide) rfl (fun M_12 h_13 s_14 => ?_)
    refine N_iinc (k := k) (m := 1) (c := (k + 1)) (L' := [(3, .int (nI ((k + 1)))), (0, .ref 373), (1, .ref p), (2, .int (nI at0))]) d_Mo_opens_148 (by decide) rfl (by decide) rfl rfl ?_
    refine T_goto (tgt := 130) d_Mo_opens_151 rfl ?_
    exact ih (k + 1) M_12 (by omega) ⟨ia_c0 h_13 (gd_c (by omega)) (by omega) (by omega) hv_11, (Kp.ex (Kp.tr (Kp.rf : Kp [416] M0 M0) (Kp.mono hK (by decide))) s_14 (by decide))⟩
set_option maxHeartbeats 8000000 in
theorem op_185 (G : GX) {M0 : List va_E} {w : Nat → Int32} {l s : List UInt8} {p at0 : Nat} (hb : BG M0 w l) (hs : IA M0 388 192 s) (hsn : 192 < 2 ^ 31) (ha : 0 + 64 ≤ s.length) (hd : 0 + 64 ≤ 400)  {Q : Option Value → List va_E → Prop} (kk : ∀ M, IA M 408 400 (sl s 0 64) ∧ Kp [408] M0 M → TT G mi_Mo_opens 209 [(0, .ref 373), (1, .ref p), (2, .int (nI at0))] [] M 0 0 Q) : ∀ j k M, k + j = 64 → IA M 408 400 (sl s 0 k) ∧ Kp [408] M0 M → TT G mi_Mo_opens 185 [(3, .int (nI k)), (0, .ref 373), (1, .ref p), (2, .int (nI at0))] [] M 0 0 Q := by
  intro j
  induction j with
  | zero =>
    intro k M hk hI
    obtain rfl : 64 = k := by omega
    obtain ⟨hda, hK⟩ := id hI
    refine T_iload_n d_Mo_opens_185 rfl ?_
    refine T_bipush (v := nI 64) d_Mo_opens_186 (by decide) ?_
    refine N_icmp_ge_t (a := 64) (b := 64) d_Mo_opens_188 (tgt := 209) rfl (by omega) (by omega) (by omega) ?_
    exact T_sub (fun q hq => List.mem_cons_of_mem _ hq) (kk M hI)
  | succ j ih =>
    intro k M hk hI
    obtain ⟨hda, hK⟩ := hI
    have hsl := IA.le hs
    refine T_iload_n d_Mo_opens_185 rfl ?_
    refine T_bipush (v := nI 64) d_Mo_opens_186 (by decide) ?_
    refine N_icmp_ge_f (a := 64) (b := k) d_Mo_opens_188 (tgt := 209) rfl (by omega) (by omega) (by omega) ?_
    refine T_aload_n (v := .ref 373) d_Mo_opens_191 rfl (Or.inr ⟨_, rfl⟩) ?_
    have p_1 := (BG.kp (hb) hK (by decide) (by decide))
    obtain ⟨v_2, hov_2, hwv_2, hsv_2, hiv_2⟩ := id p_1
    refine T_getfield (v := .ref 408) d_Mo_opens_192 fg_Mo_338 hov_2 rfl ?_
    refine T_iload_n d_Mo_opens_195 rfl ?_
    refine T_aload_n (v := .ref 373) d_Mo_opens_196 rfl (Or.inr ⟨_, rfl⟩) ?_
    refine T_getfield (v := .ref 388) d_Mo_opens_197 fg_Mo_99 hov_2 rfl ?_
    refine T_iload_n d_Mo_opens_200 rfl ?_
    have p_3 := (IA.kp (hs) hK (by decide))
    obtain ⟨f_4, hf_5, hl_6, hv_7⟩ := id p_3
    refine N_iaload (k := k) (x := (bR (gd s k))) d_Mo_opens_201 hf_5 (by omega) (by decide) (hv_7 k (by first | omega | (simp only [List.length_append, List.length_cons, List.length_nil, List.length_replicate, sl_len, be_len, sha_len, hmac_len, ex1_len, ex2_len, stretch_len, zer8_len, tC_len, tag1_len, bnN_len, xkp_len]; omega))) ?_
    obtain ⟨f_8, hf_9, hl_10, hv_11⟩ := id hda
    refine N_iastore (k := k) d_Mo_opens_202 (by decide) hf_9 (by omega) (by decide) rfl (fun M_12 h_13 s_14 => ?_)
    refine N_iinc (k := k) (m := 1) (c := (k + 1)) (L' := [(3, .int (nI ((k + 1)))), (0, .ref 373), (1, .ref p), (2, .int (nI at0))]) d_Mo_opens_203 (by decide) rfl (by decide) rfl rfl ?_
    refine T_goto (tgt := 185) d_Mo_opens_206 rfl ?_
    exact ih (k + 1) M_12 (by omega) ⟨ia_c0 h_13 (gd_c (by omega)) (by omega) (by omega) hv_11, (Kp.ex (Kp.tr (Kp.rf : Kp [408] M0 M0) (Kp.mono hK (by decide))) s_14 (by decide))⟩
set_option maxHeartbeats 8000000 in
theorem op_274 (G : GX) {M0 : List va_E} {w : Nat → Int32} {l s : List UInt8} {p at0 : Nat} (hb : BG M0 w l) (hs : IA M0 383 64 s) (hsn : 64 < 2 ^ 31) (ha : 0 + 64 ≤ s.length) (hd : 0 + 64 ≤ 64)  {Q : Option Value → List va_E → Prop} (kk : ∀ M, IA M 415 64 (sl s 0 64) ∧ Kp [415] M0 M → TT G mi_Mo_opens 298 [(0, .ref 373), (1, .ref p), (2, .int (nI at0))] [] M 0 0 Q) : ∀ j k M, k + j = 64 → IA M 415 64 (sl s 0 k) ∧ Kp [415] M0 M → TT G mi_Mo_opens 274 [(3, .int (nI k)), (0, .ref 373), (1, .ref p), (2, .int (nI at0))] [] M 0 0 Q := by
  intro j
  induction j with
  | zero =>
    intro k M hk hI
    obtain rfl : 64 = k := by omega
    obtain ⟨hda, hK⟩ := id hI
    refine T_iload_n d_Mo_opens_274 rfl ?_
    refine T_bipush (v := nI 64) d_Mo_opens_275 (by decide) ?_
    refine N_icmp_ge_t (a := 64) (b := 64) d_Mo_opens_277 (tgt := 298) rfl (by omega) (by omega) (by omega) ?_
    exact T_sub (fun q hq => List.mem_cons_of_mem _ hq) (kk M hI)
  | succ j ih =>
    intro k M hk hI
    obtain ⟨hda, hK⟩ := hI
    have hsl := IA.le hs
    refine T_iload_n d_Mo_opens_274 rfl ?_
    refine T_bipush (v := nI 64) d_Mo_opens_275 (by decide) ?_
    refine N_icmp_ge_f (a := 64) (b := k) d_Mo_opens_277 (tgt := 298) rfl (by omega) (by omega) (by omega) ?_
    refine T_aload_n (v := .ref 373) d_Mo_opens_280 rfl (Or.inr ⟨_, rfl⟩) ?_
    have p_1 := (BG.kp (hb) hK (by decide) (by decide))
    obtain ⟨v_2, hov_2, hwv_2, hsv_2, hiv_2⟩ := id p_1
    refine T_getfield (v := .ref 415) d_Mo_opens_281 fg_Mo_365 hov_2 rfl ?_
    refine T_iload_n d_Mo_opens_284 rfl ?_
    refine T_aload_n (v := .ref 373) d_Mo_opens_285 rfl (Or.inr ⟨_, rfl⟩) ?_
    refine T_getfield (v := .ref 383) d_Mo_opens_286 fg_Mo_55 hov_2 rfl ?_
    refine T_iload_n d_Mo_opens_289 rfl ?_
    have p_3 := (IA.kp (hs) hK (by decide))
    obtain ⟨f_4, hf_5, hl_6, hv_7⟩ := id p_3
    refine N_iaload (k := k) (x := (bR (gd s k))) d_Mo_opens_290 hf_5 (by omega) (by decide) (hv_7 k (by first | omega | (simp only [List.length_append, List.length_cons, List.length_nil, List.length_replicate, sl_len, be_len, sha_len, hmac_len, ex1_len, ex2_len, stretch_len, zer8_len, tC_len, tag1_len, bnN_len, xkp_len]; omega))) ?_
    obtain ⟨f_8, hf_9, hl_10, hv_11⟩ := id hda
    refine N_iastore (k := k) d_Mo_opens_291 (by decide) hf_9 (by omega) (by decide) rfl (fun M_12 h_13 s_14 => ?_)
    refine N_iinc (k := k) (m := 1) (c := (k + 1)) (L' := [(3, .int (nI ((k + 1)))), (0, .ref 373), (1, .ref p), (2, .int (nI at0))]) d_Mo_opens_292 (by decide) rfl (by decide) rfl rfl ?_
    refine T_goto (tgt := 274) d_Mo_opens_295 rfl ?_
    exact ih (k + 1) M_12 (by omega) ⟨ia_c0 h_13 (gd_c (by omega)) (by omega) (by omega) hv_11, (Kp.ex (Kp.tr (Kp.rf : Kp [415] M0 M0) (Kp.mono hK (by decide))) s_14 (by decide))⟩
set_option maxHeartbeats 8000000 in
theorem b_Mo_opens {G : GX} {M : List va_E} {w : Nat → Int32} {p m at0 : Nat} {s n R : List UInt8} (hms : MS M) (h : BG M w []) (hk : IA M p m s) (hn : IA M 412 32 n) (hr : IA M 411 64 R) (ha : at0 + 32 ≤ s.length) (hm2 : m < 2 ^ 30) (ln : n.length = 32) (lR : R.length = 64) (hp : p ∉ opW) : CT G mi_Mo_opens [.ref 373, .ref p, .int (nI at0)] M (fun r M' => r = none ∧ MS M' ∧ BG M' w [] ∧ SC M' 414 16 0 (cKey R n) ∧ IA M' 413 32 (pub (cKey R n)) ∧ IA M' 416 64 (ex1 R (n ++ W13)) ∧ IA M' 415 64 (seal8 R n (sl s at0 32)) ∧ Kp opW M M') := by
  refine CT.of (by decide) (Nat.le_of_ble_eq_true rfl) ?_
  show TT G mi_Mo_opens 0 [(0, .ref 373), (1, .ref p), (2, .int (nI at0))] [] M 0 0 _
  refine T_aload_n (v := .ref 373) d_Mo_opens_0 rfl (Or.inr ⟨_, rfl⟩) ?_
  refine T_aload_n (v := .ref 373) d_Mo_opens_1 rfl (Or.inr ⟨_, rfl⟩) ?_
  obtain ⟨v_1, hov_1, hwv_1, hsv_1, hiv_1⟩ := id h
  refine T_getfield (v := .ref 412) d_Mo_opens_2 fg_Mo_356 hov_1 rfl ?_
  refine T_iconst (v := nI 0) d_Mo_opens_5 (by decide) ?_
  refine T_bipush (v := nI 32) d_Mo_opens_6 (by decide) ?_
  refine T_virtual (as := [.ref 412, .int (nI 0), .int (nI 32)]) (rest := []) (b := 373) d_Mo_opens_8 rfl (jw_Mo_bytes.jo (by decide)) lm_Mo_76 ji_Mo_bytes js_Mo_bytes hov_1 rfl rfl rfl (Nat.le_of_ble_eq_true rfl) (by decide) (by decide) (b_Mo_bytes (at0 := 0) (n := 32) h hn (by first | omega | (simp only [List.length_append, List.length_cons, List.length_nil, List.length_replicate, sl_len, be_len, sha_len, hmac_len, ex1_len, ex2_len, stretch_len, zer8_len, tC_len, tag1_len, bnN_len, xkp_len, enc_len, chance_len, lbF_len, str2_len, pub_len', sec8_len]; done) | (simp only [List.length_append, List.length_cons, List.length_nil, List.length_replicate, sl_len, be_len, sha_len, hmac_len, ex1_len, ex2_len, stretch_len, zer8_len, tC_len, tag1_len, bnN_len, xkp_len, enc_len, chance_len, lbF_len, str2_len, pub_len', sec8_len]; omega)) (by decide) (by first | omega | (simp only [List.length_append, List.length_cons, List.length_nil, List.length_replicate, sl_len, be_len, sha_len, hmac_len, ex1_len, ex2_len, stretch_len, zer8_len, tC_len, tag1_len, bnN_len, xkp_len, enc_len, chance_len, lbF_len, str2_len, pub_len', sec8_len]; done) | (simp only [List.length_append, List.length_cons, List.length_nil, List.length_replicate, sl_len, be_len, sha_len, hmac_len, ex1_len, ex2_len, stretch_len, zer8_len, tC_len, tag1_len, bnN_len, xkp_len, enc_len, chance_len, lbF_len, str2_len, pub_len', sec8_len]; omega)) (by decide) (by decide)) (fun r M_2 hq => ?_)
  obtain ⟨rfl, p_2_0, kp_2⟩ := hq
  refine T_eq (pc' := 11) (L' := [(0, .ref 373), (1, .ref p), (2, .int (nI at0))]) (st' := []) (M' := M_2) rfl rfl rfl rfl ?_
  refine T_aload_n (v := .ref 373) d_Mo_opens_11 rfl (Or.inr ⟨_, rfl⟩) ?_
  refine T_ldc2 d_Mo_opens_12 kJ_Mo_518 ?_
  obtain ⟨v_4, hov_4, hwv_4, hsv_4, hiv_4⟩ := id p_2_0
  refine T_virtual (as := [.long 5796811627541325131]) (rest := []) (b := 373) d_Mo_opens_15 rfl (jw_Mo_letters.jo (by decide)) lm_Mo_104 ji_Mo_letters js_Mo_letters hov_4 rfl rfl rfl (Nat.le_of_ble_eq_true rfl) (by decide) (by decide) (b_Mo_letters p_2_0 (by first | omega | (simp only [List.length_append, List.length_cons, List.length_nil, List.length_replicate, sl_len, be_len, sha_len, hmac_len, ex1_len, ex2_len, stretch_len, zer8_len, tC_len, tag1_len, bnN_len, xkp_len, enc_len, chance_len, lbF_len, str2_len, pub_len', sec8_len]; done) | (simp only [List.length_append, List.length_cons, List.length_nil, List.length_replicate, sl_len, be_len, sha_len, hmac_len, ex1_len, ex2_len, stretch_len, zer8_len, tC_len, tag1_len, bnN_len, xkp_len, enc_len, chance_len, lbF_len, str2_len, pub_len', sec8_len]; omega))) (fun r M_3 hq => ?_)
  obtain ⟨rfl, p_3_0, kp_3⟩ := hq
  refine T_eq (pc' := 18) (L' := [(0, .ref 373), (1, .ref p), (2, .int (nI at0))]) (st' := []) (M' := M_3) rfl rfl rfl rfl ?_
  have p_5 : BG M_3 w ((([]) ++ sl n 0 32) ++ [80, 114, 105, 118, 97, 116, 101, 75]) := (by have g := p_3_0; rw [show lts 5796811627541325131 = [80, 114, 105, 118, 97, 116, 101, 75] from by decide +kernel] at g; exact g)
  refine T_aload_n (v := .ref 373) d_Mo_opens_18 rfl (Or.inr ⟨_, rfl⟩) ?_
  refine T_ldc2 d_Mo_opens_19 kJ_Mo_520 ?_
  obtain ⟨v_7, hov_7, hwv_7, hsv_7, hiv_7⟩ := id p_5
  refine T_virtual (as := [.long 25977]) (rest := []) (b := 373) d_Mo_opens_22 rfl (jw_Mo_letters.jo (by decide)) lm_Mo_104 ji_Mo_letters js_Mo_letters hov_7 rfl rfl rfl (Nat.le_of_ble_eq_true rfl) (by decide) (by decide) (b_Mo_letters p_5 (by first | omega | (simp only [List.length_append, List.length_cons, List.length_nil, List.length_replicate, sl_len, be_len, sha_len, hmac_len, ex1_len, ex2_len, stretch_len, zer8_len, tC_len, tag1_len, bnN_len, xkp_len, enc_len, chance_len, lbF_len, str2_len, pub_len', sec8_len]; done) | (simp only [List.length_append, List.length_cons, List.length_nil, List.length_replicate, sl_len, be_len, sha_len, hmac_len, ex1_len, ex2_len, stretch_len, zer8_len, tC_len, tag1_len, bnN_len, xkp_len, enc_len, chance_len, lbF_len, str2_len, pub_len', sec8_len]; omega))) (fun r M_6 hq => ?_)
  obtain ⟨rfl, p_6_0, kp_6⟩ := hq
  refine T_eq (pc' := 25) (L' := [(0, .ref 373), (1, .ref p), (2, .int (nI at0))]) (st' := []) (M' := M_6) rfl rfl rfl rfl ?_
  have p_8 : BG M_6 w (((([]) ++ sl n 0 32) ++ [80, 114, 105, 118, 97, 116, 101, 75]) ++ [101, 121]) := (by have g := p_6_0; rw [show lts 25977 = [101, 121] from by decide +kernel] at g; exact g)
  refine T_aload_n (v := .ref 373) d_Mo_opens_25 rfl (Or.inr ⟨_, rfl⟩) ?_
  refine T_aload_n (v := .ref 373) d_Mo_opens_26 rfl (Or.inr ⟨_, rfl⟩) ?_
  obtain ⟨v_9, hov_9, hwv_9, hsv_9, hiv_9⟩ := id p_8
  refine T_getfield (v := .ref 411) d_Mo_opens_27 fg_Mo_353 hov_9 rfl ?_
  refine T_iconst (v := nI 0) d_Mo_opens_30 (by decide) ?_
  refine T_bipush (v := nI 32) d_Mo_opens_31 (by decide) ?_
  have p_10 := (MS.kp ((MS.kp ((MS.kp (hms) kp_2 (by decide))) kp_3 (by decide))) kp_6 (by decide))
  have p_11 := (IA.kp ((IA.kp ((IA.kp (hr) kp_2 (by decide))) kp_3 (by decide))) kp_6 (by decide))
  refine T_virtual (as := [.ref 411, .int (nI 0), .int (nI 32)]) (rest := []) (b := 373) d_Mo_opens_33 rfl (jw_Mo_expand.jo (by decide)) lm_Mo_510 ji_Mo_expand js_Mo_expand hov_9 rfl rfl rfl (Nat.le_of_ble_eq_true rfl) (by decide) (by decide) (b_Mo_expand1 (at0 := 0) (n := 32) p_10 p_8 p_11 (by first | omega | (simp only [List.length_append, List.length_cons, List.length_nil, List.length_replicate, sl_len, be_len, sha_len, hmac_len, ex1_len, ex2_len, stretch_len, zer8_len, tC_len, tag1_len, bnN_len, xkp_len, enc_len, chance_len, lbF_len, str2_len, pub_len', sec8_len]; done) | (simp only [List.length_append, List.length_cons, List.length_nil, List.length_replicate, sl_len, be_len, sha_len, hmac_len, ex1_len, ex2_len, stretch_len, zer8_len, tC_len, tag1_len, bnN_len, xkp_len, enc_len, chance_len, lbF_len, str2_len, pub_len', sec8_len]; omega)) (by decide) (by first | omega | (simp only [List.length_append, List.length_cons, List.length_nil, List.length_replicate, sl_len, be_len, sha_len, hmac_len, ex1_len, ex2_len, stretch_len, zer8_len, tC_len, tag1_len, bnN_len, xkp_len, enc_len, chance_len, lbF_len, str2_len, pub_len', sec8_len]; done) | (simp only [List.length_append, List.length_cons, List.length_nil, List.length_replicate, sl_len, be_len, sha_len, hmac_len, ex1_len, ex2_len, stretch_len, zer8_len, tC_len, tag1_len, bnN_len, xkp_len, enc_len, chance_len, lbF_len, str2_len, pub_len', sec8_len]; omega)) (by decide) (by decide)) (fun r M_12 hq => ?_)
  obtain ⟨rfl, p_12_0, p_12_1, p_12_2, kp_12⟩ := hq
  refine T_eq (pc' := 36) (L' := [(0, .ref 373), (1, .ref p), (2, .int (nI at0))]) (st' := []) (M' := M_12) rfl rfl rfl rfl ?_
  refine T_iconst (v := nI 0) d_Mo_opens_36 (by decide) ?_
  refine T_istore_n (L' := [(3, .int (nI 0)), (0, .ref 373), (1, .ref p), (2, .int (nI at0))]) d_Mo_opens_37 (by decide) rfl ?_
  have p_13 : IA M_12 388 192 (ex1 R (n ++ W11)) := (by have g := p_12_2; rw [sl64 lR, sl64 ln] at g; simp only [List.append_assoc, List.nil_append] at g; simp only [W11]; exact g)
  refine op_38 G p_12_1 p_13 (by decide) (by first | omega | (simp only [List.length_append, List.length_cons, List.length_nil, List.length_replicate, sl_len, be_len, sha_len, hmac_len, ex1_len, ex2_len, stretch_len, zer8_len, tC_len, tag1_len, bnN_len, xkp_len, enc_len, chance_len, lbF_len, str2_len, pub_len', sec8_len]; done) | (simp only [List.length_append, List.length_cons, List.length_nil, List.length_replicate, sl_len, be_len, sha_len, hmac_len, ex1_len, ex2_len, stretch_len, zer8_len, tC_len, tag1_len, bnN_len, xkp_len, enc_len, chance_len, lbF_len, str2_len, pub_len', sec8_len]; omega)) (by decide) (fun Mc14 hI => ?_) 32 0 M_12 (Nat.zero_add _) ⟨by rw [sl_zero]; exact (MS.ia p_12_0 (p := 408) (n := 400) (by decide)), Kp.rf⟩
  obtain ⟨hd14, hK14⟩ := hI
  have ms14 := MS.wi p_12_0 hK14 hd14.iq (by decide) (by decide) (by decide)
  refine T_aload_n (v := .ref 373) d_Mo_opens_62 rfl (Or.inr ⟨_, rfl⟩) ?_
  refine T_aload_n (v := .ref 373) d_Mo_opens_63 rfl (Or.inr ⟨_, rfl⟩) ?_
  have p_15 := (BG.kp (p_12_1) hK14 (by decide) (by decide))
  obtain ⟨v_16, hov_16, hwv_16, hsv_16, hiv_16⟩ := id p_15
  refine T_getfield (v := .ref 408) d_Mo_opens_64 fg_Mo_338 hov_16 rfl ?_
  refine T_iconst (v := nI 0) d_Mo_opens_67 (by decide) ?_
  refine T_bipush (v := nI 32) d_Mo_opens_68 (by decide) ?_
  refine T_iconst (v := nI 1) d_Mo_opens_70 (by decide) ?_
  refine T_virtual (as := [.ref 408, .int (nI 0), .int (nI 32), .int (nI 1)]) (rest := []) (b := 373) d_Mo_opens_71 rfl (jw_Mo_keyOf.jo (by decide)) lm_Mo_485 ji_Mo_keyOf js_Mo_keyOf hov_16 rfl rfl rfl (Nat.le_of_ble_eq_true rfl) (by decide) (by decide) (b_Mo_keyOf1 (at0 := 0) ms14 p_15 hd14 (by first | omega | (simp only [List.length_append, List.length_cons, List.length_nil, List.length_replicate, sl_len, be_len, sha_len, hmac_len, ex1_len, ex2_len, stretch_len, zer8_len, tC_len, tag1_len, bnN_len, xkp_len, enc_len, chance_len, lbF_len, str2_len, pub_len', sec8_len]; done) | (simp only [List.length_append, List.length_cons, List.length_nil, List.length_replicate, sl_len, be_len, sha_len, hmac_len, ex1_len, ex2_len, stretch_len, zer8_len, tC_len, tag1_len, bnN_len, xkp_len, enc_len, chance_len, lbF_len, str2_len, pub_len', sec8_len]; omega)) (by decide) (by decide)) (fun r M_17 hq => ?_)
  obtain ⟨rfl, p_17_0, p_17_1, p_17_2, kp_17⟩ := hq
  refine T_eq (pc' := 74) (L' := [(0, .ref 373), (1, .ref p), (2, .int (nI at0))]) (st' := []) (M' := M_17) rfl rfl rfl rfl ?_
  have p_18 : SC M_17 395 16 0 (cKey R n) := (by have g := p_17_2; rw [sl64 (sl_len _ _ _)] at g; exact g)
  refine T_aload_n (v := .ref 373) d_Mo_opens_74 rfl (Or.inr ⟨_, rfl⟩) ?_
  refine T_aload_n (v := .ref 373) d_Mo_opens_75 rfl (Or.inr ⟨_, rfl⟩) ?_
  obtain ⟨v_19, hov_19, hwv_19, hsv_19, hiv_19⟩ := id p_17_1
  refine T_getfield (v := .ref 414) d_Mo_opens_76 fg_Mo_362 hov_19 rfl ?_
  refine T_iconst (v := nI 0) d_Mo_opens_79 (by decide) ?_
  refine T_virtual (as := [.ref 414, .int (nI 0)]) (rest := []) (b := 373) d_Mo_opens_80 rfl (jw_Mo_putScalar.jo (by decide)) lm_Mo_489 ji_Mo_putScalar js_Mo_putScalar hov_19 rfl rfl rfl (Nat.le_of_ble_eq_true rfl) (by decide) (by decide) (b_Mo_put16 p_17_0 p_17_1 p_18 (by decide) (by decide) (by decide)) (fun r M_20 hq => ?_)
  obtain ⟨rfl, p_20_0, p_20_1, kp_20⟩ := hq
  refine T_eq (pc' := 83) (L' := [(0, .ref 373), (1, .ref p), (2, .int (nI at0))]) (st' := []) (M' := M_20) rfl rfl rfl rfl ?_
  refine T_aload_n (v := .ref 373) d_Mo_opens_83 rfl (Or.inr ⟨_, rfl⟩) ?_
  refine T_aload_n (v := .ref 373) d_Mo_opens_84 rfl (Or.inr ⟨_, rfl⟩) ?_
  have p_21 := (BG.kp (p_17_1) kp_20 (by decide) (by decide))
  obtain ⟨v_22, hov_22, hwv_22, hsv_22, hiv_22⟩ := id p_21
  refine T_getfield (v := .ref 413) d_Mo_opens_85 fg_Mo_359 hov_22 rfl ?_
  refine T_iconst (v := nI 0) d_Mo_opens_88 (by decide) ?_
  have p_23 := (SC.kp (p_18) kp_20 (by decide))
  refine T_virtual (as := [.ref 413, .int (nI 0)]) (rest := []) (b := 373) d_Mo_opens_89 rfl (jw_Mo_publicTo.jo (by decide)) lm_Mo_492 ji_Mo_publicTo js_Mo_publicTo hov_22 rfl rfl rfl (Nat.le_of_ble_eq_true rfl) (by decide) (by decide) (b_Mo_public0 (n := 32) p_20_0 p_21 p_23 (Nat.lt_trans (keyN_lt _ _) (by decide)) (by decide) (by decide) (by decide) (by decide) (by decide)) (fun r M_24 hq => ?_)
  obtain ⟨rfl, p_24_0, p_24_1, kp_24⟩ := hq
  refine T_eq (pc' := 92) (L' := [(0, .ref 373), (1, .ref p), (2, .int (nI at0))]) (st' := []) (M' := M_24) rfl rfl rfl rfl ?_
  refine T_aload_n (v := .ref 373) d_Mo_opens_92 rfl (Or.inr ⟨_, rfl⟩) ?_
  refine T_aload_n (v := .ref 373) d_Mo_opens_93 rfl (Or.inr ⟨_, rfl⟩) ?_
  have p_25 := (BG.kp (p_21) kp_24 (by decide) (by decide))
  obtain ⟨v_26, hov_26, hwv_26, hsv_26, hiv_26⟩ := id p_25
  refine T_getfield (v := .ref 412) d_Mo_opens_94 fg_Mo_356 hov_26 rfl ?_
  refine T_iconst (v := nI 0) d_Mo_opens_97 (by decide) ?_
  refine T_bipush (v := nI 32) d_Mo_opens_98 (by decide) ?_
  have p_27 := (IA.kp ((IA.kp ((IA.kp ((IA.kp ((IA.kp ((IA.kp ((IA.kp ((IA.kp (hn) kp_2 (by decide))) kp_3 (by decide))) kp_6 (by decide))) kp_12 (by decide))) hK14 (by decide))) kp_17 (by decide))) kp_20 (by decide))) kp_24 (by decide))
  refine T_virtual (as := [.ref 412, .int (nI 0), .int (nI 32)]) (rest := []) (b := 373) d_Mo_opens_100 rfl (jw_Mo_bytes.jo (by decide)) lm_Mo_76 ji_Mo_bytes js_Mo_bytes hov_26 rfl rfl rfl (Nat.le_of_ble_eq_true rfl) (by decide) (by decide) (b_Mo_bytes (at0 := 0) (n := 32) p_25 p_27 (by first | omega | (simp only [List.length_append, List.length_cons, List.length_nil, List.length_replicate, sl_len, be_len, sha_len, hmac_len, ex1_len, ex2_len, stretch_len, zer8_len, tC_len, tag1_len, bnN_len, xkp_len, enc_len, chance_len, lbF_len, str2_len, pub_len', sec8_len]; done) | (simp only [List.length_append, List.length_cons, List.length_nil, List.length_replicate, sl_len, be_len, sha_len, hmac_len, ex1_len, ex2_len, stretch_len, zer8_len, tC_len, tag1_len, bnN_len, xkp_len, enc_len, chance_len, lbF_len, str2_len, pub_len', sec8_len]; omega)) (by decide) (by first | omega | (simp only [List.length_append, List.length_cons, List.length_nil, List.length_replicate, sl_len, be_len, sha_len, hmac_len, ex1_len, ex2_len, stretch_len, zer8_len, tC_len, tag1_len, bnN_len, xkp_len, enc_len, chance_len, lbF_len, str2_len, pub_len', sec8_len]; done) | (simp only [List.length_append, List.length_cons, List.length_nil, List.length_replicate, sl_len, be_len, sha_len, hmac_len, ex1_len, ex2_len, stretch_len, zer8_len, tC_len, tag1_len, bnN_len, xkp_len, enc_len, chance_len, lbF_len, str2_len, pub_len', sec8_len]; omega)) (by decide) (by decide)) (fun r M_28 hq => ?_)
  obtain ⟨rfl, p_28_0, kp_28⟩ := hq
  refine T_eq (pc' := 103) (L' := [(0, .ref 373), (1, .ref p), (2, .int (nI at0))]) (st' := []) (M' := M_28) rfl rfl rfl rfl ?_
  refine T_aload_n (v := .ref 373) d_Mo_opens_103 rfl (Or.inr ⟨_, rfl⟩) ?_
  refine T_ldc2 d_Mo_opens_104 kJ_Mo_522 ?_
  obtain ⟨v_30, hov_30, hwv_30, hsv_30, hiv_30⟩ := id p_28_0
  refine T_virtual (as := [.long 5005874609786211173]) (rest := []) (b := 373) d_Mo_opens_107 rfl (jw_Mo_letters.jo (by decide)) lm_Mo_104 ji_Mo_letters js_Mo_letters hov_30 rfl rfl rfl (Nat.le_of_ble_eq_true rfl) (by decide) (by decide) (b_Mo_letters p_28_0 (by first | omega | (simp only [List.length_append, List.length_cons, List.length_nil, List.length_replicate, sl_len, be_len, sha_len, hmac_len, ex1_len, ex2_len, stretch_len, zer8_len, tC_len, tag1_len, bnN_len, xkp_len, enc_len, chance_len, lbF_len, str2_len, pub_len', sec8_len]; done) | (simp only [List.length_append, List.length_cons, List.length_nil, List.length_replicate, sl_len, be_len, sha_len, hmac_len, ex1_len, ex2_len, stretch_len, zer8_len, tC_len, tag1_len, bnN_len, xkp_len, enc_len, chance_len, lbF_len, str2_len, pub_len', sec8_len]; omega))) (fun r M_29 hq => ?_)
  obtain ⟨rfl, p_29_0, kp_29⟩ := hq
  refine T_eq (pc' := 110) (L' := [(0, .ref 373), (1, .ref p), (2, .int (nI at0))]) (st' := []) (M' := M_29) rfl rfl rfl rfl ?_
  have p_31 : BG M_29 w ((([]) ++ sl n 0 32) ++ [69, 120, 112, 111, 114, 116, 75, 101]) := (by have g := p_29_0; rw [show lts 5005874609786211173 = [69, 120, 112, 111, 114, 116, 75, 101] from by decide +kernel] at g; exact g)
  refine T_aload_n (v := .ref 373) d_Mo_opens_110 rfl (Or.inr ⟨_, rfl⟩) ?_
  refine T_ldc2 d_Mo_opens_111 kJ_Mo_524 ?_
  obtain ⟨v_33, hov_33, hwv_33, hsv_33, hiv_33⟩ := id p_31
  refine T_virtual (as := [.long 121]) (rest := []) (b := 373) d_Mo_opens_114 rfl (jw_Mo_letters.jo (by decide)) lm_Mo_104 ji_Mo_letters js_Mo_letters hov_33 rfl rfl rfl (Nat.le_of_ble_eq_true rfl) (by decide) (by decide) (b_Mo_letters p_31 (by first | omega | (simp only [List.length_append, List.length_cons, List.length_nil, List.length_replicate, sl_len, be_len, sha_len, hmac_len, ex1_len, ex2_len, stretch_len, zer8_len, tC_len, tag1_len, bnN_len, xkp_len, enc_len, chance_len, lbF_len, str2_len, pub_len', sec8_len]; done) | (simp only [List.length_append, List.length_cons, List.length_nil, List.length_replicate, sl_len, be_len, sha_len, hmac_len, ex1_len, ex2_len, stretch_len, zer8_len, tC_len, tag1_len, bnN_len, xkp_len, enc_len, chance_len, lbF_len, str2_len, pub_len', sec8_len]; omega))) (fun r M_32 hq => ?_)
  obtain ⟨rfl, p_32_0, kp_32⟩ := hq
  refine T_eq (pc' := 117) (L' := [(0, .ref 373), (1, .ref p), (2, .int (nI at0))]) (st' := []) (M' := M_32) rfl rfl rfl rfl ?_
  have p_34 : BG M_32 w (((([]) ++ sl n 0 32) ++ [69, 120, 112, 111, 114, 116, 75, 101]) ++ [121]) := (by have g := p_32_0; rw [show lts 121 = [121] from by decide +kernel] at g; exact g)
  refine T_aload_n (v := .ref 373) d_Mo_opens_117 rfl (Or.inr ⟨_, rfl⟩) ?_
  refine T_aload_n (v := .ref 373) d_Mo_opens_118 rfl (Or.inr ⟨_, rfl⟩) ?_
  obtain ⟨v_35, hov_35, hwv_35, hsv_35, hiv_35⟩ := id p_34
  refine T_getfield (v := .ref 411) d_Mo_opens_119 fg_Mo_353 hov_35 rfl ?_
  refine T_iconst (v := nI 0) d_Mo_opens_122 (by decide) ?_
  refine T_bipush (v := nI 64) d_Mo_opens_123 (by decide) ?_
  have p_36 := (MS.kp ((MS.kp ((MS.kp (p_24_0) kp_28 (by decide))) kp_29 (by decide))) kp_32 (by decide))
  have p_37 := (IA.kp ((IA.kp ((IA.kp ((IA.kp ((IA.kp ((IA.kp ((IA.kp ((IA.kp (p_11) kp_12 (by decide))) hK14 (by decide))) kp_17 (by decide))) kp_20 (by decide))) kp_24 (by decide))) kp_28 (by decide))) kp_29 (by decide))) kp_32 (by decide))
  refine T_virtual (as := [.ref 411, .int (nI 0), .int (nI 64)]) (rest := []) (b := 373) d_Mo_opens_125 rfl (jw_Mo_expand.jo (by decide)) lm_Mo_510 ji_Mo_expand js_Mo_expand hov_35 rfl rfl rfl (Nat.le_of_ble_eq_true rfl) (by decide) (by decide) (b_Mo_expand1 (at0 := 0) (n := 64) p_36 p_34 p_37 (by first | omega | (simp only [List.length_append, List.length_cons, List.length_nil, List.length_replicate, sl_len, be_len, sha_len, hmac_len, ex1_len, ex2_len, stretch_len, zer8_len, tC_len, tag1_len, bnN_len, xkp_len, enc_len, chance_len, lbF_len, str2_len, pub_len', sec8_len]; done) | (simp only [List.length_append, List.length_cons, List.length_nil, List.length_replicate, sl_len, be_len, sha_len, hmac_len, ex1_len, ex2_len, stretch_len, zer8_len, tC_len, tag1_len, bnN_len, xkp_len, enc_len, chance_len, lbF_len, str2_len, pub_len', sec8_len]; omega)) (by decide) (by first | omega | (simp only [List.length_append, List.length_cons, List.length_nil, List.length_replicate, sl_len, be_len, sha_len, hmac_len, ex1_len, ex2_len, stretch_len, zer8_len, tC_len, tag1_len, bnN_len, xkp_len, enc_len, chance_len, lbF_len, str2_len, pub_len', sec8_len]; done) | (simp only [List.length_append, List.length_cons, List.length_nil, List.length_replicate, sl_len, be_len, sha_len, hmac_len, ex1_len, ex2_len, stretch_len, zer8_len, tC_len, tag1_len, bnN_len, xkp_len, enc_len, chance_len, lbF_len, str2_len, pub_len', sec8_len]; omega)) (by decide) (by decide)) (fun r M_38 hq => ?_)
  obtain ⟨rfl, p_38_0, p_38_1, p_38_2, kp_38⟩ := hq
  refine T_eq (pc' := 128) (L' := [(0, .ref 373), (1, .ref p), (2, .int (nI at0))]) (st' := []) (M' := M_38) rfl rfl rfl rfl ?_
  refine T_iconst (v := nI 0) d_Mo_opens_128 (by decide) ?_
  refine T_istore_n (L' := [(3, .int (nI 0)), (0, .ref 373), (1, .ref p), (2, .int (nI at0))]) d_Mo_opens_129 (by decide) rfl ?_
  have p_39 : IA M_38 388 192 (ex1 R (n ++ W13)) := (by have g := p_38_2; rw [sl64 lR, sl64 ln] at g; simp only [List.append_assoc, List.nil_append] at g; simp only [W13]; exact g)
  refine op_130 G p_38_1 p_39 (by decide) (by first | omega | (simp only [List.length_append, List.length_cons, List.length_nil, List.length_replicate, sl_len, be_len, sha_len, hmac_len, ex1_len, ex2_len, stretch_len, zer8_len, tC_len, tag1_len, bnN_len, xkp_len, enc_len, chance_len, lbF_len, str2_len, pub_len', sec8_len]; done) | (simp only [List.length_append, List.length_cons, List.length_nil, List.length_replicate, sl_len, be_len, sha_len, hmac_len, ex1_len, ex2_len, stretch_len, zer8_len, tC_len, tag1_len, bnN_len, xkp_len, enc_len, chance_len, lbF_len, str2_len, pub_len', sec8_len]; omega)) (by decide) (fun Mc40 hI => ?_) 64 0 M_38 (Nat.zero_add _) ⟨by rw [sl_zero]; exact (MS.ia p_38_0 (p := 416) (n := 64) (by decide)), Kp.rf⟩
  obtain ⟨hd40, hK40⟩ := hI
  have ms40 := MS.wi p_38_0 hK40 hd40.iq (by decide) (by decide) (by decide)
  have p_41 : IA Mc40 416 64 (ex1 R (n ++ W13)) := (by have g := hd40; rw [sl64 (by first | omega | (simp only [List.length_append, List.length_cons, List.length_nil, List.length_replicate, sl_len, be_len, sha_len, hmac_len, ex1_len, ex2_len, stretch_len, zer8_len, tC_len, tag1_len, bnN_len, xkp_len, enc_len, chance_len, lbF_len, str2_len, pub_len', sec8_len]; done) | (simp only [List.length_append, List.length_cons, List.length_nil, List.length_replicate, sl_len, be_len, sha_len, hmac_len, ex1_len, ex2_len, stretch_len, zer8_len, tC_len, tag1_len, bnN_len, xkp_len, enc_len, chance_len, lbF_len, str2_len, pub_len', sec8_len]; omega))] at g; exact g)
  refine T_aload_n (v := .ref 373) d_Mo_opens_154 rfl (Or.inr ⟨_, rfl⟩) ?_
  refine T_aload_n (v := .ref 373) d_Mo_opens_155 rfl (Or.inr ⟨_, rfl⟩) ?_
  have p_42 := (BG.kp (p_38_1) hK40 (by decide) (by decide))
  obtain ⟨v_43, hov_43, hwv_43, hsv_43, hiv_43⟩ := id p_42
  refine T_getfield (v := .ref 412) d_Mo_opens_156 fg_Mo_356 hov_43 rfl ?_
  refine T_iconst (v := nI 0) d_Mo_opens_159 (by decide) ?_
  refine T_bipush (v := nI 32) d_Mo_opens_160 (by decide) ?_
  have p_44 := (IA.kp ((IA.kp ((IA.kp ((IA.kp ((IA.kp (p_27) kp_28 (by decide))) kp_29 (by decide))) kp_32 (by decide))) kp_38 (by decide))) hK40 (by decide))
  refine T_virtual (as := [.ref 412, .int (nI 0), .int (nI 32)]) (rest := []) (b := 373) d_Mo_opens_162 rfl (jw_Mo_bytes.jo (by decide)) lm_Mo_76 ji_Mo_bytes js_Mo_bytes hov_43 rfl rfl rfl (Nat.le_of_ble_eq_true rfl) (by decide) (by decide) (b_Mo_bytes (at0 := 0) (n := 32) p_42 p_44 (by first | omega | (simp only [List.length_append, List.length_cons, List.length_nil, List.length_replicate, sl_len, be_len, sha_len, hmac_len, ex1_len, ex2_len, stretch_len, zer8_len, tC_len, tag1_len, bnN_len, xkp_len, enc_len, chance_len, lbF_len, str2_len, pub_len', sec8_len]; done) | (simp only [List.length_append, List.length_cons, List.length_nil, List.length_replicate, sl_len, be_len, sha_len, hmac_len, ex1_len, ex2_len, stretch_len, zer8_len, tC_len, tag1_len, bnN_len, xkp_len, enc_len, chance_len, lbF_len, str2_len, pub_len', sec8_len]; omega)) (by decide) (by first | omega | (simp only [List.length_append, List.length_cons, List.length_nil, List.length_replicate, sl_len, be_len, sha_len, hmac_len, ex1_len, ex2_len, stretch_len, zer8_len, tC_len, tag1_len, bnN_len, xkp_len, enc_len, chance_len, lbF_len, str2_len, pub_len', sec8_len]; done) | (simp only [List.length_append, List.length_cons, List.length_nil, List.length_replicate, sl_len, be_len, sha_len, hmac_len, ex1_len, ex2_len, stretch_len, zer8_len, tC_len, tag1_len, bnN_len, xkp_len, enc_len, chance_len, lbF_len, str2_len, pub_len', sec8_len]; omega)) (by decide) (by decide)) (fun r M_45 hq => ?_)
  obtain ⟨rfl, p_45_0, kp_45⟩ := hq
  refine T_eq (pc' := 165) (L' := [(0, .ref 373), (1, .ref p), (2, .int (nI at0))]) (st' := []) (M' := M_45) rfl rfl rfl rfl ?_
  refine T_aload_n (v := .ref 373) d_Mo_opens_165 rfl (Or.inr ⟨_, rfl⟩) ?_
  refine T_ldc2 d_Mo_opens_166 kJ_Mo_526 ?_
  obtain ⟨v_47, hov_47, hwv_47, hsv_47, hiv_47⟩ := id p_45_0
  refine T_virtual (as := [.long 18425016312620409]) (rest := []) (b := 373) d_Mo_opens_169 rfl (jw_Mo_letters.jo (by decide)) lm_Mo_104 ji_Mo_letters js_Mo_letters hov_47 rfl rfl rfl (Nat.le_of_ble_eq_true rfl) (by decide) (by decide) (b_Mo_letters p_45_0 (by first | omega | (simp only [List.length_append, List.length_cons, List.length_nil, List.length_replicate, sl_len, be_len, sha_len, hmac_len, ex1_len, ex2_len, stretch_len, zer8_len, tC_len, tag1_len, bnN_len, xkp_len, enc_len, chance_len, lbF_len, str2_len, pub_len', sec8_len]; done) | (simp only [List.length_append, List.length_cons, List.length_nil, List.length_replicate, sl_len, be_len, sha_len, hmac_len, ex1_len, ex2_len, stretch_len, zer8_len, tC_len, tag1_len, bnN_len, xkp_len, enc_len, chance_len, lbF_len, str2_len, pub_len', sec8_len]; omega))) (fun r M_46 hq => ?_)
  obtain ⟨rfl, p_46_0, kp_46⟩ := hq
  refine T_eq (pc' := 172) (L' := [(0, .ref 373), (1, .ref p), (2, .int (nI at0))]) (st' := []) (M' := M_46) rfl rfl rfl rfl ?_
  have p_48 : BG M_46 w ((([]) ++ sl n 0 32) ++ [65, 117, 116, 104, 75, 101, 121]) := (by have g := p_46_0; rw [show lts 18425016312620409 = [65, 117, 116, 104, 75, 101, 121] from by decide +kernel] at g; exact g)
  refine T_aload_n (v := .ref 373) d_Mo_opens_172 rfl (Or.inr ⟨_, rfl⟩) ?_
  refine T_aload_n (v := .ref 373) d_Mo_opens_173 rfl (Or.inr ⟨_, rfl⟩) ?_
  obtain ⟨v_49, hov_49, hwv_49, hsv_49, hiv_49⟩ := id p_48
  refine T_getfield (v := .ref 411) d_Mo_opens_174 fg_Mo_353 hov_49 rfl ?_
  refine T_iconst (v := nI 0) d_Mo_opens_177 (by decide) ?_
  refine T_bipush (v := nI 64) d_Mo_opens_178 (by decide) ?_
  have p_50 := (MS.kp ((MS.kp (ms40) kp_45 (by decide))) kp_46 (by decide))
  have p_51 := (IA.kp ((IA.kp ((IA.kp ((IA.kp (p_37) kp_38 (by decide))) hK40 (by decide))) kp_45 (by decide))) kp_46 (by decide))
  refine T_virtual (as := [.ref 411, .int (nI 0), .int (nI 64)]) (rest := []) (b := 373) d_Mo_opens_180 rfl (jw_Mo_expand.jo (by decide)) lm_Mo_510 ji_Mo_expand js_Mo_expand hov_49 rfl rfl rfl (Nat.le_of_ble_eq_true rfl) (by decide) (by decide) (b_Mo_expand1 (at0 := 0) (n := 64) p_50 p_48 p_51 (by first | omega | (simp only [List.length_append, List.length_cons, List.length_nil, List.length_replicate, sl_len, be_len, sha_len, hmac_len, ex1_len, ex2_len, stretch_len, zer8_len, tC_len, tag1_len, bnN_len, xkp_len, enc_len, chance_len, lbF_len, str2_len, pub_len', sec8_len]; done) | (simp only [List.length_append, List.length_cons, List.length_nil, List.length_replicate, sl_len, be_len, sha_len, hmac_len, ex1_len, ex2_len, stretch_len, zer8_len, tC_len, tag1_len, bnN_len, xkp_len, enc_len, chance_len, lbF_len, str2_len, pub_len', sec8_len]; omega)) (by decide) (by first | omega | (simp only [List.length_append, List.length_cons, List.length_nil, List.length_replicate, sl_len, be_len, sha_len, hmac_len, ex1_len, ex2_len, stretch_len, zer8_len, tC_len, tag1_len, bnN_len, xkp_len, enc_len, chance_len, lbF_len, str2_len, pub_len', sec8_len]; done) | (simp only [List.length_append, List.length_cons, List.length_nil, List.length_replicate, sl_len, be_len, sha_len, hmac_len, ex1_len, ex2_len, stretch_len, zer8_len, tC_len, tag1_len, bnN_len, xkp_len, enc_len, chance_len, lbF_len, str2_len, pub_len', sec8_len]; omega)) (by decide) (by decide)) (fun r M_52 hq => ?_)
  obtain ⟨rfl, p_52_0, p_52_1, p_52_2, kp_52⟩ := hq
  refine T_eq (pc' := 183) (L' := [(0, .ref 373), (1, .ref p), (2, .int (nI at0))]) (st' := []) (M' := M_52) rfl rfl rfl rfl ?_
  refine T_iconst (v := nI 0) d_Mo_opens_183 (by decide) ?_
  refine T_istore_n (L' := [(3, .int (nI 0)), (0, .ref 373), (1, .ref p), (2, .int (nI at0))]) d_Mo_opens_184 (by decide) rfl ?_
  have p_53 : IA M_52 388 192 (ex1 R (n ++ W14)) := (by have g := p_52_2; rw [sl64 lR, sl64 ln] at g; simp only [List.append_assoc, List.nil_append] at g; simp only [W14]; exact g)
  refine op_185 G p_52_1 p_53 (by decide) (by first | omega | (simp only [List.length_append, List.length_cons, List.length_nil, List.length_replicate, sl_len, be_len, sha_len, hmac_len, ex1_len, ex2_len, stretch_len, zer8_len, tC_len, tag1_len, bnN_len, xkp_len, enc_len, chance_len, lbF_len, str2_len, pub_len', sec8_len]; done) | (simp only [List.length_append, List.length_cons, List.length_nil, List.length_replicate, sl_len, be_len, sha_len, hmac_len, ex1_len, ex2_len, stretch_len, zer8_len, tC_len, tag1_len, bnN_len, xkp_len, enc_len, chance_len, lbF_len, str2_len, pub_len', sec8_len]; omega)) (by decide) (fun Mc54 hI => ?_) 64 0 M_52 (Nat.zero_add _) ⟨by rw [sl_zero]; exact (MS.ia p_52_0 (p := 408) (n := 400) (by decide)), Kp.rf⟩
  obtain ⟨hd54, hK54⟩ := hI
  have ms54 := MS.wi p_52_0 hK54 hd54.iq (by decide) (by decide) (by decide)
  have p_55 : IA Mc54 408 400 (ex1 R (n ++ W14)) := (by have g := hd54; rw [sl64 (by first | omega | (simp only [List.length_append, List.length_cons, List.length_nil, List.length_replicate, sl_len, be_len, sha_len, hmac_len, ex1_len, ex2_len, stretch_len, zer8_len, tC_len, tag1_len, bnN_len, xkp_len, enc_len, chance_len, lbF_len, str2_len, pub_len', sec8_len]; done) | (simp only [List.length_append, List.length_cons, List.length_nil, List.length_replicate, sl_len, be_len, sha_len, hmac_len, ex1_len, ex2_len, stretch_len, zer8_len, tC_len, tag1_len, bnN_len, xkp_len, enc_len, chance_len, lbF_len, str2_len, pub_len', sec8_len]; omega))] at g; exact g)
  refine T_aload_n (v := .ref 373) d_Mo_opens_209 rfl (Or.inr ⟨_, rfl⟩) ?_
  refine T_aload_n (v := .ref 373) d_Mo_opens_210 rfl (Or.inr ⟨_, rfl⟩) ?_
  have p_56 := (BG.kp (p_52_1) hK54 (by decide) (by decide))
  obtain ⟨v_57, hov_57, hwv_57, hsv_57, hiv_57⟩ := id p_56
  refine T_getfield (v := .ref 412) d_Mo_opens_211 fg_Mo_356 hov_57 rfl ?_
  refine T_iconst (v := nI 0) d_Mo_opens_214 (by decide) ?_
  refine T_bipush (v := nI 32) d_Mo_opens_215 (by decide) ?_
  have p_58 := (IA.kp ((IA.kp ((IA.kp ((IA.kp (p_44) kp_45 (by decide))) kp_46 (by decide))) kp_52 (by decide))) hK54 (by decide))
  refine T_virtual (as := [.ref 412, .int (nI 0), .int (nI 32)]) (rest := []) (b := 373) d_Mo_opens_217 rfl (jw_Mo_bytes.jo (by decide)) lm_Mo_76 ji_Mo_bytes js_Mo_bytes hov_57 rfl rfl rfl (Nat.le_of_ble_eq_true rfl) (by decide) (by decide) (b_Mo_bytes (at0 := 0) (n := 32) p_56 p_58 (by first | omega | (simp only [List.length_append, List.length_cons, List.length_nil, List.length_replicate, sl_len, be_len, sha_len, hmac_len, ex1_len, ex2_len, stretch_len, zer8_len, tC_len, tag1_len, bnN_len, xkp_len, enc_len, chance_len, lbF_len, str2_len, pub_len', sec8_len]; done) | (simp only [List.length_append, List.length_cons, List.length_nil, List.length_replicate, sl_len, be_len, sha_len, hmac_len, ex1_len, ex2_len, stretch_len, zer8_len, tC_len, tag1_len, bnN_len, xkp_len, enc_len, chance_len, lbF_len, str2_len, pub_len', sec8_len]; omega)) (by decide) (by first | omega | (simp only [List.length_append, List.length_cons, List.length_nil, List.length_replicate, sl_len, be_len, sha_len, hmac_len, ex1_len, ex2_len, stretch_len, zer8_len, tC_len, tag1_len, bnN_len, xkp_len, enc_len, chance_len, lbF_len, str2_len, pub_len', sec8_len]; done) | (simp only [List.length_append, List.length_cons, List.length_nil, List.length_replicate, sl_len, be_len, sha_len, hmac_len, ex1_len, ex2_len, stretch_len, zer8_len, tC_len, tag1_len, bnN_len, xkp_len, enc_len, chance_len, lbF_len, str2_len, pub_len', sec8_len]; omega)) (by decide) (by decide)) (fun r M_59 hq => ?_)
  obtain ⟨rfl, p_59_0, kp_59⟩ := hq
  refine T_eq (pc' := 220) (L' := [(0, .ref 373), (1, .ref p), (2, .int (nI at0))]) (st' := []) (M' := M_59) rfl rfl rfl rfl ?_
  refine T_aload_n (v := .ref 373) d_Mo_opens_220 rfl (Or.inr ⟨_, rfl⟩) ?_
  refine T_aload_n (v := .ref p) d_Mo_opens_221 rfl (Or.inr ⟨_, rfl⟩) ?_
  refine T_iload_n d_Mo_opens_222 rfl ?_
  refine T_bipush (v := nI 32) d_Mo_opens_223 (by decide) ?_
  have p_60 := (IA.kp ((IA.kp ((IA.kp ((IA.kp ((IA.kp ((IA.kp ((IA.kp ((IA.kp ((IA.kp ((IA.kp ((IA.kp ((IA.kp ((IA.kp ((IA.kp ((IA.kp ((IA.kp ((IA.kp ((IA.kp (hk) kp_2 (nm hp (by decide)))) kp_3 (nm hp (by decide)))) kp_6 (nm hp (by decide)))) kp_12 (nm hp (by decide)))) hK14 (nm hp (by decide)))) kp_17 (nm hp (by decide)))) kp_20 (nm hp (by decide)))) kp_24 (nm hp (by decide)))) kp_28 (nm hp (by decide)))) kp_29 (nm hp (by decide)))) kp_32 (nm hp (by decide)))) kp_38 (nm hp (by decide)))) hK40 (nm hp (by decide)))) kp_45 (nm hp (by decide)))) kp_46 (nm hp (by decide)))) kp_52 (nm hp (by decide)))) hK54 (nm hp (by decide)))) kp_59 (nm hp (by decide)))
  obtain ⟨v_62, hov_62, hwv_62, hsv_62, hiv_62⟩ := id p_59_0
  refine T_virtual (as := [.ref p, .int (nI at0), .int (nI 32)]) (rest := []) (b := 373) d_Mo_opens_225 rfl (jw_Mo_bytes.jo (by decide)) lm_Mo_76 ji_Mo_bytes js_Mo_bytes hov_62 rfl rfl rfl (Nat.le_of_ble_eq_true rfl) (by decide) (by decide) (b_Mo_bytes (at0 := at0) (n := 32) p_59_0 p_60 (by first | omega | (simp only [List.length_append, List.length_cons, List.length_nil, List.length_replicate, sl_len, be_len, sha_len, hmac_len, ex1_len, ex2_len, stretch_len, zer8_len, tC_len, tag1_len, bnN_len, xkp_len, enc_len, chance_len, lbF_len, str2_len, pub_len', sec8_len]; done) | (simp only [List.length_append, List.length_cons, List.length_nil, List.length_replicate, sl_len, be_len, sha_len, hmac_len, ex1_len, ex2_len, stretch_len, zer8_len, tC_len, tag1_len, bnN_len, xkp_len, enc_len, chance_len, lbF_len, str2_len, pub_len', sec8_len]; omega)) (by omega) (by first | omega | (simp only [List.length_append, List.length_cons, List.length_nil, List.length_replicate, sl_len, be_len, sha_len, hmac_len, ex1_len, ex2_len, stretch_len, zer8_len, tC_len, tag1_len, bnN_len, xkp_len, enc_len, chance_len, lbF_len, str2_len, pub_len', sec8_len]; done) | (simp only [List.length_append, List.length_cons, List.length_nil, List.length_replicate, sl_len, be_len, sha_len, hmac_len, ex1_len, ex2_len, stretch_len, zer8_len, tC_len, tag1_len, bnN_len, xkp_len, enc_len, chance_len, lbF_len, str2_len, pub_len', sec8_len]; omega)) (nmne hp (by decide)) (nmne hp (by decide))) (fun r M_61 hq => ?_)
  obtain ⟨rfl, p_61_0, kp_61⟩ := hq
  refine T_eq (pc' := 228) (L' := [(0, .ref 373), (1, .ref p), (2, .int (nI at0))]) (st' := []) (M' := M_61) rfl rfl rfl rfl ?_
  refine T_aload_n (v := .ref 373) d_Mo_opens_228 rfl (Or.inr ⟨_, rfl⟩) ?_
  refine T_bipush (v := nI 32) d_Mo_opens_229 (by decide) ?_
  refine T_iconst (v := nI 2) d_Mo_opens_231 (by decide) ?_
  obtain ⟨v_64, hov_64, hwv_64, hsv_64, hiv_64⟩ := id p_61_0
  refine T_virtual (as := [.int (nI 32), .int (nI 2)]) (rest := []) (b := 373) d_Mo_opens_232 rfl (jw_Mo_number.jo (by decide)) lm_Mo_120 ji_Mo_number js_Mo_number hov_64 rfl rfl rfl (Nat.le_of_ble_eq_true rfl) (by decide) (by decide) (b_Mo_number (v := (nI 32)) (c := 2) p_61_0 (by decide) (by first | omega | (simp only [List.length_append, List.length_cons, List.length_nil, List.length_replicate, sl_len, be_len, sha_len, hmac_len, ex1_len, ex2_len, stretch_len, zer8_len, tC_len, tag1_len, bnN_len, xkp_len, enc_len, chance_len, lbF_len, str2_len, pub_len', sec8_len]; done) | (simp only [List.length_append, List.length_cons, List.length_nil, List.length_replicate, sl_len, be_len, sha_len, hmac_len, ex1_len, ex2_len, stretch_len, zer8_len, tC_len, tag1_len, bnN_len, xkp_len, enc_len, chance_len, lbF_len, str2_len, pub_len', sec8_len]; omega))) (fun r M_63 hq => ?_)
  obtain ⟨rfl, p_63_0, kp_63⟩ := hq
  refine T_eq (pc' := 235) (L' := [(0, .ref 373), (1, .ref p), (2, .int (nI at0))]) (st' := []) (M' := M_63) rfl rfl rfl rfl ?_
  have p_65 : BG M_63 w (((([]) ++ sl n 0 32) ++ sl s at0 32) ++ [0, 32]) := (by have g := p_63_0; rw [show bnN (nI 32) 2 = [0, 32] from by decide] at g; exact g)
  refine T_aload_n (v := .ref 373) d_Mo_opens_235 rfl (Or.inr ⟨_, rfl⟩) ?_
  refine T_aload_n (v := .ref p) d_Mo_opens_236 rfl (Or.inr ⟨_, rfl⟩) ?_
  refine T_iload_n d_Mo_opens_237 rfl ?_
  refine T_bipush (v := nI 32) d_Mo_opens_238 (by decide) ?_
  have p_66 := (IA.kp ((IA.kp (p_60) kp_61 (nm hp (by decide)))) kp_63 (nm hp (by decide)))
  obtain ⟨v_68, hov_68, hwv_68, hsv_68, hiv_68⟩ := id p_65
  refine T_virtual (as := [.ref p, .int (nI at0), .int (nI 32)]) (rest := []) (b := 373) d_Mo_opens_240 rfl (jw_Mo_bytes.jo (by decide)) lm_Mo_76 ji_Mo_bytes js_Mo_bytes hov_68 rfl rfl rfl (Nat.le_of_ble_eq_true rfl) (by decide) (by decide) (b_Mo_bytes (at0 := at0) (n := 32) p_65 p_66 (by first | omega | (simp only [List.length_append, List.length_cons, List.length_nil, List.length_replicate, sl_len, be_len, sha_len, hmac_len, ex1_len, ex2_len, stretch_len, zer8_len, tC_len, tag1_len, bnN_len, xkp_len, enc_len, chance_len, lbF_len, str2_len, pub_len', sec8_len]; done) | (simp only [List.length_append, List.length_cons, List.length_nil, List.length_replicate, sl_len, be_len, sha_len, hmac_len, ex1_len, ex2_len, stretch_len, zer8_len, tC_len, tag1_len, bnN_len, xkp_len, enc_len, chance_len, lbF_len, str2_len, pub_len', sec8_len]; omega)) (by omega) (by first | omega | (simp only [List.length_append, List.length_cons, List.length_nil, List.length_replicate, sl_len, be_len, sha_len, hmac_len, ex1_len, ex2_len, stretch_len, zer8_len, tC_len, tag1_len, bnN_len, xkp_len, enc_len, chance_len, lbF_len, str2_len, pub_len', sec8_len]; done) | (simp only [List.length_append, List.length_cons, List.length_nil, List.length_replicate, sl_len, be_len, sha_len, hmac_len, ex1_len, ex2_len, stretch_len, zer8_len, tC_len, tag1_len, bnN_len, xkp_len, enc_len, chance_len, lbF_len, str2_len, pub_len', sec8_len]; omega)) (nmne hp (by decide)) (nmne hp (by decide))) (fun r M_67 hq => ?_)
  obtain ⟨rfl, p_67_0, kp_67⟩ := hq
  refine T_eq (pc' := 243) (L' := [(0, .ref 373), (1, .ref p), (2, .int (nI at0))]) (st' := []) (M' := M_67) rfl rfl rfl rfl ?_
  refine T_aload_n (v := .ref 373) d_Mo_opens_243 rfl (Or.inr ⟨_, rfl⟩) ?_
  refine T_bipush (v := nI 32) d_Mo_opens_244 (by decide) ?_
  refine T_iconst (v := nI 2) d_Mo_opens_246 (by decide) ?_
  obtain ⟨v_70, hov_70, hwv_70, hsv_70, hiv_70⟩ := id p_67_0
  refine T_virtual (as := [.int (nI 32), .int (nI 2)]) (rest := []) (b := 373) d_Mo_opens_247 rfl (jw_Mo_number.jo (by decide)) lm_Mo_120 ji_Mo_number js_Mo_number hov_70 rfl rfl rfl (Nat.le_of_ble_eq_true rfl) (by decide) (by decide) (b_Mo_number (v := (nI 32)) (c := 2) p_67_0 (by decide) (by first | omega | (simp only [List.length_append, List.length_cons, List.length_nil, List.length_replicate, sl_len, be_len, sha_len, hmac_len, ex1_len, ex2_len, stretch_len, zer8_len, tC_len, tag1_len, bnN_len, xkp_len, enc_len, chance_len, lbF_len, str2_len, pub_len', sec8_len]; done) | (simp only [List.length_append, List.length_cons, List.length_nil, List.length_replicate, sl_len, be_len, sha_len, hmac_len, ex1_len, ex2_len, stretch_len, zer8_len, tC_len, tag1_len, bnN_len, xkp_len, enc_len, chance_len, lbF_len, str2_len, pub_len', sec8_len]; omega))) (fun r M_69 hq => ?_)
  obtain ⟨rfl, p_69_0, kp_69⟩ := hq
  refine T_eq (pc' := 250) (L' := [(0, .ref 373), (1, .ref p), (2, .int (nI at0))]) (st' := []) (M' := M_69) rfl rfl rfl rfl ?_
  have p_71 : BG M_69 w (((((([]) ++ sl n 0 32) ++ sl s at0 32) ++ [0, 32]) ++ sl s at0 32) ++ [0, 32]) := (by have g := p_69_0; rw [show bnN (nI 32) 2 = [0, 32] from by decide] at g; exact g)
  refine T_aload_n (v := .ref 373) d_Mo_opens_250 rfl (Or.inr ⟨_, rfl⟩) ?_
  refine T_aload_n (v := .ref 373) d_Mo_opens_251 rfl (Or.inr ⟨_, rfl⟩) ?_
  obtain ⟨v_72, hov_72, hwv_72, hsv_72, hiv_72⟩ := id p_71
  refine T_getfield (v := .ref 413) d_Mo_opens_252 fg_Mo_359 hov_72 rfl ?_
  refine T_iconst (v := nI 0) d_Mo_opens_255 (by decide) ?_
  refine T_bipush (v := nI 32) d_Mo_opens_256 (by decide) ?_
  have p_73 := (IA.kp ((IA.kp ((IA.kp ((IA.kp ((IA.kp ((IA.kp ((IA.kp ((IA.kp ((IA.kp ((IA.kp ((IA.kp ((IA.kp ((IA.kp ((IA.kp (p_24_1) kp_28 (by decide))) kp_29 (by decide))) kp_32 (by decide))) kp_38 (by decide))) hK40 (by decide))) kp_45 (by decide))) kp_46 (by decide))) kp_52 (by decide))) hK54 (by decide))) kp_59 (by decide))) kp_61 (by decide))) kp_63 (by decide))) kp_67 (by decide))) kp_69 (by decide))
  refine T_virtual (as := [.ref 413, .int (nI 0), .int (nI 32)]) (rest := []) (b := 373) d_Mo_opens_258 rfl (jw_Mo_bytes.jo (by decide)) lm_Mo_76 ji_Mo_bytes js_Mo_bytes hov_72 rfl rfl rfl (Nat.le_of_ble_eq_true rfl) (by decide) (by decide) (b_Mo_bytes (at0 := 0) (n := 32) p_71 p_73 (by first | omega | (simp only [List.length_append, List.length_cons, List.length_nil, List.length_replicate, sl_len, be_len, sha_len, hmac_len, ex1_len, ex2_len, stretch_len, zer8_len, tC_len, tag1_len, bnN_len, xkp_len, enc_len, chance_len, lbF_len, str2_len, pub_len', sec8_len]; done) | (simp only [List.length_append, List.length_cons, List.length_nil, List.length_replicate, sl_len, be_len, sha_len, hmac_len, ex1_len, ex2_len, stretch_len, zer8_len, tC_len, tag1_len, bnN_len, xkp_len, enc_len, chance_len, lbF_len, str2_len, pub_len', sec8_len]; omega)) (by decide) (by first | omega | (simp only [List.length_append, List.length_cons, List.length_nil, List.length_replicate, sl_len, be_len, sha_len, hmac_len, ex1_len, ex2_len, stretch_len, zer8_len, tC_len, tag1_len, bnN_len, xkp_len, enc_len, chance_len, lbF_len, str2_len, pub_len', sec8_len]; done) | (simp only [List.length_append, List.length_cons, List.length_nil, List.length_replicate, sl_len, be_len, sha_len, hmac_len, ex1_len, ex2_len, stretch_len, zer8_len, tC_len, tag1_len, bnN_len, xkp_len, enc_len, chance_len, lbF_len, str2_len, pub_len', sec8_len]; omega)) (by decide) (by decide)) (fun r M_74 hq => ?_)
  obtain ⟨rfl, p_74_0, kp_74⟩ := hq
  refine T_eq (pc' := 261) (L' := [(0, .ref 373), (1, .ref p), (2, .int (nI at0))]) (st' := []) (M' := M_74) rfl rfl rfl rfl ?_
  refine T_aload_n (v := .ref 373) d_Mo_opens_261 rfl (Or.inr ⟨_, rfl⟩) ?_
  refine T_aload_n (v := .ref 373) d_Mo_opens_262 rfl (Or.inr ⟨_, rfl⟩) ?_
  obtain ⟨v_75, hov_75, hwv_75, hsv_75, hiv_75⟩ := id p_74_0
  refine T_getfield (v := .ref 408) d_Mo_opens_263 fg_Mo_338 hov_75 rfl ?_
  refine T_iconst (v := nI 0) d_Mo_opens_266 (by decide) ?_
  refine T_bipush (v := nI 64) d_Mo_opens_267 (by decide) ?_
  have p_76 := (MS.kp ((MS.kp ((MS.kp ((MS.kp ((MS.kp ((MS.kp (ms54) kp_59 (by decide))) kp_61 (by decide))) kp_63 (by decide))) kp_67 (by decide))) kp_69 (by decide))) kp_74 (by decide))
  have p_77 := (IA.kp ((IA.kp ((IA.kp ((IA.kp ((IA.kp ((IA.kp (p_55) kp_59 (by decide))) kp_61 (by decide))) kp_63 (by decide))) kp_67 (by decide))) kp_69 (by decide))) kp_74 (by decide))
  refine T_virtual (as := [.ref 408, .int (nI 0), .int (nI 64)]) (rest := []) (b := 373) d_Mo_opens_269 rfl (jw_Mo_mac.jo (by decide)) lm_Mo_90 ji_Mo_mac js_Mo_mac hov_75 rfl rfl rfl (Nat.le_of_ble_eq_true rfl) (by decide) (by decide) (b_Mo_mac (at0 := 0) p_76 p_74_0 p_77 (by first | omega | (simp only [List.length_append, List.length_cons, List.length_nil, List.length_replicate, sl_len, be_len, sha_len, hmac_len, ex1_len, ex2_len, stretch_len, zer8_len, tC_len, tag1_len, bnN_len, xkp_len, enc_len, chance_len, lbF_len, str2_len, pub_len', sec8_len]; done) | (simp only [List.length_append, List.length_cons, List.length_nil, List.length_replicate, sl_len, be_len, sha_len, hmac_len, ex1_len, ex2_len, stretch_len, zer8_len, tC_len, tag1_len, bnN_len, xkp_len, enc_len, chance_len, lbF_len, str2_len, pub_len', sec8_len]; omega)) (by decide) (by first | omega | (simp only [List.length_append, List.length_cons, List.length_nil, List.length_replicate, sl_len, be_len, sha_len, hmac_len, ex1_len, ex2_len, stretch_len, zer8_len, tC_len, tag1_len, bnN_len, xkp_len, enc_len, chance_len, lbF_len, str2_len, pub_len', sec8_len]; done) | (simp only [List.length_append, List.length_cons, List.length_nil, List.length_replicate, sl_len, be_len, sha_len, hmac_len, ex1_len, ex2_len, stretch_len, zer8_len, tC_len, tag1_len, bnN_len, xkp_len, enc_len, chance_len, lbF_len, str2_len, pub_len', sec8_len]; omega)) (by decide)) (fun r M_78 hq => ?_)
  obtain ⟨rfl, p_78_0, p_78_1, p_78_2, kp_78⟩ := hq
  refine T_eq (pc' := 272) (L' := [(0, .ref 373), (1, .ref p), (2, .int (nI at0))]) (st' := []) (M' := M_78) rfl rfl rfl rfl ?_
  refine T_iconst (v := nI 0) d_Mo_opens_272 (by decide) ?_
  refine T_istore_n (L' := [(3, .int (nI 0)), (0, .ref 373), (1, .ref p), (2, .int (nI at0))]) d_Mo_opens_273 (by decide) rfl ?_
  refine op_274 G p_78_1 p_78_2 (by decide) (by first | omega | (simp only [List.length_append, List.length_cons, List.length_nil, List.length_replicate, sl_len, be_len, sha_len, hmac_len, ex1_len, ex2_len, stretch_len, zer8_len, tC_len, tag1_len, bnN_len, xkp_len, enc_len, chance_len, lbF_len, str2_len, pub_len', sec8_len]; done) | (simp only [List.length_append, List.length_cons, List.length_nil, List.length_replicate, sl_len, be_len, sha_len, hmac_len, ex1_len, ex2_len, stretch_len, zer8_len, tC_len, tag1_len, bnN_len, xkp_len, enc_len, chance_len, lbF_len, str2_len, pub_len', sec8_len]; omega)) (by decide) (fun Mc79 hI => ?_) 64 0 M_78 (Nat.zero_add _) ⟨by rw [sl_zero]; exact (MS.ia p_78_0 (p := 415) (n := 64) (by decide)), Kp.rf⟩
  obtain ⟨hd79, hK79⟩ := hI
  have ms79 := MS.wi p_78_0 hK79 hd79.iq (by decide) (by decide) (by decide)
  have p_80 : IA Mc79 415 64 (hmac (sl (ex1 R (n ++ W14)) 0 64) ((((((([]) ++ sl n 0 32) ++ sl s at0 32) ++ [0, 32]) ++ sl s at0 32) ++ [0, 32]) ++ sl (pub (cKey R n)) 0 32)) := (by have g := hd79; rw [sl64 (by first | omega | (simp only [List.length_append, List.length_cons, List.length_nil, List.length_replicate, sl_len, be_len, sha_len, hmac_len, ex1_len, ex2_len, stretch_len, zer8_len, tC_len, tag1_len, bnN_len, xkp_len, enc_len, chance_len, lbF_len, str2_len, pub_len', sec8_len]; done) | (simp only [List.length_append, List.length_cons, List.length_nil, List.length_replicate, sl_len, be_len, sha_len, hmac_len, ex1_len, ex2_len, stretch_len, zer8_len, tC_len, tag1_len, bnN_len, xkp_len, enc_len, chance_len, lbF_len, str2_len, pub_len', sec8_len]; omega))] at g; exact g)
  have p_81 : IA Mc79 415 64 (seal8 R n (sl s at0 32)) := (by have g := p_80; rw [sl64 (ex1_len _ _), sl64 ln, sl64 (pub_len' _)] at g; exact g)
  have p_82 := (BG.kp (p_78_1) hK79 (by decide) (by decide))
  have p_83 := (SC.kp ((SC.kp ((SC.kp ((SC.kp ((SC.kp ((SC.kp ((SC.kp ((SC.kp ((SC.kp ((SC.kp ((SC.kp ((SC.kp ((SC.kp ((SC.kp ((SC.kp ((SC.kp ((SC.kp ((SC.kp (p_20_1) kp_24 (by decide))) kp_28 (by decide))) kp_29 (by decide))) kp_32 (by decide))) kp_38 (by decide))) hK40 (by decide))) kp_45 (by decide))) kp_46 (by decide))) kp_52 (by decide))) hK54 (by decide))) kp_59 (by decide))) kp_61 (by decide))) kp_63 (by decide))) kp_67 (by decide))) kp_69 (by decide))) kp_74 (by decide))) kp_78 (by decide))) hK79 (by decide))
  have p_84 := (IA.kp ((IA.kp ((IA.kp (p_73) kp_74 (by decide))) kp_78 (by decide))) hK79 (by decide))
  have p_85 := (IA.kp ((IA.kp ((IA.kp ((IA.kp ((IA.kp ((IA.kp ((IA.kp ((IA.kp ((IA.kp ((IA.kp ((IA.kp ((IA.kp (p_41) kp_45 (by decide))) kp_46 (by decide))) kp_52 (by decide))) hK54 (by decide))) kp_59 (by decide))) kp_61 (by decide))) kp_63 (by decide))) kp_67 (by decide))) kp_69 (by decide))) kp_74 (by decide))) kp_78 (by decide))) hK79 (by decide))
  exact T_vret d_Mo_opens_298 rfl (by decide) (by decide) ⟨rfl, ms79, p_82, p_83, p_84, p_85, p_81, (Kp.tr (Kp.tr (Kp.tr (Kp.tr (Kp.tr (Kp.tr (Kp.tr (Kp.tr (Kp.tr (Kp.tr (Kp.tr (Kp.tr (Kp.tr (Kp.tr (Kp.tr (Kp.tr (Kp.tr (Kp.tr (Kp.tr (Kp.tr (Kp.tr (Kp.tr (Kp.tr (Kp.tr (Kp.tr (Kp.rf : Kp [373, 374, 380, 381, 382, 383, 384, 385, 387, 388, 389, 390, 391, 392, 393, 394, 395, 397, 398, 401, 408, 413, 414, 415, 416] M M) (Kp.mono kp_2 (by decide))) (Kp.mono kp_3 (by decide))) (Kp.mono kp_6 (by decide))) (Kp.mono kp_12 (by decide +kernel))) (Kp.mono hK14 (by decide))) (Kp.mono kp_17 (by decide +kernel))) (Kp.mono kp_20 (by decide))) (Kp.mono kp_24 (by decide))) (Kp.mono kp_28 (by decide))) (Kp.mono kp_29 (by decide))) (Kp.mono kp_32 (by decide))) (Kp.mono kp_38 (by decide +kernel))) (Kp.mono hK40 (by decide))) (Kp.mono kp_45 (by decide))) (Kp.mono kp_46 (by decide))) (Kp.mono kp_52 (by decide +kernel))) (Kp.mono hK54 (by decide))) (Kp.mono kp_59 (by decide))) (Kp.mono kp_61 (by decide))) (Kp.mono kp_63 (by decide))) (Kp.mono kp_67 (by decide))) (Kp.mono kp_69 (by decide))) (Kp.mono kp_74 (by decide))) (Kp.mono kp_78 (by decide))) (Kp.mono hK79 (by decide)))⟩
abbrev prW : List Nat := [373, 374, 441]
set_option maxHeartbeats 8000000 in
theorem pr_l (G : GX) {M0 : List va_E} {w : Nat → Int32} {l : List UInt8} {pa aa pb ab pc ac pd ad : Nat} (hb : BG M0 w l) (ha : 0 + l.length ≤ l.length) (hd : 0 + l.length ≤ 500)  {Q : Option Value → List va_E → Prop} (kk : ∀ M, IA M 441 500 (sl l 0 l.length) ∧ Kp [441] M0 M → TT G mi_Mo_preambleOf 112 [(0, .ref 373), (1, .ref pa), (2, .int (nI aa)), (3, .ref pb), (4, .int (nI ab)), (5, .ref pc), (6, .int (nI ac)), (7, .ref pd), (8, .int (nI ad))] [] M 0 0 Q) : ∀ j k M, k + j = l.length → IA M 441 500 (sl l 0 k) ∧ Kp [441] M0 M → TT G mi_Mo_preambleOf 83 [(9, .int (nI k)), (0, .ref 373), (1, .ref pa), (2, .int (nI aa)), (3, .ref pb), (4, .int (nI ab)), (5, .ref pc), (6, .int (nI ac)), (7, .ref pd), (8, .int (nI ad))] [] M 0 0 Q := by
  intro j
  induction j with
  | zero =>
    intro k M hk hI
    obtain rfl : l.length = k := by omega
    obtain ⟨hda, hK⟩ := id hI
    refine T_iload d_Mo_preambleOf_83 rfl ?_
    refine T_aload_n (v := .ref 373) d_Mo_preambleOf_85 rfl (Or.inr ⟨_, rfl⟩) ?_
    have p_1 := (BG.kp (hb) hK (by decide) (by decide))
    obtain ⟨v_2, hov_2, hwv_2, hsv_2, hiv_2⟩ := id p_1
    refine N_getI (x := (v_2 67)) (y := (nI (l.length))) d_Mo_preambleOf_86 fg_Mo_7 hov_2 rfl hsv_2 ?_
    refine N_icmp_ge_t (a := l.length) (b := l.length) d_Mo_preambleOf_89 (tgt := 112) rfl (by omega) (by omega) (by omega) ?_
    exact T_sub (fun q hq => List.mem_cons_of_mem _ hq) (kk M hI)
  | succ j ih =>
    intro k M hk hI
    obtain ⟨hda, hK⟩ := hI
    obtain ⟨vb, hob, hwb, hsb, hib⟩ := id hb
    have hsl := IA.le hib
    refine T_iload d_Mo_preambleOf_83 rfl ?_
    refine T_aload_n (v := .ref 373) d_Mo_preambleOf_85 rfl (Or.inr ⟨_, rfl⟩) ?_
    have p_1 := (BG.kp (hb) hK (by decide) (by decide))
    obtain ⟨v_2, hov_2, hwv_2, hsv_2, hiv_2⟩ := id p_1
    refine N_getI (x := (v_2 67)) (y := (nI (l.length))) d_Mo_preambleOf_86 fg_Mo_7 hov_2 rfl hsv_2 ?_
    refine N_icmp_ge_f (a := l.length) (b := k) d_Mo_preambleOf_89 (tgt := 112) rfl (by omega) (by omega) (by omega) ?_
    refine T_aload_n (v := .ref 373) d_Mo_preambleOf_92 rfl (Or.inr ⟨_, rfl⟩) ?_
    refine T_getfield (v := .ref 441) d_Mo_preambleOf_93 fg_Mo_443 hov_2 rfl ?_
    refine T_iload d_Mo_preambleOf_96 rfl ?_
    refine T_aload_n (v := .ref 373) d_Mo_preambleOf_98 rfl (Or.inr ⟨_, rfl⟩) ?_
    refine T_getfield (v := .ref 374) d_Mo_preambleOf_99 fg_Mo_1 hov_2 rfl ?_
    refine T_iload d_Mo_preambleOf_102 rfl ?_
    have p_3 := (IA.kp (hib) hK (by decide))
    obtain ⟨f_4, hf_5, hl_6, hv_7⟩ := id p_3
    refine N_iaload (k := k) (x := (bR (gd l k))) d_Mo_preambleOf_104 hf_5 (by omega) (by decide) (hv_7 k (by first | omega | (simp only [List.length_append, List.length_cons, List.length_nil, List.length_replicate, sl_len, be_len, sha_len, hmac_len, ex1_len, ex2_len, stretch_len, zer8_len, tC_len, tag1_len, bnN_len, xkp_len]; omega))) ?_
    obtain ⟨f_8, hf_9, hl_10, hv_11⟩ := id hda
    refine N_iastore (k := k) d_Mo_preambleOf_105 (by decide) hf_9 (by omega) (by decide) rfl (fun M_12 h_13 s_14 => ?_)
    refine N_iinc (k := k) (m := 1) (c := (k + 1)) (L' := [(9, .int (nI ((k + 1)))), (0, .ref 373), (1, .ref pa), (2, .int (nI aa)), (3, .ref pb), (4, .int (nI ab)), (5, .ref pc), (6, .int (nI ac)), (7, .ref pd), (8, .int (nI ad))]) d_Mo_preambleOf_106 (by decide) rfl (by decide) rfl rfl ?_
    refine T_goto (tgt := 83) d_Mo_preambleOf_109 rfl ?_
    exact ih (k + 1) M_12 (by omega) ⟨ia_c0 h_13 (gd_c (by omega)) (by omega) (by omega) hv_11, (Kp.ex (Kp.tr (Kp.rf : Kp [441] M0 M0) (Kp.mono hK (by decide))) s_14 (by decide))⟩
set_option maxHeartbeats 8000000 in
theorem b_Mo_preambleOf {G : GX} {M : List va_E} {w : Nat → Int32} {pa ma aa pb mb ab pc mc ac pd md ad : Nat} {sa sb sc sd : List UInt8} (hms : MS M) (h : BG M w []) (ka : IA M pa ma sa)  (kb : IA M pb mb sb)  (kc : IA M pc mc sc)  (kd : IA M pd md sd) (la : aa + 32 ≤ sa.length) (na : ma < 2 ^ 30) (hpa : pa ∉ prW) (lb : ab + 96 ≤ sb.length) (nb : mb < 2 ^ 30) (hpb : pb ∉ prW) (lc : ac + 32 ≤ sc.length) (nc : mc < 2 ^ 30) (hpc : pc ∉ prW) (ld : ad + 256 ≤ sd.length) (nd : md < 2 ^ 30) (hpd : pd ∉ prW) : CT G mi_Mo_preambleOf [.ref 373, .ref pa, .int (nI aa), .ref pb, .int (nI ab), .ref pc, .int (nI ac), .ref pd, .int (nI ad)] M (fun r M' => r = none ∧ MS M' ∧ BG M' (upd w 75 (nI 431)) [] ∧ IA M' 441 500 (pre8 (sl sa aa 32) (sl sb ab 96) (sl sc ac 32) (sl sd ad 256)) ∧ Kp prW M M') := by
  refine CT.of (by decide) (Nat.le_of_ble_eq_true rfl) ?_
  show TT G mi_Mo_preambleOf 0 [(0, .ref 373), (1, .ref pa), (2, .int (nI aa)), (3, .ref pb), (4, .int (nI ab)), (5, .ref pc), (6, .int (nI ac)), (7, .ref pd), (8, .int (nI ad))] [] M 0 0 _
  refine T_aload_n (v := .ref 373) d_Mo_preambleOf_0 rfl (Or.inr ⟨_, rfl⟩) ?_
  refine T_ldc2 d_Mo_preambleOf_1 kJ_Mo_551 ?_
  obtain ⟨v_2, hov_2, hwv_2, hsv_2, hiv_2⟩ := id h
  refine T_virtual (as := [.long 5715139744711931441]) (rest := []) (b := 373) d_Mo_preambleOf_4 rfl (jw_Mo_letters.jo (by decide)) lm_Mo_104 ji_Mo_letters js_Mo_letters hov_2 rfl rfl rfl (Nat.le_of_ble_eq_true rfl) (by decide) (by decide) (b_Mo_letters h (by first | omega | (simp only [List.length_append, List.length_cons, List.length_nil, List.length_replicate, sl_len, be_len, sha_len, hmac_len, ex1_len, ex2_len, stretch_len, zer8_len, tC_len, tag1_len, bnN_len, xkp_len, enc_len, chance_len, lbF_len, str2_len, pub_len', sec8_len, pre8_len]; done) | (simp only [List.length_append, List.length_cons, List.length_nil, List.length_replicate, sl_len, be_len, sha_len, hmac_len, ex1_len, ex2_len, stretch_len, zer8_len, tC_len, tag1_len, bnN_len, xkp_len, enc_len, chance_len, lbF_len, str2_len, pub_len', sec8_len, pre8_len]; omega))) (fun r M_1 hq => ?_)
  obtain ⟨rfl, p_1_0, kp_1⟩ := hq
  refine T_eq (pc' := 7) (L' := [(0, .ref 373), (1, .ref pa), (2, .int (nI aa)), (3, .ref pb), (4, .int (nI ab)), (5, .ref pc), (6, .int (nI ac)), (7, .ref pd), (8, .int (nI ad))]) (st' := []) (M' := M_1) rfl rfl rfl rfl ?_
  have p_3 : BG M_1 w ([] ++ [79, 80, 65, 81, 85, 69, 118, 49]) := (by have g := p_1_0; rw [show lts 5715139744711931441 = [79, 80, 65, 81, 85, 69, 118, 49] from by decide +kernel] at g; exact g)
  refine T_aload_n (v := .ref 373) d_Mo_preambleOf_7 rfl (Or.inr ⟨_, rfl⟩) ?_
  refine T_ldc2 d_Mo_preambleOf_8 kJ_Mo_553 ?_
  obtain ⟨v_5, hov_5, hwv_5, hsv_5, hiv_5⟩ := id p_3
  refine T_virtual (as := [.long 45]) (rest := []) (b := 373) d_Mo_preambleOf_11 rfl (jw_Mo_letters.jo (by decide)) lm_Mo_104 ji_Mo_letters js_Mo_letters hov_5 rfl rfl rfl (Nat.le_of_ble_eq_true rfl) (by decide) (by decide) (b_Mo_letters p_3 (by first | omega | (simp only [List.length_append, List.length_cons, List.length_nil, List.length_replicate, sl_len, be_len, sha_len, hmac_len, ex1_len, ex2_len, stretch_len, zer8_len, tC_len, tag1_len, bnN_len, xkp_len, enc_len, chance_len, lbF_len, str2_len, pub_len', sec8_len, pre8_len]; done) | (simp only [List.length_append, List.length_cons, List.length_nil, List.length_replicate, sl_len, be_len, sha_len, hmac_len, ex1_len, ex2_len, stretch_len, zer8_len, tC_len, tag1_len, bnN_len, xkp_len, enc_len, chance_len, lbF_len, str2_len, pub_len', sec8_len, pre8_len]; omega))) (fun r M_4 hq => ?_)
  obtain ⟨rfl, p_4_0, kp_4⟩ := hq
  refine T_eq (pc' := 14) (L' := [(0, .ref 373), (1, .ref pa), (2, .int (nI aa)), (3, .ref pb), (4, .int (nI ab)), (5, .ref pc), (6, .int (nI ac)), (7, .ref pd), (8, .int (nI ad))]) (st' := []) (M' := M_4) rfl rfl rfl rfl ?_
  have p_6 : BG M_4 w (([] ++ [79, 80, 65, 81, 85, 69, 118, 49]) ++ [45]) := (by have g := p_4_0; rw [show lts 45 = [45] from by decide +kernel] at g; exact g)
  refine T_aload_n (v := .ref 373) d_Mo_preambleOf_14 rfl (Or.inr ⟨_, rfl⟩) ?_
  refine T_iconst (v := nI 0) d_Mo_preambleOf_15 (by decide) ?_
  refine T_iconst (v := nI 2) d_Mo_preambleOf_16 (by decide) ?_
  obtain ⟨v_8, hov_8, hwv_8, hsv_8, hiv_8⟩ := id p_6
  refine T_virtual (as := [.int (nI 0), .int (nI 2)]) (rest := []) (b := 373) d_Mo_preambleOf_17 rfl (jw_Mo_number.jo (by decide)) lm_Mo_120 ji_Mo_number js_Mo_number hov_8 rfl rfl rfl (Nat.le_of_ble_eq_true rfl) (by decide) (by decide) (b_Mo_number (v := (nI 0)) (c := 2) p_6 (by decide) (by first | omega | (simp only [List.length_append, List.length_cons, List.length_nil, List.length_replicate, sl_len, be_len, sha_len, hmac_len, ex1_len, ex2_len, stretch_len, zer8_len, tC_len, tag1_len, bnN_len, xkp_len, enc_len, chance_len, lbF_len, str2_len, pub_len', sec8_len, pre8_len]; done) | (simp only [List.length_append, List.length_cons, List.length_nil, List.length_replicate, sl_len, be_len, sha_len, hmac_len, ex1_len, ex2_len, stretch_len, zer8_len, tC_len, tag1_len, bnN_len, xkp_len, enc_len, chance_len, lbF_len, str2_len, pub_len', sec8_len, pre8_len]; omega))) (fun r M_7 hq => ?_)
  obtain ⟨rfl, p_7_0, kp_7⟩ := hq
  refine T_eq (pc' := 20) (L' := [(0, .ref 373), (1, .ref pa), (2, .int (nI aa)), (3, .ref pb), (4, .int (nI ab)), (5, .ref pc), (6, .int (nI ac)), (7, .ref pd), (8, .int (nI ad))]) (st' := []) (M' := M_7) rfl rfl rfl rfl ?_
  have p_9 : BG M_7 w ((([] ++ [79, 80, 65, 81, 85, 69, 118, 49]) ++ [45]) ++ [0, 0]) := (by have g := p_7_0; rw [show bnN (nI 0) 2 = [0, 0] from by decide] at g; exact g)
  refine T_aload_n (v := .ref 373) d_Mo_preambleOf_20 rfl (Or.inr ⟨_, rfl⟩) ?_
  refine T_bipush (v := nI 32) d_Mo_preambleOf_21 (by decide) ?_
  refine T_iconst (v := nI 2) d_Mo_preambleOf_23 (by decide) ?_
  obtain ⟨v_11, hov_11, hwv_11, hsv_11, hiv_11⟩ := id p_9
  refine T_virtual (as := [.int (nI 32), .int (nI 2)]) (rest := []) (b := 373) d_Mo_preambleOf_24 rfl (jw_Mo_number.jo (by decide)) lm_Mo_120 ji_Mo_number js_Mo_number hov_11 rfl rfl rfl (Nat.le_of_ble_eq_true rfl) (by decide) (by decide) (b_Mo_number (v := (nI 32)) (c := 2) p_9 (by decide) (by first | omega | (simp only [List.length_append, List.length_cons, List.length_nil, List.length_replicate, sl_len, be_len, sha_len, hmac_len, ex1_len, ex2_len, stretch_len, zer8_len, tC_len, tag1_len, bnN_len, xkp_len, enc_len, chance_len, lbF_len, str2_len, pub_len', sec8_len, pre8_len]; done) | (simp only [List.length_append, List.length_cons, List.length_nil, List.length_replicate, sl_len, be_len, sha_len, hmac_len, ex1_len, ex2_len, stretch_len, zer8_len, tC_len, tag1_len, bnN_len, xkp_len, enc_len, chance_len, lbF_len, str2_len, pub_len', sec8_len, pre8_len]; omega))) (fun r M_10 hq => ?_)
  obtain ⟨rfl, p_10_0, kp_10⟩ := hq
  refine T_eq (pc' := 27) (L' := [(0, .ref 373), (1, .ref pa), (2, .int (nI aa)), (3, .ref pb), (4, .int (nI ab)), (5, .ref pc), (6, .int (nI ac)), (7, .ref pd), (8, .int (nI ad))]) (st' := []) (M' := M_10) rfl rfl rfl rfl ?_
  have p_12 : BG M_10 w (((([] ++ [79, 80, 65, 81, 85, 69, 118, 49]) ++ [45]) ++ [0, 0]) ++ [0, 32]) := (by have g := p_10_0; rw [show bnN (nI 32) 2 = [0, 32] from by decide] at g; exact g)
  refine T_aload_n (v := .ref 373) d_Mo_preambleOf_27 rfl (Or.inr ⟨_, rfl⟩) ?_
  refine T_aload_n (v := .ref pa) d_Mo_preambleOf_28 rfl (Or.inr ⟨_, rfl⟩) ?_
  refine T_iload_n d_Mo_preambleOf_29 rfl ?_
  refine T_bipush (v := nI 32) d_Mo_preambleOf_30 (by decide) ?_
  have p_13 := (IA.kp ((IA.kp ((IA.kp ((IA.kp (ka) kp_1 (nm hpa (by decide)))) kp_4 (nm hpa (by decide)))) kp_7 (nm hpa (by decide)))) kp_10 (nm hpa (by decide)))
  obtain ⟨v_15, hov_15, hwv_15, hsv_15, hiv_15⟩ := id p_12
  refine T_virtual (as := [.ref pa, .int (nI aa), .int (nI 32)]) (rest := []) (b := 373) d_Mo_preambleOf_32 rfl (jw_Mo_bytes.jo (by decide)) lm_Mo_76 ji_Mo_bytes js_Mo_bytes hov_15 rfl rfl rfl (Nat.le_of_ble_eq_true rfl) (by decide) (by decide) (b_Mo_bytes (at0 := aa) (n := 32) p_12 p_13 (by first | omega | (simp only [List.length_append, List.length_cons, List.length_nil, List.length_replicate, sl_len, be_len, sha_len, hmac_len, ex1_len, ex2_len, stretch_len, zer8_len, tC_len, tag1_len, bnN_len, xkp_len, enc_len, chance_len, lbF_len, str2_len, pub_len', sec8_len, pre8_len]; done) | (simp only [List.length_append, List.length_cons, List.length_nil, List.length_replicate, sl_len, be_len, sha_len, hmac_len, ex1_len, ex2_len, stretch_len, zer8_len, tC_len, tag1_len, bnN_len, xkp_len, enc_len, chance_len, lbF_len, str2_len, pub_len', sec8_len, pre8_len]; omega)) (by omega) (by first | omega | (simp only [List.length_append, List.length_cons, List.length_nil, List.length_replicate, sl_len, be_len, sha_len, hmac_len, ex1_len, ex2_len, stretch_len, zer8_len, tC_len, tag1_len, bnN_len, xkp_len, enc_len, chance_len, lbF_len, str2_len, pub_len', sec8_len, pre8_len]; done) | (simp only [List.length_append, List.length_cons, List.length_nil, List.length_replicate, sl_len, be_len, sha_len, hmac_len, ex1_len, ex2_len, stretch_len, zer8_len, tC_len, tag1_len, bnN_len, xkp_len, enc_len, chance_len, lbF_len, str2_len, pub_len', sec8_len, pre8_len]; omega)) (nmne hpa (by decide)) (nmne hpa (by decide))) (fun r M_14 hq => ?_)
  obtain ⟨rfl, p_14_0, kp_14⟩ := hq
  refine T_eq (pc' := 35) (L' := [(0, .ref 373), (1, .ref pa), (2, .int (nI aa)), (3, .ref pb), (4, .int (nI ab)), (5, .ref pc), (6, .int (nI ac)), (7, .ref pd), (8, .int (nI ad))]) (st' := []) (M' := M_14) rfl rfl rfl rfl ?_
  refine T_aload_n (v := .ref 373) d_Mo_preambleOf_35 rfl (Or.inr ⟨_, rfl⟩) ?_
  refine T_aload_n (v := .ref pb) d_Mo_preambleOf_36 rfl (Or.inr ⟨_, rfl⟩) ?_
  refine T_iload d_Mo_preambleOf_37 rfl ?_
  refine T_bipush (v := nI 96) d_Mo_preambleOf_39 (by decide) ?_
  have p_16 := (IA.kp ((IA.kp ((IA.kp ((IA.kp ((IA.kp (kb) kp_1 (nm hpb (by decide)))) kp_4 (nm hpb (by decide)))) kp_7 (nm hpb (by decide)))) kp_10 (nm hpb (by decide)))) kp_14 (nm hpb (by decide)))
  obtain ⟨v_18, hov_18, hwv_18, hsv_18, hiv_18⟩ := id p_14_0
  refine T_virtual (as := [.ref pb, .int (nI ab), .int (nI 96)]) (rest := []) (b := 373) d_Mo_preambleOf_41 rfl (jw_Mo_bytes.jo (by decide)) lm_Mo_76 ji_Mo_bytes js_Mo_bytes hov_18 rfl rfl rfl (Nat.le_of_ble_eq_true rfl) (by decide) (by decide) (b_Mo_bytes (at0 := ab) (n := 96) p_14_0 p_16 (by first | omega | (simp only [List.length_append, List.length_cons, List.length_nil, List.length_replicate, sl_len, be_len, sha_len, hmac_len, ex1_len, ex2_len, stretch_len, zer8_len, tC_len, tag1_len, bnN_len, xkp_len, enc_len, chance_len, lbF_len, str2_len, pub_len', sec8_len, pre8_len]; done) | (simp only [List.length_append, List.length_cons, List.length_nil, List.length_replicate, sl_len, be_len, sha_len, hmac_len, ex1_len, ex2_len, stretch_len, zer8_len, tC_len, tag1_len, bnN_len, xkp_len, enc_len, chance_len, lbF_len, str2_len, pub_len', sec8_len, pre8_len]; omega)) (by omega) (by first | omega | (simp only [List.length_append, List.length_cons, List.length_nil, List.length_replicate, sl_len, be_len, sha_len, hmac_len, ex1_len, ex2_len, stretch_len, zer8_len, tC_len, tag1_len, bnN_len, xkp_len, enc_len, chance_len, lbF_len, str2_len, pub_len', sec8_len, pre8_len]; done) | (simp only [List.length_append, List.length_cons, List.length_nil, List.length_replicate, sl_len, be_len, sha_len, hmac_len, ex1_len, ex2_len, stretch_len, zer8_len, tC_len, tag1_len, bnN_len, xkp_len, enc_len, chance_len, lbF_len, str2_len, pub_len', sec8_len, pre8_len]; omega)) (nmne hpb (by decide)) (nmne hpb (by decide))) (fun r M_17 hq => ?_)
  obtain ⟨rfl, p_17_0, kp_17⟩ := hq
  refine T_eq (pc' := 44) (L' := [(0, .ref 373), (1, .ref pa), (2, .int (nI aa)), (3, .ref pb), (4, .int (nI ab)), (5, .ref pc), (6, .int (nI ac)), (7, .ref pd), (8, .int (nI ad))]) (st' := []) (M' := M_17) rfl rfl rfl rfl ?_
  refine T_aload_n (v := .ref 373) d_Mo_preambleOf_44 rfl (Or.inr ⟨_, rfl⟩) ?_
  refine T_bipush (v := nI 32) d_Mo_preambleOf_45 (by decide) ?_
  refine T_iconst (v := nI 2) d_Mo_preambleOf_47 (by decide) ?_
  obtain ⟨v_20, hov_20, hwv_20, hsv_20, hiv_20⟩ := id p_17_0
  refine T_virtual (as := [.int (nI 32), .int (nI 2)]) (rest := []) (b := 373) d_Mo_preambleOf_48 rfl (jw_Mo_number.jo (by decide)) lm_Mo_120 ji_Mo_number js_Mo_number hov_20 rfl rfl rfl (Nat.le_of_ble_eq_true rfl) (by decide) (by decide) (b_Mo_number (v := (nI 32)) (c := 2) p_17_0 (by decide) (by first | omega | (simp only [List.length_append, List.length_cons, List.length_nil, List.length_replicate, sl_len, be_len, sha_len, hmac_len, ex1_len, ex2_len, stretch_len, zer8_len, tC_len, tag1_len, bnN_len, xkp_len, enc_len, chance_len, lbF_len, str2_len, pub_len', sec8_len, pre8_len]; done) | (simp only [List.length_append, List.length_cons, List.length_nil, List.length_replicate, sl_len, be_len, sha_len, hmac_len, ex1_len, ex2_len, stretch_len, zer8_len, tC_len, tag1_len, bnN_len, xkp_len, enc_len, chance_len, lbF_len, str2_len, pub_len', sec8_len, pre8_len]; omega))) (fun r M_19 hq => ?_)
  obtain ⟨rfl, p_19_0, kp_19⟩ := hq
  refine T_eq (pc' := 51) (L' := [(0, .ref 373), (1, .ref pa), (2, .int (nI aa)), (3, .ref pb), (4, .int (nI ab)), (5, .ref pc), (6, .int (nI ac)), (7, .ref pd), (8, .int (nI ad))]) (st' := []) (M' := M_19) rfl rfl rfl rfl ?_
  have p_21 : BG M_19 w ((((((([] ++ [79, 80, 65, 81, 85, 69, 118, 49]) ++ [45]) ++ [0, 0]) ++ [0, 32]) ++ sl sa aa 32) ++ sl sb ab 96) ++ [0, 32]) := (by have g := p_19_0; rw [show bnN (nI 32) 2 = [0, 32] from by decide] at g; exact g)
  refine T_aload_n (v := .ref 373) d_Mo_preambleOf_51 rfl (Or.inr ⟨_, rfl⟩) ?_
  refine T_aload (v := .ref pc) d_Mo_preambleOf_52 rfl (Or.inr ⟨_, rfl⟩) ?_
  refine T_iload d_Mo_preambleOf_54 rfl ?_
  refine T_bipush (v := nI 32) d_Mo_preambleOf_56 (by decide) ?_
  have p_22 := (IA.kp ((IA.kp ((IA.kp ((IA.kp ((IA.kp ((IA.kp ((IA.kp (kc) kp_1 (nm hpc (by decide)))) kp_4 (nm hpc (by decide)))) kp_7 (nm hpc (by decide)))) kp_10 (nm hpc (by decide)))) kp_14 (nm hpc (by decide)))) kp_17 (nm hpc (by decide)))) kp_19 (nm hpc (by decide)))
  obtain ⟨v_24, hov_24, hwv_24, hsv_24, hiv_24⟩ := id p_21
  refine T_virtual (as := [.ref pc, .int (nI ac), .int (nI 32)]) (rest := []) (b := 373) d_Mo_preambleOf_58 rfl (jw_Mo_bytes.jo (by decide)) lm_Mo_76 ji_Mo_bytes js_Mo_bytes hov_24 rfl rfl rfl (Nat.le_of_ble_eq_true rfl) (by decide) (by decide) (b_Mo_bytes (at0 := ac) (n := 32) p_21 p_22 (by first | omega | (simp only [List.length_append, List.length_cons, List.length_nil, List.length_replicate, sl_len, be_len, sha_len, hmac_len, ex1_len, ex2_len, stretch_len, zer8_len, tC_len, tag1_len, bnN_len, xkp_len, enc_len, chance_len, lbF_len, str2_len, pub_len', sec8_len, pre8_len]; done) | (simp only [List.length_append, List.length_cons, List.length_nil, List.length_replicate, sl_len, be_len, sha_len, hmac_len, ex1_len, ex2_len, stretch_len, zer8_len, tC_len, tag1_len, bnN_len, xkp_len, enc_len, chance_len, lbF_len, str2_len, pub_len', sec8_len, pre8_len]; omega)) (by omega) (by first | omega | (simp only [List.length_append, List.length_cons, List.length_nil, List.length_replicate, sl_len, be_len, sha_len, hmac_len, ex1_len, ex2_len, stretch_len, zer8_len, tC_len, tag1_len, bnN_len, xkp_len, enc_len, chance_len, lbF_len, str2_len, pub_len', sec8_len, pre8_len]; done) | (simp only [List.length_append, List.length_cons, List.length_nil, List.length_replicate, sl_len, be_len, sha_len, hmac_len, ex1_len, ex2_len, stretch_len, zer8_len, tC_len, tag1_len, bnN_len, xkp_len, enc_len, chance_len, lbF_len, str2_len, pub_len', sec8_len, pre8_len]; omega)) (nmne hpc (by decide)) (nmne hpc (by decide))) (fun r M_23 hq => ?_)
  obtain ⟨rfl, p_23_0, kp_23⟩ := hq
  refine T_eq (pc' := 61) (L' := [(0, .ref 373), (1, .ref pa), (2, .int (nI aa)), (3, .ref pb), (4, .int (nI ab)), (5, .ref pc), (6, .int (nI ac)), (7, .ref pd), (8, .int (nI ad))]) (st' := []) (M' := M_23) rfl rfl rfl rfl ?_
  refine T_aload_n (v := .ref 373) d_Mo_preambleOf_61 rfl (Or.inr ⟨_, rfl⟩) ?_
  refine T_aload (v := .ref pd) d_Mo_preambleOf_62 rfl (Or.inr ⟨_, rfl⟩) ?_
  refine T_iload d_Mo_preambleOf_64 rfl ?_
  refine T_sipush (v := nI 256) d_Mo_preambleOf_66 (by decide) ?_
  have p_25 := (IA.kp ((IA.kp ((IA.kp ((IA.kp ((IA.kp ((IA.kp ((IA.kp ((IA.kp (kd) kp_1 (nm hpd (by decide)))) kp_4 (nm hpd (by decide)))) kp_7 (nm hpd (by decide)))) kp_10 (nm hpd (by decide)))) kp_14 (nm hpd (by decide)))) kp_17 (nm hpd (by decide)))) kp_19 (nm hpd (by decide)))) kp_23 (nm hpd (by decide)))
  obtain ⟨v_27, hov_27, hwv_27, hsv_27, hiv_27⟩ := id p_23_0
  refine T_virtual (as := [.ref pd, .int (nI ad), .int (nI 256)]) (rest := []) (b := 373) d_Mo_preambleOf_69 rfl (jw_Mo_bytes.jo (by decide)) lm_Mo_76 ji_Mo_bytes js_Mo_bytes hov_27 rfl rfl rfl (Nat.le_of_ble_eq_true rfl) (by decide) (by decide) (b_Mo_bytes (at0 := ad) (n := 256) p_23_0 p_25 (by first | omega | (simp only [List.length_append, List.length_cons, List.length_nil, List.length_replicate, sl_len, be_len, sha_len, hmac_len, ex1_len, ex2_len, stretch_len, zer8_len, tC_len, tag1_len, bnN_len, xkp_len, enc_len, chance_len, lbF_len, str2_len, pub_len', sec8_len, pre8_len]; done) | (simp only [List.length_append, List.length_cons, List.length_nil, List.length_replicate, sl_len, be_len, sha_len, hmac_len, ex1_len, ex2_len, stretch_len, zer8_len, tC_len, tag1_len, bnN_len, xkp_len, enc_len, chance_len, lbF_len, str2_len, pub_len', sec8_len, pre8_len]; omega)) (by omega) (by first | omega | (simp only [List.length_append, List.length_cons, List.length_nil, List.length_replicate, sl_len, be_len, sha_len, hmac_len, ex1_len, ex2_len, stretch_len, zer8_len, tC_len, tag1_len, bnN_len, xkp_len, enc_len, chance_len, lbF_len, str2_len, pub_len', sec8_len, pre8_len]; done) | (simp only [List.length_append, List.length_cons, List.length_nil, List.length_replicate, sl_len, be_len, sha_len, hmac_len, ex1_len, ex2_len, stretch_len, zer8_len, tC_len, tag1_len, bnN_len, xkp_len, enc_len, chance_len, lbF_len, str2_len, pub_len', sec8_len, pre8_len]; omega)) (nmne hpd (by decide)) (nmne hpd (by decide))) (fun r M_26 hq => ?_)
  obtain ⟨rfl, p_26_0, kp_26⟩ := hq
  refine T_eq (pc' := 72) (L' := [(0, .ref 373), (1, .ref pa), (2, .int (nI aa)), (3, .ref pb), (4, .int (nI ab)), (5, .ref pc), (6, .int (nI ac)), (7, .ref pd), (8, .int (nI ad))]) (st' := []) (M' := M_26) rfl rfl rfl rfl ?_
  have p_28 : BG M_26 w (pre8 (sl sa aa 32) (sl sb ab 96) (sl sc ac 32) (sl sd ad 256)) := (by have g := p_26_0; unfold pre8; rw [sl64 (sl_len _ _ _), sl64 (sl_len _ _ _), sl64 (sl_len _ _ _), sl64 (sl_len _ _ _)]; simp only [List.append_assoc, List.nil_append, List.cons_append, W16] at g ⊢; exact g)
  refine T_aload_n (v := .ref 373) d_Mo_preambleOf_72 rfl (Or.inr ⟨_, rfl⟩) ?_
  refine T_aload_n (v := .ref 373) d_Mo_preambleOf_73 rfl (Or.inr ⟨_, rfl⟩) ?_
  obtain ⟨v_29, hov_29, hwv_29, hsv_29, hiv_29⟩ := id p_28
  refine N_getI (x := (v_29 67)) (y := (nI ((pre8 (sl sa aa 32) (sl sb ab 96) (sl sc ac 32) (sl sd ad 256)).length))) d_Mo_preambleOf_74 fg_Mo_7 hov_29 rfl hsv_29 ?_
  refine N_put (e := (moO (upd v_29 75 (nI ((pre8 (sl sa aa 32) (sl sb ab 96) (sl sc ac 32) (sl sd ad 256)).length))))) d_Mo_preambleOf_77 (fp_Mo_446 _) hov_29 (Nat.le_of_ble_eq_true rfl) ⟨rfl, rfl⟩ rfl (fun M_30 h_31 s_32 => ?_)
  have p_33 := BG.st (j := 75) (by decide) hwv_29 hsv_29 hiv_29 h_31 (Ex.kp s_32)
  refine T_iconst (v := nI 0) d_Mo_preambleOf_80 (by decide) ?_
  refine T_istore (L' := [(9, .int (nI 0)), (0, .ref 373), (1, .ref pa), (2, .int (nI aa)), (3, .ref pb), (4, .int (nI ab)), (5, .ref pc), (6, .int (nI ac)), (7, .ref pd), (8, .int (nI ad))]) d_Mo_preambleOf_81 (by decide) rfl ?_
  have p_34 := (MS.kp ((MS.kp ((MS.kp ((MS.kp ((MS.kp ((MS.kp ((MS.kp ((MS.kp ((MS.kp ((MS.kp (hms) kp_1 (by decide))) kp_4 (by decide))) kp_7 (by decide))) kp_10 (by decide))) kp_14 (by decide))) kp_17 (by decide))) kp_19 (by decide))) kp_23 (by decide))) kp_26 (by decide))) (Ex.kp s_32) (by decide))
  refine pr_l G p_33 (by first | omega | (simp only [List.length_append, List.length_cons, List.length_nil, List.length_replicate, sl_len, be_len, sha_len, hmac_len, ex1_len, ex2_len, stretch_len, zer8_len, tC_len, tag1_len, bnN_len, xkp_len, enc_len, chance_len, lbF_len, str2_len, pub_len', sec8_len, pre8_len]; done) | (simp only [List.length_append, List.length_cons, List.length_nil, List.length_replicate, sl_len, be_len, sha_len, hmac_len, ex1_len, ex2_len, stretch_len, zer8_len, tC_len, tag1_len, bnN_len, xkp_len, enc_len, chance_len, lbF_len, str2_len, pub_len', sec8_len, pre8_len]; omega)) (by first | omega | (simp only [List.length_append, List.length_cons, List.length_nil, List.length_replicate, sl_len, be_len, sha_len, hmac_len, ex1_len, ex2_len, stretch_len, zer8_len, tC_len, tag1_len, bnN_len, xkp_len, enc_len, chance_len, lbF_len, str2_len, pub_len', sec8_len, pre8_len]; done) | (simp only [List.length_append, List.length_cons, List.length_nil, List.length_replicate, sl_len, be_len, sha_len, hmac_len, ex1_len, ex2_len, stretch_len, zer8_len, tC_len, tag1_len, bnN_len, xkp_len, enc_len, chance_len, lbF_len, str2_len, pub_len', sec8_len, pre8_len]; omega)) (fun Mc35 hI => ?_) (pre8 (sl sa aa 32) (sl sb ab 96) (sl sc ac 32) (sl sd ad 256)).length 0 M_30 (Nat.zero_add _) ⟨by rw [sl_zero]; exact (MS.ia p_34 (p := 441) (n := 500) (by decide)), Kp.rf⟩
  obtain ⟨hd35, hK35⟩ := hI
  have ms35 := MS.wi p_34 hK35 hd35.iq (by decide) (by decide) (by decide)
  have p_36 : IA Mc35 441 500 (pre8 (sl sa aa 32) (sl sb ab 96) (sl sc ac 32) (sl sd ad 256)) := (by have g := hd35; rw [sl_all] at g; exact g)
  refine T_aload_n (v := .ref 373) d_Mo_preambleOf_112 rfl (Or.inr ⟨_, rfl⟩) ?_
  refine T_iconst (v := nI 0) d_Mo_preambleOf_113 (by decide) ?_
  have p_37 := (BG.kp (p_33) hK35 (by decide) (by decide))
  obtain ⟨v_38, hov_38, hwv_38, hsv_38, hiv_38⟩ := id p_37
  refine N_put (e := (moO (upd v_38 67 (nI 0)))) d_Mo_preambleOf_114 (fp_Mo_7 _) hov_38 (Nat.le_of_ble_eq_true rfl) ⟨rfl, rfl⟩ rfl (fun M_39 h_40 s_41 => ?_)
  have p_42 := BG.sz hwv_38 hiv_38 h_40 (Ex.kp s_41)
  have p_43 : BG M_39 (upd w 75 (nI 431)) ([]) := (by have g := p_42; rw [pre8_len] at g; exact g)
  have p_44 := (MS.kp (ms35) (Ex.kp s_41) (by decide))
  have p_45 := (IA.kp (p_36) (Ex.kp s_41) (by decide))
  exact T_vret d_Mo_preambleOf_117 rfl (by decide) (by decide) ⟨rfl, p_44, p_43, p_45, (Kp.ex (Kp.tr (Kp.ex (Kp.tr (Kp.tr (Kp.tr (Kp.tr (Kp.tr (Kp.tr (Kp.tr (Kp.tr (Kp.tr (Kp.rf : Kp [373, 374, 441] M M) (Kp.mono kp_1 (by decide))) (Kp.mono kp_4 (by decide))) (Kp.mono kp_7 (by decide))) (Kp.mono kp_10 (by decide))) (Kp.mono kp_14 (by decide))) (Kp.mono kp_17 (by decide))) (Kp.mono kp_19 (by decide))) (Kp.mono kp_23 (by decide))) (Kp.mono kp_26 (by decide))) s_32 (by decide)) (Kp.mono hK35 (by decide))) s_41 (by decide))⟩
abbrev deW : List Nat := [373, 374, 380, 381, 382, 383, 384, 385, 387, 388, 408, 442, 443, 444, 445, 446, 447]
set_option maxHeartbeats 8000000 in
theorem dv_17 (G : GX) {M0 : List va_E} {w : Nat → Int32} {l s : List UInt8}  (hb : BG M0 w l) (hs : IA M0 383 64 s) (hsn : 64 < 2 ^ 31) (ha : 0 + 64 ≤ s.length) (hd : 0 + 64 ≤ 64)  {Q : Option Value → List va_E → Prop} (kk : ∀ M, IA M 442 64 (sl s 0 64) ∧ Kp [442] M0 M → TT G mi_Mo_derive 41 [(0, .ref 373)] [] M 0 0 Q) : ∀ j k M, k + j = 64 → IA M 442 64 (sl s 0 k) ∧ Kp [442] M0 M → TT G mi_Mo_derive 17 [(1, .int (nI k)), (0, .ref 373)] [] M 0 0 Q := by
  intro j
  induction j with
  | zero =>
    intro k M hk hI
    obtain rfl : 64 = k := by omega
    obtain ⟨hda, hK⟩ := id hI
    refine T_iload_n d_Mo_derive_17 rfl ?_
    refine T_bipush (v := nI 64) d_Mo_derive_18 (by decide) ?_
    refine N_icmp_ge_t (a := 64) (b := 64) d_Mo_derive_20 (tgt := 41) rfl (by omega) (by omega) (by omega) ?_
    exact T_sub (fun q hq => List.mem_cons_of_mem _ hq) (kk M hI)
  | succ j ih =>
    intro k M hk hI
    obtain ⟨hda, hK⟩ := hI
    have hsl := IA.le hs
    refine T_iload_n d_Mo_derive_17 rfl ?_
    refine T_bipush (v := nI 64) d_Mo_derive_18 (by decide) ?_
    refine N_icmp_ge_f (a := 64) (b := k) d_Mo_derive_20 (tgt := 41) rfl (by omega) (by omega) (by omega) ?_
    refine T_aload_n (v := .ref 373) d_Mo_derive_23 rfl (Or.inr ⟨_, rfl⟩) ?_
    have p_1 := (BG.kp (hb) hK (by decide) (by decide))
    obtain ⟨v_2, hov_2, hwv_2, hsv_2, hiv_2⟩ := id p_1
    refine T_getfield (v := .ref 442) d_Mo_derive_24 fg_Mo_449 hov_2 rfl ?_
    refine T_iload_n d_Mo_derive_27 rfl ?_
    refine T_aload_n (v := .ref 373) d_Mo_derive_28 rfl (Or.inr ⟨_, rfl⟩) ?_
    refine T_getfield (v := .ref 383) d_Mo_derive_29 fg_Mo_55 hov_2 rfl ?_
    refine T_iload_n d_Mo_derive_32 rfl ?_
    have p_3 := (IA.kp (hs) hK (by decide))
    obtain ⟨f_4, hf_5, hl_6, hv_7⟩ := id p_3
    refine N_iaload (k := k) (x := (bR (gd s k))) d_Mo_derive_33 hf_5 (by omega) (by decide) (hv_7 k (by first | omega | (simp only [List.length_append, List.length_cons, List.length_nil, List.length_replicate, sl_len, be_len, sha_len, hmac_len, ex1_len, ex2_len, stretch_len, zer8_len, tC_len, tag1_len, bnN_len, xkp_len]; omega))) ?_
    obtain ⟨f_8, hf_9, hl_10, hv_11⟩ := id hda
    refine N_iastore (k := k) d_Mo_derive_34 (by decide) hf_9 (by omega) (by decide) rfl (fun M_12 h_13 s_14 => ?_)
    refine N_iinc (k := k) (m := 1) (c := (k + 1)) (L' := [(1, .int (nI ((k + 1)))), (0, .ref 373)]) d_Mo_derive_35 (by decide) rfl (by decide) rfl rfl ?_
    refine T_goto (tgt := 17) d_Mo_derive_38 rfl ?_
    exact ih (k + 1) M_12 (by omega) ⟨ia_c0 h_13 (gd_c (by omega)) (by omega) (by omega) hv_11, (Kp.ex (Kp.tr (Kp.rf : Kp [442] M0 M0) (Kp.mono hK (by decide))) s_14 (by decide))⟩
set_option maxHeartbeats 8000000 in
theorem dv_60 (G : GX) {M0 : List va_E} {w : Nat → Int32} {l s : List UInt8}  (hb : BG M0 w l) (hs : IA M0 383 64 s) (hsn : 64 < 2 ^ 31) (ha : 0 + 64 ≤ s.length) (hd : 0 + 64 ≤ 64)  {Q : Option Value → List va_E → Prop} (kk : ∀ M, IA M 443 64 (sl s 0 64) ∧ Kp [443] M0 M → TT G mi_Mo_derive 84 [(0, .ref 373)] [] M 0 0 Q) : ∀ j k M, k + j = 64 → IA M 443 64 (sl s 0 k) ∧ Kp [443] M0 M → TT G mi_Mo_derive 60 [(1, .int (nI k)), (0, .ref 373)] [] M 0 0 Q := by
  intro j
  induction j with
  | zero =>
    intro k M hk hI
    obtain rfl : 64 = k := by omega
    obtain ⟨hda, hK⟩ := id hI
    refine T_iload_n d_Mo_derive_60 rfl ?_
    refine T_bipush (v := nI 64) d_Mo_derive_61 (by decide) ?_
    refine N_icmp_ge_t (a := 64) (b := 64) d_Mo_derive_63 (tgt := 84) rfl (by omega) (by omega) (by omega) ?_
    exact T_sub (fun q hq => List.mem_cons_of_mem _ hq) (kk M hI)
  | succ j ih =>
    intro k M hk hI
    obtain ⟨hda, hK⟩ := hI
    have hsl := IA.le hs
    refine T_iload_n d_Mo_derive_60 rfl ?_
    refine T_bipush (v := nI 64) d_Mo_derive_61 (by decide) ?_
    refine N_icmp_ge_f (a := 64) (b := k) d_Mo_derive_63 (tgt := 84) rfl (by omega) (by omega) (by omega) ?_
    refine T_aload_n (v := .ref 373) d_Mo_derive_66 rfl (Or.inr ⟨_, rfl⟩) ?_
    have p_1 := (BG.kp (hb) hK (by decide) (by decide))
    obtain ⟨v_2, hov_2, hwv_2, hsv_2, hiv_2⟩ := id p_1
    refine T_getfield (v := .ref 443) d_Mo_derive_67 fg_Mo_452 hov_2 rfl ?_
    refine T_iload_n d_Mo_derive_70 rfl ?_
    refine T_aload_n (v := .ref 373) d_Mo_derive_71 rfl (Or.inr ⟨_, rfl⟩) ?_
    refine T_getfield (v := .ref 383) d_Mo_derive_72 fg_Mo_55 hov_2 rfl ?_
    refine T_iload_n d_Mo_derive_75 rfl ?_
    have p_3 := (IA.kp (hs) hK (by decide))
    obtain ⟨f_4, hf_5, hl_6, hv_7⟩ := id p_3
    refine N_iaload (k := k) (x := (bR (gd s k))) d_Mo_derive_76 hf_5 (by omega) (by decide) (hv_7 k (by first | omega | (simp only [List.length_append, List.length_cons, List.length_nil, List.length_replicate, sl_len, be_len, sha_len, hmac_len, ex1_len, ex2_len, stretch_len, zer8_len, tC_len, tag1_len, bnN_len, xkp_len]; omega))) ?_
    obtain ⟨f_8, hf_9, hl_10, hv_11⟩ := id hda
    refine N_iastore (k := k) d_Mo_derive_77 (by decide) hf_9 (by omega) (by decide) rfl (fun M_12 h_13 s_14 => ?_)
    refine N_iinc (k := k) (m := 1) (c := (k + 1)) (L' := [(1, .int (nI ((k + 1)))), (0, .ref 373)]) d_Mo_derive_78 (by decide) rfl (by decide) rfl rfl ?_
    refine T_goto (tgt := 60) d_Mo_derive_81 rfl ?_
    exact ih (k + 1) M_12 (by omega) ⟨ia_c0 h_13 (gd_c (by omega)) (by omega) (by omega) hv_11, (Kp.ex (Kp.tr (Kp.rf : Kp [443] M0 M0) (Kp.mono hK (by decide))) s_14 (by decide))⟩
set_option maxHeartbeats 8000000 in
theorem dv_134 (G : GX) {M0 : List va_E} {w : Nat → Int32} {l s : List UInt8}  (hb : BG M0 w l) (hs : IA M0 388 192 s) (hsn : 192 < 2 ^ 31) (ha : 0 + 64 ≤ s.length) (hd : 0 + 64 ≤ 64)  {Q : Option Value → List va_E → Prop} (kk : ∀ M, IA M 444 64 (sl s 0 64) ∧ Kp [444] M0 M → TT G mi_Mo_derive 158 [(0, .ref 373)] [] M 0 0 Q) : ∀ j k M, k + j = 64 → IA M 444 64 (sl s 0 k) ∧ Kp [444] M0 M → TT G mi_Mo_derive 134 [(1, .int (nI k)), (0, .ref 373)] [] M 0 0 Q := by
  intro j
  induction j with
  | zero =>
    intro k M hk hI
    obtain rfl : 64 = k := by omega
    obtain ⟨hda, hK⟩ := id hI
    refine T_iload_n d_Mo_derive_134 rfl ?_
    refine T_bipush (v := nI 64) d_Mo_derive_135 (by decide) ?_
    refine N_icmp_ge_t (a := 64) (b := 64) d_Mo_derive_137 (tgt := 158) rfl (by omega) (by omega) (by omega) ?_
    exact T_sub (fun q hq => List.mem_cons_of_mem _ hq) (kk M hI)
  | succ j ih =>
    intro k M hk hI
    obtain ⟨hda, hK⟩ := hI
    have hsl := IA.le hs
    refine T_iload_n d_Mo_derive_134 rfl ?_
    refine T_bipush (v := nI 64) d_Mo_derive_135 (by decide) ?_
    refine N_icmp_ge_f (a := 64) (b := k) d_Mo_derive_137 (tgt := 158) rfl (by omega) (by omega) (by omega) ?_
    refine T_aload_n (v := .ref 373) d_Mo_derive_140 rfl (Or.inr ⟨_, rfl⟩) ?_
    have p_1 := (BG.kp (hb) hK (by decide) (by decide))
    obtain ⟨v_2, hov_2, hwv_2, hsv_2, hiv_2⟩ := id p_1
    refine T_getfield (v := .ref 444) d_Mo_derive_141 fg_Mo_455 hov_2 rfl ?_
    refine T_iload_n d_Mo_derive_144 rfl ?_
    refine T_aload_n (v := .ref 373) d_Mo_derive_145 rfl (Or.inr ⟨_, rfl⟩) ?_
    refine T_getfield (v := .ref 388) d_Mo_derive_146 fg_Mo_99 hov_2 rfl ?_
    refine T_iload_n d_Mo_derive_149 rfl ?_
    have p_3 := (IA.kp (hs) hK (by decide))
    obtain ⟨f_4, hf_5, hl_6, hv_7⟩ := id p_3
    refine N_iaload (k := k) (x := (bR (gd s k))) d_Mo_derive_150 hf_5 (by omega) (by decide) (hv_7 k (by first | omega | (simp only [List.length_append, List.length_cons, List.length_nil, List.length_replicate, sl_len, be_len, sha_len, hmac_len, ex1_len, ex2_len, stretch_len, zer8_len, tC_len, tag1_len, bnN_len, xkp_len]; omega))) ?_
    obtain ⟨f_8, hf_9, hl_10, hv_11⟩ := id hda
    refine N_iastore (k := k) d_Mo_derive_151 (by decide) hf_9 (by omega) (by decide) rfl (fun M_12 h_13 s_14 => ?_)
    refine N_iinc (k := k) (m := 1) (c := (k + 1)) (L' := [(1, .int (nI ((k + 1)))), (0, .ref 373)]) d_Mo_derive_152 (by decide) rfl (by decide) rfl rfl ?_
    refine T_goto (tgt := 134) d_Mo_derive_155 rfl ?_
    exact ih (k + 1) M_12 (by omega) ⟨ia_c0 h_13 (gd_c (by omega)) (by omega) (by omega) hv_11, (Kp.ex (Kp.tr (Kp.rf : Kp [444] M0 M0) (Kp.mono hK (by decide))) s_14 (by decide))⟩
set_option maxHeartbeats 8000000 in
theorem dv_208 (G : GX) {M0 : List va_E} {w : Nat → Int32} {l s : List UInt8}  (hb : BG M0 w l) (hs : IA M0 388 192 s) (hsn : 192 < 2 ^ 31) (ha : 0 + 64 ≤ s.length) (hd : 0 + 64 ≤ 64)  {Q : Option Value → List va_E → Prop} (kk : ∀ M, IA M 447 64 (sl s 0 64) ∧ Kp [447] M0 M → TT G mi_Mo_derive 232 [(0, .ref 373)] [] M 0 0 Q) : ∀ j k M, k + j = 64 → IA M 447 64 (sl s 0 k) ∧ Kp [447] M0 M → TT G mi_Mo_derive 208 [(1, .int (nI k)), (0, .ref 373)] [] M 0 0 Q := by
  intro j
  induction j with
  | zero =>
    intro k M hk hI
    obtain rfl : 64 = k := by omega
    obtain ⟨hda, hK⟩ := id hI
    refine T_iload_n d_Mo_derive_208 rfl ?_
    refine T_bipush (v := nI 64) d_Mo_derive_209 (by decide) ?_
    refine N_icmp_ge_t (a := 64) (b := 64) d_Mo_derive_211 (tgt := 232) rfl (by omega) (by omega) (by omega) ?_
    exact T_sub (fun q hq => List.mem_cons_of_mem _ hq) (kk M hI)
  | succ j ih =>
    intro k M hk hI
    obtain ⟨hda, hK⟩ := hI
    have hsl := IA.le hs
    refine T_iload_n d_Mo_derive_208 rfl ?_
    refine T_bipush (v := nI 64) d_Mo_derive_209 (by decide) ?_
    refine N_icmp_ge_f (a := 64) (b := k) d_Mo_derive_211 (tgt := 232) rfl (by omega) (by omega) (by omega) ?_
    refine T_aload_n (v := .ref 373) d_Mo_derive_214 rfl (Or.inr ⟨_, rfl⟩) ?_
    have p_1 := (BG.kp (hb) hK (by decide) (by decide))
    obtain ⟨v_2, hov_2, hwv_2, hsv_2, hiv_2⟩ := id p_1
    refine T_getfield (v := .ref 447) d_Mo_derive_215 fg_Mo_464 hov_2 rfl ?_
    refine T_iload_n d_Mo_derive_218 rfl ?_
    refine T_aload_n (v := .ref 373) d_Mo_derive_219 rfl (Or.inr ⟨_, rfl⟩) ?_
    refine T_getfield (v := .ref 388) d_Mo_derive_220 fg_Mo_99 hov_2 rfl ?_
    refine T_iload_n d_Mo_derive_223 rfl ?_
    have p_3 := (IA.kp (hs) hK (by decide))
    obtain ⟨f_4, hf_5, hl_6, hv_7⟩ := id p_3
    refine N_iaload (k := k) (x := (bR (gd s k))) d_Mo_derive_224 hf_5 (by omega) (by decide) (hv_7 k (by first | omega | (simp only [List.length_append, List.length_cons, List.length_nil, List.length_replicate, sl_len, be_len, sha_len, hmac_len, ex1_len, ex2_len, stretch_len, zer8_len, tC_len, tag1_len, bnN_len, xkp_len]; omega))) ?_
    obtain ⟨f_8, hf_9, hl_10, hv_11⟩ := id hda
    refine N_iastore (k := k) d_Mo_derive_225 (by decide) hf_9 (by omega) (by decide) rfl (fun M_12 h_13 s_14 => ?_)
    refine N_iinc (k := k) (m := 1) (c := (k + 1)) (L' := [(1, .int (nI ((k + 1)))), (0, .ref 373)]) d_Mo_derive_226 (by decide) rfl (by decide) rfl rfl ?_
    refine T_goto (tgt := 208) d_Mo_derive_229 rfl ?_
    exact ih (k + 1) M_12 (by omega) ⟨ia_c0 h_13 (gd_c (by omega)) (by omega) (by omega) hv_11, (Kp.ex (Kp.tr (Kp.rf : Kp [447] M0 M0) (Kp.mono hK (by decide))) s_14 (by decide))⟩
set_option maxHeartbeats 8000000 in
theorem dv_270 (G : GX) {M0 : List va_E} {w : Nat → Int32} {l s : List UInt8}  (hb : BG M0 w l) (hs : IA M0 388 192 s) (hsn : 192 < 2 ^ 31) (ha : 0 + 64 ≤ s.length) (hd : 0 + 64 ≤ 400)  {Q : Option Value → List va_E → Prop} (kk : ∀ M, IA M 408 400 (sl s 0 64) ∧ Kp [408] M0 M → TT G mi_Mo_derive 294 [(0, .ref 373)] [] M 0 0 Q) : ∀ j k M, k + j = 64 → IA M 408 400 (sl s 0 k) ∧ Kp [408] M0 M → TT G mi_Mo_derive 270 [(1, .int (nI k)), (0, .ref 373)] [] M 0 0 Q := by
  intro j
  induction j with
  | zero =>
    intro k M hk hI
    obtain rfl : 64 = k := by omega
    obtain ⟨hda, hK⟩ := id hI
    refine T_iload_n d_Mo_derive_270 rfl ?_
    refine T_bipush (v := nI 64) d_Mo_derive_271 (by decide) ?_
    refine N_icmp_ge_t (a := 64) (b := 64) d_Mo_derive_273 (tgt := 294) rfl (by omega) (by omega) (by omega) ?_
    exact T_sub (fun q hq => List.mem_cons_of_mem _ hq) (kk M hI)
  | succ j ih =>
    intro k M hk hI
    obtain ⟨hda, hK⟩ := hI
    have hsl := IA.le hs
    refine T_iload_n d_Mo_derive_270 rfl ?_
    refine T_bipush (v := nI 64) d_Mo_derive_271 (by decide) ?_
    refine N_icmp_ge_f (a := 64) (b := k) d_Mo_derive_273 (tgt := 294) rfl (by omega) (by omega) (by omega) ?_
    refine T_aload_n (v := .ref 373) d_Mo_derive_276 rfl (Or.inr ⟨_, rfl⟩) ?_
    have p_1 := (BG.kp (hb) hK (by decide) (by decide))
    obtain ⟨v_2, hov_2, hwv_2, hsv_2, hiv_2⟩ := id p_1
    refine T_getfield (v := .ref 408) d_Mo_derive_277 fg_Mo_338 hov_2 rfl ?_
    refine T_iload_n d_Mo_derive_280 rfl ?_
    refine T_aload_n (v := .ref 373) d_Mo_derive_281 rfl (Or.inr ⟨_, rfl⟩) ?_
    refine T_getfield (v := .ref 388) d_Mo_derive_282 fg_Mo_99 hov_2 rfl ?_
    refine T_iload_n d_Mo_derive_285 rfl ?_
    have p_3 := (IA.kp (hs) hK (by decide))
    obtain ⟨f_4, hf_5, hl_6, hv_7⟩ := id p_3
    refine N_iaload (k := k) (x := (bR (gd s k))) d_Mo_derive_286 hf_5 (by omega) (by decide) (hv_7 k (by first | omega | (simp only [List.length_append, List.length_cons, List.length_nil, List.length_replicate, sl_len, be_len, sha_len, hmac_len, ex1_len, ex2_len, stretch_len, zer8_len, tC_len, tag1_len, bnN_len, xkp_len]; omega))) ?_
    obtain ⟨f_8, hf_9, hl_10, hv_11⟩ := id hda
    refine N_iastore (k := k) d_Mo_derive_287 (by decide) hf_9 (by omega) (by decide) rfl (fun M_12 h_13 s_14 => ?_)
    refine N_iinc (k := k) (m := 1) (c := (k + 1)) (L' := [(1, .int (nI ((k + 1)))), (0, .ref 373)]) d_Mo_derive_288 (by decide) rfl (by decide) rfl rfl ?_
    refine T_goto (tgt := 270) d_Mo_derive_291 rfl ?_
    exact ih (k + 1) M_12 (by omega) ⟨ia_c0 h_13 (gd_c (by omega)) (by omega) (by omega) hv_11, (Kp.ex (Kp.tr (Kp.rf : Kp [408] M0 M0) (Kp.mono hK (by decide))) s_14 (by decide))⟩
set_option maxHeartbeats 8000000 in
theorem dv_318 (G : GX) {M0 : List va_E} {w : Nat → Int32} {l s : List UInt8}  (hb : BG M0 w l) (hs : IA M0 383 64 s) (hsn : 64 < 2 ^ 31) (ha : 0 + 64 ≤ s.length) (hd : 0 + 64 ≤ 64)  {Q : Option Value → List va_E → Prop} (kk : ∀ M, IA M 445 64 (sl s 0 64) ∧ Kp [445] M0 M → TT G mi_Mo_derive 342 [(0, .ref 373)] [] M 0 0 Q) : ∀ j k M, k + j = 64 → IA M 445 64 (sl s 0 k) ∧ Kp [445] M0 M → TT G mi_Mo_derive 318 [(1, .int (nI k)), (0, .ref 373)] [] M 0 0 Q := by
  intro j
  induction j with
  | zero =>
    intro k M hk hI
    obtain rfl : 64 = k := by omega
    obtain ⟨hda, hK⟩ := id hI
    refine T_iload_n d_Mo_derive_318 rfl ?_
    refine T_bipush (v := nI 64) d_Mo_derive_319 (by decide) ?_
    refine N_icmp_ge_t (a := 64) (b := 64) d_Mo_derive_321 (tgt := 342) rfl (by omega) (by omega) (by omega) ?_
    exact T_sub (fun q hq => List.mem_cons_of_mem _ hq) (kk M hI)
  | succ j ih =>
    intro k M hk hI
    obtain ⟨hda, hK⟩ := hI
    have hsl := IA.le hs
    refine T_iload_n d_Mo_derive_318 rfl ?_
    refine T_bipush (v := nI 64) d_Mo_derive_319 (by decide) ?_
    refine N_icmp_ge_f (a := 64) (b := k) d_Mo_derive_321 (tgt := 342) rfl (by omega) (by omega) (by omega) ?_
    refine T_aload_n (v := .ref 373) d_Mo_derive_324 rfl (Or.inr ⟨_, rfl⟩) ?_
    have p_1 := (BG.kp (hb) hK (by decide) (by decide))
    obtain ⟨v_2, hov_2, hwv_2, hsv_2, hiv_2⟩ := id p_1
    refine T_getfield (v := .ref 445) d_Mo_derive_325 fg_Mo_458 hov_2 rfl ?_
    refine T_iload_n d_Mo_derive_328 rfl ?_
    refine T_aload_n (v := .ref 373) d_Mo_derive_329 rfl (Or.inr ⟨_, rfl⟩) ?_
    refine T_getfield (v := .ref 383) d_Mo_derive_330 fg_Mo_55 hov_2 rfl ?_
    refine T_iload_n d_Mo_derive_333 rfl ?_
    have p_3 := (IA.kp (hs) hK (by decide))
    obtain ⟨f_4, hf_5, hl_6, hv_7⟩ := id p_3
    refine N_iaload (k := k) (x := (bR (gd s k))) d_Mo_derive_334 hf_5 (by omega) (by decide) (hv_7 k (by first | omega | (simp only [List.length_append, List.length_cons, List.length_nil, List.length_replicate, sl_len, be_len, sha_len, hmac_len, ex1_len, ex2_len, stretch_len, zer8_len, tC_len, tag1_len, bnN_len, xkp_len]; omega))) ?_
    obtain ⟨f_8, hf_9, hl_10, hv_11⟩ := id hda
    refine N_iastore (k := k) d_Mo_derive_335 (by decide) hf_9 (by omega) (by decide) rfl (fun M_12 h_13 s_14 => ?_)
    refine N_iinc (k := k) (m := 1) (c := (k + 1)) (L' := [(1, .int (nI ((k + 1)))), (0, .ref 373)]) d_Mo_derive_336 (by decide) rfl (by decide) rfl rfl ?_
    refine T_goto (tgt := 318) d_Mo_derive_339 rfl ?_
    exact ih (k + 1) M_12 (by omega) ⟨ia_c0 h_13 (gd_c (by omega)) (by omega) (by omega) hv_11, (Kp.ex (Kp.tr (Kp.rf : Kp [445] M0 M0) (Kp.mono hK (by decide))) s_14 (by decide))⟩
set_option maxHeartbeats 8000000 in
theorem dv_380 (G : GX) {M0 : List va_E} {w : Nat → Int32} {l s : List UInt8}  (hb : BG M0 w l) (hs : IA M0 388 192 s) (hsn : 192 < 2 ^ 31) (ha : 0 + 64 ≤ s.length) (hd : 0 + 64 ≤ 400)  {Q : Option Value → List va_E → Prop} (kk : ∀ M, IA M 408 400 (sl s 0 64) ∧ Kp [408] M0 M → TT G mi_Mo_derive 404 [(0, .ref 373)] [] M 0 0 Q) : ∀ j k M, k + j = 64 → IA M 408 400 (sl s 0 k) ∧ Kp [408] M0 M → TT G mi_Mo_derive 380 [(1, .int (nI k)), (0, .ref 373)] [] M 0 0 Q := by
  intro j
  induction j with
  | zero =>
    intro k M hk hI
    obtain rfl : 64 = k := by omega
    obtain ⟨hda, hK⟩ := id hI
    refine T_iload_n d_Mo_derive_380 rfl ?_
    refine T_bipush (v := nI 64) d_Mo_derive_381 (by decide) ?_
    refine N_icmp_ge_t (a := 64) (b := 64) d_Mo_derive_383 (tgt := 404) rfl (by omega) (by omega) (by omega) ?_
    exact T_sub (fun q hq => List.mem_cons_of_mem _ hq) (kk M hI)
  | succ j ih =>
    intro k M hk hI
    obtain ⟨hda, hK⟩ := hI
    have hsl := IA.le hs
    refine T_iload_n d_Mo_derive_380 rfl ?_
    refine T_bipush (v := nI 64) d_Mo_derive_381 (by decide) ?_
    refine N_icmp_ge_f (a := 64) (b := k) d_Mo_derive_383 (tgt := 404) rfl (by omega) (by omega) (by omega) ?_
    refine T_aload_n (v := .ref 373) d_Mo_derive_386 rfl (Or.inr ⟨_, rfl⟩) ?_
    have p_1 := (BG.kp (hb) hK (by decide) (by decide))
    obtain ⟨v_2, hov_2, hwv_2, hsv_2, hiv_2⟩ := id p_1
    refine T_getfield (v := .ref 408) d_Mo_derive_387 fg_Mo_338 hov_2 rfl ?_
    refine T_iload_n d_Mo_derive_390 rfl ?_
    refine T_aload_n (v := .ref 373) d_Mo_derive_391 rfl (Or.inr ⟨_, rfl⟩) ?_
    refine T_getfield (v := .ref 388) d_Mo_derive_392 fg_Mo_99 hov_2 rfl ?_
    refine T_iload_n d_Mo_derive_395 rfl ?_
    have p_3 := (IA.kp (hs) hK (by decide))
    obtain ⟨f_4, hf_5, hl_6, hv_7⟩ := id p_3
    refine N_iaload (k := k) (x := (bR (gd s k))) d_Mo_derive_396 hf_5 (by omega) (by decide) (hv_7 k (by first | omega | (simp only [List.length_append, List.length_cons, List.length_nil, List.length_replicate, sl_len, be_len, sha_len, hmac_len, ex1_len, ex2_len, stretch_len, zer8_len, tC_len, tag1_len, bnN_len, xkp_len]; omega))) ?_
    obtain ⟨f_8, hf_9, hl_10, hv_11⟩ := id hda
    refine N_iastore (k := k) d_Mo_derive_397 (by decide) hf_9 (by omega) (by decide) rfl (fun M_12 h_13 s_14 => ?_)
    refine N_iinc (k := k) (m := 1) (c := (k + 1)) (L' := [(1, .int (nI ((k + 1)))), (0, .ref 373)]) d_Mo_derive_398 (by decide) rfl (by decide) rfl rfl ?_
    refine T_goto (tgt := 380) d_Mo_derive_401 rfl ?_
    exact ih (k + 1) M_12 (by omega) ⟨ia_c0 h_13 (gd_c (by omega)) (by omega) (by omega) hv_11, (Kp.ex (Kp.tr (Kp.rf : Kp [408] M0 M0) (Kp.mono hK (by decide))) s_14 (by decide))⟩
set_option maxHeartbeats 8000000 in
theorem dv_434 (G : GX) {M0 : List va_E} {w : Nat → Int32} {l s : List UInt8}  (hb : BG M0 w l) (hs : IA M0 383 64 s) (hsn : 64 < 2 ^ 31) (ha : 0 + 64 ≤ s.length) (hd : 0 + 64 ≤ 64)  {Q : Option Value → List va_E → Prop} (kk : ∀ M, IA M 443 64 (sl s 0 64) ∧ Kp [443] M0 M → TT G mi_Mo_derive 458 [(0, .ref 373)] [] M 0 0 Q) : ∀ j k M, k + j = 64 → IA M 443 64 (sl s 0 k) ∧ Kp [443] M0 M → TT G mi_Mo_derive 434 [(1, .int (nI k)), (0, .ref 373)] [] M 0 0 Q := by
  intro j
  induction j with
  | zero =>
    intro k M hk hI
    obtain rfl : 64 = k := by omega
    obtain ⟨hda, hK⟩ := id hI
    refine T_iload_n d_Mo_derive_434 rfl ?_
    refine T_bipush (v := nI 64) d_Mo_derive_435 (by decide) ?_
    refine N_icmp_ge_t (a := 64) (b := 64) d_Mo_derive_437 (tgt := 458) rfl (by omega) (by omega) (by omega) ?_
    exact T_sub (fun q hq => List.mem_cons_of_mem _ hq) (kk M hI)
  | succ j ih =>
    intro k M hk hI
    obtain ⟨hda, hK⟩ := hI
    have hsl := IA.le hs
    refine T_iload_n d_Mo_derive_434 rfl ?_
    refine T_bipush (v := nI 64) d_Mo_derive_435 (by decide) ?_
    refine N_icmp_ge_f (a := 64) (b := k) d_Mo_derive_437 (tgt := 458) rfl (by omega) (by omega) (by omega) ?_
    refine T_aload_n (v := .ref 373) d_Mo_derive_440 rfl (Or.inr ⟨_, rfl⟩) ?_
    have p_1 := (BG.kp (hb) hK (by decide) (by decide))
    obtain ⟨v_2, hov_2, hwv_2, hsv_2, hiv_2⟩ := id p_1
    refine T_getfield (v := .ref 443) d_Mo_derive_441 fg_Mo_452 hov_2 rfl ?_
    refine T_iload_n d_Mo_derive_444 rfl ?_
    refine T_aload_n (v := .ref 373) d_Mo_derive_445 rfl (Or.inr ⟨_, rfl⟩) ?_
    refine T_getfield (v := .ref 383) d_Mo_derive_446 fg_Mo_55 hov_2 rfl ?_
    refine T_iload_n d_Mo_derive_449 rfl ?_
    have p_3 := (IA.kp (hs) hK (by decide))
    obtain ⟨f_4, hf_5, hl_6, hv_7⟩ := id p_3
    refine N_iaload (k := k) (x := (bR (gd s k))) d_Mo_derive_450 hf_5 (by omega) (by decide) (hv_7 k (by first | omega | (simp only [List.length_append, List.length_cons, List.length_nil, List.length_replicate, sl_len, be_len, sha_len, hmac_len, ex1_len, ex2_len, stretch_len, zer8_len, tC_len, tag1_len, bnN_len, xkp_len]; omega))) ?_
    obtain ⟨f_8, hf_9, hl_10, hv_11⟩ := id hda
    refine N_iastore (k := k) d_Mo_derive_451 (by decide) hf_9 (by omega) (by decide) rfl (fun M_12 h_13 s_14 => ?_)
    refine N_iinc (k := k) (m := 1) (c := (k + 1)) (L' := [(1, .int (nI ((k + 1)))), (0, .ref 373)]) d_Mo_derive_452 (by decide) rfl (by decide) rfl rfl ?_
    refine T_goto (tgt := 434) d_Mo_derive_455 rfl ?_
    exact ih (k + 1) M_12 (by omega) ⟨ia_c0 h_13 (gd_c (by omega)) (by omega) (by omega) hv_11, (Kp.ex (Kp.tr (Kp.rf : Kp [443] M0 M0) (Kp.mono hK (by decide))) s_14 (by decide))⟩
set_option maxHeartbeats 8000000 in
theorem dv_482 (G : GX) {M0 : List va_E} {w : Nat → Int32} {l s : List UInt8}  (hb : BG M0 w l) (hs : IA M0 383 64 s) (hsn : 64 < 2 ^ 31) (ha : 0 + 64 ≤ s.length) (hd : 0 + 64 ≤ 64)  {Q : Option Value → List va_E → Prop} (kk : ∀ M, IA M 446 64 (sl s 0 64) ∧ Kp [446] M0 M → TT G mi_Mo_derive 506 [(0, .ref 373)] [] M 0 0 Q) : ∀ j k M, k + j = 64 → IA M 446 64 (sl s 0 k) ∧ Kp [446] M0 M → TT G mi_Mo_derive 482 [(1, .int (nI k)), (0, .ref 373)] [] M 0 0 Q := by
  intro j
  induction j with
  | zero =>
    intro k M hk hI
    obtain rfl : 64 = k := by omega
    obtain ⟨hda, hK⟩ := id hI
    refine T_iload_n d_Mo_derive_482 rfl ?_
    refine T_bipush (v := nI 64) d_Mo_derive_483 (by decide) ?_
    refine N_icmp_ge_t (a := 64) (b := 64) d_Mo_derive_485 (tgt := 506) rfl (by omega) (by omega) (by omega) ?_
    exact T_sub (fun q hq => List.mem_cons_of_mem _ hq) (kk M hI)
  | succ j ih =>
    intro k M hk hI
    obtain ⟨hda, hK⟩ := hI
    have hsl := IA.le hs
    refine T_iload_n d_Mo_derive_482 rfl ?_
    refine T_bipush (v := nI 64) d_Mo_derive_483 (by decide) ?_
    refine N_icmp_ge_f (a := 64) (b := k) d_Mo_derive_485 (tgt := 506) rfl (by omega) (by omega) (by omega) ?_
    refine T_aload_n (v := .ref 373) d_Mo_derive_488 rfl (Or.inr ⟨_, rfl⟩) ?_
    have p_1 := (BG.kp (hb) hK (by decide) (by decide))
    obtain ⟨v_2, hov_2, hwv_2, hsv_2, hiv_2⟩ := id p_1
    refine T_getfield (v := .ref 446) d_Mo_derive_489 fg_Mo_461 hov_2 rfl ?_
    refine T_iload_n d_Mo_derive_492 rfl ?_
    refine T_aload_n (v := .ref 373) d_Mo_derive_493 rfl (Or.inr ⟨_, rfl⟩) ?_
    refine T_getfield (v := .ref 383) d_Mo_derive_494 fg_Mo_55 hov_2 rfl ?_
    refine T_iload_n d_Mo_derive_497 rfl ?_
    have p_3 := (IA.kp (hs) hK (by decide))
    obtain ⟨f_4, hf_5, hl_6, hv_7⟩ := id p_3
    refine N_iaload (k := k) (x := (bR (gd s k))) d_Mo_derive_498 hf_5 (by omega) (by decide) (hv_7 k (by first | omega | (simp only [List.length_append, List.length_cons, List.length_nil, List.length_replicate, sl_len, be_len, sha_len, hmac_len, ex1_len, ex2_len, stretch_len, zer8_len, tC_len, tag1_len, bnN_len, xkp_len]; omega))) ?_
    obtain ⟨f_8, hf_9, hl_10, hv_11⟩ := id hda
    refine N_iastore (k := k) d_Mo_derive_499 (by decide) hf_9 (by omega) (by decide) rfl (fun M_12 h_13 s_14 => ?_)
    refine N_iinc (k := k) (m := 1) (c := (k + 1)) (L' := [(1, .int (nI ((k + 1)))), (0, .ref 373)]) d_Mo_derive_500 (by decide) rfl (by decide) rfl rfl ?_
    refine T_goto (tgt := 482) d_Mo_derive_503 rfl ?_
    exact ih (k + 1) M_12 (by omega) ⟨ia_c0 h_13 (gd_c (by omega)) (by omega) (by omega) hv_11, (Kp.ex (Kp.tr (Kp.rf : Kp [446] M0 M0) (Kp.mono hK (by decide))) s_14 (by decide))⟩
theorem xK_len (j p : List UInt8) : (xK j p).length = 64 := ex1_len _ _
theorem xP_len (j : List UInt8) : (xP j).length = 64 := hmac_len _ _
theorem xK_e (J P : List UInt8) : xK J P = ex1 (xP J) (((((([]) ++ ([0, 64] ++ ([u8 (nI (7 + 15))] ++ [79, 80, 65, 81, 85, 69, 45]))) ++ [72, 97, 110, 100, 115, 104, 97, 107]) ++ [101, 83, 101, 99, 114, 101, 116]) ++ [u8 (nI 64)]) ++ sha P) := by
  unfold xK lab; rw [sha_len, show UInt8.ofNat (7 + W17.length) = u8 (nI (7 + 15)) from by decide, show UInt8.ofNat 64 = u8 (nI 64) from by decide]; simp only [List.append_assoc, List.cons_append, List.nil_append, W17, W18]
theorem xSess_e (J P : List UInt8) : xSess J P = ex1 (xP J) (((((([]) ++ ([0, 64] ++ ([u8 (nI (7 + 10))] ++ [79, 80, 65, 81, 85, 69, 45]))) ++ [83, 101, 115, 115, 105, 111, 110, 75]) ++ [101, 121]) ++ [u8 (nI 64)]) ++ sha P) := by
  unfold xSess lab; rw [sha_len, show UInt8.ofNat (7 + W19.length) = u8 (nI (7 + 10)) from by decide, show UInt8.ofNat 64 = u8 (nI 64) from by decide]; simp only [List.append_assoc, List.cons_append, List.nil_append, W19, W18]
theorem lab_20 : lab W20 [] = [0, 64] ++ ([u8 (nI (7 + 9))] ++ ([79, 80, 65, 81, 85, 69, 45] ++ ([83, 101, 114, 118, 101, 114, 77, 65] ++ ([67] ++ [u8 (nI 0)])))) := by
  unfold lab; rw [show UInt8.ofNat (7 + W20.length) = u8 (nI (7 + 9)) from by decide, show UInt8.ofNat ([] : List UInt8).length = u8 (nI 0) from by decide]; simp only [List.append_assoc, List.cons_append, List.nil_append, List.append_nil, W20, W18]
theorem lab_21 : lab W21 [] = [0, 64] ++ ([u8 (nI (7 + 9))] ++ ([79, 80, 65, 81, 85, 69, 45] ++ ([67, 108, 105, 101, 110, 116, 77, 65] ++ ([67] ++ [u8 (nI 0)])))) := by
  unfold lab; rw [show UInt8.ofNat (7 + W21.length) = u8 (nI (7 + 9)) from by decide, show UInt8.ofNat ([] : List UInt8).length = u8 (nI 0) from by decide]; simp only [List.append_assoc, List.cons_append, List.nil_append, List.append_nil, W21, W18]
set_option maxHeartbeats 8000000 in
theorem b_Mo_derive {G : GX} {M : List va_E} {w : Nat → Int32} {J Pm : List UInt8} {n : Nat} (hms : MS M) (h : BG M w []) (hj : IA M 440 96 J) (hp : IA M 441 500 Pm) (lJ : J.length = 96) (lP : Pm.length = n) (h75 : w 75 = nI n) : CT G mi_Mo_derive [.ref 373] M (fun r M' => r = none ∧ MS M' ∧ BG M' w [] ∧ IA M' 445 64 (xSrv J Pm) ∧ IA M' 446 64 (xCli J Pm) ∧ IA M' 447 64 (xSess J Pm) ∧ Kp deW M M') := by
  have lP2 := hp.le
  refine CT.of (by decide) (Nat.le_of_ble_eq_true rfl) ?_
  show TT G mi_Mo_derive 0 [(0, .ref 373)] [] M 0 0 _
  refine T_aload_n (v := .ref 373) d_Mo_derive_0 rfl (Or.inr ⟨_, rfl⟩) ?_
  refine T_aload_n (v := .ref 373) d_Mo_derive_1 rfl (Or.inr ⟨_, rfl⟩) ?_
  obtain ⟨v_1, hov_1, hwv_1, hsv_1, hiv_1⟩ := id h
  refine T_getfield (v := .ref 440) d_Mo_derive_2 fg_Mo_440 hov_1 rfl ?_
  refine T_iconst (v := nI 0) d_Mo_derive_5 (by decide) ?_
  refine T_bipush (v := nI 96) d_Mo_derive_6 (by decide) ?_
  refine T_virtual (as := [.ref 440, .int (nI 0), .int (nI 96)]) (rest := []) (b := 373) d_Mo_derive_8 rfl (jw_Mo_bytes.jo (by decide)) lm_Mo_76 ji_Mo_bytes js_Mo_bytes hov_1 rfl rfl rfl (Nat.le_of_ble_eq_true rfl) (by decide) (by decide) (b_Mo_bytes (at0 := 0) (n := 96) h hj (by first | omega | (simp only [List.length_append, List.length_cons, List.length_nil, List.length_replicate, sl_len, be_len, sha_len, hmac_len, ex1_len, ex2_len, stretch_len, zer8_len, tC_len, tag1_len, bnN_len, xkp_len, enc_len, chance_len, lbF_len, str2_len, pub_len', sec8_len, xSrv_len, xCli_len, xSess_len, xK_len, xP_len]; done) | (simp only [List.length_append, List.length_cons, List.length_nil, List.length_replicate, sl_len, be_len, sha_len, hmac_len, ex1_len, ex2_len, stretch_len, zer8_len, tC_len, tag1_len, bnN_len, xkp_len, enc_len, chance_len, lbF_len, str2_len, pub_len', sec8_len, xSrv_len, xCli_len, xSess_len, xK_len, xP_len]; omega)) (by decide) (by first | omega | (simp only [List.length_append, List.length_cons, List.length_nil, List.length_replicate, sl_len, be_len, sha_len, hmac_len, ex1_len, ex2_len, stretch_len, zer8_len, tC_len, tag1_len, bnN_len, xkp_len, enc_len, chance_len, lbF_len, str2_len, pub_len', sec8_len, xSrv_len, xCli_len, xSess_len, xK_len, xP_len]; done) | (simp only [List.length_append, List.length_cons, List.length_nil, List.length_replicate, sl_len, be_len, sha_len, hmac_len, ex1_len, ex2_len, stretch_len, zer8_len, tC_len, tag1_len, bnN_len, xkp_len, enc_len, chance_len, lbF_len, str2_len, pub_len', sec8_len, xSrv_len, xCli_len, xSess_len, xK_len, xP_len]; omega)) (by decide) (by decide)) (fun r M_2 hq => ?_)
  obtain ⟨rfl, p_2_0, kp_2⟩ := hq
  refine T_eq (pc' := 11) (L' := [(0, .ref 373)]) (st' := []) (M' := M_2) rfl rfl rfl rfl ?_
  refine T_aload_n (v := .ref 373) d_Mo_derive_11 rfl (Or.inr ⟨_, rfl⟩) ?_
  have p_3 := (MS.kp (hms) kp_2 (by decide))
  obtain ⟨v_5, hov_5, hwv_5, hsv_5, hiv_5⟩ := id p_2_0
  refine T_virtual (as := []) (rest := []) (b := 373) d_Mo_derive_12 rfl (jw_Mo_extract.jo (by decide)) lm_Mo_515 ji_Mo_extract js_Mo_extract hov_5 rfl rfl rfl (Nat.le_of_ble_eq_true rfl) (by decide) (by decide) (b_Mo_extract p_3 p_2_0 (by first | omega | (simp only [List.length_append, List.length_cons, List.length_nil, List.length_replicate, sl_len, be_len, sha_len, hmac_len, ex1_len, ex2_len, stretch_len, zer8_len, tC_len, tag1_len, bnN_len, xkp_len, enc_len, chance_len, lbF_len, str2_len, pub_len', sec8_len, xSrv_len, xCli_len, xSess_len, xK_len, xP_len]; done) | (simp only [List.length_append, List.length_cons, List.length_nil, List.length_replicate, sl_len, be_len, sha_len, hmac_len, ex1_len, ex2_len, stretch_len, zer8_len, tC_len, tag1_len, bnN_len, xkp_len, enc_len, chance_len, lbF_len, str2_len, pub_len', sec8_len, xSrv_len, xCli_len, xSess_len, xK_len, xP_len]; omega))) (fun r M_4 hq => ?_)
  obtain ⟨rfl, p_4_0, p_4_1, p_4_2, kp_4⟩ := hq
  refine T_eq (pc' := 15) (L' := [(0, .ref 373)]) (st' := []) (M' := M_4) rfl rfl rfl rfl ?_
  refine T_iconst (v := nI 0) d_Mo_derive_15 (by decide) ?_
  refine T_istore_n (L' := [(1, .int (nI 0)), (0, .ref 373)]) d_Mo_derive_16 (by decide) rfl ?_
  have p_6 : IA M_4 383 64 (xP J) := (by have g := p_4_2; rw [sl64 lJ] at g; exact g)
  refine dv_17 G p_4_1 p_6 (by decide) (by first | omega | (simp only [List.length_append, List.length_cons, List.length_nil, List.length_replicate, sl_len, be_len, sha_len, hmac_len, ex1_len, ex2_len, stretch_len, zer8_len, tC_len, tag1_len, bnN_len, xkp_len, enc_len, chance_len, lbF_len, str2_len, pub_len', sec8_len, xSrv_len, xCli_len, xSess_len, xK_len, xP_len]; done) | (simp only [List.length_append, List.length_cons, List.length_nil, List.length_replicate, sl_len, be_len, sha_len, hmac_len, ex1_len, ex2_len, stretch_len, zer8_len, tC_len, tag1_len, bnN_len, xkp_len, enc_len, chance_len, lbF_len, str2_len, pub_len', sec8_len, xSrv_len, xCli_len, xSess_len, xK_len, xP_len]; omega)) (by decide) (fun Mc7 hI => ?_) 64 0 M_4 (Nat.zero_add _) ⟨by rw [sl_zero]; exact (MS.ia p_4_0 (p := 442) (n := 64) (by decide)), Kp.rf⟩
  obtain ⟨hd7, hK7⟩ := hI
  have ms7 := MS.wi p_4_0 hK7 hd7.iq (by decide) (by decide) (by decide)
  have p_8 : IA Mc7 442 64 (xP J) := (by have g := hd7; rw [sl64 (by first | omega | (simp only [List.length_append, List.length_cons, List.length_nil, List.length_replicate, sl_len, be_len, sha_len, hmac_len, ex1_len, ex2_len, stretch_len, zer8_len, tC_len, tag1_len, bnN_len, xkp_len, enc_len, chance_len, lbF_len, str2_len, pub_len', sec8_len, xSrv_len, xCli_len, xSess_len, xK_len, xP_len]; done) | (simp only [List.length_append, List.length_cons, List.length_nil, List.length_replicate, sl_len, be_len, sha_len, hmac_len, ex1_len, ex2_len, stretch_len, zer8_len, tC_len, tag1_len, bnN_len, xkp_len, enc_len, chance_len, lbF_len, str2_len, pub_len', sec8_len, xSrv_len, xCli_len, xSess_len, xK_len, xP_len]; omega))] at g; exact g)
  refine T_aload_n (v := .ref 373) d_Mo_derive_41 rfl (Or.inr ⟨_, rfl⟩) ?_
  refine T_aload_n (v := .ref 373) d_Mo_derive_42 rfl (Or.inr ⟨_, rfl⟩) ?_
  have p_9 := (BG.kp (p_4_1) hK7 (by decide) (by decide))
  obtain ⟨v_10, hov_10, hwv_10, hsv_10, hiv_10⟩ := id p_9
  refine T_getfield (v := .ref 441) d_Mo_derive_43 fg_Mo_443 hov_10 rfl ?_
  refine T_iconst (v := nI 0) d_Mo_derive_46 (by decide) ?_
  refine T_aload_n (v := .ref 373) d_Mo_derive_47 rfl (Or.inr ⟨_, rfl⟩) ?_
  refine N_getI (x := (v_10 75)) (y := (nI n)) d_Mo_derive_48 fg_Mo_446 hov_10 rfl ((hwv_10 75 (by decide)).trans (show w 75 = (nI n) from h75)) ?_
  have p_11 := (IA.kp ((IA.kp ((IA.kp (hp) kp_2 (by decide))) kp_4 (by decide))) hK7 (by decide))
  refine T_virtual (as := [.ref 441, .int (nI 0), .int (nI n)]) (rest := []) (b := 373) d_Mo_derive_51 rfl (jw_Mo_bytes.jo (by decide)) lm_Mo_76 ji_Mo_bytes js_Mo_bytes hov_10 rfl rfl rfl (Nat.le_of_ble_eq_true rfl) (by decide) (by decide) (b_Mo_bytes (at0 := 0) (n := n) p_9 p_11 (by first | omega | (simp only [List.length_append, List.length_cons, List.length_nil, List.length_replicate, sl_len, be_len, sha_len, hmac_len, ex1_len, ex2_len, stretch_len, zer8_len, tC_len, tag1_len, bnN_len, xkp_len, enc_len, chance_len, lbF_len, str2_len, pub_len', sec8_len, xSrv_len, xCli_len, xSess_len, xK_len, xP_len]; done) | (simp only [List.length_append, List.length_cons, List.length_nil, List.length_replicate, sl_len, be_len, sha_len, hmac_len, ex1_len, ex2_len, stretch_len, zer8_len, tC_len, tag1_len, bnN_len, xkp_len, enc_len, chance_len, lbF_len, str2_len, pub_len', sec8_len, xSrv_len, xCli_len, xSess_len, xK_len, xP_len]; omega)) (by decide) (by first | omega | (simp only [List.length_append, List.length_cons, List.length_nil, List.length_replicate, sl_len, be_len, sha_len, hmac_len, ex1_len, ex2_len, stretch_len, zer8_len, tC_len, tag1_len, bnN_len, xkp_len, enc_len, chance_len, lbF_len, str2_len, pub_len', sec8_len, xSrv_len, xCli_len, xSess_len, xK_len, xP_len]; done) | (simp only [List.length_append, List.length_cons, List.length_nil, List.length_replicate, sl_len, be_len, sha_len, hmac_len, ex1_len, ex2_len, stretch_len, zer8_len, tC_len, tag1_len, bnN_len, xkp_len, enc_len, chance_len, lbF_len, str2_len, pub_len', sec8_len, xSrv_len, xCli_len, xSess_len, xK_len, xP_len]; omega)) (by decide) (by decide)) (fun r M_12 hq => ?_)
  obtain ⟨rfl, p_12_0, kp_12⟩ := hq
  refine T_eq (pc' := 54) (L' := [(0, .ref 373)]) (st' := []) (M' := M_12) rfl rfl rfl rfl ?_
  refine T_aload_n (v := .ref 373) d_Mo_derive_54 rfl (Or.inr ⟨_, rfl⟩) ?_
  have p_13 := (MS.kp (ms7) kp_12 (by decide))
  obtain ⟨v_15, hov_15, hwv_15, hsv_15, hiv_15⟩ := id p_12_0
  refine T_virtual (as := []) (rest := []) (b := 373) d_Mo_derive_55 rfl (jw_Mo_hash0.jo (by decide)) lm_Mo_80 ji_Mo_hash0 js_Mo_hash0 hov_15 rfl rfl rfl (Nat.le_of_ble_eq_true rfl) (by decide) (by decide) (b_Mo_hash0 p_13 p_12_0 (by first | omega | (simp only [List.length_append, List.length_cons, List.length_nil, List.length_replicate, sl_len, be_len, sha_len, hmac_len, ex1_len, ex2_len, stretch_len, zer8_len, tC_len, tag1_len, bnN_len, xkp_len, enc_len, chance_len, lbF_len, str2_len, pub_len', sec8_len, xSrv_len, xCli_len, xSess_len, xK_len, xP_len]; done) | (simp only [List.length_append, List.length_cons, List.length_nil, List.length_replicate, sl_len, be_len, sha_len, hmac_len, ex1_len, ex2_len, stretch_len, zer8_len, tC_len, tag1_len, bnN_len, xkp_len, enc_len, chance_len, lbF_len, str2_len, pub_len', sec8_len, xSrv_len, xCli_len, xSess_len, xK_len, xP_len]; omega))) (fun r M_14 hq => ?_)
  obtain ⟨rfl, p_14_0, p_14_1, p_14_2, kp_14⟩ := hq
  refine T_eq (pc' := 58) (L' := [(0, .ref 373)]) (st' := []) (M' := M_14) rfl rfl rfl rfl ?_
  refine T_iconst (v := nI 0) d_Mo_derive_58 (by decide) ?_
  refine T_istore_n (L' := [(1, .int (nI 0)), (0, .ref 373)]) d_Mo_derive_59 (by decide) rfl ?_
  have p_16 : IA M_14 383 64 (sha Pm) := (by have g := p_14_2; rw [sl64 lP] at g; exact g)
  refine dv_60 G p_14_1 p_16 (by decide) (by first | omega | (simp only [List.length_append, List.length_cons, List.length_nil, List.length_replicate, sl_len, be_len, sha_len, hmac_len, ex1_len, ex2_len, stretch_len, zer8_len, tC_len, tag1_len, bnN_len, xkp_len, enc_len, chance_len, lbF_len, str2_len, pub_len', sec8_len, xSrv_len, xCli_len, xSess_len, xK_len, xP_len]; done) | (simp only [List.length_append, List.length_cons, List.length_nil, List.length_replicate, sl_len, be_len, sha_len, hmac_len, ex1_len, ex2_len, stretch_len, zer8_len, tC_len, tag1_len, bnN_len, xkp_len, enc_len, chance_len, lbF_len, str2_len, pub_len', sec8_len, xSrv_len, xCli_len, xSess_len, xK_len, xP_len]; omega)) (by decide) (fun Mc17 hI => ?_) 64 0 M_14 (Nat.zero_add _) ⟨by rw [sl_zero]; exact (MS.ia p_14_0 (p := 443) (n := 64) (by decide)), Kp.rf⟩
  obtain ⟨hd17, hK17⟩ := hI
  have ms17 := MS.wi p_14_0 hK17 hd17.iq (by decide) (by decide) (by decide)
  have p_18 : IA Mc17 443 64 (sha Pm) := (by have g := hd17; rw [sl64 (by first | omega | (simp only [List.length_append, List.length_cons, List.length_nil, List.length_replicate, sl_len, be_len, sha_len, hmac_len, ex1_len, ex2_len, stretch_len, zer8_len, tC_len, tag1_len, bnN_len, xkp_len, enc_len, chance_len, lbF_len, str2_len, pub_len', sec8_len, xSrv_len, xCli_len, xSess_len, xK_len, xP_len]; done) | (simp only [List.length_append, List.length_cons, List.length_nil, List.length_replicate, sl_len, be_len, sha_len, hmac_len, ex1_len, ex2_len, stretch_len, zer8_len, tC_len, tag1_len, bnN_len, xkp_len, enc_len, chance_len, lbF_len, str2_len, pub_len', sec8_len, xSrv_len, xCli_len, xSess_len, xK_len, xP_len]; omega))] at g; exact g)
  refine T_aload_n (v := .ref 373) d_Mo_derive_84 rfl (Or.inr ⟨_, rfl⟩) ?_
  refine T_bipush (v := nI 15) d_Mo_derive_85 (by decide) ?_
  have p_19 := (BG.kp (p_14_1) hK17 (by decide) (by decide))
  obtain ⟨v_21, hov_21, hwv_21, hsv_21, hiv_21⟩ := id p_19
  refine T_virtual (as := [.int (nI 15)]) (rest := []) (b := 373) d_Mo_derive_87 rfl (jw_Mo_label.jo (by decide)) lm_Mo_557 ji_Mo_label js_Mo_label hov_21 rfl rfl rfl (Nat.le_of_ble_eq_true rfl) (by decide) (by decide) (b_Mo_label (n := 15) p_19 (by first | omega | (simp only [List.length_append, List.length_cons, List.length_nil, List.length_replicate, sl_len, be_len, sha_len, hmac_len, ex1_len, ex2_len, stretch_len, zer8_len, tC_len, tag1_len, bnN_len, xkp_len, enc_len, chance_len, lbF_len, str2_len, pub_len', sec8_len, xSrv_len, xCli_len, xSess_len, xK_len, xP_len]; done) | (simp only [List.length_append, List.length_cons, List.length_nil, List.length_replicate, sl_len, be_len, sha_len, hmac_len, ex1_len, ex2_len, stretch_len, zer8_len, tC_len, tag1_len, bnN_len, xkp_len, enc_len, chance_len, lbF_len, str2_len, pub_len', sec8_len, xSrv_len, xCli_len, xSess_len, xK_len, xP_len]; omega))) (fun r M_20 hq => ?_)
  obtain ⟨rfl, p_20_0, kp_20⟩ := hq
  refine T_eq (pc' := 90) (L' := [(0, .ref 373)]) (st' := []) (M' := M_20) rfl rfl rfl rfl ?_
  refine T_aload_n (v := .ref 373) d_Mo_derive_90 rfl (Or.inr ⟨_, rfl⟩) ?_
  refine T_ldc2 d_Mo_derive_91 kJ_Mo_560 ?_
  obtain ⟨v_23, hov_23, hwv_23, hsv_23, hiv_23⟩ := id p_20_0
  refine T_virtual (as := [.long 5215571221183750507]) (rest := []) (b := 373) d_Mo_derive_94 rfl (jw_Mo_letters.jo (by decide)) lm_Mo_104 ji_Mo_letters js_Mo_letters hov_23 rfl rfl rfl (Nat.le_of_ble_eq_true rfl) (by decide) (by decide) (b_Mo_letters p_20_0 (by first | omega | (simp only [List.length_append, List.length_cons, List.length_nil, List.length_replicate, sl_len, be_len, sha_len, hmac_len, ex1_len, ex2_len, stretch_len, zer8_len, tC_len, tag1_len, bnN_len, xkp_len, enc_len, chance_len, lbF_len, str2_len, pub_len', sec8_len, xSrv_len, xCli_len, xSess_len, xK_len, xP_len]; done) | (simp only [List.length_append, List.length_cons, List.length_nil, List.length_replicate, sl_len, be_len, sha_len, hmac_len, ex1_len, ex2_len, stretch_len, zer8_len, tC_len, tag1_len, bnN_len, xkp_len, enc_len, chance_len, lbF_len, str2_len, pub_len', sec8_len, xSrv_len, xCli_len, xSess_len, xK_len, xP_len]; omega))) (fun r M_22 hq => ?_)
  obtain ⟨rfl, p_22_0, kp_22⟩ := hq
  refine T_eq (pc' := 97) (L' := [(0, .ref 373)]) (st' := []) (M' := M_22) rfl rfl rfl rfl ?_
  have p_24 : BG M_22 w ((([]) ++ ([0, 64] ++ ([u8 (nI (7 + 15))] ++ [79, 80, 65, 81, 85, 69, 45]))) ++ [72, 97, 110, 100, 115, 104, 97, 107]) := (by have g := p_22_0; rw [show lts 5215571221183750507 = [72, 97, 110, 100, 115, 104, 97, 107] from by decide +kernel] at g; exact g)
  refine T_aload_n (v := .ref 373) d_Mo_derive_97 rfl (Or.inr ⟨_, rfl⟩) ?_
  refine T_ldc2 d_Mo_derive_98 kJ_Mo_562 ?_
  obtain ⟨v_26, hov_26, hwv_26, hsv_26, hiv_26⟩ := id p_24
  refine T_virtual (as := [.long 28520667573020020]) (rest := []) (b := 373) d_Mo_derive_101 rfl (jw_Mo_letters.jo (by decide)) lm_Mo_104 ji_Mo_letters js_Mo_letters hov_26 rfl rfl rfl (Nat.le_of_ble_eq_true rfl) (by decide) (by decide) (b_Mo_letters p_24 (by first | omega | (simp only [List.length_append, List.length_cons, List.length_nil, List.length_replicate, sl_len, be_len, sha_len, hmac_len, ex1_len, ex2_len, stretch_len, zer8_len, tC_len, tag1_len, bnN_len, xkp_len, enc_len, chance_len, lbF_len, str2_len, pub_len', sec8_len, xSrv_len, xCli_len, xSess_len, xK_len, xP_len]; done) | (simp only [List.length_append, List.length_cons, List.length_nil, List.length_replicate, sl_len, be_len, sha_len, hmac_len, ex1_len, ex2_len, stretch_len, zer8_len, tC_len, tag1_len, bnN_len, xkp_len, enc_len, chance_len, lbF_len, str2_len, pub_len', sec8_len, xSrv_len, xCli_len, xSess_len, xK_len, xP_len]; omega))) (fun r M_25 hq => ?_)
  obtain ⟨rfl, p_25_0, kp_25⟩ := hq
  refine T_eq (pc' := 104) (L' := [(0, .ref 373)]) (st' := []) (M' := M_25) rfl rfl rfl rfl ?_
  have p_27 : BG M_25 w (((([]) ++ ([0, 64] ++ ([u8 (nI (7 + 15))] ++ [79, 80, 65, 81, 85, 69, 45]))) ++ [72, 97, 110, 100, 115, 104, 97, 107]) ++ [101, 83, 101, 99, 114, 101, 116]) := (by have g := p_25_0; rw [show lts 28520667573020020 = [101, 83, 101, 99, 114, 101, 116] from by decide +kernel] at g; exact g)
  refine T_aload_n (v := .ref 373) d_Mo_derive_104 rfl (Or.inr ⟨_, rfl⟩) ?_
  refine T_bipush (v := nI 64) d_Mo_derive_105 (by decide) ?_
  obtain ⟨v_29, hov_29, hwv_29, hsv_29, hiv_29⟩ := id p_27
  refine T_virtual (as := [.int (nI 64)]) (rest := []) (b := 373) d_Mo_derive_107 rfl (jw_Mo_one.jo (by decide)) lm_Mo_11 ji_Mo_one js_Mo_one hov_29 rfl rfl rfl (Nat.le_of_ble_eq_true rfl) (by decide) (by decide) (b_Mo_one (x := (nI 64)) p_27 (by first | omega | (simp only [List.length_append, List.length_cons, List.length_nil, List.length_replicate, sl_len, be_len, sha_len, hmac_len, ex1_len, ex2_len, stretch_len, zer8_len, tC_len, tag1_len, bnN_len, xkp_len, enc_len, chance_len, lbF_len, str2_len, pub_len', sec8_len, xSrv_len, xCli_len, xSess_len, xK_len, xP_len]; done) | (simp only [List.length_append, List.length_cons, List.length_nil, List.length_replicate, sl_len, be_len, sha_len, hmac_len, ex1_len, ex2_len, stretch_len, zer8_len, tC_len, tag1_len, bnN_len, xkp_len, enc_len, chance_len, lbF_len, str2_len, pub_len', sec8_len, xSrv_len, xCli_len, xSess_len, xK_len, xP_len]; omega))) (fun r M_28 hq => ?_)
  obtain ⟨rfl, p_28_0, kp_28⟩ := hq
  refine T_eq (pc' := 110) (L' := [(0, .ref 373)]) (st' := []) (M' := M_28) rfl rfl rfl rfl ?_
  refine T_aload_n (v := .ref 373) d_Mo_derive_110 rfl (Or.inr ⟨_, rfl⟩) ?_
  refine T_aload_n (v := .ref 373) d_Mo_derive_111 rfl (Or.inr ⟨_, rfl⟩) ?_
  obtain ⟨v_30, hov_30, hwv_30, hsv_30, hiv_30⟩ := id p_28_0
  refine T_getfield (v := .ref 443) d_Mo_derive_112 fg_Mo_452 hov_30 rfl ?_
  refine T_iconst (v := nI 0) d_Mo_derive_115 (by decide) ?_
  refine T_bipush (v := nI 64) d_Mo_derive_116 (by decide) ?_
  have p_31 := (IA.kp ((IA.kp ((IA.kp ((IA.kp (p_18) kp_20 (by decide))) kp_22 (by decide))) kp_25 (by decide))) kp_28 (by decide))
  refine T_virtual (as := [.ref 443, .int (nI 0), .int (nI 64)]) (rest := []) (b := 373) d_Mo_derive_118 rfl (jw_Mo_bytes.jo (by decide)) lm_Mo_76 ji_Mo_bytes js_Mo_bytes hov_30 rfl rfl rfl (Nat.le_of_ble_eq_true rfl) (by decide) (by decide) (b_Mo_bytes (at0 := 0) (n := 64) p_28_0 p_31 (by first | omega | (simp only [List.length_append, List.length_cons, List.length_nil, List.length_replicate, sl_len, be_len, sha_len, hmac_len, ex1_len, ex2_len, stretch_len, zer8_len, tC_len, tag1_len, bnN_len, xkp_len, enc_len, chance_len, lbF_len, str2_len, pub_len', sec8_len, xSrv_len, xCli_len, xSess_len, xK_len, xP_len]; done) | (simp only [List.length_append, List.length_cons, List.length_nil, List.length_replicate, sl_len, be_len, sha_len, hmac_len, ex1_len, ex2_len, stretch_len, zer8_len, tC_len, tag1_len, bnN_len, xkp_len, enc_len, chance_len, lbF_len, str2_len, pub_len', sec8_len, xSrv_len, xCli_len, xSess_len, xK_len, xP_len]; omega)) (by decide) (by first | omega | (simp only [List.length_append, List.length_cons, List.length_nil, List.length_replicate, sl_len, be_len, sha_len, hmac_len, ex1_len, ex2_len, stretch_len, zer8_len, tC_len, tag1_len, bnN_len, xkp_len, enc_len, chance_len, lbF_len, str2_len, pub_len', sec8_len, xSrv_len, xCli_len, xSess_len, xK_len, xP_len]; done) | (simp only [List.length_append, List.length_cons, List.length_nil, List.length_replicate, sl_len, be_len, sha_len, hmac_len, ex1_len, ex2_len, stretch_len, zer8_len, tC_len, tag1_len, bnN_len, xkp_len, enc_len, chance_len, lbF_len, str2_len, pub_len', sec8_len, xSrv_len, xCli_len, xSess_len, xK_len, xP_len]; omega)) (by decide) (by decide)) (fun r M_32 hq => ?_)
  obtain ⟨rfl, p_32_0, kp_32⟩ := hq
  refine T_eq (pc' := 121) (L' := [(0, .ref 373)]) (st' := []) (M' := M_32) rfl rfl rfl rfl ?_
  refine T_aload_n (v := .ref 373) d_Mo_derive_121 rfl (Or.inr ⟨_, rfl⟩) ?_
  refine T_aload_n (v := .ref 373) d_Mo_derive_122 rfl (Or.inr ⟨_, rfl⟩) ?_
  obtain ⟨v_33, hov_33, hwv_33, hsv_33, hiv_33⟩ := id p_32_0
  refine T_getfield (v := .ref 442) d_Mo_derive_123 fg_Mo_449 hov_33 rfl ?_
  refine T_iconst (v := nI 0) d_Mo_derive_126 (by decide) ?_
  refine T_bipush (v := nI 64) d_Mo_derive_127 (by decide) ?_
  have p_34 := (MS.kp ((MS.kp ((MS.kp ((MS.kp ((MS.kp (ms17) kp_20 (by decide))) kp_22 (by decide))) kp_25 (by decide))) kp_28 (by decide))) kp_32 (by decide))
  have p_35 := (IA.kp ((IA.kp ((IA.kp ((IA.kp ((IA.kp ((IA.kp ((IA.kp ((IA.kp (p_8) kp_12 (by decide))) kp_14 (by decide))) hK17 (by decide))) kp_20 (by decide))) kp_22 (by decide))) kp_25 (by decide))) kp_28 (by decide))) kp_32 (by decide))
  refine T_virtual (as := [.ref 442, .int (nI 0), .int (nI 64)]) (rest := []) (b := 373) d_Mo_derive_129 rfl (jw_Mo_expand.jo (by decide)) lm_Mo_510 ji_Mo_expand js_Mo_expand hov_33 rfl rfl rfl (Nat.le_of_ble_eq_true rfl) (by decide) (by decide) (b_Mo_expand1 (at0 := 0) (n := 64) p_34 p_32_0 p_35 (by first | omega | (simp only [List.length_append, List.length_cons, List.length_nil, List.length_replicate, sl_len, be_len, sha_len, hmac_len, ex1_len, ex2_len, stretch_len, zer8_len, tC_len, tag1_len, bnN_len, xkp_len, enc_len, chance_len, lbF_len, str2_len, pub_len', sec8_len, xSrv_len, xCli_len, xSess_len, xK_len, xP_len]; done) | (simp only [List.length_append, List.length_cons, List.length_nil, List.length_replicate, sl_len, be_len, sha_len, hmac_len, ex1_len, ex2_len, stretch_len, zer8_len, tC_len, tag1_len, bnN_len, xkp_len, enc_len, chance_len, lbF_len, str2_len, pub_len', sec8_len, xSrv_len, xCli_len, xSess_len, xK_len, xP_len]; omega)) (by decide) (by first | omega | (simp only [List.length_append, List.length_cons, List.length_nil, List.length_replicate, sl_len, be_len, sha_len, hmac_len, ex1_len, ex2_len, stretch_len, zer8_len, tC_len, tag1_len, bnN_len, xkp_len, enc_len, chance_len, lbF_len, str2_len, pub_len', sec8_len, xSrv_len, xCli_len, xSess_len, xK_len, xP_len]; done) | (simp only [List.length_append, List.length_cons, List.length_nil, List.length_replicate, sl_len, be_len, sha_len, hmac_len, ex1_len, ex2_len, stretch_len, zer8_len, tC_len, tag1_len, bnN_len, xkp_len, enc_len, chance_len, lbF_len, str2_len, pub_len', sec8_len, xSrv_len, xCli_len, xSess_len, xK_len, xP_len]; omega)) (by decide) (by decide)) (fun r M_36 hq => ?_)
  obtain ⟨rfl, p_36_0, p_36_1, p_36_2, kp_36⟩ := hq
  refine T_eq (pc' := 132) (L' := [(0, .ref 373)]) (st' := []) (M' := M_36) rfl rfl rfl rfl ?_
  refine T_iconst (v := nI 0) d_Mo_derive_132 (by decide) ?_
  refine T_istore_n (L' := [(1, .int (nI 0)), (0, .ref 373)]) d_Mo_derive_133 (by decide) rfl ?_
  have p_37 : IA M_36 388 192 (xK J Pm) := (by have g := p_36_2; rw [sl64 (xP_len _), sl64 (sha_len _)] at g; rw [xK_e]; exact g)
  refine dv_134 G p_36_1 p_37 (by decide) (by first | omega | (simp only [List.length_append, List.length_cons, List.length_nil, List.length_replicate, sl_len, be_len, sha_len, hmac_len, ex1_len, ex2_len, stretch_len, zer8_len, tC_len, tag1_len, bnN_len, xkp_len, enc_len, chance_len, lbF_len, str2_len, pub_len', sec8_len, xSrv_len, xCli_len, xSess_len, xK_len, xP_len]; done) | (simp only [List.length_append, List.length_cons, List.length_nil, List.length_replicate, sl_len, be_len, sha_len, hmac_len, ex1_len, ex2_len, stretch_len, zer8_len, tC_len, tag1_len, bnN_len, xkp_len, enc_len, chance_len, lbF_len, str2_len, pub_len', sec8_len, xSrv_len, xCli_len, xSess_len, xK_len, xP_len]; omega)) (by decide) (fun Mc38 hI => ?_) 64 0 M_36 (Nat.zero_add _) ⟨by rw [sl_zero]; exact (MS.ia p_36_0 (p := 444) (n := 64) (by decide)), Kp.rf⟩
  obtain ⟨hd38, hK38⟩ := hI
  have ms38 := MS.wi p_36_0 hK38 hd38.iq (by decide) (by decide) (by decide)
  have p_39 : IA Mc38 444 64 (xK J Pm) := (by have g := hd38; rw [sl64 (by first | omega | (simp only [List.length_append, List.length_cons, List.length_nil, List.length_replicate, sl_len, be_len, sha_len, hmac_len, ex1_len, ex2_len, stretch_len, zer8_len, tC_len, tag1_len, bnN_len, xkp_len, enc_len, chance_len, lbF_len, str2_len, pub_len', sec8_len, xSrv_len, xCli_len, xSess_len, xK_len, xP_len]; done) | (simp only [List.length_append, List.length_cons, List.length_nil, List.length_replicate, sl_len, be_len, sha_len, hmac_len, ex1_len, ex2_len, stretch_len, zer8_len, tC_len, tag1_len, bnN_len, xkp_len, enc_len, chance_len, lbF_len, str2_len, pub_len', sec8_len, xSrv_len, xCli_len, xSess_len, xK_len, xP_len]; omega))] at g; exact g)
  refine T_aload_n (v := .ref 373) d_Mo_derive_158 rfl (Or.inr ⟨_, rfl⟩) ?_
  refine T_bipush (v := nI 10) d_Mo_derive_159 (by decide) ?_
  have p_40 := (BG.kp (p_36_1) hK38 (by decide) (by decide))
  obtain ⟨v_42, hov_42, hwv_42, hsv_42, hiv_42⟩ := id p_40
  refine T_virtual (as := [.int (nI 10)]) (rest := []) (b := 373) d_Mo_derive_161 rfl (jw_Mo_label.jo (by decide)) lm_Mo_557 ji_Mo_label js_Mo_label hov_42 rfl rfl rfl (Nat.le_of_ble_eq_true rfl) (by decide) (by decide) (b_Mo_label (n := 10) p_40 (by first | omega | (simp only [List.length_append, List.length_cons, List.length_nil, List.length_replicate, sl_len, be_len, sha_len, hmac_len, ex1_len, ex2_len, stretch_len, zer8_len, tC_len, tag1_len, bnN_len, xkp_len, enc_len, chance_len, lbF_len, str2_len, pub_len', sec8_len, xSrv_len, xCli_len, xSess_len, xK_len, xP_len]; done) | (simp only [List.length_append, List.length_cons, List.length_nil, List.length_replicate, sl_len, be_len, sha_len, hmac_len, ex1_len, ex2_len, stretch_len, zer8_len, tC_len, tag1_len, bnN_len, xkp_len, enc_len, chance_len, lbF_len, str2_len, pub_len', sec8_len, xSrv_len, xCli_len, xSess_len, xK_len, xP_len]; omega))) (fun r M_41 hq => ?_)
  obtain ⟨rfl, p_41_0, kp_41⟩ := hq
  refine T_eq (pc' := 164) (L' := [(0, .ref 373)]) (st' := []) (M' := M_41) rfl rfl rfl rfl ?_
  refine T_aload_n (v := .ref 373) d_Mo_derive_164 rfl (Or.inr ⟨_, rfl⟩) ?_
  refine T_ldc2 d_Mo_derive_165 kJ_Mo_564 ?_
  obtain ⟨v_44, hov_44, hwv_44, hsv_44, hiv_44⟩ := id p_41_0
  refine T_virtual (as := [.long 6009336217323138635]) (rest := []) (b := 373) d_Mo_derive_168 rfl (jw_Mo_letters.jo (by decide)) lm_Mo_104 ji_Mo_letters js_Mo_letters hov_44 rfl rfl rfl (Nat.le_of_ble_eq_true rfl) (by decide) (by decide) (b_Mo_letters p_41_0 (by first | omega | (simp only [List.length_append, List.length_cons, List.length_nil, List.length_replicate, sl_len, be_len, sha_len, hmac_len, ex1_len, ex2_len, stretch_len, zer8_len, tC_len, tag1_len, bnN_len, xkp_len, enc_len, chance_len, lbF_len, str2_len, pub_len', sec8_len, xSrv_len, xCli_len, xSess_len, xK_len, xP_len]; done) | (simp only [List.length_append, List.length_cons, List.length_nil, List.length_replicate, sl_len, be_len, sha_len, hmac_len, ex1_len, ex2_len, stretch_len, zer8_len, tC_len, tag1_len, bnN_len, xkp_len, enc_len, chance_len, lbF_len, str2_len, pub_len', sec8_len, xSrv_len, xCli_len, xSess_len, xK_len, xP_len]; omega))) (fun r M_43 hq => ?_)
  obtain ⟨rfl, p_43_0, kp_43⟩ := hq
  refine T_eq (pc' := 171) (L' := [(0, .ref 373)]) (st' := []) (M' := M_43) rfl rfl rfl rfl ?_
  have p_45 : BG M_43 w ((([]) ++ ([0, 64] ++ ([u8 (nI (7 + 10))] ++ [79, 80, 65, 81, 85, 69, 45]))) ++ [83, 101, 115, 115, 105, 111, 110, 75]) := (by have g := p_43_0; rw [show lts 6009336217323138635 = [83, 101, 115, 115, 105, 111, 110, 75] from by decide +kernel] at g; exact g)
  refine T_aload_n (v := .ref 373) d_Mo_derive_171 rfl (Or.inr ⟨_, rfl⟩) ?_
  refine T_ldc2 d_Mo_derive_172 kJ_Mo_520 ?_
  obtain ⟨v_47, hov_47, hwv_47, hsv_47, hiv_47⟩ := id p_45
  refine T_virtual (as := [.long 25977]) (rest := []) (b := 373) d_Mo_derive_175 rfl (jw_Mo_letters.jo (by decide)) lm_Mo_104 ji_Mo_letters js_Mo_letters hov_47 rfl rfl rfl (Nat.le_of_ble_eq_true rfl) (by decide) (by decide) (b_Mo_letters p_45 (by first | omega | (simp only [List.length_append, List.length_cons, List.length_nil, List.length_replicate, sl_len, be_len, sha_len, hmac_len, ex1_len, ex2_len, stretch_len, zer8_len, tC_len, tag1_len, bnN_len, xkp_len, enc_len, chance_len, lbF_len, str2_len, pub_len', sec8_len, xSrv_len, xCli_len, xSess_len, xK_len, xP_len]; done) | (simp only [List.length_append, List.length_cons, List.length_nil, List.length_replicate, sl_len, be_len, sha_len, hmac_len, ex1_len, ex2_len, stretch_len, zer8_len, tC_len, tag1_len, bnN_len, xkp_len, enc_len, chance_len, lbF_len, str2_len, pub_len', sec8_len, xSrv_len, xCli_len, xSess_len, xK_len, xP_len]; omega))) (fun r M_46 hq => ?_)
  obtain ⟨rfl, p_46_0, kp_46⟩ := hq
  refine T_eq (pc' := 178) (L' := [(0, .ref 373)]) (st' := []) (M' := M_46) rfl rfl rfl rfl ?_
  have p_48 : BG M_46 w (((([]) ++ ([0, 64] ++ ([u8 (nI (7 + 10))] ++ [79, 80, 65, 81, 85, 69, 45]))) ++ [83, 101, 115, 115, 105, 111, 110, 75]) ++ [101, 121]) := (by have g := p_46_0; rw [show lts 25977 = [101, 121] from by decide +kernel] at g; exact g)
  refine T_aload_n (v := .ref 373) d_Mo_derive_178 rfl (Or.inr ⟨_, rfl⟩) ?_
  refine T_bipush (v := nI 64) d_Mo_derive_179 (by decide) ?_
  obtain ⟨v_50, hov_50, hwv_50, hsv_50, hiv_50⟩ := id p_48
  refine T_virtual (as := [.int (nI 64)]) (rest := []) (b := 373) d_Mo_derive_181 rfl (jw_Mo_one.jo (by decide)) lm_Mo_11 ji_Mo_one js_Mo_one hov_50 rfl rfl rfl (Nat.le_of_ble_eq_true rfl) (by decide) (by decide) (b_Mo_one (x := (nI 64)) p_48 (by first | omega | (simp only [List.length_append, List.length_cons, List.length_nil, List.length_replicate, sl_len, be_len, sha_len, hmac_len, ex1_len, ex2_len, stretch_len, zer8_len, tC_len, tag1_len, bnN_len, xkp_len, enc_len, chance_len, lbF_len, str2_len, pub_len', sec8_len, xSrv_len, xCli_len, xSess_len, xK_len, xP_len]; done) | (simp only [List.length_append, List.length_cons, List.length_nil, List.length_replicate, sl_len, be_len, sha_len, hmac_len, ex1_len, ex2_len, stretch_len, zer8_len, tC_len, tag1_len, bnN_len, xkp_len, enc_len, chance_len, lbF_len, str2_len, pub_len', sec8_len, xSrv_len, xCli_len, xSess_len, xK_len, xP_len]; omega))) (fun r M_49 hq => ?_)
  obtain ⟨rfl, p_49_0, kp_49⟩ := hq
  refine T_eq (pc' := 184) (L' := [(0, .ref 373)]) (st' := []) (M' := M_49) rfl rfl rfl rfl ?_
  refine T_aload_n (v := .ref 373) d_Mo_derive_184 rfl (Or.inr ⟨_, rfl⟩) ?_
  refine T_aload_n (v := .ref 373) d_Mo_derive_185 rfl (Or.inr ⟨_, rfl⟩) ?_
  obtain ⟨v_51, hov_51, hwv_51, hsv_51, hiv_51⟩ := id p_49_0
  refine T_getfield (v := .ref 443) d_Mo_derive_186 fg_Mo_452 hov_51 rfl ?_
  refine T_iconst (v := nI 0) d_Mo_derive_189 (by decide) ?_
  refine T_bipush (v := nI 64) d_Mo_derive_190 (by decide) ?_
  have p_52 := (IA.kp ((IA.kp ((IA.kp ((IA.kp ((IA.kp ((IA.kp ((IA.kp (p_31) kp_32 (by decide))) kp_36 (by decide))) hK38 (by decide))) kp_41 (by decide))) kp_43 (by decide))) kp_46 (by decide))) kp_49 (by decide))
  refine T_virtual (as := [.ref 443, .int (nI 0), .int (nI 64)]) (rest := []) (b := 373) d_Mo_derive_192 rfl (jw_Mo_bytes.jo (by decide)) lm_Mo_76 ji_Mo_bytes js_Mo_bytes hov_51 rfl rfl rfl (Nat.le_of_ble_eq_true rfl) (by decide) (by decide) (b_Mo_bytes (at0 := 0) (n := 64) p_49_0 p_52 (by first | omega | (simp only [List.length_append, List.length_cons, List.length_nil, List.length_replicate, sl_len, be_len, sha_len, hmac_len, ex1_len, ex2_len, stretch_len, zer8_len, tC_len, tag1_len, bnN_len, xkp_len, enc_len, chance_len, lbF_len, str2_len, pub_len', sec8_len, xSrv_len, xCli_len, xSess_len, xK_len, xP_len]; done) | (simp only [List.length_append, List.length_cons, List.length_nil, List.length_replicate, sl_len, be_len, sha_len, hmac_len, ex1_len, ex2_len, stretch_len, zer8_len, tC_len, tag1_len, bnN_len, xkp_len, enc_len, chance_len, lbF_len, str2_len, pub_len', sec8_len, xSrv_len, xCli_len, xSess_len, xK_len, xP_len]; omega)) (by decide) (by first | omega | (simp only [List.length_append, List.length_cons, List.length_nil, List.length_replicate, sl_len, be_len, sha_len, hmac_len, ex1_len, ex2_len, stretch_len, zer8_len, tC_len, tag1_len, bnN_len, xkp_len, enc_len, chance_len, lbF_len, str2_len, pub_len', sec8_len, xSrv_len, xCli_len, xSess_len, xK_len, xP_len]; done) | (simp only [List.length_append, List.length_cons, List.length_nil, List.length_replicate, sl_len, be_len, sha_len, hmac_len, ex1_len, ex2_len, stretch_len, zer8_len, tC_len, tag1_len, bnN_len, xkp_len, enc_len, chance_len, lbF_len, str2_len, pub_len', sec8_len, xSrv_len, xCli_len, xSess_len, xK_len, xP_len]; omega)) (by decide) (by decide)) (fun r M_53 hq => ?_)
  obtain ⟨rfl, p_53_0, kp_53⟩ := hq
  refine T_eq (pc' := 195) (L' := [(0, .ref 373)]) (st' := []) (M' := M_53) rfl rfl rfl rfl ?_
  refine T_aload_n (v := .ref 373) d_Mo_derive_195 rfl (Or.inr ⟨_, rfl⟩) ?_
  refine T_aload_n (v := .ref 373) d_Mo_derive_196 rfl (Or.inr ⟨_, rfl⟩) ?_
  obtain ⟨v_54, hov_54, hwv_54, hsv_54, hiv_54⟩ := id p_53_0
  refine T_getfield (v := .ref 442) d_Mo_derive_197 fg_Mo_449 hov_54 rfl ?_
  refine T_iconst (v := nI 0) d_Mo_derive_200 (by decide) ?_
  refine T_bipush (v := nI 64) d_Mo_derive_201 (by decide) ?_
  have p_55 := (MS.kp ((MS.kp ((MS.kp ((MS.kp ((MS.kp (ms38) kp_41 (by decide))) kp_43 (by decide))) kp_46 (by decide))) kp_49 (by decide))) kp_53 (by decide))
  have p_56 := (IA.kp ((IA.kp ((IA.kp ((IA.kp ((IA.kp ((IA.kp ((IA.kp (p_35) kp_36 (by decide))) hK38 (by decide))) kp_41 (by decide))) kp_43 (by decide))) kp_46 (by decide))) kp_49 (by decide))) kp_53 (by decide))
  refine T_virtual (as := [.ref 442, .int (nI 0), .int (nI 64)]) (rest := []) (b := 373) d_Mo_derive_203 rfl (jw_Mo_expand.jo (by decide)) lm_Mo_510 ji_Mo_expand js_Mo_expand hov_54 rfl rfl rfl (Nat.le_of_ble_eq_true rfl) (by decide) (by decide) (b_Mo_expand1 (at0 := 0) (n := 64) p_55 p_53_0 p_56 (by first | omega | (simp only [List.length_append, List.length_cons, List.length_nil, List.length_replicate, sl_len, be_len, sha_len, hmac_len, ex1_len, ex2_len, stretch_len, zer8_len, tC_len, tag1_len, bnN_len, xkp_len, enc_len, chance_len, lbF_len, str2_len, pub_len', sec8_len, xSrv_len, xCli_len, xSess_len, xK_len, xP_len]; done) | (simp only [List.length_append, List.length_cons, List.length_nil, List.length_replicate, sl_len, be_len, sha_len, hmac_len, ex1_len, ex2_len, stretch_len, zer8_len, tC_len, tag1_len, bnN_len, xkp_len, enc_len, chance_len, lbF_len, str2_len, pub_len', sec8_len, xSrv_len, xCli_len, xSess_len, xK_len, xP_len]; omega)) (by decide) (by first | omega | (simp only [List.length_append, List.length_cons, List.length_nil, List.length_replicate, sl_len, be_len, sha_len, hmac_len, ex1_len, ex2_len, stretch_len, zer8_len, tC_len, tag1_len, bnN_len, xkp_len, enc_len, chance_len, lbF_len, str2_len, pub_len', sec8_len, xSrv_len, xCli_len, xSess_len, xK_len, xP_len]; done) | (simp only [List.length_append, List.length_cons, List.length_nil, List.length_replicate, sl_len, be_len, sha_len, hmac_len, ex1_len, ex2_len, stretch_len, zer8_len, tC_len, tag1_len, bnN_len, xkp_len, enc_len, chance_len, lbF_len, str2_len, pub_len', sec8_len, xSrv_len, xCli_len, xSess_len, xK_len, xP_len]; omega)) (by decide) (by decide)) (fun r M_57 hq => ?_)
  obtain ⟨rfl, p_57_0, p_57_1, p_57_2, kp_57⟩ := hq
  refine T_eq (pc' := 206) (L' := [(0, .ref 373)]) (st' := []) (M' := M_57) rfl rfl rfl rfl ?_
  refine T_iconst (v := nI 0) d_Mo_derive_206 (by decide) ?_
  refine T_istore_n (L' := [(1, .int (nI 0)), (0, .ref 373)]) d_Mo_derive_207 (by decide) rfl ?_
  have p_58 : IA M_57 388 192 (xSess J Pm) := (by have g := p_57_2; rw [sl64 (xP_len _), sl64 (sha_len _)] at g; rw [xSess_e]; exact g)
  refine dv_208 G p_57_1 p_58 (by decide) (by first | omega | (simp only [List.length_append, List.length_cons, List.length_nil, List.length_replicate, sl_len, be_len, sha_len, hmac_len, ex1_len, ex2_len, stretch_len, zer8_len, tC_len, tag1_len, bnN_len, xkp_len, enc_len, chance_len, lbF_len, str2_len, pub_len', sec8_len, xSrv_len, xCli_len, xSess_len, xK_len, xP_len]; done) | (simp only [List.length_append, List.length_cons, List.length_nil, List.length_replicate, sl_len, be_len, sha_len, hmac_len, ex1_len, ex2_len, stretch_len, zer8_len, tC_len, tag1_len, bnN_len, xkp_len, enc_len, chance_len, lbF_len, str2_len, pub_len', sec8_len, xSrv_len, xCli_len, xSess_len, xK_len, xP_len]; omega)) (by decide) (fun Mc59 hI => ?_) 64 0 M_57 (Nat.zero_add _) ⟨by rw [sl_zero]; exact (MS.ia p_57_0 (p := 447) (n := 64) (by decide)), Kp.rf⟩
  obtain ⟨hd59, hK59⟩ := hI
  have ms59 := MS.wi p_57_0 hK59 hd59.iq (by decide) (by decide) (by decide)
  have p_60 : IA Mc59 447 64 (xSess J Pm) := (by have g := hd59; rw [sl64 (by first | omega | (simp only [List.length_append, List.length_cons, List.length_nil, List.length_replicate, sl_len, be_len, sha_len, hmac_len, ex1_len, ex2_len, stretch_len, zer8_len, tC_len, tag1_len, bnN_len, xkp_len, enc_len, chance_len, lbF_len, str2_len, pub_len', sec8_len, xSrv_len, xCli_len, xSess_len, xK_len, xP_len]; done) | (simp only [List.length_append, List.length_cons, List.length_nil, List.length_replicate, sl_len, be_len, sha_len, hmac_len, ex1_len, ex2_len, stretch_len, zer8_len, tC_len, tag1_len, bnN_len, xkp_len, enc_len, chance_len, lbF_len, str2_len, pub_len', sec8_len, xSrv_len, xCli_len, xSess_len, xK_len, xP_len]; omega))] at g; exact g)
  refine T_aload_n (v := .ref 373) d_Mo_derive_232 rfl (Or.inr ⟨_, rfl⟩) ?_
  refine T_bipush (v := nI 9) d_Mo_derive_233 (by decide) ?_
  have p_61 := (BG.kp (p_57_1) hK59 (by decide) (by decide))
  obtain ⟨v_63, hov_63, hwv_63, hsv_63, hiv_63⟩ := id p_61
  refine T_virtual (as := [.int (nI 9)]) (rest := []) (b := 373) d_Mo_derive_235 rfl (jw_Mo_label.jo (by decide)) lm_Mo_557 ji_Mo_label js_Mo_label hov_63 rfl rfl rfl (Nat.le_of_ble_eq_true rfl) (by decide) (by decide) (b_Mo_label (n := 9) p_61 (by first | omega | (simp only [List.length_append, List.length_cons, List.length_nil, List.length_replicate, sl_len, be_len, sha_len, hmac_len, ex1_len, ex2_len, stretch_len, zer8_len, tC_len, tag1_len, bnN_len, xkp_len, enc_len, chance_len, lbF_len, str2_len, pub_len', sec8_len, xSrv_len, xCli_len, xSess_len, xK_len, xP_len]; done) | (simp only [List.length_append, List.length_cons, List.length_nil, List.length_replicate, sl_len, be_len, sha_len, hmac_len, ex1_len, ex2_len, stretch_len, zer8_len, tC_len, tag1_len, bnN_len, xkp_len, enc_len, chance_len, lbF_len, str2_len, pub_len', sec8_len, xSrv_len, xCli_len, xSess_len, xK_len, xP_len]; omega))) (fun r M_62 hq => ?_)
  obtain ⟨rfl, p_62_0, kp_62⟩ := hq
  refine T_eq (pc' := 238) (L' := [(0, .ref 373)]) (st' := []) (M' := M_62) rfl rfl rfl rfl ?_
  refine T_aload_n (v := .ref 373) d_Mo_derive_238 rfl (Or.inr ⟨_, rfl⟩) ?_
  refine T_ldc2 d_Mo_derive_239 kJ_Mo_566 ?_
  obtain ⟨v_65, hov_65, hwv_65, hsv_65, hiv_65⟩ := id p_62_0
  refine T_virtual (as := [.long 6009335130629492033]) (rest := []) (b := 373) d_Mo_derive_242 rfl (jw_Mo_letters.jo (by decide)) lm_Mo_104 ji_Mo_letters js_Mo_letters hov_65 rfl rfl rfl (Nat.le_of_ble_eq_true rfl) (by decide) (by decide) (b_Mo_letters p_62_0 (by first | omega | (simp only [List.length_append, List.length_cons, List.length_nil, List.length_replicate, sl_len, be_len, sha_len, hmac_len, ex1_len, ex2_len, stretch_len, zer8_len, tC_len, tag1_len, bnN_len, xkp_len, enc_len, chance_len, lbF_len, str2_len, pub_len', sec8_len, xSrv_len, xCli_len, xSess_len, xK_len, xP_len]; done) | (simp only [List.length_append, List.length_cons, List.length_nil, List.length_replicate, sl_len, be_len, sha_len, hmac_len, ex1_len, ex2_len, stretch_len, zer8_len, tC_len, tag1_len, bnN_len, xkp_len, enc_len, chance_len, lbF_len, str2_len, pub_len', sec8_len, xSrv_len, xCli_len, xSess_len, xK_len, xP_len]; omega))) (fun r M_64 hq => ?_)
  obtain ⟨rfl, p_64_0, kp_64⟩ := hq
  refine T_eq (pc' := 245) (L' := [(0, .ref 373)]) (st' := []) (M' := M_64) rfl rfl rfl rfl ?_
  have p_66 : BG M_64 w ((([]) ++ ([0, 64] ++ ([u8 (nI (7 + 9))] ++ [79, 80, 65, 81, 85, 69, 45]))) ++ [83, 101, 114, 118, 101, 114, 77, 65]) := (by have g := p_64_0; rw [show lts 6009335130629492033 = [83, 101, 114, 118, 101, 114, 77, 65] from by decide +kernel] at g; exact g)
  refine T_aload_n (v := .ref 373) d_Mo_derive_245 rfl (Or.inr ⟨_, rfl⟩) ?_
  refine T_ldc2 d_Mo_derive_246 kJ_Mo_568 ?_
  obtain ⟨v_68, hov_68, hwv_68, hsv_68, hiv_68⟩ := id p_66
  refine T_virtual (as := [.long 67]) (rest := []) (b := 373) d_Mo_derive_249 rfl (jw_Mo_letters.jo (by decide)) lm_Mo_104 ji_Mo_letters js_Mo_letters hov_68 rfl rfl rfl (Nat.le_of_ble_eq_true rfl) (by decide) (by decide) (b_Mo_letters p_66 (by first | omega | (simp only [List.length_append, List.length_cons, List.length_nil, List.length_replicate, sl_len, be_len, sha_len, hmac_len, ex1_len, ex2_len, stretch_len, zer8_len, tC_len, tag1_len, bnN_len, xkp_len, enc_len, chance_len, lbF_len, str2_len, pub_len', sec8_len, xSrv_len, xCli_len, xSess_len, xK_len, xP_len]; done) | (simp only [List.length_append, List.length_cons, List.length_nil, List.length_replicate, sl_len, be_len, sha_len, hmac_len, ex1_len, ex2_len, stretch_len, zer8_len, tC_len, tag1_len, bnN_len, xkp_len, enc_len, chance_len, lbF_len, str2_len, pub_len', sec8_len, xSrv_len, xCli_len, xSess_len, xK_len, xP_len]; omega))) (fun r M_67 hq => ?_)
  obtain ⟨rfl, p_67_0, kp_67⟩ := hq
  refine T_eq (pc' := 252) (L' := [(0, .ref 373)]) (st' := []) (M' := M_67) rfl rfl rfl rfl ?_
  have p_69 : BG M_67 w (((([]) ++ ([0, 64] ++ ([u8 (nI (7 + 9))] ++ [79, 80, 65, 81, 85, 69, 45]))) ++ [83, 101, 114, 118, 101, 114, 77, 65]) ++ [67]) := (by have g := p_67_0; rw [show lts 67 = [67] from by decide +kernel] at g; exact g)
  refine T_aload_n (v := .ref 373) d_Mo_derive_252 rfl (Or.inr ⟨_, rfl⟩) ?_
  refine T_iconst (v := nI 0) d_Mo_derive_253 (by decide) ?_
  obtain ⟨v_71, hov_71, hwv_71, hsv_71, hiv_71⟩ := id p_69
  refine T_virtual (as := [.int (nI 0)]) (rest := []) (b := 373) d_Mo_derive_254 rfl (jw_Mo_one.jo (by decide)) lm_Mo_11 ji_Mo_one js_Mo_one hov_71 rfl rfl rfl (Nat.le_of_ble_eq_true rfl) (by decide) (by decide) (b_Mo_one (x := (nI 0)) p_69 (by first | omega | (simp only [List.length_append, List.length_cons, List.length_nil, List.length_replicate, sl_len, be_len, sha_len, hmac_len, ex1_len, ex2_len, stretch_len, zer8_len, tC_len, tag1_len, bnN_len, xkp_len, enc_len, chance_len, lbF_len, str2_len, pub_len', sec8_len, xSrv_len, xCli_len, xSess_len, xK_len, xP_len]; done) | (simp only [List.length_append, List.length_cons, List.length_nil, List.length_replicate, sl_len, be_len, sha_len, hmac_len, ex1_len, ex2_len, stretch_len, zer8_len, tC_len, tag1_len, bnN_len, xkp_len, enc_len, chance_len, lbF_len, str2_len, pub_len', sec8_len, xSrv_len, xCli_len, xSess_len, xK_len, xP_len]; omega))) (fun r M_70 hq => ?_)
  obtain ⟨rfl, p_70_0, kp_70⟩ := hq
  refine T_eq (pc' := 257) (L' := [(0, .ref 373)]) (st' := []) (M' := M_70) rfl rfl rfl rfl ?_
  refine T_aload_n (v := .ref 373) d_Mo_derive_257 rfl (Or.inr ⟨_, rfl⟩) ?_
  refine T_aload_n (v := .ref 373) d_Mo_derive_258 rfl (Or.inr ⟨_, rfl⟩) ?_
  obtain ⟨v_72, hov_72, hwv_72, hsv_72, hiv_72⟩ := id p_70_0
  refine T_getfield (v := .ref 444) d_Mo_derive_259 fg_Mo_455 hov_72 rfl ?_
  refine T_iconst (v := nI 0) d_Mo_derive_262 (by decide) ?_
  refine T_bipush (v := nI 64) d_Mo_derive_263 (by decide) ?_
  have p_73 := (MS.kp ((MS.kp ((MS.kp ((MS.kp (ms59) kp_62 (by decide))) kp_64 (by decide))) kp_67 (by decide))) kp_70 (by decide))
  have p_74 := (IA.kp ((IA.kp ((IA.kp ((IA.kp ((IA.kp ((IA.kp ((IA.kp ((IA.kp ((IA.kp ((IA.kp ((IA.kp (p_39) kp_41 (by decide))) kp_43 (by decide))) kp_46 (by decide))) kp_49 (by decide))) kp_53 (by decide))) kp_57 (by decide))) hK59 (by decide))) kp_62 (by decide))) kp_64 (by decide))) kp_67 (by decide))) kp_70 (by decide))
  refine T_virtual (as := [.ref 444, .int (nI 0), .int (nI 64)]) (rest := []) (b := 373) d_Mo_derive_265 rfl (jw_Mo_expand.jo (by decide)) lm_Mo_510 ji_Mo_expand js_Mo_expand hov_72 rfl rfl rfl (Nat.le_of_ble_eq_true rfl) (by decide) (by decide) (b_Mo_expand1 (at0 := 0) (n := 64) p_73 p_70_0 p_74 (by first | omega | (simp only [List.length_append, List.length_cons, List.length_nil, List.length_replicate, sl_len, be_len, sha_len, hmac_len, ex1_len, ex2_len, stretch_len, zer8_len, tC_len, tag1_len, bnN_len, xkp_len, enc_len, chance_len, lbF_len, str2_len, pub_len', sec8_len, xSrv_len, xCli_len, xSess_len, xK_len, xP_len]; done) | (simp only [List.length_append, List.length_cons, List.length_nil, List.length_replicate, sl_len, be_len, sha_len, hmac_len, ex1_len, ex2_len, stretch_len, zer8_len, tC_len, tag1_len, bnN_len, xkp_len, enc_len, chance_len, lbF_len, str2_len, pub_len', sec8_len, xSrv_len, xCli_len, xSess_len, xK_len, xP_len]; omega)) (by decide) (by first | omega | (simp only [List.length_append, List.length_cons, List.length_nil, List.length_replicate, sl_len, be_len, sha_len, hmac_len, ex1_len, ex2_len, stretch_len, zer8_len, tC_len, tag1_len, bnN_len, xkp_len, enc_len, chance_len, lbF_len, str2_len, pub_len', sec8_len, xSrv_len, xCli_len, xSess_len, xK_len, xP_len]; done) | (simp only [List.length_append, List.length_cons, List.length_nil, List.length_replicate, sl_len, be_len, sha_len, hmac_len, ex1_len, ex2_len, stretch_len, zer8_len, tC_len, tag1_len, bnN_len, xkp_len, enc_len, chance_len, lbF_len, str2_len, pub_len', sec8_len, xSrv_len, xCli_len, xSess_len, xK_len, xP_len]; omega)) (by decide) (by decide)) (fun r M_75 hq => ?_)
  obtain ⟨rfl, p_75_0, p_75_1, p_75_2, kp_75⟩ := hq
  refine T_eq (pc' := 268) (L' := [(0, .ref 373)]) (st' := []) (M' := M_75) rfl rfl rfl rfl ?_
  refine T_iconst (v := nI 0) d_Mo_derive_268 (by decide) ?_
  refine T_istore_n (L' := [(1, .int (nI 0)), (0, .ref 373)]) d_Mo_derive_269 (by decide) rfl ?_
  have p_76 : IA M_75 388 192 (ex1 (xK J Pm) (lab W20 [])) := (by have g := p_75_2; rw [sl64 (xK_len _ _)] at g; rw [lab_20]; simp only [List.append_assoc, List.nil_append, List.cons_append] at g ⊢; exact g)
  refine dv_270 G p_75_1 p_76 (by decide) (by first | omega | (simp only [List.length_append, List.length_cons, List.length_nil, List.length_replicate, sl_len, be_len, sha_len, hmac_len, ex1_len, ex2_len, stretch_len, zer8_len, tC_len, tag1_len, bnN_len, xkp_len, enc_len, chance_len, lbF_len, str2_len, pub_len', sec8_len, xSrv_len, xCli_len, xSess_len, xK_len, xP_len]; done) | (simp only [List.length_append, List.length_cons, List.length_nil, List.length_replicate, sl_len, be_len, sha_len, hmac_len, ex1_len, ex2_len, stretch_len, zer8_len, tC_len, tag1_len, bnN_len, xkp_len, enc_len, chance_len, lbF_len, str2_len, pub_len', sec8_len, xSrv_len, xCli_len, xSess_len, xK_len, xP_len]; omega)) (by decide) (fun Mc77 hI => ?_) 64 0 M_75 (Nat.zero_add _) ⟨by rw [sl_zero]; exact (MS.ia p_75_0 (p := 408) (n := 400) (by decide)), Kp.rf⟩
  obtain ⟨hd77, hK77⟩ := hI
  have ms77 := MS.wi p_75_0 hK77 hd77.iq (by decide) (by decide) (by decide)
  have p_78 : IA Mc77 408 400 (ex1 (xK J Pm) (lab W20 [])) := (by have g := hd77; rw [sl64 (by first | omega | (simp only [List.length_append, List.length_cons, List.length_nil, List.length_replicate, sl_len, be_len, sha_len, hmac_len, ex1_len, ex2_len, stretch_len, zer8_len, tC_len, tag1_len, bnN_len, xkp_len, enc_len, chance_len, lbF_len, str2_len, pub_len', sec8_len, xSrv_len, xCli_len, xSess_len, xK_len, xP_len]; done) | (simp only [List.length_append, List.length_cons, List.length_nil, List.length_replicate, sl_len, be_len, sha_len, hmac_len, ex1_len, ex2_len, stretch_len, zer8_len, tC_len, tag1_len, bnN_len, xkp_len, enc_len, chance_len, lbF_len, str2_len, pub_len', sec8_len, xSrv_len, xCli_len, xSess_len, xK_len, xP_len]; omega))] at g; exact g)
  refine T_aload_n (v := .ref 373) d_Mo_derive_294 rfl (Or.inr ⟨_, rfl⟩) ?_
  refine T_aload_n (v := .ref 373) d_Mo_derive_295 rfl (Or.inr ⟨_, rfl⟩) ?_
  have p_79 := (BG.kp (p_75_1) hK77 (by decide) (by decide))
  obtain ⟨v_80, hov_80, hwv_80, hsv_80, hiv_80⟩ := id p_79
  refine T_getfield (v := .ref 443) d_Mo_derive_296 fg_Mo_452 hov_80 rfl ?_
  refine T_iconst (v := nI 0) d_Mo_derive_299 (by decide) ?_
  refine T_bipush (v := nI 64) d_Mo_derive_300 (by decide) ?_
  have p_81 := (IA.kp ((IA.kp ((IA.kp ((IA.kp ((IA.kp ((IA.kp ((IA.kp ((IA.kp ((IA.kp (p_52) kp_53 (by decide))) kp_57 (by decide))) hK59 (by decide))) kp_62 (by decide))) kp_64 (by decide))) kp_67 (by decide))) kp_70 (by decide))) kp_75 (by decide))) hK77 (by decide))
  refine T_virtual (as := [.ref 443, .int (nI 0), .int (nI 64)]) (rest := []) (b := 373) d_Mo_derive_302 rfl (jw_Mo_bytes.jo (by decide)) lm_Mo_76 ji_Mo_bytes js_Mo_bytes hov_80 rfl rfl rfl (Nat.le_of_ble_eq_true rfl) (by decide) (by decide) (b_Mo_bytes (at0 := 0) (n := 64) p_79 p_81 (by first | omega | (simp only [List.length_append, List.length_cons, List.length_nil, List.length_replicate, sl_len, be_len, sha_len, hmac_len, ex1_len, ex2_len, stretch_len, zer8_len, tC_len, tag1_len, bnN_len, xkp_len, enc_len, chance_len, lbF_len, str2_len, pub_len', sec8_len, xSrv_len, xCli_len, xSess_len, xK_len, xP_len]; done) | (simp only [List.length_append, List.length_cons, List.length_nil, List.length_replicate, sl_len, be_len, sha_len, hmac_len, ex1_len, ex2_len, stretch_len, zer8_len, tC_len, tag1_len, bnN_len, xkp_len, enc_len, chance_len, lbF_len, str2_len, pub_len', sec8_len, xSrv_len, xCli_len, xSess_len, xK_len, xP_len]; omega)) (by decide) (by first | omega | (simp only [List.length_append, List.length_cons, List.length_nil, List.length_replicate, sl_len, be_len, sha_len, hmac_len, ex1_len, ex2_len, stretch_len, zer8_len, tC_len, tag1_len, bnN_len, xkp_len, enc_len, chance_len, lbF_len, str2_len, pub_len', sec8_len, xSrv_len, xCli_len, xSess_len, xK_len, xP_len]; done) | (simp only [List.length_append, List.length_cons, List.length_nil, List.length_replicate, sl_len, be_len, sha_len, hmac_len, ex1_len, ex2_len, stretch_len, zer8_len, tC_len, tag1_len, bnN_len, xkp_len, enc_len, chance_len, lbF_len, str2_len, pub_len', sec8_len, xSrv_len, xCli_len, xSess_len, xK_len, xP_len]; omega)) (by decide) (by decide)) (fun r M_82 hq => ?_)
  obtain ⟨rfl, p_82_0, kp_82⟩ := hq
  refine T_eq (pc' := 305) (L' := [(0, .ref 373)]) (st' := []) (M' := M_82) rfl rfl rfl rfl ?_
  refine T_aload_n (v := .ref 373) d_Mo_derive_305 rfl (Or.inr ⟨_, rfl⟩) ?_
  refine T_aload_n (v := .ref 373) d_Mo_derive_306 rfl (Or.inr ⟨_, rfl⟩) ?_
  obtain ⟨v_83, hov_83, hwv_83, hsv_83, hiv_83⟩ := id p_82_0
  refine T_getfield (v := .ref 408) d_Mo_derive_307 fg_Mo_338 hov_83 rfl ?_
  refine T_iconst (v := nI 0) d_Mo_derive_310 (by decide) ?_
  refine T_bipush (v := nI 64) d_Mo_derive_311 (by decide) ?_
  have p_84 := (MS.kp (ms77) kp_82 (by decide))
  have p_85 := (IA.kp (p_78) kp_82 (by decide))
  refine T_virtual (as := [.ref 408, .int (nI 0), .int (nI 64)]) (rest := []) (b := 373) d_Mo_derive_313 rfl (jw_Mo_mac.jo (by decide)) lm_Mo_90 ji_Mo_mac js_Mo_mac hov_83 rfl rfl rfl (Nat.le_of_ble_eq_true rfl) (by decide) (by decide) (b_Mo_mac (at0 := 0) p_84 p_82_0 p_85 (by first | omega | (simp only [List.length_append, List.length_cons, List.length_nil, List.length_replicate, sl_len, be_len, sha_len, hmac_len, ex1_len, ex2_len, stretch_len, zer8_len, tC_len, tag1_len, bnN_len, xkp_len, enc_len, chance_len, lbF_len, str2_len, pub_len', sec8_len, xSrv_len, xCli_len, xSess_len, xK_len, xP_len]; done) | (simp only [List.length_append, List.length_cons, List.length_nil, List.length_replicate, sl_len, be_len, sha_len, hmac_len, ex1_len, ex2_len, stretch_len, zer8_len, tC_len, tag1_len, bnN_len, xkp_len, enc_len, chance_len, lbF_len, str2_len, pub_len', sec8_len, xSrv_len, xCli_len, xSess_len, xK_len, xP_len]; omega)) (by decide) (by first | omega | (simp only [List.length_append, List.length_cons, List.length_nil, List.length_replicate, sl_len, be_len, sha_len, hmac_len, ex1_len, ex2_len, stretch_len, zer8_len, tC_len, tag1_len, bnN_len, xkp_len, enc_len, chance_len, lbF_len, str2_len, pub_len', sec8_len, xSrv_len, xCli_len, xSess_len, xK_len, xP_len]; done) | (simp only [List.length_append, List.length_cons, List.length_nil, List.length_replicate, sl_len, be_len, sha_len, hmac_len, ex1_len, ex2_len, stretch_len, zer8_len, tC_len, tag1_len, bnN_len, xkp_len, enc_len, chance_len, lbF_len, str2_len, pub_len', sec8_len, xSrv_len, xCli_len, xSess_len, xK_len, xP_len]; omega)) (by decide)) (fun r M_86 hq => ?_)
  obtain ⟨rfl, p_86_0, p_86_1, p_86_2, kp_86⟩ := hq
  refine T_eq (pc' := 316) (L' := [(0, .ref 373)]) (st' := []) (M' := M_86) rfl rfl rfl rfl ?_
  refine T_iconst (v := nI 0) d_Mo_derive_316 (by decide) ?_
  refine T_istore_n (L' := [(1, .int (nI 0)), (0, .ref 373)]) d_Mo_derive_317 (by decide) rfl ?_
  have p_87 : IA M_86 383 64 (xSrv J Pm) := (by have g := p_86_2; rw [sl64 (ex1_len _ _), sl64 (sha_len _)] at g; exact g)
  refine dv_318 G p_86_1 p_87 (by decide) (by first | omega | (simp only [List.length_append, List.length_cons, List.length_nil, List.length_replicate, sl_len, be_len, sha_len, hmac_len, ex1_len, ex2_len, stretch_len, zer8_len, tC_len, tag1_len, bnN_len, xkp_len, enc_len, chance_len, lbF_len, str2_len, pub_len', sec8_len, xSrv_len, xCli_len, xSess_len, xK_len, xP_len]; done) | (simp only [List.length_append, List.length_cons, List.length_nil, List.length_replicate, sl_len, be_len, sha_len, hmac_len, ex1_len, ex2_len, stretch_len, zer8_len, tC_len, tag1_len, bnN_len, xkp_len, enc_len, chance_len, lbF_len, str2_len, pub_len', sec8_len, xSrv_len, xCli_len, xSess_len, xK_len, xP_len]; omega)) (by decide) (fun Mc88 hI => ?_) 64 0 M_86 (Nat.zero_add _) ⟨by rw [sl_zero]; exact (MS.ia p_86_0 (p := 445) (n := 64) (by decide)), Kp.rf⟩
  obtain ⟨hd88, hK88⟩ := hI
  have ms88 := MS.wi p_86_0 hK88 hd88.iq (by decide) (by decide) (by decide)
  have p_89 : IA Mc88 445 64 (xSrv J Pm) := (by have g := hd88; rw [sl64 (by first | omega | (simp only [List.length_append, List.length_cons, List.length_nil, List.length_replicate, sl_len, be_len, sha_len, hmac_len, ex1_len, ex2_len, stretch_len, zer8_len, tC_len, tag1_len, bnN_len, xkp_len, enc_len, chance_len, lbF_len, str2_len, pub_len', sec8_len, xSrv_len, xCli_len, xSess_len, xK_len, xP_len]; done) | (simp only [List.length_append, List.length_cons, List.length_nil, List.length_replicate, sl_len, be_len, sha_len, hmac_len, ex1_len, ex2_len, stretch_len, zer8_len, tC_len, tag1_len, bnN_len, xkp_len, enc_len, chance_len, lbF_len, str2_len, pub_len', sec8_len, xSrv_len, xCli_len, xSess_len, xK_len, xP_len]; omega))] at g; exact g)
  refine T_aload_n (v := .ref 373) d_Mo_derive_342 rfl (Or.inr ⟨_, rfl⟩) ?_
  refine T_bipush (v := nI 9) d_Mo_derive_343 (by decide) ?_
  have p_90 := (BG.kp (p_86_1) hK88 (by decide) (by decide))
  obtain ⟨v_92, hov_92, hwv_92, hsv_92, hiv_92⟩ := id p_90
  refine T_virtual (as := [.int (nI 9)]) (rest := []) (b := 373) d_Mo_derive_345 rfl (jw_Mo_label.jo (by decide)) lm_Mo_557 ji_Mo_label js_Mo_label hov_92 rfl rfl rfl (Nat.le_of_ble_eq_true rfl) (by decide) (by decide) (b_Mo_label (n := 9) p_90 (by first | omega | (simp only [List.length_append, List.length_cons, List.length_nil, List.length_replicate, sl_len, be_len, sha_len, hmac_len, ex1_len, ex2_len, stretch_len, zer8_len, tC_len, tag1_len, bnN_len, xkp_len, enc_len, chance_len, lbF_len, str2_len, pub_len', sec8_len, xSrv_len, xCli_len, xSess_len, xK_len, xP_len]; done) | (simp only [List.length_append, List.length_cons, List.length_nil, List.length_replicate, sl_len, be_len, sha_len, hmac_len, ex1_len, ex2_len, stretch_len, zer8_len, tC_len, tag1_len, bnN_len, xkp_len, enc_len, chance_len, lbF_len, str2_len, pub_len', sec8_len, xSrv_len, xCli_len, xSess_len, xK_len, xP_len]; omega))) (fun r M_91 hq => ?_)
  obtain ⟨rfl, p_91_0, kp_91⟩ := hq
  refine T_eq (pc' := 348) (L' := [(0, .ref 373)]) (st' := []) (M' := M_91) rfl rfl rfl rfl ?_
  refine T_aload_n (v := .ref 373) d_Mo_derive_348 rfl (Or.inr ⟨_, rfl⟩) ?_
  refine T_ldc2 d_Mo_derive_349 kJ_Mo_570 ?_
  obtain ⟨v_94, hov_94, hwv_94, hsv_94, hiv_94⟩ := id p_91_0
  refine T_virtual (as := [.long 4858373982391651649]) (rest := []) (b := 373) d_Mo_derive_352 rfl (jw_Mo_letters.jo (by decide)) lm_Mo_104 ji_Mo_letters js_Mo_letters hov_94 rfl rfl rfl (Nat.le_of_ble_eq_true rfl) (by decide) (by decide) (b_Mo_letters p_91_0 (by first | omega | (simp only [List.length_append, List.length_cons, List.length_nil, List.length_replicate, sl_len, be_len, sha_len, hmac_len, ex1_len, ex2_len, stretch_len, zer8_len, tC_len, tag1_len, bnN_len, xkp_len, enc_len, chance_len, lbF_len, str2_len, pub_len', sec8_len, xSrv_len, xCli_len, xSess_len, xK_len, xP_len]; done) | (simp only [List.length_append, List.length_cons, List.length_nil, List.length_replicate, sl_len, be_len, sha_len, hmac_len, ex1_len, ex2_len, stretch_len, zer8_len, tC_len, tag1_len, bnN_len, xkp_len, enc_len, chance_len, lbF_len, str2_len, pub_len', sec8_len, xSrv_len, xCli_len, xSess_len, xK_len, xP_len]; omega))) (fun r M_93 hq => ?_)
  obtain ⟨rfl, p_93_0, kp_93⟩ := hq
  refine T_eq (pc' := 355) (L' := [(0, .ref 373)]) (st' := []) (M' := M_93) rfl rfl rfl rfl ?_
  have p_95 : BG M_93 w ((([]) ++ ([0, 64] ++ ([u8 (nI (7 + 9))] ++ [79, 80, 65, 81, 85, 69, 45]))) ++ [67, 108, 105, 101, 110, 116, 77, 65]) := (by have g := p_93_0; rw [show lts 4858373982391651649 = [67, 108, 105, 101, 110, 116, 77, 65] from by decide +kernel] at g; exact g)
  refine T_aload_n (v := .ref 373) d_Mo_derive_355 rfl (Or.inr ⟨_, rfl⟩) ?_
  refine T_ldc2 d_Mo_derive_356 kJ_Mo_568 ?_
  obtain ⟨v_97, hov_97, hwv_97, hsv_97, hiv_97⟩ := id p_95
  refine T_virtual (as := [.long 67]) (rest := []) (b := 373) d_Mo_derive_359 rfl (jw_Mo_letters.jo (by decide)) lm_Mo_104 ji_Mo_letters js_Mo_letters hov_97 rfl rfl rfl (Nat.le_of_ble_eq_true rfl) (by decide) (by decide) (b_Mo_letters p_95 (by first | omega | (simp only [List.length_append, List.length_cons, List.length_nil, List.length_replicate, sl_len, be_len, sha_len, hmac_len, ex1_len, ex2_len, stretch_len, zer8_len, tC_len, tag1_len, bnN_len, xkp_len, enc_len, chance_len, lbF_len, str2_len, pub_len', sec8_len, xSrv_len, xCli_len, xSess_len, xK_len, xP_len]; done) | (simp only [List.length_append, List.length_cons, List.length_nil, List.length_replicate, sl_len, be_len, sha_len, hmac_len, ex1_len, ex2_len, stretch_len, zer8_len, tC_len, tag1_len, bnN_len, xkp_len, enc_len, chance_len, lbF_len, str2_len, pub_len', sec8_len, xSrv_len, xCli_len, xSess_len, xK_len, xP_len]; omega))) (fun r M_96 hq => ?_)
  obtain ⟨rfl, p_96_0, kp_96⟩ := hq
  refine T_eq (pc' := 362) (L' := [(0, .ref 373)]) (st' := []) (M' := M_96) rfl rfl rfl rfl ?_
  have p_98 : BG M_96 w (((([]) ++ ([0, 64] ++ ([u8 (nI (7 + 9))] ++ [79, 80, 65, 81, 85, 69, 45]))) ++ [67, 108, 105, 101, 110, 116, 77, 65]) ++ [67]) := (by have g := p_96_0; rw [show lts 67 = [67] from by decide +kernel] at g; exact g)
  refine T_aload_n (v := .ref 373) d_Mo_derive_362 rfl (Or.inr ⟨_, rfl⟩) ?_
  refine T_iconst (v := nI 0) d_Mo_derive_363 (by decide) ?_
  obtain ⟨v_100, hov_100, hwv_100, hsv_100, hiv_100⟩ := id p_98
  refine T_virtual (as := [.int (nI 0)]) (rest := []) (b := 373) d_Mo_derive_364 rfl (jw_Mo_one.jo (by decide)) lm_Mo_11 ji_Mo_one js_Mo_one hov_100 rfl rfl rfl (Nat.le_of_ble_eq_true rfl) (by decide) (by decide) (b_Mo_one (x := (nI 0)) p_98 (by first | omega | (simp only [List.length_append, List.length_cons, List.length_nil, List.length_replicate, sl_len, be_len, sha_len, hmac_len, ex1_len, ex2_len, stretch_len, zer8_len, tC_len, tag1_len, bnN_len, xkp_len, enc_len, chance_len, lbF_len, str2_len, pub_len', sec8_len, xSrv_len, xCli_len, xSess_len, xK_len, xP_len]; done) | (simp only [List.length_append, List.length_cons, List.length_nil, List.length_replicate, sl_len, be_len, sha_len, hmac_len, ex1_len, ex2_len, stretch_len, zer8_len, tC_len, tag1_len, bnN_len, xkp_len, enc_len, chance_len, lbF_len, str2_len, pub_len', sec8_len, xSrv_len, xCli_len, xSess_len, xK_len, xP_len]; omega))) (fun r M_99 hq => ?_)
  obtain ⟨rfl, p_99_0, kp_99⟩ := hq
  refine T_eq (pc' := 367) (L' := [(0, .ref 373)]) (st' := []) (M' := M_99) rfl rfl rfl rfl ?_
  refine T_aload_n (v := .ref 373) d_Mo_derive_367 rfl (Or.inr ⟨_, rfl⟩) ?_
  refine T_aload_n (v := .ref 373) d_Mo_derive_368 rfl (Or.inr ⟨_, rfl⟩) ?_
  obtain ⟨v_101, hov_101, hwv_101, hsv_101, hiv_101⟩ := id p_99_0
  refine T_getfield (v := .ref 444) d_Mo_derive_369 fg_Mo_455 hov_101 rfl ?_
  refine T_iconst (v := nI 0) d_Mo_derive_372 (by decide) ?_
  refine T_bipush (v := nI 64) d_Mo_derive_373 (by decide) ?_
  have p_102 := (MS.kp ((MS.kp ((MS.kp ((MS.kp (ms88) kp_91 (by decide))) kp_93 (by decide))) kp_96 (by decide))) kp_99 (by decide))
  have p_103 := (IA.kp ((IA.kp ((IA.kp ((IA.kp ((IA.kp ((IA.kp ((IA.kp ((IA.kp ((IA.kp (p_74) kp_75 (by decide))) hK77 (by decide))) kp_82 (by decide))) kp_86 (by decide))) hK88 (by decide))) kp_91 (by decide))) kp_93 (by decide))) kp_96 (by decide))) kp_99 (by decide))
  refine T_virtual (as := [.ref 444, .int (nI 0), .int (nI 64)]) (rest := []) (b := 373) d_Mo_derive_375 rfl (jw_Mo_expand.jo (by decide)) lm_Mo_510 ji_Mo_expand js_Mo_expand hov_101 rfl rfl rfl (Nat.le_of_ble_eq_true rfl) (by decide) (by decide) (b_Mo_expand1 (at0 := 0) (n := 64) p_102 p_99_0 p_103 (by first | omega | (simp only [List.length_append, List.length_cons, List.length_nil, List.length_replicate, sl_len, be_len, sha_len, hmac_len, ex1_len, ex2_len, stretch_len, zer8_len, tC_len, tag1_len, bnN_len, xkp_len, enc_len, chance_len, lbF_len, str2_len, pub_len', sec8_len, xSrv_len, xCli_len, xSess_len, xK_len, xP_len]; done) | (simp only [List.length_append, List.length_cons, List.length_nil, List.length_replicate, sl_len, be_len, sha_len, hmac_len, ex1_len, ex2_len, stretch_len, zer8_len, tC_len, tag1_len, bnN_len, xkp_len, enc_len, chance_len, lbF_len, str2_len, pub_len', sec8_len, xSrv_len, xCli_len, xSess_len, xK_len, xP_len]; omega)) (by decide) (by first | omega | (simp only [List.length_append, List.length_cons, List.length_nil, List.length_replicate, sl_len, be_len, sha_len, hmac_len, ex1_len, ex2_len, stretch_len, zer8_len, tC_len, tag1_len, bnN_len, xkp_len, enc_len, chance_len, lbF_len, str2_len, pub_len', sec8_len, xSrv_len, xCli_len, xSess_len, xK_len, xP_len]; done) | (simp only [List.length_append, List.length_cons, List.length_nil, List.length_replicate, sl_len, be_len, sha_len, hmac_len, ex1_len, ex2_len, stretch_len, zer8_len, tC_len, tag1_len, bnN_len, xkp_len, enc_len, chance_len, lbF_len, str2_len, pub_len', sec8_len, xSrv_len, xCli_len, xSess_len, xK_len, xP_len]; omega)) (by decide) (by decide)) (fun r M_104 hq => ?_)
  obtain ⟨rfl, p_104_0, p_104_1, p_104_2, kp_104⟩ := hq
  refine T_eq (pc' := 378) (L' := [(0, .ref 373)]) (st' := []) (M' := M_104) rfl rfl rfl rfl ?_
  refine T_iconst (v := nI 0) d_Mo_derive_378 (by decide) ?_
  refine T_istore_n (L' := [(1, .int (nI 0)), (0, .ref 373)]) d_Mo_derive_379 (by decide) rfl ?_
  have p_105 : IA M_104 388 192 (ex1 (xK J Pm) (lab W21 [])) := (by have g := p_104_2; rw [sl64 (xK_len _ _)] at g; rw [lab_21]; simp only [List.append_assoc, List.nil_append, List.cons_append] at g ⊢; exact g)
  refine dv_380 G p_104_1 p_105 (by decide) (by first | omega | (simp only [List.length_append, List.length_cons, List.length_nil, List.length_replicate, sl_len, be_len, sha_len, hmac_len, ex1_len, ex2_len, stretch_len, zer8_len, tC_len, tag1_len, bnN_len, xkp_len, enc_len, chance_len, lbF_len, str2_len, pub_len', sec8_len, xSrv_len, xCli_len, xSess_len, xK_len, xP_len]; done) | (simp only [List.length_append, List.length_cons, List.length_nil, List.length_replicate, sl_len, be_len, sha_len, hmac_len, ex1_len, ex2_len, stretch_len, zer8_len, tC_len, tag1_len, bnN_len, xkp_len, enc_len, chance_len, lbF_len, str2_len, pub_len', sec8_len, xSrv_len, xCli_len, xSess_len, xK_len, xP_len]; omega)) (by decide) (fun Mc106 hI => ?_) 64 0 M_104 (Nat.zero_add _) ⟨by rw [sl_zero]; exact (MS.ia p_104_0 (p := 408) (n := 400) (by decide)), Kp.rf⟩
  obtain ⟨hd106, hK106⟩ := hI
  have ms106 := MS.wi p_104_0 hK106 hd106.iq (by decide) (by decide) (by decide)
  have p_107 : IA Mc106 408 400 (ex1 (xK J Pm) (lab W21 [])) := (by have g := hd106; rw [sl64 (by first | omega | (simp only [List.length_append, List.length_cons, List.length_nil, List.length_replicate, sl_len, be_len, sha_len, hmac_len, ex1_len, ex2_len, stretch_len, zer8_len, tC_len, tag1_len, bnN_len, xkp_len, enc_len, chance_len, lbF_len, str2_len, pub_len', sec8_len, xSrv_len, xCli_len, xSess_len, xK_len, xP_len]; done) | (simp only [List.length_append, List.length_cons, List.length_nil, List.length_replicate, sl_len, be_len, sha_len, hmac_len, ex1_len, ex2_len, stretch_len, zer8_len, tC_len, tag1_len, bnN_len, xkp_len, enc_len, chance_len, lbF_len, str2_len, pub_len', sec8_len, xSrv_len, xCli_len, xSess_len, xK_len, xP_len]; omega))] at g; exact g)
  refine T_aload_n (v := .ref 373) d_Mo_derive_404 rfl (Or.inr ⟨_, rfl⟩) ?_
  refine T_aload_n (v := .ref 373) d_Mo_derive_405 rfl (Or.inr ⟨_, rfl⟩) ?_
  have p_108 := (BG.kp (p_104_1) hK106 (by decide) (by decide))
  obtain ⟨v_109, hov_109, hwv_109, hsv_109, hiv_109⟩ := id p_108
  refine T_getfield (v := .ref 441) d_Mo_derive_406 fg_Mo_443 hov_109 rfl ?_
  refine T_iconst (v := nI 0) d_Mo_derive_409 (by decide) ?_
  refine T_aload_n (v := .ref 373) d_Mo_derive_410 rfl (Or.inr ⟨_, rfl⟩) ?_
  refine N_getI (x := (v_109 75)) (y := (nI n)) d_Mo_derive_411 fg_Mo_446 hov_109 rfl ((hwv_109 75 (by decide)).trans (show w 75 = (nI n) from h75)) ?_
  have p_110 := (IA.kp ((IA.kp ((IA.kp ((IA.kp ((IA.kp ((IA.kp ((IA.kp ((IA.kp ((IA.kp ((IA.kp ((IA.kp ((IA.kp ((IA.kp ((IA.kp ((IA.kp ((IA.kp ((IA.kp ((IA.kp ((IA.kp ((IA.kp ((IA.kp ((IA.kp ((IA.kp ((IA.kp ((IA.kp ((IA.kp ((IA.kp ((IA.kp ((IA.kp ((IA.kp ((IA.kp ((IA.kp (p_11) kp_12 (by decide))) kp_14 (by decide))) hK17 (by decide))) kp_20 (by decide))) kp_22 (by decide))) kp_25 (by decide))) kp_28 (by decide))) kp_32 (by decide))) kp_36 (by decide))) hK38 (by decide))) kp_41 (by decide))) kp_43 (by decide))) kp_46 (by decide))) kp_49 (by decide))) kp_53 (by decide))) kp_57 (by decide))) hK59 (by decide))) kp_62 (by decide))) kp_64 (by decide))) kp_67 (by decide))) kp_70 (by decide))) kp_75 (by decide))) hK77 (by decide))) kp_82 (by decide))) kp_86 (by decide))) hK88 (by decide))) kp_91 (by decide))) kp_93 (by decide))) kp_96 (by decide))) kp_99 (by decide))) kp_104 (by decide))) hK106 (by decide))
  refine T_virtual (as := [.ref 441, .int (nI 0), .int (nI n)]) (rest := []) (b := 373) d_Mo_derive_414 rfl (jw_Mo_bytes.jo (by decide)) lm_Mo_76 ji_Mo_bytes js_Mo_bytes hov_109 rfl rfl rfl (Nat.le_of_ble_eq_true rfl) (by decide) (by decide) (b_Mo_bytes (at0 := 0) (n := n) p_108 p_110 (by first | omega | (simp only [List.length_append, List.length_cons, List.length_nil, List.length_replicate, sl_len, be_len, sha_len, hmac_len, ex1_len, ex2_len, stretch_len, zer8_len, tC_len, tag1_len, bnN_len, xkp_len, enc_len, chance_len, lbF_len, str2_len, pub_len', sec8_len, xSrv_len, xCli_len, xSess_len, xK_len, xP_len]; done) | (simp only [List.length_append, List.length_cons, List.length_nil, List.length_replicate, sl_len, be_len, sha_len, hmac_len, ex1_len, ex2_len, stretch_len, zer8_len, tC_len, tag1_len, bnN_len, xkp_len, enc_len, chance_len, lbF_len, str2_len, pub_len', sec8_len, xSrv_len, xCli_len, xSess_len, xK_len, xP_len]; omega)) (by decide) (by first | omega | (simp only [List.length_append, List.length_cons, List.length_nil, List.length_replicate, sl_len, be_len, sha_len, hmac_len, ex1_len, ex2_len, stretch_len, zer8_len, tC_len, tag1_len, bnN_len, xkp_len, enc_len, chance_len, lbF_len, str2_len, pub_len', sec8_len, xSrv_len, xCli_len, xSess_len, xK_len, xP_len]; done) | (simp only [List.length_append, List.length_cons, List.length_nil, List.length_replicate, sl_len, be_len, sha_len, hmac_len, ex1_len, ex2_len, stretch_len, zer8_len, tC_len, tag1_len, bnN_len, xkp_len, enc_len, chance_len, lbF_len, str2_len, pub_len', sec8_len, xSrv_len, xCli_len, xSess_len, xK_len, xP_len]; omega)) (by decide) (by decide)) (fun r M_111 hq => ?_)
  obtain ⟨rfl, p_111_0, kp_111⟩ := hq
  refine T_eq (pc' := 417) (L' := [(0, .ref 373)]) (st' := []) (M' := M_111) rfl rfl rfl rfl ?_
  refine T_aload_n (v := .ref 373) d_Mo_derive_417 rfl (Or.inr ⟨_, rfl⟩) ?_
  refine T_aload_n (v := .ref 373) d_Mo_derive_418 rfl (Or.inr ⟨_, rfl⟩) ?_
  obtain ⟨v_112, hov_112, hwv_112, hsv_112, hiv_112⟩ := id p_111_0
  refine T_getfield (v := .ref 445) d_Mo_derive_419 fg_Mo_458 hov_112 rfl ?_
  refine T_iconst (v := nI 0) d_Mo_derive_422 (by decide) ?_
  refine T_bipush (v := nI 64) d_Mo_derive_423 (by decide) ?_
  have p_113 := (IA.kp ((IA.kp ((IA.kp ((IA.kp ((IA.kp ((IA.kp ((IA.kp (p_89) kp_91 (by decide))) kp_93 (by decide))) kp_96 (by decide))) kp_99 (by decide))) kp_104 (by decide))) hK106 (by decide))) kp_111 (by decide))
  refine T_virtual (as := [.ref 445, .int (nI 0), .int (nI 64)]) (rest := []) (b := 373) d_Mo_derive_425 rfl (jw_Mo_bytes.jo (by decide)) lm_Mo_76 ji_Mo_bytes js_Mo_bytes hov_112 rfl rfl rfl (Nat.le_of_ble_eq_true rfl) (by decide) (by decide) (b_Mo_bytes (at0 := 0) (n := 64) p_111_0 p_113 (by first | omega | (simp only [List.length_append, List.length_cons, List.length_nil, List.length_replicate, sl_len, be_len, sha_len, hmac_len, ex1_len, ex2_len, stretch_len, zer8_len, tC_len, tag1_len, bnN_len, xkp_len, enc_len, chance_len, lbF_len, str2_len, pub_len', sec8_len, xSrv_len, xCli_len, xSess_len, xK_len, xP_len]; done) | (simp only [List.length_append, List.length_cons, List.length_nil, List.length_replicate, sl_len, be_len, sha_len, hmac_len, ex1_len, ex2_len, stretch_len, zer8_len, tC_len, tag1_len, bnN_len, xkp_len, enc_len, chance_len, lbF_len, str2_len, pub_len', sec8_len, xSrv_len, xCli_len, xSess_len, xK_len, xP_len]; omega)) (by decide) (by first | omega | (simp only [List.length_append, List.length_cons, List.length_nil, List.length_replicate, sl_len, be_len, sha_len, hmac_len, ex1_len, ex2_len, stretch_len, zer8_len, tC_len, tag1_len, bnN_len, xkp_len, enc_len, chance_len, lbF_len, str2_len, pub_len', sec8_len, xSrv_len, xCli_len, xSess_len, xK_len, xP_len]; done) | (simp only [List.length_append, List.length_cons, List.length_nil, List.length_replicate, sl_len, be_len, sha_len, hmac_len, ex1_len, ex2_len, stretch_len, zer8_len, tC_len, tag1_len, bnN_len, xkp_len, enc_len, chance_len, lbF_len, str2_len, pub_len', sec8_len, xSrv_len, xCli_len, xSess_len, xK_len, xP_len]; omega)) (by decide) (by decide)) (fun r M_114 hq => ?_)
  obtain ⟨rfl, p_114_0, kp_114⟩ := hq
  refine T_eq (pc' := 428) (L' := [(0, .ref 373)]) (st' := []) (M' := M_114) rfl rfl rfl rfl ?_
  refine T_aload_n (v := .ref 373) d_Mo_derive_428 rfl (Or.inr ⟨_, rfl⟩) ?_
  have p_115 := (MS.kp ((MS.kp (ms106) kp_111 (by decide))) kp_114 (by decide))
  obtain ⟨v_117, hov_117, hwv_117, hsv_117, hiv_117⟩ := id p_114_0
  refine T_virtual (as := []) (rest := []) (b := 373) d_Mo_derive_429 rfl (jw_Mo_hash0.jo (by decide)) lm_Mo_80 ji_Mo_hash0 js_Mo_hash0 hov_117 rfl rfl rfl (Nat.le_of_ble_eq_true rfl) (by decide) (by decide) (b_Mo_hash0 p_115 p_114_0 (by first | omega | (simp only [List.length_append, List.length_cons, List.length_nil, List.length_replicate, sl_len, be_len, sha_len, hmac_len, ex1_len, ex2_len, stretch_len, zer8_len, tC_len, tag1_len, bnN_len, xkp_len, enc_len, chance_len, lbF_len, str2_len, pub_len', sec8_len, xSrv_len, xCli_len, xSess_len, xK_len, xP_len]; done) | (simp only [List.length_append, List.length_cons, List.length_nil, List.length_replicate, sl_len, be_len, sha_len, hmac_len, ex1_len, ex2_len, stretch_len, zer8_len, tC_len, tag1_len, bnN_len, xkp_len, enc_len, chance_len, lbF_len, str2_len, pub_len', sec8_len, xSrv_len, xCli_len, xSess_len, xK_len, xP_len]; omega))) (fun r M_116 hq => ?_)
  obtain ⟨rfl, p_116_0, p_116_1, p_116_2, kp_116⟩ := hq
  refine T_eq (pc' := 432) (L' := [(0, .ref 373)]) (st' := []) (M' := M_116) rfl rfl rfl rfl ?_
  refine T_iconst (v := nI 0) d_Mo_derive_432 (by decide) ?_
  refine T_istore_n (L' := [(1, .int (nI 0)), (0, .ref 373)]) d_Mo_derive_433 (by decide) rfl ?_
  have p_118 : IA M_116 383 64 (sha (Pm ++ xSrv J Pm)) := (by have g := p_116_2; rw [sl64 lP, sl64 (xSrv_len _ _)] at g; exact g)
  refine dv_434 G p_116_1 p_118 (by decide) (by first | omega | (simp only [List.length_append, List.length_cons, List.length_nil, List.length_replicate, sl_len, be_len, sha_len, hmac_len, ex1_len, ex2_len, stretch_len, zer8_len, tC_len, tag1_len, bnN_len, xkp_len, enc_len, chance_len, lbF_len, str2_len, pub_len', sec8_len, xSrv_len, xCli_len, xSess_len, xK_len, xP_len]; done) | (simp only [List.length_append, List.length_cons, List.length_nil, List.length_replicate, sl_len, be_len, sha_len, hmac_len, ex1_len, ex2_len, stretch_len, zer8_len, tC_len, tag1_len, bnN_len, xkp_len, enc_len, chance_len, lbF_len, str2_len, pub_len', sec8_len, xSrv_len, xCli_len, xSess_len, xK_len, xP_len]; omega)) (by decide) (fun Mc119 hI => ?_) 64 0 M_116 (Nat.zero_add _) ⟨by rw [sl_zero]; exact (MS.ia p_116_0 (p := 443) (n := 64) (by decide)), Kp.rf⟩
  obtain ⟨hd119, hK119⟩ := hI
  have ms119 := MS.wi p_116_0 hK119 hd119.iq (by decide) (by decide) (by decide)
  have p_120 : IA Mc119 443 64 (sha (Pm ++ xSrv J Pm)) := (by have g := hd119; rw [sl64 (by first | omega | (simp only [List.length_append, List.length_cons, List.length_nil, List.length_replicate, sl_len, be_len, sha_len, hmac_len, ex1_len, ex2_len, stretch_len, zer8_len, tC_len, tag1_len, bnN_len, xkp_len, enc_len, chance_len, lbF_len, str2_len, pub_len', sec8_len, xSrv_len, xCli_len, xSess_len, xK_len, xP_len]; done) | (simp only [List.length_append, List.length_cons, List.length_nil, List.length_replicate, sl_len, be_len, sha_len, hmac_len, ex1_len, ex2_len, stretch_len, zer8_len, tC_len, tag1_len, bnN_len, xkp_len, enc_len, chance_len, lbF_len, str2_len, pub_len', sec8_len, xSrv_len, xCli_len, xSess_len, xK_len, xP_len]; omega))] at g; exact g)
  refine T_aload_n (v := .ref 373) d_Mo_derive_458 rfl (Or.inr ⟨_, rfl⟩) ?_
  refine T_aload_n (v := .ref 373) d_Mo_derive_459 rfl (Or.inr ⟨_, rfl⟩) ?_
  have p_121 := (BG.kp (p_116_1) hK119 (by decide) (by decide))
  obtain ⟨v_122, hov_122, hwv_122, hsv_122, hiv_122⟩ := id p_121
  refine T_getfield (v := .ref 443) d_Mo_derive_460 fg_Mo_452 hov_122 rfl ?_
  refine T_iconst (v := nI 0) d_Mo_derive_463 (by decide) ?_
  refine T_bipush (v := nI 64) d_Mo_derive_464 (by decide) ?_
  refine T_virtual (as := [.ref 443, .int (nI 0), .int (nI 64)]) (rest := []) (b := 373) d_Mo_derive_466 rfl (jw_Mo_bytes.jo (by decide)) lm_Mo_76 ji_Mo_bytes js_Mo_bytes hov_122 rfl rfl rfl (Nat.le_of_ble_eq_true rfl) (by decide) (by decide) (b_Mo_bytes (at0 := 0) (n := 64) p_121 p_120 (by first | omega | (simp only [List.length_append, List.length_cons, List.length_nil, List.length_replicate, sl_len, be_len, sha_len, hmac_len, ex1_len, ex2_len, stretch_len, zer8_len, tC_len, tag1_len, bnN_len, xkp_len, enc_len, chance_len, lbF_len, str2_len, pub_len', sec8_len, xSrv_len, xCli_len, xSess_len, xK_len, xP_len]; done) | (simp only [List.length_append, List.length_cons, List.length_nil, List.length_replicate, sl_len, be_len, sha_len, hmac_len, ex1_len, ex2_len, stretch_len, zer8_len, tC_len, tag1_len, bnN_len, xkp_len, enc_len, chance_len, lbF_len, str2_len, pub_len', sec8_len, xSrv_len, xCli_len, xSess_len, xK_len, xP_len]; omega)) (by decide) (by first | omega | (simp only [List.length_append, List.length_cons, List.length_nil, List.length_replicate, sl_len, be_len, sha_len, hmac_len, ex1_len, ex2_len, stretch_len, zer8_len, tC_len, tag1_len, bnN_len, xkp_len, enc_len, chance_len, lbF_len, str2_len, pub_len', sec8_len, xSrv_len, xCli_len, xSess_len, xK_len, xP_len]; done) | (simp only [List.length_append, List.length_cons, List.length_nil, List.length_replicate, sl_len, be_len, sha_len, hmac_len, ex1_len, ex2_len, stretch_len, zer8_len, tC_len, tag1_len, bnN_len, xkp_len, enc_len, chance_len, lbF_len, str2_len, pub_len', sec8_len, xSrv_len, xCli_len, xSess_len, xK_len, xP_len]; omega)) (by decide) (by decide)) (fun r M_123 hq => ?_)
  obtain ⟨rfl, p_123_0, kp_123⟩ := hq
  refine T_eq (pc' := 469) (L' := [(0, .ref 373)]) (st' := []) (M' := M_123) rfl rfl rfl rfl ?_
  refine T_aload_n (v := .ref 373) d_Mo_derive_469 rfl (Or.inr ⟨_, rfl⟩) ?_
  refine T_aload_n (v := .ref 373) d_Mo_derive_470 rfl (Or.inr ⟨_, rfl⟩) ?_
  obtain ⟨v_124, hov_124, hwv_124, hsv_124, hiv_124⟩ := id p_123_0
  refine T_getfield (v := .ref 408) d_Mo_derive_471 fg_Mo_338 hov_124 rfl ?_
  refine T_iconst (v := nI 0) d_Mo_derive_474 (by decide) ?_
  refine T_bipush (v := nI 64) d_Mo_derive_475 (by decide) ?_
  have p_125 := (MS.kp (ms119) kp_123 (by decide))
  have p_126 := (IA.kp ((IA.kp ((IA.kp ((IA.kp ((IA.kp (p_107) kp_111 (by decide))) kp_114 (by decide))) kp_116 (by decide))) hK119 (by decide))) kp_123 (by decide))
  refine T_virtual (as := [.ref 408, .int (nI 0), .int (nI 64)]) (rest := []) (b := 373) d_Mo_derive_477 rfl (jw_Mo_mac.jo (by decide)) lm_Mo_90 ji_Mo_mac js_Mo_mac hov_124 rfl rfl rfl (Nat.le_of_ble_eq_true rfl) (by decide) (by decide) (b_Mo_mac (at0 := 0) p_125 p_123_0 p_126 (by first | omega | (simp only [List.length_append, List.length_cons, List.length_nil, List.length_replicate, sl_len, be_len, sha_len, hmac_len, ex1_len, ex2_len, stretch_len, zer8_len, tC_len, tag1_len, bnN_len, xkp_len, enc_len, chance_len, lbF_len, str2_len, pub_len', sec8_len, xSrv_len, xCli_len, xSess_len, xK_len, xP_len]; done) | (simp only [List.length_append, List.length_cons, List.length_nil, List.length_replicate, sl_len, be_len, sha_len, hmac_len, ex1_len, ex2_len, stretch_len, zer8_len, tC_len, tag1_len, bnN_len, xkp_len, enc_len, chance_len, lbF_len, str2_len, pub_len', sec8_len, xSrv_len, xCli_len, xSess_len, xK_len, xP_len]; omega)) (by decide) (by first | omega | (simp only [List.length_append, List.length_cons, List.length_nil, List.length_replicate, sl_len, be_len, sha_len, hmac_len, ex1_len, ex2_len, stretch_len, zer8_len, tC_len, tag1_len, bnN_len, xkp_len, enc_len, chance_len, lbF_len, str2_len, pub_len', sec8_len, xSrv_len, xCli_len, xSess_len, xK_len, xP_len]; done) | (simp only [List.length_append, List.length_cons, List.length_nil, List.length_replicate, sl_len, be_len, sha_len, hmac_len, ex1_len, ex2_len, stretch_len, zer8_len, tC_len, tag1_len, bnN_len, xkp_len, enc_len, chance_len, lbF_len, str2_len, pub_len', sec8_len, xSrv_len, xCli_len, xSess_len, xK_len, xP_len]; omega)) (by decide)) (fun r M_127 hq => ?_)
  obtain ⟨rfl, p_127_0, p_127_1, p_127_2, kp_127⟩ := hq
  refine T_eq (pc' := 480) (L' := [(0, .ref 373)]) (st' := []) (M' := M_127) rfl rfl rfl rfl ?_
  refine T_iconst (v := nI 0) d_Mo_derive_480 (by decide) ?_
  refine T_istore_n (L' := [(1, .int (nI 0)), (0, .ref 373)]) d_Mo_derive_481 (by decide) rfl ?_
  have p_128 : IA M_127 383 64 (xCli J Pm) := (by have g := p_127_2; rw [sl64 (ex1_len _ _), sl64 (sha_len _)] at g; exact g)
  refine dv_482 G p_127_1 p_128 (by decide) (by first | omega | (simp only [List.length_append, List.length_cons, List.length_nil, List.length_replicate, sl_len, be_len, sha_len, hmac_len, ex1_len, ex2_len, stretch_len, zer8_len, tC_len, tag1_len, bnN_len, xkp_len, enc_len, chance_len, lbF_len, str2_len, pub_len', sec8_len, xSrv_len, xCli_len, xSess_len, xK_len, xP_len]; done) | (simp only [List.length_append, List.length_cons, List.length_nil, List.length_replicate, sl_len, be_len, sha_len, hmac_len, ex1_len, ex2_len, stretch_len, zer8_len, tC_len, tag1_len, bnN_len, xkp_len, enc_len, chance_len, lbF_len, str2_len, pub_len', sec8_len, xSrv_len, xCli_len, xSess_len, xK_len, xP_len]; omega)) (by decide) (fun Mc129 hI => ?_) 64 0 M_127 (Nat.zero_add _) ⟨by rw [sl_zero]; exact (MS.ia p_127_0 (p := 446) (n := 64) (by decide)), Kp.rf⟩
  obtain ⟨hd129, hK129⟩ := hI
  have ms129 := MS.wi p_127_0 hK129 hd129.iq (by decide) (by decide) (by decide)
  have p_130 : IA Mc129 446 64 (xCli J Pm) := (by have g := hd129; rw [sl64 (by first | omega | (simp only [List.length_append, List.length_cons, List.length_nil, List.length_replicate, sl_len, be_len, sha_len, hmac_len, ex1_len, ex2_len, stretch_len, zer8_len, tC_len, tag1_len, bnN_len, xkp_len, enc_len, chance_len, lbF_len, str2_len, pub_len', sec8_len, xSrv_len, xCli_len, xSess_len, xK_len, xP_len]; done) | (simp only [List.length_append, List.length_cons, List.length_nil, List.length_replicate, sl_len, be_len, sha_len, hmac_len, ex1_len, ex2_len, stretch_len, zer8_len, tC_len, tag1_len, bnN_len, xkp_len, enc_len, chance_len, lbF_len, str2_len, pub_len', sec8_len, xSrv_len, xCli_len, xSess_len, xK_len, xP_len]; omega))] at g; exact g)
  have p_131 := (BG.kp (p_127_1) hK129 (by decide) (by decide))
  have p_132 := (IA.kp ((IA.kp ((IA.kp ((IA.kp ((IA.kp ((IA.kp (p_113) kp_114 (by decide))) kp_116 (by decide))) hK119 (by decide))) kp_123 (by decide))) kp_127 (by decide))) hK129 (by decide))
  have p_133 := (IA.kp ((IA.kp ((IA.kp ((IA.kp ((IA.kp ((IA.kp ((IA.kp ((IA.kp ((IA.kp ((IA.kp ((IA.kp ((IA.kp ((IA.kp ((IA.kp ((IA.kp ((IA.kp ((IA.kp ((IA.kp ((IA.kp ((IA.kp ((IA.kp ((IA.kp (p_60) kp_62 (by decide))) kp_64 (by decide))) kp_67 (by decide))) kp_70 (by decide))) kp_75 (by decide))) hK77 (by decide))) kp_82 (by decide))) kp_86 (by decide))) hK88 (by decide))) kp_91 (by decide))) kp_93 (by decide))) kp_96 (by decide))) kp_99 (by decide))) kp_104 (by decide))) hK106 (by decide))) kp_111 (by decide))) kp_114 (by decide))) kp_116 (by decide))) hK119 (by decide))) kp_123 (by decide))) kp_127 (by decide))) hK129 (by decide))
  exact T_vret d_Mo_derive_506 rfl (by decide) (by decide) ⟨rfl, ms129, p_131, p_132, p_130, p_133, (Kp.tr (Kp.tr (Kp.tr (Kp.tr (Kp.tr (Kp.tr (Kp.tr (Kp.tr (Kp.tr (Kp.tr (Kp.tr (Kp.tr (Kp.tr (Kp.tr (Kp.tr (Kp.tr (Kp.tr (Kp.tr (Kp.tr (Kp.tr (Kp.tr (Kp.tr (Kp.tr (Kp.tr (Kp.tr (Kp.tr (Kp.tr (Kp.tr (Kp.tr (Kp.tr (Kp.tr (Kp.tr (Kp.tr (Kp.tr (Kp.tr (Kp.tr (Kp.tr (Kp.tr (Kp.tr (Kp.tr (Kp.tr (Kp.tr (Kp.rf : Kp [373, 374, 380, 381, 382, 383, 384, 385, 387, 388, 408, 442, 443, 444, 445, 446, 447] M M) (Kp.mono kp_2 (by decide))) (Kp.mono kp_4 (by decide))) (Kp.mono hK7 (by decide))) (Kp.mono kp_12 (by decide))) (Kp.mono kp_14 (by decide))) (Kp.mono hK17 (by decide))) (Kp.mono kp_20 (by decide))) (Kp.mono kp_22 (by decide))) (Kp.mono kp_25 (by decide))) (Kp.mono kp_28 (by decide))) (Kp.mono kp_32 (by decide))) (Kp.mono kp_36 (by decide +kernel))) (Kp.mono hK38 (by decide))) (Kp.mono kp_41 (by decide))) (Kp.mono kp_43 (by decide))) (Kp.mono kp_46 (by decide))) (Kp.mono kp_49 (by decide))) (Kp.mono kp_53 (by decide))) (Kp.mono kp_57 (by decide +kernel))) (Kp.mono hK59 (by decide))) (Kp.mono kp_62 (by decide))) (Kp.mono kp_64 (by decide))) (Kp.mono kp_67 (by decide))) (Kp.mono kp_70 (by decide))) (Kp.mono kp_75 (by decide +kernel))) (Kp.mono hK77 (by decide))) (Kp.mono kp_82 (by decide))) (Kp.mono kp_86 (by decide))) (Kp.mono hK88 (by decide))) (Kp.mono kp_91 (by decide))) (Kp.mono kp_93 (by decide))) (Kp.mono kp_96 (by decide))) (Kp.mono kp_99 (by decide))) (Kp.mono kp_104 (by decide +kernel))) (Kp.mono hK106 (by decide))) (Kp.mono kp_111 (by decide))) (Kp.mono kp_114 (by decide))) (Kp.mono kp_116 (by decide))) (Kp.mono hK119 (by decide))) (Kp.mono kp_123 (by decide))) (Kp.mono kp_127 (by decide))) (Kp.mono hK129 (by decide)))⟩

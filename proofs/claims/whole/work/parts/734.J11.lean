def NB (M : List va_E) (sd : Int32) (ch n m th : Nat) : Prop := ∃ w, BG M w [] ∧ w 66 = nI th ∧ w 71 = sd ∧ w 72 = nI ch ∧ w 73 = nI n ∧ w 74 = nI m
theorem NB.kp {M M' : List va_E} {W : List Nat} {sd : Int32} {ch n m th : Nat} (h : NB M sd ch n m th) (s : Kp W M M') (h1 : 373 ∉ W) (h2 : 374 ∉ W) : NB M' sd ch n m th := by obtain ⟨w, h, r⟩ := h; exact ⟨w, h.kp s h1 h2, r⟩
abbrev phW : List Nat := [373, 374, 380, 381, 382, 383, 410]
set_option maxHeartbeats 8000000 in
theorem ph_29 (G : GX) {M0 : List va_E} {w : Nat → Int32} {l s : List UInt8}  (hb : BG M0 w l) (hs : IA M0 383 64 s) (hsn : 64 < 2 ^ 31) (ha : 0 + 64 ≤ s.length) (hd : 0 + 64 ≤ 64)  {Q : Option Value → List va_E → Prop} (kk : ∀ M, IA M 410 64 (sl s 0 64) ∧ Kp [410] M0 M → TT G mi_Mo_hash 53 [(0, .ref 373)] [] M 0 0 Q) : ∀ j k M, k + j = 64 → IA M 410 64 (sl s 0 k) ∧ Kp [410] M0 M → TT G mi_Mo_hash 29 [(1, .int (nI k)), (0, .ref 373)] [] M 0 0 Q := by
  intro j
  induction j with
  | zero =>
    intro k M hk hI
    obtain rfl : 64 = k := by omega
    obtain ⟨hda, hK⟩ := id hI
    refine T_iload_n d_Mo_hash_29 rfl ?_
    refine T_bipush (v := nI 64) d_Mo_hash_30 (by decide) ?_
    refine N_icmp_ge_t (a := 64) (b := 64) d_Mo_hash_32 (tgt := 53) rfl (by omega) (by omega) (by omega) ?_
    exact T_sub (fun q hq => List.mem_cons_of_mem _ hq) (kk M hI)
  | succ j ih =>
    intro k M hk hI
    obtain ⟨hda, hK⟩ := hI
    have hsl := IA.le hs
    refine T_iload_n d_Mo_hash_29 rfl ?_
    refine T_bipush (v := nI 64) d_Mo_hash_30 (by decide) ?_
    refine N_icmp_ge_f (a := 64) (b := k) d_Mo_hash_32 (tgt := 53) rfl (by omega) (by omega) (by omega) ?_
    refine T_aload_n (v := .ref 373) d_Mo_hash_35 rfl (Or.inr ⟨_, rfl⟩) ?_
    have p_1 := (BG.kp (hb) hK (by decide) (by decide))
    obtain ⟨v_2, hov_2, hwv_2, hsv_2, hiv_2⟩ := id p_1
    refine T_getfield (v := .ref 410) d_Mo_hash_36 fg_Mo_347 hov_2 rfl ?_
    refine T_iload_n d_Mo_hash_39 rfl ?_
    refine T_aload_n (v := .ref 373) d_Mo_hash_40 rfl (Or.inr ⟨_, rfl⟩) ?_
    refine T_getfield (v := .ref 383) d_Mo_hash_41 fg_Mo_55 hov_2 rfl ?_
    refine T_iload_n d_Mo_hash_44 rfl ?_
    have p_3 := (IA.kp (hs) hK (by decide))
    obtain ⟨f_4, hf_5, hl_6, hv_7⟩ := id p_3
    refine N_iaload (k := k) (x := (bR (gd s k))) d_Mo_hash_45 hf_5 (by omega) (by decide) (hv_7 k (by first | omega | (simp only [List.length_append, List.length_cons, List.length_nil, List.length_replicate, sl_len, be_len, sha_len, hmac_len, ex1_len, ex2_len, stretch_len, zer8_len, tC_len, tag1_len, bnN_len, xkp_len]; omega))) ?_
    obtain ⟨f_8, hf_9, hl_10, hv_11⟩ := id hda
    refine N_iastore (k := k) d_Mo_hash_46 (by decide) hf_9 (by omega) (by decide) rfl (fun M_12 h_13 s_14 => ?_)
    refine N_iinc (k := k) (m := 1) (c := (k + 1)) (L' := [(1, .int (nI ((k + 1)))), (0, .ref 373)]) d_Mo_hash_47 (by decide) rfl (by decide) rfl rfl ?_
    refine T_goto (tgt := 29) d_Mo_hash_50 rfl ?_
    exact ih (k + 1) M_12 (by omega) ⟨ia_c0 h_13 (gd_c (by omega)) (by omega) (by omega) hv_11, (Kp.ex (Kp.tr (Kp.rf : Kp [410] M0 M0) (Kp.mono hK (by decide))) s_14 (by decide))⟩
set_option maxHeartbeats 8000000 in
theorem p_Mo_hash {G : GX} {M : List va_E} {sd : Int32} {ch n m th : Nat} {tx : List UInt8} {rs : List UInt8} (hms : MS M) (hnb : NB M sd ch n m th) (htx : IA M 409 200 tx) (ltx : tx.length = n) (hrs : IA M 410 64 rs) : CT G mi_Mo_hash [.ref 373] M (fun r M' => r = some (.int (nI 64)) ∧ MS M' ∧ NB M' sd ch 0 64 0 ∧ IA M' 410 64 (sha tx) ∧ Kp phW M M') := by
  obtain ⟨w, h, h66, h71, h72, h73, h74⟩ := hnb
  have lt2 := htx.le
  refine CT.of (by decide) (Nat.le_of_ble_eq_true rfl) ?_
  show TT G mi_Mo_hash 0 [(0, .ref 373)] [] M 0 0 _
  refine T_aload_n (v := .ref 373) d_Mo_hash_0 rfl (Or.inr ⟨_, rfl⟩) ?_
  refine T_iconst (v := nI 0) d_Mo_hash_1 (by decide) ?_
  obtain ⟨v_1, hov_1, hwv_1, hsv_1, hiv_1⟩ := id h
  refine N_put (e := (moO (upd v_1 66 (nI 0)))) d_Mo_hash_2 (fp_Mo_316 _) hov_1 (Nat.le_of_ble_eq_true rfl) ⟨rfl, rfl⟩ rfl (fun M_2 h_3 s_4 => ?_)
  have p_5 := BG.st (j := 66) (by decide) hwv_1 hsv_1 hiv_1 h_3 (Ex.kp s_4)
  refine T_aload_n (v := .ref 373) d_Mo_hash_5 rfl (Or.inr ⟨_, rfl⟩) ?_
  refine T_aload_n (v := .ref 373) d_Mo_hash_6 rfl (Or.inr ⟨_, rfl⟩) ?_
  obtain ⟨v_6, hov_6, hwv_6, hsv_6, hiv_6⟩ := id p_5
  refine T_getfield (v := .ref 409) d_Mo_hash_7 fg_Mo_341 hov_6 rfl ?_
  refine T_iconst (v := nI 0) d_Mo_hash_10 (by decide) ?_
  refine T_aload_n (v := .ref 373) d_Mo_hash_11 rfl (Or.inr ⟨_, rfl⟩) ?_
  refine N_getI (x := (v_6 73)) (y := (nI n)) d_Mo_hash_12 fg_Mo_344 hov_6 rfl ((hwv_6 73 (by decide)).trans (show (upd w 66 (nI 0)) 73 = (nI n) from h73)) ?_
  have p_7 := (IA.kp (htx) (Ex.kp s_4) (by decide))
  refine T_virtual (as := [.ref 409, .int (nI 0), .int (nI n)]) (rest := []) (b := 373) d_Mo_hash_15 rfl (jw_Mo_bytes.jo (by decide)) lm_Mo_76 ji_Mo_bytes js_Mo_bytes hov_6 rfl rfl rfl (Nat.le_of_ble_eq_true rfl) (by decide) (by decide) (b_Mo_bytes (at0 := 0) (n := n) p_5 p_7 (by first | omega | (simp only [List.length_append, List.length_cons, List.length_nil, List.length_replicate, sl_len, be_len, sha_len, hmac_len, ex1_len, ex2_len, stretch_len, zer8_len, tC_len, tag1_len, bnN_len, xkp_len, enc_len, chance_len, lbF_len, str2_len, pub_len', sec8_len]; done) | (simp only [List.length_append, List.length_cons, List.length_nil, List.length_replicate, sl_len, be_len, sha_len, hmac_len, ex1_len, ex2_len, stretch_len, zer8_len, tC_len, tag1_len, bnN_len, xkp_len, enc_len, chance_len, lbF_len, str2_len, pub_len', sec8_len]; omega)) (by decide) (by first | omega | (simp only [List.length_append, List.length_cons, List.length_nil, List.length_replicate, sl_len, be_len, sha_len, hmac_len, ex1_len, ex2_len, stretch_len, zer8_len, tC_len, tag1_len, bnN_len, xkp_len, enc_len, chance_len, lbF_len, str2_len, pub_len', sec8_len]; done) | (simp only [List.length_append, List.length_cons, List.length_nil, List.length_replicate, sl_len, be_len, sha_len, hmac_len, ex1_len, ex2_len, stretch_len, zer8_len, tC_len, tag1_len, bnN_len, xkp_len, enc_len, chance_len, lbF_len, str2_len, pub_len', sec8_len]; omega)) (by decide) (by decide)) (fun r M_8 hq => ?_)
  obtain ⟨rfl, p_8_0, kp_8⟩ := hq
  refine T_eq (pc' := 18) (L' := [(0, .ref 373)]) (st' := []) (M' := M_8) rfl rfl rfl rfl ?_
  refine T_aload_n (v := .ref 373) d_Mo_hash_18 rfl (Or.inr ⟨_, rfl⟩) ?_
  refine T_iconst (v := nI 0) d_Mo_hash_19 (by decide) ?_
  obtain ⟨v_9, hov_9, hwv_9, hsv_9, hiv_9⟩ := id p_8_0
  refine N_put (e := (moO (upd v_9 73 (nI 0)))) d_Mo_hash_20 (fp_Mo_344 _) hov_9 (Nat.le_of_ble_eq_true rfl) ⟨rfl, rfl⟩ rfl (fun M_10 h_11 s_12 => ?_)
  have p_13 := BG.st (j := 73) (by decide) hwv_9 hsv_9 hiv_9 h_11 (Ex.kp s_12)
  refine T_aload_n (v := .ref 373) d_Mo_hash_23 rfl (Or.inr ⟨_, rfl⟩) ?_
  have p_14 := (MS.kp ((MS.kp ((MS.kp (hms) (Ex.kp s_4) (by decide))) kp_8 (by decide))) (Ex.kp s_12) (by decide))
  obtain ⟨v_16, hov_16, hwv_16, hsv_16, hiv_16⟩ := id p_13
  refine T_virtual (as := []) (rest := []) (b := 373) d_Mo_hash_24 rfl (jw_Mo_hash0.jo (by decide)) lm_Mo_80 ji_Mo_hash0 js_Mo_hash0 hov_16 rfl rfl rfl (Nat.le_of_ble_eq_true rfl) (by decide) (by decide) (b_Mo_hash0 p_14 p_13 (by first | omega | (simp only [List.length_append, List.length_cons, List.length_nil, List.length_replicate, sl_len, be_len, sha_len, hmac_len, ex1_len, ex2_len, stretch_len, zer8_len, tC_len, tag1_len, bnN_len, xkp_len, enc_len, chance_len, lbF_len, str2_len, pub_len', sec8_len]; done) | (simp only [List.length_append, List.length_cons, List.length_nil, List.length_replicate, sl_len, be_len, sha_len, hmac_len, ex1_len, ex2_len, stretch_len, zer8_len, tC_len, tag1_len, bnN_len, xkp_len, enc_len, chance_len, lbF_len, str2_len, pub_len', sec8_len]; omega))) (fun r M_15 hq => ?_)
  obtain ⟨rfl, p_15_0, p_15_1, p_15_2, kp_15⟩ := hq
  refine T_eq (pc' := 27) (L' := [(0, .ref 373)]) (st' := []) (M' := M_15) rfl rfl rfl rfl ?_
  have p_17 : IA M_15 383 64 (sha tx) := (by have g := p_15_2; rw [sl64 ltx] at g; exact g)
  refine T_iconst (v := nI 0) d_Mo_hash_27 (by decide) ?_
  refine T_istore_n (L' := [(1, .int (nI 0)), (0, .ref 373)]) d_Mo_hash_28 (by decide) rfl ?_
  have p_18 := (IA.kp ((IA.kp ((IA.kp ((IA.kp (hrs) (Ex.kp s_4) (by decide))) kp_8 (by decide))) (Ex.kp s_12) (by decide))) kp_15 (by decide))
  refine ph_29 G p_15_1 p_17 (by decide) (by first | omega | (simp only [List.length_append, List.length_cons, List.length_nil, List.length_replicate, sl_len, be_len, sha_len, hmac_len, ex1_len, ex2_len, stretch_len, zer8_len, tC_len, tag1_len, bnN_len, xkp_len, enc_len, chance_len, lbF_len, str2_len, pub_len', sec8_len]; done) | (simp only [List.length_append, List.length_cons, List.length_nil, List.length_replicate, sl_len, be_len, sha_len, hmac_len, ex1_len, ex2_len, stretch_len, zer8_len, tC_len, tag1_len, bnN_len, xkp_len, enc_len, chance_len, lbF_len, str2_len, pub_len', sec8_len]; omega)) (by decide) (fun Mc19 hI => ?_) 64 0 M_15 (Nat.zero_add _) ⟨by rw [sl_zero]; exact p_18.iq.ia, Kp.rf⟩
  obtain ⟨hd19, hK19⟩ := hI
  have p_20 : IA Mc19 410 64 (sha tx) := (by have g := hd19; rw [sl64 (by first | omega | (simp only [List.length_append, List.length_cons, List.length_nil, List.length_replicate, sl_len, be_len, sha_len, hmac_len, ex1_len, ex2_len, stretch_len, zer8_len, tC_len, tag1_len, bnN_len, xkp_len, enc_len, chance_len, lbF_len, str2_len, pub_len', sec8_len]; done) | (simp only [List.length_append, List.length_cons, List.length_nil, List.length_replicate, sl_len, be_len, sha_len, hmac_len, ex1_len, ex2_len, stretch_len, zer8_len, tC_len, tag1_len, bnN_len, xkp_len, enc_len, chance_len, lbF_len, str2_len, pub_len', sec8_len]; omega))] at g; exact g)
  refine T_aload_n (v := .ref 373) d_Mo_hash_53 rfl (Or.inr ⟨_, rfl⟩) ?_
  refine T_bipush (v := nI 64) d_Mo_hash_54 (by decide) ?_
  have p_21 := (BG.kp (p_15_1) hK19 (by decide) (by decide))
  obtain ⟨v_22, hov_22, hwv_22, hsv_22, hiv_22⟩ := id p_21
  refine N_put (e := (moO (upd v_22 74 (nI 64)))) d_Mo_hash_56 (fp_Mo_350 _) hov_22 (Nat.le_of_ble_eq_true rfl) ⟨rfl, rfl⟩ rfl (fun M_23 h_24 s_25 => ?_)
  have p_26 := BG.st (j := 74) (by decide) hwv_22 hsv_22 hiv_22 h_24 (Ex.kp s_25)
  refine T_bipush (v := nI 64) d_Mo_hash_59 (by decide) ?_
  have nb_ : NB M_23 sd ch 0 64 0 := ⟨_, p_26, (show (upd (upd (upd w 66 (nI 0)) 73 (nI 0)) 74 (nI 64)) 66 = (nI 0) from rfl), (show (upd (upd (upd w 66 (nI 0)) 73 (nI 0)) 74 (nI 64)) 71 = sd from h71), (show (upd (upd (upd w 66 (nI 0)) 73 (nI 0)) 74 (nI 64)) 72 = (nI ch) from h72), (show (upd (upd (upd w 66 (nI 0)) 73 (nI 0)) 74 (nI 64)) 73 = (nI 0) from rfl), (show (upd (upd (upd w 66 (nI 0)) 73 (nI 0)) 74 (nI 64)) 74 = (nI 64) from rfl)⟩
  have p_27 := (MS.kp ((MS.kp (p_15_0) hK19 (by decide))) (Ex.kp s_25) (by decide))
  have p_28 := (IA.kp (p_20) (Ex.kp s_25) (by decide))
  exact T_ret d_Mo_hash_61 rfl (by first | decide | rfl) (by decide) (by decide) ⟨rfl, p_27, nb_, p_28, (Kp.ex (Kp.tr (Kp.tr (Kp.ex (Kp.tr (Kp.ex (Kp.rf : Kp [373, 374, 380, 381, 382, 383, 410] M M) s_4 (by decide)) (Kp.mono kp_8 (by decide))) s_12 (by decide)) (Kp.mono kp_15 (by decide))) (Kp.mono hK19 (by decide))) s_25 (by decide))⟩
abbrev coW : List Nat := [390, 391, 392, 393, 394, 373, 410]
set_option maxHeartbeats 8000000 in
theorem co_7 (G : GX) {M0 : List va_E} {w : Nat → Int32} {l s : List UInt8}  (hb : BG M0 w l) (hs : IA M0 394 32 s) (hsn : 32 < 2 ^ 31) (ha : 0 + 32 ≤ s.length) (hd : 0 + 32 ≤ 64)  {Q : Option Value → List va_E → Prop} (kk : ∀ M, IA M 410 64 (sl s 0 32) ∧ Kp [410] M0 M → TT G mi_Mo_coded 31 [(0, .ref 373), (1, .int (nI 12))] [] M 0 0 Q) : ∀ j k M, k + j = 32 → IA M 410 64 (sl s 0 k) ∧ Kp [410] M0 M → TT G mi_Mo_coded 7 [(2, .int (nI k)), (0, .ref 373), (1, .int (nI 12))] [] M 0 0 Q := by
  intro j
  induction j with
  | zero =>
    intro k M hk hI
    obtain rfl : 32 = k := by omega
    obtain ⟨hda, hK⟩ := id hI
    refine T_iload_n d_Mo_coded_7 rfl ?_
    refine T_bipush (v := nI 32) d_Mo_coded_8 (by decide) ?_
    refine N_icmp_ge_t (a := 32) (b := 32) d_Mo_coded_10 (tgt := 31) rfl (by omega) (by omega) (by omega) ?_
    exact T_sub (fun q hq => List.mem_cons_of_mem _ hq) (kk M hI)
  | succ j ih =>
    intro k M hk hI
    obtain ⟨hda, hK⟩ := hI
    have hsl := IA.le hs
    refine T_iload_n d_Mo_coded_7 rfl ?_
    refine T_bipush (v := nI 32) d_Mo_coded_8 (by decide) ?_
    refine N_icmp_ge_f (a := 32) (b := k) d_Mo_coded_10 (tgt := 31) rfl (by omega) (by omega) (by omega) ?_
    refine T_aload_n (v := .ref 373) d_Mo_coded_13 rfl (Or.inr ⟨_, rfl⟩) ?_
    have p_1 := (BG.kp (hb) hK (by decide) (by decide))
    obtain ⟨v_2, hov_2, hwv_2, hsv_2, hiv_2⟩ := id p_1
    refine T_getfield (v := .ref 410) d_Mo_coded_14 fg_Mo_347 hov_2 rfl ?_
    refine T_iload_n d_Mo_coded_17 rfl ?_
    refine T_aload_n (v := .ref 373) d_Mo_coded_18 rfl (Or.inr ⟨_, rfl⟩) ?_
    refine T_getfield (v := .ref 394) d_Mo_coded_19 fg_Mo_146 hov_2 rfl ?_
    refine T_iload_n d_Mo_coded_22 rfl ?_
    have p_3 := (IA.kp (hs) hK (by decide))
    obtain ⟨f_4, hf_5, hl_6, hv_7⟩ := id p_3
    refine N_iaload (k := k) (x := (bR (gd s k))) d_Mo_coded_23 hf_5 (by omega) (by decide) (hv_7 k (by first | omega | (simp only [List.length_append, List.length_cons, List.length_nil, List.length_replicate, sl_len, be_len, sha_len, hmac_len, ex1_len, ex2_len, stretch_len, zer8_len, tC_len, tag1_len, bnN_len, xkp_len]; omega))) ?_
    obtain ⟨f_8, hf_9, hl_10, hv_11⟩ := id hda
    refine N_iastore (k := k) d_Mo_coded_24 (by decide) hf_9 (by omega) (by decide) rfl (fun M_12 h_13 s_14 => ?_)
    refine N_iinc (k := k) (m := 1) (c := (k + 1)) (L' := [(2, .int (nI ((k + 1)))), (0, .ref 373), (1, .int (nI 12))]) d_Mo_coded_25 (by decide) rfl (by decide) rfl rfl ?_
    refine T_goto (tgt := 7) d_Mo_coded_28 rfl ?_
    exact ih (k + 1) M_12 (by omega) ⟨ia_c0 h_13 (gd_c (by omega)) (by omega) (by omega) hv_11, (Kp.ex (Kp.tr (Kp.rf : Kp [410] M0 M0) (Kp.mono hK (by decide))) s_14 (by decide))⟩
set_option maxHeartbeats 8000000 in
theorem b_Mo_coded {G : GX} {M : List va_E} {w : Nat → Int32} {P : Fp × Fp} {rs : List UInt8} (hms : MS M) (h : BG M w []) (hP : PTa M P) (hrs : IA M 410 64 rs) : CT G mi_Mo_coded [.ref 373, .int (nI 12)] M (fun r M' => r = some (.int (nI 32)) ∧ MS M' ∧ BG M' (upd w 74 (nI 32)) [] ∧ IA M' 410 64 (enc P) ∧ Kp coW M M') := by
  refine CT.of (by decide) (Nat.le_of_ble_eq_true rfl) ?_
  show TT G mi_Mo_coded 0 [(0, .ref 373), (1, .int (nI 12))] [] M 0 0 _
  refine T_aload_n (v := .ref 373) d_Mo_coded_0 rfl (Or.inr ⟨_, rfl⟩) ?_
  refine T_iload_n d_Mo_coded_1 rfl ?_
  obtain ⟨v_2, hov_2, hwv_2, hsv_2, hiv_2⟩ := id h
  refine T_virtual (as := [.int (nI 12)]) (rest := []) (b := 373) d_Mo_coded_2 rfl (jw_Mo_code.jo (by decide)) lm_Mo_293 ji_Mo_code js_Mo_code hov_2 rfl rfl rfl (Nat.le_of_ble_eq_true rfl) (by decide) (by decide) (b_Mo_code_12 hms h hP) (fun r M_1 hq => ?_)
  obtain ⟨rfl, p_1_0, p_1_1, p_1_2, kp_1⟩ := hq
  refine T_eq (pc' := 5) (L' := [(0, .ref 373), (1, .int (nI 12))]) (st' := []) (M' := M_1) rfl rfl rfl rfl ?_
  refine T_iconst (v := nI 0) d_Mo_coded_5 (by decide) ?_
  refine T_istore_n (L' := [(2, .int (nI 0)), (0, .ref 373), (1, .int (nI 12))]) d_Mo_coded_6 (by decide) rfl ?_
  have p_3 := (BG.kp (h) kp_1 (by decide) (by decide))
  have p_4 := (IA.kp (hrs) kp_1 (by decide))
  refine co_7 G p_3 p_1_2 (by decide) (by first | omega | (simp only [List.length_append, List.length_cons, List.length_nil, List.length_replicate, sl_len, be_len, sha_len, hmac_len, ex1_len, ex2_len, stretch_len, zer8_len, tC_len, tag1_len, bnN_len, xkp_len, enc_len, chance_len, lbF_len, str2_len, pub_len', sec8_len]; done) | (simp only [List.length_append, List.length_cons, List.length_nil, List.length_replicate, sl_len, be_len, sha_len, hmac_len, ex1_len, ex2_len, stretch_len, zer8_len, tC_len, tag1_len, bnN_len, xkp_len, enc_len, chance_len, lbF_len, str2_len, pub_len', sec8_len]; omega)) (by decide) (fun Mc5 hI => ?_) 32 0 M_1 (Nat.zero_add _) ⟨by rw [sl_zero]; exact p_4.iq.ia, Kp.rf⟩
  obtain ⟨hd5, hK5⟩ := hI
  have p_6 : IA Mc5 410 64 (enc P) := (by have g := hd5; rw [sl64 (by first | omega | (simp only [List.length_append, List.length_cons, List.length_nil, List.length_replicate, sl_len, be_len, sha_len, hmac_len, ex1_len, ex2_len, stretch_len, zer8_len, tC_len, tag1_len, bnN_len, xkp_len, enc_len, chance_len, lbF_len, str2_len, pub_len', sec8_len]; done) | (simp only [List.length_append, List.length_cons, List.length_nil, List.length_replicate, sl_len, be_len, sha_len, hmac_len, ex1_len, ex2_len, stretch_len, zer8_len, tC_len, tag1_len, bnN_len, xkp_len, enc_len, chance_len, lbF_len, str2_len, pub_len', sec8_len]; omega))] at g; exact g)
  refine T_aload_n (v := .ref 373) d_Mo_coded_31 rfl (Or.inr ⟨_, rfl⟩) ?_
  refine T_bipush (v := nI 32) d_Mo_coded_32 (by decide) ?_
  have p_7 := (BG.kp (p_3) hK5 (by decide) (by decide))
  obtain ⟨v_8, hov_8, hwv_8, hsv_8, hiv_8⟩ := id p_7
  refine N_put (e := (moO (upd v_8 74 (nI 32)))) d_Mo_coded_34 (fp_Mo_350 _) hov_8 (Nat.le_of_ble_eq_true rfl) ⟨rfl, rfl⟩ rfl (fun M_9 h_10 s_11 => ?_)
  have p_12 := BG.st (j := 74) (by decide) hwv_8 hsv_8 hiv_8 h_10 (Ex.kp s_11)
  refine T_bipush (v := nI 32) d_Mo_coded_37 (by decide) ?_
  have p_13 := (MS.kp ((MS.kp (p_1_0) hK5 (by decide))) (Ex.kp s_11) (by decide))
  have p_14 := (IA.kp (p_6) (Ex.kp s_11) (by decide))
  exact T_ret d_Mo_coded_39 rfl (by decide) (by decide) (by decide) ⟨rfl, p_13, p_12, p_14, (Kp.ex (Kp.tr (Kp.tr (Kp.rf : Kp [390, 391, 392, 393, 394, 373, 410] M M) (Kp.mono kp_1 (by decide))) (Kp.mono hK5 (by decide))) s_11 (by decide))⟩
abbrev pgW : List Nat := [373, 374, 380, 381, 382, 383, 389, 390, 391, 392, 393, 394, 410]
set_option maxHeartbeats 8000000 in
theorem p_Mo_group {G : GX} {M : List va_E} {sd : Int32} {ch n m th : Nat} {tx : List UInt8} {rs : List UInt8} (hms : MS M) (hnb : NB M sd ch n m th) (htx : IA M 409 200 tx) (ltx : tx.length = n) (hrs : IA M 410 64 rs) : CT G mi_Mo_group [.ref 373] M (fun r M' => r = some (.int (nI 32)) ∧ MS M' ∧ NB M' sd ch 0 32 0 ∧ IA M' 410 64 (enc (grp tx)) ∧ Kp pgW M M') := by
  obtain ⟨w, h, h66, h71, h72, h73, h74⟩ := hnb
  have lt2 := htx.le
  refine CT.of (by decide) (Nat.le_of_ble_eq_true rfl) ?_
  show TT G mi_Mo_group 0 [(0, .ref 373)] [] M 0 0 _
  refine T_aload_n (v := .ref 373) d_Mo_group_0 rfl (Or.inr ⟨_, rfl⟩) ?_
  refine T_iconst (v := nI 0) d_Mo_group_1 (by decide) ?_
  obtain ⟨v_1, hov_1, hwv_1, hsv_1, hiv_1⟩ := id h
  refine N_put (e := (moO (upd v_1 66 (nI 0)))) d_Mo_group_2 (fp_Mo_316 _) hov_1 (Nat.le_of_ble_eq_true rfl) ⟨rfl, rfl⟩ rfl (fun M_2 h_3 s_4 => ?_)
  have p_5 := BG.st (j := 66) (by decide) hwv_1 hsv_1 hiv_1 h_3 (Ex.kp s_4)
  refine T_aload_n (v := .ref 373) d_Mo_group_5 rfl (Or.inr ⟨_, rfl⟩) ?_
  obtain ⟨v_6, hov_6, hwv_6, hsv_6, hiv_6⟩ := id p_5
  refine N_getI (x := (v_6 73)) (y := (nI n)) d_Mo_group_6 fg_Mo_344 hov_6 rfl ((hwv_6 73 (by decide)).trans (show (upd w 66 (nI 0)) 73 = (nI n) from h73)) ?_
  refine T_istore_n (L' := [(1, .int (nI n)), (0, .ref 373)]) d_Mo_group_9 (by decide) rfl ?_
  refine T_aload_n (v := .ref 373) d_Mo_group_10 rfl (Or.inr ⟨_, rfl⟩) ?_
  refine T_iconst (v := nI 0) d_Mo_group_11 (by decide) ?_
  refine N_put (e := (moO (upd v_6 73 (nI 0)))) d_Mo_group_12 (fp_Mo_344 _) hov_6 (Nat.le_of_ble_eq_true rfl) ⟨rfl, rfl⟩ rfl (fun M_7 h_8 s_9 => ?_)
  have p_10 := BG.st (j := 73) (by decide) hwv_6 hsv_6 hiv_6 h_8 (Ex.kp s_9)
  refine T_aload_n (v := .ref 373) d_Mo_group_15 rfl (Or.inr ⟨_, rfl⟩) ?_
  refine T_bipush (v := nI 12) d_Mo_group_16 (by decide) ?_
  refine T_aload_n (v := .ref 373) d_Mo_group_18 rfl (Or.inr ⟨_, rfl⟩) ?_
  obtain ⟨v_11, hov_11, hwv_11, hsv_11, hiv_11⟩ := id p_10
  refine T_getfield (v := .ref 409) d_Mo_group_19 fg_Mo_341 hov_11 rfl ?_
  refine T_iload_n d_Mo_group_22 rfl ?_
  have p_12 := (MS.kp ((MS.kp (hms) (Ex.kp s_4) (by decide))) (Ex.kp s_9) (by decide))
  have p_13 := (IA.kp ((IA.kp (htx) (Ex.kp s_4) (by decide))) (Ex.kp s_9) (by decide))
  refine T_virtual (as := [.int (nI 12), .ref 409, .int (nI n)]) (rest := []) (b := 373) d_Mo_group_23 rfl (jw_Mo_groupPoint.jo (by decide)) lm_Mo_495 ji_Mo_groupPoint js_Mo_groupPoint hov_11 rfl rfl rfl (Nat.le_of_ble_eq_true rfl) (by decide) (by decide) (b_Mo_group (n := n) p_12 p_10 p_13 ltx (by decide) (by omega)) (fun r M_14 hq => ?_)
  obtain ⟨rfl, p_14_0, p_14_1, p_14_2, kp_14⟩ := hq
  refine T_eq (pc' := 26) (L' := [(1, .int (nI n)), (0, .ref 373)]) (st' := []) (M' := M_14) rfl rfl rfl rfl ?_
  refine T_aload_n (v := .ref 373) d_Mo_group_26 rfl (Or.inr ⟨_, rfl⟩) ?_
  refine T_bipush (v := nI 12) d_Mo_group_27 (by decide) ?_
  have p_15 := (IA.kp ((IA.kp ((IA.kp (hrs) (Ex.kp s_4) (by decide))) (Ex.kp s_9) (by decide))) kp_14 (by decide))
  obtain ⟨v_17, hov_17, hwv_17, hsv_17, hiv_17⟩ := id p_14_1
  refine T_virtual (as := [.int (nI 12)]) (rest := []) (b := 373) d_Mo_group_29 rfl (jw_Mo_coded.jo (by decide)) lm_Mo_498 ji_Mo_coded js_Mo_coded hov_17 rfl rfl rfl (Nat.le_of_ble_eq_true rfl) (by decide) (by decide) (b_Mo_coded p_14_0 p_14_1 p_14_2 p_15) (fun r M_16 hq => ?_)
  obtain ⟨rfl, p_16_0, p_16_1, p_16_2, kp_16⟩ := hq
  refine T_eq (pc' := 32) (L' := [(1, .int (nI n)), (0, .ref 373)]) (st' := [.int (nI 32)]) (M' := M_16) rfl rfl rfl rfl ?_
  have nb_ : NB M_16 sd ch 0 32 0 := ⟨_, p_16_1, (show (upd (upd (upd w 66 (nI 0)) 73 (nI 0)) 74 (nI 32)) 66 = (nI 0) from rfl), (show (upd (upd (upd w 66 (nI 0)) 73 (nI 0)) 74 (nI 32)) 71 = sd from h71), (show (upd (upd (upd w 66 (nI 0)) 73 (nI 0)) 74 (nI 32)) 72 = (nI ch) from h72), (show (upd (upd (upd w 66 (nI 0)) 73 (nI 0)) 74 (nI 32)) 73 = (nI 0) from rfl), (show (upd (upd (upd w 66 (nI 0)) 73 (nI 0)) 74 (nI 32)) 74 = (nI 32) from rfl)⟩
  exact T_ret d_Mo_group_32 rfl (by first | decide | rfl) (by decide) (by decide) ⟨rfl, p_16_0, nb_, p_16_2, (Kp.tr (Kp.tr (Kp.ex (Kp.ex (Kp.rf : Kp [373, 374, 380, 381, 382, 383, 389, 390, 391, 392, 393, 394, 410] M M) s_4 (by decide)) s_9 (by decide)) (Kp.mono kp_14 (by decide +kernel))) (Kp.mono kp_16 (by decide)))⟩
abbrev ptW : List Nat := [373, 390, 391, 392, 393, 394, 395, 397, 398, 410]
theorem leN_sl {l : List UInt8} {n : Nat} (h : n ≤ l.length) : leN (sl l 0 n) n = leN l n := by
  have : ∀ k, k ≤ n → leN (sl l 0 n) k = leN l k := by
    intro k
    induction k with
    | zero => intro _; rfl
    | succ k ih => intro hk; show leN (sl l 0 n) k + (gd (sl l 0 n) k).toNat * 256 ^ k = leN l k + (gd l k).toNat * 256 ^ k; rw [ih (by omega), sl_gd (by omega), Nat.zero_add]
  exact this n (Nat.le_refl n)
set_option maxHeartbeats 8000000 in
theorem p_Mo_times_ok {G : GX} {M : List va_E} {sd : Int32} {ch n m th : Nat} {tx : List UInt8} {rs : List UInt8} (hms : MS M) (hnb : NB M sd ch n m th) (htx : IA M 409 200 tx) (ltx : tx.length = n) (hrs : IA M 410 64 rs) (hl : 64 ≤ n) (hd : dec (nB tx 32)) : CT G mi_Mo_times [.ref 373] M (fun r M' => r = some (.int (nI 32)) ∧ MS M' ∧ NB M' sd ch 0 32 0 ∧ IA M' 410 64 (enc (emul fD (dPt (nB tx 32)) (leN tx 32 % qN))) ∧ Kp ptW M M') := by
  obtain ⟨w, h, h66, h71, h72, h73, h74⟩ := hnb
  have lt2 := htx.le
  refine CT.of (by decide) (Nat.le_of_ble_eq_true rfl) ?_
  show TT G mi_Mo_times 0 [(0, .ref 373)] [] M 0 0 _
  refine T_aload_n (v := .ref 373) d_Mo_times_0 rfl (Or.inr ⟨_, rfl⟩) ?_
  refine T_iconst (v := nI 0) d_Mo_times_1 (by decide) ?_
  obtain ⟨v_1, hov_1, hwv_1, hsv_1, hiv_1⟩ := id h
  refine N_put (e := (moO (upd v_1 66 (nI 0)))) d_Mo_times_2 (fp_Mo_316 _) hov_1 (Nat.le_of_ble_eq_true rfl) ⟨rfl, rfl⟩ rfl (fun M_2 h_3 s_4 => ?_)
  have p_5 := BG.st (j := 66) (by decide) hwv_1 hsv_1 hiv_1 h_3 (Ex.kp s_4)
  refine T_aload_n (v := .ref 373) d_Mo_times_5 rfl (Or.inr ⟨_, rfl⟩) ?_
  obtain ⟨v_6, hov_6, hwv_6, hsv_6, hiv_6⟩ := id p_5
  refine N_getI (x := (v_6 73)) (y := (nI n)) d_Mo_times_6 fg_Mo_344 hov_6 rfl ((hwv_6 73 (by decide)).trans (show (upd w 66 (nI 0)) 73 = (nI n) from h73)) ?_
  refine T_istore_n (L' := [(1, .int (nI n)), (0, .ref 373)]) d_Mo_times_9 (by decide) rfl ?_
  refine T_aload_n (v := .ref 373) d_Mo_times_10 rfl (Or.inr ⟨_, rfl⟩) ?_
  refine T_iconst (v := nI 0) d_Mo_times_11 (by decide) ?_
  refine N_put (e := (moO (upd v_6 73 (nI 0)))) d_Mo_times_12 (fp_Mo_344 _) hov_6 (Nat.le_of_ble_eq_true rfl) ⟨rfl, rfl⟩ rfl (fun M_7 h_8 s_9 => ?_)
  have p_10 := BG.st (j := 73) (by decide) hwv_6 hsv_6 hiv_6 h_8 (Ex.kp s_9)
  refine T_iload_n d_Mo_times_15 rfl ?_
  refine T_bipush (v := nI 64) d_Mo_times_16 (by decide) ?_
  refine N_icmp_ge_t (a := 64) (b := n) d_Mo_times_18 (tgt := 23) rfl (by omega) (by omega) (by omega) ?_
  refine T_aload_n (v := .ref 373) d_Mo_times_23 rfl (Or.inr ⟨_, rfl⟩) ?_
  refine T_bipush (v := nI 12) d_Mo_times_24 (by decide) ?_
  refine T_aload_n (v := .ref 373) d_Mo_times_26 rfl (Or.inr ⟨_, rfl⟩) ?_
  obtain ⟨v_11, hov_11, hwv_11, hsv_11, hiv_11⟩ := id p_10
  refine T_getfield (v := .ref 409) d_Mo_times_27 fg_Mo_341 hov_11 rfl ?_
  refine T_bipush (v := nI 32) d_Mo_times_30 (by decide) ?_
  have p_13 := (IA.kp ((IA.kp (htx) (Ex.kp s_4) (by decide))) (Ex.kp s_9) (by decide))
  have p_14 := (MS.kp ((MS.kp (hms) (Ex.kp s_4) (by decide))) (Ex.kp s_9) (by decide))
  refine T_virtual (as := [.int (nI 12), .ref 409, .int (nI 32)]) (rest := []) (b := 373) d_Mo_times_32 rfl (jw_Mo_decode.jo (by decide)) lm_Mo_502 ji_Mo_decode js_Mo_decode hov_11 rfl rfl rfl (Nat.le_of_ble_eq_true rfl) (by decide) (by decide) (b_Mo_decode (at0 := 32) p_14 p_10 p_13 (by first | omega | (simp only [List.length_append, List.length_cons, List.length_nil, List.length_replicate, sl_len, be_len, sha_len, hmac_len, ex1_len, ex2_len, stretch_len, zer8_len, tC_len, tag1_len, bnN_len, xkp_len, enc_len, chance_len, lbF_len, str2_len, pub_len', sec8_len]; done) | (simp only [List.length_append, List.length_cons, List.length_nil, List.length_replicate, sl_len, be_len, sha_len, hmac_len, ex1_len, ex2_len, stretch_len, zer8_len, tC_len, tag1_len, bnN_len, xkp_len, enc_len, chance_len, lbF_len, str2_len, pub_len', sec8_len]; omega)) (by decide) (by decide)) (fun r M_12 hq => ?_)
  obtain ⟨rfl, ms_12, pt_12, kp_12⟩ := hq
  rw [if_pos hd]
  have pd_12 := pt_12 hd
  refine T_eq (pc' := 35) (L' := [(1, .int (nI n)), (0, .ref 373)]) (st' := [.int (nI 1)]) (M' := M_12) rfl rfl rfl rfl ?_
  refine N_if_ne_t (b := 1) d_Mo_times_35 (tgt := 40) rfl (by omega) (by omega) ?_
  refine T_aload_n (v := .ref 373) d_Mo_times_40 rfl (Or.inr ⟨_, rfl⟩) ?_
  refine T_aload_n (v := .ref 373) d_Mo_times_41 rfl (Or.inr ⟨_, rfl⟩) ?_
  have p_15 := (BG.kp (p_10) kp_12 (by decide) (by decide))
  obtain ⟨v_16, hov_16, hwv_16, hsv_16, hiv_16⟩ := id p_15
  refine T_getfield (v := .ref 409) d_Mo_times_42 fg_Mo_341 hov_16 rfl ?_
  refine T_iconst (v := nI 0) d_Mo_times_45 (by decide) ?_
  refine T_bipush (v := nI 32) d_Mo_times_46 (by decide) ?_
  have p_17 := (IA.kp (p_13) kp_12 (by decide))
  refine T_virtual (as := [.ref 409, .int (nI 0), .int (nI 32)]) (rest := []) (b := 373) d_Mo_times_48 rfl (jw_Mo_scalarOf.jo (by decide)) lm_Mo_287 ji_Mo_scalarOf js_Mo_scalarOf hov_16 rfl rfl rfl (Nat.le_of_ble_eq_true rfl) (by decide) (by decide) (b_Mo_scalarOf (at0 := 0) (n := 32) ms_12 p_15 p_17 (by first | omega | (simp only [List.length_append, List.length_cons, List.length_nil, List.length_replicate, sl_len, be_len, sha_len, hmac_len, ex1_len, ex2_len, stretch_len, zer8_len, tC_len, tag1_len, bnN_len, xkp_len, enc_len, chance_len, lbF_len, str2_len, pub_len', sec8_len]; done) | (simp only [List.length_append, List.length_cons, List.length_nil, List.length_replicate, sl_len, be_len, sha_len, hmac_len, ex1_len, ex2_len, stretch_len, zer8_len, tC_len, tag1_len, bnN_len, xkp_len, enc_len, chance_len, lbF_len, str2_len, pub_len', sec8_len]; omega)) (by decide) (by decide) (by decide)) (fun r M_18 hq => ?_)
  obtain ⟨rfl, p_18_0, p_18_1, kp_18⟩ := hq
  refine T_eq (pc' := 51) (L' := [(1, .int (nI n)), (0, .ref 373)]) (st' := []) (M' := M_18) rfl rfl rfl rfl ?_
  have p_19 : SC M_18 395 16 0 (leN tx 32 % qN) := (by have g := p_18_1; rw [leN_sl (by omega)] at g; exact g)
  refine T_aload_n (v := .ref 373) d_Mo_times_51 rfl (Or.inr ⟨_, rfl⟩) ?_
  refine T_bipush (v := nI 12) d_Mo_times_52 (by decide) ?_
  refine T_bipush (v := nI 12) d_Mo_times_54 (by decide) ?_
  have p_20 := (BG.kp (p_15) kp_18 (by decide) (by decide))
  have p_21 := (PTa.kp (pd_12) kp_18 (by decide))
  obtain ⟨v_23, hov_23, hwv_23, hsv_23, hiv_23⟩ := id p_20
  refine T_virtual (as := [.int (nI 12), .int (nI 12)]) (rest := []) (b := 373) d_Mo_times_56 rfl (jw_Mo_timesPoint.jo (by decide)) lm_Mo_290 ji_Mo_timesPoint js_Mo_timesPoint hov_23 rfl rfl rfl (Nat.le_of_ble_eq_true rfl) (by decide) (by decide) (b_Mo_times_12 p_18_0 p_20 p_21 p_19 (dPt_on hd) (Nat.lt_trans (Nat.mod_lt _ (by decide)) (by decide))) (fun r M_22 hq => ?_)
  obtain ⟨rfl, p_22_0, p_22_1, kp_22⟩ := hq
  refine T_eq (pc' := 59) (L' := [(1, .int (nI n)), (0, .ref 373)]) (st' := []) (M' := M_22) rfl rfl rfl rfl ?_
  refine T_aload_n (v := .ref 373) d_Mo_times_59 rfl (Or.inr ⟨_, rfl⟩) ?_
  refine T_bipush (v := nI 12) d_Mo_times_60 (by decide) ?_
  have p_24 := (BG.kp (p_20) kp_22 (by decide) (by decide))
  have p_25 := (IA.kp ((IA.kp ((IA.kp ((IA.kp ((IA.kp (hrs) (Ex.kp s_4) (by decide))) (Ex.kp s_9) (by decide))) kp_12 (by decide))) kp_18 (by decide))) kp_22 (by decide))
  obtain ⟨v_27, hov_27, hwv_27, hsv_27, hiv_27⟩ := id p_24
  refine T_virtual (as := [.int (nI 12)]) (rest := []) (b := 373) d_Mo_times_62 rfl (jw_Mo_coded.jo (by decide)) lm_Mo_498 ji_Mo_coded js_Mo_coded hov_27 rfl rfl rfl (Nat.le_of_ble_eq_true rfl) (by decide) (by decide) (b_Mo_coded p_22_0 p_24 p_22_1 p_25) (fun r M_26 hq => ?_)
  obtain ⟨rfl, p_26_0, p_26_1, p_26_2, kp_26⟩ := hq
  refine T_eq (pc' := 65) (L' := [(1, .int (nI n)), (0, .ref 373)]) (st' := [.int (nI 32)]) (M' := M_26) rfl rfl rfl rfl ?_
  have nb_ : NB M_26 sd ch 0 32 0 := ⟨_, p_26_1, (show (upd (upd (upd w 66 (nI 0)) 73 (nI 0)) 74 (nI 32)) 66 = (nI 0) from rfl), (show (upd (upd (upd w 66 (nI 0)) 73 (nI 0)) 74 (nI 32)) 71 = sd from h71), (show (upd (upd (upd w 66 (nI 0)) 73 (nI 0)) 74 (nI 32)) 72 = (nI ch) from h72), (show (upd (upd (upd w 66 (nI 0)) 73 (nI 0)) 74 (nI 32)) 73 = (nI 0) from rfl), (show (upd (upd (upd w 66 (nI 0)) 73 (nI 0)) 74 (nI 32)) 74 = (nI 32) from rfl)⟩
  exact T_ret d_Mo_times_65 rfl (by first | decide | rfl) (by decide) (by decide) ⟨rfl, p_26_0, nb_, p_26_2, (Kp.tr (Kp.tr (Kp.tr (Kp.tr (Kp.ex (Kp.ex (Kp.rf : Kp [373, 390, 391, 392, 393, 394, 395, 397, 398, 410] M M) s_4 (by decide)) s_9 (by decide)) (Kp.mono kp_12 (by decide))) (Kp.mono kp_18 (by decide))) (Kp.mono kp_22 (by decide))) (Kp.mono kp_26 (by decide)))⟩
set_option maxHeartbeats 8000000 in
theorem p_Mo_times_no {G : GX} {M : List va_E} {sd : Int32} {ch n m th : Nat} {tx : List UInt8} {rs : List UInt8} (hms : MS M) (hnb : NB M sd ch n m th) (htx : IA M 409 200 tx) (ltx : tx.length = n) (hrs : IA M 410 64 rs) (hno : ¬ (64 ≤ n ∧ dec (nB tx 32))) : CT G mi_Mo_times [.ref 373] M (fun r M' => r = some (.int (-1)) ∧ MS M' ∧ NB M' sd ch 0 m 0 ∧ IA M' 410 64 rs ∧ Kp ptW M M') := by
  obtain ⟨w, h, h66, h71, h72, h73, h74⟩ := hnb
  have lt2 := htx.le
  refine CT.of (by decide) (Nat.le_of_ble_eq_true rfl) ?_
  show TT G mi_Mo_times 0 [(0, .ref 373)] [] M 0 0 _
  refine T_aload_n (v := .ref 373) d_Mo_times_0 rfl (Or.inr ⟨_, rfl⟩) ?_
  refine T_iconst (v := nI 0) d_Mo_times_1 (by decide) ?_
  obtain ⟨v_1, hov_1, hwv_1, hsv_1, hiv_1⟩ := id h
  refine N_put (e := (moO (upd v_1 66 (nI 0)))) d_Mo_times_2 (fp_Mo_316 _) hov_1 (Nat.le_of_ble_eq_true rfl) ⟨rfl, rfl⟩ rfl (fun M_2 h_3 s_4 => ?_)
  have p_5 := BG.st (j := 66) (by decide) hwv_1 hsv_1 hiv_1 h_3 (Ex.kp s_4)
  refine T_aload_n (v := .ref 373) d_Mo_times_5 rfl (Or.inr ⟨_, rfl⟩) ?_
  obtain ⟨v_6, hov_6, hwv_6, hsv_6, hiv_6⟩ := id p_5
  refine N_getI (x := (v_6 73)) (y := (nI n)) d_Mo_times_6 fg_Mo_344 hov_6 rfl ((hwv_6 73 (by decide)).trans (show (upd w 66 (nI 0)) 73 = (nI n) from h73)) ?_
  refine T_istore_n (L' := [(1, .int (nI n)), (0, .ref 373)]) d_Mo_times_9 (by decide) rfl ?_
  refine T_aload_n (v := .ref 373) d_Mo_times_10 rfl (Or.inr ⟨_, rfl⟩) ?_
  refine T_iconst (v := nI 0) d_Mo_times_11 (by decide) ?_
  refine N_put (e := (moO (upd v_6 73 (nI 0)))) d_Mo_times_12 (fp_Mo_344 _) hov_6 (Nat.le_of_ble_eq_true rfl) ⟨rfl, rfl⟩ rfl (fun M_7 h_8 s_9 => ?_)
  have p_10 := BG.st (j := 73) (by decide) hwv_6 hsv_6 hiv_6 h_8 (Ex.kp s_9)
  refine T_iload_n d_Mo_times_15 rfl ?_
  refine T_bipush (v := nI 64) d_Mo_times_16 (by decide) ?_
  refine N_icmp_ge (a := 64) (b := n) d_Mo_times_18 (tgt := 23) rfl (by omega) (by omega) (fun h64 => ?_) (fun h64 => ?_)
  ·
    refine T_aload_n (v := .ref 373) d_Mo_times_23 rfl (Or.inr ⟨_, rfl⟩) ?_
    refine T_bipush (v := nI 12) d_Mo_times_24 (by decide) ?_
    refine T_aload_n (v := .ref 373) d_Mo_times_26 rfl (Or.inr ⟨_, rfl⟩) ?_
    obtain ⟨v_11, hov_11, hwv_11, hsv_11, hiv_11⟩ := id p_10
    refine T_getfield (v := .ref 409) d_Mo_times_27 fg_Mo_341 hov_11 rfl ?_
    refine T_bipush (v := nI 32) d_Mo_times_30 (by decide) ?_
    have p_13 := (IA.kp ((IA.kp (htx) (Ex.kp s_4) (by decide))) (Ex.kp s_9) (by decide))
    have p_14 := (MS.kp ((MS.kp (hms) (Ex.kp s_4) (by decide))) (Ex.kp s_9) (by decide))
    refine T_virtual (as := [.int (nI 12), .ref 409, .int (nI 32)]) (rest := []) (b := 373) d_Mo_times_32 rfl (jw_Mo_decode.jo (by decide)) lm_Mo_502 ji_Mo_decode js_Mo_decode hov_11 rfl rfl rfl (Nat.le_of_ble_eq_true rfl) (by decide) (by decide) (b_Mo_decode (at0 := 32) p_14 p_10 p_13 (by first | omega | (simp only [List.length_append, List.length_cons, List.length_nil, List.length_replicate, sl_len, be_len, sha_len, hmac_len, ex1_len, ex2_len, stretch_len, zer8_len, tC_len, tag1_len, bnN_len, xkp_len, enc_len, chance_len, lbF_len, str2_len, pub_len', sec8_len]; done) | (simp only [List.length_append, List.length_cons, List.length_nil, List.length_replicate, sl_len, be_len, sha_len, hmac_len, ex1_len, ex2_len, stretch_len, zer8_len, tC_len, tag1_len, bnN_len, xkp_len, enc_len, chance_len, lbF_len, str2_len, pub_len', sec8_len]; omega)) (by decide) (by decide)) (fun r M_12 hq => ?_)
    obtain ⟨rfl, ms_12, pt_12, kp_12⟩ := hq
    rw [if_neg (fun c => hno ⟨h64, c⟩)]
    refine T_eq (pc' := 35) (L' := [(1, .int (nI n)), (0, .ref 373)]) (st' := [.int (nI 0)]) (M' := M_12) rfl rfl rfl rfl ?_
    refine N_if_ne_f (b := 0) d_Mo_times_35 (tgt := 40) rfl (by omega) (by omega) ?_
    refine T_iconst (v := (-1)) d_Mo_times_38 (by decide) ?_
    have p_15 := (BG.kp (p_10) kp_12 (by decide) (by decide))
    have nb_ : NB M_12 sd ch 0 m 0 := ⟨_, p_15, (show (upd (upd w 66 (nI 0)) 73 (nI 0)) 66 = (nI 0) from rfl), (show (upd (upd w 66 (nI 0)) 73 (nI 0)) 71 = sd from h71), (show (upd (upd w 66 (nI 0)) 73 (nI 0)) 72 = (nI ch) from h72), (show (upd (upd w 66 (nI 0)) 73 (nI 0)) 73 = (nI 0) from rfl), (show (upd (upd w 66 (nI 0)) 73 (nI 0)) 74 = (nI m) from h74)⟩
    have p_16 := (IA.kp ((IA.kp ((IA.kp (hrs) (Ex.kp s_4) (by decide))) (Ex.kp s_9) (by decide))) kp_12 (by decide))
    exact T_ret d_Mo_times_39 rfl (by first | decide | rfl) (by decide) (by decide) ⟨rfl, ms_12, nb_, p_16, (Kp.tr (Kp.ex (Kp.ex (Kp.rf : Kp [373, 390, 391, 392, 393, 394, 395, 397, 398, 410] M M) s_4 (by decide)) s_9 (by decide)) (Kp.mono kp_12 (by decide)))⟩
  ·
    refine T_iconst (v := (-1)) d_Mo_times_21 (by decide) ?_
    have nb_ : NB M_7 sd ch 0 m 0 := ⟨_, p_10, (show (upd (upd w 66 (nI 0)) 73 (nI 0)) 66 = (nI 0) from rfl), (show (upd (upd w 66 (nI 0)) 73 (nI 0)) 71 = sd from h71), (show (upd (upd w 66 (nI 0)) 73 (nI 0)) 72 = (nI ch) from h72), (show (upd (upd w 66 (nI 0)) 73 (nI 0)) 73 = (nI 0) from rfl), (show (upd (upd w 66 (nI 0)) 73 (nI 0)) 74 = (nI m) from h74)⟩
    have p_17 := (MS.kp ((MS.kp (hms) (Ex.kp s_4) (by decide))) (Ex.kp s_9) (by decide))
    have p_18 := (IA.kp ((IA.kp (hrs) (Ex.kp s_4) (by decide))) (Ex.kp s_9) (by decide))
    exact T_ret d_Mo_times_22 rfl (by first | decide | rfl) (by decide) (by decide) ⟨rfl, p_17, nb_, p_18, (Kp.ex (Kp.ex (Kp.rf : Kp [373, 390, 391, 392, 393, 394, 395, 397, 398, 410] M M) s_4 (by decide)) s_9 (by decide))⟩
set_option maxHeartbeats 8000000 in
theorem p_Mo_result_in {G : GX} {M : List va_E} {sd : Int32} {ch n m th : Nat} {rs : List UInt8} (hnb : NB M sd ch n m th) (hrs : IA M 410 64 rs) (lrs : rs.length = m) {i : Nat} (hi : i < rs.length) : CT G mi_Mo_result [.ref 373, .int (nI i)] M (fun r M' => r = some (.int (nI (gd rs i).toNat)) ∧ NB M' sd ch n m 0 ∧ Kp [373] M M') := by
  obtain ⟨w, h, h66, h71, h72, h73, h74⟩ := hnb
  have lr2 := hrs.le
  refine CT.of (by decide) (Nat.le_of_ble_eq_true rfl) ?_
  show TT G mi_Mo_result 0 [(0, .ref 373), (1, .int (nI i))] [] M 0 0 _
  refine T_aload_n (v := .ref 373) d_Mo_result_0 rfl (Or.inr ⟨_, rfl⟩) ?_
  refine T_iconst (v := nI 0) d_Mo_result_1 (by decide) ?_
  obtain ⟨v_1, hov_1, hwv_1, hsv_1, hiv_1⟩ := id h
  refine N_put (e := (moO (upd v_1 66 (nI 0)))) d_Mo_result_2 (fp_Mo_316 _) hov_1 (Nat.le_of_ble_eq_true rfl) ⟨rfl, rfl⟩ rfl (fun M_2 h_3 s_4 => ?_)
  have p_5 := BG.st (j := 66) (by decide) hwv_1 hsv_1 hiv_1 h_3 (Ex.kp s_4)
  refine T_iload_n d_Mo_result_5 rfl ?_
  refine N_if_lt_f (b := i) d_Mo_result_6 (tgt := 17) rfl (by omega) (by omega) ?_
  refine T_iload_n d_Mo_result_9 rfl ?_
  refine T_aload_n (v := .ref 373) d_Mo_result_10 rfl (Or.inr ⟨_, rfl⟩) ?_
  obtain ⟨v_6, hov_6, hwv_6, hsv_6, hiv_6⟩ := id p_5
  refine N_getI (x := (v_6 74)) (y := (nI m)) d_Mo_result_11 fg_Mo_350 hov_6 rfl ((hwv_6 74 (by decide)).trans (show (upd w 66 (nI 0)) 74 = (nI m) from h74)) ?_
  refine N_icmp_lt_t (a := m) (b := i) d_Mo_result_14 (tgt := 24) rfl (by omega) (by omega) (by omega) ?_
  refine T_aload_n (v := .ref 373) d_Mo_result_24 rfl (Or.inr ⟨_, rfl⟩) ?_
  refine T_getfield (v := .ref 410) d_Mo_result_25 fg_Mo_347 hov_6 rfl ?_
  refine T_iload_n d_Mo_result_28 rfl ?_
  have p_7 := (IA.kp (hrs) (Ex.kp s_4) (by decide))
  obtain ⟨f_8, hf_9, hl_10, hv_11⟩ := id p_7
  refine N_iaload (k := i) (x := (bR (gd rs i))) d_Mo_result_29 hf_9 (by omega) (by decide) (hv_11 i (by first | omega | (simp only [List.length_append, List.length_cons, List.length_nil, List.length_replicate, sl_len, be_len, sha_len, hmac_len, ex1_len, ex2_len, stretch_len, zer8_len, tC_len, tag1_len, bnN_len, xkp_len, enc_len, chance_len, lbF_len, str2_len, pub_len', sec8_len]; omega))) ?_
  have nb_ : NB M_2 sd ch n m 0 := ⟨_, p_5, (show (upd w 66 (nI 0)) 66 = (nI 0) from rfl), (show (upd w 66 (nI 0)) 71 = sd from h71), (show (upd w 66 (nI 0)) 72 = (nI ch) from h72), (show (upd w 66 (nI 0)) 73 = (nI n) from h73), (show (upd w 66 (nI 0)) 74 = (nI m) from h74)⟩
  exact T_ret d_Mo_result_30 rfl (by first | decide | rfl) (by decide) (by decide) ⟨rfl, nb_, (Kp.ex (Kp.rf : Kp [373] M M) s_4 (by decide))⟩
set_option maxHeartbeats 8000000 in
theorem p_Mo_result_neg {G : GX} {M : List va_E} {sd : Int32} {ch n m th : Nat} {rs : List UInt8} (hnb : NB M sd ch n m th) (hrs : IA M 410 64 rs) (lrs : rs.length = m) {x : Int32} (hx : x < 0) : CT G mi_Mo_result [.ref 373, .int (x)] M (fun r M' => r = some (.int (nI 0)) ∧ NB M' sd ch n m 1 ∧ Kp [373] M M') := by
  obtain ⟨w, h, h66, h71, h72, h73, h74⟩ := hnb
  have lr2 := hrs.le
  refine CT.of (by decide) (Nat.le_of_ble_eq_true rfl) ?_
  show TT G mi_Mo_result 0 [(0, .ref 373), (1, .int x)] [] M 0 0 _
  refine T_aload_n (v := .ref 373) d_Mo_result_0 rfl (Or.inr ⟨_, rfl⟩) ?_
  refine T_iconst (v := nI 0) d_Mo_result_1 (by decide) ?_
  obtain ⟨v_1, hov_1, hwv_1, hsv_1, hiv_1⟩ := id h
  refine N_put (e := (moO (upd v_1 66 (nI 0)))) d_Mo_result_2 (fp_Mo_316 _) hov_1 (Nat.le_of_ble_eq_true rfl) ⟨rfl, rfl⟩ rfl (fun M_2 h_3 s_4 => ?_)
  have p_5 := BG.st (j := 66) (by decide) hwv_1 hsv_1 hiv_1 h_3 (Ex.kp s_4)
  refine T_iload_n d_Mo_result_5 rfl ?_
  refine T_if_lt d_Mo_result_6 (tgt := 17) rfl (fun _ => ?_) (fun c => absurd hx c)
  refine T_aload_n (v := .ref 373) d_Mo_result_17 rfl (Or.inr ⟨_, rfl⟩) ?_
  refine T_iconst (v := nI 1) d_Mo_result_18 (by decide) ?_
  obtain ⟨v_6, hov_6, hwv_6, hsv_6, hiv_6⟩ := id p_5
  refine N_put (e := (moO (upd v_6 66 (nI 1)))) d_Mo_result_19 (fp_Mo_316 _) hov_6 (Nat.le_of_ble_eq_true rfl) ⟨rfl, rfl⟩ rfl (fun M_7 h_8 s_9 => ?_)
  have p_10 := BG.st (j := 66) (by decide) hwv_6 hsv_6 hiv_6 h_8 (Ex.kp s_9)
  refine T_iconst (v := nI 0) d_Mo_result_22 (by decide) ?_
  have nb_ : NB M_7 sd ch n m 1 := ⟨_, p_10, (show (upd (upd w 66 (nI 0)) 66 (nI 1)) 66 = (nI 1) from rfl), (show (upd (upd w 66 (nI 0)) 66 (nI 1)) 71 = sd from h71), (show (upd (upd w 66 (nI 0)) 66 (nI 1)) 72 = (nI ch) from h72), (show (upd (upd w 66 (nI 0)) 66 (nI 1)) 73 = (nI n) from h73), (show (upd (upd w 66 (nI 0)) 66 (nI 1)) 74 = (nI m) from h74)⟩
  exact T_ret d_Mo_result_23 rfl (by first | decide | rfl) (by decide) (by decide) ⟨rfl, nb_, (Kp.ex (Kp.ex (Kp.rf : Kp [373] M M) s_4 (by decide)) s_9 (by decide))⟩
set_option maxHeartbeats 8000000 in
theorem p_Mo_result_big {G : GX} {M : List va_E} {sd : Int32} {ch n m th : Nat} {rs : List UInt8} (hnb : NB M sd ch n m th) (hrs : IA M 410 64 rs) (lrs : rs.length = m) {i : Nat} (hi : rs.length ≤ i) (hi2 : i < 2147483648) : CT G mi_Mo_result [.ref 373, .int (nI i)] M (fun r M' => r = some (.int (nI 0)) ∧ NB M' sd ch n m 1 ∧ Kp [373] M M') := by
  obtain ⟨w, h, h66, h71, h72, h73, h74⟩ := hnb
  have lr2 := hrs.le
  refine CT.of (by decide) (Nat.le_of_ble_eq_true rfl) ?_
  show TT G mi_Mo_result 0 [(0, .ref 373), (1, .int (nI i))] [] M 0 0 _
  refine T_aload_n (v := .ref 373) d_Mo_result_0 rfl (Or.inr ⟨_, rfl⟩) ?_
  refine T_iconst (v := nI 0) d_Mo_result_1 (by decide) ?_
  obtain ⟨v_1, hov_1, hwv_1, hsv_1, hiv_1⟩ := id h
  refine N_put (e := (moO (upd v_1 66 (nI 0)))) d_Mo_result_2 (fp_Mo_316 _) hov_1 (Nat.le_of_ble_eq_true rfl) ⟨rfl, rfl⟩ rfl (fun M_2 h_3 s_4 => ?_)
  have p_5 := BG.st (j := 66) (by decide) hwv_1 hsv_1 hiv_1 h_3 (Ex.kp s_4)
  refine T_iload_n d_Mo_result_5 rfl ?_
  refine N_if_lt_f (b := i) d_Mo_result_6 (tgt := 17) rfl (by omega) (by omega) ?_
  refine T_iload_n d_Mo_result_9 rfl ?_
  refine T_aload_n (v := .ref 373) d_Mo_result_10 rfl (Or.inr ⟨_, rfl⟩) ?_
  obtain ⟨v_6, hov_6, hwv_6, hsv_6, hiv_6⟩ := id p_5
  refine N_getI (x := (v_6 74)) (y := (nI m)) d_Mo_result_11 fg_Mo_350 hov_6 rfl ((hwv_6 74 (by decide)).trans (show (upd w 66 (nI 0)) 74 = (nI m) from h74)) ?_
  refine N_icmp_lt_f (a := m) (b := i) d_Mo_result_14 (tgt := 24) rfl (by omega) (by omega) (by omega) ?_
  refine T_aload_n (v := .ref 373) d_Mo_result_17 rfl (Or.inr ⟨_, rfl⟩) ?_
  refine T_iconst (v := nI 1) d_Mo_result_18 (by decide) ?_
  refine N_put (e := (moO (upd v_6 66 (nI 1)))) d_Mo_result_19 (fp_Mo_316 _) hov_6 (Nat.le_of_ble_eq_true rfl) ⟨rfl, rfl⟩ rfl (fun M_7 h_8 s_9 => ?_)
  have p_10 := BG.st (j := 66) (by decide) hwv_6 hsv_6 hiv_6 h_8 (Ex.kp s_9)
  refine T_iconst (v := nI 0) d_Mo_result_22 (by decide) ?_
  have nb_ : NB M_7 sd ch n m 1 := ⟨_, p_10, (show (upd (upd w 66 (nI 0)) 66 (nI 1)) 66 = (nI 1) from rfl), (show (upd (upd w 66 (nI 0)) 66 (nI 1)) 71 = sd from h71), (show (upd (upd w 66 (nI 0)) 66 (nI 1)) 72 = (nI ch) from h72), (show (upd (upd w 66 (nI 0)) 66 (nI 1)) 73 = (nI n) from h73), (show (upd (upd w 66 (nI 0)) 66 (nI 1)) 74 = (nI m) from h74)⟩
  exact T_ret d_Mo_result_23 rfl (by first | decide | rfl) (by decide) (by decide) ⟨rfl, nb_, (Kp.ex (Kp.ex (Kp.rf : Kp [373] M M) s_4 (by decide)) s_9 (by decide))⟩
theorem p_Mo_thrown {G : GX} {M : List va_E} {sd : Int32} {ch n m th : Nat} (hnb : NB M sd ch n m th) : CT G mi_Mo_thrown [.ref 373] M (fun r M' => r = some (.int (nI th)) ∧ M' = M) := by
  obtain ⟨w, h, h66, h71, h72, h73, h74⟩ := hnb
  refine CT.of (by decide) (Nat.le_of_ble_eq_true rfl) ?_
  show TT G mi_Mo_thrown 0 [(0, .ref 373)] [] M 0 0 _
  refine T_aload_n (v := .ref 373) d_Mo_thrown_0 rfl (Or.inr ⟨_, rfl⟩) ?_
  obtain ⟨v_1, hov_1, hwv_1, hsv_1, hiv_1⟩ := id h
  refine N_getI (x := (v_1 66)) (y := (nI th)) d_Mo_thrown_1 fg_Mo_316 hov_1 rfl ((hwv_1 66 (by decide)).trans (show w 66 = (nI th) from h66)) ?_
  exact T_ret d_Mo_thrown_4 rfl (by first | rfl | decide) (by decide) (by decide) ⟨rfl, rfl⟩
set_option maxHeartbeats 8000000 in
theorem p_Mo_end_in {G : GX} {M : List va_E} {sd : Int32} {ch n m th : Nat} (hnb : NB M sd ch n m th) {k : Nat} (hk : k ≤ n) (hn : n < 2147483648) : CT G mi_Mo_end [.ref 373, .int (nI k)] M (fun r M' => r = some (.int (nI 1)) ∧ NB M' sd ch k m 0 ∧ Kp [373] M M') := by
  obtain ⟨w, h, h66, h71, h72, h73, h74⟩ := hnb
  refine CT.of (by decide) (Nat.le_of_ble_eq_true rfl) ?_
  show TT G mi_Mo_end 0 [(0, .ref 373), (1, .int (nI k))] [] M 0 0 _
  refine T_aload_n (v := .ref 373) d_Mo_end_0 rfl (Or.inr ⟨_, rfl⟩) ?_
  refine T_iconst (v := nI 0) d_Mo_end_1 (by decide) ?_
  obtain ⟨v_1, hov_1, hwv_1, hsv_1, hiv_1⟩ := id h
  refine N_put (e := (moO (upd v_1 66 (nI 0)))) d_Mo_end_2 (fp_Mo_316 _) hov_1 (Nat.le_of_ble_eq_true rfl) ⟨rfl, rfl⟩ rfl (fun M_2 h_3 s_4 => ?_)
  have p_5 := BG.st (j := 66) (by decide) hwv_1 hsv_1 hiv_1 h_3 (Ex.kp s_4)
  refine T_iload_n d_Mo_end_5 rfl ?_
  refine N_if_lt_f (b := k) d_Mo_end_6 (tgt := 17) rfl (by omega) (by omega) ?_
  refine T_iload_n d_Mo_end_9 rfl ?_
  refine T_aload_n (v := .ref 373) d_Mo_end_10 rfl (Or.inr ⟨_, rfl⟩) ?_
  obtain ⟨v_6, hov_6, hwv_6, hsv_6, hiv_6⟩ := id p_5
  refine N_getI (x := (v_6 73)) (y := (nI n)) d_Mo_end_11 fg_Mo_344 hov_6 rfl ((hwv_6 73 (by decide)).trans (show (upd w 66 (nI 0)) 73 = (nI n) from h73)) ?_
  refine N_icmp_le_t (a := n) (b := k) d_Mo_end_14 (tgt := 19) rfl (by omega) (by omega) (by omega) ?_
  refine T_aload_n (v := .ref 373) d_Mo_end_19 rfl (Or.inr ⟨_, rfl⟩) ?_
  refine T_iload_n d_Mo_end_20 rfl ?_
  refine N_put (e := (moO (upd v_6 73 (nI k)))) d_Mo_end_21 (fp_Mo_344 _) hov_6 (Nat.le_of_ble_eq_true rfl) ⟨rfl, rfl⟩ rfl (fun M_7 h_8 s_9 => ?_)
  have p_10 := BG.st (j := 73) (by decide) hwv_6 hsv_6 hiv_6 h_8 (Ex.kp s_9)
  refine T_iconst (v := nI 1) d_Mo_end_24 (by decide) ?_
  have nb_ : NB M_7 sd ch k m 0 := ⟨_, p_10, (show (upd (upd w 66 (nI 0)) 73 (nI k)) 66 = (nI 0) from rfl), (show (upd (upd w 66 (nI 0)) 73 (nI k)) 71 = sd from h71), (show (upd (upd w 66 (nI 0)) 73 (nI k)) 72 = (nI ch) from h72), (show (upd (upd w 66 (nI 0)) 73 (nI k)) 73 = (nI k) from rfl), (show (upd (upd w 66 (nI 0)) 73 (nI k)) 74 = (nI m) from h74)⟩
  exact T_ret d_Mo_end_25 rfl (by first | decide | rfl) (by decide) (by decide) ⟨rfl, nb_, (Kp.ex (Kp.ex (Kp.rf : Kp [373] M M) s_4 (by decide)) s_9 (by decide))⟩
set_option maxHeartbeats 8000000 in
theorem p_Mo_end_neg {G : GX} {M : List va_E} {sd : Int32} {ch n m th : Nat} (hnb : NB M sd ch n m th) {x : Int32} (hx : x < 0) : CT G mi_Mo_end [.ref 373, .int (x)] M (fun r M' => r = some (.int (nI 0)) ∧ NB M' sd ch n m 0 ∧ Kp [373] M M') := by
  obtain ⟨w, h, h66, h71, h72, h73, h74⟩ := hnb
  refine CT.of (by decide) (Nat.le_of_ble_eq_true rfl) ?_
  show TT G mi_Mo_end 0 [(0, .ref 373), (1, .int x)] [] M 0 0 _
  refine T_aload_n (v := .ref 373) d_Mo_end_0 rfl (Or.inr ⟨_, rfl⟩) ?_
  refine T_iconst (v := nI 0) d_Mo_end_1 (by decide) ?_
  obtain ⟨v_1, hov_1, hwv_1, hsv_1, hiv_1⟩ := id h
  refine N_put (e := (moO (upd v_1 66 (nI 0)))) d_Mo_end_2 (fp_Mo_316 _) hov_1 (Nat.le_of_ble_eq_true rfl) ⟨rfl, rfl⟩ rfl (fun M_2 h_3 s_4 => ?_)
  have p_5 := BG.st (j := 66) (by decide) hwv_1 hsv_1 hiv_1 h_3 (Ex.kp s_4)
  refine T_iload_n d_Mo_end_5 rfl ?_
  refine T_if_lt d_Mo_end_6 (tgt := 17) rfl (fun _ => ?_) (fun c => absurd hx c)
  refine T_iconst (v := nI 0) d_Mo_end_17 (by decide) ?_
  have nb_ : NB M_2 sd ch n m 0 := ⟨_, p_5, (show (upd w 66 (nI 0)) 66 = (nI 0) from rfl), (show (upd w 66 (nI 0)) 71 = sd from h71), (show (upd w 66 (nI 0)) 72 = (nI ch) from h72), (show (upd w 66 (nI 0)) 73 = (nI n) from h73), (show (upd w 66 (nI 0)) 74 = (nI m) from h74)⟩
  exact T_ret d_Mo_end_18 rfl (by first | decide | rfl) (by decide) (by decide) ⟨rfl, nb_, (Kp.ex (Kp.rf : Kp [373] M M) s_4 (by decide))⟩
set_option maxHeartbeats 8000000 in
theorem p_Mo_end_big {G : GX} {M : List va_E} {sd : Int32} {ch n m th : Nat} (hnb : NB M sd ch n m th) {k : Nat} (hk : n < k) (hk2 : k < 2147483648) : CT G mi_Mo_end [.ref 373, .int (nI k)] M (fun r M' => r = some (.int (nI 0)) ∧ NB M' sd ch n m 0 ∧ Kp [373] M M') := by
  obtain ⟨w, h, h66, h71, h72, h73, h74⟩ := hnb
  refine CT.of (by decide) (Nat.le_of_ble_eq_true rfl) ?_
  show TT G mi_Mo_end 0 [(0, .ref 373), (1, .int (nI k))] [] M 0 0 _
  refine T_aload_n (v := .ref 373) d_Mo_end_0 rfl (Or.inr ⟨_, rfl⟩) ?_
  refine T_iconst (v := nI 0) d_Mo_end_1 (by decide) ?_
  obtain ⟨v_1, hov_1, hwv_1, hsv_1, hiv_1⟩ := id h
  refine N_put (e := (moO (upd v_1 66 (nI 0)))) d_Mo_end_2 (fp_Mo_316 _) hov_1 (Nat.le_of_ble_eq_true rfl) ⟨rfl, rfl⟩ rfl (fun M_2 h_3 s_4 => ?_)
  have p_5 := BG.st (j := 66) (by decide) hwv_1 hsv_1 hiv_1 h_3 (Ex.kp s_4)
  refine T_iload_n d_Mo_end_5 rfl ?_
  refine N_if_lt_f (b := k) d_Mo_end_6 (tgt := 17) rfl (by omega) (by omega) ?_
  refine T_iload_n d_Mo_end_9 rfl ?_
  refine T_aload_n (v := .ref 373) d_Mo_end_10 rfl (Or.inr ⟨_, rfl⟩) ?_
  obtain ⟨v_6, hov_6, hwv_6, hsv_6, hiv_6⟩ := id p_5
  refine N_getI (x := (v_6 73)) (y := (nI n)) d_Mo_end_11 fg_Mo_344 hov_6 rfl ((hwv_6 73 (by decide)).trans (show (upd w 66 (nI 0)) 73 = (nI n) from h73)) ?_
  refine N_icmp_le_f (a := n) (b := k) d_Mo_end_14 (tgt := 19) rfl (by omega) (by omega) (by omega) ?_
  refine T_iconst (v := nI 0) d_Mo_end_17 (by decide) ?_
  have nb_ : NB M_2 sd ch n m 0 := ⟨_, p_5, (show (upd w 66 (nI 0)) 66 = (nI 0) from rfl), (show (upd w 66 (nI 0)) 71 = sd from h71), (show (upd w 66 (nI 0)) 72 = (nI ch) from h72), (show (upd w 66 (nI 0)) 73 = (nI n) from h73), (show (upd w 66 (nI 0)) 74 = (nI m) from h74)⟩
  exact T_ret d_Mo_end_18 rfl (by first | decide | rfl) (by decide) (by decide) ⟨rfl, nb_, (Kp.ex (Kp.rf : Kp [373] M M) s_4 (by decide))⟩
theorem be_4 (v : Int32) : be v 4 = [u8 (v >>> (nI 24 &&& 31)), u8 (v >>> (nI 16 &&& 31)), u8 (v >>> (nI 8 &&& 31)), u8 (v >>> (nI 0 &&& 31))] := by
  rw [← bn_be v (by decide)]; rfl
theorem ap_4 (t : List UInt8) (v : Int32) : (((t ++ [u8 (v >>> (nI 24 &&& 31))]) ++ [u8 (v >>> (nI 16 &&& 31))]) ++ [u8 (v >>> (nI 8 &&& 31))]) ++ [u8 (v >>> (nI 0 &&& 31))] = t ++ be v 4 := by
  rw [be_4]; simp only [List.append_assoc, List.cons_append, List.nil_append]
set_option maxHeartbeats 8000000 in
theorem p_Mo_feed_no {G : GX} {M : List va_E} {sd : Int32} {ch n m th : Nat} {tx : List UInt8} {x1 x2 x3 x4 x5 : Int32} (hnb : NB M sd ch n m th) (hn : 200 < n + 20) (hn2 : n ≤ 200) : CT G mi_Mo_feed [.ref 373, .int x1, .int x2, .int x3, .int x4, .int x5] M (fun r M' => r = some (.int (nI 0)) ∧ NB M' sd ch n m 0 ∧ Kp [373] M M') := by
  obtain ⟨w, h, h66, h71, h72, h73, h74⟩ := hnb
  refine CT.of (by decide) (Nat.le_of_ble_eq_true rfl) ?_
  show TT G mi_Mo_feed 0 [(0, .ref 373), (1, .int x1), (2, .int x2), (3, .int x3), (4, .int x4), (5, .int x5)] [] M 0 0 _
  refine T_aload_n (v := .ref 373) d_Mo_feed_0 rfl (Or.inr ⟨_, rfl⟩) ?_
  refine T_iconst (v := nI 0) d_Mo_feed_1 (by decide) ?_
  obtain ⟨v_1, hov_1, hwv_1, hsv_1, hiv_1⟩ := id h
  refine N_put (e := (moO (upd v_1 66 (nI 0)))) d_Mo_feed_2 (fp_Mo_316 _) hov_1 (Nat.le_of_ble_eq_true rfl) ⟨rfl, rfl⟩ rfl (fun M_2 h_3 s_4 => ?_)
  have p_5 := BG.st (j := 66) (by decide) hwv_1 hsv_1 hiv_1 h_3 (Ex.kp s_4)
  refine T_aload_n (v := .ref 373) d_Mo_feed_5 rfl (Or.inr ⟨_, rfl⟩) ?_
  obtain ⟨v_6, hov_6, hwv_6, hsv_6, hiv_6⟩ := id p_5
  refine N_getI (x := (v_6 73)) (y := (nI n)) d_Mo_feed_6 fg_Mo_344 hov_6 rfl ((hwv_6 73 (by decide)).trans (show (upd w 66 (nI 0)) 73 = (nI n) from h73)) ?_
  refine T_bipush (v := nI 20) d_Mo_feed_9 (by decide) ?_
  refine N_iadd (a := 20) (b := n) (c := (n + 20)) d_Mo_feed_11 rfl ?_
  refine T_sipush (v := nI 200) d_Mo_feed_12 (by decide) ?_
  refine N_icmp_le_f (a := 200) (b := (n + 20)) d_Mo_feed_15 (tgt := 20) rfl (by omega) (by omega) (by omega) ?_
  refine T_iconst (v := nI 0) d_Mo_feed_18 (by decide) ?_
  have nb_ : NB M_2 sd ch n m 0 := ⟨_, p_5, (show (upd w 66 (nI 0)) 66 = (nI 0) from rfl), (show (upd w 66 (nI 0)) 71 = sd from h71), (show (upd w 66 (nI 0)) 72 = (nI ch) from h72), (show (upd w 66 (nI 0)) 73 = (nI n) from h73), (show (upd w 66 (nI 0)) 74 = (nI m) from h74)⟩
  exact T_ret d_Mo_feed_19 rfl (by first | decide | rfl) (by decide) (by decide) ⟨rfl, nb_, (Kp.ex (Kp.rf : Kp [373] M M) s_4 (by decide))⟩
set_option maxHeartbeats 8000000 in
theorem p_Mo_feed_yes {G : GX} {M : List va_E} {sd : Int32} {ch n m th : Nat} {tx : List UInt8} {x1 x2 x3 x4 x5 : Int32} (hnb : NB M sd ch n m th) (htx : IA M 409 200 tx) (ltx : tx.length = n) (hn : n + 20 ≤ 200) : CT G mi_Mo_feed [.ref 373, .int x1, .int x2, .int x3, .int x4, .int x5] M (fun r M' => r = some (.int (nI 1)) ∧ NB M' sd ch (n + 20) m 0 ∧ IA M' 409 200 (tx ++ fd5 x1 x2 x3 x4 x5) ∧ Kp [373, 409] M M') := by
  obtain ⟨w, h, h66, h71, h72, h73, h74⟩ := hnb
  refine CT.of (by decide) (Nat.le_of_ble_eq_true rfl) ?_
  show TT G mi_Mo_feed 0 [(0, .ref 373), (1, .int x1), (2, .int x2), (3, .int x3), (4, .int x4), (5, .int x5)] [] M 0 0 _
  refine T_aload_n (v := .ref 373) d_Mo_feed_0 rfl (Or.inr ⟨_, rfl⟩) ?_
  refine T_iconst (v := nI 0) d_Mo_feed_1 (by decide) ?_
  obtain ⟨v_1, hov_1, hwv_1, hsv_1, hiv_1⟩ := id h
  refine N_put (e := (moO (upd v_1 66 (nI 0)))) d_Mo_feed_2 (fp_Mo_316 _) hov_1 (Nat.le_of_ble_eq_true rfl) ⟨rfl, rfl⟩ rfl (fun M_2 h_3 s_4 => ?_)
  have p_5 := BG.st (j := 66) (by decide) hwv_1 hsv_1 hiv_1 h_3 (Ex.kp s_4)
  refine T_aload_n (v := .ref 373) d_Mo_feed_5 rfl (Or.inr ⟨_, rfl⟩) ?_
  obtain ⟨v_6, hov_6, hwv_6, hsv_6, hiv_6⟩ := id p_5
  refine N_getI (x := (v_6 73)) (y := (nI n)) d_Mo_feed_6 fg_Mo_344 hov_6 rfl ((hwv_6 73 (by decide)).trans (show (upd w 66 (nI 0)) 73 = (nI n) from h73)) ?_
  refine T_bipush (v := nI 20) d_Mo_feed_9 (by decide) ?_
  refine N_iadd (a := 20) (b := n) (c := (n + 20)) d_Mo_feed_11 rfl ?_
  refine T_sipush (v := nI 200) d_Mo_feed_12 (by decide) ?_
  refine N_icmp_le_t (a := 200) (b := (n + 20)) d_Mo_feed_15 (tgt := 20) rfl (by omega) (by omega) (by omega) ?_
  refine T_iconst (v := nI 0) d_Mo_feed_20 (by decide) ?_
  refine T_istore (L' := [(6, .int (nI 0)), (0, .ref 373), (1, .int x1), (2, .int x2), (3, .int x3), (4, .int x4), (5, .int x5)]) d_Mo_feed_21 (by decide) rfl ?_
  refine T_iload d_Mo_feed_23 rfl ?_
  refine T_bipush (v := nI 20) d_Mo_feed_25 (by decide) ?_
  refine N_icmp_ge_f (a := 20) (b := 0) d_Mo_feed_27 (tgt := 116) rfl (by omega) (by omega) (by omega) ?_
  refine T_iload_n d_Mo_feed_30 rfl ?_
  refine T_istore (L' := [(7, .int x1), (6, .int (nI 0)), (0, .ref 373), (1, .int x1), (2, .int x2), (3, .int x3), (4, .int x4), (5, .int x5)]) d_Mo_feed_31 (by decide) rfl ?_
  refine T_iload d_Mo_feed_33 rfl ?_
  refine T_iconst (v := nI 4) d_Mo_feed_35 (by decide) ?_
  refine N_icmp_lt_t (a := 4) (b := 0) d_Mo_feed_36 (tgt := 42) rfl (by omega) (by omega) (by omega) ?_
  refine T_iload d_Mo_feed_42 rfl ?_
  refine T_bipush (v := nI 8) d_Mo_feed_44 (by decide) ?_
  refine N_icmp_lt_t (a := 8) (b := 0) d_Mo_feed_46 (tgt := 52) rfl (by omega) (by omega) (by omega) ?_
  refine T_iload d_Mo_feed_52 rfl ?_
  refine T_bipush (v := nI 12) d_Mo_feed_54 (by decide) ?_
  refine N_icmp_lt_t (a := 12) (b := 0) d_Mo_feed_56 (tgt := 63) rfl (by omega) (by omega) (by omega) ?_
  refine T_iload d_Mo_feed_63 rfl ?_
  refine T_bipush (v := nI 16) d_Mo_feed_65 (by decide) ?_
  refine N_icmp_lt_t (a := 16) (b := 0) d_Mo_feed_67 (tgt := 74) rfl (by omega) (by omega) (by omega) ?_
  refine T_aload_n (v := .ref 373) d_Mo_feed_74 rfl (Or.inr ⟨_, rfl⟩) ?_
  refine T_getfield (v := .ref 409) d_Mo_feed_75 fg_Mo_341 hov_6 rfl ?_
  refine T_aload_n (v := .ref 373) d_Mo_feed_78 rfl (Or.inr ⟨_, rfl⟩) ?_
  refine N_getI (x := (v_6 73)) (y := (nI n)) d_Mo_feed_79 fg_Mo_344 hov_6 rfl ((hwv_6 73 (by decide)).trans (show (upd w 66 (nI 0)) 73 = (nI n) from h73)) ?_
  refine T_iload d_Mo_feed_82 rfl ?_
  refine T_bipush (v := nI 24) d_Mo_feed_84 (by decide) ?_
  refine T_bipush (v := nI 8) d_Mo_feed_86 (by decide) ?_
  refine T_iload d_Mo_feed_88 rfl ?_
  refine T_iconst (v := nI 3) d_Mo_feed_90 (by decide) ?_
  refine T_iand d_Mo_feed_91 ?_
  refine N_topi (y := (nI 0)) (by decide) ?_
  refine N_imul (a := 0) (b := 8) (c := 0) d_Mo_feed_92 rfl ?_
  refine N_isub (a := 0) (b := 24) (c := 24) d_Mo_feed_93 (by omega) rfl ?_
  refine T_ishr d_Mo_feed_94 ?_
  refine T_sipush (v := nI 255) d_Mo_feed_95 (by decide) ?_
  refine T_iand d_Mo_feed_98 ?_
  rw [i32_255]
  have p_7 := (IA.kp (htx) (Ex.kp s_4) (by decide))
  obtain ⟨f_8, hf_9, hl_10, hv_11⟩ := id p_7
  refine N_iastore (k := n) d_Mo_feed_99 (by decide) hf_9 (by omega) (by decide) rfl (fun M_12 h_13 s_14 => ?_)
  have p_15 := ia_app (l := tx) h_13 (by first | omega | (simp only [List.length_append, List.length_cons, List.length_nil]; omega)) (by first | omega | (simp only [List.length_append, List.length_cons, List.length_nil]; omega)) hv_11
  refine T_aload_n (v := .ref 373) d_Mo_feed_100 rfl (Or.inr ⟨_, rfl⟩) ?_
  refine T_dup d_Mo_feed_101 rfl ?_
  have p_16 := (BG.kp (p_5) (Ex.kp s_14) (by decide) (by decide))
  obtain ⟨v_17, hov_17, hwv_17, hsv_17, hiv_17⟩ := id p_16
  refine N_getI (x := (v_17 73)) (y := (nI n)) d_Mo_feed_102 fg_Mo_344 hov_17 rfl ((hwv_17 73 (by decide)).trans (show (upd w 66 (nI 0)) 73 = (nI n) from h73)) ?_
  refine T_iconst (v := nI 1) d_Mo_feed_105 (by decide) ?_
  refine N_iadd (a := 1) (b := n) (c := (n + 1)) d_Mo_feed_106 rfl ?_
  refine N_put (e := (moO (upd v_17 73 (nI ((n + 1)))))) d_Mo_feed_107 (fp_Mo_344 _) hov_17 (Nat.le_of_ble_eq_true rfl) ⟨rfl, rfl⟩ rfl (fun M_18 h_19 s_20 => ?_)
  have p_21 := BG.st (j := 73) (by decide) hwv_17 hsv_17 hiv_17 h_19 (Ex.kp s_20)
  refine N_iinc (k := 0) (m := 1) (c := 1) (L' := [(6, .int (nI 1)), (7, .int x1), (0, .ref 373), (1, .int x1), (2, .int x2), (3, .int x3), (4, .int x4), (5, .int x5)]) d_Mo_feed_110 (by decide) rfl (by decide) rfl rfl ?_
  refine T_goto (tgt := 23) d_Mo_feed_113 rfl ?_
  refine T_iload d_Mo_feed_23 rfl ?_
  refine T_bipush (v := nI 20) d_Mo_feed_25 (by decide) ?_
  refine N_icmp_ge_f (a := 20) (b := 1) d_Mo_feed_27 (tgt := 116) rfl (by omega) (by omega) (by omega) ?_
  refine T_iload_n d_Mo_feed_30 rfl ?_
  refine T_istore (L' := [(7, .int x1), (6, .int (nI 1)), (0, .ref 373), (1, .int x1), (2, .int x2), (3, .int x3), (4, .int x4), (5, .int x5)]) d_Mo_feed_31 (by decide) rfl ?_
  refine T_iload d_Mo_feed_33 rfl ?_
  refine T_iconst (v := nI 4) d_Mo_feed_35 (by decide) ?_
  refine N_icmp_lt_t (a := 4) (b := 1) d_Mo_feed_36 (tgt := 42) rfl (by omega) (by omega) (by omega) ?_
  refine T_iload d_Mo_feed_42 rfl ?_
  refine T_bipush (v := nI 8) d_Mo_feed_44 (by decide) ?_
  refine N_icmp_lt_t (a := 8) (b := 1) d_Mo_feed_46 (tgt := 52) rfl (by omega) (by omega) (by omega) ?_
  refine T_iload d_Mo_feed_52 rfl ?_
  refine T_bipush (v := nI 12) d_Mo_feed_54 (by decide) ?_
  refine N_icmp_lt_t (a := 12) (b := 1) d_Mo_feed_56 (tgt := 63) rfl (by omega) (by omega) (by omega) ?_
  refine T_iload d_Mo_feed_63 rfl ?_
  refine T_bipush (v := nI 16) d_Mo_feed_65 (by decide) ?_
  refine N_icmp_lt_t (a := 16) (b := 1) d_Mo_feed_67 (tgt := 74) rfl (by omega) (by omega) (by omega) ?_
  refine T_aload_n (v := .ref 373) d_Mo_feed_74 rfl (Or.inr ⟨_, rfl⟩) ?_
  obtain ⟨v_22, hov_22, hwv_22, hsv_22, hiv_22⟩ := id p_21
  refine T_getfield (v := .ref 409) d_Mo_feed_75 fg_Mo_341 hov_22 rfl ?_
  refine T_aload_n (v := .ref 373) d_Mo_feed_78 rfl (Or.inr ⟨_, rfl⟩) ?_
  refine N_getI (x := (v_22 73)) (y := (nI (((n + 1))))) d_Mo_feed_79 fg_Mo_344 hov_22 rfl ((hwv_22 73 (by decide)).trans (show (upd (upd w 66 (nI 0)) 73 (nI ((n + 1)))) 73 = (nI (((n + 1)))) from rfl)) ?_
  refine T_iload d_Mo_feed_82 rfl ?_
  refine T_bipush (v := nI 24) d_Mo_feed_84 (by decide) ?_
  refine T_bipush (v := nI 8) d_Mo_feed_86 (by decide) ?_
  refine T_iload d_Mo_feed_88 rfl ?_
  refine T_iconst (v := nI 3) d_Mo_feed_90 (by decide) ?_
  refine T_iand d_Mo_feed_91 ?_
  refine N_topi (y := (nI 1)) (by decide) ?_
  refine N_imul (a := 1) (b := 8) (c := 8) d_Mo_feed_92 rfl ?_
  refine N_isub (a := 8) (b := 24) (c := 16) d_Mo_feed_93 (by omega) rfl ?_
  refine T_ishr d_Mo_feed_94 ?_
  refine T_sipush (v := nI 255) d_Mo_feed_95 (by decide) ?_
  refine T_iand d_Mo_feed_98 ?_
  rw [i32_255]
  have p_23 := (IA.kp (p_15) (Ex.kp s_20) (by decide))
  obtain ⟨f_24, hf_25, hl_26, hv_27⟩ := id p_23
  refine N_iastore (k := ((n + 1))) d_Mo_feed_99 (by decide) hf_25 (by omega) (by decide) rfl (fun M_28 h_29 s_30 => ?_)
  have p_31 := ia_app (l := (tx ++ [u8 (x1 >>> ((nI 24) &&& 31))])) h_29 (by first | omega | (simp only [List.length_append, List.length_cons, List.length_nil]; omega)) (by first | omega | (simp only [List.length_append, List.length_cons, List.length_nil]; omega)) hv_27
  refine T_aload_n (v := .ref 373) d_Mo_feed_100 rfl (Or.inr ⟨_, rfl⟩) ?_
  refine T_dup d_Mo_feed_101 rfl ?_
  have p_32 := (BG.kp (p_21) (Ex.kp s_30) (by decide) (by decide))
  obtain ⟨v_33, hov_33, hwv_33, hsv_33, hiv_33⟩ := id p_32
  refine N_getI (x := (v_33 73)) (y := (nI (((n + 1))))) d_Mo_feed_102 fg_Mo_344 hov_33 rfl ((hwv_33 73 (by decide)).trans (show (upd (upd w 66 (nI 0)) 73 (nI ((n + 1)))) 73 = (nI (((n + 1)))) from rfl)) ?_
  refine T_iconst (v := nI 1) d_Mo_feed_105 (by decide) ?_
  refine N_iadd (a := 1) (b := ((n + 1))) (c := (((n + 1)) + 1)) d_Mo_feed_106 rfl ?_
  refine N_put (e := (moO (upd v_33 73 (nI ((((n + 1)) + 1)))))) d_Mo_feed_107 (fp_Mo_344 _) hov_33 (Nat.le_of_ble_eq_true rfl) ⟨rfl, rfl⟩ rfl (fun M_34 h_35 s_36 => ?_)
  have p_37 := BG.st (j := 73) (by decide) hwv_33 hsv_33 hiv_33 h_35 (Ex.kp s_36)
  refine N_iinc (k := 1) (m := 1) (c := 2) (L' := [(6, .int (nI 2)), (7, .int x1), (0, .ref 373), (1, .int x1), (2, .int x2), (3, .int x3), (4, .int x4), (5, .int x5)]) d_Mo_feed_110 (by decide) rfl (by decide) rfl rfl ?_
  refine T_goto (tgt := 23) d_Mo_feed_113 rfl ?_
  refine T_iload d_Mo_feed_23 rfl ?_
  refine T_bipush (v := nI 20) d_Mo_feed_25 (by decide) ?_
  refine N_icmp_ge_f (a := 20) (b := 2) d_Mo_feed_27 (tgt := 116) rfl (by omega) (by omega) (by omega) ?_
  refine T_iload_n d_Mo_feed_30 rfl ?_
  refine T_istore (L' := [(7, .int x1), (6, .int (nI 2)), (0, .ref 373), (1, .int x1), (2, .int x2), (3, .int x3), (4, .int x4), (5, .int x5)]) d_Mo_feed_31 (by decide) rfl ?_
  refine T_iload d_Mo_feed_33 rfl ?_
  refine T_iconst (v := nI 4) d_Mo_feed_35 (by decide) ?_
  refine N_icmp_lt_t (a := 4) (b := 2) d_Mo_feed_36 (tgt := 42) rfl (by omega) (by omega) (by omega) ?_
  refine T_iload d_Mo_feed_42 rfl ?_
  refine T_bipush (v := nI 8) d_Mo_feed_44 (by decide) ?_
  refine N_icmp_lt_t (a := 8) (b := 2) d_Mo_feed_46 (tgt := 52) rfl (by omega) (by omega) (by omega) ?_
  refine T_iload d_Mo_feed_52 rfl ?_
  refine T_bipush (v := nI 12) d_Mo_feed_54 (by decide) ?_
  refine N_icmp_lt_t (a := 12) (b := 2) d_Mo_feed_56 (tgt := 63) rfl (by omega) (by omega) (by omega) ?_
  refine T_iload d_Mo_feed_63 rfl ?_
  refine T_bipush (v := nI 16) d_Mo_feed_65 (by decide) ?_
  refine N_icmp_lt_t (a := 16) (b := 2) d_Mo_feed_67 (tgt := 74) rfl (by omega) (by omega) (by omega) ?_
  refine T_aload_n (v := .ref 373) d_Mo_feed_74 rfl (Or.inr ⟨_, rfl⟩) ?_
  obtain ⟨v_38, hov_38, hwv_38, hsv_38, hiv_38⟩ := id p_37
  refine T_getfield (v := .ref 409) d_Mo_feed_75 fg_Mo_341 hov_38 rfl ?_
  refine T_aload_n (v := .ref 373) d_Mo_feed_78 rfl (Or.inr ⟨_, rfl⟩) ?_
  refine N_getI (x := (v_38 73)) (y := (nI (((((n + 1)) + 1))))) d_Mo_feed_79 fg_Mo_344 hov_38 rfl ((hwv_38 73 (by decide)).trans (show (upd (upd (upd w 66 (nI 0)) 73 (nI ((n + 1)))) 73 (nI ((((n + 1)) + 1)))) 73 = (nI (((((n + 1)) + 1)))) from rfl)) ?_
  refine T_iload d_Mo_feed_82 rfl ?_
  refine T_bipush (v := nI 24) d_Mo_feed_84 (by decide) ?_
  refine T_bipush (v := nI 8) d_Mo_feed_86 (by decide) ?_
  refine T_iload d_Mo_feed_88 rfl ?_
  refine T_iconst (v := nI 3) d_Mo_feed_90 (by decide) ?_
  refine T_iand d_Mo_feed_91 ?_
  refine N_topi (y := (nI 2)) (by decide) ?_
  refine N_imul (a := 2) (b := 8) (c := 16) d_Mo_feed_92 rfl ?_
  refine N_isub (a := 16) (b := 24) (c := 8) d_Mo_feed_93 (by omega) rfl ?_
  refine T_ishr d_Mo_feed_94 ?_
  refine T_sipush (v := nI 255) d_Mo_feed_95 (by decide) ?_
  refine T_iand d_Mo_feed_98 ?_
  rw [i32_255]
  have p_39 := (IA.kp (p_31) (Ex.kp s_36) (by decide))
  obtain ⟨f_40, hf_41, hl_42, hv_43⟩ := id p_39
  refine N_iastore (k := ((((n + 1)) + 1))) d_Mo_feed_99 (by decide) hf_41 (by omega) (by decide) rfl (fun M_44 h_45 s_46 => ?_)
  have p_47 := ia_app (l := ((tx ++ [u8 (x1 >>> ((nI 24) &&& 31))]) ++ [u8 (x1 >>> ((nI 16) &&& 31))])) h_45 (by first | omega | (simp only [List.length_append, List.length_cons, List.length_nil]; omega)) (by first | omega | (simp only [List.length_append, List.length_cons, List.length_nil]; omega)) hv_43
  refine T_aload_n (v := .ref 373) d_Mo_feed_100 rfl (Or.inr ⟨_, rfl⟩) ?_
  refine T_dup d_Mo_feed_101 rfl ?_
  have p_48 := (BG.kp (p_37) (Ex.kp s_46) (by decide) (by decide))
  obtain ⟨v_49, hov_49, hwv_49, hsv_49, hiv_49⟩ := id p_48
  refine N_getI (x := (v_49 73)) (y := (nI (((((n + 1)) + 1))))) d_Mo_feed_102 fg_Mo_344 hov_49 rfl ((hwv_49 73 (by decide)).trans (show (upd (upd (upd w 66 (nI 0)) 73 (nI ((n + 1)))) 73 (nI ((((n + 1)) + 1)))) 73 = (nI (((((n + 1)) + 1)))) from rfl)) ?_
  refine T_iconst (v := nI 1) d_Mo_feed_105 (by decide) ?_
  refine N_iadd (a := 1) (b := ((((n + 1)) + 1))) (c := (((((n + 1)) + 1)) + 1)) d_Mo_feed_106 rfl ?_
  refine N_put (e := (moO (upd v_49 73 (nI ((((((n + 1)) + 1)) + 1)))))) d_Mo_feed_107 (fp_Mo_344 _) hov_49 (Nat.le_of_ble_eq_true rfl) ⟨rfl, rfl⟩ rfl (fun M_50 h_51 s_52 => ?_)
  have p_53 := BG.st (j := 73) (by decide) hwv_49 hsv_49 hiv_49 h_51 (Ex.kp s_52)
  refine N_iinc (k := 2) (m := 1) (c := 3) (L' := [(6, .int (nI 3)), (7, .int x1), (0, .ref 373), (1, .int x1), (2, .int x2), (3, .int x3), (4, .int x4), (5, .int x5)]) d_Mo_feed_110 (by decide) rfl (by decide) rfl rfl ?_
  refine T_goto (tgt := 23) d_Mo_feed_113 rfl ?_
  refine T_iload d_Mo_feed_23 rfl ?_
  refine T_bipush (v := nI 20) d_Mo_feed_25 (by decide) ?_
  refine N_icmp_ge_f (a := 20) (b := 3) d_Mo_feed_27 (tgt := 116) rfl (by omega) (by omega) (by omega) ?_
  refine T_iload_n d_Mo_feed_30 rfl ?_
  refine T_istore (L' := [(7, .int x1), (6, .int (nI 3)), (0, .ref 373), (1, .int x1), (2, .int x2), (3, .int x3), (4, .int x4), (5, .int x5)]) d_Mo_feed_31 (by decide) rfl ?_
  refine T_iload d_Mo_feed_33 rfl ?_
  refine T_iconst (v := nI 4) d_Mo_feed_35 (by decide) ?_
  refine N_icmp_lt_t (a := 4) (b := 3) d_Mo_feed_36 (tgt := 42) rfl (by omega) (by omega) (by omega) ?_
  refine T_iload d_Mo_feed_42 rfl ?_
  refine T_bipush (v := nI 8) d_Mo_feed_44 (by decide) ?_
  refine N_icmp_lt_t (a := 8) (b := 3) d_Mo_feed_46 (tgt := 52) rfl (by omega) (by omega) (by omega) ?_
  refine T_iload d_Mo_feed_52 rfl ?_
  refine T_bipush (v := nI 12) d_Mo_feed_54 (by decide) ?_
  refine N_icmp_lt_t (a := 12) (b := 3) d_Mo_feed_56 (tgt := 63) rfl (by omega) (by omega) (by omega) ?_
  refine T_iload d_Mo_feed_63 rfl ?_
  refine T_bipush (v := nI 16) d_Mo_feed_65 (by decide) ?_
  refine N_icmp_lt_t (a := 16) (b := 3) d_Mo_feed_67 (tgt := 74) rfl (by omega) (by omega) (by omega) ?_
  refine T_aload_n (v := .ref 373) d_Mo_feed_74 rfl (Or.inr ⟨_, rfl⟩) ?_
  obtain ⟨v_54, hov_54, hwv_54, hsv_54, hiv_54⟩ := id p_53
  refine T_getfield (v := .ref 409) d_Mo_feed_75 fg_Mo_341 hov_54 rfl ?_
  refine T_aload_n (v := .ref 373) d_Mo_feed_78 rfl (Or.inr ⟨_, rfl⟩) ?_
  refine N_getI (x := (v_54 73)) (y := (nI (((((((n + 1)) + 1)) + 1))))) d_Mo_feed_79 fg_Mo_344 hov_54 rfl ((hwv_54 73 (by decide)).trans (show (upd (upd (upd (upd w 66 (nI 0)) 73 (nI ((n + 1)))) 73 (nI ((((n + 1)) + 1)))) 73 (nI ((((((n + 1)) + 1)) + 1)))) 73 = (nI (((((((n + 1)) + 1)) + 1)))) from rfl)) ?_
  refine T_iload d_Mo_feed_82 rfl ?_
  refine T_bipush (v := nI 24) d_Mo_feed_84 (by decide) ?_
  refine T_bipush (v := nI 8) d_Mo_feed_86 (by decide) ?_
  refine T_iload d_Mo_feed_88 rfl ?_
  refine T_iconst (v := nI 3) d_Mo_feed_90 (by decide) ?_
  refine T_iand d_Mo_feed_91 ?_
  refine N_topi (y := (nI 3)) (by decide) ?_
  refine N_imul (a := 3) (b := 8) (c := 24) d_Mo_feed_92 rfl ?_
  refine N_isub (a := 24) (b := 24) (c := 0) d_Mo_feed_93 (by omega) rfl ?_
  refine T_ishr d_Mo_feed_94 ?_
  refine T_sipush (v := nI 255) d_Mo_feed_95 (by decide) ?_
  refine T_iand d_Mo_feed_98 ?_
  rw [i32_255]
  have p_55 := (IA.kp (p_47) (Ex.kp s_52) (by decide))
  obtain ⟨f_56, hf_57, hl_58, hv_59⟩ := id p_55
  refine N_iastore (k := ((((((n + 1)) + 1)) + 1))) d_Mo_feed_99 (by decide) hf_57 (by omega) (by decide) rfl (fun M_60 h_61 s_62 => ?_)
  have p_63 := ia_app (l := (((tx ++ [u8 (x1 >>> ((nI 24) &&& 31))]) ++ [u8 (x1 >>> ((nI 16) &&& 31))]) ++ [u8 (x1 >>> ((nI 8) &&& 31))])) h_61 (by first | omega | (simp only [List.length_append, List.length_cons, List.length_nil]; omega)) (by first | omega | (simp only [List.length_append, List.length_cons, List.length_nil]; omega)) hv_59
  refine T_aload_n (v := .ref 373) d_Mo_feed_100 rfl (Or.inr ⟨_, rfl⟩) ?_
  refine T_dup d_Mo_feed_101 rfl ?_
  have p_64 := (BG.kp (p_53) (Ex.kp s_62) (by decide) (by decide))
  obtain ⟨v_65, hov_65, hwv_65, hsv_65, hiv_65⟩ := id p_64
  refine N_getI (x := (v_65 73)) (y := (nI (((((((n + 1)) + 1)) + 1))))) d_Mo_feed_102 fg_Mo_344 hov_65 rfl ((hwv_65 73 (by decide)).trans (show (upd (upd (upd (upd w 66 (nI 0)) 73 (nI ((n + 1)))) 73 (nI ((((n + 1)) + 1)))) 73 (nI ((((((n + 1)) + 1)) + 1)))) 73 = (nI (((((((n + 1)) + 1)) + 1)))) from rfl)) ?_
  refine T_iconst (v := nI 1) d_Mo_feed_105 (by decide) ?_
  refine N_iadd (a := 1) (b := ((((((n + 1)) + 1)) + 1))) (c := (((((((n + 1)) + 1)) + 1)) + 1)) d_Mo_feed_106 rfl ?_
  refine N_put (e := (moO (upd v_65 73 (nI ((((((((n + 1)) + 1)) + 1)) + 1)))))) d_Mo_feed_107 (fp_Mo_344 _) hov_65 (Nat.le_of_ble_eq_true rfl) ⟨rfl, rfl⟩ rfl (fun M_66 h_67 s_68 => ?_)
  have p_69 := BG.st (j := 73) (by decide) hwv_65 hsv_65 hiv_65 h_67 (Ex.kp s_68)
  refine N_iinc (k := 3) (m := 1) (c := 4) (L' := [(6, .int (nI 4)), (7, .int x1), (0, .ref 373), (1, .int x1), (2, .int x2), (3, .int x3), (4, .int x4), (5, .int x5)]) d_Mo_feed_110 (by decide) rfl (by decide) rfl rfl ?_
  refine T_goto (tgt := 23) d_Mo_feed_113 rfl ?_
  refine T_iload d_Mo_feed_23 rfl ?_
  refine T_bipush (v := nI 20) d_Mo_feed_25 (by decide) ?_
  refine N_icmp_ge_f (a := 20) (b := 4) d_Mo_feed_27 (tgt := 116) rfl (by omega) (by omega) (by omega) ?_
  refine T_iload_n d_Mo_feed_30 rfl ?_
  refine T_istore (L' := [(7, .int x1), (6, .int (nI 4)), (0, .ref 373), (1, .int x1), (2, .int x2), (3, .int x3), (4, .int x4), (5, .int x5)]) d_Mo_feed_31 (by decide) rfl ?_
  refine T_iload d_Mo_feed_33 rfl ?_
  refine T_iconst (v := nI 4) d_Mo_feed_35 (by decide) ?_
  refine N_icmp_lt_f (a := 4) (b := 4) d_Mo_feed_36 (tgt := 42) rfl (by omega) (by omega) (by omega) ?_
  refine T_iload_n d_Mo_feed_39 rfl ?_
  refine T_istore (L' := [(7, .int x2), (6, .int (nI 4)), (0, .ref 373), (1, .int x1), (2, .int x2), (3, .int x3), (4, .int x4), (5, .int x5)]) d_Mo_feed_40 (by decide) rfl ?_
  refine T_iload d_Mo_feed_42 rfl ?_
  refine T_bipush (v := nI 8) d_Mo_feed_44 (by decide) ?_
  refine N_icmp_lt_t (a := 8) (b := 4) d_Mo_feed_46 (tgt := 52) rfl (by omega) (by omega) (by omega) ?_
  refine T_iload d_Mo_feed_52 rfl ?_
  refine T_bipush (v := nI 12) d_Mo_feed_54 (by decide) ?_
  refine N_icmp_lt_t (a := 12) (b := 4) d_Mo_feed_56 (tgt := 63) rfl (by omega) (by omega) (by omega) ?_
  refine T_iload d_Mo_feed_63 rfl ?_
  refine T_bipush (v := nI 16) d_Mo_feed_65 (by decide) ?_
  refine N_icmp_lt_t (a := 16) (b := 4) d_Mo_feed_67 (tgt := 74) rfl (by omega) (by omega) (by omega) ?_
  refine T_aload_n (v := .ref 373) d_Mo_feed_74 rfl (Or.inr ⟨_, rfl⟩) ?_
  obtain ⟨v_70, hov_70, hwv_70, hsv_70, hiv_70⟩ := id p_69
  refine T_getfield (v := .ref 409) d_Mo_feed_75 fg_Mo_341 hov_70 rfl ?_
  refine T_aload_n (v := .ref 373) d_Mo_feed_78 rfl (Or.inr ⟨_, rfl⟩) ?_
  refine N_getI (x := (v_70 73)) (y := (nI (((((((((n + 1)) + 1)) + 1)) + 1))))) d_Mo_feed_79 fg_Mo_344 hov_70 rfl ((hwv_70 73 (by decide)).trans (show (upd (upd (upd (upd (upd w 66 (nI 0)) 73 (nI ((n + 1)))) 73 (nI ((((n + 1)) + 1)))) 73 (nI ((((((n + 1)) + 1)) + 1)))) 73 (nI ((((((((n + 1)) + 1)) + 1)) + 1)))) 73 = (nI (((((((((n + 1)) + 1)) + 1)) + 1)))) from rfl)) ?_
  refine T_iload d_Mo_feed_82 rfl ?_
  refine T_bipush (v := nI 24) d_Mo_feed_84 (by decide) ?_
  refine T_bipush (v := nI 8) d_Mo_feed_86 (by decide) ?_
  refine T_iload d_Mo_feed_88 rfl ?_
  refine T_iconst (v := nI 3) d_Mo_feed_90 (by decide) ?_
  refine T_iand d_Mo_feed_91 ?_
  refine N_topi (y := (nI 0)) (by decide) ?_
  refine N_imul (a := 0) (b := 8) (c := 0) d_Mo_feed_92 rfl ?_
  refine N_isub (a := 0) (b := 24) (c := 24) d_Mo_feed_93 (by omega) rfl ?_
  refine T_ishr d_Mo_feed_94 ?_
  refine T_sipush (v := nI 255) d_Mo_feed_95 (by decide) ?_
  refine T_iand d_Mo_feed_98 ?_
  rw [i32_255]
  have p_71 := (IA.kp (p_63) (Ex.kp s_68) (by decide))
  obtain ⟨f_72, hf_73, hl_74, hv_75⟩ := id p_71
  refine N_iastore (k := ((((((((n + 1)) + 1)) + 1)) + 1))) d_Mo_feed_99 (by decide) hf_73 (by omega) (by decide) rfl (fun M_76 h_77 s_78 => ?_)
  have p_79 := ia_app (l := ((((tx ++ [u8 (x1 >>> ((nI 24) &&& 31))]) ++ [u8 (x1 >>> ((nI 16) &&& 31))]) ++ [u8 (x1 >>> ((nI 8) &&& 31))]) ++ [u8 (x1 >>> ((nI 0) &&& 31))])) h_77 (by first | omega | (simp only [List.length_append, List.length_cons, List.length_nil]; omega)) (by first | omega | (simp only [List.length_append, List.length_cons, List.length_nil]; omega)) hv_75
  refine T_aload_n (v := .ref 373) d_Mo_feed_100 rfl (Or.inr ⟨_, rfl⟩) ?_
  refine T_dup d_Mo_feed_101 rfl ?_
  have p_80 := (BG.kp (p_69) (Ex.kp s_78) (by decide) (by decide))
  obtain ⟨v_81, hov_81, hwv_81, hsv_81, hiv_81⟩ := id p_80
  refine N_getI (x := (v_81 73)) (y := (nI (((((((((n + 1)) + 1)) + 1)) + 1))))) d_Mo_feed_102 fg_Mo_344 hov_81 rfl ((hwv_81 73 (by decide)).trans (show (upd (upd (upd (upd (upd w 66 (nI 0)) 73 (nI ((n + 1)))) 73 (nI ((((n + 1)) + 1)))) 73 (nI ((((((n + 1)) + 1)) + 1)))) 73 (nI ((((((((n + 1)) + 1)) + 1)) + 1)))) 73 = (nI (((((((((n + 1)) + 1)) + 1)) + 1)))) from rfl)) ?_
  refine T_iconst (v := nI 1) d_Mo_feed_105 (by decide) ?_
  refine N_iadd (a := 1) (b := ((((((((n + 1)) + 1)) + 1)) + 1))) (c := (((((((((n + 1)) + 1)) + 1)) + 1)) + 1)) d_Mo_feed_106 rfl ?_
  refine N_put (e := (moO (upd v_81 73 (nI ((((((((((n + 1)) + 1)) + 1)) + 1)) + 1)))))) d_Mo_feed_107 (fp_Mo_344 _) hov_81 (Nat.le_of_ble_eq_true rfl) ⟨rfl, rfl⟩ rfl (fun M_82 h_83 s_84 => ?_)
  have p_85 := BG.st (j := 73) (by decide) hwv_81 hsv_81 hiv_81 h_83 (Ex.kp s_84)
  refine N_iinc (k := 4) (m := 1) (c := 5) (L' := [(6, .int (nI 5)), (7, .int x2), (0, .ref 373), (1, .int x1), (2, .int x2), (3, .int x3), (4, .int x4), (5, .int x5)]) d_Mo_feed_110 (by decide) rfl (by decide) rfl rfl ?_
  refine T_goto (tgt := 23) d_Mo_feed_113 rfl ?_
  refine T_iload d_Mo_feed_23 rfl ?_
  refine T_bipush (v := nI 20) d_Mo_feed_25 (by decide) ?_
  refine N_icmp_ge_f (a := 20) (b := 5) d_Mo_feed_27 (tgt := 116) rfl (by omega) (by omega) (by omega) ?_
  refine T_iload_n d_Mo_feed_30 rfl ?_
  refine T_istore (L' := [(7, .int x1), (6, .int (nI 5)), (0, .ref 373), (1, .int x1), (2, .int x2), (3, .int x3), (4, .int x4), (5, .int x5)]) d_Mo_feed_31 (by decide) rfl ?_
  refine T_iload d_Mo_feed_33 rfl ?_
  refine T_iconst (v := nI 4) d_Mo_feed_35 (by decide) ?_
  refine N_icmp_lt_f (a := 4) (b := 5) d_Mo_feed_36 (tgt := 42) rfl (by omega) (by omega) (by omega) ?_
  refine T_iload_n d_Mo_feed_39 rfl ?_
  refine T_istore (L' := [(7, .int x2), (6, .int (nI 5)), (0, .ref 373), (1, .int x1), (2, .int x2), (3, .int x3), (4, .int x4), (5, .int x5)]) d_Mo_feed_40 (by decide) rfl ?_
  refine T_iload d_Mo_feed_42 rfl ?_
  refine T_bipush (v := nI 8) d_Mo_feed_44 (by decide) ?_
  refine N_icmp_lt_t (a := 8) (b := 5) d_Mo_feed_46 (tgt := 52) rfl (by omega) (by omega) (by omega) ?_
  refine T_iload d_Mo_feed_52 rfl ?_
  refine T_bipush (v := nI 12) d_Mo_feed_54 (by decide) ?_
  refine N_icmp_lt_t (a := 12) (b := 5) d_Mo_feed_56 (tgt := 63) rfl (by omega) (by omega) (by omega) ?_
  refine T_iload d_Mo_feed_63 rfl ?_
  refine T_bipush (v := nI 16) d_Mo_feed_65 (by decide) ?_
  refine N_icmp_lt_t (a := 16) (b := 5) d_Mo_feed_67 (tgt := 74) rfl (by omega) (by omega) (by omega) ?_
  refine T_aload_n (v := .ref 373) d_Mo_feed_74 rfl (Or.inr ⟨_, rfl⟩) ?_
  obtain ⟨v_86, hov_86, hwv_86, hsv_86, hiv_86⟩ := id p_85
  refine T_getfield (v := .ref 409) d_Mo_feed_75 fg_Mo_341 hov_86 rfl ?_
  refine T_aload_n (v := .ref 373) d_Mo_feed_78 rfl (Or.inr ⟨_, rfl⟩) ?_
  refine N_getI (x := (v_86 73)) (y := (nI (((((((((((n + 1)) + 1)) + 1)) + 1)) + 1))))) d_Mo_feed_79 fg_Mo_344 hov_86 rfl ((hwv_86 73 (by decide)).trans (show (upd (upd (upd (upd (upd (upd w 66 (nI 0)) 73 (nI ((n + 1)))) 73 (nI ((((n + 1)) + 1)))) 73 (nI ((((((n + 1)) + 1)) + 1)))) 73 (nI ((((((((n + 1)) + 1)) + 1)) + 1)))) 73 (nI ((((((((((n + 1)) + 1)) + 1)) + 1)) + 1)))) 73 = (nI (((((((((((n + 1)) + 1)) + 1)) + 1)) + 1)))) from rfl)) ?_
  refine T_iload d_Mo_feed_82 rfl ?_
  refine T_bipush (v := nI 24) d_Mo_feed_84 (by decide) ?_
  refine T_bipush (v := nI 8) d_Mo_feed_86 (by decide) ?_
  refine T_iload d_Mo_feed_88 rfl ?_
  refine T_iconst (v := nI 3) d_Mo_feed_90 (by decide) ?_
  refine T_iand d_Mo_feed_91 ?_
  refine N_topi (y := (nI 1)) (by decide) ?_
  refine N_imul (a := 1) (b := 8) (c := 8) d_Mo_feed_92 rfl ?_
  refine N_isub (a := 8) (b := 24) (c := 16) d_Mo_feed_93 (by omega) rfl ?_
  refine T_ishr d_Mo_feed_94 ?_
  refine T_sipush (v := nI 255) d_Mo_feed_95 (by decide) ?_
  refine T_iand d_Mo_feed_98 ?_
  rw [i32_255]
  have p_87 := (IA.kp (p_79) (Ex.kp s_84) (by decide))
  obtain ⟨f_88, hf_89, hl_90, hv_91⟩ := id p_87
  refine N_iastore (k := ((((((((((n + 1)) + 1)) + 1)) + 1)) + 1))) d_Mo_feed_99 (by decide) hf_89 (by omega) (by decide) rfl (fun M_92 h_93 s_94 => ?_)
  have p_95 := ia_app (l := (((((tx ++ [u8 (x1 >>> ((nI 24) &&& 31))]) ++ [u8 (x1 >>> ((nI 16) &&& 31))]) ++ [u8 (x1 >>> ((nI 8) &&& 31))]) ++ [u8 (x1 >>> ((nI 0) &&& 31))]) ++ [u8 (x2 >>> ((nI 24) &&& 31))])) h_93 (by first | omega | (simp only [List.length_append, List.length_cons, List.length_nil]; omega)) (by first | omega | (simp only [List.length_append, List.length_cons, List.length_nil]; omega)) hv_91
  refine T_aload_n (v := .ref 373) d_Mo_feed_100 rfl (Or.inr ⟨_, rfl⟩) ?_
  refine T_dup d_Mo_feed_101 rfl ?_
  have p_96 := (BG.kp (p_85) (Ex.kp s_94) (by decide) (by decide))
  obtain ⟨v_97, hov_97, hwv_97, hsv_97, hiv_97⟩ := id p_96
  refine N_getI (x := (v_97 73)) (y := (nI (((((((((((n + 1)) + 1)) + 1)) + 1)) + 1))))) d_Mo_feed_102 fg_Mo_344 hov_97 rfl ((hwv_97 73 (by decide)).trans (show (upd (upd (upd (upd (upd (upd w 66 (nI 0)) 73 (nI ((n + 1)))) 73 (nI ((((n + 1)) + 1)))) 73 (nI ((((((n + 1)) + 1)) + 1)))) 73 (nI ((((((((n + 1)) + 1)) + 1)) + 1)))) 73 (nI ((((((((((n + 1)) + 1)) + 1)) + 1)) + 1)))) 73 = (nI (((((((((((n + 1)) + 1)) + 1)) + 1)) + 1)))) from rfl)) ?_
  refine T_iconst (v := nI 1) d_Mo_feed_105 (by decide) ?_
  refine N_iadd (a := 1) (b := ((((((((((n + 1)) + 1)) + 1)) + 1)) + 1))) (c := (((((((((((n + 1)) + 1)) + 1)) + 1)) + 1)) + 1)) d_Mo_feed_106 rfl ?_
  refine N_put (e := (moO (upd v_97 73 (nI ((((((((((((n + 1)) + 1)) + 1)) + 1)) + 1)) + 1)))))) d_Mo_feed_107 (fp_Mo_344 _) hov_97 (Nat.le_of_ble_eq_true rfl) ⟨rfl, rfl⟩ rfl (fun M_98 h_99 s_100 => ?_)
  have p_101 := BG.st (j := 73) (by decide) hwv_97 hsv_97 hiv_97 h_99 (Ex.kp s_100)
  refine N_iinc (k := 5) (m := 1) (c := 6) (L' := [(6, .int (nI 6)), (7, .int x2), (0, .ref 373), (1, .int x1), (2, .int x2), (3, .int x3), (4, .int x4), (5, .int x5)]) d_Mo_feed_110 (by decide) rfl (by decide) rfl rfl ?_
  refine T_goto (tgt := 23) d_Mo_feed_113 rfl ?_
  refine T_iload d_Mo_feed_23 rfl ?_
  refine T_bipush (v := nI 20) d_Mo_feed_25 (by decide) ?_
  refine N_icmp_ge_f (a := 20) (b := 6) d_Mo_feed_27 (tgt := 116) rfl (by omega) (by omega) (by omega) ?_
  refine T_iload_n d_Mo_feed_30 rfl ?_
  refine T_istore (L' := [(7, .int x1), (6, .int (nI 6)), (0, .ref 373), (1, .int x1), (2, .int x2), (3, .int x3), (4, .int x4), (5, .int x5)]) d_Mo_feed_31 (by decide) rfl ?_
  refine T_iload d_Mo_feed_33 rfl ?_
  refine T_iconst (v := nI 4) d_Mo_feed_35 (by decide) ?_
  refine N_icmp_lt_f (a := 4) (b := 6) d_Mo_feed_36 (tgt := 42) rfl (by omega) (by omega) (by omega) ?_
  refine T_iload_n d_Mo_feed_39 rfl ?_
  refine T_istore (L' := [(7, .int x2), (6, .int (nI 6)), (0, .ref 373), (1, .int x1), (2, .int x2), (3, .int x3), (4, .int x4), (5, .int x5)]) d_Mo_feed_40 (by decide) rfl ?_
  refine T_iload d_Mo_feed_42 rfl ?_
  refine T_bipush (v := nI 8) d_Mo_feed_44 (by decide) ?_
  refine N_icmp_lt_t (a := 8) (b := 6) d_Mo_feed_46 (tgt := 52) rfl (by omega) (by omega) (by omega) ?_
  refine T_iload d_Mo_feed_52 rfl ?_
  refine T_bipush (v := nI 12) d_Mo_feed_54 (by decide) ?_
  refine N_icmp_lt_t (a := 12) (b := 6) d_Mo_feed_56 (tgt := 63) rfl (by omega) (by omega) (by omega) ?_
  refine T_iload d_Mo_feed_63 rfl ?_
  refine T_bipush (v := nI 16) d_Mo_feed_65 (by decide) ?_
  refine N_icmp_lt_t (a := 16) (b := 6) d_Mo_feed_67 (tgt := 74) rfl (by omega) (by omega) (by omega) ?_
  refine T_aload_n (v := .ref 373) d_Mo_feed_74 rfl (Or.inr ⟨_, rfl⟩) ?_
  obtain ⟨v_102, hov_102, hwv_102, hsv_102, hiv_102⟩ := id p_101
  refine T_getfield (v := .ref 409) d_Mo_feed_75 fg_Mo_341 hov_102 rfl ?_
  refine T_aload_n (v := .ref 373) d_Mo_feed_78 rfl (Or.inr ⟨_, rfl⟩) ?_
  refine N_getI (x := (v_102 73)) (y := (nI (((((((((((((n + 1)) + 1)) + 1)) + 1)) + 1)) + 1))))) d_Mo_feed_79 fg_Mo_344 hov_102 rfl ((hwv_102 73 (by decide)).trans (show (upd (upd (upd (upd (upd (upd (upd w 66 (nI 0)) 73 (nI ((n + 1)))) 73 (nI ((((n + 1)) + 1)))) 73 (nI ((((((n + 1)) + 1)) + 1)))) 73 (nI ((((((((n + 1)) + 1)) + 1)) + 1)))) 73 (nI ((((((((((n + 1)) + 1)) + 1)) + 1)) + 1)))) 73 (nI ((((((((((((n + 1)) + 1)) + 1)) + 1)) + 1)) + 1)))) 73 = (nI (((((((((((((n + 1)) + 1)) + 1)) + 1)) + 1)) + 1)))) from rfl)) ?_
  refine T_iload d_Mo_feed_82 rfl ?_
  refine T_bipush (v := nI 24) d_Mo_feed_84 (by decide) ?_
  refine T_bipush (v := nI 8) d_Mo_feed_86 (by decide) ?_
  refine T_iload d_Mo_feed_88 rfl ?_
  refine T_iconst (v := nI 3) d_Mo_feed_90 (by decide) ?_
  refine T_iand d_Mo_feed_91 ?_
  refine N_topi (y := (nI 2)) (by decide) ?_
  refine N_imul (a := 2) (b := 8) (c := 16) d_Mo_feed_92 rfl ?_
  refine N_isub (a := 16) (b := 24) (c := 8) d_Mo_feed_93 (by omega) rfl ?_
  refine T_ishr d_Mo_feed_94 ?_
  refine T_sipush (v := nI 255) d_Mo_feed_95 (by decide) ?_
  refine T_iand d_Mo_feed_98 ?_
  rw [i32_255]
  have p_103 := (IA.kp (p_95) (Ex.kp s_100) (by decide))
  obtain ⟨f_104, hf_105, hl_106, hv_107⟩ := id p_103
  refine N_iastore (k := ((((((((((((n + 1)) + 1)) + 1)) + 1)) + 1)) + 1))) d_Mo_feed_99 (by decide) hf_105 (by omega) (by decide) rfl (fun M_108 h_109 s_110 => ?_)
  have p_111 := ia_app (l := ((((((tx ++ [u8 (x1 >>> ((nI 24) &&& 31))]) ++ [u8 (x1 >>> ((nI 16) &&& 31))]) ++ [u8 (x1 >>> ((nI 8) &&& 31))]) ++ [u8 (x1 >>> ((nI 0) &&& 31))]) ++ [u8 (x2 >>> ((nI 24) &&& 31))]) ++ [u8 (x2 >>> ((nI 16) &&& 31))])) h_109 (by first | omega | (simp only [List.length_append, List.length_cons, List.length_nil]; omega)) (by first | omega | (simp only [List.length_append, List.length_cons, List.length_nil]; omega)) hv_107
  refine T_aload_n (v := .ref 373) d_Mo_feed_100 rfl (Or.inr ⟨_, rfl⟩) ?_
  refine T_dup d_Mo_feed_101 rfl ?_
  have p_112 := (BG.kp (p_101) (Ex.kp s_110) (by decide) (by decide))
  obtain ⟨v_113, hov_113, hwv_113, hsv_113, hiv_113⟩ := id p_112
  refine N_getI (x := (v_113 73)) (y := (nI (((((((((((((n + 1)) + 1)) + 1)) + 1)) + 1)) + 1))))) d_Mo_feed_102 fg_Mo_344 hov_113 rfl ((hwv_113 73 (by decide)).trans (show (upd (upd (upd (upd (upd (upd (upd w 66 (nI 0)) 73 (nI ((n + 1)))) 73 (nI ((((n + 1)) + 1)))) 73 (nI ((((((n + 1)) + 1)) + 1)))) 73 (nI ((((((((n + 1)) + 1)) + 1)) + 1)))) 73 (nI ((((((((((n + 1)) + 1)) + 1)) + 1)) + 1)))) 73 (nI ((((((((((((n + 1)) + 1)) + 1)) + 1)) + 1)) + 1)))) 73 = (nI (((((((((((((n + 1)) + 1)) + 1)) + 1)) + 1)) + 1)))) from rfl)) ?_
  refine T_iconst (v := nI 1) d_Mo_feed_105 (by decide) ?_
  refine N_iadd (a := 1) (b := ((((((((((((n + 1)) + 1)) + 1)) + 1)) + 1)) + 1))) (c := (((((((((((((n + 1)) + 1)) + 1)) + 1)) + 1)) + 1)) + 1)) d_Mo_feed_106 rfl ?_
  refine N_put (e := (moO (upd v_113 73 (nI ((((((((((((((n + 1)) + 1)) + 1)) + 1)) + 1)) + 1)) + 1)))))) d_Mo_feed_107 (fp_Mo_344 _) hov_113 (Nat.le_of_ble_eq_true rfl) ⟨rfl, rfl⟩ rfl (fun M_114 h_115 s_116 => ?_)
  have p_117 := BG.st (j := 73) (by decide) hwv_113 hsv_113 hiv_113 h_115 (Ex.kp s_116)
  refine N_iinc (k := 6) (m := 1) (c := 7) (L' := [(6, .int (nI 7)), (7, .int x2), (0, .ref 373), (1, .int x1), (2, .int x2), (3, .int x3), (4, .int x4), (5, .int x5)]) d_Mo_feed_110 (by decide) rfl (by decide) rfl rfl ?_
  refine T_goto (tgt := 23) d_Mo_feed_113 rfl ?_
  refine T_iload d_Mo_feed_23 rfl ?_
  refine T_bipush (v := nI 20) d_Mo_feed_25 (by decide) ?_
  refine N_icmp_ge_f (a := 20) (b := 7) d_Mo_feed_27 (tgt := 116) rfl (by omega) (by omega) (by omega) ?_
  refine T_iload_n d_Mo_feed_30 rfl ?_
  refine T_istore (L' := [(7, .int x1), (6, .int (nI 7)), (0, .ref 373), (1, .int x1), (2, .int x2), (3, .int x3), (4, .int x4), (5, .int x5)]) d_Mo_feed_31 (by decide) rfl ?_
  refine T_iload d_Mo_feed_33 rfl ?_
  refine T_iconst (v := nI 4) d_Mo_feed_35 (by decide) ?_
  refine N_icmp_lt_f (a := 4) (b := 7) d_Mo_feed_36 (tgt := 42) rfl (by omega) (by omega) (by omega) ?_
  refine T_iload_n d_Mo_feed_39 rfl ?_
  refine T_istore (L' := [(7, .int x2), (6, .int (nI 7)), (0, .ref 373), (1, .int x1), (2, .int x2), (3, .int x3), (4, .int x4), (5, .int x5)]) d_Mo_feed_40 (by decide) rfl ?_
  refine T_iload d_Mo_feed_42 rfl ?_
  refine T_bipush (v := nI 8) d_Mo_feed_44 (by decide) ?_
  refine N_icmp_lt_t (a := 8) (b := 7) d_Mo_feed_46 (tgt := 52) rfl (by omega) (by omega) (by omega) ?_
  refine T_iload d_Mo_feed_52 rfl ?_
  refine T_bipush (v := nI 12) d_Mo_feed_54 (by decide) ?_
  refine N_icmp_lt_t (a := 12) (b := 7) d_Mo_feed_56 (tgt := 63) rfl (by omega) (by omega) (by omega) ?_
  refine T_iload d_Mo_feed_63 rfl ?_
  refine T_bipush (v := nI 16) d_Mo_feed_65 (by decide) ?_
  refine N_icmp_lt_t (a := 16) (b := 7) d_Mo_feed_67 (tgt := 74) rfl (by omega) (by omega) (by omega) ?_
  refine T_aload_n (v := .ref 373) d_Mo_feed_74 rfl (Or.inr ⟨_, rfl⟩) ?_
  obtain ⟨v_118, hov_118, hwv_118, hsv_118, hiv_118⟩ := id p_117
  refine T_getfield (v := .ref 409) d_Mo_feed_75 fg_Mo_341 hov_118 rfl ?_
  refine T_aload_n (v := .ref 373) d_Mo_feed_78 rfl (Or.inr ⟨_, rfl⟩) ?_
  refine N_getI (x := (v_118 73)) (y := (nI (((((((((((((((n + 1)) + 1)) + 1)) + 1)) + 1)) + 1)) + 1))))) d_Mo_feed_79 fg_Mo_344 hov_118 rfl ((hwv_118 73 (by decide)).trans (show (upd (upd (upd (upd (upd (upd (upd (upd w 66 (nI 0)) 73 (nI ((n + 1)))) 73 (nI ((((n + 1)) + 1)))) 73 (nI ((((((n + 1)) + 1)) + 1)))) 73 (nI ((((((((n + 1)) + 1)) + 1)) + 1)))) 73 (nI ((((((((((n + 1)) + 1)) + 1)) + 1)) + 1)))) 73 (nI ((((((((((((n + 1)) + 1)) + 1)) + 1)) + 1)) + 1)))) 73 (nI ((((((((((((((n + 1)) + 1)) + 1)) + 1)) + 1)) + 1)) + 1)))) 73 = (nI (((((((((((((((n + 1)) + 1)) + 1)) + 1)) + 1)) + 1)) + 1)))) from rfl)) ?_
  refine T_iload d_Mo_feed_82 rfl ?_
  refine T_bipush (v := nI 24) d_Mo_feed_84 (by decide) ?_
  refine T_bipush (v := nI 8) d_Mo_feed_86 (by decide) ?_
  refine T_iload d_Mo_feed_88 rfl ?_
  refine T_iconst (v := nI 3) d_Mo_feed_90 (by decide) ?_
  refine T_iand d_Mo_feed_91 ?_
  refine N_topi (y := (nI 3)) (by decide) ?_
  refine N_imul (a := 3) (b := 8) (c := 24) d_Mo_feed_92 rfl ?_
  refine N_isub (a := 24) (b := 24) (c := 0) d_Mo_feed_93 (by omega) rfl ?_
  refine T_ishr d_Mo_feed_94 ?_
  refine T_sipush (v := nI 255) d_Mo_feed_95 (by decide) ?_
  refine T_iand d_Mo_feed_98 ?_
  rw [i32_255]
  have p_119 := (IA.kp (p_111) (Ex.kp s_116) (by decide))
  obtain ⟨f_120, hf_121, hl_122, hv_123⟩ := id p_119
  refine N_iastore (k := ((((((((((((((n + 1)) + 1)) + 1)) + 1)) + 1)) + 1)) + 1))) d_Mo_feed_99 (by decide) hf_121 (by omega) (by decide) rfl (fun M_124 h_125 s_126 => ?_)
  have p_127 := ia_app (l := (((((((tx ++ [u8 (x1 >>> ((nI 24) &&& 31))]) ++ [u8 (x1 >>> ((nI 16) &&& 31))]) ++ [u8 (x1 >>> ((nI 8) &&& 31))]) ++ [u8 (x1 >>> ((nI 0) &&& 31))]) ++ [u8 (x2 >>> ((nI 24) &&& 31))]) ++ [u8 (x2 >>> ((nI 16) &&& 31))]) ++ [u8 (x2 >>> ((nI 8) &&& 31))])) h_125 (by first | omega | (simp only [List.length_append, List.length_cons, List.length_nil]; omega)) (by first | omega | (simp only [List.length_append, List.length_cons, List.length_nil]; omega)) hv_123
  refine T_aload_n (v := .ref 373) d_Mo_feed_100 rfl (Or.inr ⟨_, rfl⟩) ?_
  refine T_dup d_Mo_feed_101 rfl ?_
  have p_128 := (BG.kp (p_117) (Ex.kp s_126) (by decide) (by decide))
  obtain ⟨v_129, hov_129, hwv_129, hsv_129, hiv_129⟩ := id p_128
  refine N_getI (x := (v_129 73)) (y := (nI (((((((((((((((n + 1)) + 1)) + 1)) + 1)) + 1)) + 1)) + 1))))) d_Mo_feed_102 fg_Mo_344 hov_129 rfl ((hwv_129 73 (by decide)).trans (show (upd (upd (upd (upd (upd (upd (upd (upd w 66 (nI 0)) 73 (nI ((n + 1)))) 73 (nI ((((n + 1)) + 1)))) 73 (nI ((((((n + 1)) + 1)) + 1)))) 73 (nI ((((((((n + 1)) + 1)) + 1)) + 1)))) 73 (nI ((((((((((n + 1)) + 1)) + 1)) + 1)) + 1)))) 73 (nI ((((((((((((n + 1)) + 1)) + 1)) + 1)) + 1)) + 1)))) 73 (nI ((((((((((((((n + 1)) + 1)) + 1)) + 1)) + 1)) + 1)) + 1)))) 73 = (nI (((((((((((((((n + 1)) + 1)) + 1)) + 1)) + 1)) + 1)) + 1)))) from rfl)) ?_
  refine T_iconst (v := nI 1) d_Mo_feed_105 (by decide) ?_
  refine N_iadd (a := 1) (b := ((((((((((((((n + 1)) + 1)) + 1)) + 1)) + 1)) + 1)) + 1))) (c := (((((((((((((((n + 1)) + 1)) + 1)) + 1)) + 1)) + 1)) + 1)) + 1)) d_Mo_feed_106 rfl ?_
  refine N_put (e := (moO (upd v_129 73 (nI ((((((((((((((((n + 1)) + 1)) + 1)) + 1)) + 1)) + 1)) + 1)) + 1)))))) d_Mo_feed_107 (fp_Mo_344 _) hov_129 (Nat.le_of_ble_eq_true rfl) ⟨rfl, rfl⟩ rfl (fun M_130 h_131 s_132 => ?_)
  have p_133 := BG.st (j := 73) (by decide) hwv_129 hsv_129 hiv_129 h_131 (Ex.kp s_132)
  refine N_iinc (k := 7) (m := 1) (c := 8) (L' := [(6, .int (nI 8)), (7, .int x2), (0, .ref 373), (1, .int x1), (2, .int x2), (3, .int x3), (4, .int x4), (5, .int x5)]) d_Mo_feed_110 (by decide) rfl (by decide) rfl rfl ?_
  refine T_goto (tgt := 23) d_Mo_feed_113 rfl ?_
  refine T_iload d_Mo_feed_23 rfl ?_
  refine T_bipush (v := nI 20) d_Mo_feed_25 (by decide) ?_
  refine N_icmp_ge_f (a := 20) (b := 8) d_Mo_feed_27 (tgt := 116) rfl (by omega) (by omega) (by omega) ?_
  refine T_iload_n d_Mo_feed_30 rfl ?_
  refine T_istore (L' := [(7, .int x1), (6, .int (nI 8)), (0, .ref 373), (1, .int x1), (2, .int x2), (3, .int x3), (4, .int x4), (5, .int x5)]) d_Mo_feed_31 (by decide) rfl ?_
  refine T_iload d_Mo_feed_33 rfl ?_
  refine T_iconst (v := nI 4) d_Mo_feed_35 (by decide) ?_
  refine N_icmp_lt_f (a := 4) (b := 8) d_Mo_feed_36 (tgt := 42) rfl (by omega) (by omega) (by omega) ?_
  refine T_iload_n d_Mo_feed_39 rfl ?_
  refine T_istore (L' := [(7, .int x2), (6, .int (nI 8)), (0, .ref 373), (1, .int x1), (2, .int x2), (3, .int x3), (4, .int x4), (5, .int x5)]) d_Mo_feed_40 (by decide) rfl ?_
  refine T_iload d_Mo_feed_42 rfl ?_
  refine T_bipush (v := nI 8) d_Mo_feed_44 (by decide) ?_
  refine N_icmp_lt_f (a := 8) (b := 8) d_Mo_feed_46 (tgt := 52) rfl (by omega) (by omega) (by omega) ?_
  refine T_iload_n d_Mo_feed_49 rfl ?_
  refine T_istore (L' := [(7, .int x3), (6, .int (nI 8)), (0, .ref 373), (1, .int x1), (2, .int x2), (3, .int x3), (4, .int x4), (5, .int x5)]) d_Mo_feed_50 (by decide) rfl ?_
  refine T_iload d_Mo_feed_52 rfl ?_
  refine T_bipush (v := nI 12) d_Mo_feed_54 (by decide) ?_
  refine N_icmp_lt_t (a := 12) (b := 8) d_Mo_feed_56 (tgt := 63) rfl (by omega) (by omega) (by omega) ?_
  refine T_iload d_Mo_feed_63 rfl ?_
  refine T_bipush (v := nI 16) d_Mo_feed_65 (by decide) ?_
  refine N_icmp_lt_t (a := 16) (b := 8) d_Mo_feed_67 (tgt := 74) rfl (by omega) (by omega) (by omega) ?_
  refine T_aload_n (v := .ref 373) d_Mo_feed_74 rfl (Or.inr ⟨_, rfl⟩) ?_
  obtain ⟨v_134, hov_134, hwv_134, hsv_134, hiv_134⟩ := id p_133
  refine T_getfield (v := .ref 409) d_Mo_feed_75 fg_Mo_341 hov_134 rfl ?_
  refine T_aload_n (v := .ref 373) d_Mo_feed_78 rfl (Or.inr ⟨_, rfl⟩) ?_
  refine N_getI (x := (v_134 73)) (y := (nI (((((((((((((((((n + 1)) + 1)) + 1)) + 1)) + 1)) + 1)) + 1)) + 1))))) d_Mo_feed_79 fg_Mo_344 hov_134 rfl ((hwv_134 73 (by decide)).trans (show (upd (upd (upd (upd (upd (upd (upd (upd (upd w 66 (nI 0)) 73 (nI ((n + 1)))) 73 (nI ((((n + 1)) + 1)))) 73 (nI ((((((n + 1)) + 1)) + 1)))) 73 (nI ((((((((n + 1)) + 1)) + 1)) + 1)))) 73 (nI ((((((((((n + 1)) + 1)) + 1)) + 1)) + 1)))) 73 (nI ((((((((((((n + 1)) + 1)) + 1)) + 1)) + 1)) + 1)))) 73 (nI ((((((((((((((n + 1)) + 1)) + 1)) + 1)) + 1)) + 1)) + 1)))) 73 (nI ((((((((((((((((n + 1)) + 1)) + 1)) + 1)) + 1)) + 1)) + 1)) + 1)))) 73 = (nI (((((((((((((((((n + 1)) + 1)) + 1)) + 1)) + 1)) + 1)) + 1)) + 1)))) from rfl)) ?_
  refine T_iload d_Mo_feed_82 rfl ?_
  refine T_bipush (v := nI 24) d_Mo_feed_84 (by decide) ?_
  refine T_bipush (v := nI 8) d_Mo_feed_86 (by decide) ?_
  refine T_iload d_Mo_feed_88 rfl ?_
  refine T_iconst (v := nI 3) d_Mo_feed_90 (by decide) ?_
  refine T_iand d_Mo_feed_91 ?_
  refine N_topi (y := (nI 0)) (by decide) ?_
  refine N_imul (a := 0) (b := 8) (c := 0) d_Mo_feed_92 rfl ?_
  refine N_isub (a := 0) (b := 24) (c := 24) d_Mo_feed_93 (by omega) rfl ?_
  refine T_ishr d_Mo_feed_94 ?_
  refine T_sipush (v := nI 255) d_Mo_feed_95 (by decide) ?_
  refine T_iand d_Mo_feed_98 ?_
  rw [i32_255]
  have p_135 := (IA.kp (p_127) (Ex.kp s_132) (by decide))
  obtain ⟨f_136, hf_137, hl_138, hv_139⟩ := id p_135
  refine N_iastore (k := ((((((((((((((((n + 1)) + 1)) + 1)) + 1)) + 1)) + 1)) + 1)) + 1))) d_Mo_feed_99 (by decide) hf_137 (by omega) (by decide) rfl (fun M_140 h_141 s_142 => ?_)
  have p_143 := ia_app (l := ((((((((tx ++ [u8 (x1 >>> ((nI 24) &&& 31))]) ++ [u8 (x1 >>> ((nI 16) &&& 31))]) ++ [u8 (x1 >>> ((nI 8) &&& 31))]) ++ [u8 (x1 >>> ((nI 0) &&& 31))]) ++ [u8 (x2 >>> ((nI 24) &&& 31))]) ++ [u8 (x2 >>> ((nI 16) &&& 31))]) ++ [u8 (x2 >>> ((nI 8) &&& 31))]) ++ [u8 (x2 >>> ((nI 0) &&& 31))])) h_141 (by first | omega | (simp only [List.length_append, List.length_cons, List.length_nil]; omega)) (by first | omega | (simp only [List.length_append, List.length_cons, List.length_nil]; omega)) hv_139
  refine T_aload_n (v := .ref 373) d_Mo_feed_100 rfl (Or.inr ⟨_, rfl⟩) ?_
  refine T_dup d_Mo_feed_101 rfl ?_
  have p_144 := (BG.kp (p_133) (Ex.kp s_142) (by decide) (by decide))
  obtain ⟨v_145, hov_145, hwv_145, hsv_145, hiv_145⟩ := id p_144
  refine N_getI (x := (v_145 73)) (y := (nI (((((((((((((((((n + 1)) + 1)) + 1)) + 1)) + 1)) + 1)) + 1)) + 1))))) d_Mo_feed_102 fg_Mo_344 hov_145 rfl ((hwv_145 73 (by decide)).trans (show (upd (upd (upd (upd (upd (upd (upd (upd (upd w 66 (nI 0)) 73 (nI ((n + 1)))) 73 (nI ((((n + 1)) + 1)))) 73 (nI ((((((n + 1)) + 1)) + 1)))) 73 (nI ((((((((n + 1)) + 1)) + 1)) + 1)))) 73 (nI ((((((((((n + 1)) + 1)) + 1)) + 1)) + 1)))) 73 (nI ((((((((((((n + 1)) + 1)) + 1)) + 1)) + 1)) + 1)))) 73 (nI ((((((((((((((n + 1)) + 1)) + 1)) + 1)) + 1)) + 1)) + 1)))) 73 (nI ((((((((((((((((n + 1)) + 1)) + 1)) + 1)) + 1)) + 1)) + 1)) + 1)))) 73 = (nI (((((((((((((((((n + 1)) + 1)) + 1)) + 1)) + 1)) + 1)) + 1)) + 1)))) from rfl)) ?_
  refine T_iconst (v := nI 1) d_Mo_feed_105 (by decide) ?_
  refine N_iadd (a := 1) (b := ((((((((((((((((n + 1)) + 1)) + 1)) + 1)) + 1)) + 1)) + 1)) + 1))) (c := (((((((((((((((((n + 1)) + 1)) + 1)) + 1)) + 1)) + 1)) + 1)) + 1)) + 1)) d_Mo_feed_106 rfl ?_
  refine N_put (e := (moO (upd v_145 73 (nI ((((((((((((((((((n + 1)) + 1)) + 1)) + 1)) + 1)) + 1)) + 1)) + 1)) + 1)))))) d_Mo_feed_107 (fp_Mo_344 _) hov_145 (Nat.le_of_ble_eq_true rfl) ⟨rfl, rfl⟩ rfl (fun M_146 h_147 s_148 => ?_)
  have p_149 := BG.st (j := 73) (by decide) hwv_145 hsv_145 hiv_145 h_147 (Ex.kp s_148)
  refine N_iinc (k := 8) (m := 1) (c := 9) (L' := [(6, .int (nI 9)), (7, .int x3), (0, .ref 373), (1, .int x1), (2, .int x2), (3, .int x3), (4, .int x4), (5, .int x5)]) d_Mo_feed_110 (by decide) rfl (by decide) rfl rfl ?_
  refine T_goto (tgt := 23) d_Mo_feed_113 rfl ?_
  refine T_iload d_Mo_feed_23 rfl ?_
  refine T_bipush (v := nI 20) d_Mo_feed_25 (by decide) ?_
  refine N_icmp_ge_f (a := 20) (b := 9) d_Mo_feed_27 (tgt := 116) rfl (by omega) (by omega) (by omega) ?_
  refine T_iload_n d_Mo_feed_30 rfl ?_
  refine T_istore (L' := [(7, .int x1), (6, .int (nI 9)), (0, .ref 373), (1, .int x1), (2, .int x2), (3, .int x3), (4, .int x4), (5, .int x5)]) d_Mo_feed_31 (by decide) rfl ?_
  refine T_iload d_Mo_feed_33 rfl ?_
  refine T_iconst (v := nI 4) d_Mo_feed_35 (by decide) ?_
  refine N_icmp_lt_f (a := 4) (b := 9) d_Mo_feed_36 (tgt := 42) rfl (by omega) (by omega) (by omega) ?_
  refine T_iload_n d_Mo_feed_39 rfl ?_
  refine T_istore (L' := [(7, .int x2), (6, .int (nI 9)), (0, .ref 373), (1, .int x1), (2, .int x2), (3, .int x3), (4, .int x4), (5, .int x5)]) d_Mo_feed_40 (by decide) rfl ?_
  refine T_iload d_Mo_feed_42 rfl ?_
  refine T_bipush (v := nI 8) d_Mo_feed_44 (by decide) ?_
  refine N_icmp_lt_f (a := 8) (b := 9) d_Mo_feed_46 (tgt := 52) rfl (by omega) (by omega) (by omega) ?_
  refine T_iload_n d_Mo_feed_49 rfl ?_
  refine T_istore (L' := [(7, .int x3), (6, .int (nI 9)), (0, .ref 373), (1, .int x1), (2, .int x2), (3, .int x3), (4, .int x4), (5, .int x5)]) d_Mo_feed_50 (by decide) rfl ?_
  refine T_iload d_Mo_feed_52 rfl ?_
  refine T_bipush (v := nI 12) d_Mo_feed_54 (by decide) ?_
  refine N_icmp_lt_t (a := 12) (b := 9) d_Mo_feed_56 (tgt := 63) rfl (by omega) (by omega) (by omega) ?_
  refine T_iload d_Mo_feed_63 rfl ?_
  refine T_bipush (v := nI 16) d_Mo_feed_65 (by decide) ?_
  refine N_icmp_lt_t (a := 16) (b := 9) d_Mo_feed_67 (tgt := 74) rfl (by omega) (by omega) (by omega) ?_
  refine T_aload_n (v := .ref 373) d_Mo_feed_74 rfl (Or.inr ⟨_, rfl⟩) ?_
  obtain ⟨v_150, hov_150, hwv_150, hsv_150, hiv_150⟩ := id p_149
  refine T_getfield (v := .ref 409) d_Mo_feed_75 fg_Mo_341 hov_150 rfl ?_
  refine T_aload_n (v := .ref 373) d_Mo_feed_78 rfl (Or.inr ⟨_, rfl⟩) ?_
  refine N_getI (x := (v_150 73)) (y := (nI (((((((((((((((((((n + 1)) + 1)) + 1)) + 1)) + 1)) + 1)) + 1)) + 1)) + 1))))) d_Mo_feed_79 fg_Mo_344 hov_150 rfl ((hwv_150 73 (by decide)).trans (show (upd (upd (upd (upd (upd (upd (upd (upd (upd (upd w 66 (nI 0)) 73 (nI ((n + 1)))) 73 (nI ((((n + 1)) + 1)))) 73 (nI ((((((n + 1)) + 1)) + 1)))) 73 (nI ((((((((n + 1)) + 1)) + 1)) + 1)))) 73 (nI ((((((((((n + 1)) + 1)) + 1)) + 1)) + 1)))) 73 (nI ((((((((((((n + 1)) + 1)) + 1)) + 1)) + 1)) + 1)))) 73 (nI ((((((((((((((n + 1)) + 1)) + 1)) + 1)) + 1)) + 1)) + 1)))) 73 (nI ((((((((((((((((n + 1)) + 1)) + 1)) + 1)) + 1)) + 1)) + 1)) + 1)))) 73 (nI ((((((((((((((((((n + 1)) + 1)) + 1)) + 1)) + 1)) + 1)) + 1)) + 1)) + 1)))) 73 = (nI (((((((((((((((((((n + 1)) + 1)) + 1)) + 1)) + 1)) + 1)) + 1)) + 1)) + 1)))) from rfl)) ?_
  refine T_iload d_Mo_feed_82 rfl ?_
  refine T_bipush (v := nI 24) d_Mo_feed_84 (by decide) ?_
  refine T_bipush (v := nI 8) d_Mo_feed_86 (by decide) ?_
  refine T_iload d_Mo_feed_88 rfl ?_
  refine T_iconst (v := nI 3) d_Mo_feed_90 (by decide) ?_
  refine T_iand d_Mo_feed_91 ?_
  refine N_topi (y := (nI 1)) (by decide) ?_
  refine N_imul (a := 1) (b := 8) (c := 8) d_Mo_feed_92 rfl ?_
  refine N_isub (a := 8) (b := 24) (c := 16) d_Mo_feed_93 (by omega) rfl ?_
  refine T_ishr d_Mo_feed_94 ?_
  refine T_sipush (v := nI 255) d_Mo_feed_95 (by decide) ?_
  refine T_iand d_Mo_feed_98 ?_
  rw [i32_255]
  have p_151 := (IA.kp (p_143) (Ex.kp s_148) (by decide))
  obtain ⟨f_152, hf_153, hl_154, hv_155⟩ := id p_151
  refine N_iastore (k := ((((((((((((((((((n + 1)) + 1)) + 1)) + 1)) + 1)) + 1)) + 1)) + 1)) + 1))) d_Mo_feed_99 (by decide) hf_153 (by omega) (by decide) rfl (fun M_156 h_157 s_158 => ?_)
  have p_159 := ia_app (l := (((((((((tx ++ [u8 (x1 >>> ((nI 24) &&& 31))]) ++ [u8 (x1 >>> ((nI 16) &&& 31))]) ++ [u8 (x1 >>> ((nI 8) &&& 31))]) ++ [u8 (x1 >>> ((nI 0) &&& 31))]) ++ [u8 (x2 >>> ((nI 24) &&& 31))]) ++ [u8 (x2 >>> ((nI 16) &&& 31))]) ++ [u8 (x2 >>> ((nI 8) &&& 31))]) ++ [u8 (x2 >>> ((nI 0) &&& 31))]) ++ [u8 (x3 >>> ((nI 24) &&& 31))])) h_157 (by first | omega | (simp only [List.length_append, List.length_cons, List.length_nil]; omega)) (by first | omega | (simp only [List.length_append, List.length_cons, List.length_nil]; omega)) hv_155
  refine T_aload_n (v := .ref 373) d_Mo_feed_100 rfl (Or.inr ⟨_, rfl⟩) ?_
  refine T_dup d_Mo_feed_101 rfl ?_
  have p_160 := (BG.kp (p_149) (Ex.kp s_158) (by decide) (by decide))
  obtain ⟨v_161, hov_161, hwv_161, hsv_161, hiv_161⟩ := id p_160
  refine N_getI (x := (v_161 73)) (y := (nI (((((((((((((((((((n + 1)) + 1)) + 1)) + 1)) + 1)) + 1)) + 1)) + 1)) + 1))))) d_Mo_feed_102 fg_Mo_344 hov_161 rfl ((hwv_161 73 (by decide)).trans (show (upd (upd (upd (upd (upd (upd (upd (upd (upd (upd w 66 (nI 0)) 73 (nI ((n + 1)))) 73 (nI ((((n + 1)) + 1)))) 73 (nI ((((((n + 1)) + 1)) + 1)))) 73 (nI ((((((((n + 1)) + 1)) + 1)) + 1)))) 73 (nI ((((((((((n + 1)) + 1)) + 1)) + 1)) + 1)))) 73 (nI ((((((((((((n + 1)) + 1)) + 1)) + 1)) + 1)) + 1)))) 73 (nI ((((((((((((((n + 1)) + 1)) + 1)) + 1)) + 1)) + 1)) + 1)))) 73 (nI ((((((((((((((((n + 1)) + 1)) + 1)) + 1)) + 1)) + 1)) + 1)) + 1)))) 73 (nI ((((((((((((((((((n + 1)) + 1)) + 1)) + 1)) + 1)) + 1)) + 1)) + 1)) + 1)))) 73 = (nI (((((((((((((((((((n + 1)) + 1)) + 1)) + 1)) + 1)) + 1)) + 1)) + 1)) + 1)))) from rfl)) ?_
  refine T_iconst (v := nI 1) d_Mo_feed_105 (by decide) ?_
  refine N_iadd (a := 1) (b := ((((((((((((((((((n + 1)) + 1)) + 1)) + 1)) + 1)) + 1)) + 1)) + 1)) + 1))) (c := (((((((((((((((((((n + 1)) + 1)) + 1)) + 1)) + 1)) + 1)) + 1)) + 1)) + 1)) + 1)) d_Mo_feed_106 rfl ?_
  refine N_put (e := (moO (upd v_161 73 (nI ((((((((((((((((((((n + 1)) + 1)) + 1)) + 1)) + 1)) + 1)) + 1)) + 1)) + 1)) + 1)))))) d_Mo_feed_107 (fp_Mo_344 _) hov_161 (Nat.le_of_ble_eq_true rfl) ⟨rfl, rfl⟩ rfl (fun M_162 h_163 s_164 => ?_)
  have p_165 := BG.st (j := 73) (by decide) hwv_161 hsv_161 hiv_161 h_163 (Ex.kp s_164)
  refine N_iinc (k := 9) (m := 1) (c := 10) (L' := [(6, .int (nI 10)), (7, .int x3), (0, .ref 373), (1, .int x1), (2, .int x2), (3, .int x3), (4, .int x4), (5, .int x5)]) d_Mo_feed_110 (by decide) rfl (by decide) rfl rfl ?_
  refine T_goto (tgt := 23) d_Mo_feed_113 rfl ?_
  refine T_iload d_Mo_feed_23 rfl ?_
  refine T_bipush (v := nI 20) d_Mo_feed_25 (by decide) ?_
  refine N_icmp_ge_f (a := 20) (b := 10) d_Mo_feed_27 (tgt := 116) rfl (by omega) (by omega) (by omega) ?_
  refine T_iload_n d_Mo_feed_30 rfl ?_
  refine T_istore (L' := [(7, .int x1), (6, .int (nI 10)), (0, .ref 373), (1, .int x1), (2, .int x2), (3, .int x3), (4, .int x4), (5, .int x5)]) d_Mo_feed_31 (by decide) rfl ?_
  refine T_iload d_Mo_feed_33 rfl ?_
  refine T_iconst (v := nI 4) d_Mo_feed_35 (by decide) ?_
  refine N_icmp_lt_f (a := 4) (b := 10) d_Mo_feed_36 (tgt := 42) rfl (by omega) (by omega) (by omega) ?_
  refine T_iload_n d_Mo_feed_39 rfl ?_
  refine T_istore (L' := [(7, .int x2), (6, .int (nI 10)), (0, .ref 373), (1, .int x1), (2, .int x2), (3, .int x3), (4, .int x4), (5, .int x5)]) d_Mo_feed_40 (by decide) rfl ?_
  refine T_iload d_Mo_feed_42 rfl ?_
  refine T_bipush (v := nI 8) d_Mo_feed_44 (by decide) ?_
  refine N_icmp_lt_f (a := 8) (b := 10) d_Mo_feed_46 (tgt := 52) rfl (by omega) (by omega) (by omega) ?_
  refine T_iload_n d_Mo_feed_49 rfl ?_
  refine T_istore (L' := [(7, .int x3), (6, .int (nI 10)), (0, .ref 373), (1, .int x1), (2, .int x2), (3, .int x3), (4, .int x4), (5, .int x5)]) d_Mo_feed_50 (by decide) rfl ?_
  refine T_iload d_Mo_feed_52 rfl ?_
  refine T_bipush (v := nI 12) d_Mo_feed_54 (by decide) ?_
  refine N_icmp_lt_t (a := 12) (b := 10) d_Mo_feed_56 (tgt := 63) rfl (by omega) (by omega) (by omega) ?_
  refine T_iload d_Mo_feed_63 rfl ?_
  refine T_bipush (v := nI 16) d_Mo_feed_65 (by decide) ?_
  refine N_icmp_lt_t (a := 16) (b := 10) d_Mo_feed_67 (tgt := 74) rfl (by omega) (by omega) (by omega) ?_
  refine T_aload_n (v := .ref 373) d_Mo_feed_74 rfl (Or.inr ⟨_, rfl⟩) ?_
  obtain ⟨v_166, hov_166, hwv_166, hsv_166, hiv_166⟩ := id p_165
  refine T_getfield (v := .ref 409) d_Mo_feed_75 fg_Mo_341 hov_166 rfl ?_
  refine T_aload_n (v := .ref 373) d_Mo_feed_78 rfl (Or.inr ⟨_, rfl⟩) ?_
  refine N_getI (x := (v_166 73)) (y := (nI (((((((((((((((((((((n + 1)) + 1)) + 1)) + 1)) + 1)) + 1)) + 1)) + 1)) + 1)) + 1))))) d_Mo_feed_79 fg_Mo_344 hov_166 rfl ((hwv_166 73 (by decide)).trans (show (upd (upd (upd (upd (upd (upd (upd (upd (upd (upd (upd w 66 (nI 0)) 73 (nI ((n + 1)))) 73 (nI ((((n + 1)) + 1)))) 73 (nI ((((((n + 1)) + 1)) + 1)))) 73 (nI ((((((((n + 1)) + 1)) + 1)) + 1)))) 73 (nI ((((((((((n + 1)) + 1)) + 1)) + 1)) + 1)))) 73 (nI ((((((((((((n + 1)) + 1)) + 1)) + 1)) + 1)) + 1)))) 73 (nI ((((((((((((((n + 1)) + 1)) + 1)) + 1)) + 1)) + 1)) + 1)))) 73 (nI ((((((((((((((((n + 1)) + 1)) + 1)) + 1)) + 1)) + 1)) + 1)) + 1)))) 73 (nI ((((((((((((((((((n + 1)) + 1)) + 1)) + 1)) + 1)) + 1)) + 1)) + 1)) + 1)))) 73 (nI ((((((((((((((((((((n + 1)) + 1)) + 1)) + 1)) + 1)) + 1)) + 1)) + 1)) + 1)) + 1)))) 73 = (nI (((((((((((((((((((((n + 1)) + 1)) + 1)) + 1)) + 1)) + 1)) + 1)) + 1)) + 1)) + 1)))) from rfl)) ?_
  refine T_iload d_Mo_feed_82 rfl ?_
  refine T_bipush (v := nI 24) d_Mo_feed_84 (by decide) ?_
  refine T_bipush (v := nI 8) d_Mo_feed_86 (by decide) ?_
  refine T_iload d_Mo_feed_88 rfl ?_
  refine T_iconst (v := nI 3) d_Mo_feed_90 (by decide) ?_
  refine T_iand d_Mo_feed_91 ?_
  refine N_topi (y := (nI 2)) (by decide) ?_
  refine N_imul (a := 2) (b := 8) (c := 16) d_Mo_feed_92 rfl ?_
  refine N_isub (a := 16) (b := 24) (c := 8) d_Mo_feed_93 (by omega) rfl ?_
  refine T_ishr d_Mo_feed_94 ?_
  refine T_sipush (v := nI 255) d_Mo_feed_95 (by decide) ?_
  refine T_iand d_Mo_feed_98 ?_
  rw [i32_255]
  have p_167 := (IA.kp (p_159) (Ex.kp s_164) (by decide))
  obtain ⟨f_168, hf_169, hl_170, hv_171⟩ := id p_167
  refine N_iastore (k := ((((((((((((((((((((n + 1)) + 1)) + 1)) + 1)) + 1)) + 1)) + 1)) + 1)) + 1)) + 1))) d_Mo_feed_99 (by decide) hf_169 (by omega) (by decide) rfl (fun M_172 h_173 s_174 => ?_)
  have p_175 := ia_app (l := ((((((((((tx ++ [u8 (x1 >>> ((nI 24) &&& 31))]) ++ [u8 (x1 >>> ((nI 16) &&& 31))]) ++ [u8 (x1 >>> ((nI 8) &&& 31))]) ++ [u8 (x1 >>> ((nI 0) &&& 31))]) ++ [u8 (x2 >>> ((nI 24) &&& 31))]) ++ [u8 (x2 >>> ((nI 16) &&& 31))]) ++ [u8 (x2 >>> ((nI 8) &&& 31))]) ++ [u8 (x2 >>> ((nI 0) &&& 31))]) ++ [u8 (x3 >>> ((nI 24) &&& 31))]) ++ [u8 (x3 >>> ((nI 16) &&& 31))])) h_173 (by first | omega | (simp only [List.length_append, List.length_cons, List.length_nil]; omega)) (by first | omega | (simp only [List.length_append, List.length_cons, List.length_nil]; omega)) hv_171
  refine T_aload_n (v := .ref 373) d_Mo_feed_100 rfl (Or.inr ⟨_, rfl⟩) ?_
  refine T_dup d_Mo_feed_101 rfl ?_
  have p_176 := (BG.kp (p_165) (Ex.kp s_174) (by decide) (by decide))
  obtain ⟨v_177, hov_177, hwv_177, hsv_177, hiv_177⟩ := id p_176
  refine N_getI (x := (v_177 73)) (y := (nI (((((((((((((((((((((n + 1)) + 1)) + 1)) + 1)) + 1)) + 1)) + 1)) + 1)) + 1)) + 1))))) d_Mo_feed_102 fg_Mo_344 hov_177 rfl ((hwv_177 73 (by decide)).trans (show (upd (upd (upd (upd (upd (upd (upd (upd (upd (upd (upd w 66 (nI 0)) 73 (nI ((n + 1)))) 73 (nI ((((n + 1)) + 1)))) 73 (nI ((((((n + 1)) + 1)) + 1)))) 73 (nI ((((((((n + 1)) + 1)) + 1)) + 1)))) 73 (nI ((((((((((n + 1)) + 1)) + 1)) + 1)) + 1)))) 73 (nI ((((((((((((n + 1)) + 1)) + 1)) + 1)) + 1)) + 1)))) 73 (nI ((((((((((((((n + 1)) + 1)) + 1)) + 1)) + 1)) + 1)) + 1)))) 73 (nI ((((((((((((((((n + 1)) + 1)) + 1)) + 1)) + 1)) + 1)) + 1)) + 1)))) 73 (nI ((((((((((((((((((n + 1)) + 1)) + 1)) + 1)) + 1)) + 1)) + 1)) + 1)) + 1)))) 73 (nI ((((((((((((((((((((n + 1)) + 1)) + 1)) + 1)) + 1)) + 1)) + 1)) + 1)) + 1)) + 1)))) 73 = (nI (((((((((((((((((((((n + 1)) + 1)) + 1)) + 1)) + 1)) + 1)) + 1)) + 1)) + 1)) + 1)))) from rfl)) ?_
  refine T_iconst (v := nI 1) d_Mo_feed_105 (by decide) ?_
  refine N_iadd (a := 1) (b := ((((((((((((((((((((n + 1)) + 1)) + 1)) + 1)) + 1)) + 1)) + 1)) + 1)) + 1)) + 1))) (c := (((((((((((((((((((((n + 1)) + 1)) + 1)) + 1)) + 1)) + 1)) + 1)) + 1)) + 1)) + 1)) + 1)) d_Mo_feed_106 rfl ?_
  refine N_put (e := (moO (upd v_177 73 (nI ((((((((((((((((((((((n + 1)) + 1)) + 1)) + 1)) + 1)) + 1)) + 1)) + 1)) + 1)) + 1)) + 1)))))) d_Mo_feed_107 (fp_Mo_344 _) hov_177 (Nat.le_of_ble_eq_true rfl) ⟨rfl, rfl⟩ rfl (fun M_178 h_179 s_180 => ?_)
  have p_181 := BG.st (j := 73) (by decide) hwv_177 hsv_177 hiv_177 h_179 (Ex.kp s_180)
  refine N_iinc (k := 10) (m := 1) (c := 11) (L' := [(6, .int (nI 11)), (7, .int x3), (0, .ref 373), (1, .int x1), (2, .int x2), (3, .int x3), (4, .int x4), (5, .int x5)]) d_Mo_feed_110 (by decide) rfl (by decide) rfl rfl ?_
  refine T_goto (tgt := 23) d_Mo_feed_113 rfl ?_
  refine T_iload d_Mo_feed_23 rfl ?_
  refine T_bipush (v := nI 20) d_Mo_feed_25 (by decide) ?_
  refine N_icmp_ge_f (a := 20) (b := 11) d_Mo_feed_27 (tgt := 116) rfl (by omega) (by omega) (by omega) ?_
  refine T_iload_n d_Mo_feed_30 rfl ?_
  refine T_istore (L' := [(7, .int x1), (6, .int (nI 11)), (0, .ref 373), (1, .int x1), (2, .int x2), (3, .int x3), (4, .int x4), (5, .int x5)]) d_Mo_feed_31 (by decide) rfl ?_
  refine T_iload d_Mo_feed_33 rfl ?_
  refine T_iconst (v := nI 4) d_Mo_feed_35 (by decide) ?_
  refine N_icmp_lt_f (a := 4) (b := 11) d_Mo_feed_36 (tgt := 42) rfl (by omega) (by omega) (by omega) ?_
  refine T_iload_n d_Mo_feed_39 rfl ?_
  refine T_istore (L' := [(7, .int x2), (6, .int (nI 11)), (0, .ref 373), (1, .int x1), (2, .int x2), (3, .int x3), (4, .int x4), (5, .int x5)]) d_Mo_feed_40 (by decide) rfl ?_
  refine T_iload d_Mo_feed_42 rfl ?_
  refine T_bipush (v := nI 8) d_Mo_feed_44 (by decide) ?_
  refine N_icmp_lt_f (a := 8) (b := 11) d_Mo_feed_46 (tgt := 52) rfl (by omega) (by omega) (by omega) ?_
  refine T_iload_n d_Mo_feed_49 rfl ?_
  refine T_istore (L' := [(7, .int x3), (6, .int (nI 11)), (0, .ref 373), (1, .int x1), (2, .int x2), (3, .int x3), (4, .int x4), (5, .int x5)]) d_Mo_feed_50 (by decide) rfl ?_
  refine T_iload d_Mo_feed_52 rfl ?_
  refine T_bipush (v := nI 12) d_Mo_feed_54 (by decide) ?_
  refine N_icmp_lt_t (a := 12) (b := 11) d_Mo_feed_56 (tgt := 63) rfl (by omega) (by omega) (by omega) ?_
  refine T_iload d_Mo_feed_63 rfl ?_
  refine T_bipush (v := nI 16) d_Mo_feed_65 (by decide) ?_
  refine N_icmp_lt_t (a := 16) (b := 11) d_Mo_feed_67 (tgt := 74) rfl (by omega) (by omega) (by omega) ?_
  refine T_aload_n (v := .ref 373) d_Mo_feed_74 rfl (Or.inr ⟨_, rfl⟩) ?_
  obtain ⟨v_182, hov_182, hwv_182, hsv_182, hiv_182⟩ := id p_181
  refine T_getfield (v := .ref 409) d_Mo_feed_75 fg_Mo_341 hov_182 rfl ?_
  refine T_aload_n (v := .ref 373) d_Mo_feed_78 rfl (Or.inr ⟨_, rfl⟩) ?_
  refine N_getI (x := (v_182 73)) (y := (nI (((((((((((((((((((((((n + 1)) + 1)) + 1)) + 1)) + 1)) + 1)) + 1)) + 1)) + 1)) + 1)) + 1))))) d_Mo_feed_79 fg_Mo_344 hov_182 rfl ((hwv_182 73 (by decide)).trans (show (upd (upd (upd (upd (upd (upd (upd (upd (upd (upd (upd (upd w 66 (nI 0)) 73 (nI ((n + 1)))) 73 (nI ((((n + 1)) + 1)))) 73 (nI ((((((n + 1)) + 1)) + 1)))) 73 (nI ((((((((n + 1)) + 1)) + 1)) + 1)))) 73 (nI ((((((((((n + 1)) + 1)) + 1)) + 1)) + 1)))) 73 (nI ((((((((((((n + 1)) + 1)) + 1)) + 1)) + 1)) + 1)))) 73 (nI ((((((((((((((n + 1)) + 1)) + 1)) + 1)) + 1)) + 1)) + 1)))) 73 (nI ((((((((((((((((n + 1)) + 1)) + 1)) + 1)) + 1)) + 1)) + 1)) + 1)))) 73 (nI ((((((((((((((((((n + 1)) + 1)) + 1)) + 1)) + 1)) + 1)) + 1)) + 1)) + 1)))) 73 (nI ((((((((((((((((((((n + 1)) + 1)) + 1)) + 1)) + 1)) + 1)) + 1)) + 1)) + 1)) + 1)))) 73 (nI ((((((((((((((((((((((n + 1)) + 1)) + 1)) + 1)) + 1)) + 1)) + 1)) + 1)) + 1)) + 1)) + 1)))) 73 = (nI (((((((((((((((((((((((n + 1)) + 1)) + 1)) + 1)) + 1)) + 1)) + 1)) + 1)) + 1)) + 1)) + 1)))) from rfl)) ?_
  refine T_iload d_Mo_feed_82 rfl ?_
  refine T_bipush (v := nI 24) d_Mo_feed_84 (by decide) ?_
  refine T_bipush (v := nI 8) d_Mo_feed_86 (by decide) ?_
  refine T_iload d_Mo_feed_88 rfl ?_
  refine T_iconst (v := nI 3) d_Mo_feed_90 (by decide) ?_
  refine T_iand d_Mo_feed_91 ?_
  refine N_topi (y := (nI 3)) (by decide) ?_
  refine N_imul (a := 3) (b := 8) (c := 24) d_Mo_feed_92 rfl ?_
  refine N_isub (a := 24) (b := 24) (c := 0) d_Mo_feed_93 (by omega) rfl ?_
  refine T_ishr d_Mo_feed_94 ?_
  refine T_sipush (v := nI 255) d_Mo_feed_95 (by decide) ?_
  refine T_iand d_Mo_feed_98 ?_
  rw [i32_255]
  have p_183 := (IA.kp (p_175) (Ex.kp s_180) (by decide))
  obtain ⟨f_184, hf_185, hl_186, hv_187⟩ := id p_183
  refine N_iastore (k := ((((((((((((((((((((((n + 1)) + 1)) + 1)) + 1)) + 1)) + 1)) + 1)) + 1)) + 1)) + 1)) + 1))) d_Mo_feed_99 (by decide) hf_185 (by omega) (by decide) rfl (fun M_188 h_189 s_190 => ?_)
  have p_191 := ia_app (l := (((((((((((tx ++ [u8 (x1 >>> ((nI 24) &&& 31))]) ++ [u8 (x1 >>> ((nI 16) &&& 31))]) ++ [u8 (x1 >>> ((nI 8) &&& 31))]) ++ [u8 (x1 >>> ((nI 0) &&& 31))]) ++ [u8 (x2 >>> ((nI 24) &&& 31))]) ++ [u8 (x2 >>> ((nI 16) &&& 31))]) ++ [u8 (x2 >>> ((nI 8) &&& 31))]) ++ [u8 (x2 >>> ((nI 0) &&& 31))]) ++ [u8 (x3 >>> ((nI 24) &&& 31))]) ++ [u8 (x3 >>> ((nI 16) &&& 31))]) ++ [u8 (x3 >>> ((nI 8) &&& 31))])) h_189 (by first | omega | (simp only [List.length_append, List.length_cons, List.length_nil]; omega)) (by first | omega | (simp only [List.length_append, List.length_cons, List.length_nil]; omega)) hv_187
  refine T_aload_n (v := .ref 373) d_Mo_feed_100 rfl (Or.inr ⟨_, rfl⟩) ?_
  refine T_dup d_Mo_feed_101 rfl ?_
  have p_192 := (BG.kp (p_181) (Ex.kp s_190) (by decide) (by decide))
  obtain ⟨v_193, hov_193, hwv_193, hsv_193, hiv_193⟩ := id p_192
  refine N_getI (x := (v_193 73)) (y := (nI (((((((((((((((((((((((n + 1)) + 1)) + 1)) + 1)) + 1)) + 1)) + 1)) + 1)) + 1)) + 1)) + 1))))) d_Mo_feed_102 fg_Mo_344 hov_193 rfl ((hwv_193 73 (by decide)).trans (show (upd (upd (upd (upd (upd (upd (upd (upd (upd (upd (upd (upd w 66 (nI 0)) 73 (nI ((n + 1)))) 73 (nI ((((n + 1)) + 1)))) 73 (nI ((((((n + 1)) + 1)) + 1)))) 73 (nI ((((((((n + 1)) + 1)) + 1)) + 1)))) 73 (nI ((((((((((n + 1)) + 1)) + 1)) + 1)) + 1)))) 73 (nI ((((((((((((n + 1)) + 1)) + 1)) + 1)) + 1)) + 1)))) 73 (nI ((((((((((((((n + 1)) + 1)) + 1)) + 1)) + 1)) + 1)) + 1)))) 73 (nI ((((((((((((((((n + 1)) + 1)) + 1)) + 1)) + 1)) + 1)) + 1)) + 1)))) 73 (nI ((((((((((((((((((n + 1)) + 1)) + 1)) + 1)) + 1)) + 1)) + 1)) + 1)) + 1)))) 73 (nI ((((((((((((((((((((n + 1)) + 1)) + 1)) + 1)) + 1)) + 1)) + 1)) + 1)) + 1)) + 1)))) 73 (nI ((((((((((((((((((((((n + 1)) + 1)) + 1)) + 1)) + 1)) + 1)) + 1)) + 1)) + 1)) + 1)) + 1)))) 73 = (nI (((((((((((((((((((((((n + 1)) + 1)) + 1)) + 1)) + 1)) + 1)) + 1)) + 1)) + 1)) + 1)) + 1)))) from rfl)) ?_
  refine T_iconst (v := nI 1) d_Mo_feed_105 (by decide) ?_
  refine N_iadd (a := 1) (b := ((((((((((((((((((((((n + 1)) + 1)) + 1)) + 1)) + 1)) + 1)) + 1)) + 1)) + 1)) + 1)) + 1))) (c := (((((((((((((((((((((((n + 1)) + 1)) + 1)) + 1)) + 1)) + 1)) + 1)) + 1)) + 1)) + 1)) + 1)) + 1)) d_Mo_feed_106 rfl ?_
  refine N_put (e := (moO (upd v_193 73 (nI ((((((((((((((((((((((((n + 1)) + 1)) + 1)) + 1)) + 1)) + 1)) + 1)) + 1)) + 1)) + 1)) + 1)) + 1)))))) d_Mo_feed_107 (fp_Mo_344 _) hov_193 (Nat.le_of_ble_eq_true rfl) ⟨rfl, rfl⟩ rfl (fun M_194 h_195 s_196 => ?_)
  have p_197 := BG.st (j := 73) (by decide) hwv_193 hsv_193 hiv_193 h_195 (Ex.kp s_196)
  refine N_iinc (k := 11) (m := 1) (c := 12) (L' := [(6, .int (nI 12)), (7, .int x3), (0, .ref 373), (1, .int x1), (2, .int x2), (3, .int x3), (4, .int x4), (5, .int x5)]) d_Mo_feed_110 (by decide) rfl (by decide) rfl rfl ?_
  refine T_goto (tgt := 23) d_Mo_feed_113 rfl ?_
  refine T_iload d_Mo_feed_23 rfl ?_
  refine T_bipush (v := nI 20) d_Mo_feed_25 (by decide) ?_
  refine N_icmp_ge_f (a := 20) (b := 12) d_Mo_feed_27 (tgt := 116) rfl (by omega) (by omega) (by omega) ?_
  refine T_iload_n d_Mo_feed_30 rfl ?_
  refine T_istore (L' := [(7, .int x1), (6, .int (nI 12)), (0, .ref 373), (1, .int x1), (2, .int x2), (3, .int x3), (4, .int x4), (5, .int x5)]) d_Mo_feed_31 (by decide) rfl ?_
  refine T_iload d_Mo_feed_33 rfl ?_
  refine T_iconst (v := nI 4) d_Mo_feed_35 (by decide) ?_
  refine N_icmp_lt_f (a := 4) (b := 12) d_Mo_feed_36 (tgt := 42) rfl (by omega) (by omega) (by omega) ?_
  refine T_iload_n d_Mo_feed_39 rfl ?_
  refine T_istore (L' := [(7, .int x2), (6, .int (nI 12)), (0, .ref 373), (1, .int x1), (2, .int x2), (3, .int x3), (4, .int x4), (5, .int x5)]) d_Mo_feed_40 (by decide) rfl ?_
  refine T_iload d_Mo_feed_42 rfl ?_
  refine T_bipush (v := nI 8) d_Mo_feed_44 (by decide) ?_
  refine N_icmp_lt_f (a := 8) (b := 12) d_Mo_feed_46 (tgt := 52) rfl (by omega) (by omega) (by omega) ?_
  refine T_iload_n d_Mo_feed_49 rfl ?_
  refine T_istore (L' := [(7, .int x3), (6, .int (nI 12)), (0, .ref 373), (1, .int x1), (2, .int x2), (3, .int x3), (4, .int x4), (5, .int x5)]) d_Mo_feed_50 (by decide) rfl ?_
  refine T_iload d_Mo_feed_52 rfl ?_
  refine T_bipush (v := nI 12) d_Mo_feed_54 (by decide) ?_
  refine N_icmp_lt_f (a := 12) (b := 12) d_Mo_feed_56 (tgt := 63) rfl (by omega) (by omega) (by omega) ?_
  refine T_iload d_Mo_feed_59 rfl ?_
  refine T_istore (L' := [(7, .int x4), (6, .int (nI 12)), (0, .ref 373), (1, .int x1), (2, .int x2), (3, .int x3), (4, .int x4), (5, .int x5)]) d_Mo_feed_61 (by decide) rfl ?_
  refine T_iload d_Mo_feed_63 rfl ?_
  refine T_bipush (v := nI 16) d_Mo_feed_65 (by decide) ?_
  refine N_icmp_lt_t (a := 16) (b := 12) d_Mo_feed_67 (tgt := 74) rfl (by omega) (by omega) (by omega) ?_
  refine T_aload_n (v := .ref 373) d_Mo_feed_74 rfl (Or.inr ⟨_, rfl⟩) ?_
  obtain ⟨v_198, hov_198, hwv_198, hsv_198, hiv_198⟩ := id p_197
  refine T_getfield (v := .ref 409) d_Mo_feed_75 fg_Mo_341 hov_198 rfl ?_
  refine T_aload_n (v := .ref 373) d_Mo_feed_78 rfl (Or.inr ⟨_, rfl⟩) ?_
  refine N_getI (x := (v_198 73)) (y := (nI (((((((((((((((((((((((((n + 1)) + 1)) + 1)) + 1)) + 1)) + 1)) + 1)) + 1)) + 1)) + 1)) + 1)) + 1))))) d_Mo_feed_79 fg_Mo_344 hov_198 rfl ((hwv_198 73 (by decide)).trans (show (upd (upd (upd (upd (upd (upd (upd (upd (upd (upd (upd (upd (upd w 66 (nI 0)) 73 (nI ((n + 1)))) 73 (nI ((((n + 1)) + 1)))) 73 (nI ((((((n + 1)) + 1)) + 1)))) 73 (nI ((((((((n + 1)) + 1)) + 1)) + 1)))) 73 (nI ((((((((((n + 1)) + 1)) + 1)) + 1)) + 1)))) 73 (nI ((((((((((((n + 1)) + 1)) + 1)) + 1)) + 1)) + 1)))) 73 (nI ((((((((((((((n + 1)) + 1)) + 1)) + 1)) + 1)) + 1)) + 1)))) 73 (nI ((((((((((((((((n + 1)) + 1)) + 1)) + 1)) + 1)) + 1)) + 1)) + 1)))) 73 (nI ((((((((((((((((((n + 1)) + 1)) + 1)) + 1)) + 1)) + 1)) + 1)) + 1)) + 1)))) 73 (nI ((((((((((((((((((((n + 1)) + 1)) + 1)) + 1)) + 1)) + 1)) + 1)) + 1)) + 1)) + 1)))) 73 (nI ((((((((((((((((((((((n + 1)) + 1)) + 1)) + 1)) + 1)) + 1)) + 1)) + 1)) + 1)) + 1)) + 1)))) 73 (nI ((((((((((((((((((((((((n + 1)) + 1)) + 1)) + 1)) + 1)) + 1)) + 1)) + 1)) + 1)) + 1)) + 1)) + 1)))) 73 = (nI (((((((((((((((((((((((((n + 1)) + 1)) + 1)) + 1)) + 1)) + 1)) + 1)) + 1)) + 1)) + 1)) + 1)) + 1)))) from rfl)) ?_
  refine T_iload d_Mo_feed_82 rfl ?_
  refine T_bipush (v := nI 24) d_Mo_feed_84 (by decide) ?_
  refine T_bipush (v := nI 8) d_Mo_feed_86 (by decide) ?_
  refine T_iload d_Mo_feed_88 rfl ?_
  refine T_iconst (v := nI 3) d_Mo_feed_90 (by decide) ?_
  refine T_iand d_Mo_feed_91 ?_
  refine N_topi (y := (nI 0)) (by decide) ?_
  refine N_imul (a := 0) (b := 8) (c := 0) d_Mo_feed_92 rfl ?_
  refine N_isub (a := 0) (b := 24) (c := 24) d_Mo_feed_93 (by omega) rfl ?_
  refine T_ishr d_Mo_feed_94 ?_
  refine T_sipush (v := nI 255) d_Mo_feed_95 (by decide) ?_
  refine T_iand d_Mo_feed_98 ?_
  rw [i32_255]
  have p_199 := (IA.kp (p_191) (Ex.kp s_196) (by decide))
  obtain ⟨f_200, hf_201, hl_202, hv_203⟩ := id p_199
  refine N_iastore (k := ((((((((((((((((((((((((n + 1)) + 1)) + 1)) + 1)) + 1)) + 1)) + 1)) + 1)) + 1)) + 1)) + 1)) + 1))) d_Mo_feed_99 (by decide) hf_201 (by omega) (by decide) rfl (fun M_204 h_205 s_206 => ?_)
  have p_207 := ia_app (l := ((((((((((((tx ++ [u8 (x1 >>> ((nI 24) &&& 31))]) ++ [u8 (x1 >>> ((nI 16) &&& 31))]) ++ [u8 (x1 >>> ((nI 8) &&& 31))]) ++ [u8 (x1 >>> ((nI 0) &&& 31))]) ++ [u8 (x2 >>> ((nI 24) &&& 31))]) ++ [u8 (x2 >>> ((nI 16) &&& 31))]) ++ [u8 (x2 >>> ((nI 8) &&& 31))]) ++ [u8 (x2 >>> ((nI 0) &&& 31))]) ++ [u8 (x3 >>> ((nI 24) &&& 31))]) ++ [u8 (x3 >>> ((nI 16) &&& 31))]) ++ [u8 (x3 >>> ((nI 8) &&& 31))]) ++ [u8 (x3 >>> ((nI 0) &&& 31))])) h_205 (by first | omega | (simp only [List.length_append, List.length_cons, List.length_nil]; omega)) (by first | omega | (simp only [List.length_append, List.length_cons, List.length_nil]; omega)) hv_203
  refine T_aload_n (v := .ref 373) d_Mo_feed_100 rfl (Or.inr ⟨_, rfl⟩) ?_
  refine T_dup d_Mo_feed_101 rfl ?_
  have p_208 := (BG.kp (p_197) (Ex.kp s_206) (by decide) (by decide))
  obtain ⟨v_209, hov_209, hwv_209, hsv_209, hiv_209⟩ := id p_208
  refine N_getI (x := (v_209 73)) (y := (nI (((((((((((((((((((((((((n + 1)) + 1)) + 1)) + 1)) + 1)) + 1)) + 1)) + 1)) + 1)) + 1)) + 1)) + 1))))) d_Mo_feed_102 fg_Mo_344 hov_209 rfl ((hwv_209 73 (by decide)).trans (show (upd (upd (upd (upd (upd (upd (upd (upd (upd (upd (upd (upd (upd w 66 (nI 0)) 73 (nI ((n + 1)))) 73 (nI ((((n + 1)) + 1)))) 73 (nI ((((((n + 1)) + 1)) + 1)))) 73 (nI ((((((((n + 1)) + 1)) + 1)) + 1)))) 73 (nI ((((((((((n + 1)) + 1)) + 1)) + 1)) + 1)))) 73 (nI ((((((((((((n + 1)) + 1)) + 1)) + 1)) + 1)) + 1)))) 73 (nI ((((((((((((((n + 1)) + 1)) + 1)) + 1)) + 1)) + 1)) + 1)))) 73 (nI ((((((((((((((((n + 1)) + 1)) + 1)) + 1)) + 1)) + 1)) + 1)) + 1)))) 73 (nI ((((((((((((((((((n + 1)) + 1)) + 1)) + 1)) + 1)) + 1)) + 1)) + 1)) + 1)))) 73 (nI ((((((((((((((((((((n + 1)) + 1)) + 1)) + 1)) + 1)) + 1)) + 1)) + 1)) + 1)) + 1)))) 73 (nI ((((((((((((((((((((((n + 1)) + 1)) + 1)) + 1)) + 1)) + 1)) + 1)) + 1)) + 1)) + 1)) + 1)))) 73 (nI ((((((((((((((((((((((((n + 1)) + 1)) + 1)) + 1)) + 1)) + 1)) + 1)) + 1)) + 1)) + 1)) + 1)) + 1)))) 73 = (nI (((((((((((((((((((((((((n + 1)) + 1)) + 1)) + 1)) + 1)) + 1)) + 1)) + 1)) + 1)) + 1)) + 1)) + 1)))) from rfl)) ?_
  refine T_iconst (v := nI 1) d_Mo_feed_105 (by decide) ?_
  refine N_iadd (a := 1) (b := ((((((((((((((((((((((((n + 1)) + 1)) + 1)) + 1)) + 1)) + 1)) + 1)) + 1)) + 1)) + 1)) + 1)) + 1))) (c := (((((((((((((((((((((((((n + 1)) + 1)) + 1)) + 1)) + 1)) + 1)) + 1)) + 1)) + 1)) + 1)) + 1)) + 1)) + 1)) d_Mo_feed_106 rfl ?_
  refine N_put (e := (moO (upd v_209 73 (nI ((((((((((((((((((((((((((n + 1)) + 1)) + 1)) + 1)) + 1)) + 1)) + 1)) + 1)) + 1)) + 1)) + 1)) + 1)) + 1)))))) d_Mo_feed_107 (fp_Mo_344 _) hov_209 (Nat.le_of_ble_eq_true rfl) ⟨rfl, rfl⟩ rfl (fun M_210 h_211 s_212 => ?_)
  have p_213 := BG.st (j := 73) (by decide) hwv_209 hsv_209 hiv_209 h_211 (Ex.kp s_212)
  refine N_iinc (k := 12) (m := 1) (c := 13) (L' := [(6, .int (nI 13)), (7, .int x4), (0, .ref 373), (1, .int x1), (2, .int x2), (3, .int x3), (4, .int x4), (5, .int x5)]) d_Mo_feed_110 (by decide) rfl (by decide) rfl rfl ?_
  refine T_goto (tgt := 23) d_Mo_feed_113 rfl ?_
  refine T_iload d_Mo_feed_23 rfl ?_
  refine T_bipush (v := nI 20) d_Mo_feed_25 (by decide) ?_
  refine N_icmp_ge_f (a := 20) (b := 13) d_Mo_feed_27 (tgt := 116) rfl (by omega) (by omega) (by omega) ?_
  refine T_iload_n d_Mo_feed_30 rfl ?_
  refine T_istore (L' := [(7, .int x1), (6, .int (nI 13)), (0, .ref 373), (1, .int x1), (2, .int x2), (3, .int x3), (4, .int x4), (5, .int x5)]) d_Mo_feed_31 (by decide) rfl ?_
  refine T_iload d_Mo_feed_33 rfl ?_
  refine T_iconst (v := nI 4) d_Mo_feed_35 (by decide) ?_
  refine N_icmp_lt_f (a := 4) (b := 13) d_Mo_feed_36 (tgt := 42) rfl (by omega) (by omega) (by omega) ?_
  refine T_iload_n d_Mo_feed_39 rfl ?_
  refine T_istore (L' := [(7, .int x2), (6, .int (nI 13)), (0, .ref 373), (1, .int x1), (2, .int x2), (3, .int x3), (4, .int x4), (5, .int x5)]) d_Mo_feed_40 (by decide) rfl ?_
  refine T_iload d_Mo_feed_42 rfl ?_
  refine T_bipush (v := nI 8) d_Mo_feed_44 (by decide) ?_
  refine N_icmp_lt_f (a := 8) (b := 13) d_Mo_feed_46 (tgt := 52) rfl (by omega) (by omega) (by omega) ?_
  refine T_iload_n d_Mo_feed_49 rfl ?_
  refine T_istore (L' := [(7, .int x3), (6, .int (nI 13)), (0, .ref 373), (1, .int x1), (2, .int x2), (3, .int x3), (4, .int x4), (5, .int x5)]) d_Mo_feed_50 (by decide) rfl ?_
  refine T_iload d_Mo_feed_52 rfl ?_
  refine T_bipush (v := nI 12) d_Mo_feed_54 (by decide) ?_
  refine N_icmp_lt_f (a := 12) (b := 13) d_Mo_feed_56 (tgt := 63) rfl (by omega) (by omega) (by omega) ?_
  refine T_iload d_Mo_feed_59 rfl ?_
  refine T_istore (L' := [(7, .int x4), (6, .int (nI 13)), (0, .ref 373), (1, .int x1), (2, .int x2), (3, .int x3), (4, .int x4), (5, .int x5)]) d_Mo_feed_61 (by decide) rfl ?_
  refine T_iload d_Mo_feed_63 rfl ?_
  refine T_bipush (v := nI 16) d_Mo_feed_65 (by decide) ?_
  refine N_icmp_lt_t (a := 16) (b := 13) d_Mo_feed_67 (tgt := 74) rfl (by omega) (by omega) (by omega) ?_
  refine T_aload_n (v := .ref 373) d_Mo_feed_74 rfl (Or.inr ⟨_, rfl⟩) ?_
  obtain ⟨v_214, hov_214, hwv_214, hsv_214, hiv_214⟩ := id p_213
  refine T_getfield (v := .ref 409) d_Mo_feed_75 fg_Mo_341 hov_214 rfl ?_
  refine T_aload_n (v := .ref 373) d_Mo_feed_78 rfl (Or.inr ⟨_, rfl⟩) ?_
  refine N_getI (x := (v_214 73)) (y := (nI (((((((((((((((((((((((((((n + 1)) + 1)) + 1)) + 1)) + 1)) + 1)) + 1)) + 1)) + 1)) + 1)) + 1)) + 1)) + 1))))) d_Mo_feed_79 fg_Mo_344 hov_214 rfl ((hwv_214 73 (by decide)).trans (show (upd (upd (upd (upd (upd (upd (upd (upd (upd (upd (upd (upd (upd (upd w 66 (nI 0)) 73 (nI ((n + 1)))) 73 (nI ((((n + 1)) + 1)))) 73 (nI ((((((n + 1)) + 1)) + 1)))) 73 (nI ((((((((n + 1)) + 1)) + 1)) + 1)))) 73 (nI ((((((((((n + 1)) + 1)) + 1)) + 1)) + 1)))) 73 (nI ((((((((((((n + 1)) + 1)) + 1)) + 1)) + 1)) + 1)))) 73 (nI ((((((((((((((n + 1)) + 1)) + 1)) + 1)) + 1)) + 1)) + 1)))) 73 (nI ((((((((((((((((n + 1)) + 1)) + 1)) + 1)) + 1)) + 1)) + 1)) + 1)))) 73 (nI ((((((((((((((((((n + 1)) + 1)) + 1)) + 1)) + 1)) + 1)) + 1)) + 1)) + 1)))) 73 (nI ((((((((((((((((((((n + 1)) + 1)) + 1)) + 1)) + 1)) + 1)) + 1)) + 1)) + 1)) + 1)))) 73 (nI ((((((((((((((((((((((n + 1)) + 1)) + 1)) + 1)) + 1)) + 1)) + 1)) + 1)) + 1)) + 1)) + 1)))) 73 (nI ((((((((((((((((((((((((n + 1)) + 1)) + 1)) + 1)) + 1)) + 1)) + 1)) + 1)) + 1)) + 1)) + 1)) + 1)))) 73 (nI ((((((((((((((((((((((((((n + 1)) + 1)) + 1)) + 1)) + 1)) + 1)) + 1)) + 1)) + 1)) + 1)) + 1)) + 1)) + 1)))) 73 = (nI (((((((((((((((((((((((((((n + 1)) + 1)) + 1)) + 1)) + 1)) + 1)) + 1)) + 1)) + 1)) + 1)) + 1)) + 1)) + 1)))) from rfl)) ?_
  refine T_iload d_Mo_feed_82 rfl ?_
  refine T_bipush (v := nI 24) d_Mo_feed_84 (by decide) ?_
  refine T_bipush (v := nI 8) d_Mo_feed_86 (by decide) ?_
  refine T_iload d_Mo_feed_88 rfl ?_
  refine T_iconst (v := nI 3) d_Mo_feed_90 (by decide) ?_
  refine T_iand d_Mo_feed_91 ?_
  refine N_topi (y := (nI 1)) (by decide) ?_
  refine N_imul (a := 1) (b := 8) (c := 8) d_Mo_feed_92 rfl ?_
  refine N_isub (a := 8) (b := 24) (c := 16) d_Mo_feed_93 (by omega) rfl ?_
  refine T_ishr d_Mo_feed_94 ?_
  refine T_sipush (v := nI 255) d_Mo_feed_95 (by decide) ?_
  refine T_iand d_Mo_feed_98 ?_
  rw [i32_255]
  have p_215 := (IA.kp (p_207) (Ex.kp s_212) (by decide))
  obtain ⟨f_216, hf_217, hl_218, hv_219⟩ := id p_215
  refine N_iastore (k := ((((((((((((((((((((((((((n + 1)) + 1)) + 1)) + 1)) + 1)) + 1)) + 1)) + 1)) + 1)) + 1)) + 1)) + 1)) + 1))) d_Mo_feed_99 (by decide) hf_217 (by omega) (by decide) rfl (fun M_220 h_221 s_222 => ?_)
  have p_223 := ia_app (l := (((((((((((((tx ++ [u8 (x1 >>> ((nI 24) &&& 31))]) ++ [u8 (x1 >>> ((nI 16) &&& 31))]) ++ [u8 (x1 >>> ((nI 8) &&& 31))]) ++ [u8 (x1 >>> ((nI 0) &&& 31))]) ++ [u8 (x2 >>> ((nI 24) &&& 31))]) ++ [u8 (x2 >>> ((nI 16) &&& 31))]) ++ [u8 (x2 >>> ((nI 8) &&& 31))]) ++ [u8 (x2 >>> ((nI 0) &&& 31))]) ++ [u8 (x3 >>> ((nI 24) &&& 31))]) ++ [u8 (x3 >>> ((nI 16) &&& 31))]) ++ [u8 (x3 >>> ((nI 8) &&& 31))]) ++ [u8 (x3 >>> ((nI 0) &&& 31))]) ++ [u8 (x4 >>> ((nI 24) &&& 31))])) h_221 (by first | omega | (simp only [List.length_append, List.length_cons, List.length_nil]; omega)) (by first | omega | (simp only [List.length_append, List.length_cons, List.length_nil]; omega)) hv_219
  refine T_aload_n (v := .ref 373) d_Mo_feed_100 rfl (Or.inr ⟨_, rfl⟩) ?_
  refine T_dup d_Mo_feed_101 rfl ?_
  have p_224 := (BG.kp (p_213) (Ex.kp s_222) (by decide) (by decide))
  obtain ⟨v_225, hov_225, hwv_225, hsv_225, hiv_225⟩ := id p_224
  refine N_getI (x := (v_225 73)) (y := (nI (((((((((((((((((((((((((((n + 1)) + 1)) + 1)) + 1)) + 1)) + 1)) + 1)) + 1)) + 1)) + 1)) + 1)) + 1)) + 1))))) d_Mo_feed_102 fg_Mo_344 hov_225 rfl ((hwv_225 73 (by decide)).trans (show (upd (upd (upd (upd (upd (upd (upd (upd (upd (upd (upd (upd (upd (upd w 66 (nI 0)) 73 (nI ((n + 1)))) 73 (nI ((((n + 1)) + 1)))) 73 (nI ((((((n + 1)) + 1)) + 1)))) 73 (nI ((((((((n + 1)) + 1)) + 1)) + 1)))) 73 (nI ((((((((((n + 1)) + 1)) + 1)) + 1)) + 1)))) 73 (nI ((((((((((((n + 1)) + 1)) + 1)) + 1)) + 1)) + 1)))) 73 (nI ((((((((((((((n + 1)) + 1)) + 1)) + 1)) + 1)) + 1)) + 1)))) 73 (nI ((((((((((((((((n + 1)) + 1)) + 1)) + 1)) + 1)) + 1)) + 1)) + 1)))) 73 (nI ((((((((((((((((((n + 1)) + 1)) + 1)) + 1)) + 1)) + 1)) + 1)) + 1)) + 1)))) 73 (nI ((((((((((((((((((((n + 1)) + 1)) + 1)) + 1)) + 1)) + 1)) + 1)) + 1)) + 1)) + 1)))) 73 (nI ((((((((((((((((((((((n + 1)) + 1)) + 1)) + 1)) + 1)) + 1)) + 1)) + 1)) + 1)) + 1)) + 1)))) 73 (nI ((((((((((((((((((((((((n + 1)) + 1)) + 1)) + 1)) + 1)) + 1)) + 1)) + 1)) + 1)) + 1)) + 1)) + 1)))) 73 (nI ((((((((((((((((((((((((((n + 1)) + 1)) + 1)) + 1)) + 1)) + 1)) + 1)) + 1)) + 1)) + 1)) + 1)) + 1)) + 1)))) 73 = (nI (((((((((((((((((((((((((((n + 1)) + 1)) + 1)) + 1)) + 1)) + 1)) + 1)) + 1)) + 1)) + 1)) + 1)) + 1)) + 1)))) from rfl)) ?_
  refine T_iconst (v := nI 1) d_Mo_feed_105 (by decide) ?_
  refine N_iadd (a := 1) (b := ((((((((((((((((((((((((((n + 1)) + 1)) + 1)) + 1)) + 1)) + 1)) + 1)) + 1)) + 1)) + 1)) + 1)) + 1)) + 1))) (c := (((((((((((((((((((((((((((n + 1)) + 1)) + 1)) + 1)) + 1)) + 1)) + 1)) + 1)) + 1)) + 1)) + 1)) + 1)) + 1)) + 1)) d_Mo_feed_106 rfl ?_
  refine N_put (e := (moO (upd v_225 73 (nI ((((((((((((((((((((((((((((n + 1)) + 1)) + 1)) + 1)) + 1)) + 1)) + 1)) + 1)) + 1)) + 1)) + 1)) + 1)) + 1)) + 1)))))) d_Mo_feed_107 (fp_Mo_344 _) hov_225 (Nat.le_of_ble_eq_true rfl) ⟨rfl, rfl⟩ rfl (fun M_226 h_227 s_228 => ?_)
  have p_229 := BG.st (j := 73) (by decide) hwv_225 hsv_225 hiv_225 h_227 (Ex.kp s_228)
  refine N_iinc (k := 13) (m := 1) (c := 14) (L' := [(6, .int (nI 14)), (7, .int x4), (0, .ref 373), (1, .int x1), (2, .int x2), (3, .int x3), (4, .int x4), (5, .int x5)]) d_Mo_feed_110 (by decide) rfl (by decide) rfl rfl ?_
  refine T_goto (tgt := 23) d_Mo_feed_113 rfl ?_
  refine T_iload d_Mo_feed_23 rfl ?_
  refine T_bipush (v := nI 20) d_Mo_feed_25 (by decide) ?_
  refine N_icmp_ge_f (a := 20) (b := 14) d_Mo_feed_27 (tgt := 116) rfl (by omega) (by omega) (by omega) ?_
  refine T_iload_n d_Mo_feed_30 rfl ?_
  refine T_istore (L' := [(7, .int x1), (6, .int (nI 14)), (0, .ref 373), (1, .int x1), (2, .int x2), (3, .int x3), (4, .int x4), (5, .int x5)]) d_Mo_feed_31 (by decide) rfl ?_
  refine T_iload d_Mo_feed_33 rfl ?_
  refine T_iconst (v := nI 4) d_Mo_feed_35 (by decide) ?_
  refine N_icmp_lt_f (a := 4) (b := 14) d_Mo_feed_36 (tgt := 42) rfl (by omega) (by omega) (by omega) ?_
  refine T_iload_n d_Mo_feed_39 rfl ?_
  refine T_istore (L' := [(7, .int x2), (6, .int (nI 14)), (0, .ref 373), (1, .int x1), (2, .int x2), (3, .int x3), (4, .int x4), (5, .int x5)]) d_Mo_feed_40 (by decide) rfl ?_
  refine T_iload d_Mo_feed_42 rfl ?_
  refine T_bipush (v := nI 8) d_Mo_feed_44 (by decide) ?_
  refine N_icmp_lt_f (a := 8) (b := 14) d_Mo_feed_46 (tgt := 52) rfl (by omega) (by omega) (by omega) ?_
  refine T_iload_n d_Mo_feed_49 rfl ?_
  refine T_istore (L' := [(7, .int x3), (6, .int (nI 14)), (0, .ref 373), (1, .int x1), (2, .int x2), (3, .int x3), (4, .int x4), (5, .int x5)]) d_Mo_feed_50 (by decide) rfl ?_
  refine T_iload d_Mo_feed_52 rfl ?_
  refine T_bipush (v := nI 12) d_Mo_feed_54 (by decide) ?_
  refine N_icmp_lt_f (a := 12) (b := 14) d_Mo_feed_56 (tgt := 63) rfl (by omega) (by omega) (by omega) ?_
  refine T_iload d_Mo_feed_59 rfl ?_
  refine T_istore (L' := [(7, .int x4), (6, .int (nI 14)), (0, .ref 373), (1, .int x1), (2, .int x2), (3, .int x3), (4, .int x4), (5, .int x5)]) d_Mo_feed_61 (by decide) rfl ?_
  refine T_iload d_Mo_feed_63 rfl ?_
  refine T_bipush (v := nI 16) d_Mo_feed_65 (by decide) ?_
  refine N_icmp_lt_t (a := 16) (b := 14) d_Mo_feed_67 (tgt := 74) rfl (by omega) (by omega) (by omega) ?_
  refine T_aload_n (v := .ref 373) d_Mo_feed_74 rfl (Or.inr ⟨_, rfl⟩) ?_
  obtain ⟨v_230, hov_230, hwv_230, hsv_230, hiv_230⟩ := id p_229
  refine T_getfield (v := .ref 409) d_Mo_feed_75 fg_Mo_341 hov_230 rfl ?_
  refine T_aload_n (v := .ref 373) d_Mo_feed_78 rfl (Or.inr ⟨_, rfl⟩) ?_
  refine N_getI (x := (v_230 73)) (y := (nI (((((((((((((((((((((((((((((n + 1)) + 1)) + 1)) + 1)) + 1)) + 1)) + 1)) + 1)) + 1)) + 1)) + 1)) + 1)) + 1)) + 1))))) d_Mo_feed_79 fg_Mo_344 hov_230 rfl ((hwv_230 73 (by decide)).trans (show (upd (upd (upd (upd (upd (upd (upd (upd (upd (upd (upd (upd (upd (upd (upd w 66 (nI 0)) 73 (nI ((n + 1)))) 73 (nI ((((n + 1)) + 1)))) 73 (nI ((((((n + 1)) + 1)) + 1)))) 73 (nI ((((((((n + 1)) + 1)) + 1)) + 1)))) 73 (nI ((((((((((n + 1)) + 1)) + 1)) + 1)) + 1)))) 73 (nI ((((((((((((n + 1)) + 1)) + 1)) + 1)) + 1)) + 1)))) 73 (nI ((((((((((((((n + 1)) + 1)) + 1)) + 1)) + 1)) + 1)) + 1)))) 73 (nI ((((((((((((((((n + 1)) + 1)) + 1)) + 1)) + 1)) + 1)) + 1)) + 1)))) 73 (nI ((((((((((((((((((n + 1)) + 1)) + 1)) + 1)) + 1)) + 1)) + 1)) + 1)) + 1)))) 73 (nI ((((((((((((((((((((n + 1)) + 1)) + 1)) + 1)) + 1)) + 1)) + 1)) + 1)) + 1)) + 1)))) 73 (nI ((((((((((((((((((((((n + 1)) + 1)) + 1)) + 1)) + 1)) + 1)) + 1)) + 1)) + 1)) + 1)) + 1)))) 73 (nI ((((((((((((((((((((((((n + 1)) + 1)) + 1)) + 1)) + 1)) + 1)) + 1)) + 1)) + 1)) + 1)) + 1)) + 1)))) 73 (nI ((((((((((((((((((((((((((n + 1)) + 1)) + 1)) + 1)) + 1)) + 1)) + 1)) + 1)) + 1)) + 1)) + 1)) + 1)) + 1)))) 73 (nI ((((((((((((((((((((((((((((n + 1)) + 1)) + 1)) + 1)) + 1)) + 1)) + 1)) + 1)) + 1)) + 1)) + 1)) + 1)) + 1)) + 1)))) 73 = (nI (((((((((((((((((((((((((((((n + 1)) + 1)) + 1)) + 1)) + 1)) + 1)) + 1)) + 1)) + 1)) + 1)) + 1)) + 1)) + 1)) + 1)))) from rfl)) ?_
  refine T_iload d_Mo_feed_82 rfl ?_
  refine T_bipush (v := nI 24) d_Mo_feed_84 (by decide) ?_
  refine T_bipush (v := nI 8) d_Mo_feed_86 (by decide) ?_
  refine T_iload d_Mo_feed_88 rfl ?_
  refine T_iconst (v := nI 3) d_Mo_feed_90 (by decide) ?_
  refine T_iand d_Mo_feed_91 ?_
  refine N_topi (y := (nI 2)) (by decide) ?_
  refine N_imul (a := 2) (b := 8) (c := 16) d_Mo_feed_92 rfl ?_
  refine N_isub (a := 16) (b := 24) (c := 8) d_Mo_feed_93 (by omega) rfl ?_
  refine T_ishr d_Mo_feed_94 ?_
  refine T_sipush (v := nI 255) d_Mo_feed_95 (by decide) ?_
  refine T_iand d_Mo_feed_98 ?_
  rw [i32_255]
  have p_231 := (IA.kp (p_223) (Ex.kp s_228) (by decide))
  obtain ⟨f_232, hf_233, hl_234, hv_235⟩ := id p_231
  refine N_iastore (k := ((((((((((((((((((((((((((((n + 1)) + 1)) + 1)) + 1)) + 1)) + 1)) + 1)) + 1)) + 1)) + 1)) + 1)) + 1)) + 1)) + 1))) d_Mo_feed_99 (by decide) hf_233 (by omega) (by decide) rfl (fun M_236 h_237 s_238 => ?_)
  have p_239 := ia_app (l := ((((((((((((((tx ++ [u8 (x1 >>> ((nI 24) &&& 31))]) ++ [u8 (x1 >>> ((nI 16) &&& 31))]) ++ [u8 (x1 >>> ((nI 8) &&& 31))]) ++ [u8 (x1 >>> ((nI 0) &&& 31))]) ++ [u8 (x2 >>> ((nI 24) &&& 31))]) ++ [u8 (x2 >>> ((nI 16) &&& 31))]) ++ [u8 (x2 >>> ((nI 8) &&& 31))]) ++ [u8 (x2 >>> ((nI 0) &&& 31))]) ++ [u8 (x3 >>> ((nI 24) &&& 31))]) ++ [u8 (x3 >>> ((nI 16) &&& 31))]) ++ [u8 (x3 >>> ((nI 8) &&& 31))]) ++ [u8 (x3 >>> ((nI 0) &&& 31))]) ++ [u8 (x4 >>> ((nI 24) &&& 31))]) ++ [u8 (x4 >>> ((nI 16) &&& 31))])) h_237 (by first | omega | (simp only [List.length_append, List.length_cons, List.length_nil]; omega)) (by first | omega | (simp only [List.length_append, List.length_cons, List.length_nil]; omega)) hv_235
  refine T_aload_n (v := .ref 373) d_Mo_feed_100 rfl (Or.inr ⟨_, rfl⟩) ?_
  refine T_dup d_Mo_feed_101 rfl ?_
  have p_240 := (BG.kp (p_229) (Ex.kp s_238) (by decide) (by decide))
  obtain ⟨v_241, hov_241, hwv_241, hsv_241, hiv_241⟩ := id p_240
  refine N_getI (x := (v_241 73)) (y := (nI (((((((((((((((((((((((((((((n + 1)) + 1)) + 1)) + 1)) + 1)) + 1)) + 1)) + 1)) + 1)) + 1)) + 1)) + 1)) + 1)) + 1))))) d_Mo_feed_102 fg_Mo_344 hov_241 rfl ((hwv_241 73 (by decide)).trans (show (upd (upd (upd (upd (upd (upd (upd (upd (upd (upd (upd (upd (upd (upd (upd w 66 (nI 0)) 73 (nI ((n + 1)))) 73 (nI ((((n + 1)) + 1)))) 73 (nI ((((((n + 1)) + 1)) + 1)))) 73 (nI ((((((((n + 1)) + 1)) + 1)) + 1)))) 73 (nI ((((((((((n + 1)) + 1)) + 1)) + 1)) + 1)))) 73 (nI ((((((((((((n + 1)) + 1)) + 1)) + 1)) + 1)) + 1)))) 73 (nI ((((((((((((((n + 1)) + 1)) + 1)) + 1)) + 1)) + 1)) + 1)))) 73 (nI ((((((((((((((((n + 1)) + 1)) + 1)) + 1)) + 1)) + 1)) + 1)) + 1)))) 73 (nI ((((((((((((((((((n + 1)) + 1)) + 1)) + 1)) + 1)) + 1)) + 1)) + 1)) + 1)))) 73 (nI ((((((((((((((((((((n + 1)) + 1)) + 1)) + 1)) + 1)) + 1)) + 1)) + 1)) + 1)) + 1)))) 73 (nI ((((((((((((((((((((((n + 1)) + 1)) + 1)) + 1)) + 1)) + 1)) + 1)) + 1)) + 1)) + 1)) + 1)))) 73 (nI ((((((((((((((((((((((((n + 1)) + 1)) + 1)) + 1)) + 1)) + 1)) + 1)) + 1)) + 1)) + 1)) + 1)) + 1)))) 73 (nI ((((((((((((((((((((((((((n + 1)) + 1)) + 1)) + 1)) + 1)) + 1)) + 1)) + 1)) + 1)) + 1)) + 1)) + 1)) + 1)))) 73 (nI ((((((((((((((((((((((((((((n + 1)) + 1)) + 1)) + 1)) + 1)) + 1)) + 1)) + 1)) + 1)) + 1)) + 1)) + 1)) + 1)) + 1)))) 73 = (nI (((((((((((((((((((((((((((((n + 1)) + 1)) + 1)) + 1)) + 1)) + 1)) + 1)) + 1)) + 1)) + 1)) + 1)) + 1)) + 1)) + 1)))) from rfl)) ?_
  refine T_iconst (v := nI 1) d_Mo_feed_105 (by decide) ?_
  refine N_iadd (a := 1) (b := ((((((((((((((((((((((((((((n + 1)) + 1)) + 1)) + 1)) + 1)) + 1)) + 1)) + 1)) + 1)) + 1)) + 1)) + 1)) + 1)) + 1))) (c := (((((((((((((((((((((((((((((n + 1)) + 1)) + 1)) + 1)) + 1)) + 1)) + 1)) + 1)) + 1)) + 1)) + 1)) + 1)) + 1)) + 1)) + 1)) d_Mo_feed_106 rfl ?_
  refine N_put (e := (moO (upd v_241 73 (nI ((((((((((((((((((((((((((((((n + 1)) + 1)) + 1)) + 1)) + 1)) + 1)) + 1)) + 1)) + 1)) + 1)) + 1)) + 1)) + 1)) + 1)) + 1)))))) d_Mo_feed_107 (fp_Mo_344 _) hov_241 (Nat.le_of_ble_eq_true rfl) ⟨rfl, rfl⟩ rfl (fun M_242 h_243 s_244 => ?_)
  have p_245 := BG.st (j := 73) (by decide) hwv_241 hsv_241 hiv_241 h_243 (Ex.kp s_244)
  refine N_iinc (k := 14) (m := 1) (c := 15) (L' := [(6, .int (nI 15)), (7, .int x4), (0, .ref 373), (1, .int x1), (2, .int x2), (3, .int x3), (4, .int x4), (5, .int x5)]) d_Mo_feed_110 (by decide) rfl (by decide) rfl rfl ?_
  refine T_goto (tgt := 23) d_Mo_feed_113 rfl ?_
  refine T_iload d_Mo_feed_23 rfl ?_
  refine T_bipush (v := nI 20) d_Mo_feed_25 (by decide) ?_
  refine N_icmp_ge_f (a := 20) (b := 15) d_Mo_feed_27 (tgt := 116) rfl (by omega) (by omega) (by omega) ?_
  refine T_iload_n d_Mo_feed_30 rfl ?_
  refine T_istore (L' := [(7, .int x1), (6, .int (nI 15)), (0, .ref 373), (1, .int x1), (2, .int x2), (3, .int x3), (4, .int x4), (5, .int x5)]) d_Mo_feed_31 (by decide) rfl ?_
  refine T_iload d_Mo_feed_33 rfl ?_
  refine T_iconst (v := nI 4) d_Mo_feed_35 (by decide) ?_
  refine N_icmp_lt_f (a := 4) (b := 15) d_Mo_feed_36 (tgt := 42) rfl (by omega) (by omega) (by omega) ?_
  refine T_iload_n d_Mo_feed_39 rfl ?_
  refine T_istore (L' := [(7, .int x2), (6, .int (nI 15)), (0, .ref 373), (1, .int x1), (2, .int x2), (3, .int x3), (4, .int x4), (5, .int x5)]) d_Mo_feed_40 (by decide) rfl ?_
  refine T_iload d_Mo_feed_42 rfl ?_
  refine T_bipush (v := nI 8) d_Mo_feed_44 (by decide) ?_
  refine N_icmp_lt_f (a := 8) (b := 15) d_Mo_feed_46 (tgt := 52) rfl (by omega) (by omega) (by omega) ?_
  refine T_iload_n d_Mo_feed_49 rfl ?_
  refine T_istore (L' := [(7, .int x3), (6, .int (nI 15)), (0, .ref 373), (1, .int x1), (2, .int x2), (3, .int x3), (4, .int x4), (5, .int x5)]) d_Mo_feed_50 (by decide) rfl ?_
  refine T_iload d_Mo_feed_52 rfl ?_
  refine T_bipush (v := nI 12) d_Mo_feed_54 (by decide) ?_
  refine N_icmp_lt_f (a := 12) (b := 15) d_Mo_feed_56 (tgt := 63) rfl (by omega) (by omega) (by omega) ?_
  refine T_iload d_Mo_feed_59 rfl ?_
  refine T_istore (L' := [(7, .int x4), (6, .int (nI 15)), (0, .ref 373), (1, .int x1), (2, .int x2), (3, .int x3), (4, .int x4), (5, .int x5)]) d_Mo_feed_61 (by decide) rfl ?_
  refine T_iload d_Mo_feed_63 rfl ?_
  refine T_bipush (v := nI 16) d_Mo_feed_65 (by decide) ?_
  refine N_icmp_lt_t (a := 16) (b := 15) d_Mo_feed_67 (tgt := 74) rfl (by omega) (by omega) (by omega) ?_
  refine T_aload_n (v := .ref 373) d_Mo_feed_74 rfl (Or.inr ⟨_, rfl⟩) ?_
  obtain ⟨v_246, hov_246, hwv_246, hsv_246, hiv_246⟩ := id p_245
  refine T_getfield (v := .ref 409) d_Mo_feed_75 fg_Mo_341 hov_246 rfl ?_
  refine T_aload_n (v := .ref 373) d_Mo_feed_78 rfl (Or.inr ⟨_, rfl⟩) ?_
  refine N_getI (x := (v_246 73)) (y := (nI (((((((((((((((((((((((((((((((n + 1)) + 1)) + 1)) + 1)) + 1)) + 1)) + 1)) + 1)) + 1)) + 1)) + 1)) + 1)) + 1)) + 1)) + 1))))) d_Mo_feed_79 fg_Mo_344 hov_246 rfl ((hwv_246 73 (by decide)).trans (show (upd (upd (upd (upd (upd (upd (upd (upd (upd (upd (upd (upd (upd (upd (upd (upd w 66 (nI 0)) 73 (nI ((n + 1)))) 73 (nI ((((n + 1)) + 1)))) 73 (nI ((((((n + 1)) + 1)) + 1)))) 73 (nI ((((((((n + 1)) + 1)) + 1)) + 1)))) 73 (nI ((((((((((n + 1)) + 1)) + 1)) + 1)) + 1)))) 73 (nI ((((((((((((n + 1)) + 1)) + 1)) + 1)) + 1)) + 1)))) 73 (nI ((((((((((((((n + 1)) + 1)) + 1)) + 1)) + 1)) + 1)) + 1)))) 73 (nI ((((((((((((((((n + 1)) + 1)) + 1)) + 1)) + 1)) + 1)) + 1)) + 1)))) 73 (nI ((((((((((((((((((n + 1)) + 1)) + 1)) + 1)) + 1)) + 1)) + 1)) + 1)) + 1)))) 73 (nI ((((((((((((((((((((n + 1)) + 1)) + 1)) + 1)) + 1)) + 1)) + 1)) + 1)) + 1)) + 1)))) 73 (nI ((((((((((((((((((((((n + 1)) + 1)) + 1)) + 1)) + 1)) + 1)) + 1)) + 1)) + 1)) + 1)) + 1)))) 73 (nI ((((((((((((((((((((((((n + 1)) + 1)) + 1)) + 1)) + 1)) + 1)) + 1)) + 1)) + 1)) + 1)) + 1)) + 1)))) 73 (nI ((((((((((((((((((((((((((n + 1)) + 1)) + 1)) + 1)) + 1)) + 1)) + 1)) + 1)) + 1)) + 1)) + 1)) + 1)) + 1)))) 73 (nI ((((((((((((((((((((((((((((n + 1)) + 1)) + 1)) + 1)) + 1)) + 1)) + 1)) + 1)) + 1)) + 1)) + 1)) + 1)) + 1)) + 1)))) 73 (nI ((((((((((((((((((((((((((((((n + 1)) + 1)) + 1)) + 1)) + 1)) + 1)) + 1)) + 1)) + 1)) + 1)) + 1)) + 1)) + 1)) + 1)) + 1)))) 73 = (nI (((((((((((((((((((((((((((((((n + 1)) + 1)) + 1)) + 1)) + 1)) + 1)) + 1)) + 1)) + 1)) + 1)) + 1)) + 1)) + 1)) + 1)) + 1)))) from rfl)) ?_
  refine T_iload d_Mo_feed_82 rfl ?_
  refine T_bipush (v := nI 24) d_Mo_feed_84 (by decide) ?_
  refine T_bipush (v := nI 8) d_Mo_feed_86 (by decide) ?_
  refine T_iload d_Mo_feed_88 rfl ?_
  refine T_iconst (v := nI 3) d_Mo_feed_90 (by decide) ?_
  refine T_iand d_Mo_feed_91 ?_
  refine N_topi (y := (nI 3)) (by decide) ?_
  refine N_imul (a := 3) (b := 8) (c := 24) d_Mo_feed_92 rfl ?_
  refine N_isub (a := 24) (b := 24) (c := 0) d_Mo_feed_93 (by omega) rfl ?_
  refine T_ishr d_Mo_feed_94 ?_
  refine T_sipush (v := nI 255) d_Mo_feed_95 (by decide) ?_
  refine T_iand d_Mo_feed_98 ?_
  rw [i32_255]
  have p_247 := (IA.kp (p_239) (Ex.kp s_244) (by decide))
  obtain ⟨f_248, hf_249, hl_250, hv_251⟩ := id p_247
  refine N_iastore (k := ((((((((((((((((((((((((((((((n + 1)) + 1)) + 1)) + 1)) + 1)) + 1)) + 1)) + 1)) + 1)) + 1)) + 1)) + 1)) + 1)) + 1)) + 1))) d_Mo_feed_99 (by decide) hf_249 (by omega) (by decide) rfl (fun M_252 h_253 s_254 => ?_)
  have p_255 := ia_app (l := (((((((((((((((tx ++ [u8 (x1 >>> ((nI 24) &&& 31))]) ++ [u8 (x1 >>> ((nI 16) &&& 31))]) ++ [u8 (x1 >>> ((nI 8) &&& 31))]) ++ [u8 (x1 >>> ((nI 0) &&& 31))]) ++ [u8 (x2 >>> ((nI 24) &&& 31))]) ++ [u8 (x2 >>> ((nI 16) &&& 31))]) ++ [u8 (x2 >>> ((nI 8) &&& 31))]) ++ [u8 (x2 >>> ((nI 0) &&& 31))]) ++ [u8 (x3 >>> ((nI 24) &&& 31))]) ++ [u8 (x3 >>> ((nI 16) &&& 31))]) ++ [u8 (x3 >>> ((nI 8) &&& 31))]) ++ [u8 (x3 >>> ((nI 0) &&& 31))]) ++ [u8 (x4 >>> ((nI 24) &&& 31))]) ++ [u8 (x4 >>> ((nI 16) &&& 31))]) ++ [u8 (x4 >>> ((nI 8) &&& 31))])) h_253 (by first | omega | (simp only [List.length_append, List.length_cons, List.length_nil]; omega)) (by first | omega | (simp only [List.length_append, List.length_cons, List.length_nil]; omega)) hv_251
  refine T_aload_n (v := .ref 373) d_Mo_feed_100 rfl (Or.inr ⟨_, rfl⟩) ?_
  refine T_dup d_Mo_feed_101 rfl ?_
  have p_256 := (BG.kp (p_245) (Ex.kp s_254) (by decide) (by decide))
  obtain ⟨v_257, hov_257, hwv_257, hsv_257, hiv_257⟩ := id p_256
  refine N_getI (x := (v_257 73)) (y := (nI (((((((((((((((((((((((((((((((n + 1)) + 1)) + 1)) + 1)) + 1)) + 1)) + 1)) + 1)) + 1)) + 1)) + 1)) + 1)) + 1)) + 1)) + 1))))) d_Mo_feed_102 fg_Mo_344 hov_257 rfl ((hwv_257 73 (by decide)).trans (show (upd (upd (upd (upd (upd (upd (upd (upd (upd (upd (upd (upd (upd (upd (upd (upd w 66 (nI 0)) 73 (nI ((n + 1)))) 73 (nI ((((n + 1)) + 1)))) 73 (nI ((((((n + 1)) + 1)) + 1)))) 73 (nI ((((((((n + 1)) + 1)) + 1)) + 1)))) 73 (nI ((((((((((n + 1)) + 1)) + 1)) + 1)) + 1)))) 73 (nI ((((((((((((n + 1)) + 1)) + 1)) + 1)) + 1)) + 1)))) 73 (nI ((((((((((((((n + 1)) + 1)) + 1)) + 1)) + 1)) + 1)) + 1)))) 73 (nI ((((((((((((((((n + 1)) + 1)) + 1)) + 1)) + 1)) + 1)) + 1)) + 1)))) 73 (nI ((((((((((((((((((n + 1)) + 1)) + 1)) + 1)) + 1)) + 1)) + 1)) + 1)) + 1)))) 73 (nI ((((((((((((((((((((n + 1)) + 1)) + 1)) + 1)) + 1)) + 1)) + 1)) + 1)) + 1)) + 1)))) 73 (nI ((((((((((((((((((((((n + 1)) + 1)) + 1)) + 1)) + 1)) + 1)) + 1)) + 1)) + 1)) + 1)) + 1)))) 73 (nI ((((((((((((((((((((((((n + 1)) + 1)) + 1)) + 1)) + 1)) + 1)) + 1)) + 1)) + 1)) + 1)) + 1)) + 1)))) 73 (nI ((((((((((((((((((((((((((n + 1)) + 1)) + 1)) + 1)) + 1)) + 1)) + 1)) + 1)) + 1)) + 1)) + 1)) + 1)) + 1)))) 73 (nI ((((((((((((((((((((((((((((n + 1)) + 1)) + 1)) + 1)) + 1)) + 1)) + 1)) + 1)) + 1)) + 1)) + 1)) + 1)) + 1)) + 1)))) 73 (nI ((((((((((((((((((((((((((((((n + 1)) + 1)) + 1)) + 1)) + 1)) + 1)) + 1)) + 1)) + 1)) + 1)) + 1)) + 1)) + 1)) + 1)) + 1)))) 73 = (nI (((((((((((((((((((((((((((((((n + 1)) + 1)) + 1)) + 1)) + 1)) + 1)) + 1)) + 1)) + 1)) + 1)) + 1)) + 1)) + 1)) + 1)) + 1)))) from rfl)) ?_
  refine T_iconst (v := nI 1) d_Mo_feed_105 (by decide) ?_
  refine N_iadd (a := 1) (b := ((((((((((((((((((((((((((((((n + 1)) + 1)) + 1)) + 1)) + 1)) + 1)) + 1)) + 1)) + 1)) + 1)) + 1)) + 1)) + 1)) + 1)) + 1))) (c := (((((((((((((((((((((((((((((((n + 1)) + 1)) + 1)) + 1)) + 1)) + 1)) + 1)) + 1)) + 1)) + 1)) + 1)) + 1)) + 1)) + 1)) + 1)) + 1)) d_Mo_feed_106 rfl ?_
  refine N_put (e := (moO (upd v_257 73 (nI ((((((((((((((((((((((((((((((((n + 1)) + 1)) + 1)) + 1)) + 1)) + 1)) + 1)) + 1)) + 1)) + 1)) + 1)) + 1)) + 1)) + 1)) + 1)) + 1)))))) d_Mo_feed_107 (fp_Mo_344 _) hov_257 (Nat.le_of_ble_eq_true rfl) ⟨rfl, rfl⟩ rfl (fun M_258 h_259 s_260 => ?_)
  have p_261 := BG.st (j := 73) (by decide) hwv_257 hsv_257 hiv_257 h_259 (Ex.kp s_260)
  refine N_iinc (k := 15) (m := 1) (c := 16) (L' := [(6, .int (nI 16)), (7, .int x4), (0, .ref 373), (1, .int x1), (2, .int x2), (3, .int x3), (4, .int x4), (5, .int x5)]) d_Mo_feed_110 (by decide) rfl (by decide) rfl rfl ?_
  refine T_goto (tgt := 23) d_Mo_feed_113 rfl ?_
  refine T_iload d_Mo_feed_23 rfl ?_
  refine T_bipush (v := nI 20) d_Mo_feed_25 (by decide) ?_
  refine N_icmp_ge_f (a := 20) (b := 16) d_Mo_feed_27 (tgt := 116) rfl (by omega) (by omega) (by omega) ?_
  refine T_iload_n d_Mo_feed_30 rfl ?_
  refine T_istore (L' := [(7, .int x1), (6, .int (nI 16)), (0, .ref 373), (1, .int x1), (2, .int x2), (3, .int x3), (4, .int x4), (5, .int x5)]) d_Mo_feed_31 (by decide) rfl ?_
  refine T_iload d_Mo_feed_33 rfl ?_
  refine T_iconst (v := nI 4) d_Mo_feed_35 (by decide) ?_
  refine N_icmp_lt_f (a := 4) (b := 16) d_Mo_feed_36 (tgt := 42) rfl (by omega) (by omega) (by omega) ?_
  refine T_iload_n d_Mo_feed_39 rfl ?_
  refine T_istore (L' := [(7, .int x2), (6, .int (nI 16)), (0, .ref 373), (1, .int x1), (2, .int x2), (3, .int x3), (4, .int x4), (5, .int x5)]) d_Mo_feed_40 (by decide) rfl ?_
  refine T_iload d_Mo_feed_42 rfl ?_
  refine T_bipush (v := nI 8) d_Mo_feed_44 (by decide) ?_
  refine N_icmp_lt_f (a := 8) (b := 16) d_Mo_feed_46 (tgt := 52) rfl (by omega) (by omega) (by omega) ?_
  refine T_iload_n d_Mo_feed_49 rfl ?_
  refine T_istore (L' := [(7, .int x3), (6, .int (nI 16)), (0, .ref 373), (1, .int x1), (2, .int x2), (3, .int x3), (4, .int x4), (5, .int x5)]) d_Mo_feed_50 (by decide) rfl ?_
  refine T_iload d_Mo_feed_52 rfl ?_
  refine T_bipush (v := nI 12) d_Mo_feed_54 (by decide) ?_
  refine N_icmp_lt_f (a := 12) (b := 16) d_Mo_feed_56 (tgt := 63) rfl (by omega) (by omega) (by omega) ?_
  refine T_iload d_Mo_feed_59 rfl ?_
  refine T_istore (L' := [(7, .int x4), (6, .int (nI 16)), (0, .ref 373), (1, .int x1), (2, .int x2), (3, .int x3), (4, .int x4), (5, .int x5)]) d_Mo_feed_61 (by decide) rfl ?_
  refine T_iload d_Mo_feed_63 rfl ?_
  refine T_bipush (v := nI 16) d_Mo_feed_65 (by decide) ?_
  refine N_icmp_lt_f (a := 16) (b := 16) d_Mo_feed_67 (tgt := 74) rfl (by omega) (by omega) (by omega) ?_
  refine T_iload d_Mo_feed_70 rfl ?_
  refine T_istore (L' := [(7, .int x5), (6, .int (nI 16)), (0, .ref 373), (1, .int x1), (2, .int x2), (3, .int x3), (4, .int x4), (5, .int x5)]) d_Mo_feed_72 (by decide) rfl ?_
  refine T_aload_n (v := .ref 373) d_Mo_feed_74 rfl (Or.inr ⟨_, rfl⟩) ?_
  obtain ⟨v_262, hov_262, hwv_262, hsv_262, hiv_262⟩ := id p_261
  refine T_getfield (v := .ref 409) d_Mo_feed_75 fg_Mo_341 hov_262 rfl ?_
  refine T_aload_n (v := .ref 373) d_Mo_feed_78 rfl (Or.inr ⟨_, rfl⟩) ?_
  refine N_getI (x := (v_262 73)) (y := (nI (((((((((((((((((((((((((((((((((n + 1)) + 1)) + 1)) + 1)) + 1)) + 1)) + 1)) + 1)) + 1)) + 1)) + 1)) + 1)) + 1)) + 1)) + 1)) + 1))))) d_Mo_feed_79 fg_Mo_344 hov_262 rfl ((hwv_262 73 (by decide)).trans (show (upd (upd (upd (upd (upd (upd (upd (upd (upd (upd (upd (upd (upd (upd (upd (upd (upd w 66 (nI 0)) 73 (nI ((n + 1)))) 73 (nI ((((n + 1)) + 1)))) 73 (nI ((((((n + 1)) + 1)) + 1)))) 73 (nI ((((((((n + 1)) + 1)) + 1)) + 1)))) 73 (nI ((((((((((n + 1)) + 1)) + 1)) + 1)) + 1)))) 73 (nI ((((((((((((n + 1)) + 1)) + 1)) + 1)) + 1)) + 1)))) 73 (nI ((((((((((((((n + 1)) + 1)) + 1)) + 1)) + 1)) + 1)) + 1)))) 73 (nI ((((((((((((((((n + 1)) + 1)) + 1)) + 1)) + 1)) + 1)) + 1)) + 1)))) 73 (nI ((((((((((((((((((n + 1)) + 1)) + 1)) + 1)) + 1)) + 1)) + 1)) + 1)) + 1)))) 73 (nI ((((((((((((((((((((n + 1)) + 1)) + 1)) + 1)) + 1)) + 1)) + 1)) + 1)) + 1)) + 1)))) 73 (nI ((((((((((((((((((((((n + 1)) + 1)) + 1)) + 1)) + 1)) + 1)) + 1)) + 1)) + 1)) + 1)) + 1)))) 73 (nI ((((((((((((((((((((((((n + 1)) + 1)) + 1)) + 1)) + 1)) + 1)) + 1)) + 1)) + 1)) + 1)) + 1)) + 1)))) 73 (nI ((((((((((((((((((((((((((n + 1)) + 1)) + 1)) + 1)) + 1)) + 1)) + 1)) + 1)) + 1)) + 1)) + 1)) + 1)) + 1)))) 73 (nI ((((((((((((((((((((((((((((n + 1)) + 1)) + 1)) + 1)) + 1)) + 1)) + 1)) + 1)) + 1)) + 1)) + 1)) + 1)) + 1)) + 1)))) 73 (nI ((((((((((((((((((((((((((((((n + 1)) + 1)) + 1)) + 1)) + 1)) + 1)) + 1)) + 1)) + 1)) + 1)) + 1)) + 1)) + 1)) + 1)) + 1)))) 73 (nI ((((((((((((((((((((((((((((((((n + 1)) + 1)) + 1)) + 1)) + 1)) + 1)) + 1)) + 1)) + 1)) + 1)) + 1)) + 1)) + 1)) + 1)) + 1)) + 1)))) 73 = (nI (((((((((((((((((((((((((((((((((n + 1)) + 1)) + 1)) + 1)) + 1)) + 1)) + 1)) + 1)) + 1)) + 1)) + 1)) + 1)) + 1)) + 1)) + 1)) + 1)))) from rfl)) ?_
  refine T_iload d_Mo_feed_82 rfl ?_
  refine T_bipush (v := nI 24) d_Mo_feed_84 (by decide) ?_
  refine T_bipush (v := nI 8) d_Mo_feed_86 (by decide) ?_
  refine T_iload d_Mo_feed_88 rfl ?_
  refine T_iconst (v := nI 3) d_Mo_feed_90 (by decide) ?_
  refine T_iand d_Mo_feed_91 ?_
  refine N_topi (y := (nI 0)) (by decide) ?_
  refine N_imul (a := 0) (b := 8) (c := 0) d_Mo_feed_92 rfl ?_
  refine N_isub (a := 0) (b := 24) (c := 24) d_Mo_feed_93 (by omega) rfl ?_
  refine T_ishr d_Mo_feed_94 ?_
  refine T_sipush (v := nI 255) d_Mo_feed_95 (by decide) ?_
  refine T_iand d_Mo_feed_98 ?_
  rw [i32_255]
  have p_263 := (IA.kp (p_255) (Ex.kp s_260) (by decide))
  obtain ⟨f_264, hf_265, hl_266, hv_267⟩ := id p_263
  refine N_iastore (k := ((((((((((((((((((((((((((((((((n + 1)) + 1)) + 1)) + 1)) + 1)) + 1)) + 1)) + 1)) + 1)) + 1)) + 1)) + 1)) + 1)) + 1)) + 1)) + 1))) d_Mo_feed_99 (by decide) hf_265 (by omega) (by decide) rfl (fun M_268 h_269 s_270 => ?_)
  have p_271 := ia_app (l := ((((((((((((((((tx ++ [u8 (x1 >>> ((nI 24) &&& 31))]) ++ [u8 (x1 >>> ((nI 16) &&& 31))]) ++ [u8 (x1 >>> ((nI 8) &&& 31))]) ++ [u8 (x1 >>> ((nI 0) &&& 31))]) ++ [u8 (x2 >>> ((nI 24) &&& 31))]) ++ [u8 (x2 >>> ((nI 16) &&& 31))]) ++ [u8 (x2 >>> ((nI 8) &&& 31))]) ++ [u8 (x2 >>> ((nI 0) &&& 31))]) ++ [u8 (x3 >>> ((nI 24) &&& 31))]) ++ [u8 (x3 >>> ((nI 16) &&& 31))]) ++ [u8 (x3 >>> ((nI 8) &&& 31))]) ++ [u8 (x3 >>> ((nI 0) &&& 31))]) ++ [u8 (x4 >>> ((nI 24) &&& 31))]) ++ [u8 (x4 >>> ((nI 16) &&& 31))]) ++ [u8 (x4 >>> ((nI 8) &&& 31))]) ++ [u8 (x4 >>> ((nI 0) &&& 31))])) h_269 (by first | omega | (simp only [List.length_append, List.length_cons, List.length_nil]; omega)) (by first | omega | (simp only [List.length_append, List.length_cons, List.length_nil]; omega)) hv_267
  refine T_aload_n (v := .ref 373) d_Mo_feed_100 rfl (Or.inr ⟨_, rfl⟩) ?_
  refine T_dup d_Mo_feed_101 rfl ?_
  have p_272 := (BG.kp (p_261) (Ex.kp s_270) (by decide) (by decide))
  obtain ⟨v_273, hov_273, hwv_273, hsv_273, hiv_273⟩ := id p_272
  refine N_getI (x := (v_273 73)) (y := (nI (((((((((((((((((((((((((((((((((n + 1)) + 1)) + 1)) + 1)) + 1)) + 1)) + 1)) + 1)) + 1)) + 1)) + 1)) + 1)) + 1)) + 1)) + 1)) + 1))))) d_Mo_feed_102 fg_Mo_344 hov_273 rfl ((hwv_273 73 (by decide)).trans (show (upd (upd (upd (upd (upd (upd (upd (upd (upd (upd (upd (upd (upd (upd (upd (upd (upd w 66 (nI 0)) 73 (nI ((n + 1)))) 73 (nI ((((n + 1)) + 1)))) 73 (nI ((((((n + 1)) + 1)) + 1)))) 73 (nI ((((((((n + 1)) + 1)) + 1)) + 1)))) 73 (nI ((((((((((n + 1)) + 1)) + 1)) + 1)) + 1)))) 73 (nI ((((((((((((n + 1)) + 1)) + 1)) + 1)) + 1)) + 1)))) 73 (nI ((((((((((((((n + 1)) + 1)) + 1)) + 1)) + 1)) + 1)) + 1)))) 73 (nI ((((((((((((((((n + 1)) + 1)) + 1)) + 1)) + 1)) + 1)) + 1)) + 1)))) 73 (nI ((((((((((((((((((n + 1)) + 1)) + 1)) + 1)) + 1)) + 1)) + 1)) + 1)) + 1)))) 73 (nI ((((((((((((((((((((n + 1)) + 1)) + 1)) + 1)) + 1)) + 1)) + 1)) + 1)) + 1)) + 1)))) 73 (nI ((((((((((((((((((((((n + 1)) + 1)) + 1)) + 1)) + 1)) + 1)) + 1)) + 1)) + 1)) + 1)) + 1)))) 73 (nI ((((((((((((((((((((((((n + 1)) + 1)) + 1)) + 1)) + 1)) + 1)) + 1)) + 1)) + 1)) + 1)) + 1)) + 1)))) 73 (nI ((((((((((((((((((((((((((n + 1)) + 1)) + 1)) + 1)) + 1)) + 1)) + 1)) + 1)) + 1)) + 1)) + 1)) + 1)) + 1)))) 73 (nI ((((((((((((((((((((((((((((n + 1)) + 1)) + 1)) + 1)) + 1)) + 1)) + 1)) + 1)) + 1)) + 1)) + 1)) + 1)) + 1)) + 1)))) 73 (nI ((((((((((((((((((((((((((((((n + 1)) + 1)) + 1)) + 1)) + 1)) + 1)) + 1)) + 1)) + 1)) + 1)) + 1)) + 1)) + 1)) + 1)) + 1)))) 73 (nI ((((((((((((((((((((((((((((((((n + 1)) + 1)) + 1)) + 1)) + 1)) + 1)) + 1)) + 1)) + 1)) + 1)) + 1)) + 1)) + 1)) + 1)) + 1)) + 1)))) 73 = (nI (((((((((((((((((((((((((((((((((n + 1)) + 1)) + 1)) + 1)) + 1)) + 1)) + 1)) + 1)) + 1)) + 1)) + 1)) + 1)) + 1)) + 1)) + 1)) + 1)))) from rfl)) ?_
  refine T_iconst (v := nI 1) d_Mo_feed_105 (by decide) ?_
  refine N_iadd (a := 1) (b := ((((((((((((((((((((((((((((((((n + 1)) + 1)) + 1)) + 1)) + 1)) + 1)) + 1)) + 1)) + 1)) + 1)) + 1)) + 1)) + 1)) + 1)) + 1)) + 1))) (c := (((((((((((((((((((((((((((((((((n + 1)) + 1)) + 1)) + 1)) + 1)) + 1)) + 1)) + 1)) + 1)) + 1)) + 1)) + 1)) + 1)) + 1)) + 1)) + 1)) + 1)) d_Mo_feed_106 rfl ?_
  refine N_put (e := (moO (upd v_273 73 (nI ((((((((((((((((((((((((((((((((((n + 1)) + 1)) + 1)) + 1)) + 1)) + 1)) + 1)) + 1)) + 1)) + 1)) + 1)) + 1)) + 1)) + 1)) + 1)) + 1)) + 1)))))) d_Mo_feed_107 (fp_Mo_344 _) hov_273 (Nat.le_of_ble_eq_true rfl) ⟨rfl, rfl⟩ rfl (fun M_274 h_275 s_276 => ?_)
  have p_277 := BG.st (j := 73) (by decide) hwv_273 hsv_273 hiv_273 h_275 (Ex.kp s_276)
  refine N_iinc (k := 16) (m := 1) (c := 17) (L' := [(6, .int (nI 17)), (7, .int x5), (0, .ref 373), (1, .int x1), (2, .int x2), (3, .int x3), (4, .int x4), (5, .int x5)]) d_Mo_feed_110 (by decide) rfl (by decide) rfl rfl ?_
  refine T_goto (tgt := 23) d_Mo_feed_113 rfl ?_
  refine T_iload d_Mo_feed_23 rfl ?_
  refine T_bipush (v := nI 20) d_Mo_feed_25 (by decide) ?_
  refine N_icmp_ge_f (a := 20) (b := 17) d_Mo_feed_27 (tgt := 116) rfl (by omega) (by omega) (by omega) ?_
  refine T_iload_n d_Mo_feed_30 rfl ?_
  refine T_istore (L' := [(7, .int x1), (6, .int (nI 17)), (0, .ref 373), (1, .int x1), (2, .int x2), (3, .int x3), (4, .int x4), (5, .int x5)]) d_Mo_feed_31 (by decide) rfl ?_
  refine T_iload d_Mo_feed_33 rfl ?_
  refine T_iconst (v := nI 4) d_Mo_feed_35 (by decide) ?_
  refine N_icmp_lt_f (a := 4) (b := 17) d_Mo_feed_36 (tgt := 42) rfl (by omega) (by omega) (by omega) ?_
  refine T_iload_n d_Mo_feed_39 rfl ?_
  refine T_istore (L' := [(7, .int x2), (6, .int (nI 17)), (0, .ref 373), (1, .int x1), (2, .int x2), (3, .int x3), (4, .int x4), (5, .int x5)]) d_Mo_feed_40 (by decide) rfl ?_
  refine T_iload d_Mo_feed_42 rfl ?_
  refine T_bipush (v := nI 8) d_Mo_feed_44 (by decide) ?_
  refine N_icmp_lt_f (a := 8) (b := 17) d_Mo_feed_46 (tgt := 52) rfl (by omega) (by omega) (by omega) ?_
  refine T_iload_n d_Mo_feed_49 rfl ?_
  refine T_istore (L' := [(7, .int x3), (6, .int (nI 17)), (0, .ref 373), (1, .int x1), (2, .int x2), (3, .int x3), (4, .int x4), (5, .int x5)]) d_Mo_feed_50 (by decide) rfl ?_
  refine T_iload d_Mo_feed_52 rfl ?_
  refine T_bipush (v := nI 12) d_Mo_feed_54 (by decide) ?_
  refine N_icmp_lt_f (a := 12) (b := 17) d_Mo_feed_56 (tgt := 63) rfl (by omega) (by omega) (by omega) ?_
  refine T_iload d_Mo_feed_59 rfl ?_
  refine T_istore (L' := [(7, .int x4), (6, .int (nI 17)), (0, .ref 373), (1, .int x1), (2, .int x2), (3, .int x3), (4, .int x4), (5, .int x5)]) d_Mo_feed_61 (by decide) rfl ?_
  refine T_iload d_Mo_feed_63 rfl ?_
  refine T_bipush (v := nI 16) d_Mo_feed_65 (by decide) ?_
  refine N_icmp_lt_f (a := 16) (b := 17) d_Mo_feed_67 (tgt := 74) rfl (by omega) (by omega) (by omega) ?_
  refine T_iload d_Mo_feed_70 rfl ?_
  refine T_istore (L' := [(7, .int x5), (6, .int (nI 17)), (0, .ref 373), (1, .int x1), (2, .int x2), (3, .int x3), (4, .int x4), (5, .int x5)]) d_Mo_feed_72 (by decide) rfl ?_
  refine T_aload_n (v := .ref 373) d_Mo_feed_74 rfl (Or.inr ⟨_, rfl⟩) ?_
  obtain ⟨v_278, hov_278, hwv_278, hsv_278, hiv_278⟩ := id p_277
  refine T_getfield (v := .ref 409) d_Mo_feed_75 fg_Mo_341 hov_278 rfl ?_
  refine T_aload_n (v := .ref 373) d_Mo_feed_78 rfl (Or.inr ⟨_, rfl⟩) ?_
  refine N_getI (x := (v_278 73)) (y := (nI (((((((((((((((((((((((((((((((((((n + 1)) + 1)) + 1)) + 1)) + 1)) + 1)) + 1)) + 1)) + 1)) + 1)) + 1)) + 1)) + 1)) + 1)) + 1)) + 1)) + 1))))) d_Mo_feed_79 fg_Mo_344 hov_278 rfl ((hwv_278 73 (by decide)).trans (show (upd (upd (upd (upd (upd (upd (upd (upd (upd (upd (upd (upd (upd (upd (upd (upd (upd (upd w 66 (nI 0)) 73 (nI ((n + 1)))) 73 (nI ((((n + 1)) + 1)))) 73 (nI ((((((n + 1)) + 1)) + 1)))) 73 (nI ((((((((n + 1)) + 1)) + 1)) + 1)))) 73 (nI ((((((((((n + 1)) + 1)) + 1)) + 1)) + 1)))) 73 (nI ((((((((((((n + 1)) + 1)) + 1)) + 1)) + 1)) + 1)))) 73 (nI ((((((((((((((n + 1)) + 1)) + 1)) + 1)) + 1)) + 1)) + 1)))) 73 (nI ((((((((((((((((n + 1)) + 1)) + 1)) + 1)) + 1)) + 1)) + 1)) + 1)))) 73 (nI ((((((((((((((((((n + 1)) + 1)) + 1)) + 1)) + 1)) + 1)) + 1)) + 1)) + 1)))) 73 (nI ((((((((((((((((((((n + 1)) + 1)) + 1)) + 1)) + 1)) + 1)) + 1)) + 1)) + 1)) + 1)))) 73 (nI ((((((((((((((((((((((n + 1)) + 1)) + 1)) + 1)) + 1)) + 1)) + 1)) + 1)) + 1)) + 1)) + 1)))) 73 (nI ((((((((((((((((((((((((n + 1)) + 1)) + 1)) + 1)) + 1)) + 1)) + 1)) + 1)) + 1)) + 1)) + 1)) + 1)))) 73 (nI ((((((((((((((((((((((((((n + 1)) + 1)) + 1)) + 1)) + 1)) + 1)) + 1)) + 1)) + 1)) + 1)) + 1)) + 1)) + 1)))) 73 (nI ((((((((((((((((((((((((((((n + 1)) + 1)) + 1)) + 1)) + 1)) + 1)) + 1)) + 1)) + 1)) + 1)) + 1)) + 1)) + 1)) + 1)))) 73 (nI ((((((((((((((((((((((((((((((n + 1)) + 1)) + 1)) + 1)) + 1)) + 1)) + 1)) + 1)) + 1)) + 1)) + 1)) + 1)) + 1)) + 1)) + 1)))) 73 (nI ((((((((((((((((((((((((((((((((n + 1)) + 1)) + 1)) + 1)) + 1)) + 1)) + 1)) + 1)) + 1)) + 1)) + 1)) + 1)) + 1)) + 1)) + 1)) + 1)))) 73 (nI ((((((((((((((((((((((((((((((((((n + 1)) + 1)) + 1)) + 1)) + 1)) + 1)) + 1)) + 1)) + 1)) + 1)) + 1)) + 1)) + 1)) + 1)) + 1)) + 1)) + 1)))) 73 = (nI (((((((((((((((((((((((((((((((((((n + 1)) + 1)) + 1)) + 1)) + 1)) + 1)) + 1)) + 1)) + 1)) + 1)) + 1)) + 1)) + 1)) + 1)) + 1)) + 1)) + 1)))) from rfl)) ?_
  refine T_iload d_Mo_feed_82 rfl ?_
  refine T_bipush (v := nI 24) d_Mo_feed_84 (by decide) ?_
  refine T_bipush (v := nI 8) d_Mo_feed_86 (by decide) ?_
  refine T_iload d_Mo_feed_88 rfl ?_
  refine T_iconst (v := nI 3) d_Mo_feed_90 (by decide) ?_
  refine T_iand d_Mo_feed_91 ?_
  refine N_topi (y := (nI 1)) (by decide) ?_
  refine N_imul (a := 1) (b := 8) (c := 8) d_Mo_feed_92 rfl ?_
  refine N_isub (a := 8) (b := 24) (c := 16) d_Mo_feed_93 (by omega) rfl ?_
  refine T_ishr d_Mo_feed_94 ?_
  refine T_sipush (v := nI 255) d_Mo_feed_95 (by decide) ?_
  refine T_iand d_Mo_feed_98 ?_
  rw [i32_255]
  have p_279 := (IA.kp (p_271) (Ex.kp s_276) (by decide))
  obtain ⟨f_280, hf_281, hl_282, hv_283⟩ := id p_279
  refine N_iastore (k := ((((((((((((((((((((((((((((((((((n + 1)) + 1)) + 1)) + 1)) + 1)) + 1)) + 1)) + 1)) + 1)) + 1)) + 1)) + 1)) + 1)) + 1)) + 1)) + 1)) + 1))) d_Mo_feed_99 (by decide) hf_281 (by omega) (by decide) rfl (fun M_284 h_285 s_286 => ?_)
  have p_287 := ia_app (l := (((((((((((((((((tx ++ [u8 (x1 >>> ((nI 24) &&& 31))]) ++ [u8 (x1 >>> ((nI 16) &&& 31))]) ++ [u8 (x1 >>> ((nI 8) &&& 31))]) ++ [u8 (x1 >>> ((nI 0) &&& 31))]) ++ [u8 (x2 >>> ((nI 24) &&& 31))]) ++ [u8 (x2 >>> ((nI 16) &&& 31))]) ++ [u8 (x2 >>> ((nI 8) &&& 31))]) ++ [u8 (x2 >>> ((nI 0) &&& 31))]) ++ [u8 (x3 >>> ((nI 24) &&& 31))]) ++ [u8 (x3 >>> ((nI 16) &&& 31))]) ++ [u8 (x3 >>> ((nI 8) &&& 31))]) ++ [u8 (x3 >>> ((nI 0) &&& 31))]) ++ [u8 (x4 >>> ((nI 24) &&& 31))]) ++ [u8 (x4 >>> ((nI 16) &&& 31))]) ++ [u8 (x4 >>> ((nI 8) &&& 31))]) ++ [u8 (x4 >>> ((nI 0) &&& 31))]) ++ [u8 (x5 >>> ((nI 24) &&& 31))])) h_285 (by first | omega | (simp only [List.length_append, List.length_cons, List.length_nil]; omega)) (by first | omega | (simp only [List.length_append, List.length_cons, List.length_nil]; omega)) hv_283
  refine T_aload_n (v := .ref 373) d_Mo_feed_100 rfl (Or.inr ⟨_, rfl⟩) ?_
  refine T_dup d_Mo_feed_101 rfl ?_
  have p_288 := (BG.kp (p_277) (Ex.kp s_286) (by decide) (by decide))
  obtain ⟨v_289, hov_289, hwv_289, hsv_289, hiv_289⟩ := id p_288
  refine N_getI (x := (v_289 73)) (y := (nI (((((((((((((((((((((((((((((((((((n + 1)) + 1)) + 1)) + 1)) + 1)) + 1)) + 1)) + 1)) + 1)) + 1)) + 1)) + 1)) + 1)) + 1)) + 1)) + 1)) + 1))))) d_Mo_feed_102 fg_Mo_344 hov_289 rfl ((hwv_289 73 (by decide)).trans (show (upd (upd (upd (upd (upd (upd (upd (upd (upd (upd (upd (upd (upd (upd (upd (upd (upd (upd w 66 (nI 0)) 73 (nI ((n + 1)))) 73 (nI ((((n + 1)) + 1)))) 73 (nI ((((((n + 1)) + 1)) + 1)))) 73 (nI ((((((((n + 1)) + 1)) + 1)) + 1)))) 73 (nI ((((((((((n + 1)) + 1)) + 1)) + 1)) + 1)))) 73 (nI ((((((((((((n + 1)) + 1)) + 1)) + 1)) + 1)) + 1)))) 73 (nI ((((((((((((((n + 1)) + 1)) + 1)) + 1)) + 1)) + 1)) + 1)))) 73 (nI ((((((((((((((((n + 1)) + 1)) + 1)) + 1)) + 1)) + 1)) + 1)) + 1)))) 73 (nI ((((((((((((((((((n + 1)) + 1)) + 1)) + 1)) + 1)) + 1)) + 1)) + 1)) + 1)))) 73 (nI ((((((((((((((((((((n + 1)) + 1)) + 1)) + 1)) + 1)) + 1)) + 1)) + 1)) + 1)) + 1)))) 73 (nI ((((((((((((((((((((((n + 1)) + 1)) + 1)) + 1)) + 1)) + 1)) + 1)) + 1)) + 1)) + 1)) + 1)))) 73 (nI ((((((((((((((((((((((((n + 1)) + 1)) + 1)) + 1)) + 1)) + 1)) + 1)) + 1)) + 1)) + 1)) + 1)) + 1)))) 73 (nI ((((((((((((((((((((((((((n + 1)) + 1)) + 1)) + 1)) + 1)) + 1)) + 1)) + 1)) + 1)) + 1)) + 1)) + 1)) + 1)))) 73 (nI ((((((((((((((((((((((((((((n + 1)) + 1)) + 1)) + 1)) + 1)) + 1)) + 1)) + 1)) + 1)) + 1)) + 1)) + 1)) + 1)) + 1)))) 73 (nI ((((((((((((((((((((((((((((((n + 1)) + 1)) + 1)) + 1)) + 1)) + 1)) + 1)) + 1)) + 1)) + 1)) + 1)) + 1)) + 1)) + 1)) + 1)))) 73 (nI ((((((((((((((((((((((((((((((((n + 1)) + 1)) + 1)) + 1)) + 1)) + 1)) + 1)) + 1)) + 1)) + 1)) + 1)) + 1)) + 1)) + 1)) + 1)) + 1)))) 73 (nI ((((((((((((((((((((((((((((((((((n + 1)) + 1)) + 1)) + 1)) + 1)) + 1)) + 1)) + 1)) + 1)) + 1)) + 1)) + 1)) + 1)) + 1)) + 1)) + 1)) + 1)))) 73 = (nI (((((((((((((((((((((((((((((((((((n + 1)) + 1)) + 1)) + 1)) + 1)) + 1)) + 1)) + 1)) + 1)) + 1)) + 1)) + 1)) + 1)) + 1)) + 1)) + 1)) + 1)))) from rfl)) ?_
  refine T_iconst (v := nI 1) d_Mo_feed_105 (by decide) ?_
  refine N_iadd (a := 1) (b := ((((((((((((((((((((((((((((((((((n + 1)) + 1)) + 1)) + 1)) + 1)) + 1)) + 1)) + 1)) + 1)) + 1)) + 1)) + 1)) + 1)) + 1)) + 1)) + 1)) + 1))) (c := (((((((((((((((((((((((((((((((((((n + 1)) + 1)) + 1)) + 1)) + 1)) + 1)) + 1)) + 1)) + 1)) + 1)) + 1)) + 1)) + 1)) + 1)) + 1)) + 1)) + 1)) + 1)) d_Mo_feed_106 rfl ?_
  refine N_put (e := (moO (upd v_289 73 (nI ((((((((((((((((((((((((((((((((((((n + 1)) + 1)) + 1)) + 1)) + 1)) + 1)) + 1)) + 1)) + 1)) + 1)) + 1)) + 1)) + 1)) + 1)) + 1)) + 1)) + 1)) + 1)))))) d_Mo_feed_107 (fp_Mo_344 _) hov_289 (Nat.le_of_ble_eq_true rfl) ⟨rfl, rfl⟩ rfl (fun M_290 h_291 s_292 => ?_)
  have p_293 := BG.st (j := 73) (by decide) hwv_289 hsv_289 hiv_289 h_291 (Ex.kp s_292)
  refine N_iinc (k := 17) (m := 1) (c := 18) (L' := [(6, .int (nI 18)), (7, .int x5), (0, .ref 373), (1, .int x1), (2, .int x2), (3, .int x3), (4, .int x4), (5, .int x5)]) d_Mo_feed_110 (by decide) rfl (by decide) rfl rfl ?_
  refine T_goto (tgt := 23) d_Mo_feed_113 rfl ?_
  refine T_iload d_Mo_feed_23 rfl ?_
  refine T_bipush (v := nI 20) d_Mo_feed_25 (by decide) ?_
  refine N_icmp_ge_f (a := 20) (b := 18) d_Mo_feed_27 (tgt := 116) rfl (by omega) (by omega) (by omega) ?_
  refine T_iload_n d_Mo_feed_30 rfl ?_
  refine T_istore (L' := [(7, .int x1), (6, .int (nI 18)), (0, .ref 373), (1, .int x1), (2, .int x2), (3, .int x3), (4, .int x4), (5, .int x5)]) d_Mo_feed_31 (by decide) rfl ?_
  refine T_iload d_Mo_feed_33 rfl ?_
  refine T_iconst (v := nI 4) d_Mo_feed_35 (by decide) ?_
  refine N_icmp_lt_f (a := 4) (b := 18) d_Mo_feed_36 (tgt := 42) rfl (by omega) (by omega) (by omega) ?_
  refine T_iload_n d_Mo_feed_39 rfl ?_
  refine T_istore (L' := [(7, .int x2), (6, .int (nI 18)), (0, .ref 373), (1, .int x1), (2, .int x2), (3, .int x3), (4, .int x4), (5, .int x5)]) d_Mo_feed_40 (by decide) rfl ?_
  refine T_iload d_Mo_feed_42 rfl ?_
  refine T_bipush (v := nI 8) d_Mo_feed_44 (by decide) ?_
  refine N_icmp_lt_f (a := 8) (b := 18) d_Mo_feed_46 (tgt := 52) rfl (by omega) (by omega) (by omega) ?_
  refine T_iload_n d_Mo_feed_49 rfl ?_
  refine T_istore (L' := [(7, .int x3), (6, .int (nI 18)), (0, .ref 373), (1, .int x1), (2, .int x2), (3, .int x3), (4, .int x4), (5, .int x5)]) d_Mo_feed_50 (by decide) rfl ?_
  refine T_iload d_Mo_feed_52 rfl ?_
  refine T_bipush (v := nI 12) d_Mo_feed_54 (by decide) ?_
  refine N_icmp_lt_f (a := 12) (b := 18) d_Mo_feed_56 (tgt := 63) rfl (by omega) (by omega) (by omega) ?_
  refine T_iload d_Mo_feed_59 rfl ?_
  refine T_istore (L' := [(7, .int x4), (6, .int (nI 18)), (0, .ref 373), (1, .int x1), (2, .int x2), (3, .int x3), (4, .int x4), (5, .int x5)]) d_Mo_feed_61 (by decide) rfl ?_
  refine T_iload d_Mo_feed_63 rfl ?_
  refine T_bipush (v := nI 16) d_Mo_feed_65 (by decide) ?_
  refine N_icmp_lt_f (a := 16) (b := 18) d_Mo_feed_67 (tgt := 74) rfl (by omega) (by omega) (by omega) ?_
  refine T_iload d_Mo_feed_70 rfl ?_
  refine T_istore (L' := [(7, .int x5), (6, .int (nI 18)), (0, .ref 373), (1, .int x1), (2, .int x2), (3, .int x3), (4, .int x4), (5, .int x5)]) d_Mo_feed_72 (by decide) rfl ?_
  refine T_aload_n (v := .ref 373) d_Mo_feed_74 rfl (Or.inr ⟨_, rfl⟩) ?_
  obtain ⟨v_294, hov_294, hwv_294, hsv_294, hiv_294⟩ := id p_293
  refine T_getfield (v := .ref 409) d_Mo_feed_75 fg_Mo_341 hov_294 rfl ?_
  refine T_aload_n (v := .ref 373) d_Mo_feed_78 rfl (Or.inr ⟨_, rfl⟩) ?_
  refine N_getI (x := (v_294 73)) (y := (nI (((((((((((((((((((((((((((((((((((((n + 1)) + 1)) + 1)) + 1)) + 1)) + 1)) + 1)) + 1)) + 1)) + 1)) + 1)) + 1)) + 1)) + 1)) + 1)) + 1)) + 1)) + 1))))) d_Mo_feed_79 fg_Mo_344 hov_294 rfl ((hwv_294 73 (by decide)).trans (show (upd (upd (upd (upd (upd (upd (upd (upd (upd (upd (upd (upd (upd (upd (upd (upd (upd (upd (upd w 66 (nI 0)) 73 (nI ((n + 1)))) 73 (nI ((((n + 1)) + 1)))) 73 (nI ((((((n + 1)) + 1)) + 1)))) 73 (nI ((((((((n + 1)) + 1)) + 1)) + 1)))) 73 (nI ((((((((((n + 1)) + 1)) + 1)) + 1)) + 1)))) 73 (nI ((((((((((((n + 1)) + 1)) + 1)) + 1)) + 1)) + 1)))) 73 (nI ((((((((((((((n + 1)) + 1)) + 1)) + 1)) + 1)) + 1)) + 1)))) 73 (nI ((((((((((((((((n + 1)) + 1)) + 1)) + 1)) + 1)) + 1)) + 1)) + 1)))) 73 (nI ((((((((((((((((((n + 1)) + 1)) + 1)) + 1)) + 1)) + 1)) + 1)) + 1)) + 1)))) 73 (nI ((((((((((((((((((((n + 1)) + 1)) + 1)) + 1)) + 1)) + 1)) + 1)) + 1)) + 1)) + 1)))) 73 (nI ((((((((((((((((((((((n + 1)) + 1)) + 1)) + 1)) + 1)) + 1)) + 1)) + 1)) + 1)) + 1)) + 1)))) 73 (nI ((((((((((((((((((((((((n + 1)) + 1)) + 1)) + 1)) + 1)) + 1)) + 1)) + 1)) + 1)) + 1)) + 1)) + 1)))) 73 (nI ((((((((((((((((((((((((((n + 1)) + 1)) + 1)) + 1)) + 1)) + 1)) + 1)) + 1)) + 1)) + 1)) + 1)) + 1)) + 1)))) 73 (nI ((((((((((((((((((((((((((((n + 1)) + 1)) + 1)) + 1)) + 1)) + 1)) + 1)) + 1)) + 1)) + 1)) + 1)) + 1)) + 1)) + 1)))) 73 (nI ((((((((((((((((((((((((((((((n + 1)) + 1)) + 1)) + 1)) + 1)) + 1)) + 1)) + 1)) + 1)) + 1)) + 1)) + 1)) + 1)) + 1)) + 1)))) 73 (nI ((((((((((((((((((((((((((((((((n + 1)) + 1)) + 1)) + 1)) + 1)) + 1)) + 1)) + 1)) + 1)) + 1)) + 1)) + 1)) + 1)) + 1)) + 1)) + 1)))) 73 (nI ((((((((((((((((((((((((((((((((((n + 1)) + 1)) + 1)) + 1)) + 1)) + 1)) + 1)) + 1)) + 1)) + 1)) + 1)) + 1)) + 1)) + 1)) + 1)) + 1)) + 1)))) 73 (nI ((((((((((((((((((((((((((((((((((((n + 1)) + 1)) + 1)) + 1)) + 1)) + 1)) + 1)) + 1)) + 1)) + 1)) + 1)) + 1)) + 1)) + 1)) + 1)) + 1)) + 1)) + 1)))) 73 = (nI (((((((((((((((((((((((((((((((((((((n + 1)) + 1)) + 1)) + 1)) + 1)) + 1)) + 1)) + 1)) + 1)) + 1)) + 1)) + 1)) + 1)) + 1)) + 1)) + 1)) + 1)) + 1)))) from rfl)) ?_
  refine T_iload d_Mo_feed_82 rfl ?_
  refine T_bipush (v := nI 24) d_Mo_feed_84 (by decide) ?_
  refine T_bipush (v := nI 8) d_Mo_feed_86 (by decide) ?_
  refine T_iload d_Mo_feed_88 rfl ?_
  refine T_iconst (v := nI 3) d_Mo_feed_90 (by decide) ?_
  refine T_iand d_Mo_feed_91 ?_
  refine N_topi (y := (nI 2)) (by decide) ?_
  refine N_imul (a := 2) (b := 8) (c := 16) d_Mo_feed_92 rfl ?_
  refine N_isub (a := 16) (b := 24) (c := 8) d_Mo_feed_93 (by omega) rfl ?_
  refine T_ishr d_Mo_feed_94 ?_
  refine T_sipush (v := nI 255) d_Mo_feed_95 (by decide) ?_
  refine T_iand d_Mo_feed_98 ?_
  rw [i32_255]
  have p_295 := (IA.kp (p_287) (Ex.kp s_292) (by decide))
  obtain ⟨f_296, hf_297, hl_298, hv_299⟩ := id p_295
  refine N_iastore (k := ((((((((((((((((((((((((((((((((((((n + 1)) + 1)) + 1)) + 1)) + 1)) + 1)) + 1)) + 1)) + 1)) + 1)) + 1)) + 1)) + 1)) + 1)) + 1)) + 1)) + 1)) + 1))) d_Mo_feed_99 (by decide) hf_297 (by omega) (by decide) rfl (fun M_300 h_301 s_302 => ?_)
  have p_303 := ia_app (l := ((((((((((((((((((tx ++ [u8 (x1 >>> ((nI 24) &&& 31))]) ++ [u8 (x1 >>> ((nI 16) &&& 31))]) ++ [u8 (x1 >>> ((nI 8) &&& 31))]) ++ [u8 (x1 >>> ((nI 0) &&& 31))]) ++ [u8 (x2 >>> ((nI 24) &&& 31))]) ++ [u8 (x2 >>> ((nI 16) &&& 31))]) ++ [u8 (x2 >>> ((nI 8) &&& 31))]) ++ [u8 (x2 >>> ((nI 0) &&& 31))]) ++ [u8 (x3 >>> ((nI 24) &&& 31))]) ++ [u8 (x3 >>> ((nI 16) &&& 31))]) ++ [u8 (x3 >>> ((nI 8) &&& 31))]) ++ [u8 (x3 >>> ((nI 0) &&& 31))]) ++ [u8 (x4 >>> ((nI 24) &&& 31))]) ++ [u8 (x4 >>> ((nI 16) &&& 31))]) ++ [u8 (x4 >>> ((nI 8) &&& 31))]) ++ [u8 (x4 >>> ((nI 0) &&& 31))]) ++ [u8 (x5 >>> ((nI 24) &&& 31))]) ++ [u8 (x5 >>> ((nI 16) &&& 31))])) h_301 (by first | omega | (simp only [List.length_append, List.length_cons, List.length_nil]; omega)) (by first | omega | (simp only [List.length_append, List.length_cons, List.length_nil]; omega)) hv_299
  refine T_aload_n (v := .ref 373) d_Mo_feed_100 rfl (Or.inr ⟨_, rfl⟩) ?_
  refine T_dup d_Mo_feed_101 rfl ?_
  have p_304 := (BG.kp (p_293) (Ex.kp s_302) (by decide) (by decide))
  obtain ⟨v_305, hov_305, hwv_305, hsv_305, hiv_305⟩ := id p_304
  refine N_getI (x := (v_305 73)) (y := (nI (((((((((((((((((((((((((((((((((((((n + 1)) + 1)) + 1)) + 1)) + 1)) + 1)) + 1)) + 1)) + 1)) + 1)) + 1)) + 1)) + 1)) + 1)) + 1)) + 1)) + 1)) + 1))))) d_Mo_feed_102 fg_Mo_344 hov_305 rfl ((hwv_305 73 (by decide)).trans (show (upd (upd (upd (upd (upd (upd (upd (upd (upd (upd (upd (upd (upd (upd (upd (upd (upd (upd (upd w 66 (nI 0)) 73 (nI ((n + 1)))) 73 (nI ((((n + 1)) + 1)))) 73 (nI ((((((n + 1)) + 1)) + 1)))) 73 (nI ((((((((n + 1)) + 1)) + 1)) + 1)))) 73 (nI ((((((((((n + 1)) + 1)) + 1)) + 1)) + 1)))) 73 (nI ((((((((((((n + 1)) + 1)) + 1)) + 1)) + 1)) + 1)))) 73 (nI ((((((((((((((n + 1)) + 1)) + 1)) + 1)) + 1)) + 1)) + 1)))) 73 (nI ((((((((((((((((n + 1)) + 1)) + 1)) + 1)) + 1)) + 1)) + 1)) + 1)))) 73 (nI ((((((((((((((((((n + 1)) + 1)) + 1)) + 1)) + 1)) + 1)) + 1)) + 1)) + 1)))) 73 (nI ((((((((((((((((((((n + 1)) + 1)) + 1)) + 1)) + 1)) + 1)) + 1)) + 1)) + 1)) + 1)))) 73 (nI ((((((((((((((((((((((n + 1)) + 1)) + 1)) + 1)) + 1)) + 1)) + 1)) + 1)) + 1)) + 1)) + 1)))) 73 (nI ((((((((((((((((((((((((n + 1)) + 1)) + 1)) + 1)) + 1)) + 1)) + 1)) + 1)) + 1)) + 1)) + 1)) + 1)))) 73 (nI ((((((((((((((((((((((((((n + 1)) + 1)) + 1)) + 1)) + 1)) + 1)) + 1)) + 1)) + 1)) + 1)) + 1)) + 1)) + 1)))) 73 (nI ((((((((((((((((((((((((((((n + 1)) + 1)) + 1)) + 1)) + 1)) + 1)) + 1)) + 1)) + 1)) + 1)) + 1)) + 1)) + 1)) + 1)))) 73 (nI ((((((((((((((((((((((((((((((n + 1)) + 1)) + 1)) + 1)) + 1)) + 1)) + 1)) + 1)) + 1)) + 1)) + 1)) + 1)) + 1)) + 1)) + 1)))) 73 (nI ((((((((((((((((((((((((((((((((n + 1)) + 1)) + 1)) + 1)) + 1)) + 1)) + 1)) + 1)) + 1)) + 1)) + 1)) + 1)) + 1)) + 1)) + 1)) + 1)))) 73 (nI ((((((((((((((((((((((((((((((((((n + 1)) + 1)) + 1)) + 1)) + 1)) + 1)) + 1)) + 1)) + 1)) + 1)) + 1)) + 1)) + 1)) + 1)) + 1)) + 1)) + 1)))) 73 (nI ((((((((((((((((((((((((((((((((((((n + 1)) + 1)) + 1)) + 1)) + 1)) + 1)) + 1)) + 1)) + 1)) + 1)) + 1)) + 1)) + 1)) + 1)) + 1)) + 1)) + 1)) + 1)))) 73 = (nI (((((((((((((((((((((((((((((((((((((n + 1)) + 1)) + 1)) + 1)) + 1)) + 1)) + 1)) + 1)) + 1)) + 1)) + 1)) + 1)) + 1)) + 1)) + 1)) + 1)) + 1)) + 1)))) from rfl)) ?_
  refine T_iconst (v := nI 1) d_Mo_feed_105 (by decide) ?_
  refine N_iadd (a := 1) (b := ((((((((((((((((((((((((((((((((((((n + 1)) + 1)) + 1)) + 1)) + 1)) + 1)) + 1)) + 1)) + 1)) + 1)) + 1)) + 1)) + 1)) + 1)) + 1)) + 1)) + 1)) + 1))) (c := (((((((((((((((((((((((((((((((((((((n + 1)) + 1)) + 1)) + 1)) + 1)) + 1)) + 1)) + 1)) + 1)) + 1)) + 1)) + 1)) + 1)) + 1)) + 1)) + 1)) + 1)) + 1)) + 1)) d_Mo_feed_106 rfl ?_
  refine N_put (e := (moO (upd v_305 73 (nI ((((((((((((((((((((((((((((((((((((((n + 1)) + 1)) + 1)) + 1)) + 1)) + 1)) + 1)) + 1)) + 1)) + 1)) + 1)) + 1)) + 1)) + 1)) + 1)) + 1)) + 1)) + 1)) + 1)))))) d_Mo_feed_107 (fp_Mo_344 _) hov_305 (Nat.le_of_ble_eq_true rfl) ⟨rfl, rfl⟩ rfl (fun M_306 h_307 s_308 => ?_)
  have p_309 := BG.st (j := 73) (by decide) hwv_305 hsv_305 hiv_305 h_307 (Ex.kp s_308)
  refine N_iinc (k := 18) (m := 1) (c := 19) (L' := [(6, .int (nI 19)), (7, .int x5), (0, .ref 373), (1, .int x1), (2, .int x2), (3, .int x3), (4, .int x4), (5, .int x5)]) d_Mo_feed_110 (by decide) rfl (by decide) rfl rfl ?_
  refine T_goto (tgt := 23) d_Mo_feed_113 rfl ?_
  refine T_iload d_Mo_feed_23 rfl ?_
  refine T_bipush (v := nI 20) d_Mo_feed_25 (by decide) ?_
  refine N_icmp_ge_f (a := 20) (b := 19) d_Mo_feed_27 (tgt := 116) rfl (by omega) (by omega) (by omega) ?_
  refine T_iload_n d_Mo_feed_30 rfl ?_
  refine T_istore (L' := [(7, .int x1), (6, .int (nI 19)), (0, .ref 373), (1, .int x1), (2, .int x2), (3, .int x3), (4, .int x4), (5, .int x5)]) d_Mo_feed_31 (by decide) rfl ?_
  refine T_iload d_Mo_feed_33 rfl ?_
  refine T_iconst (v := nI 4) d_Mo_feed_35 (by decide) ?_
  refine N_icmp_lt_f (a := 4) (b := 19) d_Mo_feed_36 (tgt := 42) rfl (by omega) (by omega) (by omega) ?_
  refine T_iload_n d_Mo_feed_39 rfl ?_
  refine T_istore (L' := [(7, .int x2), (6, .int (nI 19)), (0, .ref 373), (1, .int x1), (2, .int x2), (3, .int x3), (4, .int x4), (5, .int x5)]) d_Mo_feed_40 (by decide) rfl ?_
  refine T_iload d_Mo_feed_42 rfl ?_
  refine T_bipush (v := nI 8) d_Mo_feed_44 (by decide) ?_
  refine N_icmp_lt_f (a := 8) (b := 19) d_Mo_feed_46 (tgt := 52) rfl (by omega) (by omega) (by omega) ?_
  refine T_iload_n d_Mo_feed_49 rfl ?_
  refine T_istore (L' := [(7, .int x3), (6, .int (nI 19)), (0, .ref 373), (1, .int x1), (2, .int x2), (3, .int x3), (4, .int x4), (5, .int x5)]) d_Mo_feed_50 (by decide) rfl ?_
  refine T_iload d_Mo_feed_52 rfl ?_
  refine T_bipush (v := nI 12) d_Mo_feed_54 (by decide) ?_
  refine N_icmp_lt_f (a := 12) (b := 19) d_Mo_feed_56 (tgt := 63) rfl (by omega) (by omega) (by omega) ?_
  refine T_iload d_Mo_feed_59 rfl ?_
  refine T_istore (L' := [(7, .int x4), (6, .int (nI 19)), (0, .ref 373), (1, .int x1), (2, .int x2), (3, .int x3), (4, .int x4), (5, .int x5)]) d_Mo_feed_61 (by decide) rfl ?_
  refine T_iload d_Mo_feed_63 rfl ?_
  refine T_bipush (v := nI 16) d_Mo_feed_65 (by decide) ?_
  refine N_icmp_lt_f (a := 16) (b := 19) d_Mo_feed_67 (tgt := 74) rfl (by omega) (by omega) (by omega) ?_
  refine T_iload d_Mo_feed_70 rfl ?_
  refine T_istore (L' := [(7, .int x5), (6, .int (nI 19)), (0, .ref 373), (1, .int x1), (2, .int x2), (3, .int x3), (4, .int x4), (5, .int x5)]) d_Mo_feed_72 (by decide) rfl ?_
  refine T_aload_n (v := .ref 373) d_Mo_feed_74 rfl (Or.inr ⟨_, rfl⟩) ?_
  obtain ⟨v_310, hov_310, hwv_310, hsv_310, hiv_310⟩ := id p_309
  refine T_getfield (v := .ref 409) d_Mo_feed_75 fg_Mo_341 hov_310 rfl ?_
  refine T_aload_n (v := .ref 373) d_Mo_feed_78 rfl (Or.inr ⟨_, rfl⟩) ?_
  refine N_getI (x := (v_310 73)) (y := (nI (((((((((((((((((((((((((((((((((((((((n + 1)) + 1)) + 1)) + 1)) + 1)) + 1)) + 1)) + 1)) + 1)) + 1)) + 1)) + 1)) + 1)) + 1)) + 1)) + 1)) + 1)) + 1)) + 1))))) d_Mo_feed_79 fg_Mo_344 hov_310 rfl ((hwv_310 73 (by decide)).trans (show (upd (upd (upd (upd (upd (upd (upd (upd (upd (upd (upd (upd (upd (upd (upd (upd (upd (upd (upd (upd w 66 (nI 0)) 73 (nI ((n + 1)))) 73 (nI ((((n + 1)) + 1)))) 73 (nI ((((((n + 1)) + 1)) + 1)))) 73 (nI ((((((((n + 1)) + 1)) + 1)) + 1)))) 73 (nI ((((((((((n + 1)) + 1)) + 1)) + 1)) + 1)))) 73 (nI ((((((((((((n + 1)) + 1)) + 1)) + 1)) + 1)) + 1)))) 73 (nI ((((((((((((((n + 1)) + 1)) + 1)) + 1)) + 1)) + 1)) + 1)))) 73 (nI ((((((((((((((((n + 1)) + 1)) + 1)) + 1)) + 1)) + 1)) + 1)) + 1)))) 73 (nI ((((((((((((((((((n + 1)) + 1)) + 1)) + 1)) + 1)) + 1)) + 1)) + 1)) + 1)))) 73 (nI ((((((((((((((((((((n + 1)) + 1)) + 1)) + 1)) + 1)) + 1)) + 1)) + 1)) + 1)) + 1)))) 73 (nI ((((((((((((((((((((((n + 1)) + 1)) + 1)) + 1)) + 1)) + 1)) + 1)) + 1)) + 1)) + 1)) + 1)))) 73 (nI ((((((((((((((((((((((((n + 1)) + 1)) + 1)) + 1)) + 1)) + 1)) + 1)) + 1)) + 1)) + 1)) + 1)) + 1)))) 73 (nI ((((((((((((((((((((((((((n + 1)) + 1)) + 1)) + 1)) + 1)) + 1)) + 1)) + 1)) + 1)) + 1)) + 1)) + 1)) + 1)))) 73 (nI ((((((((((((((((((((((((((((n + 1)) + 1)) + 1)) + 1)) + 1)) + 1)) + 1)) + 1)) + 1)) + 1)) + 1)) + 1)) + 1)) + 1)))) 73 (nI ((((((((((((((((((((((((((((((n + 1)) + 1)) + 1)) + 1)) + 1)) + 1)) + 1)) + 1)) + 1)) + 1)) + 1)) + 1)) + 1)) + 1)) + 1)))) 73 (nI ((((((((((((((((((((((((((((((((n + 1)) + 1)) + 1)) + 1)) + 1)) + 1)) + 1)) + 1)) + 1)) + 1)) + 1)) + 1)) + 1)) + 1)) + 1)) + 1)))) 73 (nI ((((((((((((((((((((((((((((((((((n + 1)) + 1)) + 1)) + 1)) + 1)) + 1)) + 1)) + 1)) + 1)) + 1)) + 1)) + 1)) + 1)) + 1)) + 1)) + 1)) + 1)))) 73 (nI ((((((((((((((((((((((((((((((((((((n + 1)) + 1)) + 1)) + 1)) + 1)) + 1)) + 1)) + 1)) + 1)) + 1)) + 1)) + 1)) + 1)) + 1)) + 1)) + 1)) + 1)) + 1)))) 73 (nI ((((((((((((((((((((((((((((((((((((((n + 1)) + 1)) + 1)) + 1)) + 1)) + 1)) + 1)) + 1)) + 1)) + 1)) + 1)) + 1)) + 1)) + 1)) + 1)) + 1)) + 1)) + 1)) + 1)))) 73 = (nI (((((((((((((((((((((((((((((((((((((((n + 1)) + 1)) + 1)) + 1)) + 1)) + 1)) + 1)) + 1)) + 1)) + 1)) + 1)) + 1)) + 1)) + 1)) + 1)) + 1)) + 1)) + 1)) + 1)))) from rfl)) ?_
  refine T_iload d_Mo_feed_82 rfl ?_
  refine T_bipush (v := nI 24) d_Mo_feed_84 (by decide) ?_
  refine T_bipush (v := nI 8) d_Mo_feed_86 (by decide) ?_
  refine T_iload d_Mo_feed_88 rfl ?_
  refine T_iconst (v := nI 3) d_Mo_feed_90 (by decide) ?_
  refine T_iand d_Mo_feed_91 ?_
  refine N_topi (y := (nI 3)) (by decide) ?_
  refine N_imul (a := 3) (b := 8) (c := 24) d_Mo_feed_92 rfl ?_
  refine N_isub (a := 24) (b := 24) (c := 0) d_Mo_feed_93 (by omega) rfl ?_
  refine T_ishr d_Mo_feed_94 ?_
  refine T_sipush (v := nI 255) d_Mo_feed_95 (by decide) ?_
  refine T_iand d_Mo_feed_98 ?_
  rw [i32_255]
  have p_311 := (IA.kp (p_303) (Ex.kp s_308) (by decide))
  obtain ⟨f_312, hf_313, hl_314, hv_315⟩ := id p_311
  refine N_iastore (k := ((((((((((((((((((((((((((((((((((((((n + 1)) + 1)) + 1)) + 1)) + 1)) + 1)) + 1)) + 1)) + 1)) + 1)) + 1)) + 1)) + 1)) + 1)) + 1)) + 1)) + 1)) + 1)) + 1))) d_Mo_feed_99 (by decide) hf_313 (by omega) (by decide) rfl (fun M_316 h_317 s_318 => ?_)
  have p_319 := ia_app (l := (((((((((((((((((((tx ++ [u8 (x1 >>> ((nI 24) &&& 31))]) ++ [u8 (x1 >>> ((nI 16) &&& 31))]) ++ [u8 (x1 >>> ((nI 8) &&& 31))]) ++ [u8 (x1 >>> ((nI 0) &&& 31))]) ++ [u8 (x2 >>> ((nI 24) &&& 31))]) ++ [u8 (x2 >>> ((nI 16) &&& 31))]) ++ [u8 (x2 >>> ((nI 8) &&& 31))]) ++ [u8 (x2 >>> ((nI 0) &&& 31))]) ++ [u8 (x3 >>> ((nI 24) &&& 31))]) ++ [u8 (x3 >>> ((nI 16) &&& 31))]) ++ [u8 (x3 >>> ((nI 8) &&& 31))]) ++ [u8 (x3 >>> ((nI 0) &&& 31))]) ++ [u8 (x4 >>> ((nI 24) &&& 31))]) ++ [u8 (x4 >>> ((nI 16) &&& 31))]) ++ [u8 (x4 >>> ((nI 8) &&& 31))]) ++ [u8 (x4 >>> ((nI 0) &&& 31))]) ++ [u8 (x5 >>> ((nI 24) &&& 31))]) ++ [u8 (x5 >>> ((nI 16) &&& 31))]) ++ [u8 (x5 >>> ((nI 8) &&& 31))])) h_317 (by first | omega | (simp only [List.length_append, List.length_cons, List.length_nil]; omega)) (by first | omega | (simp only [List.length_append, List.length_cons, List.length_nil]; omega)) hv_315
  refine T_aload_n (v := .ref 373) d_Mo_feed_100 rfl (Or.inr ⟨_, rfl⟩) ?_
  refine T_dup d_Mo_feed_101 rfl ?_
  have p_320 := (BG.kp (p_309) (Ex.kp s_318) (by decide) (by decide))
  obtain ⟨v_321, hov_321, hwv_321, hsv_321, hiv_321⟩ := id p_320
  refine N_getI (x := (v_321 73)) (y := (nI (((((((((((((((((((((((((((((((((((((((n + 1)) + 1)) + 1)) + 1)) + 1)) + 1)) + 1)) + 1)) + 1)) + 1)) + 1)) + 1)) + 1)) + 1)) + 1)) + 1)) + 1)) + 1)) + 1))))) d_Mo_feed_102 fg_Mo_344 hov_321 rfl ((hwv_321 73 (by decide)).trans (show (upd (upd (upd (upd (upd (upd (upd (upd (upd (upd (upd (upd (upd (upd (upd (upd (upd (upd (upd (upd w 66 (nI 0)) 73 (nI ((n + 1)))) 73 (nI ((((n + 1)) + 1)))) 73 (nI ((((((n + 1)) + 1)) + 1)))) 73 (nI ((((((((n + 1)) + 1)) + 1)) + 1)))) 73 (nI ((((((((((n + 1)) + 1)) + 1)) + 1)) + 1)))) 73 (nI ((((((((((((n + 1)) + 1)) + 1)) + 1)) + 1)) + 1)))) 73 (nI ((((((((((((((n + 1)) + 1)) + 1)) + 1)) + 1)) + 1)) + 1)))) 73 (nI ((((((((((((((((n + 1)) + 1)) + 1)) + 1)) + 1)) + 1)) + 1)) + 1)))) 73 (nI ((((((((((((((((((n + 1)) + 1)) + 1)) + 1)) + 1)) + 1)) + 1)) + 1)) + 1)))) 73 (nI ((((((((((((((((((((n + 1)) + 1)) + 1)) + 1)) + 1)) + 1)) + 1)) + 1)) + 1)) + 1)))) 73 (nI ((((((((((((((((((((((n + 1)) + 1)) + 1)) + 1)) + 1)) + 1)) + 1)) + 1)) + 1)) + 1)) + 1)))) 73 (nI ((((((((((((((((((((((((n + 1)) + 1)) + 1)) + 1)) + 1)) + 1)) + 1)) + 1)) + 1)) + 1)) + 1)) + 1)))) 73 (nI ((((((((((((((((((((((((((n + 1)) + 1)) + 1)) + 1)) + 1)) + 1)) + 1)) + 1)) + 1)) + 1)) + 1)) + 1)) + 1)))) 73 (nI ((((((((((((((((((((((((((((n + 1)) + 1)) + 1)) + 1)) + 1)) + 1)) + 1)) + 1)) + 1)) + 1)) + 1)) + 1)) + 1)) + 1)))) 73 (nI ((((((((((((((((((((((((((((((n + 1)) + 1)) + 1)) + 1)) + 1)) + 1)) + 1)) + 1)) + 1)) + 1)) + 1)) + 1)) + 1)) + 1)) + 1)))) 73 (nI ((((((((((((((((((((((((((((((((n + 1)) + 1)) + 1)) + 1)) + 1)) + 1)) + 1)) + 1)) + 1)) + 1)) + 1)) + 1)) + 1)) + 1)) + 1)) + 1)))) 73 (nI ((((((((((((((((((((((((((((((((((n + 1)) + 1)) + 1)) + 1)) + 1)) + 1)) + 1)) + 1)) + 1)) + 1)) + 1)) + 1)) + 1)) + 1)) + 1)) + 1)) + 1)))) 73 (nI ((((((((((((((((((((((((((((((((((((n + 1)) + 1)) + 1)) + 1)) + 1)) + 1)) + 1)) + 1)) + 1)) + 1)) + 1)) + 1)) + 1)) + 1)) + 1)) + 1)) + 1)) + 1)))) 73 (nI ((((((((((((((((((((((((((((((((((((((n + 1)) + 1)) + 1)) + 1)) + 1)) + 1)) + 1)) + 1)) + 1)) + 1)) + 1)) + 1)) + 1)) + 1)) + 1)) + 1)) + 1)) + 1)) + 1)))) 73 = (nI (((((((((((((((((((((((((((((((((((((((n + 1)) + 1)) + 1)) + 1)) + 1)) + 1)) + 1)) + 1)) + 1)) + 1)) + 1)) + 1)) + 1)) + 1)) + 1)) + 1)) + 1)) + 1)) + 1)))) from rfl)) ?_
  refine T_iconst (v := nI 1) d_Mo_feed_105 (by decide) ?_
  refine N_iadd (a := 1) (b := ((((((((((((((((((((((((((((((((((((((n + 1)) + 1)) + 1)) + 1)) + 1)) + 1)) + 1)) + 1)) + 1)) + 1)) + 1)) + 1)) + 1)) + 1)) + 1)) + 1)) + 1)) + 1)) + 1))) (c := (((((((((((((((((((((((((((((((((((((((n + 1)) + 1)) + 1)) + 1)) + 1)) + 1)) + 1)) + 1)) + 1)) + 1)) + 1)) + 1)) + 1)) + 1)) + 1)) + 1)) + 1)) + 1)) + 1)) + 1)) d_Mo_feed_106 rfl ?_
  refine N_put (e := (moO (upd v_321 73 (nI ((((((((((((((((((((((((((((((((((((((((n + 1)) + 1)) + 1)) + 1)) + 1)) + 1)) + 1)) + 1)) + 1)) + 1)) + 1)) + 1)) + 1)) + 1)) + 1)) + 1)) + 1)) + 1)) + 1)) + 1)))))) d_Mo_feed_107 (fp_Mo_344 _) hov_321 (Nat.le_of_ble_eq_true rfl) ⟨rfl, rfl⟩ rfl (fun M_322 h_323 s_324 => ?_)
  have p_325 := BG.st (j := 73) (by decide) hwv_321 hsv_321 hiv_321 h_323 (Ex.kp s_324)
  refine N_iinc (k := 19) (m := 1) (c := 20) (L' := [(6, .int (nI 20)), (7, .int x5), (0, .ref 373), (1, .int x1), (2, .int x2), (3, .int x3), (4, .int x4), (5, .int x5)]) d_Mo_feed_110 (by decide) rfl (by decide) rfl rfl ?_
  refine T_goto (tgt := 23) d_Mo_feed_113 rfl ?_
  refine T_iload d_Mo_feed_23 rfl ?_
  refine T_bipush (v := nI 20) d_Mo_feed_25 (by decide) ?_
  refine N_icmp_ge_t (a := 20) (b := 20) d_Mo_feed_27 (tgt := 116) rfl (by omega) (by omega) (by omega) ?_
  refine T_iconst (v := nI 1) d_Mo_feed_116 (by decide) ?_
  have p_326 := (IA.kp (p_319) (Ex.kp s_324) (by decide))
  have p_327 : IA M_322 409 200 (tx ++ fd5 x1 x2 x3 x4 x5) := (by have g := p_326; rw [ap_4, ap_4, ap_4, ap_4, ap_4] at g; unfold fd5; simp only [List.append_assoc] at g ⊢; exact g)
  have nb_ : NB M_322 sd ch (n + 20) m 0 := ⟨_, p_325, rfl, h71, h72, (by show nI ((((((((((((((((((((((((((((((((((((((((n + 1)) + 1)) + 1)) + 1)) + 1)) + 1)) + 1)) + 1)) + 1)) + 1)) + 1)) + 1)) + 1)) + 1)) + 1)) + 1)) + 1)) + 1)) + 1)) + 1)) = nI (n + 20); congr 1), h74⟩
  exact T_ret d_Mo_feed_117 rfl (by decide) (by decide) (by decide) ⟨rfl, nb_, p_327, (Kp.ex (Kp.ex (Kp.ex (Kp.ex (Kp.ex (Kp.ex (Kp.ex (Kp.ex (Kp.ex (Kp.ex (Kp.ex (Kp.ex (Kp.ex (Kp.ex (Kp.ex (Kp.ex (Kp.ex (Kp.ex (Kp.ex (Kp.ex (Kp.ex (Kp.ex (Kp.ex (Kp.ex (Kp.ex (Kp.ex (Kp.ex (Kp.ex (Kp.ex (Kp.ex (Kp.ex (Kp.ex (Kp.ex (Kp.ex (Kp.ex (Kp.ex (Kp.ex (Kp.ex (Kp.ex (Kp.ex (Kp.ex (Kp.rf : Kp [373, 409] M M) s_4 (by decide)) s_14 (by decide)) s_20 (by decide)) s_30 (by decide)) s_36 (by decide)) s_46 (by decide)) s_52 (by decide)) s_62 (by decide)) s_68 (by decide)) s_78 (by decide)) s_84 (by decide)) s_94 (by decide)) s_100 (by decide)) s_110 (by decide)) s_116 (by decide)) s_126 (by decide)) s_132 (by decide)) s_142 (by decide)) s_148 (by decide)) s_158 (by decide)) s_164 (by decide)) s_174 (by decide)) s_180 (by decide)) s_190 (by decide)) s_196 (by decide)) s_206 (by decide)) s_212 (by decide)) s_222 (by decide)) s_228 (by decide)) s_238 (by decide)) s_244 (by decide)) s_254 (by decide)) s_260 (by decide)) s_270 (by decide)) s_276 (by decide)) s_286 (by decide)) s_292 (by decide)) s_302 (by decide)) s_308 (by decide)) s_318 (by decide)) s_324 (by decide))⟩

set_option maxHeartbeats 8000000 in
theorem y_ky_extract {G : GX} {M : List va_E} {q d n to m : Nat} {l : List UInt8} (hky : KY M) (hq : BY M q d n l) (ht : BQ M to m) (hl : l.length ≤ 272) (hn : n < 2 ^ 20) (hm : 64 ≤ m) (hm2 : m < 2 ^ 30) (gr : ∀ w ∈ [q, d, to], ∀ z ∈ kyW, w ≠ z) (k_to : K0 ≤ to) (k_d : K0 ≤ d) : CT G mi_Key_extract [.ref 66, .ref q, .ref to] M (fun r M' => r = none ∧ KY M' ∧ BA M' to m (hmac (zer8 64) l) ∧ Kp (to :: kyW) M M') := by
  obtain ⟨y1, y2, ⟨yl3, y3⟩, ⟨yl4, y4⟩, y5, y6, y7⟩ := hky
  refine CT.of (by decide) (Nat.le_of_ble_eq_true rfl) ?_
  show TT G mi_Key_extract 0 [(0, .ref 66), (1, .ref q), (2, .ref to)] [] M 0 0 _
  refine T_aload_n (v := .ref 66) d_Key_extract_0 rfl (Or.inr ⟨_, rfl⟩) ?_
  refine T_aload_n (v := .ref 66) d_Key_extract_1 rfl (Or.inr ⟨_, rfl⟩) ?_
  refine T_getfield (v := .ref 76) d_Key_extract_2 fg_Key_35 y1 rfl ?_
  refine T_aload_n (v := .ref q) d_Key_extract_5 rfl (Or.inr ⟨_, rfl⟩) ?_
  refine T_aload_n (v := .ref to) d_Key_extract_6 rfl (Or.inr ⟨_, rfl⟩) ?_
  refine T_virtual (as := [.ref 76, .ref q, .ref to]) (rest := []) (b := 66) d_Key_extract_7 rfl (jw_Key_mac.jo (by decide)) lm_Key_63 ji_Key_mac js_Key_mac y1 rfl rfl rfl (Nat.le_of_ble_eq_true rfl) (by decide) (by decide) (y_Key_mac y1 y2 y3 y5 y7 hq ht (zer8_len 64) (by decide) (by first | omega | (simp only [List.length_append, List.length_cons, List.length_nil, List.length_replicate, sl_len, be_len, sha_len, xk_len, hmac_len, ex1_len, ex2_len, tag1_len, tC_len, stretch_len]; done) | (simp only [List.length_append, List.length_cons, List.length_nil, List.length_replicate, sl_len, be_len, sha_len, xk_len, hmac_len, ex1_len, ex2_len, tag1_len, tC_len, stretch_len]; omega)) (by omega) hm hm2 (by simp only [List.forall_mem_cons]; exact ⟨(by decide), ⟨(gr q (by simp) 66 (by decide)), (gr q (by simp) 67 (by decide)), (gr q (by simp) 68 (by decide)), (gr q (by simp) 69 (by decide)), (gr q (by simp) 70 (by decide)), (gr q (by simp) 71 (by decide)), (gr q (by simp) 74 (by decide)), fun _ h => absurd h (List.not_mem_nil)⟩, ⟨(gr d (by simp) 66 (by decide)), (gr d (by simp) 67 (by decide)), (gr d (by simp) 68 (by decide)), (gr d (by simp) 69 (by decide)), (gr d (by simp) 70 (by decide)), (gr d (by simp) 71 (by decide)), (gr d (by simp) 74 (by decide)), fun _ h => absurd h (List.not_mem_nil)⟩, ⟨(gr to (by simp) 66 (by decide)), (gr to (by simp) 67 (by decide)), (gr to (by simp) 68 (by decide)), (gr to (by simp) 69 (by decide)), (gr to (by simp) 70 (by decide)), (gr to (by simp) 71 (by decide)), (gr to (by simp) 74 (by decide)), fun _ h => absurd h (List.not_mem_nil)⟩, fun _ h => absurd h (List.not_mem_nil)⟩) k_to k_d) (fun r M_1 hq => ?_)
  obtain ⟨rfl, p_1a, ⟨l_1, p_1b⟩, p_1c, p_1d, kp_1⟩ := hq
  refine T_eq (pc' := 10) (L' := [(0, .ref 66), (1, .ref q), (2, .ref to)]) (st' := []) (M' := M_1) rfl rfl rfl rfl ?_
  have h_2 := (kp_1 66 (by simp only [List.mem_cons, List.not_mem_nil, or_false, not_or]; exact ⟨(by decide), (by decide), (by decide), (by decide), (by decide), (Ne.symm (gr to (by simp) 66 (by decide)))⟩)).trans (y1)
  have p_3 := (BY.kp (y4) kp_1 (by simp only [List.mem_cons, List.not_mem_nil, or_false, not_or]; exact ⟨(by decide), (by decide), (by decide), (by decide), (by decide), (Ne.symm (gr to (by simp) 72 (by decide)))⟩) (by simp only [List.mem_cons, List.not_mem_nil, or_false, not_or]; exact ⟨(by decide), (by decide), (by decide), (by decide), (by decide), (Ne.symm (gr to (by simp) 73 (by decide)))⟩))
  have p_4 := (BQ.kp (y6) kp_1 (by simp only [List.mem_cons, List.not_mem_nil, or_false, not_or]; exact ⟨(by decide), (by decide), (by decide), (by decide), (by decide), (Ne.symm (gr to (by simp) 75 (by decide)))⟩))
  have p_5 := (BA.kp (y7) kp_1 (by simp only [List.mem_cons, List.not_mem_nil, or_false, not_or]; exact ⟨(by decide), (by decide), (by decide), (by decide), (by decide), (Ne.symm (gr to (by simp) 76 (by decide)))⟩))
  have cl : KY M_1 := ⟨h_2, p_1a, ⟨_, p_1b⟩, ⟨_, p_3⟩, p_1c, p_4, p_5⟩
  exact T_vret d_Key_extract_10 rfl (by decide) (by decide) ⟨rfl, cl, p_1d, (Kp.tr (Kp.rf : Kp [to, 66, 67, 68, 69, 70, 71, 72, 73, 74, 75, 76] M M) (Kp.mono kp_1 (by simp)))⟩
set_option maxHeartbeats 8000000 in
theorem y_ky_expand_32 {G : GX} {M : List va_E} {kp mk q d n to m : Nat} {k0 l : List UInt8} (hky : KY M) (hk : BA M kp mk k0) (hq : BY M q d n l) (ht : BQ M to m) (hl0 : k0.length = 64) (hmk : mk < 2 ^ 30) (hl : l.length ≤ 130) (hn : n < 2 ^ 20) (hm : 32 ≤ m) (hm2 : m < 2 ^ 30) (gr : ∀ w ∈ [kp, q, d, to], ∀ z ∈ kyW, w ≠ z) (k_to : K0 ≤ to) (k_d : K0 ≤ d) : CT G mi_Key_expand [.ref 66, .ref kp, .ref q, .ref to, .int (nI 32)] M (fun r M' => r = none ∧ KY M' ∧ BA M' to m (sl (ex1 k0 l) 0 32) ∧ Kp (to :: kyW) M M') := by
  obtain ⟨y1, y2, ⟨yl3, y3⟩, ⟨yl4, y4⟩, y5, y6, y7⟩ := hky
  obtain ⟨t0, ht⟩ := ht
  refine CT.of (by decide) (Nat.le_of_ble_eq_true rfl) ?_
  show TT G mi_Key_expand 0 [(0, .ref 66), (1, .ref kp), (2, .ref q), (3, .ref to), (4, .int (nI 32))] [] M 0 0 _
  refine T_iconst (v := nI 0) d_Key_expand_0 (by decide) ?_
  refine T_istore (L' := [(5, .int (nI 0)), (0, .ref 66), (1, .ref kp), (2, .ref q), (3, .ref to), (4, .int (nI 32))]) d_Key_expand_1 (by decide) rfl ?_
  refine T_iload d_Key_expand_3 rfl ?_
  refine T_iload d_Key_expand_5 rfl ?_
  refine N_icmp_ge_f (a := 32) (b := 0) d_Key_expand_7 (tgt := 98) rfl (by omega) (by omega) (by omega) ?_
  refine T_aload_n (v := .ref 66) d_Key_expand_10 rfl (Or.inr ⟨_, rfl⟩) ?_
  refine T_getfield (v := .ref 72) d_Key_expand_11 fg_Key_25 y1 rfl ?_
  refine T_virtual (as := []) (rest := []) (b := 72) d_Key_expand_14 rfl (jw_By_clear.jo (by decide)) lm_Key_57 ji_By_clear js_By_clear y4.1 rfl rfl rfl (Nat.le_of_ble_eq_true rfl) (by decide) (by decide) (y_By_clear y4 (by decide)) (fun r M_1 hq => ?_)
  obtain ⟨rfl, p_1_0, kp_1⟩ := hq
  refine T_eq (pc' := 17) (L' := [(5, .int (nI 0)), (0, .ref 66), (1, .ref kp), (2, .ref q), (3, .ref to), (4, .int (nI 32))]) (st' := []) (M' := M_1) rfl rfl rfl rfl ?_
  refine T_iload d_Key_expand_17 rfl ?_
  refine N_if_le_t (b := 0) d_Key_expand_19 (tgt := 36) rfl (by omega) (by omega) ?_
  refine T_aload_n (v := .ref 66) d_Key_expand_36 rfl (Or.inr ⟨_, rfl⟩) ?_
  have h_2 := (kp_1 66 (by decide)).trans (y1)
  refine T_getfield (v := .ref 72) d_Key_expand_37 fg_Key_25 h_2 rfl ?_
  refine T_aload_n (v := .ref q) d_Key_expand_40 rfl (Or.inr ⟨_, rfl⟩) ?_
  have p_3 := (BY.kp (hq) kp_1 (gr_ni (gr q (by simp)) (by decide)) (gr_ni (gr d (by simp)) (by decide)))
  refine T_virtual (as := [.ref q]) (rest := []) (b := 72) d_Key_expand_41 rfl (jw_By_putAll.jo (by decide)) lm_Key_67 ji_By_putAll js_By_putAll p_1_0.1 rfl rfl rfl (Nat.le_of_ble_eq_true rfl) (by decide) (by decide) (y_By_putAll p_1_0 p_3 (by first | omega | (simp only [List.length_append, List.length_cons, List.length_nil, List.length_replicate, sl_len, be_len, sha_len, xk_len, hmac_len, ex1_len, ex2_len, tag1_len, tC_len, stretch_len]; done) | (simp only [List.length_append, List.length_cons, List.length_nil, List.length_replicate, sl_len, be_len, sha_len, xk_len, hmac_len, ex1_len, ex2_len, tag1_len, tC_len, stretch_len]; omega)) (by decide) (by omega) (by decide) k_d (by decide)) (fun r M_4 hq => ?_)
  obtain ⟨rfl, p_4_0, kp_4⟩ := hq
  refine T_eq (pc' := 44) (L' := [(5, .int (nI 0)), (0, .ref 66), (1, .ref kp), (2, .ref q), (3, .ref to), (4, .int (nI 32))]) (st' := []) (M' := M_4) rfl rfl rfl rfl ?_
  refine T_aload_n (v := .ref 66) d_Key_expand_44 rfl (Or.inr ⟨_, rfl⟩) ?_
  have h_5 := (kp_4 66 (by decide)).trans (h_2)
  refine T_getfield (v := .ref 72) d_Key_expand_45 fg_Key_25 h_5 rfl ?_
  refine T_iload d_Key_expand_48 rfl ?_
  refine T_bipush (v := nI 64) d_Key_expand_50 (by decide) ?_
  refine N_idiv (a := 64) (b := 0) (c := 0) d_Key_expand_52 (by omega) (by omega) (by omega) rfl ?_
  refine T_iconst (v := nI 1) d_Key_expand_53 (by decide) ?_
  refine N_iadd (a := 1) (b := 0) (c := 1) d_Key_expand_54 rfl ?_
  refine T_virtual (as := [.int (nI 1)]) (rest := []) (b := 72) d_Key_expand_55 rfl (jw_By_putByte.jo (by decide)) lm_Key_60 ji_By_putByte js_By_putByte p_4_0.1 rfl rfl rfl (Nat.le_of_ble_eq_true rfl) (by decide) (by decide) (y_By_putByte (x := (nI 1)) p_4_0 (by first | omega | (simp only [List.length_append, List.length_cons, List.length_nil, List.length_replicate, sl_len, be_len, sha_len, xk_len, hmac_len, ex1_len, ex2_len, tag1_len, tC_len, stretch_len]; done) | (simp only [List.length_append, List.length_cons, List.length_nil, List.length_replicate, sl_len, be_len, sha_len, xk_len, hmac_len, ex1_len, ex2_len, tag1_len, tC_len, stretch_len]; omega)) (by decide) (by decide) (by decide)) (fun r M_6 hq => ?_)
  obtain ⟨rfl, p_6_0, kp_6⟩ := hq
  refine T_eq (pc' := 58) (L' := [(5, .int (nI 0)), (0, .ref 66), (1, .ref kp), (2, .ref q), (3, .ref to), (4, .int (nI 32))]) (st' := []) (M' := M_6) rfl rfl rfl rfl ?_
  refine T_aload_n (v := .ref 66) d_Key_expand_58 rfl (Or.inr ⟨_, rfl⟩) ?_
  refine T_aload_n (v := .ref kp) d_Key_expand_59 rfl (Or.inr ⟨_, rfl⟩) ?_
  refine T_aload_n (v := .ref 66) d_Key_expand_60 rfl (Or.inr ⟨_, rfl⟩) ?_
  have h_7 := (kp_6 66 (by decide)).trans (h_5)
  refine T_getfield (v := .ref 72) d_Key_expand_61 fg_Key_25 h_7 rfl ?_
  refine T_aload_n (v := .ref 66) d_Key_expand_64 rfl (Or.inr ⟨_, rfl⟩) ?_
  refine T_getfield (v := .ref 75) d_Key_expand_65 fg_Key_32 h_7 rfl ?_
  have p_9 := (BA.kp ((BA.kp ((BA.kp (hk) kp_1 (gr_ni (gr kp (by simp)) (by decide)))) kp_4 (gr_ni (gr kp (by simp)) (by decide)))) kp_6 (gr_ni (gr kp (by simp)) (by decide)))
  have p_10 := (BQ.kp ((BQ.kp ((BQ.kp (y6) kp_1 (by decide))) kp_4 (by decide))) kp_6 (by decide))
  have p_11 := (DQ.kp ((DQ.kp ((DQ.kp (y2) kp_1 (by decide) (by decide) (by decide))) kp_4 (by decide) (by decide) (by decide))) kp_6 (by decide) (by decide) (by decide))
  have p_12 := (BY.kp ((BY.kp ((BY.kp (y3) kp_1 (by decide) (by decide))) kp_4 (by decide) (by decide))) kp_6 (by decide) (by decide))
  have p_13 := (BQ.kp ((BQ.kp ((BQ.kp (y5) kp_1 (by decide))) kp_4 (by decide))) kp_6 (by decide))
  refine T_virtual (as := [.ref kp, .ref 72, .ref 75]) (rest := []) (b := 66) d_Key_expand_68 rfl (jw_Key_mac.jo (by decide)) lm_Key_63 ji_Key_mac js_Key_mac h_7 rfl rfl rfl (Nat.le_of_ble_eq_true rfl) (by decide) (by decide) (y_Key_mac h_7 p_11 p_12 p_13 p_9 p_6_0 p_10 hl0 hmk (by first | omega | (simp only [List.length_append, List.length_cons, List.length_nil, List.length_replicate, sl_len, be_len, sha_len, xk_len, hmac_len, ex1_len, ex2_len, tag1_len, tC_len, stretch_len]; done) | (simp only [List.length_append, List.length_cons, List.length_nil, List.length_replicate, sl_len, be_len, sha_len, xk_len, hmac_len, ex1_len, ex2_len, tag1_len, tC_len, stretch_len]; omega)) (by decide) (by decide) (by decide) (by simp only [List.forall_mem_cons]; exact ⟨⟨(gr kp (by simp) 66 (by decide)), (gr kp (by simp) 67 (by decide)), (gr kp (by simp) 68 (by decide)), (gr kp (by simp) 69 (by decide)), (gr kp (by simp) 70 (by decide)), (gr kp (by simp) 71 (by decide)), (gr kp (by simp) 74 (by decide)), fun _ h => absurd h (List.not_mem_nil)⟩, (by decide), (by decide), (by decide), fun _ h => absurd h (List.not_mem_nil)⟩) (by decide) (by decide)) (fun r M_8 hq => ?_)
  obtain ⟨rfl, p_8a, ⟨l_8, p_8b⟩, p_8c, p_8d, kp_8⟩ := hq
  refine T_eq (pc' := 71) (L' := [(5, .int (nI 0)), (0, .ref 66), (1, .ref kp), (2, .ref q), (3, .ref to), (4, .int (nI 32))]) (st' := []) (M' := M_8) rfl rfl rfl rfl ?_
  refine T_aload_n (v := .ref 66) d_Key_expand_71 rfl (Or.inr ⟨_, rfl⟩) ?_
  have h_14 := (kp_8 66 (by decide)).trans (h_7)
  refine T_getfield (v := .ref 75) d_Key_expand_72 fg_Key_32 h_14 rfl ?_
  refine T_iconst (v := nI 0) d_Key_expand_75 (by decide) ?_
  refine T_aload_n (v := .ref to) d_Key_expand_76 rfl (Or.inr ⟨_, rfl⟩) ?_
  refine T_iload d_Key_expand_77 rfl ?_
  refine T_bipush (v := nI 64) d_Key_expand_79 (by decide) ?_
  refine T_iload d_Key_expand_81 rfl ?_
  refine T_iload d_Key_expand_83 rfl ?_
  refine N_isub (a := 0) (b := 32) (c := 32) d_Key_expand_85 (by omega) rfl ?_
  refine T_min d_Key_expand_86 lm_Key_71 (by decide) (Nat.le_of_ble_eq_true rfl) (by decide) (by decide) ?_
  refine T_eq (pc' := 89) (L' := [(5, .int (nI 0)), (0, .ref 66), (1, .ref kp), (2, .ref q), (3, .ref to), (4, .int (nI 32))]) (st' := [.int (nI 32), .int (nI 0), .ref to, .int (nI 0), .ref 75]) (M' := M_8) rfl rfl rfl rfl ?_
  obtain ⟨f_16, hf_17, hl_18, hv_19⟩ := id p_8d
  have h_20 := (kp_8 to (gr_ni (gr to (by simp)) (by decide))).trans ((kp_6 to (gr_ni (gr to (by simp)) (by decide))).trans ((kp_4 to (gr_ni (gr to (by simp)) (by decide))).trans ((kp_1 to (gr_ni (gr to (by simp)) (by decide))).trans (ht))))
  refine N_copyB (n0 := 64) (sp := 0) (dp := 0) (n := 32) d_Key_expand_89 lm_Key_77 (by decide) k_to hf_17 h_20 (by decide) (by omega) (by decide) (by omega) (by decide) (Nat.le_of_ble_eq_true rfl) (fun M_15 ha_15 he_15 => ?_)
  refine N_iinc (k := 0) (m := 64) (c := 64) (L' := [(5, .int (nI 64)), (0, .ref 66), (1, .ref kp), (2, .ref q), (3, .ref to), (4, .int (nI 32))]) d_Key_expand_92 (by decide) rfl (by decide) rfl rfl ?_
  refine T_goto (tgt := 3) d_Key_expand_95 rfl ?_
  refine T_iload d_Key_expand_3 rfl ?_
  refine T_iload d_Key_expand_5 rfl ?_
  refine N_icmp_ge_t (a := 32) (b := 64) d_Key_expand_7 (tgt := 98) rfl (by omega) (by omega) (by omega) ?_
  have h_21 := (he_15 66 (Ne.symm (gr to (by simp) 66 (by decide)))).trans (h_14)
  have p_22 := (DQ.kp (p_8a) (Ex.kp he_15) (by simp only [List.mem_cons, List.not_mem_nil, or_false]; exact (Ne.symm (gr to (by simp) 67 (by decide)))) (by simp only [List.mem_cons, List.not_mem_nil, or_false]; exact (Ne.symm (gr to (by simp) 68 (by decide)))) (by simp only [List.mem_cons, List.not_mem_nil, or_false]; exact (Ne.symm (gr to (by simp) 69 (by decide)))))
  have p_23 := (BY.kp (p_8b) (Ex.kp he_15) (by simp only [List.mem_cons, List.not_mem_nil, or_false]; exact (Ne.symm (gr to (by simp) 70 (by decide)))) (by simp only [List.mem_cons, List.not_mem_nil, or_false]; exact (Ne.symm (gr to (by simp) 71 (by decide)))))
  have p_24 := (BY.kp ((BY.kp (p_6_0) kp_8 (by decide) (by decide))) (Ex.kp he_15) (by simp only [List.mem_cons, List.not_mem_nil, or_false]; exact (Ne.symm (gr to (by simp) 72 (by decide)))) (by simp only [List.mem_cons, List.not_mem_nil, or_false]; exact (Ne.symm (gr to (by simp) 73 (by decide)))))
  have p_25 := (BQ.kp (p_8c) (Ex.kp he_15) (by simp only [List.mem_cons, List.not_mem_nil, or_false]; exact (Ne.symm (gr to (by simp) 74 (by decide)))))
  have p_26 := (BA.kp (p_8d) (Ex.kp he_15) (by simp only [List.mem_cons, List.not_mem_nil, or_false]; exact (Ne.symm (gr to (by simp) 75 (by decide)))))
  have p_27 := (BA.kp ((BA.kp ((BA.kp ((BA.kp ((BA.kp (y7) kp_1 (by decide))) kp_4 (by decide))) kp_6 (by decide))) kp_8 (by decide))) (Ex.kp he_15) (by simp only [List.mem_cons, List.not_mem_nil, or_false]; exact (Ne.symm (gr to (by simp) 76 (by decide)))))
  have cl : KY M_15 := ⟨h_21, p_22, ⟨_, p_23⟩, ⟨_, p_24⟩, p_25, BA.bq p_26, p_27⟩
  refine T_vret d_Key_expand_98 rfl (by decide) (by decide) ⟨rfl, cl, ⟨_, ha_15, ?_, fun i hi => ?_⟩, (Kp.ex (Kp.tr (Kp.tr (Kp.tr (Kp.tr (Kp.rf : Kp [to, 66, 67, 68, 69, 70, 71, 72, 73, 74, 75, 76] M M) (Kp.mono kp_1 (by simp))) (Kp.mono kp_4 (by simp))) (Kp.mono kp_6 (by simp))) (Kp.mono kp_8 (by simp))) he_15 (by simp))⟩
  · simp only [List.length_append, List.length_cons, List.length_nil, List.length_replicate, sl_len, be_len, sha_len, xk_len, hmac_len, ex1_len, ex2_len, tag1_len, tC_len, stretch_len]; omega
  · simp only [List.length_append, List.length_cons, List.length_nil, List.length_replicate, sl_len, be_len, sha_len, xk_len, hmac_len, ex1_len, ex2_len, tag1_len, tC_len, stretch_len] at hi
    rw [pk_cpy_in (by omega) (by omega), show 0 + (i - 0) = i by omega, sl_gd hi, Nat.zero_add]; exact (hv_19 i (by first | omega | (simp only [List.length_append, List.length_cons, List.length_nil, List.length_replicate, sl_len, be_len, sha_len, xk_len, hmac_len, ex1_len, ex2_len, tag1_len, tC_len, stretch_len]; omega)))
set_option maxHeartbeats 8000000 in
theorem y_ky_expand_64 {G : GX} {M : List va_E} {kp mk q d n to m : Nat} {k0 l : List UInt8} (hky : KY M) (hk : BA M kp mk k0) (hq : BY M q d n l) (ht : BQ M to m) (hl0 : k0.length = 64) (hmk : mk < 2 ^ 30) (hl : l.length ≤ 130) (hn : n < 2 ^ 20) (hm : 64 ≤ m) (hm2 : m < 2 ^ 30) (gr : ∀ w ∈ [kp, q, d, to], ∀ z ∈ kyW, w ≠ z) (k_to : K0 ≤ to) (k_d : K0 ≤ d) : CT G mi_Key_expand [.ref 66, .ref kp, .ref q, .ref to, .int (nI 64)] M (fun r M' => r = none ∧ KY M' ∧ BA M' to m (ex1 k0 l) ∧ Kp (to :: kyW) M M') := by
  obtain ⟨y1, y2, ⟨yl3, y3⟩, ⟨yl4, y4⟩, y5, y6, y7⟩ := hky
  obtain ⟨t0, ht⟩ := ht
  refine CT.of (by decide) (Nat.le_of_ble_eq_true rfl) ?_
  show TT G mi_Key_expand 0 [(0, .ref 66), (1, .ref kp), (2, .ref q), (3, .ref to), (4, .int (nI 64))] [] M 0 0 _
  refine T_iconst (v := nI 0) d_Key_expand_0 (by decide) ?_
  refine T_istore (L' := [(5, .int (nI 0)), (0, .ref 66), (1, .ref kp), (2, .ref q), (3, .ref to), (4, .int (nI 64))]) d_Key_expand_1 (by decide) rfl ?_
  refine T_iload d_Key_expand_3 rfl ?_
  refine T_iload d_Key_expand_5 rfl ?_
  refine N_icmp_ge_f (a := 64) (b := 0) d_Key_expand_7 (tgt := 98) rfl (by omega) (by omega) (by omega) ?_
  refine T_aload_n (v := .ref 66) d_Key_expand_10 rfl (Or.inr ⟨_, rfl⟩) ?_
  refine T_getfield (v := .ref 72) d_Key_expand_11 fg_Key_25 y1 rfl ?_
  refine T_virtual (as := []) (rest := []) (b := 72) d_Key_expand_14 rfl (jw_By_clear.jo (by decide)) lm_Key_57 ji_By_clear js_By_clear y4.1 rfl rfl rfl (Nat.le_of_ble_eq_true rfl) (by decide) (by decide) (y_By_clear y4 (by decide)) (fun r M_1 hq => ?_)
  obtain ⟨rfl, p_1_0, kp_1⟩ := hq
  refine T_eq (pc' := 17) (L' := [(5, .int (nI 0)), (0, .ref 66), (1, .ref kp), (2, .ref q), (3, .ref to), (4, .int (nI 64))]) (st' := []) (M' := M_1) rfl rfl rfl rfl ?_
  refine T_iload d_Key_expand_17 rfl ?_
  refine N_if_le_t (b := 0) d_Key_expand_19 (tgt := 36) rfl (by omega) (by omega) ?_
  refine T_aload_n (v := .ref 66) d_Key_expand_36 rfl (Or.inr ⟨_, rfl⟩) ?_
  have h_2 := (kp_1 66 (by decide)).trans (y1)
  refine T_getfield (v := .ref 72) d_Key_expand_37 fg_Key_25 h_2 rfl ?_
  refine T_aload_n (v := .ref q) d_Key_expand_40 rfl (Or.inr ⟨_, rfl⟩) ?_
  have p_3 := (BY.kp (hq) kp_1 (gr_ni (gr q (by simp)) (by decide)) (gr_ni (gr d (by simp)) (by decide)))
  refine T_virtual (as := [.ref q]) (rest := []) (b := 72) d_Key_expand_41 rfl (jw_By_putAll.jo (by decide)) lm_Key_67 ji_By_putAll js_By_putAll p_1_0.1 rfl rfl rfl (Nat.le_of_ble_eq_true rfl) (by decide) (by decide) (y_By_putAll p_1_0 p_3 (by first | omega | (simp only [List.length_append, List.length_cons, List.length_nil, List.length_replicate, sl_len, be_len, sha_len, xk_len, hmac_len, ex1_len, ex2_len, tag1_len, tC_len, stretch_len]; done) | (simp only [List.length_append, List.length_cons, List.length_nil, List.length_replicate, sl_len, be_len, sha_len, xk_len, hmac_len, ex1_len, ex2_len, tag1_len, tC_len, stretch_len]; omega)) (by decide) (by omega) (by decide) k_d (by decide)) (fun r M_4 hq => ?_)
  obtain ⟨rfl, p_4_0, kp_4⟩ := hq
  refine T_eq (pc' := 44) (L' := [(5, .int (nI 0)), (0, .ref 66), (1, .ref kp), (2, .ref q), (3, .ref to), (4, .int (nI 64))]) (st' := []) (M' := M_4) rfl rfl rfl rfl ?_
  refine T_aload_n (v := .ref 66) d_Key_expand_44 rfl (Or.inr ⟨_, rfl⟩) ?_
  have h_5 := (kp_4 66 (by decide)).trans (h_2)
  refine T_getfield (v := .ref 72) d_Key_expand_45 fg_Key_25 h_5 rfl ?_
  refine T_iload d_Key_expand_48 rfl ?_
  refine T_bipush (v := nI 64) d_Key_expand_50 (by decide) ?_
  refine N_idiv (a := 64) (b := 0) (c := 0) d_Key_expand_52 (by omega) (by omega) (by omega) rfl ?_
  refine T_iconst (v := nI 1) d_Key_expand_53 (by decide) ?_
  refine N_iadd (a := 1) (b := 0) (c := 1) d_Key_expand_54 rfl ?_
  refine T_virtual (as := [.int (nI 1)]) (rest := []) (b := 72) d_Key_expand_55 rfl (jw_By_putByte.jo (by decide)) lm_Key_60 ji_By_putByte js_By_putByte p_4_0.1 rfl rfl rfl (Nat.le_of_ble_eq_true rfl) (by decide) (by decide) (y_By_putByte (x := (nI 1)) p_4_0 (by first | omega | (simp only [List.length_append, List.length_cons, List.length_nil, List.length_replicate, sl_len, be_len, sha_len, xk_len, hmac_len, ex1_len, ex2_len, tag1_len, tC_len, stretch_len]; done) | (simp only [List.length_append, List.length_cons, List.length_nil, List.length_replicate, sl_len, be_len, sha_len, xk_len, hmac_len, ex1_len, ex2_len, tag1_len, tC_len, stretch_len]; omega)) (by decide) (by decide) (by decide)) (fun r M_6 hq => ?_)
  obtain ⟨rfl, p_6_0, kp_6⟩ := hq
  refine T_eq (pc' := 58) (L' := [(5, .int (nI 0)), (0, .ref 66), (1, .ref kp), (2, .ref q), (3, .ref to), (4, .int (nI 64))]) (st' := []) (M' := M_6) rfl rfl rfl rfl ?_
  refine T_aload_n (v := .ref 66) d_Key_expand_58 rfl (Or.inr ⟨_, rfl⟩) ?_
  refine T_aload_n (v := .ref kp) d_Key_expand_59 rfl (Or.inr ⟨_, rfl⟩) ?_
  refine T_aload_n (v := .ref 66) d_Key_expand_60 rfl (Or.inr ⟨_, rfl⟩) ?_
  have h_7 := (kp_6 66 (by decide)).trans (h_5)
  refine T_getfield (v := .ref 72) d_Key_expand_61 fg_Key_25 h_7 rfl ?_
  refine T_aload_n (v := .ref 66) d_Key_expand_64 rfl (Or.inr ⟨_, rfl⟩) ?_
  refine T_getfield (v := .ref 75) d_Key_expand_65 fg_Key_32 h_7 rfl ?_
  have p_9 := (BA.kp ((BA.kp ((BA.kp (hk) kp_1 (gr_ni (gr kp (by simp)) (by decide)))) kp_4 (gr_ni (gr kp (by simp)) (by decide)))) kp_6 (gr_ni (gr kp (by simp)) (by decide)))
  have p_10 := (BQ.kp ((BQ.kp ((BQ.kp (y6) kp_1 (by decide))) kp_4 (by decide))) kp_6 (by decide))
  have p_11 := (DQ.kp ((DQ.kp ((DQ.kp (y2) kp_1 (by decide) (by decide) (by decide))) kp_4 (by decide) (by decide) (by decide))) kp_6 (by decide) (by decide) (by decide))
  have p_12 := (BY.kp ((BY.kp ((BY.kp (y3) kp_1 (by decide) (by decide))) kp_4 (by decide) (by decide))) kp_6 (by decide) (by decide))
  have p_13 := (BQ.kp ((BQ.kp ((BQ.kp (y5) kp_1 (by decide))) kp_4 (by decide))) kp_6 (by decide))
  refine T_virtual (as := [.ref kp, .ref 72, .ref 75]) (rest := []) (b := 66) d_Key_expand_68 rfl (jw_Key_mac.jo (by decide)) lm_Key_63 ji_Key_mac js_Key_mac h_7 rfl rfl rfl (Nat.le_of_ble_eq_true rfl) (by decide) (by decide) (y_Key_mac h_7 p_11 p_12 p_13 p_9 p_6_0 p_10 hl0 hmk (by first | omega | (simp only [List.length_append, List.length_cons, List.length_nil, List.length_replicate, sl_len, be_len, sha_len, xk_len, hmac_len, ex1_len, ex2_len, tag1_len, tC_len, stretch_len]; done) | (simp only [List.length_append, List.length_cons, List.length_nil, List.length_replicate, sl_len, be_len, sha_len, xk_len, hmac_len, ex1_len, ex2_len, tag1_len, tC_len, stretch_len]; omega)) (by decide) (by decide) (by decide) (by simp only [List.forall_mem_cons]; exact ⟨⟨(gr kp (by simp) 66 (by decide)), (gr kp (by simp) 67 (by decide)), (gr kp (by simp) 68 (by decide)), (gr kp (by simp) 69 (by decide)), (gr kp (by simp) 70 (by decide)), (gr kp (by simp) 71 (by decide)), (gr kp (by simp) 74 (by decide)), fun _ h => absurd h (List.not_mem_nil)⟩, (by decide), (by decide), (by decide), fun _ h => absurd h (List.not_mem_nil)⟩) (by decide) (by decide)) (fun r M_8 hq => ?_)
  obtain ⟨rfl, p_8a, ⟨l_8, p_8b⟩, p_8c, p_8d, kp_8⟩ := hq
  refine T_eq (pc' := 71) (L' := [(5, .int (nI 0)), (0, .ref 66), (1, .ref kp), (2, .ref q), (3, .ref to), (4, .int (nI 64))]) (st' := []) (M' := M_8) rfl rfl rfl rfl ?_
  refine T_aload_n (v := .ref 66) d_Key_expand_71 rfl (Or.inr ⟨_, rfl⟩) ?_
  have h_14 := (kp_8 66 (by decide)).trans (h_7)
  refine T_getfield (v := .ref 75) d_Key_expand_72 fg_Key_32 h_14 rfl ?_
  refine T_iconst (v := nI 0) d_Key_expand_75 (by decide) ?_
  refine T_aload_n (v := .ref to) d_Key_expand_76 rfl (Or.inr ⟨_, rfl⟩) ?_
  refine T_iload d_Key_expand_77 rfl ?_
  refine T_bipush (v := nI 64) d_Key_expand_79 (by decide) ?_
  refine T_iload d_Key_expand_81 rfl ?_
  refine T_iload d_Key_expand_83 rfl ?_
  refine N_isub (a := 0) (b := 64) (c := 64) d_Key_expand_85 (by omega) rfl ?_
  refine T_min d_Key_expand_86 lm_Key_71 (by decide) (Nat.le_of_ble_eq_true rfl) (by decide) (by decide) ?_
  refine T_eq (pc' := 89) (L' := [(5, .int (nI 0)), (0, .ref 66), (1, .ref kp), (2, .ref q), (3, .ref to), (4, .int (nI 64))]) (st' := [.int (nI 64), .int (nI 0), .ref to, .int (nI 0), .ref 75]) (M' := M_8) rfl rfl rfl rfl ?_
  obtain ⟨f_16, hf_17, hl_18, hv_19⟩ := id p_8d
  have h_20 := (kp_8 to (gr_ni (gr to (by simp)) (by decide))).trans ((kp_6 to (gr_ni (gr to (by simp)) (by decide))).trans ((kp_4 to (gr_ni (gr to (by simp)) (by decide))).trans ((kp_1 to (gr_ni (gr to (by simp)) (by decide))).trans (ht))))
  refine N_copyB (n0 := 64) (sp := 0) (dp := 0) (n := 64) d_Key_expand_89 lm_Key_77 (by decide) k_to hf_17 h_20 (by decide) (by omega) (by decide) (by omega) (by decide) (Nat.le_of_ble_eq_true rfl) (fun M_15 ha_15 he_15 => ?_)
  refine N_iinc (k := 0) (m := 64) (c := 64) (L' := [(5, .int (nI 64)), (0, .ref 66), (1, .ref kp), (2, .ref q), (3, .ref to), (4, .int (nI 64))]) d_Key_expand_92 (by decide) rfl (by decide) rfl rfl ?_
  refine T_goto (tgt := 3) d_Key_expand_95 rfl ?_
  refine T_iload d_Key_expand_3 rfl ?_
  refine T_iload d_Key_expand_5 rfl ?_
  refine N_icmp_ge_t (a := 64) (b := 64) d_Key_expand_7 (tgt := 98) rfl (by omega) (by omega) (by omega) ?_
  have h_21 := (he_15 66 (Ne.symm (gr to (by simp) 66 (by decide)))).trans (h_14)
  have p_22 := (DQ.kp (p_8a) (Ex.kp he_15) (by simp only [List.mem_cons, List.not_mem_nil, or_false]; exact (Ne.symm (gr to (by simp) 67 (by decide)))) (by simp only [List.mem_cons, List.not_mem_nil, or_false]; exact (Ne.symm (gr to (by simp) 68 (by decide)))) (by simp only [List.mem_cons, List.not_mem_nil, or_false]; exact (Ne.symm (gr to (by simp) 69 (by decide)))))
  have p_23 := (BY.kp (p_8b) (Ex.kp he_15) (by simp only [List.mem_cons, List.not_mem_nil, or_false]; exact (Ne.symm (gr to (by simp) 70 (by decide)))) (by simp only [List.mem_cons, List.not_mem_nil, or_false]; exact (Ne.symm (gr to (by simp) 71 (by decide)))))
  have p_24 := (BY.kp ((BY.kp (p_6_0) kp_8 (by decide) (by decide))) (Ex.kp he_15) (by simp only [List.mem_cons, List.not_mem_nil, or_false]; exact (Ne.symm (gr to (by simp) 72 (by decide)))) (by simp only [List.mem_cons, List.not_mem_nil, or_false]; exact (Ne.symm (gr to (by simp) 73 (by decide)))))
  have p_25 := (BQ.kp (p_8c) (Ex.kp he_15) (by simp only [List.mem_cons, List.not_mem_nil, or_false]; exact (Ne.symm (gr to (by simp) 74 (by decide)))))
  have p_26 := (BA.kp (p_8d) (Ex.kp he_15) (by simp only [List.mem_cons, List.not_mem_nil, or_false]; exact (Ne.symm (gr to (by simp) 75 (by decide)))))
  have p_27 := (BA.kp ((BA.kp ((BA.kp ((BA.kp ((BA.kp (y7) kp_1 (by decide))) kp_4 (by decide))) kp_6 (by decide))) kp_8 (by decide))) (Ex.kp he_15) (by simp only [List.mem_cons, List.not_mem_nil, or_false]; exact (Ne.symm (gr to (by simp) 76 (by decide)))))
  have cl : KY M_15 := ⟨h_21, p_22, ⟨_, p_23⟩, ⟨_, p_24⟩, p_25, BA.bq p_26, p_27⟩
  refine T_vret d_Key_expand_98 rfl (by decide) (by decide) ⟨rfl, cl, ⟨_, ha_15, ?_, fun i hi => ?_⟩, (Kp.ex (Kp.tr (Kp.tr (Kp.tr (Kp.tr (Kp.rf : Kp [to, 66, 67, 68, 69, 70, 71, 72, 73, 74, 75, 76] M M) (Kp.mono kp_1 (by simp))) (Kp.mono kp_4 (by simp))) (Kp.mono kp_6 (by simp))) (Kp.mono kp_8 (by simp))) he_15 (by simp))⟩
  · simp only [List.length_append, List.length_cons, List.length_nil, List.length_replicate, sl_len, be_len, sha_len, xk_len, hmac_len, ex1_len, ex2_len, tag1_len, tC_len, stretch_len]; omega
  · simp only [List.length_append, List.length_cons, List.length_nil, List.length_replicate, sl_len, be_len, sha_len, xk_len, hmac_len, ex1_len, ex2_len, tag1_len, tC_len, stretch_len] at hi
    rw [pk_cpy_in (by omega) (by omega), show 0 + (i - 0) = i by omega]; exact (hv_19 i (by first | omega | (simp only [List.length_append, List.length_cons, List.length_nil, List.length_replicate, sl_len, be_len, sha_len, xk_len, hmac_len, ex1_len, ex2_len, tag1_len, tC_len, stretch_len]; omega)))
set_option maxHeartbeats 8000000 in
theorem y_ky_expand_128 {G : GX} {M : List va_E} {kp mk q d n to m : Nat} {k0 l : List UInt8} (hky : KY M) (hk : BA M kp mk k0) (hq : BY M q d n l) (ht : BQ M to m) (hl0 : k0.length = 64) (hmk : mk < 2 ^ 30) (hl : l.length ≤ 130) (hn : n < 2 ^ 20) (hm : 128 ≤ m) (hm2 : m < 2 ^ 30) (gr : ∀ w ∈ [kp, q, d, to], ∀ z ∈ kyW, w ≠ z) (k_to : K0 ≤ to) (k_d : K0 ≤ d) (h_q_to : q ≠ to) (h_d_to : d ≠ to) (h_kp_to : kp ≠ to) : CT G mi_Key_expand [.ref 66, .ref kp, .ref q, .ref to, .int (nI 128)] M (fun r M' => r = none ∧ KY M' ∧ BA M' to m (ex1 k0 l ++ ex2 k0 l) ∧ Kp (to :: kyW) M M') := by
  obtain ⟨y1, y2, ⟨yl3, y3⟩, ⟨yl4, y4⟩, y5, y6, y7⟩ := hky
  obtain ⟨t0, ht⟩ := ht
  refine CT.of (by decide) (Nat.le_of_ble_eq_true rfl) ?_
  show TT G mi_Key_expand 0 [(0, .ref 66), (1, .ref kp), (2, .ref q), (3, .ref to), (4, .int (nI 128))] [] M 0 0 _
  refine T_iconst (v := nI 0) d_Key_expand_0 (by decide) ?_
  refine T_istore (L' := [(5, .int (nI 0)), (0, .ref 66), (1, .ref kp), (2, .ref q), (3, .ref to), (4, .int (nI 128))]) d_Key_expand_1 (by decide) rfl ?_
  refine T_iload d_Key_expand_3 rfl ?_
  refine T_iload d_Key_expand_5 rfl ?_
  refine N_icmp_ge_f (a := 128) (b := 0) d_Key_expand_7 (tgt := 98) rfl (by omega) (by omega) (by omega) ?_
  refine T_aload_n (v := .ref 66) d_Key_expand_10 rfl (Or.inr ⟨_, rfl⟩) ?_
  refine T_getfield (v := .ref 72) d_Key_expand_11 fg_Key_25 y1 rfl ?_
  refine T_virtual (as := []) (rest := []) (b := 72) d_Key_expand_14 rfl (jw_By_clear.jo (by decide)) lm_Key_57 ji_By_clear js_By_clear y4.1 rfl rfl rfl (Nat.le_of_ble_eq_true rfl) (by decide) (by decide) (y_By_clear y4 (by decide)) (fun r M_1 hq => ?_)
  obtain ⟨rfl, p_1_0, kp_1⟩ := hq
  refine T_eq (pc' := 17) (L' := [(5, .int (nI 0)), (0, .ref 66), (1, .ref kp), (2, .ref q), (3, .ref to), (4, .int (nI 128))]) (st' := []) (M' := M_1) rfl rfl rfl rfl ?_
  refine T_iload d_Key_expand_17 rfl ?_
  refine N_if_le_t (b := 0) d_Key_expand_19 (tgt := 36) rfl (by omega) (by omega) ?_
  refine T_aload_n (v := .ref 66) d_Key_expand_36 rfl (Or.inr ⟨_, rfl⟩) ?_
  have h_2 := (kp_1 66 (by decide)).trans (y1)
  refine T_getfield (v := .ref 72) d_Key_expand_37 fg_Key_25 h_2 rfl ?_
  refine T_aload_n (v := .ref q) d_Key_expand_40 rfl (Or.inr ⟨_, rfl⟩) ?_
  have p_3 := (BY.kp (hq) kp_1 (gr_ni (gr q (by simp)) (by decide)) (gr_ni (gr d (by simp)) (by decide)))
  refine T_virtual (as := [.ref q]) (rest := []) (b := 72) d_Key_expand_41 rfl (jw_By_putAll.jo (by decide)) lm_Key_67 ji_By_putAll js_By_putAll p_1_0.1 rfl rfl rfl (Nat.le_of_ble_eq_true rfl) (by decide) (by decide) (y_By_putAll p_1_0 p_3 (by first | omega | (simp only [List.length_append, List.length_cons, List.length_nil, List.length_replicate, sl_len, be_len, sha_len, xk_len, hmac_len, ex1_len, ex2_len, tag1_len, tC_len, stretch_len]; done) | (simp only [List.length_append, List.length_cons, List.length_nil, List.length_replicate, sl_len, be_len, sha_len, xk_len, hmac_len, ex1_len, ex2_len, tag1_len, tC_len, stretch_len]; omega)) (by decide) (by omega) (by decide) k_d (by decide)) (fun r M_4 hq => ?_)
  obtain ⟨rfl, p_4_0, kp_4⟩ := hq
  refine T_eq (pc' := 44) (L' := [(5, .int (nI 0)), (0, .ref 66), (1, .ref kp), (2, .ref q), (3, .ref to), (4, .int (nI 128))]) (st' := []) (M' := M_4) rfl rfl rfl rfl ?_
  refine T_aload_n (v := .ref 66) d_Key_expand_44 rfl (Or.inr ⟨_, rfl⟩) ?_
  have h_5 := (kp_4 66 (by decide)).trans (h_2)
  refine T_getfield (v := .ref 72) d_Key_expand_45 fg_Key_25 h_5 rfl ?_
  refine T_iload d_Key_expand_48 rfl ?_
  refine T_bipush (v := nI 64) d_Key_expand_50 (by decide) ?_
  refine N_idiv (a := 64) (b := 0) (c := 0) d_Key_expand_52 (by omega) (by omega) (by omega) rfl ?_
  refine T_iconst (v := nI 1) d_Key_expand_53 (by decide) ?_
  refine N_iadd (a := 1) (b := 0) (c := 1) d_Key_expand_54 rfl ?_
  refine T_virtual (as := [.int (nI 1)]) (rest := []) (b := 72) d_Key_expand_55 rfl (jw_By_putByte.jo (by decide)) lm_Key_60 ji_By_putByte js_By_putByte p_4_0.1 rfl rfl rfl (Nat.le_of_ble_eq_true rfl) (by decide) (by decide) (y_By_putByte (x := (nI 1)) p_4_0 (by first | omega | (simp only [List.length_append, List.length_cons, List.length_nil, List.length_replicate, sl_len, be_len, sha_len, xk_len, hmac_len, ex1_len, ex2_len, tag1_len, tC_len, stretch_len]; done) | (simp only [List.length_append, List.length_cons, List.length_nil, List.length_replicate, sl_len, be_len, sha_len, xk_len, hmac_len, ex1_len, ex2_len, tag1_len, tC_len, stretch_len]; omega)) (by decide) (by decide) (by decide)) (fun r M_6 hq => ?_)
  obtain ⟨rfl, p_6_0, kp_6⟩ := hq
  refine T_eq (pc' := 58) (L' := [(5, .int (nI 0)), (0, .ref 66), (1, .ref kp), (2, .ref q), (3, .ref to), (4, .int (nI 128))]) (st' := []) (M' := M_6) rfl rfl rfl rfl ?_
  refine T_aload_n (v := .ref 66) d_Key_expand_58 rfl (Or.inr ⟨_, rfl⟩) ?_
  refine T_aload_n (v := .ref kp) d_Key_expand_59 rfl (Or.inr ⟨_, rfl⟩) ?_
  refine T_aload_n (v := .ref 66) d_Key_expand_60 rfl (Or.inr ⟨_, rfl⟩) ?_
  have h_7 := (kp_6 66 (by decide)).trans (h_5)
  refine T_getfield (v := .ref 72) d_Key_expand_61 fg_Key_25 h_7 rfl ?_
  refine T_aload_n (v := .ref 66) d_Key_expand_64 rfl (Or.inr ⟨_, rfl⟩) ?_
  refine T_getfield (v := .ref 75) d_Key_expand_65 fg_Key_32 h_7 rfl ?_
  have p_9 := (BA.kp ((BA.kp ((BA.kp (hk) kp_1 (gr_ni (gr kp (by simp)) (by decide)))) kp_4 (gr_ni (gr kp (by simp)) (by decide)))) kp_6 (gr_ni (gr kp (by simp)) (by decide)))
  have p_10 := (BQ.kp ((BQ.kp ((BQ.kp (y6) kp_1 (by decide))) kp_4 (by decide))) kp_6 (by decide))
  have p_11 := (DQ.kp ((DQ.kp ((DQ.kp (y2) kp_1 (by decide) (by decide) (by decide))) kp_4 (by decide) (by decide) (by decide))) kp_6 (by decide) (by decide) (by decide))
  have p_12 := (BY.kp ((BY.kp ((BY.kp (y3) kp_1 (by decide) (by decide))) kp_4 (by decide) (by decide))) kp_6 (by decide) (by decide))
  have p_13 := (BQ.kp ((BQ.kp ((BQ.kp (y5) kp_1 (by decide))) kp_4 (by decide))) kp_6 (by decide))
  refine T_virtual (as := [.ref kp, .ref 72, .ref 75]) (rest := []) (b := 66) d_Key_expand_68 rfl (jw_Key_mac.jo (by decide)) lm_Key_63 ji_Key_mac js_Key_mac h_7 rfl rfl rfl (Nat.le_of_ble_eq_true rfl) (by decide) (by decide) (y_Key_mac h_7 p_11 p_12 p_13 p_9 p_6_0 p_10 hl0 hmk (by first | omega | (simp only [List.length_append, List.length_cons, List.length_nil, List.length_replicate, sl_len, be_len, sha_len, xk_len, hmac_len, ex1_len, ex2_len, tag1_len, tC_len, stretch_len]; done) | (simp only [List.length_append, List.length_cons, List.length_nil, List.length_replicate, sl_len, be_len, sha_len, xk_len, hmac_len, ex1_len, ex2_len, tag1_len, tC_len, stretch_len]; omega)) (by decide) (by decide) (by decide) (by simp only [List.forall_mem_cons]; exact ⟨⟨(gr kp (by simp) 66 (by decide)), (gr kp (by simp) 67 (by decide)), (gr kp (by simp) 68 (by decide)), (gr kp (by simp) 69 (by decide)), (gr kp (by simp) 70 (by decide)), (gr kp (by simp) 71 (by decide)), (gr kp (by simp) 74 (by decide)), fun _ h => absurd h (List.not_mem_nil)⟩, (by decide), (by decide), (by decide), fun _ h => absurd h (List.not_mem_nil)⟩) (by decide) (by decide)) (fun r M_8 hq => ?_)
  obtain ⟨rfl, p_8a, ⟨l_8, p_8b⟩, p_8c, p_8d, kp_8⟩ := hq
  refine T_eq (pc' := 71) (L' := [(5, .int (nI 0)), (0, .ref 66), (1, .ref kp), (2, .ref q), (3, .ref to), (4, .int (nI 128))]) (st' := []) (M' := M_8) rfl rfl rfl rfl ?_
  refine T_aload_n (v := .ref 66) d_Key_expand_71 rfl (Or.inr ⟨_, rfl⟩) ?_
  have h_14 := (kp_8 66 (by decide)).trans (h_7)
  refine T_getfield (v := .ref 75) d_Key_expand_72 fg_Key_32 h_14 rfl ?_
  refine T_iconst (v := nI 0) d_Key_expand_75 (by decide) ?_
  refine T_aload_n (v := .ref to) d_Key_expand_76 rfl (Or.inr ⟨_, rfl⟩) ?_
  refine T_iload d_Key_expand_77 rfl ?_
  refine T_bipush (v := nI 64) d_Key_expand_79 (by decide) ?_
  refine T_iload d_Key_expand_81 rfl ?_
  refine T_iload d_Key_expand_83 rfl ?_
  refine N_isub (a := 0) (b := 128) (c := 128) d_Key_expand_85 (by omega) rfl ?_
  refine T_min d_Key_expand_86 lm_Key_71 (by decide) (Nat.le_of_ble_eq_true rfl) (by decide) (by decide) ?_
  refine T_eq (pc' := 89) (L' := [(5, .int (nI 0)), (0, .ref 66), (1, .ref kp), (2, .ref q), (3, .ref to), (4, .int (nI 128))]) (st' := [.int (nI 64), .int (nI 0), .ref to, .int (nI 0), .ref 75]) (M' := M_8) rfl rfl rfl rfl ?_
  obtain ⟨f_16, hf_17, hl_18, hv_19⟩ := id p_8d
  have h_20 := (kp_8 to (gr_ni (gr to (by simp)) (by decide))).trans ((kp_6 to (gr_ni (gr to (by simp)) (by decide))).trans ((kp_4 to (gr_ni (gr to (by simp)) (by decide))).trans ((kp_1 to (gr_ni (gr to (by simp)) (by decide))).trans (ht))))
  refine N_copyB (n0 := 64) (sp := 0) (dp := 0) (n := 64) d_Key_expand_89 lm_Key_77 (by decide) k_to hf_17 h_20 (by decide) (by omega) (by decide) (by omega) (by decide) (Nat.le_of_ble_eq_true rfl) (fun M_15 ha_15 he_15 => ?_)
  refine N_iinc (k := 0) (m := 64) (c := 64) (L' := [(5, .int (nI 64)), (0, .ref 66), (1, .ref kp), (2, .ref q), (3, .ref to), (4, .int (nI 128))]) d_Key_expand_92 (by decide) rfl (by decide) rfl rfl ?_
  refine T_goto (tgt := 3) d_Key_expand_95 rfl ?_
  refine T_iload d_Key_expand_3 rfl ?_
  refine T_iload d_Key_expand_5 rfl ?_
  refine N_icmp_ge_f (a := 128) (b := 64) d_Key_expand_7 (tgt := 98) rfl (by omega) (by omega) (by omega) ?_
  refine T_aload_n (v := .ref 66) d_Key_expand_10 rfl (Or.inr ⟨_, rfl⟩) ?_
  have h_21 := (he_15 66 (Ne.symm (gr to (by simp) 66 (by decide)))).trans (h_14)
  refine T_getfield (v := .ref 72) d_Key_expand_11 fg_Key_25 h_21 rfl ?_
  have p_22 := (BY.kp ((BY.kp (p_6_0) kp_8 (by decide) (by decide))) (Ex.kp he_15) (by simp only [List.mem_cons, List.not_mem_nil, or_false]; exact (Ne.symm (gr to (by simp) 72 (by decide)))) (by simp only [List.mem_cons, List.not_mem_nil, or_false]; exact (Ne.symm (gr to (by simp) 73 (by decide)))))
  refine T_virtual (as := []) (rest := []) (b := 72) d_Key_expand_14 rfl (jw_By_clear.jo (by decide)) lm_Key_57 ji_By_clear js_By_clear p_22.1 rfl rfl rfl (Nat.le_of_ble_eq_true rfl) (by decide) (by decide) (y_By_clear p_22 (by decide)) (fun r M_23 hq => ?_)
  obtain ⟨rfl, p_23_0, kp_23⟩ := hq
  refine T_eq (pc' := 17) (L' := [(5, .int (nI 64)), (0, .ref 66), (1, .ref kp), (2, .ref q), (3, .ref to), (4, .int (nI 128))]) (st' := []) (M' := M_23) rfl rfl rfl rfl ?_
  refine T_iload d_Key_expand_17 rfl ?_
  refine N_if_le_f (b := 64) d_Key_expand_19 (tgt := 36) rfl (by omega) (by omega) ?_
  refine T_aload_n (v := .ref 66) d_Key_expand_22 rfl (Or.inr ⟨_, rfl⟩) ?_
  have h_24 := (kp_23 66 (by decide)).trans (h_21)
  refine T_getfield (v := .ref 72) d_Key_expand_23 fg_Key_25 h_24 rfl ?_
  refine T_aload_n (v := .ref 66) d_Key_expand_26 rfl (Or.inr ⟨_, rfl⟩) ?_
  refine T_getfield (v := .ref 75) d_Key_expand_27 fg_Key_32 h_24 rfl ?_
  refine T_iconst (v := nI 0) d_Key_expand_30 (by decide) ?_
  refine T_bipush (v := nI 64) d_Key_expand_31 (by decide) ?_
  have p_25 := (BA.kp ((BA.kp (p_8d) (Ex.kp he_15) (by simp only [List.mem_cons, List.not_mem_nil, or_false]; exact (Ne.symm (gr to (by simp) 75 (by decide)))))) kp_23 (by decide))
  refine T_virtual (as := [.ref 75, .int (nI 0), .int (nI 64)]) (rest := []) (b := 72) d_Key_expand_33 rfl (jw_By_put.jo (by decide)) lm_Key_49 ji_By_put js_By_put p_23_0.1 rfl rfl rfl (Nat.le_of_ble_eq_true rfl) (by decide) (by decide) (y_By_put (at0 := 0) (k := 64) p_23_0 p_25 (by first | omega | (simp only [List.length_append, List.length_cons, List.length_nil, List.length_replicate, sl_len, be_len, sha_len, xk_len, hmac_len, ex1_len, ex2_len, tag1_len, tC_len, stretch_len]; done) | (simp only [List.length_append, List.length_cons, List.length_nil, List.length_replicate, sl_len, be_len, sha_len, xk_len, hmac_len, ex1_len, ex2_len, tag1_len, tC_len, stretch_len]; omega)) (by first | omega | (simp only [List.length_append, List.length_cons, List.length_nil, List.length_replicate, sl_len, be_len, sha_len, xk_len, hmac_len, ex1_len, ex2_len, tag1_len, tC_len, stretch_len]; done) | (simp only [List.length_append, List.length_cons, List.length_nil, List.length_replicate, sl_len, be_len, sha_len, xk_len, hmac_len, ex1_len, ex2_len, tag1_len, tC_len, stretch_len]; omega)) (by decide) (by decide) (by decide) (by decide) (by decide)) (fun r M_26 hq => ?_)
  obtain ⟨rfl, p_26_0, kp_26⟩ := hq
  refine T_eq (pc' := 36) (L' := [(5, .int (nI 64)), (0, .ref 66), (1, .ref kp), (2, .ref q), (3, .ref to), (4, .int (nI 128))]) (st' := []) (M' := M_26) rfl rfl rfl rfl ?_
  refine T_aload_n (v := .ref 66) d_Key_expand_36 rfl (Or.inr ⟨_, rfl⟩) ?_
  have h_27 := (kp_26 66 (by decide)).trans (h_24)
  refine T_getfield (v := .ref 72) d_Key_expand_37 fg_Key_25 h_27 rfl ?_
  refine T_aload_n (v := .ref q) d_Key_expand_40 rfl (Or.inr ⟨_, rfl⟩) ?_
  have p_28 := (BY.kp ((BY.kp ((BY.kp ((BY.kp ((BY.kp ((BY.kp (p_3) kp_4 (gr_ni (gr q (by simp)) (by decide)) (gr_ni (gr d (by simp)) (by decide)))) kp_6 (gr_ni (gr q (by simp)) (by decide)) (gr_ni (gr d (by simp)) (by decide)))) kp_8 (gr_ni (gr q (by simp)) (by decide)) (gr_ni (gr d (by simp)) (by decide)))) (Ex.kp he_15) (by simp only [List.mem_cons, List.not_mem_nil, or_false]; exact h_q_to) (by simp only [List.mem_cons, List.not_mem_nil, or_false]; exact h_d_to))) kp_23 (gr_ni (gr q (by simp)) (by decide)) (gr_ni (gr d (by simp)) (by decide)))) kp_26 (gr_ni (gr q (by simp)) (by decide)) (gr_ni (gr d (by simp)) (by decide)))
  refine T_virtual (as := [.ref q]) (rest := []) (b := 72) d_Key_expand_41 rfl (jw_By_putAll.jo (by decide)) lm_Key_67 ji_By_putAll js_By_putAll p_26_0.1 rfl rfl rfl (Nat.le_of_ble_eq_true rfl) (by decide) (by decide) (y_By_putAll p_26_0 p_28 (by first | omega | (simp only [List.length_append, List.length_cons, List.length_nil, List.length_replicate, sl_len, be_len, sha_len, xk_len, hmac_len, ex1_len, ex2_len, tag1_len, tC_len, stretch_len]; done) | (simp only [List.length_append, List.length_cons, List.length_nil, List.length_replicate, sl_len, be_len, sha_len, xk_len, hmac_len, ex1_len, ex2_len, tag1_len, tC_len, stretch_len]; omega)) (by decide) (by omega) (by decide) k_d (by decide)) (fun r M_29 hq => ?_)
  obtain ⟨rfl, p_29_0, kp_29⟩ := hq
  refine T_eq (pc' := 44) (L' := [(5, .int (nI 64)), (0, .ref 66), (1, .ref kp), (2, .ref q), (3, .ref to), (4, .int (nI 128))]) (st' := []) (M' := M_29) rfl rfl rfl rfl ?_
  refine T_aload_n (v := .ref 66) d_Key_expand_44 rfl (Or.inr ⟨_, rfl⟩) ?_
  have h_30 := (kp_29 66 (by decide)).trans (h_27)
  refine T_getfield (v := .ref 72) d_Key_expand_45 fg_Key_25 h_30 rfl ?_
  refine T_iload d_Key_expand_48 rfl ?_
  refine T_bipush (v := nI 64) d_Key_expand_50 (by decide) ?_
  refine N_idiv (a := 64) (b := 64) (c := 1) d_Key_expand_52 (by omega) (by omega) (by omega) rfl ?_
  refine T_iconst (v := nI 1) d_Key_expand_53 (by decide) ?_
  refine N_iadd (a := 1) (b := 1) (c := 2) d_Key_expand_54 rfl ?_
  refine T_virtual (as := [.int (nI 2)]) (rest := []) (b := 72) d_Key_expand_55 rfl (jw_By_putByte.jo (by decide)) lm_Key_60 ji_By_putByte js_By_putByte p_29_0.1 rfl rfl rfl (Nat.le_of_ble_eq_true rfl) (by decide) (by decide) (y_By_putByte (x := (nI 2)) p_29_0 (by first | omega | (simp only [List.length_append, List.length_cons, List.length_nil, List.length_replicate, sl_len, be_len, sha_len, xk_len, hmac_len, ex1_len, ex2_len, tag1_len, tC_len, stretch_len]; done) | (simp only [List.length_append, List.length_cons, List.length_nil, List.length_replicate, sl_len, be_len, sha_len, xk_len, hmac_len, ex1_len, ex2_len, tag1_len, tC_len, stretch_len]; omega)) (by decide) (by decide) (by decide)) (fun r M_31 hq => ?_)
  obtain ⟨rfl, p_31_0, kp_31⟩ := hq
  refine T_eq (pc' := 58) (L' := [(5, .int (nI 64)), (0, .ref 66), (1, .ref kp), (2, .ref q), (3, .ref to), (4, .int (nI 128))]) (st' := []) (M' := M_31) rfl rfl rfl rfl ?_
  refine T_aload_n (v := .ref 66) d_Key_expand_58 rfl (Or.inr ⟨_, rfl⟩) ?_
  refine T_aload_n (v := .ref kp) d_Key_expand_59 rfl (Or.inr ⟨_, rfl⟩) ?_
  refine T_aload_n (v := .ref 66) d_Key_expand_60 rfl (Or.inr ⟨_, rfl⟩) ?_
  have h_32 := (kp_31 66 (by decide)).trans (h_30)
  refine T_getfield (v := .ref 72) d_Key_expand_61 fg_Key_25 h_32 rfl ?_
  refine T_aload_n (v := .ref 66) d_Key_expand_64 rfl (Or.inr ⟨_, rfl⟩) ?_
  refine T_getfield (v := .ref 75) d_Key_expand_65 fg_Key_32 h_32 rfl ?_
  have p_34 := (BA.kp ((BA.kp ((BA.kp ((BA.kp ((BA.kp ((BA.kp (p_9) kp_8 (gr_ni (gr kp (by simp)) (by decide)))) (Ex.kp he_15) (by simp only [List.mem_cons, List.not_mem_nil, or_false]; exact h_kp_to))) kp_23 (gr_ni (gr kp (by simp)) (by decide)))) kp_26 (gr_ni (gr kp (by simp)) (by decide)))) kp_29 (gr_ni (gr kp (by simp)) (by decide)))) kp_31 (gr_ni (gr kp (by simp)) (by decide)))
  have p_35 := (BQ.kp ((BQ.kp ((BQ.kp ((BA.bq p_25)) kp_26 (by decide))) kp_29 (by decide))) kp_31 (by decide))
  have p_36 := (DQ.kp ((DQ.kp ((DQ.kp ((DQ.kp ((DQ.kp (p_8a) (Ex.kp he_15) (by simp only [List.mem_cons, List.not_mem_nil, or_false]; exact (Ne.symm (gr to (by simp) 67 (by decide)))) (by simp only [List.mem_cons, List.not_mem_nil, or_false]; exact (Ne.symm (gr to (by simp) 68 (by decide)))) (by simp only [List.mem_cons, List.not_mem_nil, or_false]; exact (Ne.symm (gr to (by simp) 69 (by decide)))))) kp_23 (by decide) (by decide) (by decide))) kp_26 (by decide) (by decide) (by decide))) kp_29 (by decide) (by decide) (by decide))) kp_31 (by decide) (by decide) (by decide))
  have p_37 := (BY.kp ((BY.kp ((BY.kp ((BY.kp ((BY.kp (p_8b) (Ex.kp he_15) (by simp only [List.mem_cons, List.not_mem_nil, or_false]; exact (Ne.symm (gr to (by simp) 70 (by decide)))) (by simp only [List.mem_cons, List.not_mem_nil, or_false]; exact (Ne.symm (gr to (by simp) 71 (by decide)))))) kp_23 (by decide) (by decide))) kp_26 (by decide) (by decide))) kp_29 (by decide) (by decide))) kp_31 (by decide) (by decide))
  have p_38 := (BQ.kp ((BQ.kp ((BQ.kp ((BQ.kp ((BQ.kp (p_8c) (Ex.kp he_15) (by simp only [List.mem_cons, List.not_mem_nil, or_false]; exact (Ne.symm (gr to (by simp) 74 (by decide)))))) kp_23 (by decide))) kp_26 (by decide))) kp_29 (by decide))) kp_31 (by decide))
  refine T_virtual (as := [.ref kp, .ref 72, .ref 75]) (rest := []) (b := 66) d_Key_expand_68 rfl (jw_Key_mac.jo (by decide)) lm_Key_63 ji_Key_mac js_Key_mac h_32 rfl rfl rfl (Nat.le_of_ble_eq_true rfl) (by decide) (by decide) (y_Key_mac h_32 p_36 p_37 p_38 p_34 p_31_0 p_35 hl0 hmk (by first | omega | (simp only [List.length_append, List.length_cons, List.length_nil, List.length_replicate, sl_len, be_len, sha_len, xk_len, hmac_len, ex1_len, ex2_len, tag1_len, tC_len, stretch_len]; done) | (simp only [List.length_append, List.length_cons, List.length_nil, List.length_replicate, sl_len, be_len, sha_len, xk_len, hmac_len, ex1_len, ex2_len, tag1_len, tC_len, stretch_len]; omega)) (by decide) (by decide) (by decide) (by simp only [List.forall_mem_cons]; exact ⟨⟨(gr kp (by simp) 66 (by decide)), (gr kp (by simp) 67 (by decide)), (gr kp (by simp) 68 (by decide)), (gr kp (by simp) 69 (by decide)), (gr kp (by simp) 70 (by decide)), (gr kp (by simp) 71 (by decide)), (gr kp (by simp) 74 (by decide)), fun _ h => absurd h (List.not_mem_nil)⟩, (by decide), (by decide), (by decide), fun _ h => absurd h (List.not_mem_nil)⟩) (by decide) (by decide)) (fun r M_33 hq => ?_)
  obtain ⟨rfl, p_33a, ⟨l_33, p_33b⟩, p_33c, p_33d, kp_33⟩ := hq
  refine T_eq (pc' := 71) (L' := [(5, .int (nI 64)), (0, .ref 66), (1, .ref kp), (2, .ref q), (3, .ref to), (4, .int (nI 128))]) (st' := []) (M' := M_33) rfl rfl rfl rfl ?_
  refine T_aload_n (v := .ref 66) d_Key_expand_71 rfl (Or.inr ⟨_, rfl⟩) ?_
  have h_39 := (kp_33 66 (by decide)).trans (h_32)
  refine T_getfield (v := .ref 75) d_Key_expand_72 fg_Key_32 h_39 rfl ?_
  refine T_iconst (v := nI 0) d_Key_expand_75 (by decide) ?_
  refine T_aload_n (v := .ref to) d_Key_expand_76 rfl (Or.inr ⟨_, rfl⟩) ?_
  refine T_iload d_Key_expand_77 rfl ?_
  refine T_bipush (v := nI 64) d_Key_expand_79 (by decide) ?_
  refine T_iload d_Key_expand_81 rfl ?_
  refine T_iload d_Key_expand_83 rfl ?_
  refine N_isub (a := 64) (b := 128) (c := 64) d_Key_expand_85 (by omega) rfl ?_
  refine T_min d_Key_expand_86 lm_Key_71 (by decide) (Nat.le_of_ble_eq_true rfl) (by decide) (by decide) ?_
  refine T_eq (pc' := 89) (L' := [(5, .int (nI 64)), (0, .ref 66), (1, .ref kp), (2, .ref q), (3, .ref to), (4, .int (nI 128))]) (st' := [.int (nI 64), .int (nI 64), .ref to, .int (nI 0), .ref 75]) (M' := M_33) rfl rfl rfl rfl ?_
  obtain ⟨f_41, hf_42, hl_43, hv_44⟩ := id p_33d
  have h_45 := (kp_33 to (gr_ni (gr to (by simp)) (by decide))).trans ((kp_31 to (gr_ni (gr to (by simp)) (by decide))).trans ((kp_29 to (gr_ni (gr to (by simp)) (by decide))).trans ((kp_26 to (gr_ni (gr to (by simp)) (by decide))).trans ((kp_23 to (gr_ni (gr to (by simp)) (by decide))).trans (ha_15)))))
  refine N_copyB (n0 := 64) (sp := 0) (dp := 64) (n := 64) d_Key_expand_89 lm_Key_77 (by decide) k_to hf_42 h_45 (by decide) (by omega) (by decide) (by omega) (by decide) (Nat.le_of_ble_eq_true rfl) (fun M_40 ha_40 he_40 => ?_)
  refine N_iinc (k := 64) (m := 64) (c := 128) (L' := [(5, .int (nI 128)), (0, .ref 66), (1, .ref kp), (2, .ref q), (3, .ref to), (4, .int (nI 128))]) d_Key_expand_92 (by decide) rfl (by decide) rfl rfl ?_
  refine T_goto (tgt := 3) d_Key_expand_95 rfl ?_
  refine T_iload d_Key_expand_3 rfl ?_
  refine T_iload d_Key_expand_5 rfl ?_
  refine N_icmp_ge_t (a := 128) (b := 128) d_Key_expand_7 (tgt := 98) rfl (by omega) (by omega) (by omega) ?_
  have h_46 := (he_40 66 (Ne.symm (gr to (by simp) 66 (by decide)))).trans (h_39)
  have p_47 := (DQ.kp (p_33a) (Ex.kp he_40) (by simp only [List.mem_cons, List.not_mem_nil, or_false]; exact (Ne.symm (gr to (by simp) 67 (by decide)))) (by simp only [List.mem_cons, List.not_mem_nil, or_false]; exact (Ne.symm (gr to (by simp) 68 (by decide)))) (by simp only [List.mem_cons, List.not_mem_nil, or_false]; exact (Ne.symm (gr to (by simp) 69 (by decide)))))
  have p_48 := (BY.kp (p_33b) (Ex.kp he_40) (by simp only [List.mem_cons, List.not_mem_nil, or_false]; exact (Ne.symm (gr to (by simp) 70 (by decide)))) (by simp only [List.mem_cons, List.not_mem_nil, or_false]; exact (Ne.symm (gr to (by simp) 71 (by decide)))))
  have p_49 := (BY.kp ((BY.kp (p_31_0) kp_33 (by decide) (by decide))) (Ex.kp he_40) (by simp only [List.mem_cons, List.not_mem_nil, or_false]; exact (Ne.symm (gr to (by simp) 72 (by decide)))) (by simp only [List.mem_cons, List.not_mem_nil, or_false]; exact (Ne.symm (gr to (by simp) 73 (by decide)))))
  have p_50 := (BQ.kp (p_33c) (Ex.kp he_40) (by simp only [List.mem_cons, List.not_mem_nil, or_false]; exact (Ne.symm (gr to (by simp) 74 (by decide)))))
  have p_51 := (BA.kp (p_33d) (Ex.kp he_40) (by simp only [List.mem_cons, List.not_mem_nil, or_false]; exact (Ne.symm (gr to (by simp) 75 (by decide)))))
  have p_52 := (BA.kp ((BA.kp ((BA.kp ((BA.kp ((BA.kp ((BA.kp ((BA.kp ((BA.kp ((BA.kp ((BA.kp ((BA.kp (y7) kp_1 (by decide))) kp_4 (by decide))) kp_6 (by decide))) kp_8 (by decide))) (Ex.kp he_15) (by simp only [List.mem_cons, List.not_mem_nil, or_false]; exact (Ne.symm (gr to (by simp) 76 (by decide)))))) kp_23 (by decide))) kp_26 (by decide))) kp_29 (by decide))) kp_31 (by decide))) kp_33 (by decide))) (Ex.kp he_40) (by simp only [List.mem_cons, List.not_mem_nil, or_false]; exact (Ne.symm (gr to (by simp) 76 (by decide)))))
  have cl : KY M_40 := ⟨h_46, p_47, ⟨_, p_48⟩, ⟨_, p_49⟩, p_50, BA.bq p_51, p_52⟩
  refine T_vret d_Key_expand_98 rfl (by decide) (by decide) ⟨rfl, cl, ⟨_, ha_40, ?_, fun i hi => ?_⟩, (Kp.ex (Kp.tr (Kp.tr (Kp.tr (Kp.tr (Kp.tr (Kp.ex (Kp.tr (Kp.tr (Kp.tr (Kp.tr (Kp.rf : Kp [to, 66, 67, 68, 69, 70, 71, 72, 73, 74, 75, 76] M M) (Kp.mono kp_1 (by simp))) (Kp.mono kp_4 (by simp))) (Kp.mono kp_6 (by simp))) (Kp.mono kp_8 (by simp))) he_15 (by simp)) (Kp.mono kp_23 (by simp))) (Kp.mono kp_26 (by simp))) (Kp.mono kp_29 (by simp))) (Kp.mono kp_31 (by simp))) (Kp.mono kp_33 (by simp))) he_40 (by simp))⟩
  · simp only [List.length_append, List.length_cons, List.length_nil, List.length_replicate, sl_len, be_len, sha_len, xk_len, hmac_len, ex1_len, ex2_len, tag1_len, tC_len, stretch_len]; omega
  · simp only [List.length_append, List.length_cons, List.length_nil, List.length_replicate, sl_len, be_len, sha_len, xk_len, hmac_len, ex1_len, ex2_len, tag1_len, tC_len, stretch_len] at hi
    by_cases c : i < 64
    · rw [pk_cpy_out (by omega), pk_cpy_in (by omega) (by omega), gd_l (by rw [ex1_len]; exact c), show 0 + (i - 0) = i by omega]; exact (hv_19 i (by first | omega | (simp only [List.length_append, List.length_cons, List.length_nil, List.length_replicate, sl_len, be_len, sha_len, xk_len, hmac_len, ex1_len, ex2_len, tag1_len, tC_len, stretch_len]; omega)))
    · rw [pk_cpy_in (by omega) (by omega), gd_r (by rw [ex1_len]; omega), ex1_len, show 0 + (i - 64) = i - 64 by omega]
      have e : (hmac k0 (((([]) ++ sl (hmac k0 ((([]) ++ l) ++ [u8 (nI 1)])) 0 64) ++ l) ++ [u8 (nI 2)])) = ex2 k0 l := by unfold ex2 ex1; rw [sl64 (hmac_len _ _)]; rfl
      have z := (hv_44 (i - 64) (by first | omega | (simp only [List.length_append, List.length_cons, List.length_nil, List.length_replicate, sl_len, be_len, sha_len, xk_len, hmac_len, ex1_len, ex2_len, tag1_len, tC_len, stretch_len]; omega)))
      rw [e] at z; exact z
set_option maxHeartbeats 8000000 in
theorem y_ky_label_64 {G : GX} {M : List va_E} {kp mk tx td ap ma to m : Nat} {k0 T a : List UInt8} (hky : KY M) (hk : BA M kp mk k0) (hT : TX tx td T) (ha : BA M ap ma a) (ht : BQ M to m) (hl0 : k0.length = 64) (hmk : mk < 2 ^ 30) (hlT : T.length ≤ 20) (hla : 64 ≤ a.length) (hma : ma < 2 ^ 30) (hm : 64 ≤ m) (hm2 : m < 2 ^ 30) (gr : ∀ w ∈ [kp, ap, to], ∀ z ∈ kyW, w ≠ z) (k_to : K0 ≤ to) (k_ap : K0 ≤ ap) : CT G mi_Key_label [.ref 66, .ref kp, .ref tx, .ref ap, .int (nI 64), .ref to] M (fun r M' => r = none ∧ KY M' ∧ BA M' to m (ex1 k0 (lab T (sl a 0 64))) ∧ Kp (to :: kyW) M M') := by
  obtain ⟨y1, y2, ⟨yl3, y3⟩, ⟨yl4, y4⟩, y5, y6, y7⟩ := hky
  refine CT.of (by decide) (Nat.le_of_ble_eq_true rfl) ?_
  show TT G mi_Key_label 0 [(0, .ref 66), (1, .ref kp), (2, .ref tx), (3, .ref ap), (4, .int (nI 64)), (5, .ref to)] [] M 0 0 _
  refine T_aload_n (v := .ref 66) d_Key_label_0 rfl (Or.inr ⟨_, rfl⟩) ?_
  refine T_getfield (v := .ref 72) d_Key_label_1 fg_Key_25 y1 rfl ?_
  refine T_virtual (as := []) (rest := []) (b := 72) d_Key_label_4 rfl (jw_By_clear.jo (by decide)) lm_Key_57 ji_By_clear js_By_clear y4.1 rfl rfl rfl (Nat.le_of_ble_eq_true rfl) (by decide) (by decide) (y_By_clear y4 (by decide)) (fun r M_1 hq => ?_)
  obtain ⟨rfl, p_1_0, kp_1⟩ := hq
  refine T_eq (pc' := 7) (L' := [(0, .ref 66), (1, .ref kp), (2, .ref tx), (3, .ref ap), (4, .int (nI 64)), (5, .ref to)]) (st' := []) (M' := M_1) rfl rfl rfl rfl ?_
  refine T_aload_n (v := .ref 66) d_Key_label_7 rfl (Or.inr ⟨_, rfl⟩) ?_
  have h_2 := (kp_1 66 (by decide)).trans (y1)
  refine T_getfield (v := .ref 72) d_Key_label_8 fg_Key_25 h_2 rfl ?_
  refine T_bipush (v := nI 64) d_Key_label_11 (by decide) ?_
  refine T_iconst (v := nI 2) d_Key_label_13 (by decide) ?_
  refine T_virtual (as := [.int (nI 64), .int (nI 2)]) (rest := []) (b := 72) d_Key_label_14 rfl (jw_By_putNumber.jo (by decide)) lm_Key_83 ji_By_putNumber js_By_putNumber p_1_0.1 rfl rfl rfl (Nat.le_of_ble_eq_true rfl) (by decide) (by decide) (y_By_putNumber (v := (nI 64)) (c := 2) p_1_0 (by decide) (by first | omega | (simp only [List.length_append, List.length_cons, List.length_nil, List.length_replicate, sl_len, be_len, sha_len, xk_len, hmac_len, ex1_len, ex2_len, tag1_len, tC_len, stretch_len, W18_len]; done) | (simp only [List.length_append, List.length_cons, List.length_nil, List.length_replicate, sl_len, be_len, sha_len, xk_len, hmac_len, ex1_len, ex2_len, tag1_len, tC_len, stretch_len, W18_len]; omega)) (by decide) (by decide) (by decide)) (fun r M_3 hq => ?_)
  obtain ⟨rfl, p_3_0, kp_3⟩ := hq
  refine T_eq (pc' := 17) (L' := [(0, .ref 66), (1, .ref kp), (2, .ref tx), (3, .ref ap), (4, .int (nI 64)), (5, .ref to)]) (st' := []) (M' := M_3) rfl rfl rfl rfl ?_
  refine T_aload_n (v := .ref 66) d_Key_label_17 rfl (Or.inr ⟨_, rfl⟩) ?_
  have h_4 := (kp_3 66 (by decide)).trans (h_2)
  refine T_getfield (v := .ref 72) d_Key_label_18 fg_Key_25 h_4 rfl ?_
  refine T_bipush (v := nI 7) d_Key_label_21 (by decide) ?_
  refine T_aload_n (v := .ref tx) d_Key_label_23 rfl (Or.inr ⟨_, rfl⟩) ?_
  refine T_know (fun hK_5 => ?_)
  refine T_virtualS (as := []) (rest := [.int (nI 7), .ref 72]) (b := tx) d_Key_label_24 rfl (jw_jS_length.jo (by decide)) lm_Key_87 ji_jS_length js_jS_length hT.2.2.1 ((hK_5 _ hT.2.2.1).trans hT.1) rfl rfl (Nat.le_of_ble_eq_true rfl) (by decide) (by decide) (y_jS_length hT) (fun r M_5 hq => ?_)
  obtain ⟨rfl, he⟩ := hq
  obtain rfl := he.symm
  refine T_eq (pc' := 27) (L' := [(0, .ref 66), (1, .ref kp), (2, .ref tx), (3, .ref ap), (4, .int (nI 64)), (5, .ref to)]) (st' := [.int (nI (T.length)), .int (nI 7), .ref 72]) (M' := M_3) rfl rfl rfl rfl ?_
  refine N_iadd (a := T.length) (b := 7) (c := (7 + T.length)) d_Key_label_27 rfl ?_
  refine T_virtual (as := [.int (nI ((7 + T.length)))]) (rest := []) (b := 72) d_Key_label_28 rfl (jw_By_putByte.jo (by decide)) lm_Key_60 ji_By_putByte js_By_putByte p_3_0.1 rfl rfl rfl (Nat.le_of_ble_eq_true rfl) (by decide) (by decide) (y_By_putByte (x := (nI ((7 + T.length)))) p_3_0 (by first | omega | (simp only [List.length_append, List.length_cons, List.length_nil, List.length_replicate, sl_len, be_len, sha_len, xk_len, hmac_len, ex1_len, ex2_len, tag1_len, tC_len, stretch_len, W18_len]; done) | (simp only [List.length_append, List.length_cons, List.length_nil, List.length_replicate, sl_len, be_len, sha_len, xk_len, hmac_len, ex1_len, ex2_len, tag1_len, tC_len, stretch_len, W18_len]; omega)) (by decide) (by decide) (by decide)) (fun r M_6 hq => ?_)
  obtain ⟨rfl, p_6_0, kp_6⟩ := hq
  refine T_eq (pc' := 31) (L' := [(0, .ref 66), (1, .ref kp), (2, .ref tx), (3, .ref ap), (4, .int (nI 64)), (5, .ref to)]) (st' := []) (M' := M_6) rfl rfl rfl rfl ?_
  refine T_aload_n (v := .ref 66) d_Key_label_31 rfl (Or.inr ⟨_, rfl⟩) ?_
  have h_7 := (kp_6 66 (by decide)).trans (h_4)
  refine T_getfield (v := .ref 72) d_Key_label_32 fg_Key_25 h_7 rfl ?_
  refine T_ldcS (q := scl.getD 18 ("", 0, "", 0)) d_Key_label_35 (List.mem_of_getElem? (i := 18) rfl) rfl rfl (by decide) ?_
  refine T_virtual (as := [.ref 50]) (rest := []) (b := 72) d_Key_label_37 rfl (jw_By_putText.jo (by decide)) lm_Key_94 ji_By_putText js_By_putText p_6_0.1 rfl rfl rfl (Nat.le_of_ble_eq_true rfl) (by decide) (by decide) (y_By_putText p_6_0 tx_50_ (by first | omega | (simp only [List.length_append, List.length_cons, List.length_nil, List.length_replicate, sl_len, be_len, sha_len, xk_len, hmac_len, ex1_len, ex2_len, tag1_len, tC_len, stretch_len, W18_len]; done) | (simp only [List.length_append, List.length_cons, List.length_nil, List.length_replicate, sl_len, be_len, sha_len, xk_len, hmac_len, ex1_len, ex2_len, tag1_len, tC_len, stretch_len, W18_len]; omega)) (by decide) (by decide) (by decide)) (fun r M_8 hq => ?_)
  obtain ⟨rfl, p_8, kp_8⟩ := hq
  refine T_eq (pc' := 40) (L' := [(0, .ref 66), (1, .ref kp), (2, .ref tx), (3, .ref ap), (4, .int (nI 64)), (5, .ref to)]) (st' := []) (M' := M_8) rfl rfl rfl rfl ?_
  refine T_aload_n (v := .ref 66) d_Key_label_40 rfl (Or.inr ⟨_, rfl⟩) ?_
  have h_9 := (kp_8 66 (by decide)).trans (h_7)
  refine T_getfield (v := .ref 72) d_Key_label_41 fg_Key_25 h_9 rfl ?_
  refine T_aload_n (v := .ref tx) d_Key_label_44 rfl (Or.inr ⟨_, rfl⟩) ?_
  refine T_virtual (as := [.ref tx]) (rest := []) (b := 72) d_Key_label_45 rfl (jw_By_putText.jo (by decide)) lm_Key_94 ji_By_putText js_By_putText p_8.1 rfl rfl rfl (Nat.le_of_ble_eq_true rfl) (by decide) (by decide) (y_By_putText p_8 hT (by first | omega | (simp only [List.length_append, List.length_cons, List.length_nil, List.length_replicate, sl_len, be_len, sha_len, xk_len, hmac_len, ex1_len, ex2_len, tag1_len, tC_len, stretch_len, W18_len]; done) | (simp only [List.length_append, List.length_cons, List.length_nil, List.length_replicate, sl_len, be_len, sha_len, xk_len, hmac_len, ex1_len, ex2_len, tag1_len, tC_len, stretch_len, W18_len]; omega)) (by decide) (by decide) (by decide)) (fun r M_10 hq => ?_)
  obtain ⟨rfl, p_10, kp_10⟩ := hq
  refine T_eq (pc' := 48) (L' := [(0, .ref 66), (1, .ref kp), (2, .ref tx), (3, .ref ap), (4, .int (nI 64)), (5, .ref to)]) (st' := []) (M' := M_10) rfl rfl rfl rfl ?_
  refine T_aload_n (v := .ref 66) d_Key_label_48 rfl (Or.inr ⟨_, rfl⟩) ?_
  have h_11 := (kp_10 66 (by decide)).trans (h_9)
  refine T_getfield (v := .ref 72) d_Key_label_49 fg_Key_25 h_11 rfl ?_
  refine T_iload d_Key_label_52 rfl ?_
  refine T_virtual (as := [.int (nI 64)]) (rest := []) (b := 72) d_Key_label_54 rfl (jw_By_putByte.jo (by decide)) lm_Key_60 ji_By_putByte js_By_putByte p_10.1 rfl rfl rfl (Nat.le_of_ble_eq_true rfl) (by decide) (by decide) (y_By_putByte (x := (nI 64)) p_10 (by first | omega | (simp only [List.length_append, List.length_cons, List.length_nil, List.length_replicate, sl_len, be_len, sha_len, xk_len, hmac_len, ex1_len, ex2_len, tag1_len, tC_len, stretch_len, W18_len]; done) | (simp only [List.length_append, List.length_cons, List.length_nil, List.length_replicate, sl_len, be_len, sha_len, xk_len, hmac_len, ex1_len, ex2_len, tag1_len, tC_len, stretch_len, W18_len]; omega)) (by decide) (by decide) (by decide)) (fun r M_12 hq => ?_)
  obtain ⟨rfl, p_12_0, kp_12⟩ := hq
  refine T_eq (pc' := 57) (L' := [(0, .ref 66), (1, .ref kp), (2, .ref tx), (3, .ref ap), (4, .int (nI 64)), (5, .ref to)]) (st' := []) (M' := M_12) rfl rfl rfl rfl ?_
  refine T_aload_n (v := .ref 66) d_Key_label_57 rfl (Or.inr ⟨_, rfl⟩) ?_
  have h_13 := (kp_12 66 (by decide)).trans (h_11)
  refine T_getfield (v := .ref 72) d_Key_label_58 fg_Key_25 h_13 rfl ?_
  refine T_aload_n (v := .ref ap) d_Key_label_61 rfl (Or.inr ⟨_, rfl⟩) ?_
  refine T_iconst (v := nI 0) d_Key_label_62 (by decide) ?_
  refine T_iload d_Key_label_63 rfl ?_
  have p_14 := (BA.kp ((BA.kp ((BA.kp ((BA.kp ((BA.kp ((BA.kp (ha) kp_1 (gr_ni (gr ap (by simp)) (by decide)))) kp_3 (gr_ni (gr ap (by simp)) (by decide)))) kp_6 (gr_ni (gr ap (by simp)) (by decide)))) kp_8 (gr_ni (gr ap (by simp)) (by decide)))) kp_10 (gr_ni (gr ap (by simp)) (by decide)))) kp_12 (gr_ni (gr ap (by simp)) (by decide)))
  refine T_virtual (as := [.ref ap, .int (nI 0), .int (nI 64)]) (rest := []) (b := 72) d_Key_label_65 rfl (jw_By_put.jo (by decide)) lm_Key_49 ji_By_put js_By_put p_12_0.1 rfl rfl rfl (Nat.le_of_ble_eq_true rfl) (by decide) (by decide) (y_By_put (at0 := 0) (k := 64) p_12_0 p_14 (by first | omega | (simp only [List.length_append, List.length_cons, List.length_nil, List.length_replicate, sl_len, be_len, sha_len, xk_len, hmac_len, ex1_len, ex2_len, tag1_len, tC_len, stretch_len, W18_len]; done) | (simp only [List.length_append, List.length_cons, List.length_nil, List.length_replicate, sl_len, be_len, sha_len, xk_len, hmac_len, ex1_len, ex2_len, tag1_len, tC_len, stretch_len, W18_len]; omega)) (by first | omega | (simp only [List.length_append, List.length_cons, List.length_nil, List.length_replicate, sl_len, be_len, sha_len, xk_len, hmac_len, ex1_len, ex2_len, tag1_len, tC_len, stretch_len, W18_len]; done) | (simp only [List.length_append, List.length_cons, List.length_nil, List.length_replicate, sl_len, be_len, sha_len, xk_len, hmac_len, ex1_len, ex2_len, tag1_len, tC_len, stretch_len, W18_len]; omega)) (by decide) hma (by decide) k_ap (by decide)) (fun r M_15 hq => ?_)
  obtain ⟨rfl, p_15_0, kp_15⟩ := hq
  refine T_eq (pc' := 68) (L' := [(0, .ref 66), (1, .ref kp), (2, .ref tx), (3, .ref ap), (4, .int (nI 64)), (5, .ref to)]) (st' := []) (M' := M_15) rfl rfl rfl rfl ?_
  refine T_aload_n (v := .ref 66) d_Key_label_68 rfl (Or.inr ⟨_, rfl⟩) ?_
  have h_16 := (kp_15 66 (by decide)).trans (h_13)
  refine T_getfield (v := .ref 72) d_Key_label_69 fg_Key_25 h_16 rfl ?_
  refine T_iconst (v := nI 1) d_Key_label_72 (by decide) ?_
  refine T_virtual (as := [.int (nI 1)]) (rest := []) (b := 72) d_Key_label_73 rfl (jw_By_putByte.jo (by decide)) lm_Key_60 ji_By_putByte js_By_putByte p_15_0.1 rfl rfl rfl (Nat.le_of_ble_eq_true rfl) (by decide) (by decide) (y_By_putByte (x := (nI 1)) p_15_0 (by first | omega | (simp only [List.length_append, List.length_cons, List.length_nil, List.length_replicate, sl_len, be_len, sha_len, xk_len, hmac_len, ex1_len, ex2_len, tag1_len, tC_len, stretch_len, W18_len]; done) | (simp only [List.length_append, List.length_cons, List.length_nil, List.length_replicate, sl_len, be_len, sha_len, xk_len, hmac_len, ex1_len, ex2_len, tag1_len, tC_len, stretch_len, W18_len]; omega)) (by decide) (by decide) (by decide)) (fun r M_17 hq => ?_)
  obtain ⟨rfl, p_17_0, kp_17⟩ := hq
  refine T_eq (pc' := 76) (L' := [(0, .ref 66), (1, .ref kp), (2, .ref tx), (3, .ref ap), (4, .int (nI 64)), (5, .ref to)]) (st' := []) (M' := M_17) rfl rfl rfl rfl ?_
  refine T_aload_n (v := .ref 66) d_Key_label_76 rfl (Or.inr ⟨_, rfl⟩) ?_
  refine T_aload_n (v := .ref kp) d_Key_label_77 rfl (Or.inr ⟨_, rfl⟩) ?_
  refine T_aload_n (v := .ref 66) d_Key_label_78 rfl (Or.inr ⟨_, rfl⟩) ?_
  have h_18 := (kp_17 66 (by decide)).trans (h_16)
  refine T_getfield (v := .ref 72) d_Key_label_79 fg_Key_25 h_18 rfl ?_
  refine T_aload (v := .ref to) d_Key_label_82 rfl (Or.inr ⟨_, rfl⟩) ?_
  have p_20 := (BA.kp ((BA.kp ((BA.kp ((BA.kp ((BA.kp ((BA.kp ((BA.kp ((BA.kp (hk) kp_1 (gr_ni (gr kp (by simp)) (by decide)))) kp_3 (gr_ni (gr kp (by simp)) (by decide)))) kp_6 (gr_ni (gr kp (by simp)) (by decide)))) kp_8 (gr_ni (gr kp (by simp)) (by decide)))) kp_10 (gr_ni (gr kp (by simp)) (by decide)))) kp_12 (gr_ni (gr kp (by simp)) (by decide)))) kp_15 (gr_ni (gr kp (by simp)) (by decide)))) kp_17 (gr_ni (gr kp (by simp)) (by decide)))
  have p_21 := (BQ.kp ((BQ.kp ((BQ.kp ((BQ.kp ((BQ.kp ((BQ.kp ((BQ.kp ((BQ.kp (ht) kp_1 (gr_ni (gr to (by simp)) (by decide)))) kp_3 (gr_ni (gr to (by simp)) (by decide)))) kp_6 (gr_ni (gr to (by simp)) (by decide)))) kp_8 (gr_ni (gr to (by simp)) (by decide)))) kp_10 (gr_ni (gr to (by simp)) (by decide)))) kp_12 (gr_ni (gr to (by simp)) (by decide)))) kp_15 (gr_ni (gr to (by simp)) (by decide)))) kp_17 (gr_ni (gr to (by simp)) (by decide)))
  have p_22 := (DQ.kp ((DQ.kp ((DQ.kp ((DQ.kp ((DQ.kp ((DQ.kp ((DQ.kp ((DQ.kp (y2) kp_1 (by decide) (by decide) (by decide))) kp_3 (by decide) (by decide) (by decide))) kp_6 (by decide) (by decide) (by decide))) kp_8 (by decide) (by decide) (by decide))) kp_10 (by decide) (by decide) (by decide))) kp_12 (by decide) (by decide) (by decide))) kp_15 (by decide) (by decide) (by decide))) kp_17 (by decide) (by decide) (by decide))
  have p_23 := (BY.kp ((BY.kp ((BY.kp ((BY.kp ((BY.kp ((BY.kp ((BY.kp ((BY.kp (y3) kp_1 (by decide) (by decide))) kp_3 (by decide) (by decide))) kp_6 (by decide) (by decide))) kp_8 (by decide) (by decide))) kp_10 (by decide) (by decide))) kp_12 (by decide) (by decide))) kp_15 (by decide) (by decide))) kp_17 (by decide) (by decide))
  have p_24 := (BQ.kp ((BQ.kp ((BQ.kp ((BQ.kp ((BQ.kp ((BQ.kp ((BQ.kp ((BQ.kp (y5) kp_1 (by decide))) kp_3 (by decide))) kp_6 (by decide))) kp_8 (by decide))) kp_10 (by decide))) kp_12 (by decide))) kp_15 (by decide))) kp_17 (by decide))
  refine T_virtual (as := [.ref kp, .ref 72, .ref to]) (rest := []) (b := 66) d_Key_label_84 rfl (jw_Key_mac.jo (by decide)) lm_Key_63 ji_Key_mac js_Key_mac h_18 rfl rfl rfl (Nat.le_of_ble_eq_true rfl) (by decide) (by decide) (y_Key_mac h_18 p_22 p_23 p_24 p_20 p_17_0 p_21 hl0 hmk (by first | omega | (simp only [List.length_append, List.length_cons, List.length_nil, List.length_replicate, sl_len, be_len, sha_len, xk_len, hmac_len, ex1_len, ex2_len, tag1_len, tC_len, stretch_len, W18_len]; done) | (simp only [List.length_append, List.length_cons, List.length_nil, List.length_replicate, sl_len, be_len, sha_len, xk_len, hmac_len, ex1_len, ex2_len, tag1_len, tC_len, stretch_len, W18_len]; omega)) (by decide) hm hm2 (by simp only [List.forall_mem_cons]; exact ⟨⟨(gr kp (by simp) 66 (by decide)), (gr kp (by simp) 67 (by decide)), (gr kp (by simp) 68 (by decide)), (gr kp (by simp) 69 (by decide)), (gr kp (by simp) 70 (by decide)), (gr kp (by simp) 71 (by decide)), (gr kp (by simp) 74 (by decide)), fun _ h => absurd h (List.not_mem_nil)⟩, (by decide), (by decide), ⟨(gr to (by simp) 66 (by decide)), (gr to (by simp) 67 (by decide)), (gr to (by simp) 68 (by decide)), (gr to (by simp) 69 (by decide)), (gr to (by simp) 70 (by decide)), (gr to (by simp) 71 (by decide)), (gr to (by simp) 74 (by decide)), fun _ h => absurd h (List.not_mem_nil)⟩, fun _ h => absurd h (List.not_mem_nil)⟩) k_to (by decide)) (fun r M_19 hq => ?_)
  obtain ⟨rfl, p_19a, ⟨l_19, p_19b⟩, p_19c, p_19d, kp_19⟩ := hq
  refine T_eq (pc' := 87) (L' := [(0, .ref 66), (1, .ref kp), (2, .ref tx), (3, .ref ap), (4, .int (nI 64)), (5, .ref to)]) (st' := []) (M' := M_19) rfl rfl rfl rfl ?_
  have h_25 := (kp_19 66 (by simp only [List.mem_cons, List.not_mem_nil, or_false, not_or]; exact ⟨(by decide), (by decide), (by decide), (by decide), (by decide), (Ne.symm (gr to (by simp) 66 (by decide)))⟩)).trans (h_18)
  have p_26 := (BY.kp (p_17_0) kp_19 (by simp only [List.mem_cons, List.not_mem_nil, or_false, not_or]; exact ⟨(by decide), (by decide), (by decide), (by decide), (by decide), (Ne.symm (gr to (by simp) 72 (by decide)))⟩) (by simp only [List.mem_cons, List.not_mem_nil, or_false, not_or]; exact ⟨(by decide), (by decide), (by decide), (by decide), (by decide), (Ne.symm (gr to (by simp) 73 (by decide)))⟩))
  have p_27 := (BQ.kp ((BQ.kp ((BQ.kp ((BQ.kp ((BQ.kp ((BQ.kp ((BQ.kp ((BQ.kp ((BQ.kp (y6) kp_1 (by decide))) kp_3 (by decide))) kp_6 (by decide))) kp_8 (by decide))) kp_10 (by decide))) kp_12 (by decide))) kp_15 (by decide))) kp_17 (by decide))) kp_19 (by simp only [List.mem_cons, List.not_mem_nil, or_false, not_or]; exact ⟨(by decide), (by decide), (by decide), (by decide), (by decide), (Ne.symm (gr to (by simp) 75 (by decide)))⟩))
  have p_28 := (BA.kp ((BA.kp ((BA.kp ((BA.kp ((BA.kp ((BA.kp ((BA.kp ((BA.kp ((BA.kp (y7) kp_1 (by decide))) kp_3 (by decide))) kp_6 (by decide))) kp_8 (by decide))) kp_10 (by decide))) kp_12 (by decide))) kp_15 (by decide))) kp_17 (by decide))) kp_19 (by simp only [List.mem_cons, List.not_mem_nil, or_false, not_or]; exact ⟨(by decide), (by decide), (by decide), (by decide), (by decide), (Ne.symm (gr to (by simp) 76 (by decide)))⟩))
  have cl : KY M_19 := ⟨h_25, p_19a, ⟨_, p_19b⟩, ⟨_, p_26⟩, p_19c, p_27, p_28⟩
  have hto := p_19d
  have e7 : u8 (nI (7 + T.length)) = UInt8.ofNat (7 + T.length) := u8_nI (by omega)
  have e8 : u8 (nI 64) = UInt8.ofNat (sl a 0 64).length := by rw [sl_len]; rfl
  rw [List.nil_append, be64, e7, e8] at hto
  exact T_vret d_Key_label_87 rfl (by decide) (by decide) ⟨rfl, cl, hto, (Kp.tr (Kp.tr (Kp.tr (Kp.tr (Kp.tr (Kp.tr (Kp.tr (Kp.tr (Kp.tr (Kp.rf : Kp [to, 66, 67, 68, 69, 70, 71, 72, 73, 74, 75, 76] M M) (Kp.mono kp_1 (by simp))) (Kp.mono kp_3 (by simp))) (Kp.mono kp_6 (by simp))) (Kp.mono kp_8 (by simp))) (Kp.mono kp_10 (by simp))) (Kp.mono kp_12 (by simp))) (Kp.mono kp_15 (by simp))) (Kp.mono kp_17 (by simp))) (Kp.mono kp_19 (by simp)))⟩
set_option maxHeartbeats 8000000 in
theorem y_ky_label_0 {G : GX} {M : List va_E} {kp mk tx td ap ma to m : Nat} {k0 T a : List UInt8} (hky : KY M) (hk : BA M kp mk k0) (hT : TX tx td T) (ha : BA M ap ma a) (ht : BQ M to m) (hl0 : k0.length = 64) (hmk : mk < 2 ^ 30) (hlT : T.length ≤ 20) (hla : 0 ≤ a.length) (hma : ma < 2 ^ 30) (hm : 64 ≤ m) (hm2 : m < 2 ^ 30) (gr : ∀ w ∈ [kp, ap, to], ∀ z ∈ kyW, w ≠ z) (k_to : K0 ≤ to) (k_ap : K0 ≤ ap) : CT G mi_Key_label [.ref 66, .ref kp, .ref tx, .ref ap, .int (nI 0), .ref to] M (fun r M' => r = none ∧ KY M' ∧ BA M' to m (ex1 k0 (lab T (sl a 0 0))) ∧ Kp (to :: kyW) M M') := by
  obtain ⟨y1, y2, ⟨yl3, y3⟩, ⟨yl4, y4⟩, y5, y6, y7⟩ := hky
  refine CT.of (by decide) (Nat.le_of_ble_eq_true rfl) ?_
  show TT G mi_Key_label 0 [(0, .ref 66), (1, .ref kp), (2, .ref tx), (3, .ref ap), (4, .int (nI 0)), (5, .ref to)] [] M 0 0 _
  refine T_aload_n (v := .ref 66) d_Key_label_0 rfl (Or.inr ⟨_, rfl⟩) ?_
  refine T_getfield (v := .ref 72) d_Key_label_1 fg_Key_25 y1 rfl ?_
  refine T_virtual (as := []) (rest := []) (b := 72) d_Key_label_4 rfl (jw_By_clear.jo (by decide)) lm_Key_57 ji_By_clear js_By_clear y4.1 rfl rfl rfl (Nat.le_of_ble_eq_true rfl) (by decide) (by decide) (y_By_clear y4 (by decide)) (fun r M_1 hq => ?_)
  obtain ⟨rfl, p_1_0, kp_1⟩ := hq
  refine T_eq (pc' := 7) (L' := [(0, .ref 66), (1, .ref kp), (2, .ref tx), (3, .ref ap), (4, .int (nI 0)), (5, .ref to)]) (st' := []) (M' := M_1) rfl rfl rfl rfl ?_
  refine T_aload_n (v := .ref 66) d_Key_label_7 rfl (Or.inr ⟨_, rfl⟩) ?_
  have h_2 := (kp_1 66 (by decide)).trans (y1)
  refine T_getfield (v := .ref 72) d_Key_label_8 fg_Key_25 h_2 rfl ?_
  refine T_bipush (v := nI 64) d_Key_label_11 (by decide) ?_
  refine T_iconst (v := nI 2) d_Key_label_13 (by decide) ?_
  refine T_virtual (as := [.int (nI 64), .int (nI 2)]) (rest := []) (b := 72) d_Key_label_14 rfl (jw_By_putNumber.jo (by decide)) lm_Key_83 ji_By_putNumber js_By_putNumber p_1_0.1 rfl rfl rfl (Nat.le_of_ble_eq_true rfl) (by decide) (by decide) (y_By_putNumber (v := (nI 64)) (c := 2) p_1_0 (by decide) (by first | omega | (simp only [List.length_append, List.length_cons, List.length_nil, List.length_replicate, sl_len, be_len, sha_len, xk_len, hmac_len, ex1_len, ex2_len, tag1_len, tC_len, stretch_len, W18_len]; done) | (simp only [List.length_append, List.length_cons, List.length_nil, List.length_replicate, sl_len, be_len, sha_len, xk_len, hmac_len, ex1_len, ex2_len, tag1_len, tC_len, stretch_len, W18_len]; omega)) (by decide) (by decide) (by decide)) (fun r M_3 hq => ?_)
  obtain ⟨rfl, p_3_0, kp_3⟩ := hq
  refine T_eq (pc' := 17) (L' := [(0, .ref 66), (1, .ref kp), (2, .ref tx), (3, .ref ap), (4, .int (nI 0)), (5, .ref to)]) (st' := []) (M' := M_3) rfl rfl rfl rfl ?_
  refine T_aload_n (v := .ref 66) d_Key_label_17 rfl (Or.inr ⟨_, rfl⟩) ?_
  have h_4 := (kp_3 66 (by decide)).trans (h_2)
  refine T_getfield (v := .ref 72) d_Key_label_18 fg_Key_25 h_4 rfl ?_
  refine T_bipush (v := nI 7) d_Key_label_21 (by decide) ?_
  refine T_aload_n (v := .ref tx) d_Key_label_23 rfl (Or.inr ⟨_, rfl⟩) ?_
  refine T_know (fun hK_5 => ?_)
  refine T_virtualS (as := []) (rest := [.int (nI 7), .ref 72]) (b := tx) d_Key_label_24 rfl (jw_jS_length.jo (by decide)) lm_Key_87 ji_jS_length js_jS_length hT.2.2.1 ((hK_5 _ hT.2.2.1).trans hT.1) rfl rfl (Nat.le_of_ble_eq_true rfl) (by decide) (by decide) (y_jS_length hT) (fun r M_5 hq => ?_)
  obtain ⟨rfl, he⟩ := hq
  obtain rfl := he.symm
  refine T_eq (pc' := 27) (L' := [(0, .ref 66), (1, .ref kp), (2, .ref tx), (3, .ref ap), (4, .int (nI 0)), (5, .ref to)]) (st' := [.int (nI (T.length)), .int (nI 7), .ref 72]) (M' := M_3) rfl rfl rfl rfl ?_
  refine N_iadd (a := T.length) (b := 7) (c := (7 + T.length)) d_Key_label_27 rfl ?_
  refine T_virtual (as := [.int (nI ((7 + T.length)))]) (rest := []) (b := 72) d_Key_label_28 rfl (jw_By_putByte.jo (by decide)) lm_Key_60 ji_By_putByte js_By_putByte p_3_0.1 rfl rfl rfl (Nat.le_of_ble_eq_true rfl) (by decide) (by decide) (y_By_putByte (x := (nI ((7 + T.length)))) p_3_0 (by first | omega | (simp only [List.length_append, List.length_cons, List.length_nil, List.length_replicate, sl_len, be_len, sha_len, xk_len, hmac_len, ex1_len, ex2_len, tag1_len, tC_len, stretch_len, W18_len]; done) | (simp only [List.length_append, List.length_cons, List.length_nil, List.length_replicate, sl_len, be_len, sha_len, xk_len, hmac_len, ex1_len, ex2_len, tag1_len, tC_len, stretch_len, W18_len]; omega)) (by decide) (by decide) (by decide)) (fun r M_6 hq => ?_)
  obtain ⟨rfl, p_6_0, kp_6⟩ := hq
  refine T_eq (pc' := 31) (L' := [(0, .ref 66), (1, .ref kp), (2, .ref tx), (3, .ref ap), (4, .int (nI 0)), (5, .ref to)]) (st' := []) (M' := M_6) rfl rfl rfl rfl ?_
  refine T_aload_n (v := .ref 66) d_Key_label_31 rfl (Or.inr ⟨_, rfl⟩) ?_
  have h_7 := (kp_6 66 (by decide)).trans (h_4)
  refine T_getfield (v := .ref 72) d_Key_label_32 fg_Key_25 h_7 rfl ?_
  refine T_ldcS (q := scl.getD 18 ("", 0, "", 0)) d_Key_label_35 (List.mem_of_getElem? (i := 18) rfl) rfl rfl (by decide) ?_
  refine T_virtual (as := [.ref 50]) (rest := []) (b := 72) d_Key_label_37 rfl (jw_By_putText.jo (by decide)) lm_Key_94 ji_By_putText js_By_putText p_6_0.1 rfl rfl rfl (Nat.le_of_ble_eq_true rfl) (by decide) (by decide) (y_By_putText p_6_0 tx_50_ (by first | omega | (simp only [List.length_append, List.length_cons, List.length_nil, List.length_replicate, sl_len, be_len, sha_len, xk_len, hmac_len, ex1_len, ex2_len, tag1_len, tC_len, stretch_len, W18_len]; done) | (simp only [List.length_append, List.length_cons, List.length_nil, List.length_replicate, sl_len, be_len, sha_len, xk_len, hmac_len, ex1_len, ex2_len, tag1_len, tC_len, stretch_len, W18_len]; omega)) (by decide) (by decide) (by decide)) (fun r M_8 hq => ?_)
  obtain ⟨rfl, p_8, kp_8⟩ := hq
  refine T_eq (pc' := 40) (L' := [(0, .ref 66), (1, .ref kp), (2, .ref tx), (3, .ref ap), (4, .int (nI 0)), (5, .ref to)]) (st' := []) (M' := M_8) rfl rfl rfl rfl ?_
  refine T_aload_n (v := .ref 66) d_Key_label_40 rfl (Or.inr ⟨_, rfl⟩) ?_
  have h_9 := (kp_8 66 (by decide)).trans (h_7)
  refine T_getfield (v := .ref 72) d_Key_label_41 fg_Key_25 h_9 rfl ?_
  refine T_aload_n (v := .ref tx) d_Key_label_44 rfl (Or.inr ⟨_, rfl⟩) ?_
  refine T_virtual (as := [.ref tx]) (rest := []) (b := 72) d_Key_label_45 rfl (jw_By_putText.jo (by decide)) lm_Key_94 ji_By_putText js_By_putText p_8.1 rfl rfl rfl (Nat.le_of_ble_eq_true rfl) (by decide) (by decide) (y_By_putText p_8 hT (by first | omega | (simp only [List.length_append, List.length_cons, List.length_nil, List.length_replicate, sl_len, be_len, sha_len, xk_len, hmac_len, ex1_len, ex2_len, tag1_len, tC_len, stretch_len, W18_len]; done) | (simp only [List.length_append, List.length_cons, List.length_nil, List.length_replicate, sl_len, be_len, sha_len, xk_len, hmac_len, ex1_len, ex2_len, tag1_len, tC_len, stretch_len, W18_len]; omega)) (by decide) (by decide) (by decide)) (fun r M_10 hq => ?_)
  obtain ⟨rfl, p_10, kp_10⟩ := hq
  refine T_eq (pc' := 48) (L' := [(0, .ref 66), (1, .ref kp), (2, .ref tx), (3, .ref ap), (4, .int (nI 0)), (5, .ref to)]) (st' := []) (M' := M_10) rfl rfl rfl rfl ?_
  refine T_aload_n (v := .ref 66) d_Key_label_48 rfl (Or.inr ⟨_, rfl⟩) ?_
  have h_11 := (kp_10 66 (by decide)).trans (h_9)
  refine T_getfield (v := .ref 72) d_Key_label_49 fg_Key_25 h_11 rfl ?_
  refine T_iload d_Key_label_52 rfl ?_
  refine T_virtual (as := [.int (nI 0)]) (rest := []) (b := 72) d_Key_label_54 rfl (jw_By_putByte.jo (by decide)) lm_Key_60 ji_By_putByte js_By_putByte p_10.1 rfl rfl rfl (Nat.le_of_ble_eq_true rfl) (by decide) (by decide) (y_By_putByte (x := (nI 0)) p_10 (by first | omega | (simp only [List.length_append, List.length_cons, List.length_nil, List.length_replicate, sl_len, be_len, sha_len, xk_len, hmac_len, ex1_len, ex2_len, tag1_len, tC_len, stretch_len, W18_len]; done) | (simp only [List.length_append, List.length_cons, List.length_nil, List.length_replicate, sl_len, be_len, sha_len, xk_len, hmac_len, ex1_len, ex2_len, tag1_len, tC_len, stretch_len, W18_len]; omega)) (by decide) (by decide) (by decide)) (fun r M_12 hq => ?_)
  obtain ⟨rfl, p_12_0, kp_12⟩ := hq
  refine T_eq (pc' := 57) (L' := [(0, .ref 66), (1, .ref kp), (2, .ref tx), (3, .ref ap), (4, .int (nI 0)), (5, .ref to)]) (st' := []) (M' := M_12) rfl rfl rfl rfl ?_
  refine T_aload_n (v := .ref 66) d_Key_label_57 rfl (Or.inr ⟨_, rfl⟩) ?_
  have h_13 := (kp_12 66 (by decide)).trans (h_11)
  refine T_getfield (v := .ref 72) d_Key_label_58 fg_Key_25 h_13 rfl ?_
  refine T_aload_n (v := .ref ap) d_Key_label_61 rfl (Or.inr ⟨_, rfl⟩) ?_
  refine T_iconst (v := nI 0) d_Key_label_62 (by decide) ?_
  refine T_iload d_Key_label_63 rfl ?_
  have p_14 := (BA.kp ((BA.kp ((BA.kp ((BA.kp ((BA.kp ((BA.kp (ha) kp_1 (gr_ni (gr ap (by simp)) (by decide)))) kp_3 (gr_ni (gr ap (by simp)) (by decide)))) kp_6 (gr_ni (gr ap (by simp)) (by decide)))) kp_8 (gr_ni (gr ap (by simp)) (by decide)))) kp_10 (gr_ni (gr ap (by simp)) (by decide)))) kp_12 (gr_ni (gr ap (by simp)) (by decide)))
  refine T_virtual (as := [.ref ap, .int (nI 0), .int (nI 0)]) (rest := []) (b := 72) d_Key_label_65 rfl (jw_By_put.jo (by decide)) lm_Key_49 ji_By_put js_By_put p_12_0.1 rfl rfl rfl (Nat.le_of_ble_eq_true rfl) (by decide) (by decide) (y_By_put (at0 := 0) (k := 0) p_12_0 p_14 (by first | omega | (simp only [List.length_append, List.length_cons, List.length_nil, List.length_replicate, sl_len, be_len, sha_len, xk_len, hmac_len, ex1_len, ex2_len, tag1_len, tC_len, stretch_len, W18_len]; done) | (simp only [List.length_append, List.length_cons, List.length_nil, List.length_replicate, sl_len, be_len, sha_len, xk_len, hmac_len, ex1_len, ex2_len, tag1_len, tC_len, stretch_len, W18_len]; omega)) (by first | omega | (simp only [List.length_append, List.length_cons, List.length_nil, List.length_replicate, sl_len, be_len, sha_len, xk_len, hmac_len, ex1_len, ex2_len, tag1_len, tC_len, stretch_len, W18_len]; done) | (simp only [List.length_append, List.length_cons, List.length_nil, List.length_replicate, sl_len, be_len, sha_len, xk_len, hmac_len, ex1_len, ex2_len, tag1_len, tC_len, stretch_len, W18_len]; omega)) (by decide) hma (by decide) k_ap (by decide)) (fun r M_15 hq => ?_)
  obtain ⟨rfl, p_15_0, kp_15⟩ := hq
  refine T_eq (pc' := 68) (L' := [(0, .ref 66), (1, .ref kp), (2, .ref tx), (3, .ref ap), (4, .int (nI 0)), (5, .ref to)]) (st' := []) (M' := M_15) rfl rfl rfl rfl ?_
  refine T_aload_n (v := .ref 66) d_Key_label_68 rfl (Or.inr ⟨_, rfl⟩) ?_
  have h_16 := (kp_15 66 (by decide)).trans (h_13)
  refine T_getfield (v := .ref 72) d_Key_label_69 fg_Key_25 h_16 rfl ?_
  refine T_iconst (v := nI 1) d_Key_label_72 (by decide) ?_
  refine T_virtual (as := [.int (nI 1)]) (rest := []) (b := 72) d_Key_label_73 rfl (jw_By_putByte.jo (by decide)) lm_Key_60 ji_By_putByte js_By_putByte p_15_0.1 rfl rfl rfl (Nat.le_of_ble_eq_true rfl) (by decide) (by decide) (y_By_putByte (x := (nI 1)) p_15_0 (by first | omega | (simp only [List.length_append, List.length_cons, List.length_nil, List.length_replicate, sl_len, be_len, sha_len, xk_len, hmac_len, ex1_len, ex2_len, tag1_len, tC_len, stretch_len, W18_len]; done) | (simp only [List.length_append, List.length_cons, List.length_nil, List.length_replicate, sl_len, be_len, sha_len, xk_len, hmac_len, ex1_len, ex2_len, tag1_len, tC_len, stretch_len, W18_len]; omega)) (by decide) (by decide) (by decide)) (fun r M_17 hq => ?_)
  obtain ⟨rfl, p_17_0, kp_17⟩ := hq
  refine T_eq (pc' := 76) (L' := [(0, .ref 66), (1, .ref kp), (2, .ref tx), (3, .ref ap), (4, .int (nI 0)), (5, .ref to)]) (st' := []) (M' := M_17) rfl rfl rfl rfl ?_
  refine T_aload_n (v := .ref 66) d_Key_label_76 rfl (Or.inr ⟨_, rfl⟩) ?_
  refine T_aload_n (v := .ref kp) d_Key_label_77 rfl (Or.inr ⟨_, rfl⟩) ?_
  refine T_aload_n (v := .ref 66) d_Key_label_78 rfl (Or.inr ⟨_, rfl⟩) ?_
  have h_18 := (kp_17 66 (by decide)).trans (h_16)
  refine T_getfield (v := .ref 72) d_Key_label_79 fg_Key_25 h_18 rfl ?_
  refine T_aload (v := .ref to) d_Key_label_82 rfl (Or.inr ⟨_, rfl⟩) ?_
  have p_20 := (BA.kp ((BA.kp ((BA.kp ((BA.kp ((BA.kp ((BA.kp ((BA.kp ((BA.kp (hk) kp_1 (gr_ni (gr kp (by simp)) (by decide)))) kp_3 (gr_ni (gr kp (by simp)) (by decide)))) kp_6 (gr_ni (gr kp (by simp)) (by decide)))) kp_8 (gr_ni (gr kp (by simp)) (by decide)))) kp_10 (gr_ni (gr kp (by simp)) (by decide)))) kp_12 (gr_ni (gr kp (by simp)) (by decide)))) kp_15 (gr_ni (gr kp (by simp)) (by decide)))) kp_17 (gr_ni (gr kp (by simp)) (by decide)))
  have p_21 := (BQ.kp ((BQ.kp ((BQ.kp ((BQ.kp ((BQ.kp ((BQ.kp ((BQ.kp ((BQ.kp (ht) kp_1 (gr_ni (gr to (by simp)) (by decide)))) kp_3 (gr_ni (gr to (by simp)) (by decide)))) kp_6 (gr_ni (gr to (by simp)) (by decide)))) kp_8 (gr_ni (gr to (by simp)) (by decide)))) kp_10 (gr_ni (gr to (by simp)) (by decide)))) kp_12 (gr_ni (gr to (by simp)) (by decide)))) kp_15 (gr_ni (gr to (by simp)) (by decide)))) kp_17 (gr_ni (gr to (by simp)) (by decide)))
  have p_22 := (DQ.kp ((DQ.kp ((DQ.kp ((DQ.kp ((DQ.kp ((DQ.kp ((DQ.kp ((DQ.kp (y2) kp_1 (by decide) (by decide) (by decide))) kp_3 (by decide) (by decide) (by decide))) kp_6 (by decide) (by decide) (by decide))) kp_8 (by decide) (by decide) (by decide))) kp_10 (by decide) (by decide) (by decide))) kp_12 (by decide) (by decide) (by decide))) kp_15 (by decide) (by decide) (by decide))) kp_17 (by decide) (by decide) (by decide))
  have p_23 := (BY.kp ((BY.kp ((BY.kp ((BY.kp ((BY.kp ((BY.kp ((BY.kp ((BY.kp (y3) kp_1 (by decide) (by decide))) kp_3 (by decide) (by decide))) kp_6 (by decide) (by decide))) kp_8 (by decide) (by decide))) kp_10 (by decide) (by decide))) kp_12 (by decide) (by decide))) kp_15 (by decide) (by decide))) kp_17 (by decide) (by decide))
  have p_24 := (BQ.kp ((BQ.kp ((BQ.kp ((BQ.kp ((BQ.kp ((BQ.kp ((BQ.kp ((BQ.kp (y5) kp_1 (by decide))) kp_3 (by decide))) kp_6 (by decide))) kp_8 (by decide))) kp_10 (by decide))) kp_12 (by decide))) kp_15 (by decide))) kp_17 (by decide))
  refine T_virtual (as := [.ref kp, .ref 72, .ref to]) (rest := []) (b := 66) d_Key_label_84 rfl (jw_Key_mac.jo (by decide)) lm_Key_63 ji_Key_mac js_Key_mac h_18 rfl rfl rfl (Nat.le_of_ble_eq_true rfl) (by decide) (by decide) (y_Key_mac h_18 p_22 p_23 p_24 p_20 p_17_0 p_21 hl0 hmk (by first | omega | (simp only [List.length_append, List.length_cons, List.length_nil, List.length_replicate, sl_len, be_len, sha_len, xk_len, hmac_len, ex1_len, ex2_len, tag1_len, tC_len, stretch_len, W18_len]; done) | (simp only [List.length_append, List.length_cons, List.length_nil, List.length_replicate, sl_len, be_len, sha_len, xk_len, hmac_len, ex1_len, ex2_len, tag1_len, tC_len, stretch_len, W18_len]; omega)) (by decide) hm hm2 (by simp only [List.forall_mem_cons]; exact ⟨⟨(gr kp (by simp) 66 (by decide)), (gr kp (by simp) 67 (by decide)), (gr kp (by simp) 68 (by decide)), (gr kp (by simp) 69 (by decide)), (gr kp (by simp) 70 (by decide)), (gr kp (by simp) 71 (by decide)), (gr kp (by simp) 74 (by decide)), fun _ h => absurd h (List.not_mem_nil)⟩, (by decide), (by decide), ⟨(gr to (by simp) 66 (by decide)), (gr to (by simp) 67 (by decide)), (gr to (by simp) 68 (by decide)), (gr to (by simp) 69 (by decide)), (gr to (by simp) 70 (by decide)), (gr to (by simp) 71 (by decide)), (gr to (by simp) 74 (by decide)), fun _ h => absurd h (List.not_mem_nil)⟩, fun _ h => absurd h (List.not_mem_nil)⟩) k_to (by decide)) (fun r M_19 hq => ?_)
  obtain ⟨rfl, p_19a, ⟨l_19, p_19b⟩, p_19c, p_19d, kp_19⟩ := hq
  refine T_eq (pc' := 87) (L' := [(0, .ref 66), (1, .ref kp), (2, .ref tx), (3, .ref ap), (4, .int (nI 0)), (5, .ref to)]) (st' := []) (M' := M_19) rfl rfl rfl rfl ?_
  have h_25 := (kp_19 66 (by simp only [List.mem_cons, List.not_mem_nil, or_false, not_or]; exact ⟨(by decide), (by decide), (by decide), (by decide), (by decide), (Ne.symm (gr to (by simp) 66 (by decide)))⟩)).trans (h_18)
  have p_26 := (BY.kp (p_17_0) kp_19 (by simp only [List.mem_cons, List.not_mem_nil, or_false, not_or]; exact ⟨(by decide), (by decide), (by decide), (by decide), (by decide), (Ne.symm (gr to (by simp) 72 (by decide)))⟩) (by simp only [List.mem_cons, List.not_mem_nil, or_false, not_or]; exact ⟨(by decide), (by decide), (by decide), (by decide), (by decide), (Ne.symm (gr to (by simp) 73 (by decide)))⟩))
  have p_27 := (BQ.kp ((BQ.kp ((BQ.kp ((BQ.kp ((BQ.kp ((BQ.kp ((BQ.kp ((BQ.kp ((BQ.kp (y6) kp_1 (by decide))) kp_3 (by decide))) kp_6 (by decide))) kp_8 (by decide))) kp_10 (by decide))) kp_12 (by decide))) kp_15 (by decide))) kp_17 (by decide))) kp_19 (by simp only [List.mem_cons, List.not_mem_nil, or_false, not_or]; exact ⟨(by decide), (by decide), (by decide), (by decide), (by decide), (Ne.symm (gr to (by simp) 75 (by decide)))⟩))
  have p_28 := (BA.kp ((BA.kp ((BA.kp ((BA.kp ((BA.kp ((BA.kp ((BA.kp ((BA.kp ((BA.kp (y7) kp_1 (by decide))) kp_3 (by decide))) kp_6 (by decide))) kp_8 (by decide))) kp_10 (by decide))) kp_12 (by decide))) kp_15 (by decide))) kp_17 (by decide))) kp_19 (by simp only [List.mem_cons, List.not_mem_nil, or_false, not_or]; exact ⟨(by decide), (by decide), (by decide), (by decide), (by decide), (Ne.symm (gr to (by simp) 76 (by decide)))⟩))
  have cl : KY M_19 := ⟨h_25, p_19a, ⟨_, p_19b⟩, ⟨_, p_26⟩, p_19c, p_27, p_28⟩
  have hto := p_19d
  have e7 : u8 (nI (7 + T.length)) = UInt8.ofNat (7 + T.length) := u8_nI (by omega)
  have e8 : u8 (nI 0) = UInt8.ofNat (sl a 0 0).length := by rw [sl_len]; rfl
  rw [List.nil_append, be64, e7, e8] at hto
  exact T_vret d_Key_label_87 rfl (by decide) (by decide) ⟨rfl, cl, hto, (Kp.tr (Kp.tr (Kp.tr (Kp.tr (Kp.tr (Kp.tr (Kp.tr (Kp.tr (Kp.tr (Kp.rf : Kp [to, 66, 67, 68, 69, 70, 71, 72, 73, 74, 75, 76] M M) (Kp.mono kp_1 (by simp))) (Kp.mono kp_3 (by simp))) (Kp.mono kp_6 (by simp))) (Kp.mono kp_8 (by simp))) (Kp.mono kp_10 (by simp))) (Kp.mono kp_12 (by simp))) (Kp.mono kp_15 (by simp))) (Kp.mono kp_17 (by simp))) (Kp.mono kp_19 (by simp)))⟩
abbrev rr (t n : Nat) (f : Nat → Option Nat) : va_E := .inl (t, n, .inr (.inr (.inr (.inr f))))
theorem N_aaload {G : GX} {mi : MI} {pc : Nat} {L : List (Nat × Value)} {st : List Value} {M : List va_E} {kc ks : Nat} {Q : Option Value → List va_E → Prop} {a t n k p : Nat} {f : Nat → Option Nat} {C0 : String} (hd : decode (mC mi) pc = .ok (.aaload, 1)) (ha : K0 ≤ a) (hm : M[a]? = some (rr t n f)) (ht : tyl[t]? = some (.object C0)) (hk : k < n) (hn : n < 2 ^ 31) (hx : f k = some p) (kk : TT G mi (pc + 1) L (.ref p :: st) M kc ks Q) : TT G mi pc L (.int (nI k) :: .ref a :: st) M kc ks Q :=
  T_aaload hd ha hm ht (vp_in_nI hk hn) (by rw [nI_clamp (by omega), hx]; exact kk)
def RV (M : List va_E) (q : Nat) (x : Int) (n : Nat) : Prop := Rv M q x n
def RQ (M : List va_E) (q : Nat) : Prop := Rq M q
theorem RV.kp {M M' : List va_E} {q : Nat} {W : List Nat} {x : Int} {n : Nat} (h : RV M q x n) (s : Kp W M M') (hn : q ∉ W) : RV M' q x n := Rv.kp h s hn
theorem RQ.kp {M M' : List va_E} {q : Nat} {W : List Nat} (h : RQ M q) (s : Kp W M M') (hn : q ∉ W) : RQ M' q := Rq.kp h s hn
set_option maxHeartbeats 8000000 in
theorem pj_addC {P Q : Fp × Fp} (hP : OnP fD P) (hQ : OnP fD Q) {X Y Z T X' Y' Z' T' d2 a b c s e f g h : Fp} (j : Pj P X Y Z T) (j' : Pj Q X' Y' Z' T') (hd : d2 = fD + fD) (ha : a = (Y - X) * (Y' - X')) (hb : b = (Y + X) * (Y' + X')) (hc : c = T * T' * d2) (hs : s = Z * Z' + Z * Z') (he : e = b - a) (hf : f = s - c) (hg : g = s + c) (hh : h = b + a) : Pj (ad2 fD P Q) (e * f) (g * h) (f * g) (e * h) := by
  have k := (cvF.pj_add hP hQ j j').sc four_ne
  subst he hf hg hh hs hc hb ha hd
  clear j j' hP hQ
  have e1 : ((Y + X) * (Y' + X') - (Y - X) * (Y' - X')) * (Z * Z' + Z * Z' - T * T' * (fD + fD)) = 4 * ((X * Y' + Y * X') * (Z * Z' - T * T' * fD)) := by grobner
  have e2 : (Z * Z' + Z * Z' + T * T' * (fD + fD)) * ((Y + X) * (Y' + X') + (Y - X) * (Y' - X')) = 4 * ((Y * Y' + X * X') * (Z * Z' + T * T' * fD)) := by grobner
  have e3 : (Z * Z' + Z * Z' - T * T' * (fD + fD)) * (Z * Z' + Z * Z' + T * T' * (fD + fD)) = 4 * ((Z * Z' - T * T' * fD) * (Z * Z' + T * T' * fD)) := by grobner
  have e4 : ((Y + X) * (Y' + X') - (Y - X) * (Y' - X')) * ((Y + X) * (Y' + X') + (Y - X) * (Y' - X')) = 4 * ((X * Y' + Y * X') * (Y * Y' + X * X')) := by grobner
  rw [e1, e2, e3, e4]
  exact k
def PC (M : List va_E) (q x y z t : Nat) (P : Fp × Fp) : Prop := M[q]? = some (poO x y z t) ∧ ∃ X Y Z T : Int, Rv M x X 2 ∧ Rv M y Y 1 ∧ Rv M z Z 1 ∧ Rv M t T 1 ∧ Pj P (ph X) (ph Y) (ph Z) (ph T)
theorem PC.kp {M M' : List va_E} {q x y z t : Nat} {P : Fp × Fp} {W : List Nat} (h : PC M q x y z t P) (s : Kp W M M') (h0 : q ∉ W) (h1 : x ∉ W) (h2 : y ∉ W) (h3 : z ∉ W) (h4 : t ∉ W) : PC M' q x y z t P := by
  obtain ⟨a, X, Y, Z, T, b1, b2, b3, b4, b5⟩ := h
  exact ⟨(s _ h0).trans a, X, Y, Z, T, b1.kp s h1, b2.kp s h2, b3.kp s h3, b4.kp s h4, b5⟩
def PQ (M : List va_E) (q x y z t : Nat) : Prop := M[q]? = some (poO x y z t) ∧ Rq M x ∧ Rq M y ∧ Rq M z ∧ Rq M t
theorem PC.pq {M : List va_E} {q x y z t : Nat} {P : Fp × Fp} (h : PC M q x y z t P) : PQ M q x y z t := by obtain ⟨a, X, Y, Z, T, b1, b2, b3, b4, b5⟩ := h; exact ⟨a, b1.rq, b2.rq, b3.rq, b4.rq⟩
theorem PQ.kp {M M' : List va_E} {q x y z t : Nat} {W : List Nat} (h : PQ M q x y z t) (s : Kp W M M') (h0 : q ∉ W) (h1 : x ∉ W) (h2 : y ∉ W) (h3 : z ∉ W) (h4 : t ∉ W) : PQ M' q x y z t := ⟨(s _ h0).trans h.1, h.2.1.kp s h1, h.2.2.1.kp s h2, h.2.2.2.1.kp s h3, h.2.2.2.2.kp s h4⟩
abbrev cuR : List Nat := [79, 80, 81, 82, 83, 84, 85, 94, 95, 96, 97, 98, 99, 100, 101, 102]
def CS1 (M : List va_E) : Prop := M[77]? = some cuO ∧ M[78]? = some foO ∧ ∀ q ∈ cuR, Rq M q
theorem CS1.kp {M M' : List va_E} {W : List Nat} (h : CS1 M) (s : Kp W M M') (hn : ∀ q ∈ 77 :: 78 :: cuR, q ∉ W) : CS1 M' := ⟨(s _ (hn 77 (by decide))).trans h.1, (s _ (hn 78 (by decide))).trans h.2.1, fun q hq => (h.2.2 q hq).kp s (hn q (List.mem_cons_of_mem _ (List.mem_cons_of_mem _ hq)))⟩

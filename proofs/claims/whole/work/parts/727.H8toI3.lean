theorem y_By_has_in {G : GX} {M : List va_E} {q d n : Nat} {l : List UInt8} (h : BY M q d n l) {i : Nat} (hi : i < l.length) (hn : n < 2 ^ 30) : CT G mi_By_has [.ref q, .int (nI i)] M (fun r M' => r = some (.int (nI 1)) ∧ M' = M) := by
  have hle := h.2.le
  refine CT.of (by decide) (Nat.le_of_ble_eq_true rfl) ?_
  show TT G mi_By_has 0 [(0, .ref q), (1, .int (nI i))] [] M 0 0 _
  refine T_iload_n d_By_has_0 rfl ?_
  refine N_if_lt_f (b := i) d_By_has_1 (tgt := 16) rfl (by omega) (by omega) ?_
  refine T_iload_n d_By_has_4 rfl ?_
  refine T_aload_n (v := .ref q) d_By_has_5 rfl (Or.inr ⟨_, rfl⟩) ?_
  refine T_getfield (v := .int (nI (l.length))) d_By_has_6 fg_By_13 h.1 rfl ?_
  refine N_icmp_ge_f (a := l.length) (b := i) d_By_has_9 (tgt := 16) rfl (by omega) (by omega) (by omega) ?_
  refine T_iconst (v := nI 1) d_By_has_12 (by decide) ?_
  refine T_goto (tgt := 17) d_By_has_13 rfl ?_
  exact T_ret d_By_has_17 rfl (by decide) (by decide) (by decide) ⟨rfl, rfl⟩
theorem y_By_has_out {G : GX} {M : List va_E} {q d n : Nat} {l : List UInt8} (h : BY M q d n l) {i : Nat} (hi : l.length ≤ i) (hi2 : i < 2147483648) (hn : n < 2 ^ 30) : CT G mi_By_has [.ref q, .int (nI i)] M (fun r M' => r = some (.int (nI 0)) ∧ M' = M) := by
  have hle := h.2.le
  refine CT.of (by decide) (Nat.le_of_ble_eq_true rfl) ?_
  show TT G mi_By_has 0 [(0, .ref q), (1, .int (nI i))] [] M 0 0 _
  refine T_iload_n d_By_has_0 rfl ?_
  refine N_if_lt_f (b := i) d_By_has_1 (tgt := 16) rfl (by omega) (by omega) ?_
  refine T_iload_n d_By_has_4 rfl ?_
  refine T_aload_n (v := .ref q) d_By_has_5 rfl (Or.inr ⟨_, rfl⟩) ?_
  refine T_getfield (v := .int (nI (l.length))) d_By_has_6 fg_By_13 h.1 rfl ?_
  refine N_icmp_ge_t (a := l.length) (b := i) d_By_has_9 (tgt := 16) rfl (by omega) (by omega) (by omega) ?_
  refine T_iconst (v := nI 0) d_By_has_16 (by decide) ?_
  exact T_ret d_By_has_17 rfl (by decide) (by decide) (by decide) ⟨rfl, rfl⟩
theorem y_By_has_neg {G : GX} {M : List va_E} {q d n : Nat} {l : List UInt8} (h : BY M q d n l) {x : Int32} (hx : x < 0) : CT G mi_By_has [.ref q, .int x] M (fun r M' => r = some (.int (nI 0)) ∧ M' = M) := by
  have hle := h.2.le
  refine CT.of (by decide) (Nat.le_of_ble_eq_true rfl) ?_
  show TT G mi_By_has 0 [(0, .ref q), (1, .int x)] [] M 0 0 _
  refine T_iload_n d_By_has_0 rfl ?_
  refine T_if_lt d_By_has_1 (tgt := 16) rfl (fun _ => ?_) (fun c => absurd hx c)
  refine T_iconst (v := nI 0) d_By_has_16 (by decide) ?_
  exact T_ret d_By_has_17 rfl (by decide) (by decide) (by decide) ⟨rfl, rfl⟩
def fd5 (a b c d e : Int32) : List UInt8 := be a 4 ++ (be b 4 ++ (be c 4 ++ (be d 4 ++ be e 4)))
set_option maxHeartbeats 8000000 in
theorem y_PG_feed_yes {G : GX} {M : List va_E} {x1 x2 x3 x4 x5 : Int32} {lt : List UInt8} (hgo : GO M 61 264) (htx : BY M 369 370 200 lt) (hl : lt.length + 20 ≤ 200) : CT G mi_PG_feed [.ref 61, .int x1, .int x2, .int x3, .int x4, .int x5] M (fun r M' => r = some (.int (nI 1)) ∧ BY M' 369 370 200 (lt ++ fd5 x1 x2 x3 x4 x5) ∧ Kp [369, 370] M M') := by
  refine CT.of (by decide) (Nat.le_of_ble_eq_true rfl) ?_
  show TT G mi_PG_feed 0 [(0, .ref 61), (1, .int x1), (2, .int x2), (3, .int x3), (4, .int x4), (5, .int x5)] [] M 0 0 _
  refine T_aload_n (v := .ref 61) d_PG_feed_0 rfl (Or.inr ⟨_, rfl⟩) ?_
  refine T_getfield (v := .ref 369) d_PG_feed_1 fg_PG_42 hgo.1 rfl ?_
  refine T_getfield (v := .int (nI (lt.length))) d_PG_feed_4 fg_PG_49 htx.1 rfl ?_
  refine T_bipush (v := nI 20) d_PG_feed_7 (by decide) ?_
  refine N_iadd (a := 20) (b := lt.length) (c := (lt.length + 20)) d_PG_feed_9 rfl ?_
  refine T_sipush (v := nI 200) d_PG_feed_10 (by decide) ?_
  refine N_icmp_le_t (a := 200) (b := (lt.length + 20)) d_PG_feed_13 (tgt := 18) rfl (by omega) (by omega) (by omega) ?_
  refine T_aload_n (v := .ref 61) d_PG_feed_18 rfl (Or.inr ⟨_, rfl⟩) ?_
  refine T_getfield (v := .ref 369) d_PG_feed_19 fg_PG_42 hgo.1 rfl ?_
  refine T_iload_n d_PG_feed_22 rfl ?_
  refine T_iconst (v := nI 4) d_PG_feed_23 (by decide) ?_
  refine T_virtual (as := [.int x1, .int (nI 4)]) (rest := []) (b := 369) d_PG_feed_24 rfl (jw_By_putNumber.jo (by decide)) lm_PG_53 ji_By_putNumber js_By_putNumber htx.1 rfl rfl rfl (Nat.le_of_ble_eq_true rfl) (by decide) (by decide) (y_By_putNumber (v := x1) (c := 4) htx (by decide) (by first | omega | (simp only [List.length_append, List.length_cons, List.length_nil, List.length_replicate, sl_len, be_len, sha_len, xk_len, hmac_len, ex1_len, ex2_len, tag1_len, tC_len, stretch_len, chance_len, enc_len, pub_len, lbN_len, lbF_len, zer8_len, W0_len, W1_len, W2_len, W3_len, W4_len, W5_len, W6_len, W7_len, W8_len, W9_len, W10_len, W11_len, W12_len, W13_len, W14_len, W15_len, W16_len, W17_len, W18_len, W19_len, W20_len, W21_len, sec8_len, seal8_len, xr_len, pre8_len, xSess_len, xSrv_len, xCli_len]; done) | (simp only [List.length_append, List.length_cons, List.length_nil, List.length_replicate, sl_len, be_len, sha_len, xk_len, hmac_len, ex1_len, ex2_len, tag1_len, tC_len, stretch_len, chance_len, enc_len, pub_len, lbN_len, lbF_len, zer8_len, W0_len, W1_len, W2_len, W3_len, W4_len, W5_len, W6_len, W7_len, W8_len, W9_len, W10_len, W11_len, W12_len, W13_len, W14_len, W15_len, W16_len, W17_len, W18_len, W19_len, W20_len, W21_len, sec8_len, seal8_len, xr_len, pre8_len, xSess_len, xSrv_len, xCli_len]; omega)) (by decide) (by decide) (by decide)) (fun r M_1 hq => ?_)
  obtain ⟨rfl, p_1_0, kp_1⟩ := hq
  refine T_eq (pc' := 27) (L' := [(0, .ref 61), (1, .int x1), (2, .int x2), (3, .int x3), (4, .int x4), (5, .int x5)]) (st' := []) (M' := M_1) rfl rfl rfl rfl ?_
  refine T_aload_n (v := .ref 61) d_PG_feed_27 rfl (Or.inr ⟨_, rfl⟩) ?_
  have h_2 := (kp_1 61 (by decide)).trans (hgo.1)
  refine T_getfield (v := .ref 369) d_PG_feed_28 fg_PG_42 h_2 rfl ?_
  refine T_iload_n d_PG_feed_31 rfl ?_
  refine T_iconst (v := nI 4) d_PG_feed_32 (by decide) ?_
  refine T_virtual (as := [.int x2, .int (nI 4)]) (rest := []) (b := 369) d_PG_feed_33 rfl (jw_By_putNumber.jo (by decide)) lm_PG_53 ji_By_putNumber js_By_putNumber p_1_0.1 rfl rfl rfl (Nat.le_of_ble_eq_true rfl) (by decide) (by decide) (y_By_putNumber (v := x2) (c := 4) p_1_0 (by decide) (by first | omega | (simp only [List.length_append, List.length_cons, List.length_nil, List.length_replicate, sl_len, be_len, sha_len, xk_len, hmac_len, ex1_len, ex2_len, tag1_len, tC_len, stretch_len, chance_len, enc_len, pub_len, lbN_len, lbF_len, zer8_len, W0_len, W1_len, W2_len, W3_len, W4_len, W5_len, W6_len, W7_len, W8_len, W9_len, W10_len, W11_len, W12_len, W13_len, W14_len, W15_len, W16_len, W17_len, W18_len, W19_len, W20_len, W21_len, sec8_len, seal8_len, xr_len, pre8_len, xSess_len, xSrv_len, xCli_len]; done) | (simp only [List.length_append, List.length_cons, List.length_nil, List.length_replicate, sl_len, be_len, sha_len, xk_len, hmac_len, ex1_len, ex2_len, tag1_len, tC_len, stretch_len, chance_len, enc_len, pub_len, lbN_len, lbF_len, zer8_len, W0_len, W1_len, W2_len, W3_len, W4_len, W5_len, W6_len, W7_len, W8_len, W9_len, W10_len, W11_len, W12_len, W13_len, W14_len, W15_len, W16_len, W17_len, W18_len, W19_len, W20_len, W21_len, sec8_len, seal8_len, xr_len, pre8_len, xSess_len, xSrv_len, xCli_len]; omega)) (by decide) (by decide) (by decide)) (fun r M_3 hq => ?_)
  obtain ⟨rfl, p_3_0, kp_3⟩ := hq
  refine T_eq (pc' := 36) (L' := [(0, .ref 61), (1, .int x1), (2, .int x2), (3, .int x3), (4, .int x4), (5, .int x5)]) (st' := []) (M' := M_3) rfl rfl rfl rfl ?_
  refine T_aload_n (v := .ref 61) d_PG_feed_36 rfl (Or.inr ⟨_, rfl⟩) ?_
  have h_4 := (kp_3 61 (by decide)).trans (h_2)
  refine T_getfield (v := .ref 369) d_PG_feed_37 fg_PG_42 h_4 rfl ?_
  refine T_iload_n d_PG_feed_40 rfl ?_
  refine T_iconst (v := nI 4) d_PG_feed_41 (by decide) ?_
  refine T_virtual (as := [.int x3, .int (nI 4)]) (rest := []) (b := 369) d_PG_feed_42 rfl (jw_By_putNumber.jo (by decide)) lm_PG_53 ji_By_putNumber js_By_putNumber p_3_0.1 rfl rfl rfl (Nat.le_of_ble_eq_true rfl) (by decide) (by decide) (y_By_putNumber (v := x3) (c := 4) p_3_0 (by decide) (by first | omega | (simp only [List.length_append, List.length_cons, List.length_nil, List.length_replicate, sl_len, be_len, sha_len, xk_len, hmac_len, ex1_len, ex2_len, tag1_len, tC_len, stretch_len, chance_len, enc_len, pub_len, lbN_len, lbF_len, zer8_len, W0_len, W1_len, W2_len, W3_len, W4_len, W5_len, W6_len, W7_len, W8_len, W9_len, W10_len, W11_len, W12_len, W13_len, W14_len, W15_len, W16_len, W17_len, W18_len, W19_len, W20_len, W21_len, sec8_len, seal8_len, xr_len, pre8_len, xSess_len, xSrv_len, xCli_len]; done) | (simp only [List.length_append, List.length_cons, List.length_nil, List.length_replicate, sl_len, be_len, sha_len, xk_len, hmac_len, ex1_len, ex2_len, tag1_len, tC_len, stretch_len, chance_len, enc_len, pub_len, lbN_len, lbF_len, zer8_len, W0_len, W1_len, W2_len, W3_len, W4_len, W5_len, W6_len, W7_len, W8_len, W9_len, W10_len, W11_len, W12_len, W13_len, W14_len, W15_len, W16_len, W17_len, W18_len, W19_len, W20_len, W21_len, sec8_len, seal8_len, xr_len, pre8_len, xSess_len, xSrv_len, xCli_len]; omega)) (by decide) (by decide) (by decide)) (fun r M_5 hq => ?_)
  obtain ⟨rfl, p_5_0, kp_5⟩ := hq
  refine T_eq (pc' := 45) (L' := [(0, .ref 61), (1, .int x1), (2, .int x2), (3, .int x3), (4, .int x4), (5, .int x5)]) (st' := []) (M' := M_5) rfl rfl rfl rfl ?_
  refine T_aload_n (v := .ref 61) d_PG_feed_45 rfl (Or.inr ⟨_, rfl⟩) ?_
  have h_6 := (kp_5 61 (by decide)).trans (h_4)
  refine T_getfield (v := .ref 369) d_PG_feed_46 fg_PG_42 h_6 rfl ?_
  refine T_iload d_PG_feed_49 rfl ?_
  refine T_iconst (v := nI 4) d_PG_feed_51 (by decide) ?_
  refine T_virtual (as := [.int x4, .int (nI 4)]) (rest := []) (b := 369) d_PG_feed_52 rfl (jw_By_putNumber.jo (by decide)) lm_PG_53 ji_By_putNumber js_By_putNumber p_5_0.1 rfl rfl rfl (Nat.le_of_ble_eq_true rfl) (by decide) (by decide) (y_By_putNumber (v := x4) (c := 4) p_5_0 (by decide) (by first | omega | (simp only [List.length_append, List.length_cons, List.length_nil, List.length_replicate, sl_len, be_len, sha_len, xk_len, hmac_len, ex1_len, ex2_len, tag1_len, tC_len, stretch_len, chance_len, enc_len, pub_len, lbN_len, lbF_len, zer8_len, W0_len, W1_len, W2_len, W3_len, W4_len, W5_len, W6_len, W7_len, W8_len, W9_len, W10_len, W11_len, W12_len, W13_len, W14_len, W15_len, W16_len, W17_len, W18_len, W19_len, W20_len, W21_len, sec8_len, seal8_len, xr_len, pre8_len, xSess_len, xSrv_len, xCli_len]; done) | (simp only [List.length_append, List.length_cons, List.length_nil, List.length_replicate, sl_len, be_len, sha_len, xk_len, hmac_len, ex1_len, ex2_len, tag1_len, tC_len, stretch_len, chance_len, enc_len, pub_len, lbN_len, lbF_len, zer8_len, W0_len, W1_len, W2_len, W3_len, W4_len, W5_len, W6_len, W7_len, W8_len, W9_len, W10_len, W11_len, W12_len, W13_len, W14_len, W15_len, W16_len, W17_len, W18_len, W19_len, W20_len, W21_len, sec8_len, seal8_len, xr_len, pre8_len, xSess_len, xSrv_len, xCli_len]; omega)) (by decide) (by decide) (by decide)) (fun r M_7 hq => ?_)
  obtain ⟨rfl, p_7_0, kp_7⟩ := hq
  refine T_eq (pc' := 55) (L' := [(0, .ref 61), (1, .int x1), (2, .int x2), (3, .int x3), (4, .int x4), (5, .int x5)]) (st' := []) (M' := M_7) rfl rfl rfl rfl ?_
  refine T_aload_n (v := .ref 61) d_PG_feed_55 rfl (Or.inr ⟨_, rfl⟩) ?_
  have h_8 := (kp_7 61 (by decide)).trans (h_6)
  refine T_getfield (v := .ref 369) d_PG_feed_56 fg_PG_42 h_8 rfl ?_
  refine T_iload d_PG_feed_59 rfl ?_
  refine T_iconst (v := nI 4) d_PG_feed_61 (by decide) ?_
  refine T_virtual (as := [.int x5, .int (nI 4)]) (rest := []) (b := 369) d_PG_feed_62 rfl (jw_By_putNumber.jo (by decide)) lm_PG_53 ji_By_putNumber js_By_putNumber p_7_0.1 rfl rfl rfl (Nat.le_of_ble_eq_true rfl) (by decide) (by decide) (y_By_putNumber (v := x5) (c := 4) p_7_0 (by decide) (by first | omega | (simp only [List.length_append, List.length_cons, List.length_nil, List.length_replicate, sl_len, be_len, sha_len, xk_len, hmac_len, ex1_len, ex2_len, tag1_len, tC_len, stretch_len, chance_len, enc_len, pub_len, lbN_len, lbF_len, zer8_len, W0_len, W1_len, W2_len, W3_len, W4_len, W5_len, W6_len, W7_len, W8_len, W9_len, W10_len, W11_len, W12_len, W13_len, W14_len, W15_len, W16_len, W17_len, W18_len, W19_len, W20_len, W21_len, sec8_len, seal8_len, xr_len, pre8_len, xSess_len, xSrv_len, xCli_len]; done) | (simp only [List.length_append, List.length_cons, List.length_nil, List.length_replicate, sl_len, be_len, sha_len, xk_len, hmac_len, ex1_len, ex2_len, tag1_len, tC_len, stretch_len, chance_len, enc_len, pub_len, lbN_len, lbF_len, zer8_len, W0_len, W1_len, W2_len, W3_len, W4_len, W5_len, W6_len, W7_len, W8_len, W9_len, W10_len, W11_len, W12_len, W13_len, W14_len, W15_len, W16_len, W17_len, W18_len, W19_len, W20_len, W21_len, sec8_len, seal8_len, xr_len, pre8_len, xSess_len, xSrv_len, xCli_len]; omega)) (by decide) (by decide) (by decide)) (fun r M_9 hq => ?_)
  obtain ⟨rfl, p_9_0, kp_9⟩ := hq
  refine T_eq (pc' := 65) (L' := [(0, .ref 61), (1, .int x1), (2, .int x2), (3, .int x3), (4, .int x4), (5, .int x5)]) (st' := []) (M' := M_9) rfl rfl rfl rfl ?_
  refine T_iconst (v := nI 1) d_PG_feed_65 (by decide) ?_
  have g := p_9_0
  rw [show ((((lt ++ be x1 4) ++ be x2 4) ++ be x3 4) ++ be x4 4) ++ be x5 4 = lt ++ fd5 x1 x2 x3 x4 x5 by unfold fd5; simp only [List.append_assoc]] at g
  exact T_ret d_PG_feed_66 rfl rfl (by decide) (by decide) ⟨rfl, g, (Kp.tr (Kp.tr (Kp.tr (Kp.tr (Kp.tr (Kp.rf : Kp [369, 370] M M) (Kp.mono kp_1 (by decide))) (Kp.mono kp_3 (by decide))) (Kp.mono kp_5 (by decide))) (Kp.mono kp_7 (by decide))) (Kp.mono kp_9 (by decide)))⟩
set_option maxHeartbeats 8000000 in
theorem y_PG_feed_no {G : GX} {M : List va_E} {x1 x2 x3 x4 x5 : Int32} {lt : List UInt8} (hgo : GO M 61 264) (htx : BY M 369 370 200 lt) (hl : 200 < lt.length + 20) : CT G mi_PG_feed [.ref 61, .int x1, .int x2, .int x3, .int x4, .int x5] M (fun r M' => r = some (.int (nI 0)) ∧ M' = M) := by
  have hlt := htx.2.le
  refine CT.of (by decide) (Nat.le_of_ble_eq_true rfl) ?_
  show TT G mi_PG_feed 0 [(0, .ref 61), (1, .int x1), (2, .int x2), (3, .int x3), (4, .int x4), (5, .int x5)] [] M 0 0 _
  refine T_aload_n (v := .ref 61) d_PG_feed_0 rfl (Or.inr ⟨_, rfl⟩) ?_
  refine T_getfield (v := .ref 369) d_PG_feed_1 fg_PG_42 hgo.1 rfl ?_
  refine T_getfield (v := .int (nI (lt.length))) d_PG_feed_4 fg_PG_49 htx.1 rfl ?_
  refine T_bipush (v := nI 20) d_PG_feed_7 (by decide) ?_
  refine N_iadd (a := 20) (b := lt.length) (c := (lt.length + 20)) d_PG_feed_9 rfl ?_
  refine T_sipush (v := nI 200) d_PG_feed_10 (by decide) ?_
  refine N_icmp_le_f (a := 200) (b := (lt.length + 20)) d_PG_feed_13 (tgt := 18) rfl (by omega) (by omega) (by omega) ?_
  refine T_iconst (v := nI 0) d_PG_feed_16 (by decide) ?_
  exact T_ret d_PG_feed_17 rfl rfl (by decide) (by decide) ⟨rfl, rfl⟩
theorem BY.cut {M M' : List va_E} {q d n k : Nat} {l : List UInt8} (h : BY M q d n l) (hk : k ≤ l.length) (hq : M'[q]? = some (byO d k)) (hd : M'[d]? = M[d]?) : BY M' q d n (l.take k) := by
  obtain ⟨_, f, f1, f2, f3⟩ := h
  have e : (l.take k).length = k := by rw [List.length_take, Nat.min_eq_left hk]
  refine ⟨by rw [e]; exact hq, f, hd.trans f1, by rw [e]; exact Nat.le_trans hk f2, fun i hi => ?_⟩
  rw [e] at hi
  rw [f3 i (Nat.lt_of_lt_of_le hi hk)]
  congr 1
  unfold gd
  simp only [List.getD_eq_getElem?_getD, List.getElem?_take, hi, if_true]
set_option maxHeartbeats 8000000 in
theorem y_PG_end_in {G : GX} {M : List va_E} {n : Nat} {lt : List UInt8} (hgo : GO M 61 264) (htx : BY M 369 370 200 lt) (hn : n ≤ lt.length) : CT G mi_PG_end [.ref 61, .int (nI n)] M (fun r M' => r = some (.int (nI 1)) ∧ BY M' 369 370 200 (lt.take n) ∧ Kp [369] M M') := by
  have hlt := htx.2.le
  refine CT.of (by decide) (Nat.le_of_ble_eq_true rfl) ?_
  show TT G mi_PG_end 0 [(0, .ref 61), (1, .int (nI n))] [] M 0 0 _
  refine T_iload_n d_PG_end_0 rfl ?_
  refine N_if_lt_f (b := n) d_PG_end_1 (tgt := 15) rfl (by omega) (by omega) ?_
  refine T_iload_n d_PG_end_4 rfl ?_
  refine T_aload_n (v := .ref 61) d_PG_end_5 rfl (Or.inr ⟨_, rfl⟩) ?_
  refine T_getfield (v := .ref 369) d_PG_end_6 fg_PG_42 hgo.1 rfl ?_
  refine T_getfield (v := .int (nI (lt.length))) d_PG_end_9 fg_PG_49 htx.1 rfl ?_
  refine N_icmp_le_t (a := lt.length) (b := n) d_PG_end_12 (tgt := 17) rfl (by omega) (by omega) (by omega) ?_
  refine T_aload_n (v := .ref 61) d_PG_end_17 rfl (Or.inr ⟨_, rfl⟩) ?_
  refine T_getfield (v := .ref 369) d_PG_end_18 fg_PG_42 hgo.1 rfl ?_
  refine T_iload_n d_PG_end_21 rfl ?_
  refine N_put (e := (byO 370 n)) d_PG_end_22 (fp_PG_49 _) htx.1 (Nat.le_of_ble_eq_true rfl) ⟨rfl, rfl⟩ rfl (fun M_1 h_2 s_3 => ?_)
  refine T_iconst (v := nI 1) d_PG_end_25 (by decide) ?_
  exact T_ret d_PG_end_26 rfl rfl (by decide) (by decide) ⟨rfl, BY.cut htx hn h_2 (s_3 370 (by decide)), Ex.kp s_3⟩
set_option maxHeartbeats 8000000 in
theorem y_PG_end_big {G : GX} {M : List va_E} {n : Nat} {lt : List UInt8} (hgo : GO M 61 264) (htx : BY M 369 370 200 lt) (hn : lt.length < n) (hn2 : n < 2147483648) : CT G mi_PG_end [.ref 61, .int (nI n)] M (fun r M' => r = some (.int (nI 0)) ∧ M' = M) := by
  have hlt := htx.2.le
  refine CT.of (by decide) (Nat.le_of_ble_eq_true rfl) ?_
  show TT G mi_PG_end 0 [(0, .ref 61), (1, .int (nI n))] [] M 0 0 _
  refine T_iload_n d_PG_end_0 rfl ?_
  refine N_if_lt_f (b := n) d_PG_end_1 (tgt := 15) rfl (by omega) (by omega) ?_
  refine T_iload_n d_PG_end_4 rfl ?_
  refine T_aload_n (v := .ref 61) d_PG_end_5 rfl (Or.inr ⟨_, rfl⟩) ?_
  refine T_getfield (v := .ref 369) d_PG_end_6 fg_PG_42 hgo.1 rfl ?_
  refine T_getfield (v := .int (nI (lt.length))) d_PG_end_9 fg_PG_49 htx.1 rfl ?_
  refine N_icmp_le_f (a := lt.length) (b := n) d_PG_end_12 (tgt := 17) rfl (by omega) (by omega) (by omega) ?_
  refine T_iconst (v := nI 0) d_PG_end_15 (by decide) ?_
  exact T_ret d_PG_end_16 rfl rfl (by decide) (by decide) ⟨rfl, rfl⟩
theorem y_PG_end_neg {G : GX} {M : List va_E} {x : Int32} (hx : x < 0) : CT G mi_PG_end [.ref 61, .int x] M (fun r M' => r = some (.int (nI 0)) ∧ M' = M) := by
  refine CT.of (by decide) (Nat.le_of_ble_eq_true rfl) ?_
  show TT G mi_PG_end 0 [(0, .ref 61), (1, .int x)] [] M 0 0 _
  refine T_iload_n d_PG_end_0 rfl ?_
  refine T_if_lt d_PG_end_1 (tgt := 15) rfl (fun _ => ?_) (fun c => absurd hx c)
  refine T_iconst (v := nI 0) d_PG_end_15 (by decide) ?_
  exact T_ret d_PG_end_16 rfl rfl (by decide) (by decide) ⟨rfl, rfl⟩
set_option maxHeartbeats 8000000 in
theorem y_PG_result_in {G : GX} {M : List va_E} {i : Nat} {lo : List UInt8} (hgo : GO M 61 264) (hou : BY M 371 372 64 lo) (hi : i < lo.length) : CT G mi_PG_result [.ref 61, .int (nI i)] M (fun r M' => r = some (.int (nI (gd lo i).toNat)) ∧ M' = M) := by
  have hlo := hou.2.le
  refine CT.of (by decide) (Nat.le_of_ble_eq_true rfl) ?_
  show TT G mi_PG_result 0 [(0, .ref 61), (1, .int (nI i))] [] M 0 0 _
  refine T_aload_n (v := .ref 61) d_PG_result_0 rfl (Or.inr ⟨_, rfl⟩) ?_
  refine T_getfield (v := .ref 371) d_PG_result_1 fg_PG_46 hgo.1 rfl ?_
  refine T_iload_n d_PG_result_4 rfl ?_
  refine T_virtual (as := [.int (nI i)]) (rest := []) (b := 371) d_PG_result_5 rfl (jw_By_has.jo (by decide)) lm_PG_119 ji_By_has js_By_has hou.1 rfl rfl rfl (Nat.le_of_ble_eq_true rfl) (by decide) (by decide) (y_By_has_in hou hi (by decide)) (fun r M_1 hq => ?_)
  obtain ⟨rfl, he⟩ := hq
  obtain rfl := he.symm
  refine T_eq (pc' := 8) (L' := [(0, .ref 61), (1, .int (nI i))]) (st' := [.int (nI 1)]) (M' := M) rfl rfl rfl rfl ?_
  refine N_if_ne_t (b := 1) d_PG_result_8 (tgt := 19) rfl (by omega) (by omega) ?_
  refine T_aload_n (v := .ref 61) d_PG_result_19 rfl (Or.inr ⟨_, rfl⟩) ?_
  refine T_getfield (v := .ref 371) d_PG_result_20 fg_PG_46 hgo.1 rfl ?_
  refine T_getfield (v := .ref 372) d_PG_result_23 fg_PG_93 hou.1 rfl ?_
  refine T_iload_n d_PG_result_26 rfl ?_
  obtain ⟨f_2, hf_3, hl_4, hv_5⟩ := id hou.2
  refine N_baload (k := i) (x := (cB (gd lo i))) d_PG_result_27 hf_3 (by omega) (by decide) (hv_5 i (by first | omega | (simp only [List.length_append, List.length_cons, List.length_nil, List.length_replicate, sl_len, be_len, sha_len, xk_len, hmac_len, ex1_len, ex2_len, tag1_len, tC_len, stretch_len, chance_len, enc_len, pub_len, lbN_len, lbF_len, zer8_len, W0_len, W1_len, W2_len, W3_len, W4_len, W5_len, W6_len, W7_len, W8_len, W9_len, W10_len, W11_len, W12_len, W13_len, W14_len, W15_len, W16_len, W17_len, W18_len, W19_len, W20_len, W21_len, sec8_len, seal8_len, xr_len, pre8_len, xSess_len, xSrv_len, xCli_len]; omega))) ?_
  refine T_sipush (v := nI 255) d_PG_result_28 (by decide) ?_
  refine T_iand d_PG_result_31 ?_
  exact T_ret d_PG_result_32 rfl rfl (by decide) (by decide) ⟨by rw [cB_255], rfl⟩
set_option maxHeartbeats 8000000 in
theorem y_PG_isOnWire_sneg {G : GX} {M : List va_E} {x y z : Int32} (hx : x < 0)  : CT G mi_PG_isOnWire [.ref 61, .int x, .int y, .int z] M (fun r M' => r = some (.int (nI 0)) ∧ M' = M) := by
  refine CT.of (by decide) (Nat.le_of_ble_eq_true rfl) ?_
  show TT G mi_PG_isOnWire 0 [(0, .ref 61), (1, .int x), (2, .int y), (3, .int z)] [] M 0 0 _
  refine T_iload_n d_PG_isOnWire_0 rfl ?_
  refine T_static (as := [.int x]) (rest := []) d_PG_isOnWire_1 rfl (jw_PG_isSession.jo (by decide)) lm_PG_133 jt_PG_isSession rfl (Nat.le_of_ble_eq_true rfl) (by decide) (by decide) (y_PG_isSession_neg hx) (fun r M_1 hq => ?_)
  obtain ⟨rfl, he⟩ := hq
  obtain rfl := he.symm
  refine T_eq (pc' := 4) (L' := [(0, .ref 61), (1, .int x), (2, .int y), (3, .int z)]) (st' := [.int (nI 0)]) (M' := M) rfl rfl rfl rfl ?_
  refine N_if_eq_t (b := 0) d_PG_isOnWire_4 (tgt := 41) rfl (by omega) (by omega) ?_
  refine T_iconst (v := nI 0) d_PG_isOnWire_41 (by decide) ?_
  exact T_ret d_PG_isOnWire_42 rfl rfl (by decide) (by decide) ⟨rfl, rfl⟩
set_option maxHeartbeats 8000000 in
theorem y_PG_isOnWire_sbig {G : GX} {M : List va_E} {x y z : Int32} (h0 : ¬ x < 0) (hx : nI 4 ≤ x)  : CT G mi_PG_isOnWire [.ref 61, .int x, .int y, .int z] M (fun r M' => r = some (.int (nI 0)) ∧ M' = M) := by
  refine CT.of (by decide) (Nat.le_of_ble_eq_true rfl) ?_
  show TT G mi_PG_isOnWire 0 [(0, .ref 61), (1, .int x), (2, .int y), (3, .int z)] [] M 0 0 _
  refine T_iload_n d_PG_isOnWire_0 rfl ?_
  refine T_static (as := [.int x]) (rest := []) d_PG_isOnWire_1 rfl (jw_PG_isSession.jo (by decide)) lm_PG_133 jt_PG_isSession rfl (Nat.le_of_ble_eq_true rfl) (by decide) (by decide) (y_PG_isSession_big h0 hx) (fun r M_1 hq => ?_)
  obtain ⟨rfl, he⟩ := hq
  obtain rfl := he.symm
  refine T_eq (pc' := 4) (L' := [(0, .ref 61), (1, .int x), (2, .int y), (3, .int z)]) (st' := [.int (nI 0)]) (M' := M) rfl rfl rfl rfl ?_
  refine N_if_eq_t (b := 0) d_PG_isOnWire_4 (tgt := 41) rfl (by omega) (by omega) ?_
  refine T_iconst (v := nI 0) d_PG_isOnWire_41 (by decide) ?_
  exact T_ret d_PG_isOnWire_42 rfl rfl (by decide) (by decide) ⟨rfl, rfl⟩
set_option maxHeartbeats 8000000 in
theorem y_PG_isOnWire_mlt {G : GX} {M : List va_E} {s : Nat} {y z : Int32} (hs : s < 4) (hy : y < nI 1)  : CT G mi_PG_isOnWire [.ref 61, .int (nI s), .int y, .int z] M (fun r M' => r = some (.int (nI 0)) ∧ M' = M) := by
  refine CT.of (by decide) (Nat.le_of_ble_eq_true rfl) ?_
  show TT G mi_PG_isOnWire 0 [(0, .ref 61), (1, .int (nI s)), (2, .int y), (3, .int z)] [] M 0 0 _
  refine T_iload_n d_PG_isOnWire_0 rfl ?_
  refine T_static (as := [.int (nI s)]) (rest := []) d_PG_isOnWire_1 rfl (jw_PG_isSession.jo (by decide)) lm_PG_133 jt_PG_isSession rfl (Nat.le_of_ble_eq_true rfl) (by decide) (by decide) (y_PG_isSession_in hs) (fun r M_1 hq => ?_)
  obtain ⟨rfl, he⟩ := hq
  obtain rfl := he.symm
  refine T_eq (pc' := 4) (L' := [(0, .ref 61), (1, .int (nI s)), (2, .int y), (3, .int z)]) (st' := [.int (nI 1)]) (M' := M) rfl rfl rfl rfl ?_
  refine N_if_eq_f (b := 1) d_PG_isOnWire_4 (tgt := 41) rfl (by omega) (by omega) ?_
  refine T_iload_n d_PG_isOnWire_7 rfl ?_
  refine T_iconst (v := nI 1) d_PG_isOnWire_8 (by decide) ?_
  refine T_icmp_lt d_PG_isOnWire_9 (tgt := 41) rfl (fun _ => ?_) (fun c => absurd hy c)
  refine T_iconst (v := nI 0) d_PG_isOnWire_41 (by decide) ?_
  exact T_ret d_PG_isOnWire_42 rfl rfl (by decide) (by decide) ⟨rfl, rfl⟩
set_option maxHeartbeats 8000000 in
theorem y_PG_isOnWire_mgt {G : GX} {M : List va_E} {s : Nat} {y z : Int32} (hs : s < 4) (h1 : ¬ y < nI 1) (hy : nI 3 < y)  : CT G mi_PG_isOnWire [.ref 61, .int (nI s), .int y, .int z] M (fun r M' => r = some (.int (nI 0)) ∧ M' = M) := by
  refine CT.of (by decide) (Nat.le_of_ble_eq_true rfl) ?_
  show TT G mi_PG_isOnWire 0 [(0, .ref 61), (1, .int (nI s)), (2, .int y), (3, .int z)] [] M 0 0 _
  refine T_iload_n d_PG_isOnWire_0 rfl ?_
  refine T_static (as := [.int (nI s)]) (rest := []) d_PG_isOnWire_1 rfl (jw_PG_isSession.jo (by decide)) lm_PG_133 jt_PG_isSession rfl (Nat.le_of_ble_eq_true rfl) (by decide) (by decide) (y_PG_isSession_in hs) (fun r M_1 hq => ?_)
  obtain ⟨rfl, he⟩ := hq
  obtain rfl := he.symm
  refine T_eq (pc' := 4) (L' := [(0, .ref 61), (1, .int (nI s)), (2, .int y), (3, .int z)]) (st' := [.int (nI 1)]) (M' := M) rfl rfl rfl rfl ?_
  refine N_if_eq_f (b := 1) d_PG_isOnWire_4 (tgt := 41) rfl (by omega) (by omega) ?_
  refine T_iload_n d_PG_isOnWire_7 rfl ?_
  refine T_iconst (v := nI 1) d_PG_isOnWire_8 (by decide) ?_
  refine T_icmp_lt d_PG_isOnWire_9 (tgt := 41) rfl (fun c => absurd c h1) (fun _ => ?_)
  refine T_iload_n d_PG_isOnWire_12 rfl ?_
  refine T_iconst (v := nI 3) d_PG_isOnWire_13 (by decide) ?_
  refine T_icmp_gt d_PG_isOnWire_14 (tgt := 41) rfl (fun _ => ?_) (fun c => absurd hy c)
  refine T_iconst (v := nI 0) d_PG_isOnWire_41 (by decide) ?_
  exact T_ret d_PG_isOnWire_42 rfl rfl (by decide) (by decide) ⟨rfl, rfl⟩
set_option maxHeartbeats 8000000 in
theorem y_PG_isOnWire_1_in {G : GX} {M : List va_E} {s us b x : Nat} {t : Nat → Bool} {C : List (List UInt8)} {i : Nat} (hs : s < 4) (hi : i < (cg C 0).length) (hgo : GO M 61 264) (hse : SES M s us t C b x) : CT G mi_PG_isOnWire [.ref 61, .int (nI s), .int (nI 1), .int (nI i)] M (fun r M' => r = some (.int (nI 1)) ∧ M' = M) := by
  obtain ⟨ea0, ea1, ea2, ea3, ea4, ea5, ea6, ea7, ea8, ea9, ea10, ea11, ⟨el12, ea12⟩, ea13, ea14⟩ := id hse
  have l1 := ea1.2.le
  have l2 := ea2.2.le
  have l3 := ea3.2.le
  refine CT.of (by decide) (Nat.le_of_ble_eq_true rfl) ?_
  show TT G mi_PG_isOnWire 0 [(0, .ref 61), (1, .int (nI s)), (2, .int (nI 1)), (3, .int (nI i))] [] M 0 0 _
  refine T_iload_n d_PG_isOnWire_0 rfl ?_
  refine T_static (as := [.int (nI s)]) (rest := []) d_PG_isOnWire_1 rfl (jw_PG_isSession.jo (by decide)) lm_PG_133 jt_PG_isSession rfl (Nat.le_of_ble_eq_true rfl) (by decide) (by decide) (y_PG_isSession_in hs) (fun r M_1 hq => ?_)
  obtain ⟨rfl, he⟩ := hq
  obtain rfl := he.symm
  refine T_eq (pc' := 4) (L' := [(0, .ref 61), (1, .int (nI s)), (2, .int (nI 1)), (3, .int (nI i))]) (st' := [.int (nI 1)]) (M' := M) rfl rfl rfl rfl ?_
  refine N_if_eq_f (b := 1) d_PG_isOnWire_4 (tgt := 41) rfl (by omega) (by omega) ?_
  refine T_iload_n d_PG_isOnWire_7 rfl ?_
  refine T_iconst (v := nI 1) d_PG_isOnWire_8 (by decide) ?_
  refine N_icmp_lt_f (a := 1) (b := 1) d_PG_isOnWire_9 (tgt := 41) rfl (by omega) (by omega) (by omega) ?_
  refine T_iload_n d_PG_isOnWire_12 rfl ?_
  refine T_iconst (v := nI 3) d_PG_isOnWire_13 (by decide) ?_
  refine N_icmp_gt_f (a := 3) (b := 1) d_PG_isOnWire_14 (tgt := 41) rfl (by omega) (by omega) (by omega) ?_
  refine T_aload_n (v := .ref 61) d_PG_isOnWire_17 rfl (Or.inr ⟨_, rfl⟩) ?_
  refine T_getfield (v := .ref 264) d_PG_isOnWire_18 fg_PG_34 hgo.1 rfl ?_
  refine T_iload_n d_PG_isOnWire_21 rfl ?_
  refine N_aaload (k := s) (p := (265 + 26 * s)) (C0 := "PasswordGate$Session") d_PG_isOnWire_22 (by decide) hgo.2 rfl (by omega) (by decide) (if_pos hs) ?_
  refine T_getfield (v := .ref (266 + 26 * s)) d_PG_isOnWire_23 fg_PG_158 ea0.1 rfl ?_
  refine T_iload_n d_PG_isOnWire_26 rfl ?_
  refine T_iconst (v := nI 1) d_PG_isOnWire_27 (by decide) ?_
  refine N_isub (a := 1) (b := 1) (c := 0) d_PG_isOnWire_28 (by omega) rfl ?_
  refine N_aaload (k := 0) (p := (279 + 26 * s)) (C0 := "PasswordGate$Bytes") d_PG_isOnWire_29 ((by decide : ∀ s, s < 4 → K0 ≤ (266 + 26 * s)) s hs) ea0.2.1 rfl (by omega) (by decide) rfl ?_
  refine T_iload_n d_PG_isOnWire_30 rfl ?_
  refine T_virtual (as := [.int (nI i)]) (rest := []) (b := (279 + 26 * s)) d_PG_isOnWire_31 rfl (jw_By_has.jo (by decide)) lm_PG_119 ji_By_has js_By_has ea1.1 rfl rfl rfl (Nat.le_of_ble_eq_true rfl) (by decide) (by decide) (y_By_has_in ea1 hi (by decide)) (fun r M_2 hq => ?_)
  obtain ⟨rfl, he⟩ := hq
  obtain rfl := he.symm
  refine T_eq (pc' := 34) (L' := [(0, .ref 61), (1, .int (nI s)), (2, .int (nI 1)), (3, .int (nI i))]) (st' := [.int (nI 1)]) (M' := M) rfl rfl rfl rfl ?_
  refine N_if_eq_f (b := 1) d_PG_isOnWire_34 (tgt := 41) rfl (by omega) (by omega) ?_
  refine T_iconst (v := nI 1) d_PG_isOnWire_37 (by decide) ?_
  refine T_goto (tgt := 42) d_PG_isOnWire_38 rfl ?_
  exact T_ret d_PG_isOnWire_42 rfl rfl (by decide) (by decide) ⟨rfl, rfl⟩
set_option maxHeartbeats 8000000 in
theorem y_PG_isOnWire_1_out {G : GX} {M : List va_E} {s us b x : Nat} {t : Nat → Bool} {C : List (List UInt8)} {i : Nat} (hs : s < 4) (hi : (cg C 0).length ≤ i) (hi2 : i < 2147483648) (hgo : GO M 61 264) (hse : SES M s us t C b x) : CT G mi_PG_isOnWire [.ref 61, .int (nI s), .int (nI 1), .int (nI i)] M (fun r M' => r = some (.int (nI 0)) ∧ M' = M) := by
  obtain ⟨ea0, ea1, ea2, ea3, ea4, ea5, ea6, ea7, ea8, ea9, ea10, ea11, ⟨el12, ea12⟩, ea13, ea14⟩ := id hse
  have l1 := ea1.2.le
  have l2 := ea2.2.le
  have l3 := ea3.2.le
  refine CT.of (by decide) (Nat.le_of_ble_eq_true rfl) ?_
  show TT G mi_PG_isOnWire 0 [(0, .ref 61), (1, .int (nI s)), (2, .int (nI 1)), (3, .int (nI i))] [] M 0 0 _
  refine T_iload_n d_PG_isOnWire_0 rfl ?_
  refine T_static (as := [.int (nI s)]) (rest := []) d_PG_isOnWire_1 rfl (jw_PG_isSession.jo (by decide)) lm_PG_133 jt_PG_isSession rfl (Nat.le_of_ble_eq_true rfl) (by decide) (by decide) (y_PG_isSession_in hs) (fun r M_1 hq => ?_)
  obtain ⟨rfl, he⟩ := hq
  obtain rfl := he.symm
  refine T_eq (pc' := 4) (L' := [(0, .ref 61), (1, .int (nI s)), (2, .int (nI 1)), (3, .int (nI i))]) (st' := [.int (nI 1)]) (M' := M) rfl rfl rfl rfl ?_
  refine N_if_eq_f (b := 1) d_PG_isOnWire_4 (tgt := 41) rfl (by omega) (by omega) ?_
  refine T_iload_n d_PG_isOnWire_7 rfl ?_
  refine T_iconst (v := nI 1) d_PG_isOnWire_8 (by decide) ?_
  refine N_icmp_lt_f (a := 1) (b := 1) d_PG_isOnWire_9 (tgt := 41) rfl (by omega) (by omega) (by omega) ?_
  refine T_iload_n d_PG_isOnWire_12 rfl ?_
  refine T_iconst (v := nI 3) d_PG_isOnWire_13 (by decide) ?_
  refine N_icmp_gt_f (a := 3) (b := 1) d_PG_isOnWire_14 (tgt := 41) rfl (by omega) (by omega) (by omega) ?_
  refine T_aload_n (v := .ref 61) d_PG_isOnWire_17 rfl (Or.inr ⟨_, rfl⟩) ?_
  refine T_getfield (v := .ref 264) d_PG_isOnWire_18 fg_PG_34 hgo.1 rfl ?_
  refine T_iload_n d_PG_isOnWire_21 rfl ?_
  refine N_aaload (k := s) (p := (265 + 26 * s)) (C0 := "PasswordGate$Session") d_PG_isOnWire_22 (by decide) hgo.2 rfl (by omega) (by decide) (if_pos hs) ?_
  refine T_getfield (v := .ref (266 + 26 * s)) d_PG_isOnWire_23 fg_PG_158 ea0.1 rfl ?_
  refine T_iload_n d_PG_isOnWire_26 rfl ?_
  refine T_iconst (v := nI 1) d_PG_isOnWire_27 (by decide) ?_
  refine N_isub (a := 1) (b := 1) (c := 0) d_PG_isOnWire_28 (by omega) rfl ?_
  refine N_aaload (k := 0) (p := (279 + 26 * s)) (C0 := "PasswordGate$Bytes") d_PG_isOnWire_29 ((by decide : ∀ s, s < 4 → K0 ≤ (266 + 26 * s)) s hs) ea0.2.1 rfl (by omega) (by decide) rfl ?_
  refine T_iload_n d_PG_isOnWire_30 rfl ?_
  refine T_virtual (as := [.int (nI i)]) (rest := []) (b := (279 + 26 * s)) d_PG_isOnWire_31 rfl (jw_By_has.jo (by decide)) lm_PG_119 ji_By_has js_By_has ea1.1 rfl rfl rfl (Nat.le_of_ble_eq_true rfl) (by decide) (by decide) (y_By_has_out ea1 hi hi2 (by decide)) (fun r M_2 hq => ?_)
  obtain ⟨rfl, he⟩ := hq
  obtain rfl := he.symm
  refine T_eq (pc' := 34) (L' := [(0, .ref 61), (1, .int (nI s)), (2, .int (nI 1)), (3, .int (nI i))]) (st' := [.int (nI 0)]) (M' := M) rfl rfl rfl rfl ?_
  refine N_if_eq_t (b := 0) d_PG_isOnWire_34 (tgt := 41) rfl (by omega) (by omega) ?_
  refine T_iconst (v := nI 0) d_PG_isOnWire_41 (by decide) ?_
  exact T_ret d_PG_isOnWire_42 rfl rfl (by decide) (by decide) ⟨rfl, rfl⟩
set_option maxHeartbeats 8000000 in
theorem y_PG_isOnWire_1_neg {G : GX} {M : List va_E} {s us b x : Nat} {t : Nat → Bool} {C : List (List UInt8)} {z : Int32} (hs : s < 4) (hx : z < 0) (hgo : GO M 61 264) (hse : SES M s us t C b x) : CT G mi_PG_isOnWire [.ref 61, .int (nI s), .int (nI 1), .int z] M (fun r M' => r = some (.int (nI 0)) ∧ M' = M) := by
  obtain ⟨ea0, ea1, ea2, ea3, ea4, ea5, ea6, ea7, ea8, ea9, ea10, ea11, ⟨el12, ea12⟩, ea13, ea14⟩ := id hse
  have l1 := ea1.2.le
  have l2 := ea2.2.le
  have l3 := ea3.2.le
  refine CT.of (by decide) (Nat.le_of_ble_eq_true rfl) ?_
  show TT G mi_PG_isOnWire 0 [(0, .ref 61), (1, .int (nI s)), (2, .int (nI 1)), (3, .int z)] [] M 0 0 _
  refine T_iload_n d_PG_isOnWire_0 rfl ?_
  refine T_static (as := [.int (nI s)]) (rest := []) d_PG_isOnWire_1 rfl (jw_PG_isSession.jo (by decide)) lm_PG_133 jt_PG_isSession rfl (Nat.le_of_ble_eq_true rfl) (by decide) (by decide) (y_PG_isSession_in hs) (fun r M_1 hq => ?_)
  obtain ⟨rfl, he⟩ := hq
  obtain rfl := he.symm
  refine T_eq (pc' := 4) (L' := [(0, .ref 61), (1, .int (nI s)), (2, .int (nI 1)), (3, .int z)]) (st' := [.int (nI 1)]) (M' := M) rfl rfl rfl rfl ?_
  refine N_if_eq_f (b := 1) d_PG_isOnWire_4 (tgt := 41) rfl (by omega) (by omega) ?_
  refine T_iload_n d_PG_isOnWire_7 rfl ?_
  refine T_iconst (v := nI 1) d_PG_isOnWire_8 (by decide) ?_
  refine N_icmp_lt_f (a := 1) (b := 1) d_PG_isOnWire_9 (tgt := 41) rfl (by omega) (by omega) (by omega) ?_
  refine T_iload_n d_PG_isOnWire_12 rfl ?_
  refine T_iconst (v := nI 3) d_PG_isOnWire_13 (by decide) ?_
  refine N_icmp_gt_f (a := 3) (b := 1) d_PG_isOnWire_14 (tgt := 41) rfl (by omega) (by omega) (by omega) ?_
  refine T_aload_n (v := .ref 61) d_PG_isOnWire_17 rfl (Or.inr ⟨_, rfl⟩) ?_
  refine T_getfield (v := .ref 264) d_PG_isOnWire_18 fg_PG_34 hgo.1 rfl ?_
  refine T_iload_n d_PG_isOnWire_21 rfl ?_
  refine N_aaload (k := s) (p := (265 + 26 * s)) (C0 := "PasswordGate$Session") d_PG_isOnWire_22 (by decide) hgo.2 rfl (by omega) (by decide) (if_pos hs) ?_
  refine T_getfield (v := .ref (266 + 26 * s)) d_PG_isOnWire_23 fg_PG_158 ea0.1 rfl ?_
  refine T_iload_n d_PG_isOnWire_26 rfl ?_
  refine T_iconst (v := nI 1) d_PG_isOnWire_27 (by decide) ?_
  refine N_isub (a := 1) (b := 1) (c := 0) d_PG_isOnWire_28 (by omega) rfl ?_
  refine N_aaload (k := 0) (p := (279 + 26 * s)) (C0 := "PasswordGate$Bytes") d_PG_isOnWire_29 ((by decide : ∀ s, s < 4 → K0 ≤ (266 + 26 * s)) s hs) ea0.2.1 rfl (by omega) (by decide) rfl ?_
  refine T_iload_n d_PG_isOnWire_30 rfl ?_
  refine T_virtual (as := [.int z]) (rest := []) (b := (279 + 26 * s)) d_PG_isOnWire_31 rfl (jw_By_has.jo (by decide)) lm_PG_119 ji_By_has js_By_has ea1.1 rfl rfl rfl (Nat.le_of_ble_eq_true rfl) (by decide) (by decide) (y_By_has_neg ea1 hx) (fun r M_2 hq => ?_)
  obtain ⟨rfl, he⟩ := hq
  obtain rfl := he.symm
  refine T_eq (pc' := 34) (L' := [(0, .ref 61), (1, .int (nI s)), (2, .int (nI 1)), (3, .int z)]) (st' := [.int (nI 0)]) (M' := M) rfl rfl rfl rfl ?_
  refine N_if_eq_t (b := 0) d_PG_isOnWire_34 (tgt := 41) rfl (by omega) (by omega) ?_
  refine T_iconst (v := nI 0) d_PG_isOnWire_41 (by decide) ?_
  exact T_ret d_PG_isOnWire_42 rfl rfl (by decide) (by decide) ⟨rfl, rfl⟩
set_option maxHeartbeats 8000000 in
theorem y_PG_isOnWire_2_in {G : GX} {M : List va_E} {s us b x : Nat} {t : Nat → Bool} {C : List (List UInt8)} {i : Nat} (hs : s < 4) (hi : i < (cg C 1).length) (hgo : GO M 61 264) (hse : SES M s us t C b x) : CT G mi_PG_isOnWire [.ref 61, .int (nI s), .int (nI 2), .int (nI i)] M (fun r M' => r = some (.int (nI 1)) ∧ M' = M) := by
  obtain ⟨ea0, ea1, ea2, ea3, ea4, ea5, ea6, ea7, ea8, ea9, ea10, ea11, ⟨el12, ea12⟩, ea13, ea14⟩ := id hse
  have l1 := ea1.2.le
  have l2 := ea2.2.le
  have l3 := ea3.2.le
  refine CT.of (by decide) (Nat.le_of_ble_eq_true rfl) ?_
  show TT G mi_PG_isOnWire 0 [(0, .ref 61), (1, .int (nI s)), (2, .int (nI 2)), (3, .int (nI i))] [] M 0 0 _
  refine T_iload_n d_PG_isOnWire_0 rfl ?_
  refine T_static (as := [.int (nI s)]) (rest := []) d_PG_isOnWire_1 rfl (jw_PG_isSession.jo (by decide)) lm_PG_133 jt_PG_isSession rfl (Nat.le_of_ble_eq_true rfl) (by decide) (by decide) (y_PG_isSession_in hs) (fun r M_1 hq => ?_)
  obtain ⟨rfl, he⟩ := hq
  obtain rfl := he.symm
  refine T_eq (pc' := 4) (L' := [(0, .ref 61), (1, .int (nI s)), (2, .int (nI 2)), (3, .int (nI i))]) (st' := [.int (nI 1)]) (M' := M) rfl rfl rfl rfl ?_
  refine N_if_eq_f (b := 1) d_PG_isOnWire_4 (tgt := 41) rfl (by omega) (by omega) ?_
  refine T_iload_n d_PG_isOnWire_7 rfl ?_
  refine T_iconst (v := nI 1) d_PG_isOnWire_8 (by decide) ?_
  refine N_icmp_lt_f (a := 1) (b := 2) d_PG_isOnWire_9 (tgt := 41) rfl (by omega) (by omega) (by omega) ?_
  refine T_iload_n d_PG_isOnWire_12 rfl ?_
  refine T_iconst (v := nI 3) d_PG_isOnWire_13 (by decide) ?_
  refine N_icmp_gt_f (a := 3) (b := 2) d_PG_isOnWire_14 (tgt := 41) rfl (by omega) (by omega) (by omega) ?_
  refine T_aload_n (v := .ref 61) d_PG_isOnWire_17 rfl (Or.inr ⟨_, rfl⟩) ?_
  refine T_getfield (v := .ref 264) d_PG_isOnWire_18 fg_PG_34 hgo.1 rfl ?_
  refine T_iload_n d_PG_isOnWire_21 rfl ?_
  refine N_aaload (k := s) (p := (265 + 26 * s)) (C0 := "PasswordGate$Session") d_PG_isOnWire_22 (by decide) hgo.2 rfl (by omega) (by decide) (if_pos hs) ?_
  refine T_getfield (v := .ref (266 + 26 * s)) d_PG_isOnWire_23 fg_PG_158 ea0.1 rfl ?_
  refine T_iload_n d_PG_isOnWire_26 rfl ?_
  refine T_iconst (v := nI 1) d_PG_isOnWire_27 (by decide) ?_
  refine N_isub (a := 1) (b := 2) (c := 1) d_PG_isOnWire_28 (by omega) rfl ?_
  refine N_aaload (k := 1) (p := (281 + 26 * s)) (C0 := "PasswordGate$Bytes") d_PG_isOnWire_29 ((by decide : ∀ s, s < 4 → K0 ≤ (266 + 26 * s)) s hs) ea0.2.1 rfl (by omega) (by decide) rfl ?_
  refine T_iload_n d_PG_isOnWire_30 rfl ?_
  refine T_virtual (as := [.int (nI i)]) (rest := []) (b := (281 + 26 * s)) d_PG_isOnWire_31 rfl (jw_By_has.jo (by decide)) lm_PG_119 ji_By_has js_By_has ea2.1 rfl rfl rfl (Nat.le_of_ble_eq_true rfl) (by decide) (by decide) (y_By_has_in ea2 hi (by decide)) (fun r M_2 hq => ?_)
  obtain ⟨rfl, he⟩ := hq
  obtain rfl := he.symm
  refine T_eq (pc' := 34) (L' := [(0, .ref 61), (1, .int (nI s)), (2, .int (nI 2)), (3, .int (nI i))]) (st' := [.int (nI 1)]) (M' := M) rfl rfl rfl rfl ?_
  refine N_if_eq_f (b := 1) d_PG_isOnWire_34 (tgt := 41) rfl (by omega) (by omega) ?_
  refine T_iconst (v := nI 1) d_PG_isOnWire_37 (by decide) ?_
  refine T_goto (tgt := 42) d_PG_isOnWire_38 rfl ?_
  exact T_ret d_PG_isOnWire_42 rfl rfl (by decide) (by decide) ⟨rfl, rfl⟩
set_option maxHeartbeats 8000000 in
theorem y_PG_isOnWire_2_out {G : GX} {M : List va_E} {s us b x : Nat} {t : Nat → Bool} {C : List (List UInt8)} {i : Nat} (hs : s < 4) (hi : (cg C 1).length ≤ i) (hi2 : i < 2147483648) (hgo : GO M 61 264) (hse : SES M s us t C b x) : CT G mi_PG_isOnWire [.ref 61, .int (nI s), .int (nI 2), .int (nI i)] M (fun r M' => r = some (.int (nI 0)) ∧ M' = M) := by
  obtain ⟨ea0, ea1, ea2, ea3, ea4, ea5, ea6, ea7, ea8, ea9, ea10, ea11, ⟨el12, ea12⟩, ea13, ea14⟩ := id hse
  have l1 := ea1.2.le
  have l2 := ea2.2.le
  have l3 := ea3.2.le
  refine CT.of (by decide) (Nat.le_of_ble_eq_true rfl) ?_
  show TT G mi_PG_isOnWire 0 [(0, .ref 61), (1, .int (nI s)), (2, .int (nI 2)), (3, .int (nI i))] [] M 0 0 _
  refine T_iload_n d_PG_isOnWire_0 rfl ?_
  refine T_static (as := [.int (nI s)]) (rest := []) d_PG_isOnWire_1 rfl (jw_PG_isSession.jo (by decide)) lm_PG_133 jt_PG_isSession rfl (Nat.le_of_ble_eq_true rfl) (by decide) (by decide) (y_PG_isSession_in hs) (fun r M_1 hq => ?_)
  obtain ⟨rfl, he⟩ := hq
  obtain rfl := he.symm
  refine T_eq (pc' := 4) (L' := [(0, .ref 61), (1, .int (nI s)), (2, .int (nI 2)), (3, .int (nI i))]) (st' := [.int (nI 1)]) (M' := M) rfl rfl rfl rfl ?_
  refine N_if_eq_f (b := 1) d_PG_isOnWire_4 (tgt := 41) rfl (by omega) (by omega) ?_
  refine T_iload_n d_PG_isOnWire_7 rfl ?_
  refine T_iconst (v := nI 1) d_PG_isOnWire_8 (by decide) ?_
  refine N_icmp_lt_f (a := 1) (b := 2) d_PG_isOnWire_9 (tgt := 41) rfl (by omega) (by omega) (by omega) ?_
  refine T_iload_n d_PG_isOnWire_12 rfl ?_
  refine T_iconst (v := nI 3) d_PG_isOnWire_13 (by decide) ?_
  refine N_icmp_gt_f (a := 3) (b := 2) d_PG_isOnWire_14 (tgt := 41) rfl (by omega) (by omega) (by omega) ?_
  refine T_aload_n (v := .ref 61) d_PG_isOnWire_17 rfl (Or.inr ⟨_, rfl⟩) ?_
  refine T_getfield (v := .ref 264) d_PG_isOnWire_18 fg_PG_34 hgo.1 rfl ?_
  refine T_iload_n d_PG_isOnWire_21 rfl ?_
  refine N_aaload (k := s) (p := (265 + 26 * s)) (C0 := "PasswordGate$Session") d_PG_isOnWire_22 (by decide) hgo.2 rfl (by omega) (by decide) (if_pos hs) ?_
  refine T_getfield (v := .ref (266 + 26 * s)) d_PG_isOnWire_23 fg_PG_158 ea0.1 rfl ?_
  refine T_iload_n d_PG_isOnWire_26 rfl ?_
  refine T_iconst (v := nI 1) d_PG_isOnWire_27 (by decide) ?_
  refine N_isub (a := 1) (b := 2) (c := 1) d_PG_isOnWire_28 (by omega) rfl ?_
  refine N_aaload (k := 1) (p := (281 + 26 * s)) (C0 := "PasswordGate$Bytes") d_PG_isOnWire_29 ((by decide : ∀ s, s < 4 → K0 ≤ (266 + 26 * s)) s hs) ea0.2.1 rfl (by omega) (by decide) rfl ?_
  refine T_iload_n d_PG_isOnWire_30 rfl ?_
  refine T_virtual (as := [.int (nI i)]) (rest := []) (b := (281 + 26 * s)) d_PG_isOnWire_31 rfl (jw_By_has.jo (by decide)) lm_PG_119 ji_By_has js_By_has ea2.1 rfl rfl rfl (Nat.le_of_ble_eq_true rfl) (by decide) (by decide) (y_By_has_out ea2 hi hi2 (by decide)) (fun r M_2 hq => ?_)
  obtain ⟨rfl, he⟩ := hq
  obtain rfl := he.symm
  refine T_eq (pc' := 34) (L' := [(0, .ref 61), (1, .int (nI s)), (2, .int (nI 2)), (3, .int (nI i))]) (st' := [.int (nI 0)]) (M' := M) rfl rfl rfl rfl ?_
  refine N_if_eq_t (b := 0) d_PG_isOnWire_34 (tgt := 41) rfl (by omega) (by omega) ?_
  refine T_iconst (v := nI 0) d_PG_isOnWire_41 (by decide) ?_
  exact T_ret d_PG_isOnWire_42 rfl rfl (by decide) (by decide) ⟨rfl, rfl⟩
set_option maxHeartbeats 8000000 in
theorem y_PG_isOnWire_2_neg {G : GX} {M : List va_E} {s us b x : Nat} {t : Nat → Bool} {C : List (List UInt8)} {z : Int32} (hs : s < 4) (hx : z < 0) (hgo : GO M 61 264) (hse : SES M s us t C b x) : CT G mi_PG_isOnWire [.ref 61, .int (nI s), .int (nI 2), .int z] M (fun r M' => r = some (.int (nI 0)) ∧ M' = M) := by
  obtain ⟨ea0, ea1, ea2, ea3, ea4, ea5, ea6, ea7, ea8, ea9, ea10, ea11, ⟨el12, ea12⟩, ea13, ea14⟩ := id hse
  have l1 := ea1.2.le
  have l2 := ea2.2.le
  have l3 := ea3.2.le
  refine CT.of (by decide) (Nat.le_of_ble_eq_true rfl) ?_
  show TT G mi_PG_isOnWire 0 [(0, .ref 61), (1, .int (nI s)), (2, .int (nI 2)), (3, .int z)] [] M 0 0 _
  refine T_iload_n d_PG_isOnWire_0 rfl ?_
  refine T_static (as := [.int (nI s)]) (rest := []) d_PG_isOnWire_1 rfl (jw_PG_isSession.jo (by decide)) lm_PG_133 jt_PG_isSession rfl (Nat.le_of_ble_eq_true rfl) (by decide) (by decide) (y_PG_isSession_in hs) (fun r M_1 hq => ?_)
  obtain ⟨rfl, he⟩ := hq
  obtain rfl := he.symm
  refine T_eq (pc' := 4) (L' := [(0, .ref 61), (1, .int (nI s)), (2, .int (nI 2)), (3, .int z)]) (st' := [.int (nI 1)]) (M' := M) rfl rfl rfl rfl ?_
  refine N_if_eq_f (b := 1) d_PG_isOnWire_4 (tgt := 41) rfl (by omega) (by omega) ?_
  refine T_iload_n d_PG_isOnWire_7 rfl ?_
  refine T_iconst (v := nI 1) d_PG_isOnWire_8 (by decide) ?_
  refine N_icmp_lt_f (a := 1) (b := 2) d_PG_isOnWire_9 (tgt := 41) rfl (by omega) (by omega) (by omega) ?_
  refine T_iload_n d_PG_isOnWire_12 rfl ?_
  refine T_iconst (v := nI 3) d_PG_isOnWire_13 (by decide) ?_
  refine N_icmp_gt_f (a := 3) (b := 2) d_PG_isOnWire_14 (tgt := 41) rfl (by omega) (by omega) (by omega) ?_
  refine T_aload_n (v := .ref 61) d_PG_isOnWire_17 rfl (Or.inr ⟨_, rfl⟩) ?_
  refine T_getfield (v := .ref 264) d_PG_isOnWire_18 fg_PG_34 hgo.1 rfl ?_
  refine T_iload_n d_PG_isOnWire_21 rfl ?_
  refine N_aaload (k := s) (p := (265 + 26 * s)) (C0 := "PasswordGate$Session") d_PG_isOnWire_22 (by decide) hgo.2 rfl (by omega) (by decide) (if_pos hs) ?_
  refine T_getfield (v := .ref (266 + 26 * s)) d_PG_isOnWire_23 fg_PG_158 ea0.1 rfl ?_
  refine T_iload_n d_PG_isOnWire_26 rfl ?_
  refine T_iconst (v := nI 1) d_PG_isOnWire_27 (by decide) ?_
  refine N_isub (a := 1) (b := 2) (c := 1) d_PG_isOnWire_28 (by omega) rfl ?_
  refine N_aaload (k := 1) (p := (281 + 26 * s)) (C0 := "PasswordGate$Bytes") d_PG_isOnWire_29 ((by decide : ∀ s, s < 4 → K0 ≤ (266 + 26 * s)) s hs) ea0.2.1 rfl (by omega) (by decide) rfl ?_
  refine T_iload_n d_PG_isOnWire_30 rfl ?_
  refine T_virtual (as := [.int z]) (rest := []) (b := (281 + 26 * s)) d_PG_isOnWire_31 rfl (jw_By_has.jo (by decide)) lm_PG_119 ji_By_has js_By_has ea2.1 rfl rfl rfl (Nat.le_of_ble_eq_true rfl) (by decide) (by decide) (y_By_has_neg ea2 hx) (fun r M_2 hq => ?_)
  obtain ⟨rfl, he⟩ := hq
  obtain rfl := he.symm
  refine T_eq (pc' := 34) (L' := [(0, .ref 61), (1, .int (nI s)), (2, .int (nI 2)), (3, .int z)]) (st' := [.int (nI 0)]) (M' := M) rfl rfl rfl rfl ?_
  refine N_if_eq_t (b := 0) d_PG_isOnWire_34 (tgt := 41) rfl (by omega) (by omega) ?_
  refine T_iconst (v := nI 0) d_PG_isOnWire_41 (by decide) ?_
  exact T_ret d_PG_isOnWire_42 rfl rfl (by decide) (by decide) ⟨rfl, rfl⟩
set_option maxHeartbeats 8000000 in
theorem y_PG_isOnWire_3_in {G : GX} {M : List va_E} {s us b x : Nat} {t : Nat → Bool} {C : List (List UInt8)} {i : Nat} (hs : s < 4) (hi : i < (cg C 2).length) (hgo : GO M 61 264) (hse : SES M s us t C b x) : CT G mi_PG_isOnWire [.ref 61, .int (nI s), .int (nI 3), .int (nI i)] M (fun r M' => r = some (.int (nI 1)) ∧ M' = M) := by
  obtain ⟨ea0, ea1, ea2, ea3, ea4, ea5, ea6, ea7, ea8, ea9, ea10, ea11, ⟨el12, ea12⟩, ea13, ea14⟩ := id hse
  have l1 := ea1.2.le
  have l2 := ea2.2.le
  have l3 := ea3.2.le
  refine CT.of (by decide) (Nat.le_of_ble_eq_true rfl) ?_
  show TT G mi_PG_isOnWire 0 [(0, .ref 61), (1, .int (nI s)), (2, .int (nI 3)), (3, .int (nI i))] [] M 0 0 _
  refine T_iload_n d_PG_isOnWire_0 rfl ?_
  refine T_static (as := [.int (nI s)]) (rest := []) d_PG_isOnWire_1 rfl (jw_PG_isSession.jo (by decide)) lm_PG_133 jt_PG_isSession rfl (Nat.le_of_ble_eq_true rfl) (by decide) (by decide) (y_PG_isSession_in hs) (fun r M_1 hq => ?_)
  obtain ⟨rfl, he⟩ := hq
  obtain rfl := he.symm
  refine T_eq (pc' := 4) (L' := [(0, .ref 61), (1, .int (nI s)), (2, .int (nI 3)), (3, .int (nI i))]) (st' := [.int (nI 1)]) (M' := M) rfl rfl rfl rfl ?_
  refine N_if_eq_f (b := 1) d_PG_isOnWire_4 (tgt := 41) rfl (by omega) (by omega) ?_
  refine T_iload_n d_PG_isOnWire_7 rfl ?_
  refine T_iconst (v := nI 1) d_PG_isOnWire_8 (by decide) ?_
  refine N_icmp_lt_f (a := 1) (b := 3) d_PG_isOnWire_9 (tgt := 41) rfl (by omega) (by omega) (by omega) ?_
  refine T_iload_n d_PG_isOnWire_12 rfl ?_
  refine T_iconst (v := nI 3) d_PG_isOnWire_13 (by decide) ?_
  refine N_icmp_gt_f (a := 3) (b := 3) d_PG_isOnWire_14 (tgt := 41) rfl (by omega) (by omega) (by omega) ?_
  refine T_aload_n (v := .ref 61) d_PG_isOnWire_17 rfl (Or.inr ⟨_, rfl⟩) ?_
  refine T_getfield (v := .ref 264) d_PG_isOnWire_18 fg_PG_34 hgo.1 rfl ?_
  refine T_iload_n d_PG_isOnWire_21 rfl ?_
  refine N_aaload (k := s) (p := (265 + 26 * s)) (C0 := "PasswordGate$Session") d_PG_isOnWire_22 (by decide) hgo.2 rfl (by omega) (by decide) (if_pos hs) ?_
  refine T_getfield (v := .ref (266 + 26 * s)) d_PG_isOnWire_23 fg_PG_158 ea0.1 rfl ?_
  refine T_iload_n d_PG_isOnWire_26 rfl ?_
  refine T_iconst (v := nI 1) d_PG_isOnWire_27 (by decide) ?_
  refine N_isub (a := 1) (b := 3) (c := 2) d_PG_isOnWire_28 (by omega) rfl ?_
  refine N_aaload (k := 2) (p := (283 + 26 * s)) (C0 := "PasswordGate$Bytes") d_PG_isOnWire_29 ((by decide : ∀ s, s < 4 → K0 ≤ (266 + 26 * s)) s hs) ea0.2.1 rfl (by omega) (by decide) rfl ?_
  refine T_iload_n d_PG_isOnWire_30 rfl ?_
  refine T_virtual (as := [.int (nI i)]) (rest := []) (b := (283 + 26 * s)) d_PG_isOnWire_31 rfl (jw_By_has.jo (by decide)) lm_PG_119 ji_By_has js_By_has ea3.1 rfl rfl rfl (Nat.le_of_ble_eq_true rfl) (by decide) (by decide) (y_By_has_in ea3 hi (by decide)) (fun r M_2 hq => ?_)
  obtain ⟨rfl, he⟩ := hq
  obtain rfl := he.symm
  refine T_eq (pc' := 34) (L' := [(0, .ref 61), (1, .int (nI s)), (2, .int (nI 3)), (3, .int (nI i))]) (st' := [.int (nI 1)]) (M' := M) rfl rfl rfl rfl ?_
  refine N_if_eq_f (b := 1) d_PG_isOnWire_34 (tgt := 41) rfl (by omega) (by omega) ?_
  refine T_iconst (v := nI 1) d_PG_isOnWire_37 (by decide) ?_
  refine T_goto (tgt := 42) d_PG_isOnWire_38 rfl ?_
  exact T_ret d_PG_isOnWire_42 rfl rfl (by decide) (by decide) ⟨rfl, rfl⟩
set_option maxHeartbeats 8000000 in
theorem y_PG_isOnWire_3_out {G : GX} {M : List va_E} {s us b x : Nat} {t : Nat → Bool} {C : List (List UInt8)} {i : Nat} (hs : s < 4) (hi : (cg C 2).length ≤ i) (hi2 : i < 2147483648) (hgo : GO M 61 264) (hse : SES M s us t C b x) : CT G mi_PG_isOnWire [.ref 61, .int (nI s), .int (nI 3), .int (nI i)] M (fun r M' => r = some (.int (nI 0)) ∧ M' = M) := by
  obtain ⟨ea0, ea1, ea2, ea3, ea4, ea5, ea6, ea7, ea8, ea9, ea10, ea11, ⟨el12, ea12⟩, ea13, ea14⟩ := id hse
  have l1 := ea1.2.le
  have l2 := ea2.2.le
  have l3 := ea3.2.le
  refine CT.of (by decide) (Nat.le_of_ble_eq_true rfl) ?_
  show TT G mi_PG_isOnWire 0 [(0, .ref 61), (1, .int (nI s)), (2, .int (nI 3)), (3, .int (nI i))] [] M 0 0 _
  refine T_iload_n d_PG_isOnWire_0 rfl ?_
  refine T_static (as := [.int (nI s)]) (rest := []) d_PG_isOnWire_1 rfl (jw_PG_isSession.jo (by decide)) lm_PG_133 jt_PG_isSession rfl (Nat.le_of_ble_eq_true rfl) (by decide) (by decide) (y_PG_isSession_in hs) (fun r M_1 hq => ?_)
  obtain ⟨rfl, he⟩ := hq
  obtain rfl := he.symm
  refine T_eq (pc' := 4) (L' := [(0, .ref 61), (1, .int (nI s)), (2, .int (nI 3)), (3, .int (nI i))]) (st' := [.int (nI 1)]) (M' := M) rfl rfl rfl rfl ?_
  refine N_if_eq_f (b := 1) d_PG_isOnWire_4 (tgt := 41) rfl (by omega) (by omega) ?_
  refine T_iload_n d_PG_isOnWire_7 rfl ?_
  refine T_iconst (v := nI 1) d_PG_isOnWire_8 (by decide) ?_
  refine N_icmp_lt_f (a := 1) (b := 3) d_PG_isOnWire_9 (tgt := 41) rfl (by omega) (by omega) (by omega) ?_
  refine T_iload_n d_PG_isOnWire_12 rfl ?_
  refine T_iconst (v := nI 3) d_PG_isOnWire_13 (by decide) ?_
  refine N_icmp_gt_f (a := 3) (b := 3) d_PG_isOnWire_14 (tgt := 41) rfl (by omega) (by omega) (by omega) ?_
  refine T_aload_n (v := .ref 61) d_PG_isOnWire_17 rfl (Or.inr ⟨_, rfl⟩) ?_
  refine T_getfield (v := .ref 264) d_PG_isOnWire_18 fg_PG_34 hgo.1 rfl ?_
  refine T_iload_n d_PG_isOnWire_21 rfl ?_
  refine N_aaload (k := s) (p := (265 + 26 * s)) (C0 := "PasswordGate$Session") d_PG_isOnWire_22 (by decide) hgo.2 rfl (by omega) (by decide) (if_pos hs) ?_
  refine T_getfield (v := .ref (266 + 26 * s)) d_PG_isOnWire_23 fg_PG_158 ea0.1 rfl ?_
  refine T_iload_n d_PG_isOnWire_26 rfl ?_
  refine T_iconst (v := nI 1) d_PG_isOnWire_27 (by decide) ?_
  refine N_isub (a := 1) (b := 3) (c := 2) d_PG_isOnWire_28 (by omega) rfl ?_
  refine N_aaload (k := 2) (p := (283 + 26 * s)) (C0 := "PasswordGate$Bytes") d_PG_isOnWire_29 ((by decide : ∀ s, s < 4 → K0 ≤ (266 + 26 * s)) s hs) ea0.2.1 rfl (by omega) (by decide) rfl ?_
  refine T_iload_n d_PG_isOnWire_30 rfl ?_
  refine T_virtual (as := [.int (nI i)]) (rest := []) (b := (283 + 26 * s)) d_PG_isOnWire_31 rfl (jw_By_has.jo (by decide)) lm_PG_119 ji_By_has js_By_has ea3.1 rfl rfl rfl (Nat.le_of_ble_eq_true rfl) (by decide) (by decide) (y_By_has_out ea3 hi hi2 (by decide)) (fun r M_2 hq => ?_)
  obtain ⟨rfl, he⟩ := hq
  obtain rfl := he.symm
  refine T_eq (pc' := 34) (L' := [(0, .ref 61), (1, .int (nI s)), (2, .int (nI 3)), (3, .int (nI i))]) (st' := [.int (nI 0)]) (M' := M) rfl rfl rfl rfl ?_
  refine N_if_eq_t (b := 0) d_PG_isOnWire_34 (tgt := 41) rfl (by omega) (by omega) ?_
  refine T_iconst (v := nI 0) d_PG_isOnWire_41 (by decide) ?_
  exact T_ret d_PG_isOnWire_42 rfl rfl (by decide) (by decide) ⟨rfl, rfl⟩
set_option maxHeartbeats 8000000 in
theorem y_PG_isOnWire_3_neg {G : GX} {M : List va_E} {s us b x : Nat} {t : Nat → Bool} {C : List (List UInt8)} {z : Int32} (hs : s < 4) (hx : z < 0) (hgo : GO M 61 264) (hse : SES M s us t C b x) : CT G mi_PG_isOnWire [.ref 61, .int (nI s), .int (nI 3), .int z] M (fun r M' => r = some (.int (nI 0)) ∧ M' = M) := by
  obtain ⟨ea0, ea1, ea2, ea3, ea4, ea5, ea6, ea7, ea8, ea9, ea10, ea11, ⟨el12, ea12⟩, ea13, ea14⟩ := id hse
  have l1 := ea1.2.le
  have l2 := ea2.2.le
  have l3 := ea3.2.le
  refine CT.of (by decide) (Nat.le_of_ble_eq_true rfl) ?_
  show TT G mi_PG_isOnWire 0 [(0, .ref 61), (1, .int (nI s)), (2, .int (nI 3)), (3, .int z)] [] M 0 0 _
  refine T_iload_n d_PG_isOnWire_0 rfl ?_
  refine T_static (as := [.int (nI s)]) (rest := []) d_PG_isOnWire_1 rfl (jw_PG_isSession.jo (by decide)) lm_PG_133 jt_PG_isSession rfl (Nat.le_of_ble_eq_true rfl) (by decide) (by decide) (y_PG_isSession_in hs) (fun r M_1 hq => ?_)
  obtain ⟨rfl, he⟩ := hq
  obtain rfl := he.symm
  refine T_eq (pc' := 4) (L' := [(0, .ref 61), (1, .int (nI s)), (2, .int (nI 3)), (3, .int z)]) (st' := [.int (nI 1)]) (M' := M) rfl rfl rfl rfl ?_
  refine N_if_eq_f (b := 1) d_PG_isOnWire_4 (tgt := 41) rfl (by omega) (by omega) ?_
  refine T_iload_n d_PG_isOnWire_7 rfl ?_
  refine T_iconst (v := nI 1) d_PG_isOnWire_8 (by decide) ?_
  refine N_icmp_lt_f (a := 1) (b := 3) d_PG_isOnWire_9 (tgt := 41) rfl (by omega) (by omega) (by omega) ?_
  refine T_iload_n d_PG_isOnWire_12 rfl ?_
  refine T_iconst (v := nI 3) d_PG_isOnWire_13 (by decide) ?_
  refine N_icmp_gt_f (a := 3) (b := 3) d_PG_isOnWire_14 (tgt := 41) rfl (by omega) (by omega) (by omega) ?_
  refine T_aload_n (v := .ref 61) d_PG_isOnWire_17 rfl (Or.inr ⟨_, rfl⟩) ?_
  refine T_getfield (v := .ref 264) d_PG_isOnWire_18 fg_PG_34 hgo.1 rfl ?_
  refine T_iload_n d_PG_isOnWire_21 rfl ?_
  refine N_aaload (k := s) (p := (265 + 26 * s)) (C0 := "PasswordGate$Session") d_PG_isOnWire_22 (by decide) hgo.2 rfl (by omega) (by decide) (if_pos hs) ?_
  refine T_getfield (v := .ref (266 + 26 * s)) d_PG_isOnWire_23 fg_PG_158 ea0.1 rfl ?_
  refine T_iload_n d_PG_isOnWire_26 rfl ?_
  refine T_iconst (v := nI 1) d_PG_isOnWire_27 (by decide) ?_
  refine N_isub (a := 1) (b := 3) (c := 2) d_PG_isOnWire_28 (by omega) rfl ?_
  refine N_aaload (k := 2) (p := (283 + 26 * s)) (C0 := "PasswordGate$Bytes") d_PG_isOnWire_29 ((by decide : ∀ s, s < 4 → K0 ≤ (266 + 26 * s)) s hs) ea0.2.1 rfl (by omega) (by decide) rfl ?_
  refine T_iload_n d_PG_isOnWire_30 rfl ?_
  refine T_virtual (as := [.int z]) (rest := []) (b := (283 + 26 * s)) d_PG_isOnWire_31 rfl (jw_By_has.jo (by decide)) lm_PG_119 ji_By_has js_By_has ea3.1 rfl rfl rfl (Nat.le_of_ble_eq_true rfl) (by decide) (by decide) (y_By_has_neg ea3 hx) (fun r M_2 hq => ?_)
  obtain ⟨rfl, he⟩ := hq
  obtain rfl := he.symm
  refine T_eq (pc' := 34) (L' := [(0, .ref 61), (1, .int (nI s)), (2, .int (nI 3)), (3, .int z)]) (st' := [.int (nI 0)]) (M' := M) rfl rfl rfl rfl ?_
  refine N_if_eq_t (b := 0) d_PG_isOnWire_34 (tgt := 41) rfl (by omega) (by omega) ?_
  refine T_iconst (v := nI 0) d_PG_isOnWire_41 (by decide) ?_
  exact T_ret d_PG_isOnWire_42 rfl rfl (by decide) (by decide) ⟨rfl, rfl⟩
theorem ba_upd {f : Nat → Int32} {l : List UInt8} {i j : Nat} {v : Int32} {b : UInt8} (hv : ∀ j, j < l.length → f j = cB (gd l j)) (hi : i < l.length) (hb : v = cB b) (hj : j < (l.set i b).length) : upd f i v j = cB (gd (l.set i b) j) := by
  rw [List.length_set] at hj
  unfold upd
  by_cases e : j = i
  · subst e
    rw [if_pos rfl, hb]
    unfold gd
    rw [List.getD_eq_getElem?_getD, List.getElem?_set_self hi]
    rfl
  · rw [if_neg e, hv j hj]
    unfold gd
    rw [List.getD_eq_getElem?_getD, List.getD_eq_getElem?_getD, List.getElem?_set_ne (fun c => e c.symm)]
theorem tam_v (b : UInt8) (mask : Int32) : vp_nar .byte ((cB b ^^^ mask.toInt8.toInt32).toInt8.toInt32) = cB (b ^^^ u8 mask) := by
  have e : vp_nar .byte ((cB b ^^^ mask.toInt8.toInt32).toInt8.toInt32) = ((cB b ^^^ mask.toInt8.toInt32).toInt8.toInt32).toInt8.toInt32 := rfl
  rw [e, cB_u8 (cB b ^^^ mask.toInt8.toInt32), cB_u8 (cB _), u8_cB, u8_xor, u8_cB, cB_u8 mask, u8_cB]
set_option maxHeartbeats 8000000 in
theorem y_PG_wire_1_in {G : GX} {M : List va_E} {s us b x : Nat} {t : Nat → Bool} {C : List (List UInt8)} {i : Nat} (hs : s < 4) (hi : i < (cg C 0).length) (hgo : GO M 61 264) (hse : SES M s us t C b x) : CT G mi_PG_wire [.ref 61, .int (nI s), .int (nI 1), .int (nI i)] M (fun r M' => r = some (.int (nI (gd (cg C 0) i).toNat)) ∧ M' = M) := by
  obtain ⟨ea0, ea1, ea2, ea3, ea4, ea5, ea6, ea7, ea8, ea9, ea10, ea11, ⟨el12, ea12⟩, ea13, ea14⟩ := id hse
  have l1 := ea1.2.le
  have l2 := ea2.2.le
  have l3 := ea3.2.le
  have l4 := ea4.2.le
  have l5 := ea5.2.le
  have l6 := ea6.2.le
  refine CT.of (by decide) (Nat.le_of_ble_eq_true rfl) ?_
  show TT G mi_PG_wire 0 [(0, .ref 61), (1, .int (nI s)), (2, .int (nI 1)), (3, .int (nI i))] [] M 0 0 _
  refine T_aload_n (v := .ref 61) d_PG_wire_0 rfl (Or.inr ⟨_, rfl⟩) ?_
  refine T_iload_n d_PG_wire_1 rfl ?_
  refine T_iload_n d_PG_wire_2 rfl ?_
  refine T_iload_n d_PG_wire_3 rfl ?_
  have cS_2 : SES M s us t C b x := ⟨ea0, ea1, ea2, ea3, ea4, ea5, ea6, ea7, ea8, ea9, ea10, ea11, ⟨_, ea12⟩, ea13, ea14⟩
  refine T_virtual (as := [.int (nI s), .int (nI 1), .int (nI i)]) (rest := []) (b := 61) d_PG_wire_4 rfl (jw_PG_isOnWire.jo (by decide)) lm_PG_154 ji_PG_isOnWire js_PG_isOnWire hgo.1 rfl rfl rfl (Nat.le_of_ble_eq_true rfl) (by decide) (by decide) (y_PG_isOnWire_1_in hs hi hgo cS_2) (fun r M_1 hq => ?_)
  obtain ⟨rfl, he⟩ := hq
  obtain rfl := he.symm
  refine T_eq (pc' := 7) (L' := [(0, .ref 61), (1, .int (nI s)), (2, .int (nI 1)), (3, .int (nI i))]) (st' := [.int (nI 1)]) (M' := M) rfl rfl rfl rfl ?_
  refine N_if_ne_t (b := 1) d_PG_wire_7 (tgt := 18) rfl (by omega) (by omega) ?_
  refine T_aload_n (v := .ref 61) d_PG_wire_18 rfl (Or.inr ⟨_, rfl⟩) ?_
  refine T_getfield (v := .ref 264) d_PG_wire_19 fg_PG_34 hgo.1 rfl ?_
  refine T_iload_n d_PG_wire_22 rfl ?_
  refine N_aaload (k := s) (p := (265 + 26 * s)) (C0 := "PasswordGate$Session") d_PG_wire_23 (by decide) hgo.2 rfl (by omega) (by decide) (if_pos hs) ?_
  refine T_getfield (v := .ref (266 + 26 * s)) d_PG_wire_24 fg_PG_158 ea0.1 rfl ?_
  refine T_iload_n d_PG_wire_27 rfl ?_
  refine T_iconst (v := nI 1) d_PG_wire_28 (by decide) ?_
  refine N_isub (a := 1) (b := 1) (c := 0) d_PG_wire_29 (by omega) rfl ?_
  refine N_aaload (k := 0) (p := (279 + 26 * s)) (C0 := "PasswordGate$Bytes") d_PG_wire_30 ((by decide : ∀ s, s < 4 → K0 ≤ (266 + 26 * s)) s hs) ea0.2.1 rfl (by omega) (by decide) rfl ?_
  refine T_getfield (v := .ref (280 + 26 * s)) d_PG_wire_31 fg_PG_93 ea1.1 rfl ?_
  refine T_iload_n d_PG_wire_34 rfl ?_
  obtain ⟨f_3, hf_4, hl_5, hv_6⟩ := id ea1.2
  refine N_baload (k := i) (x := (cB (gd (cg C 0) i))) d_PG_wire_35 hf_4 (by omega) (by decide) (hv_6 i (by first | omega | (simp only [List.length_append, List.length_cons, List.length_nil, List.length_replicate, sl_len, be_len, sha_len, xk_len, hmac_len, ex1_len, ex2_len, tag1_len, tC_len, stretch_len, chance_len, enc_len, pub_len, lbN_len, lbF_len, zer8_len, W0_len, W1_len, W2_len, W3_len, W4_len, W5_len, W6_len, W7_len, W8_len, W9_len, W10_len, W11_len, W12_len, W13_len, W14_len, W15_len, W16_len, W17_len, W18_len, W19_len, W20_len, W21_len, sec8_len, seal8_len, xr_len, pre8_len, xSess_len, xSrv_len, xCli_len]; omega))) ?_
  refine T_sipush (v := nI 255) d_PG_wire_36 (by decide) ?_
  refine T_iand d_PG_wire_39 ?_
  exact T_ret d_PG_wire_40 rfl rfl (by decide) (by decide) ⟨by rw [cB_255], rfl⟩
set_option maxHeartbeats 8000000 in
theorem y_PG_tamper_1_in {G : GX} {M : List va_E} {s us b x : Nat} {t : Nat → Bool} {C : List (List UInt8)} {i : Nat} {mask : Int32} (hs : s < 4) (hi : i < (cg C 0).length) (hgo : GO M 61 264) (hse : SES M s us t C b x) : CT G mi_PG_tamper [.ref 61, .int (nI s), .int (nI 1), .int (nI i), .int mask] M (fun r M' => r = some (.int (nI 1)) ∧ SES M' s us t [(cg C 0).set i (gd (cg C 0) i ^^^ u8 mask), cg C 1, cg C 2, cg C 3, cg C 4, cg C 5, cg C 6, cg C 7, cg C 8, cg C 9] b x ∧ KR (fun q => 265 + 26 * s ≤ q ∧ q ≤ 290 + 26 * s) M M') := by
  obtain ⟨ea0, ea1, ea2, ea3, ea4, ea5, ea6, ea7, ea8, ea9, ea10, ea11, ⟨el12, ea12⟩, ea13, ea14⟩ := id hse
  have l1 := ea1.2.le
  have l2 := ea2.2.le
  have l3 := ea3.2.le
  have l4 := ea4.2.le
  have l5 := ea5.2.le
  have l6 := ea6.2.le
  refine CT.of (by decide) (Nat.le_of_ble_eq_true rfl) ?_
  show TT G mi_PG_tamper 0 [(0, .ref 61), (1, .int (nI s)), (2, .int (nI 1)), (3, .int (nI i)), (4, .int mask)] [] M 0 0 _
  refine T_aload_n (v := .ref 61) d_PG_tamper_0 rfl (Or.inr ⟨_, rfl⟩) ?_
  refine T_iload_n d_PG_tamper_1 rfl ?_
  refine T_iload_n d_PG_tamper_2 rfl ?_
  refine T_iload_n d_PG_tamper_3 rfl ?_
  have cS_2 : SES M s us t C b x := ⟨ea0, ea1, ea2, ea3, ea4, ea5, ea6, ea7, ea8, ea9, ea10, ea11, ⟨_, ea12⟩, ea13, ea14⟩
  refine T_virtual (as := [.int (nI s), .int (nI 1), .int (nI i)]) (rest := []) (b := 61) d_PG_tamper_4 rfl (jw_PG_isOnWire.jo (by decide)) lm_PG_154 ji_PG_isOnWire js_PG_isOnWire hgo.1 rfl rfl rfl (Nat.le_of_ble_eq_true rfl) (by decide) (by decide) (y_PG_isOnWire_1_in hs hi hgo cS_2) (fun r M_1 hq => ?_)
  obtain ⟨rfl, he⟩ := hq
  obtain rfl := he.symm
  refine T_eq (pc' := 7) (L' := [(0, .ref 61), (1, .int (nI s)), (2, .int (nI 1)), (3, .int (nI i)), (4, .int mask)]) (st' := [.int (nI 1)]) (M' := M) rfl rfl rfl rfl ?_
  refine N_if_ne_t (b := 1) d_PG_tamper_7 (tgt := 12) rfl (by omega) (by omega) ?_
  refine T_aload_n (v := .ref 61) d_PG_tamper_12 rfl (Or.inr ⟨_, rfl⟩) ?_
  refine T_getfield (v := .ref 264) d_PG_tamper_13 fg_PG_34 hgo.1 rfl ?_
  refine T_iload_n d_PG_tamper_16 rfl ?_
  refine N_aaload (k := s) (p := (265 + 26 * s)) (C0 := "PasswordGate$Session") d_PG_tamper_17 (by decide) hgo.2 rfl (by omega) (by decide) (if_pos hs) ?_
  refine T_getfield (v := .ref (266 + 26 * s)) d_PG_tamper_18 fg_PG_158 ea0.1 rfl ?_
  refine T_iload_n d_PG_tamper_21 rfl ?_
  refine T_iconst (v := nI 1) d_PG_tamper_22 (by decide) ?_
  refine N_isub (a := 1) (b := 1) (c := 0) d_PG_tamper_23 (by omega) rfl ?_
  refine N_aaload (k := 0) (p := (279 + 26 * s)) (C0 := "PasswordGate$Bytes") d_PG_tamper_24 ((by decide : ∀ s, s < 4 → K0 ≤ (266 + 26 * s)) s hs) ea0.2.1 rfl (by omega) (by decide) rfl ?_
  refine T_getfield (v := .ref (280 + 26 * s)) d_PG_tamper_25 fg_PG_93 ea1.1 rfl ?_
  refine T_iload_n d_PG_tamper_28 rfl ?_
  obtain ⟨f_3, hf_4, hl_5, hv_6⟩ := id ea1.2
  refine T_dup2 d_PG_tamper_29 rfl rfl ?_
  refine N_baload (k := i) (x := (cB (gd (cg C 0) i))) d_PG_tamper_30 hf_4 (by omega) (by decide) (hv_6 i (by first | omega | (simp only [List.length_append, List.length_cons, List.length_nil, List.length_replicate, sl_len, be_len, sha_len, xk_len, hmac_len, ex1_len, ex2_len, tag1_len, tC_len, stretch_len, chance_len, enc_len, pub_len, lbN_len, lbF_len, zer8_len, W0_len, W1_len, W2_len, W3_len, W4_len, W5_len, W6_len, W7_len, W8_len, W9_len, W10_len, W11_len, W12_len, W13_len, W14_len, W15_len, W16_len, W17_len, W18_len, W19_len, W20_len, W21_len, sec8_len, seal8_len, xr_len, pre8_len, xSess_len, xSrv_len, xCli_len]; omega))) ?_
  refine T_iload d_PG_tamper_31 rfl ?_
  refine T_i2b d_PG_tamper_33 ?_
  refine T_ixor d_PG_tamper_34 ?_
  refine T_i2b d_PG_tamper_35 ?_
  refine N_bastore (k := i) d_PG_tamper_36 ((by decide : ∀ s, s < 4 → K0 ≤ (280 + 26 * s)) s hs) hf_4 (by omega) (by decide) rfl (fun M_7 h_8 s_9 => ?_)
  refine T_iconst (v := nI 1) d_PG_tamper_37 (by decide) ?_
  have gq := (s_9 (279 + 26 * s) ((by decide : ∀ s, s < 4 → (279 + 26 * s) ≠ (280 + 26 * s)) s hs)).trans ea1.1
  have g : BY M_7 (279 + 26 * s) (280 + 26 * s) 96 ((cg C 0).set i (gd (cg C 0) i ^^^ u8 mask)) := ⟨by rw [List.length_set]; exact gq, _, h_8, by rw [List.length_set]; exact l1, fun j hj => ba_upd hv_6 hi (tam_v _ _) hj⟩
  have p_10 := (SO.kp (ea0) (Ex.kp s_9) ((by decide : ∀ s, s < 4 → (265 + 26 * s) ∉ [(280 + 26 * s)]) s hs) ((by decide : ∀ s, s < 4 → (266 + 26 * s) ∉ [(280 + 26 * s)]) s hs) ((by decide : ∀ s, s < 4 → (267 + 26 * s) ∉ [(280 + 26 * s)]) s hs))
  have p_11 := (BY.kp (ea2) (Ex.kp s_9) ((by decide : ∀ s, s < 4 → (281 + 26 * s) ∉ [(280 + 26 * s)]) s hs) ((by decide : ∀ s, s < 4 → (282 + 26 * s) ∉ [(280 + 26 * s)]) s hs))
  have p_12 := (BY.kp (ea3) (Ex.kp s_9) ((by decide : ∀ s, s < 4 → (283 + 26 * s) ∉ [(280 + 26 * s)]) s hs) ((by decide : ∀ s, s < 4 → (284 + 26 * s) ∉ [(280 + 26 * s)]) s hs))
  have p_13 := (BY.kp (ea4) (Ex.kp s_9) ((by decide : ∀ s, s < 4 → (285 + 26 * s) ∉ [(280 + 26 * s)]) s hs) ((by decide : ∀ s, s < 4 → (286 + 26 * s) ∉ [(280 + 26 * s)]) s hs))
  have p_14 := (BY.kp (ea5) (Ex.kp s_9) ((by decide : ∀ s, s < 4 → (287 + 26 * s) ∉ [(280 + 26 * s)]) s hs) ((by decide : ∀ s, s < 4 → (288 + 26 * s) ∉ [(280 + 26 * s)]) s hs))
  have p_15 := (BY.kp (ea6) (Ex.kp s_9) ((by decide : ∀ s, s < 4 → (289 + 26 * s) ∉ [(280 + 26 * s)]) s hs) ((by decide : ∀ s, s < 4 → (290 + 26 * s) ∉ [(280 + 26 * s)]) s hs))
  have p_16 := (BA.kp (ea7) (Ex.kp s_9) ((by decide : ∀ s, s < 4 → (268 + 26 * s) ∉ [(280 + 26 * s)]) s hs))
  have p_17 := (BA.kp (ea8) (Ex.kp s_9) ((by decide : ∀ s, s < 4 → (269 + 26 * s) ∉ [(280 + 26 * s)]) s hs))
  have p_18 := (ZA.kp (ea9) (Ex.kp s_9) ((by decide : ∀ s, s < 4 → (270 + 26 * s) ∉ [(280 + 26 * s)]) s hs))
  have p_19 := (BY.kp (ea10) (Ex.kp s_9) ((by decide : ∀ s, s < 4 → (271 + 26 * s) ∉ [(280 + 26 * s)]) s hs) ((by decide : ∀ s, s < 4 → (272 + 26 * s) ∉ [(280 + 26 * s)]) s hs))
  have p_20 := (BY.kp (ea11) (Ex.kp s_9) ((by decide : ∀ s, s < 4 → (273 + 26 * s) ∉ [(280 + 26 * s)]) s hs) ((by decide : ∀ s, s < 4 → (274 + 26 * s) ∉ [(280 + 26 * s)]) s hs))
  have p_21 := (BY.kp (ea12) (Ex.kp s_9) ((by decide : ∀ s, s < 4 → (275 + 26 * s) ∉ [(280 + 26 * s)]) s hs) ((by decide : ∀ s, s < 4 → (276 + 26 * s) ∉ [(280 + 26 * s)]) s hs))
  have p_22 := (BA.kp (ea13) (Ex.kp s_9) ((by decide : ∀ s, s < 4 → (277 + 26 * s) ∉ [(280 + 26 * s)]) s hs))
  have p_23 := (BA.kp (ea14) (Ex.kp s_9) ((by decide : ∀ s, s < 4 → (278 + 26 * s) ∉ [(280 + 26 * s)]) s hs))
  exact T_ret d_PG_tamper_38 rfl rfl (by decide) (by decide) ⟨rfl, ⟨p_10, g, p_11, p_12, p_13, p_14, p_15, p_16, p_17, p_18, p_19, p_20, ⟨_, p_21⟩, p_22, p_23⟩, (KR.tr KR.rf (Ex.kp s_9) ((by decide +kernel : ∀ s, s < 4 → ∀ q ∈ [(280 + 26 * s)], (265 + 26 * s ≤ q ∧ q ≤ 290 + 26 * s)) s hs))⟩
set_option maxHeartbeats 8000000 in
theorem y_PG_wire_2_in {G : GX} {M : List va_E} {s us b x : Nat} {t : Nat → Bool} {C : List (List UInt8)} {i : Nat} (hs : s < 4) (hi : i < (cg C 1).length) (hgo : GO M 61 264) (hse : SES M s us t C b x) : CT G mi_PG_wire [.ref 61, .int (nI s), .int (nI 2), .int (nI i)] M (fun r M' => r = some (.int (nI (gd (cg C 1) i).toNat)) ∧ M' = M) := by
  obtain ⟨ea0, ea1, ea2, ea3, ea4, ea5, ea6, ea7, ea8, ea9, ea10, ea11, ⟨el12, ea12⟩, ea13, ea14⟩ := id hse
  have l1 := ea1.2.le
  have l2 := ea2.2.le
  have l3 := ea3.2.le
  have l4 := ea4.2.le
  have l5 := ea5.2.le
  have l6 := ea6.2.le
  refine CT.of (by decide) (Nat.le_of_ble_eq_true rfl) ?_
  show TT G mi_PG_wire 0 [(0, .ref 61), (1, .int (nI s)), (2, .int (nI 2)), (3, .int (nI i))] [] M 0 0 _
  refine T_aload_n (v := .ref 61) d_PG_wire_0 rfl (Or.inr ⟨_, rfl⟩) ?_
  refine T_iload_n d_PG_wire_1 rfl ?_
  refine T_iload_n d_PG_wire_2 rfl ?_
  refine T_iload_n d_PG_wire_3 rfl ?_
  have cS_2 : SES M s us t C b x := ⟨ea0, ea1, ea2, ea3, ea4, ea5, ea6, ea7, ea8, ea9, ea10, ea11, ⟨_, ea12⟩, ea13, ea14⟩
  refine T_virtual (as := [.int (nI s), .int (nI 2), .int (nI i)]) (rest := []) (b := 61) d_PG_wire_4 rfl (jw_PG_isOnWire.jo (by decide)) lm_PG_154 ji_PG_isOnWire js_PG_isOnWire hgo.1 rfl rfl rfl (Nat.le_of_ble_eq_true rfl) (by decide) (by decide) (y_PG_isOnWire_2_in hs hi hgo cS_2) (fun r M_1 hq => ?_)
  obtain ⟨rfl, he⟩ := hq
  obtain rfl := he.symm
  refine T_eq (pc' := 7) (L' := [(0, .ref 61), (1, .int (nI s)), (2, .int (nI 2)), (3, .int (nI i))]) (st' := [.int (nI 1)]) (M' := M) rfl rfl rfl rfl ?_
  refine N_if_ne_t (b := 1) d_PG_wire_7 (tgt := 18) rfl (by omega) (by omega) ?_
  refine T_aload_n (v := .ref 61) d_PG_wire_18 rfl (Or.inr ⟨_, rfl⟩) ?_
  refine T_getfield (v := .ref 264) d_PG_wire_19 fg_PG_34 hgo.1 rfl ?_
  refine T_iload_n d_PG_wire_22 rfl ?_
  refine N_aaload (k := s) (p := (265 + 26 * s)) (C0 := "PasswordGate$Session") d_PG_wire_23 (by decide) hgo.2 rfl (by omega) (by decide) (if_pos hs) ?_
  refine T_getfield (v := .ref (266 + 26 * s)) d_PG_wire_24 fg_PG_158 ea0.1 rfl ?_
  refine T_iload_n d_PG_wire_27 rfl ?_
  refine T_iconst (v := nI 1) d_PG_wire_28 (by decide) ?_
  refine N_isub (a := 1) (b := 2) (c := 1) d_PG_wire_29 (by omega) rfl ?_
  refine N_aaload (k := 1) (p := (281 + 26 * s)) (C0 := "PasswordGate$Bytes") d_PG_wire_30 ((by decide : ∀ s, s < 4 → K0 ≤ (266 + 26 * s)) s hs) ea0.2.1 rfl (by omega) (by decide) rfl ?_
  refine T_getfield (v := .ref (282 + 26 * s)) d_PG_wire_31 fg_PG_93 ea2.1 rfl ?_
  refine T_iload_n d_PG_wire_34 rfl ?_
  obtain ⟨f_3, hf_4, hl_5, hv_6⟩ := id ea2.2
  refine N_baload (k := i) (x := (cB (gd (cg C 1) i))) d_PG_wire_35 hf_4 (by omega) (by decide) (hv_6 i (by first | omega | (simp only [List.length_append, List.length_cons, List.length_nil, List.length_replicate, sl_len, be_len, sha_len, xk_len, hmac_len, ex1_len, ex2_len, tag1_len, tC_len, stretch_len, chance_len, enc_len, pub_len, lbN_len, lbF_len, zer8_len, W0_len, W1_len, W2_len, W3_len, W4_len, W5_len, W6_len, W7_len, W8_len, W9_len, W10_len, W11_len, W12_len, W13_len, W14_len, W15_len, W16_len, W17_len, W18_len, W19_len, W20_len, W21_len, sec8_len, seal8_len, xr_len, pre8_len, xSess_len, xSrv_len, xCli_len]; omega))) ?_
  refine T_sipush (v := nI 255) d_PG_wire_36 (by decide) ?_
  refine T_iand d_PG_wire_39 ?_
  exact T_ret d_PG_wire_40 rfl rfl (by decide) (by decide) ⟨by rw [cB_255], rfl⟩
set_option maxHeartbeats 8000000 in
theorem y_PG_tamper_2_in {G : GX} {M : List va_E} {s us b x : Nat} {t : Nat → Bool} {C : List (List UInt8)} {i : Nat} {mask : Int32} (hs : s < 4) (hi : i < (cg C 1).length) (hgo : GO M 61 264) (hse : SES M s us t C b x) : CT G mi_PG_tamper [.ref 61, .int (nI s), .int (nI 2), .int (nI i), .int mask] M (fun r M' => r = some (.int (nI 1)) ∧ SES M' s us t [cg C 0, (cg C 1).set i (gd (cg C 1) i ^^^ u8 mask), cg C 2, cg C 3, cg C 4, cg C 5, cg C 6, cg C 7, cg C 8, cg C 9] b x ∧ KR (fun q => 265 + 26 * s ≤ q ∧ q ≤ 290 + 26 * s) M M') := by
  obtain ⟨ea0, ea1, ea2, ea3, ea4, ea5, ea6, ea7, ea8, ea9, ea10, ea11, ⟨el12, ea12⟩, ea13, ea14⟩ := id hse
  have l1 := ea1.2.le
  have l2 := ea2.2.le
  have l3 := ea3.2.le
  have l4 := ea4.2.le
  have l5 := ea5.2.le
  have l6 := ea6.2.le
  refine CT.of (by decide) (Nat.le_of_ble_eq_true rfl) ?_
  show TT G mi_PG_tamper 0 [(0, .ref 61), (1, .int (nI s)), (2, .int (nI 2)), (3, .int (nI i)), (4, .int mask)] [] M 0 0 _
  refine T_aload_n (v := .ref 61) d_PG_tamper_0 rfl (Or.inr ⟨_, rfl⟩) ?_
  refine T_iload_n d_PG_tamper_1 rfl ?_
  refine T_iload_n d_PG_tamper_2 rfl ?_
  refine T_iload_n d_PG_tamper_3 rfl ?_
  have cS_2 : SES M s us t C b x := ⟨ea0, ea1, ea2, ea3, ea4, ea5, ea6, ea7, ea8, ea9, ea10, ea11, ⟨_, ea12⟩, ea13, ea14⟩
  refine T_virtual (as := [.int (nI s), .int (nI 2), .int (nI i)]) (rest := []) (b := 61) d_PG_tamper_4 rfl (jw_PG_isOnWire.jo (by decide)) lm_PG_154 ji_PG_isOnWire js_PG_isOnWire hgo.1 rfl rfl rfl (Nat.le_of_ble_eq_true rfl) (by decide) (by decide) (y_PG_isOnWire_2_in hs hi hgo cS_2) (fun r M_1 hq => ?_)
  obtain ⟨rfl, he⟩ := hq
  obtain rfl := he.symm
  refine T_eq (pc' := 7) (L' := [(0, .ref 61), (1, .int (nI s)), (2, .int (nI 2)), (3, .int (nI i)), (4, .int mask)]) (st' := [.int (nI 1)]) (M' := M) rfl rfl rfl rfl ?_
  refine N_if_ne_t (b := 1) d_PG_tamper_7 (tgt := 12) rfl (by omega) (by omega) ?_
  refine T_aload_n (v := .ref 61) d_PG_tamper_12 rfl (Or.inr ⟨_, rfl⟩) ?_
  refine T_getfield (v := .ref 264) d_PG_tamper_13 fg_PG_34 hgo.1 rfl ?_
  refine T_iload_n d_PG_tamper_16 rfl ?_
  refine N_aaload (k := s) (p := (265 + 26 * s)) (C0 := "PasswordGate$Session") d_PG_tamper_17 (by decide) hgo.2 rfl (by omega) (by decide) (if_pos hs) ?_
  refine T_getfield (v := .ref (266 + 26 * s)) d_PG_tamper_18 fg_PG_158 ea0.1 rfl ?_
  refine T_iload_n d_PG_tamper_21 rfl ?_
  refine T_iconst (v := nI 1) d_PG_tamper_22 (by decide) ?_
  refine N_isub (a := 1) (b := 2) (c := 1) d_PG_tamper_23 (by omega) rfl ?_
  refine N_aaload (k := 1) (p := (281 + 26 * s)) (C0 := "PasswordGate$Bytes") d_PG_tamper_24 ((by decide : ∀ s, s < 4 → K0 ≤ (266 + 26 * s)) s hs) ea0.2.1 rfl (by omega) (by decide) rfl ?_
  refine T_getfield (v := .ref (282 + 26 * s)) d_PG_tamper_25 fg_PG_93 ea2.1 rfl ?_
  refine T_iload_n d_PG_tamper_28 rfl ?_
  obtain ⟨f_3, hf_4, hl_5, hv_6⟩ := id ea2.2
  refine T_dup2 d_PG_tamper_29 rfl rfl ?_
  refine N_baload (k := i) (x := (cB (gd (cg C 1) i))) d_PG_tamper_30 hf_4 (by omega) (by decide) (hv_6 i (by first | omega | (simp only [List.length_append, List.length_cons, List.length_nil, List.length_replicate, sl_len, be_len, sha_len, xk_len, hmac_len, ex1_len, ex2_len, tag1_len, tC_len, stretch_len, chance_len, enc_len, pub_len, lbN_len, lbF_len, zer8_len, W0_len, W1_len, W2_len, W3_len, W4_len, W5_len, W6_len, W7_len, W8_len, W9_len, W10_len, W11_len, W12_len, W13_len, W14_len, W15_len, W16_len, W17_len, W18_len, W19_len, W20_len, W21_len, sec8_len, seal8_len, xr_len, pre8_len, xSess_len, xSrv_len, xCli_len]; omega))) ?_
  refine T_iload d_PG_tamper_31 rfl ?_
  refine T_i2b d_PG_tamper_33 ?_
  refine T_ixor d_PG_tamper_34 ?_
  refine T_i2b d_PG_tamper_35 ?_
  refine N_bastore (k := i) d_PG_tamper_36 ((by decide : ∀ s, s < 4 → K0 ≤ (282 + 26 * s)) s hs) hf_4 (by omega) (by decide) rfl (fun M_7 h_8 s_9 => ?_)
  refine T_iconst (v := nI 1) d_PG_tamper_37 (by decide) ?_
  have gq := (s_9 (281 + 26 * s) ((by decide : ∀ s, s < 4 → (281 + 26 * s) ≠ (282 + 26 * s)) s hs)).trans ea2.1
  have g : BY M_7 (281 + 26 * s) (282 + 26 * s) 320 ((cg C 1).set i (gd (cg C 1) i ^^^ u8 mask)) := ⟨by rw [List.length_set]; exact gq, _, h_8, by rw [List.length_set]; exact l2, fun j hj => ba_upd hv_6 hi (tam_v _ _) hj⟩
  have p_10 := (SO.kp (ea0) (Ex.kp s_9) ((by decide : ∀ s, s < 4 → (265 + 26 * s) ∉ [(282 + 26 * s)]) s hs) ((by decide : ∀ s, s < 4 → (266 + 26 * s) ∉ [(282 + 26 * s)]) s hs) ((by decide : ∀ s, s < 4 → (267 + 26 * s) ∉ [(282 + 26 * s)]) s hs))
  have p_11 := (BY.kp (ea1) (Ex.kp s_9) ((by decide : ∀ s, s < 4 → (279 + 26 * s) ∉ [(282 + 26 * s)]) s hs) ((by decide : ∀ s, s < 4 → (280 + 26 * s) ∉ [(282 + 26 * s)]) s hs))
  have p_12 := (BY.kp (ea3) (Ex.kp s_9) ((by decide : ∀ s, s < 4 → (283 + 26 * s) ∉ [(282 + 26 * s)]) s hs) ((by decide : ∀ s, s < 4 → (284 + 26 * s) ∉ [(282 + 26 * s)]) s hs))
  have p_13 := (BY.kp (ea4) (Ex.kp s_9) ((by decide : ∀ s, s < 4 → (285 + 26 * s) ∉ [(282 + 26 * s)]) s hs) ((by decide : ∀ s, s < 4 → (286 + 26 * s) ∉ [(282 + 26 * s)]) s hs))
  have p_14 := (BY.kp (ea5) (Ex.kp s_9) ((by decide : ∀ s, s < 4 → (287 + 26 * s) ∉ [(282 + 26 * s)]) s hs) ((by decide : ∀ s, s < 4 → (288 + 26 * s) ∉ [(282 + 26 * s)]) s hs))
  have p_15 := (BY.kp (ea6) (Ex.kp s_9) ((by decide : ∀ s, s < 4 → (289 + 26 * s) ∉ [(282 + 26 * s)]) s hs) ((by decide : ∀ s, s < 4 → (290 + 26 * s) ∉ [(282 + 26 * s)]) s hs))
  have p_16 := (BA.kp (ea7) (Ex.kp s_9) ((by decide : ∀ s, s < 4 → (268 + 26 * s) ∉ [(282 + 26 * s)]) s hs))
  have p_17 := (BA.kp (ea8) (Ex.kp s_9) ((by decide : ∀ s, s < 4 → (269 + 26 * s) ∉ [(282 + 26 * s)]) s hs))
  have p_18 := (ZA.kp (ea9) (Ex.kp s_9) ((by decide : ∀ s, s < 4 → (270 + 26 * s) ∉ [(282 + 26 * s)]) s hs))
  have p_19 := (BY.kp (ea10) (Ex.kp s_9) ((by decide : ∀ s, s < 4 → (271 + 26 * s) ∉ [(282 + 26 * s)]) s hs) ((by decide : ∀ s, s < 4 → (272 + 26 * s) ∉ [(282 + 26 * s)]) s hs))
  have p_20 := (BY.kp (ea11) (Ex.kp s_9) ((by decide : ∀ s, s < 4 → (273 + 26 * s) ∉ [(282 + 26 * s)]) s hs) ((by decide : ∀ s, s < 4 → (274 + 26 * s) ∉ [(282 + 26 * s)]) s hs))
  have p_21 := (BY.kp (ea12) (Ex.kp s_9) ((by decide : ∀ s, s < 4 → (275 + 26 * s) ∉ [(282 + 26 * s)]) s hs) ((by decide : ∀ s, s < 4 → (276 + 26 * s) ∉ [(282 + 26 * s)]) s hs))
  have p_22 := (BA.kp (ea13) (Ex.kp s_9) ((by decide : ∀ s, s < 4 → (277 + 26 * s) ∉ [(282 + 26 * s)]) s hs))
  have p_23 := (BA.kp (ea14) (Ex.kp s_9) ((by decide : ∀ s, s < 4 → (278 + 26 * s) ∉ [(282 + 26 * s)]) s hs))
  exact T_ret d_PG_tamper_38 rfl rfl (by decide) (by decide) ⟨rfl, ⟨p_10, p_11, g, p_12, p_13, p_14, p_15, p_16, p_17, p_18, p_19, p_20, ⟨_, p_21⟩, p_22, p_23⟩, (KR.tr KR.rf (Ex.kp s_9) ((by decide +kernel : ∀ s, s < 4 → ∀ q ∈ [(282 + 26 * s)], (265 + 26 * s ≤ q ∧ q ≤ 290 + 26 * s)) s hs))⟩
set_option maxHeartbeats 8000000 in
theorem y_PG_wire_3_in {G : GX} {M : List va_E} {s us b x : Nat} {t : Nat → Bool} {C : List (List UInt8)} {i : Nat} (hs : s < 4) (hi : i < (cg C 2).length) (hgo : GO M 61 264) (hse : SES M s us t C b x) : CT G mi_PG_wire [.ref 61, .int (nI s), .int (nI 3), .int (nI i)] M (fun r M' => r = some (.int (nI (gd (cg C 2) i).toNat)) ∧ M' = M) := by
  obtain ⟨ea0, ea1, ea2, ea3, ea4, ea5, ea6, ea7, ea8, ea9, ea10, ea11, ⟨el12, ea12⟩, ea13, ea14⟩ := id hse
  have l1 := ea1.2.le
  have l2 := ea2.2.le
  have l3 := ea3.2.le
  have l4 := ea4.2.le
  have l5 := ea5.2.le
  have l6 := ea6.2.le
  refine CT.of (by decide) (Nat.le_of_ble_eq_true rfl) ?_
  show TT G mi_PG_wire 0 [(0, .ref 61), (1, .int (nI s)), (2, .int (nI 3)), (3, .int (nI i))] [] M 0 0 _
  refine T_aload_n (v := .ref 61) d_PG_wire_0 rfl (Or.inr ⟨_, rfl⟩) ?_
  refine T_iload_n d_PG_wire_1 rfl ?_
  refine T_iload_n d_PG_wire_2 rfl ?_
  refine T_iload_n d_PG_wire_3 rfl ?_
  have cS_2 : SES M s us t C b x := ⟨ea0, ea1, ea2, ea3, ea4, ea5, ea6, ea7, ea8, ea9, ea10, ea11, ⟨_, ea12⟩, ea13, ea14⟩
  refine T_virtual (as := [.int (nI s), .int (nI 3), .int (nI i)]) (rest := []) (b := 61) d_PG_wire_4 rfl (jw_PG_isOnWire.jo (by decide)) lm_PG_154 ji_PG_isOnWire js_PG_isOnWire hgo.1 rfl rfl rfl (Nat.le_of_ble_eq_true rfl) (by decide) (by decide) (y_PG_isOnWire_3_in hs hi hgo cS_2) (fun r M_1 hq => ?_)
  obtain ⟨rfl, he⟩ := hq
  obtain rfl := he.symm
  refine T_eq (pc' := 7) (L' := [(0, .ref 61), (1, .int (nI s)), (2, .int (nI 3)), (3, .int (nI i))]) (st' := [.int (nI 1)]) (M' := M) rfl rfl rfl rfl ?_
  refine N_if_ne_t (b := 1) d_PG_wire_7 (tgt := 18) rfl (by omega) (by omega) ?_
  refine T_aload_n (v := .ref 61) d_PG_wire_18 rfl (Or.inr ⟨_, rfl⟩) ?_
  refine T_getfield (v := .ref 264) d_PG_wire_19 fg_PG_34 hgo.1 rfl ?_
  refine T_iload_n d_PG_wire_22 rfl ?_
  refine N_aaload (k := s) (p := (265 + 26 * s)) (C0 := "PasswordGate$Session") d_PG_wire_23 (by decide) hgo.2 rfl (by omega) (by decide) (if_pos hs) ?_
  refine T_getfield (v := .ref (266 + 26 * s)) d_PG_wire_24 fg_PG_158 ea0.1 rfl ?_
  refine T_iload_n d_PG_wire_27 rfl ?_
  refine T_iconst (v := nI 1) d_PG_wire_28 (by decide) ?_
  refine N_isub (a := 1) (b := 3) (c := 2) d_PG_wire_29 (by omega) rfl ?_
  refine N_aaload (k := 2) (p := (283 + 26 * s)) (C0 := "PasswordGate$Bytes") d_PG_wire_30 ((by decide : ∀ s, s < 4 → K0 ≤ (266 + 26 * s)) s hs) ea0.2.1 rfl (by omega) (by decide) rfl ?_
  refine T_getfield (v := .ref (284 + 26 * s)) d_PG_wire_31 fg_PG_93 ea3.1 rfl ?_
  refine T_iload_n d_PG_wire_34 rfl ?_
  obtain ⟨f_3, hf_4, hl_5, hv_6⟩ := id ea3.2
  refine N_baload (k := i) (x := (cB (gd (cg C 2) i))) d_PG_wire_35 hf_4 (by omega) (by decide) (hv_6 i (by first | omega | (simp only [List.length_append, List.length_cons, List.length_nil, List.length_replicate, sl_len, be_len, sha_len, xk_len, hmac_len, ex1_len, ex2_len, tag1_len, tC_len, stretch_len, chance_len, enc_len, pub_len, lbN_len, lbF_len, zer8_len, W0_len, W1_len, W2_len, W3_len, W4_len, W5_len, W6_len, W7_len, W8_len, W9_len, W10_len, W11_len, W12_len, W13_len, W14_len, W15_len, W16_len, W17_len, W18_len, W19_len, W20_len, W21_len, sec8_len, seal8_len, xr_len, pre8_len, xSess_len, xSrv_len, xCli_len]; omega))) ?_
  refine T_sipush (v := nI 255) d_PG_wire_36 (by decide) ?_
  refine T_iand d_PG_wire_39 ?_
  exact T_ret d_PG_wire_40 rfl rfl (by decide) (by decide) ⟨by rw [cB_255], rfl⟩
set_option maxHeartbeats 8000000 in
theorem y_PG_tamper_3_in {G : GX} {M : List va_E} {s us b x : Nat} {t : Nat → Bool} {C : List (List UInt8)} {i : Nat} {mask : Int32} (hs : s < 4) (hi : i < (cg C 2).length) (hgo : GO M 61 264) (hse : SES M s us t C b x) : CT G mi_PG_tamper [.ref 61, .int (nI s), .int (nI 3), .int (nI i), .int mask] M (fun r M' => r = some (.int (nI 1)) ∧ SES M' s us t [cg C 0, cg C 1, (cg C 2).set i (gd (cg C 2) i ^^^ u8 mask), cg C 3, cg C 4, cg C 5, cg C 6, cg C 7, cg C 8, cg C 9] b x ∧ KR (fun q => 265 + 26 * s ≤ q ∧ q ≤ 290 + 26 * s) M M') := by
  obtain ⟨ea0, ea1, ea2, ea3, ea4, ea5, ea6, ea7, ea8, ea9, ea10, ea11, ⟨el12, ea12⟩, ea13, ea14⟩ := id hse
  have l1 := ea1.2.le
  have l2 := ea2.2.le
  have l3 := ea3.2.le
  have l4 := ea4.2.le
  have l5 := ea5.2.le
  have l6 := ea6.2.le
  refine CT.of (by decide) (Nat.le_of_ble_eq_true rfl) ?_
  show TT G mi_PG_tamper 0 [(0, .ref 61), (1, .int (nI s)), (2, .int (nI 3)), (3, .int (nI i)), (4, .int mask)] [] M 0 0 _
  refine T_aload_n (v := .ref 61) d_PG_tamper_0 rfl (Or.inr ⟨_, rfl⟩) ?_
  refine T_iload_n d_PG_tamper_1 rfl ?_
  refine T_iload_n d_PG_tamper_2 rfl ?_
  refine T_iload_n d_PG_tamper_3 rfl ?_
  have cS_2 : SES M s us t C b x := ⟨ea0, ea1, ea2, ea3, ea4, ea5, ea6, ea7, ea8, ea9, ea10, ea11, ⟨_, ea12⟩, ea13, ea14⟩
  refine T_virtual (as := [.int (nI s), .int (nI 3), .int (nI i)]) (rest := []) (b := 61) d_PG_tamper_4 rfl (jw_PG_isOnWire.jo (by decide)) lm_PG_154 ji_PG_isOnWire js_PG_isOnWire hgo.1 rfl rfl rfl (Nat.le_of_ble_eq_true rfl) (by decide) (by decide) (y_PG_isOnWire_3_in hs hi hgo cS_2) (fun r M_1 hq => ?_)
  obtain ⟨rfl, he⟩ := hq
  obtain rfl := he.symm
  refine T_eq (pc' := 7) (L' := [(0, .ref 61), (1, .int (nI s)), (2, .int (nI 3)), (3, .int (nI i)), (4, .int mask)]) (st' := [.int (nI 1)]) (M' := M) rfl rfl rfl rfl ?_
  refine N_if_ne_t (b := 1) d_PG_tamper_7 (tgt := 12) rfl (by omega) (by omega) ?_
  refine T_aload_n (v := .ref 61) d_PG_tamper_12 rfl (Or.inr ⟨_, rfl⟩) ?_
  refine T_getfield (v := .ref 264) d_PG_tamper_13 fg_PG_34 hgo.1 rfl ?_
  refine T_iload_n d_PG_tamper_16 rfl ?_
  refine N_aaload (k := s) (p := (265 + 26 * s)) (C0 := "PasswordGate$Session") d_PG_tamper_17 (by decide) hgo.2 rfl (by omega) (by decide) (if_pos hs) ?_
  refine T_getfield (v := .ref (266 + 26 * s)) d_PG_tamper_18 fg_PG_158 ea0.1 rfl ?_
  refine T_iload_n d_PG_tamper_21 rfl ?_
  refine T_iconst (v := nI 1) d_PG_tamper_22 (by decide) ?_
  refine N_isub (a := 1) (b := 3) (c := 2) d_PG_tamper_23 (by omega) rfl ?_
  refine N_aaload (k := 2) (p := (283 + 26 * s)) (C0 := "PasswordGate$Bytes") d_PG_tamper_24 ((by decide : ∀ s, s < 4 → K0 ≤ (266 + 26 * s)) s hs) ea0.2.1 rfl (by omega) (by decide) rfl ?_
  refine T_getfield (v := .ref (284 + 26 * s)) d_PG_tamper_25 fg_PG_93 ea3.1 rfl ?_
  refine T_iload_n d_PG_tamper_28 rfl ?_
  obtain ⟨f_3, hf_4, hl_5, hv_6⟩ := id ea3.2
  refine T_dup2 d_PG_tamper_29 rfl rfl ?_
  refine N_baload (k := i) (x := (cB (gd (cg C 2) i))) d_PG_tamper_30 hf_4 (by omega) (by decide) (hv_6 i (by first | omega | (simp only [List.length_append, List.length_cons, List.length_nil, List.length_replicate, sl_len, be_len, sha_len, xk_len, hmac_len, ex1_len, ex2_len, tag1_len, tC_len, stretch_len, chance_len, enc_len, pub_len, lbN_len, lbF_len, zer8_len, W0_len, W1_len, W2_len, W3_len, W4_len, W5_len, W6_len, W7_len, W8_len, W9_len, W10_len, W11_len, W12_len, W13_len, W14_len, W15_len, W16_len, W17_len, W18_len, W19_len, W20_len, W21_len, sec8_len, seal8_len, xr_len, pre8_len, xSess_len, xSrv_len, xCli_len]; omega))) ?_
  refine T_iload d_PG_tamper_31 rfl ?_
  refine T_i2b d_PG_tamper_33 ?_
  refine T_ixor d_PG_tamper_34 ?_
  refine T_i2b d_PG_tamper_35 ?_
  refine N_bastore (k := i) d_PG_tamper_36 ((by decide : ∀ s, s < 4 → K0 ≤ (284 + 26 * s)) s hs) hf_4 (by omega) (by decide) rfl (fun M_7 h_8 s_9 => ?_)
  refine T_iconst (v := nI 1) d_PG_tamper_37 (by decide) ?_
  have gq := (s_9 (283 + 26 * s) ((by decide : ∀ s, s < 4 → (283 + 26 * s) ≠ (284 + 26 * s)) s hs)).trans ea3.1
  have g : BY M_7 (283 + 26 * s) (284 + 26 * s) 64 ((cg C 2).set i (gd (cg C 2) i ^^^ u8 mask)) := ⟨by rw [List.length_set]; exact gq, _, h_8, by rw [List.length_set]; exact l3, fun j hj => ba_upd hv_6 hi (tam_v _ _) hj⟩
  have p_10 := (SO.kp (ea0) (Ex.kp s_9) ((by decide : ∀ s, s < 4 → (265 + 26 * s) ∉ [(284 + 26 * s)]) s hs) ((by decide : ∀ s, s < 4 → (266 + 26 * s) ∉ [(284 + 26 * s)]) s hs) ((by decide : ∀ s, s < 4 → (267 + 26 * s) ∉ [(284 + 26 * s)]) s hs))
  have p_11 := (BY.kp (ea1) (Ex.kp s_9) ((by decide : ∀ s, s < 4 → (279 + 26 * s) ∉ [(284 + 26 * s)]) s hs) ((by decide : ∀ s, s < 4 → (280 + 26 * s) ∉ [(284 + 26 * s)]) s hs))
  have p_12 := (BY.kp (ea2) (Ex.kp s_9) ((by decide : ∀ s, s < 4 → (281 + 26 * s) ∉ [(284 + 26 * s)]) s hs) ((by decide : ∀ s, s < 4 → (282 + 26 * s) ∉ [(284 + 26 * s)]) s hs))
  have p_13 := (BY.kp (ea4) (Ex.kp s_9) ((by decide : ∀ s, s < 4 → (285 + 26 * s) ∉ [(284 + 26 * s)]) s hs) ((by decide : ∀ s, s < 4 → (286 + 26 * s) ∉ [(284 + 26 * s)]) s hs))
  have p_14 := (BY.kp (ea5) (Ex.kp s_9) ((by decide : ∀ s, s < 4 → (287 + 26 * s) ∉ [(284 + 26 * s)]) s hs) ((by decide : ∀ s, s < 4 → (288 + 26 * s) ∉ [(284 + 26 * s)]) s hs))
  have p_15 := (BY.kp (ea6) (Ex.kp s_9) ((by decide : ∀ s, s < 4 → (289 + 26 * s) ∉ [(284 + 26 * s)]) s hs) ((by decide : ∀ s, s < 4 → (290 + 26 * s) ∉ [(284 + 26 * s)]) s hs))
  have p_16 := (BA.kp (ea7) (Ex.kp s_9) ((by decide : ∀ s, s < 4 → (268 + 26 * s) ∉ [(284 + 26 * s)]) s hs))
  have p_17 := (BA.kp (ea8) (Ex.kp s_9) ((by decide : ∀ s, s < 4 → (269 + 26 * s) ∉ [(284 + 26 * s)]) s hs))
  have p_18 := (ZA.kp (ea9) (Ex.kp s_9) ((by decide : ∀ s, s < 4 → (270 + 26 * s) ∉ [(284 + 26 * s)]) s hs))
  have p_19 := (BY.kp (ea10) (Ex.kp s_9) ((by decide : ∀ s, s < 4 → (271 + 26 * s) ∉ [(284 + 26 * s)]) s hs) ((by decide : ∀ s, s < 4 → (272 + 26 * s) ∉ [(284 + 26 * s)]) s hs))
  have p_20 := (BY.kp (ea11) (Ex.kp s_9) ((by decide : ∀ s, s < 4 → (273 + 26 * s) ∉ [(284 + 26 * s)]) s hs) ((by decide : ∀ s, s < 4 → (274 + 26 * s) ∉ [(284 + 26 * s)]) s hs))
  have p_21 := (BY.kp (ea12) (Ex.kp s_9) ((by decide : ∀ s, s < 4 → (275 + 26 * s) ∉ [(284 + 26 * s)]) s hs) ((by decide : ∀ s, s < 4 → (276 + 26 * s) ∉ [(284 + 26 * s)]) s hs))
  have p_22 := (BA.kp (ea13) (Ex.kp s_9) ((by decide : ∀ s, s < 4 → (277 + 26 * s) ∉ [(284 + 26 * s)]) s hs))
  have p_23 := (BA.kp (ea14) (Ex.kp s_9) ((by decide : ∀ s, s < 4 → (278 + 26 * s) ∉ [(284 + 26 * s)]) s hs))
  exact T_ret d_PG_tamper_38 rfl rfl (by decide) (by decide) ⟨rfl, ⟨p_10, p_11, p_12, g, p_13, p_14, p_15, p_16, p_17, p_18, p_19, p_20, ⟨_, p_21⟩, p_22, p_23⟩, (KR.tr KR.rf (Ex.kp s_9) ((by decide +kernel : ∀ s, s < 4 → ∀ q ∈ [(284 + 26 * s)], (265 + 26 * s ≤ q ∧ q ≤ 290 + 26 * s)) s hs))⟩
set_option maxHeartbeats 8000000 in
theorem y_PG_tamper_sneg {G : GX} {M : List va_E}  {x y z : Int32} (hx : x < 0) {mask : Int32} (hgo : GO M 61 264)  : CT G mi_PG_tamper [.ref 61, .int x, .int y, .int z, .int mask] M (fun r M' => r = some (.int (nI 0)) ∧ M' = M) := by
  refine CT.of (by decide) (Nat.le_of_ble_eq_true rfl) ?_
  show TT G mi_PG_tamper 0 [(0, .ref 61), (1, .int x), (2, .int y), (3, .int z), (4, .int mask)] [] M 0 0 _
  refine T_aload_n (v := .ref 61) d_PG_tamper_0 rfl (Or.inr ⟨_, rfl⟩) ?_
  refine T_iload_n d_PG_tamper_1 rfl ?_
  refine T_iload_n d_PG_tamper_2 rfl ?_
  refine T_iload_n d_PG_tamper_3 rfl ?_
  refine T_virtual (as := [.int x, .int y, .int z]) (rest := []) (b := 61) d_PG_tamper_4 rfl (jw_PG_isOnWire.jo (by decide)) lm_PG_154 ji_PG_isOnWire js_PG_isOnWire hgo.1 rfl rfl rfl (Nat.le_of_ble_eq_true rfl) (by decide) (by decide) (y_PG_isOnWire_sneg hx) (fun r M_1 hq => ?_)
  obtain ⟨rfl, he⟩ := hq
  obtain rfl := he.symm
  refine T_eq (pc' := 7) (L' := [(0, .ref 61), (1, .int x), (2, .int y), (3, .int z), (4, .int mask)]) (st' := [.int (nI 0)]) (M' := M) rfl rfl rfl rfl ?_
  refine N_if_ne_f (b := 0) d_PG_tamper_7 (tgt := 12) rfl (by omega) (by omega) ?_
  refine T_iconst (v := nI 0) d_PG_tamper_10 (by decide) ?_
  exact T_ret d_PG_tamper_11 rfl rfl (by decide) (by decide) ⟨rfl, rfl⟩
set_option maxHeartbeats 8000000 in
theorem y_PG_tamper_sbig {G : GX} {M : List va_E}  {x y z : Int32} (h0 : ¬ x < 0) (hx : nI 4 ≤ x) {mask : Int32} (hgo : GO M 61 264)  : CT G mi_PG_tamper [.ref 61, .int x, .int y, .int z, .int mask] M (fun r M' => r = some (.int (nI 0)) ∧ M' = M) := by
  refine CT.of (by decide) (Nat.le_of_ble_eq_true rfl) ?_
  show TT G mi_PG_tamper 0 [(0, .ref 61), (1, .int x), (2, .int y), (3, .int z), (4, .int mask)] [] M 0 0 _
  refine T_aload_n (v := .ref 61) d_PG_tamper_0 rfl (Or.inr ⟨_, rfl⟩) ?_
  refine T_iload_n d_PG_tamper_1 rfl ?_
  refine T_iload_n d_PG_tamper_2 rfl ?_
  refine T_iload_n d_PG_tamper_3 rfl ?_
  refine T_virtual (as := [.int x, .int y, .int z]) (rest := []) (b := 61) d_PG_tamper_4 rfl (jw_PG_isOnWire.jo (by decide)) lm_PG_154 ji_PG_isOnWire js_PG_isOnWire hgo.1 rfl rfl rfl (Nat.le_of_ble_eq_true rfl) (by decide) (by decide) (y_PG_isOnWire_sbig h0 hx) (fun r M_1 hq => ?_)
  obtain ⟨rfl, he⟩ := hq
  obtain rfl := he.symm
  refine T_eq (pc' := 7) (L' := [(0, .ref 61), (1, .int x), (2, .int y), (3, .int z), (4, .int mask)]) (st' := [.int (nI 0)]) (M' := M) rfl rfl rfl rfl ?_
  refine N_if_ne_f (b := 0) d_PG_tamper_7 (tgt := 12) rfl (by omega) (by omega) ?_
  refine T_iconst (v := nI 0) d_PG_tamper_10 (by decide) ?_
  exact T_ret d_PG_tamper_11 rfl rfl (by decide) (by decide) ⟨rfl, rfl⟩
set_option maxHeartbeats 8000000 in
theorem y_PG_tamper_mlt {G : GX} {M : List va_E}  {s : Nat} {y z : Int32} (hs : s < 4) (hy : y < nI 1) {mask : Int32} (hgo : GO M 61 264)  : CT G mi_PG_tamper [.ref 61, .int (nI s), .int y, .int z, .int mask] M (fun r M' => r = some (.int (nI 0)) ∧ M' = M) := by
  refine CT.of (by decide) (Nat.le_of_ble_eq_true rfl) ?_
  show TT G mi_PG_tamper 0 [(0, .ref 61), (1, .int (nI s)), (2, .int y), (3, .int z), (4, .int mask)] [] M 0 0 _
  refine T_aload_n (v := .ref 61) d_PG_tamper_0 rfl (Or.inr ⟨_, rfl⟩) ?_
  refine T_iload_n d_PG_tamper_1 rfl ?_
  refine T_iload_n d_PG_tamper_2 rfl ?_
  refine T_iload_n d_PG_tamper_3 rfl ?_
  refine T_virtual (as := [.int (nI s), .int y, .int z]) (rest := []) (b := 61) d_PG_tamper_4 rfl (jw_PG_isOnWire.jo (by decide)) lm_PG_154 ji_PG_isOnWire js_PG_isOnWire hgo.1 rfl rfl rfl (Nat.le_of_ble_eq_true rfl) (by decide) (by decide) (y_PG_isOnWire_mlt hs hy) (fun r M_1 hq => ?_)
  obtain ⟨rfl, he⟩ := hq
  obtain rfl := he.symm
  refine T_eq (pc' := 7) (L' := [(0, .ref 61), (1, .int (nI s)), (2, .int y), (3, .int z), (4, .int mask)]) (st' := [.int (nI 0)]) (M' := M) rfl rfl rfl rfl ?_
  refine N_if_ne_f (b := 0) d_PG_tamper_7 (tgt := 12) rfl (by omega) (by omega) ?_
  refine T_iconst (v := nI 0) d_PG_tamper_10 (by decide) ?_
  exact T_ret d_PG_tamper_11 rfl rfl (by decide) (by decide) ⟨rfl, rfl⟩
set_option maxHeartbeats 8000000 in
theorem y_PG_tamper_mgt {G : GX} {M : List va_E}  {s : Nat} {y z : Int32} (hs : s < 4) (h1 : ¬ y < nI 1) (hy : nI 3 < y) {mask : Int32} (hgo : GO M 61 264)  : CT G mi_PG_tamper [.ref 61, .int (nI s), .int y, .int z, .int mask] M (fun r M' => r = some (.int (nI 0)) ∧ M' = M) := by
  refine CT.of (by decide) (Nat.le_of_ble_eq_true rfl) ?_
  show TT G mi_PG_tamper 0 [(0, .ref 61), (1, .int (nI s)), (2, .int y), (3, .int z), (4, .int mask)] [] M 0 0 _
  refine T_aload_n (v := .ref 61) d_PG_tamper_0 rfl (Or.inr ⟨_, rfl⟩) ?_
  refine T_iload_n d_PG_tamper_1 rfl ?_
  refine T_iload_n d_PG_tamper_2 rfl ?_
  refine T_iload_n d_PG_tamper_3 rfl ?_
  refine T_virtual (as := [.int (nI s), .int y, .int z]) (rest := []) (b := 61) d_PG_tamper_4 rfl (jw_PG_isOnWire.jo (by decide)) lm_PG_154 ji_PG_isOnWire js_PG_isOnWire hgo.1 rfl rfl rfl (Nat.le_of_ble_eq_true rfl) (by decide) (by decide) (y_PG_isOnWire_mgt hs h1 hy) (fun r M_1 hq => ?_)
  obtain ⟨rfl, he⟩ := hq
  obtain rfl := he.symm
  refine T_eq (pc' := 7) (L' := [(0, .ref 61), (1, .int (nI s)), (2, .int y), (3, .int z), (4, .int mask)]) (st' := [.int (nI 0)]) (M' := M) rfl rfl rfl rfl ?_
  refine N_if_ne_f (b := 0) d_PG_tamper_7 (tgt := 12) rfl (by omega) (by omega) ?_
  refine T_iconst (v := nI 0) d_PG_tamper_10 (by decide) ?_
  exact T_ret d_PG_tamper_11 rfl rfl (by decide) (by decide) ⟨rfl, rfl⟩
set_option maxHeartbeats 8000000 in
theorem y_PG_tamper_1_out {G : GX} {M : List va_E} {s us b x : Nat} {t : Nat → Bool} {C : List (List UInt8)} {i : Nat} (hs : s < 4) (hi : (cg C 0).length ≤ i) (hi2 : i < 2147483648) {mask : Int32} (hgo : GO M 61 264) (hse : SES M s us t C b x) : CT G mi_PG_tamper [.ref 61, .int (nI s), .int (nI 1), .int (nI i), .int mask] M (fun r M' => r = some (.int (nI 0)) ∧ M' = M) := by
  obtain ⟨ea0, ea1, ea2, ea3, ea4, ea5, ea6, ea7, ea8, ea9, ea10, ea11, ⟨el12, ea12⟩, ea13, ea14⟩ := id hse
  have l1 := ea1.2.le
  have l2 := ea2.2.le
  have l3 := ea3.2.le
  have l4 := ea4.2.le
  have l5 := ea5.2.le
  have l6 := ea6.2.le
  refine CT.of (by decide) (Nat.le_of_ble_eq_true rfl) ?_
  show TT G mi_PG_tamper 0 [(0, .ref 61), (1, .int (nI s)), (2, .int (nI 1)), (3, .int (nI i)), (4, .int mask)] [] M 0 0 _
  refine T_aload_n (v := .ref 61) d_PG_tamper_0 rfl (Or.inr ⟨_, rfl⟩) ?_
  refine T_iload_n d_PG_tamper_1 rfl ?_
  refine T_iload_n d_PG_tamper_2 rfl ?_
  refine T_iload_n d_PG_tamper_3 rfl ?_
  have cS_2 : SES M s us t C b x := ⟨ea0, ea1, ea2, ea3, ea4, ea5, ea6, ea7, ea8, ea9, ea10, ea11, ⟨_, ea12⟩, ea13, ea14⟩
  refine T_virtual (as := [.int (nI s), .int (nI 1), .int (nI i)]) (rest := []) (b := 61) d_PG_tamper_4 rfl (jw_PG_isOnWire.jo (by decide)) lm_PG_154 ji_PG_isOnWire js_PG_isOnWire hgo.1 rfl rfl rfl (Nat.le_of_ble_eq_true rfl) (by decide) (by decide) (y_PG_isOnWire_1_out hs hi hi2 hgo cS_2) (fun r M_1 hq => ?_)
  obtain ⟨rfl, he⟩ := hq
  obtain rfl := he.symm
  refine T_eq (pc' := 7) (L' := [(0, .ref 61), (1, .int (nI s)), (2, .int (nI 1)), (3, .int (nI i)), (4, .int mask)]) (st' := [.int (nI 0)]) (M' := M) rfl rfl rfl rfl ?_
  refine N_if_ne_f (b := 0) d_PG_tamper_7 (tgt := 12) rfl (by omega) (by omega) ?_
  refine T_iconst (v := nI 0) d_PG_tamper_10 (by decide) ?_
  exact T_ret d_PG_tamper_11 rfl rfl (by decide) (by decide) ⟨rfl, rfl⟩
set_option maxHeartbeats 8000000 in
theorem y_PG_tamper_2_out {G : GX} {M : List va_E} {s us b x : Nat} {t : Nat → Bool} {C : List (List UInt8)} {i : Nat} (hs : s < 4) (hi : (cg C 1).length ≤ i) (hi2 : i < 2147483648) {mask : Int32} (hgo : GO M 61 264) (hse : SES M s us t C b x) : CT G mi_PG_tamper [.ref 61, .int (nI s), .int (nI 2), .int (nI i), .int mask] M (fun r M' => r = some (.int (nI 0)) ∧ M' = M) := by
  obtain ⟨ea0, ea1, ea2, ea3, ea4, ea5, ea6, ea7, ea8, ea9, ea10, ea11, ⟨el12, ea12⟩, ea13, ea14⟩ := id hse
  have l1 := ea1.2.le
  have l2 := ea2.2.le
  have l3 := ea3.2.le
  have l4 := ea4.2.le
  have l5 := ea5.2.le
  have l6 := ea6.2.le
  refine CT.of (by decide) (Nat.le_of_ble_eq_true rfl) ?_
  show TT G mi_PG_tamper 0 [(0, .ref 61), (1, .int (nI s)), (2, .int (nI 2)), (3, .int (nI i)), (4, .int mask)] [] M 0 0 _
  refine T_aload_n (v := .ref 61) d_PG_tamper_0 rfl (Or.inr ⟨_, rfl⟩) ?_
  refine T_iload_n d_PG_tamper_1 rfl ?_
  refine T_iload_n d_PG_tamper_2 rfl ?_
  refine T_iload_n d_PG_tamper_3 rfl ?_
  have cS_2 : SES M s us t C b x := ⟨ea0, ea1, ea2, ea3, ea4, ea5, ea6, ea7, ea8, ea9, ea10, ea11, ⟨_, ea12⟩, ea13, ea14⟩
  refine T_virtual (as := [.int (nI s), .int (nI 2), .int (nI i)]) (rest := []) (b := 61) d_PG_tamper_4 rfl (jw_PG_isOnWire.jo (by decide)) lm_PG_154 ji_PG_isOnWire js_PG_isOnWire hgo.1 rfl rfl rfl (Nat.le_of_ble_eq_true rfl) (by decide) (by decide) (y_PG_isOnWire_2_out hs hi hi2 hgo cS_2) (fun r M_1 hq => ?_)
  obtain ⟨rfl, he⟩ := hq
  obtain rfl := he.symm
  refine T_eq (pc' := 7) (L' := [(0, .ref 61), (1, .int (nI s)), (2, .int (nI 2)), (3, .int (nI i)), (4, .int mask)]) (st' := [.int (nI 0)]) (M' := M) rfl rfl rfl rfl ?_
  refine N_if_ne_f (b := 0) d_PG_tamper_7 (tgt := 12) rfl (by omega) (by omega) ?_
  refine T_iconst (v := nI 0) d_PG_tamper_10 (by decide) ?_
  exact T_ret d_PG_tamper_11 rfl rfl (by decide) (by decide) ⟨rfl, rfl⟩
set_option maxHeartbeats 8000000 in
theorem y_PG_tamper_3_out {G : GX} {M : List va_E} {s us b x : Nat} {t : Nat → Bool} {C : List (List UInt8)} {i : Nat} (hs : s < 4) (hi : (cg C 2).length ≤ i) (hi2 : i < 2147483648) {mask : Int32} (hgo : GO M 61 264) (hse : SES M s us t C b x) : CT G mi_PG_tamper [.ref 61, .int (nI s), .int (nI 3), .int (nI i), .int mask] M (fun r M' => r = some (.int (nI 0)) ∧ M' = M) := by
  obtain ⟨ea0, ea1, ea2, ea3, ea4, ea5, ea6, ea7, ea8, ea9, ea10, ea11, ⟨el12, ea12⟩, ea13, ea14⟩ := id hse
  have l1 := ea1.2.le
  have l2 := ea2.2.le
  have l3 := ea3.2.le
  have l4 := ea4.2.le
  have l5 := ea5.2.le
  have l6 := ea6.2.le
  refine CT.of (by decide) (Nat.le_of_ble_eq_true rfl) ?_
  show TT G mi_PG_tamper 0 [(0, .ref 61), (1, .int (nI s)), (2, .int (nI 3)), (3, .int (nI i)), (4, .int mask)] [] M 0 0 _
  refine T_aload_n (v := .ref 61) d_PG_tamper_0 rfl (Or.inr ⟨_, rfl⟩) ?_
  refine T_iload_n d_PG_tamper_1 rfl ?_
  refine T_iload_n d_PG_tamper_2 rfl ?_
  refine T_iload_n d_PG_tamper_3 rfl ?_
  have cS_2 : SES M s us t C b x := ⟨ea0, ea1, ea2, ea3, ea4, ea5, ea6, ea7, ea8, ea9, ea10, ea11, ⟨_, ea12⟩, ea13, ea14⟩
  refine T_virtual (as := [.int (nI s), .int (nI 3), .int (nI i)]) (rest := []) (b := 61) d_PG_tamper_4 rfl (jw_PG_isOnWire.jo (by decide)) lm_PG_154 ji_PG_isOnWire js_PG_isOnWire hgo.1 rfl rfl rfl (Nat.le_of_ble_eq_true rfl) (by decide) (by decide) (y_PG_isOnWire_3_out hs hi hi2 hgo cS_2) (fun r M_1 hq => ?_)
  obtain ⟨rfl, he⟩ := hq
  obtain rfl := he.symm
  refine T_eq (pc' := 7) (L' := [(0, .ref 61), (1, .int (nI s)), (2, .int (nI 3)), (3, .int (nI i)), (4, .int mask)]) (st' := [.int (nI 0)]) (M' := M) rfl rfl rfl rfl ?_
  refine N_if_ne_f (b := 0) d_PG_tamper_7 (tgt := 12) rfl (by omega) (by omega) ?_
  refine T_iconst (v := nI 0) d_PG_tamper_10 (by decide) ?_
  exact T_ret d_PG_tamper_11 rfl rfl (by decide) (by decide) ⟨rfl, rfl⟩
set_option maxHeartbeats 8000000 in
theorem y_PG_tamper_1_neg {G : GX} {M : List va_E} {s us b x : Nat} {t : Nat → Bool} {C : List (List UInt8)} {z : Int32} (hs : s < 4) (hx : z < 0) {mask : Int32} (hgo : GO M 61 264) (hse : SES M s us t C b x) : CT G mi_PG_tamper [.ref 61, .int (nI s), .int (nI 1), .int z, .int mask] M (fun r M' => r = some (.int (nI 0)) ∧ M' = M) := by
  obtain ⟨ea0, ea1, ea2, ea3, ea4, ea5, ea6, ea7, ea8, ea9, ea10, ea11, ⟨el12, ea12⟩, ea13, ea14⟩ := id hse
  have l1 := ea1.2.le
  have l2 := ea2.2.le
  have l3 := ea3.2.le
  have l4 := ea4.2.le
  have l5 := ea5.2.le
  have l6 := ea6.2.le
  refine CT.of (by decide) (Nat.le_of_ble_eq_true rfl) ?_
  show TT G mi_PG_tamper 0 [(0, .ref 61), (1, .int (nI s)), (2, .int (nI 1)), (3, .int z), (4, .int mask)] [] M 0 0 _
  refine T_aload_n (v := .ref 61) d_PG_tamper_0 rfl (Or.inr ⟨_, rfl⟩) ?_
  refine T_iload_n d_PG_tamper_1 rfl ?_
  refine T_iload_n d_PG_tamper_2 rfl ?_
  refine T_iload_n d_PG_tamper_3 rfl ?_
  have cS_2 : SES M s us t C b x := ⟨ea0, ea1, ea2, ea3, ea4, ea5, ea6, ea7, ea8, ea9, ea10, ea11, ⟨_, ea12⟩, ea13, ea14⟩
  refine T_virtual (as := [.int (nI s), .int (nI 1), .int z]) (rest := []) (b := 61) d_PG_tamper_4 rfl (jw_PG_isOnWire.jo (by decide)) lm_PG_154 ji_PG_isOnWire js_PG_isOnWire hgo.1 rfl rfl rfl (Nat.le_of_ble_eq_true rfl) (by decide) (by decide) (y_PG_isOnWire_1_neg hs hx hgo cS_2) (fun r M_1 hq => ?_)
  obtain ⟨rfl, he⟩ := hq
  obtain rfl := he.symm
  refine T_eq (pc' := 7) (L' := [(0, .ref 61), (1, .int (nI s)), (2, .int (nI 1)), (3, .int z), (4, .int mask)]) (st' := [.int (nI 0)]) (M' := M) rfl rfl rfl rfl ?_
  refine N_if_ne_f (b := 0) d_PG_tamper_7 (tgt := 12) rfl (by omega) (by omega) ?_
  refine T_iconst (v := nI 0) d_PG_tamper_10 (by decide) ?_
  exact T_ret d_PG_tamper_11 rfl rfl (by decide) (by decide) ⟨rfl, rfl⟩
set_option maxHeartbeats 8000000 in
theorem y_PG_tamper_2_neg {G : GX} {M : List va_E} {s us b x : Nat} {t : Nat → Bool} {C : List (List UInt8)} {z : Int32} (hs : s < 4) (hx : z < 0) {mask : Int32} (hgo : GO M 61 264) (hse : SES M s us t C b x) : CT G mi_PG_tamper [.ref 61, .int (nI s), .int (nI 2), .int z, .int mask] M (fun r M' => r = some (.int (nI 0)) ∧ M' = M) := by
  obtain ⟨ea0, ea1, ea2, ea3, ea4, ea5, ea6, ea7, ea8, ea9, ea10, ea11, ⟨el12, ea12⟩, ea13, ea14⟩ := id hse
  have l1 := ea1.2.le
  have l2 := ea2.2.le
  have l3 := ea3.2.le
  have l4 := ea4.2.le
  have l5 := ea5.2.le
  have l6 := ea6.2.le
  refine CT.of (by decide) (Nat.le_of_ble_eq_true rfl) ?_
  show TT G mi_PG_tamper 0 [(0, .ref 61), (1, .int (nI s)), (2, .int (nI 2)), (3, .int z), (4, .int mask)] [] M 0 0 _
  refine T_aload_n (v := .ref 61) d_PG_tamper_0 rfl (Or.inr ⟨_, rfl⟩) ?_
  refine T_iload_n d_PG_tamper_1 rfl ?_
  refine T_iload_n d_PG_tamper_2 rfl ?_
  refine T_iload_n d_PG_tamper_3 rfl ?_
  have cS_2 : SES M s us t C b x := ⟨ea0, ea1, ea2, ea3, ea4, ea5, ea6, ea7, ea8, ea9, ea10, ea11, ⟨_, ea12⟩, ea13, ea14⟩
  refine T_virtual (as := [.int (nI s), .int (nI 2), .int z]) (rest := []) (b := 61) d_PG_tamper_4 rfl (jw_PG_isOnWire.jo (by decide)) lm_PG_154 ji_PG_isOnWire js_PG_isOnWire hgo.1 rfl rfl rfl (Nat.le_of_ble_eq_true rfl) (by decide) (by decide) (y_PG_isOnWire_2_neg hs hx hgo cS_2) (fun r M_1 hq => ?_)
  obtain ⟨rfl, he⟩ := hq
  obtain rfl := he.symm
  refine T_eq (pc' := 7) (L' := [(0, .ref 61), (1, .int (nI s)), (2, .int (nI 2)), (3, .int z), (4, .int mask)]) (st' := [.int (nI 0)]) (M' := M) rfl rfl rfl rfl ?_
  refine N_if_ne_f (b := 0) d_PG_tamper_7 (tgt := 12) rfl (by omega) (by omega) ?_
  refine T_iconst (v := nI 0) d_PG_tamper_10 (by decide) ?_
  exact T_ret d_PG_tamper_11 rfl rfl (by decide) (by decide) ⟨rfl, rfl⟩
set_option maxHeartbeats 8000000 in
theorem y_PG_tamper_3_neg {G : GX} {M : List va_E} {s us b x : Nat} {t : Nat → Bool} {C : List (List UInt8)} {z : Int32} (hs : s < 4) (hx : z < 0) {mask : Int32} (hgo : GO M 61 264) (hse : SES M s us t C b x) : CT G mi_PG_tamper [.ref 61, .int (nI s), .int (nI 3), .int z, .int mask] M (fun r M' => r = some (.int (nI 0)) ∧ M' = M) := by
  obtain ⟨ea0, ea1, ea2, ea3, ea4, ea5, ea6, ea7, ea8, ea9, ea10, ea11, ⟨el12, ea12⟩, ea13, ea14⟩ := id hse
  have l1 := ea1.2.le
  have l2 := ea2.2.le
  have l3 := ea3.2.le
  have l4 := ea4.2.le
  have l5 := ea5.2.le
  have l6 := ea6.2.le
  refine CT.of (by decide) (Nat.le_of_ble_eq_true rfl) ?_
  show TT G mi_PG_tamper 0 [(0, .ref 61), (1, .int (nI s)), (2, .int (nI 3)), (3, .int z), (4, .int mask)] [] M 0 0 _
  refine T_aload_n (v := .ref 61) d_PG_tamper_0 rfl (Or.inr ⟨_, rfl⟩) ?_
  refine T_iload_n d_PG_tamper_1 rfl ?_
  refine T_iload_n d_PG_tamper_2 rfl ?_
  refine T_iload_n d_PG_tamper_3 rfl ?_
  have cS_2 : SES M s us t C b x := ⟨ea0, ea1, ea2, ea3, ea4, ea5, ea6, ea7, ea8, ea9, ea10, ea11, ⟨_, ea12⟩, ea13, ea14⟩
  refine T_virtual (as := [.int (nI s), .int (nI 3), .int z]) (rest := []) (b := 61) d_PG_tamper_4 rfl (jw_PG_isOnWire.jo (by decide)) lm_PG_154 ji_PG_isOnWire js_PG_isOnWire hgo.1 rfl rfl rfl (Nat.le_of_ble_eq_true rfl) (by decide) (by decide) (y_PG_isOnWire_3_neg hs hx hgo cS_2) (fun r M_1 hq => ?_)
  obtain ⟨rfl, he⟩ := hq
  obtain rfl := he.symm
  refine T_eq (pc' := 7) (L' := [(0, .ref 61), (1, .int (nI s)), (2, .int (nI 3)), (3, .int z), (4, .int mask)]) (st' := [.int (nI 0)]) (M' := M) rfl rfl rfl rfl ?_
  refine N_if_ne_f (b := 0) d_PG_tamper_7 (tgt := 12) rfl (by omega) (by omega) ?_
  refine T_iconst (v := nI 0) d_PG_tamper_10 (by decide) ?_
  exact T_ret d_PG_tamper_11 rfl rfl (by decide) (by decide) ⟨rfl, rfl⟩
set_option maxHeartbeats 8000000 in
theorem y_PG_key_0_in {G : GX} {M : List va_E} {s us b x : Nat} {t : Nat → Bool} {C : List (List UInt8)} {i : Nat} (hs : s < 4) (hi : i < (cg C 3).length) (hgo : GO M 61 264) (hse : SES M s us t C b x) : CT G mi_PG_key [.ref 61, .int (nI s), .int (nI 0), .int (nI i)] M (fun r M' => r = some (.int (nI (gd (cg C 3) i).toNat)) ∧ M' = M) := by
  obtain ⟨ea0, ea1, ea2, ea3, ea4, ea5, ea6, ea7, ea8, ea9, ea10, ea11, ⟨el12, ea12⟩, ea13, ea14⟩ := id hse
  have l1 := ea1.2.le
  have l2 := ea2.2.le
  have l3 := ea3.2.le
  have l4 := ea4.2.le
  have l5 := ea5.2.le
  have l6 := ea6.2.le
  refine CT.of (by decide) (Nat.le_of_ble_eq_true rfl) ?_
  show TT G mi_PG_key 0 [(0, .ref 61), (1, .int (nI s)), (2, .int (nI 0)), (3, .int (nI i))] [] M 0 0 _
  refine T_iload_n d_PG_key_0 rfl ?_
  refine T_static (as := [.int (nI s)]) (rest := []) d_PG_key_1 rfl (jw_PG_isSession.jo (by decide)) lm_PG_133 jt_PG_isSession rfl (Nat.le_of_ble_eq_true rfl) (by decide) (by decide) (y_PG_isSession_in hs) (fun r M_1 hq => ?_)
  obtain ⟨rfl, he⟩ := hq
  obtain rfl := he.symm
  refine T_eq (pc' := 4) (L' := [(0, .ref 61), (1, .int (nI s)), (2, .int (nI 0)), (3, .int (nI i))]) (st' := [.int (nI 1)]) (M' := M) rfl rfl rfl rfl ?_
  refine N_if_eq_f (b := 1) d_PG_key_4 (tgt := 34) rfl (by omega) (by omega) ?_
  refine T_iload_n d_PG_key_7 rfl ?_
  refine N_if_lt_f (b := 0) d_PG_key_8 (tgt := 34) rfl (by omega) (by omega) ?_
  refine T_iload_n d_PG_key_11 rfl ?_
  refine T_iconst (v := nI 2) d_PG_key_12 (by decide) ?_
  refine N_icmp_gt_f (a := 2) (b := 0) d_PG_key_13 (tgt := 34) rfl (by omega) (by omega) (by omega) ?_
  refine T_aload_n (v := .ref 61) d_PG_key_16 rfl (Or.inr ⟨_, rfl⟩) ?_
  refine T_getfield (v := .ref 264) d_PG_key_17 fg_PG_34 hgo.1 rfl ?_
  refine T_iload_n d_PG_key_20 rfl ?_
  refine N_aaload (k := s) (p := (265 + 26 * s)) (C0 := "PasswordGate$Session") d_PG_key_21 (by decide) hgo.2 rfl (by omega) (by decide) (if_pos hs) ?_
  refine T_getfield (v := .ref (267 + 26 * s)) d_PG_key_22 fg_PG_162 ea0.1 rfl ?_
  refine T_iload_n d_PG_key_25 rfl ?_
  refine N_aaload (k := 0) (p := (285 + 26 * s)) (C0 := "PasswordGate$Bytes") d_PG_key_26 ((by decide : ∀ s, s < 4 → K0 ≤ (267 + 26 * s)) s hs) ea0.2.2 rfl (by omega) (by decide) rfl ?_
  refine T_iload_n d_PG_key_27 rfl ?_
  refine T_virtual (as := [.int (nI i)]) (rest := []) (b := (285 + 26 * s)) d_PG_key_28 rfl (jw_By_has.jo (by decide)) lm_PG_119 ji_By_has js_By_has ea4.1 rfl rfl rfl (Nat.le_of_ble_eq_true rfl) (by decide) (by decide) (y_By_has_in ea4 hi (by decide)) (fun r M_2 hq => ?_)
  obtain ⟨rfl, he⟩ := hq
  obtain rfl := he.symm
  refine T_eq (pc' := 31) (L' := [(0, .ref 61), (1, .int (nI s)), (2, .int (nI 0)), (3, .int (nI i))]) (st' := [.int (nI 1)]) (M' := M) rfl rfl rfl rfl ?_
  refine N_if_ne_t (b := 1) d_PG_key_31 (tgt := 42) rfl (by omega) (by omega) ?_
  refine T_aload_n (v := .ref 61) d_PG_key_42 rfl (Or.inr ⟨_, rfl⟩) ?_
  refine T_getfield (v := .ref 264) d_PG_key_43 fg_PG_34 hgo.1 rfl ?_
  refine T_iload_n d_PG_key_46 rfl ?_
  refine N_aaload (k := s) (p := (265 + 26 * s)) (C0 := "PasswordGate$Session") d_PG_key_47 (by decide) hgo.2 rfl (by omega) (by decide) (if_pos hs) ?_
  refine T_getfield (v := .ref (267 + 26 * s)) d_PG_key_48 fg_PG_162 ea0.1 rfl ?_
  refine T_iload_n d_PG_key_51 rfl ?_
  refine N_aaload (k := 0) (p := (285 + 26 * s)) (C0 := "PasswordGate$Bytes") d_PG_key_52 ((by decide : ∀ s, s < 4 → K0 ≤ (267 + 26 * s)) s hs) ea0.2.2 rfl (by omega) (by decide) rfl ?_
  refine T_getfield (v := .ref (286 + 26 * s)) d_PG_key_53 fg_PG_93 ea4.1 rfl ?_
  refine T_iload_n d_PG_key_56 rfl ?_
  obtain ⟨f_3, hf_4, hl_5, hv_6⟩ := id ea4.2
  refine N_baload (k := i) (x := (cB (gd (cg C 3) i))) d_PG_key_57 hf_4 (by omega) (by decide) (hv_6 i (by first | omega | (simp only [List.length_append, List.length_cons, List.length_nil, List.length_replicate, sl_len, be_len, sha_len, xk_len, hmac_len, ex1_len, ex2_len, tag1_len, tC_len, stretch_len, chance_len, enc_len, pub_len, lbN_len, lbF_len, zer8_len, W0_len, W1_len, W2_len, W3_len, W4_len, W5_len, W6_len, W7_len, W8_len, W9_len, W10_len, W11_len, W12_len, W13_len, W14_len, W15_len, W16_len, W17_len, W18_len, W19_len, W20_len, W21_len, sec8_len, seal8_len, xr_len, pre8_len, xSess_len, xSrv_len, xCli_len]; omega))) ?_
  refine T_sipush (v := nI 255) d_PG_key_58 (by decide) ?_
  refine T_iand d_PG_key_61 ?_
  exact T_ret d_PG_key_62 rfl rfl (by decide) (by decide) ⟨by rw [cB_255], rfl⟩
set_option maxHeartbeats 8000000 in
theorem y_PG_key_1_in {G : GX} {M : List va_E} {s us b x : Nat} {t : Nat → Bool} {C : List (List UInt8)} {i : Nat} (hs : s < 4) (hi : i < (cg C 4).length) (hgo : GO M 61 264) (hse : SES M s us t C b x) : CT G mi_PG_key [.ref 61, .int (nI s), .int (nI 1), .int (nI i)] M (fun r M' => r = some (.int (nI (gd (cg C 4) i).toNat)) ∧ M' = M) := by
  obtain ⟨ea0, ea1, ea2, ea3, ea4, ea5, ea6, ea7, ea8, ea9, ea10, ea11, ⟨el12, ea12⟩, ea13, ea14⟩ := id hse
  have l1 := ea1.2.le
  have l2 := ea2.2.le
  have l3 := ea3.2.le
  have l4 := ea4.2.le
  have l5 := ea5.2.le
  have l6 := ea6.2.le
  refine CT.of (by decide) (Nat.le_of_ble_eq_true rfl) ?_
  show TT G mi_PG_key 0 [(0, .ref 61), (1, .int (nI s)), (2, .int (nI 1)), (3, .int (nI i))] [] M 0 0 _
  refine T_iload_n d_PG_key_0 rfl ?_
  refine T_static (as := [.int (nI s)]) (rest := []) d_PG_key_1 rfl (jw_PG_isSession.jo (by decide)) lm_PG_133 jt_PG_isSession rfl (Nat.le_of_ble_eq_true rfl) (by decide) (by decide) (y_PG_isSession_in hs) (fun r M_1 hq => ?_)
  obtain ⟨rfl, he⟩ := hq
  obtain rfl := he.symm
  refine T_eq (pc' := 4) (L' := [(0, .ref 61), (1, .int (nI s)), (2, .int (nI 1)), (3, .int (nI i))]) (st' := [.int (nI 1)]) (M' := M) rfl rfl rfl rfl ?_
  refine N_if_eq_f (b := 1) d_PG_key_4 (tgt := 34) rfl (by omega) (by omega) ?_
  refine T_iload_n d_PG_key_7 rfl ?_
  refine N_if_lt_f (b := 1) d_PG_key_8 (tgt := 34) rfl (by omega) (by omega) ?_
  refine T_iload_n d_PG_key_11 rfl ?_
  refine T_iconst (v := nI 2) d_PG_key_12 (by decide) ?_
  refine N_icmp_gt_f (a := 2) (b := 1) d_PG_key_13 (tgt := 34) rfl (by omega) (by omega) (by omega) ?_
  refine T_aload_n (v := .ref 61) d_PG_key_16 rfl (Or.inr ⟨_, rfl⟩) ?_
  refine T_getfield (v := .ref 264) d_PG_key_17 fg_PG_34 hgo.1 rfl ?_
  refine T_iload_n d_PG_key_20 rfl ?_
  refine N_aaload (k := s) (p := (265 + 26 * s)) (C0 := "PasswordGate$Session") d_PG_key_21 (by decide) hgo.2 rfl (by omega) (by decide) (if_pos hs) ?_
  refine T_getfield (v := .ref (267 + 26 * s)) d_PG_key_22 fg_PG_162 ea0.1 rfl ?_
  refine T_iload_n d_PG_key_25 rfl ?_
  refine N_aaload (k := 1) (p := (287 + 26 * s)) (C0 := "PasswordGate$Bytes") d_PG_key_26 ((by decide : ∀ s, s < 4 → K0 ≤ (267 + 26 * s)) s hs) ea0.2.2 rfl (by omega) (by decide) rfl ?_
  refine T_iload_n d_PG_key_27 rfl ?_
  refine T_virtual (as := [.int (nI i)]) (rest := []) (b := (287 + 26 * s)) d_PG_key_28 rfl (jw_By_has.jo (by decide)) lm_PG_119 ji_By_has js_By_has ea5.1 rfl rfl rfl (Nat.le_of_ble_eq_true rfl) (by decide) (by decide) (y_By_has_in ea5 hi (by decide)) (fun r M_2 hq => ?_)
  obtain ⟨rfl, he⟩ := hq
  obtain rfl := he.symm
  refine T_eq (pc' := 31) (L' := [(0, .ref 61), (1, .int (nI s)), (2, .int (nI 1)), (3, .int (nI i))]) (st' := [.int (nI 1)]) (M' := M) rfl rfl rfl rfl ?_
  refine N_if_ne_t (b := 1) d_PG_key_31 (tgt := 42) rfl (by omega) (by omega) ?_
  refine T_aload_n (v := .ref 61) d_PG_key_42 rfl (Or.inr ⟨_, rfl⟩) ?_
  refine T_getfield (v := .ref 264) d_PG_key_43 fg_PG_34 hgo.1 rfl ?_
  refine T_iload_n d_PG_key_46 rfl ?_
  refine N_aaload (k := s) (p := (265 + 26 * s)) (C0 := "PasswordGate$Session") d_PG_key_47 (by decide) hgo.2 rfl (by omega) (by decide) (if_pos hs) ?_
  refine T_getfield (v := .ref (267 + 26 * s)) d_PG_key_48 fg_PG_162 ea0.1 rfl ?_
  refine T_iload_n d_PG_key_51 rfl ?_
  refine N_aaload (k := 1) (p := (287 + 26 * s)) (C0 := "PasswordGate$Bytes") d_PG_key_52 ((by decide : ∀ s, s < 4 → K0 ≤ (267 + 26 * s)) s hs) ea0.2.2 rfl (by omega) (by decide) rfl ?_
  refine T_getfield (v := .ref (288 + 26 * s)) d_PG_key_53 fg_PG_93 ea5.1 rfl ?_
  refine T_iload_n d_PG_key_56 rfl ?_
  obtain ⟨f_3, hf_4, hl_5, hv_6⟩ := id ea5.2
  refine N_baload (k := i) (x := (cB (gd (cg C 4) i))) d_PG_key_57 hf_4 (by omega) (by decide) (hv_6 i (by first | omega | (simp only [List.length_append, List.length_cons, List.length_nil, List.length_replicate, sl_len, be_len, sha_len, xk_len, hmac_len, ex1_len, ex2_len, tag1_len, tC_len, stretch_len, chance_len, enc_len, pub_len, lbN_len, lbF_len, zer8_len, W0_len, W1_len, W2_len, W3_len, W4_len, W5_len, W6_len, W7_len, W8_len, W9_len, W10_len, W11_len, W12_len, W13_len, W14_len, W15_len, W16_len, W17_len, W18_len, W19_len, W20_len, W21_len, sec8_len, seal8_len, xr_len, pre8_len, xSess_len, xSrv_len, xCli_len]; omega))) ?_
  refine T_sipush (v := nI 255) d_PG_key_58 (by decide) ?_
  refine T_iand d_PG_key_61 ?_
  exact T_ret d_PG_key_62 rfl rfl (by decide) (by decide) ⟨by rw [cB_255], rfl⟩
set_option maxHeartbeats 8000000 in
theorem y_PG_key_2_in {G : GX} {M : List va_E} {s us b x : Nat} {t : Nat → Bool} {C : List (List UInt8)} {i : Nat} (hs : s < 4) (hi : i < (cg C 5).length) (hgo : GO M 61 264) (hse : SES M s us t C b x) : CT G mi_PG_key [.ref 61, .int (nI s), .int (nI 2), .int (nI i)] M (fun r M' => r = some (.int (nI (gd (cg C 5) i).toNat)) ∧ M' = M) := by
  obtain ⟨ea0, ea1, ea2, ea3, ea4, ea5, ea6, ea7, ea8, ea9, ea10, ea11, ⟨el12, ea12⟩, ea13, ea14⟩ := id hse
  have l1 := ea1.2.le
  have l2 := ea2.2.le
  have l3 := ea3.2.le
  have l4 := ea4.2.le
  have l5 := ea5.2.le
  have l6 := ea6.2.le
  refine CT.of (by decide) (Nat.le_of_ble_eq_true rfl) ?_
  show TT G mi_PG_key 0 [(0, .ref 61), (1, .int (nI s)), (2, .int (nI 2)), (3, .int (nI i))] [] M 0 0 _
  refine T_iload_n d_PG_key_0 rfl ?_
  refine T_static (as := [.int (nI s)]) (rest := []) d_PG_key_1 rfl (jw_PG_isSession.jo (by decide)) lm_PG_133 jt_PG_isSession rfl (Nat.le_of_ble_eq_true rfl) (by decide) (by decide) (y_PG_isSession_in hs) (fun r M_1 hq => ?_)
  obtain ⟨rfl, he⟩ := hq
  obtain rfl := he.symm
  refine T_eq (pc' := 4) (L' := [(0, .ref 61), (1, .int (nI s)), (2, .int (nI 2)), (3, .int (nI i))]) (st' := [.int (nI 1)]) (M' := M) rfl rfl rfl rfl ?_
  refine N_if_eq_f (b := 1) d_PG_key_4 (tgt := 34) rfl (by omega) (by omega) ?_
  refine T_iload_n d_PG_key_7 rfl ?_
  refine N_if_lt_f (b := 2) d_PG_key_8 (tgt := 34) rfl (by omega) (by omega) ?_
  refine T_iload_n d_PG_key_11 rfl ?_
  refine T_iconst (v := nI 2) d_PG_key_12 (by decide) ?_
  refine N_icmp_gt_f (a := 2) (b := 2) d_PG_key_13 (tgt := 34) rfl (by omega) (by omega) (by omega) ?_
  refine T_aload_n (v := .ref 61) d_PG_key_16 rfl (Or.inr ⟨_, rfl⟩) ?_
  refine T_getfield (v := .ref 264) d_PG_key_17 fg_PG_34 hgo.1 rfl ?_
  refine T_iload_n d_PG_key_20 rfl ?_
  refine N_aaload (k := s) (p := (265 + 26 * s)) (C0 := "PasswordGate$Session") d_PG_key_21 (by decide) hgo.2 rfl (by omega) (by decide) (if_pos hs) ?_
  refine T_getfield (v := .ref (267 + 26 * s)) d_PG_key_22 fg_PG_162 ea0.1 rfl ?_
  refine T_iload_n d_PG_key_25 rfl ?_
  refine N_aaload (k := 2) (p := (289 + 26 * s)) (C0 := "PasswordGate$Bytes") d_PG_key_26 ((by decide : ∀ s, s < 4 → K0 ≤ (267 + 26 * s)) s hs) ea0.2.2 rfl (by omega) (by decide) rfl ?_
  refine T_iload_n d_PG_key_27 rfl ?_
  refine T_virtual (as := [.int (nI i)]) (rest := []) (b := (289 + 26 * s)) d_PG_key_28 rfl (jw_By_has.jo (by decide)) lm_PG_119 ji_By_has js_By_has ea6.1 rfl rfl rfl (Nat.le_of_ble_eq_true rfl) (by decide) (by decide) (y_By_has_in ea6 hi (by decide)) (fun r M_2 hq => ?_)
  obtain ⟨rfl, he⟩ := hq
  obtain rfl := he.symm
  refine T_eq (pc' := 31) (L' := [(0, .ref 61), (1, .int (nI s)), (2, .int (nI 2)), (3, .int (nI i))]) (st' := [.int (nI 1)]) (M' := M) rfl rfl rfl rfl ?_
  refine N_if_ne_t (b := 1) d_PG_key_31 (tgt := 42) rfl (by omega) (by omega) ?_
  refine T_aload_n (v := .ref 61) d_PG_key_42 rfl (Or.inr ⟨_, rfl⟩) ?_
  refine T_getfield (v := .ref 264) d_PG_key_43 fg_PG_34 hgo.1 rfl ?_
  refine T_iload_n d_PG_key_46 rfl ?_
  refine N_aaload (k := s) (p := (265 + 26 * s)) (C0 := "PasswordGate$Session") d_PG_key_47 (by decide) hgo.2 rfl (by omega) (by decide) (if_pos hs) ?_
  refine T_getfield (v := .ref (267 + 26 * s)) d_PG_key_48 fg_PG_162 ea0.1 rfl ?_
  refine T_iload_n d_PG_key_51 rfl ?_
  refine N_aaload (k := 2) (p := (289 + 26 * s)) (C0 := "PasswordGate$Bytes") d_PG_key_52 ((by decide : ∀ s, s < 4 → K0 ≤ (267 + 26 * s)) s hs) ea0.2.2 rfl (by omega) (by decide) rfl ?_
  refine T_getfield (v := .ref (290 + 26 * s)) d_PG_key_53 fg_PG_93 ea6.1 rfl ?_
  refine T_iload_n d_PG_key_56 rfl ?_
  obtain ⟨f_3, hf_4, hl_5, hv_6⟩ := id ea6.2
  refine N_baload (k := i) (x := (cB (gd (cg C 5) i))) d_PG_key_57 hf_4 (by omega) (by decide) (hv_6 i (by first | omega | (simp only [List.length_append, List.length_cons, List.length_nil, List.length_replicate, sl_len, be_len, sha_len, xk_len, hmac_len, ex1_len, ex2_len, tag1_len, tC_len, stretch_len, chance_len, enc_len, pub_len, lbN_len, lbF_len, zer8_len, W0_len, W1_len, W2_len, W3_len, W4_len, W5_len, W6_len, W7_len, W8_len, W9_len, W10_len, W11_len, W12_len, W13_len, W14_len, W15_len, W16_len, W17_len, W18_len, W19_len, W20_len, W21_len, sec8_len, seal8_len, xr_len, pre8_len, xSess_len, xSrv_len, xCli_len]; omega))) ?_
  refine T_sipush (v := nI 255) d_PG_key_58 (by decide) ?_
  refine T_iand d_PG_key_61 ?_
  exact T_ret d_PG_key_62 rfl rfl (by decide) (by decide) ⟨by rw [cB_255], rfl⟩
def BF (M : List va_E) (w : Nat → Int32) (l : List UInt8) : Prop := ∃ v, M[373]? = some (moO v) ∧ (∀ j, j ≠ 67 → v j = w j) ∧ v 67 = nI l.length ∧ IA M 374 4000 l
theorem BF.le {M : List va_E} {w : Nat → Int32} {l : List UInt8} (h : BF M w l) : l.length ≤ 4000 := by obtain ⟨_, _, _, _, h⟩ := h; exact h.le
theorem BF.kp {M M' : List va_E} {W : List Nat} {w : Nat → Int32} {l : List UInt8} (h : BF M w l) (s : Kp W M M') (h1 : 373 ∉ W) (h2 : 374 ∉ W) : BF M' w l := by obtain ⟨v, a, b, c, d⟩ := h; exact ⟨v, (s _ h1).trans a, b, c, d.kp s h2⟩
theorem ia_push {f : Nat → Int32} {l : List UInt8} {b : UInt8} {j : Nat} (h : ∀ i, i < l.length → f i = bR (gd l i)) (hj : j < (l ++ [b]).length) : upd f l.length (bR b) j = bR (gd (l ++ [b]) j) := by
  rw [List.length_append, List.length_singleton] at hj
  unfold upd
  by_cases e : j = l.length
  · subst e; unfold gd; rw [if_pos rfl, List.getD_eq_getElem?_getD, List.getElem?_append_right (Nat.le_refl _), Nat.sub_self]; rfl
  · have hl : j < l.length := by omega
    rw [if_neg e, h j hl]; unfold gd; rw [List.getD_eq_getElem?_getD, List.getD_eq_getElem?_getD, List.getElem?_append_left hl]
set_option maxHeartbeats 8000000 in
theorem y_Mo_one {G : GX} {M : List va_E} {w : Nat → Int32} {l : List UInt8} {x : Int32} (h : BF M w l) (hl : l.length < 4000) : CT G mi_Mo_one [.ref 373, .int x] M (fun r M' => r = none ∧ BF M' w (l ++ [u8 x]) ∧ Kp [373, 374] M M') := by
  obtain ⟨v, ho, hw, hs, f, f1, f2, f3⟩ := h
  refine CT.of (by decide) (Nat.le_of_ble_eq_true rfl) ?_
  show TT G mi_Mo_one 0 [(0, .ref 373), (1, .int x)] [] M 0 0 _
  refine T_aload_n (v := .ref 373) d_Mo_one_0 rfl (Or.inr ⟨_, rfl⟩) ?_
  refine T_getfield (v := .ref 374) d_Mo_one_1 fg_Mo_1 ho rfl ?_
  refine T_aload_n (v := .ref 373) d_Mo_one_4 rfl (Or.inr ⟨_, rfl⟩) ?_
  refine N_getI (x := (v 67)) (y := (nI (l.length))) d_Mo_one_5 fg_Mo_7 ho rfl hs ?_
  refine T_iload_n d_Mo_one_8 rfl ?_
  refine T_sipush (v := nI 255) d_Mo_one_9 (by decide) ?_
  refine T_iand d_Mo_one_12 ?_
  refine N_iastore (k := l.length) d_Mo_one_13 (by decide) f1 (by omega) (by decide) rfl (fun M_1 h_2 s_3 => ?_)
  refine T_aload_n (v := .ref 373) d_Mo_one_14 rfl (Or.inr ⟨_, rfl⟩) ?_
  refine T_dup d_Mo_one_15 rfl ?_
  have h_4 := (s_3 373 (by decide)).trans (ho)
  refine N_getI (x := (v 67)) (y := (nI (l.length))) d_Mo_one_16 fg_Mo_7 h_4 rfl hs ?_
  refine T_iconst (v := nI 1) d_Mo_one_19 (by decide) ?_
  refine N_iadd (a := 1) (b := l.length) (c := (l.length + 1)) d_Mo_one_20 rfl ?_
  refine N_put (e := (moO (upd v 67 (nI (l.length + 1))))) d_Mo_one_21 (fp_Mo_7 _) h_4 (Nat.le_of_ble_eq_true rfl) ⟨rfl, rfl⟩ rfl (fun M_5 h_6 s_7 => ?_)
  have h_8 := (s_7 374 (by decide)).trans (h_2)
  have ga := h_8
  rw [i32_255] at ga
  refine T_vret d_Mo_one_24 rfl (by decide) (by decide) ⟨rfl, ⟨(upd v 67 (nI (l.length + 1))), h_6, fun j hj => ?_, ?_, _, ga, ?_, fun j hj => ia_push f3 hj⟩, (Kp.ex (Kp.ex (Kp.rf : Kp [373, 374] M M) s_3 (by decide)) s_7 (by decide))⟩
  · unfold upd; rw [if_neg hj]; exact hw j hj
  · unfold upd; rw [if_pos rfl, List.length_append]; rfl
  · rw [List.length_append]; exact hl
theorem sl_succ (s : List UInt8) (a k : Nat) : sl s a (k + 1) = sl s a k ++ [gd s (a + k)] := by unfold sl; rw [List.range_succ, List.map_append]; rfl
theorem sl_zero (s : List UInt8) (a : Nat) : sl s a 0 = [] := rfl
set_option maxHeartbeats 8000000 in
theorem mb_lp (G : GX) {M0 : List va_E} {w : Nat → Int32} {p m at0 n : Nat} {l s : List UInt8} (hp : IA M0 p m s) (ha : at0 + n ≤ s.length) (hm : m < 2 ^ 30) (hl : l.length + n ≤ 4000) (n1 : p ≠ 373) (n2 : p ≠ 374) {Q : Option Value → List va_E → Prop} (kk : ∀ M, BF M w (l ++ sl s at0 n) ∧ Kp [373, 374] M0 M → TT G mi_Mo_bytes 25 [(0, .ref 373), (1, .ref p), (2, .int (nI at0)), (3, .int (nI n))] [] M 0 0 Q) : ∀ j k M, k + j = n → BF M w (l ++ sl s at0 k) ∧ Kp [373, 374] M0 M → TT G mi_Mo_bytes 3 [(4, .int (nI k)), (0, .ref 373), (1, .ref p), (2, .int (nI at0)), (3, .int (nI n))] [] M 0 0 Q := by
  intro j
  induction j with
  | zero =>
    intro k M hk hI
    obtain rfl : n = k := by omega
    refine T_iload d_Mo_bytes_3 rfl ?_
    refine T_iload_n d_Mo_bytes_5 rfl ?_
    refine N_icmp_ge_t (a := n) (b := n) d_Mo_bytes_6 (tgt := 25) rfl (by omega) (by omega) (by omega) ?_
    exact T_sub (fun q hq => List.mem_cons_of_mem _ hq) (kk M hI)
  | succ j ih =>
    intro k M hk hI
    obtain ⟨hb, hK⟩ := hI
    have hps := hp.le
    refine T_iload d_Mo_bytes_3 rfl ?_
    refine T_iload_n d_Mo_bytes_5 rfl ?_
    refine N_icmp_ge_f (a := n) (b := k) d_Mo_bytes_6 (tgt := 25) rfl (by omega) (by omega) (by omega) ?_
    refine T_aload_n (v := .ref 373) d_Mo_bytes_9 rfl (Or.inr ⟨_, rfl⟩) ?_
    refine T_aload_n (v := .ref p) d_Mo_bytes_10 rfl (Or.inr ⟨_, rfl⟩) ?_
    refine T_iload_n d_Mo_bytes_11 rfl ?_
    refine T_iload d_Mo_bytes_12 rfl ?_
    refine N_iadd (a := k) (b := at0) (c := (at0 + k)) d_Mo_bytes_14 rfl ?_
    have p_1 := (IA.kp (hp) hK (by simp only [List.mem_cons, List.not_mem_nil, or_false, not_or]; exact ⟨n1, n2⟩))
    obtain ⟨f_2, hf_3, hl_4, hv_5⟩ := id p_1
    refine N_iaload (k := (at0 + k)) (x := (bR (gd s (at0 + k)))) d_Mo_bytes_15 hf_3 (by omega) (by omega) (hv_5 (at0 + k) (by first | omega | (simp only [List.length_append, List.length_cons, List.length_nil, List.length_replicate, sl_len, be_len, sha_len]; omega))) ?_
    obtain ⟨v_7, hov_7, _⟩ := id hb
    refine T_virtual (as := [.int (bR (gd s (at0 + k)))]) (rest := []) (b := 373) d_Mo_bytes_16 rfl (jw_Mo_one.jo (by decide)) lm_Mo_11 ji_Mo_one js_Mo_one hov_7 rfl rfl rfl (Nat.le_of_ble_eq_true rfl) (by decide) (by decide) (y_Mo_one (x := (bR (gd s (at0 + k)))) hb (by rw [List.length_append, sl_len]; omega)) (fun r M_6 hq => ?_)
    obtain ⟨rfl, p_6_0, kp_6⟩ := hq
    refine T_eq (pc' := 19) (L' := [(4, .int (nI k)), (0, .ref 373), (1, .ref p), (2, .int (nI at0)), (3, .int (nI n))]) (st' := []) (M' := M_6) rfl rfl rfl rfl ?_
    refine N_iinc (k := k) (m := 1) (c := (k + 1)) (L' := [(4, .int (nI ((k + 1)))), (0, .ref 373), (1, .ref p), (2, .int (nI at0)), (3, .int (nI n))]) d_Mo_bytes_19 (by decide) rfl (by decide) rfl rfl ?_
    refine T_goto (tgt := 3) d_Mo_bytes_22 rfl ?_
    exact ih (k + 1) M_6 (by omega) ⟨by rw [sl_succ, ← List.append_assoc, ← u8_bR (gd s (at0 + k))]; exact p_6_0, (Kp.tr (Kp.tr (Kp.rf : Kp [373, 374] M0 M0) (Kp.mono hK (by decide))) (Kp.mono kp_6 (by decide)))⟩
theorem y_Mo_bytes {G : GX} {M : List va_E} {w : Nat → Int32} {p m at0 n : Nat} {l s : List UInt8} (h : BF M w l) (hp : IA M p m s) (ha : at0 + n ≤ s.length) (hm : m < 2 ^ 30) (hl : l.length + n ≤ 4000) (n1 : p ≠ 373) (n2 : p ≠ 374) : CT G mi_Mo_bytes [.ref 373, .ref p, .int (nI at0), .int (nI n)] M (fun r M' => r = none ∧ BF M' w (l ++ sl s at0 n) ∧ Kp [373, 374] M M') := by
  refine CT.of (by decide) (Nat.le_of_ble_eq_true rfl) ?_
  show TT G mi_Mo_bytes 0 [(0, .ref 373), (1, .ref p), (2, .int (nI at0)), (3, .int (nI n))] [] M 0 0 _
  refine T_iconst (v := nI 0) d_Mo_bytes_0 (by decide) ?_
  refine T_istore (L' := [(4, .int (nI 0)), (0, .ref 373), (1, .ref p), (2, .int (nI at0)), (3, .int (nI n))]) d_Mo_bytes_1 (by decide) rfl ?_
  refine mb_lp G hp ha hm hl n1 n2 (fun Ma hI => ?_) n 0 M (Nat.zero_add n) ⟨by rw [sl_zero, List.append_nil]; exact h, Kp.rf⟩
  exact T_vret d_Mo_bytes_25 rfl (by decide) (by decide) ⟨rfl, hI.1, hI.2⟩
def ibh (v : Int32) (i : Nat) : UInt8 := if i ≤ 3 then u8 (v >>> (nI (8 * i) &&& 31)) else 0
def bnh (v : Int32) (n k : Nat) : List UInt8 := (List.range k).map fun i => ibh v (n - 1 - i)
def bnN (v : Int32) (n : Nat) : List UInt8 := bnh v n n
theorem bnh_len (v : Int32) (n k : Nat) : (bnh v n k).length = k := by unfold bnh; simp
theorem bnN_len (v : Int32) (n : Nat) : (bnN v n).length = n := bnh_len v n n
theorem bnh_s (v : Int32) (n k : Nat) : bnh v n (k + 1) = bnh v n k ++ [ibh v (n - 1 - k)] := by unfold bnh; rw [List.range_succ, List.map_append]; rfl
set_option maxHeartbeats 8000000 in
theorem mn_lp (G : GX) {M0 : List va_E} {w : Nat → Int32} {c : Nat} {v : Int32} {l : List UInt8} (hc : c < 2 ^ 20) (hl : l.length + c ≤ 4000) {Q : Option Value → List va_E → Prop} (kk : ∀ M, (BF M w (l ++ bnh v c (c - 0)) ∧ Kp [373, 374] M0 M) → TT G mi_Mo_number 33 [(3, .int (-1)), (0, .ref 373), (1, .int v), (2, .int (nI c))] [] M 0 0 Q) : ∀ j M, j ≤ c → (BF M w (l ++ bnh v c (c - j)) ∧ Kp [373, 374] M0 M) → TT G mi_Mo_number 4 [(3, .int (nI j - 1)), (0, .ref 373), (1, .int v), (2, .int (nI c))] [] M 0 0 Q := by
  intro j
  induction j with
  | zero =>
    intro M hj hI
    refine T_iload_n d_Mo_number_4 rfl ?_
    refine T_if_lt d_Mo_number_5 (tgt := 33) rfl (fun _ => ?_) (fun c => absurd (by decide) c)
    exact kk M hI
  | succ j ih =>
    intro M hj hI
    obtain ⟨hb, hK⟩ := hI
    rw [nI_pp]
    refine T_iload_n d_Mo_number_4 rfl ?_
    refine N_if_lt_f (b := j) d_Mo_number_5 (tgt := 33) rfl (by omega) (by omega) ?_
    refine T_aload_n (v := .ref 373) d_Mo_number_8 rfl (Or.inr ⟨_, rfl⟩) ?_
    refine T_iload_n d_Mo_number_9 rfl ?_
    refine T_iconst (v := nI 3) d_Mo_number_10 (by decide) ?_
    refine N_icmp_le (a := 3) (b := j) d_Mo_number_11 (tgt := 18) rfl (by omega) (by omega) (fun h11 => ?_) (fun h11 => ?_)
    ·
      refine T_iload_n d_Mo_number_18 rfl ?_
      refine T_bipush (v := nI 8) d_Mo_number_19 (by decide) ?_
      refine T_iload_n d_Mo_number_21 rfl ?_
      refine N_imul (a := j) (b := 8) (c := (8 * j)) d_Mo_number_22 rfl ?_
      refine T_ishr d_Mo_number_23 ?_
      obtain ⟨v_2, hov_2, _⟩ := id hb
      refine T_virtual (as := [.int (v >>> ((nI ((8 * j))) &&& 31))]) (rest := []) (b := 373) d_Mo_number_24 rfl (jw_Mo_one.jo (by decide)) lm_Mo_11 ji_Mo_one js_Mo_one hov_2 rfl rfl rfl (Nat.le_of_ble_eq_true rfl) (by decide) (by decide) (y_Mo_one (x := (v >>> ((nI ((8 * j))) &&& 31))) hb (by first | omega | (simp only [List.length_append, List.length_cons, List.length_nil, List.length_replicate, sl_len, be_len, sha_len, bnh_len]; done) | (simp only [List.length_append, List.length_cons, List.length_nil, List.length_replicate, sl_len, be_len, sha_len, bnh_len]; omega))) (fun r M_1 hq => ?_)
      obtain ⟨rfl, p_1_0, kp_1⟩ := hq
      refine T_eq (pc' := 27) (L' := [(3, .int (nI j)), (0, .ref 373), (1, .int v), (2, .int (nI c))]) (st' := []) (M' := M_1) rfl rfl rfl rfl ?_
      refine T_iinc (x := nI j) (L' := [(3, .int (nI j - 1)), (0, .ref 373), (1, .int v), (2, .int (nI c))]) d_Mo_number_27 (by decide) rfl (by rw [nI_dm]; rfl) ?_
      refine T_goto (tgt := 4) d_Mo_number_30 rfl ?_
      refine ih M_1 (by omega) ⟨?_, (Kp.tr (Kp.tr (Kp.rf : Kp [373, 374] M0 M0) (Kp.mono hK (by decide))) (Kp.mono kp_1 (by decide)))⟩
      have e : c - j = (c - (j + 1)) + 1 := by omega
      have e2 : ibh v j = u8 (v >>> (nI (8 * j) &&& 31)) := by unfold ibh; rw [if_pos h11]
      rw [e, bnh_s, show c - 1 - (c - (j + 1)) = j by omega, ← List.append_assoc, e2]
      exact p_1_0
    ·
      refine T_iconst (v := nI 0) d_Mo_number_14 (by decide) ?_
      refine T_goto (tgt := 24) d_Mo_number_15 rfl ?_
      obtain ⟨v_4, hov_4, _⟩ := id hb
      refine T_virtual (as := [.int (nI 0)]) (rest := []) (b := 373) d_Mo_number_24 rfl (jw_Mo_one.jo (by decide)) lm_Mo_11 ji_Mo_one js_Mo_one hov_4 rfl rfl rfl (Nat.le_of_ble_eq_true rfl) (by decide) (by decide) (y_Mo_one (x := (nI 0)) hb (by first | omega | (simp only [List.length_append, List.length_cons, List.length_nil, List.length_replicate, sl_len, be_len, sha_len, bnh_len]; done) | (simp only [List.length_append, List.length_cons, List.length_nil, List.length_replicate, sl_len, be_len, sha_len, bnh_len]; omega))) (fun r M_3 hq => ?_)
      obtain ⟨rfl, p_3_0, kp_3⟩ := hq
      refine T_eq (pc' := 27) (L' := [(3, .int (nI j)), (0, .ref 373), (1, .int v), (2, .int (nI c))]) (st' := []) (M' := M_3) rfl rfl rfl rfl ?_
      refine T_iinc (x := nI j) (L' := [(3, .int (nI j - 1)), (0, .ref 373), (1, .int v), (2, .int (nI c))]) d_Mo_number_27 (by decide) rfl (by rw [nI_dm]; rfl) ?_
      refine T_goto (tgt := 4) d_Mo_number_30 rfl ?_
      refine ih M_3 (by omega) ⟨?_, (Kp.tr (Kp.tr (Kp.rf : Kp [373, 374] M0 M0) (Kp.mono hK (by decide))) (Kp.mono kp_3 (by decide)))⟩
      have e : c - j = (c - (j + 1)) + 1 := by omega
      have e2 : ibh v j = u8 (nI 0) := by unfold ibh; rw [if_neg h11]; rfl
      rw [e, bnh_s, show c - 1 - (c - (j + 1)) = j by omega, ← List.append_assoc, e2]
      exact p_3_0
set_option maxHeartbeats 8000000 in
theorem y_Mo_number {G : GX} {M : List va_E} {w : Nat → Int32} {c : Nat} {v : Int32} {l : List UInt8} (h : BF M w l) (hc : 0 < c ∧ c < 2 ^ 20) (hl : l.length + c ≤ 4000) : CT G mi_Mo_number [.ref 373, .int v, .int (nI c)] M (fun r M' => r = none ∧ BF M' w (l ++ bnN v c) ∧ Kp [373, 374] M M') := by
  refine CT.of (by decide) (Nat.le_of_ble_eq_true rfl) ?_
  show TT G mi_Mo_number 0 [(0, .ref 373), (1, .int v), (2, .int (nI c))] [] M 0 0 _
  refine T_iload_n d_Mo_number_0 rfl ?_
  refine T_iconst (v := nI 1) d_Mo_number_1 (by decide) ?_
  refine T_isub d_Mo_number_2 ?_
  refine T_istore_n (L' := [(3, .int ((nI c) - (nI 1))), (0, .ref 373), (1, .int v), (2, .int (nI c))]) d_Mo_number_3 (by decide) rfl ?_
  refine T_eq (pc' := 4) (L' := [(3, .int (nI c - 1)), (0, .ref 373), (1, .int v), (2, .int (nI c))]) (st' := []) (M' := M) rfl rfl rfl rfl ?_
  refine mn_lp G hc.2 hl (fun Ma hI => ?_) c M (Nat.le_refl c) ⟨by rw [Nat.sub_self]; show BF M w (l ++ []); rw [List.append_nil]; exact h, Kp.rf⟩
  exact T_vret d_Mo_number_33 rfl (by decide) (by decide) ⟨rfl, hI.1, hI.2⟩
def ltc (x : Int64) (j : Nat) : UInt8 := u8 ((x >>> ((nI (8 * j)).toInt64 &&& 63)).toInt32)
def ltd (x : Int64) : Nat → List UInt8
  | 0 => []
  | k + 1 => ltd x k ++ (if ltc x (7 - k) = 0 then [] else [ltc x (7 - k)])
def lts (x : Int64) : List UInt8 := ltd x 8
theorem ltd_len (x : Int64) (k : Nat) : (ltd x k).length ≤ k := by
  induction k with
  | zero => exact Nat.le_refl 0
  | succ k ih => unfold ltd; rw [List.length_append]; split <;> simp only [List.length_nil, List.length_cons] <;> omega
theorem nI_8 (j : Nat) : nI (8 * (j + 1)) + Int32.ofInt (-8) = nI (8 * j) := by
  rw [Nat.mul_add, Nat.mul_one, ← nI_add, Int32.add_assoc, show nI 8 + Int32.ofInt (-8) = 0 from by decide, Int32.add_zero]
theorem bR_pos {b : UInt8} : 0 < b.toNat ↔ ¬ b = 0 := by
  constructor
  · intro h c; rw [c] at h; exact absurd h (by decide)
  · intro h
    apply Nat.pos_of_ne_zero
    intro c; exact h (UInt8.toNat_inj.mp c)
set_option maxHeartbeats 8000000 in
theorem ml_lp (G : GX) {M0 : List va_E} {w : Nat → Int32} {x : Int64} {l : List UInt8} (hl : l.length + 8 ≤ 4000) {Q : Option Value → List va_E → Prop} (kk : ∀ M L, (BF M w (l ++ ltd x (8 - 0)) ∧ Kp [373, 374] M0 M) → TT G mi_Mo_letters 34 L [] M 0 0 Q) : ∀ j M, j ≤ 8 → (BF M w (l ++ ltd x (8 - j)) ∧ Kp [373, 374] M0 M) → TT G mi_Mo_letters 3 [(3, .int (nI (8 * j) + Int32.ofInt (-8))), (0, .ref 373), (1, .long x)] [] M 0 0 Q := by
  intro j
  induction j with
  | zero =>
    intro M hj hI
    refine T_iload_n d_Mo_letters_3 rfl ?_
    refine T_if_lt d_Mo_letters_4 (tgt := 34) rfl (fun _ => ?_) (fun c => absurd (by decide) c)
    exact kk M _ hI
  | succ j ih =>
    intro M hj hI
    obtain ⟨hb, hK⟩ := hI
    rw [nI_8]
    have hld := ltd_len x (8 - (j + 1))
    refine T_iload_n d_Mo_letters_3 rfl ?_
    refine N_if_lt_f (b := (8 * j)) d_Mo_letters_4 (tgt := 34) rfl (by omega) (by omega) ?_
    refine T_lload_n d_Mo_letters_7 rfl ?_
    refine T_iload_n d_Mo_letters_8 rfl ?_
    refine T_lshr d_Mo_letters_9 ?_
    refine T_l2i d_Mo_letters_10 ?_
    refine T_sipush (v := nI 255) d_Mo_letters_11 (by decide) ?_
    refine T_iand d_Mo_letters_14 ?_
    rw [i32_255]
    refine T_eq (pc' := 15) (L' := [(3, .int (nI ((8 * j)))), (0, .ref 373), (1, .long x)]) (st' := [.int (nI ((ltc x j).toNat))]) (M' := M) rfl rfl rfl rfl ?_
    have h256 := (ltc x j).toNat_lt
    refine T_istore (L' := [(4, .int (nI ((ltc x j).toNat))), (3, .int (nI ((8 * j)))), (0, .ref 373), (1, .long x)]) d_Mo_letters_15 (by decide) rfl ?_
    refine T_iload d_Mo_letters_17 rfl ?_
    refine N_if_le (b := ((ltc x j).toNat)) d_Mo_letters_19 (tgt := 28) rfl (by omega) (fun h19 => ?_) (fun h19 => ?_)
    ·
      refine T_iinc (x := nI (8 * j)) (L' := [(3, .int (nI (8 * j) + Int32.ofInt (-8))), (4, .int (nI ((ltc x j).toNat))), (0, .ref 373), (1, .long x)]) d_Mo_letters_28 (by decide) rfl rfl ?_
      refine T_goto (tgt := 3) d_Mo_letters_31 rfl ?_
      refine T_sub (L' := [(3, .int (nI (8 * j) + Int32.ofInt (-8))), (0, .ref 373), (1, .long x)]) (fun q hq => by simp only [List.mem_cons, List.not_mem_nil, or_false] at hq ⊢; rcases hq with rfl | rfl | rfl <;> simp) (?_)
      refine ih M (by omega) ⟨?_, (Kp.tr (Kp.rf : Kp [373, 374] M0 M0) (Kp.mono hK (by decide)))⟩
      have e : 8 - j = (8 - (j + 1)) + 1 := by omega
      rw [e]
      show BF M w (l ++ (ltd x (8 - (j + 1)) ++ (if ltc x (7 - (8 - (j + 1))) = 0 then [] else [ltc x (7 - (8 - (j + 1)))])))
      rw [show 7 - (8 - (j + 1)) = j by omega, ← List.append_assoc]
      rw [if_pos (Classical.byContradiction fun c => absurd (bR_pos.mpr c) (by omega)), List.append_nil]; exact hb
    ·
      refine T_aload_n (v := .ref 373) d_Mo_letters_22 rfl (Or.inr ⟨_, rfl⟩) ?_
      refine T_iload d_Mo_letters_23 rfl ?_
      obtain ⟨v_2, hov_2, _⟩ := id hb
      refine T_virtual (as := [.int (nI ((ltc x j).toNat))]) (rest := []) (b := 373) d_Mo_letters_25 rfl (jw_Mo_one.jo (by decide)) lm_Mo_11 ji_Mo_one js_Mo_one hov_2 rfl rfl rfl (Nat.le_of_ble_eq_true rfl) (by decide) (by decide) (y_Mo_one (x := (nI ((ltc x j).toNat))) hb (by rw [List.length_append]; omega)) (fun r M_1 hq => ?_)
      obtain ⟨rfl, p_1_0, kp_1⟩ := hq
      refine T_eq (pc' := 28) (L' := [(4, .int (nI ((ltc x j).toNat))), (3, .int (nI ((8 * j)))), (0, .ref 373), (1, .long x)]) (st' := []) (M' := M_1) rfl rfl rfl rfl ?_
      refine T_iinc (x := nI (8 * j)) (L' := [(3, .int (nI (8 * j) + Int32.ofInt (-8))), (4, .int (nI ((ltc x j).toNat))), (0, .ref 373), (1, .long x)]) d_Mo_letters_28 (by decide) rfl rfl ?_
      refine T_goto (tgt := 3) d_Mo_letters_31 rfl ?_
      refine T_sub (L' := [(3, .int (nI (8 * j) + Int32.ofInt (-8))), (0, .ref 373), (1, .long x)]) (fun q hq => by simp only [List.mem_cons, List.not_mem_nil, or_false] at hq ⊢; rcases hq with rfl | rfl | rfl <;> simp) (?_)
      refine ih M_1 (by omega) ⟨?_, (Kp.tr (Kp.tr (Kp.rf : Kp [373, 374] M0 M0) (Kp.mono hK (by decide))) (Kp.mono kp_1 (by decide)))⟩
      have e : 8 - j = (8 - (j + 1)) + 1 := by omega
      rw [e]
      show BF M_1 w (l ++ (ltd x (8 - (j + 1)) ++ (if ltc x (7 - (8 - (j + 1))) = 0 then [] else [ltc x (7 - (8 - (j + 1)))])))
      rw [show 7 - (8 - (j + 1)) = j by omega, ← List.append_assoc]
      rw [if_neg (bR_pos.mp (by omega))]
      have g := p_1_0
      rw [show u8 (nI (ltc x j).toNat) = ltc x j from u8_bR _] at g
      exact g
theorem y_Mo_letters {G : GX} {M : List va_E} {w : Nat → Int32} {x : Int64} {l : List UInt8} (h : BF M w l) (hl : l.length + 8 ≤ 4000) : CT G mi_Mo_letters [.ref 373, .long x] M (fun r M' => r = none ∧ BF M' w (l ++ lts x) ∧ Kp [373, 374] M M') := by
  refine CT.of (by decide) (Nat.le_of_ble_eq_true rfl) ?_
  show TT G mi_Mo_letters 0 [(0, .ref 373), (1, .long x)] [] M 0 0 _
  refine T_bipush (v := nI 56) d_Mo_letters_0 (by decide) ?_
  refine T_istore_n (L' := [(3, .int (nI 56)), (0, .ref 373), (1, .long x)]) d_Mo_letters_2 (by decide) rfl ?_
  refine T_eq (pc' := 3) (L' := [(3, .int (nI (8 * 8) + Int32.ofInt (-8))), (0, .ref 373), (1, .long x)]) (st' := []) (M' := M) rfl rfl rfl rfl ?_
  refine ml_lp G hl (fun Ma L hI => ?_) 8 M (Nat.le_refl 8) ⟨by rw [Nat.sub_self]; show BF M w (l ++ []); rw [List.append_nil]; exact h, Kp.rf⟩
  exact T_vret d_Mo_letters_34 rfl (by decide) (by decide) ⟨rfl, hI.1, hI.2⟩
theorem y_Mo_turn {G : GX} {M : List va_E} {u : Int64} {r : Nat} (hr : r ≤ 64) : CT G mi_Mo_turn [.long u, .int (nI r)] M (fun z M' => z = some (.long (ror u r)) ∧ M' = M) := by
  refine CT.of (by decide) (Nat.le_of_ble_eq_true rfl) ?_
  show TT G mi_Mo_turn 0 [(0, .long u), (2, .int (nI r))] [] M 0 0 _
  refine T_lload_n d_Mo_turn_0 rfl ?_
  refine T_iload_n d_Mo_turn_1 rfl ?_
  refine T_lushr d_Mo_turn_2 ?_
  refine T_lload_n d_Mo_turn_3 rfl ?_
  refine T_bipush (v := nI 64) d_Mo_turn_4 (by decide) ?_
  refine T_iload_n d_Mo_turn_6 rfl ?_
  refine N_isub (a := r) (b := 64) (c := (64 - r)) d_Mo_turn_7 (by omega) rfl ?_
  refine T_lshl d_Mo_turn_8 ?_
  refine T_lor d_Mo_turn_9 ?_
  exact T_lret d_Mo_turn_10 rfl (by decide) (by decide) ⟨rfl, rfl⟩
set_option maxHeartbeats 8000000 in
theorem ms_w (G : GX) {M0 : List va_E} {v : Nat → Int32} {at0 : Nat} {w : Nat → Int64} (ho : M0[373]? = some (moO v)) {Q : Option Value → List va_E → Prop} (kk : ∀ M, 16 ≤ 80 ∧ M[380]? = some (lr 80 (sch w (80 - 16))) ∧ Kp [380] M0 M → TT G mi_Mo_block 165 [(0, .ref 373), (1, .int (nI at0))] [] M 0 0 Q) : ∀ j k M, k + j = 80 → 16 ≤ k ∧ M[380]? = some (lr 80 (sch w (k - 16))) ∧ Kp [380] M0 M → TT G mi_Mo_block 68 [(2, .int (nI k)), (0, .ref 373), (1, .int (nI at0))] [] M 0 0 Q := by
  intro j
  induction j with
  | zero =>
    intro k M hk hI
    obtain rfl : 80 = k := by omega
    refine T_iload_n d_Mo_block_68 rfl ?_
    refine T_bipush (v := nI 80) d_Mo_block_69 (by decide) ?_
    refine N_icmp_ge_t (a := 80) (b := 80) d_Mo_block_71 (tgt := 165) rfl (by omega) (by omega) (by omega) ?_
    exact T_sub (fun q hq => List.mem_cons_of_mem _ hq) (kk M hI)
  | succ j ih =>
    intro k M hk hI
    obtain ⟨h16, h1, hK⟩ := hI
    refine T_iload_n d_Mo_block_68 rfl ?_
    refine T_bipush (v := nI 80) d_Mo_block_69 (by decide) ?_
    refine N_icmp_ge_f (a := 80) (b := k) d_Mo_block_71 (tgt := 165) rfl (by omega) (by omega) (by omega) ?_
    refine T_aload_n (v := .ref 373) d_Mo_block_74 rfl (Or.inr ⟨_, rfl⟩) ?_
    have h_1 := (hK 373 (by decide)).trans (ho)
    refine T_getfield (v := .ref 380) d_Mo_block_75 fg_Mo_58 h_1 rfl ?_
    refine T_iload_n d_Mo_block_78 rfl ?_
    refine T_iconst (v := nI 2) d_Mo_block_79 (by decide) ?_
    refine N_isub (a := 2) (b := k) (c := (k - 2)) d_Mo_block_80 (by omega) rfl ?_
    refine N_laload (k := (k - 2)) (x := ((sch w (k - 16)) (k - 2))) d_Mo_block_81 h1 (by omega) (by decide) rfl ?_
    refine T_lstore_n (L' := [(3, .long ((sch w (k - 16)) (k - 2))), (2, .int (nI k)), (0, .ref 373), (1, .int (nI at0))]) d_Mo_block_82 (by decide) rfl ?_
    refine T_aload_n (v := .ref 373) d_Mo_block_83 rfl (Or.inr ⟨_, rfl⟩) ?_
    refine T_getfield (v := .ref 380) d_Mo_block_84 fg_Mo_58 h_1 rfl ?_
    refine T_iload_n d_Mo_block_87 rfl ?_
    refine T_bipush (v := nI 15) d_Mo_block_88 (by decide) ?_
    refine N_isub (a := 15) (b := k) (c := (k - 15)) d_Mo_block_90 (by omega) rfl ?_
    refine N_laload (k := (k - 15)) (x := ((sch w (k - 16)) (k - 15))) d_Mo_block_91 h1 (by omega) (by decide) rfl ?_
    refine T_lstore (L' := [(5, .long ((sch w (k - 16)) (k - 15))), (3, .long ((sch w (k - 16)) (k - 2))), (2, .int (nI k)), (0, .ref 373), (1, .int (nI at0))]) d_Mo_block_92 (by decide) rfl ?_
    refine T_aload_n (v := .ref 373) d_Mo_block_94 rfl (Or.inr ⟨_, rfl⟩) ?_
    refine T_getfield (v := .ref 380) d_Mo_block_95 fg_Mo_58 h_1 rfl ?_
    refine T_iload_n d_Mo_block_98 rfl ?_
    refine T_lload_n d_Mo_block_99 rfl ?_
    refine T_bipush (v := nI 19) d_Mo_block_100 (by decide) ?_
    refine T_static (as := [.long ((sch w (k - 16)) (k - 2)), .int (nI 19)]) (rest := [.int (nI k), .ref 380]) d_Mo_block_102 rfl (jw_Mo_turn.jo (by decide)) lm_Mo_61 jt_Mo_turn rfl (Nat.le_of_ble_eq_true rfl) (by decide) (by decide) (y_Mo_turn (u := ((sch w (k - 16)) (k - 2))) (r := 19) (by decide)) (fun r M_2 hq => ?_)
    obtain ⟨rfl, he⟩ := hq
    obtain rfl := he.symm
    refine T_eq (pc' := 105) (L' := [(5, .long ((sch w (k - 16)) (k - 15))), (3, .long ((sch w (k - 16)) (k - 2))), (2, .int (nI k)), (0, .ref 373), (1, .int (nI at0))]) (st' := [.long (ror ((sch w (k - 16)) (k - 2)) 19), .int (nI k), .ref 380]) (M' := M) rfl rfl rfl rfl ?_
    refine T_lload_n d_Mo_block_105 rfl ?_
    refine T_bipush (v := nI 61) d_Mo_block_106 (by decide) ?_
    refine T_static (as := [.long ((sch w (k - 16)) (k - 2)), .int (nI 61)]) (rest := [.long (ror ((sch w (k - 16)) (k - 2)) 19), .int (nI k), .ref 380]) d_Mo_block_108 rfl (jw_Mo_turn.jo (by decide)) lm_Mo_61 jt_Mo_turn rfl (Nat.le_of_ble_eq_true rfl) (by decide) (by decide) (y_Mo_turn (u := ((sch w (k - 16)) (k - 2))) (r := 61) (by decide)) (fun r M_3 hq => ?_)
    obtain ⟨rfl, he⟩ := hq
    obtain rfl := he.symm
    refine T_eq (pc' := 111) (L' := [(5, .long ((sch w (k - 16)) (k - 15))), (3, .long ((sch w (k - 16)) (k - 2))), (2, .int (nI k)), (0, .ref 373), (1, .int (nI at0))]) (st' := [.long (ror ((sch w (k - 16)) (k - 2)) 61), .long (ror ((sch w (k - 16)) (k - 2)) 19), .int (nI k), .ref 380]) (M' := M) rfl rfl rfl rfl ?_
    refine T_lxor d_Mo_block_111 ?_
    refine T_lload_n d_Mo_block_112 rfl ?_
    refine T_bipush (v := nI 6) d_Mo_block_113 (by decide) ?_
    refine T_lushr d_Mo_block_115 ?_
    refine T_lxor d_Mo_block_116 ?_
    refine T_aload_n (v := .ref 373) d_Mo_block_117 rfl (Or.inr ⟨_, rfl⟩) ?_
    refine T_getfield (v := .ref 380) d_Mo_block_118 fg_Mo_58 h_1 rfl ?_
    refine T_iload_n d_Mo_block_121 rfl ?_
    refine T_bipush (v := nI 7) d_Mo_block_122 (by decide) ?_
    refine N_isub (a := 7) (b := k) (c := (k - 7)) d_Mo_block_124 (by omega) rfl ?_
    refine N_laload (k := (k - 7)) (x := ((sch w (k - 16)) (k - 7))) d_Mo_block_125 h1 (by omega) (by decide) rfl ?_
    refine T_ladd d_Mo_block_126 ?_
    refine T_lload d_Mo_block_127 rfl ?_
    refine T_iconst (v := nI 1) d_Mo_block_129 (by decide) ?_
    refine T_static (as := [.long ((sch w (k - 16)) (k - 15)), .int (nI 1)]) (rest := [.long ((((ror ((sch w (k - 16)) (k - 2)) 19) ^^^ (ror ((sch w (k - 16)) (k - 2)) 61)) ^^^ ((((sch w (k - 16)) (k - 2)).toUInt64 >>> ((nI 6).toInt64.toUInt64 &&& Int64.toUInt64 63)).toInt64)) + ((sch w (k - 16)) (k - 7))), .int (nI k), .ref 380]) d_Mo_block_130 rfl (jw_Mo_turn.jo (by decide)) lm_Mo_61 jt_Mo_turn rfl (Nat.le_of_ble_eq_true rfl) (by decide) (by decide) (y_Mo_turn (u := ((sch w (k - 16)) (k - 15))) (r := 1) (by decide)) (fun r M_4 hq => ?_)
    obtain ⟨rfl, he⟩ := hq
    obtain rfl := he.symm
    refine T_eq (pc' := 133) (L' := [(5, .long ((sch w (k - 16)) (k - 15))), (3, .long ((sch w (k - 16)) (k - 2))), (2, .int (nI k)), (0, .ref 373), (1, .int (nI at0))]) (st' := [.long (ror ((sch w (k - 16)) (k - 15)) 1), .long ((((ror ((sch w (k - 16)) (k - 2)) 19) ^^^ (ror ((sch w (k - 16)) (k - 2)) 61)) ^^^ ((((sch w (k - 16)) (k - 2)).toUInt64 >>> ((nI 6).toInt64.toUInt64 &&& Int64.toUInt64 63)).toInt64)) + ((sch w (k - 16)) (k - 7))), .int (nI k), .ref 380]) (M' := M) rfl rfl rfl rfl ?_
    refine T_lload d_Mo_block_133 rfl ?_
    refine T_bipush (v := nI 8) d_Mo_block_135 (by decide) ?_
    refine T_static (as := [.long ((sch w (k - 16)) (k - 15)), .int (nI 8)]) (rest := [.long (ror ((sch w (k - 16)) (k - 15)) 1), .long ((((ror ((sch w (k - 16)) (k - 2)) 19) ^^^ (ror ((sch w (k - 16)) (k - 2)) 61)) ^^^ ((((sch w (k - 16)) (k - 2)).toUInt64 >>> ((nI 6).toInt64.toUInt64 &&& Int64.toUInt64 63)).toInt64)) + ((sch w (k - 16)) (k - 7))), .int (nI k), .ref 380]) d_Mo_block_137 rfl (jw_Mo_turn.jo (by decide)) lm_Mo_61 jt_Mo_turn rfl (Nat.le_of_ble_eq_true rfl) (by decide) (by decide) (y_Mo_turn (u := ((sch w (k - 16)) (k - 15))) (r := 8) (by decide)) (fun r M_5 hq => ?_)
    obtain ⟨rfl, he⟩ := hq
    obtain rfl := he.symm
    refine T_eq (pc' := 140) (L' := [(5, .long ((sch w (k - 16)) (k - 15))), (3, .long ((sch w (k - 16)) (k - 2))), (2, .int (nI k)), (0, .ref 373), (1, .int (nI at0))]) (st' := [.long (ror ((sch w (k - 16)) (k - 15)) 8), .long (ror ((sch w (k - 16)) (k - 15)) 1), .long ((((ror ((sch w (k - 16)) (k - 2)) 19) ^^^ (ror ((sch w (k - 16)) (k - 2)) 61)) ^^^ ((((sch w (k - 16)) (k - 2)).toUInt64 >>> ((nI 6).toInt64.toUInt64 &&& Int64.toUInt64 63)).toInt64)) + ((sch w (k - 16)) (k - 7))), .int (nI k), .ref 380]) (M' := M) rfl rfl rfl rfl ?_
    refine T_lxor d_Mo_block_140 ?_
    refine T_lload d_Mo_block_141 rfl ?_
    refine T_bipush (v := nI 7) d_Mo_block_143 (by decide) ?_
    refine T_lushr d_Mo_block_145 ?_
    refine T_lxor d_Mo_block_146 ?_
    refine T_ladd d_Mo_block_147 ?_
    refine T_aload_n (v := .ref 373) d_Mo_block_148 rfl (Or.inr ⟨_, rfl⟩) ?_
    refine T_getfield (v := .ref 380) d_Mo_block_149 fg_Mo_58 h_1 rfl ?_
    refine T_iload_n d_Mo_block_152 rfl ?_
    refine T_bipush (v := nI 16) d_Mo_block_153 (by decide) ?_
    refine N_isub (a := 16) (b := k) (c := (k - 16)) d_Mo_block_155 (by omega) rfl ?_
    refine N_laload (k := (k - 16)) (x := ((sch w (k - 16)) (k - 16))) d_Mo_block_156 h1 (by omega) (by decide) rfl ?_
    refine T_ladd d_Mo_block_157 ?_
    refine N_lastore (k := k) d_Mo_block_158 (by decide) h1 (by omega) (by decide) rfl (fun M_6 h_7 s_8 => ?_)
    refine N_iinc (k := k) (m := 1) (c := (k + 1)) (L' := [(2, .int (nI ((k + 1)))), (5, .long ((sch w (k - 16)) (k - 15))), (3, .long ((sch w (k - 16)) (k - 2))), (0, .ref 373), (1, .int (nI at0))]) d_Mo_block_159 (by decide) rfl (by decide) rfl rfl ?_
    refine T_goto (tgt := 68) d_Mo_block_162 rfl ?_
    exact T_sub (L' := [(2, .int (nI ((k + 1)))), (0, .ref 373), (1, .int (nI at0))]) (fun q hq => by simp only [List.mem_cons, List.not_mem_nil, or_false] at hq ⊢; rcases hq with rfl | rfl | rfl <;> simp) (ih (k + 1) M_6 (by omega) ⟨by omega, by rw [h_7, show k + 1 - 16 = (k - 16) + 1 by omega]; show _ = some (lr 80 (vp_updL (sch w (k - 16)) (16 + (k - 16)) (sch1 (sch w (k - 16)) (16 + (k - 16))))); rw [show 16 + (k - 16) = k by omega]; rfl, (Kp.ex (Kp.tr (Kp.rf : Kp [380] M0 M0) (Kp.mono hK (by decide))) s_8 (by decide))⟩)
def wdb (B : List UInt8) (a : Nat) : Nat → Int64
  | 0 => 0
  | k + 1 => lsh (wdb B a k) 8 ||| (bR (gd B (a + k))).toInt64
theorem uL_s {f : Nat → Int64} {k : Nat} {x : Int64} : vp_updL f k x k = x := if_pos rfl
theorem uL_n {f : Nat → Int64} {k j : Nat} {x : Int64} (h : j ≠ k) : vp_updL f k x j = f j := if_neg h
set_option maxHeartbeats 8000000 in
theorem ms_b (G : GX) {M0 : List va_E} {v : Nat → Int32} {at0 i : Nat} {W0 : Nat → Int64} {B : List UInt8} (ho : M0[373]? = some (moO v)) (hB : IA M0 374 4000 B) (hat : at0 + 128 ≤ B.length) (hi : i < 16) {Q : Option Value → List va_E → Prop} (kk : ∀ M, (∃ W, M[380]? = some (lr 80 W) ∧ W i = wdb B (at0 + 8 * i) 8 ∧ ∀ t, t ≠ i → W t = W0 t) ∧ Kp [380] M0 M → TT G mi_Mo_block 59 [(2, .int (nI i)), (0, .ref 373), (1, .int (nI at0))] [] M 0 0 Q) : ∀ j k M, k + j = 8 → (∃ W, M[380]? = some (lr 80 W) ∧ W i = wdb B (at0 + 8 * i) k ∧ ∀ t, t ≠ i → W t = W0 t) ∧ Kp [380] M0 M → TT G mi_Mo_block 17 [(3, .int (nI k)), (2, .int (nI i)), (0, .ref 373), (1, .int (nI at0))] [] M 0 0 Q := by
  intro j
  induction j with
  | zero =>
    intro k M hk hI
    obtain rfl : 8 = k := by omega
    refine T_iload_n d_Mo_block_17 rfl ?_
    refine T_bipush (v := nI 8) d_Mo_block_18 (by decide) ?_
    refine N_icmp_ge_t (a := 8) (b := 8) d_Mo_block_20 (tgt := 59) rfl (by omega) (by omega) (by omega) ?_
    exact T_sub (fun q hq => List.mem_cons_of_mem _ hq) (kk M hI)
  | succ j ih =>
    intro k M hk hI
    obtain ⟨⟨W, h1, e1, e2⟩, hK⟩ := hI
    obtain ⟨fb, fb1, fb2, fb3⟩ := id hB
    refine T_iload_n d_Mo_block_17 rfl ?_
    refine T_bipush (v := nI 8) d_Mo_block_18 (by decide) ?_
    refine N_icmp_ge_f (a := 8) (b := k) d_Mo_block_20 (tgt := 59) rfl (by omega) (by omega) (by omega) ?_
    refine T_aload_n (v := .ref 373) d_Mo_block_23 rfl (Or.inr ⟨_, rfl⟩) ?_
    have h_1 := (hK 373 (by decide)).trans (ho)
    refine T_getfield (v := .ref 380) d_Mo_block_24 fg_Mo_58 h_1 rfl ?_
    refine T_iload_n d_Mo_block_27 rfl ?_
    refine T_aload_n (v := .ref 373) d_Mo_block_28 rfl (Or.inr ⟨_, rfl⟩) ?_
    refine T_getfield (v := .ref 380) d_Mo_block_29 fg_Mo_58 h_1 rfl ?_
    refine T_iload_n d_Mo_block_32 rfl ?_
    refine N_laload (k := i) (x := (W i)) d_Mo_block_33 h1 (by omega) (by decide) rfl ?_
    refine T_bipush (v := nI 8) d_Mo_block_34 (by decide) ?_
    refine T_lshl d_Mo_block_36 ?_
    refine T_aload_n (v := .ref 373) d_Mo_block_37 rfl (Or.inr ⟨_, rfl⟩) ?_
    refine T_getfield (v := .ref 374) d_Mo_block_38 fg_Mo_1 h_1 rfl ?_
    refine T_iload_n d_Mo_block_41 rfl ?_
    refine T_bipush (v := nI 8) d_Mo_block_42 (by decide) ?_
    refine T_iload_n d_Mo_block_44 rfl ?_
    refine N_imul (a := i) (b := 8) (c := (8 * i)) d_Mo_block_45 rfl ?_
    refine N_iadd (a := (8 * i)) (b := at0) (c := (at0 + (8 * i))) d_Mo_block_46 rfl ?_
    refine T_iload_n d_Mo_block_47 rfl ?_
    refine N_iadd (a := k) (b := (at0 + (8 * i))) (c := ((at0 + (8 * i)) + k)) d_Mo_block_48 rfl ?_
    have h_2 := (hK 374 (by decide)).trans (fb1)
    refine N_iaload (k := ((at0 + (8 * i)) + k)) (x := (bR (gd B ((at0 + (8 * i)) + k)))) d_Mo_block_49 h_2 (by omega) (by decide) (fb3 ((at0 + (8 * i)) + k) (by omega)) ?_
    refine T_i2l d_Mo_block_50 ?_
    refine T_lor d_Mo_block_51 ?_
    refine N_lastore (k := i) d_Mo_block_52 (by decide) h1 (by omega) (by decide) rfl (fun M_3 h_4 s_5 => ?_)
    refine N_iinc (k := k) (m := 1) (c := (k + 1)) (L' := [(3, .int (nI ((k + 1)))), (2, .int (nI i)), (0, .ref 373), (1, .int (nI at0))]) d_Mo_block_53 (by decide) rfl (by decide) rfl rfl ?_
    refine T_goto (tgt := 17) d_Mo_block_56 rfl ?_
    exact ih (k + 1) M_3 (by omega) ⟨⟨_, h_4, by rw [uL_s, e1]; rfl, fun t ht => by rw [uL_n ht]; exact e2 t ht⟩, (Kp.ex (Kp.tr (Kp.rf : Kp [380] M0 M0) (Kp.mono hK (by decide))) s_5 (by decide))⟩
set_option maxHeartbeats 8000000 in
theorem ms_a (G : GX) {M0 : List va_E} {v : Nat → Int32} {at0 : Nat} {B : List UInt8} (ho : M0[373]? = some (moO v)) (hB : IA M0 374 4000 B) (hat : at0 + 128 ≤ B.length) {Q : Option Value → List va_E → Prop} (kk : ∀ M, (∃ W, M[380]? = some (lr 80 W) ∧ ∀ t, t < 16 → W t = wdb B (at0 + 8 * t) 8) ∧ Kp [380] M0 M → TT G mi_Mo_block 65 [(0, .ref 373), (1, .int (nI at0))] [] M 0 0 Q) : ∀ j k M, k + j = 16 → (∃ W, M[380]? = some (lr 80 W) ∧ ∀ t, t < k → W t = wdb B (at0 + 8 * t) 8) ∧ Kp [380] M0 M → TT G mi_Mo_block 2 [(2, .int (nI k)), (0, .ref 373), (1, .int (nI at0))] [] M 0 0 Q := by
  intro j
  induction j with
  | zero =>
    intro k M hk hI
    obtain rfl : 16 = k := by omega
    refine T_iload_n d_Mo_block_2 rfl ?_
    refine T_bipush (v := nI 16) d_Mo_block_3 (by decide) ?_
    refine N_icmp_ge_t (a := 16) (b := 16) d_Mo_block_5 (tgt := 65) rfl (by omega) (by omega) (by omega) ?_
    exact T_sub (fun q hq => List.mem_cons_of_mem _ hq) (kk M hI)
  | succ j ih =>
    intro k M hk hI
    obtain ⟨⟨W, h1, e1⟩, hK⟩ := hI
    refine T_iload_n d_Mo_block_2 rfl ?_
    refine T_bipush (v := nI 16) d_Mo_block_3 (by decide) ?_
    refine N_icmp_ge_f (a := 16) (b := k) d_Mo_block_5 (tgt := 65) rfl (by omega) (by omega) (by omega) ?_
    refine T_aload_n (v := .ref 373) d_Mo_block_8 rfl (Or.inr ⟨_, rfl⟩) ?_
    have h_1 := (hK 373 (by decide)).trans (ho)
    refine T_getfield (v := .ref 380) d_Mo_block_9 fg_Mo_58 h_1 rfl ?_
    refine T_iload_n d_Mo_block_12 rfl ?_
    refine T_lconst (v := 0) d_Mo_block_13 (by decide) ?_
    refine N_lastore (k := k) d_Mo_block_14 (by decide) h1 (by omega) (by decide) rfl (fun M_2 h_3 s_4 => ?_)
    refine T_iconst (v := nI 0) d_Mo_block_15 (by decide) ?_
    refine T_istore_n (L' := [(3, .int (nI 0)), (2, .int (nI k)), (0, .ref 373), (1, .int (nI at0))]) d_Mo_block_16 (by decide) rfl ?_
    have ho2 := ((Kp.ex (Kp.tr (Kp.rf : Kp [380] M0 M0) (Kp.mono hK (by decide))) s_4 (by decide))) 373 (by decide)
    rw [ho] at ho2
    have hB2 := IA.kp hB ((Kp.ex (Kp.tr (Kp.rf : Kp [380] M0 M0) (Kp.mono hK (by decide))) s_4 (by decide))) (by decide)
    refine ms_b G (i := k) (W0 := W) ho2 hB2 hat (by omega) (fun Mb hI => ?_) 8 0 M_2 rfl ⟨⟨_, h_3, by rw [uL_s]; rfl, fun t ht => uL_n ht⟩, Kp.rf⟩
    obtain ⟨⟨W2, g1, g2, g3⟩, hKb⟩ := hI
    refine N_iinc (k := k) (m := 1) (c := (k + 1)) (L' := [(2, .int (nI ((k + 1)))), (0, .ref 373), (1, .int (nI at0))]) d_Mo_block_59 (by decide) rfl (by decide) rfl rfl ?_
    refine T_goto (tgt := 2) d_Mo_block_62 rfl ?_
    exact ih (k + 1) Mb (by omega) ⟨⟨W2, g1, fun t ht => by rcases Nat.lt_succ_iff_lt_or_eq.mp ht with h | h; exact (g3 t (by omega)).trans (e1 t h); subst h; exact g2⟩, (Kp.tr (Kp.ex (Kp.tr (Kp.rf : Kp [380] M0 M0) (Kp.mono hK (by decide))) s_4 (by decide)) (Kp.mono hKb (by decide)))⟩
set_option maxHeartbeats 8000000 in
theorem ms_c (G : GX) {M0 : List va_E} {v : Nat → Int32} {at0 : Nat} {s : Nat → Int64} (ho : M0[373]? = some (moO v)) (hs : M0[381]? = some (lr 8 s)) {Q : Option Value → List va_E → Prop} (kk : ∀ M, (∃ S, M[382]? = some (lr 8 S) ∧ ∀ t, t < 8 → S t = s t) ∧ Kp [382] M0 M → TT G mi_Mo_block 191 [(0, .ref 373), (1, .int (nI at0))] [] M 0 0 Q) : ∀ j k M, k + j = 8 → (∃ S, M[382]? = some (lr 8 S) ∧ ∀ t, t < k → S t = s t) ∧ Kp [382] M0 M → TT G mi_Mo_block 167 [(2, .int (nI k)), (0, .ref 373), (1, .int (nI at0))] [] M 0 0 Q := by
  intro j
  induction j with
  | zero =>
    intro k M hk hI
    obtain rfl : 8 = k := by omega
    refine T_iload_n d_Mo_block_167 rfl ?_
    refine T_bipush (v := nI 8) d_Mo_block_168 (by decide) ?_
    refine N_icmp_ge_t (a := 8) (b := 8) d_Mo_block_170 (tgt := 191) rfl (by omega) (by omega) (by omega) ?_
    exact T_sub (fun q hq => List.mem_cons_of_mem _ hq) (kk M hI)
  | succ j ih =>
    intro k M hk hI
    obtain ⟨⟨S, h1, e1⟩, hK⟩ := hI
    refine T_iload_n d_Mo_block_167 rfl ?_
    refine T_bipush (v := nI 8) d_Mo_block_168 (by decide) ?_
    refine N_icmp_ge_f (a := 8) (b := k) d_Mo_block_170 (tgt := 191) rfl (by omega) (by omega) (by omega) ?_
    refine T_aload_n (v := .ref 373) d_Mo_block_173 rfl (Or.inr ⟨_, rfl⟩) ?_
    have h_1 := (hK 373 (by decide)).trans (ho)
    refine T_getfield (v := .ref 382) d_Mo_block_174 fg_Mo_65 h_1 rfl ?_
    refine T_iload_n d_Mo_block_177 rfl ?_
    refine T_aload_n (v := .ref 373) d_Mo_block_178 rfl (Or.inr ⟨_, rfl⟩) ?_
    refine T_getfield (v := .ref 381) d_Mo_block_179 fg_Mo_49 h_1 rfl ?_
    refine T_iload_n d_Mo_block_182 rfl ?_
    have h_2 := (hK 381 (by decide)).trans (hs)
    refine N_laload (k := k) (x := (s k)) d_Mo_block_183 h_2 (by omega) (by decide) rfl ?_
    refine N_lastore (k := k) d_Mo_block_184 (by decide) h1 (by omega) (by decide) rfl (fun M_3 h_4 s_5 => ?_)
    refine N_iinc (k := k) (m := 1) (c := (k + 1)) (L' := [(2, .int (nI ((k + 1)))), (0, .ref 373), (1, .int (nI at0))]) d_Mo_block_185 (by decide) rfl (by decide) rfl rfl ?_
    refine T_goto (tgt := 167) d_Mo_block_188 rfl ?_
    exact ih (k + 1) M_3 (by omega) ⟨⟨_, h_4, fun t ht => by rcases Nat.lt_succ_iff_lt_or_eq.mp ht with h | h; rw [uL_n (by omega)]; exact e1 t h; subst h; exact uL_s⟩, (Kp.ex (Kp.tr (Kp.rf : Kp [382] M0 M0) (Kp.mono hK (by decide))) s_5 (by decide))⟩
set_option maxRecDepth 20000 in
set_option maxHeartbeats 8000000 in
theorem ms_r (G : GX) {M0 : List va_E} {v : Nat → Int32} {at0 : Nat} {s W cu : Nat → Int64} (ho : M0[373]? = some (moO v)) (hw : M0[380]? = some (lr 80 W)) (hc : M0[375]? = some (lr 80 cu)) (hcu : ∀ t, t < 80 → cu t = kT t) {Q : Option Value → List va_E → Prop} (kk : ∀ M, (∃ S, M[382]? = some (lr 8 S) ∧ ∀ t, t < 8 → S t = rnds kT W s 80 t) ∧ Kp [382] M0 M → TT G mi_Mo_block 399 [(0, .ref 373), (1, .int (nI at0))] [] M 0 0 Q) : ∀ j k M, k + j = 80 → (∃ S, M[382]? = some (lr 8 S) ∧ ∀ t, t < 8 → S t = rnds kT W s k t) ∧ Kp [382] M0 M → TT G mi_Mo_block 193 [(2, .int (nI k)), (0, .ref 373), (1, .int (nI at0))] [] M 0 0 Q := by
  intro j
  induction j with
  | zero =>
    intro k M hk hI
    obtain rfl : 80 = k := by omega
    refine T_iload_n d_Mo_block_193 rfl ?_
    refine T_bipush (v := nI 80) d_Mo_block_194 (by decide) ?_
    refine N_icmp_ge_t (a := 80) (b := 80) d_Mo_block_196 (tgt := 399) rfl (by omega) (by omega) (by omega) ?_
    exact T_sub (fun q hq => List.mem_cons_of_mem _ hq) (kk M hI)
  | succ j ih =>
    intro k M hk hI
    obtain ⟨⟨S, h1, e1⟩, hK⟩ := hI
    refine T_iload_n d_Mo_block_193 rfl ?_
    refine T_bipush (v := nI 80) d_Mo_block_194 (by decide) ?_
    refine N_icmp_ge_f (a := 80) (b := k) d_Mo_block_196 (tgt := 399) rfl (by omega) (by omega) (by omega) ?_
    refine T_aload_n (v := .ref 373) d_Mo_block_199 rfl (Or.inr ⟨_, rfl⟩) ?_
    have h_1 := (hK 373 (by decide)).trans (ho)
    refine T_getfield (v := .ref 382) d_Mo_block_200 fg_Mo_65 h_1 rfl ?_
    refine T_iconst (v := nI 4) d_Mo_block_203 (by decide) ?_
    refine N_laload (k := 4) (x := (S 4)) d_Mo_block_204 h1 (by omega) (by decide) rfl ?_
    refine T_lstore_n (L' := [(3, .long (S 4)), (2, .int (nI k)), (0, .ref 373), (1, .int (nI at0))]) d_Mo_block_205 (by decide) rfl ?_
    refine T_aload_n (v := .ref 373) d_Mo_block_206 rfl (Or.inr ⟨_, rfl⟩) ?_
    refine T_getfield (v := .ref 382) d_Mo_block_207 fg_Mo_65 h_1 rfl ?_
    refine T_iconst (v := nI 0) d_Mo_block_210 (by decide) ?_
    refine N_laload (k := 0) (x := (S 0)) d_Mo_block_211 h1 (by omega) (by decide) rfl ?_
    refine T_lstore (L' := [(5, .long (S 0)), (3, .long (S 4)), (2, .int (nI k)), (0, .ref 373), (1, .int (nI at0))]) d_Mo_block_212 (by decide) rfl ?_
    refine T_aload_n (v := .ref 373) d_Mo_block_214 rfl (Or.inr ⟨_, rfl⟩) ?_
    refine T_getfield (v := .ref 382) d_Mo_block_215 fg_Mo_65 h_1 rfl ?_
    refine T_bipush (v := nI 7) d_Mo_block_218 (by decide) ?_
    refine N_laload (k := 7) (x := (S 7)) d_Mo_block_220 h1 (by omega) (by decide) rfl ?_
    refine T_lload_n d_Mo_block_221 rfl ?_
    refine T_bipush (v := nI 14) d_Mo_block_222 (by decide) ?_
    refine T_static (as := [.long (S 4), .int (nI 14)]) (rest := [.long (S 7)]) d_Mo_block_224 rfl (jw_Mo_turn.jo (by decide)) lm_Mo_61 jt_Mo_turn rfl (Nat.le_of_ble_eq_true rfl) (by decide) (by decide) (y_Mo_turn (u := (S 4)) (r := 14) (by decide)) (fun r M_2 hq => ?_)
    obtain ⟨rfl, he⟩ := hq
    obtain rfl := he.symm
    refine T_eq (pc' := 227) (L' := [(5, .long (S 0)), (3, .long (S 4)), (2, .int (nI k)), (0, .ref 373), (1, .int (nI at0))]) (st' := [.long (ror (S 4) 14), .long (S 7)]) (M' := M) rfl rfl rfl rfl ?_
    refine T_lload_n d_Mo_block_227 rfl ?_
    refine T_bipush (v := nI 18) d_Mo_block_228 (by decide) ?_
    refine T_static (as := [.long (S 4), .int (nI 18)]) (rest := [.long (ror (S 4) 14), .long (S 7)]) d_Mo_block_230 rfl (jw_Mo_turn.jo (by decide)) lm_Mo_61 jt_Mo_turn rfl (Nat.le_of_ble_eq_true rfl) (by decide) (by decide) (y_Mo_turn (u := (S 4)) (r := 18) (by decide)) (fun r M_3 hq => ?_)
    obtain ⟨rfl, he⟩ := hq
    obtain rfl := he.symm
    refine T_eq (pc' := 233) (L' := [(5, .long (S 0)), (3, .long (S 4)), (2, .int (nI k)), (0, .ref 373), (1, .int (nI at0))]) (st' := [.long (ror (S 4) 18), .long (ror (S 4) 14), .long (S 7)]) (M' := M) rfl rfl rfl rfl ?_
    refine T_lxor d_Mo_block_233 ?_
    refine T_lload_n d_Mo_block_234 rfl ?_
    refine T_bipush (v := nI 41) d_Mo_block_235 (by decide) ?_
    refine T_static (as := [.long (S 4), .int (nI 41)]) (rest := [.long ((ror (S 4) 14) ^^^ (ror (S 4) 18)), .long (S 7)]) d_Mo_block_237 rfl (jw_Mo_turn.jo (by decide)) lm_Mo_61 jt_Mo_turn rfl (Nat.le_of_ble_eq_true rfl) (by decide) (by decide) (y_Mo_turn (u := (S 4)) (r := 41) (by decide)) (fun r M_4 hq => ?_)
    obtain ⟨rfl, he⟩ := hq
    obtain rfl := he.symm
    refine T_eq (pc' := 240) (L' := [(5, .long (S 0)), (3, .long (S 4)), (2, .int (nI k)), (0, .ref 373), (1, .int (nI at0))]) (st' := [.long (ror (S 4) 41), .long ((ror (S 4) 14) ^^^ (ror (S 4) 18)), .long (S 7)]) (M' := M) rfl rfl rfl rfl ?_
    refine T_lxor d_Mo_block_240 ?_
    refine T_ladd d_Mo_block_241 ?_
    refine T_lload_n d_Mo_block_242 rfl ?_
    refine T_aload_n (v := .ref 373) d_Mo_block_243 rfl (Or.inr ⟨_, rfl⟩) ?_
    refine T_getfield (v := .ref 382) d_Mo_block_244 fg_Mo_65 h_1 rfl ?_
    refine T_iconst (v := nI 5) d_Mo_block_247 (by decide) ?_
    refine N_laload (k := 5) (x := (S 5)) d_Mo_block_248 h1 (by omega) (by decide) rfl ?_
    refine T_land d_Mo_block_249 ?_
    refine T_lload_n d_Mo_block_250 rfl ?_
    refine T_ldc2 d_Mo_block_251 kJ_Mo_68 ?_
    refine T_lxor d_Mo_block_254 ?_
    refine T_aload_n (v := .ref 373) d_Mo_block_255 rfl (Or.inr ⟨_, rfl⟩) ?_
    refine T_getfield (v := .ref 382) d_Mo_block_256 fg_Mo_65 h_1 rfl ?_
    refine T_bipush (v := nI 6) d_Mo_block_259 (by decide) ?_
    refine N_laload (k := 6) (x := (S 6)) d_Mo_block_261 h1 (by omega) (by decide) rfl ?_
    refine T_land d_Mo_block_262 ?_
    refine T_lxor d_Mo_block_263 ?_
    refine T_ladd d_Mo_block_264 ?_
    refine T_aload_n (v := .ref 373) d_Mo_block_265 rfl (Or.inr ⟨_, rfl⟩) ?_
    refine T_getfield (v := .ref 375) d_Mo_block_266 fg_Mo_35 h_1 rfl ?_
    refine T_iload_n d_Mo_block_269 rfl ?_
    have h_5 := (hK 375 (by decide)).trans (hc)
    refine N_laload (k := k) (x := (cu k)) d_Mo_block_270 h_5 (by omega) (by decide) rfl ?_
    refine T_ladd d_Mo_block_271 ?_
    refine T_aload_n (v := .ref 373) d_Mo_block_272 rfl (Or.inr ⟨_, rfl⟩) ?_
    refine T_getfield (v := .ref 380) d_Mo_block_273 fg_Mo_58 h_1 rfl ?_
    refine T_iload_n d_Mo_block_276 rfl ?_
    have h_6 := (hK 380 (by decide)).trans (hw)
    refine N_laload (k := k) (x := (W k)) d_Mo_block_277 h_6 (by omega) (by decide) rfl ?_
    refine T_ladd d_Mo_block_278 ?_
    refine T_lstore (L' := [(7, .long (((((S 7) + (((ror (S 4) 14) ^^^ (ror (S 4) 18)) ^^^ (ror (S 4) 41))) + (((S 4) &&& (S 5)) ^^^ (((S 4) ^^^ (-1)) &&& (S 6)))) + (cu k)) + (W k))), (5, .long (S 0)), (3, .long (S 4)), (2, .int (nI k)), (0, .ref 373), (1, .int (nI at0))]) d_Mo_block_279 (by decide) rfl ?_
    refine T_lload d_Mo_block_281 rfl ?_
    refine T_bipush (v := nI 28) d_Mo_block_283 (by decide) ?_
    refine T_static (as := [.long (S 0), .int (nI 28)]) (rest := []) d_Mo_block_285 rfl (jw_Mo_turn.jo (by decide)) lm_Mo_61 jt_Mo_turn rfl (Nat.le_of_ble_eq_true rfl) (by decide) (by decide) (y_Mo_turn (u := (S 0)) (r := 28) (by decide)) (fun r M_7 hq => ?_)
    obtain ⟨rfl, he⟩ := hq
    obtain rfl := he.symm
    refine T_eq (pc' := 288) (L' := [(7, .long (((((S 7) + (((ror (S 4) 14) ^^^ (ror (S 4) 18)) ^^^ (ror (S 4) 41))) + (((S 4) &&& (S 5)) ^^^ (((S 4) ^^^ (-1)) &&& (S 6)))) + (cu k)) + (W k))), (5, .long (S 0)), (3, .long (S 4)), (2, .int (nI k)), (0, .ref 373), (1, .int (nI at0))]) (st' := [.long (ror (S 0) 28)]) (M' := M) rfl rfl rfl rfl ?_
    refine T_lload d_Mo_block_288 rfl ?_
    refine T_bipush (v := nI 34) d_Mo_block_290 (by decide) ?_
    refine T_static (as := [.long (S 0), .int (nI 34)]) (rest := [.long (ror (S 0) 28)]) d_Mo_block_292 rfl (jw_Mo_turn.jo (by decide)) lm_Mo_61 jt_Mo_turn rfl (Nat.le_of_ble_eq_true rfl) (by decide) (by decide) (y_Mo_turn (u := (S 0)) (r := 34) (by decide)) (fun r M_8 hq => ?_)
    obtain ⟨rfl, he⟩ := hq
    obtain rfl := he.symm
    refine T_eq (pc' := 295) (L' := [(7, .long (((((S 7) + (((ror (S 4) 14) ^^^ (ror (S 4) 18)) ^^^ (ror (S 4) 41))) + (((S 4) &&& (S 5)) ^^^ (((S 4) ^^^ (-1)) &&& (S 6)))) + (cu k)) + (W k))), (5, .long (S 0)), (3, .long (S 4)), (2, .int (nI k)), (0, .ref 373), (1, .int (nI at0))]) (st' := [.long (ror (S 0) 34), .long (ror (S 0) 28)]) (M' := M) rfl rfl rfl rfl ?_
    refine T_lxor d_Mo_block_295 ?_
    refine T_lload d_Mo_block_296 rfl ?_
    refine T_bipush (v := nI 39) d_Mo_block_298 (by decide) ?_
    refine T_static (as := [.long (S 0), .int (nI 39)]) (rest := [.long ((ror (S 0) 28) ^^^ (ror (S 0) 34))]) d_Mo_block_300 rfl (jw_Mo_turn.jo (by decide)) lm_Mo_61 jt_Mo_turn rfl (Nat.le_of_ble_eq_true rfl) (by decide) (by decide) (y_Mo_turn (u := (S 0)) (r := 39) (by decide)) (fun r M_9 hq => ?_)
    obtain ⟨rfl, he⟩ := hq
    obtain rfl := he.symm
    refine T_eq (pc' := 303) (L' := [(7, .long (((((S 7) + (((ror (S 4) 14) ^^^ (ror (S 4) 18)) ^^^ (ror (S 4) 41))) + (((S 4) &&& (S 5)) ^^^ (((S 4) ^^^ (-1)) &&& (S 6)))) + (cu k)) + (W k))), (5, .long (S 0)), (3, .long (S 4)), (2, .int (nI k)), (0, .ref 373), (1, .int (nI at0))]) (st' := [.long (ror (S 0) 39), .long ((ror (S 0) 28) ^^^ (ror (S 0) 34))]) (M' := M) rfl rfl rfl rfl ?_
    refine T_lxor d_Mo_block_303 ?_
    refine T_lload d_Mo_block_304 rfl ?_
    refine T_aload_n (v := .ref 373) d_Mo_block_306 rfl (Or.inr ⟨_, rfl⟩) ?_
    refine T_getfield (v := .ref 382) d_Mo_block_307 fg_Mo_65 h_1 rfl ?_
    refine T_iconst (v := nI 1) d_Mo_block_310 (by decide) ?_
    refine N_laload (k := 1) (x := (S 1)) d_Mo_block_311 h1 (by omega) (by decide) rfl ?_
    refine T_land d_Mo_block_312 ?_
    refine T_lload d_Mo_block_313 rfl ?_
    refine T_aload_n (v := .ref 373) d_Mo_block_315 rfl (Or.inr ⟨_, rfl⟩) ?_
    refine T_getfield (v := .ref 382) d_Mo_block_316 fg_Mo_65 h_1 rfl ?_
    refine T_iconst (v := nI 2) d_Mo_block_319 (by decide) ?_
    refine N_laload (k := 2) (x := (S 2)) d_Mo_block_320 h1 (by omega) (by decide) rfl ?_
    refine T_land d_Mo_block_321 ?_
    refine T_lxor d_Mo_block_322 ?_
    refine T_aload_n (v := .ref 373) d_Mo_block_323 rfl (Or.inr ⟨_, rfl⟩) ?_
    refine T_getfield (v := .ref 382) d_Mo_block_324 fg_Mo_65 h_1 rfl ?_
    refine T_iconst (v := nI 1) d_Mo_block_327 (by decide) ?_
    refine N_laload (k := 1) (x := (S 1)) d_Mo_block_328 h1 (by omega) (by decide) rfl ?_
    refine T_aload_n (v := .ref 373) d_Mo_block_329 rfl (Or.inr ⟨_, rfl⟩) ?_
    refine T_getfield (v := .ref 382) d_Mo_block_330 fg_Mo_65 h_1 rfl ?_
    refine T_iconst (v := nI 2) d_Mo_block_333 (by decide) ?_
    refine N_laload (k := 2) (x := (S 2)) d_Mo_block_334 h1 (by omega) (by decide) rfl ?_
    refine T_land d_Mo_block_335 ?_
    refine T_lxor d_Mo_block_336 ?_
    refine T_ladd d_Mo_block_337 ?_
    refine T_lstore (L' := [(9, .long ((((ror (S 0) 28) ^^^ (ror (S 0) 34)) ^^^ (ror (S 0) 39)) + ((((S 0) &&& (S 1)) ^^^ ((S 0) &&& (S 2))) ^^^ ((S 1) &&& (S 2))))), (7, .long (((((S 7) + (((ror (S 4) 14) ^^^ (ror (S 4) 18)) ^^^ (ror (S 4) 41))) + (((S 4) &&& (S 5)) ^^^ (((S 4) ^^^ (-1)) &&& (S 6)))) + (cu k)) + (W k))), (5, .long (S 0)), (3, .long (S 4)), (2, .int (nI k)), (0, .ref 373), (1, .int (nI at0))]) d_Mo_block_338 (by decide) rfl ?_
    refine T_bipush (v := nI 7) d_Mo_block_340 (by decide) ?_
    refine T_istore (L' := [(11, .int (nI 7)), (9, .long ((((ror (S 0) 28) ^^^ (ror (S 0) 34)) ^^^ (ror (S 0) 39)) + ((((S 0) &&& (S 1)) ^^^ ((S 0) &&& (S 2))) ^^^ ((S 1) &&& (S 2))))), (7, .long (((((S 7) + (((ror (S 4) 14) ^^^ (ror (S 4) 18)) ^^^ (ror (S 4) 41))) + (((S 4) &&& (S 5)) ^^^ (((S 4) ^^^ (-1)) &&& (S 6)))) + (cu k)) + (W k))), (5, .long (S 0)), (3, .long (S 4)), (2, .int (nI k)), (0, .ref 373), (1, .int (nI at0))]) d_Mo_block_342 (by decide) rfl ?_
    refine T_iload d_Mo_block_344 rfl ?_
    refine N_if_le_f (b := 7) d_Mo_block_346 (tgt := 371) rfl (by omega) (by omega) ?_
    refine T_aload_n (v := .ref 373) d_Mo_block_349 rfl (Or.inr ⟨_, rfl⟩) ?_
    refine T_getfield (v := .ref 382) d_Mo_block_350 fg_Mo_65 h_1 rfl ?_
    refine T_iload d_Mo_block_353 rfl ?_
    refine T_aload_n (v := .ref 373) d_Mo_block_355 rfl (Or.inr ⟨_, rfl⟩) ?_
    refine T_getfield (v := .ref 382) d_Mo_block_356 fg_Mo_65 h_1 rfl ?_
    refine T_iload d_Mo_block_359 rfl ?_
    refine T_iconst (v := nI 1) d_Mo_block_361 (by decide) ?_
    refine N_isub (a := 1) (b := 7) (c := 6) d_Mo_block_362 (by omega) rfl ?_
    refine N_laload (k := 6) (x := (S 6)) d_Mo_block_363 h1 (by omega) (by decide) rfl ?_
    refine N_lastore (k := 7) d_Mo_block_364 (by decide) h1 (by omega) (by decide) rfl (fun M_10 h_11 s_12 => ?_)
    refine N_idec (k := 6) (L' := [(11, .int (nI 6)), (9, .long ((((ror (S 0) 28) ^^^ (ror (S 0) 34)) ^^^ (ror (S 0) 39)) + ((((S 0) &&& (S 1)) ^^^ ((S 0) &&& (S 2))) ^^^ ((S 1) &&& (S 2))))), (7, .long (((((S 7) + (((ror (S 4) 14) ^^^ (ror (S 4) 18)) ^^^ (ror (S 4) 41))) + (((S 4) &&& (S 5)) ^^^ (((S 4) ^^^ (-1)) &&& (S 6)))) + (cu k)) + (W k))), (5, .long (S 0)), (3, .long (S 4)), (2, .int (nI k)), (0, .ref 373), (1, .int (nI at0))]) d_Mo_block_365 (by decide) rfl rfl ?_
    refine T_goto (tgt := 344) d_Mo_block_368 rfl ?_
    refine T_iload d_Mo_block_344 rfl ?_
    refine N_if_le_f (b := 6) d_Mo_block_346 (tgt := 371) rfl (by omega) (by omega) ?_
    refine T_aload_n (v := .ref 373) d_Mo_block_349 rfl (Or.inr ⟨_, rfl⟩) ?_
    have h_13 := (s_12 373 (by decide)).trans (h_1)
    refine T_getfield (v := .ref 382) d_Mo_block_350 fg_Mo_65 h_13 rfl ?_
    refine T_iload d_Mo_block_353 rfl ?_
    refine T_aload_n (v := .ref 373) d_Mo_block_355 rfl (Or.inr ⟨_, rfl⟩) ?_
    refine T_getfield (v := .ref 382) d_Mo_block_356 fg_Mo_65 h_13 rfl ?_
    refine T_iload d_Mo_block_359 rfl ?_
    refine T_iconst (v := nI 1) d_Mo_block_361 (by decide) ?_
    refine N_isub (a := 1) (b := 6) (c := 5) d_Mo_block_362 (by omega) rfl ?_
    refine N_laload (k := 5) (x := ((vp_updL S 7 (S 6)) 5)) d_Mo_block_363 h_11 (by omega) (by decide) rfl ?_
    refine N_lastore (k := 6) d_Mo_block_364 (by decide) h_11 (by omega) (by decide) rfl (fun M_14 h_15 s_16 => ?_)
    refine N_idec (k := 5) (L' := [(11, .int (nI 5)), (9, .long ((((ror (S 0) 28) ^^^ (ror (S 0) 34)) ^^^ (ror (S 0) 39)) + ((((S 0) &&& (S 1)) ^^^ ((S 0) &&& (S 2))) ^^^ ((S 1) &&& (S 2))))), (7, .long (((((S 7) + (((ror (S 4) 14) ^^^ (ror (S 4) 18)) ^^^ (ror (S 4) 41))) + (((S 4) &&& (S 5)) ^^^ (((S 4) ^^^ (-1)) &&& (S 6)))) + (cu k)) + (W k))), (5, .long (S 0)), (3, .long (S 4)), (2, .int (nI k)), (0, .ref 373), (1, .int (nI at0))]) d_Mo_block_365 (by decide) rfl rfl ?_
    refine T_goto (tgt := 344) d_Mo_block_368 rfl ?_
    refine T_iload d_Mo_block_344 rfl ?_
    refine N_if_le_f (b := 5) d_Mo_block_346 (tgt := 371) rfl (by omega) (by omega) ?_
    refine T_aload_n (v := .ref 373) d_Mo_block_349 rfl (Or.inr ⟨_, rfl⟩) ?_
    have h_17 := (s_16 373 (by decide)).trans (h_13)
    refine T_getfield (v := .ref 382) d_Mo_block_350 fg_Mo_65 h_17 rfl ?_
    refine T_iload d_Mo_block_353 rfl ?_
    refine T_aload_n (v := .ref 373) d_Mo_block_355 rfl (Or.inr ⟨_, rfl⟩) ?_
    refine T_getfield (v := .ref 382) d_Mo_block_356 fg_Mo_65 h_17 rfl ?_
    refine T_iload d_Mo_block_359 rfl ?_
    refine T_iconst (v := nI 1) d_Mo_block_361 (by decide) ?_
    refine N_isub (a := 1) (b := 5) (c := 4) d_Mo_block_362 (by omega) rfl ?_
    refine N_laload (k := 4) (x := ((vp_updL (vp_updL S 7 (S 6)) 6 ((vp_updL S 7 (S 6)) 5)) 4)) d_Mo_block_363 h_15 (by omega) (by decide) rfl ?_
    refine N_lastore (k := 5) d_Mo_block_364 (by decide) h_15 (by omega) (by decide) rfl (fun M_18 h_19 s_20 => ?_)
    refine N_idec (k := 4) (L' := [(11, .int (nI 4)), (9, .long ((((ror (S 0) 28) ^^^ (ror (S 0) 34)) ^^^ (ror (S 0) 39)) + ((((S 0) &&& (S 1)) ^^^ ((S 0) &&& (S 2))) ^^^ ((S 1) &&& (S 2))))), (7, .long (((((S 7) + (((ror (S 4) 14) ^^^ (ror (S 4) 18)) ^^^ (ror (S 4) 41))) + (((S 4) &&& (S 5)) ^^^ (((S 4) ^^^ (-1)) &&& (S 6)))) + (cu k)) + (W k))), (5, .long (S 0)), (3, .long (S 4)), (2, .int (nI k)), (0, .ref 373), (1, .int (nI at0))]) d_Mo_block_365 (by decide) rfl rfl ?_
    refine T_goto (tgt := 344) d_Mo_block_368 rfl ?_
    refine T_iload d_Mo_block_344 rfl ?_
    refine N_if_le_f (b := 4) d_Mo_block_346 (tgt := 371) rfl (by omega) (by omega) ?_
    refine T_aload_n (v := .ref 373) d_Mo_block_349 rfl (Or.inr ⟨_, rfl⟩) ?_
    have h_21 := (s_20 373 (by decide)).trans (h_17)
    refine T_getfield (v := .ref 382) d_Mo_block_350 fg_Mo_65 h_21 rfl ?_
    refine T_iload d_Mo_block_353 rfl ?_
    refine T_aload_n (v := .ref 373) d_Mo_block_355 rfl (Or.inr ⟨_, rfl⟩) ?_
    refine T_getfield (v := .ref 382) d_Mo_block_356 fg_Mo_65 h_21 rfl ?_
    refine T_iload d_Mo_block_359 rfl ?_
    refine T_iconst (v := nI 1) d_Mo_block_361 (by decide) ?_
    refine N_isub (a := 1) (b := 4) (c := 3) d_Mo_block_362 (by omega) rfl ?_
    refine N_laload (k := 3) (x := ((vp_updL (vp_updL (vp_updL S 7 (S 6)) 6 ((vp_updL S 7 (S 6)) 5)) 5 ((vp_updL (vp_updL S 7 (S 6)) 6 ((vp_updL S 7 (S 6)) 5)) 4)) 3)) d_Mo_block_363 h_19 (by omega) (by decide) rfl ?_
    refine N_lastore (k := 4) d_Mo_block_364 (by decide) h_19 (by omega) (by decide) rfl (fun M_22 h_23 s_24 => ?_)
    refine N_idec (k := 3) (L' := [(11, .int (nI 3)), (9, .long ((((ror (S 0) 28) ^^^ (ror (S 0) 34)) ^^^ (ror (S 0) 39)) + ((((S 0) &&& (S 1)) ^^^ ((S 0) &&& (S 2))) ^^^ ((S 1) &&& (S 2))))), (7, .long (((((S 7) + (((ror (S 4) 14) ^^^ (ror (S 4) 18)) ^^^ (ror (S 4) 41))) + (((S 4) &&& (S 5)) ^^^ (((S 4) ^^^ (-1)) &&& (S 6)))) + (cu k)) + (W k))), (5, .long (S 0)), (3, .long (S 4)), (2, .int (nI k)), (0, .ref 373), (1, .int (nI at0))]) d_Mo_block_365 (by decide) rfl rfl ?_
    refine T_goto (tgt := 344) d_Mo_block_368 rfl ?_
    refine T_iload d_Mo_block_344 rfl ?_
    refine N_if_le_f (b := 3) d_Mo_block_346 (tgt := 371) rfl (by omega) (by omega) ?_
    refine T_aload_n (v := .ref 373) d_Mo_block_349 rfl (Or.inr ⟨_, rfl⟩) ?_
    have h_25 := (s_24 373 (by decide)).trans (h_21)
    refine T_getfield (v := .ref 382) d_Mo_block_350 fg_Mo_65 h_25 rfl ?_
    refine T_iload d_Mo_block_353 rfl ?_
    refine T_aload_n (v := .ref 373) d_Mo_block_355 rfl (Or.inr ⟨_, rfl⟩) ?_
    refine T_getfield (v := .ref 382) d_Mo_block_356 fg_Mo_65 h_25 rfl ?_
    refine T_iload d_Mo_block_359 rfl ?_
    refine T_iconst (v := nI 1) d_Mo_block_361 (by decide) ?_
    refine N_isub (a := 1) (b := 3) (c := 2) d_Mo_block_362 (by omega) rfl ?_
    refine N_laload (k := 2) (x := ((vp_updL (vp_updL (vp_updL (vp_updL S 7 (S 6)) 6 ((vp_updL S 7 (S 6)) 5)) 5 ((vp_updL (vp_updL S 7 (S 6)) 6 ((vp_updL S 7 (S 6)) 5)) 4)) 4 ((vp_updL (vp_updL (vp_updL S 7 (S 6)) 6 ((vp_updL S 7 (S 6)) 5)) 5 ((vp_updL (vp_updL S 7 (S 6)) 6 ((vp_updL S 7 (S 6)) 5)) 4)) 3)) 2)) d_Mo_block_363 h_23 (by omega) (by decide) rfl ?_
    refine N_lastore (k := 3) d_Mo_block_364 (by decide) h_23 (by omega) (by decide) rfl (fun M_26 h_27 s_28 => ?_)
    refine N_idec (k := 2) (L' := [(11, .int (nI 2)), (9, .long ((((ror (S 0) 28) ^^^ (ror (S 0) 34)) ^^^ (ror (S 0) 39)) + ((((S 0) &&& (S 1)) ^^^ ((S 0) &&& (S 2))) ^^^ ((S 1) &&& (S 2))))), (7, .long (((((S 7) + (((ror (S 4) 14) ^^^ (ror (S 4) 18)) ^^^ (ror (S 4) 41))) + (((S 4) &&& (S 5)) ^^^ (((S 4) ^^^ (-1)) &&& (S 6)))) + (cu k)) + (W k))), (5, .long (S 0)), (3, .long (S 4)), (2, .int (nI k)), (0, .ref 373), (1, .int (nI at0))]) d_Mo_block_365 (by decide) rfl rfl ?_
    refine T_goto (tgt := 344) d_Mo_block_368 rfl ?_
    refine T_iload d_Mo_block_344 rfl ?_
    refine N_if_le_f (b := 2) d_Mo_block_346 (tgt := 371) rfl (by omega) (by omega) ?_
    refine T_aload_n (v := .ref 373) d_Mo_block_349 rfl (Or.inr ⟨_, rfl⟩) ?_
    have h_29 := (s_28 373 (by decide)).trans (h_25)
    refine T_getfield (v := .ref 382) d_Mo_block_350 fg_Mo_65 h_29 rfl ?_
    refine T_iload d_Mo_block_353 rfl ?_
    refine T_aload_n (v := .ref 373) d_Mo_block_355 rfl (Or.inr ⟨_, rfl⟩) ?_
    refine T_getfield (v := .ref 382) d_Mo_block_356 fg_Mo_65 h_29 rfl ?_
    refine T_iload d_Mo_block_359 rfl ?_
    refine T_iconst (v := nI 1) d_Mo_block_361 (by decide) ?_
    refine N_isub (a := 1) (b := 2) (c := 1) d_Mo_block_362 (by omega) rfl ?_
    refine N_laload (k := 1) (x := ((vp_updL (vp_updL (vp_updL (vp_updL (vp_updL S 7 (S 6)) 6 ((vp_updL S 7 (S 6)) 5)) 5 ((vp_updL (vp_updL S 7 (S 6)) 6 ((vp_updL S 7 (S 6)) 5)) 4)) 4 ((vp_updL (vp_updL (vp_updL S 7 (S 6)) 6 ((vp_updL S 7 (S 6)) 5)) 5 ((vp_updL (vp_updL S 7 (S 6)) 6 ((vp_updL S 7 (S 6)) 5)) 4)) 3)) 3 ((vp_updL (vp_updL (vp_updL (vp_updL S 7 (S 6)) 6 ((vp_updL S 7 (S 6)) 5)) 5 ((vp_updL (vp_updL S 7 (S 6)) 6 ((vp_updL S 7 (S 6)) 5)) 4)) 4 ((vp_updL (vp_updL (vp_updL S 7 (S 6)) 6 ((vp_updL S 7 (S 6)) 5)) 5 ((vp_updL (vp_updL S 7 (S 6)) 6 ((vp_updL S 7 (S 6)) 5)) 4)) 3)) 2)) 1)) d_Mo_block_363 h_27 (by omega) (by decide) rfl ?_
    refine N_lastore (k := 2) d_Mo_block_364 (by decide) h_27 (by omega) (by decide) rfl (fun M_30 h_31 s_32 => ?_)
    refine N_idec (k := 1) (L' := [(11, .int (nI 1)), (9, .long ((((ror (S 0) 28) ^^^ (ror (S 0) 34)) ^^^ (ror (S 0) 39)) + ((((S 0) &&& (S 1)) ^^^ ((S 0) &&& (S 2))) ^^^ ((S 1) &&& (S 2))))), (7, .long (((((S 7) + (((ror (S 4) 14) ^^^ (ror (S 4) 18)) ^^^ (ror (S 4) 41))) + (((S 4) &&& (S 5)) ^^^ (((S 4) ^^^ (-1)) &&& (S 6)))) + (cu k)) + (W k))), (5, .long (S 0)), (3, .long (S 4)), (2, .int (nI k)), (0, .ref 373), (1, .int (nI at0))]) d_Mo_block_365 (by decide) rfl rfl ?_
    refine T_goto (tgt := 344) d_Mo_block_368 rfl ?_
    refine T_iload d_Mo_block_344 rfl ?_
    refine N_if_le_f (b := 1) d_Mo_block_346 (tgt := 371) rfl (by omega) (by omega) ?_
    refine T_aload_n (v := .ref 373) d_Mo_block_349 rfl (Or.inr ⟨_, rfl⟩) ?_
    have h_33 := (s_32 373 (by decide)).trans (h_29)
    refine T_getfield (v := .ref 382) d_Mo_block_350 fg_Mo_65 h_33 rfl ?_
    refine T_iload d_Mo_block_353 rfl ?_
    refine T_aload_n (v := .ref 373) d_Mo_block_355 rfl (Or.inr ⟨_, rfl⟩) ?_
    refine T_getfield (v := .ref 382) d_Mo_block_356 fg_Mo_65 h_33 rfl ?_
    refine T_iload d_Mo_block_359 rfl ?_
    refine T_iconst (v := nI 1) d_Mo_block_361 (by decide) ?_
    refine N_isub (a := 1) (b := 1) (c := 0) d_Mo_block_362 (by omega) rfl ?_
    refine N_laload (k := 0) (x := ((vp_updL (vp_updL (vp_updL (vp_updL (vp_updL (vp_updL S 7 (S 6)) 6 ((vp_updL S 7 (S 6)) 5)) 5 ((vp_updL (vp_updL S 7 (S 6)) 6 ((vp_updL S 7 (S 6)) 5)) 4)) 4 ((vp_updL (vp_updL (vp_updL S 7 (S 6)) 6 ((vp_updL S 7 (S 6)) 5)) 5 ((vp_updL (vp_updL S 7 (S 6)) 6 ((vp_updL S 7 (S 6)) 5)) 4)) 3)) 3 ((vp_updL (vp_updL (vp_updL (vp_updL S 7 (S 6)) 6 ((vp_updL S 7 (S 6)) 5)) 5 ((vp_updL (vp_updL S 7 (S 6)) 6 ((vp_updL S 7 (S 6)) 5)) 4)) 4 ((vp_updL (vp_updL (vp_updL S 7 (S 6)) 6 ((vp_updL S 7 (S 6)) 5)) 5 ((vp_updL (vp_updL S 7 (S 6)) 6 ((vp_updL S 7 (S 6)) 5)) 4)) 3)) 2)) 2 ((vp_updL (vp_updL (vp_updL (vp_updL (vp_updL S 7 (S 6)) 6 ((vp_updL S 7 (S 6)) 5)) 5 ((vp_updL (vp_updL S 7 (S 6)) 6 ((vp_updL S 7 (S 6)) 5)) 4)) 4 ((vp_updL (vp_updL (vp_updL S 7 (S 6)) 6 ((vp_updL S 7 (S 6)) 5)) 5 ((vp_updL (vp_updL S 7 (S 6)) 6 ((vp_updL S 7 (S 6)) 5)) 4)) 3)) 3 ((vp_updL (vp_updL (vp_updL (vp_updL S 7 (S 6)) 6 ((vp_updL S 7 (S 6)) 5)) 5 ((vp_updL (vp_updL S 7 (S 6)) 6 ((vp_updL S 7 (S 6)) 5)) 4)) 4 ((vp_updL (vp_updL (vp_updL S 7 (S 6)) 6 ((vp_updL S 7 (S 6)) 5)) 5 ((vp_updL (vp_updL S 7 (S 6)) 6 ((vp_updL S 7 (S 6)) 5)) 4)) 3)) 2)) 1)) 0)) d_Mo_block_363 h_31 (by omega) (by decide) rfl ?_
    refine N_lastore (k := 1) d_Mo_block_364 (by decide) h_31 (by omega) (by decide) rfl (fun M_34 h_35 s_36 => ?_)
    refine N_idec (k := 0) (L' := [(11, .int (nI 0)), (9, .long ((((ror (S 0) 28) ^^^ (ror (S 0) 34)) ^^^ (ror (S 0) 39)) + ((((S 0) &&& (S 1)) ^^^ ((S 0) &&& (S 2))) ^^^ ((S 1) &&& (S 2))))), (7, .long (((((S 7) + (((ror (S 4) 14) ^^^ (ror (S 4) 18)) ^^^ (ror (S 4) 41))) + (((S 4) &&& (S 5)) ^^^ (((S 4) ^^^ (-1)) &&& (S 6)))) + (cu k)) + (W k))), (5, .long (S 0)), (3, .long (S 4)), (2, .int (nI k)), (0, .ref 373), (1, .int (nI at0))]) d_Mo_block_365 (by decide) rfl rfl ?_
    refine T_goto (tgt := 344) d_Mo_block_368 rfl ?_
    refine T_iload d_Mo_block_344 rfl ?_
    refine N_if_le_t (b := 0) d_Mo_block_346 (tgt := 371) rfl (by omega) (by omega) ?_
    refine T_aload_n (v := .ref 373) d_Mo_block_371 rfl (Or.inr ⟨_, rfl⟩) ?_
    have h_37 := (s_36 373 (by decide)).trans (h_33)
    refine T_getfield (v := .ref 382) d_Mo_block_372 fg_Mo_65 h_37 rfl ?_
    refine T_iconst (v := nI 4) d_Mo_block_375 (by decide) ?_
    refine T_dup2 d_Mo_block_376 rfl rfl ?_
    refine N_laload (k := 4) (x := ((vp_updL (vp_updL (vp_updL (vp_updL (vp_updL (vp_updL (vp_updL S 7 (S 6)) 6 ((vp_updL S 7 (S 6)) 5)) 5 ((vp_updL (vp_updL S 7 (S 6)) 6 ((vp_updL S 7 (S 6)) 5)) 4)) 4 ((vp_updL (vp_updL (vp_updL S 7 (S 6)) 6 ((vp_updL S 7 (S 6)) 5)) 5 ((vp_updL (vp_updL S 7 (S 6)) 6 ((vp_updL S 7 (S 6)) 5)) 4)) 3)) 3 ((vp_updL (vp_updL (vp_updL (vp_updL S 7 (S 6)) 6 ((vp_updL S 7 (S 6)) 5)) 5 ((vp_updL (vp_updL S 7 (S 6)) 6 ((vp_updL S 7 (S 6)) 5)) 4)) 4 ((vp_updL (vp_updL (vp_updL S 7 (S 6)) 6 ((vp_updL S 7 (S 6)) 5)) 5 ((vp_updL (vp_updL S 7 (S 6)) 6 ((vp_updL S 7 (S 6)) 5)) 4)) 3)) 2)) 2 ((vp_updL (vp_updL (vp_updL (vp_updL (vp_updL S 7 (S 6)) 6 ((vp_updL S 7 (S 6)) 5)) 5 ((vp_updL (vp_updL S 7 (S 6)) 6 ((vp_updL S 7 (S 6)) 5)) 4)) 4 ((vp_updL (vp_updL (vp_updL S 7 (S 6)) 6 ((vp_updL S 7 (S 6)) 5)) 5 ((vp_updL (vp_updL S 7 (S 6)) 6 ((vp_updL S 7 (S 6)) 5)) 4)) 3)) 3 ((vp_updL (vp_updL (vp_updL (vp_updL S 7 (S 6)) 6 ((vp_updL S 7 (S 6)) 5)) 5 ((vp_updL (vp_updL S 7 (S 6)) 6 ((vp_updL S 7 (S 6)) 5)) 4)) 4 ((vp_updL (vp_updL (vp_updL S 7 (S 6)) 6 ((vp_updL S 7 (S 6)) 5)) 5 ((vp_updL (vp_updL S 7 (S 6)) 6 ((vp_updL S 7 (S 6)) 5)) 4)) 3)) 2)) 1)) 1 ((vp_updL (vp_updL (vp_updL (vp_updL (vp_updL (vp_updL S 7 (S 6)) 6 ((vp_updL S 7 (S 6)) 5)) 5 ((vp_updL (vp_updL S 7 (S 6)) 6 ((vp_updL S 7 (S 6)) 5)) 4)) 4 ((vp_updL (vp_updL (vp_updL S 7 (S 6)) 6 ((vp_updL S 7 (S 6)) 5)) 5 ((vp_updL (vp_updL S 7 (S 6)) 6 ((vp_updL S 7 (S 6)) 5)) 4)) 3)) 3 ((vp_updL (vp_updL (vp_updL (vp_updL S 7 (S 6)) 6 ((vp_updL S 7 (S 6)) 5)) 5 ((vp_updL (vp_updL S 7 (S 6)) 6 ((vp_updL S 7 (S 6)) 5)) 4)) 4 ((vp_updL (vp_updL (vp_updL S 7 (S 6)) 6 ((vp_updL S 7 (S 6)) 5)) 5 ((vp_updL (vp_updL S 7 (S 6)) 6 ((vp_updL S 7 (S 6)) 5)) 4)) 3)) 2)) 2 ((vp_updL (vp_updL (vp_updL (vp_updL (vp_updL S 7 (S 6)) 6 ((vp_updL S 7 (S 6)) 5)) 5 ((vp_updL (vp_updL S 7 (S 6)) 6 ((vp_updL S 7 (S 6)) 5)) 4)) 4 ((vp_updL (vp_updL (vp_updL S 7 (S 6)) 6 ((vp_updL S 7 (S 6)) 5)) 5 ((vp_updL (vp_updL S 7 (S 6)) 6 ((vp_updL S 7 (S 6)) 5)) 4)) 3)) 3 ((vp_updL (vp_updL (vp_updL (vp_updL S 7 (S 6)) 6 ((vp_updL S 7 (S 6)) 5)) 5 ((vp_updL (vp_updL S 7 (S 6)) 6 ((vp_updL S 7 (S 6)) 5)) 4)) 4 ((vp_updL (vp_updL (vp_updL S 7 (S 6)) 6 ((vp_updL S 7 (S 6)) 5)) 5 ((vp_updL (vp_updL S 7 (S 6)) 6 ((vp_updL S 7 (S 6)) 5)) 4)) 3)) 2)) 1)) 0)) 4)) d_Mo_block_377 h_35 (by omega) (by decide) rfl ?_
    refine T_lload d_Mo_block_378 rfl ?_
    refine T_ladd d_Mo_block_380 ?_
    refine N_lastore (k := 4) d_Mo_block_381 (by decide) h_35 (by omega) (by decide) rfl (fun M_38 h_39 s_40 => ?_)
    refine T_aload_n (v := .ref 373) d_Mo_block_382 rfl (Or.inr ⟨_, rfl⟩) ?_
    have h_41 := (s_40 373 (by decide)).trans (h_37)
    refine T_getfield (v := .ref 382) d_Mo_block_383 fg_Mo_65 h_41 rfl ?_
    refine T_iconst (v := nI 0) d_Mo_block_386 (by decide) ?_
    refine T_lload d_Mo_block_387 rfl ?_
    refine T_lload d_Mo_block_389 rfl ?_
    refine T_ladd d_Mo_block_391 ?_
    refine N_lastore (k := 0) d_Mo_block_392 (by decide) h_39 (by omega) (by decide) rfl (fun M_42 h_43 s_44 => ?_)
    refine N_iinc (k := k) (m := 1) (c := (k + 1)) (L' := [(2, .int (nI ((k + 1)))), (11, .int (nI 0)), (9, .long ((((ror (S 0) 28) ^^^ (ror (S 0) 34)) ^^^ (ror (S 0) 39)) + ((((S 0) &&& (S 1)) ^^^ ((S 0) &&& (S 2))) ^^^ ((S 1) &&& (S 2))))), (7, .long (((((S 7) + (((ror (S 4) 14) ^^^ (ror (S 4) 18)) ^^^ (ror (S 4) 41))) + (((S 4) &&& (S 5)) ^^^ (((S 4) ^^^ (-1)) &&& (S 6)))) + (cu k)) + (W k))), (5, .long (S 0)), (3, .long (S 4)), (0, .ref 373), (1, .int (nI at0))]) d_Mo_block_393 (by decide) rfl (by decide) rfl rfl ?_
    refine T_goto (tgt := 193) d_Mo_block_396 rfl ?_
    refine T_sub (L' := [(2, .int (nI ((k + 1)))), (0, .ref 373), (1, .int (nI at0))]) (fun q hq => by simp only [List.mem_cons, List.not_mem_nil, or_false] at hq ⊢; rcases hq with rfl | rfl | rfl <;> simp) (ih (k + 1) M_42 (by omega) ⟨⟨_, h_43, fun t ht => ?_⟩, (Kp.ex (Kp.ex (Kp.ex (Kp.ex (Kp.ex (Kp.ex (Kp.ex (Kp.ex (Kp.ex (Kp.tr (Kp.rf : Kp [382] M0 M0) (Kp.mono hK (by decide))) s_12 (by decide)) s_16 (by decide)) s_20 (by decide)) s_24 (by decide)) s_28 (by decide)) s_32 (by decide)) s_36 (by decide)) s_40 (by decide)) s_44 (by decide))⟩)
    have e : rnds kT W s (k + 1) t = rnd (cu k) (W k) S t := by show rnd (kT k) (W k) (rnds kT W s k) t = _; rw [hcu k (by omega)]; exact rnd_c (fun j hj => (e1 j hj).symm) t ht
    rw [e]
    match t, ht with
    | 0, _ => rfl
    | 1, _ => rfl
    | 2, _ => rfl
    | 3, _ => rfl
    | 4, _ => rfl
    | 5, _ => rfl
    | 6, _ => rfl
    | 7, _ => rfl
set_option maxHeartbeats 8000000 in
theorem ms_d (G : GX) {M0 : List va_E} {v : Nat → Int32} {at0 : Nat} {s r : Nat → Int64} (ho : M0[373]? = some (moO v)) (hr : M0[382]? = some (lr 8 r)) {Q : Option Value → List va_E → Prop} (kk : ∀ M, (∃ S, M[381]? = some (lr 8 S) ∧ (∀ t, t < 8 → S t = s t + r t) ∧ ∀ t, 8 ≤ t → S t = s t) ∧ Kp [381] M0 M → TT G mi_Mo_block 428 [(0, .ref 373), (1, .int (nI at0))] [] M 0 0 Q) : ∀ j k M, k + j = 8 → (∃ S, M[381]? = some (lr 8 S) ∧ (∀ t, t < k → S t = s t + r t) ∧ ∀ t, k ≤ t → S t = s t) ∧ Kp [381] M0 M → TT G mi_Mo_block 401 [(2, .int (nI k)), (0, .ref 373), (1, .int (nI at0))] [] M 0 0 Q := by
  intro j
  induction j with
  | zero =>
    intro k M hk hI
    obtain rfl : 8 = k := by omega
    refine T_iload_n d_Mo_block_401 rfl ?_
    refine T_bipush (v := nI 8) d_Mo_block_402 (by decide) ?_
    refine N_icmp_ge_t (a := 8) (b := 8) d_Mo_block_404 (tgt := 428) rfl (by omega) (by omega) (by omega) ?_
    exact T_sub (fun q hq => List.mem_cons_of_mem _ hq) (kk M hI)
  | succ j ih =>
    intro k M hk hI
    obtain ⟨⟨S, h1, e1, e2⟩, hK⟩ := hI
    refine T_iload_n d_Mo_block_401 rfl ?_
    refine T_bipush (v := nI 8) d_Mo_block_402 (by decide) ?_
    refine N_icmp_ge_f (a := 8) (b := k) d_Mo_block_404 (tgt := 428) rfl (by omega) (by omega) (by omega) ?_
    refine T_aload_n (v := .ref 373) d_Mo_block_407 rfl (Or.inr ⟨_, rfl⟩) ?_
    have h_1 := (hK 373 (by decide)).trans (ho)
    refine T_getfield (v := .ref 381) d_Mo_block_408 fg_Mo_49 h_1 rfl ?_
    refine T_iload_n d_Mo_block_411 rfl ?_
    refine T_dup2 d_Mo_block_412 rfl rfl ?_
    refine N_laload (k := k) (x := (S k)) d_Mo_block_413 h1 (by omega) (by decide) rfl ?_
    refine T_aload_n (v := .ref 373) d_Mo_block_414 rfl (Or.inr ⟨_, rfl⟩) ?_
    refine T_getfield (v := .ref 382) d_Mo_block_415 fg_Mo_65 h_1 rfl ?_
    refine T_iload_n d_Mo_block_418 rfl ?_
    have h_2 := (hK 382 (by decide)).trans (hr)
    refine N_laload (k := k) (x := (r k)) d_Mo_block_419 h_2 (by omega) (by decide) rfl ?_
    refine T_ladd d_Mo_block_420 ?_
    refine N_lastore (k := k) d_Mo_block_421 (by decide) h1 (by omega) (by decide) rfl (fun M_3 h_4 s_5 => ?_)
    refine N_iinc (k := k) (m := 1) (c := (k + 1)) (L' := [(2, .int (nI ((k + 1)))), (0, .ref 373), (1, .int (nI at0))]) d_Mo_block_422 (by decide) rfl (by decide) rfl rfl ?_
    refine T_goto (tgt := 401) d_Mo_block_425 rfl ?_
    exact ih (k + 1) M_3 (by omega) ⟨⟨_, h_4, fun t ht => by rcases Nat.lt_succ_iff_lt_or_eq.mp ht with h | h; rw [uL_n (by omega)]; exact e1 t h; subst h; rw [uL_s, e2 t (Nat.le_refl t)], fun t ht => by rw [uL_n (by omega)]; exact e2 t (by omega)⟩, (Kp.ex (Kp.tr (Kp.rf : Kp [381] M0 M0) (Kp.mono hK (by decide))) s_5 (by decide))⟩
set_option maxHeartbeats 8000000 in
theorem y_Mo_block {G : GX} {M : List va_E} {v : Nat → Int32} {at0 : Nat} {B : List UInt8} {W0 S0 s cu : Nat → Int64} (ho : M[373]? = some (moO v)) (hB : IA M 374 4000 B) (hat : at0 + 128 ≤ B.length) (hw : M[380]? = some (lr 80 W0)) (hst : M[382]? = some (lr 8 S0)) (hs : M[381]? = some (lr 8 s)) (hc : M[375]? = some (lr 80 cu)) (hcu : ∀ t, t < 80 → cu t = kT t) : CT G mi_Mo_block [.ref 373, .int (nI at0)] M (fun r M' => r = none ∧ (∃ S, M'[381]? = some (lr 8 S) ∧ ∀ t, t < 8 → S t = comp s (fun t => wdb B (at0 + 8 * t) 8) t) ∧ (∃ W, M'[380]? = some (lr 80 W)) ∧ (∃ S, M'[382]? = some (lr 8 S)) ∧ Kp [380, 382, 381] M M') := by
  refine CT.of (by decide) (Nat.le_of_ble_eq_true rfl) ?_
  show TT G mi_Mo_block 0 [(0, .ref 373), (1, .int (nI at0))] [] M 0 0 _
  refine T_iconst (v := nI 0) d_Mo_block_0 (by decide) ?_
  refine T_istore_n (L' := [(2, .int (nI 0)), (0, .ref 373), (1, .int (nI at0))]) d_Mo_block_1 (by decide) rfl ?_
  refine ms_a G ho hB hat (fun Ma hI => ?_) 16 0 M rfl ⟨⟨_, hw, fun t ht => absurd ht (Nat.not_lt_zero t)⟩, Kp.rf⟩
  obtain ⟨⟨W, w1, w2⟩, k1⟩ := hI
  refine T_bipush (v := nI 16) d_Mo_block_65 (by decide) ?_
  refine T_istore_n (L' := [(2, .int (nI 16)), (0, .ref 373), (1, .int (nI at0))]) d_Mo_block_67 (by decide) rfl ?_
  refine ms_w G (w := W) ((k1 373 (by decide)).trans ho) (fun Mb hI => ?_) 64 16 Ma rfl ⟨by decide, w1, Kp.rf⟩
  obtain ⟨_, w3, k2⟩ := hI
  refine T_iconst (v := nI 0) d_Mo_block_165 (by decide) ?_
  refine T_istore_n (L' := [(2, .int (nI 0)), (0, .ref 373), (1, .int (nI at0))]) d_Mo_block_166 (by decide) rfl ?_
  have kab := Kp.tr k1 k2
  refine ms_c G ((kab 373 (by decide)).trans ho) ((kab 381 (by decide)).trans hs) (fun Mc hI => ?_) 8 0 Mb rfl ⟨⟨_, (kab 382 (by decide)).trans hst, fun t ht => absurd ht (Nat.not_lt_zero t)⟩, Kp.rf⟩
  obtain ⟨⟨S, s1, s2⟩, k3⟩ := hI
  refine T_iconst (v := nI 0) d_Mo_block_191 (by decide) ?_
  refine T_istore_n (L' := [(2, .int (nI 0)), (0, .ref 373), (1, .int (nI at0))]) d_Mo_block_192 (by decide) rfl ?_
  refine ms_r G (s := S) ((k3 373 (by decide)).trans ((kab 373 (by decide)).trans ho)) ((k3 380 (by decide)).trans w3) ((k3 375 (by decide)).trans ((kab 375 (by decide)).trans hc)) hcu (fun Md hI => ?_) 80 0 Mc rfl ⟨⟨_, s1, fun t _ => rfl⟩, Kp.rf⟩
  obtain ⟨⟨R, r1, r2⟩, k4⟩ := hI
  refine T_iconst (v := nI 0) d_Mo_block_399 (by decide) ?_
  refine T_istore_n (L' := [(2, .int (nI 0)), (0, .ref 373), (1, .int (nI at0))]) d_Mo_block_400 (by decide) rfl ?_
  have kcd := Kp.tr k3 k4
  refine ms_d G ((kcd 373 (by decide)).trans ((kab 373 (by decide)).trans ho)) r1 (fun Me hI => ?_) 8 0 Md rfl ⟨⟨_, (kcd 381 (by decide)).trans ((kab 381 (by decide)).trans hs), fun t ht => absurd ht (Nat.not_lt_zero t), fun t _ => rfl⟩, Kp.rf⟩
  obtain ⟨⟨T, t1, t2, _⟩, k5⟩ := hI
  have kall : Kp [380, 382, 381] M Me := Kp.tr (Kp.tr (Kp.mono kab (by decide)) (Kp.mono kcd (by decide))) (Kp.mono k5 (by decide))
  refine T_vret d_Mo_block_428 rfl (by decide) (by decide) ⟨rfl, ⟨T, t1, fun t ht => ?_⟩, ⟨_, (k5 380 (by decide)).trans ((kcd 380 (by decide)).trans w3)⟩, ⟨_, (k5 382 (by decide)).trans r1⟩, kall⟩
  rw [t2 t ht, r2 t ht]
  show s t + _ = s t + rnds kT (sch (fun t => wdb B (at0 + 8 * t) 8) 64) s 80 t
  rw [rnds_c (fun _ _ => rfl) (fun t ht => sch_c w2 64 t ht) s2 t ht]

set_option maxRecDepth 100000 in
set_option maxHeartbeats 8000000 in
theorem y_Se_reply_no {G : GX} {M : List va_E} {sd : Int32} {ch u s b x : Nat} {t : Nat → Bool} {C : List (List UInt8)} (hs : s < 4) (hno : ¬ (dec (nB (cg C 0) 0) ∧ dec (nB (cg C 0) 64))) (hks : KS M sd ch) (hvo : VO M 231 232) (hse : SES M s u t C b x) (hc0 : (cg C 0).length = 96) : CT G mi_Se_reply [.ref 231, .ref 62, .ref 217, .ref (265 + 26 * s)] M (fun r M' => r = some (.int (nI 1)) ∧ KS M' sd ch ∧ KR (fun q => 62 ≤ q ∧ q ≤ 216) M M') := by
  obtain ⟨ka0, ka1, ka2, ka3, ka4, ka5, ka6, ka7, ka8, ka9, ka10, ka11, ka12, ⟨kl13, ka13⟩, ka14, ka15, ka16, ⟨kl17, ka17⟩, ⟨kl18, ka18⟩⟩ := id hks
  obtain ⟨ea0, ea1, _⟩ := id hse
  refine CT.of (by decide) (Nat.le_of_ble_eq_true rfl) ?_
  show TT G mi_Se_reply 0 [(0, .ref 231), (1, .ref 62), (2, .ref 217), (3, .ref (265 + 26 * s))] [] M 0 0 _
  refine T_aload_n (v := .ref (265 + 26 * s)) d_Se_reply_0 rfl (Or.inr ⟨_, rfl⟩) ?_
  refine T_getfield (v := .ref (266 + 26 * s)) d_Se_reply_1 fg_Se_165 ea0.1 rfl ?_
  refine T_iconst (v := nI 0) d_Se_reply_4 (by decide) ?_
  refine N_aaload (k := 0) (p := (279 + 26 * s)) (C0 := "PasswordGate$Bytes") d_Se_reply_5 ((by decide : ∀ s, s < 4 → K0 ≤ (266 + 26 * s)) s hs) ea0.2.1 rfl (by omega) (by decide) rfl ?_
  refine T_getfield (v := .ref (280 + 26 * s)) d_Se_reply_6 fg_Se_134 ea1.1 rfl ?_
  refine T_astore (L' := [(4, .ref (280 + 26 * s)), (0, .ref 231), (1, .ref 62), (2, .ref 217), (3, .ref (265 + 26 * s))]) d_Se_reply_9 (by decide) rfl (Or.inr ⟨_, rfl⟩) ?_
  refine T_aload_n (v := .ref 62) d_Se_reply_11 rfl (Or.inr ⟨_, rfl⟩) ?_
  refine T_getfield (v := .ref 77) d_Se_reply_12 fg_Se_117 ka0 rfl ?_
  refine T_aload (v := .ref (280 + 26 * s)) d_Se_reply_15 rfl (Or.inr ⟨_, rfl⟩) ?_
  refine T_iconst (v := nI 0) d_Se_reply_17 (by decide) ?_
  refine T_aload_n (v := .ref 62) d_Se_reply_18 rfl (Or.inr ⟨_, rfl⟩) ?_
  refine T_getfield (v := .ref 188) d_Se_reply_19 fg_Se_109 ka0 rfl ?_
  refine T_virtual (as := [.ref (280 + 26 * s), .int (nI 0), .ref 188]) (rest := []) (b := 77) d_Se_reply_22 rfl (jw_Cu_decode.jo (by decide)) lm_Se_170 ji_Cu_decode js_Cu_decode ka3.1.1 rfl rfl rfl (Nat.le_of_ble_eq_true rfl) (by decide) (by decide) (y_Cu_decode (at0 := 0) ka3 ea1.2 ka5 (by first | omega | (simp only [List.length_append, List.length_cons, List.length_nil, List.length_replicate, sl_len, be_len, sha_len, xk_len, hmac_len, ex1_len, ex2_len, tag1_len, tC_len, stretch_len, chance_len, enc_len, pub_len, lbN_len, lbF_len, zer8_len, W0_len, W1_len, W2_len, W3_len, W4_len, W5_len, W6_len, W7_len, W8_len, W9_len, W10_len, W11_len, W12_len, W13_len, W14_len, W15_len, W16_len, W17_len, W18_len, W19_len, W20_len, W21_len, sec8_len, seal8_len, xr_len, pre8_len, xSess_len, xSrv_len, xCli_len]; done) | (simp only [List.length_append, List.length_cons, List.length_nil, List.length_replicate, sl_len, be_len, sha_len, xk_len, hmac_len, ex1_len, ex2_len, tag1_len, tC_len, stretch_len, chance_len, enc_len, pub_len, lbN_len, lbF_len, zer8_len, W0_len, W1_len, W2_len, W3_len, W4_len, W5_len, W6_len, W7_len, W8_len, W9_len, W10_len, W11_len, W12_len, W13_len, W14_len, W15_len, W16_len, W17_len, W18_len, W19_len, W20_len, W21_len, sec8_len, seal8_len, xr_len, pre8_len, xSess_len, xSrv_len, xCli_len]; omega)) (by decide) ((by decide : ∀ s, s < 4 → 182 < (280 + 26 * s)) s hs) (by decide) (by decide) (by decide) (by decide) (by decide) (by decide) (by decide) (by decide) (by decide) (by decide) (by decide) (by decide) (by decide) (by decide) (by decide)) (fun r M_1 hq => ?_)
  obtain ⟨rfl, p_1a, p_1b, p_1c, kp_1⟩ := hq
  have p_2 := (VO.kp (hvo) kp_1 (by decide) (by decide))
  have p_3 := (KO.kp (ka0) kp_1 (by decide))
  have p_4 := (DQ.kp (ka1) kp_1 (by decide) (by decide) (by decide))
  have p_5 := (KY.kp (ka2) kp_1 (by decide))
  have p_6 := (SCS.kp (ka4) kp_1 (by decide))
  have p_7 := (PQ.kp (ka6) kp_1 (by decide) (by decide) (by decide) (by decide) (by decide))
  have p_8 := (PQ.kp (ka7) kp_1 (by decide) (by decide) (by decide) (by decide) (by decide))
  have p_9 := (BQ.kp (ka8) kp_1 (by decide))
  have p_10 := (BQ.kp (ka9) kp_1 (by decide))
  have p_11 := (BQ.kp (ka10) kp_1 (by decide))
  have p_12 := (BQ.kp (ka11) kp_1 (by decide))
  have p_13 := (BQ.kp (ka12) kp_1 (by decide))
  have p_14 := (BY.kp (ka13) kp_1 (by decide) (by decide))
  have p_15 := (BQ.kp (ka14) kp_1 (by decide))
  have p_16 := (BQ.kp (ka15) kp_1 (by decide))
  have p_17 := (BQ.kp (ka16) kp_1 (by decide))
  have p_18 := (BY.kp (ka17) kp_1 (by decide) (by decide))
  have p_19 := (BY.kp (ka18) kp_1 (by decide) (by decide))
  have p_20 := (SO.kp (ea0) kp_1 (hi_nin (sp_h2 265 (26 * s) (by decide)) (by decide)) (hi_nin (sp_h2 266 (26 * s) (by decide)) (by decide)) (hi_nin (sp_h2 267 (26 * s) (by decide)) (by decide)))
  have p_21 := (BY.kp (ea1) kp_1 (hi_nin (sp_h2 279 (26 * s) (by decide)) (by decide)) (hi_nin (sp_h2 280 (26 * s) (by decide)) (by decide)))
  by_cases hd_1 : dec (nB (cg C 0) 0)
  · rw [if_pos hd_1]
    refine T_eq (pc' := 25) (L' := [(4, .ref (280 + 26 * s)), (0, .ref 231), (1, .ref 62), (2, .ref 217), (3, .ref (265 + 26 * s))]) (st' := [.int (nI 1)]) (M' := M_1) rfl rfl rfl rfl ?_
    refine N_if_eq_f (b := 1) d_Se_reply_25 (tgt := 46) rfl (by omega) (by omega) ?_
    refine T_aload_n (v := .ref 62) d_Se_reply_28 rfl (Or.inr ⟨_, rfl⟩) ?_
    have h_22 := (kp_1 62 (by decide)).trans (ka0)
    refine T_getfield (v := .ref 77) d_Se_reply_29 fg_Se_117 h_22 rfl ?_
    refine T_aload (v := .ref (280 + 26 * s)) d_Se_reply_32 rfl (Or.inr ⟨_, rfl⟩) ?_
    refine T_bipush (v := nI 64) d_Se_reply_34 (by decide) ?_
    refine T_aload_n (v := .ref 62) d_Se_reply_36 rfl (Or.inr ⟨_, rfl⟩) ?_
    refine T_getfield (v := .ref 193) d_Se_reply_37 fg_Se_174 h_22 rfl ?_
    refine T_virtual (as := [.ref (280 + 26 * s), .int (nI 64), .ref 193]) (rest := []) (b := 77) d_Se_reply_40 rfl (jw_Cu_decode.jo (by decide)) lm_Se_170 ji_Cu_decode js_Cu_decode p_1a.1.1 rfl rfl rfl (Nat.le_of_ble_eq_true rfl) (by decide) (by decide) (y_Cu_decode (at0 := 64) p_1a p_21.2 p_7 (by first | omega | (simp only [List.length_append, List.length_cons, List.length_nil, List.length_replicate, sl_len, be_len, sha_len, xk_len, hmac_len, ex1_len, ex2_len, tag1_len, tC_len, stretch_len, chance_len, enc_len, pub_len, lbN_len, lbF_len, zer8_len, W0_len, W1_len, W2_len, W3_len, W4_len, W5_len, W6_len, W7_len, W8_len, W9_len, W10_len, W11_len, W12_len, W13_len, W14_len, W15_len, W16_len, W17_len, W18_len, W19_len, W20_len, W21_len, sec8_len, seal8_len, xr_len, pre8_len, xSess_len, xSrv_len, xCli_len]; done) | (simp only [List.length_append, List.length_cons, List.length_nil, List.length_replicate, sl_len, be_len, sha_len, xk_len, hmac_len, ex1_len, ex2_len, tag1_len, tC_len, stretch_len, chance_len, enc_len, pub_len, lbN_len, lbF_len, zer8_len, W0_len, W1_len, W2_len, W3_len, W4_len, W5_len, W6_len, W7_len, W8_len, W9_len, W10_len, W11_len, W12_len, W13_len, W14_len, W15_len, W16_len, W17_len, W18_len, W19_len, W20_len, W21_len, sec8_len, seal8_len, xr_len, pre8_len, xSess_len, xSrv_len, xCli_len]; omega)) (by decide) ((by decide : ∀ s, s < 4 → 182 < (280 + 26 * s)) s hs) (by decide) (by decide) (by decide) (by decide) (by decide) (by decide) (by decide) (by decide) (by decide) (by decide) (by decide) (by decide) (by decide) (by decide) (by decide)) (fun r M_23 hq => ?_)
    obtain ⟨rfl, p_23a, p_23b, p_23c, kp_23⟩ := hq
    have p_24 := (VO.kp (p_2) kp_23 (by decide) (by decide))
    have p_25 := (KO.kp (p_3) kp_23 (by decide))
    have p_26 := (DQ.kp (p_4) kp_23 (by decide) (by decide) (by decide))
    have p_27 := (KY.kp (p_5) kp_23 (by decide))
    have p_28 := (SCS.kp (p_6) kp_23 (by decide))
    have p_29 := (PC.kp ((p_1b hd_1)) kp_23 (by decide) (by decide) (by decide) (by decide) (by decide))
    have p_30 := (PQ.kp (p_8) kp_23 (by decide) (by decide) (by decide) (by decide) (by decide))
    have p_31 := (BQ.kp (p_9) kp_23 (by decide))
    have p_32 := (BQ.kp (p_10) kp_23 (by decide))
    have p_33 := (BQ.kp (p_11) kp_23 (by decide))
    have p_34 := (BQ.kp (p_12) kp_23 (by decide))
    have p_35 := (BQ.kp (p_13) kp_23 (by decide))
    have p_36 := (BY.kp (p_14) kp_23 (by decide) (by decide))
    have p_37 := (BQ.kp (p_15) kp_23 (by decide))
    have p_38 := (BQ.kp (p_16) kp_23 (by decide))
    have p_39 := (BQ.kp (p_17) kp_23 (by decide))
    have p_40 := (BY.kp (p_18) kp_23 (by decide) (by decide))
    have p_41 := (BY.kp (p_19) kp_23 (by decide) (by decide))
    have p_42 := (SO.kp (p_20) kp_23 (hi_nin (sp_h2 265 (26 * s) (by decide)) (by decide)) (hi_nin (sp_h2 266 (26 * s) (by decide)) (by decide)) (hi_nin (sp_h2 267 (26 * s) (by decide)) (by decide)))
    have p_43 := (BY.kp (p_21) kp_23 (hi_nin (sp_h2 279 (26 * s) (by decide)) (by decide)) (hi_nin (sp_h2 280 (26 * s) (by decide)) (by decide)))
    by_cases hd_23 : dec (nB (cg C 0) 64)
    · rw [if_pos hd_23]
      refine T_eq (pc' := 43) (L' := [(4, .ref (280 + 26 * s)), (0, .ref 231), (1, .ref 62), (2, .ref 217), (3, .ref (265 + 26 * s))]) (st' := [.int (nI 1)]) (M' := M_23) rfl rfl rfl rfl ?_
      refine N_if_ne_t (b := 1) d_Se_reply_43 (tgt := 48) rfl (by omega) (by omega) ?_
      exact absurd ⟨hd_1, hd_23⟩ hno
    · rw [if_neg hd_23]
      refine T_eq (pc' := 43) (L' := [(4, .ref (280 + 26 * s)), (0, .ref 231), (1, .ref 62), (2, .ref 217), (3, .ref (265 + 26 * s))]) (st' := [.int (nI 0)]) (M' := M_23) rfl rfl rfl rfl ?_
      refine N_if_ne_f (b := 0) d_Se_reply_43 (tgt := 48) rfl (by omega) (by omega) ?_
      refine T_iconst (v := nI 1) d_Se_reply_46 (by decide) ?_
      exact T_ret d_Se_reply_47 rfl (by decide) (by decide) (by decide) ⟨rfl, ⟨p_25, p_26, p_27, p_23a, p_28, PC.pq p_29, p_23c, p_30, p_31, p_32, p_33, p_34, p_35, ⟨_, p_36⟩, p_37, p_38, p_39, ⟨_, p_40⟩, ⟨_, p_41⟩⟩, (KR.tr (KR.tr KR.rf kp_1 ((by decide +kernel : ∀ q ∈ [189, 190, 191, 192, 77, 78, 79, 80, 81, 82, 83, 84, 85, 86, 87, 88, 89, 90, 91, 92, 93, 94, 95, 96, 97, 98, 99, 100, 101, 102, 103, 104, 105, 106, 107, 108, 109, 110, 111, 112, 113, 114, 115, 116, 117, 118, 119, 120, 121, 122, 123, 124, 125, 126, 127, 128, 129, 130, 131, 132, 133, 134, 135, 136, 137, 138, 139, 140, 141, 142, 143, 144, 145, 146, 147, 148, 149, 150, 151, 152, 153, 154, 155, 156, 157, 158, 159, 160, 161, 162, 163, 164, 165, 166, 167, 168, 169, 170, 171, 172, 173, 174, 175, 176, 177, 178, 179, 180, 181, 182], (62 ≤ q ∧ q ≤ 216)))) kp_23 ((by decide +kernel : ∀ q ∈ [194, 195, 196, 197, 77, 78, 79, 80, 81, 82, 83, 84, 85, 86, 87, 88, 89, 90, 91, 92, 93, 94, 95, 96, 97, 98, 99, 100, 101, 102, 103, 104, 105, 106, 107, 108, 109, 110, 111, 112, 113, 114, 115, 116, 117, 118, 119, 120, 121, 122, 123, 124, 125, 126, 127, 128, 129, 130, 131, 132, 133, 134, 135, 136, 137, 138, 139, 140, 141, 142, 143, 144, 145, 146, 147, 148, 149, 150, 151, 152, 153, 154, 155, 156, 157, 158, 159, 160, 161, 162, 163, 164, 165, 166, 167, 168, 169, 170, 171, 172, 173, 174, 175, 176, 177, 178, 179, 180, 181, 182], (62 ≤ q ∧ q ≤ 216))))⟩
  · rw [if_neg hd_1]
    refine T_eq (pc' := 25) (L' := [(4, .ref (280 + 26 * s)), (0, .ref 231), (1, .ref 62), (2, .ref 217), (3, .ref (265 + 26 * s))]) (st' := [.int (nI 0)]) (M' := M_1) rfl rfl rfl rfl ?_
    refine N_if_eq_t (b := 0) d_Se_reply_25 (tgt := 46) rfl (by omega) (by omega) ?_
    refine T_iconst (v := nI 1) d_Se_reply_46 (by decide) ?_
    exact T_ret d_Se_reply_47 rfl (by decide) (by decide) (by decide) ⟨rfl, ⟨p_3, p_4, p_5, p_1a, p_6, p_1c, p_7, p_8, p_9, p_10, p_11, p_12, p_13, ⟨_, p_14⟩, p_15, p_16, p_17, ⟨_, p_18⟩, ⟨_, p_19⟩⟩, (KR.tr KR.rf kp_1 ((by decide +kernel : ∀ q ∈ [189, 190, 191, 192, 77, 78, 79, 80, 81, 82, 83, 84, 85, 86, 87, 88, 89, 90, 91, 92, 93, 94, 95, 96, 97, 98, 99, 100, 101, 102, 103, 104, 105, 106, 107, 108, 109, 110, 111, 112, 113, 114, 115, 116, 117, 118, 119, 120, 121, 122, 123, 124, 125, 126, 127, 128, 129, 130, 131, 132, 133, 134, 135, 136, 137, 138, 139, 140, 141, 142, 143, 144, 145, 146, 147, 148, 149, 150, 151, 152, 153, 154, 155, 156, 157, 158, 159, 160, 161, 162, 163, 164, 165, 166, 167, 168, 169, 170, 171, 172, 173, 174, 175, 176, 177, 178, 179, 180, 181, 182], (62 ≤ q ∧ q ≤ 216))))⟩
def pgO : va_E := .inr (0, [.ref 62, .ref 217, .ref 231, .ref 264, .ref 369, .ref 371])
def seF : Nat → Option Nat := fun j => if j < 4 then some (265 + 26 * j) else none
def GO (M : List va_E) (q r : Nat) : Prop := M[q]? = some pgO ∧ M[r]? = some (rr 6 4 seF)
theorem GO.kp {M M' : List va_E} {W : List Nat} {q r : Nat} (h : GO M q r) (p : Kp W M M') (h1 : q ∉ W) (h2 : r ∉ W) : GO M' q r := ⟨(p _ h1).trans h.1, (p _ h2).trans h.2⟩
abbrev InP (q : Nat) : Prop := (62 ≤ q ∧ q ≤ 216) ∨ (369 ≤ q ∧ q ≤ 372)
theorem y_PG_isUser_in {G : GX} {M : List va_E} {u : Nat} (hu : u < 8) : CT G mi_PG_isUser [.int (nI u)] M (fun r M' => r = some (.int (nI 1)) ∧ M' = M) := by
  refine CT.of (by decide) (Nat.le_of_ble_eq_true rfl) ?_
  show TT G mi_PG_isUser 0 [(0, .int (nI u))] [] M 0 0 _
  refine T_iload_n d_PG_isUser_0 rfl ?_
  refine N_if_lt_f (b := u) d_PG_isUser_1 (tgt := 14) rfl (by omega) (by omega) ?_
  refine T_iload_n d_PG_isUser_4 rfl ?_
  refine T_bipush (v := nI 8) d_PG_isUser_5 (by decide) ?_
  refine N_icmp_ge_f (a := 8) (b := u) d_PG_isUser_7 (tgt := 14) rfl (by omega) (by omega) (by omega) ?_
  refine T_iconst (v := nI 1) d_PG_isUser_10 (by decide) ?_
  refine T_goto (tgt := 15) d_PG_isUser_11 rfl ?_
  exact T_ret d_PG_isUser_15 rfl (by decide) (by decide) (by decide) ⟨rfl, rfl⟩
theorem y_PG_isUser_neg {G : GX} {M : List va_E} {x : Int32} (hx : x < 0) : CT G mi_PG_isUser [.int x] M (fun r M' => r = some (.int (nI 0)) ∧ M' = M) := by
  refine CT.of (by decide) (Nat.le_of_ble_eq_true rfl) ?_
  show TT G mi_PG_isUser 0 [(0, .int x)] [] M 0 0 _
  refine T_iload_n d_PG_isUser_0 rfl ?_
  refine T_if_lt d_PG_isUser_1 (tgt := 14) rfl (fun _ => ?_) (fun c => absurd hx c)
  refine T_iconst (v := nI 0) d_PG_isUser_14 (by decide) ?_
  exact T_ret d_PG_isUser_15 rfl (by decide) (by decide) (by decide) ⟨rfl, rfl⟩
theorem y_PG_isUser_big {G : GX} {M : List va_E} {x : Int32} (h0 : ¬ x < 0) (hx : nI 8 ≤ x) : CT G mi_PG_isUser [.int x] M (fun r M' => r = some (.int (nI 0)) ∧ M' = M) := by
  refine CT.of (by decide) (Nat.le_of_ble_eq_true rfl) ?_
  show TT G mi_PG_isUser 0 [(0, .int x)] [] M 0 0 _
  refine T_iload_n d_PG_isUser_0 rfl ?_
  refine T_if_lt d_PG_isUser_1 (tgt := 14) rfl (fun c => absurd c h0) (fun _ => ?_)
  refine T_iload_n d_PG_isUser_4 rfl ?_
  refine T_bipush (v := nI 8) d_PG_isUser_5 (by decide) ?_
  refine T_icmp_ge d_PG_isUser_7 (tgt := 14) rfl (fun _ => ?_) (fun c => absurd hx c)
  refine T_iconst (v := nI 0) d_PG_isUser_14 (by decide) ?_
  exact T_ret d_PG_isUser_15 rfl (by decide) (by decide) (by decide) ⟨rfl, rfl⟩
theorem y_PG_isSession_in {G : GX} {M : List va_E} {u : Nat} (hu : u < 4) : CT G mi_PG_isSession [.int (nI u)] M (fun r M' => r = some (.int (nI 1)) ∧ M' = M) := by
  refine CT.of (by decide) (Nat.le_of_ble_eq_true rfl) ?_
  show TT G mi_PG_isSession 0 [(0, .int (nI u))] [] M 0 0 _
  refine T_iload_n d_PG_isSession_0 rfl ?_
  refine N_if_lt_f (b := u) d_PG_isSession_1 (tgt := 13) rfl (by omega) (by omega) ?_
  refine T_iload_n d_PG_isSession_4 rfl ?_
  refine T_iconst (v := nI 4) d_PG_isSession_5 (by decide) ?_
  refine N_icmp_ge_f (a := 4) (b := u) d_PG_isSession_6 (tgt := 13) rfl (by omega) (by omega) (by omega) ?_
  refine T_iconst (v := nI 1) d_PG_isSession_9 (by decide) ?_
  refine T_goto (tgt := 14) d_PG_isSession_10 rfl ?_
  exact T_ret d_PG_isSession_14 rfl (by decide) (by decide) (by decide) ⟨rfl, rfl⟩
theorem y_PG_isSession_neg {G : GX} {M : List va_E} {x : Int32} (hx : x < 0) : CT G mi_PG_isSession [.int x] M (fun r M' => r = some (.int (nI 0)) ∧ M' = M) := by
  refine CT.of (by decide) (Nat.le_of_ble_eq_true rfl) ?_
  show TT G mi_PG_isSession 0 [(0, .int x)] [] M 0 0 _
  refine T_iload_n d_PG_isSession_0 rfl ?_
  refine T_if_lt d_PG_isSession_1 (tgt := 13) rfl (fun _ => ?_) (fun c => absurd hx c)
  refine T_iconst (v := nI 0) d_PG_isSession_13 (by decide) ?_
  exact T_ret d_PG_isSession_14 rfl (by decide) (by decide) (by decide) ⟨rfl, rfl⟩
theorem y_PG_isSession_big {G : GX} {M : List va_E} {x : Int32} (h0 : ¬ x < 0) (hx : nI 4 ≤ x) : CT G mi_PG_isSession [.int x] M (fun r M' => r = some (.int (nI 0)) ∧ M' = M) := by
  refine CT.of (by decide) (Nat.le_of_ble_eq_true rfl) ?_
  show TT G mi_PG_isSession 0 [(0, .int x)] [] M 0 0 _
  refine T_iload_n d_PG_isSession_0 rfl ?_
  refine T_if_lt d_PG_isSession_1 (tgt := 13) rfl (fun c => absurd c h0) (fun _ => ?_)
  refine T_iload_n d_PG_isSession_4 rfl ?_
  refine T_iconst (v := nI 4) d_PG_isSession_5 (by decide) ?_
  refine T_icmp_ge d_PG_isSession_6 (tgt := 13) rfl (fun _ => ?_) (fun c => absurd hx c)
  refine T_iconst (v := nI 0) d_PG_isSession_13 (by decide) ?_
  exact T_ret d_PG_isSession_14 rfl (by decide) (by decide) (by decide) ⟨rfl, rfl⟩
set_option maxHeartbeats 8000000 in
theorem y_PG_showPoint {G : GX} {M : List va_E} {sd : Int32} {ch : Nat} {lo : List UInt8} {P : Fp × Fp} (hgo : GO M 61 264) (hko : KO M 62 sd ch) (hcu : CU M) (hp : PC M 188 189 190 191 192 P) (hou : BY M 371 372 64 lo) : CT G mi_PG_showPoint [.ref 61] M (fun r M' => r = none ∧ CU M' ∧ BY M' 371 372 64 (enc P) ∧ Kp ([371, 372] ++ cuW) M M') := by
  refine CT.of (by decide) (Nat.le_of_ble_eq_true rfl) ?_
  show TT G mi_PG_showPoint 0 [(0, .ref 61)] [] M 0 0 _
  refine T_aload_n (v := .ref 61) d_PG_showPoint_0 rfl (Or.inr ⟨_, rfl⟩) ?_
  refine T_getfield (v := .ref 371) d_PG_showPoint_1 fg_PG_46 hgo.1 rfl ?_
  refine T_virtual (as := []) (rest := []) (b := 371) d_PG_showPoint_4 rfl (jw_By_clear.jo (by decide)) lm_PG_71 ji_By_clear js_By_clear hou.1 rfl rfl rfl (Nat.le_of_ble_eq_true rfl) (by decide) (by decide) (y_By_clear hou (by decide)) (fun r M_1 hq => ?_)
  obtain ⟨rfl, p_1_0, kp_1⟩ := hq
  refine T_eq (pc' := 7) (L' := [(0, .ref 61)]) (st' := []) (M' := M_1) rfl rfl rfl rfl ?_
  refine T_aload_n (v := .ref 61) d_PG_showPoint_7 rfl (Or.inr ⟨_, rfl⟩) ?_
  have h_2 := (kp_1 61 (by decide)).trans (hgo.1)
  refine T_getfield (v := .ref 62) d_PG_showPoint_8 fg_PG_12 h_2 rfl ?_
  have p_3 := (KO.kp (hko) kp_1 (by decide))
  refine T_getfield (v := .ref 77) d_PG_showPoint_11 fg_PG_89 p_3 rfl ?_
  refine T_aload_n (v := .ref 61) d_PG_showPoint_14 rfl (Or.inr ⟨_, rfl⟩) ?_
  refine T_getfield (v := .ref 62) d_PG_showPoint_15 fg_PG_12 h_2 rfl ?_
  refine T_getfield (v := .ref 188) d_PG_showPoint_18 fg_PG_78 p_3 rfl ?_
  refine T_aload_n (v := .ref 61) d_PG_showPoint_21 rfl (Or.inr ⟨_, rfl⟩) ?_
  refine T_getfield (v := .ref 371) d_PG_showPoint_22 fg_PG_46 h_2 rfl ?_
  have p_4 := (CU.kp (hcu) kp_1 (by decide))
  have p_5 := (PC.kp (hp) kp_1 (by decide) (by decide) (by decide) (by decide) (by decide))
  refine T_virtual (as := [.ref 188, .ref 371]) (rest := []) (b := 77) d_PG_showPoint_25 rfl (jw_Cu_code.jo (by decide)) lm_PG_165 ji_Cu_code js_Cu_code p_4.1.1 rfl rfl rfl (Nat.le_of_ble_eq_true rfl) (by decide) (by decide) (y_Cu_code p_4 p_5 p_1_0 (by first | omega | (simp only [List.length_append, List.length_cons, List.length_nil, List.length_replicate, sl_len, be_len, sha_len, xk_len, hmac_len, ex1_len, ex2_len, tag1_len, tC_len, stretch_len, chance_len, enc_len, pub_len, lbN_len, lbF_len, zer8_len, W0_len, W1_len, W2_len, W3_len, W4_len, W5_len, W6_len, W7_len, W8_len, W9_len, W10_len, W11_len, W12_len, W13_len, W14_len, W15_len, W16_len, W17_len, W18_len, W19_len, W20_len, W21_len, sec8_len, seal8_len, xr_len, pre8_len, xSess_len, xSrv_len, xCli_len]; done) | (simp only [List.length_append, List.length_cons, List.length_nil, List.length_replicate, sl_len, be_len, sha_len, xk_len, hmac_len, ex1_len, ex2_len, tag1_len, tC_len, stretch_len, chance_len, enc_len, pub_len, lbN_len, lbF_len, zer8_len, W0_len, W1_len, W2_len, W3_len, W4_len, W5_len, W6_len, W7_len, W8_len, W9_len, W10_len, W11_len, W12_len, W13_len, W14_len, W15_len, W16_len, W17_len, W18_len, W19_len, W20_len, W21_len, sec8_len, seal8_len, xr_len, pre8_len, xSess_len, xSrv_len, xCli_len]; omega)) (by decide) (by decide) (by decide) (by decide) (by decide) (by decide) (by decide) (by decide) (by decide)) (fun r M_6 hq => ?_)
  obtain ⟨rfl, p_6_0, p_6_1, kp_6⟩ := hq
  refine T_eq (pc' := 28) (L' := [(0, .ref 61)]) (st' := []) (M' := M_6) rfl rfl rfl rfl ?_
  have g := p_6_1
  rw [List.nil_append] at g
  exact T_vret d_PG_showPoint_28 rfl (by decide) (by decide) ⟨rfl, p_6_0, g, (Kp.tr (Kp.tr (Kp.rf : Kp [371, 372, 77, 78, 79, 80, 81, 82, 83, 84, 85, 86, 87, 88, 89, 90, 91, 92, 93, 94, 95, 96, 97, 98, 99, 100, 101, 102, 103, 104, 105, 106, 107, 108, 109, 110, 111, 112, 113, 114, 115, 116, 117, 118, 119, 120, 121, 122, 123, 124, 125, 126, 127, 128, 129, 130, 131, 132, 133, 134, 135, 136, 137, 138, 139, 140, 141, 142, 143, 144, 145, 146, 147, 148, 149, 150, 151, 152, 153, 154, 155, 156, 157, 158, 159, 160, 161, 162, 163, 164, 165, 166, 167, 168, 169, 170, 171, 172, 173, 174, 175, 176, 177, 178, 179, 180, 181, 182] M M) (Kp.mono kp_1 (by decide))) (Kp.mono kp_6 (by decide +kernel)))⟩
set_option maxHeartbeats 8000000 in
theorem y_PG_hash {G : GX} {M : List va_E} {sd : Int32} {ch : Nat} {lt lo : List UInt8} (hgo : GO M 61 264) (hks : KS M sd ch) (htx : BY M 369 370 200 lt) (hou : BY M 371 372 64 lo) : CT G mi_PG_hash [.ref 61] M (fun r M' => r = some (.int (nI 64)) ∧ KS M' sd ch ∧ BY M' 369 370 200 [] ∧ BY M' 371 372 64 (sha lt) ∧ KR InP M M') := by
  have hlt := htx.2.le
  obtain ⟨ka0, ka1, ka2, ka3, ka4, ka5, ka6, ka7, ka8, ka9, ka10, ka11, ka12, ⟨kl13, ka13⟩, ka14, ka15, ka16, ⟨kl17, ka17⟩, ⟨kl18, ka18⟩⟩ := id hks
  refine CT.of (by decide) (Nat.le_of_ble_eq_true rfl) ?_
  show TT G mi_PG_hash 0 [(0, .ref 61)] [] M 0 0 _
  refine T_aload_n (v := .ref 61) d_PG_hash_0 rfl (Or.inr ⟨_, rfl⟩) ?_
  refine T_getfield (v := .ref 62) d_PG_hash_1 fg_PG_12 hgo.1 rfl ?_
  refine T_getfield (v := .ref 63) d_PG_hash_4 fg_PG_57 ka0 rfl ?_
  refine T_aload_n (v := .ref 61) d_PG_hash_7 rfl (Or.inr ⟨_, rfl⟩) ?_
  refine T_getfield (v := .ref 369) d_PG_hash_8 fg_PG_42 hgo.1 rfl ?_
  refine T_aload_n (v := .ref 61) d_PG_hash_11 rfl (Or.inr ⟨_, rfl⟩) ?_
  refine T_getfield (v := .ref 62) d_PG_hash_12 fg_PG_12 hgo.1 rfl ?_
  refine T_getfield (v := .ref 199) d_PG_hash_15 fg_PG_61 ka0 rfl ?_
  refine T_virtual (as := [.ref 369, .ref 199]) (rest := []) (b := 63) d_PG_hash_18 rfl (jw_Dig_run.jo (by decide)) lm_PG_65 ji_Dig_run js_Dig_run ka1.1 rfl rfl rfl (Nat.le_of_ble_eq_true rfl) (by decide) (by decide) (y_run ka1 htx ka9 (by decide) (by decide) (by decide) (by decide) (by decide) (by decide) (by decide) (by decide) (by decide) (by decide) (by decide) (by decide) (by decide) (by decide) (by decide) (by decide)) (fun r M_1 hq => ?_)
  obtain ⟨rfl, p_1_0, p_1_1, kp_1⟩ := hq
  refine T_eq (pc' := 21) (L' := [(0, .ref 61)]) (st' := []) (M' := M_1) rfl rfl rfl rfl ?_
  refine T_aload_n (v := .ref 61) d_PG_hash_21 rfl (Or.inr ⟨_, rfl⟩) ?_
  have h_2 := (kp_1 61 (by decide)).trans (hgo.1)
  refine T_getfield (v := .ref 369) d_PG_hash_22 fg_PG_42 h_2 rfl ?_
  have p_3 := (BY.kp (htx) kp_1 (by decide) (by decide))
  refine T_virtual (as := []) (rest := []) (b := 369) d_PG_hash_25 rfl (jw_By_clear.jo (by decide)) lm_PG_71 ji_By_clear js_By_clear p_3.1 rfl rfl rfl (Nat.le_of_ble_eq_true rfl) (by decide) (by decide) (y_By_clear p_3 (by decide)) (fun r M_4 hq => ?_)
  obtain ⟨rfl, p_4_0, kp_4⟩ := hq
  refine T_eq (pc' := 28) (L' := [(0, .ref 61)]) (st' := []) (M' := M_4) rfl rfl rfl rfl ?_
  refine T_aload_n (v := .ref 61) d_PG_hash_28 rfl (Or.inr ⟨_, rfl⟩) ?_
  have h_5 := (kp_4 61 (by decide)).trans (h_2)
  refine T_getfield (v := .ref 371) d_PG_hash_29 fg_PG_46 h_5 rfl ?_
  have p_6 := (BY.kp ((BY.kp (hou) kp_1 (by decide) (by decide))) kp_4 (by decide) (by decide))
  refine T_virtual (as := []) (rest := []) (b := 371) d_PG_hash_32 rfl (jw_By_clear.jo (by decide)) lm_PG_71 ji_By_clear js_By_clear p_6.1 rfl rfl rfl (Nat.le_of_ble_eq_true rfl) (by decide) (by decide) (y_By_clear p_6 (by decide)) (fun r M_7 hq => ?_)
  obtain ⟨rfl, p_7_0, kp_7⟩ := hq
  refine T_eq (pc' := 35) (L' := [(0, .ref 61)]) (st' := []) (M' := M_7) rfl rfl rfl rfl ?_
  refine T_aload_n (v := .ref 61) d_PG_hash_35 rfl (Or.inr ⟨_, rfl⟩) ?_
  have h_8 := (kp_7 61 (by decide)).trans (h_5)
  refine T_getfield (v := .ref 371) d_PG_hash_36 fg_PG_46 h_8 rfl ?_
  refine T_aload_n (v := .ref 61) d_PG_hash_39 rfl (Or.inr ⟨_, rfl⟩) ?_
  refine T_getfield (v := .ref 62) d_PG_hash_40 fg_PG_12 h_8 rfl ?_
  have h_9 := (kp_7 62 (by decide)).trans ((kp_4 62 (by decide)).trans ((kp_1 62 (by decide)).trans (ka0)))
  refine T_getfield (v := .ref 199) d_PG_hash_43 fg_PG_61 h_9 rfl ?_
  refine T_iconst (v := nI 0) d_PG_hash_46 (by decide) ?_
  refine T_bipush (v := nI 64) d_PG_hash_47 (by decide) ?_
  have p_10 := (BA.kp ((BA.kp (p_1_1) kp_4 (by decide))) kp_7 (by decide))
  refine T_virtual (as := [.ref 199, .int (nI 0), .int (nI 64)]) (rest := []) (b := 371) d_PG_hash_49 rfl (jw_By_put.jo (by decide)) lm_PG_74 ji_By_put js_By_put p_7_0.1 rfl rfl rfl (Nat.le_of_ble_eq_true rfl) (by decide) (by decide) (y_By_put (at0 := 0) (k := 64) p_7_0 p_10 (by first | omega | (simp only [List.length_append, List.length_cons, List.length_nil, List.length_replicate, sl_len, be_len, sha_len, xk_len, hmac_len, ex1_len, ex2_len, tag1_len, tC_len, stretch_len, chance_len, enc_len, pub_len, lbN_len, lbF_len, zer8_len, W0_len, W1_len, W2_len, W3_len, W4_len, W5_len, W6_len, W7_len, W8_len, W9_len, W10_len, W11_len, W12_len, W13_len, W14_len, W15_len, W16_len, W17_len, W18_len, W19_len, W20_len, W21_len, sec8_len, seal8_len, xr_len, pre8_len, xSess_len, xSrv_len, xCli_len]; done) | (simp only [List.length_append, List.length_cons, List.length_nil, List.length_replicate, sl_len, be_len, sha_len, xk_len, hmac_len, ex1_len, ex2_len, tag1_len, tC_len, stretch_len, chance_len, enc_len, pub_len, lbN_len, lbF_len, zer8_len, W0_len, W1_len, W2_len, W3_len, W4_len, W5_len, W6_len, W7_len, W8_len, W9_len, W10_len, W11_len, W12_len, W13_len, W14_len, W15_len, W16_len, W17_len, W18_len, W19_len, W20_len, W21_len, sec8_len, seal8_len, xr_len, pre8_len, xSess_len, xSrv_len, xCli_len]; omega)) (by first | omega | (simp only [List.length_append, List.length_cons, List.length_nil, List.length_replicate, sl_len, be_len, sha_len, xk_len, hmac_len, ex1_len, ex2_len, tag1_len, tC_len, stretch_len, chance_len, enc_len, pub_len, lbN_len, lbF_len, zer8_len, W0_len, W1_len, W2_len, W3_len, W4_len, W5_len, W6_len, W7_len, W8_len, W9_len, W10_len, W11_len, W12_len, W13_len, W14_len, W15_len, W16_len, W17_len, W18_len, W19_len, W20_len, W21_len, sec8_len, seal8_len, xr_len, pre8_len, xSess_len, xSrv_len, xCli_len]; done) | (simp only [List.length_append, List.length_cons, List.length_nil, List.length_replicate, sl_len, be_len, sha_len, xk_len, hmac_len, ex1_len, ex2_len, tag1_len, tC_len, stretch_len, chance_len, enc_len, pub_len, lbN_len, lbF_len, zer8_len, W0_len, W1_len, W2_len, W3_len, W4_len, W5_len, W6_len, W7_len, W8_len, W9_len, W10_len, W11_len, W12_len, W13_len, W14_len, W15_len, W16_len, W17_len, W18_len, W19_len, W20_len, W21_len, sec8_len, seal8_len, xr_len, pre8_len, xSess_len, xSrv_len, xCli_len]; omega)) (by decide) (by decide) (by decide) (by decide) (by decide)) (fun r M_11 hq => ?_)
  obtain ⟨rfl, p_11_0, kp_11⟩ := hq
  refine T_eq (pc' := 52) (L' := [(0, .ref 61)]) (st' := []) (M' := M_11) rfl rfl rfl rfl ?_
  refine T_aload_n (v := .ref 61) d_PG_hash_52 rfl (Or.inr ⟨_, rfl⟩) ?_
  have h_12 := (kp_11 61 (by decide)).trans (h_8)
  refine T_getfield (v := .ref 371) d_PG_hash_53 fg_PG_46 h_12 rfl ?_
  refine T_getfield (v := .int (nI ((([]) ++ sl (sha lt) 0 64).length))) d_PG_hash_56 fg_PG_49 p_11_0.1 rfl ?_
  have g := p_11_0
  have el := congrArg List.length (List.nil_append (sl (sha lt) 0 64))
  rw [sl_len] at el
  rw [List.nil_append, sl64 (sha_len _)] at g
  have p_13 := (KO.kp ((KO.kp ((KO.kp ((KO.kp (ka0) kp_1 (by decide))) kp_4 (by decide))) kp_7 (by decide))) kp_11 (by decide))
  have p_14 := (DQ.kp ((DQ.kp ((DQ.kp (p_1_0) kp_4 (by decide) (by decide) (by decide))) kp_7 (by decide) (by decide) (by decide))) kp_11 (by decide) (by decide) (by decide))
  have p_15 := (KY.kp ((KY.kp ((KY.kp ((KY.kp (ka2) kp_1 (by decide))) kp_4 (by decide))) kp_7 (by decide))) kp_11 (by decide))
  have p_16 := (CU.kp ((CU.kp ((CU.kp ((CU.kp (ka3) kp_1 (by decide))) kp_4 (by decide))) kp_7 (by decide))) kp_11 (by decide))
  have p_17 := (SCS.kp ((SCS.kp ((SCS.kp ((SCS.kp (ka4) kp_1 (by decide))) kp_4 (by decide))) kp_7 (by decide))) kp_11 (by decide))
  have p_18 := (PQ.kp ((PQ.kp ((PQ.kp ((PQ.kp (ka5) kp_1 (by decide) (by decide) (by decide) (by decide) (by decide))) kp_4 (by decide) (by decide) (by decide) (by decide) (by decide))) kp_7 (by decide) (by decide) (by decide) (by decide) (by decide))) kp_11 (by decide) (by decide) (by decide) (by decide) (by decide))
  have p_19 := (PQ.kp ((PQ.kp ((PQ.kp ((PQ.kp (ka6) kp_1 (by decide) (by decide) (by decide) (by decide) (by decide))) kp_4 (by decide) (by decide) (by decide) (by decide) (by decide))) kp_7 (by decide) (by decide) (by decide) (by decide) (by decide))) kp_11 (by decide) (by decide) (by decide) (by decide) (by decide))
  have p_20 := (PQ.kp ((PQ.kp ((PQ.kp ((PQ.kp (ka7) kp_1 (by decide) (by decide) (by decide) (by decide) (by decide))) kp_4 (by decide) (by decide) (by decide) (by decide) (by decide))) kp_7 (by decide) (by decide) (by decide) (by decide) (by decide))) kp_11 (by decide) (by decide) (by decide) (by decide) (by decide))
  have p_21 := (BQ.kp ((BQ.kp ((BQ.kp ((BQ.kp (ka8) kp_1 (by decide))) kp_4 (by decide))) kp_7 (by decide))) kp_11 (by decide))
  have p_22 := (BA.kp (p_10) kp_11 (by decide))
  have p_23 := (BQ.kp ((BQ.kp ((BQ.kp ((BQ.kp (ka10) kp_1 (by decide))) kp_4 (by decide))) kp_7 (by decide))) kp_11 (by decide))
  have p_24 := (BQ.kp ((BQ.kp ((BQ.kp ((BQ.kp (ka11) kp_1 (by decide))) kp_4 (by decide))) kp_7 (by decide))) kp_11 (by decide))
  have p_25 := (BQ.kp ((BQ.kp ((BQ.kp ((BQ.kp (ka12) kp_1 (by decide))) kp_4 (by decide))) kp_7 (by decide))) kp_11 (by decide))
  have p_26 := (BY.kp ((BY.kp ((BY.kp ((BY.kp (ka13) kp_1 (by decide) (by decide))) kp_4 (by decide) (by decide))) kp_7 (by decide) (by decide))) kp_11 (by decide) (by decide))
  have p_27 := (BQ.kp ((BQ.kp ((BQ.kp ((BQ.kp (ka14) kp_1 (by decide))) kp_4 (by decide))) kp_7 (by decide))) kp_11 (by decide))
  have p_28 := (BQ.kp ((BQ.kp ((BQ.kp ((BQ.kp (ka15) kp_1 (by decide))) kp_4 (by decide))) kp_7 (by decide))) kp_11 (by decide))
  have p_29 := (BQ.kp ((BQ.kp ((BQ.kp ((BQ.kp (ka16) kp_1 (by decide))) kp_4 (by decide))) kp_7 (by decide))) kp_11 (by decide))
  have p_30 := (BY.kp ((BY.kp ((BY.kp ((BY.kp (ka17) kp_1 (by decide) (by decide))) kp_4 (by decide) (by decide))) kp_7 (by decide) (by decide))) kp_11 (by decide) (by decide))
  have p_31 := (BY.kp ((BY.kp ((BY.kp ((BY.kp (ka18) kp_1 (by decide) (by decide))) kp_4 (by decide) (by decide))) kp_7 (by decide) (by decide))) kp_11 (by decide) (by decide))
  have p_32 := (BY.kp ((BY.kp (p_4_0) kp_7 (by decide) (by decide))) kp_11 (by decide) (by decide))
  exact T_ret d_PG_hash_59 rfl rfl (by decide) (by decide) ⟨by rw [List.nil_append, sl_len], ⟨p_13, p_14, p_15, p_16, p_17, p_18, p_19, p_20, p_21, BA.bq p_22, p_23, p_24, p_25, ⟨_, p_26⟩, p_27, p_28, p_29, ⟨_, p_30⟩, ⟨_, p_31⟩⟩, p_32, g, (KR.tr (KR.tr (KR.tr (KR.tr KR.rf kp_1 ((by decide +kernel : ∀ q ∈ [64, 65, 199], InP q))) kp_4 ((by decide +kernel : ∀ q ∈ [369], InP q))) kp_7 ((by decide +kernel : ∀ q ∈ [371], InP q))) kp_11 ((by decide +kernel : ∀ q ∈ [371, 372], InP q)))⟩
set_option maxHeartbeats 8000000 in
theorem y_PG_group {G : GX} {M : List va_E} {sd : Int32} {ch : Nat} {lt lo : List UInt8} (hgo : GO M 61 264) (hks : KS M sd ch) (htx : BY M 369 370 200 lt) (hou : BY M 371 372 64 lo) : CT G mi_PG_group [.ref 61] M (fun r M' => r = some (.int (nI 32)) ∧ KS M' sd ch ∧ BY M' 369 370 200 [] ∧ BY M' 371 372 64 (enc (grp lt)) ∧ KR InP M M') := by
  have hlt := htx.2.le
  obtain ⟨ka0, ka1, ka2, ka3, ka4, ka5, ka6, ka7, ka8, ka9, ka10, ka11, ka12, ⟨kl13, ka13⟩, ka14, ka15, ka16, ⟨kl17, ka17⟩, ⟨kl18, ka18⟩⟩ := id hks
  refine CT.of (by decide) (Nat.le_of_ble_eq_true rfl) ?_
  show TT G mi_PG_group 0 [(0, .ref 61)] [] M 0 0 _
  refine T_aload_n (v := .ref 61) d_PG_group_0 rfl (Or.inr ⟨_, rfl⟩) ?_
  refine T_getfield (v := .ref 62) d_PG_group_1 fg_PG_12 hgo.1 rfl ?_
  refine T_aload_n (v := .ref 61) d_PG_group_4 rfl (Or.inr ⟨_, rfl⟩) ?_
  refine T_getfield (v := .ref 369) d_PG_group_5 fg_PG_42 hgo.1 rfl ?_
  refine T_aload_n (v := .ref 61) d_PG_group_8 rfl (Or.inr ⟨_, rfl⟩) ?_
  refine T_getfield (v := .ref 62) d_PG_group_9 fg_PG_12 hgo.1 rfl ?_
  refine T_getfield (v := .ref 188) d_PG_group_12 fg_PG_78 ka0 rfl ?_
  refine T_virtual (as := [.ref 369, .ref 188]) (rest := []) (b := 62) d_PG_group_15 rfl (jw_Kit_groupOf.jo (by decide)) lm_PG_82 ji_Kit_groupOf js_Kit_groupOf ka0 rfl rfl rfl (Nat.le_of_ble_eq_true rfl) (by decide) (by decide) (y_Kit_groupOf ka0 ka1 ka17 ka9 ka3 ka5 htx (by first | omega | (simp only [List.length_append, List.length_cons, List.length_nil, List.length_replicate, sl_len, be_len, sha_len, xk_len, hmac_len, ex1_len, ex2_len, tag1_len, tC_len, stretch_len, chance_len, enc_len, pub_len, lbN_len, lbF_len, zer8_len, W0_len, W1_len, W2_len, W3_len, W4_len, W5_len, W6_len, W7_len, W8_len, W9_len, W10_len, W11_len, W12_len, W13_len, W14_len, W15_len, W16_len, W17_len, W18_len, W19_len, W20_len, W21_len, sec8_len, seal8_len, xr_len, pre8_len, xSess_len, xSrv_len, xCli_len]; done) | (simp only [List.length_append, List.length_cons, List.length_nil, List.length_replicate, sl_len, be_len, sha_len, xk_len, hmac_len, ex1_len, ex2_len, tag1_len, tC_len, stretch_len, chance_len, enc_len, pub_len, lbN_len, lbF_len, zer8_len, W0_len, W1_len, W2_len, W3_len, W4_len, W5_len, W6_len, W7_len, W8_len, W9_len, W10_len, W11_len, W12_len, W13_len, W14_len, W15_len, W16_len, W17_len, W18_len, W19_len, W20_len, W21_len, sec8_len, seal8_len, xr_len, pre8_len, xSess_len, xSrv_len, xCli_len]; omega)) (by decide) (by decide) (by decide)) (fun r M_1 hq => ?_)
  obtain ⟨rfl, p_1_0, ⟨lb_1, p_1_1⟩, p_1_2, p_1_3, p_1_4, kp_1⟩ := hq
  refine T_eq (pc' := 18) (L' := [(0, .ref 61)]) (st' := []) (M' := M_1) rfl rfl rfl rfl ?_
  refine T_aload_n (v := .ref 61) d_PG_group_18 rfl (Or.inr ⟨_, rfl⟩) ?_
  have h_2 := (kp_1 61 (by decide)).trans (hgo.1)
  refine T_getfield (v := .ref 369) d_PG_group_19 fg_PG_42 h_2 rfl ?_
  have p_3 := (BY.kp (htx) kp_1 (by decide) (by decide))
  refine T_virtual (as := []) (rest := []) (b := 369) d_PG_group_22 rfl (jw_By_clear.jo (by decide)) lm_PG_71 ji_By_clear js_By_clear p_3.1 rfl rfl rfl (Nat.le_of_ble_eq_true rfl) (by decide) (by decide) (y_By_clear p_3 (by decide)) (fun r M_4 hq => ?_)
  obtain ⟨rfl, p_4_0, kp_4⟩ := hq
  refine T_eq (pc' := 25) (L' := [(0, .ref 61)]) (st' := []) (M' := M_4) rfl rfl rfl rfl ?_
  refine T_aload_n (v := .ref 61) d_PG_group_25 rfl (Or.inr ⟨_, rfl⟩) ?_
  have p_5 := (GO.kp ((GO.kp (hgo) kp_1 (by decide) (by decide))) kp_4 (by decide) (by decide))
  have p_6 := (KO.kp ((KO.kp (ka0) kp_1 (by decide))) kp_4 (by decide))
  have p_7 := (CU.kp (p_1_3) kp_4 (by decide))
  have p_8 := (PC.kp (p_1_4) kp_4 (by decide) (by decide) (by decide) (by decide) (by decide))
  have p_9 := (BY.kp ((BY.kp (hou) kp_1 (by decide) (by decide))) kp_4 (by decide) (by decide))
  have h_11 := (kp_4 61 (by decide)).trans (h_2)
  refine T_virtual (as := []) (rest := []) (b := 61) d_PG_group_26 rfl (jw_PG_showPoint.jo (by decide)) lm_PG_86 ji_PG_showPoint js_PG_showPoint h_11 rfl rfl rfl (Nat.le_of_ble_eq_true rfl) (by decide) (by decide) (y_PG_showPoint p_5 p_6 p_7 p_8 p_9) (fun r M_10 hq => ?_)
  obtain ⟨rfl, p_10_0, p_10_1, kp_10⟩ := hq
  refine T_eq (pc' := 29) (L' := [(0, .ref 61)]) (st' := []) (M' := M_10) rfl rfl rfl rfl ?_
  refine T_aload_n (v := .ref 61) d_PG_group_29 rfl (Or.inr ⟨_, rfl⟩) ?_
  have h_12 := (kp_10 61 (by decide)).trans (h_11)
  refine T_getfield (v := .ref 371) d_PG_group_30 fg_PG_46 h_12 rfl ?_
  refine T_getfield (v := .int (nI ((enc (grp lt)).length))) d_PG_group_33 fg_PG_49 p_10_1.1 rfl ?_
  have p_13 := (KO.kp (p_6) kp_10 (by decide))
  have p_14 := (DQ.kp ((DQ.kp (p_1_0) kp_4 (by decide) (by decide) (by decide))) kp_10 (by decide) (by decide) (by decide))
  have p_15 := (KY.kp ((KY.kp ((KY.kp (ka2) kp_1 (by decide))) kp_4 (by decide))) kp_10 (by decide))
  have p_16 := (SCS.kp ((SCS.kp ((SCS.kp (ka4) kp_1 (by decide))) kp_4 (by decide))) kp_10 (by decide))
  have p_17 := (PC.kp (p_8) kp_10 (by decide) (by decide) (by decide) (by decide) (by decide))
  have p_18 := (PQ.kp ((PQ.kp ((PQ.kp (ka6) kp_1 (by decide) (by decide) (by decide) (by decide) (by decide))) kp_4 (by decide) (by decide) (by decide) (by decide) (by decide))) kp_10 (by decide) (by decide) (by decide) (by decide) (by decide))
  have p_19 := (PQ.kp ((PQ.kp ((PQ.kp (ka7) kp_1 (by decide) (by decide) (by decide) (by decide) (by decide))) kp_4 (by decide) (by decide) (by decide) (by decide) (by decide))) kp_10 (by decide) (by decide) (by decide) (by decide) (by decide))
  have p_20 := (BQ.kp ((BQ.kp ((BQ.kp (ka8) kp_1 (by decide))) kp_4 (by decide))) kp_10 (by decide))
  have p_21 := (BQ.kp ((BQ.kp (p_1_2) kp_4 (by decide))) kp_10 (by decide))
  have p_22 := (BQ.kp ((BQ.kp ((BQ.kp (ka10) kp_1 (by decide))) kp_4 (by decide))) kp_10 (by decide))
  have p_23 := (BQ.kp ((BQ.kp ((BQ.kp (ka11) kp_1 (by decide))) kp_4 (by decide))) kp_10 (by decide))
  have p_24 := (BQ.kp ((BQ.kp ((BQ.kp (ka12) kp_1 (by decide))) kp_4 (by decide))) kp_10 (by decide))
  have p_25 := (BY.kp ((BY.kp ((BY.kp (ka13) kp_1 (by decide) (by decide))) kp_4 (by decide) (by decide))) kp_10 (by decide) (by decide))
  have p_26 := (BQ.kp ((BQ.kp ((BQ.kp (ka14) kp_1 (by decide))) kp_4 (by decide))) kp_10 (by decide))
  have p_27 := (BQ.kp ((BQ.kp ((BQ.kp (ka15) kp_1 (by decide))) kp_4 (by decide))) kp_10 (by decide))
  have p_28 := (BQ.kp ((BQ.kp ((BQ.kp (ka16) kp_1 (by decide))) kp_4 (by decide))) kp_10 (by decide))
  have p_29 := (BY.kp ((BY.kp (p_1_1) kp_4 (by decide) (by decide))) kp_10 (by decide) (by decide))
  have p_30 := (BY.kp ((BY.kp ((BY.kp (ka18) kp_1 (by decide) (by decide))) kp_4 (by decide) (by decide))) kp_10 (by decide) (by decide))
  have p_31 := (BY.kp (p_4_0) kp_10 (by decide) (by decide))
  exact T_ret d_PG_group_36 rfl rfl (by decide) (by decide) ⟨by rw [enc_len], ⟨p_13, p_14, p_15, p_10_0, p_16, PC.pq p_17, p_18, p_19, p_20, p_21, p_22, p_23, p_24, ⟨_, p_25⟩, p_26, p_27, p_28, ⟨_, p_29⟩, ⟨_, p_30⟩⟩, p_31, p_10_1, (KR.tr (KR.tr (KR.tr KR.rf kp_1 ((by decide +kernel : ∀ q ∈ [64, 65, 213, 214, 199, 189, 190, 191, 192, 77, 78, 79, 80, 81, 82, 83, 84, 85, 86, 87, 88, 89, 90, 91, 92, 93, 94, 95, 96, 97, 98, 99, 100, 101, 102, 103, 104, 105, 106, 107, 108, 109, 110, 111, 112, 113, 114, 115, 116, 117, 118, 119, 120, 121, 122, 123, 124, 125, 126, 127, 128, 129, 130, 131, 132, 133, 134, 135, 136, 137, 138, 139, 140, 141, 142, 143, 144, 145, 146, 147, 148, 149, 150, 151, 152, 153, 154, 155, 156, 157, 158, 159, 160, 161, 162, 163, 164, 165, 166, 167, 168, 169, 170, 171, 172, 173, 174, 175, 176, 177, 178, 179, 180, 181, 182], InP q))) kp_4 ((by decide +kernel : ∀ q ∈ [369], InP q))) kp_10 ((by decide +kernel : ∀ q ∈ [371, 372, 77, 78, 79, 80, 81, 82, 83, 84, 85, 86, 87, 88, 89, 90, 91, 92, 93, 94, 95, 96, 97, 98, 99, 100, 101, 102, 103, 104, 105, 106, 107, 108, 109, 110, 111, 112, 113, 114, 115, 116, 117, 118, 119, 120, 121, 122, 123, 124, 125, 126, 127, 128, 129, 130, 131, 132, 133, 134, 135, 136, 137, 138, 139, 140, 141, 142, 143, 144, 145, 146, 147, 148, 149, 150, 151, 152, 153, 154, 155, 156, 157, 158, 159, 160, 161, 162, 163, 164, 165, 166, 167, 168, 169, 170, 171, 172, 173, 174, 175, 176, 177, 178, 179, 180, 181, 182], InP q)))⟩
set_option maxHeartbeats 8000000 in
theorem y_PG_times_ok {G : GX} {M : List va_E} {sd : Int32} {ch : Nat} {lt lo : List UInt8} (hgo : GO M 61 264) (hks : KS M sd ch) (htx : BY M 369 370 200 lt) (hou : BY M 371 372 64 lo) (hl : 64 ≤ lt.length) (hd : dec (nB lt 32)) : CT G mi_PG_times [.ref 61] M (fun r M' => r = some (.int (nI 32)) ∧ KS M' sd ch ∧ BY M' 369 370 200 [] ∧ BY M' 371 372 64 (enc (emul fD (dPt (nB lt 32)) (leN lt 32 % qN))) ∧ KR InP M M') := by
  have hlt := htx.2.le
  have eL := el_lt (Nat.mod_lt (leN lt 32) (show 0 < qN by decide))
  obtain ⟨ka0, ka1, ka2, ka3, ka4, ka5, ka6, ka7, ka8, ka9, ka10, ka11, ka12, ⟨kl13, ka13⟩, ka14, ka15, ka16, ⟨kl17, ka17⟩, ⟨kl18, ka18⟩⟩ := id hks
  refine CT.of (by decide) (Nat.le_of_ble_eq_true rfl) ?_
  show TT G mi_PG_times 0 [(0, .ref 61)] [] M 0 0 _
  refine T_aload_n (v := .ref 61) d_PG_times_0 rfl (Or.inr ⟨_, rfl⟩) ?_
  refine T_getfield (v := .ref 369) d_PG_times_1 fg_PG_42 hgo.1 rfl ?_
  refine T_getfield (v := .int (nI (lt.length))) d_PG_times_4 fg_PG_49 htx.1 rfl ?_
  refine T_bipush (v := nI 64) d_PG_times_7 (by decide) ?_
  refine N_icmp_lt_f (a := 64) (b := lt.length) d_PG_times_9 (tgt := 45) rfl (by omega) (by omega) (by omega) ?_
  refine T_aload_n (v := .ref 61) d_PG_times_12 rfl (Or.inr ⟨_, rfl⟩) ?_
  refine T_getfield (v := .ref 62) d_PG_times_13 fg_PG_12 hgo.1 rfl ?_
  refine T_getfield (v := .ref 77) d_PG_times_16 fg_PG_89 ka0 rfl ?_
  refine T_aload_n (v := .ref 61) d_PG_times_19 rfl (Or.inr ⟨_, rfl⟩) ?_
  refine T_getfield (v := .ref 369) d_PG_times_20 fg_PG_42 hgo.1 rfl ?_
  refine T_getfield (v := .ref 370) d_PG_times_23 fg_PG_93 htx.1 rfl ?_
  refine T_bipush (v := nI 32) d_PG_times_26 (by decide) ?_
  refine T_aload_n (v := .ref 61) d_PG_times_28 rfl (Or.inr ⟨_, rfl⟩) ?_
  refine T_getfield (v := .ref 62) d_PG_times_29 fg_PG_12 hgo.1 rfl ?_
  refine T_getfield (v := .ref 188) d_PG_times_32 fg_PG_78 ka0 rfl ?_
  refine T_virtual (as := [.ref 370, .int (nI 32), .ref 188]) (rest := []) (b := 77) d_PG_times_35 rfl (jw_Cu_decode.jo (by decide)) lm_PG_96 ji_Cu_decode js_Cu_decode ka3.1.1 rfl rfl rfl (Nat.le_of_ble_eq_true rfl) (by decide) (by decide) (y_Cu_decode (at0 := 32) ka3 htx.2 ka5 (by first | omega | (simp only [List.length_append, List.length_cons, List.length_nil, List.length_replicate, sl_len, be_len, sha_len, xk_len, hmac_len, ex1_len, ex2_len, tag1_len, tC_len, stretch_len, chance_len, enc_len, pub_len, lbN_len, lbF_len, zer8_len, W0_len, W1_len, W2_len, W3_len, W4_len, W5_len, W6_len, W7_len, W8_len, W9_len, W10_len, W11_len, W12_len, W13_len, W14_len, W15_len, W16_len, W17_len, W18_len, W19_len, W20_len, W21_len, sec8_len, seal8_len, xr_len, pre8_len, xSess_len, xSrv_len, xCli_len]; done) | (simp only [List.length_append, List.length_cons, List.length_nil, List.length_replicate, sl_len, be_len, sha_len, xk_len, hmac_len, ex1_len, ex2_len, tag1_len, tC_len, stretch_len, chance_len, enc_len, pub_len, lbN_len, lbF_len, zer8_len, W0_len, W1_len, W2_len, W3_len, W4_len, W5_len, W6_len, W7_len, W8_len, W9_len, W10_len, W11_len, W12_len, W13_len, W14_len, W15_len, W16_len, W17_len, W18_len, W19_len, W20_len, W21_len, sec8_len, seal8_len, xr_len, pre8_len, xSess_len, xSrv_len, xCli_len]; omega)) (by decide) (by decide) (by decide) (by decide) (by decide) (by decide) (by decide) (by decide) (by decide) (by decide) (by decide) (by decide) (by decide) (by decide) (by decide) (by decide) (by decide)) (fun r M_1 hq => ?_)
  obtain ⟨rfl, p_1a, p_1b, _, kp_1⟩ := hq
  rw [if_pos hd]
  refine T_eq (pc' := 38) (L' := [(0, .ref 61)]) (st' := [.int (nI 1)]) (M' := M_1) rfl rfl rfl rfl ?_
  refine N_if_eq_f (b := 1) d_PG_times_38 (tgt := 45) rfl (by omega) (by omega) ?_
  refine T_iconst (v := nI 1) d_PG_times_41 (by decide) ?_
  refine T_goto (tgt := 46) d_PG_times_42 rfl ?_
  refine T_istore_n (L' := [(1, .int (nI 1)), (0, .ref 61)]) d_PG_times_46 (by decide) rfl ?_
  refine T_iload_n d_PG_times_47 rfl ?_
  refine N_if_eq_f (b := 1) d_PG_times_48 (tgt := 112) rfl (by omega) (by omega) ?_
  refine T_aload_n (v := .ref 61) d_PG_times_51 rfl (Or.inr ⟨_, rfl⟩) ?_
  have h_2 := (kp_1 61 (by decide)).trans (hgo.1)
  refine T_getfield (v := .ref 62) d_PG_times_52 fg_PG_12 h_2 rfl ?_
  have h_3 := (kp_1 62 (by decide)).trans (ka0)
  refine T_getfield (v := .ref 183) d_PG_times_55 fg_PG_102 h_3 rfl ?_
  refine T_aload_n (v := .ref 61) d_PG_times_58 rfl (Or.inr ⟨_, rfl⟩) ?_
  refine T_getfield (v := .ref 369) d_PG_times_59 fg_PG_42 h_2 rfl ?_
  have h_4 := (kp_1 369 (by decide)).trans (htx.1)
  refine T_getfield (v := .ref 370) d_PG_times_62 fg_PG_93 h_4 rfl ?_
  refine T_bipush (v := nI 32) d_PG_times_65 (by decide) ?_
  refine T_aload_n (v := .ref 61) d_PG_times_67 rfl (Or.inr ⟨_, rfl⟩) ?_
  refine T_getfield (v := .ref 62) d_PG_times_68 fg_PG_12 h_2 rfl ?_
  refine T_getfield (v := .ref 198) d_PG_times_71 fg_PG_106 h_3 rfl ?_
  have p_5 := (SCS.kp (ka4) kp_1 (by decide))
  have p_6 := (BY.kp (htx) kp_1 (by decide) (by decide))
  have p_7 := (BQ.kp (ka8) kp_1 (by decide))
  refine T_virtual (as := [.ref 370, .int (nI 32), .ref 198]) (rest := []) (b := 183) d_PG_times_74 rfl (jw_Sc_reduce.jo (by decide)) lm_PG_109 ji_Sc_reduce js_Sc_reduce p_5.1 rfl rfl rfl (Nat.le_of_ble_eq_true rfl) (by decide) (by decide) (y_Sc_reduce (n := 32) p_5 p_6.2 p_7 (by first | omega | (simp only [List.length_append, List.length_cons, List.length_nil, List.length_replicate, sl_len, be_len, sha_len, xk_len, hmac_len, ex1_len, ex2_len, tag1_len, tC_len, stretch_len, chance_len, enc_len, pub_len, lbN_len, lbF_len, zer8_len, W0_len, W1_len, W2_len, W3_len, W4_len, W5_len, W6_len, W7_len, W8_len, W9_len, W10_len, W11_len, W12_len, W13_len, W14_len, W15_len, W16_len, W17_len, W18_len, W19_len, W20_len, W21_len, sec8_len, seal8_len, xr_len, pre8_len, xSess_len, xSrv_len, xCli_len]; done) | (simp only [List.length_append, List.length_cons, List.length_nil, List.length_replicate, sl_len, be_len, sha_len, xk_len, hmac_len, ex1_len, ex2_len, tag1_len, tC_len, stretch_len, chance_len, enc_len, pub_len, lbN_len, lbF_len, zer8_len, W0_len, W1_len, W2_len, W3_len, W4_len, W5_len, W6_len, W7_len, W8_len, W9_len, W10_len, W11_len, W12_len, W13_len, W14_len, W15_len, W16_len, W17_len, W18_len, W19_len, W20_len, W21_len, sec8_len, seal8_len, xr_len, pre8_len, xSess_len, xSrv_len, xCli_len]; omega)) (by decide) (by decide) (by decide) (by decide) (by decide) (by decide)) (fun r M_8 hq => ?_)
  obtain ⟨rfl, p_8_0, p_8_1, kp_8⟩ := hq
  refine T_eq (pc' := 77) (L' := [(1, .int (nI 1)), (0, .ref 61)]) (st' := []) (M' := M_8) rfl rfl rfl rfl ?_
  refine T_aload_n (v := .ref 61) d_PG_times_77 rfl (Or.inr ⟨_, rfl⟩) ?_
  have h_9 := (kp_8 61 (by decide)).trans (h_2)
  refine T_getfield (v := .ref 62) d_PG_times_78 fg_PG_12 h_9 rfl ?_
  have h_10 := (kp_8 62 (by decide)).trans (h_3)
  refine T_getfield (v := .ref 77) d_PG_times_81 fg_PG_89 h_10 rfl ?_
  refine T_aload_n (v := .ref 61) d_PG_times_84 rfl (Or.inr ⟨_, rfl⟩) ?_
  refine T_getfield (v := .ref 62) d_PG_times_85 fg_PG_12 h_9 rfl ?_
  refine T_getfield (v := .ref 188) d_PG_times_88 fg_PG_78 h_10 rfl ?_
  refine T_aload_n (v := .ref 61) d_PG_times_91 rfl (Or.inr ⟨_, rfl⟩) ?_
  refine T_getfield (v := .ref 62) d_PG_times_92 fg_PG_12 h_9 rfl ?_
  refine T_getfield (v := .ref 198) d_PG_times_95 fg_PG_106 h_10 rfl ?_
  refine T_aload_n (v := .ref 61) d_PG_times_98 rfl (Or.inr ⟨_, rfl⟩) ?_
  refine T_getfield (v := .ref 62) d_PG_times_99 fg_PG_12 h_9 rfl ?_
  refine T_getfield (v := .ref 188) d_PG_times_102 fg_PG_78 h_10 rfl ?_
  have p_12 := (CU.kp (p_1a) kp_8 (by decide))
  have p_13 := (PC.kp ((p_1b hd)) kp_8 (by decide) (by decide) (by decide) (by decide) (by decide))
  refine T_virtual (as := [.ref 188, .ref 198, .ref 188]) (rest := []) (b := 77) d_PG_times_105 rfl (jw_Cu_multiply.jo (by decide)) lm_PG_115 ji_Cu_multiply js_Cu_multiply p_12.1.1 rfl rfl rfl (Nat.le_of_ble_eq_true rfl) (by decide) (by decide) (y_Cu_mul_188_188 p_12 p_13 (dPt_on hd) p_8_1 (by first | omega | (simp only [List.length_append, List.length_cons, List.length_nil, List.length_replicate, sl_len, be_len, sha_len, xk_len, hmac_len, ex1_len, ex2_len, tag1_len, tC_len, stretch_len, chance_len, enc_len, pub_len, lbN_len, lbF_len, zer8_len, W0_len, W1_len, W2_len, W3_len, W4_len, W5_len, W6_len, W7_len, W8_len, W9_len, W10_len, W11_len, W12_len, W13_len, W14_len, W15_len, W16_len, W17_len, W18_len, W19_len, W20_len, W21_len, sec8_len, seal8_len, xr_len, pre8_len, xSess_len, xSrv_len, xCli_len]; done) | (simp only [List.length_append, List.length_cons, List.length_nil, List.length_replicate, sl_len, be_len, sha_len, xk_len, hmac_len, ex1_len, ex2_len, tag1_len, tC_len, stretch_len, chance_len, enc_len, pub_len, lbN_len, lbF_len, zer8_len, W0_len, W1_len, W2_len, W3_len, W4_len, W5_len, W6_len, W7_len, W8_len, W9_len, W10_len, W11_len, W12_len, W13_len, W14_len, W15_len, W16_len, W17_len, W18_len, W19_len, W20_len, W21_len, sec8_len, seal8_len, xr_len, pre8_len, xSess_len, xSrv_len, xCli_len]; omega)) (by decide) (by decide) (by decide)) (fun r M_11 hq => ?_)
  obtain ⟨rfl, p_11a, p_11b, kp_11⟩ := hq
  refine T_eq (pc' := 108) (L' := [(1, .int (nI 1)), (0, .ref 61)]) (st' := []) (M' := M_11) rfl rfl rfl rfl ?_
  have g_14 := p_11b
  rw [eL] at g_14
  refine T_aload_n (v := .ref 61) d_PG_times_108 rfl (Or.inr ⟨_, rfl⟩) ?_
  have p_15 := (GO.kp ((GO.kp ((GO.kp (hgo) kp_1 (by decide) (by decide))) kp_8 (by decide) (by decide))) kp_11 (by decide) (by decide))
  have p_16 := (KO.kp ((KO.kp ((KO.kp (ka0) kp_1 (by decide))) kp_8 (by decide))) kp_11 (by decide))
  have p_17 := (BY.kp ((BY.kp ((BY.kp (hou) kp_1 (by decide) (by decide))) kp_8 (by decide) (by decide))) kp_11 (by decide) (by decide))
  have h_19 := (kp_11 61 (by decide)).trans (h_9)
  refine T_virtual (as := []) (rest := []) (b := 61) d_PG_times_109 rfl (jw_PG_showPoint.jo (by decide)) lm_PG_86 ji_PG_showPoint js_PG_showPoint h_19 rfl rfl rfl (Nat.le_of_ble_eq_true rfl) (by decide) (by decide) (y_PG_showPoint p_15 p_16 p_11a g_14 p_17) (fun r M_18 hq => ?_)
  obtain ⟨rfl, p_18_0, p_18_1, kp_18⟩ := hq
  refine T_eq (pc' := 112) (L' := [(1, .int (nI 1)), (0, .ref 61)]) (st' := []) (M' := M_18) rfl rfl rfl rfl ?_
  refine T_aload_n (v := .ref 61) d_PG_times_112 rfl (Or.inr ⟨_, rfl⟩) ?_
  have h_20 := (kp_18 61 (by decide)).trans (h_19)
  refine T_getfield (v := .ref 369) d_PG_times_113 fg_PG_42 h_20 rfl ?_
  have p_21 := (BY.kp ((BY.kp ((BY.kp (p_6) kp_8 (by decide) (by decide))) kp_11 (by decide) (by decide))) kp_18 (by decide) (by decide))
  have h_23 := (kp_18 369 (by decide)).trans ((kp_11 369 (by decide)).trans ((kp_8 369 (by decide)).trans (h_4)))
  refine T_virtual (as := []) (rest := []) (b := 369) d_PG_times_116 rfl (jw_By_clear.jo (by decide)) lm_PG_71 ji_By_clear js_By_clear h_23 rfl rfl rfl (Nat.le_of_ble_eq_true rfl) (by decide) (by decide) (y_By_clear p_21 (by decide)) (fun r M_22 hq => ?_)
  obtain ⟨rfl, p_22_0, kp_22⟩ := hq
  refine T_eq (pc' := 119) (L' := [(1, .int (nI 1)), (0, .ref 61)]) (st' := []) (M' := M_22) rfl rfl rfl rfl ?_
  refine T_iload_n d_PG_times_119 rfl ?_
  refine N_if_eq_f (b := 1) d_PG_times_120 (tgt := 133) rfl (by omega) (by omega) ?_
  refine T_aload_n (v := .ref 61) d_PG_times_123 rfl (Or.inr ⟨_, rfl⟩) ?_
  have h_24 := (kp_22 61 (by decide)).trans (h_20)
  refine T_getfield (v := .ref 371) d_PG_times_124 fg_PG_46 h_24 rfl ?_
  have p_25 := (BY.kp (p_18_1) kp_22 (by decide) (by decide))
  refine T_getfield (v := .int (nI ((enc (emul fD (dPt (nB lt 32)) (leN lt 32 % qN))).length))) d_PG_times_127 fg_PG_49 p_25.1 rfl ?_
  refine T_goto (tgt := 134) d_PG_times_130 rfl ?_
  have p_26 := (KO.kp ((KO.kp (p_16) kp_18 (by decide))) kp_22 (by decide))
  have p_27 := (DQ.kp ((DQ.kp ((DQ.kp ((DQ.kp ((DQ.kp (ka1) kp_1 (by decide) (by decide) (by decide))) kp_8 (by decide) (by decide) (by decide))) kp_11 (by decide) (by decide) (by decide))) kp_18 (by decide) (by decide) (by decide))) kp_22 (by decide) (by decide) (by decide))
  have p_28 := (KY.kp ((KY.kp ((KY.kp ((KY.kp ((KY.kp (ka2) kp_1 (by decide))) kp_8 (by decide))) kp_11 (by decide))) kp_18 (by decide))) kp_22 (by decide))
  have p_29 := (CU.kp (p_18_0) kp_22 (by decide))
  have p_30 := (SCS.kp ((SCS.kp ((SCS.kp (p_8_0) kp_11 (by decide))) kp_18 (by decide))) kp_22 (by decide))
  have p_31 := (PC.kp ((PC.kp (g_14) kp_18 (by decide) (by decide) (by decide) (by decide) (by decide))) kp_22 (by decide) (by decide) (by decide) (by decide) (by decide))
  have p_32 := (PQ.kp ((PQ.kp ((PQ.kp ((PQ.kp ((PQ.kp (ka6) kp_1 (by decide) (by decide) (by decide) (by decide) (by decide))) kp_8 (by decide) (by decide) (by decide) (by decide) (by decide))) kp_11 (by decide) (by decide) (by decide) (by decide) (by decide))) kp_18 (by decide) (by decide) (by decide) (by decide) (by decide))) kp_22 (by decide) (by decide) (by decide) (by decide) (by decide))
  have p_33 := (PQ.kp ((PQ.kp ((PQ.kp ((PQ.kp ((PQ.kp (ka7) kp_1 (by decide) (by decide) (by decide) (by decide) (by decide))) kp_8 (by decide) (by decide) (by decide) (by decide) (by decide))) kp_11 (by decide) (by decide) (by decide) (by decide) (by decide))) kp_18 (by decide) (by decide) (by decide) (by decide) (by decide))) kp_22 (by decide) (by decide) (by decide) (by decide) (by decide))
  have p_34 := (BA.kp ((BA.kp ((BA.kp (p_8_1) kp_11 (by decide))) kp_18 (by decide))) kp_22 (by decide))
  have p_35 := (BQ.kp ((BQ.kp ((BQ.kp ((BQ.kp ((BQ.kp (ka9) kp_1 (by decide))) kp_8 (by decide))) kp_11 (by decide))) kp_18 (by decide))) kp_22 (by decide))
  have p_36 := (BQ.kp ((BQ.kp ((BQ.kp ((BQ.kp ((BQ.kp (ka10) kp_1 (by decide))) kp_8 (by decide))) kp_11 (by decide))) kp_18 (by decide))) kp_22 (by decide))
  have p_37 := (BQ.kp ((BQ.kp ((BQ.kp ((BQ.kp ((BQ.kp (ka11) kp_1 (by decide))) kp_8 (by decide))) kp_11 (by decide))) kp_18 (by decide))) kp_22 (by decide))
  have p_38 := (BQ.kp ((BQ.kp ((BQ.kp ((BQ.kp ((BQ.kp (ka12) kp_1 (by decide))) kp_8 (by decide))) kp_11 (by decide))) kp_18 (by decide))) kp_22 (by decide))
  have p_39 := (BY.kp ((BY.kp ((BY.kp ((BY.kp ((BY.kp (ka13) kp_1 (by decide) (by decide))) kp_8 (by decide) (by decide))) kp_11 (by decide) (by decide))) kp_18 (by decide) (by decide))) kp_22 (by decide) (by decide))
  have p_40 := (BQ.kp ((BQ.kp ((BQ.kp ((BQ.kp ((BQ.kp (ka14) kp_1 (by decide))) kp_8 (by decide))) kp_11 (by decide))) kp_18 (by decide))) kp_22 (by decide))
  have p_41 := (BQ.kp ((BQ.kp ((BQ.kp ((BQ.kp ((BQ.kp (ka15) kp_1 (by decide))) kp_8 (by decide))) kp_11 (by decide))) kp_18 (by decide))) kp_22 (by decide))
  have p_42 := (BQ.kp ((BQ.kp ((BQ.kp ((BQ.kp ((BQ.kp (ka16) kp_1 (by decide))) kp_8 (by decide))) kp_11 (by decide))) kp_18 (by decide))) kp_22 (by decide))
  have p_43 := (BY.kp ((BY.kp ((BY.kp ((BY.kp ((BY.kp (ka17) kp_1 (by decide) (by decide))) kp_8 (by decide) (by decide))) kp_11 (by decide) (by decide))) kp_18 (by decide) (by decide))) kp_22 (by decide) (by decide))
  have p_44 := (BY.kp ((BY.kp ((BY.kp ((BY.kp ((BY.kp (ka18) kp_1 (by decide) (by decide))) kp_8 (by decide) (by decide))) kp_11 (by decide) (by decide))) kp_18 (by decide) (by decide))) kp_22 (by decide) (by decide))
  exact T_ret d_PG_times_134 rfl rfl (by decide) (by decide) ⟨by rw [enc_len], ⟨p_26, p_27, p_28, p_29, p_30, PC.pq p_31, p_32, p_33, BA.bq p_34, p_35, p_36, p_37, p_38, ⟨_, p_39⟩, p_40, p_41, p_42, ⟨_, p_43⟩, ⟨_, p_44⟩⟩, p_22_0, p_25, (KR.tr (KR.tr (KR.tr (KR.tr (KR.tr KR.rf kp_1 ((by decide +kernel : ∀ q ∈ [189, 190, 191, 192, 77, 78, 79, 80, 81, 82, 83, 84, 85, 86, 87, 88, 89, 90, 91, 92, 93, 94, 95, 96, 97, 98, 99, 100, 101, 102, 103, 104, 105, 106, 107, 108, 109, 110, 111, 112, 113, 114, 115, 116, 117, 118, 119, 120, 121, 122, 123, 124, 125, 126, 127, 128, 129, 130, 131, 132, 133, 134, 135, 136, 137, 138, 139, 140, 141, 142, 143, 144, 145, 146, 147, 148, 149, 150, 151, 152, 153, 154, 155, 156, 157, 158, 159, 160, 161, 162, 163, 164, 165, 166, 167, 168, 169, 170, 171, 172, 173, 174, 175, 176, 177, 178, 179, 180, 181, 182], InP q))) kp_8 ((by decide +kernel : ∀ q ∈ [198, 183, 184, 185, 186, 187], InP q))) kp_11 ((by decide +kernel : ∀ q ∈ [189, 190, 191, 192, 77, 78, 79, 80, 81, 82, 83, 84, 85, 86, 87, 88, 89, 90, 91, 92, 93, 94, 95, 96, 97, 98, 99, 100, 101, 102, 103, 104, 105, 106, 107, 108, 109, 110, 111, 112, 113, 114, 115, 116, 117, 118, 119, 120, 121, 122, 123, 124, 125, 126, 127, 128, 129, 130, 131, 132, 133, 134, 135, 136, 137, 138, 139, 140, 141, 142, 143, 144, 145, 146, 147, 148, 149, 150, 151, 152, 153, 154, 155, 156, 157, 158, 159, 160, 161, 162, 163, 164, 165, 166, 167, 168, 169, 170, 171, 172, 173, 174, 175, 176, 177, 178, 179, 180, 181, 182], InP q))) kp_18 ((by decide +kernel : ∀ q ∈ [371, 372, 77, 78, 79, 80, 81, 82, 83, 84, 85, 86, 87, 88, 89, 90, 91, 92, 93, 94, 95, 96, 97, 98, 99, 100, 101, 102, 103, 104, 105, 106, 107, 108, 109, 110, 111, 112, 113, 114, 115, 116, 117, 118, 119, 120, 121, 122, 123, 124, 125, 126, 127, 128, 129, 130, 131, 132, 133, 134, 135, 136, 137, 138, 139, 140, 141, 142, 143, 144, 145, 146, 147, 148, 149, 150, 151, 152, 153, 154, 155, 156, 157, 158, 159, 160, 161, 162, 163, 164, 165, 166, 167, 168, 169, 170, 171, 172, 173, 174, 175, 176, 177, 178, 179, 180, 181, 182], InP q))) kp_22 ((by decide +kernel : ∀ q ∈ [369], InP q)))⟩
set_option maxHeartbeats 8000000 in
theorem y_PG_times_no {G : GX} {M : List va_E} {sd : Int32} {ch : Nat} {lt lo : List UInt8} (hgo : GO M 61 264) (hks : KS M sd ch) (htx : BY M 369 370 200 lt) (hou : BY M 371 372 64 lo) (hno : ¬ (64 ≤ lt.length ∧ dec (nB lt 32))) : CT G mi_PG_times [.ref 61] M (fun r M' => r = some (.int (-1)) ∧ KS M' sd ch ∧ BY M' 369 370 200 [] ∧ BY M' 371 372 64 (lo) ∧ KR InP M M') := by
  have hlt := htx.2.le
  obtain ⟨ka0, ka1, ka2, ka3, ka4, ka5, ka6, ka7, ka8, ka9, ka10, ka11, ka12, ⟨kl13, ka13⟩, ka14, ka15, ka16, ⟨kl17, ka17⟩, ⟨kl18, ka18⟩⟩ := id hks
  refine CT.of (by decide) (Nat.le_of_ble_eq_true rfl) ?_
  show TT G mi_PG_times 0 [(0, .ref 61)] [] M 0 0 _
  refine T_aload_n (v := .ref 61) d_PG_times_0 rfl (Or.inr ⟨_, rfl⟩) ?_
  refine T_getfield (v := .ref 369) d_PG_times_1 fg_PG_42 hgo.1 rfl ?_
  refine T_getfield (v := .int (nI (lt.length))) d_PG_times_4 fg_PG_49 htx.1 rfl ?_
  refine T_bipush (v := nI 64) d_PG_times_7 (by decide) ?_
  refine N_icmp_lt (a := 64) (b := lt.length) d_PG_times_9 (tgt := 45) rfl (by omega) (by omega) (fun h9 => ?_) (fun h9 => ?_)
  ·
    refine T_iconst (v := nI 0) d_PG_times_45 (by decide) ?_
    refine T_istore_n (L' := [(1, .int (nI 0)), (0, .ref 61)]) d_PG_times_46 (by decide) rfl ?_
    refine T_iload_n d_PG_times_47 rfl ?_
    refine N_if_eq_t (b := 0) d_PG_times_48 (tgt := 112) rfl (by omega) (by omega) ?_
    refine T_aload_n (v := .ref 61) d_PG_times_112 rfl (Or.inr ⟨_, rfl⟩) ?_
    refine T_getfield (v := .ref 369) d_PG_times_113 fg_PG_42 hgo.1 rfl ?_
    refine T_virtual (as := []) (rest := []) (b := 369) d_PG_times_116 rfl (jw_By_clear.jo (by decide)) lm_PG_71 ji_By_clear js_By_clear htx.1 rfl rfl rfl (Nat.le_of_ble_eq_true rfl) (by decide) (by decide) (y_By_clear htx (by decide)) (fun r M_1 hq => ?_)
    obtain ⟨rfl, p_1_0, kp_1⟩ := hq
    refine T_eq (pc' := 119) (L' := [(1, .int (nI 0)), (0, .ref 61)]) (st' := []) (M' := M_1) rfl rfl rfl rfl ?_
    refine T_iload_n d_PG_times_119 rfl ?_
    refine N_if_eq_t (b := 0) d_PG_times_120 (tgt := 133) rfl (by omega) (by omega) ?_
    refine T_iconst (v := (-1)) d_PG_times_133 (by decide) ?_
    have p_2 := (KO.kp (ka0) kp_1 (by decide))
    have p_3 := (DQ.kp (ka1) kp_1 (by decide) (by decide) (by decide))
    have p_4 := (KY.kp (ka2) kp_1 (by decide))
    have p_5 := (CU.kp (ka3) kp_1 (by decide))
    have p_6 := (SCS.kp (ka4) kp_1 (by decide))
    have p_7 := (PQ.kp (ka5) kp_1 (by decide) (by decide) (by decide) (by decide) (by decide))
    have p_8 := (PQ.kp (ka6) kp_1 (by decide) (by decide) (by decide) (by decide) (by decide))
    have p_9 := (PQ.kp (ka7) kp_1 (by decide) (by decide) (by decide) (by decide) (by decide))
    have p_10 := (BQ.kp (ka8) kp_1 (by decide))
    have p_11 := (BQ.kp (ka9) kp_1 (by decide))
    have p_12 := (BQ.kp (ka10) kp_1 (by decide))
    have p_13 := (BQ.kp (ka11) kp_1 (by decide))
    have p_14 := (BQ.kp (ka12) kp_1 (by decide))
    have p_15 := (BY.kp (ka13) kp_1 (by decide) (by decide))
    have p_16 := (BQ.kp (ka14) kp_1 (by decide))
    have p_17 := (BQ.kp (ka15) kp_1 (by decide))
    have p_18 := (BQ.kp (ka16) kp_1 (by decide))
    have p_19 := (BY.kp (ka17) kp_1 (by decide) (by decide))
    have p_20 := (BY.kp (ka18) kp_1 (by decide) (by decide))
    have p_21 := (BY.kp (hou) kp_1 (by decide) (by decide))
    exact T_ret d_PG_times_134 rfl rfl (by decide) (by decide) ⟨rfl, ⟨p_2, p_3, p_4, p_5, p_6, p_7, p_8, p_9, p_10, p_11, p_12, p_13, p_14, ⟨_, p_15⟩, p_16, p_17, p_18, ⟨_, p_19⟩, ⟨_, p_20⟩⟩, p_1_0, p_21, (KR.tr KR.rf kp_1 ((by decide +kernel : ∀ q ∈ [369], InP q)))⟩
  ·
    refine T_aload_n (v := .ref 61) d_PG_times_12 rfl (Or.inr ⟨_, rfl⟩) ?_
    refine T_getfield (v := .ref 62) d_PG_times_13 fg_PG_12 hgo.1 rfl ?_
    refine T_getfield (v := .ref 77) d_PG_times_16 fg_PG_89 ka0 rfl ?_
    refine T_aload_n (v := .ref 61) d_PG_times_19 rfl (Or.inr ⟨_, rfl⟩) ?_
    refine T_getfield (v := .ref 369) d_PG_times_20 fg_PG_42 hgo.1 rfl ?_
    refine T_getfield (v := .ref 370) d_PG_times_23 fg_PG_93 htx.1 rfl ?_
    refine T_bipush (v := nI 32) d_PG_times_26 (by decide) ?_
    refine T_aload_n (v := .ref 61) d_PG_times_28 rfl (Or.inr ⟨_, rfl⟩) ?_
    refine T_getfield (v := .ref 62) d_PG_times_29 fg_PG_12 hgo.1 rfl ?_
    refine T_getfield (v := .ref 188) d_PG_times_32 fg_PG_78 ka0 rfl ?_
    refine T_virtual (as := [.ref 370, .int (nI 32), .ref 188]) (rest := []) (b := 77) d_PG_times_35 rfl (jw_Cu_decode.jo (by decide)) lm_PG_96 ji_Cu_decode js_Cu_decode ka3.1.1 rfl rfl rfl (Nat.le_of_ble_eq_true rfl) (by decide) (by decide) (y_Cu_decode (at0 := 32) ka3 htx.2 ka5 (by first | omega | (simp only [List.length_append, List.length_cons, List.length_nil, List.length_replicate, sl_len, be_len, sha_len, xk_len, hmac_len, ex1_len, ex2_len, tag1_len, tC_len, stretch_len, chance_len, enc_len, pub_len, lbN_len, lbF_len, zer8_len, W0_len, W1_len, W2_len, W3_len, W4_len, W5_len, W6_len, W7_len, W8_len, W9_len, W10_len, W11_len, W12_len, W13_len, W14_len, W15_len, W16_len, W17_len, W18_len, W19_len, W20_len, W21_len, sec8_len, seal8_len, xr_len, pre8_len, xSess_len, xSrv_len, xCli_len]; done) | (simp only [List.length_append, List.length_cons, List.length_nil, List.length_replicate, sl_len, be_len, sha_len, xk_len, hmac_len, ex1_len, ex2_len, tag1_len, tC_len, stretch_len, chance_len, enc_len, pub_len, lbN_len, lbF_len, zer8_len, W0_len, W1_len, W2_len, W3_len, W4_len, W5_len, W6_len, W7_len, W8_len, W9_len, W10_len, W11_len, W12_len, W13_len, W14_len, W15_len, W16_len, W17_len, W18_len, W19_len, W20_len, W21_len, sec8_len, seal8_len, xr_len, pre8_len, xSess_len, xSrv_len, xCli_len]; omega)) (by decide) (by decide) (by decide) (by decide) (by decide) (by decide) (by decide) (by decide) (by decide) (by decide) (by decide) (by decide) (by decide) (by decide) (by decide) (by decide) (by decide)) (fun r M_22 hq => ?_)
    obtain ⟨rfl, p_22a, p_22b, p_22c, kp_22⟩ := hq
    have p_23 := (GO.kp (hgo) kp_22 (by decide) (by decide))
    have p_24 := (BY.kp (htx) kp_22 (by decide) (by decide))
    have p_25 := (BY.kp (hou) kp_22 (by decide) (by decide))
    have p_26 := (KO.kp (ka0) kp_22 (by decide))
    have p_27 := (DQ.kp (ka1) kp_22 (by decide) (by decide) (by decide))
    have p_28 := (KY.kp (ka2) kp_22 (by decide))
    have p_29 := (SCS.kp (ka4) kp_22 (by decide))
    have p_30 := (PQ.kp (ka6) kp_22 (by decide) (by decide) (by decide) (by decide) (by decide))
    have p_31 := (PQ.kp (ka7) kp_22 (by decide) (by decide) (by decide) (by decide) (by decide))
    have p_32 := (BQ.kp (ka8) kp_22 (by decide))
    have p_33 := (BQ.kp (ka9) kp_22 (by decide))
    have p_34 := (BQ.kp (ka10) kp_22 (by decide))
    have p_35 := (BQ.kp (ka11) kp_22 (by decide))
    have p_36 := (BQ.kp (ka12) kp_22 (by decide))
    have p_37 := (BY.kp (ka13) kp_22 (by decide) (by decide))
    have p_38 := (BQ.kp (ka14) kp_22 (by decide))
    have p_39 := (BQ.kp (ka15) kp_22 (by decide))
    have p_40 := (BQ.kp (ka16) kp_22 (by decide))
    have p_41 := (BY.kp (ka17) kp_22 (by decide) (by decide))
    have p_42 := (BY.kp (ka18) kp_22 (by decide) (by decide))
    by_cases hd_22 : dec (nB lt 32)
    · rw [if_pos hd_22]
      refine T_eq (pc' := 38) (L' := [(0, .ref 61)]) (st' := [.int (nI 1)]) (M' := M_22) rfl rfl rfl rfl ?_
      refine N_if_eq_f (b := 1) d_PG_times_38 (tgt := 45) rfl (by omega) (by omega) ?_
      exact absurd ⟨Nat.le_of_not_lt h9, hd_22⟩ hno
    · rw [if_neg hd_22]
      refine T_eq (pc' := 38) (L' := [(0, .ref 61)]) (st' := [.int (nI 0)]) (M' := M_22) rfl rfl rfl rfl ?_
      refine N_if_eq_t (b := 0) d_PG_times_38 (tgt := 45) rfl (by omega) (by omega) ?_
      refine T_iconst (v := nI 0) d_PG_times_45 (by decide) ?_
      refine T_istore_n (L' := [(1, .int (nI 0)), (0, .ref 61)]) d_PG_times_46 (by decide) rfl ?_
      refine T_iload_n d_PG_times_47 rfl ?_
      refine N_if_eq_t (b := 0) d_PG_times_48 (tgt := 112) rfl (by omega) (by omega) ?_
      refine T_aload_n (v := .ref 61) d_PG_times_112 rfl (Or.inr ⟨_, rfl⟩) ?_
      have h_43 := (kp_22 61 (by decide)).trans (hgo.1)
      refine T_getfield (v := .ref 369) d_PG_times_113 fg_PG_42 h_43 rfl ?_
      have h_45 := (kp_22 369 (by decide)).trans (htx.1)
      refine T_virtual (as := []) (rest := []) (b := 369) d_PG_times_116 rfl (jw_By_clear.jo (by decide)) lm_PG_71 ji_By_clear js_By_clear h_45 rfl rfl rfl (Nat.le_of_ble_eq_true rfl) (by decide) (by decide) (y_By_clear p_24 (by decide)) (fun r M_44 hq => ?_)
      obtain ⟨rfl, p_44_0, kp_44⟩ := hq
      refine T_eq (pc' := 119) (L' := [(1, .int (nI 0)), (0, .ref 61)]) (st' := []) (M' := M_44) rfl rfl rfl rfl ?_
      refine T_iload_n d_PG_times_119 rfl ?_
      refine N_if_eq_t (b := 0) d_PG_times_120 (tgt := 133) rfl (by omega) (by omega) ?_
      refine T_iconst (v := (-1)) d_PG_times_133 (by decide) ?_
      have p_46 := (KO.kp (p_26) kp_44 (by decide))
      have p_47 := (DQ.kp (p_27) kp_44 (by decide) (by decide) (by decide))
      have p_48 := (KY.kp (p_28) kp_44 (by decide))
      have p_49 := (CU.kp (p_22a) kp_44 (by decide))
      have p_50 := (SCS.kp (p_29) kp_44 (by decide))
      have p_51 := (PQ.kp (p_22c) kp_44 (by decide) (by decide) (by decide) (by decide) (by decide))
      have p_52 := (PQ.kp (p_30) kp_44 (by decide) (by decide) (by decide) (by decide) (by decide))
      have p_53 := (PQ.kp (p_31) kp_44 (by decide) (by decide) (by decide) (by decide) (by decide))
      have p_54 := (BQ.kp (p_32) kp_44 (by decide))
      have p_55 := (BQ.kp (p_33) kp_44 (by decide))
      have p_56 := (BQ.kp (p_34) kp_44 (by decide))
      have p_57 := (BQ.kp (p_35) kp_44 (by decide))
      have p_58 := (BQ.kp (p_36) kp_44 (by decide))
      have p_59 := (BY.kp (p_37) kp_44 (by decide) (by decide))
      have p_60 := (BQ.kp (p_38) kp_44 (by decide))
      have p_61 := (BQ.kp (p_39) kp_44 (by decide))
      have p_62 := (BQ.kp (p_40) kp_44 (by decide))
      have p_63 := (BY.kp (p_41) kp_44 (by decide) (by decide))
      have p_64 := (BY.kp (p_42) kp_44 (by decide) (by decide))
      have p_65 := (BY.kp (p_25) kp_44 (by decide) (by decide))
      exact T_ret d_PG_times_134 rfl rfl (by decide) (by decide) ⟨rfl, ⟨p_46, p_47, p_48, p_49, p_50, p_51, p_52, p_53, p_54, p_55, p_56, p_57, p_58, ⟨_, p_59⟩, p_60, p_61, p_62, ⟨_, p_63⟩, ⟨_, p_64⟩⟩, p_44_0, p_65, (KR.tr (KR.tr KR.rf kp_22 ((by decide +kernel : ∀ q ∈ [189, 190, 191, 192, 77, 78, 79, 80, 81, 82, 83, 84, 85, 86, 87, 88, 89, 90, 91, 92, 93, 94, 95, 96, 97, 98, 99, 100, 101, 102, 103, 104, 105, 106, 107, 108, 109, 110, 111, 112, 113, 114, 115, 116, 117, 118, 119, 120, 121, 122, 123, 124, 125, 126, 127, 128, 129, 130, 131, 132, 133, 134, 135, 136, 137, 138, 139, 140, 141, 142, 143, 144, 145, 146, 147, 148, 149, 150, 151, 152, 153, 154, 155, 156, 157, 158, 159, 160, 161, 162, 163, 164, 165, 166, 167, 168, 169, 170, 171, 172, 173, 174, 175, 176, 177, 178, 179, 180, 181, 182], InP q))) kp_44 ((by decide +kernel : ∀ q ∈ [369], InP q)))⟩
abbrev InE (u q : Nat) : Prop := InG u q ∨ q = 369
abbrev InB (s q : Nat) : Prop := InR s q ∨ q = 369
abbrev InT (q : Nat) : Prop := q = 369
theorem InG_E {u : Nat} (q : Nat) (h : InG u q) : InE u q := Or.inl h
theorem InR_B {s : Nat} (q : Nat) (h : InR s q) : InB s q := Or.inl h
theorem InS_S {s : Nat} (q : Nat) (h : InS s q) : InS s q := h
theorem InX_X {s : Nat} (q : Nat) (h : InX s q) : InX s q := h
theorem InX_Z {s : Nat} (q : Nat) (h : InX s q) : InZ s q := by omega
theorem InR_Z {s : Nat} (q : Nat) (h : InR s q) : InZ s q := by omega
noncomputable def recS (sd : Int32) (ch u : Nat) (lt : List UInt8) : List UInt8 := recN sd (sec8 lt (emul fD (grp lt) (leN (lbN (usK sd u)) 32))) (sl (chance sd (nI ch)) 0 32)
theorem recS_len (sd : Int32) (ch u : Nat) (lt : List UInt8) : (recS sd ch u lt).length = 192 := recN_len (sl_len _ _ _)
set_option maxHeartbeats 8000000 in
theorem y_PG_enroll_in {G : GX} {M : List va_E} {sd : Int32} {ch u : Nat} {lt lr : List UInt8} (hu : u < 8) (hgo : GO M 61 264) (hks : KS M sd ch) (hvs : SVS M) (hsv : SVD M sd) (htx : BY M 369 370 200 lt) (hrc : BY M (248 + 2 * u) (249 + 2 * u) 192 lr) : CT G mi_PG_enroll [.ref 61, .int (nI u)] M (fun r M' => r = some (.int (nI 0)) ∧ KS M' sd (ch + 1) ∧ SVS M' ∧ SVO M' sd ∧ BY M' (248 + 2 * u) (249 + 2 * u) 192 (recS sd ch u lt) ∧ BY M' 369 370 200 [] ∧ KR (InE u) M M') := by
  obtain ⟨ka0, ka1, ka2, ka3, ka4, ka5, ka6, ka7, ka8, ka9, ka10, ka11, ka12, ⟨kl13, ka13⟩, ka14, ka15, ka16, ⟨kl17, ka17⟩, ⟨kl18, ka18⟩⟩ := id hks
  obtain ⟨va0, ⟨vl1, va1⟩, ⟨vl2, va2⟩, ⟨vl3, va3⟩, ⟨vl4, va4⟩, va5, va6, va7⟩ := id hvs
  refine CT.of (by decide) (Nat.le_of_ble_eq_true rfl) ?_
  show TT G mi_PG_enroll 0 [(0, .ref 61), (1, .int (nI u))] [] M 0 0 _
  refine T_iload_n d_PG_enroll_0 rfl ?_
  refine T_static (as := [.int (nI u)]) (rest := []) d_PG_enroll_1 rfl (jw_PG_isUser.jo (by decide)) lm_PG_126 jt_PG_isUser rfl (Nat.le_of_ble_eq_true rfl) (by decide) (by decide) (y_PG_isUser_in hu) (fun r M_1 hq => ?_)
  obtain ⟨rfl, he⟩ := hq
  obtain rfl := he.symm
  refine T_eq (pc' := 4) (L' := [(0, .ref 61), (1, .int (nI u))]) (st' := [.int (nI 1)]) (M' := M) rfl rfl rfl rfl ?_
  refine T_istore_n (L' := [(2, .int (nI 1)), (0, .ref 61), (1, .int (nI u))]) d_PG_enroll_4 (by decide) rfl ?_
  refine T_iload_n d_PG_enroll_5 rfl ?_
  refine N_if_eq_f (b := 1) d_PG_enroll_6 (tgt := 25) rfl (by omega) (by omega) ?_
  refine T_aload_n (v := .ref 61) d_PG_enroll_9 rfl (Or.inr ⟨_, rfl⟩) ?_
  refine T_getfield (v := .ref 231) d_PG_enroll_10 fg_PG_28 hgo.1 rfl ?_
  refine T_aload_n (v := .ref 61) d_PG_enroll_13 rfl (Or.inr ⟨_, rfl⟩) ?_
  refine T_getfield (v := .ref 62) d_PG_enroll_14 fg_PG_12 hgo.1 rfl ?_
  refine T_iload_n d_PG_enroll_17 rfl ?_
  refine T_aload_n (v := .ref 61) d_PG_enroll_18 rfl (Or.inr ⟨_, rfl⟩) ?_
  refine T_getfield (v := .ref 369) d_PG_enroll_19 fg_PG_42 hgo.1 rfl ?_
  have cK_2 : KS M sd ch := ⟨ka0, ka1, ka2, ka3, ka4, ka5, ka6, ka7, ka8, ka9, ka10, ka11, ka12, ⟨_, ka13⟩, ka14, ka15, ka16, ⟨_, ka17⟩, ⟨_, ka18⟩⟩
  have cV_4 : SVS M := ⟨va0, ⟨_, va1⟩, ⟨_, va2⟩, ⟨_, va3⟩, ⟨_, va4⟩, va5, va6, va7⟩
  refine T_virtual (as := [.ref 62, .int (nI u), .ref 369]) (rest := []) (b := 231) d_PG_enroll_22 rfl (jw_Se_register.jo (by decide)) lm_PG_129 ji_Se_register js_Se_register va0.1 rfl rfl rfl (Nat.le_of_ble_eq_true rfl) (by decide) (by decide) (y_Se_register hu rfl rfl rfl cK_2 cV_4 hsv htx hrc) (fun r M_3 hq => ?_)
  obtain ⟨rfl, k_3, v_3, ⟨v1_3, v2_3, v3_3⟩, g_3, ⟨W_3, kp_3, hW_3⟩⟩ := hq
  obtain ⟨k3a0, k3a1, k3a2, k3a3, k3a4, k3a5, k3a6, k3a7, k3a8, k3a9, k3a10, k3a11, k3a12, ⟨k3l13, k3a13⟩, k3a14, k3a15, k3a16, ⟨k3l17, k3a17⟩, ⟨k3l18, k3a18⟩⟩ := id k_3
  obtain ⟨v3a0, ⟨v3l1, v3a1⟩, ⟨v3l2, v3a2⟩, ⟨v3l3, v3a3⟩, ⟨v3l4, v3a4⟩, v3a5, v3a6, v3a7⟩ := id v_3
  refine T_eq (pc' := 25) (L' := [(2, .int (nI 1)), (0, .ref 61), (1, .int (nI u))]) (st' := []) (M' := M_3) rfl rfl rfl rfl ?_
  refine T_aload_n (v := .ref 61) d_PG_enroll_25 rfl (Or.inr ⟨_, rfl⟩) ?_
  have p_5 := (GO.kp (hgo) kp_3 (kr_ni hW_3 ((by decide : ∀ u, u < 8 → ¬ InG u 61) u hu)) (kr_ni hW_3 ((by decide : ∀ u, u < 8 → ¬ InG u 264) u hu)))
  refine T_getfield (v := .ref 369) d_PG_enroll_26 fg_PG_42 p_5.1 rfl ?_
  have p_6 := (BY.kp (htx) kp_3 (kr_ni hW_3 ((by decide : ∀ u, u < 8 → ¬ InG u 369) u hu)) (kr_ni hW_3 ((by decide : ∀ u, u < 8 → ¬ InG u 370) u hu)))
  refine T_virtual (as := []) (rest := []) (b := 369) d_PG_enroll_29 rfl (jw_By_clear.jo (by decide)) lm_PG_71 ji_By_clear js_By_clear p_6.1 rfl rfl rfl (Nat.le_of_ble_eq_true rfl) (by decide) (by decide) (y_By_clear p_6 (by decide)) (fun r M_7 hq => ?_)
  obtain ⟨rfl, p_7_0, kp_7⟩ := hq
  refine T_eq (pc' := 32) (L' := [(2, .int (nI 1)), (0, .ref 61), (1, .int (nI u))]) (st' := []) (M' := M_7) rfl rfl rfl rfl ?_
  refine T_iload_n d_PG_enroll_32 rfl ?_
  refine N_if_eq_f (b := 1) d_PG_enroll_33 (tgt := 40) rfl (by omega) (by omega) ?_
  refine T_iconst (v := nI 0) d_PG_enroll_36 (by decide) ?_
  refine T_goto (tgt := 41) d_PG_enroll_37 rfl ?_
  have p_8 := (KO.kp (k3a0) kp_7 (by decide))
  have p_9 := (DQ.kp (k3a1) kp_7 (by decide) (by decide) (by decide))
  have p_10 := (KY.kp (k3a2) kp_7 (by decide))
  have p_11 := (CU.kp (k3a3) kp_7 (by decide))
  have p_12 := (SCS.kp (k3a4) kp_7 (by decide))
  have p_13 := (PQ.kp (k3a5) kp_7 (by decide) (by decide) (by decide) (by decide) (by decide))
  have p_14 := (PQ.kp (k3a6) kp_7 (by decide) (by decide) (by decide) (by decide) (by decide))
  have p_15 := (PQ.kp (k3a7) kp_7 (by decide) (by decide) (by decide) (by decide) (by decide))
  have p_16 := (BQ.kp (k3a8) kp_7 (by decide))
  have p_17 := (BQ.kp (k3a9) kp_7 (by decide))
  have p_18 := (BQ.kp (k3a10) kp_7 (by decide))
  have p_19 := (BQ.kp (k3a11) kp_7 (by decide))
  have p_20 := (BQ.kp (k3a12) kp_7 (by decide))
  have p_21 := (BY.kp (k3a13) kp_7 (by decide) (by decide))
  have p_22 := (BQ.kp (k3a14) kp_7 (by decide))
  have p_23 := (BQ.kp (k3a15) kp_7 (by decide))
  have p_24 := (BQ.kp (k3a16) kp_7 (by decide))
  have p_25 := (BY.kp (k3a17) kp_7 (by decide) (by decide))
  have p_26 := (BY.kp (k3a18) kp_7 (by decide) (by decide))
  have p_27 := (VO.kp (v3a0) kp_7 (by decide) (by decide))
  have p_28 := (BY.kp (v3a1) kp_7 (by decide) (by decide))
  have p_29 := (BY.kp (v3a2) kp_7 (by decide) (by decide))
  have p_30 := (BY.kp (v3a3) kp_7 (by decide) (by decide))
  have p_31 := (BY.kp (v3a4) kp_7 (by decide) (by decide))
  have p_32 := (BQ.kp (v3a5) kp_7 (by decide))
  have p_33 := (BQ.kp (v3a6) kp_7 (by decide))
  have p_34 := (BQ.kp (v3a7) kp_7 (by decide))
  have p_35 := (BA.kp (v1_3) kp_7 (by decide))
  have p_36 := (BA.kp (v2_3) kp_7 (by decide))
  have p_37 := (BY.kp (v3_3) kp_7 (by decide) (by decide))
  have p_38 := (BY.kp (g_3) kp_7 ((by decide : ∀ u, u < 8 → (248 + 2 * u) ∉ [369]) u hu) ((by decide : ∀ u, u < 8 → (249 + 2 * u) ∉ [369]) u hu))
  exact T_ret d_PG_enroll_41 rfl rfl (by decide) (by decide) ⟨rfl, ⟨p_8, p_9, p_10, p_11, p_12, p_13, p_14, p_15, p_16, p_17, p_18, p_19, p_20, ⟨_, p_21⟩, p_22, p_23, p_24, ⟨_, p_25⟩, ⟨_, p_26⟩⟩, ⟨p_27, ⟨_, p_28⟩, ⟨_, p_29⟩, ⟨_, p_30⟩, ⟨_, p_31⟩, p_32, p_33, p_34⟩, ⟨p_35, p_36, p_37⟩, p_38, p_7_0, (KR.tr (KR.tr KR.rf kp_3 (fun q hq => InG_E q (hW_3 q hq))) kp_7 ((by decide +kernel : ∀ u, u < 8 → ∀ q ∈ [369], InE u q) u hu))⟩
set_option maxHeartbeats 8000000 in
theorem y_PG_enroll_neg {G : GX} {M : List va_E} {x : Int32} {lt : List UInt8} (hx : x < 0) (hgo : GO M 61 264) (htx : BY M 369 370 200 lt) : CT G mi_PG_enroll [.ref 61, .int x] M (fun r M' => r = some (.int (-1)) ∧ BY M' 369 370 200 [] ∧ KR InT M M') := by
  refine CT.of (by decide) (Nat.le_of_ble_eq_true rfl) ?_
  show TT G mi_PG_enroll 0 [(0, .ref 61), (1, .int x)] [] M 0 0 _
  refine T_iload_n d_PG_enroll_0 rfl ?_
  refine T_static (as := [.int x]) (rest := []) d_PG_enroll_1 rfl (jw_PG_isUser.jo (by decide)) lm_PG_126 jt_PG_isUser rfl (Nat.le_of_ble_eq_true rfl) (by decide) (by decide) (y_PG_isUser_neg hx) (fun r M_1 hq => ?_)
  obtain ⟨rfl, he⟩ := hq
  obtain rfl := he.symm
  refine T_eq (pc' := 4) (L' := [(0, .ref 61), (1, .int x)]) (st' := [.int (nI 0)]) (M' := M) rfl rfl rfl rfl ?_
  refine T_istore_n (L' := [(2, .int (nI 0)), (0, .ref 61), (1, .int x)]) d_PG_enroll_4 (by decide) rfl ?_
  refine T_iload_n d_PG_enroll_5 rfl ?_
  refine N_if_eq_t (b := 0) d_PG_enroll_6 (tgt := 25) rfl (by omega) (by omega) ?_
  refine T_aload_n (v := .ref 61) d_PG_enroll_25 rfl (Or.inr ⟨_, rfl⟩) ?_
  refine T_getfield (v := .ref 369) d_PG_enroll_26 fg_PG_42 hgo.1 rfl ?_
  refine T_virtual (as := []) (rest := []) (b := 369) d_PG_enroll_29 rfl (jw_By_clear.jo (by decide)) lm_PG_71 ji_By_clear js_By_clear htx.1 rfl rfl rfl (Nat.le_of_ble_eq_true rfl) (by decide) (by decide) (y_By_clear htx (by decide)) (fun r M_2 hq => ?_)
  obtain ⟨rfl, p_2_0, kp_2⟩ := hq
  refine T_eq (pc' := 32) (L' := [(2, .int (nI 0)), (0, .ref 61), (1, .int x)]) (st' := []) (M' := M_2) rfl rfl rfl rfl ?_
  refine T_iload_n d_PG_enroll_32 rfl ?_
  refine N_if_eq_t (b := 0) d_PG_enroll_33 (tgt := 40) rfl (by omega) (by omega) ?_
  refine T_iconst (v := (-1)) d_PG_enroll_40 (by decide) ?_
  exact T_ret d_PG_enroll_41 rfl rfl (by decide) (by decide) ⟨rfl, p_2_0, (KR.tr KR.rf kp_2 ((by decide +kernel : ∀ q ∈ [369], InT q)))⟩
set_option maxHeartbeats 8000000 in
theorem y_PG_enroll_big {G : GX} {M : List va_E} {x : Int32} {lt : List UInt8} (h0 : ¬ x < 0) (hx : nI 8 ≤ x) (hgo : GO M 61 264) (htx : BY M 369 370 200 lt) : CT G mi_PG_enroll [.ref 61, .int x] M (fun r M' => r = some (.int (-1)) ∧ BY M' 369 370 200 [] ∧ KR InT M M') := by
  refine CT.of (by decide) (Nat.le_of_ble_eq_true rfl) ?_
  show TT G mi_PG_enroll 0 [(0, .ref 61), (1, .int x)] [] M 0 0 _
  refine T_iload_n d_PG_enroll_0 rfl ?_
  refine T_static (as := [.int x]) (rest := []) d_PG_enroll_1 rfl (jw_PG_isUser.jo (by decide)) lm_PG_126 jt_PG_isUser rfl (Nat.le_of_ble_eq_true rfl) (by decide) (by decide) (y_PG_isUser_big h0 hx) (fun r M_1 hq => ?_)
  obtain ⟨rfl, he⟩ := hq
  obtain rfl := he.symm
  refine T_eq (pc' := 4) (L' := [(0, .ref 61), (1, .int x)]) (st' := [.int (nI 0)]) (M' := M) rfl rfl rfl rfl ?_
  refine T_istore_n (L' := [(2, .int (nI 0)), (0, .ref 61), (1, .int x)]) d_PG_enroll_4 (by decide) rfl ?_
  refine T_iload_n d_PG_enroll_5 rfl ?_
  refine N_if_eq_t (b := 0) d_PG_enroll_6 (tgt := 25) rfl (by omega) (by omega) ?_
  refine T_aload_n (v := .ref 61) d_PG_enroll_25 rfl (Or.inr ⟨_, rfl⟩) ?_
  refine T_getfield (v := .ref 369) d_PG_enroll_26 fg_PG_42 hgo.1 rfl ?_
  refine T_virtual (as := []) (rest := []) (b := 369) d_PG_enroll_29 rfl (jw_By_clear.jo (by decide)) lm_PG_71 ji_By_clear js_By_clear htx.1 rfl rfl rfl (Nat.le_of_ble_eq_true rfl) (by decide) (by decide) (y_By_clear htx (by decide)) (fun r M_2 hq => ?_)
  obtain ⟨rfl, p_2_0, kp_2⟩ := hq
  refine T_eq (pc' := 32) (L' := [(2, .int (nI 0)), (0, .ref 61), (1, .int x)]) (st' := []) (M' := M_2) rfl rfl rfl rfl ?_
  refine T_iload_n d_PG_enroll_32 rfl ?_
  refine N_if_eq_t (b := 0) d_PG_enroll_33 (tgt := 40) rfl (by omega) (by omega) ?_
  refine T_iconst (v := (-1)) d_PG_enroll_40 (by decide) ?_
  exact T_ret d_PG_enroll_41 rfl rfl (by decide) (by decide) ⟨rfl, p_2_0, (KR.tr KR.rf kp_2 ((by decide +kernel : ∀ q ∈ [369], InT q)))⟩
theorem sb_hi {s : Nat} (h : s < 4) : 290 + 26 * s < 369 := by omega
set_option maxHeartbeats 8000000 in
theorem y_PG_begin_in {G : GX} {M : List va_E} {sd : Int32} {ch u : Nat} {s us b x : Nat} {t : Nat → Bool} {C : List (List UInt8)} {lt : List UInt8} (hs : s < 4) (hu : u < 8) (hgo : GO M 61 264) (hks : KS M sd ch) (hse : SES M s us t C b x) (htx : BY M 369 370 200 lt) : CT G mi_PG_begin [.ref 61, .int (nI s), .int (nI u)] M (fun r M' => r = some (.int (nI 0)) ∧ KS M' sd (ch + 3) ∧ SES M' s u (fun _ => false) [msg1 sd ch lt, [], [], [], [], [], cg C 6, cg C 7, lt, msg1 sd ch lt] (scal (chance sd (nI ch))) (scal (chance sd (nI (ch + 2)))) ∧ BY M' 369 370 200 [] ∧ KR (InB s) M M') := by
  obtain ⟨ka0, ka1, ka2, ka3, ka4, ka5, ka6, ka7, ka8, ka9, ka10, ka11, ka12, ⟨kl13, ka13⟩, ka14, ka15, ka16, ⟨kl17, ka17⟩, ⟨kl18, ka18⟩⟩ := id hks
  obtain ⟨ea0, ea1, ea2, ea3, ea4, ea5, ea6, ea7, ea8, ea9, ea10, ea11, ⟨el12, ea12⟩, ea13, ea14⟩ := id hse
  refine CT.of (by decide) (Nat.le_of_ble_eq_true rfl) ?_
  show TT G mi_PG_begin 0 [(0, .ref 61), (1, .int (nI s)), (2, .int (nI u))] [] M 0 0 _
  refine T_iload_n d_PG_begin_0 rfl ?_
  refine T_static (as := [.int (nI s)]) (rest := []) d_PG_begin_1 rfl (jw_PG_isSession.jo (by decide)) lm_PG_133 jt_PG_isSession rfl (Nat.le_of_ble_eq_true rfl) (by decide) (by decide) (y_PG_isSession_in hs) (fun r M_1 hq => ?_)
  obtain ⟨rfl, he⟩ := hq
  obtain rfl := he.symm
  refine T_eq (pc' := 4) (L' := [(0, .ref 61), (1, .int (nI s)), (2, .int (nI u))]) (st' := [.int (nI 1)]) (M' := M) rfl rfl rfl rfl ?_
  refine N_if_eq_f (b := 1) d_PG_begin_4 (tgt := 18) rfl (by omega) (by omega) ?_
  refine T_iload_n d_PG_begin_7 rfl ?_
  refine T_static (as := [.int (nI u)]) (rest := []) d_PG_begin_8 rfl (jw_PG_isUser.jo (by decide)) lm_PG_126 jt_PG_isUser rfl (Nat.le_of_ble_eq_true rfl) (by decide) (by decide) (y_PG_isUser_in hu) (fun r M_2 hq => ?_)
  obtain ⟨rfl, he⟩ := hq
  obtain rfl := he.symm
  refine T_eq (pc' := 11) (L' := [(0, .ref 61), (1, .int (nI s)), (2, .int (nI u))]) (st' := [.int (nI 1)]) (M' := M) rfl rfl rfl rfl ?_
  refine N_if_eq_f (b := 1) d_PG_begin_11 (tgt := 18) rfl (by omega) (by omega) ?_
  refine T_iconst (v := nI 1) d_PG_begin_14 (by decide) ?_
  refine T_goto (tgt := 19) d_PG_begin_15 rfl ?_
  refine T_istore_n (L' := [(3, .int (nI 1)), (0, .ref 61), (1, .int (nI s)), (2, .int (nI u))]) d_PG_begin_19 (by decide) rfl ?_
  refine T_iload_n d_PG_begin_20 rfl ?_
  refine N_if_eq_f (b := 1) d_PG_begin_21 (tgt := 42) rfl (by omega) (by omega) ?_
  refine T_aload_n (v := .ref 61) d_PG_begin_24 rfl (Or.inr ⟨_, rfl⟩) ?_
  refine T_getfield (v := .ref 264) d_PG_begin_25 fg_PG_34 hgo.1 rfl ?_
  refine T_iload_n d_PG_begin_28 rfl ?_
  refine N_aaload (k := s) (p := (265 + 26 * s)) (C0 := "PasswordGate$Session") d_PG_begin_29 (by decide) hgo.2 rfl (by omega) (by decide) (if_pos hs) ?_
  refine T_aload_n (v := .ref 61) d_PG_begin_30 rfl (Or.inr ⟨_, rfl⟩) ?_
  refine T_getfield (v := .ref 62) d_PG_begin_31 fg_PG_12 hgo.1 rfl ?_
  refine T_iload_n d_PG_begin_34 rfl ?_
  refine T_aload_n (v := .ref 61) d_PG_begin_35 rfl (Or.inr ⟨_, rfl⟩) ?_
  refine T_getfield (v := .ref 369) d_PG_begin_36 fg_PG_42 hgo.1 rfl ?_
  have cK_3 : KS M sd ch := ⟨ka0, ka1, ka2, ka3, ka4, ka5, ka6, ka7, ka8, ka9, ka10, ka11, ka12, ⟨_, ka13⟩, ka14, ka15, ka16, ⟨_, ka17⟩, ⟨_, ka18⟩⟩
  have cS_5 : SES M s us t C b x := ⟨ea0, ea1, ea2, ea3, ea4, ea5, ea6, ea7, ea8, ea9, ea10, ea11, ⟨_, ea12⟩, ea13, ea14⟩
  refine T_virtual (as := [.ref 62, .int (nI u), .ref 369]) (rest := []) (b := (265 + 26 * s)) d_PG_begin_39 rfl (jw_Ss_start.jo (by decide)) lm_PG_136 ji_Ss_start js_Ss_start ea0.1 rfl rfl rfl (Nat.le_of_ble_eq_true rfl) (by decide) (by decide) (y_Ss_start hs cK_3 cS_5 htx) (fun r M_4 hq => ?_)
  obtain ⟨rfl, k_4, se_4, ⟨W_4, kp_4, hW_4⟩⟩ := hq
  obtain ⟨k4a0, k4a1, k4a2, k4a3, k4a4, k4a5, k4a6, k4a7, k4a8, k4a9, k4a10, k4a11, k4a12, ⟨k4l13, k4a13⟩, k4a14, k4a15, k4a16, ⟨k4l17, k4a17⟩, ⟨k4l18, k4a18⟩⟩ := id k_4
  refine T_eq (pc' := 42) (L' := [(3, .int (nI 1)), (0, .ref 61), (1, .int (nI s)), (2, .int (nI u))]) (st' := []) (M' := M_4) rfl rfl rfl rfl ?_
  refine T_aload_n (v := .ref 61) d_PG_begin_42 rfl (Or.inr ⟨_, rfl⟩) ?_
  have p_6 := (GO.kp (hgo) kp_4 (kr_ni hW_4 ((by decide : ∀ s, s < 4 → ¬ InR s 61) s hs)) (kr_ni hW_4 ((by decide : ∀ s, s < 4 → ¬ InR s 264) s hs)))
  refine T_getfield (v := .ref 369) d_PG_begin_43 fg_PG_42 p_6.1 rfl ?_
  have p_7 := (BY.kp (htx) kp_4 (kr_ni hW_4 ((by decide : ∀ s, s < 4 → ¬ InR s 369) s hs)) (kr_ni hW_4 ((by decide : ∀ s, s < 4 → ¬ InR s 370) s hs)))
  refine T_virtual (as := []) (rest := []) (b := 369) d_PG_begin_46 rfl (jw_By_clear.jo (by decide)) lm_PG_71 ji_By_clear js_By_clear p_7.1 rfl rfl rfl (Nat.le_of_ble_eq_true rfl) (by decide) (by decide) (y_By_clear p_7 (by decide)) (fun r M_8 hq => ?_)
  obtain ⟨rfl, p_8_0, kp_8⟩ := hq
  refine T_eq (pc' := 49) (L' := [(3, .int (nI 1)), (0, .ref 61), (1, .int (nI s)), (2, .int (nI u))]) (st' := []) (M' := M_8) rfl rfl rfl rfl ?_
  refine T_iload_n d_PG_begin_49 rfl ?_
  refine N_if_eq_f (b := 1) d_PG_begin_50 (tgt := 57) rfl (by omega) (by omega) ?_
  refine T_iconst (v := nI 0) d_PG_begin_53 (by decide) ?_
  refine T_goto (tgt := 58) d_PG_begin_54 rfl ?_
  have p_9 := (KO.kp (k4a0) kp_8 (by decide))
  have p_10 := (DQ.kp (k4a1) kp_8 (by decide) (by decide) (by decide))
  have p_11 := (KY.kp (k4a2) kp_8 (by decide))
  have p_12 := (CU.kp (k4a3) kp_8 (by decide))
  have p_13 := (SCS.kp (k4a4) kp_8 (by decide))
  have p_14 := (PQ.kp (k4a5) kp_8 (by decide) (by decide) (by decide) (by decide) (by decide))
  have p_15 := (PQ.kp (k4a6) kp_8 (by decide) (by decide) (by decide) (by decide) (by decide))
  have p_16 := (PQ.kp (k4a7) kp_8 (by decide) (by decide) (by decide) (by decide) (by decide))
  have p_17 := (BQ.kp (k4a8) kp_8 (by decide))
  have p_18 := (BQ.kp (k4a9) kp_8 (by decide))
  have p_19 := (BQ.kp (k4a10) kp_8 (by decide))
  have p_20 := (BQ.kp (k4a11) kp_8 (by decide))
  have p_21 := (BQ.kp (k4a12) kp_8 (by decide))
  have p_22 := (BY.kp (k4a13) kp_8 (by decide) (by decide))
  have p_23 := (BQ.kp (k4a14) kp_8 (by decide))
  have p_24 := (BQ.kp (k4a15) kp_8 (by decide))
  have p_25 := (BQ.kp (k4a16) kp_8 (by decide))
  have p_26 := (BY.kp (k4a17) kp_8 (by decide) (by decide))
  have p_27 := (BY.kp (k4a18) kp_8 (by decide) (by decide))
  exact T_ret d_PG_begin_58 rfl rfl (by decide) (by decide) ⟨rfl, ⟨p_9, p_10, p_11, p_12, p_13, p_14, p_15, p_16, p_17, p_18, p_19, p_20, p_21, ⟨_, p_22⟩, p_23, p_24, p_25, ⟨_, p_26⟩, ⟨_, p_27⟩⟩, SES.kp se_4 kp_8 (fun q hq => Or.inr (by rw [List.mem_singleton.mp hq]; exact sb_hi hs)), p_8_0, (KR.tr (KR.tr KR.rf kp_4 (fun q hq => InR_B q (hW_4 q hq))) kp_8 ((by decide +kernel : ∀ s, s < 4 → ∀ q ∈ [369], InB s q) s hs))⟩
set_option maxHeartbeats 8000000 in
theorem y_PG_begin_sneg {G : GX} {M : List va_E} {lt : List UInt8} {x y : Int32} (hx : x < 0) (hgo : GO M 61 264) (htx : BY M 369 370 200 lt) : CT G mi_PG_begin [.ref 61, .int x, .int y] M (fun r M' => r = some (.int (-1)) ∧ BY M' 369 370 200 [] ∧ KR InT M M') := by
  refine CT.of (by decide) (Nat.le_of_ble_eq_true rfl) ?_
  show TT G mi_PG_begin 0 [(0, .ref 61), (1, .int x), (2, .int y)] [] M 0 0 _
  refine T_iload_n d_PG_begin_0 rfl ?_
  refine T_static (as := [.int x]) (rest := []) d_PG_begin_1 rfl (jw_PG_isSession.jo (by decide)) lm_PG_133 jt_PG_isSession rfl (Nat.le_of_ble_eq_true rfl) (by decide) (by decide) (y_PG_isSession_neg hx) (fun r M_1 hq => ?_)
  obtain ⟨rfl, he⟩ := hq
  obtain rfl := he.symm
  refine T_eq (pc' := 4) (L' := [(0, .ref 61), (1, .int x), (2, .int y)]) (st' := [.int (nI 0)]) (M' := M) rfl rfl rfl rfl ?_
  refine N_if_eq_t (b := 0) d_PG_begin_4 (tgt := 18) rfl (by omega) (by omega) ?_
  refine T_iconst (v := nI 0) d_PG_begin_18 (by decide) ?_
  refine T_istore_n (L' := [(3, .int (nI 0)), (0, .ref 61), (1, .int x), (2, .int y)]) d_PG_begin_19 (by decide) rfl ?_
  refine T_iload_n d_PG_begin_20 rfl ?_
  refine N_if_eq_t (b := 0) d_PG_begin_21 (tgt := 42) rfl (by omega) (by omega) ?_
  refine T_aload_n (v := .ref 61) d_PG_begin_42 rfl (Or.inr ⟨_, rfl⟩) ?_
  refine T_getfield (v := .ref 369) d_PG_begin_43 fg_PG_42 hgo.1 rfl ?_
  refine T_virtual (as := []) (rest := []) (b := 369) d_PG_begin_46 rfl (jw_By_clear.jo (by decide)) lm_PG_71 ji_By_clear js_By_clear htx.1 rfl rfl rfl (Nat.le_of_ble_eq_true rfl) (by decide) (by decide) (y_By_clear htx (by decide)) (fun r M_2 hq => ?_)
  obtain ⟨rfl, p_2_0, kp_2⟩ := hq
  refine T_eq (pc' := 49) (L' := [(3, .int (nI 0)), (0, .ref 61), (1, .int x), (2, .int y)]) (st' := []) (M' := M_2) rfl rfl rfl rfl ?_
  refine T_iload_n d_PG_begin_49 rfl ?_
  refine N_if_eq_t (b := 0) d_PG_begin_50 (tgt := 57) rfl (by omega) (by omega) ?_
  refine T_iconst (v := (-1)) d_PG_begin_57 (by decide) ?_
  exact T_ret d_PG_begin_58 rfl rfl (by decide) (by decide) ⟨rfl, p_2_0, (KR.tr KR.rf kp_2 ((by decide +kernel : ∀ q ∈ [369], InT q)))⟩
set_option maxHeartbeats 8000000 in
theorem y_PG_begin_sbig {G : GX} {M : List va_E} {lt : List UInt8} {x y : Int32} (h0 : ¬ x < 0) (hx : nI 4 ≤ x) (hgo : GO M 61 264) (htx : BY M 369 370 200 lt) : CT G mi_PG_begin [.ref 61, .int x, .int y] M (fun r M' => r = some (.int (-1)) ∧ BY M' 369 370 200 [] ∧ KR InT M M') := by
  refine CT.of (by decide) (Nat.le_of_ble_eq_true rfl) ?_
  show TT G mi_PG_begin 0 [(0, .ref 61), (1, .int x), (2, .int y)] [] M 0 0 _
  refine T_iload_n d_PG_begin_0 rfl ?_
  refine T_static (as := [.int x]) (rest := []) d_PG_begin_1 rfl (jw_PG_isSession.jo (by decide)) lm_PG_133 jt_PG_isSession rfl (Nat.le_of_ble_eq_true rfl) (by decide) (by decide) (y_PG_isSession_big h0 hx) (fun r M_1 hq => ?_)
  obtain ⟨rfl, he⟩ := hq
  obtain rfl := he.symm
  refine T_eq (pc' := 4) (L' := [(0, .ref 61), (1, .int x), (2, .int y)]) (st' := [.int (nI 0)]) (M' := M) rfl rfl rfl rfl ?_
  refine N_if_eq_t (b := 0) d_PG_begin_4 (tgt := 18) rfl (by omega) (by omega) ?_
  refine T_iconst (v := nI 0) d_PG_begin_18 (by decide) ?_
  refine T_istore_n (L' := [(3, .int (nI 0)), (0, .ref 61), (1, .int x), (2, .int y)]) d_PG_begin_19 (by decide) rfl ?_
  refine T_iload_n d_PG_begin_20 rfl ?_
  refine N_if_eq_t (b := 0) d_PG_begin_21 (tgt := 42) rfl (by omega) (by omega) ?_
  refine T_aload_n (v := .ref 61) d_PG_begin_42 rfl (Or.inr ⟨_, rfl⟩) ?_
  refine T_getfield (v := .ref 369) d_PG_begin_43 fg_PG_42 hgo.1 rfl ?_
  refine T_virtual (as := []) (rest := []) (b := 369) d_PG_begin_46 rfl (jw_By_clear.jo (by decide)) lm_PG_71 ji_By_clear js_By_clear htx.1 rfl rfl rfl (Nat.le_of_ble_eq_true rfl) (by decide) (by decide) (y_By_clear htx (by decide)) (fun r M_2 hq => ?_)
  obtain ⟨rfl, p_2_0, kp_2⟩ := hq
  refine T_eq (pc' := 49) (L' := [(3, .int (nI 0)), (0, .ref 61), (1, .int x), (2, .int y)]) (st' := []) (M' := M_2) rfl rfl rfl rfl ?_
  refine T_iload_n d_PG_begin_49 rfl ?_
  refine N_if_eq_t (b := 0) d_PG_begin_50 (tgt := 57) rfl (by omega) (by omega) ?_
  refine T_iconst (v := (-1)) d_PG_begin_57 (by decide) ?_
  exact T_ret d_PG_begin_58 rfl rfl (by decide) (by decide) ⟨rfl, p_2_0, (KR.tr KR.rf kp_2 ((by decide +kernel : ∀ q ∈ [369], InT q)))⟩
set_option maxHeartbeats 8000000 in
theorem y_PG_begin_uneg {G : GX} {M : List va_E} {lt : List UInt8} {s : Nat} {x : Int32} (hs : s < 4) (hx : x < 0) (hgo : GO M 61 264) (htx : BY M 369 370 200 lt) : CT G mi_PG_begin [.ref 61, .int (nI s), .int x] M (fun r M' => r = some (.int (-1)) ∧ BY M' 369 370 200 [] ∧ KR InT M M') := by
  refine CT.of (by decide) (Nat.le_of_ble_eq_true rfl) ?_
  show TT G mi_PG_begin 0 [(0, .ref 61), (1, .int (nI s)), (2, .int x)] [] M 0 0 _
  refine T_iload_n d_PG_begin_0 rfl ?_
  refine T_static (as := [.int (nI s)]) (rest := []) d_PG_begin_1 rfl (jw_PG_isSession.jo (by decide)) lm_PG_133 jt_PG_isSession rfl (Nat.le_of_ble_eq_true rfl) (by decide) (by decide) (y_PG_isSession_in hs) (fun r M_1 hq => ?_)
  obtain ⟨rfl, he⟩ := hq
  obtain rfl := he.symm
  refine T_eq (pc' := 4) (L' := [(0, .ref 61), (1, .int (nI s)), (2, .int x)]) (st' := [.int (nI 1)]) (M' := M) rfl rfl rfl rfl ?_
  refine N_if_eq_f (b := 1) d_PG_begin_4 (tgt := 18) rfl (by omega) (by omega) ?_
  refine T_iload_n d_PG_begin_7 rfl ?_
  refine T_static (as := [.int x]) (rest := []) d_PG_begin_8 rfl (jw_PG_isUser.jo (by decide)) lm_PG_126 jt_PG_isUser rfl (Nat.le_of_ble_eq_true rfl) (by decide) (by decide) (y_PG_isUser_neg hx) (fun r M_2 hq => ?_)
  obtain ⟨rfl, he⟩ := hq
  obtain rfl := he.symm
  refine T_eq (pc' := 11) (L' := [(0, .ref 61), (1, .int (nI s)), (2, .int x)]) (st' := [.int (nI 0)]) (M' := M) rfl rfl rfl rfl ?_
  refine N_if_eq_t (b := 0) d_PG_begin_11 (tgt := 18) rfl (by omega) (by omega) ?_
  refine T_iconst (v := nI 0) d_PG_begin_18 (by decide) ?_
  refine T_istore_n (L' := [(3, .int (nI 0)), (0, .ref 61), (1, .int (nI s)), (2, .int x)]) d_PG_begin_19 (by decide) rfl ?_
  refine T_iload_n d_PG_begin_20 rfl ?_
  refine N_if_eq_t (b := 0) d_PG_begin_21 (tgt := 42) rfl (by omega) (by omega) ?_
  refine T_aload_n (v := .ref 61) d_PG_begin_42 rfl (Or.inr ⟨_, rfl⟩) ?_
  refine T_getfield (v := .ref 369) d_PG_begin_43 fg_PG_42 hgo.1 rfl ?_
  refine T_virtual (as := []) (rest := []) (b := 369) d_PG_begin_46 rfl (jw_By_clear.jo (by decide)) lm_PG_71 ji_By_clear js_By_clear htx.1 rfl rfl rfl (Nat.le_of_ble_eq_true rfl) (by decide) (by decide) (y_By_clear htx (by decide)) (fun r M_3 hq => ?_)
  obtain ⟨rfl, p_3_0, kp_3⟩ := hq
  refine T_eq (pc' := 49) (L' := [(3, .int (nI 0)), (0, .ref 61), (1, .int (nI s)), (2, .int x)]) (st' := []) (M' := M_3) rfl rfl rfl rfl ?_
  refine T_iload_n d_PG_begin_49 rfl ?_
  refine N_if_eq_t (b := 0) d_PG_begin_50 (tgt := 57) rfl (by omega) (by omega) ?_
  refine T_iconst (v := (-1)) d_PG_begin_57 (by decide) ?_
  exact T_ret d_PG_begin_58 rfl rfl (by decide) (by decide) ⟨rfl, p_3_0, (KR.tr KR.rf kp_3 ((by decide +kernel : ∀ q ∈ [369], InT q)))⟩
set_option maxHeartbeats 8000000 in
theorem y_PG_begin_ubig {G : GX} {M : List va_E} {lt : List UInt8} {s : Nat} {x : Int32} (hs : s < 4) (h0 : ¬ x < 0) (hx : nI 8 ≤ x) (hgo : GO M 61 264) (htx : BY M 369 370 200 lt) : CT G mi_PG_begin [.ref 61, .int (nI s), .int x] M (fun r M' => r = some (.int (-1)) ∧ BY M' 369 370 200 [] ∧ KR InT M M') := by
  refine CT.of (by decide) (Nat.le_of_ble_eq_true rfl) ?_
  show TT G mi_PG_begin 0 [(0, .ref 61), (1, .int (nI s)), (2, .int x)] [] M 0 0 _
  refine T_iload_n d_PG_begin_0 rfl ?_
  refine T_static (as := [.int (nI s)]) (rest := []) d_PG_begin_1 rfl (jw_PG_isSession.jo (by decide)) lm_PG_133 jt_PG_isSession rfl (Nat.le_of_ble_eq_true rfl) (by decide) (by decide) (y_PG_isSession_in hs) (fun r M_1 hq => ?_)
  obtain ⟨rfl, he⟩ := hq
  obtain rfl := he.symm
  refine T_eq (pc' := 4) (L' := [(0, .ref 61), (1, .int (nI s)), (2, .int x)]) (st' := [.int (nI 1)]) (M' := M) rfl rfl rfl rfl ?_
  refine N_if_eq_f (b := 1) d_PG_begin_4 (tgt := 18) rfl (by omega) (by omega) ?_
  refine T_iload_n d_PG_begin_7 rfl ?_
  refine T_static (as := [.int x]) (rest := []) d_PG_begin_8 rfl (jw_PG_isUser.jo (by decide)) lm_PG_126 jt_PG_isUser rfl (Nat.le_of_ble_eq_true rfl) (by decide) (by decide) (y_PG_isUser_big h0 hx) (fun r M_2 hq => ?_)
  obtain ⟨rfl, he⟩ := hq
  obtain rfl := he.symm
  refine T_eq (pc' := 11) (L' := [(0, .ref 61), (1, .int (nI s)), (2, .int x)]) (st' := [.int (nI 0)]) (M' := M) rfl rfl rfl rfl ?_
  refine N_if_eq_t (b := 0) d_PG_begin_11 (tgt := 18) rfl (by omega) (by omega) ?_
  refine T_iconst (v := nI 0) d_PG_begin_18 (by decide) ?_
  refine T_istore_n (L' := [(3, .int (nI 0)), (0, .ref 61), (1, .int (nI s)), (2, .int x)]) d_PG_begin_19 (by decide) rfl ?_
  refine T_iload_n d_PG_begin_20 rfl ?_
  refine N_if_eq_t (b := 0) d_PG_begin_21 (tgt := 42) rfl (by omega) (by omega) ?_
  refine T_aload_n (v := .ref 61) d_PG_begin_42 rfl (Or.inr ⟨_, rfl⟩) ?_
  refine T_getfield (v := .ref 369) d_PG_begin_43 fg_PG_42 hgo.1 rfl ?_
  refine T_virtual (as := []) (rest := []) (b := 369) d_PG_begin_46 rfl (jw_By_clear.jo (by decide)) lm_PG_71 ji_By_clear js_By_clear htx.1 rfl rfl rfl (Nat.le_of_ble_eq_true rfl) (by decide) (by decide) (y_By_clear htx (by decide)) (fun r M_3 hq => ?_)
  obtain ⟨rfl, p_3_0, kp_3⟩ := hq
  refine T_eq (pc' := 49) (L' := [(3, .int (nI 0)), (0, .ref 61), (1, .int (nI s)), (2, .int x)]) (st' := []) (M' := M_3) rfl rfl rfl rfl ?_
  refine T_iload_n d_PG_begin_49 rfl ?_
  refine N_if_eq_t (b := 0) d_PG_begin_50 (tgt := 57) rfl (by omega) (by omega) ?_
  refine T_iconst (v := (-1)) d_PG_begin_57 (by decide) ?_
  exact T_ret d_PG_begin_58 rfl rfl (by decide) (by decide) ⟨rfl, p_3_0, (KR.tr KR.rf kp_3 ((by decide +kernel : ∀ q ∈ [369], InT q)))⟩
theorem y_PG_answer_neg {G : GX} {M : List va_E} {x : Int32} (hx : x < 0) : CT G mi_PG_answer [.ref 61, .int x] M (fun r M' => r = some (.int (-1)) ∧ M' = M) := by
  refine CT.of (by decide) (Nat.le_of_ble_eq_true rfl) ?_
  show TT G mi_PG_answer 0 [(0, .ref 61), (1, .int x)] [] M 0 0 _
  refine T_iload_n d_PG_answer_0 rfl ?_
  refine T_static (as := [.int x]) (rest := []) d_PG_answer_1 rfl (jw_PG_isSession.jo (by decide)) lm_PG_133 jt_PG_isSession rfl (Nat.le_of_ble_eq_true rfl) (by decide) (by decide) (y_PG_isSession_neg hx) (fun r M_1 hq => ?_)
  obtain ⟨rfl, he⟩ := hq
  obtain rfl := he.symm
  refine T_eq (pc' := 4) (L' := [(0, .ref 61), (1, .int x)]) (st' := [.int (nI 0)]) (M' := M) rfl rfl rfl rfl ?_
  refine N_if_ne_f (b := 0) d_PG_answer_4 (tgt := 9) rfl (by omega) (by omega) ?_
  refine T_iconst (v := (-1)) d_PG_answer_7 (by decide) ?_
  exact T_ret d_PG_answer_8 rfl rfl (by decide) (by decide) ⟨rfl, rfl⟩
theorem y_PG_answer_big {G : GX} {M : List va_E} {x : Int32} (h0 : ¬ x < 0) (hx : nI 4 ≤ x) : CT G mi_PG_answer [.ref 61, .int x] M (fun r M' => r = some (.int (-1)) ∧ M' = M) := by
  refine CT.of (by decide) (Nat.le_of_ble_eq_true rfl) ?_
  show TT G mi_PG_answer 0 [(0, .ref 61), (1, .int x)] [] M 0 0 _
  refine T_iload_n d_PG_answer_0 rfl ?_
  refine T_static (as := [.int x]) (rest := []) d_PG_answer_1 rfl (jw_PG_isSession.jo (by decide)) lm_PG_133 jt_PG_isSession rfl (Nat.le_of_ble_eq_true rfl) (by decide) (by decide) (y_PG_isSession_big h0 hx) (fun r M_1 hq => ?_)
  obtain ⟨rfl, he⟩ := hq
  obtain rfl := he.symm
  refine T_eq (pc' := 4) (L' := [(0, .ref 61), (1, .int x)]) (st' := [.int (nI 0)]) (M' := M) rfl rfl rfl rfl ?_
  refine N_if_ne_f (b := 0) d_PG_answer_4 (tgt := 9) rfl (by omega) (by omega) ?_
  refine T_iconst (v := (-1)) d_PG_answer_7 (by decide) ?_
  exact T_ret d_PG_answer_8 rfl rfl (by decide) (by decide) ⟨rfl, rfl⟩
theorem y_PG_finish_neg {G : GX} {M : List va_E} {x : Int32} (hx : x < 0) : CT G mi_PG_finish [.ref 61, .int x] M (fun r M' => r = some (.int (-1)) ∧ M' = M) := by
  refine CT.of (by decide) (Nat.le_of_ble_eq_true rfl) ?_
  show TT G mi_PG_finish 0 [(0, .ref 61), (1, .int x)] [] M 0 0 _
  refine T_iload_n d_PG_finish_0 rfl ?_
  refine T_static (as := [.int x]) (rest := []) d_PG_finish_1 rfl (jw_PG_isSession.jo (by decide)) lm_PG_133 jt_PG_isSession rfl (Nat.le_of_ble_eq_true rfl) (by decide) (by decide) (y_PG_isSession_neg hx) (fun r M_1 hq => ?_)
  obtain ⟨rfl, he⟩ := hq
  obtain rfl := he.symm
  refine T_eq (pc' := 4) (L' := [(0, .ref 61), (1, .int x)]) (st' := [.int (nI 0)]) (M' := M) rfl rfl rfl rfl ?_
  refine N_if_ne_f (b := 0) d_PG_finish_4 (tgt := 9) rfl (by omega) (by omega) ?_
  refine T_iconst (v := (-1)) d_PG_finish_7 (by decide) ?_
  exact T_ret d_PG_finish_8 rfl rfl (by decide) (by decide) ⟨rfl, rfl⟩
theorem y_PG_finish_big {G : GX} {M : List va_E} {x : Int32} (h0 : ¬ x < 0) (hx : nI 4 ≤ x) : CT G mi_PG_finish [.ref 61, .int x] M (fun r M' => r = some (.int (-1)) ∧ M' = M) := by
  refine CT.of (by decide) (Nat.le_of_ble_eq_true rfl) ?_
  show TT G mi_PG_finish 0 [(0, .ref 61), (1, .int x)] [] M 0 0 _
  refine T_iload_n d_PG_finish_0 rfl ?_
  refine T_static (as := [.int x]) (rest := []) d_PG_finish_1 rfl (jw_PG_isSession.jo (by decide)) lm_PG_133 jt_PG_isSession rfl (Nat.le_of_ble_eq_true rfl) (by decide) (by decide) (y_PG_isSession_big h0 hx) (fun r M_1 hq => ?_)
  obtain ⟨rfl, he⟩ := hq
  obtain rfl := he.symm
  refine T_eq (pc' := 4) (L' := [(0, .ref 61), (1, .int x)]) (st' := [.int (nI 0)]) (M' := M) rfl rfl rfl rfl ?_
  refine N_if_ne_f (b := 0) d_PG_finish_4 (tgt := 9) rfl (by omega) (by omega) ?_
  refine T_iconst (v := (-1)) d_PG_finish_7 (by decide) ?_
  exact T_ret d_PG_finish_8 rfl rfl (by decide) (by decide) ⟨rfl, rfl⟩
theorem y_PG_accept_neg {G : GX} {M : List va_E} {x : Int32} (hx : x < 0) : CT G mi_PG_accept [.ref 61, .int x] M (fun r M' => r = some (.int (-1)) ∧ M' = M) := by
  refine CT.of (by decide) (Nat.le_of_ble_eq_true rfl) ?_
  show TT G mi_PG_accept 0 [(0, .ref 61), (1, .int x)] [] M 0 0 _
  refine T_iload_n d_PG_accept_0 rfl ?_
  refine T_static (as := [.int x]) (rest := []) d_PG_accept_1 rfl (jw_PG_isSession.jo (by decide)) lm_PG_133 jt_PG_isSession rfl (Nat.le_of_ble_eq_true rfl) (by decide) (by decide) (y_PG_isSession_neg hx) (fun r M_1 hq => ?_)
  obtain ⟨rfl, he⟩ := hq
  obtain rfl := he.symm
  refine T_eq (pc' := 4) (L' := [(0, .ref 61), (1, .int x)]) (st' := [.int (nI 0)]) (M' := M) rfl rfl rfl rfl ?_
  refine N_if_ne_f (b := 0) d_PG_accept_4 (tgt := 9) rfl (by omega) (by omega) ?_
  refine T_iconst (v := (-1)) d_PG_accept_7 (by decide) ?_
  exact T_ret d_PG_accept_8 rfl rfl (by decide) (by decide) ⟨rfl, rfl⟩
theorem y_PG_accept_big {G : GX} {M : List va_E} {x : Int32} (h0 : ¬ x < 0) (hx : nI 4 ≤ x) : CT G mi_PG_accept [.ref 61, .int x] M (fun r M' => r = some (.int (-1)) ∧ M' = M) := by
  refine CT.of (by decide) (Nat.le_of_ble_eq_true rfl) ?_
  show TT G mi_PG_accept 0 [(0, .ref 61), (1, .int x)] [] M 0 0 _
  refine T_iload_n d_PG_accept_0 rfl ?_
  refine T_static (as := [.int x]) (rest := []) d_PG_accept_1 rfl (jw_PG_isSession.jo (by decide)) lm_PG_133 jt_PG_isSession rfl (Nat.le_of_ble_eq_true rfl) (by decide) (by decide) (y_PG_isSession_big h0 hx) (fun r M_1 hq => ?_)
  obtain ⟨rfl, he⟩ := hq
  obtain rfl := he.symm
  refine T_eq (pc' := 4) (L' := [(0, .ref 61), (1, .int x)]) (st' := [.int (nI 0)]) (M' := M) rfl rfl rfl rfl ?_
  refine N_if_ne_f (b := 0) d_PG_accept_4 (tgt := 9) rfl (by omega) (by omega) ?_
  refine T_iconst (v := (-1)) d_PG_accept_7 (by decide) ?_
  exact T_ret d_PG_accept_8 rfl rfl (by decide) (by decide) ⟨rfl, rfl⟩
set_option maxHeartbeats 8000000 in
theorem y_PG_answer_idle {G : GX} {M : List va_E} {s us b x : Nat} {t : Nat → Bool} {C : List (List UInt8)} (hs : s < 4) (hdue : (decide (cg C 0 ≠ []) && !t 0) = false) (hgo : GO M 61 264) (hse : SES M s us t C b x) : CT G mi_PG_answer [.ref 61, .int (nI s)] M (fun r M' => r = some (.int (nI 2)) ∧ SES M' s us t C b x ∧ KR (InS s) M M') := by
  obtain ⟨ea0, ea1, ea2, ea3, ea4, ea5, ea6, ea7, ea8, ea9, ea10, ea11, ⟨el12, ea12⟩, ea13, ea14⟩ := id hse
  have b0 : bN false = 0 := rfl
  refine CT.of (by decide) (Nat.le_of_ble_eq_true rfl) ?_
  show TT G mi_PG_answer 0 [(0, .ref 61), (1, .int (nI s))] [] M 0 0 _
  refine T_iload_n d_PG_answer_0 rfl ?_
  refine T_static (as := [.int (nI s)]) (rest := []) d_PG_answer_1 rfl (jw_PG_isSession.jo (by decide)) lm_PG_133 jt_PG_isSession rfl (Nat.le_of_ble_eq_true rfl) (by decide) (by decide) (y_PG_isSession_in hs) (fun r M_1 hq => ?_)
  obtain ⟨rfl, he⟩ := hq
  obtain rfl := he.symm
  refine T_eq (pc' := 4) (L' := [(0, .ref 61), (1, .int (nI s))]) (st' := [.int (nI 1)]) (M' := M) rfl rfl rfl rfl ?_
  refine N_if_ne_t (b := 1) d_PG_answer_4 (tgt := 9) rfl (by omega) (by omega) ?_
  refine T_aload_n (v := .ref 61) d_PG_answer_9 rfl (Or.inr ⟨_, rfl⟩) ?_
  refine T_getfield (v := .ref 264) d_PG_answer_10 fg_PG_34 hgo.1 rfl ?_
  refine T_iload_n d_PG_answer_13 rfl ?_
  refine N_aaload (k := s) (p := (265 + 26 * s)) (C0 := "PasswordGate$Session") d_PG_answer_14 (by decide) hgo.2 rfl (by omega) (by decide) (if_pos hs) ?_
  refine T_astore_n (L' := [(2, .ref (265 + 26 * s)), (0, .ref 61), (1, .int (nI s))]) d_PG_answer_15 (by decide) rfl (Or.inr ⟨_, rfl⟩) ?_
  refine T_aload_n (v := .ref (265 + 26 * s)) d_PG_answer_16 rfl (Or.inr ⟨_, rfl⟩) ?_
  refine T_iconst (v := nI 0) d_PG_answer_17 (by decide) ?_
  refine T_virtual (as := [.int (nI 0)]) (rest := []) (b := (265 + 26 * s)) d_PG_answer_18 rfl (jw_Ss_take.jo (by decide)) lm_PG_139 ji_Ss_take js_Ss_take ea0.1 rfl rfl rfl (Nat.le_of_ble_eq_true rfl) (by decide) (by decide) (y_Ss_take_0 hs ea0 ea1 ea9) (fun r M_2 hq => ?_)
  obtain ⟨rfl, z_2, kp_2⟩ := hq
  rw [hdue] at z_2
  rw [hdue]
  refine T_eq (pc' := 21) (L' := [(2, .ref (265 + 26 * s)), (0, .ref 61), (1, .int (nI s))]) (st' := [.int (nI ((bN false)))]) (M' := M_2) rfl rfl rfl rfl ?_
  refine N_if_eq_t (b := (bN false)) d_PG_answer_21 (tgt := 43) rfl (by omega) (by omega) ?_
  refine T_iconst (v := nI 2) d_PG_answer_43 (by decide) ?_
  have p_3 := (SO.kp (ea0) kp_2 ((by decide : ∀ s, s < 4 → (265 + 26 * s) ∉ [(270 + 26 * s)]) s hs) ((by decide : ∀ s, s < 4 → (266 + 26 * s) ∉ [(270 + 26 * s)]) s hs) ((by decide : ∀ s, s < 4 → (267 + 26 * s) ∉ [(270 + 26 * s)]) s hs))
  have p_4 := (BY.kp (ea1) kp_2 ((by decide : ∀ s, s < 4 → (279 + 26 * s) ∉ [(270 + 26 * s)]) s hs) ((by decide : ∀ s, s < 4 → (280 + 26 * s) ∉ [(270 + 26 * s)]) s hs))
  have p_5 := (BY.kp (ea2) kp_2 ((by decide : ∀ s, s < 4 → (281 + 26 * s) ∉ [(270 + 26 * s)]) s hs) ((by decide : ∀ s, s < 4 → (282 + 26 * s) ∉ [(270 + 26 * s)]) s hs))
  have p_6 := (BY.kp (ea3) kp_2 ((by decide : ∀ s, s < 4 → (283 + 26 * s) ∉ [(270 + 26 * s)]) s hs) ((by decide : ∀ s, s < 4 → (284 + 26 * s) ∉ [(270 + 26 * s)]) s hs))
  have p_7 := (BY.kp (ea4) kp_2 ((by decide : ∀ s, s < 4 → (285 + 26 * s) ∉ [(270 + 26 * s)]) s hs) ((by decide : ∀ s, s < 4 → (286 + 26 * s) ∉ [(270 + 26 * s)]) s hs))
  have p_8 := (BY.kp (ea5) kp_2 ((by decide : ∀ s, s < 4 → (287 + 26 * s) ∉ [(270 + 26 * s)]) s hs) ((by decide : ∀ s, s < 4 → (288 + 26 * s) ∉ [(270 + 26 * s)]) s hs))
  have p_9 := (BY.kp (ea6) kp_2 ((by decide : ∀ s, s < 4 → (289 + 26 * s) ∉ [(270 + 26 * s)]) s hs) ((by decide : ∀ s, s < 4 → (290 + 26 * s) ∉ [(270 + 26 * s)]) s hs))
  have p_10 := (BA.kp (ea7) kp_2 ((by decide : ∀ s, s < 4 → (268 + 26 * s) ∉ [(270 + 26 * s)]) s hs))
  have p_11 := (BA.kp (ea8) kp_2 ((by decide : ∀ s, s < 4 → (269 + 26 * s) ∉ [(270 + 26 * s)]) s hs))
  have p_12 := (BY.kp (ea10) kp_2 ((by decide : ∀ s, s < 4 → (271 + 26 * s) ∉ [(270 + 26 * s)]) s hs) ((by decide : ∀ s, s < 4 → (272 + 26 * s) ∉ [(270 + 26 * s)]) s hs))
  have p_13 := (BY.kp (ea11) kp_2 ((by decide : ∀ s, s < 4 → (273 + 26 * s) ∉ [(270 + 26 * s)]) s hs) ((by decide : ∀ s, s < 4 → (274 + 26 * s) ∉ [(270 + 26 * s)]) s hs))
  have p_14 := (BY.kp (ea12) kp_2 ((by decide : ∀ s, s < 4 → (275 + 26 * s) ∉ [(270 + 26 * s)]) s hs) ((by decide : ∀ s, s < 4 → (276 + 26 * s) ∉ [(270 + 26 * s)]) s hs))
  have p_15 := (BA.kp (ea13) kp_2 ((by decide : ∀ s, s < 4 → (277 + 26 * s) ∉ [(270 + 26 * s)]) s hs))
  have p_16 := (BA.kp (ea14) kp_2 ((by decide : ∀ s, s < 4 → (278 + 26 * s) ∉ [(270 + 26 * s)]) s hs))
  exact T_ret d_PG_answer_44 rfl rfl (by decide) (by decide) ⟨rfl, ⟨p_3, p_4, p_5, p_6, p_7, p_8, p_9, p_10, p_11, z_2, p_12, p_13, ⟨_, p_14⟩, p_15, p_16⟩, (KR.tr KR.rf kp_2 ((by decide +kernel : ∀ s, s < 4 → ∀ q ∈ [(270 + 26 * s)], InS s q) s hs))⟩
set_option maxHeartbeats 8000000 in
theorem y_PG_finish_idle {G : GX} {M : List va_E} {s us b x : Nat} {t : Nat → Bool} {C : List (List UInt8)} (hs : s < 4) (hdue : (decide (cg C 1 ≠ []) && !t 1) = false) (hgo : GO M 61 264) (hse : SES M s us t C b x) : CT G mi_PG_finish [.ref 61, .int (nI s)] M (fun r M' => r = some (.int (nI 2)) ∧ SES M' s us t C b x ∧ KR (InS s) M M') := by
  obtain ⟨ea0, ea1, ea2, ea3, ea4, ea5, ea6, ea7, ea8, ea9, ea10, ea11, ⟨el12, ea12⟩, ea13, ea14⟩ := id hse
  have b0 : bN false = 0 := rfl
  refine CT.of (by decide) (Nat.le_of_ble_eq_true rfl) ?_
  show TT G mi_PG_finish 0 [(0, .ref 61), (1, .int (nI s))] [] M 0 0 _
  refine T_iload_n d_PG_finish_0 rfl ?_
  refine T_static (as := [.int (nI s)]) (rest := []) d_PG_finish_1 rfl (jw_PG_isSession.jo (by decide)) lm_PG_133 jt_PG_isSession rfl (Nat.le_of_ble_eq_true rfl) (by decide) (by decide) (y_PG_isSession_in hs) (fun r M_1 hq => ?_)
  obtain ⟨rfl, he⟩ := hq
  obtain rfl := he.symm
  refine T_eq (pc' := 4) (L' := [(0, .ref 61), (1, .int (nI s))]) (st' := [.int (nI 1)]) (M' := M) rfl rfl rfl rfl ?_
  refine N_if_ne_t (b := 1) d_PG_finish_4 (tgt := 9) rfl (by omega) (by omega) ?_
  refine T_aload_n (v := .ref 61) d_PG_finish_9 rfl (Or.inr ⟨_, rfl⟩) ?_
  refine T_getfield (v := .ref 264) d_PG_finish_10 fg_PG_34 hgo.1 rfl ?_
  refine T_iload_n d_PG_finish_13 rfl ?_
  refine N_aaload (k := s) (p := (265 + 26 * s)) (C0 := "PasswordGate$Session") d_PG_finish_14 (by decide) hgo.2 rfl (by omega) (by decide) (if_pos hs) ?_
  refine T_astore_n (L' := [(2, .ref (265 + 26 * s)), (0, .ref 61), (1, .int (nI s))]) d_PG_finish_15 (by decide) rfl (Or.inr ⟨_, rfl⟩) ?_
  refine T_aload_n (v := .ref (265 + 26 * s)) d_PG_finish_16 rfl (Or.inr ⟨_, rfl⟩) ?_
  refine T_iconst (v := nI 1) d_PG_finish_17 (by decide) ?_
  refine T_virtual (as := [.int (nI 1)]) (rest := []) (b := (265 + 26 * s)) d_PG_finish_18 rfl (jw_Ss_take.jo (by decide)) lm_PG_139 ji_Ss_take js_Ss_take ea0.1 rfl rfl rfl (Nat.le_of_ble_eq_true rfl) (by decide) (by decide) (y_Ss_take_1 hs ea0 ea2 ea9) (fun r M_2 hq => ?_)
  obtain ⟨rfl, z_2, kp_2⟩ := hq
  rw [hdue] at z_2
  rw [hdue]
  refine T_eq (pc' := 21) (L' := [(2, .ref (265 + 26 * s)), (0, .ref 61), (1, .int (nI s))]) (st' := [.int (nI ((bN false)))]) (M' := M_2) rfl rfl rfl rfl ?_
  refine N_if_eq_t (b := (bN false)) d_PG_finish_21 (tgt := 39) rfl (by omega) (by omega) ?_
  refine T_iconst (v := nI 2) d_PG_finish_39 (by decide) ?_
  have p_3 := (SO.kp (ea0) kp_2 ((by decide : ∀ s, s < 4 → (265 + 26 * s) ∉ [(270 + 26 * s)]) s hs) ((by decide : ∀ s, s < 4 → (266 + 26 * s) ∉ [(270 + 26 * s)]) s hs) ((by decide : ∀ s, s < 4 → (267 + 26 * s) ∉ [(270 + 26 * s)]) s hs))
  have p_4 := (BY.kp (ea1) kp_2 ((by decide : ∀ s, s < 4 → (279 + 26 * s) ∉ [(270 + 26 * s)]) s hs) ((by decide : ∀ s, s < 4 → (280 + 26 * s) ∉ [(270 + 26 * s)]) s hs))
  have p_5 := (BY.kp (ea2) kp_2 ((by decide : ∀ s, s < 4 → (281 + 26 * s) ∉ [(270 + 26 * s)]) s hs) ((by decide : ∀ s, s < 4 → (282 + 26 * s) ∉ [(270 + 26 * s)]) s hs))
  have p_6 := (BY.kp (ea3) kp_2 ((by decide : ∀ s, s < 4 → (283 + 26 * s) ∉ [(270 + 26 * s)]) s hs) ((by decide : ∀ s, s < 4 → (284 + 26 * s) ∉ [(270 + 26 * s)]) s hs))
  have p_7 := (BY.kp (ea4) kp_2 ((by decide : ∀ s, s < 4 → (285 + 26 * s) ∉ [(270 + 26 * s)]) s hs) ((by decide : ∀ s, s < 4 → (286 + 26 * s) ∉ [(270 + 26 * s)]) s hs))
  have p_8 := (BY.kp (ea5) kp_2 ((by decide : ∀ s, s < 4 → (287 + 26 * s) ∉ [(270 + 26 * s)]) s hs) ((by decide : ∀ s, s < 4 → (288 + 26 * s) ∉ [(270 + 26 * s)]) s hs))
  have p_9 := (BY.kp (ea6) kp_2 ((by decide : ∀ s, s < 4 → (289 + 26 * s) ∉ [(270 + 26 * s)]) s hs) ((by decide : ∀ s, s < 4 → (290 + 26 * s) ∉ [(270 + 26 * s)]) s hs))
  have p_10 := (BA.kp (ea7) kp_2 ((by decide : ∀ s, s < 4 → (268 + 26 * s) ∉ [(270 + 26 * s)]) s hs))
  have p_11 := (BA.kp (ea8) kp_2 ((by decide : ∀ s, s < 4 → (269 + 26 * s) ∉ [(270 + 26 * s)]) s hs))
  have p_12 := (BY.kp (ea10) kp_2 ((by decide : ∀ s, s < 4 → (271 + 26 * s) ∉ [(270 + 26 * s)]) s hs) ((by decide : ∀ s, s < 4 → (272 + 26 * s) ∉ [(270 + 26 * s)]) s hs))
  have p_13 := (BY.kp (ea11) kp_2 ((by decide : ∀ s, s < 4 → (273 + 26 * s) ∉ [(270 + 26 * s)]) s hs) ((by decide : ∀ s, s < 4 → (274 + 26 * s) ∉ [(270 + 26 * s)]) s hs))
  have p_14 := (BY.kp (ea12) kp_2 ((by decide : ∀ s, s < 4 → (275 + 26 * s) ∉ [(270 + 26 * s)]) s hs) ((by decide : ∀ s, s < 4 → (276 + 26 * s) ∉ [(270 + 26 * s)]) s hs))
  have p_15 := (BA.kp (ea13) kp_2 ((by decide : ∀ s, s < 4 → (277 + 26 * s) ∉ [(270 + 26 * s)]) s hs))
  have p_16 := (BA.kp (ea14) kp_2 ((by decide : ∀ s, s < 4 → (278 + 26 * s) ∉ [(270 + 26 * s)]) s hs))
  exact T_ret d_PG_finish_40 rfl rfl (by decide) (by decide) ⟨rfl, ⟨p_3, p_4, p_5, p_6, p_7, p_8, p_9, p_10, p_11, z_2, p_12, p_13, ⟨_, p_14⟩, p_15, p_16⟩, (KR.tr KR.rf kp_2 ((by decide +kernel : ∀ s, s < 4 → ∀ q ∈ [(270 + 26 * s)], InS s q) s hs))⟩
set_option maxHeartbeats 8000000 in
theorem y_PG_accept_idle {G : GX} {M : List va_E} {s us b x : Nat} {t : Nat → Bool} {C : List (List UInt8)} (hs : s < 4) (hdue : (decide (cg C 2 ≠ []) && !t 2) = false) (hgo : GO M 61 264) (hse : SES M s us t C b x) : CT G mi_PG_accept [.ref 61, .int (nI s)] M (fun r M' => r = some (.int (nI 2)) ∧ SES M' s us t C b x ∧ KR (InS s) M M') := by
  obtain ⟨ea0, ea1, ea2, ea3, ea4, ea5, ea6, ea7, ea8, ea9, ea10, ea11, ⟨el12, ea12⟩, ea13, ea14⟩ := id hse
  have b0 : bN false = 0 := rfl
  refine CT.of (by decide) (Nat.le_of_ble_eq_true rfl) ?_
  show TT G mi_PG_accept 0 [(0, .ref 61), (1, .int (nI s))] [] M 0 0 _
  refine T_iload_n d_PG_accept_0 rfl ?_
  refine T_static (as := [.int (nI s)]) (rest := []) d_PG_accept_1 rfl (jw_PG_isSession.jo (by decide)) lm_PG_133 jt_PG_isSession rfl (Nat.le_of_ble_eq_true rfl) (by decide) (by decide) (y_PG_isSession_in hs) (fun r M_1 hq => ?_)
  obtain ⟨rfl, he⟩ := hq
  obtain rfl := he.symm
  refine T_eq (pc' := 4) (L' := [(0, .ref 61), (1, .int (nI s))]) (st' := [.int (nI 1)]) (M' := M) rfl rfl rfl rfl ?_
  refine N_if_ne_t (b := 1) d_PG_accept_4 (tgt := 9) rfl (by omega) (by omega) ?_
  refine T_aload_n (v := .ref 61) d_PG_accept_9 rfl (Or.inr ⟨_, rfl⟩) ?_
  refine T_getfield (v := .ref 264) d_PG_accept_10 fg_PG_34 hgo.1 rfl ?_
  refine T_iload_n d_PG_accept_13 rfl ?_
  refine N_aaload (k := s) (p := (265 + 26 * s)) (C0 := "PasswordGate$Session") d_PG_accept_14 (by decide) hgo.2 rfl (by omega) (by decide) (if_pos hs) ?_
  refine T_astore_n (L' := [(2, .ref (265 + 26 * s)), (0, .ref 61), (1, .int (nI s))]) d_PG_accept_15 (by decide) rfl (Or.inr ⟨_, rfl⟩) ?_
  refine T_aload_n (v := .ref (265 + 26 * s)) d_PG_accept_16 rfl (Or.inr ⟨_, rfl⟩) ?_
  refine T_iconst (v := nI 2) d_PG_accept_17 (by decide) ?_
  refine T_virtual (as := [.int (nI 2)]) (rest := []) (b := (265 + 26 * s)) d_PG_accept_18 rfl (jw_Ss_take.jo (by decide)) lm_PG_139 ji_Ss_take js_Ss_take ea0.1 rfl rfl rfl (Nat.le_of_ble_eq_true rfl) (by decide) (by decide) (y_Ss_take_2 hs ea0 ea3 ea9) (fun r M_2 hq => ?_)
  obtain ⟨rfl, z_2, kp_2⟩ := hq
  rw [hdue] at z_2
  rw [hdue]
  refine T_eq (pc' := 21) (L' := [(2, .ref (265 + 26 * s)), (0, .ref 61), (1, .int (nI s))]) (st' := [.int (nI ((bN false)))]) (M' := M_2) rfl rfl rfl rfl ?_
  refine N_if_eq_t (b := (bN false)) d_PG_accept_21 (tgt := 31) rfl (by omega) (by omega) ?_
  refine T_iconst (v := nI 2) d_PG_accept_31 (by decide) ?_
  have p_3 := (SO.kp (ea0) kp_2 ((by decide : ∀ s, s < 4 → (265 + 26 * s) ∉ [(270 + 26 * s)]) s hs) ((by decide : ∀ s, s < 4 → (266 + 26 * s) ∉ [(270 + 26 * s)]) s hs) ((by decide : ∀ s, s < 4 → (267 + 26 * s) ∉ [(270 + 26 * s)]) s hs))
  have p_4 := (BY.kp (ea1) kp_2 ((by decide : ∀ s, s < 4 → (279 + 26 * s) ∉ [(270 + 26 * s)]) s hs) ((by decide : ∀ s, s < 4 → (280 + 26 * s) ∉ [(270 + 26 * s)]) s hs))
  have p_5 := (BY.kp (ea2) kp_2 ((by decide : ∀ s, s < 4 → (281 + 26 * s) ∉ [(270 + 26 * s)]) s hs) ((by decide : ∀ s, s < 4 → (282 + 26 * s) ∉ [(270 + 26 * s)]) s hs))
  have p_6 := (BY.kp (ea3) kp_2 ((by decide : ∀ s, s < 4 → (283 + 26 * s) ∉ [(270 + 26 * s)]) s hs) ((by decide : ∀ s, s < 4 → (284 + 26 * s) ∉ [(270 + 26 * s)]) s hs))
  have p_7 := (BY.kp (ea4) kp_2 ((by decide : ∀ s, s < 4 → (285 + 26 * s) ∉ [(270 + 26 * s)]) s hs) ((by decide : ∀ s, s < 4 → (286 + 26 * s) ∉ [(270 + 26 * s)]) s hs))
  have p_8 := (BY.kp (ea5) kp_2 ((by decide : ∀ s, s < 4 → (287 + 26 * s) ∉ [(270 + 26 * s)]) s hs) ((by decide : ∀ s, s < 4 → (288 + 26 * s) ∉ [(270 + 26 * s)]) s hs))
  have p_9 := (BY.kp (ea6) kp_2 ((by decide : ∀ s, s < 4 → (289 + 26 * s) ∉ [(270 + 26 * s)]) s hs) ((by decide : ∀ s, s < 4 → (290 + 26 * s) ∉ [(270 + 26 * s)]) s hs))
  have p_10 := (BA.kp (ea7) kp_2 ((by decide : ∀ s, s < 4 → (268 + 26 * s) ∉ [(270 + 26 * s)]) s hs))
  have p_11 := (BA.kp (ea8) kp_2 ((by decide : ∀ s, s < 4 → (269 + 26 * s) ∉ [(270 + 26 * s)]) s hs))
  have p_12 := (BY.kp (ea10) kp_2 ((by decide : ∀ s, s < 4 → (271 + 26 * s) ∉ [(270 + 26 * s)]) s hs) ((by decide : ∀ s, s < 4 → (272 + 26 * s) ∉ [(270 + 26 * s)]) s hs))
  have p_13 := (BY.kp (ea11) kp_2 ((by decide : ∀ s, s < 4 → (273 + 26 * s) ∉ [(270 + 26 * s)]) s hs) ((by decide : ∀ s, s < 4 → (274 + 26 * s) ∉ [(270 + 26 * s)]) s hs))
  have p_14 := (BY.kp (ea12) kp_2 ((by decide : ∀ s, s < 4 → (275 + 26 * s) ∉ [(270 + 26 * s)]) s hs) ((by decide : ∀ s, s < 4 → (276 + 26 * s) ∉ [(270 + 26 * s)]) s hs))
  have p_15 := (BA.kp (ea13) kp_2 ((by decide : ∀ s, s < 4 → (277 + 26 * s) ∉ [(270 + 26 * s)]) s hs))
  have p_16 := (BA.kp (ea14) kp_2 ((by decide : ∀ s, s < 4 → (278 + 26 * s) ∉ [(270 + 26 * s)]) s hs))
  exact T_ret d_PG_accept_32 rfl rfl (by decide) (by decide) ⟨rfl, ⟨p_3, p_4, p_5, p_6, p_7, p_8, p_9, p_10, p_11, z_2, p_12, p_13, ⟨_, p_14⟩, p_15, p_16⟩, (KR.tr KR.rf kp_2 ((by decide +kernel : ∀ s, s < 4 → ∀ q ∈ [(270 + 26 * s)], InS s q) s hs))⟩
set_option maxHeartbeats 8000000 in
theorem y_PG_accept_due {G : GX} {M : List va_E} {s us b x : Nat} {t : Nat → Bool} {C : List (List UInt8)} (hs : s < 4) (hdue : (decide (cg C 2 ≠ []) && !t 2) = true) (hgo : GO M 61 264) (hse : SES M s us t C b x) (h6 : (cg C 6).length = 64) (h7 : (cg C 7).length = 64) (h4 : cg C 4 = []) : CT G mi_PG_accept [.ref 61, .int (nI s)] M (fun r M' => r = some (.int (nI (if elB (cg C 2) (cg C 6) 0 0 = true then 0 else 5))) ∧ SES M' s us (updB t 2 true) (if elB (cg C 2) (cg C 6) 0 0 = true then [cg C 0, cg C 1, cg C 2, cg C 3, cg C 7, cg C 5, cg C 6, cg C 7, cg C 8, cg C 9] else [cg C 0, cg C 1, cg C 2, cg C 3, cg C 4, cg C 5, cg C 6, cg C 7, cg C 8, cg C 9]) b x ∧ KR (InS s) M M') := by
  obtain ⟨ea0, ea1, ea2, ea3, ea4, ea5, ea6, ea7, ea8, ea9, ea10, ea11, ⟨el12, ea12⟩, ea13, ea14⟩ := id hse
  have b1 : bN true = 1 := rfl
  refine CT.of (by decide) (Nat.le_of_ble_eq_true rfl) ?_
  show TT G mi_PG_accept 0 [(0, .ref 61), (1, .int (nI s))] [] M 0 0 _
  refine T_iload_n d_PG_accept_0 rfl ?_
  refine T_static (as := [.int (nI s)]) (rest := []) d_PG_accept_1 rfl (jw_PG_isSession.jo (by decide)) lm_PG_133 jt_PG_isSession rfl (Nat.le_of_ble_eq_true rfl) (by decide) (by decide) (y_PG_isSession_in hs) (fun r M_1 hq => ?_)
  obtain ⟨rfl, he⟩ := hq
  obtain rfl := he.symm
  refine T_eq (pc' := 4) (L' := [(0, .ref 61), (1, .int (nI s))]) (st' := [.int (nI 1)]) (M' := M) rfl rfl rfl rfl ?_
  refine N_if_ne_t (b := 1) d_PG_accept_4 (tgt := 9) rfl (by omega) (by omega) ?_
  refine T_aload_n (v := .ref 61) d_PG_accept_9 rfl (Or.inr ⟨_, rfl⟩) ?_
  refine T_getfield (v := .ref 264) d_PG_accept_10 fg_PG_34 hgo.1 rfl ?_
  refine T_iload_n d_PG_accept_13 rfl ?_
  refine N_aaload (k := s) (p := (265 + 26 * s)) (C0 := "PasswordGate$Session") d_PG_accept_14 (by decide) hgo.2 rfl (by omega) (by decide) (if_pos hs) ?_
  refine T_astore_n (L' := [(2, .ref (265 + 26 * s)), (0, .ref 61), (1, .int (nI s))]) d_PG_accept_15 (by decide) rfl (Or.inr ⟨_, rfl⟩) ?_
  refine T_aload_n (v := .ref (265 + 26 * s)) d_PG_accept_16 rfl (Or.inr ⟨_, rfl⟩) ?_
  refine T_iconst (v := nI 2) d_PG_accept_17 (by decide) ?_
  refine T_virtual (as := [.int (nI 2)]) (rest := []) (b := (265 + 26 * s)) d_PG_accept_18 rfl (jw_Ss_take.jo (by decide)) lm_PG_139 ji_Ss_take js_Ss_take ea0.1 rfl rfl rfl (Nat.le_of_ble_eq_true rfl) (by decide) (by decide) (y_Ss_take_2 hs ea0 ea3 ea9) (fun r M_2 hq => ?_)
  obtain ⟨rfl, z_2, kp_2⟩ := hq
  rw [hdue] at z_2
  rw [hdue]
  refine T_eq (pc' := 21) (L' := [(2, .ref (265 + 26 * s)), (0, .ref 61), (1, .int (nI s))]) (st' := [.int (nI ((bN true)))]) (M' := M_2) rfl rfl rfl rfl ?_
  refine N_if_eq_f (b := (bN true)) d_PG_accept_21 (tgt := 31) rfl (by omega) (by omega) ?_
  refine T_aload_n (v := .ref (265 + 26 * s)) d_PG_accept_24 rfl (Or.inr ⟨_, rfl⟩) ?_
  have p_5 := (SO.kp (ea0) kp_2 ((by decide : ∀ s, s < 4 → (265 + 26 * s) ∉ [(270 + 26 * s)]) s hs) ((by decide : ∀ s, s < 4 → (266 + 26 * s) ∉ [(270 + 26 * s)]) s hs) ((by decide : ∀ s, s < 4 → (267 + 26 * s) ∉ [(270 + 26 * s)]) s hs))
  have p_6 := (BY.kp (ea1) kp_2 ((by decide : ∀ s, s < 4 → (279 + 26 * s) ∉ [(270 + 26 * s)]) s hs) ((by decide : ∀ s, s < 4 → (280 + 26 * s) ∉ [(270 + 26 * s)]) s hs))
  have p_7 := (BY.kp (ea2) kp_2 ((by decide : ∀ s, s < 4 → (281 + 26 * s) ∉ [(270 + 26 * s)]) s hs) ((by decide : ∀ s, s < 4 → (282 + 26 * s) ∉ [(270 + 26 * s)]) s hs))
  have p_8 := (BY.kp (ea3) kp_2 ((by decide : ∀ s, s < 4 → (283 + 26 * s) ∉ [(270 + 26 * s)]) s hs) ((by decide : ∀ s, s < 4 → (284 + 26 * s) ∉ [(270 + 26 * s)]) s hs))
  have p_9 := (BY.kp (ea4) kp_2 ((by decide : ∀ s, s < 4 → (285 + 26 * s) ∉ [(270 + 26 * s)]) s hs) ((by decide : ∀ s, s < 4 → (286 + 26 * s) ∉ [(270 + 26 * s)]) s hs))
  have p_10 := (BY.kp (ea5) kp_2 ((by decide : ∀ s, s < 4 → (287 + 26 * s) ∉ [(270 + 26 * s)]) s hs) ((by decide : ∀ s, s < 4 → (288 + 26 * s) ∉ [(270 + 26 * s)]) s hs))
  have p_11 := (BY.kp (ea6) kp_2 ((by decide : ∀ s, s < 4 → (289 + 26 * s) ∉ [(270 + 26 * s)]) s hs) ((by decide : ∀ s, s < 4 → (290 + 26 * s) ∉ [(270 + 26 * s)]) s hs))
  have p_12 := (BA.kp (ea7) kp_2 ((by decide : ∀ s, s < 4 → (268 + 26 * s) ∉ [(270 + 26 * s)]) s hs))
  have p_13 := (BA.kp (ea8) kp_2 ((by decide : ∀ s, s < 4 → (269 + 26 * s) ∉ [(270 + 26 * s)]) s hs))
  have p_14 := (BY.kp (ea10) kp_2 ((by decide : ∀ s, s < 4 → (271 + 26 * s) ∉ [(270 + 26 * s)]) s hs) ((by decide : ∀ s, s < 4 → (272 + 26 * s) ∉ [(270 + 26 * s)]) s hs))
  have p_15 := (BY.kp (ea11) kp_2 ((by decide : ∀ s, s < 4 → (273 + 26 * s) ∉ [(270 + 26 * s)]) s hs) ((by decide : ∀ s, s < 4 → (274 + 26 * s) ∉ [(270 + 26 * s)]) s hs))
  have p_16 := (BY.kp (ea12) kp_2 ((by decide : ∀ s, s < 4 → (275 + 26 * s) ∉ [(270 + 26 * s)]) s hs) ((by decide : ∀ s, s < 4 → (276 + 26 * s) ∉ [(270 + 26 * s)]) s hs))
  have p_17 := (BA.kp (ea13) kp_2 ((by decide : ∀ s, s < 4 → (277 + 26 * s) ∉ [(270 + 26 * s)]) s hs))
  have p_18 := (BA.kp (ea14) kp_2 ((by decide : ∀ s, s < 4 → (278 + 26 * s) ∉ [(270 + 26 * s)]) s hs))
  have cS_4 : SES M_2 s us (updB t 2 true) C b x := ⟨p_5, p_6, p_7, p_8, p_9, p_10, p_11, p_12, p_13, z_2, p_14, p_15, ⟨_, p_16⟩, p_17, p_18⟩
  have h_19 := (kp_2 (265 + 26 * s) ((by decide : ∀ s, s < 4 → (265 + 26 * s) ∉ [(270 + 26 * s)]) s hs)).trans (ea0.1)
  refine T_virtual (as := []) (rest := []) (b := (265 + 26 * s)) d_PG_accept_25 rfl (jw_Ss_confirmClient.jo (by decide)) lm_PG_150 ji_Ss_confirmClient js_Ss_confirmClient h_19 rfl rfl rfl (Nat.le_of_ble_eq_true rfl) (by decide) (by decide) (y_Ss_confirmClient hs cS_4 h6 h7 h4) (fun r M_3 hq => ?_)
  obtain ⟨rfl, se, ⟨W_3, kp_3, hW_3⟩⟩ := hq
  refine T_eq (pc' := 28) (L' := [(2, .ref (265 + 26 * s)), (0, .ref 61), (1, .int (nI s))]) (st' := [.int (nI ((if elB (cg C 2) (cg C 6) 0 0 = true then 0 else 5)))]) (M' := M_3) rfl rfl rfl rfl ?_
  refine T_goto (tgt := 32) d_PG_accept_28 rfl ?_
  exact T_ret d_PG_accept_32 rfl rfl (by decide) (by decide) ⟨rfl, se, (KR.tr (KR.tr KR.rf kp_2 ((by decide +kernel : ∀ s, s < 4 → ∀ q ∈ [(270 + 26 * s)], InS s q) s hs)) kp_3 (fun q hq => InS_S q (hW_3 q hq)))⟩
set_option maxHeartbeats 8000000 in
theorem y_PG_finish_due {G : GX} {M : List va_E} {ch : Nat} {sd : Int32} {s us b x : Nat} {t : Nat → Bool} {C : List (List UInt8)} {E : Fp × Fp} {R O J P : List UInt8} {K : Nat} (hs : s < 4) (hdue : (decide (cg C 1 ≠ []) && !t 1) = true) (hE : emul fD (dPt (nB (cg C 1) 0)) (leN (lbN ((leN (lbN b) 32 % qN) ^ (qN - 2) % qN)) 32) = E) (hR : sec8 (cg C 8) E = R) (hO : xr (sl (cg C 1) 64 128) (ex1 (ex1 R W10) (sl (cg C 1) 32 32 ++ W15) ++ ex2 (ex1 R W10) (sl (cg C 1) 32 32 ++ W15)) = O) (hK : cKey R (sl O 32 32) = K) (hJ : (([] ++ enc (emul fD (dPt (nB (cg C 1) 224)) x)) ++ enc (emul fD (dPt (nB O 0)) x)) ++ enc (emul fD (dPt (nB (cg C 1) 224)) K) = J) (hP : pre8 (pub K) (cg C 9) O (cg C 1) = P) (hx : x < qN) (hgo : GO M 61 264) (hks : KS M sd ch) (hex : EXS M) (hse : SES M s us t C b x) (h1 : (cg C 1).length = 320) (h9 : (cg C 9).length = 96) (h2 : cg C 2 = []) (h3 : cg C 3 = []) (h5 : cg C 5 = []) : CT G mi_PG_finish [.ref 61, .int (nI s)] M (fun r M' => r = some (.int (nI (csR (cg C 1) O (seal8 R (sl O 32 32) (sl O 0 32)) (xSrv J P)))) ∧ KS M' sd ch ∧ EXS M' ∧ SES M' s us (updB t 1 true) (if csR (cg C 1) O (seal8 R (sl O 32 32) (sl O 0 32)) (xSrv J P) = 0 then [cg C 0, cg C 1, xCli J P, xSess J P, cg C 4, ex1 R (sl O 32 32 ++ W13), cg C 6, cg C 7, cg C 8, cg C 9] else [cg C 0, cg C 1, cg C 2, cg C 3, cg C 4, cg C 5, cg C 6, cg C 7, cg C 8, cg C 9]) b x ∧ KR (InX s) M M') := by
  obtain ⟨ka0, ka1, ka2, ka3, ka4, ka5, ka6, ka7, ka8, ka9, ka10, ka11, ka12, ⟨kl13, ka13⟩, ka14, ka15, ka16, ⟨kl17, ka17⟩, ⟨kl18, ka18⟩⟩ := id hks
  obtain ⟨xa0, xa1, xa2, xa3, xa4, xa5, xa6, xa7, ⟨xl8, xa8⟩, ⟨xl9, xa9⟩, ⟨xl10, xa10⟩⟩ := id hex
  obtain ⟨ea0, ea1, ea2, ea3, ea4, ea5, ea6, ea7, ea8, ea9, ea10, ea11, ⟨el12, ea12⟩, ea13, ea14⟩ := id hse
  have b1 : bN true = 1 := rfl
  refine CT.of (by decide) (Nat.le_of_ble_eq_true rfl) ?_
  show TT G mi_PG_finish 0 [(0, .ref 61), (1, .int (nI s))] [] M 0 0 _
  refine T_iload_n d_PG_finish_0 rfl ?_
  refine T_static (as := [.int (nI s)]) (rest := []) d_PG_finish_1 rfl (jw_PG_isSession.jo (by decide)) lm_PG_133 jt_PG_isSession rfl (Nat.le_of_ble_eq_true rfl) (by decide) (by decide) (y_PG_isSession_in hs) (fun r M_1 hq => ?_)
  obtain ⟨rfl, he⟩ := hq
  obtain rfl := he.symm
  refine T_eq (pc' := 4) (L' := [(0, .ref 61), (1, .int (nI s))]) (st' := [.int (nI 1)]) (M' := M) rfl rfl rfl rfl ?_
  refine N_if_ne_t (b := 1) d_PG_finish_4 (tgt := 9) rfl (by omega) (by omega) ?_
  refine T_aload_n (v := .ref 61) d_PG_finish_9 rfl (Or.inr ⟨_, rfl⟩) ?_
  refine T_getfield (v := .ref 264) d_PG_finish_10 fg_PG_34 hgo.1 rfl ?_
  refine T_iload_n d_PG_finish_13 rfl ?_
  refine N_aaload (k := s) (p := (265 + 26 * s)) (C0 := "PasswordGate$Session") d_PG_finish_14 (by decide) hgo.2 rfl (by omega) (by decide) (if_pos hs) ?_
  refine T_astore_n (L' := [(2, .ref (265 + 26 * s)), (0, .ref 61), (1, .int (nI s))]) d_PG_finish_15 (by decide) rfl (Or.inr ⟨_, rfl⟩) ?_
  refine T_aload_n (v := .ref (265 + 26 * s)) d_PG_finish_16 rfl (Or.inr ⟨_, rfl⟩) ?_
  refine T_iconst (v := nI 1) d_PG_finish_17 (by decide) ?_
  refine T_virtual (as := [.int (nI 1)]) (rest := []) (b := (265 + 26 * s)) d_PG_finish_18 rfl (jw_Ss_take.jo (by decide)) lm_PG_139 ji_Ss_take js_Ss_take ea0.1 rfl rfl rfl (Nat.le_of_ble_eq_true rfl) (by decide) (by decide) (y_Ss_take_1 hs ea0 ea2 ea9) (fun r M_2 hq => ?_)
  obtain ⟨rfl, z_2, kp_2⟩ := hq
  rw [hdue] at z_2
  rw [hdue]
  refine T_eq (pc' := 21) (L' := [(2, .ref (265 + 26 * s)), (0, .ref 61), (1, .int (nI s))]) (st' := [.int (nI ((bN true)))]) (M' := M_2) rfl rfl rfl rfl ?_
  refine N_if_eq_f (b := (bN true)) d_PG_finish_21 (tgt := 39) rfl (by omega) (by omega) ?_
  refine T_aload_n (v := .ref (265 + 26 * s)) d_PG_finish_24 rfl (Or.inr ⟨_, rfl⟩) ?_
  refine T_aload_n (v := .ref 61) d_PG_finish_25 rfl (Or.inr ⟨_, rfl⟩) ?_
  have h_3 := (kp_2 61 ((by decide : ∀ s, s < 4 → 61 ∉ [(270 + 26 * s)]) s hs)).trans (hgo.1)
  refine T_getfield (v := .ref 62) d_PG_finish_26 fg_PG_12 h_3 rfl ?_
  refine T_aload_n (v := .ref 61) d_PG_finish_29 rfl (Or.inr ⟨_, rfl⟩) ?_
  refine T_getfield (v := .ref 217) d_PG_finish_30 fg_PG_21 h_3 rfl ?_
  have p_5 := (KO.kp (ka0) kp_2 ((by decide : ∀ s, s < 4 → 62 ∉ [(270 + 26 * s)]) s hs))
  have p_6 := (DQ.kp (ka1) kp_2 ((by decide : ∀ s, s < 4 → 63 ∉ [(270 + 26 * s)]) s hs) ((by decide : ∀ s, s < 4 → 64 ∉ [(270 + 26 * s)]) s hs) ((by decide : ∀ s, s < 4 → 65 ∉ [(270 + 26 * s)]) s hs))
  have p_7 := (KY.kp (ka2) kp_2 ((by decide : ∀ s, s < 4 → ∀ q ∈ [(270 + 26 * s)], q < 66 ∨ 76 < q) s hs))
  have p_8 := (CU.kp (ka3) kp_2 ((by decide : ∀ s, s < 4 → ∀ q ∈ [(270 + 26 * s)], q < 77 ∨ 182 < q) s hs))
  have p_9 := (SCS.kp (ka4) kp_2 ((by decide : ∀ s, s < 4 → ∀ q ∈ scW, q ∉ [(270 + 26 * s)]) s hs))
  have p_10 := (PQ.kp (ka5) kp_2 ((by decide : ∀ s, s < 4 → 188 ∉ [(270 + 26 * s)]) s hs) ((by decide : ∀ s, s < 4 → 189 ∉ [(270 + 26 * s)]) s hs) ((by decide : ∀ s, s < 4 → 190 ∉ [(270 + 26 * s)]) s hs) ((by decide : ∀ s, s < 4 → 191 ∉ [(270 + 26 * s)]) s hs) ((by decide : ∀ s, s < 4 → 192 ∉ [(270 + 26 * s)]) s hs))
  have p_11 := (PQ.kp (ka6) kp_2 ((by decide : ∀ s, s < 4 → 193 ∉ [(270 + 26 * s)]) s hs) ((by decide : ∀ s, s < 4 → 194 ∉ [(270 + 26 * s)]) s hs) ((by decide : ∀ s, s < 4 → 195 ∉ [(270 + 26 * s)]) s hs) ((by decide : ∀ s, s < 4 → 196 ∉ [(270 + 26 * s)]) s hs) ((by decide : ∀ s, s < 4 → 197 ∉ [(270 + 26 * s)]) s hs))
  have p_12 := (PQ.kp (ka7) kp_2 ((by decide : ∀ s, s < 4 → 207 ∉ [(270 + 26 * s)]) s hs) ((by decide : ∀ s, s < 4 → 208 ∉ [(270 + 26 * s)]) s hs) ((by decide : ∀ s, s < 4 → 209 ∉ [(270 + 26 * s)]) s hs) ((by decide : ∀ s, s < 4 → 210 ∉ [(270 + 26 * s)]) s hs) ((by decide : ∀ s, s < 4 → 211 ∉ [(270 + 26 * s)]) s hs))
  have p_13 := (BQ.kp (ka8) kp_2 ((by decide : ∀ s, s < 4 → 198 ∉ [(270 + 26 * s)]) s hs))
  have p_14 := (BQ.kp (ka9) kp_2 ((by decide : ∀ s, s < 4 → 199 ∉ [(270 + 26 * s)]) s hs))
  have p_15 := (BQ.kp (ka10) kp_2 ((by decide : ∀ s, s < 4 → 200 ∉ [(270 + 26 * s)]) s hs))
  have p_16 := (BQ.kp (ka11) kp_2 ((by decide : ∀ s, s < 4 → 201 ∉ [(270 + 26 * s)]) s hs))
  have p_17 := (BQ.kp (ka12) kp_2 ((by decide : ∀ s, s < 4 → 202 ∉ [(270 + 26 * s)]) s hs))
  have p_18 := (BY.kp (ka13) kp_2 ((by decide : ∀ s, s < 4 → 203 ∉ [(270 + 26 * s)]) s hs) ((by decide : ∀ s, s < 4 → 204 ∉ [(270 + 26 * s)]) s hs))
  have p_19 := (BQ.kp (ka14) kp_2 ((by decide : ∀ s, s < 4 → 205 ∉ [(270 + 26 * s)]) s hs))
  have p_20 := (BQ.kp (ka15) kp_2 ((by decide : ∀ s, s < 4 → 206 ∉ [(270 + 26 * s)]) s hs))
  have p_21 := (BQ.kp (ka16) kp_2 ((by decide : ∀ s, s < 4 → 212 ∉ [(270 + 26 * s)]) s hs))
  have p_22 := (BY.kp (ka17) kp_2 ((by decide : ∀ s, s < 4 → 213 ∉ [(270 + 26 * s)]) s hs) ((by decide : ∀ s, s < 4 → 214 ∉ [(270 + 26 * s)]) s hs))
  have p_23 := (BY.kp (ka18) kp_2 ((by decide : ∀ s, s < 4 → 215 ∉ [(270 + 26 * s)]) s hs) ((by decide : ∀ s, s < 4 → 216 ∉ [(270 + 26 * s)]) s hs))
  have cB_4 : KS M_2 sd ch := ⟨p_5, p_6, p_7, p_8, p_9, p_10, p_11, p_12, p_13, p_14, p_15, p_16, p_17, ⟨_, p_18⟩, p_19, p_20, p_21, ⟨_, p_22⟩, ⟨_, p_23⟩⟩
  have p_25 := (EO.kp (xa0) kp_2 ((by decide : ∀ s, s < 4 → 217 ∉ [(270 + 26 * s)]) s hs))
  have p_26 := (BQ.kp (xa1) kp_2 ((by decide : ∀ s, s < 4 → 218 ∉ [(270 + 26 * s)]) s hs))
  have p_27 := (BQ.kp (xa2) kp_2 ((by decide : ∀ s, s < 4 → 219 ∉ [(270 + 26 * s)]) s hs))
  have p_28 := (BQ.kp (xa3) kp_2 ((by decide : ∀ s, s < 4 → 220 ∉ [(270 + 26 * s)]) s hs))
  have p_29 := (BQ.kp (xa4) kp_2 ((by decide : ∀ s, s < 4 → 227 ∉ [(270 + 26 * s)]) s hs))
  have p_30 := (BQ.kp (xa5) kp_2 ((by decide : ∀ s, s < 4 → 228 ∉ [(270 + 26 * s)]) s hs))
  have p_31 := (BQ.kp (xa6) kp_2 ((by decide : ∀ s, s < 4 → 229 ∉ [(270 + 26 * s)]) s hs))
  have p_32 := (BQ.kp (xa7) kp_2 ((by decide : ∀ s, s < 4 → 230 ∉ [(270 + 26 * s)]) s hs))
  have p_33 := (BY.kp (xa8) kp_2 ((by decide : ∀ s, s < 4 → 221 ∉ [(270 + 26 * s)]) s hs) ((by decide : ∀ s, s < 4 → 222 ∉ [(270 + 26 * s)]) s hs))
  have p_34 := (BY.kp (xa9) kp_2 ((by decide : ∀ s, s < 4 → 223 ∉ [(270 + 26 * s)]) s hs) ((by decide : ∀ s, s < 4 → 224 ∉ [(270 + 26 * s)]) s hs))
  have p_35 := (BY.kp (xa10) kp_2 ((by decide : ∀ s, s < 4 → 225 ∉ [(270 + 26 * s)]) s hs) ((by decide : ∀ s, s < 4 → 226 ∉ [(270 + 26 * s)]) s hs))
  have cB_24 : EXS M_2 := ⟨p_25, p_26, p_27, p_28, p_29, p_30, p_31, p_32, ⟨_, p_33⟩, ⟨_, p_34⟩, ⟨_, p_35⟩⟩
  have p_37 := (SO.kp (ea0) kp_2 ((by decide : ∀ s, s < 4 → (265 + 26 * s) ∉ [(270 + 26 * s)]) s hs) ((by decide : ∀ s, s < 4 → (266 + 26 * s) ∉ [(270 + 26 * s)]) s hs) ((by decide : ∀ s, s < 4 → (267 + 26 * s) ∉ [(270 + 26 * s)]) s hs))
  have p_38 := (BY.kp (ea1) kp_2 ((by decide : ∀ s, s < 4 → (279 + 26 * s) ∉ [(270 + 26 * s)]) s hs) ((by decide : ∀ s, s < 4 → (280 + 26 * s) ∉ [(270 + 26 * s)]) s hs))
  have p_39 := (BY.kp (ea2) kp_2 ((by decide : ∀ s, s < 4 → (281 + 26 * s) ∉ [(270 + 26 * s)]) s hs) ((by decide : ∀ s, s < 4 → (282 + 26 * s) ∉ [(270 + 26 * s)]) s hs))
  have p_40 := (BY.kp (ea3) kp_2 ((by decide : ∀ s, s < 4 → (283 + 26 * s) ∉ [(270 + 26 * s)]) s hs) ((by decide : ∀ s, s < 4 → (284 + 26 * s) ∉ [(270 + 26 * s)]) s hs))
  have p_41 := (BY.kp (ea4) kp_2 ((by decide : ∀ s, s < 4 → (285 + 26 * s) ∉ [(270 + 26 * s)]) s hs) ((by decide : ∀ s, s < 4 → (286 + 26 * s) ∉ [(270 + 26 * s)]) s hs))
  have p_42 := (BY.kp (ea5) kp_2 ((by decide : ∀ s, s < 4 → (287 + 26 * s) ∉ [(270 + 26 * s)]) s hs) ((by decide : ∀ s, s < 4 → (288 + 26 * s) ∉ [(270 + 26 * s)]) s hs))
  have p_43 := (BY.kp (ea6) kp_2 ((by decide : ∀ s, s < 4 → (289 + 26 * s) ∉ [(270 + 26 * s)]) s hs) ((by decide : ∀ s, s < 4 → (290 + 26 * s) ∉ [(270 + 26 * s)]) s hs))
  have p_44 := (BA.kp (ea7) kp_2 ((by decide : ∀ s, s < 4 → (268 + 26 * s) ∉ [(270 + 26 * s)]) s hs))
  have p_45 := (BA.kp (ea8) kp_2 ((by decide : ∀ s, s < 4 → (269 + 26 * s) ∉ [(270 + 26 * s)]) s hs))
  have p_46 := (BY.kp (ea10) kp_2 ((by decide : ∀ s, s < 4 → (271 + 26 * s) ∉ [(270 + 26 * s)]) s hs) ((by decide : ∀ s, s < 4 → (272 + 26 * s) ∉ [(270 + 26 * s)]) s hs))
  have p_47 := (BY.kp (ea11) kp_2 ((by decide : ∀ s, s < 4 → (273 + 26 * s) ∉ [(270 + 26 * s)]) s hs) ((by decide : ∀ s, s < 4 → (274 + 26 * s) ∉ [(270 + 26 * s)]) s hs))
  have p_48 := (BY.kp (ea12) kp_2 ((by decide : ∀ s, s < 4 → (275 + 26 * s) ∉ [(270 + 26 * s)]) s hs) ((by decide : ∀ s, s < 4 → (276 + 26 * s) ∉ [(270 + 26 * s)]) s hs))
  have p_49 := (BA.kp (ea13) kp_2 ((by decide : ∀ s, s < 4 → (277 + 26 * s) ∉ [(270 + 26 * s)]) s hs))
  have p_50 := (BA.kp (ea14) kp_2 ((by decide : ∀ s, s < 4 → (278 + 26 * s) ∉ [(270 + 26 * s)]) s hs))
  have cS_36 : SES M_2 s us (updB t 1 true) C b x := ⟨p_37, p_38, p_39, p_40, p_41, p_42, p_43, p_44, p_45, z_2, p_46, p_47, ⟨_, p_48⟩, p_49, p_50⟩
  have h_52 := (kp_2 (265 + 26 * s) ((by decide : ∀ s, s < 4 → (265 + 26 * s) ∉ [(270 + 26 * s)]) s hs)).trans (ea0.1)
  refine T_virtual (as := [.ref 62, .ref 217]) (rest := []) (b := (265 + 26 * s)) d_PG_finish_33 rfl (jw_Ss_confirmServer.jo (by decide)) lm_PG_146 ji_Ss_confirmServer js_Ss_confirmServer h_52 rfl rfl rfl (Nat.le_of_ble_eq_true rfl) (by decide) (by decide) (y_Ss_confirmServer hs hE hR hO hK hJ hP hx cB_4 cB_24 cS_36 h1 h9 h2 h3 h5) (fun r M_51 hq => ?_)
  obtain ⟨rfl, k2, x2, e2, ⟨W_51, kp_51, hW_51⟩⟩ := hq
  refine T_eq (pc' := 36) (L' := [(2, .ref (265 + 26 * s)), (0, .ref 61), (1, .int (nI s))]) (st' := [.int (nI ((csR (cg C 1) O (seal8 R (sl O 32 32) (sl O 0 32)) (xSrv J P))))]) (M' := M_51) rfl rfl rfl rfl ?_
  refine T_goto (tgt := 40) d_PG_finish_36 rfl ?_
  exact T_ret d_PG_finish_40 rfl rfl (by decide) (by decide) ⟨rfl, k2, x2, e2, (KR.tr (KR.tr KR.rf kp_2 ((by decide +kernel : ∀ s, s < 4 → ∀ q ∈ [(270 + 26 * s)], InX s q) s hs)) kp_51 (fun q hq => InX_X q (hW_51 q hq)))⟩
set_option maxHeartbeats 8000000 in
theorem y_PG_answer_A {G : GX} {M : List va_E} {sd : Int32} {ch u s b x xs : Nat} {t : Nat → Bool} {C : List (List UInt8)} {lr rec c2 m2 J P : List UInt8} (hs : s < 4) (hu : u < 8) (hdue : (decide (cg C 0 ≠ []) && !t 0) = true) (hd1 : dec (nB (cg C 0) 0)) (hd2 : dec (nB (cg C 0) 64)) (h0 : lr = []) (hRec : mkU sd ch = rec) (hd3 : dec (nB rec 0)) (hC : crd (enc (emul fD (dPt (nB (cg C 0) 0)) (usK sd u)) ++ sl (chance sd (nI (ch + 2))) 0 32) (pub (ownK sd) ++ sl rec 96 96) (sl rec 32 64) = c2) (hX : scal (chance sd (nI (ch + 4))) = xs) (hM : (c2 ++ sl (chance sd (nI (ch + 3))) 0 32) ++ pub xs = m2) (hJ : (([] ++ enc (emul fD (dPt (nB (cg C 0) 64)) xs)) ++ enc (emul fD (dPt (nB (cg C 0) 64)) (ownK sd))) ++ enc (emul fD (dPt (nB rec 0)) xs) = J) (hP : pre8 rec (cg C 0) (pub (ownK sd)) m2 = P) (hgo : GO M 61 264) (hks : KS M sd ch) (hex : EXS M) (hvs : SVS M) (hsv : SVD M sd) (hrc : BY M (248 + 2 * u) (249 + 2 * u) 192 lr) (hse : SES M s u t C b x) (hc0 : (cg C 0).length = 96) (hc1 : cg C 1 = []) : CT G mi_PG_answer [.ref 61, .int (nI s)] M (fun r M' => r = some (.int (nI 0)) ∧ KS M' sd (ch + 5) ∧ EXS M' ∧ SVS M' ∧ SVO M' sd ∧ SES M' s u (updB t 0 true) [cg C 0, m2 ++ xSrv J P, cg C 2, cg C 3, cg C 4, cg C 5, xCli J P, xSess J P, cg C 8, cg C 9] b x ∧ KR (InZ s) M M') := by
  obtain ⟨ka0, ka1, ka2, ka3, ka4, ka5, ka6, ka7, ka8, ka9, ka10, ka11, ka12, ⟨kl13, ka13⟩, ka14, ka15, ka16, ⟨kl17, ka17⟩, ⟨kl18, ka18⟩⟩ := id hks
  obtain ⟨xa0, xa1, xa2, xa3, xa4, xa5, xa6, xa7, ⟨xl8, xa8⟩, ⟨xl9, xa9⟩, ⟨xl10, xa10⟩⟩ := id hex
  obtain ⟨va0, ⟨vl1, va1⟩, ⟨vl2, va2⟩, ⟨vl3, va3⟩, ⟨vl4, va4⟩, va5, va6, va7⟩ := id hvs
  obtain ⟨ea0, ea1, ea2, ea3, ea4, ea5, ea6, ea7, ea8, ea9, ea10, ea11, ⟨el12, ea12⟩, ea13, ea14⟩ := id hse
  have b1 : bN true = 1 := rfl
  refine CT.of (by decide) (Nat.le_of_ble_eq_true rfl) ?_
  show TT G mi_PG_answer 0 [(0, .ref 61), (1, .int (nI s))] [] M 0 0 _
  refine T_iload_n d_PG_answer_0 rfl ?_
  refine T_static (as := [.int (nI s)]) (rest := []) d_PG_answer_1 rfl (jw_PG_isSession.jo (by decide)) lm_PG_133 jt_PG_isSession rfl (Nat.le_of_ble_eq_true rfl) (by decide) (by decide) (y_PG_isSession_in hs) (fun r M_1 hq => ?_)
  obtain ⟨rfl, he⟩ := hq
  obtain rfl := he.symm
  refine T_eq (pc' := 4) (L' := [(0, .ref 61), (1, .int (nI s))]) (st' := [.int (nI 1)]) (M' := M) rfl rfl rfl rfl ?_
  refine N_if_ne_t (b := 1) d_PG_answer_4 (tgt := 9) rfl (by omega) (by omega) ?_
  refine T_aload_n (v := .ref 61) d_PG_answer_9 rfl (Or.inr ⟨_, rfl⟩) ?_
  refine T_getfield (v := .ref 264) d_PG_answer_10 fg_PG_34 hgo.1 rfl ?_
  refine T_iload_n d_PG_answer_13 rfl ?_
  refine N_aaload (k := s) (p := (265 + 26 * s)) (C0 := "PasswordGate$Session") d_PG_answer_14 (by decide) hgo.2 rfl (by omega) (by decide) (if_pos hs) ?_
  refine T_astore_n (L' := [(2, .ref (265 + 26 * s)), (0, .ref 61), (1, .int (nI s))]) d_PG_answer_15 (by decide) rfl (Or.inr ⟨_, rfl⟩) ?_
  refine T_aload_n (v := .ref (265 + 26 * s)) d_PG_answer_16 rfl (Or.inr ⟨_, rfl⟩) ?_
  refine T_iconst (v := nI 0) d_PG_answer_17 (by decide) ?_
  refine T_virtual (as := [.int (nI 0)]) (rest := []) (b := (265 + 26 * s)) d_PG_answer_18 rfl (jw_Ss_take.jo (by decide)) lm_PG_139 ji_Ss_take js_Ss_take ea0.1 rfl rfl rfl (Nat.le_of_ble_eq_true rfl) (by decide) (by decide) (y_Ss_take_0 hs ea0 ea1 ea9) (fun r M_2 hq => ?_)
  obtain ⟨rfl, z_2, kp_2⟩ := hq
  rw [hdue] at z_2
  rw [hdue]
  refine T_eq (pc' := 21) (L' := [(2, .ref (265 + 26 * s)), (0, .ref 61), (1, .int (nI s))]) (st' := [.int (nI ((bN true)))]) (M' := M_2) rfl rfl rfl rfl ?_
  refine N_if_eq_f (b := (bN true)) d_PG_answer_21 (tgt := 43) rfl (by omega) (by omega) ?_
  refine T_aload_n (v := .ref 61) d_PG_answer_24 rfl (Or.inr ⟨_, rfl⟩) ?_
  have h_3 := (kp_2 61 ((by decide : ∀ s, s < 4 → 61 ∉ [(270 + 26 * s)]) s hs)).trans (hgo.1)
  refine T_getfield (v := .ref 231) d_PG_answer_25 fg_PG_28 h_3 rfl ?_
  refine T_aload_n (v := .ref 61) d_PG_answer_28 rfl (Or.inr ⟨_, rfl⟩) ?_
  refine T_getfield (v := .ref 62) d_PG_answer_29 fg_PG_12 h_3 rfl ?_
  refine T_aload_n (v := .ref 61) d_PG_answer_32 rfl (Or.inr ⟨_, rfl⟩) ?_
  refine T_getfield (v := .ref 217) d_PG_answer_33 fg_PG_21 h_3 rfl ?_
  refine T_aload_n (v := .ref (265 + 26 * s)) d_PG_answer_36 rfl (Or.inr ⟨_, rfl⟩) ?_
  have p_5 := (KO.kp (ka0) kp_2 ((by decide : ∀ s, s < 4 → 62 ∉ [(270 + 26 * s)]) s hs))
  have p_6 := (DQ.kp (ka1) kp_2 ((by decide : ∀ s, s < 4 → 63 ∉ [(270 + 26 * s)]) s hs) ((by decide : ∀ s, s < 4 → 64 ∉ [(270 + 26 * s)]) s hs) ((by decide : ∀ s, s < 4 → 65 ∉ [(270 + 26 * s)]) s hs))
  have p_7 := (KY.kp (ka2) kp_2 ((by decide : ∀ s, s < 4 → ∀ q ∈ [(270 + 26 * s)], q < 66 ∨ 76 < q) s hs))
  have p_8 := (CU.kp (ka3) kp_2 ((by decide : ∀ s, s < 4 → ∀ q ∈ [(270 + 26 * s)], q < 77 ∨ 182 < q) s hs))
  have p_9 := (SCS.kp (ka4) kp_2 ((by decide : ∀ s, s < 4 → ∀ q ∈ scW, q ∉ [(270 + 26 * s)]) s hs))
  have p_10 := (PQ.kp (ka5) kp_2 ((by decide : ∀ s, s < 4 → 188 ∉ [(270 + 26 * s)]) s hs) ((by decide : ∀ s, s < 4 → 189 ∉ [(270 + 26 * s)]) s hs) ((by decide : ∀ s, s < 4 → 190 ∉ [(270 + 26 * s)]) s hs) ((by decide : ∀ s, s < 4 → 191 ∉ [(270 + 26 * s)]) s hs) ((by decide : ∀ s, s < 4 → 192 ∉ [(270 + 26 * s)]) s hs))
  have p_11 := (PQ.kp (ka6) kp_2 ((by decide : ∀ s, s < 4 → 193 ∉ [(270 + 26 * s)]) s hs) ((by decide : ∀ s, s < 4 → 194 ∉ [(270 + 26 * s)]) s hs) ((by decide : ∀ s, s < 4 → 195 ∉ [(270 + 26 * s)]) s hs) ((by decide : ∀ s, s < 4 → 196 ∉ [(270 + 26 * s)]) s hs) ((by decide : ∀ s, s < 4 → 197 ∉ [(270 + 26 * s)]) s hs))
  have p_12 := (PQ.kp (ka7) kp_2 ((by decide : ∀ s, s < 4 → 207 ∉ [(270 + 26 * s)]) s hs) ((by decide : ∀ s, s < 4 → 208 ∉ [(270 + 26 * s)]) s hs) ((by decide : ∀ s, s < 4 → 209 ∉ [(270 + 26 * s)]) s hs) ((by decide : ∀ s, s < 4 → 210 ∉ [(270 + 26 * s)]) s hs) ((by decide : ∀ s, s < 4 → 211 ∉ [(270 + 26 * s)]) s hs))
  have p_13 := (BQ.kp (ka8) kp_2 ((by decide : ∀ s, s < 4 → 198 ∉ [(270 + 26 * s)]) s hs))
  have p_14 := (BQ.kp (ka9) kp_2 ((by decide : ∀ s, s < 4 → 199 ∉ [(270 + 26 * s)]) s hs))
  have p_15 := (BQ.kp (ka10) kp_2 ((by decide : ∀ s, s < 4 → 200 ∉ [(270 + 26 * s)]) s hs))
  have p_16 := (BQ.kp (ka11) kp_2 ((by decide : ∀ s, s < 4 → 201 ∉ [(270 + 26 * s)]) s hs))
  have p_17 := (BQ.kp (ka12) kp_2 ((by decide : ∀ s, s < 4 → 202 ∉ [(270 + 26 * s)]) s hs))
  have p_18 := (BY.kp (ka13) kp_2 ((by decide : ∀ s, s < 4 → 203 ∉ [(270 + 26 * s)]) s hs) ((by decide : ∀ s, s < 4 → 204 ∉ [(270 + 26 * s)]) s hs))
  have p_19 := (BQ.kp (ka14) kp_2 ((by decide : ∀ s, s < 4 → 205 ∉ [(270 + 26 * s)]) s hs))
  have p_20 := (BQ.kp (ka15) kp_2 ((by decide : ∀ s, s < 4 → 206 ∉ [(270 + 26 * s)]) s hs))
  have p_21 := (BQ.kp (ka16) kp_2 ((by decide : ∀ s, s < 4 → 212 ∉ [(270 + 26 * s)]) s hs))
  have p_22 := (BY.kp (ka17) kp_2 ((by decide : ∀ s, s < 4 → 213 ∉ [(270 + 26 * s)]) s hs) ((by decide : ∀ s, s < 4 → 214 ∉ [(270 + 26 * s)]) s hs))
  have p_23 := (BY.kp (ka18) kp_2 ((by decide : ∀ s, s < 4 → 215 ∉ [(270 + 26 * s)]) s hs) ((by decide : ∀ s, s < 4 → 216 ∉ [(270 + 26 * s)]) s hs))
  have cB_4 : KS M_2 sd ch := ⟨p_5, p_6, p_7, p_8, p_9, p_10, p_11, p_12, p_13, p_14, p_15, p_16, p_17, ⟨_, p_18⟩, p_19, p_20, p_21, ⟨_, p_22⟩, ⟨_, p_23⟩⟩
  have p_25 := (EO.kp (xa0) kp_2 ((by decide : ∀ s, s < 4 → 217 ∉ [(270 + 26 * s)]) s hs))
  have p_26 := (BQ.kp (xa1) kp_2 ((by decide : ∀ s, s < 4 → 218 ∉ [(270 + 26 * s)]) s hs))
  have p_27 := (BQ.kp (xa2) kp_2 ((by decide : ∀ s, s < 4 → 219 ∉ [(270 + 26 * s)]) s hs))
  have p_28 := (BQ.kp (xa3) kp_2 ((by decide : ∀ s, s < 4 → 220 ∉ [(270 + 26 * s)]) s hs))
  have p_29 := (BQ.kp (xa4) kp_2 ((by decide : ∀ s, s < 4 → 227 ∉ [(270 + 26 * s)]) s hs))
  have p_30 := (BQ.kp (xa5) kp_2 ((by decide : ∀ s, s < 4 → 228 ∉ [(270 + 26 * s)]) s hs))
  have p_31 := (BQ.kp (xa6) kp_2 ((by decide : ∀ s, s < 4 → 229 ∉ [(270 + 26 * s)]) s hs))
  have p_32 := (BQ.kp (xa7) kp_2 ((by decide : ∀ s, s < 4 → 230 ∉ [(270 + 26 * s)]) s hs))
  have p_33 := (BY.kp (xa8) kp_2 ((by decide : ∀ s, s < 4 → 221 ∉ [(270 + 26 * s)]) s hs) ((by decide : ∀ s, s < 4 → 222 ∉ [(270 + 26 * s)]) s hs))
  have p_34 := (BY.kp (xa9) kp_2 ((by decide : ∀ s, s < 4 → 223 ∉ [(270 + 26 * s)]) s hs) ((by decide : ∀ s, s < 4 → 224 ∉ [(270 + 26 * s)]) s hs))
  have p_35 := (BY.kp (xa10) kp_2 ((by decide : ∀ s, s < 4 → 225 ∉ [(270 + 26 * s)]) s hs) ((by decide : ∀ s, s < 4 → 226 ∉ [(270 + 26 * s)]) s hs))
  have cB_24 : EXS M_2 := ⟨p_25, p_26, p_27, p_28, p_29, p_30, p_31, p_32, ⟨_, p_33⟩, ⟨_, p_34⟩, ⟨_, p_35⟩⟩
  have p_37 := (VO.kp (va0) kp_2 ((by decide : ∀ s, s < 4 → 231 ∉ [(270 + 26 * s)]) s hs) ((by decide : ∀ s, s < 4 → 232 ∉ [(270 + 26 * s)]) s hs))
  have p_38 := (BY.kp (va1) kp_2 ((by decide : ∀ s, s < 4 → 233 ∉ [(270 + 26 * s)]) s hs) ((by decide : ∀ s, s < 4 → 234 ∉ [(270 + 26 * s)]) s hs))
  have p_39 := (BY.kp (va2) kp_2 ((by decide : ∀ s, s < 4 → 235 ∉ [(270 + 26 * s)]) s hs) ((by decide : ∀ s, s < 4 → 236 ∉ [(270 + 26 * s)]) s hs))
  have p_40 := (BY.kp (va3) kp_2 ((by decide : ∀ s, s < 4 → 237 ∉ [(270 + 26 * s)]) s hs) ((by decide : ∀ s, s < 4 → 238 ∉ [(270 + 26 * s)]) s hs))
  have p_41 := (BY.kp (va4) kp_2 ((by decide : ∀ s, s < 4 → 239 ∉ [(270 + 26 * s)]) s hs) ((by decide : ∀ s, s < 4 → 240 ∉ [(270 + 26 * s)]) s hs))
  have p_42 := (BQ.kp (va5) kp_2 ((by decide : ∀ s, s < 4 → 245 ∉ [(270 + 26 * s)]) s hs))
  have p_43 := (BQ.kp (va6) kp_2 ((by decide : ∀ s, s < 4 → 246 ∉ [(270 + 26 * s)]) s hs))
  have p_44 := (BQ.kp (va7) kp_2 ((by decide : ∀ s, s < 4 → 247 ∉ [(270 + 26 * s)]) s hs))
  have cB_36 : SVS M_2 := ⟨p_37, ⟨_, p_38⟩, ⟨_, p_39⟩, ⟨_, p_40⟩, ⟨_, p_41⟩, p_42, p_43, p_44⟩
  have p_46 := (SO.kp (ea0) kp_2 ((by decide : ∀ s, s < 4 → (265 + 26 * s) ∉ [(270 + 26 * s)]) s hs) ((by decide : ∀ s, s < 4 → (266 + 26 * s) ∉ [(270 + 26 * s)]) s hs) ((by decide : ∀ s, s < 4 → (267 + 26 * s) ∉ [(270 + 26 * s)]) s hs))
  have p_47 := (BY.kp (ea1) kp_2 ((by decide : ∀ s, s < 4 → (279 + 26 * s) ∉ [(270 + 26 * s)]) s hs) ((by decide : ∀ s, s < 4 → (280 + 26 * s) ∉ [(270 + 26 * s)]) s hs))
  have p_48 := (BY.kp (ea2) kp_2 ((by decide : ∀ s, s < 4 → (281 + 26 * s) ∉ [(270 + 26 * s)]) s hs) ((by decide : ∀ s, s < 4 → (282 + 26 * s) ∉ [(270 + 26 * s)]) s hs))
  have p_49 := (BY.kp (ea3) kp_2 ((by decide : ∀ s, s < 4 → (283 + 26 * s) ∉ [(270 + 26 * s)]) s hs) ((by decide : ∀ s, s < 4 → (284 + 26 * s) ∉ [(270 + 26 * s)]) s hs))
  have p_50 := (BY.kp (ea4) kp_2 ((by decide : ∀ s, s < 4 → (285 + 26 * s) ∉ [(270 + 26 * s)]) s hs) ((by decide : ∀ s, s < 4 → (286 + 26 * s) ∉ [(270 + 26 * s)]) s hs))
  have p_51 := (BY.kp (ea5) kp_2 ((by decide : ∀ s, s < 4 → (287 + 26 * s) ∉ [(270 + 26 * s)]) s hs) ((by decide : ∀ s, s < 4 → (288 + 26 * s) ∉ [(270 + 26 * s)]) s hs))
  have p_52 := (BY.kp (ea6) kp_2 ((by decide : ∀ s, s < 4 → (289 + 26 * s) ∉ [(270 + 26 * s)]) s hs) ((by decide : ∀ s, s < 4 → (290 + 26 * s) ∉ [(270 + 26 * s)]) s hs))
  have p_53 := (BA.kp (ea7) kp_2 ((by decide : ∀ s, s < 4 → (268 + 26 * s) ∉ [(270 + 26 * s)]) s hs))
  have p_54 := (BA.kp (ea8) kp_2 ((by decide : ∀ s, s < 4 → (269 + 26 * s) ∉ [(270 + 26 * s)]) s hs))
  have p_55 := (BY.kp (ea10) kp_2 ((by decide : ∀ s, s < 4 → (271 + 26 * s) ∉ [(270 + 26 * s)]) s hs) ((by decide : ∀ s, s < 4 → (272 + 26 * s) ∉ [(270 + 26 * s)]) s hs))
  have p_56 := (BY.kp (ea11) kp_2 ((by decide : ∀ s, s < 4 → (273 + 26 * s) ∉ [(270 + 26 * s)]) s hs) ((by decide : ∀ s, s < 4 → (274 + 26 * s) ∉ [(270 + 26 * s)]) s hs))
  have p_57 := (BY.kp (ea12) kp_2 ((by decide : ∀ s, s < 4 → (275 + 26 * s) ∉ [(270 + 26 * s)]) s hs) ((by decide : ∀ s, s < 4 → (276 + 26 * s) ∉ [(270 + 26 * s)]) s hs))
  have p_58 := (BA.kp (ea13) kp_2 ((by decide : ∀ s, s < 4 → (277 + 26 * s) ∉ [(270 + 26 * s)]) s hs))
  have p_59 := (BA.kp (ea14) kp_2 ((by decide : ∀ s, s < 4 → (278 + 26 * s) ∉ [(270 + 26 * s)]) s hs))
  have cS_45 : SES M_2 s u (updB t 0 true) C b x := ⟨p_46, p_47, p_48, p_49, p_50, p_51, p_52, p_53, p_54, z_2, p_55, p_56, ⟨_, p_57⟩, p_58, p_59⟩
  have p_61 := (SVD.kp (hsv) kp_2 ((by decide : ∀ s, s < 4 → 241 ∉ [(270 + 26 * s)]) s hs) ((by decide : ∀ s, s < 4 → 242 ∉ [(270 + 26 * s)]) s hs) ((by decide : ∀ s, s < 4 → 243 ∉ [(270 + 26 * s)]) s hs) ((by decide : ∀ s, s < 4 → 244 ∉ [(270 + 26 * s)]) s hs))
  have p_62 := (BY.kp (hrc) kp_2 ((by decide : ∀ s, s < 4 → ∀ u, u < 8 → (248 + 2 * u) ∉ [(270 + 26 * s)]) s hs u hu) ((by decide : ∀ s, s < 4 → ∀ u, u < 8 → (249 + 2 * u) ∉ [(270 + 26 * s)]) s hs u hu))
  refine T_virtual (as := [.ref 62, .ref 217, .ref (265 + 26 * s)]) (rest := []) (b := 231) d_PG_answer_37 rfl (jw_Se_reply.jo (by decide)) lm_PG_142 ji_Se_reply js_Se_reply p_37.1 rfl rfl rfl (Nat.le_of_ble_eq_true rfl) (by decide) (by decide) (y_Se_reply_A hs hu hd1 hd2 h0 hRec hd3 hC hX hM hJ hP cB_4 cB_24 cB_36 p_61 p_62 cS_45 hc0 hc1) (fun r M_60 hq => ?_)
  obtain ⟨rfl, k2, x2, v2, o2, e2, ⟨W_60, kp_60, hW_60⟩⟩ := hq
  refine T_eq (pc' := 40) (L' := [(2, .ref (265 + 26 * s)), (0, .ref 61), (1, .int (nI s))]) (st' := [.int (nI 0)]) (M' := M_60) rfl rfl rfl rfl ?_
  refine T_goto (tgt := 44) d_PG_answer_40 rfl ?_
  exact T_ret d_PG_answer_44 rfl rfl (by decide) (by decide) ⟨rfl, k2, x2, v2, o2, e2, (KR.tr (KR.tr KR.rf kp_2 ((by decide +kernel : ∀ s, s < 4 → ∀ q ∈ [(270 + 26 * s)], InZ s q) s hs)) kp_60 (fun q hq => (fun q h => h : ∀ q, InZ s q → InZ s q) q (hW_60 q hq)))⟩
set_option maxHeartbeats 8000000 in
theorem y_PG_answer_B {G : GX} {M : List va_E} {sd : Int32} {ch u s b x xs : Nat} {t : Nat → Bool} {C : List (List UInt8)} {lr rec c2 m2 J P : List UInt8} (hs : s < 4) (hu : u < 8) (hdue : (decide (cg C 0 ≠ []) && !t 0) = true) (hd1 : dec (nB (cg C 0) 0)) (hd2 : dec (nB (cg C 0) 64)) (h0 : lr = rec) (lrec : rec.length = 192) (hd3 : dec (nB rec 0)) (hC : crd (enc (emul fD (dPt (nB (cg C 0) 0)) (usK sd u)) ++ sl (chance sd (nI ch)) 0 32) (pub (ownK sd) ++ sl rec 96 96) (sl rec 32 64) = c2) (hX : scal (chance sd (nI (ch + 2))) = xs) (hM : (c2 ++ sl (chance sd (nI (ch + 1))) 0 32) ++ pub xs = m2) (hJ : (([] ++ enc (emul fD (dPt (nB (cg C 0) 64)) xs)) ++ enc (emul fD (dPt (nB (cg C 0) 64)) (ownK sd))) ++ enc (emul fD (dPt (nB rec 0)) xs) = J) (hP : pre8 rec (cg C 0) (pub (ownK sd)) m2 = P) (hgo : GO M 61 264) (hks : KS M sd ch) (hex : EXS M) (hvs : SVS M) (hsv : SVD M sd) (hrc : BY M (248 + 2 * u) (249 + 2 * u) 192 lr) (hse : SES M s u t C b x) (hc0 : (cg C 0).length = 96) (hc1 : cg C 1 = []) : CT G mi_PG_answer [.ref 61, .int (nI s)] M (fun r M' => r = some (.int (nI 0)) ∧ KS M' sd (ch + 3) ∧ EXS M' ∧ SVS M' ∧ SVO M' sd ∧ SES M' s u (updB t 0 true) [cg C 0, m2 ++ xSrv J P, cg C 2, cg C 3, cg C 4, cg C 5, xCli J P, xSess J P, cg C 8, cg C 9] b x ∧ KR (InZ s) M M') := by
  obtain ⟨ka0, ka1, ka2, ka3, ka4, ka5, ka6, ka7, ka8, ka9, ka10, ka11, ka12, ⟨kl13, ka13⟩, ka14, ka15, ka16, ⟨kl17, ka17⟩, ⟨kl18, ka18⟩⟩ := id hks
  obtain ⟨xa0, xa1, xa2, xa3, xa4, xa5, xa6, xa7, ⟨xl8, xa8⟩, ⟨xl9, xa9⟩, ⟨xl10, xa10⟩⟩ := id hex
  obtain ⟨va0, ⟨vl1, va1⟩, ⟨vl2, va2⟩, ⟨vl3, va3⟩, ⟨vl4, va4⟩, va5, va6, va7⟩ := id hvs
  obtain ⟨ea0, ea1, ea2, ea3, ea4, ea5, ea6, ea7, ea8, ea9, ea10, ea11, ⟨el12, ea12⟩, ea13, ea14⟩ := id hse
  have b1 : bN true = 1 := rfl
  refine CT.of (by decide) (Nat.le_of_ble_eq_true rfl) ?_
  show TT G mi_PG_answer 0 [(0, .ref 61), (1, .int (nI s))] [] M 0 0 _
  refine T_iload_n d_PG_answer_0 rfl ?_
  refine T_static (as := [.int (nI s)]) (rest := []) d_PG_answer_1 rfl (jw_PG_isSession.jo (by decide)) lm_PG_133 jt_PG_isSession rfl (Nat.le_of_ble_eq_true rfl) (by decide) (by decide) (y_PG_isSession_in hs) (fun r M_1 hq => ?_)
  obtain ⟨rfl, he⟩ := hq
  obtain rfl := he.symm
  refine T_eq (pc' := 4) (L' := [(0, .ref 61), (1, .int (nI s))]) (st' := [.int (nI 1)]) (M' := M) rfl rfl rfl rfl ?_
  refine N_if_ne_t (b := 1) d_PG_answer_4 (tgt := 9) rfl (by omega) (by omega) ?_
  refine T_aload_n (v := .ref 61) d_PG_answer_9 rfl (Or.inr ⟨_, rfl⟩) ?_
  refine T_getfield (v := .ref 264) d_PG_answer_10 fg_PG_34 hgo.1 rfl ?_
  refine T_iload_n d_PG_answer_13 rfl ?_
  refine N_aaload (k := s) (p := (265 + 26 * s)) (C0 := "PasswordGate$Session") d_PG_answer_14 (by decide) hgo.2 rfl (by omega) (by decide) (if_pos hs) ?_
  refine T_astore_n (L' := [(2, .ref (265 + 26 * s)), (0, .ref 61), (1, .int (nI s))]) d_PG_answer_15 (by decide) rfl (Or.inr ⟨_, rfl⟩) ?_
  refine T_aload_n (v := .ref (265 + 26 * s)) d_PG_answer_16 rfl (Or.inr ⟨_, rfl⟩) ?_
  refine T_iconst (v := nI 0) d_PG_answer_17 (by decide) ?_
  refine T_virtual (as := [.int (nI 0)]) (rest := []) (b := (265 + 26 * s)) d_PG_answer_18 rfl (jw_Ss_take.jo (by decide)) lm_PG_139 ji_Ss_take js_Ss_take ea0.1 rfl rfl rfl (Nat.le_of_ble_eq_true rfl) (by decide) (by decide) (y_Ss_take_0 hs ea0 ea1 ea9) (fun r M_2 hq => ?_)
  obtain ⟨rfl, z_2, kp_2⟩ := hq
  rw [hdue] at z_2
  rw [hdue]
  refine T_eq (pc' := 21) (L' := [(2, .ref (265 + 26 * s)), (0, .ref 61), (1, .int (nI s))]) (st' := [.int (nI ((bN true)))]) (M' := M_2) rfl rfl rfl rfl ?_
  refine N_if_eq_f (b := (bN true)) d_PG_answer_21 (tgt := 43) rfl (by omega) (by omega) ?_
  refine T_aload_n (v := .ref 61) d_PG_answer_24 rfl (Or.inr ⟨_, rfl⟩) ?_
  have h_3 := (kp_2 61 ((by decide : ∀ s, s < 4 → 61 ∉ [(270 + 26 * s)]) s hs)).trans (hgo.1)
  refine T_getfield (v := .ref 231) d_PG_answer_25 fg_PG_28 h_3 rfl ?_
  refine T_aload_n (v := .ref 61) d_PG_answer_28 rfl (Or.inr ⟨_, rfl⟩) ?_
  refine T_getfield (v := .ref 62) d_PG_answer_29 fg_PG_12 h_3 rfl ?_
  refine T_aload_n (v := .ref 61) d_PG_answer_32 rfl (Or.inr ⟨_, rfl⟩) ?_
  refine T_getfield (v := .ref 217) d_PG_answer_33 fg_PG_21 h_3 rfl ?_
  refine T_aload_n (v := .ref (265 + 26 * s)) d_PG_answer_36 rfl (Or.inr ⟨_, rfl⟩) ?_
  have p_5 := (KO.kp (ka0) kp_2 ((by decide : ∀ s, s < 4 → 62 ∉ [(270 + 26 * s)]) s hs))
  have p_6 := (DQ.kp (ka1) kp_2 ((by decide : ∀ s, s < 4 → 63 ∉ [(270 + 26 * s)]) s hs) ((by decide : ∀ s, s < 4 → 64 ∉ [(270 + 26 * s)]) s hs) ((by decide : ∀ s, s < 4 → 65 ∉ [(270 + 26 * s)]) s hs))
  have p_7 := (KY.kp (ka2) kp_2 ((by decide : ∀ s, s < 4 → ∀ q ∈ [(270 + 26 * s)], q < 66 ∨ 76 < q) s hs))
  have p_8 := (CU.kp (ka3) kp_2 ((by decide : ∀ s, s < 4 → ∀ q ∈ [(270 + 26 * s)], q < 77 ∨ 182 < q) s hs))
  have p_9 := (SCS.kp (ka4) kp_2 ((by decide : ∀ s, s < 4 → ∀ q ∈ scW, q ∉ [(270 + 26 * s)]) s hs))
  have p_10 := (PQ.kp (ka5) kp_2 ((by decide : ∀ s, s < 4 → 188 ∉ [(270 + 26 * s)]) s hs) ((by decide : ∀ s, s < 4 → 189 ∉ [(270 + 26 * s)]) s hs) ((by decide : ∀ s, s < 4 → 190 ∉ [(270 + 26 * s)]) s hs) ((by decide : ∀ s, s < 4 → 191 ∉ [(270 + 26 * s)]) s hs) ((by decide : ∀ s, s < 4 → 192 ∉ [(270 + 26 * s)]) s hs))
  have p_11 := (PQ.kp (ka6) kp_2 ((by decide : ∀ s, s < 4 → 193 ∉ [(270 + 26 * s)]) s hs) ((by decide : ∀ s, s < 4 → 194 ∉ [(270 + 26 * s)]) s hs) ((by decide : ∀ s, s < 4 → 195 ∉ [(270 + 26 * s)]) s hs) ((by decide : ∀ s, s < 4 → 196 ∉ [(270 + 26 * s)]) s hs) ((by decide : ∀ s, s < 4 → 197 ∉ [(270 + 26 * s)]) s hs))
  have p_12 := (PQ.kp (ka7) kp_2 ((by decide : ∀ s, s < 4 → 207 ∉ [(270 + 26 * s)]) s hs) ((by decide : ∀ s, s < 4 → 208 ∉ [(270 + 26 * s)]) s hs) ((by decide : ∀ s, s < 4 → 209 ∉ [(270 + 26 * s)]) s hs) ((by decide : ∀ s, s < 4 → 210 ∉ [(270 + 26 * s)]) s hs) ((by decide : ∀ s, s < 4 → 211 ∉ [(270 + 26 * s)]) s hs))
  have p_13 := (BQ.kp (ka8) kp_2 ((by decide : ∀ s, s < 4 → 198 ∉ [(270 + 26 * s)]) s hs))
  have p_14 := (BQ.kp (ka9) kp_2 ((by decide : ∀ s, s < 4 → 199 ∉ [(270 + 26 * s)]) s hs))
  have p_15 := (BQ.kp (ka10) kp_2 ((by decide : ∀ s, s < 4 → 200 ∉ [(270 + 26 * s)]) s hs))
  have p_16 := (BQ.kp (ka11) kp_2 ((by decide : ∀ s, s < 4 → 201 ∉ [(270 + 26 * s)]) s hs))
  have p_17 := (BQ.kp (ka12) kp_2 ((by decide : ∀ s, s < 4 → 202 ∉ [(270 + 26 * s)]) s hs))
  have p_18 := (BY.kp (ka13) kp_2 ((by decide : ∀ s, s < 4 → 203 ∉ [(270 + 26 * s)]) s hs) ((by decide : ∀ s, s < 4 → 204 ∉ [(270 + 26 * s)]) s hs))
  have p_19 := (BQ.kp (ka14) kp_2 ((by decide : ∀ s, s < 4 → 205 ∉ [(270 + 26 * s)]) s hs))
  have p_20 := (BQ.kp (ka15) kp_2 ((by decide : ∀ s, s < 4 → 206 ∉ [(270 + 26 * s)]) s hs))
  have p_21 := (BQ.kp (ka16) kp_2 ((by decide : ∀ s, s < 4 → 212 ∉ [(270 + 26 * s)]) s hs))
  have p_22 := (BY.kp (ka17) kp_2 ((by decide : ∀ s, s < 4 → 213 ∉ [(270 + 26 * s)]) s hs) ((by decide : ∀ s, s < 4 → 214 ∉ [(270 + 26 * s)]) s hs))
  have p_23 := (BY.kp (ka18) kp_2 ((by decide : ∀ s, s < 4 → 215 ∉ [(270 + 26 * s)]) s hs) ((by decide : ∀ s, s < 4 → 216 ∉ [(270 + 26 * s)]) s hs))
  have cB_4 : KS M_2 sd ch := ⟨p_5, p_6, p_7, p_8, p_9, p_10, p_11, p_12, p_13, p_14, p_15, p_16, p_17, ⟨_, p_18⟩, p_19, p_20, p_21, ⟨_, p_22⟩, ⟨_, p_23⟩⟩
  have p_25 := (EO.kp (xa0) kp_2 ((by decide : ∀ s, s < 4 → 217 ∉ [(270 + 26 * s)]) s hs))
  have p_26 := (BQ.kp (xa1) kp_2 ((by decide : ∀ s, s < 4 → 218 ∉ [(270 + 26 * s)]) s hs))
  have p_27 := (BQ.kp (xa2) kp_2 ((by decide : ∀ s, s < 4 → 219 ∉ [(270 + 26 * s)]) s hs))
  have p_28 := (BQ.kp (xa3) kp_2 ((by decide : ∀ s, s < 4 → 220 ∉ [(270 + 26 * s)]) s hs))
  have p_29 := (BQ.kp (xa4) kp_2 ((by decide : ∀ s, s < 4 → 227 ∉ [(270 + 26 * s)]) s hs))
  have p_30 := (BQ.kp (xa5) kp_2 ((by decide : ∀ s, s < 4 → 228 ∉ [(270 + 26 * s)]) s hs))
  have p_31 := (BQ.kp (xa6) kp_2 ((by decide : ∀ s, s < 4 → 229 ∉ [(270 + 26 * s)]) s hs))
  have p_32 := (BQ.kp (xa7) kp_2 ((by decide : ∀ s, s < 4 → 230 ∉ [(270 + 26 * s)]) s hs))
  have p_33 := (BY.kp (xa8) kp_2 ((by decide : ∀ s, s < 4 → 221 ∉ [(270 + 26 * s)]) s hs) ((by decide : ∀ s, s < 4 → 222 ∉ [(270 + 26 * s)]) s hs))
  have p_34 := (BY.kp (xa9) kp_2 ((by decide : ∀ s, s < 4 → 223 ∉ [(270 + 26 * s)]) s hs) ((by decide : ∀ s, s < 4 → 224 ∉ [(270 + 26 * s)]) s hs))
  have p_35 := (BY.kp (xa10) kp_2 ((by decide : ∀ s, s < 4 → 225 ∉ [(270 + 26 * s)]) s hs) ((by decide : ∀ s, s < 4 → 226 ∉ [(270 + 26 * s)]) s hs))
  have cB_24 : EXS M_2 := ⟨p_25, p_26, p_27, p_28, p_29, p_30, p_31, p_32, ⟨_, p_33⟩, ⟨_, p_34⟩, ⟨_, p_35⟩⟩
  have p_37 := (VO.kp (va0) kp_2 ((by decide : ∀ s, s < 4 → 231 ∉ [(270 + 26 * s)]) s hs) ((by decide : ∀ s, s < 4 → 232 ∉ [(270 + 26 * s)]) s hs))
  have p_38 := (BY.kp (va1) kp_2 ((by decide : ∀ s, s < 4 → 233 ∉ [(270 + 26 * s)]) s hs) ((by decide : ∀ s, s < 4 → 234 ∉ [(270 + 26 * s)]) s hs))
  have p_39 := (BY.kp (va2) kp_2 ((by decide : ∀ s, s < 4 → 235 ∉ [(270 + 26 * s)]) s hs) ((by decide : ∀ s, s < 4 → 236 ∉ [(270 + 26 * s)]) s hs))
  have p_40 := (BY.kp (va3) kp_2 ((by decide : ∀ s, s < 4 → 237 ∉ [(270 + 26 * s)]) s hs) ((by decide : ∀ s, s < 4 → 238 ∉ [(270 + 26 * s)]) s hs))
  have p_41 := (BY.kp (va4) kp_2 ((by decide : ∀ s, s < 4 → 239 ∉ [(270 + 26 * s)]) s hs) ((by decide : ∀ s, s < 4 → 240 ∉ [(270 + 26 * s)]) s hs))
  have p_42 := (BQ.kp (va5) kp_2 ((by decide : ∀ s, s < 4 → 245 ∉ [(270 + 26 * s)]) s hs))
  have p_43 := (BQ.kp (va6) kp_2 ((by decide : ∀ s, s < 4 → 246 ∉ [(270 + 26 * s)]) s hs))
  have p_44 := (BQ.kp (va7) kp_2 ((by decide : ∀ s, s < 4 → 247 ∉ [(270 + 26 * s)]) s hs))
  have cB_36 : SVS M_2 := ⟨p_37, ⟨_, p_38⟩, ⟨_, p_39⟩, ⟨_, p_40⟩, ⟨_, p_41⟩, p_42, p_43, p_44⟩
  have p_46 := (SO.kp (ea0) kp_2 ((by decide : ∀ s, s < 4 → (265 + 26 * s) ∉ [(270 + 26 * s)]) s hs) ((by decide : ∀ s, s < 4 → (266 + 26 * s) ∉ [(270 + 26 * s)]) s hs) ((by decide : ∀ s, s < 4 → (267 + 26 * s) ∉ [(270 + 26 * s)]) s hs))
  have p_47 := (BY.kp (ea1) kp_2 ((by decide : ∀ s, s < 4 → (279 + 26 * s) ∉ [(270 + 26 * s)]) s hs) ((by decide : ∀ s, s < 4 → (280 + 26 * s) ∉ [(270 + 26 * s)]) s hs))
  have p_48 := (BY.kp (ea2) kp_2 ((by decide : ∀ s, s < 4 → (281 + 26 * s) ∉ [(270 + 26 * s)]) s hs) ((by decide : ∀ s, s < 4 → (282 + 26 * s) ∉ [(270 + 26 * s)]) s hs))
  have p_49 := (BY.kp (ea3) kp_2 ((by decide : ∀ s, s < 4 → (283 + 26 * s) ∉ [(270 + 26 * s)]) s hs) ((by decide : ∀ s, s < 4 → (284 + 26 * s) ∉ [(270 + 26 * s)]) s hs))
  have p_50 := (BY.kp (ea4) kp_2 ((by decide : ∀ s, s < 4 → (285 + 26 * s) ∉ [(270 + 26 * s)]) s hs) ((by decide : ∀ s, s < 4 → (286 + 26 * s) ∉ [(270 + 26 * s)]) s hs))
  have p_51 := (BY.kp (ea5) kp_2 ((by decide : ∀ s, s < 4 → (287 + 26 * s) ∉ [(270 + 26 * s)]) s hs) ((by decide : ∀ s, s < 4 → (288 + 26 * s) ∉ [(270 + 26 * s)]) s hs))
  have p_52 := (BY.kp (ea6) kp_2 ((by decide : ∀ s, s < 4 → (289 + 26 * s) ∉ [(270 + 26 * s)]) s hs) ((by decide : ∀ s, s < 4 → (290 + 26 * s) ∉ [(270 + 26 * s)]) s hs))
  have p_53 := (BA.kp (ea7) kp_2 ((by decide : ∀ s, s < 4 → (268 + 26 * s) ∉ [(270 + 26 * s)]) s hs))
  have p_54 := (BA.kp (ea8) kp_2 ((by decide : ∀ s, s < 4 → (269 + 26 * s) ∉ [(270 + 26 * s)]) s hs))
  have p_55 := (BY.kp (ea10) kp_2 ((by decide : ∀ s, s < 4 → (271 + 26 * s) ∉ [(270 + 26 * s)]) s hs) ((by decide : ∀ s, s < 4 → (272 + 26 * s) ∉ [(270 + 26 * s)]) s hs))
  have p_56 := (BY.kp (ea11) kp_2 ((by decide : ∀ s, s < 4 → (273 + 26 * s) ∉ [(270 + 26 * s)]) s hs) ((by decide : ∀ s, s < 4 → (274 + 26 * s) ∉ [(270 + 26 * s)]) s hs))
  have p_57 := (BY.kp (ea12) kp_2 ((by decide : ∀ s, s < 4 → (275 + 26 * s) ∉ [(270 + 26 * s)]) s hs) ((by decide : ∀ s, s < 4 → (276 + 26 * s) ∉ [(270 + 26 * s)]) s hs))
  have p_58 := (BA.kp (ea13) kp_2 ((by decide : ∀ s, s < 4 → (277 + 26 * s) ∉ [(270 + 26 * s)]) s hs))
  have p_59 := (BA.kp (ea14) kp_2 ((by decide : ∀ s, s < 4 → (278 + 26 * s) ∉ [(270 + 26 * s)]) s hs))
  have cS_45 : SES M_2 s u (updB t 0 true) C b x := ⟨p_46, p_47, p_48, p_49, p_50, p_51, p_52, p_53, p_54, z_2, p_55, p_56, ⟨_, p_57⟩, p_58, p_59⟩
  have p_61 := (SVD.kp (hsv) kp_2 ((by decide : ∀ s, s < 4 → 241 ∉ [(270 + 26 * s)]) s hs) ((by decide : ∀ s, s < 4 → 242 ∉ [(270 + 26 * s)]) s hs) ((by decide : ∀ s, s < 4 → 243 ∉ [(270 + 26 * s)]) s hs) ((by decide : ∀ s, s < 4 → 244 ∉ [(270 + 26 * s)]) s hs))
  have p_62 := (BY.kp (hrc) kp_2 ((by decide : ∀ s, s < 4 → ∀ u, u < 8 → (248 + 2 * u) ∉ [(270 + 26 * s)]) s hs u hu) ((by decide : ∀ s, s < 4 → ∀ u, u < 8 → (249 + 2 * u) ∉ [(270 + 26 * s)]) s hs u hu))
  refine T_virtual (as := [.ref 62, .ref 217, .ref (265 + 26 * s)]) (rest := []) (b := 231) d_PG_answer_37 rfl (jw_Se_reply.jo (by decide)) lm_PG_142 ji_Se_reply js_Se_reply p_37.1 rfl rfl rfl (Nat.le_of_ble_eq_true rfl) (by decide) (by decide) (y_Se_reply_B hs hu hd1 hd2 h0 lrec hd3 hC hX hM hJ hP cB_4 cB_24 cB_36 p_61 p_62 cS_45 hc0 hc1) (fun r M_60 hq => ?_)
  obtain ⟨rfl, k2, x2, v2, o2, e2, ⟨W_60, kp_60, hW_60⟩⟩ := hq
  refine T_eq (pc' := 40) (L' := [(2, .ref (265 + 26 * s)), (0, .ref 61), (1, .int (nI s))]) (st' := [.int (nI 0)]) (M' := M_60) rfl rfl rfl rfl ?_
  refine T_goto (tgt := 44) d_PG_answer_40 rfl ?_
  exact T_ret d_PG_answer_44 rfl rfl (by decide) (by decide) ⟨rfl, k2, x2, v2, o2, e2, (KR.tr (KR.tr KR.rf kp_2 ((by decide +kernel : ∀ s, s < 4 → ∀ q ∈ [(270 + 26 * s)], InZ s q) s hs)) kp_60 (fun q hq => (fun q h => h : ∀ q, InZ s q → InZ s q) q (hW_60 q hq)))⟩
abbrev InKit (q : Nat) : Prop := 62 ≤ q ∧ q ≤ 216
theorem InKit_R {s : Nat} (q : Nat) (h : InKit q) : InR s q := by omega
set_option maxHeartbeats 8000000 in
theorem y_PG_answer_no {G : GX} {M : List va_E} {sd : Int32} {ch u s b x : Nat} {t : Nat → Bool} {C : List (List UInt8)} (hs : s < 4) (hdue : (decide (cg C 0 ≠ []) && !t 0) = true) (hno : ¬ (dec (nB (cg C 0) 0) ∧ dec (nB (cg C 0) 64))) (hgo : GO M 61 264) (hks : KS M sd ch) (hvo : VO M 231 232) (hse : SES M s u t C b x) (hc0 : (cg C 0).length = 96) : CT G mi_PG_answer [.ref 61, .int (nI s)] M (fun r M' => r = some (.int (nI 1)) ∧ KS M' sd ch ∧ SES M' s u (updB t 0 true) C b x ∧ KR (InR s) M M') := by
  obtain ⟨ka0, ka1, ka2, ka3, ka4, ka5, ka6, ka7, ka8, ka9, ka10, ka11, ka12, ⟨kl13, ka13⟩, ka14, ka15, ka16, ⟨kl17, ka17⟩, ⟨kl18, ka18⟩⟩ := id hks
  obtain ⟨ea0, ea1, ea2, ea3, ea4, ea5, ea6, ea7, ea8, ea9, ea10, ea11, ⟨el12, ea12⟩, ea13, ea14⟩ := id hse
  have b1 : bN true = 1 := rfl
  refine CT.of (by decide) (Nat.le_of_ble_eq_true rfl) ?_
  show TT G mi_PG_answer 0 [(0, .ref 61), (1, .int (nI s))] [] M 0 0 _
  refine T_iload_n d_PG_answer_0 rfl ?_
  refine T_static (as := [.int (nI s)]) (rest := []) d_PG_answer_1 rfl (jw_PG_isSession.jo (by decide)) lm_PG_133 jt_PG_isSession rfl (Nat.le_of_ble_eq_true rfl) (by decide) (by decide) (y_PG_isSession_in hs) (fun r M_1 hq => ?_)
  obtain ⟨rfl, he⟩ := hq
  obtain rfl := he.symm
  refine T_eq (pc' := 4) (L' := [(0, .ref 61), (1, .int (nI s))]) (st' := [.int (nI 1)]) (M' := M) rfl rfl rfl rfl ?_
  refine N_if_ne_t (b := 1) d_PG_answer_4 (tgt := 9) rfl (by omega) (by omega) ?_
  refine T_aload_n (v := .ref 61) d_PG_answer_9 rfl (Or.inr ⟨_, rfl⟩) ?_
  refine T_getfield (v := .ref 264) d_PG_answer_10 fg_PG_34 hgo.1 rfl ?_
  refine T_iload_n d_PG_answer_13 rfl ?_
  refine N_aaload (k := s) (p := (265 + 26 * s)) (C0 := "PasswordGate$Session") d_PG_answer_14 (by decide) hgo.2 rfl (by omega) (by decide) (if_pos hs) ?_
  refine T_astore_n (L' := [(2, .ref (265 + 26 * s)), (0, .ref 61), (1, .int (nI s))]) d_PG_answer_15 (by decide) rfl (Or.inr ⟨_, rfl⟩) ?_
  refine T_aload_n (v := .ref (265 + 26 * s)) d_PG_answer_16 rfl (Or.inr ⟨_, rfl⟩) ?_
  refine T_iconst (v := nI 0) d_PG_answer_17 (by decide) ?_
  refine T_virtual (as := [.int (nI 0)]) (rest := []) (b := (265 + 26 * s)) d_PG_answer_18 rfl (jw_Ss_take.jo (by decide)) lm_PG_139 ji_Ss_take js_Ss_take ea0.1 rfl rfl rfl (Nat.le_of_ble_eq_true rfl) (by decide) (by decide) (y_Ss_take_0 hs ea0 ea1 ea9) (fun r M_2 hq => ?_)
  obtain ⟨rfl, z_2, kp_2⟩ := hq
  rw [hdue] at z_2
  rw [hdue]
  refine T_eq (pc' := 21) (L' := [(2, .ref (265 + 26 * s)), (0, .ref 61), (1, .int (nI s))]) (st' := [.int (nI ((bN true)))]) (M' := M_2) rfl rfl rfl rfl ?_
  refine N_if_eq_f (b := (bN true)) d_PG_answer_21 (tgt := 43) rfl (by omega) (by omega) ?_
  refine T_aload_n (v := .ref 61) d_PG_answer_24 rfl (Or.inr ⟨_, rfl⟩) ?_
  have h_3 := (kp_2 61 ((by decide : ∀ s, s < 4 → 61 ∉ [(270 + 26 * s)]) s hs)).trans (hgo.1)
  refine T_getfield (v := .ref 231) d_PG_answer_25 fg_PG_28 h_3 rfl ?_
  refine T_aload_n (v := .ref 61) d_PG_answer_28 rfl (Or.inr ⟨_, rfl⟩) ?_
  refine T_getfield (v := .ref 62) d_PG_answer_29 fg_PG_12 h_3 rfl ?_
  refine T_aload_n (v := .ref 61) d_PG_answer_32 rfl (Or.inr ⟨_, rfl⟩) ?_
  refine T_getfield (v := .ref 217) d_PG_answer_33 fg_PG_21 h_3 rfl ?_
  refine T_aload_n (v := .ref (265 + 26 * s)) d_PG_answer_36 rfl (Or.inr ⟨_, rfl⟩) ?_
  have p_5 := (KO.kp (ka0) kp_2 ((by decide : ∀ s, s < 4 → 62 ∉ [(270 + 26 * s)]) s hs))
  have p_6 := (DQ.kp (ka1) kp_2 ((by decide : ∀ s, s < 4 → 63 ∉ [(270 + 26 * s)]) s hs) ((by decide : ∀ s, s < 4 → 64 ∉ [(270 + 26 * s)]) s hs) ((by decide : ∀ s, s < 4 → 65 ∉ [(270 + 26 * s)]) s hs))
  have p_7 := (KY.kp (ka2) kp_2 ((by decide : ∀ s, s < 4 → ∀ q ∈ [(270 + 26 * s)], q < 66 ∨ 76 < q) s hs))
  have p_8 := (CU.kp (ka3) kp_2 ((by decide : ∀ s, s < 4 → ∀ q ∈ [(270 + 26 * s)], q < 77 ∨ 182 < q) s hs))
  have p_9 := (SCS.kp (ka4) kp_2 ((by decide : ∀ s, s < 4 → ∀ q ∈ scW, q ∉ [(270 + 26 * s)]) s hs))
  have p_10 := (PQ.kp (ka5) kp_2 ((by decide : ∀ s, s < 4 → 188 ∉ [(270 + 26 * s)]) s hs) ((by decide : ∀ s, s < 4 → 189 ∉ [(270 + 26 * s)]) s hs) ((by decide : ∀ s, s < 4 → 190 ∉ [(270 + 26 * s)]) s hs) ((by decide : ∀ s, s < 4 → 191 ∉ [(270 + 26 * s)]) s hs) ((by decide : ∀ s, s < 4 → 192 ∉ [(270 + 26 * s)]) s hs))
  have p_11 := (PQ.kp (ka6) kp_2 ((by decide : ∀ s, s < 4 → 193 ∉ [(270 + 26 * s)]) s hs) ((by decide : ∀ s, s < 4 → 194 ∉ [(270 + 26 * s)]) s hs) ((by decide : ∀ s, s < 4 → 195 ∉ [(270 + 26 * s)]) s hs) ((by decide : ∀ s, s < 4 → 196 ∉ [(270 + 26 * s)]) s hs) ((by decide : ∀ s, s < 4 → 197 ∉ [(270 + 26 * s)]) s hs))
  have p_12 := (PQ.kp (ka7) kp_2 ((by decide : ∀ s, s < 4 → 207 ∉ [(270 + 26 * s)]) s hs) ((by decide : ∀ s, s < 4 → 208 ∉ [(270 + 26 * s)]) s hs) ((by decide : ∀ s, s < 4 → 209 ∉ [(270 + 26 * s)]) s hs) ((by decide : ∀ s, s < 4 → 210 ∉ [(270 + 26 * s)]) s hs) ((by decide : ∀ s, s < 4 → 211 ∉ [(270 + 26 * s)]) s hs))
  have p_13 := (BQ.kp (ka8) kp_2 ((by decide : ∀ s, s < 4 → 198 ∉ [(270 + 26 * s)]) s hs))
  have p_14 := (BQ.kp (ka9) kp_2 ((by decide : ∀ s, s < 4 → 199 ∉ [(270 + 26 * s)]) s hs))
  have p_15 := (BQ.kp (ka10) kp_2 ((by decide : ∀ s, s < 4 → 200 ∉ [(270 + 26 * s)]) s hs))
  have p_16 := (BQ.kp (ka11) kp_2 ((by decide : ∀ s, s < 4 → 201 ∉ [(270 + 26 * s)]) s hs))
  have p_17 := (BQ.kp (ka12) kp_2 ((by decide : ∀ s, s < 4 → 202 ∉ [(270 + 26 * s)]) s hs))
  have p_18 := (BY.kp (ka13) kp_2 ((by decide : ∀ s, s < 4 → 203 ∉ [(270 + 26 * s)]) s hs) ((by decide : ∀ s, s < 4 → 204 ∉ [(270 + 26 * s)]) s hs))
  have p_19 := (BQ.kp (ka14) kp_2 ((by decide : ∀ s, s < 4 → 205 ∉ [(270 + 26 * s)]) s hs))
  have p_20 := (BQ.kp (ka15) kp_2 ((by decide : ∀ s, s < 4 → 206 ∉ [(270 + 26 * s)]) s hs))
  have p_21 := (BQ.kp (ka16) kp_2 ((by decide : ∀ s, s < 4 → 212 ∉ [(270 + 26 * s)]) s hs))
  have p_22 := (BY.kp (ka17) kp_2 ((by decide : ∀ s, s < 4 → 213 ∉ [(270 + 26 * s)]) s hs) ((by decide : ∀ s, s < 4 → 214 ∉ [(270 + 26 * s)]) s hs))
  have p_23 := (BY.kp (ka18) kp_2 ((by decide : ∀ s, s < 4 → 215 ∉ [(270 + 26 * s)]) s hs) ((by decide : ∀ s, s < 4 → 216 ∉ [(270 + 26 * s)]) s hs))
  have cB_4 : KS M_2 sd ch := ⟨p_5, p_6, p_7, p_8, p_9, p_10, p_11, p_12, p_13, p_14, p_15, p_16, p_17, ⟨_, p_18⟩, p_19, p_20, p_21, ⟨_, p_22⟩, ⟨_, p_23⟩⟩
  have p_25 := (SO.kp (ea0) kp_2 ((by decide : ∀ s, s < 4 → (265 + 26 * s) ∉ [(270 + 26 * s)]) s hs) ((by decide : ∀ s, s < 4 → (266 + 26 * s) ∉ [(270 + 26 * s)]) s hs) ((by decide : ∀ s, s < 4 → (267 + 26 * s) ∉ [(270 + 26 * s)]) s hs))
  have p_26 := (BY.kp (ea1) kp_2 ((by decide : ∀ s, s < 4 → (279 + 26 * s) ∉ [(270 + 26 * s)]) s hs) ((by decide : ∀ s, s < 4 → (280 + 26 * s) ∉ [(270 + 26 * s)]) s hs))
  have p_27 := (BY.kp (ea2) kp_2 ((by decide : ∀ s, s < 4 → (281 + 26 * s) ∉ [(270 + 26 * s)]) s hs) ((by decide : ∀ s, s < 4 → (282 + 26 * s) ∉ [(270 + 26 * s)]) s hs))
  have p_28 := (BY.kp (ea3) kp_2 ((by decide : ∀ s, s < 4 → (283 + 26 * s) ∉ [(270 + 26 * s)]) s hs) ((by decide : ∀ s, s < 4 → (284 + 26 * s) ∉ [(270 + 26 * s)]) s hs))
  have p_29 := (BY.kp (ea4) kp_2 ((by decide : ∀ s, s < 4 → (285 + 26 * s) ∉ [(270 + 26 * s)]) s hs) ((by decide : ∀ s, s < 4 → (286 + 26 * s) ∉ [(270 + 26 * s)]) s hs))
  have p_30 := (BY.kp (ea5) kp_2 ((by decide : ∀ s, s < 4 → (287 + 26 * s) ∉ [(270 + 26 * s)]) s hs) ((by decide : ∀ s, s < 4 → (288 + 26 * s) ∉ [(270 + 26 * s)]) s hs))
  have p_31 := (BY.kp (ea6) kp_2 ((by decide : ∀ s, s < 4 → (289 + 26 * s) ∉ [(270 + 26 * s)]) s hs) ((by decide : ∀ s, s < 4 → (290 + 26 * s) ∉ [(270 + 26 * s)]) s hs))
  have p_32 := (BA.kp (ea7) kp_2 ((by decide : ∀ s, s < 4 → (268 + 26 * s) ∉ [(270 + 26 * s)]) s hs))
  have p_33 := (BA.kp (ea8) kp_2 ((by decide : ∀ s, s < 4 → (269 + 26 * s) ∉ [(270 + 26 * s)]) s hs))
  have p_34 := (BY.kp (ea10) kp_2 ((by decide : ∀ s, s < 4 → (271 + 26 * s) ∉ [(270 + 26 * s)]) s hs) ((by decide : ∀ s, s < 4 → (272 + 26 * s) ∉ [(270 + 26 * s)]) s hs))
  have p_35 := (BY.kp (ea11) kp_2 ((by decide : ∀ s, s < 4 → (273 + 26 * s) ∉ [(270 + 26 * s)]) s hs) ((by decide : ∀ s, s < 4 → (274 + 26 * s) ∉ [(270 + 26 * s)]) s hs))
  have p_36 := (BY.kp (ea12) kp_2 ((by decide : ∀ s, s < 4 → (275 + 26 * s) ∉ [(270 + 26 * s)]) s hs) ((by decide : ∀ s, s < 4 → (276 + 26 * s) ∉ [(270 + 26 * s)]) s hs))
  have p_37 := (BA.kp (ea13) kp_2 ((by decide : ∀ s, s < 4 → (277 + 26 * s) ∉ [(270 + 26 * s)]) s hs))
  have p_38 := (BA.kp (ea14) kp_2 ((by decide : ∀ s, s < 4 → (278 + 26 * s) ∉ [(270 + 26 * s)]) s hs))
  have cS_24 : SES M_2 s u (updB t 0 true) C b x := ⟨p_25, p_26, p_27, p_28, p_29, p_30, p_31, p_32, p_33, z_2, p_34, p_35, ⟨_, p_36⟩, p_37, p_38⟩
  have p_40 := (VO.kp (hvo) kp_2 ((by decide : ∀ s, s < 4 → 231 ∉ [(270 + 26 * s)]) s hs) ((by decide : ∀ s, s < 4 → 232 ∉ [(270 + 26 * s)]) s hs))
  refine T_virtual (as := [.ref 62, .ref 217, .ref (265 + 26 * s)]) (rest := []) (b := 231) d_PG_answer_37 rfl (jw_Se_reply.jo (by decide)) lm_PG_142 ji_Se_reply js_Se_reply p_40.1 rfl rfl rfl (Nat.le_of_ble_eq_true rfl) (by decide) (by decide) (y_Se_reply_no hs hno cB_4 p_40 cS_24 hc0) (fun r M_39 hq => ?_)
  obtain ⟨rfl, k2, ⟨W_39, kp_39, hW_39⟩⟩ := hq
  refine T_eq (pc' := 40) (L' := [(2, .ref (265 + 26 * s)), (0, .ref 61), (1, .int (nI s))]) (st' := [.int (nI 1)]) (M' := M_39) rfl rfl rfl rfl ?_
  refine T_goto (tgt := 44) d_PG_answer_40 rfl ?_
  exact T_ret d_PG_answer_44 rfl rfl (by decide) (by decide) ⟨rfl, k2, SES.kp cS_24 kp_39 (fun q hq => Or.inl (by have := hW_39 q hq; omega)), (KR.tr (KR.tr KR.rf kp_2 ((by decide +kernel : ∀ s, s < 4 → ∀ q ∈ [(270 + 26 * s)], InR s q) s hs)) kp_39 (fun q hq => InKit_R q (hW_39 q hq)))⟩

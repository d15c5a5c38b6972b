set_option maxHeartbeats 8000000 in
theorem ac_l (G : GX) {M : List va_E} {w : Nat → Int32} {l sa sb : List UInt8} {s : Nat} (hb : BG M w l) (ha : IA M 435 256 sa) (hc : IA M 436 256 sb) (sd0 : s < 4) (l1 : (64 * s) + 64 ≤ sa.length) (l2 : (64 * s) + 64 ≤ sb.length) {Q : Option Value → List va_E → Prop} (ky : (∀ i, i < 64 → gd sa ((64 * s) + i) = gd sb ((64 * s) + i)) → TT G mi_Mo_accept 82 [(1, .int (nI s)), (0, .ref 373)] [] M 0 0 Q) (kn : ¬ (∀ i, i < 64 → gd sa ((64 * s) + i) = gd sb ((64 * s) + i)) → Q (some (.int (nI 5))) M) : ∀ j k, k + j = 64 → (∀ i, i < k → gd sa ((64 * s) + i) = gd sb ((64 * s) + i)) → TT G mi_Mo_accept 43 [(2, .int (nI k)), (1, .int (nI s)), (0, .ref 373)] [] M 0 0 Q := by
  intro j
  induction j with
  | zero =>
    intro k hk hI
    obtain rfl : k = 64 := by omega
    refine T_iload_n d_Mo_accept_43 rfl ?_
    refine T_bipush (v := nI 64) d_Mo_accept_44 (by decide) ?_
    refine N_icmp_ge_t (a := 64) (b := 64) d_Mo_accept_46 (tgt := 82) rfl (by omega) (by omega) (by omega) ?_
    exact T_sub (fun q hq => List.mem_cons_of_mem _ hq) (ky hI)
  | succ j ih =>
    intro k hk hI
    have hla := ha.le
    have hlc := hc.le
    refine T_iload_n d_Mo_accept_43 rfl ?_
    refine T_bipush (v := nI 64) d_Mo_accept_44 (by decide) ?_
    refine N_icmp_ge_f (a := 64) (b := k) d_Mo_accept_46 (tgt := 82) rfl (by omega) (by omega) (by omega) ?_
    refine T_aload_n (v := .ref 373) d_Mo_accept_49 rfl (Or.inr ⟨_, rfl⟩) ?_
    obtain ⟨v_1, hov_1, hwv_1, hsv_1, hiv_1⟩ := id hb
    refine T_getfield (v := .ref 435) d_Mo_accept_50 fg_Mo_425 hov_1 rfl ?_
    refine T_bipush (v := nI 64) d_Mo_accept_53 (by decide) ?_
    refine T_iload_n d_Mo_accept_55 rfl ?_
    refine N_imul (a := s) (b := 64) (c := (64 * s)) d_Mo_accept_56 rfl ?_
    refine T_iload_n d_Mo_accept_57 rfl ?_
    refine N_iadd (a := k) (b := (64 * s)) (c := ((64 * s) + k)) d_Mo_accept_58 rfl ?_
    obtain ⟨f_2, hf_3, hl_4, hv_5⟩ := id ha
    refine N_iaload (k := ((64 * s) + k)) (x := (bR (gd sa ((64 * s) + k)))) d_Mo_accept_59 hf_3 (by omega) (by decide) (hv_5 ((64 * s) + k) (by first | omega | (simp only [List.length_append, List.length_cons, List.length_nil, List.length_replicate, sl_len, be_len, sha_len, hmac_len, ex1_len, ex2_len, stretch_len, zer8_len, tC_len, tag1_len, bnN_len, xkp_len]; omega))) ?_
    refine T_aload_n (v := .ref 373) d_Mo_accept_60 rfl (Or.inr ⟨_, rfl⟩) ?_
    refine T_getfield (v := .ref 436) d_Mo_accept_61 fg_Mo_428 hov_1 rfl ?_
    refine T_bipush (v := nI 64) d_Mo_accept_64 (by decide) ?_
    refine T_iload_n d_Mo_accept_66 rfl ?_
    refine N_imul (a := s) (b := 64) (c := (64 * s)) d_Mo_accept_67 rfl ?_
    refine T_iload_n d_Mo_accept_68 rfl ?_
    refine N_iadd (a := k) (b := (64 * s)) (c := ((64 * s) + k)) d_Mo_accept_69 rfl ?_
    obtain ⟨f_6, hf_7, hl_8, hv_9⟩ := id hc
    refine N_iaload (k := ((64 * s) + k)) (x := (bR (gd sb ((64 * s) + k)))) d_Mo_accept_70 hf_7 (by omega) (by decide) (hv_9 ((64 * s) + k) (by first | omega | (simp only [List.length_append, List.length_cons, List.length_nil, List.length_replicate, sl_len, be_len, sha_len, hmac_len, ex1_len, ex2_len, stretch_len, zer8_len, tC_len, tag1_len, bnN_len, xkp_len]; omega))) ?_
    by_cases he : (gd sa ((64 * s) + k)) = (gd sb ((64 * s) + k))
    · 
      refine T_icmp_eq d_Mo_accept_71 (tgt := 76) rfl (fun _ => ?_) (fun c => absurd (by rw [he]) c)
      refine N_iinc (k := k) (m := 1) (c := (k + 1)) (L' := [(2, .int (nI ((k + 1)))), (1, .int (nI s)), (0, .ref 373)]) d_Mo_accept_76 (by decide) rfl (by decide) rfl rfl ?_
      refine T_goto (tgt := 43) d_Mo_accept_79 rfl ?_
      exact T_sub (L' := [(2, .int (nI ((k + 1)))), (1, .int (nI s)), (0, .ref 373)]) (fun _ h => h) (ih (k + 1) (by omega) (fun i hi => by by_cases c : i = k; subst c; exact (gd_c (by omega)).trans (he.trans (gd_c (by omega))); exact hI i (by omega)))
    · 
      refine T_icmp_eq d_Mo_accept_71 (tgt := 76) rfl (fun c => absurd c (fun c => he (bR_in.mp c))) (fun _ => ?_)
      refine T_iconst (v := nI 5) d_Mo_accept_74 (by decide) ?_
      exact T_ret d_Mo_accept_75 rfl (by decide) (by decide) (by decide) (kn (fun c => he ((gd_c (by omega)).trans ((c k (by omega)).trans (gd_c (by omega))))))
set_option maxHeartbeats 8000000 in
theorem p_Mo_accept {G : GX} {M : List va_E} {sd : Int32} {ch n m th : Nat} {s : Nat} {w3 xp : Nat → List UInt8} {h3 r3 sv : Nat → Bool} (hs : s < 4) (hdue : (h3 s && !r3 s) = true) (hw : (w3 s).length = 64) (hx : (xp s).length = 64) (hnb : NB M sd ch n m th) (z3 : ZR M 426 4 h3) (z6 : ZR M 429 4 r3) (z8 : ZR M 431 4 sv) (hw3 : SL M 435 256 64 4 w3) (hxp : SL M 436 256 64 4 xp) : CT G mi_Mo_accept [.ref 373, .int (nI s)] M (fun r M' => r = some (.int (nI (if elB (w3 s) (xp s) 0 0 = true then 0 else 5))) ∧ NB M' sd ch n m 0 ∧ ZR M' 429 4 (updB r3 s true) ∧ (elB (w3 s) (xp s) 0 0 = true → ZR M' 431 4 (updB sv s true)) ∧ (¬ elB (w3 s) (xp s) 0 0 = true → Kp [373, 429] M M') ∧ Kp [373, 429, 431] M M') := by
  obtain ⟨w, h, h66, h71, h72, h73, h74⟩ := hnb
  refine CT.of (by decide) (Nat.le_of_ble_eq_true rfl) ?_
  show TT G mi_Mo_accept 0 [(0, .ref 373), (1, .int (nI s))] [] M 0 0 _
  have bA : bN (h3 s) = 1 := by revert hdue; cases h3 s <;> cases r3 s <;> decide
  have bB : bN (r3 s) = 0 := by revert hdue; cases h3 s <;> cases r3 s <;> decide
  refine T_aload_n (v := .ref 373) d_Mo_accept_0 rfl (Or.inr ⟨_, rfl⟩) ?_
  refine T_iconst (v := nI 0) d_Mo_accept_1 (by decide) ?_
  obtain ⟨v_1, hov_1, hwv_1, hsv_1, hiv_1⟩ := id h
  refine N_put (e := (moO (upd v_1 66 (nI 0)))) d_Mo_accept_2 (fp_Mo_316 _) hov_1 (Nat.le_of_ble_eq_true rfl) ⟨rfl, rfl⟩ rfl (fun M_2 h_3 s_4 => ?_)
  have p_5 := BG.st (j := 66) (by decide) hwv_1 hsv_1 hiv_1 h_3 (Ex.kp s_4)
  refine T_iload_n d_Mo_accept_5 rfl ?_
  refine T_static (as := [.int (nI s)]) (rest := []) d_Mo_accept_6 rfl (jw_Mo_isSession.jo (by decide)) lm_Mo_545 jt_Mo_isSession rfl (Nat.le_of_ble_eq_true rfl) (by decide) (by decide) (b_Mo_isS_in hs) (fun r M_6 hq => ?_)
  obtain ⟨rfl, he⟩ := hq
  obtain rfl := he.symm
  refine T_eq (pc' := 9) (L' := [(0, .ref 373), (1, .int (nI s))]) (st' := [.int (nI 1)]) (M' := M_2) rfl rfl rfl rfl ?_
  refine N_if_ne_t (b := 1) d_Mo_accept_9 (tgt := 14) rfl (by omega) (by omega) ?_
  refine T_aload_n (v := .ref 373) d_Mo_accept_14 rfl (Or.inr ⟨_, rfl⟩) ?_
  obtain ⟨v_7, hov_7, hwv_7, hsv_7, hiv_7⟩ := id p_5
  refine T_getfield (v := .ref 426) d_Mo_accept_15 fg_Mo_398 hov_7 rfl ?_
  refine T_iload_n d_Mo_accept_18 rfl ?_
  have p_8 := (ZR.kp (z3) (Ex.kp s_4) (by decide))
  obtain ⟨f_9, h_10, h_11⟩ := id p_8
  refine N_zaload (k := s) (x := (nI ((bN (h3 s))))) d_Mo_accept_19 h_10 (by omega) (by decide) (h_11 s (by omega)) ?_
  refine N_if_eq_f (b := (bN (h3 s))) d_Mo_accept_20 (tgt := 32) rfl (by omega) (by omega) ?_
  refine T_aload_n (v := .ref 373) d_Mo_accept_23 rfl (Or.inr ⟨_, rfl⟩) ?_
  refine T_getfield (v := .ref 429) d_Mo_accept_24 fg_Mo_407 hov_7 rfl ?_
  refine T_iload_n d_Mo_accept_27 rfl ?_
  have p_12 := (ZR.kp (z6) (Ex.kp s_4) (by decide))
  obtain ⟨f_13, h_14, h_15⟩ := id p_12
  refine N_zaload (k := s) (x := (nI ((bN (r3 s))))) d_Mo_accept_28 h_14 (by omega) (by decide) (h_15 s (by omega)) ?_
  refine N_if_eq_t (b := (bN (r3 s))) d_Mo_accept_29 (tgt := 34) rfl (by omega) (by omega) ?_
  refine T_aload_n (v := .ref 373) d_Mo_accept_34 rfl (Or.inr ⟨_, rfl⟩) ?_
  refine T_getfield (v := .ref 429) d_Mo_accept_35 fg_Mo_407 hov_7 rfl ?_
  refine T_iload_n d_Mo_accept_38 rfl ?_
  refine T_iconst (v := nI 1) d_Mo_accept_39 (by decide) ?_
  refine N_zastore (k := s) d_Mo_accept_40 (by decide) h_14 (by omega) (by decide) rfl (fun M_16 h_17 s_18 => ?_)
  have p_19 := ZR.up (b := true) h_15 (by decide) h_17
  refine T_iconst (v := nI 0) d_Mo_accept_41 (by decide) ?_
  refine T_istore_n (L' := [(2, .int (nI 0)), (0, .ref 373), (1, .int (nI s))]) d_Mo_accept_42 (by decide) rfl ?_
  have p_20 := (SL.kp ((SL.kp (hw3) (Ex.kp s_4) (by decide))) (Ex.kp s_18) (by decide))
  obtain ⟨L21, hL21, eL21, sg21⟩ := SL.rd p_20 hs
  have p_22 := (SL.kp ((SL.kp (hxp) (Ex.kp s_4) (by decide))) (Ex.kp s_18) (by decide))
  obtain ⟨L23, hL23, eL23, sg23⟩ := SL.rd p_22 hs
  have cl : elB (w3 s) (xp s) 0 0 = true ↔ ∀ i, i < 64 → gd L21 ((64 * s) + i) = gd L23 ((64 * s) + i) := (elB_i (by rw [hw])).trans ⟨fun h i hi => by rw [sg21 i (by omega), sg23 i (by omega)]; have q := h i hi; rw [Nat.zero_add] at q; exact q, fun h i hi => by have q := h i hi; rw [sg21 i (by omega), sg23 i (by omega)] at q; rw [Nat.zero_add]; exact q⟩
  refine T_sub (L' := [(2, .int (nI 0)), (1, .int (nI s)), (0, .ref 373)]) (fun q hq => by simp only [List.mem_cons, List.not_mem_nil, or_false] at hq ⊢; rcases hq with rfl | rfl | rfl <;> simp) ?_
  have p_24 := (BG.kp (p_5) (Ex.kp s_18) (by decide) (by decide))
  refine ac_l G p_24 hL21 hL23 hs (by rw [eL21]; omega) (by rw [eL23]; omega) (fun hc => ?_) (fun hc => ?_) 64 0 rfl (fun i hi => absurd hi (Nat.not_lt_zero i))
  rotate_left
  ·
    have hn : ¬ elB (w3 s) (xp s) 0 0 = true := fun c => hc (cl.mp c)
    have nb_ : NB M_16 sd ch n m 0 := ⟨_, p_24, (show (upd w 66 (nI 0)) 66 = (nI 0) from rfl), (show (upd w 66 (nI 0)) 71 = sd from h71), (show (upd w 66 (nI 0)) 72 = (nI ch) from h72), (show (upd w 66 (nI 0)) 73 = (nI n) from h73), (show (upd w 66 (nI 0)) 74 = (nI m) from h74)⟩
    have kb : Kp [373, 429] M M_16 := (Kp.ex (Kp.ex (Kp.rf : Kp [373, 429] M M) s_4 (by decide)) s_18 (by decide))
    exact ⟨by rw [if_neg hn], nb_, p_19, (fun c => absurd c hn), (fun _ => kb), kb.mono (by decide)⟩
  have hy : elB (w3 s) (xp s) 0 0 = true := cl.mpr hc
  refine T_aload_n (v := .ref 373) d_Mo_accept_82 rfl (Or.inr ⟨_, rfl⟩) ?_
  obtain ⟨v_25, hov_25, hwv_25, hsv_25, hiv_25⟩ := id p_24
  refine T_getfield (v := .ref 431) d_Mo_accept_83 fg_Mo_413 hov_25 rfl ?_
  refine T_iload_n d_Mo_accept_86 rfl ?_
  refine T_iconst (v := nI 1) d_Mo_accept_87 (by decide) ?_
  have p_26 := (ZR.kp ((ZR.kp (z8) (Ex.kp s_4) (by decide))) (Ex.kp s_18) (by decide))
  obtain ⟨f_27, h_28, h_29⟩ := id p_26
  refine N_zastore (k := s) d_Mo_accept_88 (by decide) h_28 (by omega) (by decide) rfl (fun M_30 h_31 s_32 => ?_)
  have p_33 := ZR.up (b := true) h_29 (by decide) h_31
  refine T_iconst (v := nI 0) d_Mo_accept_89 (by decide) ?_
  have p_34 := (BG.kp (p_24) (Ex.kp s_32) (by decide) (by decide))
  have nb_ : NB M_30 sd ch n m 0 := ⟨_, p_34, (show (upd w 66 (nI 0)) 66 = (nI 0) from rfl), (show (upd w 66 (nI 0)) 71 = sd from h71), (show (upd w 66 (nI 0)) 72 = (nI ch) from h72), (show (upd w 66 (nI 0)) 73 = (nI n) from h73), (show (upd w 66 (nI 0)) 74 = (nI m) from h74)⟩
  have p_35 := (ZR.kp (p_19) (Ex.kp s_32) (by decide))
  exact T_ret d_Mo_accept_90 rfl (by decide) (by decide) (by decide) ⟨by rw [if_pos hy], nb_, p_35, (fun _ => p_33), (fun c => absurd hy c), (Kp.ex (Kp.ex (Kp.ex (Kp.rf : Kp [373, 429, 431] M M) s_4 (by decide)) s_18 (by decide)) s_32 (by decide))⟩
set_option maxHeartbeats 8000000 in
theorem b_Mo_isWire_sneg {G : GX} {M : List va_E} {w : Nat → Int32} {l : List UInt8} {x y z : Int32} (hx : x < 0) (h : BG M w l) : CT G mi_Mo_isWire [.ref 373, .int x, .int y, .int z] M (fun r M' => r = some (.int (nI 0)) ∧ M' = M) := by
  refine CT.of (by decide) (Nat.le_of_ble_eq_true rfl) ?_
  show TT G mi_Mo_isWire 0 [(0, .ref 373), (1, .int x), (2, .int y), (3, .int z)] [] M 0 0 _
  refine T_iload_n d_Mo_isWire_0 rfl ?_
  refine T_static (as := [.int x]) (rest := []) d_Mo_isWire_1 rfl (jw_Mo_isSession.jo (by decide)) lm_Mo_545 jt_Mo_isSession rfl (Nat.le_of_ble_eq_true rfl) (by decide) (by decide) (b_Mo_isS_neg hx) (fun r M_1 hq => ?_)
  obtain ⟨rfl, he⟩ := hq
  obtain rfl := he.symm
  refine T_eq (pc' := 4) (L' := [(0, .ref 373), (1, .int x), (2, .int y), (3, .int z)]) (st' := [.int (nI 0)]) (M' := M) rfl rfl rfl rfl ?_
  refine N_if_eq_t (b := 0) d_Mo_isWire_4 (tgt := 11) rfl (by omega) (by omega) ?_
  refine T_iconst (v := nI 0) d_Mo_isWire_11 (by decide) ?_
  exact T_ret d_Mo_isWire_12 rfl (by decide) (by decide) (by decide) ⟨rfl, rfl⟩
set_option maxHeartbeats 8000000 in
theorem b_Mo_isWire_sbig {G : GX} {M : List va_E} {w : Nat → Int32} {l : List UInt8} {x y z : Int32} (h0 : ¬ x < 0) (hx : nI 4 ≤ x) (h : BG M w l) : CT G mi_Mo_isWire [.ref 373, .int x, .int y, .int z] M (fun r M' => r = some (.int (nI 0)) ∧ M' = M) := by
  refine CT.of (by decide) (Nat.le_of_ble_eq_true rfl) ?_
  show TT G mi_Mo_isWire 0 [(0, .ref 373), (1, .int x), (2, .int y), (3, .int z)] [] M 0 0 _
  refine T_iload_n d_Mo_isWire_0 rfl ?_
  refine T_static (as := [.int x]) (rest := []) d_Mo_isWire_1 rfl (jw_Mo_isSession.jo (by decide)) lm_Mo_545 jt_Mo_isSession rfl (Nat.le_of_ble_eq_true rfl) (by decide) (by decide) (b_Mo_isS_big h0 hx) (fun r M_1 hq => ?_)
  obtain ⟨rfl, he⟩ := hq
  obtain rfl := he.symm
  refine T_eq (pc' := 4) (L' := [(0, .ref 373), (1, .int x), (2, .int y), (3, .int z)]) (st' := [.int (nI 0)]) (M' := M) rfl rfl rfl rfl ?_
  refine N_if_eq_t (b := 0) d_Mo_isWire_4 (tgt := 11) rfl (by omega) (by omega) ?_
  refine T_iconst (v := nI 0) d_Mo_isWire_11 (by decide) ?_
  exact T_ret d_Mo_isWire_12 rfl (by decide) (by decide) (by decide) ⟨rfl, rfl⟩
set_option maxHeartbeats 8000000 in
theorem b_Mo_isWire_ineg {G : GX} {M : List va_E} {w : Nat → Int32} {l : List UInt8} {s : Nat} {y z : Int32} (hs : s < 4) (hz : z < 0) (h : BG M w l) : CT G mi_Mo_isWire [.ref 373, .int (nI s), .int y, .int z] M (fun r M' => r = some (.int (nI 0)) ∧ M' = M) := by
  refine CT.of (by decide) (Nat.le_of_ble_eq_true rfl) ?_
  show TT G mi_Mo_isWire 0 [(0, .ref 373), (1, .int (nI s)), (2, .int y), (3, .int z)] [] M 0 0 _
  refine T_iload_n d_Mo_isWire_0 rfl ?_
  refine T_static (as := [.int (nI s)]) (rest := []) d_Mo_isWire_1 rfl (jw_Mo_isSession.jo (by decide)) lm_Mo_545 jt_Mo_isSession rfl (Nat.le_of_ble_eq_true rfl) (by decide) (by decide) (b_Mo_isS_in hs) (fun r M_1 hq => ?_)
  obtain ⟨rfl, he⟩ := hq
  obtain rfl := he.symm
  refine T_eq (pc' := 4) (L' := [(0, .ref 373), (1, .int (nI s)), (2, .int y), (3, .int z)]) (st' := [.int (nI 1)]) (M' := M) rfl rfl rfl rfl ?_
  refine N_if_eq_f (b := 1) d_Mo_isWire_4 (tgt := 11) rfl (by omega) (by omega) ?_
  refine T_iload_n d_Mo_isWire_7 rfl ?_
  refine T_if_ge d_Mo_isWire_8 (tgt := 13) rfl (fun c => absurd c (Int32.not_le.mpr hz)) (fun _ => ?_)
  refine T_iconst (v := nI 0) d_Mo_isWire_11 (by decide) ?_
  exact T_ret d_Mo_isWire_12 rfl (by decide) (by decide) (by decide) ⟨rfl, rfl⟩
set_option maxHeartbeats 8000000 in
theorem b_Mo_isWire_moth {G : GX} {M : List va_E} {w : Nat → Int32} {l : List UInt8} {s i : Nat} {y : Int32} (hs : s < 4) (hi2 : i < 2147483648) (y1 : ¬ y = nI 1) (y2 : ¬ y = nI 2) (y3 : ¬ y = nI 3) (h : BG M w l) : CT G mi_Mo_isWire [.ref 373, .int (nI s), .int y, .int (nI i)] M (fun r M' => r = some (.int (nI 0)) ∧ M' = M) := by
  refine CT.of (by decide) (Nat.le_of_ble_eq_true rfl) ?_
  show TT G mi_Mo_isWire 0 [(0, .ref 373), (1, .int (nI s)), (2, .int y), (3, .int (nI i))] [] M 0 0 _
  refine T_iload_n d_Mo_isWire_0 rfl ?_
  refine T_static (as := [.int (nI s)]) (rest := []) d_Mo_isWire_1 rfl (jw_Mo_isSession.jo (by decide)) lm_Mo_545 jt_Mo_isSession rfl (Nat.le_of_ble_eq_true rfl) (by decide) (by decide) (b_Mo_isS_in hs) (fun r M_1 hq => ?_)
  obtain ⟨rfl, he⟩ := hq
  obtain rfl := he.symm
  refine T_eq (pc' := 4) (L' := [(0, .ref 373), (1, .int (nI s)), (2, .int y), (3, .int (nI i))]) (st' := [.int (nI 1)]) (M' := M) rfl rfl rfl rfl ?_
  refine N_if_eq_f (b := 1) d_Mo_isWire_4 (tgt := 11) rfl (by omega) (by omega) ?_
  refine T_iload_n d_Mo_isWire_7 rfl ?_
  refine N_if_ge_t (b := i) d_Mo_isWire_8 (tgt := 13) rfl (by omega) (by omega) ?_
  refine T_iload_n d_Mo_isWire_13 rfl ?_
  refine T_iconst (v := nI 1) d_Mo_isWire_14 (by decide) ?_
  refine T_icmp_ne d_Mo_isWire_15 (tgt := 39) rfl (fun _ => ?_) (fun c => absurd c y1)
  refine T_iload_n d_Mo_isWire_39 rfl ?_
  refine T_iconst (v := nI 2) d_Mo_isWire_40 (by decide) ?_
  refine T_icmp_ne d_Mo_isWire_41 (tgt := 66) rfl (fun _ => ?_) (fun c => absurd c y2)
  refine T_iload_n d_Mo_isWire_66 rfl ?_
  refine T_iconst (v := nI 3) d_Mo_isWire_67 (by decide) ?_
  refine T_icmp_ne d_Mo_isWire_68 (tgt := 90) rfl (fun _ => ?_) (fun c => absurd c y3)
  refine T_iconst (v := nI 0) d_Mo_isWire_90 (by decide) ?_
  exact T_ret d_Mo_isWire_91 rfl (by decide) (by decide) (by decide) ⟨rfl, rfl⟩
set_option maxHeartbeats 8000000 in
theorem b_Mo_isWire_1_off {G : GX} {M : List va_E} {w : Nat → Int32} {l : List UInt8} {s i : Nat} {t : Nat → Bool} (hs : s < 4) (hi2 : i < 2147483648) (ht : t s = false) (h : BG M w l) (hz1 : ZR M 424 4 t) : CT G mi_Mo_isWire [.ref 373, .int (nI s), .int (nI 1), .int (nI i)] M (fun r M' => r = some (.int (nI 0)) ∧ M' = M) := by
  refine CT.of (by decide) (Nat.le_of_ble_eq_true rfl) ?_
  show TT G mi_Mo_isWire 0 [(0, .ref 373), (1, .int (nI s)), (2, .int (nI 1)), (3, .int (nI i))] [] M 0 0 _
  have bA := bN_i (t s)
  have bB : bN (t s) = 0 := by rw [ht]; rfl
  refine T_iload_n d_Mo_isWire_0 rfl ?_
  refine T_static (as := [.int (nI s)]) (rest := []) d_Mo_isWire_1 rfl (jw_Mo_isSession.jo (by decide)) lm_Mo_545 jt_Mo_isSession rfl (Nat.le_of_ble_eq_true rfl) (by decide) (by decide) (b_Mo_isS_in hs) (fun r M_1 hq => ?_)
  obtain ⟨rfl, he⟩ := hq
  obtain rfl := he.symm
  refine T_eq (pc' := 4) (L' := [(0, .ref 373), (1, .int (nI s)), (2, .int (nI 1)), (3, .int (nI i))]) (st' := [.int (nI 1)]) (M' := M) rfl rfl rfl rfl ?_
  refine N_if_eq_f (b := 1) d_Mo_isWire_4 (tgt := 11) rfl (by omega) (by omega) ?_
  refine T_iload_n d_Mo_isWire_7 rfl ?_
  refine N_if_ge_t (b := i) d_Mo_isWire_8 (tgt := 13) rfl (by omega) (by omega) ?_
  refine T_iload_n d_Mo_isWire_13 rfl ?_
  refine T_iconst (v := nI 1) d_Mo_isWire_14 (by decide) ?_
  refine N_icmp_ne_f (a := 1) (b := 1) d_Mo_isWire_15 (tgt := 39) rfl (by omega) (by omega) (by omega) ?_
  refine T_aload_n (v := .ref 373) d_Mo_isWire_18 rfl (Or.inr ⟨_, rfl⟩) ?_
  obtain ⟨v_2, hov_2, hwv_2, hsv_2, hiv_2⟩ := id h
  refine T_getfield (v := .ref 424) d_Mo_isWire_19 fg_Mo_392 hov_2 rfl ?_
  refine T_iload_n d_Mo_isWire_22 rfl ?_
  obtain ⟨f_3, h_4, h_5⟩ := id hz1
  refine N_zaload (k := s) (x := (nI ((bN (t s))))) d_Mo_isWire_23 h_4 (by omega) (by decide) (h_5 s (by omega)) ?_
  refine N_if_eq_t (b := (bN (t s))) d_Mo_isWire_24 (tgt := 37) rfl (by omega) (by omega) ?_
  refine T_iconst (v := nI 0) d_Mo_isWire_37 (by decide) ?_
  exact T_ret d_Mo_isWire_38 rfl (by decide) (by decide) (by decide) ⟨rfl, rfl⟩
set_option maxHeartbeats 8000000 in
theorem b_Mo_isWire_1_out {G : GX} {M : List va_E} {w : Nat → Int32} {l : List UInt8} {s i : Nat} {t : Nat → Bool} (hs : s < 4) (hi : 96 ≤ i) (hi2 : i < 2147483648) (h : BG M w l) (hz1 : ZR M 424 4 t) : CT G mi_Mo_isWire [.ref 373, .int (nI s), .int (nI 1), .int (nI i)] M (fun r M' => r = some (.int (nI 0)) ∧ M' = M) := by
  refine CT.of (by decide) (Nat.le_of_ble_eq_true rfl) ?_
  show TT G mi_Mo_isWire 0 [(0, .ref 373), (1, .int (nI s)), (2, .int (nI 1)), (3, .int (nI i))] [] M 0 0 _
  have bA := bN_i (t s)
  refine T_iload_n d_Mo_isWire_0 rfl ?_
  refine T_static (as := [.int (nI s)]) (rest := []) d_Mo_isWire_1 rfl (jw_Mo_isSession.jo (by decide)) lm_Mo_545 jt_Mo_isSession rfl (Nat.le_of_ble_eq_true rfl) (by decide) (by decide) (b_Mo_isS_in hs) (fun r M_1 hq => ?_)
  obtain ⟨rfl, he⟩ := hq
  obtain rfl := he.symm
  refine T_eq (pc' := 4) (L' := [(0, .ref 373), (1, .int (nI s)), (2, .int (nI 1)), (3, .int (nI i))]) (st' := [.int (nI 1)]) (M' := M) rfl rfl rfl rfl ?_
  refine N_if_eq_f (b := 1) d_Mo_isWire_4 (tgt := 11) rfl (by omega) (by omega) ?_
  refine T_iload_n d_Mo_isWire_7 rfl ?_
  refine N_if_ge_t (b := i) d_Mo_isWire_8 (tgt := 13) rfl (by omega) (by omega) ?_
  refine T_iload_n d_Mo_isWire_13 rfl ?_
  refine T_iconst (v := nI 1) d_Mo_isWire_14 (by decide) ?_
  refine N_icmp_ne_f (a := 1) (b := 1) d_Mo_isWire_15 (tgt := 39) rfl (by omega) (by omega) (by omega) ?_
  refine T_aload_n (v := .ref 373) d_Mo_isWire_18 rfl (Or.inr ⟨_, rfl⟩) ?_
  obtain ⟨v_2, hov_2, hwv_2, hsv_2, hiv_2⟩ := id h
  refine T_getfield (v := .ref 424) d_Mo_isWire_19 fg_Mo_392 hov_2 rfl ?_
  refine T_iload_n d_Mo_isWire_22 rfl ?_
  obtain ⟨f_3, h_4, h_5⟩ := id hz1
  refine N_zaload (k := s) (x := (nI ((bN (t s))))) d_Mo_isWire_23 h_4 (by omega) (by decide) (h_5 s (by omega)) ?_
  refine N_if_eq (b := (bN (t s))) d_Mo_isWire_24 (tgt := 37) rfl (by omega) (fun hb => ?_) (fun hb => ?_)
  ·
    refine T_iconst (v := nI 0) d_Mo_isWire_37 (by decide) ?_
    exact T_ret d_Mo_isWire_38 rfl (by decide) (by decide) (by decide) ⟨rfl, rfl⟩
  ·
    refine T_iload_n d_Mo_isWire_27 rfl ?_
    refine T_bipush (v := nI 96) d_Mo_isWire_28 (by decide) ?_
    refine N_icmp_ge_t (a := 96) (b := i) d_Mo_isWire_30 (tgt := 37) rfl (by omega) (by omega) (by omega) ?_
    refine T_iconst (v := nI 0) d_Mo_isWire_37 (by decide) ?_
    exact T_ret d_Mo_isWire_38 rfl (by decide) (by decide) (by decide) ⟨rfl, rfl⟩
set_option maxHeartbeats 8000000 in
theorem b_Mo_isWire_1_in {G : GX} {M : List va_E} {w : Nat → Int32} {l : List UInt8} {s i : Nat} {t : Nat → Bool} (hs : s < 4) (hi : i < 96) (ht : t s = true) (h : BG M w l) (hz1 : ZR M 424 4 t) : CT G mi_Mo_isWire [.ref 373, .int (nI s), .int (nI 1), .int (nI i)] M (fun r M' => r = some (.int (nI 1)) ∧ M' = M) := by
  refine CT.of (by decide) (Nat.le_of_ble_eq_true rfl) ?_
  show TT G mi_Mo_isWire 0 [(0, .ref 373), (1, .int (nI s)), (2, .int (nI 1)), (3, .int (nI i))] [] M 0 0 _
  have bA := bN_i (t s)
  have bB : bN (t s) = 1 := by rw [ht]; rfl
  refine T_iload_n d_Mo_isWire_0 rfl ?_
  refine T_static (as := [.int (nI s)]) (rest := []) d_Mo_isWire_1 rfl (jw_Mo_isSession.jo (by decide)) lm_Mo_545 jt_Mo_isSession rfl (Nat.le_of_ble_eq_true rfl) (by decide) (by decide) (b_Mo_isS_in hs) (fun r M_1 hq => ?_)
  obtain ⟨rfl, he⟩ := hq
  obtain rfl := he.symm
  refine T_eq (pc' := 4) (L' := [(0, .ref 373), (1, .int (nI s)), (2, .int (nI 1)), (3, .int (nI i))]) (st' := [.int (nI 1)]) (M' := M) rfl rfl rfl rfl ?_
  refine N_if_eq_f (b := 1) d_Mo_isWire_4 (tgt := 11) rfl (by omega) (by omega) ?_
  refine T_iload_n d_Mo_isWire_7 rfl ?_
  refine N_if_ge_t (b := i) d_Mo_isWire_8 (tgt := 13) rfl (by omega) (by omega) ?_
  refine T_iload_n d_Mo_isWire_13 rfl ?_
  refine T_iconst (v := nI 1) d_Mo_isWire_14 (by decide) ?_
  refine N_icmp_ne_f (a := 1) (b := 1) d_Mo_isWire_15 (tgt := 39) rfl (by omega) (by omega) (by omega) ?_
  refine T_aload_n (v := .ref 373) d_Mo_isWire_18 rfl (Or.inr ⟨_, rfl⟩) ?_
  obtain ⟨v_2, hov_2, hwv_2, hsv_2, hiv_2⟩ := id h
  refine T_getfield (v := .ref 424) d_Mo_isWire_19 fg_Mo_392 hov_2 rfl ?_
  refine T_iload_n d_Mo_isWire_22 rfl ?_
  obtain ⟨f_3, h_4, h_5⟩ := id hz1
  refine N_zaload (k := s) (x := (nI ((bN (t s))))) d_Mo_isWire_23 h_4 (by omega) (by decide) (h_5 s (by omega)) ?_
  refine N_if_eq_f (b := (bN (t s))) d_Mo_isWire_24 (tgt := 37) rfl (by omega) (by omega) ?_
  refine T_iload_n d_Mo_isWire_27 rfl ?_
  refine T_bipush (v := nI 96) d_Mo_isWire_28 (by decide) ?_
  refine N_icmp_ge_f (a := 96) (b := i) d_Mo_isWire_30 (tgt := 37) rfl (by omega) (by omega) (by omega) ?_
  refine T_iconst (v := nI 1) d_Mo_isWire_33 (by decide) ?_
  refine T_goto (tgt := 38) d_Mo_isWire_34 rfl ?_
  exact T_ret d_Mo_isWire_38 rfl (by decide) (by decide) (by decide) ⟨rfl, rfl⟩
set_option maxHeartbeats 8000000 in
theorem b_Mo_isWire_2_off {G : GX} {M : List va_E} {w : Nat → Int32} {l : List UInt8} {s i : Nat} {t : Nat → Bool} (hs : s < 4) (hi2 : i < 2147483648) (ht : t s = false) (h : BG M w l) (hz1 : ZR M 425 4 t) : CT G mi_Mo_isWire [.ref 373, .int (nI s), .int (nI 2), .int (nI i)] M (fun r M' => r = some (.int (nI 0)) ∧ M' = M) := by
  refine CT.of (by decide) (Nat.le_of_ble_eq_true rfl) ?_
  show TT G mi_Mo_isWire 0 [(0, .ref 373), (1, .int (nI s)), (2, .int (nI 2)), (3, .int (nI i))] [] M 0 0 _
  have bA := bN_i (t s)
  have bB : bN (t s) = 0 := by rw [ht]; rfl
  refine T_iload_n d_Mo_isWire_0 rfl ?_
  refine T_static (as := [.int (nI s)]) (rest := []) d_Mo_isWire_1 rfl (jw_Mo_isSession.jo (by decide)) lm_Mo_545 jt_Mo_isSession rfl (Nat.le_of_ble_eq_true rfl) (by decide) (by decide) (b_Mo_isS_in hs) (fun r M_1 hq => ?_)
  obtain ⟨rfl, he⟩ := hq
  obtain rfl := he.symm
  refine T_eq (pc' := 4) (L' := [(0, .ref 373), (1, .int (nI s)), (2, .int (nI 2)), (3, .int (nI i))]) (st' := [.int (nI 1)]) (M' := M) rfl rfl rfl rfl ?_
  refine N_if_eq_f (b := 1) d_Mo_isWire_4 (tgt := 11) rfl (by omega) (by omega) ?_
  refine T_iload_n d_Mo_isWire_7 rfl ?_
  refine N_if_ge_t (b := i) d_Mo_isWire_8 (tgt := 13) rfl (by omega) (by omega) ?_
  refine T_iload_n d_Mo_isWire_13 rfl ?_
  refine T_iconst (v := nI 1) d_Mo_isWire_14 (by decide) ?_
  refine N_icmp_ne_t (a := 1) (b := 2) d_Mo_isWire_15 (tgt := 39) rfl (by omega) (by omega) (by omega) ?_
  refine T_iload_n d_Mo_isWire_39 rfl ?_
  refine T_iconst (v := nI 2) d_Mo_isWire_40 (by decide) ?_
  refine N_icmp_ne_f (a := 2) (b := 2) d_Mo_isWire_41 (tgt := 66) rfl (by omega) (by omega) (by omega) ?_
  refine T_aload_n (v := .ref 373) d_Mo_isWire_44 rfl (Or.inr ⟨_, rfl⟩) ?_
  obtain ⟨v_2, hov_2, hwv_2, hsv_2, hiv_2⟩ := id h
  refine T_getfield (v := .ref 425) d_Mo_isWire_45 fg_Mo_395 hov_2 rfl ?_
  refine T_iload_n d_Mo_isWire_48 rfl ?_
  obtain ⟨f_3, h_4, h_5⟩ := id hz1
  refine N_zaload (k := s) (x := (nI ((bN (t s))))) d_Mo_isWire_49 h_4 (by omega) (by decide) (h_5 s (by omega)) ?_
  refine N_if_eq_t (b := (bN (t s))) d_Mo_isWire_50 (tgt := 64) rfl (by omega) (by omega) ?_
  refine T_iconst (v := nI 0) d_Mo_isWire_64 (by decide) ?_
  exact T_ret d_Mo_isWire_65 rfl (by decide) (by decide) (by decide) ⟨rfl, rfl⟩
set_option maxHeartbeats 8000000 in
theorem b_Mo_isWire_2_out {G : GX} {M : List va_E} {w : Nat → Int32} {l : List UInt8} {s i : Nat} {t : Nat → Bool} (hs : s < 4) (hi : 320 ≤ i) (hi2 : i < 2147483648) (h : BG M w l) (hz1 : ZR M 425 4 t) : CT G mi_Mo_isWire [.ref 373, .int (nI s), .int (nI 2), .int (nI i)] M (fun r M' => r = some (.int (nI 0)) ∧ M' = M) := by
  refine CT.of (by decide) (Nat.le_of_ble_eq_true rfl) ?_
  show TT G mi_Mo_isWire 0 [(0, .ref 373), (1, .int (nI s)), (2, .int (nI 2)), (3, .int (nI i))] [] M 0 0 _
  have bA := bN_i (t s)
  refine T_iload_n d_Mo_isWire_0 rfl ?_
  refine T_static (as := [.int (nI s)]) (rest := []) d_Mo_isWire_1 rfl (jw_Mo_isSession.jo (by decide)) lm_Mo_545 jt_Mo_isSession rfl (Nat.le_of_ble_eq_true rfl) (by decide) (by decide) (b_Mo_isS_in hs) (fun r M_1 hq => ?_)
  obtain ⟨rfl, he⟩ := hq
  obtain rfl := he.symm
  refine T_eq (pc' := 4) (L' := [(0, .ref 373), (1, .int (nI s)), (2, .int (nI 2)), (3, .int (nI i))]) (st' := [.int (nI 1)]) (M' := M) rfl rfl rfl rfl ?_
  refine N_if_eq_f (b := 1) d_Mo_isWire_4 (tgt := 11) rfl (by omega) (by omega) ?_
  refine T_iload_n d_Mo_isWire_7 rfl ?_
  refine N_if_ge_t (b := i) d_Mo_isWire_8 (tgt := 13) rfl (by omega) (by omega) ?_
  refine T_iload_n d_Mo_isWire_13 rfl ?_
  refine T_iconst (v := nI 1) d_Mo_isWire_14 (by decide) ?_
  refine N_icmp_ne_t (a := 1) (b := 2) d_Mo_isWire_15 (tgt := 39) rfl (by omega) (by omega) (by omega) ?_
  refine T_iload_n d_Mo_isWire_39 rfl ?_
  refine T_iconst (v := nI 2) d_Mo_isWire_40 (by decide) ?_
  refine N_icmp_ne_f (a := 2) (b := 2) d_Mo_isWire_41 (tgt := 66) rfl (by omega) (by omega) (by omega) ?_
  refine T_aload_n (v := .ref 373) d_Mo_isWire_44 rfl (Or.inr ⟨_, rfl⟩) ?_
  obtain ⟨v_2, hov_2, hwv_2, hsv_2, hiv_2⟩ := id h
  refine T_getfield (v := .ref 425) d_Mo_isWire_45 fg_Mo_395 hov_2 rfl ?_
  refine T_iload_n d_Mo_isWire_48 rfl ?_
  obtain ⟨f_3, h_4, h_5⟩ := id hz1
  refine N_zaload (k := s) (x := (nI ((bN (t s))))) d_Mo_isWire_49 h_4 (by omega) (by decide) (h_5 s (by omega)) ?_
  refine N_if_eq (b := (bN (t s))) d_Mo_isWire_50 (tgt := 64) rfl (by omega) (fun hb => ?_) (fun hb => ?_)
  ·
    refine T_iconst (v := nI 0) d_Mo_isWire_64 (by decide) ?_
    exact T_ret d_Mo_isWire_65 rfl (by decide) (by decide) (by decide) ⟨rfl, rfl⟩
  ·
    refine T_iload_n d_Mo_isWire_53 rfl ?_
    refine T_sipush (v := nI 320) d_Mo_isWire_54 (by decide) ?_
    refine N_icmp_ge_t (a := 320) (b := i) d_Mo_isWire_57 (tgt := 64) rfl (by omega) (by omega) (by omega) ?_
    refine T_iconst (v := nI 0) d_Mo_isWire_64 (by decide) ?_
    exact T_ret d_Mo_isWire_65 rfl (by decide) (by decide) (by decide) ⟨rfl, rfl⟩
set_option maxHeartbeats 8000000 in
theorem b_Mo_isWire_2_in {G : GX} {M : List va_E} {w : Nat → Int32} {l : List UInt8} {s i : Nat} {t : Nat → Bool} (hs : s < 4) (hi : i < 320) (ht : t s = true) (h : BG M w l) (hz1 : ZR M 425 4 t) : CT G mi_Mo_isWire [.ref 373, .int (nI s), .int (nI 2), .int (nI i)] M (fun r M' => r = some (.int (nI 1)) ∧ M' = M) := by
  refine CT.of (by decide) (Nat.le_of_ble_eq_true rfl) ?_
  show TT G mi_Mo_isWire 0 [(0, .ref 373), (1, .int (nI s)), (2, .int (nI 2)), (3, .int (nI i))] [] M 0 0 _
  have bA := bN_i (t s)
  have bB : bN (t s) = 1 := by rw [ht]; rfl
  refine T_iload_n d_Mo_isWire_0 rfl ?_
  refine T_static (as := [.int (nI s)]) (rest := []) d_Mo_isWire_1 rfl (jw_Mo_isSession.jo (by decide)) lm_Mo_545 jt_Mo_isSession rfl (Nat.le_of_ble_eq_true rfl) (by decide) (by decide) (b_Mo_isS_in hs) (fun r M_1 hq => ?_)
  obtain ⟨rfl, he⟩ := hq
  obtain rfl := he.symm
  refine T_eq (pc' := 4) (L' := [(0, .ref 373), (1, .int (nI s)), (2, .int (nI 2)), (3, .int (nI i))]) (st' := [.int (nI 1)]) (M' := M) rfl rfl rfl rfl ?_
  refine N_if_eq_f (b := 1) d_Mo_isWire_4 (tgt := 11) rfl (by omega) (by omega) ?_
  refine T_iload_n d_Mo_isWire_7 rfl ?_
  refine N_if_ge_t (b := i) d_Mo_isWire_8 (tgt := 13) rfl (by omega) (by omega) ?_
  refine T_iload_n d_Mo_isWire_13 rfl ?_
  refine T_iconst (v := nI 1) d_Mo_isWire_14 (by decide) ?_
  refine N_icmp_ne_t (a := 1) (b := 2) d_Mo_isWire_15 (tgt := 39) rfl (by omega) (by omega) (by omega) ?_
  refine T_iload_n d_Mo_isWire_39 rfl ?_
  refine T_iconst (v := nI 2) d_Mo_isWire_40 (by decide) ?_
  refine N_icmp_ne_f (a := 2) (b := 2) d_Mo_isWire_41 (tgt := 66) rfl (by omega) (by omega) (by omega) ?_
  refine T_aload_n (v := .ref 373) d_Mo_isWire_44 rfl (Or.inr ⟨_, rfl⟩) ?_
  obtain ⟨v_2, hov_2, hwv_2, hsv_2, hiv_2⟩ := id h
  refine T_getfield (v := .ref 425) d_Mo_isWire_45 fg_Mo_395 hov_2 rfl ?_
  refine T_iload_n d_Mo_isWire_48 rfl ?_
  obtain ⟨f_3, h_4, h_5⟩ := id hz1
  refine N_zaload (k := s) (x := (nI ((bN (t s))))) d_Mo_isWire_49 h_4 (by omega) (by decide) (h_5 s (by omega)) ?_
  refine N_if_eq_f (b := (bN (t s))) d_Mo_isWire_50 (tgt := 64) rfl (by omega) (by omega) ?_
  refine T_iload_n d_Mo_isWire_53 rfl ?_
  refine T_sipush (v := nI 320) d_Mo_isWire_54 (by decide) ?_
  refine N_icmp_ge_f (a := 320) (b := i) d_Mo_isWire_57 (tgt := 64) rfl (by omega) (by omega) (by omega) ?_
  refine T_iconst (v := nI 1) d_Mo_isWire_60 (by decide) ?_
  refine T_goto (tgt := 65) d_Mo_isWire_61 rfl ?_
  exact T_ret d_Mo_isWire_65 rfl (by decide) (by decide) (by decide) ⟨rfl, rfl⟩
set_option maxHeartbeats 8000000 in
theorem b_Mo_isWire_3_off {G : GX} {M : List va_E} {w : Nat → Int32} {l : List UInt8} {s i : Nat} {t : Nat → Bool} (hs : s < 4) (hi2 : i < 2147483648) (ht : t s = false) (h : BG M w l) (hz1 : ZR M 426 4 t) : CT G mi_Mo_isWire [.ref 373, .int (nI s), .int (nI 3), .int (nI i)] M (fun r M' => r = some (.int (nI 0)) ∧ M' = M) := by
  refine CT.of (by decide) (Nat.le_of_ble_eq_true rfl) ?_
  show TT G mi_Mo_isWire 0 [(0, .ref 373), (1, .int (nI s)), (2, .int (nI 3)), (3, .int (nI i))] [] M 0 0 _
  have bA := bN_i (t s)
  have bB : bN (t s) = 0 := by rw [ht]; rfl
  refine T_iload_n d_Mo_isWire_0 rfl ?_
  refine T_static (as := [.int (nI s)]) (rest := []) d_Mo_isWire_1 rfl (jw_Mo_isSession.jo (by decide)) lm_Mo_545 jt_Mo_isSession rfl (Nat.le_of_ble_eq_true rfl) (by decide) (by decide) (b_Mo_isS_in hs) (fun r M_1 hq => ?_)
  obtain ⟨rfl, he⟩ := hq
  obtain rfl := he.symm
  refine T_eq (pc' := 4) (L' := [(0, .ref 373), (1, .int (nI s)), (2, .int (nI 3)), (3, .int (nI i))]) (st' := [.int (nI 1)]) (M' := M) rfl rfl rfl rfl ?_
  refine N_if_eq_f (b := 1) d_Mo_isWire_4 (tgt := 11) rfl (by omega) (by omega) ?_
  refine T_iload_n d_Mo_isWire_7 rfl ?_
  refine N_if_ge_t (b := i) d_Mo_isWire_8 (tgt := 13) rfl (by omega) (by omega) ?_
  refine T_iload_n d_Mo_isWire_13 rfl ?_
  refine T_iconst (v := nI 1) d_Mo_isWire_14 (by decide) ?_
  refine N_icmp_ne_t (a := 1) (b := 3) d_Mo_isWire_15 (tgt := 39) rfl (by omega) (by omega) (by omega) ?_
  refine T_iload_n d_Mo_isWire_39 rfl ?_
  refine T_iconst (v := nI 2) d_Mo_isWire_40 (by decide) ?_
  refine N_icmp_ne_t (a := 2) (b := 3) d_Mo_isWire_41 (tgt := 66) rfl (by omega) (by omega) (by omega) ?_
  refine T_iload_n d_Mo_isWire_66 rfl ?_
  refine T_iconst (v := nI 3) d_Mo_isWire_67 (by decide) ?_
  refine N_icmp_ne_f (a := 3) (b := 3) d_Mo_isWire_68 (tgt := 90) rfl (by omega) (by omega) (by omega) ?_
  refine T_aload_n (v := .ref 373) d_Mo_isWire_71 rfl (Or.inr ⟨_, rfl⟩) ?_
  obtain ⟨v_2, hov_2, hwv_2, hsv_2, hiv_2⟩ := id h
  refine T_getfield (v := .ref 426) d_Mo_isWire_72 fg_Mo_398 hov_2 rfl ?_
  refine T_iload_n d_Mo_isWire_75 rfl ?_
  obtain ⟨f_3, h_4, h_5⟩ := id hz1
  refine N_zaload (k := s) (x := (nI ((bN (t s))))) d_Mo_isWire_76 h_4 (by omega) (by decide) (h_5 s (by omega)) ?_
  refine N_if_eq_t (b := (bN (t s))) d_Mo_isWire_77 (tgt := 90) rfl (by omega) (by omega) ?_
  refine T_iconst (v := nI 0) d_Mo_isWire_90 (by decide) ?_
  exact T_ret d_Mo_isWire_91 rfl (by decide) (by decide) (by decide) ⟨rfl, rfl⟩
set_option maxHeartbeats 8000000 in
theorem b_Mo_isWire_3_out {G : GX} {M : List va_E} {w : Nat → Int32} {l : List UInt8} {s i : Nat} {t : Nat → Bool} (hs : s < 4) (hi : 64 ≤ i) (hi2 : i < 2147483648) (h : BG M w l) (hz1 : ZR M 426 4 t) : CT G mi_Mo_isWire [.ref 373, .int (nI s), .int (nI 3), .int (nI i)] M (fun r M' => r = some (.int (nI 0)) ∧ M' = M) := by
  refine CT.of (by decide) (Nat.le_of_ble_eq_true rfl) ?_
  show TT G mi_Mo_isWire 0 [(0, .ref 373), (1, .int (nI s)), (2, .int (nI 3)), (3, .int (nI i))] [] M 0 0 _
  have bA := bN_i (t s)
  refine T_iload_n d_Mo_isWire_0 rfl ?_
  refine T_static (as := [.int (nI s)]) (rest := []) d_Mo_isWire_1 rfl (jw_Mo_isSession.jo (by decide)) lm_Mo_545 jt_Mo_isSession rfl (Nat.le_of_ble_eq_true rfl) (by decide) (by decide) (b_Mo_isS_in hs) (fun r M_1 hq => ?_)
  obtain ⟨rfl, he⟩ := hq
  obtain rfl := he.symm
  refine T_eq (pc' := 4) (L' := [(0, .ref 373), (1, .int (nI s)), (2, .int (nI 3)), (3, .int (nI i))]) (st' := [.int (nI 1)]) (M' := M) rfl rfl rfl rfl ?_
  refine N_if_eq_f (b := 1) d_Mo_isWire_4 (tgt := 11) rfl (by omega) (by omega) ?_
  refine T_iload_n d_Mo_isWire_7 rfl ?_
  refine N_if_ge_t (b := i) d_Mo_isWire_8 (tgt := 13) rfl (by omega) (by omega) ?_
  refine T_iload_n d_Mo_isWire_13 rfl ?_
  refine T_iconst (v := nI 1) d_Mo_isWire_14 (by decide) ?_
  refine N_icmp_ne_t (a := 1) (b := 3) d_Mo_isWire_15 (tgt := 39) rfl (by omega) (by omega) (by omega) ?_
  refine T_iload_n d_Mo_isWire_39 rfl ?_
  refine T_iconst (v := nI 2) d_Mo_isWire_40 (by decide) ?_
  refine N_icmp_ne_t (a := 2) (b := 3) d_Mo_isWire_41 (tgt := 66) rfl (by omega) (by omega) (by omega) ?_
  refine T_iload_n d_Mo_isWire_66 rfl ?_
  refine T_iconst (v := nI 3) d_Mo_isWire_67 (by decide) ?_
  refine N_icmp_ne_f (a := 3) (b := 3) d_Mo_isWire_68 (tgt := 90) rfl (by omega) (by omega) (by omega) ?_
  refine T_aload_n (v := .ref 373) d_Mo_isWire_71 rfl (Or.inr ⟨_, rfl⟩) ?_
  obtain ⟨v_2, hov_2, hwv_2, hsv_2, hiv_2⟩ := id h
  refine T_getfield (v := .ref 426) d_Mo_isWire_72 fg_Mo_398 hov_2 rfl ?_
  refine T_iload_n d_Mo_isWire_75 rfl ?_
  obtain ⟨f_3, h_4, h_5⟩ := id hz1
  refine N_zaload (k := s) (x := (nI ((bN (t s))))) d_Mo_isWire_76 h_4 (by omega) (by decide) (h_5 s (by omega)) ?_
  refine N_if_eq (b := (bN (t s))) d_Mo_isWire_77 (tgt := 90) rfl (by omega) (fun hb => ?_) (fun hb => ?_)
  ·
    refine T_iconst (v := nI 0) d_Mo_isWire_90 (by decide) ?_
    exact T_ret d_Mo_isWire_91 rfl (by decide) (by decide) (by decide) ⟨rfl, rfl⟩
  ·
    refine T_iload_n d_Mo_isWire_80 rfl ?_
    refine T_bipush (v := nI 64) d_Mo_isWire_81 (by decide) ?_
    refine N_icmp_ge_t (a := 64) (b := i) d_Mo_isWire_83 (tgt := 90) rfl (by omega) (by omega) (by omega) ?_
    refine T_iconst (v := nI 0) d_Mo_isWire_90 (by decide) ?_
    exact T_ret d_Mo_isWire_91 rfl (by decide) (by decide) (by decide) ⟨rfl, rfl⟩
set_option maxHeartbeats 8000000 in
theorem b_Mo_isWire_3_in {G : GX} {M : List va_E} {w : Nat → Int32} {l : List UInt8} {s i : Nat} {t : Nat → Bool} (hs : s < 4) (hi : i < 64) (ht : t s = true) (h : BG M w l) (hz1 : ZR M 426 4 t) : CT G mi_Mo_isWire [.ref 373, .int (nI s), .int (nI 3), .int (nI i)] M (fun r M' => r = some (.int (nI 1)) ∧ M' = M) := by
  refine CT.of (by decide) (Nat.le_of_ble_eq_true rfl) ?_
  show TT G mi_Mo_isWire 0 [(0, .ref 373), (1, .int (nI s)), (2, .int (nI 3)), (3, .int (nI i))] [] M 0 0 _
  have bA := bN_i (t s)
  have bB : bN (t s) = 1 := by rw [ht]; rfl
  refine T_iload_n d_Mo_isWire_0 rfl ?_
  refine T_static (as := [.int (nI s)]) (rest := []) d_Mo_isWire_1 rfl (jw_Mo_isSession.jo (by decide)) lm_Mo_545 jt_Mo_isSession rfl (Nat.le_of_ble_eq_true rfl) (by decide) (by decide) (b_Mo_isS_in hs) (fun r M_1 hq => ?_)
  obtain ⟨rfl, he⟩ := hq
  obtain rfl := he.symm
  refine T_eq (pc' := 4) (L' := [(0, .ref 373), (1, .int (nI s)), (2, .int (nI 3)), (3, .int (nI i))]) (st' := [.int (nI 1)]) (M' := M) rfl rfl rfl rfl ?_
  refine N_if_eq_f (b := 1) d_Mo_isWire_4 (tgt := 11) rfl (by omega) (by omega) ?_
  refine T_iload_n d_Mo_isWire_7 rfl ?_
  refine N_if_ge_t (b := i) d_Mo_isWire_8 (tgt := 13) rfl (by omega) (by omega) ?_
  refine T_iload_n d_Mo_isWire_13 rfl ?_
  refine T_iconst (v := nI 1) d_Mo_isWire_14 (by decide) ?_
  refine N_icmp_ne_t (a := 1) (b := 3) d_Mo_isWire_15 (tgt := 39) rfl (by omega) (by omega) (by omega) ?_
  refine T_iload_n d_Mo_isWire_39 rfl ?_
  refine T_iconst (v := nI 2) d_Mo_isWire_40 (by decide) ?_
  refine N_icmp_ne_t (a := 2) (b := 3) d_Mo_isWire_41 (tgt := 66) rfl (by omega) (by omega) (by omega) ?_
  refine T_iload_n d_Mo_isWire_66 rfl ?_
  refine T_iconst (v := nI 3) d_Mo_isWire_67 (by decide) ?_
  refine N_icmp_ne_f (a := 3) (b := 3) d_Mo_isWire_68 (tgt := 90) rfl (by omega) (by omega) (by omega) ?_
  refine T_aload_n (v := .ref 373) d_Mo_isWire_71 rfl (Or.inr ⟨_, rfl⟩) ?_
  obtain ⟨v_2, hov_2, hwv_2, hsv_2, hiv_2⟩ := id h
  refine T_getfield (v := .ref 426) d_Mo_isWire_72 fg_Mo_398 hov_2 rfl ?_
  refine T_iload_n d_Mo_isWire_75 rfl ?_
  obtain ⟨f_3, h_4, h_5⟩ := id hz1
  refine N_zaload (k := s) (x := (nI ((bN (t s))))) d_Mo_isWire_76 h_4 (by omega) (by decide) (h_5 s (by omega)) ?_
  refine N_if_eq_f (b := (bN (t s))) d_Mo_isWire_77 (tgt := 90) rfl (by omega) (by omega) ?_
  refine T_iload_n d_Mo_isWire_80 rfl ?_
  refine T_bipush (v := nI 64) d_Mo_isWire_81 (by decide) ?_
  refine N_icmp_ge_f (a := 64) (b := i) d_Mo_isWire_83 (tgt := 90) rfl (by omega) (by omega) (by omega) ?_
  refine T_iconst (v := nI 1) d_Mo_isWire_86 (by decide) ?_
  refine T_goto (tgt := 91) d_Mo_isWire_87 rfl ?_
  exact T_ret d_Mo_isWire_91 rfl (by decide) (by decide) (by decide) ⟨rfl, rfl⟩
set_option maxHeartbeats 8000000 in
theorem p_Mo_wire_sneg {G : GX} {M : List va_E} {sd : Int32} {ch n m th : Nat} {x y z : Int32} (hx : x < 0) (hnb : NB M sd ch n m th) : CT G mi_Mo_wire [.ref 373, .int x, .int y, .int z] M (fun r M' => r = some (.int (nI 0)) ∧ NB M' sd ch n m 1 ∧ Kp [373] M M') := by
  obtain ⟨w, h, h66, h71, h72, h73, h74⟩ := hnb
  refine CT.of (by decide) (Nat.le_of_ble_eq_true rfl) ?_
  show TT G mi_Mo_wire 0 [(0, .ref 373), (1, .int x), (2, .int y), (3, .int z)] [] M 0 0 _
  refine T_aload_n (v := .ref 373) d_Mo_wire_0 rfl (Or.inr ⟨_, rfl⟩) ?_
  refine T_iconst (v := nI 0) d_Mo_wire_1 (by decide) ?_
  obtain ⟨v_1, hov_1, hwv_1, hsv_1, hiv_1⟩ := id h
  refine N_put (e := (moO (upd v_1 66 (nI 0)))) d_Mo_wire_2 (fp_Mo_316 _) hov_1 (Nat.le_of_ble_eq_true rfl) ⟨rfl, rfl⟩ rfl (fun M_2 h_3 s_4 => ?_)
  have p_5 := BG.st (j := 66) (by decide) hwv_1 hsv_1 hiv_1 h_3 (Ex.kp s_4)
  refine T_aload_n (v := .ref 373) d_Mo_wire_5 rfl (Or.inr ⟨_, rfl⟩) ?_
  refine T_iload_n d_Mo_wire_6 rfl ?_
  refine T_iload_n d_Mo_wire_7 rfl ?_
  refine T_iload_n d_Mo_wire_8 rfl ?_
  obtain ⟨v_7, hov_7, hwv_7, hsv_7, hiv_7⟩ := id p_5
  refine T_virtual (as := [.int x, .int y, .int z]) (rest := []) (b := 373) d_Mo_wire_9 rfl (jw_Mo_isWire.jo (by decide)) lm_Mo_595 ji_Mo_isWire js_Mo_isWire hov_7 rfl rfl rfl (Nat.le_of_ble_eq_true rfl) (by decide) (by decide) (b_Mo_isWire_sneg hx p_5 ) (fun r M_6 hq => ?_)
  obtain ⟨rfl, he⟩ := hq
  obtain rfl := he.symm
  refine T_eq (pc' := 12) (L' := [(0, .ref 373), (1, .int x), (2, .int y), (3, .int z)]) (st' := [.int (nI 0)]) (M' := M_2) rfl rfl rfl rfl ?_
  refine N_if_ne_f (b := 0) d_Mo_wire_12 (tgt := 22) rfl (by omega) (by omega) ?_
  refine T_aload_n (v := .ref 373) d_Mo_wire_15 rfl (Or.inr ⟨_, rfl⟩) ?_
  refine T_iconst (v := nI 1) d_Mo_wire_16 (by decide) ?_
  refine N_put (e := (moO (upd v_7 66 (nI 1)))) d_Mo_wire_17 (fp_Mo_316 _) hov_7 (Nat.le_of_ble_eq_true rfl) ⟨rfl, rfl⟩ rfl (fun M_8 h_9 s_10 => ?_)
  have p_11 := BG.st (j := 66) (by decide) hwv_7 hsv_7 hiv_7 h_9 (Ex.kp s_10)
  refine T_iconst (v := nI 0) d_Mo_wire_20 (by decide) ?_
  have nb_ : NB M_8 sd ch n m 1 := ⟨_, p_11, (show (upd (upd w 66 (nI 0)) 66 (nI 1)) 66 = (nI 1) from rfl), (show (upd (upd w 66 (nI 0)) 66 (nI 1)) 71 = sd from h71), (show (upd (upd w 66 (nI 0)) 66 (nI 1)) 72 = (nI ch) from h72), (show (upd (upd w 66 (nI 0)) 66 (nI 1)) 73 = (nI n) from h73), (show (upd (upd w 66 (nI 0)) 66 (nI 1)) 74 = (nI m) from h74)⟩
  exact T_ret d_Mo_wire_21 rfl (by first | decide | rfl) (by decide) (by decide) ⟨rfl, nb_, (Kp.ex (Kp.ex (Kp.rf : Kp [373] M M) s_4 (by decide)) s_10 (by decide))⟩
set_option maxHeartbeats 8000000 in
theorem p_Mo_wire_sbig {G : GX} {M : List va_E} {sd : Int32} {ch n m th : Nat} {x y z : Int32} (h0 : ¬ x < 0) (hx : nI 4 ≤ x) (hnb : NB M sd ch n m th) : CT G mi_Mo_wire [.ref 373, .int x, .int y, .int z] M (fun r M' => r = some (.int (nI 0)) ∧ NB M' sd ch n m 1 ∧ Kp [373] M M') := by
  obtain ⟨w, h, h66, h71, h72, h73, h74⟩ := hnb
  refine CT.of (by decide) (Nat.le_of_ble_eq_true rfl) ?_
  show TT G mi_Mo_wire 0 [(0, .ref 373), (1, .int x), (2, .int y), (3, .int z)] [] M 0 0 _
  refine T_aload_n (v := .ref 373) d_Mo_wire_0 rfl (Or.inr ⟨_, rfl⟩) ?_
  refine T_iconst (v := nI 0) d_Mo_wire_1 (by decide) ?_
  obtain ⟨v_1, hov_1, hwv_1, hsv_1, hiv_1⟩ := id h
  refine N_put (e := (moO (upd v_1 66 (nI 0)))) d_Mo_wire_2 (fp_Mo_316 _) hov_1 (Nat.le_of_ble_eq_true rfl) ⟨rfl, rfl⟩ rfl (fun M_2 h_3 s_4 => ?_)
  have p_5 := BG.st (j := 66) (by decide) hwv_1 hsv_1 hiv_1 h_3 (Ex.kp s_4)
  refine T_aload_n (v := .ref 373) d_Mo_wire_5 rfl (Or.inr ⟨_, rfl⟩) ?_
  refine T_iload_n d_Mo_wire_6 rfl ?_
  refine T_iload_n d_Mo_wire_7 rfl ?_
  refine T_iload_n d_Mo_wire_8 rfl ?_
  obtain ⟨v_7, hov_7, hwv_7, hsv_7, hiv_7⟩ := id p_5
  refine T_virtual (as := [.int x, .int y, .int z]) (rest := []) (b := 373) d_Mo_wire_9 rfl (jw_Mo_isWire.jo (by decide)) lm_Mo_595 ji_Mo_isWire js_Mo_isWire hov_7 rfl rfl rfl (Nat.le_of_ble_eq_true rfl) (by decide) (by decide) (b_Mo_isWire_sbig h0 hx p_5 ) (fun r M_6 hq => ?_)
  obtain ⟨rfl, he⟩ := hq
  obtain rfl := he.symm
  refine T_eq (pc' := 12) (L' := [(0, .ref 373), (1, .int x), (2, .int y), (3, .int z)]) (st' := [.int (nI 0)]) (M' := M_2) rfl rfl rfl rfl ?_
  refine N_if_ne_f (b := 0) d_Mo_wire_12 (tgt := 22) rfl (by omega) (by omega) ?_
  refine T_aload_n (v := .ref 373) d_Mo_wire_15 rfl (Or.inr ⟨_, rfl⟩) ?_
  refine T_iconst (v := nI 1) d_Mo_wire_16 (by decide) ?_
  refine N_put (e := (moO (upd v_7 66 (nI 1)))) d_Mo_wire_17 (fp_Mo_316 _) hov_7 (Nat.le_of_ble_eq_true rfl) ⟨rfl, rfl⟩ rfl (fun M_8 h_9 s_10 => ?_)
  have p_11 := BG.st (j := 66) (by decide) hwv_7 hsv_7 hiv_7 h_9 (Ex.kp s_10)
  refine T_iconst (v := nI 0) d_Mo_wire_20 (by decide) ?_
  have nb_ : NB M_8 sd ch n m 1 := ⟨_, p_11, (show (upd (upd w 66 (nI 0)) 66 (nI 1)) 66 = (nI 1) from rfl), (show (upd (upd w 66 (nI 0)) 66 (nI 1)) 71 = sd from h71), (show (upd (upd w 66 (nI 0)) 66 (nI 1)) 72 = (nI ch) from h72), (show (upd (upd w 66 (nI 0)) 66 (nI 1)) 73 = (nI n) from h73), (show (upd (upd w 66 (nI 0)) 66 (nI 1)) 74 = (nI m) from h74)⟩
  exact T_ret d_Mo_wire_21 rfl (by first | decide | rfl) (by decide) (by decide) ⟨rfl, nb_, (Kp.ex (Kp.ex (Kp.rf : Kp [373] M M) s_4 (by decide)) s_10 (by decide))⟩
set_option maxHeartbeats 8000000 in
theorem p_Mo_wire_ineg {G : GX} {M : List va_E} {sd : Int32} {ch n m th : Nat} {s : Nat} {y z : Int32} (hs : s < 4) (hz : z < 0) (hnb : NB M sd ch n m th) : CT G mi_Mo_wire [.ref 373, .int (nI s), .int y, .int z] M (fun r M' => r = some (.int (nI 0)) ∧ NB M' sd ch n m 1 ∧ Kp [373] M M') := by
  obtain ⟨w, h, h66, h71, h72, h73, h74⟩ := hnb
  refine CT.of (by decide) (Nat.le_of_ble_eq_true rfl) ?_
  show TT G mi_Mo_wire 0 [(0, .ref 373), (1, .int (nI s)), (2, .int y), (3, .int z)] [] M 0 0 _
  refine T_aload_n (v := .ref 373) d_Mo_wire_0 rfl (Or.inr ⟨_, rfl⟩) ?_
  refine T_iconst (v := nI 0) d_Mo_wire_1 (by decide) ?_
  obtain ⟨v_1, hov_1, hwv_1, hsv_1, hiv_1⟩ := id h
  refine N_put (e := (moO (upd v_1 66 (nI 0)))) d_Mo_wire_2 (fp_Mo_316 _) hov_1 (Nat.le_of_ble_eq_true rfl) ⟨rfl, rfl⟩ rfl (fun M_2 h_3 s_4 => ?_)
  have p_5 := BG.st (j := 66) (by decide) hwv_1 hsv_1 hiv_1 h_3 (Ex.kp s_4)
  refine T_aload_n (v := .ref 373) d_Mo_wire_5 rfl (Or.inr ⟨_, rfl⟩) ?_
  refine T_iload_n d_Mo_wire_6 rfl ?_
  refine T_iload_n d_Mo_wire_7 rfl ?_
  refine T_iload_n d_Mo_wire_8 rfl ?_
  obtain ⟨v_7, hov_7, hwv_7, hsv_7, hiv_7⟩ := id p_5
  refine T_virtual (as := [.int (nI s), .int y, .int z]) (rest := []) (b := 373) d_Mo_wire_9 rfl (jw_Mo_isWire.jo (by decide)) lm_Mo_595 ji_Mo_isWire js_Mo_isWire hov_7 rfl rfl rfl (Nat.le_of_ble_eq_true rfl) (by decide) (by decide) (b_Mo_isWire_ineg hs hz p_5 ) (fun r M_6 hq => ?_)
  obtain ⟨rfl, he⟩ := hq
  obtain rfl := he.symm
  refine T_eq (pc' := 12) (L' := [(0, .ref 373), (1, .int (nI s)), (2, .int y), (3, .int z)]) (st' := [.int (nI 0)]) (M' := M_2) rfl rfl rfl rfl ?_
  refine N_if_ne_f (b := 0) d_Mo_wire_12 (tgt := 22) rfl (by omega) (by omega) ?_
  refine T_aload_n (v := .ref 373) d_Mo_wire_15 rfl (Or.inr ⟨_, rfl⟩) ?_
  refine T_iconst (v := nI 1) d_Mo_wire_16 (by decide) ?_
  refine N_put (e := (moO (upd v_7 66 (nI 1)))) d_Mo_wire_17 (fp_Mo_316 _) hov_7 (Nat.le_of_ble_eq_true rfl) ⟨rfl, rfl⟩ rfl (fun M_8 h_9 s_10 => ?_)
  have p_11 := BG.st (j := 66) (by decide) hwv_7 hsv_7 hiv_7 h_9 (Ex.kp s_10)
  refine T_iconst (v := nI 0) d_Mo_wire_20 (by decide) ?_
  have nb_ : NB M_8 sd ch n m 1 := ⟨_, p_11, (show (upd (upd w 66 (nI 0)) 66 (nI 1)) 66 = (nI 1) from rfl), (show (upd (upd w 66 (nI 0)) 66 (nI 1)) 71 = sd from h71), (show (upd (upd w 66 (nI 0)) 66 (nI 1)) 72 = (nI ch) from h72), (show (upd (upd w 66 (nI 0)) 66 (nI 1)) 73 = (nI n) from h73), (show (upd (upd w 66 (nI 0)) 66 (nI 1)) 74 = (nI m) from h74)⟩
  exact T_ret d_Mo_wire_21 rfl (by first | decide | rfl) (by decide) (by decide) ⟨rfl, nb_, (Kp.ex (Kp.ex (Kp.rf : Kp [373] M M) s_4 (by decide)) s_10 (by decide))⟩
set_option maxHeartbeats 8000000 in
theorem p_Mo_wire_moth {G : GX} {M : List va_E} {sd : Int32} {ch n m th : Nat} {s i : Nat} {y : Int32} (hs : s < 4) (hi2 : i < 2147483648) (y1 : ¬ y = nI 1) (y2 : ¬ y = nI 2) (y3 : ¬ y = nI 3) (hnb : NB M sd ch n m th) : CT G mi_Mo_wire [.ref 373, .int (nI s), .int y, .int (nI i)] M (fun r M' => r = some (.int (nI 0)) ∧ NB M' sd ch n m 1 ∧ Kp [373] M M') := by
  obtain ⟨w, h, h66, h71, h72, h73, h74⟩ := hnb
  refine CT.of (by decide) (Nat.le_of_ble_eq_true rfl) ?_
  show TT G mi_Mo_wire 0 [(0, .ref 373), (1, .int (nI s)), (2, .int y), (3, .int (nI i))] [] M 0 0 _
  refine T_aload_n (v := .ref 373) d_Mo_wire_0 rfl (Or.inr ⟨_, rfl⟩) ?_
  refine T_iconst (v := nI 0) d_Mo_wire_1 (by decide) ?_
  obtain ⟨v_1, hov_1, hwv_1, hsv_1, hiv_1⟩ := id h
  refine N_put (e := (moO (upd v_1 66 (nI 0)))) d_Mo_wire_2 (fp_Mo_316 _) hov_1 (Nat.le_of_ble_eq_true rfl) ⟨rfl, rfl⟩ rfl (fun M_2 h_3 s_4 => ?_)
  have p_5 := BG.st (j := 66) (by decide) hwv_1 hsv_1 hiv_1 h_3 (Ex.kp s_4)
  refine T_aload_n (v := .ref 373) d_Mo_wire_5 rfl (Or.inr ⟨_, rfl⟩) ?_
  refine T_iload_n d_Mo_wire_6 rfl ?_
  refine T_iload_n d_Mo_wire_7 rfl ?_
  refine T_iload_n d_Mo_wire_8 rfl ?_
  obtain ⟨v_7, hov_7, hwv_7, hsv_7, hiv_7⟩ := id p_5
  refine T_virtual (as := [.int (nI s), .int y, .int (nI i)]) (rest := []) (b := 373) d_Mo_wire_9 rfl (jw_Mo_isWire.jo (by decide)) lm_Mo_595 ji_Mo_isWire js_Mo_isWire hov_7 rfl rfl rfl (Nat.le_of_ble_eq_true rfl) (by decide) (by decide) (b_Mo_isWire_moth hs hi2 y1 y2 y3 p_5 ) (fun r M_6 hq => ?_)
  obtain ⟨rfl, he⟩ := hq
  obtain rfl := he.symm
  refine T_eq (pc' := 12) (L' := [(0, .ref 373), (1, .int (nI s)), (2, .int y), (3, .int (nI i))]) (st' := [.int (nI 0)]) (M' := M_2) rfl rfl rfl rfl ?_
  refine N_if_ne_f (b := 0) d_Mo_wire_12 (tgt := 22) rfl (by omega) (by omega) ?_
  refine T_aload_n (v := .ref 373) d_Mo_wire_15 rfl (Or.inr ⟨_, rfl⟩) ?_
  refine T_iconst (v := nI 1) d_Mo_wire_16 (by decide) ?_
  refine N_put (e := (moO (upd v_7 66 (nI 1)))) d_Mo_wire_17 (fp_Mo_316 _) hov_7 (Nat.le_of_ble_eq_true rfl) ⟨rfl, rfl⟩ rfl (fun M_8 h_9 s_10 => ?_)
  have p_11 := BG.st (j := 66) (by decide) hwv_7 hsv_7 hiv_7 h_9 (Ex.kp s_10)
  refine T_iconst (v := nI 0) d_Mo_wire_20 (by decide) ?_
  have nb_ : NB M_8 sd ch n m 1 := ⟨_, p_11, (show (upd (upd w 66 (nI 0)) 66 (nI 1)) 66 = (nI 1) from rfl), (show (upd (upd w 66 (nI 0)) 66 (nI 1)) 71 = sd from h71), (show (upd (upd w 66 (nI 0)) 66 (nI 1)) 72 = (nI ch) from h72), (show (upd (upd w 66 (nI 0)) 66 (nI 1)) 73 = (nI n) from h73), (show (upd (upd w 66 (nI 0)) 66 (nI 1)) 74 = (nI m) from h74)⟩
  exact T_ret d_Mo_wire_21 rfl (by first | decide | rfl) (by decide) (by decide) ⟨rfl, nb_, (Kp.ex (Kp.ex (Kp.rf : Kp [373] M M) s_4 (by decide)) s_10 (by decide))⟩
set_option maxHeartbeats 8000000 in
theorem p_Mo_wire_1_off {G : GX} {M : List va_E} {sd : Int32} {ch n m th : Nat} {s i : Nat} {t : Nat → Bool} (hs : s < 4) (hi2 : i < 2147483648) (ht : t s = false) (hnb : NB M sd ch n m th) (hz1 : ZR M 424 4 t) : CT G mi_Mo_wire [.ref 373, .int (nI s), .int (nI 1), .int (nI i)] M (fun r M' => r = some (.int (nI 0)) ∧ NB M' sd ch n m 1 ∧ Kp [373] M M') := by
  obtain ⟨w, h, h66, h71, h72, h73, h74⟩ := hnb
  refine CT.of (by decide) (Nat.le_of_ble_eq_true rfl) ?_
  show TT G mi_Mo_wire 0 [(0, .ref 373), (1, .int (nI s)), (2, .int (nI 1)), (3, .int (nI i))] [] M 0 0 _
  refine T_aload_n (v := .ref 373) d_Mo_wire_0 rfl (Or.inr ⟨_, rfl⟩) ?_
  refine T_iconst (v := nI 0) d_Mo_wire_1 (by decide) ?_
  obtain ⟨v_1, hov_1, hwv_1, hsv_1, hiv_1⟩ := id h
  refine N_put (e := (moO (upd v_1 66 (nI 0)))) d_Mo_wire_2 (fp_Mo_316 _) hov_1 (Nat.le_of_ble_eq_true rfl) ⟨rfl, rfl⟩ rfl (fun M_2 h_3 s_4 => ?_)
  have p_5 := BG.st (j := 66) (by decide) hwv_1 hsv_1 hiv_1 h_3 (Ex.kp s_4)
  refine T_aload_n (v := .ref 373) d_Mo_wire_5 rfl (Or.inr ⟨_, rfl⟩) ?_
  refine T_iload_n d_Mo_wire_6 rfl ?_
  refine T_iload_n d_Mo_wire_7 rfl ?_
  refine T_iload_n d_Mo_wire_8 rfl ?_
  have p_7 := (ZR.kp (hz1) (Ex.kp s_4) (by decide))
  obtain ⟨v_8, hov_8, hwv_8, hsv_8, hiv_8⟩ := id p_5
  refine T_virtual (as := [.int (nI s), .int (nI 1), .int (nI i)]) (rest := []) (b := 373) d_Mo_wire_9 rfl (jw_Mo_isWire.jo (by decide)) lm_Mo_595 ji_Mo_isWire js_Mo_isWire hov_8 rfl rfl rfl (Nat.le_of_ble_eq_true rfl) (by decide) (by decide) (b_Mo_isWire_1_off hs hi2 ht p_5 p_7) (fun r M_6 hq => ?_)
  obtain ⟨rfl, he⟩ := hq
  obtain rfl := he.symm
  refine T_eq (pc' := 12) (L' := [(0, .ref 373), (1, .int (nI s)), (2, .int (nI 1)), (3, .int (nI i))]) (st' := [.int (nI 0)]) (M' := M_2) rfl rfl rfl rfl ?_
  refine N_if_ne_f (b := 0) d_Mo_wire_12 (tgt := 22) rfl (by omega) (by omega) ?_
  refine T_aload_n (v := .ref 373) d_Mo_wire_15 rfl (Or.inr ⟨_, rfl⟩) ?_
  refine T_iconst (v := nI 1) d_Mo_wire_16 (by decide) ?_
  refine N_put (e := (moO (upd v_8 66 (nI 1)))) d_Mo_wire_17 (fp_Mo_316 _) hov_8 (Nat.le_of_ble_eq_true rfl) ⟨rfl, rfl⟩ rfl (fun M_9 h_10 s_11 => ?_)
  have p_12 := BG.st (j := 66) (by decide) hwv_8 hsv_8 hiv_8 h_10 (Ex.kp s_11)
  refine T_iconst (v := nI 0) d_Mo_wire_20 (by decide) ?_
  have nb_ : NB M_9 sd ch n m 1 := ⟨_, p_12, (show (upd (upd w 66 (nI 0)) 66 (nI 1)) 66 = (nI 1) from rfl), (show (upd (upd w 66 (nI 0)) 66 (nI 1)) 71 = sd from h71), (show (upd (upd w 66 (nI 0)) 66 (nI 1)) 72 = (nI ch) from h72), (show (upd (upd w 66 (nI 0)) 66 (nI 1)) 73 = (nI n) from h73), (show (upd (upd w 66 (nI 0)) 66 (nI 1)) 74 = (nI m) from h74)⟩
  exact T_ret d_Mo_wire_21 rfl (by first | decide | rfl) (by decide) (by decide) ⟨rfl, nb_, (Kp.ex (Kp.ex (Kp.rf : Kp [373] M M) s_4 (by decide)) s_11 (by decide))⟩
set_option maxHeartbeats 8000000 in
theorem p_Mo_wire_1_out {G : GX} {M : List va_E} {sd : Int32} {ch n m th : Nat} {s i : Nat} {t : Nat → Bool} (hs : s < 4) (hi : 96 ≤ i) (hi2 : i < 2147483648) (hnb : NB M sd ch n m th) (hz1 : ZR M 424 4 t) : CT G mi_Mo_wire [.ref 373, .int (nI s), .int (nI 1), .int (nI i)] M (fun r M' => r = some (.int (nI 0)) ∧ NB M' sd ch n m 1 ∧ Kp [373] M M') := by
  obtain ⟨w, h, h66, h71, h72, h73, h74⟩ := hnb
  refine CT.of (by decide) (Nat.le_of_ble_eq_true rfl) ?_
  show TT G mi_Mo_wire 0 [(0, .ref 373), (1, .int (nI s)), (2, .int (nI 1)), (3, .int (nI i))] [] M 0 0 _
  refine T_aload_n (v := .ref 373) d_Mo_wire_0 rfl (Or.inr ⟨_, rfl⟩) ?_
  refine T_iconst (v := nI 0) d_Mo_wire_1 (by decide) ?_
  obtain ⟨v_1, hov_1, hwv_1, hsv_1, hiv_1⟩ := id h
  refine N_put (e := (moO (upd v_1 66 (nI 0)))) d_Mo_wire_2 (fp_Mo_316 _) hov_1 (Nat.le_of_ble_eq_true rfl) ⟨rfl, rfl⟩ rfl (fun M_2 h_3 s_4 => ?_)
  have p_5 := BG.st (j := 66) (by decide) hwv_1 hsv_1 hiv_1 h_3 (Ex.kp s_4)
  refine T_aload_n (v := .ref 373) d_Mo_wire_5 rfl (Or.inr ⟨_, rfl⟩) ?_
  refine T_iload_n d_Mo_wire_6 rfl ?_
  refine T_iload_n d_Mo_wire_7 rfl ?_
  refine T_iload_n d_Mo_wire_8 rfl ?_
  have p_7 := (ZR.kp (hz1) (Ex.kp s_4) (by decide))
  obtain ⟨v_8, hov_8, hwv_8, hsv_8, hiv_8⟩ := id p_5
  refine T_virtual (as := [.int (nI s), .int (nI 1), .int (nI i)]) (rest := []) (b := 373) d_Mo_wire_9 rfl (jw_Mo_isWire.jo (by decide)) lm_Mo_595 ji_Mo_isWire js_Mo_isWire hov_8 rfl rfl rfl (Nat.le_of_ble_eq_true rfl) (by decide) (by decide) (b_Mo_isWire_1_out hs hi hi2 p_5 p_7) (fun r M_6 hq => ?_)
  obtain ⟨rfl, he⟩ := hq
  obtain rfl := he.symm
  refine T_eq (pc' := 12) (L' := [(0, .ref 373), (1, .int (nI s)), (2, .int (nI 1)), (3, .int (nI i))]) (st' := [.int (nI 0)]) (M' := M_2) rfl rfl rfl rfl ?_
  refine N_if_ne_f (b := 0) d_Mo_wire_12 (tgt := 22) rfl (by omega) (by omega) ?_
  refine T_aload_n (v := .ref 373) d_Mo_wire_15 rfl (Or.inr ⟨_, rfl⟩) ?_
  refine T_iconst (v := nI 1) d_Mo_wire_16 (by decide) ?_
  refine N_put (e := (moO (upd v_8 66 (nI 1)))) d_Mo_wire_17 (fp_Mo_316 _) hov_8 (Nat.le_of_ble_eq_true rfl) ⟨rfl, rfl⟩ rfl (fun M_9 h_10 s_11 => ?_)
  have p_12 := BG.st (j := 66) (by decide) hwv_8 hsv_8 hiv_8 h_10 (Ex.kp s_11)
  refine T_iconst (v := nI 0) d_Mo_wire_20 (by decide) ?_
  have nb_ : NB M_9 sd ch n m 1 := ⟨_, p_12, (show (upd (upd w 66 (nI 0)) 66 (nI 1)) 66 = (nI 1) from rfl), (show (upd (upd w 66 (nI 0)) 66 (nI 1)) 71 = sd from h71), (show (upd (upd w 66 (nI 0)) 66 (nI 1)) 72 = (nI ch) from h72), (show (upd (upd w 66 (nI 0)) 66 (nI 1)) 73 = (nI n) from h73), (show (upd (upd w 66 (nI 0)) 66 (nI 1)) 74 = (nI m) from h74)⟩
  exact T_ret d_Mo_wire_21 rfl (by first | decide | rfl) (by decide) (by decide) ⟨rfl, nb_, (Kp.ex (Kp.ex (Kp.rf : Kp [373] M M) s_4 (by decide)) s_11 (by decide))⟩
set_option maxHeartbeats 8000000 in
theorem p_Mo_wire_1_in {G : GX} {M : List va_E} {sd : Int32} {ch n m th : Nat} {X : Nat → List UInt8} {s i : Nat} {t : Nat → Bool} (hs : s < 4) (hi : i < 96) (ht : t s = true) (hnb : NB M sd ch n m th) (hz1 : ZR M 424 4 t) (hr : SL M 433 384 96 4 X) (hl : (X s).length = 96) : CT G mi_Mo_wire [.ref 373, .int (nI s), .int (nI 1), .int (nI i)] M (fun r M' => r = some (.int (nI (gd (X s) i).toNat)) ∧ NB M' sd ch n m 0 ∧ Kp [373] M M') := by
  obtain ⟨w, h, h66, h71, h72, h73, h74⟩ := hnb
  refine CT.of (by decide) (Nat.le_of_ble_eq_true rfl) ?_
  show TT G mi_Mo_wire 0 [(0, .ref 373), (1, .int (nI s)), (2, .int (nI 1)), (3, .int (nI i))] [] M 0 0 _
  obtain ⟨L1, hL1, eL1, sg1⟩ := SL.rd hr hs
  have lL := eL1
  refine T_aload_n (v := .ref 373) d_Mo_wire_0 rfl (Or.inr ⟨_, rfl⟩) ?_
  refine T_iconst (v := nI 0) d_Mo_wire_1 (by decide) ?_
  obtain ⟨v_2, hov_2, hwv_2, hsv_2, hiv_2⟩ := id h
  refine N_put (e := (moO (upd v_2 66 (nI 0)))) d_Mo_wire_2 (fp_Mo_316 _) hov_2 (Nat.le_of_ble_eq_true rfl) ⟨rfl, rfl⟩ rfl (fun M_3 h_4 s_5 => ?_)
  have p_6 := BG.st (j := 66) (by decide) hwv_2 hsv_2 hiv_2 h_4 (Ex.kp s_5)
  refine T_aload_n (v := .ref 373) d_Mo_wire_5 rfl (Or.inr ⟨_, rfl⟩) ?_
  refine T_iload_n d_Mo_wire_6 rfl ?_
  refine T_iload_n d_Mo_wire_7 rfl ?_
  refine T_iload_n d_Mo_wire_8 rfl ?_
  have p_8 := (ZR.kp (hz1) (Ex.kp s_5) (by decide))
  obtain ⟨v_9, hov_9, hwv_9, hsv_9, hiv_9⟩ := id p_6
  refine T_virtual (as := [.int (nI s), .int (nI 1), .int (nI i)]) (rest := []) (b := 373) d_Mo_wire_9 rfl (jw_Mo_isWire.jo (by decide)) lm_Mo_595 ji_Mo_isWire js_Mo_isWire hov_9 rfl rfl rfl (Nat.le_of_ble_eq_true rfl) (by decide) (by decide) (b_Mo_isWire_1_in hs hi ht p_6 p_8) (fun r M_7 hq => ?_)
  obtain ⟨rfl, he⟩ := hq
  obtain rfl := he.symm
  refine T_eq (pc' := 12) (L' := [(0, .ref 373), (1, .int (nI s)), (2, .int (nI 1)), (3, .int (nI i))]) (st' := [.int (nI 1)]) (M' := M_3) rfl rfl rfl rfl ?_
  refine N_if_ne_t (b := 1) d_Mo_wire_12 (tgt := 22) rfl (by omega) (by omega) ?_
  refine T_iload_n d_Mo_wire_22 rfl ?_
  refine T_iconst (v := nI 1) d_Mo_wire_23 (by decide) ?_
  refine N_icmp_ne_f (a := 1) (b := 1) d_Mo_wire_24 (tgt := 39) rfl (by omega) (by omega) (by omega) ?_
  refine T_aload_n (v := .ref 373) d_Mo_wire_27 rfl (Or.inr ⟨_, rfl⟩) ?_
  refine T_getfield (v := .ref 433) d_Mo_wire_28 fg_Mo_419 hov_9 rfl ?_
  refine T_bipush (v := nI 96) d_Mo_wire_31 (by decide) ?_
  refine T_iload_n d_Mo_wire_33 rfl ?_
  refine N_imul (a := s) (b := 96) (c := (96 * s)) d_Mo_wire_34 rfl ?_
  refine T_iload_n d_Mo_wire_35 rfl ?_
  refine N_iadd (a := i) (b := (96 * s)) (c := ((96 * s) + i)) d_Mo_wire_36 rfl ?_
  have p_10 := (IA.kp (hL1) (Ex.kp s_5) (by decide))
  obtain ⟨f_11, hf_12, hl_13, hv_14⟩ := id p_10
  refine N_iaload (k := ((96 * s) + i)) (x := (bR (gd L1 ((96 * s) + i)))) d_Mo_wire_37 hf_12 (by omega) (by decide) (hv_14 ((96 * s) + i) (by first | omega | (simp only [List.length_append, List.length_cons, List.length_nil, List.length_replicate, sl_len, be_len, sha_len, hmac_len, ex1_len, ex2_len, stretch_len, zer8_len, tC_len, tag1_len, bnN_len, xkp_len, enc_len, chance_len, lbF_len, str2_len, pub_len', sec8_len]; omega))) ?_
  have rv : gd L1 (96 * s + i) = gd (X s) i := sg1 i (by omega)
  have nb_ : NB M_3 sd ch n m 0 := ⟨_, p_6, (show (upd w 66 (nI 0)) 66 = (nI 0) from rfl), (show (upd w 66 (nI 0)) 71 = sd from h71), (show (upd w 66 (nI 0)) 72 = (nI ch) from h72), (show (upd w 66 (nI 0)) 73 = (nI n) from h73), (show (upd w 66 (nI 0)) 74 = (nI m) from h74)⟩
  exact T_ret d_Mo_wire_38 rfl (by first | decide | rfl) (by decide) (by decide) ⟨by rw [rv]; rfl, nb_, (Kp.ex (Kp.rf : Kp [373] M M) s_5 (by decide))⟩
set_option maxHeartbeats 8000000 in
theorem p_Mo_wire_2_off {G : GX} {M : List va_E} {sd : Int32} {ch n m th : Nat} {s i : Nat} {t : Nat → Bool} (hs : s < 4) (hi2 : i < 2147483648) (ht : t s = false) (hnb : NB M sd ch n m th) (hz1 : ZR M 425 4 t) : CT G mi_Mo_wire [.ref 373, .int (nI s), .int (nI 2), .int (nI i)] M (fun r M' => r = some (.int (nI 0)) ∧ NB M' sd ch n m 1 ∧ Kp [373] M M') := by
  obtain ⟨w, h, h66, h71, h72, h73, h74⟩ := hnb
  refine CT.of (by decide) (Nat.le_of_ble_eq_true rfl) ?_
  show TT G mi_Mo_wire 0 [(0, .ref 373), (1, .int (nI s)), (2, .int (nI 2)), (3, .int (nI i))] [] M 0 0 _
  refine T_aload_n (v := .ref 373) d_Mo_wire_0 rfl (Or.inr ⟨_, rfl⟩) ?_
  refine T_iconst (v := nI 0) d_Mo_wire_1 (by decide) ?_
  obtain ⟨v_1, hov_1, hwv_1, hsv_1, hiv_1⟩ := id h
  refine N_put (e := (moO (upd v_1 66 (nI 0)))) d_Mo_wire_2 (fp_Mo_316 _) hov_1 (Nat.le_of_ble_eq_true rfl) ⟨rfl, rfl⟩ rfl (fun M_2 h_3 s_4 => ?_)
  have p_5 := BG.st (j := 66) (by decide) hwv_1 hsv_1 hiv_1 h_3 (Ex.kp s_4)
  refine T_aload_n (v := .ref 373) d_Mo_wire_5 rfl (Or.inr ⟨_, rfl⟩) ?_
  refine T_iload_n d_Mo_wire_6 rfl ?_
  refine T_iload_n d_Mo_wire_7 rfl ?_
  refine T_iload_n d_Mo_wire_8 rfl ?_
  have p_7 := (ZR.kp (hz1) (Ex.kp s_4) (by decide))
  obtain ⟨v_8, hov_8, hwv_8, hsv_8, hiv_8⟩ := id p_5
  refine T_virtual (as := [.int (nI s), .int (nI 2), .int (nI i)]) (rest := []) (b := 373) d_Mo_wire_9 rfl (jw_Mo_isWire.jo (by decide)) lm_Mo_595 ji_Mo_isWire js_Mo_isWire hov_8 rfl rfl rfl (Nat.le_of_ble_eq_true rfl) (by decide) (by decide) (b_Mo_isWire_2_off hs hi2 ht p_5 p_7) (fun r M_6 hq => ?_)
  obtain ⟨rfl, he⟩ := hq
  obtain rfl := he.symm
  refine T_eq (pc' := 12) (L' := [(0, .ref 373), (1, .int (nI s)), (2, .int (nI 2)), (3, .int (nI i))]) (st' := [.int (nI 0)]) (M' := M_2) rfl rfl rfl rfl ?_
  refine N_if_ne_f (b := 0) d_Mo_wire_12 (tgt := 22) rfl (by omega) (by omega) ?_
  refine T_aload_n (v := .ref 373) d_Mo_wire_15 rfl (Or.inr ⟨_, rfl⟩) ?_
  refine T_iconst (v := nI 1) d_Mo_wire_16 (by decide) ?_
  refine N_put (e := (moO (upd v_8 66 (nI 1)))) d_Mo_wire_17 (fp_Mo_316 _) hov_8 (Nat.le_of_ble_eq_true rfl) ⟨rfl, rfl⟩ rfl (fun M_9 h_10 s_11 => ?_)
  have p_12 := BG.st (j := 66) (by decide) hwv_8 hsv_8 hiv_8 h_10 (Ex.kp s_11)
  refine T_iconst (v := nI 0) d_Mo_wire_20 (by decide) ?_
  have nb_ : NB M_9 sd ch n m 1 := ⟨_, p_12, (show (upd (upd w 66 (nI 0)) 66 (nI 1)) 66 = (nI 1) from rfl), (show (upd (upd w 66 (nI 0)) 66 (nI 1)) 71 = sd from h71), (show (upd (upd w 66 (nI 0)) 66 (nI 1)) 72 = (nI ch) from h72), (show (upd (upd w 66 (nI 0)) 66 (nI 1)) 73 = (nI n) from h73), (show (upd (upd w 66 (nI 0)) 66 (nI 1)) 74 = (nI m) from h74)⟩
  exact T_ret d_Mo_wire_21 rfl (by first | decide | rfl) (by decide) (by decide) ⟨rfl, nb_, (Kp.ex (Kp.ex (Kp.rf : Kp [373] M M) s_4 (by decide)) s_11 (by decide))⟩
set_option maxHeartbeats 8000000 in
theorem p_Mo_wire_2_out {G : GX} {M : List va_E} {sd : Int32} {ch n m th : Nat} {s i : Nat} {t : Nat → Bool} (hs : s < 4) (hi : 320 ≤ i) (hi2 : i < 2147483648) (hnb : NB M sd ch n m th) (hz1 : ZR M 425 4 t) : CT G mi_Mo_wire [.ref 373, .int (nI s), .int (nI 2), .int (nI i)] M (fun r M' => r = some (.int (nI 0)) ∧ NB M' sd ch n m 1 ∧ Kp [373] M M') := by
  obtain ⟨w, h, h66, h71, h72, h73, h74⟩ := hnb
  refine CT.of (by decide) (Nat.le_of_ble_eq_true rfl) ?_
  show TT G mi_Mo_wire 0 [(0, .ref 373), (1, .int (nI s)), (2, .int (nI 2)), (3, .int (nI i))] [] M 0 0 _
  refine T_aload_n (v := .ref 373) d_Mo_wire_0 rfl (Or.inr ⟨_, rfl⟩) ?_
  refine T_iconst (v := nI 0) d_Mo_wire_1 (by decide) ?_
  obtain ⟨v_1, hov_1, hwv_1, hsv_1, hiv_1⟩ := id h
  refine N_put (e := (moO (upd v_1 66 (nI 0)))) d_Mo_wire_2 (fp_Mo_316 _) hov_1 (Nat.le_of_ble_eq_true rfl) ⟨rfl, rfl⟩ rfl (fun M_2 h_3 s_4 => ?_)
  have p_5 := BG.st (j := 66) (by decide) hwv_1 hsv_1 hiv_1 h_3 (Ex.kp s_4)
  refine T_aload_n (v := .ref 373) d_Mo_wire_5 rfl (Or.inr ⟨_, rfl⟩) ?_
  refine T_iload_n d_Mo_wire_6 rfl ?_
  refine T_iload_n d_Mo_wire_7 rfl ?_
  refine T_iload_n d_Mo_wire_8 rfl ?_
  have p_7 := (ZR.kp (hz1) (Ex.kp s_4) (by decide))
  obtain ⟨v_8, hov_8, hwv_8, hsv_8, hiv_8⟩ := id p_5
  refine T_virtual (as := [.int (nI s), .int (nI 2), .int (nI i)]) (rest := []) (b := 373) d_Mo_wire_9 rfl (jw_Mo_isWire.jo (by decide)) lm_Mo_595 ji_Mo_isWire js_Mo_isWire hov_8 rfl rfl rfl (Nat.le_of_ble_eq_true rfl) (by decide) (by decide) (b_Mo_isWire_2_out hs hi hi2 p_5 p_7) (fun r M_6 hq => ?_)
  obtain ⟨rfl, he⟩ := hq
  obtain rfl := he.symm
  refine T_eq (pc' := 12) (L' := [(0, .ref 373), (1, .int (nI s)), (2, .int (nI 2)), (3, .int (nI i))]) (st' := [.int (nI 0)]) (M' := M_2) rfl rfl rfl rfl ?_
  refine N_if_ne_f (b := 0) d_Mo_wire_12 (tgt := 22) rfl (by omega) (by omega) ?_
  refine T_aload_n (v := .ref 373) d_Mo_wire_15 rfl (Or.inr ⟨_, rfl⟩) ?_
  refine T_iconst (v := nI 1) d_Mo_wire_16 (by decide) ?_
  refine N_put (e := (moO (upd v_8 66 (nI 1)))) d_Mo_wire_17 (fp_Mo_316 _) hov_8 (Nat.le_of_ble_eq_true rfl) ⟨rfl, rfl⟩ rfl (fun M_9 h_10 s_11 => ?_)
  have p_12 := BG.st (j := 66) (by decide) hwv_8 hsv_8 hiv_8 h_10 (Ex.kp s_11)
  refine T_iconst (v := nI 0) d_Mo_wire_20 (by decide) ?_
  have nb_ : NB M_9 sd ch n m 1 := ⟨_, p_12, (show (upd (upd w 66 (nI 0)) 66 (nI 1)) 66 = (nI 1) from rfl), (show (upd (upd w 66 (nI 0)) 66 (nI 1)) 71 = sd from h71), (show (upd (upd w 66 (nI 0)) 66 (nI 1)) 72 = (nI ch) from h72), (show (upd (upd w 66 (nI 0)) 66 (nI 1)) 73 = (nI n) from h73), (show (upd (upd w 66 (nI 0)) 66 (nI 1)) 74 = (nI m) from h74)⟩
  exact T_ret d_Mo_wire_21 rfl (by first | decide | rfl) (by decide) (by decide) ⟨rfl, nb_, (Kp.ex (Kp.ex (Kp.rf : Kp [373] M M) s_4 (by decide)) s_11 (by decide))⟩
set_option maxHeartbeats 8000000 in
theorem p_Mo_wire_2_in {G : GX} {M : List va_E} {sd : Int32} {ch n m th : Nat} {X : Nat → List UInt8} {s i : Nat} {t : Nat → Bool} (hs : s < 4) (hi : i < 320) (ht : t s = true) (hnb : NB M sd ch n m th) (hz1 : ZR M 425 4 t) (hr : SL M 434 1280 320 4 X) (hl : (X s).length = 320) : CT G mi_Mo_wire [.ref 373, .int (nI s), .int (nI 2), .int (nI i)] M (fun r M' => r = some (.int (nI (gd (X s) i).toNat)) ∧ NB M' sd ch n m 0 ∧ Kp [373] M M') := by
  obtain ⟨w, h, h66, h71, h72, h73, h74⟩ := hnb
  refine CT.of (by decide) (Nat.le_of_ble_eq_true rfl) ?_
  show TT G mi_Mo_wire 0 [(0, .ref 373), (1, .int (nI s)), (2, .int (nI 2)), (3, .int (nI i))] [] M 0 0 _
  obtain ⟨L1, hL1, eL1, sg1⟩ := SL.rd hr hs
  have lL := eL1
  refine T_aload_n (v := .ref 373) d_Mo_wire_0 rfl (Or.inr ⟨_, rfl⟩) ?_
  refine T_iconst (v := nI 0) d_Mo_wire_1 (by decide) ?_
  obtain ⟨v_2, hov_2, hwv_2, hsv_2, hiv_2⟩ := id h
  refine N_put (e := (moO (upd v_2 66 (nI 0)))) d_Mo_wire_2 (fp_Mo_316 _) hov_2 (Nat.le_of_ble_eq_true rfl) ⟨rfl, rfl⟩ rfl (fun M_3 h_4 s_5 => ?_)
  have p_6 := BG.st (j := 66) (by decide) hwv_2 hsv_2 hiv_2 h_4 (Ex.kp s_5)
  refine T_aload_n (v := .ref 373) d_Mo_wire_5 rfl (Or.inr ⟨_, rfl⟩) ?_
  refine T_iload_n d_Mo_wire_6 rfl ?_
  refine T_iload_n d_Mo_wire_7 rfl ?_
  refine T_iload_n d_Mo_wire_8 rfl ?_
  have p_8 := (ZR.kp (hz1) (Ex.kp s_5) (by decide))
  obtain ⟨v_9, hov_9, hwv_9, hsv_9, hiv_9⟩ := id p_6
  refine T_virtual (as := [.int (nI s), .int (nI 2), .int (nI i)]) (rest := []) (b := 373) d_Mo_wire_9 rfl (jw_Mo_isWire.jo (by decide)) lm_Mo_595 ji_Mo_isWire js_Mo_isWire hov_9 rfl rfl rfl (Nat.le_of_ble_eq_true rfl) (by decide) (by decide) (b_Mo_isWire_2_in hs hi ht p_6 p_8) (fun r M_7 hq => ?_)
  obtain ⟨rfl, he⟩ := hq
  obtain rfl := he.symm
  refine T_eq (pc' := 12) (L' := [(0, .ref 373), (1, .int (nI s)), (2, .int (nI 2)), (3, .int (nI i))]) (st' := [.int (nI 1)]) (M' := M_3) rfl rfl rfl rfl ?_
  refine N_if_ne_t (b := 1) d_Mo_wire_12 (tgt := 22) rfl (by omega) (by omega) ?_
  refine T_iload_n d_Mo_wire_22 rfl ?_
  refine T_iconst (v := nI 1) d_Mo_wire_23 (by decide) ?_
  refine N_icmp_ne_t (a := 1) (b := 2) d_Mo_wire_24 (tgt := 39) rfl (by omega) (by omega) (by omega) ?_
  refine T_iload_n d_Mo_wire_39 rfl ?_
  refine T_iconst (v := nI 2) d_Mo_wire_40 (by decide) ?_
  refine N_icmp_ne_f (a := 2) (b := 2) d_Mo_wire_41 (tgt := 57) rfl (by omega) (by omega) (by omega) ?_
  refine T_aload_n (v := .ref 373) d_Mo_wire_44 rfl (Or.inr ⟨_, rfl⟩) ?_
  refine T_getfield (v := .ref 434) d_Mo_wire_45 fg_Mo_422 hov_9 rfl ?_
  refine T_sipush (v := nI 320) d_Mo_wire_48 (by decide) ?_
  refine T_iload_n d_Mo_wire_51 rfl ?_
  refine N_imul (a := s) (b := 320) (c := (320 * s)) d_Mo_wire_52 rfl ?_
  refine T_iload_n d_Mo_wire_53 rfl ?_
  refine N_iadd (a := i) (b := (320 * s)) (c := ((320 * s) + i)) d_Mo_wire_54 rfl ?_
  have p_10 := (IA.kp (hL1) (Ex.kp s_5) (by decide))
  obtain ⟨f_11, hf_12, hl_13, hv_14⟩ := id p_10
  refine N_iaload (k := ((320 * s) + i)) (x := (bR (gd L1 ((320 * s) + i)))) d_Mo_wire_55 hf_12 (by omega) (by decide) (hv_14 ((320 * s) + i) (by first | omega | (simp only [List.length_append, List.length_cons, List.length_nil, List.length_replicate, sl_len, be_len, sha_len, hmac_len, ex1_len, ex2_len, stretch_len, zer8_len, tC_len, tag1_len, bnN_len, xkp_len, enc_len, chance_len, lbF_len, str2_len, pub_len', sec8_len]; omega))) ?_
  have rv : gd L1 (320 * s + i) = gd (X s) i := sg1 i (by omega)
  have nb_ : NB M_3 sd ch n m 0 := ⟨_, p_6, (show (upd w 66 (nI 0)) 66 = (nI 0) from rfl), (show (upd w 66 (nI 0)) 71 = sd from h71), (show (upd w 66 (nI 0)) 72 = (nI ch) from h72), (show (upd w 66 (nI 0)) 73 = (nI n) from h73), (show (upd w 66 (nI 0)) 74 = (nI m) from h74)⟩
  exact T_ret d_Mo_wire_56 rfl (by first | decide | rfl) (by decide) (by decide) ⟨by rw [rv]; rfl, nb_, (Kp.ex (Kp.rf : Kp [373] M M) s_5 (by decide))⟩
set_option maxHeartbeats 8000000 in
theorem p_Mo_wire_3_off {G : GX} {M : List va_E} {sd : Int32} {ch n m th : Nat} {s i : Nat} {t : Nat → Bool} (hs : s < 4) (hi2 : i < 2147483648) (ht : t s = false) (hnb : NB M sd ch n m th) (hz1 : ZR M 426 4 t) : CT G mi_Mo_wire [.ref 373, .int (nI s), .int (nI 3), .int (nI i)] M (fun r M' => r = some (.int (nI 0)) ∧ NB M' sd ch n m 1 ∧ Kp [373] M M') := by
  obtain ⟨w, h, h66, h71, h72, h73, h74⟩ := hnb
  refine CT.of (by decide) (Nat.le_of_ble_eq_true rfl) ?_
  show TT G mi_Mo_wire 0 [(0, .ref 373), (1, .int (nI s)), (2, .int (nI 3)), (3, .int (nI i))] [] M 0 0 _
  refine T_aload_n (v := .ref 373) d_Mo_wire_0 rfl (Or.inr ⟨_, rfl⟩) ?_
  refine T_iconst (v := nI 0) d_Mo_wire_1 (by decide) ?_
  obtain ⟨v_1, hov_1, hwv_1, hsv_1, hiv_1⟩ := id h
  refine N_put (e := (moO (upd v_1 66 (nI 0)))) d_Mo_wire_2 (fp_Mo_316 _) hov_1 (Nat.le_of_ble_eq_true rfl) ⟨rfl, rfl⟩ rfl (fun M_2 h_3 s_4 => ?_)
  have p_5 := BG.st (j := 66) (by decide) hwv_1 hsv_1 hiv_1 h_3 (Ex.kp s_4)
  refine T_aload_n (v := .ref 373) d_Mo_wire_5 rfl (Or.inr ⟨_, rfl⟩) ?_
  refine T_iload_n d_Mo_wire_6 rfl ?_
  refine T_iload_n d_Mo_wire_7 rfl ?_
  refine T_iload_n d_Mo_wire_8 rfl ?_
  have p_7 := (ZR.kp (hz1) (Ex.kp s_4) (by decide))
  obtain ⟨v_8, hov_8, hwv_8, hsv_8, hiv_8⟩ := id p_5
  refine T_virtual (as := [.int (nI s), .int (nI 3), .int (nI i)]) (rest := []) (b := 373) d_Mo_wire_9 rfl (jw_Mo_isWire.jo (by decide)) lm_Mo_595 ji_Mo_isWire js_Mo_isWire hov_8 rfl rfl rfl (Nat.le_of_ble_eq_true rfl) (by decide) (by decide) (b_Mo_isWire_3_off hs hi2 ht p_5 p_7) (fun r M_6 hq => ?_)
  obtain ⟨rfl, he⟩ := hq
  obtain rfl := he.symm
  refine T_eq (pc' := 12) (L' := [(0, .ref 373), (1, .int (nI s)), (2, .int (nI 3)), (3, .int (nI i))]) (st' := [.int (nI 0)]) (M' := M_2) rfl rfl rfl rfl ?_
  refine N_if_ne_f (b := 0) d_Mo_wire_12 (tgt := 22) rfl (by omega) (by omega) ?_
  refine T_aload_n (v := .ref 373) d_Mo_wire_15 rfl (Or.inr ⟨_, rfl⟩) ?_
  refine T_iconst (v := nI 1) d_Mo_wire_16 (by decide) ?_
  refine N_put (e := (moO (upd v_8 66 (nI 1)))) d_Mo_wire_17 (fp_Mo_316 _) hov_8 (Nat.le_of_ble_eq_true rfl) ⟨rfl, rfl⟩ rfl (fun M_9 h_10 s_11 => ?_)
  have p_12 := BG.st (j := 66) (by decide) hwv_8 hsv_8 hiv_8 h_10 (Ex.kp s_11)
  refine T_iconst (v := nI 0) d_Mo_wire_20 (by decide) ?_
  have nb_ : NB M_9 sd ch n m 1 := ⟨_, p_12, (show (upd (upd w 66 (nI 0)) 66 (nI 1)) 66 = (nI 1) from rfl), (show (upd (upd w 66 (nI 0)) 66 (nI 1)) 71 = sd from h71), (show (upd (upd w 66 (nI 0)) 66 (nI 1)) 72 = (nI ch) from h72), (show (upd (upd w 66 (nI 0)) 66 (nI 1)) 73 = (nI n) from h73), (show (upd (upd w 66 (nI 0)) 66 (nI 1)) 74 = (nI m) from h74)⟩
  exact T_ret d_Mo_wire_21 rfl (by first | decide | rfl) (by decide) (by decide) ⟨rfl, nb_, (Kp.ex (Kp.ex (Kp.rf : Kp [373] M M) s_4 (by decide)) s_11 (by decide))⟩
set_option maxHeartbeats 8000000 in
theorem p_Mo_wire_3_out {G : GX} {M : List va_E} {sd : Int32} {ch n m th : Nat} {s i : Nat} {t : Nat → Bool} (hs : s < 4) (hi : 64 ≤ i) (hi2 : i < 2147483648) (hnb : NB M sd ch n m th) (hz1 : ZR M 426 4 t) : CT G mi_Mo_wire [.ref 373, .int (nI s), .int (nI 3), .int (nI i)] M (fun r M' => r = some (.int (nI 0)) ∧ NB M' sd ch n m 1 ∧ Kp [373] M M') := by
  obtain ⟨w, h, h66, h71, h72, h73, h74⟩ := hnb
  refine CT.of (by decide) (Nat.le_of_ble_eq_true rfl) ?_
  show TT G mi_Mo_wire 0 [(0, .ref 373), (1, .int (nI s)), (2, .int (nI 3)), (3, .int (nI i))] [] M 0 0 _
  refine T_aload_n (v := .ref 373) d_Mo_wire_0 rfl (Or.inr ⟨_, rfl⟩) ?_
  refine T_iconst (v := nI 0) d_Mo_wire_1 (by decide) ?_
  obtain ⟨v_1, hov_1, hwv_1, hsv_1, hiv_1⟩ := id h
  refine N_put (e := (moO (upd v_1 66 (nI 0)))) d_Mo_wire_2 (fp_Mo_316 _) hov_1 (Nat.le_of_ble_eq_true rfl) ⟨rfl, rfl⟩ rfl (fun M_2 h_3 s_4 => ?_)
  have p_5 := BG.st (j := 66) (by decide) hwv_1 hsv_1 hiv_1 h_3 (Ex.kp s_4)
  refine T_aload_n (v := .ref 373) d_Mo_wire_5 rfl (Or.inr ⟨_, rfl⟩) ?_
  refine T_iload_n d_Mo_wire_6 rfl ?_
  refine T_iload_n d_Mo_wire_7 rfl ?_
  refine T_iload_n d_Mo_wire_8 rfl ?_
  have p_7 := (ZR.kp (hz1) (Ex.kp s_4) (by decide))
  obtain ⟨v_8, hov_8, hwv_8, hsv_8, hiv_8⟩ := id p_5
  refine T_virtual (as := [.int (nI s), .int (nI 3), .int (nI i)]) (rest := []) (b := 373) d_Mo_wire_9 rfl (jw_Mo_isWire.jo (by decide)) lm_Mo_595 ji_Mo_isWire js_Mo_isWire hov_8 rfl rfl rfl (Nat.le_of_ble_eq_true rfl) (by decide) (by decide) (b_Mo_isWire_3_out hs hi hi2 p_5 p_7) (fun r M_6 hq => ?_)
  obtain ⟨rfl, he⟩ := hq
  obtain rfl := he.symm
  refine T_eq (pc' := 12) (L' := [(0, .ref 373), (1, .int (nI s)), (2, .int (nI 3)), (3, .int (nI i))]) (st' := [.int (nI 0)]) (M' := M_2) rfl rfl rfl rfl ?_
  refine N_if_ne_f (b := 0) d_Mo_wire_12 (tgt := 22) rfl (by omega) (by omega) ?_
  refine T_aload_n (v := .ref 373) d_Mo_wire_15 rfl (Or.inr ⟨_, rfl⟩) ?_
  refine T_iconst (v := nI 1) d_Mo_wire_16 (by decide) ?_
  refine N_put (e := (moO (upd v_8 66 (nI 1)))) d_Mo_wire_17 (fp_Mo_316 _) hov_8 (Nat.le_of_ble_eq_true rfl) ⟨rfl, rfl⟩ rfl (fun M_9 h_10 s_11 => ?_)
  have p_12 := BG.st (j := 66) (by decide) hwv_8 hsv_8 hiv_8 h_10 (Ex.kp s_11)
  refine T_iconst (v := nI 0) d_Mo_wire_20 (by decide) ?_
  have nb_ : NB M_9 sd ch n m 1 := ⟨_, p_12, (show (upd (upd w 66 (nI 0)) 66 (nI 1)) 66 = (nI 1) from rfl), (show (upd (upd w 66 (nI 0)) 66 (nI 1)) 71 = sd from h71), (show (upd (upd w 66 (nI 0)) 66 (nI 1)) 72 = (nI ch) from h72), (show (upd (upd w 66 (nI 0)) 66 (nI 1)) 73 = (nI n) from h73), (show (upd (upd w 66 (nI 0)) 66 (nI 1)) 74 = (nI m) from h74)⟩
  exact T_ret d_Mo_wire_21 rfl (by first | decide | rfl) (by decide) (by decide) ⟨rfl, nb_, (Kp.ex (Kp.ex (Kp.rf : Kp [373] M M) s_4 (by decide)) s_11 (by decide))⟩
set_option maxHeartbeats 8000000 in
theorem p_Mo_wire_3_in {G : GX} {M : List va_E} {sd : Int32} {ch n m th : Nat} {X : Nat → List UInt8} {s i : Nat} {t : Nat → Bool} (hs : s < 4) (hi : i < 64) (ht : t s = true) (hnb : NB M sd ch n m th) (hz1 : ZR M 426 4 t) (hr : SL M 435 256 64 4 X) (hl : (X s).length = 64) : CT G mi_Mo_wire [.ref 373, .int (nI s), .int (nI 3), .int (nI i)] M (fun r M' => r = some (.int (nI (gd (X s) i).toNat)) ∧ NB M' sd ch n m 0 ∧ Kp [373] M M') := by
  obtain ⟨w, h, h66, h71, h72, h73, h74⟩ := hnb
  refine CT.of (by decide) (Nat.le_of_ble_eq_true rfl) ?_
  show TT G mi_Mo_wire 0 [(0, .ref 373), (1, .int (nI s)), (2, .int (nI 3)), (3, .int (nI i))] [] M 0 0 _
  obtain ⟨L1, hL1, eL1, sg1⟩ := SL.rd hr hs
  have lL := eL1
  refine T_aload_n (v := .ref 373) d_Mo_wire_0 rfl (Or.inr ⟨_, rfl⟩) ?_
  refine T_iconst (v := nI 0) d_Mo_wire_1 (by decide) ?_
  obtain ⟨v_2, hov_2, hwv_2, hsv_2, hiv_2⟩ := id h
  refine N_put (e := (moO (upd v_2 66 (nI 0)))) d_Mo_wire_2 (fp_Mo_316 _) hov_2 (Nat.le_of_ble_eq_true rfl) ⟨rfl, rfl⟩ rfl (fun M_3 h_4 s_5 => ?_)
  have p_6 := BG.st (j := 66) (by decide) hwv_2 hsv_2 hiv_2 h_4 (Ex.kp s_5)
  refine T_aload_n (v := .ref 373) d_Mo_wire_5 rfl (Or.inr ⟨_, rfl⟩) ?_
  refine T_iload_n d_Mo_wire_6 rfl ?_
  refine T_iload_n d_Mo_wire_7 rfl ?_
  refine T_iload_n d_Mo_wire_8 rfl ?_
  have p_8 := (ZR.kp (hz1) (Ex.kp s_5) (by decide))
  obtain ⟨v_9, hov_9, hwv_9, hsv_9, hiv_9⟩ := id p_6
  refine T_virtual (as := [.int (nI s), .int (nI 3), .int (nI i)]) (rest := []) (b := 373) d_Mo_wire_9 rfl (jw_Mo_isWire.jo (by decide)) lm_Mo_595 ji_Mo_isWire js_Mo_isWire hov_9 rfl rfl rfl (Nat.le_of_ble_eq_true rfl) (by decide) (by decide) (b_Mo_isWire_3_in hs hi ht p_6 p_8) (fun r M_7 hq => ?_)
  obtain ⟨rfl, he⟩ := hq
  obtain rfl := he.symm
  refine T_eq (pc' := 12) (L' := [(0, .ref 373), (1, .int (nI s)), (2, .int (nI 3)), (3, .int (nI i))]) (st' := [.int (nI 1)]) (M' := M_3) rfl rfl rfl rfl ?_
  refine N_if_ne_t (b := 1) d_Mo_wire_12 (tgt := 22) rfl (by omega) (by omega) ?_
  refine T_iload_n d_Mo_wire_22 rfl ?_
  refine T_iconst (v := nI 1) d_Mo_wire_23 (by decide) ?_
  refine N_icmp_ne_t (a := 1) (b := 3) d_Mo_wire_24 (tgt := 39) rfl (by omega) (by omega) (by omega) ?_
  refine T_iload_n d_Mo_wire_39 rfl ?_
  refine T_iconst (v := nI 2) d_Mo_wire_40 (by decide) ?_
  refine N_icmp_ne_t (a := 2) (b := 3) d_Mo_wire_41 (tgt := 57) rfl (by omega) (by omega) (by omega) ?_
  refine T_aload_n (v := .ref 373) d_Mo_wire_57 rfl (Or.inr ⟨_, rfl⟩) ?_
  refine T_getfield (v := .ref 435) d_Mo_wire_58 fg_Mo_425 hov_9 rfl ?_
  refine T_bipush (v := nI 64) d_Mo_wire_61 (by decide) ?_
  refine T_iload_n d_Mo_wire_63 rfl ?_
  refine N_imul (a := s) (b := 64) (c := (64 * s)) d_Mo_wire_64 rfl ?_
  refine T_iload_n d_Mo_wire_65 rfl ?_
  refine N_iadd (a := i) (b := (64 * s)) (c := ((64 * s) + i)) d_Mo_wire_66 rfl ?_
  have p_10 := (IA.kp (hL1) (Ex.kp s_5) (by decide))
  obtain ⟨f_11, hf_12, hl_13, hv_14⟩ := id p_10
  refine N_iaload (k := ((64 * s) + i)) (x := (bR (gd L1 ((64 * s) + i)))) d_Mo_wire_67 hf_12 (by omega) (by decide) (hv_14 ((64 * s) + i) (by first | omega | (simp only [List.length_append, List.length_cons, List.length_nil, List.length_replicate, sl_len, be_len, sha_len, hmac_len, ex1_len, ex2_len, stretch_len, zer8_len, tC_len, tag1_len, bnN_len, xkp_len, enc_len, chance_len, lbF_len, str2_len, pub_len', sec8_len]; omega))) ?_
  have rv : gd L1 (64 * s + i) = gd (X s) i := sg1 i (by omega)
  have nb_ : NB M_3 sd ch n m 0 := ⟨_, p_6, (show (upd w 66 (nI 0)) 66 = (nI 0) from rfl), (show (upd w 66 (nI 0)) 71 = sd from h71), (show (upd w 66 (nI 0)) 72 = (nI ch) from h72), (show (upd w 66 (nI 0)) 73 = (nI n) from h73), (show (upd w 66 (nI 0)) 74 = (nI m) from h74)⟩
  exact T_ret d_Mo_wire_68 rfl (by first | decide | rfl) (by decide) (by decide) ⟨by rw [rv]; rfl, nb_, (Kp.ex (Kp.rf : Kp [373] M M) s_5 (by decide))⟩
set_option maxHeartbeats 8000000 in
theorem p_Mo_tamper_sneg {G : GX} {M : List va_E} {sd : Int32} {ch n m th : Nat} {mask : Int32} {x y z : Int32} (hx : x < 0) (hnb : NB M sd ch n m th) : CT G mi_Mo_tamper [.ref 373, .int x, .int y, .int z, .int mask] M (fun r M' => r = some (.int (nI 0)) ∧ NB M' sd ch n m 0 ∧ Kp [373] M M') := by
  obtain ⟨w, h, h66, h71, h72, h73, h74⟩ := hnb
  refine CT.of (by decide) (Nat.le_of_ble_eq_true rfl) ?_
  show TT G mi_Mo_tamper 0 [(0, .ref 373), (1, .int x), (2, .int y), (3, .int z), (4, .int mask)] [] M 0 0 _
  refine T_aload_n (v := .ref 373) d_Mo_tamper_0 rfl (Or.inr ⟨_, rfl⟩) ?_
  refine T_iconst (v := nI 0) d_Mo_tamper_1 (by decide) ?_
  obtain ⟨v_1, hov_1, hwv_1, hsv_1, hiv_1⟩ := id h
  refine N_put (e := (moO (upd v_1 66 (nI 0)))) d_Mo_tamper_2 (fp_Mo_316 _) hov_1 (Nat.le_of_ble_eq_true rfl) ⟨rfl, rfl⟩ rfl (fun M_2 h_3 s_4 => ?_)
  have p_5 := BG.st (j := 66) (by decide) hwv_1 hsv_1 hiv_1 h_3 (Ex.kp s_4)
  refine T_aload_n (v := .ref 373) d_Mo_tamper_5 rfl (Or.inr ⟨_, rfl⟩) ?_
  refine T_iload_n d_Mo_tamper_6 rfl ?_
  refine T_iload_n d_Mo_tamper_7 rfl ?_
  refine T_iload_n d_Mo_tamper_8 rfl ?_
  obtain ⟨v_7, hov_7, hwv_7, hsv_7, hiv_7⟩ := id p_5
  refine T_virtual (as := [.int x, .int y, .int z]) (rest := []) (b := 373) d_Mo_tamper_9 rfl (jw_Mo_isWire.jo (by decide)) lm_Mo_595 ji_Mo_isWire js_Mo_isWire hov_7 rfl rfl rfl (Nat.le_of_ble_eq_true rfl) (by decide) (by decide) (b_Mo_isWire_sneg hx p_5 ) (fun r M_6 hq => ?_)
  obtain ⟨rfl, he⟩ := hq
  obtain rfl := he.symm
  refine T_eq (pc' := 12) (L' := [(0, .ref 373), (1, .int x), (2, .int y), (3, .int z), (4, .int mask)]) (st' := [.int (nI 0)]) (M' := M_2) rfl rfl rfl rfl ?_
  refine N_if_ne_f (b := 0) d_Mo_tamper_12 (tgt := 17) rfl (by omega) (by omega) ?_
  refine T_iconst (v := nI 0) d_Mo_tamper_15 (by decide) ?_
  have nb_ : NB M_2 sd ch n m 0 := ⟨_, p_5, (show (upd w 66 (nI 0)) 66 = (nI 0) from rfl), (show (upd w 66 (nI 0)) 71 = sd from h71), (show (upd w 66 (nI 0)) 72 = (nI ch) from h72), (show (upd w 66 (nI 0)) 73 = (nI n) from h73), (show (upd w 66 (nI 0)) 74 = (nI m) from h74)⟩
  exact T_ret d_Mo_tamper_16 rfl (by first | decide | rfl) (by decide) (by decide) ⟨rfl, nb_, (Kp.ex (Kp.rf : Kp [373] M M) s_4 (by decide))⟩
set_option maxHeartbeats 8000000 in
theorem p_Mo_tamper_sbig {G : GX} {M : List va_E} {sd : Int32} {ch n m th : Nat} {mask : Int32} {x y z : Int32} (h0 : ¬ x < 0) (hx : nI 4 ≤ x) (hnb : NB M sd ch n m th) : CT G mi_Mo_tamper [.ref 373, .int x, .int y, .int z, .int mask] M (fun r M' => r = some (.int (nI 0)) ∧ NB M' sd ch n m 0 ∧ Kp [373] M M') := by
  obtain ⟨w, h, h66, h71, h72, h73, h74⟩ := hnb
  refine CT.of (by decide) (Nat.le_of_ble_eq_true rfl) ?_
  show TT G mi_Mo_tamper 0 [(0, .ref 373), (1, .int x), (2, .int y), (3, .int z), (4, .int mask)] [] M 0 0 _
  refine T_aload_n (v := .ref 373) d_Mo_tamper_0 rfl (Or.inr ⟨_, rfl⟩) ?_
  refine T_iconst (v := nI 0) d_Mo_tamper_1 (by decide) ?_
  obtain ⟨v_1, hov_1, hwv_1, hsv_1, hiv_1⟩ := id h
  refine N_put (e := (moO (upd v_1 66 (nI 0)))) d_Mo_tamper_2 (fp_Mo_316 _) hov_1 (Nat.le_of_ble_eq_true rfl) ⟨rfl, rfl⟩ rfl (fun M_2 h_3 s_4 => ?_)
  have p_5 := BG.st (j := 66) (by decide) hwv_1 hsv_1 hiv_1 h_3 (Ex.kp s_4)
  refine T_aload_n (v := .ref 373) d_Mo_tamper_5 rfl (Or.inr ⟨_, rfl⟩) ?_
  refine T_iload_n d_Mo_tamper_6 rfl ?_
  refine T_iload_n d_Mo_tamper_7 rfl ?_
  refine T_iload_n d_Mo_tamper_8 rfl ?_
  obtain ⟨v_7, hov_7, hwv_7, hsv_7, hiv_7⟩ := id p_5
  refine T_virtual (as := [.int x, .int y, .int z]) (rest := []) (b := 373) d_Mo_tamper_9 rfl (jw_Mo_isWire.jo (by decide)) lm_Mo_595 ji_Mo_isWire js_Mo_isWire hov_7 rfl rfl rfl (Nat.le_of_ble_eq_true rfl) (by decide) (by decide) (b_Mo_isWire_sbig h0 hx p_5 ) (fun r M_6 hq => ?_)
  obtain ⟨rfl, he⟩ := hq
  obtain rfl := he.symm
  refine T_eq (pc' := 12) (L' := [(0, .ref 373), (1, .int x), (2, .int y), (3, .int z), (4, .int mask)]) (st' := [.int (nI 0)]) (M' := M_2) rfl rfl rfl rfl ?_
  refine N_if_ne_f (b := 0) d_Mo_tamper_12 (tgt := 17) rfl (by omega) (by omega) ?_
  refine T_iconst (v := nI 0) d_Mo_tamper_15 (by decide) ?_
  have nb_ : NB M_2 sd ch n m 0 := ⟨_, p_5, (show (upd w 66 (nI 0)) 66 = (nI 0) from rfl), (show (upd w 66 (nI 0)) 71 = sd from h71), (show (upd w 66 (nI 0)) 72 = (nI ch) from h72), (show (upd w 66 (nI 0)) 73 = (nI n) from h73), (show (upd w 66 (nI 0)) 74 = (nI m) from h74)⟩
  exact T_ret d_Mo_tamper_16 rfl (by first | decide | rfl) (by decide) (by decide) ⟨rfl, nb_, (Kp.ex (Kp.rf : Kp [373] M M) s_4 (by decide))⟩
set_option maxHeartbeats 8000000 in
theorem p_Mo_tamper_ineg {G : GX} {M : List va_E} {sd : Int32} {ch n m th : Nat} {mask : Int32} {s : Nat} {y z : Int32} (hs : s < 4) (hz : z < 0) (hnb : NB M sd ch n m th) : CT G mi_Mo_tamper [.ref 373, .int (nI s), .int y, .int z, .int mask] M (fun r M' => r = some (.int (nI 0)) ∧ NB M' sd ch n m 0 ∧ Kp [373] M M') := by
  obtain ⟨w, h, h66, h71, h72, h73, h74⟩ := hnb
  refine CT.of (by decide) (Nat.le_of_ble_eq_true rfl) ?_
  show TT G mi_Mo_tamper 0 [(0, .ref 373), (1, .int (nI s)), (2, .int y), (3, .int z), (4, .int mask)] [] M 0 0 _
  refine T_aload_n (v := .ref 373) d_Mo_tamper_0 rfl (Or.inr ⟨_, rfl⟩) ?_
  refine T_iconst (v := nI 0) d_Mo_tamper_1 (by decide) ?_
  obtain ⟨v_1, hov_1, hwv_1, hsv_1, hiv_1⟩ := id h
  refine N_put (e := (moO (upd v_1 66 (nI 0)))) d_Mo_tamper_2 (fp_Mo_316 _) hov_1 (Nat.le_of_ble_eq_true rfl) ⟨rfl, rfl⟩ rfl (fun M_2 h_3 s_4 => ?_)
  have p_5 := BG.st (j := 66) (by decide) hwv_1 hsv_1 hiv_1 h_3 (Ex.kp s_4)
  refine T_aload_n (v := .ref 373) d_Mo_tamper_5 rfl (Or.inr ⟨_, rfl⟩) ?_
  refine T_iload_n d_Mo_tamper_6 rfl ?_
  refine T_iload_n d_Mo_tamper_7 rfl ?_
  refine T_iload_n d_Mo_tamper_8 rfl ?_
  obtain ⟨v_7, hov_7, hwv_7, hsv_7, hiv_7⟩ := id p_5
  refine T_virtual (as := [.int (nI s), .int y, .int z]) (rest := []) (b := 373) d_Mo_tamper_9 rfl (jw_Mo_isWire.jo (by decide)) lm_Mo_595 ji_Mo_isWire js_Mo_isWire hov_7 rfl rfl rfl (Nat.le_of_ble_eq_true rfl) (by decide) (by decide) (b_Mo_isWire_ineg hs hz p_5 ) (fun r M_6 hq => ?_)
  obtain ⟨rfl, he⟩ := hq
  obtain rfl := he.symm
  refine T_eq (pc' := 12) (L' := [(0, .ref 373), (1, .int (nI s)), (2, .int y), (3, .int z), (4, .int mask)]) (st' := [.int (nI 0)]) (M' := M_2) rfl rfl rfl rfl ?_
  refine N_if_ne_f (b := 0) d_Mo_tamper_12 (tgt := 17) rfl (by omega) (by omega) ?_
  refine T_iconst (v := nI 0) d_Mo_tamper_15 (by decide) ?_
  have nb_ : NB M_2 sd ch n m 0 := ⟨_, p_5, (show (upd w 66 (nI 0)) 66 = (nI 0) from rfl), (show (upd w 66 (nI 0)) 71 = sd from h71), (show (upd w 66 (nI 0)) 72 = (nI ch) from h72), (show (upd w 66 (nI 0)) 73 = (nI n) from h73), (show (upd w 66 (nI 0)) 74 = (nI m) from h74)⟩
  exact T_ret d_Mo_tamper_16 rfl (by first | decide | rfl) (by decide) (by decide) ⟨rfl, nb_, (Kp.ex (Kp.rf : Kp [373] M M) s_4 (by decide))⟩
set_option maxHeartbeats 8000000 in
theorem p_Mo_tamper_moth {G : GX} {M : List va_E} {sd : Int32} {ch n m th : Nat} {mask : Int32} {s i : Nat} {y : Int32} (hs : s < 4) (hi2 : i < 2147483648) (y1 : ¬ y = nI 1) (y2 : ¬ y = nI 2) (y3 : ¬ y = nI 3) (hnb : NB M sd ch n m th) : CT G mi_Mo_tamper [.ref 373, .int (nI s), .int y, .int (nI i), .int mask] M (fun r M' => r = some (.int (nI 0)) ∧ NB M' sd ch n m 0 ∧ Kp [373] M M') := by
  obtain ⟨w, h, h66, h71, h72, h73, h74⟩ := hnb
  refine CT.of (by decide) (Nat.le_of_ble_eq_true rfl) ?_
  show TT G mi_Mo_tamper 0 [(0, .ref 373), (1, .int (nI s)), (2, .int y), (3, .int (nI i)), (4, .int mask)] [] M 0 0 _
  refine T_aload_n (v := .ref 373) d_Mo_tamper_0 rfl (Or.inr ⟨_, rfl⟩) ?_
  refine T_iconst (v := nI 0) d_Mo_tamper_1 (by decide) ?_
  obtain ⟨v_1, hov_1, hwv_1, hsv_1, hiv_1⟩ := id h
  refine N_put (e := (moO (upd v_1 66 (nI 0)))) d_Mo_tamper_2 (fp_Mo_316 _) hov_1 (Nat.le_of_ble_eq_true rfl) ⟨rfl, rfl⟩ rfl (fun M_2 h_3 s_4 => ?_)
  have p_5 := BG.st (j := 66) (by decide) hwv_1 hsv_1 hiv_1 h_3 (Ex.kp s_4)
  refine T_aload_n (v := .ref 373) d_Mo_tamper_5 rfl (Or.inr ⟨_, rfl⟩) ?_
  refine T_iload_n d_Mo_tamper_6 rfl ?_
  refine T_iload_n d_Mo_tamper_7 rfl ?_
  refine T_iload_n d_Mo_tamper_8 rfl ?_
  obtain ⟨v_7, hov_7, hwv_7, hsv_7, hiv_7⟩ := id p_5
  refine T_virtual (as := [.int (nI s), .int y, .int (nI i)]) (rest := []) (b := 373) d_Mo_tamper_9 rfl (jw_Mo_isWire.jo (by decide)) lm_Mo_595 ji_Mo_isWire js_Mo_isWire hov_7 rfl rfl rfl (Nat.le_of_ble_eq_true rfl) (by decide) (by decide) (b_Mo_isWire_moth hs hi2 y1 y2 y3 p_5 ) (fun r M_6 hq => ?_)
  obtain ⟨rfl, he⟩ := hq
  obtain rfl := he.symm
  refine T_eq (pc' := 12) (L' := [(0, .ref 373), (1, .int (nI s)), (2, .int y), (3, .int (nI i)), (4, .int mask)]) (st' := [.int (nI 0)]) (M' := M_2) rfl rfl rfl rfl ?_
  refine N_if_ne_f (b := 0) d_Mo_tamper_12 (tgt := 17) rfl (by omega) (by omega) ?_
  refine T_iconst (v := nI 0) d_Mo_tamper_15 (by decide) ?_
  have nb_ : NB M_2 sd ch n m 0 := ⟨_, p_5, (show (upd w 66 (nI 0)) 66 = (nI 0) from rfl), (show (upd w 66 (nI 0)) 71 = sd from h71), (show (upd w 66 (nI 0)) 72 = (nI ch) from h72), (show (upd w 66 (nI 0)) 73 = (nI n) from h73), (show (upd w 66 (nI 0)) 74 = (nI m) from h74)⟩
  exact T_ret d_Mo_tamper_16 rfl (by first | decide | rfl) (by decide) (by decide) ⟨rfl, nb_, (Kp.ex (Kp.rf : Kp [373] M M) s_4 (by decide))⟩
set_option maxHeartbeats 8000000 in
theorem p_Mo_tamper_1_off {G : GX} {M : List va_E} {sd : Int32} {ch n m th : Nat} {mask : Int32} {s i : Nat} {t : Nat → Bool} (hs : s < 4) (hi2 : i < 2147483648) (ht : t s = false) (hnb : NB M sd ch n m th) (hz1 : ZR M 424 4 t) : CT G mi_Mo_tamper [.ref 373, .int (nI s), .int (nI 1), .int (nI i), .int mask] M (fun r M' => r = some (.int (nI 0)) ∧ NB M' sd ch n m 0 ∧ Kp [373] M M') := by
  obtain ⟨w, h, h66, h71, h72, h73, h74⟩ := hnb
  refine CT.of (by decide) (Nat.le_of_ble_eq_true rfl) ?_
  show TT G mi_Mo_tamper 0 [(0, .ref 373), (1, .int (nI s)), (2, .int (nI 1)), (3, .int (nI i)), (4, .int mask)] [] M 0 0 _
  refine T_aload_n (v := .ref 373) d_Mo_tamper_0 rfl (Or.inr ⟨_, rfl⟩) ?_
  refine T_iconst (v := nI 0) d_Mo_tamper_1 (by decide) ?_
  obtain ⟨v_1, hov_1, hwv_1, hsv_1, hiv_1⟩ := id h
  refine N_put (e := (moO (upd v_1 66 (nI 0)))) d_Mo_tamper_2 (fp_Mo_316 _) hov_1 (Nat.le_of_ble_eq_true rfl) ⟨rfl, rfl⟩ rfl (fun M_2 h_3 s_4 => ?_)
  have p_5 := BG.st (j := 66) (by decide) hwv_1 hsv_1 hiv_1 h_3 (Ex.kp s_4)
  refine T_aload_n (v := .ref 373) d_Mo_tamper_5 rfl (Or.inr ⟨_, rfl⟩) ?_
  refine T_iload_n d_Mo_tamper_6 rfl ?_
  refine T_iload_n d_Mo_tamper_7 rfl ?_
  refine T_iload_n d_Mo_tamper_8 rfl ?_
  have p_7 := (ZR.kp (hz1) (Ex.kp s_4) (by decide))
  obtain ⟨v_8, hov_8, hwv_8, hsv_8, hiv_8⟩ := id p_5
  refine T_virtual (as := [.int (nI s), .int (nI 1), .int (nI i)]) (rest := []) (b := 373) d_Mo_tamper_9 rfl (jw_Mo_isWire.jo (by decide)) lm_Mo_595 ji_Mo_isWire js_Mo_isWire hov_8 rfl rfl rfl (Nat.le_of_ble_eq_true rfl) (by decide) (by decide) (b_Mo_isWire_1_off hs hi2 ht p_5 p_7) (fun r M_6 hq => ?_)
  obtain ⟨rfl, he⟩ := hq
  obtain rfl := he.symm
  refine T_eq (pc' := 12) (L' := [(0, .ref 373), (1, .int (nI s)), (2, .int (nI 1)), (3, .int (nI i)), (4, .int mask)]) (st' := [.int (nI 0)]) (M' := M_2) rfl rfl rfl rfl ?_
  refine N_if_ne_f (b := 0) d_Mo_tamper_12 (tgt := 17) rfl (by omega) (by omega) ?_
  refine T_iconst (v := nI 0) d_Mo_tamper_15 (by decide) ?_
  have nb_ : NB M_2 sd ch n m 0 := ⟨_, p_5, (show (upd w 66 (nI 0)) 66 = (nI 0) from rfl), (show (upd w 66 (nI 0)) 71 = sd from h71), (show (upd w 66 (nI 0)) 72 = (nI ch) from h72), (show (upd w 66 (nI 0)) 73 = (nI n) from h73), (show (upd w 66 (nI 0)) 74 = (nI m) from h74)⟩
  exact T_ret d_Mo_tamper_16 rfl (by first | decide | rfl) (by decide) (by decide) ⟨rfl, nb_, (Kp.ex (Kp.rf : Kp [373] M M) s_4 (by decide))⟩
set_option maxHeartbeats 8000000 in
theorem p_Mo_tamper_1_out {G : GX} {M : List va_E} {sd : Int32} {ch n m th : Nat} {mask : Int32} {s i : Nat} {t : Nat → Bool} (hs : s < 4) (hi : 96 ≤ i) (hi2 : i < 2147483648) (hnb : NB M sd ch n m th) (hz1 : ZR M 424 4 t) : CT G mi_Mo_tamper [.ref 373, .int (nI s), .int (nI 1), .int (nI i), .int mask] M (fun r M' => r = some (.int (nI 0)) ∧ NB M' sd ch n m 0 ∧ Kp [373] M M') := by
  obtain ⟨w, h, h66, h71, h72, h73, h74⟩ := hnb
  refine CT.of (by decide) (Nat.le_of_ble_eq_true rfl) ?_
  show TT G mi_Mo_tamper 0 [(0, .ref 373), (1, .int (nI s)), (2, .int (nI 1)), (3, .int (nI i)), (4, .int mask)] [] M 0 0 _
  refine T_aload_n (v := .ref 373) d_Mo_tamper_0 rfl (Or.inr ⟨_, rfl⟩) ?_
  refine T_iconst (v := nI 0) d_Mo_tamper_1 (by decide) ?_
  obtain ⟨v_1, hov_1, hwv_1, hsv_1, hiv_1⟩ := id h
  refine N_put (e := (moO (upd v_1 66 (nI 0)))) d_Mo_tamper_2 (fp_Mo_316 _) hov_1 (Nat.le_of_ble_eq_true rfl) ⟨rfl, rfl⟩ rfl (fun M_2 h_3 s_4 => ?_)
  have p_5 := BG.st (j := 66) (by decide) hwv_1 hsv_1 hiv_1 h_3 (Ex.kp s_4)
  refine T_aload_n (v := .ref 373) d_Mo_tamper_5 rfl (Or.inr ⟨_, rfl⟩) ?_
  refine T_iload_n d_Mo_tamper_6 rfl ?_
  refine T_iload_n d_Mo_tamper_7 rfl ?_
  refine T_iload_n d_Mo_tamper_8 rfl ?_
  have p_7 := (ZR.kp (hz1) (Ex.kp s_4) (by decide))
  obtain ⟨v_8, hov_8, hwv_8, hsv_8, hiv_8⟩ := id p_5
  refine T_virtual (as := [.int (nI s), .int (nI 1), .int (nI i)]) (rest := []) (b := 373) d_Mo_tamper_9 rfl (jw_Mo_isWire.jo (by decide)) lm_Mo_595 ji_Mo_isWire js_Mo_isWire hov_8 rfl rfl rfl (Nat.le_of_ble_eq_true rfl) (by decide) (by decide) (b_Mo_isWire_1_out hs hi hi2 p_5 p_7) (fun r M_6 hq => ?_)
  obtain ⟨rfl, he⟩ := hq
  obtain rfl := he.symm
  refine T_eq (pc' := 12) (L' := [(0, .ref 373), (1, .int (nI s)), (2, .int (nI 1)), (3, .int (nI i)), (4, .int mask)]) (st' := [.int (nI 0)]) (M' := M_2) rfl rfl rfl rfl ?_
  refine N_if_ne_f (b := 0) d_Mo_tamper_12 (tgt := 17) rfl (by omega) (by omega) ?_
  refine T_iconst (v := nI 0) d_Mo_tamper_15 (by decide) ?_
  have nb_ : NB M_2 sd ch n m 0 := ⟨_, p_5, (show (upd w 66 (nI 0)) 66 = (nI 0) from rfl), (show (upd w 66 (nI 0)) 71 = sd from h71), (show (upd w 66 (nI 0)) 72 = (nI ch) from h72), (show (upd w 66 (nI 0)) 73 = (nI n) from h73), (show (upd w 66 (nI 0)) 74 = (nI m) from h74)⟩
  exact T_ret d_Mo_tamper_16 rfl (by first | decide | rfl) (by decide) (by decide) ⟨rfl, nb_, (Kp.ex (Kp.rf : Kp [373] M M) s_4 (by decide))⟩
set_option maxHeartbeats 8000000 in
theorem p_Mo_tamper_1_in {G : GX} {M : List va_E} {sd : Int32} {ch n m th : Nat} {X : Nat → List UInt8} {mask : Int32} {s i : Nat} {t : Nat → Bool} (hs : s < 4) (hi : i < 96) (ht : t s = true) (hnb : NB M sd ch n m th) (hz1 : ZR M 424 4 t) (hr : SL M 433 384 96 4 X) (hl : (X s).length = 96) : CT G mi_Mo_tamper [.ref 373, .int (nI s), .int (nI 1), .int (nI i), .int mask] M (fun r M' => r = some (.int (nI 1)) ∧ NB M' sd ch n m 0 ∧ SL M' 433 384 96 4 (updT X s ((X s).set i (gd (X s) i ^^^ u8 mask))) ∧ Kp [373, 433] M M') := by
  obtain ⟨w, h, h66, h71, h72, h73, h74⟩ := hnb
  obtain ⟨L, hL, eL, px⟩ := hr
  have hps := (px s hs).1
  refine CT.of (by decide) (Nat.le_of_ble_eq_true rfl) ?_
  show TT G mi_Mo_tamper 0 [(0, .ref 373), (1, .int (nI s)), (2, .int (nI 1)), (3, .int (nI i)), (4, .int mask)] [] M 0 0 _
  refine T_aload_n (v := .ref 373) d_Mo_tamper_0 rfl (Or.inr ⟨_, rfl⟩) ?_
  refine T_iconst (v := nI 0) d_Mo_tamper_1 (by decide) ?_
  obtain ⟨v_1, hov_1, hwv_1, hsv_1, hiv_1⟩ := id h
  refine N_put (e := (moO (upd v_1 66 (nI 0)))) d_Mo_tamper_2 (fp_Mo_316 _) hov_1 (Nat.le_of_ble_eq_true rfl) ⟨rfl, rfl⟩ rfl (fun M_2 h_3 s_4 => ?_)
  have p_5 := BG.st (j := 66) (by decide) hwv_1 hsv_1 hiv_1 h_3 (Ex.kp s_4)
  refine T_aload_n (v := .ref 373) d_Mo_tamper_5 rfl (Or.inr ⟨_, rfl⟩) ?_
  refine T_iload_n d_Mo_tamper_6 rfl ?_
  refine T_iload_n d_Mo_tamper_7 rfl ?_
  refine T_iload_n d_Mo_tamper_8 rfl ?_
  have p_7 := (ZR.kp (hz1) (Ex.kp s_4) (by decide))
  obtain ⟨v_8, hov_8, hwv_8, hsv_8, hiv_8⟩ := id p_5
  refine T_virtual (as := [.int (nI s), .int (nI 1), .int (nI i)]) (rest := []) (b := 373) d_Mo_tamper_9 rfl (jw_Mo_isWire.jo (by decide)) lm_Mo_595 ji_Mo_isWire js_Mo_isWire hov_8 rfl rfl rfl (Nat.le_of_ble_eq_true rfl) (by decide) (by decide) (b_Mo_isWire_1_in hs hi ht p_5 p_7) (fun r M_6 hq => ?_)
  obtain ⟨rfl, he⟩ := hq
  obtain rfl := he.symm
  refine T_eq (pc' := 12) (L' := [(0, .ref 373), (1, .int (nI s)), (2, .int (nI 1)), (3, .int (nI i)), (4, .int mask)]) (st' := [.int (nI 1)]) (M' := M_2) rfl rfl rfl rfl ?_
  refine N_if_ne_t (b := 1) d_Mo_tamper_12 (tgt := 17) rfl (by omega) (by omega) ?_
  refine T_iload_n d_Mo_tamper_17 rfl ?_
  refine T_iconst (v := nI 1) d_Mo_tamper_18 (by decide) ?_
  refine N_icmp_ne_f (a := 1) (b := 1) d_Mo_tamper_19 (tgt := 42) rfl (by omega) (by omega) (by omega) ?_
  refine T_aload_n (v := .ref 373) d_Mo_tamper_22 rfl (Or.inr ⟨_, rfl⟩) ?_
  refine T_getfield (v := .ref 433) d_Mo_tamper_23 fg_Mo_419 hov_8 rfl ?_
  refine T_bipush (v := nI 96) d_Mo_tamper_26 (by decide) ?_
  refine T_iload_n d_Mo_tamper_28 rfl ?_
  refine N_imul (a := s) (b := 96) (c := (96 * s)) d_Mo_tamper_29 rfl ?_
  refine T_iload_n d_Mo_tamper_30 rfl ?_
  refine N_iadd (a := i) (b := (96 * s)) (c := ((96 * s) + i)) d_Mo_tamper_31 rfl ?_
  refine T_dup2 d_Mo_tamper_32 rfl rfl ?_
  have p_9 := (IA.kp (hL) (Ex.kp s_4) (by decide))
  obtain ⟨f_10, hf_11, hl_12, hv_13⟩ := id p_9
  refine N_iaload (k := ((96 * s) + i)) (x := (bR (gd L ((96 * s) + i)))) d_Mo_tamper_33 hf_11 (by omega) (by decide) (hv_13 ((96 * s) + i) (by first | omega | (simp only [List.length_append, List.length_cons, List.length_nil, List.length_replicate, sl_len, be_len, sha_len, hmac_len, ex1_len, ex2_len, stretch_len, zer8_len, tC_len, tag1_len, bnN_len, xkp_len, enc_len, chance_len, lbF_len, str2_len, pub_len', sec8_len]; omega))) ?_
  refine T_iload d_Mo_tamper_34 rfl ?_
  refine T_sipush (v := nI 255) d_Mo_tamper_36 (by decide) ?_
  refine T_iand d_Mo_tamper_39 ?_
  refine T_ixor d_Mo_tamper_40 ?_
  rw [i32_255, bR_xor]
  refine N_iastore (k := ((96 * s) + i)) d_Mo_tamper_41 (by decide) hf_11 (by omega) (by decide) rfl (fun M_14 h_15 s_16 => ?_)
  refine T_iload_n d_Mo_tamper_42 rfl ?_
  refine T_iconst (v := nI 2) d_Mo_tamper_43 (by decide) ?_
  refine N_icmp_ne_t (a := 2) (b := 1) d_Mo_tamper_44 (tgt := 68) rfl (by omega) (by omega) (by omega) ?_
  refine T_iload_n d_Mo_tamper_68 rfl ?_
  refine T_iconst (v := nI 3) d_Mo_tamper_69 (by decide) ?_
  refine N_icmp_ne_t (a := 3) (b := 1) d_Mo_tamper_70 (tgt := 93) rfl (by omega) (by omega) (by omega) ?_
  refine T_iconst (v := nI 1) d_Mo_tamper_93 (by decide) ?_
  have rv : gd L (96 * s + i) = gd (X s) i := (px s hs).2 i (by omega)
  have sl9 : SL M_14 433 384 96 4 (updT X s ((X s).set i (gd (X s) i ^^^ u8 mask))) := by rw [← rv]; exact SL.up (M := M) hv_13 eL px hs (by omega) (by decide) h_15
  have p_17 := (BG.kp (p_5) (Ex.kp s_16) (by decide) (by decide))
  have nb_ : NB M_14 sd ch n m 0 := ⟨_, p_17, (show (upd w 66 (nI 0)) 66 = (nI 0) from rfl), (show (upd w 66 (nI 0)) 71 = sd from h71), (show (upd w 66 (nI 0)) 72 = (nI ch) from h72), (show (upd w 66 (nI 0)) 73 = (nI n) from h73), (show (upd w 66 (nI 0)) 74 = (nI m) from h74)⟩
  exact T_ret d_Mo_tamper_94 rfl (by decide) (by decide) (by decide) ⟨rfl, nb_, sl9, (Kp.ex (Kp.ex (Kp.rf : Kp [373, 433] M M) s_4 (by decide)) s_16 (by decide))⟩
set_option maxHeartbeats 8000000 in
theorem p_Mo_tamper_2_off {G : GX} {M : List va_E} {sd : Int32} {ch n m th : Nat} {mask : Int32} {s i : Nat} {t : Nat → Bool} (hs : s < 4) (hi2 : i < 2147483648) (ht : t s = false) (hnb : NB M sd ch n m th) (hz1 : ZR M 425 4 t) : CT G mi_Mo_tamper [.ref 373, .int (nI s), .int (nI 2), .int (nI i), .int mask] M (fun r M' => r = some (.int (nI 0)) ∧ NB M' sd ch n m 0 ∧ Kp [373] M M') := by
  obtain ⟨w, h, h66, h71, h72, h73, h74⟩ := hnb
  refine CT.of (by decide) (Nat.le_of_ble_eq_true rfl) ?_
  show TT G mi_Mo_tamper 0 [(0, .ref 373), (1, .int (nI s)), (2, .int (nI 2)), (3, .int (nI i)), (4, .int mask)] [] M 0 0 _
  refine T_aload_n (v := .ref 373) d_Mo_tamper_0 rfl (Or.inr ⟨_, rfl⟩) ?_
  refine T_iconst (v := nI 0) d_Mo_tamper_1 (by decide) ?_
  obtain ⟨v_1, hov_1, hwv_1, hsv_1, hiv_1⟩ := id h
  refine N_put (e := (moO (upd v_1 66 (nI 0)))) d_Mo_tamper_2 (fp_Mo_316 _) hov_1 (Nat.le_of_ble_eq_true rfl) ⟨rfl, rfl⟩ rfl (fun M_2 h_3 s_4 => ?_)
  have p_5 := BG.st (j := 66) (by decide) hwv_1 hsv_1 hiv_1 h_3 (Ex.kp s_4)
  refine T_aload_n (v := .ref 373) d_Mo_tamper_5 rfl (Or.inr ⟨_, rfl⟩) ?_
  refine T_iload_n d_Mo_tamper_6 rfl ?_
  refine T_iload_n d_Mo_tamper_7 rfl ?_
  refine T_iload_n d_Mo_tamper_8 rfl ?_
  have p_7 := (ZR.kp (hz1) (Ex.kp s_4) (by decide))
  obtain ⟨v_8, hov_8, hwv_8, hsv_8, hiv_8⟩ := id p_5
  refine T_virtual (as := [.int (nI s), .int (nI 2), .int (nI i)]) (rest := []) (b := 373) d_Mo_tamper_9 rfl (jw_Mo_isWire.jo (by decide)) lm_Mo_595 ji_Mo_isWire js_Mo_isWire hov_8 rfl rfl rfl (Nat.le_of_ble_eq_true rfl) (by decide) (by decide) (b_Mo_isWire_2_off hs hi2 ht p_5 p_7) (fun r M_6 hq => ?_)
  obtain ⟨rfl, he⟩ := hq
  obtain rfl := he.symm
  refine T_eq (pc' := 12) (L' := [(0, .ref 373), (1, .int (nI s)), (2, .int (nI 2)), (3, .int (nI i)), (4, .int mask)]) (st' := [.int (nI 0)]) (M' := M_2) rfl rfl rfl rfl ?_
  refine N_if_ne_f (b := 0) d_Mo_tamper_12 (tgt := 17) rfl (by omega) (by omega) ?_
  refine T_iconst (v := nI 0) d_Mo_tamper_15 (by decide) ?_
  have nb_ : NB M_2 sd ch n m 0 := ⟨_, p_5, (show (upd w 66 (nI 0)) 66 = (nI 0) from rfl), (show (upd w 66 (nI 0)) 71 = sd from h71), (show (upd w 66 (nI 0)) 72 = (nI ch) from h72), (show (upd w 66 (nI 0)) 73 = (nI n) from h73), (show (upd w 66 (nI 0)) 74 = (nI m) from h74)⟩
  exact T_ret d_Mo_tamper_16 rfl (by first | decide | rfl) (by decide) (by decide) ⟨rfl, nb_, (Kp.ex (Kp.rf : Kp [373] M M) s_4 (by decide))⟩
set_option maxHeartbeats 8000000 in
theorem p_Mo_tamper_2_out {G : GX} {M : List va_E} {sd : Int32} {ch n m th : Nat} {mask : Int32} {s i : Nat} {t : Nat → Bool} (hs : s < 4) (hi : 320 ≤ i) (hi2 : i < 2147483648) (hnb : NB M sd ch n m th) (hz1 : ZR M 425 4 t) : CT G mi_Mo_tamper [.ref 373, .int (nI s), .int (nI 2), .int (nI i), .int mask] M (fun r M' => r = some (.int (nI 0)) ∧ NB M' sd ch n m 0 ∧ Kp [373] M M') := by
  obtain ⟨w, h, h66, h71, h72, h73, h74⟩ := hnb
  refine CT.of (by decide) (Nat.le_of_ble_eq_true rfl) ?_
  show TT G mi_Mo_tamper 0 [(0, .ref 373), (1, .int (nI s)), (2, .int (nI 2)), (3, .int (nI i)), (4, .int mask)] [] M 0 0 _
  refine T_aload_n (v := .ref 373) d_Mo_tamper_0 rfl (Or.inr ⟨_, rfl⟩) ?_
  refine T_iconst (v := nI 0) d_Mo_tamper_1 (by decide) ?_
  obtain ⟨v_1, hov_1, hwv_1, hsv_1, hiv_1⟩ := id h
  refine N_put (e := (moO (upd v_1 66 (nI 0)))) d_Mo_tamper_2 (fp_Mo_316 _) hov_1 (Nat.le_of_ble_eq_true rfl) ⟨rfl, rfl⟩ rfl (fun M_2 h_3 s_4 => ?_)
  have p_5 := BG.st (j := 66) (by decide) hwv_1 hsv_1 hiv_1 h_3 (Ex.kp s_4)
  refine T_aload_n (v := .ref 373) d_Mo_tamper_5 rfl (Or.inr ⟨_, rfl⟩) ?_
  refine T_iload_n d_Mo_tamper_6 rfl ?_
  refine T_iload_n d_Mo_tamper_7 rfl ?_
  refine T_iload_n d_Mo_tamper_8 rfl ?_
  have p_7 := (ZR.kp (hz1) (Ex.kp s_4) (by decide))
  obtain ⟨v_8, hov_8, hwv_8, hsv_8, hiv_8⟩ := id p_5
  refine T_virtual (as := [.int (nI s), .int (nI 2), .int (nI i)]) (rest := []) (b := 373) d_Mo_tamper_9 rfl (jw_Mo_isWire.jo (by decide)) lm_Mo_595 ji_Mo_isWire js_Mo_isWire hov_8 rfl rfl rfl (Nat.le_of_ble_eq_true rfl) (by decide) (by decide) (b_Mo_isWire_2_out hs hi hi2 p_5 p_7) (fun r M_6 hq => ?_)
  obtain ⟨rfl, he⟩ := hq
  obtain rfl := he.symm
  refine T_eq (pc' := 12) (L' := [(0, .ref 373), (1, .int (nI s)), (2, .int (nI 2)), (3, .int (nI i)), (4, .int mask)]) (st' := [.int (nI 0)]) (M' := M_2) rfl rfl rfl rfl ?_
  refine N_if_ne_f (b := 0) d_Mo_tamper_12 (tgt := 17) rfl (by omega) (by omega) ?_
  refine T_iconst (v := nI 0) d_Mo_tamper_15 (by decide) ?_
  have nb_ : NB M_2 sd ch n m 0 := ⟨_, p_5, (show (upd w 66 (nI 0)) 66 = (nI 0) from rfl), (show (upd w 66 (nI 0)) 71 = sd from h71), (show (upd w 66 (nI 0)) 72 = (nI ch) from h72), (show (upd w 66 (nI 0)) 73 = (nI n) from h73), (show (upd w 66 (nI 0)) 74 = (nI m) from h74)⟩
  exact T_ret d_Mo_tamper_16 rfl (by first | decide | rfl) (by decide) (by decide) ⟨rfl, nb_, (Kp.ex (Kp.rf : Kp [373] M M) s_4 (by decide))⟩
set_option maxHeartbeats 8000000 in
theorem p_Mo_tamper_2_in {G : GX} {M : List va_E} {sd : Int32} {ch n m th : Nat} {X : Nat → List UInt8} {mask : Int32} {s i : Nat} {t : Nat → Bool} (hs : s < 4) (hi : i < 320) (ht : t s = true) (hnb : NB M sd ch n m th) (hz1 : ZR M 425 4 t) (hr : SL M 434 1280 320 4 X) (hl : (X s).length = 320) : CT G mi_Mo_tamper [.ref 373, .int (nI s), .int (nI 2), .int (nI i), .int mask] M (fun r M' => r = some (.int (nI 1)) ∧ NB M' sd ch n m 0 ∧ SL M' 434 1280 320 4 (updT X s ((X s).set i (gd (X s) i ^^^ u8 mask))) ∧ Kp [373, 434] M M') := by
  obtain ⟨w, h, h66, h71, h72, h73, h74⟩ := hnb
  obtain ⟨L, hL, eL, px⟩ := hr
  have hps := (px s hs).1
  refine CT.of (by decide) (Nat.le_of_ble_eq_true rfl) ?_
  show TT G mi_Mo_tamper 0 [(0, .ref 373), (1, .int (nI s)), (2, .int (nI 2)), (3, .int (nI i)), (4, .int mask)] [] M 0 0 _
  refine T_aload_n (v := .ref 373) d_Mo_tamper_0 rfl (Or.inr ⟨_, rfl⟩) ?_
  refine T_iconst (v := nI 0) d_Mo_tamper_1 (by decide) ?_
  obtain ⟨v_1, hov_1, hwv_1, hsv_1, hiv_1⟩ := id h
  refine N_put (e := (moO (upd v_1 66 (nI 0)))) d_Mo_tamper_2 (fp_Mo_316 _) hov_1 (Nat.le_of_ble_eq_true rfl) ⟨rfl, rfl⟩ rfl (fun M_2 h_3 s_4 => ?_)
  have p_5 := BG.st (j := 66) (by decide) hwv_1 hsv_1 hiv_1 h_3 (Ex.kp s_4)
  refine T_aload_n (v := .ref 373) d_Mo_tamper_5 rfl (Or.inr ⟨_, rfl⟩) ?_
  refine T_iload_n d_Mo_tamper_6 rfl ?_
  refine T_iload_n d_Mo_tamper_7 rfl ?_
  refine T_iload_n d_Mo_tamper_8 rfl ?_
  have p_7 := (ZR.kp (hz1) (Ex.kp s_4) (by decide))
  obtain ⟨v_8, hov_8, hwv_8, hsv_8, hiv_8⟩ := id p_5
  refine T_virtual (as := [.int (nI s), .int (nI 2), .int (nI i)]) (rest := []) (b := 373) d_Mo_tamper_9 rfl (jw_Mo_isWire.jo (by decide)) lm_Mo_595 ji_Mo_isWire js_Mo_isWire hov_8 rfl rfl rfl (Nat.le_of_ble_eq_true rfl) (by decide) (by decide) (b_Mo_isWire_2_in hs hi ht p_5 p_7) (fun r M_6 hq => ?_)
  obtain ⟨rfl, he⟩ := hq
  obtain rfl := he.symm
  refine T_eq (pc' := 12) (L' := [(0, .ref 373), (1, .int (nI s)), (2, .int (nI 2)), (3, .int (nI i)), (4, .int mask)]) (st' := [.int (nI 1)]) (M' := M_2) rfl rfl rfl rfl ?_
  refine N_if_ne_t (b := 1) d_Mo_tamper_12 (tgt := 17) rfl (by omega) (by omega) ?_
  refine T_iload_n d_Mo_tamper_17 rfl ?_
  refine T_iconst (v := nI 1) d_Mo_tamper_18 (by decide) ?_
  refine N_icmp_ne_t (a := 1) (b := 2) d_Mo_tamper_19 (tgt := 42) rfl (by omega) (by omega) (by omega) ?_
  refine T_iload_n d_Mo_tamper_42 rfl ?_
  refine T_iconst (v := nI 2) d_Mo_tamper_43 (by decide) ?_
  refine N_icmp_ne_f (a := 2) (b := 2) d_Mo_tamper_44 (tgt := 68) rfl (by omega) (by omega) (by omega) ?_
  refine T_aload_n (v := .ref 373) d_Mo_tamper_47 rfl (Or.inr ⟨_, rfl⟩) ?_
  refine T_getfield (v := .ref 434) d_Mo_tamper_48 fg_Mo_422 hov_8 rfl ?_
  refine T_sipush (v := nI 320) d_Mo_tamper_51 (by decide) ?_
  refine T_iload_n d_Mo_tamper_54 rfl ?_
  refine N_imul (a := s) (b := 320) (c := (320 * s)) d_Mo_tamper_55 rfl ?_
  refine T_iload_n d_Mo_tamper_56 rfl ?_
  refine N_iadd (a := i) (b := (320 * s)) (c := ((320 * s) + i)) d_Mo_tamper_57 rfl ?_
  refine T_dup2 d_Mo_tamper_58 rfl rfl ?_
  have p_9 := (IA.kp (hL) (Ex.kp s_4) (by decide))
  obtain ⟨f_10, hf_11, hl_12, hv_13⟩ := id p_9
  refine N_iaload (k := ((320 * s) + i)) (x := (bR (gd L ((320 * s) + i)))) d_Mo_tamper_59 hf_11 (by omega) (by decide) (hv_13 ((320 * s) + i) (by first | omega | (simp only [List.length_append, List.length_cons, List.length_nil, List.length_replicate, sl_len, be_len, sha_len, hmac_len, ex1_len, ex2_len, stretch_len, zer8_len, tC_len, tag1_len, bnN_len, xkp_len, enc_len, chance_len, lbF_len, str2_len, pub_len', sec8_len]; omega))) ?_
  refine T_iload d_Mo_tamper_60 rfl ?_
  refine T_sipush (v := nI 255) d_Mo_tamper_62 (by decide) ?_
  refine T_iand d_Mo_tamper_65 ?_
  refine T_ixor d_Mo_tamper_66 ?_
  rw [i32_255, bR_xor]
  refine N_iastore (k := ((320 * s) + i)) d_Mo_tamper_67 (by decide) hf_11 (by omega) (by decide) rfl (fun M_14 h_15 s_16 => ?_)
  refine T_iload_n d_Mo_tamper_68 rfl ?_
  refine T_iconst (v := nI 3) d_Mo_tamper_69 (by decide) ?_
  refine N_icmp_ne_t (a := 3) (b := 2) d_Mo_tamper_70 (tgt := 93) rfl (by omega) (by omega) (by omega) ?_
  refine T_iconst (v := nI 1) d_Mo_tamper_93 (by decide) ?_
  have rv : gd L (320 * s + i) = gd (X s) i := (px s hs).2 i (by omega)
  have sl9 : SL M_14 434 1280 320 4 (updT X s ((X s).set i (gd (X s) i ^^^ u8 mask))) := by rw [← rv]; exact SL.up (M := M) hv_13 eL px hs (by omega) (by decide) h_15
  have p_17 := (BG.kp (p_5) (Ex.kp s_16) (by decide) (by decide))
  have nb_ : NB M_14 sd ch n m 0 := ⟨_, p_17, (show (upd w 66 (nI 0)) 66 = (nI 0) from rfl), (show (upd w 66 (nI 0)) 71 = sd from h71), (show (upd w 66 (nI 0)) 72 = (nI ch) from h72), (show (upd w 66 (nI 0)) 73 = (nI n) from h73), (show (upd w 66 (nI 0)) 74 = (nI m) from h74)⟩
  exact T_ret d_Mo_tamper_94 rfl (by decide) (by decide) (by decide) ⟨rfl, nb_, sl9, (Kp.ex (Kp.ex (Kp.rf : Kp [373, 434] M M) s_4 (by decide)) s_16 (by decide))⟩
set_option maxHeartbeats 8000000 in
theorem p_Mo_tamper_3_off {G : GX} {M : List va_E} {sd : Int32} {ch n m th : Nat} {mask : Int32} {s i : Nat} {t : Nat → Bool} (hs : s < 4) (hi2 : i < 2147483648) (ht : t s = false) (hnb : NB M sd ch n m th) (hz1 : ZR M 426 4 t) : CT G mi_Mo_tamper [.ref 373, .int (nI s), .int (nI 3), .int (nI i), .int mask] M (fun r M' => r = some (.int (nI 0)) ∧ NB M' sd ch n m 0 ∧ Kp [373] M M') := by
  obtain ⟨w, h, h66, h71, h72, h73, h74⟩ := hnb
  refine CT.of (by decide) (Nat.le_of_ble_eq_true rfl) ?_
  show TT G mi_Mo_tamper 0 [(0, .ref 373), (1, .int (nI s)), (2, .int (nI 3)), (3, .int (nI i)), (4, .int mask)] [] M 0 0 _
  refine T_aload_n (v := .ref 373) d_Mo_tamper_0 rfl (Or.inr ⟨_, rfl⟩) ?_
  refine T_iconst (v := nI 0) d_Mo_tamper_1 (by decide) ?_
  obtain ⟨v_1, hov_1, hwv_1, hsv_1, hiv_1⟩ := id h
  refine N_put (e := (moO (upd v_1 66 (nI 0)))) d_Mo_tamper_2 (fp_Mo_316 _) hov_1 (Nat.le_of_ble_eq_true rfl) ⟨rfl, rfl⟩ rfl (fun M_2 h_3 s_4 => ?_)
  have p_5 := BG.st (j := 66) (by decide) hwv_1 hsv_1 hiv_1 h_3 (Ex.kp s_4)
  refine T_aload_n (v := .ref 373) d_Mo_tamper_5 rfl (Or.inr ⟨_, rfl⟩) ?_
  refine T_iload_n d_Mo_tamper_6 rfl ?_
  refine T_iload_n d_Mo_tamper_7 rfl ?_
  refine T_iload_n d_Mo_tamper_8 rfl ?_
  have p_7 := (ZR.kp (hz1) (Ex.kp s_4) (by decide))
  obtain ⟨v_8, hov_8, hwv_8, hsv_8, hiv_8⟩ := id p_5
  refine T_virtual (as := [.int (nI s), .int (nI 3), .int (nI i)]) (rest := []) (b := 373) d_Mo_tamper_9 rfl (jw_Mo_isWire.jo (by decide)) lm_Mo_595 ji_Mo_isWire js_Mo_isWire hov_8 rfl rfl rfl (Nat.le_of_ble_eq_true rfl) (by decide) (by decide) (b_Mo_isWire_3_off hs hi2 ht p_5 p_7) (fun r M_6 hq => ?_)
  obtain ⟨rfl, he⟩ := hq
  obtain rfl := he.symm
  refine T_eq (pc' := 12) (L' := [(0, .ref 373), (1, .int (nI s)), (2, .int (nI 3)), (3, .int (nI i)), (4, .int mask)]) (st' := [.int (nI 0)]) (M' := M_2) rfl rfl rfl rfl ?_
  refine N_if_ne_f (b := 0) d_Mo_tamper_12 (tgt := 17) rfl (by omega) (by omega) ?_
  refine T_iconst (v := nI 0) d_Mo_tamper_15 (by decide) ?_
  have nb_ : NB M_2 sd ch n m 0 := ⟨_, p_5, (show (upd w 66 (nI 0)) 66 = (nI 0) from rfl), (show (upd w 66 (nI 0)) 71 = sd from h71), (show (upd w 66 (nI 0)) 72 = (nI ch) from h72), (show (upd w 66 (nI 0)) 73 = (nI n) from h73), (show (upd w 66 (nI 0)) 74 = (nI m) from h74)⟩
  exact T_ret d_Mo_tamper_16 rfl (by first | decide | rfl) (by decide) (by decide) ⟨rfl, nb_, (Kp.ex (Kp.rf : Kp [373] M M) s_4 (by decide))⟩
set_option maxHeartbeats 8000000 in
theorem p_Mo_tamper_3_out {G : GX} {M : List va_E} {sd : Int32} {ch n m th : Nat} {mask : Int32} {s i : Nat} {t : Nat → Bool} (hs : s < 4) (hi : 64 ≤ i) (hi2 : i < 2147483648) (hnb : NB M sd ch n m th) (hz1 : ZR M 426 4 t) : CT G mi_Mo_tamper [.ref 373, .int (nI s), .int (nI 3), .int (nI i), .int mask] M (fun r M' => r = some (.int (nI 0)) ∧ NB M' sd ch n m 0 ∧ Kp [373] M M') := by
  obtain ⟨w, h, h66, h71, h72, h73, h74⟩ := hnb
  refine CT.of (by decide) (Nat.le_of_ble_eq_true rfl) ?_
  show TT G mi_Mo_tamper 0 [(0, .ref 373), (1, .int (nI s)), (2, .int (nI 3)), (3, .int (nI i)), (4, .int mask)] [] M 0 0 _
  refine T_aload_n (v := .ref 373) d_Mo_tamper_0 rfl (Or.inr ⟨_, rfl⟩) ?_
  refine T_iconst (v := nI 0) d_Mo_tamper_1 (by decide) ?_
  obtain ⟨v_1, hov_1, hwv_1, hsv_1, hiv_1⟩ := id h
  refine N_put (e := (moO (upd v_1 66 (nI 0)))) d_Mo_tamper_2 (fp_Mo_316 _) hov_1 (Nat.le_of_ble_eq_true rfl) ⟨rfl, rfl⟩ rfl (fun M_2 h_3 s_4 => ?_)
  have p_5 := BG.st (j := 66) (by decide) hwv_1 hsv_1 hiv_1 h_3 (Ex.kp s_4)
  refine T_aload_n (v := .ref 373) d_Mo_tamper_5 rfl (Or.inr ⟨_, rfl⟩) ?_
  refine T_iload_n d_Mo_tamper_6 rfl ?_
  refine T_iload_n d_Mo_tamper_7 rfl ?_
  refine T_iload_n d_Mo_tamper_8 rfl ?_
  have p_7 := (ZR.kp (hz1) (Ex.kp s_4) (by decide))
  obtain ⟨v_8, hov_8, hwv_8, hsv_8, hiv_8⟩ := id p_5
  refine T_virtual (as := [.int (nI s), .int (nI 3), .int (nI i)]) (rest := []) (b := 373) d_Mo_tamper_9 rfl (jw_Mo_isWire.jo (by decide)) lm_Mo_595 ji_Mo_isWire js_Mo_isWire hov_8 rfl rfl rfl (Nat.le_of_ble_eq_true rfl) (by decide) (by decide) (b_Mo_isWire_3_out hs hi hi2 p_5 p_7) (fun r M_6 hq => ?_)
  obtain ⟨rfl, he⟩ := hq
  obtain rfl := he.symm
  refine T_eq (pc' := 12) (L' := [(0, .ref 373), (1, .int (nI s)), (2, .int (nI 3)), (3, .int (nI i)), (4, .int mask)]) (st' := [.int (nI 0)]) (M' := M_2) rfl rfl rfl rfl ?_
  refine N_if_ne_f (b := 0) d_Mo_tamper_12 (tgt := 17) rfl (by omega) (by omega) ?_
  refine T_iconst (v := nI 0) d_Mo_tamper_15 (by decide) ?_
  have nb_ : NB M_2 sd ch n m 0 := ⟨_, p_5, (show (upd w 66 (nI 0)) 66 = (nI 0) from rfl), (show (upd w 66 (nI 0)) 71 = sd from h71), (show (upd w 66 (nI 0)) 72 = (nI ch) from h72), (show (upd w 66 (nI 0)) 73 = (nI n) from h73), (show (upd w 66 (nI 0)) 74 = (nI m) from h74)⟩
  exact T_ret d_Mo_tamper_16 rfl (by first | decide | rfl) (by decide) (by decide) ⟨rfl, nb_, (Kp.ex (Kp.rf : Kp [373] M M) s_4 (by decide))⟩
set_option maxHeartbeats 8000000 in
theorem p_Mo_tamper_3_in {G : GX} {M : List va_E} {sd : Int32} {ch n m th : Nat} {X : Nat → List UInt8} {mask : Int32} {s i : Nat} {t : Nat → Bool} (hs : s < 4) (hi : i < 64) (ht : t s = true) (hnb : NB M sd ch n m th) (hz1 : ZR M 426 4 t) (hr : SL M 435 256 64 4 X) (hl : (X s).length = 64) : CT G mi_Mo_tamper [.ref 373, .int (nI s), .int (nI 3), .int (nI i), .int mask] M (fun r M' => r = some (.int (nI 1)) ∧ NB M' sd ch n m 0 ∧ SL M' 435 256 64 4 (updT X s ((X s).set i (gd (X s) i ^^^ u8 mask))) ∧ Kp [373, 435] M M') := by
  obtain ⟨w, h, h66, h71, h72, h73, h74⟩ := hnb
  obtain ⟨L, hL, eL, px⟩ := hr
  have hps := (px s hs).1
  refine CT.of (by decide) (Nat.le_of_ble_eq_true rfl) ?_
  show TT G mi_Mo_tamper 0 [(0, .ref 373), (1, .int (nI s)), (2, .int (nI 3)), (3, .int (nI i)), (4, .int mask)] [] M 0 0 _
  refine T_aload_n (v := .ref 373) d_Mo_tamper_0 rfl (Or.inr ⟨_, rfl⟩) ?_
  refine T_iconst (v := nI 0) d_Mo_tamper_1 (by decide) ?_
  obtain ⟨v_1, hov_1, hwv_1, hsv_1, hiv_1⟩ := id h
  refine N_put (e := (moO (upd v_1 66 (nI 0)))) d_Mo_tamper_2 (fp_Mo_316 _) hov_1 (Nat.le_of_ble_eq_true rfl) ⟨rfl, rfl⟩ rfl (fun M_2 h_3 s_4 => ?_)
  have p_5 := BG.st (j := 66) (by decide) hwv_1 hsv_1 hiv_1 h_3 (Ex.kp s_4)
  refine T_aload_n (v := .ref 373) d_Mo_tamper_5 rfl (Or.inr ⟨_, rfl⟩) ?_
  refine T_iload_n d_Mo_tamper_6 rfl ?_
  refine T_iload_n d_Mo_tamper_7 rfl ?_
  refine T_iload_n d_Mo_tamper_8 rfl ?_
  have p_7 := (ZR.kp (hz1) (Ex.kp s_4) (by decide))
  obtain ⟨v_8, hov_8, hwv_8, hsv_8, hiv_8⟩ := id p_5
  refine T_virtual (as := [.int (nI s), .int (nI 3), .int (nI i)]) (rest := []) (b := 373) d_Mo_tamper_9 rfl (jw_Mo_isWire.jo (by decide)) lm_Mo_595 ji_Mo_isWire js_Mo_isWire hov_8 rfl rfl rfl (Nat.le_of_ble_eq_true rfl) (by decide) (by decide) (b_Mo_isWire_3_in hs hi ht p_5 p_7) (fun r M_6 hq => ?_)
  obtain ⟨rfl, he⟩ := hq
  obtain rfl := he.symm
  refine T_eq (pc' := 12) (L' := [(0, .ref 373), (1, .int (nI s)), (2, .int (nI 3)), (3, .int (nI i)), (4, .int mask)]) (st' := [.int (nI 1)]) (M' := M_2) rfl rfl rfl rfl ?_
  refine N_if_ne_t (b := 1) d_Mo_tamper_12 (tgt := 17) rfl (by omega) (by omega) ?_
  refine T_iload_n d_Mo_tamper_17 rfl ?_
  refine T_iconst (v := nI 1) d_Mo_tamper_18 (by decide) ?_
  refine N_icmp_ne_t (a := 1) (b := 3) d_Mo_tamper_19 (tgt := 42) rfl (by omega) (by omega) (by omega) ?_
  refine T_iload_n d_Mo_tamper_42 rfl ?_
  refine T_iconst (v := nI 2) d_Mo_tamper_43 (by decide) ?_
  refine N_icmp_ne_t (a := 2) (b := 3) d_Mo_tamper_44 (tgt := 68) rfl (by omega) (by omega) (by omega) ?_
  refine T_iload_n d_Mo_tamper_68 rfl ?_
  refine T_iconst (v := nI 3) d_Mo_tamper_69 (by decide) ?_
  refine N_icmp_ne_f (a := 3) (b := 3) d_Mo_tamper_70 (tgt := 93) rfl (by omega) (by omega) (by omega) ?_
  refine T_aload_n (v := .ref 373) d_Mo_tamper_73 rfl (Or.inr ⟨_, rfl⟩) ?_
  refine T_getfield (v := .ref 435) d_Mo_tamper_74 fg_Mo_425 hov_8 rfl ?_
  refine T_bipush (v := nI 64) d_Mo_tamper_77 (by decide) ?_
  refine T_iload_n d_Mo_tamper_79 rfl ?_
  refine N_imul (a := s) (b := 64) (c := (64 * s)) d_Mo_tamper_80 rfl ?_
  refine T_iload_n d_Mo_tamper_81 rfl ?_
  refine N_iadd (a := i) (b := (64 * s)) (c := ((64 * s) + i)) d_Mo_tamper_82 rfl ?_
  refine T_dup2 d_Mo_tamper_83 rfl rfl ?_
  have p_9 := (IA.kp (hL) (Ex.kp s_4) (by decide))
  obtain ⟨f_10, hf_11, hl_12, hv_13⟩ := id p_9
  refine N_iaload (k := ((64 * s) + i)) (x := (bR (gd L ((64 * s) + i)))) d_Mo_tamper_84 hf_11 (by omega) (by decide) (hv_13 ((64 * s) + i) (by first | omega | (simp only [List.length_append, List.length_cons, List.length_nil, List.length_replicate, sl_len, be_len, sha_len, hmac_len, ex1_len, ex2_len, stretch_len, zer8_len, tC_len, tag1_len, bnN_len, xkp_len, enc_len, chance_len, lbF_len, str2_len, pub_len', sec8_len]; omega))) ?_
  refine T_iload d_Mo_tamper_85 rfl ?_
  refine T_sipush (v := nI 255) d_Mo_tamper_87 (by decide) ?_
  refine T_iand d_Mo_tamper_90 ?_
  refine T_ixor d_Mo_tamper_91 ?_
  rw [i32_255, bR_xor]
  refine N_iastore (k := ((64 * s) + i)) d_Mo_tamper_92 (by decide) hf_11 (by omega) (by decide) rfl (fun M_14 h_15 s_16 => ?_)
  refine T_iconst (v := nI 1) d_Mo_tamper_93 (by decide) ?_
  have rv : gd L (64 * s + i) = gd (X s) i := (px s hs).2 i (by omega)
  have sl9 : SL M_14 435 256 64 4 (updT X s ((X s).set i (gd (X s) i ^^^ u8 mask))) := by rw [← rv]; exact SL.up (M := M) hv_13 eL px hs (by omega) (by decide) h_15
  have p_17 := (BG.kp (p_5) (Ex.kp s_16) (by decide) (by decide))
  have nb_ : NB M_14 sd ch n m 0 := ⟨_, p_17, (show (upd w 66 (nI 0)) 66 = (nI 0) from rfl), (show (upd w 66 (nI 0)) 71 = sd from h71), (show (upd w 66 (nI 0)) 72 = (nI ch) from h72), (show (upd w 66 (nI 0)) 73 = (nI n) from h73), (show (upd w 66 (nI 0)) 74 = (nI m) from h74)⟩
  exact T_ret d_Mo_tamper_94 rfl (by decide) (by decide) (by decide) ⟨rfl, nb_, sl9, (Kp.ex (Kp.ex (Kp.rf : Kp [373, 435] M M) s_4 (by decide)) s_16 (by decide))⟩
set_option maxHeartbeats 8000000 in
theorem p_Mo_key_sneg {G : GX} {M : List va_E} {sd : Int32} {ch n m th : Nat} {x y z : Int32} (hx : x < 0) (hnb : NB M sd ch n m th) : CT G mi_Mo_key [.ref 373, .int x, .int y, .int z] M (fun r M' => r = some (.int (nI 0)) ∧ NB M' sd ch n m 1 ∧ Kp [373] M M') := by
  obtain ⟨w, h, h66, h71, h72, h73, h74⟩ := hnb
  refine CT.of (by decide) (Nat.le_of_ble_eq_true rfl) ?_
  show TT G mi_Mo_key 0 [(0, .ref 373), (1, .int x), (2, .int y), (3, .int z)] [] M 0 0 _
  refine T_aload_n (v := .ref 373) d_Mo_key_0 rfl (Or.inr ⟨_, rfl⟩) ?_
  refine T_iconst (v := nI 0) d_Mo_key_1 (by decide) ?_
  obtain ⟨v_1, hov_1, hwv_1, hsv_1, hiv_1⟩ := id h
  refine N_put (e := (moO (upd v_1 66 (nI 0)))) d_Mo_key_2 (fp_Mo_316 _) hov_1 (Nat.le_of_ble_eq_true rfl) ⟨rfl, rfl⟩ rfl (fun M_2 h_3 s_4 => ?_)
  have p_5 := BG.st (j := 66) (by decide) hwv_1 hsv_1 hiv_1 h_3 (Ex.kp s_4)
  refine T_iload_n d_Mo_key_5 rfl ?_
  refine T_static (as := [.int x]) (rest := []) d_Mo_key_6 rfl (jw_Mo_isSession.jo (by decide)) lm_Mo_545 jt_Mo_isSession rfl (Nat.le_of_ble_eq_true rfl) (by decide) (by decide) (b_Mo_isS_neg hx) (fun r M_6 hq => ?_)
  obtain ⟨rfl, he⟩ := hq
  obtain rfl := he.symm
  refine T_eq (pc' := 9) (L' := [(0, .ref 373), (1, .int x), (2, .int y), (3, .int z)]) (st' := [.int (nI 0)]) (M' := M_2) rfl rfl rfl rfl ?_
  refine N_if_eq_t (b := 0) d_Mo_key_9 (tgt := 35) rfl (by omega) (by omega) ?_
  refine T_iconst (v := nI 0) d_Mo_key_35 (by decide) ?_
  refine T_istore (L' := [(4, .int (nI 0)), (0, .ref 373), (1, .int x), (2, .int y), (3, .int z)]) d_Mo_key_36 (by decide) rfl ?_
  refine T_iload d_Mo_key_38 rfl ?_
  refine N_if_eq_t (b := 0) d_Mo_key_40 (tgt := 59) rfl (by omega) (by omega) ?_
  refine T_iload d_Mo_key_59 rfl ?_
  refine N_if_eq_t (b := 0) d_Mo_key_61 (tgt := 72) rfl (by omega) (by omega) ?_
  refine T_iload d_Mo_key_72 rfl ?_
  refine N_if_ne_f (b := 0) d_Mo_key_74 (tgt := 84) rfl (by omega) (by omega) ?_
  refine T_aload_n (v := .ref 373) d_Mo_key_77 rfl (Or.inr ⟨_, rfl⟩) ?_
  refine T_iconst (v := nI 1) d_Mo_key_78 (by decide) ?_
  obtain ⟨v_7, hov_7, hwv_7, hsv_7, hiv_7⟩ := id p_5
  refine N_put (e := (moO (upd v_7 66 (nI 1)))) d_Mo_key_79 (fp_Mo_316 _) hov_7 (Nat.le_of_ble_eq_true rfl) ⟨rfl, rfl⟩ rfl (fun M_8 h_9 s_10 => ?_)
  have p_11 := BG.st (j := 66) (by decide) hwv_7 hsv_7 hiv_7 h_9 (Ex.kp s_10)
  refine T_iconst (v := nI 0) d_Mo_key_82 (by decide) ?_
  have nb_ : NB M_8 sd ch n m 1 := ⟨_, p_11, (show (upd (upd w 66 (nI 0)) 66 (nI 1)) 66 = (nI 1) from rfl), (show (upd (upd w 66 (nI 0)) 66 (nI 1)) 71 = sd from h71), (show (upd (upd w 66 (nI 0)) 66 (nI 1)) 72 = (nI ch) from h72), (show (upd (upd w 66 (nI 0)) 66 (nI 1)) 73 = (nI n) from h73), (show (upd (upd w 66 (nI 0)) 66 (nI 1)) 74 = (nI m) from h74)⟩
  exact T_ret d_Mo_key_83 rfl (by first | decide | rfl) (by decide) (by decide) ⟨rfl, nb_, (Kp.ex (Kp.ex (Kp.rf : Kp [373] M M) s_4 (by decide)) s_10 (by decide))⟩
set_option maxHeartbeats 8000000 in
theorem p_Mo_key_sbig {G : GX} {M : List va_E} {sd : Int32} {ch n m th : Nat} {x y z : Int32} (h0 : ¬ x < 0) (hx : nI 4 ≤ x) (hnb : NB M sd ch n m th) : CT G mi_Mo_key [.ref 373, .int x, .int y, .int z] M (fun r M' => r = some (.int (nI 0)) ∧ NB M' sd ch n m 1 ∧ Kp [373] M M') := by
  obtain ⟨w, h, h66, h71, h72, h73, h74⟩ := hnb
  refine CT.of (by decide) (Nat.le_of_ble_eq_true rfl) ?_
  show TT G mi_Mo_key 0 [(0, .ref 373), (1, .int x), (2, .int y), (3, .int z)] [] M 0 0 _
  refine T_aload_n (v := .ref 373) d_Mo_key_0 rfl (Or.inr ⟨_, rfl⟩) ?_
  refine T_iconst (v := nI 0) d_Mo_key_1 (by decide) ?_
  obtain ⟨v_1, hov_1, hwv_1, hsv_1, hiv_1⟩ := id h
  refine N_put (e := (moO (upd v_1 66 (nI 0)))) d_Mo_key_2 (fp_Mo_316 _) hov_1 (Nat.le_of_ble_eq_true rfl) ⟨rfl, rfl⟩ rfl (fun M_2 h_3 s_4 => ?_)
  have p_5 := BG.st (j := 66) (by decide) hwv_1 hsv_1 hiv_1 h_3 (Ex.kp s_4)
  refine T_iload_n d_Mo_key_5 rfl ?_
  refine T_static (as := [.int x]) (rest := []) d_Mo_key_6 rfl (jw_Mo_isSession.jo (by decide)) lm_Mo_545 jt_Mo_isSession rfl (Nat.le_of_ble_eq_true rfl) (by decide) (by decide) (b_Mo_isS_big h0 hx) (fun r M_6 hq => ?_)
  obtain ⟨rfl, he⟩ := hq
  obtain rfl := he.symm
  refine T_eq (pc' := 9) (L' := [(0, .ref 373), (1, .int x), (2, .int y), (3, .int z)]) (st' := [.int (nI 0)]) (M' := M_2) rfl rfl rfl rfl ?_
  refine N_if_eq_t (b := 0) d_Mo_key_9 (tgt := 35) rfl (by omega) (by omega) ?_
  refine T_iconst (v := nI 0) d_Mo_key_35 (by decide) ?_
  refine T_istore (L' := [(4, .int (nI 0)), (0, .ref 373), (1, .int x), (2, .int y), (3, .int z)]) d_Mo_key_36 (by decide) rfl ?_
  refine T_iload d_Mo_key_38 rfl ?_
  refine N_if_eq_t (b := 0) d_Mo_key_40 (tgt := 59) rfl (by omega) (by omega) ?_
  refine T_iload d_Mo_key_59 rfl ?_
  refine N_if_eq_t (b := 0) d_Mo_key_61 (tgt := 72) rfl (by omega) (by omega) ?_
  refine T_iload d_Mo_key_72 rfl ?_
  refine N_if_ne_f (b := 0) d_Mo_key_74 (tgt := 84) rfl (by omega) (by omega) ?_
  refine T_aload_n (v := .ref 373) d_Mo_key_77 rfl (Or.inr ⟨_, rfl⟩) ?_
  refine T_iconst (v := nI 1) d_Mo_key_78 (by decide) ?_
  obtain ⟨v_7, hov_7, hwv_7, hsv_7, hiv_7⟩ := id p_5
  refine N_put (e := (moO (upd v_7 66 (nI 1)))) d_Mo_key_79 (fp_Mo_316 _) hov_7 (Nat.le_of_ble_eq_true rfl) ⟨rfl, rfl⟩ rfl (fun M_8 h_9 s_10 => ?_)
  have p_11 := BG.st (j := 66) (by decide) hwv_7 hsv_7 hiv_7 h_9 (Ex.kp s_10)
  refine T_iconst (v := nI 0) d_Mo_key_82 (by decide) ?_
  have nb_ : NB M_8 sd ch n m 1 := ⟨_, p_11, (show (upd (upd w 66 (nI 0)) 66 (nI 1)) 66 = (nI 1) from rfl), (show (upd (upd w 66 (nI 0)) 66 (nI 1)) 71 = sd from h71), (show (upd (upd w 66 (nI 0)) 66 (nI 1)) 72 = (nI ch) from h72), (show (upd (upd w 66 (nI 0)) 66 (nI 1)) 73 = (nI n) from h73), (show (upd (upd w 66 (nI 0)) 66 (nI 1)) 74 = (nI m) from h74)⟩
  exact T_ret d_Mo_key_83 rfl (by first | decide | rfl) (by decide) (by decide) ⟨rfl, nb_, (Kp.ex (Kp.ex (Kp.rf : Kp [373] M M) s_4 (by decide)) s_10 (by decide))⟩
set_option maxHeartbeats 8000000 in
theorem p_Mo_key_ineg {G : GX} {M : List va_E} {sd : Int32} {ch n m th : Nat} {s : Nat} {y z : Int32} (hs : s < 4) (hz : z < 0) (hnb : NB M sd ch n m th) : CT G mi_Mo_key [.ref 373, .int (nI s), .int y, .int z] M (fun r M' => r = some (.int (nI 0)) ∧ NB M' sd ch n m 1 ∧ Kp [373] M M') := by
  obtain ⟨w, h, h66, h71, h72, h73, h74⟩ := hnb
  refine CT.of (by decide) (Nat.le_of_ble_eq_true rfl) ?_
  show TT G mi_Mo_key 0 [(0, .ref 373), (1, .int (nI s)), (2, .int y), (3, .int z)] [] M 0 0 _
  refine T_aload_n (v := .ref 373) d_Mo_key_0 rfl (Or.inr ⟨_, rfl⟩) ?_
  refine T_iconst (v := nI 0) d_Mo_key_1 (by decide) ?_
  obtain ⟨v_1, hov_1, hwv_1, hsv_1, hiv_1⟩ := id h
  refine N_put (e := (moO (upd v_1 66 (nI 0)))) d_Mo_key_2 (fp_Mo_316 _) hov_1 (Nat.le_of_ble_eq_true rfl) ⟨rfl, rfl⟩ rfl (fun M_2 h_3 s_4 => ?_)
  have p_5 := BG.st (j := 66) (by decide) hwv_1 hsv_1 hiv_1 h_3 (Ex.kp s_4)
  refine T_iload_n d_Mo_key_5 rfl ?_
  refine T_static (as := [.int (nI s)]) (rest := []) d_Mo_key_6 rfl (jw_Mo_isSession.jo (by decide)) lm_Mo_545 jt_Mo_isSession rfl (Nat.le_of_ble_eq_true rfl) (by decide) (by decide) (b_Mo_isS_in hs) (fun r M_6 hq => ?_)
  obtain ⟨rfl, he⟩ := hq
  obtain rfl := he.symm
  refine T_eq (pc' := 9) (L' := [(0, .ref 373), (1, .int (nI s)), (2, .int y), (3, .int z)]) (st' := [.int (nI 1)]) (M' := M_2) rfl rfl rfl rfl ?_
  refine N_if_eq_f (b := 1) d_Mo_key_9 (tgt := 35) rfl (by omega) (by omega) ?_
  refine T_iload_n d_Mo_key_12 rfl ?_
  refine T_if_lt d_Mo_key_13 (tgt := 35) rfl (fun _ => ?_) (fun c => absurd hz c)
  refine T_iconst (v := nI 0) d_Mo_key_35 (by decide) ?_
  refine T_istore (L' := [(4, .int (nI 0)), (0, .ref 373), (1, .int (nI s)), (2, .int y), (3, .int z)]) d_Mo_key_36 (by decide) rfl ?_
  refine T_iload d_Mo_key_38 rfl ?_
  refine N_if_eq_t (b := 0) d_Mo_key_40 (tgt := 59) rfl (by omega) (by omega) ?_
  refine T_iload d_Mo_key_59 rfl ?_
  refine N_if_eq_t (b := 0) d_Mo_key_61 (tgt := 72) rfl (by omega) (by omega) ?_
  refine T_iload d_Mo_key_72 rfl ?_
  refine N_if_ne_f (b := 0) d_Mo_key_74 (tgt := 84) rfl (by omega) (by omega) ?_
  refine T_aload_n (v := .ref 373) d_Mo_key_77 rfl (Or.inr ⟨_, rfl⟩) ?_
  refine T_iconst (v := nI 1) d_Mo_key_78 (by decide) ?_
  obtain ⟨v_7, hov_7, hwv_7, hsv_7, hiv_7⟩ := id p_5
  refine N_put (e := (moO (upd v_7 66 (nI 1)))) d_Mo_key_79 (fp_Mo_316 _) hov_7 (Nat.le_of_ble_eq_true rfl) ⟨rfl, rfl⟩ rfl (fun M_8 h_9 s_10 => ?_)
  have p_11 := BG.st (j := 66) (by decide) hwv_7 hsv_7 hiv_7 h_9 (Ex.kp s_10)
  refine T_iconst (v := nI 0) d_Mo_key_82 (by decide) ?_
  have nb_ : NB M_8 sd ch n m 1 := ⟨_, p_11, (show (upd (upd w 66 (nI 0)) 66 (nI 1)) 66 = (nI 1) from rfl), (show (upd (upd w 66 (nI 0)) 66 (nI 1)) 71 = sd from h71), (show (upd (upd w 66 (nI 0)) 66 (nI 1)) 72 = (nI ch) from h72), (show (upd (upd w 66 (nI 0)) 66 (nI 1)) 73 = (nI n) from h73), (show (upd (upd w 66 (nI 0)) 66 (nI 1)) 74 = (nI m) from h74)⟩
  exact T_ret d_Mo_key_83 rfl (by first | decide | rfl) (by decide) (by decide) ⟨rfl, nb_, (Kp.ex (Kp.ex (Kp.rf : Kp [373] M M) s_4 (by decide)) s_10 (by decide))⟩
set_option maxHeartbeats 8000000 in
theorem p_Mo_key_ibig {G : GX} {M : List va_E} {sd : Int32} {ch n m th : Nat} {s i : Nat} {y : Int32} (hs : s < 4) (hi : 64 ≤ i) (hi2 : i < 2147483648) (hnb : NB M sd ch n m th) : CT G mi_Mo_key [.ref 373, .int (nI s), .int y, .int (nI i)] M (fun r M' => r = some (.int (nI 0)) ∧ NB M' sd ch n m 1 ∧ Kp [373] M M') := by
  obtain ⟨w, h, h66, h71, h72, h73, h74⟩ := hnb
  refine CT.of (by decide) (Nat.le_of_ble_eq_true rfl) ?_
  show TT G mi_Mo_key 0 [(0, .ref 373), (1, .int (nI s)), (2, .int y), (3, .int (nI i))] [] M 0 0 _
  refine T_aload_n (v := .ref 373) d_Mo_key_0 rfl (Or.inr ⟨_, rfl⟩) ?_
  refine T_iconst (v := nI 0) d_Mo_key_1 (by decide) ?_
  obtain ⟨v_1, hov_1, hwv_1, hsv_1, hiv_1⟩ := id h
  refine N_put (e := (moO (upd v_1 66 (nI 0)))) d_Mo_key_2 (fp_Mo_316 _) hov_1 (Nat.le_of_ble_eq_true rfl) ⟨rfl, rfl⟩ rfl (fun M_2 h_3 s_4 => ?_)
  have p_5 := BG.st (j := 66) (by decide) hwv_1 hsv_1 hiv_1 h_3 (Ex.kp s_4)
  refine T_iload_n d_Mo_key_5 rfl ?_
  refine T_static (as := [.int (nI s)]) (rest := []) d_Mo_key_6 rfl (jw_Mo_isSession.jo (by decide)) lm_Mo_545 jt_Mo_isSession rfl (Nat.le_of_ble_eq_true rfl) (by decide) (by decide) (b_Mo_isS_in hs) (fun r M_6 hq => ?_)
  obtain ⟨rfl, he⟩ := hq
  obtain rfl := he.symm
  refine T_eq (pc' := 9) (L' := [(0, .ref 373), (1, .int (nI s)), (2, .int y), (3, .int (nI i))]) (st' := [.int (nI 1)]) (M' := M_2) rfl rfl rfl rfl ?_
  refine N_if_eq_f (b := 1) d_Mo_key_9 (tgt := 35) rfl (by omega) (by omega) ?_
  refine T_iload_n d_Mo_key_12 rfl ?_
  refine N_if_lt_f (b := i) d_Mo_key_13 (tgt := 35) rfl (by omega) (by omega) ?_
  refine T_iload_n d_Mo_key_16 rfl ?_
  refine T_bipush (v := nI 64) d_Mo_key_17 (by decide) ?_
  refine N_icmp_ge_t (a := 64) (b := i) d_Mo_key_19 (tgt := 35) rfl (by omega) (by omega) (by omega) ?_
  refine T_iconst (v := nI 0) d_Mo_key_35 (by decide) ?_
  refine T_istore (L' := [(4, .int (nI 0)), (0, .ref 373), (1, .int (nI s)), (2, .int y), (3, .int (nI i))]) d_Mo_key_36 (by decide) rfl ?_
  refine T_iload d_Mo_key_38 rfl ?_
  refine N_if_eq_t (b := 0) d_Mo_key_40 (tgt := 59) rfl (by omega) (by omega) ?_
  refine T_iload d_Mo_key_59 rfl ?_
  refine N_if_eq_t (b := 0) d_Mo_key_61 (tgt := 72) rfl (by omega) (by omega) ?_
  refine T_iload d_Mo_key_72 rfl ?_
  refine N_if_ne_f (b := 0) d_Mo_key_74 (tgt := 84) rfl (by omega) (by omega) ?_
  refine T_aload_n (v := .ref 373) d_Mo_key_77 rfl (Or.inr ⟨_, rfl⟩) ?_
  refine T_iconst (v := nI 1) d_Mo_key_78 (by decide) ?_
  obtain ⟨v_7, hov_7, hwv_7, hsv_7, hiv_7⟩ := id p_5
  refine N_put (e := (moO (upd v_7 66 (nI 1)))) d_Mo_key_79 (fp_Mo_316 _) hov_7 (Nat.le_of_ble_eq_true rfl) ⟨rfl, rfl⟩ rfl (fun M_8 h_9 s_10 => ?_)
  have p_11 := BG.st (j := 66) (by decide) hwv_7 hsv_7 hiv_7 h_9 (Ex.kp s_10)
  refine T_iconst (v := nI 0) d_Mo_key_82 (by decide) ?_
  have nb_ : NB M_8 sd ch n m 1 := ⟨_, p_11, (show (upd (upd w 66 (nI 0)) 66 (nI 1)) 66 = (nI 1) from rfl), (show (upd (upd w 66 (nI 0)) 66 (nI 1)) 71 = sd from h71), (show (upd (upd w 66 (nI 0)) 66 (nI 1)) 72 = (nI ch) from h72), (show (upd (upd w 66 (nI 0)) 66 (nI 1)) 73 = (nI n) from h73), (show (upd (upd w 66 (nI 0)) 66 (nI 1)) 74 = (nI m) from h74)⟩
  exact T_ret d_Mo_key_83 rfl (by first | decide | rfl) (by decide) (by decide) ⟨rfl, nb_, (Kp.ex (Kp.ex (Kp.rf : Kp [373] M M) s_4 (by decide)) s_10 (by decide))⟩
set_option maxHeartbeats 8000000 in
theorem p_Mo_key_dneg {G : GX} {M : List va_E} {sd : Int32} {ch n m th : Nat} {s i : Nat} {y : Int32} (hs : s < 4) (hi : i < 64) (hy : y < 0) (hnb : NB M sd ch n m th) : CT G mi_Mo_key [.ref 373, .int (nI s), .int y, .int (nI i)] M (fun r M' => r = some (.int (nI 0)) ∧ NB M' sd ch n m 1 ∧ Kp [373] M M') := by
  obtain ⟨w, h, h66, h71, h72, h73, h74⟩ := hnb
  refine CT.of (by decide) (Nat.le_of_ble_eq_true rfl) ?_
  show TT G mi_Mo_key 0 [(0, .ref 373), (1, .int (nI s)), (2, .int y), (3, .int (nI i))] [] M 0 0 _
  refine T_aload_n (v := .ref 373) d_Mo_key_0 rfl (Or.inr ⟨_, rfl⟩) ?_
  refine T_iconst (v := nI 0) d_Mo_key_1 (by decide) ?_
  obtain ⟨v_1, hov_1, hwv_1, hsv_1, hiv_1⟩ := id h
  refine N_put (e := (moO (upd v_1 66 (nI 0)))) d_Mo_key_2 (fp_Mo_316 _) hov_1 (Nat.le_of_ble_eq_true rfl) ⟨rfl, rfl⟩ rfl (fun M_2 h_3 s_4 => ?_)
  have p_5 := BG.st (j := 66) (by decide) hwv_1 hsv_1 hiv_1 h_3 (Ex.kp s_4)
  refine T_iload_n d_Mo_key_5 rfl ?_
  refine T_static (as := [.int (nI s)]) (rest := []) d_Mo_key_6 rfl (jw_Mo_isSession.jo (by decide)) lm_Mo_545 jt_Mo_isSession rfl (Nat.le_of_ble_eq_true rfl) (by decide) (by decide) (b_Mo_isS_in hs) (fun r M_6 hq => ?_)
  obtain ⟨rfl, he⟩ := hq
  obtain rfl := he.symm
  refine T_eq (pc' := 9) (L' := [(0, .ref 373), (1, .int (nI s)), (2, .int y), (3, .int (nI i))]) (st' := [.int (nI 1)]) (M' := M_2) rfl rfl rfl rfl ?_
  refine N_if_eq_f (b := 1) d_Mo_key_9 (tgt := 35) rfl (by omega) (by omega) ?_
  refine T_iload_n d_Mo_key_12 rfl ?_
  refine N_if_lt_f (b := i) d_Mo_key_13 (tgt := 35) rfl (by omega) (by omega) ?_
  refine T_iload_n d_Mo_key_16 rfl ?_
  refine T_bipush (v := nI 64) d_Mo_key_17 (by decide) ?_
  refine N_icmp_ge_f (a := 64) (b := i) d_Mo_key_19 (tgt := 35) rfl (by omega) (by omega) (by omega) ?_
  refine T_iload_n d_Mo_key_22 rfl ?_
  refine T_if_lt d_Mo_key_23 (tgt := 35) rfl (fun _ => ?_) (fun c => absurd hy c)
  refine T_iconst (v := nI 0) d_Mo_key_35 (by decide) ?_
  refine T_istore (L' := [(4, .int (nI 0)), (0, .ref 373), (1, .int (nI s)), (2, .int y), (3, .int (nI i))]) d_Mo_key_36 (by decide) rfl ?_
  refine T_iload d_Mo_key_38 rfl ?_
  refine N_if_eq_t (b := 0) d_Mo_key_40 (tgt := 59) rfl (by omega) (by omega) ?_
  refine T_iload d_Mo_key_59 rfl ?_
  refine N_if_eq_t (b := 0) d_Mo_key_61 (tgt := 72) rfl (by omega) (by omega) ?_
  refine T_iload d_Mo_key_72 rfl ?_
  refine N_if_ne_f (b := 0) d_Mo_key_74 (tgt := 84) rfl (by omega) (by omega) ?_
  refine T_aload_n (v := .ref 373) d_Mo_key_77 rfl (Or.inr ⟨_, rfl⟩) ?_
  refine T_iconst (v := nI 1) d_Mo_key_78 (by decide) ?_
  obtain ⟨v_7, hov_7, hwv_7, hsv_7, hiv_7⟩ := id p_5
  refine N_put (e := (moO (upd v_7 66 (nI 1)))) d_Mo_key_79 (fp_Mo_316 _) hov_7 (Nat.le_of_ble_eq_true rfl) ⟨rfl, rfl⟩ rfl (fun M_8 h_9 s_10 => ?_)
  have p_11 := BG.st (j := 66) (by decide) hwv_7 hsv_7 hiv_7 h_9 (Ex.kp s_10)
  refine T_iconst (v := nI 0) d_Mo_key_82 (by decide) ?_
  have nb_ : NB M_8 sd ch n m 1 := ⟨_, p_11, (show (upd (upd w 66 (nI 0)) 66 (nI 1)) 66 = (nI 1) from rfl), (show (upd (upd w 66 (nI 0)) 66 (nI 1)) 71 = sd from h71), (show (upd (upd w 66 (nI 0)) 66 (nI 1)) 72 = (nI ch) from h72), (show (upd (upd w 66 (nI 0)) 66 (nI 1)) 73 = (nI n) from h73), (show (upd (upd w 66 (nI 0)) 66 (nI 1)) 74 = (nI m) from h74)⟩
  exact T_ret d_Mo_key_83 rfl (by first | decide | rfl) (by decide) (by decide) ⟨rfl, nb_, (Kp.ex (Kp.ex (Kp.rf : Kp [373] M M) s_4 (by decide)) s_10 (by decide))⟩
set_option maxHeartbeats 8000000 in
theorem p_Mo_key_dbig {G : GX} {M : List va_E} {sd : Int32} {ch n m th : Nat} {s i : Nat} {y : Int32} (hs : s < 4) (hi : i < 64) (hy0 : ¬ y < 0) (hy : nI 3 ≤ y) (hnb : NB M sd ch n m th) : CT G mi_Mo_key [.ref 373, .int (nI s), .int y, .int (nI i)] M (fun r M' => r = some (.int (nI 0)) ∧ NB M' sd ch n m 1 ∧ Kp [373] M M') := by
  obtain ⟨w, h, h66, h71, h72, h73, h74⟩ := hnb
  refine CT.of (by decide) (Nat.le_of_ble_eq_true rfl) ?_
  show TT G mi_Mo_key 0 [(0, .ref 373), (1, .int (nI s)), (2, .int y), (3, .int (nI i))] [] M 0 0 _
  refine T_aload_n (v := .ref 373) d_Mo_key_0 rfl (Or.inr ⟨_, rfl⟩) ?_
  refine T_iconst (v := nI 0) d_Mo_key_1 (by decide) ?_
  obtain ⟨v_1, hov_1, hwv_1, hsv_1, hiv_1⟩ := id h
  refine N_put (e := (moO (upd v_1 66 (nI 0)))) d_Mo_key_2 (fp_Mo_316 _) hov_1 (Nat.le_of_ble_eq_true rfl) ⟨rfl, rfl⟩ rfl (fun M_2 h_3 s_4 => ?_)
  have p_5 := BG.st (j := 66) (by decide) hwv_1 hsv_1 hiv_1 h_3 (Ex.kp s_4)
  refine T_iload_n d_Mo_key_5 rfl ?_
  refine T_static (as := [.int (nI s)]) (rest := []) d_Mo_key_6 rfl (jw_Mo_isSession.jo (by decide)) lm_Mo_545 jt_Mo_isSession rfl (Nat.le_of_ble_eq_true rfl) (by decide) (by decide) (b_Mo_isS_in hs) (fun r M_6 hq => ?_)
  obtain ⟨rfl, he⟩ := hq
  obtain rfl := he.symm
  refine T_eq (pc' := 9) (L' := [(0, .ref 373), (1, .int (nI s)), (2, .int y), (3, .int (nI i))]) (st' := [.int (nI 1)]) (M' := M_2) rfl rfl rfl rfl ?_
  refine N_if_eq_f (b := 1) d_Mo_key_9 (tgt := 35) rfl (by omega) (by omega) ?_
  refine T_iload_n d_Mo_key_12 rfl ?_
  refine N_if_lt_f (b := i) d_Mo_key_13 (tgt := 35) rfl (by omega) (by omega) ?_
  refine T_iload_n d_Mo_key_16 rfl ?_
  refine T_bipush (v := nI 64) d_Mo_key_17 (by decide) ?_
  refine N_icmp_ge_f (a := 64) (b := i) d_Mo_key_19 (tgt := 35) rfl (by omega) (by omega) (by omega) ?_
  refine T_iload_n d_Mo_key_22 rfl ?_
  refine T_if_lt d_Mo_key_23 (tgt := 35) rfl (fun c => absurd c hy0) (fun _ => ?_)
  refine T_iload_n d_Mo_key_26 rfl ?_
  refine T_iconst (v := nI 3) d_Mo_key_27 (by decide) ?_
  refine T_icmp_ge d_Mo_key_28 (tgt := 35) rfl (fun _ => ?_) (fun c => absurd hy c)
  refine T_iconst (v := nI 0) d_Mo_key_35 (by decide) ?_
  refine T_istore (L' := [(4, .int (nI 0)), (0, .ref 373), (1, .int (nI s)), (2, .int y), (3, .int (nI i))]) d_Mo_key_36 (by decide) rfl ?_
  refine T_iload d_Mo_key_38 rfl ?_
  refine N_if_eq_t (b := 0) d_Mo_key_40 (tgt := 59) rfl (by omega) (by omega) ?_
  refine T_iload d_Mo_key_59 rfl ?_
  refine N_if_eq_t (b := 0) d_Mo_key_61 (tgt := 72) rfl (by omega) (by omega) ?_
  refine T_iload d_Mo_key_72 rfl ?_
  refine N_if_ne_f (b := 0) d_Mo_key_74 (tgt := 84) rfl (by omega) (by omega) ?_
  refine T_aload_n (v := .ref 373) d_Mo_key_77 rfl (Or.inr ⟨_, rfl⟩) ?_
  refine T_iconst (v := nI 1) d_Mo_key_78 (by decide) ?_
  obtain ⟨v_7, hov_7, hwv_7, hsv_7, hiv_7⟩ := id p_5
  refine N_put (e := (moO (upd v_7 66 (nI 1)))) d_Mo_key_79 (fp_Mo_316 _) hov_7 (Nat.le_of_ble_eq_true rfl) ⟨rfl, rfl⟩ rfl (fun M_8 h_9 s_10 => ?_)
  have p_11 := BG.st (j := 66) (by decide) hwv_7 hsv_7 hiv_7 h_9 (Ex.kp s_10)
  refine T_iconst (v := nI 0) d_Mo_key_82 (by decide) ?_
  have nb_ : NB M_8 sd ch n m 1 := ⟨_, p_11, (show (upd (upd w 66 (nI 0)) 66 (nI 1)) 66 = (nI 1) from rfl), (show (upd (upd w 66 (nI 0)) 66 (nI 1)) 71 = sd from h71), (show (upd (upd w 66 (nI 0)) 66 (nI 1)) 72 = (nI ch) from h72), (show (upd (upd w 66 (nI 0)) 66 (nI 1)) 73 = (nI n) from h73), (show (upd (upd w 66 (nI 0)) 66 (nI 1)) 74 = (nI m) from h74)⟩
  exact T_ret d_Mo_key_83 rfl (by first | decide | rfl) (by decide) (by decide) ⟨rfl, nb_, (Kp.ex (Kp.ex (Kp.rf : Kp [373] M M) s_4 (by decide)) s_10 (by decide))⟩
set_option maxHeartbeats 8000000 in
theorem p_Mo_key_0_off {G : GX} {M : List va_E} {sd : Int32} {ch n m th : Nat} {s i : Nat} {t : Nat → Bool} (hs : s < 4) (hi : i < 64) (ht : t s = false) (hnb : NB M sd ch n m th) (hz1 : ZR M 430 4 t) : CT G mi_Mo_key [.ref 373, .int (nI s), .int (nI 0), .int (nI i)] M (fun r M' => r = some (.int (nI 0)) ∧ NB M' sd ch n m 1 ∧ Kp [373] M M') := by
  obtain ⟨w, h, h66, h71, h72, h73, h74⟩ := hnb
  refine CT.of (by decide) (Nat.le_of_ble_eq_true rfl) ?_
  show TT G mi_Mo_key 0 [(0, .ref 373), (1, .int (nI s)), (2, .int (nI 0)), (3, .int (nI i))] [] M 0 0 _
  have bB : bN (t s) = 0 := by rw [ht]; rfl
  refine T_aload_n (v := .ref 373) d_Mo_key_0 rfl (Or.inr ⟨_, rfl⟩) ?_
  refine T_iconst (v := nI 0) d_Mo_key_1 (by decide) ?_
  obtain ⟨v_1, hov_1, hwv_1, hsv_1, hiv_1⟩ := id h
  refine N_put (e := (moO (upd v_1 66 (nI 0)))) d_Mo_key_2 (fp_Mo_316 _) hov_1 (Nat.le_of_ble_eq_true rfl) ⟨rfl, rfl⟩ rfl (fun M_2 h_3 s_4 => ?_)
  have p_5 := BG.st (j := 66) (by decide) hwv_1 hsv_1 hiv_1 h_3 (Ex.kp s_4)
  refine T_iload_n d_Mo_key_5 rfl ?_
  refine T_static (as := [.int (nI s)]) (rest := []) d_Mo_key_6 rfl (jw_Mo_isSession.jo (by decide)) lm_Mo_545 jt_Mo_isSession rfl (Nat.le_of_ble_eq_true rfl) (by decide) (by decide) (b_Mo_isS_in hs) (fun r M_6 hq => ?_)
  obtain ⟨rfl, he⟩ := hq
  obtain rfl := he.symm
  refine T_eq (pc' := 9) (L' := [(0, .ref 373), (1, .int (nI s)), (2, .int (nI 0)), (3, .int (nI i))]) (st' := [.int (nI 1)]) (M' := M_2) rfl rfl rfl rfl ?_
  refine N_if_eq_f (b := 1) d_Mo_key_9 (tgt := 35) rfl (by omega) (by omega) ?_
  refine T_iload_n d_Mo_key_12 rfl ?_
  refine N_if_lt_f (b := i) d_Mo_key_13 (tgt := 35) rfl (by omega) (by omega) ?_
  refine T_iload_n d_Mo_key_16 rfl ?_
  refine T_bipush (v := nI 64) d_Mo_key_17 (by decide) ?_
  refine N_icmp_ge_f (a := 64) (b := i) d_Mo_key_19 (tgt := 35) rfl (by omega) (by omega) (by omega) ?_
  refine T_iload_n d_Mo_key_22 rfl ?_
  refine N_if_lt_f (b := 0) d_Mo_key_23 (tgt := 35) rfl (by omega) (by omega) ?_
  refine T_iload_n d_Mo_key_26 rfl ?_
  refine T_iconst (v := nI 3) d_Mo_key_27 (by decide) ?_
  refine N_icmp_ge_f (a := 3) (b := 0) d_Mo_key_28 (tgt := 35) rfl (by omega) (by omega) (by omega) ?_
  refine T_iconst (v := nI 1) d_Mo_key_31 (by decide) ?_
  refine T_goto (tgt := 36) d_Mo_key_32 rfl ?_
  refine T_istore (L' := [(4, .int (nI 1)), (0, .ref 373), (1, .int (nI s)), (2, .int (nI 0)), (3, .int (nI i))]) d_Mo_key_36 (by decide) rfl ?_
  refine T_iload d_Mo_key_38 rfl ?_
  refine N_if_eq_f (b := 1) d_Mo_key_40 (tgt := 59) rfl (by omega) (by omega) ?_
  refine T_iload_n d_Mo_key_43 rfl ?_
  refine T_iconst (v := nI 1) d_Mo_key_44 (by decide) ?_
  refine N_icmp_ne_t (a := 1) (b := 0) d_Mo_key_45 (tgt := 59) rfl (by omega) (by omega) (by omega) ?_
  refine T_iload d_Mo_key_59 rfl ?_
  refine N_if_eq_f (b := 1) d_Mo_key_61 (tgt := 72) rfl (by omega) (by omega) ?_
  refine T_aload_n (v := .ref 373) d_Mo_key_64 rfl (Or.inr ⟨_, rfl⟩) ?_
  obtain ⟨v_7, hov_7, hwv_7, hsv_7, hiv_7⟩ := id p_5
  refine T_getfield (v := .ref 430) d_Mo_key_65 fg_Mo_410 hov_7 rfl ?_
  refine T_iload_n d_Mo_key_68 rfl ?_
  have p_8 := (ZR.kp (hz1) (Ex.kp s_4) (by decide))
  obtain ⟨f_9, h_10, h_11⟩ := id p_8
  refine N_zaload (k := s) (x := (nI ((bN (t s))))) d_Mo_key_69 h_10 (by omega) (by decide) (h_11 s (by omega)) ?_
  refine T_istore (L' := [(4, .int (nI ((bN (t s))))), (0, .ref 373), (1, .int (nI s)), (2, .int (nI 0)), (3, .int (nI i))]) d_Mo_key_70 (by decide) rfl ?_
  refine T_iload d_Mo_key_72 rfl ?_
  refine N_if_ne_f (b := (bN (t s))) d_Mo_key_74 (tgt := 84) rfl (by omega) (by omega) ?_
  refine T_aload_n (v := .ref 373) d_Mo_key_77 rfl (Or.inr ⟨_, rfl⟩) ?_
  refine T_iconst (v := nI 1) d_Mo_key_78 (by decide) ?_
  refine N_put (e := (moO (upd v_7 66 (nI 1)))) d_Mo_key_79 (fp_Mo_316 _) hov_7 (Nat.le_of_ble_eq_true rfl) ⟨rfl, rfl⟩ rfl (fun M_12 h_13 s_14 => ?_)
  have p_15 := BG.st (j := 66) (by decide) hwv_7 hsv_7 hiv_7 h_13 (Ex.kp s_14)
  refine T_iconst (v := nI 0) d_Mo_key_82 (by decide) ?_
  have nb_ : NB M_12 sd ch n m 1 := ⟨_, p_15, (show (upd (upd w 66 (nI 0)) 66 (nI 1)) 66 = (nI 1) from rfl), (show (upd (upd w 66 (nI 0)) 66 (nI 1)) 71 = sd from h71), (show (upd (upd w 66 (nI 0)) 66 (nI 1)) 72 = (nI ch) from h72), (show (upd (upd w 66 (nI 0)) 66 (nI 1)) 73 = (nI n) from h73), (show (upd (upd w 66 (nI 0)) 66 (nI 1)) 74 = (nI m) from h74)⟩
  exact T_ret d_Mo_key_83 rfl (by first | decide | rfl) (by decide) (by decide) ⟨rfl, nb_, (Kp.ex (Kp.ex (Kp.rf : Kp [373] M M) s_4 (by decide)) s_14 (by decide))⟩
set_option maxHeartbeats 8000000 in
theorem p_Mo_key_0_in {G : GX} {M : List va_E} {sd : Int32} {ch n m th : Nat} {X : Nat → List UInt8} {s i : Nat} {t : Nat → Bool} (hs : s < 4) (hi : i < 64) (ht : t s = true) (hnb : NB M sd ch n m th) (hz1 : ZR M 430 4 t) (hr : SL M 437 256 64 4 X) (hl : (X s).length = 64) : CT G mi_Mo_key [.ref 373, .int (nI s), .int (nI 0), .int (nI i)] M (fun r M' => r = some (.int (nI (gd (X s) i).toNat)) ∧ NB M' sd ch n m 0 ∧ Kp [373] M M') := by
  obtain ⟨w, h, h66, h71, h72, h73, h74⟩ := hnb
  refine CT.of (by decide) (Nat.le_of_ble_eq_true rfl) ?_
  show TT G mi_Mo_key 0 [(0, .ref 373), (1, .int (nI s)), (2, .int (nI 0)), (3, .int (nI i))] [] M 0 0 _
  have bB : bN (t s) = 1 := by rw [ht]; rfl
  obtain ⟨L1, hL1, eL1, sg1⟩ := SL.rd hr hs
  have lL := eL1
  refine T_aload_n (v := .ref 373) d_Mo_key_0 rfl (Or.inr ⟨_, rfl⟩) ?_
  refine T_iconst (v := nI 0) d_Mo_key_1 (by decide) ?_
  obtain ⟨v_2, hov_2, hwv_2, hsv_2, hiv_2⟩ := id h
  refine N_put (e := (moO (upd v_2 66 (nI 0)))) d_Mo_key_2 (fp_Mo_316 _) hov_2 (Nat.le_of_ble_eq_true rfl) ⟨rfl, rfl⟩ rfl (fun M_3 h_4 s_5 => ?_)
  have p_6 := BG.st (j := 66) (by decide) hwv_2 hsv_2 hiv_2 h_4 (Ex.kp s_5)
  refine T_iload_n d_Mo_key_5 rfl ?_
  refine T_static (as := [.int (nI s)]) (rest := []) d_Mo_key_6 rfl (jw_Mo_isSession.jo (by decide)) lm_Mo_545 jt_Mo_isSession rfl (Nat.le_of_ble_eq_true rfl) (by decide) (by decide) (b_Mo_isS_in hs) (fun r M_7 hq => ?_)
  obtain ⟨rfl, he⟩ := hq
  obtain rfl := he.symm
  refine T_eq (pc' := 9) (L' := [(0, .ref 373), (1, .int (nI s)), (2, .int (nI 0)), (3, .int (nI i))]) (st' := [.int (nI 1)]) (M' := M_3) rfl rfl rfl rfl ?_
  refine N_if_eq_f (b := 1) d_Mo_key_9 (tgt := 35) rfl (by omega) (by omega) ?_
  refine T_iload_n d_Mo_key_12 rfl ?_
  refine N_if_lt_f (b := i) d_Mo_key_13 (tgt := 35) rfl (by omega) (by omega) ?_
  refine T_iload_n d_Mo_key_16 rfl ?_
  refine T_bipush (v := nI 64) d_Mo_key_17 (by decide) ?_
  refine N_icmp_ge_f (a := 64) (b := i) d_Mo_key_19 (tgt := 35) rfl (by omega) (by omega) (by omega) ?_
  refine T_iload_n d_Mo_key_22 rfl ?_
  refine N_if_lt_f (b := 0) d_Mo_key_23 (tgt := 35) rfl (by omega) (by omega) ?_
  refine T_iload_n d_Mo_key_26 rfl ?_
  refine T_iconst (v := nI 3) d_Mo_key_27 (by decide) ?_
  refine N_icmp_ge_f (a := 3) (b := 0) d_Mo_key_28 (tgt := 35) rfl (by omega) (by omega) (by omega) ?_
  refine T_iconst (v := nI 1) d_Mo_key_31 (by decide) ?_
  refine T_goto (tgt := 36) d_Mo_key_32 rfl ?_
  refine T_istore (L' := [(4, .int (nI 1)), (0, .ref 373), (1, .int (nI s)), (2, .int (nI 0)), (3, .int (nI i))]) d_Mo_key_36 (by decide) rfl ?_
  refine T_iload d_Mo_key_38 rfl ?_
  refine N_if_eq_f (b := 1) d_Mo_key_40 (tgt := 59) rfl (by omega) (by omega) ?_
  refine T_iload_n d_Mo_key_43 rfl ?_
  refine T_iconst (v := nI 1) d_Mo_key_44 (by decide) ?_
  refine N_icmp_ne_t (a := 1) (b := 0) d_Mo_key_45 (tgt := 59) rfl (by omega) (by omega) (by omega) ?_
  refine T_iload d_Mo_key_59 rfl ?_
  refine N_if_eq_f (b := 1) d_Mo_key_61 (tgt := 72) rfl (by omega) (by omega) ?_
  refine T_aload_n (v := .ref 373) d_Mo_key_64 rfl (Or.inr ⟨_, rfl⟩) ?_
  obtain ⟨v_8, hov_8, hwv_8, hsv_8, hiv_8⟩ := id p_6
  refine T_getfield (v := .ref 430) d_Mo_key_65 fg_Mo_410 hov_8 rfl ?_
  refine T_iload_n d_Mo_key_68 rfl ?_
  have p_9 := (ZR.kp (hz1) (Ex.kp s_5) (by decide))
  obtain ⟨f_10, h_11, h_12⟩ := id p_9
  refine N_zaload (k := s) (x := (nI ((bN (t s))))) d_Mo_key_69 h_11 (by omega) (by decide) (h_12 s (by omega)) ?_
  refine T_istore (L' := [(4, .int (nI ((bN (t s))))), (0, .ref 373), (1, .int (nI s)), (2, .int (nI 0)), (3, .int (nI i))]) d_Mo_key_70 (by decide) rfl ?_
  refine T_iload d_Mo_key_72 rfl ?_
  refine N_if_ne_t (b := (bN (t s))) d_Mo_key_74 (tgt := 84) rfl (by omega) (by omega) ?_
  refine T_iload_n d_Mo_key_84 rfl ?_
  refine N_if_ne_f (b := 0) d_Mo_key_85 (tgt := 100) rfl (by omega) (by omega) ?_
  refine T_aload_n (v := .ref 373) d_Mo_key_88 rfl (Or.inr ⟨_, rfl⟩) ?_
  refine T_getfield (v := .ref 437) d_Mo_key_89 fg_Mo_431 hov_8 rfl ?_
  refine T_bipush (v := nI 64) d_Mo_key_92 (by decide) ?_
  refine T_iload_n d_Mo_key_94 rfl ?_
  refine N_imul (a := s) (b := 64) (c := (64 * s)) d_Mo_key_95 rfl ?_
  refine T_iload_n d_Mo_key_96 rfl ?_
  refine N_iadd (a := i) (b := (64 * s)) (c := ((64 * s) + i)) d_Mo_key_97 rfl ?_
  have p_13 := (IA.kp (hL1) (Ex.kp s_5) (by decide))
  obtain ⟨f_14, hf_15, hl_16, hv_17⟩ := id p_13
  refine N_iaload (k := ((64 * s) + i)) (x := (bR (gd L1 ((64 * s) + i)))) d_Mo_key_98 hf_15 (by omega) (by decide) (hv_17 ((64 * s) + i) (by first | omega | (simp only [List.length_append, List.length_cons, List.length_nil, List.length_replicate, sl_len, be_len, sha_len, hmac_len, ex1_len, ex2_len, stretch_len, zer8_len, tC_len, tag1_len, bnN_len, xkp_len, enc_len, chance_len, lbF_len, str2_len, pub_len', sec8_len]; omega))) ?_
  have rv : gd L1 (64 * s + i) = gd (X s) i := sg1 i (by omega)
  have nb_ : NB M_3 sd ch n m 0 := ⟨_, p_6, (show (upd w 66 (nI 0)) 66 = (nI 0) from rfl), (show (upd w 66 (nI 0)) 71 = sd from h71), (show (upd w 66 (nI 0)) 72 = (nI ch) from h72), (show (upd w 66 (nI 0)) 73 = (nI n) from h73), (show (upd w 66 (nI 0)) 74 = (nI m) from h74)⟩
  exact T_ret d_Mo_key_99 rfl (by first | decide | rfl) (by decide) (by decide) ⟨by rw [rv]; rfl, nb_, (Kp.ex (Kp.rf : Kp [373] M M) s_5 (by decide))⟩
set_option maxHeartbeats 8000000 in
theorem p_Mo_key_1_off {G : GX} {M : List va_E} {sd : Int32} {ch n m th : Nat} {s i : Nat} {t : Nat → Bool} (hs : s < 4) (hi : i < 64) (ht : t s = false) (hnb : NB M sd ch n m th) (hz1 : ZR M 431 4 t) : CT G mi_Mo_key [.ref 373, .int (nI s), .int (nI 1), .int (nI i)] M (fun r M' => r = some (.int (nI 0)) ∧ NB M' sd ch n m 1 ∧ Kp [373] M M') := by
  obtain ⟨w, h, h66, h71, h72, h73, h74⟩ := hnb
  refine CT.of (by decide) (Nat.le_of_ble_eq_true rfl) ?_
  show TT G mi_Mo_key 0 [(0, .ref 373), (1, .int (nI s)), (2, .int (nI 1)), (3, .int (nI i))] [] M 0 0 _
  have bB : bN (t s) = 0 := by rw [ht]; rfl
  refine T_aload_n (v := .ref 373) d_Mo_key_0 rfl (Or.inr ⟨_, rfl⟩) ?_
  refine T_iconst (v := nI 0) d_Mo_key_1 (by decide) ?_
  obtain ⟨v_1, hov_1, hwv_1, hsv_1, hiv_1⟩ := id h
  refine N_put (e := (moO (upd v_1 66 (nI 0)))) d_Mo_key_2 (fp_Mo_316 _) hov_1 (Nat.le_of_ble_eq_true rfl) ⟨rfl, rfl⟩ rfl (fun M_2 h_3 s_4 => ?_)
  have p_5 := BG.st (j := 66) (by decide) hwv_1 hsv_1 hiv_1 h_3 (Ex.kp s_4)
  refine T_iload_n d_Mo_key_5 rfl ?_
  refine T_static (as := [.int (nI s)]) (rest := []) d_Mo_key_6 rfl (jw_Mo_isSession.jo (by decide)) lm_Mo_545 jt_Mo_isSession rfl (Nat.le_of_ble_eq_true rfl) (by decide) (by decide) (b_Mo_isS_in hs) (fun r M_6 hq => ?_)
  obtain ⟨rfl, he⟩ := hq
  obtain rfl := he.symm
  refine T_eq (pc' := 9) (L' := [(0, .ref 373), (1, .int (nI s)), (2, .int (nI 1)), (3, .int (nI i))]) (st' := [.int (nI 1)]) (M' := M_2) rfl rfl rfl rfl ?_
  refine N_if_eq_f (b := 1) d_Mo_key_9 (tgt := 35) rfl (by omega) (by omega) ?_
  refine T_iload_n d_Mo_key_12 rfl ?_
  refine N_if_lt_f (b := i) d_Mo_key_13 (tgt := 35) rfl (by omega) (by omega) ?_
  refine T_iload_n d_Mo_key_16 rfl ?_
  refine T_bipush (v := nI 64) d_Mo_key_17 (by decide) ?_
  refine N_icmp_ge_f (a := 64) (b := i) d_Mo_key_19 (tgt := 35) rfl (by omega) (by omega) (by omega) ?_
  refine T_iload_n d_Mo_key_22 rfl ?_
  refine N_if_lt_f (b := 1) d_Mo_key_23 (tgt := 35) rfl (by omega) (by omega) ?_
  refine T_iload_n d_Mo_key_26 rfl ?_
  refine T_iconst (v := nI 3) d_Mo_key_27 (by decide) ?_
  refine N_icmp_ge_f (a := 3) (b := 1) d_Mo_key_28 (tgt := 35) rfl (by omega) (by omega) (by omega) ?_
  refine T_iconst (v := nI 1) d_Mo_key_31 (by decide) ?_
  refine T_goto (tgt := 36) d_Mo_key_32 rfl ?_
  refine T_istore (L' := [(4, .int (nI 1)), (0, .ref 373), (1, .int (nI s)), (2, .int (nI 1)), (3, .int (nI i))]) d_Mo_key_36 (by decide) rfl ?_
  refine T_iload d_Mo_key_38 rfl ?_
  refine N_if_eq_f (b := 1) d_Mo_key_40 (tgt := 59) rfl (by omega) (by omega) ?_
  refine T_iload_n d_Mo_key_43 rfl ?_
  refine T_iconst (v := nI 1) d_Mo_key_44 (by decide) ?_
  refine N_icmp_ne_f (a := 1) (b := 1) d_Mo_key_45 (tgt := 59) rfl (by omega) (by omega) (by omega) ?_
  refine T_aload_n (v := .ref 373) d_Mo_key_48 rfl (Or.inr ⟨_, rfl⟩) ?_
  obtain ⟨v_7, hov_7, hwv_7, hsv_7, hiv_7⟩ := id p_5
  refine T_getfield (v := .ref 431) d_Mo_key_49 fg_Mo_413 hov_7 rfl ?_
  refine T_iload_n d_Mo_key_52 rfl ?_
  have p_8 := (ZR.kp (hz1) (Ex.kp s_4) (by decide))
  obtain ⟨f_9, h_10, h_11⟩ := id p_8
  refine N_zaload (k := s) (x := (nI ((bN (t s))))) d_Mo_key_53 h_10 (by omega) (by decide) (h_11 s (by omega)) ?_
  refine T_istore (L' := [(4, .int (nI ((bN (t s))))), (0, .ref 373), (1, .int (nI s)), (2, .int (nI 1)), (3, .int (nI i))]) d_Mo_key_54 (by decide) rfl ?_
  refine T_goto (tgt := 72) d_Mo_key_56 rfl ?_
  refine T_iload d_Mo_key_72 rfl ?_
  refine N_if_ne_f (b := (bN (t s))) d_Mo_key_74 (tgt := 84) rfl (by omega) (by omega) ?_
  refine T_aload_n (v := .ref 373) d_Mo_key_77 rfl (Or.inr ⟨_, rfl⟩) ?_
  refine T_iconst (v := nI 1) d_Mo_key_78 (by decide) ?_
  refine N_put (e := (moO (upd v_7 66 (nI 1)))) d_Mo_key_79 (fp_Mo_316 _) hov_7 (Nat.le_of_ble_eq_true rfl) ⟨rfl, rfl⟩ rfl (fun M_12 h_13 s_14 => ?_)
  have p_15 := BG.st (j := 66) (by decide) hwv_7 hsv_7 hiv_7 h_13 (Ex.kp s_14)
  refine T_iconst (v := nI 0) d_Mo_key_82 (by decide) ?_
  have nb_ : NB M_12 sd ch n m 1 := ⟨_, p_15, (show (upd (upd w 66 (nI 0)) 66 (nI 1)) 66 = (nI 1) from rfl), (show (upd (upd w 66 (nI 0)) 66 (nI 1)) 71 = sd from h71), (show (upd (upd w 66 (nI 0)) 66 (nI 1)) 72 = (nI ch) from h72), (show (upd (upd w 66 (nI 0)) 66 (nI 1)) 73 = (nI n) from h73), (show (upd (upd w 66 (nI 0)) 66 (nI 1)) 74 = (nI m) from h74)⟩
  exact T_ret d_Mo_key_83 rfl (by first | decide | rfl) (by decide) (by decide) ⟨rfl, nb_, (Kp.ex (Kp.ex (Kp.rf : Kp [373] M M) s_4 (by decide)) s_14 (by decide))⟩
set_option maxHeartbeats 8000000 in
theorem p_Mo_key_1_in {G : GX} {M : List va_E} {sd : Int32} {ch n m th : Nat} {X : Nat → List UInt8} {s i : Nat} {t : Nat → Bool} (hs : s < 4) (hi : i < 64) (ht : t s = true) (hnb : NB M sd ch n m th) (hz1 : ZR M 431 4 t) (hr : SL M 438 256 64 4 X) (hl : (X s).length = 64) : CT G mi_Mo_key [.ref 373, .int (nI s), .int (nI 1), .int (nI i)] M (fun r M' => r = some (.int (nI (gd (X s) i).toNat)) ∧ NB M' sd ch n m 0 ∧ Kp [373] M M') := by
  obtain ⟨w, h, h66, h71, h72, h73, h74⟩ := hnb
  refine CT.of (by decide) (Nat.le_of_ble_eq_true rfl) ?_
  show TT G mi_Mo_key 0 [(0, .ref 373), (1, .int (nI s)), (2, .int (nI 1)), (3, .int (nI i))] [] M 0 0 _
  have bB : bN (t s) = 1 := by rw [ht]; rfl
  obtain ⟨L1, hL1, eL1, sg1⟩ := SL.rd hr hs
  have lL := eL1
  refine T_aload_n (v := .ref 373) d_Mo_key_0 rfl (Or.inr ⟨_, rfl⟩) ?_
  refine T_iconst (v := nI 0) d_Mo_key_1 (by decide) ?_
  obtain ⟨v_2, hov_2, hwv_2, hsv_2, hiv_2⟩ := id h
  refine N_put (e := (moO (upd v_2 66 (nI 0)))) d_Mo_key_2 (fp_Mo_316 _) hov_2 (Nat.le_of_ble_eq_true rfl) ⟨rfl, rfl⟩ rfl (fun M_3 h_4 s_5 => ?_)
  have p_6 := BG.st (j := 66) (by decide) hwv_2 hsv_2 hiv_2 h_4 (Ex.kp s_5)
  refine T_iload_n d_Mo_key_5 rfl ?_
  refine T_static (as := [.int (nI s)]) (rest := []) d_Mo_key_6 rfl (jw_Mo_isSession.jo (by decide)) lm_Mo_545 jt_Mo_isSession rfl (Nat.le_of_ble_eq_true rfl) (by decide) (by decide) (b_Mo_isS_in hs) (fun r M_7 hq => ?_)
  obtain ⟨rfl, he⟩ := hq
  obtain rfl := he.symm
  refine T_eq (pc' := 9) (L' := [(0, .ref 373), (1, .int (nI s)), (2, .int (nI 1)), (3, .int (nI i))]) (st' := [.int (nI 1)]) (M' := M_3) rfl rfl rfl rfl ?_
  refine N_if_eq_f (b := 1) d_Mo_key_9 (tgt := 35) rfl (by omega) (by omega) ?_
  refine T_iload_n d_Mo_key_12 rfl ?_
  refine N_if_lt_f (b := i) d_Mo_key_13 (tgt := 35) rfl (by omega) (by omega) ?_
  refine T_iload_n d_Mo_key_16 rfl ?_
  refine T_bipush (v := nI 64) d_Mo_key_17 (by decide) ?_
  refine N_icmp_ge_f (a := 64) (b := i) d_Mo_key_19 (tgt := 35) rfl (by omega) (by omega) (by omega) ?_
  refine T_iload_n d_Mo_key_22 rfl ?_
  refine N_if_lt_f (b := 1) d_Mo_key_23 (tgt := 35) rfl (by omega) (by omega) ?_
  refine T_iload_n d_Mo_key_26 rfl ?_
  refine T_iconst (v := nI 3) d_Mo_key_27 (by decide) ?_
  refine N_icmp_ge_f (a := 3) (b := 1) d_Mo_key_28 (tgt := 35) rfl (by omega) (by omega) (by omega) ?_
  refine T_iconst (v := nI 1) d_Mo_key_31 (by decide) ?_
  refine T_goto (tgt := 36) d_Mo_key_32 rfl ?_
  refine T_istore (L' := [(4, .int (nI 1)), (0, .ref 373), (1, .int (nI s)), (2, .int (nI 1)), (3, .int (nI i))]) d_Mo_key_36 (by decide) rfl ?_
  refine T_iload d_Mo_key_38 rfl ?_
  refine N_if_eq_f (b := 1) d_Mo_key_40 (tgt := 59) rfl (by omega) (by omega) ?_
  refine T_iload_n d_Mo_key_43 rfl ?_
  refine T_iconst (v := nI 1) d_Mo_key_44 (by decide) ?_
  refine N_icmp_ne_f (a := 1) (b := 1) d_Mo_key_45 (tgt := 59) rfl (by omega) (by omega) (by omega) ?_
  refine T_aload_n (v := .ref 373) d_Mo_key_48 rfl (Or.inr ⟨_, rfl⟩) ?_
  obtain ⟨v_8, hov_8, hwv_8, hsv_8, hiv_8⟩ := id p_6
  refine T_getfield (v := .ref 431) d_Mo_key_49 fg_Mo_413 hov_8 rfl ?_
  refine T_iload_n d_Mo_key_52 rfl ?_
  have p_9 := (ZR.kp (hz1) (Ex.kp s_5) (by decide))
  obtain ⟨f_10, h_11, h_12⟩ := id p_9
  refine N_zaload (k := s) (x := (nI ((bN (t s))))) d_Mo_key_53 h_11 (by omega) (by decide) (h_12 s (by omega)) ?_
  refine T_istore (L' := [(4, .int (nI ((bN (t s))))), (0, .ref 373), (1, .int (nI s)), (2, .int (nI 1)), (3, .int (nI i))]) d_Mo_key_54 (by decide) rfl ?_
  refine T_goto (tgt := 72) d_Mo_key_56 rfl ?_
  refine T_iload d_Mo_key_72 rfl ?_
  refine N_if_ne_t (b := (bN (t s))) d_Mo_key_74 (tgt := 84) rfl (by omega) (by omega) ?_
  refine T_iload_n d_Mo_key_84 rfl ?_
  refine N_if_ne_t (b := 1) d_Mo_key_85 (tgt := 100) rfl (by omega) (by omega) ?_
  refine T_iload_n d_Mo_key_100 rfl ?_
  refine T_iconst (v := nI 1) d_Mo_key_101 (by decide) ?_
  refine N_icmp_ne_f (a := 1) (b := 1) d_Mo_key_102 (tgt := 117) rfl (by omega) (by omega) (by omega) ?_
  refine T_aload_n (v := .ref 373) d_Mo_key_105 rfl (Or.inr ⟨_, rfl⟩) ?_
  refine T_getfield (v := .ref 438) d_Mo_key_106 fg_Mo_434 hov_8 rfl ?_
  refine T_bipush (v := nI 64) d_Mo_key_109 (by decide) ?_
  refine T_iload_n d_Mo_key_111 rfl ?_
  refine N_imul (a := s) (b := 64) (c := (64 * s)) d_Mo_key_112 rfl ?_
  refine T_iload_n d_Mo_key_113 rfl ?_
  refine N_iadd (a := i) (b := (64 * s)) (c := ((64 * s) + i)) d_Mo_key_114 rfl ?_
  have p_13 := (IA.kp (hL1) (Ex.kp s_5) (by decide))
  obtain ⟨f_14, hf_15, hl_16, hv_17⟩ := id p_13
  refine N_iaload (k := ((64 * s) + i)) (x := (bR (gd L1 ((64 * s) + i)))) d_Mo_key_115 hf_15 (by omega) (by decide) (hv_17 ((64 * s) + i) (by first | omega | (simp only [List.length_append, List.length_cons, List.length_nil, List.length_replicate, sl_len, be_len, sha_len, hmac_len, ex1_len, ex2_len, stretch_len, zer8_len, tC_len, tag1_len, bnN_len, xkp_len, enc_len, chance_len, lbF_len, str2_len, pub_len', sec8_len]; omega))) ?_
  have rv : gd L1 (64 * s + i) = gd (X s) i := sg1 i (by omega)
  have nb_ : NB M_3 sd ch n m 0 := ⟨_, p_6, (show (upd w 66 (nI 0)) 66 = (nI 0) from rfl), (show (upd w 66 (nI 0)) 71 = sd from h71), (show (upd w 66 (nI 0)) 72 = (nI ch) from h72), (show (upd w 66 (nI 0)) 73 = (nI n) from h73), (show (upd w 66 (nI 0)) 74 = (nI m) from h74)⟩
  exact T_ret d_Mo_key_116 rfl (by first | decide | rfl) (by decide) (by decide) ⟨by rw [rv]; rfl, nb_, (Kp.ex (Kp.rf : Kp [373] M M) s_5 (by decide))⟩
set_option maxHeartbeats 8000000 in
theorem p_Mo_key_2_off {G : GX} {M : List va_E} {sd : Int32} {ch n m th : Nat} {s i : Nat} {t : Nat → Bool} (hs : s < 4) (hi : i < 64) (ht : t s = false) (hnb : NB M sd ch n m th) (hz1 : ZR M 430 4 t) : CT G mi_Mo_key [.ref 373, .int (nI s), .int (nI 2), .int (nI i)] M (fun r M' => r = some (.int (nI 0)) ∧ NB M' sd ch n m 1 ∧ Kp [373] M M') := by
  obtain ⟨w, h, h66, h71, h72, h73, h74⟩ := hnb
  refine CT.of (by decide) (Nat.le_of_ble_eq_true rfl) ?_
  show TT G mi_Mo_key 0 [(0, .ref 373), (1, .int (nI s)), (2, .int (nI 2)), (3, .int (nI i))] [] M 0 0 _
  have bB : bN (t s) = 0 := by rw [ht]; rfl
  refine T_aload_n (v := .ref 373) d_Mo_key_0 rfl (Or.inr ⟨_, rfl⟩) ?_
  refine T_iconst (v := nI 0) d_Mo_key_1 (by decide) ?_
  obtain ⟨v_1, hov_1, hwv_1, hsv_1, hiv_1⟩ := id h
  refine N_put (e := (moO (upd v_1 66 (nI 0)))) d_Mo_key_2 (fp_Mo_316 _) hov_1 (Nat.le_of_ble_eq_true rfl) ⟨rfl, rfl⟩ rfl (fun M_2 h_3 s_4 => ?_)
  have p_5 := BG.st (j := 66) (by decide) hwv_1 hsv_1 hiv_1 h_3 (Ex.kp s_4)
  refine T_iload_n d_Mo_key_5 rfl ?_
  refine T_static (as := [.int (nI s)]) (rest := []) d_Mo_key_6 rfl (jw_Mo_isSession.jo (by decide)) lm_Mo_545 jt_Mo_isSession rfl (Nat.le_of_ble_eq_true rfl) (by decide) (by decide) (b_Mo_isS_in hs) (fun r M_6 hq => ?_)
  obtain ⟨rfl, he⟩ := hq
  obtain rfl := he.symm
  refine T_eq (pc' := 9) (L' := [(0, .ref 373), (1, .int (nI s)), (2, .int (nI 2)), (3, .int (nI i))]) (st' := [.int (nI 1)]) (M' := M_2) rfl rfl rfl rfl ?_
  refine N_if_eq_f (b := 1) d_Mo_key_9 (tgt := 35) rfl (by omega) (by omega) ?_
  refine T_iload_n d_Mo_key_12 rfl ?_
  refine N_if_lt_f (b := i) d_Mo_key_13 (tgt := 35) rfl (by omega) (by omega) ?_
  refine T_iload_n d_Mo_key_16 rfl ?_
  refine T_bipush (v := nI 64) d_Mo_key_17 (by decide) ?_
  refine N_icmp_ge_f (a := 64) (b := i) d_Mo_key_19 (tgt := 35) rfl (by omega) (by omega) (by omega) ?_
  refine T_iload_n d_Mo_key_22 rfl ?_
  refine N_if_lt_f (b := 2) d_Mo_key_23 (tgt := 35) rfl (by omega) (by omega) ?_
  refine T_iload_n d_Mo_key_26 rfl ?_
  refine T_iconst (v := nI 3) d_Mo_key_27 (by decide) ?_
  refine N_icmp_ge_f (a := 3) (b := 2) d_Mo_key_28 (tgt := 35) rfl (by omega) (by omega) (by omega) ?_
  refine T_iconst (v := nI 1) d_Mo_key_31 (by decide) ?_
  refine T_goto (tgt := 36) d_Mo_key_32 rfl ?_
  refine T_istore (L' := [(4, .int (nI 1)), (0, .ref 373), (1, .int (nI s)), (2, .int (nI 2)), (3, .int (nI i))]) d_Mo_key_36 (by decide) rfl ?_
  refine T_iload d_Mo_key_38 rfl ?_
  refine N_if_eq_f (b := 1) d_Mo_key_40 (tgt := 59) rfl (by omega) (by omega) ?_
  refine T_iload_n d_Mo_key_43 rfl ?_
  refine T_iconst (v := nI 1) d_Mo_key_44 (by decide) ?_
  refine N_icmp_ne_t (a := 1) (b := 2) d_Mo_key_45 (tgt := 59) rfl (by omega) (by omega) (by omega) ?_
  refine T_iload d_Mo_key_59 rfl ?_
  refine N_if_eq_f (b := 1) d_Mo_key_61 (tgt := 72) rfl (by omega) (by omega) ?_
  refine T_aload_n (v := .ref 373) d_Mo_key_64 rfl (Or.inr ⟨_, rfl⟩) ?_
  obtain ⟨v_7, hov_7, hwv_7, hsv_7, hiv_7⟩ := id p_5
  refine T_getfield (v := .ref 430) d_Mo_key_65 fg_Mo_410 hov_7 rfl ?_
  refine T_iload_n d_Mo_key_68 rfl ?_
  have p_8 := (ZR.kp (hz1) (Ex.kp s_4) (by decide))
  obtain ⟨f_9, h_10, h_11⟩ := id p_8
  refine N_zaload (k := s) (x := (nI ((bN (t s))))) d_Mo_key_69 h_10 (by omega) (by decide) (h_11 s (by omega)) ?_
  refine T_istore (L' := [(4, .int (nI ((bN (t s))))), (0, .ref 373), (1, .int (nI s)), (2, .int (nI 2)), (3, .int (nI i))]) d_Mo_key_70 (by decide) rfl ?_
  refine T_iload d_Mo_key_72 rfl ?_
  refine N_if_ne_f (b := (bN (t s))) d_Mo_key_74 (tgt := 84) rfl (by omega) (by omega) ?_
  refine T_aload_n (v := .ref 373) d_Mo_key_77 rfl (Or.inr ⟨_, rfl⟩) ?_
  refine T_iconst (v := nI 1) d_Mo_key_78 (by decide) ?_
  refine N_put (e := (moO (upd v_7 66 (nI 1)))) d_Mo_key_79 (fp_Mo_316 _) hov_7 (Nat.le_of_ble_eq_true rfl) ⟨rfl, rfl⟩ rfl (fun M_12 h_13 s_14 => ?_)
  have p_15 := BG.st (j := 66) (by decide) hwv_7 hsv_7 hiv_7 h_13 (Ex.kp s_14)
  refine T_iconst (v := nI 0) d_Mo_key_82 (by decide) ?_
  have nb_ : NB M_12 sd ch n m 1 := ⟨_, p_15, (show (upd (upd w 66 (nI 0)) 66 (nI 1)) 66 = (nI 1) from rfl), (show (upd (upd w 66 (nI 0)) 66 (nI 1)) 71 = sd from h71), (show (upd (upd w 66 (nI 0)) 66 (nI 1)) 72 = (nI ch) from h72), (show (upd (upd w 66 (nI 0)) 66 (nI 1)) 73 = (nI n) from h73), (show (upd (upd w 66 (nI 0)) 66 (nI 1)) 74 = (nI m) from h74)⟩
  exact T_ret d_Mo_key_83 rfl (by first | decide | rfl) (by decide) (by decide) ⟨rfl, nb_, (Kp.ex (Kp.ex (Kp.rf : Kp [373] M M) s_4 (by decide)) s_14 (by decide))⟩
set_option maxHeartbeats 8000000 in
theorem p_Mo_key_2_in {G : GX} {M : List va_E} {sd : Int32} {ch n m th : Nat} {X : Nat → List UInt8} {s i : Nat} {t : Nat → Bool} (hs : s < 4) (hi : i < 64) (ht : t s = true) (hnb : NB M sd ch n m th) (hz1 : ZR M 430 4 t) (hr : SL M 439 256 64 4 X) (hl : (X s).length = 64) : CT G mi_Mo_key [.ref 373, .int (nI s), .int (nI 2), .int (nI i)] M (fun r M' => r = some (.int (nI (gd (X s) i).toNat)) ∧ NB M' sd ch n m 0 ∧ Kp [373] M M') := by
  obtain ⟨w, h, h66, h71, h72, h73, h74⟩ := hnb
  refine CT.of (by decide) (Nat.le_of_ble_eq_true rfl) ?_
  show TT G mi_Mo_key 0 [(0, .ref 373), (1, .int (nI s)), (2, .int (nI 2)), (3, .int (nI i))] [] M 0 0 _
  have bB : bN (t s) = 1 := by rw [ht]; rfl
  obtain ⟨L1, hL1, eL1, sg1⟩ := SL.rd hr hs
  have lL := eL1
  refine T_aload_n (v := .ref 373) d_Mo_key_0 rfl (Or.inr ⟨_, rfl⟩) ?_
  refine T_iconst (v := nI 0) d_Mo_key_1 (by decide) ?_
  obtain ⟨v_2, hov_2, hwv_2, hsv_2, hiv_2⟩ := id h
  refine N_put (e := (moO (upd v_2 66 (nI 0)))) d_Mo_key_2 (fp_Mo_316 _) hov_2 (Nat.le_of_ble_eq_true rfl) ⟨rfl, rfl⟩ rfl (fun M_3 h_4 s_5 => ?_)
  have p_6 := BG.st (j := 66) (by decide) hwv_2 hsv_2 hiv_2 h_4 (Ex.kp s_5)
  refine T_iload_n d_Mo_key_5 rfl ?_
  refine T_static (as := [.int (nI s)]) (rest := []) d_Mo_key_6 rfl (jw_Mo_isSession.jo (by decide)) lm_Mo_545 jt_Mo_isSession rfl (Nat.le_of_ble_eq_true rfl) (by decide) (by decide) (b_Mo_isS_in hs) (fun r M_7 hq => ?_)
  obtain ⟨rfl, he⟩ := hq
  obtain rfl := he.symm
  refine T_eq (pc' := 9) (L' := [(0, .ref 373), (1, .int (nI s)), (2, .int (nI 2)), (3, .int (nI i))]) (st' := [.int (nI 1)]) (M' := M_3) rfl rfl rfl rfl ?_
  refine N_if_eq_f (b := 1) d_Mo_key_9 (tgt := 35) rfl (by omega) (by omega) ?_
  refine T_iload_n d_Mo_key_12 rfl ?_
  refine N_if_lt_f (b := i) d_Mo_key_13 (tgt := 35) rfl (by omega) (by omega) ?_
  refine T_iload_n d_Mo_key_16 rfl ?_
  refine T_bipush (v := nI 64) d_Mo_key_17 (by decide) ?_
  refine N_icmp_ge_f (a := 64) (b := i) d_Mo_key_19 (tgt := 35) rfl (by omega) (by omega) (by omega) ?_
  refine T_iload_n d_Mo_key_22 rfl ?_
  refine N_if_lt_f (b := 2) d_Mo_key_23 (tgt := 35) rfl (by omega) (by omega) ?_
  refine T_iload_n d_Mo_key_26 rfl ?_
  refine T_iconst (v := nI 3) d_Mo_key_27 (by decide) ?_
  refine N_icmp_ge_f (a := 3) (b := 2) d_Mo_key_28 (tgt := 35) rfl (by omega) (by omega) (by omega) ?_
  refine T_iconst (v := nI 1) d_Mo_key_31 (by decide) ?_
  refine T_goto (tgt := 36) d_Mo_key_32 rfl ?_
  refine T_istore (L' := [(4, .int (nI 1)), (0, .ref 373), (1, .int (nI s)), (2, .int (nI 2)), (3, .int (nI i))]) d_Mo_key_36 (by decide) rfl ?_
  refine T_iload d_Mo_key_38 rfl ?_
  refine N_if_eq_f (b := 1) d_Mo_key_40 (tgt := 59) rfl (by omega) (by omega) ?_
  refine T_iload_n d_Mo_key_43 rfl ?_
  refine T_iconst (v := nI 1) d_Mo_key_44 (by decide) ?_
  refine N_icmp_ne_t (a := 1) (b := 2) d_Mo_key_45 (tgt := 59) rfl (by omega) (by omega) (by omega) ?_
  refine T_iload d_Mo_key_59 rfl ?_
  refine N_if_eq_f (b := 1) d_Mo_key_61 (tgt := 72) rfl (by omega) (by omega) ?_
  refine T_aload_n (v := .ref 373) d_Mo_key_64 rfl (Or.inr ⟨_, rfl⟩) ?_
  obtain ⟨v_8, hov_8, hwv_8, hsv_8, hiv_8⟩ := id p_6
  refine T_getfield (v := .ref 430) d_Mo_key_65 fg_Mo_410 hov_8 rfl ?_
  refine T_iload_n d_Mo_key_68 rfl ?_
  have p_9 := (ZR.kp (hz1) (Ex.kp s_5) (by decide))
  obtain ⟨f_10, h_11, h_12⟩ := id p_9
  refine N_zaload (k := s) (x := (nI ((bN (t s))))) d_Mo_key_69 h_11 (by omega) (by decide) (h_12 s (by omega)) ?_
  refine T_istore (L' := [(4, .int (nI ((bN (t s))))), (0, .ref 373), (1, .int (nI s)), (2, .int (nI 2)), (3, .int (nI i))]) d_Mo_key_70 (by decide) rfl ?_
  refine T_iload d_Mo_key_72 rfl ?_
  refine N_if_ne_t (b := (bN (t s))) d_Mo_key_74 (tgt := 84) rfl (by omega) (by omega) ?_
  refine T_iload_n d_Mo_key_84 rfl ?_
  refine N_if_ne_t (b := 2) d_Mo_key_85 (tgt := 100) rfl (by omega) (by omega) ?_
  refine T_iload_n d_Mo_key_100 rfl ?_
  refine T_iconst (v := nI 1) d_Mo_key_101 (by decide) ?_
  refine N_icmp_ne_t (a := 1) (b := 2) d_Mo_key_102 (tgt := 117) rfl (by omega) (by omega) (by omega) ?_
  refine T_aload_n (v := .ref 373) d_Mo_key_117 rfl (Or.inr ⟨_, rfl⟩) ?_
  refine T_getfield (v := .ref 439) d_Mo_key_118 fg_Mo_437 hov_8 rfl ?_
  refine T_bipush (v := nI 64) d_Mo_key_121 (by decide) ?_
  refine T_iload_n d_Mo_key_123 rfl ?_
  refine N_imul (a := s) (b := 64) (c := (64 * s)) d_Mo_key_124 rfl ?_
  refine T_iload_n d_Mo_key_125 rfl ?_
  refine N_iadd (a := i) (b := (64 * s)) (c := ((64 * s) + i)) d_Mo_key_126 rfl ?_
  have p_13 := (IA.kp (hL1) (Ex.kp s_5) (by decide))
  obtain ⟨f_14, hf_15, hl_16, hv_17⟩ := id p_13
  refine N_iaload (k := ((64 * s) + i)) (x := (bR (gd L1 ((64 * s) + i)))) d_Mo_key_127 hf_15 (by omega) (by decide) (hv_17 ((64 * s) + i) (by first | omega | (simp only [List.length_append, List.length_cons, List.length_nil, List.length_replicate, sl_len, be_len, sha_len, hmac_len, ex1_len, ex2_len, stretch_len, zer8_len, tC_len, tag1_len, bnN_len, xkp_len, enc_len, chance_len, lbF_len, str2_len, pub_len', sec8_len]; omega))) ?_
  have rv : gd L1 (64 * s + i) = gd (X s) i := sg1 i (by omega)
  have nb_ : NB M_3 sd ch n m 0 := ⟨_, p_6, (show (upd w 66 (nI 0)) 66 = (nI 0) from rfl), (show (upd w 66 (nI 0)) 71 = sd from h71), (show (upd w 66 (nI 0)) 72 = (nI ch) from h72), (show (upd w 66 (nI 0)) 73 = (nI n) from h73), (show (upd w 66 (nI 0)) 74 = (nI m) from h74)⟩
  exact T_ret d_Mo_key_128 rfl (by first | decide | rfl) (by decide) (by decide) ⟨by rw [rv]; rfl, nb_, (Kp.ex (Kp.rf : Kp [373] M M) s_5 (by decide))⟩

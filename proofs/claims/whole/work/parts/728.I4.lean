set_option maxHeartbeats 8000000 in
theorem mh_z (G : GX) {M0 : List va_E} {w : Nat → Int32} {bits : Int64} {l : List UInt8} {c : Nat} (hl : l.length + c < 4000) (hc : (l.length + c) % 128 = 112) (hc2 : c < 128) {Q : Option Value → List va_E → Prop} (kk : ∀ M, (BF M w (l ++ List.replicate c 0) ∧ Kp [373, 374] M0 M) → TT G mi_Mo_hash0 38 [(0, .ref 373), (1, .long bits)] [] M 0 0 Q) : ∀ j k M, k + j = c → (BF M w (l ++ List.replicate k 0) ∧ Kp [373, 374] M0 M) → TT G mi_Mo_hash0 17 [(0, .ref 373), (1, .long bits)] [] M 0 0 Q := by
  intro j
  induction j with
  | zero =>
    intro k M hk hI
    obtain ⟨hb, hK⟩ := hI
    have el : (l ++ List.replicate k 0).length = l.length + k := by rw [List.length_append, List.length_replicate]
    refine T_aload_n (v := .ref 373) d_Mo_hash0_17 rfl (Or.inr ⟨_, rfl⟩) ?_
    obtain ⟨v_1, hov_1, _, hsv_1, _⟩ := id hb
    refine N_getI (x := (v_1 67)) (y := (nI ((l ++ List.replicate k 0).length))) d_Mo_hash0_18 fg_Mo_7 hov_1 rfl hsv_1 ?_
    refine T_sipush (v := nI 128) d_Mo_hash0_21 (by decide) ?_
    refine N_irem (a := 128) (b := ((l ++ List.replicate k 0).length)) (c := (((l ++ List.replicate k 0).length) % 128)) d_Mo_hash0_24 (by omega) (by omega) (by omega) rfl ?_
    refine T_bipush (v := nI 112) d_Mo_hash0_25 (by decide) ?_
    refine N_icmp_eq_t (a := 112) (b := (((l ++ List.replicate k 0).length) % 128)) d_Mo_hash0_27 (tgt := 38) rfl (by omega) (by omega) (by omega) ?_
    have ek : k = c := by omega
    subst ek
    exact kk M ⟨hb, hK⟩
  | succ j ih =>
    intro k M hk hI
    obtain ⟨hb, hK⟩ := hI
    have el : (l ++ List.replicate k 0).length = l.length + k := by rw [List.length_append, List.length_replicate]
    refine T_aload_n (v := .ref 373) d_Mo_hash0_17 rfl (Or.inr ⟨_, rfl⟩) ?_
    obtain ⟨v_1, hov_1, _, hsv_1, _⟩ := id hb
    refine N_getI (x := (v_1 67)) (y := (nI ((l ++ List.replicate k 0).length))) d_Mo_hash0_18 fg_Mo_7 hov_1 rfl hsv_1 ?_
    refine T_sipush (v := nI 128) d_Mo_hash0_21 (by decide) ?_
    refine N_irem (a := 128) (b := ((l ++ List.replicate k 0).length)) (c := (((l ++ List.replicate k 0).length) % 128)) d_Mo_hash0_24 (by omega) (by omega) (by omega) rfl ?_
    refine T_bipush (v := nI 112) d_Mo_hash0_25 (by decide) ?_
    refine N_icmp_eq_f (a := 112) (b := (((l ++ List.replicate k 0).length) % 128)) d_Mo_hash0_27 (tgt := 38) rfl (by omega) (by omega) (by omega) ?_
    refine T_aload_n (v := .ref 373) d_Mo_hash0_30 rfl (Or.inr ⟨_, rfl⟩) ?_
    refine T_iconst (v := nI 0) d_Mo_hash0_31 (by decide) ?_
    refine T_virtual (as := [.int (nI 0)]) (rest := []) (b := 373) d_Mo_hash0_32 rfl (jw_Mo_one.jo (by decide)) lm_Mo_11 ji_Mo_one js_Mo_one hov_1 rfl rfl rfl (Nat.le_of_ble_eq_true rfl) (by decide) (by decide) (y_Mo_one (x := (nI 0)) hb (by omega)) (fun r M_2 hq => ?_)
    obtain ⟨rfl, p_2_0, kp_2⟩ := hq
    refine T_eq (pc' := 35) (L' := [(0, .ref 373), (1, .long bits)]) (st' := []) (M' := M_2) rfl rfl rfl rfl ?_
    refine T_goto (tgt := 17) d_Mo_hash0_35 rfl ?_
    refine ih (k + 1) M_2 (by omega) ⟨?_, (Kp.tr (Kp.tr (Kp.rf : Kp [373, 374] M0 M0) (Kp.mono hK (by decide))) (Kp.mono kp_2 (by decide)))⟩
    rw [List.replicate_succ', ← List.append_assoc]
    exact p_2_0
set_option maxHeartbeats 8000000 in
theorem mh_8 (G : GX) {M0 : List va_E} {w : Nat → Int32} {bits : Int64} {l : List UInt8} (hl : l.length + 8 < 4000) {Q : Option Value → List va_E → Prop} (kk : ∀ M, BF M w (l ++ List.replicate 8 0) ∧ Kp [373, 374] M0 M → TT G mi_Mo_hash0 57 [(0, .ref 373), (1, .long bits)] [] M 0 0 Q) : ∀ j k M, k + j = 8 → BF M w (l ++ List.replicate k 0) ∧ Kp [373, 374] M0 M → TT G mi_Mo_hash0 40 [(3, .int (nI k)), (0, .ref 373), (1, .long bits)] [] M 0 0 Q := by
  intro j
  induction j with
  | zero =>
    intro k M hk hI
    obtain rfl : 8 = k := by omega
    refine T_iload_n d_Mo_hash0_40 rfl ?_
    refine T_bipush (v := nI 8) d_Mo_hash0_41 (by decide) ?_
    refine N_icmp_ge_t (a := 8) (b := 8) d_Mo_hash0_43 (tgt := 57) rfl (by omega) (by omega) (by omega) ?_
    exact T_sub (fun q hq => List.mem_cons_of_mem _ hq) (kk M hI)
  | succ j ih =>
    intro k M hk hI
    obtain ⟨hb, hK⟩ := hI
    have el : (l ++ List.replicate k 0).length = l.length + k := by rw [List.length_append, List.length_replicate]
    refine T_iload_n d_Mo_hash0_40 rfl ?_
    refine T_bipush (v := nI 8) d_Mo_hash0_41 (by decide) ?_
    refine N_icmp_ge_f (a := 8) (b := k) d_Mo_hash0_43 (tgt := 57) rfl (by omega) (by omega) (by omega) ?_
    refine T_aload_n (v := .ref 373) d_Mo_hash0_46 rfl (Or.inr ⟨_, rfl⟩) ?_
    refine T_iconst (v := nI 0) d_Mo_hash0_47 (by decide) ?_
    obtain ⟨v_2, hov_2, _⟩ := id hb
    refine T_virtual (as := [.int (nI 0)]) (rest := []) (b := 373) d_Mo_hash0_48 rfl (jw_Mo_one.jo (by decide)) lm_Mo_11 ji_Mo_one js_Mo_one hov_2 rfl rfl rfl (Nat.le_of_ble_eq_true rfl) (by decide) (by decide) (y_Mo_one (x := (nI 0)) hb (by omega)) (fun r M_1 hq => ?_)
    obtain ⟨rfl, p_1_0, kp_1⟩ := hq
    refine T_eq (pc' := 51) (L' := [(3, .int (nI k)), (0, .ref 373), (1, .long bits)]) (st' := []) (M' := M_1) rfl rfl rfl rfl ?_
    refine N_iinc (k := k) (m := 1) (c := (k + 1)) (L' := [(3, .int (nI ((k + 1)))), (0, .ref 373), (1, .long bits)]) d_Mo_hash0_51 (by decide) rfl (by decide) rfl rfl ?_
    refine T_goto (tgt := 40) d_Mo_hash0_54 rfl ?_
    exact ih (k + 1) M_1 (by omega) ⟨by rw [List.replicate_succ', ← List.append_assoc]; exact p_1_0, (Kp.tr (Kp.tr (Kp.rf : Kp [373, 374] M0 M0) (Kp.mono hK (by decide))) (Kp.mono kp_1 (by decide)))⟩
theorem u8_l255 (y : Int64) : u8 ((y &&& 255).toInt32) = u8 y.toInt32 := by
  unfold u8
  rw [Int64.toInt32_and, Int32.toInt8_and, show ((255 : Int64).toInt32).toInt8 = -1 from by decide, Int8.and_neg_one]
def b8h (x : Int64) (k : Nat) : List UInt8 := (List.range k).map fun i => ltc x (7 - i)
theorem b8h_len (x : Int64) (k : Nat) : (b8h x k).length = k := by unfold b8h; simp
theorem b8h_s (x : Int64) (k : Nat) : b8h x (k + 1) = b8h x k ++ [ltc x (7 - k)] := by unfold b8h; rw [List.range_succ, List.map_append]; rfl
set_option maxHeartbeats 8000000 in
theorem mh_b (G : GX) {M0 : List va_E} {w : Nat → Int32} {bits : Int64} {l : List UInt8} (hl : l.length + 8 ≤ 4000) {Q : Option Value → List va_E → Prop} (kk : ∀ M, (BF M w (l ++ b8h bits (8 - 0)) ∧ Kp [373, 374] M0 M) → TT G mi_Mo_hash0 82 [(0, .ref 373), (1, .long bits)] [] M 0 0 Q) : ∀ j M, j ≤ 8 → (BF M w (l ++ b8h bits (8 - j)) ∧ Kp [373, 374] M0 M) → TT G mi_Mo_hash0 60 [(3, .int (nI (8 * j) + Int32.ofInt (-8))), (0, .ref 373), (1, .long bits)] [] M 0 0 Q := by
  intro j
  induction j with
  | zero =>
    intro M hj hI
    refine T_iload_n d_Mo_hash0_60 rfl ?_
    refine T_if_lt d_Mo_hash0_61 (tgt := 82) rfl (fun _ => ?_) (fun c => absurd (by decide) c)
    exact T_sub (fun q hq => List.mem_cons_of_mem _ hq) (kk M hI)
  | succ j ih =>
    intro M hj hI
    obtain ⟨hb, hK⟩ := hI
    rw [nI_8]
    refine T_iload_n d_Mo_hash0_60 rfl ?_
    refine N_if_lt_f (b := (8 * j)) d_Mo_hash0_61 (tgt := 82) rfl (by omega) (by omega) ?_
    refine T_aload_n (v := .ref 373) d_Mo_hash0_64 rfl (Or.inr ⟨_, rfl⟩) ?_
    refine T_lload_n d_Mo_hash0_65 rfl ?_
    refine T_iload_n d_Mo_hash0_66 rfl ?_
    refine T_lshr d_Mo_hash0_67 ?_
    refine T_ldc2 d_Mo_hash0_68 kJ_Mo_47 ?_
    refine T_land d_Mo_hash0_71 ?_
    refine T_l2i d_Mo_hash0_72 ?_
    obtain ⟨v_2, hov_2, _, hsv_2, _⟩ := id hb
    refine T_virtual (as := [.int (((bits >>> ((nI ((8 * j))).toInt64 &&& 63)) &&& 255).toInt32)]) (rest := []) (b := 373) d_Mo_hash0_73 rfl (jw_Mo_one.jo (by decide)) lm_Mo_11 ji_Mo_one js_Mo_one hov_2 rfl rfl rfl (Nat.le_of_ble_eq_true rfl) (by decide) (by decide) (y_Mo_one (x := (((bits >>> ((nI ((8 * j))).toInt64 &&& 63)) &&& 255).toInt32)) hb (by rw [List.length_append, b8h_len]; omega)) (fun r M_1 hq => ?_)
    obtain ⟨rfl, p_1_0, kp_1⟩ := hq
    refine T_eq (pc' := 76) (L' := [(3, .int (nI ((8 * j)))), (0, .ref 373), (1, .long bits)]) (st' := []) (M' := M_1) rfl rfl rfl rfl ?_
    refine T_iinc (x := nI (8 * j)) (L' := [(3, .int (nI (8 * j) + Int32.ofInt (-8))), (0, .ref 373), (1, .long bits)]) d_Mo_hash0_76 (by decide) rfl rfl ?_
    refine T_goto (tgt := 60) d_Mo_hash0_79 rfl ?_
    refine ih M_1 (by omega) ⟨?_, (Kp.tr (Kp.tr (Kp.rf : Kp [373, 374] M0 M0) (Kp.mono hK (by decide))) (Kp.mono kp_1 (by decide)))⟩
    have g := p_1_0
    rw [u8_l255] at g
    rw [show 8 - j = (8 - (j + 1)) + 1 by omega, b8h_s, show 7 - (8 - (j + 1)) = j by omega, ← List.append_assoc]
    exact g
set_option maxHeartbeats 8000000 in
theorem mh_q (G : GX) {M0 : List va_E} {v : Nat → Int32} {bits : Int64} {sq : Nat → Int64} (ho : M0[373]? = some (moO v)) (hs : M0[376]? = some (lr 8 sq)) {Q : Option Value → List va_E → Prop} (kk : ∀ M, (∃ S, M[381]? = some (lr 8 S) ∧ ∀ t, t < 8 → S t = sq t) ∧ Kp [381] M0 M → TT G mi_Mo_hash0 108 [(0, .ref 373), (1, .long bits)] [] M 0 0 Q) : ∀ j k M, k + j = 8 → (∃ S, M[381]? = some (lr 8 S) ∧ ∀ t, t < k → S t = sq t) ∧ Kp [381] M0 M → TT G mi_Mo_hash0 84 [(3, .int (nI k)), (0, .ref 373), (1, .long bits)] [] M 0 0 Q := by
  intro j
  induction j with
  | zero =>
    intro k M hk hI
    obtain rfl : 8 = k := by omega
    refine T_iload_n d_Mo_hash0_84 rfl ?_
    refine T_bipush (v := nI 8) d_Mo_hash0_85 (by decide) ?_
    refine N_icmp_ge_t (a := 8) (b := 8) d_Mo_hash0_87 (tgt := 108) rfl (by omega) (by omega) (by omega) ?_
    exact T_sub (fun q hq => List.mem_cons_of_mem _ hq) (kk M hI)
  | succ j ih =>
    intro k M hk hI
    obtain ⟨⟨S, h1, e1⟩, hK⟩ := hI
    refine T_iload_n d_Mo_hash0_84 rfl ?_
    refine T_bipush (v := nI 8) d_Mo_hash0_85 (by decide) ?_
    refine N_icmp_ge_f (a := 8) (b := k) d_Mo_hash0_87 (tgt := 108) rfl (by omega) (by omega) (by omega) ?_
    refine T_aload_n (v := .ref 373) d_Mo_hash0_90 rfl (Or.inr ⟨_, rfl⟩) ?_
    have h_1 := (hK 373 (by decide)).trans (ho)
    refine T_getfield (v := .ref 381) d_Mo_hash0_91 fg_Mo_49 h_1 rfl ?_
    refine T_iload_n d_Mo_hash0_94 rfl ?_
    refine T_aload_n (v := .ref 373) d_Mo_hash0_95 rfl (Or.inr ⟨_, rfl⟩) ?_
    refine T_getfield (v := .ref 376) d_Mo_hash0_96 fg_Mo_42 h_1 rfl ?_
    refine T_iload_n d_Mo_hash0_99 rfl ?_
    have h_2 := (hK 376 (by decide)).trans (hs)
    refine N_laload (k := k) (x := (sq k)) d_Mo_hash0_100 h_2 (by omega) (by decide) rfl ?_
    refine N_lastore (k := k) d_Mo_hash0_101 (by decide) h1 (by omega) (by decide) rfl (fun M_3 h_4 s_5 => ?_)
    refine N_iinc (k := k) (m := 1) (c := (k + 1)) (L' := [(3, .int (nI ((k + 1)))), (0, .ref 373), (1, .long bits)]) d_Mo_hash0_102 (by decide) rfl (by decide) rfl rfl ?_
    refine T_goto (tgt := 84) d_Mo_hash0_105 rfl ?_
    exact ih (k + 1) M_3 (by omega) ⟨⟨_, h_4, fun t ht => by rcases Nat.lt_succ_iff_lt_or_eq.mp ht with h | h; rw [uL_n (by omega)]; exact e1 t h; subst h; exact uL_s⟩, (Kp.ex (Kp.tr (Kp.rf : Kp [381] M0 M0) (Kp.mono hK (by decide))) s_5 (by decide))⟩
theorem N_iincW {G : GX} {mi : MI} {pc : Nat} {L : List (Nat × Value)} {st : List Value} {M : List va_E} {kc ks : Nat} {Q : Option Value → List va_E → Prop} {i a b : Nat} {n : Int} {L' : List (Nat × Value)} (hd : decode (mC mi) pc = .ok (.iinc i n, 6)) (hn : i < mL mi) (hx : lk L i = some (.int (nI a))) (hb : n = (b : Int)) (hl : st1 L i (.int (nI (a + b))) = L') (k : TT G mi (pc + 6) L' st M kc ks Q) : TT G mi pc L st M kc ks Q := by
  subst hb
  intro p e R s m args below meth c H locs ls ad ad0 n0 C D
  obtain ⟨d1, d2, d3, d4, d5, d6, d7⟩ := D
  subst hl
  obtain ⟨q, hq⟩ := List.getElem?_of_mem (List.mem_map.mpr ⟨(i, .int (nI a)), lk_mem hx, rfl⟩ : (i, mV ad (.int (nI a))) ∈ mLo ad L)
  exact lv_iincW C.1 C.2.1 hd d2 hq (by rw [show Int32.ofInt (b : Int) = nI b from rfl, nI_add]) hn (st1_map ad L _ (.int _)) (fun ls' h => k p e R s m args below meth c H locs ls' ad ad0 n0 C ⟨d1, h, d3, d4, d5, st1_ok d6 trivial, d7⟩)
def hsb (B : List UInt8) : Nat → Nat → Int64
  | 0 => hT
  | k + 1 => comp (hsb B k) (fun t => wdb B (128 * k + 8 * t) 8)
set_option maxHeartbeats 8000000 in
theorem mh_k (G : GX) {M0 : List va_E} {w : Nat → Int32} {bits : Int64} {B : List UInt8} {cu : Nat → Int64} {n : Nat} (hB : BF M0 w B) (hn : B.length = 128 * n) (hc : M0[375]? = some (lr 80 cu)) (hcu : ∀ t, t < 80 → cu t = kT t) {Q : Option Value → List va_E → Prop} (kk : ∀ M, ((∃ S, M[381]? = some (lr 8 S) ∧ ∀ t, t < 8 → S t = hsb B n t) ∧ (∃ W, M[380]? = some (lr 80 W)) ∧ (∃ S, M[382]? = some (lr 8 S)) ∧ Kp [380, 382, 381] M0 M) → TT G mi_Mo_hash0 132 [(0, .ref 373), (1, .long bits)] [] M 0 0 Q) : ∀ j k M, k + j = n → ((∃ S, M[381]? = some (lr 8 S) ∧ ∀ t, t < 8 → S t = hsb B k t) ∧ (∃ W, M[380]? = some (lr 80 W)) ∧ (∃ S, M[382]? = some (lr 8 S)) ∧ Kp [380, 382, 381] M0 M) → TT G mi_Mo_hash0 110 [(3, .int (nI ((128 * k)))), (0, .ref 373), (1, .long bits)] [] M 0 0 Q := by
  have hle := hB.le
  intro j
  induction j with
  | zero =>
    intro k M hk hI
    obtain ⟨⟨S, h1, e1⟩, ⟨W, h2⟩, ⟨T, h3⟩, hK⟩ := id hI
    refine T_iload_n d_Mo_hash0_110 rfl ?_
    refine T_aload_n (v := .ref 373) d_Mo_hash0_111 rfl (Or.inr ⟨_, rfl⟩) ?_
    have p_1 := (BF.kp (hB) hK (by decide) (by decide))
    obtain ⟨v_2, hov_2, _, hsv_2, _⟩ := id p_1
    refine N_getI (x := (v_2 67)) (y := (nI (B.length))) d_Mo_hash0_112 fg_Mo_7 hov_2 rfl hsv_2 ?_
    refine N_icmp_ge_t (a := B.length) (b := (128 * k)) d_Mo_hash0_115 (tgt := 132) rfl (by omega) (by omega) (by omega) ?_
    have ek : k = n := by omega
    subst ek
    exact T_sub (fun q hq => List.mem_cons_of_mem _ hq) (kk M hI)
  | succ j ih =>
    intro k M hk hI
    obtain ⟨⟨S, h1, e1⟩, ⟨W, h2⟩, ⟨T, h3⟩, hK⟩ := id hI
    refine T_iload_n d_Mo_hash0_110 rfl ?_
    refine T_aload_n (v := .ref 373) d_Mo_hash0_111 rfl (Or.inr ⟨_, rfl⟩) ?_
    have p_1 := (BF.kp (hB) hK (by decide) (by decide))
    obtain ⟨v_2, hov_2, _, hsv_2, _⟩ := id p_1
    refine N_getI (x := (v_2 67)) (y := (nI (B.length))) d_Mo_hash0_112 fg_Mo_7 hov_2 rfl hsv_2 ?_
    refine N_icmp_ge_f (a := B.length) (b := (128 * k)) d_Mo_hash0_115 (tgt := 132) rfl (by omega) (by omega) (by omega) ?_
    refine T_aload_n (v := .ref 373) d_Mo_hash0_118 rfl (Or.inr ⟨_, rfl⟩) ?_
    refine T_iload_n d_Mo_hash0_119 rfl ?_
    obtain ⟨v_4, hov_4, _, _, hAv_4⟩ := id p_1
    refine T_virtual (as := [.int (nI ((128 * k)))]) (rest := []) (b := 373) d_Mo_hash0_120 rfl (jw_Mo_block.jo (by decide)) lm_Mo_52 ji_Mo_block js_Mo_block hov_4 rfl rfl rfl (Nat.le_of_ble_eq_true rfl) (by decide) (by decide) (y_Mo_block (at0 := 128 * k) hov_4 hAv_4 (by omega) h2 h3 h1 ((hK 375 (by decide)).trans hc) hcu) (fun r M_3 hq => ?_)
    obtain ⟨rfl, ⟨S2, g1, g2⟩, gW, gT, kb⟩ := hq
    refine T_eq (pc' := 123) (L' := [(3, .int (nI ((128 * k)))), (0, .ref 373), (1, .long bits)]) (st' := []) (M' := M_3) rfl rfl rfl rfl ?_
    refine N_iincW (a := 128 * k) (b := 128) (L' := [(3, .int (nI ((128 * (k + 1))))), (0, .ref 373), (1, .long bits)]) d_Mo_hash0_123 (by decide) rfl rfl rfl ?_
    refine T_goto (tgt := 110) d_Mo_hash0_129 rfl ?_
    exact ih (k + 1) M_3 (by omega) ⟨⟨S2, g1, fun t ht => by rw [g2 t ht]; exact comp_c e1 (fun _ _ => rfl) t ht⟩, gW, gT, Kp.tr hK kb⟩
theorem sar_bv (b : BitVec 64) (s : Nat) (h : s + 8 ≤ 64) : ((b.sshiftRight s).signExtend 32).signExtend 8 = ((b >>> s).signExtend 32).signExtend 8 := by
  ext i hi
  simp only [BitVec.getElem_signExtend, BitVec.getLsbD_eq_getElem, hi, show i < 32 by omega, show i < 64 by omega, dif_pos, BitVec.getElem_sshiftRight, BitVec.getElem_ushiftRight, show s + i < 64 by omega]
theorem sar_8 (x : Int64) (m : Nat) (hm : m < 8) : u8 ((x >>> ((nI (56 - 8 * m)).toInt64 &&& 63)).toInt32) = u8 ((ush x (56 - 8 * m)).toInt32) := by
  apply UInt8.toBitVec_inj.mp
  have key : ∀ s : Nat, s + 8 ≤ 64 → ((x.toBitVec.sshiftRight s).signExtend 32).signExtend 8 = ((x.toBitVec >>> s).signExtend 32).signExtend 8 := fun s h => sar_bv _ s h
  match m, hm with
  | 0, _ => exact key 56 (by decide)
  | 1, _ => exact key 48 (by decide)
  | 2, _ => exact key 40 (by decide)
  | 3, _ => exact key 32 (by decide)
  | 4, _ => exact key 24 (by decide)
  | 5, _ => exact key 16 (by decide)
  | 6, _ => exact key 8 (by decide)
  | 7, _ => exact key 0 (by decide)
theorem dg_v (x : Int64) {m : Nat} (hm : m < 8) : (((x >>> ((nI (56 - 8 * m)).toInt64 &&& 63)) &&& 255).toInt32) = bR (shb x m) := by
  rw [Int64.toInt32_and, show (255 : Int64).toInt32 = nI 255 from by decide, i32_255, sar_8 x m hm]
  rfl
theorem upd_s {f : Nat → Int32} {k : Nat} {x : Int32} : upd f k x k = x := if_pos rfl
theorem upd_n {f : Nat → Int32} {k j : Nat} {x : Int32} (h : j ≠ k) : upd f k x j = f j := if_neg h
set_option maxHeartbeats 8000000 in
theorem mh_d (G : GX) {M0 : List va_E} {v : Nat → Int32} {bits : Int64} {S : Nat → Int64} (ho : M0[373]? = some (moO v)) (hs : M0[381]? = some (lr 8 S)) {Q : Option Value → List va_E → Prop} (kk : ∀ M, (∃ f, M[383]? = some (ir 64 f) ∧ ∀ t, t < 64 → f t = bR (shb (S (t / 8)) (t % 8))) ∧ Kp [383] M0 M → TT G mi_Mo_hash0 177 [(0, .ref 373), (1, .long bits)] [] M 0 0 Q) : ∀ j k M, k + j = 64 → (∃ f, M[383]? = some (ir 64 f) ∧ ∀ t, t < k → f t = bR (shb (S (t / 8)) (t % 8))) ∧ Kp [383] M0 M → TT G mi_Mo_hash0 134 [(3, .int (nI k)), (0, .ref 373), (1, .long bits)] [] M 0 0 Q := by
  intro j
  induction j with
  | zero =>
    intro k M hk hI
    obtain rfl : 64 = k := by omega
    refine T_iload_n d_Mo_hash0_134 rfl ?_
    refine T_bipush (v := nI 64) d_Mo_hash0_135 (by decide) ?_
    refine N_icmp_ge_t (a := 64) (b := 64) d_Mo_hash0_137 (tgt := 177) rfl (by omega) (by omega) (by omega) ?_
    exact T_sub (fun q hq => List.mem_cons_of_mem _ hq) (kk M hI)
  | succ j ih =>
    intro k M hk hI
    obtain ⟨⟨f, h1, e1⟩, hK⟩ := hI
    refine T_iload_n d_Mo_hash0_134 rfl ?_
    refine T_bipush (v := nI 64) d_Mo_hash0_135 (by decide) ?_
    refine N_icmp_ge_f (a := 64) (b := k) d_Mo_hash0_137 (tgt := 177) rfl (by omega) (by omega) (by omega) ?_
    refine T_aload_n (v := .ref 373) d_Mo_hash0_140 rfl (Or.inr ⟨_, rfl⟩) ?_
    have h_1 := (hK 373 (by decide)).trans (ho)
    refine T_getfield (v := .ref 383) d_Mo_hash0_141 fg_Mo_55 h_1 rfl ?_
    refine T_iload_n d_Mo_hash0_144 rfl ?_
    refine T_aload_n (v := .ref 373) d_Mo_hash0_145 rfl (Or.inr ⟨_, rfl⟩) ?_
    refine T_getfield (v := .ref 381) d_Mo_hash0_146 fg_Mo_49 h_1 rfl ?_
    refine T_iload_n d_Mo_hash0_149 rfl ?_
    refine T_bipush (v := nI 8) d_Mo_hash0_150 (by decide) ?_
    refine N_idiv (a := 8) (b := k) (c := (k / 8)) d_Mo_hash0_152 (by omega) (by omega) (by omega) rfl ?_
    have h_2 := (hK 381 (by decide)).trans (hs)
    refine N_laload (k := (k / 8)) (x := (S (k / 8))) d_Mo_hash0_153 h_2 (by omega) (by decide) rfl ?_
    refine T_bipush (v := nI 56) d_Mo_hash0_154 (by decide) ?_
    refine T_bipush (v := nI 8) d_Mo_hash0_156 (by decide) ?_
    refine T_iload_n d_Mo_hash0_158 rfl ?_
    refine T_bipush (v := nI 8) d_Mo_hash0_159 (by decide) ?_
    refine N_irem (a := 8) (b := k) (c := (k % 8)) d_Mo_hash0_161 (by omega) (by omega) (by omega) rfl ?_
    refine N_imul (a := (k % 8)) (b := 8) (c := (8 * (k % 8))) d_Mo_hash0_162 rfl ?_
    refine N_isub (a := (8 * (k % 8))) (b := 56) (c := (56 - (8 * (k % 8)))) d_Mo_hash0_163 (by omega) rfl ?_
    refine T_lshr d_Mo_hash0_164 ?_
    refine T_ldc2 d_Mo_hash0_165 kJ_Mo_47 ?_
    refine T_land d_Mo_hash0_168 ?_
    refine T_l2i d_Mo_hash0_169 ?_
    refine N_iastore (k := k) d_Mo_hash0_170 (by decide) h1 (by omega) (by decide) rfl (fun M_3 h_4 s_5 => ?_)
    refine N_iinc (k := k) (m := 1) (c := (k + 1)) (L' := [(3, .int (nI ((k + 1)))), (0, .ref 373), (1, .long bits)]) d_Mo_hash0_171 (by decide) rfl (by decide) rfl rfl ?_
    refine T_goto (tgt := 134) d_Mo_hash0_174 rfl ?_
    exact ih (k + 1) M_3 (by omega) ⟨⟨_, h_4, fun t ht => by rcases Nat.lt_succ_iff_lt_or_eq.mp ht with h | h; rw [upd_n (by omega)]; exact e1 t h; subst h; rw [upd_s]; exact dg_v _ (Nat.mod_lt _ (by decide))⟩, (Kp.ex (Kp.tr (Kp.rf : Kp [383] M0 M0) (Kp.mono hK (by decide))) s_5 (by decide))⟩

set_option maxRecDepth 100000 in
set_option maxHeartbeats 4000000 in
theorem c_jS_coder (G : GX) (v : Nat → Int32) (s sd sn : Nat) (t_s : isSt s sd sn) : CS G mi_jS_coder [.ref s] v (fun r v' => r = some (.int (nI 0)) ∧ v' = v) := by
  refine CS.of (by decide) (Nat.le_of_ble_eq_true rfl) ?_
  generalize hQe : (fun (r : Option Value) (v' : Nat → Int32) => r = some (.int (nI 0)) ∧ v' = v) = Q
  have hQ : Q (some (.int (nI 0))) v := by rw [← hQe]; exact ⟨rfl, rfl⟩
  clear hQe
  have l_s := t_s.2.2.2.2
  show ST G mi_jS_coder 0 [(0, .ref s)] [] v 0 0 Q
  refine ST.lift (fun _ _ k => T_getstatic (q := ("java/lang/String", "COMPACT_STRINGS", "Z", .int 1)) d_jS_coder_0 (List.mem_of_getElem? (i := 14) rfl) gs_jS_38 trivial k) ?_
  refine S_topi (y := nI 1) rfl ?_
  refine S_if_eqN d_jS_coder_3 rfl (by omega) (fun c => by first | exact absurd c (by omega) | exact c.elim | exact absurd c (by decide) | exact absurd (by assumption) c | exact absurd c (by assumption)) (fun _ => ?_)
  refine ST.lift (fun _ _ k => T_aload_n (v := .ref s) d_jS_coder_6 rfl (Or.inr ⟨_, rfl⟩) k) ?_
  refine S_getSc d_jS_coder_7 gf_jS_15 t_s ?_
  refine ST.lift (fun _ _ k => T_goto (tgt := 14) d_jS_coder_10 rfl k) ?_
  refine S_topi (y := nI 0) (congrArg nI (by omega)) ?_
  exact S_ret d_jS_coder_14 rfl rfl (by decide) (by decide) hQ
set_option maxRecDepth 100000 in
set_option maxHeartbeats 4000000 in
theorem c_jS_isLatin1 (G : GX) (v : Nat → Int32) (s sd sn : Nat) (t_s : isSt s sd sn) : CS G mi_jS_isLatin1 [.ref s] v (fun r v' => r = some (.int (nI 1)) ∧ v' = v) := by
  refine CS.of (by decide) (Nat.le_of_ble_eq_true rfl) ?_
  generalize hQe : (fun (r : Option Value) (v' : Nat → Int32) => r = some (.int (nI 1)) ∧ v' = v) = Q
  have hQ : Q (some (.int (nI 1))) v := by rw [← hQe]; exact ⟨rfl, rfl⟩
  clear hQe
  have l_s := t_s.2.2.2.2
  show ST G mi_jS_isLatin1 0 [(0, .ref s)] [] v 0 0 Q
  refine ST.lift (fun _ _ k => T_getstatic (q := ("java/lang/String", "COMPACT_STRINGS", "Z", .int 1)) d_jS_isLatin1_0 (List.mem_of_getElem? (i := 14) rfl) gs_jS_38 trivial k) ?_
  refine S_topi (y := nI 1) rfl ?_
  refine S_if_eqN d_jS_isLatin1_3 rfl (by omega) (fun c => by first | exact absurd c (by omega) | exact c.elim | exact absurd c (by decide) | exact absurd (by assumption) c | exact absurd c (by assumption)) (fun _ => ?_)
  refine ST.lift (fun _ _ k => T_aload_n (v := .ref s) d_jS_isLatin1_6 rfl (Or.inr ⟨_, rfl⟩) k) ?_
  refine S_getSc d_jS_isLatin1_7 gf_jS_15 t_s ?_
  refine S_if_neN d_jS_isLatin1_10 rfl (by omega) (fun c => by first | exact absurd c (by omega) | exact c.elim | exact absurd c (by decide) | exact absurd (by assumption) c | exact absurd c (by assumption)) (fun _ => ?_)
  refine ST.lift (fun _ _ k => T_iconst (v := nI 1) d_jS_isLatin1_13 (by decide) k) ?_
  refine ST.lift (fun _ _ k => T_goto (tgt := 18) d_jS_isLatin1_14 rfl k) ?_
  refine S_topi (y := nI 1) (congrArg nI (by omega)) ?_
  exact S_ret d_jS_isLatin1_18 rfl rfl (by decide) (by decide) hQ
set_option maxRecDepth 100000 in
set_option maxHeartbeats 4000000 in
theorem c_jS_length (G : GX) (v : Nat → Int32) (s sd sn : Nat) (t_s : isSt s sd sn) : CS G mi_jS_length [.ref s] v (fun r v' => r = some (.int (nI sn)) ∧ v' = v) := by
  refine CS.of (by decide) (Nat.le_of_ble_eq_true rfl) ?_
  generalize hQe : (fun (r : Option Value) (v' : Nat → Int32) => r = some (.int (nI sn)) ∧ v' = v) = Q
  have hQ : Q (some (.int (nI sn))) v := by rw [← hQe]; exact ⟨rfl, rfl⟩
  clear hQe
  have l_s := t_s.2.2.2.2
  show ST G mi_jS_length 0 [(0, .ref s)] [] v 0 0 Q
  refine ST.lift (fun _ _ k => T_aload_n (v := .ref s) d_jS_length_0 rfl (Or.inr ⟨_, rfl⟩) k) ?_
  refine S_getSv d_jS_length_1 gf_jS_9 t_s ?_
  refine S_alenB d_jS_length_4 t_s.2.1 ?_
  refine ST.lift (fun _ _ k => T_aload_n (v := .ref s) d_jS_length_5 rfl (Or.inr ⟨_, rfl⟩) k) ?_
  refine S_virtualS (as := []) (rest := [.int (nI sn)]) (b := s) d_jS_length_6 rfl (jw_jS_coder.jo (by decide)) lm_jS_335 ji_jS_coder js_jS_coder t_s rfl rfl (Nat.le_of_ble_eq_true rfl) (by decide) (by decide) (c_jS_coder G v s sd sn t_s) (fun r v' hq => ?_)
  rw [hq.1, hq.2]
  clear hq r v'
  show ST G mi_jS_length 9 [(0, .ref s)] [.int (nI 0), .int (nI sn)] v 0 0 _
  refine S_ishrN d_jS_length_9 (by omega) (by omega) ?_
  refine S_topi (y := nI sn) (congrArg nI (by omega)) ?_
  exact S_ret d_jS_length_10 rfl rfl (by decide) (by decide) hQ
set_option maxRecDepth 100000 in
set_option maxHeartbeats 4000000 in
theorem c_jP_checkIndex_0 (G : GX) (v : Nat → Int32) (i : Nat) (b_i : i < 1000) (n : Nat) (b_n : i < n ∧ n ≤ 1000) : CS G mi_jP_checkIndex [.int (nI i), .int (nI n), .null] v (fun r v' => ∃ z : Int32, r = some (.int z) ∧ v' = v) := by
  refine CS.of (by decide) (Nat.le_of_ble_eq_true rfl) ?_
  generalize hQe : (fun (r : Option Value) (v' : Nat → Int32) => ∃ z : Int32, r = some (.int z) ∧ v' = v) = Q
  have hQ : ∀ z : Int32, Q (some (.int z)) v := by rw [← hQe]; exact fun z => ⟨z, rfl, rfl⟩
  clear hQe
  show ST G mi_jP_checkIndex 0 [(0, .int (nI i)), (1, .int (nI n)), (2, .null)] [] v 0 0 Q
  refine ST.lift (fun _ _ k => T_iload_n d_jP_checkIndex_0 rfl k) ?_
  refine S_if_ltN d_jP_checkIndex_1 rfl (by omega) (fun c => by first | exact absurd c (by omega) | exact c.elim | exact absurd c (by decide) | exact absurd (by assumption) c | exact absurd c (by assumption)) (fun _ => ?_)
  refine ST.lift (fun _ _ k => T_iload_n d_jP_checkIndex_4 rfl k) ?_
  refine ST.lift (fun _ _ k => T_iload_n d_jP_checkIndex_5 rfl k) ?_
  refine S_icmp_ltN d_jP_checkIndex_6 rfl (by omega) (by omega) (fun _ => ?_) (fun c => by first | exact absurd c (by omega) | exact c.elim | exact absurd c (by decide) | exact absurd (by assumption) c | exact absurd c (by assumption))
  refine ST.lift (fun _ _ k => T_iload_n d_jP_checkIndex_16 rfl k) ?_
  exact S_ret d_jP_checkIndex_17 rfl rfl (by decide) (by decide) (hQ _)
set_option maxRecDepth 100000 in
set_option maxHeartbeats 4000000 in
theorem c_jP_checkIndex_1 (G : GX) (v : Nat → Int32) (i : Nat) (b_i : i < 1000) (n : Nat) (b_n : i < n ∧ n ≤ 1000) : CS G mi_jP_checkIndex [.int (nI i), .int (nI n), .ref 58] v (fun r v' => ∃ z : Int32, r = some (.int z) ∧ v' = v) := by
  refine CS.of (by decide) (Nat.le_of_ble_eq_true rfl) ?_
  generalize hQe : (fun (r : Option Value) (v' : Nat → Int32) => ∃ z : Int32, r = some (.int z) ∧ v' = v) = Q
  have hQ : ∀ z : Int32, Q (some (.int z)) v := by rw [← hQe]; exact fun z => ⟨z, rfl, rfl⟩
  clear hQe
  show ST G mi_jP_checkIndex 0 [(0, .int (nI i)), (1, .int (nI n)), (2, .ref 58)] [] v 0 0 Q
  refine ST.lift (fun _ _ k => T_iload_n d_jP_checkIndex_0 rfl k) ?_
  refine S_if_ltN d_jP_checkIndex_1 rfl (by omega) (fun c => by first | exact absurd c (by omega) | exact c.elim | exact absurd c (by decide) | exact absurd (by assumption) c | exact absurd c (by assumption)) (fun _ => ?_)
  refine ST.lift (fun _ _ k => T_iload_n d_jP_checkIndex_4 rfl k) ?_
  refine ST.lift (fun _ _ k => T_iload_n d_jP_checkIndex_5 rfl k) ?_
  refine S_icmp_ltN d_jP_checkIndex_6 rfl (by omega) (by omega) (fun _ => ?_) (fun c => by first | exact absurd c (by omega) | exact c.elim | exact absurd c (by decide) | exact absurd (by assumption) c | exact absurd c (by assumption))
  refine ST.lift (fun _ _ k => T_iload_n d_jP_checkIndex_16 rfl k) ?_
  exact S_ret d_jP_checkIndex_17 rfl rfl (by decide) (by decide) (hQ _)
set_option maxRecDepth 100000 in
set_option maxHeartbeats 4000000 in
theorem c_jS_checkIndex (G : GX) (v : Nat → Int32) (i : Nat) (b_i : i < 1000) (n : Nat) (b_n : i < n ∧ n ≤ 1000) : CS G mi_jS_checkIndex [.int (nI i), .int (nI n)] v (fun r v' => r = none ∧ v' = v) := by
  refine CS.of (by decide) (Nat.le_of_ble_eq_true rfl) ?_
  generalize hQe : (fun (r : Option Value) (v' : Nat → Int32) => r = none ∧ v' = v) = Q
  have hQ : Q none v := by rw [← hQe]; exact ⟨rfl, rfl⟩
  clear hQe
  show ST G mi_jS_checkIndex 0 [(0, .int (nI i)), (1, .int (nI n))] [] v 0 0 Q
  refine ST.lift (fun _ _ k => T_iload_n d_jS_checkIndex_0 rfl k) ?_
  refine ST.lift (fun _ _ k => T_iload_n d_jS_checkIndex_1 rfl k) ?_
  refine ST.lift (fun _ _ k => T_getstatic (q := ("jdk/internal/util/Preconditions", "SIOOBE_FORMATTER", "Ljava/util/function/BiFunction;", unV G.2.2.2.2.2 0)) d_jS_checkIndex_2 (List.mem_of_getElem? (i := 18) rfl) gs_jS_1053 (unV_ok _) k) ?_
  cases h1 : G.2.2.2.2.2 0
  · refine S_topv (y := .ref 58) (by simp [unV, h1]) ?_
    refine S_static (as := [.int (nI i), .int (nI n), .ref 58]) (rest := []) d_jS_checkIndex_5 rfl (jw_jP_checkIndex.jo (by decide)) lm_jS_1059 jt_jP_checkIndex rfl (Nat.le_of_ble_eq_true rfl) (by decide) (by decide) (c_jP_checkIndex_1 G v i (by omega) n (by omega)) (fun r v' hq => ?_)
    obtain ⟨z2, hr, hv⟩ := hq
    rw [hr, hv]
    clear hr hv r v'
    show ST G mi_jS_checkIndex 8 [(0, .int (nI i)), (1, .int (nI n))] [.int z2] v 0 0 _
    refine ST.lift (fun _ _ k => T_pop d_jS_checkIndex_8 rfl k) ?_
    exact S_vret d_jS_checkIndex_9 rfl (by decide) (by decide) hQ
  · refine S_topv (y := .null) (by simp [unV, h1]) ?_
    refine S_static (as := [.int (nI i), .int (nI n), .null]) (rest := []) d_jS_checkIndex_5 rfl (jw_jP_checkIndex.jo (by decide)) lm_jS_1059 jt_jP_checkIndex rfl (Nat.le_of_ble_eq_true rfl) (by decide) (by decide) (c_jP_checkIndex_0 G v i (by omega) n (by omega)) (fun r v' hq => ?_)
    obtain ⟨z3, hr, hv⟩ := hq
    rw [hr, hv]
    clear hr hv r v'
    show ST G mi_jS_checkIndex 8 [(0, .int (nI i)), (1, .int (nI n))] [.int z3] v 0 0 _
    refine ST.lift (fun _ _ k => T_pop d_jS_checkIndex_8 rfl k) ?_
    exact S_vret d_jS_checkIndex_9 rfl (by decide) (by decide) hQ
set_option maxRecDepth 100000 in
set_option maxHeartbeats 4000000 in
theorem c_jL_charAt (G : GX) (v : Nat → Int32) (a m : Nat) (a_a : aB a m) (l_a : m ≤ 2000) (i : Nat) (b_i : i < m ∧ i < 1000 ∧ m ≤ 1000) : CS G mi_jL_charAt [.ref a, .int (nI i)] v (fun r v' => ∃ z : Int32, narrow .char (.int z) = .int z ∧ r = some (.int z) ∧ v' = v) := by
  refine CS.of (by decide) (Nat.le_of_ble_eq_true rfl) ?_
  generalize hQe : (fun (r : Option Value) (v' : Nat → Int32) => ∃ z : Int32, narrow .char (.int z) = .int z ∧ r = some (.int z) ∧ v' = v) = Q
  have hQ : ∀ z : Int32, narrow .char (.int z) = .int z → Q (some (.int z)) v := by rw [← hQe]; exact fun z hz => ⟨z, hz, rfl, rfl⟩
  clear hQe
  show ST G mi_jL_charAt 0 [(0, .ref a), (1, .int (nI i))] [] v 0 0 Q
  refine ST.lift (fun _ _ k => T_iload_n d_jL_charAt_0 rfl k) ?_
  refine ST.lift (fun _ _ k => T_aload_n (v := .ref a) d_jL_charAt_1 rfl (Or.inr ⟨_, rfl⟩) k) ?_
  refine S_alenB d_jL_charAt_2 a_a ?_
  refine S_static (as := [.int (nI i), .int (nI m)]) (rest := []) d_jL_charAt_3 rfl (jw_jS_checkIndex.jo (by decide)) lm_jL_9 jt_jS_checkIndex rfl (Nat.le_of_ble_eq_true rfl) (by decide) (by decide) (c_jS_checkIndex G v i (by omega) m (by omega)) (fun r v' hq => ?_)
  rw [hq.1, hq.2]
  clear hq r v'
  show ST G mi_jL_charAt 6 [(0, .ref a), (1, .int (nI i))] [] v 0 0 _
  refine ST.lift (fun _ _ k => T_aload_n (v := .ref a) d_jL_charAt_6 rfl (Or.inr ⟨_, rfl⟩) k) ?_
  refine ST.lift (fun _ _ k => T_iload_n d_jL_charAt_7 rfl k) ?_
  refine S_baload d_jL_charAt_8 a_a (vp_in_nI (by omega) (by omega)) (fun z1 hz1 => ?_)
  refine ST.lift (fun _ _ k => T_sipush (v := nI 255) d_jL_charAt_9 (by decide) k) ?_
  refine S_iandM 8 d_jL_charAt_12 (by decide) (by decide) (fun j2 hj2 => ?_)
  simp only [Nat.reducePow] at hj2
  refine ST.lift (fun _ _ k => T_i2c d_jL_charAt_13 k) (S_anyC (P := fun z => narrow .char (.int z) = .int z) (pk_nc _) fun z3 hz3 => ?_)
  exact S_ret d_jL_charAt_14 rfl hz3 (by decide) (by decide) (hQ _ hz3)
set_option maxRecDepth 100000 in
set_option maxHeartbeats 4000000 in
theorem c_jS_charAt (G : GX) (v : Nat → Int32) (s sd sn : Nat) (t_s : isSt s sd sn) (i : Nat) (b_i : i < sn ∧ i < 1000) : CS G mi_jS_charAt [.ref s, .int (nI i)] v (fun r v' => ∃ z : Int32, narrow .char (.int z) = .int z ∧ r = some (.int z) ∧ v' = v) := by
  refine CS.of (by decide) (Nat.le_of_ble_eq_true rfl) ?_
  generalize hQe : (fun (r : Option Value) (v' : Nat → Int32) => ∃ z : Int32, narrow .char (.int z) = .int z ∧ r = some (.int z) ∧ v' = v) = Q
  have hQ : ∀ z : Int32, narrow .char (.int z) = .int z → Q (some (.int z)) v := by rw [← hQe]; exact fun z hz => ⟨z, hz, rfl, rfl⟩
  clear hQe
  have l_s := t_s.2.2.2.2
  show ST G mi_jS_charAt 0 [(0, .ref s), (1, .int (nI i))] [] v 0 0 Q
  refine ST.lift (fun _ _ k => T_aload_n (v := .ref s) d_jS_charAt_0 rfl (Or.inr ⟨_, rfl⟩) k) ?_
  refine S_virtualS (as := []) (rest := []) (b := s) d_jS_charAt_1 rfl (jw_jS_isLatin1.jo (by decide)) lm_jS_492 ji_jS_isLatin1 js_jS_isLatin1 t_s rfl rfl (Nat.le_of_ble_eq_true rfl) (by decide) (by decide) (c_jS_isLatin1 G v s sd sn t_s) (fun r v' hq => ?_)
  rw [hq.1, hq.2]
  clear hq r v'
  show ST G mi_jS_charAt 4 [(0, .ref s), (1, .int (nI i))] [.int (nI 1)] v 0 0 _
  refine S_if_eqN d_jS_charAt_4 rfl (by omega) (fun c => by first | exact absurd c (by omega) | exact c.elim | exact absurd c (by decide) | exact absurd (by assumption) c | exact absurd c (by assumption)) (fun _ => ?_)
  refine ST.lift (fun _ _ k => T_aload_n (v := .ref s) d_jS_charAt_7 rfl (Or.inr ⟨_, rfl⟩) k) ?_
  refine S_getSv d_jS_charAt_8 gf_jS_9 t_s ?_
  refine ST.lift (fun _ _ k => T_iload_n d_jS_charAt_11 rfl k) ?_
  refine S_static (as := [.ref sd, .int (nI i)]) (rest := []) d_jS_charAt_12 rfl (jw_jL_charAt.jo (by decide)) lm_jS_495 jt_jL_charAt rfl (Nat.le_of_ble_eq_true rfl) (by decide) (by decide) (c_jL_charAt G v sd sn t_s.2.1 (by omega) i (by omega)) (fun r v' hq => ?_)
  obtain ⟨z1, hz1, hr, hv⟩ := hq
  rw [hr, hv]
  clear hr hv r v'
  show ST G mi_jS_charAt 15 [(0, .ref s), (1, .int (nI i))] [.int z1] v 0 0 _
  exact S_ret d_jS_charAt_15 rfl hz1 (by decide) (by decide) (hQ _ hz1)
set_option maxRecDepth 100000 in
set_option maxHeartbeats 4000000 in
theorem c_By_putText (G : GX) (v : Nat → Int32) (b bd bc bj : Nat) (y_b : isBy b bd bc bj) (s sd sn : Nat) (t_s : isSt s sd sn) (hv : okv v) : CS G mi_By_putText [.ref b, .ref s] v (fun r v' => r = none ∧ okv v' ∧ mdf [bj] v v') := by
  refine CS.of (by decide) (Nat.le_of_ble_eq_true rfl) ?_
  generalize hQe : (fun (r : Option Value) (v' : Nat → Int32) => r = none ∧ okv v' ∧ mdf [bj] v v') = Q
  have hQ : ∀ u, okv u → mdf [bj] v u → Q none u := by rw [← hQe]; exact fun u h1 h2 => ⟨rfl, h1, h2⟩
  clear hQe
  have hm : mdf [bj] v v := mdf.rf
  have l_b := y_b.2.2.2.2.2
  have l_s := t_s.2.2.2.2
  show ST G mi_By_putText 0 [(0, .ref b), (1, .ref s)] [] v 0 0 Q
  refine ST.lift (fun _ _ k => T_iconst (v := nI 0) d_By_putText_0 (by decide) k) ?_
  refine ST.lift (fun _ _ k => T_istore_n (L' := [(2, .int (nI 0)), (0, .ref b), (1, .ref s)]) d_By_putText_1 (by decide) rfl k) ?_
  have lp5 : ∀ (n3 k1 : Nat) (u2 : Nat → Int32) (hv_u2 : okv u2) (hm_u2 : mdf [bj] v u2), sn - k1 = n3 → 0 ≤ k1 ∧ k1 ≤ 0 + sn → ST G mi_By_putText 2 [(2, .int (nI k1)), (0, .ref b), (1, .ref s)] [] u2 0 0 Q := by
    intro n3
    induction n3 using Nat.strongRecOn with
    | _ n3 ih4 =>
      intro k1 u2 hv_u2 hm_u2 h6 h7
      refine ST.lift (fun _ _ k => T_iload_n d_By_putText_2 rfl k) ?_
      refine ST.lift (fun _ _ k => T_aload_n (v := .ref s) d_By_putText_3 rfl (Or.inr ⟨_, rfl⟩) k) ?_
      refine S_virtualS (as := []) (rest := [.int (nI k1)]) (b := s) d_By_putText_4 rfl (jw_jS_length.jo (by decide)) lm_By_31 ji_jS_length js_jS_length t_s rfl rfl (Nat.le_of_ble_eq_true rfl) (by decide) (by decide) (c_jS_length G u2 s sd sn t_s) (fun r v' hq => ?_)
      rw [hq.1, hq.2]
      clear hq r v'
      show ST G mi_By_putText 7 [(2, .int (nI k1)), (0, .ref b), (1, .ref s)] [.int (nI sn), .int (nI k1)] u2 0 0 _
      refine S_icmp_geN d_By_putText_7 rfl (by omega) (by omega) (fun c8 => ?_) (fun c8 => ?_)
      · exact S_vret d_By_putText_25 rfl (by decide) (by decide) (hQ _ hv_u2 hm_u2)
      · refine ST.lift (fun _ _ k => T_aload_n (v := .ref b) d_By_putText_10 rfl (Or.inr ⟨_, rfl⟩) k) ?_
        refine ST.lift (fun _ _ k => T_aload_n (v := .ref s) d_By_putText_11 rfl (Or.inr ⟨_, rfl⟩) k) ?_
        refine ST.lift (fun _ _ k => T_iload_n d_By_putText_12 rfl k) ?_
        refine S_virtualS (as := [.int (nI k1)]) (rest := [.ref b]) (b := s) d_By_putText_13 rfl (jw_jS_charAt.jo (by decide)) lm_By_36 ji_jS_charAt js_jS_charAt t_s rfl rfl (Nat.le_of_ble_eq_true rfl) (by decide) (by decide) (c_jS_charAt G u2 s sd sn t_s k1 (by omega)) (fun r v' hq => ?_)
        obtain ⟨z9, hz9, hr, hv⟩ := hq
        rw [hr, hv]
        clear hr hv r v'
        show ST G mi_By_putText 16 [(2, .int (nI k1)), (0, .ref b), (1, .ref s)] [.int z9, .ref b] u2 0 0 _
        refine S_virtual (as := [.int z9]) (rest := []) (b := b) d_By_putText_16 rfl (jw_By_putByte.jo (by decide)) lm_By_27 ji_By_putByte js_By_putByte (y_b.1 _) rfl rfl rfl (Nat.le_of_ble_eq_true rfl) (by decide) (by decide) (c_By_putByte G u2 b bd bc bj y_b z9 hv_u2) (fun r u10 hq => ?_)
        obtain ⟨hr, hv11, hm12⟩ := hq
        rw [hr]
        clear hr r
        have hm13 := hm_u2.go hm12 (by intro i hi; simp only [List.mem_cons, List.not_mem_nil, or_false] at hi ⊢ <;> omega)
        show ST G mi_By_putText 19 [(2, .int (nI k1)), (0, .ref b), (1, .ref s)] [] u10 0 0 _
        refine S_iincN (a := k1) (b := 1) (L' := [(2, .int (nI (k1 + 1))), (0, .ref b), (1, .ref s)]) d_By_putText_19 (by decide) rfl rfl rfl ?_
        refine ST.lift (fun _ _ k => T_goto (tgt := 2) d_By_putText_22 rfl k) ?_
        exact ih4 (sn - (k1 + 1)) (by omega) (k1 + 1)  u10 hv11 hm13 rfl (by omega)
  exact lp5 _ 0  v hv hm rfl (by omega)

set_option maxRecDepth 100000 in
set_option maxHeartbeats 4000000 in
theorem c_Ss_take_0_0_f (G : GX) (v : Nat → Int32) (e28 : v 28 = nI 0) (hv : okv v) : CS G mi_Ss_take [.ref 265, .int (nI 0)] v (fun r v' => r = some (.int (nI 0)) ∧ okv v' ∧ mdf [] v v' ∧ v' 28 = nI 0) := by
  refine CS.of (by decide) (Nat.le_of_ble_eq_true rfl) ?_
  generalize hQe : (fun (r : Option Value) (v' : Nat → Int32) => r = some (.int (nI 0)) ∧ okv v' ∧ mdf [] v v' ∧ v' 28 = nI 0) = Q
  have hQ : ∀ u, okv u → mdf [] v u → u 28 = nI 0 → Q (some (.int (nI 0))) u := by rw [← hQe]; exact fun u h1 h2 f0 => ⟨rfl, h1, h2, f0⟩
  clear hQe
  have hm : mdf [] v v := mdf.rf
  show ST G mi_Ss_take 0 [(0, .ref 265), (1, .int (nI 0))] [] v 0 0 Q
  refine ST.lift (fun _ _ k => T_aload_n (v := .ref 265) d_Ss_take_0 rfl (Or.inr ⟨_, rfl⟩) k) ?_
  refine S_getfield d_Ss_take_1 fg_Ss_11 (w265 _) rfl ?_
  refine ST.lift (fun _ _ k => T_iload_n d_Ss_take_4 rfl k) ?_
  refine S_aaload (C0 := "PasswordGate$Bytes") d_Ss_take_5 (by decide) (w266 _) rfl (vp_in_nI (by omega) (by omega)) ?_
  refine S_getfield d_Ss_take_6 fg_Ss_50 (w279 _) rfl ?_
  refine S_topi (y := nI 0) (e28) ?_
  refine S_if_eqN d_Ss_take_9 rfl (by omega) (fun _ => ?_) (fun c => by first | exact absurd c (by omega) | exact c.elim | exact absurd c (by decide) | exact absurd (by assumption) c | exact absurd c (by assumption) | exact absurd c (Int32.not_le.mpr (by assumption)))
  refine ST.lift (fun _ _ k => T_iconst (v := nI 0) d_Ss_take_21 (by decide) k) ?_
  refine S_topi (y := nI 0) (congrArg nI (by omega)) ?_
  exact S_ret d_Ss_take_22 rfl (nar_z (by omega)) (by decide) (by decide) (hQ _ hv hm (e28.trans (congrArg nI (by omega))))
set_option maxRecDepth 100000 in
set_option maxHeartbeats 4000000 in
theorem c_PG_answer_0_f (G : GX) (v : Nat → Int32) (e28 : v 28 = nI 0) (hv : okv v) : CS G mi_PG_answer [.ref 61, .int (nI 0)] v (fun r v' => r = some (.int (nI 2)) ∧ okv v' ∧ mdf [] v v') := by
  refine CS.of (by decide) (Nat.le_of_ble_eq_true rfl) ?_
  generalize hQe : (fun (r : Option Value) (v' : Nat → Int32) => r = some (.int (nI 2)) ∧ okv v' ∧ mdf [] v v') = Q
  have hQ : ∀ u, okv u → mdf [] v u → Q (some (.int (nI 2))) u := by rw [← hQe]; exact fun u h1 h2  => ⟨rfl, h1, h2⟩
  clear hQe
  have hm : mdf [] v v := mdf.rf
  show ST G mi_PG_answer 0 [(0, .ref 61), (1, .int (nI 0))] [] v 0 0 Q
  refine ST.lift (fun _ _ k => T_iload_n d_PG_answer_0 rfl k) ?_
  refine S_static (as := [.int (nI 0)]) (rest := []) d_PG_answer_1 rfl (jw_PG_isSession.jo (by decide)) lm_PG_133 jt_PG_isSession rfl (Nat.le_of_ble_eq_true rfl) (by decide) (by decide) (c_PG_isSession G v 0 (by omega)) (fun r v' hq => ?_)
  rw [hq.1, hq.2]
  clear hq r v'
  show ST G mi_PG_answer 4 [(0, .ref 61), (1, .int (nI 0))] [.int (nI 1)] v 0 0 _
  refine S_if_neN d_PG_answer_4 rfl (by omega) (fun _ => ?_) (fun c => by first | exact absurd c (by omega) | exact c.elim | exact absurd c (by decide) | exact absurd (by assumption) c | exact absurd c (by assumption) | exact absurd c (Int32.not_le.mpr (by assumption)))
  refine ST.lift (fun _ _ k => T_aload_n (v := .ref 61) d_PG_answer_9 rfl (Or.inr ⟨_, rfl⟩) k) ?_
  refine S_getfield d_PG_answer_10 fg_PG_34 (w61 _) rfl ?_
  refine ST.lift (fun _ _ k => T_iload_n d_PG_answer_13 rfl k) ?_
  refine S_aaload (C0 := "PasswordGate$Session") d_PG_answer_14 (by decide) (w264 _) rfl (vp_in_nI (by omega) (by omega)) ?_
  refine ST.lift (fun _ _ k => T_astore_n (L' := [(2, .ref 265), (0, .ref 61), (1, .int (nI 0))]) d_PG_answer_15 (by decide) rfl (Or.inr ⟨_, rfl⟩) k) ?_
  refine ST.lift (fun _ _ k => T_aload_n (v := .ref 265) d_PG_answer_16 rfl (Or.inr ⟨_, rfl⟩) k) ?_
  refine ST.lift (fun _ _ k => T_iconst (v := nI 0) d_PG_answer_17 (by decide) k) ?_
  refine S_virtual (as := [.int (nI 0)]) (rest := []) (b := 265) d_PG_answer_18 rfl (jw_Ss_take.jo (by decide)) lm_PG_139 ji_Ss_take js_Ss_take (w265 _) rfl rfl rfl (Nat.le_of_ble_eq_true rfl) (by decide) (by decide) (c_Ss_take_0_0_f G v e28 hv) (fun r u1 hq => ?_)
  obtain ⟨hr, hv2, hm3, fe0_u1⟩ := hq
  rw [hr]
  clear hr r
  have hm4 := hm.go hm3 (by intro i hi; simp only [List.mem_cons, List.not_mem_nil, or_false] at hi ⊢ <;> omega)
  have e5 : u1 28 = nI 0 := (hm3 28 (by decide)).trans e28
  show ST G mi_PG_answer 21 [(2, .ref 265), (0, .ref 61), (1, .int (nI 0))] [.int (nI 0)] u1 0 0 _
  refine S_if_eqN d_PG_answer_21 rfl (by omega) (fun _ => ?_) (fun c => by first | exact absurd c (by omega) | exact c.elim | exact absurd c (by decide) | exact absurd (by assumption) c | exact absurd c (by assumption) | exact absurd c (Int32.not_le.mpr (by assumption)))
  refine ST.lift (fun _ _ k => T_iconst (v := nI 2) d_PG_answer_43 (by decide) k) ?_
  refine S_topi (y := nI 2) (congrArg nI (by omega)) ?_
  exact S_ret d_PG_answer_44 rfl rfl (by decide) (by decide) (hQ _ hv2 hm4)
set_option maxRecDepth 100000 in
set_option maxHeartbeats 4000000 in
theorem c_Ss_take_0_1_f (G : GX) (v : Nat → Int32) (e29 : v 29 = nI 0) (hv : okv v) : CS G mi_Ss_take [.ref 265, .int (nI 1)] v (fun r v' => r = some (.int (nI 0)) ∧ okv v' ∧ mdf [] v v' ∧ v' 29 = nI 0) := by
  refine CS.of (by decide) (Nat.le_of_ble_eq_true rfl) ?_
  generalize hQe : (fun (r : Option Value) (v' : Nat → Int32) => r = some (.int (nI 0)) ∧ okv v' ∧ mdf [] v v' ∧ v' 29 = nI 0) = Q
  have hQ : ∀ u, okv u → mdf [] v u → u 29 = nI 0 → Q (some (.int (nI 0))) u := by rw [← hQe]; exact fun u h1 h2 f0 => ⟨rfl, h1, h2, f0⟩
  clear hQe
  have hm : mdf [] v v := mdf.rf
  show ST G mi_Ss_take 0 [(0, .ref 265), (1, .int (nI 1))] [] v 0 0 Q
  refine ST.lift (fun _ _ k => T_aload_n (v := .ref 265) d_Ss_take_0 rfl (Or.inr ⟨_, rfl⟩) k) ?_
  refine S_getfield d_Ss_take_1 fg_Ss_11 (w265 _) rfl ?_
  refine ST.lift (fun _ _ k => T_iload_n d_Ss_take_4 rfl k) ?_
  refine S_aaload (C0 := "PasswordGate$Bytes") d_Ss_take_5 (by decide) (w266 _) rfl (vp_in_nI (by omega) (by omega)) ?_
  refine S_getfield d_Ss_take_6 fg_Ss_50 (w281 _) rfl ?_
  refine S_topi (y := nI 0) (e29) ?_
  refine S_if_eqN d_Ss_take_9 rfl (by omega) (fun _ => ?_) (fun c => by first | exact absurd c (by omega) | exact c.elim | exact absurd c (by decide) | exact absurd (by assumption) c | exact absurd c (by assumption) | exact absurd c (Int32.not_le.mpr (by assumption)))
  refine ST.lift (fun _ _ k => T_iconst (v := nI 0) d_Ss_take_21 (by decide) k) ?_
  refine S_topi (y := nI 0) (congrArg nI (by omega)) ?_
  exact S_ret d_Ss_take_22 rfl (nar_z (by omega)) (by decide) (by decide) (hQ _ hv hm (e29.trans (congrArg nI (by omega))))
set_option maxRecDepth 100000 in
set_option maxHeartbeats 4000000 in
theorem c_PG_finish_0_f (G : GX) (v : Nat → Int32) (e29 : v 29 = nI 0) (hv : okv v) : CS G mi_PG_finish [.ref 61, .int (nI 0)] v (fun r v' => r = some (.int (nI 2)) ∧ okv v' ∧ mdf [] v v') := by
  refine CS.of (by decide) (Nat.le_of_ble_eq_true rfl) ?_
  generalize hQe : (fun (r : Option Value) (v' : Nat → Int32) => r = some (.int (nI 2)) ∧ okv v' ∧ mdf [] v v') = Q
  have hQ : ∀ u, okv u → mdf [] v u → Q (some (.int (nI 2))) u := by rw [← hQe]; exact fun u h1 h2  => ⟨rfl, h1, h2⟩
  clear hQe
  have hm : mdf [] v v := mdf.rf
  show ST G mi_PG_finish 0 [(0, .ref 61), (1, .int (nI 0))] [] v 0 0 Q
  refine ST.lift (fun _ _ k => T_iload_n d_PG_finish_0 rfl k) ?_
  refine S_static (as := [.int (nI 0)]) (rest := []) d_PG_finish_1 rfl (jw_PG_isSession.jo (by decide)) lm_PG_133 jt_PG_isSession rfl (Nat.le_of_ble_eq_true rfl) (by decide) (by decide) (c_PG_isSession G v 0 (by omega)) (fun r v' hq => ?_)
  rw [hq.1, hq.2]
  clear hq r v'
  show ST G mi_PG_finish 4 [(0, .ref 61), (1, .int (nI 0))] [.int (nI 1)] v 0 0 _
  refine S_if_neN d_PG_finish_4 rfl (by omega) (fun _ => ?_) (fun c => by first | exact absurd c (by omega) | exact c.elim | exact absurd c (by decide) | exact absurd (by assumption) c | exact absurd c (by assumption) | exact absurd c (Int32.not_le.mpr (by assumption)))
  refine ST.lift (fun _ _ k => T_aload_n (v := .ref 61) d_PG_finish_9 rfl (Or.inr ⟨_, rfl⟩) k) ?_
  refine S_getfield d_PG_finish_10 fg_PG_34 (w61 _) rfl ?_
  refine ST.lift (fun _ _ k => T_iload_n d_PG_finish_13 rfl k) ?_
  refine S_aaload (C0 := "PasswordGate$Session") d_PG_finish_14 (by decide) (w264 _) rfl (vp_in_nI (by omega) (by omega)) ?_
  refine ST.lift (fun _ _ k => T_astore_n (L' := [(2, .ref 265), (0, .ref 61), (1, .int (nI 0))]) d_PG_finish_15 (by decide) rfl (Or.inr ⟨_, rfl⟩) k) ?_
  refine ST.lift (fun _ _ k => T_aload_n (v := .ref 265) d_PG_finish_16 rfl (Or.inr ⟨_, rfl⟩) k) ?_
  refine ST.lift (fun _ _ k => T_iconst (v := nI 1) d_PG_finish_17 (by decide) k) ?_
  refine S_virtual (as := [.int (nI 1)]) (rest := []) (b := 265) d_PG_finish_18 rfl (jw_Ss_take.jo (by decide)) lm_PG_139 ji_Ss_take js_Ss_take (w265 _) rfl rfl rfl (Nat.le_of_ble_eq_true rfl) (by decide) (by decide) (c_Ss_take_0_1_f G v e29 hv) (fun r u1 hq => ?_)
  obtain ⟨hr, hv2, hm3, fe0_u1⟩ := hq
  rw [hr]
  clear hr r
  have hm4 := hm.go hm3 (by intro i hi; simp only [List.mem_cons, List.not_mem_nil, or_false] at hi ⊢ <;> omega)
  have e5 : u1 29 = nI 0 := (hm3 29 (by decide)).trans e29
  show ST G mi_PG_finish 21 [(2, .ref 265), (0, .ref 61), (1, .int (nI 0))] [.int (nI 0)] u1 0 0 _
  refine S_if_eqN d_PG_finish_21 rfl (by omega) (fun _ => ?_) (fun c => by first | exact absurd c (by omega) | exact c.elim | exact absurd c (by decide) | exact absurd (by assumption) c | exact absurd c (by assumption) | exact absurd c (Int32.not_le.mpr (by assumption)))
  refine ST.lift (fun _ _ k => T_iconst (v := nI 2) d_PG_finish_39 (by decide) k) ?_
  refine S_topi (y := nI 2) (congrArg nI (by omega)) ?_
  exact S_ret d_PG_finish_40 rfl rfl (by decide) (by decide) (hQ _ hv2 hm4)
set_option maxRecDepth 100000 in
set_option maxHeartbeats 4000000 in
theorem c_Ss_take_0_2_f (G : GX) (v : Nat → Int32) (e30 : v 30 = nI 0) (hv : okv v) : CS G mi_Ss_take [.ref 265, .int (nI 2)] v (fun r v' => r = some (.int (nI 0)) ∧ okv v' ∧ mdf [] v v' ∧ v' 30 = nI 0) := by
  refine CS.of (by decide) (Nat.le_of_ble_eq_true rfl) ?_
  generalize hQe : (fun (r : Option Value) (v' : Nat → Int32) => r = some (.int (nI 0)) ∧ okv v' ∧ mdf [] v v' ∧ v' 30 = nI 0) = Q
  have hQ : ∀ u, okv u → mdf [] v u → u 30 = nI 0 → Q (some (.int (nI 0))) u := by rw [← hQe]; exact fun u h1 h2 f0 => ⟨rfl, h1, h2, f0⟩
  clear hQe
  have hm : mdf [] v v := mdf.rf
  show ST G mi_Ss_take 0 [(0, .ref 265), (1, .int (nI 2))] [] v 0 0 Q
  refine ST.lift (fun _ _ k => T_aload_n (v := .ref 265) d_Ss_take_0 rfl (Or.inr ⟨_, rfl⟩) k) ?_
  refine S_getfield d_Ss_take_1 fg_Ss_11 (w265 _) rfl ?_
  refine ST.lift (fun _ _ k => T_iload_n d_Ss_take_4 rfl k) ?_
  refine S_aaload (C0 := "PasswordGate$Bytes") d_Ss_take_5 (by decide) (w266 _) rfl (vp_in_nI (by omega) (by omega)) ?_
  refine S_getfield d_Ss_take_6 fg_Ss_50 (w283 _) rfl ?_
  refine S_topi (y := nI 0) (e30) ?_
  refine S_if_eqN d_Ss_take_9 rfl (by omega) (fun _ => ?_) (fun c => by first | exact absurd c (by omega) | exact c.elim | exact absurd c (by decide) | exact absurd (by assumption) c | exact absurd c (by assumption) | exact absurd c (Int32.not_le.mpr (by assumption)))
  refine ST.lift (fun _ _ k => T_iconst (v := nI 0) d_Ss_take_21 (by decide) k) ?_
  refine S_topi (y := nI 0) (congrArg nI (by omega)) ?_
  exact S_ret d_Ss_take_22 rfl (nar_z (by omega)) (by decide) (by decide) (hQ _ hv hm (e30.trans (congrArg nI (by omega))))
set_option maxRecDepth 100000 in
set_option maxHeartbeats 4000000 in
theorem c_PG_accept_0_f (G : GX) (v : Nat → Int32) (e30 : v 30 = nI 0) (hv : okv v) : CS G mi_PG_accept [.ref 61, .int (nI 0)] v (fun r v' => r = some (.int (nI 2)) ∧ okv v' ∧ mdf [] v v') := by
  refine CS.of (by decide) (Nat.le_of_ble_eq_true rfl) ?_
  generalize hQe : (fun (r : Option Value) (v' : Nat → Int32) => r = some (.int (nI 2)) ∧ okv v' ∧ mdf [] v v') = Q
  have hQ : ∀ u, okv u → mdf [] v u → Q (some (.int (nI 2))) u := by rw [← hQe]; exact fun u h1 h2  => ⟨rfl, h1, h2⟩
  clear hQe
  have hm : mdf [] v v := mdf.rf
  show ST G mi_PG_accept 0 [(0, .ref 61), (1, .int (nI 0))] [] v 0 0 Q
  refine ST.lift (fun _ _ k => T_iload_n d_PG_accept_0 rfl k) ?_
  refine S_static (as := [.int (nI 0)]) (rest := []) d_PG_accept_1 rfl (jw_PG_isSession.jo (by decide)) lm_PG_133 jt_PG_isSession rfl (Nat.le_of_ble_eq_true rfl) (by decide) (by decide) (c_PG_isSession G v 0 (by omega)) (fun r v' hq => ?_)
  rw [hq.1, hq.2]
  clear hq r v'
  show ST G mi_PG_accept 4 [(0, .ref 61), (1, .int (nI 0))] [.int (nI 1)] v 0 0 _
  refine S_if_neN d_PG_accept_4 rfl (by omega) (fun _ => ?_) (fun c => by first | exact absurd c (by omega) | exact c.elim | exact absurd c (by decide) | exact absurd (by assumption) c | exact absurd c (by assumption) | exact absurd c (Int32.not_le.mpr (by assumption)))
  refine ST.lift (fun _ _ k => T_aload_n (v := .ref 61) d_PG_accept_9 rfl (Or.inr ⟨_, rfl⟩) k) ?_
  refine S_getfield d_PG_accept_10 fg_PG_34 (w61 _) rfl ?_
  refine ST.lift (fun _ _ k => T_iload_n d_PG_accept_13 rfl k) ?_
  refine S_aaload (C0 := "PasswordGate$Session") d_PG_accept_14 (by decide) (w264 _) rfl (vp_in_nI (by omega) (by omega)) ?_
  refine ST.lift (fun _ _ k => T_astore_n (L' := [(2, .ref 265), (0, .ref 61), (1, .int (nI 0))]) d_PG_accept_15 (by decide) rfl (Or.inr ⟨_, rfl⟩) k) ?_
  refine ST.lift (fun _ _ k => T_aload_n (v := .ref 265) d_PG_accept_16 rfl (Or.inr ⟨_, rfl⟩) k) ?_
  refine ST.lift (fun _ _ k => T_iconst (v := nI 2) d_PG_accept_17 (by decide) k) ?_
  refine S_virtual (as := [.int (nI 2)]) (rest := []) (b := 265) d_PG_accept_18 rfl (jw_Ss_take.jo (by decide)) lm_PG_139 ji_Ss_take js_Ss_take (w265 _) rfl rfl rfl (Nat.le_of_ble_eq_true rfl) (by decide) (by decide) (c_Ss_take_0_2_f G v e30 hv) (fun r u1 hq => ?_)
  obtain ⟨hr, hv2, hm3, fe0_u1⟩ := hq
  rw [hr]
  clear hr r
  have hm4 := hm.go hm3 (by intro i hi; simp only [List.mem_cons, List.not_mem_nil, or_false] at hi ⊢ <;> omega)
  have e5 : u1 30 = nI 0 := (hm3 30 (by decide)).trans e30
  show ST G mi_PG_accept 21 [(2, .ref 265), (0, .ref 61), (1, .int (nI 0))] [.int (nI 0)] u1 0 0 _
  refine S_if_eqN d_PG_accept_21 rfl (by omega) (fun _ => ?_) (fun c => by first | exact absurd c (by omega) | exact c.elim | exact absurd c (by decide) | exact absurd (by assumption) c | exact absurd c (by assumption) | exact absurd c (Int32.not_le.mpr (by assumption)))
  refine ST.lift (fun _ _ k => T_iconst (v := nI 2) d_PG_accept_31 (by decide) k) ?_
  refine S_topi (y := nI 2) (congrArg nI (by omega)) ?_
  exact S_ret d_PG_accept_32 rfl rfl (by decide) (by decide) (hQ _ hv2 hm4)
set_option maxRecDepth 100000 in
set_option maxHeartbeats 4000000 in
theorem c_Ss_take_1_0_f (G : GX) (v : Nat → Int32) (e38 : v 38 = nI 0) (hv : okv v) : CS G mi_Ss_take [.ref 291, .int (nI 0)] v (fun r v' => r = some (.int (nI 0)) ∧ okv v' ∧ mdf [] v v' ∧ v' 38 = nI 0) := by
  refine CS.of (by decide) (Nat.le_of_ble_eq_true rfl) ?_
  generalize hQe : (fun (r : Option Value) (v' : Nat → Int32) => r = some (.int (nI 0)) ∧ okv v' ∧ mdf [] v v' ∧ v' 38 = nI 0) = Q
  have hQ : ∀ u, okv u → mdf [] v u → u 38 = nI 0 → Q (some (.int (nI 0))) u := by rw [← hQe]; exact fun u h1 h2 f0 => ⟨rfl, h1, h2, f0⟩
  clear hQe
  have hm : mdf [] v v := mdf.rf
  show ST G mi_Ss_take 0 [(0, .ref 291), (1, .int (nI 0))] [] v 0 0 Q
  refine ST.lift (fun _ _ k => T_aload_n (v := .ref 291) d_Ss_take_0 rfl (Or.inr ⟨_, rfl⟩) k) ?_
  refine S_getfield d_Ss_take_1 fg_Ss_11 (w291 _) rfl ?_
  refine ST.lift (fun _ _ k => T_iload_n d_Ss_take_4 rfl k) ?_
  refine S_aaload (C0 := "PasswordGate$Bytes") d_Ss_take_5 (by decide) (w292 _) rfl (vp_in_nI (by omega) (by omega)) ?_
  refine S_getfield d_Ss_take_6 fg_Ss_50 (w305 _) rfl ?_
  refine S_topi (y := nI 0) (e38) ?_
  refine S_if_eqN d_Ss_take_9 rfl (by omega) (fun _ => ?_) (fun c => by first | exact absurd c (by omega) | exact c.elim | exact absurd c (by decide) | exact absurd (by assumption) c | exact absurd c (by assumption) | exact absurd c (Int32.not_le.mpr (by assumption)))
  refine ST.lift (fun _ _ k => T_iconst (v := nI 0) d_Ss_take_21 (by decide) k) ?_
  refine S_topi (y := nI 0) (congrArg nI (by omega)) ?_
  exact S_ret d_Ss_take_22 rfl (nar_z (by omega)) (by decide) (by decide) (hQ _ hv hm (e38.trans (congrArg nI (by omega))))
set_option maxRecDepth 100000 in
set_option maxHeartbeats 4000000 in
theorem c_PG_answer_1_f (G : GX) (v : Nat → Int32) (e38 : v 38 = nI 0) (hv : okv v) : CS G mi_PG_answer [.ref 61, .int (nI 1)] v (fun r v' => r = some (.int (nI 2)) ∧ okv v' ∧ mdf [] v v') := by
  refine CS.of (by decide) (Nat.le_of_ble_eq_true rfl) ?_
  generalize hQe : (fun (r : Option Value) (v' : Nat → Int32) => r = some (.int (nI 2)) ∧ okv v' ∧ mdf [] v v') = Q
  have hQ : ∀ u, okv u → mdf [] v u → Q (some (.int (nI 2))) u := by rw [← hQe]; exact fun u h1 h2  => ⟨rfl, h1, h2⟩
  clear hQe
  have hm : mdf [] v v := mdf.rf
  show ST G mi_PG_answer 0 [(0, .ref 61), (1, .int (nI 1))] [] v 0 0 Q
  refine ST.lift (fun _ _ k => T_iload_n d_PG_answer_0 rfl k) ?_
  refine S_static (as := [.int (nI 1)]) (rest := []) d_PG_answer_1 rfl (jw_PG_isSession.jo (by decide)) lm_PG_133 jt_PG_isSession rfl (Nat.le_of_ble_eq_true rfl) (by decide) (by decide) (c_PG_isSession G v 1 (by omega)) (fun r v' hq => ?_)
  rw [hq.1, hq.2]
  clear hq r v'
  show ST G mi_PG_answer 4 [(0, .ref 61), (1, .int (nI 1))] [.int (nI 1)] v 0 0 _
  refine S_if_neN d_PG_answer_4 rfl (by omega) (fun _ => ?_) (fun c => by first | exact absurd c (by omega) | exact c.elim | exact absurd c (by decide) | exact absurd (by assumption) c | exact absurd c (by assumption) | exact absurd c (Int32.not_le.mpr (by assumption)))
  refine ST.lift (fun _ _ k => T_aload_n (v := .ref 61) d_PG_answer_9 rfl (Or.inr ⟨_, rfl⟩) k) ?_
  refine S_getfield d_PG_answer_10 fg_PG_34 (w61 _) rfl ?_
  refine ST.lift (fun _ _ k => T_iload_n d_PG_answer_13 rfl k) ?_
  refine S_aaload (C0 := "PasswordGate$Session") d_PG_answer_14 (by decide) (w264 _) rfl (vp_in_nI (by omega) (by omega)) ?_
  refine ST.lift (fun _ _ k => T_astore_n (L' := [(2, .ref 291), (0, .ref 61), (1, .int (nI 1))]) d_PG_answer_15 (by decide) rfl (Or.inr ⟨_, rfl⟩) k) ?_
  refine ST.lift (fun _ _ k => T_aload_n (v := .ref 291) d_PG_answer_16 rfl (Or.inr ⟨_, rfl⟩) k) ?_
  refine ST.lift (fun _ _ k => T_iconst (v := nI 0) d_PG_answer_17 (by decide) k) ?_
  refine S_virtual (as := [.int (nI 0)]) (rest := []) (b := 291) d_PG_answer_18 rfl (jw_Ss_take.jo (by decide)) lm_PG_139 ji_Ss_take js_Ss_take (w291 _) rfl rfl rfl (Nat.le_of_ble_eq_true rfl) (by decide) (by decide) (c_Ss_take_1_0_f G v e38 hv) (fun r u1 hq => ?_)
  obtain ⟨hr, hv2, hm3, fe0_u1⟩ := hq
  rw [hr]
  clear hr r
  have hm4 := hm.go hm3 (by intro i hi; simp only [List.mem_cons, List.not_mem_nil, or_false] at hi ⊢ <;> omega)
  have e5 : u1 38 = nI 0 := (hm3 38 (by decide)).trans e38
  show ST G mi_PG_answer 21 [(2, .ref 291), (0, .ref 61), (1, .int (nI 1))] [.int (nI 0)] u1 0 0 _
  refine S_if_eqN d_PG_answer_21 rfl (by omega) (fun _ => ?_) (fun c => by first | exact absurd c (by omega) | exact c.elim | exact absurd c (by decide) | exact absurd (by assumption) c | exact absurd c (by assumption) | exact absurd c (Int32.not_le.mpr (by assumption)))
  refine ST.lift (fun _ _ k => T_iconst (v := nI 2) d_PG_answer_43 (by decide) k) ?_
  refine S_topi (y := nI 2) (congrArg nI (by omega)) ?_
  exact S_ret d_PG_answer_44 rfl rfl (by decide) (by decide) (hQ _ hv2 hm4)
set_option maxRecDepth 100000 in
set_option maxHeartbeats 4000000 in
theorem c_Ss_take_1_1_f (G : GX) (v : Nat → Int32) (e39 : v 39 = nI 0) (hv : okv v) : CS G mi_Ss_take [.ref 291, .int (nI 1)] v (fun r v' => r = some (.int (nI 0)) ∧ okv v' ∧ mdf [] v v' ∧ v' 39 = nI 0) := by
  refine CS.of (by decide) (Nat.le_of_ble_eq_true rfl) ?_
  generalize hQe : (fun (r : Option Value) (v' : Nat → Int32) => r = some (.int (nI 0)) ∧ okv v' ∧ mdf [] v v' ∧ v' 39 = nI 0) = Q
  have hQ : ∀ u, okv u → mdf [] v u → u 39 = nI 0 → Q (some (.int (nI 0))) u := by rw [← hQe]; exact fun u h1 h2 f0 => ⟨rfl, h1, h2, f0⟩
  clear hQe
  have hm : mdf [] v v := mdf.rf
  show ST G mi_Ss_take 0 [(0, .ref 291), (1, .int (nI 1))] [] v 0 0 Q
  refine ST.lift (fun _ _ k => T_aload_n (v := .ref 291) d_Ss_take_0 rfl (Or.inr ⟨_, rfl⟩) k) ?_
  refine S_getfield d_Ss_take_1 fg_Ss_11 (w291 _) rfl ?_
  refine ST.lift (fun _ _ k => T_iload_n d_Ss_take_4 rfl k) ?_
  refine S_aaload (C0 := "PasswordGate$Bytes") d_Ss_take_5 (by decide) (w292 _) rfl (vp_in_nI (by omega) (by omega)) ?_
  refine S_getfield d_Ss_take_6 fg_Ss_50 (w307 _) rfl ?_
  refine S_topi (y := nI 0) (e39) ?_
  refine S_if_eqN d_Ss_take_9 rfl (by omega) (fun _ => ?_) (fun c => by first | exact absurd c (by omega) | exact c.elim | exact absurd c (by decide) | exact absurd (by assumption) c | exact absurd c (by assumption) | exact absurd c (Int32.not_le.mpr (by assumption)))
  refine ST.lift (fun _ _ k => T_iconst (v := nI 0) d_Ss_take_21 (by decide) k) ?_
  refine S_topi (y := nI 0) (congrArg nI (by omega)) ?_
  exact S_ret d_Ss_take_22 rfl (nar_z (by omega)) (by decide) (by decide) (hQ _ hv hm (e39.trans (congrArg nI (by omega))))
set_option maxRecDepth 100000 in
set_option maxHeartbeats 4000000 in
theorem c_PG_finish_1_f (G : GX) (v : Nat → Int32) (e39 : v 39 = nI 0) (hv : okv v) : CS G mi_PG_finish [.ref 61, .int (nI 1)] v (fun r v' => r = some (.int (nI 2)) ∧ okv v' ∧ mdf [] v v') := by
  refine CS.of (by decide) (Nat.le_of_ble_eq_true rfl) ?_
  generalize hQe : (fun (r : Option Value) (v' : Nat → Int32) => r = some (.int (nI 2)) ∧ okv v' ∧ mdf [] v v') = Q
  have hQ : ∀ u, okv u → mdf [] v u → Q (some (.int (nI 2))) u := by rw [← hQe]; exact fun u h1 h2  => ⟨rfl, h1, h2⟩
  clear hQe
  have hm : mdf [] v v := mdf.rf
  show ST G mi_PG_finish 0 [(0, .ref 61), (1, .int (nI 1))] [] v 0 0 Q
  refine ST.lift (fun _ _ k => T_iload_n d_PG_finish_0 rfl k) ?_
  refine S_static (as := [.int (nI 1)]) (rest := []) d_PG_finish_1 rfl (jw_PG_isSession.jo (by decide)) lm_PG_133 jt_PG_isSession rfl (Nat.le_of_ble_eq_true rfl) (by decide) (by decide) (c_PG_isSession G v 1 (by omega)) (fun r v' hq => ?_)
  rw [hq.1, hq.2]
  clear hq r v'
  show ST G mi_PG_finish 4 [(0, .ref 61), (1, .int (nI 1))] [.int (nI 1)] v 0 0 _
  refine S_if_neN d_PG_finish_4 rfl (by omega) (fun _ => ?_) (fun c => by first | exact absurd c (by omega) | exact c.elim | exact absurd c (by decide) | exact absurd (by assumption) c | exact absurd c (by assumption) | exact absurd c (Int32.not_le.mpr (by assumption)))
  refine ST.lift (fun _ _ k => T_aload_n (v := .ref 61) d_PG_finish_9 rfl (Or.inr ⟨_, rfl⟩) k) ?_
  refine S_getfield d_PG_finish_10 fg_PG_34 (w61 _) rfl ?_
  refine ST.lift (fun _ _ k => T_iload_n d_PG_finish_13 rfl k) ?_
  refine S_aaload (C0 := "PasswordGate$Session") d_PG_finish_14 (by decide) (w264 _) rfl (vp_in_nI (by omega) (by omega)) ?_
  refine ST.lift (fun _ _ k => T_astore_n (L' := [(2, .ref 291), (0, .ref 61), (1, .int (nI 1))]) d_PG_finish_15 (by decide) rfl (Or.inr ⟨_, rfl⟩) k) ?_
  refine ST.lift (fun _ _ k => T_aload_n (v := .ref 291) d_PG_finish_16 rfl (Or.inr ⟨_, rfl⟩) k) ?_
  refine ST.lift (fun _ _ k => T_iconst (v := nI 1) d_PG_finish_17 (by decide) k) ?_
  refine S_virtual (as := [.int (nI 1)]) (rest := []) (b := 291) d_PG_finish_18 rfl (jw_Ss_take.jo (by decide)) lm_PG_139 ji_Ss_take js_Ss_take (w291 _) rfl rfl rfl (Nat.le_of_ble_eq_true rfl) (by decide) (by decide) (c_Ss_take_1_1_f G v e39 hv) (fun r u1 hq => ?_)
  obtain ⟨hr, hv2, hm3, fe0_u1⟩ := hq
  rw [hr]
  clear hr r
  have hm4 := hm.go hm3 (by intro i hi; simp only [List.mem_cons, List.not_mem_nil, or_false] at hi ⊢ <;> omega)
  have e5 : u1 39 = nI 0 := (hm3 39 (by decide)).trans e39
  show ST G mi_PG_finish 21 [(2, .ref 291), (0, .ref 61), (1, .int (nI 1))] [.int (nI 0)] u1 0 0 _
  refine S_if_eqN d_PG_finish_21 rfl (by omega) (fun _ => ?_) (fun c => by first | exact absurd c (by omega) | exact c.elim | exact absurd c (by decide) | exact absurd (by assumption) c | exact absurd c (by assumption) | exact absurd c (Int32.not_le.mpr (by assumption)))
  refine ST.lift (fun _ _ k => T_iconst (v := nI 2) d_PG_finish_39 (by decide) k) ?_
  refine S_topi (y := nI 2) (congrArg nI (by omega)) ?_
  exact S_ret d_PG_finish_40 rfl rfl (by decide) (by decide) (hQ _ hv2 hm4)
set_option maxRecDepth 100000 in
set_option maxHeartbeats 4000000 in
theorem c_Ss_take_1_2_f (G : GX) (v : Nat → Int32) (e40 : v 40 = nI 0) (hv : okv v) : CS G mi_Ss_take [.ref 291, .int (nI 2)] v (fun r v' => r = some (.int (nI 0)) ∧ okv v' ∧ mdf [] v v' ∧ v' 40 = nI 0) := by
  refine CS.of (by decide) (Nat.le_of_ble_eq_true rfl) ?_
  generalize hQe : (fun (r : Option Value) (v' : Nat → Int32) => r = some (.int (nI 0)) ∧ okv v' ∧ mdf [] v v' ∧ v' 40 = nI 0) = Q
  have hQ : ∀ u, okv u → mdf [] v u → u 40 = nI 0 → Q (some (.int (nI 0))) u := by rw [← hQe]; exact fun u h1 h2 f0 => ⟨rfl, h1, h2, f0⟩
  clear hQe
  have hm : mdf [] v v := mdf.rf
  show ST G mi_Ss_take 0 [(0, .ref 291), (1, .int (nI 2))] [] v 0 0 Q
  refine ST.lift (fun _ _ k => T_aload_n (v := .ref 291) d_Ss_take_0 rfl (Or.inr ⟨_, rfl⟩) k) ?_
  refine S_getfield d_Ss_take_1 fg_Ss_11 (w291 _) rfl ?_
  refine ST.lift (fun _ _ k => T_iload_n d_Ss_take_4 rfl k) ?_
  refine S_aaload (C0 := "PasswordGate$Bytes") d_Ss_take_5 (by decide) (w292 _) rfl (vp_in_nI (by omega) (by omega)) ?_
  refine S_getfield d_Ss_take_6 fg_Ss_50 (w309 _) rfl ?_
  refine S_topi (y := nI 0) (e40) ?_
  refine S_if_eqN d_Ss_take_9 rfl (by omega) (fun _ => ?_) (fun c => by first | exact absurd c (by omega) | exact c.elim | exact absurd c (by decide) | exact absurd (by assumption) c | exact absurd c (by assumption) | exact absurd c (Int32.not_le.mpr (by assumption)))
  refine ST.lift (fun _ _ k => T_iconst (v := nI 0) d_Ss_take_21 (by decide) k) ?_
  refine S_topi (y := nI 0) (congrArg nI (by omega)) ?_
  exact S_ret d_Ss_take_22 rfl (nar_z (by omega)) (by decide) (by decide) (hQ _ hv hm (e40.trans (congrArg nI (by omega))))
set_option maxRecDepth 100000 in
set_option maxHeartbeats 4000000 in
theorem c_PG_accept_1_f (G : GX) (v : Nat → Int32) (e40 : v 40 = nI 0) (hv : okv v) : CS G mi_PG_accept [.ref 61, .int (nI 1)] v (fun r v' => r = some (.int (nI 2)) ∧ okv v' ∧ mdf [] v v') := by
  refine CS.of (by decide) (Nat.le_of_ble_eq_true rfl) ?_
  generalize hQe : (fun (r : Option Value) (v' : Nat → Int32) => r = some (.int (nI 2)) ∧ okv v' ∧ mdf [] v v') = Q
  have hQ : ∀ u, okv u → mdf [] v u → Q (some (.int (nI 2))) u := by rw [← hQe]; exact fun u h1 h2  => ⟨rfl, h1, h2⟩
  clear hQe
  have hm : mdf [] v v := mdf.rf
  show ST G mi_PG_accept 0 [(0, .ref 61), (1, .int (nI 1))] [] v 0 0 Q
  refine ST.lift (fun _ _ k => T_iload_n d_PG_accept_0 rfl k) ?_
  refine S_static (as := [.int (nI 1)]) (rest := []) d_PG_accept_1 rfl (jw_PG_isSession.jo (by decide)) lm_PG_133 jt_PG_isSession rfl (Nat.le_of_ble_eq_true rfl) (by decide) (by decide) (c_PG_isSession G v 1 (by omega)) (fun r v' hq => ?_)
  rw [hq.1, hq.2]
  clear hq r v'
  show ST G mi_PG_accept 4 [(0, .ref 61), (1, .int (nI 1))] [.int (nI 1)] v 0 0 _
  refine S_if_neN d_PG_accept_4 rfl (by omega) (fun _ => ?_) (fun c => by first | exact absurd c (by omega) | exact c.elim | exact absurd c (by decide) | exact absurd (by assumption) c | exact absurd c (by assumption) | exact absurd c (Int32.not_le.mpr (by assumption)))
  refine ST.lift (fun _ _ k => T_aload_n (v := .ref 61) d_PG_accept_9 rfl (Or.inr ⟨_, rfl⟩) k) ?_
  refine S_getfield d_PG_accept_10 fg_PG_34 (w61 _) rfl ?_
  refine ST.lift (fun _ _ k => T_iload_n d_PG_accept_13 rfl k) ?_
  refine S_aaload (C0 := "PasswordGate$Session") d_PG_accept_14 (by decide) (w264 _) rfl (vp_in_nI (by omega) (by omega)) ?_
  refine ST.lift (fun _ _ k => T_astore_n (L' := [(2, .ref 291), (0, .ref 61), (1, .int (nI 1))]) d_PG_accept_15 (by decide) rfl (Or.inr ⟨_, rfl⟩) k) ?_
  refine ST.lift (fun _ _ k => T_aload_n (v := .ref 291) d_PG_accept_16 rfl (Or.inr ⟨_, rfl⟩) k) ?_
  refine ST.lift (fun _ _ k => T_iconst (v := nI 2) d_PG_accept_17 (by decide) k) ?_
  refine S_virtual (as := [.int (nI 2)]) (rest := []) (b := 291) d_PG_accept_18 rfl (jw_Ss_take.jo (by decide)) lm_PG_139 ji_Ss_take js_Ss_take (w291 _) rfl rfl rfl (Nat.le_of_ble_eq_true rfl) (by decide) (by decide) (c_Ss_take_1_2_f G v e40 hv) (fun r u1 hq => ?_)
  obtain ⟨hr, hv2, hm3, fe0_u1⟩ := hq
  rw [hr]
  clear hr r
  have hm4 := hm.go hm3 (by intro i hi; simp only [List.mem_cons, List.not_mem_nil, or_false] at hi ⊢ <;> omega)
  have e5 : u1 40 = nI 0 := (hm3 40 (by decide)).trans e40
  show ST G mi_PG_accept 21 [(2, .ref 291), (0, .ref 61), (1, .int (nI 1))] [.int (nI 0)] u1 0 0 _
  refine S_if_eqN d_PG_accept_21 rfl (by omega) (fun _ => ?_) (fun c => by first | exact absurd c (by omega) | exact c.elim | exact absurd c (by decide) | exact absurd (by assumption) c | exact absurd c (by assumption) | exact absurd c (Int32.not_le.mpr (by assumption)))
  refine ST.lift (fun _ _ k => T_iconst (v := nI 2) d_PG_accept_31 (by decide) k) ?_
  refine S_topi (y := nI 2) (congrArg nI (by omega)) ?_
  exact S_ret d_PG_accept_32 rfl rfl (by decide) (by decide) (hQ _ hv2 hm4)
set_option maxRecDepth 100000 in
set_option maxHeartbeats 4000000 in
theorem c_Ss_take_2_0_f (G : GX) (v : Nat → Int32) (e48 : v 48 = nI 0) (hv : okv v) : CS G mi_Ss_take [.ref 317, .int (nI 0)] v (fun r v' => r = some (.int (nI 0)) ∧ okv v' ∧ mdf [] v v' ∧ v' 48 = nI 0) := by
  refine CS.of (by decide) (Nat.le_of_ble_eq_true rfl) ?_
  generalize hQe : (fun (r : Option Value) (v' : Nat → Int32) => r = some (.int (nI 0)) ∧ okv v' ∧ mdf [] v v' ∧ v' 48 = nI 0) = Q
  have hQ : ∀ u, okv u → mdf [] v u → u 48 = nI 0 → Q (some (.int (nI 0))) u := by rw [← hQe]; exact fun u h1 h2 f0 => ⟨rfl, h1, h2, f0⟩
  clear hQe
  have hm : mdf [] v v := mdf.rf
  show ST G mi_Ss_take 0 [(0, .ref 317), (1, .int (nI 0))] [] v 0 0 Q
  refine ST.lift (fun _ _ k => T_aload_n (v := .ref 317) d_Ss_take_0 rfl (Or.inr ⟨_, rfl⟩) k) ?_
  refine S_getfield d_Ss_take_1 fg_Ss_11 (w317 _) rfl ?_
  refine ST.lift (fun _ _ k => T_iload_n d_Ss_take_4 rfl k) ?_
  refine S_aaload (C0 := "PasswordGate$Bytes") d_Ss_take_5 (by decide) (w318 _) rfl (vp_in_nI (by omega) (by omega)) ?_
  refine S_getfield d_Ss_take_6 fg_Ss_50 (w331 _) rfl ?_
  refine S_topi (y := nI 0) (e48) ?_
  refine S_if_eqN d_Ss_take_9 rfl (by omega) (fun _ => ?_) (fun c => by first | exact absurd c (by omega) | exact c.elim | exact absurd c (by decide) | exact absurd (by assumption) c | exact absurd c (by assumption) | exact absurd c (Int32.not_le.mpr (by assumption)))
  refine ST.lift (fun _ _ k => T_iconst (v := nI 0) d_Ss_take_21 (by decide) k) ?_
  refine S_topi (y := nI 0) (congrArg nI (by omega)) ?_
  exact S_ret d_Ss_take_22 rfl (nar_z (by omega)) (by decide) (by decide) (hQ _ hv hm (e48.trans (congrArg nI (by omega))))
set_option maxRecDepth 100000 in
set_option maxHeartbeats 4000000 in
theorem c_PG_answer_2_f (G : GX) (v : Nat → Int32) (e48 : v 48 = nI 0) (hv : okv v) : CS G mi_PG_answer [.ref 61, .int (nI 2)] v (fun r v' => r = some (.int (nI 2)) ∧ okv v' ∧ mdf [] v v') := by
  refine CS.of (by decide) (Nat.le_of_ble_eq_true rfl) ?_
  generalize hQe : (fun (r : Option Value) (v' : Nat → Int32) => r = some (.int (nI 2)) ∧ okv v' ∧ mdf [] v v') = Q
  have hQ : ∀ u, okv u → mdf [] v u → Q (some (.int (nI 2))) u := by rw [← hQe]; exact fun u h1 h2  => ⟨rfl, h1, h2⟩
  clear hQe
  have hm : mdf [] v v := mdf.rf
  show ST G mi_PG_answer 0 [(0, .ref 61), (1, .int (nI 2))] [] v 0 0 Q
  refine ST.lift (fun _ _ k => T_iload_n d_PG_answer_0 rfl k) ?_
  refine S_static (as := [.int (nI 2)]) (rest := []) d_PG_answer_1 rfl (jw_PG_isSession.jo (by decide)) lm_PG_133 jt_PG_isSession rfl (Nat.le_of_ble_eq_true rfl) (by decide) (by decide) (c_PG_isSession G v 2 (by omega)) (fun r v' hq => ?_)
  rw [hq.1, hq.2]
  clear hq r v'
  show ST G mi_PG_answer 4 [(0, .ref 61), (1, .int (nI 2))] [.int (nI 1)] v 0 0 _
  refine S_if_neN d_PG_answer_4 rfl (by omega) (fun _ => ?_) (fun c => by first | exact absurd c (by omega) | exact c.elim | exact absurd c (by decide) | exact absurd (by assumption) c | exact absurd c (by assumption) | exact absurd c (Int32.not_le.mpr (by assumption)))
  refine ST.lift (fun _ _ k => T_aload_n (v := .ref 61) d_PG_answer_9 rfl (Or.inr ⟨_, rfl⟩) k) ?_
  refine S_getfield d_PG_answer_10 fg_PG_34 (w61 _) rfl ?_
  refine ST.lift (fun _ _ k => T_iload_n d_PG_answer_13 rfl k) ?_
  refine S_aaload (C0 := "PasswordGate$Session") d_PG_answer_14 (by decide) (w264 _) rfl (vp_in_nI (by omega) (by omega)) ?_
  refine ST.lift (fun _ _ k => T_astore_n (L' := [(2, .ref 317), (0, .ref 61), (1, .int (nI 2))]) d_PG_answer_15 (by decide) rfl (Or.inr ⟨_, rfl⟩) k) ?_
  refine ST.lift (fun _ _ k => T_aload_n (v := .ref 317) d_PG_answer_16 rfl (Or.inr ⟨_, rfl⟩) k) ?_
  refine ST.lift (fun _ _ k => T_iconst (v := nI 0) d_PG_answer_17 (by decide) k) ?_
  refine S_virtual (as := [.int (nI 0)]) (rest := []) (b := 317) d_PG_answer_18 rfl (jw_Ss_take.jo (by decide)) lm_PG_139 ji_Ss_take js_Ss_take (w317 _) rfl rfl rfl (Nat.le_of_ble_eq_true rfl) (by decide) (by decide) (c_Ss_take_2_0_f G v e48 hv) (fun r u1 hq => ?_)
  obtain ⟨hr, hv2, hm3, fe0_u1⟩ := hq
  rw [hr]
  clear hr r
  have hm4 := hm.go hm3 (by intro i hi; simp only [List.mem_cons, List.not_mem_nil, or_false] at hi ⊢ <;> omega)
  have e5 : u1 48 = nI 0 := (hm3 48 (by decide)).trans e48
  show ST G mi_PG_answer 21 [(2, .ref 317), (0, .ref 61), (1, .int (nI 2))] [.int (nI 0)] u1 0 0 _
  refine S_if_eqN d_PG_answer_21 rfl (by omega) (fun _ => ?_) (fun c => by first | exact absurd c (by omega) | exact c.elim | exact absurd c (by decide) | exact absurd (by assumption) c | exact absurd c (by assumption) | exact absurd c (Int32.not_le.mpr (by assumption)))
  refine ST.lift (fun _ _ k => T_iconst (v := nI 2) d_PG_answer_43 (by decide) k) ?_
  refine S_topi (y := nI 2) (congrArg nI (by omega)) ?_
  exact S_ret d_PG_answer_44 rfl rfl (by decide) (by decide) (hQ _ hv2 hm4)
set_option maxRecDepth 100000 in
set_option maxHeartbeats 4000000 in
theorem c_Ss_take_2_1_f (G : GX) (v : Nat → Int32) (e49 : v 49 = nI 0) (hv : okv v) : CS G mi_Ss_take [.ref 317, .int (nI 1)] v (fun r v' => r = some (.int (nI 0)) ∧ okv v' ∧ mdf [] v v' ∧ v' 49 = nI 0) := by
  refine CS.of (by decide) (Nat.le_of_ble_eq_true rfl) ?_
  generalize hQe : (fun (r : Option Value) (v' : Nat → Int32) => r = some (.int (nI 0)) ∧ okv v' ∧ mdf [] v v' ∧ v' 49 = nI 0) = Q
  have hQ : ∀ u, okv u → mdf [] v u → u 49 = nI 0 → Q (some (.int (nI 0))) u := by rw [← hQe]; exact fun u h1 h2 f0 => ⟨rfl, h1, h2, f0⟩
  clear hQe
  have hm : mdf [] v v := mdf.rf
  show ST G mi_Ss_take 0 [(0, .ref 317), (1, .int (nI 1))] [] v 0 0 Q
  refine ST.lift (fun _ _ k => T_aload_n (v := .ref 317) d_Ss_take_0 rfl (Or.inr ⟨_, rfl⟩) k) ?_
  refine S_getfield d_Ss_take_1 fg_Ss_11 (w317 _) rfl ?_
  refine ST.lift (fun _ _ k => T_iload_n d_Ss_take_4 rfl k) ?_
  refine S_aaload (C0 := "PasswordGate$Bytes") d_Ss_take_5 (by decide) (w318 _) rfl (vp_in_nI (by omega) (by omega)) ?_
  refine S_getfield d_Ss_take_6 fg_Ss_50 (w333 _) rfl ?_
  refine S_topi (y := nI 0) (e49) ?_
  refine S_if_eqN d_Ss_take_9 rfl (by omega) (fun _ => ?_) (fun c => by first | exact absurd c (by omega) | exact c.elim | exact absurd c (by decide) | exact absurd (by assumption) c | exact absurd c (by assumption) | exact absurd c (Int32.not_le.mpr (by assumption)))
  refine ST.lift (fun _ _ k => T_iconst (v := nI 0) d_Ss_take_21 (by decide) k) ?_
  refine S_topi (y := nI 0) (congrArg nI (by omega)) ?_
  exact S_ret d_Ss_take_22 rfl (nar_z (by omega)) (by decide) (by decide) (hQ _ hv hm (e49.trans (congrArg nI (by omega))))
set_option maxRecDepth 100000 in
set_option maxHeartbeats 4000000 in
theorem c_PG_finish_2_f (G : GX) (v : Nat → Int32) (e49 : v 49 = nI 0) (hv : okv v) : CS G mi_PG_finish [.ref 61, .int (nI 2)] v (fun r v' => r = some (.int (nI 2)) ∧ okv v' ∧ mdf [] v v') := by
  refine CS.of (by decide) (Nat.le_of_ble_eq_true rfl) ?_
  generalize hQe : (fun (r : Option Value) (v' : Nat → Int32) => r = some (.int (nI 2)) ∧ okv v' ∧ mdf [] v v') = Q
  have hQ : ∀ u, okv u → mdf [] v u → Q (some (.int (nI 2))) u := by rw [← hQe]; exact fun u h1 h2  => ⟨rfl, h1, h2⟩
  clear hQe
  have hm : mdf [] v v := mdf.rf
  show ST G mi_PG_finish 0 [(0, .ref 61), (1, .int (nI 2))] [] v 0 0 Q
  refine ST.lift (fun _ _ k => T_iload_n d_PG_finish_0 rfl k) ?_
  refine S_static (as := [.int (nI 2)]) (rest := []) d_PG_finish_1 rfl (jw_PG_isSession.jo (by decide)) lm_PG_133 jt_PG_isSession rfl (Nat.le_of_ble_eq_true rfl) (by decide) (by decide) (c_PG_isSession G v 2 (by omega)) (fun r v' hq => ?_)
  rw [hq.1, hq.2]
  clear hq r v'
  show ST G mi_PG_finish 4 [(0, .ref 61), (1, .int (nI 2))] [.int (nI 1)] v 0 0 _
  refine S_if_neN d_PG_finish_4 rfl (by omega) (fun _ => ?_) (fun c => by first | exact absurd c (by omega) | exact c.elim | exact absurd c (by decide) | exact absurd (by assumption) c | exact absurd c (by assumption) | exact absurd c (Int32.not_le.mpr (by assumption)))
  refine ST.lift (fun _ _ k => T_aload_n (v := .ref 61) d_PG_finish_9 rfl (Or.inr ⟨_, rfl⟩) k) ?_
  refine S_getfield d_PG_finish_10 fg_PG_34 (w61 _) rfl ?_
  refine ST.lift (fun _ _ k => T_iload_n d_PG_finish_13 rfl k) ?_
  refine S_aaload (C0 := "PasswordGate$Session") d_PG_finish_14 (by decide) (w264 _) rfl (vp_in_nI (by omega) (by omega)) ?_
  refine ST.lift (fun _ _ k => T_astore_n (L' := [(2, .ref 317), (0, .ref 61), (1, .int (nI 2))]) d_PG_finish_15 (by decide) rfl (Or.inr ⟨_, rfl⟩) k) ?_
  refine ST.lift (fun _ _ k => T_aload_n (v := .ref 317) d_PG_finish_16 rfl (Or.inr ⟨_, rfl⟩) k) ?_
  refine ST.lift (fun _ _ k => T_iconst (v := nI 1) d_PG_finish_17 (by decide) k) ?_
  refine S_virtual (as := [.int (nI 1)]) (rest := []) (b := 317) d_PG_finish_18 rfl (jw_Ss_take.jo (by decide)) lm_PG_139 ji_Ss_take js_Ss_take (w317 _) rfl rfl rfl (Nat.le_of_ble_eq_true rfl) (by decide) (by decide) (c_Ss_take_2_1_f G v e49 hv) (fun r u1 hq => ?_)
  obtain ⟨hr, hv2, hm3, fe0_u1⟩ := hq
  rw [hr]
  clear hr r
  have hm4 := hm.go hm3 (by intro i hi; simp only [List.mem_cons, List.not_mem_nil, or_false] at hi ⊢ <;> omega)
  have e5 : u1 49 = nI 0 := (hm3 49 (by decide)).trans e49
  show ST G mi_PG_finish 21 [(2, .ref 317), (0, .ref 61), (1, .int (nI 2))] [.int (nI 0)] u1 0 0 _
  refine S_if_eqN d_PG_finish_21 rfl (by omega) (fun _ => ?_) (fun c => by first | exact absurd c (by omega) | exact c.elim | exact absurd c (by decide) | exact absurd (by assumption) c | exact absurd c (by assumption) | exact absurd c (Int32.not_le.mpr (by assumption)))
  refine ST.lift (fun _ _ k => T_iconst (v := nI 2) d_PG_finish_39 (by decide) k) ?_
  refine S_topi (y := nI 2) (congrArg nI (by omega)) ?_
  exact S_ret d_PG_finish_40 rfl rfl (by decide) (by decide) (hQ _ hv2 hm4)
set_option maxRecDepth 100000 in
set_option maxHeartbeats 4000000 in
theorem c_Ss_take_2_2_f (G : GX) (v : Nat → Int32) (e50 : v 50 = nI 0) (hv : okv v) : CS G mi_Ss_take [.ref 317, .int (nI 2)] v (fun r v' => r = some (.int (nI 0)) ∧ okv v' ∧ mdf [] v v' ∧ v' 50 = nI 0) := by
  refine CS.of (by decide) (Nat.le_of_ble_eq_true rfl) ?_
  generalize hQe : (fun (r : Option Value) (v' : Nat → Int32) => r = some (.int (nI 0)) ∧ okv v' ∧ mdf [] v v' ∧ v' 50 = nI 0) = Q
  have hQ : ∀ u, okv u → mdf [] v u → u 50 = nI 0 → Q (some (.int (nI 0))) u := by rw [← hQe]; exact fun u h1 h2 f0 => ⟨rfl, h1, h2, f0⟩
  clear hQe
  have hm : mdf [] v v := mdf.rf
  show ST G mi_Ss_take 0 [(0, .ref 317), (1, .int (nI 2))] [] v 0 0 Q
  refine ST.lift (fun _ _ k => T_aload_n (v := .ref 317) d_Ss_take_0 rfl (Or.inr ⟨_, rfl⟩) k) ?_
  refine S_getfield d_Ss_take_1 fg_Ss_11 (w317 _) rfl ?_
  refine ST.lift (fun _ _ k => T_iload_n d_Ss_take_4 rfl k) ?_
  refine S_aaload (C0 := "PasswordGate$Bytes") d_Ss_take_5 (by decide) (w318 _) rfl (vp_in_nI (by omega) (by omega)) ?_
  refine S_getfield d_Ss_take_6 fg_Ss_50 (w335 _) rfl ?_
  refine S_topi (y := nI 0) (e50) ?_
  refine S_if_eqN d_Ss_take_9 rfl (by omega) (fun _ => ?_) (fun c => by first | exact absurd c (by omega) | exact c.elim | exact absurd c (by decide) | exact absurd (by assumption) c | exact absurd c (by assumption) | exact absurd c (Int32.not_le.mpr (by assumption)))
  refine ST.lift (fun _ _ k => T_iconst (v := nI 0) d_Ss_take_21 (by decide) k) ?_
  refine S_topi (y := nI 0) (congrArg nI (by omega)) ?_
  exact S_ret d_Ss_take_22 rfl (nar_z (by omega)) (by decide) (by decide) (hQ _ hv hm (e50.trans (congrArg nI (by omega))))
set_option maxRecDepth 100000 in
set_option maxHeartbeats 4000000 in
theorem c_PG_accept_2_f (G : GX) (v : Nat → Int32) (e50 : v 50 = nI 0) (hv : okv v) : CS G mi_PG_accept [.ref 61, .int (nI 2)] v (fun r v' => r = some (.int (nI 2)) ∧ okv v' ∧ mdf [] v v') := by
  refine CS.of (by decide) (Nat.le_of_ble_eq_true rfl) ?_
  generalize hQe : (fun (r : Option Value) (v' : Nat → Int32) => r = some (.int (nI 2)) ∧ okv v' ∧ mdf [] v v') = Q
  have hQ : ∀ u, okv u → mdf [] v u → Q (some (.int (nI 2))) u := by rw [← hQe]; exact fun u h1 h2  => ⟨rfl, h1, h2⟩
  clear hQe
  have hm : mdf [] v v := mdf.rf
  show ST G mi_PG_accept 0 [(0, .ref 61), (1, .int (nI 2))] [] v 0 0 Q
  refine ST.lift (fun _ _ k => T_iload_n d_PG_accept_0 rfl k) ?_
  refine S_static (as := [.int (nI 2)]) (rest := []) d_PG_accept_1 rfl (jw_PG_isSession.jo (by decide)) lm_PG_133 jt_PG_isSession rfl (Nat.le_of_ble_eq_true rfl) (by decide) (by decide) (c_PG_isSession G v 2 (by omega)) (fun r v' hq => ?_)
  rw [hq.1, hq.2]
  clear hq r v'
  show ST G mi_PG_accept 4 [(0, .ref 61), (1, .int (nI 2))] [.int (nI 1)] v 0 0 _
  refine S_if_neN d_PG_accept_4 rfl (by omega) (fun _ => ?_) (fun c => by first | exact absurd c (by omega) | exact c.elim | exact absurd c (by decide) | exact absurd (by assumption) c | exact absurd c (by assumption) | exact absurd c (Int32.not_le.mpr (by assumption)))
  refine ST.lift (fun _ _ k => T_aload_n (v := .ref 61) d_PG_accept_9 rfl (Or.inr ⟨_, rfl⟩) k) ?_
  refine S_getfield d_PG_accept_10 fg_PG_34 (w61 _) rfl ?_
  refine ST.lift (fun _ _ k => T_iload_n d_PG_accept_13 rfl k) ?_
  refine S_aaload (C0 := "PasswordGate$Session") d_PG_accept_14 (by decide) (w264 _) rfl (vp_in_nI (by omega) (by omega)) ?_
  refine ST.lift (fun _ _ k => T_astore_n (L' := [(2, .ref 317), (0, .ref 61), (1, .int (nI 2))]) d_PG_accept_15 (by decide) rfl (Or.inr ⟨_, rfl⟩) k) ?_
  refine ST.lift (fun _ _ k => T_aload_n (v := .ref 317) d_PG_accept_16 rfl (Or.inr ⟨_, rfl⟩) k) ?_
  refine ST.lift (fun _ _ k => T_iconst (v := nI 2) d_PG_accept_17 (by decide) k) ?_
  refine S_virtual (as := [.int (nI 2)]) (rest := []) (b := 317) d_PG_accept_18 rfl (jw_Ss_take.jo (by decide)) lm_PG_139 ji_Ss_take js_Ss_take (w317 _) rfl rfl rfl (Nat.le_of_ble_eq_true rfl) (by decide) (by decide) (c_Ss_take_2_2_f G v e50 hv) (fun r u1 hq => ?_)
  obtain ⟨hr, hv2, hm3, fe0_u1⟩ := hq
  rw [hr]
  clear hr r
  have hm4 := hm.go hm3 (by intro i hi; simp only [List.mem_cons, List.not_mem_nil, or_false] at hi ⊢ <;> omega)
  have e5 : u1 50 = nI 0 := (hm3 50 (by decide)).trans e50
  show ST G mi_PG_accept 21 [(2, .ref 317), (0, .ref 61), (1, .int (nI 2))] [.int (nI 0)] u1 0 0 _
  refine S_if_eqN d_PG_accept_21 rfl (by omega) (fun _ => ?_) (fun c => by first | exact absurd c (by omega) | exact c.elim | exact absurd c (by decide) | exact absurd (by assumption) c | exact absurd c (by assumption) | exact absurd c (Int32.not_le.mpr (by assumption)))
  refine ST.lift (fun _ _ k => T_iconst (v := nI 2) d_PG_accept_31 (by decide) k) ?_
  refine S_topi (y := nI 2) (congrArg nI (by omega)) ?_
  exact S_ret d_PG_accept_32 rfl rfl (by decide) (by decide) (hQ _ hv2 hm4)
set_option maxRecDepth 100000 in
set_option maxHeartbeats 4000000 in
theorem c_Ss_take_3_0_f (G : GX) (v : Nat → Int32) (e58 : v 58 = nI 0) (hv : okv v) : CS G mi_Ss_take [.ref 343, .int (nI 0)] v (fun r v' => r = some (.int (nI 0)) ∧ okv v' ∧ mdf [] v v' ∧ v' 58 = nI 0) := by
  refine CS.of (by decide) (Nat.le_of_ble_eq_true rfl) ?_
  generalize hQe : (fun (r : Option Value) (v' : Nat → Int32) => r = some (.int (nI 0)) ∧ okv v' ∧ mdf [] v v' ∧ v' 58 = nI 0) = Q
  have hQ : ∀ u, okv u → mdf [] v u → u 58 = nI 0 → Q (some (.int (nI 0))) u := by rw [← hQe]; exact fun u h1 h2 f0 => ⟨rfl, h1, h2, f0⟩
  clear hQe
  have hm : mdf [] v v := mdf.rf
  show ST G mi_Ss_take 0 [(0, .ref 343), (1, .int (nI 0))] [] v 0 0 Q
  refine ST.lift (fun _ _ k => T_aload_n (v := .ref 343) d_Ss_take_0 rfl (Or.inr ⟨_, rfl⟩) k) ?_
  refine S_getfield d_Ss_take_1 fg_Ss_11 (w343 _) rfl ?_
  refine ST.lift (fun _ _ k => T_iload_n d_Ss_take_4 rfl k) ?_
  refine S_aaload (C0 := "PasswordGate$Bytes") d_Ss_take_5 (by decide) (w344 _) rfl (vp_in_nI (by omega) (by omega)) ?_
  refine S_getfield d_Ss_take_6 fg_Ss_50 (w357 _) rfl ?_
  refine S_topi (y := nI 0) (e58) ?_
  refine S_if_eqN d_Ss_take_9 rfl (by omega) (fun _ => ?_) (fun c => by first | exact absurd c (by omega) | exact c.elim | exact absurd c (by decide) | exact absurd (by assumption) c | exact absurd c (by assumption) | exact absurd c (Int32.not_le.mpr (by assumption)))
  refine ST.lift (fun _ _ k => T_iconst (v := nI 0) d_Ss_take_21 (by decide) k) ?_
  refine S_topi (y := nI 0) (congrArg nI (by omega)) ?_
  exact S_ret d_Ss_take_22 rfl (nar_z (by omega)) (by decide) (by decide) (hQ _ hv hm (e58.trans (congrArg nI (by omega))))
set_option maxRecDepth 100000 in
set_option maxHeartbeats 4000000 in
theorem c_PG_answer_3_f (G : GX) (v : Nat → Int32) (e58 : v 58 = nI 0) (hv : okv v) : CS G mi_PG_answer [.ref 61, .int (nI 3)] v (fun r v' => r = some (.int (nI 2)) ∧ okv v' ∧ mdf [] v v') := by
  refine CS.of (by decide) (Nat.le_of_ble_eq_true rfl) ?_
  generalize hQe : (fun (r : Option Value) (v' : Nat → Int32) => r = some (.int (nI 2)) ∧ okv v' ∧ mdf [] v v') = Q
  have hQ : ∀ u, okv u → mdf [] v u → Q (some (.int (nI 2))) u := by rw [← hQe]; exact fun u h1 h2  => ⟨rfl, h1, h2⟩
  clear hQe
  have hm : mdf [] v v := mdf.rf
  show ST G mi_PG_answer 0 [(0, .ref 61), (1, .int (nI 3))] [] v 0 0 Q
  refine ST.lift (fun _ _ k => T_iload_n d_PG_answer_0 rfl k) ?_
  refine S_static (as := [.int (nI 3)]) (rest := []) d_PG_answer_1 rfl (jw_PG_isSession.jo (by decide)) lm_PG_133 jt_PG_isSession rfl (Nat.le_of_ble_eq_true rfl) (by decide) (by decide) (c_PG_isSession G v 3 (by omega)) (fun r v' hq => ?_)
  rw [hq.1, hq.2]
  clear hq r v'
  show ST G mi_PG_answer 4 [(0, .ref 61), (1, .int (nI 3))] [.int (nI 1)] v 0 0 _
  refine S_if_neN d_PG_answer_4 rfl (by omega) (fun _ => ?_) (fun c => by first | exact absurd c (by omega) | exact c.elim | exact absurd c (by decide) | exact absurd (by assumption) c | exact absurd c (by assumption) | exact absurd c (Int32.not_le.mpr (by assumption)))
  refine ST.lift (fun _ _ k => T_aload_n (v := .ref 61) d_PG_answer_9 rfl (Or.inr ⟨_, rfl⟩) k) ?_
  refine S_getfield d_PG_answer_10 fg_PG_34 (w61 _) rfl ?_
  refine ST.lift (fun _ _ k => T_iload_n d_PG_answer_13 rfl k) ?_
  refine S_aaload (C0 := "PasswordGate$Session") d_PG_answer_14 (by decide) (w264 _) rfl (vp_in_nI (by omega) (by omega)) ?_
  refine ST.lift (fun _ _ k => T_astore_n (L' := [(2, .ref 343), (0, .ref 61), (1, .int (nI 3))]) d_PG_answer_15 (by decide) rfl (Or.inr ⟨_, rfl⟩) k) ?_
  refine ST.lift (fun _ _ k => T_aload_n (v := .ref 343) d_PG_answer_16 rfl (Or.inr ⟨_, rfl⟩) k) ?_
  refine ST.lift (fun _ _ k => T_iconst (v := nI 0) d_PG_answer_17 (by decide) k) ?_
  refine S_virtual (as := [.int (nI 0)]) (rest := []) (b := 343) d_PG_answer_18 rfl (jw_Ss_take.jo (by decide)) lm_PG_139 ji_Ss_take js_Ss_take (w343 _) rfl rfl rfl (Nat.le_of_ble_eq_true rfl) (by decide) (by decide) (c_Ss_take_3_0_f G v e58 hv) (fun r u1 hq => ?_)
  obtain ⟨hr, hv2, hm3, fe0_u1⟩ := hq
  rw [hr]
  clear hr r
  have hm4 := hm.go hm3 (by intro i hi; simp only [List.mem_cons, List.not_mem_nil, or_false] at hi ⊢ <;> omega)
  have e5 : u1 58 = nI 0 := (hm3 58 (by decide)).trans e58
  show ST G mi_PG_answer 21 [(2, .ref 343), (0, .ref 61), (1, .int (nI 3))] [.int (nI 0)] u1 0 0 _
  refine S_if_eqN d_PG_answer_21 rfl (by omega) (fun _ => ?_) (fun c => by first | exact absurd c (by omega) | exact c.elim | exact absurd c (by decide) | exact absurd (by assumption) c | exact absurd c (by assumption) | exact absurd c (Int32.not_le.mpr (by assumption)))
  refine ST.lift (fun _ _ k => T_iconst (v := nI 2) d_PG_answer_43 (by decide) k) ?_
  refine S_topi (y := nI 2) (congrArg nI (by omega)) ?_
  exact S_ret d_PG_answer_44 rfl rfl (by decide) (by decide) (hQ _ hv2 hm4)
set_option maxRecDepth 100000 in
set_option maxHeartbeats 4000000 in
theorem c_Ss_take_3_1_f (G : GX) (v : Nat → Int32) (e59 : v 59 = nI 0) (hv : okv v) : CS G mi_Ss_take [.ref 343, .int (nI 1)] v (fun r v' => r = some (.int (nI 0)) ∧ okv v' ∧ mdf [] v v' ∧ v' 59 = nI 0) := by
  refine CS.of (by decide) (Nat.le_of_ble_eq_true rfl) ?_
  generalize hQe : (fun (r : Option Value) (v' : Nat → Int32) => r = some (.int (nI 0)) ∧ okv v' ∧ mdf [] v v' ∧ v' 59 = nI 0) = Q
  have hQ : ∀ u, okv u → mdf [] v u → u 59 = nI 0 → Q (some (.int (nI 0))) u := by rw [← hQe]; exact fun u h1 h2 f0 => ⟨rfl, h1, h2, f0⟩
  clear hQe
  have hm : mdf [] v v := mdf.rf
  show ST G mi_Ss_take 0 [(0, .ref 343), (1, .int (nI 1))] [] v 0 0 Q
  refine ST.lift (fun _ _ k => T_aload_n (v := .ref 343) d_Ss_take_0 rfl (Or.inr ⟨_, rfl⟩) k) ?_
  refine S_getfield d_Ss_take_1 fg_Ss_11 (w343 _) rfl ?_
  refine ST.lift (fun _ _ k => T_iload_n d_Ss_take_4 rfl k) ?_
  refine S_aaload (C0 := "PasswordGate$Bytes") d_Ss_take_5 (by decide) (w344 _) rfl (vp_in_nI (by omega) (by omega)) ?_
  refine S_getfield d_Ss_take_6 fg_Ss_50 (w359 _) rfl ?_
  refine S_topi (y := nI 0) (e59) ?_
  refine S_if_eqN d_Ss_take_9 rfl (by omega) (fun _ => ?_) (fun c => by first | exact absurd c (by omega) | exact c.elim | exact absurd c (by decide) | exact absurd (by assumption) c | exact absurd c (by assumption) | exact absurd c (Int32.not_le.mpr (by assumption)))
  refine ST.lift (fun _ _ k => T_iconst (v := nI 0) d_Ss_take_21 (by decide) k) ?_
  refine S_topi (y := nI 0) (congrArg nI (by omega)) ?_
  exact S_ret d_Ss_take_22 rfl (nar_z (by omega)) (by decide) (by decide) (hQ _ hv hm (e59.trans (congrArg nI (by omega))))
set_option maxRecDepth 100000 in
set_option maxHeartbeats 4000000 in
theorem c_PG_finish_3_f (G : GX) (v : Nat → Int32) (e59 : v 59 = nI 0) (hv : okv v) : CS G mi_PG_finish [.ref 61, .int (nI 3)] v (fun r v' => r = some (.int (nI 2)) ∧ okv v' ∧ mdf [] v v') := by
  refine CS.of (by decide) (Nat.le_of_ble_eq_true rfl) ?_
  generalize hQe : (fun (r : Option Value) (v' : Nat → Int32) => r = some (.int (nI 2)) ∧ okv v' ∧ mdf [] v v') = Q
  have hQ : ∀ u, okv u → mdf [] v u → Q (some (.int (nI 2))) u := by rw [← hQe]; exact fun u h1 h2  => ⟨rfl, h1, h2⟩
  clear hQe
  have hm : mdf [] v v := mdf.rf
  show ST G mi_PG_finish 0 [(0, .ref 61), (1, .int (nI 3))] [] v 0 0 Q
  refine ST.lift (fun _ _ k => T_iload_n d_PG_finish_0 rfl k) ?_
  refine S_static (as := [.int (nI 3)]) (rest := []) d_PG_finish_1 rfl (jw_PG_isSession.jo (by decide)) lm_PG_133 jt_PG_isSession rfl (Nat.le_of_ble_eq_true rfl) (by decide) (by decide) (c_PG_isSession G v 3 (by omega)) (fun r v' hq => ?_)
  rw [hq.1, hq.2]
  clear hq r v'
  show ST G mi_PG_finish 4 [(0, .ref 61), (1, .int (nI 3))] [.int (nI 1)] v 0 0 _
  refine S_if_neN d_PG_finish_4 rfl (by omega) (fun _ => ?_) (fun c => by first | exact absurd c (by omega) | exact c.elim | exact absurd c (by decide) | exact absurd (by assumption) c | exact absurd c (by assumption) | exact absurd c (Int32.not_le.mpr (by assumption)))
  refine ST.lift (fun _ _ k => T_aload_n (v := .ref 61) d_PG_finish_9 rfl (Or.inr ⟨_, rfl⟩) k) ?_
  refine S_getfield d_PG_finish_10 fg_PG_34 (w61 _) rfl ?_
  refine ST.lift (fun _ _ k => T_iload_n d_PG_finish_13 rfl k) ?_
  refine S_aaload (C0 := "PasswordGate$Session") d_PG_finish_14 (by decide) (w264 _) rfl (vp_in_nI (by omega) (by omega)) ?_
  refine ST.lift (fun _ _ k => T_astore_n (L' := [(2, .ref 343), (0, .ref 61), (1, .int (nI 3))]) d_PG_finish_15 (by decide) rfl (Or.inr ⟨_, rfl⟩) k) ?_
  refine ST.lift (fun _ _ k => T_aload_n (v := .ref 343) d_PG_finish_16 rfl (Or.inr ⟨_, rfl⟩) k) ?_
  refine ST.lift (fun _ _ k => T_iconst (v := nI 1) d_PG_finish_17 (by decide) k) ?_
  refine S_virtual (as := [.int (nI 1)]) (rest := []) (b := 343) d_PG_finish_18 rfl (jw_Ss_take.jo (by decide)) lm_PG_139 ji_Ss_take js_Ss_take (w343 _) rfl rfl rfl (Nat.le_of_ble_eq_true rfl) (by decide) (by decide) (c_Ss_take_3_1_f G v e59 hv) (fun r u1 hq => ?_)
  obtain ⟨hr, hv2, hm3, fe0_u1⟩ := hq
  rw [hr]
  clear hr r
  have hm4 := hm.go hm3 (by intro i hi; simp only [List.mem_cons, List.not_mem_nil, or_false] at hi ⊢ <;> omega)
  have e5 : u1 59 = nI 0 := (hm3 59 (by decide)).trans e59
  show ST G mi_PG_finish 21 [(2, .ref 343), (0, .ref 61), (1, .int (nI 3))] [.int (nI 0)] u1 0 0 _
  refine S_if_eqN d_PG_finish_21 rfl (by omega) (fun _ => ?_) (fun c => by first | exact absurd c (by omega) | exact c.elim | exact absurd c (by decide) | exact absurd (by assumption) c | exact absurd c (by assumption) | exact absurd c (Int32.not_le.mpr (by assumption)))
  refine ST.lift (fun _ _ k => T_iconst (v := nI 2) d_PG_finish_39 (by decide) k) ?_
  refine S_topi (y := nI 2) (congrArg nI (by omega)) ?_
  exact S_ret d_PG_finish_40 rfl rfl (by decide) (by decide) (hQ _ hv2 hm4)
set_option maxRecDepth 100000 in
set_option maxHeartbeats 4000000 in
theorem c_Ss_take_3_2_f (G : GX) (v : Nat → Int32) (e60 : v 60 = nI 0) (hv : okv v) : CS G mi_Ss_take [.ref 343, .int (nI 2)] v (fun r v' => r = some (.int (nI 0)) ∧ okv v' ∧ mdf [] v v' ∧ v' 60 = nI 0) := by
  refine CS.of (by decide) (Nat.le_of_ble_eq_true rfl) ?_
  generalize hQe : (fun (r : Option Value) (v' : Nat → Int32) => r = some (.int (nI 0)) ∧ okv v' ∧ mdf [] v v' ∧ v' 60 = nI 0) = Q
  have hQ : ∀ u, okv u → mdf [] v u → u 60 = nI 0 → Q (some (.int (nI 0))) u := by rw [← hQe]; exact fun u h1 h2 f0 => ⟨rfl, h1, h2, f0⟩
  clear hQe
  have hm : mdf [] v v := mdf.rf
  show ST G mi_Ss_take 0 [(0, .ref 343), (1, .int (nI 2))] [] v 0 0 Q
  refine ST.lift (fun _ _ k => T_aload_n (v := .ref 343) d_Ss_take_0 rfl (Or.inr ⟨_, rfl⟩) k) ?_
  refine S_getfield d_Ss_take_1 fg_Ss_11 (w343 _) rfl ?_
  refine ST.lift (fun _ _ k => T_iload_n d_Ss_take_4 rfl k) ?_
  refine S_aaload (C0 := "PasswordGate$Bytes") d_Ss_take_5 (by decide) (w344 _) rfl (vp_in_nI (by omega) (by omega)) ?_
  refine S_getfield d_Ss_take_6 fg_Ss_50 (w361 _) rfl ?_
  refine S_topi (y := nI 0) (e60) ?_
  refine S_if_eqN d_Ss_take_9 rfl (by omega) (fun _ => ?_) (fun c => by first | exact absurd c (by omega) | exact c.elim | exact absurd c (by decide) | exact absurd (by assumption) c | exact absurd c (by assumption) | exact absurd c (Int32.not_le.mpr (by assumption)))
  refine ST.lift (fun _ _ k => T_iconst (v := nI 0) d_Ss_take_21 (by decide) k) ?_
  refine S_topi (y := nI 0) (congrArg nI (by omega)) ?_
  exact S_ret d_Ss_take_22 rfl (nar_z (by omega)) (by decide) (by decide) (hQ _ hv hm (e60.trans (congrArg nI (by omega))))
set_option maxRecDepth 100000 in
set_option maxHeartbeats 4000000 in
theorem c_PG_accept_3_f (G : GX) (v : Nat → Int32) (e60 : v 60 = nI 0) (hv : okv v) : CS G mi_PG_accept [.ref 61, .int (nI 3)] v (fun r v' => r = some (.int (nI 2)) ∧ okv v' ∧ mdf [] v v') := by
  refine CS.of (by decide) (Nat.le_of_ble_eq_true rfl) ?_
  generalize hQe : (fun (r : Option Value) (v' : Nat → Int32) => r = some (.int (nI 2)) ∧ okv v' ∧ mdf [] v v') = Q
  have hQ : ∀ u, okv u → mdf [] v u → Q (some (.int (nI 2))) u := by rw [← hQe]; exact fun u h1 h2  => ⟨rfl, h1, h2⟩
  clear hQe
  have hm : mdf [] v v := mdf.rf
  show ST G mi_PG_accept 0 [(0, .ref 61), (1, .int (nI 3))] [] v 0 0 Q
  refine ST.lift (fun _ _ k => T_iload_n d_PG_accept_0 rfl k) ?_
  refine S_static (as := [.int (nI 3)]) (rest := []) d_PG_accept_1 rfl (jw_PG_isSession.jo (by decide)) lm_PG_133 jt_PG_isSession rfl (Nat.le_of_ble_eq_true rfl) (by decide) (by decide) (c_PG_isSession G v 3 (by omega)) (fun r v' hq => ?_)
  rw [hq.1, hq.2]
  clear hq r v'
  show ST G mi_PG_accept 4 [(0, .ref 61), (1, .int (nI 3))] [.int (nI 1)] v 0 0 _
  refine S_if_neN d_PG_accept_4 rfl (by omega) (fun _ => ?_) (fun c => by first | exact absurd c (by omega) | exact c.elim | exact absurd c (by decide) | exact absurd (by assumption) c | exact absurd c (by assumption) | exact absurd c (Int32.not_le.mpr (by assumption)))
  refine ST.lift (fun _ _ k => T_aload_n (v := .ref 61) d_PG_accept_9 rfl (Or.inr ⟨_, rfl⟩) k) ?_
  refine S_getfield d_PG_accept_10 fg_PG_34 (w61 _) rfl ?_
  refine ST.lift (fun _ _ k => T_iload_n d_PG_accept_13 rfl k) ?_
  refine S_aaload (C0 := "PasswordGate$Session") d_PG_accept_14 (by decide) (w264 _) rfl (vp_in_nI (by omega) (by omega)) ?_
  refine ST.lift (fun _ _ k => T_astore_n (L' := [(2, .ref 343), (0, .ref 61), (1, .int (nI 3))]) d_PG_accept_15 (by decide) rfl (Or.inr ⟨_, rfl⟩) k) ?_
  refine ST.lift (fun _ _ k => T_aload_n (v := .ref 343) d_PG_accept_16 rfl (Or.inr ⟨_, rfl⟩) k) ?_
  refine ST.lift (fun _ _ k => T_iconst (v := nI 2) d_PG_accept_17 (by decide) k) ?_
  refine S_virtual (as := [.int (nI 2)]) (rest := []) (b := 343) d_PG_accept_18 rfl (jw_Ss_take.jo (by decide)) lm_PG_139 ji_Ss_take js_Ss_take (w343 _) rfl rfl rfl (Nat.le_of_ble_eq_true rfl) (by decide) (by decide) (c_Ss_take_3_2_f G v e60 hv) (fun r u1 hq => ?_)
  obtain ⟨hr, hv2, hm3, fe0_u1⟩ := hq
  rw [hr]
  clear hr r
  have hm4 := hm.go hm3 (by intro i hi; simp only [List.mem_cons, List.not_mem_nil, or_false] at hi ⊢ <;> omega)
  have e5 : u1 60 = nI 0 := (hm3 60 (by decide)).trans e60
  show ST G mi_PG_accept 21 [(2, .ref 343), (0, .ref 61), (1, .int (nI 3))] [.int (nI 0)] u1 0 0 _
  refine S_if_eqN d_PG_accept_21 rfl (by omega) (fun _ => ?_) (fun c => by first | exact absurd c (by omega) | exact c.elim | exact absurd c (by decide) | exact absurd (by assumption) c | exact absurd c (by assumption) | exact absurd c (Int32.not_le.mpr (by assumption)))
  refine ST.lift (fun _ _ k => T_iconst (v := nI 2) d_PG_accept_31 (by decide) k) ?_
  refine S_topi (y := nI 2) (congrArg nI (by omega)) ?_
  exact S_ret d_PG_accept_32 rfl rfl (by decide) (by decide) (hQ _ hv2 hm4)
set_option maxRecDepth 100000 in
set_option maxHeartbeats 4000000 in
theorem c_Mo_answer_0_f (G : GX) (v : Nat → Int32) (e96 : v 96 = nI 0) (hv : okv v) : CS G mi_Mo_answer [.ref 373, .int (nI 0)] v (fun r v' => r = some (.int (nI 2)) ∧ okv v' ∧ mdf [66] v v') := by
  refine CS.of (by decide) (Nat.le_of_ble_eq_true rfl) ?_
  generalize hQe : (fun (r : Option Value) (v' : Nat → Int32) => r = some (.int (nI 2)) ∧ okv v' ∧ mdf [66] v v') = Q
  have hQ : ∀ u, okv u → mdf [66] v u → Q (some (.int (nI 2))) u := by rw [← hQe]; exact fun u h1 h2  => ⟨rfl, h1, h2⟩
  clear hQe
  have hm : mdf [66] v v := mdf.rf
  show ST G mi_Mo_answer 0 [(0, .ref 373), (1, .int (nI 0))] [] v 0 0 Q
  refine ST.lift (fun _ _ k => T_aload_n (v := .ref 373) d_Mo_answer_0 rfl (Or.inr ⟨_, rfl⟩) k) ?_
  refine ST.lift (fun _ _ k => T_iconst (v := nI 0) d_Mo_answer_1 (by decide) k) ?_
  refine S_putfield (v' := va_up v 66 (nI 0)) d_Mo_answer_2 (fp_Mo_316 _) (w373 _) (Nat.le_of_ble_eq_true rfl) ⟨rfl, rfl⟩ (u373_0 _ _) ?_
  have hv2 := hv.off (j := 66) (x := (nI 0)) (by decide)
  have hm3 := hm.go (mdf.up (v := v) (j := 66) (x := (nI 0))) (by intro i hi; simp only [List.mem_cons, List.not_mem_nil, or_false] at hi ⊢ <;> omega)
  have e_u1 : (va_up v 66 (nI 0)) 66 = (nI 0) := by simp [va_up]
  have e4 : (va_up v 66 (nI 0)) 96 = nI 0 := by simp only [va_up]; exact e96
  generalize va_up v 66 (nI 0) = u1 at hv2 hm3 e_u1 e4 ⊢
  refine ST.lift (fun _ _ k => T_iload_n d_Mo_answer_5 rfl k) ?_
  refine S_static (as := [.int (nI 0)]) (rest := []) d_Mo_answer_6 rfl (jw_Mo_isSession.jo (by decide)) lm_Mo_545 jt_Mo_isSession rfl (Nat.le_of_ble_eq_true rfl) (by decide) (by decide) (c_Mo_isSession G u1 0 (by omega)) (fun r v' hq => ?_)
  rw [hq.1, hq.2]
  clear hq r v'
  show ST G mi_Mo_answer 9 [(0, .ref 373), (1, .int (nI 0))] [.int (nI 1)] u1 0 0 _
  refine S_if_neN d_Mo_answer_9 rfl (by omega) (fun _ => ?_) (fun c => by first | exact absurd c (by omega) | exact c.elim | exact absurd c (by decide) | exact absurd (by assumption) c | exact absurd c (by assumption) | exact absurd c (Int32.not_le.mpr (by assumption)))
  refine ST.lift (fun _ _ k => T_aload_n (v := .ref 373) d_Mo_answer_14 rfl (Or.inr ⟨_, rfl⟩) k) ?_
  refine S_getfield d_Mo_answer_15 fg_Mo_392 (w373 _) rfl ?_
  refine ST.lift (fun _ _ k => T_iload_n d_Mo_answer_18 rfl k) ?_
  refine S_xload (t := 3) (k := 0) (Or.inr ⟨rfl, d_Mo_answer_19⟩) rfl (w424 _) (by decide) (by decide) ?_
  refine S_topi (y := u1 96) rfl ?_
  refine S_topi (y := nI 0) (e4) ?_
  refine S_if_eqN d_Mo_answer_20 rfl (by omega) (fun _ => ?_) (fun c => by first | exact absurd c (by omega) | exact c.elim | exact absurd c (by decide) | exact absurd (by assumption) c | exact absurd c (by assumption) | exact absurd c (Int32.not_le.mpr (by assumption)))
  refine ST.lift (fun _ _ k => T_iconst (v := nI 2) d_Mo_answer_32 (by decide) k) ?_
  refine S_topi (y := nI 2) (congrArg nI (by omega)) ?_
  exact S_ret d_Mo_answer_33 rfl rfl (by decide) (by decide) (hQ _ hv2 hm3)
set_option maxRecDepth 100000 in
set_option maxHeartbeats 4000000 in
theorem c_Mo_finish_0_f (G : GX) (v : Nat → Int32) (e100 : v 100 = nI 0) (hv : okv v) : CS G mi_Mo_finish [.ref 373, .int (nI 0)] v (fun r v' => r = some (.int (nI 2)) ∧ okv v' ∧ mdf [66] v v') := by
  refine CS.of (by decide) (Nat.le_of_ble_eq_true rfl) ?_
  generalize hQe : (fun (r : Option Value) (v' : Nat → Int32) => r = some (.int (nI 2)) ∧ okv v' ∧ mdf [66] v v') = Q
  have hQ : ∀ u, okv u → mdf [66] v u → Q (some (.int (nI 2))) u := by rw [← hQe]; exact fun u h1 h2  => ⟨rfl, h1, h2⟩
  clear hQe
  have hm : mdf [66] v v := mdf.rf
  show ST G mi_Mo_finish 0 [(0, .ref 373), (1, .int (nI 0))] [] v 0 0 Q
  refine ST.lift (fun _ _ k => T_aload_n (v := .ref 373) d_Mo_finish_0 rfl (Or.inr ⟨_, rfl⟩) k) ?_
  refine ST.lift (fun _ _ k => T_iconst (v := nI 0) d_Mo_finish_1 (by decide) k) ?_
  refine S_putfield (v' := va_up v 66 (nI 0)) d_Mo_finish_2 (fp_Mo_316 _) (w373 _) (Nat.le_of_ble_eq_true rfl) ⟨rfl, rfl⟩ (u373_0 _ _) ?_
  have hv2 := hv.off (j := 66) (x := (nI 0)) (by decide)
  have hm3 := hm.go (mdf.up (v := v) (j := 66) (x := (nI 0))) (by intro i hi; simp only [List.mem_cons, List.not_mem_nil, or_false] at hi ⊢ <;> omega)
  have e_u1 : (va_up v 66 (nI 0)) 66 = (nI 0) := by simp [va_up]
  have e4 : (va_up v 66 (nI 0)) 100 = nI 0 := by simp only [va_up]; exact e100
  generalize va_up v 66 (nI 0) = u1 at hv2 hm3 e_u1 e4 ⊢
  refine ST.lift (fun _ _ k => T_iload_n d_Mo_finish_5 rfl k) ?_
  refine S_static (as := [.int (nI 0)]) (rest := []) d_Mo_finish_6 rfl (jw_Mo_isSession.jo (by decide)) lm_Mo_545 jt_Mo_isSession rfl (Nat.le_of_ble_eq_true rfl) (by decide) (by decide) (c_Mo_isSession G u1 0 (by omega)) (fun r v' hq => ?_)
  rw [hq.1, hq.2]
  clear hq r v'
  show ST G mi_Mo_finish 9 [(0, .ref 373), (1, .int (nI 0))] [.int (nI 1)] u1 0 0 _
  refine S_if_neN d_Mo_finish_9 rfl (by omega) (fun _ => ?_) (fun c => by first | exact absurd c (by omega) | exact c.elim | exact absurd c (by decide) | exact absurd (by assumption) c | exact absurd c (by assumption) | exact absurd c (Int32.not_le.mpr (by assumption)))
  refine ST.lift (fun _ _ k => T_aload_n (v := .ref 373) d_Mo_finish_14 rfl (Or.inr ⟨_, rfl⟩) k) ?_
  refine S_getfield d_Mo_finish_15 fg_Mo_395 (w373 _) rfl ?_
  refine ST.lift (fun _ _ k => T_iload_n d_Mo_finish_18 rfl k) ?_
  refine S_xload (t := 3) (k := 0) (Or.inr ⟨rfl, d_Mo_finish_19⟩) rfl (w425 _) (by decide) (by decide) ?_
  refine S_topi (y := u1 100) rfl ?_
  refine S_topi (y := nI 0) (e4) ?_
  refine S_if_eqN d_Mo_finish_20 rfl (by omega) (fun _ => ?_) (fun c => by first | exact absurd c (by omega) | exact c.elim | exact absurd c (by decide) | exact absurd (by assumption) c | exact absurd c (by assumption) | exact absurd c (Int32.not_le.mpr (by assumption)))
  refine ST.lift (fun _ _ k => T_iconst (v := nI 2) d_Mo_finish_32 (by decide) k) ?_
  refine S_topi (y := nI 2) (congrArg nI (by omega)) ?_
  exact S_ret d_Mo_finish_33 rfl rfl (by decide) (by decide) (hQ _ hv2 hm3)
set_option maxRecDepth 100000 in
set_option maxHeartbeats 4000000 in
theorem c_Mo_accept_0_f (G : GX) (v : Nat → Int32) (e104 : v 104 = nI 0) (hv : okv v) : CS G mi_Mo_accept [.ref 373, .int (nI 0)] v (fun r v' => r = some (.int (nI 2)) ∧ okv v' ∧ mdf [66] v v') := by
  refine CS.of (by decide) (Nat.le_of_ble_eq_true rfl) ?_
  generalize hQe : (fun (r : Option Value) (v' : Nat → Int32) => r = some (.int (nI 2)) ∧ okv v' ∧ mdf [66] v v') = Q
  have hQ : ∀ u, okv u → mdf [66] v u → Q (some (.int (nI 2))) u := by rw [← hQe]; exact fun u h1 h2  => ⟨rfl, h1, h2⟩
  clear hQe
  have hm : mdf [66] v v := mdf.rf
  show ST G mi_Mo_accept 0 [(0, .ref 373), (1, .int (nI 0))] [] v 0 0 Q
  refine ST.lift (fun _ _ k => T_aload_n (v := .ref 373) d_Mo_accept_0 rfl (Or.inr ⟨_, rfl⟩) k) ?_
  refine ST.lift (fun _ _ k => T_iconst (v := nI 0) d_Mo_accept_1 (by decide) k) ?_
  refine S_putfield (v' := va_up v 66 (nI 0)) d_Mo_accept_2 (fp_Mo_316 _) (w373 _) (Nat.le_of_ble_eq_true rfl) ⟨rfl, rfl⟩ (u373_0 _ _) ?_
  have hv2 := hv.off (j := 66) (x := (nI 0)) (by decide)
  have hm3 := hm.go (mdf.up (v := v) (j := 66) (x := (nI 0))) (by intro i hi; simp only [List.mem_cons, List.not_mem_nil, or_false] at hi ⊢ <;> omega)
  have e_u1 : (va_up v 66 (nI 0)) 66 = (nI 0) := by simp [va_up]
  have e4 : (va_up v 66 (nI 0)) 104 = nI 0 := by simp only [va_up]; exact e104
  generalize va_up v 66 (nI 0) = u1 at hv2 hm3 e_u1 e4 ⊢
  refine ST.lift (fun _ _ k => T_iload_n d_Mo_accept_5 rfl k) ?_
  refine S_static (as := [.int (nI 0)]) (rest := []) d_Mo_accept_6 rfl (jw_Mo_isSession.jo (by decide)) lm_Mo_545 jt_Mo_isSession rfl (Nat.le_of_ble_eq_true rfl) (by decide) (by decide) (c_Mo_isSession G u1 0 (by omega)) (fun r v' hq => ?_)
  rw [hq.1, hq.2]
  clear hq r v'
  show ST G mi_Mo_accept 9 [(0, .ref 373), (1, .int (nI 0))] [.int (nI 1)] u1 0 0 _
  refine S_if_neN d_Mo_accept_9 rfl (by omega) (fun _ => ?_) (fun c => by first | exact absurd c (by omega) | exact c.elim | exact absurd c (by decide) | exact absurd (by assumption) c | exact absurd c (by assumption) | exact absurd c (Int32.not_le.mpr (by assumption)))
  refine ST.lift (fun _ _ k => T_aload_n (v := .ref 373) d_Mo_accept_14 rfl (Or.inr ⟨_, rfl⟩) k) ?_
  refine S_getfield d_Mo_accept_15 fg_Mo_398 (w373 _) rfl ?_
  refine ST.lift (fun _ _ k => T_iload_n d_Mo_accept_18 rfl k) ?_
  refine S_xload (t := 3) (k := 0) (Or.inr ⟨rfl, d_Mo_accept_19⟩) rfl (w426 _) (by decide) (by decide) ?_
  refine S_topi (y := u1 104) rfl ?_
  refine S_topi (y := nI 0) (e4) ?_
  refine S_if_eqN d_Mo_accept_20 rfl (by omega) (fun _ => ?_) (fun c => by first | exact absurd c (by omega) | exact c.elim | exact absurd c (by decide) | exact absurd (by assumption) c | exact absurd c (by assumption) | exact absurd c (Int32.not_le.mpr (by assumption)))
  refine ST.lift (fun _ _ k => T_iconst (v := nI 2) d_Mo_accept_32 (by decide) k) ?_
  refine S_topi (y := nI 2) (congrArg nI (by omega)) ?_
  exact S_ret d_Mo_accept_33 rfl rfl (by decide) (by decide) (hQ _ hv2 hm3)
set_option maxRecDepth 100000 in
set_option maxHeartbeats 4000000 in
theorem c_Mo_answer_1_f (G : GX) (v : Nat → Int32) (e97 : v 97 = nI 0) (hv : okv v) : CS G mi_Mo_answer [.ref 373, .int (nI 1)] v (fun r v' => r = some (.int (nI 2)) ∧ okv v' ∧ mdf [66] v v') := by
  refine CS.of (by decide) (Nat.le_of_ble_eq_true rfl) ?_
  generalize hQe : (fun (r : Option Value) (v' : Nat → Int32) => r = some (.int (nI 2)) ∧ okv v' ∧ mdf [66] v v') = Q
  have hQ : ∀ u, okv u → mdf [66] v u → Q (some (.int (nI 2))) u := by rw [← hQe]; exact fun u h1 h2  => ⟨rfl, h1, h2⟩
  clear hQe
  have hm : mdf [66] v v := mdf.rf
  show ST G mi_Mo_answer 0 [(0, .ref 373), (1, .int (nI 1))] [] v 0 0 Q
  refine ST.lift (fun _ _ k => T_aload_n (v := .ref 373) d_Mo_answer_0 rfl (Or.inr ⟨_, rfl⟩) k) ?_
  refine ST.lift (fun _ _ k => T_iconst (v := nI 0) d_Mo_answer_1 (by decide) k) ?_
  refine S_putfield (v' := va_up v 66 (nI 0)) d_Mo_answer_2 (fp_Mo_316 _) (w373 _) (Nat.le_of_ble_eq_true rfl) ⟨rfl, rfl⟩ (u373_0 _ _) ?_
  have hv2 := hv.off (j := 66) (x := (nI 0)) (by decide)
  have hm3 := hm.go (mdf.up (v := v) (j := 66) (x := (nI 0))) (by intro i hi; simp only [List.mem_cons, List.not_mem_nil, or_false] at hi ⊢ <;> omega)
  have e_u1 : (va_up v 66 (nI 0)) 66 = (nI 0) := by simp [va_up]
  have e4 : (va_up v 66 (nI 0)) 97 = nI 0 := by simp only [va_up]; exact e97
  generalize va_up v 66 (nI 0) = u1 at hv2 hm3 e_u1 e4 ⊢
  refine ST.lift (fun _ _ k => T_iload_n d_Mo_answer_5 rfl k) ?_
  refine S_static (as := [.int (nI 1)]) (rest := []) d_Mo_answer_6 rfl (jw_Mo_isSession.jo (by decide)) lm_Mo_545 jt_Mo_isSession rfl (Nat.le_of_ble_eq_true rfl) (by decide) (by decide) (c_Mo_isSession G u1 1 (by omega)) (fun r v' hq => ?_)
  rw [hq.1, hq.2]
  clear hq r v'
  show ST G mi_Mo_answer 9 [(0, .ref 373), (1, .int (nI 1))] [.int (nI 1)] u1 0 0 _
  refine S_if_neN d_Mo_answer_9 rfl (by omega) (fun _ => ?_) (fun c => by first | exact absurd c (by omega) | exact c.elim | exact absurd c (by decide) | exact absurd (by assumption) c | exact absurd c (by assumption) | exact absurd c (Int32.not_le.mpr (by assumption)))
  refine ST.lift (fun _ _ k => T_aload_n (v := .ref 373) d_Mo_answer_14 rfl (Or.inr ⟨_, rfl⟩) k) ?_
  refine S_getfield d_Mo_answer_15 fg_Mo_392 (w373 _) rfl ?_
  refine ST.lift (fun _ _ k => T_iload_n d_Mo_answer_18 rfl k) ?_
  refine S_xload (t := 3) (k := 1) (Or.inr ⟨rfl, d_Mo_answer_19⟩) rfl (w424 _) (by decide) (by decide) ?_
  refine S_topi (y := u1 97) rfl ?_
  refine S_topi (y := nI 0) (e4) ?_
  refine S_if_eqN d_Mo_answer_20 rfl (by omega) (fun _ => ?_) (fun c => by first | exact absurd c (by omega) | exact c.elim | exact absurd c (by decide) | exact absurd (by assumption) c | exact absurd c (by assumption) | exact absurd c (Int32.not_le.mpr (by assumption)))
  refine ST.lift (fun _ _ k => T_iconst (v := nI 2) d_Mo_answer_32 (by decide) k) ?_
  refine S_topi (y := nI 2) (congrArg nI (by omega)) ?_
  exact S_ret d_Mo_answer_33 rfl rfl (by decide) (by decide) (hQ _ hv2 hm3)
set_option maxRecDepth 100000 in
set_option maxHeartbeats 4000000 in
theorem c_Mo_finish_1_f (G : GX) (v : Nat → Int32) (e101 : v 101 = nI 0) (hv : okv v) : CS G mi_Mo_finish [.ref 373, .int (nI 1)] v (fun r v' => r = some (.int (nI 2)) ∧ okv v' ∧ mdf [66] v v') := by
  refine CS.of (by decide) (Nat.le_of_ble_eq_true rfl) ?_
  generalize hQe : (fun (r : Option Value) (v' : Nat → Int32) => r = some (.int (nI 2)) ∧ okv v' ∧ mdf [66] v v') = Q
  have hQ : ∀ u, okv u → mdf [66] v u → Q (some (.int (nI 2))) u := by rw [← hQe]; exact fun u h1 h2  => ⟨rfl, h1, h2⟩
  clear hQe
  have hm : mdf [66] v v := mdf.rf
  show ST G mi_Mo_finish 0 [(0, .ref 373), (1, .int (nI 1))] [] v 0 0 Q
  refine ST.lift (fun _ _ k => T_aload_n (v := .ref 373) d_Mo_finish_0 rfl (Or.inr ⟨_, rfl⟩) k) ?_
  refine ST.lift (fun _ _ k => T_iconst (v := nI 0) d_Mo_finish_1 (by decide) k) ?_
  refine S_putfield (v' := va_up v 66 (nI 0)) d_Mo_finish_2 (fp_Mo_316 _) (w373 _) (Nat.le_of_ble_eq_true rfl) ⟨rfl, rfl⟩ (u373_0 _ _) ?_
  have hv2 := hv.off (j := 66) (x := (nI 0)) (by decide)
  have hm3 := hm.go (mdf.up (v := v) (j := 66) (x := (nI 0))) (by intro i hi; simp only [List.mem_cons, List.not_mem_nil, or_false] at hi ⊢ <;> omega)
  have e_u1 : (va_up v 66 (nI 0)) 66 = (nI 0) := by simp [va_up]
  have e4 : (va_up v 66 (nI 0)) 101 = nI 0 := by simp only [va_up]; exact e101
  generalize va_up v 66 (nI 0) = u1 at hv2 hm3 e_u1 e4 ⊢
  refine ST.lift (fun _ _ k => T_iload_n d_Mo_finish_5 rfl k) ?_
  refine S_static (as := [.int (nI 1)]) (rest := []) d_Mo_finish_6 rfl (jw_Mo_isSession.jo (by decide)) lm_Mo_545 jt_Mo_isSession rfl (Nat.le_of_ble_eq_true rfl) (by decide) (by decide) (c_Mo_isSession G u1 1 (by omega)) (fun r v' hq => ?_)
  rw [hq.1, hq.2]
  clear hq r v'
  show ST G mi_Mo_finish 9 [(0, .ref 373), (1, .int (nI 1))] [.int (nI 1)] u1 0 0 _
  refine S_if_neN d_Mo_finish_9 rfl (by omega) (fun _ => ?_) (fun c => by first | exact absurd c (by omega) | exact c.elim | exact absurd c (by decide) | exact absurd (by assumption) c | exact absurd c (by assumption) | exact absurd c (Int32.not_le.mpr (by assumption)))
  refine ST.lift (fun _ _ k => T_aload_n (v := .ref 373) d_Mo_finish_14 rfl (Or.inr ⟨_, rfl⟩) k) ?_
  refine S_getfield d_Mo_finish_15 fg_Mo_395 (w373 _) rfl ?_
  refine ST.lift (fun _ _ k => T_iload_n d_Mo_finish_18 rfl k) ?_
  refine S_xload (t := 3) (k := 1) (Or.inr ⟨rfl, d_Mo_finish_19⟩) rfl (w425 _) (by decide) (by decide) ?_
  refine S_topi (y := u1 101) rfl ?_
  refine S_topi (y := nI 0) (e4) ?_
  refine S_if_eqN d_Mo_finish_20 rfl (by omega) (fun _ => ?_) (fun c => by first | exact absurd c (by omega) | exact c.elim | exact absurd c (by decide) | exact absurd (by assumption) c | exact absurd c (by assumption) | exact absurd c (Int32.not_le.mpr (by assumption)))
  refine ST.lift (fun _ _ k => T_iconst (v := nI 2) d_Mo_finish_32 (by decide) k) ?_
  refine S_topi (y := nI 2) (congrArg nI (by omega)) ?_
  exact S_ret d_Mo_finish_33 rfl rfl (by decide) (by decide) (hQ _ hv2 hm3)
set_option maxRecDepth 100000 in
set_option maxHeartbeats 4000000 in
theorem c_Mo_accept_1_f (G : GX) (v : Nat → Int32) (e105 : v 105 = nI 0) (hv : okv v) : CS G mi_Mo_accept [.ref 373, .int (nI 1)] v (fun r v' => r = some (.int (nI 2)) ∧ okv v' ∧ mdf [66] v v') := by
  refine CS.of (by decide) (Nat.le_of_ble_eq_true rfl) ?_
  generalize hQe : (fun (r : Option Value) (v' : Nat → Int32) => r = some (.int (nI 2)) ∧ okv v' ∧ mdf [66] v v') = Q
  have hQ : ∀ u, okv u → mdf [66] v u → Q (some (.int (nI 2))) u := by rw [← hQe]; exact fun u h1 h2  => ⟨rfl, h1, h2⟩
  clear hQe
  have hm : mdf [66] v v := mdf.rf
  show ST G mi_Mo_accept 0 [(0, .ref 373), (1, .int (nI 1))] [] v 0 0 Q
  refine ST.lift (fun _ _ k => T_aload_n (v := .ref 373) d_Mo_accept_0 rfl (Or.inr ⟨_, rfl⟩) k) ?_
  refine ST.lift (fun _ _ k => T_iconst (v := nI 0) d_Mo_accept_1 (by decide) k) ?_
  refine S_putfield (v' := va_up v 66 (nI 0)) d_Mo_accept_2 (fp_Mo_316 _) (w373 _) (Nat.le_of_ble_eq_true rfl) ⟨rfl, rfl⟩ (u373_0 _ _) ?_
  have hv2 := hv.off (j := 66) (x := (nI 0)) (by decide)
  have hm3 := hm.go (mdf.up (v := v) (j := 66) (x := (nI 0))) (by intro i hi; simp only [List.mem_cons, List.not_mem_nil, or_false] at hi ⊢ <;> omega)
  have e_u1 : (va_up v 66 (nI 0)) 66 = (nI 0) := by simp [va_up]
  have e4 : (va_up v 66 (nI 0)) 105 = nI 0 := by simp only [va_up]; exact e105
  generalize va_up v 66 (nI 0) = u1 at hv2 hm3 e_u1 e4 ⊢
  refine ST.lift (fun _ _ k => T_iload_n d_Mo_accept_5 rfl k) ?_
  refine S_static (as := [.int (nI 1)]) (rest := []) d_Mo_accept_6 rfl (jw_Mo_isSession.jo (by decide)) lm_Mo_545 jt_Mo_isSession rfl (Nat.le_of_ble_eq_true rfl) (by decide) (by decide) (c_Mo_isSession G u1 1 (by omega)) (fun r v' hq => ?_)
  rw [hq.1, hq.2]
  clear hq r v'
  show ST G mi_Mo_accept 9 [(0, .ref 373), (1, .int (nI 1))] [.int (nI 1)] u1 0 0 _
  refine S_if_neN d_Mo_accept_9 rfl (by omega) (fun _ => ?_) (fun c => by first | exact absurd c (by omega) | exact c.elim | exact absurd c (by decide) | exact absurd (by assumption) c | exact absurd c (by assumption) | exact absurd c (Int32.not_le.mpr (by assumption)))
  refine ST.lift (fun _ _ k => T_aload_n (v := .ref 373) d_Mo_accept_14 rfl (Or.inr ⟨_, rfl⟩) k) ?_
  refine S_getfield d_Mo_accept_15 fg_Mo_398 (w373 _) rfl ?_
  refine ST.lift (fun _ _ k => T_iload_n d_Mo_accept_18 rfl k) ?_
  refine S_xload (t := 3) (k := 1) (Or.inr ⟨rfl, d_Mo_accept_19⟩) rfl (w426 _) (by decide) (by decide) ?_
  refine S_topi (y := u1 105) rfl ?_
  refine S_topi (y := nI 0) (e4) ?_
  refine S_if_eqN d_Mo_accept_20 rfl (by omega) (fun _ => ?_) (fun c => by first | exact absurd c (by omega) | exact c.elim | exact absurd c (by decide) | exact absurd (by assumption) c | exact absurd c (by assumption) | exact absurd c (Int32.not_le.mpr (by assumption)))
  refine ST.lift (fun _ _ k => T_iconst (v := nI 2) d_Mo_accept_32 (by decide) k) ?_
  refine S_topi (y := nI 2) (congrArg nI (by omega)) ?_
  exact S_ret d_Mo_accept_33 rfl rfl (by decide) (by decide) (hQ _ hv2 hm3)
set_option maxRecDepth 100000 in
set_option maxHeartbeats 4000000 in
theorem c_Mo_answer_2_f (G : GX) (v : Nat → Int32) (e98 : v 98 = nI 0) (hv : okv v) : CS G mi_Mo_answer [.ref 373, .int (nI 2)] v (fun r v' => r = some (.int (nI 2)) ∧ okv v' ∧ mdf [66] v v') := by
  refine CS.of (by decide) (Nat.le_of_ble_eq_true rfl) ?_
  generalize hQe : (fun (r : Option Value) (v' : Nat → Int32) => r = some (.int (nI 2)) ∧ okv v' ∧ mdf [66] v v') = Q
  have hQ : ∀ u, okv u → mdf [66] v u → Q (some (.int (nI 2))) u := by rw [← hQe]; exact fun u h1 h2  => ⟨rfl, h1, h2⟩
  clear hQe
  have hm : mdf [66] v v := mdf.rf
  show ST G mi_Mo_answer 0 [(0, .ref 373), (1, .int (nI 2))] [] v 0 0 Q
  refine ST.lift (fun _ _ k => T_aload_n (v := .ref 373) d_Mo_answer_0 rfl (Or.inr ⟨_, rfl⟩) k) ?_
  refine ST.lift (fun _ _ k => T_iconst (v := nI 0) d_Mo_answer_1 (by decide) k) ?_
  refine S_putfield (v' := va_up v 66 (nI 0)) d_Mo_answer_2 (fp_Mo_316 _) (w373 _) (Nat.le_of_ble_eq_true rfl) ⟨rfl, rfl⟩ (u373_0 _ _) ?_
  have hv2 := hv.off (j := 66) (x := (nI 0)) (by decide)
  have hm3 := hm.go (mdf.up (v := v) (j := 66) (x := (nI 0))) (by intro i hi; simp only [List.mem_cons, List.not_mem_nil, or_false] at hi ⊢ <;> omega)
  have e_u1 : (va_up v 66 (nI 0)) 66 = (nI 0) := by simp [va_up]
  have e4 : (va_up v 66 (nI 0)) 98 = nI 0 := by simp only [va_up]; exact e98
  generalize va_up v 66 (nI 0) = u1 at hv2 hm3 e_u1 e4 ⊢
  refine ST.lift (fun _ _ k => T_iload_n d_Mo_answer_5 rfl k) ?_
  refine S_static (as := [.int (nI 2)]) (rest := []) d_Mo_answer_6 rfl (jw_Mo_isSession.jo (by decide)) lm_Mo_545 jt_Mo_isSession rfl (Nat.le_of_ble_eq_true rfl) (by decide) (by decide) (c_Mo_isSession G u1 2 (by omega)) (fun r v' hq => ?_)
  rw [hq.1, hq.2]
  clear hq r v'
  show ST G mi_Mo_answer 9 [(0, .ref 373), (1, .int (nI 2))] [.int (nI 1)] u1 0 0 _
  refine S_if_neN d_Mo_answer_9 rfl (by omega) (fun _ => ?_) (fun c => by first | exact absurd c (by omega) | exact c.elim | exact absurd c (by decide) | exact absurd (by assumption) c | exact absurd c (by assumption) | exact absurd c (Int32.not_le.mpr (by assumption)))
  refine ST.lift (fun _ _ k => T_aload_n (v := .ref 373) d_Mo_answer_14 rfl (Or.inr ⟨_, rfl⟩) k) ?_
  refine S_getfield d_Mo_answer_15 fg_Mo_392 (w373 _) rfl ?_
  refine ST.lift (fun _ _ k => T_iload_n d_Mo_answer_18 rfl k) ?_
  refine S_xload (t := 3) (k := 2) (Or.inr ⟨rfl, d_Mo_answer_19⟩) rfl (w424 _) (by decide) (by decide) ?_
  refine S_topi (y := u1 98) rfl ?_
  refine S_topi (y := nI 0) (e4) ?_
  refine S_if_eqN d_Mo_answer_20 rfl (by omega) (fun _ => ?_) (fun c => by first | exact absurd c (by omega) | exact c.elim | exact absurd c (by decide) | exact absurd (by assumption) c | exact absurd c (by assumption) | exact absurd c (Int32.not_le.mpr (by assumption)))
  refine ST.lift (fun _ _ k => T_iconst (v := nI 2) d_Mo_answer_32 (by decide) k) ?_
  refine S_topi (y := nI 2) (congrArg nI (by omega)) ?_
  exact S_ret d_Mo_answer_33 rfl rfl (by decide) (by decide) (hQ _ hv2 hm3)
set_option maxRecDepth 100000 in
set_option maxHeartbeats 4000000 in
theorem c_Mo_finish_2_f (G : GX) (v : Nat → Int32) (e102 : v 102 = nI 0) (hv : okv v) : CS G mi_Mo_finish [.ref 373, .int (nI 2)] v (fun r v' => r = some (.int (nI 2)) ∧ okv v' ∧ mdf [66] v v') := by
  refine CS.of (by decide) (Nat.le_of_ble_eq_true rfl) ?_
  generalize hQe : (fun (r : Option Value) (v' : Nat → Int32) => r = some (.int (nI 2)) ∧ okv v' ∧ mdf [66] v v') = Q
  have hQ : ∀ u, okv u → mdf [66] v u → Q (some (.int (nI 2))) u := by rw [← hQe]; exact fun u h1 h2  => ⟨rfl, h1, h2⟩
  clear hQe
  have hm : mdf [66] v v := mdf.rf
  show ST G mi_Mo_finish 0 [(0, .ref 373), (1, .int (nI 2))] [] v 0 0 Q
  refine ST.lift (fun _ _ k => T_aload_n (v := .ref 373) d_Mo_finish_0 rfl (Or.inr ⟨_, rfl⟩) k) ?_
  refine ST.lift (fun _ _ k => T_iconst (v := nI 0) d_Mo_finish_1 (by decide) k) ?_
  refine S_putfield (v' := va_up v 66 (nI 0)) d_Mo_finish_2 (fp_Mo_316 _) (w373 _) (Nat.le_of_ble_eq_true rfl) ⟨rfl, rfl⟩ (u373_0 _ _) ?_
  have hv2 := hv.off (j := 66) (x := (nI 0)) (by decide)
  have hm3 := hm.go (mdf.up (v := v) (j := 66) (x := (nI 0))) (by intro i hi; simp only [List.mem_cons, List.not_mem_nil, or_false] at hi ⊢ <;> omega)
  have e_u1 : (va_up v 66 (nI 0)) 66 = (nI 0) := by simp [va_up]
  have e4 : (va_up v 66 (nI 0)) 102 = nI 0 := by simp only [va_up]; exact e102
  generalize va_up v 66 (nI 0) = u1 at hv2 hm3 e_u1 e4 ⊢
  refine ST.lift (fun _ _ k => T_iload_n d_Mo_finish_5 rfl k) ?_
  refine S_static (as := [.int (nI 2)]) (rest := []) d_Mo_finish_6 rfl (jw_Mo_isSession.jo (by decide)) lm_Mo_545 jt_Mo_isSession rfl (Nat.le_of_ble_eq_true rfl) (by decide) (by decide) (c_Mo_isSession G u1 2 (by omega)) (fun r v' hq => ?_)
  rw [hq.1, hq.2]
  clear hq r v'
  show ST G mi_Mo_finish 9 [(0, .ref 373), (1, .int (nI 2))] [.int (nI 1)] u1 0 0 _
  refine S_if_neN d_Mo_finish_9 rfl (by omega) (fun _ => ?_) (fun c => by first | exact absurd c (by omega) | exact c.elim | exact absurd c (by decide) | exact absurd (by assumption) c | exact absurd c (by assumption) | exact absurd c (Int32.not_le.mpr (by assumption)))
  refine ST.lift (fun _ _ k => T_aload_n (v := .ref 373) d_Mo_finish_14 rfl (Or.inr ⟨_, rfl⟩) k) ?_
  refine S_getfield d_Mo_finish_15 fg_Mo_395 (w373 _) rfl ?_
  refine ST.lift (fun _ _ k => T_iload_n d_Mo_finish_18 rfl k) ?_
  refine S_xload (t := 3) (k := 2) (Or.inr ⟨rfl, d_Mo_finish_19⟩) rfl (w425 _) (by decide) (by decide) ?_
  refine S_topi (y := u1 102) rfl ?_
  refine S_topi (y := nI 0) (e4) ?_
  refine S_if_eqN d_Mo_finish_20 rfl (by omega) (fun _ => ?_) (fun c => by first | exact absurd c (by omega) | exact c.elim | exact absurd c (by decide) | exact absurd (by assumption) c | exact absurd c (by assumption) | exact absurd c (Int32.not_le.mpr (by assumption)))
  refine ST.lift (fun _ _ k => T_iconst (v := nI 2) d_Mo_finish_32 (by decide) k) ?_
  refine S_topi (y := nI 2) (congrArg nI (by omega)) ?_
  exact S_ret d_Mo_finish_33 rfl rfl (by decide) (by decide) (hQ _ hv2 hm3)
set_option maxRecDepth 100000 in
set_option maxHeartbeats 4000000 in
theorem c_Mo_accept_2_f (G : GX) (v : Nat → Int32) (e106 : v 106 = nI 0) (hv : okv v) : CS G mi_Mo_accept [.ref 373, .int (nI 2)] v (fun r v' => r = some (.int (nI 2)) ∧ okv v' ∧ mdf [66] v v') := by
  refine CS.of (by decide) (Nat.le_of_ble_eq_true rfl) ?_
  generalize hQe : (fun (r : Option Value) (v' : Nat → Int32) => r = some (.int (nI 2)) ∧ okv v' ∧ mdf [66] v v') = Q
  have hQ : ∀ u, okv u → mdf [66] v u → Q (some (.int (nI 2))) u := by rw [← hQe]; exact fun u h1 h2  => ⟨rfl, h1, h2⟩
  clear hQe
  have hm : mdf [66] v v := mdf.rf
  show ST G mi_Mo_accept 0 [(0, .ref 373), (1, .int (nI 2))] [] v 0 0 Q
  refine ST.lift (fun _ _ k => T_aload_n (v := .ref 373) d_Mo_accept_0 rfl (Or.inr ⟨_, rfl⟩) k) ?_
  refine ST.lift (fun _ _ k => T_iconst (v := nI 0) d_Mo_accept_1 (by decide) k) ?_
  refine S_putfield (v' := va_up v 66 (nI 0)) d_Mo_accept_2 (fp_Mo_316 _) (w373 _) (Nat.le_of_ble_eq_true rfl) ⟨rfl, rfl⟩ (u373_0 _ _) ?_
  have hv2 := hv.off (j := 66) (x := (nI 0)) (by decide)
  have hm3 := hm.go (mdf.up (v := v) (j := 66) (x := (nI 0))) (by intro i hi; simp only [List.mem_cons, List.not_mem_nil, or_false] at hi ⊢ <;> omega)
  have e_u1 : (va_up v 66 (nI 0)) 66 = (nI 0) := by simp [va_up]
  have e4 : (va_up v 66 (nI 0)) 106 = nI 0 := by simp only [va_up]; exact e106
  generalize va_up v 66 (nI 0) = u1 at hv2 hm3 e_u1 e4 ⊢
  refine ST.lift (fun _ _ k => T_iload_n d_Mo_accept_5 rfl k) ?_
  refine S_static (as := [.int (nI 2)]) (rest := []) d_Mo_accept_6 rfl (jw_Mo_isSession.jo (by decide)) lm_Mo_545 jt_Mo_isSession rfl (Nat.le_of_ble_eq_true rfl) (by decide) (by decide) (c_Mo_isSession G u1 2 (by omega)) (fun r v' hq => ?_)
  rw [hq.1, hq.2]
  clear hq r v'
  show ST G mi_Mo_accept 9 [(0, .ref 373), (1, .int (nI 2))] [.int (nI 1)] u1 0 0 _
  refine S_if_neN d_Mo_accept_9 rfl (by omega) (fun _ => ?_) (fun c => by first | exact absurd c (by omega) | exact c.elim | exact absurd c (by decide) | exact absurd (by assumption) c | exact absurd c (by assumption) | exact absurd c (Int32.not_le.mpr (by assumption)))
  refine ST.lift (fun _ _ k => T_aload_n (v := .ref 373) d_Mo_accept_14 rfl (Or.inr ⟨_, rfl⟩) k) ?_
  refine S_getfield d_Mo_accept_15 fg_Mo_398 (w373 _) rfl ?_
  refine ST.lift (fun _ _ k => T_iload_n d_Mo_accept_18 rfl k) ?_
  refine S_xload (t := 3) (k := 2) (Or.inr ⟨rfl, d_Mo_accept_19⟩) rfl (w426 _) (by decide) (by decide) ?_
  refine S_topi (y := u1 106) rfl ?_
  refine S_topi (y := nI 0) (e4) ?_
  refine S_if_eqN d_Mo_accept_20 rfl (by omega) (fun _ => ?_) (fun c => by first | exact absurd c (by omega) | exact c.elim | exact absurd c (by decide) | exact absurd (by assumption) c | exact absurd c (by assumption) | exact absurd c (Int32.not_le.mpr (by assumption)))
  refine ST.lift (fun _ _ k => T_iconst (v := nI 2) d_Mo_accept_32 (by decide) k) ?_
  refine S_topi (y := nI 2) (congrArg nI (by omega)) ?_
  exact S_ret d_Mo_accept_33 rfl rfl (by decide) (by decide) (hQ _ hv2 hm3)
set_option maxRecDepth 100000 in
set_option maxHeartbeats 4000000 in
theorem c_Mo_answer_3_f (G : GX) (v : Nat → Int32) (e99 : v 99 = nI 0) (hv : okv v) : CS G mi_Mo_answer [.ref 373, .int (nI 3)] v (fun r v' => r = some (.int (nI 2)) ∧ okv v' ∧ mdf [66] v v') := by
  refine CS.of (by decide) (Nat.le_of_ble_eq_true rfl) ?_
  generalize hQe : (fun (r : Option Value) (v' : Nat → Int32) => r = some (.int (nI 2)) ∧ okv v' ∧ mdf [66] v v') = Q
  have hQ : ∀ u, okv u → mdf [66] v u → Q (some (.int (nI 2))) u := by rw [← hQe]; exact fun u h1 h2  => ⟨rfl, h1, h2⟩
  clear hQe
  have hm : mdf [66] v v := mdf.rf
  show ST G mi_Mo_answer 0 [(0, .ref 373), (1, .int (nI 3))] [] v 0 0 Q
  refine ST.lift (fun _ _ k => T_aload_n (v := .ref 373) d_Mo_answer_0 rfl (Or.inr ⟨_, rfl⟩) k) ?_
  refine ST.lift (fun _ _ k => T_iconst (v := nI 0) d_Mo_answer_1 (by decide) k) ?_
  refine S_putfield (v' := va_up v 66 (nI 0)) d_Mo_answer_2 (fp_Mo_316 _) (w373 _) (Nat.le_of_ble_eq_true rfl) ⟨rfl, rfl⟩ (u373_0 _ _) ?_
  have hv2 := hv.off (j := 66) (x := (nI 0)) (by decide)
  have hm3 := hm.go (mdf.up (v := v) (j := 66) (x := (nI 0))) (by intro i hi; simp only [List.mem_cons, List.not_mem_nil, or_false] at hi ⊢ <;> omega)
  have e_u1 : (va_up v 66 (nI 0)) 66 = (nI 0) := by simp [va_up]
  have e4 : (va_up v 66 (nI 0)) 99 = nI 0 := by simp only [va_up]; exact e99
  generalize va_up v 66 (nI 0) = u1 at hv2 hm3 e_u1 e4 ⊢
  refine ST.lift (fun _ _ k => T_iload_n d_Mo_answer_5 rfl k) ?_
  refine S_static (as := [.int (nI 3)]) (rest := []) d_Mo_answer_6 rfl (jw_Mo_isSession.jo (by decide)) lm_Mo_545 jt_Mo_isSession rfl (Nat.le_of_ble_eq_true rfl) (by decide) (by decide) (c_Mo_isSession G u1 3 (by omega)) (fun r v' hq => ?_)
  rw [hq.1, hq.2]
  clear hq r v'
  show ST G mi_Mo_answer 9 [(0, .ref 373), (1, .int (nI 3))] [.int (nI 1)] u1 0 0 _
  refine S_if_neN d_Mo_answer_9 rfl (by omega) (fun _ => ?_) (fun c => by first | exact absurd c (by omega) | exact c.elim | exact absurd c (by decide) | exact absurd (by assumption) c | exact absurd c (by assumption) | exact absurd c (Int32.not_le.mpr (by assumption)))
  refine ST.lift (fun _ _ k => T_aload_n (v := .ref 373) d_Mo_answer_14 rfl (Or.inr ⟨_, rfl⟩) k) ?_
  refine S_getfield d_Mo_answer_15 fg_Mo_392 (w373 _) rfl ?_
  refine ST.lift (fun _ _ k => T_iload_n d_Mo_answer_18 rfl k) ?_
  refine S_xload (t := 3) (k := 3) (Or.inr ⟨rfl, d_Mo_answer_19⟩) rfl (w424 _) (by decide) (by decide) ?_
  refine S_topi (y := u1 99) rfl ?_
  refine S_topi (y := nI 0) (e4) ?_
  refine S_if_eqN d_Mo_answer_20 rfl (by omega) (fun _ => ?_) (fun c => by first | exact absurd c (by omega) | exact c.elim | exact absurd c (by decide) | exact absurd (by assumption) c | exact absurd c (by assumption) | exact absurd c (Int32.not_le.mpr (by assumption)))
  refine ST.lift (fun _ _ k => T_iconst (v := nI 2) d_Mo_answer_32 (by decide) k) ?_
  refine S_topi (y := nI 2) (congrArg nI (by omega)) ?_
  exact S_ret d_Mo_answer_33 rfl rfl (by decide) (by decide) (hQ _ hv2 hm3)
set_option maxRecDepth 100000 in
set_option maxHeartbeats 4000000 in
theorem c_Mo_finish_3_f (G : GX) (v : Nat → Int32) (e103 : v 103 = nI 0) (hv : okv v) : CS G mi_Mo_finish [.ref 373, .int (nI 3)] v (fun r v' => r = some (.int (nI 2)) ∧ okv v' ∧ mdf [66] v v') := by
  refine CS.of (by decide) (Nat.le_of_ble_eq_true rfl) ?_
  generalize hQe : (fun (r : Option Value) (v' : Nat → Int32) => r = some (.int (nI 2)) ∧ okv v' ∧ mdf [66] v v') = Q
  have hQ : ∀ u, okv u → mdf [66] v u → Q (some (.int (nI 2))) u := by rw [← hQe]; exact fun u h1 h2  => ⟨rfl, h1, h2⟩
  clear hQe
  have hm : mdf [66] v v := mdf.rf
  show ST G mi_Mo_finish 0 [(0, .ref 373), (1, .int (nI 3))] [] v 0 0 Q
  refine ST.lift (fun _ _ k => T_aload_n (v := .ref 373) d_Mo_finish_0 rfl (Or.inr ⟨_, rfl⟩) k) ?_
  refine ST.lift (fun _ _ k => T_iconst (v := nI 0) d_Mo_finish_1 (by decide) k) ?_
  refine S_putfield (v' := va_up v 66 (nI 0)) d_Mo_finish_2 (fp_Mo_316 _) (w373 _) (Nat.le_of_ble_eq_true rfl) ⟨rfl, rfl⟩ (u373_0 _ _) ?_
  have hv2 := hv.off (j := 66) (x := (nI 0)) (by decide)
  have hm3 := hm.go (mdf.up (v := v) (j := 66) (x := (nI 0))) (by intro i hi; simp only [List.mem_cons, List.not_mem_nil, or_false] at hi ⊢ <;> omega)
  have e_u1 : (va_up v 66 (nI 0)) 66 = (nI 0) := by simp [va_up]
  have e4 : (va_up v 66 (nI 0)) 103 = nI 0 := by simp only [va_up]; exact e103
  generalize va_up v 66 (nI 0) = u1 at hv2 hm3 e_u1 e4 ⊢
  refine ST.lift (fun _ _ k => T_iload_n d_Mo_finish_5 rfl k) ?_
  refine S_static (as := [.int (nI 3)]) (rest := []) d_Mo_finish_6 rfl (jw_Mo_isSession.jo (by decide)) lm_Mo_545 jt_Mo_isSession rfl (Nat.le_of_ble_eq_true rfl) (by decide) (by decide) (c_Mo_isSession G u1 3 (by omega)) (fun r v' hq => ?_)
  rw [hq.1, hq.2]
  clear hq r v'
  show ST G mi_Mo_finish 9 [(0, .ref 373), (1, .int (nI 3))] [.int (nI 1)] u1 0 0 _
  refine S_if_neN d_Mo_finish_9 rfl (by omega) (fun _ => ?_) (fun c => by first | exact absurd c (by omega) | exact c.elim | exact absurd c (by decide) | exact absurd (by assumption) c | exact absurd c (by assumption) | exact absurd c (Int32.not_le.mpr (by assumption)))
  refine ST.lift (fun _ _ k => T_aload_n (v := .ref 373) d_Mo_finish_14 rfl (Or.inr ⟨_, rfl⟩) k) ?_
  refine S_getfield d_Mo_finish_15 fg_Mo_395 (w373 _) rfl ?_
  refine ST.lift (fun _ _ k => T_iload_n d_Mo_finish_18 rfl k) ?_
  refine S_xload (t := 3) (k := 3) (Or.inr ⟨rfl, d_Mo_finish_19⟩) rfl (w425 _) (by decide) (by decide) ?_
  refine S_topi (y := u1 103) rfl ?_
  refine S_topi (y := nI 0) (e4) ?_
  refine S_if_eqN d_Mo_finish_20 rfl (by omega) (fun _ => ?_) (fun c => by first | exact absurd c (by omega) | exact c.elim | exact absurd c (by decide) | exact absurd (by assumption) c | exact absurd c (by assumption) | exact absurd c (Int32.not_le.mpr (by assumption)))
  refine ST.lift (fun _ _ k => T_iconst (v := nI 2) d_Mo_finish_32 (by decide) k) ?_
  refine S_topi (y := nI 2) (congrArg nI (by omega)) ?_
  exact S_ret d_Mo_finish_33 rfl rfl (by decide) (by decide) (hQ _ hv2 hm3)
set_option maxRecDepth 100000 in
set_option maxHeartbeats 4000000 in
theorem c_Mo_accept_3_f (G : GX) (v : Nat → Int32) (e107 : v 107 = nI 0) (hv : okv v) : CS G mi_Mo_accept [.ref 373, .int (nI 3)] v (fun r v' => r = some (.int (nI 2)) ∧ okv v' ∧ mdf [66] v v') := by
  refine CS.of (by decide) (Nat.le_of_ble_eq_true rfl) ?_
  generalize hQe : (fun (r : Option Value) (v' : Nat → Int32) => r = some (.int (nI 2)) ∧ okv v' ∧ mdf [66] v v') = Q
  have hQ : ∀ u, okv u → mdf [66] v u → Q (some (.int (nI 2))) u := by rw [← hQe]; exact fun u h1 h2  => ⟨rfl, h1, h2⟩
  clear hQe
  have hm : mdf [66] v v := mdf.rf
  show ST G mi_Mo_accept 0 [(0, .ref 373), (1, .int (nI 3))] [] v 0 0 Q
  refine ST.lift (fun _ _ k => T_aload_n (v := .ref 373) d_Mo_accept_0 rfl (Or.inr ⟨_, rfl⟩) k) ?_
  refine ST.lift (fun _ _ k => T_iconst (v := nI 0) d_Mo_accept_1 (by decide) k) ?_
  refine S_putfield (v' := va_up v 66 (nI 0)) d_Mo_accept_2 (fp_Mo_316 _) (w373 _) (Nat.le_of_ble_eq_true rfl) ⟨rfl, rfl⟩ (u373_0 _ _) ?_
  have hv2 := hv.off (j := 66) (x := (nI 0)) (by decide)
  have hm3 := hm.go (mdf.up (v := v) (j := 66) (x := (nI 0))) (by intro i hi; simp only [List.mem_cons, List.not_mem_nil, or_false] at hi ⊢ <;> omega)
  have e_u1 : (va_up v 66 (nI 0)) 66 = (nI 0) := by simp [va_up]
  have e4 : (va_up v 66 (nI 0)) 107 = nI 0 := by simp only [va_up]; exact e107
  generalize va_up v 66 (nI 0) = u1 at hv2 hm3 e_u1 e4 ⊢
  refine ST.lift (fun _ _ k => T_iload_n d_Mo_accept_5 rfl k) ?_
  refine S_static (as := [.int (nI 3)]) (rest := []) d_Mo_accept_6 rfl (jw_Mo_isSession.jo (by decide)) lm_Mo_545 jt_Mo_isSession rfl (Nat.le_of_ble_eq_true rfl) (by decide) (by decide) (c_Mo_isSession G u1 3 (by omega)) (fun r v' hq => ?_)
  rw [hq.1, hq.2]
  clear hq r v'
  show ST G mi_Mo_accept 9 [(0, .ref 373), (1, .int (nI 3))] [.int (nI 1)] u1 0 0 _
  refine S_if_neN d_Mo_accept_9 rfl (by omega) (fun _ => ?_) (fun c => by first | exact absurd c (by omega) | exact c.elim | exact absurd c (by decide) | exact absurd (by assumption) c | exact absurd c (by assumption) | exact absurd c (Int32.not_le.mpr (by assumption)))
  refine ST.lift (fun _ _ k => T_aload_n (v := .ref 373) d_Mo_accept_14 rfl (Or.inr ⟨_, rfl⟩) k) ?_
  refine S_getfield d_Mo_accept_15 fg_Mo_398 (w373 _) rfl ?_
  refine ST.lift (fun _ _ k => T_iload_n d_Mo_accept_18 rfl k) ?_
  refine S_xload (t := 3) (k := 3) (Or.inr ⟨rfl, d_Mo_accept_19⟩) rfl (w426 _) (by decide) (by decide) ?_
  refine S_topi (y := u1 107) rfl ?_
  refine S_topi (y := nI 0) (e4) ?_
  refine S_if_eqN d_Mo_accept_20 rfl (by omega) (fun _ => ?_) (fun c => by first | exact absurd c (by omega) | exact c.elim | exact absurd c (by decide) | exact absurd (by assumption) c | exact absurd c (by assumption) | exact absurd c (Int32.not_le.mpr (by assumption)))
  refine ST.lift (fun _ _ k => T_iconst (v := nI 2) d_Mo_accept_32 (by decide) k) ?_
  refine S_topi (y := nI 2) (congrArg nI (by omega)) ?_
  exact S_ret d_Mo_accept_33 rfl rfl (by decide) (by decide) (hQ _ hv2 hm3)

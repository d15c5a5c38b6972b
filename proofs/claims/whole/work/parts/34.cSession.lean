set_option maxRecDepth 100000 in
set_option maxHeartbeats 4000000 in
theorem c_Ss_take_265_0 (G : GX) (v : Nat → Int32) (hv : okv v) : CS G mi_Ss_take [.ref 265, .int (nI 0)] v (fun r v' => ∃ z : Nat, z ≤ 1 ∧ r = some (.int (nI z)) ∧ okv v' ∧ mdf [] v v') := by
  refine CS.of (by decide) (Nat.le_of_ble_eq_true rfl) ?_
  generalize hQe : (fun (r : Option Value) (v' : Nat → Int32) => ∃ z : Nat, z ≤ 1 ∧ r = some (.int (nI z)) ∧ okv v' ∧ mdf [] v v') = Q
  have hQ : ∀ (z : Nat) (u : Nat → Int32), z ≤ 1 → okv u → mdf [] v u → Q (some (.int (nI z))) u := by rw [← hQe]; exact fun z u hz h1 h2 => ⟨z, hz, rfl, h1, h2⟩
  clear hQe
  have hm : mdf [] v v := mdf.rf
  show ST G mi_Ss_take 0 [(0, .ref 265), (1, .int (nI 0))] [] v 0 0 Q
  refine ST.lift (fun _ _ k => T_aload_n (v := .ref 265) d_Ss_take_0 rfl (Or.inr ⟨_, rfl⟩) k) ?_
  refine S_getfield d_Ss_take_1 fg_Ss_11 (w265 _) rfl ?_
  refine ST.lift (fun _ _ k => T_iload_n d_Ss_take_4 rfl k) ?_
  refine S_aaload (C0 := "PasswordGate$Bytes") d_Ss_take_5 (by decide) (w266 _) rfl (vp_in_nI (by omega) (by omega)) ?_
  obtain ⟨k1, hk1, ek1⟩ := hv.get (j := 28) (c := 96) (by decide)
  refine S_getfield d_Ss_take_6 fg_Ss_50 (w279 _) rfl ?_
  refine S_topi (y := nI k1) (ek1) ?_
  refine S_if_eqN d_Ss_take_9 rfl (by omega) (fun c2 => ?_) (fun c2 => ?_)
  · refine ST.lift (fun _ _ k => T_iconst (v := nI 0) d_Ss_take_21 (by decide) k) ?_
    exact S_ret d_Ss_take_22 rfl (nar_z (by omega)) (by decide) (by decide) (hQ 0 _ (by omega) hv hm)
  · refine ST.lift (fun _ _ k => T_aload_n (v := .ref 265) d_Ss_take_12 rfl (Or.inr ⟨_, rfl⟩) k) ?_
    refine S_getfield d_Ss_take_13 fg_Ss_27 (w265 _) rfl ?_
    refine ST.lift (fun _ _ k => T_iload_n d_Ss_take_16 rfl k) ?_
    refine S_zaload d_Ss_take_17 w270 (vp_in_nI (by omega) (by omega)) (fun z3 hz3 => ?_)
    refine S_if_eq d_Ss_take_18 rfl (fun c4 => ?_) (fun c4 => ?_)
    · refine ST.lift (fun _ _ k => T_aload_n (v := .ref 265) d_Ss_take_23 rfl (Or.inr ⟨_, rfl⟩) k) ?_
      refine S_getfield d_Ss_take_24 fg_Ss_27 (w265 _) rfl ?_
      refine ST.lift (fun _ _ k => T_iload_n d_Ss_take_27 rfl k) ?_
      refine ST.lift (fun _ _ k => T_iconst (v := nI 1) d_Ss_take_28 (by decide) k) ?_
      refine S_zastore d_Ss_take_29 (by decide) w270 (vp_in_nI (by omega) (by omega)) ?_
      refine ST.lift (fun _ _ k => T_iconst (v := nI 1) d_Ss_take_30 (by decide) k) ?_
      exact S_ret d_Ss_take_31 rfl (nar_z (by omega)) (by decide) (by decide) (hQ 1 _ (by omega) hv hm)
    · refine ST.lift (fun _ _ k => T_iconst (v := nI 0) d_Ss_take_21 (by decide) k) ?_
      exact S_ret d_Ss_take_22 rfl (nar_z (by omega)) (by decide) (by decide) (hQ 0 _ (by omega) hv hm)
set_option maxRecDepth 100000 in
set_option maxHeartbeats 4000000 in
theorem c_Ss_take_265_1 (G : GX) (v : Nat → Int32) (hv : okv v) : CS G mi_Ss_take [.ref 265, .int (nI 1)] v (fun r v' => ∃ z : Nat, z ≤ 1 ∧ r = some (.int (nI z)) ∧ okv v' ∧ mdf [] v v') := by
  refine CS.of (by decide) (Nat.le_of_ble_eq_true rfl) ?_
  generalize hQe : (fun (r : Option Value) (v' : Nat → Int32) => ∃ z : Nat, z ≤ 1 ∧ r = some (.int (nI z)) ∧ okv v' ∧ mdf [] v v') = Q
  have hQ : ∀ (z : Nat) (u : Nat → Int32), z ≤ 1 → okv u → mdf [] v u → Q (some (.int (nI z))) u := by rw [← hQe]; exact fun z u hz h1 h2 => ⟨z, hz, rfl, h1, h2⟩
  clear hQe
  have hm : mdf [] v v := mdf.rf
  show ST G mi_Ss_take 0 [(0, .ref 265), (1, .int (nI 1))] [] v 0 0 Q
  refine ST.lift (fun _ _ k => T_aload_n (v := .ref 265) d_Ss_take_0 rfl (Or.inr ⟨_, rfl⟩) k) ?_
  refine S_getfield d_Ss_take_1 fg_Ss_11 (w265 _) rfl ?_
  refine ST.lift (fun _ _ k => T_iload_n d_Ss_take_4 rfl k) ?_
  refine S_aaload (C0 := "PasswordGate$Bytes") d_Ss_take_5 (by decide) (w266 _) rfl (vp_in_nI (by omega) (by omega)) ?_
  obtain ⟨k1, hk1, ek1⟩ := hv.get (j := 29) (c := 320) (by decide)
  refine S_getfield d_Ss_take_6 fg_Ss_50 (w281 _) rfl ?_
  refine S_topi (y := nI k1) (ek1) ?_
  refine S_if_eqN d_Ss_take_9 rfl (by omega) (fun c2 => ?_) (fun c2 => ?_)
  · refine ST.lift (fun _ _ k => T_iconst (v := nI 0) d_Ss_take_21 (by decide) k) ?_
    exact S_ret d_Ss_take_22 rfl (nar_z (by omega)) (by decide) (by decide) (hQ 0 _ (by omega) hv hm)
  · refine ST.lift (fun _ _ k => T_aload_n (v := .ref 265) d_Ss_take_12 rfl (Or.inr ⟨_, rfl⟩) k) ?_
    refine S_getfield d_Ss_take_13 fg_Ss_27 (w265 _) rfl ?_
    refine ST.lift (fun _ _ k => T_iload_n d_Ss_take_16 rfl k) ?_
    refine S_zaload d_Ss_take_17 w270 (vp_in_nI (by omega) (by omega)) (fun z3 hz3 => ?_)
    refine S_if_eq d_Ss_take_18 rfl (fun c4 => ?_) (fun c4 => ?_)
    · refine ST.lift (fun _ _ k => T_aload_n (v := .ref 265) d_Ss_take_23 rfl (Or.inr ⟨_, rfl⟩) k) ?_
      refine S_getfield d_Ss_take_24 fg_Ss_27 (w265 _) rfl ?_
      refine ST.lift (fun _ _ k => T_iload_n d_Ss_take_27 rfl k) ?_
      refine ST.lift (fun _ _ k => T_iconst (v := nI 1) d_Ss_take_28 (by decide) k) ?_
      refine S_zastore d_Ss_take_29 (by decide) w270 (vp_in_nI (by omega) (by omega)) ?_
      refine ST.lift (fun _ _ k => T_iconst (v := nI 1) d_Ss_take_30 (by decide) k) ?_
      exact S_ret d_Ss_take_31 rfl (nar_z (by omega)) (by decide) (by decide) (hQ 1 _ (by omega) hv hm)
    · refine ST.lift (fun _ _ k => T_iconst (v := nI 0) d_Ss_take_21 (by decide) k) ?_
      exact S_ret d_Ss_take_22 rfl (nar_z (by omega)) (by decide) (by decide) (hQ 0 _ (by omega) hv hm)
set_option maxRecDepth 100000 in
set_option maxHeartbeats 4000000 in
theorem c_Ss_take_265_2 (G : GX) (v : Nat → Int32) (hv : okv v) : CS G mi_Ss_take [.ref 265, .int (nI 2)] v (fun r v' => ∃ z : Nat, z ≤ 1 ∧ r = some (.int (nI z)) ∧ okv v' ∧ mdf [] v v') := by
  refine CS.of (by decide) (Nat.le_of_ble_eq_true rfl) ?_
  generalize hQe : (fun (r : Option Value) (v' : Nat → Int32) => ∃ z : Nat, z ≤ 1 ∧ r = some (.int (nI z)) ∧ okv v' ∧ mdf [] v v') = Q
  have hQ : ∀ (z : Nat) (u : Nat → Int32), z ≤ 1 → okv u → mdf [] v u → Q (some (.int (nI z))) u := by rw [← hQe]; exact fun z u hz h1 h2 => ⟨z, hz, rfl, h1, h2⟩
  clear hQe
  have hm : mdf [] v v := mdf.rf
  show ST G mi_Ss_take 0 [(0, .ref 265), (1, .int (nI 2))] [] v 0 0 Q
  refine ST.lift (fun _ _ k => T_aload_n (v := .ref 265) d_Ss_take_0 rfl (Or.inr ⟨_, rfl⟩) k) ?_
  refine S_getfield d_Ss_take_1 fg_Ss_11 (w265 _) rfl ?_
  refine ST.lift (fun _ _ k => T_iload_n d_Ss_take_4 rfl k) ?_
  refine S_aaload (C0 := "PasswordGate$Bytes") d_Ss_take_5 (by decide) (w266 _) rfl (vp_in_nI (by omega) (by omega)) ?_
  obtain ⟨k1, hk1, ek1⟩ := hv.get (j := 30) (c := 64) (by decide)
  refine S_getfield d_Ss_take_6 fg_Ss_50 (w283 _) rfl ?_
  refine S_topi (y := nI k1) (ek1) ?_
  refine S_if_eqN d_Ss_take_9 rfl (by omega) (fun c2 => ?_) (fun c2 => ?_)
  · refine ST.lift (fun _ _ k => T_iconst (v := nI 0) d_Ss_take_21 (by decide) k) ?_
    exact S_ret d_Ss_take_22 rfl (nar_z (by omega)) (by decide) (by decide) (hQ 0 _ (by omega) hv hm)
  · refine ST.lift (fun _ _ k => T_aload_n (v := .ref 265) d_Ss_take_12 rfl (Or.inr ⟨_, rfl⟩) k) ?_
    refine S_getfield d_Ss_take_13 fg_Ss_27 (w265 _) rfl ?_
    refine ST.lift (fun _ _ k => T_iload_n d_Ss_take_16 rfl k) ?_
    refine S_zaload d_Ss_take_17 w270 (vp_in_nI (by omega) (by omega)) (fun z3 hz3 => ?_)
    refine S_if_eq d_Ss_take_18 rfl (fun c4 => ?_) (fun c4 => ?_)
    · refine ST.lift (fun _ _ k => T_aload_n (v := .ref 265) d_Ss_take_23 rfl (Or.inr ⟨_, rfl⟩) k) ?_
      refine S_getfield d_Ss_take_24 fg_Ss_27 (w265 _) rfl ?_
      refine ST.lift (fun _ _ k => T_iload_n d_Ss_take_27 rfl k) ?_
      refine ST.lift (fun _ _ k => T_iconst (v := nI 1) d_Ss_take_28 (by decide) k) ?_
      refine S_zastore d_Ss_take_29 (by decide) w270 (vp_in_nI (by omega) (by omega)) ?_
      refine ST.lift (fun _ _ k => T_iconst (v := nI 1) d_Ss_take_30 (by decide) k) ?_
      exact S_ret d_Ss_take_31 rfl (nar_z (by omega)) (by decide) (by decide) (hQ 1 _ (by omega) hv hm)
    · refine ST.lift (fun _ _ k => T_iconst (v := nI 0) d_Ss_take_21 (by decide) k) ?_
      exact S_ret d_Ss_take_22 rfl (nar_z (by omega)) (by decide) (by decide) (hQ 0 _ (by omega) hv hm)
set_option maxRecDepth 100000 in
set_option maxHeartbeats 4000000 in
theorem c_Ss_start_265 (G : GX) (v : Nat → Int32) (usr : Nat) (b_usr : usr ≤ 7) (b bd bc bj : Nat) (y_b : isBy b bd bc bj) (hv : okv v) : CS G mi_Ss_start [.ref 265, .ref 62, .int (nI usr), .ref b] v (fun r v' => r = none ∧ okv v' ∧ mdf [6, 7, 5, 2, 3, 1, 4, 28, 29, 30, 31, 32, 33, 25, 26, 27, 24] v v') := by
  refine CS.of (by decide) (Nat.le_of_ble_eq_true rfl) ?_
  generalize hQe : (fun (r : Option Value) (v' : Nat → Int32) => r = none ∧ okv v' ∧ mdf [6, 7, 5, 2, 3, 1, 4, 28, 29, 30, 31, 32, 33, 25, 26, 27, 24] v v') = Q
  have hQ : ∀ u, okv u → mdf [6, 7, 5, 2, 3, 1, 4, 28, 29, 30, 31, 32, 33, 25, 26, 27, 24] v u → Q none u := by rw [← hQe]; exact fun u h1 h2 => ⟨rfl, h1, h2⟩
  clear hQe
  have hm : mdf [6, 7, 5, 2, 3, 1, 4, 28, 29, 30, 31, 32, 33, 25, 26, 27, 24] v v := mdf.rf
  have l_b := y_b.2.2.2.2.2
  show ST G mi_Ss_start 0 [(0, .ref 265), (1, .ref 62), (2, .int (nI usr)), (3, .ref b)] [] v 0 0 Q
  refine ST.lift (fun _ _ k => T_iconst (v := nI 0) d_Ss_start_0 (by decide) k) ?_
  refine ST.lift (fun _ _ k => T_istore (L' := [(4, .int (nI 0)), (0, .ref 265), (1, .ref 62), (2, .int (nI usr)), (3, .ref b)]) d_Ss_start_1 (by decide) rfl k) ?_
  refine ST.lift (fun _ _ k => T_iload d_Ss_start_3 rfl k) ?_
  refine ST.lift (fun _ _ k => T_iconst (v := nI 3) d_Ss_start_5 (by decide) k) ?_
  refine S_icmp_geN d_Ss_start_6 rfl (by omega) (by omega) (fun c => by first | exact absurd c (by omega) | exact c.elim | exact absurd c (by decide) | exact absurd (by assumption) c | exact absurd c (by assumption)) (fun _ => ?_)
  refine ST.lift (fun _ _ k => T_aload_n (v := .ref 265) d_Ss_start_9 rfl (Or.inr ⟨_, rfl⟩) k) ?_
  refine S_getfield d_Ss_start_10 fg_Ss_11 (w265 _) rfl ?_
  refine ST.lift (fun _ _ k => T_iload d_Ss_start_13 rfl k) ?_
  refine S_aaload (C0 := "PasswordGate$Bytes") d_Ss_start_15 (by decide) (w266 _) rfl (vp_in_nI (by omega) (by omega)) ?_
  refine S_virtual (as := []) (rest := []) (b := 279) d_Ss_start_16 rfl (jw_By_clear.jo (by decide)) lm_Ss_54 ji_By_clear js_By_clear (w279 _) rfl rfl rfl (Nat.le_of_ble_eq_true rfl) (by decide) (by decide) (c_By_clear G v 279 280 96 28 ⟨w279, w280, by decide, u279_1, by decide, by decide⟩ hv) (fun r v' hq => ?_)
  rw [hq.1, hq.2]
  clear hq r v'
  show ST G mi_Ss_start 19 [(4, .int (nI 0)), (0, .ref 265), (1, .ref 62), (2, .int (nI usr)), (3, .ref b)] [] (va_up v 28 (nI 0)) 0 0 _
  have hv2 := hv.up (j := 28) (c := 96) (k := 0) (by decide) (by omega)
  have hm3 := hm.go (mdf.up (v := v) (j := 28) (x := (nI 0))) (by intro i hi; simp only [List.mem_cons, List.not_mem_nil, or_false] at hi ⊢ <;> omega)
  have e_u1 : (va_up v 28 (nI 0)) 28 = (nI 0) := by simp [va_up]
  generalize va_up v 28 (nI 0) = u1 at hv2 hm3 e_u1 ⊢
  refine ST.lift (fun _ _ k => T_aload_n (v := .ref 265) d_Ss_start_19 rfl (Or.inr ⟨_, rfl⟩) k) ?_
  refine S_getfield d_Ss_start_20 fg_Ss_17 (w265 _) rfl ?_
  refine ST.lift (fun _ _ k => T_iload d_Ss_start_23 rfl k) ?_
  refine S_aaload (C0 := "PasswordGate$Bytes") d_Ss_start_25 (by decide) (w267 _) rfl (vp_in_nI (by omega) (by omega)) ?_
  refine S_virtual (as := []) (rest := []) (b := 285) d_Ss_start_26 rfl (jw_By_clear.jo (by decide)) lm_Ss_54 ji_By_clear js_By_clear (w285 _) rfl rfl rfl (Nat.le_of_ble_eq_true rfl) (by decide) (by decide) (c_By_clear G u1 285 286 64 31 ⟨w285, w286, by decide, u285_1, by decide, by decide⟩ hv2) (fun r v' hq => ?_)
  rw [hq.1, hq.2]
  clear hq r v'
  show ST G mi_Ss_start 29 [(4, .int (nI 0)), (0, .ref 265), (1, .ref 62), (2, .int (nI usr)), (3, .ref b)] [] (va_up u1 31 (nI 0)) 0 0 _
  have hv5 := hv2.up (j := 31) (c := 64) (k := 0) (by decide) (by omega)
  have hm6 := hm3.go (mdf.up (v := u1) (j := 31) (x := (nI 0))) (by intro i hi; simp only [List.mem_cons, List.not_mem_nil, or_false] at hi ⊢ <;> omega)
  have e_u4 : (va_up u1 31 (nI 0)) 31 = (nI 0) := by simp [va_up]
  have e7 : (va_up u1 31 (nI 0)) 28 = nI 0 := by simp only [va_up]; exact e_u1
  generalize va_up u1 31 (nI 0) = u4 at hv5 hm6 e_u4 e7 ⊢
  refine ST.lift (fun _ _ k => T_aload_n (v := .ref 265) d_Ss_start_29 rfl (Or.inr ⟨_, rfl⟩) k) ?_
  refine S_getfield d_Ss_start_30 fg_Ss_27 (w265 _) rfl ?_
  refine ST.lift (fun _ _ k => T_iload d_Ss_start_33 rfl k) ?_
  refine ST.lift (fun _ _ k => T_iconst (v := nI 0) d_Ss_start_35 (by decide) k) ?_
  refine S_zastore d_Ss_start_36 (by decide) w270 (vp_in_nI (by omega) (by omega)) ?_
  refine S_iincN (a := 0) (b := 1) (L' := [(4, .int (nI 1)), (0, .ref 265), (1, .ref 62), (2, .int (nI usr)), (3, .ref b)]) d_Ss_start_37 (by decide) rfl rfl rfl ?_
  refine ST.lift (fun _ _ k => T_goto (tgt := 3) d_Ss_start_40 rfl k) ?_
  refine ST.lift (fun _ _ k => T_iload d_Ss_start_3 rfl k) ?_
  refine ST.lift (fun _ _ k => T_iconst (v := nI 3) d_Ss_start_5 (by decide) k) ?_
  refine S_icmp_geN d_Ss_start_6 rfl (by omega) (by omega) (fun c => by first | exact absurd c (by omega) | exact c.elim | exact absurd c (by decide) | exact absurd (by assumption) c | exact absurd c (by assumption)) (fun _ => ?_)
  refine ST.lift (fun _ _ k => T_aload_n (v := .ref 265) d_Ss_start_9 rfl (Or.inr ⟨_, rfl⟩) k) ?_
  refine S_getfield d_Ss_start_10 fg_Ss_11 (w265 _) rfl ?_
  refine ST.lift (fun _ _ k => T_iload d_Ss_start_13 rfl k) ?_
  refine S_aaload (C0 := "PasswordGate$Bytes") d_Ss_start_15 (by decide) (w266 _) rfl (vp_in_nI (by omega) (by omega)) ?_
  refine S_virtual (as := []) (rest := []) (b := 281) d_Ss_start_16 rfl (jw_By_clear.jo (by decide)) lm_Ss_54 ji_By_clear js_By_clear (w281 _) rfl rfl rfl (Nat.le_of_ble_eq_true rfl) (by decide) (by decide) (c_By_clear G u4 281 282 320 29 ⟨w281, w282, by decide, u281_1, by decide, by decide⟩ hv5) (fun r v' hq => ?_)
  rw [hq.1, hq.2]
  clear hq r v'
  show ST G mi_Ss_start 19 [(4, .int (nI 1)), (0, .ref 265), (1, .ref 62), (2, .int (nI usr)), (3, .ref b)] [] (va_up u4 29 (nI 0)) 0 0 _
  have hv9 := hv5.up (j := 29) (c := 320) (k := 0) (by decide) (by omega)
  have hm10 := hm6.go (mdf.up (v := u4) (j := 29) (x := (nI 0))) (by intro i hi; simp only [List.mem_cons, List.not_mem_nil, or_false] at hi ⊢ <;> omega)
  have e_u8 : (va_up u4 29 (nI 0)) 29 = (nI 0) := by simp [va_up]
  have e11 : (va_up u4 29 (nI 0)) 28 = nI 0 := by simp only [va_up]; exact e7
  have e12 : (va_up u4 29 (nI 0)) 31 = nI 0 := by simp only [va_up]; exact e_u4
  generalize va_up u4 29 (nI 0) = u8 at hv9 hm10 e_u8 e11 e12 ⊢
  refine ST.lift (fun _ _ k => T_aload_n (v := .ref 265) d_Ss_start_19 rfl (Or.inr ⟨_, rfl⟩) k) ?_
  refine S_getfield d_Ss_start_20 fg_Ss_17 (w265 _) rfl ?_
  refine ST.lift (fun _ _ k => T_iload d_Ss_start_23 rfl k) ?_
  refine S_aaload (C0 := "PasswordGate$Bytes") d_Ss_start_25 (by decide) (w267 _) rfl (vp_in_nI (by omega) (by omega)) ?_
  refine S_virtual (as := []) (rest := []) (b := 287) d_Ss_start_26 rfl (jw_By_clear.jo (by decide)) lm_Ss_54 ji_By_clear js_By_clear (w287 _) rfl rfl rfl (Nat.le_of_ble_eq_true rfl) (by decide) (by decide) (c_By_clear G u8 287 288 64 32 ⟨w287, w288, by decide, u287_1, by decide, by decide⟩ hv9) (fun r v' hq => ?_)
  rw [hq.1, hq.2]
  clear hq r v'
  show ST G mi_Ss_start 29 [(4, .int (nI 1)), (0, .ref 265), (1, .ref 62), (2, .int (nI usr)), (3, .ref b)] [] (va_up u8 32 (nI 0)) 0 0 _
  have hv14 := hv9.up (j := 32) (c := 64) (k := 0) (by decide) (by omega)
  have hm15 := hm10.go (mdf.up (v := u8) (j := 32) (x := (nI 0))) (by intro i hi; simp only [List.mem_cons, List.not_mem_nil, or_false] at hi ⊢ <;> omega)
  have e_u13 : (va_up u8 32 (nI 0)) 32 = (nI 0) := by simp [va_up]
  have e16 : (va_up u8 32 (nI 0)) 28 = nI 0 := by simp only [va_up]; exact e11
  have e17 : (va_up u8 32 (nI 0)) 31 = nI 0 := by simp only [va_up]; exact e12
  have e18 : (va_up u8 32 (nI 0)) 29 = nI 0 := by simp only [va_up]; exact e_u8
  generalize va_up u8 32 (nI 0) = u13 at hv14 hm15 e_u13 e16 e17 e18 ⊢
  refine ST.lift (fun _ _ k => T_aload_n (v := .ref 265) d_Ss_start_29 rfl (Or.inr ⟨_, rfl⟩) k) ?_
  refine S_getfield d_Ss_start_30 fg_Ss_27 (w265 _) rfl ?_
  refine ST.lift (fun _ _ k => T_iload d_Ss_start_33 rfl k) ?_
  refine ST.lift (fun _ _ k => T_iconst (v := nI 0) d_Ss_start_35 (by decide) k) ?_
  refine S_zastore d_Ss_start_36 (by decide) w270 (vp_in_nI (by omega) (by omega)) ?_
  refine S_iincN (a := 1) (b := 1) (L' := [(4, .int (nI 2)), (0, .ref 265), (1, .ref 62), (2, .int (nI usr)), (3, .ref b)]) d_Ss_start_37 (by decide) rfl rfl rfl ?_
  refine ST.lift (fun _ _ k => T_goto (tgt := 3) d_Ss_start_40 rfl k) ?_
  refine ST.lift (fun _ _ k => T_iload d_Ss_start_3 rfl k) ?_
  refine ST.lift (fun _ _ k => T_iconst (v := nI 3) d_Ss_start_5 (by decide) k) ?_
  refine S_icmp_geN d_Ss_start_6 rfl (by omega) (by omega) (fun c => by first | exact absurd c (by omega) | exact c.elim | exact absurd c (by decide) | exact absurd (by assumption) c | exact absurd c (by assumption)) (fun _ => ?_)
  refine ST.lift (fun _ _ k => T_aload_n (v := .ref 265) d_Ss_start_9 rfl (Or.inr ⟨_, rfl⟩) k) ?_
  refine S_getfield d_Ss_start_10 fg_Ss_11 (w265 _) rfl ?_
  refine ST.lift (fun _ _ k => T_iload d_Ss_start_13 rfl k) ?_
  refine S_aaload (C0 := "PasswordGate$Bytes") d_Ss_start_15 (by decide) (w266 _) rfl (vp_in_nI (by omega) (by omega)) ?_
  refine S_virtual (as := []) (rest := []) (b := 283) d_Ss_start_16 rfl (jw_By_clear.jo (by decide)) lm_Ss_54 ji_By_clear js_By_clear (w283 _) rfl rfl rfl (Nat.le_of_ble_eq_true rfl) (by decide) (by decide) (c_By_clear G u13 283 284 64 30 ⟨w283, w284, by decide, u283_1, by decide, by decide⟩ hv14) (fun r v' hq => ?_)
  rw [hq.1, hq.2]
  clear hq r v'
  show ST G mi_Ss_start 19 [(4, .int (nI 2)), (0, .ref 265), (1, .ref 62), (2, .int (nI usr)), (3, .ref b)] [] (va_up u13 30 (nI 0)) 0 0 _
  have hv20 := hv14.up (j := 30) (c := 64) (k := 0) (by decide) (by omega)
  have hm21 := hm15.go (mdf.up (v := u13) (j := 30) (x := (nI 0))) (by intro i hi; simp only [List.mem_cons, List.not_mem_nil, or_false] at hi ⊢ <;> omega)
  have e_u19 : (va_up u13 30 (nI 0)) 30 = (nI 0) := by simp [va_up]
  have e22 : (va_up u13 30 (nI 0)) 28 = nI 0 := by simp only [va_up]; exact e16
  have e23 : (va_up u13 30 (nI 0)) 31 = nI 0 := by simp only [va_up]; exact e17
  have e24 : (va_up u13 30 (nI 0)) 29 = nI 0 := by simp only [va_up]; exact e18
  have e25 : (va_up u13 30 (nI 0)) 32 = nI 0 := by simp only [va_up]; exact e_u13
  generalize va_up u13 30 (nI 0) = u19 at hv20 hm21 e_u19 e22 e23 e24 e25 ⊢
  refine ST.lift (fun _ _ k => T_aload_n (v := .ref 265) d_Ss_start_19 rfl (Or.inr ⟨_, rfl⟩) k) ?_
  refine S_getfield d_Ss_start_20 fg_Ss_17 (w265 _) rfl ?_
  refine ST.lift (fun _ _ k => T_iload d_Ss_start_23 rfl k) ?_
  refine S_aaload (C0 := "PasswordGate$Bytes") d_Ss_start_25 (by decide) (w267 _) rfl (vp_in_nI (by omega) (by omega)) ?_
  refine S_virtual (as := []) (rest := []) (b := 289) d_Ss_start_26 rfl (jw_By_clear.jo (by decide)) lm_Ss_54 ji_By_clear js_By_clear (w289 _) rfl rfl rfl (Nat.le_of_ble_eq_true rfl) (by decide) (by decide) (c_By_clear G u19 289 290 64 33 ⟨w289, w290, by decide, u289_1, by decide, by decide⟩ hv20) (fun r v' hq => ?_)
  rw [hq.1, hq.2]
  clear hq r v'
  show ST G mi_Ss_start 29 [(4, .int (nI 2)), (0, .ref 265), (1, .ref 62), (2, .int (nI usr)), (3, .ref b)] [] (va_up u19 33 (nI 0)) 0 0 _
  have hv27 := hv20.up (j := 33) (c := 64) (k := 0) (by decide) (by omega)
  have hm28 := hm21.go (mdf.up (v := u19) (j := 33) (x := (nI 0))) (by intro i hi; simp only [List.mem_cons, List.not_mem_nil, or_false] at hi ⊢ <;> omega)
  have e_u26 : (va_up u19 33 (nI 0)) 33 = (nI 0) := by simp [va_up]
  have e29 : (va_up u19 33 (nI 0)) 28 = nI 0 := by simp only [va_up]; exact e22
  have e30 : (va_up u19 33 (nI 0)) 31 = nI 0 := by simp only [va_up]; exact e23
  have e31 : (va_up u19 33 (nI 0)) 29 = nI 0 := by simp only [va_up]; exact e24
  have e32 : (va_up u19 33 (nI 0)) 32 = nI 0 := by simp only [va_up]; exact e25
  have e33 : (va_up u19 33 (nI 0)) 30 = nI 0 := by simp only [va_up]; exact e_u19
  generalize va_up u19 33 (nI 0) = u26 at hv27 hm28 e_u26 e29 e30 e31 e32 e33 ⊢
  refine ST.lift (fun _ _ k => T_aload_n (v := .ref 265) d_Ss_start_29 rfl (Or.inr ⟨_, rfl⟩) k) ?_
  refine S_getfield d_Ss_start_30 fg_Ss_27 (w265 _) rfl ?_
  refine ST.lift (fun _ _ k => T_iload d_Ss_start_33 rfl k) ?_
  refine ST.lift (fun _ _ k => T_iconst (v := nI 0) d_Ss_start_35 (by decide) k) ?_
  refine S_zastore d_Ss_start_36 (by decide) w270 (vp_in_nI (by omega) (by omega)) ?_
  refine S_iincN (a := 2) (b := 1) (L' := [(4, .int (nI 3)), (0, .ref 265), (1, .ref 62), (2, .int (nI usr)), (3, .ref b)]) d_Ss_start_37 (by decide) rfl rfl rfl ?_
  refine ST.lift (fun _ _ k => T_goto (tgt := 3) d_Ss_start_40 rfl k) ?_
  refine ST.lift (fun _ _ k => T_iload d_Ss_start_3 rfl k) ?_
  refine ST.lift (fun _ _ k => T_iconst (v := nI 3) d_Ss_start_5 (by decide) k) ?_
  refine S_icmp_geN d_Ss_start_6 rfl (by omega) (by omega) (fun _ => ?_) (fun c => by first | exact absurd c (by omega) | exact c.elim | exact absurd c (by decide) | exact absurd (by assumption) c | exact absurd c (by assumption))
  refine ST.lift (fun _ _ k => T_aload_n (v := .ref 265) d_Ss_start_43 rfl (Or.inr ⟨_, rfl⟩) k) ?_
  refine ST.lift (fun _ _ k => T_iload_n d_Ss_start_44 rfl k) ?_
  refine S_putfield (v' := va_up u26 24 (nI usr)) d_Ss_start_45 (fp_Ss_57 _) (w265 _) (Nat.le_of_ble_eq_true rfl) ⟨rfl, rfl⟩ (u265_4 _ _) ?_
  have hv35 := hv27.up (j := 24) (c := 7) (k := usr) (by decide) (by omega)
  have hm36 := hm28.go (mdf.up (v := u26) (j := 24) (x := (nI usr))) (by intro i hi; simp only [List.mem_cons, List.not_mem_nil, or_false] at hi ⊢ <;> omega)
  have e_u34 : (va_up u26 24 (nI usr)) 24 = (nI usr) := by simp [va_up]
  have e37 : (va_up u26 24 (nI usr)) 28 = nI 0 := by simp only [va_up]; exact e29
  have e38 : (va_up u26 24 (nI usr)) 31 = nI 0 := by simp only [va_up]; exact e30
  have e39 : (va_up u26 24 (nI usr)) 29 = nI 0 := by simp only [va_up]; exact e31
  have e40 : (va_up u26 24 (nI usr)) 32 = nI 0 := by simp only [va_up]; exact e32
  have e41 : (va_up u26 24 (nI usr)) 30 = nI 0 := by simp only [va_up]; exact e33
  have e42 : (va_up u26 24 (nI usr)) 33 = nI 0 := by simp only [va_up]; exact e_u26
  generalize va_up u26 24 (nI usr) = u34 at hv35 hm36 e_u34 e37 e38 e39 e40 e41 e42 ⊢
  refine ST.lift (fun _ _ k => T_aload_n (v := .ref 265) d_Ss_start_48 rfl (Or.inr ⟨_, rfl⟩) k) ?_
  refine S_getfield d_Ss_start_49 fg_Ss_34 (w265 _) rfl ?_
  refine S_virtual (as := []) (rest := []) (b := 271) d_Ss_start_52 rfl (jw_By_clear.jo (by decide)) lm_Ss_54 ji_By_clear js_By_clear (w271 _) rfl rfl rfl (Nat.le_of_ble_eq_true rfl) (by decide) (by decide) (c_By_clear G u34 271 272 200 25 ⟨w271, w272, by decide, u271_1, by decide, by decide⟩ hv35) (fun r v' hq => ?_)
  rw [hq.1, hq.2]
  clear hq r v'
  show ST G mi_Ss_start 55 [(4, .int (nI 3)), (0, .ref 265), (1, .ref 62), (2, .int (nI usr)), (3, .ref b)] [] (va_up u34 25 (nI 0)) 0 0 _
  have hv44 := hv35.up (j := 25) (c := 200) (k := 0) (by decide) (by omega)
  have hm45 := hm36.go (mdf.up (v := u34) (j := 25) (x := (nI 0))) (by intro i hi; simp only [List.mem_cons, List.not_mem_nil, or_false] at hi ⊢ <;> omega)
  have e_u43 : (va_up u34 25 (nI 0)) 25 = (nI 0) := by simp [va_up]
  have e46 : (va_up u34 25 (nI 0)) 28 = nI 0 := by simp only [va_up]; exact e37
  have e47 : (va_up u34 25 (nI 0)) 31 = nI 0 := by simp only [va_up]; exact e38
  have e48 : (va_up u34 25 (nI 0)) 29 = nI 0 := by simp only [va_up]; exact e39
  have e49 : (va_up u34 25 (nI 0)) 32 = nI 0 := by simp only [va_up]; exact e40
  have e50 : (va_up u34 25 (nI 0)) 30 = nI 0 := by simp only [va_up]; exact e41
  have e51 : (va_up u34 25 (nI 0)) 33 = nI 0 := by simp only [va_up]; exact e42
  have e52 : (va_up u34 25 (nI 0)) 24 = nI usr := by simp only [va_up]; exact e_u34
  generalize va_up u34 25 (nI 0) = u43 at hv44 hm45 e_u43 e46 e47 e48 e49 e50 e51 e52 ⊢
  refine ST.lift (fun _ _ k => T_aload_n (v := .ref 265) d_Ss_start_55 rfl (Or.inr ⟨_, rfl⟩) k) ?_
  refine S_getfield d_Ss_start_56 fg_Ss_34 (w265 _) rfl ?_
  refine ST.lift (fun _ _ k => T_aload_n (v := .ref b) d_Ss_start_59 rfl (Or.inr ⟨_, rfl⟩) k) ?_
  refine S_virtual (as := [.ref b]) (rest := []) (b := 271) d_Ss_start_60 rfl (jw_By_putAll.jo (by decide)) lm_Ss_60 ji_By_putAll js_By_putAll (w271 _) rfl rfl rfl (Nat.le_of_ble_eq_true rfl) (by decide) (by decide) (c_By_putAll G u43 271 272 200 25 ⟨w271, w272, by decide, u271_1, by decide, by decide⟩ b bd bc bj y_b hv44) (fun r u53 hq => ?_)
  obtain ⟨hr, hv54, hm55⟩ := hq
  rw [hr]
  clear hr r
  have hm56 := hm45.go hm55 (by intro i hi; simp only [List.mem_cons, List.not_mem_nil, or_false] at hi ⊢ <;> omega)
  have e57 : u53 28 = nI 0 := (hm55 28 (by decide)).trans e46
  have e58 : u53 31 = nI 0 := (hm55 31 (by decide)).trans e47
  have e59 : u53 29 = nI 0 := (hm55 29 (by decide)).trans e48
  have e60 : u53 32 = nI 0 := (hm55 32 (by decide)).trans e49
  have e61 : u53 30 = nI 0 := (hm55 30 (by decide)).trans e50
  have e62 : u53 33 = nI 0 := (hm55 33 (by decide)).trans e51
  have e63 : u53 24 = nI usr := (hm55 24 (by decide)).trans e52
  show ST G mi_Ss_start 63 [(4, .int (nI 3)), (0, .ref 265), (1, .ref 62), (2, .int (nI usr)), (3, .ref b)] [] u53 0 0 _
  refine ST.lift (fun _ _ k => T_aload_n (v := .ref 265) d_Ss_start_63 rfl (Or.inr ⟨_, rfl⟩) k) ?_
  refine S_getfield d_Ss_start_64 fg_Ss_38 (w265 _) rfl ?_
  refine S_virtual (as := []) (rest := []) (b := 273) d_Ss_start_67 rfl (jw_By_clear.jo (by decide)) lm_Ss_54 ji_By_clear js_By_clear (w273 _) rfl rfl rfl (Nat.le_of_ble_eq_true rfl) (by decide) (by decide) (c_By_clear G u53 273 274 96 26 ⟨w273, w274, by decide, u273_1, by decide, by decide⟩ hv54) (fun r v' hq => ?_)
  rw [hq.1, hq.2]
  clear hq r v'
  show ST G mi_Ss_start 70 [(4, .int (nI 3)), (0, .ref 265), (1, .ref 62), (2, .int (nI usr)), (3, .ref b)] [] (va_up u53 26 (nI 0)) 0 0 _
  have hv65 := hv54.up (j := 26) (c := 96) (k := 0) (by decide) (by omega)
  have hm66 := hm56.go (mdf.up (v := u53) (j := 26) (x := (nI 0))) (by intro i hi; simp only [List.mem_cons, List.not_mem_nil, or_false] at hi ⊢ <;> omega)
  have e_u64 : (va_up u53 26 (nI 0)) 26 = (nI 0) := by simp [va_up]
  have e67 : (va_up u53 26 (nI 0)) 28 = nI 0 := by simp only [va_up]; exact e57
  have e68 : (va_up u53 26 (nI 0)) 31 = nI 0 := by simp only [va_up]; exact e58
  have e69 : (va_up u53 26 (nI 0)) 29 = nI 0 := by simp only [va_up]; exact e59
  have e70 : (va_up u53 26 (nI 0)) 32 = nI 0 := by simp only [va_up]; exact e60
  have e71 : (va_up u53 26 (nI 0)) 30 = nI 0 := by simp only [va_up]; exact e61
  have e72 : (va_up u53 26 (nI 0)) 33 = nI 0 := by simp only [va_up]; exact e62
  have e73 : (va_up u53 26 (nI 0)) 24 = nI usr := by simp only [va_up]; exact e63
  generalize va_up u53 26 (nI 0) = u64 at hv65 hm66 e_u64 e67 e68 e69 e70 e71 e72 e73 ⊢
  refine ST.lift (fun _ _ k => T_aload_n (v := .ref 62) d_Ss_start_70 rfl (Or.inr ⟨_, rfl⟩) k) ?_
  refine ST.lift (fun _ _ k => T_aload_n (v := .ref 265) d_Ss_start_71 rfl (Or.inr ⟨_, rfl⟩) k) ?_
  refine S_getfield d_Ss_start_72 fg_Ss_44 (w265 _) rfl ?_
  refine S_virtual (as := [.ref 277]) (rest := []) (b := 62) d_Ss_start_75 rfl (jw_Kit_nextScalar.jo (by decide)) lm_Ss_64 ji_Kit_nextScalar js_Kit_nextScalar (w62 _) rfl rfl rfl (Nat.le_of_ble_eq_true rfl) (by decide) (by decide) (c_Kit_nextScalar G u64 277 32 (by decide) w277 (by omega) (by omega) hv65) (fun r u74 hq => ?_)
  obtain ⟨hr, hv75, hm76⟩ := hq
  rw [hr]
  clear hr r
  have hm77 := hm66.go hm76 (by intro i hi; simp only [List.mem_cons, List.not_mem_nil, or_false] at hi ⊢ <;> omega)
  have e78 : u74 28 = nI 0 := (hm76 28 (by decide)).trans e67
  have e79 : u74 31 = nI 0 := (hm76 31 (by decide)).trans e68
  have e80 : u74 29 = nI 0 := (hm76 29 (by decide)).trans e69
  have e81 : u74 32 = nI 0 := (hm76 32 (by decide)).trans e70
  have e82 : u74 30 = nI 0 := (hm76 30 (by decide)).trans e71
  have e83 : u74 33 = nI 0 := (hm76 33 (by decide)).trans e72
  have e84 : u74 24 = nI usr := (hm76 24 (by decide)).trans e73
  have e85 : u74 26 = nI 0 := (hm76 26 (by decide)).trans e_u64
  show ST G mi_Ss_start 78 [(4, .int (nI 3)), (0, .ref 265), (1, .ref 62), (2, .int (nI usr)), (3, .ref b)] [] u74 0 0 _
  refine ST.lift (fun _ _ k => T_aload_n (v := .ref 62) d_Ss_start_78 rfl (Or.inr ⟨_, rfl⟩) k) ?_
  refine ST.lift (fun _ _ k => T_aload_n (v := .ref 265) d_Ss_start_79 rfl (Or.inr ⟨_, rfl⟩) k) ?_
  refine S_getfield d_Ss_start_80 fg_Ss_34 (w265 _) rfl ?_
  refine ST.lift (fun _ _ k => T_aload_n (v := .ref 62) d_Ss_start_83 rfl (Or.inr ⟨_, rfl⟩) k) ?_
  refine S_getfield d_Ss_start_84 fg_Ss_70 (w62 _) rfl ?_
  refine S_virtual (as := [.ref 271, .ref 188]) (rest := []) (b := 62) d_Ss_start_87 rfl (jw_Kit_groupOf.jo (by decide)) lm_Ss_74 ji_Kit_groupOf js_Kit_groupOf (w62 _) rfl rfl rfl (Nat.le_of_ble_eq_true rfl) (by decide) (by decide) (c_Kit_groupOf G u74 271 272 200 25 ⟨w271, w272, by decide, u271_1, by decide, by decide⟩ 188 189 190 191 192 ⟨w188, w189, w190, w191, w192, by decide, by decide, by decide, by decide⟩ hv75) (fun r u86 hq => ?_)
  obtain ⟨hr, hv87, hm88⟩ := hq
  rw [hr]
  clear hr r
  have hm89 := hm77.go hm88 (by intro i hi; simp only [List.mem_cons, List.not_mem_nil, or_false] at hi ⊢ <;> omega)
  have e90 : u86 28 = nI 0 := (hm88 28 (by decide)).trans e78
  have e91 : u86 31 = nI 0 := (hm88 31 (by decide)).trans e79
  have e92 : u86 29 = nI 0 := (hm88 29 (by decide)).trans e80
  have e93 : u86 32 = nI 0 := (hm88 32 (by decide)).trans e81
  have e94 : u86 30 = nI 0 := (hm88 30 (by decide)).trans e82
  have e95 : u86 33 = nI 0 := (hm88 33 (by decide)).trans e83
  have e96 : u86 24 = nI usr := (hm88 24 (by decide)).trans e84
  have e97 : u86 26 = nI 0 := (hm88 26 (by decide)).trans e85
  show ST G mi_Ss_start 90 [(4, .int (nI 3)), (0, .ref 265), (1, .ref 62), (2, .int (nI usr)), (3, .ref b)] [] u86 0 0 _
  refine ST.lift (fun _ _ k => T_aload_n (v := .ref 62) d_Ss_start_90 rfl (Or.inr ⟨_, rfl⟩) k) ?_
  refine S_getfield d_Ss_start_91 fg_Ss_78 (w62 _) rfl ?_
  refine ST.lift (fun _ _ k => T_aload_n (v := .ref 62) d_Ss_start_94 rfl (Or.inr ⟨_, rfl⟩) k) ?_
  refine S_getfield d_Ss_start_95 fg_Ss_70 (w62 _) rfl ?_
  refine ST.lift (fun _ _ k => T_aload_n (v := .ref 265) d_Ss_start_98 rfl (Or.inr ⟨_, rfl⟩) k) ?_
  refine S_getfield d_Ss_start_99 fg_Ss_44 (w265 _) rfl ?_
  refine ST.lift (fun _ _ k => T_aload_n (v := .ref 62) d_Ss_start_102 rfl (Or.inr ⟨_, rfl⟩) k) ?_
  refine S_getfield d_Ss_start_103 fg_Ss_70 (w62 _) rfl ?_
  refine S_virtual (as := [.ref 188, .ref 277, .ref 188]) (rest := []) (b := 77) d_Ss_start_106 rfl (jw_Cu_multiply.jo (by decide)) lm_Ss_82 ji_Cu_multiply js_Cu_multiply (w77 _) rfl rfl rfl (Nat.le_of_ble_eq_true rfl) (by decide) (by decide) (c_Cu_multiply G u86 188 189 190 191 192 ⟨w188, w189, w190, w191, w192, by decide, by decide, by decide, by decide⟩ 277 32 (by decide) w277 (by omega) 188 189 190 191 192 ⟨w188, w189, w190, w191, w192, by decide, by decide, by decide, by decide⟩ (by omega)) (fun r v' hq => ?_)
  rw [hq.1, hq.2]
  clear hq r v'
  show ST G mi_Ss_start 109 [(4, .int (nI 3)), (0, .ref 265), (1, .ref 62), (2, .int (nI usr)), (3, .ref b)] [] u86 0 0 _
  refine ST.lift (fun _ _ k => T_aload_n (v := .ref 62) d_Ss_start_109 rfl (Or.inr ⟨_, rfl⟩) k) ?_
  refine S_getfield d_Ss_start_110 fg_Ss_78 (w62 _) rfl ?_
  refine ST.lift (fun _ _ k => T_aload_n (v := .ref 62) d_Ss_start_113 rfl (Or.inr ⟨_, rfl⟩) k) ?_
  refine S_getfield d_Ss_start_114 fg_Ss_70 (w62 _) rfl ?_
  refine ST.lift (fun _ _ k => T_aload_n (v := .ref 265) d_Ss_start_117 rfl (Or.inr ⟨_, rfl⟩) k) ?_
  refine S_getfield d_Ss_start_118 fg_Ss_38 (w265 _) rfl ?_
  refine S_virtual (as := [.ref 188, .ref 273]) (rest := []) (b := 77) d_Ss_start_121 rfl (jw_Cu_code.jo (by decide)) lm_Ss_88 ji_Cu_code js_Cu_code (w77 _) rfl rfl rfl (Nat.le_of_ble_eq_true rfl) (by decide) (by decide) (c_Cu_code G u86 188 189 190 191 192 ⟨w188, w189, w190, w191, w192, by decide, by decide, by decide, by decide⟩ 273 274 96 26 ⟨w273, w274, by decide, u273_1, by decide, by decide⟩ hv87) (fun r u98 hq => ?_)
  obtain ⟨hr, hv99, hm100⟩ := hq
  rw [hr]
  clear hr r
  have hm101 := hm89.go hm100 (by intro i hi; simp only [List.mem_cons, List.not_mem_nil, or_false] at hi ⊢ <;> omega)
  have e102 : u98 28 = nI 0 := (hm100 28 (by decide)).trans e90
  have e103 : u98 31 = nI 0 := (hm100 31 (by decide)).trans e91
  have e104 : u98 29 = nI 0 := (hm100 29 (by decide)).trans e92
  have e105 : u98 32 = nI 0 := (hm100 32 (by decide)).trans e93
  have e106 : u98 30 = nI 0 := (hm100 30 (by decide)).trans e94
  have e107 : u98 33 = nI 0 := (hm100 33 (by decide)).trans e95
  have e108 : u98 24 = nI usr := (hm100 24 (by decide)).trans e96
  show ST G mi_Ss_start 124 [(4, .int (nI 3)), (0, .ref 265), (1, .ref 62), (2, .int (nI usr)), (3, .ref b)] [] u98 0 0 _
  refine ST.lift (fun _ _ k => T_aload_n (v := .ref 62) d_Ss_start_124 rfl (Or.inr ⟨_, rfl⟩) k) ?_
  refine ST.lift (fun _ _ k => T_aload_n (v := .ref 265) d_Ss_start_125 rfl (Or.inr ⟨_, rfl⟩) k) ?_
  refine S_getfield d_Ss_start_126 fg_Ss_38 (w265 _) rfl ?_
  refine S_virtual (as := [.ref 273]) (rest := []) (b := 62) d_Ss_start_129 rfl (jw_Kit_putNonce.jo (by decide)) lm_Ss_92 ji_Kit_putNonce js_Kit_putNonce (w62 _) rfl rfl rfl (Nat.le_of_ble_eq_true rfl) (by decide) (by decide) (c_Kit_putNonce G u98 273 274 96 26 ⟨w273, w274, by decide, u273_1, by decide, by decide⟩ hv99) (fun r u109 hq => ?_)
  obtain ⟨hr, hv110, hm111⟩ := hq
  rw [hr]
  clear hr r
  have hm112 := hm101.go hm111 (by intro i hi; simp only [List.mem_cons, List.not_mem_nil, or_false] at hi ⊢ <;> omega)
  have e113 : u109 28 = nI 0 := (hm111 28 (by decide)).trans e102
  have e114 : u109 31 = nI 0 := (hm111 31 (by decide)).trans e103
  have e115 : u109 29 = nI 0 := (hm111 29 (by decide)).trans e104
  have e116 : u109 32 = nI 0 := (hm111 32 (by decide)).trans e105
  have e117 : u109 30 = nI 0 := (hm111 30 (by decide)).trans e106
  have e118 : u109 33 = nI 0 := (hm111 33 (by decide)).trans e107
  have e119 : u109 24 = nI usr := (hm111 24 (by decide)).trans e108
  show ST G mi_Ss_start 132 [(4, .int (nI 3)), (0, .ref 265), (1, .ref 62), (2, .int (nI usr)), (3, .ref b)] [] u109 0 0 _
  refine ST.lift (fun _ _ k => T_aload_n (v := .ref 62) d_Ss_start_132 rfl (Or.inr ⟨_, rfl⟩) k) ?_
  refine ST.lift (fun _ _ k => T_aload_n (v := .ref 265) d_Ss_start_133 rfl (Or.inr ⟨_, rfl⟩) k) ?_
  refine S_getfield d_Ss_start_134 fg_Ss_47 (w265 _) rfl ?_
  refine S_virtual (as := [.ref 278]) (rest := []) (b := 62) d_Ss_start_137 rfl (jw_Kit_nextScalar.jo (by decide)) lm_Ss_64 ji_Kit_nextScalar js_Kit_nextScalar (w62 _) rfl rfl rfl (Nat.le_of_ble_eq_true rfl) (by decide) (by decide) (c_Kit_nextScalar G u109 278 32 (by decide) w278 (by omega) (by omega) hv110) (fun r u120 hq => ?_)
  obtain ⟨hr, hv121, hm122⟩ := hq
  rw [hr]
  clear hr r
  have hm123 := hm112.go hm122 (by intro i hi; simp only [List.mem_cons, List.not_mem_nil, or_false] at hi ⊢ <;> omega)
  have e124 : u120 28 = nI 0 := (hm122 28 (by decide)).trans e113
  have e125 : u120 31 = nI 0 := (hm122 31 (by decide)).trans e114
  have e126 : u120 29 = nI 0 := (hm122 29 (by decide)).trans e115
  have e127 : u120 32 = nI 0 := (hm122 32 (by decide)).trans e116
  have e128 : u120 30 = nI 0 := (hm122 30 (by decide)).trans e117
  have e129 : u120 33 = nI 0 := (hm122 33 (by decide)).trans e118
  have e130 : u120 24 = nI usr := (hm122 24 (by decide)).trans e119
  show ST G mi_Ss_start 140 [(4, .int (nI 3)), (0, .ref 265), (1, .ref 62), (2, .int (nI usr)), (3, .ref b)] [] u120 0 0 _
  refine ST.lift (fun _ _ k => T_aload_n (v := .ref 62) d_Ss_start_140 rfl (Or.inr ⟨_, rfl⟩) k) ?_
  refine ST.lift (fun _ _ k => T_aload_n (v := .ref 265) d_Ss_start_141 rfl (Or.inr ⟨_, rfl⟩) k) ?_
  refine S_getfield d_Ss_start_142 fg_Ss_47 (w265 _) rfl ?_
  refine ST.lift (fun _ _ k => T_aload_n (v := .ref 265) d_Ss_start_145 rfl (Or.inr ⟨_, rfl⟩) k) ?_
  refine S_getfield d_Ss_start_146 fg_Ss_38 (w265 _) rfl ?_
  refine S_virtual (as := [.ref 278, .ref 273]) (rest := []) (b := 62) d_Ss_start_149 rfl (jw_Kit_putPublic.jo (by decide)) lm_Ss_95 ji_Kit_putPublic js_Kit_putPublic (w62 _) rfl rfl rfl (Nat.le_of_ble_eq_true rfl) (by decide) (by decide) (c_Kit_putPublic G u120 278 32 (by decide) w278 (by omega) 273 274 96 26 ⟨w273, w274, by decide, u273_1, by decide, by decide⟩ (by omega) hv121) (fun r u131 hq => ?_)
  obtain ⟨hr, hv132, hm133⟩ := hq
  rw [hr]
  clear hr r
  have hm134 := hm123.go hm133 (by intro i hi; simp only [List.mem_cons, List.not_mem_nil, or_false] at hi ⊢ <;> omega)
  have e135 : u131 28 = nI 0 := (hm133 28 (by decide)).trans e124
  have e136 : u131 31 = nI 0 := (hm133 31 (by decide)).trans e125
  have e137 : u131 29 = nI 0 := (hm133 29 (by decide)).trans e126
  have e138 : u131 32 = nI 0 := (hm133 32 (by decide)).trans e127
  have e139 : u131 30 = nI 0 := (hm133 30 (by decide)).trans e128
  have e140 : u131 33 = nI 0 := (hm133 33 (by decide)).trans e129
  have e141 : u131 24 = nI usr := (hm133 24 (by decide)).trans e130
  show ST G mi_Ss_start 152 [(4, .int (nI 3)), (0, .ref 265), (1, .ref 62), (2, .int (nI usr)), (3, .ref b)] [] u131 0 0 _
  refine ST.lift (fun _ _ k => T_aload_n (v := .ref 265) d_Ss_start_152 rfl (Or.inr ⟨_, rfl⟩) k) ?_
  refine S_getfield d_Ss_start_153 fg_Ss_11 (w265 _) rfl ?_
  refine ST.lift (fun _ _ k => T_iconst (v := nI 0) d_Ss_start_156 (by decide) k) ?_
  refine S_aaload (C0 := "PasswordGate$Bytes") d_Ss_start_157 (by decide) (w266 _) rfl (vp_in_nI (by omega) (by omega)) ?_
  refine ST.lift (fun _ _ k => T_aload_n (v := .ref 265) d_Ss_start_158 rfl (Or.inr ⟨_, rfl⟩) k) ?_
  refine S_getfield d_Ss_start_159 fg_Ss_38 (w265 _) rfl ?_
  refine S_virtual (as := [.ref 273]) (rest := []) (b := 279) d_Ss_start_162 rfl (jw_By_putAll.jo (by decide)) lm_Ss_60 ji_By_putAll js_By_putAll (w279 _) rfl rfl rfl (Nat.le_of_ble_eq_true rfl) (by decide) (by decide) (c_By_putAll G u131 279 280 96 28 ⟨w279, w280, by decide, u279_1, by decide, by decide⟩ 273 274 96 26 ⟨w273, w274, by decide, u273_1, by decide, by decide⟩ hv132) (fun r u142 hq => ?_)
  obtain ⟨hr, hv143, hm144⟩ := hq
  rw [hr]
  clear hr r
  have hm145 := hm134.go hm144 (by intro i hi; simp only [List.mem_cons, List.not_mem_nil, or_false] at hi ⊢ <;> omega)
  have e146 : u142 31 = nI 0 := (hm144 31 (by decide)).trans e136
  have e147 : u142 29 = nI 0 := (hm144 29 (by decide)).trans e137
  have e148 : u142 32 = nI 0 := (hm144 32 (by decide)).trans e138
  have e149 : u142 30 = nI 0 := (hm144 30 (by decide)).trans e139
  have e150 : u142 33 = nI 0 := (hm144 33 (by decide)).trans e140
  have e151 : u142 24 = nI usr := (hm144 24 (by decide)).trans e141
  show ST G mi_Ss_start 165 [(4, .int (nI 3)), (0, .ref 265), (1, .ref 62), (2, .int (nI usr)), (3, .ref b)] [] u142 0 0 _
  exact S_vret d_Ss_start_165 rfl (by decide) (by decide) (hQ _ hv143 hm145)
set_option maxRecDepth 100000 in
set_option maxHeartbeats 4000000 in
theorem c_Ss_confirmServer_265 (G : GX) (v : Nat → Int32) (hv : okv v) : CS G mi_Ss_confirmServer [.ref 265, .ref 62, .ref 217] v (fun r v' => ∃ z : Int32, r = some (.int z) ∧ okv v' ∧ mdf [6, 7, 5, 2, 3, 1, 4, 8, 9, 10, 28, 29, 30, 31, 32, 33, 25, 26, 27, 24] v v') := by
  refine CS.of (by decide) (Nat.le_of_ble_eq_true rfl) ?_
  generalize hQe : (fun (r : Option Value) (v' : Nat → Int32) => ∃ z : Int32, r = some (.int z) ∧ okv v' ∧ mdf [6, 7, 5, 2, 3, 1, 4, 8, 9, 10, 28, 29, 30, 31, 32, 33, 25, 26, 27, 24] v v') = Q
  have hQ : ∀ (z : Int32) (u : Nat → Int32), okv u → mdf [6, 7, 5, 2, 3, 1, 4, 8, 9, 10, 28, 29, 30, 31, 32, 33, 25, 26, 27, 24] v u → Q (some (.int z)) u := by rw [← hQe]; exact fun z u h1 h2 => ⟨z, rfl, h1, h2⟩
  clear hQe
  have hm : mdf [6, 7, 5, 2, 3, 1, 4, 8, 9, 10, 28, 29, 30, 31, 32, 33, 25, 26, 27, 24] v v := mdf.rf
  show ST G mi_Ss_confirmServer 0 [(0, .ref 265), (1, .ref 62), (2, .ref 217)] [] v 0 0 Q
  refine ST.lift (fun _ _ k => T_aload_n (v := .ref 265) d_Ss_confirmServer_0 rfl (Or.inr ⟨_, rfl⟩) k) ?_
  refine S_getfield d_Ss_confirmServer_1 fg_Ss_11 (w265 _) rfl ?_
  refine ST.lift (fun _ _ k => T_iconst (v := nI 1) d_Ss_confirmServer_4 (by decide) k) ?_
  refine S_aaload (C0 := "PasswordGate$Bytes") d_Ss_confirmServer_5 (by decide) (w266 _) rfl (vp_in_nI (by omega) (by omega)) ?_
  refine S_getfield d_Ss_confirmServer_6 fg_Ss_99 (w281 _) rfl ?_
  refine ST.lift (fun _ _ k => T_astore_n (L' := [(3, .ref 282), (0, .ref 265), (1, .ref 62), (2, .ref 217)]) d_Ss_confirmServer_9 (by decide) rfl (Or.inr ⟨_, rfl⟩) k) ?_
  refine ST.lift (fun _ _ k => T_aload_n (v := .ref 62) d_Ss_confirmServer_10 rfl (Or.inr ⟨_, rfl⟩) k) ?_
  refine S_getfield d_Ss_confirmServer_11 fg_Ss_78 (w62 _) rfl ?_
  refine ST.lift (fun _ _ k => T_aload_n (v := .ref 282) d_Ss_confirmServer_14 rfl (Or.inr ⟨_, rfl⟩) k) ?_
  refine ST.lift (fun _ _ k => T_iconst (v := nI 0) d_Ss_confirmServer_15 (by decide) k) ?_
  refine ST.lift (fun _ _ k => T_aload_n (v := .ref 62) d_Ss_confirmServer_16 rfl (Or.inr ⟨_, rfl⟩) k) ?_
  refine S_getfield d_Ss_confirmServer_17 fg_Ss_70 (w62 _) rfl ?_
  refine S_virtual (as := [.ref 282, .int (nI 0), .ref 188]) (rest := []) (b := 77) d_Ss_confirmServer_20 rfl (jw_Cu_decode.jo (by decide)) lm_Ss_102 ji_Cu_decode js_Cu_decode (w77 _) rfl rfl rfl (Nat.le_of_ble_eq_true rfl) (by decide) (by decide) (c_Cu_decode G v 282 320 (by decide) w282 (by omega) 0 (by omega) 188 189 190 191 192 ⟨w188, w189, w190, w191, w192, by decide, by decide, by decide, by decide⟩ hv) (fun r u1 hq => ?_)
  obtain ⟨z4, hz4, hr, hv2, hm3⟩ := hq
  rw [hr]
  clear hr r
  have hm5 := hm.go hm3 (by intro i hi; simp only [List.mem_cons, List.not_mem_nil, or_false] at hi ⊢ <;> omega)
  show ST G mi_Ss_confirmServer 23 [(3, .ref 282), (0, .ref 265), (1, .ref 62), (2, .ref 217)] [.int (nI z4)] u1 0 0 _
  refine S_if_neN d_Ss_confirmServer_23 rfl (by omega) (fun c6 => ?_) (fun c6 => ?_)
  · refine ST.lift (fun _ _ k => T_aload_n (v := .ref 62) d_Ss_confirmServer_28 rfl (Or.inr ⟨_, rfl⟩) k) ?_
    refine S_getfield d_Ss_confirmServer_29 fg_Ss_106 (w62 _) rfl ?_
    refine ST.lift (fun _ _ k => T_aload_n (v := .ref 265) d_Ss_confirmServer_32 rfl (Or.inr ⟨_, rfl⟩) k) ?_
    refine S_getfield d_Ss_confirmServer_33 fg_Ss_44 (w265 _) rfl ?_
    refine ST.lift (fun _ _ k => T_aload_n (v := .ref 62) d_Ss_confirmServer_36 rfl (Or.inr ⟨_, rfl⟩) k) ?_
    refine S_getfield d_Ss_confirmServer_37 fg_Ss_110 (w62 _) rfl ?_
    refine S_virtual (as := [.ref 277, .ref 198]) (rest := []) (b := 183) d_Ss_confirmServer_40 rfl (jw_Sc_invert.jo (by decide)) lm_Ss_113 ji_Sc_invert js_Sc_invert (w183 _) rfl rfl rfl (Nat.le_of_ble_eq_true rfl) (by decide) (by decide) (c_Sc_invert G u1 277 32 (by decide) w277 (by omega) 198 32 (by decide) w198 (by omega) (by omega)) (fun r v' hq => ?_)
    rw [hq.1, hq.2]
    clear hq r v'
    show ST G mi_Ss_confirmServer 43 [(3, .ref 282), (0, .ref 265), (1, .ref 62), (2, .ref 217)] [] u1 0 0 _
    refine ST.lift (fun _ _ k => T_aload_n (v := .ref 62) d_Ss_confirmServer_43 rfl (Or.inr ⟨_, rfl⟩) k) ?_
    refine S_getfield d_Ss_confirmServer_44 fg_Ss_78 (w62 _) rfl ?_
    refine ST.lift (fun _ _ k => T_aload_n (v := .ref 62) d_Ss_confirmServer_47 rfl (Or.inr ⟨_, rfl⟩) k) ?_
    refine S_getfield d_Ss_confirmServer_48 fg_Ss_70 (w62 _) rfl ?_
    refine ST.lift (fun _ _ k => T_aload_n (v := .ref 62) d_Ss_confirmServer_51 rfl (Or.inr ⟨_, rfl⟩) k) ?_
    refine S_getfield d_Ss_confirmServer_52 fg_Ss_110 (w62 _) rfl ?_
    refine ST.lift (fun _ _ k => T_aload_n (v := .ref 62) d_Ss_confirmServer_55 rfl (Or.inr ⟨_, rfl⟩) k) ?_
    refine S_getfield d_Ss_confirmServer_56 fg_Ss_70 (w62 _) rfl ?_
    refine S_virtual (as := [.ref 188, .ref 198, .ref 188]) (rest := []) (b := 77) d_Ss_confirmServer_59 rfl (jw_Cu_multiply.jo (by decide)) lm_Ss_82 ji_Cu_multiply js_Cu_multiply (w77 _) rfl rfl rfl (Nat.le_of_ble_eq_true rfl) (by decide) (by decide) (c_Cu_multiply G u1 188 189 190 191 192 ⟨w188, w189, w190, w191, w192, by decide, by decide, by decide, by decide⟩ 198 32 (by decide) w198 (by omega) 188 189 190 191 192 ⟨w188, w189, w190, w191, w192, by decide, by decide, by decide, by decide⟩ (by omega)) (fun r v' hq => ?_)
    rw [hq.1, hq.2]
    clear hq r v'
    show ST G mi_Ss_confirmServer 62 [(3, .ref 282), (0, .ref 265), (1, .ref 62), (2, .ref 217)] [] u1 0 0 _
    refine ST.lift (fun _ _ k => T_aload_n (v := .ref 62) d_Ss_confirmServer_62 rfl (Or.inr ⟨_, rfl⟩) k) ?_
    refine ST.lift (fun _ _ k => T_aload_n (v := .ref 265) d_Ss_confirmServer_63 rfl (Or.inr ⟨_, rfl⟩) k) ?_
    refine S_getfield d_Ss_confirmServer_64 fg_Ss_34 (w265 _) rfl ?_
    refine ST.lift (fun _ _ k => T_aload_n (v := .ref 62) d_Ss_confirmServer_67 rfl (Or.inr ⟨_, rfl⟩) k) ?_
    refine S_getfield d_Ss_confirmServer_68 fg_Ss_70 (w62 _) rfl ?_
    refine S_virtual (as := [.ref 271, .ref 188]) (rest := []) (b := 62) d_Ss_confirmServer_71 rfl (jw_Kit_randomize.jo (by decide)) lm_Ss_119 ji_Kit_randomize js_Kit_randomize (w62 _) rfl rfl rfl (Nat.le_of_ble_eq_true rfl) (by decide) (by decide) (c_Kit_randomize G u1 271 272 200 25 ⟨w271, w272, by decide, u271_1, by decide, by decide⟩ 188 189 190 191 192 ⟨w188, w189, w190, w191, w192, by decide, by decide, by decide, by decide⟩ hv2) (fun r u7 hq => ?_)
    obtain ⟨hr, hv8, hm9⟩ := hq
    rw [hr]
    clear hr r
    have hm10 := hm5.go hm9 (by intro i hi; simp only [List.mem_cons, List.not_mem_nil, or_false] at hi ⊢ <;> omega)
    show ST G mi_Ss_confirmServer 74 [(3, .ref 282), (0, .ref 265), (1, .ref 62), (2, .ref 217)] [] u7 0 0 _
    refine ST.lift (fun _ _ k => T_aload_n (v := .ref 265) d_Ss_confirmServer_74 rfl (Or.inr ⟨_, rfl⟩) k) ?_
    refine S_getfield d_Ss_confirmServer_75 fg_Ss_41 (w265 _) rfl ?_
    refine S_virtual (as := []) (rest := []) (b := 275) d_Ss_confirmServer_78 rfl (jw_By_clear.jo (by decide)) lm_Ss_54 ji_By_clear js_By_clear (w275 _) rfl rfl rfl (Nat.le_of_ble_eq_true rfl) (by decide) (by decide) (c_By_clear G u7 275 276 128 27 ⟨w275, w276, by decide, u275_1, by decide, by decide⟩ hv8) (fun r v' hq => ?_)
    rw [hq.1, hq.2]
    clear hq r v'
    show ST G mi_Ss_confirmServer 81 [(3, .ref 282), (0, .ref 265), (1, .ref 62), (2, .ref 217)] [] (va_up u7 27 (nI 0)) 0 0 _
    have hv12 := hv8.up (j := 27) (c := 128) (k := 0) (by decide) (by omega)
    have hm13 := hm10.go (mdf.up (v := u7) (j := 27) (x := (nI 0))) (by intro i hi; simp only [List.mem_cons, List.not_mem_nil, or_false] at hi ⊢ <;> omega)
    have e_u11 : (va_up u7 27 (nI 0)) 27 = (nI 0) := by simp [va_up]
    generalize va_up u7 27 (nI 0) = u11 at hv12 hm13 e_u11 ⊢
    refine ST.lift (fun _ _ k => T_aload_n (v := .ref 62) d_Ss_confirmServer_81 rfl (Or.inr ⟨_, rfl⟩) k) ?_
    refine ST.lift (fun _ _ k => T_aload_n (v := .ref 62) d_Ss_confirmServer_82 rfl (Or.inr ⟨_, rfl⟩) k) ?_
    refine S_getfield d_Ss_confirmServer_83 fg_Ss_122 (w62 _) rfl ?_
    refine ST.lift (fun _ _ k => T_aload_n (v := .ref 282) d_Ss_confirmServer_86 rfl (Or.inr ⟨_, rfl⟩) k) ?_
    refine ST.lift (fun _ _ k => T_aload_n (v := .ref 282) d_Ss_confirmServer_87 rfl (Or.inr ⟨_, rfl⟩) k) ?_
    refine ST.lift (fun _ _ k => T_bipush (v := nI 64) d_Ss_confirmServer_88 (by decide) k) ?_
    refine ST.lift (fun _ _ k => T_aload_n (v := .ref 265) d_Ss_confirmServer_90 rfl (Or.inr ⟨_, rfl⟩) k) ?_
    refine S_getfield d_Ss_confirmServer_91 fg_Ss_41 (w265 _) rfl ?_
    refine S_virtual (as := [.ref 201, .ref 282, .ref 282, .int (nI 64), .ref 275]) (rest := []) (b := 62) d_Ss_confirmServer_94 rfl (jw_Kit_putMasked.jo (by decide)) lm_Ss_125 ji_Kit_putMasked js_Kit_putMasked (w62 _) rfl rfl rfl (Nat.le_of_ble_eq_true rfl) (by decide) (by decide) (c_Kit_putMasked G u11 201 64 (by decide) w201 (by omega) 282 320 (by decide) w282 (by omega) 282 320 (by decide) w282 (by omega) 64 (by omega) 275 276 128 27 ⟨w275, w276, by decide, u275_1, by decide, by decide⟩ (by omega) hv12) (fun r u14 hq => ?_)
    obtain ⟨hr, hv15, hm16⟩ := hq
    rw [hr]
    clear hr r
    have hm17 := hm13.go hm16 (by intro i hi; simp only [List.mem_cons, List.not_mem_nil, or_false] at hi ⊢ <;> omega)
    show ST G mi_Ss_confirmServer 97 [(3, .ref 282), (0, .ref 265), (1, .ref 62), (2, .ref 217)] [] u14 0 0 _
    refine ST.lift (fun _ _ k => T_aload_n (v := .ref 62) d_Ss_confirmServer_97 rfl (Or.inr ⟨_, rfl⟩) k) ?_
    refine ST.lift (fun _ _ k => T_aload_n (v := .ref 265) d_Ss_confirmServer_98 rfl (Or.inr ⟨_, rfl⟩) k) ?_
    refine S_getfield d_Ss_confirmServer_99 fg_Ss_41 (w265 _) rfl ?_
    refine S_getfield d_Ss_confirmServer_102 fg_Ss_99 (w275 _) rfl ?_
    refine ST.lift (fun _ _ k => T_bipush (v := nI 32) d_Ss_confirmServer_105 (by decide) k) ?_
    refine ST.lift (fun _ _ k => T_aload_n (v := .ref 265) d_Ss_confirmServer_107 rfl (Or.inr ⟨_, rfl⟩) k) ?_
    refine S_getfield d_Ss_confirmServer_108 fg_Ss_41 (w265 _) rfl ?_
    refine S_getfield d_Ss_confirmServer_111 fg_Ss_99 (w275 _) rfl ?_
    refine S_virtual (as := [.ref 276, .int (nI 32), .ref 276]) (rest := []) (b := 62) d_Ss_confirmServer_114 rfl (jw_Kit_sealEnvelope.jo (by decide)) lm_Ss_129 ji_Kit_sealEnvelope js_Kit_sealEnvelope (w62 _) rfl rfl rfl (Nat.le_of_ble_eq_true rfl) (by decide) (by decide) (c_Kit_sealEnvelope G u14 276 128 (by decide) w276 (by omega) 32 (by omega) 276 128 (by decide) w276 (by omega) hv15) (fun r u18 hq => ?_)
    obtain ⟨hr, hv19, hm20⟩ := hq
    rw [hr]
    clear hr r
    have hm21 := hm17.go hm20 (by intro i hi; simp only [List.mem_cons, List.not_mem_nil, or_false] at hi ⊢ <;> omega)
    show ST G mi_Ss_confirmServer 117 [(3, .ref 282), (0, .ref 265), (1, .ref 62), (2, .ref 217)] [] u18 0 0 _
    refine ST.lift (fun _ _ k => T_aload_n (v := .ref 265) d_Ss_confirmServer_117 rfl (Or.inr ⟨_, rfl⟩) k) ?_
    refine S_getfield d_Ss_confirmServer_118 fg_Ss_41 (w265 _) rfl ?_
    refine ST.lift (fun _ _ k => T_bipush (v := nI 64) d_Ss_confirmServer_121 (by decide) k) ?_
    refine ST.lift (fun _ _ k => T_aload_n (v := .ref 62) d_Ss_confirmServer_123 rfl (Or.inr ⟨_, rfl⟩) k) ?_
    refine S_getfield d_Ss_confirmServer_124 fg_Ss_133 (w62 _) rfl ?_
    refine ST.lift (fun _ _ k => T_iconst (v := nI 0) d_Ss_confirmServer_127 (by decide) k) ?_
    refine S_virtual (as := [.int (nI 64), .ref 205, .int (nI 0)]) (rest := []) (b := 275) d_Ss_confirmServer_128 rfl (jw_By_endsLike.jo (by decide)) lm_Ss_136 ji_By_endsLike js_By_endsLike (w275 _) rfl rfl rfl (Nat.le_of_ble_eq_true rfl) (by decide) (by decide) (c_By_endsLike G u18 275 276 128 27 ⟨w275, w276, by decide, u275_1, by decide, by decide⟩ 64 (by omega) 205 64 (by decide) w205 (by omega) 0 (by omega) hv19) (fun r u22 hq => ?_)
    obtain ⟨z25, hz25, hr, hv23, hm24⟩ := hq
    rw [hr]
    clear hr r
    have hm26 := hm21.go hm24 (by intro i hi; simp only [List.mem_cons, List.not_mem_nil, or_false] at hi ⊢ <;> omega)
    show ST G mi_Ss_confirmServer 131 [(3, .ref 282), (0, .ref 265), (1, .ref 62), (2, .ref 217)] [.int (nI z25)] u22 0 0 _
    refine S_if_neN d_Ss_confirmServer_131 rfl (by omega) (fun c27 => ?_) (fun c27 => ?_)
    · refine ST.lift (fun _ _ k => T_aload_n (v := .ref 62) d_Ss_confirmServer_136 rfl (Or.inr ⟨_, rfl⟩) k) ?_
      refine S_getfield d_Ss_confirmServer_137 fg_Ss_78 (w62 _) rfl ?_
      refine ST.lift (fun _ _ k => T_aload_n (v := .ref 265) d_Ss_confirmServer_140 rfl (Or.inr ⟨_, rfl⟩) k) ?_
      refine S_getfield d_Ss_confirmServer_141 fg_Ss_41 (w265 _) rfl ?_
      refine S_getfield d_Ss_confirmServer_144 fg_Ss_99 (w275 _) rfl ?_
      refine ST.lift (fun _ _ k => T_iconst (v := nI 0) d_Ss_confirmServer_147 (by decide) k) ?_
      refine ST.lift (fun _ _ k => T_aload_n (v := .ref 62) d_Ss_confirmServer_148 rfl (Or.inr ⟨_, rfl⟩) k) ?_
      refine S_getfield d_Ss_confirmServer_149 fg_Ss_70 (w62 _) rfl ?_
      refine S_virtual (as := [.ref 276, .int (nI 0), .ref 188]) (rest := []) (b := 77) d_Ss_confirmServer_152 rfl (jw_Cu_decode.jo (by decide)) lm_Ss_102 ji_Cu_decode js_Cu_decode (w77 _) rfl rfl rfl (Nat.le_of_ble_eq_true rfl) (by decide) (by decide) (c_Cu_decode G u22 276 128 (by decide) w276 (by omega) 0 (by omega) 188 189 190 191 192 ⟨w188, w189, w190, w191, w192, by decide, by decide, by decide, by decide⟩ hv23) (fun r u28 hq => ?_)
      obtain ⟨z31, hz31, hr, hv29, hm30⟩ := hq
      rw [hr]
      clear hr r
      have hm32 := hm26.go hm30 (by intro i hi; simp only [List.mem_cons, List.not_mem_nil, or_false] at hi ⊢ <;> omega)
      show ST G mi_Ss_confirmServer 155 [(3, .ref 282), (0, .ref 265), (1, .ref 62), (2, .ref 217)] [.int (nI z31)] u28 0 0 _
      refine S_if_eqN d_Ss_confirmServer_155 rfl (by omega) (fun c33 => ?_) (fun c33 => ?_)
      · refine ST.lift (fun _ _ k => T_iconst (v := nI 1) d_Ss_confirmServer_176 (by decide) k) ?_
        exact S_ret d_Ss_confirmServer_177 rfl rfl (by decide) (by decide) (hQ _ _ hv29 hm32)
      · refine ST.lift (fun _ _ k => T_aload_n (v := .ref 62) d_Ss_confirmServer_158 rfl (Or.inr ⟨_, rfl⟩) k) ?_
        refine S_getfield d_Ss_confirmServer_159 fg_Ss_78 (w62 _) rfl ?_
        refine ST.lift (fun _ _ k => T_aload_n (v := .ref 282) d_Ss_confirmServer_162 rfl (Or.inr ⟨_, rfl⟩) k) ?_
        refine ST.lift (fun _ _ k => T_sipush (v := nI 224) d_Ss_confirmServer_163 (by decide) k) ?_
        refine ST.lift (fun _ _ k => T_aload_n (v := .ref 62) d_Ss_confirmServer_166 rfl (Or.inr ⟨_, rfl⟩) k) ?_
        refine S_getfield d_Ss_confirmServer_167 fg_Ss_140 (w62 _) rfl ?_
        refine S_virtual (as := [.ref 282, .int (nI 224), .ref 193]) (rest := []) (b := 77) d_Ss_confirmServer_170 rfl (jw_Cu_decode.jo (by decide)) lm_Ss_102 ji_Cu_decode js_Cu_decode (w77 _) rfl rfl rfl (Nat.le_of_ble_eq_true rfl) (by decide) (by decide) (c_Cu_decode G u28 282 320 (by decide) w282 (by omega) 224 (by omega) 193 194 195 196 197 ⟨w193, w194, w195, w196, w197, by decide, by decide, by decide, by decide⟩ hv29) (fun r u34 hq => ?_)
        obtain ⟨z37, hz37, hr, hv35, hm36⟩ := hq
        rw [hr]
        clear hr r
        have hm38 := hm32.go hm36 (by intro i hi; simp only [List.mem_cons, List.not_mem_nil, or_false] at hi ⊢ <;> omega)
        show ST G mi_Ss_confirmServer 173 [(3, .ref 282), (0, .ref 265), (1, .ref 62), (2, .ref 217)] [.int (nI z37)] u34 0 0 _
        refine S_if_neN d_Ss_confirmServer_173 rfl (by omega) (fun c39 => ?_) (fun c39 => ?_)
        · refine ST.lift (fun _ _ k => T_aload_n (v := .ref 217) d_Ss_confirmServer_178 rfl (Or.inr ⟨_, rfl⟩) k) ?_
          refine ST.lift (fun _ _ k => T_aload_n (v := .ref 62) d_Ss_confirmServer_179 rfl (Or.inr ⟨_, rfl⟩) k) ?_
          refine S_getfield d_Ss_confirmServer_180 fg_Ss_143 (w62 _) rfl ?_
          refine S_getfield d_Ss_confirmServer_183 fg_Ss_99 (w203 _) rfl ?_
          refine ST.lift (fun _ _ k => T_aload_n (v := .ref 265) d_Ss_confirmServer_186 rfl (Or.inr ⟨_, rfl⟩) k) ?_
          refine S_getfield d_Ss_confirmServer_187 fg_Ss_38 (w265 _) rfl ?_
          refine S_getfield d_Ss_confirmServer_190 fg_Ss_99 (w273 _) rfl ?_
          refine ST.lift (fun _ _ k => T_aload_n (v := .ref 265) d_Ss_confirmServer_193 rfl (Or.inr ⟨_, rfl⟩) k) ?_
          refine S_getfield d_Ss_confirmServer_194 fg_Ss_41 (w265 _) rfl ?_
          refine S_getfield d_Ss_confirmServer_197 fg_Ss_99 (w275 _) rfl ?_
          refine ST.lift (fun _ _ k => T_aload_n (v := .ref 282) d_Ss_confirmServer_200 rfl (Or.inr ⟨_, rfl⟩) k) ?_
          refine S_virtual (as := [.ref 204, .ref 274, .ref 276, .ref 282]) (rest := []) (b := 217) d_Ss_confirmServer_201 rfl (jw_Ex_open.jo (by decide)) lm_Ss_146 ji_Ex_open js_Ex_open (w217 _) rfl rfl rfl (Nat.le_of_ble_eq_true rfl) (by decide) (by decide) (c_Ex_open G u34 204 32 (by decide) w204 (by omega) 274 96 (by decide) w274 (by omega) 276 128 (by decide) w276 (by omega) 282 320 (by decide) w282 (by omega) hv35) (fun r u40 hq => ?_)
          obtain ⟨hr, hv41, hm42⟩ := hq
          rw [hr]
          clear hr r
          have hm43 := hm38.go hm42 (by intro i hi; simp only [List.mem_cons, List.not_mem_nil, or_false] at hi ⊢ <;> omega)
          show ST G mi_Ss_confirmServer 204 [(3, .ref 282), (0, .ref 265), (1, .ref 62), (2, .ref 217)] [] u40 0 0 _
          refine ST.lift (fun _ _ k => T_aload_n (v := .ref 217) d_Ss_confirmServer_204 rfl (Or.inr ⟨_, rfl⟩) k) ?_
          refine ST.lift (fun _ _ k => T_aload_n (v := .ref 62) d_Ss_confirmServer_205 rfl (Or.inr ⟨_, rfl⟩) k) ?_
          refine ST.lift (fun _ _ k => T_aload_n (v := .ref 265) d_Ss_confirmServer_206 rfl (Or.inr ⟨_, rfl⟩) k) ?_
          refine S_getfield d_Ss_confirmServer_207 fg_Ss_47 (w265 _) rfl ?_
          refine ST.lift (fun _ _ k => T_aload_n (v := .ref 62) d_Ss_confirmServer_210 rfl (Or.inr ⟨_, rfl⟩) k) ?_
          refine S_getfield d_Ss_confirmServer_211 fg_Ss_140 (w62 _) rfl ?_
          refine S_virtual (as := [.ref 62, .ref 278, .ref 193]) (rest := []) (b := 217) d_Ss_confirmServer_214 rfl (jw_Ex_join.jo (by decide)) lm_Ss_152 ji_Ex_join js_Ex_join (w217 _) rfl rfl rfl (Nat.le_of_ble_eq_true rfl) (by decide) (by decide) (c_Ex_join G u40 278 32 (by decide) w278 (by omega) 193 194 195 196 197 ⟨w193, w194, w195, w196, w197, by decide, by decide, by decide, by decide⟩ (by omega) hv41) (fun r u44 hq => ?_)
          obtain ⟨hr, hv45, hm46⟩ := hq
          rw [hr]
          clear hr r
          have hm47 := hm43.go hm46 (by intro i hi; simp only [List.mem_cons, List.not_mem_nil, or_false] at hi ⊢ <;> omega)
          show ST G mi_Ss_confirmServer 217 [(3, .ref 282), (0, .ref 265), (1, .ref 62), (2, .ref 217)] [] u44 0 0 _
          refine ST.lift (fun _ _ k => T_aload_n (v := .ref 217) d_Ss_confirmServer_217 rfl (Or.inr ⟨_, rfl⟩) k) ?_
          refine ST.lift (fun _ _ k => T_aload_n (v := .ref 62) d_Ss_confirmServer_218 rfl (Or.inr ⟨_, rfl⟩) k) ?_
          refine ST.lift (fun _ _ k => T_aload_n (v := .ref 265) d_Ss_confirmServer_219 rfl (Or.inr ⟨_, rfl⟩) k) ?_
          refine S_getfield d_Ss_confirmServer_220 fg_Ss_47 (w265 _) rfl ?_
          refine ST.lift (fun _ _ k => T_aload_n (v := .ref 62) d_Ss_confirmServer_223 rfl (Or.inr ⟨_, rfl⟩) k) ?_
          refine S_getfield d_Ss_confirmServer_224 fg_Ss_70 (w62 _) rfl ?_
          refine S_virtual (as := [.ref 62, .ref 278, .ref 188]) (rest := []) (b := 217) d_Ss_confirmServer_227 rfl (jw_Ex_join.jo (by decide)) lm_Ss_152 ji_Ex_join js_Ex_join (w217 _) rfl rfl rfl (Nat.le_of_ble_eq_true rfl) (by decide) (by decide) (c_Ex_join G u44 278 32 (by decide) w278 (by omega) 188 189 190 191 192 ⟨w188, w189, w190, w191, w192, by decide, by decide, by decide, by decide⟩ (by omega) hv45) (fun r u48 hq => ?_)
          obtain ⟨hr, hv49, hm50⟩ := hq
          rw [hr]
          clear hr r
          have hm51 := hm47.go hm50 (by intro i hi; simp only [List.mem_cons, List.not_mem_nil, or_false] at hi ⊢ <;> omega)
          show ST G mi_Ss_confirmServer 230 [(3, .ref 282), (0, .ref 265), (1, .ref 62), (2, .ref 217)] [] u48 0 0 _
          refine ST.lift (fun _ _ k => T_aload_n (v := .ref 217) d_Ss_confirmServer_230 rfl (Or.inr ⟨_, rfl⟩) k) ?_
          refine ST.lift (fun _ _ k => T_aload_n (v := .ref 62) d_Ss_confirmServer_231 rfl (Or.inr ⟨_, rfl⟩) k) ?_
          refine ST.lift (fun _ _ k => T_aload_n (v := .ref 62) d_Ss_confirmServer_232 rfl (Or.inr ⟨_, rfl⟩) k) ?_
          refine S_getfield d_Ss_confirmServer_233 fg_Ss_156 (w62 _) rfl ?_
          refine ST.lift (fun _ _ k => T_aload_n (v := .ref 62) d_Ss_confirmServer_236 rfl (Or.inr ⟨_, rfl⟩) k) ?_
          refine S_getfield d_Ss_confirmServer_237 fg_Ss_140 (w62 _) rfl ?_
          refine S_virtual (as := [.ref 62, .ref 202, .ref 193]) (rest := []) (b := 217) d_Ss_confirmServer_240 rfl (jw_Ex_join.jo (by decide)) lm_Ss_152 ji_Ex_join js_Ex_join (w217 _) rfl rfl rfl (Nat.le_of_ble_eq_true rfl) (by decide) (by decide) (c_Ex_join G u48 202 32 (by decide) w202 (by omega) 193 194 195 196 197 ⟨w193, w194, w195, w196, w197, by decide, by decide, by decide, by decide⟩ (by omega) hv49) (fun r u52 hq => ?_)
          obtain ⟨hr, hv53, hm54⟩ := hq
          rw [hr]
          clear hr r
          have hm55 := hm51.go hm54 (by intro i hi; simp only [List.mem_cons, List.not_mem_nil, or_false] at hi ⊢ <;> omega)
          show ST G mi_Ss_confirmServer 243 [(3, .ref 282), (0, .ref 265), (1, .ref 62), (2, .ref 217)] [] u52 0 0 _
          refine ST.lift (fun _ _ k => T_aload_n (v := .ref 217) d_Ss_confirmServer_243 rfl (Or.inr ⟨_, rfl⟩) k) ?_
          refine ST.lift (fun _ _ k => T_aload_n (v := .ref 62) d_Ss_confirmServer_244 rfl (Or.inr ⟨_, rfl⟩) k) ?_
          refine S_virtual (as := [.ref 62]) (rest := []) (b := 217) d_Ss_confirmServer_245 rfl (jw_Ex_settle.jo (by decide)) lm_Ss_159 ji_Ex_settle js_Ex_settle (w217 _) rfl rfl rfl (Nat.le_of_ble_eq_true rfl) (by decide) (by decide) (c_Ex_settle G u52 hv53) (fun r u56 hq => ?_)
          obtain ⟨hr, hv57, hm58⟩ := hq
          rw [hr]
          clear hr r
          have hm59 := hm55.go hm58 (by intro i hi; simp only [List.mem_cons, List.not_mem_nil, or_false] at hi ⊢ <;> omega)
          show ST G mi_Ss_confirmServer 248 [(3, .ref 282), (0, .ref 265), (1, .ref 62), (2, .ref 217)] [] u56 0 0 _
          refine ST.lift (fun _ _ k => T_aload_n (v := .ref 265) d_Ss_confirmServer_248 rfl (Or.inr ⟨_, rfl⟩) k) ?_
          refine S_getfield d_Ss_confirmServer_249 fg_Ss_11 (w265 _) rfl ?_
          refine ST.lift (fun _ _ k => T_iconst (v := nI 1) d_Ss_confirmServer_252 (by decide) k) ?_
          refine S_aaload (C0 := "PasswordGate$Bytes") d_Ss_confirmServer_253 (by decide) (w266 _) rfl (vp_in_nI (by omega) (by omega)) ?_
          refine ST.lift (fun _ _ k => T_sipush (v := nI 256) d_Ss_confirmServer_254 (by decide) k) ?_
          refine ST.lift (fun _ _ k => T_aload_n (v := .ref 217) d_Ss_confirmServer_257 rfl (Or.inr ⟨_, rfl⟩) k) ?_
          refine S_getfield d_Ss_confirmServer_258 fg_Ss_163 (w217 _) rfl ?_
          refine ST.lift (fun _ _ k => T_iconst (v := nI 0) d_Ss_confirmServer_261 (by decide) k) ?_
          refine S_virtual (as := [.int (nI 256), .ref 218, .int (nI 0)]) (rest := []) (b := 281) d_Ss_confirmServer_262 rfl (jw_By_endsLike.jo (by decide)) lm_Ss_136 ji_By_endsLike js_By_endsLike (w281 _) rfl rfl rfl (Nat.le_of_ble_eq_true rfl) (by decide) (by decide) (c_By_endsLike G u56 281 282 320 29 ⟨w281, w282, by decide, u281_1, by decide, by decide⟩ 256 (by omega) 218 64 (by decide) w218 (by omega) 0 (by omega) hv57) (fun r u60 hq => ?_)
          obtain ⟨z63, hz63, hr, hv61, hm62⟩ := hq
          rw [hr]
          clear hr r
          have hm64 := hm59.go hm62 (by intro i hi; simp only [List.mem_cons, List.not_mem_nil, or_false] at hi ⊢ <;> omega)
          show ST G mi_Ss_confirmServer 265 [(3, .ref 282), (0, .ref 265), (1, .ref 62), (2, .ref 217)] [.int (nI z63)] u60 0 0 _
          refine S_if_neN d_Ss_confirmServer_265 rfl (by omega) (fun c65 => ?_) (fun c65 => ?_)
          · refine ST.lift (fun _ _ k => T_aload_n (v := .ref 265) d_Ss_confirmServer_270 rfl (Or.inr ⟨_, rfl⟩) k) ?_
            refine S_getfield d_Ss_confirmServer_271 fg_Ss_11 (w265 _) rfl ?_
            refine ST.lift (fun _ _ k => T_iconst (v := nI 2) d_Ss_confirmServer_274 (by decide) k) ?_
            refine S_aaload (C0 := "PasswordGate$Bytes") d_Ss_confirmServer_275 (by decide) (w266 _) rfl (vp_in_nI (by omega) (by omega)) ?_
            refine ST.lift (fun _ _ k => T_aload_n (v := .ref 217) d_Ss_confirmServer_276 rfl (Or.inr ⟨_, rfl⟩) k) ?_
            refine S_getfield d_Ss_confirmServer_277 fg_Ss_166 (w217 _) rfl ?_
            refine ST.lift (fun _ _ k => T_iconst (v := nI 0) d_Ss_confirmServer_280 (by decide) k) ?_
            refine ST.lift (fun _ _ k => T_bipush (v := nI 64) d_Ss_confirmServer_281 (by decide) k) ?_
            refine S_virtual (as := [.ref 219, .int (nI 0), .int (nI 64)]) (rest := []) (b := 283) d_Ss_confirmServer_283 rfl (jw_By_put.jo (by decide)) lm_Ss_169 ji_By_put js_By_put (w283 _) rfl rfl rfl (Nat.le_of_ble_eq_true rfl) (by decide) (by decide) (c_By_put G u60 283 284 64 30 ⟨w283, w284, by decide, u283_1, by decide, by decide⟩ 219 64 (by decide) w219 (by omega) 0 (by omega) 64 (by omega) hv61) (fun r u66 hq => ?_)
            obtain ⟨hr, hv67, hm68⟩ := hq
            rw [hr]
            clear hr r
            have hm69 := hm64.go hm68 (by intro i hi; simp only [List.mem_cons, List.not_mem_nil, or_false] at hi ⊢ <;> omega)
            show ST G mi_Ss_confirmServer 286 [(3, .ref 282), (0, .ref 265), (1, .ref 62), (2, .ref 217)] [] u66 0 0 _
            refine ST.lift (fun _ _ k => T_aload_n (v := .ref 265) d_Ss_confirmServer_286 rfl (Or.inr ⟨_, rfl⟩) k) ?_
            refine S_getfield d_Ss_confirmServer_287 fg_Ss_17 (w265 _) rfl ?_
            refine ST.lift (fun _ _ k => T_iconst (v := nI 0) d_Ss_confirmServer_290 (by decide) k) ?_
            refine S_aaload (C0 := "PasswordGate$Bytes") d_Ss_confirmServer_291 (by decide) (w267 _) rfl (vp_in_nI (by omega) (by omega)) ?_
            refine ST.lift (fun _ _ k => T_aload_n (v := .ref 217) d_Ss_confirmServer_292 rfl (Or.inr ⟨_, rfl⟩) k) ?_
            refine S_getfield d_Ss_confirmServer_293 fg_Ss_173 (w217 _) rfl ?_
            refine ST.lift (fun _ _ k => T_iconst (v := nI 0) d_Ss_confirmServer_296 (by decide) k) ?_
            refine ST.lift (fun _ _ k => T_bipush (v := nI 64) d_Ss_confirmServer_297 (by decide) k) ?_
            refine S_virtual (as := [.ref 220, .int (nI 0), .int (nI 64)]) (rest := []) (b := 285) d_Ss_confirmServer_299 rfl (jw_By_put.jo (by decide)) lm_Ss_169 ji_By_put js_By_put (w285 _) rfl rfl rfl (Nat.le_of_ble_eq_true rfl) (by decide) (by decide) (c_By_put G u66 285 286 64 31 ⟨w285, w286, by decide, u285_1, by decide, by decide⟩ 220 64 (by decide) w220 (by omega) 0 (by omega) 64 (by omega) hv67) (fun r u70 hq => ?_)
            obtain ⟨hr, hv71, hm72⟩ := hq
            rw [hr]
            clear hr r
            have hm73 := hm69.go hm72 (by intro i hi; simp only [List.mem_cons, List.not_mem_nil, or_false] at hi ⊢ <;> omega)
            show ST G mi_Ss_confirmServer 302 [(3, .ref 282), (0, .ref 265), (1, .ref 62), (2, .ref 217)] [] u70 0 0 _
            refine ST.lift (fun _ _ k => T_aload_n (v := .ref 265) d_Ss_confirmServer_302 rfl (Or.inr ⟨_, rfl⟩) k) ?_
            refine S_getfield d_Ss_confirmServer_303 fg_Ss_17 (w265 _) rfl ?_
            refine ST.lift (fun _ _ k => T_iconst (v := nI 2) d_Ss_confirmServer_306 (by decide) k) ?_
            refine S_aaload (C0 := "PasswordGate$Bytes") d_Ss_confirmServer_307 (by decide) (w267 _) rfl (vp_in_nI (by omega) (by omega)) ?_
            refine ST.lift (fun _ _ k => T_aload_n (v := .ref 62) d_Ss_confirmServer_308 rfl (Or.inr ⟨_, rfl⟩) k) ?_
            refine S_getfield d_Ss_confirmServer_309 fg_Ss_176 (w62 _) rfl ?_
            refine ST.lift (fun _ _ k => T_iconst (v := nI 0) d_Ss_confirmServer_312 (by decide) k) ?_
            refine ST.lift (fun _ _ k => T_bipush (v := nI 64) d_Ss_confirmServer_313 (by decide) k) ?_
            refine S_virtual (as := [.ref 206, .int (nI 0), .int (nI 64)]) (rest := []) (b := 289) d_Ss_confirmServer_315 rfl (jw_By_put.jo (by decide)) lm_Ss_169 ji_By_put js_By_put (w289 _) rfl rfl rfl (Nat.le_of_ble_eq_true rfl) (by decide) (by decide) (c_By_put G u70 289 290 64 33 ⟨w289, w290, by decide, u289_1, by decide, by decide⟩ 206 64 (by decide) w206 (by omega) 0 (by omega) 64 (by omega) hv71) (fun r u74 hq => ?_)
            obtain ⟨hr, hv75, hm76⟩ := hq
            rw [hr]
            clear hr r
            have hm77 := hm73.go hm76 (by intro i hi; simp only [List.mem_cons, List.not_mem_nil, or_false] at hi ⊢ <;> omega)
            show ST G mi_Ss_confirmServer 318 [(3, .ref 282), (0, .ref 265), (1, .ref 62), (2, .ref 217)] [] u74 0 0 _
            refine ST.lift (fun _ _ k => T_iconst (v := nI 0) d_Ss_confirmServer_318 (by decide) k) ?_
            exact S_ret d_Ss_confirmServer_319 rfl rfl (by decide) (by decide) (hQ _ _ hv75 hm77)
          · refine ST.lift (fun _ _ k => T_iconst (v := nI 4) d_Ss_confirmServer_268 (by decide) k) ?_
            exact S_ret d_Ss_confirmServer_269 rfl rfl (by decide) (by decide) (hQ _ _ hv61 hm64)
        · refine ST.lift (fun _ _ k => T_iconst (v := nI 1) d_Ss_confirmServer_176 (by decide) k) ?_
          exact S_ret d_Ss_confirmServer_177 rfl rfl (by decide) (by decide) (hQ _ _ hv35 hm38)
    · refine ST.lift (fun _ _ k => T_iconst (v := nI 3) d_Ss_confirmServer_134 (by decide) k) ?_
      exact S_ret d_Ss_confirmServer_135 rfl rfl (by decide) (by decide) (hQ _ _ hv23 hm26)
  · refine ST.lift (fun _ _ k => T_iconst (v := nI 1) d_Ss_confirmServer_26 (by decide) k) ?_
    exact S_ret d_Ss_confirmServer_27 rfl rfl (by decide) (by decide) (hQ _ _ hv2 hm5)
set_option maxRecDepth 100000 in
set_option maxHeartbeats 4000000 in
theorem c_Ss_confirmClient_265 (G : GX) (v : Nat → Int32) (hv : okv v) : CS G mi_Ss_confirmClient [.ref 265] v (fun r v' => ∃ z : Int32, r = some (.int z) ∧ okv v' ∧ mdf [28, 29, 30, 31, 32, 33, 25, 26, 27, 24] v v') := by
  refine CS.of (by decide) (Nat.le_of_ble_eq_true rfl) ?_
  generalize hQe : (fun (r : Option Value) (v' : Nat → Int32) => ∃ z : Int32, r = some (.int z) ∧ okv v' ∧ mdf [28, 29, 30, 31, 32, 33, 25, 26, 27, 24] v v') = Q
  have hQ : ∀ (z : Int32) (u : Nat → Int32), okv u → mdf [28, 29, 30, 31, 32, 33, 25, 26, 27, 24] v u → Q (some (.int z)) u := by rw [← hQe]; exact fun z u h1 h2 => ⟨z, rfl, h1, h2⟩
  clear hQe
  have hm : mdf [28, 29, 30, 31, 32, 33, 25, 26, 27, 24] v v := mdf.rf
  show ST G mi_Ss_confirmClient 0 [(0, .ref 265)] [] v 0 0 Q
  refine ST.lift (fun _ _ k => T_aload_n (v := .ref 265) d_Ss_confirmClient_0 rfl (Or.inr ⟨_, rfl⟩) k) ?_
  refine S_getfield d_Ss_confirmClient_1 fg_Ss_11 (w265 _) rfl ?_
  refine ST.lift (fun _ _ k => T_iconst (v := nI 2) d_Ss_confirmClient_4 (by decide) k) ?_
  refine S_aaload (C0 := "PasswordGate$Bytes") d_Ss_confirmClient_5 (by decide) (w266 _) rfl (vp_in_nI (by omega) (by omega)) ?_
  refine ST.lift (fun _ _ k => T_iconst (v := nI 0) d_Ss_confirmClient_6 (by decide) k) ?_
  refine ST.lift (fun _ _ k => T_aload_n (v := .ref 265) d_Ss_confirmClient_7 rfl (Or.inr ⟨_, rfl⟩) k) ?_
  refine S_getfield d_Ss_confirmClient_8 fg_Ss_20 (w265 _) rfl ?_
  refine ST.lift (fun _ _ k => T_iconst (v := nI 0) d_Ss_confirmClient_11 (by decide) k) ?_
  refine S_virtual (as := [.int (nI 0), .ref 268, .int (nI 0)]) (rest := []) (b := 283) d_Ss_confirmClient_12 rfl (jw_By_endsLike.jo (by decide)) lm_Ss_136 ji_By_endsLike js_By_endsLike (w283 _) rfl rfl rfl (Nat.le_of_ble_eq_true rfl) (by decide) (by decide) (c_By_endsLike G v 283 284 64 30 ⟨w283, w284, by decide, u283_1, by decide, by decide⟩ 0 (by omega) 268 64 (by decide) w268 (by omega) 0 (by omega) hv) (fun r u1 hq => ?_)
  obtain ⟨z4, hz4, hr, hv2, hm3⟩ := hq
  rw [hr]
  clear hr r
  have hm5 := hm.go hm3 (by intro i hi; simp only [List.mem_cons, List.not_mem_nil, or_false] at hi ⊢ <;> omega)
  show ST G mi_Ss_confirmClient 15 [(0, .ref 265)] [.int (nI z4)] u1 0 0 _
  refine S_if_neN d_Ss_confirmClient_15 rfl (by omega) (fun c6 => ?_) (fun c6 => ?_)
  · refine ST.lift (fun _ _ k => T_aload_n (v := .ref 265) d_Ss_confirmClient_20 rfl (Or.inr ⟨_, rfl⟩) k) ?_
    refine S_getfield d_Ss_confirmClient_21 fg_Ss_17 (w265 _) rfl ?_
    refine ST.lift (fun _ _ k => T_iconst (v := nI 1) d_Ss_confirmClient_24 (by decide) k) ?_
    refine S_aaload (C0 := "PasswordGate$Bytes") d_Ss_confirmClient_25 (by decide) (w267 _) rfl (vp_in_nI (by omega) (by omega)) ?_
    refine ST.lift (fun _ _ k => T_aload_n (v := .ref 265) d_Ss_confirmClient_26 rfl (Or.inr ⟨_, rfl⟩) k) ?_
    refine S_getfield d_Ss_confirmClient_27 fg_Ss_24 (w265 _) rfl ?_
    refine ST.lift (fun _ _ k => T_iconst (v := nI 0) d_Ss_confirmClient_30 (by decide) k) ?_
    refine ST.lift (fun _ _ k => T_bipush (v := nI 64) d_Ss_confirmClient_31 (by decide) k) ?_
    refine S_virtual (as := [.ref 269, .int (nI 0), .int (nI 64)]) (rest := []) (b := 287) d_Ss_confirmClient_33 rfl (jw_By_put.jo (by decide)) lm_Ss_169 ji_By_put js_By_put (w287 _) rfl rfl rfl (Nat.le_of_ble_eq_true rfl) (by decide) (by decide) (c_By_put G u1 287 288 64 32 ⟨w287, w288, by decide, u287_1, by decide, by decide⟩ 269 64 (by decide) w269 (by omega) 0 (by omega) 64 (by omega) hv2) (fun r u7 hq => ?_)
    obtain ⟨hr, hv8, hm9⟩ := hq
    rw [hr]
    clear hr r
    have hm10 := hm5.go hm9 (by intro i hi; simp only [List.mem_cons, List.not_mem_nil, or_false] at hi ⊢ <;> omega)
    show ST G mi_Ss_confirmClient 36 [(0, .ref 265)] [] u7 0 0 _
    refine ST.lift (fun _ _ k => T_iconst (v := nI 0) d_Ss_confirmClient_36 (by decide) k) ?_
    exact S_ret d_Ss_confirmClient_37 rfl rfl (by decide) (by decide) (hQ _ _ hv8 hm10)
  · refine ST.lift (fun _ _ k => T_iconst (v := nI 5) d_Ss_confirmClient_18 (by decide) k) ?_
    exact S_ret d_Ss_confirmClient_19 rfl rfl (by decide) (by decide) (hQ _ _ hv2 hm5)
set_option maxRecDepth 100000 in
set_option maxHeartbeats 4000000 in
theorem c_Ss_take_291_0 (G : GX) (v : Nat → Int32) (hv : okv v) : CS G mi_Ss_take [.ref 291, .int (nI 0)] v (fun r v' => ∃ z : Nat, z ≤ 1 ∧ r = some (.int (nI z)) ∧ okv v' ∧ mdf [] v v') := by
  refine CS.of (by decide) (Nat.le_of_ble_eq_true rfl) ?_
  generalize hQe : (fun (r : Option Value) (v' : Nat → Int32) => ∃ z : Nat, z ≤ 1 ∧ r = some (.int (nI z)) ∧ okv v' ∧ mdf [] v v') = Q
  have hQ : ∀ (z : Nat) (u : Nat → Int32), z ≤ 1 → okv u → mdf [] v u → Q (some (.int (nI z))) u := by rw [← hQe]; exact fun z u hz h1 h2 => ⟨z, hz, rfl, h1, h2⟩
  clear hQe
  have hm : mdf [] v v := mdf.rf
  show ST G mi_Ss_take 0 [(0, .ref 291), (1, .int (nI 0))] [] v 0 0 Q
  refine ST.lift (fun _ _ k => T_aload_n (v := .ref 291) d_Ss_take_0 rfl (Or.inr ⟨_, rfl⟩) k) ?_
  refine S_getfield d_Ss_take_1 fg_Ss_11 (w291 _) rfl ?_
  refine ST.lift (fun _ _ k => T_iload_n d_Ss_take_4 rfl k) ?_
  refine S_aaload (C0 := "PasswordGate$Bytes") d_Ss_take_5 (by decide) (w292 _) rfl (vp_in_nI (by omega) (by omega)) ?_
  obtain ⟨k1, hk1, ek1⟩ := hv.get (j := 38) (c := 96) (by decide)
  refine S_getfield d_Ss_take_6 fg_Ss_50 (w305 _) rfl ?_
  refine S_topi (y := nI k1) (ek1) ?_
  refine S_if_eqN d_Ss_take_9 rfl (by omega) (fun c2 => ?_) (fun c2 => ?_)
  · refine ST.lift (fun _ _ k => T_iconst (v := nI 0) d_Ss_take_21 (by decide) k) ?_
    exact S_ret d_Ss_take_22 rfl (nar_z (by omega)) (by decide) (by decide) (hQ 0 _ (by omega) hv hm)
  · refine ST.lift (fun _ _ k => T_aload_n (v := .ref 291) d_Ss_take_12 rfl (Or.inr ⟨_, rfl⟩) k) ?_
    refine S_getfield d_Ss_take_13 fg_Ss_27 (w291 _) rfl ?_
    refine ST.lift (fun _ _ k => T_iload_n d_Ss_take_16 rfl k) ?_
    refine S_zaload d_Ss_take_17 w296 (vp_in_nI (by omega) (by omega)) (fun z3 hz3 => ?_)
    refine S_if_eq d_Ss_take_18 rfl (fun c4 => ?_) (fun c4 => ?_)
    · refine ST.lift (fun _ _ k => T_aload_n (v := .ref 291) d_Ss_take_23 rfl (Or.inr ⟨_, rfl⟩) k) ?_
      refine S_getfield d_Ss_take_24 fg_Ss_27 (w291 _) rfl ?_
      refine ST.lift (fun _ _ k => T_iload_n d_Ss_take_27 rfl k) ?_
      refine ST.lift (fun _ _ k => T_iconst (v := nI 1) d_Ss_take_28 (by decide) k) ?_
      refine S_zastore d_Ss_take_29 (by decide) w296 (vp_in_nI (by omega) (by omega)) ?_
      refine ST.lift (fun _ _ k => T_iconst (v := nI 1) d_Ss_take_30 (by decide) k) ?_
      exact S_ret d_Ss_take_31 rfl (nar_z (by omega)) (by decide) (by decide) (hQ 1 _ (by omega) hv hm)
    · refine ST.lift (fun _ _ k => T_iconst (v := nI 0) d_Ss_take_21 (by decide) k) ?_
      exact S_ret d_Ss_take_22 rfl (nar_z (by omega)) (by decide) (by decide) (hQ 0 _ (by omega) hv hm)
set_option maxRecDepth 100000 in
set_option maxHeartbeats 4000000 in
theorem c_Ss_take_291_1 (G : GX) (v : Nat → Int32) (hv : okv v) : CS G mi_Ss_take [.ref 291, .int (nI 1)] v (fun r v' => ∃ z : Nat, z ≤ 1 ∧ r = some (.int (nI z)) ∧ okv v' ∧ mdf [] v v') := by
  refine CS.of (by decide) (Nat.le_of_ble_eq_true rfl) ?_
  generalize hQe : (fun (r : Option Value) (v' : Nat → Int32) => ∃ z : Nat, z ≤ 1 ∧ r = some (.int (nI z)) ∧ okv v' ∧ mdf [] v v') = Q
  have hQ : ∀ (z : Nat) (u : Nat → Int32), z ≤ 1 → okv u → mdf [] v u → Q (some (.int (nI z))) u := by rw [← hQe]; exact fun z u hz h1 h2 => ⟨z, hz, rfl, h1, h2⟩
  clear hQe
  have hm : mdf [] v v := mdf.rf
  show ST G mi_Ss_take 0 [(0, .ref 291), (1, .int (nI 1))] [] v 0 0 Q
  refine ST.lift (fun _ _ k => T_aload_n (v := .ref 291) d_Ss_take_0 rfl (Or.inr ⟨_, rfl⟩) k) ?_
  refine S_getfield d_Ss_take_1 fg_Ss_11 (w291 _) rfl ?_
  refine ST.lift (fun _ _ k => T_iload_n d_Ss_take_4 rfl k) ?_
  refine S_aaload (C0 := "PasswordGate$Bytes") d_Ss_take_5 (by decide) (w292 _) rfl (vp_in_nI (by omega) (by omega)) ?_
  obtain ⟨k1, hk1, ek1⟩ := hv.get (j := 39) (c := 320) (by decide)
  refine S_getfield d_Ss_take_6 fg_Ss_50 (w307 _) rfl ?_
  refine S_topi (y := nI k1) (ek1) ?_
  refine S_if_eqN d_Ss_take_9 rfl (by omega) (fun c2 => ?_) (fun c2 => ?_)
  · refine ST.lift (fun _ _ k => T_iconst (v := nI 0) d_Ss_take_21 (by decide) k) ?_
    exact S_ret d_Ss_take_22 rfl (nar_z (by omega)) (by decide) (by decide) (hQ 0 _ (by omega) hv hm)
  · refine ST.lift (fun _ _ k => T_aload_n (v := .ref 291) d_Ss_take_12 rfl (Or.inr ⟨_, rfl⟩) k) ?_
    refine S_getfield d_Ss_take_13 fg_Ss_27 (w291 _) rfl ?_
    refine ST.lift (fun _ _ k => T_iload_n d_Ss_take_16 rfl k) ?_
    refine S_zaload d_Ss_take_17 w296 (vp_in_nI (by omega) (by omega)) (fun z3 hz3 => ?_)
    refine S_if_eq d_Ss_take_18 rfl (fun c4 => ?_) (fun c4 => ?_)
    · refine ST.lift (fun _ _ k => T_aload_n (v := .ref 291) d_Ss_take_23 rfl (Or.inr ⟨_, rfl⟩) k) ?_
      refine S_getfield d_Ss_take_24 fg_Ss_27 (w291 _) rfl ?_
      refine ST.lift (fun _ _ k => T_iload_n d_Ss_take_27 rfl k) ?_
      refine ST.lift (fun _ _ k => T_iconst (v := nI 1) d_Ss_take_28 (by decide) k) ?_
      refine S_zastore d_Ss_take_29 (by decide) w296 (vp_in_nI (by omega) (by omega)) ?_
      refine ST.lift (fun _ _ k => T_iconst (v := nI 1) d_Ss_take_30 (by decide) k) ?_
      exact S_ret d_Ss_take_31 rfl (nar_z (by omega)) (by decide) (by decide) (hQ 1 _ (by omega) hv hm)
    · refine ST.lift (fun _ _ k => T_iconst (v := nI 0) d_Ss_take_21 (by decide) k) ?_
      exact S_ret d_Ss_take_22 rfl (nar_z (by omega)) (by decide) (by decide) (hQ 0 _ (by omega) hv hm)
set_option maxRecDepth 100000 in
set_option maxHeartbeats 4000000 in
theorem c_Ss_take_291_2 (G : GX) (v : Nat → Int32) (hv : okv v) : CS G mi_Ss_take [.ref 291, .int (nI 2)] v (fun r v' => ∃ z : Nat, z ≤ 1 ∧ r = some (.int (nI z)) ∧ okv v' ∧ mdf [] v v') := by
  refine CS.of (by decide) (Nat.le_of_ble_eq_true rfl) ?_
  generalize hQe : (fun (r : Option Value) (v' : Nat → Int32) => ∃ z : Nat, z ≤ 1 ∧ r = some (.int (nI z)) ∧ okv v' ∧ mdf [] v v') = Q
  have hQ : ∀ (z : Nat) (u : Nat → Int32), z ≤ 1 → okv u → mdf [] v u → Q (some (.int (nI z))) u := by rw [← hQe]; exact fun z u hz h1 h2 => ⟨z, hz, rfl, h1, h2⟩
  clear hQe
  have hm : mdf [] v v := mdf.rf
  show ST G mi_Ss_take 0 [(0, .ref 291), (1, .int (nI 2))] [] v 0 0 Q
  refine ST.lift (fun _ _ k => T_aload_n (v := .ref 291) d_Ss_take_0 rfl (Or.inr ⟨_, rfl⟩) k) ?_
  refine S_getfield d_Ss_take_1 fg_Ss_11 (w291 _) rfl ?_
  refine ST.lift (fun _ _ k => T_iload_n d_Ss_take_4 rfl k) ?_
  refine S_aaload (C0 := "PasswordGate$Bytes") d_Ss_take_5 (by decide) (w292 _) rfl (vp_in_nI (by omega) (by omega)) ?_
  obtain ⟨k1, hk1, ek1⟩ := hv.get (j := 40) (c := 64) (by decide)
  refine S_getfield d_Ss_take_6 fg_Ss_50 (w309 _) rfl ?_
  refine S_topi (y := nI k1) (ek1) ?_
  refine S_if_eqN d_Ss_take_9 rfl (by omega) (fun c2 => ?_) (fun c2 => ?_)
  · refine ST.lift (fun _ _ k => T_iconst (v := nI 0) d_Ss_take_21 (by decide) k) ?_
    exact S_ret d_Ss_take_22 rfl (nar_z (by omega)) (by decide) (by decide) (hQ 0 _ (by omega) hv hm)
  · refine ST.lift (fun _ _ k => T_aload_n (v := .ref 291) d_Ss_take_12 rfl (Or.inr ⟨_, rfl⟩) k) ?_
    refine S_getfield d_Ss_take_13 fg_Ss_27 (w291 _) rfl ?_
    refine ST.lift (fun _ _ k => T_iload_n d_Ss_take_16 rfl k) ?_
    refine S_zaload d_Ss_take_17 w296 (vp_in_nI (by omega) (by omega)) (fun z3 hz3 => ?_)
    refine S_if_eq d_Ss_take_18 rfl (fun c4 => ?_) (fun c4 => ?_)
    · refine ST.lift (fun _ _ k => T_aload_n (v := .ref 291) d_Ss_take_23 rfl (Or.inr ⟨_, rfl⟩) k) ?_
      refine S_getfield d_Ss_take_24 fg_Ss_27 (w291 _) rfl ?_
      refine ST.lift (fun _ _ k => T_iload_n d_Ss_take_27 rfl k) ?_
      refine ST.lift (fun _ _ k => T_iconst (v := nI 1) d_Ss_take_28 (by decide) k) ?_
      refine S_zastore d_Ss_take_29 (by decide) w296 (vp_in_nI (by omega) (by omega)) ?_
      refine ST.lift (fun _ _ k => T_iconst (v := nI 1) d_Ss_take_30 (by decide) k) ?_
      exact S_ret d_Ss_take_31 rfl (nar_z (by omega)) (by decide) (by decide) (hQ 1 _ (by omega) hv hm)
    · refine ST.lift (fun _ _ k => T_iconst (v := nI 0) d_Ss_take_21 (by decide) k) ?_
      exact S_ret d_Ss_take_22 rfl (nar_z (by omega)) (by decide) (by decide) (hQ 0 _ (by omega) hv hm)
set_option maxRecDepth 100000 in
set_option maxHeartbeats 4000000 in
theorem c_Ss_start_291 (G : GX) (v : Nat → Int32) (usr : Nat) (b_usr : usr ≤ 7) (b bd bc bj : Nat) (y_b : isBy b bd bc bj) (hv : okv v) : CS G mi_Ss_start [.ref 291, .ref 62, .int (nI usr), .ref b] v (fun r v' => r = none ∧ okv v' ∧ mdf [6, 7, 5, 2, 3, 1, 4, 38, 39, 40, 41, 42, 43, 35, 36, 37, 34] v v') := by
  refine CS.of (by decide) (Nat.le_of_ble_eq_true rfl) ?_
  generalize hQe : (fun (r : Option Value) (v' : Nat → Int32) => r = none ∧ okv v' ∧ mdf [6, 7, 5, 2, 3, 1, 4, 38, 39, 40, 41, 42, 43, 35, 36, 37, 34] v v') = Q
  have hQ : ∀ u, okv u → mdf [6, 7, 5, 2, 3, 1, 4, 38, 39, 40, 41, 42, 43, 35, 36, 37, 34] v u → Q none u := by rw [← hQe]; exact fun u h1 h2 => ⟨rfl, h1, h2⟩
  clear hQe
  have hm : mdf [6, 7, 5, 2, 3, 1, 4, 38, 39, 40, 41, 42, 43, 35, 36, 37, 34] v v := mdf.rf
  have l_b := y_b.2.2.2.2.2
  show ST G mi_Ss_start 0 [(0, .ref 291), (1, .ref 62), (2, .int (nI usr)), (3, .ref b)] [] v 0 0 Q
  refine ST.lift (fun _ _ k => T_iconst (v := nI 0) d_Ss_start_0 (by decide) k) ?_
  refine ST.lift (fun _ _ k => T_istore (L' := [(4, .int (nI 0)), (0, .ref 291), (1, .ref 62), (2, .int (nI usr)), (3, .ref b)]) d_Ss_start_1 (by decide) rfl k) ?_
  refine ST.lift (fun _ _ k => T_iload d_Ss_start_3 rfl k) ?_
  refine ST.lift (fun _ _ k => T_iconst (v := nI 3) d_Ss_start_5 (by decide) k) ?_
  refine S_icmp_geN d_Ss_start_6 rfl (by omega) (by omega) (fun c => by first | exact absurd c (by omega) | exact c.elim | exact absurd c (by decide) | exact absurd (by assumption) c | exact absurd c (by assumption)) (fun _ => ?_)
  refine ST.lift (fun _ _ k => T_aload_n (v := .ref 291) d_Ss_start_9 rfl (Or.inr ⟨_, rfl⟩) k) ?_
  refine S_getfield d_Ss_start_10 fg_Ss_11 (w291 _) rfl ?_
  refine ST.lift (fun _ _ k => T_iload d_Ss_start_13 rfl k) ?_
  refine S_aaload (C0 := "PasswordGate$Bytes") d_Ss_start_15 (by decide) (w292 _) rfl (vp_in_nI (by omega) (by omega)) ?_
  refine S_virtual (as := []) (rest := []) (b := 305) d_Ss_start_16 rfl (jw_By_clear.jo (by decide)) lm_Ss_54 ji_By_clear js_By_clear (w305 _) rfl rfl rfl (Nat.le_of_ble_eq_true rfl) (by decide) (by decide) (c_By_clear G v 305 306 96 38 ⟨w305, w306, by decide, u305_1, by decide, by decide⟩ hv) (fun r v' hq => ?_)
  rw [hq.1, hq.2]
  clear hq r v'
  show ST G mi_Ss_start 19 [(4, .int (nI 0)), (0, .ref 291), (1, .ref 62), (2, .int (nI usr)), (3, .ref b)] [] (va_up v 38 (nI 0)) 0 0 _
  have hv2 := hv.up (j := 38) (c := 96) (k := 0) (by decide) (by omega)
  have hm3 := hm.go (mdf.up (v := v) (j := 38) (x := (nI 0))) (by intro i hi; simp only [List.mem_cons, List.not_mem_nil, or_false] at hi ⊢ <;> omega)
  have e_u1 : (va_up v 38 (nI 0)) 38 = (nI 0) := by simp [va_up]
  generalize va_up v 38 (nI 0) = u1 at hv2 hm3 e_u1 ⊢
  refine ST.lift (fun _ _ k => T_aload_n (v := .ref 291) d_Ss_start_19 rfl (Or.inr ⟨_, rfl⟩) k) ?_
  refine S_getfield d_Ss_start_20 fg_Ss_17 (w291 _) rfl ?_
  refine ST.lift (fun _ _ k => T_iload d_Ss_start_23 rfl k) ?_
  refine S_aaload (C0 := "PasswordGate$Bytes") d_Ss_start_25 (by decide) (w293 _) rfl (vp_in_nI (by omega) (by omega)) ?_
  refine S_virtual (as := []) (rest := []) (b := 311) d_Ss_start_26 rfl (jw_By_clear.jo (by decide)) lm_Ss_54 ji_By_clear js_By_clear (w311 _) rfl rfl rfl (Nat.le_of_ble_eq_true rfl) (by decide) (by decide) (c_By_clear G u1 311 312 64 41 ⟨w311, w312, by decide, u311_1, by decide, by decide⟩ hv2) (fun r v' hq => ?_)
  rw [hq.1, hq.2]
  clear hq r v'
  show ST G mi_Ss_start 29 [(4, .int (nI 0)), (0, .ref 291), (1, .ref 62), (2, .int (nI usr)), (3, .ref b)] [] (va_up u1 41 (nI 0)) 0 0 _
  have hv5 := hv2.up (j := 41) (c := 64) (k := 0) (by decide) (by omega)
  have hm6 := hm3.go (mdf.up (v := u1) (j := 41) (x := (nI 0))) (by intro i hi; simp only [List.mem_cons, List.not_mem_nil, or_false] at hi ⊢ <;> omega)
  have e_u4 : (va_up u1 41 (nI 0)) 41 = (nI 0) := by simp [va_up]
  have e7 : (va_up u1 41 (nI 0)) 38 = nI 0 := by simp only [va_up]; exact e_u1
  generalize va_up u1 41 (nI 0) = u4 at hv5 hm6 e_u4 e7 ⊢
  refine ST.lift (fun _ _ k => T_aload_n (v := .ref 291) d_Ss_start_29 rfl (Or.inr ⟨_, rfl⟩) k) ?_
  refine S_getfield d_Ss_start_30 fg_Ss_27 (w291 _) rfl ?_
  refine ST.lift (fun _ _ k => T_iload d_Ss_start_33 rfl k) ?_
  refine ST.lift (fun _ _ k => T_iconst (v := nI 0) d_Ss_start_35 (by decide) k) ?_
  refine S_zastore d_Ss_start_36 (by decide) w296 (vp_in_nI (by omega) (by omega)) ?_
  refine S_iincN (a := 0) (b := 1) (L' := [(4, .int (nI 1)), (0, .ref 291), (1, .ref 62), (2, .int (nI usr)), (3, .ref b)]) d_Ss_start_37 (by decide) rfl rfl rfl ?_
  refine ST.lift (fun _ _ k => T_goto (tgt := 3) d_Ss_start_40 rfl k) ?_
  refine ST.lift (fun _ _ k => T_iload d_Ss_start_3 rfl k) ?_
  refine ST.lift (fun _ _ k => T_iconst (v := nI 3) d_Ss_start_5 (by decide) k) ?_
  refine S_icmp_geN d_Ss_start_6 rfl (by omega) (by omega) (fun c => by first | exact absurd c (by omega) | exact c.elim | exact absurd c (by decide) | exact absurd (by assumption) c | exact absurd c (by assumption)) (fun _ => ?_)
  refine ST.lift (fun _ _ k => T_aload_n (v := .ref 291) d_Ss_start_9 rfl (Or.inr ⟨_, rfl⟩) k) ?_
  refine S_getfield d_Ss_start_10 fg_Ss_11 (w291 _) rfl ?_
  refine ST.lift (fun _ _ k => T_iload d_Ss_start_13 rfl k) ?_
  refine S_aaload (C0 := "PasswordGate$Bytes") d_Ss_start_15 (by decide) (w292 _) rfl (vp_in_nI (by omega) (by omega)) ?_
  refine S_virtual (as := []) (rest := []) (b := 307) d_Ss_start_16 rfl (jw_By_clear.jo (by decide)) lm_Ss_54 ji_By_clear js_By_clear (w307 _) rfl rfl rfl (Nat.le_of_ble_eq_true rfl) (by decide) (by decide) (c_By_clear G u4 307 308 320 39 ⟨w307, w308, by decide, u307_1, by decide, by decide⟩ hv5) (fun r v' hq => ?_)
  rw [hq.1, hq.2]
  clear hq r v'
  show ST G mi_Ss_start 19 [(4, .int (nI 1)), (0, .ref 291), (1, .ref 62), (2, .int (nI usr)), (3, .ref b)] [] (va_up u4 39 (nI 0)) 0 0 _
  have hv9 := hv5.up (j := 39) (c := 320) (k := 0) (by decide) (by omega)
  have hm10 := hm6.go (mdf.up (v := u4) (j := 39) (x := (nI 0))) (by intro i hi; simp only [List.mem_cons, List.not_mem_nil, or_false] at hi ⊢ <;> omega)
  have e_u8 : (va_up u4 39 (nI 0)) 39 = (nI 0) := by simp [va_up]
  have e11 : (va_up u4 39 (nI 0)) 38 = nI 0 := by simp only [va_up]; exact e7
  have e12 : (va_up u4 39 (nI 0)) 41 = nI 0 := by simp only [va_up]; exact e_u4
  generalize va_up u4 39 (nI 0) = u8 at hv9 hm10 e_u8 e11 e12 ⊢
  refine ST.lift (fun _ _ k => T_aload_n (v := .ref 291) d_Ss_start_19 rfl (Or.inr ⟨_, rfl⟩) k) ?_
  refine S_getfield d_Ss_start_20 fg_Ss_17 (w291 _) rfl ?_
  refine ST.lift (fun _ _ k => T_iload d_Ss_start_23 rfl k) ?_
  refine S_aaload (C0 := "PasswordGate$Bytes") d_Ss_start_25 (by decide) (w293 _) rfl (vp_in_nI (by omega) (by omega)) ?_
  refine S_virtual (as := []) (rest := []) (b := 313) d_Ss_start_26 rfl (jw_By_clear.jo (by decide)) lm_Ss_54 ji_By_clear js_By_clear (w313 _) rfl rfl rfl (Nat.le_of_ble_eq_true rfl) (by decide) (by decide) (c_By_clear G u8 313 314 64 42 ⟨w313, w314, by decide, u313_1, by decide, by decide⟩ hv9) (fun r v' hq => ?_)
  rw [hq.1, hq.2]
  clear hq r v'
  show ST G mi_Ss_start 29 [(4, .int (nI 1)), (0, .ref 291), (1, .ref 62), (2, .int (nI usr)), (3, .ref b)] [] (va_up u8 42 (nI 0)) 0 0 _
  have hv14 := hv9.up (j := 42) (c := 64) (k := 0) (by decide) (by omega)
  have hm15 := hm10.go (mdf.up (v := u8) (j := 42) (x := (nI 0))) (by intro i hi; simp only [List.mem_cons, List.not_mem_nil, or_false] at hi ⊢ <;> omega)
  have e_u13 : (va_up u8 42 (nI 0)) 42 = (nI 0) := by simp [va_up]
  have e16 : (va_up u8 42 (nI 0)) 38 = nI 0 := by simp only [va_up]; exact e11
  have e17 : (va_up u8 42 (nI 0)) 41 = nI 0 := by simp only [va_up]; exact e12
  have e18 : (va_up u8 42 (nI 0)) 39 = nI 0 := by simp only [va_up]; exact e_u8
  generalize va_up u8 42 (nI 0) = u13 at hv14 hm15 e_u13 e16 e17 e18 ⊢
  refine ST.lift (fun _ _ k => T_aload_n (v := .ref 291) d_Ss_start_29 rfl (Or.inr ⟨_, rfl⟩) k) ?_
  refine S_getfield d_Ss_start_30 fg_Ss_27 (w291 _) rfl ?_
  refine ST.lift (fun _ _ k => T_iload d_Ss_start_33 rfl k) ?_
  refine ST.lift (fun _ _ k => T_iconst (v := nI 0) d_Ss_start_35 (by decide) k) ?_
  refine S_zastore d_Ss_start_36 (by decide) w296 (vp_in_nI (by omega) (by omega)) ?_
  refine S_iincN (a := 1) (b := 1) (L' := [(4, .int (nI 2)), (0, .ref 291), (1, .ref 62), (2, .int (nI usr)), (3, .ref b)]) d_Ss_start_37 (by decide) rfl rfl rfl ?_
  refine ST.lift (fun _ _ k => T_goto (tgt := 3) d_Ss_start_40 rfl k) ?_
  refine ST.lift (fun _ _ k => T_iload d_Ss_start_3 rfl k) ?_
  refine ST.lift (fun _ _ k => T_iconst (v := nI 3) d_Ss_start_5 (by decide) k) ?_
  refine S_icmp_geN d_Ss_start_6 rfl (by omega) (by omega) (fun c => by first | exact absurd c (by omega) | exact c.elim | exact absurd c (by decide) | exact absurd (by assumption) c | exact absurd c (by assumption)) (fun _ => ?_)
  refine ST.lift (fun _ _ k => T_aload_n (v := .ref 291) d_Ss_start_9 rfl (Or.inr ⟨_, rfl⟩) k) ?_
  refine S_getfield d_Ss_start_10 fg_Ss_11 (w291 _) rfl ?_
  refine ST.lift (fun _ _ k => T_iload d_Ss_start_13 rfl k) ?_
  refine S_aaload (C0 := "PasswordGate$Bytes") d_Ss_start_15 (by decide) (w292 _) rfl (vp_in_nI (by omega) (by omega)) ?_
  refine S_virtual (as := []) (rest := []) (b := 309) d_Ss_start_16 rfl (jw_By_clear.jo (by decide)) lm_Ss_54 ji_By_clear js_By_clear (w309 _) rfl rfl rfl (Nat.le_of_ble_eq_true rfl) (by decide) (by decide) (c_By_clear G u13 309 310 64 40 ⟨w309, w310, by decide, u309_1, by decide, by decide⟩ hv14) (fun r v' hq => ?_)
  rw [hq.1, hq.2]
  clear hq r v'
  show ST G mi_Ss_start 19 [(4, .int (nI 2)), (0, .ref 291), (1, .ref 62), (2, .int (nI usr)), (3, .ref b)] [] (va_up u13 40 (nI 0)) 0 0 _
  have hv20 := hv14.up (j := 40) (c := 64) (k := 0) (by decide) (by omega)
  have hm21 := hm15.go (mdf.up (v := u13) (j := 40) (x := (nI 0))) (by intro i hi; simp only [List.mem_cons, List.not_mem_nil, or_false] at hi ⊢ <;> omega)
  have e_u19 : (va_up u13 40 (nI 0)) 40 = (nI 0) := by simp [va_up]
  have e22 : (va_up u13 40 (nI 0)) 38 = nI 0 := by simp only [va_up]; exact e16
  have e23 : (va_up u13 40 (nI 0)) 41 = nI 0 := by simp only [va_up]; exact e17
  have e24 : (va_up u13 40 (nI 0)) 39 = nI 0 := by simp only [va_up]; exact e18
  have e25 : (va_up u13 40 (nI 0)) 42 = nI 0 := by simp only [va_up]; exact e_u13
  generalize va_up u13 40 (nI 0) = u19 at hv20 hm21 e_u19 e22 e23 e24 e25 ⊢
  refine ST.lift (fun _ _ k => T_aload_n (v := .ref 291) d_Ss_start_19 rfl (Or.inr ⟨_, rfl⟩) k) ?_
  refine S_getfield d_Ss_start_20 fg_Ss_17 (w291 _) rfl ?_
  refine ST.lift (fun _ _ k => T_iload d_Ss_start_23 rfl k) ?_
  refine S_aaload (C0 := "PasswordGate$Bytes") d_Ss_start_25 (by decide) (w293 _) rfl (vp_in_nI (by omega) (by omega)) ?_
  refine S_virtual (as := []) (rest := []) (b := 315) d_Ss_start_26 rfl (jw_By_clear.jo (by decide)) lm_Ss_54 ji_By_clear js_By_clear (w315 _) rfl rfl rfl (Nat.le_of_ble_eq_true rfl) (by decide) (by decide) (c_By_clear G u19 315 316 64 43 ⟨w315, w316, by decide, u315_1, by decide, by decide⟩ hv20) (fun r v' hq => ?_)
  rw [hq.1, hq.2]
  clear hq r v'
  show ST G mi_Ss_start 29 [(4, .int (nI 2)), (0, .ref 291), (1, .ref 62), (2, .int (nI usr)), (3, .ref b)] [] (va_up u19 43 (nI 0)) 0 0 _
  have hv27 := hv20.up (j := 43) (c := 64) (k := 0) (by decide) (by omega)
  have hm28 := hm21.go (mdf.up (v := u19) (j := 43) (x := (nI 0))) (by intro i hi; simp only [List.mem_cons, List.not_mem_nil, or_false] at hi ⊢ <;> omega)
  have e_u26 : (va_up u19 43 (nI 0)) 43 = (nI 0) := by simp [va_up]
  have e29 : (va_up u19 43 (nI 0)) 38 = nI 0 := by simp only [va_up]; exact e22
  have e30 : (va_up u19 43 (nI 0)) 41 = nI 0 := by simp only [va_up]; exact e23
  have e31 : (va_up u19 43 (nI 0)) 39 = nI 0 := by simp only [va_up]; exact e24
  have e32 : (va_up u19 43 (nI 0)) 42 = nI 0 := by simp only [va_up]; exact e25
  have e33 : (va_up u19 43 (nI 0)) 40 = nI 0 := by simp only [va_up]; exact e_u19
  generalize va_up u19 43 (nI 0) = u26 at hv27 hm28 e_u26 e29 e30 e31 e32 e33 ⊢
  refine ST.lift (fun _ _ k => T_aload_n (v := .ref 291) d_Ss_start_29 rfl (Or.inr ⟨_, rfl⟩) k) ?_
  refine S_getfield d_Ss_start_30 fg_Ss_27 (w291 _) rfl ?_
  refine ST.lift (fun _ _ k => T_iload d_Ss_start_33 rfl k) ?_
  refine ST.lift (fun _ _ k => T_iconst (v := nI 0) d_Ss_start_35 (by decide) k) ?_
  refine S_zastore d_Ss_start_36 (by decide) w296 (vp_in_nI (by omega) (by omega)) ?_
  refine S_iincN (a := 2) (b := 1) (L' := [(4, .int (nI 3)), (0, .ref 291), (1, .ref 62), (2, .int (nI usr)), (3, .ref b)]) d_Ss_start_37 (by decide) rfl rfl rfl ?_
  refine ST.lift (fun _ _ k => T_goto (tgt := 3) d_Ss_start_40 rfl k) ?_
  refine ST.lift (fun _ _ k => T_iload d_Ss_start_3 rfl k) ?_
  refine ST.lift (fun _ _ k => T_iconst (v := nI 3) d_Ss_start_5 (by decide) k) ?_
  refine S_icmp_geN d_Ss_start_6 rfl (by omega) (by omega) (fun _ => ?_) (fun c => by first | exact absurd c (by omega) | exact c.elim | exact absurd c (by decide) | exact absurd (by assumption) c | exact absurd c (by assumption))
  refine ST.lift (fun _ _ k => T_aload_n (v := .ref 291) d_Ss_start_43 rfl (Or.inr ⟨_, rfl⟩) k) ?_
  refine ST.lift (fun _ _ k => T_iload_n d_Ss_start_44 rfl k) ?_
  refine S_putfield (v' := va_up u26 34 (nI usr)) d_Ss_start_45 (fp_Ss_57 _) (w291 _) (Nat.le_of_ble_eq_true rfl) ⟨rfl, rfl⟩ (u291_4 _ _) ?_
  have hv35 := hv27.up (j := 34) (c := 7) (k := usr) (by decide) (by omega)
  have hm36 := hm28.go (mdf.up (v := u26) (j := 34) (x := (nI usr))) (by intro i hi; simp only [List.mem_cons, List.not_mem_nil, or_false] at hi ⊢ <;> omega)
  have e_u34 : (va_up u26 34 (nI usr)) 34 = (nI usr) := by simp [va_up]
  have e37 : (va_up u26 34 (nI usr)) 38 = nI 0 := by simp only [va_up]; exact e29
  have e38 : (va_up u26 34 (nI usr)) 41 = nI 0 := by simp only [va_up]; exact e30
  have e39 : (va_up u26 34 (nI usr)) 39 = nI 0 := by simp only [va_up]; exact e31
  have e40 : (va_up u26 34 (nI usr)) 42 = nI 0 := by simp only [va_up]; exact e32
  have e41 : (va_up u26 34 (nI usr)) 40 = nI 0 := by simp only [va_up]; exact e33
  have e42 : (va_up u26 34 (nI usr)) 43 = nI 0 := by simp only [va_up]; exact e_u26
  generalize va_up u26 34 (nI usr) = u34 at hv35 hm36 e_u34 e37 e38 e39 e40 e41 e42 ⊢
  refine ST.lift (fun _ _ k => T_aload_n (v := .ref 291) d_Ss_start_48 rfl (Or.inr ⟨_, rfl⟩) k) ?_
  refine S_getfield d_Ss_start_49 fg_Ss_34 (w291 _) rfl ?_
  refine S_virtual (as := []) (rest := []) (b := 297) d_Ss_start_52 rfl (jw_By_clear.jo (by decide)) lm_Ss_54 ji_By_clear js_By_clear (w297 _) rfl rfl rfl (Nat.le_of_ble_eq_true rfl) (by decide) (by decide) (c_By_clear G u34 297 298 200 35 ⟨w297, w298, by decide, u297_1, by decide, by decide⟩ hv35) (fun r v' hq => ?_)
  rw [hq.1, hq.2]
  clear hq r v'
  show ST G mi_Ss_start 55 [(4, .int (nI 3)), (0, .ref 291), (1, .ref 62), (2, .int (nI usr)), (3, .ref b)] [] (va_up u34 35 (nI 0)) 0 0 _
  have hv44 := hv35.up (j := 35) (c := 200) (k := 0) (by decide) (by omega)
  have hm45 := hm36.go (mdf.up (v := u34) (j := 35) (x := (nI 0))) (by intro i hi; simp only [List.mem_cons, List.not_mem_nil, or_false] at hi ⊢ <;> omega)
  have e_u43 : (va_up u34 35 (nI 0)) 35 = (nI 0) := by simp [va_up]
  have e46 : (va_up u34 35 (nI 0)) 38 = nI 0 := by simp only [va_up]; exact e37
  have e47 : (va_up u34 35 (nI 0)) 41 = nI 0 := by simp only [va_up]; exact e38
  have e48 : (va_up u34 35 (nI 0)) 39 = nI 0 := by simp only [va_up]; exact e39
  have e49 : (va_up u34 35 (nI 0)) 42 = nI 0 := by simp only [va_up]; exact e40
  have e50 : (va_up u34 35 (nI 0)) 40 = nI 0 := by simp only [va_up]; exact e41
  have e51 : (va_up u34 35 (nI 0)) 43 = nI 0 := by simp only [va_up]; exact e42
  have e52 : (va_up u34 35 (nI 0)) 34 = nI usr := by simp only [va_up]; exact e_u34
  generalize va_up u34 35 (nI 0) = u43 at hv44 hm45 e_u43 e46 e47 e48 e49 e50 e51 e52 ⊢
  refine ST.lift (fun _ _ k => T_aload_n (v := .ref 291) d_Ss_start_55 rfl (Or.inr ⟨_, rfl⟩) k) ?_
  refine S_getfield d_Ss_start_56 fg_Ss_34 (w291 _) rfl ?_
  refine ST.lift (fun _ _ k => T_aload_n (v := .ref b) d_Ss_start_59 rfl (Or.inr ⟨_, rfl⟩) k) ?_
  refine S_virtual (as := [.ref b]) (rest := []) (b := 297) d_Ss_start_60 rfl (jw_By_putAll.jo (by decide)) lm_Ss_60 ji_By_putAll js_By_putAll (w297 _) rfl rfl rfl (Nat.le_of_ble_eq_true rfl) (by decide) (by decide) (c_By_putAll G u43 297 298 200 35 ⟨w297, w298, by decide, u297_1, by decide, by decide⟩ b bd bc bj y_b hv44) (fun r u53 hq => ?_)
  obtain ⟨hr, hv54, hm55⟩ := hq
  rw [hr]
  clear hr r
  have hm56 := hm45.go hm55 (by intro i hi; simp only [List.mem_cons, List.not_mem_nil, or_false] at hi ⊢ <;> omega)
  have e57 : u53 38 = nI 0 := (hm55 38 (by decide)).trans e46
  have e58 : u53 41 = nI 0 := (hm55 41 (by decide)).trans e47
  have e59 : u53 39 = nI 0 := (hm55 39 (by decide)).trans e48
  have e60 : u53 42 = nI 0 := (hm55 42 (by decide)).trans e49
  have e61 : u53 40 = nI 0 := (hm55 40 (by decide)).trans e50
  have e62 : u53 43 = nI 0 := (hm55 43 (by decide)).trans e51
  have e63 : u53 34 = nI usr := (hm55 34 (by decide)).trans e52
  show ST G mi_Ss_start 63 [(4, .int (nI 3)), (0, .ref 291), (1, .ref 62), (2, .int (nI usr)), (3, .ref b)] [] u53 0 0 _
  refine ST.lift (fun _ _ k => T_aload_n (v := .ref 291) d_Ss_start_63 rfl (Or.inr ⟨_, rfl⟩) k) ?_
  refine S_getfield d_Ss_start_64 fg_Ss_38 (w291 _) rfl ?_
  refine S_virtual (as := []) (rest := []) (b := 299) d_Ss_start_67 rfl (jw_By_clear.jo (by decide)) lm_Ss_54 ji_By_clear js_By_clear (w299 _) rfl rfl rfl (Nat.le_of_ble_eq_true rfl) (by decide) (by decide) (c_By_clear G u53 299 300 96 36 ⟨w299, w300, by decide, u299_1, by decide, by decide⟩ hv54) (fun r v' hq => ?_)
  rw [hq.1, hq.2]
  clear hq r v'
  show ST G mi_Ss_start 70 [(4, .int (nI 3)), (0, .ref 291), (1, .ref 62), (2, .int (nI usr)), (3, .ref b)] [] (va_up u53 36 (nI 0)) 0 0 _
  have hv65 := hv54.up (j := 36) (c := 96) (k := 0) (by decide) (by omega)
  have hm66 := hm56.go (mdf.up (v := u53) (j := 36) (x := (nI 0))) (by intro i hi; simp only [List.mem_cons, List.not_mem_nil, or_false] at hi ⊢ <;> omega)
  have e_u64 : (va_up u53 36 (nI 0)) 36 = (nI 0) := by simp [va_up]
  have e67 : (va_up u53 36 (nI 0)) 38 = nI 0 := by simp only [va_up]; exact e57
  have e68 : (va_up u53 36 (nI 0)) 41 = nI 0 := by simp only [va_up]; exact e58
  have e69 : (va_up u53 36 (nI 0)) 39 = nI 0 := by simp only [va_up]; exact e59
  have e70 : (va_up u53 36 (nI 0)) 42 = nI 0 := by simp only [va_up]; exact e60
  have e71 : (va_up u53 36 (nI 0)) 40 = nI 0 := by simp only [va_up]; exact e61
  have e72 : (va_up u53 36 (nI 0)) 43 = nI 0 := by simp only [va_up]; exact e62
  have e73 : (va_up u53 36 (nI 0)) 34 = nI usr := by simp only [va_up]; exact e63
  generalize va_up u53 36 (nI 0) = u64 at hv65 hm66 e_u64 e67 e68 e69 e70 e71 e72 e73 ⊢
  refine ST.lift (fun _ _ k => T_aload_n (v := .ref 62) d_Ss_start_70 rfl (Or.inr ⟨_, rfl⟩) k) ?_
  refine ST.lift (fun _ _ k => T_aload_n (v := .ref 291) d_Ss_start_71 rfl (Or.inr ⟨_, rfl⟩) k) ?_
  refine S_getfield d_Ss_start_72 fg_Ss_44 (w291 _) rfl ?_
  refine S_virtual (as := [.ref 303]) (rest := []) (b := 62) d_Ss_start_75 rfl (jw_Kit_nextScalar.jo (by decide)) lm_Ss_64 ji_Kit_nextScalar js_Kit_nextScalar (w62 _) rfl rfl rfl (Nat.le_of_ble_eq_true rfl) (by decide) (by decide) (c_Kit_nextScalar G u64 303 32 (by decide) w303 (by omega) (by omega) hv65) (fun r u74 hq => ?_)
  obtain ⟨hr, hv75, hm76⟩ := hq
  rw [hr]
  clear hr r
  have hm77 := hm66.go hm76 (by intro i hi; simp only [List.mem_cons, List.not_mem_nil, or_false] at hi ⊢ <;> omega)
  have e78 : u74 38 = nI 0 := (hm76 38 (by decide)).trans e67
  have e79 : u74 41 = nI 0 := (hm76 41 (by decide)).trans e68
  have e80 : u74 39 = nI 0 := (hm76 39 (by decide)).trans e69
  have e81 : u74 42 = nI 0 := (hm76 42 (by decide)).trans e70
  have e82 : u74 40 = nI 0 := (hm76 40 (by decide)).trans e71
  have e83 : u74 43 = nI 0 := (hm76 43 (by decide)).trans e72
  have e84 : u74 34 = nI usr := (hm76 34 (by decide)).trans e73
  have e85 : u74 36 = nI 0 := (hm76 36 (by decide)).trans e_u64
  show ST G mi_Ss_start 78 [(4, .int (nI 3)), (0, .ref 291), (1, .ref 62), (2, .int (nI usr)), (3, .ref b)] [] u74 0 0 _
  refine ST.lift (fun _ _ k => T_aload_n (v := .ref 62) d_Ss_start_78 rfl (Or.inr ⟨_, rfl⟩) k) ?_
  refine ST.lift (fun _ _ k => T_aload_n (v := .ref 291) d_Ss_start_79 rfl (Or.inr ⟨_, rfl⟩) k) ?_
  refine S_getfield d_Ss_start_80 fg_Ss_34 (w291 _) rfl ?_
  refine ST.lift (fun _ _ k => T_aload_n (v := .ref 62) d_Ss_start_83 rfl (Or.inr ⟨_, rfl⟩) k) ?_
  refine S_getfield d_Ss_start_84 fg_Ss_70 (w62 _) rfl ?_
  refine S_virtual (as := [.ref 297, .ref 188]) (rest := []) (b := 62) d_Ss_start_87 rfl (jw_Kit_groupOf.jo (by decide)) lm_Ss_74 ji_Kit_groupOf js_Kit_groupOf (w62 _) rfl rfl rfl (Nat.le_of_ble_eq_true rfl) (by decide) (by decide) (c_Kit_groupOf G u74 297 298 200 35 ⟨w297, w298, by decide, u297_1, by decide, by decide⟩ 188 189 190 191 192 ⟨w188, w189, w190, w191, w192, by decide, by decide, by decide, by decide⟩ hv75) (fun r u86 hq => ?_)
  obtain ⟨hr, hv87, hm88⟩ := hq
  rw [hr]
  clear hr r
  have hm89 := hm77.go hm88 (by intro i hi; simp only [List.mem_cons, List.not_mem_nil, or_false] at hi ⊢ <;> omega)
  have e90 : u86 38 = nI 0 := (hm88 38 (by decide)).trans e78
  have e91 : u86 41 = nI 0 := (hm88 41 (by decide)).trans e79
  have e92 : u86 39 = nI 0 := (hm88 39 (by decide)).trans e80
  have e93 : u86 42 = nI 0 := (hm88 42 (by decide)).trans e81
  have e94 : u86 40 = nI 0 := (hm88 40 (by decide)).trans e82
  have e95 : u86 43 = nI 0 := (hm88 43 (by decide)).trans e83
  have e96 : u86 34 = nI usr := (hm88 34 (by decide)).trans e84
  have e97 : u86 36 = nI 0 := (hm88 36 (by decide)).trans e85
  show ST G mi_Ss_start 90 [(4, .int (nI 3)), (0, .ref 291), (1, .ref 62), (2, .int (nI usr)), (3, .ref b)] [] u86 0 0 _
  refine ST.lift (fun _ _ k => T_aload_n (v := .ref 62) d_Ss_start_90 rfl (Or.inr ⟨_, rfl⟩) k) ?_
  refine S_getfield d_Ss_start_91 fg_Ss_78 (w62 _) rfl ?_
  refine ST.lift (fun _ _ k => T_aload_n (v := .ref 62) d_Ss_start_94 rfl (Or.inr ⟨_, rfl⟩) k) ?_
  refine S_getfield d_Ss_start_95 fg_Ss_70 (w62 _) rfl ?_
  refine ST.lift (fun _ _ k => T_aload_n (v := .ref 291) d_Ss_start_98 rfl (Or.inr ⟨_, rfl⟩) k) ?_
  refine S_getfield d_Ss_start_99 fg_Ss_44 (w291 _) rfl ?_
  refine ST.lift (fun _ _ k => T_aload_n (v := .ref 62) d_Ss_start_102 rfl (Or.inr ⟨_, rfl⟩) k) ?_
  refine S_getfield d_Ss_start_103 fg_Ss_70 (w62 _) rfl ?_
  refine S_virtual (as := [.ref 188, .ref 303, .ref 188]) (rest := []) (b := 77) d_Ss_start_106 rfl (jw_Cu_multiply.jo (by decide)) lm_Ss_82 ji_Cu_multiply js_Cu_multiply (w77 _) rfl rfl rfl (Nat.le_of_ble_eq_true rfl) (by decide) (by decide) (c_Cu_multiply G u86 188 189 190 191 192 ⟨w188, w189, w190, w191, w192, by decide, by decide, by decide, by decide⟩ 303 32 (by decide) w303 (by omega) 188 189 190 191 192 ⟨w188, w189, w190, w191, w192, by decide, by decide, by decide, by decide⟩ (by omega)) (fun r v' hq => ?_)
  rw [hq.1, hq.2]
  clear hq r v'
  show ST G mi_Ss_start 109 [(4, .int (nI 3)), (0, .ref 291), (1, .ref 62), (2, .int (nI usr)), (3, .ref b)] [] u86 0 0 _
  refine ST.lift (fun _ _ k => T_aload_n (v := .ref 62) d_Ss_start_109 rfl (Or.inr ⟨_, rfl⟩) k) ?_
  refine S_getfield d_Ss_start_110 fg_Ss_78 (w62 _) rfl ?_
  refine ST.lift (fun _ _ k => T_aload_n (v := .ref 62) d_Ss_start_113 rfl (Or.inr ⟨_, rfl⟩) k) ?_
  refine S_getfield d_Ss_start_114 fg_Ss_70 (w62 _) rfl ?_
  refine ST.lift (fun _ _ k => T_aload_n (v := .ref 291) d_Ss_start_117 rfl (Or.inr ⟨_, rfl⟩) k) ?_
  refine S_getfield d_Ss_start_118 fg_Ss_38 (w291 _) rfl ?_
  refine S_virtual (as := [.ref 188, .ref 299]) (rest := []) (b := 77) d_Ss_start_121 rfl (jw_Cu_code.jo (by decide)) lm_Ss_88 ji_Cu_code js_Cu_code (w77 _) rfl rfl rfl (Nat.le_of_ble_eq_true rfl) (by decide) (by decide) (c_Cu_code G u86 188 189 190 191 192 ⟨w188, w189, w190, w191, w192, by decide, by decide, by decide, by decide⟩ 299 300 96 36 ⟨w299, w300, by decide, u299_1, by decide, by decide⟩ hv87) (fun r u98 hq => ?_)
  obtain ⟨hr, hv99, hm100⟩ := hq
  rw [hr]
  clear hr r
  have hm101 := hm89.go hm100 (by intro i hi; simp only [List.mem_cons, List.not_mem_nil, or_false] at hi ⊢ <;> omega)
  have e102 : u98 38 = nI 0 := (hm100 38 (by decide)).trans e90
  have e103 : u98 41 = nI 0 := (hm100 41 (by decide)).trans e91
  have e104 : u98 39 = nI 0 := (hm100 39 (by decide)).trans e92
  have e105 : u98 42 = nI 0 := (hm100 42 (by decide)).trans e93
  have e106 : u98 40 = nI 0 := (hm100 40 (by decide)).trans e94
  have e107 : u98 43 = nI 0 := (hm100 43 (by decide)).trans e95
  have e108 : u98 34 = nI usr := (hm100 34 (by decide)).trans e96
  show ST G mi_Ss_start 124 [(4, .int (nI 3)), (0, .ref 291), (1, .ref 62), (2, .int (nI usr)), (3, .ref b)] [] u98 0 0 _
  refine ST.lift (fun _ _ k => T_aload_n (v := .ref 62) d_Ss_start_124 rfl (Or.inr ⟨_, rfl⟩) k) ?_
  refine ST.lift (fun _ _ k => T_aload_n (v := .ref 291) d_Ss_start_125 rfl (Or.inr ⟨_, rfl⟩) k) ?_
  refine S_getfield d_Ss_start_126 fg_Ss_38 (w291 _) rfl ?_
  refine S_virtual (as := [.ref 299]) (rest := []) (b := 62) d_Ss_start_129 rfl (jw_Kit_putNonce.jo (by decide)) lm_Ss_92 ji_Kit_putNonce js_Kit_putNonce (w62 _) rfl rfl rfl (Nat.le_of_ble_eq_true rfl) (by decide) (by decide) (c_Kit_putNonce G u98 299 300 96 36 ⟨w299, w300, by decide, u299_1, by decide, by decide⟩ hv99) (fun r u109 hq => ?_)
  obtain ⟨hr, hv110, hm111⟩ := hq
  rw [hr]
  clear hr r
  have hm112 := hm101.go hm111 (by intro i hi; simp only [List.mem_cons, List.not_mem_nil, or_false] at hi ⊢ <;> omega)
  have e113 : u109 38 = nI 0 := (hm111 38 (by decide)).trans e102
  have e114 : u109 41 = nI 0 := (hm111 41 (by decide)).trans e103
  have e115 : u109 39 = nI 0 := (hm111 39 (by decide)).trans e104
  have e116 : u109 42 = nI 0 := (hm111 42 (by decide)).trans e105
  have e117 : u109 40 = nI 0 := (hm111 40 (by decide)).trans e106
  have e118 : u109 43 = nI 0 := (hm111 43 (by decide)).trans e107
  have e119 : u109 34 = nI usr := (hm111 34 (by decide)).trans e108
  show ST G mi_Ss_start 132 [(4, .int (nI 3)), (0, .ref 291), (1, .ref 62), (2, .int (nI usr)), (3, .ref b)] [] u109 0 0 _
  refine ST.lift (fun _ _ k => T_aload_n (v := .ref 62) d_Ss_start_132 rfl (Or.inr ⟨_, rfl⟩) k) ?_
  refine ST.lift (fun _ _ k => T_aload_n (v := .ref 291) d_Ss_start_133 rfl (Or.inr ⟨_, rfl⟩) k) ?_
  refine S_getfield d_Ss_start_134 fg_Ss_47 (w291 _) rfl ?_
  refine S_virtual (as := [.ref 304]) (rest := []) (b := 62) d_Ss_start_137 rfl (jw_Kit_nextScalar.jo (by decide)) lm_Ss_64 ji_Kit_nextScalar js_Kit_nextScalar (w62 _) rfl rfl rfl (Nat.le_of_ble_eq_true rfl) (by decide) (by decide) (c_Kit_nextScalar G u109 304 32 (by decide) w304 (by omega) (by omega) hv110) (fun r u120 hq => ?_)
  obtain ⟨hr, hv121, hm122⟩ := hq
  rw [hr]
  clear hr r
  have hm123 := hm112.go hm122 (by intro i hi; simp only [List.mem_cons, List.not_mem_nil, or_false] at hi ⊢ <;> omega)
  have e124 : u120 38 = nI 0 := (hm122 38 (by decide)).trans e113
  have e125 : u120 41 = nI 0 := (hm122 41 (by decide)).trans e114
  have e126 : u120 39 = nI 0 := (hm122 39 (by decide)).trans e115
  have e127 : u120 42 = nI 0 := (hm122 42 (by decide)).trans e116
  have e128 : u120 40 = nI 0 := (hm122 40 (by decide)).trans e117
  have e129 : u120 43 = nI 0 := (hm122 43 (by decide)).trans e118
  have e130 : u120 34 = nI usr := (hm122 34 (by decide)).trans e119
  show ST G mi_Ss_start 140 [(4, .int (nI 3)), (0, .ref 291), (1, .ref 62), (2, .int (nI usr)), (3, .ref b)] [] u120 0 0 _
  refine ST.lift (fun _ _ k => T_aload_n (v := .ref 62) d_Ss_start_140 rfl (Or.inr ⟨_, rfl⟩) k) ?_
  refine ST.lift (fun _ _ k => T_aload_n (v := .ref 291) d_Ss_start_141 rfl (Or.inr ⟨_, rfl⟩) k) ?_
  refine S_getfield d_Ss_start_142 fg_Ss_47 (w291 _) rfl ?_
  refine ST.lift (fun _ _ k => T_aload_n (v := .ref 291) d_Ss_start_145 rfl (Or.inr ⟨_, rfl⟩) k) ?_
  refine S_getfield d_Ss_start_146 fg_Ss_38 (w291 _) rfl ?_
  refine S_virtual (as := [.ref 304, .ref 299]) (rest := []) (b := 62) d_Ss_start_149 rfl (jw_Kit_putPublic.jo (by decide)) lm_Ss_95 ji_Kit_putPublic js_Kit_putPublic (w62 _) rfl rfl rfl (Nat.le_of_ble_eq_true rfl) (by decide) (by decide) (c_Kit_putPublic G u120 304 32 (by decide) w304 (by omega) 299 300 96 36 ⟨w299, w300, by decide, u299_1, by decide, by decide⟩ (by omega) hv121) (fun r u131 hq => ?_)
  obtain ⟨hr, hv132, hm133⟩ := hq
  rw [hr]
  clear hr r
  have hm134 := hm123.go hm133 (by intro i hi; simp only [List.mem_cons, List.not_mem_nil, or_false] at hi ⊢ <;> omega)
  have e135 : u131 38 = nI 0 := (hm133 38 (by decide)).trans e124
  have e136 : u131 41 = nI 0 := (hm133 41 (by decide)).trans e125
  have e137 : u131 39 = nI 0 := (hm133 39 (by decide)).trans e126
  have e138 : u131 42 = nI 0 := (hm133 42 (by decide)).trans e127
  have e139 : u131 40 = nI 0 := (hm133 40 (by decide)).trans e128
  have e140 : u131 43 = nI 0 := (hm133 43 (by decide)).trans e129
  have e141 : u131 34 = nI usr := (hm133 34 (by decide)).trans e130
  show ST G mi_Ss_start 152 [(4, .int (nI 3)), (0, .ref 291), (1, .ref 62), (2, .int (nI usr)), (3, .ref b)] [] u131 0 0 _
  refine ST.lift (fun _ _ k => T_aload_n (v := .ref 291) d_Ss_start_152 rfl (Or.inr ⟨_, rfl⟩) k) ?_
  refine S_getfield d_Ss_start_153 fg_Ss_11 (w291 _) rfl ?_
  refine ST.lift (fun _ _ k => T_iconst (v := nI 0) d_Ss_start_156 (by decide) k) ?_
  refine S_aaload (C0 := "PasswordGate$Bytes") d_Ss_start_157 (by decide) (w292 _) rfl (vp_in_nI (by omega) (by omega)) ?_
  refine ST.lift (fun _ _ k => T_aload_n (v := .ref 291) d_Ss_start_158 rfl (Or.inr ⟨_, rfl⟩) k) ?_
  refine S_getfield d_Ss_start_159 fg_Ss_38 (w291 _) rfl ?_
  refine S_virtual (as := [.ref 299]) (rest := []) (b := 305) d_Ss_start_162 rfl (jw_By_putAll.jo (by decide)) lm_Ss_60 ji_By_putAll js_By_putAll (w305 _) rfl rfl rfl (Nat.le_of_ble_eq_true rfl) (by decide) (by decide) (c_By_putAll G u131 305 306 96 38 ⟨w305, w306, by decide, u305_1, by decide, by decide⟩ 299 300 96 36 ⟨w299, w300, by decide, u299_1, by decide, by decide⟩ hv132) (fun r u142 hq => ?_)
  obtain ⟨hr, hv143, hm144⟩ := hq
  rw [hr]
  clear hr r
  have hm145 := hm134.go hm144 (by intro i hi; simp only [List.mem_cons, List.not_mem_nil, or_false] at hi ⊢ <;> omega)
  have e146 : u142 41 = nI 0 := (hm144 41 (by decide)).trans e136
  have e147 : u142 39 = nI 0 := (hm144 39 (by decide)).trans e137
  have e148 : u142 42 = nI 0 := (hm144 42 (by decide)).trans e138
  have e149 : u142 40 = nI 0 := (hm144 40 (by decide)).trans e139
  have e150 : u142 43 = nI 0 := (hm144 43 (by decide)).trans e140
  have e151 : u142 34 = nI usr := (hm144 34 (by decide)).trans e141
  show ST G mi_Ss_start 165 [(4, .int (nI 3)), (0, .ref 291), (1, .ref 62), (2, .int (nI usr)), (3, .ref b)] [] u142 0 0 _
  exact S_vret d_Ss_start_165 rfl (by decide) (by decide) (hQ _ hv143 hm145)
set_option maxRecDepth 100000 in
set_option maxHeartbeats 4000000 in
theorem c_Ss_confirmServer_291 (G : GX) (v : Nat → Int32) (hv : okv v) : CS G mi_Ss_confirmServer [.ref 291, .ref 62, .ref 217] v (fun r v' => ∃ z : Int32, r = some (.int z) ∧ okv v' ∧ mdf [6, 7, 5, 2, 3, 1, 4, 8, 9, 10, 38, 39, 40, 41, 42, 43, 35, 36, 37, 34] v v') := by
  refine CS.of (by decide) (Nat.le_of_ble_eq_true rfl) ?_
  generalize hQe : (fun (r : Option Value) (v' : Nat → Int32) => ∃ z : Int32, r = some (.int z) ∧ okv v' ∧ mdf [6, 7, 5, 2, 3, 1, 4, 8, 9, 10, 38, 39, 40, 41, 42, 43, 35, 36, 37, 34] v v') = Q
  have hQ : ∀ (z : Int32) (u : Nat → Int32), okv u → mdf [6, 7, 5, 2, 3, 1, 4, 8, 9, 10, 38, 39, 40, 41, 42, 43, 35, 36, 37, 34] v u → Q (some (.int z)) u := by rw [← hQe]; exact fun z u h1 h2 => ⟨z, rfl, h1, h2⟩
  clear hQe
  have hm : mdf [6, 7, 5, 2, 3, 1, 4, 8, 9, 10, 38, 39, 40, 41, 42, 43, 35, 36, 37, 34] v v := mdf.rf
  show ST G mi_Ss_confirmServer 0 [(0, .ref 291), (1, .ref 62), (2, .ref 217)] [] v 0 0 Q
  refine ST.lift (fun _ _ k => T_aload_n (v := .ref 291) d_Ss_confirmServer_0 rfl (Or.inr ⟨_, rfl⟩) k) ?_
  refine S_getfield d_Ss_confirmServer_1 fg_Ss_11 (w291 _) rfl ?_
  refine ST.lift (fun _ _ k => T_iconst (v := nI 1) d_Ss_confirmServer_4 (by decide) k) ?_
  refine S_aaload (C0 := "PasswordGate$Bytes") d_Ss_confirmServer_5 (by decide) (w292 _) rfl (vp_in_nI (by omega) (by omega)) ?_
  refine S_getfield d_Ss_confirmServer_6 fg_Ss_99 (w307 _) rfl ?_
  refine ST.lift (fun _ _ k => T_astore_n (L' := [(3, .ref 308), (0, .ref 291), (1, .ref 62), (2, .ref 217)]) d_Ss_confirmServer_9 (by decide) rfl (Or.inr ⟨_, rfl⟩) k) ?_
  refine ST.lift (fun _ _ k => T_aload_n (v := .ref 62) d_Ss_confirmServer_10 rfl (Or.inr ⟨_, rfl⟩) k) ?_
  refine S_getfield d_Ss_confirmServer_11 fg_Ss_78 (w62 _) rfl ?_
  refine ST.lift (fun _ _ k => T_aload_n (v := .ref 308) d_Ss_confirmServer_14 rfl (Or.inr ⟨_, rfl⟩) k) ?_
  refine ST.lift (fun _ _ k => T_iconst (v := nI 0) d_Ss_confirmServer_15 (by decide) k) ?_
  refine ST.lift (fun _ _ k => T_aload_n (v := .ref 62) d_Ss_confirmServer_16 rfl (Or.inr ⟨_, rfl⟩) k) ?_
  refine S_getfield d_Ss_confirmServer_17 fg_Ss_70 (w62 _) rfl ?_
  refine S_virtual (as := [.ref 308, .int (nI 0), .ref 188]) (rest := []) (b := 77) d_Ss_confirmServer_20 rfl (jw_Cu_decode.jo (by decide)) lm_Ss_102 ji_Cu_decode js_Cu_decode (w77 _) rfl rfl rfl (Nat.le_of_ble_eq_true rfl) (by decide) (by decide) (c_Cu_decode G v 308 320 (by decide) w308 (by omega) 0 (by omega) 188 189 190 191 192 ⟨w188, w189, w190, w191, w192, by decide, by decide, by decide, by decide⟩ hv) (fun r u1 hq => ?_)
  obtain ⟨z4, hz4, hr, hv2, hm3⟩ := hq
  rw [hr]
  clear hr r
  have hm5 := hm.go hm3 (by intro i hi; simp only [List.mem_cons, List.not_mem_nil, or_false] at hi ⊢ <;> omega)
  show ST G mi_Ss_confirmServer 23 [(3, .ref 308), (0, .ref 291), (1, .ref 62), (2, .ref 217)] [.int (nI z4)] u1 0 0 _
  refine S_if_neN d_Ss_confirmServer_23 rfl (by omega) (fun c6 => ?_) (fun c6 => ?_)
  · refine ST.lift (fun _ _ k => T_aload_n (v := .ref 62) d_Ss_confirmServer_28 rfl (Or.inr ⟨_, rfl⟩) k) ?_
    refine S_getfield d_Ss_confirmServer_29 fg_Ss_106 (w62 _) rfl ?_
    refine ST.lift (fun _ _ k => T_aload_n (v := .ref 291) d_Ss_confirmServer_32 rfl (Or.inr ⟨_, rfl⟩) k) ?_
    refine S_getfield d_Ss_confirmServer_33 fg_Ss_44 (w291 _) rfl ?_
    refine ST.lift (fun _ _ k => T_aload_n (v := .ref 62) d_Ss_confirmServer_36 rfl (Or.inr ⟨_, rfl⟩) k) ?_
    refine S_getfield d_Ss_confirmServer_37 fg_Ss_110 (w62 _) rfl ?_
    refine S_virtual (as := [.ref 303, .ref 198]) (rest := []) (b := 183) d_Ss_confirmServer_40 rfl (jw_Sc_invert.jo (by decide)) lm_Ss_113 ji_Sc_invert js_Sc_invert (w183 _) rfl rfl rfl (Nat.le_of_ble_eq_true rfl) (by decide) (by decide) (c_Sc_invert G u1 303 32 (by decide) w303 (by omega) 198 32 (by decide) w198 (by omega) (by omega)) (fun r v' hq => ?_)
    rw [hq.1, hq.2]
    clear hq r v'
    show ST G mi_Ss_confirmServer 43 [(3, .ref 308), (0, .ref 291), (1, .ref 62), (2, .ref 217)] [] u1 0 0 _
    refine ST.lift (fun _ _ k => T_aload_n (v := .ref 62) d_Ss_confirmServer_43 rfl (Or.inr ⟨_, rfl⟩) k) ?_
    refine S_getfield d_Ss_confirmServer_44 fg_Ss_78 (w62 _) rfl ?_
    refine ST.lift (fun _ _ k => T_aload_n (v := .ref 62) d_Ss_confirmServer_47 rfl (Or.inr ⟨_, rfl⟩) k) ?_
    refine S_getfield d_Ss_confirmServer_48 fg_Ss_70 (w62 _) rfl ?_
    refine ST.lift (fun _ _ k => T_aload_n (v := .ref 62) d_Ss_confirmServer_51 rfl (Or.inr ⟨_, rfl⟩) k) ?_
    refine S_getfield d_Ss_confirmServer_52 fg_Ss_110 (w62 _) rfl ?_
    refine ST.lift (fun _ _ k => T_aload_n (v := .ref 62) d_Ss_confirmServer_55 rfl (Or.inr ⟨_, rfl⟩) k) ?_
    refine S_getfield d_Ss_confirmServer_56 fg_Ss_70 (w62 _) rfl ?_
    refine S_virtual (as := [.ref 188, .ref 198, .ref 188]) (rest := []) (b := 77) d_Ss_confirmServer_59 rfl (jw_Cu_multiply.jo (by decide)) lm_Ss_82 ji_Cu_multiply js_Cu_multiply (w77 _) rfl rfl rfl (Nat.le_of_ble_eq_true rfl) (by decide) (by decide) (c_Cu_multiply G u1 188 189 190 191 192 ⟨w188, w189, w190, w191, w192, by decide, by decide, by decide, by decide⟩ 198 32 (by decide) w198 (by omega) 188 189 190 191 192 ⟨w188, w189, w190, w191, w192, by decide, by decide, by decide, by decide⟩ (by omega)) (fun r v' hq => ?_)
    rw [hq.1, hq.2]
    clear hq r v'
    show ST G mi_Ss_confirmServer 62 [(3, .ref 308), (0, .ref 291), (1, .ref 62), (2, .ref 217)] [] u1 0 0 _
    refine ST.lift (fun _ _ k => T_aload_n (v := .ref 62) d_Ss_confirmServer_62 rfl (Or.inr ⟨_, rfl⟩) k) ?_
    refine ST.lift (fun _ _ k => T_aload_n (v := .ref 291) d_Ss_confirmServer_63 rfl (Or.inr ⟨_, rfl⟩) k) ?_
    refine S_getfield d_Ss_confirmServer_64 fg_Ss_34 (w291 _) rfl ?_
    refine ST.lift (fun _ _ k => T_aload_n (v := .ref 62) d_Ss_confirmServer_67 rfl (Or.inr ⟨_, rfl⟩) k) ?_
    refine S_getfield d_Ss_confirmServer_68 fg_Ss_70 (w62 _) rfl ?_
    refine S_virtual (as := [.ref 297, .ref 188]) (rest := []) (b := 62) d_Ss_confirmServer_71 rfl (jw_Kit_randomize.jo (by decide)) lm_Ss_119 ji_Kit_randomize js_Kit_randomize (w62 _) rfl rfl rfl (Nat.le_of_ble_eq_true rfl) (by decide) (by decide) (c_Kit_randomize G u1 297 298 200 35 ⟨w297, w298, by decide, u297_1, by decide, by decide⟩ 188 189 190 191 192 ⟨w188, w189, w190, w191, w192, by decide, by decide, by decide, by decide⟩ hv2) (fun r u7 hq => ?_)
    obtain ⟨hr, hv8, hm9⟩ := hq
    rw [hr]
    clear hr r
    have hm10 := hm5.go hm9 (by intro i hi; simp only [List.mem_cons, List.not_mem_nil, or_false] at hi ⊢ <;> omega)
    show ST G mi_Ss_confirmServer 74 [(3, .ref 308), (0, .ref 291), (1, .ref 62), (2, .ref 217)] [] u7 0 0 _
    refine ST.lift (fun _ _ k => T_aload_n (v := .ref 291) d_Ss_confirmServer_74 rfl (Or.inr ⟨_, rfl⟩) k) ?_
    refine S_getfield d_Ss_confirmServer_75 fg_Ss_41 (w291 _) rfl ?_
    refine S_virtual (as := []) (rest := []) (b := 301) d_Ss_confirmServer_78 rfl (jw_By_clear.jo (by decide)) lm_Ss_54 ji_By_clear js_By_clear (w301 _) rfl rfl rfl (Nat.le_of_ble_eq_true rfl) (by decide) (by decide) (c_By_clear G u7 301 302 128 37 ⟨w301, w302, by decide, u301_1, by decide, by decide⟩ hv8) (fun r v' hq => ?_)
    rw [hq.1, hq.2]
    clear hq r v'
    show ST G mi_Ss_confirmServer 81 [(3, .ref 308), (0, .ref 291), (1, .ref 62), (2, .ref 217)] [] (va_up u7 37 (nI 0)) 0 0 _
    have hv12 := hv8.up (j := 37) (c := 128) (k := 0) (by decide) (by omega)
    have hm13 := hm10.go (mdf.up (v := u7) (j := 37) (x := (nI 0))) (by intro i hi; simp only [List.mem_cons, List.not_mem_nil, or_false] at hi ⊢ <;> omega)
    have e_u11 : (va_up u7 37 (nI 0)) 37 = (nI 0) := by simp [va_up]
    generalize va_up u7 37 (nI 0) = u11 at hv12 hm13 e_u11 ⊢
    refine ST.lift (fun _ _ k => T_aload_n (v := .ref 62) d_Ss_confirmServer_81 rfl (Or.inr ⟨_, rfl⟩) k) ?_
    refine ST.lift (fun _ _ k => T_aload_n (v := .ref 62) d_Ss_confirmServer_82 rfl (Or.inr ⟨_, rfl⟩) k) ?_
    refine S_getfield d_Ss_confirmServer_83 fg_Ss_122 (w62 _) rfl ?_
    refine ST.lift (fun _ _ k => T_aload_n (v := .ref 308) d_Ss_confirmServer_86 rfl (Or.inr ⟨_, rfl⟩) k) ?_
    refine ST.lift (fun _ _ k => T_aload_n (v := .ref 308) d_Ss_confirmServer_87 rfl (Or.inr ⟨_, rfl⟩) k) ?_
    refine ST.lift (fun _ _ k => T_bipush (v := nI 64) d_Ss_confirmServer_88 (by decide) k) ?_
    refine ST.lift (fun _ _ k => T_aload_n (v := .ref 291) d_Ss_confirmServer_90 rfl (Or.inr ⟨_, rfl⟩) k) ?_
    refine S_getfield d_Ss_confirmServer_91 fg_Ss_41 (w291 _) rfl ?_
    refine S_virtual (as := [.ref 201, .ref 308, .ref 308, .int (nI 64), .ref 301]) (rest := []) (b := 62) d_Ss_confirmServer_94 rfl (jw_Kit_putMasked.jo (by decide)) lm_Ss_125 ji_Kit_putMasked js_Kit_putMasked (w62 _) rfl rfl rfl (Nat.le_of_ble_eq_true rfl) (by decide) (by decide) (c_Kit_putMasked G u11 201 64 (by decide) w201 (by omega) 308 320 (by decide) w308 (by omega) 308 320 (by decide) w308 (by omega) 64 (by omega) 301 302 128 37 ⟨w301, w302, by decide, u301_1, by decide, by decide⟩ (by omega) hv12) (fun r u14 hq => ?_)
    obtain ⟨hr, hv15, hm16⟩ := hq
    rw [hr]
    clear hr r
    have hm17 := hm13.go hm16 (by intro i hi; simp only [List.mem_cons, List.not_mem_nil, or_false] at hi ⊢ <;> omega)
    show ST G mi_Ss_confirmServer 97 [(3, .ref 308), (0, .ref 291), (1, .ref 62), (2, .ref 217)] [] u14 0 0 _
    refine ST.lift (fun _ _ k => T_aload_n (v := .ref 62) d_Ss_confirmServer_97 rfl (Or.inr ⟨_, rfl⟩) k) ?_
    refine ST.lift (fun _ _ k => T_aload_n (v := .ref 291) d_Ss_confirmServer_98 rfl (Or.inr ⟨_, rfl⟩) k) ?_
    refine S_getfield d_Ss_confirmServer_99 fg_Ss_41 (w291 _) rfl ?_
    refine S_getfield d_Ss_confirmServer_102 fg_Ss_99 (w301 _) rfl ?_
    refine ST.lift (fun _ _ k => T_bipush (v := nI 32) d_Ss_confirmServer_105 (by decide) k) ?_
    refine ST.lift (fun _ _ k => T_aload_n (v := .ref 291) d_Ss_confirmServer_107 rfl (Or.inr ⟨_, rfl⟩) k) ?_
    refine S_getfield d_Ss_confirmServer_108 fg_Ss_41 (w291 _) rfl ?_
    refine S_getfield d_Ss_confirmServer_111 fg_Ss_99 (w301 _) rfl ?_
    refine S_virtual (as := [.ref 302, .int (nI 32), .ref 302]) (rest := []) (b := 62) d_Ss_confirmServer_114 rfl (jw_Kit_sealEnvelope.jo (by decide)) lm_Ss_129 ji_Kit_sealEnvelope js_Kit_sealEnvelope (w62 _) rfl rfl rfl (Nat.le_of_ble_eq_true rfl) (by decide) (by decide) (c_Kit_sealEnvelope G u14 302 128 (by decide) w302 (by omega) 32 (by omega) 302 128 (by decide) w302 (by omega) hv15) (fun r u18 hq => ?_)
    obtain ⟨hr, hv19, hm20⟩ := hq
    rw [hr]
    clear hr r
    have hm21 := hm17.go hm20 (by intro i hi; simp only [List.mem_cons, List.not_mem_nil, or_false] at hi ⊢ <;> omega)
    show ST G mi_Ss_confirmServer 117 [(3, .ref 308), (0, .ref 291), (1, .ref 62), (2, .ref 217)] [] u18 0 0 _
    refine ST.lift (fun _ _ k => T_aload_n (v := .ref 291) d_Ss_confirmServer_117 rfl (Or.inr ⟨_, rfl⟩) k) ?_
    refine S_getfield d_Ss_confirmServer_118 fg_Ss_41 (w291 _) rfl ?_
    refine ST.lift (fun _ _ k => T_bipush (v := nI 64) d_Ss_confirmServer_121 (by decide) k) ?_
    refine ST.lift (fun _ _ k => T_aload_n (v := .ref 62) d_Ss_confirmServer_123 rfl (Or.inr ⟨_, rfl⟩) k) ?_
    refine S_getfield d_Ss_confirmServer_124 fg_Ss_133 (w62 _) rfl ?_
    refine ST.lift (fun _ _ k => T_iconst (v := nI 0) d_Ss_confirmServer_127 (by decide) k) ?_
    refine S_virtual (as := [.int (nI 64), .ref 205, .int (nI 0)]) (rest := []) (b := 301) d_Ss_confirmServer_128 rfl (jw_By_endsLike.jo (by decide)) lm_Ss_136 ji_By_endsLike js_By_endsLike (w301 _) rfl rfl rfl (Nat.le_of_ble_eq_true rfl) (by decide) (by decide) (c_By_endsLike G u18 301 302 128 37 ⟨w301, w302, by decide, u301_1, by decide, by decide⟩ 64 (by omega) 205 64 (by decide) w205 (by omega) 0 (by omega) hv19) (fun r u22 hq => ?_)
    obtain ⟨z25, hz25, hr, hv23, hm24⟩ := hq
    rw [hr]
    clear hr r
    have hm26 := hm21.go hm24 (by intro i hi; simp only [List.mem_cons, List.not_mem_nil, or_false] at hi ⊢ <;> omega)
    show ST G mi_Ss_confirmServer 131 [(3, .ref 308), (0, .ref 291), (1, .ref 62), (2, .ref 217)] [.int (nI z25)] u22 0 0 _
    refine S_if_neN d_Ss_confirmServer_131 rfl (by omega) (fun c27 => ?_) (fun c27 => ?_)
    · refine ST.lift (fun _ _ k => T_aload_n (v := .ref 62) d_Ss_confirmServer_136 rfl (Or.inr ⟨_, rfl⟩) k) ?_
      refine S_getfield d_Ss_confirmServer_137 fg_Ss_78 (w62 _) rfl ?_
      refine ST.lift (fun _ _ k => T_aload_n (v := .ref 291) d_Ss_confirmServer_140 rfl (Or.inr ⟨_, rfl⟩) k) ?_
      refine S_getfield d_Ss_confirmServer_141 fg_Ss_41 (w291 _) rfl ?_
      refine S_getfield d_Ss_confirmServer_144 fg_Ss_99 (w301 _) rfl ?_
      refine ST.lift (fun _ _ k => T_iconst (v := nI 0) d_Ss_confirmServer_147 (by decide) k) ?_
      refine ST.lift (fun _ _ k => T_aload_n (v := .ref 62) d_Ss_confirmServer_148 rfl (Or.inr ⟨_, rfl⟩) k) ?_
      refine S_getfield d_Ss_confirmServer_149 fg_Ss_70 (w62 _) rfl ?_
      refine S_virtual (as := [.ref 302, .int (nI 0), .ref 188]) (rest := []) (b := 77) d_Ss_confirmServer_152 rfl (jw_Cu_decode.jo (by decide)) lm_Ss_102 ji_Cu_decode js_Cu_decode (w77 _) rfl rfl rfl (Nat.le_of_ble_eq_true rfl) (by decide) (by decide) (c_Cu_decode G u22 302 128 (by decide) w302 (by omega) 0 (by omega) 188 189 190 191 192 ⟨w188, w189, w190, w191, w192, by decide, by decide, by decide, by decide⟩ hv23) (fun r u28 hq => ?_)
      obtain ⟨z31, hz31, hr, hv29, hm30⟩ := hq
      rw [hr]
      clear hr r
      have hm32 := hm26.go hm30 (by intro i hi; simp only [List.mem_cons, List.not_mem_nil, or_false] at hi ⊢ <;> omega)
      show ST G mi_Ss_confirmServer 155 [(3, .ref 308), (0, .ref 291), (1, .ref 62), (2, .ref 217)] [.int (nI z31)] u28 0 0 _
      refine S_if_eqN d_Ss_confirmServer_155 rfl (by omega) (fun c33 => ?_) (fun c33 => ?_)
      · refine ST.lift (fun _ _ k => T_iconst (v := nI 1) d_Ss_confirmServer_176 (by decide) k) ?_
        exact S_ret d_Ss_confirmServer_177 rfl rfl (by decide) (by decide) (hQ _ _ hv29 hm32)
      · refine ST.lift (fun _ _ k => T_aload_n (v := .ref 62) d_Ss_confirmServer_158 rfl (Or.inr ⟨_, rfl⟩) k) ?_
        refine S_getfield d_Ss_confirmServer_159 fg_Ss_78 (w62 _) rfl ?_
        refine ST.lift (fun _ _ k => T_aload_n (v := .ref 308) d_Ss_confirmServer_162 rfl (Or.inr ⟨_, rfl⟩) k) ?_
        refine ST.lift (fun _ _ k => T_sipush (v := nI 224) d_Ss_confirmServer_163 (by decide) k) ?_
        refine ST.lift (fun _ _ k => T_aload_n (v := .ref 62) d_Ss_confirmServer_166 rfl (Or.inr ⟨_, rfl⟩) k) ?_
        refine S_getfield d_Ss_confirmServer_167 fg_Ss_140 (w62 _) rfl ?_
        refine S_virtual (as := [.ref 308, .int (nI 224), .ref 193]) (rest := []) (b := 77) d_Ss_confirmServer_170 rfl (jw_Cu_decode.jo (by decide)) lm_Ss_102 ji_Cu_decode js_Cu_decode (w77 _) rfl rfl rfl (Nat.le_of_ble_eq_true rfl) (by decide) (by decide) (c_Cu_decode G u28 308 320 (by decide) w308 (by omega) 224 (by omega) 193 194 195 196 197 ⟨w193, w194, w195, w196, w197, by decide, by decide, by decide, by decide⟩ hv29) (fun r u34 hq => ?_)
        obtain ⟨z37, hz37, hr, hv35, hm36⟩ := hq
        rw [hr]
        clear hr r
        have hm38 := hm32.go hm36 (by intro i hi; simp only [List.mem_cons, List.not_mem_nil, or_false] at hi ⊢ <;> omega)
        show ST G mi_Ss_confirmServer 173 [(3, .ref 308), (0, .ref 291), (1, .ref 62), (2, .ref 217)] [.int (nI z37)] u34 0 0 _
        refine S_if_neN d_Ss_confirmServer_173 rfl (by omega) (fun c39 => ?_) (fun c39 => ?_)
        · refine ST.lift (fun _ _ k => T_aload_n (v := .ref 217) d_Ss_confirmServer_178 rfl (Or.inr ⟨_, rfl⟩) k) ?_
          refine ST.lift (fun _ _ k => T_aload_n (v := .ref 62) d_Ss_confirmServer_179 rfl (Or.inr ⟨_, rfl⟩) k) ?_
          refine S_getfield d_Ss_confirmServer_180 fg_Ss_143 (w62 _) rfl ?_
          refine S_getfield d_Ss_confirmServer_183 fg_Ss_99 (w203 _) rfl ?_
          refine ST.lift (fun _ _ k => T_aload_n (v := .ref 291) d_Ss_confirmServer_186 rfl (Or.inr ⟨_, rfl⟩) k) ?_
          refine S_getfield d_Ss_confirmServer_187 fg_Ss_38 (w291 _) rfl ?_
          refine S_getfield d_Ss_confirmServer_190 fg_Ss_99 (w299 _) rfl ?_
          refine ST.lift (fun _ _ k => T_aload_n (v := .ref 291) d_Ss_confirmServer_193 rfl (Or.inr ⟨_, rfl⟩) k) ?_
          refine S_getfield d_Ss_confirmServer_194 fg_Ss_41 (w291 _) rfl ?_
          refine S_getfield d_Ss_confirmServer_197 fg_Ss_99 (w301 _) rfl ?_
          refine ST.lift (fun _ _ k => T_aload_n (v := .ref 308) d_Ss_confirmServer_200 rfl (Or.inr ⟨_, rfl⟩) k) ?_
          refine S_virtual (as := [.ref 204, .ref 300, .ref 302, .ref 308]) (rest := []) (b := 217) d_Ss_confirmServer_201 rfl (jw_Ex_open.jo (by decide)) lm_Ss_146 ji_Ex_open js_Ex_open (w217 _) rfl rfl rfl (Nat.le_of_ble_eq_true rfl) (by decide) (by decide) (c_Ex_open G u34 204 32 (by decide) w204 (by omega) 300 96 (by decide) w300 (by omega) 302 128 (by decide) w302 (by omega) 308 320 (by decide) w308 (by omega) hv35) (fun r u40 hq => ?_)
          obtain ⟨hr, hv41, hm42⟩ := hq
          rw [hr]
          clear hr r
          have hm43 := hm38.go hm42 (by intro i hi; simp only [List.mem_cons, List.not_mem_nil, or_false] at hi ⊢ <;> omega)
          show ST G mi_Ss_confirmServer 204 [(3, .ref 308), (0, .ref 291), (1, .ref 62), (2, .ref 217)] [] u40 0 0 _
          refine ST.lift (fun _ _ k => T_aload_n (v := .ref 217) d_Ss_confirmServer_204 rfl (Or.inr ⟨_, rfl⟩) k) ?_
          refine ST.lift (fun _ _ k => T_aload_n (v := .ref 62) d_Ss_confirmServer_205 rfl (Or.inr ⟨_, rfl⟩) k) ?_
          refine ST.lift (fun _ _ k => T_aload_n (v := .ref 291) d_Ss_confirmServer_206 rfl (Or.inr ⟨_, rfl⟩) k) ?_
          refine S_getfield d_Ss_confirmServer_207 fg_Ss_47 (w291 _) rfl ?_
          refine ST.lift (fun _ _ k => T_aload_n (v := .ref 62) d_Ss_confirmServer_210 rfl (Or.inr ⟨_, rfl⟩) k) ?_
          refine S_getfield d_Ss_confirmServer_211 fg_Ss_140 (w62 _) rfl ?_
          refine S_virtual (as := [.ref 62, .ref 304, .ref 193]) (rest := []) (b := 217) d_Ss_confirmServer_214 rfl (jw_Ex_join.jo (by decide)) lm_Ss_152 ji_Ex_join js_Ex_join (w217 _) rfl rfl rfl (Nat.le_of_ble_eq_true rfl) (by decide) (by decide) (c_Ex_join G u40 304 32 (by decide) w304 (by omega) 193 194 195 196 197 ⟨w193, w194, w195, w196, w197, by decide, by decide, by decide, by decide⟩ (by omega) hv41) (fun r u44 hq => ?_)
          obtain ⟨hr, hv45, hm46⟩ := hq
          rw [hr]
          clear hr r
          have hm47 := hm43.go hm46 (by intro i hi; simp only [List.mem_cons, List.not_mem_nil, or_false] at hi ⊢ <;> omega)
          show ST G mi_Ss_confirmServer 217 [(3, .ref 308), (0, .ref 291), (1, .ref 62), (2, .ref 217)] [] u44 0 0 _
          refine ST.lift (fun _ _ k => T_aload_n (v := .ref 217) d_Ss_confirmServer_217 rfl (Or.inr ⟨_, rfl⟩) k) ?_
          refine ST.lift (fun _ _ k => T_aload_n (v := .ref 62) d_Ss_confirmServer_218 rfl (Or.inr ⟨_, rfl⟩) k) ?_
          refine ST.lift (fun _ _ k => T_aload_n (v := .ref 291) d_Ss_confirmServer_219 rfl (Or.inr ⟨_, rfl⟩) k) ?_
          refine S_getfield d_Ss_confirmServer_220 fg_Ss_47 (w291 _) rfl ?_
          refine ST.lift (fun _ _ k => T_aload_n (v := .ref 62) d_Ss_confirmServer_223 rfl (Or.inr ⟨_, rfl⟩) k) ?_
          refine S_getfield d_Ss_confirmServer_224 fg_Ss_70 (w62 _) rfl ?_
          refine S_virtual (as := [.ref 62, .ref 304, .ref 188]) (rest := []) (b := 217) d_Ss_confirmServer_227 rfl (jw_Ex_join.jo (by decide)) lm_Ss_152 ji_Ex_join js_Ex_join (w217 _) rfl rfl rfl (Nat.le_of_ble_eq_true rfl) (by decide) (by decide) (c_Ex_join G u44 304 32 (by decide) w304 (by omega) 188 189 190 191 192 ⟨w188, w189, w190, w191, w192, by decide, by decide, by decide, by decide⟩ (by omega) hv45) (fun r u48 hq => ?_)
          obtain ⟨hr, hv49, hm50⟩ := hq
          rw [hr]
          clear hr r
          have hm51 := hm47.go hm50 (by intro i hi; simp only [List.mem_cons, List.not_mem_nil, or_false] at hi ⊢ <;> omega)
          show ST G mi_Ss_confirmServer 230 [(3, .ref 308), (0, .ref 291), (1, .ref 62), (2, .ref 217)] [] u48 0 0 _
          refine ST.lift (fun _ _ k => T_aload_n (v := .ref 217) d_Ss_confirmServer_230 rfl (Or.inr ⟨_, rfl⟩) k) ?_
          refine ST.lift (fun _ _ k => T_aload_n (v := .ref 62) d_Ss_confirmServer_231 rfl (Or.inr ⟨_, rfl⟩) k) ?_
          refine ST.lift (fun _ _ k => T_aload_n (v := .ref 62) d_Ss_confirmServer_232 rfl (Or.inr ⟨_, rfl⟩) k) ?_
          refine S_getfield d_Ss_confirmServer_233 fg_Ss_156 (w62 _) rfl ?_
          refine ST.lift (fun _ _ k => T_aload_n (v := .ref 62) d_Ss_confirmServer_236 rfl (Or.inr ⟨_, rfl⟩) k) ?_
          refine S_getfield d_Ss_confirmServer_237 fg_Ss_140 (w62 _) rfl ?_
          refine S_virtual (as := [.ref 62, .ref 202, .ref 193]) (rest := []) (b := 217) d_Ss_confirmServer_240 rfl (jw_Ex_join.jo (by decide)) lm_Ss_152 ji_Ex_join js_Ex_join (w217 _) rfl rfl rfl (Nat.le_of_ble_eq_true rfl) (by decide) (by decide) (c_Ex_join G u48 202 32 (by decide) w202 (by omega) 193 194 195 196 197 ⟨w193, w194, w195, w196, w197, by decide, by decide, by decide, by decide⟩ (by omega) hv49) (fun r u52 hq => ?_)
          obtain ⟨hr, hv53, hm54⟩ := hq
          rw [hr]
          clear hr r
          have hm55 := hm51.go hm54 (by intro i hi; simp only [List.mem_cons, List.not_mem_nil, or_false] at hi ⊢ <;> omega)
          show ST G mi_Ss_confirmServer 243 [(3, .ref 308), (0, .ref 291), (1, .ref 62), (2, .ref 217)] [] u52 0 0 _
          refine ST.lift (fun _ _ k => T_aload_n (v := .ref 217) d_Ss_confirmServer_243 rfl (Or.inr ⟨_, rfl⟩) k) ?_
          refine ST.lift (fun _ _ k => T_aload_n (v := .ref 62) d_Ss_confirmServer_244 rfl (Or.inr ⟨_, rfl⟩) k) ?_
          refine S_virtual (as := [.ref 62]) (rest := []) (b := 217) d_Ss_confirmServer_245 rfl (jw_Ex_settle.jo (by decide)) lm_Ss_159 ji_Ex_settle js_Ex_settle (w217 _) rfl rfl rfl (Nat.le_of_ble_eq_true rfl) (by decide) (by decide) (c_Ex_settle G u52 hv53) (fun r u56 hq => ?_)
          obtain ⟨hr, hv57, hm58⟩ := hq
          rw [hr]
          clear hr r
          have hm59 := hm55.go hm58 (by intro i hi; simp only [List.mem_cons, List.not_mem_nil, or_false] at hi ⊢ <;> omega)
          show ST G mi_Ss_confirmServer 248 [(3, .ref 308), (0, .ref 291), (1, .ref 62), (2, .ref 217)] [] u56 0 0 _
          refine ST.lift (fun _ _ k => T_aload_n (v := .ref 291) d_Ss_confirmServer_248 rfl (Or.inr ⟨_, rfl⟩) k) ?_
          refine S_getfield d_Ss_confirmServer_249 fg_Ss_11 (w291 _) rfl ?_
          refine ST.lift (fun _ _ k => T_iconst (v := nI 1) d_Ss_confirmServer_252 (by decide) k) ?_
          refine S_aaload (C0 := "PasswordGate$Bytes") d_Ss_confirmServer_253 (by decide) (w292 _) rfl (vp_in_nI (by omega) (by omega)) ?_
          refine ST.lift (fun _ _ k => T_sipush (v := nI 256) d_Ss_confirmServer_254 (by decide) k) ?_
          refine ST.lift (fun _ _ k => T_aload_n (v := .ref 217) d_Ss_confirmServer_257 rfl (Or.inr ⟨_, rfl⟩) k) ?_
          refine S_getfield d_Ss_confirmServer_258 fg_Ss_163 (w217 _) rfl ?_
          refine ST.lift (fun _ _ k => T_iconst (v := nI 0) d_Ss_confirmServer_261 (by decide) k) ?_
          refine S_virtual (as := [.int (nI 256), .ref 218, .int (nI 0)]) (rest := []) (b := 307) d_Ss_confirmServer_262 rfl (jw_By_endsLike.jo (by decide)) lm_Ss_136 ji_By_endsLike js_By_endsLike (w307 _) rfl rfl rfl (Nat.le_of_ble_eq_true rfl) (by decide) (by decide) (c_By_endsLike G u56 307 308 320 39 ⟨w307, w308, by decide, u307_1, by decide, by decide⟩ 256 (by omega) 218 64 (by decide) w218 (by omega) 0 (by omega) hv57) (fun r u60 hq => ?_)
          obtain ⟨z63, hz63, hr, hv61, hm62⟩ := hq
          rw [hr]
          clear hr r
          have hm64 := hm59.go hm62 (by intro i hi; simp only [List.mem_cons, List.not_mem_nil, or_false] at hi ⊢ <;> omega)
          show ST G mi_Ss_confirmServer 265 [(3, .ref 308), (0, .ref 291), (1, .ref 62), (2, .ref 217)] [.int (nI z63)] u60 0 0 _
          refine S_if_neN d_Ss_confirmServer_265 rfl (by omega) (fun c65 => ?_) (fun c65 => ?_)
          · refine ST.lift (fun _ _ k => T_aload_n (v := .ref 291) d_Ss_confirmServer_270 rfl (Or.inr ⟨_, rfl⟩) k) ?_
            refine S_getfield d_Ss_confirmServer_271 fg_Ss_11 (w291 _) rfl ?_
            refine ST.lift (fun _ _ k => T_iconst (v := nI 2) d_Ss_confirmServer_274 (by decide) k) ?_
            refine S_aaload (C0 := "PasswordGate$Bytes") d_Ss_confirmServer_275 (by decide) (w292 _) rfl (vp_in_nI (by omega) (by omega)) ?_
            refine ST.lift (fun _ _ k => T_aload_n (v := .ref 217) d_Ss_confirmServer_276 rfl (Or.inr ⟨_, rfl⟩) k) ?_
            refine S_getfield d_Ss_confirmServer_277 fg_Ss_166 (w217 _) rfl ?_
            refine ST.lift (fun _ _ k => T_iconst (v := nI 0) d_Ss_confirmServer_280 (by decide) k) ?_
            refine ST.lift (fun _ _ k => T_bipush (v := nI 64) d_Ss_confirmServer_281 (by decide) k) ?_
            refine S_virtual (as := [.ref 219, .int (nI 0), .int (nI 64)]) (rest := []) (b := 309) d_Ss_confirmServer_283 rfl (jw_By_put.jo (by decide)) lm_Ss_169 ji_By_put js_By_put (w309 _) rfl rfl rfl (Nat.le_of_ble_eq_true rfl) (by decide) (by decide) (c_By_put G u60 309 310 64 40 ⟨w309, w310, by decide, u309_1, by decide, by decide⟩ 219 64 (by decide) w219 (by omega) 0 (by omega) 64 (by omega) hv61) (fun r u66 hq => ?_)
            obtain ⟨hr, hv67, hm68⟩ := hq
            rw [hr]
            clear hr r
            have hm69 := hm64.go hm68 (by intro i hi; simp only [List.mem_cons, List.not_mem_nil, or_false] at hi ⊢ <;> omega)
            show ST G mi_Ss_confirmServer 286 [(3, .ref 308), (0, .ref 291), (1, .ref 62), (2, .ref 217)] [] u66 0 0 _
            refine ST.lift (fun _ _ k => T_aload_n (v := .ref 291) d_Ss_confirmServer_286 rfl (Or.inr ⟨_, rfl⟩) k) ?_
            refine S_getfield d_Ss_confirmServer_287 fg_Ss_17 (w291 _) rfl ?_
            refine ST.lift (fun _ _ k => T_iconst (v := nI 0) d_Ss_confirmServer_290 (by decide) k) ?_
            refine S_aaload (C0 := "PasswordGate$Bytes") d_Ss_confirmServer_291 (by decide) (w293 _) rfl (vp_in_nI (by omega) (by omega)) ?_
            refine ST.lift (fun _ _ k => T_aload_n (v := .ref 217) d_Ss_confirmServer_292 rfl (Or.inr ⟨_, rfl⟩) k) ?_
            refine S_getfield d_Ss_confirmServer_293 fg_Ss_173 (w217 _) rfl ?_
            refine ST.lift (fun _ _ k => T_iconst (v := nI 0) d_Ss_confirmServer_296 (by decide) k) ?_
            refine ST.lift (fun _ _ k => T_bipush (v := nI 64) d_Ss_confirmServer_297 (by decide) k) ?_
            refine S_virtual (as := [.ref 220, .int (nI 0), .int (nI 64)]) (rest := []) (b := 311) d_Ss_confirmServer_299 rfl (jw_By_put.jo (by decide)) lm_Ss_169 ji_By_put js_By_put (w311 _) rfl rfl rfl (Nat.le_of_ble_eq_true rfl) (by decide) (by decide) (c_By_put G u66 311 312 64 41 ⟨w311, w312, by decide, u311_1, by decide, by decide⟩ 220 64 (by decide) w220 (by omega) 0 (by omega) 64 (by omega) hv67) (fun r u70 hq => ?_)
            obtain ⟨hr, hv71, hm72⟩ := hq
            rw [hr]
            clear hr r
            have hm73 := hm69.go hm72 (by intro i hi; simp only [List.mem_cons, List.not_mem_nil, or_false] at hi ⊢ <;> omega)
            show ST G mi_Ss_confirmServer 302 [(3, .ref 308), (0, .ref 291), (1, .ref 62), (2, .ref 217)] [] u70 0 0 _
            refine ST.lift (fun _ _ k => T_aload_n (v := .ref 291) d_Ss_confirmServer_302 rfl (Or.inr ⟨_, rfl⟩) k) ?_
            refine S_getfield d_Ss_confirmServer_303 fg_Ss_17 (w291 _) rfl ?_
            refine ST.lift (fun _ _ k => T_iconst (v := nI 2) d_Ss_confirmServer_306 (by decide) k) ?_
            refine S_aaload (C0 := "PasswordGate$Bytes") d_Ss_confirmServer_307 (by decide) (w293 _) rfl (vp_in_nI (by omega) (by omega)) ?_
            refine ST.lift (fun _ _ k => T_aload_n (v := .ref 62) d_Ss_confirmServer_308 rfl (Or.inr ⟨_, rfl⟩) k) ?_
            refine S_getfield d_Ss_confirmServer_309 fg_Ss_176 (w62 _) rfl ?_
            refine ST.lift (fun _ _ k => T_iconst (v := nI 0) d_Ss_confirmServer_312 (by decide) k) ?_
            refine ST.lift (fun _ _ k => T_bipush (v := nI 64) d_Ss_confirmServer_313 (by decide) k) ?_
            refine S_virtual (as := [.ref 206, .int (nI 0), .int (nI 64)]) (rest := []) (b := 315) d_Ss_confirmServer_315 rfl (jw_By_put.jo (by decide)) lm_Ss_169 ji_By_put js_By_put (w315 _) rfl rfl rfl (Nat.le_of_ble_eq_true rfl) (by decide) (by decide) (c_By_put G u70 315 316 64 43 ⟨w315, w316, by decide, u315_1, by decide, by decide⟩ 206 64 (by decide) w206 (by omega) 0 (by omega) 64 (by omega) hv71) (fun r u74 hq => ?_)
            obtain ⟨hr, hv75, hm76⟩ := hq
            rw [hr]
            clear hr r
            have hm77 := hm73.go hm76 (by intro i hi; simp only [List.mem_cons, List.not_mem_nil, or_false] at hi ⊢ <;> omega)
            show ST G mi_Ss_confirmServer 318 [(3, .ref 308), (0, .ref 291), (1, .ref 62), (2, .ref 217)] [] u74 0 0 _
            refine ST.lift (fun _ _ k => T_iconst (v := nI 0) d_Ss_confirmServer_318 (by decide) k) ?_
            exact S_ret d_Ss_confirmServer_319 rfl rfl (by decide) (by decide) (hQ _ _ hv75 hm77)
          · refine ST.lift (fun _ _ k => T_iconst (v := nI 4) d_Ss_confirmServer_268 (by decide) k) ?_
            exact S_ret d_Ss_confirmServer_269 rfl rfl (by decide) (by decide) (hQ _ _ hv61 hm64)
        · refine ST.lift (fun _ _ k => T_iconst (v := nI 1) d_Ss_confirmServer_176 (by decide) k) ?_
          exact S_ret d_Ss_confirmServer_177 rfl rfl (by decide) (by decide) (hQ _ _ hv35 hm38)
    · refine ST.lift (fun _ _ k => T_iconst (v := nI 3) d_Ss_confirmServer_134 (by decide) k) ?_
      exact S_ret d_Ss_confirmServer_135 rfl rfl (by decide) (by decide) (hQ _ _ hv23 hm26)
  · refine ST.lift (fun _ _ k => T_iconst (v := nI 1) d_Ss_confirmServer_26 (by decide) k) ?_
    exact S_ret d_Ss_confirmServer_27 rfl rfl (by decide) (by decide) (hQ _ _ hv2 hm5)
set_option maxRecDepth 100000 in
set_option maxHeartbeats 4000000 in
theorem c_Ss_confirmClient_291 (G : GX) (v : Nat → Int32) (hv : okv v) : CS G mi_Ss_confirmClient [.ref 291] v (fun r v' => ∃ z : Int32, r = some (.int z) ∧ okv v' ∧ mdf [38, 39, 40, 41, 42, 43, 35, 36, 37, 34] v v') := by
  refine CS.of (by decide) (Nat.le_of_ble_eq_true rfl) ?_
  generalize hQe : (fun (r : Option Value) (v' : Nat → Int32) => ∃ z : Int32, r = some (.int z) ∧ okv v' ∧ mdf [38, 39, 40, 41, 42, 43, 35, 36, 37, 34] v v') = Q
  have hQ : ∀ (z : Int32) (u : Nat → Int32), okv u → mdf [38, 39, 40, 41, 42, 43, 35, 36, 37, 34] v u → Q (some (.int z)) u := by rw [← hQe]; exact fun z u h1 h2 => ⟨z, rfl, h1, h2⟩
  clear hQe
  have hm : mdf [38, 39, 40, 41, 42, 43, 35, 36, 37, 34] v v := mdf.rf
  show ST G mi_Ss_confirmClient 0 [(0, .ref 291)] [] v 0 0 Q
  refine ST.lift (fun _ _ k => T_aload_n (v := .ref 291) d_Ss_confirmClient_0 rfl (Or.inr ⟨_, rfl⟩) k) ?_
  refine S_getfield d_Ss_confirmClient_1 fg_Ss_11 (w291 _) rfl ?_
  refine ST.lift (fun _ _ k => T_iconst (v := nI 2) d_Ss_confirmClient_4 (by decide) k) ?_
  refine S_aaload (C0 := "PasswordGate$Bytes") d_Ss_confirmClient_5 (by decide) (w292 _) rfl (vp_in_nI (by omega) (by omega)) ?_
  refine ST.lift (fun _ _ k => T_iconst (v := nI 0) d_Ss_confirmClient_6 (by decide) k) ?_
  refine ST.lift (fun _ _ k => T_aload_n (v := .ref 291) d_Ss_confirmClient_7 rfl (Or.inr ⟨_, rfl⟩) k) ?_
  refine S_getfield d_Ss_confirmClient_8 fg_Ss_20 (w291 _) rfl ?_
  refine ST.lift (fun _ _ k => T_iconst (v := nI 0) d_Ss_confirmClient_11 (by decide) k) ?_
  refine S_virtual (as := [.int (nI 0), .ref 294, .int (nI 0)]) (rest := []) (b := 309) d_Ss_confirmClient_12 rfl (jw_By_endsLike.jo (by decide)) lm_Ss_136 ji_By_endsLike js_By_endsLike (w309 _) rfl rfl rfl (Nat.le_of_ble_eq_true rfl) (by decide) (by decide) (c_By_endsLike G v 309 310 64 40 ⟨w309, w310, by decide, u309_1, by decide, by decide⟩ 0 (by omega) 294 64 (by decide) w294 (by omega) 0 (by omega) hv) (fun r u1 hq => ?_)
  obtain ⟨z4, hz4, hr, hv2, hm3⟩ := hq
  rw [hr]
  clear hr r
  have hm5 := hm.go hm3 (by intro i hi; simp only [List.mem_cons, List.not_mem_nil, or_false] at hi ⊢ <;> omega)
  show ST G mi_Ss_confirmClient 15 [(0, .ref 291)] [.int (nI z4)] u1 0 0 _
  refine S_if_neN d_Ss_confirmClient_15 rfl (by omega) (fun c6 => ?_) (fun c6 => ?_)
  · refine ST.lift (fun _ _ k => T_aload_n (v := .ref 291) d_Ss_confirmClient_20 rfl (Or.inr ⟨_, rfl⟩) k) ?_
    refine S_getfield d_Ss_confirmClient_21 fg_Ss_17 (w291 _) rfl ?_
    refine ST.lift (fun _ _ k => T_iconst (v := nI 1) d_Ss_confirmClient_24 (by decide) k) ?_
    refine S_aaload (C0 := "PasswordGate$Bytes") d_Ss_confirmClient_25 (by decide) (w293 _) rfl (vp_in_nI (by omega) (by omega)) ?_
    refine ST.lift (fun _ _ k => T_aload_n (v := .ref 291) d_Ss_confirmClient_26 rfl (Or.inr ⟨_, rfl⟩) k) ?_
    refine S_getfield d_Ss_confirmClient_27 fg_Ss_24 (w291 _) rfl ?_
    refine ST.lift (fun _ _ k => T_iconst (v := nI 0) d_Ss_confirmClient_30 (by decide) k) ?_
    refine ST.lift (fun _ _ k => T_bipush (v := nI 64) d_Ss_confirmClient_31 (by decide) k) ?_
    refine S_virtual (as := [.ref 295, .int (nI 0), .int (nI 64)]) (rest := []) (b := 313) d_Ss_confirmClient_33 rfl (jw_By_put.jo (by decide)) lm_Ss_169 ji_By_put js_By_put (w313 _) rfl rfl rfl (Nat.le_of_ble_eq_true rfl) (by decide) (by decide) (c_By_put G u1 313 314 64 42 ⟨w313, w314, by decide, u313_1, by decide, by decide⟩ 295 64 (by decide) w295 (by omega) 0 (by omega) 64 (by omega) hv2) (fun r u7 hq => ?_)
    obtain ⟨hr, hv8, hm9⟩ := hq
    rw [hr]
    clear hr r
    have hm10 := hm5.go hm9 (by intro i hi; simp only [List.mem_cons, List.not_mem_nil, or_false] at hi ⊢ <;> omega)
    show ST G mi_Ss_confirmClient 36 [(0, .ref 291)] [] u7 0 0 _
    refine ST.lift (fun _ _ k => T_iconst (v := nI 0) d_Ss_confirmClient_36 (by decide) k) ?_
    exact S_ret d_Ss_confirmClient_37 rfl rfl (by decide) (by decide) (hQ _ _ hv8 hm10)
  · refine ST.lift (fun _ _ k => T_iconst (v := nI 5) d_Ss_confirmClient_18 (by decide) k) ?_
    exact S_ret d_Ss_confirmClient_19 rfl rfl (by decide) (by decide) (hQ _ _ hv2 hm5)
set_option maxRecDepth 100000 in
set_option maxHeartbeats 4000000 in
theorem c_Ss_take_317_0 (G : GX) (v : Nat → Int32) (hv : okv v) : CS G mi_Ss_take [.ref 317, .int (nI 0)] v (fun r v' => ∃ z : Nat, z ≤ 1 ∧ r = some (.int (nI z)) ∧ okv v' ∧ mdf [] v v') := by
  refine CS.of (by decide) (Nat.le_of_ble_eq_true rfl) ?_
  generalize hQe : (fun (r : Option Value) (v' : Nat → Int32) => ∃ z : Nat, z ≤ 1 ∧ r = some (.int (nI z)) ∧ okv v' ∧ mdf [] v v') = Q
  have hQ : ∀ (z : Nat) (u : Nat → Int32), z ≤ 1 → okv u → mdf [] v u → Q (some (.int (nI z))) u := by rw [← hQe]; exact fun z u hz h1 h2 => ⟨z, hz, rfl, h1, h2⟩
  clear hQe
  have hm : mdf [] v v := mdf.rf
  show ST G mi_Ss_take 0 [(0, .ref 317), (1, .int (nI 0))] [] v 0 0 Q
  refine ST.lift (fun _ _ k => T_aload_n (v := .ref 317) d_Ss_take_0 rfl (Or.inr ⟨_, rfl⟩) k) ?_
  refine S_getfield d_Ss_take_1 fg_Ss_11 (w317 _) rfl ?_
  refine ST.lift (fun _ _ k => T_iload_n d_Ss_take_4 rfl k) ?_
  refine S_aaload (C0 := "PasswordGate$Bytes") d_Ss_take_5 (by decide) (w318 _) rfl (vp_in_nI (by omega) (by omega)) ?_
  obtain ⟨k1, hk1, ek1⟩ := hv.get (j := 48) (c := 96) (by decide)
  refine S_getfield d_Ss_take_6 fg_Ss_50 (w331 _) rfl ?_
  refine S_topi (y := nI k1) (ek1) ?_
  refine S_if_eqN d_Ss_take_9 rfl (by omega) (fun c2 => ?_) (fun c2 => ?_)
  · refine ST.lift (fun _ _ k => T_iconst (v := nI 0) d_Ss_take_21 (by decide) k) ?_
    exact S_ret d_Ss_take_22 rfl (nar_z (by omega)) (by decide) (by decide) (hQ 0 _ (by omega) hv hm)
  · refine ST.lift (fun _ _ k => T_aload_n (v := .ref 317) d_Ss_take_12 rfl (Or.inr ⟨_, rfl⟩) k) ?_
    refine S_getfield d_Ss_take_13 fg_Ss_27 (w317 _) rfl ?_
    refine ST.lift (fun _ _ k => T_iload_n d_Ss_take_16 rfl k) ?_
    refine S_zaload d_Ss_take_17 w322 (vp_in_nI (by omega) (by omega)) (fun z3 hz3 => ?_)
    refine S_if_eq d_Ss_take_18 rfl (fun c4 => ?_) (fun c4 => ?_)
    · refine ST.lift (fun _ _ k => T_aload_n (v := .ref 317) d_Ss_take_23 rfl (Or.inr ⟨_, rfl⟩) k) ?_
      refine S_getfield d_Ss_take_24 fg_Ss_27 (w317 _) rfl ?_
      refine ST.lift (fun _ _ k => T_iload_n d_Ss_take_27 rfl k) ?_
      refine ST.lift (fun _ _ k => T_iconst (v := nI 1) d_Ss_take_28 (by decide) k) ?_
      refine S_zastore d_Ss_take_29 (by decide) w322 (vp_in_nI (by omega) (by omega)) ?_
      refine ST.lift (fun _ _ k => T_iconst (v := nI 1) d_Ss_take_30 (by decide) k) ?_
      exact S_ret d_Ss_take_31 rfl (nar_z (by omega)) (by decide) (by decide) (hQ 1 _ (by omega) hv hm)
    · refine ST.lift (fun _ _ k => T_iconst (v := nI 0) d_Ss_take_21 (by decide) k) ?_
      exact S_ret d_Ss_take_22 rfl (nar_z (by omega)) (by decide) (by decide) (hQ 0 _ (by omega) hv hm)
set_option maxRecDepth 100000 in
set_option maxHeartbeats 4000000 in
theorem c_Ss_take_317_1 (G : GX) (v : Nat → Int32) (hv : okv v) : CS G mi_Ss_take [.ref 317, .int (nI 1)] v (fun r v' => ∃ z : Nat, z ≤ 1 ∧ r = some (.int (nI z)) ∧ okv v' ∧ mdf [] v v') := by
  refine CS.of (by decide) (Nat.le_of_ble_eq_true rfl) ?_
  generalize hQe : (fun (r : Option Value) (v' : Nat → Int32) => ∃ z : Nat, z ≤ 1 ∧ r = some (.int (nI z)) ∧ okv v' ∧ mdf [] v v') = Q
  have hQ : ∀ (z : Nat) (u : Nat → Int32), z ≤ 1 → okv u → mdf [] v u → Q (some (.int (nI z))) u := by rw [← hQe]; exact fun z u hz h1 h2 => ⟨z, hz, rfl, h1, h2⟩
  clear hQe
  have hm : mdf [] v v := mdf.rf
  show ST G mi_Ss_take 0 [(0, .ref 317), (1, .int (nI 1))] [] v 0 0 Q
  refine ST.lift (fun _ _ k => T_aload_n (v := .ref 317) d_Ss_take_0 rfl (Or.inr ⟨_, rfl⟩) k) ?_
  refine S_getfield d_Ss_take_1 fg_Ss_11 (w317 _) rfl ?_
  refine ST.lift (fun _ _ k => T_iload_n d_Ss_take_4 rfl k) ?_
  refine S_aaload (C0 := "PasswordGate$Bytes") d_Ss_take_5 (by decide) (w318 _) rfl (vp_in_nI (by omega) (by omega)) ?_
  obtain ⟨k1, hk1, ek1⟩ := hv.get (j := 49) (c := 320) (by decide)
  refine S_getfield d_Ss_take_6 fg_Ss_50 (w333 _) rfl ?_
  refine S_topi (y := nI k1) (ek1) ?_
  refine S_if_eqN d_Ss_take_9 rfl (by omega) (fun c2 => ?_) (fun c2 => ?_)
  · refine ST.lift (fun _ _ k => T_iconst (v := nI 0) d_Ss_take_21 (by decide) k) ?_
    exact S_ret d_Ss_take_22 rfl (nar_z (by omega)) (by decide) (by decide) (hQ 0 _ (by omega) hv hm)
  · refine ST.lift (fun _ _ k => T_aload_n (v := .ref 317) d_Ss_take_12 rfl (Or.inr ⟨_, rfl⟩) k) ?_
    refine S_getfield d_Ss_take_13 fg_Ss_27 (w317 _) rfl ?_
    refine ST.lift (fun _ _ k => T_iload_n d_Ss_take_16 rfl k) ?_
    refine S_zaload d_Ss_take_17 w322 (vp_in_nI (by omega) (by omega)) (fun z3 hz3 => ?_)
    refine S_if_eq d_Ss_take_18 rfl (fun c4 => ?_) (fun c4 => ?_)
    · refine ST.lift (fun _ _ k => T_aload_n (v := .ref 317) d_Ss_take_23 rfl (Or.inr ⟨_, rfl⟩) k) ?_
      refine S_getfield d_Ss_take_24 fg_Ss_27 (w317 _) rfl ?_
      refine ST.lift (fun _ _ k => T_iload_n d_Ss_take_27 rfl k) ?_
      refine ST.lift (fun _ _ k => T_iconst (v := nI 1) d_Ss_take_28 (by decide) k) ?_
      refine S_zastore d_Ss_take_29 (by decide) w322 (vp_in_nI (by omega) (by omega)) ?_
      refine ST.lift (fun _ _ k => T_iconst (v := nI 1) d_Ss_take_30 (by decide) k) ?_
      exact S_ret d_Ss_take_31 rfl (nar_z (by omega)) (by decide) (by decide) (hQ 1 _ (by omega) hv hm)
    · refine ST.lift (fun _ _ k => T_iconst (v := nI 0) d_Ss_take_21 (by decide) k) ?_
      exact S_ret d_Ss_take_22 rfl (nar_z (by omega)) (by decide) (by decide) (hQ 0 _ (by omega) hv hm)
set_option maxRecDepth 100000 in
set_option maxHeartbeats 4000000 in
theorem c_Ss_take_317_2 (G : GX) (v : Nat → Int32) (hv : okv v) : CS G mi_Ss_take [.ref 317, .int (nI 2)] v (fun r v' => ∃ z : Nat, z ≤ 1 ∧ r = some (.int (nI z)) ∧ okv v' ∧ mdf [] v v') := by
  refine CS.of (by decide) (Nat.le_of_ble_eq_true rfl) ?_
  generalize hQe : (fun (r : Option Value) (v' : Nat → Int32) => ∃ z : Nat, z ≤ 1 ∧ r = some (.int (nI z)) ∧ okv v' ∧ mdf [] v v') = Q
  have hQ : ∀ (z : Nat) (u : Nat → Int32), z ≤ 1 → okv u → mdf [] v u → Q (some (.int (nI z))) u := by rw [← hQe]; exact fun z u hz h1 h2 => ⟨z, hz, rfl, h1, h2⟩
  clear hQe
  have hm : mdf [] v v := mdf.rf
  show ST G mi_Ss_take 0 [(0, .ref 317), (1, .int (nI 2))] [] v 0 0 Q
  refine ST.lift (fun _ _ k => T_aload_n (v := .ref 317) d_Ss_take_0 rfl (Or.inr ⟨_, rfl⟩) k) ?_
  refine S_getfield d_Ss_take_1 fg_Ss_11 (w317 _) rfl ?_
  refine ST.lift (fun _ _ k => T_iload_n d_Ss_take_4 rfl k) ?_
  refine S_aaload (C0 := "PasswordGate$Bytes") d_Ss_take_5 (by decide) (w318 _) rfl (vp_in_nI (by omega) (by omega)) ?_
  obtain ⟨k1, hk1, ek1⟩ := hv.get (j := 50) (c := 64) (by decide)
  refine S_getfield d_Ss_take_6 fg_Ss_50 (w335 _) rfl ?_
  refine S_topi (y := nI k1) (ek1) ?_
  refine S_if_eqN d_Ss_take_9 rfl (by omega) (fun c2 => ?_) (fun c2 => ?_)
  · refine ST.lift (fun _ _ k => T_iconst (v := nI 0) d_Ss_take_21 (by decide) k) ?_
    exact S_ret d_Ss_take_22 rfl (nar_z (by omega)) (by decide) (by decide) (hQ 0 _ (by omega) hv hm)
  · refine ST.lift (fun _ _ k => T_aload_n (v := .ref 317) d_Ss_take_12 rfl (Or.inr ⟨_, rfl⟩) k) ?_
    refine S_getfield d_Ss_take_13 fg_Ss_27 (w317 _) rfl ?_
    refine ST.lift (fun _ _ k => T_iload_n d_Ss_take_16 rfl k) ?_
    refine S_zaload d_Ss_take_17 w322 (vp_in_nI (by omega) (by omega)) (fun z3 hz3 => ?_)
    refine S_if_eq d_Ss_take_18 rfl (fun c4 => ?_) (fun c4 => ?_)
    · refine ST.lift (fun _ _ k => T_aload_n (v := .ref 317) d_Ss_take_23 rfl (Or.inr ⟨_, rfl⟩) k) ?_
      refine S_getfield d_Ss_take_24 fg_Ss_27 (w317 _) rfl ?_
      refine ST.lift (fun _ _ k => T_iload_n d_Ss_take_27 rfl k) ?_
      refine ST.lift (fun _ _ k => T_iconst (v := nI 1) d_Ss_take_28 (by decide) k) ?_
      refine S_zastore d_Ss_take_29 (by decide) w322 (vp_in_nI (by omega) (by omega)) ?_
      refine ST.lift (fun _ _ k => T_iconst (v := nI 1) d_Ss_take_30 (by decide) k) ?_
      exact S_ret d_Ss_take_31 rfl (nar_z (by omega)) (by decide) (by decide) (hQ 1 _ (by omega) hv hm)
    · refine ST.lift (fun _ _ k => T_iconst (v := nI 0) d_Ss_take_21 (by decide) k) ?_
      exact S_ret d_Ss_take_22 rfl (nar_z (by omega)) (by decide) (by decide) (hQ 0 _ (by omega) hv hm)
set_option maxRecDepth 100000 in
set_option maxHeartbeats 4000000 in
theorem c_Ss_start_317 (G : GX) (v : Nat → Int32) (usr : Nat) (b_usr : usr ≤ 7) (b bd bc bj : Nat) (y_b : isBy b bd bc bj) (hv : okv v) : CS G mi_Ss_start [.ref 317, .ref 62, .int (nI usr), .ref b] v (fun r v' => r = none ∧ okv v' ∧ mdf [6, 7, 5, 2, 3, 1, 4, 48, 49, 50, 51, 52, 53, 45, 46, 47, 44] v v') := by
  refine CS.of (by decide) (Nat.le_of_ble_eq_true rfl) ?_
  generalize hQe : (fun (r : Option Value) (v' : Nat → Int32) => r = none ∧ okv v' ∧ mdf [6, 7, 5, 2, 3, 1, 4, 48, 49, 50, 51, 52, 53, 45, 46, 47, 44] v v') = Q
  have hQ : ∀ u, okv u → mdf [6, 7, 5, 2, 3, 1, 4, 48, 49, 50, 51, 52, 53, 45, 46, 47, 44] v u → Q none u := by rw [← hQe]; exact fun u h1 h2 => ⟨rfl, h1, h2⟩
  clear hQe
  have hm : mdf [6, 7, 5, 2, 3, 1, 4, 48, 49, 50, 51, 52, 53, 45, 46, 47, 44] v v := mdf.rf
  have l_b := y_b.2.2.2.2.2
  show ST G mi_Ss_start 0 [(0, .ref 317), (1, .ref 62), (2, .int (nI usr)), (3, .ref b)] [] v 0 0 Q
  refine ST.lift (fun _ _ k => T_iconst (v := nI 0) d_Ss_start_0 (by decide) k) ?_
  refine ST.lift (fun _ _ k => T_istore (L' := [(4, .int (nI 0)), (0, .ref 317), (1, .ref 62), (2, .int (nI usr)), (3, .ref b)]) d_Ss_start_1 (by decide) rfl k) ?_
  refine ST.lift (fun _ _ k => T_iload d_Ss_start_3 rfl k) ?_
  refine ST.lift (fun _ _ k => T_iconst (v := nI 3) d_Ss_start_5 (by decide) k) ?_
  refine S_icmp_geN d_Ss_start_6 rfl (by omega) (by omega) (fun c => by first | exact absurd c (by omega) | exact c.elim | exact absurd c (by decide) | exact absurd (by assumption) c | exact absurd c (by assumption)) (fun _ => ?_)
  refine ST.lift (fun _ _ k => T_aload_n (v := .ref 317) d_Ss_start_9 rfl (Or.inr ⟨_, rfl⟩) k) ?_
  refine S_getfield d_Ss_start_10 fg_Ss_11 (w317 _) rfl ?_
  refine ST.lift (fun _ _ k => T_iload d_Ss_start_13 rfl k) ?_
  refine S_aaload (C0 := "PasswordGate$Bytes") d_Ss_start_15 (by decide) (w318 _) rfl (vp_in_nI (by omega) (by omega)) ?_
  refine S_virtual (as := []) (rest := []) (b := 331) d_Ss_start_16 rfl (jw_By_clear.jo (by decide)) lm_Ss_54 ji_By_clear js_By_clear (w331 _) rfl rfl rfl (Nat.le_of_ble_eq_true rfl) (by decide) (by decide) (c_By_clear G v 331 332 96 48 ⟨w331, w332, by decide, u331_1, by decide, by decide⟩ hv) (fun r v' hq => ?_)
  rw [hq.1, hq.2]
  clear hq r v'
  show ST G mi_Ss_start 19 [(4, .int (nI 0)), (0, .ref 317), (1, .ref 62), (2, .int (nI usr)), (3, .ref b)] [] (va_up v 48 (nI 0)) 0 0 _
  have hv2 := hv.up (j := 48) (c := 96) (k := 0) (by decide) (by omega)
  have hm3 := hm.go (mdf.up (v := v) (j := 48) (x := (nI 0))) (by intro i hi; simp only [List.mem_cons, List.not_mem_nil, or_false] at hi ⊢ <;> omega)
  have e_u1 : (va_up v 48 (nI 0)) 48 = (nI 0) := by simp [va_up]
  generalize va_up v 48 (nI 0) = u1 at hv2 hm3 e_u1 ⊢
  refine ST.lift (fun _ _ k => T_aload_n (v := .ref 317) d_Ss_start_19 rfl (Or.inr ⟨_, rfl⟩) k) ?_
  refine S_getfield d_Ss_start_20 fg_Ss_17 (w317 _) rfl ?_
  refine ST.lift (fun _ _ k => T_iload d_Ss_start_23 rfl k) ?_
  refine S_aaload (C0 := "PasswordGate$Bytes") d_Ss_start_25 (by decide) (w319 _) rfl (vp_in_nI (by omega) (by omega)) ?_
  refine S_virtual (as := []) (rest := []) (b := 337) d_Ss_start_26 rfl (jw_By_clear.jo (by decide)) lm_Ss_54 ji_By_clear js_By_clear (w337 _) rfl rfl rfl (Nat.le_of_ble_eq_true rfl) (by decide) (by decide) (c_By_clear G u1 337 338 64 51 ⟨w337, w338, by decide, u337_1, by decide, by decide⟩ hv2) (fun r v' hq => ?_)
  rw [hq.1, hq.2]
  clear hq r v'
  show ST G mi_Ss_start 29 [(4, .int (nI 0)), (0, .ref 317), (1, .ref 62), (2, .int (nI usr)), (3, .ref b)] [] (va_up u1 51 (nI 0)) 0 0 _
  have hv5 := hv2.up (j := 51) (c := 64) (k := 0) (by decide) (by omega)
  have hm6 := hm3.go (mdf.up (v := u1) (j := 51) (x := (nI 0))) (by intro i hi; simp only [List.mem_cons, List.not_mem_nil, or_false] at hi ⊢ <;> omega)
  have e_u4 : (va_up u1 51 (nI 0)) 51 = (nI 0) := by simp [va_up]
  have e7 : (va_up u1 51 (nI 0)) 48 = nI 0 := by simp only [va_up]; exact e_u1
  generalize va_up u1 51 (nI 0) = u4 at hv5 hm6 e_u4 e7 ⊢
  refine ST.lift (fun _ _ k => T_aload_n (v := .ref 317) d_Ss_start_29 rfl (Or.inr ⟨_, rfl⟩) k) ?_
  refine S_getfield d_Ss_start_30 fg_Ss_27 (w317 _) rfl ?_
  refine ST.lift (fun _ _ k => T_iload d_Ss_start_33 rfl k) ?_
  refine ST.lift (fun _ _ k => T_iconst (v := nI 0) d_Ss_start_35 (by decide) k) ?_
  refine S_zastore d_Ss_start_36 (by decide) w322 (vp_in_nI (by omega) (by omega)) ?_
  refine S_iincN (a := 0) (b := 1) (L' := [(4, .int (nI 1)), (0, .ref 317), (1, .ref 62), (2, .int (nI usr)), (3, .ref b)]) d_Ss_start_37 (by decide) rfl rfl rfl ?_
  refine ST.lift (fun _ _ k => T_goto (tgt := 3) d_Ss_start_40 rfl k) ?_
  refine ST.lift (fun _ _ k => T_iload d_Ss_start_3 rfl k) ?_
  refine ST.lift (fun _ _ k => T_iconst (v := nI 3) d_Ss_start_5 (by decide) k) ?_
  refine S_icmp_geN d_Ss_start_6 rfl (by omega) (by omega) (fun c => by first | exact absurd c (by omega) | exact c.elim | exact absurd c (by decide) | exact absurd (by assumption) c | exact absurd c (by assumption)) (fun _ => ?_)
  refine ST.lift (fun _ _ k => T_aload_n (v := .ref 317) d_Ss_start_9 rfl (Or.inr ⟨_, rfl⟩) k) ?_
  refine S_getfield d_Ss_start_10 fg_Ss_11 (w317 _) rfl ?_
  refine ST.lift (fun _ _ k => T_iload d_Ss_start_13 rfl k) ?_
  refine S_aaload (C0 := "PasswordGate$Bytes") d_Ss_start_15 (by decide) (w318 _) rfl (vp_in_nI (by omega) (by omega)) ?_
  refine S_virtual (as := []) (rest := []) (b := 333) d_Ss_start_16 rfl (jw_By_clear.jo (by decide)) lm_Ss_54 ji_By_clear js_By_clear (w333 _) rfl rfl rfl (Nat.le_of_ble_eq_true rfl) (by decide) (by decide) (c_By_clear G u4 333 334 320 49 ⟨w333, w334, by decide, u333_1, by decide, by decide⟩ hv5) (fun r v' hq => ?_)
  rw [hq.1, hq.2]
  clear hq r v'
  show ST G mi_Ss_start 19 [(4, .int (nI 1)), (0, .ref 317), (1, .ref 62), (2, .int (nI usr)), (3, .ref b)] [] (va_up u4 49 (nI 0)) 0 0 _
  have hv9 := hv5.up (j := 49) (c := 320) (k := 0) (by decide) (by omega)
  have hm10 := hm6.go (mdf.up (v := u4) (j := 49) (x := (nI 0))) (by intro i hi; simp only [List.mem_cons, List.not_mem_nil, or_false] at hi ⊢ <;> omega)
  have e_u8 : (va_up u4 49 (nI 0)) 49 = (nI 0) := by simp [va_up]
  have e11 : (va_up u4 49 (nI 0)) 48 = nI 0 := by simp only [va_up]; exact e7
  have e12 : (va_up u4 49 (nI 0)) 51 = nI 0 := by simp only [va_up]; exact e_u4
  generalize va_up u4 49 (nI 0) = u8 at hv9 hm10 e_u8 e11 e12 ⊢
  refine ST.lift (fun _ _ k => T_aload_n (v := .ref 317) d_Ss_start_19 rfl (Or.inr ⟨_, rfl⟩) k) ?_
  refine S_getfield d_Ss_start_20 fg_Ss_17 (w317 _) rfl ?_
  refine ST.lift (fun _ _ k => T_iload d_Ss_start_23 rfl k) ?_
  refine S_aaload (C0 := "PasswordGate$Bytes") d_Ss_start_25 (by decide) (w319 _) rfl (vp_in_nI (by omega) (by omega)) ?_
  refine S_virtual (as := []) (rest := []) (b := 339) d_Ss_start_26 rfl (jw_By_clear.jo (by decide)) lm_Ss_54 ji_By_clear js_By_clear (w339 _) rfl rfl rfl (Nat.le_of_ble_eq_true rfl) (by decide) (by decide) (c_By_clear G u8 339 340 64 52 ⟨w339, w340, by decide, u339_1, by decide, by decide⟩ hv9) (fun r v' hq => ?_)
  rw [hq.1, hq.2]
  clear hq r v'
  show ST G mi_Ss_start 29 [(4, .int (nI 1)), (0, .ref 317), (1, .ref 62), (2, .int (nI usr)), (3, .ref b)] [] (va_up u8 52 (nI 0)) 0 0 _
  have hv14 := hv9.up (j := 52) (c := 64) (k := 0) (by decide) (by omega)
  have hm15 := hm10.go (mdf.up (v := u8) (j := 52) (x := (nI 0))) (by intro i hi; simp only [List.mem_cons, List.not_mem_nil, or_false] at hi ⊢ <;> omega)
  have e_u13 : (va_up u8 52 (nI 0)) 52 = (nI 0) := by simp [va_up]
  have e16 : (va_up u8 52 (nI 0)) 48 = nI 0 := by simp only [va_up]; exact e11
  have e17 : (va_up u8 52 (nI 0)) 51 = nI 0 := by simp only [va_up]; exact e12
  have e18 : (va_up u8 52 (nI 0)) 49 = nI 0 := by simp only [va_up]; exact e_u8
  generalize va_up u8 52 (nI 0) = u13 at hv14 hm15 e_u13 e16 e17 e18 ⊢
  refine ST.lift (fun _ _ k => T_aload_n (v := .ref 317) d_Ss_start_29 rfl (Or.inr ⟨_, rfl⟩) k) ?_
  refine S_getfield d_Ss_start_30 fg_Ss_27 (w317 _) rfl ?_
  refine ST.lift (fun _ _ k => T_iload d_Ss_start_33 rfl k) ?_
  refine ST.lift (fun _ _ k => T_iconst (v := nI 0) d_Ss_start_35 (by decide) k) ?_
  refine S_zastore d_Ss_start_36 (by decide) w322 (vp_in_nI (by omega) (by omega)) ?_
  refine S_iincN (a := 1) (b := 1) (L' := [(4, .int (nI 2)), (0, .ref 317), (1, .ref 62), (2, .int (nI usr)), (3, .ref b)]) d_Ss_start_37 (by decide) rfl rfl rfl ?_
  refine ST.lift (fun _ _ k => T_goto (tgt := 3) d_Ss_start_40 rfl k) ?_
  refine ST.lift (fun _ _ k => T_iload d_Ss_start_3 rfl k) ?_
  refine ST.lift (fun _ _ k => T_iconst (v := nI 3) d_Ss_start_5 (by decide) k) ?_
  refine S_icmp_geN d_Ss_start_6 rfl (by omega) (by omega) (fun c => by first | exact absurd c (by omega) | exact c.elim | exact absurd c (by decide) | exact absurd (by assumption) c | exact absurd c (by assumption)) (fun _ => ?_)
  refine ST.lift (fun _ _ k => T_aload_n (v := .ref 317) d_Ss_start_9 rfl (Or.inr ⟨_, rfl⟩) k) ?_
  refine S_getfield d_Ss_start_10 fg_Ss_11 (w317 _) rfl ?_
  refine ST.lift (fun _ _ k => T_iload d_Ss_start_13 rfl k) ?_
  refine S_aaload (C0 := "PasswordGate$Bytes") d_Ss_start_15 (by decide) (w318 _) rfl (vp_in_nI (by omega) (by omega)) ?_
  refine S_virtual (as := []) (rest := []) (b := 335) d_Ss_start_16 rfl (jw_By_clear.jo (by decide)) lm_Ss_54 ji_By_clear js_By_clear (w335 _) rfl rfl rfl (Nat.le_of_ble_eq_true rfl) (by decide) (by decide) (c_By_clear G u13 335 336 64 50 ⟨w335, w336, by decide, u335_1, by decide, by decide⟩ hv14) (fun r v' hq => ?_)
  rw [hq.1, hq.2]
  clear hq r v'
  show ST G mi_Ss_start 19 [(4, .int (nI 2)), (0, .ref 317), (1, .ref 62), (2, .int (nI usr)), (3, .ref b)] [] (va_up u13 50 (nI 0)) 0 0 _
  have hv20 := hv14.up (j := 50) (c := 64) (k := 0) (by decide) (by omega)
  have hm21 := hm15.go (mdf.up (v := u13) (j := 50) (x := (nI 0))) (by intro i hi; simp only [List.mem_cons, List.not_mem_nil, or_false] at hi ⊢ <;> omega)
  have e_u19 : (va_up u13 50 (nI 0)) 50 = (nI 0) := by simp [va_up]
  have e22 : (va_up u13 50 (nI 0)) 48 = nI 0 := by simp only [va_up]; exact e16
  have e23 : (va_up u13 50 (nI 0)) 51 = nI 0 := by simp only [va_up]; exact e17
  have e24 : (va_up u13 50 (nI 0)) 49 = nI 0 := by simp only [va_up]; exact e18
  have e25 : (va_up u13 50 (nI 0)) 52 = nI 0 := by simp only [va_up]; exact e_u13
  generalize va_up u13 50 (nI 0) = u19 at hv20 hm21 e_u19 e22 e23 e24 e25 ⊢
  refine ST.lift (fun _ _ k => T_aload_n (v := .ref 317) d_Ss_start_19 rfl (Or.inr ⟨_, rfl⟩) k) ?_
  refine S_getfield d_Ss_start_20 fg_Ss_17 (w317 _) rfl ?_
  refine ST.lift (fun _ _ k => T_iload d_Ss_start_23 rfl k) ?_
  refine S_aaload (C0 := "PasswordGate$Bytes") d_Ss_start_25 (by decide) (w319 _) rfl (vp_in_nI (by omega) (by omega)) ?_
  refine S_virtual (as := []) (rest := []) (b := 341) d_Ss_start_26 rfl (jw_By_clear.jo (by decide)) lm_Ss_54 ji_By_clear js_By_clear (w341 _) rfl rfl rfl (Nat.le_of_ble_eq_true rfl) (by decide) (by decide) (c_By_clear G u19 341 342 64 53 ⟨w341, w342, by decide, u341_1, by decide, by decide⟩ hv20) (fun r v' hq => ?_)
  rw [hq.1, hq.2]
  clear hq r v'
  show ST G mi_Ss_start 29 [(4, .int (nI 2)), (0, .ref 317), (1, .ref 62), (2, .int (nI usr)), (3, .ref b)] [] (va_up u19 53 (nI 0)) 0 0 _
  have hv27 := hv20.up (j := 53) (c := 64) (k := 0) (by decide) (by omega)
  have hm28 := hm21.go (mdf.up (v := u19) (j := 53) (x := (nI 0))) (by intro i hi; simp only [List.mem_cons, List.not_mem_nil, or_false] at hi ⊢ <;> omega)
  have e_u26 : (va_up u19 53 (nI 0)) 53 = (nI 0) := by simp [va_up]
  have e29 : (va_up u19 53 (nI 0)) 48 = nI 0 := by simp only [va_up]; exact e22
  have e30 : (va_up u19 53 (nI 0)) 51 = nI 0 := by simp only [va_up]; exact e23
  have e31 : (va_up u19 53 (nI 0)) 49 = nI 0 := by simp only [va_up]; exact e24
  have e32 : (va_up u19 53 (nI 0)) 52 = nI 0 := by simp only [va_up]; exact e25
  have e33 : (va_up u19 53 (nI 0)) 50 = nI 0 := by simp only [va_up]; exact e_u19
  generalize va_up u19 53 (nI 0) = u26 at hv27 hm28 e_u26 e29 e30 e31 e32 e33 ⊢
  refine ST.lift (fun _ _ k => T_aload_n (v := .ref 317) d_Ss_start_29 rfl (Or.inr ⟨_, rfl⟩) k) ?_
  refine S_getfield d_Ss_start_30 fg_Ss_27 (w317 _) rfl ?_
  refine ST.lift (fun _ _ k => T_iload d_Ss_start_33 rfl k) ?_
  refine ST.lift (fun _ _ k => T_iconst (v := nI 0) d_Ss_start_35 (by decide) k) ?_
  refine S_zastore d_Ss_start_36 (by decide) w322 (vp_in_nI (by omega) (by omega)) ?_
  refine S_iincN (a := 2) (b := 1) (L' := [(4, .int (nI 3)), (0, .ref 317), (1, .ref 62), (2, .int (nI usr)), (3, .ref b)]) d_Ss_start_37 (by decide) rfl rfl rfl ?_
  refine ST.lift (fun _ _ k => T_goto (tgt := 3) d_Ss_start_40 rfl k) ?_
  refine ST.lift (fun _ _ k => T_iload d_Ss_start_3 rfl k) ?_
  refine ST.lift (fun _ _ k => T_iconst (v := nI 3) d_Ss_start_5 (by decide) k) ?_
  refine S_icmp_geN d_Ss_start_6 rfl (by omega) (by omega) (fun _ => ?_) (fun c => by first | exact absurd c (by omega) | exact c.elim | exact absurd c (by decide) | exact absurd (by assumption) c | exact absurd c (by assumption))
  refine ST.lift (fun _ _ k => T_aload_n (v := .ref 317) d_Ss_start_43 rfl (Or.inr ⟨_, rfl⟩) k) ?_
  refine ST.lift (fun _ _ k => T_iload_n d_Ss_start_44 rfl k) ?_
  refine S_putfield (v' := va_up u26 44 (nI usr)) d_Ss_start_45 (fp_Ss_57 _) (w317 _) (Nat.le_of_ble_eq_true rfl) ⟨rfl, rfl⟩ (u317_4 _ _) ?_
  have hv35 := hv27.up (j := 44) (c := 7) (k := usr) (by decide) (by omega)
  have hm36 := hm28.go (mdf.up (v := u26) (j := 44) (x := (nI usr))) (by intro i hi; simp only [List.mem_cons, List.not_mem_nil, or_false] at hi ⊢ <;> omega)
  have e_u34 : (va_up u26 44 (nI usr)) 44 = (nI usr) := by simp [va_up]
  have e37 : (va_up u26 44 (nI usr)) 48 = nI 0 := by simp only [va_up]; exact e29
  have e38 : (va_up u26 44 (nI usr)) 51 = nI 0 := by simp only [va_up]; exact e30
  have e39 : (va_up u26 44 (nI usr)) 49 = nI 0 := by simp only [va_up]; exact e31
  have e40 : (va_up u26 44 (nI usr)) 52 = nI 0 := by simp only [va_up]; exact e32
  have e41 : (va_up u26 44 (nI usr)) 50 = nI 0 := by simp only [va_up]; exact e33
  have e42 : (va_up u26 44 (nI usr)) 53 = nI 0 := by simp only [va_up]; exact e_u26
  generalize va_up u26 44 (nI usr) = u34 at hv35 hm36 e_u34 e37 e38 e39 e40 e41 e42 ⊢
  refine ST.lift (fun _ _ k => T_aload_n (v := .ref 317) d_Ss_start_48 rfl (Or.inr ⟨_, rfl⟩) k) ?_
  refine S_getfield d_Ss_start_49 fg_Ss_34 (w317 _) rfl ?_
  refine S_virtual (as := []) (rest := []) (b := 323) d_Ss_start_52 rfl (jw_By_clear.jo (by decide)) lm_Ss_54 ji_By_clear js_By_clear (w323 _) rfl rfl rfl (Nat.le_of_ble_eq_true rfl) (by decide) (by decide) (c_By_clear G u34 323 324 200 45 ⟨w323, w324, by decide, u323_1, by decide, by decide⟩ hv35) (fun r v' hq => ?_)
  rw [hq.1, hq.2]
  clear hq r v'
  show ST G mi_Ss_start 55 [(4, .int (nI 3)), (0, .ref 317), (1, .ref 62), (2, .int (nI usr)), (3, .ref b)] [] (va_up u34 45 (nI 0)) 0 0 _
  have hv44 := hv35.up (j := 45) (c := 200) (k := 0) (by decide) (by omega)
  have hm45 := hm36.go (mdf.up (v := u34) (j := 45) (x := (nI 0))) (by intro i hi; simp only [List.mem_cons, List.not_mem_nil, or_false] at hi ⊢ <;> omega)
  have e_u43 : (va_up u34 45 (nI 0)) 45 = (nI 0) := by simp [va_up]
  have e46 : (va_up u34 45 (nI 0)) 48 = nI 0 := by simp only [va_up]; exact e37
  have e47 : (va_up u34 45 (nI 0)) 51 = nI 0 := by simp only [va_up]; exact e38
  have e48 : (va_up u34 45 (nI 0)) 49 = nI 0 := by simp only [va_up]; exact e39
  have e49 : (va_up u34 45 (nI 0)) 52 = nI 0 := by simp only [va_up]; exact e40
  have e50 : (va_up u34 45 (nI 0)) 50 = nI 0 := by simp only [va_up]; exact e41
  have e51 : (va_up u34 45 (nI 0)) 53 = nI 0 := by simp only [va_up]; exact e42
  have e52 : (va_up u34 45 (nI 0)) 44 = nI usr := by simp only [va_up]; exact e_u34
  generalize va_up u34 45 (nI 0) = u43 at hv44 hm45 e_u43 e46 e47 e48 e49 e50 e51 e52 ⊢
  refine ST.lift (fun _ _ k => T_aload_n (v := .ref 317) d_Ss_start_55 rfl (Or.inr ⟨_, rfl⟩) k) ?_
  refine S_getfield d_Ss_start_56 fg_Ss_34 (w317 _) rfl ?_
  refine ST.lift (fun _ _ k => T_aload_n (v := .ref b) d_Ss_start_59 rfl (Or.inr ⟨_, rfl⟩) k) ?_
  refine S_virtual (as := [.ref b]) (rest := []) (b := 323) d_Ss_start_60 rfl (jw_By_putAll.jo (by decide)) lm_Ss_60 ji_By_putAll js_By_putAll (w323 _) rfl rfl rfl (Nat.le_of_ble_eq_true rfl) (by decide) (by decide) (c_By_putAll G u43 323 324 200 45 ⟨w323, w324, by decide, u323_1, by decide, by decide⟩ b bd bc bj y_b hv44) (fun r u53 hq => ?_)
  obtain ⟨hr, hv54, hm55⟩ := hq
  rw [hr]
  clear hr r
  have hm56 := hm45.go hm55 (by intro i hi; simp only [List.mem_cons, List.not_mem_nil, or_false] at hi ⊢ <;> omega)
  have e57 : u53 48 = nI 0 := (hm55 48 (by decide)).trans e46
  have e58 : u53 51 = nI 0 := (hm55 51 (by decide)).trans e47
  have e59 : u53 49 = nI 0 := (hm55 49 (by decide)).trans e48
  have e60 : u53 52 = nI 0 := (hm55 52 (by decide)).trans e49
  have e61 : u53 50 = nI 0 := (hm55 50 (by decide)).trans e50
  have e62 : u53 53 = nI 0 := (hm55 53 (by decide)).trans e51
  have e63 : u53 44 = nI usr := (hm55 44 (by decide)).trans e52
  show ST G mi_Ss_start 63 [(4, .int (nI 3)), (0, .ref 317), (1, .ref 62), (2, .int (nI usr)), (3, .ref b)] [] u53 0 0 _
  refine ST.lift (fun _ _ k => T_aload_n (v := .ref 317) d_Ss_start_63 rfl (Or.inr ⟨_, rfl⟩) k) ?_
  refine S_getfield d_Ss_start_64 fg_Ss_38 (w317 _) rfl ?_
  refine S_virtual (as := []) (rest := []) (b := 325) d_Ss_start_67 rfl (jw_By_clear.jo (by decide)) lm_Ss_54 ji_By_clear js_By_clear (w325 _) rfl rfl rfl (Nat.le_of_ble_eq_true rfl) (by decide) (by decide) (c_By_clear G u53 325 326 96 46 ⟨w325, w326, by decide, u325_1, by decide, by decide⟩ hv54) (fun r v' hq => ?_)
  rw [hq.1, hq.2]
  clear hq r v'
  show ST G mi_Ss_start 70 [(4, .int (nI 3)), (0, .ref 317), (1, .ref 62), (2, .int (nI usr)), (3, .ref b)] [] (va_up u53 46 (nI 0)) 0 0 _
  have hv65 := hv54.up (j := 46) (c := 96) (k := 0) (by decide) (by omega)
  have hm66 := hm56.go (mdf.up (v := u53) (j := 46) (x := (nI 0))) (by intro i hi; simp only [List.mem_cons, List.not_mem_nil, or_false] at hi ⊢ <;> omega)
  have e_u64 : (va_up u53 46 (nI 0)) 46 = (nI 0) := by simp [va_up]
  have e67 : (va_up u53 46 (nI 0)) 48 = nI 0 := by simp only [va_up]; exact e57
  have e68 : (va_up u53 46 (nI 0)) 51 = nI 0 := by simp only [va_up]; exact e58
  have e69 : (va_up u53 46 (nI 0)) 49 = nI 0 := by simp only [va_up]; exact e59
  have e70 : (va_up u53 46 (nI 0)) 52 = nI 0 := by simp only [va_up]; exact e60
  have e71 : (va_up u53 46 (nI 0)) 50 = nI 0 := by simp only [va_up]; exact e61
  have e72 : (va_up u53 46 (nI 0)) 53 = nI 0 := by simp only [va_up]; exact e62
  have e73 : (va_up u53 46 (nI 0)) 44 = nI usr := by simp only [va_up]; exact e63
  generalize va_up u53 46 (nI 0) = u64 at hv65 hm66 e_u64 e67 e68 e69 e70 e71 e72 e73 ⊢
  refine ST.lift (fun _ _ k => T_aload_n (v := .ref 62) d_Ss_start_70 rfl (Or.inr ⟨_, rfl⟩) k) ?_
  refine ST.lift (fun _ _ k => T_aload_n (v := .ref 317) d_Ss_start_71 rfl (Or.inr ⟨_, rfl⟩) k) ?_
  refine S_getfield d_Ss_start_72 fg_Ss_44 (w317 _) rfl ?_
  refine S_virtual (as := [.ref 329]) (rest := []) (b := 62) d_Ss_start_75 rfl (jw_Kit_nextScalar.jo (by decide)) lm_Ss_64 ji_Kit_nextScalar js_Kit_nextScalar (w62 _) rfl rfl rfl (Nat.le_of_ble_eq_true rfl) (by decide) (by decide) (c_Kit_nextScalar G u64 329 32 (by decide) w329 (by omega) (by omega) hv65) (fun r u74 hq => ?_)
  obtain ⟨hr, hv75, hm76⟩ := hq
  rw [hr]
  clear hr r
  have hm77 := hm66.go hm76 (by intro i hi; simp only [List.mem_cons, List.not_mem_nil, or_false] at hi ⊢ <;> omega)
  have e78 : u74 48 = nI 0 := (hm76 48 (by decide)).trans e67
  have e79 : u74 51 = nI 0 := (hm76 51 (by decide)).trans e68
  have e80 : u74 49 = nI 0 := (hm76 49 (by decide)).trans e69
  have e81 : u74 52 = nI 0 := (hm76 52 (by decide)).trans e70
  have e82 : u74 50 = nI 0 := (hm76 50 (by decide)).trans e71
  have e83 : u74 53 = nI 0 := (hm76 53 (by decide)).trans e72
  have e84 : u74 44 = nI usr := (hm76 44 (by decide)).trans e73
  have e85 : u74 46 = nI 0 := (hm76 46 (by decide)).trans e_u64
  show ST G mi_Ss_start 78 [(4, .int (nI 3)), (0, .ref 317), (1, .ref 62), (2, .int (nI usr)), (3, .ref b)] [] u74 0 0 _
  refine ST.lift (fun _ _ k => T_aload_n (v := .ref 62) d_Ss_start_78 rfl (Or.inr ⟨_, rfl⟩) k) ?_
  refine ST.lift (fun _ _ k => T_aload_n (v := .ref 317) d_Ss_start_79 rfl (Or.inr ⟨_, rfl⟩) k) ?_
  refine S_getfield d_Ss_start_80 fg_Ss_34 (w317 _) rfl ?_
  refine ST.lift (fun _ _ k => T_aload_n (v := .ref 62) d_Ss_start_83 rfl (Or.inr ⟨_, rfl⟩) k) ?_
  refine S_getfield d_Ss_start_84 fg_Ss_70 (w62 _) rfl ?_
  refine S_virtual (as := [.ref 323, .ref 188]) (rest := []) (b := 62) d_Ss_start_87 rfl (jw_Kit_groupOf.jo (by decide)) lm_Ss_74 ji_Kit_groupOf js_Kit_groupOf (w62 _) rfl rfl rfl (Nat.le_of_ble_eq_true rfl) (by decide) (by decide) (c_Kit_groupOf G u74 323 324 200 45 ⟨w323, w324, by decide, u323_1, by decide, by decide⟩ 188 189 190 191 192 ⟨w188, w189, w190, w191, w192, by decide, by decide, by decide, by decide⟩ hv75) (fun r u86 hq => ?_)
  obtain ⟨hr, hv87, hm88⟩ := hq
  rw [hr]
  clear hr r
  have hm89 := hm77.go hm88 (by intro i hi; simp only [List.mem_cons, List.not_mem_nil, or_false] at hi ⊢ <;> omega)
  have e90 : u86 48 = nI 0 := (hm88 48 (by decide)).trans e78
  have e91 : u86 51 = nI 0 := (hm88 51 (by decide)).trans e79
  have e92 : u86 49 = nI 0 := (hm88 49 (by decide)).trans e80
  have e93 : u86 52 = nI 0 := (hm88 52 (by decide)).trans e81
  have e94 : u86 50 = nI 0 := (hm88 50 (by decide)).trans e82
  have e95 : u86 53 = nI 0 := (hm88 53 (by decide)).trans e83
  have e96 : u86 44 = nI usr := (hm88 44 (by decide)).trans e84
  have e97 : u86 46 = nI 0 := (hm88 46 (by decide)).trans e85
  show ST G mi_Ss_start 90 [(4, .int (nI 3)), (0, .ref 317), (1, .ref 62), (2, .int (nI usr)), (3, .ref b)] [] u86 0 0 _
  refine ST.lift (fun _ _ k => T_aload_n (v := .ref 62) d_Ss_start_90 rfl (Or.inr ⟨_, rfl⟩) k) ?_
  refine S_getfield d_Ss_start_91 fg_Ss_78 (w62 _) rfl ?_
  refine ST.lift (fun _ _ k => T_aload_n (v := .ref 62) d_Ss_start_94 rfl (Or.inr ⟨_, rfl⟩) k) ?_
  refine S_getfield d_Ss_start_95 fg_Ss_70 (w62 _) rfl ?_
  refine ST.lift (fun _ _ k => T_aload_n (v := .ref 317) d_Ss_start_98 rfl (Or.inr ⟨_, rfl⟩) k) ?_
  refine S_getfield d_Ss_start_99 fg_Ss_44 (w317 _) rfl ?_
  refine ST.lift (fun _ _ k => T_aload_n (v := .ref 62) d_Ss_start_102 rfl (Or.inr ⟨_, rfl⟩) k) ?_
  refine S_getfield d_Ss_start_103 fg_Ss_70 (w62 _) rfl ?_
  refine S_virtual (as := [.ref 188, .ref 329, .ref 188]) (rest := []) (b := 77) d_Ss_start_106 rfl (jw_Cu_multiply.jo (by decide)) lm_Ss_82 ji_Cu_multiply js_Cu_multiply (w77 _) rfl rfl rfl (Nat.le_of_ble_eq_true rfl) (by decide) (by decide) (c_Cu_multiply G u86 188 189 190 191 192 ⟨w188, w189, w190, w191, w192, by decide, by decide, by decide, by decide⟩ 329 32 (by decide) w329 (by omega) 188 189 190 191 192 ⟨w188, w189, w190, w191, w192, by decide, by decide, by decide, by decide⟩ (by omega)) (fun r v' hq => ?_)
  rw [hq.1, hq.2]
  clear hq r v'
  show ST G mi_Ss_start 109 [(4, .int (nI 3)), (0, .ref 317), (1, .ref 62), (2, .int (nI usr)), (3, .ref b)] [] u86 0 0 _
  refine ST.lift (fun _ _ k => T_aload_n (v := .ref 62) d_Ss_start_109 rfl (Or.inr ⟨_, rfl⟩) k) ?_
  refine S_getfield d_Ss_start_110 fg_Ss_78 (w62 _) rfl ?_
  refine ST.lift (fun _ _ k => T_aload_n (v := .ref 62) d_Ss_start_113 rfl (Or.inr ⟨_, rfl⟩) k) ?_
  refine S_getfield d_Ss_start_114 fg_Ss_70 (w62 _) rfl ?_
  refine ST.lift (fun _ _ k => T_aload_n (v := .ref 317) d_Ss_start_117 rfl (Or.inr ⟨_, rfl⟩) k) ?_
  refine S_getfield d_Ss_start_118 fg_Ss_38 (w317 _) rfl ?_
  refine S_virtual (as := [.ref 188, .ref 325]) (rest := []) (b := 77) d_Ss_start_121 rfl (jw_Cu_code.jo (by decide)) lm_Ss_88 ji_Cu_code js_Cu_code (w77 _) rfl rfl rfl (Nat.le_of_ble_eq_true rfl) (by decide) (by decide) (c_Cu_code G u86 188 189 190 191 192 ⟨w188, w189, w190, w191, w192, by decide, by decide, by decide, by decide⟩ 325 326 96 46 ⟨w325, w326, by decide, u325_1, by decide, by decide⟩ hv87) (fun r u98 hq => ?_)
  obtain ⟨hr, hv99, hm100⟩ := hq
  rw [hr]
  clear hr r
  have hm101 := hm89.go hm100 (by intro i hi; simp only [List.mem_cons, List.not_mem_nil, or_false] at hi ⊢ <;> omega)
  have e102 : u98 48 = nI 0 := (hm100 48 (by decide)).trans e90
  have e103 : u98 51 = nI 0 := (hm100 51 (by decide)).trans e91
  have e104 : u98 49 = nI 0 := (hm100 49 (by decide)).trans e92
  have e105 : u98 52 = nI 0 := (hm100 52 (by decide)).trans e93
  have e106 : u98 50 = nI 0 := (hm100 50 (by decide)).trans e94
  have e107 : u98 53 = nI 0 := (hm100 53 (by decide)).trans e95
  have e108 : u98 44 = nI usr := (hm100 44 (by decide)).trans e96
  show ST G mi_Ss_start 124 [(4, .int (nI 3)), (0, .ref 317), (1, .ref 62), (2, .int (nI usr)), (3, .ref b)] [] u98 0 0 _
  refine ST.lift (fun _ _ k => T_aload_n (v := .ref 62) d_Ss_start_124 rfl (Or.inr ⟨_, rfl⟩) k) ?_
  refine ST.lift (fun _ _ k => T_aload_n (v := .ref 317) d_Ss_start_125 rfl (Or.inr ⟨_, rfl⟩) k) ?_
  refine S_getfield d_Ss_start_126 fg_Ss_38 (w317 _) rfl ?_
  refine S_virtual (as := [.ref 325]) (rest := []) (b := 62) d_Ss_start_129 rfl (jw_Kit_putNonce.jo (by decide)) lm_Ss_92 ji_Kit_putNonce js_Kit_putNonce (w62 _) rfl rfl rfl (Nat.le_of_ble_eq_true rfl) (by decide) (by decide) (c_Kit_putNonce G u98 325 326 96 46 ⟨w325, w326, by decide, u325_1, by decide, by decide⟩ hv99) (fun r u109 hq => ?_)
  obtain ⟨hr, hv110, hm111⟩ := hq
  rw [hr]
  clear hr r
  have hm112 := hm101.go hm111 (by intro i hi; simp only [List.mem_cons, List.not_mem_nil, or_false] at hi ⊢ <;> omega)
  have e113 : u109 48 = nI 0 := (hm111 48 (by decide)).trans e102
  have e114 : u109 51 = nI 0 := (hm111 51 (by decide)).trans e103
  have e115 : u109 49 = nI 0 := (hm111 49 (by decide)).trans e104
  have e116 : u109 52 = nI 0 := (hm111 52 (by decide)).trans e105
  have e117 : u109 50 = nI 0 := (hm111 50 (by decide)).trans e106
  have e118 : u109 53 = nI 0 := (hm111 53 (by decide)).trans e107
  have e119 : u109 44 = nI usr := (hm111 44 (by decide)).trans e108
  show ST G mi_Ss_start 132 [(4, .int (nI 3)), (0, .ref 317), (1, .ref 62), (2, .int (nI usr)), (3, .ref b)] [] u109 0 0 _
  refine ST.lift (fun _ _ k => T_aload_n (v := .ref 62) d_Ss_start_132 rfl (Or.inr ⟨_, rfl⟩) k) ?_
  refine ST.lift (fun _ _ k => T_aload_n (v := .ref 317) d_Ss_start_133 rfl (Or.inr ⟨_, rfl⟩) k) ?_
  refine S_getfield d_Ss_start_134 fg_Ss_47 (w317 _) rfl ?_
  refine S_virtual (as := [.ref 330]) (rest := []) (b := 62) d_Ss_start_137 rfl (jw_Kit_nextScalar.jo (by decide)) lm_Ss_64 ji_Kit_nextScalar js_Kit_nextScalar (w62 _) rfl rfl rfl (Nat.le_of_ble_eq_true rfl) (by decide) (by decide) (c_Kit_nextScalar G u109 330 32 (by decide) w330 (by omega) (by omega) hv110) (fun r u120 hq => ?_)
  obtain ⟨hr, hv121, hm122⟩ := hq
  rw [hr]
  clear hr r
  have hm123 := hm112.go hm122 (by intro i hi; simp only [List.mem_cons, List.not_mem_nil, or_false] at hi ⊢ <;> omega)
  have e124 : u120 48 = nI 0 := (hm122 48 (by decide)).trans e113
  have e125 : u120 51 = nI 0 := (hm122 51 (by decide)).trans e114
  have e126 : u120 49 = nI 0 := (hm122 49 (by decide)).trans e115
  have e127 : u120 52 = nI 0 := (hm122 52 (by decide)).trans e116
  have e128 : u120 50 = nI 0 := (hm122 50 (by decide)).trans e117
  have e129 : u120 53 = nI 0 := (hm122 53 (by decide)).trans e118
  have e130 : u120 44 = nI usr := (hm122 44 (by decide)).trans e119
  show ST G mi_Ss_start 140 [(4, .int (nI 3)), (0, .ref 317), (1, .ref 62), (2, .int (nI usr)), (3, .ref b)] [] u120 0 0 _
  refine ST.lift (fun _ _ k => T_aload_n (v := .ref 62) d_Ss_start_140 rfl (Or.inr ⟨_, rfl⟩) k) ?_
  refine ST.lift (fun _ _ k => T_aload_n (v := .ref 317) d_Ss_start_141 rfl (Or.inr ⟨_, rfl⟩) k) ?_
  refine S_getfield d_Ss_start_142 fg_Ss_47 (w317 _) rfl ?_
  refine ST.lift (fun _ _ k => T_aload_n (v := .ref 317) d_Ss_start_145 rfl (Or.inr ⟨_, rfl⟩) k) ?_
  refine S_getfield d_Ss_start_146 fg_Ss_38 (w317 _) rfl ?_
  refine S_virtual (as := [.ref 330, .ref 325]) (rest := []) (b := 62) d_Ss_start_149 rfl (jw_Kit_putPublic.jo (by decide)) lm_Ss_95 ji_Kit_putPublic js_Kit_putPublic (w62 _) rfl rfl rfl (Nat.le_of_ble_eq_true rfl) (by decide) (by decide) (c_Kit_putPublic G u120 330 32 (by decide) w330 (by omega) 325 326 96 46 ⟨w325, w326, by decide, u325_1, by decide, by decide⟩ (by omega) hv121) (fun r u131 hq => ?_)
  obtain ⟨hr, hv132, hm133⟩ := hq
  rw [hr]
  clear hr r
  have hm134 := hm123.go hm133 (by intro i hi; simp only [List.mem_cons, List.not_mem_nil, or_false] at hi ⊢ <;> omega)
  have e135 : u131 48 = nI 0 := (hm133 48 (by decide)).trans e124
  have e136 : u131 51 = nI 0 := (hm133 51 (by decide)).trans e125
  have e137 : u131 49 = nI 0 := (hm133 49 (by decide)).trans e126
  have e138 : u131 52 = nI 0 := (hm133 52 (by decide)).trans e127
  have e139 : u131 50 = nI 0 := (hm133 50 (by decide)).trans e128
  have e140 : u131 53 = nI 0 := (hm133 53 (by decide)).trans e129
  have e141 : u131 44 = nI usr := (hm133 44 (by decide)).trans e130
  show ST G mi_Ss_start 152 [(4, .int (nI 3)), (0, .ref 317), (1, .ref 62), (2, .int (nI usr)), (3, .ref b)] [] u131 0 0 _
  refine ST.lift (fun _ _ k => T_aload_n (v := .ref 317) d_Ss_start_152 rfl (Or.inr ⟨_, rfl⟩) k) ?_
  refine S_getfield d_Ss_start_153 fg_Ss_11 (w317 _) rfl ?_
  refine ST.lift (fun _ _ k => T_iconst (v := nI 0) d_Ss_start_156 (by decide) k) ?_
  refine S_aaload (C0 := "PasswordGate$Bytes") d_Ss_start_157 (by decide) (w318 _) rfl (vp_in_nI (by omega) (by omega)) ?_
  refine ST.lift (fun _ _ k => T_aload_n (v := .ref 317) d_Ss_start_158 rfl (Or.inr ⟨_, rfl⟩) k) ?_
  refine S_getfield d_Ss_start_159 fg_Ss_38 (w317 _) rfl ?_
  refine S_virtual (as := [.ref 325]) (rest := []) (b := 331) d_Ss_start_162 rfl (jw_By_putAll.jo (by decide)) lm_Ss_60 ji_By_putAll js_By_putAll (w331 _) rfl rfl rfl (Nat.le_of_ble_eq_true rfl) (by decide) (by decide) (c_By_putAll G u131 331 332 96 48 ⟨w331, w332, by decide, u331_1, by decide, by decide⟩ 325 326 96 46 ⟨w325, w326, by decide, u325_1, by decide, by decide⟩ hv132) (fun r u142 hq => ?_)
  obtain ⟨hr, hv143, hm144⟩ := hq
  rw [hr]
  clear hr r
  have hm145 := hm134.go hm144 (by intro i hi; simp only [List.mem_cons, List.not_mem_nil, or_false] at hi ⊢ <;> omega)
  have e146 : u142 51 = nI 0 := (hm144 51 (by decide)).trans e136
  have e147 : u142 49 = nI 0 := (hm144 49 (by decide)).trans e137
  have e148 : u142 52 = nI 0 := (hm144 52 (by decide)).trans e138
  have e149 : u142 50 = nI 0 := (hm144 50 (by decide)).trans e139
  have e150 : u142 53 = nI 0 := (hm144 53 (by decide)).trans e140
  have e151 : u142 44 = nI usr := (hm144 44 (by decide)).trans e141
  show ST G mi_Ss_start 165 [(4, .int (nI 3)), (0, .ref 317), (1, .ref 62), (2, .int (nI usr)), (3, .ref b)] [] u142 0 0 _
  exact S_vret d_Ss_start_165 rfl (by decide) (by decide) (hQ _ hv143 hm145)
set_option maxRecDepth 100000 in
set_option maxHeartbeats 4000000 in
theorem c_Ss_confirmServer_317 (G : GX) (v : Nat → Int32) (hv : okv v) : CS G mi_Ss_confirmServer [.ref 317, .ref 62, .ref 217] v (fun r v' => ∃ z : Int32, r = some (.int z) ∧ okv v' ∧ mdf [6, 7, 5, 2, 3, 1, 4, 8, 9, 10, 48, 49, 50, 51, 52, 53, 45, 46, 47, 44] v v') := by
  refine CS.of (by decide) (Nat.le_of_ble_eq_true rfl) ?_
  generalize hQe : (fun (r : Option Value) (v' : Nat → Int32) => ∃ z : Int32, r = some (.int z) ∧ okv v' ∧ mdf [6, 7, 5, 2, 3, 1, 4, 8, 9, 10, 48, 49, 50, 51, 52, 53, 45, 46, 47, 44] v v') = Q
  have hQ : ∀ (z : Int32) (u : Nat → Int32), okv u → mdf [6, 7, 5, 2, 3, 1, 4, 8, 9, 10, 48, 49, 50, 51, 52, 53, 45, 46, 47, 44] v u → Q (some (.int z)) u := by rw [← hQe]; exact fun z u h1 h2 => ⟨z, rfl, h1, h2⟩
  clear hQe
  have hm : mdf [6, 7, 5, 2, 3, 1, 4, 8, 9, 10, 48, 49, 50, 51, 52, 53, 45, 46, 47, 44] v v := mdf.rf
  show ST G mi_Ss_confirmServer 0 [(0, .ref 317), (1, .ref 62), (2, .ref 217)] [] v 0 0 Q
  refine ST.lift (fun _ _ k => T_aload_n (v := .ref 317) d_Ss_confirmServer_0 rfl (Or.inr ⟨_, rfl⟩) k) ?_
  refine S_getfield d_Ss_confirmServer_1 fg_Ss_11 (w317 _) rfl ?_
  refine ST.lift (fun _ _ k => T_iconst (v := nI 1) d_Ss_confirmServer_4 (by decide) k) ?_
  refine S_aaload (C0 := "PasswordGate$Bytes") d_Ss_confirmServer_5 (by decide) (w318 _) rfl (vp_in_nI (by omega) (by omega)) ?_
  refine S_getfield d_Ss_confirmServer_6 fg_Ss_99 (w333 _) rfl ?_
  refine ST.lift (fun _ _ k => T_astore_n (L' := [(3, .ref 334), (0, .ref 317), (1, .ref 62), (2, .ref 217)]) d_Ss_confirmServer_9 (by decide) rfl (Or.inr ⟨_, rfl⟩) k) ?_
  refine ST.lift (fun _ _ k => T_aload_n (v := .ref 62) d_Ss_confirmServer_10 rfl (Or.inr ⟨_, rfl⟩) k) ?_
  refine S_getfield d_Ss_confirmServer_11 fg_Ss_78 (w62 _) rfl ?_
  refine ST.lift (fun _ _ k => T_aload_n (v := .ref 334) d_Ss_confirmServer_14 rfl (Or.inr ⟨_, rfl⟩) k) ?_
  refine ST.lift (fun _ _ k => T_iconst (v := nI 0) d_Ss_confirmServer_15 (by decide) k) ?_
  refine ST.lift (fun _ _ k => T_aload_n (v := .ref 62) d_Ss_confirmServer_16 rfl (Or.inr ⟨_, rfl⟩) k) ?_
  refine S_getfield d_Ss_confirmServer_17 fg_Ss_70 (w62 _) rfl ?_
  refine S_virtual (as := [.ref 334, .int (nI 0), .ref 188]) (rest := []) (b := 77) d_Ss_confirmServer_20 rfl (jw_Cu_decode.jo (by decide)) lm_Ss_102 ji_Cu_decode js_Cu_decode (w77 _) rfl rfl rfl (Nat.le_of_ble_eq_true rfl) (by decide) (by decide) (c_Cu_decode G v 334 320 (by decide) w334 (by omega) 0 (by omega) 188 189 190 191 192 ⟨w188, w189, w190, w191, w192, by decide, by decide, by decide, by decide⟩ hv) (fun r u1 hq => ?_)
  obtain ⟨z4, hz4, hr, hv2, hm3⟩ := hq
  rw [hr]
  clear hr r
  have hm5 := hm.go hm3 (by intro i hi; simp only [List.mem_cons, List.not_mem_nil, or_false] at hi ⊢ <;> omega)
  show ST G mi_Ss_confirmServer 23 [(3, .ref 334), (0, .ref 317), (1, .ref 62), (2, .ref 217)] [.int (nI z4)] u1 0 0 _
  refine S_if_neN d_Ss_confirmServer_23 rfl (by omega) (fun c6 => ?_) (fun c6 => ?_)
  · refine ST.lift (fun _ _ k => T_aload_n (v := .ref 62) d_Ss_confirmServer_28 rfl (Or.inr ⟨_, rfl⟩) k) ?_
    refine S_getfield d_Ss_confirmServer_29 fg_Ss_106 (w62 _) rfl ?_
    refine ST.lift (fun _ _ k => T_aload_n (v := .ref 317) d_Ss_confirmServer_32 rfl (Or.inr ⟨_, rfl⟩) k) ?_
    refine S_getfield d_Ss_confirmServer_33 fg_Ss_44 (w317 _) rfl ?_
    refine ST.lift (fun _ _ k => T_aload_n (v := .ref 62) d_Ss_confirmServer_36 rfl (Or.inr ⟨_, rfl⟩) k) ?_
    refine S_getfield d_Ss_confirmServer_37 fg_Ss_110 (w62 _) rfl ?_
    refine S_virtual (as := [.ref 329, .ref 198]) (rest := []) (b := 183) d_Ss_confirmServer_40 rfl (jw_Sc_invert.jo (by decide)) lm_Ss_113 ji_Sc_invert js_Sc_invert (w183 _) rfl rfl rfl (Nat.le_of_ble_eq_true rfl) (by decide) (by decide) (c_Sc_invert G u1 329 32 (by decide) w329 (by omega) 198 32 (by decide) w198 (by omega) (by omega)) (fun r v' hq => ?_)
    rw [hq.1, hq.2]
    clear hq r v'
    show ST G mi_Ss_confirmServer 43 [(3, .ref 334), (0, .ref 317), (1, .ref 62), (2, .ref 217)] [] u1 0 0 _
    refine ST.lift (fun _ _ k => T_aload_n (v := .ref 62) d_Ss_confirmServer_43 rfl (Or.inr ⟨_, rfl⟩) k) ?_
    refine S_getfield d_Ss_confirmServer_44 fg_Ss_78 (w62 _) rfl ?_
    refine ST.lift (fun _ _ k => T_aload_n (v := .ref 62) d_Ss_confirmServer_47 rfl (Or.inr ⟨_, rfl⟩) k) ?_
    refine S_getfield d_Ss_confirmServer_48 fg_Ss_70 (w62 _) rfl ?_
    refine ST.lift (fun _ _ k => T_aload_n (v := .ref 62) d_Ss_confirmServer_51 rfl (Or.inr ⟨_, rfl⟩) k) ?_
    refine S_getfield d_Ss_confirmServer_52 fg_Ss_110 (w62 _) rfl ?_
    refine ST.lift (fun _ _ k => T_aload_n (v := .ref 62) d_Ss_confirmServer_55 rfl (Or.inr ⟨_, rfl⟩) k) ?_
    refine S_getfield d_Ss_confirmServer_56 fg_Ss_70 (w62 _) rfl ?_
    refine S_virtual (as := [.ref 188, .ref 198, .ref 188]) (rest := []) (b := 77) d_Ss_confirmServer_59 rfl (jw_Cu_multiply.jo (by decide)) lm_Ss_82 ji_Cu_multiply js_Cu_multiply (w77 _) rfl rfl rfl (Nat.le_of_ble_eq_true rfl) (by decide) (by decide) (c_Cu_multiply G u1 188 189 190 191 192 ⟨w188, w189, w190, w191, w192, by decide, by decide, by decide, by decide⟩ 198 32 (by decide) w198 (by omega) 188 189 190 191 192 ⟨w188, w189, w190, w191, w192, by decide, by decide, by decide, by decide⟩ (by omega)) (fun r v' hq => ?_)
    rw [hq.1, hq.2]
    clear hq r v'
    show ST G mi_Ss_confirmServer 62 [(3, .ref 334), (0, .ref 317), (1, .ref 62), (2, .ref 217)] [] u1 0 0 _
    refine ST.lift (fun _ _ k => T_aload_n (v := .ref 62) d_Ss_confirmServer_62 rfl (Or.inr ⟨_, rfl⟩) k) ?_
    refine ST.lift (fun _ _ k => T_aload_n (v := .ref 317) d_Ss_confirmServer_63 rfl (Or.inr ⟨_, rfl⟩) k) ?_
    refine S_getfield d_Ss_confirmServer_64 fg_Ss_34 (w317 _) rfl ?_
    refine ST.lift (fun _ _ k => T_aload_n (v := .ref 62) d_Ss_confirmServer_67 rfl (Or.inr ⟨_, rfl⟩) k) ?_
    refine S_getfield d_Ss_confirmServer_68 fg_Ss_70 (w62 _) rfl ?_
    refine S_virtual (as := [.ref 323, .ref 188]) (rest := []) (b := 62) d_Ss_confirmServer_71 rfl (jw_Kit_randomize.jo (by decide)) lm_Ss_119 ji_Kit_randomize js_Kit_randomize (w62 _) rfl rfl rfl (Nat.le_of_ble_eq_true rfl) (by decide) (by decide) (c_Kit_randomize G u1 323 324 200 45 ⟨w323, w324, by decide, u323_1, by decide, by decide⟩ 188 189 190 191 192 ⟨w188, w189, w190, w191, w192, by decide, by decide, by decide, by decide⟩ hv2) (fun r u7 hq => ?_)
    obtain ⟨hr, hv8, hm9⟩ := hq
    rw [hr]
    clear hr r
    have hm10 := hm5.go hm9 (by intro i hi; simp only [List.mem_cons, List.not_mem_nil, or_false] at hi ⊢ <;> omega)
    show ST G mi_Ss_confirmServer 74 [(3, .ref 334), (0, .ref 317), (1, .ref 62), (2, .ref 217)] [] u7 0 0 _
    refine ST.lift (fun _ _ k => T_aload_n (v := .ref 317) d_Ss_confirmServer_74 rfl (Or.inr ⟨_, rfl⟩) k) ?_
    refine S_getfield d_Ss_confirmServer_75 fg_Ss_41 (w317 _) rfl ?_
    refine S_virtual (as := []) (rest := []) (b := 327) d_Ss_confirmServer_78 rfl (jw_By_clear.jo (by decide)) lm_Ss_54 ji_By_clear js_By_clear (w327 _) rfl rfl rfl (Nat.le_of_ble_eq_true rfl) (by decide) (by decide) (c_By_clear G u7 327 328 128 47 ⟨w327, w328, by decide, u327_1, by decide, by decide⟩ hv8) (fun r v' hq => ?_)
    rw [hq.1, hq.2]
    clear hq r v'
    show ST G mi_Ss_confirmServer 81 [(3, .ref 334), (0, .ref 317), (1, .ref 62), (2, .ref 217)] [] (va_up u7 47 (nI 0)) 0 0 _
    have hv12 := hv8.up (j := 47) (c := 128) (k := 0) (by decide) (by omega)
    have hm13 := hm10.go (mdf.up (v := u7) (j := 47) (x := (nI 0))) (by intro i hi; simp only [List.mem_cons, List.not_mem_nil, or_false] at hi ⊢ <;> omega)
    have e_u11 : (va_up u7 47 (nI 0)) 47 = (nI 0) := by simp [va_up]
    generalize va_up u7 47 (nI 0) = u11 at hv12 hm13 e_u11 ⊢
    refine ST.lift (fun _ _ k => T_aload_n (v := .ref 62) d_Ss_confirmServer_81 rfl (Or.inr ⟨_, rfl⟩) k) ?_
    refine ST.lift (fun _ _ k => T_aload_n (v := .ref 62) d_Ss_confirmServer_82 rfl (Or.inr ⟨_, rfl⟩) k) ?_
    refine S_getfield d_Ss_confirmServer_83 fg_Ss_122 (w62 _) rfl ?_
    refine ST.lift (fun _ _ k => T_aload_n (v := .ref 334) d_Ss_confirmServer_86 rfl (Or.inr ⟨_, rfl⟩) k) ?_
    refine ST.lift (fun _ _ k => T_aload_n (v := .ref 334) d_Ss_confirmServer_87 rfl (Or.inr ⟨_, rfl⟩) k) ?_
    refine ST.lift (fun _ _ k => T_bipush (v := nI 64) d_Ss_confirmServer_88 (by decide) k) ?_
    refine ST.lift (fun _ _ k => T_aload_n (v := .ref 317) d_Ss_confirmServer_90 rfl (Or.inr ⟨_, rfl⟩) k) ?_
    refine S_getfield d_Ss_confirmServer_91 fg_Ss_41 (w317 _) rfl ?_
    refine S_virtual (as := [.ref 201, .ref 334, .ref 334, .int (nI 64), .ref 327]) (rest := []) (b := 62) d_Ss_confirmServer_94 rfl (jw_Kit_putMasked.jo (by decide)) lm_Ss_125 ji_Kit_putMasked js_Kit_putMasked (w62 _) rfl rfl rfl (Nat.le_of_ble_eq_true rfl) (by decide) (by decide) (c_Kit_putMasked G u11 201 64 (by decide) w201 (by omega) 334 320 (by decide) w334 (by omega) 334 320 (by decide) w334 (by omega) 64 (by omega) 327 328 128 47 ⟨w327, w328, by decide, u327_1, by decide, by decide⟩ (by omega) hv12) (fun r u14 hq => ?_)
    obtain ⟨hr, hv15, hm16⟩ := hq
    rw [hr]
    clear hr r
    have hm17 := hm13.go hm16 (by intro i hi; simp only [List.mem_cons, List.not_mem_nil, or_false] at hi ⊢ <;> omega)
    show ST G mi_Ss_confirmServer 97 [(3, .ref 334), (0, .ref 317), (1, .ref 62), (2, .ref 217)] [] u14 0 0 _
    refine ST.lift (fun _ _ k => T_aload_n (v := .ref 62) d_Ss_confirmServer_97 rfl (Or.inr ⟨_, rfl⟩) k) ?_
    refine ST.lift (fun _ _ k => T_aload_n (v := .ref 317) d_Ss_confirmServer_98 rfl (Or.inr ⟨_, rfl⟩) k) ?_
    refine S_getfield d_Ss_confirmServer_99 fg_Ss_41 (w317 _) rfl ?_
    refine S_getfield d_Ss_confirmServer_102 fg_Ss_99 (w327 _) rfl ?_
    refine ST.lift (fun _ _ k => T_bipush (v := nI 32) d_Ss_confirmServer_105 (by decide) k) ?_
    refine ST.lift (fun _ _ k => T_aload_n (v := .ref 317) d_Ss_confirmServer_107 rfl (Or.inr ⟨_, rfl⟩) k) ?_
    refine S_getfield d_Ss_confirmServer_108 fg_Ss_41 (w317 _) rfl ?_
    refine S_getfield d_Ss_confirmServer_111 fg_Ss_99 (w327 _) rfl ?_
    refine S_virtual (as := [.ref 328, .int (nI 32), .ref 328]) (rest := []) (b := 62) d_Ss_confirmServer_114 rfl (jw_Kit_sealEnvelope.jo (by decide)) lm_Ss_129 ji_Kit_sealEnvelope js_Kit_sealEnvelope (w62 _) rfl rfl rfl (Nat.le_of_ble_eq_true rfl) (by decide) (by decide) (c_Kit_sealEnvelope G u14 328 128 (by decide) w328 (by omega) 32 (by omega) 328 128 (by decide) w328 (by omega) hv15) (fun r u18 hq => ?_)
    obtain ⟨hr, hv19, hm20⟩ := hq
    rw [hr]
    clear hr r
    have hm21 := hm17.go hm20 (by intro i hi; simp only [List.mem_cons, List.not_mem_nil, or_false] at hi ⊢ <;> omega)
    show ST G mi_Ss_confirmServer 117 [(3, .ref 334), (0, .ref 317), (1, .ref 62), (2, .ref 217)] [] u18 0 0 _
    refine ST.lift (fun _ _ k => T_aload_n (v := .ref 317) d_Ss_confirmServer_117 rfl (Or.inr ⟨_, rfl⟩) k) ?_
    refine S_getfield d_Ss_confirmServer_118 fg_Ss_41 (w317 _) rfl ?_
    refine ST.lift (fun _ _ k => T_bipush (v := nI 64) d_Ss_confirmServer_121 (by decide) k) ?_
    refine ST.lift (fun _ _ k => T_aload_n (v := .ref 62) d_Ss_confirmServer_123 rfl (Or.inr ⟨_, rfl⟩) k) ?_
    refine S_getfield d_Ss_confirmServer_124 fg_Ss_133 (w62 _) rfl ?_
    refine ST.lift (fun _ _ k => T_iconst (v := nI 0) d_Ss_confirmServer_127 (by decide) k) ?_
    refine S_virtual (as := [.int (nI 64), .ref 205, .int (nI 0)]) (rest := []) (b := 327) d_Ss_confirmServer_128 rfl (jw_By_endsLike.jo (by decide)) lm_Ss_136 ji_By_endsLike js_By_endsLike (w327 _) rfl rfl rfl (Nat.le_of_ble_eq_true rfl) (by decide) (by decide) (c_By_endsLike G u18 327 328 128 47 ⟨w327, w328, by decide, u327_1, by decide, by decide⟩ 64 (by omega) 205 64 (by decide) w205 (by omega) 0 (by omega) hv19) (fun r u22 hq => ?_)
    obtain ⟨z25, hz25, hr, hv23, hm24⟩ := hq
    rw [hr]
    clear hr r
    have hm26 := hm21.go hm24 (by intro i hi; simp only [List.mem_cons, List.not_mem_nil, or_false] at hi ⊢ <;> omega)
    show ST G mi_Ss_confirmServer 131 [(3, .ref 334), (0, .ref 317), (1, .ref 62), (2, .ref 217)] [.int (nI z25)] u22 0 0 _
    refine S_if_neN d_Ss_confirmServer_131 rfl (by omega) (fun c27 => ?_) (fun c27 => ?_)
    · refine ST.lift (fun _ _ k => T_aload_n (v := .ref 62) d_Ss_confirmServer_136 rfl (Or.inr ⟨_, rfl⟩) k) ?_
      refine S_getfield d_Ss_confirmServer_137 fg_Ss_78 (w62 _) rfl ?_
      refine ST.lift (fun _ _ k => T_aload_n (v := .ref 317) d_Ss_confirmServer_140 rfl (Or.inr ⟨_, rfl⟩) k) ?_
      refine S_getfield d_Ss_confirmServer_141 fg_Ss_41 (w317 _) rfl ?_
      refine S_getfield d_Ss_confirmServer_144 fg_Ss_99 (w327 _) rfl ?_
      refine ST.lift (fun _ _ k => T_iconst (v := nI 0) d_Ss_confirmServer_147 (by decide) k) ?_
      refine ST.lift (fun _ _ k => T_aload_n (v := .ref 62) d_Ss_confirmServer_148 rfl (Or.inr ⟨_, rfl⟩) k) ?_
      refine S_getfield d_Ss_confirmServer_149 fg_Ss_70 (w62 _) rfl ?_
      refine S_virtual (as := [.ref 328, .int (nI 0), .ref 188]) (rest := []) (b := 77) d_Ss_confirmServer_152 rfl (jw_Cu_decode.jo (by decide)) lm_Ss_102 ji_Cu_decode js_Cu_decode (w77 _) rfl rfl rfl (Nat.le_of_ble_eq_true rfl) (by decide) (by decide) (c_Cu_decode G u22 328 128 (by decide) w328 (by omega) 0 (by omega) 188 189 190 191 192 ⟨w188, w189, w190, w191, w192, by decide, by decide, by decide, by decide⟩ hv23) (fun r u28 hq => ?_)
      obtain ⟨z31, hz31, hr, hv29, hm30⟩ := hq
      rw [hr]
      clear hr r
      have hm32 := hm26.go hm30 (by intro i hi; simp only [List.mem_cons, List.not_mem_nil, or_false] at hi ⊢ <;> omega)
      show ST G mi_Ss_confirmServer 155 [(3, .ref 334), (0, .ref 317), (1, .ref 62), (2, .ref 217)] [.int (nI z31)] u28 0 0 _
      refine S_if_eqN d_Ss_confirmServer_155 rfl (by omega) (fun c33 => ?_) (fun c33 => ?_)
      · refine ST.lift (fun _ _ k => T_iconst (v := nI 1) d_Ss_confirmServer_176 (by decide) k) ?_
        exact S_ret d_Ss_confirmServer_177 rfl rfl (by decide) (by decide) (hQ _ _ hv29 hm32)
      · refine ST.lift (fun _ _ k => T_aload_n (v := .ref 62) d_Ss_confirmServer_158 rfl (Or.inr ⟨_, rfl⟩) k) ?_
        refine S_getfield d_Ss_confirmServer_159 fg_Ss_78 (w62 _) rfl ?_
        refine ST.lift (fun _ _ k => T_aload_n (v := .ref 334) d_Ss_confirmServer_162 rfl (Or.inr ⟨_, rfl⟩) k) ?_
        refine ST.lift (fun _ _ k => T_sipush (v := nI 224) d_Ss_confirmServer_163 (by decide) k) ?_
        refine ST.lift (fun _ _ k => T_aload_n (v := .ref 62) d_Ss_confirmServer_166 rfl (Or.inr ⟨_, rfl⟩) k) ?_
        refine S_getfield d_Ss_confirmServer_167 fg_Ss_140 (w62 _) rfl ?_
        refine S_virtual (as := [.ref 334, .int (nI 224), .ref 193]) (rest := []) (b := 77) d_Ss_confirmServer_170 rfl (jw_Cu_decode.jo (by decide)) lm_Ss_102 ji_Cu_decode js_Cu_decode (w77 _) rfl rfl rfl (Nat.le_of_ble_eq_true rfl) (by decide) (by decide) (c_Cu_decode G u28 334 320 (by decide) w334 (by omega) 224 (by omega) 193 194 195 196 197 ⟨w193, w194, w195, w196, w197, by decide, by decide, by decide, by decide⟩ hv29) (fun r u34 hq => ?_)
        obtain ⟨z37, hz37, hr, hv35, hm36⟩ := hq
        rw [hr]
        clear hr r
        have hm38 := hm32.go hm36 (by intro i hi; simp only [List.mem_cons, List.not_mem_nil, or_false] at hi ⊢ <;> omega)
        show ST G mi_Ss_confirmServer 173 [(3, .ref 334), (0, .ref 317), (1, .ref 62), (2, .ref 217)] [.int (nI z37)] u34 0 0 _
        refine S_if_neN d_Ss_confirmServer_173 rfl (by omega) (fun c39 => ?_) (fun c39 => ?_)
        · refine ST.lift (fun _ _ k => T_aload_n (v := .ref 217) d_Ss_confirmServer_178 rfl (Or.inr ⟨_, rfl⟩) k) ?_
          refine ST.lift (fun _ _ k => T_aload_n (v := .ref 62) d_Ss_confirmServer_179 rfl (Or.inr ⟨_, rfl⟩) k) ?_
          refine S_getfield d_Ss_confirmServer_180 fg_Ss_143 (w62 _) rfl ?_
          refine S_getfield d_Ss_confirmServer_183 fg_Ss_99 (w203 _) rfl ?_
          refine ST.lift (fun _ _ k => T_aload_n (v := .ref 317) d_Ss_confirmServer_186 rfl (Or.inr ⟨_, rfl⟩) k) ?_
          refine S_getfield d_Ss_confirmServer_187 fg_Ss_38 (w317 _) rfl ?_
          refine S_getfield d_Ss_confirmServer_190 fg_Ss_99 (w325 _) rfl ?_
          refine ST.lift (fun _ _ k => T_aload_n (v := .ref 317) d_Ss_confirmServer_193 rfl (Or.inr ⟨_, rfl⟩) k) ?_
          refine S_getfield d_Ss_confirmServer_194 fg_Ss_41 (w317 _) rfl ?_
          refine S_getfield d_Ss_confirmServer_197 fg_Ss_99 (w327 _) rfl ?_
          refine ST.lift (fun _ _ k => T_aload_n (v := .ref 334) d_Ss_confirmServer_200 rfl (Or.inr ⟨_, rfl⟩) k) ?_
          refine S_virtual (as := [.ref 204, .ref 326, .ref 328, .ref 334]) (rest := []) (b := 217) d_Ss_confirmServer_201 rfl (jw_Ex_open.jo (by decide)) lm_Ss_146 ji_Ex_open js_Ex_open (w217 _) rfl rfl rfl (Nat.le_of_ble_eq_true rfl) (by decide) (by decide) (c_Ex_open G u34 204 32 (by decide) w204 (by omega) 326 96 (by decide) w326 (by omega) 328 128 (by decide) w328 (by omega) 334 320 (by decide) w334 (by omega) hv35) (fun r u40 hq => ?_)
          obtain ⟨hr, hv41, hm42⟩ := hq
          rw [hr]
          clear hr r
          have hm43 := hm38.go hm42 (by intro i hi; simp only [List.mem_cons, List.not_mem_nil, or_false] at hi ⊢ <;> omega)
          show ST G mi_Ss_confirmServer 204 [(3, .ref 334), (0, .ref 317), (1, .ref 62), (2, .ref 217)] [] u40 0 0 _
          refine ST.lift (fun _ _ k => T_aload_n (v := .ref 217) d_Ss_confirmServer_204 rfl (Or.inr ⟨_, rfl⟩) k) ?_
          refine ST.lift (fun _ _ k => T_aload_n (v := .ref 62) d_Ss_confirmServer_205 rfl (Or.inr ⟨_, rfl⟩) k) ?_
          refine ST.lift (fun _ _ k => T_aload_n (v := .ref 317) d_Ss_confirmServer_206 rfl (Or.inr ⟨_, rfl⟩) k) ?_
          refine S_getfield d_Ss_confirmServer_207 fg_Ss_47 (w317 _) rfl ?_
          refine ST.lift (fun _ _ k => T_aload_n (v := .ref 62) d_Ss_confirmServer_210 rfl (Or.inr ⟨_, rfl⟩) k) ?_
          refine S_getfield d_Ss_confirmServer_211 fg_Ss_140 (w62 _) rfl ?_
          refine S_virtual (as := [.ref 62, .ref 330, .ref 193]) (rest := []) (b := 217) d_Ss_confirmServer_214 rfl (jw_Ex_join.jo (by decide)) lm_Ss_152 ji_Ex_join js_Ex_join (w217 _) rfl rfl rfl (Nat.le_of_ble_eq_true rfl) (by decide) (by decide) (c_Ex_join G u40 330 32 (by decide) w330 (by omega) 193 194 195 196 197 ⟨w193, w194, w195, w196, w197, by decide, by decide, by decide, by decide⟩ (by omega) hv41) (fun r u44 hq => ?_)
          obtain ⟨hr, hv45, hm46⟩ := hq
          rw [hr]
          clear hr r
          have hm47 := hm43.go hm46 (by intro i hi; simp only [List.mem_cons, List.not_mem_nil, or_false] at hi ⊢ <;> omega)
          show ST G mi_Ss_confirmServer 217 [(3, .ref 334), (0, .ref 317), (1, .ref 62), (2, .ref 217)] [] u44 0 0 _
          refine ST.lift (fun _ _ k => T_aload_n (v := .ref 217) d_Ss_confirmServer_217 rfl (Or.inr ⟨_, rfl⟩) k) ?_
          refine ST.lift (fun _ _ k => T_aload_n (v := .ref 62) d_Ss_confirmServer_218 rfl (Or.inr ⟨_, rfl⟩) k) ?_
          refine ST.lift (fun _ _ k => T_aload_n (v := .ref 317) d_Ss_confirmServer_219 rfl (Or.inr ⟨_, rfl⟩) k) ?_
          refine S_getfield d_Ss_confirmServer_220 fg_Ss_47 (w317 _) rfl ?_
          refine ST.lift (fun _ _ k => T_aload_n (v := .ref 62) d_Ss_confirmServer_223 rfl (Or.inr ⟨_, rfl⟩) k) ?_
          refine S_getfield d_Ss_confirmServer_224 fg_Ss_70 (w62 _) rfl ?_
          refine S_virtual (as := [.ref 62, .ref 330, .ref 188]) (rest := []) (b := 217) d_Ss_confirmServer_227 rfl (jw_Ex_join.jo (by decide)) lm_Ss_152 ji_Ex_join js_Ex_join (w217 _) rfl rfl rfl (Nat.le_of_ble_eq_true rfl) (by decide) (by decide) (c_Ex_join G u44 330 32 (by decide) w330 (by omega) 188 189 190 191 192 ⟨w188, w189, w190, w191, w192, by decide, by decide, by decide, by decide⟩ (by omega) hv45) (fun r u48 hq => ?_)
          obtain ⟨hr, hv49, hm50⟩ := hq
          rw [hr]
          clear hr r
          have hm51 := hm47.go hm50 (by intro i hi; simp only [List.mem_cons, List.not_mem_nil, or_false] at hi ⊢ <;> omega)
          show ST G mi_Ss_confirmServer 230 [(3, .ref 334), (0, .ref 317), (1, .ref 62), (2, .ref 217)] [] u48 0 0 _
          refine ST.lift (fun _ _ k => T_aload_n (v := .ref 217) d_Ss_confirmServer_230 rfl (Or.inr ⟨_, rfl⟩) k) ?_
          refine ST.lift (fun _ _ k => T_aload_n (v := .ref 62) d_Ss_confirmServer_231 rfl (Or.inr ⟨_, rfl⟩) k) ?_
          refine ST.lift (fun _ _ k => T_aload_n (v := .ref 62) d_Ss_confirmServer_232 rfl (Or.inr ⟨_, rfl⟩) k) ?_
          refine S_getfield d_Ss_confirmServer_233 fg_Ss_156 (w62 _) rfl ?_
          refine ST.lift (fun _ _ k => T_aload_n (v := .ref 62) d_Ss_confirmServer_236 rfl (Or.inr ⟨_, rfl⟩) k) ?_
          refine S_getfield d_Ss_confirmServer_237 fg_Ss_140 (w62 _) rfl ?_
          refine S_virtual (as := [.ref 62, .ref 202, .ref 193]) (rest := []) (b := 217) d_Ss_confirmServer_240 rfl (jw_Ex_join.jo (by decide)) lm_Ss_152 ji_Ex_join js_Ex_join (w217 _) rfl rfl rfl (Nat.le_of_ble_eq_true rfl) (by decide) (by decide) (c_Ex_join G u48 202 32 (by decide) w202 (by omega) 193 194 195 196 197 ⟨w193, w194, w195, w196, w197, by decide, by decide, by decide, by decide⟩ (by omega) hv49) (fun r u52 hq => ?_)
          obtain ⟨hr, hv53, hm54⟩ := hq
          rw [hr]
          clear hr r
          have hm55 := hm51.go hm54 (by intro i hi; simp only [List.mem_cons, List.not_mem_nil, or_false] at hi ⊢ <;> omega)
          show ST G mi_Ss_confirmServer 243 [(3, .ref 334), (0, .ref 317), (1, .ref 62), (2, .ref 217)] [] u52 0 0 _
          refine ST.lift (fun _ _ k => T_aload_n (v := .ref 217) d_Ss_confirmServer_243 rfl (Or.inr ⟨_, rfl⟩) k) ?_
          refine ST.lift (fun _ _ k => T_aload_n (v := .ref 62) d_Ss_confirmServer_244 rfl (Or.inr ⟨_, rfl⟩) k) ?_
          refine S_virtual (as := [.ref 62]) (rest := []) (b := 217) d_Ss_confirmServer_245 rfl (jw_Ex_settle.jo (by decide)) lm_Ss_159 ji_Ex_settle js_Ex_settle (w217 _) rfl rfl rfl (Nat.le_of_ble_eq_true rfl) (by decide) (by decide) (c_Ex_settle G u52 hv53) (fun r u56 hq => ?_)
          obtain ⟨hr, hv57, hm58⟩ := hq
          rw [hr]
          clear hr r
          have hm59 := hm55.go hm58 (by intro i hi; simp only [List.mem_cons, List.not_mem_nil, or_false] at hi ⊢ <;> omega)
          show ST G mi_Ss_confirmServer 248 [(3, .ref 334), (0, .ref 317), (1, .ref 62), (2, .ref 217)] [] u56 0 0 _
          refine ST.lift (fun _ _ k => T_aload_n (v := .ref 317) d_Ss_confirmServer_248 rfl (Or.inr ⟨_, rfl⟩) k) ?_
          refine S_getfield d_Ss_confirmServer_249 fg_Ss_11 (w317 _) rfl ?_
          refine ST.lift (fun _ _ k => T_iconst (v := nI 1) d_Ss_confirmServer_252 (by decide) k) ?_
          refine S_aaload (C0 := "PasswordGate$Bytes") d_Ss_confirmServer_253 (by decide) (w318 _) rfl (vp_in_nI (by omega) (by omega)) ?_
          refine ST.lift (fun _ _ k => T_sipush (v := nI 256) d_Ss_confirmServer_254 (by decide) k) ?_
          refine ST.lift (fun _ _ k => T_aload_n (v := .ref 217) d_Ss_confirmServer_257 rfl (Or.inr ⟨_, rfl⟩) k) ?_
          refine S_getfield d_Ss_confirmServer_258 fg_Ss_163 (w217 _) rfl ?_
          refine ST.lift (fun _ _ k => T_iconst (v := nI 0) d_Ss_confirmServer_261 (by decide) k) ?_
          refine S_virtual (as := [.int (nI 256), .ref 218, .int (nI 0)]) (rest := []) (b := 333) d_Ss_confirmServer_262 rfl (jw_By_endsLike.jo (by decide)) lm_Ss_136 ji_By_endsLike js_By_endsLike (w333 _) rfl rfl rfl (Nat.le_of_ble_eq_true rfl) (by decide) (by decide) (c_By_endsLike G u56 333 334 320 49 ⟨w333, w334, by decide, u333_1, by decide, by decide⟩ 256 (by omega) 218 64 (by decide) w218 (by omega) 0 (by omega) hv57) (fun r u60 hq => ?_)
          obtain ⟨z63, hz63, hr, hv61, hm62⟩ := hq
          rw [hr]
          clear hr r
          have hm64 := hm59.go hm62 (by intro i hi; simp only [List.mem_cons, List.not_mem_nil, or_false] at hi ⊢ <;> omega)
          show ST G mi_Ss_confirmServer 265 [(3, .ref 334), (0, .ref 317), (1, .ref 62), (2, .ref 217)] [.int (nI z63)] u60 0 0 _
          refine S_if_neN d_Ss_confirmServer_265 rfl (by omega) (fun c65 => ?_) (fun c65 => ?_)
          · refine ST.lift (fun _ _ k => T_aload_n (v := .ref 317) d_Ss_confirmServer_270 rfl (Or.inr ⟨_, rfl⟩) k) ?_
            refine S_getfield d_Ss_confirmServer_271 fg_Ss_11 (w317 _) rfl ?_
            refine ST.lift (fun _ _ k => T_iconst (v := nI 2) d_Ss_confirmServer_274 (by decide) k) ?_
            refine S_aaload (C0 := "PasswordGate$Bytes") d_Ss_confirmServer_275 (by decide) (w318 _) rfl (vp_in_nI (by omega) (by omega)) ?_
            refine ST.lift (fun _ _ k => T_aload_n (v := .ref 217) d_Ss_confirmServer_276 rfl (Or.inr ⟨_, rfl⟩) k) ?_
            refine S_getfield d_Ss_confirmServer_277 fg_Ss_166 (w217 _) rfl ?_
            refine ST.lift (fun _ _ k => T_iconst (v := nI 0) d_Ss_confirmServer_280 (by decide) k) ?_
            refine ST.lift (fun _ _ k => T_bipush (v := nI 64) d_Ss_confirmServer_281 (by decide) k) ?_
            refine S_virtual (as := [.ref 219, .int (nI 0), .int (nI 64)]) (rest := []) (b := 335) d_Ss_confirmServer_283 rfl (jw_By_put.jo (by decide)) lm_Ss_169 ji_By_put js_By_put (w335 _) rfl rfl rfl (Nat.le_of_ble_eq_true rfl) (by decide) (by decide) (c_By_put G u60 335 336 64 50 ⟨w335, w336, by decide, u335_1, by decide, by decide⟩ 219 64 (by decide) w219 (by omega) 0 (by omega) 64 (by omega) hv61) (fun r u66 hq => ?_)
            obtain ⟨hr, hv67, hm68⟩ := hq
            rw [hr]
            clear hr r
            have hm69 := hm64.go hm68 (by intro i hi; simp only [List.mem_cons, List.not_mem_nil, or_false] at hi ⊢ <;> omega)
            show ST G mi_Ss_confirmServer 286 [(3, .ref 334), (0, .ref 317), (1, .ref 62), (2, .ref 217)] [] u66 0 0 _
            refine ST.lift (fun _ _ k => T_aload_n (v := .ref 317) d_Ss_confirmServer_286 rfl (Or.inr ⟨_, rfl⟩) k) ?_
            refine S_getfield d_Ss_confirmServer_287 fg_Ss_17 (w317 _) rfl ?_
            refine ST.lift (fun _ _ k => T_iconst (v := nI 0) d_Ss_confirmServer_290 (by decide) k) ?_
            refine S_aaload (C0 := "PasswordGate$Bytes") d_Ss_confirmServer_291 (by decide) (w319 _) rfl (vp_in_nI (by omega) (by omega)) ?_
            refine ST.lift (fun _ _ k => T_aload_n (v := .ref 217) d_Ss_confirmServer_292 rfl (Or.inr ⟨_, rfl⟩) k) ?_
            refine S_getfield d_Ss_confirmServer_293 fg_Ss_173 (w217 _) rfl ?_
            refine ST.lift (fun _ _ k => T_iconst (v := nI 0) d_Ss_confirmServer_296 (by decide) k) ?_
            refine ST.lift (fun _ _ k => T_bipush (v := nI 64) d_Ss_confirmServer_297 (by decide) k) ?_
            refine S_virtual (as := [.ref 220, .int (nI 0), .int (nI 64)]) (rest := []) (b := 337) d_Ss_confirmServer_299 rfl (jw_By_put.jo (by decide)) lm_Ss_169 ji_By_put js_By_put (w337 _) rfl rfl rfl (Nat.le_of_ble_eq_true rfl) (by decide) (by decide) (c_By_put G u66 337 338 64 51 ⟨w337, w338, by decide, u337_1, by decide, by decide⟩ 220 64 (by decide) w220 (by omega) 0 (by omega) 64 (by omega) hv67) (fun r u70 hq => ?_)
            obtain ⟨hr, hv71, hm72⟩ := hq
            rw [hr]
            clear hr r
            have hm73 := hm69.go hm72 (by intro i hi; simp only [List.mem_cons, List.not_mem_nil, or_false] at hi ⊢ <;> omega)
            show ST G mi_Ss_confirmServer 302 [(3, .ref 334), (0, .ref 317), (1, .ref 62), (2, .ref 217)] [] u70 0 0 _
            refine ST.lift (fun _ _ k => T_aload_n (v := .ref 317) d_Ss_confirmServer_302 rfl (Or.inr ⟨_, rfl⟩) k) ?_
            refine S_getfield d_Ss_confirmServer_303 fg_Ss_17 (w317 _) rfl ?_
            refine ST.lift (fun _ _ k => T_iconst (v := nI 2) d_Ss_confirmServer_306 (by decide) k) ?_
            refine S_aaload (C0 := "PasswordGate$Bytes") d_Ss_confirmServer_307 (by decide) (w319 _) rfl (vp_in_nI (by omega) (by omega)) ?_
            refine ST.lift (fun _ _ k => T_aload_n (v := .ref 62) d_Ss_confirmServer_308 rfl (Or.inr ⟨_, rfl⟩) k) ?_
            refine S_getfield d_Ss_confirmServer_309 fg_Ss_176 (w62 _) rfl ?_
            refine ST.lift (fun _ _ k => T_iconst (v := nI 0) d_Ss_confirmServer_312 (by decide) k) ?_
            refine ST.lift (fun _ _ k => T_bipush (v := nI 64) d_Ss_confirmServer_313 (by decide) k) ?_
            refine S_virtual (as := [.ref 206, .int (nI 0), .int (nI 64)]) (rest := []) (b := 341) d_Ss_confirmServer_315 rfl (jw_By_put.jo (by decide)) lm_Ss_169 ji_By_put js_By_put (w341 _) rfl rfl rfl (Nat.le_of_ble_eq_true rfl) (by decide) (by decide) (c_By_put G u70 341 342 64 53 ⟨w341, w342, by decide, u341_1, by decide, by decide⟩ 206 64 (by decide) w206 (by omega) 0 (by omega) 64 (by omega) hv71) (fun r u74 hq => ?_)
            obtain ⟨hr, hv75, hm76⟩ := hq
            rw [hr]
            clear hr r
            have hm77 := hm73.go hm76 (by intro i hi; simp only [List.mem_cons, List.not_mem_nil, or_false] at hi ⊢ <;> omega)
            show ST G mi_Ss_confirmServer 318 [(3, .ref 334), (0, .ref 317), (1, .ref 62), (2, .ref 217)] [] u74 0 0 _
            refine ST.lift (fun _ _ k => T_iconst (v := nI 0) d_Ss_confirmServer_318 (by decide) k) ?_
            exact S_ret d_Ss_confirmServer_319 rfl rfl (by decide) (by decide) (hQ _ _ hv75 hm77)
          · refine ST.lift (fun _ _ k => T_iconst (v := nI 4) d_Ss_confirmServer_268 (by decide) k) ?_
            exact S_ret d_Ss_confirmServer_269 rfl rfl (by decide) (by decide) (hQ _ _ hv61 hm64)
        · refine ST.lift (fun _ _ k => T_iconst (v := nI 1) d_Ss_confirmServer_176 (by decide) k) ?_
          exact S_ret d_Ss_confirmServer_177 rfl rfl (by decide) (by decide) (hQ _ _ hv35 hm38)
    · refine ST.lift (fun _ _ k => T_iconst (v := nI 3) d_Ss_confirmServer_134 (by decide) k) ?_
      exact S_ret d_Ss_confirmServer_135 rfl rfl (by decide) (by decide) (hQ _ _ hv23 hm26)
  · refine ST.lift (fun _ _ k => T_iconst (v := nI 1) d_Ss_confirmServer_26 (by decide) k) ?_
    exact S_ret d_Ss_confirmServer_27 rfl rfl (by decide) (by decide) (hQ _ _ hv2 hm5)
set_option maxRecDepth 100000 in
set_option maxHeartbeats 4000000 in
theorem c_Ss_confirmClient_317 (G : GX) (v : Nat → Int32) (hv : okv v) : CS G mi_Ss_confirmClient [.ref 317] v (fun r v' => ∃ z : Int32, r = some (.int z) ∧ okv v' ∧ mdf [48, 49, 50, 51, 52, 53, 45, 46, 47, 44] v v') := by
  refine CS.of (by decide) (Nat.le_of_ble_eq_true rfl) ?_
  generalize hQe : (fun (r : Option Value) (v' : Nat → Int32) => ∃ z : Int32, r = some (.int z) ∧ okv v' ∧ mdf [48, 49, 50, 51, 52, 53, 45, 46, 47, 44] v v') = Q
  have hQ : ∀ (z : Int32) (u : Nat → Int32), okv u → mdf [48, 49, 50, 51, 52, 53, 45, 46, 47, 44] v u → Q (some (.int z)) u := by rw [← hQe]; exact fun z u h1 h2 => ⟨z, rfl, h1, h2⟩
  clear hQe
  have hm : mdf [48, 49, 50, 51, 52, 53, 45, 46, 47, 44] v v := mdf.rf
  show ST G mi_Ss_confirmClient 0 [(0, .ref 317)] [] v 0 0 Q
  refine ST.lift (fun _ _ k => T_aload_n (v := .ref 317) d_Ss_confirmClient_0 rfl (Or.inr ⟨_, rfl⟩) k) ?_
  refine S_getfield d_Ss_confirmClient_1 fg_Ss_11 (w317 _) rfl ?_
  refine ST.lift (fun _ _ k => T_iconst (v := nI 2) d_Ss_confirmClient_4 (by decide) k) ?_
  refine S_aaload (C0 := "PasswordGate$Bytes") d_Ss_confirmClient_5 (by decide) (w318 _) rfl (vp_in_nI (by omega) (by omega)) ?_
  refine ST.lift (fun _ _ k => T_iconst (v := nI 0) d_Ss_confirmClient_6 (by decide) k) ?_
  refine ST.lift (fun _ _ k => T_aload_n (v := .ref 317) d_Ss_confirmClient_7 rfl (Or.inr ⟨_, rfl⟩) k) ?_
  refine S_getfield d_Ss_confirmClient_8 fg_Ss_20 (w317 _) rfl ?_
  refine ST.lift (fun _ _ k => T_iconst (v := nI 0) d_Ss_confirmClient_11 (by decide) k) ?_
  refine S_virtual (as := [.int (nI 0), .ref 320, .int (nI 0)]) (rest := []) (b := 335) d_Ss_confirmClient_12 rfl (jw_By_endsLike.jo (by decide)) lm_Ss_136 ji_By_endsLike js_By_endsLike (w335 _) rfl rfl rfl (Nat.le_of_ble_eq_true rfl) (by decide) (by decide) (c_By_endsLike G v 335 336 64 50 ⟨w335, w336, by decide, u335_1, by decide, by decide⟩ 0 (by omega) 320 64 (by decide) w320 (by omega) 0 (by omega) hv) (fun r u1 hq => ?_)
  obtain ⟨z4, hz4, hr, hv2, hm3⟩ := hq
  rw [hr]
  clear hr r
  have hm5 := hm.go hm3 (by intro i hi; simp only [List.mem_cons, List.not_mem_nil, or_false] at hi ⊢ <;> omega)
  show ST G mi_Ss_confirmClient 15 [(0, .ref 317)] [.int (nI z4)] u1 0 0 _
  refine S_if_neN d_Ss_confirmClient_15 rfl (by omega) (fun c6 => ?_) (fun c6 => ?_)
  · refine ST.lift (fun _ _ k => T_aload_n (v := .ref 317) d_Ss_confirmClient_20 rfl (Or.inr ⟨_, rfl⟩) k) ?_
    refine S_getfield d_Ss_confirmClient_21 fg_Ss_17 (w317 _) rfl ?_
    refine ST.lift (fun _ _ k => T_iconst (v := nI 1) d_Ss_confirmClient_24 (by decide) k) ?_
    refine S_aaload (C0 := "PasswordGate$Bytes") d_Ss_confirmClient_25 (by decide) (w319 _) rfl (vp_in_nI (by omega) (by omega)) ?_
    refine ST.lift (fun _ _ k => T_aload_n (v := .ref 317) d_Ss_confirmClient_26 rfl (Or.inr ⟨_, rfl⟩) k) ?_
    refine S_getfield d_Ss_confirmClient_27 fg_Ss_24 (w317 _) rfl ?_
    refine ST.lift (fun _ _ k => T_iconst (v := nI 0) d_Ss_confirmClient_30 (by decide) k) ?_
    refine ST.lift (fun _ _ k => T_bipush (v := nI 64) d_Ss_confirmClient_31 (by decide) k) ?_
    refine S_virtual (as := [.ref 321, .int (nI 0), .int (nI 64)]) (rest := []) (b := 339) d_Ss_confirmClient_33 rfl (jw_By_put.jo (by decide)) lm_Ss_169 ji_By_put js_By_put (w339 _) rfl rfl rfl (Nat.le_of_ble_eq_true rfl) (by decide) (by decide) (c_By_put G u1 339 340 64 52 ⟨w339, w340, by decide, u339_1, by decide, by decide⟩ 321 64 (by decide) w321 (by omega) 0 (by omega) 64 (by omega) hv2) (fun r u7 hq => ?_)
    obtain ⟨hr, hv8, hm9⟩ := hq
    rw [hr]
    clear hr r
    have hm10 := hm5.go hm9 (by intro i hi; simp only [List.mem_cons, List.not_mem_nil, or_false] at hi ⊢ <;> omega)
    show ST G mi_Ss_confirmClient 36 [(0, .ref 317)] [] u7 0 0 _
    refine ST.lift (fun _ _ k => T_iconst (v := nI 0) d_Ss_confirmClient_36 (by decide) k) ?_
    exact S_ret d_Ss_confirmClient_37 rfl rfl (by decide) (by decide) (hQ _ _ hv8 hm10)
  · refine ST.lift (fun _ _ k => T_iconst (v := nI 5) d_Ss_confirmClient_18 (by decide) k) ?_
    exact S_ret d_Ss_confirmClient_19 rfl rfl (by decide) (by decide) (hQ _ _ hv2 hm5)
set_option maxRecDepth 100000 in
set_option maxHeartbeats 4000000 in
theorem c_Ss_take_343_0 (G : GX) (v : Nat → Int32) (hv : okv v) : CS G mi_Ss_take [.ref 343, .int (nI 0)] v (fun r v' => ∃ z : Nat, z ≤ 1 ∧ r = some (.int (nI z)) ∧ okv v' ∧ mdf [] v v') := by
  refine CS.of (by decide) (Nat.le_of_ble_eq_true rfl) ?_
  generalize hQe : (fun (r : Option Value) (v' : Nat → Int32) => ∃ z : Nat, z ≤ 1 ∧ r = some (.int (nI z)) ∧ okv v' ∧ mdf [] v v') = Q
  have hQ : ∀ (z : Nat) (u : Nat → Int32), z ≤ 1 → okv u → mdf [] v u → Q (some (.int (nI z))) u := by rw [← hQe]; exact fun z u hz h1 h2 => ⟨z, hz, rfl, h1, h2⟩
  clear hQe
  have hm : mdf [] v v := mdf.rf
  show ST G mi_Ss_take 0 [(0, .ref 343), (1, .int (nI 0))] [] v 0 0 Q
  refine ST.lift (fun _ _ k => T_aload_n (v := .ref 343) d_Ss_take_0 rfl (Or.inr ⟨_, rfl⟩) k) ?_
  refine S_getfield d_Ss_take_1 fg_Ss_11 (w343 _) rfl ?_
  refine ST.lift (fun _ _ k => T_iload_n d_Ss_take_4 rfl k) ?_
  refine S_aaload (C0 := "PasswordGate$Bytes") d_Ss_take_5 (by decide) (w344 _) rfl (vp_in_nI (by omega) (by omega)) ?_
  obtain ⟨k1, hk1, ek1⟩ := hv.get (j := 58) (c := 96) (by decide)
  refine S_getfield d_Ss_take_6 fg_Ss_50 (w357 _) rfl ?_
  refine S_topi (y := nI k1) (ek1) ?_
  refine S_if_eqN d_Ss_take_9 rfl (by omega) (fun c2 => ?_) (fun c2 => ?_)
  · refine ST.lift (fun _ _ k => T_iconst (v := nI 0) d_Ss_take_21 (by decide) k) ?_
    exact S_ret d_Ss_take_22 rfl (nar_z (by omega)) (by decide) (by decide) (hQ 0 _ (by omega) hv hm)
  · refine ST.lift (fun _ _ k => T_aload_n (v := .ref 343) d_Ss_take_12 rfl (Or.inr ⟨_, rfl⟩) k) ?_
    refine S_getfield d_Ss_take_13 fg_Ss_27 (w343 _) rfl ?_
    refine ST.lift (fun _ _ k => T_iload_n d_Ss_take_16 rfl k) ?_
    refine S_zaload d_Ss_take_17 w348 (vp_in_nI (by omega) (by omega)) (fun z3 hz3 => ?_)
    refine S_if_eq d_Ss_take_18 rfl (fun c4 => ?_) (fun c4 => ?_)
    · refine ST.lift (fun _ _ k => T_aload_n (v := .ref 343) d_Ss_take_23 rfl (Or.inr ⟨_, rfl⟩) k) ?_
      refine S_getfield d_Ss_take_24 fg_Ss_27 (w343 _) rfl ?_
      refine ST.lift (fun _ _ k => T_iload_n d_Ss_take_27 rfl k) ?_
      refine ST.lift (fun _ _ k => T_iconst (v := nI 1) d_Ss_take_28 (by decide) k) ?_
      refine S_zastore d_Ss_take_29 (by decide) w348 (vp_in_nI (by omega) (by omega)) ?_
      refine ST.lift (fun _ _ k => T_iconst (v := nI 1) d_Ss_take_30 (by decide) k) ?_
      exact S_ret d_Ss_take_31 rfl (nar_z (by omega)) (by decide) (by decide) (hQ 1 _ (by omega) hv hm)
    · refine ST.lift (fun _ _ k => T_iconst (v := nI 0) d_Ss_take_21 (by decide) k) ?_
      exact S_ret d_Ss_take_22 rfl (nar_z (by omega)) (by decide) (by decide) (hQ 0 _ (by omega) hv hm)
set_option maxRecDepth 100000 in
set_option maxHeartbeats 4000000 in
theorem c_Ss_take_343_1 (G : GX) (v : Nat → Int32) (hv : okv v) : CS G mi_Ss_take [.ref 343, .int (nI 1)] v (fun r v' => ∃ z : Nat, z ≤ 1 ∧ r = some (.int (nI z)) ∧ okv v' ∧ mdf [] v v') := by
  refine CS.of (by decide) (Nat.le_of_ble_eq_true rfl) ?_
  generalize hQe : (fun (r : Option Value) (v' : Nat → Int32) => ∃ z : Nat, z ≤ 1 ∧ r = some (.int (nI z)) ∧ okv v' ∧ mdf [] v v') = Q
  have hQ : ∀ (z : Nat) (u : Nat → Int32), z ≤ 1 → okv u → mdf [] v u → Q (some (.int (nI z))) u := by rw [← hQe]; exact fun z u hz h1 h2 => ⟨z, hz, rfl, h1, h2⟩
  clear hQe
  have hm : mdf [] v v := mdf.rf
  show ST G mi_Ss_take 0 [(0, .ref 343), (1, .int (nI 1))] [] v 0 0 Q
  refine ST.lift (fun _ _ k => T_aload_n (v := .ref 343) d_Ss_take_0 rfl (Or.inr ⟨_, rfl⟩) k) ?_
  refine S_getfield d_Ss_take_1 fg_Ss_11 (w343 _) rfl ?_
  refine ST.lift (fun _ _ k => T_iload_n d_Ss_take_4 rfl k) ?_
  refine S_aaload (C0 := "PasswordGate$Bytes") d_Ss_take_5 (by decide) (w344 _) rfl (vp_in_nI (by omega) (by omega)) ?_
  obtain ⟨k1, hk1, ek1⟩ := hv.get (j := 59) (c := 320) (by decide)
  refine S_getfield d_Ss_take_6 fg_Ss_50 (w359 _) rfl ?_
  refine S_topi (y := nI k1) (ek1) ?_
  refine S_if_eqN d_Ss_take_9 rfl (by omega) (fun c2 => ?_) (fun c2 => ?_)
  · refine ST.lift (fun _ _ k => T_iconst (v := nI 0) d_Ss_take_21 (by decide) k) ?_
    exact S_ret d_Ss_take_22 rfl (nar_z (by omega)) (by decide) (by decide) (hQ 0 _ (by omega) hv hm)
  · refine ST.lift (fun _ _ k => T_aload_n (v := .ref 343) d_Ss_take_12 rfl (Or.inr ⟨_, rfl⟩) k) ?_
    refine S_getfield d_Ss_take_13 fg_Ss_27 (w343 _) rfl ?_
    refine ST.lift (fun _ _ k => T_iload_n d_Ss_take_16 rfl k) ?_
    refine S_zaload d_Ss_take_17 w348 (vp_in_nI (by omega) (by omega)) (fun z3 hz3 => ?_)
    refine S_if_eq d_Ss_take_18 rfl (fun c4 => ?_) (fun c4 => ?_)
    · refine ST.lift (fun _ _ k => T_aload_n (v := .ref 343) d_Ss_take_23 rfl (Or.inr ⟨_, rfl⟩) k) ?_
      refine S_getfield d_Ss_take_24 fg_Ss_27 (w343 _) rfl ?_
      refine ST.lift (fun _ _ k => T_iload_n d_Ss_take_27 rfl k) ?_
      refine ST.lift (fun _ _ k => T_iconst (v := nI 1) d_Ss_take_28 (by decide) k) ?_
      refine S_zastore d_Ss_take_29 (by decide) w348 (vp_in_nI (by omega) (by omega)) ?_
      refine ST.lift (fun _ _ k => T_iconst (v := nI 1) d_Ss_take_30 (by decide) k) ?_
      exact S_ret d_Ss_take_31 rfl (nar_z (by omega)) (by decide) (by decide) (hQ 1 _ (by omega) hv hm)
    · refine ST.lift (fun _ _ k => T_iconst (v := nI 0) d_Ss_take_21 (by decide) k) ?_
      exact S_ret d_Ss_take_22 rfl (nar_z (by omega)) (by decide) (by decide) (hQ 0 _ (by omega) hv hm)
set_option maxRecDepth 100000 in
set_option maxHeartbeats 4000000 in
theorem c_Ss_take_343_2 (G : GX) (v : Nat → Int32) (hv : okv v) : CS G mi_Ss_take [.ref 343, .int (nI 2)] v (fun r v' => ∃ z : Nat, z ≤ 1 ∧ r = some (.int (nI z)) ∧ okv v' ∧ mdf [] v v') := by
  refine CS.of (by decide) (Nat.le_of_ble_eq_true rfl) ?_
  generalize hQe : (fun (r : Option Value) (v' : Nat → Int32) => ∃ z : Nat, z ≤ 1 ∧ r = some (.int (nI z)) ∧ okv v' ∧ mdf [] v v') = Q
  have hQ : ∀ (z : Nat) (u : Nat → Int32), z ≤ 1 → okv u → mdf [] v u → Q (some (.int (nI z))) u := by rw [← hQe]; exact fun z u hz h1 h2 => ⟨z, hz, rfl, h1, h2⟩
  clear hQe
  have hm : mdf [] v v := mdf.rf
  show ST G mi_Ss_take 0 [(0, .ref 343), (1, .int (nI 2))] [] v 0 0 Q
  refine ST.lift (fun _ _ k => T_aload_n (v := .ref 343) d_Ss_take_0 rfl (Or.inr ⟨_, rfl⟩) k) ?_
  refine S_getfield d_Ss_take_1 fg_Ss_11 (w343 _) rfl ?_
  refine ST.lift (fun _ _ k => T_iload_n d_Ss_take_4 rfl k) ?_
  refine S_aaload (C0 := "PasswordGate$Bytes") d_Ss_take_5 (by decide) (w344 _) rfl (vp_in_nI (by omega) (by omega)) ?_
  obtain ⟨k1, hk1, ek1⟩ := hv.get (j := 60) (c := 64) (by decide)
  refine S_getfield d_Ss_take_6 fg_Ss_50 (w361 _) rfl ?_
  refine S_topi (y := nI k1) (ek1) ?_
  refine S_if_eqN d_Ss_take_9 rfl (by omega) (fun c2 => ?_) (fun c2 => ?_)
  · refine ST.lift (fun _ _ k => T_iconst (v := nI 0) d_Ss_take_21 (by decide) k) ?_
    exact S_ret d_Ss_take_22 rfl (nar_z (by omega)) (by decide) (by decide) (hQ 0 _ (by omega) hv hm)
  · refine ST.lift (fun _ _ k => T_aload_n (v := .ref 343) d_Ss_take_12 rfl (Or.inr ⟨_, rfl⟩) k) ?_
    refine S_getfield d_Ss_take_13 fg_Ss_27 (w343 _) rfl ?_
    refine ST.lift (fun _ _ k => T_iload_n d_Ss_take_16 rfl k) ?_
    refine S_zaload d_Ss_take_17 w348 (vp_in_nI (by omega) (by omega)) (fun z3 hz3 => ?_)
    refine S_if_eq d_Ss_take_18 rfl (fun c4 => ?_) (fun c4 => ?_)
    · refine ST.lift (fun _ _ k => T_aload_n (v := .ref 343) d_Ss_take_23 rfl (Or.inr ⟨_, rfl⟩) k) ?_
      refine S_getfield d_Ss_take_24 fg_Ss_27 (w343 _) rfl ?_
      refine ST.lift (fun _ _ k => T_iload_n d_Ss_take_27 rfl k) ?_
      refine ST.lift (fun _ _ k => T_iconst (v := nI 1) d_Ss_take_28 (by decide) k) ?_
      refine S_zastore d_Ss_take_29 (by decide) w348 (vp_in_nI (by omega) (by omega)) ?_
      refine ST.lift (fun _ _ k => T_iconst (v := nI 1) d_Ss_take_30 (by decide) k) ?_
      exact S_ret d_Ss_take_31 rfl (nar_z (by omega)) (by decide) (by decide) (hQ 1 _ (by omega) hv hm)
    · refine ST.lift (fun _ _ k => T_iconst (v := nI 0) d_Ss_take_21 (by decide) k) ?_
      exact S_ret d_Ss_take_22 rfl (nar_z (by omega)) (by decide) (by decide) (hQ 0 _ (by omega) hv hm)
set_option maxRecDepth 100000 in
set_option maxHeartbeats 4000000 in
theorem c_Ss_start_343 (G : GX) (v : Nat → Int32) (usr : Nat) (b_usr : usr ≤ 7) (b bd bc bj : Nat) (y_b : isBy b bd bc bj) (hv : okv v) : CS G mi_Ss_start [.ref 343, .ref 62, .int (nI usr), .ref b] v (fun r v' => r = none ∧ okv v' ∧ mdf [6, 7, 5, 2, 3, 1, 4, 58, 59, 60, 61, 62, 63, 55, 56, 57, 54] v v') := by
  refine CS.of (by decide) (Nat.le_of_ble_eq_true rfl) ?_
  generalize hQe : (fun (r : Option Value) (v' : Nat → Int32) => r = none ∧ okv v' ∧ mdf [6, 7, 5, 2, 3, 1, 4, 58, 59, 60, 61, 62, 63, 55, 56, 57, 54] v v') = Q
  have hQ : ∀ u, okv u → mdf [6, 7, 5, 2, 3, 1, 4, 58, 59, 60, 61, 62, 63, 55, 56, 57, 54] v u → Q none u := by rw [← hQe]; exact fun u h1 h2 => ⟨rfl, h1, h2⟩
  clear hQe
  have hm : mdf [6, 7, 5, 2, 3, 1, 4, 58, 59, 60, 61, 62, 63, 55, 56, 57, 54] v v := mdf.rf
  have l_b := y_b.2.2.2.2.2
  show ST G mi_Ss_start 0 [(0, .ref 343), (1, .ref 62), (2, .int (nI usr)), (3, .ref b)] [] v 0 0 Q
  refine ST.lift (fun _ _ k => T_iconst (v := nI 0) d_Ss_start_0 (by decide) k) ?_
  refine ST.lift (fun _ _ k => T_istore (L' := [(4, .int (nI 0)), (0, .ref 343), (1, .ref 62), (2, .int (nI usr)), (3, .ref b)]) d_Ss_start_1 (by decide) rfl k) ?_
  refine ST.lift (fun _ _ k => T_iload d_Ss_start_3 rfl k) ?_
  refine ST.lift (fun _ _ k => T_iconst (v := nI 3) d_Ss_start_5 (by decide) k) ?_
  refine S_icmp_geN d_Ss_start_6 rfl (by omega) (by omega) (fun c => by first | exact absurd c (by omega) | exact c.elim | exact absurd c (by decide) | exact absurd (by assumption) c | exact absurd c (by assumption)) (fun _ => ?_)
  refine ST.lift (fun _ _ k => T_aload_n (v := .ref 343) d_Ss_start_9 rfl (Or.inr ⟨_, rfl⟩) k) ?_
  refine S_getfield d_Ss_start_10 fg_Ss_11 (w343 _) rfl ?_
  refine ST.lift (fun _ _ k => T_iload d_Ss_start_13 rfl k) ?_
  refine S_aaload (C0 := "PasswordGate$Bytes") d_Ss_start_15 (by decide) (w344 _) rfl (vp_in_nI (by omega) (by omega)) ?_
  refine S_virtual (as := []) (rest := []) (b := 357) d_Ss_start_16 rfl (jw_By_clear.jo (by decide)) lm_Ss_54 ji_By_clear js_By_clear (w357 _) rfl rfl rfl (Nat.le_of_ble_eq_true rfl) (by decide) (by decide) (c_By_clear G v 357 358 96 58 ⟨w357, w358, by decide, u357_1, by decide, by decide⟩ hv) (fun r v' hq => ?_)
  rw [hq.1, hq.2]
  clear hq r v'
  show ST G mi_Ss_start 19 [(4, .int (nI 0)), (0, .ref 343), (1, .ref 62), (2, .int (nI usr)), (3, .ref b)] [] (va_up v 58 (nI 0)) 0 0 _
  have hv2 := hv.up (j := 58) (c := 96) (k := 0) (by decide) (by omega)
  have hm3 := hm.go (mdf.up (v := v) (j := 58) (x := (nI 0))) (by intro i hi; simp only [List.mem_cons, List.not_mem_nil, or_false] at hi ⊢ <;> omega)
  have e_u1 : (va_up v 58 (nI 0)) 58 = (nI 0) := by simp [va_up]
  generalize va_up v 58 (nI 0) = u1 at hv2 hm3 e_u1 ⊢
  refine ST.lift (fun _ _ k => T_aload_n (v := .ref 343) d_Ss_start_19 rfl (Or.inr ⟨_, rfl⟩) k) ?_
  refine S_getfield d_Ss_start_20 fg_Ss_17 (w343 _) rfl ?_
  refine ST.lift (fun _ _ k => T_iload d_Ss_start_23 rfl k) ?_
  refine S_aaload (C0 := "PasswordGate$Bytes") d_Ss_start_25 (by decide) (w345 _) rfl (vp_in_nI (by omega) (by omega)) ?_
  refine S_virtual (as := []) (rest := []) (b := 363) d_Ss_start_26 rfl (jw_By_clear.jo (by decide)) lm_Ss_54 ji_By_clear js_By_clear (w363 _) rfl rfl rfl (Nat.le_of_ble_eq_true rfl) (by decide) (by decide) (c_By_clear G u1 363 364 64 61 ⟨w363, w364, by decide, u363_1, by decide, by decide⟩ hv2) (fun r v' hq => ?_)
  rw [hq.1, hq.2]
  clear hq r v'
  show ST G mi_Ss_start 29 [(4, .int (nI 0)), (0, .ref 343), (1, .ref 62), (2, .int (nI usr)), (3, .ref b)] [] (va_up u1 61 (nI 0)) 0 0 _
  have hv5 := hv2.up (j := 61) (c := 64) (k := 0) (by decide) (by omega)
  have hm6 := hm3.go (mdf.up (v := u1) (j := 61) (x := (nI 0))) (by intro i hi; simp only [List.mem_cons, List.not_mem_nil, or_false] at hi ⊢ <;> omega)
  have e_u4 : (va_up u1 61 (nI 0)) 61 = (nI 0) := by simp [va_up]
  have e7 : (va_up u1 61 (nI 0)) 58 = nI 0 := by simp only [va_up]; exact e_u1
  generalize va_up u1 61 (nI 0) = u4 at hv5 hm6 e_u4 e7 ⊢
  refine ST.lift (fun _ _ k => T_aload_n (v := .ref 343) d_Ss_start_29 rfl (Or.inr ⟨_, rfl⟩) k) ?_
  refine S_getfield d_Ss_start_30 fg_Ss_27 (w343 _) rfl ?_
  refine ST.lift (fun _ _ k => T_iload d_Ss_start_33 rfl k) ?_
  refine ST.lift (fun _ _ k => T_iconst (v := nI 0) d_Ss_start_35 (by decide) k) ?_
  refine S_zastore d_Ss_start_36 (by decide) w348 (vp_in_nI (by omega) (by omega)) ?_
  refine S_iincN (a := 0) (b := 1) (L' := [(4, .int (nI 1)), (0, .ref 343), (1, .ref 62), (2, .int (nI usr)), (3, .ref b)]) d_Ss_start_37 (by decide) rfl rfl rfl ?_
  refine ST.lift (fun _ _ k => T_goto (tgt := 3) d_Ss_start_40 rfl k) ?_
  refine ST.lift (fun _ _ k => T_iload d_Ss_start_3 rfl k) ?_
  refine ST.lift (fun _ _ k => T_iconst (v := nI 3) d_Ss_start_5 (by decide) k) ?_
  refine S_icmp_geN d_Ss_start_6 rfl (by omega) (by omega) (fun c => by first | exact absurd c (by omega) | exact c.elim | exact absurd c (by decide) | exact absurd (by assumption) c | exact absurd c (by assumption)) (fun _ => ?_)
  refine ST.lift (fun _ _ k => T_aload_n (v := .ref 343) d_Ss_start_9 rfl (Or.inr ⟨_, rfl⟩) k) ?_
  refine S_getfield d_Ss_start_10 fg_Ss_11 (w343 _) rfl ?_
  refine ST.lift (fun _ _ k => T_iload d_Ss_start_13 rfl k) ?_
  refine S_aaload (C0 := "PasswordGate$Bytes") d_Ss_start_15 (by decide) (w344 _) rfl (vp_in_nI (by omega) (by omega)) ?_
  refine S_virtual (as := []) (rest := []) (b := 359) d_Ss_start_16 rfl (jw_By_clear.jo (by decide)) lm_Ss_54 ji_By_clear js_By_clear (w359 _) rfl rfl rfl (Nat.le_of_ble_eq_true rfl) (by decide) (by decide) (c_By_clear G u4 359 360 320 59 ⟨w359, w360, by decide, u359_1, by decide, by decide⟩ hv5) (fun r v' hq => ?_)
  rw [hq.1, hq.2]
  clear hq r v'
  show ST G mi_Ss_start 19 [(4, .int (nI 1)), (0, .ref 343), (1, .ref 62), (2, .int (nI usr)), (3, .ref b)] [] (va_up u4 59 (nI 0)) 0 0 _
  have hv9 := hv5.up (j := 59) (c := 320) (k := 0) (by decide) (by omega)
  have hm10 := hm6.go (mdf.up (v := u4) (j := 59) (x := (nI 0))) (by intro i hi; simp only [List.mem_cons, List.not_mem_nil, or_false] at hi ⊢ <;> omega)
  have e_u8 : (va_up u4 59 (nI 0)) 59 = (nI 0) := by simp [va_up]
  have e11 : (va_up u4 59 (nI 0)) 58 = nI 0 := by simp only [va_up]; exact e7
  have e12 : (va_up u4 59 (nI 0)) 61 = nI 0 := by simp only [va_up]; exact e_u4
  generalize va_up u4 59 (nI 0) = u8 at hv9 hm10 e_u8 e11 e12 ⊢
  refine ST.lift (fun _ _ k => T_aload_n (v := .ref 343) d_Ss_start_19 rfl (Or.inr ⟨_, rfl⟩) k) ?_
  refine S_getfield d_Ss_start_20 fg_Ss_17 (w343 _) rfl ?_
  refine ST.lift (fun _ _ k => T_iload d_Ss_start_23 rfl k) ?_
  refine S_aaload (C0 := "PasswordGate$Bytes") d_Ss_start_25 (by decide) (w345 _) rfl (vp_in_nI (by omega) (by omega)) ?_
  refine S_virtual (as := []) (rest := []) (b := 365) d_Ss_start_26 rfl (jw_By_clear.jo (by decide)) lm_Ss_54 ji_By_clear js_By_clear (w365 _) rfl rfl rfl (Nat.le_of_ble_eq_true rfl) (by decide) (by decide) (c_By_clear G u8 365 366 64 62 ⟨w365, w366, by decide, u365_1, by decide, by decide⟩ hv9) (fun r v' hq => ?_)
  rw [hq.1, hq.2]
  clear hq r v'
  show ST G mi_Ss_start 29 [(4, .int (nI 1)), (0, .ref 343), (1, .ref 62), (2, .int (nI usr)), (3, .ref b)] [] (va_up u8 62 (nI 0)) 0 0 _
  have hv14 := hv9.up (j := 62) (c := 64) (k := 0) (by decide) (by omega)
  have hm15 := hm10.go (mdf.up (v := u8) (j := 62) (x := (nI 0))) (by intro i hi; simp only [List.mem_cons, List.not_mem_nil, or_false] at hi ⊢ <;> omega)
  have e_u13 : (va_up u8 62 (nI 0)) 62 = (nI 0) := by simp [va_up]
  have e16 : (va_up u8 62 (nI 0)) 58 = nI 0 := by simp only [va_up]; exact e11
  have e17 : (va_up u8 62 (nI 0)) 61 = nI 0 := by simp only [va_up]; exact e12
  have e18 : (va_up u8 62 (nI 0)) 59 = nI 0 := by simp only [va_up]; exact e_u8
  generalize va_up u8 62 (nI 0) = u13 at hv14 hm15 e_u13 e16 e17 e18 ⊢
  refine ST.lift (fun _ _ k => T_aload_n (v := .ref 343) d_Ss_start_29 rfl (Or.inr ⟨_, rfl⟩) k) ?_
  refine S_getfield d_Ss_start_30 fg_Ss_27 (w343 _) rfl ?_
  refine ST.lift (fun _ _ k => T_iload d_Ss_start_33 rfl k) ?_
  refine ST.lift (fun _ _ k => T_iconst (v := nI 0) d_Ss_start_35 (by decide) k) ?_
  refine S_zastore d_Ss_start_36 (by decide) w348 (vp_in_nI (by omega) (by omega)) ?_
  refine S_iincN (a := 1) (b := 1) (L' := [(4, .int (nI 2)), (0, .ref 343), (1, .ref 62), (2, .int (nI usr)), (3, .ref b)]) d_Ss_start_37 (by decide) rfl rfl rfl ?_
  refine ST.lift (fun _ _ k => T_goto (tgt := 3) d_Ss_start_40 rfl k) ?_
  refine ST.lift (fun _ _ k => T_iload d_Ss_start_3 rfl k) ?_
  refine ST.lift (fun _ _ k => T_iconst (v := nI 3) d_Ss_start_5 (by decide) k) ?_
  refine S_icmp_geN d_Ss_start_6 rfl (by omega) (by omega) (fun c => by first | exact absurd c (by omega) | exact c.elim | exact absurd c (by decide) | exact absurd (by assumption) c | exact absurd c (by assumption)) (fun _ => ?_)
  refine ST.lift (fun _ _ k => T_aload_n (v := .ref 343) d_Ss_start_9 rfl (Or.inr ⟨_, rfl⟩) k) ?_
  refine S_getfield d_Ss_start_10 fg_Ss_11 (w343 _) rfl ?_
  refine ST.lift (fun _ _ k => T_iload d_Ss_start_13 rfl k) ?_
  refine S_aaload (C0 := "PasswordGate$Bytes") d_Ss_start_15 (by decide) (w344 _) rfl (vp_in_nI (by omega) (by omega)) ?_
  refine S_virtual (as := []) (rest := []) (b := 361) d_Ss_start_16 rfl (jw_By_clear.jo (by decide)) lm_Ss_54 ji_By_clear js_By_clear (w361 _) rfl rfl rfl (Nat.le_of_ble_eq_true rfl) (by decide) (by decide) (c_By_clear G u13 361 362 64 60 ⟨w361, w362, by decide, u361_1, by decide, by decide⟩ hv14) (fun r v' hq => ?_)
  rw [hq.1, hq.2]
  clear hq r v'
  show ST G mi_Ss_start 19 [(4, .int (nI 2)), (0, .ref 343), (1, .ref 62), (2, .int (nI usr)), (3, .ref b)] [] (va_up u13 60 (nI 0)) 0 0 _
  have hv20 := hv14.up (j := 60) (c := 64) (k := 0) (by decide) (by omega)
  have hm21 := hm15.go (mdf.up (v := u13) (j := 60) (x := (nI 0))) (by intro i hi; simp only [List.mem_cons, List.not_mem_nil, or_false] at hi ⊢ <;> omega)
  have e_u19 : (va_up u13 60 (nI 0)) 60 = (nI 0) := by simp [va_up]
  have e22 : (va_up u13 60 (nI 0)) 58 = nI 0 := by simp only [va_up]; exact e16
  have e23 : (va_up u13 60 (nI 0)) 61 = nI 0 := by simp only [va_up]; exact e17
  have e24 : (va_up u13 60 (nI 0)) 59 = nI 0 := by simp only [va_up]; exact e18
  have e25 : (va_up u13 60 (nI 0)) 62 = nI 0 := by simp only [va_up]; exact e_u13
  generalize va_up u13 60 (nI 0) = u19 at hv20 hm21 e_u19 e22 e23 e24 e25 ⊢
  refine ST.lift (fun _ _ k => T_aload_n (v := .ref 343) d_Ss_start_19 rfl (Or.inr ⟨_, rfl⟩) k) ?_
  refine S_getfield d_Ss_start_20 fg_Ss_17 (w343 _) rfl ?_
  refine ST.lift (fun _ _ k => T_iload d_Ss_start_23 rfl k) ?_
  refine S_aaload (C0 := "PasswordGate$Bytes") d_Ss_start_25 (by decide) (w345 _) rfl (vp_in_nI (by omega) (by omega)) ?_
  refine S_virtual (as := []) (rest := []) (b := 367) d_Ss_start_26 rfl (jw_By_clear.jo (by decide)) lm_Ss_54 ji_By_clear js_By_clear (w367 _) rfl rfl rfl (Nat.le_of_ble_eq_true rfl) (by decide) (by decide) (c_By_clear G u19 367 368 64 63 ⟨w367, w368, by decide, u367_1, by decide, by decide⟩ hv20) (fun r v' hq => ?_)
  rw [hq.1, hq.2]
  clear hq r v'
  show ST G mi_Ss_start 29 [(4, .int (nI 2)), (0, .ref 343), (1, .ref 62), (2, .int (nI usr)), (3, .ref b)] [] (va_up u19 63 (nI 0)) 0 0 _
  have hv27 := hv20.up (j := 63) (c := 64) (k := 0) (by decide) (by omega)
  have hm28 := hm21.go (mdf.up (v := u19) (j := 63) (x := (nI 0))) (by intro i hi; simp only [List.mem_cons, List.not_mem_nil, or_false] at hi ⊢ <;> omega)
  have e_u26 : (va_up u19 63 (nI 0)) 63 = (nI 0) := by simp [va_up]
  have e29 : (va_up u19 63 (nI 0)) 58 = nI 0 := by simp only [va_up]; exact e22
  have e30 : (va_up u19 63 (nI 0)) 61 = nI 0 := by simp only [va_up]; exact e23
  have e31 : (va_up u19 63 (nI 0)) 59 = nI 0 := by simp only [va_up]; exact e24
  have e32 : (va_up u19 63 (nI 0)) 62 = nI 0 := by simp only [va_up]; exact e25
  have e33 : (va_up u19 63 (nI 0)) 60 = nI 0 := by simp only [va_up]; exact e_u19
  generalize va_up u19 63 (nI 0) = u26 at hv27 hm28 e_u26 e29 e30 e31 e32 e33 ⊢
  refine ST.lift (fun _ _ k => T_aload_n (v := .ref 343) d_Ss_start_29 rfl (Or.inr ⟨_, rfl⟩) k) ?_
  refine S_getfield d_Ss_start_30 fg_Ss_27 (w343 _) rfl ?_
  refine ST.lift (fun _ _ k => T_iload d_Ss_start_33 rfl k) ?_
  refine ST.lift (fun _ _ k => T_iconst (v := nI 0) d_Ss_start_35 (by decide) k) ?_
  refine S_zastore d_Ss_start_36 (by decide) w348 (vp_in_nI (by omega) (by omega)) ?_
  refine S_iincN (a := 2) (b := 1) (L' := [(4, .int (nI 3)), (0, .ref 343), (1, .ref 62), (2, .int (nI usr)), (3, .ref b)]) d_Ss_start_37 (by decide) rfl rfl rfl ?_
  refine ST.lift (fun _ _ k => T_goto (tgt := 3) d_Ss_start_40 rfl k) ?_
  refine ST.lift (fun _ _ k => T_iload d_Ss_start_3 rfl k) ?_
  refine ST.lift (fun _ _ k => T_iconst (v := nI 3) d_Ss_start_5 (by decide) k) ?_
  refine S_icmp_geN d_Ss_start_6 rfl (by omega) (by omega) (fun _ => ?_) (fun c => by first | exact absurd c (by omega) | exact c.elim | exact absurd c (by decide) | exact absurd (by assumption) c | exact absurd c (by assumption))
  refine ST.lift (fun _ _ k => T_aload_n (v := .ref 343) d_Ss_start_43 rfl (Or.inr ⟨_, rfl⟩) k) ?_
  refine ST.lift (fun _ _ k => T_iload_n d_Ss_start_44 rfl k) ?_
  refine S_putfield (v' := va_up u26 54 (nI usr)) d_Ss_start_45 (fp_Ss_57 _) (w343 _) (Nat.le_of_ble_eq_true rfl) ⟨rfl, rfl⟩ (u343_4 _ _) ?_
  have hv35 := hv27.up (j := 54) (c := 7) (k := usr) (by decide) (by omega)
  have hm36 := hm28.go (mdf.up (v := u26) (j := 54) (x := (nI usr))) (by intro i hi; simp only [List.mem_cons, List.not_mem_nil, or_false] at hi ⊢ <;> omega)
  have e_u34 : (va_up u26 54 (nI usr)) 54 = (nI usr) := by simp [va_up]
  have e37 : (va_up u26 54 (nI usr)) 58 = nI 0 := by simp only [va_up]; exact e29
  have e38 : (va_up u26 54 (nI usr)) 61 = nI 0 := by simp only [va_up]; exact e30
  have e39 : (va_up u26 54 (nI usr)) 59 = nI 0 := by simp only [va_up]; exact e31
  have e40 : (va_up u26 54 (nI usr)) 62 = nI 0 := by simp only [va_up]; exact e32
  have e41 : (va_up u26 54 (nI usr)) 60 = nI 0 := by simp only [va_up]; exact e33
  have e42 : (va_up u26 54 (nI usr)) 63 = nI 0 := by simp only [va_up]; exact e_u26
  generalize va_up u26 54 (nI usr) = u34 at hv35 hm36 e_u34 e37 e38 e39 e40 e41 e42 ⊢
  refine ST.lift (fun _ _ k => T_aload_n (v := .ref 343) d_Ss_start_48 rfl (Or.inr ⟨_, rfl⟩) k) ?_
  refine S_getfield d_Ss_start_49 fg_Ss_34 (w343 _) rfl ?_
  refine S_virtual (as := []) (rest := []) (b := 349) d_Ss_start_52 rfl (jw_By_clear.jo (by decide)) lm_Ss_54 ji_By_clear js_By_clear (w349 _) rfl rfl rfl (Nat.le_of_ble_eq_true rfl) (by decide) (by decide) (c_By_clear G u34 349 350 200 55 ⟨w349, w350, by decide, u349_1, by decide, by decide⟩ hv35) (fun r v' hq => ?_)
  rw [hq.1, hq.2]
  clear hq r v'
  show ST G mi_Ss_start 55 [(4, .int (nI 3)), (0, .ref 343), (1, .ref 62), (2, .int (nI usr)), (3, .ref b)] [] (va_up u34 55 (nI 0)) 0 0 _
  have hv44 := hv35.up (j := 55) (c := 200) (k := 0) (by decide) (by omega)
  have hm45 := hm36.go (mdf.up (v := u34) (j := 55) (x := (nI 0))) (by intro i hi; simp only [List.mem_cons, List.not_mem_nil, or_false] at hi ⊢ <;> omega)
  have e_u43 : (va_up u34 55 (nI 0)) 55 = (nI 0) := by simp [va_up]
  have e46 : (va_up u34 55 (nI 0)) 58 = nI 0 := by simp only [va_up]; exact e37
  have e47 : (va_up u34 55 (nI 0)) 61 = nI 0 := by simp only [va_up]; exact e38
  have e48 : (va_up u34 55 (nI 0)) 59 = nI 0 := by simp only [va_up]; exact e39
  have e49 : (va_up u34 55 (nI 0)) 62 = nI 0 := by simp only [va_up]; exact e40
  have e50 : (va_up u34 55 (nI 0)) 60 = nI 0 := by simp only [va_up]; exact e41
  have e51 : (va_up u34 55 (nI 0)) 63 = nI 0 := by simp only [va_up]; exact e42
  have e52 : (va_up u34 55 (nI 0)) 54 = nI usr := by simp only [va_up]; exact e_u34
  generalize va_up u34 55 (nI 0) = u43 at hv44 hm45 e_u43 e46 e47 e48 e49 e50 e51 e52 ⊢
  refine ST.lift (fun _ _ k => T_aload_n (v := .ref 343) d_Ss_start_55 rfl (Or.inr ⟨_, rfl⟩) k) ?_
  refine S_getfield d_Ss_start_56 fg_Ss_34 (w343 _) rfl ?_
  refine ST.lift (fun _ _ k => T_aload_n (v := .ref b) d_Ss_start_59 rfl (Or.inr ⟨_, rfl⟩) k) ?_
  refine S_virtual (as := [.ref b]) (rest := []) (b := 349) d_Ss_start_60 rfl (jw_By_putAll.jo (by decide)) lm_Ss_60 ji_By_putAll js_By_putAll (w349 _) rfl rfl rfl (Nat.le_of_ble_eq_true rfl) (by decide) (by decide) (c_By_putAll G u43 349 350 200 55 ⟨w349, w350, by decide, u349_1, by decide, by decide⟩ b bd bc bj y_b hv44) (fun r u53 hq => ?_)
  obtain ⟨hr, hv54, hm55⟩ := hq
  rw [hr]
  clear hr r
  have hm56 := hm45.go hm55 (by intro i hi; simp only [List.mem_cons, List.not_mem_nil, or_false] at hi ⊢ <;> omega)
  have e57 : u53 58 = nI 0 := (hm55 58 (by decide)).trans e46
  have e58 : u53 61 = nI 0 := (hm55 61 (by decide)).trans e47
  have e59 : u53 59 = nI 0 := (hm55 59 (by decide)).trans e48
  have e60 : u53 62 = nI 0 := (hm55 62 (by decide)).trans e49
  have e61 : u53 60 = nI 0 := (hm55 60 (by decide)).trans e50
  have e62 : u53 63 = nI 0 := (hm55 63 (by decide)).trans e51
  have e63 : u53 54 = nI usr := (hm55 54 (by decide)).trans e52
  show ST G mi_Ss_start 63 [(4, .int (nI 3)), (0, .ref 343), (1, .ref 62), (2, .int (nI usr)), (3, .ref b)] [] u53 0 0 _
  refine ST.lift (fun _ _ k => T_aload_n (v := .ref 343) d_Ss_start_63 rfl (Or.inr ⟨_, rfl⟩) k) ?_
  refine S_getfield d_Ss_start_64 fg_Ss_38 (w343 _) rfl ?_
  refine S_virtual (as := []) (rest := []) (b := 351) d_Ss_start_67 rfl (jw_By_clear.jo (by decide)) lm_Ss_54 ji_By_clear js_By_clear (w351 _) rfl rfl rfl (Nat.le_of_ble_eq_true rfl) (by decide) (by decide) (c_By_clear G u53 351 352 96 56 ⟨w351, w352, by decide, u351_1, by decide, by decide⟩ hv54) (fun r v' hq => ?_)
  rw [hq.1, hq.2]
  clear hq r v'
  show ST G mi_Ss_start 70 [(4, .int (nI 3)), (0, .ref 343), (1, .ref 62), (2, .int (nI usr)), (3, .ref b)] [] (va_up u53 56 (nI 0)) 0 0 _
  have hv65 := hv54.up (j := 56) (c := 96) (k := 0) (by decide) (by omega)
  have hm66 := hm56.go (mdf.up (v := u53) (j := 56) (x := (nI 0))) (by intro i hi; simp only [List.mem_cons, List.not_mem_nil, or_false] at hi ⊢ <;> omega)
  have e_u64 : (va_up u53 56 (nI 0)) 56 = (nI 0) := by simp [va_up]
  have e67 : (va_up u53 56 (nI 0)) 58 = nI 0 := by simp only [va_up]; exact e57
  have e68 : (va_up u53 56 (nI 0)) 61 = nI 0 := by simp only [va_up]; exact e58
  have e69 : (va_up u53 56 (nI 0)) 59 = nI 0 := by simp only [va_up]; exact e59
  have e70 : (va_up u53 56 (nI 0)) 62 = nI 0 := by simp only [va_up]; exact e60
  have e71 : (va_up u53 56 (nI 0)) 60 = nI 0 := by simp only [va_up]; exact e61
  have e72 : (va_up u53 56 (nI 0)) 63 = nI 0 := by simp only [va_up]; exact e62
  have e73 : (va_up u53 56 (nI 0)) 54 = nI usr := by simp only [va_up]; exact e63
  generalize va_up u53 56 (nI 0) = u64 at hv65 hm66 e_u64 e67 e68 e69 e70 e71 e72 e73 ⊢
  refine ST.lift (fun _ _ k => T_aload_n (v := .ref 62) d_Ss_start_70 rfl (Or.inr ⟨_, rfl⟩) k) ?_
  refine ST.lift (fun _ _ k => T_aload_n (v := .ref 343) d_Ss_start_71 rfl (Or.inr ⟨_, rfl⟩) k) ?_
  refine S_getfield d_Ss_start_72 fg_Ss_44 (w343 _) rfl ?_
  refine S_virtual (as := [.ref 355]) (rest := []) (b := 62) d_Ss_start_75 rfl (jw_Kit_nextScalar.jo (by decide)) lm_Ss_64 ji_Kit_nextScalar js_Kit_nextScalar (w62 _) rfl rfl rfl (Nat.le_of_ble_eq_true rfl) (by decide) (by decide) (c_Kit_nextScalar G u64 355 32 (by decide) w355 (by omega) (by omega) hv65) (fun r u74 hq => ?_)
  obtain ⟨hr, hv75, hm76⟩ := hq
  rw [hr]
  clear hr r
  have hm77 := hm66.go hm76 (by intro i hi; simp only [List.mem_cons, List.not_mem_nil, or_false] at hi ⊢ <;> omega)
  have e78 : u74 58 = nI 0 := (hm76 58 (by decide)).trans e67
  have e79 : u74 61 = nI 0 := (hm76 61 (by decide)).trans e68
  have e80 : u74 59 = nI 0 := (hm76 59 (by decide)).trans e69
  have e81 : u74 62 = nI 0 := (hm76 62 (by decide)).trans e70
  have e82 : u74 60 = nI 0 := (hm76 60 (by decide)).trans e71
  have e83 : u74 63 = nI 0 := (hm76 63 (by decide)).trans e72
  have e84 : u74 54 = nI usr := (hm76 54 (by decide)).trans e73
  have e85 : u74 56 = nI 0 := (hm76 56 (by decide)).trans e_u64
  show ST G mi_Ss_start 78 [(4, .int (nI 3)), (0, .ref 343), (1, .ref 62), (2, .int (nI usr)), (3, .ref b)] [] u74 0 0 _
  refine ST.lift (fun _ _ k => T_aload_n (v := .ref 62) d_Ss_start_78 rfl (Or.inr ⟨_, rfl⟩) k) ?_
  refine ST.lift (fun _ _ k => T_aload_n (v := .ref 343) d_Ss_start_79 rfl (Or.inr ⟨_, rfl⟩) k) ?_
  refine S_getfield d_Ss_start_80 fg_Ss_34 (w343 _) rfl ?_
  refine ST.lift (fun _ _ k => T_aload_n (v := .ref 62) d_Ss_start_83 rfl (Or.inr ⟨_, rfl⟩) k) ?_
  refine S_getfield d_Ss_start_84 fg_Ss_70 (w62 _) rfl ?_
  refine S_virtual (as := [.ref 349, .ref 188]) (rest := []) (b := 62) d_Ss_start_87 rfl (jw_Kit_groupOf.jo (by decide)) lm_Ss_74 ji_Kit_groupOf js_Kit_groupOf (w62 _) rfl rfl rfl (Nat.le_of_ble_eq_true rfl) (by decide) (by decide) (c_Kit_groupOf G u74 349 350 200 55 ⟨w349, w350, by decide, u349_1, by decide, by decide⟩ 188 189 190 191 192 ⟨w188, w189, w190, w191, w192, by decide, by decide, by decide, by decide⟩ hv75) (fun r u86 hq => ?_)
  obtain ⟨hr, hv87, hm88⟩ := hq
  rw [hr]
  clear hr r
  have hm89 := hm77.go hm88 (by intro i hi; simp only [List.mem_cons, List.not_mem_nil, or_false] at hi ⊢ <;> omega)
  have e90 : u86 58 = nI 0 := (hm88 58 (by decide)).trans e78
  have e91 : u86 61 = nI 0 := (hm88 61 (by decide)).trans e79
  have e92 : u86 59 = nI 0 := (hm88 59 (by decide)).trans e80
  have e93 : u86 62 = nI 0 := (hm88 62 (by decide)).trans e81
  have e94 : u86 60 = nI 0 := (hm88 60 (by decide)).trans e82
  have e95 : u86 63 = nI 0 := (hm88 63 (by decide)).trans e83
  have e96 : u86 54 = nI usr := (hm88 54 (by decide)).trans e84
  have e97 : u86 56 = nI 0 := (hm88 56 (by decide)).trans e85
  show ST G mi_Ss_start 90 [(4, .int (nI 3)), (0, .ref 343), (1, .ref 62), (2, .int (nI usr)), (3, .ref b)] [] u86 0 0 _
  refine ST.lift (fun _ _ k => T_aload_n (v := .ref 62) d_Ss_start_90 rfl (Or.inr ⟨_, rfl⟩) k) ?_
  refine S_getfield d_Ss_start_91 fg_Ss_78 (w62 _) rfl ?_
  refine ST.lift (fun _ _ k => T_aload_n (v := .ref 62) d_Ss_start_94 rfl (Or.inr ⟨_, rfl⟩) k) ?_
  refine S_getfield d_Ss_start_95 fg_Ss_70 (w62 _) rfl ?_
  refine ST.lift (fun _ _ k => T_aload_n (v := .ref 343) d_Ss_start_98 rfl (Or.inr ⟨_, rfl⟩) k) ?_
  refine S_getfield d_Ss_start_99 fg_Ss_44 (w343 _) rfl ?_
  refine ST.lift (fun _ _ k => T_aload_n (v := .ref 62) d_Ss_start_102 rfl (Or.inr ⟨_, rfl⟩) k) ?_
  refine S_getfield d_Ss_start_103 fg_Ss_70 (w62 _) rfl ?_
  refine S_virtual (as := [.ref 188, .ref 355, .ref 188]) (rest := []) (b := 77) d_Ss_start_106 rfl (jw_Cu_multiply.jo (by decide)) lm_Ss_82 ji_Cu_multiply js_Cu_multiply (w77 _) rfl rfl rfl (Nat.le_of_ble_eq_true rfl) (by decide) (by decide) (c_Cu_multiply G u86 188 189 190 191 192 ⟨w188, w189, w190, w191, w192, by decide, by decide, by decide, by decide⟩ 355 32 (by decide) w355 (by omega) 188 189 190 191 192 ⟨w188, w189, w190, w191, w192, by decide, by decide, by decide, by decide⟩ (by omega)) (fun r v' hq => ?_)
  rw [hq.1, hq.2]
  clear hq r v'
  show ST G mi_Ss_start 109 [(4, .int (nI 3)), (0, .ref 343), (1, .ref 62), (2, .int (nI usr)), (3, .ref b)] [] u86 0 0 _
  refine ST.lift (fun _ _ k => T_aload_n (v := .ref 62) d_Ss_start_109 rfl (Or.inr ⟨_, rfl⟩) k) ?_
  refine S_getfield d_Ss_start_110 fg_Ss_78 (w62 _) rfl ?_
  refine ST.lift (fun _ _ k => T_aload_n (v := .ref 62) d_Ss_start_113 rfl (Or.inr ⟨_, rfl⟩) k) ?_
  refine S_getfield d_Ss_start_114 fg_Ss_70 (w62 _) rfl ?_
  refine ST.lift (fun _ _ k => T_aload_n (v := .ref 343) d_Ss_start_117 rfl (Or.inr ⟨_, rfl⟩) k) ?_
  refine S_getfield d_Ss_start_118 fg_Ss_38 (w343 _) rfl ?_
  refine S_virtual (as := [.ref 188, .ref 351]) (rest := []) (b := 77) d_Ss_start_121 rfl (jw_Cu_code.jo (by decide)) lm_Ss_88 ji_Cu_code js_Cu_code (w77 _) rfl rfl rfl (Nat.le_of_ble_eq_true rfl) (by decide) (by decide) (c_Cu_code G u86 188 189 190 191 192 ⟨w188, w189, w190, w191, w192, by decide, by decide, by decide, by decide⟩ 351 352 96 56 ⟨w351, w352, by decide, u351_1, by decide, by decide⟩ hv87) (fun r u98 hq => ?_)
  obtain ⟨hr, hv99, hm100⟩ := hq
  rw [hr]
  clear hr r
  have hm101 := hm89.go hm100 (by intro i hi; simp only [List.mem_cons, List.not_mem_nil, or_false] at hi ⊢ <;> omega)
  have e102 : u98 58 = nI 0 := (hm100 58 (by decide)).trans e90
  have e103 : u98 61 = nI 0 := (hm100 61 (by decide)).trans e91
  have e104 : u98 59 = nI 0 := (hm100 59 (by decide)).trans e92
  have e105 : u98 62 = nI 0 := (hm100 62 (by decide)).trans e93
  have e106 : u98 60 = nI 0 := (hm100 60 (by decide)).trans e94
  have e107 : u98 63 = nI 0 := (hm100 63 (by decide)).trans e95
  have e108 : u98 54 = nI usr := (hm100 54 (by decide)).trans e96
  show ST G mi_Ss_start 124 [(4, .int (nI 3)), (0, .ref 343), (1, .ref 62), (2, .int (nI usr)), (3, .ref b)] [] u98 0 0 _
  refine ST.lift (fun _ _ k => T_aload_n (v := .ref 62) d_Ss_start_124 rfl (Or.inr ⟨_, rfl⟩) k) ?_
  refine ST.lift (fun _ _ k => T_aload_n (v := .ref 343) d_Ss_start_125 rfl (Or.inr ⟨_, rfl⟩) k) ?_
  refine S_getfield d_Ss_start_126 fg_Ss_38 (w343 _) rfl ?_
  refine S_virtual (as := [.ref 351]) (rest := []) (b := 62) d_Ss_start_129 rfl (jw_Kit_putNonce.jo (by decide)) lm_Ss_92 ji_Kit_putNonce js_Kit_putNonce (w62 _) rfl rfl rfl (Nat.le_of_ble_eq_true rfl) (by decide) (by decide) (c_Kit_putNonce G u98 351 352 96 56 ⟨w351, w352, by decide, u351_1, by decide, by decide⟩ hv99) (fun r u109 hq => ?_)
  obtain ⟨hr, hv110, hm111⟩ := hq
  rw [hr]
  clear hr r
  have hm112 := hm101.go hm111 (by intro i hi; simp only [List.mem_cons, List.not_mem_nil, or_false] at hi ⊢ <;> omega)
  have e113 : u109 58 = nI 0 := (hm111 58 (by decide)).trans e102
  have e114 : u109 61 = nI 0 := (hm111 61 (by decide)).trans e103
  have e115 : u109 59 = nI 0 := (hm111 59 (by decide)).trans e104
  have e116 : u109 62 = nI 0 := (hm111 62 (by decide)).trans e105
  have e117 : u109 60 = nI 0 := (hm111 60 (by decide)).trans e106
  have e118 : u109 63 = nI 0 := (hm111 63 (by decide)).trans e107
  have e119 : u109 54 = nI usr := (hm111 54 (by decide)).trans e108
  show ST G mi_Ss_start 132 [(4, .int (nI 3)), (0, .ref 343), (1, .ref 62), (2, .int (nI usr)), (3, .ref b)] [] u109 0 0 _
  refine ST.lift (fun _ _ k => T_aload_n (v := .ref 62) d_Ss_start_132 rfl (Or.inr ⟨_, rfl⟩) k) ?_
  refine ST.lift (fun _ _ k => T_aload_n (v := .ref 343) d_Ss_start_133 rfl (Or.inr ⟨_, rfl⟩) k) ?_
  refine S_getfield d_Ss_start_134 fg_Ss_47 (w343 _) rfl ?_
  refine S_virtual (as := [.ref 356]) (rest := []) (b := 62) d_Ss_start_137 rfl (jw_Kit_nextScalar.jo (by decide)) lm_Ss_64 ji_Kit_nextScalar js_Kit_nextScalar (w62 _) rfl rfl rfl (Nat.le_of_ble_eq_true rfl) (by decide) (by decide) (c_Kit_nextScalar G u109 356 32 (by decide) w356 (by omega) (by omega) hv110) (fun r u120 hq => ?_)
  obtain ⟨hr, hv121, hm122⟩ := hq
  rw [hr]
  clear hr r
  have hm123 := hm112.go hm122 (by intro i hi; simp only [List.mem_cons, List.not_mem_nil, or_false] at hi ⊢ <;> omega)
  have e124 : u120 58 = nI 0 := (hm122 58 (by decide)).trans e113
  have e125 : u120 61 = nI 0 := (hm122 61 (by decide)).trans e114
  have e126 : u120 59 = nI 0 := (hm122 59 (by decide)).trans e115
  have e127 : u120 62 = nI 0 := (hm122 62 (by decide)).trans e116
  have e128 : u120 60 = nI 0 := (hm122 60 (by decide)).trans e117
  have e129 : u120 63 = nI 0 := (hm122 63 (by decide)).trans e118
  have e130 : u120 54 = nI usr := (hm122 54 (by decide)).trans e119
  show ST G mi_Ss_start 140 [(4, .int (nI 3)), (0, .ref 343), (1, .ref 62), (2, .int (nI usr)), (3, .ref b)] [] u120 0 0 _
  refine ST.lift (fun _ _ k => T_aload_n (v := .ref 62) d_Ss_start_140 rfl (Or.inr ⟨_, rfl⟩) k) ?_
  refine ST.lift (fun _ _ k => T_aload_n (v := .ref 343) d_Ss_start_141 rfl (Or.inr ⟨_, rfl⟩) k) ?_
  refine S_getfield d_Ss_start_142 fg_Ss_47 (w343 _) rfl ?_
  refine ST.lift (fun _ _ k => T_aload_n (v := .ref 343) d_Ss_start_145 rfl (Or.inr ⟨_, rfl⟩) k) ?_
  refine S_getfield d_Ss_start_146 fg_Ss_38 (w343 _) rfl ?_
  refine S_virtual (as := [.ref 356, .ref 351]) (rest := []) (b := 62) d_Ss_start_149 rfl (jw_Kit_putPublic.jo (by decide)) lm_Ss_95 ji_Kit_putPublic js_Kit_putPublic (w62 _) rfl rfl rfl (Nat.le_of_ble_eq_true rfl) (by decide) (by decide) (c_Kit_putPublic G u120 356 32 (by decide) w356 (by omega) 351 352 96 56 ⟨w351, w352, by decide, u351_1, by decide, by decide⟩ (by omega) hv121) (fun r u131 hq => ?_)
  obtain ⟨hr, hv132, hm133⟩ := hq
  rw [hr]
  clear hr r
  have hm134 := hm123.go hm133 (by intro i hi; simp only [List.mem_cons, List.not_mem_nil, or_false] at hi ⊢ <;> omega)
  have e135 : u131 58 = nI 0 := (hm133 58 (by decide)).trans e124
  have e136 : u131 61 = nI 0 := (hm133 61 (by decide)).trans e125
  have e137 : u131 59 = nI 0 := (hm133 59 (by decide)).trans e126
  have e138 : u131 62 = nI 0 := (hm133 62 (by decide)).trans e127
  have e139 : u131 60 = nI 0 := (hm133 60 (by decide)).trans e128
  have e140 : u131 63 = nI 0 := (hm133 63 (by decide)).trans e129
  have e141 : u131 54 = nI usr := (hm133 54 (by decide)).trans e130
  show ST G mi_Ss_start 152 [(4, .int (nI 3)), (0, .ref 343), (1, .ref 62), (2, .int (nI usr)), (3, .ref b)] [] u131 0 0 _
  refine ST.lift (fun _ _ k => T_aload_n (v := .ref 343) d_Ss_start_152 rfl (Or.inr ⟨_, rfl⟩) k) ?_
  refine S_getfield d_Ss_start_153 fg_Ss_11 (w343 _) rfl ?_
  refine ST.lift (fun _ _ k => T_iconst (v := nI 0) d_Ss_start_156 (by decide) k) ?_
  refine S_aaload (C0 := "PasswordGate$Bytes") d_Ss_start_157 (by decide) (w344 _) rfl (vp_in_nI (by omega) (by omega)) ?_
  refine ST.lift (fun _ _ k => T_aload_n (v := .ref 343) d_Ss_start_158 rfl (Or.inr ⟨_, rfl⟩) k) ?_
  refine S_getfield d_Ss_start_159 fg_Ss_38 (w343 _) rfl ?_
  refine S_virtual (as := [.ref 351]) (rest := []) (b := 357) d_Ss_start_162 rfl (jw_By_putAll.jo (by decide)) lm_Ss_60 ji_By_putAll js_By_putAll (w357 _) rfl rfl rfl (Nat.le_of_ble_eq_true rfl) (by decide) (by decide) (c_By_putAll G u131 357 358 96 58 ⟨w357, w358, by decide, u357_1, by decide, by decide⟩ 351 352 96 56 ⟨w351, w352, by decide, u351_1, by decide, by decide⟩ hv132) (fun r u142 hq => ?_)
  obtain ⟨hr, hv143, hm144⟩ := hq
  rw [hr]
  clear hr r
  have hm145 := hm134.go hm144 (by intro i hi; simp only [List.mem_cons, List.not_mem_nil, or_false] at hi ⊢ <;> omega)
  have e146 : u142 61 = nI 0 := (hm144 61 (by decide)).trans e136
  have e147 : u142 59 = nI 0 := (hm144 59 (by decide)).trans e137
  have e148 : u142 62 = nI 0 := (hm144 62 (by decide)).trans e138
  have e149 : u142 60 = nI 0 := (hm144 60 (by decide)).trans e139
  have e150 : u142 63 = nI 0 := (hm144 63 (by decide)).trans e140
  have e151 : u142 54 = nI usr := (hm144 54 (by decide)).trans e141
  show ST G mi_Ss_start 165 [(4, .int (nI 3)), (0, .ref 343), (1, .ref 62), (2, .int (nI usr)), (3, .ref b)] [] u142 0 0 _
  exact S_vret d_Ss_start_165 rfl (by decide) (by decide) (hQ _ hv143 hm145)
set_option maxRecDepth 100000 in
set_option maxHeartbeats 4000000 in
theorem c_Ss_confirmServer_343 (G : GX) (v : Nat → Int32) (hv : okv v) : CS G mi_Ss_confirmServer [.ref 343, .ref 62, .ref 217] v (fun r v' => ∃ z : Int32, r = some (.int z) ∧ okv v' ∧ mdf [6, 7, 5, 2, 3, 1, 4, 8, 9, 10, 58, 59, 60, 61, 62, 63, 55, 56, 57, 54] v v') := by
  refine CS.of (by decide) (Nat.le_of_ble_eq_true rfl) ?_
  generalize hQe : (fun (r : Option Value) (v' : Nat → Int32) => ∃ z : Int32, r = some (.int z) ∧ okv v' ∧ mdf [6, 7, 5, 2, 3, 1, 4, 8, 9, 10, 58, 59, 60, 61, 62, 63, 55, 56, 57, 54] v v') = Q
  have hQ : ∀ (z : Int32) (u : Nat → Int32), okv u → mdf [6, 7, 5, 2, 3, 1, 4, 8, 9, 10, 58, 59, 60, 61, 62, 63, 55, 56, 57, 54] v u → Q (some (.int z)) u := by rw [← hQe]; exact fun z u h1 h2 => ⟨z, rfl, h1, h2⟩
  clear hQe
  have hm : mdf [6, 7, 5, 2, 3, 1, 4, 8, 9, 10, 58, 59, 60, 61, 62, 63, 55, 56, 57, 54] v v := mdf.rf
  show ST G mi_Ss_confirmServer 0 [(0, .ref 343), (1, .ref 62), (2, .ref 217)] [] v 0 0 Q
  refine ST.lift (fun _ _ k => T_aload_n (v := .ref 343) d_Ss_confirmServer_0 rfl (Or.inr ⟨_, rfl⟩) k) ?_
  refine S_getfield d_Ss_confirmServer_1 fg_Ss_11 (w343 _) rfl ?_
  refine ST.lift (fun _ _ k => T_iconst (v := nI 1) d_Ss_confirmServer_4 (by decide) k) ?_
  refine S_aaload (C0 := "PasswordGate$Bytes") d_Ss_confirmServer_5 (by decide) (w344 _) rfl (vp_in_nI (by omega) (by omega)) ?_
  refine S_getfield d_Ss_confirmServer_6 fg_Ss_99 (w359 _) rfl ?_
  refine ST.lift (fun _ _ k => T_astore_n (L' := [(3, .ref 360), (0, .ref 343), (1, .ref 62), (2, .ref 217)]) d_Ss_confirmServer_9 (by decide) rfl (Or.inr ⟨_, rfl⟩) k) ?_
  refine ST.lift (fun _ _ k => T_aload_n (v := .ref 62) d_Ss_confirmServer_10 rfl (Or.inr ⟨_, rfl⟩) k) ?_
  refine S_getfield d_Ss_confirmServer_11 fg_Ss_78 (w62 _) rfl ?_
  refine ST.lift (fun _ _ k => T_aload_n (v := .ref 360) d_Ss_confirmServer_14 rfl (Or.inr ⟨_, rfl⟩) k) ?_
  refine ST.lift (fun _ _ k => T_iconst (v := nI 0) d_Ss_confirmServer_15 (by decide) k) ?_
  refine ST.lift (fun _ _ k => T_aload_n (v := .ref 62) d_Ss_confirmServer_16 rfl (Or.inr ⟨_, rfl⟩) k) ?_
  refine S_getfield d_Ss_confirmServer_17 fg_Ss_70 (w62 _) rfl ?_
  refine S_virtual (as := [.ref 360, .int (nI 0), .ref 188]) (rest := []) (b := 77) d_Ss_confirmServer_20 rfl (jw_Cu_decode.jo (by decide)) lm_Ss_102 ji_Cu_decode js_Cu_decode (w77 _) rfl rfl rfl (Nat.le_of_ble_eq_true rfl) (by decide) (by decide) (c_Cu_decode G v 360 320 (by decide) w360 (by omega) 0 (by omega) 188 189 190 191 192 ⟨w188, w189, w190, w191, w192, by decide, by decide, by decide, by decide⟩ hv) (fun r u1 hq => ?_)
  obtain ⟨z4, hz4, hr, hv2, hm3⟩ := hq
  rw [hr]
  clear hr r
  have hm5 := hm.go hm3 (by intro i hi; simp only [List.mem_cons, List.not_mem_nil, or_false] at hi ⊢ <;> omega)
  show ST G mi_Ss_confirmServer 23 [(3, .ref 360), (0, .ref 343), (1, .ref 62), (2, .ref 217)] [.int (nI z4)] u1 0 0 _
  refine S_if_neN d_Ss_confirmServer_23 rfl (by omega) (fun c6 => ?_) (fun c6 => ?_)
  · refine ST.lift (fun _ _ k => T_aload_n (v := .ref 62) d_Ss_confirmServer_28 rfl (Or.inr ⟨_, rfl⟩) k) ?_
    refine S_getfield d_Ss_confirmServer_29 fg_Ss_106 (w62 _) rfl ?_
    refine ST.lift (fun _ _ k => T_aload_n (v := .ref 343) d_Ss_confirmServer_32 rfl (Or.inr ⟨_, rfl⟩) k) ?_
    refine S_getfield d_Ss_confirmServer_33 fg_Ss_44 (w343 _) rfl ?_
    refine ST.lift (fun _ _ k => T_aload_n (v := .ref 62) d_Ss_confirmServer_36 rfl (Or.inr ⟨_, rfl⟩) k) ?_
    refine S_getfield d_Ss_confirmServer_37 fg_Ss_110 (w62 _) rfl ?_
    refine S_virtual (as := [.ref 355, .ref 198]) (rest := []) (b := 183) d_Ss_confirmServer_40 rfl (jw_Sc_invert.jo (by decide)) lm_Ss_113 ji_Sc_invert js_Sc_invert (w183 _) rfl rfl rfl (Nat.le_of_ble_eq_true rfl) (by decide) (by decide) (c_Sc_invert G u1 355 32 (by decide) w355 (by omega) 198 32 (by decide) w198 (by omega) (by omega)) (fun r v' hq => ?_)
    rw [hq.1, hq.2]
    clear hq r v'
    show ST G mi_Ss_confirmServer 43 [(3, .ref 360), (0, .ref 343), (1, .ref 62), (2, .ref 217)] [] u1 0 0 _
    refine ST.lift (fun _ _ k => T_aload_n (v := .ref 62) d_Ss_confirmServer_43 rfl (Or.inr ⟨_, rfl⟩) k) ?_
    refine S_getfield d_Ss_confirmServer_44 fg_Ss_78 (w62 _) rfl ?_
    refine ST.lift (fun _ _ k => T_aload_n (v := .ref 62) d_Ss_confirmServer_47 rfl (Or.inr ⟨_, rfl⟩) k) ?_
    refine S_getfield d_Ss_confirmServer_48 fg_Ss_70 (w62 _) rfl ?_
    refine ST.lift (fun _ _ k => T_aload_n (v := .ref 62) d_Ss_confirmServer_51 rfl (Or.inr ⟨_, rfl⟩) k) ?_
    refine S_getfield d_Ss_confirmServer_52 fg_Ss_110 (w62 _) rfl ?_
    refine ST.lift (fun _ _ k => T_aload_n (v := .ref 62) d_Ss_confirmServer_55 rfl (Or.inr ⟨_, rfl⟩) k) ?_
    refine S_getfield d_Ss_confirmServer_56 fg_Ss_70 (w62 _) rfl ?_
    refine S_virtual (as := [.ref 188, .ref 198, .ref 188]) (rest := []) (b := 77) d_Ss_confirmServer_59 rfl (jw_Cu_multiply.jo (by decide)) lm_Ss_82 ji_Cu_multiply js_Cu_multiply (w77 _) rfl rfl rfl (Nat.le_of_ble_eq_true rfl) (by decide) (by decide) (c_Cu_multiply G u1 188 189 190 191 192 ⟨w188, w189, w190, w191, w192, by decide, by decide, by decide, by decide⟩ 198 32 (by decide) w198 (by omega) 188 189 190 191 192 ⟨w188, w189, w190, w191, w192, by decide, by decide, by decide, by decide⟩ (by omega)) (fun r v' hq => ?_)
    rw [hq.1, hq.2]
    clear hq r v'
    show ST G mi_Ss_confirmServer 62 [(3, .ref 360), (0, .ref 343), (1, .ref 62), (2, .ref 217)] [] u1 0 0 _
    refine ST.lift (fun _ _ k => T_aload_n (v := .ref 62) d_Ss_confirmServer_62 rfl (Or.inr ⟨_, rfl⟩) k) ?_
    refine ST.lift (fun _ _ k => T_aload_n (v := .ref 343) d_Ss_confirmServer_63 rfl (Or.inr ⟨_, rfl⟩) k) ?_
    refine S_getfield d_Ss_confirmServer_64 fg_Ss_34 (w343 _) rfl ?_
    refine ST.lift (fun _ _ k => T_aload_n (v := .ref 62) d_Ss_confirmServer_67 rfl (Or.inr ⟨_, rfl⟩) k) ?_
    refine S_getfield d_Ss_confirmServer_68 fg_Ss_70 (w62 _) rfl ?_
    refine S_virtual (as := [.ref 349, .ref 188]) (rest := []) (b := 62) d_Ss_confirmServer_71 rfl (jw_Kit_randomize.jo (by decide)) lm_Ss_119 ji_Kit_randomize js_Kit_randomize (w62 _) rfl rfl rfl (Nat.le_of_ble_eq_true rfl) (by decide) (by decide) (c_Kit_randomize G u1 349 350 200 55 ⟨w349, w350, by decide, u349_1, by decide, by decide⟩ 188 189 190 191 192 ⟨w188, w189, w190, w191, w192, by decide, by decide, by decide, by decide⟩ hv2) (fun r u7 hq => ?_)
    obtain ⟨hr, hv8, hm9⟩ := hq
    rw [hr]
    clear hr r
    have hm10 := hm5.go hm9 (by intro i hi; simp only [List.mem_cons, List.not_mem_nil, or_false] at hi ⊢ <;> omega)
    show ST G mi_Ss_confirmServer 74 [(3, .ref 360), (0, .ref 343), (1, .ref 62), (2, .ref 217)] [] u7 0 0 _
    refine ST.lift (fun _ _ k => T_aload_n (v := .ref 343) d_Ss_confirmServer_74 rfl (Or.inr ⟨_, rfl⟩) k) ?_
    refine S_getfield d_Ss_confirmServer_75 fg_Ss_41 (w343 _) rfl ?_
    refine S_virtual (as := []) (rest := []) (b := 353) d_Ss_confirmServer_78 rfl (jw_By_clear.jo (by decide)) lm_Ss_54 ji_By_clear js_By_clear (w353 _) rfl rfl rfl (Nat.le_of_ble_eq_true rfl) (by decide) (by decide) (c_By_clear G u7 353 354 128 57 ⟨w353, w354, by decide, u353_1, by decide, by decide⟩ hv8) (fun r v' hq => ?_)
    rw [hq.1, hq.2]
    clear hq r v'
    show ST G mi_Ss_confirmServer 81 [(3, .ref 360), (0, .ref 343), (1, .ref 62), (2, .ref 217)] [] (va_up u7 57 (nI 0)) 0 0 _
    have hv12 := hv8.up (j := 57) (c := 128) (k := 0) (by decide) (by omega)
    have hm13 := hm10.go (mdf.up (v := u7) (j := 57) (x := (nI 0))) (by intro i hi; simp only [List.mem_cons, List.not_mem_nil, or_false] at hi ⊢ <;> omega)
    have e_u11 : (va_up u7 57 (nI 0)) 57 = (nI 0) := by simp [va_up]
    generalize va_up u7 57 (nI 0) = u11 at hv12 hm13 e_u11 ⊢
    refine ST.lift (fun _ _ k => T_aload_n (v := .ref 62) d_Ss_confirmServer_81 rfl (Or.inr ⟨_, rfl⟩) k) ?_
    refine ST.lift (fun _ _ k => T_aload_n (v := .ref 62) d_Ss_confirmServer_82 rfl (Or.inr ⟨_, rfl⟩) k) ?_
    refine S_getfield d_Ss_confirmServer_83 fg_Ss_122 (w62 _) rfl ?_
    refine ST.lift (fun _ _ k => T_aload_n (v := .ref 360) d_Ss_confirmServer_86 rfl (Or.inr ⟨_, rfl⟩) k) ?_
    refine ST.lift (fun _ _ k => T_aload_n (v := .ref 360) d_Ss_confirmServer_87 rfl (Or.inr ⟨_, rfl⟩) k) ?_
    refine ST.lift (fun _ _ k => T_bipush (v := nI 64) d_Ss_confirmServer_88 (by decide) k) ?_
    refine ST.lift (fun _ _ k => T_aload_n (v := .ref 343) d_Ss_confirmServer_90 rfl (Or.inr ⟨_, rfl⟩) k) ?_
    refine S_getfield d_Ss_confirmServer_91 fg_Ss_41 (w343 _) rfl ?_
    refine S_virtual (as := [.ref 201, .ref 360, .ref 360, .int (nI 64), .ref 353]) (rest := []) (b := 62) d_Ss_confirmServer_94 rfl (jw_Kit_putMasked.jo (by decide)) lm_Ss_125 ji_Kit_putMasked js_Kit_putMasked (w62 _) rfl rfl rfl (Nat.le_of_ble_eq_true rfl) (by decide) (by decide) (c_Kit_putMasked G u11 201 64 (by decide) w201 (by omega) 360 320 (by decide) w360 (by omega) 360 320 (by decide) w360 (by omega) 64 (by omega) 353 354 128 57 ⟨w353, w354, by decide, u353_1, by decide, by decide⟩ (by omega) hv12) (fun r u14 hq => ?_)
    obtain ⟨hr, hv15, hm16⟩ := hq
    rw [hr]
    clear hr r
    have hm17 := hm13.go hm16 (by intro i hi; simp only [List.mem_cons, List.not_mem_nil, or_false] at hi ⊢ <;> omega)
    show ST G mi_Ss_confirmServer 97 [(3, .ref 360), (0, .ref 343), (1, .ref 62), (2, .ref 217)] [] u14 0 0 _
    refine ST.lift (fun _ _ k => T_aload_n (v := .ref 62) d_Ss_confirmServer_97 rfl (Or.inr ⟨_, rfl⟩) k) ?_
    refine ST.lift (fun _ _ k => T_aload_n (v := .ref 343) d_Ss_confirmServer_98 rfl (Or.inr ⟨_, rfl⟩) k) ?_
    refine S_getfield d_Ss_confirmServer_99 fg_Ss_41 (w343 _) rfl ?_
    refine S_getfield d_Ss_confirmServer_102 fg_Ss_99 (w353 _) rfl ?_
    refine ST.lift (fun _ _ k => T_bipush (v := nI 32) d_Ss_confirmServer_105 (by decide) k) ?_
    refine ST.lift (fun _ _ k => T_aload_n (v := .ref 343) d_Ss_confirmServer_107 rfl (Or.inr ⟨_, rfl⟩) k) ?_
    refine S_getfield d_Ss_confirmServer_108 fg_Ss_41 (w343 _) rfl ?_
    refine S_getfield d_Ss_confirmServer_111 fg_Ss_99 (w353 _) rfl ?_
    refine S_virtual (as := [.ref 354, .int (nI 32), .ref 354]) (rest := []) (b := 62) d_Ss_confirmServer_114 rfl (jw_Kit_sealEnvelope.jo (by decide)) lm_Ss_129 ji_Kit_sealEnvelope js_Kit_sealEnvelope (w62 _) rfl rfl rfl (Nat.le_of_ble_eq_true rfl) (by decide) (by decide) (c_Kit_sealEnvelope G u14 354 128 (by decide) w354 (by omega) 32 (by omega) 354 128 (by decide) w354 (by omega) hv15) (fun r u18 hq => ?_)
    obtain ⟨hr, hv19, hm20⟩ := hq
    rw [hr]
    clear hr r
    have hm21 := hm17.go hm20 (by intro i hi; simp only [List.mem_cons, List.not_mem_nil, or_false] at hi ⊢ <;> omega)
    show ST G mi_Ss_confirmServer 117 [(3, .ref 360), (0, .ref 343), (1, .ref 62), (2, .ref 217)] [] u18 0 0 _
    refine ST.lift (fun _ _ k => T_aload_n (v := .ref 343) d_Ss_confirmServer_117 rfl (Or.inr ⟨_, rfl⟩) k) ?_
    refine S_getfield d_Ss_confirmServer_118 fg_Ss_41 (w343 _) rfl ?_
    refine ST.lift (fun _ _ k => T_bipush (v := nI 64) d_Ss_confirmServer_121 (by decide) k) ?_
    refine ST.lift (fun _ _ k => T_aload_n (v := .ref 62) d_Ss_confirmServer_123 rfl (Or.inr ⟨_, rfl⟩) k) ?_
    refine S_getfield d_Ss_confirmServer_124 fg_Ss_133 (w62 _) rfl ?_
    refine ST.lift (fun _ _ k => T_iconst (v := nI 0) d_Ss_confirmServer_127 (by decide) k) ?_
    refine S_virtual (as := [.int (nI 64), .ref 205, .int (nI 0)]) (rest := []) (b := 353) d_Ss_confirmServer_128 rfl (jw_By_endsLike.jo (by decide)) lm_Ss_136 ji_By_endsLike js_By_endsLike (w353 _) rfl rfl rfl (Nat.le_of_ble_eq_true rfl) (by decide) (by decide) (c_By_endsLike G u18 353 354 128 57 ⟨w353, w354, by decide, u353_1, by decide, by decide⟩ 64 (by omega) 205 64 (by decide) w205 (by omega) 0 (by omega) hv19) (fun r u22 hq => ?_)
    obtain ⟨z25, hz25, hr, hv23, hm24⟩ := hq
    rw [hr]
    clear hr r
    have hm26 := hm21.go hm24 (by intro i hi; simp only [List.mem_cons, List.not_mem_nil, or_false] at hi ⊢ <;> omega)
    show ST G mi_Ss_confirmServer 131 [(3, .ref 360), (0, .ref 343), (1, .ref 62), (2, .ref 217)] [.int (nI z25)] u22 0 0 _
    refine S_if_neN d_Ss_confirmServer_131 rfl (by omega) (fun c27 => ?_) (fun c27 => ?_)
    · refine ST.lift (fun _ _ k => T_aload_n (v := .ref 62) d_Ss_confirmServer_136 rfl (Or.inr ⟨_, rfl⟩) k) ?_
      refine S_getfield d_Ss_confirmServer_137 fg_Ss_78 (w62 _) rfl ?_
      refine ST.lift (fun _ _ k => T_aload_n (v := .ref 343) d_Ss_confirmServer_140 rfl (Or.inr ⟨_, rfl⟩) k) ?_
      refine S_getfield d_Ss_confirmServer_141 fg_Ss_41 (w343 _) rfl ?_
      refine S_getfield d_Ss_confirmServer_144 fg_Ss_99 (w353 _) rfl ?_
      refine ST.lift (fun _ _ k => T_iconst (v := nI 0) d_Ss_confirmServer_147 (by decide) k) ?_
      refine ST.lift (fun _ _ k => T_aload_n (v := .ref 62) d_Ss_confirmServer_148 rfl (Or.inr ⟨_, rfl⟩) k) ?_
      refine S_getfield d_Ss_confirmServer_149 fg_Ss_70 (w62 _) rfl ?_
      refine S_virtual (as := [.ref 354, .int (nI 0), .ref 188]) (rest := []) (b := 77) d_Ss_confirmServer_152 rfl (jw_Cu_decode.jo (by decide)) lm_Ss_102 ji_Cu_decode js_Cu_decode (w77 _) rfl rfl rfl (Nat.le_of_ble_eq_true rfl) (by decide) (by decide) (c_Cu_decode G u22 354 128 (by decide) w354 (by omega) 0 (by omega) 188 189 190 191 192 ⟨w188, w189, w190, w191, w192, by decide, by decide, by decide, by decide⟩ hv23) (fun r u28 hq => ?_)
      obtain ⟨z31, hz31, hr, hv29, hm30⟩ := hq
      rw [hr]
      clear hr r
      have hm32 := hm26.go hm30 (by intro i hi; simp only [List.mem_cons, List.not_mem_nil, or_false] at hi ⊢ <;> omega)
      show ST G mi_Ss_confirmServer 155 [(3, .ref 360), (0, .ref 343), (1, .ref 62), (2, .ref 217)] [.int (nI z31)] u28 0 0 _
      refine S_if_eqN d_Ss_confirmServer_155 rfl (by omega) (fun c33 => ?_) (fun c33 => ?_)
      · refine ST.lift (fun _ _ k => T_iconst (v := nI 1) d_Ss_confirmServer_176 (by decide) k) ?_
        exact S_ret d_Ss_confirmServer_177 rfl rfl (by decide) (by decide) (hQ _ _ hv29 hm32)
      · refine ST.lift (fun _ _ k => T_aload_n (v := .ref 62) d_Ss_confirmServer_158 rfl (Or.inr ⟨_, rfl⟩) k) ?_
        refine S_getfield d_Ss_confirmServer_159 fg_Ss_78 (w62 _) rfl ?_
        refine ST.lift (fun _ _ k => T_aload_n (v := .ref 360) d_Ss_confirmServer_162 rfl (Or.inr ⟨_, rfl⟩) k) ?_
        refine ST.lift (fun _ _ k => T_sipush (v := nI 224) d_Ss_confirmServer_163 (by decide) k) ?_
        refine ST.lift (fun _ _ k => T_aload_n (v := .ref 62) d_Ss_confirmServer_166 rfl (Or.inr ⟨_, rfl⟩) k) ?_
        refine S_getfield d_Ss_confirmServer_167 fg_Ss_140 (w62 _) rfl ?_
        refine S_virtual (as := [.ref 360, .int (nI 224), .ref 193]) (rest := []) (b := 77) d_Ss_confirmServer_170 rfl (jw_Cu_decode.jo (by decide)) lm_Ss_102 ji_Cu_decode js_Cu_decode (w77 _) rfl rfl rfl (Nat.le_of_ble_eq_true rfl) (by decide) (by decide) (c_Cu_decode G u28 360 320 (by decide) w360 (by omega) 224 (by omega) 193 194 195 196 197 ⟨w193, w194, w195, w196, w197, by decide, by decide, by decide, by decide⟩ hv29) (fun r u34 hq => ?_)
        obtain ⟨z37, hz37, hr, hv35, hm36⟩ := hq
        rw [hr]
        clear hr r
        have hm38 := hm32.go hm36 (by intro i hi; simp only [List.mem_cons, List.not_mem_nil, or_false] at hi ⊢ <;> omega)
        show ST G mi_Ss_confirmServer 173 [(3, .ref 360), (0, .ref 343), (1, .ref 62), (2, .ref 217)] [.int (nI z37)] u34 0 0 _
        refine S_if_neN d_Ss_confirmServer_173 rfl (by omega) (fun c39 => ?_) (fun c39 => ?_)
        · refine ST.lift (fun _ _ k => T_aload_n (v := .ref 217) d_Ss_confirmServer_178 rfl (Or.inr ⟨_, rfl⟩) k) ?_
          refine ST.lift (fun _ _ k => T_aload_n (v := .ref 62) d_Ss_confirmServer_179 rfl (Or.inr ⟨_, rfl⟩) k) ?_
          refine S_getfield d_Ss_confirmServer_180 fg_Ss_143 (w62 _) rfl ?_
          refine S_getfield d_Ss_confirmServer_183 fg_Ss_99 (w203 _) rfl ?_
          refine ST.lift (fun _ _ k => T_aload_n (v := .ref 343) d_Ss_confirmServer_186 rfl (Or.inr ⟨_, rfl⟩) k) ?_
          refine S_getfield d_Ss_confirmServer_187 fg_Ss_38 (w343 _) rfl ?_
          refine S_getfield d_Ss_confirmServer_190 fg_Ss_99 (w351 _) rfl ?_
          refine ST.lift (fun _ _ k => T_aload_n (v := .ref 343) d_Ss_confirmServer_193 rfl (Or.inr ⟨_, rfl⟩) k) ?_
          refine S_getfield d_Ss_confirmServer_194 fg_Ss_41 (w343 _) rfl ?_
          refine S_getfield d_Ss_confirmServer_197 fg_Ss_99 (w353 _) rfl ?_
          refine ST.lift (fun _ _ k => T_aload_n (v := .ref 360) d_Ss_confirmServer_200 rfl (Or.inr ⟨_, rfl⟩) k) ?_
          refine S_virtual (as := [.ref 204, .ref 352, .ref 354, .ref 360]) (rest := []) (b := 217) d_Ss_confirmServer_201 rfl (jw_Ex_open.jo (by decide)) lm_Ss_146 ji_Ex_open js_Ex_open (w217 _) rfl rfl rfl (Nat.le_of_ble_eq_true rfl) (by decide) (by decide) (c_Ex_open G u34 204 32 (by decide) w204 (by omega) 352 96 (by decide) w352 (by omega) 354 128 (by decide) w354 (by omega) 360 320 (by decide) w360 (by omega) hv35) (fun r u40 hq => ?_)
          obtain ⟨hr, hv41, hm42⟩ := hq
          rw [hr]
          clear hr r
          have hm43 := hm38.go hm42 (by intro i hi; simp only [List.mem_cons, List.not_mem_nil, or_false] at hi ⊢ <;> omega)
          show ST G mi_Ss_confirmServer 204 [(3, .ref 360), (0, .ref 343), (1, .ref 62), (2, .ref 217)] [] u40 0 0 _
          refine ST.lift (fun _ _ k => T_aload_n (v := .ref 217) d_Ss_confirmServer_204 rfl (Or.inr ⟨_, rfl⟩) k) ?_
          refine ST.lift (fun _ _ k => T_aload_n (v := .ref 62) d_Ss_confirmServer_205 rfl (Or.inr ⟨_, rfl⟩) k) ?_
          refine ST.lift (fun _ _ k => T_aload_n (v := .ref 343) d_Ss_confirmServer_206 rfl (Or.inr ⟨_, rfl⟩) k) ?_
          refine S_getfield d_Ss_confirmServer_207 fg_Ss_47 (w343 _) rfl ?_
          refine ST.lift (fun _ _ k => T_aload_n (v := .ref 62) d_Ss_confirmServer_210 rfl (Or.inr ⟨_, rfl⟩) k) ?_
          refine S_getfield d_Ss_confirmServer_211 fg_Ss_140 (w62 _) rfl ?_
          refine S_virtual (as := [.ref 62, .ref 356, .ref 193]) (rest := []) (b := 217) d_Ss_confirmServer_214 rfl (jw_Ex_join.jo (by decide)) lm_Ss_152 ji_Ex_join js_Ex_join (w217 _) rfl rfl rfl (Nat.le_of_ble_eq_true rfl) (by decide) (by decide) (c_Ex_join G u40 356 32 (by decide) w356 (by omega) 193 194 195 196 197 ⟨w193, w194, w195, w196, w197, by decide, by decide, by decide, by decide⟩ (by omega) hv41) (fun r u44 hq => ?_)
          obtain ⟨hr, hv45, hm46⟩ := hq
          rw [hr]
          clear hr r
          have hm47 := hm43.go hm46 (by intro i hi; simp only [List.mem_cons, List.not_mem_nil, or_false] at hi ⊢ <;> omega)
          show ST G mi_Ss_confirmServer 217 [(3, .ref 360), (0, .ref 343), (1, .ref 62), (2, .ref 217)] [] u44 0 0 _
          refine ST.lift (fun _ _ k => T_aload_n (v := .ref 217) d_Ss_confirmServer_217 rfl (Or.inr ⟨_, rfl⟩) k) ?_
          refine ST.lift (fun _ _ k => T_aload_n (v := .ref 62) d_Ss_confirmServer_218 rfl (Or.inr ⟨_, rfl⟩) k) ?_
          refine ST.lift (fun _ _ k => T_aload_n (v := .ref 343) d_Ss_confirmServer_219 rfl (Or.inr ⟨_, rfl⟩) k) ?_
          refine S_getfield d_Ss_confirmServer_220 fg_Ss_47 (w343 _) rfl ?_
          refine ST.lift (fun _ _ k => T_aload_n (v := .ref 62) d_Ss_confirmServer_223 rfl (Or.inr ⟨_, rfl⟩) k) ?_
          refine S_getfield d_Ss_confirmServer_224 fg_Ss_70 (w62 _) rfl ?_
          refine S_virtual (as := [.ref 62, .ref 356, .ref 188]) (rest := []) (b := 217) d_Ss_confirmServer_227 rfl (jw_Ex_join.jo (by decide)) lm_Ss_152 ji_Ex_join js_Ex_join (w217 _) rfl rfl rfl (Nat.le_of_ble_eq_true rfl) (by decide) (by decide) (c_Ex_join G u44 356 32 (by decide) w356 (by omega) 188 189 190 191 192 ⟨w188, w189, w190, w191, w192, by decide, by decide, by decide, by decide⟩ (by omega) hv45) (fun r u48 hq => ?_)
          obtain ⟨hr, hv49, hm50⟩ := hq
          rw [hr]
          clear hr r
          have hm51 := hm47.go hm50 (by intro i hi; simp only [List.mem_cons, List.not_mem_nil, or_false] at hi ⊢ <;> omega)
          show ST G mi_Ss_confirmServer 230 [(3, .ref 360), (0, .ref 343), (1, .ref 62), (2, .ref 217)] [] u48 0 0 _
          refine ST.lift (fun _ _ k => T_aload_n (v := .ref 217) d_Ss_confirmServer_230 rfl (Or.inr ⟨_, rfl⟩) k) ?_
          refine ST.lift (fun _ _ k => T_aload_n (v := .ref 62) d_Ss_confirmServer_231 rfl (Or.inr ⟨_, rfl⟩) k) ?_
          refine ST.lift (fun _ _ k => T_aload_n (v := .ref 62) d_Ss_confirmServer_232 rfl (Or.inr ⟨_, rfl⟩) k) ?_
          refine S_getfield d_Ss_confirmServer_233 fg_Ss_156 (w62 _) rfl ?_
          refine ST.lift (fun _ _ k => T_aload_n (v := .ref 62) d_Ss_confirmServer_236 rfl (Or.inr ⟨_, rfl⟩) k) ?_
          refine S_getfield d_Ss_confirmServer_237 fg_Ss_140 (w62 _) rfl ?_
          refine S_virtual (as := [.ref 62, .ref 202, .ref 193]) (rest := []) (b := 217) d_Ss_confirmServer_240 rfl (jw_Ex_join.jo (by decide)) lm_Ss_152 ji_Ex_join js_Ex_join (w217 _) rfl rfl rfl (Nat.le_of_ble_eq_true rfl) (by decide) (by decide) (c_Ex_join G u48 202 32 (by decide) w202 (by omega) 193 194 195 196 197 ⟨w193, w194, w195, w196, w197, by decide, by decide, by decide, by decide⟩ (by omega) hv49) (fun r u52 hq => ?_)
          obtain ⟨hr, hv53, hm54⟩ := hq
          rw [hr]
          clear hr r
          have hm55 := hm51.go hm54 (by intro i hi; simp only [List.mem_cons, List.not_mem_nil, or_false] at hi ⊢ <;> omega)
          show ST G mi_Ss_confirmServer 243 [(3, .ref 360), (0, .ref 343), (1, .ref 62), (2, .ref 217)] [] u52 0 0 _
          refine ST.lift (fun _ _ k => T_aload_n (v := .ref 217) d_Ss_confirmServer_243 rfl (Or.inr ⟨_, rfl⟩) k) ?_
          refine ST.lift (fun _ _ k => T_aload_n (v := .ref 62) d_Ss_confirmServer_244 rfl (Or.inr ⟨_, rfl⟩) k) ?_
          refine S_virtual (as := [.ref 62]) (rest := []) (b := 217) d_Ss_confirmServer_245 rfl (jw_Ex_settle.jo (by decide)) lm_Ss_159 ji_Ex_settle js_Ex_settle (w217 _) rfl rfl rfl (Nat.le_of_ble_eq_true rfl) (by decide) (by decide) (c_Ex_settle G u52 hv53) (fun r u56 hq => ?_)
          obtain ⟨hr, hv57, hm58⟩ := hq
          rw [hr]
          clear hr r
          have hm59 := hm55.go hm58 (by intro i hi; simp only [List.mem_cons, List.not_mem_nil, or_false] at hi ⊢ <;> omega)
          show ST G mi_Ss_confirmServer 248 [(3, .ref 360), (0, .ref 343), (1, .ref 62), (2, .ref 217)] [] u56 0 0 _
          refine ST.lift (fun _ _ k => T_aload_n (v := .ref 343) d_Ss_confirmServer_248 rfl (Or.inr ⟨_, rfl⟩) k) ?_
          refine S_getfield d_Ss_confirmServer_249 fg_Ss_11 (w343 _) rfl ?_
          refine ST.lift (fun _ _ k => T_iconst (v := nI 1) d_Ss_confirmServer_252 (by decide) k) ?_
          refine S_aaload (C0 := "PasswordGate$Bytes") d_Ss_confirmServer_253 (by decide) (w344 _) rfl (vp_in_nI (by omega) (by omega)) ?_
          refine ST.lift (fun _ _ k => T_sipush (v := nI 256) d_Ss_confirmServer_254 (by decide) k) ?_
          refine ST.lift (fun _ _ k => T_aload_n (v := .ref 217) d_Ss_confirmServer_257 rfl (Or.inr ⟨_, rfl⟩) k) ?_
          refine S_getfield d_Ss_confirmServer_258 fg_Ss_163 (w217 _) rfl ?_
          refine ST.lift (fun _ _ k => T_iconst (v := nI 0) d_Ss_confirmServer_261 (by decide) k) ?_
          refine S_virtual (as := [.int (nI 256), .ref 218, .int (nI 0)]) (rest := []) (b := 359) d_Ss_confirmServer_262 rfl (jw_By_endsLike.jo (by decide)) lm_Ss_136 ji_By_endsLike js_By_endsLike (w359 _) rfl rfl rfl (Nat.le_of_ble_eq_true rfl) (by decide) (by decide) (c_By_endsLike G u56 359 360 320 59 ⟨w359, w360, by decide, u359_1, by decide, by decide⟩ 256 (by omega) 218 64 (by decide) w218 (by omega) 0 (by omega) hv57) (fun r u60 hq => ?_)
          obtain ⟨z63, hz63, hr, hv61, hm62⟩ := hq
          rw [hr]
          clear hr r
          have hm64 := hm59.go hm62 (by intro i hi; simp only [List.mem_cons, List.not_mem_nil, or_false] at hi ⊢ <;> omega)
          show ST G mi_Ss_confirmServer 265 [(3, .ref 360), (0, .ref 343), (1, .ref 62), (2, .ref 217)] [.int (nI z63)] u60 0 0 _
          refine S_if_neN d_Ss_confirmServer_265 rfl (by omega) (fun c65 => ?_) (fun c65 => ?_)
          · refine ST.lift (fun _ _ k => T_aload_n (v := .ref 343) d_Ss_confirmServer_270 rfl (Or.inr ⟨_, rfl⟩) k) ?_
            refine S_getfield d_Ss_confirmServer_271 fg_Ss_11 (w343 _) rfl ?_
            refine ST.lift (fun _ _ k => T_iconst (v := nI 2) d_Ss_confirmServer_274 (by decide) k) ?_
            refine S_aaload (C0 := "PasswordGate$Bytes") d_Ss_confirmServer_275 (by decide) (w344 _) rfl (vp_in_nI (by omega) (by omega)) ?_
            refine ST.lift (fun _ _ k => T_aload_n (v := .ref 217) d_Ss_confirmServer_276 rfl (Or.inr ⟨_, rfl⟩) k) ?_
            refine S_getfield d_Ss_confirmServer_277 fg_Ss_166 (w217 _) rfl ?_
            refine ST.lift (fun _ _ k => T_iconst (v := nI 0) d_Ss_confirmServer_280 (by decide) k) ?_
            refine ST.lift (fun _ _ k => T_bipush (v := nI 64) d_Ss_confirmServer_281 (by decide) k) ?_
            refine S_virtual (as := [.ref 219, .int (nI 0), .int (nI 64)]) (rest := []) (b := 361) d_Ss_confirmServer_283 rfl (jw_By_put.jo (by decide)) lm_Ss_169 ji_By_put js_By_put (w361 _) rfl rfl rfl (Nat.le_of_ble_eq_true rfl) (by decide) (by decide) (c_By_put G u60 361 362 64 60 ⟨w361, w362, by decide, u361_1, by decide, by decide⟩ 219 64 (by decide) w219 (by omega) 0 (by omega) 64 (by omega) hv61) (fun r u66 hq => ?_)
            obtain ⟨hr, hv67, hm68⟩ := hq
            rw [hr]
            clear hr r
            have hm69 := hm64.go hm68 (by intro i hi; simp only [List.mem_cons, List.not_mem_nil, or_false] at hi ⊢ <;> omega)
            show ST G mi_Ss_confirmServer 286 [(3, .ref 360), (0, .ref 343), (1, .ref 62), (2, .ref 217)] [] u66 0 0 _
            refine ST.lift (fun _ _ k => T_aload_n (v := .ref 343) d_Ss_confirmServer_286 rfl (Or.inr ⟨_, rfl⟩) k) ?_
            refine S_getfield d_Ss_confirmServer_287 fg_Ss_17 (w343 _) rfl ?_
            refine ST.lift (fun _ _ k => T_iconst (v := nI 0) d_Ss_confirmServer_290 (by decide) k) ?_
            refine S_aaload (C0 := "PasswordGate$Bytes") d_Ss_confirmServer_291 (by decide) (w345 _) rfl (vp_in_nI (by omega) (by omega)) ?_
            refine ST.lift (fun _ _ k => T_aload_n (v := .ref 217) d_Ss_confirmServer_292 rfl (Or.inr ⟨_, rfl⟩) k) ?_
            refine S_getfield d_Ss_confirmServer_293 fg_Ss_173 (w217 _) rfl ?_
            refine ST.lift (fun _ _ k => T_iconst (v := nI 0) d_Ss_confirmServer_296 (by decide) k) ?_
            refine ST.lift (fun _ _ k => T_bipush (v := nI 64) d_Ss_confirmServer_297 (by decide) k) ?_
            refine S_virtual (as := [.ref 220, .int (nI 0), .int (nI 64)]) (rest := []) (b := 363) d_Ss_confirmServer_299 rfl (jw_By_put.jo (by decide)) lm_Ss_169 ji_By_put js_By_put (w363 _) rfl rfl rfl (Nat.le_of_ble_eq_true rfl) (by decide) (by decide) (c_By_put G u66 363 364 64 61 ⟨w363, w364, by decide, u363_1, by decide, by decide⟩ 220 64 (by decide) w220 (by omega) 0 (by omega) 64 (by omega) hv67) (fun r u70 hq => ?_)
            obtain ⟨hr, hv71, hm72⟩ := hq
            rw [hr]
            clear hr r
            have hm73 := hm69.go hm72 (by intro i hi; simp only [List.mem_cons, List.not_mem_nil, or_false] at hi ⊢ <;> omega)
            show ST G mi_Ss_confirmServer 302 [(3, .ref 360), (0, .ref 343), (1, .ref 62), (2, .ref 217)] [] u70 0 0 _
            refine ST.lift (fun _ _ k => T_aload_n (v := .ref 343) d_Ss_confirmServer_302 rfl (Or.inr ⟨_, rfl⟩) k) ?_
            refine S_getfield d_Ss_confirmServer_303 fg_Ss_17 (w343 _) rfl ?_
            refine ST.lift (fun _ _ k => T_iconst (v := nI 2) d_Ss_confirmServer_306 (by decide) k) ?_
            refine S_aaload (C0 := "PasswordGate$Bytes") d_Ss_confirmServer_307 (by decide) (w345 _) rfl (vp_in_nI (by omega) (by omega)) ?_
            refine ST.lift (fun _ _ k => T_aload_n (v := .ref 62) d_Ss_confirmServer_308 rfl (Or.inr ⟨_, rfl⟩) k) ?_
            refine S_getfield d_Ss_confirmServer_309 fg_Ss_176 (w62 _) rfl ?_
            refine ST.lift (fun _ _ k => T_iconst (v := nI 0) d_Ss_confirmServer_312 (by decide) k) ?_
            refine ST.lift (fun _ _ k => T_bipush (v := nI 64) d_Ss_confirmServer_313 (by decide) k) ?_
            refine S_virtual (as := [.ref 206, .int (nI 0), .int (nI 64)]) (rest := []) (b := 367) d_Ss_confirmServer_315 rfl (jw_By_put.jo (by decide)) lm_Ss_169 ji_By_put js_By_put (w367 _) rfl rfl rfl (Nat.le_of_ble_eq_true rfl) (by decide) (by decide) (c_By_put G u70 367 368 64 63 ⟨w367, w368, by decide, u367_1, by decide, by decide⟩ 206 64 (by decide) w206 (by omega) 0 (by omega) 64 (by omega) hv71) (fun r u74 hq => ?_)
            obtain ⟨hr, hv75, hm76⟩ := hq
            rw [hr]
            clear hr r
            have hm77 := hm73.go hm76 (by intro i hi; simp only [List.mem_cons, List.not_mem_nil, or_false] at hi ⊢ <;> omega)
            show ST G mi_Ss_confirmServer 318 [(3, .ref 360), (0, .ref 343), (1, .ref 62), (2, .ref 217)] [] u74 0 0 _
            refine ST.lift (fun _ _ k => T_iconst (v := nI 0) d_Ss_confirmServer_318 (by decide) k) ?_
            exact S_ret d_Ss_confirmServer_319 rfl rfl (by decide) (by decide) (hQ _ _ hv75 hm77)
          · refine ST.lift (fun _ _ k => T_iconst (v := nI 4) d_Ss_confirmServer_268 (by decide) k) ?_
            exact S_ret d_Ss_confirmServer_269 rfl rfl (by decide) (by decide) (hQ _ _ hv61 hm64)
        · refine ST.lift (fun _ _ k => T_iconst (v := nI 1) d_Ss_confirmServer_176 (by decide) k) ?_
          exact S_ret d_Ss_confirmServer_177 rfl rfl (by decide) (by decide) (hQ _ _ hv35 hm38)
    · refine ST.lift (fun _ _ k => T_iconst (v := nI 3) d_Ss_confirmServer_134 (by decide) k) ?_
      exact S_ret d_Ss_confirmServer_135 rfl rfl (by decide) (by decide) (hQ _ _ hv23 hm26)
  · refine ST.lift (fun _ _ k => T_iconst (v := nI 1) d_Ss_confirmServer_26 (by decide) k) ?_
    exact S_ret d_Ss_confirmServer_27 rfl rfl (by decide) (by decide) (hQ _ _ hv2 hm5)
set_option maxRecDepth 100000 in
set_option maxHeartbeats 4000000 in
theorem c_Ss_confirmClient_343 (G : GX) (v : Nat → Int32) (hv : okv v) : CS G mi_Ss_confirmClient [.ref 343] v (fun r v' => ∃ z : Int32, r = some (.int z) ∧ okv v' ∧ mdf [58, 59, 60, 61, 62, 63, 55, 56, 57, 54] v v') := by
  refine CS.of (by decide) (Nat.le_of_ble_eq_true rfl) ?_
  generalize hQe : (fun (r : Option Value) (v' : Nat → Int32) => ∃ z : Int32, r = some (.int z) ∧ okv v' ∧ mdf [58, 59, 60, 61, 62, 63, 55, 56, 57, 54] v v') = Q
  have hQ : ∀ (z : Int32) (u : Nat → Int32), okv u → mdf [58, 59, 60, 61, 62, 63, 55, 56, 57, 54] v u → Q (some (.int z)) u := by rw [← hQe]; exact fun z u h1 h2 => ⟨z, rfl, h1, h2⟩
  clear hQe
  have hm : mdf [58, 59, 60, 61, 62, 63, 55, 56, 57, 54] v v := mdf.rf
  show ST G mi_Ss_confirmClient 0 [(0, .ref 343)] [] v 0 0 Q
  refine ST.lift (fun _ _ k => T_aload_n (v := .ref 343) d_Ss_confirmClient_0 rfl (Or.inr ⟨_, rfl⟩) k) ?_
  refine S_getfield d_Ss_confirmClient_1 fg_Ss_11 (w343 _) rfl ?_
  refine ST.lift (fun _ _ k => T_iconst (v := nI 2) d_Ss_confirmClient_4 (by decide) k) ?_
  refine S_aaload (C0 := "PasswordGate$Bytes") d_Ss_confirmClient_5 (by decide) (w344 _) rfl (vp_in_nI (by omega) (by omega)) ?_
  refine ST.lift (fun _ _ k => T_iconst (v := nI 0) d_Ss_confirmClient_6 (by decide) k) ?_
  refine ST.lift (fun _ _ k => T_aload_n (v := .ref 343) d_Ss_confirmClient_7 rfl (Or.inr ⟨_, rfl⟩) k) ?_
  refine S_getfield d_Ss_confirmClient_8 fg_Ss_20 (w343 _) rfl ?_
  refine ST.lift (fun _ _ k => T_iconst (v := nI 0) d_Ss_confirmClient_11 (by decide) k) ?_
  refine S_virtual (as := [.int (nI 0), .ref 346, .int (nI 0)]) (rest := []) (b := 361) d_Ss_confirmClient_12 rfl (jw_By_endsLike.jo (by decide)) lm_Ss_136 ji_By_endsLike js_By_endsLike (w361 _) rfl rfl rfl (Nat.le_of_ble_eq_true rfl) (by decide) (by decide) (c_By_endsLike G v 361 362 64 60 ⟨w361, w362, by decide, u361_1, by decide, by decide⟩ 0 (by omega) 346 64 (by decide) w346 (by omega) 0 (by omega) hv) (fun r u1 hq => ?_)
  obtain ⟨z4, hz4, hr, hv2, hm3⟩ := hq
  rw [hr]
  clear hr r
  have hm5 := hm.go hm3 (by intro i hi; simp only [List.mem_cons, List.not_mem_nil, or_false] at hi ⊢ <;> omega)
  show ST G mi_Ss_confirmClient 15 [(0, .ref 343)] [.int (nI z4)] u1 0 0 _
  refine S_if_neN d_Ss_confirmClient_15 rfl (by omega) (fun c6 => ?_) (fun c6 => ?_)
  · refine ST.lift (fun _ _ k => T_aload_n (v := .ref 343) d_Ss_confirmClient_20 rfl (Or.inr ⟨_, rfl⟩) k) ?_
    refine S_getfield d_Ss_confirmClient_21 fg_Ss_17 (w343 _) rfl ?_
    refine ST.lift (fun _ _ k => T_iconst (v := nI 1) d_Ss_confirmClient_24 (by decide) k) ?_
    refine S_aaload (C0 := "PasswordGate$Bytes") d_Ss_confirmClient_25 (by decide) (w345 _) rfl (vp_in_nI (by omega) (by omega)) ?_
    refine ST.lift (fun _ _ k => T_aload_n (v := .ref 343) d_Ss_confirmClient_26 rfl (Or.inr ⟨_, rfl⟩) k) ?_
    refine S_getfield d_Ss_confirmClient_27 fg_Ss_24 (w343 _) rfl ?_
    refine ST.lift (fun _ _ k => T_iconst (v := nI 0) d_Ss_confirmClient_30 (by decide) k) ?_
    refine ST.lift (fun _ _ k => T_bipush (v := nI 64) d_Ss_confirmClient_31 (by decide) k) ?_
    refine S_virtual (as := [.ref 347, .int (nI 0), .int (nI 64)]) (rest := []) (b := 365) d_Ss_confirmClient_33 rfl (jw_By_put.jo (by decide)) lm_Ss_169 ji_By_put js_By_put (w365 _) rfl rfl rfl (Nat.le_of_ble_eq_true rfl) (by decide) (by decide) (c_By_put G u1 365 366 64 62 ⟨w365, w366, by decide, u365_1, by decide, by decide⟩ 347 64 (by decide) w347 (by omega) 0 (by omega) 64 (by omega) hv2) (fun r u7 hq => ?_)
    obtain ⟨hr, hv8, hm9⟩ := hq
    rw [hr]
    clear hr r
    have hm10 := hm5.go hm9 (by intro i hi; simp only [List.mem_cons, List.not_mem_nil, or_false] at hi ⊢ <;> omega)
    show ST G mi_Ss_confirmClient 36 [(0, .ref 343)] [] u7 0 0 _
    refine ST.lift (fun _ _ k => T_iconst (v := nI 0) d_Ss_confirmClient_36 (by decide) k) ?_
    exact S_ret d_Ss_confirmClient_37 rfl rfl (by decide) (by decide) (hQ _ _ hv8 hm10)
  · refine ST.lift (fun _ _ k => T_iconst (v := nI 5) d_Ss_confirmClient_18 (by decide) k) ?_
    exact S_ret d_Ss_confirmClient_19 rfl rfl (by decide) (by decide) (hQ _ _ hv2 hm5)

set_option maxRecDepth 100000 in
set_option maxHeartbeats 4000000 in
theorem c_Ss_take_265_0 (G : GX) (v : Nat → Int32) (hv : okv v) : CS G mi_Ss_take [.ref 265, .int (nI 0)] v (fun r v' => ∃ z : Nat, z ≤ 1 ∧ r = some (.int (nI z)) ∧ okv v' ∧ mdf [76] v v') := by
  refine CS.of (by decide) (Nat.le_of_ble_eq_true rfl) ?_
  generalize hQe : (fun (r : Option Value) (v' : Nat → Int32) => ∃ z : Nat, z ≤ 1 ∧ r = some (.int (nI z)) ∧ okv v' ∧ mdf [76] v v') = Q
  have hQ : ∀ (z : Nat) (u : Nat → Int32), z ≤ 1 → okv u → mdf [76] v u → Q (some (.int (nI z))) u := by rw [← hQe]; exact fun z u hz h1 h2 => ⟨z, hz, rfl, h1, h2⟩
  clear hQe
  have hm : mdf [76] v v := mdf.rf
  show ST G mi_Ss_take 0 [(0, .ref 265), (1, .int (nI 0))] [] v 0 0 Q
  refine ST.lift (fun _ _ k => T_aload_n (v := .ref 265) d_Ss_take_0 rfl (Or.inr ⟨_, rfl⟩) k) ?_
  refine S_getfield d_Ss_take_1 fg_Ss_11 (w265 _) rfl ?_
  refine ST.lift (fun _ _ k => T_iload_n d_Ss_take_4 rfl k) ?_
  refine S_aaload (C0 := "PasswordGate$Bytes") d_Ss_take_5 (by decide) (w266 _) rfl (vp_in_nI (by omega) (by omega)) ?_
  obtain ⟨k1, hk1, ek1⟩ := hv.get (j := 28) (c := 96) (by decide)
  refine S_getfield d_Ss_take_6 fg_Ss_50 (w279 _) rfl ?_
  refine S_topi (y := nI k1) (ek1) ?_
  refine S_if_eqN d_Ss_take_9 rfl (by omega) (fun c2 => ?_) (fun c2 => ?_)
  · refine ST.lift (fun _ _ k => T_iconst (v := nI 0) d_Ss_take_21 (by decide) k) ?_
    exact S_ret d_Ss_take_22 rfl (nar_z (by omega)) (by decide) (by decide) (hQ 0 _ (by omega) hv hm)
  · refine ST.lift (fun _ _ k => T_aload_n (v := .ref 265) d_Ss_take_12 rfl (Or.inr ⟨_, rfl⟩) k) ?_
    refine S_getfield d_Ss_take_13 fg_Ss_27 (w265 _) rfl ?_
    refine ST.lift (fun _ _ k => T_iload_n d_Ss_take_16 rfl k) ?_
    refine S_xload (t := 3) (k := 0) (Or.inr ⟨rfl, d_Ss_take_17⟩) rfl (w270 _) (by decide) (by decide) ?_
    refine S_topi (y := v 76) rfl ?_
    refine S_if_eq d_Ss_take_18 rfl (fun c3 => ?_) (fun c3 => ?_)
    · refine ST.lift (fun _ _ k => T_aload_n (v := .ref 265) d_Ss_take_23 rfl (Or.inr ⟨_, rfl⟩) k) ?_
      refine S_getfield d_Ss_take_24 fg_Ss_27 (w265 _) rfl ?_
      refine ST.lift (fun _ _ k => T_iload_n d_Ss_take_27 rfl k) ?_
      refine ST.lift (fun _ _ k => T_iconst (v := nI 1) d_Ss_take_28 (by decide) k) ?_
      refine S_xstore (k := 0) (y := (nI 1)) (v' := va_up v 76 (nI 1)) (Or.inr ⟨rfl, by decide, d_Ss_take_29⟩) (by decide) rfl (w270 _) (by decide) (by decide) (x270_0 _ _) ?_
      have hv5 := hv.off (j := 76) (x := (nI 1)) (by decide)
      have hm6 := hm.go (mdf.up (v := v) (j := 76) (x := (nI 1))) (by intro i hi; simp only [List.mem_cons, List.not_mem_nil, or_false] at hi ⊢ <;> omega)
      have e_u4 : (va_up v 76 (nI 1)) 76 = (nI 1) := by simp [va_up]
      have e7 : (va_up v 76 (nI 1)) 28 = nI k1 := by simp only [va_up]; exact ek1
      generalize va_up v 76 (nI 1) = u4 at hv5 hm6 e_u4 e7 ⊢
      refine ST.lift (fun _ _ k => T_iconst (v := nI 1) d_Ss_take_30 (by decide) k) ?_
      exact S_ret d_Ss_take_31 rfl (nar_z (by omega)) (by decide) (by decide) (hQ 1 _ (by omega) hv5 hm6)
    · refine ST.lift (fun _ _ k => T_iconst (v := nI 0) d_Ss_take_21 (by decide) k) ?_
      exact S_ret d_Ss_take_22 rfl (nar_z (by omega)) (by decide) (by decide) (hQ 0 _ (by omega) hv hm)
set_option maxRecDepth 100000 in
set_option maxHeartbeats 4000000 in
theorem c_Ss_take_265_1 (G : GX) (v : Nat → Int32) (hv : okv v) : CS G mi_Ss_take [.ref 265, .int (nI 1)] v (fun r v' => ∃ z : Nat, z ≤ 1 ∧ r = some (.int (nI z)) ∧ okv v' ∧ mdf [77] v v') := by
  refine CS.of (by decide) (Nat.le_of_ble_eq_true rfl) ?_
  generalize hQe : (fun (r : Option Value) (v' : Nat → Int32) => ∃ z : Nat, z ≤ 1 ∧ r = some (.int (nI z)) ∧ okv v' ∧ mdf [77] v v') = Q
  have hQ : ∀ (z : Nat) (u : Nat → Int32), z ≤ 1 → okv u → mdf [77] v u → Q (some (.int (nI z))) u := by rw [← hQe]; exact fun z u hz h1 h2 => ⟨z, hz, rfl, h1, h2⟩
  clear hQe
  have hm : mdf [77] v v := mdf.rf
  show ST G mi_Ss_take 0 [(0, .ref 265), (1, .int (nI 1))] [] v 0 0 Q
  refine ST.lift (fun _ _ k => T_aload_n (v := .ref 265) d_Ss_take_0 rfl (Or.inr ⟨_, rfl⟩) k) ?_
  refine S_getfield d_Ss_take_1 fg_Ss_11 (w265 _) rfl ?_
  refine ST.lift (fun _ _ k => T_iload_n d_Ss_take_4 rfl k) ?_
  refine S_aaload (C0 := "PasswordGate$Bytes") d_Ss_take_5 (by decide) (w266 _) rfl (vp_in_nI (by omega) (by omega)) ?_
  obtain ⟨k1, hk1, ek1⟩ := hv.get (j := 29) (c := 320) (by decide)
  refine S_getfield d_Ss_take_6 fg_Ss_50 (w281 _) rfl ?_
  refine S_topi (y := nI k1) (ek1) ?_
  refine S_if_eqN d_Ss_take_9 rfl (by omega) (fun c2 => ?_) (fun c2 => ?_)
  · refine ST.lift (fun _ _ k => T_iconst (v := nI 0) d_Ss_take_21 (by decide) k) ?_
    exact S_ret d_Ss_take_22 rfl (nar_z (by omega)) (by decide) (by decide) (hQ 0 _ (by omega) hv hm)
  · refine ST.lift (fun _ _ k => T_aload_n (v := .ref 265) d_Ss_take_12 rfl (Or.inr ⟨_, rfl⟩) k) ?_
    refine S_getfield d_Ss_take_13 fg_Ss_27 (w265 _) rfl ?_
    refine ST.lift (fun _ _ k => T_iload_n d_Ss_take_16 rfl k) ?_
    refine S_xload (t := 3) (k := 1) (Or.inr ⟨rfl, d_Ss_take_17⟩) rfl (w270 _) (by decide) (by decide) ?_
    refine S_topi (y := v 77) rfl ?_
    refine S_if_eq d_Ss_take_18 rfl (fun c3 => ?_) (fun c3 => ?_)
    · refine ST.lift (fun _ _ k => T_aload_n (v := .ref 265) d_Ss_take_23 rfl (Or.inr ⟨_, rfl⟩) k) ?_
      refine S_getfield d_Ss_take_24 fg_Ss_27 (w265 _) rfl ?_
      refine ST.lift (fun _ _ k => T_iload_n d_Ss_take_27 rfl k) ?_
      refine ST.lift (fun _ _ k => T_iconst (v := nI 1) d_Ss_take_28 (by decide) k) ?_
      refine S_xstore (k := 1) (y := (nI 1)) (v' := va_up v 77 (nI 1)) (Or.inr ⟨rfl, by decide, d_Ss_take_29⟩) (by decide) rfl (w270 _) (by decide) (by decide) (x270_1 _ _) ?_
      have hv5 := hv.off (j := 77) (x := (nI 1)) (by decide)
      have hm6 := hm.go (mdf.up (v := v) (j := 77) (x := (nI 1))) (by intro i hi; simp only [List.mem_cons, List.not_mem_nil, or_false] at hi ⊢ <;> omega)
      have e_u4 : (va_up v 77 (nI 1)) 77 = (nI 1) := by simp [va_up]
      have e7 : (va_up v 77 (nI 1)) 29 = nI k1 := by simp only [va_up]; exact ek1
      generalize va_up v 77 (nI 1) = u4 at hv5 hm6 e_u4 e7 ⊢
      refine ST.lift (fun _ _ k => T_iconst (v := nI 1) d_Ss_take_30 (by decide) k) ?_
      exact S_ret d_Ss_take_31 rfl (nar_z (by omega)) (by decide) (by decide) (hQ 1 _ (by omega) hv5 hm6)
    · refine ST.lift (fun _ _ k => T_iconst (v := nI 0) d_Ss_take_21 (by decide) k) ?_
      exact S_ret d_Ss_take_22 rfl (nar_z (by omega)) (by decide) (by decide) (hQ 0 _ (by omega) hv hm)
set_option maxRecDepth 100000 in
set_option maxHeartbeats 4000000 in
theorem c_Ss_take_265_2 (G : GX) (v : Nat → Int32) (hv : okv v) : CS G mi_Ss_take [.ref 265, .int (nI 2)] v (fun r v' => ∃ z : Nat, z ≤ 1 ∧ r = some (.int (nI z)) ∧ okv v' ∧ mdf [78] v v') := by
  refine CS.of (by decide) (Nat.le_of_ble_eq_true rfl) ?_
  generalize hQe : (fun (r : Option Value) (v' : Nat → Int32) => ∃ z : Nat, z ≤ 1 ∧ r = some (.int (nI z)) ∧ okv v' ∧ mdf [78] v v') = Q
  have hQ : ∀ (z : Nat) (u : Nat → Int32), z ≤ 1 → okv u → mdf [78] v u → Q (some (.int (nI z))) u := by rw [← hQe]; exact fun z u hz h1 h2 => ⟨z, hz, rfl, h1, h2⟩
  clear hQe
  have hm : mdf [78] v v := mdf.rf
  show ST G mi_Ss_take 0 [(0, .ref 265), (1, .int (nI 2))] [] v 0 0 Q
  refine ST.lift (fun _ _ k => T_aload_n (v := .ref 265) d_Ss_take_0 rfl (Or.inr ⟨_, rfl⟩) k) ?_
  refine S_getfield d_Ss_take_1 fg_Ss_11 (w265 _) rfl ?_
  refine ST.lift (fun _ _ k => T_iload_n d_Ss_take_4 rfl k) ?_
  refine S_aaload (C0 := "PasswordGate$Bytes") d_Ss_take_5 (by decide) (w266 _) rfl (vp_in_nI (by omega) (by omega)) ?_
  obtain ⟨k1, hk1, ek1⟩ := hv.get (j := 30) (c := 64) (by decide)
  refine S_getfield d_Ss_take_6 fg_Ss_50 (w283 _) rfl ?_
  refine S_topi (y := nI k1) (ek1) ?_
  refine S_if_eqN d_Ss_take_9 rfl (by omega) (fun c2 => ?_) (fun c2 => ?_)
  · refine ST.lift (fun _ _ k => T_iconst (v := nI 0) d_Ss_take_21 (by decide) k) ?_
    exact S_ret d_Ss_take_22 rfl (nar_z (by omega)) (by decide) (by decide) (hQ 0 _ (by omega) hv hm)
  · refine ST.lift (fun _ _ k => T_aload_n (v := .ref 265) d_Ss_take_12 rfl (Or.inr ⟨_, rfl⟩) k) ?_
    refine S_getfield d_Ss_take_13 fg_Ss_27 (w265 _) rfl ?_
    refine ST.lift (fun _ _ k => T_iload_n d_Ss_take_16 rfl k) ?_
    refine S_xload (t := 3) (k := 2) (Or.inr ⟨rfl, d_Ss_take_17⟩) rfl (w270 _) (by decide) (by decide) ?_
    refine S_topi (y := v 78) rfl ?_
    refine S_if_eq d_Ss_take_18 rfl (fun c3 => ?_) (fun c3 => ?_)
    · refine ST.lift (fun _ _ k => T_aload_n (v := .ref 265) d_Ss_take_23 rfl (Or.inr ⟨_, rfl⟩) k) ?_
      refine S_getfield d_Ss_take_24 fg_Ss_27 (w265 _) rfl ?_
      refine ST.lift (fun _ _ k => T_iload_n d_Ss_take_27 rfl k) ?_
      refine ST.lift (fun _ _ k => T_iconst (v := nI 1) d_Ss_take_28 (by decide) k) ?_
      refine S_xstore (k := 2) (y := (nI 1)) (v' := va_up v 78 (nI 1)) (Or.inr ⟨rfl, by decide, d_Ss_take_29⟩) (by decide) rfl (w270 _) (by decide) (by decide) (x270_2 _ _) ?_
      have hv5 := hv.off (j := 78) (x := (nI 1)) (by decide)
      have hm6 := hm.go (mdf.up (v := v) (j := 78) (x := (nI 1))) (by intro i hi; simp only [List.mem_cons, List.not_mem_nil, or_false] at hi ⊢ <;> omega)
      have e_u4 : (va_up v 78 (nI 1)) 78 = (nI 1) := by simp [va_up]
      have e7 : (va_up v 78 (nI 1)) 30 = nI k1 := by simp only [va_up]; exact ek1
      generalize va_up v 78 (nI 1) = u4 at hv5 hm6 e_u4 e7 ⊢
      refine ST.lift (fun _ _ k => T_iconst (v := nI 1) d_Ss_take_30 (by decide) k) ?_
      exact S_ret d_Ss_take_31 rfl (nar_z (by omega)) (by decide) (by decide) (hQ 1 _ (by omega) hv5 hm6)
    · refine ST.lift (fun _ _ k => T_iconst (v := nI 0) d_Ss_take_21 (by decide) k) ?_
      exact S_ret d_Ss_take_22 rfl (nar_z (by omega)) (by decide) (by decide) (hQ 0 _ (by omega) hv hm)
set_option maxRecDepth 100000 in
set_option maxHeartbeats 4000000 in
theorem c_Ss_start_265 (G : GX) (v : Nat → Int32) (usr : Nat) (b_usr : usr ≤ 7) (b bd bc bj : Nat) (y_b : isBy b bd bc bj) (hv : okv v) : CS G mi_Ss_start [.ref 265, .ref 62, .int (nI usr), .ref b] v (fun r v' => r = none ∧ okv v' ∧ mdf [6, 7, 5, 2, 3, 1, 4, 28, 29, 30, 31, 32, 33, 25, 26, 27, 24, 76, 77, 78] v v') := by
  refine CS.of (by decide) (Nat.le_of_ble_eq_true rfl) ?_
  generalize hQe : (fun (r : Option Value) (v' : Nat → Int32) => r = none ∧ okv v' ∧ mdf [6, 7, 5, 2, 3, 1, 4, 28, 29, 30, 31, 32, 33, 25, 26, 27, 24, 76, 77, 78] v v') = Q
  have hQ : ∀ u, okv u → mdf [6, 7, 5, 2, 3, 1, 4, 28, 29, 30, 31, 32, 33, 25, 26, 27, 24, 76, 77, 78] v u → Q none u := by rw [← hQe]; exact fun u h1 h2 => ⟨rfl, h1, h2⟩
  clear hQe
  have hm : mdf [6, 7, 5, 2, 3, 1, 4, 28, 29, 30, 31, 32, 33, 25, 26, 27, 24, 76, 77, 78] v v := mdf.rf
  have l_b := y_b.2.2.2.2.2
  show ST G mi_Ss_start 0 [(0, .ref 265), (1, .ref 62), (2, .int (nI usr)), (3, .ref b)] [] v 0 0 Q
  refine ST.lift (fun _ _ k => T_iconst (v := nI 0) d_Ss_start_0 (by decide) k) ?_
  refine ST.lift (fun _ _ k => T_istore (L' := [(4, .int (nI 0)), (0, .ref 265), (1, .ref 62), (2, .int (nI usr)), (3, .ref b)]) d_Ss_start_1 (by decide) rfl k) ?_
  refine ST.lift (fun _ _ k => T_iload d_Ss_start_3 rfl k) ?_
  refine ST.lift (fun _ _ k => T_iconst (v := nI 3) d_Ss_start_5 (by decide) k) ?_
  refine S_icmp_geN d_Ss_start_6 rfl (by omega) (by omega) (fun c => by first | exact absurd c (by omega) | exact c.elim | exact absurd c (by decide) | exact absurd (by assumption) c | exact absurd c (by assumption)) (fun _ => ?_)
  refine ST.lift (fun _ _ k => T_aload_n (v := .ref 265) d_Ss_start_9 rfl (Or.inr ⟨_, rfl⟩) k) ?_
  refine S_getfield d_Ss_start_10 fg_Ss_11 (w265 _) rfl ?_
  refine ST.lift (fun _ _ k => T_iload d_Ss_start_13 rfl k) ?_
  refine S_aaload (C0 := "PasswordGate$Bytes") d_Ss_start_15 (by decide) (w266 _) rfl (vp_in_nI (by omega) (by omega)) ?_
  refine S_virtual (as := []) (rest := []) (b := 279) d_Ss_start_16 rfl (jw_By_clear.jo (by decide)) lm_Ss_54 ji_By_clear js_By_clear (w279 _) rfl rfl rfl (Nat.le_of_ble_eq_true rfl) (by decide) (by decide) (c_By_clear G v 279 280 96 28 ⟨w279, a280, by decide, u279_1, by decide, by decide⟩ hv) (fun r v' hq => ?_)
  rw [hq.1, hq.2]
  clear hq r v'
  show ST G mi_Ss_start 19 [(4, .int (nI 0)), (0, .ref 265), (1, .ref 62), (2, .int (nI usr)), (3, .ref b)] [] (va_up v 28 (nI 0)) 0 0 _
  have hv2 := hv.up (j := 28) (c := 96) (k := 0) (by decide) (by omega)
  have hm3 := hm.go (mdf.up (v := v) (j := 28) (x := (nI 0))) (by intro i hi; simp only [List.mem_cons, List.not_mem_nil, or_false] at hi ⊢ <;> omega)
  have e_u1 : (va_up v 28 (nI 0)) 28 = (nI 0) := by simp [va_up]
  generalize va_up v 28 (nI 0) = u1 at hv2 hm3 e_u1 ⊢
  refine ST.lift (fun _ _ k => T_aload_n (v := .ref 265) d_Ss_start_19 rfl (Or.inr ⟨_, rfl⟩) k) ?_
  refine S_getfield d_Ss_start_20 fg_Ss_17 (w265 _) rfl ?_
  refine ST.lift (fun _ _ k => T_iload d_Ss_start_23 rfl k) ?_
  refine S_aaload (C0 := "PasswordGate$Bytes") d_Ss_start_25 (by decide) (w267 _) rfl (vp_in_nI (by omega) (by omega)) ?_
  refine S_virtual (as := []) (rest := []) (b := 285) d_Ss_start_26 rfl (jw_By_clear.jo (by decide)) lm_Ss_54 ji_By_clear js_By_clear (w285 _) rfl rfl rfl (Nat.le_of_ble_eq_true rfl) (by decide) (by decide) (c_By_clear G u1 285 286 64 31 ⟨w285, a286, by decide, u285_1, by decide, by decide⟩ hv2) (fun r v' hq => ?_)
  rw [hq.1, hq.2]
  clear hq r v'
  show ST G mi_Ss_start 29 [(4, .int (nI 0)), (0, .ref 265), (1, .ref 62), (2, .int (nI usr)), (3, .ref b)] [] (va_up u1 31 (nI 0)) 0 0 _
  have hv5 := hv2.up (j := 31) (c := 64) (k := 0) (by decide) (by omega)
  have hm6 := hm3.go (mdf.up (v := u1) (j := 31) (x := (nI 0))) (by intro i hi; simp only [List.mem_cons, List.not_mem_nil, or_false] at hi ⊢ <;> omega)
  have e_u4 : (va_up u1 31 (nI 0)) 31 = (nI 0) := by simp [va_up]
  have e7 : (va_up u1 31 (nI 0)) 28 = nI 0 := by simp only [va_up]; exact e_u1
  generalize va_up u1 31 (nI 0) = u4 at hv5 hm6 e_u4 e7 ⊢
  refine ST.lift (fun _ _ k => T_aload_n (v := .ref 265) d_Ss_start_29 rfl (Or.inr ⟨_, rfl⟩) k) ?_
  refine S_getfield d_Ss_start_30 fg_Ss_27 (w265 _) rfl ?_
  refine ST.lift (fun _ _ k => T_iload d_Ss_start_33 rfl k) ?_
  refine ST.lift (fun _ _ k => T_iconst (v := nI 0) d_Ss_start_35 (by decide) k) ?_
  refine S_xstore (k := 0) (y := (nI 0)) (v' := va_up u4 76 (nI 0)) (Or.inr ⟨rfl, by decide, d_Ss_start_36⟩) (by decide) rfl (w270 _) (by decide) (by decide) (x270_0 _ _) ?_
  have hv9 := hv5.off (j := 76) (x := (nI 0)) (by decide)
  have hm10 := hm6.go (mdf.up (v := u4) (j := 76) (x := (nI 0))) (by intro i hi; simp only [List.mem_cons, List.not_mem_nil, or_false] at hi ⊢ <;> omega)
  have e_u8 : (va_up u4 76 (nI 0)) 76 = (nI 0) := by simp [va_up]
  have e11 : (va_up u4 76 (nI 0)) 28 = nI 0 := by simp only [va_up]; exact e7
  have e12 : (va_up u4 76 (nI 0)) 31 = nI 0 := by simp only [va_up]; exact e_u4
  generalize va_up u4 76 (nI 0) = u8 at hv9 hm10 e_u8 e11 e12 ⊢
  refine S_iincN (a := 0) (b := 1) (L' := [(4, .int (nI 1)), (0, .ref 265), (1, .ref 62), (2, .int (nI usr)), (3, .ref b)]) d_Ss_start_37 (by decide) rfl rfl rfl ?_
  refine ST.lift (fun _ _ k => T_goto (tgt := 3) d_Ss_start_40 rfl k) ?_
  refine ST.lift (fun _ _ k => T_iload d_Ss_start_3 rfl k) ?_
  refine ST.lift (fun _ _ k => T_iconst (v := nI 3) d_Ss_start_5 (by decide) k) ?_
  refine S_icmp_geN d_Ss_start_6 rfl (by omega) (by omega) (fun c => by first | exact absurd c (by omega) | exact c.elim | exact absurd c (by decide) | exact absurd (by assumption) c | exact absurd c (by assumption)) (fun _ => ?_)
  refine ST.lift (fun _ _ k => T_aload_n (v := .ref 265) d_Ss_start_9 rfl (Or.inr ⟨_, rfl⟩) k) ?_
  refine S_getfield d_Ss_start_10 fg_Ss_11 (w265 _) rfl ?_
  refine ST.lift (fun _ _ k => T_iload d_Ss_start_13 rfl k) ?_
  refine S_aaload (C0 := "PasswordGate$Bytes") d_Ss_start_15 (by decide) (w266 _) rfl (vp_in_nI (by omega) (by omega)) ?_
  refine S_virtual (as := []) (rest := []) (b := 281) d_Ss_start_16 rfl (jw_By_clear.jo (by decide)) lm_Ss_54 ji_By_clear js_By_clear (w281 _) rfl rfl rfl (Nat.le_of_ble_eq_true rfl) (by decide) (by decide) (c_By_clear G u8 281 282 320 29 ⟨w281, a282, by decide, u281_1, by decide, by decide⟩ hv9) (fun r v' hq => ?_)
  rw [hq.1, hq.2]
  clear hq r v'
  show ST G mi_Ss_start 19 [(4, .int (nI 1)), (0, .ref 265), (1, .ref 62), (2, .int (nI usr)), (3, .ref b)] [] (va_up u8 29 (nI 0)) 0 0 _
  have hv14 := hv9.up (j := 29) (c := 320) (k := 0) (by decide) (by omega)
  have hm15 := hm10.go (mdf.up (v := u8) (j := 29) (x := (nI 0))) (by intro i hi; simp only [List.mem_cons, List.not_mem_nil, or_false] at hi ⊢ <;> omega)
  have e_u13 : (va_up u8 29 (nI 0)) 29 = (nI 0) := by simp [va_up]
  have e16 : (va_up u8 29 (nI 0)) 28 = nI 0 := by simp only [va_up]; exact e11
  have e17 : (va_up u8 29 (nI 0)) 31 = nI 0 := by simp only [va_up]; exact e12
  have e18 : (va_up u8 29 (nI 0)) 76 = nI 0 := by simp only [va_up]; exact e_u8
  generalize va_up u8 29 (nI 0) = u13 at hv14 hm15 e_u13 e16 e17 e18 ⊢
  refine ST.lift (fun _ _ k => T_aload_n (v := .ref 265) d_Ss_start_19 rfl (Or.inr ⟨_, rfl⟩) k) ?_
  refine S_getfield d_Ss_start_20 fg_Ss_17 (w265 _) rfl ?_
  refine ST.lift (fun _ _ k => T_iload d_Ss_start_23 rfl k) ?_
  refine S_aaload (C0 := "PasswordGate$Bytes") d_Ss_start_25 (by decide) (w267 _) rfl (vp_in_nI (by omega) (by omega)) ?_
  refine S_virtual (as := []) (rest := []) (b := 287) d_Ss_start_26 rfl (jw_By_clear.jo (by decide)) lm_Ss_54 ji_By_clear js_By_clear (w287 _) rfl rfl rfl (Nat.le_of_ble_eq_true rfl) (by decide) (by decide) (c_By_clear G u13 287 288 64 32 ⟨w287, a288, by decide, u287_1, by decide, by decide⟩ hv14) (fun r v' hq => ?_)
  rw [hq.1, hq.2]
  clear hq r v'
  show ST G mi_Ss_start 29 [(4, .int (nI 1)), (0, .ref 265), (1, .ref 62), (2, .int (nI usr)), (3, .ref b)] [] (va_up u13 32 (nI 0)) 0 0 _
  have hv20 := hv14.up (j := 32) (c := 64) (k := 0) (by decide) (by omega)
  have hm21 := hm15.go (mdf.up (v := u13) (j := 32) (x := (nI 0))) (by intro i hi; simp only [List.mem_cons, List.not_mem_nil, or_false] at hi ⊢ <;> omega)
  have e_u19 : (va_up u13 32 (nI 0)) 32 = (nI 0) := by simp [va_up]
  have e22 : (va_up u13 32 (nI 0)) 28 = nI 0 := by simp only [va_up]; exact e16
  have e23 : (va_up u13 32 (nI 0)) 31 = nI 0 := by simp only [va_up]; exact e17
  have e24 : (va_up u13 32 (nI 0)) 76 = nI 0 := by simp only [va_up]; exact e18
  have e25 : (va_up u13 32 (nI 0)) 29 = nI 0 := by simp only [va_up]; exact e_u13
  generalize va_up u13 32 (nI 0) = u19 at hv20 hm21 e_u19 e22 e23 e24 e25 ⊢
  refine ST.lift (fun _ _ k => T_aload_n (v := .ref 265) d_Ss_start_29 rfl (Or.inr ⟨_, rfl⟩) k) ?_
  refine S_getfield d_Ss_start_30 fg_Ss_27 (w265 _) rfl ?_
  refine ST.lift (fun _ _ k => T_iload d_Ss_start_33 rfl k) ?_
  refine ST.lift (fun _ _ k => T_iconst (v := nI 0) d_Ss_start_35 (by decide) k) ?_
  refine S_xstore (k := 1) (y := (nI 0)) (v' := va_up u19 77 (nI 0)) (Or.inr ⟨rfl, by decide, d_Ss_start_36⟩) (by decide) rfl (w270 _) (by decide) (by decide) (x270_1 _ _) ?_
  have hv27 := hv20.off (j := 77) (x := (nI 0)) (by decide)
  have hm28 := hm21.go (mdf.up (v := u19) (j := 77) (x := (nI 0))) (by intro i hi; simp only [List.mem_cons, List.not_mem_nil, or_false] at hi ⊢ <;> omega)
  have e_u26 : (va_up u19 77 (nI 0)) 77 = (nI 0) := by simp [va_up]
  have e29 : (va_up u19 77 (nI 0)) 28 = nI 0 := by simp only [va_up]; exact e22
  have e30 : (va_up u19 77 (nI 0)) 31 = nI 0 := by simp only [va_up]; exact e23
  have e31 : (va_up u19 77 (nI 0)) 76 = nI 0 := by simp only [va_up]; exact e24
  have e32 : (va_up u19 77 (nI 0)) 29 = nI 0 := by simp only [va_up]; exact e25
  have e33 : (va_up u19 77 (nI 0)) 32 = nI 0 := by simp only [va_up]; exact e_u19
  generalize va_up u19 77 (nI 0) = u26 at hv27 hm28 e_u26 e29 e30 e31 e32 e33 ⊢
  refine S_iincN (a := 1) (b := 1) (L' := [(4, .int (nI 2)), (0, .ref 265), (1, .ref 62), (2, .int (nI usr)), (3, .ref b)]) d_Ss_start_37 (by decide) rfl rfl rfl ?_
  refine ST.lift (fun _ _ k => T_goto (tgt := 3) d_Ss_start_40 rfl k) ?_
  refine ST.lift (fun _ _ k => T_iload d_Ss_start_3 rfl k) ?_
  refine ST.lift (fun _ _ k => T_iconst (v := nI 3) d_Ss_start_5 (by decide) k) ?_
  refine S_icmp_geN d_Ss_start_6 rfl (by omega) (by omega) (fun c => by first | exact absurd c (by omega) | exact c.elim | exact absurd c (by decide) | exact absurd (by assumption) c | exact absurd c (by assumption)) (fun _ => ?_)
  refine ST.lift (fun _ _ k => T_aload_n (v := .ref 265) d_Ss_start_9 rfl (Or.inr ⟨_, rfl⟩) k) ?_
  refine S_getfield d_Ss_start_10 fg_Ss_11 (w265 _) rfl ?_
  refine ST.lift (fun _ _ k => T_iload d_Ss_start_13 rfl k) ?_
  refine S_aaload (C0 := "PasswordGate$Bytes") d_Ss_start_15 (by decide) (w266 _) rfl (vp_in_nI (by omega) (by omega)) ?_
  refine S_virtual (as := []) (rest := []) (b := 283) d_Ss_start_16 rfl (jw_By_clear.jo (by decide)) lm_Ss_54 ji_By_clear js_By_clear (w283 _) rfl rfl rfl (Nat.le_of_ble_eq_true rfl) (by decide) (by decide) (c_By_clear G u26 283 284 64 30 ⟨w283, a284, by decide, u283_1, by decide, by decide⟩ hv27) (fun r v' hq => ?_)
  rw [hq.1, hq.2]
  clear hq r v'
  show ST G mi_Ss_start 19 [(4, .int (nI 2)), (0, .ref 265), (1, .ref 62), (2, .int (nI usr)), (3, .ref b)] [] (va_up u26 30 (nI 0)) 0 0 _
  have hv35 := hv27.up (j := 30) (c := 64) (k := 0) (by decide) (by omega)
  have hm36 := hm28.go (mdf.up (v := u26) (j := 30) (x := (nI 0))) (by intro i hi; simp only [List.mem_cons, List.not_mem_nil, or_false] at hi ⊢ <;> omega)
  have e_u34 : (va_up u26 30 (nI 0)) 30 = (nI 0) := by simp [va_up]
  have e37 : (va_up u26 30 (nI 0)) 28 = nI 0 := by simp only [va_up]; exact e29
  have e38 : (va_up u26 30 (nI 0)) 31 = nI 0 := by simp only [va_up]; exact e30
  have e39 : (va_up u26 30 (nI 0)) 76 = nI 0 := by simp only [va_up]; exact e31
  have e40 : (va_up u26 30 (nI 0)) 29 = nI 0 := by simp only [va_up]; exact e32
  have e41 : (va_up u26 30 (nI 0)) 32 = nI 0 := by simp only [va_up]; exact e33
  have e42 : (va_up u26 30 (nI 0)) 77 = nI 0 := by simp only [va_up]; exact e_u26
  generalize va_up u26 30 (nI 0) = u34 at hv35 hm36 e_u34 e37 e38 e39 e40 e41 e42 ⊢
  refine ST.lift (fun _ _ k => T_aload_n (v := .ref 265) d_Ss_start_19 rfl (Or.inr ⟨_, rfl⟩) k) ?_
  refine S_getfield d_Ss_start_20 fg_Ss_17 (w265 _) rfl ?_
  refine ST.lift (fun _ _ k => T_iload d_Ss_start_23 rfl k) ?_
  refine S_aaload (C0 := "PasswordGate$Bytes") d_Ss_start_25 (by decide) (w267 _) rfl (vp_in_nI (by omega) (by omega)) ?_
  refine S_virtual (as := []) (rest := []) (b := 289) d_Ss_start_26 rfl (jw_By_clear.jo (by decide)) lm_Ss_54 ji_By_clear js_By_clear (w289 _) rfl rfl rfl (Nat.le_of_ble_eq_true rfl) (by decide) (by decide) (c_By_clear G u34 289 290 64 33 ⟨w289, a290, by decide, u289_1, by decide, by decide⟩ hv35) (fun r v' hq => ?_)
  rw [hq.1, hq.2]
  clear hq r v'
  show ST G mi_Ss_start 29 [(4, .int (nI 2)), (0, .ref 265), (1, .ref 62), (2, .int (nI usr)), (3, .ref b)] [] (va_up u34 33 (nI 0)) 0 0 _
  have hv44 := hv35.up (j := 33) (c := 64) (k := 0) (by decide) (by omega)
  have hm45 := hm36.go (mdf.up (v := u34) (j := 33) (x := (nI 0))) (by intro i hi; simp only [List.mem_cons, List.not_mem_nil, or_false] at hi ⊢ <;> omega)
  have e_u43 : (va_up u34 33 (nI 0)) 33 = (nI 0) := by simp [va_up]
  have e46 : (va_up u34 33 (nI 0)) 28 = nI 0 := by simp only [va_up]; exact e37
  have e47 : (va_up u34 33 (nI 0)) 31 = nI 0 := by simp only [va_up]; exact e38
  have e48 : (va_up u34 33 (nI 0)) 76 = nI 0 := by simp only [va_up]; exact e39
  have e49 : (va_up u34 33 (nI 0)) 29 = nI 0 := by simp only [va_up]; exact e40
  have e50 : (va_up u34 33 (nI 0)) 32 = nI 0 := by simp only [va_up]; exact e41
  have e51 : (va_up u34 33 (nI 0)) 77 = nI 0 := by simp only [va_up]; exact e42
  have e52 : (va_up u34 33 (nI 0)) 30 = nI 0 := by simp only [va_up]; exact e_u34
  generalize va_up u34 33 (nI 0) = u43 at hv44 hm45 e_u43 e46 e47 e48 e49 e50 e51 e52 ⊢
  refine ST.lift (fun _ _ k => T_aload_n (v := .ref 265) d_Ss_start_29 rfl (Or.inr ⟨_, rfl⟩) k) ?_
  refine S_getfield d_Ss_start_30 fg_Ss_27 (w265 _) rfl ?_
  refine ST.lift (fun _ _ k => T_iload d_Ss_start_33 rfl k) ?_
  refine ST.lift (fun _ _ k => T_iconst (v := nI 0) d_Ss_start_35 (by decide) k) ?_
  refine S_xstore (k := 2) (y := (nI 0)) (v' := va_up u43 78 (nI 0)) (Or.inr ⟨rfl, by decide, d_Ss_start_36⟩) (by decide) rfl (w270 _) (by decide) (by decide) (x270_2 _ _) ?_
  have hv54 := hv44.off (j := 78) (x := (nI 0)) (by decide)
  have hm55 := hm45.go (mdf.up (v := u43) (j := 78) (x := (nI 0))) (by intro i hi; simp only [List.mem_cons, List.not_mem_nil, or_false] at hi ⊢ <;> omega)
  have e_u53 : (va_up u43 78 (nI 0)) 78 = (nI 0) := by simp [va_up]
  have e56 : (va_up u43 78 (nI 0)) 28 = nI 0 := by simp only [va_up]; exact e46
  have e57 : (va_up u43 78 (nI 0)) 31 = nI 0 := by simp only [va_up]; exact e47
  have e58 : (va_up u43 78 (nI 0)) 76 = nI 0 := by simp only [va_up]; exact e48
  have e59 : (va_up u43 78 (nI 0)) 29 = nI 0 := by simp only [va_up]; exact e49
  have e60 : (va_up u43 78 (nI 0)) 32 = nI 0 := by simp only [va_up]; exact e50
  have e61 : (va_up u43 78 (nI 0)) 77 = nI 0 := by simp only [va_up]; exact e51
  have e62 : (va_up u43 78 (nI 0)) 30 = nI 0 := by simp only [va_up]; exact e52
  have e63 : (va_up u43 78 (nI 0)) 33 = nI 0 := by simp only [va_up]; exact e_u43
  generalize va_up u43 78 (nI 0) = u53 at hv54 hm55 e_u53 e56 e57 e58 e59 e60 e61 e62 e63 ⊢
  refine S_iincN (a := 2) (b := 1) (L' := [(4, .int (nI 3)), (0, .ref 265), (1, .ref 62), (2, .int (nI usr)), (3, .ref b)]) d_Ss_start_37 (by decide) rfl rfl rfl ?_
  refine ST.lift (fun _ _ k => T_goto (tgt := 3) d_Ss_start_40 rfl k) ?_
  refine ST.lift (fun _ _ k => T_iload d_Ss_start_3 rfl k) ?_
  refine ST.lift (fun _ _ k => T_iconst (v := nI 3) d_Ss_start_5 (by decide) k) ?_
  refine S_icmp_geN d_Ss_start_6 rfl (by omega) (by omega) (fun _ => ?_) (fun c => by first | exact absurd c (by omega) | exact c.elim | exact absurd c (by decide) | exact absurd (by assumption) c | exact absurd c (by assumption))
  refine ST.lift (fun _ _ k => T_aload_n (v := .ref 265) d_Ss_start_43 rfl (Or.inr ⟨_, rfl⟩) k) ?_
  refine ST.lift (fun _ _ k => T_iload_n d_Ss_start_44 rfl k) ?_
  refine S_putfield (v' := va_up u53 24 (nI usr)) d_Ss_start_45 (fp_Ss_57 _) (w265 _) (Nat.le_of_ble_eq_true rfl) ⟨rfl, rfl⟩ (u265_4 _ _) ?_
  have hv65 := hv54.up (j := 24) (c := 7) (k := usr) (by decide) (by omega)
  have hm66 := hm55.go (mdf.up (v := u53) (j := 24) (x := (nI usr))) (by intro i hi; simp only [List.mem_cons, List.not_mem_nil, or_false] at hi ⊢ <;> omega)
  have e_u64 : (va_up u53 24 (nI usr)) 24 = (nI usr) := by simp [va_up]
  have e67 : (va_up u53 24 (nI usr)) 28 = nI 0 := by simp only [va_up]; exact e56
  have e68 : (va_up u53 24 (nI usr)) 31 = nI 0 := by simp only [va_up]; exact e57
  have e69 : (va_up u53 24 (nI usr)) 76 = nI 0 := by simp only [va_up]; exact e58
  have e70 : (va_up u53 24 (nI usr)) 29 = nI 0 := by simp only [va_up]; exact e59
  have e71 : (va_up u53 24 (nI usr)) 32 = nI 0 := by simp only [va_up]; exact e60
  have e72 : (va_up u53 24 (nI usr)) 77 = nI 0 := by simp only [va_up]; exact e61
  have e73 : (va_up u53 24 (nI usr)) 30 = nI 0 := by simp only [va_up]; exact e62
  have e74 : (va_up u53 24 (nI usr)) 33 = nI 0 := by simp only [va_up]; exact e63
  have e75 : (va_up u53 24 (nI usr)) 78 = nI 0 := by simp only [va_up]; exact e_u53
  generalize va_up u53 24 (nI usr) = u64 at hv65 hm66 e_u64 e67 e68 e69 e70 e71 e72 e73 e74 e75 ⊢
  refine ST.lift (fun _ _ k => T_aload_n (v := .ref 265) d_Ss_start_48 rfl (Or.inr ⟨_, rfl⟩) k) ?_
  refine S_getfield d_Ss_start_49 fg_Ss_34 (w265 _) rfl ?_
  refine S_virtual (as := []) (rest := []) (b := 271) d_Ss_start_52 rfl (jw_By_clear.jo (by decide)) lm_Ss_54 ji_By_clear js_By_clear (w271 _) rfl rfl rfl (Nat.le_of_ble_eq_true rfl) (by decide) (by decide) (c_By_clear G u64 271 272 200 25 ⟨w271, a272, by decide, u271_1, by decide, by decide⟩ hv65) (fun r v' hq => ?_)
  rw [hq.1, hq.2]
  clear hq r v'
  show ST G mi_Ss_start 55 [(4, .int (nI 3)), (0, .ref 265), (1, .ref 62), (2, .int (nI usr)), (3, .ref b)] [] (va_up u64 25 (nI 0)) 0 0 _
  have hv77 := hv65.up (j := 25) (c := 200) (k := 0) (by decide) (by omega)
  have hm78 := hm66.go (mdf.up (v := u64) (j := 25) (x := (nI 0))) (by intro i hi; simp only [List.mem_cons, List.not_mem_nil, or_false] at hi ⊢ <;> omega)
  have e_u76 : (va_up u64 25 (nI 0)) 25 = (nI 0) := by simp [va_up]
  have e79 : (va_up u64 25 (nI 0)) 28 = nI 0 := by simp only [va_up]; exact e67
  have e80 : (va_up u64 25 (nI 0)) 31 = nI 0 := by simp only [va_up]; exact e68
  have e81 : (va_up u64 25 (nI 0)) 76 = nI 0 := by simp only [va_up]; exact e69
  have e82 : (va_up u64 25 (nI 0)) 29 = nI 0 := by simp only [va_up]; exact e70
  have e83 : (va_up u64 25 (nI 0)) 32 = nI 0 := by simp only [va_up]; exact e71
  have e84 : (va_up u64 25 (nI 0)) 77 = nI 0 := by simp only [va_up]; exact e72
  have e85 : (va_up u64 25 (nI 0)) 30 = nI 0 := by simp only [va_up]; exact e73
  have e86 : (va_up u64 25 (nI 0)) 33 = nI 0 := by simp only [va_up]; exact e74
  have e87 : (va_up u64 25 (nI 0)) 78 = nI 0 := by simp only [va_up]; exact e75
  have e88 : (va_up u64 25 (nI 0)) 24 = nI usr := by simp only [va_up]; exact e_u64
  generalize va_up u64 25 (nI 0) = u76 at hv77 hm78 e_u76 e79 e80 e81 e82 e83 e84 e85 e86 e87 e88 ⊢
  refine ST.lift (fun _ _ k => T_aload_n (v := .ref 265) d_Ss_start_55 rfl (Or.inr ⟨_, rfl⟩) k) ?_
  refine S_getfield d_Ss_start_56 fg_Ss_34 (w265 _) rfl ?_
  refine ST.lift (fun _ _ k => T_aload_n (v := .ref b) d_Ss_start_59 rfl (Or.inr ⟨_, rfl⟩) k) ?_
  refine S_virtual (as := [.ref b]) (rest := []) (b := 271) d_Ss_start_60 rfl (jw_By_putAll.jo (by decide)) lm_Ss_60 ji_By_putAll js_By_putAll (w271 _) rfl rfl rfl (Nat.le_of_ble_eq_true rfl) (by decide) (by decide) (c_By_putAll G u76 271 272 200 25 ⟨w271, a272, by decide, u271_1, by decide, by decide⟩ b bd bc bj y_b hv77) (fun r u89 hq => ?_)
  obtain ⟨hr, hv90, hm91⟩ := hq
  rw [hr]
  clear hr r
  have hm92 := hm78.go hm91 (by intro i hi; simp only [List.mem_cons, List.not_mem_nil, or_false] at hi ⊢ <;> omega)
  have e93 : u89 28 = nI 0 := (hm91 28 (by decide)).trans e79
  have e94 : u89 31 = nI 0 := (hm91 31 (by decide)).trans e80
  have e95 : u89 76 = nI 0 := (hm91 76 (by decide)).trans e81
  have e96 : u89 29 = nI 0 := (hm91 29 (by decide)).trans e82
  have e97 : u89 32 = nI 0 := (hm91 32 (by decide)).trans e83
  have e98 : u89 77 = nI 0 := (hm91 77 (by decide)).trans e84
  have e99 : u89 30 = nI 0 := (hm91 30 (by decide)).trans e85
  have e100 : u89 33 = nI 0 := (hm91 33 (by decide)).trans e86
  have e101 : u89 78 = nI 0 := (hm91 78 (by decide)).trans e87
  have e102 : u89 24 = nI usr := (hm91 24 (by decide)).trans e88
  show ST G mi_Ss_start 63 [(4, .int (nI 3)), (0, .ref 265), (1, .ref 62), (2, .int (nI usr)), (3, .ref b)] [] u89 0 0 _
  refine ST.lift (fun _ _ k => T_aload_n (v := .ref 265) d_Ss_start_63 rfl (Or.inr ⟨_, rfl⟩) k) ?_
  refine S_getfield d_Ss_start_64 fg_Ss_38 (w265 _) rfl ?_
  refine S_virtual (as := []) (rest := []) (b := 273) d_Ss_start_67 rfl (jw_By_clear.jo (by decide)) lm_Ss_54 ji_By_clear js_By_clear (w273 _) rfl rfl rfl (Nat.le_of_ble_eq_true rfl) (by decide) (by decide) (c_By_clear G u89 273 274 96 26 ⟨w273, a274, by decide, u273_1, by decide, by decide⟩ hv90) (fun r v' hq => ?_)
  rw [hq.1, hq.2]
  clear hq r v'
  show ST G mi_Ss_start 70 [(4, .int (nI 3)), (0, .ref 265), (1, .ref 62), (2, .int (nI usr)), (3, .ref b)] [] (va_up u89 26 (nI 0)) 0 0 _
  have hv104 := hv90.up (j := 26) (c := 96) (k := 0) (by decide) (by omega)
  have hm105 := hm92.go (mdf.up (v := u89) (j := 26) (x := (nI 0))) (by intro i hi; simp only [List.mem_cons, List.not_mem_nil, or_false] at hi ⊢ <;> omega)
  have e_u103 : (va_up u89 26 (nI 0)) 26 = (nI 0) := by simp [va_up]
  have e106 : (va_up u89 26 (nI 0)) 28 = nI 0 := by simp only [va_up]; exact e93
  have e107 : (va_up u89 26 (nI 0)) 31 = nI 0 := by simp only [va_up]; exact e94
  have e108 : (va_up u89 26 (nI 0)) 76 = nI 0 := by simp only [va_up]; exact e95
  have e109 : (va_up u89 26 (nI 0)) 29 = nI 0 := by simp only [va_up]; exact e96
  have e110 : (va_up u89 26 (nI 0)) 32 = nI 0 := by simp only [va_up]; exact e97
  have e111 : (va_up u89 26 (nI 0)) 77 = nI 0 := by simp only [va_up]; exact e98
  have e112 : (va_up u89 26 (nI 0)) 30 = nI 0 := by simp only [va_up]; exact e99
  have e113 : (va_up u89 26 (nI 0)) 33 = nI 0 := by simp only [va_up]; exact e100
  have e114 : (va_up u89 26 (nI 0)) 78 = nI 0 := by simp only [va_up]; exact e101
  have e115 : (va_up u89 26 (nI 0)) 24 = nI usr := by simp only [va_up]; exact e102
  generalize va_up u89 26 (nI 0) = u103 at hv104 hm105 e_u103 e106 e107 e108 e109 e110 e111 e112 e113 e114 e115 ⊢
  refine ST.lift (fun _ _ k => T_aload_n (v := .ref 62) d_Ss_start_70 rfl (Or.inr ⟨_, rfl⟩) k) ?_
  refine ST.lift (fun _ _ k => T_aload_n (v := .ref 265) d_Ss_start_71 rfl (Or.inr ⟨_, rfl⟩) k) ?_
  refine S_getfield d_Ss_start_72 fg_Ss_44 (w265 _) rfl ?_
  refine S_virtual (as := [.ref 277]) (rest := []) (b := 62) d_Ss_start_75 rfl (jw_Kit_nextScalar.jo (by decide)) lm_Ss_64 ji_Kit_nextScalar js_Kit_nextScalar (w62 _) rfl rfl rfl (Nat.le_of_ble_eq_true rfl) (by decide) (by decide) (c_Kit_nextScalar G u103 277 32 (by decide) a277 (by omega) (by omega) hv104) (fun r u116 hq => ?_)
  obtain ⟨hr, hv117, hm118⟩ := hq
  rw [hr]
  clear hr r
  have hm119 := hm105.go hm118 (by intro i hi; simp only [List.mem_cons, List.not_mem_nil, or_false] at hi ⊢ <;> omega)
  have e120 : u116 28 = nI 0 := (hm118 28 (by decide)).trans e106
  have e121 : u116 31 = nI 0 := (hm118 31 (by decide)).trans e107
  have e122 : u116 76 = nI 0 := (hm118 76 (by decide)).trans e108
  have e123 : u116 29 = nI 0 := (hm118 29 (by decide)).trans e109
  have e124 : u116 32 = nI 0 := (hm118 32 (by decide)).trans e110
  have e125 : u116 77 = nI 0 := (hm118 77 (by decide)).trans e111
  have e126 : u116 30 = nI 0 := (hm118 30 (by decide)).trans e112
  have e127 : u116 33 = nI 0 := (hm118 33 (by decide)).trans e113
  have e128 : u116 78 = nI 0 := (hm118 78 (by decide)).trans e114
  have e129 : u116 24 = nI usr := (hm118 24 (by decide)).trans e115
  have e130 : u116 26 = nI 0 := (hm118 26 (by decide)).trans e_u103
  show ST G mi_Ss_start 78 [(4, .int (nI 3)), (0, .ref 265), (1, .ref 62), (2, .int (nI usr)), (3, .ref b)] [] u116 0 0 _
  refine ST.lift (fun _ _ k => T_aload_n (v := .ref 62) d_Ss_start_78 rfl (Or.inr ⟨_, rfl⟩) k) ?_
  refine ST.lift (fun _ _ k => T_aload_n (v := .ref 265) d_Ss_start_79 rfl (Or.inr ⟨_, rfl⟩) k) ?_
  refine S_getfield d_Ss_start_80 fg_Ss_34 (w265 _) rfl ?_
  refine ST.lift (fun _ _ k => T_aload_n (v := .ref 62) d_Ss_start_83 rfl (Or.inr ⟨_, rfl⟩) k) ?_
  refine S_getfield d_Ss_start_84 fg_Ss_70 (w62 _) rfl ?_
  refine S_virtual (as := [.ref 271, .ref 188]) (rest := []) (b := 62) d_Ss_start_87 rfl (jw_Kit_groupOf.jo (by decide)) lm_Ss_74 ji_Kit_groupOf js_Kit_groupOf (w62 _) rfl rfl rfl (Nat.le_of_ble_eq_true rfl) (by decide) (by decide) (c_Kit_groupOf G u116 271 272 200 25 ⟨w271, a272, by decide, u271_1, by decide, by decide⟩ 188 189 190 191 192 ⟨w188, a189, a190, a191, a192, by decide, by decide, by decide, by decide⟩ hv117) (fun r u131 hq => ?_)
  obtain ⟨hr, hv132, hm133⟩ := hq
  rw [hr]
  clear hr r
  have hm134 := hm119.go hm133 (by intro i hi; simp only [List.mem_cons, List.not_mem_nil, or_false] at hi ⊢ <;> omega)
  have e135 : u131 28 = nI 0 := (hm133 28 (by decide)).trans e120
  have e136 : u131 31 = nI 0 := (hm133 31 (by decide)).trans e121
  have e137 : u131 76 = nI 0 := (hm133 76 (by decide)).trans e122
  have e138 : u131 29 = nI 0 := (hm133 29 (by decide)).trans e123
  have e139 : u131 32 = nI 0 := (hm133 32 (by decide)).trans e124
  have e140 : u131 77 = nI 0 := (hm133 77 (by decide)).trans e125
  have e141 : u131 30 = nI 0 := (hm133 30 (by decide)).trans e126
  have e142 : u131 33 = nI 0 := (hm133 33 (by decide)).trans e127
  have e143 : u131 78 = nI 0 := (hm133 78 (by decide)).trans e128
  have e144 : u131 24 = nI usr := (hm133 24 (by decide)).trans e129
  have e145 : u131 26 = nI 0 := (hm133 26 (by decide)).trans e130
  show ST G mi_Ss_start 90 [(4, .int (nI 3)), (0, .ref 265), (1, .ref 62), (2, .int (nI usr)), (3, .ref b)] [] u131 0 0 _
  refine ST.lift (fun _ _ k => T_aload_n (v := .ref 62) d_Ss_start_90 rfl (Or.inr ⟨_, rfl⟩) k) ?_
  refine S_getfield d_Ss_start_91 fg_Ss_78 (w62 _) rfl ?_
  refine ST.lift (fun _ _ k => T_aload_n (v := .ref 62) d_Ss_start_94 rfl (Or.inr ⟨_, rfl⟩) k) ?_
  refine S_getfield d_Ss_start_95 fg_Ss_70 (w62 _) rfl ?_
  refine ST.lift (fun _ _ k => T_aload_n (v := .ref 265) d_Ss_start_98 rfl (Or.inr ⟨_, rfl⟩) k) ?_
  refine S_getfield d_Ss_start_99 fg_Ss_44 (w265 _) rfl ?_
  refine ST.lift (fun _ _ k => T_aload_n (v := .ref 62) d_Ss_start_102 rfl (Or.inr ⟨_, rfl⟩) k) ?_
  refine S_getfield d_Ss_start_103 fg_Ss_70 (w62 _) rfl ?_
  refine S_virtual (as := [.ref 188, .ref 277, .ref 188]) (rest := []) (b := 77) d_Ss_start_106 rfl (jw_Cu_multiply.jo (by decide)) lm_Ss_82 ji_Cu_multiply js_Cu_multiply (w77 _) rfl rfl rfl (Nat.le_of_ble_eq_true rfl) (by decide) (by decide) (c_Cu_multiply G u131 188 189 190 191 192 ⟨w188, a189, a190, a191, a192, by decide, by decide, by decide, by decide⟩ 277 32 (by decide) a277 (by omega) 188 189 190 191 192 ⟨w188, a189, a190, a191, a192, by decide, by decide, by decide, by decide⟩ (by omega)) (fun r v' hq => ?_)
  rw [hq.1, hq.2]
  clear hq r v'
  show ST G mi_Ss_start 109 [(4, .int (nI 3)), (0, .ref 265), (1, .ref 62), (2, .int (nI usr)), (3, .ref b)] [] u131 0 0 _
  refine ST.lift (fun _ _ k => T_aload_n (v := .ref 62) d_Ss_start_109 rfl (Or.inr ⟨_, rfl⟩) k) ?_
  refine S_getfield d_Ss_start_110 fg_Ss_78 (w62 _) rfl ?_
  refine ST.lift (fun _ _ k => T_aload_n (v := .ref 62) d_Ss_start_113 rfl (Or.inr ⟨_, rfl⟩) k) ?_
  refine S_getfield d_Ss_start_114 fg_Ss_70 (w62 _) rfl ?_
  refine ST.lift (fun _ _ k => T_aload_n (v := .ref 265) d_Ss_start_117 rfl (Or.inr ⟨_, rfl⟩) k) ?_
  refine S_getfield d_Ss_start_118 fg_Ss_38 (w265 _) rfl ?_
  refine S_virtual (as := [.ref 188, .ref 273]) (rest := []) (b := 77) d_Ss_start_121 rfl (jw_Cu_code.jo (by decide)) lm_Ss_88 ji_Cu_code js_Cu_code (w77 _) rfl rfl rfl (Nat.le_of_ble_eq_true rfl) (by decide) (by decide) (c_Cu_code G u131 188 189 190 191 192 ⟨w188, a189, a190, a191, a192, by decide, by decide, by decide, by decide⟩ 273 274 96 26 ⟨w273, a274, by decide, u273_1, by decide, by decide⟩ hv132) (fun r u146 hq => ?_)
  obtain ⟨hr, hv147, hm148⟩ := hq
  rw [hr]
  clear hr r
  have hm149 := hm134.go hm148 (by intro i hi; simp only [List.mem_cons, List.not_mem_nil, or_false] at hi ⊢ <;> omega)
  have e150 : u146 28 = nI 0 := (hm148 28 (by decide)).trans e135
  have e151 : u146 31 = nI 0 := (hm148 31 (by decide)).trans e136
  have e152 : u146 76 = nI 0 := (hm148 76 (by decide)).trans e137
  have e153 : u146 29 = nI 0 := (hm148 29 (by decide)).trans e138
  have e154 : u146 32 = nI 0 := (hm148 32 (by decide)).trans e139
  have e155 : u146 77 = nI 0 := (hm148 77 (by decide)).trans e140
  have e156 : u146 30 = nI 0 := (hm148 30 (by decide)).trans e141
  have e157 : u146 33 = nI 0 := (hm148 33 (by decide)).trans e142
  have e158 : u146 78 = nI 0 := (hm148 78 (by decide)).trans e143
  have e159 : u146 24 = nI usr := (hm148 24 (by decide)).trans e144
  show ST G mi_Ss_start 124 [(4, .int (nI 3)), (0, .ref 265), (1, .ref 62), (2, .int (nI usr)), (3, .ref b)] [] u146 0 0 _
  refine ST.lift (fun _ _ k => T_aload_n (v := .ref 62) d_Ss_start_124 rfl (Or.inr ⟨_, rfl⟩) k) ?_
  refine ST.lift (fun _ _ k => T_aload_n (v := .ref 265) d_Ss_start_125 rfl (Or.inr ⟨_, rfl⟩) k) ?_
  refine S_getfield d_Ss_start_126 fg_Ss_38 (w265 _) rfl ?_
  refine S_virtual (as := [.ref 273]) (rest := []) (b := 62) d_Ss_start_129 rfl (jw_Kit_putNonce.jo (by decide)) lm_Ss_92 ji_Kit_putNonce js_Kit_putNonce (w62 _) rfl rfl rfl (Nat.le_of_ble_eq_true rfl) (by decide) (by decide) (c_Kit_putNonce G u146 273 274 96 26 ⟨w273, a274, by decide, u273_1, by decide, by decide⟩ hv147) (fun r u160 hq => ?_)
  obtain ⟨hr, hv161, hm162⟩ := hq
  rw [hr]
  clear hr r
  have hm163 := hm149.go hm162 (by intro i hi; simp only [List.mem_cons, List.not_mem_nil, or_false] at hi ⊢ <;> omega)
  have e164 : u160 28 = nI 0 := (hm162 28 (by decide)).trans e150
  have e165 : u160 31 = nI 0 := (hm162 31 (by decide)).trans e151
  have e166 : u160 76 = nI 0 := (hm162 76 (by decide)).trans e152
  have e167 : u160 29 = nI 0 := (hm162 29 (by decide)).trans e153
  have e168 : u160 32 = nI 0 := (hm162 32 (by decide)).trans e154
  have e169 : u160 77 = nI 0 := (hm162 77 (by decide)).trans e155
  have e170 : u160 30 = nI 0 := (hm162 30 (by decide)).trans e156
  have e171 : u160 33 = nI 0 := (hm162 33 (by decide)).trans e157
  have e172 : u160 78 = nI 0 := (hm162 78 (by decide)).trans e158
  have e173 : u160 24 = nI usr := (hm162 24 (by decide)).trans e159
  show ST G mi_Ss_start 132 [(4, .int (nI 3)), (0, .ref 265), (1, .ref 62), (2, .int (nI usr)), (3, .ref b)] [] u160 0 0 _
  refine ST.lift (fun _ _ k => T_aload_n (v := .ref 62) d_Ss_start_132 rfl (Or.inr ⟨_, rfl⟩) k) ?_
  refine ST.lift (fun _ _ k => T_aload_n (v := .ref 265) d_Ss_start_133 rfl (Or.inr ⟨_, rfl⟩) k) ?_
  refine S_getfield d_Ss_start_134 fg_Ss_47 (w265 _) rfl ?_
  refine S_virtual (as := [.ref 278]) (rest := []) (b := 62) d_Ss_start_137 rfl (jw_Kit_nextScalar.jo (by decide)) lm_Ss_64 ji_Kit_nextScalar js_Kit_nextScalar (w62 _) rfl rfl rfl (Nat.le_of_ble_eq_true rfl) (by decide) (by decide) (c_Kit_nextScalar G u160 278 32 (by decide) a278 (by omega) (by omega) hv161) (fun r u174 hq => ?_)
  obtain ⟨hr, hv175, hm176⟩ := hq
  rw [hr]
  clear hr r
  have hm177 := hm163.go hm176 (by intro i hi; simp only [List.mem_cons, List.not_mem_nil, or_false] at hi ⊢ <;> omega)
  have e178 : u174 28 = nI 0 := (hm176 28 (by decide)).trans e164
  have e179 : u174 31 = nI 0 := (hm176 31 (by decide)).trans e165
  have e180 : u174 76 = nI 0 := (hm176 76 (by decide)).trans e166
  have e181 : u174 29 = nI 0 := (hm176 29 (by decide)).trans e167
  have e182 : u174 32 = nI 0 := (hm176 32 (by decide)).trans e168
  have e183 : u174 77 = nI 0 := (hm176 77 (by decide)).trans e169
  have e184 : u174 30 = nI 0 := (hm176 30 (by decide)).trans e170
  have e185 : u174 33 = nI 0 := (hm176 33 (by decide)).trans e171
  have e186 : u174 78 = nI 0 := (hm176 78 (by decide)).trans e172
  have e187 : u174 24 = nI usr := (hm176 24 (by decide)).trans e173
  show ST G mi_Ss_start 140 [(4, .int (nI 3)), (0, .ref 265), (1, .ref 62), (2, .int (nI usr)), (3, .ref b)] [] u174 0 0 _
  refine ST.lift (fun _ _ k => T_aload_n (v := .ref 62) d_Ss_start_140 rfl (Or.inr ⟨_, rfl⟩) k) ?_
  refine ST.lift (fun _ _ k => T_aload_n (v := .ref 265) d_Ss_start_141 rfl (Or.inr ⟨_, rfl⟩) k) ?_
  refine S_getfield d_Ss_start_142 fg_Ss_47 (w265 _) rfl ?_
  refine ST.lift (fun _ _ k => T_aload_n (v := .ref 265) d_Ss_start_145 rfl (Or.inr ⟨_, rfl⟩) k) ?_
  refine S_getfield d_Ss_start_146 fg_Ss_38 (w265 _) rfl ?_
  refine S_virtual (as := [.ref 278, .ref 273]) (rest := []) (b := 62) d_Ss_start_149 rfl (jw_Kit_putPublic.jo (by decide)) lm_Ss_95 ji_Kit_putPublic js_Kit_putPublic (w62 _) rfl rfl rfl (Nat.le_of_ble_eq_true rfl) (by decide) (by decide) (c_Kit_putPublic G u174 278 32 (by decide) a278 (by omega) 273 274 96 26 ⟨w273, a274, by decide, u273_1, by decide, by decide⟩ (by omega) hv175) (fun r u188 hq => ?_)
  obtain ⟨hr, hv189, hm190⟩ := hq
  rw [hr]
  clear hr r
  have hm191 := hm177.go hm190 (by intro i hi; simp only [List.mem_cons, List.not_mem_nil, or_false] at hi ⊢ <;> omega)
  have e192 : u188 28 = nI 0 := (hm190 28 (by decide)).trans e178
  have e193 : u188 31 = nI 0 := (hm190 31 (by decide)).trans e179
  have e194 : u188 76 = nI 0 := (hm190 76 (by decide)).trans e180
  have e195 : u188 29 = nI 0 := (hm190 29 (by decide)).trans e181
  have e196 : u188 32 = nI 0 := (hm190 32 (by decide)).trans e182
  have e197 : u188 77 = nI 0 := (hm190 77 (by decide)).trans e183
  have e198 : u188 30 = nI 0 := (hm190 30 (by decide)).trans e184
  have e199 : u188 33 = nI 0 := (hm190 33 (by decide)).trans e185
  have e200 : u188 78 = nI 0 := (hm190 78 (by decide)).trans e186
  have e201 : u188 24 = nI usr := (hm190 24 (by decide)).trans e187
  show ST G mi_Ss_start 152 [(4, .int (nI 3)), (0, .ref 265), (1, .ref 62), (2, .int (nI usr)), (3, .ref b)] [] u188 0 0 _
  refine ST.lift (fun _ _ k => T_aload_n (v := .ref 265) d_Ss_start_152 rfl (Or.inr ⟨_, rfl⟩) k) ?_
  refine S_getfield d_Ss_start_153 fg_Ss_11 (w265 _) rfl ?_
  refine ST.lift (fun _ _ k => T_iconst (v := nI 0) d_Ss_start_156 (by decide) k) ?_
  refine S_aaload (C0 := "PasswordGate$Bytes") d_Ss_start_157 (by decide) (w266 _) rfl (vp_in_nI (by omega) (by omega)) ?_
  refine ST.lift (fun _ _ k => T_aload_n (v := .ref 265) d_Ss_start_158 rfl (Or.inr ⟨_, rfl⟩) k) ?_
  refine S_getfield d_Ss_start_159 fg_Ss_38 (w265 _) rfl ?_
  refine S_virtual (as := [.ref 273]) (rest := []) (b := 279) d_Ss_start_162 rfl (jw_By_putAll.jo (by decide)) lm_Ss_60 ji_By_putAll js_By_putAll (w279 _) rfl rfl rfl (Nat.le_of_ble_eq_true rfl) (by decide) (by decide) (c_By_putAll G u188 279 280 96 28 ⟨w279, a280, by decide, u279_1, by decide, by decide⟩ 273 274 96 26 ⟨w273, a274, by decide, u273_1, by decide, by decide⟩ hv189) (fun r u202 hq => ?_)
  obtain ⟨hr, hv203, hm204⟩ := hq
  rw [hr]
  clear hr r
  have hm205 := hm191.go hm204 (by intro i hi; simp only [List.mem_cons, List.not_mem_nil, or_false] at hi ⊢ <;> omega)
  have e206 : u202 31 = nI 0 := (hm204 31 (by decide)).trans e193
  have e207 : u202 76 = nI 0 := (hm204 76 (by decide)).trans e194
  have e208 : u202 29 = nI 0 := (hm204 29 (by decide)).trans e195
  have e209 : u202 32 = nI 0 := (hm204 32 (by decide)).trans e196
  have e210 : u202 77 = nI 0 := (hm204 77 (by decide)).trans e197
  have e211 : u202 30 = nI 0 := (hm204 30 (by decide)).trans e198
  have e212 : u202 33 = nI 0 := (hm204 33 (by decide)).trans e199
  have e213 : u202 78 = nI 0 := (hm204 78 (by decide)).trans e200
  have e214 : u202 24 = nI usr := (hm204 24 (by decide)).trans e201
  show ST G mi_Ss_start 165 [(4, .int (nI 3)), (0, .ref 265), (1, .ref 62), (2, .int (nI usr)), (3, .ref b)] [] u202 0 0 _
  exact S_vret d_Ss_start_165 rfl (by decide) (by decide) (hQ _ hv203 hm205)
set_option maxRecDepth 100000 in
set_option maxHeartbeats 4000000 in
theorem c_Ss_confirmServer_265 (G : GX) (v : Nat → Int32) (hv : okv v) : CS G mi_Ss_confirmServer [.ref 265, .ref 62, .ref 217] v (fun r v' => ∃ z : Int32, r = some (.int z) ∧ okv v' ∧ mdf [6, 7, 5, 2, 3, 1, 4, 8, 9, 10, 28, 29, 30, 31, 32, 33, 25, 26, 27, 24, 76, 77, 78] v v') := by
  refine CS.of (by decide) (Nat.le_of_ble_eq_true rfl) ?_
  generalize hQe : (fun (r : Option Value) (v' : Nat → Int32) => ∃ z : Int32, r = some (.int z) ∧ okv v' ∧ mdf [6, 7, 5, 2, 3, 1, 4, 8, 9, 10, 28, 29, 30, 31, 32, 33, 25, 26, 27, 24, 76, 77, 78] v v') = Q
  have hQ : ∀ (z : Int32) (u : Nat → Int32), okv u → mdf [6, 7, 5, 2, 3, 1, 4, 8, 9, 10, 28, 29, 30, 31, 32, 33, 25, 26, 27, 24, 76, 77, 78] v u → Q (some (.int z)) u := by rw [← hQe]; exact fun z u h1 h2 => ⟨z, rfl, h1, h2⟩
  clear hQe
  have hm : mdf [6, 7, 5, 2, 3, 1, 4, 8, 9, 10, 28, 29, 30, 31, 32, 33, 25, 26, 27, 24, 76, 77, 78] v v := mdf.rf
  show ST G mi_Ss_confirmServer 0 [(0, .ref 265), (1, .ref 62), (2, .ref 217)] [] v 0 0 Q
  refine ST.lift (fun _ _ k => T_aload_n (v := .ref 265) d_Ss_confirmServer_0 rfl (Or.inr ⟨_, rfl⟩) k) ?_
  refine S_getfield d_Ss_confirmServer_1 fg_Ss_11 (w265 _) rfl ?_
  refine ST.lift (fun _ _ k => T_iconst (v := nI 1) d_Ss_confirmServer_4 (by decide) k) ?_
  refine S_aaload (C0 := "PasswordGate$Bytes") d_Ss_confirmServer_5 (by decide) (w266 _) rfl (vp_in_nI (by omega) (by omega)) ?_
  refine S_getfield d_Ss_confirmServer_6 fg_Ss_99 (w281 _) rfl ?_
  refine ST.lift (fun _ _ k => T_astore_n (L' := [(3, .ref 282), (0, .ref 265), (1, .ref 62), (2, .ref 217)]) d_Ss_confirmServer_9 (by decide) rfl (Or.inr ⟨_, rfl⟩) k) ?_
  refine ST.lift (fun _ _ k => T_aload_n (v := .ref 62) d_Ss_confirmServer_10 rfl (Or.inr ⟨_, rfl⟩) k) ?_
  refine S_getfield d_Ss_confirmServer_11 fg_Ss_78 (w62 _) rfl ?_
  refine ST.lift (fun _ _ k => T_aload_n (v := .ref 282) d_Ss_confirmServer_14 rfl (Or.inr ⟨_, rfl⟩) k) ?_
  refine ST.lift (fun _ _ k => T_iconst (v := nI 0) d_Ss_confirmServer_15 (by decide) k) ?_
  refine ST.lift (fun _ _ k => T_aload_n (v := .ref 62) d_Ss_confirmServer_16 rfl (Or.inr ⟨_, rfl⟩) k) ?_
  refine S_getfield d_Ss_confirmServer_17 fg_Ss_70 (w62 _) rfl ?_
  refine S_virtual (as := [.ref 282, .int (nI 0), .ref 188]) (rest := []) (b := 77) d_Ss_confirmServer_20 rfl (jw_Cu_decode.jo (by decide)) lm_Ss_102 ji_Cu_decode js_Cu_decode (w77 _) rfl rfl rfl (Nat.le_of_ble_eq_true rfl) (by decide) (by decide) (c_Cu_decode G v 282 320 (by decide) a282 (by omega) 0 (by omega) 188 189 190 191 192 ⟨w188, a189, a190, a191, a192, by decide, by decide, by decide, by decide⟩ hv) (fun r u1 hq => ?_)
  obtain ⟨z4, hz4, hr, hv2, hm3⟩ := hq
  rw [hr]
  clear hr r
  have hm5 := hm.go hm3 (by intro i hi; simp only [List.mem_cons, List.not_mem_nil, or_false] at hi ⊢ <;> omega)
  show ST G mi_Ss_confirmServer 23 [(3, .ref 282), (0, .ref 265), (1, .ref 62), (2, .ref 217)] [.int (nI z4)] u1 0 0 _
  refine S_if_neN d_Ss_confirmServer_23 rfl (by omega) (fun c6 => ?_) (fun c6 => ?_)
  · refine ST.lift (fun _ _ k => T_aload_n (v := .ref 62) d_Ss_confirmServer_28 rfl (Or.inr ⟨_, rfl⟩) k) ?_
    refine S_getfield d_Ss_confirmServer_29 fg_Ss_106 (w62 _) rfl ?_
    refine ST.lift (fun _ _ k => T_aload_n (v := .ref 265) d_Ss_confirmServer_32 rfl (Or.inr ⟨_, rfl⟩) k) ?_
    refine S_getfield d_Ss_confirmServer_33 fg_Ss_44 (w265 _) rfl ?_
    refine ST.lift (fun _ _ k => T_aload_n (v := .ref 62) d_Ss_confirmServer_36 rfl (Or.inr ⟨_, rfl⟩) k) ?_
    refine S_getfield d_Ss_confirmServer_37 fg_Ss_110 (w62 _) rfl ?_
    refine S_virtual (as := [.ref 277, .ref 198]) (rest := []) (b := 183) d_Ss_confirmServer_40 rfl (jw_Sc_invert.jo (by decide)) lm_Ss_113 ji_Sc_invert js_Sc_invert (w183 _) rfl rfl rfl (Nat.le_of_ble_eq_true rfl) (by decide) (by decide) (c_Sc_invert G u1 277 32 (by decide) a277 (by omega) 198 32 (by decide) a198 (by omega) (by omega)) (fun r v' hq => ?_)
    rw [hq.1, hq.2]
    clear hq r v'
    show ST G mi_Ss_confirmServer 43 [(3, .ref 282), (0, .ref 265), (1, .ref 62), (2, .ref 217)] [] u1 0 0 _
    refine ST.lift (fun _ _ k => T_aload_n (v := .ref 62) d_Ss_confirmServer_43 rfl (Or.inr ⟨_, rfl⟩) k) ?_
    refine S_getfield d_Ss_confirmServer_44 fg_Ss_78 (w62 _) rfl ?_
    refine ST.lift (fun _ _ k => T_aload_n (v := .ref 62) d_Ss_confirmServer_47 rfl (Or.inr ⟨_, rfl⟩) k) ?_
    refine S_getfield d_Ss_confirmServer_48 fg_Ss_70 (w62 _) rfl ?_
    refine ST.lift (fun _ _ k => T_aload_n (v := .ref 62) d_Ss_confirmServer_51 rfl (Or.inr ⟨_, rfl⟩) k) ?_
    refine S_getfield d_Ss_confirmServer_52 fg_Ss_110 (w62 _) rfl ?_
    refine ST.lift (fun _ _ k => T_aload_n (v := .ref 62) d_Ss_confirmServer_55 rfl (Or.inr ⟨_, rfl⟩) k) ?_
    refine S_getfield d_Ss_confirmServer_56 fg_Ss_70 (w62 _) rfl ?_
    refine S_virtual (as := [.ref 188, .ref 198, .ref 188]) (rest := []) (b := 77) d_Ss_confirmServer_59 rfl (jw_Cu_multiply.jo (by decide)) lm_Ss_82 ji_Cu_multiply js_Cu_multiply (w77 _) rfl rfl rfl (Nat.le_of_ble_eq_true rfl) (by decide) (by decide) (c_Cu_multiply G u1 188 189 190 191 192 ⟨w188, a189, a190, a191, a192, by decide, by decide, by decide, by decide⟩ 198 32 (by decide) a198 (by omega) 188 189 190 191 192 ⟨w188, a189, a190, a191, a192, by decide, by decide, by decide, by decide⟩ (by omega)) (fun r v' hq => ?_)
    rw [hq.1, hq.2]
    clear hq r v'
    show ST G mi_Ss_confirmServer 62 [(3, .ref 282), (0, .ref 265), (1, .ref 62), (2, .ref 217)] [] u1 0 0 _
    refine ST.lift (fun _ _ k => T_aload_n (v := .ref 62) d_Ss_confirmServer_62 rfl (Or.inr ⟨_, rfl⟩) k) ?_
    refine ST.lift (fun _ _ k => T_aload_n (v := .ref 265) d_Ss_confirmServer_63 rfl (Or.inr ⟨_, rfl⟩) k) ?_
    refine S_getfield d_Ss_confirmServer_64 fg_Ss_34 (w265 _) rfl ?_
    refine ST.lift (fun _ _ k => T_aload_n (v := .ref 62) d_Ss_confirmServer_67 rfl (Or.inr ⟨_, rfl⟩) k) ?_
    refine S_getfield d_Ss_confirmServer_68 fg_Ss_70 (w62 _) rfl ?_
    refine S_virtual (as := [.ref 271, .ref 188]) (rest := []) (b := 62) d_Ss_confirmServer_71 rfl (jw_Kit_randomize.jo (by decide)) lm_Ss_119 ji_Kit_randomize js_Kit_randomize (w62 _) rfl rfl rfl (Nat.le_of_ble_eq_true rfl) (by decide) (by decide) (c_Kit_randomize G u1 271 272 200 25 ⟨w271, a272, by decide, u271_1, by decide, by decide⟩ 188 189 190 191 192 ⟨w188, a189, a190, a191, a192, by decide, by decide, by decide, by decide⟩ hv2) (fun r u7 hq => ?_)
    obtain ⟨hr, hv8, hm9⟩ := hq
    rw [hr]
    clear hr r
    have hm10 := hm5.go hm9 (by intro i hi; simp only [List.mem_cons, List.not_mem_nil, or_false] at hi ⊢ <;> omega)
    show ST G mi_Ss_confirmServer 74 [(3, .ref 282), (0, .ref 265), (1, .ref 62), (2, .ref 217)] [] u7 0 0 _
    refine ST.lift (fun _ _ k => T_aload_n (v := .ref 265) d_Ss_confirmServer_74 rfl (Or.inr ⟨_, rfl⟩) k) ?_
    refine S_getfield d_Ss_confirmServer_75 fg_Ss_41 (w265 _) rfl ?_
    refine S_virtual (as := []) (rest := []) (b := 275) d_Ss_confirmServer_78 rfl (jw_By_clear.jo (by decide)) lm_Ss_54 ji_By_clear js_By_clear (w275 _) rfl rfl rfl (Nat.le_of_ble_eq_true rfl) (by decide) (by decide) (c_By_clear G u7 275 276 128 27 ⟨w275, a276, by decide, u275_1, by decide, by decide⟩ hv8) (fun r v' hq => ?_)
    rw [hq.1, hq.2]
    clear hq r v'
    show ST G mi_Ss_confirmServer 81 [(3, .ref 282), (0, .ref 265), (1, .ref 62), (2, .ref 217)] [] (va_up u7 27 (nI 0)) 0 0 _
    have hv12 := hv8.up (j := 27) (c := 128) (k := 0) (by decide) (by omega)
    have hm13 := hm10.go (mdf.up (v := u7) (j := 27) (x := (nI 0))) (by intro i hi; simp only [List.mem_cons, List.not_mem_nil, or_false] at hi ⊢ <;> omega)
    have e_u11 : (va_up u7 27 (nI 0)) 27 = (nI 0) := by simp [va_up]
    generalize va_up u7 27 (nI 0) = u11 at hv12 hm13 e_u11 ⊢
    refine ST.lift (fun _ _ k => T_aload_n (v := .ref 62) d_Ss_confirmServer_81 rfl (Or.inr ⟨_, rfl⟩) k) ?_
    refine ST.lift (fun _ _ k => T_aload_n (v := .ref 62) d_Ss_confirmServer_82 rfl (Or.inr ⟨_, rfl⟩) k) ?_
    refine S_getfield d_Ss_confirmServer_83 fg_Ss_122 (w62 _) rfl ?_
    refine ST.lift (fun _ _ k => T_aload_n (v := .ref 282) d_Ss_confirmServer_86 rfl (Or.inr ⟨_, rfl⟩) k) ?_
    refine ST.lift (fun _ _ k => T_aload_n (v := .ref 282) d_Ss_confirmServer_87 rfl (Or.inr ⟨_, rfl⟩) k) ?_
    refine ST.lift (fun _ _ k => T_bipush (v := nI 64) d_Ss_confirmServer_88 (by decide) k) ?_
    refine ST.lift (fun _ _ k => T_aload_n (v := .ref 265) d_Ss_confirmServer_90 rfl (Or.inr ⟨_, rfl⟩) k) ?_
    refine S_getfield d_Ss_confirmServer_91 fg_Ss_41 (w265 _) rfl ?_
    refine S_virtual (as := [.ref 201, .ref 282, .ref 282, .int (nI 64), .ref 275]) (rest := []) (b := 62) d_Ss_confirmServer_94 rfl (jw_Kit_putMasked.jo (by decide)) lm_Ss_125 ji_Kit_putMasked js_Kit_putMasked (w62 _) rfl rfl rfl (Nat.le_of_ble_eq_true rfl) (by decide) (by decide) (c_Kit_putMasked G u11 201 64 (by decide) a201 (by omega) 282 320 (by decide) a282 (by omega) 282 320 (by decide) a282 (by omega) 64 (by omega) 275 276 128 27 ⟨w275, a276, by decide, u275_1, by decide, by decide⟩ (by omega) hv12) (fun r u14 hq => ?_)
    obtain ⟨hr, hv15, hm16⟩ := hq
    rw [hr]
    clear hr r
    have hm17 := hm13.go hm16 (by intro i hi; simp only [List.mem_cons, List.not_mem_nil, or_false] at hi ⊢ <;> omega)
    show ST G mi_Ss_confirmServer 97 [(3, .ref 282), (0, .ref 265), (1, .ref 62), (2, .ref 217)] [] u14 0 0 _
    refine ST.lift (fun _ _ k => T_aload_n (v := .ref 62) d_Ss_confirmServer_97 rfl (Or.inr ⟨_, rfl⟩) k) ?_
    refine ST.lift (fun _ _ k => T_aload_n (v := .ref 265) d_Ss_confirmServer_98 rfl (Or.inr ⟨_, rfl⟩) k) ?_
    refine S_getfield d_Ss_confirmServer_99 fg_Ss_41 (w265 _) rfl ?_
    refine S_getfield d_Ss_confirmServer_102 fg_Ss_99 (w275 _) rfl ?_
    refine ST.lift (fun _ _ k => T_bipush (v := nI 32) d_Ss_confirmServer_105 (by decide) k) ?_
    refine ST.lift (fun _ _ k => T_aload_n (v := .ref 265) d_Ss_confirmServer_107 rfl (Or.inr ⟨_, rfl⟩) k) ?_
    refine S_getfield d_Ss_confirmServer_108 fg_Ss_41 (w265 _) rfl ?_
    refine S_getfield d_Ss_confirmServer_111 fg_Ss_99 (w275 _) rfl ?_
    refine S_virtual (as := [.ref 276, .int (nI 32), .ref 276]) (rest := []) (b := 62) d_Ss_confirmServer_114 rfl (jw_Kit_sealEnvelope.jo (by decide)) lm_Ss_129 ji_Kit_sealEnvelope js_Kit_sealEnvelope (w62 _) rfl rfl rfl (Nat.le_of_ble_eq_true rfl) (by decide) (by decide) (c_Kit_sealEnvelope G u14 276 128 (by decide) a276 (by omega) 32 (by omega) 276 128 (by decide) a276 (by omega) hv15) (fun r u18 hq => ?_)
    obtain ⟨hr, hv19, hm20⟩ := hq
    rw [hr]
    clear hr r
    have hm21 := hm17.go hm20 (by intro i hi; simp only [List.mem_cons, List.not_mem_nil, or_false] at hi ⊢ <;> omega)
    show ST G mi_Ss_confirmServer 117 [(3, .ref 282), (0, .ref 265), (1, .ref 62), (2, .ref 217)] [] u18 0 0 _
    refine ST.lift (fun _ _ k => T_aload_n (v := .ref 265) d_Ss_confirmServer_117 rfl (Or.inr ⟨_, rfl⟩) k) ?_
    refine S_getfield d_Ss_confirmServer_118 fg_Ss_41 (w265 _) rfl ?_
    refine ST.lift (fun _ _ k => T_bipush (v := nI 64) d_Ss_confirmServer_121 (by decide) k) ?_
    refine ST.lift (fun _ _ k => T_aload_n (v := .ref 62) d_Ss_confirmServer_123 rfl (Or.inr ⟨_, rfl⟩) k) ?_
    refine S_getfield d_Ss_confirmServer_124 fg_Ss_133 (w62 _) rfl ?_
    refine ST.lift (fun _ _ k => T_iconst (v := nI 0) d_Ss_confirmServer_127 (by decide) k) ?_
    refine S_virtual (as := [.int (nI 64), .ref 205, .int (nI 0)]) (rest := []) (b := 275) d_Ss_confirmServer_128 rfl (jw_By_endsLike.jo (by decide)) lm_Ss_136 ji_By_endsLike js_By_endsLike (w275 _) rfl rfl rfl (Nat.le_of_ble_eq_true rfl) (by decide) (by decide) (c_By_endsLike G u18 275 276 128 27 ⟨w275, a276, by decide, u275_1, by decide, by decide⟩ 64 (by omega) 205 64 (by decide) a205 (by omega) 0 (by omega) hv19) (fun r u22 hq => ?_)
    obtain ⟨z25, hz25, hr, hv23, hm24⟩ := hq
    rw [hr]
    clear hr r
    have hm26 := hm21.go hm24 (by intro i hi; simp only [List.mem_cons, List.not_mem_nil, or_false] at hi ⊢ <;> omega)
    show ST G mi_Ss_confirmServer 131 [(3, .ref 282), (0, .ref 265), (1, .ref 62), (2, .ref 217)] [.int (nI z25)] u22 0 0 _
    refine S_if_neN d_Ss_confirmServer_131 rfl (by omega) (fun c27 => ?_) (fun c27 => ?_)
    · refine ST.lift (fun _ _ k => T_aload_n (v := .ref 62) d_Ss_confirmServer_136 rfl (Or.inr ⟨_, rfl⟩) k) ?_
      refine S_getfield d_Ss_confirmServer_137 fg_Ss_78 (w62 _) rfl ?_
      refine ST.lift (fun _ _ k => T_aload_n (v := .ref 265) d_Ss_confirmServer_140 rfl (Or.inr ⟨_, rfl⟩) k) ?_
      refine S_getfield d_Ss_confirmServer_141 fg_Ss_41 (w265 _) rfl ?_
      refine S_getfield d_Ss_confirmServer_144 fg_Ss_99 (w275 _) rfl ?_
      refine ST.lift (fun _ _ k => T_iconst (v := nI 0) d_Ss_confirmServer_147 (by decide) k) ?_
      refine ST.lift (fun _ _ k => T_aload_n (v := .ref 62) d_Ss_confirmServer_148 rfl (Or.inr ⟨_, rfl⟩) k) ?_
      refine S_getfield d_Ss_confirmServer_149 fg_Ss_70 (w62 _) rfl ?_
      refine S_virtual (as := [.ref 276, .int (nI 0), .ref 188]) (rest := []) (b := 77) d_Ss_confirmServer_152 rfl (jw_Cu_decode.jo (by decide)) lm_Ss_102 ji_Cu_decode js_Cu_decode (w77 _) rfl rfl rfl (Nat.le_of_ble_eq_true rfl) (by decide) (by decide) (c_Cu_decode G u22 276 128 (by decide) a276 (by omega) 0 (by omega) 188 189 190 191 192 ⟨w188, a189, a190, a191, a192, by decide, by decide, by decide, by decide⟩ hv23) (fun r u28 hq => ?_)
      obtain ⟨z31, hz31, hr, hv29, hm30⟩ := hq
      rw [hr]
      clear hr r
      have hm32 := hm26.go hm30 (by intro i hi; simp only [List.mem_cons, List.not_mem_nil, or_false] at hi ⊢ <;> omega)
      show ST G mi_Ss_confirmServer 155 [(3, .ref 282), (0, .ref 265), (1, .ref 62), (2, .ref 217)] [.int (nI z31)] u28 0 0 _
      refine S_if_eqN d_Ss_confirmServer_155 rfl (by omega) (fun c33 => ?_) (fun c33 => ?_)
      · refine ST.lift (fun _ _ k => T_iconst (v := nI 1) d_Ss_confirmServer_176 (by decide) k) ?_
        exact S_ret d_Ss_confirmServer_177 rfl rfl (by decide) (by decide) (hQ _ _ hv29 hm32)
      · refine ST.lift (fun _ _ k => T_aload_n (v := .ref 62) d_Ss_confirmServer_158 rfl (Or.inr ⟨_, rfl⟩) k) ?_
        refine S_getfield d_Ss_confirmServer_159 fg_Ss_78 (w62 _) rfl ?_
        refine ST.lift (fun _ _ k => T_aload_n (v := .ref 282) d_Ss_confirmServer_162 rfl (Or.inr ⟨_, rfl⟩) k) ?_
        refine ST.lift (fun _ _ k => T_sipush (v := nI 224) d_Ss_confirmServer_163 (by decide) k) ?_
        refine ST.lift (fun _ _ k => T_aload_n (v := .ref 62) d_Ss_confirmServer_166 rfl (Or.inr ⟨_, rfl⟩) k) ?_
        refine S_getfield d_Ss_confirmServer_167 fg_Ss_140 (w62 _) rfl ?_
        refine S_virtual (as := [.ref 282, .int (nI 224), .ref 193]) (rest := []) (b := 77) d_Ss_confirmServer_170 rfl (jw_Cu_decode.jo (by decide)) lm_Ss_102 ji_Cu_decode js_Cu_decode (w77 _) rfl rfl rfl (Nat.le_of_ble_eq_true rfl) (by decide) (by decide) (c_Cu_decode G u28 282 320 (by decide) a282 (by omega) 224 (by omega) 193 194 195 196 197 ⟨w193, a194, a195, a196, a197, by decide, by decide, by decide, by decide⟩ hv29) (fun r u34 hq => ?_)
        obtain ⟨z37, hz37, hr, hv35, hm36⟩ := hq
        rw [hr]
        clear hr r
        have hm38 := hm32.go hm36 (by intro i hi; simp only [List.mem_cons, List.not_mem_nil, or_false] at hi ⊢ <;> omega)
        show ST G mi_Ss_confirmServer 173 [(3, .ref 282), (0, .ref 265), (1, .ref 62), (2, .ref 217)] [.int (nI z37)] u34 0 0 _
        refine S_if_neN d_Ss_confirmServer_173 rfl (by omega) (fun c39 => ?_) (fun c39 => ?_)
        · refine ST.lift (fun _ _ k => T_aload_n (v := .ref 217) d_Ss_confirmServer_178 rfl (Or.inr ⟨_, rfl⟩) k) ?_
          refine ST.lift (fun _ _ k => T_aload_n (v := .ref 62) d_Ss_confirmServer_179 rfl (Or.inr ⟨_, rfl⟩) k) ?_
          refine S_getfield d_Ss_confirmServer_180 fg_Ss_143 (w62 _) rfl ?_
          refine S_getfield d_Ss_confirmServer_183 fg_Ss_99 (w203 _) rfl ?_
          refine ST.lift (fun _ _ k => T_aload_n (v := .ref 265) d_Ss_confirmServer_186 rfl (Or.inr ⟨_, rfl⟩) k) ?_
          refine S_getfield d_Ss_confirmServer_187 fg_Ss_38 (w265 _) rfl ?_
          refine S_getfield d_Ss_confirmServer_190 fg_Ss_99 (w273 _) rfl ?_
          refine ST.lift (fun _ _ k => T_aload_n (v := .ref 265) d_Ss_confirmServer_193 rfl (Or.inr ⟨_, rfl⟩) k) ?_
          refine S_getfield d_Ss_confirmServer_194 fg_Ss_41 (w265 _) rfl ?_
          refine S_getfield d_Ss_confirmServer_197 fg_Ss_99 (w275 _) rfl ?_
          refine ST.lift (fun _ _ k => T_aload_n (v := .ref 282) d_Ss_confirmServer_200 rfl (Or.inr ⟨_, rfl⟩) k) ?_
          refine S_virtual (as := [.ref 204, .ref 274, .ref 276, .ref 282]) (rest := []) (b := 217) d_Ss_confirmServer_201 rfl (jw_Ex_open.jo (by decide)) lm_Ss_146 ji_Ex_open js_Ex_open (w217 _) rfl rfl rfl (Nat.le_of_ble_eq_true rfl) (by decide) (by decide) (c_Ex_open G u34 204 32 (by decide) a204 (by omega) 274 96 (by decide) a274 (by omega) 276 128 (by decide) a276 (by omega) 282 320 (by decide) a282 (by omega) hv35) (fun r u40 hq => ?_)
          obtain ⟨hr, hv41, hm42⟩ := hq
          rw [hr]
          clear hr r
          have hm43 := hm38.go hm42 (by intro i hi; simp only [List.mem_cons, List.not_mem_nil, or_false] at hi ⊢ <;> omega)
          show ST G mi_Ss_confirmServer 204 [(3, .ref 282), (0, .ref 265), (1, .ref 62), (2, .ref 217)] [] u40 0 0 _
          refine ST.lift (fun _ _ k => T_aload_n (v := .ref 217) d_Ss_confirmServer_204 rfl (Or.inr ⟨_, rfl⟩) k) ?_
          refine ST.lift (fun _ _ k => T_aload_n (v := .ref 62) d_Ss_confirmServer_205 rfl (Or.inr ⟨_, rfl⟩) k) ?_
          refine ST.lift (fun _ _ k => T_aload_n (v := .ref 265) d_Ss_confirmServer_206 rfl (Or.inr ⟨_, rfl⟩) k) ?_
          refine S_getfield d_Ss_confirmServer_207 fg_Ss_47 (w265 _) rfl ?_
          refine ST.lift (fun _ _ k => T_aload_n (v := .ref 62) d_Ss_confirmServer_210 rfl (Or.inr ⟨_, rfl⟩) k) ?_
          refine S_getfield d_Ss_confirmServer_211 fg_Ss_140 (w62 _) rfl ?_
          refine S_virtual (as := [.ref 62, .ref 278, .ref 193]) (rest := []) (b := 217) d_Ss_confirmServer_214 rfl (jw_Ex_join.jo (by decide)) lm_Ss_152 ji_Ex_join js_Ex_join (w217 _) rfl rfl rfl (Nat.le_of_ble_eq_true rfl) (by decide) (by decide) (c_Ex_join G u40 278 32 (by decide) a278 (by omega) 193 194 195 196 197 ⟨w193, a194, a195, a196, a197, by decide, by decide, by decide, by decide⟩ (by omega) hv41) (fun r u44 hq => ?_)
          obtain ⟨hr, hv45, hm46⟩ := hq
          rw [hr]
          clear hr r
          have hm47 := hm43.go hm46 (by intro i hi; simp only [List.mem_cons, List.not_mem_nil, or_false] at hi ⊢ <;> omega)
          show ST G mi_Ss_confirmServer 217 [(3, .ref 282), (0, .ref 265), (1, .ref 62), (2, .ref 217)] [] u44 0 0 _
          refine ST.lift (fun _ _ k => T_aload_n (v := .ref 217) d_Ss_confirmServer_217 rfl (Or.inr ⟨_, rfl⟩) k) ?_
          refine ST.lift (fun _ _ k => T_aload_n (v := .ref 62) d_Ss_confirmServer_218 rfl (Or.inr ⟨_, rfl⟩) k) ?_
          refine ST.lift (fun _ _ k => T_aload_n (v := .ref 265) d_Ss_confirmServer_219 rfl (Or.inr ⟨_, rfl⟩) k) ?_
          refine S_getfield d_Ss_confirmServer_220 fg_Ss_47 (w265 _) rfl ?_
          refine ST.lift (fun _ _ k => T_aload_n (v := .ref 62) d_Ss_confirmServer_223 rfl (Or.inr ⟨_, rfl⟩) k) ?_
          refine S_getfield d_Ss_confirmServer_224 fg_Ss_70 (w62 _) rfl ?_
          refine S_virtual (as := [.ref 62, .ref 278, .ref 188]) (rest := []) (b := 217) d_Ss_confirmServer_227 rfl (jw_Ex_join.jo (by decide)) lm_Ss_152 ji_Ex_join js_Ex_join (w217 _) rfl rfl rfl (Nat.le_of_ble_eq_true rfl) (by decide) (by decide) (c_Ex_join G u44 278 32 (by decide) a278 (by omega) 188 189 190 191 192 ⟨w188, a189, a190, a191, a192, by decide, by decide, by decide, by decide⟩ (by omega) hv45) (fun r u48 hq => ?_)
          obtain ⟨hr, hv49, hm50⟩ := hq
          rw [hr]
          clear hr r
          have hm51 := hm47.go hm50 (by intro i hi; simp only [List.mem_cons, List.not_mem_nil, or_false] at hi ⊢ <;> omega)
          show ST G mi_Ss_confirmServer 230 [(3, .ref 282), (0, .ref 265), (1, .ref 62), (2, .ref 217)] [] u48 0 0 _
          refine ST.lift (fun _ _ k => T_aload_n (v := .ref 217) d_Ss_confirmServer_230 rfl (Or.inr ⟨_, rfl⟩) k) ?_
          refine ST.lift (fun _ _ k => T_aload_n (v := .ref 62) d_Ss_confirmServer_231 rfl (Or.inr ⟨_, rfl⟩) k) ?_
          refine ST.lift (fun _ _ k => T_aload_n (v := .ref 62) d_Ss_confirmServer_232 rfl (Or.inr ⟨_, rfl⟩) k) ?_
          refine S_getfield d_Ss_confirmServer_233 fg_Ss_156 (w62 _) rfl ?_
          refine ST.lift (fun _ _ k => T_aload_n (v := .ref 62) d_Ss_confirmServer_236 rfl (Or.inr ⟨_, rfl⟩) k) ?_
          refine S_getfield d_Ss_confirmServer_237 fg_Ss_140 (w62 _) rfl ?_
          refine S_virtual (as := [.ref 62, .ref 202, .ref 193]) (rest := []) (b := 217) d_Ss_confirmServer_240 rfl (jw_Ex_join.jo (by decide)) lm_Ss_152 ji_Ex_join js_Ex_join (w217 _) rfl rfl rfl (Nat.le_of_ble_eq_true rfl) (by decide) (by decide) (c_Ex_join G u48 202 32 (by decide) a202 (by omega) 193 194 195 196 197 ⟨w193, a194, a195, a196, a197, by decide, by decide, by decide, by decide⟩ (by omega) hv49) (fun r u52 hq => ?_)
          obtain ⟨hr, hv53, hm54⟩ := hq
          rw [hr]
          clear hr r
          have hm55 := hm51.go hm54 (by intro i hi; simp only [List.mem_cons, List.not_mem_nil, or_false] at hi ⊢ <;> omega)
          show ST G mi_Ss_confirmServer 243 [(3, .ref 282), (0, .ref 265), (1, .ref 62), (2, .ref 217)] [] u52 0 0 _
          refine ST.lift (fun _ _ k => T_aload_n (v := .ref 217) d_Ss_confirmServer_243 rfl (Or.inr ⟨_, rfl⟩) k) ?_
          refine ST.lift (fun _ _ k => T_aload_n (v := .ref 62) d_Ss_confirmServer_244 rfl (Or.inr ⟨_, rfl⟩) k) ?_
          refine S_virtual (as := [.ref 62]) (rest := []) (b := 217) d_Ss_confirmServer_245 rfl (jw_Ex_settle.jo (by decide)) lm_Ss_159 ji_Ex_settle js_Ex_settle (w217 _) rfl rfl rfl (Nat.le_of_ble_eq_true rfl) (by decide) (by decide) (c_Ex_settle G u52 hv53) (fun r u56 hq => ?_)
          obtain ⟨hr, hv57, hm58⟩ := hq
          rw [hr]
          clear hr r
          have hm59 := hm55.go hm58 (by intro i hi; simp only [List.mem_cons, List.not_mem_nil, or_false] at hi ⊢ <;> omega)
          show ST G mi_Ss_confirmServer 248 [(3, .ref 282), (0, .ref 265), (1, .ref 62), (2, .ref 217)] [] u56 0 0 _
          refine ST.lift (fun _ _ k => T_aload_n (v := .ref 265) d_Ss_confirmServer_248 rfl (Or.inr ⟨_, rfl⟩) k) ?_
          refine S_getfield d_Ss_confirmServer_249 fg_Ss_11 (w265 _) rfl ?_
          refine ST.lift (fun _ _ k => T_iconst (v := nI 1) d_Ss_confirmServer_252 (by decide) k) ?_
          refine S_aaload (C0 := "PasswordGate$Bytes") d_Ss_confirmServer_253 (by decide) (w266 _) rfl (vp_in_nI (by omega) (by omega)) ?_
          refine ST.lift (fun _ _ k => T_sipush (v := nI 256) d_Ss_confirmServer_254 (by decide) k) ?_
          refine ST.lift (fun _ _ k => T_aload_n (v := .ref 217) d_Ss_confirmServer_257 rfl (Or.inr ⟨_, rfl⟩) k) ?_
          refine S_getfield d_Ss_confirmServer_258 fg_Ss_163 (w217 _) rfl ?_
          refine ST.lift (fun _ _ k => T_iconst (v := nI 0) d_Ss_confirmServer_261 (by decide) k) ?_
          refine S_virtual (as := [.int (nI 256), .ref 218, .int (nI 0)]) (rest := []) (b := 281) d_Ss_confirmServer_262 rfl (jw_By_endsLike.jo (by decide)) lm_Ss_136 ji_By_endsLike js_By_endsLike (w281 _) rfl rfl rfl (Nat.le_of_ble_eq_true rfl) (by decide) (by decide) (c_By_endsLike G u56 281 282 320 29 ⟨w281, a282, by decide, u281_1, by decide, by decide⟩ 256 (by omega) 218 64 (by decide) a218 (by omega) 0 (by omega) hv57) (fun r u60 hq => ?_)
          obtain ⟨z63, hz63, hr, hv61, hm62⟩ := hq
          rw [hr]
          clear hr r
          have hm64 := hm59.go hm62 (by intro i hi; simp only [List.mem_cons, List.not_mem_nil, or_false] at hi ⊢ <;> omega)
          show ST G mi_Ss_confirmServer 265 [(3, .ref 282), (0, .ref 265), (1, .ref 62), (2, .ref 217)] [.int (nI z63)] u60 0 0 _
          refine S_if_neN d_Ss_confirmServer_265 rfl (by omega) (fun c65 => ?_) (fun c65 => ?_)
          · refine ST.lift (fun _ _ k => T_aload_n (v := .ref 265) d_Ss_confirmServer_270 rfl (Or.inr ⟨_, rfl⟩) k) ?_
            refine S_getfield d_Ss_confirmServer_271 fg_Ss_11 (w265 _) rfl ?_
            refine ST.lift (fun _ _ k => T_iconst (v := nI 2) d_Ss_confirmServer_274 (by decide) k) ?_
            refine S_aaload (C0 := "PasswordGate$Bytes") d_Ss_confirmServer_275 (by decide) (w266 _) rfl (vp_in_nI (by omega) (by omega)) ?_
            refine ST.lift (fun _ _ k => T_aload_n (v := .ref 217) d_Ss_confirmServer_276 rfl (Or.inr ⟨_, rfl⟩) k) ?_
            refine S_getfield d_Ss_confirmServer_277 fg_Ss_166 (w217 _) rfl ?_
            refine ST.lift (fun _ _ k => T_iconst (v := nI 0) d_Ss_confirmServer_280 (by decide) k) ?_
            refine ST.lift (fun _ _ k => T_bipush (v := nI 64) d_Ss_confirmServer_281 (by decide) k) ?_
            refine S_virtual (as := [.ref 219, .int (nI 0), .int (nI 64)]) (rest := []) (b := 283) d_Ss_confirmServer_283 rfl (jw_By_put.jo (by decide)) lm_Ss_169 ji_By_put js_By_put (w283 _) rfl rfl rfl (Nat.le_of_ble_eq_true rfl) (by decide) (by decide) (c_By_put G u60 283 284 64 30 ⟨w283, a284, by decide, u283_1, by decide, by decide⟩ 219 64 (by decide) a219 (by omega) 0 (by omega) 64 (by omega) hv61) (fun r u66 hq => ?_)
            obtain ⟨hr, hv67, hm68⟩ := hq
            rw [hr]
            clear hr r
            have hm69 := hm64.go hm68 (by intro i hi; simp only [List.mem_cons, List.not_mem_nil, or_false] at hi ⊢ <;> omega)
            show ST G mi_Ss_confirmServer 286 [(3, .ref 282), (0, .ref 265), (1, .ref 62), (2, .ref 217)] [] u66 0 0 _
            refine ST.lift (fun _ _ k => T_aload_n (v := .ref 265) d_Ss_confirmServer_286 rfl (Or.inr ⟨_, rfl⟩) k) ?_
            refine S_getfield d_Ss_confirmServer_287 fg_Ss_17 (w265 _) rfl ?_
            refine ST.lift (fun _ _ k => T_iconst (v := nI 0) d_Ss_confirmServer_290 (by decide) k) ?_
            refine S_aaload (C0 := "PasswordGate$Bytes") d_Ss_confirmServer_291 (by decide) (w267 _) rfl (vp_in_nI (by omega) (by omega)) ?_
            refine ST.lift (fun _ _ k => T_aload_n (v := .ref 217) d_Ss_confirmServer_292 rfl (Or.inr ⟨_, rfl⟩) k) ?_
            refine S_getfield d_Ss_confirmServer_293 fg_Ss_173 (w217 _) rfl ?_
            refine ST.lift (fun _ _ k => T_iconst (v := nI 0) d_Ss_confirmServer_296 (by decide) k) ?_
            refine ST.lift (fun _ _ k => T_bipush (v := nI 64) d_Ss_confirmServer_297 (by decide) k) ?_
            refine S_virtual (as := [.ref 220, .int (nI 0), .int (nI 64)]) (rest := []) (b := 285) d_Ss_confirmServer_299 rfl (jw_By_put.jo (by decide)) lm_Ss_169 ji_By_put js_By_put (w285 _) rfl rfl rfl (Nat.le_of_ble_eq_true rfl) (by decide) (by decide) (c_By_put G u66 285 286 64 31 ⟨w285, a286, by decide, u285_1, by decide, by decide⟩ 220 64 (by decide) a220 (by omega) 0 (by omega) 64 (by omega) hv67) (fun r u70 hq => ?_)
            obtain ⟨hr, hv71, hm72⟩ := hq
            rw [hr]
            clear hr r
            have hm73 := hm69.go hm72 (by intro i hi; simp only [List.mem_cons, List.not_mem_nil, or_false] at hi ⊢ <;> omega)
            show ST G mi_Ss_confirmServer 302 [(3, .ref 282), (0, .ref 265), (1, .ref 62), (2, .ref 217)] [] u70 0 0 _
            refine ST.lift (fun _ _ k => T_aload_n (v := .ref 265) d_Ss_confirmServer_302 rfl (Or.inr ⟨_, rfl⟩) k) ?_
            refine S_getfield d_Ss_confirmServer_303 fg_Ss_17 (w265 _) rfl ?_
            refine ST.lift (fun _ _ k => T_iconst (v := nI 2) d_Ss_confirmServer_306 (by decide) k) ?_
            refine S_aaload (C0 := "PasswordGate$Bytes") d_Ss_confirmServer_307 (by decide) (w267 _) rfl (vp_in_nI (by omega) (by omega)) ?_
            refine ST.lift (fun _ _ k => T_aload_n (v := .ref 62) d_Ss_confirmServer_308 rfl (Or.inr ⟨_, rfl⟩) k) ?_
            refine S_getfield d_Ss_confirmServer_309 fg_Ss_176 (w62 _) rfl ?_
            refine ST.lift (fun _ _ k => T_iconst (v := nI 0) d_Ss_confirmServer_312 (by decide) k) ?_
            refine ST.lift (fun _ _ k => T_bipush (v := nI 64) d_Ss_confirmServer_313 (by decide) k) ?_
            refine S_virtual (as := [.ref 206, .int (nI 0), .int (nI 64)]) (rest := []) (b := 289) d_Ss_confirmServer_315 rfl (jw_By_put.jo (by decide)) lm_Ss_169 ji_By_put js_By_put (w289 _) rfl rfl rfl (Nat.le_of_ble_eq_true rfl) (by decide) (by decide) (c_By_put G u70 289 290 64 33 ⟨w289, a290, by decide, u289_1, by decide, by decide⟩ 206 64 (by decide) a206 (by omega) 0 (by omega) 64 (by omega) hv71) (fun r u74 hq => ?_)
            obtain ⟨hr, hv75, hm76⟩ := hq
            rw [hr]
            clear hr r
            have hm77 := hm73.go hm76 (by intro i hi; simp only [List.mem_cons, List.not_mem_nil, or_false] at hi ⊢ <;> omega)
            show ST G mi_Ss_confirmServer 318 [(3, .ref 282), (0, .ref 265), (1, .ref 62), (2, .ref 217)] [] u74 0 0 _
            refine ST.lift (fun _ _ k => T_iconst (v := nI 0) d_Ss_confirmServer_318 (by decide) k) ?_
            exact S_ret d_Ss_confirmServer_319 rfl rfl (by decide) (by decide) (hQ _ _ hv75 hm77)
          · refine ST.lift (fun _ _ k => T_iconst (v := nI 4) d_Ss_confirmServer_268 (by decide) k) ?_
            exact S_ret d_Ss_confirmServer_269 rfl rfl (by decide) (by decide) (hQ _ _ hv61 hm64)
        · refine ST.lift (fun _ _ k => T_iconst (v := nI 1) d_Ss_confirmServer_176 (by decide) k) ?_
          exact S_ret d_Ss_confirmServer_177 rfl rfl (by decide) (by decide) (hQ _ _ hv35 hm38)
    · refine ST.lift (fun _ _ k => T_iconst (v := nI 3) d_Ss_confirmServer_134 (by decide) k) ?_
      exact S_ret d_Ss_confirmServer_135 rfl rfl (by decide) (by decide) (hQ _ _ hv23 hm26)
  · refine ST.lift (fun _ _ k => T_iconst (v := nI 1) d_Ss_confirmServer_26 (by decide) k) ?_
    exact S_ret d_Ss_confirmServer_27 rfl rfl (by decide) (by decide) (hQ _ _ hv2 hm5)
set_option maxRecDepth 100000 in
set_option maxHeartbeats 4000000 in
theorem c_Ss_confirmClient_265 (G : GX) (v : Nat → Int32) (hv : okv v) : CS G mi_Ss_confirmClient [.ref 265] v (fun r v' => ∃ z : Int32, r = some (.int z) ∧ okv v' ∧ mdf [28, 29, 30, 31, 32, 33, 25, 26, 27, 24, 76, 77, 78] v v') := by
  refine CS.of (by decide) (Nat.le_of_ble_eq_true rfl) ?_
  generalize hQe : (fun (r : Option Value) (v' : Nat → Int32) => ∃ z : Int32, r = some (.int z) ∧ okv v' ∧ mdf [28, 29, 30, 31, 32, 33, 25, 26, 27, 24, 76, 77, 78] v v') = Q
  have hQ : ∀ (z : Int32) (u : Nat → Int32), okv u → mdf [28, 29, 30, 31, 32, 33, 25, 26, 27, 24, 76, 77, 78] v u → Q (some (.int z)) u := by rw [← hQe]; exact fun z u h1 h2 => ⟨z, rfl, h1, h2⟩
  clear hQe
  have hm : mdf [28, 29, 30, 31, 32, 33, 25, 26, 27, 24, 76, 77, 78] v v := mdf.rf
  show ST G mi_Ss_confirmClient 0 [(0, .ref 265)] [] v 0 0 Q
  refine ST.lift (fun _ _ k => T_aload_n (v := .ref 265) d_Ss_confirmClient_0 rfl (Or.inr ⟨_, rfl⟩) k) ?_
  refine S_getfield d_Ss_confirmClient_1 fg_Ss_11 (w265 _) rfl ?_
  refine ST.lift (fun _ _ k => T_iconst (v := nI 2) d_Ss_confirmClient_4 (by decide) k) ?_
  refine S_aaload (C0 := "PasswordGate$Bytes") d_Ss_confirmClient_5 (by decide) (w266 _) rfl (vp_in_nI (by omega) (by omega)) ?_
  refine ST.lift (fun _ _ k => T_iconst (v := nI 0) d_Ss_confirmClient_6 (by decide) k) ?_
  refine ST.lift (fun _ _ k => T_aload_n (v := .ref 265) d_Ss_confirmClient_7 rfl (Or.inr ⟨_, rfl⟩) k) ?_
  refine S_getfield d_Ss_confirmClient_8 fg_Ss_20 (w265 _) rfl ?_
  refine ST.lift (fun _ _ k => T_iconst (v := nI 0) d_Ss_confirmClient_11 (by decide) k) ?_
  refine S_virtual (as := [.int (nI 0), .ref 268, .int (nI 0)]) (rest := []) (b := 283) d_Ss_confirmClient_12 rfl (jw_By_endsLike.jo (by decide)) lm_Ss_136 ji_By_endsLike js_By_endsLike (w283 _) rfl rfl rfl (Nat.le_of_ble_eq_true rfl) (by decide) (by decide) (c_By_endsLike G v 283 284 64 30 ⟨w283, a284, by decide, u283_1, by decide, by decide⟩ 0 (by omega) 268 64 (by decide) a268 (by omega) 0 (by omega) hv) (fun r u1 hq => ?_)
  obtain ⟨z4, hz4, hr, hv2, hm3⟩ := hq
  rw [hr]
  clear hr r
  have hm5 := hm.go hm3 (by intro i hi; simp only [List.mem_cons, List.not_mem_nil, or_false] at hi ⊢ <;> omega)
  show ST G mi_Ss_confirmClient 15 [(0, .ref 265)] [.int (nI z4)] u1 0 0 _
  refine S_if_neN d_Ss_confirmClient_15 rfl (by omega) (fun c6 => ?_) (fun c6 => ?_)
  · refine ST.lift (fun _ _ k => T_aload_n (v := .ref 265) d_Ss_confirmClient_20 rfl (Or.inr ⟨_, rfl⟩) k) ?_
    refine S_getfield d_Ss_confirmClient_21 fg_Ss_17 (w265 _) rfl ?_
    refine ST.lift (fun _ _ k => T_iconst (v := nI 1) d_Ss_confirmClient_24 (by decide) k) ?_
    refine S_aaload (C0 := "PasswordGate$Bytes") d_Ss_confirmClient_25 (by decide) (w267 _) rfl (vp_in_nI (by omega) (by omega)) ?_
    refine ST.lift (fun _ _ k => T_aload_n (v := .ref 265) d_Ss_confirmClient_26 rfl (Or.inr ⟨_, rfl⟩) k) ?_
    refine S_getfield d_Ss_confirmClient_27 fg_Ss_24 (w265 _) rfl ?_
    refine ST.lift (fun _ _ k => T_iconst (v := nI 0) d_Ss_confirmClient_30 (by decide) k) ?_
    refine ST.lift (fun _ _ k => T_bipush (v := nI 64) d_Ss_confirmClient_31 (by decide) k) ?_
    refine S_virtual (as := [.ref 269, .int (nI 0), .int (nI 64)]) (rest := []) (b := 287) d_Ss_confirmClient_33 rfl (jw_By_put.jo (by decide)) lm_Ss_169 ji_By_put js_By_put (w287 _) rfl rfl rfl (Nat.le_of_ble_eq_true rfl) (by decide) (by decide) (c_By_put G u1 287 288 64 32 ⟨w287, a288, by decide, u287_1, by decide, by decide⟩ 269 64 (by decide) a269 (by omega) 0 (by omega) 64 (by omega) hv2) (fun r u7 hq => ?_)
    obtain ⟨hr, hv8, hm9⟩ := hq
    rw [hr]
    clear hr r
    have hm10 := hm5.go hm9 (by intro i hi; simp only [List.mem_cons, List.not_mem_nil, or_false] at hi ⊢ <;> omega)
    show ST G mi_Ss_confirmClient 36 [(0, .ref 265)] [] u7 0 0 _
    refine ST.lift (fun _ _ k => T_iconst (v := nI 0) d_Ss_confirmClient_36 (by decide) k) ?_
    exact S_ret d_Ss_confirmClient_37 rfl rfl (by decide) (by decide) (hQ _ _ hv8 hm10)
  · refine ST.lift (fun _ _ k => T_iconst (v := nI 5) d_Ss_confirmClient_18 (by decide) k) ?_
    exact S_ret d_Ss_confirmClient_19 rfl rfl (by decide) (by decide) (hQ _ _ hv2 hm5)
set_option maxRecDepth 100000 in
set_option maxHeartbeats 4000000 in
theorem c_Ss_take_291_0 (G : GX) (v : Nat → Int32) (hv : okv v) : CS G mi_Ss_take [.ref 291, .int (nI 0)] v (fun r v' => ∃ z : Nat, z ≤ 1 ∧ r = some (.int (nI z)) ∧ okv v' ∧ mdf [79] v v') := by
  refine CS.of (by decide) (Nat.le_of_ble_eq_true rfl) ?_
  generalize hQe : (fun (r : Option Value) (v' : Nat → Int32) => ∃ z : Nat, z ≤ 1 ∧ r = some (.int (nI z)) ∧ okv v' ∧ mdf [79] v v') = Q
  have hQ : ∀ (z : Nat) (u : Nat → Int32), z ≤ 1 → okv u → mdf [79] v u → Q (some (.int (nI z))) u := by rw [← hQe]; exact fun z u hz h1 h2 => ⟨z, hz, rfl, h1, h2⟩
  clear hQe
  have hm : mdf [79] v v := mdf.rf
  show ST G mi_Ss_take 0 [(0, .ref 291), (1, .int (nI 0))] [] v 0 0 Q
  refine ST.lift (fun _ _ k => T_aload_n (v := .ref 291) d_Ss_take_0 rfl (Or.inr ⟨_, rfl⟩) k) ?_
  refine S_getfield d_Ss_take_1 fg_Ss_11 (w291 _) rfl ?_
  refine ST.lift (fun _ _ k => T_iload_n d_Ss_take_4 rfl k) ?_
  refine S_aaload (C0 := "PasswordGate$Bytes") d_Ss_take_5 (by decide) (w292 _) rfl (vp_in_nI (by omega) (by omega)) ?_
  obtain ⟨k1, hk1, ek1⟩ := hv.get (j := 38) (c := 96) (by decide)
  refine S_getfield d_Ss_take_6 fg_Ss_50 (w305 _) rfl ?_
  refine S_topi (y := nI k1) (ek1) ?_
  refine S_if_eqN d_Ss_take_9 rfl (by omega) (fun c2 => ?_) (fun c2 => ?_)
  · refine ST.lift (fun _ _ k => T_iconst (v := nI 0) d_Ss_take_21 (by decide) k) ?_
    exact S_ret d_Ss_take_22 rfl (nar_z (by omega)) (by decide) (by decide) (hQ 0 _ (by omega) hv hm)
  · refine ST.lift (fun _ _ k => T_aload_n (v := .ref 291) d_Ss_take_12 rfl (Or.inr ⟨_, rfl⟩) k) ?_
    refine S_getfield d_Ss_take_13 fg_Ss_27 (w291 _) rfl ?_
    refine ST.lift (fun _ _ k => T_iload_n d_Ss_take_16 rfl k) ?_
    refine S_xload (t := 3) (k := 0) (Or.inr ⟨rfl, d_Ss_take_17⟩) rfl (w296 _) (by decide) (by decide) ?_
    refine S_topi (y := v 79) rfl ?_
    refine S_if_eq d_Ss_take_18 rfl (fun c3 => ?_) (fun c3 => ?_)
    · refine ST.lift (fun _ _ k => T_aload_n (v := .ref 291) d_Ss_take_23 rfl (Or.inr ⟨_, rfl⟩) k) ?_
      refine S_getfield d_Ss_take_24 fg_Ss_27 (w291 _) rfl ?_
      refine ST.lift (fun _ _ k => T_iload_n d_Ss_take_27 rfl k) ?_
      refine ST.lift (fun _ _ k => T_iconst (v := nI 1) d_Ss_take_28 (by decide) k) ?_
      refine S_xstore (k := 0) (y := (nI 1)) (v' := va_up v 79 (nI 1)) (Or.inr ⟨rfl, by decide, d_Ss_take_29⟩) (by decide) rfl (w296 _) (by decide) (by decide) (x296_0 _ _) ?_
      have hv5 := hv.off (j := 79) (x := (nI 1)) (by decide)
      have hm6 := hm.go (mdf.up (v := v) (j := 79) (x := (nI 1))) (by intro i hi; simp only [List.mem_cons, List.not_mem_nil, or_false] at hi ⊢ <;> omega)
      have e_u4 : (va_up v 79 (nI 1)) 79 = (nI 1) := by simp [va_up]
      have e7 : (va_up v 79 (nI 1)) 38 = nI k1 := by simp only [va_up]; exact ek1
      generalize va_up v 79 (nI 1) = u4 at hv5 hm6 e_u4 e7 ⊢
      refine ST.lift (fun _ _ k => T_iconst (v := nI 1) d_Ss_take_30 (by decide) k) ?_
      exact S_ret d_Ss_take_31 rfl (nar_z (by omega)) (by decide) (by decide) (hQ 1 _ (by omega) hv5 hm6)
    · refine ST.lift (fun _ _ k => T_iconst (v := nI 0) d_Ss_take_21 (by decide) k) ?_
      exact S_ret d_Ss_take_22 rfl (nar_z (by omega)) (by decide) (by decide) (hQ 0 _ (by omega) hv hm)
set_option maxRecDepth 100000 in
set_option maxHeartbeats 4000000 in
theorem c_Ss_take_291_1 (G : GX) (v : Nat → Int32) (hv : okv v) : CS G mi_Ss_take [.ref 291, .int (nI 1)] v (fun r v' => ∃ z : Nat, z ≤ 1 ∧ r = some (.int (nI z)) ∧ okv v' ∧ mdf [80] v v') := by
  refine CS.of (by decide) (Nat.le_of_ble_eq_true rfl) ?_
  generalize hQe : (fun (r : Option Value) (v' : Nat → Int32) => ∃ z : Nat, z ≤ 1 ∧ r = some (.int (nI z)) ∧ okv v' ∧ mdf [80] v v') = Q
  have hQ : ∀ (z : Nat) (u : Nat → Int32), z ≤ 1 → okv u → mdf [80] v u → Q (some (.int (nI z))) u := by rw [← hQe]; exact fun z u hz h1 h2 => ⟨z, hz, rfl, h1, h2⟩
  clear hQe
  have hm : mdf [80] v v := mdf.rf
  show ST G mi_Ss_take 0 [(0, .ref 291), (1, .int (nI 1))] [] v 0 0 Q
  refine ST.lift (fun _ _ k => T_aload_n (v := .ref 291) d_Ss_take_0 rfl (Or.inr ⟨_, rfl⟩) k) ?_
  refine S_getfield d_Ss_take_1 fg_Ss_11 (w291 _) rfl ?_
  refine ST.lift (fun _ _ k => T_iload_n d_Ss_take_4 rfl k) ?_
  refine S_aaload (C0 := "PasswordGate$Bytes") d_Ss_take_5 (by decide) (w292 _) rfl (vp_in_nI (by omega) (by omega)) ?_
  obtain ⟨k1, hk1, ek1⟩ := hv.get (j := 39) (c := 320) (by decide)
  refine S_getfield d_Ss_take_6 fg_Ss_50 (w307 _) rfl ?_
  refine S_topi (y := nI k1) (ek1) ?_
  refine S_if_eqN d_Ss_take_9 rfl (by omega) (fun c2 => ?_) (fun c2 => ?_)
  · refine ST.lift (fun _ _ k => T_iconst (v := nI 0) d_Ss_take_21 (by decide) k) ?_
    exact S_ret d_Ss_take_22 rfl (nar_z (by omega)) (by decide) (by decide) (hQ 0 _ (by omega) hv hm)
  · refine ST.lift (fun _ _ k => T_aload_n (v := .ref 291) d_Ss_take_12 rfl (Or.inr ⟨_, rfl⟩) k) ?_
    refine S_getfield d_Ss_take_13 fg_Ss_27 (w291 _) rfl ?_
    refine ST.lift (fun _ _ k => T_iload_n d_Ss_take_16 rfl k) ?_
    refine S_xload (t := 3) (k := 1) (Or.inr ⟨rfl, d_Ss_take_17⟩) rfl (w296 _) (by decide) (by decide) ?_
    refine S_topi (y := v 80) rfl ?_
    refine S_if_eq d_Ss_take_18 rfl (fun c3 => ?_) (fun c3 => ?_)
    · refine ST.lift (fun _ _ k => T_aload_n (v := .ref 291) d_Ss_take_23 rfl (Or.inr ⟨_, rfl⟩) k) ?_
      refine S_getfield d_Ss_take_24 fg_Ss_27 (w291 _) rfl ?_
      refine ST.lift (fun _ _ k => T_iload_n d_Ss_take_27 rfl k) ?_
      refine ST.lift (fun _ _ k => T_iconst (v := nI 1) d_Ss_take_28 (by decide) k) ?_
      refine S_xstore (k := 1) (y := (nI 1)) (v' := va_up v 80 (nI 1)) (Or.inr ⟨rfl, by decide, d_Ss_take_29⟩) (by decide) rfl (w296 _) (by decide) (by decide) (x296_1 _ _) ?_
      have hv5 := hv.off (j := 80) (x := (nI 1)) (by decide)
      have hm6 := hm.go (mdf.up (v := v) (j := 80) (x := (nI 1))) (by intro i hi; simp only [List.mem_cons, List.not_mem_nil, or_false] at hi ⊢ <;> omega)
      have e_u4 : (va_up v 80 (nI 1)) 80 = (nI 1) := by simp [va_up]
      have e7 : (va_up v 80 (nI 1)) 39 = nI k1 := by simp only [va_up]; exact ek1
      generalize va_up v 80 (nI 1) = u4 at hv5 hm6 e_u4 e7 ⊢
      refine ST.lift (fun _ _ k => T_iconst (v := nI 1) d_Ss_take_30 (by decide) k) ?_
      exact S_ret d_Ss_take_31 rfl (nar_z (by omega)) (by decide) (by decide) (hQ 1 _ (by omega) hv5 hm6)
    · refine ST.lift (fun _ _ k => T_iconst (v := nI 0) d_Ss_take_21 (by decide) k) ?_
      exact S_ret d_Ss_take_22 rfl (nar_z (by omega)) (by decide) (by decide) (hQ 0 _ (by omega) hv hm)
set_option maxRecDepth 100000 in
set_option maxHeartbeats 4000000 in
theorem c_Ss_take_291_2 (G : GX) (v : Nat → Int32) (hv : okv v) : CS G mi_Ss_take [.ref 291, .int (nI 2)] v (fun r v' => ∃ z : Nat, z ≤ 1 ∧ r = some (.int (nI z)) ∧ okv v' ∧ mdf [81] v v') := by
  refine CS.of (by decide) (Nat.le_of_ble_eq_true rfl) ?_
  generalize hQe : (fun (r : Option Value) (v' : Nat → Int32) => ∃ z : Nat, z ≤ 1 ∧ r = some (.int (nI z)) ∧ okv v' ∧ mdf [81] v v') = Q
  have hQ : ∀ (z : Nat) (u : Nat → Int32), z ≤ 1 → okv u → mdf [81] v u → Q (some (.int (nI z))) u := by rw [← hQe]; exact fun z u hz h1 h2 => ⟨z, hz, rfl, h1, h2⟩
  clear hQe
  have hm : mdf [81] v v := mdf.rf
  show ST G mi_Ss_take 0 [(0, .ref 291), (1, .int (nI 2))] [] v 0 0 Q
  refine ST.lift (fun _ _ k => T_aload_n (v := .ref 291) d_Ss_take_0 rfl (Or.inr ⟨_, rfl⟩) k) ?_
  refine S_getfield d_Ss_take_1 fg_Ss_11 (w291 _) rfl ?_
  refine ST.lift (fun _ _ k => T_iload_n d_Ss_take_4 rfl k) ?_
  refine S_aaload (C0 := "PasswordGate$Bytes") d_Ss_take_5 (by decide) (w292 _) rfl (vp_in_nI (by omega) (by omega)) ?_
  obtain ⟨k1, hk1, ek1⟩ := hv.get (j := 40) (c := 64) (by decide)
  refine S_getfield d_Ss_take_6 fg_Ss_50 (w309 _) rfl ?_
  refine S_topi (y := nI k1) (ek1) ?_
  refine S_if_eqN d_Ss_take_9 rfl (by omega) (fun c2 => ?_) (fun c2 => ?_)
  · refine ST.lift (fun _ _ k => T_iconst (v := nI 0) d_Ss_take_21 (by decide) k) ?_
    exact S_ret d_Ss_take_22 rfl (nar_z (by omega)) (by decide) (by decide) (hQ 0 _ (by omega) hv hm)
  · refine ST.lift (fun _ _ k => T_aload_n (v := .ref 291) d_Ss_take_12 rfl (Or.inr ⟨_, rfl⟩) k) ?_
    refine S_getfield d_Ss_take_13 fg_Ss_27 (w291 _) rfl ?_
    refine ST.lift (fun _ _ k => T_iload_n d_Ss_take_16 rfl k) ?_
    refine S_xload (t := 3) (k := 2) (Or.inr ⟨rfl, d_Ss_take_17⟩) rfl (w296 _) (by decide) (by decide) ?_
    refine S_topi (y := v 81) rfl ?_
    refine S_if_eq d_Ss_take_18 rfl (fun c3 => ?_) (fun c3 => ?_)
    · refine ST.lift (fun _ _ k => T_aload_n (v := .ref 291) d_Ss_take_23 rfl (Or.inr ⟨_, rfl⟩) k) ?_
      refine S_getfield d_Ss_take_24 fg_Ss_27 (w291 _) rfl ?_
      refine ST.lift (fun _ _ k => T_iload_n d_Ss_take_27 rfl k) ?_
      refine ST.lift (fun _ _ k => T_iconst (v := nI 1) d_Ss_take_28 (by decide) k) ?_
      refine S_xstore (k := 2) (y := (nI 1)) (v' := va_up v 81 (nI 1)) (Or.inr ⟨rfl, by decide, d_Ss_take_29⟩) (by decide) rfl (w296 _) (by decide) (by decide) (x296_2 _ _) ?_
      have hv5 := hv.off (j := 81) (x := (nI 1)) (by decide)
      have hm6 := hm.go (mdf.up (v := v) (j := 81) (x := (nI 1))) (by intro i hi; simp only [List.mem_cons, List.not_mem_nil, or_false] at hi ⊢ <;> omega)
      have e_u4 : (va_up v 81 (nI 1)) 81 = (nI 1) := by simp [va_up]
      have e7 : (va_up v 81 (nI 1)) 40 = nI k1 := by simp only [va_up]; exact ek1
      generalize va_up v 81 (nI 1) = u4 at hv5 hm6 e_u4 e7 ⊢
      refine ST.lift (fun _ _ k => T_iconst (v := nI 1) d_Ss_take_30 (by decide) k) ?_
      exact S_ret d_Ss_take_31 rfl (nar_z (by omega)) (by decide) (by decide) (hQ 1 _ (by omega) hv5 hm6)
    · refine ST.lift (fun _ _ k => T_iconst (v := nI 0) d_Ss_take_21 (by decide) k) ?_
      exact S_ret d_Ss_take_22 rfl (nar_z (by omega)) (by decide) (by decide) (hQ 0 _ (by omega) hv hm)
set_option maxRecDepth 100000 in
set_option maxHeartbeats 4000000 in
theorem c_Ss_start_291 (G : GX) (v : Nat → Int32) (usr : Nat) (b_usr : usr ≤ 7) (b bd bc bj : Nat) (y_b : isBy b bd bc bj) (hv : okv v) : CS G mi_Ss_start [.ref 291, .ref 62, .int (nI usr), .ref b] v (fun r v' => r = none ∧ okv v' ∧ mdf [6, 7, 5, 2, 3, 1, 4, 38, 39, 40, 41, 42, 43, 35, 36, 37, 34, 79, 80, 81] v v') := by
  refine CS.of (by decide) (Nat.le_of_ble_eq_true rfl) ?_
  generalize hQe : (fun (r : Option Value) (v' : Nat → Int32) => r = none ∧ okv v' ∧ mdf [6, 7, 5, 2, 3, 1, 4, 38, 39, 40, 41, 42, 43, 35, 36, 37, 34, 79, 80, 81] v v') = Q
  have hQ : ∀ u, okv u → mdf [6, 7, 5, 2, 3, 1, 4, 38, 39, 40, 41, 42, 43, 35, 36, 37, 34, 79, 80, 81] v u → Q none u := by rw [← hQe]; exact fun u h1 h2 => ⟨rfl, h1, h2⟩
  clear hQe
  have hm : mdf [6, 7, 5, 2, 3, 1, 4, 38, 39, 40, 41, 42, 43, 35, 36, 37, 34, 79, 80, 81] v v := mdf.rf
  have l_b := y_b.2.2.2.2.2
  show ST G mi_Ss_start 0 [(0, .ref 291), (1, .ref 62), (2, .int (nI usr)), (3, .ref b)] [] v 0 0 Q
  refine ST.lift (fun _ _ k => T_iconst (v := nI 0) d_Ss_start_0 (by decide) k) ?_
  refine ST.lift (fun _ _ k => T_istore (L' := [(4, .int (nI 0)), (0, .ref 291), (1, .ref 62), (2, .int (nI usr)), (3, .ref b)]) d_Ss_start_1 (by decide) rfl k) ?_
  refine ST.lift (fun _ _ k => T_iload d_Ss_start_3 rfl k) ?_
  refine ST.lift (fun _ _ k => T_iconst (v := nI 3) d_Ss_start_5 (by decide) k) ?_
  refine S_icmp_geN d_Ss_start_6 rfl (by omega) (by omega) (fun c => by first | exact absurd c (by omega) | exact c.elim | exact absurd c (by decide) | exact absurd (by assumption) c | exact absurd c (by assumption)) (fun _ => ?_)
  refine ST.lift (fun _ _ k => T_aload_n (v := .ref 291) d_Ss_start_9 rfl (Or.inr ⟨_, rfl⟩) k) ?_
  refine S_getfield d_Ss_start_10 fg_Ss_11 (w291 _) rfl ?_
  refine ST.lift (fun _ _ k => T_iload d_Ss_start_13 rfl k) ?_
  refine S_aaload (C0 := "PasswordGate$Bytes") d_Ss_start_15 (by decide) (w292 _) rfl (vp_in_nI (by omega) (by omega)) ?_
  refine S_virtual (as := []) (rest := []) (b := 305) d_Ss_start_16 rfl (jw_By_clear.jo (by decide)) lm_Ss_54 ji_By_clear js_By_clear (w305 _) rfl rfl rfl (Nat.le_of_ble_eq_true rfl) (by decide) (by decide) (c_By_clear G v 305 306 96 38 ⟨w305, a306, by decide, u305_1, by decide, by decide⟩ hv) (fun r v' hq => ?_)
  rw [hq.1, hq.2]
  clear hq r v'
  show ST G mi_Ss_start 19 [(4, .int (nI 0)), (0, .ref 291), (1, .ref 62), (2, .int (nI usr)), (3, .ref b)] [] (va_up v 38 (nI 0)) 0 0 _
  have hv2 := hv.up (j := 38) (c := 96) (k := 0) (by decide) (by omega)
  have hm3 := hm.go (mdf.up (v := v) (j := 38) (x := (nI 0))) (by intro i hi; simp only [List.mem_cons, List.not_mem_nil, or_false] at hi ⊢ <;> omega)
  have e_u1 : (va_up v 38 (nI 0)) 38 = (nI 0) := by simp [va_up]
  generalize va_up v 38 (nI 0) = u1 at hv2 hm3 e_u1 ⊢
  refine ST.lift (fun _ _ k => T_aload_n (v := .ref 291) d_Ss_start_19 rfl (Or.inr ⟨_, rfl⟩) k) ?_
  refine S_getfield d_Ss_start_20 fg_Ss_17 (w291 _) rfl ?_
  refine ST.lift (fun _ _ k => T_iload d_Ss_start_23 rfl k) ?_
  refine S_aaload (C0 := "PasswordGate$Bytes") d_Ss_start_25 (by decide) (w293 _) rfl (vp_in_nI (by omega) (by omega)) ?_
  refine S_virtual (as := []) (rest := []) (b := 311) d_Ss_start_26 rfl (jw_By_clear.jo (by decide)) lm_Ss_54 ji_By_clear js_By_clear (w311 _) rfl rfl rfl (Nat.le_of_ble_eq_true rfl) (by decide) (by decide) (c_By_clear G u1 311 312 64 41 ⟨w311, a312, by decide, u311_1, by decide, by decide⟩ hv2) (fun r v' hq => ?_)
  rw [hq.1, hq.2]
  clear hq r v'
  show ST G mi_Ss_start 29 [(4, .int (nI 0)), (0, .ref 291), (1, .ref 62), (2, .int (nI usr)), (3, .ref b)] [] (va_up u1 41 (nI 0)) 0 0 _
  have hv5 := hv2.up (j := 41) (c := 64) (k := 0) (by decide) (by omega)
  have hm6 := hm3.go (mdf.up (v := u1) (j := 41) (x := (nI 0))) (by intro i hi; simp only [List.mem_cons, List.not_mem_nil, or_false] at hi ⊢ <;> omega)
  have e_u4 : (va_up u1 41 (nI 0)) 41 = (nI 0) := by simp [va_up]
  have e7 : (va_up u1 41 (nI 0)) 38 = nI 0 := by simp only [va_up]; exact e_u1
  generalize va_up u1 41 (nI 0) = u4 at hv5 hm6 e_u4 e7 ⊢
  refine ST.lift (fun _ _ k => T_aload_n (v := .ref 291) d_Ss_start_29 rfl (Or.inr ⟨_, rfl⟩) k) ?_
  refine S_getfield d_Ss_start_30 fg_Ss_27 (w291 _) rfl ?_
  refine ST.lift (fun _ _ k => T_iload d_Ss_start_33 rfl k) ?_
  refine ST.lift (fun _ _ k => T_iconst (v := nI 0) d_Ss_start_35 (by decide) k) ?_
  refine S_xstore (k := 0) (y := (nI 0)) (v' := va_up u4 79 (nI 0)) (Or.inr ⟨rfl, by decide, d_Ss_start_36⟩) (by decide) rfl (w296 _) (by decide) (by decide) (x296_0 _ _) ?_
  have hv9 := hv5.off (j := 79) (x := (nI 0)) (by decide)
  have hm10 := hm6.go (mdf.up (v := u4) (j := 79) (x := (nI 0))) (by intro i hi; simp only [List.mem_cons, List.not_mem_nil, or_false] at hi ⊢ <;> omega)
  have e_u8 : (va_up u4 79 (nI 0)) 79 = (nI 0) := by simp [va_up]
  have e11 : (va_up u4 79 (nI 0)) 38 = nI 0 := by simp only [va_up]; exact e7
  have e12 : (va_up u4 79 (nI 0)) 41 = nI 0 := by simp only [va_up]; exact e_u4
  generalize va_up u4 79 (nI 0) = u8 at hv9 hm10 e_u8 e11 e12 ⊢
  refine S_iincN (a := 0) (b := 1) (L' := [(4, .int (nI 1)), (0, .ref 291), (1, .ref 62), (2, .int (nI usr)), (3, .ref b)]) d_Ss_start_37 (by decide) rfl rfl rfl ?_
  refine ST.lift (fun _ _ k => T_goto (tgt := 3) d_Ss_start_40 rfl k) ?_
  refine ST.lift (fun _ _ k => T_iload d_Ss_start_3 rfl k) ?_
  refine ST.lift (fun _ _ k => T_iconst (v := nI 3) d_Ss_start_5 (by decide) k) ?_
  refine S_icmp_geN d_Ss_start_6 rfl (by omega) (by omega) (fun c => by first | exact absurd c (by omega) | exact c.elim | exact absurd c (by decide) | exact absurd (by assumption) c | exact absurd c (by assumption)) (fun _ => ?_)
  refine ST.lift (fun _ _ k => T_aload_n (v := .ref 291) d_Ss_start_9 rfl (Or.inr ⟨_, rfl⟩) k) ?_
  refine S_getfield d_Ss_start_10 fg_Ss_11 (w291 _) rfl ?_
  refine ST.lift (fun _ _ k => T_iload d_Ss_start_13 rfl k) ?_
  refine S_aaload (C0 := "PasswordGate$Bytes") d_Ss_start_15 (by decide) (w292 _) rfl (vp_in_nI (by omega) (by omega)) ?_
  refine S_virtual (as := []) (rest := []) (b := 307) d_Ss_start_16 rfl (jw_By_clear.jo (by decide)) lm_Ss_54 ji_By_clear js_By_clear (w307 _) rfl rfl rfl (Nat.le_of_ble_eq_true rfl) (by decide) (by decide) (c_By_clear G u8 307 308 320 39 ⟨w307, a308, by decide, u307_1, by decide, by decide⟩ hv9) (fun r v' hq => ?_)
  rw [hq.1, hq.2]
  clear hq r v'
  show ST G mi_Ss_start 19 [(4, .int (nI 1)), (0, .ref 291), (1, .ref 62), (2, .int (nI usr)), (3, .ref b)] [] (va_up u8 39 (nI 0)) 0 0 _
  have hv14 := hv9.up (j := 39) (c := 320) (k := 0) (by decide) (by omega)
  have hm15 := hm10.go (mdf.up (v := u8) (j := 39) (x := (nI 0))) (by intro i hi; simp only [List.mem_cons, List.not_mem_nil, or_false] at hi ⊢ <;> omega)
  have e_u13 : (va_up u8 39 (nI 0)) 39 = (nI 0) := by simp [va_up]
  have e16 : (va_up u8 39 (nI 0)) 38 = nI 0 := by simp only [va_up]; exact e11
  have e17 : (va_up u8 39 (nI 0)) 41 = nI 0 := by simp only [va_up]; exact e12
  have e18 : (va_up u8 39 (nI 0)) 79 = nI 0 := by simp only [va_up]; exact e_u8
  generalize va_up u8 39 (nI 0) = u13 at hv14 hm15 e_u13 e16 e17 e18 ⊢
  refine ST.lift (fun _ _ k => T_aload_n (v := .ref 291) d_Ss_start_19 rfl (Or.inr ⟨_, rfl⟩) k) ?_
  refine S_getfield d_Ss_start_20 fg_Ss_17 (w291 _) rfl ?_
  refine ST.lift (fun _ _ k => T_iload d_Ss_start_23 rfl k) ?_
  refine S_aaload (C0 := "PasswordGate$Bytes") d_Ss_start_25 (by decide) (w293 _) rfl (vp_in_nI (by omega) (by omega)) ?_
  refine S_virtual (as := []) (rest := []) (b := 313) d_Ss_start_26 rfl (jw_By_clear.jo (by decide)) lm_Ss_54 ji_By_clear js_By_clear (w313 _) rfl rfl rfl (Nat.le_of_ble_eq_true rfl) (by decide) (by decide) (c_By_clear G u13 313 314 64 42 ⟨w313, a314, by decide, u313_1, by decide, by decide⟩ hv14) (fun r v' hq => ?_)
  rw [hq.1, hq.2]
  clear hq r v'
  show ST G mi_Ss_start 29 [(4, .int (nI 1)), (0, .ref 291), (1, .ref 62), (2, .int (nI usr)), (3, .ref b)] [] (va_up u13 42 (nI 0)) 0 0 _
  have hv20 := hv14.up (j := 42) (c := 64) (k := 0) (by decide) (by omega)
  have hm21 := hm15.go (mdf.up (v := u13) (j := 42) (x := (nI 0))) (by intro i hi; simp only [List.mem_cons, List.not_mem_nil, or_false] at hi ⊢ <;> omega)
  have e_u19 : (va_up u13 42 (nI 0)) 42 = (nI 0) := by simp [va_up]
  have e22 : (va_up u13 42 (nI 0)) 38 = nI 0 := by simp only [va_up]; exact e16
  have e23 : (va_up u13 42 (nI 0)) 41 = nI 0 := by simp only [va_up]; exact e17
  have e24 : (va_up u13 42 (nI 0)) 79 = nI 0 := by simp only [va_up]; exact e18
  have e25 : (va_up u13 42 (nI 0)) 39 = nI 0 := by simp only [va_up]; exact e_u13
  generalize va_up u13 42 (nI 0) = u19 at hv20 hm21 e_u19 e22 e23 e24 e25 ⊢
  refine ST.lift (fun _ _ k => T_aload_n (v := .ref 291) d_Ss_start_29 rfl (Or.inr ⟨_, rfl⟩) k) ?_
  refine S_getfield d_Ss_start_30 fg_Ss_27 (w291 _) rfl ?_
  refine ST.lift (fun _ _ k => T_iload d_Ss_start_33 rfl k) ?_
  refine ST.lift (fun _ _ k => T_iconst (v := nI 0) d_Ss_start_35 (by decide) k) ?_
  refine S_xstore (k := 1) (y := (nI 0)) (v' := va_up u19 80 (nI 0)) (Or.inr ⟨rfl, by decide, d_Ss_start_36⟩) (by decide) rfl (w296 _) (by decide) (by decide) (x296_1 _ _) ?_
  have hv27 := hv20.off (j := 80) (x := (nI 0)) (by decide)
  have hm28 := hm21.go (mdf.up (v := u19) (j := 80) (x := (nI 0))) (by intro i hi; simp only [List.mem_cons, List.not_mem_nil, or_false] at hi ⊢ <;> omega)
  have e_u26 : (va_up u19 80 (nI 0)) 80 = (nI 0) := by simp [va_up]
  have e29 : (va_up u19 80 (nI 0)) 38 = nI 0 := by simp only [va_up]; exact e22
  have e30 : (va_up u19 80 (nI 0)) 41 = nI 0 := by simp only [va_up]; exact e23
  have e31 : (va_up u19 80 (nI 0)) 79 = nI 0 := by simp only [va_up]; exact e24
  have e32 : (va_up u19 80 (nI 0)) 39 = nI 0 := by simp only [va_up]; exact e25
  have e33 : (va_up u19 80 (nI 0)) 42 = nI 0 := by simp only [va_up]; exact e_u19
  generalize va_up u19 80 (nI 0) = u26 at hv27 hm28 e_u26 e29 e30 e31 e32 e33 ⊢
  refine S_iincN (a := 1) (b := 1) (L' := [(4, .int (nI 2)), (0, .ref 291), (1, .ref 62), (2, .int (nI usr)), (3, .ref b)]) d_Ss_start_37 (by decide) rfl rfl rfl ?_
  refine ST.lift (fun _ _ k => T_goto (tgt := 3) d_Ss_start_40 rfl k) ?_
  refine ST.lift (fun _ _ k => T_iload d_Ss_start_3 rfl k) ?_
  refine ST.lift (fun _ _ k => T_iconst (v := nI 3) d_Ss_start_5 (by decide) k) ?_
  refine S_icmp_geN d_Ss_start_6 rfl (by omega) (by omega) (fun c => by first | exact absurd c (by omega) | exact c.elim | exact absurd c (by decide) | exact absurd (by assumption) c | exact absurd c (by assumption)) (fun _ => ?_)
  refine ST.lift (fun _ _ k => T_aload_n (v := .ref 291) d_Ss_start_9 rfl (Or.inr ⟨_, rfl⟩) k) ?_
  refine S_getfield d_Ss_start_10 fg_Ss_11 (w291 _) rfl ?_
  refine ST.lift (fun _ _ k => T_iload d_Ss_start_13 rfl k) ?_
  refine S_aaload (C0 := "PasswordGate$Bytes") d_Ss_start_15 (by decide) (w292 _) rfl (vp_in_nI (by omega) (by omega)) ?_
  refine S_virtual (as := []) (rest := []) (b := 309) d_Ss_start_16 rfl (jw_By_clear.jo (by decide)) lm_Ss_54 ji_By_clear js_By_clear (w309 _) rfl rfl rfl (Nat.le_of_ble_eq_true rfl) (by decide) (by decide) (c_By_clear G u26 309 310 64 40 ⟨w309, a310, by decide, u309_1, by decide, by decide⟩ hv27) (fun r v' hq => ?_)
  rw [hq.1, hq.2]
  clear hq r v'
  show ST G mi_Ss_start 19 [(4, .int (nI 2)), (0, .ref 291), (1, .ref 62), (2, .int (nI usr)), (3, .ref b)] [] (va_up u26 40 (nI 0)) 0 0 _
  have hv35 := hv27.up (j := 40) (c := 64) (k := 0) (by decide) (by omega)
  have hm36 := hm28.go (mdf.up (v := u26) (j := 40) (x := (nI 0))) (by intro i hi; simp only [List.mem_cons, List.not_mem_nil, or_false] at hi ⊢ <;> omega)
  have e_u34 : (va_up u26 40 (nI 0)) 40 = (nI 0) := by simp [va_up]
  have e37 : (va_up u26 40 (nI 0)) 38 = nI 0 := by simp only [va_up]; exact e29
  have e38 : (va_up u26 40 (nI 0)) 41 = nI 0 := by simp only [va_up]; exact e30
  have e39 : (va_up u26 40 (nI 0)) 79 = nI 0 := by simp only [va_up]; exact e31
  have e40 : (va_up u26 40 (nI 0)) 39 = nI 0 := by simp only [va_up]; exact e32
  have e41 : (va_up u26 40 (nI 0)) 42 = nI 0 := by simp only [va_up]; exact e33
  have e42 : (va_up u26 40 (nI 0)) 80 = nI 0 := by simp only [va_up]; exact e_u26
  generalize va_up u26 40 (nI 0) = u34 at hv35 hm36 e_u34 e37 e38 e39 e40 e41 e42 ⊢
  refine ST.lift (fun _ _ k => T_aload_n (v := .ref 291) d_Ss_start_19 rfl (Or.inr ⟨_, rfl⟩) k) ?_
  refine S_getfield d_Ss_start_20 fg_Ss_17 (w291 _) rfl ?_
  refine ST.lift (fun _ _ k => T_iload d_Ss_start_23 rfl k) ?_
  refine S_aaload (C0 := "PasswordGate$Bytes") d_Ss_start_25 (by decide) (w293 _) rfl (vp_in_nI (by omega) (by omega)) ?_
  refine S_virtual (as := []) (rest := []) (b := 315) d_Ss_start_26 rfl (jw_By_clear.jo (by decide)) lm_Ss_54 ji_By_clear js_By_clear (w315 _) rfl rfl rfl (Nat.le_of_ble_eq_true rfl) (by decide) (by decide) (c_By_clear G u34 315 316 64 43 ⟨w315, a316, by decide, u315_1, by decide, by decide⟩ hv35) (fun r v' hq => ?_)
  rw [hq.1, hq.2]
  clear hq r v'
  show ST G mi_Ss_start 29 [(4, .int (nI 2)), (0, .ref 291), (1, .ref 62), (2, .int (nI usr)), (3, .ref b)] [] (va_up u34 43 (nI 0)) 0 0 _
  have hv44 := hv35.up (j := 43) (c := 64) (k := 0) (by decide) (by omega)
  have hm45 := hm36.go (mdf.up (v := u34) (j := 43) (x := (nI 0))) (by intro i hi; simp only [List.mem_cons, List.not_mem_nil, or_false] at hi ⊢ <;> omega)
  have e_u43 : (va_up u34 43 (nI 0)) 43 = (nI 0) := by simp [va_up]
  have e46 : (va_up u34 43 (nI 0)) 38 = nI 0 := by simp only [va_up]; exact e37
  have e47 : (va_up u34 43 (nI 0)) 41 = nI 0 := by simp only [va_up]; exact e38
  have e48 : (va_up u34 43 (nI 0)) 79 = nI 0 := by simp only [va_up]; exact e39
  have e49 : (va_up u34 43 (nI 0)) 39 = nI 0 := by simp only [va_up]; exact e40
  have e50 : (va_up u34 43 (nI 0)) 42 = nI 0 := by simp only [va_up]; exact e41
  have e51 : (va_up u34 43 (nI 0)) 80 = nI 0 := by simp only [va_up]; exact e42
  have e52 : (va_up u34 43 (nI 0)) 40 = nI 0 := by simp only [va_up]; exact e_u34
  generalize va_up u34 43 (nI 0) = u43 at hv44 hm45 e_u43 e46 e47 e48 e49 e50 e51 e52 ⊢
  refine ST.lift (fun _ _ k => T_aload_n (v := .ref 291) d_Ss_start_29 rfl (Or.inr ⟨_, rfl⟩) k) ?_
  refine S_getfield d_Ss_start_30 fg_Ss_27 (w291 _) rfl ?_
  refine ST.lift (fun _ _ k => T_iload d_Ss_start_33 rfl k) ?_
  refine ST.lift (fun _ _ k => T_iconst (v := nI 0) d_Ss_start_35 (by decide) k) ?_
  refine S_xstore (k := 2) (y := (nI 0)) (v' := va_up u43 81 (nI 0)) (Or.inr ⟨rfl, by decide, d_Ss_start_36⟩) (by decide) rfl (w296 _) (by decide) (by decide) (x296_2 _ _) ?_
  have hv54 := hv44.off (j := 81) (x := (nI 0)) (by decide)
  have hm55 := hm45.go (mdf.up (v := u43) (j := 81) (x := (nI 0))) (by intro i hi; simp only [List.mem_cons, List.not_mem_nil, or_false] at hi ⊢ <;> omega)
  have e_u53 : (va_up u43 81 (nI 0)) 81 = (nI 0) := by simp [va_up]
  have e56 : (va_up u43 81 (nI 0)) 38 = nI 0 := by simp only [va_up]; exact e46
  have e57 : (va_up u43 81 (nI 0)) 41 = nI 0 := by simp only [va_up]; exact e47
  have e58 : (va_up u43 81 (nI 0)) 79 = nI 0 := by simp only [va_up]; exact e48
  have e59 : (va_up u43 81 (nI 0)) 39 = nI 0 := by simp only [va_up]; exact e49
  have e60 : (va_up u43 81 (nI 0)) 42 = nI 0 := by simp only [va_up]; exact e50
  have e61 : (va_up u43 81 (nI 0)) 80 = nI 0 := by simp only [va_up]; exact e51
  have e62 : (va_up u43 81 (nI 0)) 40 = nI 0 := by simp only [va_up]; exact e52
  have e63 : (va_up u43 81 (nI 0)) 43 = nI 0 := by simp only [va_up]; exact e_u43
  generalize va_up u43 81 (nI 0) = u53 at hv54 hm55 e_u53 e56 e57 e58 e59 e60 e61 e62 e63 ⊢
  refine S_iincN (a := 2) (b := 1) (L' := [(4, .int (nI 3)), (0, .ref 291), (1, .ref 62), (2, .int (nI usr)), (3, .ref b)]) d_Ss_start_37 (by decide) rfl rfl rfl ?_
  refine ST.lift (fun _ _ k => T_goto (tgt := 3) d_Ss_start_40 rfl k) ?_
  refine ST.lift (fun _ _ k => T_iload d_Ss_start_3 rfl k) ?_
  refine ST.lift (fun _ _ k => T_iconst (v := nI 3) d_Ss_start_5 (by decide) k) ?_
  refine S_icmp_geN d_Ss_start_6 rfl (by omega) (by omega) (fun _ => ?_) (fun c => by first | exact absurd c (by omega) | exact c.elim | exact absurd c (by decide) | exact absurd (by assumption) c | exact absurd c (by assumption))
  refine ST.lift (fun _ _ k => T_aload_n (v := .ref 291) d_Ss_start_43 rfl (Or.inr ⟨_, rfl⟩) k) ?_
  refine ST.lift (fun _ _ k => T_iload_n d_Ss_start_44 rfl k) ?_
  refine S_putfield (v' := va_up u53 34 (nI usr)) d_Ss_start_45 (fp_Ss_57 _) (w291 _) (Nat.le_of_ble_eq_true rfl) ⟨rfl, rfl⟩ (u291_4 _ _) ?_
  have hv65 := hv54.up (j := 34) (c := 7) (k := usr) (by decide) (by omega)
  have hm66 := hm55.go (mdf.up (v := u53) (j := 34) (x := (nI usr))) (by intro i hi; simp only [List.mem_cons, List.not_mem_nil, or_false] at hi ⊢ <;> omega)
  have e_u64 : (va_up u53 34 (nI usr)) 34 = (nI usr) := by simp [va_up]
  have e67 : (va_up u53 34 (nI usr)) 38 = nI 0 := by simp only [va_up]; exact e56
  have e68 : (va_up u53 34 (nI usr)) 41 = nI 0 := by simp only [va_up]; exact e57
  have e69 : (va_up u53 34 (nI usr)) 79 = nI 0 := by simp only [va_up]; exact e58
  have e70 : (va_up u53 34 (nI usr)) 39 = nI 0 := by simp only [va_up]; exact e59
  have e71 : (va_up u53 34 (nI usr)) 42 = nI 0 := by simp only [va_up]; exact e60
  have e72 : (va_up u53 34 (nI usr)) 80 = nI 0 := by simp only [va_up]; exact e61
  have e73 : (va_up u53 34 (nI usr)) 40 = nI 0 := by simp only [va_up]; exact e62
  have e74 : (va_up u53 34 (nI usr)) 43 = nI 0 := by simp only [va_up]; exact e63
  have e75 : (va_up u53 34 (nI usr)) 81 = nI 0 := by simp only [va_up]; exact e_u53
  generalize va_up u53 34 (nI usr) = u64 at hv65 hm66 e_u64 e67 e68 e69 e70 e71 e72 e73 e74 e75 ⊢
  refine ST.lift (fun _ _ k => T_aload_n (v := .ref 291) d_Ss_start_48 rfl (Or.inr ⟨_, rfl⟩) k) ?_
  refine S_getfield d_Ss_start_49 fg_Ss_34 (w291 _) rfl ?_
  refine S_virtual (as := []) (rest := []) (b := 297) d_Ss_start_52 rfl (jw_By_clear.jo (by decide)) lm_Ss_54 ji_By_clear js_By_clear (w297 _) rfl rfl rfl (Nat.le_of_ble_eq_true rfl) (by decide) (by decide) (c_By_clear G u64 297 298 200 35 ⟨w297, a298, by decide, u297_1, by decide, by decide⟩ hv65) (fun r v' hq => ?_)
  rw [hq.1, hq.2]
  clear hq r v'
  show ST G mi_Ss_start 55 [(4, .int (nI 3)), (0, .ref 291), (1, .ref 62), (2, .int (nI usr)), (3, .ref b)] [] (va_up u64 35 (nI 0)) 0 0 _
  have hv77 := hv65.up (j := 35) (c := 200) (k := 0) (by decide) (by omega)
  have hm78 := hm66.go (mdf.up (v := u64) (j := 35) (x := (nI 0))) (by intro i hi; simp only [List.mem_cons, List.not_mem_nil, or_false] at hi ⊢ <;> omega)
  have e_u76 : (va_up u64 35 (nI 0)) 35 = (nI 0) := by simp [va_up]
  have e79 : (va_up u64 35 (nI 0)) 38 = nI 0 := by simp only [va_up]; exact e67
  have e80 : (va_up u64 35 (nI 0)) 41 = nI 0 := by simp only [va_up]; exact e68
  have e81 : (va_up u64 35 (nI 0)) 79 = nI 0 := by simp only [va_up]; exact e69
  have e82 : (va_up u64 35 (nI 0)) 39 = nI 0 := by simp only [va_up]; exact e70
  have e83 : (va_up u64 35 (nI 0)) 42 = nI 0 := by simp only [va_up]; exact e71
  have e84 : (va_up u64 35 (nI 0)) 80 = nI 0 := by simp only [va_up]; exact e72
  have e85 : (va_up u64 35 (nI 0)) 40 = nI 0 := by simp only [va_up]; exact e73
  have e86 : (va_up u64 35 (nI 0)) 43 = nI 0 := by simp only [va_up]; exact e74
  have e87 : (va_up u64 35 (nI 0)) 81 = nI 0 := by simp only [va_up]; exact e75
  have e88 : (va_up u64 35 (nI 0)) 34 = nI usr := by simp only [va_up]; exact e_u64
  generalize va_up u64 35 (nI 0) = u76 at hv77 hm78 e_u76 e79 e80 e81 e82 e83 e84 e85 e86 e87 e88 ⊢
  refine ST.lift (fun _ _ k => T_aload_n (v := .ref 291) d_Ss_start_55 rfl (Or.inr ⟨_, rfl⟩) k) ?_
  refine S_getfield d_Ss_start_56 fg_Ss_34 (w291 _) rfl ?_
  refine ST.lift (fun _ _ k => T_aload_n (v := .ref b) d_Ss_start_59 rfl (Or.inr ⟨_, rfl⟩) k) ?_
  refine S_virtual (as := [.ref b]) (rest := []) (b := 297) d_Ss_start_60 rfl (jw_By_putAll.jo (by decide)) lm_Ss_60 ji_By_putAll js_By_putAll (w297 _) rfl rfl rfl (Nat.le_of_ble_eq_true rfl) (by decide) (by decide) (c_By_putAll G u76 297 298 200 35 ⟨w297, a298, by decide, u297_1, by decide, by decide⟩ b bd bc bj y_b hv77) (fun r u89 hq => ?_)
  obtain ⟨hr, hv90, hm91⟩ := hq
  rw [hr]
  clear hr r
  have hm92 := hm78.go hm91 (by intro i hi; simp only [List.mem_cons, List.not_mem_nil, or_false] at hi ⊢ <;> omega)
  have e93 : u89 38 = nI 0 := (hm91 38 (by decide)).trans e79
  have e94 : u89 41 = nI 0 := (hm91 41 (by decide)).trans e80
  have e95 : u89 79 = nI 0 := (hm91 79 (by decide)).trans e81
  have e96 : u89 39 = nI 0 := (hm91 39 (by decide)).trans e82
  have e97 : u89 42 = nI 0 := (hm91 42 (by decide)).trans e83
  have e98 : u89 80 = nI 0 := (hm91 80 (by decide)).trans e84
  have e99 : u89 40 = nI 0 := (hm91 40 (by decide)).trans e85
  have e100 : u89 43 = nI 0 := (hm91 43 (by decide)).trans e86
  have e101 : u89 81 = nI 0 := (hm91 81 (by decide)).trans e87
  have e102 : u89 34 = nI usr := (hm91 34 (by decide)).trans e88
  show ST G mi_Ss_start 63 [(4, .int (nI 3)), (0, .ref 291), (1, .ref 62), (2, .int (nI usr)), (3, .ref b)] [] u89 0 0 _
  refine ST.lift (fun _ _ k => T_aload_n (v := .ref 291) d_Ss_start_63 rfl (Or.inr ⟨_, rfl⟩) k) ?_
  refine S_getfield d_Ss_start_64 fg_Ss_38 (w291 _) rfl ?_
  refine S_virtual (as := []) (rest := []) (b := 299) d_Ss_start_67 rfl (jw_By_clear.jo (by decide)) lm_Ss_54 ji_By_clear js_By_clear (w299 _) rfl rfl rfl (Nat.le_of_ble_eq_true rfl) (by decide) (by decide) (c_By_clear G u89 299 300 96 36 ⟨w299, a300, by decide, u299_1, by decide, by decide⟩ hv90) (fun r v' hq => ?_)
  rw [hq.1, hq.2]
  clear hq r v'
  show ST G mi_Ss_start 70 [(4, .int (nI 3)), (0, .ref 291), (1, .ref 62), (2, .int (nI usr)), (3, .ref b)] [] (va_up u89 36 (nI 0)) 0 0 _
  have hv104 := hv90.up (j := 36) (c := 96) (k := 0) (by decide) (by omega)
  have hm105 := hm92.go (mdf.up (v := u89) (j := 36) (x := (nI 0))) (by intro i hi; simp only [List.mem_cons, List.not_mem_nil, or_false] at hi ⊢ <;> omega)
  have e_u103 : (va_up u89 36 (nI 0)) 36 = (nI 0) := by simp [va_up]
  have e106 : (va_up u89 36 (nI 0)) 38 = nI 0 := by simp only [va_up]; exact e93
  have e107 : (va_up u89 36 (nI 0)) 41 = nI 0 := by simp only [va_up]; exact e94
  have e108 : (va_up u89 36 (nI 0)) 79 = nI 0 := by simp only [va_up]; exact e95
  have e109 : (va_up u89 36 (nI 0)) 39 = nI 0 := by simp only [va_up]; exact e96
  have e110 : (va_up u89 36 (nI 0)) 42 = nI 0 := by simp only [va_up]; exact e97
  have e111 : (va_up u89 36 (nI 0)) 80 = nI 0 := by simp only [va_up]; exact e98
  have e112 : (va_up u89 36 (nI 0)) 40 = nI 0 := by simp only [va_up]; exact e99
  have e113 : (va_up u89 36 (nI 0)) 43 = nI 0 := by simp only [va_up]; exact e100
  have e114 : (va_up u89 36 (nI 0)) 81 = nI 0 := by simp only [va_up]; exact e101
  have e115 : (va_up u89 36 (nI 0)) 34 = nI usr := by simp only [va_up]; exact e102
  generalize va_up u89 36 (nI 0) = u103 at hv104 hm105 e_u103 e106 e107 e108 e109 e110 e111 e112 e113 e114 e115 ⊢
  refine ST.lift (fun _ _ k => T_aload_n (v := .ref 62) d_Ss_start_70 rfl (Or.inr ⟨_, rfl⟩) k) ?_
  refine ST.lift (fun _ _ k => T_aload_n (v := .ref 291) d_Ss_start_71 rfl (Or.inr ⟨_, rfl⟩) k) ?_
  refine S_getfield d_Ss_start_72 fg_Ss_44 (w291 _) rfl ?_
  refine S_virtual (as := [.ref 303]) (rest := []) (b := 62) d_Ss_start_75 rfl (jw_Kit_nextScalar.jo (by decide)) lm_Ss_64 ji_Kit_nextScalar js_Kit_nextScalar (w62 _) rfl rfl rfl (Nat.le_of_ble_eq_true rfl) (by decide) (by decide) (c_Kit_nextScalar G u103 303 32 (by decide) a303 (by omega) (by omega) hv104) (fun r u116 hq => ?_)
  obtain ⟨hr, hv117, hm118⟩ := hq
  rw [hr]
  clear hr r
  have hm119 := hm105.go hm118 (by intro i hi; simp only [List.mem_cons, List.not_mem_nil, or_false] at hi ⊢ <;> omega)
  have e120 : u116 38 = nI 0 := (hm118 38 (by decide)).trans e106
  have e121 : u116 41 = nI 0 := (hm118 41 (by decide)).trans e107
  have e122 : u116 79 = nI 0 := (hm118 79 (by decide)).trans e108
  have e123 : u116 39 = nI 0 := (hm118 39 (by decide)).trans e109
  have e124 : u116 42 = nI 0 := (hm118 42 (by decide)).trans e110
  have e125 : u116 80 = nI 0 := (hm118 80 (by decide)).trans e111
  have e126 : u116 40 = nI 0 := (hm118 40 (by decide)).trans e112
  have e127 : u116 43 = nI 0 := (hm118 43 (by decide)).trans e113
  have e128 : u116 81 = nI 0 := (hm118 81 (by decide)).trans e114
  have e129 : u116 34 = nI usr := (hm118 34 (by decide)).trans e115
  have e130 : u116 36 = nI 0 := (hm118 36 (by decide)).trans e_u103
  show ST G mi_Ss_start 78 [(4, .int (nI 3)), (0, .ref 291), (1, .ref 62), (2, .int (nI usr)), (3, .ref b)] [] u116 0 0 _
  refine ST.lift (fun _ _ k => T_aload_n (v := .ref 62) d_Ss_start_78 rfl (Or.inr ⟨_, rfl⟩) k) ?_
  refine ST.lift (fun _ _ k => T_aload_n (v := .ref 291) d_Ss_start_79 rfl (Or.inr ⟨_, rfl⟩) k) ?_
  refine S_getfield d_Ss_start_80 fg_Ss_34 (w291 _) rfl ?_
  refine ST.lift (fun _ _ k => T_aload_n (v := .ref 62) d_Ss_start_83 rfl (Or.inr ⟨_, rfl⟩) k) ?_
  refine S_getfield d_Ss_start_84 fg_Ss_70 (w62 _) rfl ?_
  refine S_virtual (as := [.ref 297, .ref 188]) (rest := []) (b := 62) d_Ss_start_87 rfl (jw_Kit_groupOf.jo (by decide)) lm_Ss_74 ji_Kit_groupOf js_Kit_groupOf (w62 _) rfl rfl rfl (Nat.le_of_ble_eq_true rfl) (by decide) (by decide) (c_Kit_groupOf G u116 297 298 200 35 ⟨w297, a298, by decide, u297_1, by decide, by decide⟩ 188 189 190 191 192 ⟨w188, a189, a190, a191, a192, by decide, by decide, by decide, by decide⟩ hv117) (fun r u131 hq => ?_)
  obtain ⟨hr, hv132, hm133⟩ := hq
  rw [hr]
  clear hr r
  have hm134 := hm119.go hm133 (by intro i hi; simp only [List.mem_cons, List.not_mem_nil, or_false] at hi ⊢ <;> omega)
  have e135 : u131 38 = nI 0 := (hm133 38 (by decide)).trans e120
  have e136 : u131 41 = nI 0 := (hm133 41 (by decide)).trans e121
  have e137 : u131 79 = nI 0 := (hm133 79 (by decide)).trans e122
  have e138 : u131 39 = nI 0 := (hm133 39 (by decide)).trans e123
  have e139 : u131 42 = nI 0 := (hm133 42 (by decide)).trans e124
  have e140 : u131 80 = nI 0 := (hm133 80 (by decide)).trans e125
  have e141 : u131 40 = nI 0 := (hm133 40 (by decide)).trans e126
  have e142 : u131 43 = nI 0 := (hm133 43 (by decide)).trans e127
  have e143 : u131 81 = nI 0 := (hm133 81 (by decide)).trans e128
  have e144 : u131 34 = nI usr := (hm133 34 (by decide)).trans e129
  have e145 : u131 36 = nI 0 := (hm133 36 (by decide)).trans e130
  show ST G mi_Ss_start 90 [(4, .int (nI 3)), (0, .ref 291), (1, .ref 62), (2, .int (nI usr)), (3, .ref b)] [] u131 0 0 _
  refine ST.lift (fun _ _ k => T_aload_n (v := .ref 62) d_Ss_start_90 rfl (Or.inr ⟨_, rfl⟩) k) ?_
  refine S_getfield d_Ss_start_91 fg_Ss_78 (w62 _) rfl ?_
  refine ST.lift (fun _ _ k => T_aload_n (v := .ref 62) d_Ss_start_94 rfl (Or.inr ⟨_, rfl⟩) k) ?_
  refine S_getfield d_Ss_start_95 fg_Ss_70 (w62 _) rfl ?_
  refine ST.lift (fun _ _ k => T_aload_n (v := .ref 291) d_Ss_start_98 rfl (Or.inr ⟨_, rfl⟩) k) ?_
  refine S_getfield d_Ss_start_99 fg_Ss_44 (w291 _) rfl ?_
  refine ST.lift (fun _ _ k => T_aload_n (v := .ref 62) d_Ss_start_102 rfl (Or.inr ⟨_, rfl⟩) k) ?_
  refine S_getfield d_Ss_start_103 fg_Ss_70 (w62 _) rfl ?_
  refine S_virtual (as := [.ref 188, .ref 303, .ref 188]) (rest := []) (b := 77) d_Ss_start_106 rfl (jw_Cu_multiply.jo (by decide)) lm_Ss_82 ji_Cu_multiply js_Cu_multiply (w77 _) rfl rfl rfl (Nat.le_of_ble_eq_true rfl) (by decide) (by decide) (c_Cu_multiply G u131 188 189 190 191 192 ⟨w188, a189, a190, a191, a192, by decide, by decide, by decide, by decide⟩ 303 32 (by decide) a303 (by omega) 188 189 190 191 192 ⟨w188, a189, a190, a191, a192, by decide, by decide, by decide, by decide⟩ (by omega)) (fun r v' hq => ?_)
  rw [hq.1, hq.2]
  clear hq r v'
  show ST G mi_Ss_start 109 [(4, .int (nI 3)), (0, .ref 291), (1, .ref 62), (2, .int (nI usr)), (3, .ref b)] [] u131 0 0 _
  refine ST.lift (fun _ _ k => T_aload_n (v := .ref 62) d_Ss_start_109 rfl (Or.inr ⟨_, rfl⟩) k) ?_
  refine S_getfield d_Ss_start_110 fg_Ss_78 (w62 _) rfl ?_
  refine ST.lift (fun _ _ k => T_aload_n (v := .ref 62) d_Ss_start_113 rfl (Or.inr ⟨_, rfl⟩) k) ?_
  refine S_getfield d_Ss_start_114 fg_Ss_70 (w62 _) rfl ?_
  refine ST.lift (fun _ _ k => T_aload_n (v := .ref 291) d_Ss_start_117 rfl (Or.inr ⟨_, rfl⟩) k) ?_
  refine S_getfield d_Ss_start_118 fg_Ss_38 (w291 _) rfl ?_
  refine S_virtual (as := [.ref 188, .ref 299]) (rest := []) (b := 77) d_Ss_start_121 rfl (jw_Cu_code.jo (by decide)) lm_Ss_88 ji_Cu_code js_Cu_code (w77 _) rfl rfl rfl (Nat.le_of_ble_eq_true rfl) (by decide) (by decide) (c_Cu_code G u131 188 189 190 191 192 ⟨w188, a189, a190, a191, a192, by decide, by decide, by decide, by decide⟩ 299 300 96 36 ⟨w299, a300, by decide, u299_1, by decide, by decide⟩ hv132) (fun r u146 hq => ?_)
  obtain ⟨hr, hv147, hm148⟩ := hq
  rw [hr]
  clear hr r
  have hm149 := hm134.go hm148 (by intro i hi; simp only [List.mem_cons, List.not_mem_nil, or_false] at hi ⊢ <;> omega)
  have e150 : u146 38 = nI 0 := (hm148 38 (by decide)).trans e135
  have e151 : u146 41 = nI 0 := (hm148 41 (by decide)).trans e136
  have e152 : u146 79 = nI 0 := (hm148 79 (by decide)).trans e137
  have e153 : u146 39 = nI 0 := (hm148 39 (by decide)).trans e138
  have e154 : u146 42 = nI 0 := (hm148 42 (by decide)).trans e139
  have e155 : u146 80 = nI 0 := (hm148 80 (by decide)).trans e140
  have e156 : u146 40 = nI 0 := (hm148 40 (by decide)).trans e141
  have e157 : u146 43 = nI 0 := (hm148 43 (by decide)).trans e142
  have e158 : u146 81 = nI 0 := (hm148 81 (by decide)).trans e143
  have e159 : u146 34 = nI usr := (hm148 34 (by decide)).trans e144
  show ST G mi_Ss_start 124 [(4, .int (nI 3)), (0, .ref 291), (1, .ref 62), (2, .int (nI usr)), (3, .ref b)] [] u146 0 0 _
  refine ST.lift (fun _ _ k => T_aload_n (v := .ref 62) d_Ss_start_124 rfl (Or.inr ⟨_, rfl⟩) k) ?_
  refine ST.lift (fun _ _ k => T_aload_n (v := .ref 291) d_Ss_start_125 rfl (Or.inr ⟨_, rfl⟩) k) ?_
  refine S_getfield d_Ss_start_126 fg_Ss_38 (w291 _) rfl ?_
  refine S_virtual (as := [.ref 299]) (rest := []) (b := 62) d_Ss_start_129 rfl (jw_Kit_putNonce.jo (by decide)) lm_Ss_92 ji_Kit_putNonce js_Kit_putNonce (w62 _) rfl rfl rfl (Nat.le_of_ble_eq_true rfl) (by decide) (by decide) (c_Kit_putNonce G u146 299 300 96 36 ⟨w299, a300, by decide, u299_1, by decide, by decide⟩ hv147) (fun r u160 hq => ?_)
  obtain ⟨hr, hv161, hm162⟩ := hq
  rw [hr]
  clear hr r
  have hm163 := hm149.go hm162 (by intro i hi; simp only [List.mem_cons, List.not_mem_nil, or_false] at hi ⊢ <;> omega)
  have e164 : u160 38 = nI 0 := (hm162 38 (by decide)).trans e150
  have e165 : u160 41 = nI 0 := (hm162 41 (by decide)).trans e151
  have e166 : u160 79 = nI 0 := (hm162 79 (by decide)).trans e152
  have e167 : u160 39 = nI 0 := (hm162 39 (by decide)).trans e153
  have e168 : u160 42 = nI 0 := (hm162 42 (by decide)).trans e154
  have e169 : u160 80 = nI 0 := (hm162 80 (by decide)).trans e155
  have e170 : u160 40 = nI 0 := (hm162 40 (by decide)).trans e156
  have e171 : u160 43 = nI 0 := (hm162 43 (by decide)).trans e157
  have e172 : u160 81 = nI 0 := (hm162 81 (by decide)).trans e158
  have e173 : u160 34 = nI usr := (hm162 34 (by decide)).trans e159
  show ST G mi_Ss_start 132 [(4, .int (nI 3)), (0, .ref 291), (1, .ref 62), (2, .int (nI usr)), (3, .ref b)] [] u160 0 0 _
  refine ST.lift (fun _ _ k => T_aload_n (v := .ref 62) d_Ss_start_132 rfl (Or.inr ⟨_, rfl⟩) k) ?_
  refine ST.lift (fun _ _ k => T_aload_n (v := .ref 291) d_Ss_start_133 rfl (Or.inr ⟨_, rfl⟩) k) ?_
  refine S_getfield d_Ss_start_134 fg_Ss_47 (w291 _) rfl ?_
  refine S_virtual (as := [.ref 304]) (rest := []) (b := 62) d_Ss_start_137 rfl (jw_Kit_nextScalar.jo (by decide)) lm_Ss_64 ji_Kit_nextScalar js_Kit_nextScalar (w62 _) rfl rfl rfl (Nat.le_of_ble_eq_true rfl) (by decide) (by decide) (c_Kit_nextScalar G u160 304 32 (by decide) a304 (by omega) (by omega) hv161) (fun r u174 hq => ?_)
  obtain ⟨hr, hv175, hm176⟩ := hq
  rw [hr]
  clear hr r
  have hm177 := hm163.go hm176 (by intro i hi; simp only [List.mem_cons, List.not_mem_nil, or_false] at hi ⊢ <;> omega)
  have e178 : u174 38 = nI 0 := (hm176 38 (by decide)).trans e164
  have e179 : u174 41 = nI 0 := (hm176 41 (by decide)).trans e165
  have e180 : u174 79 = nI 0 := (hm176 79 (by decide)).trans e166
  have e181 : u174 39 = nI 0 := (hm176 39 (by decide)).trans e167
  have e182 : u174 42 = nI 0 := (hm176 42 (by decide)).trans e168
  have e183 : u174 80 = nI 0 := (hm176 80 (by decide)).trans e169
  have e184 : u174 40 = nI 0 := (hm176 40 (by decide)).trans e170
  have e185 : u174 43 = nI 0 := (hm176 43 (by decide)).trans e171
  have e186 : u174 81 = nI 0 := (hm176 81 (by decide)).trans e172
  have e187 : u174 34 = nI usr := (hm176 34 (by decide)).trans e173
  show ST G mi_Ss_start 140 [(4, .int (nI 3)), (0, .ref 291), (1, .ref 62), (2, .int (nI usr)), (3, .ref b)] [] u174 0 0 _
  refine ST.lift (fun _ _ k => T_aload_n (v := .ref 62) d_Ss_start_140 rfl (Or.inr ⟨_, rfl⟩) k) ?_
  refine ST.lift (fun _ _ k => T_aload_n (v := .ref 291) d_Ss_start_141 rfl (Or.inr ⟨_, rfl⟩) k) ?_
  refine S_getfield d_Ss_start_142 fg_Ss_47 (w291 _) rfl ?_
  refine ST.lift (fun _ _ k => T_aload_n (v := .ref 291) d_Ss_start_145 rfl (Or.inr ⟨_, rfl⟩) k) ?_
  refine S_getfield d_Ss_start_146 fg_Ss_38 (w291 _) rfl ?_
  refine S_virtual (as := [.ref 304, .ref 299]) (rest := []) (b := 62) d_Ss_start_149 rfl (jw_Kit_putPublic.jo (by decide)) lm_Ss_95 ji_Kit_putPublic js_Kit_putPublic (w62 _) rfl rfl rfl (Nat.le_of_ble_eq_true rfl) (by decide) (by decide) (c_Kit_putPublic G u174 304 32 (by decide) a304 (by omega) 299 300 96 36 ⟨w299, a300, by decide, u299_1, by decide, by decide⟩ (by omega) hv175) (fun r u188 hq => ?_)
  obtain ⟨hr, hv189, hm190⟩ := hq
  rw [hr]
  clear hr r
  have hm191 := hm177.go hm190 (by intro i hi; simp only [List.mem_cons, List.not_mem_nil, or_false] at hi ⊢ <;> omega)
  have e192 : u188 38 = nI 0 := (hm190 38 (by decide)).trans e178
  have e193 : u188 41 = nI 0 := (hm190 41 (by decide)).trans e179
  have e194 : u188 79 = nI 0 := (hm190 79 (by decide)).trans e180
  have e195 : u188 39 = nI 0 := (hm190 39 (by decide)).trans e181
  have e196 : u188 42 = nI 0 := (hm190 42 (by decide)).trans e182
  have e197 : u188 80 = nI 0 := (hm190 80 (by decide)).trans e183
  have e198 : u188 40 = nI 0 := (hm190 40 (by decide)).trans e184
  have e199 : u188 43 = nI 0 := (hm190 43 (by decide)).trans e185
  have e200 : u188 81 = nI 0 := (hm190 81 (by decide)).trans e186
  have e201 : u188 34 = nI usr := (hm190 34 (by decide)).trans e187
  show ST G mi_Ss_start 152 [(4, .int (nI 3)), (0, .ref 291), (1, .ref 62), (2, .int (nI usr)), (3, .ref b)] [] u188 0 0 _
  refine ST.lift (fun _ _ k => T_aload_n (v := .ref 291) d_Ss_start_152 rfl (Or.inr ⟨_, rfl⟩) k) ?_
  refine S_getfield d_Ss_start_153 fg_Ss_11 (w291 _) rfl ?_
  refine ST.lift (fun _ _ k => T_iconst (v := nI 0) d_Ss_start_156 (by decide) k) ?_
  refine S_aaload (C0 := "PasswordGate$Bytes") d_Ss_start_157 (by decide) (w292 _) rfl (vp_in_nI (by omega) (by omega)) ?_
  refine ST.lift (fun _ _ k => T_aload_n (v := .ref 291) d_Ss_start_158 rfl (Or.inr ⟨_, rfl⟩) k) ?_
  refine S_getfield d_Ss_start_159 fg_Ss_38 (w291 _) rfl ?_
  refine S_virtual (as := [.ref 299]) (rest := []) (b := 305) d_Ss_start_162 rfl (jw_By_putAll.jo (by decide)) lm_Ss_60 ji_By_putAll js_By_putAll (w305 _) rfl rfl rfl (Nat.le_of_ble_eq_true rfl) (by decide) (by decide) (c_By_putAll G u188 305 306 96 38 ⟨w305, a306, by decide, u305_1, by decide, by decide⟩ 299 300 96 36 ⟨w299, a300, by decide, u299_1, by decide, by decide⟩ hv189) (fun r u202 hq => ?_)
  obtain ⟨hr, hv203, hm204⟩ := hq
  rw [hr]
  clear hr r
  have hm205 := hm191.go hm204 (by intro i hi; simp only [List.mem_cons, List.not_mem_nil, or_false] at hi ⊢ <;> omega)
  have e206 : u202 41 = nI 0 := (hm204 41 (by decide)).trans e193
  have e207 : u202 79 = nI 0 := (hm204 79 (by decide)).trans e194
  have e208 : u202 39 = nI 0 := (hm204 39 (by decide)).trans e195
  have e209 : u202 42 = nI 0 := (hm204 42 (by decide)).trans e196
  have e210 : u202 80 = nI 0 := (hm204 80 (by decide)).trans e197
  have e211 : u202 40 = nI 0 := (hm204 40 (by decide)).trans e198
  have e212 : u202 43 = nI 0 := (hm204 43 (by decide)).trans e199
  have e213 : u202 81 = nI 0 := (hm204 81 (by decide)).trans e200
  have e214 : u202 34 = nI usr := (hm204 34 (by decide)).trans e201
  show ST G mi_Ss_start 165 [(4, .int (nI 3)), (0, .ref 291), (1, .ref 62), (2, .int (nI usr)), (3, .ref b)] [] u202 0 0 _
  exact S_vret d_Ss_start_165 rfl (by decide) (by decide) (hQ _ hv203 hm205)
set_option maxRecDepth 100000 in
set_option maxHeartbeats 4000000 in
theorem c_Ss_confirmServer_291 (G : GX) (v : Nat → Int32) (hv : okv v) : CS G mi_Ss_confirmServer [.ref 291, .ref 62, .ref 217] v (fun r v' => ∃ z : Int32, r = some (.int z) ∧ okv v' ∧ mdf [6, 7, 5, 2, 3, 1, 4, 8, 9, 10, 38, 39, 40, 41, 42, 43, 35, 36, 37, 34, 79, 80, 81] v v') := by
  refine CS.of (by decide) (Nat.le_of_ble_eq_true rfl) ?_
  generalize hQe : (fun (r : Option Value) (v' : Nat → Int32) => ∃ z : Int32, r = some (.int z) ∧ okv v' ∧ mdf [6, 7, 5, 2, 3, 1, 4, 8, 9, 10, 38, 39, 40, 41, 42, 43, 35, 36, 37, 34, 79, 80, 81] v v') = Q
  have hQ : ∀ (z : Int32) (u : Nat → Int32), okv u → mdf [6, 7, 5, 2, 3, 1, 4, 8, 9, 10, 38, 39, 40, 41, 42, 43, 35, 36, 37, 34, 79, 80, 81] v u → Q (some (.int z)) u := by rw [← hQe]; exact fun z u h1 h2 => ⟨z, rfl, h1, h2⟩
  clear hQe
  have hm : mdf [6, 7, 5, 2, 3, 1, 4, 8, 9, 10, 38, 39, 40, 41, 42, 43, 35, 36, 37, 34, 79, 80, 81] v v := mdf.rf
  show ST G mi_Ss_confirmServer 0 [(0, .ref 291), (1, .ref 62), (2, .ref 217)] [] v 0 0 Q
  refine ST.lift (fun _ _ k => T_aload_n (v := .ref 291) d_Ss_confirmServer_0 rfl (Or.inr ⟨_, rfl⟩) k) ?_
  refine S_getfield d_Ss_confirmServer_1 fg_Ss_11 (w291 _) rfl ?_
  refine ST.lift (fun _ _ k => T_iconst (v := nI 1) d_Ss_confirmServer_4 (by decide) k) ?_
  refine S_aaload (C0 := "PasswordGate$Bytes") d_Ss_confirmServer_5 (by decide) (w292 _) rfl (vp_in_nI (by omega) (by omega)) ?_
  refine S_getfield d_Ss_confirmServer_6 fg_Ss_99 (w307 _) rfl ?_
  refine ST.lift (fun _ _ k => T_astore_n (L' := [(3, .ref 308), (0, .ref 291), (1, .ref 62), (2, .ref 217)]) d_Ss_confirmServer_9 (by decide) rfl (Or.inr ⟨_, rfl⟩) k) ?_
  refine ST.lift (fun _ _ k => T_aload_n (v := .ref 62) d_Ss_confirmServer_10 rfl (Or.inr ⟨_, rfl⟩) k) ?_
  refine S_getfield d_Ss_confirmServer_11 fg_Ss_78 (w62 _) rfl ?_
  refine ST.lift (fun _ _ k => T_aload_n (v := .ref 308) d_Ss_confirmServer_14 rfl (Or.inr ⟨_, rfl⟩) k) ?_
  refine ST.lift (fun _ _ k => T_iconst (v := nI 0) d_Ss_confirmServer_15 (by decide) k) ?_
  refine ST.lift (fun _ _ k => T_aload_n (v := .ref 62) d_Ss_confirmServer_16 rfl (Or.inr ⟨_, rfl⟩) k) ?_
  refine S_getfield d_Ss_confirmServer_17 fg_Ss_70 (w62 _) rfl ?_
  refine S_virtual (as := [.ref 308, .int (nI 0), .ref 188]) (rest := []) (b := 77) d_Ss_confirmServer_20 rfl (jw_Cu_decode.jo (by decide)) lm_Ss_102 ji_Cu_decode js_Cu_decode (w77 _) rfl rfl rfl (Nat.le_of_ble_eq_true rfl) (by decide) (by decide) (c_Cu_decode G v 308 320 (by decide) a308 (by omega) 0 (by omega) 188 189 190 191 192 ⟨w188, a189, a190, a191, a192, by decide, by decide, by decide, by decide⟩ hv) (fun r u1 hq => ?_)
  obtain ⟨z4, hz4, hr, hv2, hm3⟩ := hq
  rw [hr]
  clear hr r
  have hm5 := hm.go hm3 (by intro i hi; simp only [List.mem_cons, List.not_mem_nil, or_false] at hi ⊢ <;> omega)
  show ST G mi_Ss_confirmServer 23 [(3, .ref 308), (0, .ref 291), (1, .ref 62), (2, .ref 217)] [.int (nI z4)] u1 0 0 _
  refine S_if_neN d_Ss_confirmServer_23 rfl (by omega) (fun c6 => ?_) (fun c6 => ?_)
  · refine ST.lift (fun _ _ k => T_aload_n (v := .ref 62) d_Ss_confirmServer_28 rfl (Or.inr ⟨_, rfl⟩) k) ?_
    refine S_getfield d_Ss_confirmServer_29 fg_Ss_106 (w62 _) rfl ?_
    refine ST.lift (fun _ _ k => T_aload_n (v := .ref 291) d_Ss_confirmServer_32 rfl (Or.inr ⟨_, rfl⟩) k) ?_
    refine S_getfield d_Ss_confirmServer_33 fg_Ss_44 (w291 _) rfl ?_
    refine ST.lift (fun _ _ k => T_aload_n (v := .ref 62) d_Ss_confirmServer_36 rfl (Or.inr ⟨_, rfl⟩) k) ?_
    refine S_getfield d_Ss_confirmServer_37 fg_Ss_110 (w62 _) rfl ?_
    refine S_virtual (as := [.ref 303, .ref 198]) (rest := []) (b := 183) d_Ss_confirmServer_40 rfl (jw_Sc_invert.jo (by decide)) lm_Ss_113 ji_Sc_invert js_Sc_invert (w183 _) rfl rfl rfl (Nat.le_of_ble_eq_true rfl) (by decide) (by decide) (c_Sc_invert G u1 303 32 (by decide) a303 (by omega) 198 32 (by decide) a198 (by omega) (by omega)) (fun r v' hq => ?_)
    rw [hq.1, hq.2]
    clear hq r v'
    show ST G mi_Ss_confirmServer 43 [(3, .ref 308), (0, .ref 291), (1, .ref 62), (2, .ref 217)] [] u1 0 0 _
    refine ST.lift (fun _ _ k => T_aload_n (v := .ref 62) d_Ss_confirmServer_43 rfl (Or.inr ⟨_, rfl⟩) k) ?_
    refine S_getfield d_Ss_confirmServer_44 fg_Ss_78 (w62 _) rfl ?_
    refine ST.lift (fun _ _ k => T_aload_n (v := .ref 62) d_Ss_confirmServer_47 rfl (Or.inr ⟨_, rfl⟩) k) ?_
    refine S_getfield d_Ss_confirmServer_48 fg_Ss_70 (w62 _) rfl ?_
    refine ST.lift (fun _ _ k => T_aload_n (v := .ref 62) d_Ss_confirmServer_51 rfl (Or.inr ⟨_, rfl⟩) k) ?_
    refine S_getfield d_Ss_confirmServer_52 fg_Ss_110 (w62 _) rfl ?_
    refine ST.lift (fun _ _ k => T_aload_n (v := .ref 62) d_Ss_confirmServer_55 rfl (Or.inr ⟨_, rfl⟩) k) ?_
    refine S_getfield d_Ss_confirmServer_56 fg_Ss_70 (w62 _) rfl ?_
    refine S_virtual (as := [.ref 188, .ref 198, .ref 188]) (rest := []) (b := 77) d_Ss_confirmServer_59 rfl (jw_Cu_multiply.jo (by decide)) lm_Ss_82 ji_Cu_multiply js_Cu_multiply (w77 _) rfl rfl rfl (Nat.le_of_ble_eq_true rfl) (by decide) (by decide) (c_Cu_multiply G u1 188 189 190 191 192 ⟨w188, a189, a190, a191, a192, by decide, by decide, by decide, by decide⟩ 198 32 (by decide) a198 (by omega) 188 189 190 191 192 ⟨w188, a189, a190, a191, a192, by decide, by decide, by decide, by decide⟩ (by omega)) (fun r v' hq => ?_)
    rw [hq.1, hq.2]
    clear hq r v'
    show ST G mi_Ss_confirmServer 62 [(3, .ref 308), (0, .ref 291), (1, .ref 62), (2, .ref 217)] [] u1 0 0 _
    refine ST.lift (fun _ _ k => T_aload_n (v := .ref 62) d_Ss_confirmServer_62 rfl (Or.inr ⟨_, rfl⟩) k) ?_
    refine ST.lift (fun _ _ k => T_aload_n (v := .ref 291) d_Ss_confirmServer_63 rfl (Or.inr ⟨_, rfl⟩) k) ?_
    refine S_getfield d_Ss_confirmServer_64 fg_Ss_34 (w291 _) rfl ?_
    refine ST.lift (fun _ _ k => T_aload_n (v := .ref 62) d_Ss_confirmServer_67 rfl (Or.inr ⟨_, rfl⟩) k) ?_
    refine S_getfield d_Ss_confirmServer_68 fg_Ss_70 (w62 _) rfl ?_
    refine S_virtual (as := [.ref 297, .ref 188]) (rest := []) (b := 62) d_Ss_confirmServer_71 rfl (jw_Kit_randomize.jo (by decide)) lm_Ss_119 ji_Kit_randomize js_Kit_randomize (w62 _) rfl rfl rfl (Nat.le_of_ble_eq_true rfl) (by decide) (by decide) (c_Kit_randomize G u1 297 298 200 35 ⟨w297, a298, by decide, u297_1, by decide, by decide⟩ 188 189 190 191 192 ⟨w188, a189, a190, a191, a192, by decide, by decide, by decide, by decide⟩ hv2) (fun r u7 hq => ?_)
    obtain ⟨hr, hv8, hm9⟩ := hq
    rw [hr]
    clear hr r
    have hm10 := hm5.go hm9 (by intro i hi; simp only [List.mem_cons, List.not_mem_nil, or_false] at hi ⊢ <;> omega)
    show ST G mi_Ss_confirmServer 74 [(3, .ref 308), (0, .ref 291), (1, .ref 62), (2, .ref 217)] [] u7 0 0 _
    refine ST.lift (fun _ _ k => T_aload_n (v := .ref 291) d_Ss_confirmServer_74 rfl (Or.inr ⟨_, rfl⟩) k) ?_
    refine S_getfield d_Ss_confirmServer_75 fg_Ss_41 (w291 _) rfl ?_
    refine S_virtual (as := []) (rest := []) (b := 301) d_Ss_confirmServer_78 rfl (jw_By_clear.jo (by decide)) lm_Ss_54 ji_By_clear js_By_clear (w301 _) rfl rfl rfl (Nat.le_of_ble_eq_true rfl) (by decide) (by decide) (c_By_clear G u7 301 302 128 37 ⟨w301, a302, by decide, u301_1, by decide, by decide⟩ hv8) (fun r v' hq => ?_)
    rw [hq.1, hq.2]
    clear hq r v'
    show ST G mi_Ss_confirmServer 81 [(3, .ref 308), (0, .ref 291), (1, .ref 62), (2, .ref 217)] [] (va_up u7 37 (nI 0)) 0 0 _
    have hv12 := hv8.up (j := 37) (c := 128) (k := 0) (by decide) (by omega)
    have hm13 := hm10.go (mdf.up (v := u7) (j := 37) (x := (nI 0))) (by intro i hi; simp only [List.mem_cons, List.not_mem_nil, or_false] at hi ⊢ <;> omega)
    have e_u11 : (va_up u7 37 (nI 0)) 37 = (nI 0) := by simp [va_up]
    generalize va_up u7 37 (nI 0) = u11 at hv12 hm13 e_u11 ⊢
    refine ST.lift (fun _ _ k => T_aload_n (v := .ref 62) d_Ss_confirmServer_81 rfl (Or.inr ⟨_, rfl⟩) k) ?_
    refine ST.lift (fun _ _ k => T_aload_n (v := .ref 62) d_Ss_confirmServer_82 rfl (Or.inr ⟨_, rfl⟩) k) ?_
    refine S_getfield d_Ss_confirmServer_83 fg_Ss_122 (w62 _) rfl ?_
    refine ST.lift (fun _ _ k => T_aload_n (v := .ref 308) d_Ss_confirmServer_86 rfl (Or.inr ⟨_, rfl⟩) k) ?_
    refine ST.lift (fun _ _ k => T_aload_n (v := .ref 308) d_Ss_confirmServer_87 rfl (Or.inr ⟨_, rfl⟩) k) ?_
    refine ST.lift (fun _ _ k => T_bipush (v := nI 64) d_Ss_confirmServer_88 (by decide) k) ?_
    refine ST.lift (fun _ _ k => T_aload_n (v := .ref 291) d_Ss_confirmServer_90 rfl (Or.inr ⟨_, rfl⟩) k) ?_
    refine S_getfield d_Ss_confirmServer_91 fg_Ss_41 (w291 _) rfl ?_
    refine S_virtual (as := [.ref 201, .ref 308, .ref 308, .int (nI 64), .ref 301]) (rest := []) (b := 62) d_Ss_confirmServer_94 rfl (jw_Kit_putMasked.jo (by decide)) lm_Ss_125 ji_Kit_putMasked js_Kit_putMasked (w62 _) rfl rfl rfl (Nat.le_of_ble_eq_true rfl) (by decide) (by decide) (c_Kit_putMasked G u11 201 64 (by decide) a201 (by omega) 308 320 (by decide) a308 (by omega) 308 320 (by decide) a308 (by omega) 64 (by omega) 301 302 128 37 ⟨w301, a302, by decide, u301_1, by decide, by decide⟩ (by omega) hv12) (fun r u14 hq => ?_)
    obtain ⟨hr, hv15, hm16⟩ := hq
    rw [hr]
    clear hr r
    have hm17 := hm13.go hm16 (by intro i hi; simp only [List.mem_cons, List.not_mem_nil, or_false] at hi ⊢ <;> omega)
    show ST G mi_Ss_confirmServer 97 [(3, .ref 308), (0, .ref 291), (1, .ref 62), (2, .ref 217)] [] u14 0 0 _
    refine ST.lift (fun _ _ k => T_aload_n (v := .ref 62) d_Ss_confirmServer_97 rfl (Or.inr ⟨_, rfl⟩) k) ?_
    refine ST.lift (fun _ _ k => T_aload_n (v := .ref 291) d_Ss_confirmServer_98 rfl (Or.inr ⟨_, rfl⟩) k) ?_
    refine S_getfield d_Ss_confirmServer_99 fg_Ss_41 (w291 _) rfl ?_
    refine S_getfield d_Ss_confirmServer_102 fg_Ss_99 (w301 _) rfl ?_
    refine ST.lift (fun _ _ k => T_bipush (v := nI 32) d_Ss_confirmServer_105 (by decide) k) ?_
    refine ST.lift (fun _ _ k => T_aload_n (v := .ref 291) d_Ss_confirmServer_107 rfl (Or.inr ⟨_, rfl⟩) k) ?_
    refine S_getfield d_Ss_confirmServer_108 fg_Ss_41 (w291 _) rfl ?_
    refine S_getfield d_Ss_confirmServer_111 fg_Ss_99 (w301 _) rfl ?_
    refine S_virtual (as := [.ref 302, .int (nI 32), .ref 302]) (rest := []) (b := 62) d_Ss_confirmServer_114 rfl (jw_Kit_sealEnvelope.jo (by decide)) lm_Ss_129 ji_Kit_sealEnvelope js_Kit_sealEnvelope (w62 _) rfl rfl rfl (Nat.le_of_ble_eq_true rfl) (by decide) (by decide) (c_Kit_sealEnvelope G u14 302 128 (by decide) a302 (by omega) 32 (by omega) 302 128 (by decide) a302 (by omega) hv15) (fun r u18 hq => ?_)
    obtain ⟨hr, hv19, hm20⟩ := hq
    rw [hr]
    clear hr r
    have hm21 := hm17.go hm20 (by intro i hi; simp only [List.mem_cons, List.not_mem_nil, or_false] at hi ⊢ <;> omega)
    show ST G mi_Ss_confirmServer 117 [(3, .ref 308), (0, .ref 291), (1, .ref 62), (2, .ref 217)] [] u18 0 0 _
    refine ST.lift (fun _ _ k => T_aload_n (v := .ref 291) d_Ss_confirmServer_117 rfl (Or.inr ⟨_, rfl⟩) k) ?_
    refine S_getfield d_Ss_confirmServer_118 fg_Ss_41 (w291 _) rfl ?_
    refine ST.lift (fun _ _ k => T_bipush (v := nI 64) d_Ss_confirmServer_121 (by decide) k) ?_
    refine ST.lift (fun _ _ k => T_aload_n (v := .ref 62) d_Ss_confirmServer_123 rfl (Or.inr ⟨_, rfl⟩) k) ?_
    refine S_getfield d_Ss_confirmServer_124 fg_Ss_133 (w62 _) rfl ?_
    refine ST.lift (fun _ _ k => T_iconst (v := nI 0) d_Ss_confirmServer_127 (by decide) k) ?_
    refine S_virtual (as := [.int (nI 64), .ref 205, .int (nI 0)]) (rest := []) (b := 301) d_Ss_confirmServer_128 rfl (jw_By_endsLike.jo (by decide)) lm_Ss_136 ji_By_endsLike js_By_endsLike (w301 _) rfl rfl rfl (Nat.le_of_ble_eq_true rfl) (by decide) (by decide) (c_By_endsLike G u18 301 302 128 37 ⟨w301, a302, by decide, u301_1, by decide, by decide⟩ 64 (by omega) 205 64 (by decide) a205 (by omega) 0 (by omega) hv19) (fun r u22 hq => ?_)
    obtain ⟨z25, hz25, hr, hv23, hm24⟩ := hq
    rw [hr]
    clear hr r
    have hm26 := hm21.go hm24 (by intro i hi; simp only [List.mem_cons, List.not_mem_nil, or_false] at hi ⊢ <;> omega)
    show ST G mi_Ss_confirmServer 131 [(3, .ref 308), (0, .ref 291), (1, .ref 62), (2, .ref 217)] [.int (nI z25)] u22 0 0 _
    refine S_if_neN d_Ss_confirmServer_131 rfl (by omega) (fun c27 => ?_) (fun c27 => ?_)
    · refine ST.lift (fun _ _ k => T_aload_n (v := .ref 62) d_Ss_confirmServer_136 rfl (Or.inr ⟨_, rfl⟩) k) ?_
      refine S_getfield d_Ss_confirmServer_137 fg_Ss_78 (w62 _) rfl ?_
      refine ST.lift (fun _ _ k => T_aload_n (v := .ref 291) d_Ss_confirmServer_140 rfl (Or.inr ⟨_, rfl⟩) k) ?_
      refine S_getfield d_Ss_confirmServer_141 fg_Ss_41 (w291 _) rfl ?_
      refine S_getfield d_Ss_confirmServer_144 fg_Ss_99 (w301 _) rfl ?_
      refine ST.lift (fun _ _ k => T_iconst (v := nI 0) d_Ss_confirmServer_147 (by decide) k) ?_
      refine ST.lift (fun _ _ k => T_aload_n (v := .ref 62) d_Ss_confirmServer_148 rfl (Or.inr ⟨_, rfl⟩) k) ?_
      refine S_getfield d_Ss_confirmServer_149 fg_Ss_70 (w62 _) rfl ?_
      refine S_virtual (as := [.ref 302, .int (nI 0), .ref 188]) (rest := []) (b := 77) d_Ss_confirmServer_152 rfl (jw_Cu_decode.jo (by decide)) lm_Ss_102 ji_Cu_decode js_Cu_decode (w77 _) rfl rfl rfl (Nat.le_of_ble_eq_true rfl) (by decide) (by decide) (c_Cu_decode G u22 302 128 (by decide) a302 (by omega) 0 (by omega) 188 189 190 191 192 ⟨w188, a189, a190, a191, a192, by decide, by decide, by decide, by decide⟩ hv23) (fun r u28 hq => ?_)
      obtain ⟨z31, hz31, hr, hv29, hm30⟩ := hq
      rw [hr]
      clear hr r
      have hm32 := hm26.go hm30 (by intro i hi; simp only [List.mem_cons, List.not_mem_nil, or_false] at hi ⊢ <;> omega)
      show ST G mi_Ss_confirmServer 155 [(3, .ref 308), (0, .ref 291), (1, .ref 62), (2, .ref 217)] [.int (nI z31)] u28 0 0 _
      refine S_if_eqN d_Ss_confirmServer_155 rfl (by omega) (fun c33 => ?_) (fun c33 => ?_)
      · refine ST.lift (fun _ _ k => T_iconst (v := nI 1) d_Ss_confirmServer_176 (by decide) k) ?_
        exact S_ret d_Ss_confirmServer_177 rfl rfl (by decide) (by decide) (hQ _ _ hv29 hm32)
      · refine ST.lift (fun _ _ k => T_aload_n (v := .ref 62) d_Ss_confirmServer_158 rfl (Or.inr ⟨_, rfl⟩) k) ?_
        refine S_getfield d_Ss_confirmServer_159 fg_Ss_78 (w62 _) rfl ?_
        refine ST.lift (fun _ _ k => T_aload_n (v := .ref 308) d_Ss_confirmServer_162 rfl (Or.inr ⟨_, rfl⟩) k) ?_
        refine ST.lift (fun _ _ k => T_sipush (v := nI 224) d_Ss_confirmServer_163 (by decide) k) ?_
        refine ST.lift (fun _ _ k => T_aload_n (v := .ref 62) d_Ss_confirmServer_166 rfl (Or.inr ⟨_, rfl⟩) k) ?_
        refine S_getfield d_Ss_confirmServer_167 fg_Ss_140 (w62 _) rfl ?_
        refine S_virtual (as := [.ref 308, .int (nI 224), .ref 193]) (rest := []) (b := 77) d_Ss_confirmServer_170 rfl (jw_Cu_decode.jo (by decide)) lm_Ss_102 ji_Cu_decode js_Cu_decode (w77 _) rfl rfl rfl (Nat.le_of_ble_eq_true rfl) (by decide) (by decide) (c_Cu_decode G u28 308 320 (by decide) a308 (by omega) 224 (by omega) 193 194 195 196 197 ⟨w193, a194, a195, a196, a197, by decide, by decide, by decide, by decide⟩ hv29) (fun r u34 hq => ?_)
        obtain ⟨z37, hz37, hr, hv35, hm36⟩ := hq
        rw [hr]
        clear hr r
        have hm38 := hm32.go hm36 (by intro i hi; simp only [List.mem_cons, List.not_mem_nil, or_false] at hi ⊢ <;> omega)
        show ST G mi_Ss_confirmServer 173 [(3, .ref 308), (0, .ref 291), (1, .ref 62), (2, .ref 217)] [.int (nI z37)] u34 0 0 _
        refine S_if_neN d_Ss_confirmServer_173 rfl (by omega) (fun c39 => ?_) (fun c39 => ?_)
        · refine ST.lift (fun _ _ k => T_aload_n (v := .ref 217) d_Ss_confirmServer_178 rfl (Or.inr ⟨_, rfl⟩) k) ?_
          refine ST.lift (fun _ _ k => T_aload_n (v := .ref 62) d_Ss_confirmServer_179 rfl (Or.inr ⟨_, rfl⟩) k) ?_
          refine S_getfield d_Ss_confirmServer_180 fg_Ss_143 (w62 _) rfl ?_
          refine S_getfield d_Ss_confirmServer_183 fg_Ss_99 (w203 _) rfl ?_
          refine ST.lift (fun _ _ k => T_aload_n (v := .ref 291) d_Ss_confirmServer_186 rfl (Or.inr ⟨_, rfl⟩) k) ?_
          refine S_getfield d_Ss_confirmServer_187 fg_Ss_38 (w291 _) rfl ?_
          refine S_getfield d_Ss_confirmServer_190 fg_Ss_99 (w299 _) rfl ?_
          refine ST.lift (fun _ _ k => T_aload_n (v := .ref 291) d_Ss_confirmServer_193 rfl (Or.inr ⟨_, rfl⟩) k) ?_
          refine S_getfield d_Ss_confirmServer_194 fg_Ss_41 (w291 _) rfl ?_
          refine S_getfield d_Ss_confirmServer_197 fg_Ss_99 (w301 _) rfl ?_
          refine ST.lift (fun _ _ k => T_aload_n (v := .ref 308) d_Ss_confirmServer_200 rfl (Or.inr ⟨_, rfl⟩) k) ?_
          refine S_virtual (as := [.ref 204, .ref 300, .ref 302, .ref 308]) (rest := []) (b := 217) d_Ss_confirmServer_201 rfl (jw_Ex_open.jo (by decide)) lm_Ss_146 ji_Ex_open js_Ex_open (w217 _) rfl rfl rfl (Nat.le_of_ble_eq_true rfl) (by decide) (by decide) (c_Ex_open G u34 204 32 (by decide) a204 (by omega) 300 96 (by decide) a300 (by omega) 302 128 (by decide) a302 (by omega) 308 320 (by decide) a308 (by omega) hv35) (fun r u40 hq => ?_)
          obtain ⟨hr, hv41, hm42⟩ := hq
          rw [hr]
          clear hr r
          have hm43 := hm38.go hm42 (by intro i hi; simp only [List.mem_cons, List.not_mem_nil, or_false] at hi ⊢ <;> omega)
          show ST G mi_Ss_confirmServer 204 [(3, .ref 308), (0, .ref 291), (1, .ref 62), (2, .ref 217)] [] u40 0 0 _
          refine ST.lift (fun _ _ k => T_aload_n (v := .ref 217) d_Ss_confirmServer_204 rfl (Or.inr ⟨_, rfl⟩) k) ?_
          refine ST.lift (fun _ _ k => T_aload_n (v := .ref 62) d_Ss_confirmServer_205 rfl (Or.inr ⟨_, rfl⟩) k) ?_
          refine ST.lift (fun _ _ k => T_aload_n (v := .ref 291) d_Ss_confirmServer_206 rfl (Or.inr ⟨_, rfl⟩) k) ?_
          refine S_getfield d_Ss_confirmServer_207 fg_Ss_47 (w291 _) rfl ?_
          refine ST.lift (fun _ _ k => T_aload_n (v := .ref 62) d_Ss_confirmServer_210 rfl (Or.inr ⟨_, rfl⟩) k) ?_
          refine S_getfield d_Ss_confirmServer_211 fg_Ss_140 (w62 _) rfl ?_
          refine S_virtual (as := [.ref 62, .ref 304, .ref 193]) (rest := []) (b := 217) d_Ss_confirmServer_214 rfl (jw_Ex_join.jo (by decide)) lm_Ss_152 ji_Ex_join js_Ex_join (w217 _) rfl rfl rfl (Nat.le_of_ble_eq_true rfl) (by decide) (by decide) (c_Ex_join G u40 304 32 (by decide) a304 (by omega) 193 194 195 196 197 ⟨w193, a194, a195, a196, a197, by decide, by decide, by decide, by decide⟩ (by omega) hv41) (fun r u44 hq => ?_)
          obtain ⟨hr, hv45, hm46⟩ := hq
          rw [hr]
          clear hr r
          have hm47 := hm43.go hm46 (by intro i hi; simp only [List.mem_cons, List.not_mem_nil, or_false] at hi ⊢ <;> omega)
          show ST G mi_Ss_confirmServer 217 [(3, .ref 308), (0, .ref 291), (1, .ref 62), (2, .ref 217)] [] u44 0 0 _
          refine ST.lift (fun _ _ k => T_aload_n (v := .ref 217) d_Ss_confirmServer_217 rfl (Or.inr ⟨_, rfl⟩) k) ?_
          refine ST.lift (fun _ _ k => T_aload_n (v := .ref 62) d_Ss_confirmServer_218 rfl (Or.inr ⟨_, rfl⟩) k) ?_
          refine ST.lift (fun _ _ k => T_aload_n (v := .ref 291) d_Ss_confirmServer_219 rfl (Or.inr ⟨_, rfl⟩) k) ?_
          refine S_getfield d_Ss_confirmServer_220 fg_Ss_47 (w291 _) rfl ?_
          refine ST.lift (fun _ _ k => T_aload_n (v := .ref 62) d_Ss_confirmServer_223 rfl (Or.inr ⟨_, rfl⟩) k) ?_
          refine S_getfield d_Ss_confirmServer_224 fg_Ss_70 (w62 _) rfl ?_
          refine S_virtual (as := [.ref 62, .ref 304, .ref 188]) (rest := []) (b := 217) d_Ss_confirmServer_227 rfl (jw_Ex_join.jo (by decide)) lm_Ss_152 ji_Ex_join js_Ex_join (w217 _) rfl rfl rfl (Nat.le_of_ble_eq_true rfl) (by decide) (by decide) (c_Ex_join G u44 304 32 (by decide) a304 (by omega) 188 189 190 191 192 ⟨w188, a189, a190, a191, a192, by decide, by decide, by decide, by decide⟩ (by omega) hv45) (fun r u48 hq => ?_)
          obtain ⟨hr, hv49, hm50⟩ := hq
          rw [hr]
          clear hr r
          have hm51 := hm47.go hm50 (by intro i hi; simp only [List.mem_cons, List.not_mem_nil, or_false] at hi ⊢ <;> omega)
          show ST G mi_Ss_confirmServer 230 [(3, .ref 308), (0, .ref 291), (1, .ref 62), (2, .ref 217)] [] u48 0 0 _
          refine ST.lift (fun _ _ k => T_aload_n (v := .ref 217) d_Ss_confirmServer_230 rfl (Or.inr ⟨_, rfl⟩) k) ?_
          refine ST.lift (fun _ _ k => T_aload_n (v := .ref 62) d_Ss_confirmServer_231 rfl (Or.inr ⟨_, rfl⟩) k) ?_
          refine ST.lift (fun _ _ k => T_aload_n (v := .ref 62) d_Ss_confirmServer_232 rfl (Or.inr ⟨_, rfl⟩) k) ?_
          refine S_getfield d_Ss_confirmServer_233 fg_Ss_156 (w62 _) rfl ?_
          refine ST.lift (fun _ _ k => T_aload_n (v := .ref 62) d_Ss_confirmServer_236 rfl (Or.inr ⟨_, rfl⟩) k) ?_
          refine S_getfield d_Ss_confirmServer_237 fg_Ss_140 (w62 _) rfl ?_
          refine S_virtual (as := [.ref 62, .ref 202, .ref 193]) (rest := []) (b := 217) d_Ss_confirmServer_240 rfl (jw_Ex_join.jo (by decide)) lm_Ss_152 ji_Ex_join js_Ex_join (w217 _) rfl rfl rfl (Nat.le_of_ble_eq_true rfl) (by decide) (by decide) (c_Ex_join G u48 202 32 (by decide) a202 (by omega) 193 194 195 196 197 ⟨w193, a194, a195, a196, a197, by decide, by decide, by decide, by decide⟩ (by omega) hv49) (fun r u52 hq => ?_)
          obtain ⟨hr, hv53, hm54⟩ := hq
          rw [hr]
          clear hr r
          have hm55 := hm51.go hm54 (by intro i hi; simp only [List.mem_cons, List.not_mem_nil, or_false] at hi ⊢ <;> omega)
          show ST G mi_Ss_confirmServer 243 [(3, .ref 308), (0, .ref 291), (1, .ref 62), (2, .ref 217)] [] u52 0 0 _
          refine ST.lift (fun _ _ k => T_aload_n (v := .ref 217) d_Ss_confirmServer_243 rfl (Or.inr ⟨_, rfl⟩) k) ?_
          refine ST.lift (fun _ _ k => T_aload_n (v := .ref 62) d_Ss_confirmServer_244 rfl (Or.inr ⟨_, rfl⟩) k) ?_
          refine S_virtual (as := [.ref 62]) (rest := []) (b := 217) d_Ss_confirmServer_245 rfl (jw_Ex_settle.jo (by decide)) lm_Ss_159 ji_Ex_settle js_Ex_settle (w217 _) rfl rfl rfl (Nat.le_of_ble_eq_true rfl) (by decide) (by decide) (c_Ex_settle G u52 hv53) (fun r u56 hq => ?_)
          obtain ⟨hr, hv57, hm58⟩ := hq
          rw [hr]
          clear hr r
          have hm59 := hm55.go hm58 (by intro i hi; simp only [List.mem_cons, List.not_mem_nil, or_false] at hi ⊢ <;> omega)
          show ST G mi_Ss_confirmServer 248 [(3, .ref 308), (0, .ref 291), (1, .ref 62), (2, .ref 217)] [] u56 0 0 _
          refine ST.lift (fun _ _ k => T_aload_n (v := .ref 291) d_Ss_confirmServer_248 rfl (Or.inr ⟨_, rfl⟩) k) ?_
          refine S_getfield d_Ss_confirmServer_249 fg_Ss_11 (w291 _) rfl ?_
          refine ST.lift (fun _ _ k => T_iconst (v := nI 1) d_Ss_confirmServer_252 (by decide) k) ?_
          refine S_aaload (C0 := "PasswordGate$Bytes") d_Ss_confirmServer_253 (by decide) (w292 _) rfl (vp_in_nI (by omega) (by omega)) ?_
          refine ST.lift (fun _ _ k => T_sipush (v := nI 256) d_Ss_confirmServer_254 (by decide) k) ?_
          refine ST.lift (fun _ _ k => T_aload_n (v := .ref 217) d_Ss_confirmServer_257 rfl (Or.inr ⟨_, rfl⟩) k) ?_
          refine S_getfield d_Ss_confirmServer_258 fg_Ss_163 (w217 _) rfl ?_
          refine ST.lift (fun _ _ k => T_iconst (v := nI 0) d_Ss_confirmServer_261 (by decide) k) ?_
          refine S_virtual (as := [.int (nI 256), .ref 218, .int (nI 0)]) (rest := []) (b := 307) d_Ss_confirmServer_262 rfl (jw_By_endsLike.jo (by decide)) lm_Ss_136 ji_By_endsLike js_By_endsLike (w307 _) rfl rfl rfl (Nat.le_of_ble_eq_true rfl) (by decide) (by decide) (c_By_endsLike G u56 307 308 320 39 ⟨w307, a308, by decide, u307_1, by decide, by decide⟩ 256 (by omega) 218 64 (by decide) a218 (by omega) 0 (by omega) hv57) (fun r u60 hq => ?_)
          obtain ⟨z63, hz63, hr, hv61, hm62⟩ := hq
          rw [hr]
          clear hr r
          have hm64 := hm59.go hm62 (by intro i hi; simp only [List.mem_cons, List.not_mem_nil, or_false] at hi ⊢ <;> omega)
          show ST G mi_Ss_confirmServer 265 [(3, .ref 308), (0, .ref 291), (1, .ref 62), (2, .ref 217)] [.int (nI z63)] u60 0 0 _
          refine S_if_neN d_Ss_confirmServer_265 rfl (by omega) (fun c65 => ?_) (fun c65 => ?_)
          · refine ST.lift (fun _ _ k => T_aload_n (v := .ref 291) d_Ss_confirmServer_270 rfl (Or.inr ⟨_, rfl⟩) k) ?_
            refine S_getfield d_Ss_confirmServer_271 fg_Ss_11 (w291 _) rfl ?_
            refine ST.lift (fun _ _ k => T_iconst (v := nI 2) d_Ss_confirmServer_274 (by decide) k) ?_
            refine S_aaload (C0 := "PasswordGate$Bytes") d_Ss_confirmServer_275 (by decide) (w292 _) rfl (vp_in_nI (by omega) (by omega)) ?_
            refine ST.lift (fun _ _ k => T_aload_n (v := .ref 217) d_Ss_confirmServer_276 rfl (Or.inr ⟨_, rfl⟩) k) ?_
            refine S_getfield d_Ss_confirmServer_277 fg_Ss_166 (w217 _) rfl ?_
            refine ST.lift (fun _ _ k => T_iconst (v := nI 0) d_Ss_confirmServer_280 (by decide) k) ?_
            refine ST.lift (fun _ _ k => T_bipush (v := nI 64) d_Ss_confirmServer_281 (by decide) k) ?_
            refine S_virtual (as := [.ref 219, .int (nI 0), .int (nI 64)]) (rest := []) (b := 309) d_Ss_confirmServer_283 rfl (jw_By_put.jo (by decide)) lm_Ss_169 ji_By_put js_By_put (w309 _) rfl rfl rfl (Nat.le_of_ble_eq_true rfl) (by decide) (by decide) (c_By_put G u60 309 310 64 40 ⟨w309, a310, by decide, u309_1, by decide, by decide⟩ 219 64 (by decide) a219 (by omega) 0 (by omega) 64 (by omega) hv61) (fun r u66 hq => ?_)
            obtain ⟨hr, hv67, hm68⟩ := hq
            rw [hr]
            clear hr r
            have hm69 := hm64.go hm68 (by intro i hi; simp only [List.mem_cons, List.not_mem_nil, or_false] at hi ⊢ <;> omega)
            show ST G mi_Ss_confirmServer 286 [(3, .ref 308), (0, .ref 291), (1, .ref 62), (2, .ref 217)] [] u66 0 0 _
            refine ST.lift (fun _ _ k => T_aload_n (v := .ref 291) d_Ss_confirmServer_286 rfl (Or.inr ⟨_, rfl⟩) k) ?_
            refine S_getfield d_Ss_confirmServer_287 fg_Ss_17 (w291 _) rfl ?_
            refine ST.lift (fun _ _ k => T_iconst (v := nI 0) d_Ss_confirmServer_290 (by decide) k) ?_
            refine S_aaload (C0 := "PasswordGate$Bytes") d_Ss_confirmServer_291 (by decide) (w293 _) rfl (vp_in_nI (by omega) (by omega)) ?_
            refine ST.lift (fun _ _ k => T_aload_n (v := .ref 217) d_Ss_confirmServer_292 rfl (Or.inr ⟨_, rfl⟩) k) ?_
            refine S_getfield d_Ss_confirmServer_293 fg_Ss_173 (w217 _) rfl ?_
            refine ST.lift (fun _ _ k => T_iconst (v := nI 0) d_Ss_confirmServer_296 (by decide) k) ?_
            refine ST.lift (fun _ _ k => T_bipush (v := nI 64) d_Ss_confirmServer_297 (by decide) k) ?_
            refine S_virtual (as := [.ref 220, .int (nI 0), .int (nI 64)]) (rest := []) (b := 311) d_Ss_confirmServer_299 rfl (jw_By_put.jo (by decide)) lm_Ss_169 ji_By_put js_By_put (w311 _) rfl rfl rfl (Nat.le_of_ble_eq_true rfl) (by decide) (by decide) (c_By_put G u66 311 312 64 41 ⟨w311, a312, by decide, u311_1, by decide, by decide⟩ 220 64 (by decide) a220 (by omega) 0 (by omega) 64 (by omega) hv67) (fun r u70 hq => ?_)
            obtain ⟨hr, hv71, hm72⟩ := hq
            rw [hr]
            clear hr r
            have hm73 := hm69.go hm72 (by intro i hi; simp only [List.mem_cons, List.not_mem_nil, or_false] at hi ⊢ <;> omega)
            show ST G mi_Ss_confirmServer 302 [(3, .ref 308), (0, .ref 291), (1, .ref 62), (2, .ref 217)] [] u70 0 0 _
            refine ST.lift (fun _ _ k => T_aload_n (v := .ref 291) d_Ss_confirmServer_302 rfl (Or.inr ⟨_, rfl⟩) k) ?_
            refine S_getfield d_Ss_confirmServer_303 fg_Ss_17 (w291 _) rfl ?_
            refine ST.lift (fun _ _ k => T_iconst (v := nI 2) d_Ss_confirmServer_306 (by decide) k) ?_
            refine S_aaload (C0 := "PasswordGate$Bytes") d_Ss_confirmServer_307 (by decide) (w293 _) rfl (vp_in_nI (by omega) (by omega)) ?_
            refine ST.lift (fun _ _ k => T_aload_n (v := .ref 62) d_Ss_confirmServer_308 rfl (Or.inr ⟨_, rfl⟩) k) ?_
            refine S_getfield d_Ss_confirmServer_309 fg_Ss_176 (w62 _) rfl ?_
            refine ST.lift (fun _ _ k => T_iconst (v := nI 0) d_Ss_confirmServer_312 (by decide) k) ?_
            refine ST.lift (fun _ _ k => T_bipush (v := nI 64) d_Ss_confirmServer_313 (by decide) k) ?_
            refine S_virtual (as := [.ref 206, .int (nI 0), .int (nI 64)]) (rest := []) (b := 315) d_Ss_confirmServer_315 rfl (jw_By_put.jo (by decide)) lm_Ss_169 ji_By_put js_By_put (w315 _) rfl rfl rfl (Nat.le_of_ble_eq_true rfl) (by decide) (by decide) (c_By_put G u70 315 316 64 43 ⟨w315, a316, by decide, u315_1, by decide, by decide⟩ 206 64 (by decide) a206 (by omega) 0 (by omega) 64 (by omega) hv71) (fun r u74 hq => ?_)
            obtain ⟨hr, hv75, hm76⟩ := hq
            rw [hr]
            clear hr r
            have hm77 := hm73.go hm76 (by intro i hi; simp only [List.mem_cons, List.not_mem_nil, or_false] at hi ⊢ <;> omega)
            show ST G mi_Ss_confirmServer 318 [(3, .ref 308), (0, .ref 291), (1, .ref 62), (2, .ref 217)] [] u74 0 0 _
            refine ST.lift (fun _ _ k => T_iconst (v := nI 0) d_Ss_confirmServer_318 (by decide) k) ?_
            exact S_ret d_Ss_confirmServer_319 rfl rfl (by decide) (by decide) (hQ _ _ hv75 hm77)
          · refine ST.lift (fun _ _ k => T_iconst (v := nI 4) d_Ss_confirmServer_268 (by decide) k) ?_
            exact S_ret d_Ss_confirmServer_269 rfl rfl (by decide) (by decide) (hQ _ _ hv61 hm64)
        · refine ST.lift (fun _ _ k => T_iconst (v := nI 1) d_Ss_confirmServer_176 (by decide) k) ?_
          exact S_ret d_Ss_confirmServer_177 rfl rfl (by decide) (by decide) (hQ _ _ hv35 hm38)
    · refine ST.lift (fun _ _ k => T_iconst (v := nI 3) d_Ss_confirmServer_134 (by decide) k) ?_
      exact S_ret d_Ss_confirmServer_135 rfl rfl (by decide) (by decide) (hQ _ _ hv23 hm26)
  · refine ST.lift (fun _ _ k => T_iconst (v := nI 1) d_Ss_confirmServer_26 (by decide) k) ?_
    exact S_ret d_Ss_confirmServer_27 rfl rfl (by decide) (by decide) (hQ _ _ hv2 hm5)
set_option maxRecDepth 100000 in
set_option maxHeartbeats 4000000 in
theorem c_Ss_confirmClient_291 (G : GX) (v : Nat → Int32) (hv : okv v) : CS G mi_Ss_confirmClient [.ref 291] v (fun r v' => ∃ z : Int32, r = some (.int z) ∧ okv v' ∧ mdf [38, 39, 40, 41, 42, 43, 35, 36, 37, 34, 79, 80, 81] v v') := by
  refine CS.of (by decide) (Nat.le_of_ble_eq_true rfl) ?_
  generalize hQe : (fun (r : Option Value) (v' : Nat → Int32) => ∃ z : Int32, r = some (.int z) ∧ okv v' ∧ mdf [38, 39, 40, 41, 42, 43, 35, 36, 37, 34, 79, 80, 81] v v') = Q
  have hQ : ∀ (z : Int32) (u : Nat → Int32), okv u → mdf [38, 39, 40, 41, 42, 43, 35, 36, 37, 34, 79, 80, 81] v u → Q (some (.int z)) u := by rw [← hQe]; exact fun z u h1 h2 => ⟨z, rfl, h1, h2⟩
  clear hQe
  have hm : mdf [38, 39, 40, 41, 42, 43, 35, 36, 37, 34, 79, 80, 81] v v := mdf.rf
  show ST G mi_Ss_confirmClient 0 [(0, .ref 291)] [] v 0 0 Q
  refine ST.lift (fun _ _ k => T_aload_n (v := .ref 291) d_Ss_confirmClient_0 rfl (Or.inr ⟨_, rfl⟩) k) ?_
  refine S_getfield d_Ss_confirmClient_1 fg_Ss_11 (w291 _) rfl ?_
  refine ST.lift (fun _ _ k => T_iconst (v := nI 2) d_Ss_confirmClient_4 (by decide) k) ?_
  refine S_aaload (C0 := "PasswordGate$Bytes") d_Ss_confirmClient_5 (by decide) (w292 _) rfl (vp_in_nI (by omega) (by omega)) ?_
  refine ST.lift (fun _ _ k => T_iconst (v := nI 0) d_Ss_confirmClient_6 (by decide) k) ?_
  refine ST.lift (fun _ _ k => T_aload_n (v := .ref 291) d_Ss_confirmClient_7 rfl (Or.inr ⟨_, rfl⟩) k) ?_
  refine S_getfield d_Ss_confirmClient_8 fg_Ss_20 (w291 _) rfl ?_
  refine ST.lift (fun _ _ k => T_iconst (v := nI 0) d_Ss_confirmClient_11 (by decide) k) ?_
  refine S_virtual (as := [.int (nI 0), .ref 294, .int (nI 0)]) (rest := []) (b := 309) d_Ss_confirmClient_12 rfl (jw_By_endsLike.jo (by decide)) lm_Ss_136 ji_By_endsLike js_By_endsLike (w309 _) rfl rfl rfl (Nat.le_of_ble_eq_true rfl) (by decide) (by decide) (c_By_endsLike G v 309 310 64 40 ⟨w309, a310, by decide, u309_1, by decide, by decide⟩ 0 (by omega) 294 64 (by decide) a294 (by omega) 0 (by omega) hv) (fun r u1 hq => ?_)
  obtain ⟨z4, hz4, hr, hv2, hm3⟩ := hq
  rw [hr]
  clear hr r
  have hm5 := hm.go hm3 (by intro i hi; simp only [List.mem_cons, List.not_mem_nil, or_false] at hi ⊢ <;> omega)
  show ST G mi_Ss_confirmClient 15 [(0, .ref 291)] [.int (nI z4)] u1 0 0 _
  refine S_if_neN d_Ss_confirmClient_15 rfl (by omega) (fun c6 => ?_) (fun c6 => ?_)
  · refine ST.lift (fun _ _ k => T_aload_n (v := .ref 291) d_Ss_confirmClient_20 rfl (Or.inr ⟨_, rfl⟩) k) ?_
    refine S_getfield d_Ss_confirmClient_21 fg_Ss_17 (w291 _) rfl ?_
    refine ST.lift (fun _ _ k => T_iconst (v := nI 1) d_Ss_confirmClient_24 (by decide) k) ?_
    refine S_aaload (C0 := "PasswordGate$Bytes") d_Ss_confirmClient_25 (by decide) (w293 _) rfl (vp_in_nI (by omega) (by omega)) ?_
    refine ST.lift (fun _ _ k => T_aload_n (v := .ref 291) d_Ss_confirmClient_26 rfl (Or.inr ⟨_, rfl⟩) k) ?_
    refine S_getfield d_Ss_confirmClient_27 fg_Ss_24 (w291 _) rfl ?_
    refine ST.lift (fun _ _ k => T_iconst (v := nI 0) d_Ss_confirmClient_30 (by decide) k) ?_
    refine ST.lift (fun _ _ k => T_bipush (v := nI 64) d_Ss_confirmClient_31 (by decide) k) ?_
    refine S_virtual (as := [.ref 295, .int (nI 0), .int (nI 64)]) (rest := []) (b := 313) d_Ss_confirmClient_33 rfl (jw_By_put.jo (by decide)) lm_Ss_169 ji_By_put js_By_put (w313 _) rfl rfl rfl (Nat.le_of_ble_eq_true rfl) (by decide) (by decide) (c_By_put G u1 313 314 64 42 ⟨w313, a314, by decide, u313_1, by decide, by decide⟩ 295 64 (by decide) a295 (by omega) 0 (by omega) 64 (by omega) hv2) (fun r u7 hq => ?_)
    obtain ⟨hr, hv8, hm9⟩ := hq
    rw [hr]
    clear hr r
    have hm10 := hm5.go hm9 (by intro i hi; simp only [List.mem_cons, List.not_mem_nil, or_false] at hi ⊢ <;> omega)
    show ST G mi_Ss_confirmClient 36 [(0, .ref 291)] [] u7 0 0 _
    refine ST.lift (fun _ _ k => T_iconst (v := nI 0) d_Ss_confirmClient_36 (by decide) k) ?_
    exact S_ret d_Ss_confirmClient_37 rfl rfl (by decide) (by decide) (hQ _ _ hv8 hm10)
  · refine ST.lift (fun _ _ k => T_iconst (v := nI 5) d_Ss_confirmClient_18 (by decide) k) ?_
    exact S_ret d_Ss_confirmClient_19 rfl rfl (by decide) (by decide) (hQ _ _ hv2 hm5)
set_option maxRecDepth 100000 in
set_option maxHeartbeats 4000000 in
theorem c_Ss_take_317_0 (G : GX) (v : Nat → Int32) (hv : okv v) : CS G mi_Ss_take [.ref 317, .int (nI 0)] v (fun r v' => ∃ z : Nat, z ≤ 1 ∧ r = some (.int (nI z)) ∧ okv v' ∧ mdf [82] v v') := by
  refine CS.of (by decide) (Nat.le_of_ble_eq_true rfl) ?_
  generalize hQe : (fun (r : Option Value) (v' : Nat → Int32) => ∃ z : Nat, z ≤ 1 ∧ r = some (.int (nI z)) ∧ okv v' ∧ mdf [82] v v') = Q
  have hQ : ∀ (z : Nat) (u : Nat → Int32), z ≤ 1 → okv u → mdf [82] v u → Q (some (.int (nI z))) u := by rw [← hQe]; exact fun z u hz h1 h2 => ⟨z, hz, rfl, h1, h2⟩
  clear hQe
  have hm : mdf [82] v v := mdf.rf
  show ST G mi_Ss_take 0 [(0, .ref 317), (1, .int (nI 0))] [] v 0 0 Q
  refine ST.lift (fun _ _ k => T_aload_n (v := .ref 317) d_Ss_take_0 rfl (Or.inr ⟨_, rfl⟩) k) ?_
  refine S_getfield d_Ss_take_1 fg_Ss_11 (w317 _) rfl ?_
  refine ST.lift (fun _ _ k => T_iload_n d_Ss_take_4 rfl k) ?_
  refine S_aaload (C0 := "PasswordGate$Bytes") d_Ss_take_5 (by decide) (w318 _) rfl (vp_in_nI (by omega) (by omega)) ?_
  obtain ⟨k1, hk1, ek1⟩ := hv.get (j := 48) (c := 96) (by decide)
  refine S_getfield d_Ss_take_6 fg_Ss_50 (w331 _) rfl ?_
  refine S_topi (y := nI k1) (ek1) ?_
  refine S_if_eqN d_Ss_take_9 rfl (by omega) (fun c2 => ?_) (fun c2 => ?_)
  · refine ST.lift (fun _ _ k => T_iconst (v := nI 0) d_Ss_take_21 (by decide) k) ?_
    exact S_ret d_Ss_take_22 rfl (nar_z (by omega)) (by decide) (by decide) (hQ 0 _ (by omega) hv hm)
  · refine ST.lift (fun _ _ k => T_aload_n (v := .ref 317) d_Ss_take_12 rfl (Or.inr ⟨_, rfl⟩) k) ?_
    refine S_getfield d_Ss_take_13 fg_Ss_27 (w317 _) rfl ?_
    refine ST.lift (fun _ _ k => T_iload_n d_Ss_take_16 rfl k) ?_
    refine S_xload (t := 3) (k := 0) (Or.inr ⟨rfl, d_Ss_take_17⟩) rfl (w322 _) (by decide) (by decide) ?_
    refine S_topi (y := v 82) rfl ?_
    refine S_if_eq d_Ss_take_18 rfl (fun c3 => ?_) (fun c3 => ?_)
    · refine ST.lift (fun _ _ k => T_aload_n (v := .ref 317) d_Ss_take_23 rfl (Or.inr ⟨_, rfl⟩) k) ?_
      refine S_getfield d_Ss_take_24 fg_Ss_27 (w317 _) rfl ?_
      refine ST.lift (fun _ _ k => T_iload_n d_Ss_take_27 rfl k) ?_
      refine ST.lift (fun _ _ k => T_iconst (v := nI 1) d_Ss_take_28 (by decide) k) ?_
      refine S_xstore (k := 0) (y := (nI 1)) (v' := va_up v 82 (nI 1)) (Or.inr ⟨rfl, by decide, d_Ss_take_29⟩) (by decide) rfl (w322 _) (by decide) (by decide) (x322_0 _ _) ?_
      have hv5 := hv.off (j := 82) (x := (nI 1)) (by decide)
      have hm6 := hm.go (mdf.up (v := v) (j := 82) (x := (nI 1))) (by intro i hi; simp only [List.mem_cons, List.not_mem_nil, or_false] at hi ⊢ <;> omega)
      have e_u4 : (va_up v 82 (nI 1)) 82 = (nI 1) := by simp [va_up]
      have e7 : (va_up v 82 (nI 1)) 48 = nI k1 := by simp only [va_up]; exact ek1
      generalize va_up v 82 (nI 1) = u4 at hv5 hm6 e_u4 e7 ⊢
      refine ST.lift (fun _ _ k => T_iconst (v := nI 1) d_Ss_take_30 (by decide) k) ?_
      exact S_ret d_Ss_take_31 rfl (nar_z (by omega)) (by decide) (by decide) (hQ 1 _ (by omega) hv5 hm6)
    · refine ST.lift (fun _ _ k => T_iconst (v := nI 0) d_Ss_take_21 (by decide) k) ?_
      exact S_ret d_Ss_take_22 rfl (nar_z (by omega)) (by decide) (by decide) (hQ 0 _ (by omega) hv hm)
set_option maxRecDepth 100000 in
set_option maxHeartbeats 4000000 in
theorem c_Ss_take_317_1 (G : GX) (v : Nat → Int32) (hv : okv v) : CS G mi_Ss_take [.ref 317, .int (nI 1)] v (fun r v' => ∃ z : Nat, z ≤ 1 ∧ r = some (.int (nI z)) ∧ okv v' ∧ mdf [83] v v') := by
  refine CS.of (by decide) (Nat.le_of_ble_eq_true rfl) ?_
  generalize hQe : (fun (r : Option Value) (v' : Nat → Int32) => ∃ z : Nat, z ≤ 1 ∧ r = some (.int (nI z)) ∧ okv v' ∧ mdf [83] v v') = Q
  have hQ : ∀ (z : Nat) (u : Nat → Int32), z ≤ 1 → okv u → mdf [83] v u → Q (some (.int (nI z))) u := by rw [← hQe]; exact fun z u hz h1 h2 => ⟨z, hz, rfl, h1, h2⟩
  clear hQe
  have hm : mdf [83] v v := mdf.rf
  show ST G mi_Ss_take 0 [(0, .ref 317), (1, .int (nI 1))] [] v 0 0 Q
  refine ST.lift (fun _ _ k => T_aload_n (v := .ref 317) d_Ss_take_0 rfl (Or.inr ⟨_, rfl⟩) k) ?_
  refine S_getfield d_Ss_take_1 fg_Ss_11 (w317 _) rfl ?_
  refine ST.lift (fun _ _ k => T_iload_n d_Ss_take_4 rfl k) ?_
  refine S_aaload (C0 := "PasswordGate$Bytes") d_Ss_take_5 (by decide) (w318 _) rfl (vp_in_nI (by omega) (by omega)) ?_
  obtain ⟨k1, hk1, ek1⟩ := hv.get (j := 49) (c := 320) (by decide)
  refine S_getfield d_Ss_take_6 fg_Ss_50 (w333 _) rfl ?_
  refine S_topi (y := nI k1) (ek1) ?_
  refine S_if_eqN d_Ss_take_9 rfl (by omega) (fun c2 => ?_) (fun c2 => ?_)
  · refine ST.lift (fun _ _ k => T_iconst (v := nI 0) d_Ss_take_21 (by decide) k) ?_
    exact S_ret d_Ss_take_22 rfl (nar_z (by omega)) (by decide) (by decide) (hQ 0 _ (by omega) hv hm)
  · refine ST.lift (fun _ _ k => T_aload_n (v := .ref 317) d_Ss_take_12 rfl (Or.inr ⟨_, rfl⟩) k) ?_
    refine S_getfield d_Ss_take_13 fg_Ss_27 (w317 _) rfl ?_
    refine ST.lift (fun _ _ k => T_iload_n d_Ss_take_16 rfl k) ?_
    refine S_xload (t := 3) (k := 1) (Or.inr ⟨rfl, d_Ss_take_17⟩) rfl (w322 _) (by decide) (by decide) ?_
    refine S_topi (y := v 83) rfl ?_
    refine S_if_eq d_Ss_take_18 rfl (fun c3 => ?_) (fun c3 => ?_)
    · refine ST.lift (fun _ _ k => T_aload_n (v := .ref 317) d_Ss_take_23 rfl (Or.inr ⟨_, rfl⟩) k) ?_
      refine S_getfield d_Ss_take_24 fg_Ss_27 (w317 _) rfl ?_
      refine ST.lift (fun _ _ k => T_iload_n d_Ss_take_27 rfl k) ?_
      refine ST.lift (fun _ _ k => T_iconst (v := nI 1) d_Ss_take_28 (by decide) k) ?_
      refine S_xstore (k := 1) (y := (nI 1)) (v' := va_up v 83 (nI 1)) (Or.inr ⟨rfl, by decide, d_Ss_take_29⟩) (by decide) rfl (w322 _) (by decide) (by decide) (x322_1 _ _) ?_
      have hv5 := hv.off (j := 83) (x := (nI 1)) (by decide)
      have hm6 := hm.go (mdf.up (v := v) (j := 83) (x := (nI 1))) (by intro i hi; simp only [List.mem_cons, List.not_mem_nil, or_false] at hi ⊢ <;> omega)
      have e_u4 : (va_up v 83 (nI 1)) 83 = (nI 1) := by simp [va_up]
      have e7 : (va_up v 83 (nI 1)) 49 = nI k1 := by simp only [va_up]; exact ek1
      generalize va_up v 83 (nI 1) = u4 at hv5 hm6 e_u4 e7 ⊢
      refine ST.lift (fun _ _ k => T_iconst (v := nI 1) d_Ss_take_30 (by decide) k) ?_
      exact S_ret d_Ss_take_31 rfl (nar_z (by omega)) (by decide) (by decide) (hQ 1 _ (by omega) hv5 hm6)
    · refine ST.lift (fun _ _ k => T_iconst (v := nI 0) d_Ss_take_21 (by decide) k) ?_
      exact S_ret d_Ss_take_22 rfl (nar_z (by omega)) (by decide) (by decide) (hQ 0 _ (by omega) hv hm)
set_option maxRecDepth 100000 in
set_option maxHeartbeats 4000000 in
theorem c_Ss_take_317_2 (G : GX) (v : Nat → Int32) (hv : okv v) : CS G mi_Ss_take [.ref 317, .int (nI 2)] v (fun r v' => ∃ z : Nat, z ≤ 1 ∧ r = some (.int (nI z)) ∧ okv v' ∧ mdf [84] v v') := by
  refine CS.of (by decide) (Nat.le_of_ble_eq_true rfl) ?_
  generalize hQe : (fun (r : Option Value) (v' : Nat → Int32) => ∃ z : Nat, z ≤ 1 ∧ r = some (.int (nI z)) ∧ okv v' ∧ mdf [84] v v') = Q
  have hQ : ∀ (z : Nat) (u : Nat → Int32), z ≤ 1 → okv u → mdf [84] v u → Q (some (.int (nI z))) u := by rw [← hQe]; exact fun z u hz h1 h2 => ⟨z, hz, rfl, h1, h2⟩
  clear hQe
  have hm : mdf [84] v v := mdf.rf
  show ST G mi_Ss_take 0 [(0, .ref 317), (1, .int (nI 2))] [] v 0 0 Q
  refine ST.lift (fun _ _ k => T_aload_n (v := .ref 317) d_Ss_take_0 rfl (Or.inr ⟨_, rfl⟩) k) ?_
  refine S_getfield d_Ss_take_1 fg_Ss_11 (w317 _) rfl ?_
  refine ST.lift (fun _ _ k => T_iload_n d_Ss_take_4 rfl k) ?_
  refine S_aaload (C0 := "PasswordGate$Bytes") d_Ss_take_5 (by decide) (w318 _) rfl (vp_in_nI (by omega) (by omega)) ?_
  obtain ⟨k1, hk1, ek1⟩ := hv.get (j := 50) (c := 64) (by decide)
  refine S_getfield d_Ss_take_6 fg_Ss_50 (w335 _) rfl ?_
  refine S_topi (y := nI k1) (ek1) ?_
  refine S_if_eqN d_Ss_take_9 rfl (by omega) (fun c2 => ?_) (fun c2 => ?_)
  · refine ST.lift (fun _ _ k => T_iconst (v := nI 0) d_Ss_take_21 (by decide) k) ?_
    exact S_ret d_Ss_take_22 rfl (nar_z (by omega)) (by decide) (by decide) (hQ 0 _ (by omega) hv hm)
  · refine ST.lift (fun _ _ k => T_aload_n (v := .ref 317) d_Ss_take_12 rfl (Or.inr ⟨_, rfl⟩) k) ?_
    refine S_getfield d_Ss_take_13 fg_Ss_27 (w317 _) rfl ?_
    refine ST.lift (fun _ _ k => T_iload_n d_Ss_take_16 rfl k) ?_
    refine S_xload (t := 3) (k := 2) (Or.inr ⟨rfl, d_Ss_take_17⟩) rfl (w322 _) (by decide) (by decide) ?_
    refine S_topi (y := v 84) rfl ?_
    refine S_if_eq d_Ss_take_18 rfl (fun c3 => ?_) (fun c3 => ?_)
    · refine ST.lift (fun _ _ k => T_aload_n (v := .ref 317) d_Ss_take_23 rfl (Or.inr ⟨_, rfl⟩) k) ?_
      refine S_getfield d_Ss_take_24 fg_Ss_27 (w317 _) rfl ?_
      refine ST.lift (fun _ _ k => T_iload_n d_Ss_take_27 rfl k) ?_
      refine ST.lift (fun _ _ k => T_iconst (v := nI 1) d_Ss_take_28 (by decide) k) ?_
      refine S_xstore (k := 2) (y := (nI 1)) (v' := va_up v 84 (nI 1)) (Or.inr ⟨rfl, by decide, d_Ss_take_29⟩) (by decide) rfl (w322 _) (by decide) (by decide) (x322_2 _ _) ?_
      have hv5 := hv.off (j := 84) (x := (nI 1)) (by decide)
      have hm6 := hm.go (mdf.up (v := v) (j := 84) (x := (nI 1))) (by intro i hi; simp only [List.mem_cons, List.not_mem_nil, or_false] at hi ⊢ <;> omega)
      have e_u4 : (va_up v 84 (nI 1)) 84 = (nI 1) := by simp [va_up]
      have e7 : (va_up v 84 (nI 1)) 50 = nI k1 := by simp only [va_up]; exact ek1
      generalize va_up v 84 (nI 1) = u4 at hv5 hm6 e_u4 e7 ⊢
      refine ST.lift (fun _ _ k => T_iconst (v := nI 1) d_Ss_take_30 (by decide) k) ?_
      exact S_ret d_Ss_take_31 rfl (nar_z (by omega)) (by decide) (by decide) (hQ 1 _ (by omega) hv5 hm6)
    · refine ST.lift (fun _ _ k => T_iconst (v := nI 0) d_Ss_take_21 (by decide) k) ?_
      exact S_ret d_Ss_take_22 rfl (nar_z (by omega)) (by decide) (by decide) (hQ 0 _ (by omega) hv hm)
set_option maxRecDepth 100000 in
set_option maxHeartbeats 4000000 in
theorem c_Ss_start_317 (G : GX) (v : Nat → Int32) (usr : Nat) (b_usr : usr ≤ 7) (b bd bc bj : Nat) (y_b : isBy b bd bc bj) (hv : okv v) : CS G mi_Ss_start [.ref 317, .ref 62, .int (nI usr), .ref b] v (fun r v' => r = none ∧ okv v' ∧ mdf [6, 7, 5, 2, 3, 1, 4, 48, 49, 50, 51, 52, 53, 45, 46, 47, 44, 82, 83, 84] v v') := by
  refine CS.of (by decide) (Nat.le_of_ble_eq_true rfl) ?_
  generalize hQe : (fun (r : Option Value) (v' : Nat → Int32) => r = none ∧ okv v' ∧ mdf [6, 7, 5, 2, 3, 1, 4, 48, 49, 50, 51, 52, 53, 45, 46, 47, 44, 82, 83, 84] v v') = Q
  have hQ : ∀ u, okv u → mdf [6, 7, 5, 2, 3, 1, 4, 48, 49, 50, 51, 52, 53, 45, 46, 47, 44, 82, 83, 84] v u → Q none u := by rw [← hQe]; exact fun u h1 h2 => ⟨rfl, h1, h2⟩
  clear hQe
  have hm : mdf [6, 7, 5, 2, 3, 1, 4, 48, 49, 50, 51, 52, 53, 45, 46, 47, 44, 82, 83, 84] v v := mdf.rf
  have l_b := y_b.2.2.2.2.2
  show ST G mi_Ss_start 0 [(0, .ref 317), (1, .ref 62), (2, .int (nI usr)), (3, .ref b)] [] v 0 0 Q
  refine ST.lift (fun _ _ k => T_iconst (v := nI 0) d_Ss_start_0 (by decide) k) ?_
  refine ST.lift (fun _ _ k => T_istore (L' := [(4, .int (nI 0)), (0, .ref 317), (1, .ref 62), (2, .int (nI usr)), (3, .ref b)]) d_Ss_start_1 (by decide) rfl k) ?_
  refine ST.lift (fun _ _ k => T_iload d_Ss_start_3 rfl k) ?_
  refine ST.lift (fun _ _ k => T_iconst (v := nI 3) d_Ss_start_5 (by decide) k) ?_
  refine S_icmp_geN d_Ss_start_6 rfl (by omega) (by omega) (fun c => by first | exact absurd c (by omega) | exact c.elim | exact absurd c (by decide) | exact absurd (by assumption) c | exact absurd c (by assumption)) (fun _ => ?_)
  refine ST.lift (fun _ _ k => T_aload_n (v := .ref 317) d_Ss_start_9 rfl (Or.inr ⟨_, rfl⟩) k) ?_
  refine S_getfield d_Ss_start_10 fg_Ss_11 (w317 _) rfl ?_
  refine ST.lift (fun _ _ k => T_iload d_Ss_start_13 rfl k) ?_
  refine S_aaload (C0 := "PasswordGate$Bytes") d_Ss_start_15 (by decide) (w318 _) rfl (vp_in_nI (by omega) (by omega)) ?_
  refine S_virtual (as := []) (rest := []) (b := 331) d_Ss_start_16 rfl (jw_By_clear.jo (by decide)) lm_Ss_54 ji_By_clear js_By_clear (w331 _) rfl rfl rfl (Nat.le_of_ble_eq_true rfl) (by decide) (by decide) (c_By_clear G v 331 332 96 48 ⟨w331, a332, by decide, u331_1, by decide, by decide⟩ hv) (fun r v' hq => ?_)
  rw [hq.1, hq.2]
  clear hq r v'
  show ST G mi_Ss_start 19 [(4, .int (nI 0)), (0, .ref 317), (1, .ref 62), (2, .int (nI usr)), (3, .ref b)] [] (va_up v 48 (nI 0)) 0 0 _
  have hv2 := hv.up (j := 48) (c := 96) (k := 0) (by decide) (by omega)
  have hm3 := hm.go (mdf.up (v := v) (j := 48) (x := (nI 0))) (by intro i hi; simp only [List.mem_cons, List.not_mem_nil, or_false] at hi ⊢ <;> omega)
  have e_u1 : (va_up v 48 (nI 0)) 48 = (nI 0) := by simp [va_up]
  generalize va_up v 48 (nI 0) = u1 at hv2 hm3 e_u1 ⊢
  refine ST.lift (fun _ _ k => T_aload_n (v := .ref 317) d_Ss_start_19 rfl (Or.inr ⟨_, rfl⟩) k) ?_
  refine S_getfield d_Ss_start_20 fg_Ss_17 (w317 _) rfl ?_
  refine ST.lift (fun _ _ k => T_iload d_Ss_start_23 rfl k) ?_
  refine S_aaload (C0 := "PasswordGate$Bytes") d_Ss_start_25 (by decide) (w319 _) rfl (vp_in_nI (by omega) (by omega)) ?_
  refine S_virtual (as := []) (rest := []) (b := 337) d_Ss_start_26 rfl (jw_By_clear.jo (by decide)) lm_Ss_54 ji_By_clear js_By_clear (w337 _) rfl rfl rfl (Nat.le_of_ble_eq_true rfl) (by decide) (by decide) (c_By_clear G u1 337 338 64 51 ⟨w337, a338, by decide, u337_1, by decide, by decide⟩ hv2) (fun r v' hq => ?_)
  rw [hq.1, hq.2]
  clear hq r v'
  show ST G mi_Ss_start 29 [(4, .int (nI 0)), (0, .ref 317), (1, .ref 62), (2, .int (nI usr)), (3, .ref b)] [] (va_up u1 51 (nI 0)) 0 0 _
  have hv5 := hv2.up (j := 51) (c := 64) (k := 0) (by decide) (by omega)
  have hm6 := hm3.go (mdf.up (v := u1) (j := 51) (x := (nI 0))) (by intro i hi; simp only [List.mem_cons, List.not_mem_nil, or_false] at hi ⊢ <;> omega)
  have e_u4 : (va_up u1 51 (nI 0)) 51 = (nI 0) := by simp [va_up]
  have e7 : (va_up u1 51 (nI 0)) 48 = nI 0 := by simp only [va_up]; exact e_u1
  generalize va_up u1 51 (nI 0) = u4 at hv5 hm6 e_u4 e7 ⊢
  refine ST.lift (fun _ _ k => T_aload_n (v := .ref 317) d_Ss_start_29 rfl (Or.inr ⟨_, rfl⟩) k) ?_
  refine S_getfield d_Ss_start_30 fg_Ss_27 (w317 _) rfl ?_
  refine ST.lift (fun _ _ k => T_iload d_Ss_start_33 rfl k) ?_
  refine ST.lift (fun _ _ k => T_iconst (v := nI 0) d_Ss_start_35 (by decide) k) ?_
  refine S_xstore (k := 0) (y := (nI 0)) (v' := va_up u4 82 (nI 0)) (Or.inr ⟨rfl, by decide, d_Ss_start_36⟩) (by decide) rfl (w322 _) (by decide) (by decide) (x322_0 _ _) ?_
  have hv9 := hv5.off (j := 82) (x := (nI 0)) (by decide)
  have hm10 := hm6.go (mdf.up (v := u4) (j := 82) (x := (nI 0))) (by intro i hi; simp only [List.mem_cons, List.not_mem_nil, or_false] at hi ⊢ <;> omega)
  have e_u8 : (va_up u4 82 (nI 0)) 82 = (nI 0) := by simp [va_up]
  have e11 : (va_up u4 82 (nI 0)) 48 = nI 0 := by simp only [va_up]; exact e7
  have e12 : (va_up u4 82 (nI 0)) 51 = nI 0 := by simp only [va_up]; exact e_u4
  generalize va_up u4 82 (nI 0) = u8 at hv9 hm10 e_u8 e11 e12 ⊢
  refine S_iincN (a := 0) (b := 1) (L' := [(4, .int (nI 1)), (0, .ref 317), (1, .ref 62), (2, .int (nI usr)), (3, .ref b)]) d_Ss_start_37 (by decide) rfl rfl rfl ?_
  refine ST.lift (fun _ _ k => T_goto (tgt := 3) d_Ss_start_40 rfl k) ?_
  refine ST.lift (fun _ _ k => T_iload d_Ss_start_3 rfl k) ?_
  refine ST.lift (fun _ _ k => T_iconst (v := nI 3) d_Ss_start_5 (by decide) k) ?_
  refine S_icmp_geN d_Ss_start_6 rfl (by omega) (by omega) (fun c => by first | exact absurd c (by omega) | exact c.elim | exact absurd c (by decide) | exact absurd (by assumption) c | exact absurd c (by assumption)) (fun _ => ?_)
  refine ST.lift (fun _ _ k => T_aload_n (v := .ref 317) d_Ss_start_9 rfl (Or.inr ⟨_, rfl⟩) k) ?_
  refine S_getfield d_Ss_start_10 fg_Ss_11 (w317 _) rfl ?_
  refine ST.lift (fun _ _ k => T_iload d_Ss_start_13 rfl k) ?_
  refine S_aaload (C0 := "PasswordGate$Bytes") d_Ss_start_15 (by decide) (w318 _) rfl (vp_in_nI (by omega) (by omega)) ?_
  refine S_virtual (as := []) (rest := []) (b := 333) d_Ss_start_16 rfl (jw_By_clear.jo (by decide)) lm_Ss_54 ji_By_clear js_By_clear (w333 _) rfl rfl rfl (Nat.le_of_ble_eq_true rfl) (by decide) (by decide) (c_By_clear G u8 333 334 320 49 ⟨w333, a334, by decide, u333_1, by decide, by decide⟩ hv9) (fun r v' hq => ?_)
  rw [hq.1, hq.2]
  clear hq r v'
  show ST G mi_Ss_start 19 [(4, .int (nI 1)), (0, .ref 317), (1, .ref 62), (2, .int (nI usr)), (3, .ref b)] [] (va_up u8 49 (nI 0)) 0 0 _
  have hv14 := hv9.up (j := 49) (c := 320) (k := 0) (by decide) (by omega)
  have hm15 := hm10.go (mdf.up (v := u8) (j := 49) (x := (nI 0))) (by intro i hi; simp only [List.mem_cons, List.not_mem_nil, or_false] at hi ⊢ <;> omega)
  have e_u13 : (va_up u8 49 (nI 0)) 49 = (nI 0) := by simp [va_up]
  have e16 : (va_up u8 49 (nI 0)) 48 = nI 0 := by simp only [va_up]; exact e11
  have e17 : (va_up u8 49 (nI 0)) 51 = nI 0 := by simp only [va_up]; exact e12
  have e18 : (va_up u8 49 (nI 0)) 82 = nI 0 := by simp only [va_up]; exact e_u8
  generalize va_up u8 49 (nI 0) = u13 at hv14 hm15 e_u13 e16 e17 e18 ⊢
  refine ST.lift (fun _ _ k => T_aload_n (v := .ref 317) d_Ss_start_19 rfl (Or.inr ⟨_, rfl⟩) k) ?_
  refine S_getfield d_Ss_start_20 fg_Ss_17 (w317 _) rfl ?_
  refine ST.lift (fun _ _ k => T_iload d_Ss_start_23 rfl k) ?_
  refine S_aaload (C0 := "PasswordGate$Bytes") d_Ss_start_25 (by decide) (w319 _) rfl (vp_in_nI (by omega) (by omega)) ?_
  refine S_virtual (as := []) (rest := []) (b := 339) d_Ss_start_26 rfl (jw_By_clear.jo (by decide)) lm_Ss_54 ji_By_clear js_By_clear (w339 _) rfl rfl rfl (Nat.le_of_ble_eq_true rfl) (by decide) (by decide) (c_By_clear G u13 339 340 64 52 ⟨w339, a340, by decide, u339_1, by decide, by decide⟩ hv14) (fun r v' hq => ?_)
  rw [hq.1, hq.2]
  clear hq r v'
  show ST G mi_Ss_start 29 [(4, .int (nI 1)), (0, .ref 317), (1, .ref 62), (2, .int (nI usr)), (3, .ref b)] [] (va_up u13 52 (nI 0)) 0 0 _
  have hv20 := hv14.up (j := 52) (c := 64) (k := 0) (by decide) (by omega)
  have hm21 := hm15.go (mdf.up (v := u13) (j := 52) (x := (nI 0))) (by intro i hi; simp only [List.mem_cons, List.not_mem_nil, or_false] at hi ⊢ <;> omega)
  have e_u19 : (va_up u13 52 (nI 0)) 52 = (nI 0) := by simp [va_up]
  have e22 : (va_up u13 52 (nI 0)) 48 = nI 0 := by simp only [va_up]; exact e16
  have e23 : (va_up u13 52 (nI 0)) 51 = nI 0 := by simp only [va_up]; exact e17
  have e24 : (va_up u13 52 (nI 0)) 82 = nI 0 := by simp only [va_up]; exact e18
  have e25 : (va_up u13 52 (nI 0)) 49 = nI 0 := by simp only [va_up]; exact e_u13
  generalize va_up u13 52 (nI 0) = u19 at hv20 hm21 e_u19 e22 e23 e24 e25 ⊢
  refine ST.lift (fun _ _ k => T_aload_n (v := .ref 317) d_Ss_start_29 rfl (Or.inr ⟨_, rfl⟩) k) ?_
  refine S_getfield d_Ss_start_30 fg_Ss_27 (w317 _) rfl ?_
  refine ST.lift (fun _ _ k => T_iload d_Ss_start_33 rfl k) ?_
  refine ST.lift (fun _ _ k => T_iconst (v := nI 0) d_Ss_start_35 (by decide) k) ?_
  refine S_xstore (k := 1) (y := (nI 0)) (v' := va_up u19 83 (nI 0)) (Or.inr ⟨rfl, by decide, d_Ss_start_36⟩) (by decide) rfl (w322 _) (by decide) (by decide) (x322_1 _ _) ?_
  have hv27 := hv20.off (j := 83) (x := (nI 0)) (by decide)
  have hm28 := hm21.go (mdf.up (v := u19) (j := 83) (x := (nI 0))) (by intro i hi; simp only [List.mem_cons, List.not_mem_nil, or_false] at hi ⊢ <;> omega)
  have e_u26 : (va_up u19 83 (nI 0)) 83 = (nI 0) := by simp [va_up]
  have e29 : (va_up u19 83 (nI 0)) 48 = nI 0 := by simp only [va_up]; exact e22
  have e30 : (va_up u19 83 (nI 0)) 51 = nI 0 := by simp only [va_up]; exact e23
  have e31 : (va_up u19 83 (nI 0)) 82 = nI 0 := by simp only [va_up]; exact e24
  have e32 : (va_up u19 83 (nI 0)) 49 = nI 0 := by simp only [va_up]; exact e25
  have e33 : (va_up u19 83 (nI 0)) 52 = nI 0 := by simp only [va_up]; exact e_u19
  generalize va_up u19 83 (nI 0) = u26 at hv27 hm28 e_u26 e29 e30 e31 e32 e33 ⊢
  refine S_iincN (a := 1) (b := 1) (L' := [(4, .int (nI 2)), (0, .ref 317), (1, .ref 62), (2, .int (nI usr)), (3, .ref b)]) d_Ss_start_37 (by decide) rfl rfl rfl ?_
  refine ST.lift (fun _ _ k => T_goto (tgt := 3) d_Ss_start_40 rfl k) ?_
  refine ST.lift (fun _ _ k => T_iload d_Ss_start_3 rfl k) ?_
  refine ST.lift (fun _ _ k => T_iconst (v := nI 3) d_Ss_start_5 (by decide) k) ?_
  refine S_icmp_geN d_Ss_start_6 rfl (by omega) (by omega) (fun c => by first | exact absurd c (by omega) | exact c.elim | exact absurd c (by decide) | exact absurd (by assumption) c | exact absurd c (by assumption)) (fun _ => ?_)
  refine ST.lift (fun _ _ k => T_aload_n (v := .ref 317) d_Ss_start_9 rfl (Or.inr ⟨_, rfl⟩) k) ?_
  refine S_getfield d_Ss_start_10 fg_Ss_11 (w317 _) rfl ?_
  refine ST.lift (fun _ _ k => T_iload d_Ss_start_13 rfl k) ?_
  refine S_aaload (C0 := "PasswordGate$Bytes") d_Ss_start_15 (by decide) (w318 _) rfl (vp_in_nI (by omega) (by omega)) ?_
  refine S_virtual (as := []) (rest := []) (b := 335) d_Ss_start_16 rfl (jw_By_clear.jo (by decide)) lm_Ss_54 ji_By_clear js_By_clear (w335 _) rfl rfl rfl (Nat.le_of_ble_eq_true rfl) (by decide) (by decide) (c_By_clear G u26 335 336 64 50 ⟨w335, a336, by decide, u335_1, by decide, by decide⟩ hv27) (fun r v' hq => ?_)
  rw [hq.1, hq.2]
  clear hq r v'
  show ST G mi_Ss_start 19 [(4, .int (nI 2)), (0, .ref 317), (1, .ref 62), (2, .int (nI usr)), (3, .ref b)] [] (va_up u26 50 (nI 0)) 0 0 _
  have hv35 := hv27.up (j := 50) (c := 64) (k := 0) (by decide) (by omega)
  have hm36 := hm28.go (mdf.up (v := u26) (j := 50) (x := (nI 0))) (by intro i hi; simp only [List.mem_cons, List.not_mem_nil, or_false] at hi ⊢ <;> omega)
  have e_u34 : (va_up u26 50 (nI 0)) 50 = (nI 0) := by simp [va_up]
  have e37 : (va_up u26 50 (nI 0)) 48 = nI 0 := by simp only [va_up]; exact e29
  have e38 : (va_up u26 50 (nI 0)) 51 = nI 0 := by simp only [va_up]; exact e30
  have e39 : (va_up u26 50 (nI 0)) 82 = nI 0 := by simp only [va_up]; exact e31
  have e40 : (va_up u26 50 (nI 0)) 49 = nI 0 := by simp only [va_up]; exact e32
  have e41 : (va_up u26 50 (nI 0)) 52 = nI 0 := by simp only [va_up]; exact e33
  have e42 : (va_up u26 50 (nI 0)) 83 = nI 0 := by simp only [va_up]; exact e_u26
  generalize va_up u26 50 (nI 0) = u34 at hv35 hm36 e_u34 e37 e38 e39 e40 e41 e42 ⊢
  refine ST.lift (fun _ _ k => T_aload_n (v := .ref 317) d_Ss_start_19 rfl (Or.inr ⟨_, rfl⟩) k) ?_
  refine S_getfield d_Ss_start_20 fg_Ss_17 (w317 _) rfl ?_
  refine ST.lift (fun _ _ k => T_iload d_Ss_start_23 rfl k) ?_
  refine S_aaload (C0 := "PasswordGate$Bytes") d_Ss_start_25 (by decide) (w319 _) rfl (vp_in_nI (by omega) (by omega)) ?_
  refine S_virtual (as := []) (rest := []) (b := 341) d_Ss_start_26 rfl (jw_By_clear.jo (by decide)) lm_Ss_54 ji_By_clear js_By_clear (w341 _) rfl rfl rfl (Nat.le_of_ble_eq_true rfl) (by decide) (by decide) (c_By_clear G u34 341 342 64 53 ⟨w341, a342, by decide, u341_1, by decide, by decide⟩ hv35) (fun r v' hq => ?_)
  rw [hq.1, hq.2]
  clear hq r v'
  show ST G mi_Ss_start 29 [(4, .int (nI 2)), (0, .ref 317), (1, .ref 62), (2, .int (nI usr)), (3, .ref b)] [] (va_up u34 53 (nI 0)) 0 0 _
  have hv44 := hv35.up (j := 53) (c := 64) (k := 0) (by decide) (by omega)
  have hm45 := hm36.go (mdf.up (v := u34) (j := 53) (x := (nI 0))) (by intro i hi; simp only [List.mem_cons, List.not_mem_nil, or_false] at hi ⊢ <;> omega)
  have e_u43 : (va_up u34 53 (nI 0)) 53 = (nI 0) := by simp [va_up]
  have e46 : (va_up u34 53 (nI 0)) 48 = nI 0 := by simp only [va_up]; exact e37
  have e47 : (va_up u34 53 (nI 0)) 51 = nI 0 := by simp only [va_up]; exact e38
  have e48 : (va_up u34 53 (nI 0)) 82 = nI 0 := by simp only [va_up]; exact e39
  have e49 : (va_up u34 53 (nI 0)) 49 = nI 0 := by simp only [va_up]; exact e40
  have e50 : (va_up u34 53 (nI 0)) 52 = nI 0 := by simp only [va_up]; exact e41
  have e51 : (va_up u34 53 (nI 0)) 83 = nI 0 := by simp only [va_up]; exact e42
  have e52 : (va_up u34 53 (nI 0)) 50 = nI 0 := by simp only [va_up]; exact e_u34
  generalize va_up u34 53 (nI 0) = u43 at hv44 hm45 e_u43 e46 e47 e48 e49 e50 e51 e52 ⊢
  refine ST.lift (fun _ _ k => T_aload_n (v := .ref 317) d_Ss_start_29 rfl (Or.inr ⟨_, rfl⟩) k) ?_
  refine S_getfield d_Ss_start_30 fg_Ss_27 (w317 _) rfl ?_
  refine ST.lift (fun _ _ k => T_iload d_Ss_start_33 rfl k) ?_
  refine ST.lift (fun _ _ k => T_iconst (v := nI 0) d_Ss_start_35 (by decide) k) ?_
  refine S_xstore (k := 2) (y := (nI 0)) (v' := va_up u43 84 (nI 0)) (Or.inr ⟨rfl, by decide, d_Ss_start_36⟩) (by decide) rfl (w322 _) (by decide) (by decide) (x322_2 _ _) ?_
  have hv54 := hv44.off (j := 84) (x := (nI 0)) (by decide)
  have hm55 := hm45.go (mdf.up (v := u43) (j := 84) (x := (nI 0))) (by intro i hi; simp only [List.mem_cons, List.not_mem_nil, or_false] at hi ⊢ <;> omega)
  have e_u53 : (va_up u43 84 (nI 0)) 84 = (nI 0) := by simp [va_up]
  have e56 : (va_up u43 84 (nI 0)) 48 = nI 0 := by simp only [va_up]; exact e46
  have e57 : (va_up u43 84 (nI 0)) 51 = nI 0 := by simp only [va_up]; exact e47
  have e58 : (va_up u43 84 (nI 0)) 82 = nI 0 := by simp only [va_up]; exact e48
  have e59 : (va_up u43 84 (nI 0)) 49 = nI 0 := by simp only [va_up]; exact e49
  have e60 : (va_up u43 84 (nI 0)) 52 = nI 0 := by simp only [va_up]; exact e50
  have e61 : (va_up u43 84 (nI 0)) 83 = nI 0 := by simp only [va_up]; exact e51
  have e62 : (va_up u43 84 (nI 0)) 50 = nI 0 := by simp only [va_up]; exact e52
  have e63 : (va_up u43 84 (nI 0)) 53 = nI 0 := by simp only [va_up]; exact e_u43
  generalize va_up u43 84 (nI 0) = u53 at hv54 hm55 e_u53 e56 e57 e58 e59 e60 e61 e62 e63 ⊢
  refine S_iincN (a := 2) (b := 1) (L' := [(4, .int (nI 3)), (0, .ref 317), (1, .ref 62), (2, .int (nI usr)), (3, .ref b)]) d_Ss_start_37 (by decide) rfl rfl rfl ?_
  refine ST.lift (fun _ _ k => T_goto (tgt := 3) d_Ss_start_40 rfl k) ?_
  refine ST.lift (fun _ _ k => T_iload d_Ss_start_3 rfl k) ?_
  refine ST.lift (fun _ _ k => T_iconst (v := nI 3) d_Ss_start_5 (by decide) k) ?_
  refine S_icmp_geN d_Ss_start_6 rfl (by omega) (by omega) (fun _ => ?_) (fun c => by first | exact absurd c (by omega) | exact c.elim | exact absurd c (by decide) | exact absurd (by assumption) c | exact absurd c (by assumption))
  refine ST.lift (fun _ _ k => T_aload_n (v := .ref 317) d_Ss_start_43 rfl (Or.inr ⟨_, rfl⟩) k) ?_
  refine ST.lift (fun _ _ k => T_iload_n d_Ss_start_44 rfl k) ?_
  refine S_putfield (v' := va_up u53 44 (nI usr)) d_Ss_start_45 (fp_Ss_57 _) (w317 _) (Nat.le_of_ble_eq_true rfl) ⟨rfl, rfl⟩ (u317_4 _ _) ?_
  have hv65 := hv54.up (j := 44) (c := 7) (k := usr) (by decide) (by omega)
  have hm66 := hm55.go (mdf.up (v := u53) (j := 44) (x := (nI usr))) (by intro i hi; simp only [List.mem_cons, List.not_mem_nil, or_false] at hi ⊢ <;> omega)
  have e_u64 : (va_up u53 44 (nI usr)) 44 = (nI usr) := by simp [va_up]
  have e67 : (va_up u53 44 (nI usr)) 48 = nI 0 := by simp only [va_up]; exact e56
  have e68 : (va_up u53 44 (nI usr)) 51 = nI 0 := by simp only [va_up]; exact e57
  have e69 : (va_up u53 44 (nI usr)) 82 = nI 0 := by simp only [va_up]; exact e58
  have e70 : (va_up u53 44 (nI usr)) 49 = nI 0 := by simp only [va_up]; exact e59
  have e71 : (va_up u53 44 (nI usr)) 52 = nI 0 := by simp only [va_up]; exact e60
  have e72 : (va_up u53 44 (nI usr)) 83 = nI 0 := by simp only [va_up]; exact e61
  have e73 : (va_up u53 44 (nI usr)) 50 = nI 0 := by simp only [va_up]; exact e62
  have e74 : (va_up u53 44 (nI usr)) 53 = nI 0 := by simp only [va_up]; exact e63
  have e75 : (va_up u53 44 (nI usr)) 84 = nI 0 := by simp only [va_up]; exact e_u53
  generalize va_up u53 44 (nI usr) = u64 at hv65 hm66 e_u64 e67 e68 e69 e70 e71 e72 e73 e74 e75 ⊢
  refine ST.lift (fun _ _ k => T_aload_n (v := .ref 317) d_Ss_start_48 rfl (Or.inr ⟨_, rfl⟩) k) ?_
  refine S_getfield d_Ss_start_49 fg_Ss_34 (w317 _) rfl ?_
  refine S_virtual (as := []) (rest := []) (b := 323) d_Ss_start_52 rfl (jw_By_clear.jo (by decide)) lm_Ss_54 ji_By_clear js_By_clear (w323 _) rfl rfl rfl (Nat.le_of_ble_eq_true rfl) (by decide) (by decide) (c_By_clear G u64 323 324 200 45 ⟨w323, a324, by decide, u323_1, by decide, by decide⟩ hv65) (fun r v' hq => ?_)
  rw [hq.1, hq.2]
  clear hq r v'
  show ST G mi_Ss_start 55 [(4, .int (nI 3)), (0, .ref 317), (1, .ref 62), (2, .int (nI usr)), (3, .ref b)] [] (va_up u64 45 (nI 0)) 0 0 _
  have hv77 := hv65.up (j := 45) (c := 200) (k := 0) (by decide) (by omega)
  have hm78 := hm66.go (mdf.up (v := u64) (j := 45) (x := (nI 0))) (by intro i hi; simp only [List.mem_cons, List.not_mem_nil, or_false] at hi ⊢ <;> omega)
  have e_u76 : (va_up u64 45 (nI 0)) 45 = (nI 0) := by simp [va_up]
  have e79 : (va_up u64 45 (nI 0)) 48 = nI 0 := by simp only [va_up]; exact e67
  have e80 : (va_up u64 45 (nI 0)) 51 = nI 0 := by simp only [va_up]; exact e68
  have e81 : (va_up u64 45 (nI 0)) 82 = nI 0 := by simp only [va_up]; exact e69
  have e82 : (va_up u64 45 (nI 0)) 49 = nI 0 := by simp only [va_up]; exact e70
  have e83 : (va_up u64 45 (nI 0)) 52 = nI 0 := by simp only [va_up]; exact e71
  have e84 : (va_up u64 45 (nI 0)) 83 = nI 0 := by simp only [va_up]; exact e72
  have e85 : (va_up u64 45 (nI 0)) 50 = nI 0 := by simp only [va_up]; exact e73
  have e86 : (va_up u64 45 (nI 0)) 53 = nI 0 := by simp only [va_up]; exact e74
  have e87 : (va_up u64 45 (nI 0)) 84 = nI 0 := by simp only [va_up]; exact e75
  have e88 : (va_up u64 45 (nI 0)) 44 = nI usr := by simp only [va_up]; exact e_u64
  generalize va_up u64 45 (nI 0) = u76 at hv77 hm78 e_u76 e79 e80 e81 e82 e83 e84 e85 e86 e87 e88 ⊢
  refine ST.lift (fun _ _ k => T_aload_n (v := .ref 317) d_Ss_start_55 rfl (Or.inr ⟨_, rfl⟩) k) ?_
  refine S_getfield d_Ss_start_56 fg_Ss_34 (w317 _) rfl ?_
  refine ST.lift (fun _ _ k => T_aload_n (v := .ref b) d_Ss_start_59 rfl (Or.inr ⟨_, rfl⟩) k) ?_
  refine S_virtual (as := [.ref b]) (rest := []) (b := 323) d_Ss_start_60 rfl (jw_By_putAll.jo (by decide)) lm_Ss_60 ji_By_putAll js_By_putAll (w323 _) rfl rfl rfl (Nat.le_of_ble_eq_true rfl) (by decide) (by decide) (c_By_putAll G u76 323 324 200 45 ⟨w323, a324, by decide, u323_1, by decide, by decide⟩ b bd bc bj y_b hv77) (fun r u89 hq => ?_)
  obtain ⟨hr, hv90, hm91⟩ := hq
  rw [hr]
  clear hr r
  have hm92 := hm78.go hm91 (by intro i hi; simp only [List.mem_cons, List.not_mem_nil, or_false] at hi ⊢ <;> omega)
  have e93 : u89 48 = nI 0 := (hm91 48 (by decide)).trans e79
  have e94 : u89 51 = nI 0 := (hm91 51 (by decide)).trans e80
  have e95 : u89 82 = nI 0 := (hm91 82 (by decide)).trans e81
  have e96 : u89 49 = nI 0 := (hm91 49 (by decide)).trans e82
  have e97 : u89 52 = nI 0 := (hm91 52 (by decide)).trans e83
  have e98 : u89 83 = nI 0 := (hm91 83 (by decide)).trans e84
  have e99 : u89 50 = nI 0 := (hm91 50 (by decide)).trans e85
  have e100 : u89 53 = nI 0 := (hm91 53 (by decide)).trans e86
  have e101 : u89 84 = nI 0 := (hm91 84 (by decide)).trans e87
  have e102 : u89 44 = nI usr := (hm91 44 (by decide)).trans e88
  show ST G mi_Ss_start 63 [(4, .int (nI 3)), (0, .ref 317), (1, .ref 62), (2, .int (nI usr)), (3, .ref b)] [] u89 0 0 _
  refine ST.lift (fun _ _ k => T_aload_n (v := .ref 317) d_Ss_start_63 rfl (Or.inr ⟨_, rfl⟩) k) ?_
  refine S_getfield d_Ss_start_64 fg_Ss_38 (w317 _) rfl ?_
  refine S_virtual (as := []) (rest := []) (b := 325) d_Ss_start_67 rfl (jw_By_clear.jo (by decide)) lm_Ss_54 ji_By_clear js_By_clear (w325 _) rfl rfl rfl (Nat.le_of_ble_eq_true rfl) (by decide) (by decide) (c_By_clear G u89 325 326 96 46 ⟨w325, a326, by decide, u325_1, by decide, by decide⟩ hv90) (fun r v' hq => ?_)
  rw [hq.1, hq.2]
  clear hq r v'
  show ST G mi_Ss_start 70 [(4, .int (nI 3)), (0, .ref 317), (1, .ref 62), (2, .int (nI usr)), (3, .ref b)] [] (va_up u89 46 (nI 0)) 0 0 _
  have hv104 := hv90.up (j := 46) (c := 96) (k := 0) (by decide) (by omega)
  have hm105 := hm92.go (mdf.up (v := u89) (j := 46) (x := (nI 0))) (by intro i hi; simp only [List.mem_cons, List.not_mem_nil, or_false] at hi ⊢ <;> omega)
  have e_u103 : (va_up u89 46 (nI 0)) 46 = (nI 0) := by simp [va_up]
  have e106 : (va_up u89 46 (nI 0)) 48 = nI 0 := by simp only [va_up]; exact e93
  have e107 : (va_up u89 46 (nI 0)) 51 = nI 0 := by simp only [va_up]; exact e94
  have e108 : (va_up u89 46 (nI 0)) 82 = nI 0 := by simp only [va_up]; exact e95
  have e109 : (va_up u89 46 (nI 0)) 49 = nI 0 := by simp only [va_up]; exact e96
  have e110 : (va_up u89 46 (nI 0)) 52 = nI 0 := by simp only [va_up]; exact e97
  have e111 : (va_up u89 46 (nI 0)) 83 = nI 0 := by simp only [va_up]; exact e98
  have e112 : (va_up u89 46 (nI 0)) 50 = nI 0 := by simp only [va_up]; exact e99
  have e113 : (va_up u89 46 (nI 0)) 53 = nI 0 := by simp only [va_up]; exact e100
  have e114 : (va_up u89 46 (nI 0)) 84 = nI 0 := by simp only [va_up]; exact e101
  have e115 : (va_up u89 46 (nI 0)) 44 = nI usr := by simp only [va_up]; exact e102
  generalize va_up u89 46 (nI 0) = u103 at hv104 hm105 e_u103 e106 e107 e108 e109 e110 e111 e112 e113 e114 e115 ⊢
  refine ST.lift (fun _ _ k => T_aload_n (v := .ref 62) d_Ss_start_70 rfl (Or.inr ⟨_, rfl⟩) k) ?_
  refine ST.lift (fun _ _ k => T_aload_n (v := .ref 317) d_Ss_start_71 rfl (Or.inr ⟨_, rfl⟩) k) ?_
  refine S_getfield d_Ss_start_72 fg_Ss_44 (w317 _) rfl ?_
  refine S_virtual (as := [.ref 329]) (rest := []) (b := 62) d_Ss_start_75 rfl (jw_Kit_nextScalar.jo (by decide)) lm_Ss_64 ji_Kit_nextScalar js_Kit_nextScalar (w62 _) rfl rfl rfl (Nat.le_of_ble_eq_true rfl) (by decide) (by decide) (c_Kit_nextScalar G u103 329 32 (by decide) a329 (by omega) (by omega) hv104) (fun r u116 hq => ?_)
  obtain ⟨hr, hv117, hm118⟩ := hq
  rw [hr]
  clear hr r
  have hm119 := hm105.go hm118 (by intro i hi; simp only [List.mem_cons, List.not_mem_nil, or_false] at hi ⊢ <;> omega)
  have e120 : u116 48 = nI 0 := (hm118 48 (by decide)).trans e106
  have e121 : u116 51 = nI 0 := (hm118 51 (by decide)).trans e107
  have e122 : u116 82 = nI 0 := (hm118 82 (by decide)).trans e108
  have e123 : u116 49 = nI 0 := (hm118 49 (by decide)).trans e109
  have e124 : u116 52 = nI 0 := (hm118 52 (by decide)).trans e110
  have e125 : u116 83 = nI 0 := (hm118 83 (by decide)).trans e111
  have e126 : u116 50 = nI 0 := (hm118 50 (by decide)).trans e112
  have e127 : u116 53 = nI 0 := (hm118 53 (by decide)).trans e113
  have e128 : u116 84 = nI 0 := (hm118 84 (by decide)).trans e114
  have e129 : u116 44 = nI usr := (hm118 44 (by decide)).trans e115
  have e130 : u116 46 = nI 0 := (hm118 46 (by decide)).trans e_u103
  show ST G mi_Ss_start 78 [(4, .int (nI 3)), (0, .ref 317), (1, .ref 62), (2, .int (nI usr)), (3, .ref b)] [] u116 0 0 _
  refine ST.lift (fun _ _ k => T_aload_n (v := .ref 62) d_Ss_start_78 rfl (Or.inr ⟨_, rfl⟩) k) ?_
  refine ST.lift (fun _ _ k => T_aload_n (v := .ref 317) d_Ss_start_79 rfl (Or.inr ⟨_, rfl⟩) k) ?_
  refine S_getfield d_Ss_start_80 fg_Ss_34 (w317 _) rfl ?_
  refine ST.lift (fun _ _ k => T_aload_n (v := .ref 62) d_Ss_start_83 rfl (Or.inr ⟨_, rfl⟩) k) ?_
  refine S_getfield d_Ss_start_84 fg_Ss_70 (w62 _) rfl ?_
  refine S_virtual (as := [.ref 323, .ref 188]) (rest := []) (b := 62) d_Ss_start_87 rfl (jw_Kit_groupOf.jo (by decide)) lm_Ss_74 ji_Kit_groupOf js_Kit_groupOf (w62 _) rfl rfl rfl (Nat.le_of_ble_eq_true rfl) (by decide) (by decide) (c_Kit_groupOf G u116 323 324 200 45 ⟨w323, a324, by decide, u323_1, by decide, by decide⟩ 188 189 190 191 192 ⟨w188, a189, a190, a191, a192, by decide, by decide, by decide, by decide⟩ hv117) (fun r u131 hq => ?_)
  obtain ⟨hr, hv132, hm133⟩ := hq
  rw [hr]
  clear hr r
  have hm134 := hm119.go hm133 (by intro i hi; simp only [List.mem_cons, List.not_mem_nil, or_false] at hi ⊢ <;> omega)
  have e135 : u131 48 = nI 0 := (hm133 48 (by decide)).trans e120
  have e136 : u131 51 = nI 0 := (hm133 51 (by decide)).trans e121
  have e137 : u131 82 = nI 0 := (hm133 82 (by decide)).trans e122
  have e138 : u131 49 = nI 0 := (hm133 49 (by decide)).trans e123
  have e139 : u131 52 = nI 0 := (hm133 52 (by decide)).trans e124
  have e140 : u131 83 = nI 0 := (hm133 83 (by decide)).trans e125
  have e141 : u131 50 = nI 0 := (hm133 50 (by decide)).trans e126
  have e142 : u131 53 = nI 0 := (hm133 53 (by decide)).trans e127
  have e143 : u131 84 = nI 0 := (hm133 84 (by decide)).trans e128
  have e144 : u131 44 = nI usr := (hm133 44 (by decide)).trans e129
  have e145 : u131 46 = nI 0 := (hm133 46 (by decide)).trans e130
  show ST G mi_Ss_start 90 [(4, .int (nI 3)), (0, .ref 317), (1, .ref 62), (2, .int (nI usr)), (3, .ref b)] [] u131 0 0 _
  refine ST.lift (fun _ _ k => T_aload_n (v := .ref 62) d_Ss_start_90 rfl (Or.inr ⟨_, rfl⟩) k) ?_
  refine S_getfield d_Ss_start_91 fg_Ss_78 (w62 _) rfl ?_
  refine ST.lift (fun _ _ k => T_aload_n (v := .ref 62) d_Ss_start_94 rfl (Or.inr ⟨_, rfl⟩) k) ?_
  refine S_getfield d_Ss_start_95 fg_Ss_70 (w62 _) rfl ?_
  refine ST.lift (fun _ _ k => T_aload_n (v := .ref 317) d_Ss_start_98 rfl (Or.inr ⟨_, rfl⟩) k) ?_
  refine S_getfield d_Ss_start_99 fg_Ss_44 (w317 _) rfl ?_
  refine ST.lift (fun _ _ k => T_aload_n (v := .ref 62) d_Ss_start_102 rfl (Or.inr ⟨_, rfl⟩) k) ?_
  refine S_getfield d_Ss_start_103 fg_Ss_70 (w62 _) rfl ?_
  refine S_virtual (as := [.ref 188, .ref 329, .ref 188]) (rest := []) (b := 77) d_Ss_start_106 rfl (jw_Cu_multiply.jo (by decide)) lm_Ss_82 ji_Cu_multiply js_Cu_multiply (w77 _) rfl rfl rfl (Nat.le_of_ble_eq_true rfl) (by decide) (by decide) (c_Cu_multiply G u131 188 189 190 191 192 ⟨w188, a189, a190, a191, a192, by decide, by decide, by decide, by decide⟩ 329 32 (by decide) a329 (by omega) 188 189 190 191 192 ⟨w188, a189, a190, a191, a192, by decide, by decide, by decide, by decide⟩ (by omega)) (fun r v' hq => ?_)
  rw [hq.1, hq.2]
  clear hq r v'
  show ST G mi_Ss_start 109 [(4, .int (nI 3)), (0, .ref 317), (1, .ref 62), (2, .int (nI usr)), (3, .ref b)] [] u131 0 0 _
  refine ST.lift (fun _ _ k => T_aload_n (v := .ref 62) d_Ss_start_109 rfl (Or.inr ⟨_, rfl⟩) k) ?_
  refine S_getfield d_Ss_start_110 fg_Ss_78 (w62 _) rfl ?_
  refine ST.lift (fun _ _ k => T_aload_n (v := .ref 62) d_Ss_start_113 rfl (Or.inr ⟨_, rfl⟩) k) ?_
  refine S_getfield d_Ss_start_114 fg_Ss_70 (w62 _) rfl ?_
  refine ST.lift (fun _ _ k => T_aload_n (v := .ref 317) d_Ss_start_117 rfl (Or.inr ⟨_, rfl⟩) k) ?_
  refine S_getfield d_Ss_start_118 fg_Ss_38 (w317 _) rfl ?_
  refine S_virtual (as := [.ref 188, .ref 325]) (rest := []) (b := 77) d_Ss_start_121 rfl (jw_Cu_code.jo (by decide)) lm_Ss_88 ji_Cu_code js_Cu_code (w77 _) rfl rfl rfl (Nat.le_of_ble_eq_true rfl) (by decide) (by decide) (c_Cu_code G u131 188 189 190 191 192 ⟨w188, a189, a190, a191, a192, by decide, by decide, by decide, by decide⟩ 325 326 96 46 ⟨w325, a326, by decide, u325_1, by decide, by decide⟩ hv132) (fun r u146 hq => ?_)
  obtain ⟨hr, hv147, hm148⟩ := hq
  rw [hr]
  clear hr r
  have hm149 := hm134.go hm148 (by intro i hi; simp only [List.mem_cons, List.not_mem_nil, or_false] at hi ⊢ <;> omega)
  have e150 : u146 48 = nI 0 := (hm148 48 (by decide)).trans e135
  have e151 : u146 51 = nI 0 := (hm148 51 (by decide)).trans e136
  have e152 : u146 82 = nI 0 := (hm148 82 (by decide)).trans e137
  have e153 : u146 49 = nI 0 := (hm148 49 (by decide)).trans e138
  have e154 : u146 52 = nI 0 := (hm148 52 (by decide)).trans e139
  have e155 : u146 83 = nI 0 := (hm148 83 (by decide)).trans e140
  have e156 : u146 50 = nI 0 := (hm148 50 (by decide)).trans e141
  have e157 : u146 53 = nI 0 := (hm148 53 (by decide)).trans e142
  have e158 : u146 84 = nI 0 := (hm148 84 (by decide)).trans e143
  have e159 : u146 44 = nI usr := (hm148 44 (by decide)).trans e144
  show ST G mi_Ss_start 124 [(4, .int (nI 3)), (0, .ref 317), (1, .ref 62), (2, .int (nI usr)), (3, .ref b)] [] u146 0 0 _
  refine ST.lift (fun _ _ k => T_aload_n (v := .ref 62) d_Ss_start_124 rfl (Or.inr ⟨_, rfl⟩) k) ?_
  refine ST.lift (fun _ _ k => T_aload_n (v := .ref 317) d_Ss_start_125 rfl (Or.inr ⟨_, rfl⟩) k) ?_
  refine S_getfield d_Ss_start_126 fg_Ss_38 (w317 _) rfl ?_
  refine S_virtual (as := [.ref 325]) (rest := []) (b := 62) d_Ss_start_129 rfl (jw_Kit_putNonce.jo (by decide)) lm_Ss_92 ji_Kit_putNonce js_Kit_putNonce (w62 _) rfl rfl rfl (Nat.le_of_ble_eq_true rfl) (by decide) (by decide) (c_Kit_putNonce G u146 325 326 96 46 ⟨w325, a326, by decide, u325_1, by decide, by decide⟩ hv147) (fun r u160 hq => ?_)
  obtain ⟨hr, hv161, hm162⟩ := hq
  rw [hr]
  clear hr r
  have hm163 := hm149.go hm162 (by intro i hi; simp only [List.mem_cons, List.not_mem_nil, or_false] at hi ⊢ <;> omega)
  have e164 : u160 48 = nI 0 := (hm162 48 (by decide)).trans e150
  have e165 : u160 51 = nI 0 := (hm162 51 (by decide)).trans e151
  have e166 : u160 82 = nI 0 := (hm162 82 (by decide)).trans e152
  have e167 : u160 49 = nI 0 := (hm162 49 (by decide)).trans e153
  have e168 : u160 52 = nI 0 := (hm162 52 (by decide)).trans e154
  have e169 : u160 83 = nI 0 := (hm162 83 (by decide)).trans e155
  have e170 : u160 50 = nI 0 := (hm162 50 (by decide)).trans e156
  have e171 : u160 53 = nI 0 := (hm162 53 (by decide)).trans e157
  have e172 : u160 84 = nI 0 := (hm162 84 (by decide)).trans e158
  have e173 : u160 44 = nI usr := (hm162 44 (by decide)).trans e159
  show ST G mi_Ss_start 132 [(4, .int (nI 3)), (0, .ref 317), (1, .ref 62), (2, .int (nI usr)), (3, .ref b)] [] u160 0 0 _
  refine ST.lift (fun _ _ k => T_aload_n (v := .ref 62) d_Ss_start_132 rfl (Or.inr ⟨_, rfl⟩) k) ?_
  refine ST.lift (fun _ _ k => T_aload_n (v := .ref 317) d_Ss_start_133 rfl (Or.inr ⟨_, rfl⟩) k) ?_
  refine S_getfield d_Ss_start_134 fg_Ss_47 (w317 _) rfl ?_
  refine S_virtual (as := [.ref 330]) (rest := []) (b := 62) d_Ss_start_137 rfl (jw_Kit_nextScalar.jo (by decide)) lm_Ss_64 ji_Kit_nextScalar js_Kit_nextScalar (w62 _) rfl rfl rfl (Nat.le_of_ble_eq_true rfl) (by decide) (by decide) (c_Kit_nextScalar G u160 330 32 (by decide) a330 (by omega) (by omega) hv161) (fun r u174 hq => ?_)
  obtain ⟨hr, hv175, hm176⟩ := hq
  rw [hr]
  clear hr r
  have hm177 := hm163.go hm176 (by intro i hi; simp only [List.mem_cons, List.not_mem_nil, or_false] at hi ⊢ <;> omega)
  have e178 : u174 48 = nI 0 := (hm176 48 (by decide)).trans e164
  have e179 : u174 51 = nI 0 := (hm176 51 (by decide)).trans e165
  have e180 : u174 82 = nI 0 := (hm176 82 (by decide)).trans e166
  have e181 : u174 49 = nI 0 := (hm176 49 (by decide)).trans e167
  have e182 : u174 52 = nI 0 := (hm176 52 (by decide)).trans e168
  have e183 : u174 83 = nI 0 := (hm176 83 (by decide)).trans e169
  have e184 : u174 50 = nI 0 := (hm176 50 (by decide)).trans e170
  have e185 : u174 53 = nI 0 := (hm176 53 (by decide)).trans e171
  have e186 : u174 84 = nI 0 := (hm176 84 (by decide)).trans e172
  have e187 : u174 44 = nI usr := (hm176 44 (by decide)).trans e173
  show ST G mi_Ss_start 140 [(4, .int (nI 3)), (0, .ref 317), (1, .ref 62), (2, .int (nI usr)), (3, .ref b)] [] u174 0 0 _
  refine ST.lift (fun _ _ k => T_aload_n (v := .ref 62) d_Ss_start_140 rfl (Or.inr ⟨_, rfl⟩) k) ?_
  refine ST.lift (fun _ _ k => T_aload_n (v := .ref 317) d_Ss_start_141 rfl (Or.inr ⟨_, rfl⟩) k) ?_
  refine S_getfield d_Ss_start_142 fg_Ss_47 (w317 _) rfl ?_
  refine ST.lift (fun _ _ k => T_aload_n (v := .ref 317) d_Ss_start_145 rfl (Or.inr ⟨_, rfl⟩) k) ?_
  refine S_getfield d_Ss_start_146 fg_Ss_38 (w317 _) rfl ?_
  refine S_virtual (as := [.ref 330, .ref 325]) (rest := []) (b := 62) d_Ss_start_149 rfl (jw_Kit_putPublic.jo (by decide)) lm_Ss_95 ji_Kit_putPublic js_Kit_putPublic (w62 _) rfl rfl rfl (Nat.le_of_ble_eq_true rfl) (by decide) (by decide) (c_Kit_putPublic G u174 330 32 (by decide) a330 (by omega) 325 326 96 46 ⟨w325, a326, by decide, u325_1, by decide, by decide⟩ (by omega) hv175) (fun r u188 hq => ?_)
  obtain ⟨hr, hv189, hm190⟩ := hq
  rw [hr]
  clear hr r
  have hm191 := hm177.go hm190 (by intro i hi; simp only [List.mem_cons, List.not_mem_nil, or_false] at hi ⊢ <;> omega)
  have e192 : u188 48 = nI 0 := (hm190 48 (by decide)).trans e178
  have e193 : u188 51 = nI 0 := (hm190 51 (by decide)).trans e179
  have e194 : u188 82 = nI 0 := (hm190 82 (by decide)).trans e180
  have e195 : u188 49 = nI 0 := (hm190 49 (by decide)).trans e181
  have e196 : u188 52 = nI 0 := (hm190 52 (by decide)).trans e182
  have e197 : u188 83 = nI 0 := (hm190 83 (by decide)).trans e183
  have e198 : u188 50 = nI 0 := (hm190 50 (by decide)).trans e184
  have e199 : u188 53 = nI 0 := (hm190 53 (by decide)).trans e185
  have e200 : u188 84 = nI 0 := (hm190 84 (by decide)).trans e186
  have e201 : u188 44 = nI usr := (hm190 44 (by decide)).trans e187
  show ST G mi_Ss_start 152 [(4, .int (nI 3)), (0, .ref 317), (1, .ref 62), (2, .int (nI usr)), (3, .ref b)] [] u188 0 0 _
  refine ST.lift (fun _ _ k => T_aload_n (v := .ref 317) d_Ss_start_152 rfl (Or.inr ⟨_, rfl⟩) k) ?_
  refine S_getfield d_Ss_start_153 fg_Ss_11 (w317 _) rfl ?_
  refine ST.lift (fun _ _ k => T_iconst (v := nI 0) d_Ss_start_156 (by decide) k) ?_
  refine S_aaload (C0 := "PasswordGate$Bytes") d_Ss_start_157 (by decide) (w318 _) rfl (vp_in_nI (by omega) (by omega)) ?_
  refine ST.lift (fun _ _ k => T_aload_n (v := .ref 317) d_Ss_start_158 rfl (Or.inr ⟨_, rfl⟩) k) ?_
  refine S_getfield d_Ss_start_159 fg_Ss_38 (w317 _) rfl ?_
  refine S_virtual (as := [.ref 325]) (rest := []) (b := 331) d_Ss_start_162 rfl (jw_By_putAll.jo (by decide)) lm_Ss_60 ji_By_putAll js_By_putAll (w331 _) rfl rfl rfl (Nat.le_of_ble_eq_true rfl) (by decide) (by decide) (c_By_putAll G u188 331 332 96 48 ⟨w331, a332, by decide, u331_1, by decide, by decide⟩ 325 326 96 46 ⟨w325, a326, by decide, u325_1, by decide, by decide⟩ hv189) (fun r u202 hq => ?_)
  obtain ⟨hr, hv203, hm204⟩ := hq
  rw [hr]
  clear hr r
  have hm205 := hm191.go hm204 (by intro i hi; simp only [List.mem_cons, List.not_mem_nil, or_false] at hi ⊢ <;> omega)
  have e206 : u202 51 = nI 0 := (hm204 51 (by decide)).trans e193
  have e207 : u202 82 = nI 0 := (hm204 82 (by decide)).trans e194
  have e208 : u202 49 = nI 0 := (hm204 49 (by decide)).trans e195
  have e209 : u202 52 = nI 0 := (hm204 52 (by decide)).trans e196
  have e210 : u202 83 = nI 0 := (hm204 83 (by decide)).trans e197
  have e211 : u202 50 = nI 0 := (hm204 50 (by decide)).trans e198
  have e212 : u202 53 = nI 0 := (hm204 53 (by decide)).trans e199
  have e213 : u202 84 = nI 0 := (hm204 84 (by decide)).trans e200
  have e214 : u202 44 = nI usr := (hm204 44 (by decide)).trans e201
  show ST G mi_Ss_start 165 [(4, .int (nI 3)), (0, .ref 317), (1, .ref 62), (2, .int (nI usr)), (3, .ref b)] [] u202 0 0 _
  exact S_vret d_Ss_start_165 rfl (by decide) (by decide) (hQ _ hv203 hm205)
set_option maxRecDepth 100000 in
set_option maxHeartbeats 4000000 in
theorem c_Ss_confirmServer_317 (G : GX) (v : Nat → Int32) (hv : okv v) : CS G mi_Ss_confirmServer [.ref 317, .ref 62, .ref 217] v (fun r v' => ∃ z : Int32, r = some (.int z) ∧ okv v' ∧ mdf [6, 7, 5, 2, 3, 1, 4, 8, 9, 10, 48, 49, 50, 51, 52, 53, 45, 46, 47, 44, 82, 83, 84] v v') := by
  refine CS.of (by decide) (Nat.le_of_ble_eq_true rfl) ?_
  generalize hQe : (fun (r : Option Value) (v' : Nat → Int32) => ∃ z : Int32, r = some (.int z) ∧ okv v' ∧ mdf [6, 7, 5, 2, 3, 1, 4, 8, 9, 10, 48, 49, 50, 51, 52, 53, 45, 46, 47, 44, 82, 83, 84] v v') = Q
  have hQ : ∀ (z : Int32) (u : Nat → Int32), okv u → mdf [6, 7, 5, 2, 3, 1, 4, 8, 9, 10, 48, 49, 50, 51, 52, 53, 45, 46, 47, 44, 82, 83, 84] v u → Q (some (.int z)) u := by rw [← hQe]; exact fun z u h1 h2 => ⟨z, rfl, h1, h2⟩
  clear hQe
  have hm : mdf [6, 7, 5, 2, 3, 1, 4, 8, 9, 10, 48, 49, 50, 51, 52, 53, 45, 46, 47, 44, 82, 83, 84] v v := mdf.rf
  show ST G mi_Ss_confirmServer 0 [(0, .ref 317), (1, .ref 62), (2, .ref 217)] [] v 0 0 Q
  refine ST.lift (fun _ _ k => T_aload_n (v := .ref 317) d_Ss_confirmServer_0 rfl (Or.inr ⟨_, rfl⟩) k) ?_
  refine S_getfield d_Ss_confirmServer_1 fg_Ss_11 (w317 _) rfl ?_
  refine ST.lift (fun _ _ k => T_iconst (v := nI 1) d_Ss_confirmServer_4 (by decide) k) ?_
  refine S_aaload (C0 := "PasswordGate$Bytes") d_Ss_confirmServer_5 (by decide) (w318 _) rfl (vp_in_nI (by omega) (by omega)) ?_
  refine S_getfield d_Ss_confirmServer_6 fg_Ss_99 (w333 _) rfl ?_
  refine ST.lift (fun _ _ k => T_astore_n (L' := [(3, .ref 334), (0, .ref 317), (1, .ref 62), (2, .ref 217)]) d_Ss_confirmServer_9 (by decide) rfl (Or.inr ⟨_, rfl⟩) k) ?_
  refine ST.lift (fun _ _ k => T_aload_n (v := .ref 62) d_Ss_confirmServer_10 rfl (Or.inr ⟨_, rfl⟩) k) ?_
  refine S_getfield d_Ss_confirmServer_11 fg_Ss_78 (w62 _) rfl ?_
  refine ST.lift (fun _ _ k => T_aload_n (v := .ref 334) d_Ss_confirmServer_14 rfl (Or.inr ⟨_, rfl⟩) k) ?_
  refine ST.lift (fun _ _ k => T_iconst (v := nI 0) d_Ss_confirmServer_15 (by decide) k) ?_
  refine ST.lift (fun _ _ k => T_aload_n (v := .ref 62) d_Ss_confirmServer_16 rfl (Or.inr ⟨_, rfl⟩) k) ?_
  refine S_getfield d_Ss_confirmServer_17 fg_Ss_70 (w62 _) rfl ?_
  refine S_virtual (as := [.ref 334, .int (nI 0), .ref 188]) (rest := []) (b := 77) d_Ss_confirmServer_20 rfl (jw_Cu_decode.jo (by decide)) lm_Ss_102 ji_Cu_decode js_Cu_decode (w77 _) rfl rfl rfl (Nat.le_of_ble_eq_true rfl) (by decide) (by decide) (c_Cu_decode G v 334 320 (by decide) a334 (by omega) 0 (by omega) 188 189 190 191 192 ⟨w188, a189, a190, a191, a192, by decide, by decide, by decide, by decide⟩ hv) (fun r u1 hq => ?_)
  obtain ⟨z4, hz4, hr, hv2, hm3⟩ := hq
  rw [hr]
  clear hr r
  have hm5 := hm.go hm3 (by intro i hi; simp only [List.mem_cons, List.not_mem_nil, or_false] at hi ⊢ <;> omega)
  show ST G mi_Ss_confirmServer 23 [(3, .ref 334), (0, .ref 317), (1, .ref 62), (2, .ref 217)] [.int (nI z4)] u1 0 0 _
  refine S_if_neN d_Ss_confirmServer_23 rfl (by omega) (fun c6 => ?_) (fun c6 => ?_)
  · refine ST.lift (fun _ _ k => T_aload_n (v := .ref 62) d_Ss_confirmServer_28 rfl (Or.inr ⟨_, rfl⟩) k) ?_
    refine S_getfield d_Ss_confirmServer_29 fg_Ss_106 (w62 _) rfl ?_
    refine ST.lift (fun _ _ k => T_aload_n (v := .ref 317) d_Ss_confirmServer_32 rfl (Or.inr ⟨_, rfl⟩) k) ?_
    refine S_getfield d_Ss_confirmServer_33 fg_Ss_44 (w317 _) rfl ?_
    refine ST.lift (fun _ _ k => T_aload_n (v := .ref 62) d_Ss_confirmServer_36 rfl (Or.inr ⟨_, rfl⟩) k) ?_
    refine S_getfield d_Ss_confirmServer_37 fg_Ss_110 (w62 _) rfl ?_
    refine S_virtual (as := [.ref 329, .ref 198]) (rest := []) (b := 183) d_Ss_confirmServer_40 rfl (jw_Sc_invert.jo (by decide)) lm_Ss_113 ji_Sc_invert js_Sc_invert (w183 _) rfl rfl rfl (Nat.le_of_ble_eq_true rfl) (by decide) (by decide) (c_Sc_invert G u1 329 32 (by decide) a329 (by omega) 198 32 (by decide) a198 (by omega) (by omega)) (fun r v' hq => ?_)
    rw [hq.1, hq.2]
    clear hq r v'
    show ST G mi_Ss_confirmServer 43 [(3, .ref 334), (0, .ref 317), (1, .ref 62), (2, .ref 217)] [] u1 0 0 _
    refine ST.lift (fun _ _ k => T_aload_n (v := .ref 62) d_Ss_confirmServer_43 rfl (Or.inr ⟨_, rfl⟩) k) ?_
    refine S_getfield d_Ss_confirmServer_44 fg_Ss_78 (w62 _) rfl ?_
    refine ST.lift (fun _ _ k => T_aload_n (v := .ref 62) d_Ss_confirmServer_47 rfl (Or.inr ⟨_, rfl⟩) k) ?_
    refine S_getfield d_Ss_confirmServer_48 fg_Ss_70 (w62 _) rfl ?_
    refine ST.lift (fun _ _ k => T_aload_n (v := .ref 62) d_Ss_confirmServer_51 rfl (Or.inr ⟨_, rfl⟩) k) ?_
    refine S_getfield d_Ss_confirmServer_52 fg_Ss_110 (w62 _) rfl ?_
    refine ST.lift (fun _ _ k => T_aload_n (v := .ref 62) d_Ss_confirmServer_55 rfl (Or.inr ⟨_, rfl⟩) k) ?_
    refine S_getfield d_Ss_confirmServer_56 fg_Ss_70 (w62 _) rfl ?_
    refine S_virtual (as := [.ref 188, .ref 198, .ref 188]) (rest := []) (b := 77) d_Ss_confirmServer_59 rfl (jw_Cu_multiply.jo (by decide)) lm_Ss_82 ji_Cu_multiply js_Cu_multiply (w77 _) rfl rfl rfl (Nat.le_of_ble_eq_true rfl) (by decide) (by decide) (c_Cu_multiply G u1 188 189 190 191 192 ⟨w188, a189, a190, a191, a192, by decide, by decide, by decide, by decide⟩ 198 32 (by decide) a198 (by omega) 188 189 190 191 192 ⟨w188, a189, a190, a191, a192, by decide, by decide, by decide, by decide⟩ (by omega)) (fun r v' hq => ?_)
    rw [hq.1, hq.2]
    clear hq r v'
    show ST G mi_Ss_confirmServer 62 [(3, .ref 334), (0, .ref 317), (1, .ref 62), (2, .ref 217)] [] u1 0 0 _
    refine ST.lift (fun _ _ k => T_aload_n (v := .ref 62) d_Ss_confirmServer_62 rfl (Or.inr ⟨_, rfl⟩) k) ?_
    refine ST.lift (fun _ _ k => T_aload_n (v := .ref 317) d_Ss_confirmServer_63 rfl (Or.inr ⟨_, rfl⟩) k) ?_
    refine S_getfield d_Ss_confirmServer_64 fg_Ss_34 (w317 _) rfl ?_
    refine ST.lift (fun _ _ k => T_aload_n (v := .ref 62) d_Ss_confirmServer_67 rfl (Or.inr ⟨_, rfl⟩) k) ?_
    refine S_getfield d_Ss_confirmServer_68 fg_Ss_70 (w62 _) rfl ?_
    refine S_virtual (as := [.ref 323, .ref 188]) (rest := []) (b := 62) d_Ss_confirmServer_71 rfl (jw_Kit_randomize.jo (by decide)) lm_Ss_119 ji_Kit_randomize js_Kit_randomize (w62 _) rfl rfl rfl (Nat.le_of_ble_eq_true rfl) (by decide) (by decide) (c_Kit_randomize G u1 323 324 200 45 ⟨w323, a324, by decide, u323_1, by decide, by decide⟩ 188 189 190 191 192 ⟨w188, a189, a190, a191, a192, by decide, by decide, by decide, by decide⟩ hv2) (fun r u7 hq => ?_)
    obtain ⟨hr, hv8, hm9⟩ := hq
    rw [hr]
    clear hr r
    have hm10 := hm5.go hm9 (by intro i hi; simp only [List.mem_cons, List.not_mem_nil, or_false] at hi ⊢ <;> omega)
    show ST G mi_Ss_confirmServer 74 [(3, .ref 334), (0, .ref 317), (1, .ref 62), (2, .ref 217)] [] u7 0 0 _
    refine ST.lift (fun _ _ k => T_aload_n (v := .ref 317) d_Ss_confirmServer_74 rfl (Or.inr ⟨_, rfl⟩) k) ?_
    refine S_getfield d_Ss_confirmServer_75 fg_Ss_41 (w317 _) rfl ?_
    refine S_virtual (as := []) (rest := []) (b := 327) d_Ss_confirmServer_78 rfl (jw_By_clear.jo (by decide)) lm_Ss_54 ji_By_clear js_By_clear (w327 _) rfl rfl rfl (Nat.le_of_ble_eq_true rfl) (by decide) (by decide) (c_By_clear G u7 327 328 128 47 ⟨w327, a328, by decide, u327_1, by decide, by decide⟩ hv8) (fun r v' hq => ?_)
    rw [hq.1, hq.2]
    clear hq r v'
    show ST G mi_Ss_confirmServer 81 [(3, .ref 334), (0, .ref 317), (1, .ref 62), (2, .ref 217)] [] (va_up u7 47 (nI 0)) 0 0 _
    have hv12 := hv8.up (j := 47) (c := 128) (k := 0) (by decide) (by omega)
    have hm13 := hm10.go (mdf.up (v := u7) (j := 47) (x := (nI 0))) (by intro i hi; simp only [List.mem_cons, List.not_mem_nil, or_false] at hi ⊢ <;> omega)
    have e_u11 : (va_up u7 47 (nI 0)) 47 = (nI 0) := by simp [va_up]
    generalize va_up u7 47 (nI 0) = u11 at hv12 hm13 e_u11 ⊢
    refine ST.lift (fun _ _ k => T_aload_n (v := .ref 62) d_Ss_confirmServer_81 rfl (Or.inr ⟨_, rfl⟩) k) ?_
    refine ST.lift (fun _ _ k => T_aload_n (v := .ref 62) d_Ss_confirmServer_82 rfl (Or.inr ⟨_, rfl⟩) k) ?_
    refine S_getfield d_Ss_confirmServer_83 fg_Ss_122 (w62 _) rfl ?_
    refine ST.lift (fun _ _ k => T_aload_n (v := .ref 334) d_Ss_confirmServer_86 rfl (Or.inr ⟨_, rfl⟩) k) ?_
    refine ST.lift (fun _ _ k => T_aload_n (v := .ref 334) d_Ss_confirmServer_87 rfl (Or.inr ⟨_, rfl⟩) k) ?_
    refine ST.lift (fun _ _ k => T_bipush (v := nI 64) d_Ss_confirmServer_88 (by decide) k) ?_
    refine ST.lift (fun _ _ k => T_aload_n (v := .ref 317) d_Ss_confirmServer_90 rfl (Or.inr ⟨_, rfl⟩) k) ?_
    refine S_getfield d_Ss_confirmServer_91 fg_Ss_41 (w317 _) rfl ?_
    refine S_virtual (as := [.ref 201, .ref 334, .ref 334, .int (nI 64), .ref 327]) (rest := []) (b := 62) d_Ss_confirmServer_94 rfl (jw_Kit_putMasked.jo (by decide)) lm_Ss_125 ji_Kit_putMasked js_Kit_putMasked (w62 _) rfl rfl rfl (Nat.le_of_ble_eq_true rfl) (by decide) (by decide) (c_Kit_putMasked G u11 201 64 (by decide) a201 (by omega) 334 320 (by decide) a334 (by omega) 334 320 (by decide) a334 (by omega) 64 (by omega) 327 328 128 47 ⟨w327, a328, by decide, u327_1, by decide, by decide⟩ (by omega) hv12) (fun r u14 hq => ?_)
    obtain ⟨hr, hv15, hm16⟩ := hq
    rw [hr]
    clear hr r
    have hm17 := hm13.go hm16 (by intro i hi; simp only [List.mem_cons, List.not_mem_nil, or_false] at hi ⊢ <;> omega)
    show ST G mi_Ss_confirmServer 97 [(3, .ref 334), (0, .ref 317), (1, .ref 62), (2, .ref 217)] [] u14 0 0 _
    refine ST.lift (fun _ _ k => T_aload_n (v := .ref 62) d_Ss_confirmServer_97 rfl (Or.inr ⟨_, rfl⟩) k) ?_
    refine ST.lift (fun _ _ k => T_aload_n (v := .ref 317) d_Ss_confirmServer_98 rfl (Or.inr ⟨_, rfl⟩) k) ?_
    refine S_getfield d_Ss_confirmServer_99 fg_Ss_41 (w317 _) rfl ?_
    refine S_getfield d_Ss_confirmServer_102 fg_Ss_99 (w327 _) rfl ?_
    refine ST.lift (fun _ _ k => T_bipush (v := nI 32) d_Ss_confirmServer_105 (by decide) k) ?_
    refine ST.lift (fun _ _ k => T_aload_n (v := .ref 317) d_Ss_confirmServer_107 rfl (Or.inr ⟨_, rfl⟩) k) ?_
    refine S_getfield d_Ss_confirmServer_108 fg_Ss_41 (w317 _) rfl ?_
    refine S_getfield d_Ss_confirmServer_111 fg_Ss_99 (w327 _) rfl ?_
    refine S_virtual (as := [.ref 328, .int (nI 32), .ref 328]) (rest := []) (b := 62) d_Ss_confirmServer_114 rfl (jw_Kit_sealEnvelope.jo (by decide)) lm_Ss_129 ji_Kit_sealEnvelope js_Kit_sealEnvelope (w62 _) rfl rfl rfl (Nat.le_of_ble_eq_true rfl) (by decide) (by decide) (c_Kit_sealEnvelope G u14 328 128 (by decide) a328 (by omega) 32 (by omega) 328 128 (by decide) a328 (by omega) hv15) (fun r u18 hq => ?_)
    obtain ⟨hr, hv19, hm20⟩ := hq
    rw [hr]
    clear hr r
    have hm21 := hm17.go hm20 (by intro i hi; simp only [List.mem_cons, List.not_mem_nil, or_false] at hi ⊢ <;> omega)
    show ST G mi_Ss_confirmServer 117 [(3, .ref 334), (0, .ref 317), (1, .ref 62), (2, .ref 217)] [] u18 0 0 _
    refine ST.lift (fun _ _ k => T_aload_n (v := .ref 317) d_Ss_confirmServer_117 rfl (Or.inr ⟨_, rfl⟩) k) ?_
    refine S_getfield d_Ss_confirmServer_118 fg_Ss_41 (w317 _) rfl ?_
    refine ST.lift (fun _ _ k => T_bipush (v := nI 64) d_Ss_confirmServer_121 (by decide) k) ?_
    refine ST.lift (fun _ _ k => T_aload_n (v := .ref 62) d_Ss_confirmServer_123 rfl (Or.inr ⟨_, rfl⟩) k) ?_
    refine S_getfield d_Ss_confirmServer_124 fg_Ss_133 (w62 _) rfl ?_
    refine ST.lift (fun _ _ k => T_iconst (v := nI 0) d_Ss_confirmServer_127 (by decide) k) ?_
    refine S_virtual (as := [.int (nI 64), .ref 205, .int (nI 0)]) (rest := []) (b := 327) d_Ss_confirmServer_128 rfl (jw_By_endsLike.jo (by decide)) lm_Ss_136 ji_By_endsLike js_By_endsLike (w327 _) rfl rfl rfl (Nat.le_of_ble_eq_true rfl) (by decide) (by decide) (c_By_endsLike G u18 327 328 128 47 ⟨w327, a328, by decide, u327_1, by decide, by decide⟩ 64 (by omega) 205 64 (by decide) a205 (by omega) 0 (by omega) hv19) (fun r u22 hq => ?_)
    obtain ⟨z25, hz25, hr, hv23, hm24⟩ := hq
    rw [hr]
    clear hr r
    have hm26 := hm21.go hm24 (by intro i hi; simp only [List.mem_cons, List.not_mem_nil, or_false] at hi ⊢ <;> omega)
    show ST G mi_Ss_confirmServer 131 [(3, .ref 334), (0, .ref 317), (1, .ref 62), (2, .ref 217)] [.int (nI z25)] u22 0 0 _
    refine S_if_neN d_Ss_confirmServer_131 rfl (by omega) (fun c27 => ?_) (fun c27 => ?_)
    · refine ST.lift (fun _ _ k => T_aload_n (v := .ref 62) d_Ss_confirmServer_136 rfl (Or.inr ⟨_, rfl⟩) k) ?_
      refine S_getfield d_Ss_confirmServer_137 fg_Ss_78 (w62 _) rfl ?_
      refine ST.lift (fun _ _ k => T_aload_n (v := .ref 317) d_Ss_confirmServer_140 rfl (Or.inr ⟨_, rfl⟩) k) ?_
      refine S_getfield d_Ss_confirmServer_141 fg_Ss_41 (w317 _) rfl ?_
      refine S_getfield d_Ss_confirmServer_144 fg_Ss_99 (w327 _) rfl ?_
      refine ST.lift (fun _ _ k => T_iconst (v := nI 0) d_Ss_confirmServer_147 (by decide) k) ?_
      refine ST.lift (fun _ _ k => T_aload_n (v := .ref 62) d_Ss_confirmServer_148 rfl (Or.inr ⟨_, rfl⟩) k) ?_
      refine S_getfield d_Ss_confirmServer_149 fg_Ss_70 (w62 _) rfl ?_
      refine S_virtual (as := [.ref 328, .int (nI 0), .ref 188]) (rest := []) (b := 77) d_Ss_confirmServer_152 rfl (jw_Cu_decode.jo (by decide)) lm_Ss_102 ji_Cu_decode js_Cu_decode (w77 _) rfl rfl rfl (Nat.le_of_ble_eq_true rfl) (by decide) (by decide) (c_Cu_decode G u22 328 128 (by decide) a328 (by omega) 0 (by omega) 188 189 190 191 192 ⟨w188, a189, a190, a191, a192, by decide, by decide, by decide, by decide⟩ hv23) (fun r u28 hq => ?_)
      obtain ⟨z31, hz31, hr, hv29, hm30⟩ := hq
      rw [hr]
      clear hr r
      have hm32 := hm26.go hm30 (by intro i hi; simp only [List.mem_cons, List.not_mem_nil, or_false] at hi ⊢ <;> omega)
      show ST G mi_Ss_confirmServer 155 [(3, .ref 334), (0, .ref 317), (1, .ref 62), (2, .ref 217)] [.int (nI z31)] u28 0 0 _
      refine S_if_eqN d_Ss_confirmServer_155 rfl (by omega) (fun c33 => ?_) (fun c33 => ?_)
      · refine ST.lift (fun _ _ k => T_iconst (v := nI 1) d_Ss_confirmServer_176 (by decide) k) ?_
        exact S_ret d_Ss_confirmServer_177 rfl rfl (by decide) (by decide) (hQ _ _ hv29 hm32)
      · refine ST.lift (fun _ _ k => T_aload_n (v := .ref 62) d_Ss_confirmServer_158 rfl (Or.inr ⟨_, rfl⟩) k) ?_
        refine S_getfield d_Ss_confirmServer_159 fg_Ss_78 (w62 _) rfl ?_
        refine ST.lift (fun _ _ k => T_aload_n (v := .ref 334) d_Ss_confirmServer_162 rfl (Or.inr ⟨_, rfl⟩) k) ?_
        refine ST.lift (fun _ _ k => T_sipush (v := nI 224) d_Ss_confirmServer_163 (by decide) k) ?_
        refine ST.lift (fun _ _ k => T_aload_n (v := .ref 62) d_Ss_confirmServer_166 rfl (Or.inr ⟨_, rfl⟩) k) ?_
        refine S_getfield d_Ss_confirmServer_167 fg_Ss_140 (w62 _) rfl ?_
        refine S_virtual (as := [.ref 334, .int (nI 224), .ref 193]) (rest := []) (b := 77) d_Ss_confirmServer_170 rfl (jw_Cu_decode.jo (by decide)) lm_Ss_102 ji_Cu_decode js_Cu_decode (w77 _) rfl rfl rfl (Nat.le_of_ble_eq_true rfl) (by decide) (by decide) (c_Cu_decode G u28 334 320 (by decide) a334 (by omega) 224 (by omega) 193 194 195 196 197 ⟨w193, a194, a195, a196, a197, by decide, by decide, by decide, by decide⟩ hv29) (fun r u34 hq => ?_)
        obtain ⟨z37, hz37, hr, hv35, hm36⟩ := hq
        rw [hr]
        clear hr r
        have hm38 := hm32.go hm36 (by intro i hi; simp only [List.mem_cons, List.not_mem_nil, or_false] at hi ⊢ <;> omega)
        show ST G mi_Ss_confirmServer 173 [(3, .ref 334), (0, .ref 317), (1, .ref 62), (2, .ref 217)] [.int (nI z37)] u34 0 0 _
        refine S_if_neN d_Ss_confirmServer_173 rfl (by omega) (fun c39 => ?_) (fun c39 => ?_)
        · refine ST.lift (fun _ _ k => T_aload_n (v := .ref 217) d_Ss_confirmServer_178 rfl (Or.inr ⟨_, rfl⟩) k) ?_
          refine ST.lift (fun _ _ k => T_aload_n (v := .ref 62) d_Ss_confirmServer_179 rfl (Or.inr ⟨_, rfl⟩) k) ?_
          refine S_getfield d_Ss_confirmServer_180 fg_Ss_143 (w62 _) rfl ?_
          refine S_getfield d_Ss_confirmServer_183 fg_Ss_99 (w203 _) rfl ?_
          refine ST.lift (fun _ _ k => T_aload_n (v := .ref 317) d_Ss_confirmServer_186 rfl (Or.inr ⟨_, rfl⟩) k) ?_
          refine S_getfield d_Ss_confirmServer_187 fg_Ss_38 (w317 _) rfl ?_
          refine S_getfield d_Ss_confirmServer_190 fg_Ss_99 (w325 _) rfl ?_
          refine ST.lift (fun _ _ k => T_aload_n (v := .ref 317) d_Ss_confirmServer_193 rfl (Or.inr ⟨_, rfl⟩) k) ?_
          refine S_getfield d_Ss_confirmServer_194 fg_Ss_41 (w317 _) rfl ?_
          refine S_getfield d_Ss_confirmServer_197 fg_Ss_99 (w327 _) rfl ?_
          refine ST.lift (fun _ _ k => T_aload_n (v := .ref 334) d_Ss_confirmServer_200 rfl (Or.inr ⟨_, rfl⟩) k) ?_
          refine S_virtual (as := [.ref 204, .ref 326, .ref 328, .ref 334]) (rest := []) (b := 217) d_Ss_confirmServer_201 rfl (jw_Ex_open.jo (by decide)) lm_Ss_146 ji_Ex_open js_Ex_open (w217 _) rfl rfl rfl (Nat.le_of_ble_eq_true rfl) (by decide) (by decide) (c_Ex_open G u34 204 32 (by decide) a204 (by omega) 326 96 (by decide) a326 (by omega) 328 128 (by decide) a328 (by omega) 334 320 (by decide) a334 (by omega) hv35) (fun r u40 hq => ?_)
          obtain ⟨hr, hv41, hm42⟩ := hq
          rw [hr]
          clear hr r
          have hm43 := hm38.go hm42 (by intro i hi; simp only [List.mem_cons, List.not_mem_nil, or_false] at hi ⊢ <;> omega)
          show ST G mi_Ss_confirmServer 204 [(3, .ref 334), (0, .ref 317), (1, .ref 62), (2, .ref 217)] [] u40 0 0 _
          refine ST.lift (fun _ _ k => T_aload_n (v := .ref 217) d_Ss_confirmServer_204 rfl (Or.inr ⟨_, rfl⟩) k) ?_
          refine ST.lift (fun _ _ k => T_aload_n (v := .ref 62) d_Ss_confirmServer_205 rfl (Or.inr ⟨_, rfl⟩) k) ?_
          refine ST.lift (fun _ _ k => T_aload_n (v := .ref 317) d_Ss_confirmServer_206 rfl (Or.inr ⟨_, rfl⟩) k) ?_
          refine S_getfield d_Ss_confirmServer_207 fg_Ss_47 (w317 _) rfl ?_
          refine ST.lift (fun _ _ k => T_aload_n (v := .ref 62) d_Ss_confirmServer_210 rfl (Or.inr ⟨_, rfl⟩) k) ?_
          refine S_getfield d_Ss_confirmServer_211 fg_Ss_140 (w62 _) rfl ?_
          refine S_virtual (as := [.ref 62, .ref 330, .ref 193]) (rest := []) (b := 217) d_Ss_confirmServer_214 rfl (jw_Ex_join.jo (by decide)) lm_Ss_152 ji_Ex_join js_Ex_join (w217 _) rfl rfl rfl (Nat.le_of_ble_eq_true rfl) (by decide) (by decide) (c_Ex_join G u40 330 32 (by decide) a330 (by omega) 193 194 195 196 197 ⟨w193, a194, a195, a196, a197, by decide, by decide, by decide, by decide⟩ (by omega) hv41) (fun r u44 hq => ?_)
          obtain ⟨hr, hv45, hm46⟩ := hq
          rw [hr]
          clear hr r
          have hm47 := hm43.go hm46 (by intro i hi; simp only [List.mem_cons, List.not_mem_nil, or_false] at hi ⊢ <;> omega)
          show ST G mi_Ss_confirmServer 217 [(3, .ref 334), (0, .ref 317), (1, .ref 62), (2, .ref 217)] [] u44 0 0 _
          refine ST.lift (fun _ _ k => T_aload_n (v := .ref 217) d_Ss_confirmServer_217 rfl (Or.inr ⟨_, rfl⟩) k) ?_
          refine ST.lift (fun _ _ k => T_aload_n (v := .ref 62) d_Ss_confirmServer_218 rfl (Or.inr ⟨_, rfl⟩) k) ?_
          refine ST.lift (fun _ _ k => T_aload_n (v := .ref 317) d_Ss_confirmServer_219 rfl (Or.inr ⟨_, rfl⟩) k) ?_
          refine S_getfield d_Ss_confirmServer_220 fg_Ss_47 (w317 _) rfl ?_
          refine ST.lift (fun _ _ k => T_aload_n (v := .ref 62) d_Ss_confirmServer_223 rfl (Or.inr ⟨_, rfl⟩) k) ?_
          refine S_getfield d_Ss_confirmServer_224 fg_Ss_70 (w62 _) rfl ?_
          refine S_virtual (as := [.ref 62, .ref 330, .ref 188]) (rest := []) (b := 217) d_Ss_confirmServer_227 rfl (jw_Ex_join.jo (by decide)) lm_Ss_152 ji_Ex_join js_Ex_join (w217 _) rfl rfl rfl (Nat.le_of_ble_eq_true rfl) (by decide) (by decide) (c_Ex_join G u44 330 32 (by decide) a330 (by omega) 188 189 190 191 192 ⟨w188, a189, a190, a191, a192, by decide, by decide, by decide, by decide⟩ (by omega) hv45) (fun r u48 hq => ?_)
          obtain ⟨hr, hv49, hm50⟩ := hq
          rw [hr]
          clear hr r
          have hm51 := hm47.go hm50 (by intro i hi; simp only [List.mem_cons, List.not_mem_nil, or_false] at hi ⊢ <;> omega)
          show ST G mi_Ss_confirmServer 230 [(3, .ref 334), (0, .ref 317), (1, .ref 62), (2, .ref 217)] [] u48 0 0 _
          refine ST.lift (fun _ _ k => T_aload_n (v := .ref 217) d_Ss_confirmServer_230 rfl (Or.inr ⟨_, rfl⟩) k) ?_
          refine ST.lift (fun _ _ k => T_aload_n (v := .ref 62) d_Ss_confirmServer_231 rfl (Or.inr ⟨_, rfl⟩) k) ?_
          refine ST.lift (fun _ _ k => T_aload_n (v := .ref 62) d_Ss_confirmServer_232 rfl (Or.inr ⟨_, rfl⟩) k) ?_
          refine S_getfield d_Ss_confirmServer_233 fg_Ss_156 (w62 _) rfl ?_
          refine ST.lift (fun _ _ k => T_aload_n (v := .ref 62) d_Ss_confirmServer_236 rfl (Or.inr ⟨_, rfl⟩) k) ?_
          refine S_getfield d_Ss_confirmServer_237 fg_Ss_140 (w62 _) rfl ?_
          refine S_virtual (as := [.ref 62, .ref 202, .ref 193]) (rest := []) (b := 217) d_Ss_confirmServer_240 rfl (jw_Ex_join.jo (by decide)) lm_Ss_152 ji_Ex_join js_Ex_join (w217 _) rfl rfl rfl (Nat.le_of_ble_eq_true rfl) (by decide) (by decide) (c_Ex_join G u48 202 32 (by decide) a202 (by omega) 193 194 195 196 197 ⟨w193, a194, a195, a196, a197, by decide, by decide, by decide, by decide⟩ (by omega) hv49) (fun r u52 hq => ?_)
          obtain ⟨hr, hv53, hm54⟩ := hq
          rw [hr]
          clear hr r
          have hm55 := hm51.go hm54 (by intro i hi; simp only [List.mem_cons, List.not_mem_nil, or_false] at hi ⊢ <;> omega)
          show ST G mi_Ss_confirmServer 243 [(3, .ref 334), (0, .ref 317), (1, .ref 62), (2, .ref 217)] [] u52 0 0 _
          refine ST.lift (fun _ _ k => T_aload_n (v := .ref 217) d_Ss_confirmServer_243 rfl (Or.inr ⟨_, rfl⟩) k) ?_
          refine ST.lift (fun _ _ k => T_aload_n (v := .ref 62) d_Ss_confirmServer_244 rfl (Or.inr ⟨_, rfl⟩) k) ?_
          refine S_virtual (as := [.ref 62]) (rest := []) (b := 217) d_Ss_confirmServer_245 rfl (jw_Ex_settle.jo (by decide)) lm_Ss_159 ji_Ex_settle js_Ex_settle (w217 _) rfl rfl rfl (Nat.le_of_ble_eq_true rfl) (by decide) (by decide) (c_Ex_settle G u52 hv53) (fun r u56 hq => ?_)
          obtain ⟨hr, hv57, hm58⟩ := hq
          rw [hr]
          clear hr r
          have hm59 := hm55.go hm58 (by intro i hi; simp only [List.mem_cons, List.not_mem_nil, or_false] at hi ⊢ <;> omega)
          show ST G mi_Ss_confirmServer 248 [(3, .ref 334), (0, .ref 317), (1, .ref 62), (2, .ref 217)] [] u56 0 0 _
          refine ST.lift (fun _ _ k => T_aload_n (v := .ref 317) d_Ss_confirmServer_248 rfl (Or.inr ⟨_, rfl⟩) k) ?_
          refine S_getfield d_Ss_confirmServer_249 fg_Ss_11 (w317 _) rfl ?_
          refine ST.lift (fun _ _ k => T_iconst (v := nI 1) d_Ss_confirmServer_252 (by decide) k) ?_
          refine S_aaload (C0 := "PasswordGate$Bytes") d_Ss_confirmServer_253 (by decide) (w318 _) rfl (vp_in_nI (by omega) (by omega)) ?_
          refine ST.lift (fun _ _ k => T_sipush (v := nI 256) d_Ss_confirmServer_254 (by decide) k) ?_
          refine ST.lift (fun _ _ k => T_aload_n (v := .ref 217) d_Ss_confirmServer_257 rfl (Or.inr ⟨_, rfl⟩) k) ?_
          refine S_getfield d_Ss_confirmServer_258 fg_Ss_163 (w217 _) rfl ?_
          refine ST.lift (fun _ _ k => T_iconst (v := nI 0) d_Ss_confirmServer_261 (by decide) k) ?_
          refine S_virtual (as := [.int (nI 256), .ref 218, .int (nI 0)]) (rest := []) (b := 333) d_Ss_confirmServer_262 rfl (jw_By_endsLike.jo (by decide)) lm_Ss_136 ji_By_endsLike js_By_endsLike (w333 _) rfl rfl rfl (Nat.le_of_ble_eq_true rfl) (by decide) (by decide) (c_By_endsLike G u56 333 334 320 49 ⟨w333, a334, by decide, u333_1, by decide, by decide⟩ 256 (by omega) 218 64 (by decide) a218 (by omega) 0 (by omega) hv57) (fun r u60 hq => ?_)
          obtain ⟨z63, hz63, hr, hv61, hm62⟩ := hq
          rw [hr]
          clear hr r
          have hm64 := hm59.go hm62 (by intro i hi; simp only [List.mem_cons, List.not_mem_nil, or_false] at hi ⊢ <;> omega)
          show ST G mi_Ss_confirmServer 265 [(3, .ref 334), (0, .ref 317), (1, .ref 62), (2, .ref 217)] [.int (nI z63)] u60 0 0 _
          refine S_if_neN d_Ss_confirmServer_265 rfl (by omega) (fun c65 => ?_) (fun c65 => ?_)
          · refine ST.lift (fun _ _ k => T_aload_n (v := .ref 317) d_Ss_confirmServer_270 rfl (Or.inr ⟨_, rfl⟩) k) ?_
            refine S_getfield d_Ss_confirmServer_271 fg_Ss_11 (w317 _) rfl ?_
            refine ST.lift (fun _ _ k => T_iconst (v := nI 2) d_Ss_confirmServer_274 (by decide) k) ?_
            refine S_aaload (C0 := "PasswordGate$Bytes") d_Ss_confirmServer_275 (by decide) (w318 _) rfl (vp_in_nI (by omega) (by omega)) ?_
            refine ST.lift (fun _ _ k => T_aload_n (v := .ref 217) d_Ss_confirmServer_276 rfl (Or.inr ⟨_, rfl⟩) k) ?_
            refine S_getfield d_Ss_confirmServer_277 fg_Ss_166 (w217 _) rfl ?_
            refine ST.lift (fun _ _ k => T_iconst (v := nI 0) d_Ss_confirmServer_280 (by decide) k) ?_
            refine ST.lift (fun _ _ k => T_bipush (v := nI 64) d_Ss_confirmServer_281 (by decide) k) ?_
            refine S_virtual (as := [.ref 219, .int (nI 0), .int (nI 64)]) (rest := []) (b := 335) d_Ss_confirmServer_283 rfl (jw_By_put.jo (by decide)) lm_Ss_169 ji_By_put js_By_put (w335 _) rfl rfl rfl (Nat.le_of_ble_eq_true rfl) (by decide) (by decide) (c_By_put G u60 335 336 64 50 ⟨w335, a336, by decide, u335_1, by decide, by decide⟩ 219 64 (by decide) a219 (by omega) 0 (by omega) 64 (by omega) hv61) (fun r u66 hq => ?_)
            obtain ⟨hr, hv67, hm68⟩ := hq
            rw [hr]
            clear hr r
            have hm69 := hm64.go hm68 (by intro i hi; simp only [List.mem_cons, List.not_mem_nil, or_false] at hi ⊢ <;> omega)
            show ST G mi_Ss_confirmServer 286 [(3, .ref 334), (0, .ref 317), (1, .ref 62), (2, .ref 217)] [] u66 0 0 _
            refine ST.lift (fun _ _ k => T_aload_n (v := .ref 317) d_Ss_confirmServer_286 rfl (Or.inr ⟨_, rfl⟩) k) ?_
            refine S_getfield d_Ss_confirmServer_287 fg_Ss_17 (w317 _) rfl ?_
            refine ST.lift (fun _ _ k => T_iconst (v := nI 0) d_Ss_confirmServer_290 (by decide) k) ?_
            refine S_aaload (C0 := "PasswordGate$Bytes") d_Ss_confirmServer_291 (by decide) (w319 _) rfl (vp_in_nI (by omega) (by omega)) ?_
            refine ST.lift (fun _ _ k => T_aload_n (v := .ref 217) d_Ss_confirmServer_292 rfl (Or.inr ⟨_, rfl⟩) k) ?_
            refine S_getfield d_Ss_confirmServer_293 fg_Ss_173 (w217 _) rfl ?_
            refine ST.lift (fun _ _ k => T_iconst (v := nI 0) d_Ss_confirmServer_296 (by decide) k) ?_
            refine ST.lift (fun _ _ k => T_bipush (v := nI 64) d_Ss_confirmServer_297 (by decide) k) ?_
            refine S_virtual (as := [.ref 220, .int (nI 0), .int (nI 64)]) (rest := []) (b := 337) d_Ss_confirmServer_299 rfl (jw_By_put.jo (by decide)) lm_Ss_169 ji_By_put js_By_put (w337 _) rfl rfl rfl (Nat.le_of_ble_eq_true rfl) (by decide) (by decide) (c_By_put G u66 337 338 64 51 ⟨w337, a338, by decide, u337_1, by decide, by decide⟩ 220 64 (by decide) a220 (by omega) 0 (by omega) 64 (by omega) hv67) (fun r u70 hq => ?_)
            obtain ⟨hr, hv71, hm72⟩ := hq
            rw [hr]
            clear hr r
            have hm73 := hm69.go hm72 (by intro i hi; simp only [List.mem_cons, List.not_mem_nil, or_false] at hi ⊢ <;> omega)
            show ST G mi_Ss_confirmServer 302 [(3, .ref 334), (0, .ref 317), (1, .ref 62), (2, .ref 217)] [] u70 0 0 _
            refine ST.lift (fun _ _ k => T_aload_n (v := .ref 317) d_Ss_confirmServer_302 rfl (Or.inr ⟨_, rfl⟩) k) ?_
            refine S_getfield d_Ss_confirmServer_303 fg_Ss_17 (w317 _) rfl ?_
            refine ST.lift (fun _ _ k => T_iconst (v := nI 2) d_Ss_confirmServer_306 (by decide) k) ?_
            refine S_aaload (C0 := "PasswordGate$Bytes") d_Ss_confirmServer_307 (by decide) (w319 _) rfl (vp_in_nI (by omega) (by omega)) ?_
            refine ST.lift (fun _ _ k => T_aload_n (v := .ref 62) d_Ss_confirmServer_308 rfl (Or.inr ⟨_, rfl⟩) k) ?_
            refine S_getfield d_Ss_confirmServer_309 fg_Ss_176 (w62 _) rfl ?_
            refine ST.lift (fun _ _ k => T_iconst (v := nI 0) d_Ss_confirmServer_312 (by decide) k) ?_
            refine ST.lift (fun _ _ k => T_bipush (v := nI 64) d_Ss_confirmServer_313 (by decide) k) ?_
            refine S_virtual (as := [.ref 206, .int (nI 0), .int (nI 64)]) (rest := []) (b := 341) d_Ss_confirmServer_315 rfl (jw_By_put.jo (by decide)) lm_Ss_169 ji_By_put js_By_put (w341 _) rfl rfl rfl (Nat.le_of_ble_eq_true rfl) (by decide) (by decide) (c_By_put G u70 341 342 64 53 ⟨w341, a342, by decide, u341_1, by decide, by decide⟩ 206 64 (by decide) a206 (by omega) 0 (by omega) 64 (by omega) hv71) (fun r u74 hq => ?_)
            obtain ⟨hr, hv75, hm76⟩ := hq
            rw [hr]
            clear hr r
            have hm77 := hm73.go hm76 (by intro i hi; simp only [List.mem_cons, List.not_mem_nil, or_false] at hi ⊢ <;> omega)
            show ST G mi_Ss_confirmServer 318 [(3, .ref 334), (0, .ref 317), (1, .ref 62), (2, .ref 217)] [] u74 0 0 _
            refine ST.lift (fun _ _ k => T_iconst (v := nI 0) d_Ss_confirmServer_318 (by decide) k) ?_
            exact S_ret d_Ss_confirmServer_319 rfl rfl (by decide) (by decide) (hQ _ _ hv75 hm77)
          · refine ST.lift (fun _ _ k => T_iconst (v := nI 4) d_Ss_confirmServer_268 (by decide) k) ?_
            exact S_ret d_Ss_confirmServer_269 rfl rfl (by decide) (by decide) (hQ _ _ hv61 hm64)
        · refine ST.lift (fun _ _ k => T_iconst (v := nI 1) d_Ss_confirmServer_176 (by decide) k) ?_
          exact S_ret d_Ss_confirmServer_177 rfl rfl (by decide) (by decide) (hQ _ _ hv35 hm38)
    · refine ST.lift (fun _ _ k => T_iconst (v := nI 3) d_Ss_confirmServer_134 (by decide) k) ?_
      exact S_ret d_Ss_confirmServer_135 rfl rfl (by decide) (by decide) (hQ _ _ hv23 hm26)
  · refine ST.lift (fun _ _ k => T_iconst (v := nI 1) d_Ss_confirmServer_26 (by decide) k) ?_
    exact S_ret d_Ss_confirmServer_27 rfl rfl (by decide) (by decide) (hQ _ _ hv2 hm5)
set_option maxRecDepth 100000 in
set_option maxHeartbeats 4000000 in
theorem c_Ss_confirmClient_317 (G : GX) (v : Nat → Int32) (hv : okv v) : CS G mi_Ss_confirmClient [.ref 317] v (fun r v' => ∃ z : Int32, r = some (.int z) ∧ okv v' ∧ mdf [48, 49, 50, 51, 52, 53, 45, 46, 47, 44, 82, 83, 84] v v') := by
  refine CS.of (by decide) (Nat.le_of_ble_eq_true rfl) ?_
  generalize hQe : (fun (r : Option Value) (v' : Nat → Int32) => ∃ z : Int32, r = some (.int z) ∧ okv v' ∧ mdf [48, 49, 50, 51, 52, 53, 45, 46, 47, 44, 82, 83, 84] v v') = Q
  have hQ : ∀ (z : Int32) (u : Nat → Int32), okv u → mdf [48, 49, 50, 51, 52, 53, 45, 46, 47, 44, 82, 83, 84] v u → Q (some (.int z)) u := by rw [← hQe]; exact fun z u h1 h2 => ⟨z, rfl, h1, h2⟩
  clear hQe
  have hm : mdf [48, 49, 50, 51, 52, 53, 45, 46, 47, 44, 82, 83, 84] v v := mdf.rf
  show ST G mi_Ss_confirmClient 0 [(0, .ref 317)] [] v 0 0 Q
  refine ST.lift (fun _ _ k => T_aload_n (v := .ref 317) d_Ss_confirmClient_0 rfl (Or.inr ⟨_, rfl⟩) k) ?_
  refine S_getfield d_Ss_confirmClient_1 fg_Ss_11 (w317 _) rfl ?_
  refine ST.lift (fun _ _ k => T_iconst (v := nI 2) d_Ss_confirmClient_4 (by decide) k) ?_
  refine S_aaload (C0 := "PasswordGate$Bytes") d_Ss_confirmClient_5 (by decide) (w318 _) rfl (vp_in_nI (by omega) (by omega)) ?_
  refine ST.lift (fun _ _ k => T_iconst (v := nI 0) d_Ss_confirmClient_6 (by decide) k) ?_
  refine ST.lift (fun _ _ k => T_aload_n (v := .ref 317) d_Ss_confirmClient_7 rfl (Or.inr ⟨_, rfl⟩) k) ?_
  refine S_getfield d_Ss_confirmClient_8 fg_Ss_20 (w317 _) rfl ?_
  refine ST.lift (fun _ _ k => T_iconst (v := nI 0) d_Ss_confirmClient_11 (by decide) k) ?_
  refine S_virtual (as := [.int (nI 0), .ref 320, .int (nI 0)]) (rest := []) (b := 335) d_Ss_confirmClient_12 rfl (jw_By_endsLike.jo (by decide)) lm_Ss_136 ji_By_endsLike js_By_endsLike (w335 _) rfl rfl rfl (Nat.le_of_ble_eq_true rfl) (by decide) (by decide) (c_By_endsLike G v 335 336 64 50 ⟨w335, a336, by decide, u335_1, by decide, by decide⟩ 0 (by omega) 320 64 (by decide) a320 (by omega) 0 (by omega) hv) (fun r u1 hq => ?_)
  obtain ⟨z4, hz4, hr, hv2, hm3⟩ := hq
  rw [hr]
  clear hr r
  have hm5 := hm.go hm3 (by intro i hi; simp only [List.mem_cons, List.not_mem_nil, or_false] at hi ⊢ <;> omega)
  show ST G mi_Ss_confirmClient 15 [(0, .ref 317)] [.int (nI z4)] u1 0 0 _
  refine S_if_neN d_Ss_confirmClient_15 rfl (by omega) (fun c6 => ?_) (fun c6 => ?_)
  · refine ST.lift (fun _ _ k => T_aload_n (v := .ref 317) d_Ss_confirmClient_20 rfl (Or.inr ⟨_, rfl⟩) k) ?_
    refine S_getfield d_Ss_confirmClient_21 fg_Ss_17 (w317 _) rfl ?_
    refine ST.lift (fun _ _ k => T_iconst (v := nI 1) d_Ss_confirmClient_24 (by decide) k) ?_
    refine S_aaload (C0 := "PasswordGate$Bytes") d_Ss_confirmClient_25 (by decide) (w319 _) rfl (vp_in_nI (by omega) (by omega)) ?_
    refine ST.lift (fun _ _ k => T_aload_n (v := .ref 317) d_Ss_confirmClient_26 rfl (Or.inr ⟨_, rfl⟩) k) ?_
    refine S_getfield d_Ss_confirmClient_27 fg_Ss_24 (w317 _) rfl ?_
    refine ST.lift (fun _ _ k => T_iconst (v := nI 0) d_Ss_confirmClient_30 (by decide) k) ?_
    refine ST.lift (fun _ _ k => T_bipush (v := nI 64) d_Ss_confirmClient_31 (by decide) k) ?_
    refine S_virtual (as := [.ref 321, .int (nI 0), .int (nI 64)]) (rest := []) (b := 339) d_Ss_confirmClient_33 rfl (jw_By_put.jo (by decide)) lm_Ss_169 ji_By_put js_By_put (w339 _) rfl rfl rfl (Nat.le_of_ble_eq_true rfl) (by decide) (by decide) (c_By_put G u1 339 340 64 52 ⟨w339, a340, by decide, u339_1, by decide, by decide⟩ 321 64 (by decide) a321 (by omega) 0 (by omega) 64 (by omega) hv2) (fun r u7 hq => ?_)
    obtain ⟨hr, hv8, hm9⟩ := hq
    rw [hr]
    clear hr r
    have hm10 := hm5.go hm9 (by intro i hi; simp only [List.mem_cons, List.not_mem_nil, or_false] at hi ⊢ <;> omega)
    show ST G mi_Ss_confirmClient 36 [(0, .ref 317)] [] u7 0 0 _
    refine ST.lift (fun _ _ k => T_iconst (v := nI 0) d_Ss_confirmClient_36 (by decide) k) ?_
    exact S_ret d_Ss_confirmClient_37 rfl rfl (by decide) (by decide) (hQ _ _ hv8 hm10)
  · refine ST.lift (fun _ _ k => T_iconst (v := nI 5) d_Ss_confirmClient_18 (by decide) k) ?_
    exact S_ret d_Ss_confirmClient_19 rfl rfl (by decide) (by decide) (hQ _ _ hv2 hm5)
set_option maxRecDepth 100000 in
set_option maxHeartbeats 4000000 in
theorem c_Ss_take_343_0 (G : GX) (v : Nat → Int32) (hv : okv v) : CS G mi_Ss_take [.ref 343, .int (nI 0)] v (fun r v' => ∃ z : Nat, z ≤ 1 ∧ r = some (.int (nI z)) ∧ okv v' ∧ mdf [85] v v') := by
  refine CS.of (by decide) (Nat.le_of_ble_eq_true rfl) ?_
  generalize hQe : (fun (r : Option Value) (v' : Nat → Int32) => ∃ z : Nat, z ≤ 1 ∧ r = some (.int (nI z)) ∧ okv v' ∧ mdf [85] v v') = Q
  have hQ : ∀ (z : Nat) (u : Nat → Int32), z ≤ 1 → okv u → mdf [85] v u → Q (some (.int (nI z))) u := by rw [← hQe]; exact fun z u hz h1 h2 => ⟨z, hz, rfl, h1, h2⟩
  clear hQe
  have hm : mdf [85] v v := mdf.rf
  show ST G mi_Ss_take 0 [(0, .ref 343), (1, .int (nI 0))] [] v 0 0 Q
  refine ST.lift (fun _ _ k => T_aload_n (v := .ref 343) d_Ss_take_0 rfl (Or.inr ⟨_, rfl⟩) k) ?_
  refine S_getfield d_Ss_take_1 fg_Ss_11 (w343 _) rfl ?_
  refine ST.lift (fun _ _ k => T_iload_n d_Ss_take_4 rfl k) ?_
  refine S_aaload (C0 := "PasswordGate$Bytes") d_Ss_take_5 (by decide) (w344 _) rfl (vp_in_nI (by omega) (by omega)) ?_
  obtain ⟨k1, hk1, ek1⟩ := hv.get (j := 58) (c := 96) (by decide)
  refine S_getfield d_Ss_take_6 fg_Ss_50 (w357 _) rfl ?_
  refine S_topi (y := nI k1) (ek1) ?_
  refine S_if_eqN d_Ss_take_9 rfl (by omega) (fun c2 => ?_) (fun c2 => ?_)
  · refine ST.lift (fun _ _ k => T_iconst (v := nI 0) d_Ss_take_21 (by decide) k) ?_
    exact S_ret d_Ss_take_22 rfl (nar_z (by omega)) (by decide) (by decide) (hQ 0 _ (by omega) hv hm)
  · refine ST.lift (fun _ _ k => T_aload_n (v := .ref 343) d_Ss_take_12 rfl (Or.inr ⟨_, rfl⟩) k) ?_
    refine S_getfield d_Ss_take_13 fg_Ss_27 (w343 _) rfl ?_
    refine ST.lift (fun _ _ k => T_iload_n d_Ss_take_16 rfl k) ?_
    refine S_xload (t := 3) (k := 0) (Or.inr ⟨rfl, d_Ss_take_17⟩) rfl (w348 _) (by decide) (by decide) ?_
    refine S_topi (y := v 85) rfl ?_
    refine S_if_eq d_Ss_take_18 rfl (fun c3 => ?_) (fun c3 => ?_)
    · refine ST.lift (fun _ _ k => T_aload_n (v := .ref 343) d_Ss_take_23 rfl (Or.inr ⟨_, rfl⟩) k) ?_
      refine S_getfield d_Ss_take_24 fg_Ss_27 (w343 _) rfl ?_
      refine ST.lift (fun _ _ k => T_iload_n d_Ss_take_27 rfl k) ?_
      refine ST.lift (fun _ _ k => T_iconst (v := nI 1) d_Ss_take_28 (by decide) k) ?_
      refine S_xstore (k := 0) (y := (nI 1)) (v' := va_up v 85 (nI 1)) (Or.inr ⟨rfl, by decide, d_Ss_take_29⟩) (by decide) rfl (w348 _) (by decide) (by decide) (x348_0 _ _) ?_
      have hv5 := hv.off (j := 85) (x := (nI 1)) (by decide)
      have hm6 := hm.go (mdf.up (v := v) (j := 85) (x := (nI 1))) (by intro i hi; simp only [List.mem_cons, List.not_mem_nil, or_false] at hi ⊢ <;> omega)
      have e_u4 : (va_up v 85 (nI 1)) 85 = (nI 1) := by simp [va_up]
      have e7 : (va_up v 85 (nI 1)) 58 = nI k1 := by simp only [va_up]; exact ek1
      generalize va_up v 85 (nI 1) = u4 at hv5 hm6 e_u4 e7 ⊢
      refine ST.lift (fun _ _ k => T_iconst (v := nI 1) d_Ss_take_30 (by decide) k) ?_
      exact S_ret d_Ss_take_31 rfl (nar_z (by omega)) (by decide) (by decide) (hQ 1 _ (by omega) hv5 hm6)
    · refine ST.lift (fun _ _ k => T_iconst (v := nI 0) d_Ss_take_21 (by decide) k) ?_
      exact S_ret d_Ss_take_22 rfl (nar_z (by omega)) (by decide) (by decide) (hQ 0 _ (by omega) hv hm)
set_option maxRecDepth 100000 in
set_option maxHeartbeats 4000000 in
theorem c_Ss_take_343_1 (G : GX) (v : Nat → Int32) (hv : okv v) : CS G mi_Ss_take [.ref 343, .int (nI 1)] v (fun r v' => ∃ z : Nat, z ≤ 1 ∧ r = some (.int (nI z)) ∧ okv v' ∧ mdf [86] v v') := by
  refine CS.of (by decide) (Nat.le_of_ble_eq_true rfl) ?_
  generalize hQe : (fun (r : Option Value) (v' : Nat → Int32) => ∃ z : Nat, z ≤ 1 ∧ r = some (.int (nI z)) ∧ okv v' ∧ mdf [86] v v') = Q
  have hQ : ∀ (z : Nat) (u : Nat → Int32), z ≤ 1 → okv u → mdf [86] v u → Q (some (.int (nI z))) u := by rw [← hQe]; exact fun z u hz h1 h2 => ⟨z, hz, rfl, h1, h2⟩
  clear hQe
  have hm : mdf [86] v v := mdf.rf
  show ST G mi_Ss_take 0 [(0, .ref 343), (1, .int (nI 1))] [] v 0 0 Q
  refine ST.lift (fun _ _ k => T_aload_n (v := .ref 343) d_Ss_take_0 rfl (Or.inr ⟨_, rfl⟩) k) ?_
  refine S_getfield d_Ss_take_1 fg_Ss_11 (w343 _) rfl ?_
  refine ST.lift (fun _ _ k => T_iload_n d_Ss_take_4 rfl k) ?_
  refine S_aaload (C0 := "PasswordGate$Bytes") d_Ss_take_5 (by decide) (w344 _) rfl (vp_in_nI (by omega) (by omega)) ?_
  obtain ⟨k1, hk1, ek1⟩ := hv.get (j := 59) (c := 320) (by decide)
  refine S_getfield d_Ss_take_6 fg_Ss_50 (w359 _) rfl ?_
  refine S_topi (y := nI k1) (ek1) ?_
  refine S_if_eqN d_Ss_take_9 rfl (by omega) (fun c2 => ?_) (fun c2 => ?_)
  · refine ST.lift (fun _ _ k => T_iconst (v := nI 0) d_Ss_take_21 (by decide) k) ?_
    exact S_ret d_Ss_take_22 rfl (nar_z (by omega)) (by decide) (by decide) (hQ 0 _ (by omega) hv hm)
  · refine ST.lift (fun _ _ k => T_aload_n (v := .ref 343) d_Ss_take_12 rfl (Or.inr ⟨_, rfl⟩) k) ?_
    refine S_getfield d_Ss_take_13 fg_Ss_27 (w343 _) rfl ?_
    refine ST.lift (fun _ _ k => T_iload_n d_Ss_take_16 rfl k) ?_
    refine S_xload (t := 3) (k := 1) (Or.inr ⟨rfl, d_Ss_take_17⟩) rfl (w348 _) (by decide) (by decide) ?_
    refine S_topi (y := v 86) rfl ?_
    refine S_if_eq d_Ss_take_18 rfl (fun c3 => ?_) (fun c3 => ?_)
    · refine ST.lift (fun _ _ k => T_aload_n (v := .ref 343) d_Ss_take_23 rfl (Or.inr ⟨_, rfl⟩) k) ?_
      refine S_getfield d_Ss_take_24 fg_Ss_27 (w343 _) rfl ?_
      refine ST.lift (fun _ _ k => T_iload_n d_Ss_take_27 rfl k) ?_
      refine ST.lift (fun _ _ k => T_iconst (v := nI 1) d_Ss_take_28 (by decide) k) ?_
      refine S_xstore (k := 1) (y := (nI 1)) (v' := va_up v 86 (nI 1)) (Or.inr ⟨rfl, by decide, d_Ss_take_29⟩) (by decide) rfl (w348 _) (by decide) (by decide) (x348_1 _ _) ?_
      have hv5 := hv.off (j := 86) (x := (nI 1)) (by decide)
      have hm6 := hm.go (mdf.up (v := v) (j := 86) (x := (nI 1))) (by intro i hi; simp only [List.mem_cons, List.not_mem_nil, or_false] at hi ⊢ <;> omega)
      have e_u4 : (va_up v 86 (nI 1)) 86 = (nI 1) := by simp [va_up]
      have e7 : (va_up v 86 (nI 1)) 59 = nI k1 := by simp only [va_up]; exact ek1
      generalize va_up v 86 (nI 1) = u4 at hv5 hm6 e_u4 e7 ⊢
      refine ST.lift (fun _ _ k => T_iconst (v := nI 1) d_Ss_take_30 (by decide) k) ?_
      exact S_ret d_Ss_take_31 rfl (nar_z (by omega)) (by decide) (by decide) (hQ 1 _ (by omega) hv5 hm6)
    · refine ST.lift (fun _ _ k => T_iconst (v := nI 0) d_Ss_take_21 (by decide) k) ?_
      exact S_ret d_Ss_take_22 rfl (nar_z (by omega)) (by decide) (by decide) (hQ 0 _ (by omega) hv hm)
set_option maxRecDepth 100000 in
set_option maxHeartbeats 4000000 in
theorem c_Ss_take_343_2 (G : GX) (v : Nat → Int32) (hv : okv v) : CS G mi_Ss_take [.ref 343, .int (nI 2)] v (fun r v' => ∃ z : Nat, z ≤ 1 ∧ r = some (.int (nI z)) ∧ okv v' ∧ mdf [87] v v') := by
  refine CS.of (by decide) (Nat.le_of_ble_eq_true rfl) ?_
  generalize hQe : (fun (r : Option Value) (v' : Nat → Int32) => ∃ z : Nat, z ≤ 1 ∧ r = some (.int (nI z)) ∧ okv v' ∧ mdf [87] v v') = Q
  have hQ : ∀ (z : Nat) (u : Nat → Int32), z ≤ 1 → okv u → mdf [87] v u → Q (some (.int (nI z))) u := by rw [← hQe]; exact fun z u hz h1 h2 => ⟨z, hz, rfl, h1, h2⟩
  clear hQe
  have hm : mdf [87] v v := mdf.rf
  show ST G mi_Ss_take 0 [(0, .ref 343), (1, .int (nI 2))] [] v 0 0 Q
  refine ST.lift (fun _ _ k => T_aload_n (v := .ref 343) d_Ss_take_0 rfl (Or.inr ⟨_, rfl⟩) k) ?_
  refine S_getfield d_Ss_take_1 fg_Ss_11 (w343 _) rfl ?_
  refine ST.lift (fun _ _ k => T_iload_n d_Ss_take_4 rfl k) ?_
  refine S_aaload (C0 := "PasswordGate$Bytes") d_Ss_take_5 (by decide) (w344 _) rfl (vp_in_nI (by omega) (by omega)) ?_
  obtain ⟨k1, hk1, ek1⟩ := hv.get (j := 60) (c := 64) (by decide)
  refine S_getfield d_Ss_take_6 fg_Ss_50 (w361 _) rfl ?_
  refine S_topi (y := nI k1) (ek1) ?_
  refine S_if_eqN d_Ss_take_9 rfl (by omega) (fun c2 => ?_) (fun c2 => ?_)
  · refine ST.lift (fun _ _ k => T_iconst (v := nI 0) d_Ss_take_21 (by decide) k) ?_
    exact S_ret d_Ss_take_22 rfl (nar_z (by omega)) (by decide) (by decide) (hQ 0 _ (by omega) hv hm)
  · refine ST.lift (fun _ _ k => T_aload_n (v := .ref 343) d_Ss_take_12 rfl (Or.inr ⟨_, rfl⟩) k) ?_
    refine S_getfield d_Ss_take_13 fg_Ss_27 (w343 _) rfl ?_
    refine ST.lift (fun _ _ k => T_iload_n d_Ss_take_16 rfl k) ?_
    refine S_xload (t := 3) (k := 2) (Or.inr ⟨rfl, d_Ss_take_17⟩) rfl (w348 _) (by decide) (by decide) ?_
    refine S_topi (y := v 87) rfl ?_
    refine S_if_eq d_Ss_take_18 rfl (fun c3 => ?_) (fun c3 => ?_)
    · refine ST.lift (fun _ _ k => T_aload_n (v := .ref 343) d_Ss_take_23 rfl (Or.inr ⟨_, rfl⟩) k) ?_
      refine S_getfield d_Ss_take_24 fg_Ss_27 (w343 _) rfl ?_
      refine ST.lift (fun _ _ k => T_iload_n d_Ss_take_27 rfl k) ?_
      refine ST.lift (fun _ _ k => T_iconst (v := nI 1) d_Ss_take_28 (by decide) k) ?_
      refine S_xstore (k := 2) (y := (nI 1)) (v' := va_up v 87 (nI 1)) (Or.inr ⟨rfl, by decide, d_Ss_take_29⟩) (by decide) rfl (w348 _) (by decide) (by decide) (x348_2 _ _) ?_
      have hv5 := hv.off (j := 87) (x := (nI 1)) (by decide)
      have hm6 := hm.go (mdf.up (v := v) (j := 87) (x := (nI 1))) (by intro i hi; simp only [List.mem_cons, List.not_mem_nil, or_false] at hi ⊢ <;> omega)
      have e_u4 : (va_up v 87 (nI 1)) 87 = (nI 1) := by simp [va_up]
      have e7 : (va_up v 87 (nI 1)) 60 = nI k1 := by simp only [va_up]; exact ek1
      generalize va_up v 87 (nI 1) = u4 at hv5 hm6 e_u4 e7 ⊢
      refine ST.lift (fun _ _ k => T_iconst (v := nI 1) d_Ss_take_30 (by decide) k) ?_
      exact S_ret d_Ss_take_31 rfl (nar_z (by omega)) (by decide) (by decide) (hQ 1 _ (by omega) hv5 hm6)
    · refine ST.lift (fun _ _ k => T_iconst (v := nI 0) d_Ss_take_21 (by decide) k) ?_
      exact S_ret d_Ss_take_22 rfl (nar_z (by omega)) (by decide) (by decide) (hQ 0 _ (by omega) hv hm)
set_option maxRecDepth 100000 in
set_option maxHeartbeats 4000000 in
theorem c_Ss_start_343 (G : GX) (v : Nat → Int32) (usr : Nat) (b_usr : usr ≤ 7) (b bd bc bj : Nat) (y_b : isBy b bd bc bj) (hv : okv v) : CS G mi_Ss_start [.ref 343, .ref 62, .int (nI usr), .ref b] v (fun r v' => r = none ∧ okv v' ∧ mdf [6, 7, 5, 2, 3, 1, 4, 58, 59, 60, 61, 62, 63, 55, 56, 57, 54, 85, 86, 87] v v') := by
  refine CS.of (by decide) (Nat.le_of_ble_eq_true rfl) ?_
  generalize hQe : (fun (r : Option Value) (v' : Nat → Int32) => r = none ∧ okv v' ∧ mdf [6, 7, 5, 2, 3, 1, 4, 58, 59, 60, 61, 62, 63, 55, 56, 57, 54, 85, 86, 87] v v') = Q
  have hQ : ∀ u, okv u → mdf [6, 7, 5, 2, 3, 1, 4, 58, 59, 60, 61, 62, 63, 55, 56, 57, 54, 85, 86, 87] v u → Q none u := by rw [← hQe]; exact fun u h1 h2 => ⟨rfl, h1, h2⟩
  clear hQe
  have hm : mdf [6, 7, 5, 2, 3, 1, 4, 58, 59, 60, 61, 62, 63, 55, 56, 57, 54, 85, 86, 87] v v := mdf.rf
  have l_b := y_b.2.2.2.2.2
  show ST G mi_Ss_start 0 [(0, .ref 343), (1, .ref 62), (2, .int (nI usr)), (3, .ref b)] [] v 0 0 Q
  refine ST.lift (fun _ _ k => T_iconst (v := nI 0) d_Ss_start_0 (by decide) k) ?_
  refine ST.lift (fun _ _ k => T_istore (L' := [(4, .int (nI 0)), (0, .ref 343), (1, .ref 62), (2, .int (nI usr)), (3, .ref b)]) d_Ss_start_1 (by decide) rfl k) ?_
  refine ST.lift (fun _ _ k => T_iload d_Ss_start_3 rfl k) ?_
  refine ST.lift (fun _ _ k => T_iconst (v := nI 3) d_Ss_start_5 (by decide) k) ?_
  refine S_icmp_geN d_Ss_start_6 rfl (by omega) (by omega) (fun c => by first | exact absurd c (by omega) | exact c.elim | exact absurd c (by decide) | exact absurd (by assumption) c | exact absurd c (by assumption)) (fun _ => ?_)
  refine ST.lift (fun _ _ k => T_aload_n (v := .ref 343) d_Ss_start_9 rfl (Or.inr ⟨_, rfl⟩) k) ?_
  refine S_getfield d_Ss_start_10 fg_Ss_11 (w343 _) rfl ?_
  refine ST.lift (fun _ _ k => T_iload d_Ss_start_13 rfl k) ?_
  refine S_aaload (C0 := "PasswordGate$Bytes") d_Ss_start_15 (by decide) (w344 _) rfl (vp_in_nI (by omega) (by omega)) ?_
  refine S_virtual (as := []) (rest := []) (b := 357) d_Ss_start_16 rfl (jw_By_clear.jo (by decide)) lm_Ss_54 ji_By_clear js_By_clear (w357 _) rfl rfl rfl (Nat.le_of_ble_eq_true rfl) (by decide) (by decide) (c_By_clear G v 357 358 96 58 ⟨w357, a358, by decide, u357_1, by decide, by decide⟩ hv) (fun r v' hq => ?_)
  rw [hq.1, hq.2]
  clear hq r v'
  show ST G mi_Ss_start 19 [(4, .int (nI 0)), (0, .ref 343), (1, .ref 62), (2, .int (nI usr)), (3, .ref b)] [] (va_up v 58 (nI 0)) 0 0 _
  have hv2 := hv.up (j := 58) (c := 96) (k := 0) (by decide) (by omega)
  have hm3 := hm.go (mdf.up (v := v) (j := 58) (x := (nI 0))) (by intro i hi; simp only [List.mem_cons, List.not_mem_nil, or_false] at hi ⊢ <;> omega)
  have e_u1 : (va_up v 58 (nI 0)) 58 = (nI 0) := by simp [va_up]
  generalize va_up v 58 (nI 0) = u1 at hv2 hm3 e_u1 ⊢
  refine ST.lift (fun _ _ k => T_aload_n (v := .ref 343) d_Ss_start_19 rfl (Or.inr ⟨_, rfl⟩) k) ?_
  refine S_getfield d_Ss_start_20 fg_Ss_17 (w343 _) rfl ?_
  refine ST.lift (fun _ _ k => T_iload d_Ss_start_23 rfl k) ?_
  refine S_aaload (C0 := "PasswordGate$Bytes") d_Ss_start_25 (by decide) (w345 _) rfl (vp_in_nI (by omega) (by omega)) ?_
  refine S_virtual (as := []) (rest := []) (b := 363) d_Ss_start_26 rfl (jw_By_clear.jo (by decide)) lm_Ss_54 ji_By_clear js_By_clear (w363 _) rfl rfl rfl (Nat.le_of_ble_eq_true rfl) (by decide) (by decide) (c_By_clear G u1 363 364 64 61 ⟨w363, a364, by decide, u363_1, by decide, by decide⟩ hv2) (fun r v' hq => ?_)
  rw [hq.1, hq.2]
  clear hq r v'
  show ST G mi_Ss_start 29 [(4, .int (nI 0)), (0, .ref 343), (1, .ref 62), (2, .int (nI usr)), (3, .ref b)] [] (va_up u1 61 (nI 0)) 0 0 _
  have hv5 := hv2.up (j := 61) (c := 64) (k := 0) (by decide) (by omega)
  have hm6 := hm3.go (mdf.up (v := u1) (j := 61) (x := (nI 0))) (by intro i hi; simp only [List.mem_cons, List.not_mem_nil, or_false] at hi ⊢ <;> omega)
  have e_u4 : (va_up u1 61 (nI 0)) 61 = (nI 0) := by simp [va_up]
  have e7 : (va_up u1 61 (nI 0)) 58 = nI 0 := by simp only [va_up]; exact e_u1
  generalize va_up u1 61 (nI 0) = u4 at hv5 hm6 e_u4 e7 ⊢
  refine ST.lift (fun _ _ k => T_aload_n (v := .ref 343) d_Ss_start_29 rfl (Or.inr ⟨_, rfl⟩) k) ?_
  refine S_getfield d_Ss_start_30 fg_Ss_27 (w343 _) rfl ?_
  refine ST.lift (fun _ _ k => T_iload d_Ss_start_33 rfl k) ?_
  refine ST.lift (fun _ _ k => T_iconst (v := nI 0) d_Ss_start_35 (by decide) k) ?_
  refine S_xstore (k := 0) (y := (nI 0)) (v' := va_up u4 85 (nI 0)) (Or.inr ⟨rfl, by decide, d_Ss_start_36⟩) (by decide) rfl (w348 _) (by decide) (by decide) (x348_0 _ _) ?_
  have hv9 := hv5.off (j := 85) (x := (nI 0)) (by decide)
  have hm10 := hm6.go (mdf.up (v := u4) (j := 85) (x := (nI 0))) (by intro i hi; simp only [List.mem_cons, List.not_mem_nil, or_false] at hi ⊢ <;> omega)
  have e_u8 : (va_up u4 85 (nI 0)) 85 = (nI 0) := by simp [va_up]
  have e11 : (va_up u4 85 (nI 0)) 58 = nI 0 := by simp only [va_up]; exact e7
  have e12 : (va_up u4 85 (nI 0)) 61 = nI 0 := by simp only [va_up]; exact e_u4
  generalize va_up u4 85 (nI 0) = u8 at hv9 hm10 e_u8 e11 e12 ⊢
  refine S_iincN (a := 0) (b := 1) (L' := [(4, .int (nI 1)), (0, .ref 343), (1, .ref 62), (2, .int (nI usr)), (3, .ref b)]) d_Ss_start_37 (by decide) rfl rfl rfl ?_
  refine ST.lift (fun _ _ k => T_goto (tgt := 3) d_Ss_start_40 rfl k) ?_
  refine ST.lift (fun _ _ k => T_iload d_Ss_start_3 rfl k) ?_
  refine ST.lift (fun _ _ k => T_iconst (v := nI 3) d_Ss_start_5 (by decide) k) ?_
  refine S_icmp_geN d_Ss_start_6 rfl (by omega) (by omega) (fun c => by first | exact absurd c (by omega) | exact c.elim | exact absurd c (by decide) | exact absurd (by assumption) c | exact absurd c (by assumption)) (fun _ => ?_)
  refine ST.lift (fun _ _ k => T_aload_n (v := .ref 343) d_Ss_start_9 rfl (Or.inr ⟨_, rfl⟩) k) ?_
  refine S_getfield d_Ss_start_10 fg_Ss_11 (w343 _) rfl ?_
  refine ST.lift (fun _ _ k => T_iload d_Ss_start_13 rfl k) ?_
  refine S_aaload (C0 := "PasswordGate$Bytes") d_Ss_start_15 (by decide) (w344 _) rfl (vp_in_nI (by omega) (by omega)) ?_
  refine S_virtual (as := []) (rest := []) (b := 359) d_Ss_start_16 rfl (jw_By_clear.jo (by decide)) lm_Ss_54 ji_By_clear js_By_clear (w359 _) rfl rfl rfl (Nat.le_of_ble_eq_true rfl) (by decide) (by decide) (c_By_clear G u8 359 360 320 59 ⟨w359, a360, by decide, u359_1, by decide, by decide⟩ hv9) (fun r v' hq => ?_)
  rw [hq.1, hq.2]
  clear hq r v'
  show ST G mi_Ss_start 19 [(4, .int (nI 1)), (0, .ref 343), (1, .ref 62), (2, .int (nI usr)), (3, .ref b)] [] (va_up u8 59 (nI 0)) 0 0 _
  have hv14 := hv9.up (j := 59) (c := 320) (k := 0) (by decide) (by omega)
  have hm15 := hm10.go (mdf.up (v := u8) (j := 59) (x := (nI 0))) (by intro i hi; simp only [List.mem_cons, List.not_mem_nil, or_false] at hi ⊢ <;> omega)
  have e_u13 : (va_up u8 59 (nI 0)) 59 = (nI 0) := by simp [va_up]
  have e16 : (va_up u8 59 (nI 0)) 58 = nI 0 := by simp only [va_up]; exact e11
  have e17 : (va_up u8 59 (nI 0)) 61 = nI 0 := by simp only [va_up]; exact e12
  have e18 : (va_up u8 59 (nI 0)) 85 = nI 0 := by simp only [va_up]; exact e_u8
  generalize va_up u8 59 (nI 0) = u13 at hv14 hm15 e_u13 e16 e17 e18 ⊢
  refine ST.lift (fun _ _ k => T_aload_n (v := .ref 343) d_Ss_start_19 rfl (Or.inr ⟨_, rfl⟩) k) ?_
  refine S_getfield d_Ss_start_20 fg_Ss_17 (w343 _) rfl ?_
  refine ST.lift (fun _ _ k => T_iload d_Ss_start_23 rfl k) ?_
  refine S_aaload (C0 := "PasswordGate$Bytes") d_Ss_start_25 (by decide) (w345 _) rfl (vp_in_nI (by omega) (by omega)) ?_
  refine S_virtual (as := []) (rest := []) (b := 365) d_Ss_start_26 rfl (jw_By_clear.jo (by decide)) lm_Ss_54 ji_By_clear js_By_clear (w365 _) rfl rfl rfl (Nat.le_of_ble_eq_true rfl) (by decide) (by decide) (c_By_clear G u13 365 366 64 62 ⟨w365, a366, by decide, u365_1, by decide, by decide⟩ hv14) (fun r v' hq => ?_)
  rw [hq.1, hq.2]
  clear hq r v'
  show ST G mi_Ss_start 29 [(4, .int (nI 1)), (0, .ref 343), (1, .ref 62), (2, .int (nI usr)), (3, .ref b)] [] (va_up u13 62 (nI 0)) 0 0 _
  have hv20 := hv14.up (j := 62) (c := 64) (k := 0) (by decide) (by omega)
  have hm21 := hm15.go (mdf.up (v := u13) (j := 62) (x := (nI 0))) (by intro i hi; simp only [List.mem_cons, List.not_mem_nil, or_false] at hi ⊢ <;> omega)
  have e_u19 : (va_up u13 62 (nI 0)) 62 = (nI 0) := by simp [va_up]
  have e22 : (va_up u13 62 (nI 0)) 58 = nI 0 := by simp only [va_up]; exact e16
  have e23 : (va_up u13 62 (nI 0)) 61 = nI 0 := by simp only [va_up]; exact e17
  have e24 : (va_up u13 62 (nI 0)) 85 = nI 0 := by simp only [va_up]; exact e18
  have e25 : (va_up u13 62 (nI 0)) 59 = nI 0 := by simp only [va_up]; exact e_u13
  generalize va_up u13 62 (nI 0) = u19 at hv20 hm21 e_u19 e22 e23 e24 e25 ⊢
  refine ST.lift (fun _ _ k => T_aload_n (v := .ref 343) d_Ss_start_29 rfl (Or.inr ⟨_, rfl⟩) k) ?_
  refine S_getfield d_Ss_start_30 fg_Ss_27 (w343 _) rfl ?_
  refine ST.lift (fun _ _ k => T_iload d_Ss_start_33 rfl k) ?_
  refine ST.lift (fun _ _ k => T_iconst (v := nI 0) d_Ss_start_35 (by decide) k) ?_
  refine S_xstore (k := 1) (y := (nI 0)) (v' := va_up u19 86 (nI 0)) (Or.inr ⟨rfl, by decide, d_Ss_start_36⟩) (by decide) rfl (w348 _) (by decide) (by decide) (x348_1 _ _) ?_
  have hv27 := hv20.off (j := 86) (x := (nI 0)) (by decide)
  have hm28 := hm21.go (mdf.up (v := u19) (j := 86) (x := (nI 0))) (by intro i hi; simp only [List.mem_cons, List.not_mem_nil, or_false] at hi ⊢ <;> omega)
  have e_u26 : (va_up u19 86 (nI 0)) 86 = (nI 0) := by simp [va_up]
  have e29 : (va_up u19 86 (nI 0)) 58 = nI 0 := by simp only [va_up]; exact e22
  have e30 : (va_up u19 86 (nI 0)) 61 = nI 0 := by simp only [va_up]; exact e23
  have e31 : (va_up u19 86 (nI 0)) 85 = nI 0 := by simp only [va_up]; exact e24
  have e32 : (va_up u19 86 (nI 0)) 59 = nI 0 := by simp only [va_up]; exact e25
  have e33 : (va_up u19 86 (nI 0)) 62 = nI 0 := by simp only [va_up]; exact e_u19
  generalize va_up u19 86 (nI 0) = u26 at hv27 hm28 e_u26 e29 e30 e31 e32 e33 ⊢
  refine S_iincN (a := 1) (b := 1) (L' := [(4, .int (nI 2)), (0, .ref 343), (1, .ref 62), (2, .int (nI usr)), (3, .ref b)]) d_Ss_start_37 (by decide) rfl rfl rfl ?_
  refine ST.lift (fun _ _ k => T_goto (tgt := 3) d_Ss_start_40 rfl k) ?_
  refine ST.lift (fun _ _ k => T_iload d_Ss_start_3 rfl k) ?_
  refine ST.lift (fun _ _ k => T_iconst (v := nI 3) d_Ss_start_5 (by decide) k) ?_
  refine S_icmp_geN d_Ss_start_6 rfl (by omega) (by omega) (fun c => by first | exact absurd c (by omega) | exact c.elim | exact absurd c (by decide) | exact absurd (by assumption) c | exact absurd c (by assumption)) (fun _ => ?_)
  refine ST.lift (fun _ _ k => T_aload_n (v := .ref 343) d_Ss_start_9 rfl (Or.inr ⟨_, rfl⟩) k) ?_
  refine S_getfield d_Ss_start_10 fg_Ss_11 (w343 _) rfl ?_
  refine ST.lift (fun _ _ k => T_iload d_Ss_start_13 rfl k) ?_
  refine S_aaload (C0 := "PasswordGate$Bytes") d_Ss_start_15 (by decide) (w344 _) rfl (vp_in_nI (by omega) (by omega)) ?_
  refine S_virtual (as := []) (rest := []) (b := 361) d_Ss_start_16 rfl (jw_By_clear.jo (by decide)) lm_Ss_54 ji_By_clear js_By_clear (w361 _) rfl rfl rfl (Nat.le_of_ble_eq_true rfl) (by decide) (by decide) (c_By_clear G u26 361 362 64 60 ⟨w361, a362, by decide, u361_1, by decide, by decide⟩ hv27) (fun r v' hq => ?_)
  rw [hq.1, hq.2]
  clear hq r v'
  show ST G mi_Ss_start 19 [(4, .int (nI 2)), (0, .ref 343), (1, .ref 62), (2, .int (nI usr)), (3, .ref b)] [] (va_up u26 60 (nI 0)) 0 0 _
  have hv35 := hv27.up (j := 60) (c := 64) (k := 0) (by decide) (by omega)
  have hm36 := hm28.go (mdf.up (v := u26) (j := 60) (x := (nI 0))) (by intro i hi; simp only [List.mem_cons, List.not_mem_nil, or_false] at hi ⊢ <;> omega)
  have e_u34 : (va_up u26 60 (nI 0)) 60 = (nI 0) := by simp [va_up]
  have e37 : (va_up u26 60 (nI 0)) 58 = nI 0 := by simp only [va_up]; exact e29
  have e38 : (va_up u26 60 (nI 0)) 61 = nI 0 := by simp only [va_up]; exact e30
  have e39 : (va_up u26 60 (nI 0)) 85 = nI 0 := by simp only [va_up]; exact e31
  have e40 : (va_up u26 60 (nI 0)) 59 = nI 0 := by simp only [va_up]; exact e32
  have e41 : (va_up u26 60 (nI 0)) 62 = nI 0 := by simp only [va_up]; exact e33
  have e42 : (va_up u26 60 (nI 0)) 86 = nI 0 := by simp only [va_up]; exact e_u26
  generalize va_up u26 60 (nI 0) = u34 at hv35 hm36 e_u34 e37 e38 e39 e40 e41 e42 ⊢
  refine ST.lift (fun _ _ k => T_aload_n (v := .ref 343) d_Ss_start_19 rfl (Or.inr ⟨_, rfl⟩) k) ?_
  refine S_getfield d_Ss_start_20 fg_Ss_17 (w343 _) rfl ?_
  refine ST.lift (fun _ _ k => T_iload d_Ss_start_23 rfl k) ?_
  refine S_aaload (C0 := "PasswordGate$Bytes") d_Ss_start_25 (by decide) (w345 _) rfl (vp_in_nI (by omega) (by omega)) ?_
  refine S_virtual (as := []) (rest := []) (b := 367) d_Ss_start_26 rfl (jw_By_clear.jo (by decide)) lm_Ss_54 ji_By_clear js_By_clear (w367 _) rfl rfl rfl (Nat.le_of_ble_eq_true rfl) (by decide) (by decide) (c_By_clear G u34 367 368 64 63 ⟨w367, a368, by decide, u367_1, by decide, by decide⟩ hv35) (fun r v' hq => ?_)
  rw [hq.1, hq.2]
  clear hq r v'
  show ST G mi_Ss_start 29 [(4, .int (nI 2)), (0, .ref 343), (1, .ref 62), (2, .int (nI usr)), (3, .ref b)] [] (va_up u34 63 (nI 0)) 0 0 _
  have hv44 := hv35.up (j := 63) (c := 64) (k := 0) (by decide) (by omega)
  have hm45 := hm36.go (mdf.up (v := u34) (j := 63) (x := (nI 0))) (by intro i hi; simp only [List.mem_cons, List.not_mem_nil, or_false] at hi ⊢ <;> omega)
  have e_u43 : (va_up u34 63 (nI 0)) 63 = (nI 0) := by simp [va_up]
  have e46 : (va_up u34 63 (nI 0)) 58 = nI 0 := by simp only [va_up]; exact e37
  have e47 : (va_up u34 63 (nI 0)) 61 = nI 0 := by simp only [va_up]; exact e38
  have e48 : (va_up u34 63 (nI 0)) 85 = nI 0 := by simp only [va_up]; exact e39
  have e49 : (va_up u34 63 (nI 0)) 59 = nI 0 := by simp only [va_up]; exact e40
  have e50 : (va_up u34 63 (nI 0)) 62 = nI 0 := by simp only [va_up]; exact e41
  have e51 : (va_up u34 63 (nI 0)) 86 = nI 0 := by simp only [va_up]; exact e42
  have e52 : (va_up u34 63 (nI 0)) 60 = nI 0 := by simp only [va_up]; exact e_u34
  generalize va_up u34 63 (nI 0) = u43 at hv44 hm45 e_u43 e46 e47 e48 e49 e50 e51 e52 ⊢
  refine ST.lift (fun _ _ k => T_aload_n (v := .ref 343) d_Ss_start_29 rfl (Or.inr ⟨_, rfl⟩) k) ?_
  refine S_getfield d_Ss_start_30 fg_Ss_27 (w343 _) rfl ?_
  refine ST.lift (fun _ _ k => T_iload d_Ss_start_33 rfl k) ?_
  refine ST.lift (fun _ _ k => T_iconst (v := nI 0) d_Ss_start_35 (by decide) k) ?_
  refine S_xstore (k := 2) (y := (nI 0)) (v' := va_up u43 87 (nI 0)) (Or.inr ⟨rfl, by decide, d_Ss_start_36⟩) (by decide) rfl (w348 _) (by decide) (by decide) (x348_2 _ _) ?_
  have hv54 := hv44.off (j := 87) (x := (nI 0)) (by decide)
  have hm55 := hm45.go (mdf.up (v := u43) (j := 87) (x := (nI 0))) (by intro i hi; simp only [List.mem_cons, List.not_mem_nil, or_false] at hi ⊢ <;> omega)
  have e_u53 : (va_up u43 87 (nI 0)) 87 = (nI 0) := by simp [va_up]
  have e56 : (va_up u43 87 (nI 0)) 58 = nI 0 := by simp only [va_up]; exact e46
  have e57 : (va_up u43 87 (nI 0)) 61 = nI 0 := by simp only [va_up]; exact e47
  have e58 : (va_up u43 87 (nI 0)) 85 = nI 0 := by simp only [va_up]; exact e48
  have e59 : (va_up u43 87 (nI 0)) 59 = nI 0 := by simp only [va_up]; exact e49
  have e60 : (va_up u43 87 (nI 0)) 62 = nI 0 := by simp only [va_up]; exact e50
  have e61 : (va_up u43 87 (nI 0)) 86 = nI 0 := by simp only [va_up]; exact e51
  have e62 : (va_up u43 87 (nI 0)) 60 = nI 0 := by simp only [va_up]; exact e52
  have e63 : (va_up u43 87 (nI 0)) 63 = nI 0 := by simp only [va_up]; exact e_u43
  generalize va_up u43 87 (nI 0) = u53 at hv54 hm55 e_u53 e56 e57 e58 e59 e60 e61 e62 e63 ⊢
  refine S_iincN (a := 2) (b := 1) (L' := [(4, .int (nI 3)), (0, .ref 343), (1, .ref 62), (2, .int (nI usr)), (3, .ref b)]) d_Ss_start_37 (by decide) rfl rfl rfl ?_
  refine ST.lift (fun _ _ k => T_goto (tgt := 3) d_Ss_start_40 rfl k) ?_
  refine ST.lift (fun _ _ k => T_iload d_Ss_start_3 rfl k) ?_
  refine ST.lift (fun _ _ k => T_iconst (v := nI 3) d_Ss_start_5 (by decide) k) ?_
  refine S_icmp_geN d_Ss_start_6 rfl (by omega) (by omega) (fun _ => ?_) (fun c => by first | exact absurd c (by omega) | exact c.elim | exact absurd c (by decide) | exact absurd (by assumption) c | exact absurd c (by assumption))
  refine ST.lift (fun _ _ k => T_aload_n (v := .ref 343) d_Ss_start_43 rfl (Or.inr ⟨_, rfl⟩) k) ?_
  refine ST.lift (fun _ _ k => T_iload_n d_Ss_start_44 rfl k) ?_
  refine S_putfield (v' := va_up u53 54 (nI usr)) d_Ss_start_45 (fp_Ss_57 _) (w343 _) (Nat.le_of_ble_eq_true rfl) ⟨rfl, rfl⟩ (u343_4 _ _) ?_
  have hv65 := hv54.up (j := 54) (c := 7) (k := usr) (by decide) (by omega)
  have hm66 := hm55.go (mdf.up (v := u53) (j := 54) (x := (nI usr))) (by intro i hi; simp only [List.mem_cons, List.not_mem_nil, or_false] at hi ⊢ <;> omega)
  have e_u64 : (va_up u53 54 (nI usr)) 54 = (nI usr) := by simp [va_up]
  have e67 : (va_up u53 54 (nI usr)) 58 = nI 0 := by simp only [va_up]; exact e56
  have e68 : (va_up u53 54 (nI usr)) 61 = nI 0 := by simp only [va_up]; exact e57
  have e69 : (va_up u53 54 (nI usr)) 85 = nI 0 := by simp only [va_up]; exact e58
  have e70 : (va_up u53 54 (nI usr)) 59 = nI 0 := by simp only [va_up]; exact e59
  have e71 : (va_up u53 54 (nI usr)) 62 = nI 0 := by simp only [va_up]; exact e60
  have e72 : (va_up u53 54 (nI usr)) 86 = nI 0 := by simp only [va_up]; exact e61
  have e73 : (va_up u53 54 (nI usr)) 60 = nI 0 := by simp only [va_up]; exact e62
  have e74 : (va_up u53 54 (nI usr)) 63 = nI 0 := by simp only [va_up]; exact e63
  have e75 : (va_up u53 54 (nI usr)) 87 = nI 0 := by simp only [va_up]; exact e_u53
  generalize va_up u53 54 (nI usr) = u64 at hv65 hm66 e_u64 e67 e68 e69 e70 e71 e72 e73 e74 e75 ⊢
  refine ST.lift (fun _ _ k => T_aload_n (v := .ref 343) d_Ss_start_48 rfl (Or.inr ⟨_, rfl⟩) k) ?_
  refine S_getfield d_Ss_start_49 fg_Ss_34 (w343 _) rfl ?_
  refine S_virtual (as := []) (rest := []) (b := 349) d_Ss_start_52 rfl (jw_By_clear.jo (by decide)) lm_Ss_54 ji_By_clear js_By_clear (w349 _) rfl rfl rfl (Nat.le_of_ble_eq_true rfl) (by decide) (by decide) (c_By_clear G u64 349 350 200 55 ⟨w349, a350, by decide, u349_1, by decide, by decide⟩ hv65) (fun r v' hq => ?_)
  rw [hq.1, hq.2]
  clear hq r v'
  show ST G mi_Ss_start 55 [(4, .int (nI 3)), (0, .ref 343), (1, .ref 62), (2, .int (nI usr)), (3, .ref b)] [] (va_up u64 55 (nI 0)) 0 0 _
  have hv77 := hv65.up (j := 55) (c := 200) (k := 0) (by decide) (by omega)
  have hm78 := hm66.go (mdf.up (v := u64) (j := 55) (x := (nI 0))) (by intro i hi; simp only [List.mem_cons, List.not_mem_nil, or_false] at hi ⊢ <;> omega)
  have e_u76 : (va_up u64 55 (nI 0)) 55 = (nI 0) := by simp [va_up]
  have e79 : (va_up u64 55 (nI 0)) 58 = nI 0 := by simp only [va_up]; exact e67
  have e80 : (va_up u64 55 (nI 0)) 61 = nI 0 := by simp only [va_up]; exact e68
  have e81 : (va_up u64 55 (nI 0)) 85 = nI 0 := by simp only [va_up]; exact e69
  have e82 : (va_up u64 55 (nI 0)) 59 = nI 0 := by simp only [va_up]; exact e70
  have e83 : (va_up u64 55 (nI 0)) 62 = nI 0 := by simp only [va_up]; exact e71
  have e84 : (va_up u64 55 (nI 0)) 86 = nI 0 := by simp only [va_up]; exact e72
  have e85 : (va_up u64 55 (nI 0)) 60 = nI 0 := by simp only [va_up]; exact e73
  have e86 : (va_up u64 55 (nI 0)) 63 = nI 0 := by simp only [va_up]; exact e74
  have e87 : (va_up u64 55 (nI 0)) 87 = nI 0 := by simp only [va_up]; exact e75
  have e88 : (va_up u64 55 (nI 0)) 54 = nI usr := by simp only [va_up]; exact e_u64
  generalize va_up u64 55 (nI 0) = u76 at hv77 hm78 e_u76 e79 e80 e81 e82 e83 e84 e85 e86 e87 e88 ⊢
  refine ST.lift (fun _ _ k => T_aload_n (v := .ref 343) d_Ss_start_55 rfl (Or.inr ⟨_, rfl⟩) k) ?_
  refine S_getfield d_Ss_start_56 fg_Ss_34 (w343 _) rfl ?_
  refine ST.lift (fun _ _ k => T_aload_n (v := .ref b) d_Ss_start_59 rfl (Or.inr ⟨_, rfl⟩) k) ?_
  refine S_virtual (as := [.ref b]) (rest := []) (b := 349) d_Ss_start_60 rfl (jw_By_putAll.jo (by decide)) lm_Ss_60 ji_By_putAll js_By_putAll (w349 _) rfl rfl rfl (Nat.le_of_ble_eq_true rfl) (by decide) (by decide) (c_By_putAll G u76 349 350 200 55 ⟨w349, a350, by decide, u349_1, by decide, by decide⟩ b bd bc bj y_b hv77) (fun r u89 hq => ?_)
  obtain ⟨hr, hv90, hm91⟩ := hq
  rw [hr]
  clear hr r
  have hm92 := hm78.go hm91 (by intro i hi; simp only [List.mem_cons, List.not_mem_nil, or_false] at hi ⊢ <;> omega)
  have e93 : u89 58 = nI 0 := (hm91 58 (by decide)).trans e79
  have e94 : u89 61 = nI 0 := (hm91 61 (by decide)).trans e80
  have e95 : u89 85 = nI 0 := (hm91 85 (by decide)).trans e81
  have e96 : u89 59 = nI 0 := (hm91 59 (by decide)).trans e82
  have e97 : u89 62 = nI 0 := (hm91 62 (by decide)).trans e83
  have e98 : u89 86 = nI 0 := (hm91 86 (by decide)).trans e84
  have e99 : u89 60 = nI 0 := (hm91 60 (by decide)).trans e85
  have e100 : u89 63 = nI 0 := (hm91 63 (by decide)).trans e86
  have e101 : u89 87 = nI 0 := (hm91 87 (by decide)).trans e87
  have e102 : u89 54 = nI usr := (hm91 54 (by decide)).trans e88
  show ST G mi_Ss_start 63 [(4, .int (nI 3)), (0, .ref 343), (1, .ref 62), (2, .int (nI usr)), (3, .ref b)] [] u89 0 0 _
  refine ST.lift (fun _ _ k => T_aload_n (v := .ref 343) d_Ss_start_63 rfl (Or.inr ⟨_, rfl⟩) k) ?_
  refine S_getfield d_Ss_start_64 fg_Ss_38 (w343 _) rfl ?_
  refine S_virtual (as := []) (rest := []) (b := 351) d_Ss_start_67 rfl (jw_By_clear.jo (by decide)) lm_Ss_54 ji_By_clear js_By_clear (w351 _) rfl rfl rfl (Nat.le_of_ble_eq_true rfl) (by decide) (by decide) (c_By_clear G u89 351 352 96 56 ⟨w351, a352, by decide, u351_1, by decide, by decide⟩ hv90) (fun r v' hq => ?_)
  rw [hq.1, hq.2]
  clear hq r v'
  show ST G mi_Ss_start 70 [(4, .int (nI 3)), (0, .ref 343), (1, .ref 62), (2, .int (nI usr)), (3, .ref b)] [] (va_up u89 56 (nI 0)) 0 0 _
  have hv104 := hv90.up (j := 56) (c := 96) (k := 0) (by decide) (by omega)
  have hm105 := hm92.go (mdf.up (v := u89) (j := 56) (x := (nI 0))) (by intro i hi; simp only [List.mem_cons, List.not_mem_nil, or_false] at hi ⊢ <;> omega)
  have e_u103 : (va_up u89 56 (nI 0)) 56 = (nI 0) := by simp [va_up]
  have e106 : (va_up u89 56 (nI 0)) 58 = nI 0 := by simp only [va_up]; exact e93
  have e107 : (va_up u89 56 (nI 0)) 61 = nI 0 := by simp only [va_up]; exact e94
  have e108 : (va_up u89 56 (nI 0)) 85 = nI 0 := by simp only [va_up]; exact e95
  have e109 : (va_up u89 56 (nI 0)) 59 = nI 0 := by simp only [va_up]; exact e96
  have e110 : (va_up u89 56 (nI 0)) 62 = nI 0 := by simp only [va_up]; exact e97
  have e111 : (va_up u89 56 (nI 0)) 86 = nI 0 := by simp only [va_up]; exact e98
  have e112 : (va_up u89 56 (nI 0)) 60 = nI 0 := by simp only [va_up]; exact e99
  have e113 : (va_up u89 56 (nI 0)) 63 = nI 0 := by simp only [va_up]; exact e100
  have e114 : (va_up u89 56 (nI 0)) 87 = nI 0 := by simp only [va_up]; exact e101
  have e115 : (va_up u89 56 (nI 0)) 54 = nI usr := by simp only [va_up]; exact e102
  generalize va_up u89 56 (nI 0) = u103 at hv104 hm105 e_u103 e106 e107 e108 e109 e110 e111 e112 e113 e114 e115 ⊢
  refine ST.lift (fun _ _ k => T_aload_n (v := .ref 62) d_Ss_start_70 rfl (Or.inr ⟨_, rfl⟩) k) ?_
  refine ST.lift (fun _ _ k => T_aload_n (v := .ref 343) d_Ss_start_71 rfl (Or.inr ⟨_, rfl⟩) k) ?_
  refine S_getfield d_Ss_start_72 fg_Ss_44 (w343 _) rfl ?_
  refine S_virtual (as := [.ref 355]) (rest := []) (b := 62) d_Ss_start_75 rfl (jw_Kit_nextScalar.jo (by decide)) lm_Ss_64 ji_Kit_nextScalar js_Kit_nextScalar (w62 _) rfl rfl rfl (Nat.le_of_ble_eq_true rfl) (by decide) (by decide) (c_Kit_nextScalar G u103 355 32 (by decide) a355 (by omega) (by omega) hv104) (fun r u116 hq => ?_)
  obtain ⟨hr, hv117, hm118⟩ := hq
  rw [hr]
  clear hr r
  have hm119 := hm105.go hm118 (by intro i hi; simp only [List.mem_cons, List.not_mem_nil, or_false] at hi ⊢ <;> omega)
  have e120 : u116 58 = nI 0 := (hm118 58 (by decide)).trans e106
  have e121 : u116 61 = nI 0 := (hm118 61 (by decide)).trans e107
  have e122 : u116 85 = nI 0 := (hm118 85 (by decide)).trans e108
  have e123 : u116 59 = nI 0 := (hm118 59 (by decide)).trans e109
  have e124 : u116 62 = nI 0 := (hm118 62 (by decide)).trans e110
  have e125 : u116 86 = nI 0 := (hm118 86 (by decide)).trans e111
  have e126 : u116 60 = nI 0 := (hm118 60 (by decide)).trans e112
  have e127 : u116 63 = nI 0 := (hm118 63 (by decide)).trans e113
  have e128 : u116 87 = nI 0 := (hm118 87 (by decide)).trans e114
  have e129 : u116 54 = nI usr := (hm118 54 (by decide)).trans e115
  have e130 : u116 56 = nI 0 := (hm118 56 (by decide)).trans e_u103
  show ST G mi_Ss_start 78 [(4, .int (nI 3)), (0, .ref 343), (1, .ref 62), (2, .int (nI usr)), (3, .ref b)] [] u116 0 0 _
  refine ST.lift (fun _ _ k => T_aload_n (v := .ref 62) d_Ss_start_78 rfl (Or.inr ⟨_, rfl⟩) k) ?_
  refine ST.lift (fun _ _ k => T_aload_n (v := .ref 343) d_Ss_start_79 rfl (Or.inr ⟨_, rfl⟩) k) ?_
  refine S_getfield d_Ss_start_80 fg_Ss_34 (w343 _) rfl ?_
  refine ST.lift (fun _ _ k => T_aload_n (v := .ref 62) d_Ss_start_83 rfl (Or.inr ⟨_, rfl⟩) k) ?_
  refine S_getfield d_Ss_start_84 fg_Ss_70 (w62 _) rfl ?_
  refine S_virtual (as := [.ref 349, .ref 188]) (rest := []) (b := 62) d_Ss_start_87 rfl (jw_Kit_groupOf.jo (by decide)) lm_Ss_74 ji_Kit_groupOf js_Kit_groupOf (w62 _) rfl rfl rfl (Nat.le_of_ble_eq_true rfl) (by decide) (by decide) (c_Kit_groupOf G u116 349 350 200 55 ⟨w349, a350, by decide, u349_1, by decide, by decide⟩ 188 189 190 191 192 ⟨w188, a189, a190, a191, a192, by decide, by decide, by decide, by decide⟩ hv117) (fun r u131 hq => ?_)
  obtain ⟨hr, hv132, hm133⟩ := hq
  rw [hr]
  clear hr r
  have hm134 := hm119.go hm133 (by intro i hi; simp only [List.mem_cons, List.not_mem_nil, or_false] at hi ⊢ <;> omega)
  have e135 : u131 58 = nI 0 := (hm133 58 (by decide)).trans e120
  have e136 : u131 61 = nI 0 := (hm133 61 (by decide)).trans e121
  have e137 : u131 85 = nI 0 := (hm133 85 (by decide)).trans e122
  have e138 : u131 59 = nI 0 := (hm133 59 (by decide)).trans e123
  have e139 : u131 62 = nI 0 := (hm133 62 (by decide)).trans e124
  have e140 : u131 86 = nI 0 := (hm133 86 (by decide)).trans e125
  have e141 : u131 60 = nI 0 := (hm133 60 (by decide)).trans e126
  have e142 : u131 63 = nI 0 := (hm133 63 (by decide)).trans e127
  have e143 : u131 87 = nI 0 := (hm133 87 (by decide)).trans e128
  have e144 : u131 54 = nI usr := (hm133 54 (by decide)).trans e129
  have e145 : u131 56 = nI 0 := (hm133 56 (by decide)).trans e130
  show ST G mi_Ss_start 90 [(4, .int (nI 3)), (0, .ref 343), (1, .ref 62), (2, .int (nI usr)), (3, .ref b)] [] u131 0 0 _
  refine ST.lift (fun _ _ k => T_aload_n (v := .ref 62) d_Ss_start_90 rfl (Or.inr ⟨_, rfl⟩) k) ?_
  refine S_getfield d_Ss_start_91 fg_Ss_78 (w62 _) rfl ?_
  refine ST.lift (fun _ _ k => T_aload_n (v := .ref 62) d_Ss_start_94 rfl (Or.inr ⟨_, rfl⟩) k) ?_
  refine S_getfield d_Ss_start_95 fg_Ss_70 (w62 _) rfl ?_
  refine ST.lift (fun _ _ k => T_aload_n (v := .ref 343) d_Ss_start_98 rfl (Or.inr ⟨_, rfl⟩) k) ?_
  refine S_getfield d_Ss_start_99 fg_Ss_44 (w343 _) rfl ?_
  refine ST.lift (fun _ _ k => T_aload_n (v := .ref 62) d_Ss_start_102 rfl (Or.inr ⟨_, rfl⟩) k) ?_
  refine S_getfield d_Ss_start_103 fg_Ss_70 (w62 _) rfl ?_
  refine S_virtual (as := [.ref 188, .ref 355, .ref 188]) (rest := []) (b := 77) d_Ss_start_106 rfl (jw_Cu_multiply.jo (by decide)) lm_Ss_82 ji_Cu_multiply js_Cu_multiply (w77 _) rfl rfl rfl (Nat.le_of_ble_eq_true rfl) (by decide) (by decide) (c_Cu_multiply G u131 188 189 190 191 192 ⟨w188, a189, a190, a191, a192, by decide, by decide, by decide, by decide⟩ 355 32 (by decide) a355 (by omega) 188 189 190 191 192 ⟨w188, a189, a190, a191, a192, by decide, by decide, by decide, by decide⟩ (by omega)) (fun r v' hq => ?_)
  rw [hq.1, hq.2]
  clear hq r v'
  show ST G mi_Ss_start 109 [(4, .int (nI 3)), (0, .ref 343), (1, .ref 62), (2, .int (nI usr)), (3, .ref b)] [] u131 0 0 _
  refine ST.lift (fun _ _ k => T_aload_n (v := .ref 62) d_Ss_start_109 rfl (Or.inr ⟨_, rfl⟩) k) ?_
  refine S_getfield d_Ss_start_110 fg_Ss_78 (w62 _) rfl ?_
  refine ST.lift (fun _ _ k => T_aload_n (v := .ref 62) d_Ss_start_113 rfl (Or.inr ⟨_, rfl⟩) k) ?_
  refine S_getfield d_Ss_start_114 fg_Ss_70 (w62 _) rfl ?_
  refine ST.lift (fun _ _ k => T_aload_n (v := .ref 343) d_Ss_start_117 rfl (Or.inr ⟨_, rfl⟩) k) ?_
  refine S_getfield d_Ss_start_118 fg_Ss_38 (w343 _) rfl ?_
  refine S_virtual (as := [.ref 188, .ref 351]) (rest := []) (b := 77) d_Ss_start_121 rfl (jw_Cu_code.jo (by decide)) lm_Ss_88 ji_Cu_code js_Cu_code (w77 _) rfl rfl rfl (Nat.le_of_ble_eq_true rfl) (by decide) (by decide) (c_Cu_code G u131 188 189 190 191 192 ⟨w188, a189, a190, a191, a192, by decide, by decide, by decide, by decide⟩ 351 352 96 56 ⟨w351, a352, by decide, u351_1, by decide, by decide⟩ hv132) (fun r u146 hq => ?_)
  obtain ⟨hr, hv147, hm148⟩ := hq
  rw [hr]
  clear hr r
  have hm149 := hm134.go hm148 (by intro i hi; simp only [List.mem_cons, List.not_mem_nil, or_false] at hi ⊢ <;> omega)
  have e150 : u146 58 = nI 0 := (hm148 58 (by decide)).trans e135
  have e151 : u146 61 = nI 0 := (hm148 61 (by decide)).trans e136
  have e152 : u146 85 = nI 0 := (hm148 85 (by decide)).trans e137
  have e153 : u146 59 = nI 0 := (hm148 59 (by decide)).trans e138
  have e154 : u146 62 = nI 0 := (hm148 62 (by decide)).trans e139
  have e155 : u146 86 = nI 0 := (hm148 86 (by decide)).trans e140
  have e156 : u146 60 = nI 0 := (hm148 60 (by decide)).trans e141
  have e157 : u146 63 = nI 0 := (hm148 63 (by decide)).trans e142
  have e158 : u146 87 = nI 0 := (hm148 87 (by decide)).trans e143
  have e159 : u146 54 = nI usr := (hm148 54 (by decide)).trans e144
  show ST G mi_Ss_start 124 [(4, .int (nI 3)), (0, .ref 343), (1, .ref 62), (2, .int (nI usr)), (3, .ref b)] [] u146 0 0 _
  refine ST.lift (fun _ _ k => T_aload_n (v := .ref 62) d_Ss_start_124 rfl (Or.inr ⟨_, rfl⟩) k) ?_
  refine ST.lift (fun _ _ k => T_aload_n (v := .ref 343) d_Ss_start_125 rfl (Or.inr ⟨_, rfl⟩) k) ?_
  refine S_getfield d_Ss_start_126 fg_Ss_38 (w343 _) rfl ?_
  refine S_virtual (as := [.ref 351]) (rest := []) (b := 62) d_Ss_start_129 rfl (jw_Kit_putNonce.jo (by decide)) lm_Ss_92 ji_Kit_putNonce js_Kit_putNonce (w62 _) rfl rfl rfl (Nat.le_of_ble_eq_true rfl) (by decide) (by decide) (c_Kit_putNonce G u146 351 352 96 56 ⟨w351, a352, by decide, u351_1, by decide, by decide⟩ hv147) (fun r u160 hq => ?_)
  obtain ⟨hr, hv161, hm162⟩ := hq
  rw [hr]
  clear hr r
  have hm163 := hm149.go hm162 (by intro i hi; simp only [List.mem_cons, List.not_mem_nil, or_false] at hi ⊢ <;> omega)
  have e164 : u160 58 = nI 0 := (hm162 58 (by decide)).trans e150
  have e165 : u160 61 = nI 0 := (hm162 61 (by decide)).trans e151
  have e166 : u160 85 = nI 0 := (hm162 85 (by decide)).trans e152
  have e167 : u160 59 = nI 0 := (hm162 59 (by decide)).trans e153
  have e168 : u160 62 = nI 0 := (hm162 62 (by decide)).trans e154
  have e169 : u160 86 = nI 0 := (hm162 86 (by decide)).trans e155
  have e170 : u160 60 = nI 0 := (hm162 60 (by decide)).trans e156
  have e171 : u160 63 = nI 0 := (hm162 63 (by decide)).trans e157
  have e172 : u160 87 = nI 0 := (hm162 87 (by decide)).trans e158
  have e173 : u160 54 = nI usr := (hm162 54 (by decide)).trans e159
  show ST G mi_Ss_start 132 [(4, .int (nI 3)), (0, .ref 343), (1, .ref 62), (2, .int (nI usr)), (3, .ref b)] [] u160 0 0 _
  refine ST.lift (fun _ _ k => T_aload_n (v := .ref 62) d_Ss_start_132 rfl (Or.inr ⟨_, rfl⟩) k) ?_
  refine ST.lift (fun _ _ k => T_aload_n (v := .ref 343) d_Ss_start_133 rfl (Or.inr ⟨_, rfl⟩) k) ?_
  refine S_getfield d_Ss_start_134 fg_Ss_47 (w343 _) rfl ?_
  refine S_virtual (as := [.ref 356]) (rest := []) (b := 62) d_Ss_start_137 rfl (jw_Kit_nextScalar.jo (by decide)) lm_Ss_64 ji_Kit_nextScalar js_Kit_nextScalar (w62 _) rfl rfl rfl (Nat.le_of_ble_eq_true rfl) (by decide) (by decide) (c_Kit_nextScalar G u160 356 32 (by decide) a356 (by omega) (by omega) hv161) (fun r u174 hq => ?_)
  obtain ⟨hr, hv175, hm176⟩ := hq
  rw [hr]
  clear hr r
  have hm177 := hm163.go hm176 (by intro i hi; simp only [List.mem_cons, List.not_mem_nil, or_false] at hi ⊢ <;> omega)
  have e178 : u174 58 = nI 0 := (hm176 58 (by decide)).trans e164
  have e179 : u174 61 = nI 0 := (hm176 61 (by decide)).trans e165
  have e180 : u174 85 = nI 0 := (hm176 85 (by decide)).trans e166
  have e181 : u174 59 = nI 0 := (hm176 59 (by decide)).trans e167
  have e182 : u174 62 = nI 0 := (hm176 62 (by decide)).trans e168
  have e183 : u174 86 = nI 0 := (hm176 86 (by decide)).trans e169
  have e184 : u174 60 = nI 0 := (hm176 60 (by decide)).trans e170
  have e185 : u174 63 = nI 0 := (hm176 63 (by decide)).trans e171
  have e186 : u174 87 = nI 0 := (hm176 87 (by decide)).trans e172
  have e187 : u174 54 = nI usr := (hm176 54 (by decide)).trans e173
  show ST G mi_Ss_start 140 [(4, .int (nI 3)), (0, .ref 343), (1, .ref 62), (2, .int (nI usr)), (3, .ref b)] [] u174 0 0 _
  refine ST.lift (fun _ _ k => T_aload_n (v := .ref 62) d_Ss_start_140 rfl (Or.inr ⟨_, rfl⟩) k) ?_
  refine ST.lift (fun _ _ k => T_aload_n (v := .ref 343) d_Ss_start_141 rfl (Or.inr ⟨_, rfl⟩) k) ?_
  refine S_getfield d_Ss_start_142 fg_Ss_47 (w343 _) rfl ?_
  refine ST.lift (fun _ _ k => T_aload_n (v := .ref 343) d_Ss_start_145 rfl (Or.inr ⟨_, rfl⟩) k) ?_
  refine S_getfield d_Ss_start_146 fg_Ss_38 (w343 _) rfl ?_
  refine S_virtual (as := [.ref 356, .ref 351]) (rest := []) (b := 62) d_Ss_start_149 rfl (jw_Kit_putPublic.jo (by decide)) lm_Ss_95 ji_Kit_putPublic js_Kit_putPublic (w62 _) rfl rfl rfl (Nat.le_of_ble_eq_true rfl) (by decide) (by decide) (c_Kit_putPublic G u174 356 32 (by decide) a356 (by omega) 351 352 96 56 ⟨w351, a352, by decide, u351_1, by decide, by decide⟩ (by omega) hv175) (fun r u188 hq => ?_)
  obtain ⟨hr, hv189, hm190⟩ := hq
  rw [hr]
  clear hr r
  have hm191 := hm177.go hm190 (by intro i hi; simp only [List.mem_cons, List.not_mem_nil, or_false] at hi ⊢ <;> omega)
  have e192 : u188 58 = nI 0 := (hm190 58 (by decide)).trans e178
  have e193 : u188 61 = nI 0 := (hm190 61 (by decide)).trans e179
  have e194 : u188 85 = nI 0 := (hm190 85 (by decide)).trans e180
  have e195 : u188 59 = nI 0 := (hm190 59 (by decide)).trans e181
  have e196 : u188 62 = nI 0 := (hm190 62 (by decide)).trans e182
  have e197 : u188 86 = nI 0 := (hm190 86 (by decide)).trans e183
  have e198 : u188 60 = nI 0 := (hm190 60 (by decide)).trans e184
  have e199 : u188 63 = nI 0 := (hm190 63 (by decide)).trans e185
  have e200 : u188 87 = nI 0 := (hm190 87 (by decide)).trans e186
  have e201 : u188 54 = nI usr := (hm190 54 (by decide)).trans e187
  show ST G mi_Ss_start 152 [(4, .int (nI 3)), (0, .ref 343), (1, .ref 62), (2, .int (nI usr)), (3, .ref b)] [] u188 0 0 _
  refine ST.lift (fun _ _ k => T_aload_n (v := .ref 343) d_Ss_start_152 rfl (Or.inr ⟨_, rfl⟩) k) ?_
  refine S_getfield d_Ss_start_153 fg_Ss_11 (w343 _) rfl ?_
  refine ST.lift (fun _ _ k => T_iconst (v := nI 0) d_Ss_start_156 (by decide) k) ?_
  refine S_aaload (C0 := "PasswordGate$Bytes") d_Ss_start_157 (by decide) (w344 _) rfl (vp_in_nI (by omega) (by omega)) ?_
  refine ST.lift (fun _ _ k => T_aload_n (v := .ref 343) d_Ss_start_158 rfl (Or.inr ⟨_, rfl⟩) k) ?_
  refine S_getfield d_Ss_start_159 fg_Ss_38 (w343 _) rfl ?_
  refine S_virtual (as := [.ref 351]) (rest := []) (b := 357) d_Ss_start_162 rfl (jw_By_putAll.jo (by decide)) lm_Ss_60 ji_By_putAll js_By_putAll (w357 _) rfl rfl rfl (Nat.le_of_ble_eq_true rfl) (by decide) (by decide) (c_By_putAll G u188 357 358 96 58 ⟨w357, a358, by decide, u357_1, by decide, by decide⟩ 351 352 96 56 ⟨w351, a352, by decide, u351_1, by decide, by decide⟩ hv189) (fun r u202 hq => ?_)
  obtain ⟨hr, hv203, hm204⟩ := hq
  rw [hr]
  clear hr r
  have hm205 := hm191.go hm204 (by intro i hi; simp only [List.mem_cons, List.not_mem_nil, or_false] at hi ⊢ <;> omega)
  have e206 : u202 61 = nI 0 := (hm204 61 (by decide)).trans e193
  have e207 : u202 85 = nI 0 := (hm204 85 (by decide)).trans e194
  have e208 : u202 59 = nI 0 := (hm204 59 (by decide)).trans e195
  have e209 : u202 62 = nI 0 := (hm204 62 (by decide)).trans e196
  have e210 : u202 86 = nI 0 := (hm204 86 (by decide)).trans e197
  have e211 : u202 60 = nI 0 := (hm204 60 (by decide)).trans e198
  have e212 : u202 63 = nI 0 := (hm204 63 (by decide)).trans e199
  have e213 : u202 87 = nI 0 := (hm204 87 (by decide)).trans e200
  have e214 : u202 54 = nI usr := (hm204 54 (by decide)).trans e201
  show ST G mi_Ss_start 165 [(4, .int (nI 3)), (0, .ref 343), (1, .ref 62), (2, .int (nI usr)), (3, .ref b)] [] u202 0 0 _
  exact S_vret d_Ss_start_165 rfl (by decide) (by decide) (hQ _ hv203 hm205)
set_option maxRecDepth 100000 in
set_option maxHeartbeats 4000000 in
theorem c_Ss_confirmServer_343 (G : GX) (v : Nat → Int32) (hv : okv v) : CS G mi_Ss_confirmServer [.ref 343, .ref 62, .ref 217] v (fun r v' => ∃ z : Int32, r = some (.int z) ∧ okv v' ∧ mdf [6, 7, 5, 2, 3, 1, 4, 8, 9, 10, 58, 59, 60, 61, 62, 63, 55, 56, 57, 54, 85, 86, 87] v v') := by
  refine CS.of (by decide) (Nat.le_of_ble_eq_true rfl) ?_
  generalize hQe : (fun (r : Option Value) (v' : Nat → Int32) => ∃ z : Int32, r = some (.int z) ∧ okv v' ∧ mdf [6, 7, 5, 2, 3, 1, 4, 8, 9, 10, 58, 59, 60, 61, 62, 63, 55, 56, 57, 54, 85, 86, 87] v v') = Q
  have hQ : ∀ (z : Int32) (u : Nat → Int32), okv u → mdf [6, 7, 5, 2, 3, 1, 4, 8, 9, 10, 58, 59, 60, 61, 62, 63, 55, 56, 57, 54, 85, 86, 87] v u → Q (some (.int z)) u := by rw [← hQe]; exact fun z u h1 h2 => ⟨z, rfl, h1, h2⟩
  clear hQe
  have hm : mdf [6, 7, 5, 2, 3, 1, 4, 8, 9, 10, 58, 59, 60, 61, 62, 63, 55, 56, 57, 54, 85, 86, 87] v v := mdf.rf
  show ST G mi_Ss_confirmServer 0 [(0, .ref 343), (1, .ref 62), (2, .ref 217)] [] v 0 0 Q
  refine ST.lift (fun _ _ k => T_aload_n (v := .ref 343) d_Ss_confirmServer_0 rfl (Or.inr ⟨_, rfl⟩) k) ?_
  refine S_getfield d_Ss_confirmServer_1 fg_Ss_11 (w343 _) rfl ?_
  refine ST.lift (fun _ _ k => T_iconst (v := nI 1) d_Ss_confirmServer_4 (by decide) k) ?_
  refine S_aaload (C0 := "PasswordGate$Bytes") d_Ss_confirmServer_5 (by decide) (w344 _) rfl (vp_in_nI (by omega) (by omega)) ?_
  refine S_getfield d_Ss_confirmServer_6 fg_Ss_99 (w359 _) rfl ?_
  refine ST.lift (fun _ _ k => T_astore_n (L' := [(3, .ref 360), (0, .ref 343), (1, .ref 62), (2, .ref 217)]) d_Ss_confirmServer_9 (by decide) rfl (Or.inr ⟨_, rfl⟩) k) ?_
  refine ST.lift (fun _ _ k => T_aload_n (v := .ref 62) d_Ss_confirmServer_10 rfl (Or.inr ⟨_, rfl⟩) k) ?_
  refine S_getfield d_Ss_confirmServer_11 fg_Ss_78 (w62 _) rfl ?_
  refine ST.lift (fun _ _ k => T_aload_n (v := .ref 360) d_Ss_confirmServer_14 rfl (Or.inr ⟨_, rfl⟩) k) ?_
  refine ST.lift (fun _ _ k => T_iconst (v := nI 0) d_Ss_confirmServer_15 (by decide) k) ?_
  refine ST.lift (fun _ _ k => T_aload_n (v := .ref 62) d_Ss_confirmServer_16 rfl (Or.inr ⟨_, rfl⟩) k) ?_
  refine S_getfield d_Ss_confirmServer_17 fg_Ss_70 (w62 _) rfl ?_
  refine S_virtual (as := [.ref 360, .int (nI 0), .ref 188]) (rest := []) (b := 77) d_Ss_confirmServer_20 rfl (jw_Cu_decode.jo (by decide)) lm_Ss_102 ji_Cu_decode js_Cu_decode (w77 _) rfl rfl rfl (Nat.le_of_ble_eq_true rfl) (by decide) (by decide) (c_Cu_decode G v 360 320 (by decide) a360 (by omega) 0 (by omega) 188 189 190 191 192 ⟨w188, a189, a190, a191, a192, by decide, by decide, by decide, by decide⟩ hv) (fun r u1 hq => ?_)
  obtain ⟨z4, hz4, hr, hv2, hm3⟩ := hq
  rw [hr]
  clear hr r
  have hm5 := hm.go hm3 (by intro i hi; simp only [List.mem_cons, List.not_mem_nil, or_false] at hi ⊢ <;> omega)
  show ST G mi_Ss_confirmServer 23 [(3, .ref 360), (0, .ref 343), (1, .ref 62), (2, .ref 217)] [.int (nI z4)] u1 0 0 _
  refine S_if_neN d_Ss_confirmServer_23 rfl (by omega) (fun c6 => ?_) (fun c6 => ?_)
  · refine ST.lift (fun _ _ k => T_aload_n (v := .ref 62) d_Ss_confirmServer_28 rfl (Or.inr ⟨_, rfl⟩) k) ?_
    refine S_getfield d_Ss_confirmServer_29 fg_Ss_106 (w62 _) rfl ?_
    refine ST.lift (fun _ _ k => T_aload_n (v := .ref 343) d_Ss_confirmServer_32 rfl (Or.inr ⟨_, rfl⟩) k) ?_
    refine S_getfield d_Ss_confirmServer_33 fg_Ss_44 (w343 _) rfl ?_
    refine ST.lift (fun _ _ k => T_aload_n (v := .ref 62) d_Ss_confirmServer_36 rfl (Or.inr ⟨_, rfl⟩) k) ?_
    refine S_getfield d_Ss_confirmServer_37 fg_Ss_110 (w62 _) rfl ?_
    refine S_virtual (as := [.ref 355, .ref 198]) (rest := []) (b := 183) d_Ss_confirmServer_40 rfl (jw_Sc_invert.jo (by decide)) lm_Ss_113 ji_Sc_invert js_Sc_invert (w183 _) rfl rfl rfl (Nat.le_of_ble_eq_true rfl) (by decide) (by decide) (c_Sc_invert G u1 355 32 (by decide) a355 (by omega) 198 32 (by decide) a198 (by omega) (by omega)) (fun r v' hq => ?_)
    rw [hq.1, hq.2]
    clear hq r v'
    show ST G mi_Ss_confirmServer 43 [(3, .ref 360), (0, .ref 343), (1, .ref 62), (2, .ref 217)] [] u1 0 0 _
    refine ST.lift (fun _ _ k => T_aload_n (v := .ref 62) d_Ss_confirmServer_43 rfl (Or.inr ⟨_, rfl⟩) k) ?_
    refine S_getfield d_Ss_confirmServer_44 fg_Ss_78 (w62 _) rfl ?_
    refine ST.lift (fun _ _ k => T_aload_n (v := .ref 62) d_Ss_confirmServer_47 rfl (Or.inr ⟨_, rfl⟩) k) ?_
    refine S_getfield d_Ss_confirmServer_48 fg_Ss_70 (w62 _) rfl ?_
    refine ST.lift (fun _ _ k => T_aload_n (v := .ref 62) d_Ss_confirmServer_51 rfl (Or.inr ⟨_, rfl⟩) k) ?_
    refine S_getfield d_Ss_confirmServer_52 fg_Ss_110 (w62 _) rfl ?_
    refine ST.lift (fun _ _ k => T_aload_n (v := .ref 62) d_Ss_confirmServer_55 rfl (Or.inr ⟨_, rfl⟩) k) ?_
    refine S_getfield d_Ss_confirmServer_56 fg_Ss_70 (w62 _) rfl ?_
    refine S_virtual (as := [.ref 188, .ref 198, .ref 188]) (rest := []) (b := 77) d_Ss_confirmServer_59 rfl (jw_Cu_multiply.jo (by decide)) lm_Ss_82 ji_Cu_multiply js_Cu_multiply (w77 _) rfl rfl rfl (Nat.le_of_ble_eq_true rfl) (by decide) (by decide) (c_Cu_multiply G u1 188 189 190 191 192 ⟨w188, a189, a190, a191, a192, by decide, by decide, by decide, by decide⟩ 198 32 (by decide) a198 (by omega) 188 189 190 191 192 ⟨w188, a189, a190, a191, a192, by decide, by decide, by decide, by decide⟩ (by omega)) (fun r v' hq => ?_)
    rw [hq.1, hq.2]
    clear hq r v'
    show ST G mi_Ss_confirmServer 62 [(3, .ref 360), (0, .ref 343), (1, .ref 62), (2, .ref 217)] [] u1 0 0 _
    refine ST.lift (fun _ _ k => T_aload_n (v := .ref 62) d_Ss_confirmServer_62 rfl (Or.inr ⟨_, rfl⟩) k) ?_
    refine ST.lift (fun _ _ k => T_aload_n (v := .ref 343) d_Ss_confirmServer_63 rfl (Or.inr ⟨_, rfl⟩) k) ?_
    refine S_getfield d_Ss_confirmServer_64 fg_Ss_34 (w343 _) rfl ?_
    refine ST.lift (fun _ _ k => T_aload_n (v := .ref 62) d_Ss_confirmServer_67 rfl (Or.inr ⟨_, rfl⟩) k) ?_
    refine S_getfield d_Ss_confirmServer_68 fg_Ss_70 (w62 _) rfl ?_
    refine S_virtual (as := [.ref 349, .ref 188]) (rest := []) (b := 62) d_Ss_confirmServer_71 rfl (jw_Kit_randomize.jo (by decide)) lm_Ss_119 ji_Kit_randomize js_Kit_randomize (w62 _) rfl rfl rfl (Nat.le_of_ble_eq_true rfl) (by decide) (by decide) (c_Kit_randomize G u1 349 350 200 55 ⟨w349, a350, by decide, u349_1, by decide, by decide⟩ 188 189 190 191 192 ⟨w188, a189, a190, a191, a192, by decide, by decide, by decide, by decide⟩ hv2) (fun r u7 hq => ?_)
    obtain ⟨hr, hv8, hm9⟩ := hq
    rw [hr]
    clear hr r
    have hm10 := hm5.go hm9 (by intro i hi; simp only [List.mem_cons, List.not_mem_nil, or_false] at hi ⊢ <;> omega)
    show ST G mi_Ss_confirmServer 74 [(3, .ref 360), (0, .ref 343), (1, .ref 62), (2, .ref 217)] [] u7 0 0 _
    refine ST.lift (fun _ _ k => T_aload_n (v := .ref 343) d_Ss_confirmServer_74 rfl (Or.inr ⟨_, rfl⟩) k) ?_
    refine S_getfield d_Ss_confirmServer_75 fg_Ss_41 (w343 _) rfl ?_
    refine S_virtual (as := []) (rest := []) (b := 353) d_Ss_confirmServer_78 rfl (jw_By_clear.jo (by decide)) lm_Ss_54 ji_By_clear js_By_clear (w353 _) rfl rfl rfl (Nat.le_of_ble_eq_true rfl) (by decide) (by decide) (c_By_clear G u7 353 354 128 57 ⟨w353, a354, by decide, u353_1, by decide, by decide⟩ hv8) (fun r v' hq => ?_)
    rw [hq.1, hq.2]
    clear hq r v'
    show ST G mi_Ss_confirmServer 81 [(3, .ref 360), (0, .ref 343), (1, .ref 62), (2, .ref 217)] [] (va_up u7 57 (nI 0)) 0 0 _
    have hv12 := hv8.up (j := 57) (c := 128) (k := 0) (by decide) (by omega)
    have hm13 := hm10.go (mdf.up (v := u7) (j := 57) (x := (nI 0))) (by intro i hi; simp only [List.mem_cons, List.not_mem_nil, or_false] at hi ⊢ <;> omega)
    have e_u11 : (va_up u7 57 (nI 0)) 57 = (nI 0) := by simp [va_up]
    generalize va_up u7 57 (nI 0) = u11 at hv12 hm13 e_u11 ⊢
    refine ST.lift (fun _ _ k => T_aload_n (v := .ref 62) d_Ss_confirmServer_81 rfl (Or.inr ⟨_, rfl⟩) k) ?_
    refine ST.lift (fun _ _ k => T_aload_n (v := .ref 62) d_Ss_confirmServer_82 rfl (Or.inr ⟨_, rfl⟩) k) ?_
    refine S_getfield d_Ss_confirmServer_83 fg_Ss_122 (w62 _) rfl ?_
    refine ST.lift (fun _ _ k => T_aload_n (v := .ref 360) d_Ss_confirmServer_86 rfl (Or.inr ⟨_, rfl⟩) k) ?_
    refine ST.lift (fun _ _ k => T_aload_n (v := .ref 360) d_Ss_confirmServer_87 rfl (Or.inr ⟨_, rfl⟩) k) ?_
    refine ST.lift (fun _ _ k => T_bipush (v := nI 64) d_Ss_confirmServer_88 (by decide) k) ?_
    refine ST.lift (fun _ _ k => T_aload_n (v := .ref 343) d_Ss_confirmServer_90 rfl (Or.inr ⟨_, rfl⟩) k) ?_
    refine S_getfield d_Ss_confirmServer_91 fg_Ss_41 (w343 _) rfl ?_
    refine S_virtual (as := [.ref 201, .ref 360, .ref 360, .int (nI 64), .ref 353]) (rest := []) (b := 62) d_Ss_confirmServer_94 rfl (jw_Kit_putMasked.jo (by decide)) lm_Ss_125 ji_Kit_putMasked js_Kit_putMasked (w62 _) rfl rfl rfl (Nat.le_of_ble_eq_true rfl) (by decide) (by decide) (c_Kit_putMasked G u11 201 64 (by decide) a201 (by omega) 360 320 (by decide) a360 (by omega) 360 320 (by decide) a360 (by omega) 64 (by omega) 353 354 128 57 ⟨w353, a354, by decide, u353_1, by decide, by decide⟩ (by omega) hv12) (fun r u14 hq => ?_)
    obtain ⟨hr, hv15, hm16⟩ := hq
    rw [hr]
    clear hr r
    have hm17 := hm13.go hm16 (by intro i hi; simp only [List.mem_cons, List.not_mem_nil, or_false] at hi ⊢ <;> omega)
    show ST G mi_Ss_confirmServer 97 [(3, .ref 360), (0, .ref 343), (1, .ref 62), (2, .ref 217)] [] u14 0 0 _
    refine ST.lift (fun _ _ k => T_aload_n (v := .ref 62) d_Ss_confirmServer_97 rfl (Or.inr ⟨_, rfl⟩) k) ?_
    refine ST.lift (fun _ _ k => T_aload_n (v := .ref 343) d_Ss_confirmServer_98 rfl (Or.inr ⟨_, rfl⟩) k) ?_
    refine S_getfield d_Ss_confirmServer_99 fg_Ss_41 (w343 _) rfl ?_
    refine S_getfield d_Ss_confirmServer_102 fg_Ss_99 (w353 _) rfl ?_
    refine ST.lift (fun _ _ k => T_bipush (v := nI 32) d_Ss_confirmServer_105 (by decide) k) ?_
    refine ST.lift (fun _ _ k => T_aload_n (v := .ref 343) d_Ss_confirmServer_107 rfl (Or.inr ⟨_, rfl⟩) k) ?_
    refine S_getfield d_Ss_confirmServer_108 fg_Ss_41 (w343 _) rfl ?_
    refine S_getfield d_Ss_confirmServer_111 fg_Ss_99 (w353 _) rfl ?_
    refine S_virtual (as := [.ref 354, .int (nI 32), .ref 354]) (rest := []) (b := 62) d_Ss_confirmServer_114 rfl (jw_Kit_sealEnvelope.jo (by decide)) lm_Ss_129 ji_Kit_sealEnvelope js_Kit_sealEnvelope (w62 _) rfl rfl rfl (Nat.le_of_ble_eq_true rfl) (by decide) (by decide) (c_Kit_sealEnvelope G u14 354 128 (by decide) a354 (by omega) 32 (by omega) 354 128 (by decide) a354 (by omega) hv15) (fun r u18 hq => ?_)
    obtain ⟨hr, hv19, hm20⟩ := hq
    rw [hr]
    clear hr r
    have hm21 := hm17.go hm20 (by intro i hi; simp only [List.mem_cons, List.not_mem_nil, or_false] at hi ⊢ <;> omega)
    show ST G mi_Ss_confirmServer 117 [(3, .ref 360), (0, .ref 343), (1, .ref 62), (2, .ref 217)] [] u18 0 0 _
    refine ST.lift (fun _ _ k => T_aload_n (v := .ref 343) d_Ss_confirmServer_117 rfl (Or.inr ⟨_, rfl⟩) k) ?_
    refine S_getfield d_Ss_confirmServer_118 fg_Ss_41 (w343 _) rfl ?_
    refine ST.lift (fun _ _ k => T_bipush (v := nI 64) d_Ss_confirmServer_121 (by decide) k) ?_
    refine ST.lift (fun _ _ k => T_aload_n (v := .ref 62) d_Ss_confirmServer_123 rfl (Or.inr ⟨_, rfl⟩) k) ?_
    refine S_getfield d_Ss_confirmServer_124 fg_Ss_133 (w62 _) rfl ?_
    refine ST.lift (fun _ _ k => T_iconst (v := nI 0) d_Ss_confirmServer_127 (by decide) k) ?_
    refine S_virtual (as := [.int (nI 64), .ref 205, .int (nI 0)]) (rest := []) (b := 353) d_Ss_confirmServer_128 rfl (jw_By_endsLike.jo (by decide)) lm_Ss_136 ji_By_endsLike js_By_endsLike (w353 _) rfl rfl rfl (Nat.le_of_ble_eq_true rfl) (by decide) (by decide) (c_By_endsLike G u18 353 354 128 57 ⟨w353, a354, by decide, u353_1, by decide, by decide⟩ 64 (by omega) 205 64 (by decide) a205 (by omega) 0 (by omega) hv19) (fun r u22 hq => ?_)
    obtain ⟨z25, hz25, hr, hv23, hm24⟩ := hq
    rw [hr]
    clear hr r
    have hm26 := hm21.go hm24 (by intro i hi; simp only [List.mem_cons, List.not_mem_nil, or_false] at hi ⊢ <;> omega)
    show ST G mi_Ss_confirmServer 131 [(3, .ref 360), (0, .ref 343), (1, .ref 62), (2, .ref 217)] [.int (nI z25)] u22 0 0 _
    refine S_if_neN d_Ss_confirmServer_131 rfl (by omega) (fun c27 => ?_) (fun c27 => ?_)
    · refine ST.lift (fun _ _ k => T_aload_n (v := .ref 62) d_Ss_confirmServer_136 rfl (Or.inr ⟨_, rfl⟩) k) ?_
      refine S_getfield d_Ss_confirmServer_137 fg_Ss_78 (w62 _) rfl ?_
      refine ST.lift (fun _ _ k => T_aload_n (v := .ref 343) d_Ss_confirmServer_140 rfl (Or.inr ⟨_, rfl⟩) k) ?_
      refine S_getfield d_Ss_confirmServer_141 fg_Ss_41 (w343 _) rfl ?_
      refine S_getfield d_Ss_confirmServer_144 fg_Ss_99 (w353 _) rfl ?_
      refine ST.lift (fun _ _ k => T_iconst (v := nI 0) d_Ss_confirmServer_147 (by decide) k) ?_
      refine ST.lift (fun _ _ k => T_aload_n (v := .ref 62) d_Ss_confirmServer_148 rfl (Or.inr ⟨_, rfl⟩) k) ?_
      refine S_getfield d_Ss_confirmServer_149 fg_Ss_70 (w62 _) rfl ?_
      refine S_virtual (as := [.ref 354, .int (nI 0), .ref 188]) (rest := []) (b := 77) d_Ss_confirmServer_152 rfl (jw_Cu_decode.jo (by decide)) lm_Ss_102 ji_Cu_decode js_Cu_decode (w77 _) rfl rfl rfl (Nat.le_of_ble_eq_true rfl) (by decide) (by decide) (c_Cu_decode G u22 354 128 (by decide) a354 (by omega) 0 (by omega) 188 189 190 191 192 ⟨w188, a189, a190, a191, a192, by decide, by decide, by decide, by decide⟩ hv23) (fun r u28 hq => ?_)
      obtain ⟨z31, hz31, hr, hv29, hm30⟩ := hq
      rw [hr]
      clear hr r
      have hm32 := hm26.go hm30 (by intro i hi; simp only [List.mem_cons, List.not_mem_nil, or_false] at hi ⊢ <;> omega)
      show ST G mi_Ss_confirmServer 155 [(3, .ref 360), (0, .ref 343), (1, .ref 62), (2, .ref 217)] [.int (nI z31)] u28 0 0 _
      refine S_if_eqN d_Ss_confirmServer_155 rfl (by omega) (fun c33 => ?_) (fun c33 => ?_)
      · refine ST.lift (fun _ _ k => T_iconst (v := nI 1) d_Ss_confirmServer_176 (by decide) k) ?_
        exact S_ret d_Ss_confirmServer_177 rfl rfl (by decide) (by decide) (hQ _ _ hv29 hm32)
      · refine ST.lift (fun _ _ k => T_aload_n (v := .ref 62) d_Ss_confirmServer_158 rfl (Or.inr ⟨_, rfl⟩) k) ?_
        refine S_getfield d_Ss_confirmServer_159 fg_Ss_78 (w62 _) rfl ?_
        refine ST.lift (fun _ _ k => T_aload_n (v := .ref 360) d_Ss_confirmServer_162 rfl (Or.inr ⟨_, rfl⟩) k) ?_
        refine ST.lift (fun _ _ k => T_sipush (v := nI 224) d_Ss_confirmServer_163 (by decide) k) ?_
        refine ST.lift (fun _ _ k => T_aload_n (v := .ref 62) d_Ss_confirmServer_166 rfl (Or.inr ⟨_, rfl⟩) k) ?_
        refine S_getfield d_Ss_confirmServer_167 fg_Ss_140 (w62 _) rfl ?_
        refine S_virtual (as := [.ref 360, .int (nI 224), .ref 193]) (rest := []) (b := 77) d_Ss_confirmServer_170 rfl (jw_Cu_decode.jo (by decide)) lm_Ss_102 ji_Cu_decode js_Cu_decode (w77 _) rfl rfl rfl (Nat.le_of_ble_eq_true rfl) (by decide) (by decide) (c_Cu_decode G u28 360 320 (by decide) a360 (by omega) 224 (by omega) 193 194 195 196 197 ⟨w193, a194, a195, a196, a197, by decide, by decide, by decide, by decide⟩ hv29) (fun r u34 hq => ?_)
        obtain ⟨z37, hz37, hr, hv35, hm36⟩ := hq
        rw [hr]
        clear hr r
        have hm38 := hm32.go hm36 (by intro i hi; simp only [List.mem_cons, List.not_mem_nil, or_false] at hi ⊢ <;> omega)
        show ST G mi_Ss_confirmServer 173 [(3, .ref 360), (0, .ref 343), (1, .ref 62), (2, .ref 217)] [.int (nI z37)] u34 0 0 _
        refine S_if_neN d_Ss_confirmServer_173 rfl (by omega) (fun c39 => ?_) (fun c39 => ?_)
        · refine ST.lift (fun _ _ k => T_aload_n (v := .ref 217) d_Ss_confirmServer_178 rfl (Or.inr ⟨_, rfl⟩) k) ?_
          refine ST.lift (fun _ _ k => T_aload_n (v := .ref 62) d_Ss_confirmServer_179 rfl (Or.inr ⟨_, rfl⟩) k) ?_
          refine S_getfield d_Ss_confirmServer_180 fg_Ss_143 (w62 _) rfl ?_
          refine S_getfield d_Ss_confirmServer_183 fg_Ss_99 (w203 _) rfl ?_
          refine ST.lift (fun _ _ k => T_aload_n (v := .ref 343) d_Ss_confirmServer_186 rfl (Or.inr ⟨_, rfl⟩) k) ?_
          refine S_getfield d_Ss_confirmServer_187 fg_Ss_38 (w343 _) rfl ?_
          refine S_getfield d_Ss_confirmServer_190 fg_Ss_99 (w351 _) rfl ?_
          refine ST.lift (fun _ _ k => T_aload_n (v := .ref 343) d_Ss_confirmServer_193 rfl (Or.inr ⟨_, rfl⟩) k) ?_
          refine S_getfield d_Ss_confirmServer_194 fg_Ss_41 (w343 _) rfl ?_
          refine S_getfield d_Ss_confirmServer_197 fg_Ss_99 (w353 _) rfl ?_
          refine ST.lift (fun _ _ k => T_aload_n (v := .ref 360) d_Ss_confirmServer_200 rfl (Or.inr ⟨_, rfl⟩) k) ?_
          refine S_virtual (as := [.ref 204, .ref 352, .ref 354, .ref 360]) (rest := []) (b := 217) d_Ss_confirmServer_201 rfl (jw_Ex_open.jo (by decide)) lm_Ss_146 ji_Ex_open js_Ex_open (w217 _) rfl rfl rfl (Nat.le_of_ble_eq_true rfl) (by decide) (by decide) (c_Ex_open G u34 204 32 (by decide) a204 (by omega) 352 96 (by decide) a352 (by omega) 354 128 (by decide) a354 (by omega) 360 320 (by decide) a360 (by omega) hv35) (fun r u40 hq => ?_)
          obtain ⟨hr, hv41, hm42⟩ := hq
          rw [hr]
          clear hr r
          have hm43 := hm38.go hm42 (by intro i hi; simp only [List.mem_cons, List.not_mem_nil, or_false] at hi ⊢ <;> omega)
          show ST G mi_Ss_confirmServer 204 [(3, .ref 360), (0, .ref 343), (1, .ref 62), (2, .ref 217)] [] u40 0 0 _
          refine ST.lift (fun _ _ k => T_aload_n (v := .ref 217) d_Ss_confirmServer_204 rfl (Or.inr ⟨_, rfl⟩) k) ?_
          refine ST.lift (fun _ _ k => T_aload_n (v := .ref 62) d_Ss_confirmServer_205 rfl (Or.inr ⟨_, rfl⟩) k) ?_
          refine ST.lift (fun _ _ k => T_aload_n (v := .ref 343) d_Ss_confirmServer_206 rfl (Or.inr ⟨_, rfl⟩) k) ?_
          refine S_getfield d_Ss_confirmServer_207 fg_Ss_47 (w343 _) rfl ?_
          refine ST.lift (fun _ _ k => T_aload_n (v := .ref 62) d_Ss_confirmServer_210 rfl (Or.inr ⟨_, rfl⟩) k) ?_
          refine S_getfield d_Ss_confirmServer_211 fg_Ss_140 (w62 _) rfl ?_
          refine S_virtual (as := [.ref 62, .ref 356, .ref 193]) (rest := []) (b := 217) d_Ss_confirmServer_214 rfl (jw_Ex_join.jo (by decide)) lm_Ss_152 ji_Ex_join js_Ex_join (w217 _) rfl rfl rfl (Nat.le_of_ble_eq_true rfl) (by decide) (by decide) (c_Ex_join G u40 356 32 (by decide) a356 (by omega) 193 194 195 196 197 ⟨w193, a194, a195, a196, a197, by decide, by decide, by decide, by decide⟩ (by omega) hv41) (fun r u44 hq => ?_)
          obtain ⟨hr, hv45, hm46⟩ := hq
          rw [hr]
          clear hr r
          have hm47 := hm43.go hm46 (by intro i hi; simp only [List.mem_cons, List.not_mem_nil, or_false] at hi ⊢ <;> omega)
          show ST G mi_Ss_confirmServer 217 [(3, .ref 360), (0, .ref 343), (1, .ref 62), (2, .ref 217)] [] u44 0 0 _
          refine ST.lift (fun _ _ k => T_aload_n (v := .ref 217) d_Ss_confirmServer_217 rfl (Or.inr ⟨_, rfl⟩) k) ?_
          refine ST.lift (fun _ _ k => T_aload_n (v := .ref 62) d_Ss_confirmServer_218 rfl (Or.inr ⟨_, rfl⟩) k) ?_
          refine ST.lift (fun _ _ k => T_aload_n (v := .ref 343) d_Ss_confirmServer_219 rfl (Or.inr ⟨_, rfl⟩) k) ?_
          refine S_getfield d_Ss_confirmServer_220 fg_Ss_47 (w343 _) rfl ?_
          refine ST.lift (fun _ _ k => T_aload_n (v := .ref 62) d_Ss_confirmServer_223 rfl (Or.inr ⟨_, rfl⟩) k) ?_
          refine S_getfield d_Ss_confirmServer_224 fg_Ss_70 (w62 _) rfl ?_
          refine S_virtual (as := [.ref 62, .ref 356, .ref 188]) (rest := []) (b := 217) d_Ss_confirmServer_227 rfl (jw_Ex_join.jo (by decide)) lm_Ss_152 ji_Ex_join js_Ex_join (w217 _) rfl rfl rfl (Nat.le_of_ble_eq_true rfl) (by decide) (by decide) (c_Ex_join G u44 356 32 (by decide) a356 (by omega) 188 189 190 191 192 ⟨w188, a189, a190, a191, a192, by decide, by decide, by decide, by decide⟩ (by omega) hv45) (fun r u48 hq => ?_)
          obtain ⟨hr, hv49, hm50⟩ := hq
          rw [hr]
          clear hr r
          have hm51 := hm47.go hm50 (by intro i hi; simp only [List.mem_cons, List.not_mem_nil, or_false] at hi ⊢ <;> omega)
          show ST G mi_Ss_confirmServer 230 [(3, .ref 360), (0, .ref 343), (1, .ref 62), (2, .ref 217)] [] u48 0 0 _
          refine ST.lift (fun _ _ k => T_aload_n (v := .ref 217) d_Ss_confirmServer_230 rfl (Or.inr ⟨_, rfl⟩) k) ?_
          refine ST.lift (fun _ _ k => T_aload_n (v := .ref 62) d_Ss_confirmServer_231 rfl (Or.inr ⟨_, rfl⟩) k) ?_
          refine ST.lift (fun _ _ k => T_aload_n (v := .ref 62) d_Ss_confirmServer_232 rfl (Or.inr ⟨_, rfl⟩) k) ?_
          refine S_getfield d_Ss_confirmServer_233 fg_Ss_156 (w62 _) rfl ?_
          refine ST.lift (fun _ _ k => T_aload_n (v := .ref 62) d_Ss_confirmServer_236 rfl (Or.inr ⟨_, rfl⟩) k) ?_
          refine S_getfield d_Ss_confirmServer_237 fg_Ss_140 (w62 _) rfl ?_
          refine S_virtual (as := [.ref 62, .ref 202, .ref 193]) (rest := []) (b := 217) d_Ss_confirmServer_240 rfl (jw_Ex_join.jo (by decide)) lm_Ss_152 ji_Ex_join js_Ex_join (w217 _) rfl rfl rfl (Nat.le_of_ble_eq_true rfl) (by decide) (by decide) (c_Ex_join G u48 202 32 (by decide) a202 (by omega) 193 194 195 196 197 ⟨w193, a194, a195, a196, a197, by decide, by decide, by decide, by decide⟩ (by omega) hv49) (fun r u52 hq => ?_)
          obtain ⟨hr, hv53, hm54⟩ := hq
          rw [hr]
          clear hr r
          have hm55 := hm51.go hm54 (by intro i hi; simp only [List.mem_cons, List.not_mem_nil, or_false] at hi ⊢ <;> omega)
          show ST G mi_Ss_confirmServer 243 [(3, .ref 360), (0, .ref 343), (1, .ref 62), (2, .ref 217)] [] u52 0 0 _
          refine ST.lift (fun _ _ k => T_aload_n (v := .ref 217) d_Ss_confirmServer_243 rfl (Or.inr ⟨_, rfl⟩) k) ?_
          refine ST.lift (fun _ _ k => T_aload_n (v := .ref 62) d_Ss_confirmServer_244 rfl (Or.inr ⟨_, rfl⟩) k) ?_
          refine S_virtual (as := [.ref 62]) (rest := []) (b := 217) d_Ss_confirmServer_245 rfl (jw_Ex_settle.jo (by decide)) lm_Ss_159 ji_Ex_settle js_Ex_settle (w217 _) rfl rfl rfl (Nat.le_of_ble_eq_true rfl) (by decide) (by decide) (c_Ex_settle G u52 hv53) (fun r u56 hq => ?_)
          obtain ⟨hr, hv57, hm58⟩ := hq
          rw [hr]
          clear hr r
          have hm59 := hm55.go hm58 (by intro i hi; simp only [List.mem_cons, List.not_mem_nil, or_false] at hi ⊢ <;> omega)
          show ST G mi_Ss_confirmServer 248 [(3, .ref 360), (0, .ref 343), (1, .ref 62), (2, .ref 217)] [] u56 0 0 _
          refine ST.lift (fun _ _ k => T_aload_n (v := .ref 343) d_Ss_confirmServer_248 rfl (Or.inr ⟨_, rfl⟩) k) ?_
          refine S_getfield d_Ss_confirmServer_249 fg_Ss_11 (w343 _) rfl ?_
          refine ST.lift (fun _ _ k => T_iconst (v := nI 1) d_Ss_confirmServer_252 (by decide) k) ?_
          refine S_aaload (C0 := "PasswordGate$Bytes") d_Ss_confirmServer_253 (by decide) (w344 _) rfl (vp_in_nI (by omega) (by omega)) ?_
          refine ST.lift (fun _ _ k => T_sipush (v := nI 256) d_Ss_confirmServer_254 (by decide) k) ?_
          refine ST.lift (fun _ _ k => T_aload_n (v := .ref 217) d_Ss_confirmServer_257 rfl (Or.inr ⟨_, rfl⟩) k) ?_
          refine S_getfield d_Ss_confirmServer_258 fg_Ss_163 (w217 _) rfl ?_
          refine ST.lift (fun _ _ k => T_iconst (v := nI 0) d_Ss_confirmServer_261 (by decide) k) ?_
          refine S_virtual (as := [.int (nI 256), .ref 218, .int (nI 0)]) (rest := []) (b := 359) d_Ss_confirmServer_262 rfl (jw_By_endsLike.jo (by decide)) lm_Ss_136 ji_By_endsLike js_By_endsLike (w359 _) rfl rfl rfl (Nat.le_of_ble_eq_true rfl) (by decide) (by decide) (c_By_endsLike G u56 359 360 320 59 ⟨w359, a360, by decide, u359_1, by decide, by decide⟩ 256 (by omega) 218 64 (by decide) a218 (by omega) 0 (by omega) hv57) (fun r u60 hq => ?_)
          obtain ⟨z63, hz63, hr, hv61, hm62⟩ := hq
          rw [hr]
          clear hr r
          have hm64 := hm59.go hm62 (by intro i hi; simp only [List.mem_cons, List.not_mem_nil, or_false] at hi ⊢ <;> omega)
          show ST G mi_Ss_confirmServer 265 [(3, .ref 360), (0, .ref 343), (1, .ref 62), (2, .ref 217)] [.int (nI z63)] u60 0 0 _
          refine S_if_neN d_Ss_confirmServer_265 rfl (by omega) (fun c65 => ?_) (fun c65 => ?_)
          · refine ST.lift (fun _ _ k => T_aload_n (v := .ref 343) d_Ss_confirmServer_270 rfl (Or.inr ⟨_, rfl⟩) k) ?_
            refine S_getfield d_Ss_confirmServer_271 fg_Ss_11 (w343 _) rfl ?_
            refine ST.lift (fun _ _ k => T_iconst (v := nI 2) d_Ss_confirmServer_274 (by decide) k) ?_
            refine S_aaload (C0 := "PasswordGate$Bytes") d_Ss_confirmServer_275 (by decide) (w344 _) rfl (vp_in_nI (by omega) (by omega)) ?_
            refine ST.lift (fun _ _ k => T_aload_n (v := .ref 217) d_Ss_confirmServer_276 rfl (Or.inr ⟨_, rfl⟩) k) ?_
            refine S_getfield d_Ss_confirmServer_277 fg_Ss_166 (w217 _) rfl ?_
            refine ST.lift (fun _ _ k => T_iconst (v := nI 0) d_Ss_confirmServer_280 (by decide) k) ?_
            refine ST.lift (fun _ _ k => T_bipush (v := nI 64) d_Ss_confirmServer_281 (by decide) k) ?_
            refine S_virtual (as := [.ref 219, .int (nI 0), .int (nI 64)]) (rest := []) (b := 361) d_Ss_confirmServer_283 rfl (jw_By_put.jo (by decide)) lm_Ss_169 ji_By_put js_By_put (w361 _) rfl rfl rfl (Nat.le_of_ble_eq_true rfl) (by decide) (by decide) (c_By_put G u60 361 362 64 60 ⟨w361, a362, by decide, u361_1, by decide, by decide⟩ 219 64 (by decide) a219 (by omega) 0 (by omega) 64 (by omega) hv61) (fun r u66 hq => ?_)
            obtain ⟨hr, hv67, hm68⟩ := hq
            rw [hr]
            clear hr r
            have hm69 := hm64.go hm68 (by intro i hi; simp only [List.mem_cons, List.not_mem_nil, or_false] at hi ⊢ <;> omega)
            show ST G mi_Ss_confirmServer 286 [(3, .ref 360), (0, .ref 343), (1, .ref 62), (2, .ref 217)] [] u66 0 0 _
            refine ST.lift (fun _ _ k => T_aload_n (v := .ref 343) d_Ss_confirmServer_286 rfl (Or.inr ⟨_, rfl⟩) k) ?_
            refine S_getfield d_Ss_confirmServer_287 fg_Ss_17 (w343 _) rfl ?_
            refine ST.lift (fun _ _ k => T_iconst (v := nI 0) d_Ss_confirmServer_290 (by decide) k) ?_
            refine S_aaload (C0 := "PasswordGate$Bytes") d_Ss_confirmServer_291 (by decide) (w345 _) rfl (vp_in_nI (by omega) (by omega)) ?_
            refine ST.lift (fun _ _ k => T_aload_n (v := .ref 217) d_Ss_confirmServer_292 rfl (Or.inr ⟨_, rfl⟩) k) ?_
            refine S_getfield d_Ss_confirmServer_293 fg_Ss_173 (w217 _) rfl ?_
            refine ST.lift (fun _ _ k => T_iconst (v := nI 0) d_Ss_confirmServer_296 (by decide) k) ?_
            refine ST.lift (fun _ _ k => T_bipush (v := nI 64) d_Ss_confirmServer_297 (by decide) k) ?_
            refine S_virtual (as := [.ref 220, .int (nI 0), .int (nI 64)]) (rest := []) (b := 363) d_Ss_confirmServer_299 rfl (jw_By_put.jo (by decide)) lm_Ss_169 ji_By_put js_By_put (w363 _) rfl rfl rfl (Nat.le_of_ble_eq_true rfl) (by decide) (by decide) (c_By_put G u66 363 364 64 61 ⟨w363, a364, by decide, u363_1, by decide, by decide⟩ 220 64 (by decide) a220 (by omega) 0 (by omega) 64 (by omega) hv67) (fun r u70 hq => ?_)
            obtain ⟨hr, hv71, hm72⟩ := hq
            rw [hr]
            clear hr r
            have hm73 := hm69.go hm72 (by intro i hi; simp only [List.mem_cons, List.not_mem_nil, or_false] at hi ⊢ <;> omega)
            show ST G mi_Ss_confirmServer 302 [(3, .ref 360), (0, .ref 343), (1, .ref 62), (2, .ref 217)] [] u70 0 0 _
            refine ST.lift (fun _ _ k => T_aload_n (v := .ref 343) d_Ss_confirmServer_302 rfl (Or.inr ⟨_, rfl⟩) k) ?_
            refine S_getfield d_Ss_confirmServer_303 fg_Ss_17 (w343 _) rfl ?_
            refine ST.lift (fun _ _ k => T_iconst (v := nI 2) d_Ss_confirmServer_306 (by decide) k) ?_
            refine S_aaload (C0 := "PasswordGate$Bytes") d_Ss_confirmServer_307 (by decide) (w345 _) rfl (vp_in_nI (by omega) (by omega)) ?_
            refine ST.lift (fun _ _ k => T_aload_n (v := .ref 62) d_Ss_confirmServer_308 rfl (Or.inr ⟨_, rfl⟩) k) ?_
            refine S_getfield d_Ss_confirmServer_309 fg_Ss_176 (w62 _) rfl ?_
            refine ST.lift (fun _ _ k => T_iconst (v := nI 0) d_Ss_confirmServer_312 (by decide) k) ?_
            refine ST.lift (fun _ _ k => T_bipush (v := nI 64) d_Ss_confirmServer_313 (by decide) k) ?_
            refine S_virtual (as := [.ref 206, .int (nI 0), .int (nI 64)]) (rest := []) (b := 367) d_Ss_confirmServer_315 rfl (jw_By_put.jo (by decide)) lm_Ss_169 ji_By_put js_By_put (w367 _) rfl rfl rfl (Nat.le_of_ble_eq_true rfl) (by decide) (by decide) (c_By_put G u70 367 368 64 63 ⟨w367, a368, by decide, u367_1, by decide, by decide⟩ 206 64 (by decide) a206 (by omega) 0 (by omega) 64 (by omega) hv71) (fun r u74 hq => ?_)
            obtain ⟨hr, hv75, hm76⟩ := hq
            rw [hr]
            clear hr r
            have hm77 := hm73.go hm76 (by intro i hi; simp only [List.mem_cons, List.not_mem_nil, or_false] at hi ⊢ <;> omega)
            show ST G mi_Ss_confirmServer 318 [(3, .ref 360), (0, .ref 343), (1, .ref 62), (2, .ref 217)] [] u74 0 0 _
            refine ST.lift (fun _ _ k => T_iconst (v := nI 0) d_Ss_confirmServer_318 (by decide) k) ?_
            exact S_ret d_Ss_confirmServer_319 rfl rfl (by decide) (by decide) (hQ _ _ hv75 hm77)
          · refine ST.lift (fun _ _ k => T_iconst (v := nI 4) d_Ss_confirmServer_268 (by decide) k) ?_
            exact S_ret d_Ss_confirmServer_269 rfl rfl (by decide) (by decide) (hQ _ _ hv61 hm64)
        · refine ST.lift (fun _ _ k => T_iconst (v := nI 1) d_Ss_confirmServer_176 (by decide) k) ?_
          exact S_ret d_Ss_confirmServer_177 rfl rfl (by decide) (by decide) (hQ _ _ hv35 hm38)
    · refine ST.lift (fun _ _ k => T_iconst (v := nI 3) d_Ss_confirmServer_134 (by decide) k) ?_
      exact S_ret d_Ss_confirmServer_135 rfl rfl (by decide) (by decide) (hQ _ _ hv23 hm26)
  · refine ST.lift (fun _ _ k => T_iconst (v := nI 1) d_Ss_confirmServer_26 (by decide) k) ?_
    exact S_ret d_Ss_confirmServer_27 rfl rfl (by decide) (by decide) (hQ _ _ hv2 hm5)
set_option maxRecDepth 100000 in
set_option maxHeartbeats 4000000 in
theorem c_Ss_confirmClient_343 (G : GX) (v : Nat → Int32) (hv : okv v) : CS G mi_Ss_confirmClient [.ref 343] v (fun r v' => ∃ z : Int32, r = some (.int z) ∧ okv v' ∧ mdf [58, 59, 60, 61, 62, 63, 55, 56, 57, 54, 85, 86, 87] v v') := by
  refine CS.of (by decide) (Nat.le_of_ble_eq_true rfl) ?_
  generalize hQe : (fun (r : Option Value) (v' : Nat → Int32) => ∃ z : Int32, r = some (.int z) ∧ okv v' ∧ mdf [58, 59, 60, 61, 62, 63, 55, 56, 57, 54, 85, 86, 87] v v') = Q
  have hQ : ∀ (z : Int32) (u : Nat → Int32), okv u → mdf [58, 59, 60, 61, 62, 63, 55, 56, 57, 54, 85, 86, 87] v u → Q (some (.int z)) u := by rw [← hQe]; exact fun z u h1 h2 => ⟨z, rfl, h1, h2⟩
  clear hQe
  have hm : mdf [58, 59, 60, 61, 62, 63, 55, 56, 57, 54, 85, 86, 87] v v := mdf.rf
  show ST G mi_Ss_confirmClient 0 [(0, .ref 343)] [] v 0 0 Q
  refine ST.lift (fun _ _ k => T_aload_n (v := .ref 343) d_Ss_confirmClient_0 rfl (Or.inr ⟨_, rfl⟩) k) ?_
  refine S_getfield d_Ss_confirmClient_1 fg_Ss_11 (w343 _) rfl ?_
  refine ST.lift (fun _ _ k => T_iconst (v := nI 2) d_Ss_confirmClient_4 (by decide) k) ?_
  refine S_aaload (C0 := "PasswordGate$Bytes") d_Ss_confirmClient_5 (by decide) (w344 _) rfl (vp_in_nI (by omega) (by omega)) ?_
  refine ST.lift (fun _ _ k => T_iconst (v := nI 0) d_Ss_confirmClient_6 (by decide) k) ?_
  refine ST.lift (fun _ _ k => T_aload_n (v := .ref 343) d_Ss_confirmClient_7 rfl (Or.inr ⟨_, rfl⟩) k) ?_
  refine S_getfield d_Ss_confirmClient_8 fg_Ss_20 (w343 _) rfl ?_
  refine ST.lift (fun _ _ k => T_iconst (v := nI 0) d_Ss_confirmClient_11 (by decide) k) ?_
  refine S_virtual (as := [.int (nI 0), .ref 346, .int (nI 0)]) (rest := []) (b := 361) d_Ss_confirmClient_12 rfl (jw_By_endsLike.jo (by decide)) lm_Ss_136 ji_By_endsLike js_By_endsLike (w361 _) rfl rfl rfl (Nat.le_of_ble_eq_true rfl) (by decide) (by decide) (c_By_endsLike G v 361 362 64 60 ⟨w361, a362, by decide, u361_1, by decide, by decide⟩ 0 (by omega) 346 64 (by decide) a346 (by omega) 0 (by omega) hv) (fun r u1 hq => ?_)
  obtain ⟨z4, hz4, hr, hv2, hm3⟩ := hq
  rw [hr]
  clear hr r
  have hm5 := hm.go hm3 (by intro i hi; simp only [List.mem_cons, List.not_mem_nil, or_false] at hi ⊢ <;> omega)
  show ST G mi_Ss_confirmClient 15 [(0, .ref 343)] [.int (nI z4)] u1 0 0 _
  refine S_if_neN d_Ss_confirmClient_15 rfl (by omega) (fun c6 => ?_) (fun c6 => ?_)
  · refine ST.lift (fun _ _ k => T_aload_n (v := .ref 343) d_Ss_confirmClient_20 rfl (Or.inr ⟨_, rfl⟩) k) ?_
    refine S_getfield d_Ss_confirmClient_21 fg_Ss_17 (w343 _) rfl ?_
    refine ST.lift (fun _ _ k => T_iconst (v := nI 1) d_Ss_confirmClient_24 (by decide) k) ?_
    refine S_aaload (C0 := "PasswordGate$Bytes") d_Ss_confirmClient_25 (by decide) (w345 _) rfl (vp_in_nI (by omega) (by omega)) ?_
    refine ST.lift (fun _ _ k => T_aload_n (v := .ref 343) d_Ss_confirmClient_26 rfl (Or.inr ⟨_, rfl⟩) k) ?_
    refine S_getfield d_Ss_confirmClient_27 fg_Ss_24 (w343 _) rfl ?_
    refine ST.lift (fun _ _ k => T_iconst (v := nI 0) d_Ss_confirmClient_30 (by decide) k) ?_
    refine ST.lift (fun _ _ k => T_bipush (v := nI 64) d_Ss_confirmClient_31 (by decide) k) ?_
    refine S_virtual (as := [.ref 347, .int (nI 0), .int (nI 64)]) (rest := []) (b := 365) d_Ss_confirmClient_33 rfl (jw_By_put.jo (by decide)) lm_Ss_169 ji_By_put js_By_put (w365 _) rfl rfl rfl (Nat.le_of_ble_eq_true rfl) (by decide) (by decide) (c_By_put G u1 365 366 64 62 ⟨w365, a366, by decide, u365_1, by decide, by decide⟩ 347 64 (by decide) a347 (by omega) 0 (by omega) 64 (by omega) hv2) (fun r u7 hq => ?_)
    obtain ⟨hr, hv8, hm9⟩ := hq
    rw [hr]
    clear hr r
    have hm10 := hm5.go hm9 (by intro i hi; simp only [List.mem_cons, List.not_mem_nil, or_false] at hi ⊢ <;> omega)
    show ST G mi_Ss_confirmClient 36 [(0, .ref 343)] [] u7 0 0 _
    refine ST.lift (fun _ _ k => T_iconst (v := nI 0) d_Ss_confirmClient_36 (by decide) k) ?_
    exact S_ret d_Ss_confirmClient_37 rfl rfl (by decide) (by decide) (hQ _ _ hv8 hm10)
  · refine ST.lift (fun _ _ k => T_iconst (v := nI 5) d_Ss_confirmClient_18 (by decide) k) ?_
    exact S_ret d_Ss_confirmClient_19 rfl rfl (by decide) (by decide) (hQ _ _ hv2 hm5)

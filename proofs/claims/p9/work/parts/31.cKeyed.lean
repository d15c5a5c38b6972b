set_option maxRecDepth 100000 in
set_option maxHeartbeats 4000000 in
theorem c_Key_openBody (G : GX) (v : Nat → Int32) (key mk : Nat) (w_key : K0 ≤ key) (a_key : aB key mk) (l_key : mk ≤ 2000) (mask : Int32) (hk64 : 64 ≤ mk) (hv : okv v) : CS G mi_Key_openBody [.ref 66, .ref key, .int mask] v (fun r v' => r = none ∧ okv v' ∧ mdf [2] v v') := by
  refine CS.of (by decide) (Nat.le_of_ble_eq_true rfl) ?_
  generalize hQe : (fun (r : Option Value) (v' : Nat → Int32) => r = none ∧ okv v' ∧ mdf [2] v v') = Q
  have hQ : ∀ u, okv u → mdf [2] v u → Q none u := by rw [← hQe]; exact fun u h1 h2 => ⟨rfl, h1, h2⟩
  clear hQe
  have hm : mdf [2] v v := mdf.rf
  show ST G mi_Key_openBody 0 [(0, .ref 66), (1, .ref key), (2, .int mask)] [] v 0 0 Q
  refine ST.lift (fun _ _ k => T_aload_n (v := .ref 66) d_Key_openBody_0 rfl (Or.inr ⟨_, rfl⟩) k) ?_
  refine S_getfield d_Key_openBody_1 fg_Key_21 (w66 _) rfl ?_
  refine S_virtual (as := []) (rest := []) (b := 70) d_Key_openBody_4 rfl (jw_By_clear.jo (by decide)) lm_Key_57 ji_By_clear js_By_clear (w70 _) rfl rfl rfl (Nat.le_of_ble_eq_true rfl) (by decide) (by decide) (c_By_clear G v 70 71 400 2 ⟨w70, a71, by decide, u70_1, by decide, by decide⟩ hv) (fun r v' hq => ?_)
  rw [hq.1, hq.2]
  clear hq r v'
  show ST G mi_Key_openBody 7 [(0, .ref 66), (1, .ref key), (2, .int mask)] [] (va_up v 2 (nI 0)) 0 0 _
  have hv2 := hv.up (j := 2) (c := 400) (k := 0) (by decide) (by omega)
  have hm3 := hm.go (mdf.up (v := v) (j := 2) (x := (nI 0))) (by intro i hi; simp only [List.mem_cons, List.not_mem_nil, or_false] at hi ⊢ <;> omega)
  have e_u1 : (va_up v 2 (nI 0)) 2 = (nI 0) := by simp [va_up]
  generalize va_up v 2 (nI 0) = u1 at hv2 hm3 e_u1 ⊢
  refine ST.lift (fun _ _ k => T_iconst (v := nI 0) d_Key_openBody_7 (by decide) k) ?_
  refine ST.lift (fun _ _ k => T_istore_n (L' := [(3, .int (nI 0)), (0, .ref 66), (1, .ref key), (2, .int mask)]) d_Key_openBody_8 (by decide) rfl k) ?_
  have lp8 : ∀ (n6 k4 : Nat) (u5 : Nat → Int32) (hv_u5 : okv u5) (hm_u5 : mdf [2] v u5), 128 - k4 = n6 → 0 ≤ k4 ∧ k4 ≤ 0 + 128 → ST G mi_Key_openBody 9 [(3, .int (nI k4)), (0, .ref 66), (1, .ref key), (2, .int mask)] [] u5 0 0 Q := by
    intro n6
    induction n6 using Nat.strongRecOn with
    | _ n6 ih7 =>
      intro k4 u5 hv_u5 hm_u5 h9 h10
      refine ST.lift (fun _ _ k => T_iload_n d_Key_openBody_9 rfl k) ?_
      refine ST.lift (fun _ _ k => T_sipush (v := nI 128) d_Key_openBody_10 (by decide) k) ?_
      refine S_icmp_geN d_Key_openBody_13 rfl (by omega) (by omega) (fun c11 => ?_) (fun c11 => ?_)
      · exact S_vret d_Key_openBody_44 rfl (by decide) (by decide) (hQ _ hv_u5 hm_u5)
      · refine ST.lift (fun _ _ k => T_aload_n (v := .ref 66) d_Key_openBody_16 rfl (Or.inr ⟨_, rfl⟩) k) ?_
        refine S_getfield d_Key_openBody_17 fg_Key_21 (w66 _) rfl ?_
        refine ST.lift (fun _ _ k => T_iload_n d_Key_openBody_20 rfl k) ?_
        refine ST.lift (fun _ _ k => T_bipush (v := nI 64) d_Key_openBody_21 (by decide) k) ?_
        have J35_16 : ∀ (z15 : Int32), ST G mi_Key_openBody 35 [(3, .int (nI k4)), (0, .ref 66), (1, .ref key), (2, .int mask)] [.int z15, .ref 70] u5 0 0 Q := by
          intro z15
          refine S_virtual (as := [.int z15]) (rest := []) (b := 70) d_Key_openBody_35 rfl (jw_By_putByte.jo (by decide)) lm_Key_60 ji_By_putByte js_By_putByte (w70 _) rfl rfl rfl (Nat.le_of_ble_eq_true rfl) (by decide) (by decide) (c_By_putByte G u5 70 71 400 2 ⟨w70, a71, by decide, u70_1, by decide, by decide⟩ z15 hv_u5) (fun r u17 hq => ?_)
          obtain ⟨hr, hv18, hm19⟩ := hq
          rw [hr]
          clear hr r
          have hm20 := hm_u5.go hm19 (by intro i hi; simp only [List.mem_cons, List.not_mem_nil, or_false] at hi ⊢ <;> omega)
          show ST G mi_Key_openBody 38 [(3, .int (nI k4)), (0, .ref 66), (1, .ref key), (2, .int mask)] [] u17 0 0 _
          refine S_iincN (a := k4) (b := 1) (L' := [(3, .int (nI (k4 + 1))), (0, .ref 66), (1, .ref key), (2, .int mask)]) d_Key_openBody_38 (by decide) rfl rfl rfl ?_
          refine ST.lift (fun _ _ k => T_goto (tgt := 9) d_Key_openBody_41 rfl k) ?_
          exact ih7 (128 - (k4 + 1)) (by omega) (k4 + 1)  u17 hv18 hm20 rfl (by omega)
        refine S_icmp_geN d_Key_openBody_23 rfl (by omega) (by omega) (fun c12 => ?_) (fun c12 => ?_)
        · refine ST.lift (fun _ _ k => T_iload_n d_Key_openBody_34 rfl k) ?_
          exact J35_16 mask
        · refine ST.lift (fun _ _ k => T_aload_n (v := .ref key) d_Key_openBody_26 rfl (Or.inr ⟨_, rfl⟩) k) ?_
          refine ST.lift (fun _ _ k => T_iload_n d_Key_openBody_27 rfl k) ?_
          refine S_baload d_Key_openBody_28 a_key (vp_in_nI (by omega) (by omega)) (fun z21 hz21 => ?_)
          refine ST.lift (fun _ _ k => T_iload_n d_Key_openBody_29 rfl k) ?_
          refine ST.lift (fun _ _ k => T_ixor d_Key_openBody_30 k) (S_anyi fun z22 => ?_)
          refine ST.lift (fun _ _ k => T_goto (tgt := 35) d_Key_openBody_31 rfl k) ?_
          exact J35_16 z22
  exact lp8 _ 0  u1 hv2 hm3 rfl (by omega)
set_option maxRecDepth 100000 in
set_option maxHeartbeats 4000000 in
theorem c_Key_mac (G : GX) (v : Nat → Int32) (key mk : Nat) (w_key : K0 ≤ key) (a_key : aB key mk) (l_key : mk ≤ 2000) (a ad ac aj : Nat) (y_a : isBy a ad ac aj) (to m : Nat) (w_to : K0 ≤ to) (a_to : aB to m) (l_to : m ≤ 2000) (hk64 : 64 ≤ mk) (h64 : 64 ≤ m) (hv : okv v) : CS G mi_Key_mac [.ref 66, .ref key, .ref a, .ref to] v (fun r v' => r = none ∧ okv v' ∧ mdf [2] v v') := by
  refine CS.of (by decide) (Nat.le_of_ble_eq_true rfl) ?_
  generalize hQe : (fun (r : Option Value) (v' : Nat → Int32) => r = none ∧ okv v' ∧ mdf [2] v v') = Q
  have hQ : ∀ u, okv u → mdf [2] v u → Q none u := by rw [← hQe]; exact fun u h1 h2 => ⟨rfl, h1, h2⟩
  clear hQe
  have hm : mdf [2] v v := mdf.rf
  have l_a := y_a.2.2.2.2.2
  show ST G mi_Key_mac 0 [(0, .ref 66), (1, .ref key), (2, .ref a), (3, .ref to)] [] v 0 0 Q
  refine ST.lift (fun _ _ k => T_aload_n (v := .ref 66) d_Key_mac_0 rfl (Or.inr ⟨_, rfl⟩) k) ?_
  refine ST.lift (fun _ _ k => T_aload_n (v := .ref key) d_Key_mac_1 rfl (Or.inr ⟨_, rfl⟩) k) ?_
  refine ST.lift (fun _ _ k => T_bipush (v := nI 54) d_Key_mac_2 (by decide) k) ?_
  refine S_virtual (as := [.ref key, .int (nI 54)]) (rest := []) (b := 66) d_Key_mac_4 rfl (jw_Key_openBody.jo (by decide)) lm_Key_38 ji_Key_openBody js_Key_openBody (w66 _) rfl rfl rfl (Nat.le_of_ble_eq_true rfl) (by decide) (by decide) (c_Key_openBody G v key mk w_key a_key (by omega) (nI 54) (by omega) hv) (fun r u1 hq => ?_)
  obtain ⟨hr, hv2, hm3⟩ := hq
  rw [hr]
  clear hr r
  have hm4 := hm.go hm3 (by intro i hi; simp only [List.mem_cons, List.not_mem_nil, or_false] at hi ⊢ <;> omega)
  show ST G mi_Key_mac 7 [(0, .ref 66), (1, .ref key), (2, .ref a), (3, .ref to)] [] u1 0 0 _
  refine ST.lift (fun _ _ k => T_aload_n (v := .ref 66) d_Key_mac_7 rfl (Or.inr ⟨_, rfl⟩) k) ?_
  refine S_getfield d_Key_mac_8 fg_Key_21 (w66 _) rfl ?_
  refine ST.lift (fun _ _ k => T_aload_n (v := .ref a) d_Key_mac_11 rfl (Or.inr ⟨_, rfl⟩) k) ?_
  refine S_getfield d_Key_mac_12 fg_Key_42 (y_a.1 _) rfl ?_
  refine ST.lift (fun _ _ k => T_iconst (v := nI 0) d_Key_mac_15 (by decide) k) ?_
  refine ST.lift (fun _ _ k => T_aload_n (v := .ref a) d_Key_mac_16 rfl (Or.inr ⟨_, rfl⟩) k) ?_
  obtain ⟨k5, hk5, ek5⟩ := hv2.get (j := aj) (c := ac) y_a.2.2.2.2.1
  refine S_getfield d_Key_mac_17 fg_Key_45 (y_a.1 _) rfl ?_
  refine S_topi (y := nI k5) (ek5) ?_
  refine S_virtual (as := [.ref ad, .int (nI 0), .int (nI k5)]) (rest := []) (b := 70) d_Key_mac_20 rfl (jw_By_put.jo (by decide)) lm_Key_49 ji_By_put js_By_put (w70 _) rfl rfl rfl (Nat.le_of_ble_eq_true rfl) (by decide) (by decide) (c_By_put G u1 70 71 400 2 ⟨w70, a71, by decide, u70_1, by decide, by decide⟩ ad ac y_a.2.2.1 y_a.2.1 (by omega) 0 (by omega) k5 (by omega) hv2) (fun r u6 hq => ?_)
  obtain ⟨hr, hv7, hm8⟩ := hq
  rw [hr]
  clear hr r
  have hm9 := hm4.go hm8 (by intro i hi; simp only [List.mem_cons, List.not_mem_nil, or_false] at hi ⊢ <;> omega)
  show ST G mi_Key_mac 23 [(0, .ref 66), (1, .ref key), (2, .ref a), (3, .ref to)] [] u6 0 0 _
  refine ST.lift (fun _ _ k => T_aload_n (v := .ref 66) d_Key_mac_23 rfl (Or.inr ⟨_, rfl⟩) k) ?_
  refine S_getfield d_Key_mac_24 fg_Key_10 (w66 _) rfl ?_
  refine ST.lift (fun _ _ k => T_aload_n (v := .ref 66) d_Key_mac_27 rfl (Or.inr ⟨_, rfl⟩) k) ?_
  refine S_getfield d_Key_mac_28 fg_Key_21 (w66 _) rfl ?_
  refine ST.lift (fun _ _ k => T_aload_n (v := .ref 66) d_Key_mac_31 rfl (Or.inr ⟨_, rfl⟩) k) ?_
  refine S_getfield d_Key_mac_32 fg_Key_28 (w66 _) rfl ?_
  refine S_virtual (as := [.ref 70, .ref 74]) (rest := []) (b := 67) d_Key_mac_35 rfl (jw_Dig_run.jo (by decide)) lm_Key_53 ji_Dig_run js_Dig_run (w67 _) rfl rfl rfl (Nat.le_of_ble_eq_true rfl) (by decide) (by decide) (c_Dig_run_67 G u6 70 71 400 2 ⟨w70, a71, by decide, u70_1, by decide, by decide⟩ 74 64 (by decide) a74 (by omega) (by omega) hv7) (fun r u10 hq => ?_)
  obtain ⟨hr, hv11, hm12⟩ := hq
  rw [hr]
  clear hr r
  have hm13 := hm9.go hm12 (by intro i hi; simp only [List.mem_cons, List.not_mem_nil, or_false] at hi ⊢ <;> omega)
  show ST G mi_Key_mac 38 [(0, .ref 66), (1, .ref key), (2, .ref a), (3, .ref to)] [] u10 0 0 _
  refine ST.lift (fun _ _ k => T_aload_n (v := .ref 66) d_Key_mac_38 rfl (Or.inr ⟨_, rfl⟩) k) ?_
  refine ST.lift (fun _ _ k => T_aload_n (v := .ref key) d_Key_mac_39 rfl (Or.inr ⟨_, rfl⟩) k) ?_
  refine ST.lift (fun _ _ k => T_bipush (v := nI 92) d_Key_mac_40 (by decide) k) ?_
  refine S_virtual (as := [.ref key, .int (nI 92)]) (rest := []) (b := 66) d_Key_mac_42 rfl (jw_Key_openBody.jo (by decide)) lm_Key_38 ji_Key_openBody js_Key_openBody (w66 _) rfl rfl rfl (Nat.le_of_ble_eq_true rfl) (by decide) (by decide) (c_Key_openBody G u10 key mk w_key a_key (by omega) (nI 92) (by omega) hv11) (fun r u14 hq => ?_)
  obtain ⟨hr, hv15, hm16⟩ := hq
  rw [hr]
  clear hr r
  have hm17 := hm13.go hm16 (by intro i hi; simp only [List.mem_cons, List.not_mem_nil, or_false] at hi ⊢ <;> omega)
  show ST G mi_Key_mac 45 [(0, .ref 66), (1, .ref key), (2, .ref a), (3, .ref to)] [] u14 0 0 _
  refine ST.lift (fun _ _ k => T_aload_n (v := .ref 66) d_Key_mac_45 rfl (Or.inr ⟨_, rfl⟩) k) ?_
  refine S_getfield d_Key_mac_46 fg_Key_21 (w66 _) rfl ?_
  refine ST.lift (fun _ _ k => T_aload_n (v := .ref 66) d_Key_mac_49 rfl (Or.inr ⟨_, rfl⟩) k) ?_
  refine S_getfield d_Key_mac_50 fg_Key_28 (w66 _) rfl ?_
  refine ST.lift (fun _ _ k => T_iconst (v := nI 0) d_Key_mac_53 (by decide) k) ?_
  refine ST.lift (fun _ _ k => T_bipush (v := nI 64) d_Key_mac_54 (by decide) k) ?_
  refine S_virtual (as := [.ref 74, .int (nI 0), .int (nI 64)]) (rest := []) (b := 70) d_Key_mac_56 rfl (jw_By_put.jo (by decide)) lm_Key_49 ji_By_put js_By_put (w70 _) rfl rfl rfl (Nat.le_of_ble_eq_true rfl) (by decide) (by decide) (c_By_put G u14 70 71 400 2 ⟨w70, a71, by decide, u70_1, by decide, by decide⟩ 74 64 (by decide) a74 (by omega) 0 (by omega) 64 (by omega) hv15) (fun r u18 hq => ?_)
  obtain ⟨hr, hv19, hm20⟩ := hq
  rw [hr]
  clear hr r
  have hm21 := hm17.go hm20 (by intro i hi; simp only [List.mem_cons, List.not_mem_nil, or_false] at hi ⊢ <;> omega)
  show ST G mi_Key_mac 59 [(0, .ref 66), (1, .ref key), (2, .ref a), (3, .ref to)] [] u18 0 0 _
  refine ST.lift (fun _ _ k => T_aload_n (v := .ref 66) d_Key_mac_59 rfl (Or.inr ⟨_, rfl⟩) k) ?_
  refine S_getfield d_Key_mac_60 fg_Key_10 (w66 _) rfl ?_
  refine ST.lift (fun _ _ k => T_aload_n (v := .ref 66) d_Key_mac_63 rfl (Or.inr ⟨_, rfl⟩) k) ?_
  refine S_getfield d_Key_mac_64 fg_Key_21 (w66 _) rfl ?_
  refine ST.lift (fun _ _ k => T_aload_n (v := .ref to) d_Key_mac_67 rfl (Or.inr ⟨_, rfl⟩) k) ?_
  refine S_virtual (as := [.ref 70, .ref to]) (rest := []) (b := 67) d_Key_mac_68 rfl (jw_Dig_run.jo (by decide)) lm_Key_53 ji_Dig_run js_Dig_run (w67 _) rfl rfl rfl (Nat.le_of_ble_eq_true rfl) (by decide) (by decide) (c_Dig_run_67 G u18 70 71 400 2 ⟨w70, a71, by decide, u70_1, by decide, by decide⟩ to m w_to a_to (by omega) (by omega) hv19) (fun r u22 hq => ?_)
  obtain ⟨hr, hv23, hm24⟩ := hq
  rw [hr]
  clear hr r
  have hm25 := hm21.go hm24 (by intro i hi; simp only [List.mem_cons, List.not_mem_nil, or_false] at hi ⊢ <;> omega)
  show ST G mi_Key_mac 71 [(0, .ref 66), (1, .ref key), (2, .ref a), (3, .ref to)] [] u22 0 0 _
  exact S_vret d_Key_mac_71 rfl (by decide) (by decide) (hQ _ hv23 hm25)
set_option maxRecDepth 100000 in
set_option maxHeartbeats 4000000 in
theorem c_Key_extract (G : GX) (v : Nat → Int32) (a ad ac aj : Nat) (y_a : isBy a ad ac aj) (to m : Nat) (w_to : K0 ≤ to) (a_to : aB to m) (l_to : m ≤ 2000) (h64 : 64 ≤ m) (hv : okv v) : CS G mi_Key_extract [.ref 66, .ref a, .ref to] v (fun r v' => r = none ∧ okv v' ∧ mdf [2] v v') := by
  refine CS.of (by decide) (Nat.le_of_ble_eq_true rfl) ?_
  generalize hQe : (fun (r : Option Value) (v' : Nat → Int32) => r = none ∧ okv v' ∧ mdf [2] v v') = Q
  have hQ : ∀ u, okv u → mdf [2] v u → Q none u := by rw [← hQe]; exact fun u h1 h2 => ⟨rfl, h1, h2⟩
  clear hQe
  have hm : mdf [2] v v := mdf.rf
  have l_a := y_a.2.2.2.2.2
  show ST G mi_Key_extract 0 [(0, .ref 66), (1, .ref a), (2, .ref to)] [] v 0 0 Q
  refine ST.lift (fun _ _ k => T_aload_n (v := .ref 66) d_Key_extract_0 rfl (Or.inr ⟨_, rfl⟩) k) ?_
  refine ST.lift (fun _ _ k => T_aload_n (v := .ref 66) d_Key_extract_1 rfl (Or.inr ⟨_, rfl⟩) k) ?_
  refine S_getfield d_Key_extract_2 fg_Key_35 (w66 _) rfl ?_
  refine ST.lift (fun _ _ k => T_aload_n (v := .ref a) d_Key_extract_5 rfl (Or.inr ⟨_, rfl⟩) k) ?_
  refine ST.lift (fun _ _ k => T_aload_n (v := .ref to) d_Key_extract_6 rfl (Or.inr ⟨_, rfl⟩) k) ?_
  refine S_virtual (as := [.ref 76, .ref a, .ref to]) (rest := []) (b := 66) d_Key_extract_7 rfl (jw_Key_mac.jo (by decide)) lm_Key_63 ji_Key_mac js_Key_mac (w66 _) rfl rfl rfl (Nat.le_of_ble_eq_true rfl) (by decide) (by decide) (c_Key_mac G v 76 64 (by decide) a76 (by omega) a ad ac aj y_a to m w_to a_to (by omega) (by omega) (by omega) hv) (fun r u1 hq => ?_)
  obtain ⟨hr, hv2, hm3⟩ := hq
  rw [hr]
  clear hr r
  have hm4 := hm.go hm3 (by intro i hi; simp only [List.mem_cons, List.not_mem_nil, or_false] at hi ⊢ <;> omega)
  show ST G mi_Key_extract 10 [(0, .ref 66), (1, .ref a), (2, .ref to)] [] u1 0 0 _
  exact S_vret d_Key_extract_10 rfl (by decide) (by decide) (hQ _ hv2 hm4)
set_option maxRecDepth 100000 in
set_option maxHeartbeats 4000000 in
theorem c_Key_expand_32 (G : GX) (v : Nat → Int32) (key mk : Nat) (w_key : K0 ≤ key) (a_key : aB key mk) (l_key : mk ≤ 2000) (a ad ac aj : Nat) (y_a : isBy a ad ac aj) (to m : Nat) (w_to : K0 ≤ to) (a_to : aB to m) (l_to : m ≤ 2000) (hk64 : 64 ≤ mk) (hn : 32 ≤ m) (hv : okv v) : CS G mi_Key_expand [.ref 66, .ref key, .ref a, .ref to, .int (nI 32)] v (fun r v' => r = none ∧ okv v' ∧ mdf [2, 3] v v') := by
  refine CS.of (by decide) (Nat.le_of_ble_eq_true rfl) ?_
  generalize hQe : (fun (r : Option Value) (v' : Nat → Int32) => r = none ∧ okv v' ∧ mdf [2, 3] v v') = Q
  have hQ : ∀ u, okv u → mdf [2, 3] v u → Q none u := by rw [← hQe]; exact fun u h1 h2 => ⟨rfl, h1, h2⟩
  clear hQe
  have hm : mdf [2, 3] v v := mdf.rf
  have l_a := y_a.2.2.2.2.2
  show ST G mi_Key_expand 0 [(0, .ref 66), (1, .ref key), (2, .ref a), (3, .ref to), (4, .int (nI 32))] [] v 0 0 Q
  refine ST.lift (fun _ _ k => T_iconst (v := nI 0) d_Key_expand_0 (by decide) k) ?_
  refine ST.lift (fun _ _ k => T_istore (L' := [(5, .int (nI 0)), (0, .ref 66), (1, .ref key), (2, .ref a), (3, .ref to), (4, .int (nI 32))]) d_Key_expand_1 (by decide) rfl k) ?_
  refine ST.lift (fun _ _ k => T_iload d_Key_expand_3 rfl k) ?_
  refine ST.lift (fun _ _ k => T_iload d_Key_expand_5 rfl k) ?_
  refine S_icmp_geN d_Key_expand_7 rfl (by omega) (by omega) (fun c => by first | exact absurd c (by omega) | exact c.elim | exact absurd c (by decide) | exact absurd (by assumption) c | exact absurd c (by assumption)) (fun _ => ?_)
  refine ST.lift (fun _ _ k => T_aload_n (v := .ref 66) d_Key_expand_10 rfl (Or.inr ⟨_, rfl⟩) k) ?_
  refine S_getfield d_Key_expand_11 fg_Key_25 (w66 _) rfl ?_
  refine S_virtual (as := []) (rest := []) (b := 72) d_Key_expand_14 rfl (jw_By_clear.jo (by decide)) lm_Key_57 ji_By_clear js_By_clear (w72 _) rfl rfl rfl (Nat.le_of_ble_eq_true rfl) (by decide) (by decide) (c_By_clear G v 72 73 200 3 ⟨w72, a73, by decide, u72_1, by decide, by decide⟩ hv) (fun r v' hq => ?_)
  rw [hq.1, hq.2]
  clear hq r v'
  show ST G mi_Key_expand 17 [(5, .int (nI 0)), (0, .ref 66), (1, .ref key), (2, .ref a), (3, .ref to), (4, .int (nI 32))] [] (va_up v 3 (nI 0)) 0 0 _
  have hv2 := hv.up (j := 3) (c := 200) (k := 0) (by decide) (by omega)
  have hm3 := hm.go (mdf.up (v := v) (j := 3) (x := (nI 0))) (by intro i hi; simp only [List.mem_cons, List.not_mem_nil, or_false] at hi ⊢ <;> omega)
  have e_u1 : (va_up v 3 (nI 0)) 3 = (nI 0) := by simp [va_up]
  generalize va_up v 3 (nI 0) = u1 at hv2 hm3 e_u1 ⊢
  refine ST.lift (fun _ _ k => T_iload d_Key_expand_17 rfl k) ?_
  refine S_if_leN d_Key_expand_19 rfl (by omega) (fun _ => ?_) (fun c => by first | exact absurd c (by omega) | exact c.elim | exact absurd c (by decide) | exact absurd (by assumption) c | exact absurd c (by assumption))
  refine ST.lift (fun _ _ k => T_aload_n (v := .ref 66) d_Key_expand_36 rfl (Or.inr ⟨_, rfl⟩) k) ?_
  refine S_getfield d_Key_expand_37 fg_Key_25 (w66 _) rfl ?_
  refine ST.lift (fun _ _ k => T_aload_n (v := .ref a) d_Key_expand_40 rfl (Or.inr ⟨_, rfl⟩) k) ?_
  refine S_virtual (as := [.ref a]) (rest := []) (b := 72) d_Key_expand_41 rfl (jw_By_putAll.jo (by decide)) lm_Key_67 ji_By_putAll js_By_putAll (w72 _) rfl rfl rfl (Nat.le_of_ble_eq_true rfl) (by decide) (by decide) (c_By_putAll G u1 72 73 200 3 ⟨w72, a73, by decide, u72_1, by decide, by decide⟩ a ad ac aj y_a hv2) (fun r u4 hq => ?_)
  obtain ⟨hr, hv5, hm6⟩ := hq
  rw [hr]
  clear hr r
  have hm7 := hm3.go hm6 (by intro i hi; simp only [List.mem_cons, List.not_mem_nil, or_false] at hi ⊢ <;> omega)
  show ST G mi_Key_expand 44 [(5, .int (nI 0)), (0, .ref 66), (1, .ref key), (2, .ref a), (3, .ref to), (4, .int (nI 32))] [] u4 0 0 _
  refine ST.lift (fun _ _ k => T_aload_n (v := .ref 66) d_Key_expand_44 rfl (Or.inr ⟨_, rfl⟩) k) ?_
  refine S_getfield d_Key_expand_45 fg_Key_25 (w66 _) rfl ?_
  refine ST.lift (fun _ _ k => T_iload d_Key_expand_48 rfl k) ?_
  refine ST.lift (fun _ _ k => T_bipush (v := nI 64) d_Key_expand_50 (by decide) k) ?_
  refine S_idivN d_Key_expand_52 (by omega) (by omega) (by omega) ?_
  refine S_topi (y := nI 0) (by decide) ?_
  refine ST.lift (fun _ _ k => T_iconst (v := nI 1) d_Key_expand_53 (by decide) k) ?_
  refine S_iaddN d_Key_expand_54 ?_
  refine S_topi (y := nI 1) (by decide) ?_
  refine S_virtual (as := [.int (nI 1)]) (rest := []) (b := 72) d_Key_expand_55 rfl (jw_By_putByte.jo (by decide)) lm_Key_60 ji_By_putByte js_By_putByte (w72 _) rfl rfl rfl (Nat.le_of_ble_eq_true rfl) (by decide) (by decide) (c_By_putByte G u4 72 73 200 3 ⟨w72, a73, by decide, u72_1, by decide, by decide⟩ (nI 1) hv5) (fun r u8 hq => ?_)
  obtain ⟨hr, hv9, hm10⟩ := hq
  rw [hr]
  clear hr r
  have hm11 := hm7.go hm10 (by intro i hi; simp only [List.mem_cons, List.not_mem_nil, or_false] at hi ⊢ <;> omega)
  show ST G mi_Key_expand 58 [(5, .int (nI 0)), (0, .ref 66), (1, .ref key), (2, .ref a), (3, .ref to), (4, .int (nI 32))] [] u8 0 0 _
  refine ST.lift (fun _ _ k => T_aload_n (v := .ref 66) d_Key_expand_58 rfl (Or.inr ⟨_, rfl⟩) k) ?_
  refine ST.lift (fun _ _ k => T_aload_n (v := .ref key) d_Key_expand_59 rfl (Or.inr ⟨_, rfl⟩) k) ?_
  refine ST.lift (fun _ _ k => T_aload_n (v := .ref 66) d_Key_expand_60 rfl (Or.inr ⟨_, rfl⟩) k) ?_
  refine S_getfield d_Key_expand_61 fg_Key_25 (w66 _) rfl ?_
  refine ST.lift (fun _ _ k => T_aload_n (v := .ref 66) d_Key_expand_64 rfl (Or.inr ⟨_, rfl⟩) k) ?_
  refine S_getfield d_Key_expand_65 fg_Key_32 (w66 _) rfl ?_
  refine S_virtual (as := [.ref key, .ref 72, .ref 75]) (rest := []) (b := 66) d_Key_expand_68 rfl (jw_Key_mac.jo (by decide)) lm_Key_63 ji_Key_mac js_Key_mac (w66 _) rfl rfl rfl (Nat.le_of_ble_eq_true rfl) (by decide) (by decide) (c_Key_mac G u8 key mk w_key a_key (by omega) 72 73 200 3 ⟨w72, a73, by decide, u72_1, by decide, by decide⟩ 75 64 (by decide) a75 (by omega) (by omega) (by omega) hv9) (fun r u12 hq => ?_)
  obtain ⟨hr, hv13, hm14⟩ := hq
  rw [hr]
  clear hr r
  have hm15 := hm11.go hm14 (by intro i hi; simp only [List.mem_cons, List.not_mem_nil, or_false] at hi ⊢ <;> omega)
  show ST G mi_Key_expand 71 [(5, .int (nI 0)), (0, .ref 66), (1, .ref key), (2, .ref a), (3, .ref to), (4, .int (nI 32))] [] u12 0 0 _
  refine ST.lift (fun _ _ k => T_aload_n (v := .ref 66) d_Key_expand_71 rfl (Or.inr ⟨_, rfl⟩) k) ?_
  refine S_getfield d_Key_expand_72 fg_Key_32 (w66 _) rfl ?_
  refine ST.lift (fun _ _ k => T_iconst (v := nI 0) d_Key_expand_75 (by decide) k) ?_
  refine ST.lift (fun _ _ k => T_aload_n (v := .ref to) d_Key_expand_76 rfl (Or.inr ⟨_, rfl⟩) k) ?_
  refine ST.lift (fun _ _ k => T_iload d_Key_expand_77 rfl k) ?_
  refine ST.lift (fun _ _ k => T_bipush (v := nI 64) d_Key_expand_79 (by decide) k) ?_
  refine ST.lift (fun _ _ k => T_iload d_Key_expand_81 rfl k) ?_
  refine ST.lift (fun _ _ k => T_iload d_Key_expand_83 rfl k) ?_
  refine S_isubN d_Key_expand_85 (by omega) ?_
  refine S_topi (y := nI 32) (by decide) ?_
  refine S_min d_Key_expand_86 lm_Key_71 (by decide) (Nat.le_of_ble_eq_true rfl) (by decide) (by decide) (by omega) (by omega) (fun z16 hz16a hz16b => ?_)
  refine S_copyB d_Key_expand_89 lm_Key_77 (by decide) w_to a75 a_to (by omega) (by omega) (by omega) (by omega) (by omega) (by decide) (Nat.le_of_ble_eq_true rfl) ?_
  refine S_iincN (a := 0) (b := 64) (L' := [(5, .int (nI 64)), (0, .ref 66), (1, .ref key), (2, .ref a), (3, .ref to), (4, .int (nI 32))]) d_Key_expand_92 (by decide) rfl rfl rfl ?_
  refine ST.lift (fun _ _ k => T_goto (tgt := 3) d_Key_expand_95 rfl k) ?_
  refine ST.lift (fun _ _ k => T_iload d_Key_expand_3 rfl k) ?_
  refine ST.lift (fun _ _ k => T_iload d_Key_expand_5 rfl k) ?_
  refine S_icmp_geN d_Key_expand_7 rfl (by omega) (by omega) (fun _ => ?_) (fun c => by first | exact absurd c (by omega) | exact c.elim | exact absurd c (by decide) | exact absurd (by assumption) c | exact absurd c (by assumption))
  exact S_vret d_Key_expand_98 rfl (by decide) (by decide) (hQ _ hv13 hm15)
set_option maxRecDepth 100000 in
set_option maxHeartbeats 4000000 in
theorem c_Key_expand_64 (G : GX) (v : Nat → Int32) (key mk : Nat) (w_key : K0 ≤ key) (a_key : aB key mk) (l_key : mk ≤ 2000) (a ad ac aj : Nat) (y_a : isBy a ad ac aj) (to m : Nat) (w_to : K0 ≤ to) (a_to : aB to m) (l_to : m ≤ 2000) (hk64 : 64 ≤ mk) (hn : 64 ≤ m) (hv : okv v) : CS G mi_Key_expand [.ref 66, .ref key, .ref a, .ref to, .int (nI 64)] v (fun r v' => r = none ∧ okv v' ∧ mdf [2, 3] v v') := by
  refine CS.of (by decide) (Nat.le_of_ble_eq_true rfl) ?_
  generalize hQe : (fun (r : Option Value) (v' : Nat → Int32) => r = none ∧ okv v' ∧ mdf [2, 3] v v') = Q
  have hQ : ∀ u, okv u → mdf [2, 3] v u → Q none u := by rw [← hQe]; exact fun u h1 h2 => ⟨rfl, h1, h2⟩
  clear hQe
  have hm : mdf [2, 3] v v := mdf.rf
  have l_a := y_a.2.2.2.2.2
  show ST G mi_Key_expand 0 [(0, .ref 66), (1, .ref key), (2, .ref a), (3, .ref to), (4, .int (nI 64))] [] v 0 0 Q
  refine ST.lift (fun _ _ k => T_iconst (v := nI 0) d_Key_expand_0 (by decide) k) ?_
  refine ST.lift (fun _ _ k => T_istore (L' := [(5, .int (nI 0)), (0, .ref 66), (1, .ref key), (2, .ref a), (3, .ref to), (4, .int (nI 64))]) d_Key_expand_1 (by decide) rfl k) ?_
  refine ST.lift (fun _ _ k => T_iload d_Key_expand_3 rfl k) ?_
  refine ST.lift (fun _ _ k => T_iload d_Key_expand_5 rfl k) ?_
  refine S_icmp_geN d_Key_expand_7 rfl (by omega) (by omega) (fun c => by first | exact absurd c (by omega) | exact c.elim | exact absurd c (by decide) | exact absurd (by assumption) c | exact absurd c (by assumption)) (fun _ => ?_)
  refine ST.lift (fun _ _ k => T_aload_n (v := .ref 66) d_Key_expand_10 rfl (Or.inr ⟨_, rfl⟩) k) ?_
  refine S_getfield d_Key_expand_11 fg_Key_25 (w66 _) rfl ?_
  refine S_virtual (as := []) (rest := []) (b := 72) d_Key_expand_14 rfl (jw_By_clear.jo (by decide)) lm_Key_57 ji_By_clear js_By_clear (w72 _) rfl rfl rfl (Nat.le_of_ble_eq_true rfl) (by decide) (by decide) (c_By_clear G v 72 73 200 3 ⟨w72, a73, by decide, u72_1, by decide, by decide⟩ hv) (fun r v' hq => ?_)
  rw [hq.1, hq.2]
  clear hq r v'
  show ST G mi_Key_expand 17 [(5, .int (nI 0)), (0, .ref 66), (1, .ref key), (2, .ref a), (3, .ref to), (4, .int (nI 64))] [] (va_up v 3 (nI 0)) 0 0 _
  have hv2 := hv.up (j := 3) (c := 200) (k := 0) (by decide) (by omega)
  have hm3 := hm.go (mdf.up (v := v) (j := 3) (x := (nI 0))) (by intro i hi; simp only [List.mem_cons, List.not_mem_nil, or_false] at hi ⊢ <;> omega)
  have e_u1 : (va_up v 3 (nI 0)) 3 = (nI 0) := by simp [va_up]
  generalize va_up v 3 (nI 0) = u1 at hv2 hm3 e_u1 ⊢
  refine ST.lift (fun _ _ k => T_iload d_Key_expand_17 rfl k) ?_
  refine S_if_leN d_Key_expand_19 rfl (by omega) (fun _ => ?_) (fun c => by first | exact absurd c (by omega) | exact c.elim | exact absurd c (by decide) | exact absurd (by assumption) c | exact absurd c (by assumption))
  refine ST.lift (fun _ _ k => T_aload_n (v := .ref 66) d_Key_expand_36 rfl (Or.inr ⟨_, rfl⟩) k) ?_
  refine S_getfield d_Key_expand_37 fg_Key_25 (w66 _) rfl ?_
  refine ST.lift (fun _ _ k => T_aload_n (v := .ref a) d_Key_expand_40 rfl (Or.inr ⟨_, rfl⟩) k) ?_
  refine S_virtual (as := [.ref a]) (rest := []) (b := 72) d_Key_expand_41 rfl (jw_By_putAll.jo (by decide)) lm_Key_67 ji_By_putAll js_By_putAll (w72 _) rfl rfl rfl (Nat.le_of_ble_eq_true rfl) (by decide) (by decide) (c_By_putAll G u1 72 73 200 3 ⟨w72, a73, by decide, u72_1, by decide, by decide⟩ a ad ac aj y_a hv2) (fun r u4 hq => ?_)
  obtain ⟨hr, hv5, hm6⟩ := hq
  rw [hr]
  clear hr r
  have hm7 := hm3.go hm6 (by intro i hi; simp only [List.mem_cons, List.not_mem_nil, or_false] at hi ⊢ <;> omega)
  show ST G mi_Key_expand 44 [(5, .int (nI 0)), (0, .ref 66), (1, .ref key), (2, .ref a), (3, .ref to), (4, .int (nI 64))] [] u4 0 0 _
  refine ST.lift (fun _ _ k => T_aload_n (v := .ref 66) d_Key_expand_44 rfl (Or.inr ⟨_, rfl⟩) k) ?_
  refine S_getfield d_Key_expand_45 fg_Key_25 (w66 _) rfl ?_
  refine ST.lift (fun _ _ k => T_iload d_Key_expand_48 rfl k) ?_
  refine ST.lift (fun _ _ k => T_bipush (v := nI 64) d_Key_expand_50 (by decide) k) ?_
  refine S_idivN d_Key_expand_52 (by omega) (by omega) (by omega) ?_
  refine S_topi (y := nI 0) (by decide) ?_
  refine ST.lift (fun _ _ k => T_iconst (v := nI 1) d_Key_expand_53 (by decide) k) ?_
  refine S_iaddN d_Key_expand_54 ?_
  refine S_topi (y := nI 1) (by decide) ?_
  refine S_virtual (as := [.int (nI 1)]) (rest := []) (b := 72) d_Key_expand_55 rfl (jw_By_putByte.jo (by decide)) lm_Key_60 ji_By_putByte js_By_putByte (w72 _) rfl rfl rfl (Nat.le_of_ble_eq_true rfl) (by decide) (by decide) (c_By_putByte G u4 72 73 200 3 ⟨w72, a73, by decide, u72_1, by decide, by decide⟩ (nI 1) hv5) (fun r u8 hq => ?_)
  obtain ⟨hr, hv9, hm10⟩ := hq
  rw [hr]
  clear hr r
  have hm11 := hm7.go hm10 (by intro i hi; simp only [List.mem_cons, List.not_mem_nil, or_false] at hi ⊢ <;> omega)
  show ST G mi_Key_expand 58 [(5, .int (nI 0)), (0, .ref 66), (1, .ref key), (2, .ref a), (3, .ref to), (4, .int (nI 64))] [] u8 0 0 _
  refine ST.lift (fun _ _ k => T_aload_n (v := .ref 66) d_Key_expand_58 rfl (Or.inr ⟨_, rfl⟩) k) ?_
  refine ST.lift (fun _ _ k => T_aload_n (v := .ref key) d_Key_expand_59 rfl (Or.inr ⟨_, rfl⟩) k) ?_
  refine ST.lift (fun _ _ k => T_aload_n (v := .ref 66) d_Key_expand_60 rfl (Or.inr ⟨_, rfl⟩) k) ?_
  refine S_getfield d_Key_expand_61 fg_Key_25 (w66 _) rfl ?_
  refine ST.lift (fun _ _ k => T_aload_n (v := .ref 66) d_Key_expand_64 rfl (Or.inr ⟨_, rfl⟩) k) ?_
  refine S_getfield d_Key_expand_65 fg_Key_32 (w66 _) rfl ?_
  refine S_virtual (as := [.ref key, .ref 72, .ref 75]) (rest := []) (b := 66) d_Key_expand_68 rfl (jw_Key_mac.jo (by decide)) lm_Key_63 ji_Key_mac js_Key_mac (w66 _) rfl rfl rfl (Nat.le_of_ble_eq_true rfl) (by decide) (by decide) (c_Key_mac G u8 key mk w_key a_key (by omega) 72 73 200 3 ⟨w72, a73, by decide, u72_1, by decide, by decide⟩ 75 64 (by decide) a75 (by omega) (by omega) (by omega) hv9) (fun r u12 hq => ?_)
  obtain ⟨hr, hv13, hm14⟩ := hq
  rw [hr]
  clear hr r
  have hm15 := hm11.go hm14 (by intro i hi; simp only [List.mem_cons, List.not_mem_nil, or_false] at hi ⊢ <;> omega)
  show ST G mi_Key_expand 71 [(5, .int (nI 0)), (0, .ref 66), (1, .ref key), (2, .ref a), (3, .ref to), (4, .int (nI 64))] [] u12 0 0 _
  refine ST.lift (fun _ _ k => T_aload_n (v := .ref 66) d_Key_expand_71 rfl (Or.inr ⟨_, rfl⟩) k) ?_
  refine S_getfield d_Key_expand_72 fg_Key_32 (w66 _) rfl ?_
  refine ST.lift (fun _ _ k => T_iconst (v := nI 0) d_Key_expand_75 (by decide) k) ?_
  refine ST.lift (fun _ _ k => T_aload_n (v := .ref to) d_Key_expand_76 rfl (Or.inr ⟨_, rfl⟩) k) ?_
  refine ST.lift (fun _ _ k => T_iload d_Key_expand_77 rfl k) ?_
  refine ST.lift (fun _ _ k => T_bipush (v := nI 64) d_Key_expand_79 (by decide) k) ?_
  refine ST.lift (fun _ _ k => T_iload d_Key_expand_81 rfl k) ?_
  refine ST.lift (fun _ _ k => T_iload d_Key_expand_83 rfl k) ?_
  refine S_isubN d_Key_expand_85 (by omega) ?_
  refine S_topi (y := nI 64) (by decide) ?_
  refine S_min d_Key_expand_86 lm_Key_71 (by decide) (Nat.le_of_ble_eq_true rfl) (by decide) (by decide) (by omega) (by omega) (fun z16 hz16a hz16b => ?_)
  refine S_copyB d_Key_expand_89 lm_Key_77 (by decide) w_to a75 a_to (by omega) (by omega) (by omega) (by omega) (by omega) (by decide) (Nat.le_of_ble_eq_true rfl) ?_
  refine S_iincN (a := 0) (b := 64) (L' := [(5, .int (nI 64)), (0, .ref 66), (1, .ref key), (2, .ref a), (3, .ref to), (4, .int (nI 64))]) d_Key_expand_92 (by decide) rfl rfl rfl ?_
  refine ST.lift (fun _ _ k => T_goto (tgt := 3) d_Key_expand_95 rfl k) ?_
  refine ST.lift (fun _ _ k => T_iload d_Key_expand_3 rfl k) ?_
  refine ST.lift (fun _ _ k => T_iload d_Key_expand_5 rfl k) ?_
  refine S_icmp_geN d_Key_expand_7 rfl (by omega) (by omega) (fun _ => ?_) (fun c => by first | exact absurd c (by omega) | exact c.elim | exact absurd c (by decide) | exact absurd (by assumption) c | exact absurd c (by assumption))
  exact S_vret d_Key_expand_98 rfl (by decide) (by decide) (hQ _ hv13 hm15)
set_option maxRecDepth 100000 in
set_option maxHeartbeats 4000000 in
theorem c_Key_expand_128 (G : GX) (v : Nat → Int32) (key mk : Nat) (w_key : K0 ≤ key) (a_key : aB key mk) (l_key : mk ≤ 2000) (a ad ac aj : Nat) (y_a : isBy a ad ac aj) (to m : Nat) (w_to : K0 ≤ to) (a_to : aB to m) (l_to : m ≤ 2000) (hk64 : 64 ≤ mk) (hn : 128 ≤ m) (hv : okv v) : CS G mi_Key_expand [.ref 66, .ref key, .ref a, .ref to, .int (nI 128)] v (fun r v' => r = none ∧ okv v' ∧ mdf [2, 3] v v') := by
  refine CS.of (by decide) (Nat.le_of_ble_eq_true rfl) ?_
  generalize hQe : (fun (r : Option Value) (v' : Nat → Int32) => r = none ∧ okv v' ∧ mdf [2, 3] v v') = Q
  have hQ : ∀ u, okv u → mdf [2, 3] v u → Q none u := by rw [← hQe]; exact fun u h1 h2 => ⟨rfl, h1, h2⟩
  clear hQe
  have hm : mdf [2, 3] v v := mdf.rf
  have l_a := y_a.2.2.2.2.2
  show ST G mi_Key_expand 0 [(0, .ref 66), (1, .ref key), (2, .ref a), (3, .ref to), (4, .int (nI 128))] [] v 0 0 Q
  refine ST.lift (fun _ _ k => T_iconst (v := nI 0) d_Key_expand_0 (by decide) k) ?_
  refine ST.lift (fun _ _ k => T_istore (L' := [(5, .int (nI 0)), (0, .ref 66), (1, .ref key), (2, .ref a), (3, .ref to), (4, .int (nI 128))]) d_Key_expand_1 (by decide) rfl k) ?_
  refine ST.lift (fun _ _ k => T_iload d_Key_expand_3 rfl k) ?_
  refine ST.lift (fun _ _ k => T_iload d_Key_expand_5 rfl k) ?_
  refine S_icmp_geN d_Key_expand_7 rfl (by omega) (by omega) (fun c => by first | exact absurd c (by omega) | exact c.elim | exact absurd c (by decide) | exact absurd (by assumption) c | exact absurd c (by assumption)) (fun _ => ?_)
  refine ST.lift (fun _ _ k => T_aload_n (v := .ref 66) d_Key_expand_10 rfl (Or.inr ⟨_, rfl⟩) k) ?_
  refine S_getfield d_Key_expand_11 fg_Key_25 (w66 _) rfl ?_
  refine S_virtual (as := []) (rest := []) (b := 72) d_Key_expand_14 rfl (jw_By_clear.jo (by decide)) lm_Key_57 ji_By_clear js_By_clear (w72 _) rfl rfl rfl (Nat.le_of_ble_eq_true rfl) (by decide) (by decide) (c_By_clear G v 72 73 200 3 ⟨w72, a73, by decide, u72_1, by decide, by decide⟩ hv) (fun r v' hq => ?_)
  rw [hq.1, hq.2]
  clear hq r v'
  show ST G mi_Key_expand 17 [(5, .int (nI 0)), (0, .ref 66), (1, .ref key), (2, .ref a), (3, .ref to), (4, .int (nI 128))] [] (va_up v 3 (nI 0)) 0 0 _
  have hv2 := hv.up (j := 3) (c := 200) (k := 0) (by decide) (by omega)
  have hm3 := hm.go (mdf.up (v := v) (j := 3) (x := (nI 0))) (by intro i hi; simp only [List.mem_cons, List.not_mem_nil, or_false] at hi ⊢ <;> omega)
  have e_u1 : (va_up v 3 (nI 0)) 3 = (nI 0) := by simp [va_up]
  generalize va_up v 3 (nI 0) = u1 at hv2 hm3 e_u1 ⊢
  refine ST.lift (fun _ _ k => T_iload d_Key_expand_17 rfl k) ?_
  refine S_if_leN d_Key_expand_19 rfl (by omega) (fun _ => ?_) (fun c => by first | exact absurd c (by omega) | exact c.elim | exact absurd c (by decide) | exact absurd (by assumption) c | exact absurd c (by assumption))
  refine ST.lift (fun _ _ k => T_aload_n (v := .ref 66) d_Key_expand_36 rfl (Or.inr ⟨_, rfl⟩) k) ?_
  refine S_getfield d_Key_expand_37 fg_Key_25 (w66 _) rfl ?_
  refine ST.lift (fun _ _ k => T_aload_n (v := .ref a) d_Key_expand_40 rfl (Or.inr ⟨_, rfl⟩) k) ?_
  refine S_virtual (as := [.ref a]) (rest := []) (b := 72) d_Key_expand_41 rfl (jw_By_putAll.jo (by decide)) lm_Key_67 ji_By_putAll js_By_putAll (w72 _) rfl rfl rfl (Nat.le_of_ble_eq_true rfl) (by decide) (by decide) (c_By_putAll G u1 72 73 200 3 ⟨w72, a73, by decide, u72_1, by decide, by decide⟩ a ad ac aj y_a hv2) (fun r u4 hq => ?_)
  obtain ⟨hr, hv5, hm6⟩ := hq
  rw [hr]
  clear hr r
  have hm7 := hm3.go hm6 (by intro i hi; simp only [List.mem_cons, List.not_mem_nil, or_false] at hi ⊢ <;> omega)
  show ST G mi_Key_expand 44 [(5, .int (nI 0)), (0, .ref 66), (1, .ref key), (2, .ref a), (3, .ref to), (4, .int (nI 128))] [] u4 0 0 _
  refine ST.lift (fun _ _ k => T_aload_n (v := .ref 66) d_Key_expand_44 rfl (Or.inr ⟨_, rfl⟩) k) ?_
  refine S_getfield d_Key_expand_45 fg_Key_25 (w66 _) rfl ?_
  refine ST.lift (fun _ _ k => T_iload d_Key_expand_48 rfl k) ?_
  refine ST.lift (fun _ _ k => T_bipush (v := nI 64) d_Key_expand_50 (by decide) k) ?_
  refine S_idivN d_Key_expand_52 (by omega) (by omega) (by omega) ?_
  refine S_topi (y := nI 0) (by decide) ?_
  refine ST.lift (fun _ _ k => T_iconst (v := nI 1) d_Key_expand_53 (by decide) k) ?_
  refine S_iaddN d_Key_expand_54 ?_
  refine S_topi (y := nI 1) (by decide) ?_
  refine S_virtual (as := [.int (nI 1)]) (rest := []) (b := 72) d_Key_expand_55 rfl (jw_By_putByte.jo (by decide)) lm_Key_60 ji_By_putByte js_By_putByte (w72 _) rfl rfl rfl (Nat.le_of_ble_eq_true rfl) (by decide) (by decide) (c_By_putByte G u4 72 73 200 3 ⟨w72, a73, by decide, u72_1, by decide, by decide⟩ (nI 1) hv5) (fun r u8 hq => ?_)
  obtain ⟨hr, hv9, hm10⟩ := hq
  rw [hr]
  clear hr r
  have hm11 := hm7.go hm10 (by intro i hi; simp only [List.mem_cons, List.not_mem_nil, or_false] at hi ⊢ <;> omega)
  show ST G mi_Key_expand 58 [(5, .int (nI 0)), (0, .ref 66), (1, .ref key), (2, .ref a), (3, .ref to), (4, .int (nI 128))] [] u8 0 0 _
  refine ST.lift (fun _ _ k => T_aload_n (v := .ref 66) d_Key_expand_58 rfl (Or.inr ⟨_, rfl⟩) k) ?_
  refine ST.lift (fun _ _ k => T_aload_n (v := .ref key) d_Key_expand_59 rfl (Or.inr ⟨_, rfl⟩) k) ?_
  refine ST.lift (fun _ _ k => T_aload_n (v := .ref 66) d_Key_expand_60 rfl (Or.inr ⟨_, rfl⟩) k) ?_
  refine S_getfield d_Key_expand_61 fg_Key_25 (w66 _) rfl ?_
  refine ST.lift (fun _ _ k => T_aload_n (v := .ref 66) d_Key_expand_64 rfl (Or.inr ⟨_, rfl⟩) k) ?_
  refine S_getfield d_Key_expand_65 fg_Key_32 (w66 _) rfl ?_
  refine S_virtual (as := [.ref key, .ref 72, .ref 75]) (rest := []) (b := 66) d_Key_expand_68 rfl (jw_Key_mac.jo (by decide)) lm_Key_63 ji_Key_mac js_Key_mac (w66 _) rfl rfl rfl (Nat.le_of_ble_eq_true rfl) (by decide) (by decide) (c_Key_mac G u8 key mk w_key a_key (by omega) 72 73 200 3 ⟨w72, a73, by decide, u72_1, by decide, by decide⟩ 75 64 (by decide) a75 (by omega) (by omega) (by omega) hv9) (fun r u12 hq => ?_)
  obtain ⟨hr, hv13, hm14⟩ := hq
  rw [hr]
  clear hr r
  have hm15 := hm11.go hm14 (by intro i hi; simp only [List.mem_cons, List.not_mem_nil, or_false] at hi ⊢ <;> omega)
  show ST G mi_Key_expand 71 [(5, .int (nI 0)), (0, .ref 66), (1, .ref key), (2, .ref a), (3, .ref to), (4, .int (nI 128))] [] u12 0 0 _
  refine ST.lift (fun _ _ k => T_aload_n (v := .ref 66) d_Key_expand_71 rfl (Or.inr ⟨_, rfl⟩) k) ?_
  refine S_getfield d_Key_expand_72 fg_Key_32 (w66 _) rfl ?_
  refine ST.lift (fun _ _ k => T_iconst (v := nI 0) d_Key_expand_75 (by decide) k) ?_
  refine ST.lift (fun _ _ k => T_aload_n (v := .ref to) d_Key_expand_76 rfl (Or.inr ⟨_, rfl⟩) k) ?_
  refine ST.lift (fun _ _ k => T_iload d_Key_expand_77 rfl k) ?_
  refine ST.lift (fun _ _ k => T_bipush (v := nI 64) d_Key_expand_79 (by decide) k) ?_
  refine ST.lift (fun _ _ k => T_iload d_Key_expand_81 rfl k) ?_
  refine ST.lift (fun _ _ k => T_iload d_Key_expand_83 rfl k) ?_
  refine S_isubN d_Key_expand_85 (by omega) ?_
  refine S_topi (y := nI 128) (by decide) ?_
  refine S_min d_Key_expand_86 lm_Key_71 (by decide) (Nat.le_of_ble_eq_true rfl) (by decide) (by decide) (by omega) (by omega) (fun z16 hz16a hz16b => ?_)
  refine S_copyB d_Key_expand_89 lm_Key_77 (by decide) w_to a75 a_to (by omega) (by omega) (by omega) (by omega) (by omega) (by decide) (Nat.le_of_ble_eq_true rfl) ?_
  refine S_iincN (a := 0) (b := 64) (L' := [(5, .int (nI 64)), (0, .ref 66), (1, .ref key), (2, .ref a), (3, .ref to), (4, .int (nI 128))]) d_Key_expand_92 (by decide) rfl rfl rfl ?_
  refine ST.lift (fun _ _ k => T_goto (tgt := 3) d_Key_expand_95 rfl k) ?_
  refine ST.lift (fun _ _ k => T_iload d_Key_expand_3 rfl k) ?_
  refine ST.lift (fun _ _ k => T_iload d_Key_expand_5 rfl k) ?_
  refine S_icmp_geN d_Key_expand_7 rfl (by omega) (by omega) (fun c => by first | exact absurd c (by omega) | exact c.elim | exact absurd c (by decide) | exact absurd (by assumption) c | exact absurd c (by assumption)) (fun _ => ?_)
  refine ST.lift (fun _ _ k => T_aload_n (v := .ref 66) d_Key_expand_10 rfl (Or.inr ⟨_, rfl⟩) k) ?_
  refine S_getfield d_Key_expand_11 fg_Key_25 (w66 _) rfl ?_
  refine S_virtual (as := []) (rest := []) (b := 72) d_Key_expand_14 rfl (jw_By_clear.jo (by decide)) lm_Key_57 ji_By_clear js_By_clear (w72 _) rfl rfl rfl (Nat.le_of_ble_eq_true rfl) (by decide) (by decide) (c_By_clear G u12 72 73 200 3 ⟨w72, a73, by decide, u72_1, by decide, by decide⟩ hv13) (fun r v' hq => ?_)
  rw [hq.1, hq.2]
  clear hq r v'
  show ST G mi_Key_expand 17 [(5, .int (nI 64)), (0, .ref 66), (1, .ref key), (2, .ref a), (3, .ref to), (4, .int (nI 128))] [] (va_up u12 3 (nI 0)) 0 0 _
  have hv18 := hv13.up (j := 3) (c := 200) (k := 0) (by decide) (by omega)
  have hm19 := hm15.go (mdf.up (v := u12) (j := 3) (x := (nI 0))) (by intro i hi; simp only [List.mem_cons, List.not_mem_nil, or_false] at hi ⊢ <;> omega)
  have e_u17 : (va_up u12 3 (nI 0)) 3 = (nI 0) := by simp [va_up]
  generalize va_up u12 3 (nI 0) = u17 at hv18 hm19 e_u17 ⊢
  refine ST.lift (fun _ _ k => T_iload d_Key_expand_17 rfl k) ?_
  refine S_if_leN d_Key_expand_19 rfl (by omega) (fun c => by first | exact absurd c (by omega) | exact c.elim | exact absurd c (by decide) | exact absurd (by assumption) c | exact absurd c (by assumption)) (fun _ => ?_)
  refine ST.lift (fun _ _ k => T_aload_n (v := .ref 66) d_Key_expand_22 rfl (Or.inr ⟨_, rfl⟩) k) ?_
  refine S_getfield d_Key_expand_23 fg_Key_25 (w66 _) rfl ?_
  refine ST.lift (fun _ _ k => T_aload_n (v := .ref 66) d_Key_expand_26 rfl (Or.inr ⟨_, rfl⟩) k) ?_
  refine S_getfield d_Key_expand_27 fg_Key_32 (w66 _) rfl ?_
  refine ST.lift (fun _ _ k => T_iconst (v := nI 0) d_Key_expand_30 (by decide) k) ?_
  refine ST.lift (fun _ _ k => T_bipush (v := nI 64) d_Key_expand_31 (by decide) k) ?_
  refine S_virtual (as := [.ref 75, .int (nI 0), .int (nI 64)]) (rest := []) (b := 72) d_Key_expand_33 rfl (jw_By_put.jo (by decide)) lm_Key_49 ji_By_put js_By_put (w72 _) rfl rfl rfl (Nat.le_of_ble_eq_true rfl) (by decide) (by decide) (c_By_put G u17 72 73 200 3 ⟨w72, a73, by decide, u72_1, by decide, by decide⟩ 75 64 (by decide) a75 (by omega) 0 (by omega) 64 (by omega) hv18) (fun r u20 hq => ?_)
  obtain ⟨hr, hv21, hm22⟩ := hq
  rw [hr]
  clear hr r
  have hm23 := hm19.go hm22 (by intro i hi; simp only [List.mem_cons, List.not_mem_nil, or_false] at hi ⊢ <;> omega)
  show ST G mi_Key_expand 36 [(5, .int (nI 64)), (0, .ref 66), (1, .ref key), (2, .ref a), (3, .ref to), (4, .int (nI 128))] [] u20 0 0 _
  refine ST.lift (fun _ _ k => T_aload_n (v := .ref 66) d_Key_expand_36 rfl (Or.inr ⟨_, rfl⟩) k) ?_
  refine S_getfield d_Key_expand_37 fg_Key_25 (w66 _) rfl ?_
  refine ST.lift (fun _ _ k => T_aload_n (v := .ref a) d_Key_expand_40 rfl (Or.inr ⟨_, rfl⟩) k) ?_
  refine S_virtual (as := [.ref a]) (rest := []) (b := 72) d_Key_expand_41 rfl (jw_By_putAll.jo (by decide)) lm_Key_67 ji_By_putAll js_By_putAll (w72 _) rfl rfl rfl (Nat.le_of_ble_eq_true rfl) (by decide) (by decide) (c_By_putAll G u20 72 73 200 3 ⟨w72, a73, by decide, u72_1, by decide, by decide⟩ a ad ac aj y_a hv21) (fun r u24 hq => ?_)
  obtain ⟨hr, hv25, hm26⟩ := hq
  rw [hr]
  clear hr r
  have hm27 := hm23.go hm26 (by intro i hi; simp only [List.mem_cons, List.not_mem_nil, or_false] at hi ⊢ <;> omega)
  show ST G mi_Key_expand 44 [(5, .int (nI 64)), (0, .ref 66), (1, .ref key), (2, .ref a), (3, .ref to), (4, .int (nI 128))] [] u24 0 0 _
  refine ST.lift (fun _ _ k => T_aload_n (v := .ref 66) d_Key_expand_44 rfl (Or.inr ⟨_, rfl⟩) k) ?_
  refine S_getfield d_Key_expand_45 fg_Key_25 (w66 _) rfl ?_
  refine ST.lift (fun _ _ k => T_iload d_Key_expand_48 rfl k) ?_
  refine ST.lift (fun _ _ k => T_bipush (v := nI 64) d_Key_expand_50 (by decide) k) ?_
  refine S_idivN d_Key_expand_52 (by omega) (by omega) (by omega) ?_
  refine S_topi (y := nI 1) (by decide) ?_
  refine ST.lift (fun _ _ k => T_iconst (v := nI 1) d_Key_expand_53 (by decide) k) ?_
  refine S_iaddN d_Key_expand_54 ?_
  refine S_topi (y := nI 2) (by decide) ?_
  refine S_virtual (as := [.int (nI 2)]) (rest := []) (b := 72) d_Key_expand_55 rfl (jw_By_putByte.jo (by decide)) lm_Key_60 ji_By_putByte js_By_putByte (w72 _) rfl rfl rfl (Nat.le_of_ble_eq_true rfl) (by decide) (by decide) (c_By_putByte G u24 72 73 200 3 ⟨w72, a73, by decide, u72_1, by decide, by decide⟩ (nI 2) hv25) (fun r u28 hq => ?_)
  obtain ⟨hr, hv29, hm30⟩ := hq
  rw [hr]
  clear hr r
  have hm31 := hm27.go hm30 (by intro i hi; simp only [List.mem_cons, List.not_mem_nil, or_false] at hi ⊢ <;> omega)
  show ST G mi_Key_expand 58 [(5, .int (nI 64)), (0, .ref 66), (1, .ref key), (2, .ref a), (3, .ref to), (4, .int (nI 128))] [] u28 0 0 _
  refine ST.lift (fun _ _ k => T_aload_n (v := .ref 66) d_Key_expand_58 rfl (Or.inr ⟨_, rfl⟩) k) ?_
  refine ST.lift (fun _ _ k => T_aload_n (v := .ref key) d_Key_expand_59 rfl (Or.inr ⟨_, rfl⟩) k) ?_
  refine ST.lift (fun _ _ k => T_aload_n (v := .ref 66) d_Key_expand_60 rfl (Or.inr ⟨_, rfl⟩) k) ?_
  refine S_getfield d_Key_expand_61 fg_Key_25 (w66 _) rfl ?_
  refine ST.lift (fun _ _ k => T_aload_n (v := .ref 66) d_Key_expand_64 rfl (Or.inr ⟨_, rfl⟩) k) ?_
  refine S_getfield d_Key_expand_65 fg_Key_32 (w66 _) rfl ?_
  refine S_virtual (as := [.ref key, .ref 72, .ref 75]) (rest := []) (b := 66) d_Key_expand_68 rfl (jw_Key_mac.jo (by decide)) lm_Key_63 ji_Key_mac js_Key_mac (w66 _) rfl rfl rfl (Nat.le_of_ble_eq_true rfl) (by decide) (by decide) (c_Key_mac G u28 key mk w_key a_key (by omega) 72 73 200 3 ⟨w72, a73, by decide, u72_1, by decide, by decide⟩ 75 64 (by decide) a75 (by omega) (by omega) (by omega) hv29) (fun r u32 hq => ?_)
  obtain ⟨hr, hv33, hm34⟩ := hq
  rw [hr]
  clear hr r
  have hm35 := hm31.go hm34 (by intro i hi; simp only [List.mem_cons, List.not_mem_nil, or_false] at hi ⊢ <;> omega)
  show ST G mi_Key_expand 71 [(5, .int (nI 64)), (0, .ref 66), (1, .ref key), (2, .ref a), (3, .ref to), (4, .int (nI 128))] [] u32 0 0 _
  refine ST.lift (fun _ _ k => T_aload_n (v := .ref 66) d_Key_expand_71 rfl (Or.inr ⟨_, rfl⟩) k) ?_
  refine S_getfield d_Key_expand_72 fg_Key_32 (w66 _) rfl ?_
  refine ST.lift (fun _ _ k => T_iconst (v := nI 0) d_Key_expand_75 (by decide) k) ?_
  refine ST.lift (fun _ _ k => T_aload_n (v := .ref to) d_Key_expand_76 rfl (Or.inr ⟨_, rfl⟩) k) ?_
  refine ST.lift (fun _ _ k => T_iload d_Key_expand_77 rfl k) ?_
  refine ST.lift (fun _ _ k => T_bipush (v := nI 64) d_Key_expand_79 (by decide) k) ?_
  refine ST.lift (fun _ _ k => T_iload d_Key_expand_81 rfl k) ?_
  refine ST.lift (fun _ _ k => T_iload d_Key_expand_83 rfl k) ?_
  refine S_isubN d_Key_expand_85 (by omega) ?_
  refine S_topi (y := nI 64) (by decide) ?_
  refine S_min d_Key_expand_86 lm_Key_71 (by decide) (Nat.le_of_ble_eq_true rfl) (by decide) (by decide) (by omega) (by omega) (fun z36 hz36a hz36b => ?_)
  refine S_copyB d_Key_expand_89 lm_Key_77 (by decide) w_to a75 a_to (by omega) (by omega) (by omega) (by omega) (by omega) (by decide) (Nat.le_of_ble_eq_true rfl) ?_
  refine S_iincN (a := 64) (b := 64) (L' := [(5, .int (nI 128)), (0, .ref 66), (1, .ref key), (2, .ref a), (3, .ref to), (4, .int (nI 128))]) d_Key_expand_92 (by decide) rfl rfl rfl ?_
  refine ST.lift (fun _ _ k => T_goto (tgt := 3) d_Key_expand_95 rfl k) ?_
  refine ST.lift (fun _ _ k => T_iload d_Key_expand_3 rfl k) ?_
  refine ST.lift (fun _ _ k => T_iload d_Key_expand_5 rfl k) ?_
  refine S_icmp_geN d_Key_expand_7 rfl (by omega) (by omega) (fun _ => ?_) (fun c => by first | exact absurd c (by omega) | exact c.elim | exact absurd c (by decide) | exact absurd (by assumption) c | exact absurd c (by assumption))
  exact S_vret d_Key_expand_98 rfl (by decide) (by decide) (hQ _ hv33 hm35)
set_option maxRecDepth 100000 in
set_option maxHeartbeats 4000000 in
theorem c_Key_label (G : GX) (v : Nat → Int32) (key mk : Nat) (w_key : K0 ≤ key) (a_key : aB key mk) (l_key : mk ≤ 2000) (s sd sn : Nat) (t_s : isSt s sd sn) (a ma : Nat) (w_a : K0 ≤ a) (a_a : aB a ma) (l_a : ma ≤ 2000) (n : Nat) (b_n : n ≤ 1000) (to m : Nat) (w_to : K0 ≤ to) (a_to : aB to m) (l_to : m ≤ 2000) (hk64 : 64 ≤ mk) (h64 : 64 ≤ m) (hv : okv v) : CS G mi_Key_label [.ref 66, .ref key, .ref s, .ref a, .int (nI n), .ref to] v (fun r v' => r = none ∧ okv v' ∧ mdf [2, 3] v v') := by
  refine CS.of (by decide) (Nat.le_of_ble_eq_true rfl) ?_
  generalize hQe : (fun (r : Option Value) (v' : Nat → Int32) => r = none ∧ okv v' ∧ mdf [2, 3] v v') = Q
  have hQ : ∀ u, okv u → mdf [2, 3] v u → Q none u := by rw [← hQe]; exact fun u h1 h2 => ⟨rfl, h1, h2⟩
  clear hQe
  have hm : mdf [2, 3] v v := mdf.rf
  have l_s := t_s.2.2.2.2
  show ST G mi_Key_label 0 [(0, .ref 66), (1, .ref key), (2, .ref s), (3, .ref a), (4, .int (nI n)), (5, .ref to)] [] v 0 0 Q
  refine ST.lift (fun _ _ k => T_aload_n (v := .ref 66) d_Key_label_0 rfl (Or.inr ⟨_, rfl⟩) k) ?_
  refine S_getfield d_Key_label_1 fg_Key_25 (w66 _) rfl ?_
  refine S_virtual (as := []) (rest := []) (b := 72) d_Key_label_4 rfl (jw_By_clear.jo (by decide)) lm_Key_57 ji_By_clear js_By_clear (w72 _) rfl rfl rfl (Nat.le_of_ble_eq_true rfl) (by decide) (by decide) (c_By_clear G v 72 73 200 3 ⟨w72, a73, by decide, u72_1, by decide, by decide⟩ hv) (fun r v' hq => ?_)
  rw [hq.1, hq.2]
  clear hq r v'
  show ST G mi_Key_label 7 [(0, .ref 66), (1, .ref key), (2, .ref s), (3, .ref a), (4, .int (nI n)), (5, .ref to)] [] (va_up v 3 (nI 0)) 0 0 _
  have hv2 := hv.up (j := 3) (c := 200) (k := 0) (by decide) (by omega)
  have hm3 := hm.go (mdf.up (v := v) (j := 3) (x := (nI 0))) (by intro i hi; simp only [List.mem_cons, List.not_mem_nil, or_false] at hi ⊢ <;> omega)
  have e_u1 : (va_up v 3 (nI 0)) 3 = (nI 0) := by simp [va_up]
  generalize va_up v 3 (nI 0) = u1 at hv2 hm3 e_u1 ⊢
  refine ST.lift (fun _ _ k => T_aload_n (v := .ref 66) d_Key_label_7 rfl (Or.inr ⟨_, rfl⟩) k) ?_
  refine S_getfield d_Key_label_8 fg_Key_25 (w66 _) rfl ?_
  refine ST.lift (fun _ _ k => T_bipush (v := nI 64) d_Key_label_11 (by decide) k) ?_
  refine ST.lift (fun _ _ k => T_iconst (v := nI 2) d_Key_label_13 (by decide) k) ?_
  refine S_virtual (as := [.int (nI 64), .int (nI 2)]) (rest := []) (b := 72) d_Key_label_14 rfl (jw_By_putNumber.jo (by decide)) lm_Key_83 ji_By_putNumber js_By_putNumber (w72 _) rfl rfl rfl (Nat.le_of_ble_eq_true rfl) (by decide) (by decide) (c_By_putNumber_2 G u1 72 73 200 3 ⟨w72, a73, by decide, u72_1, by decide, by decide⟩ (nI 64) hv2) (fun r u4 hq => ?_)
  obtain ⟨hr, hv5, hm6⟩ := hq
  rw [hr]
  clear hr r
  have hm7 := hm3.go hm6 (by intro i hi; simp only [List.mem_cons, List.not_mem_nil, or_false] at hi ⊢ <;> omega)
  show ST G mi_Key_label 17 [(0, .ref 66), (1, .ref key), (2, .ref s), (3, .ref a), (4, .int (nI n)), (5, .ref to)] [] u4 0 0 _
  refine ST.lift (fun _ _ k => T_aload_n (v := .ref 66) d_Key_label_17 rfl (Or.inr ⟨_, rfl⟩) k) ?_
  refine S_getfield d_Key_label_18 fg_Key_25 (w66 _) rfl ?_
  refine ST.lift (fun _ _ k => T_bipush (v := nI 7) d_Key_label_21 (by decide) k) ?_
  refine ST.lift (fun _ _ k => T_aload_n (v := .ref s) d_Key_label_23 rfl (Or.inr ⟨_, rfl⟩) k) ?_
  refine S_virtualS (as := []) (rest := [.int (nI 7), .ref 72]) (b := s) d_Key_label_24 rfl (jw_jS_length.jo (by decide)) lm_Key_87 ji_jS_length js_jS_length t_s rfl rfl (Nat.le_of_ble_eq_true rfl) (by decide) (by decide) (c_jS_length G u4 s sd sn t_s) (fun r v' hq => ?_)
  rw [hq.1, hq.2]
  clear hq r v'
  show ST G mi_Key_label 27 [(0, .ref 66), (1, .ref key), (2, .ref s), (3, .ref a), (4, .int (nI n)), (5, .ref to)] [.int (nI sn), .int (nI 7), .ref 72] u4 0 0 _
  refine S_iaddN d_Key_label_27 ?_
  refine S_virtual (as := [.int (nI (7 + sn))]) (rest := []) (b := 72) d_Key_label_28 rfl (jw_By_putByte.jo (by decide)) lm_Key_60 ji_By_putByte js_By_putByte (w72 _) rfl rfl rfl (Nat.le_of_ble_eq_true rfl) (by decide) (by decide) (c_By_putByte G u4 72 73 200 3 ⟨w72, a73, by decide, u72_1, by decide, by decide⟩ (nI (7 + sn)) hv5) (fun r u8 hq => ?_)
  obtain ⟨hr, hv9, hm10⟩ := hq
  rw [hr]
  clear hr r
  have hm11 := hm7.go hm10 (by intro i hi; simp only [List.mem_cons, List.not_mem_nil, or_false] at hi ⊢ <;> omega)
  show ST G mi_Key_label 31 [(0, .ref 66), (1, .ref key), (2, .ref s), (3, .ref a), (4, .int (nI n)), (5, .ref to)] [] u8 0 0 _
  refine ST.lift (fun _ _ k => T_aload_n (v := .ref 66) d_Key_label_31 rfl (Or.inr ⟨_, rfl⟩) k) ?_
  refine S_getfield d_Key_label_32 fg_Key_25 (w66 _) rfl ?_
  refine ST.lift (fun _ _ k => T_ldcS (q := scl.getD 18 ("", 0, "", 0)) d_Key_label_35 (List.mem_of_getElem? (i := 18) rfl) rfl rfl (by decide) k) ?_
  refine S_virtual (as := [.ref 50]) (rest := []) (b := 72) d_Key_label_37 rfl (jw_By_putText.jo (by decide)) lm_Key_94 ji_By_putText js_By_putText (w72 _) rfl rfl rfl (Nat.le_of_ble_eq_true rfl) (by decide) (by decide) (c_By_putText G u8 72 73 200 3 ⟨w72, a73, by decide, u72_1, by decide, by decide⟩ 50 51 7 ⟨w50, a51, by decide, by decide, by decide⟩ hv9) (fun r u12 hq => ?_)
  obtain ⟨hr, hv13, hm14⟩ := hq
  rw [hr]
  clear hr r
  have hm15 := hm11.go hm14 (by intro i hi; simp only [List.mem_cons, List.not_mem_nil, or_false] at hi ⊢ <;> omega)
  show ST G mi_Key_label 40 [(0, .ref 66), (1, .ref key), (2, .ref s), (3, .ref a), (4, .int (nI n)), (5, .ref to)] [] u12 0 0 _
  refine ST.lift (fun _ _ k => T_aload_n (v := .ref 66) d_Key_label_40 rfl (Or.inr ⟨_, rfl⟩) k) ?_
  refine S_getfield d_Key_label_41 fg_Key_25 (w66 _) rfl ?_
  refine ST.lift (fun _ _ k => T_aload_n (v := .ref s) d_Key_label_44 rfl (Or.inr ⟨_, rfl⟩) k) ?_
  refine S_virtual (as := [.ref s]) (rest := []) (b := 72) d_Key_label_45 rfl (jw_By_putText.jo (by decide)) lm_Key_94 ji_By_putText js_By_putText (w72 _) rfl rfl rfl (Nat.le_of_ble_eq_true rfl) (by decide) (by decide) (c_By_putText G u12 72 73 200 3 ⟨w72, a73, by decide, u72_1, by decide, by decide⟩ s sd sn t_s hv13) (fun r u16 hq => ?_)
  obtain ⟨hr, hv17, hm18⟩ := hq
  rw [hr]
  clear hr r
  have hm19 := hm15.go hm18 (by intro i hi; simp only [List.mem_cons, List.not_mem_nil, or_false] at hi ⊢ <;> omega)
  show ST G mi_Key_label 48 [(0, .ref 66), (1, .ref key), (2, .ref s), (3, .ref a), (4, .int (nI n)), (5, .ref to)] [] u16 0 0 _
  refine ST.lift (fun _ _ k => T_aload_n (v := .ref 66) d_Key_label_48 rfl (Or.inr ⟨_, rfl⟩) k) ?_
  refine S_getfield d_Key_label_49 fg_Key_25 (w66 _) rfl ?_
  refine ST.lift (fun _ _ k => T_iload d_Key_label_52 rfl k) ?_
  refine S_virtual (as := [.int (nI n)]) (rest := []) (b := 72) d_Key_label_54 rfl (jw_By_putByte.jo (by decide)) lm_Key_60 ji_By_putByte js_By_putByte (w72 _) rfl rfl rfl (Nat.le_of_ble_eq_true rfl) (by decide) (by decide) (c_By_putByte G u16 72 73 200 3 ⟨w72, a73, by decide, u72_1, by decide, by decide⟩ (nI n) hv17) (fun r u20 hq => ?_)
  obtain ⟨hr, hv21, hm22⟩ := hq
  rw [hr]
  clear hr r
  have hm23 := hm19.go hm22 (by intro i hi; simp only [List.mem_cons, List.not_mem_nil, or_false] at hi ⊢ <;> omega)
  show ST G mi_Key_label 57 [(0, .ref 66), (1, .ref key), (2, .ref s), (3, .ref a), (4, .int (nI n)), (5, .ref to)] [] u20 0 0 _
  refine ST.lift (fun _ _ k => T_aload_n (v := .ref 66) d_Key_label_57 rfl (Or.inr ⟨_, rfl⟩) k) ?_
  refine S_getfield d_Key_label_58 fg_Key_25 (w66 _) rfl ?_
  refine ST.lift (fun _ _ k => T_aload_n (v := .ref a) d_Key_label_61 rfl (Or.inr ⟨_, rfl⟩) k) ?_
  refine ST.lift (fun _ _ k => T_iconst (v := nI 0) d_Key_label_62 (by decide) k) ?_
  refine ST.lift (fun _ _ k => T_iload d_Key_label_63 rfl k) ?_
  refine S_virtual (as := [.ref a, .int (nI 0), .int (nI n)]) (rest := []) (b := 72) d_Key_label_65 rfl (jw_By_put.jo (by decide)) lm_Key_49 ji_By_put js_By_put (w72 _) rfl rfl rfl (Nat.le_of_ble_eq_true rfl) (by decide) (by decide) (c_By_put G u20 72 73 200 3 ⟨w72, a73, by decide, u72_1, by decide, by decide⟩ a ma w_a a_a (by omega) 0 (by omega) n (by omega) hv21) (fun r u24 hq => ?_)
  obtain ⟨hr, hv25, hm26⟩ := hq
  rw [hr]
  clear hr r
  have hm27 := hm23.go hm26 (by intro i hi; simp only [List.mem_cons, List.not_mem_nil, or_false] at hi ⊢ <;> omega)
  show ST G mi_Key_label 68 [(0, .ref 66), (1, .ref key), (2, .ref s), (3, .ref a), (4, .int (nI n)), (5, .ref to)] [] u24 0 0 _
  refine ST.lift (fun _ _ k => T_aload_n (v := .ref 66) d_Key_label_68 rfl (Or.inr ⟨_, rfl⟩) k) ?_
  refine S_getfield d_Key_label_69 fg_Key_25 (w66 _) rfl ?_
  refine ST.lift (fun _ _ k => T_iconst (v := nI 1) d_Key_label_72 (by decide) k) ?_
  refine S_virtual (as := [.int (nI 1)]) (rest := []) (b := 72) d_Key_label_73 rfl (jw_By_putByte.jo (by decide)) lm_Key_60 ji_By_putByte js_By_putByte (w72 _) rfl rfl rfl (Nat.le_of_ble_eq_true rfl) (by decide) (by decide) (c_By_putByte G u24 72 73 200 3 ⟨w72, a73, by decide, u72_1, by decide, by decide⟩ (nI 1) hv25) (fun r u28 hq => ?_)
  obtain ⟨hr, hv29, hm30⟩ := hq
  rw [hr]
  clear hr r
  have hm31 := hm27.go hm30 (by intro i hi; simp only [List.mem_cons, List.not_mem_nil, or_false] at hi ⊢ <;> omega)
  show ST G mi_Key_label 76 [(0, .ref 66), (1, .ref key), (2, .ref s), (3, .ref a), (4, .int (nI n)), (5, .ref to)] [] u28 0 0 _
  refine ST.lift (fun _ _ k => T_aload_n (v := .ref 66) d_Key_label_76 rfl (Or.inr ⟨_, rfl⟩) k) ?_
  refine ST.lift (fun _ _ k => T_aload_n (v := .ref key) d_Key_label_77 rfl (Or.inr ⟨_, rfl⟩) k) ?_
  refine ST.lift (fun _ _ k => T_aload_n (v := .ref 66) d_Key_label_78 rfl (Or.inr ⟨_, rfl⟩) k) ?_
  refine S_getfield d_Key_label_79 fg_Key_25 (w66 _) rfl ?_
  refine ST.lift (fun _ _ k => T_aload (v := .ref to) d_Key_label_82 rfl (Or.inr ⟨_, rfl⟩) k) ?_
  refine S_virtual (as := [.ref key, .ref 72, .ref to]) (rest := []) (b := 66) d_Key_label_84 rfl (jw_Key_mac.jo (by decide)) lm_Key_63 ji_Key_mac js_Key_mac (w66 _) rfl rfl rfl (Nat.le_of_ble_eq_true rfl) (by decide) (by decide) (c_Key_mac G u28 key mk w_key a_key (by omega) 72 73 200 3 ⟨w72, a73, by decide, u72_1, by decide, by decide⟩ to m w_to a_to (by omega) (by omega) (by omega) hv29) (fun r u32 hq => ?_)
  obtain ⟨hr, hv33, hm34⟩ := hq
  rw [hr]
  clear hr r
  have hm35 := hm31.go hm34 (by intro i hi; simp only [List.mem_cons, List.not_mem_nil, or_false] at hi ⊢ <;> omega)
  show ST G mi_Key_label 87 [(0, .ref 66), (1, .ref key), (2, .ref s), (3, .ref a), (4, .int (nI n)), (5, .ref to)] [] u32 0 0 _
  exact S_vret d_Key_label_87 rfl (by decide) (by decide) (hQ _ hv33 hm35)

set_option maxRecDepth 100000 in
set_option maxHeartbeats 4000000 in
theorem c_Kit_chanceAt (G : GX) (v : Nat → Int32) (n : Int32) (to m : Nat) (w_to : K0 ≤ to) (a_to : aB to m) (l_to : m ≤ 2000) (h64 : 64 ≤ m) (hv : okv v) : CS G mi_Kit_chanceAt [.ref 62, .int n, .ref to] v (fun r v' => r = none ∧ okv v' ∧ mdf [6] v v') := by
  refine CS.of (by decide) (Nat.le_of_ble_eq_true rfl) ?_
  generalize hQe : (fun (r : Option Value) (v' : Nat → Int32) => r = none ∧ okv v' ∧ mdf [6] v v') = Q
  have hQ : ∀ u, okv u → mdf [6] v u → Q none u := by rw [← hQe]; exact fun u h1 h2 => ⟨rfl, h1, h2⟩
  clear hQe
  have hm : mdf [6] v v := mdf.rf
  show ST G mi_Kit_chanceAt 0 [(0, .ref 62), (1, .int n), (2, .ref to)] [] v 0 0 Q
  refine ST.lift (fun _ _ k => T_aload_n (v := .ref 62) d_Kit_chanceAt_0 rfl (Or.inr ⟨_, rfl⟩) k) ?_
  refine S_getfield d_Kit_chanceAt_1 fg_Kit_84 (w62 _) rfl ?_
  refine S_virtual (as := []) (rest := []) (b := 213) d_Kit_chanceAt_4 rfl (jw_By_clear.jo (by decide)) lm_Kit_97 ji_By_clear js_By_clear (w213 _) rfl rfl rfl (Nat.le_of_ble_eq_true rfl) (by decide) (by decide) (c_By_clear G v 213 214 400 6 ⟨w213, a214, by decide, u213_1, by decide, by decide⟩ hv) (fun r v' hq => ?_)
  rw [hq.1, hq.2]
  clear hq r v'
  show ST G mi_Kit_chanceAt 7 [(0, .ref 62), (1, .int n), (2, .ref to)] [] (va_up v 6 (nI 0)) 0 0 _
  have hv2 := hv.up (j := 6) (c := 400) (k := 0) (by decide) (by omega)
  have hm3 := hm.go (mdf.up (v := v) (j := 6) (x := (nI 0))) (by intro i hi; simp only [List.mem_cons, List.not_mem_nil, or_false] at hi ⊢ <;> omega)
  have e_u1 : (va_up v 6 (nI 0)) 6 = (nI 0) := by simp [va_up]
  generalize va_up v 6 (nI 0) = u1 at hv2 hm3 e_u1 ⊢
  refine ST.lift (fun _ _ k => T_aload_n (v := .ref 62) d_Kit_chanceAt_7 rfl (Or.inr ⟨_, rfl⟩) k) ?_
  refine S_getfield d_Kit_chanceAt_8 fg_Kit_84 (w62 _) rfl ?_
  refine ST.lift (fun _ _ k => T_ldcS (q := scl.getD 3 ("", 0, "", 0)) d_Kit_chanceAt_11 (List.mem_of_getElem? (i := 3) rfl) rfl rfl (by decide) k) ?_
  refine S_virtual (as := [.ref 20]) (rest := []) (b := 213) d_Kit_chanceAt_13 rfl (jw_By_putText.jo (by decide)) lm_Kit_102 ji_By_putText js_By_putText (w213 _) rfl rfl rfl (Nat.le_of_ble_eq_true rfl) (by decide) (by decide) (c_By_putText G u1 213 214 400 6 ⟨w213, a214, by decide, u213_1, by decide, by decide⟩ 20 21 6 ⟨w20, a21, by decide, by decide, by decide⟩ hv2) (fun r u4 hq => ?_)
  obtain ⟨hr, hv5, hm6⟩ := hq
  rw [hr]
  clear hr r
  have hm7 := hm3.go hm6 (by intro i hi; simp only [List.mem_cons, List.not_mem_nil, or_false] at hi ⊢ <;> omega)
  show ST G mi_Kit_chanceAt 16 [(0, .ref 62), (1, .int n), (2, .ref to)] [] u4 0 0 _
  refine ST.lift (fun _ _ k => T_aload_n (v := .ref 62) d_Kit_chanceAt_16 rfl (Or.inr ⟨_, rfl⟩) k) ?_
  refine S_getfield d_Kit_chanceAt_17 fg_Kit_84 (w62 _) rfl ?_
  refine ST.lift (fun _ _ k => T_aload_n (v := .ref 62) d_Kit_chanceAt_20 rfl (Or.inr ⟨_, rfl⟩) k) ?_
  refine S_getfield d_Kit_chanceAt_21 fg_Kit_90 (w62 _) rfl ?_
  refine ST.lift (fun _ _ k => T_iconst (v := nI 4) d_Kit_chanceAt_24 (by decide) k) ?_
  refine S_virtual (as := [.int (u4 0), .int (nI 4)]) (rest := []) (b := 213) d_Kit_chanceAt_25 rfl (jw_By_putNumber.jo (by decide)) lm_Kit_106 ji_By_putNumber js_By_putNumber (w213 _) rfl rfl rfl (Nat.le_of_ble_eq_true rfl) (by decide) (by decide) (c_By_putNumber_4 G u4 213 214 400 6 ⟨w213, a214, by decide, u213_1, by decide, by decide⟩ (u4 0) hv5) (fun r u8 hq => ?_)
  obtain ⟨hr, hv9, hm10⟩ := hq
  rw [hr]
  clear hr r
  have hm11 := hm7.go hm10 (by intro i hi; simp only [List.mem_cons, List.not_mem_nil, or_false] at hi ⊢ <;> omega)
  show ST G mi_Kit_chanceAt 28 [(0, .ref 62), (1, .int n), (2, .ref to)] [] u8 0 0 _
  refine ST.lift (fun _ _ k => T_aload_n (v := .ref 62) d_Kit_chanceAt_28 rfl (Or.inr ⟨_, rfl⟩) k) ?_
  refine S_getfield d_Kit_chanceAt_29 fg_Kit_84 (w62 _) rfl ?_
  refine ST.lift (fun _ _ k => T_iload_n d_Kit_chanceAt_32 rfl k) ?_
  refine ST.lift (fun _ _ k => T_iconst (v := nI 4) d_Kit_chanceAt_33 (by decide) k) ?_
  refine S_virtual (as := [.int n, .int (nI 4)]) (rest := []) (b := 213) d_Kit_chanceAt_34 rfl (jw_By_putNumber.jo (by decide)) lm_Kit_106 ji_By_putNumber js_By_putNumber (w213 _) rfl rfl rfl (Nat.le_of_ble_eq_true rfl) (by decide) (by decide) (c_By_putNumber_4 G u8 213 214 400 6 ⟨w213, a214, by decide, u213_1, by decide, by decide⟩ n hv9) (fun r u12 hq => ?_)
  obtain ⟨hr, hv13, hm14⟩ := hq
  rw [hr]
  clear hr r
  have hm15 := hm11.go hm14 (by intro i hi; simp only [List.mem_cons, List.not_mem_nil, or_false] at hi ⊢ <;> omega)
  show ST G mi_Kit_chanceAt 37 [(0, .ref 62), (1, .int n), (2, .ref to)] [] u12 0 0 _
  refine ST.lift (fun _ _ k => T_aload_n (v := .ref 62) d_Kit_chanceAt_37 rfl (Or.inr ⟨_, rfl⟩) k) ?_
  refine S_getfield d_Kit_chanceAt_38 fg_Kit_10 (w62 _) rfl ?_
  refine ST.lift (fun _ _ k => T_aload_n (v := .ref 62) d_Kit_chanceAt_41 rfl (Or.inr ⟨_, rfl⟩) k) ?_
  refine S_getfield d_Kit_chanceAt_42 fg_Kit_84 (w62 _) rfl ?_
  refine ST.lift (fun _ _ k => T_aload_n (v := .ref to) d_Kit_chanceAt_45 rfl (Or.inr ⟨_, rfl⟩) k) ?_
  refine S_virtual (as := [.ref 213, .ref to]) (rest := []) (b := 63) d_Kit_chanceAt_46 rfl (jw_Dig_run.jo (by decide)) lm_Kit_110 ji_Dig_run js_Dig_run (w63 _) rfl rfl rfl (Nat.le_of_ble_eq_true rfl) (by decide) (by decide) (c_Dig_run_63 G u12 213 214 400 6 ⟨w213, a214, by decide, u213_1, by decide, by decide⟩ to m w_to a_to (by omega) (by omega) hv13) (fun r u16 hq => ?_)
  obtain ⟨hr, hv17, hm18⟩ := hq
  rw [hr]
  clear hr r
  have hm19 := hm15.go hm18 (by intro i hi; simp only [List.mem_cons, List.not_mem_nil, or_false] at hi ⊢ <;> omega)
  show ST G mi_Kit_chanceAt 49 [(0, .ref 62), (1, .int n), (2, .ref to)] [] u16 0 0 _
  exact S_vret d_Kit_chanceAt_49 rfl (by decide) (by decide) (hQ _ hv17 hm19)
set_option maxRecDepth 100000 in
set_option maxHeartbeats 4000000 in
theorem c_Kit_nextChance (G : GX) (v : Nat → Int32) (to m : Nat) (w_to : K0 ≤ to) (a_to : aB to m) (l_to : m ≤ 2000) (h64 : 64 ≤ m) (hv : okv v) : CS G mi_Kit_nextChance [.ref 62, .ref to] v (fun r v' => r = none ∧ okv v' ∧ mdf [6, 1] v v') := by
  refine CS.of (by decide) (Nat.le_of_ble_eq_true rfl) ?_
  generalize hQe : (fun (r : Option Value) (v' : Nat → Int32) => r = none ∧ okv v' ∧ mdf [6, 1] v v') = Q
  have hQ : ∀ u, okv u → mdf [6, 1] v u → Q none u := by rw [← hQe]; exact fun u h1 h2 => ⟨rfl, h1, h2⟩
  clear hQe
  have hm : mdf [6, 1] v v := mdf.rf
  show ST G mi_Kit_nextChance 0 [(0, .ref 62), (1, .ref to)] [] v 0 0 Q
  refine ST.lift (fun _ _ k => T_aload_n (v := .ref 62) d_Kit_nextChance_0 rfl (Or.inr ⟨_, rfl⟩) k) ?_
  refine ST.lift (fun _ _ k => T_aload_n (v := .ref 62) d_Kit_nextChance_1 rfl (Or.inr ⟨_, rfl⟩) k) ?_
  refine S_getfield d_Kit_nextChance_2 fg_Kit_94 (w62 _) rfl ?_
  refine ST.lift (fun _ _ k => T_aload_n (v := .ref to) d_Kit_nextChance_5 rfl (Or.inr ⟨_, rfl⟩) k) ?_
  refine S_virtual (as := [.int (v 1), .ref to]) (rest := []) (b := 62) d_Kit_nextChance_6 rfl (jw_Kit_chanceAt.jo (by decide)) lm_Kit_114 ji_Kit_chanceAt js_Kit_chanceAt (w62 _) rfl rfl rfl (Nat.le_of_ble_eq_true rfl) (by decide) (by decide) (c_Kit_chanceAt G v (v 1) to m w_to a_to (by omega) (by omega) hv) (fun r u1 hq => ?_)
  obtain ⟨hr, hv2, hm3⟩ := hq
  rw [hr]
  clear hr r
  have hm4 := hm.go hm3 (by intro i hi; simp only [List.mem_cons, List.not_mem_nil, or_false] at hi ⊢ <;> omega)
  show ST G mi_Kit_nextChance 9 [(0, .ref 62), (1, .ref to)] [] u1 0 0 _
  refine ST.lift (fun _ _ k => T_aload_n (v := .ref 62) d_Kit_nextChance_9 rfl (Or.inr ⟨_, rfl⟩) k) ?_
  refine ST.lift (fun _ _ k => T_dup d_Kit_nextChance_10 rfl k) ?_
  refine S_getfield d_Kit_nextChance_11 fg_Kit_94 (w62 _) rfl ?_
  refine ST.lift (fun _ _ k => T_iconst (v := nI 1) d_Kit_nextChance_14 (by decide) k) ?_
  refine ST.lift (fun _ _ k => T_iadd d_Kit_nextChance_15 k) (S_anyi fun z5 => ?_)
  refine S_putfield (v' := va_up u1 1 z5) d_Kit_nextChance_16 (fp_Kit_94 _) (w62 _) (Nat.le_of_ble_eq_true rfl) ⟨rfl, rfl⟩ (u62_19 _ _) ?_
  have hv7 := hv2.off (j := 1) (x := z5) (by decide)
  have hm8 := hm4.go (mdf.up (v := u1) (j := 1) (x := z5)) (by intro i hi; simp only [List.mem_cons, List.not_mem_nil, or_false] at hi ⊢ <;> omega)
  have e_u6 : (va_up u1 1 z5) 1 = z5 := by simp [va_up]
  generalize va_up u1 1 z5 = u6 at hv7 hm8 e_u6 ⊢
  exact S_vret d_Kit_nextChance_19 rfl (by decide) (by decide) (hQ _ hv7 hm8)
set_option maxRecDepth 100000 in
set_option maxHeartbeats 4000000 in
theorem c_Kit_putNonce (G : GX) (v : Nat → Int32) (b bd bc bj : Nat) (y_b : isBy b bd bc bj) (hv : okv v) : CS G mi_Kit_putNonce [.ref 62, .ref b] v (fun r v' => r = none ∧ okv v' ∧ mdf [6, 1, bj] v v') := by
  refine CS.of (by decide) (Nat.le_of_ble_eq_true rfl) ?_
  generalize hQe : (fun (r : Option Value) (v' : Nat → Int32) => r = none ∧ okv v' ∧ mdf [6, 1, bj] v v') = Q
  have hQ : ∀ u, okv u → mdf [6, 1, bj] v u → Q none u := by rw [← hQe]; exact fun u h1 h2 => ⟨rfl, h1, h2⟩
  clear hQe
  have hm : mdf [6, 1, bj] v v := mdf.rf
  have l_b := y_b.2.2.2.2.2
  show ST G mi_Kit_putNonce 0 [(0, .ref 62), (1, .ref b)] [] v 0 0 Q
  refine ST.lift (fun _ _ k => T_aload_n (v := .ref 62) d_Kit_putNonce_0 rfl (Or.inr ⟨_, rfl⟩) k) ?_
  refine ST.lift (fun _ _ k => T_aload_n (v := .ref 62) d_Kit_putNonce_1 rfl (Or.inr ⟨_, rfl⟩) k) ?_
  refine S_getfield d_Kit_putNonce_2 fg_Kit_51 (w62 _) rfl ?_
  refine S_virtual (as := [.ref 199]) (rest := []) (b := 62) d_Kit_putNonce_5 rfl (jw_Kit_nextChance.jo (by decide)) lm_Kit_118 ji_Kit_nextChance js_Kit_nextChance (w62 _) rfl rfl rfl (Nat.le_of_ble_eq_true rfl) (by decide) (by decide) (c_Kit_nextChance G v 199 64 (by decide) a199 (by omega) (by omega) hv) (fun r u1 hq => ?_)
  obtain ⟨hr, hv2, hm3⟩ := hq
  rw [hr]
  clear hr r
  have hm4 := hm.go hm3 (by intro i hi; simp only [List.mem_cons, List.not_mem_nil, or_false] at hi ⊢ <;> omega)
  show ST G mi_Kit_putNonce 8 [(0, .ref 62), (1, .ref b)] [] u1 0 0 _
  refine ST.lift (fun _ _ k => T_aload_n (v := .ref b) d_Kit_putNonce_8 rfl (Or.inr ⟨_, rfl⟩) k) ?_
  refine ST.lift (fun _ _ k => T_aload_n (v := .ref 62) d_Kit_putNonce_9 rfl (Or.inr ⟨_, rfl⟩) k) ?_
  refine S_getfield d_Kit_putNonce_10 fg_Kit_51 (w62 _) rfl ?_
  refine ST.lift (fun _ _ k => T_iconst (v := nI 0) d_Kit_putNonce_13 (by decide) k) ?_
  refine ST.lift (fun _ _ k => T_bipush (v := nI 32) d_Kit_putNonce_14 (by decide) k) ?_
  refine S_virtual (as := [.ref 199, .int (nI 0), .int (nI 32)]) (rest := []) (b := b) d_Kit_putNonce_16 rfl (jw_By_put.jo (by decide)) lm_Kit_122 ji_By_put js_By_put (y_b.1 _) rfl rfl rfl (Nat.le_of_ble_eq_true rfl) (by decide) (by decide) (c_By_put G u1 b bd bc bj y_b 199 64 (by decide) a199 (by omega) 0 (by omega) 32 (by omega) hv2) (fun r u5 hq => ?_)
  obtain ⟨hr, hv6, hm7⟩ := hq
  rw [hr]
  clear hr r
  have hm8 := hm4.go hm7 (by intro i hi; simp only [List.mem_cons, List.not_mem_nil, or_false] at hi ⊢ <;> omega)
  show ST G mi_Kit_putNonce 19 [(0, .ref 62), (1, .ref b)] [] u5 0 0 _
  exact S_vret d_Kit_putNonce_19 rfl (by decide) (by decide) (hQ _ hv6 hm8)
set_option maxRecDepth 100000 in
set_option maxHeartbeats 4000000 in
theorem c_Kit_nextScalar (G : GX) (v : Nat → Int32) (to m : Nat) (w_to : K0 ≤ to) (a_to : aB to m) (l_to : m ≤ 2000) (h32 : 32 ≤ m) (hv : okv v) : CS G mi_Kit_nextScalar [.ref 62, .ref to] v (fun r v' => r = none ∧ okv v' ∧ mdf [6, 1] v v') := by
  refine CS.of (by decide) (Nat.le_of_ble_eq_true rfl) ?_
  generalize hQe : (fun (r : Option Value) (v' : Nat → Int32) => r = none ∧ okv v' ∧ mdf [6, 1] v v') = Q
  have hQ : ∀ u, okv u → mdf [6, 1] v u → Q none u := by rw [← hQe]; exact fun u h1 h2 => ⟨rfl, h1, h2⟩
  clear hQe
  have hm : mdf [6, 1] v v := mdf.rf
  show ST G mi_Kit_nextScalar 0 [(0, .ref 62), (1, .ref to)] [] v 0 0 Q
  refine ST.lift (fun _ _ k => T_aload_n (v := .ref 62) d_Kit_nextScalar_0 rfl (Or.inr ⟨_, rfl⟩) k) ?_
  refine ST.lift (fun _ _ k => T_aload_n (v := .ref 62) d_Kit_nextScalar_1 rfl (Or.inr ⟨_, rfl⟩) k) ?_
  refine S_getfield d_Kit_nextScalar_2 fg_Kit_51 (w62 _) rfl ?_
  refine S_virtual (as := [.ref 199]) (rest := []) (b := 62) d_Kit_nextScalar_5 rfl (jw_Kit_nextChance.jo (by decide)) lm_Kit_118 ji_Kit_nextChance js_Kit_nextChance (w62 _) rfl rfl rfl (Nat.le_of_ble_eq_true rfl) (by decide) (by decide) (c_Kit_nextChance G v 199 64 (by decide) a199 (by omega) (by omega) hv) (fun r u1 hq => ?_)
  obtain ⟨hr, hv2, hm3⟩ := hq
  rw [hr]
  clear hr r
  have hm4 := hm.go hm3 (by intro i hi; simp only [List.mem_cons, List.not_mem_nil, or_false] at hi ⊢ <;> omega)
  show ST G mi_Kit_nextScalar 8 [(0, .ref 62), (1, .ref to)] [] u1 0 0 _
  refine ST.lift (fun _ _ k => T_aload_n (v := .ref 62) d_Kit_nextScalar_8 rfl (Or.inr ⟨_, rfl⟩) k) ?_
  refine S_getfield d_Kit_nextScalar_9 fg_Kit_33 (w62 _) rfl ?_
  refine ST.lift (fun _ _ k => T_aload_n (v := .ref 62) d_Kit_nextScalar_12 rfl (Or.inr ⟨_, rfl⟩) k) ?_
  refine S_getfield d_Kit_nextScalar_13 fg_Kit_51 (w62 _) rfl ?_
  refine ST.lift (fun _ _ k => T_bipush (v := nI 64) d_Kit_nextScalar_16 (by decide) k) ?_
  refine ST.lift (fun _ _ k => T_aload_n (v := .ref to) d_Kit_nextScalar_18 rfl (Or.inr ⟨_, rfl⟩) k) ?_
  refine S_virtual (as := [.ref 199, .int (nI 64), .ref to]) (rest := []) (b := 183) d_Kit_nextScalar_19 rfl (jw_Sc_reduce.jo (by decide)) lm_Kit_126 ji_Sc_reduce js_Sc_reduce (w183 _) rfl rfl rfl (Nat.le_of_ble_eq_true rfl) (by decide) (by decide) (c_Sc_reduce G u1 199 64 (by decide) a199 (by omega) 64 (by omega) to m w_to a_to (by omega) (by omega)) (fun r v' hq => ?_)
  rw [hq.1, hq.2]
  clear hq r v'
  show ST G mi_Kit_nextScalar 22 [(0, .ref 62), (1, .ref to)] [] u1 0 0 _
  refine ST.lift (fun _ _ k => T_iconst (v := nI 0) d_Kit_nextScalar_22 (by decide) k) ?_
  refine ST.lift (fun _ _ k => T_istore_n (L' := [(2, .int (nI 0)), (0, .ref 62), (1, .ref to)]) d_Kit_nextScalar_23 (by decide) rfl k) ?_
  refine ST.lift (fun _ _ k => T_iconst (v := nI 0) d_Kit_nextScalar_24 (by decide) k) ?_
  refine ST.lift (fun _ _ k => T_istore_n (L' := [(3, .int (nI 0)), (2, .int (nI 0)), (0, .ref 62), (1, .ref to)]) d_Kit_nextScalar_25 (by decide) rfl k) ?_
  have lp9 : ∀ (n7 k5 : Nat) (z6 : Int32), 32 - k5 = n7 → 0 ≤ k5 ∧ k5 ≤ 0 + 32 → ST G mi_Kit_nextScalar 26 [(3, .int (nI k5)), (2, .int z6), (0, .ref 62), (1, .ref to)] [] u1 0 0 Q := by
    intro n7
    induction n7 using Nat.strongRecOn with
    | _ n7 ih8 =>
      intro k5 z6 h10 h11
      refine ST.lift (fun _ _ k => T_iload_n d_Kit_nextScalar_26 rfl k) ?_
      refine ST.lift (fun _ _ k => T_bipush (v := nI 32) d_Kit_nextScalar_27 (by decide) k) ?_
      refine S_icmp_geN d_Kit_nextScalar_29 rfl (by omega) (by omega) (fun c12 => ?_) (fun c12 => ?_)
      · refine ST.lift (fun _ _ k => T_iload_n d_Kit_nextScalar_44 rfl k) ?_
        refine S_if_ne d_Kit_nextScalar_45 rfl (fun c15 => ?_) (fun c15 => ?_)
        · exact S_vret d_Kit_nextScalar_52 rfl (by decide) (by decide) (hQ _ hv2 hm4)
        · refine ST.lift (fun _ _ k => T_aload_n (v := .ref to) d_Kit_nextScalar_48 rfl (Or.inr ⟨_, rfl⟩) k) ?_
          refine ST.lift (fun _ _ k => T_iconst (v := nI 0) d_Kit_nextScalar_49 (by decide) k) ?_
          refine ST.lift (fun _ _ k => T_iconst (v := nI 1) d_Kit_nextScalar_50 (by decide) k) ?_
          refine S_bastore d_Kit_nextScalar_51 w_to a_to (vp_in_nI (by omega) (by omega)) ?_
          exact S_vret d_Kit_nextScalar_52 rfl (by decide) (by decide) (hQ _ hv2 hm4)
      · refine ST.lift (fun _ _ k => T_iload_n d_Kit_nextScalar_32 rfl k) ?_
        refine ST.lift (fun _ _ k => T_aload_n (v := .ref to) d_Kit_nextScalar_33 rfl (Or.inr ⟨_, rfl⟩) k) ?_
        refine ST.lift (fun _ _ k => T_iload_n d_Kit_nextScalar_34 rfl k) ?_
        refine S_baload d_Kit_nextScalar_35 a_to (vp_in_nI (by omega) (by omega)) (fun z16 hz16 => ?_)
        refine ST.lift (fun _ _ k => T_ior d_Kit_nextScalar_36 k) (S_anyi fun z17 => ?_)
        refine ST.lift (fun _ _ k => T_istore_n (L' := [(2, .int z17), (3, .int (nI k5)), (0, .ref 62), (1, .ref to)]) d_Kit_nextScalar_37 (by decide) rfl k) ?_
        refine S_iincN (a := k5) (b := 1) (L' := [(3, .int (nI (k5 + 1))), (2, .int z17), (0, .ref 62), (1, .ref to)]) d_Kit_nextScalar_38 (by decide) rfl rfl rfl ?_
        refine ST.lift (fun _ _ k => T_goto (tgt := 26) d_Kit_nextScalar_41 rfl k) ?_
        exact ih8 (32 - (k5 + 1)) (by omega) (k5 + 1) z17 rfl (by omega)
  exact lp9 _ 0 (nI 0) rfl (by omega)
set_option maxRecDepth 100000 in
set_option maxHeartbeats 4000000 in
theorem c_Kit_putTag (G : GX) (v : Nat → Int32) (s sd sn : Nat) (t_s : isSt s sd sn) (hv : okv v) : CS G mi_Kit_putTag [.ref 62, .ref s] v (fun r v' => r = none ∧ okv v' ∧ mdf [6] v v') := by
  refine CS.of (by decide) (Nat.le_of_ble_eq_true rfl) ?_
  generalize hQe : (fun (r : Option Value) (v' : Nat → Int32) => r = none ∧ okv v' ∧ mdf [6] v v') = Q
  have hQ : ∀ u, okv u → mdf [6] v u → Q none u := by rw [← hQe]; exact fun u h1 h2 => ⟨rfl, h1, h2⟩
  clear hQe
  have hm : mdf [6] v v := mdf.rf
  have l_s := t_s.2.2.2.2
  show ST G mi_Kit_putTag 0 [(0, .ref 62), (1, .ref s)] [] v 0 0 Q
  refine ST.lift (fun _ _ k => T_aload_n (v := .ref 62) d_Kit_putTag_0 rfl (Or.inr ⟨_, rfl⟩) k) ?_
  refine S_getfield d_Kit_putTag_1 fg_Kit_84 (w62 _) rfl ?_
  obtain ⟨k1, hk1, ek1⟩ := hv.get (j := 6) (c := 400) (by decide)
  refine S_getfield d_Kit_putTag_4 fg_Kit_143 (w213 _) rfl ?_
  refine S_topi (y := nI k1) (ek1) ?_
  refine ST.lift (fun _ _ k => T_istore_n (L' := [(2, .int (nI k1)), (0, .ref 62), (1, .ref s)]) d_Kit_putTag_7 (by decide) rfl k) ?_
  refine ST.lift (fun _ _ k => T_aload_n (v := .ref 62) d_Kit_putTag_8 rfl (Or.inr ⟨_, rfl⟩) k) ?_
  refine S_getfield d_Kit_putTag_9 fg_Kit_84 (w62 _) rfl ?_
  refine ST.lift (fun _ _ k => T_aload_n (v := .ref s) d_Kit_putTag_12 rfl (Or.inr ⟨_, rfl⟩) k) ?_
  refine S_virtual (as := [.ref s]) (rest := []) (b := 213) d_Kit_putTag_13 rfl (jw_By_putText.jo (by decide)) lm_Kit_102 ji_By_putText js_By_putText (w213 _) rfl rfl rfl (Nat.le_of_ble_eq_true rfl) (by decide) (by decide) (c_By_putText G v 213 214 400 6 ⟨w213, a214, by decide, u213_1, by decide, by decide⟩ s sd sn t_s hv) (fun r u2 hq => ?_)
  obtain ⟨hr, hv3, hm4⟩ := hq
  rw [hr]
  clear hr r
  have hm5 := hm.go hm4 (by intro i hi; simp only [List.mem_cons, List.not_mem_nil, or_false] at hi ⊢ <;> omega)
  show ST G mi_Kit_putTag 16 [(2, .int (nI k1)), (0, .ref 62), (1, .ref s)] [] u2 0 0 _
  refine ST.lift (fun _ _ k => T_aload_n (v := .ref 62) d_Kit_putTag_16 rfl (Or.inr ⟨_, rfl⟩) k) ?_
  refine S_getfield d_Kit_putTag_17 fg_Kit_84 (w62 _) rfl ?_
  refine ST.lift (fun _ _ k => T_ldcS (q := scl.getD 1 ("", 0, "", 0)) d_Kit_putTag_20 (List.mem_of_getElem? (i := 1) rfl) rfl rfl (by decide) k) ?_
  refine S_virtual (as := [.ref 16]) (rest := []) (b := 213) d_Kit_putTag_22 rfl (jw_By_putText.jo (by decide)) lm_Kit_102 ji_By_putText js_By_putText (w213 _) rfl rfl rfl (Nat.le_of_ble_eq_true rfl) (by decide) (by decide) (c_By_putText G u2 213 214 400 6 ⟨w213, a214, by decide, u213_1, by decide, by decide⟩ 16 17 7 ⟨w16, a17, by decide, by decide, by decide⟩ hv3) (fun r u6 hq => ?_)
  obtain ⟨hr, hv7, hm8⟩ := hq
  rw [hr]
  clear hr r
  have hm9 := hm5.go hm8 (by intro i hi; simp only [List.mem_cons, List.not_mem_nil, or_false] at hi ⊢ <;> omega)
  show ST G mi_Kit_putTag 25 [(2, .int (nI k1)), (0, .ref 62), (1, .ref s)] [] u6 0 0 _
  refine ST.lift (fun _ _ k => T_aload_n (v := .ref 62) d_Kit_putTag_25 rfl (Or.inr ⟨_, rfl⟩) k) ?_
  refine S_getfield d_Kit_putTag_26 fg_Kit_84 (w62 _) rfl ?_
  refine ST.lift (fun _ _ k => T_iconst (v := nI 0) d_Kit_putTag_29 (by decide) k) ?_
  refine S_virtual (as := [.int (nI 0)]) (rest := []) (b := 213) d_Kit_putTag_30 rfl (jw_By_putByte.jo (by decide)) lm_Kit_137 ji_By_putByte js_By_putByte (w213 _) rfl rfl rfl (Nat.le_of_ble_eq_true rfl) (by decide) (by decide) (c_By_putByte G u6 213 214 400 6 ⟨w213, a214, by decide, u213_1, by decide, by decide⟩ (nI 0) hv7) (fun r u10 hq => ?_)
  obtain ⟨hr, hv11, hm12⟩ := hq
  rw [hr]
  clear hr r
  have hm13 := hm9.go hm12 (by intro i hi; simp only [List.mem_cons, List.not_mem_nil, or_false] at hi ⊢ <;> omega)
  show ST G mi_Kit_putTag 33 [(2, .int (nI k1)), (0, .ref 62), (1, .ref s)] [] u10 0 0 _
  refine ST.lift (fun _ _ k => T_aload_n (v := .ref 62) d_Kit_putTag_33 rfl (Or.inr ⟨_, rfl⟩) k) ?_
  refine S_getfield d_Kit_putTag_34 fg_Kit_84 (w62 _) rfl ?_
  refine ST.lift (fun _ _ k => T_ldcS (q := scl.getD 2 ("", 0, "", 0)) d_Kit_putTag_37 (List.mem_of_getElem? (i := 2) rfl) rfl rfl (by decide) k) ?_
  refine S_virtual (as := [.ref 18]) (rest := []) (b := 213) d_Kit_putTag_39 rfl (jw_By_putText.jo (by decide)) lm_Kit_102 ji_By_putText js_By_putText (w213 _) rfl rfl rfl (Nat.le_of_ble_eq_true rfl) (by decide) (by decide) (c_By_putText G u10 213 214 400 6 ⟨w213, a214, by decide, u213_1, by decide, by decide⟩ 18 19 20 ⟨w18, a19, by decide, by decide, by decide⟩ hv11) (fun r u14 hq => ?_)
  obtain ⟨hr, hv15, hm16⟩ := hq
  rw [hr]
  clear hr r
  have hm17 := hm13.go hm16 (by intro i hi; simp only [List.mem_cons, List.not_mem_nil, or_false] at hi ⊢ <;> omega)
  show ST G mi_Kit_putTag 42 [(2, .int (nI k1)), (0, .ref 62), (1, .ref s)] [] u14 0 0 _
  refine ST.lift (fun _ _ k => T_aload_n (v := .ref 62) d_Kit_putTag_42 rfl (Or.inr ⟨_, rfl⟩) k) ?_
  refine S_getfield d_Kit_putTag_43 fg_Kit_84 (w62 _) rfl ?_
  refine ST.lift (fun _ _ k => T_aload_n (v := .ref 62) d_Kit_putTag_46 rfl (Or.inr ⟨_, rfl⟩) k) ?_
  refine S_getfield d_Kit_putTag_47 fg_Kit_84 (w62 _) rfl ?_
  obtain ⟨k18, hk18, ek18⟩ := hv15.get (j := 6) (c := 400) (by decide)
  refine S_getfield d_Kit_putTag_50 fg_Kit_143 (w213 _) rfl ?_
  refine S_topi (y := nI k18) (ek18) ?_
  refine ST.lift (fun _ _ k => T_iload_n d_Kit_putTag_53 rfl k) ?_
  rcases Nat.lt_or_ge k18 k1 with c19 | c19
  · refine ST.lift (fun _ _ k => T_isub d_Kit_putTag_54 k) (S_anyi fun z20 => ?_)
    refine S_virtual (as := [.int z20]) (rest := []) (b := 213) d_Kit_putTag_55 rfl (jw_By_putByte.jo (by decide)) lm_Kit_137 ji_By_putByte js_By_putByte (w213 _) rfl rfl rfl (Nat.le_of_ble_eq_true rfl) (by decide) (by decide) (c_By_putByte G u14 213 214 400 6 ⟨w213, a214, by decide, u213_1, by decide, by decide⟩ z20 hv15) (fun r u21 hq => ?_)
    obtain ⟨hr, hv22, hm23⟩ := hq
    rw [hr]
    clear hr r
    have hm24 := hm17.go hm23 (by intro i hi; simp only [List.mem_cons, List.not_mem_nil, or_false] at hi ⊢ <;> omega)
    show ST G mi_Kit_putTag 58 [(2, .int (nI k1)), (0, .ref 62), (1, .ref s)] [] u21 0 0 _
    exact S_vret d_Kit_putTag_58 rfl (by decide) (by decide) (hQ _ hv22 hm24)
  · refine S_isubN d_Kit_putTag_54 (by omega) ?_
    refine S_virtual (as := [.int (nI (k18 - k1))]) (rest := []) (b := 213) d_Kit_putTag_55 rfl (jw_By_putByte.jo (by decide)) lm_Kit_137 ji_By_putByte js_By_putByte (w213 _) rfl rfl rfl (Nat.le_of_ble_eq_true rfl) (by decide) (by decide) (c_By_putByte G u14 213 214 400 6 ⟨w213, a214, by decide, u213_1, by decide, by decide⟩ (nI (k18 - k1)) hv15) (fun r u25 hq => ?_)
    obtain ⟨hr, hv26, hm27⟩ := hq
    rw [hr]
    clear hr r
    have hm28 := hm17.go hm27 (by intro i hi; simp only [List.mem_cons, List.not_mem_nil, or_false] at hi ⊢ <;> omega)
    show ST G mi_Kit_putTag 58 [(2, .int (nI k1)), (0, .ref 62), (1, .ref s)] [] u25 0 0 _
    exact S_vret d_Kit_putTag_58 rfl (by decide) (by decide) (hQ _ hv26 hm28)
set_option maxRecDepth 100000 in
set_option maxHeartbeats 4000000 in
theorem c_Kit_stretch (G : GX) (v : Nat → Int32) (a ad ac aj : Nat) (y_a : isBy a ad ac aj) (s sd sn : Nat) (t_s : isSt s sd sn) (to m : Nat) (w_to : K0 ≤ to) (a_to : aB to m) (l_to : m ≤ 2000) (h64 : 64 ≤ m) (hv : okv v) : CS G mi_Kit_stretch [.ref 62, .ref a, .ref s, .ref to] v (fun r v' => r = none ∧ okv v' ∧ mdf [6] v v') := by
  refine CS.of (by decide) (Nat.le_of_ble_eq_true rfl) ?_
  generalize hQe : (fun (r : Option Value) (v' : Nat → Int32) => r = none ∧ okv v' ∧ mdf [6] v v') = Q
  have hQ : ∀ u, okv u → mdf [6] v u → Q none u := by rw [← hQe]; exact fun u h1 h2 => ⟨rfl, h1, h2⟩
  clear hQe
  have hm : mdf [6] v v := mdf.rf
  have l_a := y_a.2.2.2.2.2
  have l_s := t_s.2.2.2.2
  show ST G mi_Kit_stretch 0 [(0, .ref 62), (1, .ref a), (2, .ref s), (3, .ref to)] [] v 0 0 Q
  refine ST.lift (fun _ _ k => T_aload_n (v := .ref 62) d_Kit_stretch_0 rfl (Or.inr ⟨_, rfl⟩) k) ?_
  refine S_getfield d_Kit_stretch_1 fg_Kit_84 (w62 _) rfl ?_
  refine S_virtual (as := []) (rest := []) (b := 213) d_Kit_stretch_4 rfl (jw_By_clear.jo (by decide)) lm_Kit_97 ji_By_clear js_By_clear (w213 _) rfl rfl rfl (Nat.le_of_ble_eq_true rfl) (by decide) (by decide) (c_By_clear G v 213 214 400 6 ⟨w213, a214, by decide, u213_1, by decide, by decide⟩ hv) (fun r v' hq => ?_)
  rw [hq.1, hq.2]
  clear hq r v'
  show ST G mi_Kit_stretch 7 [(0, .ref 62), (1, .ref a), (2, .ref s), (3, .ref to)] [] (va_up v 6 (nI 0)) 0 0 _
  have hv2 := hv.up (j := 6) (c := 400) (k := 0) (by decide) (by omega)
  have hm3 := hm.go (mdf.up (v := v) (j := 6) (x := (nI 0))) (by intro i hi; simp only [List.mem_cons, List.not_mem_nil, or_false] at hi ⊢ <;> omega)
  have e_u1 : (va_up v 6 (nI 0)) 6 = (nI 0) := by simp [va_up]
  generalize va_up v 6 (nI 0) = u1 at hv2 hm3 e_u1 ⊢
  refine ST.lift (fun _ _ k => T_aload_n (v := .ref 62) d_Kit_stretch_7 rfl (Or.inr ⟨_, rfl⟩) k) ?_
  refine S_getfield d_Kit_stretch_8 fg_Kit_84 (w62 _) rfl ?_
  refine ST.lift (fun _ _ k => T_sipush (v := nI 128) d_Kit_stretch_11 (by decide) k) ?_
  refine S_virtual (as := [.int (nI 128)]) (rest := []) (b := 213) d_Kit_stretch_14 rfl (jw_By_putZeros.jo (by decide)) lm_Kit_130 ji_By_putZeros js_By_putZeros (w213 _) rfl rfl rfl (Nat.le_of_ble_eq_true rfl) (by decide) (by decide) (c_By_putZeros G u1 213 214 400 6 ⟨w213, a214, by decide, u213_1, by decide, by decide⟩ 128 (by omega) hv2) (fun r u4 hq => ?_)
  obtain ⟨hr, hv5, hm6⟩ := hq
  rw [hr]
  clear hr r
  have hm7 := hm3.go hm6 (by intro i hi; simp only [List.mem_cons, List.not_mem_nil, or_false] at hi ⊢ <;> omega)
  show ST G mi_Kit_stretch 17 [(0, .ref 62), (1, .ref a), (2, .ref s), (3, .ref to)] [] u4 0 0 _
  refine ST.lift (fun _ _ k => T_aload_n (v := .ref 62) d_Kit_stretch_17 rfl (Or.inr ⟨_, rfl⟩) k) ?_
  refine S_getfield d_Kit_stretch_18 fg_Kit_84 (w62 _) rfl ?_
  refine ST.lift (fun _ _ k => T_aload_n (v := .ref a) d_Kit_stretch_21 rfl (Or.inr ⟨_, rfl⟩) k) ?_
  refine S_virtual (as := [.ref a]) (rest := []) (b := 213) d_Kit_stretch_22 rfl (jw_By_putAll.jo (by decide)) lm_Kit_133 ji_By_putAll js_By_putAll (w213 _) rfl rfl rfl (Nat.le_of_ble_eq_true rfl) (by decide) (by decide) (c_By_putAll G u4 213 214 400 6 ⟨w213, a214, by decide, u213_1, by decide, by decide⟩ a ad ac aj y_a hv5) (fun r u8 hq => ?_)
  obtain ⟨hr, hv9, hm10⟩ := hq
  rw [hr]
  clear hr r
  have hm11 := hm7.go hm10 (by intro i hi; simp only [List.mem_cons, List.not_mem_nil, or_false] at hi ⊢ <;> omega)
  show ST G mi_Kit_stretch 25 [(0, .ref 62), (1, .ref a), (2, .ref s), (3, .ref to)] [] u8 0 0 _
  refine ST.lift (fun _ _ k => T_aload_n (v := .ref 62) d_Kit_stretch_25 rfl (Or.inr ⟨_, rfl⟩) k) ?_
  refine S_getfield d_Kit_stretch_26 fg_Kit_84 (w62 _) rfl ?_
  refine ST.lift (fun _ _ k => T_bipush (v := nI 64) d_Kit_stretch_29 (by decide) k) ?_
  refine ST.lift (fun _ _ k => T_iconst (v := nI 2) d_Kit_stretch_31 (by decide) k) ?_
  refine S_virtual (as := [.int (nI 64), .int (nI 2)]) (rest := []) (b := 213) d_Kit_stretch_32 rfl (jw_By_putNumber.jo (by decide)) lm_Kit_106 ji_By_putNumber js_By_putNumber (w213 _) rfl rfl rfl (Nat.le_of_ble_eq_true rfl) (by decide) (by decide) (c_By_putNumber_2 G u8 213 214 400 6 ⟨w213, a214, by decide, u213_1, by decide, by decide⟩ (nI 64) hv9) (fun r u12 hq => ?_)
  obtain ⟨hr, hv13, hm14⟩ := hq
  rw [hr]
  clear hr r
  have hm15 := hm11.go hm14 (by intro i hi; simp only [List.mem_cons, List.not_mem_nil, or_false] at hi ⊢ <;> omega)
  show ST G mi_Kit_stretch 35 [(0, .ref 62), (1, .ref a), (2, .ref s), (3, .ref to)] [] u12 0 0 _
  refine ST.lift (fun _ _ k => T_aload_n (v := .ref 62) d_Kit_stretch_35 rfl (Or.inr ⟨_, rfl⟩) k) ?_
  refine S_getfield d_Kit_stretch_36 fg_Kit_84 (w62 _) rfl ?_
  refine ST.lift (fun _ _ k => T_iconst (v := nI 0) d_Kit_stretch_39 (by decide) k) ?_
  refine S_virtual (as := [.int (nI 0)]) (rest := []) (b := 213) d_Kit_stretch_40 rfl (jw_By_putByte.jo (by decide)) lm_Kit_137 ji_By_putByte js_By_putByte (w213 _) rfl rfl rfl (Nat.le_of_ble_eq_true rfl) (by decide) (by decide) (c_By_putByte G u12 213 214 400 6 ⟨w213, a214, by decide, u213_1, by decide, by decide⟩ (nI 0) hv13) (fun r u16 hq => ?_)
  obtain ⟨hr, hv17, hm18⟩ := hq
  rw [hr]
  clear hr r
  have hm19 := hm15.go hm18 (by intro i hi; simp only [List.mem_cons, List.not_mem_nil, or_false] at hi ⊢ <;> omega)
  show ST G mi_Kit_stretch 43 [(0, .ref 62), (1, .ref a), (2, .ref s), (3, .ref to)] [] u16 0 0 _
  refine ST.lift (fun _ _ k => T_aload_n (v := .ref 62) d_Kit_stretch_43 rfl (Or.inr ⟨_, rfl⟩) k) ?_
  refine ST.lift (fun _ _ k => T_aload_n (v := .ref s) d_Kit_stretch_44 rfl (Or.inr ⟨_, rfl⟩) k) ?_
  refine S_virtual (as := [.ref s]) (rest := []) (b := 62) d_Kit_stretch_45 rfl (jw_Kit_putTag.jo (by decide)) lm_Kit_140 ji_Kit_putTag js_Kit_putTag (w62 _) rfl rfl rfl (Nat.le_of_ble_eq_true rfl) (by decide) (by decide) (c_Kit_putTag G u16 s sd sn t_s hv17) (fun r u20 hq => ?_)
  obtain ⟨hr, hv21, hm22⟩ := hq
  rw [hr]
  clear hr r
  have hm23 := hm19.go hm22 (by intro i hi; simp only [List.mem_cons, List.not_mem_nil, or_false] at hi ⊢ <;> omega)
  show ST G mi_Kit_stretch 48 [(0, .ref 62), (1, .ref a), (2, .ref s), (3, .ref to)] [] u20 0 0 _
  refine ST.lift (fun _ _ k => T_aload_n (v := .ref 62) d_Kit_stretch_48 rfl (Or.inr ⟨_, rfl⟩) k) ?_
  refine S_getfield d_Kit_stretch_49 fg_Kit_10 (w62 _) rfl ?_
  refine ST.lift (fun _ _ k => T_aload_n (v := .ref 62) d_Kit_stretch_52 rfl (Or.inr ⟨_, rfl⟩) k) ?_
  refine S_getfield d_Kit_stretch_53 fg_Kit_84 (w62 _) rfl ?_
  refine ST.lift (fun _ _ k => T_aload_n (v := .ref to) d_Kit_stretch_56 rfl (Or.inr ⟨_, rfl⟩) k) ?_
  refine S_virtual (as := [.ref 213, .ref to]) (rest := []) (b := 63) d_Kit_stretch_57 rfl (jw_Dig_run.jo (by decide)) lm_Kit_110 ji_Dig_run js_Dig_run (w63 _) rfl rfl rfl (Nat.le_of_ble_eq_true rfl) (by decide) (by decide) (c_Dig_run_63 G u20 213 214 400 6 ⟨w213, a214, by decide, u213_1, by decide, by decide⟩ to m w_to a_to (by omega) (by omega) hv21) (fun r u24 hq => ?_)
  obtain ⟨hr, hv25, hm26⟩ := hq
  rw [hr]
  clear hr r
  have hm27 := hm23.go hm26 (by intro i hi; simp only [List.mem_cons, List.not_mem_nil, or_false] at hi ⊢ <;> omega)
  show ST G mi_Kit_stretch 60 [(0, .ref 62), (1, .ref a), (2, .ref s), (3, .ref to)] [] u24 0 0 _
  refine ST.lift (fun _ _ k => T_aload_n (v := .ref 62) d_Kit_stretch_60 rfl (Or.inr ⟨_, rfl⟩) k) ?_
  refine S_getfield d_Kit_stretch_61 fg_Kit_84 (w62 _) rfl ?_
  refine S_virtual (as := []) (rest := []) (b := 213) d_Kit_stretch_64 rfl (jw_By_clear.jo (by decide)) lm_Kit_97 ji_By_clear js_By_clear (w213 _) rfl rfl rfl (Nat.le_of_ble_eq_true rfl) (by decide) (by decide) (c_By_clear G u24 213 214 400 6 ⟨w213, a214, by decide, u213_1, by decide, by decide⟩ hv25) (fun r v' hq => ?_)
  rw [hq.1, hq.2]
  clear hq r v'
  show ST G mi_Kit_stretch 67 [(0, .ref 62), (1, .ref a), (2, .ref s), (3, .ref to)] [] (va_up u24 6 (nI 0)) 0 0 _
  have hv29 := hv25.up (j := 6) (c := 400) (k := 0) (by decide) (by omega)
  have hm30 := hm27.go (mdf.up (v := u24) (j := 6) (x := (nI 0))) (by intro i hi; simp only [List.mem_cons, List.not_mem_nil, or_false] at hi ⊢ <;> omega)
  have e_u28 : (va_up u24 6 (nI 0)) 6 = (nI 0) := by simp [va_up]
  generalize va_up u24 6 (nI 0) = u28 at hv29 hm30 e_u28 ⊢
  refine ST.lift (fun _ _ k => T_aload_n (v := .ref 62) d_Kit_stretch_67 rfl (Or.inr ⟨_, rfl⟩) k) ?_
  refine S_getfield d_Kit_stretch_68 fg_Kit_84 (w62 _) rfl ?_
  refine ST.lift (fun _ _ k => T_aload_n (v := .ref to) d_Kit_stretch_71 rfl (Or.inr ⟨_, rfl⟩) k) ?_
  refine ST.lift (fun _ _ k => T_iconst (v := nI 0) d_Kit_stretch_72 (by decide) k) ?_
  refine ST.lift (fun _ _ k => T_bipush (v := nI 64) d_Kit_stretch_73 (by decide) k) ?_
  refine S_virtual (as := [.ref to, .int (nI 0), .int (nI 64)]) (rest := []) (b := 213) d_Kit_stretch_75 rfl (jw_By_put.jo (by decide)) lm_Kit_122 ji_By_put js_By_put (w213 _) rfl rfl rfl (Nat.le_of_ble_eq_true rfl) (by decide) (by decide) (c_By_put G u28 213 214 400 6 ⟨w213, a214, by decide, u213_1, by decide, by decide⟩ to m w_to a_to (by omega) 0 (by omega) 64 (by omega) hv29) (fun r u31 hq => ?_)
  obtain ⟨hr, hv32, hm33⟩ := hq
  rw [hr]
  clear hr r
  have hm34 := hm30.go hm33 (by intro i hi; simp only [List.mem_cons, List.not_mem_nil, or_false] at hi ⊢ <;> omega)
  show ST G mi_Kit_stretch 78 [(0, .ref 62), (1, .ref a), (2, .ref s), (3, .ref to)] [] u31 0 0 _
  refine ST.lift (fun _ _ k => T_aload_n (v := .ref 62) d_Kit_stretch_78 rfl (Or.inr ⟨_, rfl⟩) k) ?_
  refine S_getfield d_Kit_stretch_79 fg_Kit_84 (w62 _) rfl ?_
  refine ST.lift (fun _ _ k => T_iconst (v := nI 1) d_Kit_stretch_82 (by decide) k) ?_
  refine S_virtual (as := [.int (nI 1)]) (rest := []) (b := 213) d_Kit_stretch_83 rfl (jw_By_putByte.jo (by decide)) lm_Kit_137 ji_By_putByte js_By_putByte (w213 _) rfl rfl rfl (Nat.le_of_ble_eq_true rfl) (by decide) (by decide) (c_By_putByte G u31 213 214 400 6 ⟨w213, a214, by decide, u213_1, by decide, by decide⟩ (nI 1) hv32) (fun r u35 hq => ?_)
  obtain ⟨hr, hv36, hm37⟩ := hq
  rw [hr]
  clear hr r
  have hm38 := hm34.go hm37 (by intro i hi; simp only [List.mem_cons, List.not_mem_nil, or_false] at hi ⊢ <;> omega)
  show ST G mi_Kit_stretch 86 [(0, .ref 62), (1, .ref a), (2, .ref s), (3, .ref to)] [] u35 0 0 _
  refine ST.lift (fun _ _ k => T_aload_n (v := .ref 62) d_Kit_stretch_86 rfl (Or.inr ⟨_, rfl⟩) k) ?_
  refine ST.lift (fun _ _ k => T_aload_n (v := .ref s) d_Kit_stretch_87 rfl (Or.inr ⟨_, rfl⟩) k) ?_
  refine S_virtual (as := [.ref s]) (rest := []) (b := 62) d_Kit_stretch_88 rfl (jw_Kit_putTag.jo (by decide)) lm_Kit_140 ji_Kit_putTag js_Kit_putTag (w62 _) rfl rfl rfl (Nat.le_of_ble_eq_true rfl) (by decide) (by decide) (c_Kit_putTag G u35 s sd sn t_s hv36) (fun r u39 hq => ?_)
  obtain ⟨hr, hv40, hm41⟩ := hq
  rw [hr]
  clear hr r
  have hm42 := hm38.go hm41 (by intro i hi; simp only [List.mem_cons, List.not_mem_nil, or_false] at hi ⊢ <;> omega)
  show ST G mi_Kit_stretch 91 [(0, .ref 62), (1, .ref a), (2, .ref s), (3, .ref to)] [] u39 0 0 _
  refine ST.lift (fun _ _ k => T_aload_n (v := .ref 62) d_Kit_stretch_91 rfl (Or.inr ⟨_, rfl⟩) k) ?_
  refine S_getfield d_Kit_stretch_92 fg_Kit_10 (w62 _) rfl ?_
  refine ST.lift (fun _ _ k => T_aload_n (v := .ref 62) d_Kit_stretch_95 rfl (Or.inr ⟨_, rfl⟩) k) ?_
  refine S_getfield d_Kit_stretch_96 fg_Kit_84 (w62 _) rfl ?_
  refine ST.lift (fun _ _ k => T_aload_n (v := .ref to) d_Kit_stretch_99 rfl (Or.inr ⟨_, rfl⟩) k) ?_
  refine S_virtual (as := [.ref 213, .ref to]) (rest := []) (b := 63) d_Kit_stretch_100 rfl (jw_Dig_run.jo (by decide)) lm_Kit_110 ji_Dig_run js_Dig_run (w63 _) rfl rfl rfl (Nat.le_of_ble_eq_true rfl) (by decide) (by decide) (c_Dig_run_63 G u39 213 214 400 6 ⟨w213, a214, by decide, u213_1, by decide, by decide⟩ to m w_to a_to (by omega) (by omega) hv40) (fun r u43 hq => ?_)
  obtain ⟨hr, hv44, hm45⟩ := hq
  rw [hr]
  clear hr r
  have hm46 := hm42.go hm45 (by intro i hi; simp only [List.mem_cons, List.not_mem_nil, or_false] at hi ⊢ <;> omega)
  show ST G mi_Kit_stretch 103 [(0, .ref 62), (1, .ref a), (2, .ref s), (3, .ref to)] [] u43 0 0 _
  exact S_vret d_Kit_stretch_103 rfl (by decide) (by decide) (hQ _ hv44 hm46)
set_option maxRecDepth 100000 in
set_option maxHeartbeats 4000000 in
theorem c_Kit_groupOf (G : GX) (v : Nat → Int32) (a ad ac aj : Nat) (y_a : isBy a ad ac aj) (o ox oy oz ot : Nat) (p_o : isPt o ox oy oz ot) (hv : okv v) : CS G mi_Kit_groupOf [.ref 62, .ref a, .ref o] v (fun r v' => r = none ∧ okv v' ∧ mdf [6] v v') := by
  refine CS.of (by decide) (Nat.le_of_ble_eq_true rfl) ?_
  generalize hQe : (fun (r : Option Value) (v' : Nat → Int32) => r = none ∧ okv v' ∧ mdf [6] v v') = Q
  have hQ : ∀ u, okv u → mdf [6] v u → Q none u := by rw [← hQe]; exact fun u h1 h2 => ⟨rfl, h1, h2⟩
  clear hQe
  have hm : mdf [6] v v := mdf.rf
  have l_a := y_a.2.2.2.2.2
  show ST G mi_Kit_groupOf 0 [(0, .ref 62), (1, .ref a), (2, .ref o)] [] v 0 0 Q
  refine ST.lift (fun _ _ k => T_aload_n (v := .ref 62) d_Kit_groupOf_0 rfl (Or.inr ⟨_, rfl⟩) k) ?_
  refine ST.lift (fun _ _ k => T_aload_n (v := .ref a) d_Kit_groupOf_1 rfl (Or.inr ⟨_, rfl⟩) k) ?_
  refine ST.lift (fun _ _ k => T_ldcS (q := scl.getD 0 ("", 0, "", 0)) d_Kit_groupOf_2 (List.mem_of_getElem? (i := 0) rfl) rfl rfl (by decide) k) ?_
  refine ST.lift (fun _ _ k => T_aload_n (v := .ref 62) d_Kit_groupOf_4 rfl (Or.inr ⟨_, rfl⟩) k) ?_
  refine S_getfield d_Kit_groupOf_5 fg_Kit_51 (w62 _) rfl ?_
  refine S_virtual (as := [.ref a, .ref 14, .ref 199]) (rest := []) (b := 62) d_Kit_groupOf_8 rfl (jw_Kit_stretch.jo (by decide)) lm_Kit_152 ji_Kit_stretch js_Kit_stretch (w62 _) rfl rfl rfl (Nat.le_of_ble_eq_true rfl) (by decide) (by decide) (c_Kit_stretch G v a ad ac aj y_a 14 15 12 ⟨w14, a15, by decide, by decide, by decide⟩ 199 64 (by decide) a199 (by omega) (by omega) hv) (fun r u1 hq => ?_)
  obtain ⟨hr, hv2, hm3⟩ := hq
  rw [hr]
  clear hr r
  have hm4 := hm.go hm3 (by intro i hi; simp only [List.mem_cons, List.not_mem_nil, or_false] at hi ⊢ <;> omega)
  show ST G mi_Kit_groupOf 11 [(0, .ref 62), (1, .ref a), (2, .ref o)] [] u1 0 0 _
  refine ST.lift (fun _ _ k => T_aload_n (v := .ref 62) d_Kit_groupOf_11 rfl (Or.inr ⟨_, rfl⟩) k) ?_
  refine S_getfield d_Kit_groupOf_12 fg_Kit_26 (w62 _) rfl ?_
  refine ST.lift (fun _ _ k => T_aload_n (v := .ref 62) d_Kit_groupOf_15 rfl (Or.inr ⟨_, rfl⟩) k) ?_
  refine S_getfield d_Kit_groupOf_16 fg_Kit_51 (w62 _) rfl ?_
  refine ST.lift (fun _ _ k => T_aload_n (v := .ref o) d_Kit_groupOf_19 rfl (Or.inr ⟨_, rfl⟩) k) ?_
  refine S_virtual (as := [.ref 199, .ref o]) (rest := []) (b := 77) d_Kit_groupOf_20 rfl (jw_Cu_map.jo (by decide)) lm_Kit_156 ji_Cu_map js_Cu_map (w77 _) rfl rfl rfl (Nat.le_of_ble_eq_true rfl) (by decide) (by decide) (c_Cu_map G u1 199 64 (by decide) a199 (by omega) o ox oy oz ot p_o (by omega)) (fun r v' hq => ?_)
  rw [hq.1, hq.2]
  clear hq r v'
  show ST G mi_Kit_groupOf 23 [(0, .ref 62), (1, .ref a), (2, .ref o)] [] u1 0 0 _
  exact S_vret d_Kit_groupOf_23 rfl (by decide) (by decide) (hQ _ hv2 hm4)
set_option maxRecDepth 100000 in
set_option maxHeartbeats 4000000 in
theorem c_Kit_keyOf (G : GX) (v : Nat → Int32) (a ma : Nat) (w_a : K0 ≤ a) (a_a : aB a ma) (l_a : ma ≤ 2000) (s sd sn : Nat) (t_s : isSt s sd sn) (to m : Nat) (w_to : K0 ≤ to) (a_to : aB to m) (l_to : m ≤ 2000) (h32 : 32 ≤ m) (hv : okv v) : CS G mi_Kit_keyOf [.ref 62, .ref a, .ref s, .ref to] v (fun r v' => r = none ∧ okv v' ∧ mdf [6, 7] v v') := by
  refine CS.of (by decide) (Nat.le_of_ble_eq_true rfl) ?_
  generalize hQe : (fun (r : Option Value) (v' : Nat → Int32) => r = none ∧ okv v' ∧ mdf [6, 7] v v') = Q
  have hQ : ∀ u, okv u → mdf [6, 7] v u → Q none u := by rw [← hQe]; exact fun u h1 h2 => ⟨rfl, h1, h2⟩
  clear hQe
  have hm : mdf [6, 7] v v := mdf.rf
  have l_s := t_s.2.2.2.2
  show ST G mi_Kit_keyOf 0 [(0, .ref 62), (1, .ref a), (2, .ref s), (3, .ref to)] [] v 0 0 Q
  refine ST.lift (fun _ _ k => T_aload_n (v := .ref 62) d_Kit_keyOf_0 rfl (Or.inr ⟨_, rfl⟩) k) ?_
  refine S_getfield d_Kit_keyOf_1 fg_Kit_87 (w62 _) rfl ?_
  refine S_virtual (as := []) (rest := []) (b := 215) d_Kit_keyOf_4 rfl (jw_By_clear.jo (by decide)) lm_Kit_97 ji_By_clear js_By_clear (w215 _) rfl rfl rfl (Nat.le_of_ble_eq_true rfl) (by decide) (by decide) (c_By_clear G v 215 216 150 7 ⟨w215, a216, by decide, u215_1, by decide, by decide⟩ hv) (fun r v' hq => ?_)
  rw [hq.1, hq.2]
  clear hq r v'
  show ST G mi_Kit_keyOf 7 [(0, .ref 62), (1, .ref a), (2, .ref s), (3, .ref to)] [] (va_up v 7 (nI 0)) 0 0 _
  have hv2 := hv.up (j := 7) (c := 150) (k := 0) (by decide) (by omega)
  have hm3 := hm.go (mdf.up (v := v) (j := 7) (x := (nI 0))) (by intro i hi; simp only [List.mem_cons, List.not_mem_nil, or_false] at hi ⊢ <;> omega)
  have e_u1 : (va_up v 7 (nI 0)) 7 = (nI 0) := by simp [va_up]
  generalize va_up v 7 (nI 0) = u1 at hv2 hm3 e_u1 ⊢
  refine ST.lift (fun _ _ k => T_aload_n (v := .ref 62) d_Kit_keyOf_7 rfl (Or.inr ⟨_, rfl⟩) k) ?_
  refine S_getfield d_Kit_keyOf_8 fg_Kit_87 (w62 _) rfl ?_
  refine ST.lift (fun _ _ k => T_aload_n (v := .ref a) d_Kit_keyOf_11 rfl (Or.inr ⟨_, rfl⟩) k) ?_
  refine ST.lift (fun _ _ k => T_iconst (v := nI 0) d_Kit_keyOf_12 (by decide) k) ?_
  refine ST.lift (fun _ _ k => T_bipush (v := nI 32) d_Kit_keyOf_13 (by decide) k) ?_
  refine S_virtual (as := [.ref a, .int (nI 0), .int (nI 32)]) (rest := []) (b := 215) d_Kit_keyOf_15 rfl (jw_By_put.jo (by decide)) lm_Kit_122 ji_By_put js_By_put (w215 _) rfl rfl rfl (Nat.le_of_ble_eq_true rfl) (by decide) (by decide) (c_By_put G u1 215 216 150 7 ⟨w215, a216, by decide, u215_1, by decide, by decide⟩ a ma w_a a_a (by omega) 0 (by omega) 32 (by omega) hv2) (fun r u4 hq => ?_)
  obtain ⟨hr, hv5, hm6⟩ := hq
  rw [hr]
  clear hr r
  have hm7 := hm3.go hm6 (by intro i hi; simp only [List.mem_cons, List.not_mem_nil, or_false] at hi ⊢ <;> omega)
  show ST G mi_Kit_keyOf 18 [(0, .ref 62), (1, .ref a), (2, .ref s), (3, .ref to)] [] u4 0 0 _
  refine ST.lift (fun _ _ k => T_aload_n (v := .ref 62) d_Kit_keyOf_18 rfl (Or.inr ⟨_, rfl⟩) k) ?_
  refine S_getfield d_Kit_keyOf_19 fg_Kit_87 (w62 _) rfl ?_
  refine ST.lift (fun _ _ k => T_aload_n (v := .ref s) d_Kit_keyOf_22 rfl (Or.inr ⟨_, rfl⟩) k) ?_
  refine S_virtualS (as := []) (rest := [.ref 215]) (b := s) d_Kit_keyOf_23 rfl (jw_jS_length.jo (by decide)) lm_Kit_160 ji_jS_length js_jS_length t_s rfl rfl (Nat.le_of_ble_eq_true rfl) (by decide) (by decide) (c_jS_length G u4 s sd sn t_s) (fun r v' hq => ?_)
  rw [hq.1, hq.2]
  clear hq r v'
  show ST G mi_Kit_keyOf 26 [(0, .ref 62), (1, .ref a), (2, .ref s), (3, .ref to)] [.int (nI sn), .ref 215] u4 0 0 _
  refine ST.lift (fun _ _ k => T_iconst (v := nI 2) d_Kit_keyOf_26 (by decide) k) ?_
  refine S_virtual (as := [.int (nI sn), .int (nI 2)]) (rest := []) (b := 215) d_Kit_keyOf_27 rfl (jw_By_putNumber.jo (by decide)) lm_Kit_106 ji_By_putNumber js_By_putNumber (w215 _) rfl rfl rfl (Nat.le_of_ble_eq_true rfl) (by decide) (by decide) (c_By_putNumber_2 G u4 215 216 150 7 ⟨w215, a216, by decide, u215_1, by decide, by decide⟩ (nI sn) hv5) (fun r u8 hq => ?_)
  obtain ⟨hr, hv9, hm10⟩ := hq
  rw [hr]
  clear hr r
  have hm11 := hm7.go hm10 (by intro i hi; simp only [List.mem_cons, List.not_mem_nil, or_false] at hi ⊢ <;> omega)
  show ST G mi_Kit_keyOf 30 [(0, .ref 62), (1, .ref a), (2, .ref s), (3, .ref to)] [] u8 0 0 _
  refine ST.lift (fun _ _ k => T_aload_n (v := .ref 62) d_Kit_keyOf_30 rfl (Or.inr ⟨_, rfl⟩) k) ?_
  refine S_getfield d_Kit_keyOf_31 fg_Kit_87 (w62 _) rfl ?_
  refine ST.lift (fun _ _ k => T_aload_n (v := .ref s) d_Kit_keyOf_34 rfl (Or.inr ⟨_, rfl⟩) k) ?_
  refine S_virtual (as := [.ref s]) (rest := []) (b := 215) d_Kit_keyOf_35 rfl (jw_By_putText.jo (by decide)) lm_Kit_102 ji_By_putText js_By_putText (w215 _) rfl rfl rfl (Nat.le_of_ble_eq_true rfl) (by decide) (by decide) (c_By_putText G u8 215 216 150 7 ⟨w215, a216, by decide, u215_1, by decide, by decide⟩ s sd sn t_s hv9) (fun r u12 hq => ?_)
  obtain ⟨hr, hv13, hm14⟩ := hq
  rw [hr]
  clear hr r
  have hm15 := hm11.go hm14 (by intro i hi; simp only [List.mem_cons, List.not_mem_nil, or_false] at hi ⊢ <;> omega)
  show ST G mi_Kit_keyOf 38 [(0, .ref 62), (1, .ref a), (2, .ref s), (3, .ref to)] [] u12 0 0 _
  refine ST.lift (fun _ _ k => T_aload_n (v := .ref 62) d_Kit_keyOf_38 rfl (Or.inr ⟨_, rfl⟩) k) ?_
  refine S_getfield d_Kit_keyOf_39 fg_Kit_87 (w62 _) rfl ?_
  refine ST.lift (fun _ _ k => T_iconst (v := nI 0) d_Kit_keyOf_42 (by decide) k) ?_
  refine S_virtual (as := [.int (nI 0)]) (rest := []) (b := 215) d_Kit_keyOf_43 rfl (jw_By_putByte.jo (by decide)) lm_Kit_137 ji_By_putByte js_By_putByte (w215 _) rfl rfl rfl (Nat.le_of_ble_eq_true rfl) (by decide) (by decide) (c_By_putByte G u12 215 216 150 7 ⟨w215, a216, by decide, u215_1, by decide, by decide⟩ (nI 0) hv13) (fun r u16 hq => ?_)
  obtain ⟨hr, hv17, hm18⟩ := hq
  rw [hr]
  clear hr r
  have hm19 := hm15.go hm18 (by intro i hi; simp only [List.mem_cons, List.not_mem_nil, or_false] at hi ⊢ <;> omega)
  show ST G mi_Kit_keyOf 46 [(0, .ref 62), (1, .ref a), (2, .ref s), (3, .ref to)] [] u16 0 0 _
  refine ST.lift (fun _ _ k => T_aload_n (v := .ref 62) d_Kit_keyOf_46 rfl (Or.inr ⟨_, rfl⟩) k) ?_
  refine ST.lift (fun _ _ k => T_aload_n (v := .ref 62) d_Kit_keyOf_47 rfl (Or.inr ⟨_, rfl⟩) k) ?_
  refine S_getfield d_Kit_keyOf_48 fg_Kit_87 (w62 _) rfl ?_
  refine ST.lift (fun _ _ k => T_ldcS (q := scl.getD 5 ("", 0, "", 0)) d_Kit_keyOf_51 (List.mem_of_getElem? (i := 5) rfl) rfl rfl (by decide) k) ?_
  refine ST.lift (fun _ _ k => T_aload_n (v := .ref 62) d_Kit_keyOf_53 rfl (Or.inr ⟨_, rfl⟩) k) ?_
  refine S_getfield d_Kit_keyOf_54 fg_Kit_51 (w62 _) rfl ?_
  refine S_virtual (as := [.ref 215, .ref 24, .ref 199]) (rest := []) (b := 62) d_Kit_keyOf_57 rfl (jw_Kit_stretch.jo (by decide)) lm_Kit_152 ji_Kit_stretch js_Kit_stretch (w62 _) rfl rfl rfl (Nat.le_of_ble_eq_true rfl) (by decide) (by decide) (c_Kit_stretch G u16 215 216 150 7 ⟨w215, a216, by decide, u215_1, by decide, by decide⟩ 24 25 13 ⟨w24, a25, by decide, by decide, by decide⟩ 199 64 (by decide) a199 (by omega) (by omega) hv17) (fun r u20 hq => ?_)
  obtain ⟨hr, hv21, hm22⟩ := hq
  rw [hr]
  clear hr r
  have hm23 := hm19.go hm22 (by intro i hi; simp only [List.mem_cons, List.not_mem_nil, or_false] at hi ⊢ <;> omega)
  show ST G mi_Kit_keyOf 60 [(0, .ref 62), (1, .ref a), (2, .ref s), (3, .ref to)] [] u20 0 0 _
  refine ST.lift (fun _ _ k => T_aload_n (v := .ref 62) d_Kit_keyOf_60 rfl (Or.inr ⟨_, rfl⟩) k) ?_
  refine S_getfield d_Kit_keyOf_61 fg_Kit_33 (w62 _) rfl ?_
  refine ST.lift (fun _ _ k => T_aload_n (v := .ref 62) d_Kit_keyOf_64 rfl (Or.inr ⟨_, rfl⟩) k) ?_
  refine S_getfield d_Kit_keyOf_65 fg_Kit_51 (w62 _) rfl ?_
  refine ST.lift (fun _ _ k => T_bipush (v := nI 64) d_Kit_keyOf_68 (by decide) k) ?_
  refine ST.lift (fun _ _ k => T_aload_n (v := .ref to) d_Kit_keyOf_70 rfl (Or.inr ⟨_, rfl⟩) k) ?_
  refine S_virtual (as := [.ref 199, .int (nI 64), .ref to]) (rest := []) (b := 183) d_Kit_keyOf_71 rfl (jw_Sc_reduce.jo (by decide)) lm_Kit_126 ji_Sc_reduce js_Sc_reduce (w183 _) rfl rfl rfl (Nat.le_of_ble_eq_true rfl) (by decide) (by decide) (c_Sc_reduce G u20 199 64 (by decide) a199 (by omega) 64 (by omega) to m w_to a_to (by omega) (by omega)) (fun r v' hq => ?_)
  rw [hq.1, hq.2]
  clear hq r v'
  show ST G mi_Kit_keyOf 74 [(0, .ref 62), (1, .ref a), (2, .ref s), (3, .ref to)] [] u20 0 0 _
  exact S_vret d_Kit_keyOf_74 rfl (by decide) (by decide) (hQ _ hv21 hm23)
set_option maxRecDepth 100000 in
set_option maxHeartbeats 4000000 in
theorem c_Kit_putPublic (G : GX) (v : Nat → Int32) (s m : Nat) (w_s : K0 ≤ s) (a_s : aB s m) (l_s : m ≤ 2000) (b bd bc bj : Nat) (y_b : isBy b bd bc bj) (h32 : 32 ≤ m) (hv : okv v) : CS G mi_Kit_putPublic [.ref 62, .ref s, .ref b] v (fun r v' => r = none ∧ okv v' ∧ mdf [bj] v v') := by
  refine CS.of (by decide) (Nat.le_of_ble_eq_true rfl) ?_
  generalize hQe : (fun (r : Option Value) (v' : Nat → Int32) => r = none ∧ okv v' ∧ mdf [bj] v v') = Q
  have hQ : ∀ u, okv u → mdf [bj] v u → Q none u := by rw [← hQe]; exact fun u h1 h2 => ⟨rfl, h1, h2⟩
  clear hQe
  have hm : mdf [bj] v v := mdf.rf
  have l_b := y_b.2.2.2.2.2
  show ST G mi_Kit_putPublic 0 [(0, .ref 62), (1, .ref s), (2, .ref b)] [] v 0 0 Q
  refine ST.lift (fun _ _ k => T_aload_n (v := .ref 62) d_Kit_putPublic_0 rfl (Or.inr ⟨_, rfl⟩) k) ?_
  refine S_getfield d_Kit_putPublic_1 fg_Kit_26 (w62 _) rfl ?_
  refine ST.lift (fun _ _ k => T_aload_n (v := .ref 62) d_Kit_putPublic_4 rfl (Or.inr ⟨_, rfl⟩) k) ?_
  refine S_getfield d_Kit_putPublic_5 fg_Kit_78 (w62 _) rfl ?_
  refine ST.lift (fun _ _ k => T_aload_n (v := .ref s) d_Kit_putPublic_8 rfl (Or.inr ⟨_, rfl⟩) k) ?_
  refine S_virtual (as := [.ref 207, .ref s]) (rest := []) (b := 77) d_Kit_putPublic_9 rfl (jw_Cu_multiplyBase.jo (by decide)) lm_Kit_167 ji_Cu_multiplyBase js_Cu_multiplyBase (w77 _) rfl rfl rfl (Nat.le_of_ble_eq_true rfl) (by decide) (by decide) (c_Cu_multiplyBase G v 207 208 209 210 211 ⟨w207, a208, a209, a210, a211, by decide, by decide, by decide, by decide⟩ s m w_s a_s (by omega) (by omega)) (fun r v' hq => ?_)
  rw [hq.1, hq.2]
  clear hq r v'
  show ST G mi_Kit_putPublic 12 [(0, .ref 62), (1, .ref s), (2, .ref b)] [] v 0 0 _
  refine ST.lift (fun _ _ k => T_aload_n (v := .ref 62) d_Kit_putPublic_12 rfl (Or.inr ⟨_, rfl⟩) k) ?_
  refine S_getfield d_Kit_putPublic_13 fg_Kit_26 (w62 _) rfl ?_
  refine ST.lift (fun _ _ k => T_aload_n (v := .ref 62) d_Kit_putPublic_16 rfl (Or.inr ⟨_, rfl⟩) k) ?_
  refine S_getfield d_Kit_putPublic_17 fg_Kit_78 (w62 _) rfl ?_
  refine ST.lift (fun _ _ k => T_aload_n (v := .ref b) d_Kit_putPublic_20 rfl (Or.inr ⟨_, rfl⟩) k) ?_
  refine S_virtual (as := [.ref 207, .ref b]) (rest := []) (b := 77) d_Kit_putPublic_21 rfl (jw_Cu_code.jo (by decide)) lm_Kit_171 ji_Cu_code js_Cu_code (w77 _) rfl rfl rfl (Nat.le_of_ble_eq_true rfl) (by decide) (by decide) (c_Cu_code G v 207 208 209 210 211 ⟨w207, a208, a209, a210, a211, by decide, by decide, by decide, by decide⟩ b bd bc bj y_b hv) (fun r u1 hq => ?_)
  obtain ⟨hr, hv2, hm3⟩ := hq
  rw [hr]
  clear hr r
  have hm4 := hm.go hm3 (by intro i hi; simp only [List.mem_cons, List.not_mem_nil, or_false] at hi ⊢ <;> omega)
  show ST G mi_Kit_putPublic 24 [(0, .ref 62), (1, .ref s), (2, .ref b)] [] u1 0 0 _
  exact S_vret d_Kit_putPublic_24 rfl (by decide) (by decide) (hQ _ hv2 hm4)
set_option maxRecDepth 100000 in
set_option maxHeartbeats 4000000 in
theorem c_Kit_randomize (G : GX) (v : Nat → Int32) (w wd wc wj : Nat) (y_w : isBy w wd wc wj) (p px py pz pt : Nat) (p_p : isPt p px py pz pt) (hv : okv v) : CS G mi_Kit_randomize [.ref 62, .ref w, .ref p] v (fun r v' => r = none ∧ okv v' ∧ mdf [6, 7, 2, 3] v v') := by
  refine CS.of (by decide) (Nat.le_of_ble_eq_true rfl) ?_
  generalize hQe : (fun (r : Option Value) (v' : Nat → Int32) => r = none ∧ okv v' ∧ mdf [6, 7, 2, 3] v v') = Q
  have hQ : ∀ u, okv u → mdf [6, 7, 2, 3] v u → Q none u := by rw [← hQe]; exact fun u h1 h2 => ⟨rfl, h1, h2⟩
  clear hQe
  have hm : mdf [6, 7, 2, 3] v v := mdf.rf
  have l_w := y_w.2.2.2.2.2
  show ST G mi_Kit_randomize 0 [(0, .ref 62), (1, .ref w), (2, .ref p)] [] v 0 0 Q
  refine ST.lift (fun _ _ k => T_aload_n (v := .ref 62) d_Kit_randomize_0 rfl (Or.inr ⟨_, rfl⟩) k) ?_
  refine S_getfield d_Kit_randomize_1 fg_Kit_84 (w62 _) rfl ?_
  refine S_virtual (as := []) (rest := []) (b := 213) d_Kit_randomize_4 rfl (jw_By_clear.jo (by decide)) lm_Kit_97 ji_By_clear js_By_clear (w213 _) rfl rfl rfl (Nat.le_of_ble_eq_true rfl) (by decide) (by decide) (c_By_clear G v 213 214 400 6 ⟨w213, a214, by decide, u213_1, by decide, by decide⟩ hv) (fun r v' hq => ?_)
  rw [hq.1, hq.2]
  clear hq r v'
  show ST G mi_Kit_randomize 7 [(0, .ref 62), (1, .ref w), (2, .ref p)] [] (va_up v 6 (nI 0)) 0 0 _
  have hv2 := hv.up (j := 6) (c := 400) (k := 0) (by decide) (by omega)
  have hm3 := hm.go (mdf.up (v := v) (j := 6) (x := (nI 0))) (by intro i hi; simp only [List.mem_cons, List.not_mem_nil, or_false] at hi ⊢ <;> omega)
  have e_u1 : (va_up v 6 (nI 0)) 6 = (nI 0) := by simp [va_up]
  generalize va_up v 6 (nI 0) = u1 at hv2 hm3 e_u1 ⊢
  refine ST.lift (fun _ _ k => T_aload_n (v := .ref 62) d_Kit_randomize_7 rfl (Or.inr ⟨_, rfl⟩) k) ?_
  refine S_getfield d_Kit_randomize_8 fg_Kit_84 (w62 _) rfl ?_
  refine ST.lift (fun _ _ k => T_aload_n (v := .ref w) d_Kit_randomize_11 rfl (Or.inr ⟨_, rfl⟩) k) ?_
  obtain ⟨k4, hk4, ek4⟩ := hv2.get (j := wj) (c := wc) y_w.2.2.2.2.1
  refine S_getfield d_Kit_randomize_12 fg_Kit_143 (y_w.1 _) rfl ?_
  refine S_topi (y := nI k4) (ek4) ?_
  refine ST.lift (fun _ _ k => T_iconst (v := nI 2) d_Kit_randomize_15 (by decide) k) ?_
  refine S_virtual (as := [.int (nI k4), .int (nI 2)]) (rest := []) (b := 213) d_Kit_randomize_16 rfl (jw_By_putNumber.jo (by decide)) lm_Kit_106 ji_By_putNumber js_By_putNumber (w213 _) rfl rfl rfl (Nat.le_of_ble_eq_true rfl) (by decide) (by decide) (c_By_putNumber_2 G u1 213 214 400 6 ⟨w213, a214, by decide, u213_1, by decide, by decide⟩ (nI k4) hv2) (fun r u5 hq => ?_)
  obtain ⟨hr, hv6, hm7⟩ := hq
  rw [hr]
  clear hr r
  have hm8 := hm3.go hm7 (by intro i hi; simp only [List.mem_cons, List.not_mem_nil, or_false] at hi ⊢ <;> omega)
  show ST G mi_Kit_randomize 19 [(0, .ref 62), (1, .ref w), (2, .ref p)] [] u5 0 0 _
  refine ST.lift (fun _ _ k => T_aload_n (v := .ref 62) d_Kit_randomize_19 rfl (Or.inr ⟨_, rfl⟩) k) ?_
  refine S_getfield d_Kit_randomize_20 fg_Kit_84 (w62 _) rfl ?_
  refine ST.lift (fun _ _ k => T_aload_n (v := .ref w) d_Kit_randomize_23 rfl (Or.inr ⟨_, rfl⟩) k) ?_
  refine S_virtual (as := [.ref w]) (rest := []) (b := 213) d_Kit_randomize_24 rfl (jw_By_putAll.jo (by decide)) lm_Kit_133 ji_By_putAll js_By_putAll (w213 _) rfl rfl rfl (Nat.le_of_ble_eq_true rfl) (by decide) (by decide) (c_By_putAll G u5 213 214 400 6 ⟨w213, a214, by decide, u213_1, by decide, by decide⟩ w wd wc wj y_w hv6) (fun r u9 hq => ?_)
  obtain ⟨hr, hv10, hm11⟩ := hq
  rw [hr]
  clear hr r
  have hm12 := hm8.go hm11 (by intro i hi; simp only [List.mem_cons, List.not_mem_nil, or_false] at hi ⊢ <;> omega)
  show ST G mi_Kit_randomize 27 [(0, .ref 62), (1, .ref w), (2, .ref p)] [] u9 0 0 _
  refine ST.lift (fun _ _ k => T_aload_n (v := .ref 62) d_Kit_randomize_27 rfl (Or.inr ⟨_, rfl⟩) k) ?_
  refine S_getfield d_Kit_randomize_28 fg_Kit_84 (w62 _) rfl ?_
  refine ST.lift (fun _ _ k => T_bipush (v := nI 32) d_Kit_randomize_31 (by decide) k) ?_
  refine ST.lift (fun _ _ k => T_iconst (v := nI 2) d_Kit_randomize_33 (by decide) k) ?_
  refine S_virtual (as := [.int (nI 32), .int (nI 2)]) (rest := []) (b := 213) d_Kit_randomize_34 rfl (jw_By_putNumber.jo (by decide)) lm_Kit_106 ji_By_putNumber js_By_putNumber (w213 _) rfl rfl rfl (Nat.le_of_ble_eq_true rfl) (by decide) (by decide) (c_By_putNumber_2 G u9 213 214 400 6 ⟨w213, a214, by decide, u213_1, by decide, by decide⟩ (nI 32) hv10) (fun r u13 hq => ?_)
  obtain ⟨hr, hv14, hm15⟩ := hq
  rw [hr]
  clear hr r
  have hm16 := hm12.go hm15 (by intro i hi; simp only [List.mem_cons, List.not_mem_nil, or_false] at hi ⊢ <;> omega)
  show ST G mi_Kit_randomize 37 [(0, .ref 62), (1, .ref w), (2, .ref p)] [] u13 0 0 _
  refine ST.lift (fun _ _ k => T_aload_n (v := .ref 62) d_Kit_randomize_37 rfl (Or.inr ⟨_, rfl⟩) k) ?_
  refine S_getfield d_Kit_randomize_38 fg_Kit_26 (w62 _) rfl ?_
  refine ST.lift (fun _ _ k => T_aload_n (v := .ref p) d_Kit_randomize_41 rfl (Or.inr ⟨_, rfl⟩) k) ?_
  refine ST.lift (fun _ _ k => T_aload_n (v := .ref 62) d_Kit_randomize_42 rfl (Or.inr ⟨_, rfl⟩) k) ?_
  refine S_getfield d_Kit_randomize_43 fg_Kit_84 (w62 _) rfl ?_
  refine S_virtual (as := [.ref p, .ref 213]) (rest := []) (b := 77) d_Kit_randomize_46 rfl (jw_Cu_code.jo (by decide)) lm_Kit_171 ji_Cu_code js_Cu_code (w77 _) rfl rfl rfl (Nat.le_of_ble_eq_true rfl) (by decide) (by decide) (c_Cu_code G u13 p px py pz pt p_p 213 214 400 6 ⟨w213, a214, by decide, u213_1, by decide, by decide⟩ hv14) (fun r u17 hq => ?_)
  obtain ⟨hr, hv18, hm19⟩ := hq
  rw [hr]
  clear hr r
  have hm20 := hm16.go hm19 (by intro i hi; simp only [List.mem_cons, List.not_mem_nil, or_false] at hi ⊢ <;> omega)
  show ST G mi_Kit_randomize 49 [(0, .ref 62), (1, .ref w), (2, .ref p)] [] u17 0 0 _
  refine ST.lift (fun _ _ k => T_aload_n (v := .ref 62) d_Kit_randomize_49 rfl (Or.inr ⟨_, rfl⟩) k) ?_
  refine S_getfield d_Kit_randomize_50 fg_Kit_84 (w62 _) rfl ?_
  refine ST.lift (fun _ _ k => T_ldcS (q := scl.getD 9 ("", 0, "", 0)) d_Kit_randomize_53 (List.mem_of_getElem? (i := 9) rfl) rfl rfl (by decide) k) ?_
  refine S_virtual (as := [.ref 32]) (rest := []) (b := 213) d_Kit_randomize_55 rfl (jw_By_putText.jo (by decide)) lm_Kit_102 ji_By_putText js_By_putText (w213 _) rfl rfl rfl (Nat.le_of_ble_eq_true rfl) (by decide) (by decide) (c_By_putText G u17 213 214 400 6 ⟨w213, a214, by decide, u213_1, by decide, by decide⟩ 32 33 8 ⟨w32, a33, by decide, by decide, by decide⟩ hv18) (fun r u21 hq => ?_)
  obtain ⟨hr, hv22, hm23⟩ := hq
  rw [hr]
  clear hr r
  have hm24 := hm20.go hm23 (by intro i hi; simp only [List.mem_cons, List.not_mem_nil, or_false] at hi ⊢ <;> omega)
  show ST G mi_Kit_randomize 58 [(0, .ref 62), (1, .ref w), (2, .ref p)] [] u21 0 0 _
  refine ST.lift (fun _ _ k => T_aload_n (v := .ref 62) d_Kit_randomize_58 rfl (Or.inr ⟨_, rfl⟩) k) ?_
  refine S_getfield d_Kit_randomize_59 fg_Kit_10 (w62 _) rfl ?_
  refine ST.lift (fun _ _ k => T_aload_n (v := .ref 62) d_Kit_randomize_62 rfl (Or.inr ⟨_, rfl⟩) k) ?_
  refine S_getfield d_Kit_randomize_63 fg_Kit_84 (w62 _) rfl ?_
  refine ST.lift (fun _ _ k => T_aload_n (v := .ref 62) d_Kit_randomize_66 rfl (Or.inr ⟨_, rfl⟩) k) ?_
  refine S_getfield d_Kit_randomize_67 fg_Kit_51 (w62 _) rfl ?_
  refine S_virtual (as := [.ref 213, .ref 199]) (rest := []) (b := 63) d_Kit_randomize_70 rfl (jw_Dig_run.jo (by decide)) lm_Kit_110 ji_Dig_run js_Dig_run (w63 _) rfl rfl rfl (Nat.le_of_ble_eq_true rfl) (by decide) (by decide) (c_Dig_run_63 G u21 213 214 400 6 ⟨w213, a214, by decide, u213_1, by decide, by decide⟩ 199 64 (by decide) a199 (by omega) (by omega) hv22) (fun r u25 hq => ?_)
  obtain ⟨hr, hv26, hm27⟩ := hq
  rw [hr]
  clear hr r
  have hm28 := hm24.go hm27 (by intro i hi; simp only [List.mem_cons, List.not_mem_nil, or_false] at hi ⊢ <;> omega)
  show ST G mi_Kit_randomize 73 [(0, .ref 62), (1, .ref w), (2, .ref p)] [] u25 0 0 _
  refine ST.lift (fun _ _ k => T_aload_n (v := .ref 62) d_Kit_randomize_73 rfl (Or.inr ⟨_, rfl⟩) k) ?_
  refine S_getfield d_Kit_randomize_74 fg_Kit_84 (w62 _) rfl ?_
  refine S_virtual (as := []) (rest := []) (b := 213) d_Kit_randomize_77 rfl (jw_By_clear.jo (by decide)) lm_Kit_97 ji_By_clear js_By_clear (w213 _) rfl rfl rfl (Nat.le_of_ble_eq_true rfl) (by decide) (by decide) (c_By_clear G u25 213 214 400 6 ⟨w213, a214, by decide, u213_1, by decide, by decide⟩ hv26) (fun r v' hq => ?_)
  rw [hq.1, hq.2]
  clear hq r v'
  show ST G mi_Kit_randomize 80 [(0, .ref 62), (1, .ref w), (2, .ref p)] [] (va_up u25 6 (nI 0)) 0 0 _
  have hv30 := hv26.up (j := 6) (c := 400) (k := 0) (by decide) (by omega)
  have hm31 := hm28.go (mdf.up (v := u25) (j := 6) (x := (nI 0))) (by intro i hi; simp only [List.mem_cons, List.not_mem_nil, or_false] at hi ⊢ <;> omega)
  have e_u29 : (va_up u25 6 (nI 0)) 6 = (nI 0) := by simp [va_up]
  generalize va_up u25 6 (nI 0) = u29 at hv30 hm31 e_u29 ⊢
  refine ST.lift (fun _ _ k => T_aload_n (v := .ref 62) d_Kit_randomize_80 rfl (Or.inr ⟨_, rfl⟩) k) ?_
  refine S_getfield d_Kit_randomize_81 fg_Kit_84 (w62 _) rfl ?_
  refine ST.lift (fun _ _ k => T_aload_n (v := .ref 62) d_Kit_randomize_84 rfl (Or.inr ⟨_, rfl⟩) k) ?_
  refine S_getfield d_Kit_randomize_85 fg_Kit_51 (w62 _) rfl ?_
  refine ST.lift (fun _ _ k => T_iconst (v := nI 0) d_Kit_randomize_88 (by decide) k) ?_
  refine ST.lift (fun _ _ k => T_bipush (v := nI 64) d_Kit_randomize_89 (by decide) k) ?_
  refine S_virtual (as := [.ref 199, .int (nI 0), .int (nI 64)]) (rest := []) (b := 213) d_Kit_randomize_91 rfl (jw_By_put.jo (by decide)) lm_Kit_122 ji_By_put js_By_put (w213 _) rfl rfl rfl (Nat.le_of_ble_eq_true rfl) (by decide) (by decide) (c_By_put G u29 213 214 400 6 ⟨w213, a214, by decide, u213_1, by decide, by decide⟩ 199 64 (by decide) a199 (by omega) 0 (by omega) 64 (by omega) hv30) (fun r u32 hq => ?_)
  obtain ⟨hr, hv33, hm34⟩ := hq
  rw [hr]
  clear hr r
  have hm35 := hm31.go hm34 (by intro i hi; simp only [List.mem_cons, List.not_mem_nil, or_false] at hi ⊢ <;> omega)
  show ST G mi_Kit_randomize 94 [(0, .ref 62), (1, .ref w), (2, .ref p)] [] u32 0 0 _
  refine ST.lift (fun _ _ k => T_aload_n (v := .ref 62) d_Kit_randomize_94 rfl (Or.inr ⟨_, rfl⟩) k) ?_
  refine S_getfield d_Kit_randomize_95 fg_Kit_84 (w62 _) rfl ?_
  refine ST.lift (fun _ _ k => T_aload_n (v := .ref 62) d_Kit_randomize_98 rfl (Or.inr ⟨_, rfl⟩) k) ?_
  refine S_getfield d_Kit_randomize_99 fg_Kit_51 (w62 _) rfl ?_
  refine ST.lift (fun _ _ k => T_iconst (v := nI 0) d_Kit_randomize_102 (by decide) k) ?_
  refine ST.lift (fun _ _ k => T_bipush (v := nI 64) d_Kit_randomize_103 (by decide) k) ?_
  refine S_virtual (as := [.ref 199, .int (nI 0), .int (nI 64)]) (rest := []) (b := 213) d_Kit_randomize_105 rfl (jw_By_put.jo (by decide)) lm_Kit_122 ji_By_put js_By_put (w213 _) rfl rfl rfl (Nat.le_of_ble_eq_true rfl) (by decide) (by decide) (c_By_put G u32 213 214 400 6 ⟨w213, a214, by decide, u213_1, by decide, by decide⟩ 199 64 (by decide) a199 (by omega) 0 (by omega) 64 (by omega) hv33) (fun r u36 hq => ?_)
  obtain ⟨hr, hv37, hm38⟩ := hq
  rw [hr]
  clear hr r
  have hm39 := hm35.go hm38 (by intro i hi; simp only [List.mem_cons, List.not_mem_nil, or_false] at hi ⊢ <;> omega)
  show ST G mi_Kit_randomize 108 [(0, .ref 62), (1, .ref w), (2, .ref p)] [] u36 0 0 _
  refine ST.lift (fun _ _ k => T_aload_n (v := .ref 62) d_Kit_randomize_108 rfl (Or.inr ⟨_, rfl⟩) k) ?_
  refine S_getfield d_Kit_randomize_109 fg_Kit_19 (w62 _) rfl ?_
  refine ST.lift (fun _ _ k => T_aload_n (v := .ref 62) d_Kit_randomize_112 rfl (Or.inr ⟨_, rfl⟩) k) ?_
  refine S_getfield d_Kit_randomize_113 fg_Kit_84 (w62 _) rfl ?_
  refine ST.lift (fun _ _ k => T_aload_n (v := .ref 62) d_Kit_randomize_116 rfl (Or.inr ⟨_, rfl⟩) k) ?_
  refine S_getfield d_Kit_randomize_117 fg_Kit_54 (w62 _) rfl ?_
  refine S_virtual (as := [.ref 213, .ref 200]) (rest := []) (b := 66) d_Kit_randomize_120 rfl (jw_Key_extract.jo (by decide)) lm_Kit_177 ji_Key_extract js_Key_extract (w66 _) rfl rfl rfl (Nat.le_of_ble_eq_true rfl) (by decide) (by decide) (c_Key_extract G u36 213 214 400 6 ⟨w213, a214, by decide, u213_1, by decide, by decide⟩ 200 64 (by decide) a200 (by omega) (by omega) hv37) (fun r u40 hq => ?_)
  obtain ⟨hr, hv41, hm42⟩ := hq
  rw [hr]
  clear hr r
  have hm43 := hm39.go hm42 (by intro i hi; simp only [List.mem_cons, List.not_mem_nil, or_false] at hi ⊢ <;> omega)
  show ST G mi_Kit_randomize 123 [(0, .ref 62), (1, .ref w), (2, .ref p)] [] u40 0 0 _
  refine ST.lift (fun _ _ k => T_aload_n (v := .ref 62) d_Kit_randomize_123 rfl (Or.inr ⟨_, rfl⟩) k) ?_
  refine S_getfield d_Kit_randomize_124 fg_Kit_87 (w62 _) rfl ?_
  refine S_virtual (as := []) (rest := []) (b := 215) d_Kit_randomize_127 rfl (jw_By_clear.jo (by decide)) lm_Kit_97 ji_By_clear js_By_clear (w215 _) rfl rfl rfl (Nat.le_of_ble_eq_true rfl) (by decide) (by decide) (c_By_clear G u40 215 216 150 7 ⟨w215, a216, by decide, u215_1, by decide, by decide⟩ hv41) (fun r v' hq => ?_)
  rw [hq.1, hq.2]
  clear hq r v'
  show ST G mi_Kit_randomize 130 [(0, .ref 62), (1, .ref w), (2, .ref p)] [] (va_up u40 7 (nI 0)) 0 0 _
  have hv45 := hv41.up (j := 7) (c := 150) (k := 0) (by decide) (by omega)
  have hm46 := hm43.go (mdf.up (v := u40) (j := 7) (x := (nI 0))) (by intro i hi; simp only [List.mem_cons, List.not_mem_nil, or_false] at hi ⊢ <;> omega)
  have e_u44 : (va_up u40 7 (nI 0)) 7 = (nI 0) := by simp [va_up]
  generalize va_up u40 7 (nI 0) = u44 at hv45 hm46 e_u44 ⊢
  refine ST.lift (fun _ _ k => T_aload_n (v := .ref 62) d_Kit_randomize_130 rfl (Or.inr ⟨_, rfl⟩) k) ?_
  refine S_getfield d_Kit_randomize_131 fg_Kit_87 (w62 _) rfl ?_
  refine ST.lift (fun _ _ k => T_ldcS (q := scl.getD 10 ("", 0, "", 0)) d_Kit_randomize_134 (List.mem_of_getElem? (i := 10) rfl) rfl rfl (by decide) k) ?_
  refine S_virtual (as := [.ref 34]) (rest := []) (b := 215) d_Kit_randomize_136 rfl (jw_By_putText.jo (by decide)) lm_Kit_102 ji_By_putText js_By_putText (w215 _) rfl rfl rfl (Nat.le_of_ble_eq_true rfl) (by decide) (by decide) (c_By_putText G u44 215 216 150 7 ⟨w215, a216, by decide, u215_1, by decide, by decide⟩ 34 35 10 ⟨w34, a35, by decide, by decide, by decide⟩ hv45) (fun r u47 hq => ?_)
  obtain ⟨hr, hv48, hm49⟩ := hq
  rw [hr]
  clear hr r
  have hm50 := hm46.go hm49 (by intro i hi; simp only [List.mem_cons, List.not_mem_nil, or_false] at hi ⊢ <;> omega)
  show ST G mi_Kit_randomize 139 [(0, .ref 62), (1, .ref w), (2, .ref p)] [] u47 0 0 _
  refine ST.lift (fun _ _ k => T_aload_n (v := .ref 62) d_Kit_randomize_139 rfl (Or.inr ⟨_, rfl⟩) k) ?_
  refine S_getfield d_Kit_randomize_140 fg_Kit_19 (w62 _) rfl ?_
  refine ST.lift (fun _ _ k => T_aload_n (v := .ref 62) d_Kit_randomize_143 rfl (Or.inr ⟨_, rfl⟩) k) ?_
  refine S_getfield d_Kit_randomize_144 fg_Kit_54 (w62 _) rfl ?_
  refine ST.lift (fun _ _ k => T_aload_n (v := .ref 62) d_Kit_randomize_147 rfl (Or.inr ⟨_, rfl⟩) k) ?_
  refine S_getfield d_Kit_randomize_148 fg_Kit_87 (w62 _) rfl ?_
  refine ST.lift (fun _ _ k => T_aload_n (v := .ref 62) d_Kit_randomize_151 rfl (Or.inr ⟨_, rfl⟩) k) ?_
  refine S_getfield d_Kit_randomize_152 fg_Kit_57 (w62 _) rfl ?_
  refine ST.lift (fun _ _ k => T_bipush (v := nI 64) d_Kit_randomize_155 (by decide) k) ?_
  refine S_virtual (as := [.ref 200, .ref 215, .ref 201, .int (nI 64)]) (rest := []) (b := 66) d_Kit_randomize_157 rfl (jw_Key_expand.jo (by decide)) lm_Kit_182 ji_Key_expand js_Key_expand (w66 _) rfl rfl rfl (Nat.le_of_ble_eq_true rfl) (by decide) (by decide) (c_Key_expand_64 G u47 200 64 (by decide) a200 (by omega) 215 216 150 7 ⟨w215, a216, by decide, u215_1, by decide, by decide⟩ 201 64 (by decide) a201 (by omega) (by omega) (by omega) hv48) (fun r u51 hq => ?_)
  obtain ⟨hr, hv52, hm53⟩ := hq
  rw [hr]
  clear hr r
  have hm54 := hm50.go hm53 (by intro i hi; simp only [List.mem_cons, List.not_mem_nil, or_false] at hi ⊢ <;> omega)
  show ST G mi_Kit_randomize 160 [(0, .ref 62), (1, .ref w), (2, .ref p)] [] u51 0 0 _
  exact S_vret d_Kit_randomize_160 rfl (by decide) (by decide) (hQ _ hv52 hm54)
set_option maxRecDepth 100000 in
set_option maxHeartbeats 4000000 in
theorem c_Kit_expandBy_32 (G : GX) (v : Nat → Int32) (a ma : Nat) (w_a : K0 ≤ a) (a_a : aB a ma) (l_a : ma ≤ 2000) (pos : Nat) (b_pos : pos ≤ 1000) (s sd sn : Nat) (t_s : isSt s sd sn) (hv : okv v) : CS G mi_Kit_expandBy [.ref 62, .ref a, .int (nI pos), .ref s, .int (nI 32)] v (fun r v' => r = none ∧ okv v' ∧ mdf [7, 2, 3] v v') := by
  refine CS.of (by decide) (Nat.le_of_ble_eq_true rfl) ?_
  generalize hQe : (fun (r : Option Value) (v' : Nat → Int32) => r = none ∧ okv v' ∧ mdf [7, 2, 3] v v') = Q
  have hQ : ∀ u, okv u → mdf [7, 2, 3] v u → Q none u := by rw [← hQe]; exact fun u h1 h2 => ⟨rfl, h1, h2⟩
  clear hQe
  have hm : mdf [7, 2, 3] v v := mdf.rf
  have l_s := t_s.2.2.2.2
  show ST G mi_Kit_expandBy 0 [(0, .ref 62), (1, .ref a), (2, .int (nI pos)), (3, .ref s), (4, .int (nI 32))] [] v 0 0 Q
  refine ST.lift (fun _ _ k => T_aload_n (v := .ref 62) d_Kit_expandBy_0 rfl (Or.inr ⟨_, rfl⟩) k) ?_
  refine S_getfield d_Kit_expandBy_1 fg_Kit_87 (w62 _) rfl ?_
  refine S_virtual (as := []) (rest := []) (b := 215) d_Kit_expandBy_4 rfl (jw_By_clear.jo (by decide)) lm_Kit_97 ji_By_clear js_By_clear (w215 _) rfl rfl rfl (Nat.le_of_ble_eq_true rfl) (by decide) (by decide) (c_By_clear G v 215 216 150 7 ⟨w215, a216, by decide, u215_1, by decide, by decide⟩ hv) (fun r v' hq => ?_)
  rw [hq.1, hq.2]
  clear hq r v'
  show ST G mi_Kit_expandBy 7 [(0, .ref 62), (1, .ref a), (2, .int (nI pos)), (3, .ref s), (4, .int (nI 32))] [] (va_up v 7 (nI 0)) 0 0 _
  have hv2 := hv.up (j := 7) (c := 150) (k := 0) (by decide) (by omega)
  have hm3 := hm.go (mdf.up (v := v) (j := 7) (x := (nI 0))) (by intro i hi; simp only [List.mem_cons, List.not_mem_nil, or_false] at hi ⊢ <;> omega)
  have e_u1 : (va_up v 7 (nI 0)) 7 = (nI 0) := by simp [va_up]
  generalize va_up v 7 (nI 0) = u1 at hv2 hm3 e_u1 ⊢
  refine ST.lift (fun _ _ k => T_aload_n (v := .ref 62) d_Kit_expandBy_7 rfl (Or.inr ⟨_, rfl⟩) k) ?_
  refine S_getfield d_Kit_expandBy_8 fg_Kit_87 (w62 _) rfl ?_
  refine ST.lift (fun _ _ k => T_aload_n (v := .ref a) d_Kit_expandBy_11 rfl (Or.inr ⟨_, rfl⟩) k) ?_
  refine ST.lift (fun _ _ k => T_iload_n d_Kit_expandBy_12 rfl k) ?_
  refine ST.lift (fun _ _ k => T_bipush (v := nI 32) d_Kit_expandBy_13 (by decide) k) ?_
  refine S_virtual (as := [.ref a, .int (nI pos), .int (nI 32)]) (rest := []) (b := 215) d_Kit_expandBy_15 rfl (jw_By_put.jo (by decide)) lm_Kit_122 ji_By_put js_By_put (w215 _) rfl rfl rfl (Nat.le_of_ble_eq_true rfl) (by decide) (by decide) (c_By_put G u1 215 216 150 7 ⟨w215, a216, by decide, u215_1, by decide, by decide⟩ a ma w_a a_a (by omega) pos (by omega) 32 (by omega) hv2) (fun r u4 hq => ?_)
  obtain ⟨hr, hv5, hm6⟩ := hq
  rw [hr]
  clear hr r
  have hm7 := hm3.go hm6 (by intro i hi; simp only [List.mem_cons, List.not_mem_nil, or_false] at hi ⊢ <;> omega)
  show ST G mi_Kit_expandBy 18 [(0, .ref 62), (1, .ref a), (2, .int (nI pos)), (3, .ref s), (4, .int (nI 32))] [] u4 0 0 _
  refine ST.lift (fun _ _ k => T_aload_n (v := .ref 62) d_Kit_expandBy_18 rfl (Or.inr ⟨_, rfl⟩) k) ?_
  refine S_getfield d_Kit_expandBy_19 fg_Kit_87 (w62 _) rfl ?_
  refine ST.lift (fun _ _ k => T_aload_n (v := .ref s) d_Kit_expandBy_22 rfl (Or.inr ⟨_, rfl⟩) k) ?_
  refine S_virtual (as := [.ref s]) (rest := []) (b := 215) d_Kit_expandBy_23 rfl (jw_By_putText.jo (by decide)) lm_Kit_102 ji_By_putText js_By_putText (w215 _) rfl rfl rfl (Nat.le_of_ble_eq_true rfl) (by decide) (by decide) (c_By_putText G u4 215 216 150 7 ⟨w215, a216, by decide, u215_1, by decide, by decide⟩ s sd sn t_s hv5) (fun r u8 hq => ?_)
  obtain ⟨hr, hv9, hm10⟩ := hq
  rw [hr]
  clear hr r
  have hm11 := hm7.go hm10 (by intro i hi; simp only [List.mem_cons, List.not_mem_nil, or_false] at hi ⊢ <;> omega)
  show ST G mi_Kit_expandBy 26 [(0, .ref 62), (1, .ref a), (2, .int (nI pos)), (3, .ref s), (4, .int (nI 32))] [] u8 0 0 _
  refine ST.lift (fun _ _ k => T_aload_n (v := .ref 62) d_Kit_expandBy_26 rfl (Or.inr ⟨_, rfl⟩) k) ?_
  refine S_getfield d_Kit_expandBy_27 fg_Kit_19 (w62 _) rfl ?_
  refine ST.lift (fun _ _ k => T_aload_n (v := .ref 62) d_Kit_expandBy_30 rfl (Or.inr ⟨_, rfl⟩) k) ?_
  refine S_getfield d_Kit_expandBy_31 fg_Kit_54 (w62 _) rfl ?_
  refine ST.lift (fun _ _ k => T_aload_n (v := .ref 62) d_Kit_expandBy_34 rfl (Or.inr ⟨_, rfl⟩) k) ?_
  refine S_getfield d_Kit_expandBy_35 fg_Kit_87 (w62 _) rfl ?_
  refine ST.lift (fun _ _ k => T_aload_n (v := .ref 62) d_Kit_expandBy_38 rfl (Or.inr ⟨_, rfl⟩) k) ?_
  refine S_getfield d_Kit_expandBy_39 fg_Kit_51 (w62 _) rfl ?_
  refine ST.lift (fun _ _ k => T_iload d_Kit_expandBy_42 rfl k) ?_
  refine S_virtual (as := [.ref 200, .ref 215, .ref 199, .int (nI 32)]) (rest := []) (b := 66) d_Kit_expandBy_44 rfl (jw_Key_expand.jo (by decide)) lm_Kit_182 ji_Key_expand js_Key_expand (w66 _) rfl rfl rfl (Nat.le_of_ble_eq_true rfl) (by decide) (by decide) (c_Key_expand_32 G u8 200 64 (by decide) a200 (by omega) 215 216 150 7 ⟨w215, a216, by decide, u215_1, by decide, by decide⟩ 199 64 (by decide) a199 (by omega) (by omega) (by omega) hv9) (fun r u12 hq => ?_)
  obtain ⟨hr, hv13, hm14⟩ := hq
  rw [hr]
  clear hr r
  have hm15 := hm11.go hm14 (by intro i hi; simp only [List.mem_cons, List.not_mem_nil, or_false] at hi ⊢ <;> omega)
  show ST G mi_Kit_expandBy 47 [(0, .ref 62), (1, .ref a), (2, .int (nI pos)), (3, .ref s), (4, .int (nI 32))] [] u12 0 0 _
  exact S_vret d_Kit_expandBy_47 rfl (by decide) (by decide) (hQ _ hv13 hm15)
set_option maxRecDepth 100000 in
set_option maxHeartbeats 4000000 in
theorem c_Kit_expandBy_64 (G : GX) (v : Nat → Int32) (a ma : Nat) (w_a : K0 ≤ a) (a_a : aB a ma) (l_a : ma ≤ 2000) (pos : Nat) (b_pos : pos ≤ 1000) (s sd sn : Nat) (t_s : isSt s sd sn) (hv : okv v) : CS G mi_Kit_expandBy [.ref 62, .ref a, .int (nI pos), .ref s, .int (nI 64)] v (fun r v' => r = none ∧ okv v' ∧ mdf [7, 2, 3] v v') := by
  refine CS.of (by decide) (Nat.le_of_ble_eq_true rfl) ?_
  generalize hQe : (fun (r : Option Value) (v' : Nat → Int32) => r = none ∧ okv v' ∧ mdf [7, 2, 3] v v') = Q
  have hQ : ∀ u, okv u → mdf [7, 2, 3] v u → Q none u := by rw [← hQe]; exact fun u h1 h2 => ⟨rfl, h1, h2⟩
  clear hQe
  have hm : mdf [7, 2, 3] v v := mdf.rf
  have l_s := t_s.2.2.2.2
  show ST G mi_Kit_expandBy 0 [(0, .ref 62), (1, .ref a), (2, .int (nI pos)), (3, .ref s), (4, .int (nI 64))] [] v 0 0 Q
  refine ST.lift (fun _ _ k => T_aload_n (v := .ref 62) d_Kit_expandBy_0 rfl (Or.inr ⟨_, rfl⟩) k) ?_
  refine S_getfield d_Kit_expandBy_1 fg_Kit_87 (w62 _) rfl ?_
  refine S_virtual (as := []) (rest := []) (b := 215) d_Kit_expandBy_4 rfl (jw_By_clear.jo (by decide)) lm_Kit_97 ji_By_clear js_By_clear (w215 _) rfl rfl rfl (Nat.le_of_ble_eq_true rfl) (by decide) (by decide) (c_By_clear G v 215 216 150 7 ⟨w215, a216, by decide, u215_1, by decide, by decide⟩ hv) (fun r v' hq => ?_)
  rw [hq.1, hq.2]
  clear hq r v'
  show ST G mi_Kit_expandBy 7 [(0, .ref 62), (1, .ref a), (2, .int (nI pos)), (3, .ref s), (4, .int (nI 64))] [] (va_up v 7 (nI 0)) 0 0 _
  have hv2 := hv.up (j := 7) (c := 150) (k := 0) (by decide) (by omega)
  have hm3 := hm.go (mdf.up (v := v) (j := 7) (x := (nI 0))) (by intro i hi; simp only [List.mem_cons, List.not_mem_nil, or_false] at hi ⊢ <;> omega)
  have e_u1 : (va_up v 7 (nI 0)) 7 = (nI 0) := by simp [va_up]
  generalize va_up v 7 (nI 0) = u1 at hv2 hm3 e_u1 ⊢
  refine ST.lift (fun _ _ k => T_aload_n (v := .ref 62) d_Kit_expandBy_7 rfl (Or.inr ⟨_, rfl⟩) k) ?_
  refine S_getfield d_Kit_expandBy_8 fg_Kit_87 (w62 _) rfl ?_
  refine ST.lift (fun _ _ k => T_aload_n (v := .ref a) d_Kit_expandBy_11 rfl (Or.inr ⟨_, rfl⟩) k) ?_
  refine ST.lift (fun _ _ k => T_iload_n d_Kit_expandBy_12 rfl k) ?_
  refine ST.lift (fun _ _ k => T_bipush (v := nI 32) d_Kit_expandBy_13 (by decide) k) ?_
  refine S_virtual (as := [.ref a, .int (nI pos), .int (nI 32)]) (rest := []) (b := 215) d_Kit_expandBy_15 rfl (jw_By_put.jo (by decide)) lm_Kit_122 ji_By_put js_By_put (w215 _) rfl rfl rfl (Nat.le_of_ble_eq_true rfl) (by decide) (by decide) (c_By_put G u1 215 216 150 7 ⟨w215, a216, by decide, u215_1, by decide, by decide⟩ a ma w_a a_a (by omega) pos (by omega) 32 (by omega) hv2) (fun r u4 hq => ?_)
  obtain ⟨hr, hv5, hm6⟩ := hq
  rw [hr]
  clear hr r
  have hm7 := hm3.go hm6 (by intro i hi; simp only [List.mem_cons, List.not_mem_nil, or_false] at hi ⊢ <;> omega)
  show ST G mi_Kit_expandBy 18 [(0, .ref 62), (1, .ref a), (2, .int (nI pos)), (3, .ref s), (4, .int (nI 64))] [] u4 0 0 _
  refine ST.lift (fun _ _ k => T_aload_n (v := .ref 62) d_Kit_expandBy_18 rfl (Or.inr ⟨_, rfl⟩) k) ?_
  refine S_getfield d_Kit_expandBy_19 fg_Kit_87 (w62 _) rfl ?_
  refine ST.lift (fun _ _ k => T_aload_n (v := .ref s) d_Kit_expandBy_22 rfl (Or.inr ⟨_, rfl⟩) k) ?_
  refine S_virtual (as := [.ref s]) (rest := []) (b := 215) d_Kit_expandBy_23 rfl (jw_By_putText.jo (by decide)) lm_Kit_102 ji_By_putText js_By_putText (w215 _) rfl rfl rfl (Nat.le_of_ble_eq_true rfl) (by decide) (by decide) (c_By_putText G u4 215 216 150 7 ⟨w215, a216, by decide, u215_1, by decide, by decide⟩ s sd sn t_s hv5) (fun r u8 hq => ?_)
  obtain ⟨hr, hv9, hm10⟩ := hq
  rw [hr]
  clear hr r
  have hm11 := hm7.go hm10 (by intro i hi; simp only [List.mem_cons, List.not_mem_nil, or_false] at hi ⊢ <;> omega)
  show ST G mi_Kit_expandBy 26 [(0, .ref 62), (1, .ref a), (2, .int (nI pos)), (3, .ref s), (4, .int (nI 64))] [] u8 0 0 _
  refine ST.lift (fun _ _ k => T_aload_n (v := .ref 62) d_Kit_expandBy_26 rfl (Or.inr ⟨_, rfl⟩) k) ?_
  refine S_getfield d_Kit_expandBy_27 fg_Kit_19 (w62 _) rfl ?_
  refine ST.lift (fun _ _ k => T_aload_n (v := .ref 62) d_Kit_expandBy_30 rfl (Or.inr ⟨_, rfl⟩) k) ?_
  refine S_getfield d_Kit_expandBy_31 fg_Kit_54 (w62 _) rfl ?_
  refine ST.lift (fun _ _ k => T_aload_n (v := .ref 62) d_Kit_expandBy_34 rfl (Or.inr ⟨_, rfl⟩) k) ?_
  refine S_getfield d_Kit_expandBy_35 fg_Kit_87 (w62 _) rfl ?_
  refine ST.lift (fun _ _ k => T_aload_n (v := .ref 62) d_Kit_expandBy_38 rfl (Or.inr ⟨_, rfl⟩) k) ?_
  refine S_getfield d_Kit_expandBy_39 fg_Kit_51 (w62 _) rfl ?_
  refine ST.lift (fun _ _ k => T_iload d_Kit_expandBy_42 rfl k) ?_
  refine S_virtual (as := [.ref 200, .ref 215, .ref 199, .int (nI 64)]) (rest := []) (b := 66) d_Kit_expandBy_44 rfl (jw_Key_expand.jo (by decide)) lm_Kit_182 ji_Key_expand js_Key_expand (w66 _) rfl rfl rfl (Nat.le_of_ble_eq_true rfl) (by decide) (by decide) (c_Key_expand_64 G u8 200 64 (by decide) a200 (by omega) 215 216 150 7 ⟨w215, a216, by decide, u215_1, by decide, by decide⟩ 199 64 (by decide) a199 (by omega) (by omega) (by omega) hv9) (fun r u12 hq => ?_)
  obtain ⟨hr, hv13, hm14⟩ := hq
  rw [hr]
  clear hr r
  have hm15 := hm11.go hm14 (by intro i hi; simp only [List.mem_cons, List.not_mem_nil, or_false] at hi ⊢ <;> omega)
  show ST G mi_Kit_expandBy 47 [(0, .ref 62), (1, .ref a), (2, .int (nI pos)), (3, .ref s), (4, .int (nI 64))] [] u12 0 0 _
  exact S_vret d_Kit_expandBy_47 rfl (by decide) (by decide) (hQ _ hv13 hm15)
set_option maxRecDepth 100000 in
set_option maxHeartbeats 4000000 in
theorem c_Kit_sealEnvelope (G : GX) (v : Nat → Int32) (a ma : Nat) (w_a : K0 ≤ a) (a_a : aB a ma) (l_a : ma ≤ 2000) (pos : Nat) (b_pos : pos ≤ 1000) (sp ms : Nat) (w_sp : K0 ≤ sp) (a_sp : aB sp ms) (l_sp : ms ≤ 2000) (hv : okv v) : CS G mi_Kit_sealEnvelope [.ref 62, .ref a, .int (nI pos), .ref sp] v (fun r v' => r = none ∧ okv v' ∧ mdf [6, 7, 2, 3, 5] v v') := by
  refine CS.of (by decide) (Nat.le_of_ble_eq_true rfl) ?_
  generalize hQe : (fun (r : Option Value) (v' : Nat → Int32) => r = none ∧ okv v' ∧ mdf [6, 7, 2, 3, 5] v v') = Q
  have hQ : ∀ u, okv u → mdf [6, 7, 2, 3, 5] v u → Q none u := by rw [← hQe]; exact fun u h1 h2 => ⟨rfl, h1, h2⟩
  clear hQe
  have hm : mdf [6, 7, 2, 3, 5] v v := mdf.rf
  show ST G mi_Kit_sealEnvelope 0 [(0, .ref 62), (1, .ref a), (2, .int (nI pos)), (3, .ref sp)] [] v 0 0 Q
  refine ST.lift (fun _ _ k => T_aload_n (v := .ref 62) d_Kit_sealEnvelope_0 rfl (Or.inr ⟨_, rfl⟩) k) ?_
  refine ST.lift (fun _ _ k => T_aload_n (v := .ref a) d_Kit_sealEnvelope_1 rfl (Or.inr ⟨_, rfl⟩) k) ?_
  refine ST.lift (fun _ _ k => T_iload_n d_Kit_sealEnvelope_2 rfl k) ?_
  refine ST.lift (fun _ _ k => T_ldcS (q := scl.getD 11 ("", 0, "", 0)) d_Kit_sealEnvelope_3 (List.mem_of_getElem? (i := 11) rfl) rfl rfl (by decide) k) ?_
  refine ST.lift (fun _ _ k => T_bipush (v := nI 32) d_Kit_sealEnvelope_5 (by decide) k) ?_
  refine S_virtual (as := [.ref a, .int (nI pos), .ref 36, .int (nI 32)]) (rest := []) (b := 62) d_Kit_sealEnvelope_7 rfl (jw_Kit_expandBy.jo (by decide)) lm_Kit_188 ji_Kit_expandBy js_Kit_expandBy (w62 _) rfl rfl rfl (Nat.le_of_ble_eq_true rfl) (by decide) (by decide) (c_Kit_expandBy_32 G v a ma w_a a_a (by omega) pos (by omega) 36 37 10 ⟨w36, a37, by decide, by decide, by decide⟩ hv) (fun r u1 hq => ?_)
  obtain ⟨hr, hv2, hm3⟩ := hq
  rw [hr]
  clear hr r
  have hm4 := hm.go hm3 (by intro i hi; simp only [List.mem_cons, List.not_mem_nil, or_false] at hi ⊢ <;> omega)
  show ST G mi_Kit_sealEnvelope 10 [(0, .ref 62), (1, .ref a), (2, .int (nI pos)), (3, .ref sp)] [] u1 0 0 _
  refine ST.lift (fun _ _ k => T_aload_n (v := .ref 62) d_Kit_sealEnvelope_10 rfl (Or.inr ⟨_, rfl⟩) k) ?_
  refine ST.lift (fun _ _ k => T_aload_n (v := .ref 62) d_Kit_sealEnvelope_11 rfl (Or.inr ⟨_, rfl⟩) k) ?_
  refine S_getfield d_Kit_sealEnvelope_12 fg_Kit_51 (w62 _) rfl ?_
  refine ST.lift (fun _ _ k => T_ldcS (q := scl.getD 12 ("", 0, "", 0)) d_Kit_sealEnvelope_15 (List.mem_of_getElem? (i := 12) rfl) rfl rfl (by decide) k) ?_
  refine ST.lift (fun _ _ k => T_aload_n (v := .ref 62) d_Kit_sealEnvelope_17 rfl (Or.inr ⟨_, rfl⟩) k) ?_
  refine S_getfield d_Kit_sealEnvelope_18 fg_Kit_60 (w62 _) rfl ?_
  refine S_virtual (as := [.ref 199, .ref 38, .ref 202]) (rest := []) (b := 62) d_Kit_sealEnvelope_21 rfl (jw_Kit_keyOf.jo (by decide)) lm_Kit_194 ji_Kit_keyOf js_Kit_keyOf (w62 _) rfl rfl rfl (Nat.le_of_ble_eq_true rfl) (by decide) (by decide) (c_Kit_keyOf G u1 199 64 (by decide) a199 (by omega) 38 39 33 ⟨w38, a39, by decide, by decide, by decide⟩ 202 32 (by decide) a202 (by omega) (by omega) hv2) (fun r u5 hq => ?_)
  obtain ⟨hr, hv6, hm7⟩ := hq
  rw [hr]
  clear hr r
  have hm8 := hm4.go hm7 (by intro i hi; simp only [List.mem_cons, List.not_mem_nil, or_false] at hi ⊢ <;> omega)
  show ST G mi_Kit_sealEnvelope 24 [(0, .ref 62), (1, .ref a), (2, .int (nI pos)), (3, .ref sp)] [] u5 0 0 _
  refine ST.lift (fun _ _ k => T_aload_n (v := .ref 62) d_Kit_sealEnvelope_24 rfl (Or.inr ⟨_, rfl⟩) k) ?_
  refine S_getfield d_Kit_sealEnvelope_25 fg_Kit_68 (w62 _) rfl ?_
  refine S_virtual (as := []) (rest := []) (b := 203) d_Kit_sealEnvelope_28 rfl (jw_By_clear.jo (by decide)) lm_Kit_97 ji_By_clear js_By_clear (w203 _) rfl rfl rfl (Nat.le_of_ble_eq_true rfl) (by decide) (by decide) (c_By_clear G u5 203 204 32 5 ⟨w203, a204, by decide, u203_1, by decide, by decide⟩ hv6) (fun r v' hq => ?_)
  rw [hq.1, hq.2]
  clear hq r v'
  show ST G mi_Kit_sealEnvelope 31 [(0, .ref 62), (1, .ref a), (2, .int (nI pos)), (3, .ref sp)] [] (va_up u5 5 (nI 0)) 0 0 _
  have hv10 := hv6.up (j := 5) (c := 32) (k := 0) (by decide) (by omega)
  have hm11 := hm8.go (mdf.up (v := u5) (j := 5) (x := (nI 0))) (by intro i hi; simp only [List.mem_cons, List.not_mem_nil, or_false] at hi ⊢ <;> omega)
  have e_u9 : (va_up u5 5 (nI 0)) 5 = (nI 0) := by simp [va_up]
  generalize va_up u5 5 (nI 0) = u9 at hv10 hm11 e_u9 ⊢
  refine ST.lift (fun _ _ k => T_aload_n (v := .ref 62) d_Kit_sealEnvelope_31 rfl (Or.inr ⟨_, rfl⟩) k) ?_
  refine ST.lift (fun _ _ k => T_aload_n (v := .ref 62) d_Kit_sealEnvelope_32 rfl (Or.inr ⟨_, rfl⟩) k) ?_
  refine S_getfield d_Kit_sealEnvelope_33 fg_Kit_60 (w62 _) rfl ?_
  refine ST.lift (fun _ _ k => T_aload_n (v := .ref 62) d_Kit_sealEnvelope_36 rfl (Or.inr ⟨_, rfl⟩) k) ?_
  refine S_getfield d_Kit_sealEnvelope_37 fg_Kit_68 (w62 _) rfl ?_
  refine S_virtual (as := [.ref 202, .ref 203]) (rest := []) (b := 62) d_Kit_sealEnvelope_40 rfl (jw_Kit_putPublic.jo (by decide)) lm_Kit_198 ji_Kit_putPublic js_Kit_putPublic (w62 _) rfl rfl rfl (Nat.le_of_ble_eq_true rfl) (by decide) (by decide) (c_Kit_putPublic G u9 202 32 (by decide) a202 (by omega) 203 204 32 5 ⟨w203, a204, by decide, u203_1, by decide, by decide⟩ (by omega) hv10) (fun r u12 hq => ?_)
  obtain ⟨hr, hv13, hm14⟩ := hq
  rw [hr]
  clear hr r
  have hm15 := hm11.go hm14 (by intro i hi; simp only [List.mem_cons, List.not_mem_nil, or_false] at hi ⊢ <;> omega)
  show ST G mi_Kit_sealEnvelope 43 [(0, .ref 62), (1, .ref a), (2, .int (nI pos)), (3, .ref sp)] [] u12 0 0 _
  refine ST.lift (fun _ _ k => T_aload_n (v := .ref 62) d_Kit_sealEnvelope_43 rfl (Or.inr ⟨_, rfl⟩) k) ?_
  refine ST.lift (fun _ _ k => T_aload_n (v := .ref a) d_Kit_sealEnvelope_44 rfl (Or.inr ⟨_, rfl⟩) k) ?_
  refine ST.lift (fun _ _ k => T_iload_n d_Kit_sealEnvelope_45 rfl k) ?_
  refine ST.lift (fun _ _ k => T_ldcS (q := scl.getD 13 ("", 0, "", 0)) d_Kit_sealEnvelope_46 (List.mem_of_getElem? (i := 13) rfl) rfl rfl (by decide) k) ?_
  refine ST.lift (fun _ _ k => T_bipush (v := nI 64) d_Kit_sealEnvelope_48 (by decide) k) ?_
  refine S_virtual (as := [.ref a, .int (nI pos), .ref 40, .int (nI 64)]) (rest := []) (b := 62) d_Kit_sealEnvelope_50 rfl (jw_Kit_expandBy.jo (by decide)) lm_Kit_188 ji_Kit_expandBy js_Kit_expandBy (w62 _) rfl rfl rfl (Nat.le_of_ble_eq_true rfl) (by decide) (by decide) (c_Kit_expandBy_64 G u12 a ma w_a a_a (by omega) pos (by omega) 40 41 9 ⟨w40, a41, by decide, by decide, by decide⟩ hv13) (fun r u16 hq => ?_)
  obtain ⟨hr, hv17, hm18⟩ := hq
  rw [hr]
  clear hr r
  have hm19 := hm15.go hm18 (by intro i hi; simp only [List.mem_cons, List.not_mem_nil, or_false] at hi ⊢ <;> omega)
  show ST G mi_Kit_sealEnvelope 53 [(0, .ref 62), (1, .ref a), (2, .int (nI pos)), (3, .ref sp)] [] u16 0 0 _
  refine ST.lift (fun _ _ k => T_aload_n (v := .ref 62) d_Kit_sealEnvelope_53 rfl (Or.inr ⟨_, rfl⟩) k) ?_
  refine S_getfield d_Kit_sealEnvelope_54 fg_Kit_51 (w62 _) rfl ?_
  refine ST.lift (fun _ _ k => T_iconst (v := nI 0) d_Kit_sealEnvelope_57 (by decide) k) ?_
  refine ST.lift (fun _ _ k => T_aload_n (v := .ref 62) d_Kit_sealEnvelope_58 rfl (Or.inr ⟨_, rfl⟩) k) ?_
  refine S_getfield d_Kit_sealEnvelope_59 fg_Kit_75 (w62 _) rfl ?_
  refine ST.lift (fun _ _ k => T_iconst (v := nI 0) d_Kit_sealEnvelope_62 (by decide) k) ?_
  refine ST.lift (fun _ _ k => T_bipush (v := nI 64) d_Kit_sealEnvelope_63 (by decide) k) ?_
  refine S_copyB d_Kit_sealEnvelope_65 lm_Kit_204 (by decide) (by decide) a199 a206 (by omega) (by omega) (by omega) (by omega) (by omega) (by decide) (Nat.le_of_ble_eq_true rfl) ?_
  refine ST.lift (fun _ _ k => T_aload_n (v := .ref 62) d_Kit_sealEnvelope_68 rfl (Or.inr ⟨_, rfl⟩) k) ?_
  refine ST.lift (fun _ _ k => T_aload_n (v := .ref a) d_Kit_sealEnvelope_69 rfl (Or.inr ⟨_, rfl⟩) k) ?_
  refine ST.lift (fun _ _ k => T_iload_n d_Kit_sealEnvelope_70 rfl k) ?_
  refine ST.lift (fun _ _ k => T_ldcS (q := scl.getD 14 ("", 0, "", 0)) d_Kit_sealEnvelope_71 (List.mem_of_getElem? (i := 14) rfl) rfl rfl (by decide) k) ?_
  refine ST.lift (fun _ _ k => T_bipush (v := nI 64) d_Kit_sealEnvelope_73 (by decide) k) ?_
  refine S_virtual (as := [.ref a, .int (nI pos), .ref 42, .int (nI 64)]) (rest := []) (b := 62) d_Kit_sealEnvelope_75 rfl (jw_Kit_expandBy.jo (by decide)) lm_Kit_188 ji_Kit_expandBy js_Kit_expandBy (w62 _) rfl rfl rfl (Nat.le_of_ble_eq_true rfl) (by decide) (by decide) (c_Kit_expandBy_64 G u16 a ma w_a a_a (by omega) pos (by omega) 42 43 7 ⟨w42, a43, by decide, by decide, by decide⟩ hv17) (fun r u20 hq => ?_)
  obtain ⟨hr, hv21, hm22⟩ := hq
  rw [hr]
  clear hr r
  have hm23 := hm19.go hm22 (by intro i hi; simp only [List.mem_cons, List.not_mem_nil, or_false] at hi ⊢ <;> omega)
  show ST G mi_Kit_sealEnvelope 78 [(0, .ref 62), (1, .ref a), (2, .int (nI pos)), (3, .ref sp)] [] u20 0 0 _
  refine ST.lift (fun _ _ k => T_aload_n (v := .ref 62) d_Kit_sealEnvelope_78 rfl (Or.inr ⟨_, rfl⟩) k) ?_
  refine S_getfield d_Kit_sealEnvelope_79 fg_Kit_84 (w62 _) rfl ?_
  refine S_virtual (as := []) (rest := []) (b := 213) d_Kit_sealEnvelope_82 rfl (jw_By_clear.jo (by decide)) lm_Kit_97 ji_By_clear js_By_clear (w213 _) rfl rfl rfl (Nat.le_of_ble_eq_true rfl) (by decide) (by decide) (c_By_clear G u20 213 214 400 6 ⟨w213, a214, by decide, u213_1, by decide, by decide⟩ hv21) (fun r v' hq => ?_)
  rw [hq.1, hq.2]
  clear hq r v'
  show ST G mi_Kit_sealEnvelope 85 [(0, .ref 62), (1, .ref a), (2, .int (nI pos)), (3, .ref sp)] [] (va_up u20 6 (nI 0)) 0 0 _
  have hv25 := hv21.up (j := 6) (c := 400) (k := 0) (by decide) (by omega)
  have hm26 := hm23.go (mdf.up (v := u20) (j := 6) (x := (nI 0))) (by intro i hi; simp only [List.mem_cons, List.not_mem_nil, or_false] at hi ⊢ <;> omega)
  have e_u24 : (va_up u20 6 (nI 0)) 6 = (nI 0) := by simp [va_up]
  generalize va_up u20 6 (nI 0) = u24 at hv25 hm26 e_u24 ⊢
  refine ST.lift (fun _ _ k => T_aload_n (v := .ref 62) d_Kit_sealEnvelope_85 rfl (Or.inr ⟨_, rfl⟩) k) ?_
  refine S_getfield d_Kit_sealEnvelope_86 fg_Kit_84 (w62 _) rfl ?_
  refine ST.lift (fun _ _ k => T_aload_n (v := .ref a) d_Kit_sealEnvelope_89 rfl (Or.inr ⟨_, rfl⟩) k) ?_
  refine ST.lift (fun _ _ k => T_iload_n d_Kit_sealEnvelope_90 rfl k) ?_
  refine ST.lift (fun _ _ k => T_bipush (v := nI 32) d_Kit_sealEnvelope_91 (by decide) k) ?_
  refine S_virtual (as := [.ref a, .int (nI pos), .int (nI 32)]) (rest := []) (b := 213) d_Kit_sealEnvelope_93 rfl (jw_By_put.jo (by decide)) lm_Kit_122 ji_By_put js_By_put (w213 _) rfl rfl rfl (Nat.le_of_ble_eq_true rfl) (by decide) (by decide) (c_By_put G u24 213 214 400 6 ⟨w213, a214, by decide, u213_1, by decide, by decide⟩ a ma w_a a_a (by omega) pos (by omega) 32 (by omega) hv25) (fun r u27 hq => ?_)
  obtain ⟨hr, hv28, hm29⟩ := hq
  rw [hr]
  clear hr r
  have hm30 := hm26.go hm29 (by intro i hi; simp only [List.mem_cons, List.not_mem_nil, or_false] at hi ⊢ <;> omega)
  show ST G mi_Kit_sealEnvelope 96 [(0, .ref 62), (1, .ref a), (2, .int (nI pos)), (3, .ref sp)] [] u27 0 0 _
  refine ST.lift (fun _ _ k => T_aload_n (v := .ref 62) d_Kit_sealEnvelope_96 rfl (Or.inr ⟨_, rfl⟩) k) ?_
  refine S_getfield d_Kit_sealEnvelope_97 fg_Kit_84 (w62 _) rfl ?_
  refine ST.lift (fun _ _ k => T_aload_n (v := .ref sp) d_Kit_sealEnvelope_100 rfl (Or.inr ⟨_, rfl⟩) k) ?_
  refine ST.lift (fun _ _ k => T_iconst (v := nI 0) d_Kit_sealEnvelope_101 (by decide) k) ?_
  refine ST.lift (fun _ _ k => T_bipush (v := nI 32) d_Kit_sealEnvelope_102 (by decide) k) ?_
  refine S_virtual (as := [.ref sp, .int (nI 0), .int (nI 32)]) (rest := []) (b := 213) d_Kit_sealEnvelope_104 rfl (jw_By_put.jo (by decide)) lm_Kit_122 ji_By_put js_By_put (w213 _) rfl rfl rfl (Nat.le_of_ble_eq_true rfl) (by decide) (by decide) (c_By_put G u27 213 214 400 6 ⟨w213, a214, by decide, u213_1, by decide, by decide⟩ sp ms w_sp a_sp (by omega) 0 (by omega) 32 (by omega) hv28) (fun r u31 hq => ?_)
  obtain ⟨hr, hv32, hm33⟩ := hq
  rw [hr]
  clear hr r
  have hm34 := hm30.go hm33 (by intro i hi; simp only [List.mem_cons, List.not_mem_nil, or_false] at hi ⊢ <;> omega)
  show ST G mi_Kit_sealEnvelope 107 [(0, .ref 62), (1, .ref a), (2, .int (nI pos)), (3, .ref sp)] [] u31 0 0 _
  refine ST.lift (fun _ _ k => T_aload_n (v := .ref 62) d_Kit_sealEnvelope_107 rfl (Or.inr ⟨_, rfl⟩) k) ?_
  refine S_getfield d_Kit_sealEnvelope_108 fg_Kit_84 (w62 _) rfl ?_
  refine ST.lift (fun _ _ k => T_bipush (v := nI 32) d_Kit_sealEnvelope_111 (by decide) k) ?_
  refine ST.lift (fun _ _ k => T_iconst (v := nI 2) d_Kit_sealEnvelope_113 (by decide) k) ?_
  refine S_virtual (as := [.int (nI 32), .int (nI 2)]) (rest := []) (b := 213) d_Kit_sealEnvelope_114 rfl (jw_By_putNumber.jo (by decide)) lm_Kit_106 ji_By_putNumber js_By_putNumber (w213 _) rfl rfl rfl (Nat.le_of_ble_eq_true rfl) (by decide) (by decide) (c_By_putNumber_2 G u31 213 214 400 6 ⟨w213, a214, by decide, u213_1, by decide, by decide⟩ (nI 32) hv32) (fun r u35 hq => ?_)
  obtain ⟨hr, hv36, hm37⟩ := hq
  rw [hr]
  clear hr r
  have hm38 := hm34.go hm37 (by intro i hi; simp only [List.mem_cons, List.not_mem_nil, or_false] at hi ⊢ <;> omega)
  show ST G mi_Kit_sealEnvelope 117 [(0, .ref 62), (1, .ref a), (2, .int (nI pos)), (3, .ref sp)] [] u35 0 0 _
  refine ST.lift (fun _ _ k => T_aload_n (v := .ref 62) d_Kit_sealEnvelope_117 rfl (Or.inr ⟨_, rfl⟩) k) ?_
  refine S_getfield d_Kit_sealEnvelope_118 fg_Kit_84 (w62 _) rfl ?_
  refine ST.lift (fun _ _ k => T_aload_n (v := .ref sp) d_Kit_sealEnvelope_121 rfl (Or.inr ⟨_, rfl⟩) k) ?_
  refine ST.lift (fun _ _ k => T_iconst (v := nI 0) d_Kit_sealEnvelope_122 (by decide) k) ?_
  refine ST.lift (fun _ _ k => T_bipush (v := nI 32) d_Kit_sealEnvelope_123 (by decide) k) ?_
  refine S_virtual (as := [.ref sp, .int (nI 0), .int (nI 32)]) (rest := []) (b := 213) d_Kit_sealEnvelope_125 rfl (jw_By_put.jo (by decide)) lm_Kit_122 ji_By_put js_By_put (w213 _) rfl rfl rfl (Nat.le_of_ble_eq_true rfl) (by decide) (by decide) (c_By_put G u35 213 214 400 6 ⟨w213, a214, by decide, u213_1, by decide, by decide⟩ sp ms w_sp a_sp (by omega) 0 (by omega) 32 (by omega) hv36) (fun r u39 hq => ?_)
  obtain ⟨hr, hv40, hm41⟩ := hq
  rw [hr]
  clear hr r
  have hm42 := hm38.go hm41 (by intro i hi; simp only [List.mem_cons, List.not_mem_nil, or_false] at hi ⊢ <;> omega)
  show ST G mi_Kit_sealEnvelope 128 [(0, .ref 62), (1, .ref a), (2, .int (nI pos)), (3, .ref sp)] [] u39 0 0 _
  refine ST.lift (fun _ _ k => T_aload_n (v := .ref 62) d_Kit_sealEnvelope_128 rfl (Or.inr ⟨_, rfl⟩) k) ?_
  refine S_getfield d_Kit_sealEnvelope_129 fg_Kit_84 (w62 _) rfl ?_
  refine ST.lift (fun _ _ k => T_bipush (v := nI 32) d_Kit_sealEnvelope_132 (by decide) k) ?_
  refine ST.lift (fun _ _ k => T_iconst (v := nI 2) d_Kit_sealEnvelope_134 (by decide) k) ?_
  refine S_virtual (as := [.int (nI 32), .int (nI 2)]) (rest := []) (b := 213) d_Kit_sealEnvelope_135 rfl (jw_By_putNumber.jo (by decide)) lm_Kit_106 ji_By_putNumber js_By_putNumber (w213 _) rfl rfl rfl (Nat.le_of_ble_eq_true rfl) (by decide) (by decide) (c_By_putNumber_2 G u39 213 214 400 6 ⟨w213, a214, by decide, u213_1, by decide, by decide⟩ (nI 32) hv40) (fun r u43 hq => ?_)
  obtain ⟨hr, hv44, hm45⟩ := hq
  rw [hr]
  clear hr r
  have hm46 := hm42.go hm45 (by intro i hi; simp only [List.mem_cons, List.not_mem_nil, or_false] at hi ⊢ <;> omega)
  show ST G mi_Kit_sealEnvelope 138 [(0, .ref 62), (1, .ref a), (2, .int (nI pos)), (3, .ref sp)] [] u43 0 0 _
  refine ST.lift (fun _ _ k => T_aload_n (v := .ref 62) d_Kit_sealEnvelope_138 rfl (Or.inr ⟨_, rfl⟩) k) ?_
  refine S_getfield d_Kit_sealEnvelope_139 fg_Kit_84 (w62 _) rfl ?_
  refine ST.lift (fun _ _ k => T_aload_n (v := .ref 62) d_Kit_sealEnvelope_142 rfl (Or.inr ⟨_, rfl⟩) k) ?_
  refine S_getfield d_Kit_sealEnvelope_143 fg_Kit_68 (w62 _) rfl ?_
  refine S_virtual (as := [.ref 203]) (rest := []) (b := 213) d_Kit_sealEnvelope_146 rfl (jw_By_putAll.jo (by decide)) lm_Kit_133 ji_By_putAll js_By_putAll (w213 _) rfl rfl rfl (Nat.le_of_ble_eq_true rfl) (by decide) (by decide) (c_By_putAll G u43 213 214 400 6 ⟨w213, a214, by decide, u213_1, by decide, by decide⟩ 203 204 32 5 ⟨w203, a204, by decide, u203_1, by decide, by decide⟩ hv44) (fun r u47 hq => ?_)
  obtain ⟨hr, hv48, hm49⟩ := hq
  rw [hr]
  clear hr r
  have hm50 := hm46.go hm49 (by intro i hi; simp only [List.mem_cons, List.not_mem_nil, or_false] at hi ⊢ <;> omega)
  show ST G mi_Kit_sealEnvelope 149 [(0, .ref 62), (1, .ref a), (2, .int (nI pos)), (3, .ref sp)] [] u47 0 0 _
  refine ST.lift (fun _ _ k => T_aload_n (v := .ref 62) d_Kit_sealEnvelope_149 rfl (Or.inr ⟨_, rfl⟩) k) ?_
  refine S_getfield d_Kit_sealEnvelope_150 fg_Kit_19 (w62 _) rfl ?_
  refine ST.lift (fun _ _ k => T_aload_n (v := .ref 62) d_Kit_sealEnvelope_153 rfl (Or.inr ⟨_, rfl⟩) k) ?_
  refine S_getfield d_Kit_sealEnvelope_154 fg_Kit_51 (w62 _) rfl ?_
  refine ST.lift (fun _ _ k => T_aload_n (v := .ref 62) d_Kit_sealEnvelope_157 rfl (Or.inr ⟨_, rfl⟩) k) ?_
  refine S_getfield d_Kit_sealEnvelope_158 fg_Kit_84 (w62 _) rfl ?_
  refine ST.lift (fun _ _ k => T_aload_n (v := .ref 62) d_Kit_sealEnvelope_161 rfl (Or.inr ⟨_, rfl⟩) k) ?_
  refine S_getfield d_Kit_sealEnvelope_162 fg_Kit_72 (w62 _) rfl ?_
  refine S_virtual (as := [.ref 199, .ref 213, .ref 205]) (rest := []) (b := 66) d_Kit_sealEnvelope_165 rfl (jw_Key_mac.jo (by decide)) lm_Kit_212 ji_Key_mac js_Key_mac (w66 _) rfl rfl rfl (Nat.le_of_ble_eq_true rfl) (by decide) (by decide) (c_Key_mac G u47 199 64 (by decide) a199 (by omega) 213 214 400 6 ⟨w213, a214, by decide, u213_1, by decide, by decide⟩ 205 64 (by decide) a205 (by omega) (by omega) (by omega) hv48) (fun r u51 hq => ?_)
  obtain ⟨hr, hv52, hm53⟩ := hq
  rw [hr]
  clear hr r
  have hm54 := hm50.go hm53 (by intro i hi; simp only [List.mem_cons, List.not_mem_nil, or_false] at hi ⊢ <;> omega)
  show ST G mi_Kit_sealEnvelope 168 [(0, .ref 62), (1, .ref a), (2, .int (nI pos)), (3, .ref sp)] [] u51 0 0 _
  exact S_vret d_Kit_sealEnvelope_168 rfl (by decide) (by decide) (hQ _ hv52 hm54)
set_option maxRecDepth 100000 in
set_option maxHeartbeats 4000000 in
theorem c_Kit_putMasked (G : GX) (v : Nat → Int32) (key mk : Nat) (w_key : K0 ≤ key) (a_key : aB key mk) (l_key : mk ≤ 2000) (msg mm : Nat) (w_msg : K0 ≤ msg) (a_msg : aB msg mm) (l_msg : mm ≤ 2000) (src ms : Nat) (w_src : K0 ≤ src) (a_src : aB src ms) (l_src : ms ≤ 2000) (pos : Nat) (b_pos : pos + 128 ≤ ms) (b bd bc bj : Nat) (y_b : isBy b bd bc bj) (hk64 : 64 ≤ mk) (hv : okv v) : CS G mi_Kit_putMasked [.ref 62, .ref key, .ref msg, .ref src, .int (nI pos), .ref b] v (fun r v' => r = none ∧ okv v' ∧ mdf [7, 2, 3, bj] v v') := by
  refine CS.of (by decide) (Nat.le_of_ble_eq_true rfl) ?_
  generalize hQe : (fun (r : Option Value) (v' : Nat → Int32) => r = none ∧ okv v' ∧ mdf [7, 2, 3, bj] v v') = Q
  have hQ : ∀ u, okv u → mdf [7, 2, 3, bj] v u → Q none u := by rw [← hQe]; exact fun u h1 h2 => ⟨rfl, h1, h2⟩
  clear hQe
  have hm : mdf [7, 2, 3, bj] v v := mdf.rf
  have l_b := y_b.2.2.2.2.2
  show ST G mi_Kit_putMasked 0 [(0, .ref 62), (1, .ref key), (2, .ref msg), (3, .ref src), (4, .int (nI pos)), (5, .ref b)] [] v 0 0 Q
  refine ST.lift (fun _ _ k => T_aload_n (v := .ref 62) d_Kit_putMasked_0 rfl (Or.inr ⟨_, rfl⟩) k) ?_
  refine S_getfield d_Kit_putMasked_1 fg_Kit_87 (w62 _) rfl ?_
  refine S_virtual (as := []) (rest := []) (b := 215) d_Kit_putMasked_4 rfl (jw_By_clear.jo (by decide)) lm_Kit_97 ji_By_clear js_By_clear (w215 _) rfl rfl rfl (Nat.le_of_ble_eq_true rfl) (by decide) (by decide) (c_By_clear G v 215 216 150 7 ⟨w215, a216, by decide, u215_1, by decide, by decide⟩ hv) (fun r v' hq => ?_)
  rw [hq.1, hq.2]
  clear hq r v'
  show ST G mi_Kit_putMasked 7 [(0, .ref 62), (1, .ref key), (2, .ref msg), (3, .ref src), (4, .int (nI pos)), (5, .ref b)] [] (va_up v 7 (nI 0)) 0 0 _
  have hv2 := hv.up (j := 7) (c := 150) (k := 0) (by decide) (by omega)
  have hm3 := hm.go (mdf.up (v := v) (j := 7) (x := (nI 0))) (by intro i hi; simp only [List.mem_cons, List.not_mem_nil, or_false] at hi ⊢ <;> omega)
  have e_u1 : (va_up v 7 (nI 0)) 7 = (nI 0) := by simp [va_up]
  generalize va_up v 7 (nI 0) = u1 at hv2 hm3 e_u1 ⊢
  refine ST.lift (fun _ _ k => T_aload_n (v := .ref 62) d_Kit_putMasked_7 rfl (Or.inr ⟨_, rfl⟩) k) ?_
  refine S_getfield d_Kit_putMasked_8 fg_Kit_87 (w62 _) rfl ?_
  refine ST.lift (fun _ _ k => T_aload_n (v := .ref msg) d_Kit_putMasked_11 rfl (Or.inr ⟨_, rfl⟩) k) ?_
  refine ST.lift (fun _ _ k => T_bipush (v := nI 32) d_Kit_putMasked_12 (by decide) k) ?_
  refine ST.lift (fun _ _ k => T_bipush (v := nI 32) d_Kit_putMasked_14 (by decide) k) ?_
  refine S_virtual (as := [.ref msg, .int (nI 32), .int (nI 32)]) (rest := []) (b := 215) d_Kit_putMasked_16 rfl (jw_By_put.jo (by decide)) lm_Kit_122 ji_By_put js_By_put (w215 _) rfl rfl rfl (Nat.le_of_ble_eq_true rfl) (by decide) (by decide) (c_By_put G u1 215 216 150 7 ⟨w215, a216, by decide, u215_1, by decide, by decide⟩ msg mm w_msg a_msg (by omega) 32 (by omega) 32 (by omega) hv2) (fun r u4 hq => ?_)
  obtain ⟨hr, hv5, hm6⟩ := hq
  rw [hr]
  clear hr r
  have hm7 := hm3.go hm6 (by intro i hi; simp only [List.mem_cons, List.not_mem_nil, or_false] at hi ⊢ <;> omega)
  show ST G mi_Kit_putMasked 19 [(0, .ref 62), (1, .ref key), (2, .ref msg), (3, .ref src), (4, .int (nI pos)), (5, .ref b)] [] u4 0 0 _
  refine ST.lift (fun _ _ k => T_aload_n (v := .ref 62) d_Kit_putMasked_19 rfl (Or.inr ⟨_, rfl⟩) k) ?_
  refine S_getfield d_Kit_putMasked_20 fg_Kit_87 (w62 _) rfl ?_
  refine ST.lift (fun _ _ k => T_ldcS (q := scl.getD 15 ("", 0, "", 0)) d_Kit_putMasked_23 (List.mem_of_getElem? (i := 15) rfl) rfl rfl (by decide) k) ?_
  refine S_virtual (as := [.ref 44]) (rest := []) (b := 215) d_Kit_putMasked_25 rfl (jw_By_putText.jo (by decide)) lm_Kit_102 ji_By_putText js_By_putText (w215 _) rfl rfl rfl (Nat.le_of_ble_eq_true rfl) (by decide) (by decide) (c_By_putText G u4 215 216 150 7 ⟨w215, a216, by decide, u215_1, by decide, by decide⟩ 44 45 21 ⟨w44, a45, by decide, by decide, by decide⟩ hv5) (fun r u8 hq => ?_)
  obtain ⟨hr, hv9, hm10⟩ := hq
  rw [hr]
  clear hr r
  have hm11 := hm7.go hm10 (by intro i hi; simp only [List.mem_cons, List.not_mem_nil, or_false] at hi ⊢ <;> omega)
  show ST G mi_Kit_putMasked 28 [(0, .ref 62), (1, .ref key), (2, .ref msg), (3, .ref src), (4, .int (nI pos)), (5, .ref b)] [] u8 0 0 _
  refine ST.lift (fun _ _ k => T_aload_n (v := .ref 62) d_Kit_putMasked_28 rfl (Or.inr ⟨_, rfl⟩) k) ?_
  refine S_getfield d_Kit_putMasked_29 fg_Kit_19 (w62 _) rfl ?_
  refine ST.lift (fun _ _ k => T_aload_n (v := .ref key) d_Kit_putMasked_32 rfl (Or.inr ⟨_, rfl⟩) k) ?_
  refine ST.lift (fun _ _ k => T_aload_n (v := .ref 62) d_Kit_putMasked_33 rfl (Or.inr ⟨_, rfl⟩) k) ?_
  refine S_getfield d_Kit_putMasked_34 fg_Kit_87 (w62 _) rfl ?_
  refine ST.lift (fun _ _ k => T_aload_n (v := .ref 62) d_Kit_putMasked_37 rfl (Or.inr ⟨_, rfl⟩) k) ?_
  refine S_getfield d_Kit_putMasked_38 fg_Kit_81 (w62 _) rfl ?_
  refine ST.lift (fun _ _ k => T_sipush (v := nI 128) d_Kit_putMasked_41 (by decide) k) ?_
  refine S_virtual (as := [.ref key, .ref 215, .ref 212, .int (nI 128)]) (rest := []) (b := 66) d_Kit_putMasked_44 rfl (jw_Key_expand.jo (by decide)) lm_Kit_182 ji_Key_expand js_Key_expand (w66 _) rfl rfl rfl (Nat.le_of_ble_eq_true rfl) (by decide) (by decide) (c_Key_expand_128 G u8 key mk w_key a_key (by omega) 215 216 150 7 ⟨w215, a216, by decide, u215_1, by decide, by decide⟩ 212 128 (by decide) a212 (by omega) (by omega) (by omega) hv9) (fun r u12 hq => ?_)
  obtain ⟨hr, hv13, hm14⟩ := hq
  rw [hr]
  clear hr r
  have hm15 := hm11.go hm14 (by intro i hi; simp only [List.mem_cons, List.not_mem_nil, or_false] at hi ⊢ <;> omega)
  show ST G mi_Kit_putMasked 47 [(0, .ref 62), (1, .ref key), (2, .ref msg), (3, .ref src), (4, .int (nI pos)), (5, .ref b)] [] u12 0 0 _
  refine ST.lift (fun _ _ k => T_iconst (v := nI 0) d_Kit_putMasked_47 (by decide) k) ?_
  refine ST.lift (fun _ _ k => T_istore (L' := [(6, .int (nI 0)), (0, .ref 62), (1, .ref key), (2, .ref msg), (3, .ref src), (4, .int (nI pos)), (5, .ref b)]) d_Kit_putMasked_48 (by decide) rfl k) ?_
  have lp20 : ∀ (n18 k16 : Nat) (u17 : Nat → Int32) (hv_u17 : okv u17) (hm_u17 : mdf [7, 2, 3, bj] v u17), 128 - k16 = n18 → 0 ≤ k16 ∧ k16 ≤ 0 + 128 → ST G mi_Kit_putMasked 50 [(6, .int (nI k16)), (0, .ref 62), (1, .ref key), (2, .ref msg), (3, .ref src), (4, .int (nI pos)), (5, .ref b)] [] u17 0 0 Q := by
    intro n18
    induction n18 using Nat.strongRecOn with
    | _ n18 ih19 =>
      intro k16 u17 hv_u17 hm_u17 h21 h22
      refine ST.lift (fun _ _ k => T_iload d_Kit_putMasked_50 rfl k) ?_
      refine ST.lift (fun _ _ k => T_sipush (v := nI 128) d_Kit_putMasked_52 (by decide) k) ?_
      refine S_icmp_geN d_Kit_putMasked_55 rfl (by omega) (by omega) (fun c23 => ?_) (fun c23 => ?_)
      · exact S_vret d_Kit_putMasked_84 rfl (by decide) (by decide) (hQ _ hv_u17 hm_u17)
      · refine ST.lift (fun _ _ k => T_aload (v := .ref b) d_Kit_putMasked_58 rfl (Or.inr ⟨_, rfl⟩) k) ?_
        refine ST.lift (fun _ _ k => T_aload_n (v := .ref src) d_Kit_putMasked_60 rfl (Or.inr ⟨_, rfl⟩) k) ?_
        refine ST.lift (fun _ _ k => T_iload d_Kit_putMasked_61 rfl k) ?_
        refine ST.lift (fun _ _ k => T_iload d_Kit_putMasked_63 rfl k) ?_
        refine S_iaddN d_Kit_putMasked_65 ?_
        refine S_baload d_Kit_putMasked_66 a_src (vp_in_nI (by omega) (by omega)) (fun z24 hz24 => ?_)
        refine ST.lift (fun _ _ k => T_aload_n (v := .ref 62) d_Kit_putMasked_67 rfl (Or.inr ⟨_, rfl⟩) k) ?_
        refine S_getfield d_Kit_putMasked_68 fg_Kit_81 (w62 _) rfl ?_
        refine ST.lift (fun _ _ k => T_iload d_Kit_putMasked_71 rfl k) ?_
        refine S_baload d_Kit_putMasked_73 a212 (vp_in_nI (by omega) (by omega)) (fun z25 hz25 => ?_)
        refine ST.lift (fun _ _ k => T_ixor d_Kit_putMasked_74 k) (S_anyi fun z26 => ?_)
        refine S_virtual (as := [.int z26]) (rest := []) (b := b) d_Kit_putMasked_75 rfl (jw_By_putByte.jo (by decide)) lm_Kit_137 ji_By_putByte js_By_putByte (y_b.1 _) rfl rfl rfl (Nat.le_of_ble_eq_true rfl) (by decide) (by decide) (c_By_putByte G u17 b bd bc bj y_b z26 hv_u17) (fun r u27 hq => ?_)
        obtain ⟨hr, hv28, hm29⟩ := hq
        rw [hr]
        clear hr r
        have hm30 := hm_u17.go hm29 (by intro i hi; simp only [List.mem_cons, List.not_mem_nil, or_false] at hi ⊢ <;> omega)
        show ST G mi_Kit_putMasked 78 [(6, .int (nI k16)), (0, .ref 62), (1, .ref key), (2, .ref msg), (3, .ref src), (4, .int (nI pos)), (5, .ref b)] [] u27 0 0 _
        refine S_iincN (a := k16) (b := 1) (L' := [(6, .int (nI (k16 + 1))), (0, .ref 62), (1, .ref key), (2, .ref msg), (3, .ref src), (4, .int (nI pos)), (5, .ref b)]) d_Kit_putMasked_78 (by decide) rfl rfl rfl ?_
        refine ST.lift (fun _ _ k => T_goto (tgt := 50) d_Kit_putMasked_81 rfl k) ?_
        exact ih19 (128 - (k16 + 1)) (by omega) (k16 + 1)  u27 hv28 hm30 rfl (by omega)
  exact lp20 _ 0  u12 hv13 hm15 rfl (by omega)

set_option maxRecDepth 100000 in
set_option maxHeartbeats 4000000 in
theorem c_Ex_open (G : GX) (v : Nat → Int32) (a ma : Nat) (w_a : K0 ≤ a) (a_a : aB a ma) (l_a : ma ≤ 2000) (b mb : Nat) (w_b : K0 ≤ b) (a_b : aB b mb) (l_b : mb ≤ 2000) (c mc : Nat) (w_c : K0 ≤ c) (a_c : aB c mc) (l_c : mc ≤ 2000) (e me : Nat) (w_e : K0 ≤ e) (a_e : aB e me) (l_e : me ≤ 2000) (hv : okv v) : CS G mi_Ex_open [.ref 217, .ref a, .ref b, .ref c, .ref e] v (fun r v' => r = none ∧ okv v' ∧ mdf [8, 9] v v') := by
  refine CS.of (by decide) (Nat.le_of_ble_eq_true rfl) ?_
  generalize hQe : (fun (r : Option Value) (v' : Nat → Int32) => r = none ∧ okv v' ∧ mdf [8, 9] v v') = Q
  have hQ : ∀ u, okv u → mdf [8, 9] v u → Q none u := by rw [← hQe]; exact fun u h1 h2 => ⟨rfl, h1, h2⟩
  clear hQe
  have hm : mdf [8, 9] v v := mdf.rf
  show ST G mi_Ex_open 0 [(0, .ref 217), (1, .ref a), (2, .ref b), (3, .ref c), (4, .ref e)] [] v 0 0 Q
  refine ST.lift (fun _ _ k => T_aload_n (v := .ref 217) d_Ex_open_0 rfl (Or.inr ⟨_, rfl⟩) k) ?_
  refine S_getfield d_Ex_open_1 fg_Ex_28 (w217 _) rfl ?_
  refine S_virtual (as := []) (rest := []) (b := 223) d_Ex_open_4 rfl (jw_By_clear.jo (by decide)) lm_Ex_46 ji_By_clear js_By_clear (w223 _) rfl rfl rfl (Nat.le_of_ble_eq_true rfl) (by decide) (by decide) (c_By_clear G v 223 224 96 9 ⟨w223, a224, by decide, u223_1, by decide, by decide⟩ hv) (fun r v' hq => ?_)
  rw [hq.1, hq.2]
  clear hq r v'
  show ST G mi_Ex_open 7 [(0, .ref 217), (1, .ref a), (2, .ref b), (3, .ref c), (4, .ref e)] [] (va_up v 9 (nI 0)) 0 0 _
  have hv2 := hv.up (j := 9) (c := 96) (k := 0) (by decide) (by omega)
  have hm3 := hm.go (mdf.up (v := v) (j := 9) (x := (nI 0))) (by intro i hi; simp only [List.mem_cons, List.not_mem_nil, or_false] at hi ⊢ <;> omega)
  have e_u1 : (va_up v 9 (nI 0)) 9 = (nI 0) := by simp [va_up]
  generalize va_up v 9 (nI 0) = u1 at hv2 hm3 e_u1 ⊢
  refine ST.lift (fun _ _ k => T_aload_n (v := .ref 217) d_Ex_open_7 rfl (Or.inr ⟨_, rfl⟩) k) ?_
  refine S_getfield d_Ex_open_8 fg_Ex_24 (w217 _) rfl ?_
  refine S_virtual (as := []) (rest := []) (b := 221) d_Ex_open_11 rfl (jw_By_clear.jo (by decide)) lm_Ex_46 ji_By_clear js_By_clear (w221 _) rfl rfl rfl (Nat.le_of_ble_eq_true rfl) (by decide) (by decide) (c_By_clear G u1 221 222 500 8 ⟨w221, a222, by decide, u221_1, by decide, by decide⟩ hv2) (fun r v' hq => ?_)
  rw [hq.1, hq.2]
  clear hq r v'
  show ST G mi_Ex_open 14 [(0, .ref 217), (1, .ref a), (2, .ref b), (3, .ref c), (4, .ref e)] [] (va_up u1 8 (nI 0)) 0 0 _
  have hv5 := hv2.up (j := 8) (c := 500) (k := 0) (by decide) (by omega)
  have hm6 := hm3.go (mdf.up (v := u1) (j := 8) (x := (nI 0))) (by intro i hi; simp only [List.mem_cons, List.not_mem_nil, or_false] at hi ⊢ <;> omega)
  have e_u4 : (va_up u1 8 (nI 0)) 8 = (nI 0) := by simp [va_up]
  have e7 : (va_up u1 8 (nI 0)) 9 = nI 0 := by simp only [va_up]; exact e_u1
  generalize va_up u1 8 (nI 0) = u4 at hv5 hm6 e_u4 e7 ⊢
  refine ST.lift (fun _ _ k => T_aload_n (v := .ref 217) d_Ex_open_14 rfl (Or.inr ⟨_, rfl⟩) k) ?_
  refine S_getfield d_Ex_open_15 fg_Ex_24 (w217 _) rfl ?_
  refine ST.lift (fun _ _ k => T_ldcS (q := scl.getD 16 ("", 0, "", 0)) d_Ex_open_18 (List.mem_of_getElem? (i := 16) rfl) rfl rfl (by decide) k) ?_
  refine S_virtual (as := [.ref 46]) (rest := []) (b := 221) d_Ex_open_20 rfl (jw_By_putText.jo (by decide)) lm_Ex_51 ji_By_putText js_By_putText (w221 _) rfl rfl rfl (Nat.le_of_ble_eq_true rfl) (by decide) (by decide) (c_By_putText G u4 221 222 500 8 ⟨w221, a222, by decide, u221_1, by decide, by decide⟩ 46 47 9 ⟨w46, a47, by decide, by decide, by decide⟩ hv5) (fun r u8 hq => ?_)
  obtain ⟨hr, hv9, hm10⟩ := hq
  rw [hr]
  clear hr r
  have hm11 := hm6.go hm10 (by intro i hi; simp only [List.mem_cons, List.not_mem_nil, or_false] at hi ⊢ <;> omega)
  have e12 : u8 9 = nI 0 := (hm10 9 (by decide)).trans e7
  show ST G mi_Ex_open 23 [(0, .ref 217), (1, .ref a), (2, .ref b), (3, .ref c), (4, .ref e)] [] u8 0 0 _
  refine ST.lift (fun _ _ k => T_aload_n (v := .ref 217) d_Ex_open_23 rfl (Or.inr ⟨_, rfl⟩) k) ?_
  refine S_getfield d_Ex_open_24 fg_Ex_24 (w217 _) rfl ?_
  refine ST.lift (fun _ _ k => T_iconst (v := nI 0) d_Ex_open_27 (by decide) k) ?_
  refine ST.lift (fun _ _ k => T_iconst (v := nI 2) d_Ex_open_28 (by decide) k) ?_
  refine S_virtual (as := [.int (nI 0), .int (nI 2)]) (rest := []) (b := 221) d_Ex_open_29 rfl (jw_By_putNumber.jo (by decide)) lm_Ex_55 ji_By_putNumber js_By_putNumber (w221 _) rfl rfl rfl (Nat.le_of_ble_eq_true rfl) (by decide) (by decide) (c_By_putNumber_2 G u8 221 222 500 8 ⟨w221, a222, by decide, u221_1, by decide, by decide⟩ (nI 0) hv9) (fun r u13 hq => ?_)
  obtain ⟨hr, hv14, hm15⟩ := hq
  rw [hr]
  clear hr r
  have hm16 := hm11.go hm15 (by intro i hi; simp only [List.mem_cons, List.not_mem_nil, or_false] at hi ⊢ <;> omega)
  have e17 : u13 9 = nI 0 := (hm15 9 (by decide)).trans e12
  show ST G mi_Ex_open 32 [(0, .ref 217), (1, .ref a), (2, .ref b), (3, .ref c), (4, .ref e)] [] u13 0 0 _
  refine ST.lift (fun _ _ k => T_aload_n (v := .ref 217) d_Ex_open_32 rfl (Or.inr ⟨_, rfl⟩) k) ?_
  refine S_getfield d_Ex_open_33 fg_Ex_24 (w217 _) rfl ?_
  refine ST.lift (fun _ _ k => T_bipush (v := nI 32) d_Ex_open_36 (by decide) k) ?_
  refine ST.lift (fun _ _ k => T_iconst (v := nI 2) d_Ex_open_38 (by decide) k) ?_
  refine S_virtual (as := [.int (nI 32), .int (nI 2)]) (rest := []) (b := 221) d_Ex_open_39 rfl (jw_By_putNumber.jo (by decide)) lm_Ex_55 ji_By_putNumber js_By_putNumber (w221 _) rfl rfl rfl (Nat.le_of_ble_eq_true rfl) (by decide) (by decide) (c_By_putNumber_2 G u13 221 222 500 8 ⟨w221, a222, by decide, u221_1, by decide, by decide⟩ (nI 32) hv14) (fun r u18 hq => ?_)
  obtain ⟨hr, hv19, hm20⟩ := hq
  rw [hr]
  clear hr r
  have hm21 := hm16.go hm20 (by intro i hi; simp only [List.mem_cons, List.not_mem_nil, or_false] at hi ⊢ <;> omega)
  have e22 : u18 9 = nI 0 := (hm20 9 (by decide)).trans e17
  show ST G mi_Ex_open 42 [(0, .ref 217), (1, .ref a), (2, .ref b), (3, .ref c), (4, .ref e)] [] u18 0 0 _
  refine ST.lift (fun _ _ k => T_aload_n (v := .ref 217) d_Ex_open_42 rfl (Or.inr ⟨_, rfl⟩) k) ?_
  refine S_getfield d_Ex_open_43 fg_Ex_24 (w217 _) rfl ?_
  refine ST.lift (fun _ _ k => T_aload_n (v := .ref a) d_Ex_open_46 rfl (Or.inr ⟨_, rfl⟩) k) ?_
  refine ST.lift (fun _ _ k => T_iconst (v := nI 0) d_Ex_open_47 (by decide) k) ?_
  refine ST.lift (fun _ _ k => T_bipush (v := nI 32) d_Ex_open_48 (by decide) k) ?_
  refine S_virtual (as := [.ref a, .int (nI 0), .int (nI 32)]) (rest := []) (b := 221) d_Ex_open_50 rfl (jw_By_put.jo (by decide)) lm_Ex_59 ji_By_put js_By_put (w221 _) rfl rfl rfl (Nat.le_of_ble_eq_true rfl) (by decide) (by decide) (c_By_put G u18 221 222 500 8 ⟨w221, a222, by decide, u221_1, by decide, by decide⟩ a ma w_a a_a (by omega) 0 (by omega) 32 (by omega) hv19) (fun r u23 hq => ?_)
  obtain ⟨hr, hv24, hm25⟩ := hq
  rw [hr]
  clear hr r
  have hm26 := hm21.go hm25 (by intro i hi; simp only [List.mem_cons, List.not_mem_nil, or_false] at hi ⊢ <;> omega)
  have e27 : u23 9 = nI 0 := (hm25 9 (by decide)).trans e22
  show ST G mi_Ex_open 53 [(0, .ref 217), (1, .ref a), (2, .ref b), (3, .ref c), (4, .ref e)] [] u23 0 0 _
  refine ST.lift (fun _ _ k => T_aload_n (v := .ref 217) d_Ex_open_53 rfl (Or.inr ⟨_, rfl⟩) k) ?_
  refine S_getfield d_Ex_open_54 fg_Ex_24 (w217 _) rfl ?_
  refine ST.lift (fun _ _ k => T_aload_n (v := .ref b) d_Ex_open_57 rfl (Or.inr ⟨_, rfl⟩) k) ?_
  refine ST.lift (fun _ _ k => T_iconst (v := nI 0) d_Ex_open_58 (by decide) k) ?_
  refine ST.lift (fun _ _ k => T_bipush (v := nI 96) d_Ex_open_59 (by decide) k) ?_
  refine S_virtual (as := [.ref b, .int (nI 0), .int (nI 96)]) (rest := []) (b := 221) d_Ex_open_61 rfl (jw_By_put.jo (by decide)) lm_Ex_59 ji_By_put js_By_put (w221 _) rfl rfl rfl (Nat.le_of_ble_eq_true rfl) (by decide) (by decide) (c_By_put G u23 221 222 500 8 ⟨w221, a222, by decide, u221_1, by decide, by decide⟩ b mb w_b a_b (by omega) 0 (by omega) 96 (by omega) hv24) (fun r u28 hq => ?_)
  obtain ⟨hr, hv29, hm30⟩ := hq
  rw [hr]
  clear hr r
  have hm31 := hm26.go hm30 (by intro i hi; simp only [List.mem_cons, List.not_mem_nil, or_false] at hi ⊢ <;> omega)
  have e32 : u28 9 = nI 0 := (hm30 9 (by decide)).trans e27
  show ST G mi_Ex_open 64 [(0, .ref 217), (1, .ref a), (2, .ref b), (3, .ref c), (4, .ref e)] [] u28 0 0 _
  refine ST.lift (fun _ _ k => T_aload_n (v := .ref 217) d_Ex_open_64 rfl (Or.inr ⟨_, rfl⟩) k) ?_
  refine S_getfield d_Ex_open_65 fg_Ex_24 (w217 _) rfl ?_
  refine ST.lift (fun _ _ k => T_bipush (v := nI 32) d_Ex_open_68 (by decide) k) ?_
  refine ST.lift (fun _ _ k => T_iconst (v := nI 2) d_Ex_open_70 (by decide) k) ?_
  refine S_virtual (as := [.int (nI 32), .int (nI 2)]) (rest := []) (b := 221) d_Ex_open_71 rfl (jw_By_putNumber.jo (by decide)) lm_Ex_55 ji_By_putNumber js_By_putNumber (w221 _) rfl rfl rfl (Nat.le_of_ble_eq_true rfl) (by decide) (by decide) (c_By_putNumber_2 G u28 221 222 500 8 ⟨w221, a222, by decide, u221_1, by decide, by decide⟩ (nI 32) hv29) (fun r u33 hq => ?_)
  obtain ⟨hr, hv34, hm35⟩ := hq
  rw [hr]
  clear hr r
  have hm36 := hm31.go hm35 (by intro i hi; simp only [List.mem_cons, List.not_mem_nil, or_false] at hi ⊢ <;> omega)
  have e37 : u33 9 = nI 0 := (hm35 9 (by decide)).trans e32
  show ST G mi_Ex_open 74 [(0, .ref 217), (1, .ref a), (2, .ref b), (3, .ref c), (4, .ref e)] [] u33 0 0 _
  refine ST.lift (fun _ _ k => T_aload_n (v := .ref 217) d_Ex_open_74 rfl (Or.inr ⟨_, rfl⟩) k) ?_
  refine S_getfield d_Ex_open_75 fg_Ex_24 (w217 _) rfl ?_
  refine ST.lift (fun _ _ k => T_aload_n (v := .ref c) d_Ex_open_78 rfl (Or.inr ⟨_, rfl⟩) k) ?_
  refine ST.lift (fun _ _ k => T_iconst (v := nI 0) d_Ex_open_79 (by decide) k) ?_
  refine ST.lift (fun _ _ k => T_bipush (v := nI 32) d_Ex_open_80 (by decide) k) ?_
  refine S_virtual (as := [.ref c, .int (nI 0), .int (nI 32)]) (rest := []) (b := 221) d_Ex_open_82 rfl (jw_By_put.jo (by decide)) lm_Ex_59 ji_By_put js_By_put (w221 _) rfl rfl rfl (Nat.le_of_ble_eq_true rfl) (by decide) (by decide) (c_By_put G u33 221 222 500 8 ⟨w221, a222, by decide, u221_1, by decide, by decide⟩ c mc w_c a_c (by omega) 0 (by omega) 32 (by omega) hv34) (fun r u38 hq => ?_)
  obtain ⟨hr, hv39, hm40⟩ := hq
  rw [hr]
  clear hr r
  have hm41 := hm36.go hm40 (by intro i hi; simp only [List.mem_cons, List.not_mem_nil, or_false] at hi ⊢ <;> omega)
  have e42 : u38 9 = nI 0 := (hm40 9 (by decide)).trans e37
  show ST G mi_Ex_open 85 [(0, .ref 217), (1, .ref a), (2, .ref b), (3, .ref c), (4, .ref e)] [] u38 0 0 _
  refine ST.lift (fun _ _ k => T_aload_n (v := .ref 217) d_Ex_open_85 rfl (Or.inr ⟨_, rfl⟩) k) ?_
  refine S_getfield d_Ex_open_86 fg_Ex_24 (w217 _) rfl ?_
  refine ST.lift (fun _ _ k => T_aload (v := .ref e) d_Ex_open_89 rfl (Or.inr ⟨_, rfl⟩) k) ?_
  refine ST.lift (fun _ _ k => T_iconst (v := nI 0) d_Ex_open_91 (by decide) k) ?_
  refine ST.lift (fun _ _ k => T_sipush (v := nI 256) d_Ex_open_92 (by decide) k) ?_
  refine S_virtual (as := [.ref e, .int (nI 0), .int (nI 256)]) (rest := []) (b := 221) d_Ex_open_95 rfl (jw_By_put.jo (by decide)) lm_Ex_59 ji_By_put js_By_put (w221 _) rfl rfl rfl (Nat.le_of_ble_eq_true rfl) (by decide) (by decide) (c_By_put G u38 221 222 500 8 ⟨w221, a222, by decide, u221_1, by decide, by decide⟩ e me w_e a_e (by omega) 0 (by omega) 256 (by omega) hv39) (fun r u43 hq => ?_)
  obtain ⟨hr, hv44, hm45⟩ := hq
  rw [hr]
  clear hr r
  have hm46 := hm41.go hm45 (by intro i hi; simp only [List.mem_cons, List.not_mem_nil, or_false] at hi ⊢ <;> omega)
  have e47 : u43 9 = nI 0 := (hm45 9 (by decide)).trans e42
  show ST G mi_Ex_open 98 [(0, .ref 217), (1, .ref a), (2, .ref b), (3, .ref c), (4, .ref e)] [] u43 0 0 _
  exact S_vret d_Ex_open_98 rfl (by decide) (by decide) (hQ _ hv44 hm46)
set_option maxRecDepth 100000 in
set_option maxHeartbeats 4000000 in
theorem c_Ex_join (G : GX) (v : Nat → Int32) (s m : Nat) (w_s : K0 ≤ s) (a_s : aB s m) (l_s : m ≤ 2000) (p px py pz pt : Nat) (p_p : isPt p px py pz pt) (h32 : 32 ≤ m) (hv : okv v) : CS G mi_Ex_join [.ref 217, .ref 62, .ref s, .ref p] v (fun r v' => r = none ∧ okv v' ∧ mdf [9] v v') := by
  refine CS.of (by decide) (Nat.le_of_ble_eq_true rfl) ?_
  generalize hQe : (fun (r : Option Value) (v' : Nat → Int32) => r = none ∧ okv v' ∧ mdf [9] v v') = Q
  have hQ : ∀ u, okv u → mdf [9] v u → Q none u := by rw [← hQe]; exact fun u h1 h2 => ⟨rfl, h1, h2⟩
  clear hQe
  have hm : mdf [9] v v := mdf.rf
  show ST G mi_Ex_join 0 [(0, .ref 217), (1, .ref 62), (2, .ref s), (3, .ref p)] [] v 0 0 Q
  refine ST.lift (fun _ _ k => T_aload_n (v := .ref 62) d_Ex_join_0 rfl (Or.inr ⟨_, rfl⟩) k) ?_
  refine S_getfield d_Ex_join_1 fg_Ex_63 (w62 _) rfl ?_
  refine ST.lift (fun _ _ k => T_aload_n (v := .ref 62) d_Ex_join_4 rfl (Or.inr ⟨_, rfl⟩) k) ?_
  refine S_getfield d_Ex_join_5 fg_Ex_69 (w62 _) rfl ?_
  refine ST.lift (fun _ _ k => T_aload_n (v := .ref s) d_Ex_join_8 rfl (Or.inr ⟨_, rfl⟩) k) ?_
  refine ST.lift (fun _ _ k => T_aload_n (v := .ref p) d_Ex_join_9 rfl (Or.inr ⟨_, rfl⟩) k) ?_
  refine S_virtual (as := [.ref 207, .ref s, .ref p]) (rest := []) (b := 77) d_Ex_join_10 rfl (jw_Cu_multiply.jo (by decide)) lm_Ex_73 ji_Cu_multiply js_Cu_multiply (w77 _) rfl rfl rfl (Nat.le_of_ble_eq_true rfl) (by decide) (by decide) (c_Cu_multiply G v 207 208 209 210 211 ⟨w207, a208, a209, a210, a211, by decide, by decide, by decide, by decide⟩ s m w_s a_s (by omega) p px py pz pt p_p (by omega)) (fun r v' hq => ?_)
  rw [hq.1, hq.2]
  clear hq r v'
  show ST G mi_Ex_join 13 [(0, .ref 217), (1, .ref 62), (2, .ref s), (3, .ref p)] [] v 0 0 _
  refine ST.lift (fun _ _ k => T_aload_n (v := .ref 62) d_Ex_join_13 rfl (Or.inr ⟨_, rfl⟩) k) ?_
  refine S_getfield d_Ex_join_14 fg_Ex_63 (w62 _) rfl ?_
  refine ST.lift (fun _ _ k => T_aload_n (v := .ref 62) d_Ex_join_17 rfl (Or.inr ⟨_, rfl⟩) k) ?_
  refine S_getfield d_Ex_join_18 fg_Ex_69 (w62 _) rfl ?_
  refine ST.lift (fun _ _ k => T_aload_n (v := .ref 217) d_Ex_join_21 rfl (Or.inr ⟨_, rfl⟩) k) ?_
  refine S_getfield d_Ex_join_22 fg_Ex_28 (w217 _) rfl ?_
  refine S_virtual (as := [.ref 207, .ref 223]) (rest := []) (b := 77) d_Ex_join_25 rfl (jw_Cu_code.jo (by decide)) lm_Ex_79 ji_Cu_code js_Cu_code (w77 _) rfl rfl rfl (Nat.le_of_ble_eq_true rfl) (by decide) (by decide) (c_Cu_code G v 207 208 209 210 211 ⟨w207, a208, a209, a210, a211, by decide, by decide, by decide, by decide⟩ 223 224 96 9 ⟨w223, a224, by decide, u223_1, by decide, by decide⟩ hv) (fun r u1 hq => ?_)
  obtain ⟨hr, hv2, hm3⟩ := hq
  rw [hr]
  clear hr r
  have hm4 := hm.go hm3 (by intro i hi; simp only [List.mem_cons, List.not_mem_nil, or_false] at hi ⊢ <;> omega)
  show ST G mi_Ex_join 28 [(0, .ref 217), (1, .ref 62), (2, .ref s), (3, .ref p)] [] u1 0 0 _
  exact S_vret d_Ex_join_28 rfl (by decide) (by decide) (hQ _ hv2 hm4)
set_option maxRecDepth 100000 in
set_option maxHeartbeats 4000000 in
theorem c_Ex_confirm (G : GX) (v : Nat → Int32) (s sd sn : Nat) (t_s : isSt s sd sn) (to m : Nat) (w_to : K0 ≤ to) (a_to : aB to m) (l_to : m ≤ 2000) (h64 : 64 ≤ m) (hv : okv v) : CS G mi_Ex_confirm [.ref 217, .ref 62, .ref s, .ref to] v (fun r v' => r = none ∧ okv v' ∧ mdf [2, 3, 10] v v') := by
  refine CS.of (by decide) (Nat.le_of_ble_eq_true rfl) ?_
  generalize hQe : (fun (r : Option Value) (v' : Nat → Int32) => r = none ∧ okv v' ∧ mdf [2, 3, 10] v v') = Q
  have hQ : ∀ u, okv u → mdf [2, 3, 10] v u → Q none u := by rw [← hQe]; exact fun u h1 h2 => ⟨rfl, h1, h2⟩
  clear hQe
  have hm : mdf [2, 3, 10] v v := mdf.rf
  have l_s := t_s.2.2.2.2
  show ST G mi_Ex_confirm 0 [(0, .ref 217), (1, .ref 62), (2, .ref s), (3, .ref to)] [] v 0 0 Q
  refine ST.lift (fun _ _ k => T_aload_n (v := .ref 62) d_Ex_confirm_0 rfl (Or.inr ⟨_, rfl⟩) k) ?_
  refine S_getfield d_Ex_confirm_1 fg_Ex_93 (w62 _) rfl ?_
  refine ST.lift (fun _ _ k => T_aload_n (v := .ref 217) d_Ex_confirm_4 rfl (Or.inr ⟨_, rfl⟩) k) ?_
  refine S_getfield d_Ex_confirm_5 fg_Ex_37 (w217 _) rfl ?_
  refine ST.lift (fun _ _ k => T_aload_n (v := .ref s) d_Ex_confirm_8 rfl (Or.inr ⟨_, rfl⟩) k) ?_
  refine ST.lift (fun _ _ k => T_aload_n (v := .ref 217) d_Ex_confirm_9 rfl (Or.inr ⟨_, rfl⟩) k) ?_
  refine S_getfield d_Ex_confirm_10 fg_Ex_43 (w217 _) rfl ?_
  refine ST.lift (fun _ _ k => T_iconst (v := nI 0) d_Ex_confirm_13 (by decide) k) ?_
  refine ST.lift (fun _ _ k => T_aload_n (v := .ref 217) d_Ex_confirm_14 rfl (Or.inr ⟨_, rfl⟩) k) ?_
  refine S_getfield d_Ex_confirm_15 fg_Ex_40 (w217 _) rfl ?_
  refine S_virtual (as := [.ref 228, .ref s, .ref 230, .int (nI 0), .ref 229]) (rest := []) (b := 66) d_Ex_confirm_18 rfl (jw_Key_label.jo (by decide)) lm_Ex_104 ji_Key_label js_Key_label (w66 _) rfl rfl rfl (Nat.le_of_ble_eq_true rfl) (by decide) (by decide) (c_Key_label G v 228 64 (by decide) a228 (by omega) s sd sn t_s 230 64 (by decide) a230 (by omega) 0 (by omega) 229 64 (by decide) a229 (by omega) (by omega) (by omega) hv) (fun r u1 hq => ?_)
  obtain ⟨hr, hv2, hm3⟩ := hq
  rw [hr]
  clear hr r
  have hm4 := hm.go hm3 (by intro i hi; simp only [List.mem_cons, List.not_mem_nil, or_false] at hi ⊢ <;> omega)
  show ST G mi_Ex_confirm 21 [(0, .ref 217), (1, .ref 62), (2, .ref s), (3, .ref to)] [] u1 0 0 _
  refine ST.lift (fun _ _ k => T_aload_n (v := .ref 217) d_Ex_confirm_21 rfl (Or.inr ⟨_, rfl⟩) k) ?_
  refine S_getfield d_Ex_confirm_22 fg_Ex_31 (w217 _) rfl ?_
  refine S_virtual (as := []) (rest := []) (b := 225) d_Ex_confirm_25 rfl (jw_By_clear.jo (by decide)) lm_Ex_46 ji_By_clear js_By_clear (w225 _) rfl rfl rfl (Nat.le_of_ble_eq_true rfl) (by decide) (by decide) (c_By_clear G u1 225 226 64 10 ⟨w225, a226, by decide, u225_1, by decide, by decide⟩ hv2) (fun r v' hq => ?_)
  rw [hq.1, hq.2]
  clear hq r v'
  show ST G mi_Ex_confirm 28 [(0, .ref 217), (1, .ref 62), (2, .ref s), (3, .ref to)] [] (va_up u1 10 (nI 0)) 0 0 _
  have hv6 := hv2.up (j := 10) (c := 64) (k := 0) (by decide) (by omega)
  have hm7 := hm4.go (mdf.up (v := u1) (j := 10) (x := (nI 0))) (by intro i hi; simp only [List.mem_cons, List.not_mem_nil, or_false] at hi ⊢ <;> omega)
  have e_u5 : (va_up u1 10 (nI 0)) 10 = (nI 0) := by simp [va_up]
  generalize va_up u1 10 (nI 0) = u5 at hv6 hm7 e_u5 ⊢
  refine ST.lift (fun _ _ k => T_aload_n (v := .ref 217) d_Ex_confirm_28 rfl (Or.inr ⟨_, rfl⟩) k) ?_
  refine S_getfield d_Ex_confirm_29 fg_Ex_31 (w217 _) rfl ?_
  refine ST.lift (fun _ _ k => T_aload_n (v := .ref 217) d_Ex_confirm_32 rfl (Or.inr ⟨_, rfl⟩) k) ?_
  refine S_getfield d_Ex_confirm_33 fg_Ex_43 (w217 _) rfl ?_
  refine ST.lift (fun _ _ k => T_iconst (v := nI 0) d_Ex_confirm_36 (by decide) k) ?_
  refine ST.lift (fun _ _ k => T_bipush (v := nI 64) d_Ex_confirm_37 (by decide) k) ?_
  refine S_virtual (as := [.ref 230, .int (nI 0), .int (nI 64)]) (rest := []) (b := 225) d_Ex_confirm_39 rfl (jw_By_put.jo (by decide)) lm_Ex_59 ji_By_put js_By_put (w225 _) rfl rfl rfl (Nat.le_of_ble_eq_true rfl) (by decide) (by decide) (c_By_put G u5 225 226 64 10 ⟨w225, a226, by decide, u225_1, by decide, by decide⟩ 230 64 (by decide) a230 (by omega) 0 (by omega) 64 (by omega) hv6) (fun r u8 hq => ?_)
  obtain ⟨hr, hv9, hm10⟩ := hq
  rw [hr]
  clear hr r
  have hm11 := hm7.go hm10 (by intro i hi; simp only [List.mem_cons, List.not_mem_nil, or_false] at hi ⊢ <;> omega)
  show ST G mi_Ex_confirm 42 [(0, .ref 217), (1, .ref 62), (2, .ref s), (3, .ref to)] [] u8 0 0 _
  refine ST.lift (fun _ _ k => T_aload_n (v := .ref 62) d_Ex_confirm_42 rfl (Or.inr ⟨_, rfl⟩) k) ?_
  refine S_getfield d_Ex_confirm_43 fg_Ex_93 (w62 _) rfl ?_
  refine ST.lift (fun _ _ k => T_aload_n (v := .ref 217) d_Ex_confirm_46 rfl (Or.inr ⟨_, rfl⟩) k) ?_
  refine S_getfield d_Ex_confirm_47 fg_Ex_40 (w217 _) rfl ?_
  refine ST.lift (fun _ _ k => T_aload_n (v := .ref 217) d_Ex_confirm_50 rfl (Or.inr ⟨_, rfl⟩) k) ?_
  refine S_getfield d_Ex_confirm_51 fg_Ex_31 (w217 _) rfl ?_
  refine ST.lift (fun _ _ k => T_aload_n (v := .ref to) d_Ex_confirm_54 rfl (Or.inr ⟨_, rfl⟩) k) ?_
  refine S_virtual (as := [.ref 229, .ref 225, .ref to]) (rest := []) (b := 66) d_Ex_confirm_55 rfl (jw_Key_mac.jo (by decide)) lm_Ex_118 ji_Key_mac js_Key_mac (w66 _) rfl rfl rfl (Nat.le_of_ble_eq_true rfl) (by decide) (by decide) (c_Key_mac G u8 229 64 (by decide) a229 (by omega) 225 226 64 10 ⟨w225, a226, by decide, u225_1, by decide, by decide⟩ to m w_to a_to (by omega) (by omega) (by omega) hv9) (fun r u12 hq => ?_)
  obtain ⟨hr, hv13, hm14⟩ := hq
  rw [hr]
  clear hr r
  have hm15 := hm11.go hm14 (by intro i hi; simp only [List.mem_cons, List.not_mem_nil, or_false] at hi ⊢ <;> omega)
  show ST G mi_Ex_confirm 58 [(0, .ref 217), (1, .ref 62), (2, .ref s), (3, .ref to)] [] u12 0 0 _
  exact S_vret d_Ex_confirm_58 rfl (by decide) (by decide) (hQ _ hv13 hm15)
set_option maxRecDepth 100000 in
set_option maxHeartbeats 4000000 in
theorem c_Ex_settle (G : GX) (v : Nat → Int32) (hv : okv v) : CS G mi_Ex_settle [.ref 217, .ref 62] v (fun r v' => r = none ∧ okv v' ∧ mdf [2, 3, 10, 8] v v') := by
  refine CS.of (by decide) (Nat.le_of_ble_eq_true rfl) ?_
  generalize hQe : (fun (r : Option Value) (v' : Nat → Int32) => r = none ∧ okv v' ∧ mdf [2, 3, 10, 8] v v') = Q
  have hQ : ∀ u, okv u → mdf [2, 3, 10, 8] v u → Q none u := by rw [← hQe]; exact fun u h1 h2 => ⟨rfl, h1, h2⟩
  clear hQe
  have hm : mdf [2, 3, 10, 8] v v := mdf.rf
  show ST G mi_Ex_settle 0 [(0, .ref 217), (1, .ref 62)] [] v 0 0 Q
  refine ST.lift (fun _ _ k => T_aload_n (v := .ref 62) d_Ex_settle_0 rfl (Or.inr ⟨_, rfl⟩) k) ?_
  refine S_getfield d_Ex_settle_1 fg_Ex_83 (w62 _) rfl ?_
  refine ST.lift (fun _ _ k => T_aload_n (v := .ref 217) d_Ex_settle_4 rfl (Or.inr ⟨_, rfl⟩) k) ?_
  refine S_getfield d_Ex_settle_5 fg_Ex_24 (w217 _) rfl ?_
  refine ST.lift (fun _ _ k => T_aload_n (v := .ref 217) d_Ex_settle_8 rfl (Or.inr ⟨_, rfl⟩) k) ?_
  refine S_getfield d_Ex_settle_9 fg_Ex_43 (w217 _) rfl ?_
  refine S_virtual (as := [.ref 221, .ref 230]) (rest := []) (b := 63) d_Ex_settle_12 rfl (jw_Dig_run.jo (by decide)) lm_Ex_87 ji_Dig_run js_Dig_run (w63 _) rfl rfl rfl (Nat.le_of_ble_eq_true rfl) (by decide) (by decide) (c_Dig_run_63 G v 221 222 500 8 ⟨w221, a222, by decide, u221_1, by decide, by decide⟩ 230 64 (by decide) a230 (by omega) (by omega) hv) (fun r u1 hq => ?_)
  obtain ⟨hr, hv2, hm3⟩ := hq
  rw [hr]
  clear hr r
  have hm4 := hm.go hm3 (by intro i hi; simp only [List.mem_cons, List.not_mem_nil, or_false] at hi ⊢ <;> omega)
  show ST G mi_Ex_settle 15 [(0, .ref 217), (1, .ref 62)] [] u1 0 0 _
  refine ST.lift (fun _ _ k => T_aload_n (v := .ref 62) d_Ex_settle_15 rfl (Or.inr ⟨_, rfl⟩) k) ?_
  refine S_getfield d_Ex_settle_16 fg_Ex_93 (w62 _) rfl ?_
  refine ST.lift (fun _ _ k => T_aload_n (v := .ref 217) d_Ex_settle_19 rfl (Or.inr ⟨_, rfl⟩) k) ?_
  refine S_getfield d_Ex_settle_20 fg_Ex_28 (w217 _) rfl ?_
  refine ST.lift (fun _ _ k => T_aload_n (v := .ref 217) d_Ex_settle_23 rfl (Or.inr ⟨_, rfl⟩) k) ?_
  refine S_getfield d_Ex_settle_24 fg_Ex_34 (w217 _) rfl ?_
  refine S_virtual (as := [.ref 223, .ref 227]) (rest := []) (b := 66) d_Ex_settle_27 rfl (jw_Key_extract.jo (by decide)) lm_Ex_97 ji_Key_extract js_Key_extract (w66 _) rfl rfl rfl (Nat.le_of_ble_eq_true rfl) (by decide) (by decide) (c_Key_extract G u1 223 224 96 9 ⟨w223, a224, by decide, u223_1, by decide, by decide⟩ 227 64 (by decide) a227 (by omega) (by omega) hv2) (fun r u5 hq => ?_)
  obtain ⟨hr, hv6, hm7⟩ := hq
  rw [hr]
  clear hr r
  have hm8 := hm4.go hm7 (by intro i hi; simp only [List.mem_cons, List.not_mem_nil, or_false] at hi ⊢ <;> omega)
  show ST G mi_Ex_settle 30 [(0, .ref 217), (1, .ref 62)] [] u5 0 0 _
  refine ST.lift (fun _ _ k => T_aload_n (v := .ref 62) d_Ex_settle_30 rfl (Or.inr ⟨_, rfl⟩) k) ?_
  refine S_getfield d_Ex_settle_31 fg_Ex_93 (w62 _) rfl ?_
  refine ST.lift (fun _ _ k => T_aload_n (v := .ref 217) d_Ex_settle_34 rfl (Or.inr ⟨_, rfl⟩) k) ?_
  refine S_getfield d_Ex_settle_35 fg_Ex_34 (w217 _) rfl ?_
  refine ST.lift (fun _ _ k => T_ldcS (q := scl.getD 17 ("", 0, "", 0)) d_Ex_settle_38 (List.mem_of_getElem? (i := 17) rfl) rfl rfl (by decide) k) ?_
  refine ST.lift (fun _ _ k => T_aload_n (v := .ref 217) d_Ex_settle_40 rfl (Or.inr ⟨_, rfl⟩) k) ?_
  refine S_getfield d_Ex_settle_41 fg_Ex_43 (w217 _) rfl ?_
  refine ST.lift (fun _ _ k => T_bipush (v := nI 64) d_Ex_settle_44 (by decide) k) ?_
  refine ST.lift (fun _ _ k => T_aload_n (v := .ref 217) d_Ex_settle_46 rfl (Or.inr ⟨_, rfl⟩) k) ?_
  refine S_getfield d_Ex_settle_47 fg_Ex_37 (w217 _) rfl ?_
  refine S_virtual (as := [.ref 227, .ref 48, .ref 230, .int (nI 64), .ref 228]) (rest := []) (b := 66) d_Ex_settle_50 rfl (jw_Key_label.jo (by decide)) lm_Ex_104 ji_Key_label js_Key_label (w66 _) rfl rfl rfl (Nat.le_of_ble_eq_true rfl) (by decide) (by decide) (c_Key_label G u5 227 64 (by decide) a227 (by omega) 48 49 15 ⟨w48, a49, by decide, by decide, by decide⟩ 230 64 (by decide) a230 (by omega) 64 (by omega) 228 64 (by decide) a228 (by omega) (by omega) (by omega) hv6) (fun r u9 hq => ?_)
  obtain ⟨hr, hv10, hm11⟩ := hq
  rw [hr]
  clear hr r
  have hm12 := hm8.go hm11 (by intro i hi; simp only [List.mem_cons, List.not_mem_nil, or_false] at hi ⊢ <;> omega)
  show ST G mi_Ex_settle 53 [(0, .ref 217), (1, .ref 62)] [] u9 0 0 _
  refine ST.lift (fun _ _ k => T_aload_n (v := .ref 62) d_Ex_settle_53 rfl (Or.inr ⟨_, rfl⟩) k) ?_
  refine S_getfield d_Ex_settle_54 fg_Ex_93 (w62 _) rfl ?_
  refine ST.lift (fun _ _ k => T_aload_n (v := .ref 217) d_Ex_settle_57 rfl (Or.inr ⟨_, rfl⟩) k) ?_
  refine S_getfield d_Ex_settle_58 fg_Ex_34 (w217 _) rfl ?_
  refine ST.lift (fun _ _ k => T_ldcS (q := scl.getD 19 ("", 0, "", 0)) d_Ex_settle_61 (List.mem_of_getElem? (i := 19) rfl) rfl rfl (by decide) k) ?_
  refine ST.lift (fun _ _ k => T_aload_n (v := .ref 217) d_Ex_settle_63 rfl (Or.inr ⟨_, rfl⟩) k) ?_
  refine S_getfield d_Ex_settle_64 fg_Ex_43 (w217 _) rfl ?_
  refine ST.lift (fun _ _ k => T_bipush (v := nI 64) d_Ex_settle_67 (by decide) k) ?_
  refine ST.lift (fun _ _ k => T_aload_n (v := .ref 217) d_Ex_settle_69 rfl (Or.inr ⟨_, rfl⟩) k) ?_
  refine S_getfield d_Ex_settle_70 fg_Ex_16 (w217 _) rfl ?_
  refine S_virtual (as := [.ref 227, .ref 52, .ref 230, .int (nI 64), .ref 220]) (rest := []) (b := 66) d_Ex_settle_73 rfl (jw_Key_label.jo (by decide)) lm_Ex_104 ji_Key_label js_Key_label (w66 _) rfl rfl rfl (Nat.le_of_ble_eq_true rfl) (by decide) (by decide) (c_Key_label G u9 227 64 (by decide) a227 (by omega) 52 53 10 ⟨w52, a53, by decide, by decide, by decide⟩ 230 64 (by decide) a230 (by omega) 64 (by omega) 220 64 (by decide) a220 (by omega) (by omega) (by omega) hv10) (fun r u13 hq => ?_)
  obtain ⟨hr, hv14, hm15⟩ := hq
  rw [hr]
  clear hr r
  have hm16 := hm12.go hm15 (by intro i hi; simp only [List.mem_cons, List.not_mem_nil, or_false] at hi ⊢ <;> omega)
  show ST G mi_Ex_settle 76 [(0, .ref 217), (1, .ref 62)] [] u13 0 0 _
  refine ST.lift (fun _ _ k => T_aload_n (v := .ref 217) d_Ex_settle_76 rfl (Or.inr ⟨_, rfl⟩) k) ?_
  refine ST.lift (fun _ _ k => T_aload_n (v := .ref 62) d_Ex_settle_77 rfl (Or.inr ⟨_, rfl⟩) k) ?_
  refine ST.lift (fun _ _ k => T_ldcS (q := scl.getD 20 ("", 0, "", 0)) d_Ex_settle_78 (List.mem_of_getElem? (i := 20) rfl) rfl rfl (by decide) k) ?_
  refine ST.lift (fun _ _ k => T_aload_n (v := .ref 217) d_Ex_settle_80 rfl (Or.inr ⟨_, rfl⟩) k) ?_
  refine S_getfield d_Ex_settle_81 fg_Ex_7 (w217 _) rfl ?_
  refine S_virtual (as := [.ref 62, .ref 54, .ref 218]) (rest := []) (b := 217) d_Ex_settle_84 rfl (jw_Ex_confirm.jo (by decide)) lm_Ex_112 ji_Ex_confirm js_Ex_confirm (w217 _) rfl rfl rfl (Nat.le_of_ble_eq_true rfl) (by decide) (by decide) (c_Ex_confirm G u13 54 55 9 ⟨w54, a55, by decide, by decide, by decide⟩ 218 64 (by decide) a218 (by omega) (by omega) hv14) (fun r u17 hq => ?_)
  obtain ⟨hr, hv18, hm19⟩ := hq
  rw [hr]
  clear hr r
  have hm20 := hm16.go hm19 (by intro i hi; simp only [List.mem_cons, List.not_mem_nil, or_false] at hi ⊢ <;> omega)
  show ST G mi_Ex_settle 87 [(0, .ref 217), (1, .ref 62)] [] u17 0 0 _
  refine ST.lift (fun _ _ k => T_aload_n (v := .ref 217) d_Ex_settle_87 rfl (Or.inr ⟨_, rfl⟩) k) ?_
  refine S_getfield d_Ex_settle_88 fg_Ex_24 (w217 _) rfl ?_
  refine ST.lift (fun _ _ k => T_aload_n (v := .ref 217) d_Ex_settle_91 rfl (Or.inr ⟨_, rfl⟩) k) ?_
  refine S_getfield d_Ex_settle_92 fg_Ex_7 (w217 _) rfl ?_
  refine ST.lift (fun _ _ k => T_iconst (v := nI 0) d_Ex_settle_95 (by decide) k) ?_
  refine ST.lift (fun _ _ k => T_bipush (v := nI 64) d_Ex_settle_96 (by decide) k) ?_
  refine S_virtual (as := [.ref 218, .int (nI 0), .int (nI 64)]) (rest := []) (b := 221) d_Ex_settle_98 rfl (jw_By_put.jo (by decide)) lm_Ex_59 ji_By_put js_By_put (w221 _) rfl rfl rfl (Nat.le_of_ble_eq_true rfl) (by decide) (by decide) (c_By_put G u17 221 222 500 8 ⟨w221, a222, by decide, u221_1, by decide, by decide⟩ 218 64 (by decide) a218 (by omega) 0 (by omega) 64 (by omega) hv18) (fun r u21 hq => ?_)
  obtain ⟨hr, hv22, hm23⟩ := hq
  rw [hr]
  clear hr r
  have hm24 := hm20.go hm23 (by intro i hi; simp only [List.mem_cons, List.not_mem_nil, or_false] at hi ⊢ <;> omega)
  show ST G mi_Ex_settle 101 [(0, .ref 217), (1, .ref 62)] [] u21 0 0 _
  refine ST.lift (fun _ _ k => T_aload_n (v := .ref 62) d_Ex_settle_101 rfl (Or.inr ⟨_, rfl⟩) k) ?_
  refine S_getfield d_Ex_settle_102 fg_Ex_83 (w62 _) rfl ?_
  refine ST.lift (fun _ _ k => T_aload_n (v := .ref 217) d_Ex_settle_105 rfl (Or.inr ⟨_, rfl⟩) k) ?_
  refine S_getfield d_Ex_settle_106 fg_Ex_24 (w217 _) rfl ?_
  refine ST.lift (fun _ _ k => T_aload_n (v := .ref 217) d_Ex_settle_109 rfl (Or.inr ⟨_, rfl⟩) k) ?_
  refine S_getfield d_Ex_settle_110 fg_Ex_43 (w217 _) rfl ?_
  refine S_virtual (as := [.ref 221, .ref 230]) (rest := []) (b := 63) d_Ex_settle_113 rfl (jw_Dig_run.jo (by decide)) lm_Ex_87 ji_Dig_run js_Dig_run (w63 _) rfl rfl rfl (Nat.le_of_ble_eq_true rfl) (by decide) (by decide) (c_Dig_run_63 G u21 221 222 500 8 ⟨w221, a222, by decide, u221_1, by decide, by decide⟩ 230 64 (by decide) a230 (by omega) (by omega) hv22) (fun r u25 hq => ?_)
  obtain ⟨hr, hv26, hm27⟩ := hq
  rw [hr]
  clear hr r
  have hm28 := hm24.go hm27 (by intro i hi; simp only [List.mem_cons, List.not_mem_nil, or_false] at hi ⊢ <;> omega)
  show ST G mi_Ex_settle 116 [(0, .ref 217), (1, .ref 62)] [] u25 0 0 _
  refine ST.lift (fun _ _ k => T_aload_n (v := .ref 217) d_Ex_settle_116 rfl (Or.inr ⟨_, rfl⟩) k) ?_
  refine ST.lift (fun _ _ k => T_aload_n (v := .ref 62) d_Ex_settle_117 rfl (Or.inr ⟨_, rfl⟩) k) ?_
  refine ST.lift (fun _ _ k => T_ldcS (q := scl.getD 21 ("", 0, "", 0)) d_Ex_settle_118 (List.mem_of_getElem? (i := 21) rfl) rfl rfl (by decide) k) ?_
  refine ST.lift (fun _ _ k => T_aload_n (v := .ref 217) d_Ex_settle_120 rfl (Or.inr ⟨_, rfl⟩) k) ?_
  refine S_getfield d_Ex_settle_121 fg_Ex_13 (w217 _) rfl ?_
  refine S_virtual (as := [.ref 62, .ref 56, .ref 219]) (rest := []) (b := 217) d_Ex_settle_124 rfl (jw_Ex_confirm.jo (by decide)) lm_Ex_112 ji_Ex_confirm js_Ex_confirm (w217 _) rfl rfl rfl (Nat.le_of_ble_eq_true rfl) (by decide) (by decide) (c_Ex_confirm G u25 56 57 9 ⟨w56, a57, by decide, by decide, by decide⟩ 219 64 (by decide) a219 (by omega) (by omega) hv26) (fun r u29 hq => ?_)
  obtain ⟨hr, hv30, hm31⟩ := hq
  rw [hr]
  clear hr r
  have hm32 := hm28.go hm31 (by intro i hi; simp only [List.mem_cons, List.not_mem_nil, or_false] at hi ⊢ <;> omega)
  show ST G mi_Ex_settle 127 [(0, .ref 217), (1, .ref 62)] [] u29 0 0 _
  exact S_vret d_Ex_settle_127 rfl (by decide) (by decide) (hQ _ hv30 hm32)

theorem rec_232 : ∀ i, i < 8 → ∃ b d j, ([some 248, some 250, some 252, some 254, some 256, some 258, some 260, some 262].getD i none : Option Nat) = some b ∧ isBy b d 192 j ∧ (j = 16 ∨ j = 17 ∨ j = 18 ∨ j = 19 ∨ j = 20 ∨ j = 21 ∨ j = 22 ∨ j = 23) := by
  intro i hi
  have h : i = 0 ∨ i = 1 ∨ i = 2 ∨ i = 3 ∨ i = 4 ∨ i = 5 ∨ i = 6 ∨ i = 7 := by omega
  rcases h with rfl | rfl | rfl | rfl | rfl | rfl | rfl | rfl
  · exact ⟨248, 249, 16, rfl, ⟨w248, a249, by decide, u248_1, by decide, by decide⟩, by decide⟩
  · exact ⟨250, 251, 17, rfl, ⟨w250, a251, by decide, u250_1, by decide, by decide⟩, by decide⟩
  · exact ⟨252, 253, 18, rfl, ⟨w252, a253, by decide, u252_1, by decide, by decide⟩, by decide⟩
  · exact ⟨254, 255, 19, rfl, ⟨w254, a255, by decide, u254_1, by decide, by decide⟩, by decide⟩
  · exact ⟨256, 257, 20, rfl, ⟨w256, a257, by decide, u256_1, by decide, by decide⟩, by decide⟩
  · exact ⟨258, 259, 21, rfl, ⟨w258, a259, by decide, u258_1, by decide, by decide⟩, by decide⟩
  · exact ⟨260, 261, 22, rfl, ⟨w260, a261, by decide, u260_1, by decide, by decide⟩, by decide⟩
  · exact ⟨262, 263, 23, rfl, ⟨w262, a263, by decide, u262_1, by decide, by decide⟩, by decide⟩
set_option maxRecDepth 100000 in
set_option maxHeartbeats 4000000 in
theorem c_Se_open (G : GX) (v : Nat → Int32) (hv : okv v) : CS G mi_Se_open [.ref 231, .ref 62] v (fun r v' => r = none ∧ okv v' ∧ mdf [6, 7, 5, 2, 3, 1, 4, 11, 12, 13, 14, 15] v v') := by
  refine CS.of (by decide) (Nat.le_of_ble_eq_true rfl) ?_
  generalize hQe : (fun (r : Option Value) (v' : Nat → Int32) => r = none ∧ okv v' ∧ mdf [6, 7, 5, 2, 3, 1, 4, 11, 12, 13, 14, 15] v v') = Q
  have hQ : ∀ u, okv u → mdf [6, 7, 5, 2, 3, 1, 4, 11, 12, 13, 14, 15] v u → Q none u := by rw [← hQe]; exact fun u h1 h2 => ⟨rfl, h1, h2⟩
  clear hQe
  have hm : mdf [6, 7, 5, 2, 3, 1, 4, 11, 12, 13, 14, 15] v v := mdf.rf
  show ST G mi_Se_open 0 [(0, .ref 231), (1, .ref 62)] [] v 0 0 Q
  refine ST.lift (fun _ _ k => T_aload_n (v := .ref 231) d_Se_open_0 rfl (Or.inr ⟨_, rfl⟩) k) ?_
  refine S_getfield d_Se_open_1 fg_Se_40 (w231 _) rfl ?_
  obtain ⟨k1, hk1, ek1⟩ := hv.get (j := 15) (c := 32) (by decide)
  refine S_getfield d_Se_open_4 fg_Se_52 (w243 _) rfl ?_
  refine S_topi (y := nI k1) (ek1) ?_
  refine S_if_leN d_Se_open_7 rfl (by omega) (fun c2 => ?_) (fun c2 => ?_)
  · refine ST.lift (fun _ _ k => T_aload_n (v := .ref 62) d_Se_open_11 rfl (Or.inr ⟨_, rfl⟩) k) ?_
    refine ST.lift (fun _ _ k => T_iconst (v := nI 0) d_Se_open_12 (by decide) k) ?_
    refine ST.lift (fun _ _ k => T_aload_n (v := .ref 231) d_Se_open_13 rfl (Or.inr ⟨_, rfl⟩) k) ?_
    refine S_getfield d_Se_open_14 fg_Se_33 (w231 _) rfl ?_
    refine S_virtual (as := [.int (nI 0), .ref 241]) (rest := []) (b := 62) d_Se_open_17 rfl (jw_Kit_chanceAt.jo (by decide)) lm_Se_56 ji_Kit_chanceAt js_Kit_chanceAt (w62 _) rfl rfl rfl (Nat.le_of_ble_eq_true rfl) (by decide) (by decide) (c_Kit_chanceAt G v (nI 0) 241 64 (by decide) a241 (by omega) (by omega) hv) (fun r u3 hq => ?_)
    obtain ⟨hr, hv4, hm5⟩ := hq
    rw [hr]
    clear hr r
    have hm6 := hm.go hm5 (by intro i hi; simp only [List.mem_cons, List.not_mem_nil, or_false] at hi ⊢ <;> omega)
    have e7 : u3 15 = nI k1 := (hm5 15 (by decide)).trans ek1
    show ST G mi_Se_open 20 [(0, .ref 231), (1, .ref 62)] [] u3 0 0 _
    refine ST.lift (fun _ _ k => T_aload_n (v := .ref 62) d_Se_open_20 rfl (Or.inr ⟨_, rfl⟩) k) ?_
    refine ST.lift (fun _ _ k => T_iconst (v := nI 1) d_Se_open_21 (by decide) k) ?_
    refine ST.lift (fun _ _ k => T_aload_n (v := .ref 62) d_Se_open_22 rfl (Or.inr ⟨_, rfl⟩) k) ?_
    refine S_getfield d_Se_open_23 fg_Se_62 (w62 _) rfl ?_
    refine S_virtual (as := [.int (nI 1), .ref 199]) (rest := []) (b := 62) d_Se_open_26 rfl (jw_Kit_chanceAt.jo (by decide)) lm_Se_56 ji_Kit_chanceAt js_Kit_chanceAt (w62 _) rfl rfl rfl (Nat.le_of_ble_eq_true rfl) (by decide) (by decide) (c_Kit_chanceAt G u3 (nI 1) 199 64 (by decide) a199 (by omega) (by omega) hv4) (fun r u8 hq => ?_)
    obtain ⟨hr, hv9, hm10⟩ := hq
    rw [hr]
    clear hr r
    have hm11 := hm6.go hm10 (by intro i hi; simp only [List.mem_cons, List.not_mem_nil, or_false] at hi ⊢ <;> omega)
    have e12 : u8 15 = nI k1 := (hm10 15 (by decide)).trans e7
    show ST G mi_Se_open 29 [(0, .ref 231), (1, .ref 62)] [] u8 0 0 _
    refine ST.lift (fun _ _ k => T_aload_n (v := .ref 62) d_Se_open_29 rfl (Or.inr ⟨_, rfl⟩) k) ?_
    refine ST.lift (fun _ _ k => T_aload_n (v := .ref 62) d_Se_open_30 rfl (Or.inr ⟨_, rfl⟩) k) ?_
    refine S_getfield d_Se_open_31 fg_Se_62 (w62 _) rfl ?_
    refine ST.lift (fun _ _ k => T_ldcS (q := scl.getD 4 ("", 0, "", 0)) d_Se_open_34 (List.mem_of_getElem? (i := 4) rfl) rfl rfl (by decide) k) ?_
    refine ST.lift (fun _ _ k => T_aload_n (v := .ref 231) d_Se_open_36 rfl (Or.inr ⟨_, rfl⟩) k) ?_
    refine S_getfield d_Se_open_37 fg_Se_37 (w231 _) rfl ?_
    refine S_virtual (as := [.ref 199, .ref 22, .ref 242]) (rest := []) (b := 62) d_Se_open_40 rfl (jw_Kit_keyOf.jo (by decide)) lm_Se_67 ji_Kit_keyOf js_Kit_keyOf (w62 _) rfl rfl rfl (Nat.le_of_ble_eq_true rfl) (by decide) (by decide) (c_Kit_keyOf G u8 199 64 (by decide) a199 (by omega) 22 23 33 ⟨w22, a23, by decide, by decide, by decide⟩ 242 32 (by decide) a242 (by omega) (by omega) hv9) (fun r u13 hq => ?_)
    obtain ⟨hr, hv14, hm15⟩ := hq
    rw [hr]
    clear hr r
    have hm16 := hm11.go hm15 (by intro i hi; simp only [List.mem_cons, List.not_mem_nil, or_false] at hi ⊢ <;> omega)
    have e17 : u13 15 = nI k1 := (hm15 15 (by decide)).trans e12
    show ST G mi_Se_open 43 [(0, .ref 231), (1, .ref 62)] [] u13 0 0 _
    refine ST.lift (fun _ _ k => T_aload_n (v := .ref 62) d_Se_open_43 rfl (Or.inr ⟨_, rfl⟩) k) ?_
    refine ST.lift (fun _ _ k => T_aload_n (v := .ref 231) d_Se_open_44 rfl (Or.inr ⟨_, rfl⟩) k) ?_
    refine S_getfield d_Se_open_45 fg_Se_37 (w231 _) rfl ?_
    refine ST.lift (fun _ _ k => T_aload_n (v := .ref 231) d_Se_open_48 rfl (Or.inr ⟨_, rfl⟩) k) ?_
    refine S_getfield d_Se_open_49 fg_Se_40 (w231 _) rfl ?_
    refine S_virtual (as := [.ref 242, .ref 243]) (rest := []) (b := 62) d_Se_open_52 rfl (jw_Kit_putPublic.jo (by decide)) lm_Se_71 ji_Kit_putPublic js_Kit_putPublic (w62 _) rfl rfl rfl (Nat.le_of_ble_eq_true rfl) (by decide) (by decide) (c_Kit_putPublic G u13 242 32 (by decide) a242 (by omega) 243 244 32 15 ⟨w243, a244, by decide, u243_1, by decide, by decide⟩ (by omega) hv14) (fun r u18 hq => ?_)
    obtain ⟨hr, hv19, hm20⟩ := hq
    rw [hr]
    clear hr r
    have hm21 := hm16.go hm20 (by intro i hi; simp only [List.mem_cons, List.not_mem_nil, or_false] at hi ⊢ <;> omega)
    show ST G mi_Se_open 55 [(0, .ref 231), (1, .ref 62)] [] u18 0 0 _
    exact S_vret d_Se_open_55 rfl (by decide) (by decide) (hQ _ hv19 hm21)
  · exact S_vret d_Se_open_10 rfl (by decide) (by decide) (hQ _ hv hm)
set_option maxRecDepth 100000 in
set_option maxHeartbeats 4000000 in
theorem c_Se_findUserKey (G : GX) (v : Nat → Int32) (usr : Nat) (b_usr : usr ≤ 7) (hv : okv v) : CS G mi_Se_findUserKey [.ref 231, .ref 62, .int (nI usr)] v (fun r v' => r = none ∧ okv v' ∧ mdf [6, 7, 5, 2, 3, 1, 4, 11, 12, 13, 14, 15] v v') := by
  refine CS.of (by decide) (Nat.le_of_ble_eq_true rfl) ?_
  generalize hQe : (fun (r : Option Value) (v' : Nat → Int32) => r = none ∧ okv v' ∧ mdf [6, 7, 5, 2, 3, 1, 4, 11, 12, 13, 14, 15] v v') = Q
  have hQ : ∀ u, okv u → mdf [6, 7, 5, 2, 3, 1, 4, 11, 12, 13, 14, 15] v u → Q none u := by rw [← hQe]; exact fun u h1 h2 => ⟨rfl, h1, h2⟩
  clear hQe
  have hm : mdf [6, 7, 5, 2, 3, 1, 4, 11, 12, 13, 14, 15] v v := mdf.rf
  show ST G mi_Se_findUserKey 0 [(0, .ref 231), (1, .ref 62), (2, .int (nI usr))] [] v 0 0 Q
  refine ST.lift (fun _ _ k => T_aload_n (v := .ref 231) d_Se_findUserKey_0 rfl (Or.inr ⟨_, rfl⟩) k) ?_
  refine S_getfield d_Se_findUserKey_1 fg_Se_30 (w231 _) rfl ?_
  refine S_virtual (as := []) (rest := []) (b := 239) d_Se_findUserKey_4 rfl (jw_By_clear.jo (by decide)) lm_Se_75 ji_By_clear js_By_clear (w239 _) rfl rfl rfl (Nat.le_of_ble_eq_true rfl) (by decide) (by decide) (c_By_clear G v 239 240 20 14 ⟨w239, a240, by decide, u239_1, by decide, by decide⟩ hv) (fun r v' hq => ?_)
  rw [hq.1, hq.2]
  clear hq r v'
  show ST G mi_Se_findUserKey 7 [(0, .ref 231), (1, .ref 62), (2, .int (nI usr))] [] (va_up v 14 (nI 0)) 0 0 _
  have hv2 := hv.up (j := 14) (c := 20) (k := 0) (by decide) (by omega)
  have hm3 := hm.go (mdf.up (v := v) (j := 14) (x := (nI 0))) (by intro i hi; simp only [List.mem_cons, List.not_mem_nil, or_false] at hi ⊢ <;> omega)
  have e_u1 : (va_up v 14 (nI 0)) 14 = (nI 0) := by simp [va_up]
  generalize va_up v 14 (nI 0) = u1 at hv2 hm3 e_u1 ⊢
  refine ST.lift (fun _ _ k => T_aload_n (v := .ref 231) d_Se_findUserKey_7 rfl (Or.inr ⟨_, rfl⟩) k) ?_
  refine S_getfield d_Se_findUserKey_8 fg_Se_30 (w231 _) rfl ?_
  refine ST.lift (fun _ _ k => T_ldcS (q := scl.getD 6 ("", 0, "", 0)) d_Se_findUserKey_11 (List.mem_of_getElem? (i := 6) rfl) rfl rfl (by decide) k) ?_
  refine S_virtual (as := [.ref 26]) (rest := []) (b := 239) d_Se_findUserKey_13 rfl (jw_By_putText.jo (by decide)) lm_Se_80 ji_By_putText js_By_putText (w239 _) rfl rfl rfl (Nat.le_of_ble_eq_true rfl) (by decide) (by decide) (c_By_putText G u1 239 240 20 14 ⟨w239, a240, by decide, u239_1, by decide, by decide⟩ 26 27 4 ⟨w26, a27, by decide, by decide, by decide⟩ hv2) (fun r u4 hq => ?_)
  obtain ⟨hr, hv5, hm6⟩ := hq
  rw [hr]
  clear hr r
  have hm7 := hm3.go hm6 (by intro i hi; simp only [List.mem_cons, List.not_mem_nil, or_false] at hi ⊢ <;> omega)
  show ST G mi_Se_findUserKey 16 [(0, .ref 231), (1, .ref 62), (2, .int (nI usr))] [] u4 0 0 _
  refine ST.lift (fun _ _ k => T_aload_n (v := .ref 231) d_Se_findUserKey_16 rfl (Or.inr ⟨_, rfl⟩) k) ?_
  refine S_getfield d_Se_findUserKey_17 fg_Se_30 (w231 _) rfl ?_
  refine ST.lift (fun _ _ k => T_iload_n d_Se_findUserKey_20 rfl k) ?_
  refine S_virtual (as := [.int (nI usr)]) (rest := []) (b := 239) d_Se_findUserKey_21 rfl (jw_By_putByte.jo (by decide)) lm_Se_84 ji_By_putByte js_By_putByte (w239 _) rfl rfl rfl (Nat.le_of_ble_eq_true rfl) (by decide) (by decide) (c_By_putByte G u4 239 240 20 14 ⟨w239, a240, by decide, u239_1, by decide, by decide⟩ (nI usr) hv5) (fun r u8 hq => ?_)
  obtain ⟨hr, hv9, hm10⟩ := hq
  rw [hr]
  clear hr r
  have hm11 := hm7.go hm10 (by intro i hi; simp only [List.mem_cons, List.not_mem_nil, or_false] at hi ⊢ <;> omega)
  show ST G mi_Se_findUserKey 24 [(0, .ref 231), (1, .ref 62), (2, .int (nI usr))] [] u8 0 0 _
  refine ST.lift (fun _ _ k => T_aload_n (v := .ref 231) d_Se_findUserKey_24 rfl (Or.inr ⟨_, rfl⟩) k) ?_
  refine S_getfield d_Se_findUserKey_25 fg_Se_30 (w231 _) rfl ?_
  refine ST.lift (fun _ _ k => T_ldcS (q := scl.getD 7 ("", 0, "", 0)) d_Se_findUserKey_28 (List.mem_of_getElem? (i := 7) rfl) rfl rfl (by decide) k) ?_
  refine S_virtual (as := [.ref 28]) (rest := []) (b := 239) d_Se_findUserKey_30 rfl (jw_By_putText.jo (by decide)) lm_Se_80 ji_By_putText js_By_putText (w239 _) rfl rfl rfl (Nat.le_of_ble_eq_true rfl) (by decide) (by decide) (c_By_putText G u8 239 240 20 14 ⟨w239, a240, by decide, u239_1, by decide, by decide⟩ 28 29 7 ⟨w28, a29, by decide, by decide, by decide⟩ hv9) (fun r u12 hq => ?_)
  obtain ⟨hr, hv13, hm14⟩ := hq
  rw [hr]
  clear hr r
  have hm15 := hm11.go hm14 (by intro i hi; simp only [List.mem_cons, List.not_mem_nil, or_false] at hi ⊢ <;> omega)
  show ST G mi_Se_findUserKey 33 [(0, .ref 231), (1, .ref 62), (2, .int (nI usr))] [] u12 0 0 _
  refine ST.lift (fun _ _ k => T_aload_n (v := .ref 62) d_Se_findUserKey_33 rfl (Or.inr ⟨_, rfl⟩) k) ?_
  refine S_getfield d_Se_findUserKey_34 fg_Se_89 (w62 _) rfl ?_
  refine ST.lift (fun _ _ k => T_aload_n (v := .ref 231) d_Se_findUserKey_37 rfl (Or.inr ⟨_, rfl⟩) k) ?_
  refine S_getfield d_Se_findUserKey_38 fg_Se_33 (w231 _) rfl ?_
  refine ST.lift (fun _ _ k => T_aload_n (v := .ref 231) d_Se_findUserKey_41 rfl (Or.inr ⟨_, rfl⟩) k) ?_
  refine S_getfield d_Se_findUserKey_42 fg_Se_30 (w231 _) rfl ?_
  refine ST.lift (fun _ _ k => T_aload_n (v := .ref 62) d_Se_findUserKey_45 rfl (Or.inr ⟨_, rfl⟩) k) ?_
  refine S_getfield d_Se_findUserKey_46 fg_Se_62 (w62 _) rfl ?_
  refine ST.lift (fun _ _ k => T_bipush (v := nI 32) d_Se_findUserKey_49 (by decide) k) ?_
  refine S_virtual (as := [.ref 241, .ref 239, .ref 199, .int (nI 32)]) (rest := []) (b := 66) d_Se_findUserKey_51 rfl (jw_Key_expand.jo (by decide)) lm_Se_93 ji_Key_expand js_Key_expand (w66 _) rfl rfl rfl (Nat.le_of_ble_eq_true rfl) (by decide) (by decide) (c_Key_expand_32 G u12 241 64 (by decide) a241 (by omega) 239 240 20 14 ⟨w239, a240, by decide, u239_1, by decide, by decide⟩ 199 64 (by decide) a199 (by omega) (by omega) (by omega) hv13) (fun r u16 hq => ?_)
  obtain ⟨hr, hv17, hm18⟩ := hq
  rw [hr]
  clear hr r
  have hm19 := hm15.go hm18 (by intro i hi; simp only [List.mem_cons, List.not_mem_nil, or_false] at hi ⊢ <;> omega)
  show ST G mi_Se_findUserKey 54 [(0, .ref 231), (1, .ref 62), (2, .int (nI usr))] [] u16 0 0 _
  refine ST.lift (fun _ _ k => T_aload_n (v := .ref 62) d_Se_findUserKey_54 rfl (Or.inr ⟨_, rfl⟩) k) ?_
  refine ST.lift (fun _ _ k => T_aload_n (v := .ref 62) d_Se_findUserKey_55 rfl (Or.inr ⟨_, rfl⟩) k) ?_
  refine S_getfield d_Se_findUserKey_56 fg_Se_62 (w62 _) rfl ?_
  refine ST.lift (fun _ _ k => T_ldcS (q := scl.getD 8 ("", 0, "", 0)) d_Se_findUserKey_59 (List.mem_of_getElem? (i := 8) rfl) rfl rfl (by decide) k) ?_
  refine ST.lift (fun _ _ k => T_aload_n (v := .ref 231) d_Se_findUserKey_61 rfl (Or.inr ⟨_, rfl⟩) k) ?_
  refine S_getfield d_Se_findUserKey_62 fg_Se_43 (w231 _) rfl ?_
  refine S_virtual (as := [.ref 199, .ref 30, .ref 245]) (rest := []) (b := 62) d_Se_findUserKey_65 rfl (jw_Kit_keyOf.jo (by decide)) lm_Se_67 ji_Kit_keyOf js_Kit_keyOf (w62 _) rfl rfl rfl (Nat.le_of_ble_eq_true rfl) (by decide) (by decide) (c_Kit_keyOf G u16 199 64 (by decide) a199 (by omega) 30 31 20 ⟨w30, a31, by decide, by decide, by decide⟩ 245 32 (by decide) a245 (by omega) (by omega) hv17) (fun r u20 hq => ?_)
  obtain ⟨hr, hv21, hm22⟩ := hq
  rw [hr]
  clear hr r
  have hm23 := hm19.go hm22 (by intro i hi; simp only [List.mem_cons, List.not_mem_nil, or_false] at hi ⊢ <;> omega)
  show ST G mi_Se_findUserKey 68 [(0, .ref 231), (1, .ref 62), (2, .int (nI usr))] [] u20 0 0 _
  exact S_vret d_Se_findUserKey_68 rfl (by decide) (by decide) (hQ _ hv21 hm23)
set_option maxRecDepth 100000 in
set_option maxHeartbeats 4000000 in
theorem c_Se_register (G : GX) (v : Nat → Int32) (usr : Nat) (b_usr : usr ≤ 7) (b bd bc bj : Nat) (y_b : isBy b bd bc bj) (hv : okv v) : CS G mi_Se_register [.ref 231, .ref 62, .int (nI usr), .ref b] v (fun r v' => r = none ∧ okv v' ∧ mdf [6, 7, 5, 2, 3, 1, 4, 11, 12, 13, 14, 15, 16, 17, 18, 19, 20, 21, 22, 23] v v') := by
  refine CS.of (by decide) (Nat.le_of_ble_eq_true rfl) ?_
  generalize hQe : (fun (r : Option Value) (v' : Nat → Int32) => r = none ∧ okv v' ∧ mdf [6, 7, 5, 2, 3, 1, 4, 11, 12, 13, 14, 15, 16, 17, 18, 19, 20, 21, 22, 23] v v') = Q
  have hQ : ∀ u, okv u → mdf [6, 7, 5, 2, 3, 1, 4, 11, 12, 13, 14, 15, 16, 17, 18, 19, 20, 21, 22, 23] v u → Q none u := by rw [← hQe]; exact fun u h1 h2 => ⟨rfl, h1, h2⟩
  clear hQe
  have hm : mdf [6, 7, 5, 2, 3, 1, 4, 11, 12, 13, 14, 15, 16, 17, 18, 19, 20, 21, 22, 23] v v := mdf.rf
  have l_b := y_b.2.2.2.2.2
  show ST G mi_Se_register 0 [(0, .ref 231), (1, .ref 62), (2, .int (nI usr)), (3, .ref b)] [] v 0 0 Q
  refine ST.lift (fun _ _ k => T_aload_n (v := .ref 231) d_Se_register_0 rfl (Or.inr ⟨_, rfl⟩) k) ?_
  refine ST.lift (fun _ _ k => T_aload_n (v := .ref 62) d_Se_register_1 rfl (Or.inr ⟨_, rfl⟩) k) ?_
  refine S_virtual (as := [.ref 62]) (rest := []) (b := 231) d_Se_register_2 rfl (jw_Se_open.jo (by decide)) lm_Se_101 ji_Se_open js_Se_open (w231 _) rfl rfl rfl (Nat.le_of_ble_eq_true rfl) (by decide) (by decide) (c_Se_open G v hv) (fun r u1 hq => ?_)
  obtain ⟨hr, hv2, hm3⟩ := hq
  rw [hr]
  clear hr r
  have hm4 := hm.go hm3 (by intro i hi; simp only [List.mem_cons, List.not_mem_nil, or_false] at hi ⊢ <;> omega)
  show ST G mi_Se_register 5 [(0, .ref 231), (1, .ref 62), (2, .int (nI usr)), (3, .ref b)] [] u1 0 0 _
  refine ST.lift (fun _ _ k => T_aload_n (v := .ref 231) d_Se_register_5 rfl (Or.inr ⟨_, rfl⟩) k) ?_
  refine ST.lift (fun _ _ k => T_aload_n (v := .ref 62) d_Se_register_6 rfl (Or.inr ⟨_, rfl⟩) k) ?_
  refine ST.lift (fun _ _ k => T_iload_n d_Se_register_7 rfl k) ?_
  refine S_virtual (as := [.ref 62, .int (nI usr)]) (rest := []) (b := 231) d_Se_register_8 rfl (jw_Se_findUserKey.jo (by decide)) lm_Se_105 ji_Se_findUserKey js_Se_findUserKey (w231 _) rfl rfl rfl (Nat.le_of_ble_eq_true rfl) (by decide) (by decide) (c_Se_findUserKey G u1 usr (by omega) hv2) (fun r u5 hq => ?_)
  obtain ⟨hr, hv6, hm7⟩ := hq
  rw [hr]
  clear hr r
  have hm8 := hm4.go hm7 (by intro i hi; simp only [List.mem_cons, List.not_mem_nil, or_false] at hi ⊢ <;> omega)
  show ST G mi_Se_register 11 [(0, .ref 231), (1, .ref 62), (2, .int (nI usr)), (3, .ref b)] [] u5 0 0 _
  refine ST.lift (fun _ _ k => T_aload_n (v := .ref 62) d_Se_register_11 rfl (Or.inr ⟨_, rfl⟩) k) ?_
  refine ST.lift (fun _ _ k => T_aload_n (v := .ref b) d_Se_register_12 rfl (Or.inr ⟨_, rfl⟩) k) ?_
  refine ST.lift (fun _ _ k => T_aload_n (v := .ref 62) d_Se_register_13 rfl (Or.inr ⟨_, rfl⟩) k) ?_
  refine S_getfield d_Se_register_14 fg_Se_109 (w62 _) rfl ?_
  refine S_virtual (as := [.ref b, .ref 188]) (rest := []) (b := 62) d_Se_register_17 rfl (jw_Kit_groupOf.jo (by decide)) lm_Se_113 ji_Kit_groupOf js_Kit_groupOf (w62 _) rfl rfl rfl (Nat.le_of_ble_eq_true rfl) (by decide) (by decide) (c_Kit_groupOf G u5 b bd bc bj y_b 188 189 190 191 192 ⟨w188, a189, a190, a191, a192, by decide, by decide, by decide, by decide⟩ hv6) (fun r u9 hq => ?_)
  obtain ⟨hr, hv10, hm11⟩ := hq
  rw [hr]
  clear hr r
  have hm12 := hm8.go hm11 (by intro i hi; simp only [List.mem_cons, List.not_mem_nil, or_false] at hi ⊢ <;> omega)
  show ST G mi_Se_register 20 [(0, .ref 231), (1, .ref 62), (2, .int (nI usr)), (3, .ref b)] [] u9 0 0 _
  refine ST.lift (fun _ _ k => T_aload_n (v := .ref 62) d_Se_register_20 rfl (Or.inr ⟨_, rfl⟩) k) ?_
  refine S_getfield d_Se_register_21 fg_Se_117 (w62 _) rfl ?_
  refine ST.lift (fun _ _ k => T_aload_n (v := .ref 62) d_Se_register_24 rfl (Or.inr ⟨_, rfl⟩) k) ?_
  refine S_getfield d_Se_register_25 fg_Se_109 (w62 _) rfl ?_
  refine ST.lift (fun _ _ k => T_aload_n (v := .ref 231) d_Se_register_28 rfl (Or.inr ⟨_, rfl⟩) k) ?_
  refine S_getfield d_Se_register_29 fg_Se_43 (w231 _) rfl ?_
  refine ST.lift (fun _ _ k => T_aload_n (v := .ref 62) d_Se_register_32 rfl (Or.inr ⟨_, rfl⟩) k) ?_
  refine S_getfield d_Se_register_33 fg_Se_109 (w62 _) rfl ?_
  refine S_virtual (as := [.ref 188, .ref 245, .ref 188]) (rest := []) (b := 77) d_Se_register_36 rfl (jw_Cu_multiply.jo (by decide)) lm_Se_121 ji_Cu_multiply js_Cu_multiply (w77 _) rfl rfl rfl (Nat.le_of_ble_eq_true rfl) (by decide) (by decide) (c_Cu_multiply G u9 188 189 190 191 192 ⟨w188, a189, a190, a191, a192, by decide, by decide, by decide, by decide⟩ 245 32 (by decide) a245 (by omega) 188 189 190 191 192 ⟨w188, a189, a190, a191, a192, by decide, by decide, by decide, by decide⟩ (by omega)) (fun r v' hq => ?_)
  rw [hq.1, hq.2]
  clear hq r v'
  show ST G mi_Se_register 39 [(0, .ref 231), (1, .ref 62), (2, .int (nI usr)), (3, .ref b)] [] u9 0 0 _
  refine ST.lift (fun _ _ k => T_aload_n (v := .ref 62) d_Se_register_39 rfl (Or.inr ⟨_, rfl⟩) k) ?_
  refine ST.lift (fun _ _ k => T_aload_n (v := .ref b) d_Se_register_40 rfl (Or.inr ⟨_, rfl⟩) k) ?_
  refine ST.lift (fun _ _ k => T_aload_n (v := .ref 62) d_Se_register_41 rfl (Or.inr ⟨_, rfl⟩) k) ?_
  refine S_getfield d_Se_register_42 fg_Se_109 (w62 _) rfl ?_
  refine S_virtual (as := [.ref b, .ref 188]) (rest := []) (b := 62) d_Se_register_45 rfl (jw_Kit_randomize.jo (by decide)) lm_Se_127 ji_Kit_randomize js_Kit_randomize (w62 _) rfl rfl rfl (Nat.le_of_ble_eq_true rfl) (by decide) (by decide) (c_Kit_randomize G u9 b bd bc bj y_b 188 189 190 191 192 ⟨w188, a189, a190, a191, a192, by decide, by decide, by decide, by decide⟩ hv10) (fun r u13 hq => ?_)
  obtain ⟨hr, hv14, hm15⟩ := hq
  rw [hr]
  clear hr r
  have hm16 := hm12.go hm15 (by intro i hi; simp only [List.mem_cons, List.not_mem_nil, or_false] at hi ⊢ <;> omega)
  show ST G mi_Se_register 48 [(0, .ref 231), (1, .ref 62), (2, .int (nI usr)), (3, .ref b)] [] u13 0 0 _
  refine ST.lift (fun _ _ k => T_aload_n (v := .ref 231) d_Se_register_48 rfl (Or.inr ⟨_, rfl⟩) k) ?_
  refine S_getfield d_Se_register_49 fg_Se_27 (w231 _) rfl ?_
  refine S_virtual (as := []) (rest := []) (b := 237) d_Se_register_52 rfl (jw_By_clear.jo (by decide)) lm_Se_75 ji_By_clear js_By_clear (w237 _) rfl rfl rfl (Nat.le_of_ble_eq_true rfl) (by decide) (by decide) (c_By_clear G u13 237 238 32 13 ⟨w237, a238, by decide, u237_1, by decide, by decide⟩ hv14) (fun r v' hq => ?_)
  rw [hq.1, hq.2]
  clear hq r v'
  show ST G mi_Se_register 55 [(0, .ref 231), (1, .ref 62), (2, .int (nI usr)), (3, .ref b)] [] (va_up u13 13 (nI 0)) 0 0 _
  have hv18 := hv14.up (j := 13) (c := 32) (k := 0) (by decide) (by omega)
  have hm19 := hm16.go (mdf.up (v := u13) (j := 13) (x := (nI 0))) (by intro i hi; simp only [List.mem_cons, List.not_mem_nil, or_false] at hi ⊢ <;> omega)
  have e_u17 : (va_up u13 13 (nI 0)) 13 = (nI 0) := by simp [va_up]
  generalize va_up u13 13 (nI 0) = u17 at hv18 hm19 e_u17 ⊢
  refine ST.lift (fun _ _ k => T_aload_n (v := .ref 62) d_Se_register_55 rfl (Or.inr ⟨_, rfl⟩) k) ?_
  refine ST.lift (fun _ _ k => T_aload_n (v := .ref 231) d_Se_register_56 rfl (Or.inr ⟨_, rfl⟩) k) ?_
  refine S_getfield d_Se_register_57 fg_Se_27 (w231 _) rfl ?_
  refine S_virtual (as := [.ref 237]) (rest := []) (b := 62) d_Se_register_60 rfl (jw_Kit_putNonce.jo (by decide)) lm_Se_130 ji_Kit_putNonce js_Kit_putNonce (w62 _) rfl rfl rfl (Nat.le_of_ble_eq_true rfl) (by decide) (by decide) (c_Kit_putNonce G u17 237 238 32 13 ⟨w237, a238, by decide, u237_1, by decide, by decide⟩ hv18) (fun r u20 hq => ?_)
  obtain ⟨hr, hv21, hm22⟩ := hq
  rw [hr]
  clear hr r
  have hm23 := hm19.go hm22 (by intro i hi; simp only [List.mem_cons, List.not_mem_nil, or_false] at hi ⊢ <;> omega)
  show ST G mi_Se_register 63 [(0, .ref 231), (1, .ref 62), (2, .int (nI usr)), (3, .ref b)] [] u20 0 0 _
  refine ST.lift (fun _ _ k => T_aload_n (v := .ref 62) d_Se_register_63 rfl (Or.inr ⟨_, rfl⟩) k) ?_
  refine ST.lift (fun _ _ k => T_aload_n (v := .ref 231) d_Se_register_64 rfl (Or.inr ⟨_, rfl⟩) k) ?_
  refine S_getfield d_Se_register_65 fg_Se_27 (w231 _) rfl ?_
  refine S_getfield d_Se_register_68 fg_Se_134 (w237 _) rfl ?_
  refine ST.lift (fun _ _ k => T_iconst (v := nI 0) d_Se_register_71 (by decide) k) ?_
  refine ST.lift (fun _ _ k => T_aload_n (v := .ref 231) d_Se_register_72 rfl (Or.inr ⟨_, rfl⟩) k) ?_
  refine S_getfield d_Se_register_73 fg_Se_40 (w231 _) rfl ?_
  refine S_getfield d_Se_register_76 fg_Se_134 (w243 _) rfl ?_
  refine S_virtual (as := [.ref 238, .int (nI 0), .ref 244]) (rest := []) (b := 62) d_Se_register_79 rfl (jw_Kit_sealEnvelope.jo (by decide)) lm_Se_137 ji_Kit_sealEnvelope js_Kit_sealEnvelope (w62 _) rfl rfl rfl (Nat.le_of_ble_eq_true rfl) (by decide) (by decide) (c_Kit_sealEnvelope G u20 238 32 (by decide) a238 (by omega) 0 (by omega) 244 32 (by decide) a244 (by omega) hv21) (fun r u24 hq => ?_)
  obtain ⟨hr, hv25, hm26⟩ := hq
  rw [hr]
  clear hr r
  have hm27 := hm23.go hm26 (by intro i hi; simp only [List.mem_cons, List.not_mem_nil, or_false] at hi ⊢ <;> omega)
  show ST G mi_Se_register 82 [(0, .ref 231), (1, .ref 62), (2, .int (nI usr)), (3, .ref b)] [] u24 0 0 _
  refine ST.lift (fun _ _ k => T_aload_n (v := .ref 231) d_Se_register_82 rfl (Or.inr ⟨_, rfl⟩) k) ?_
  refine S_getfield d_Se_register_83 fg_Se_11 (w231 _) rfl ?_
  refine ST.lift (fun _ _ k => T_iload_n d_Se_register_86 rfl k) ?_
  refine S_aaload (C0 := "PasswordGate$Bytes") d_Se_register_87 (by decide) (w232 _) rfl (vp_in_nI (by omega) (by omega)) ?_
  obtain ⟨p28, p28d, p28j, e_p28, y_p28, j_p28⟩ := rec_232 usr (by omega)
  refine S_topv (y := .ref p28) (by rw [nI_clamp (by omega)]; exact congrArg va_rf e_p28) ?_
  refine ST.lift (fun _ _ k => T_astore (L' := [(4, .ref p28), (0, .ref 231), (1, .ref 62), (2, .int (nI usr)), (3, .ref b)]) d_Se_register_88 (by decide) rfl (Or.inr ⟨_, rfl⟩) k) ?_
  refine ST.lift (fun _ _ k => T_aload (v := .ref p28) d_Se_register_90 rfl (Or.inr ⟨_, rfl⟩) k) ?_
  refine S_virtual (as := []) (rest := []) (b := p28) d_Se_register_92 rfl (jw_By_clear.jo (by decide)) lm_Se_75 ji_By_clear js_By_clear (y_p28.1 _) rfl rfl rfl (Nat.le_of_ble_eq_true rfl) (by decide) (by decide) (c_By_clear G u24 p28 p28d 192 p28j y_p28 hv25) (fun r v' hq => ?_)
  rw [hq.1, hq.2]
  clear hq r v'
  show ST G mi_Se_register 95 [(4, .ref p28), (0, .ref 231), (1, .ref 62), (2, .int (nI usr)), (3, .ref b)] [] (va_up u24 p28j (nI 0)) 0 0 _
  have hv30 := hv25.up (j := p28j) (c := 192) (k := 0) y_p28.2.2.2.2.1 (by omega)
  have hm31 := hm27.go (mdf.up (v := u24) (j := p28j) (x := (nI 0))) (by intro i hi; simp only [List.mem_cons, List.not_mem_nil, or_false] at hi ⊢ <;> omega)
  have e_u29 : (va_up u24 p28j (nI 0)) p28j = (nI 0) := by simp [va_up]
  generalize va_up u24 p28j (nI 0) = u29 at hv30 hm31 e_u29 ⊢
  refine ST.lift (fun _ _ k => T_aload (v := .ref p28) d_Se_register_95 rfl (Or.inr ⟨_, rfl⟩) k) ?_
  refine ST.lift (fun _ _ k => T_aload_n (v := .ref 62) d_Se_register_97 rfl (Or.inr ⟨_, rfl⟩) k) ?_
  refine S_getfield d_Se_register_98 fg_Se_141 (w62 _) rfl ?_
  refine S_virtual (as := [.ref 203]) (rest := []) (b := p28) d_Se_register_101 rfl (jw_By_putAll.jo (by decide)) lm_Se_144 ji_By_putAll js_By_putAll (y_p28.1 _) rfl rfl rfl (Nat.le_of_ble_eq_true rfl) (by decide) (by decide) (c_By_putAll G u29 p28 p28d 192 p28j y_p28 203 204 32 5 ⟨w203, a204, by decide, u203_1, by decide, by decide⟩ hv30) (fun r u32 hq => ?_)
  obtain ⟨hr, hv33, hm34⟩ := hq
  rw [hr]
  clear hr r
  have hm35 := hm31.go hm34 (by intro i hi; simp only [List.mem_cons, List.not_mem_nil, or_false] at hi ⊢ <;> omega)
  show ST G mi_Se_register 104 [(4, .ref p28), (0, .ref 231), (1, .ref 62), (2, .int (nI usr)), (3, .ref b)] [] u32 0 0 _
  refine ST.lift (fun _ _ k => T_aload (v := .ref p28) d_Se_register_104 rfl (Or.inr ⟨_, rfl⟩) k) ?_
  refine ST.lift (fun _ _ k => T_aload_n (v := .ref 62) d_Se_register_106 rfl (Or.inr ⟨_, rfl⟩) k) ?_
  refine S_getfield d_Se_register_107 fg_Se_147 (w62 _) rfl ?_
  refine ST.lift (fun _ _ k => T_iconst (v := nI 0) d_Se_register_110 (by decide) k) ?_
  refine ST.lift (fun _ _ k => T_bipush (v := nI 64) d_Se_register_111 (by decide) k) ?_
  refine S_virtual (as := [.ref 201, .int (nI 0), .int (nI 64)]) (rest := []) (b := p28) d_Se_register_113 rfl (jw_By_put.jo (by decide)) lm_Se_148 ji_By_put js_By_put (y_p28.1 _) rfl rfl rfl (Nat.le_of_ble_eq_true rfl) (by decide) (by decide) (c_By_put G u32 p28 p28d 192 p28j y_p28 201 64 (by decide) a201 (by omega) 0 (by omega) 64 (by omega) hv33) (fun r u36 hq => ?_)
  obtain ⟨hr, hv37, hm38⟩ := hq
  rw [hr]
  clear hr r
  have hm39 := hm35.go hm38 (by intro i hi; simp only [List.mem_cons, List.not_mem_nil, or_false] at hi ⊢ <;> omega)
  show ST G mi_Se_register 116 [(4, .ref p28), (0, .ref 231), (1, .ref 62), (2, .int (nI usr)), (3, .ref b)] [] u36 0 0 _
  refine ST.lift (fun _ _ k => T_aload (v := .ref p28) d_Se_register_116 rfl (Or.inr ⟨_, rfl⟩) k) ?_
  refine ST.lift (fun _ _ k => T_aload_n (v := .ref 231) d_Se_register_118 rfl (Or.inr ⟨_, rfl⟩) k) ?_
  refine S_getfield d_Se_register_119 fg_Se_27 (w231 _) rfl ?_
  refine S_virtual (as := [.ref 237]) (rest := []) (b := p28) d_Se_register_122 rfl (jw_By_putAll.jo (by decide)) lm_Se_144 ji_By_putAll js_By_putAll (y_p28.1 _) rfl rfl rfl (Nat.le_of_ble_eq_true rfl) (by decide) (by decide) (c_By_putAll G u36 p28 p28d 192 p28j y_p28 237 238 32 13 ⟨w237, a238, by decide, u237_1, by decide, by decide⟩ hv37) (fun r u40 hq => ?_)
  obtain ⟨hr, hv41, hm42⟩ := hq
  rw [hr]
  clear hr r
  have hm43 := hm39.go hm42 (by intro i hi; simp only [List.mem_cons, List.not_mem_nil, or_false] at hi ⊢ <;> omega)
  show ST G mi_Se_register 125 [(4, .ref p28), (0, .ref 231), (1, .ref 62), (2, .int (nI usr)), (3, .ref b)] [] u40 0 0 _
  refine ST.lift (fun _ _ k => T_aload (v := .ref p28) d_Se_register_125 rfl (Or.inr ⟨_, rfl⟩) k) ?_
  refine ST.lift (fun _ _ k => T_aload_n (v := .ref 62) d_Se_register_127 rfl (Or.inr ⟨_, rfl⟩) k) ?_
  refine S_getfield d_Se_register_128 fg_Se_152 (w62 _) rfl ?_
  refine ST.lift (fun _ _ k => T_iconst (v := nI 0) d_Se_register_131 (by decide) k) ?_
  refine ST.lift (fun _ _ k => T_bipush (v := nI 64) d_Se_register_132 (by decide) k) ?_
  refine S_virtual (as := [.ref 205, .int (nI 0), .int (nI 64)]) (rest := []) (b := p28) d_Se_register_134 rfl (jw_By_put.jo (by decide)) lm_Se_148 ji_By_put js_By_put (y_p28.1 _) rfl rfl rfl (Nat.le_of_ble_eq_true rfl) (by decide) (by decide) (c_By_put G u40 p28 p28d 192 p28j y_p28 205 64 (by decide) a205 (by omega) 0 (by omega) 64 (by omega) hv41) (fun r u44 hq => ?_)
  obtain ⟨hr, hv45, hm46⟩ := hq
  rw [hr]
  clear hr r
  have hm47 := hm43.go hm46 (by intro i hi; simp only [List.mem_cons, List.not_mem_nil, or_false] at hi ⊢ <;> omega)
  show ST G mi_Se_register 137 [(4, .ref p28), (0, .ref 231), (1, .ref 62), (2, .int (nI usr)), (3, .ref b)] [] u44 0 0 _
  exact S_vret d_Se_register_137 rfl (by decide) (by decide) (hQ _ hv45 hm47)
set_option maxRecDepth 100000 in
set_option maxHeartbeats 4000000 in
theorem c_Se_makeUp (G : GX) (v : Nat → Int32) (hv : okv v) : CS G mi_Se_makeUp [.ref 231, .ref 62] v (fun r v' => r = none ∧ okv v' ∧ mdf [6, 7, 5, 2, 3, 1, 4, 11, 12, 13, 14, 15] v v') := by
  refine CS.of (by decide) (Nat.le_of_ble_eq_true rfl) ?_
  generalize hQe : (fun (r : Option Value) (v' : Nat → Int32) => r = none ∧ okv v' ∧ mdf [6, 7, 5, 2, 3, 1, 4, 11, 12, 13, 14, 15] v v') = Q
  have hQ : ∀ u, okv u → mdf [6, 7, 5, 2, 3, 1, 4, 11, 12, 13, 14, 15] v u → Q none u := by rw [← hQe]; exact fun u h1 h2 => ⟨rfl, h1, h2⟩
  clear hQe
  have hm : mdf [6, 7, 5, 2, 3, 1, 4, 11, 12, 13, 14, 15] v v := mdf.rf
  show ST G mi_Se_makeUp 0 [(0, .ref 231), (1, .ref 62)] [] v 0 0 Q
  refine ST.lift (fun _ _ k => T_aload_n (v := .ref 231) d_Se_makeUp_0 rfl (Or.inr ⟨_, rfl⟩) k) ?_
  refine S_getfield d_Se_makeUp_1 fg_Se_20 (w231 _) rfl ?_
  refine S_virtual (as := []) (rest := []) (b := 233) d_Se_makeUp_4 rfl (jw_By_clear.jo (by decide)) lm_Se_75 ji_By_clear js_By_clear (w233 _) rfl rfl rfl (Nat.le_of_ble_eq_true rfl) (by decide) (by decide) (c_By_clear G v 233 234 192 11 ⟨w233, a234, by decide, u233_1, by decide, by decide⟩ hv) (fun r v' hq => ?_)
  rw [hq.1, hq.2]
  clear hq r v'
  show ST G mi_Se_makeUp 7 [(0, .ref 231), (1, .ref 62)] [] (va_up v 11 (nI 0)) 0 0 _
  have hv2 := hv.up (j := 11) (c := 192) (k := 0) (by decide) (by omega)
  have hm3 := hm.go (mdf.up (v := v) (j := 11) (x := (nI 0))) (by intro i hi; simp only [List.mem_cons, List.not_mem_nil, or_false] at hi ⊢ <;> omega)
  have e_u1 : (va_up v 11 (nI 0)) 11 = (nI 0) := by simp [va_up]
  generalize va_up v 11 (nI 0) = u1 at hv2 hm3 e_u1 ⊢
  refine ST.lift (fun _ _ k => T_aload_n (v := .ref 62) d_Se_makeUp_7 rfl (Or.inr ⟨_, rfl⟩) k) ?_
  refine ST.lift (fun _ _ k => T_aload_n (v := .ref 231) d_Se_makeUp_8 rfl (Or.inr ⟨_, rfl⟩) k) ?_
  refine S_getfield d_Se_makeUp_9 fg_Se_49 (w231 _) rfl ?_
  refine S_virtual (as := [.ref 247]) (rest := []) (b := 62) d_Se_makeUp_12 rfl (jw_Kit_nextChance.jo (by decide)) lm_Se_155 ji_Kit_nextChance js_Kit_nextChance (w62 _) rfl rfl rfl (Nat.le_of_ble_eq_true rfl) (by decide) (by decide) (c_Kit_nextChance G u1 247 64 (by decide) a247 (by omega) (by omega) hv2) (fun r u4 hq => ?_)
  obtain ⟨hr, hv5, hm6⟩ := hq
  rw [hr]
  clear hr r
  have hm7 := hm3.go hm6 (by intro i hi; simp only [List.mem_cons, List.not_mem_nil, or_false] at hi ⊢ <;> omega)
  have e8 : u4 11 = nI 0 := (hm6 11 (by decide)).trans e_u1
  show ST G mi_Se_makeUp 15 [(0, .ref 231), (1, .ref 62)] [] u4 0 0 _
  refine ST.lift (fun _ _ k => T_aload_n (v := .ref 62) d_Se_makeUp_15 rfl (Or.inr ⟨_, rfl⟩) k) ?_
  refine ST.lift (fun _ _ k => T_aload_n (v := .ref 231) d_Se_makeUp_16 rfl (Or.inr ⟨_, rfl⟩) k) ?_
  refine S_getfield d_Se_makeUp_17 fg_Se_46 (w231 _) rfl ?_
  refine S_virtual (as := [.ref 246]) (rest := []) (b := 62) d_Se_makeUp_20 rfl (jw_Kit_nextScalar.jo (by decide)) lm_Se_159 ji_Kit_nextScalar js_Kit_nextScalar (w62 _) rfl rfl rfl (Nat.le_of_ble_eq_true rfl) (by decide) (by decide) (c_Kit_nextScalar G u4 246 32 (by decide) a246 (by omega) (by omega) hv5) (fun r u9 hq => ?_)
  obtain ⟨hr, hv10, hm11⟩ := hq
  rw [hr]
  clear hr r
  have hm12 := hm7.go hm11 (by intro i hi; simp only [List.mem_cons, List.not_mem_nil, or_false] at hi ⊢ <;> omega)
  have e13 : u9 11 = nI 0 := (hm11 11 (by decide)).trans e8
  show ST G mi_Se_makeUp 23 [(0, .ref 231), (1, .ref 62)] [] u9 0 0 _
  refine ST.lift (fun _ _ k => T_aload_n (v := .ref 62) d_Se_makeUp_23 rfl (Or.inr ⟨_, rfl⟩) k) ?_
  refine ST.lift (fun _ _ k => T_aload_n (v := .ref 231) d_Se_makeUp_24 rfl (Or.inr ⟨_, rfl⟩) k) ?_
  refine S_getfield d_Se_makeUp_25 fg_Se_46 (w231 _) rfl ?_
  refine ST.lift (fun _ _ k => T_aload_n (v := .ref 231) d_Se_makeUp_28 rfl (Or.inr ⟨_, rfl⟩) k) ?_
  refine S_getfield d_Se_makeUp_29 fg_Se_20 (w231 _) rfl ?_
  refine S_virtual (as := [.ref 246, .ref 233]) (rest := []) (b := 62) d_Se_makeUp_32 rfl (jw_Kit_putPublic.jo (by decide)) lm_Se_71 ji_Kit_putPublic js_Kit_putPublic (w62 _) rfl rfl rfl (Nat.le_of_ble_eq_true rfl) (by decide) (by decide) (c_Kit_putPublic G u9 246 32 (by decide) a246 (by omega) 233 234 192 11 ⟨w233, a234, by decide, u233_1, by decide, by decide⟩ (by omega) hv10) (fun r u14 hq => ?_)
  obtain ⟨hr, hv15, hm16⟩ := hq
  rw [hr]
  clear hr r
  have hm17 := hm12.go hm16 (by intro i hi; simp only [List.mem_cons, List.not_mem_nil, or_false] at hi ⊢ <;> omega)
  show ST G mi_Se_makeUp 35 [(0, .ref 231), (1, .ref 62)] [] u14 0 0 _
  refine ST.lift (fun _ _ k => T_aload_n (v := .ref 231) d_Se_makeUp_35 rfl (Or.inr ⟨_, rfl⟩) k) ?_
  refine S_getfield d_Se_makeUp_36 fg_Se_20 (w231 _) rfl ?_
  refine ST.lift (fun _ _ k => T_aload_n (v := .ref 231) d_Se_makeUp_39 rfl (Or.inr ⟨_, rfl⟩) k) ?_
  refine S_getfield d_Se_makeUp_40 fg_Se_49 (w231 _) rfl ?_
  refine ST.lift (fun _ _ k => T_iconst (v := nI 0) d_Se_makeUp_43 (by decide) k) ?_
  refine ST.lift (fun _ _ k => T_bipush (v := nI 64) d_Se_makeUp_44 (by decide) k) ?_
  refine S_virtual (as := [.ref 247, .int (nI 0), .int (nI 64)]) (rest := []) (b := 233) d_Se_makeUp_46 rfl (jw_By_put.jo (by decide)) lm_Se_148 ji_By_put js_By_put (w233 _) rfl rfl rfl (Nat.le_of_ble_eq_true rfl) (by decide) (by decide) (c_By_put G u14 233 234 192 11 ⟨w233, a234, by decide, u233_1, by decide, by decide⟩ 247 64 (by decide) a247 (by omega) 0 (by omega) 64 (by omega) hv15) (fun r u18 hq => ?_)
  obtain ⟨hr, hv19, hm20⟩ := hq
  rw [hr]
  clear hr r
  have hm21 := hm17.go hm20 (by intro i hi; simp only [List.mem_cons, List.not_mem_nil, or_false] at hi ⊢ <;> omega)
  show ST G mi_Se_makeUp 49 [(0, .ref 231), (1, .ref 62)] [] u18 0 0 _
  refine ST.lift (fun _ _ k => T_aload_n (v := .ref 231) d_Se_makeUp_49 rfl (Or.inr ⟨_, rfl⟩) k) ?_
  refine S_getfield d_Se_makeUp_50 fg_Se_20 (w231 _) rfl ?_
  refine ST.lift (fun _ _ k => T_bipush (v := nI 96) d_Se_makeUp_53 (by decide) k) ?_
  refine S_virtual (as := [.int (nI 96)]) (rest := []) (b := 233) d_Se_makeUp_55 rfl (jw_By_putZeros.jo (by decide)) lm_Se_162 ji_By_putZeros js_By_putZeros (w233 _) rfl rfl rfl (Nat.le_of_ble_eq_true rfl) (by decide) (by decide) (c_By_putZeros G u18 233 234 192 11 ⟨w233, a234, by decide, u233_1, by decide, by decide⟩ 96 (by omega) hv19) (fun r u22 hq => ?_)
  obtain ⟨hr, hv23, hm24⟩ := hq
  rw [hr]
  clear hr r
  have hm25 := hm21.go hm24 (by intro i hi; simp only [List.mem_cons, List.not_mem_nil, or_false] at hi ⊢ <;> omega)
  show ST G mi_Se_makeUp 58 [(0, .ref 231), (1, .ref 62)] [] u22 0 0 _
  exact S_vret d_Se_makeUp_58 rfl (by decide) (by decide) (hQ _ hv23 hm25)
set_option maxRecDepth 100000 in
set_option maxHeartbeats 4000000 in
theorem c_Se_putCredentials (G : GX) (v : Nat → Int32) (a ad ac aj : Nat) (y_a : isBy a ad ac aj) (b bd bc bj : Nat) (y_b : isBy b bd bc bj) (h192 : 192 ≤ ac) (h320 : 64 ≤ bc) (hv : okv v) : CS G mi_Se_putCredentials [.ref 231, .ref 62, .ref a, .ref b] v (fun r v' => r = none ∧ okv v' ∧ mdf [6, 7, 5, 2, 3, 1, 4, 11, 12, 13, 14, 15, bj] v v') := by
  refine CS.of (by decide) (Nat.le_of_ble_eq_true rfl) ?_
  generalize hQe : (fun (r : Option Value) (v' : Nat → Int32) => r = none ∧ okv v' ∧ mdf [6, 7, 5, 2, 3, 1, 4, 11, 12, 13, 14, 15, bj] v v') = Q
  have hQ : ∀ u, okv u → mdf [6, 7, 5, 2, 3, 1, 4, 11, 12, 13, 14, 15, bj] v u → Q none u := by rw [← hQe]; exact fun u h1 h2 => ⟨rfl, h1, h2⟩
  clear hQe
  have hm : mdf [6, 7, 5, 2, 3, 1, 4, 11, 12, 13, 14, 15, bj] v v := mdf.rf
  have l_a := y_a.2.2.2.2.2
  have l_b := y_b.2.2.2.2.2
  show ST G mi_Se_putCredentials 0 [(0, .ref 231), (1, .ref 62), (2, .ref a), (3, .ref b)] [] v 0 0 Q
  refine ST.lift (fun _ _ k => T_aload_n (v := .ref 62) d_Se_putCredentials_0 rfl (Or.inr ⟨_, rfl⟩) k) ?_
  refine S_getfield d_Se_putCredentials_1 fg_Se_117 (w62 _) rfl ?_
  refine ST.lift (fun _ _ k => T_aload_n (v := .ref 62) d_Se_putCredentials_4 rfl (Or.inr ⟨_, rfl⟩) k) ?_
  refine S_getfield d_Se_putCredentials_5 fg_Se_109 (w62 _) rfl ?_
  refine ST.lift (fun _ _ k => T_aload_n (v := .ref 231) d_Se_putCredentials_8 rfl (Or.inr ⟨_, rfl⟩) k) ?_
  refine S_getfield d_Se_putCredentials_9 fg_Se_43 (w231 _) rfl ?_
  refine ST.lift (fun _ _ k => T_aload_n (v := .ref 62) d_Se_putCredentials_12 rfl (Or.inr ⟨_, rfl⟩) k) ?_
  refine S_getfield d_Se_putCredentials_13 fg_Se_109 (w62 _) rfl ?_
  refine S_virtual (as := [.ref 188, .ref 245, .ref 188]) (rest := []) (b := 77) d_Se_putCredentials_16 rfl (jw_Cu_multiply.jo (by decide)) lm_Se_121 ji_Cu_multiply js_Cu_multiply (w77 _) rfl rfl rfl (Nat.le_of_ble_eq_true rfl) (by decide) (by decide) (c_Cu_multiply G v 188 189 190 191 192 ⟨w188, a189, a190, a191, a192, by decide, by decide, by decide, by decide⟩ 245 32 (by decide) a245 (by omega) 188 189 190 191 192 ⟨w188, a189, a190, a191, a192, by decide, by decide, by decide, by decide⟩ (by omega)) (fun r v' hq => ?_)
  rw [hq.1, hq.2]
  clear hq r v'
  show ST G mi_Se_putCredentials 19 [(0, .ref 231), (1, .ref 62), (2, .ref a), (3, .ref b)] [] v 0 0 _
  refine ST.lift (fun _ _ k => T_aload_n (v := .ref 62) d_Se_putCredentials_19 rfl (Or.inr ⟨_, rfl⟩) k) ?_
  refine S_getfield d_Se_putCredentials_20 fg_Se_117 (w62 _) rfl ?_
  refine ST.lift (fun _ _ k => T_aload_n (v := .ref 62) d_Se_putCredentials_23 rfl (Or.inr ⟨_, rfl⟩) k) ?_
  refine S_getfield d_Se_putCredentials_24 fg_Se_109 (w62 _) rfl ?_
  refine ST.lift (fun _ _ k => T_aload_n (v := .ref b) d_Se_putCredentials_27 rfl (Or.inr ⟨_, rfl⟩) k) ?_
  refine S_virtual (as := [.ref 188, .ref b]) (rest := []) (b := 77) d_Se_putCredentials_28 rfl (jw_Cu_code.jo (by decide)) lm_Se_219 ji_Cu_code js_Cu_code (w77 _) rfl rfl rfl (Nat.le_of_ble_eq_true rfl) (by decide) (by decide) (c_Cu_code G v 188 189 190 191 192 ⟨w188, a189, a190, a191, a192, by decide, by decide, by decide, by decide⟩ b bd bc bj y_b hv) (fun r u1 hq => ?_)
  obtain ⟨hr, hv2, hm3⟩ := hq
  rw [hr]
  clear hr r
  have hm4 := hm.go hm3 (by intro i hi; simp only [List.mem_cons, List.not_mem_nil, or_false] at hi ⊢ <;> omega)
  show ST G mi_Se_putCredentials 31 [(0, .ref 231), (1, .ref 62), (2, .ref a), (3, .ref b)] [] u1 0 0 _
  refine ST.lift (fun _ _ k => T_aload_n (v := .ref 62) d_Se_putCredentials_31 rfl (Or.inr ⟨_, rfl⟩) k) ?_
  refine ST.lift (fun _ _ k => T_aload_n (v := .ref b) d_Se_putCredentials_32 rfl (Or.inr ⟨_, rfl⟩) k) ?_
  refine S_virtual (as := [.ref b]) (rest := []) (b := 62) d_Se_putCredentials_33 rfl (jw_Kit_putNonce.jo (by decide)) lm_Se_130 ji_Kit_putNonce js_Kit_putNonce (w62 _) rfl rfl rfl (Nat.le_of_ble_eq_true rfl) (by decide) (by decide) (c_Kit_putNonce G u1 b bd bc bj y_b hv2) (fun r u5 hq => ?_)
  obtain ⟨hr, hv6, hm7⟩ := hq
  rw [hr]
  clear hr r
  have hm8 := hm4.go hm7 (by intro i hi; simp only [List.mem_cons, List.not_mem_nil, or_false] at hi ⊢ <;> omega)
  show ST G mi_Se_putCredentials 36 [(0, .ref 231), (1, .ref 62), (2, .ref a), (3, .ref b)] [] u5 0 0 _
  refine ST.lift (fun _ _ k => T_aload_n (v := .ref 231) d_Se_putCredentials_36 rfl (Or.inr ⟨_, rfl⟩) k) ?_
  refine S_getfield d_Se_putCredentials_37 fg_Se_24 (w231 _) rfl ?_
  refine S_virtual (as := []) (rest := []) (b := 235) d_Se_putCredentials_40 rfl (jw_By_clear.jo (by decide)) lm_Se_75 ji_By_clear js_By_clear (w235 _) rfl rfl rfl (Nat.le_of_ble_eq_true rfl) (by decide) (by decide) (c_By_clear G u5 235 236 128 12 ⟨w235, a236, by decide, u235_1, by decide, by decide⟩ hv6) (fun r v' hq => ?_)
  rw [hq.1, hq.2]
  clear hq r v'
  show ST G mi_Se_putCredentials 43 [(0, .ref 231), (1, .ref 62), (2, .ref a), (3, .ref b)] [] (va_up u5 12 (nI 0)) 0 0 _
  have hv10 := hv6.up (j := 12) (c := 128) (k := 0) (by decide) (by omega)
  have hm11 := hm8.go (mdf.up (v := u5) (j := 12) (x := (nI 0))) (by intro i hi; simp only [List.mem_cons, List.not_mem_nil, or_false] at hi ⊢ <;> omega)
  have e_u9 : (va_up u5 12 (nI 0)) 12 = (nI 0) := by simp [va_up]
  generalize va_up u5 12 (nI 0) = u9 at hv10 hm11 e_u9 ⊢
  refine ST.lift (fun _ _ k => T_aload_n (v := .ref 231) d_Se_putCredentials_43 rfl (Or.inr ⟨_, rfl⟩) k) ?_
  refine S_getfield d_Se_putCredentials_44 fg_Se_24 (w231 _) rfl ?_
  refine ST.lift (fun _ _ k => T_aload_n (v := .ref 231) d_Se_putCredentials_47 rfl (Or.inr ⟨_, rfl⟩) k) ?_
  refine S_getfield d_Se_putCredentials_48 fg_Se_40 (w231 _) rfl ?_
  refine S_virtual (as := [.ref 243]) (rest := []) (b := 235) d_Se_putCredentials_51 rfl (jw_By_putAll.jo (by decide)) lm_Se_144 ji_By_putAll js_By_putAll (w235 _) rfl rfl rfl (Nat.le_of_ble_eq_true rfl) (by decide) (by decide) (c_By_putAll G u9 235 236 128 12 ⟨w235, a236, by decide, u235_1, by decide, by decide⟩ 243 244 32 15 ⟨w243, a244, by decide, u243_1, by decide, by decide⟩ hv10) (fun r u12 hq => ?_)
  obtain ⟨hr, hv13, hm14⟩ := hq
  rw [hr]
  clear hr r
  have hm15 := hm11.go hm14 (by intro i hi; simp only [List.mem_cons, List.not_mem_nil, or_false] at hi ⊢ <;> omega)
  show ST G mi_Se_putCredentials 54 [(0, .ref 231), (1, .ref 62), (2, .ref a), (3, .ref b)] [] u12 0 0 _
  refine ST.lift (fun _ _ k => T_aload_n (v := .ref 231) d_Se_putCredentials_54 rfl (Or.inr ⟨_, rfl⟩) k) ?_
  refine S_getfield d_Se_putCredentials_55 fg_Se_24 (w231 _) rfl ?_
  refine ST.lift (fun _ _ k => T_aload_n (v := .ref a) d_Se_putCredentials_58 rfl (Or.inr ⟨_, rfl⟩) k) ?_
  refine S_getfield d_Se_putCredentials_59 fg_Se_134 (y_a.1 _) rfl ?_
  refine ST.lift (fun _ _ k => T_bipush (v := nI 96) d_Se_putCredentials_62 (by decide) k) ?_
  refine ST.lift (fun _ _ k => T_bipush (v := nI 96) d_Se_putCredentials_64 (by decide) k) ?_
  refine S_virtual (as := [.ref ad, .int (nI 96), .int (nI 96)]) (rest := []) (b := 235) d_Se_putCredentials_66 rfl (jw_By_put.jo (by decide)) lm_Se_148 ji_By_put js_By_put (w235 _) rfl rfl rfl (Nat.le_of_ble_eq_true rfl) (by decide) (by decide) (c_By_put G u12 235 236 128 12 ⟨w235, a236, by decide, u235_1, by decide, by decide⟩ ad ac y_a.2.2.1 y_a.2.1 (by omega) 96 (by omega) 96 (by omega) hv13) (fun r u16 hq => ?_)
  obtain ⟨hr, hv17, hm18⟩ := hq
  rw [hr]
  clear hr r
  have hm19 := hm15.go hm18 (by intro i hi; simp only [List.mem_cons, List.not_mem_nil, or_false] at hi ⊢ <;> omega)
  show ST G mi_Se_putCredentials 69 [(0, .ref 231), (1, .ref 62), (2, .ref a), (3, .ref b)] [] u16 0 0 _
  refine ST.lift (fun _ _ k => T_aload_n (v := .ref a) d_Se_putCredentials_69 rfl (Or.inr ⟨_, rfl⟩) k) ?_
  refine S_getfield d_Se_putCredentials_70 fg_Se_134 (y_a.1 _) rfl ?_
  refine ST.lift (fun _ _ k => T_bipush (v := nI 32) d_Se_putCredentials_73 (by decide) k) ?_
  refine ST.lift (fun _ _ k => T_aload_n (v := .ref 231) d_Se_putCredentials_75 rfl (Or.inr ⟨_, rfl⟩) k) ?_
  refine S_getfield d_Se_putCredentials_76 fg_Se_49 (w231 _) rfl ?_
  refine ST.lift (fun _ _ k => T_iconst (v := nI 0) d_Se_putCredentials_79 (by decide) k) ?_
  refine ST.lift (fun _ _ k => T_bipush (v := nI 64) d_Se_putCredentials_80 (by decide) k) ?_
  refine S_copyB d_Se_putCredentials_82 lm_Se_207 y_a.2.2.1 (by decide) y_a.2.1 a247 (by omega) (by omega) (by omega) (by omega) (by omega) (by decide) (Nat.le_of_ble_eq_true rfl) ?_
  refine ST.lift (fun _ _ k => T_aload_n (v := .ref 62) d_Se_putCredentials_85 rfl (Or.inr ⟨_, rfl⟩) k) ?_
  refine ST.lift (fun _ _ k => T_aload_n (v := .ref 231) d_Se_putCredentials_86 rfl (Or.inr ⟨_, rfl⟩) k) ?_
  refine S_getfield d_Se_putCredentials_87 fg_Se_49 (w231 _) rfl ?_
  refine ST.lift (fun _ _ k => T_aload_n (v := .ref b) d_Se_putCredentials_90 rfl (Or.inr ⟨_, rfl⟩) k) ?_
  refine S_getfield d_Se_putCredentials_91 fg_Se_134 (y_b.1 _) rfl ?_
  refine ST.lift (fun _ _ k => T_aload_n (v := .ref 231) d_Se_putCredentials_94 rfl (Or.inr ⟨_, rfl⟩) k) ?_
  refine S_getfield d_Se_putCredentials_95 fg_Se_24 (w231 _) rfl ?_
  refine S_getfield d_Se_putCredentials_98 fg_Se_134 (w235 _) rfl ?_
  refine ST.lift (fun _ _ k => T_iconst (v := nI 0) d_Se_putCredentials_101 (by decide) k) ?_
  refine ST.lift (fun _ _ k => T_aload_n (v := .ref b) d_Se_putCredentials_102 rfl (Or.inr ⟨_, rfl⟩) k) ?_
  refine S_virtual (as := [.ref 247, .ref bd, .ref 236, .int (nI 0), .ref b]) (rest := []) (b := 62) d_Se_putCredentials_103 rfl (jw_Kit_putMasked.jo (by decide)) lm_Se_223 ji_Kit_putMasked js_Kit_putMasked (w62 _) rfl rfl rfl (Nat.le_of_ble_eq_true rfl) (by decide) (by decide) (c_Kit_putMasked G u16 247 64 (by decide) a247 (by omega) bd bc y_b.2.2.1 y_b.2.1 (by omega) 236 128 (by decide) a236 (by omega) 0 (by omega) b bd bc bj y_b (by omega) hv17) (fun r u20 hq => ?_)
  obtain ⟨hr, hv21, hm22⟩ := hq
  rw [hr]
  clear hr r
  have hm23 := hm19.go hm22 (by intro i hi; simp only [List.mem_cons, List.not_mem_nil, or_false] at hi ⊢ <;> omega)
  show ST G mi_Se_putCredentials 106 [(0, .ref 231), (1, .ref 62), (2, .ref a), (3, .ref b)] [] u20 0 0 _
  exact S_vret d_Se_putCredentials_106 rfl (by decide) (by decide) (hQ _ hv21 hm23)
set_option maxRecDepth 100000 in
set_option maxHeartbeats 4000000 in
theorem c_Se_reply_265 (G : GX) (v : Nat → Int32) (hv : okv v) : CS G mi_Se_reply [.ref 231, .ref 62, .ref 217, .ref 265] v (fun r v' => ∃ z : Int32, r = some (.int z) ∧ okv v' ∧ mdf [6, 7, 5, 2, 3, 1, 4, 8, 9, 10, 11, 12, 13, 14, 15, 28, 29, 30, 31, 32, 33, 25, 26, 27, 24, 76, 77, 78] v v') := by
  refine CS.of (by decide) (Nat.le_of_ble_eq_true rfl) ?_
  generalize hQe : (fun (r : Option Value) (v' : Nat → Int32) => ∃ z : Int32, r = some (.int z) ∧ okv v' ∧ mdf [6, 7, 5, 2, 3, 1, 4, 8, 9, 10, 11, 12, 13, 14, 15, 28, 29, 30, 31, 32, 33, 25, 26, 27, 24, 76, 77, 78] v v') = Q
  have hQ : ∀ (z : Int32) (u : Nat → Int32), okv u → mdf [6, 7, 5, 2, 3, 1, 4, 8, 9, 10, 11, 12, 13, 14, 15, 28, 29, 30, 31, 32, 33, 25, 26, 27, 24, 76, 77, 78] v u → Q (some (.int z)) u := by rw [← hQe]; exact fun z u h1 h2 => ⟨z, rfl, h1, h2⟩
  clear hQe
  have hm : mdf [6, 7, 5, 2, 3, 1, 4, 8, 9, 10, 11, 12, 13, 14, 15, 28, 29, 30, 31, 32, 33, 25, 26, 27, 24, 76, 77, 78] v v := mdf.rf
  show ST G mi_Se_reply 0 [(0, .ref 231), (1, .ref 62), (2, .ref 217), (3, .ref 265)] [] v 0 0 Q
  refine ST.lift (fun _ _ k => T_aload_n (v := .ref 265) d_Se_reply_0 rfl (Or.inr ⟨_, rfl⟩) k) ?_
  refine S_getfield d_Se_reply_1 fg_Se_165 (w265 _) rfl ?_
  refine ST.lift (fun _ _ k => T_iconst (v := nI 0) d_Se_reply_4 (by decide) k) ?_
  refine S_aaload (C0 := "PasswordGate$Bytes") d_Se_reply_5 (by decide) (w266 _) rfl (vp_in_nI (by omega) (by omega)) ?_
  refine S_getfield d_Se_reply_6 fg_Se_134 (w279 _) rfl ?_
  refine ST.lift (fun _ _ k => T_astore (L' := [(4, .ref 280), (0, .ref 231), (1, .ref 62), (2, .ref 217), (3, .ref 265)]) d_Se_reply_9 (by decide) rfl (Or.inr ⟨_, rfl⟩) k) ?_
  refine ST.lift (fun _ _ k => T_aload_n (v := .ref 62) d_Se_reply_11 rfl (Or.inr ⟨_, rfl⟩) k) ?_
  refine S_getfield d_Se_reply_12 fg_Se_117 (w62 _) rfl ?_
  refine ST.lift (fun _ _ k => T_aload (v := .ref 280) d_Se_reply_15 rfl (Or.inr ⟨_, rfl⟩) k) ?_
  refine ST.lift (fun _ _ k => T_iconst (v := nI 0) d_Se_reply_17 (by decide) k) ?_
  refine ST.lift (fun _ _ k => T_aload_n (v := .ref 62) d_Se_reply_18 rfl (Or.inr ⟨_, rfl⟩) k) ?_
  refine S_getfield d_Se_reply_19 fg_Se_109 (w62 _) rfl ?_
  refine S_virtual (as := [.ref 280, .int (nI 0), .ref 188]) (rest := []) (b := 77) d_Se_reply_22 rfl (jw_Cu_decode.jo (by decide)) lm_Se_170 ji_Cu_decode js_Cu_decode (w77 _) rfl rfl rfl (Nat.le_of_ble_eq_true rfl) (by decide) (by decide) (c_Cu_decode G v 280 96 (by decide) a280 (by omega) 0 (by omega) 188 189 190 191 192 ⟨w188, a189, a190, a191, a192, by decide, by decide, by decide, by decide⟩ hv) (fun r u1 hq => ?_)
  obtain ⟨z4, hz4, hr, hv2, hm3⟩ := hq
  rw [hr]
  clear hr r
  have hm5 := hm.go hm3 (by intro i hi; simp only [List.mem_cons, List.not_mem_nil, or_false] at hi ⊢ <;> omega)
  show ST G mi_Se_reply 25 [(4, .ref 280), (0, .ref 231), (1, .ref 62), (2, .ref 217), (3, .ref 265)] [.int (nI z4)] u1 0 0 _
  refine S_if_eqN d_Se_reply_25 rfl (by omega) (fun c6 => ?_) (fun c6 => ?_)
  · refine ST.lift (fun _ _ k => T_iconst (v := nI 1) d_Se_reply_46 (by decide) k) ?_
    exact S_ret d_Se_reply_47 rfl rfl (by decide) (by decide) (hQ _ _ hv2 hm5)
  · refine ST.lift (fun _ _ k => T_aload_n (v := .ref 62) d_Se_reply_28 rfl (Or.inr ⟨_, rfl⟩) k) ?_
    refine S_getfield d_Se_reply_29 fg_Se_117 (w62 _) rfl ?_
    refine ST.lift (fun _ _ k => T_aload (v := .ref 280) d_Se_reply_32 rfl (Or.inr ⟨_, rfl⟩) k) ?_
    refine ST.lift (fun _ _ k => T_bipush (v := nI 64) d_Se_reply_34 (by decide) k) ?_
    refine ST.lift (fun _ _ k => T_aload_n (v := .ref 62) d_Se_reply_36 rfl (Or.inr ⟨_, rfl⟩) k) ?_
    refine S_getfield d_Se_reply_37 fg_Se_174 (w62 _) rfl ?_
    refine S_virtual (as := [.ref 280, .int (nI 64), .ref 193]) (rest := []) (b := 77) d_Se_reply_40 rfl (jw_Cu_decode.jo (by decide)) lm_Se_170 ji_Cu_decode js_Cu_decode (w77 _) rfl rfl rfl (Nat.le_of_ble_eq_true rfl) (by decide) (by decide) (c_Cu_decode G u1 280 96 (by decide) a280 (by omega) 64 (by omega) 193 194 195 196 197 ⟨w193, a194, a195, a196, a197, by decide, by decide, by decide, by decide⟩ hv2) (fun r u7 hq => ?_)
    obtain ⟨z10, hz10, hr, hv8, hm9⟩ := hq
    rw [hr]
    clear hr r
    have hm11 := hm5.go hm9 (by intro i hi; simp only [List.mem_cons, List.not_mem_nil, or_false] at hi ⊢ <;> omega)
    show ST G mi_Se_reply 43 [(4, .ref 280), (0, .ref 231), (1, .ref 62), (2, .ref 217), (3, .ref 265)] [.int (nI z10)] u7 0 0 _
    refine S_if_neN d_Se_reply_43 rfl (by omega) (fun c12 => ?_) (fun c12 => ?_)
    · refine ST.lift (fun _ _ k => T_aload_n (v := .ref 231) d_Se_reply_48 rfl (Or.inr ⟨_, rfl⟩) k) ?_
      refine ST.lift (fun _ _ k => T_aload_n (v := .ref 62) d_Se_reply_49 rfl (Or.inr ⟨_, rfl⟩) k) ?_
      refine S_virtual (as := [.ref 62]) (rest := []) (b := 231) d_Se_reply_50 rfl (jw_Se_open.jo (by decide)) lm_Se_101 ji_Se_open js_Se_open (w231 _) rfl rfl rfl (Nat.le_of_ble_eq_true rfl) (by decide) (by decide) (c_Se_open G u7 hv8) (fun r u13 hq => ?_)
      obtain ⟨hr, hv14, hm15⟩ := hq
      rw [hr]
      clear hr r
      have hm16 := hm11.go hm15 (by intro i hi; simp only [List.mem_cons, List.not_mem_nil, or_false] at hi ⊢ <;> omega)
      show ST G mi_Se_reply 53 [(4, .ref 280), (0, .ref 231), (1, .ref 62), (2, .ref 217), (3, .ref 265)] [] u13 0 0 _
      refine ST.lift (fun _ _ k => T_aload_n (v := .ref 231) d_Se_reply_53 rfl (Or.inr ⟨_, rfl⟩) k) ?_
      refine S_getfield d_Se_reply_54 fg_Se_11 (w231 _) rfl ?_
      refine ST.lift (fun _ _ k => T_aload_n (v := .ref 265) d_Se_reply_57 rfl (Or.inr ⟨_, rfl⟩) k) ?_
      obtain ⟨k17, hk17, ek17⟩ := hv14.get (j := 24) (c := 7) (by decide)
      refine S_getfield d_Se_reply_58 fg_Se_177 (w265 _) rfl ?_
      refine S_topi (y := nI k17) (ek17) ?_
      refine S_aaload (C0 := "PasswordGate$Bytes") d_Se_reply_61 (by decide) (w232 _) rfl (vp_in_nI (by omega) (by omega)) ?_
      obtain ⟨p18, p18d, p18j, e_p18, y_p18, j_p18⟩ := rec_232 k17 (by omega)
      refine S_topv (y := .ref p18) (by rw [nI_clamp (by omega)]; exact congrArg va_rf e_p18) ?_
      refine ST.lift (fun _ _ k => T_astore (L' := [(5, .ref p18), (4, .ref 280), (0, .ref 231), (1, .ref 62), (2, .ref 217), (3, .ref 265)]) d_Se_reply_62 (by decide) rfl (Or.inr ⟨_, rfl⟩) k) ?_
      refine ST.lift (fun _ _ k => T_aload (v := .ref p18) d_Se_reply_64 rfl (Or.inr ⟨_, rfl⟩) k) ?_
      obtain ⟨k19, hk19, ek19⟩ := hv14.get (j := p18j) (c := 192) y_p18.2.2.2.2.1
      refine S_getfield d_Se_reply_66 fg_Se_52 (y_p18.1 _) rfl ?_
      refine S_topi (y := nI k19) (ek19) ?_
      refine S_if_neN d_Se_reply_69 rfl (by omega) (fun c20 => ?_) (fun c20 => ?_)
      · refine ST.lift (fun _ _ k => T_aload_n (v := .ref 231) d_Se_reply_83 rfl (Or.inr ⟨_, rfl⟩) k) ?_
        refine ST.lift (fun _ _ k => T_aload_n (v := .ref 62) d_Se_reply_84 rfl (Or.inr ⟨_, rfl⟩) k) ?_
        refine ST.lift (fun _ _ k => T_aload_n (v := .ref 265) d_Se_reply_85 rfl (Or.inr ⟨_, rfl⟩) k) ?_
        refine S_getfield d_Se_reply_86 fg_Se_177 (w265 _) rfl ?_
        refine S_topi (y := nI k17) (ek17) ?_
        refine S_virtual (as := [.ref 62, .int (nI k17)]) (rest := []) (b := 231) d_Se_reply_89 rfl (jw_Se_findUserKey.jo (by decide)) lm_Se_105 ji_Se_findUserKey js_Se_findUserKey (w231 _) rfl rfl rfl (Nat.le_of_ble_eq_true rfl) (by decide) (by decide) (c_Se_findUserKey G u13 k17 (by omega) hv14) (fun r u21 hq => ?_)
        obtain ⟨hr, hv22, hm23⟩ := hq
        rw [hr]
        clear hr r
        have hm24 := hm16.go hm23 (by intro i hi; simp only [List.mem_cons, List.not_mem_nil, or_false] at hi ⊢ <;> omega)
        have e25 : u21 24 = nI k17 := (hm23 24 (by decide)).trans ek17
        show ST G mi_Se_reply 92 [(5, .ref p18), (4, .ref 280), (0, .ref 231), (1, .ref 62), (2, .ref 217), (3, .ref 265)] [] u21 0 0 _
        refine ST.lift (fun _ _ k => T_aload_n (v := .ref 265) d_Se_reply_92 rfl (Or.inr ⟨_, rfl⟩) k) ?_
        refine S_getfield d_Se_reply_93 fg_Se_165 (w265 _) rfl ?_
        refine ST.lift (fun _ _ k => T_iconst (v := nI 1) d_Se_reply_96 (by decide) k) ?_
        refine S_aaload (C0 := "PasswordGate$Bytes") d_Se_reply_97 (by decide) (w266 _) rfl (vp_in_nI (by omega) (by omega)) ?_
        refine ST.lift (fun _ _ k => T_astore (L' := [(6, .ref 281), (5, .ref p18), (4, .ref 280), (0, .ref 231), (1, .ref 62), (2, .ref 217), (3, .ref 265)]) d_Se_reply_98 (by decide) rfl (Or.inr ⟨_, rfl⟩) k) ?_
        refine ST.lift (fun _ _ k => T_aload_n (v := .ref 231) d_Se_reply_100 rfl (Or.inr ⟨_, rfl⟩) k) ?_
        refine ST.lift (fun _ _ k => T_aload_n (v := .ref 62) d_Se_reply_101 rfl (Or.inr ⟨_, rfl⟩) k) ?_
        refine ST.lift (fun _ _ k => T_aload (v := .ref p18) d_Se_reply_102 rfl (Or.inr ⟨_, rfl⟩) k) ?_
        refine ST.lift (fun _ _ k => T_aload (v := .ref 281) d_Se_reply_104 rfl (Or.inr ⟨_, rfl⟩) k) ?_
        refine S_virtual (as := [.ref 62, .ref p18, .ref 281]) (rest := []) (b := 231) d_Se_reply_106 rfl (jw_Se_putCredentials.jo (by decide)) lm_Se_182 ji_Se_putCredentials js_Se_putCredentials (w231 _) rfl rfl rfl (Nat.le_of_ble_eq_true rfl) (by decide) (by decide) (c_Se_putCredentials G u21 p18 p18d 192 p18j y_p18 281 282 320 29 ⟨w281, a282, by decide, u281_1, by decide, by decide⟩ (by omega) (by omega) hv22) (fun r u26 hq => ?_)
        obtain ⟨hr, hv27, hm28⟩ := hq
        rw [hr]
        clear hr r
        have hm29 := hm24.go hm28 (by intro i hi; simp only [List.mem_cons, List.not_mem_nil, or_false] at hi ⊢ <;> omega)
        have e30 : u26 24 = nI k17 := (hm28 24 (by decide)).trans e25
        show ST G mi_Se_reply 109 [(6, .ref 281), (5, .ref p18), (4, .ref 280), (0, .ref 231), (1, .ref 62), (2, .ref 217), (3, .ref 265)] [] u26 0 0 _
        refine ST.lift (fun _ _ k => T_aload_n (v := .ref 62) d_Se_reply_109 rfl (Or.inr ⟨_, rfl⟩) k) ?_
        refine ST.lift (fun _ _ k => T_aload (v := .ref 281) d_Se_reply_110 rfl (Or.inr ⟨_, rfl⟩) k) ?_
        refine S_virtual (as := [.ref 281]) (rest := []) (b := 62) d_Se_reply_112 rfl (jw_Kit_putNonce.jo (by decide)) lm_Se_130 ji_Kit_putNonce js_Kit_putNonce (w62 _) rfl rfl rfl (Nat.le_of_ble_eq_true rfl) (by decide) (by decide) (c_Kit_putNonce G u26 281 282 320 29 ⟨w281, a282, by decide, u281_1, by decide, by decide⟩ hv27) (fun r u31 hq => ?_)
        obtain ⟨hr, hv32, hm33⟩ := hq
        rw [hr]
        clear hr r
        have hm34 := hm29.go hm33 (by intro i hi; simp only [List.mem_cons, List.not_mem_nil, or_false] at hi ⊢ <;> omega)
        have e35 : u31 24 = nI k17 := (hm33 24 (by decide)).trans e30
        show ST G mi_Se_reply 115 [(6, .ref 281), (5, .ref p18), (4, .ref 280), (0, .ref 231), (1, .ref 62), (2, .ref 217), (3, .ref 265)] [] u31 0 0 _
        refine ST.lift (fun _ _ k => T_aload_n (v := .ref 62) d_Se_reply_115 rfl (Or.inr ⟨_, rfl⟩) k) ?_
        refine ST.lift (fun _ _ k => T_aload_n (v := .ref 231) d_Se_reply_116 rfl (Or.inr ⟨_, rfl⟩) k) ?_
        refine S_getfield d_Se_reply_117 fg_Se_46 (w231 _) rfl ?_
        refine S_virtual (as := [.ref 246]) (rest := []) (b := 62) d_Se_reply_120 rfl (jw_Kit_nextScalar.jo (by decide)) lm_Se_159 ji_Kit_nextScalar js_Kit_nextScalar (w62 _) rfl rfl rfl (Nat.le_of_ble_eq_true rfl) (by decide) (by decide) (c_Kit_nextScalar G u31 246 32 (by decide) a246 (by omega) (by omega) hv32) (fun r u36 hq => ?_)
        obtain ⟨hr, hv37, hm38⟩ := hq
        rw [hr]
        clear hr r
        have hm39 := hm34.go hm38 (by intro i hi; simp only [List.mem_cons, List.not_mem_nil, or_false] at hi ⊢ <;> omega)
        have e40 : u36 24 = nI k17 := (hm38 24 (by decide)).trans e35
        show ST G mi_Se_reply 123 [(6, .ref 281), (5, .ref p18), (4, .ref 280), (0, .ref 231), (1, .ref 62), (2, .ref 217), (3, .ref 265)] [] u36 0 0 _
        refine ST.lift (fun _ _ k => T_aload_n (v := .ref 62) d_Se_reply_123 rfl (Or.inr ⟨_, rfl⟩) k) ?_
        refine ST.lift (fun _ _ k => T_aload_n (v := .ref 231) d_Se_reply_124 rfl (Or.inr ⟨_, rfl⟩) k) ?_
        refine S_getfield d_Se_reply_125 fg_Se_46 (w231 _) rfl ?_
        refine ST.lift (fun _ _ k => T_aload (v := .ref 281) d_Se_reply_128 rfl (Or.inr ⟨_, rfl⟩) k) ?_
        refine S_virtual (as := [.ref 246, .ref 281]) (rest := []) (b := 62) d_Se_reply_130 rfl (jw_Kit_putPublic.jo (by decide)) lm_Se_71 ji_Kit_putPublic js_Kit_putPublic (w62 _) rfl rfl rfl (Nat.le_of_ble_eq_true rfl) (by decide) (by decide) (c_Kit_putPublic G u36 246 32 (by decide) a246 (by omega) 281 282 320 29 ⟨w281, a282, by decide, u281_1, by decide, by decide⟩ (by omega) hv37) (fun r u41 hq => ?_)
        obtain ⟨hr, hv42, hm43⟩ := hq
        rw [hr]
        clear hr r
        have hm44 := hm39.go hm43 (by intro i hi; simp only [List.mem_cons, List.not_mem_nil, or_false] at hi ⊢ <;> omega)
        have e45 : u41 24 = nI k17 := (hm43 24 (by decide)).trans e40
        show ST G mi_Se_reply 133 [(6, .ref 281), (5, .ref p18), (4, .ref 280), (0, .ref 231), (1, .ref 62), (2, .ref 217), (3, .ref 265)] [] u41 0 0 _
        refine ST.lift (fun _ _ k => T_aload_n (v := .ref 217) d_Se_reply_133 rfl (Or.inr ⟨_, rfl⟩) k) ?_
        refine ST.lift (fun _ _ k => T_aload (v := .ref p18) d_Se_reply_134 rfl (Or.inr ⟨_, rfl⟩) k) ?_
        refine S_getfield d_Se_reply_136 fg_Se_134 (y_p18.1 _) rfl ?_
        refine ST.lift (fun _ _ k => T_aload (v := .ref 280) d_Se_reply_139 rfl (Or.inr ⟨_, rfl⟩) k) ?_
        refine ST.lift (fun _ _ k => T_aload_n (v := .ref 231) d_Se_reply_141 rfl (Or.inr ⟨_, rfl⟩) k) ?_
        refine S_getfield d_Se_reply_142 fg_Se_40 (w231 _) rfl ?_
        refine S_getfield d_Se_reply_145 fg_Se_134 (w243 _) rfl ?_
        refine ST.lift (fun _ _ k => T_aload (v := .ref 281) d_Se_reply_148 rfl (Or.inr ⟨_, rfl⟩) k) ?_
        refine S_getfield d_Se_reply_150 fg_Se_134 (w281 _) rfl ?_
        refine S_virtual (as := [.ref p18d, .ref 280, .ref 244, .ref 282]) (rest := []) (b := 217) d_Se_reply_153 rfl (jw_Ex_open.jo (by decide)) lm_Se_186 ji_Ex_open js_Ex_open (w217 _) rfl rfl rfl (Nat.le_of_ble_eq_true rfl) (by decide) (by decide) (c_Ex_open G u41 p18d 192 y_p18.2.2.1 y_p18.2.1 (by omega) 280 96 (by decide) a280 (by omega) 244 32 (by decide) a244 (by omega) 282 320 (by decide) a282 (by omega) hv42) (fun r u46 hq => ?_)
        obtain ⟨hr, hv47, hm48⟩ := hq
        rw [hr]
        clear hr r
        have hm49 := hm44.go hm48 (by intro i hi; simp only [List.mem_cons, List.not_mem_nil, or_false] at hi ⊢ <;> omega)
        have e50 : u46 24 = nI k17 := (hm48 24 (by decide)).trans e45
        show ST G mi_Se_reply 156 [(6, .ref 281), (5, .ref p18), (4, .ref 280), (0, .ref 231), (1, .ref 62), (2, .ref 217), (3, .ref 265)] [] u46 0 0 _
        refine ST.lift (fun _ _ k => T_aload_n (v := .ref 217) d_Se_reply_156 rfl (Or.inr ⟨_, rfl⟩) k) ?_
        refine ST.lift (fun _ _ k => T_aload_n (v := .ref 62) d_Se_reply_157 rfl (Or.inr ⟨_, rfl⟩) k) ?_
        refine ST.lift (fun _ _ k => T_aload_n (v := .ref 231) d_Se_reply_158 rfl (Or.inr ⟨_, rfl⟩) k) ?_
        refine S_getfield d_Se_reply_159 fg_Se_46 (w231 _) rfl ?_
        refine ST.lift (fun _ _ k => T_aload_n (v := .ref 62) d_Se_reply_162 rfl (Or.inr ⟨_, rfl⟩) k) ?_
        refine S_getfield d_Se_reply_163 fg_Se_174 (w62 _) rfl ?_
        refine S_virtual (as := [.ref 62, .ref 246, .ref 193]) (rest := []) (b := 217) d_Se_reply_166 rfl (jw_Ex_join.jo (by decide)) lm_Se_191 ji_Ex_join js_Ex_join (w217 _) rfl rfl rfl (Nat.le_of_ble_eq_true rfl) (by decide) (by decide) (c_Ex_join G u46 246 32 (by decide) a246 (by omega) 193 194 195 196 197 ⟨w193, a194, a195, a196, a197, by decide, by decide, by decide, by decide⟩ (by omega) hv47) (fun r u51 hq => ?_)
        obtain ⟨hr, hv52, hm53⟩ := hq
        rw [hr]
        clear hr r
        have hm54 := hm49.go hm53 (by intro i hi; simp only [List.mem_cons, List.not_mem_nil, or_false] at hi ⊢ <;> omega)
        have e55 : u51 24 = nI k17 := (hm53 24 (by decide)).trans e50
        show ST G mi_Se_reply 169 [(6, .ref 281), (5, .ref p18), (4, .ref 280), (0, .ref 231), (1, .ref 62), (2, .ref 217), (3, .ref 265)] [] u51 0 0 _
        refine ST.lift (fun _ _ k => T_aload_n (v := .ref 217) d_Se_reply_169 rfl (Or.inr ⟨_, rfl⟩) k) ?_
        refine ST.lift (fun _ _ k => T_aload_n (v := .ref 62) d_Se_reply_170 rfl (Or.inr ⟨_, rfl⟩) k) ?_
        refine ST.lift (fun _ _ k => T_aload_n (v := .ref 231) d_Se_reply_171 rfl (Or.inr ⟨_, rfl⟩) k) ?_
        refine S_getfield d_Se_reply_172 fg_Se_37 (w231 _) rfl ?_
        refine ST.lift (fun _ _ k => T_aload_n (v := .ref 62) d_Se_reply_175 rfl (Or.inr ⟨_, rfl⟩) k) ?_
        refine S_getfield d_Se_reply_176 fg_Se_174 (w62 _) rfl ?_
        refine S_virtual (as := [.ref 62, .ref 242, .ref 193]) (rest := []) (b := 217) d_Se_reply_179 rfl (jw_Ex_join.jo (by decide)) lm_Se_191 ji_Ex_join js_Ex_join (w217 _) rfl rfl rfl (Nat.le_of_ble_eq_true rfl) (by decide) (by decide) (c_Ex_join G u51 242 32 (by decide) a242 (by omega) 193 194 195 196 197 ⟨w193, a194, a195, a196, a197, by decide, by decide, by decide, by decide⟩ (by omega) hv52) (fun r u56 hq => ?_)
        obtain ⟨hr, hv57, hm58⟩ := hq
        rw [hr]
        clear hr r
        have hm59 := hm54.go hm58 (by intro i hi; simp only [List.mem_cons, List.not_mem_nil, or_false] at hi ⊢ <;> omega)
        have e60 : u56 24 = nI k17 := (hm58 24 (by decide)).trans e55
        show ST G mi_Se_reply 182 [(6, .ref 281), (5, .ref p18), (4, .ref 280), (0, .ref 231), (1, .ref 62), (2, .ref 217), (3, .ref 265)] [] u56 0 0 _
        refine ST.lift (fun _ _ k => T_aload_n (v := .ref 62) d_Se_reply_182 rfl (Or.inr ⟨_, rfl⟩) k) ?_
        refine S_getfield d_Se_reply_183 fg_Se_117 (w62 _) rfl ?_
        refine ST.lift (fun _ _ k => T_aload (v := .ref p18) d_Se_reply_186 rfl (Or.inr ⟨_, rfl⟩) k) ?_
        refine S_getfield d_Se_reply_188 fg_Se_134 (y_p18.1 _) rfl ?_
        refine ST.lift (fun _ _ k => T_iconst (v := nI 0) d_Se_reply_191 (by decide) k) ?_
        refine ST.lift (fun _ _ k => T_aload_n (v := .ref 62) d_Se_reply_192 rfl (Or.inr ⟨_, rfl⟩) k) ?_
        refine S_getfield d_Se_reply_193 fg_Se_109 (w62 _) rfl ?_
        refine S_virtual (as := [.ref p18d, .int (nI 0), .ref 188]) (rest := []) (b := 77) d_Se_reply_196 rfl (jw_Cu_decode.jo (by decide)) lm_Se_170 ji_Cu_decode js_Cu_decode (w77 _) rfl rfl rfl (Nat.le_of_ble_eq_true rfl) (by decide) (by decide) (c_Cu_decode G u56 p18d 192 y_p18.2.2.1 y_p18.2.1 (by omega) 0 (by omega) 188 189 190 191 192 ⟨w188, a189, a190, a191, a192, by decide, by decide, by decide, by decide⟩ hv57) (fun r u61 hq => ?_)
        obtain ⟨z64, hz64, hr, hv62, hm63⟩ := hq
        rw [hr]
        clear hr r
        have hm65 := hm59.go hm63 (by intro i hi; simp only [List.mem_cons, List.not_mem_nil, or_false] at hi ⊢ <;> omega)
        have e66 : u61 24 = nI k17 := (hm63 24 (by decide)).trans e60
        show ST G mi_Se_reply 199 [(6, .ref 281), (5, .ref p18), (4, .ref 280), (0, .ref 231), (1, .ref 62), (2, .ref 217), (3, .ref 265)] [.int (nI z64)] u61 0 0 _
        refine ST.lift (fun _ _ k => T_pop d_Se_reply_199 rfl k) ?_
        refine ST.lift (fun _ _ k => T_aload_n (v := .ref 217) d_Se_reply_200 rfl (Or.inr ⟨_, rfl⟩) k) ?_
        refine ST.lift (fun _ _ k => T_aload_n (v := .ref 62) d_Se_reply_201 rfl (Or.inr ⟨_, rfl⟩) k) ?_
        refine ST.lift (fun _ _ k => T_aload_n (v := .ref 231) d_Se_reply_202 rfl (Or.inr ⟨_, rfl⟩) k) ?_
        refine S_getfield d_Se_reply_203 fg_Se_46 (w231 _) rfl ?_
        refine ST.lift (fun _ _ k => T_aload_n (v := .ref 62) d_Se_reply_206 rfl (Or.inr ⟨_, rfl⟩) k) ?_
        refine S_getfield d_Se_reply_207 fg_Se_109 (w62 _) rfl ?_
        refine S_virtual (as := [.ref 62, .ref 246, .ref 188]) (rest := []) (b := 217) d_Se_reply_210 rfl (jw_Ex_join.jo (by decide)) lm_Se_191 ji_Ex_join js_Ex_join (w217 _) rfl rfl rfl (Nat.le_of_ble_eq_true rfl) (by decide) (by decide) (c_Ex_join G u61 246 32 (by decide) a246 (by omega) 188 189 190 191 192 ⟨w188, a189, a190, a191, a192, by decide, by decide, by decide, by decide⟩ (by omega) hv62) (fun r u67 hq => ?_)
        obtain ⟨hr, hv68, hm69⟩ := hq
        rw [hr]
        clear hr r
        have hm70 := hm65.go hm69 (by intro i hi; simp only [List.mem_cons, List.not_mem_nil, or_false] at hi ⊢ <;> omega)
        have e71 : u67 24 = nI k17 := (hm69 24 (by decide)).trans e66
        show ST G mi_Se_reply 213 [(6, .ref 281), (5, .ref p18), (4, .ref 280), (0, .ref 231), (1, .ref 62), (2, .ref 217), (3, .ref 265)] [] u67 0 0 _
        refine ST.lift (fun _ _ k => T_aload_n (v := .ref 217) d_Se_reply_213 rfl (Or.inr ⟨_, rfl⟩) k) ?_
        refine ST.lift (fun _ _ k => T_aload_n (v := .ref 62) d_Se_reply_214 rfl (Or.inr ⟨_, rfl⟩) k) ?_
        refine S_virtual (as := [.ref 62]) (rest := []) (b := 217) d_Se_reply_215 rfl (jw_Ex_settle.jo (by decide)) lm_Se_195 ji_Ex_settle js_Ex_settle (w217 _) rfl rfl rfl (Nat.le_of_ble_eq_true rfl) (by decide) (by decide) (c_Ex_settle G u67 hv68) (fun r u72 hq => ?_)
        obtain ⟨hr, hv73, hm74⟩ := hq
        rw [hr]
        clear hr r
        have hm75 := hm70.go hm74 (by intro i hi; simp only [List.mem_cons, List.not_mem_nil, or_false] at hi ⊢ <;> omega)
        have e76 : u72 24 = nI k17 := (hm74 24 (by decide)).trans e71
        show ST G mi_Se_reply 218 [(6, .ref 281), (5, .ref p18), (4, .ref 280), (0, .ref 231), (1, .ref 62), (2, .ref 217), (3, .ref 265)] [] u72 0 0 _
        refine ST.lift (fun _ _ k => T_aload (v := .ref 281) d_Se_reply_218 rfl (Or.inr ⟨_, rfl⟩) k) ?_
        refine ST.lift (fun _ _ k => T_aload_n (v := .ref 217) d_Se_reply_220 rfl (Or.inr ⟨_, rfl⟩) k) ?_
        refine S_getfield d_Se_reply_221 fg_Se_198 (w217 _) rfl ?_
        refine ST.lift (fun _ _ k => T_iconst (v := nI 0) d_Se_reply_224 (by decide) k) ?_
        refine ST.lift (fun _ _ k => T_bipush (v := nI 64) d_Se_reply_225 (by decide) k) ?_
        refine S_virtual (as := [.ref 218, .int (nI 0), .int (nI 64)]) (rest := []) (b := 281) d_Se_reply_227 rfl (jw_By_put.jo (by decide)) lm_Se_148 ji_By_put js_By_put (w281 _) rfl rfl rfl (Nat.le_of_ble_eq_true rfl) (by decide) (by decide) (c_By_put G u72 281 282 320 29 ⟨w281, a282, by decide, u281_1, by decide, by decide⟩ 218 64 (by decide) a218 (by omega) 0 (by omega) 64 (by omega) hv73) (fun r u77 hq => ?_)
        obtain ⟨hr, hv78, hm79⟩ := hq
        rw [hr]
        clear hr r
        have hm80 := hm75.go hm79 (by intro i hi; simp only [List.mem_cons, List.not_mem_nil, or_false] at hi ⊢ <;> omega)
        have e81 : u77 24 = nI k17 := (hm79 24 (by decide)).trans e76
        show ST G mi_Se_reply 230 [(6, .ref 281), (5, .ref p18), (4, .ref 280), (0, .ref 231), (1, .ref 62), (2, .ref 217), (3, .ref 265)] [] u77 0 0 _
        refine ST.lift (fun _ _ k => T_aload_n (v := .ref 217) d_Se_reply_230 rfl (Or.inr ⟨_, rfl⟩) k) ?_
        refine S_getfield d_Se_reply_231 fg_Se_201 (w217 _) rfl ?_
        refine ST.lift (fun _ _ k => T_iconst (v := nI 0) d_Se_reply_234 (by decide) k) ?_
        refine ST.lift (fun _ _ k => T_aload_n (v := .ref 265) d_Se_reply_235 rfl (Or.inr ⟨_, rfl⟩) k) ?_
        refine S_getfield d_Se_reply_236 fg_Se_204 (w265 _) rfl ?_
        refine ST.lift (fun _ _ k => T_iconst (v := nI 0) d_Se_reply_239 (by decide) k) ?_
        refine ST.lift (fun _ _ k => T_bipush (v := nI 64) d_Se_reply_240 (by decide) k) ?_
        refine S_copyB d_Se_reply_242 lm_Se_207 (by decide) (by decide) a219 a268 (by omega) (by omega) (by omega) (by omega) (by omega) (by decide) (Nat.le_of_ble_eq_true rfl) ?_
        refine ST.lift (fun _ _ k => T_aload_n (v := .ref 217) d_Se_reply_245 rfl (Or.inr ⟨_, rfl⟩) k) ?_
        refine S_getfield d_Se_reply_246 fg_Se_213 (w217 _) rfl ?_
        refine ST.lift (fun _ _ k => T_iconst (v := nI 0) d_Se_reply_249 (by decide) k) ?_
        refine ST.lift (fun _ _ k => T_aload_n (v := .ref 265) d_Se_reply_250 rfl (Or.inr ⟨_, rfl⟩) k) ?_
        refine S_getfield d_Se_reply_251 fg_Se_216 (w265 _) rfl ?_
        refine ST.lift (fun _ _ k => T_iconst (v := nI 0) d_Se_reply_254 (by decide) k) ?_
        refine ST.lift (fun _ _ k => T_bipush (v := nI 64) d_Se_reply_255 (by decide) k) ?_
        refine S_copyB d_Se_reply_257 lm_Se_207 (by decide) (by decide) a220 a269 (by omega) (by omega) (by omega) (by omega) (by omega) (by decide) (Nat.le_of_ble_eq_true rfl) ?_
        refine ST.lift (fun _ _ k => T_iconst (v := nI 0) d_Se_reply_260 (by decide) k) ?_
        exact S_ret d_Se_reply_261 rfl rfl (by decide) (by decide) (hQ _ _ hv78 hm80)
      · refine ST.lift (fun _ _ k => T_aload_n (v := .ref 231) d_Se_reply_72 rfl (Or.inr ⟨_, rfl⟩) k) ?_
        refine ST.lift (fun _ _ k => T_aload_n (v := .ref 62) d_Se_reply_73 rfl (Or.inr ⟨_, rfl⟩) k) ?_
        refine S_virtual (as := [.ref 62]) (rest := []) (b := 231) d_Se_reply_74 rfl (jw_Se_makeUp.jo (by decide)) lm_Se_179 ji_Se_makeUp js_Se_makeUp (w231 _) rfl rfl rfl (Nat.le_of_ble_eq_true rfl) (by decide) (by decide) (c_Se_makeUp G u13 hv14) (fun r u82 hq => ?_)
        obtain ⟨hr, hv83, hm84⟩ := hq
        rw [hr]
        clear hr r
        have hm85 := hm16.go hm84 (by intro i hi; simp only [List.mem_cons, List.not_mem_nil, or_false] at hi ⊢ <;> omega)
        have e86 : u82 24 = nI k17 := (hm84 24 (by decide)).trans ek17
        show ST G mi_Se_reply 77 [(5, .ref p18), (4, .ref 280), (0, .ref 231), (1, .ref 62), (2, .ref 217), (3, .ref 265)] [] u82 0 0 _
        refine ST.lift (fun _ _ k => T_aload_n (v := .ref 231) d_Se_reply_77 rfl (Or.inr ⟨_, rfl⟩) k) ?_
        refine S_getfield d_Se_reply_78 fg_Se_20 (w231 _) rfl ?_
        refine ST.lift (fun _ _ k => T_astore (L' := [(5, .ref 233), (4, .ref 280), (0, .ref 231), (1, .ref 62), (2, .ref 217), (3, .ref 265)]) d_Se_reply_81 (by decide) rfl (Or.inr ⟨_, rfl⟩) k) ?_
        refine ST.lift (fun _ _ k => T_aload_n (v := .ref 231) d_Se_reply_83 rfl (Or.inr ⟨_, rfl⟩) k) ?_
        refine ST.lift (fun _ _ k => T_aload_n (v := .ref 62) d_Se_reply_84 rfl (Or.inr ⟨_, rfl⟩) k) ?_
        refine ST.lift (fun _ _ k => T_aload_n (v := .ref 265) d_Se_reply_85 rfl (Or.inr ⟨_, rfl⟩) k) ?_
        refine S_getfield d_Se_reply_86 fg_Se_177 (w265 _) rfl ?_
        refine S_topi (y := nI k17) (e86) ?_
        refine S_virtual (as := [.ref 62, .int (nI k17)]) (rest := []) (b := 231) d_Se_reply_89 rfl (jw_Se_findUserKey.jo (by decide)) lm_Se_105 ji_Se_findUserKey js_Se_findUserKey (w231 _) rfl rfl rfl (Nat.le_of_ble_eq_true rfl) (by decide) (by decide) (c_Se_findUserKey G u82 k17 (by omega) hv83) (fun r u87 hq => ?_)
        obtain ⟨hr, hv88, hm89⟩ := hq
        rw [hr]
        clear hr r
        have hm90 := hm85.go hm89 (by intro i hi; simp only [List.mem_cons, List.not_mem_nil, or_false] at hi ⊢ <;> omega)
        have e91 : u87 24 = nI k17 := (hm89 24 (by decide)).trans e86
        show ST G mi_Se_reply 92 [(5, .ref 233), (4, .ref 280), (0, .ref 231), (1, .ref 62), (2, .ref 217), (3, .ref 265)] [] u87 0 0 _
        refine ST.lift (fun _ _ k => T_aload_n (v := .ref 265) d_Se_reply_92 rfl (Or.inr ⟨_, rfl⟩) k) ?_
        refine S_getfield d_Se_reply_93 fg_Se_165 (w265 _) rfl ?_
        refine ST.lift (fun _ _ k => T_iconst (v := nI 1) d_Se_reply_96 (by decide) k) ?_
        refine S_aaload (C0 := "PasswordGate$Bytes") d_Se_reply_97 (by decide) (w266 _) rfl (vp_in_nI (by omega) (by omega)) ?_
        refine ST.lift (fun _ _ k => T_astore (L' := [(6, .ref 281), (5, .ref 233), (4, .ref 280), (0, .ref 231), (1, .ref 62), (2, .ref 217), (3, .ref 265)]) d_Se_reply_98 (by decide) rfl (Or.inr ⟨_, rfl⟩) k) ?_
        refine ST.lift (fun _ _ k => T_aload_n (v := .ref 231) d_Se_reply_100 rfl (Or.inr ⟨_, rfl⟩) k) ?_
        refine ST.lift (fun _ _ k => T_aload_n (v := .ref 62) d_Se_reply_101 rfl (Or.inr ⟨_, rfl⟩) k) ?_
        refine ST.lift (fun _ _ k => T_aload (v := .ref 233) d_Se_reply_102 rfl (Or.inr ⟨_, rfl⟩) k) ?_
        refine ST.lift (fun _ _ k => T_aload (v := .ref 281) d_Se_reply_104 rfl (Or.inr ⟨_, rfl⟩) k) ?_
        refine S_virtual (as := [.ref 62, .ref 233, .ref 281]) (rest := []) (b := 231) d_Se_reply_106 rfl (jw_Se_putCredentials.jo (by decide)) lm_Se_182 ji_Se_putCredentials js_Se_putCredentials (w231 _) rfl rfl rfl (Nat.le_of_ble_eq_true rfl) (by decide) (by decide) (c_Se_putCredentials G u87 233 234 192 11 ⟨w233, a234, by decide, u233_1, by decide, by decide⟩ 281 282 320 29 ⟨w281, a282, by decide, u281_1, by decide, by decide⟩ (by omega) (by omega) hv88) (fun r u92 hq => ?_)
        obtain ⟨hr, hv93, hm94⟩ := hq
        rw [hr]
        clear hr r
        have hm95 := hm90.go hm94 (by intro i hi; simp only [List.mem_cons, List.not_mem_nil, or_false] at hi ⊢ <;> omega)
        have e96 : u92 24 = nI k17 := (hm94 24 (by decide)).trans e91
        show ST G mi_Se_reply 109 [(6, .ref 281), (5, .ref 233), (4, .ref 280), (0, .ref 231), (1, .ref 62), (2, .ref 217), (3, .ref 265)] [] u92 0 0 _
        refine ST.lift (fun _ _ k => T_aload_n (v := .ref 62) d_Se_reply_109 rfl (Or.inr ⟨_, rfl⟩) k) ?_
        refine ST.lift (fun _ _ k => T_aload (v := .ref 281) d_Se_reply_110 rfl (Or.inr ⟨_, rfl⟩) k) ?_
        refine S_virtual (as := [.ref 281]) (rest := []) (b := 62) d_Se_reply_112 rfl (jw_Kit_putNonce.jo (by decide)) lm_Se_130 ji_Kit_putNonce js_Kit_putNonce (w62 _) rfl rfl rfl (Nat.le_of_ble_eq_true rfl) (by decide) (by decide) (c_Kit_putNonce G u92 281 282 320 29 ⟨w281, a282, by decide, u281_1, by decide, by decide⟩ hv93) (fun r u97 hq => ?_)
        obtain ⟨hr, hv98, hm99⟩ := hq
        rw [hr]
        clear hr r
        have hm100 := hm95.go hm99 (by intro i hi; simp only [List.mem_cons, List.not_mem_nil, or_false] at hi ⊢ <;> omega)
        have e101 : u97 24 = nI k17 := (hm99 24 (by decide)).trans e96
        show ST G mi_Se_reply 115 [(6, .ref 281), (5, .ref 233), (4, .ref 280), (0, .ref 231), (1, .ref 62), (2, .ref 217), (3, .ref 265)] [] u97 0 0 _
        refine ST.lift (fun _ _ k => T_aload_n (v := .ref 62) d_Se_reply_115 rfl (Or.inr ⟨_, rfl⟩) k) ?_
        refine ST.lift (fun _ _ k => T_aload_n (v := .ref 231) d_Se_reply_116 rfl (Or.inr ⟨_, rfl⟩) k) ?_
        refine S_getfield d_Se_reply_117 fg_Se_46 (w231 _) rfl ?_
        refine S_virtual (as := [.ref 246]) (rest := []) (b := 62) d_Se_reply_120 rfl (jw_Kit_nextScalar.jo (by decide)) lm_Se_159 ji_Kit_nextScalar js_Kit_nextScalar (w62 _) rfl rfl rfl (Nat.le_of_ble_eq_true rfl) (by decide) (by decide) (c_Kit_nextScalar G u97 246 32 (by decide) a246 (by omega) (by omega) hv98) (fun r u102 hq => ?_)
        obtain ⟨hr, hv103, hm104⟩ := hq
        rw [hr]
        clear hr r
        have hm105 := hm100.go hm104 (by intro i hi; simp only [List.mem_cons, List.not_mem_nil, or_false] at hi ⊢ <;> omega)
        have e106 : u102 24 = nI k17 := (hm104 24 (by decide)).trans e101
        show ST G mi_Se_reply 123 [(6, .ref 281), (5, .ref 233), (4, .ref 280), (0, .ref 231), (1, .ref 62), (2, .ref 217), (3, .ref 265)] [] u102 0 0 _
        refine ST.lift (fun _ _ k => T_aload_n (v := .ref 62) d_Se_reply_123 rfl (Or.inr ⟨_, rfl⟩) k) ?_
        refine ST.lift (fun _ _ k => T_aload_n (v := .ref 231) d_Se_reply_124 rfl (Or.inr ⟨_, rfl⟩) k) ?_
        refine S_getfield d_Se_reply_125 fg_Se_46 (w231 _) rfl ?_
        refine ST.lift (fun _ _ k => T_aload (v := .ref 281) d_Se_reply_128 rfl (Or.inr ⟨_, rfl⟩) k) ?_
        refine S_virtual (as := [.ref 246, .ref 281]) (rest := []) (b := 62) d_Se_reply_130 rfl (jw_Kit_putPublic.jo (by decide)) lm_Se_71 ji_Kit_putPublic js_Kit_putPublic (w62 _) rfl rfl rfl (Nat.le_of_ble_eq_true rfl) (by decide) (by decide) (c_Kit_putPublic G u102 246 32 (by decide) a246 (by omega) 281 282 320 29 ⟨w281, a282, by decide, u281_1, by decide, by decide⟩ (by omega) hv103) (fun r u107 hq => ?_)
        obtain ⟨hr, hv108, hm109⟩ := hq
        rw [hr]
        clear hr r
        have hm110 := hm105.go hm109 (by intro i hi; simp only [List.mem_cons, List.not_mem_nil, or_false] at hi ⊢ <;> omega)
        have e111 : u107 24 = nI k17 := (hm109 24 (by decide)).trans e106
        show ST G mi_Se_reply 133 [(6, .ref 281), (5, .ref 233), (4, .ref 280), (0, .ref 231), (1, .ref 62), (2, .ref 217), (3, .ref 265)] [] u107 0 0 _
        refine ST.lift (fun _ _ k => T_aload_n (v := .ref 217) d_Se_reply_133 rfl (Or.inr ⟨_, rfl⟩) k) ?_
        refine ST.lift (fun _ _ k => T_aload (v := .ref 233) d_Se_reply_134 rfl (Or.inr ⟨_, rfl⟩) k) ?_
        refine S_getfield d_Se_reply_136 fg_Se_134 (w233 _) rfl ?_
        refine ST.lift (fun _ _ k => T_aload (v := .ref 280) d_Se_reply_139 rfl (Or.inr ⟨_, rfl⟩) k) ?_
        refine ST.lift (fun _ _ k => T_aload_n (v := .ref 231) d_Se_reply_141 rfl (Or.inr ⟨_, rfl⟩) k) ?_
        refine S_getfield d_Se_reply_142 fg_Se_40 (w231 _) rfl ?_
        refine S_getfield d_Se_reply_145 fg_Se_134 (w243 _) rfl ?_
        refine ST.lift (fun _ _ k => T_aload (v := .ref 281) d_Se_reply_148 rfl (Or.inr ⟨_, rfl⟩) k) ?_
        refine S_getfield d_Se_reply_150 fg_Se_134 (w281 _) rfl ?_
        refine S_virtual (as := [.ref 234, .ref 280, .ref 244, .ref 282]) (rest := []) (b := 217) d_Se_reply_153 rfl (jw_Ex_open.jo (by decide)) lm_Se_186 ji_Ex_open js_Ex_open (w217 _) rfl rfl rfl (Nat.le_of_ble_eq_true rfl) (by decide) (by decide) (c_Ex_open G u107 234 192 (by decide) a234 (by omega) 280 96 (by decide) a280 (by omega) 244 32 (by decide) a244 (by omega) 282 320 (by decide) a282 (by omega) hv108) (fun r u112 hq => ?_)
        obtain ⟨hr, hv113, hm114⟩ := hq
        rw [hr]
        clear hr r
        have hm115 := hm110.go hm114 (by intro i hi; simp only [List.mem_cons, List.not_mem_nil, or_false] at hi ⊢ <;> omega)
        have e116 : u112 24 = nI k17 := (hm114 24 (by decide)).trans e111
        show ST G mi_Se_reply 156 [(6, .ref 281), (5, .ref 233), (4, .ref 280), (0, .ref 231), (1, .ref 62), (2, .ref 217), (3, .ref 265)] [] u112 0 0 _
        refine ST.lift (fun _ _ k => T_aload_n (v := .ref 217) d_Se_reply_156 rfl (Or.inr ⟨_, rfl⟩) k) ?_
        refine ST.lift (fun _ _ k => T_aload_n (v := .ref 62) d_Se_reply_157 rfl (Or.inr ⟨_, rfl⟩) k) ?_
        refine ST.lift (fun _ _ k => T_aload_n (v := .ref 231) d_Se_reply_158 rfl (Or.inr ⟨_, rfl⟩) k) ?_
        refine S_getfield d_Se_reply_159 fg_Se_46 (w231 _) rfl ?_
        refine ST.lift (fun _ _ k => T_aload_n (v := .ref 62) d_Se_reply_162 rfl (Or.inr ⟨_, rfl⟩) k) ?_
        refine S_getfield d_Se_reply_163 fg_Se_174 (w62 _) rfl ?_
        refine S_virtual (as := [.ref 62, .ref 246, .ref 193]) (rest := []) (b := 217) d_Se_reply_166 rfl (jw_Ex_join.jo (by decide)) lm_Se_191 ji_Ex_join js_Ex_join (w217 _) rfl rfl rfl (Nat.le_of_ble_eq_true rfl) (by decide) (by decide) (c_Ex_join G u112 246 32 (by decide) a246 (by omega) 193 194 195 196 197 ⟨w193, a194, a195, a196, a197, by decide, by decide, by decide, by decide⟩ (by omega) hv113) (fun r u117 hq => ?_)
        obtain ⟨hr, hv118, hm119⟩ := hq
        rw [hr]
        clear hr r
        have hm120 := hm115.go hm119 (by intro i hi; simp only [List.mem_cons, List.not_mem_nil, or_false] at hi ⊢ <;> omega)
        have e121 : u117 24 = nI k17 := (hm119 24 (by decide)).trans e116
        show ST G mi_Se_reply 169 [(6, .ref 281), (5, .ref 233), (4, .ref 280), (0, .ref 231), (1, .ref 62), (2, .ref 217), (3, .ref 265)] [] u117 0 0 _
        refine ST.lift (fun _ _ k => T_aload_n (v := .ref 217) d_Se_reply_169 rfl (Or.inr ⟨_, rfl⟩) k) ?_
        refine ST.lift (fun _ _ k => T_aload_n (v := .ref 62) d_Se_reply_170 rfl (Or.inr ⟨_, rfl⟩) k) ?_
        refine ST.lift (fun _ _ k => T_aload_n (v := .ref 231) d_Se_reply_171 rfl (Or.inr ⟨_, rfl⟩) k) ?_
        refine S_getfield d_Se_reply_172 fg_Se_37 (w231 _) rfl ?_
        refine ST.lift (fun _ _ k => T_aload_n (v := .ref 62) d_Se_reply_175 rfl (Or.inr ⟨_, rfl⟩) k) ?_
        refine S_getfield d_Se_reply_176 fg_Se_174 (w62 _) rfl ?_
        refine S_virtual (as := [.ref 62, .ref 242, .ref 193]) (rest := []) (b := 217) d_Se_reply_179 rfl (jw_Ex_join.jo (by decide)) lm_Se_191 ji_Ex_join js_Ex_join (w217 _) rfl rfl rfl (Nat.le_of_ble_eq_true rfl) (by decide) (by decide) (c_Ex_join G u117 242 32 (by decide) a242 (by omega) 193 194 195 196 197 ⟨w193, a194, a195, a196, a197, by decide, by decide, by decide, by decide⟩ (by omega) hv118) (fun r u122 hq => ?_)
        obtain ⟨hr, hv123, hm124⟩ := hq
        rw [hr]
        clear hr r
        have hm125 := hm120.go hm124 (by intro i hi; simp only [List.mem_cons, List.not_mem_nil, or_false] at hi ⊢ <;> omega)
        have e126 : u122 24 = nI k17 := (hm124 24 (by decide)).trans e121
        show ST G mi_Se_reply 182 [(6, .ref 281), (5, .ref 233), (4, .ref 280), (0, .ref 231), (1, .ref 62), (2, .ref 217), (3, .ref 265)] [] u122 0 0 _
        refine ST.lift (fun _ _ k => T_aload_n (v := .ref 62) d_Se_reply_182 rfl (Or.inr ⟨_, rfl⟩) k) ?_
        refine S_getfield d_Se_reply_183 fg_Se_117 (w62 _) rfl ?_
        refine ST.lift (fun _ _ k => T_aload (v := .ref 233) d_Se_reply_186 rfl (Or.inr ⟨_, rfl⟩) k) ?_
        refine S_getfield d_Se_reply_188 fg_Se_134 (w233 _) rfl ?_
        refine ST.lift (fun _ _ k => T_iconst (v := nI 0) d_Se_reply_191 (by decide) k) ?_
        refine ST.lift (fun _ _ k => T_aload_n (v := .ref 62) d_Se_reply_192 rfl (Or.inr ⟨_, rfl⟩) k) ?_
        refine S_getfield d_Se_reply_193 fg_Se_109 (w62 _) rfl ?_
        refine S_virtual (as := [.ref 234, .int (nI 0), .ref 188]) (rest := []) (b := 77) d_Se_reply_196 rfl (jw_Cu_decode.jo (by decide)) lm_Se_170 ji_Cu_decode js_Cu_decode (w77 _) rfl rfl rfl (Nat.le_of_ble_eq_true rfl) (by decide) (by decide) (c_Cu_decode G u122 234 192 (by decide) a234 (by omega) 0 (by omega) 188 189 190 191 192 ⟨w188, a189, a190, a191, a192, by decide, by decide, by decide, by decide⟩ hv123) (fun r u127 hq => ?_)
        obtain ⟨z130, hz130, hr, hv128, hm129⟩ := hq
        rw [hr]
        clear hr r
        have hm131 := hm125.go hm129 (by intro i hi; simp only [List.mem_cons, List.not_mem_nil, or_false] at hi ⊢ <;> omega)
        have e132 : u127 24 = nI k17 := (hm129 24 (by decide)).trans e126
        show ST G mi_Se_reply 199 [(6, .ref 281), (5, .ref 233), (4, .ref 280), (0, .ref 231), (1, .ref 62), (2, .ref 217), (3, .ref 265)] [.int (nI z130)] u127 0 0 _
        refine ST.lift (fun _ _ k => T_pop d_Se_reply_199 rfl k) ?_
        refine ST.lift (fun _ _ k => T_aload_n (v := .ref 217) d_Se_reply_200 rfl (Or.inr ⟨_, rfl⟩) k) ?_
        refine ST.lift (fun _ _ k => T_aload_n (v := .ref 62) d_Se_reply_201 rfl (Or.inr ⟨_, rfl⟩) k) ?_
        refine ST.lift (fun _ _ k => T_aload_n (v := .ref 231) d_Se_reply_202 rfl (Or.inr ⟨_, rfl⟩) k) ?_
        refine S_getfield d_Se_reply_203 fg_Se_46 (w231 _) rfl ?_
        refine ST.lift (fun _ _ k => T_aload_n (v := .ref 62) d_Se_reply_206 rfl (Or.inr ⟨_, rfl⟩) k) ?_
        refine S_getfield d_Se_reply_207 fg_Se_109 (w62 _) rfl ?_
        refine S_virtual (as := [.ref 62, .ref 246, .ref 188]) (rest := []) (b := 217) d_Se_reply_210 rfl (jw_Ex_join.jo (by decide)) lm_Se_191 ji_Ex_join js_Ex_join (w217 _) rfl rfl rfl (Nat.le_of_ble_eq_true rfl) (by decide) (by decide) (c_Ex_join G u127 246 32 (by decide) a246 (by omega) 188 189 190 191 192 ⟨w188, a189, a190, a191, a192, by decide, by decide, by decide, by decide⟩ (by omega) hv128) (fun r u133 hq => ?_)
        obtain ⟨hr, hv134, hm135⟩ := hq
        rw [hr]
        clear hr r
        have hm136 := hm131.go hm135 (by intro i hi; simp only [List.mem_cons, List.not_mem_nil, or_false] at hi ⊢ <;> omega)
        have e137 : u133 24 = nI k17 := (hm135 24 (by decide)).trans e132
        show ST G mi_Se_reply 213 [(6, .ref 281), (5, .ref 233), (4, .ref 280), (0, .ref 231), (1, .ref 62), (2, .ref 217), (3, .ref 265)] [] u133 0 0 _
        refine ST.lift (fun _ _ k => T_aload_n (v := .ref 217) d_Se_reply_213 rfl (Or.inr ⟨_, rfl⟩) k) ?_
        refine ST.lift (fun _ _ k => T_aload_n (v := .ref 62) d_Se_reply_214 rfl (Or.inr ⟨_, rfl⟩) k) ?_
        refine S_virtual (as := [.ref 62]) (rest := []) (b := 217) d_Se_reply_215 rfl (jw_Ex_settle.jo (by decide)) lm_Se_195 ji_Ex_settle js_Ex_settle (w217 _) rfl rfl rfl (Nat.le_of_ble_eq_true rfl) (by decide) (by decide) (c_Ex_settle G u133 hv134) (fun r u138 hq => ?_)
        obtain ⟨hr, hv139, hm140⟩ := hq
        rw [hr]
        clear hr r
        have hm141 := hm136.go hm140 (by intro i hi; simp only [List.mem_cons, List.not_mem_nil, or_false] at hi ⊢ <;> omega)
        have e142 : u138 24 = nI k17 := (hm140 24 (by decide)).trans e137
        show ST G mi_Se_reply 218 [(6, .ref 281), (5, .ref 233), (4, .ref 280), (0, .ref 231), (1, .ref 62), (2, .ref 217), (3, .ref 265)] [] u138 0 0 _
        refine ST.lift (fun _ _ k => T_aload (v := .ref 281) d_Se_reply_218 rfl (Or.inr ⟨_, rfl⟩) k) ?_
        refine ST.lift (fun _ _ k => T_aload_n (v := .ref 217) d_Se_reply_220 rfl (Or.inr ⟨_, rfl⟩) k) ?_
        refine S_getfield d_Se_reply_221 fg_Se_198 (w217 _) rfl ?_
        refine ST.lift (fun _ _ k => T_iconst (v := nI 0) d_Se_reply_224 (by decide) k) ?_
        refine ST.lift (fun _ _ k => T_bipush (v := nI 64) d_Se_reply_225 (by decide) k) ?_
        refine S_virtual (as := [.ref 218, .int (nI 0), .int (nI 64)]) (rest := []) (b := 281) d_Se_reply_227 rfl (jw_By_put.jo (by decide)) lm_Se_148 ji_By_put js_By_put (w281 _) rfl rfl rfl (Nat.le_of_ble_eq_true rfl) (by decide) (by decide) (c_By_put G u138 281 282 320 29 ⟨w281, a282, by decide, u281_1, by decide, by decide⟩ 218 64 (by decide) a218 (by omega) 0 (by omega) 64 (by omega) hv139) (fun r u143 hq => ?_)
        obtain ⟨hr, hv144, hm145⟩ := hq
        rw [hr]
        clear hr r
        have hm146 := hm141.go hm145 (by intro i hi; simp only [List.mem_cons, List.not_mem_nil, or_false] at hi ⊢ <;> omega)
        have e147 : u143 24 = nI k17 := (hm145 24 (by decide)).trans e142
        show ST G mi_Se_reply 230 [(6, .ref 281), (5, .ref 233), (4, .ref 280), (0, .ref 231), (1, .ref 62), (2, .ref 217), (3, .ref 265)] [] u143 0 0 _
        refine ST.lift (fun _ _ k => T_aload_n (v := .ref 217) d_Se_reply_230 rfl (Or.inr ⟨_, rfl⟩) k) ?_
        refine S_getfield d_Se_reply_231 fg_Se_201 (w217 _) rfl ?_
        refine ST.lift (fun _ _ k => T_iconst (v := nI 0) d_Se_reply_234 (by decide) k) ?_
        refine ST.lift (fun _ _ k => T_aload_n (v := .ref 265) d_Se_reply_235 rfl (Or.inr ⟨_, rfl⟩) k) ?_
        refine S_getfield d_Se_reply_236 fg_Se_204 (w265 _) rfl ?_
        refine ST.lift (fun _ _ k => T_iconst (v := nI 0) d_Se_reply_239 (by decide) k) ?_
        refine ST.lift (fun _ _ k => T_bipush (v := nI 64) d_Se_reply_240 (by decide) k) ?_
        refine S_copyB d_Se_reply_242 lm_Se_207 (by decide) (by decide) a219 a268 (by omega) (by omega) (by omega) (by omega) (by omega) (by decide) (Nat.le_of_ble_eq_true rfl) ?_
        refine ST.lift (fun _ _ k => T_aload_n (v := .ref 217) d_Se_reply_245 rfl (Or.inr ⟨_, rfl⟩) k) ?_
        refine S_getfield d_Se_reply_246 fg_Se_213 (w217 _) rfl ?_
        refine ST.lift (fun _ _ k => T_iconst (v := nI 0) d_Se_reply_249 (by decide) k) ?_
        refine ST.lift (fun _ _ k => T_aload_n (v := .ref 265) d_Se_reply_250 rfl (Or.inr ⟨_, rfl⟩) k) ?_
        refine S_getfield d_Se_reply_251 fg_Se_216 (w265 _) rfl ?_
        refine ST.lift (fun _ _ k => T_iconst (v := nI 0) d_Se_reply_254 (by decide) k) ?_
        refine ST.lift (fun _ _ k => T_bipush (v := nI 64) d_Se_reply_255 (by decide) k) ?_
        refine S_copyB d_Se_reply_257 lm_Se_207 (by decide) (by decide) a220 a269 (by omega) (by omega) (by omega) (by omega) (by omega) (by decide) (Nat.le_of_ble_eq_true rfl) ?_
        refine ST.lift (fun _ _ k => T_iconst (v := nI 0) d_Se_reply_260 (by decide) k) ?_
        exact S_ret d_Se_reply_261 rfl rfl (by decide) (by decide) (hQ _ _ hv144 hm146)
    · refine ST.lift (fun _ _ k => T_iconst (v := nI 1) d_Se_reply_46 (by decide) k) ?_
      exact S_ret d_Se_reply_47 rfl rfl (by decide) (by decide) (hQ _ _ hv8 hm11)
set_option maxRecDepth 100000 in
set_option maxHeartbeats 4000000 in
theorem c_Se_reply_291 (G : GX) (v : Nat → Int32) (hv : okv v) : CS G mi_Se_reply [.ref 231, .ref 62, .ref 217, .ref 291] v (fun r v' => ∃ z : Int32, r = some (.int z) ∧ okv v' ∧ mdf [6, 7, 5, 2, 3, 1, 4, 8, 9, 10, 11, 12, 13, 14, 15, 38, 39, 40, 41, 42, 43, 35, 36, 37, 34, 79, 80, 81] v v') := by
  refine CS.of (by decide) (Nat.le_of_ble_eq_true rfl) ?_
  generalize hQe : (fun (r : Option Value) (v' : Nat → Int32) => ∃ z : Int32, r = some (.int z) ∧ okv v' ∧ mdf [6, 7, 5, 2, 3, 1, 4, 8, 9, 10, 11, 12, 13, 14, 15, 38, 39, 40, 41, 42, 43, 35, 36, 37, 34, 79, 80, 81] v v') = Q
  have hQ : ∀ (z : Int32) (u : Nat → Int32), okv u → mdf [6, 7, 5, 2, 3, 1, 4, 8, 9, 10, 11, 12, 13, 14, 15, 38, 39, 40, 41, 42, 43, 35, 36, 37, 34, 79, 80, 81] v u → Q (some (.int z)) u := by rw [← hQe]; exact fun z u h1 h2 => ⟨z, rfl, h1, h2⟩
  clear hQe
  have hm : mdf [6, 7, 5, 2, 3, 1, 4, 8, 9, 10, 11, 12, 13, 14, 15, 38, 39, 40, 41, 42, 43, 35, 36, 37, 34, 79, 80, 81] v v := mdf.rf
  show ST G mi_Se_reply 0 [(0, .ref 231), (1, .ref 62), (2, .ref 217), (3, .ref 291)] [] v 0 0 Q
  refine ST.lift (fun _ _ k => T_aload_n (v := .ref 291) d_Se_reply_0 rfl (Or.inr ⟨_, rfl⟩) k) ?_
  refine S_getfield d_Se_reply_1 fg_Se_165 (w291 _) rfl ?_
  refine ST.lift (fun _ _ k => T_iconst (v := nI 0) d_Se_reply_4 (by decide) k) ?_
  refine S_aaload (C0 := "PasswordGate$Bytes") d_Se_reply_5 (by decide) (w292 _) rfl (vp_in_nI (by omega) (by omega)) ?_
  refine S_getfield d_Se_reply_6 fg_Se_134 (w305 _) rfl ?_
  refine ST.lift (fun _ _ k => T_astore (L' := [(4, .ref 306), (0, .ref 231), (1, .ref 62), (2, .ref 217), (3, .ref 291)]) d_Se_reply_9 (by decide) rfl (Or.inr ⟨_, rfl⟩) k) ?_
  refine ST.lift (fun _ _ k => T_aload_n (v := .ref 62) d_Se_reply_11 rfl (Or.inr ⟨_, rfl⟩) k) ?_
  refine S_getfield d_Se_reply_12 fg_Se_117 (w62 _) rfl ?_
  refine ST.lift (fun _ _ k => T_aload (v := .ref 306) d_Se_reply_15 rfl (Or.inr ⟨_, rfl⟩) k) ?_
  refine ST.lift (fun _ _ k => T_iconst (v := nI 0) d_Se_reply_17 (by decide) k) ?_
  refine ST.lift (fun _ _ k => T_aload_n (v := .ref 62) d_Se_reply_18 rfl (Or.inr ⟨_, rfl⟩) k) ?_
  refine S_getfield d_Se_reply_19 fg_Se_109 (w62 _) rfl ?_
  refine S_virtual (as := [.ref 306, .int (nI 0), .ref 188]) (rest := []) (b := 77) d_Se_reply_22 rfl (jw_Cu_decode.jo (by decide)) lm_Se_170 ji_Cu_decode js_Cu_decode (w77 _) rfl rfl rfl (Nat.le_of_ble_eq_true rfl) (by decide) (by decide) (c_Cu_decode G v 306 96 (by decide) a306 (by omega) 0 (by omega) 188 189 190 191 192 ⟨w188, a189, a190, a191, a192, by decide, by decide, by decide, by decide⟩ hv) (fun r u1 hq => ?_)
  obtain ⟨z4, hz4, hr, hv2, hm3⟩ := hq
  rw [hr]
  clear hr r
  have hm5 := hm.go hm3 (by intro i hi; simp only [List.mem_cons, List.not_mem_nil, or_false] at hi ⊢ <;> omega)
  show ST G mi_Se_reply 25 [(4, .ref 306), (0, .ref 231), (1, .ref 62), (2, .ref 217), (3, .ref 291)] [.int (nI z4)] u1 0 0 _
  refine S_if_eqN d_Se_reply_25 rfl (by omega) (fun c6 => ?_) (fun c6 => ?_)
  · refine ST.lift (fun _ _ k => T_iconst (v := nI 1) d_Se_reply_46 (by decide) k) ?_
    exact S_ret d_Se_reply_47 rfl rfl (by decide) (by decide) (hQ _ _ hv2 hm5)
  · refine ST.lift (fun _ _ k => T_aload_n (v := .ref 62) d_Se_reply_28 rfl (Or.inr ⟨_, rfl⟩) k) ?_
    refine S_getfield d_Se_reply_29 fg_Se_117 (w62 _) rfl ?_
    refine ST.lift (fun _ _ k => T_aload (v := .ref 306) d_Se_reply_32 rfl (Or.inr ⟨_, rfl⟩) k) ?_
    refine ST.lift (fun _ _ k => T_bipush (v := nI 64) d_Se_reply_34 (by decide) k) ?_
    refine ST.lift (fun _ _ k => T_aload_n (v := .ref 62) d_Se_reply_36 rfl (Or.inr ⟨_, rfl⟩) k) ?_
    refine S_getfield d_Se_reply_37 fg_Se_174 (w62 _) rfl ?_
    refine S_virtual (as := [.ref 306, .int (nI 64), .ref 193]) (rest := []) (b := 77) d_Se_reply_40 rfl (jw_Cu_decode.jo (by decide)) lm_Se_170 ji_Cu_decode js_Cu_decode (w77 _) rfl rfl rfl (Nat.le_of_ble_eq_true rfl) (by decide) (by decide) (c_Cu_decode G u1 306 96 (by decide) a306 (by omega) 64 (by omega) 193 194 195 196 197 ⟨w193, a194, a195, a196, a197, by decide, by decide, by decide, by decide⟩ hv2) (fun r u7 hq => ?_)
    obtain ⟨z10, hz10, hr, hv8, hm9⟩ := hq
    rw [hr]
    clear hr r
    have hm11 := hm5.go hm9 (by intro i hi; simp only [List.mem_cons, List.not_mem_nil, or_false] at hi ⊢ <;> omega)
    show ST G mi_Se_reply 43 [(4, .ref 306), (0, .ref 231), (1, .ref 62), (2, .ref 217), (3, .ref 291)] [.int (nI z10)] u7 0 0 _
    refine S_if_neN d_Se_reply_43 rfl (by omega) (fun c12 => ?_) (fun c12 => ?_)
    · refine ST.lift (fun _ _ k => T_aload_n (v := .ref 231) d_Se_reply_48 rfl (Or.inr ⟨_, rfl⟩) k) ?_
      refine ST.lift (fun _ _ k => T_aload_n (v := .ref 62) d_Se_reply_49 rfl (Or.inr ⟨_, rfl⟩) k) ?_
      refine S_virtual (as := [.ref 62]) (rest := []) (b := 231) d_Se_reply_50 rfl (jw_Se_open.jo (by decide)) lm_Se_101 ji_Se_open js_Se_open (w231 _) rfl rfl rfl (Nat.le_of_ble_eq_true rfl) (by decide) (by decide) (c_Se_open G u7 hv8) (fun r u13 hq => ?_)
      obtain ⟨hr, hv14, hm15⟩ := hq
      rw [hr]
      clear hr r
      have hm16 := hm11.go hm15 (by intro i hi; simp only [List.mem_cons, List.not_mem_nil, or_false] at hi ⊢ <;> omega)
      show ST G mi_Se_reply 53 [(4, .ref 306), (0, .ref 231), (1, .ref 62), (2, .ref 217), (3, .ref 291)] [] u13 0 0 _
      refine ST.lift (fun _ _ k => T_aload_n (v := .ref 231) d_Se_reply_53 rfl (Or.inr ⟨_, rfl⟩) k) ?_
      refine S_getfield d_Se_reply_54 fg_Se_11 (w231 _) rfl ?_
      refine ST.lift (fun _ _ k => T_aload_n (v := .ref 291) d_Se_reply_57 rfl (Or.inr ⟨_, rfl⟩) k) ?_
      obtain ⟨k17, hk17, ek17⟩ := hv14.get (j := 34) (c := 7) (by decide)
      refine S_getfield d_Se_reply_58 fg_Se_177 (w291 _) rfl ?_
      refine S_topi (y := nI k17) (ek17) ?_
      refine S_aaload (C0 := "PasswordGate$Bytes") d_Se_reply_61 (by decide) (w232 _) rfl (vp_in_nI (by omega) (by omega)) ?_
      obtain ⟨p18, p18d, p18j, e_p18, y_p18, j_p18⟩ := rec_232 k17 (by omega)
      refine S_topv (y := .ref p18) (by rw [nI_clamp (by omega)]; exact congrArg va_rf e_p18) ?_
      refine ST.lift (fun _ _ k => T_astore (L' := [(5, .ref p18), (4, .ref 306), (0, .ref 231), (1, .ref 62), (2, .ref 217), (3, .ref 291)]) d_Se_reply_62 (by decide) rfl (Or.inr ⟨_, rfl⟩) k) ?_
      refine ST.lift (fun _ _ k => T_aload (v := .ref p18) d_Se_reply_64 rfl (Or.inr ⟨_, rfl⟩) k) ?_
      obtain ⟨k19, hk19, ek19⟩ := hv14.get (j := p18j) (c := 192) y_p18.2.2.2.2.1
      refine S_getfield d_Se_reply_66 fg_Se_52 (y_p18.1 _) rfl ?_
      refine S_topi (y := nI k19) (ek19) ?_
      refine S_if_neN d_Se_reply_69 rfl (by omega) (fun c20 => ?_) (fun c20 => ?_)
      · refine ST.lift (fun _ _ k => T_aload_n (v := .ref 231) d_Se_reply_83 rfl (Or.inr ⟨_, rfl⟩) k) ?_
        refine ST.lift (fun _ _ k => T_aload_n (v := .ref 62) d_Se_reply_84 rfl (Or.inr ⟨_, rfl⟩) k) ?_
        refine ST.lift (fun _ _ k => T_aload_n (v := .ref 291) d_Se_reply_85 rfl (Or.inr ⟨_, rfl⟩) k) ?_
        refine S_getfield d_Se_reply_86 fg_Se_177 (w291 _) rfl ?_
        refine S_topi (y := nI k17) (ek17) ?_
        refine S_virtual (as := [.ref 62, .int (nI k17)]) (rest := []) (b := 231) d_Se_reply_89 rfl (jw_Se_findUserKey.jo (by decide)) lm_Se_105 ji_Se_findUserKey js_Se_findUserKey (w231 _) rfl rfl rfl (Nat.le_of_ble_eq_true rfl) (by decide) (by decide) (c_Se_findUserKey G u13 k17 (by omega) hv14) (fun r u21 hq => ?_)
        obtain ⟨hr, hv22, hm23⟩ := hq
        rw [hr]
        clear hr r
        have hm24 := hm16.go hm23 (by intro i hi; simp only [List.mem_cons, List.not_mem_nil, or_false] at hi ⊢ <;> omega)
        have e25 : u21 34 = nI k17 := (hm23 34 (by decide)).trans ek17
        show ST G mi_Se_reply 92 [(5, .ref p18), (4, .ref 306), (0, .ref 231), (1, .ref 62), (2, .ref 217), (3, .ref 291)] [] u21 0 0 _
        refine ST.lift (fun _ _ k => T_aload_n (v := .ref 291) d_Se_reply_92 rfl (Or.inr ⟨_, rfl⟩) k) ?_
        refine S_getfield d_Se_reply_93 fg_Se_165 (w291 _) rfl ?_
        refine ST.lift (fun _ _ k => T_iconst (v := nI 1) d_Se_reply_96 (by decide) k) ?_
        refine S_aaload (C0 := "PasswordGate$Bytes") d_Se_reply_97 (by decide) (w292 _) rfl (vp_in_nI (by omega) (by omega)) ?_
        refine ST.lift (fun _ _ k => T_astore (L' := [(6, .ref 307), (5, .ref p18), (4, .ref 306), (0, .ref 231), (1, .ref 62), (2, .ref 217), (3, .ref 291)]) d_Se_reply_98 (by decide) rfl (Or.inr ⟨_, rfl⟩) k) ?_
        refine ST.lift (fun _ _ k => T_aload_n (v := .ref 231) d_Se_reply_100 rfl (Or.inr ⟨_, rfl⟩) k) ?_
        refine ST.lift (fun _ _ k => T_aload_n (v := .ref 62) d_Se_reply_101 rfl (Or.inr ⟨_, rfl⟩) k) ?_
        refine ST.lift (fun _ _ k => T_aload (v := .ref p18) d_Se_reply_102 rfl (Or.inr ⟨_, rfl⟩) k) ?_
        refine ST.lift (fun _ _ k => T_aload (v := .ref 307) d_Se_reply_104 rfl (Or.inr ⟨_, rfl⟩) k) ?_
        refine S_virtual (as := [.ref 62, .ref p18, .ref 307]) (rest := []) (b := 231) d_Se_reply_106 rfl (jw_Se_putCredentials.jo (by decide)) lm_Se_182 ji_Se_putCredentials js_Se_putCredentials (w231 _) rfl rfl rfl (Nat.le_of_ble_eq_true rfl) (by decide) (by decide) (c_Se_putCredentials G u21 p18 p18d 192 p18j y_p18 307 308 320 39 ⟨w307, a308, by decide, u307_1, by decide, by decide⟩ (by omega) (by omega) hv22) (fun r u26 hq => ?_)
        obtain ⟨hr, hv27, hm28⟩ := hq
        rw [hr]
        clear hr r
        have hm29 := hm24.go hm28 (by intro i hi; simp only [List.mem_cons, List.not_mem_nil, or_false] at hi ⊢ <;> omega)
        have e30 : u26 34 = nI k17 := (hm28 34 (by decide)).trans e25
        show ST G mi_Se_reply 109 [(6, .ref 307), (5, .ref p18), (4, .ref 306), (0, .ref 231), (1, .ref 62), (2, .ref 217), (3, .ref 291)] [] u26 0 0 _
        refine ST.lift (fun _ _ k => T_aload_n (v := .ref 62) d_Se_reply_109 rfl (Or.inr ⟨_, rfl⟩) k) ?_
        refine ST.lift (fun _ _ k => T_aload (v := .ref 307) d_Se_reply_110 rfl (Or.inr ⟨_, rfl⟩) k) ?_
        refine S_virtual (as := [.ref 307]) (rest := []) (b := 62) d_Se_reply_112 rfl (jw_Kit_putNonce.jo (by decide)) lm_Se_130 ji_Kit_putNonce js_Kit_putNonce (w62 _) rfl rfl rfl (Nat.le_of_ble_eq_true rfl) (by decide) (by decide) (c_Kit_putNonce G u26 307 308 320 39 ⟨w307, a308, by decide, u307_1, by decide, by decide⟩ hv27) (fun r u31 hq => ?_)
        obtain ⟨hr, hv32, hm33⟩ := hq
        rw [hr]
        clear hr r
        have hm34 := hm29.go hm33 (by intro i hi; simp only [List.mem_cons, List.not_mem_nil, or_false] at hi ⊢ <;> omega)
        have e35 : u31 34 = nI k17 := (hm33 34 (by decide)).trans e30
        show ST G mi_Se_reply 115 [(6, .ref 307), (5, .ref p18), (4, .ref 306), (0, .ref 231), (1, .ref 62), (2, .ref 217), (3, .ref 291)] [] u31 0 0 _
        refine ST.lift (fun _ _ k => T_aload_n (v := .ref 62) d_Se_reply_115 rfl (Or.inr ⟨_, rfl⟩) k) ?_
        refine ST.lift (fun _ _ k => T_aload_n (v := .ref 231) d_Se_reply_116 rfl (Or.inr ⟨_, rfl⟩) k) ?_
        refine S_getfield d_Se_reply_117 fg_Se_46 (w231 _) rfl ?_
        refine S_virtual (as := [.ref 246]) (rest := []) (b := 62) d_Se_reply_120 rfl (jw_Kit_nextScalar.jo (by decide)) lm_Se_159 ji_Kit_nextScalar js_Kit_nextScalar (w62 _) rfl rfl rfl (Nat.le_of_ble_eq_true rfl) (by decide) (by decide) (c_Kit_nextScalar G u31 246 32 (by decide) a246 (by omega) (by omega) hv32) (fun r u36 hq => ?_)
        obtain ⟨hr, hv37, hm38⟩ := hq
        rw [hr]
        clear hr r
        have hm39 := hm34.go hm38 (by intro i hi; simp only [List.mem_cons, List.not_mem_nil, or_false] at hi ⊢ <;> omega)
        have e40 : u36 34 = nI k17 := (hm38 34 (by decide)).trans e35
        show ST G mi_Se_reply 123 [(6, .ref 307), (5, .ref p18), (4, .ref 306), (0, .ref 231), (1, .ref 62), (2, .ref 217), (3, .ref 291)] [] u36 0 0 _
        refine ST.lift (fun _ _ k => T_aload_n (v := .ref 62) d_Se_reply_123 rfl (Or.inr ⟨_, rfl⟩) k) ?_
        refine ST.lift (fun _ _ k => T_aload_n (v := .ref 231) d_Se_reply_124 rfl (Or.inr ⟨_, rfl⟩) k) ?_
        refine S_getfield d_Se_reply_125 fg_Se_46 (w231 _) rfl ?_
        refine ST.lift (fun _ _ k => T_aload (v := .ref 307) d_Se_reply_128 rfl (Or.inr ⟨_, rfl⟩) k) ?_
        refine S_virtual (as := [.ref 246, .ref 307]) (rest := []) (b := 62) d_Se_reply_130 rfl (jw_Kit_putPublic.jo (by decide)) lm_Se_71 ji_Kit_putPublic js_Kit_putPublic (w62 _) rfl rfl rfl (Nat.le_of_ble_eq_true rfl) (by decide) (by decide) (c_Kit_putPublic G u36 246 32 (by decide) a246 (by omega) 307 308 320 39 ⟨w307, a308, by decide, u307_1, by decide, by decide⟩ (by omega) hv37) (fun r u41 hq => ?_)
        obtain ⟨hr, hv42, hm43⟩ := hq
        rw [hr]
        clear hr r
        have hm44 := hm39.go hm43 (by intro i hi; simp only [List.mem_cons, List.not_mem_nil, or_false] at hi ⊢ <;> omega)
        have e45 : u41 34 = nI k17 := (hm43 34 (by decide)).trans e40
        show ST G mi_Se_reply 133 [(6, .ref 307), (5, .ref p18), (4, .ref 306), (0, .ref 231), (1, .ref 62), (2, .ref 217), (3, .ref 291)] [] u41 0 0 _
        refine ST.lift (fun _ _ k => T_aload_n (v := .ref 217) d_Se_reply_133 rfl (Or.inr ⟨_, rfl⟩) k) ?_
        refine ST.lift (fun _ _ k => T_aload (v := .ref p18) d_Se_reply_134 rfl (Or.inr ⟨_, rfl⟩) k) ?_
        refine S_getfield d_Se_reply_136 fg_Se_134 (y_p18.1 _) rfl ?_
        refine ST.lift (fun _ _ k => T_aload (v := .ref 306) d_Se_reply_139 rfl (Or.inr ⟨_, rfl⟩) k) ?_
        refine ST.lift (fun _ _ k => T_aload_n (v := .ref 231) d_Se_reply_141 rfl (Or.inr ⟨_, rfl⟩) k) ?_
        refine S_getfield d_Se_reply_142 fg_Se_40 (w231 _) rfl ?_
        refine S_getfield d_Se_reply_145 fg_Se_134 (w243 _) rfl ?_
        refine ST.lift (fun _ _ k => T_aload (v := .ref 307) d_Se_reply_148 rfl (Or.inr ⟨_, rfl⟩) k) ?_
        refine S_getfield d_Se_reply_150 fg_Se_134 (w307 _) rfl ?_
        refine S_virtual (as := [.ref p18d, .ref 306, .ref 244, .ref 308]) (rest := []) (b := 217) d_Se_reply_153 rfl (jw_Ex_open.jo (by decide)) lm_Se_186 ji_Ex_open js_Ex_open (w217 _) rfl rfl rfl (Nat.le_of_ble_eq_true rfl) (by decide) (by decide) (c_Ex_open G u41 p18d 192 y_p18.2.2.1 y_p18.2.1 (by omega) 306 96 (by decide) a306 (by omega) 244 32 (by decide) a244 (by omega) 308 320 (by decide) a308 (by omega) hv42) (fun r u46 hq => ?_)
        obtain ⟨hr, hv47, hm48⟩ := hq
        rw [hr]
        clear hr r
        have hm49 := hm44.go hm48 (by intro i hi; simp only [List.mem_cons, List.not_mem_nil, or_false] at hi ⊢ <;> omega)
        have e50 : u46 34 = nI k17 := (hm48 34 (by decide)).trans e45
        show ST G mi_Se_reply 156 [(6, .ref 307), (5, .ref p18), (4, .ref 306), (0, .ref 231), (1, .ref 62), (2, .ref 217), (3, .ref 291)] [] u46 0 0 _
        refine ST.lift (fun _ _ k => T_aload_n (v := .ref 217) d_Se_reply_156 rfl (Or.inr ⟨_, rfl⟩) k) ?_
        refine ST.lift (fun _ _ k => T_aload_n (v := .ref 62) d_Se_reply_157 rfl (Or.inr ⟨_, rfl⟩) k) ?_
        refine ST.lift (fun _ _ k => T_aload_n (v := .ref 231) d_Se_reply_158 rfl (Or.inr ⟨_, rfl⟩) k) ?_
        refine S_getfield d_Se_reply_159 fg_Se_46 (w231 _) rfl ?_
        refine ST.lift (fun _ _ k => T_aload_n (v := .ref 62) d_Se_reply_162 rfl (Or.inr ⟨_, rfl⟩) k) ?_
        refine S_getfield d_Se_reply_163 fg_Se_174 (w62 _) rfl ?_
        refine S_virtual (as := [.ref 62, .ref 246, .ref 193]) (rest := []) (b := 217) d_Se_reply_166 rfl (jw_Ex_join.jo (by decide)) lm_Se_191 ji_Ex_join js_Ex_join (w217 _) rfl rfl rfl (Nat.le_of_ble_eq_true rfl) (by decide) (by decide) (c_Ex_join G u46 246 32 (by decide) a246 (by omega) 193 194 195 196 197 ⟨w193, a194, a195, a196, a197, by decide, by decide, by decide, by decide⟩ (by omega) hv47) (fun r u51 hq => ?_)
        obtain ⟨hr, hv52, hm53⟩ := hq
        rw [hr]
        clear hr r
        have hm54 := hm49.go hm53 (by intro i hi; simp only [List.mem_cons, List.not_mem_nil, or_false] at hi ⊢ <;> omega)
        have e55 : u51 34 = nI k17 := (hm53 34 (by decide)).trans e50
        show ST G mi_Se_reply 169 [(6, .ref 307), (5, .ref p18), (4, .ref 306), (0, .ref 231), (1, .ref 62), (2, .ref 217), (3, .ref 291)] [] u51 0 0 _
        refine ST.lift (fun _ _ k => T_aload_n (v := .ref 217) d_Se_reply_169 rfl (Or.inr ⟨_, rfl⟩) k) ?_
        refine ST.lift (fun _ _ k => T_aload_n (v := .ref 62) d_Se_reply_170 rfl (Or.inr ⟨_, rfl⟩) k) ?_
        refine ST.lift (fun _ _ k => T_aload_n (v := .ref 231) d_Se_reply_171 rfl (Or.inr ⟨_, rfl⟩) k) ?_
        refine S_getfield d_Se_reply_172 fg_Se_37 (w231 _) rfl ?_
        refine ST.lift (fun _ _ k => T_aload_n (v := .ref 62) d_Se_reply_175 rfl (Or.inr ⟨_, rfl⟩) k) ?_
        refine S_getfield d_Se_reply_176 fg_Se_174 (w62 _) rfl ?_
        refine S_virtual (as := [.ref 62, .ref 242, .ref 193]) (rest := []) (b := 217) d_Se_reply_179 rfl (jw_Ex_join.jo (by decide)) lm_Se_191 ji_Ex_join js_Ex_join (w217 _) rfl rfl rfl (Nat.le_of_ble_eq_true rfl) (by decide) (by decide) (c_Ex_join G u51 242 32 (by decide) a242 (by omega) 193 194 195 196 197 ⟨w193, a194, a195, a196, a197, by decide, by decide, by decide, by decide⟩ (by omega) hv52) (fun r u56 hq => ?_)
        obtain ⟨hr, hv57, hm58⟩ := hq
        rw [hr]
        clear hr r
        have hm59 := hm54.go hm58 (by intro i hi; simp only [List.mem_cons, List.not_mem_nil, or_false] at hi ⊢ <;> omega)
        have e60 : u56 34 = nI k17 := (hm58 34 (by decide)).trans e55
        show ST G mi_Se_reply 182 [(6, .ref 307), (5, .ref p18), (4, .ref 306), (0, .ref 231), (1, .ref 62), (2, .ref 217), (3, .ref 291)] [] u56 0 0 _
        refine ST.lift (fun _ _ k => T_aload_n (v := .ref 62) d_Se_reply_182 rfl (Or.inr ⟨_, rfl⟩) k) ?_
        refine S_getfield d_Se_reply_183 fg_Se_117 (w62 _) rfl ?_
        refine ST.lift (fun _ _ k => T_aload (v := .ref p18) d_Se_reply_186 rfl (Or.inr ⟨_, rfl⟩) k) ?_
        refine S_getfield d_Se_reply_188 fg_Se_134 (y_p18.1 _) rfl ?_
        refine ST.lift (fun _ _ k => T_iconst (v := nI 0) d_Se_reply_191 (by decide) k) ?_
        refine ST.lift (fun _ _ k => T_aload_n (v := .ref 62) d_Se_reply_192 rfl (Or.inr ⟨_, rfl⟩) k) ?_
        refine S_getfield d_Se_reply_193 fg_Se_109 (w62 _) rfl ?_
        refine S_virtual (as := [.ref p18d, .int (nI 0), .ref 188]) (rest := []) (b := 77) d_Se_reply_196 rfl (jw_Cu_decode.jo (by decide)) lm_Se_170 ji_Cu_decode js_Cu_decode (w77 _) rfl rfl rfl (Nat.le_of_ble_eq_true rfl) (by decide) (by decide) (c_Cu_decode G u56 p18d 192 y_p18.2.2.1 y_p18.2.1 (by omega) 0 (by omega) 188 189 190 191 192 ⟨w188, a189, a190, a191, a192, by decide, by decide, by decide, by decide⟩ hv57) (fun r u61 hq => ?_)
        obtain ⟨z64, hz64, hr, hv62, hm63⟩ := hq
        rw [hr]
        clear hr r
        have hm65 := hm59.go hm63 (by intro i hi; simp only [List.mem_cons, List.not_mem_nil, or_false] at hi ⊢ <;> omega)
        have e66 : u61 34 = nI k17 := (hm63 34 (by decide)).trans e60
        show ST G mi_Se_reply 199 [(6, .ref 307), (5, .ref p18), (4, .ref 306), (0, .ref 231), (1, .ref 62), (2, .ref 217), (3, .ref 291)] [.int (nI z64)] u61 0 0 _
        refine ST.lift (fun _ _ k => T_pop d_Se_reply_199 rfl k) ?_
        refine ST.lift (fun _ _ k => T_aload_n (v := .ref 217) d_Se_reply_200 rfl (Or.inr ⟨_, rfl⟩) k) ?_
        refine ST.lift (fun _ _ k => T_aload_n (v := .ref 62) d_Se_reply_201 rfl (Or.inr ⟨_, rfl⟩) k) ?_
        refine ST.lift (fun _ _ k => T_aload_n (v := .ref 231) d_Se_reply_202 rfl (Or.inr ⟨_, rfl⟩) k) ?_
        refine S_getfield d_Se_reply_203 fg_Se_46 (w231 _) rfl ?_
        refine ST.lift (fun _ _ k => T_aload_n (v := .ref 62) d_Se_reply_206 rfl (Or.inr ⟨_, rfl⟩) k) ?_
        refine S_getfield d_Se_reply_207 fg_Se_109 (w62 _) rfl ?_
        refine S_virtual (as := [.ref 62, .ref 246, .ref 188]) (rest := []) (b := 217) d_Se_reply_210 rfl (jw_Ex_join.jo (by decide)) lm_Se_191 ji_Ex_join js_Ex_join (w217 _) rfl rfl rfl (Nat.le_of_ble_eq_true rfl) (by decide) (by decide) (c_Ex_join G u61 246 32 (by decide) a246 (by omega) 188 189 190 191 192 ⟨w188, a189, a190, a191, a192, by decide, by decide, by decide, by decide⟩ (by omega) hv62) (fun r u67 hq => ?_)
        obtain ⟨hr, hv68, hm69⟩ := hq
        rw [hr]
        clear hr r
        have hm70 := hm65.go hm69 (by intro i hi; simp only [List.mem_cons, List.not_mem_nil, or_false] at hi ⊢ <;> omega)
        have e71 : u67 34 = nI k17 := (hm69 34 (by decide)).trans e66
        show ST G mi_Se_reply 213 [(6, .ref 307), (5, .ref p18), (4, .ref 306), (0, .ref 231), (1, .ref 62), (2, .ref 217), (3, .ref 291)] [] u67 0 0 _
        refine ST.lift (fun _ _ k => T_aload_n (v := .ref 217) d_Se_reply_213 rfl (Or.inr ⟨_, rfl⟩) k) ?_
        refine ST.lift (fun _ _ k => T_aload_n (v := .ref 62) d_Se_reply_214 rfl (Or.inr ⟨_, rfl⟩) k) ?_
        refine S_virtual (as := [.ref 62]) (rest := []) (b := 217) d_Se_reply_215 rfl (jw_Ex_settle.jo (by decide)) lm_Se_195 ji_Ex_settle js_Ex_settle (w217 _) rfl rfl rfl (Nat.le_of_ble_eq_true rfl) (by decide) (by decide) (c_Ex_settle G u67 hv68) (fun r u72 hq => ?_)
        obtain ⟨hr, hv73, hm74⟩ := hq
        rw [hr]
        clear hr r
        have hm75 := hm70.go hm74 (by intro i hi; simp only [List.mem_cons, List.not_mem_nil, or_false] at hi ⊢ <;> omega)
        have e76 : u72 34 = nI k17 := (hm74 34 (by decide)).trans e71
        show ST G mi_Se_reply 218 [(6, .ref 307), (5, .ref p18), (4, .ref 306), (0, .ref 231), (1, .ref 62), (2, .ref 217), (3, .ref 291)] [] u72 0 0 _
        refine ST.lift (fun _ _ k => T_aload (v := .ref 307) d_Se_reply_218 rfl (Or.inr ⟨_, rfl⟩) k) ?_
        refine ST.lift (fun _ _ k => T_aload_n (v := .ref 217) d_Se_reply_220 rfl (Or.inr ⟨_, rfl⟩) k) ?_
        refine S_getfield d_Se_reply_221 fg_Se_198 (w217 _) rfl ?_
        refine ST.lift (fun _ _ k => T_iconst (v := nI 0) d_Se_reply_224 (by decide) k) ?_
        refine ST.lift (fun _ _ k => T_bipush (v := nI 64) d_Se_reply_225 (by decide) k) ?_
        refine S_virtual (as := [.ref 218, .int (nI 0), .int (nI 64)]) (rest := []) (b := 307) d_Se_reply_227 rfl (jw_By_put.jo (by decide)) lm_Se_148 ji_By_put js_By_put (w307 _) rfl rfl rfl (Nat.le_of_ble_eq_true rfl) (by decide) (by decide) (c_By_put G u72 307 308 320 39 ⟨w307, a308, by decide, u307_1, by decide, by decide⟩ 218 64 (by decide) a218 (by omega) 0 (by omega) 64 (by omega) hv73) (fun r u77 hq => ?_)
        obtain ⟨hr, hv78, hm79⟩ := hq
        rw [hr]
        clear hr r
        have hm80 := hm75.go hm79 (by intro i hi; simp only [List.mem_cons, List.not_mem_nil, or_false] at hi ⊢ <;> omega)
        have e81 : u77 34 = nI k17 := (hm79 34 (by decide)).trans e76
        show ST G mi_Se_reply 230 [(6, .ref 307), (5, .ref p18), (4, .ref 306), (0, .ref 231), (1, .ref 62), (2, .ref 217), (3, .ref 291)] [] u77 0 0 _
        refine ST.lift (fun _ _ k => T_aload_n (v := .ref 217) d_Se_reply_230 rfl (Or.inr ⟨_, rfl⟩) k) ?_
        refine S_getfield d_Se_reply_231 fg_Se_201 (w217 _) rfl ?_
        refine ST.lift (fun _ _ k => T_iconst (v := nI 0) d_Se_reply_234 (by decide) k) ?_
        refine ST.lift (fun _ _ k => T_aload_n (v := .ref 291) d_Se_reply_235 rfl (Or.inr ⟨_, rfl⟩) k) ?_
        refine S_getfield d_Se_reply_236 fg_Se_204 (w291 _) rfl ?_
        refine ST.lift (fun _ _ k => T_iconst (v := nI 0) d_Se_reply_239 (by decide) k) ?_
        refine ST.lift (fun _ _ k => T_bipush (v := nI 64) d_Se_reply_240 (by decide) k) ?_
        refine S_copyB d_Se_reply_242 lm_Se_207 (by decide) (by decide) a219 a294 (by omega) (by omega) (by omega) (by omega) (by omega) (by decide) (Nat.le_of_ble_eq_true rfl) ?_
        refine ST.lift (fun _ _ k => T_aload_n (v := .ref 217) d_Se_reply_245 rfl (Or.inr ⟨_, rfl⟩) k) ?_
        refine S_getfield d_Se_reply_246 fg_Se_213 (w217 _) rfl ?_
        refine ST.lift (fun _ _ k => T_iconst (v := nI 0) d_Se_reply_249 (by decide) k) ?_
        refine ST.lift (fun _ _ k => T_aload_n (v := .ref 291) d_Se_reply_250 rfl (Or.inr ⟨_, rfl⟩) k) ?_
        refine S_getfield d_Se_reply_251 fg_Se_216 (w291 _) rfl ?_
        refine ST.lift (fun _ _ k => T_iconst (v := nI 0) d_Se_reply_254 (by decide) k) ?_
        refine ST.lift (fun _ _ k => T_bipush (v := nI 64) d_Se_reply_255 (by decide) k) ?_
        refine S_copyB d_Se_reply_257 lm_Se_207 (by decide) (by decide) a220 a295 (by omega) (by omega) (by omega) (by omega) (by omega) (by decide) (Nat.le_of_ble_eq_true rfl) ?_
        refine ST.lift (fun _ _ k => T_iconst (v := nI 0) d_Se_reply_260 (by decide) k) ?_
        exact S_ret d_Se_reply_261 rfl rfl (by decide) (by decide) (hQ _ _ hv78 hm80)
      · refine ST.lift (fun _ _ k => T_aload_n (v := .ref 231) d_Se_reply_72 rfl (Or.inr ⟨_, rfl⟩) k) ?_
        refine ST.lift (fun _ _ k => T_aload_n (v := .ref 62) d_Se_reply_73 rfl (Or.inr ⟨_, rfl⟩) k) ?_
        refine S_virtual (as := [.ref 62]) (rest := []) (b := 231) d_Se_reply_74 rfl (jw_Se_makeUp.jo (by decide)) lm_Se_179 ji_Se_makeUp js_Se_makeUp (w231 _) rfl rfl rfl (Nat.le_of_ble_eq_true rfl) (by decide) (by decide) (c_Se_makeUp G u13 hv14) (fun r u82 hq => ?_)
        obtain ⟨hr, hv83, hm84⟩ := hq
        rw [hr]
        clear hr r
        have hm85 := hm16.go hm84 (by intro i hi; simp only [List.mem_cons, List.not_mem_nil, or_false] at hi ⊢ <;> omega)
        have e86 : u82 34 = nI k17 := (hm84 34 (by decide)).trans ek17
        show ST G mi_Se_reply 77 [(5, .ref p18), (4, .ref 306), (0, .ref 231), (1, .ref 62), (2, .ref 217), (3, .ref 291)] [] u82 0 0 _
        refine ST.lift (fun _ _ k => T_aload_n (v := .ref 231) d_Se_reply_77 rfl (Or.inr ⟨_, rfl⟩) k) ?_
        refine S_getfield d_Se_reply_78 fg_Se_20 (w231 _) rfl ?_
        refine ST.lift (fun _ _ k => T_astore (L' := [(5, .ref 233), (4, .ref 306), (0, .ref 231), (1, .ref 62), (2, .ref 217), (3, .ref 291)]) d_Se_reply_81 (by decide) rfl (Or.inr ⟨_, rfl⟩) k) ?_
        refine ST.lift (fun _ _ k => T_aload_n (v := .ref 231) d_Se_reply_83 rfl (Or.inr ⟨_, rfl⟩) k) ?_
        refine ST.lift (fun _ _ k => T_aload_n (v := .ref 62) d_Se_reply_84 rfl (Or.inr ⟨_, rfl⟩) k) ?_
        refine ST.lift (fun _ _ k => T_aload_n (v := .ref 291) d_Se_reply_85 rfl (Or.inr ⟨_, rfl⟩) k) ?_
        refine S_getfield d_Se_reply_86 fg_Se_177 (w291 _) rfl ?_
        refine S_topi (y := nI k17) (e86) ?_
        refine S_virtual (as := [.ref 62, .int (nI k17)]) (rest := []) (b := 231) d_Se_reply_89 rfl (jw_Se_findUserKey.jo (by decide)) lm_Se_105 ji_Se_findUserKey js_Se_findUserKey (w231 _) rfl rfl rfl (Nat.le_of_ble_eq_true rfl) (by decide) (by decide) (c_Se_findUserKey G u82 k17 (by omega) hv83) (fun r u87 hq => ?_)
        obtain ⟨hr, hv88, hm89⟩ := hq
        rw [hr]
        clear hr r
        have hm90 := hm85.go hm89 (by intro i hi; simp only [List.mem_cons, List.not_mem_nil, or_false] at hi ⊢ <;> omega)
        have e91 : u87 34 = nI k17 := (hm89 34 (by decide)).trans e86
        show ST G mi_Se_reply 92 [(5, .ref 233), (4, .ref 306), (0, .ref 231), (1, .ref 62), (2, .ref 217), (3, .ref 291)] [] u87 0 0 _
        refine ST.lift (fun _ _ k => T_aload_n (v := .ref 291) d_Se_reply_92 rfl (Or.inr ⟨_, rfl⟩) k) ?_
        refine S_getfield d_Se_reply_93 fg_Se_165 (w291 _) rfl ?_
        refine ST.lift (fun _ _ k => T_iconst (v := nI 1) d_Se_reply_96 (by decide) k) ?_
        refine S_aaload (C0 := "PasswordGate$Bytes") d_Se_reply_97 (by decide) (w292 _) rfl (vp_in_nI (by omega) (by omega)) ?_
        refine ST.lift (fun _ _ k => T_astore (L' := [(6, .ref 307), (5, .ref 233), (4, .ref 306), (0, .ref 231), (1, .ref 62), (2, .ref 217), (3, .ref 291)]) d_Se_reply_98 (by decide) rfl (Or.inr ⟨_, rfl⟩) k) ?_
        refine ST.lift (fun _ _ k => T_aload_n (v := .ref 231) d_Se_reply_100 rfl (Or.inr ⟨_, rfl⟩) k) ?_
        refine ST.lift (fun _ _ k => T_aload_n (v := .ref 62) d_Se_reply_101 rfl (Or.inr ⟨_, rfl⟩) k) ?_
        refine ST.lift (fun _ _ k => T_aload (v := .ref 233) d_Se_reply_102 rfl (Or.inr ⟨_, rfl⟩) k) ?_
        refine ST.lift (fun _ _ k => T_aload (v := .ref 307) d_Se_reply_104 rfl (Or.inr ⟨_, rfl⟩) k) ?_
        refine S_virtual (as := [.ref 62, .ref 233, .ref 307]) (rest := []) (b := 231) d_Se_reply_106 rfl (jw_Se_putCredentials.jo (by decide)) lm_Se_182 ji_Se_putCredentials js_Se_putCredentials (w231 _) rfl rfl rfl (Nat.le_of_ble_eq_true rfl) (by decide) (by decide) (c_Se_putCredentials G u87 233 234 192 11 ⟨w233, a234, by decide, u233_1, by decide, by decide⟩ 307 308 320 39 ⟨w307, a308, by decide, u307_1, by decide, by decide⟩ (by omega) (by omega) hv88) (fun r u92 hq => ?_)
        obtain ⟨hr, hv93, hm94⟩ := hq
        rw [hr]
        clear hr r
        have hm95 := hm90.go hm94 (by intro i hi; simp only [List.mem_cons, List.not_mem_nil, or_false] at hi ⊢ <;> omega)
        have e96 : u92 34 = nI k17 := (hm94 34 (by decide)).trans e91
        show ST G mi_Se_reply 109 [(6, .ref 307), (5, .ref 233), (4, .ref 306), (0, .ref 231), (1, .ref 62), (2, .ref 217), (3, .ref 291)] [] u92 0 0 _
        refine ST.lift (fun _ _ k => T_aload_n (v := .ref 62) d_Se_reply_109 rfl (Or.inr ⟨_, rfl⟩) k) ?_
        refine ST.lift (fun _ _ k => T_aload (v := .ref 307) d_Se_reply_110 rfl (Or.inr ⟨_, rfl⟩) k) ?_
        refine S_virtual (as := [.ref 307]) (rest := []) (b := 62) d_Se_reply_112 rfl (jw_Kit_putNonce.jo (by decide)) lm_Se_130 ji_Kit_putNonce js_Kit_putNonce (w62 _) rfl rfl rfl (Nat.le_of_ble_eq_true rfl) (by decide) (by decide) (c_Kit_putNonce G u92 307 308 320 39 ⟨w307, a308, by decide, u307_1, by decide, by decide⟩ hv93) (fun r u97 hq => ?_)
        obtain ⟨hr, hv98, hm99⟩ := hq
        rw [hr]
        clear hr r
        have hm100 := hm95.go hm99 (by intro i hi; simp only [List.mem_cons, List.not_mem_nil, or_false] at hi ⊢ <;> omega)
        have e101 : u97 34 = nI k17 := (hm99 34 (by decide)).trans e96
        show ST G mi_Se_reply 115 [(6, .ref 307), (5, .ref 233), (4, .ref 306), (0, .ref 231), (1, .ref 62), (2, .ref 217), (3, .ref 291)] [] u97 0 0 _
        refine ST.lift (fun _ _ k => T_aload_n (v := .ref 62) d_Se_reply_115 rfl (Or.inr ⟨_, rfl⟩) k) ?_
        refine ST.lift (fun _ _ k => T_aload_n (v := .ref 231) d_Se_reply_116 rfl (Or.inr ⟨_, rfl⟩) k) ?_
        refine S_getfield d_Se_reply_117 fg_Se_46 (w231 _) rfl ?_
        refine S_virtual (as := [.ref 246]) (rest := []) (b := 62) d_Se_reply_120 rfl (jw_Kit_nextScalar.jo (by decide)) lm_Se_159 ji_Kit_nextScalar js_Kit_nextScalar (w62 _) rfl rfl rfl (Nat.le_of_ble_eq_true rfl) (by decide) (by decide) (c_Kit_nextScalar G u97 246 32 (by decide) a246 (by omega) (by omega) hv98) (fun r u102 hq => ?_)
        obtain ⟨hr, hv103, hm104⟩ := hq
        rw [hr]
        clear hr r
        have hm105 := hm100.go hm104 (by intro i hi; simp only [List.mem_cons, List.not_mem_nil, or_false] at hi ⊢ <;> omega)
        have e106 : u102 34 = nI k17 := (hm104 34 (by decide)).trans e101
        show ST G mi_Se_reply 123 [(6, .ref 307), (5, .ref 233), (4, .ref 306), (0, .ref 231), (1, .ref 62), (2, .ref 217), (3, .ref 291)] [] u102 0 0 _
        refine ST.lift (fun _ _ k => T_aload_n (v := .ref 62) d_Se_reply_123 rfl (Or.inr ⟨_, rfl⟩) k) ?_
        refine ST.lift (fun _ _ k => T_aload_n (v := .ref 231) d_Se_reply_124 rfl (Or.inr ⟨_, rfl⟩) k) ?_
        refine S_getfield d_Se_reply_125 fg_Se_46 (w231 _) rfl ?_
        refine ST.lift (fun _ _ k => T_aload (v := .ref 307) d_Se_reply_128 rfl (Or.inr ⟨_, rfl⟩) k) ?_
        refine S_virtual (as := [.ref 246, .ref 307]) (rest := []) (b := 62) d_Se_reply_130 rfl (jw_Kit_putPublic.jo (by decide)) lm_Se_71 ji_Kit_putPublic js_Kit_putPublic (w62 _) rfl rfl rfl (Nat.le_of_ble_eq_true rfl) (by decide) (by decide) (c_Kit_putPublic G u102 246 32 (by decide) a246 (by omega) 307 308 320 39 ⟨w307, a308, by decide, u307_1, by decide, by decide⟩ (by omega) hv103) (fun r u107 hq => ?_)
        obtain ⟨hr, hv108, hm109⟩ := hq
        rw [hr]
        clear hr r
        have hm110 := hm105.go hm109 (by intro i hi; simp only [List.mem_cons, List.not_mem_nil, or_false] at hi ⊢ <;> omega)
        have e111 : u107 34 = nI k17 := (hm109 34 (by decide)).trans e106
        show ST G mi_Se_reply 133 [(6, .ref 307), (5, .ref 233), (4, .ref 306), (0, .ref 231), (1, .ref 62), (2, .ref 217), (3, .ref 291)] [] u107 0 0 _
        refine ST.lift (fun _ _ k => T_aload_n (v := .ref 217) d_Se_reply_133 rfl (Or.inr ⟨_, rfl⟩) k) ?_
        refine ST.lift (fun _ _ k => T_aload (v := .ref 233) d_Se_reply_134 rfl (Or.inr ⟨_, rfl⟩) k) ?_
        refine S_getfield d_Se_reply_136 fg_Se_134 (w233 _) rfl ?_
        refine ST.lift (fun _ _ k => T_aload (v := .ref 306) d_Se_reply_139 rfl (Or.inr ⟨_, rfl⟩) k) ?_
        refine ST.lift (fun _ _ k => T_aload_n (v := .ref 231) d_Se_reply_141 rfl (Or.inr ⟨_, rfl⟩) k) ?_
        refine S_getfield d_Se_reply_142 fg_Se_40 (w231 _) rfl ?_
        refine S_getfield d_Se_reply_145 fg_Se_134 (w243 _) rfl ?_
        refine ST.lift (fun _ _ k => T_aload (v := .ref 307) d_Se_reply_148 rfl (Or.inr ⟨_, rfl⟩) k) ?_
        refine S_getfield d_Se_reply_150 fg_Se_134 (w307 _) rfl ?_
        refine S_virtual (as := [.ref 234, .ref 306, .ref 244, .ref 308]) (rest := []) (b := 217) d_Se_reply_153 rfl (jw_Ex_open.jo (by decide)) lm_Se_186 ji_Ex_open js_Ex_open (w217 _) rfl rfl rfl (Nat.le_of_ble_eq_true rfl) (by decide) (by decide) (c_Ex_open G u107 234 192 (by decide) a234 (by omega) 306 96 (by decide) a306 (by omega) 244 32 (by decide) a244 (by omega) 308 320 (by decide) a308 (by omega) hv108) (fun r u112 hq => ?_)
        obtain ⟨hr, hv113, hm114⟩ := hq
        rw [hr]
        clear hr r
        have hm115 := hm110.go hm114 (by intro i hi; simp only [List.mem_cons, List.not_mem_nil, or_false] at hi ⊢ <;> omega)
        have e116 : u112 34 = nI k17 := (hm114 34 (by decide)).trans e111
        show ST G mi_Se_reply 156 [(6, .ref 307), (5, .ref 233), (4, .ref 306), (0, .ref 231), (1, .ref 62), (2, .ref 217), (3, .ref 291)] [] u112 0 0 _
        refine ST.lift (fun _ _ k => T_aload_n (v := .ref 217) d_Se_reply_156 rfl (Or.inr ⟨_, rfl⟩) k) ?_
        refine ST.lift (fun _ _ k => T_aload_n (v := .ref 62) d_Se_reply_157 rfl (Or.inr ⟨_, rfl⟩) k) ?_
        refine ST.lift (fun _ _ k => T_aload_n (v := .ref 231) d_Se_reply_158 rfl (Or.inr ⟨_, rfl⟩) k) ?_
        refine S_getfield d_Se_reply_159 fg_Se_46 (w231 _) rfl ?_
        refine ST.lift (fun _ _ k => T_aload_n (v := .ref 62) d_Se_reply_162 rfl (Or.inr ⟨_, rfl⟩) k) ?_
        refine S_getfield d_Se_reply_163 fg_Se_174 (w62 _) rfl ?_
        refine S_virtual (as := [.ref 62, .ref 246, .ref 193]) (rest := []) (b := 217) d_Se_reply_166 rfl (jw_Ex_join.jo (by decide)) lm_Se_191 ji_Ex_join js_Ex_join (w217 _) rfl rfl rfl (Nat.le_of_ble_eq_true rfl) (by decide) (by decide) (c_Ex_join G u112 246 32 (by decide) a246 (by omega) 193 194 195 196 197 ⟨w193, a194, a195, a196, a197, by decide, by decide, by decide, by decide⟩ (by omega) hv113) (fun r u117 hq => ?_)
        obtain ⟨hr, hv118, hm119⟩ := hq
        rw [hr]
        clear hr r
        have hm120 := hm115.go hm119 (by intro i hi; simp only [List.mem_cons, List.not_mem_nil, or_false] at hi ⊢ <;> omega)
        have e121 : u117 34 = nI k17 := (hm119 34 (by decide)).trans e116
        show ST G mi_Se_reply 169 [(6, .ref 307), (5, .ref 233), (4, .ref 306), (0, .ref 231), (1, .ref 62), (2, .ref 217), (3, .ref 291)] [] u117 0 0 _
        refine ST.lift (fun _ _ k => T_aload_n (v := .ref 217) d_Se_reply_169 rfl (Or.inr ⟨_, rfl⟩) k) ?_
        refine ST.lift (fun _ _ k => T_aload_n (v := .ref 62) d_Se_reply_170 rfl (Or.inr ⟨_, rfl⟩) k) ?_
        refine ST.lift (fun _ _ k => T_aload_n (v := .ref 231) d_Se_reply_171 rfl (Or.inr ⟨_, rfl⟩) k) ?_
        refine S_getfield d_Se_reply_172 fg_Se_37 (w231 _) rfl ?_
        refine ST.lift (fun _ _ k => T_aload_n (v := .ref 62) d_Se_reply_175 rfl (Or.inr ⟨_, rfl⟩) k) ?_
        refine S_getfield d_Se_reply_176 fg_Se_174 (w62 _) rfl ?_
        refine S_virtual (as := [.ref 62, .ref 242, .ref 193]) (rest := []) (b := 217) d_Se_reply_179 rfl (jw_Ex_join.jo (by decide)) lm_Se_191 ji_Ex_join js_Ex_join (w217 _) rfl rfl rfl (Nat.le_of_ble_eq_true rfl) (by decide) (by decide) (c_Ex_join G u117 242 32 (by decide) a242 (by omega) 193 194 195 196 197 ⟨w193, a194, a195, a196, a197, by decide, by decide, by decide, by decide⟩ (by omega) hv118) (fun r u122 hq => ?_)
        obtain ⟨hr, hv123, hm124⟩ := hq
        rw [hr]
        clear hr r
        have hm125 := hm120.go hm124 (by intro i hi; simp only [List.mem_cons, List.not_mem_nil, or_false] at hi ⊢ <;> omega)
        have e126 : u122 34 = nI k17 := (hm124 34 (by decide)).trans e121
        show ST G mi_Se_reply 182 [(6, .ref 307), (5, .ref 233), (4, .ref 306), (0, .ref 231), (1, .ref 62), (2, .ref 217), (3, .ref 291)] [] u122 0 0 _
        refine ST.lift (fun _ _ k => T_aload_n (v := .ref 62) d_Se_reply_182 rfl (Or.inr ⟨_, rfl⟩) k) ?_
        refine S_getfield d_Se_reply_183 fg_Se_117 (w62 _) rfl ?_
        refine ST.lift (fun _ _ k => T_aload (v := .ref 233) d_Se_reply_186 rfl (Or.inr ⟨_, rfl⟩) k) ?_
        refine S_getfield d_Se_reply_188 fg_Se_134 (w233 _) rfl ?_
        refine ST.lift (fun _ _ k => T_iconst (v := nI 0) d_Se_reply_191 (by decide) k) ?_
        refine ST.lift (fun _ _ k => T_aload_n (v := .ref 62) d_Se_reply_192 rfl (Or.inr ⟨_, rfl⟩) k) ?_
        refine S_getfield d_Se_reply_193 fg_Se_109 (w62 _) rfl ?_
        refine S_virtual (as := [.ref 234, .int (nI 0), .ref 188]) (rest := []) (b := 77) d_Se_reply_196 rfl (jw_Cu_decode.jo (by decide)) lm_Se_170 ji_Cu_decode js_Cu_decode (w77 _) rfl rfl rfl (Nat.le_of_ble_eq_true rfl) (by decide) (by decide) (c_Cu_decode G u122 234 192 (by decide) a234 (by omega) 0 (by omega) 188 189 190 191 192 ⟨w188, a189, a190, a191, a192, by decide, by decide, by decide, by decide⟩ hv123) (fun r u127 hq => ?_)
        obtain ⟨z130, hz130, hr, hv128, hm129⟩ := hq
        rw [hr]
        clear hr r
        have hm131 := hm125.go hm129 (by intro i hi; simp only [List.mem_cons, List.not_mem_nil, or_false] at hi ⊢ <;> omega)
        have e132 : u127 34 = nI k17 := (hm129 34 (by decide)).trans e126
        show ST G mi_Se_reply 199 [(6, .ref 307), (5, .ref 233), (4, .ref 306), (0, .ref 231), (1, .ref 62), (2, .ref 217), (3, .ref 291)] [.int (nI z130)] u127 0 0 _
        refine ST.lift (fun _ _ k => T_pop d_Se_reply_199 rfl k) ?_
        refine ST.lift (fun _ _ k => T_aload_n (v := .ref 217) d_Se_reply_200 rfl (Or.inr ⟨_, rfl⟩) k) ?_
        refine ST.lift (fun _ _ k => T_aload_n (v := .ref 62) d_Se_reply_201 rfl (Or.inr ⟨_, rfl⟩) k) ?_
        refine ST.lift (fun _ _ k => T_aload_n (v := .ref 231) d_Se_reply_202 rfl (Or.inr ⟨_, rfl⟩) k) ?_
        refine S_getfield d_Se_reply_203 fg_Se_46 (w231 _) rfl ?_
        refine ST.lift (fun _ _ k => T_aload_n (v := .ref 62) d_Se_reply_206 rfl (Or.inr ⟨_, rfl⟩) k) ?_
        refine S_getfield d_Se_reply_207 fg_Se_109 (w62 _) rfl ?_
        refine S_virtual (as := [.ref 62, .ref 246, .ref 188]) (rest := []) (b := 217) d_Se_reply_210 rfl (jw_Ex_join.jo (by decide)) lm_Se_191 ji_Ex_join js_Ex_join (w217 _) rfl rfl rfl (Nat.le_of_ble_eq_true rfl) (by decide) (by decide) (c_Ex_join G u127 246 32 (by decide) a246 (by omega) 188 189 190 191 192 ⟨w188, a189, a190, a191, a192, by decide, by decide, by decide, by decide⟩ (by omega) hv128) (fun r u133 hq => ?_)
        obtain ⟨hr, hv134, hm135⟩ := hq
        rw [hr]
        clear hr r
        have hm136 := hm131.go hm135 (by intro i hi; simp only [List.mem_cons, List.not_mem_nil, or_false] at hi ⊢ <;> omega)
        have e137 : u133 34 = nI k17 := (hm135 34 (by decide)).trans e132
        show ST G mi_Se_reply 213 [(6, .ref 307), (5, .ref 233), (4, .ref 306), (0, .ref 231), (1, .ref 62), (2, .ref 217), (3, .ref 291)] [] u133 0 0 _
        refine ST.lift (fun _ _ k => T_aload_n (v := .ref 217) d_Se_reply_213 rfl (Or.inr ⟨_, rfl⟩) k) ?_
        refine ST.lift (fun _ _ k => T_aload_n (v := .ref 62) d_Se_reply_214 rfl (Or.inr ⟨_, rfl⟩) k) ?_
        refine S_virtual (as := [.ref 62]) (rest := []) (b := 217) d_Se_reply_215 rfl (jw_Ex_settle.jo (by decide)) lm_Se_195 ji_Ex_settle js_Ex_settle (w217 _) rfl rfl rfl (Nat.le_of_ble_eq_true rfl) (by decide) (by decide) (c_Ex_settle G u133 hv134) (fun r u138 hq => ?_)
        obtain ⟨hr, hv139, hm140⟩ := hq
        rw [hr]
        clear hr r
        have hm141 := hm136.go hm140 (by intro i hi; simp only [List.mem_cons, List.not_mem_nil, or_false] at hi ⊢ <;> omega)
        have e142 : u138 34 = nI k17 := (hm140 34 (by decide)).trans e137
        show ST G mi_Se_reply 218 [(6, .ref 307), (5, .ref 233), (4, .ref 306), (0, .ref 231), (1, .ref 62), (2, .ref 217), (3, .ref 291)] [] u138 0 0 _
        refine ST.lift (fun _ _ k => T_aload (v := .ref 307) d_Se_reply_218 rfl (Or.inr ⟨_, rfl⟩) k) ?_
        refine ST.lift (fun _ _ k => T_aload_n (v := .ref 217) d_Se_reply_220 rfl (Or.inr ⟨_, rfl⟩) k) ?_
        refine S_getfield d_Se_reply_221 fg_Se_198 (w217 _) rfl ?_
        refine ST.lift (fun _ _ k => T_iconst (v := nI 0) d_Se_reply_224 (by decide) k) ?_
        refine ST.lift (fun _ _ k => T_bipush (v := nI 64) d_Se_reply_225 (by decide) k) ?_
        refine S_virtual (as := [.ref 218, .int (nI 0), .int (nI 64)]) (rest := []) (b := 307) d_Se_reply_227 rfl (jw_By_put.jo (by decide)) lm_Se_148 ji_By_put js_By_put (w307 _) rfl rfl rfl (Nat.le_of_ble_eq_true rfl) (by decide) (by decide) (c_By_put G u138 307 308 320 39 ⟨w307, a308, by decide, u307_1, by decide, by decide⟩ 218 64 (by decide) a218 (by omega) 0 (by omega) 64 (by omega) hv139) (fun r u143 hq => ?_)
        obtain ⟨hr, hv144, hm145⟩ := hq
        rw [hr]
        clear hr r
        have hm146 := hm141.go hm145 (by intro i hi; simp only [List.mem_cons, List.not_mem_nil, or_false] at hi ⊢ <;> omega)
        have e147 : u143 34 = nI k17 := (hm145 34 (by decide)).trans e142
        show ST G mi_Se_reply 230 [(6, .ref 307), (5, .ref 233), (4, .ref 306), (0, .ref 231), (1, .ref 62), (2, .ref 217), (3, .ref 291)] [] u143 0 0 _
        refine ST.lift (fun _ _ k => T_aload_n (v := .ref 217) d_Se_reply_230 rfl (Or.inr ⟨_, rfl⟩) k) ?_
        refine S_getfield d_Se_reply_231 fg_Se_201 (w217 _) rfl ?_
        refine ST.lift (fun _ _ k => T_iconst (v := nI 0) d_Se_reply_234 (by decide) k) ?_
        refine ST.lift (fun _ _ k => T_aload_n (v := .ref 291) d_Se_reply_235 rfl (Or.inr ⟨_, rfl⟩) k) ?_
        refine S_getfield d_Se_reply_236 fg_Se_204 (w291 _) rfl ?_
        refine ST.lift (fun _ _ k => T_iconst (v := nI 0) d_Se_reply_239 (by decide) k) ?_
        refine ST.lift (fun _ _ k => T_bipush (v := nI 64) d_Se_reply_240 (by decide) k) ?_
        refine S_copyB d_Se_reply_242 lm_Se_207 (by decide) (by decide) a219 a294 (by omega) (by omega) (by omega) (by omega) (by omega) (by decide) (Nat.le_of_ble_eq_true rfl) ?_
        refine ST.lift (fun _ _ k => T_aload_n (v := .ref 217) d_Se_reply_245 rfl (Or.inr ⟨_, rfl⟩) k) ?_
        refine S_getfield d_Se_reply_246 fg_Se_213 (w217 _) rfl ?_
        refine ST.lift (fun _ _ k => T_iconst (v := nI 0) d_Se_reply_249 (by decide) k) ?_
        refine ST.lift (fun _ _ k => T_aload_n (v := .ref 291) d_Se_reply_250 rfl (Or.inr ⟨_, rfl⟩) k) ?_
        refine S_getfield d_Se_reply_251 fg_Se_216 (w291 _) rfl ?_
        refine ST.lift (fun _ _ k => T_iconst (v := nI 0) d_Se_reply_254 (by decide) k) ?_
        refine ST.lift (fun _ _ k => T_bipush (v := nI 64) d_Se_reply_255 (by decide) k) ?_
        refine S_copyB d_Se_reply_257 lm_Se_207 (by decide) (by decide) a220 a295 (by omega) (by omega) (by omega) (by omega) (by omega) (by decide) (Nat.le_of_ble_eq_true rfl) ?_
        refine ST.lift (fun _ _ k => T_iconst (v := nI 0) d_Se_reply_260 (by decide) k) ?_
        exact S_ret d_Se_reply_261 rfl rfl (by decide) (by decide) (hQ _ _ hv144 hm146)
    · refine ST.lift (fun _ _ k => T_iconst (v := nI 1) d_Se_reply_46 (by decide) k) ?_
      exact S_ret d_Se_reply_47 rfl rfl (by decide) (by decide) (hQ _ _ hv8 hm11)
set_option maxRecDepth 100000 in
set_option maxHeartbeats 4000000 in
theorem c_Se_reply_317 (G : GX) (v : Nat → Int32) (hv : okv v) : CS G mi_Se_reply [.ref 231, .ref 62, .ref 217, .ref 317] v (fun r v' => ∃ z : Int32, r = some (.int z) ∧ okv v' ∧ mdf [6, 7, 5, 2, 3, 1, 4, 8, 9, 10, 11, 12, 13, 14, 15, 48, 49, 50, 51, 52, 53, 45, 46, 47, 44, 82, 83, 84] v v') := by
  refine CS.of (by decide) (Nat.le_of_ble_eq_true rfl) ?_
  generalize hQe : (fun (r : Option Value) (v' : Nat → Int32) => ∃ z : Int32, r = some (.int z) ∧ okv v' ∧ mdf [6, 7, 5, 2, 3, 1, 4, 8, 9, 10, 11, 12, 13, 14, 15, 48, 49, 50, 51, 52, 53, 45, 46, 47, 44, 82, 83, 84] v v') = Q
  have hQ : ∀ (z : Int32) (u : Nat → Int32), okv u → mdf [6, 7, 5, 2, 3, 1, 4, 8, 9, 10, 11, 12, 13, 14, 15, 48, 49, 50, 51, 52, 53, 45, 46, 47, 44, 82, 83, 84] v u → Q (some (.int z)) u := by rw [← hQe]; exact fun z u h1 h2 => ⟨z, rfl, h1, h2⟩
  clear hQe
  have hm : mdf [6, 7, 5, 2, 3, 1, 4, 8, 9, 10, 11, 12, 13, 14, 15, 48, 49, 50, 51, 52, 53, 45, 46, 47, 44, 82, 83, 84] v v := mdf.rf
  show ST G mi_Se_reply 0 [(0, .ref 231), (1, .ref 62), (2, .ref 217), (3, .ref 317)] [] v 0 0 Q
  refine ST.lift (fun _ _ k => T_aload_n (v := .ref 317) d_Se_reply_0 rfl (Or.inr ⟨_, rfl⟩) k) ?_
  refine S_getfield d_Se_reply_1 fg_Se_165 (w317 _) rfl ?_
  refine ST.lift (fun _ _ k => T_iconst (v := nI 0) d_Se_reply_4 (by decide) k) ?_
  refine S_aaload (C0 := "PasswordGate$Bytes") d_Se_reply_5 (by decide) (w318 _) rfl (vp_in_nI (by omega) (by omega)) ?_
  refine S_getfield d_Se_reply_6 fg_Se_134 (w331 _) rfl ?_
  refine ST.lift (fun _ _ k => T_astore (L' := [(4, .ref 332), (0, .ref 231), (1, .ref 62), (2, .ref 217), (3, .ref 317)]) d_Se_reply_9 (by decide) rfl (Or.inr ⟨_, rfl⟩) k) ?_
  refine ST.lift (fun _ _ k => T_aload_n (v := .ref 62) d_Se_reply_11 rfl (Or.inr ⟨_, rfl⟩) k) ?_
  refine S_getfield d_Se_reply_12 fg_Se_117 (w62 _) rfl ?_
  refine ST.lift (fun _ _ k => T_aload (v := .ref 332) d_Se_reply_15 rfl (Or.inr ⟨_, rfl⟩) k) ?_
  refine ST.lift (fun _ _ k => T_iconst (v := nI 0) d_Se_reply_17 (by decide) k) ?_
  refine ST.lift (fun _ _ k => T_aload_n (v := .ref 62) d_Se_reply_18 rfl (Or.inr ⟨_, rfl⟩) k) ?_
  refine S_getfield d_Se_reply_19 fg_Se_109 (w62 _) rfl ?_
  refine S_virtual (as := [.ref 332, .int (nI 0), .ref 188]) (rest := []) (b := 77) d_Se_reply_22 rfl (jw_Cu_decode.jo (by decide)) lm_Se_170 ji_Cu_decode js_Cu_decode (w77 _) rfl rfl rfl (Nat.le_of_ble_eq_true rfl) (by decide) (by decide) (c_Cu_decode G v 332 96 (by decide) a332 (by omega) 0 (by omega) 188 189 190 191 192 ⟨w188, a189, a190, a191, a192, by decide, by decide, by decide, by decide⟩ hv) (fun r u1 hq => ?_)
  obtain ⟨z4, hz4, hr, hv2, hm3⟩ := hq
  rw [hr]
  clear hr r
  have hm5 := hm.go hm3 (by intro i hi; simp only [List.mem_cons, List.not_mem_nil, or_false] at hi ⊢ <;> omega)
  show ST G mi_Se_reply 25 [(4, .ref 332), (0, .ref 231), (1, .ref 62), (2, .ref 217), (3, .ref 317)] [.int (nI z4)] u1 0 0 _
  refine S_if_eqN d_Se_reply_25 rfl (by omega) (fun c6 => ?_) (fun c6 => ?_)
  · refine ST.lift (fun _ _ k => T_iconst (v := nI 1) d_Se_reply_46 (by decide) k) ?_
    exact S_ret d_Se_reply_47 rfl rfl (by decide) (by decide) (hQ _ _ hv2 hm5)
  · refine ST.lift (fun _ _ k => T_aload_n (v := .ref 62) d_Se_reply_28 rfl (Or.inr ⟨_, rfl⟩) k) ?_
    refine S_getfield d_Se_reply_29 fg_Se_117 (w62 _) rfl ?_
    refine ST.lift (fun _ _ k => T_aload (v := .ref 332) d_Se_reply_32 rfl (Or.inr ⟨_, rfl⟩) k) ?_
    refine ST.lift (fun _ _ k => T_bipush (v := nI 64) d_Se_reply_34 (by decide) k) ?_
    refine ST.lift (fun _ _ k => T_aload_n (v := .ref 62) d_Se_reply_36 rfl (Or.inr ⟨_, rfl⟩) k) ?_
    refine S_getfield d_Se_reply_37 fg_Se_174 (w62 _) rfl ?_
    refine S_virtual (as := [.ref 332, .int (nI 64), .ref 193]) (rest := []) (b := 77) d_Se_reply_40 rfl (jw_Cu_decode.jo (by decide)) lm_Se_170 ji_Cu_decode js_Cu_decode (w77 _) rfl rfl rfl (Nat.le_of_ble_eq_true rfl) (by decide) (by decide) (c_Cu_decode G u1 332 96 (by decide) a332 (by omega) 64 (by omega) 193 194 195 196 197 ⟨w193, a194, a195, a196, a197, by decide, by decide, by decide, by decide⟩ hv2) (fun r u7 hq => ?_)
    obtain ⟨z10, hz10, hr, hv8, hm9⟩ := hq
    rw [hr]
    clear hr r
    have hm11 := hm5.go hm9 (by intro i hi; simp only [List.mem_cons, List.not_mem_nil, or_false] at hi ⊢ <;> omega)
    show ST G mi_Se_reply 43 [(4, .ref 332), (0, .ref 231), (1, .ref 62), (2, .ref 217), (3, .ref 317)] [.int (nI z10)] u7 0 0 _
    refine S_if_neN d_Se_reply_43 rfl (by omega) (fun c12 => ?_) (fun c12 => ?_)
    · refine ST.lift (fun _ _ k => T_aload_n (v := .ref 231) d_Se_reply_48 rfl (Or.inr ⟨_, rfl⟩) k) ?_
      refine ST.lift (fun _ _ k => T_aload_n (v := .ref 62) d_Se_reply_49 rfl (Or.inr ⟨_, rfl⟩) k) ?_
      refine S_virtual (as := [.ref 62]) (rest := []) (b := 231) d_Se_reply_50 rfl (jw_Se_open.jo (by decide)) lm_Se_101 ji_Se_open js_Se_open (w231 _) rfl rfl rfl (Nat.le_of_ble_eq_true rfl) (by decide) (by decide) (c_Se_open G u7 hv8) (fun r u13 hq => ?_)
      obtain ⟨hr, hv14, hm15⟩ := hq
      rw [hr]
      clear hr r
      have hm16 := hm11.go hm15 (by intro i hi; simp only [List.mem_cons, List.not_mem_nil, or_false] at hi ⊢ <;> omega)
      show ST G mi_Se_reply 53 [(4, .ref 332), (0, .ref 231), (1, .ref 62), (2, .ref 217), (3, .ref 317)] [] u13 0 0 _
      refine ST.lift (fun _ _ k => T_aload_n (v := .ref 231) d_Se_reply_53 rfl (Or.inr ⟨_, rfl⟩) k) ?_
      refine S_getfield d_Se_reply_54 fg_Se_11 (w231 _) rfl ?_
      refine ST.lift (fun _ _ k => T_aload_n (v := .ref 317) d_Se_reply_57 rfl (Or.inr ⟨_, rfl⟩) k) ?_
      obtain ⟨k17, hk17, ek17⟩ := hv14.get (j := 44) (c := 7) (by decide)
      refine S_getfield d_Se_reply_58 fg_Se_177 (w317 _) rfl ?_
      refine S_topi (y := nI k17) (ek17) ?_
      refine S_aaload (C0 := "PasswordGate$Bytes") d_Se_reply_61 (by decide) (w232 _) rfl (vp_in_nI (by omega) (by omega)) ?_
      obtain ⟨p18, p18d, p18j, e_p18, y_p18, j_p18⟩ := rec_232 k17 (by omega)
      refine S_topv (y := .ref p18) (by rw [nI_clamp (by omega)]; exact congrArg va_rf e_p18) ?_
      refine ST.lift (fun _ _ k => T_astore (L' := [(5, .ref p18), (4, .ref 332), (0, .ref 231), (1, .ref 62), (2, .ref 217), (3, .ref 317)]) d_Se_reply_62 (by decide) rfl (Or.inr ⟨_, rfl⟩) k) ?_
      refine ST.lift (fun _ _ k => T_aload (v := .ref p18) d_Se_reply_64 rfl (Or.inr ⟨_, rfl⟩) k) ?_
      obtain ⟨k19, hk19, ek19⟩ := hv14.get (j := p18j) (c := 192) y_p18.2.2.2.2.1
      refine S_getfield d_Se_reply_66 fg_Se_52 (y_p18.1 _) rfl ?_
      refine S_topi (y := nI k19) (ek19) ?_
      refine S_if_neN d_Se_reply_69 rfl (by omega) (fun c20 => ?_) (fun c20 => ?_)
      · refine ST.lift (fun _ _ k => T_aload_n (v := .ref 231) d_Se_reply_83 rfl (Or.inr ⟨_, rfl⟩) k) ?_
        refine ST.lift (fun _ _ k => T_aload_n (v := .ref 62) d_Se_reply_84 rfl (Or.inr ⟨_, rfl⟩) k) ?_
        refine ST.lift (fun _ _ k => T_aload_n (v := .ref 317) d_Se_reply_85 rfl (Or.inr ⟨_, rfl⟩) k) ?_
        refine S_getfield d_Se_reply_86 fg_Se_177 (w317 _) rfl ?_
        refine S_topi (y := nI k17) (ek17) ?_
        refine S_virtual (as := [.ref 62, .int (nI k17)]) (rest := []) (b := 231) d_Se_reply_89 rfl (jw_Se_findUserKey.jo (by decide)) lm_Se_105 ji_Se_findUserKey js_Se_findUserKey (w231 _) rfl rfl rfl (Nat.le_of_ble_eq_true rfl) (by decide) (by decide) (c_Se_findUserKey G u13 k17 (by omega) hv14) (fun r u21 hq => ?_)
        obtain ⟨hr, hv22, hm23⟩ := hq
        rw [hr]
        clear hr r
        have hm24 := hm16.go hm23 (by intro i hi; simp only [List.mem_cons, List.not_mem_nil, or_false] at hi ⊢ <;> omega)
        have e25 : u21 44 = nI k17 := (hm23 44 (by decide)).trans ek17
        show ST G mi_Se_reply 92 [(5, .ref p18), (4, .ref 332), (0, .ref 231), (1, .ref 62), (2, .ref 217), (3, .ref 317)] [] u21 0 0 _
        refine ST.lift (fun _ _ k => T_aload_n (v := .ref 317) d_Se_reply_92 rfl (Or.inr ⟨_, rfl⟩) k) ?_
        refine S_getfield d_Se_reply_93 fg_Se_165 (w317 _) rfl ?_
        refine ST.lift (fun _ _ k => T_iconst (v := nI 1) d_Se_reply_96 (by decide) k) ?_
        refine S_aaload (C0 := "PasswordGate$Bytes") d_Se_reply_97 (by decide) (w318 _) rfl (vp_in_nI (by omega) (by omega)) ?_
        refine ST.lift (fun _ _ k => T_astore (L' := [(6, .ref 333), (5, .ref p18), (4, .ref 332), (0, .ref 231), (1, .ref 62), (2, .ref 217), (3, .ref 317)]) d_Se_reply_98 (by decide) rfl (Or.inr ⟨_, rfl⟩) k) ?_
        refine ST.lift (fun _ _ k => T_aload_n (v := .ref 231) d_Se_reply_100 rfl (Or.inr ⟨_, rfl⟩) k) ?_
        refine ST.lift (fun _ _ k => T_aload_n (v := .ref 62) d_Se_reply_101 rfl (Or.inr ⟨_, rfl⟩) k) ?_
        refine ST.lift (fun _ _ k => T_aload (v := .ref p18) d_Se_reply_102 rfl (Or.inr ⟨_, rfl⟩) k) ?_
        refine ST.lift (fun _ _ k => T_aload (v := .ref 333) d_Se_reply_104 rfl (Or.inr ⟨_, rfl⟩) k) ?_
        refine S_virtual (as := [.ref 62, .ref p18, .ref 333]) (rest := []) (b := 231) d_Se_reply_106 rfl (jw_Se_putCredentials.jo (by decide)) lm_Se_182 ji_Se_putCredentials js_Se_putCredentials (w231 _) rfl rfl rfl (Nat.le_of_ble_eq_true rfl) (by decide) (by decide) (c_Se_putCredentials G u21 p18 p18d 192 p18j y_p18 333 334 320 49 ⟨w333, a334, by decide, u333_1, by decide, by decide⟩ (by omega) (by omega) hv22) (fun r u26 hq => ?_)
        obtain ⟨hr, hv27, hm28⟩ := hq
        rw [hr]
        clear hr r
        have hm29 := hm24.go hm28 (by intro i hi; simp only [List.mem_cons, List.not_mem_nil, or_false] at hi ⊢ <;> omega)
        have e30 : u26 44 = nI k17 := (hm28 44 (by decide)).trans e25
        show ST G mi_Se_reply 109 [(6, .ref 333), (5, .ref p18), (4, .ref 332), (0, .ref 231), (1, .ref 62), (2, .ref 217), (3, .ref 317)] [] u26 0 0 _
        refine ST.lift (fun _ _ k => T_aload_n (v := .ref 62) d_Se_reply_109 rfl (Or.inr ⟨_, rfl⟩) k) ?_
        refine ST.lift (fun _ _ k => T_aload (v := .ref 333) d_Se_reply_110 rfl (Or.inr ⟨_, rfl⟩) k) ?_
        refine S_virtual (as := [.ref 333]) (rest := []) (b := 62) d_Se_reply_112 rfl (jw_Kit_putNonce.jo (by decide)) lm_Se_130 ji_Kit_putNonce js_Kit_putNonce (w62 _) rfl rfl rfl (Nat.le_of_ble_eq_true rfl) (by decide) (by decide) (c_Kit_putNonce G u26 333 334 320 49 ⟨w333, a334, by decide, u333_1, by decide, by decide⟩ hv27) (fun r u31 hq => ?_)
        obtain ⟨hr, hv32, hm33⟩ := hq
        rw [hr]
        clear hr r
        have hm34 := hm29.go hm33 (by intro i hi; simp only [List.mem_cons, List.not_mem_nil, or_false] at hi ⊢ <;> omega)
        have e35 : u31 44 = nI k17 := (hm33 44 (by decide)).trans e30
        show ST G mi_Se_reply 115 [(6, .ref 333), (5, .ref p18), (4, .ref 332), (0, .ref 231), (1, .ref 62), (2, .ref 217), (3, .ref 317)] [] u31 0 0 _
        refine ST.lift (fun _ _ k => T_aload_n (v := .ref 62) d_Se_reply_115 rfl (Or.inr ⟨_, rfl⟩) k) ?_
        refine ST.lift (fun _ _ k => T_aload_n (v := .ref 231) d_Se_reply_116 rfl (Or.inr ⟨_, rfl⟩) k) ?_
        refine S_getfield d_Se_reply_117 fg_Se_46 (w231 _) rfl ?_
        refine S_virtual (as := [.ref 246]) (rest := []) (b := 62) d_Se_reply_120 rfl (jw_Kit_nextScalar.jo (by decide)) lm_Se_159 ji_Kit_nextScalar js_Kit_nextScalar (w62 _) rfl rfl rfl (Nat.le_of_ble_eq_true rfl) (by decide) (by decide) (c_Kit_nextScalar G u31 246 32 (by decide) a246 (by omega) (by omega) hv32) (fun r u36 hq => ?_)
        obtain ⟨hr, hv37, hm38⟩ := hq
        rw [hr]
        clear hr r
        have hm39 := hm34.go hm38 (by intro i hi; simp only [List.mem_cons, List.not_mem_nil, or_false] at hi ⊢ <;> omega)
        have e40 : u36 44 = nI k17 := (hm38 44 (by decide)).trans e35
        show ST G mi_Se_reply 123 [(6, .ref 333), (5, .ref p18), (4, .ref 332), (0, .ref 231), (1, .ref 62), (2, .ref 217), (3, .ref 317)] [] u36 0 0 _
        refine ST.lift (fun _ _ k => T_aload_n (v := .ref 62) d_Se_reply_123 rfl (Or.inr ⟨_, rfl⟩) k) ?_
        refine ST.lift (fun _ _ k => T_aload_n (v := .ref 231) d_Se_reply_124 rfl (Or.inr ⟨_, rfl⟩) k) ?_
        refine S_getfield d_Se_reply_125 fg_Se_46 (w231 _) rfl ?_
        refine ST.lift (fun _ _ k => T_aload (v := .ref 333) d_Se_reply_128 rfl (Or.inr ⟨_, rfl⟩) k) ?_
        refine S_virtual (as := [.ref 246, .ref 333]) (rest := []) (b := 62) d_Se_reply_130 rfl (jw_Kit_putPublic.jo (by decide)) lm_Se_71 ji_Kit_putPublic js_Kit_putPublic (w62 _) rfl rfl rfl (Nat.le_of_ble_eq_true rfl) (by decide) (by decide) (c_Kit_putPublic G u36 246 32 (by decide) a246 (by omega) 333 334 320 49 ⟨w333, a334, by decide, u333_1, by decide, by decide⟩ (by omega) hv37) (fun r u41 hq => ?_)
        obtain ⟨hr, hv42, hm43⟩ := hq
        rw [hr]
        clear hr r
        have hm44 := hm39.go hm43 (by intro i hi; simp only [List.mem_cons, List.not_mem_nil, or_false] at hi ⊢ <;> omega)
        have e45 : u41 44 = nI k17 := (hm43 44 (by decide)).trans e40
        show ST G mi_Se_reply 133 [(6, .ref 333), (5, .ref p18), (4, .ref 332), (0, .ref 231), (1, .ref 62), (2, .ref 217), (3, .ref 317)] [] u41 0 0 _
        refine ST.lift (fun _ _ k => T_aload_n (v := .ref 217) d_Se_reply_133 rfl (Or.inr ⟨_, rfl⟩) k) ?_
        refine ST.lift (fun _ _ k => T_aload (v := .ref p18) d_Se_reply_134 rfl (Or.inr ⟨_, rfl⟩) k) ?_
        refine S_getfield d_Se_reply_136 fg_Se_134 (y_p18.1 _) rfl ?_
        refine ST.lift (fun _ _ k => T_aload (v := .ref 332) d_Se_reply_139 rfl (Or.inr ⟨_, rfl⟩) k) ?_
        refine ST.lift (fun _ _ k => T_aload_n (v := .ref 231) d_Se_reply_141 rfl (Or.inr ⟨_, rfl⟩) k) ?_
        refine S_getfield d_Se_reply_142 fg_Se_40 (w231 _) rfl ?_
        refine S_getfield d_Se_reply_145 fg_Se_134 (w243 _) rfl ?_
        refine ST.lift (fun _ _ k => T_aload (v := .ref 333) d_Se_reply_148 rfl (Or.inr ⟨_, rfl⟩) k) ?_
        refine S_getfield d_Se_reply_150 fg_Se_134 (w333 _) rfl ?_
        refine S_virtual (as := [.ref p18d, .ref 332, .ref 244, .ref 334]) (rest := []) (b := 217) d_Se_reply_153 rfl (jw_Ex_open.jo (by decide)) lm_Se_186 ji_Ex_open js_Ex_open (w217 _) rfl rfl rfl (Nat.le_of_ble_eq_true rfl) (by decide) (by decide) (c_Ex_open G u41 p18d 192 y_p18.2.2.1 y_p18.2.1 (by omega) 332 96 (by decide) a332 (by omega) 244 32 (by decide) a244 (by omega) 334 320 (by decide) a334 (by omega) hv42) (fun r u46 hq => ?_)
        obtain ⟨hr, hv47, hm48⟩ := hq
        rw [hr]
        clear hr r
        have hm49 := hm44.go hm48 (by intro i hi; simp only [List.mem_cons, List.not_mem_nil, or_false] at hi ⊢ <;> omega)
        have e50 : u46 44 = nI k17 := (hm48 44 (by decide)).trans e45
        show ST G mi_Se_reply 156 [(6, .ref 333), (5, .ref p18), (4, .ref 332), (0, .ref 231), (1, .ref 62), (2, .ref 217), (3, .ref 317)] [] u46 0 0 _
        refine ST.lift (fun _ _ k => T_aload_n (v := .ref 217) d_Se_reply_156 rfl (Or.inr ⟨_, rfl⟩) k) ?_
        refine ST.lift (fun _ _ k => T_aload_n (v := .ref 62) d_Se_reply_157 rfl (Or.inr ⟨_, rfl⟩) k) ?_
        refine ST.lift (fun _ _ k => T_aload_n (v := .ref 231) d_Se_reply_158 rfl (Or.inr ⟨_, rfl⟩) k) ?_
        refine S_getfield d_Se_reply_159 fg_Se_46 (w231 _) rfl ?_
        refine ST.lift (fun _ _ k => T_aload_n (v := .ref 62) d_Se_reply_162 rfl (Or.inr ⟨_, rfl⟩) k) ?_
        refine S_getfield d_Se_reply_163 fg_Se_174 (w62 _) rfl ?_
        refine S_virtual (as := [.ref 62, .ref 246, .ref 193]) (rest := []) (b := 217) d_Se_reply_166 rfl (jw_Ex_join.jo (by decide)) lm_Se_191 ji_Ex_join js_Ex_join (w217 _) rfl rfl rfl (Nat.le_of_ble_eq_true rfl) (by decide) (by decide) (c_Ex_join G u46 246 32 (by decide) a246 (by omega) 193 194 195 196 197 ⟨w193, a194, a195, a196, a197, by decide, by decide, by decide, by decide⟩ (by omega) hv47) (fun r u51 hq => ?_)
        obtain ⟨hr, hv52, hm53⟩ := hq
        rw [hr]
        clear hr r
        have hm54 := hm49.go hm53 (by intro i hi; simp only [List.mem_cons, List.not_mem_nil, or_false] at hi ⊢ <;> omega)
        have e55 : u51 44 = nI k17 := (hm53 44 (by decide)).trans e50
        show ST G mi_Se_reply 169 [(6, .ref 333), (5, .ref p18), (4, .ref 332), (0, .ref 231), (1, .ref 62), (2, .ref 217), (3, .ref 317)] [] u51 0 0 _
        refine ST.lift (fun _ _ k => T_aload_n (v := .ref 217) d_Se_reply_169 rfl (Or.inr ⟨_, rfl⟩) k) ?_
        refine ST.lift (fun _ _ k => T_aload_n (v := .ref 62) d_Se_reply_170 rfl (Or.inr ⟨_, rfl⟩) k) ?_
        refine ST.lift (fun _ _ k => T_aload_n (v := .ref 231) d_Se_reply_171 rfl (Or.inr ⟨_, rfl⟩) k) ?_
        refine S_getfield d_Se_reply_172 fg_Se_37 (w231 _) rfl ?_
        refine ST.lift (fun _ _ k => T_aload_n (v := .ref 62) d_Se_reply_175 rfl (Or.inr ⟨_, rfl⟩) k) ?_
        refine S_getfield d_Se_reply_176 fg_Se_174 (w62 _) rfl ?_
        refine S_virtual (as := [.ref 62, .ref 242, .ref 193]) (rest := []) (b := 217) d_Se_reply_179 rfl (jw_Ex_join.jo (by decide)) lm_Se_191 ji_Ex_join js_Ex_join (w217 _) rfl rfl rfl (Nat.le_of_ble_eq_true rfl) (by decide) (by decide) (c_Ex_join G u51 242 32 (by decide) a242 (by omega) 193 194 195 196 197 ⟨w193, a194, a195, a196, a197, by decide, by decide, by decide, by decide⟩ (by omega) hv52) (fun r u56 hq => ?_)
        obtain ⟨hr, hv57, hm58⟩ := hq
        rw [hr]
        clear hr r
        have hm59 := hm54.go hm58 (by intro i hi; simp only [List.mem_cons, List.not_mem_nil, or_false] at hi ⊢ <;> omega)
        have e60 : u56 44 = nI k17 := (hm58 44 (by decide)).trans e55
        show ST G mi_Se_reply 182 [(6, .ref 333), (5, .ref p18), (4, .ref 332), (0, .ref 231), (1, .ref 62), (2, .ref 217), (3, .ref 317)] [] u56 0 0 _
        refine ST.lift (fun _ _ k => T_aload_n (v := .ref 62) d_Se_reply_182 rfl (Or.inr ⟨_, rfl⟩) k) ?_
        refine S_getfield d_Se_reply_183 fg_Se_117 (w62 _) rfl ?_
        refine ST.lift (fun _ _ k => T_aload (v := .ref p18) d_Se_reply_186 rfl (Or.inr ⟨_, rfl⟩) k) ?_
        refine S_getfield d_Se_reply_188 fg_Se_134 (y_p18.1 _) rfl ?_
        refine ST.lift (fun _ _ k => T_iconst (v := nI 0) d_Se_reply_191 (by decide) k) ?_
        refine ST.lift (fun _ _ k => T_aload_n (v := .ref 62) d_Se_reply_192 rfl (Or.inr ⟨_, rfl⟩) k) ?_
        refine S_getfield d_Se_reply_193 fg_Se_109 (w62 _) rfl ?_
        refine S_virtual (as := [.ref p18d, .int (nI 0), .ref 188]) (rest := []) (b := 77) d_Se_reply_196 rfl (jw_Cu_decode.jo (by decide)) lm_Se_170 ji_Cu_decode js_Cu_decode (w77 _) rfl rfl rfl (Nat.le_of_ble_eq_true rfl) (by decide) (by decide) (c_Cu_decode G u56 p18d 192 y_p18.2.2.1 y_p18.2.1 (by omega) 0 (by omega) 188 189 190 191 192 ⟨w188, a189, a190, a191, a192, by decide, by decide, by decide, by decide⟩ hv57) (fun r u61 hq => ?_)
        obtain ⟨z64, hz64, hr, hv62, hm63⟩ := hq
        rw [hr]
        clear hr r
        have hm65 := hm59.go hm63 (by intro i hi; simp only [List.mem_cons, List.not_mem_nil, or_false] at hi ⊢ <;> omega)
        have e66 : u61 44 = nI k17 := (hm63 44 (by decide)).trans e60
        show ST G mi_Se_reply 199 [(6, .ref 333), (5, .ref p18), (4, .ref 332), (0, .ref 231), (1, .ref 62), (2, .ref 217), (3, .ref 317)] [.int (nI z64)] u61 0 0 _
        refine ST.lift (fun _ _ k => T_pop d_Se_reply_199 rfl k) ?_
        refine ST.lift (fun _ _ k => T_aload_n (v := .ref 217) d_Se_reply_200 rfl (Or.inr ⟨_, rfl⟩) k) ?_
        refine ST.lift (fun _ _ k => T_aload_n (v := .ref 62) d_Se_reply_201 rfl (Or.inr ⟨_, rfl⟩) k) ?_
        refine ST.lift (fun _ _ k => T_aload_n (v := .ref 231) d_Se_reply_202 rfl (Or.inr ⟨_, rfl⟩) k) ?_
        refine S_getfield d_Se_reply_203 fg_Se_46 (w231 _) rfl ?_
        refine ST.lift (fun _ _ k => T_aload_n (v := .ref 62) d_Se_reply_206 rfl (Or.inr ⟨_, rfl⟩) k) ?_
        refine S_getfield d_Se_reply_207 fg_Se_109 (w62 _) rfl ?_
        refine S_virtual (as := [.ref 62, .ref 246, .ref 188]) (rest := []) (b := 217) d_Se_reply_210 rfl (jw_Ex_join.jo (by decide)) lm_Se_191 ji_Ex_join js_Ex_join (w217 _) rfl rfl rfl (Nat.le_of_ble_eq_true rfl) (by decide) (by decide) (c_Ex_join G u61 246 32 (by decide) a246 (by omega) 188 189 190 191 192 ⟨w188, a189, a190, a191, a192, by decide, by decide, by decide, by decide⟩ (by omega) hv62) (fun r u67 hq => ?_)
        obtain ⟨hr, hv68, hm69⟩ := hq
        rw [hr]
        clear hr r
        have hm70 := hm65.go hm69 (by intro i hi; simp only [List.mem_cons, List.not_mem_nil, or_false] at hi ⊢ <;> omega)
        have e71 : u67 44 = nI k17 := (hm69 44 (by decide)).trans e66
        show ST G mi_Se_reply 213 [(6, .ref 333), (5, .ref p18), (4, .ref 332), (0, .ref 231), (1, .ref 62), (2, .ref 217), (3, .ref 317)] [] u67 0 0 _
        refine ST.lift (fun _ _ k => T_aload_n (v := .ref 217) d_Se_reply_213 rfl (Or.inr ⟨_, rfl⟩) k) ?_
        refine ST.lift (fun _ _ k => T_aload_n (v := .ref 62) d_Se_reply_214 rfl (Or.inr ⟨_, rfl⟩) k) ?_
        refine S_virtual (as := [.ref 62]) (rest := []) (b := 217) d_Se_reply_215 rfl (jw_Ex_settle.jo (by decide)) lm_Se_195 ji_Ex_settle js_Ex_settle (w217 _) rfl rfl rfl (Nat.le_of_ble_eq_true rfl) (by decide) (by decide) (c_Ex_settle G u67 hv68) (fun r u72 hq => ?_)
        obtain ⟨hr, hv73, hm74⟩ := hq
        rw [hr]
        clear hr r
        have hm75 := hm70.go hm74 (by intro i hi; simp only [List.mem_cons, List.not_mem_nil, or_false] at hi ⊢ <;> omega)
        have e76 : u72 44 = nI k17 := (hm74 44 (by decide)).trans e71
        show ST G mi_Se_reply 218 [(6, .ref 333), (5, .ref p18), (4, .ref 332), (0, .ref 231), (1, .ref 62), (2, .ref 217), (3, .ref 317)] [] u72 0 0 _
        refine ST.lift (fun _ _ k => T_aload (v := .ref 333) d_Se_reply_218 rfl (Or.inr ⟨_, rfl⟩) k) ?_
        refine ST.lift (fun _ _ k => T_aload_n (v := .ref 217) d_Se_reply_220 rfl (Or.inr ⟨_, rfl⟩) k) ?_
        refine S_getfield d_Se_reply_221 fg_Se_198 (w217 _) rfl ?_
        refine ST.lift (fun _ _ k => T_iconst (v := nI 0) d_Se_reply_224 (by decide) k) ?_
        refine ST.lift (fun _ _ k => T_bipush (v := nI 64) d_Se_reply_225 (by decide) k) ?_
        refine S_virtual (as := [.ref 218, .int (nI 0), .int (nI 64)]) (rest := []) (b := 333) d_Se_reply_227 rfl (jw_By_put.jo (by decide)) lm_Se_148 ji_By_put js_By_put (w333 _) rfl rfl rfl (Nat.le_of_ble_eq_true rfl) (by decide) (by decide) (c_By_put G u72 333 334 320 49 ⟨w333, a334, by decide, u333_1, by decide, by decide⟩ 218 64 (by decide) a218 (by omega) 0 (by omega) 64 (by omega) hv73) (fun r u77 hq => ?_)
        obtain ⟨hr, hv78, hm79⟩ := hq
        rw [hr]
        clear hr r
        have hm80 := hm75.go hm79 (by intro i hi; simp only [List.mem_cons, List.not_mem_nil, or_false] at hi ⊢ <;> omega)
        have e81 : u77 44 = nI k17 := (hm79 44 (by decide)).trans e76
        show ST G mi_Se_reply 230 [(6, .ref 333), (5, .ref p18), (4, .ref 332), (0, .ref 231), (1, .ref 62), (2, .ref 217), (3, .ref 317)] [] u77 0 0 _
        refine ST.lift (fun _ _ k => T_aload_n (v := .ref 217) d_Se_reply_230 rfl (Or.inr ⟨_, rfl⟩) k) ?_
        refine S_getfield d_Se_reply_231 fg_Se_201 (w217 _) rfl ?_
        refine ST.lift (fun _ _ k => T_iconst (v := nI 0) d_Se_reply_234 (by decide) k) ?_
        refine ST.lift (fun _ _ k => T_aload_n (v := .ref 317) d_Se_reply_235 rfl (Or.inr ⟨_, rfl⟩) k) ?_
        refine S_getfield d_Se_reply_236 fg_Se_204 (w317 _) rfl ?_
        refine ST.lift (fun _ _ k => T_iconst (v := nI 0) d_Se_reply_239 (by decide) k) ?_
        refine ST.lift (fun _ _ k => T_bipush (v := nI 64) d_Se_reply_240 (by decide) k) ?_
        refine S_copyB d_Se_reply_242 lm_Se_207 (by decide) (by decide) a219 a320 (by omega) (by omega) (by omega) (by omega) (by omega) (by decide) (Nat.le_of_ble_eq_true rfl) ?_
        refine ST.lift (fun _ _ k => T_aload_n (v := .ref 217) d_Se_reply_245 rfl (Or.inr ⟨_, rfl⟩) k) ?_
        refine S_getfield d_Se_reply_246 fg_Se_213 (w217 _) rfl ?_
        refine ST.lift (fun _ _ k => T_iconst (v := nI 0) d_Se_reply_249 (by decide) k) ?_
        refine ST.lift (fun _ _ k => T_aload_n (v := .ref 317) d_Se_reply_250 rfl (Or.inr ⟨_, rfl⟩) k) ?_
        refine S_getfield d_Se_reply_251 fg_Se_216 (w317 _) rfl ?_
        refine ST.lift (fun _ _ k => T_iconst (v := nI 0) d_Se_reply_254 (by decide) k) ?_
        refine ST.lift (fun _ _ k => T_bipush (v := nI 64) d_Se_reply_255 (by decide) k) ?_
        refine S_copyB d_Se_reply_257 lm_Se_207 (by decide) (by decide) a220 a321 (by omega) (by omega) (by omega) (by omega) (by omega) (by decide) (Nat.le_of_ble_eq_true rfl) ?_
        refine ST.lift (fun _ _ k => T_iconst (v := nI 0) d_Se_reply_260 (by decide) k) ?_
        exact S_ret d_Se_reply_261 rfl rfl (by decide) (by decide) (hQ _ _ hv78 hm80)
      · refine ST.lift (fun _ _ k => T_aload_n (v := .ref 231) d_Se_reply_72 rfl (Or.inr ⟨_, rfl⟩) k) ?_
        refine ST.lift (fun _ _ k => T_aload_n (v := .ref 62) d_Se_reply_73 rfl (Or.inr ⟨_, rfl⟩) k) ?_
        refine S_virtual (as := [.ref 62]) (rest := []) (b := 231) d_Se_reply_74 rfl (jw_Se_makeUp.jo (by decide)) lm_Se_179 ji_Se_makeUp js_Se_makeUp (w231 _) rfl rfl rfl (Nat.le_of_ble_eq_true rfl) (by decide) (by decide) (c_Se_makeUp G u13 hv14) (fun r u82 hq => ?_)
        obtain ⟨hr, hv83, hm84⟩ := hq
        rw [hr]
        clear hr r
        have hm85 := hm16.go hm84 (by intro i hi; simp only [List.mem_cons, List.not_mem_nil, or_false] at hi ⊢ <;> omega)
        have e86 : u82 44 = nI k17 := (hm84 44 (by decide)).trans ek17
        show ST G mi_Se_reply 77 [(5, .ref p18), (4, .ref 332), (0, .ref 231), (1, .ref 62), (2, .ref 217), (3, .ref 317)] [] u82 0 0 _
        refine ST.lift (fun _ _ k => T_aload_n (v := .ref 231) d_Se_reply_77 rfl (Or.inr ⟨_, rfl⟩) k) ?_
        refine S_getfield d_Se_reply_78 fg_Se_20 (w231 _) rfl ?_
        refine ST.lift (fun _ _ k => T_astore (L' := [(5, .ref 233), (4, .ref 332), (0, .ref 231), (1, .ref 62), (2, .ref 217), (3, .ref 317)]) d_Se_reply_81 (by decide) rfl (Or.inr ⟨_, rfl⟩) k) ?_
        refine ST.lift (fun _ _ k => T_aload_n (v := .ref 231) d_Se_reply_83 rfl (Or.inr ⟨_, rfl⟩) k) ?_
        refine ST.lift (fun _ _ k => T_aload_n (v := .ref 62) d_Se_reply_84 rfl (Or.inr ⟨_, rfl⟩) k) ?_
        refine ST.lift (fun _ _ k => T_aload_n (v := .ref 317) d_Se_reply_85 rfl (Or.inr ⟨_, rfl⟩) k) ?_
        refine S_getfield d_Se_reply_86 fg_Se_177 (w317 _) rfl ?_
        refine S_topi (y := nI k17) (e86) ?_
        refine S_virtual (as := [.ref 62, .int (nI k17)]) (rest := []) (b := 231) d_Se_reply_89 rfl (jw_Se_findUserKey.jo (by decide)) lm_Se_105 ji_Se_findUserKey js_Se_findUserKey (w231 _) rfl rfl rfl (Nat.le_of_ble_eq_true rfl) (by decide) (by decide) (c_Se_findUserKey G u82 k17 (by omega) hv83) (fun r u87 hq => ?_)
        obtain ⟨hr, hv88, hm89⟩ := hq
        rw [hr]
        clear hr r
        have hm90 := hm85.go hm89 (by intro i hi; simp only [List.mem_cons, List.not_mem_nil, or_false] at hi ⊢ <;> omega)
        have e91 : u87 44 = nI k17 := (hm89 44 (by decide)).trans e86
        show ST G mi_Se_reply 92 [(5, .ref 233), (4, .ref 332), (0, .ref 231), (1, .ref 62), (2, .ref 217), (3, .ref 317)] [] u87 0 0 _
        refine ST.lift (fun _ _ k => T_aload_n (v := .ref 317) d_Se_reply_92 rfl (Or.inr ⟨_, rfl⟩) k) ?_
        refine S_getfield d_Se_reply_93 fg_Se_165 (w317 _) rfl ?_
        refine ST.lift (fun _ _ k => T_iconst (v := nI 1) d_Se_reply_96 (by decide) k) ?_
        refine S_aaload (C0 := "PasswordGate$Bytes") d_Se_reply_97 (by decide) (w318 _) rfl (vp_in_nI (by omega) (by omega)) ?_
        refine ST.lift (fun _ _ k => T_astore (L' := [(6, .ref 333), (5, .ref 233), (4, .ref 332), (0, .ref 231), (1, .ref 62), (2, .ref 217), (3, .ref 317)]) d_Se_reply_98 (by decide) rfl (Or.inr ⟨_, rfl⟩) k) ?_
        refine ST.lift (fun _ _ k => T_aload_n (v := .ref 231) d_Se_reply_100 rfl (Or.inr ⟨_, rfl⟩) k) ?_
        refine ST.lift (fun _ _ k => T_aload_n (v := .ref 62) d_Se_reply_101 rfl (Or.inr ⟨_, rfl⟩) k) ?_
        refine ST.lift (fun _ _ k => T_aload (v := .ref 233) d_Se_reply_102 rfl (Or.inr ⟨_, rfl⟩) k) ?_
        refine ST.lift (fun _ _ k => T_aload (v := .ref 333) d_Se_reply_104 rfl (Or.inr ⟨_, rfl⟩) k) ?_
        refine S_virtual (as := [.ref 62, .ref 233, .ref 333]) (rest := []) (b := 231) d_Se_reply_106 rfl (jw_Se_putCredentials.jo (by decide)) lm_Se_182 ji_Se_putCredentials js_Se_putCredentials (w231 _) rfl rfl rfl (Nat.le_of_ble_eq_true rfl) (by decide) (by decide) (c_Se_putCredentials G u87 233 234 192 11 ⟨w233, a234, by decide, u233_1, by decide, by decide⟩ 333 334 320 49 ⟨w333, a334, by decide, u333_1, by decide, by decide⟩ (by omega) (by omega) hv88) (fun r u92 hq => ?_)
        obtain ⟨hr, hv93, hm94⟩ := hq
        rw [hr]
        clear hr r
        have hm95 := hm90.go hm94 (by intro i hi; simp only [List.mem_cons, List.not_mem_nil, or_false] at hi ⊢ <;> omega)
        have e96 : u92 44 = nI k17 := (hm94 44 (by decide)).trans e91
        show ST G mi_Se_reply 109 [(6, .ref 333), (5, .ref 233), (4, .ref 332), (0, .ref 231), (1, .ref 62), (2, .ref 217), (3, .ref 317)] [] u92 0 0 _
        refine ST.lift (fun _ _ k => T_aload_n (v := .ref 62) d_Se_reply_109 rfl (Or.inr ⟨_, rfl⟩) k) ?_
        refine ST.lift (fun _ _ k => T_aload (v := .ref 333) d_Se_reply_110 rfl (Or.inr ⟨_, rfl⟩) k) ?_
        refine S_virtual (as := [.ref 333]) (rest := []) (b := 62) d_Se_reply_112 rfl (jw_Kit_putNonce.jo (by decide)) lm_Se_130 ji_Kit_putNonce js_Kit_putNonce (w62 _) rfl rfl rfl (Nat.le_of_ble_eq_true rfl) (by decide) (by decide) (c_Kit_putNonce G u92 333 334 320 49 ⟨w333, a334, by decide, u333_1, by decide, by decide⟩ hv93) (fun r u97 hq => ?_)
        obtain ⟨hr, hv98, hm99⟩ := hq
        rw [hr]
        clear hr r
        have hm100 := hm95.go hm99 (by intro i hi; simp only [List.mem_cons, List.not_mem_nil, or_false] at hi ⊢ <;> omega)
        have e101 : u97 44 = nI k17 := (hm99 44 (by decide)).trans e96
        show ST G mi_Se_reply 115 [(6, .ref 333), (5, .ref 233), (4, .ref 332), (0, .ref 231), (1, .ref 62), (2, .ref 217), (3, .ref 317)] [] u97 0 0 _
        refine ST.lift (fun _ _ k => T_aload_n (v := .ref 62) d_Se_reply_115 rfl (Or.inr ⟨_, rfl⟩) k) ?_
        refine ST.lift (fun _ _ k => T_aload_n (v := .ref 231) d_Se_reply_116 rfl (Or.inr ⟨_, rfl⟩) k) ?_
        refine S_getfield d_Se_reply_117 fg_Se_46 (w231 _) rfl ?_
        refine S_virtual (as := [.ref 246]) (rest := []) (b := 62) d_Se_reply_120 rfl (jw_Kit_nextScalar.jo (by decide)) lm_Se_159 ji_Kit_nextScalar js_Kit_nextScalar (w62 _) rfl rfl rfl (Nat.le_of_ble_eq_true rfl) (by decide) (by decide) (c_Kit_nextScalar G u97 246 32 (by decide) a246 (by omega) (by omega) hv98) (fun r u102 hq => ?_)
        obtain ⟨hr, hv103, hm104⟩ := hq
        rw [hr]
        clear hr r
        have hm105 := hm100.go hm104 (by intro i hi; simp only [List.mem_cons, List.not_mem_nil, or_false] at hi ⊢ <;> omega)
        have e106 : u102 44 = nI k17 := (hm104 44 (by decide)).trans e101
        show ST G mi_Se_reply 123 [(6, .ref 333), (5, .ref 233), (4, .ref 332), (0, .ref 231), (1, .ref 62), (2, .ref 217), (3, .ref 317)] [] u102 0 0 _
        refine ST.lift (fun _ _ k => T_aload_n (v := .ref 62) d_Se_reply_123 rfl (Or.inr ⟨_, rfl⟩) k) ?_
        refine ST.lift (fun _ _ k => T_aload_n (v := .ref 231) d_Se_reply_124 rfl (Or.inr ⟨_, rfl⟩) k) ?_
        refine S_getfield d_Se_reply_125 fg_Se_46 (w231 _) rfl ?_
        refine ST.lift (fun _ _ k => T_aload (v := .ref 333) d_Se_reply_128 rfl (Or.inr ⟨_, rfl⟩) k) ?_
        refine S_virtual (as := [.ref 246, .ref 333]) (rest := []) (b := 62) d_Se_reply_130 rfl (jw_Kit_putPublic.jo (by decide)) lm_Se_71 ji_Kit_putPublic js_Kit_putPublic (w62 _) rfl rfl rfl (Nat.le_of_ble_eq_true rfl) (by decide) (by decide) (c_Kit_putPublic G u102 246 32 (by decide) a246 (by omega) 333 334 320 49 ⟨w333, a334, by decide, u333_1, by decide, by decide⟩ (by omega) hv103) (fun r u107 hq => ?_)
        obtain ⟨hr, hv108, hm109⟩ := hq
        rw [hr]
        clear hr r
        have hm110 := hm105.go hm109 (by intro i hi; simp only [List.mem_cons, List.not_mem_nil, or_false] at hi ⊢ <;> omega)
        have e111 : u107 44 = nI k17 := (hm109 44 (by decide)).trans e106
        show ST G mi_Se_reply 133 [(6, .ref 333), (5, .ref 233), (4, .ref 332), (0, .ref 231), (1, .ref 62), (2, .ref 217), (3, .ref 317)] [] u107 0 0 _
        refine ST.lift (fun _ _ k => T_aload_n (v := .ref 217) d_Se_reply_133 rfl (Or.inr ⟨_, rfl⟩) k) ?_
        refine ST.lift (fun _ _ k => T_aload (v := .ref 233) d_Se_reply_134 rfl (Or.inr ⟨_, rfl⟩) k) ?_
        refine S_getfield d_Se_reply_136 fg_Se_134 (w233 _) rfl ?_
        refine ST.lift (fun _ _ k => T_aload (v := .ref 332) d_Se_reply_139 rfl (Or.inr ⟨_, rfl⟩) k) ?_
        refine ST.lift (fun _ _ k => T_aload_n (v := .ref 231) d_Se_reply_141 rfl (Or.inr ⟨_, rfl⟩) k) ?_
        refine S_getfield d_Se_reply_142 fg_Se_40 (w231 _) rfl ?_
        refine S_getfield d_Se_reply_145 fg_Se_134 (w243 _) rfl ?_
        refine ST.lift (fun _ _ k => T_aload (v := .ref 333) d_Se_reply_148 rfl (Or.inr ⟨_, rfl⟩) k) ?_
        refine S_getfield d_Se_reply_150 fg_Se_134 (w333 _) rfl ?_
        refine S_virtual (as := [.ref 234, .ref 332, .ref 244, .ref 334]) (rest := []) (b := 217) d_Se_reply_153 rfl (jw_Ex_open.jo (by decide)) lm_Se_186 ji_Ex_open js_Ex_open (w217 _) rfl rfl rfl (Nat.le_of_ble_eq_true rfl) (by decide) (by decide) (c_Ex_open G u107 234 192 (by decide) a234 (by omega) 332 96 (by decide) a332 (by omega) 244 32 (by decide) a244 (by omega) 334 320 (by decide) a334 (by omega) hv108) (fun r u112 hq => ?_)
        obtain ⟨hr, hv113, hm114⟩ := hq
        rw [hr]
        clear hr r
        have hm115 := hm110.go hm114 (by intro i hi; simp only [List.mem_cons, List.not_mem_nil, or_false] at hi ⊢ <;> omega)
        have e116 : u112 44 = nI k17 := (hm114 44 (by decide)).trans e111
        show ST G mi_Se_reply 156 [(6, .ref 333), (5, .ref 233), (4, .ref 332), (0, .ref 231), (1, .ref 62), (2, .ref 217), (3, .ref 317)] [] u112 0 0 _
        refine ST.lift (fun _ _ k => T_aload_n (v := .ref 217) d_Se_reply_156 rfl (Or.inr ⟨_, rfl⟩) k) ?_
        refine ST.lift (fun _ _ k => T_aload_n (v := .ref 62) d_Se_reply_157 rfl (Or.inr ⟨_, rfl⟩) k) ?_
        refine ST.lift (fun _ _ k => T_aload_n (v := .ref 231) d_Se_reply_158 rfl (Or.inr ⟨_, rfl⟩) k) ?_
        refine S_getfield d_Se_reply_159 fg_Se_46 (w231 _) rfl ?_
        refine ST.lift (fun _ _ k => T_aload_n (v := .ref 62) d_Se_reply_162 rfl (Or.inr ⟨_, rfl⟩) k) ?_
        refine S_getfield d_Se_reply_163 fg_Se_174 (w62 _) rfl ?_
        refine S_virtual (as := [.ref 62, .ref 246, .ref 193]) (rest := []) (b := 217) d_Se_reply_166 rfl (jw_Ex_join.jo (by decide)) lm_Se_191 ji_Ex_join js_Ex_join (w217 _) rfl rfl rfl (Nat.le_of_ble_eq_true rfl) (by decide) (by decide) (c_Ex_join G u112 246 32 (by decide) a246 (by omega) 193 194 195 196 197 ⟨w193, a194, a195, a196, a197, by decide, by decide, by decide, by decide⟩ (by omega) hv113) (fun r u117 hq => ?_)
        obtain ⟨hr, hv118, hm119⟩ := hq
        rw [hr]
        clear hr r
        have hm120 := hm115.go hm119 (by intro i hi; simp only [List.mem_cons, List.not_mem_nil, or_false] at hi ⊢ <;> omega)
        have e121 : u117 44 = nI k17 := (hm119 44 (by decide)).trans e116
        show ST G mi_Se_reply 169 [(6, .ref 333), (5, .ref 233), (4, .ref 332), (0, .ref 231), (1, .ref 62), (2, .ref 217), (3, .ref 317)] [] u117 0 0 _
        refine ST.lift (fun _ _ k => T_aload_n (v := .ref 217) d_Se_reply_169 rfl (Or.inr ⟨_, rfl⟩) k) ?_
        refine ST.lift (fun _ _ k => T_aload_n (v := .ref 62) d_Se_reply_170 rfl (Or.inr ⟨_, rfl⟩) k) ?_
        refine ST.lift (fun _ _ k => T_aload_n (v := .ref 231) d_Se_reply_171 rfl (Or.inr ⟨_, rfl⟩) k) ?_
        refine S_getfield d_Se_reply_172 fg_Se_37 (w231 _) rfl ?_
        refine ST.lift (fun _ _ k => T_aload_n (v := .ref 62) d_Se_reply_175 rfl (Or.inr ⟨_, rfl⟩) k) ?_
        refine S_getfield d_Se_reply_176 fg_Se_174 (w62 _) rfl ?_
        refine S_virtual (as := [.ref 62, .ref 242, .ref 193]) (rest := []) (b := 217) d_Se_reply_179 rfl (jw_Ex_join.jo (by decide)) lm_Se_191 ji_Ex_join js_Ex_join (w217 _) rfl rfl rfl (Nat.le_of_ble_eq_true rfl) (by decide) (by decide) (c_Ex_join G u117 242 32 (by decide) a242 (by omega) 193 194 195 196 197 ⟨w193, a194, a195, a196, a197, by decide, by decide, by decide, by decide⟩ (by omega) hv118) (fun r u122 hq => ?_)
        obtain ⟨hr, hv123, hm124⟩ := hq
        rw [hr]
        clear hr r
        have hm125 := hm120.go hm124 (by intro i hi; simp only [List.mem_cons, List.not_mem_nil, or_false] at hi ⊢ <;> omega)
        have e126 : u122 44 = nI k17 := (hm124 44 (by decide)).trans e121
        show ST G mi_Se_reply 182 [(6, .ref 333), (5, .ref 233), (4, .ref 332), (0, .ref 231), (1, .ref 62), (2, .ref 217), (3, .ref 317)] [] u122 0 0 _
        refine ST.lift (fun _ _ k => T_aload_n (v := .ref 62) d_Se_reply_182 rfl (Or.inr ⟨_, rfl⟩) k) ?_
        refine S_getfield d_Se_reply_183 fg_Se_117 (w62 _) rfl ?_
        refine ST.lift (fun _ _ k => T_aload (v := .ref 233) d_Se_reply_186 rfl (Or.inr ⟨_, rfl⟩) k) ?_
        refine S_getfield d_Se_reply_188 fg_Se_134 (w233 _) rfl ?_
        refine ST.lift (fun _ _ k => T_iconst (v := nI 0) d_Se_reply_191 (by decide) k) ?_
        refine ST.lift (fun _ _ k => T_aload_n (v := .ref 62) d_Se_reply_192 rfl (Or.inr ⟨_, rfl⟩) k) ?_
        refine S_getfield d_Se_reply_193 fg_Se_109 (w62 _) rfl ?_
        refine S_virtual (as := [.ref 234, .int (nI 0), .ref 188]) (rest := []) (b := 77) d_Se_reply_196 rfl (jw_Cu_decode.jo (by decide)) lm_Se_170 ji_Cu_decode js_Cu_decode (w77 _) rfl rfl rfl (Nat.le_of_ble_eq_true rfl) (by decide) (by decide) (c_Cu_decode G u122 234 192 (by decide) a234 (by omega) 0 (by omega) 188 189 190 191 192 ⟨w188, a189, a190, a191, a192, by decide, by decide, by decide, by decide⟩ hv123) (fun r u127 hq => ?_)
        obtain ⟨z130, hz130, hr, hv128, hm129⟩ := hq
        rw [hr]
        clear hr r
        have hm131 := hm125.go hm129 (by intro i hi; simp only [List.mem_cons, List.not_mem_nil, or_false] at hi ⊢ <;> omega)
        have e132 : u127 44 = nI k17 := (hm129 44 (by decide)).trans e126
        show ST G mi_Se_reply 199 [(6, .ref 333), (5, .ref 233), (4, .ref 332), (0, .ref 231), (1, .ref 62), (2, .ref 217), (3, .ref 317)] [.int (nI z130)] u127 0 0 _
        refine ST.lift (fun _ _ k => T_pop d_Se_reply_199 rfl k) ?_
        refine ST.lift (fun _ _ k => T_aload_n (v := .ref 217) d_Se_reply_200 rfl (Or.inr ⟨_, rfl⟩) k) ?_
        refine ST.lift (fun _ _ k => T_aload_n (v := .ref 62) d_Se_reply_201 rfl (Or.inr ⟨_, rfl⟩) k) ?_
        refine ST.lift (fun _ _ k => T_aload_n (v := .ref 231) d_Se_reply_202 rfl (Or.inr ⟨_, rfl⟩) k) ?_
        refine S_getfield d_Se_reply_203 fg_Se_46 (w231 _) rfl ?_
        refine ST.lift (fun _ _ k => T_aload_n (v := .ref 62) d_Se_reply_206 rfl (Or.inr ⟨_, rfl⟩) k) ?_
        refine S_getfield d_Se_reply_207 fg_Se_109 (w62 _) rfl ?_
        refine S_virtual (as := [.ref 62, .ref 246, .ref 188]) (rest := []) (b := 217) d_Se_reply_210 rfl (jw_Ex_join.jo (by decide)) lm_Se_191 ji_Ex_join js_Ex_join (w217 _) rfl rfl rfl (Nat.le_of_ble_eq_true rfl) (by decide) (by decide) (c_Ex_join G u127 246 32 (by decide) a246 (by omega) 188 189 190 191 192 ⟨w188, a189, a190, a191, a192, by decide, by decide, by decide, by decide⟩ (by omega) hv128) (fun r u133 hq => ?_)
        obtain ⟨hr, hv134, hm135⟩ := hq
        rw [hr]
        clear hr r
        have hm136 := hm131.go hm135 (by intro i hi; simp only [List.mem_cons, List.not_mem_nil, or_false] at hi ⊢ <;> omega)
        have e137 : u133 44 = nI k17 := (hm135 44 (by decide)).trans e132
        show ST G mi_Se_reply 213 [(6, .ref 333), (5, .ref 233), (4, .ref 332), (0, .ref 231), (1, .ref 62), (2, .ref 217), (3, .ref 317)] [] u133 0 0 _
        refine ST.lift (fun _ _ k => T_aload_n (v := .ref 217) d_Se_reply_213 rfl (Or.inr ⟨_, rfl⟩) k) ?_
        refine ST.lift (fun _ _ k => T_aload_n (v := .ref 62) d_Se_reply_214 rfl (Or.inr ⟨_, rfl⟩) k) ?_
        refine S_virtual (as := [.ref 62]) (rest := []) (b := 217) d_Se_reply_215 rfl (jw_Ex_settle.jo (by decide)) lm_Se_195 ji_Ex_settle js_Ex_settle (w217 _) rfl rfl rfl (Nat.le_of_ble_eq_true rfl) (by decide) (by decide) (c_Ex_settle G u133 hv134) (fun r u138 hq => ?_)
        obtain ⟨hr, hv139, hm140⟩ := hq
        rw [hr]
        clear hr r
        have hm141 := hm136.go hm140 (by intro i hi; simp only [List.mem_cons, List.not_mem_nil, or_false] at hi ⊢ <;> omega)
        have e142 : u138 44 = nI k17 := (hm140 44 (by decide)).trans e137
        show ST G mi_Se_reply 218 [(6, .ref 333), (5, .ref 233), (4, .ref 332), (0, .ref 231), (1, .ref 62), (2, .ref 217), (3, .ref 317)] [] u138 0 0 _
        refine ST.lift (fun _ _ k => T_aload (v := .ref 333) d_Se_reply_218 rfl (Or.inr ⟨_, rfl⟩) k) ?_
        refine ST.lift (fun _ _ k => T_aload_n (v := .ref 217) d_Se_reply_220 rfl (Or.inr ⟨_, rfl⟩) k) ?_
        refine S_getfield d_Se_reply_221 fg_Se_198 (w217 _) rfl ?_
        refine ST.lift (fun _ _ k => T_iconst (v := nI 0) d_Se_reply_224 (by decide) k) ?_
        refine ST.lift (fun _ _ k => T_bipush (v := nI 64) d_Se_reply_225 (by decide) k) ?_
        refine S_virtual (as := [.ref 218, .int (nI 0), .int (nI 64)]) (rest := []) (b := 333) d_Se_reply_227 rfl (jw_By_put.jo (by decide)) lm_Se_148 ji_By_put js_By_put (w333 _) rfl rfl rfl (Nat.le_of_ble_eq_true rfl) (by decide) (by decide) (c_By_put G u138 333 334 320 49 ⟨w333, a334, by decide, u333_1, by decide, by decide⟩ 218 64 (by decide) a218 (by omega) 0 (by omega) 64 (by omega) hv139) (fun r u143 hq => ?_)
        obtain ⟨hr, hv144, hm145⟩ := hq
        rw [hr]
        clear hr r
        have hm146 := hm141.go hm145 (by intro i hi; simp only [List.mem_cons, List.not_mem_nil, or_false] at hi ⊢ <;> omega)
        have e147 : u143 44 = nI k17 := (hm145 44 (by decide)).trans e142
        show ST G mi_Se_reply 230 [(6, .ref 333), (5, .ref 233), (4, .ref 332), (0, .ref 231), (1, .ref 62), (2, .ref 217), (3, .ref 317)] [] u143 0 0 _
        refine ST.lift (fun _ _ k => T_aload_n (v := .ref 217) d_Se_reply_230 rfl (Or.inr ⟨_, rfl⟩) k) ?_
        refine S_getfield d_Se_reply_231 fg_Se_201 (w217 _) rfl ?_
        refine ST.lift (fun _ _ k => T_iconst (v := nI 0) d_Se_reply_234 (by decide) k) ?_
        refine ST.lift (fun _ _ k => T_aload_n (v := .ref 317) d_Se_reply_235 rfl (Or.inr ⟨_, rfl⟩) k) ?_
        refine S_getfield d_Se_reply_236 fg_Se_204 (w317 _) rfl ?_
        refine ST.lift (fun _ _ k => T_iconst (v := nI 0) d_Se_reply_239 (by decide) k) ?_
        refine ST.lift (fun _ _ k => T_bipush (v := nI 64) d_Se_reply_240 (by decide) k) ?_
        refine S_copyB d_Se_reply_242 lm_Se_207 (by decide) (by decide) a219 a320 (by omega) (by omega) (by omega) (by omega) (by omega) (by decide) (Nat.le_of_ble_eq_true rfl) ?_
        refine ST.lift (fun _ _ k => T_aload_n (v := .ref 217) d_Se_reply_245 rfl (Or.inr ⟨_, rfl⟩) k) ?_
        refine S_getfield d_Se_reply_246 fg_Se_213 (w217 _) rfl ?_
        refine ST.lift (fun _ _ k => T_iconst (v := nI 0) d_Se_reply_249 (by decide) k) ?_
        refine ST.lift (fun _ _ k => T_aload_n (v := .ref 317) d_Se_reply_250 rfl (Or.inr ⟨_, rfl⟩) k) ?_
        refine S_getfield d_Se_reply_251 fg_Se_216 (w317 _) rfl ?_
        refine ST.lift (fun _ _ k => T_iconst (v := nI 0) d_Se_reply_254 (by decide) k) ?_
        refine ST.lift (fun _ _ k => T_bipush (v := nI 64) d_Se_reply_255 (by decide) k) ?_
        refine S_copyB d_Se_reply_257 lm_Se_207 (by decide) (by decide) a220 a321 (by omega) (by omega) (by omega) (by omega) (by omega) (by decide) (Nat.le_of_ble_eq_true rfl) ?_
        refine ST.lift (fun _ _ k => T_iconst (v := nI 0) d_Se_reply_260 (by decide) k) ?_
        exact S_ret d_Se_reply_261 rfl rfl (by decide) (by decide) (hQ _ _ hv144 hm146)
    · refine ST.lift (fun _ _ k => T_iconst (v := nI 1) d_Se_reply_46 (by decide) k) ?_
      exact S_ret d_Se_reply_47 rfl rfl (by decide) (by decide) (hQ _ _ hv8 hm11)
set_option maxRecDepth 100000 in
set_option maxHeartbeats 4000000 in
theorem c_Se_reply_343 (G : GX) (v : Nat → Int32) (hv : okv v) : CS G mi_Se_reply [.ref 231, .ref 62, .ref 217, .ref 343] v (fun r v' => ∃ z : Int32, r = some (.int z) ∧ okv v' ∧ mdf [6, 7, 5, 2, 3, 1, 4, 8, 9, 10, 11, 12, 13, 14, 15, 58, 59, 60, 61, 62, 63, 55, 56, 57, 54, 85, 86, 87] v v') := by
  refine CS.of (by decide) (Nat.le_of_ble_eq_true rfl) ?_
  generalize hQe : (fun (r : Option Value) (v' : Nat → Int32) => ∃ z : Int32, r = some (.int z) ∧ okv v' ∧ mdf [6, 7, 5, 2, 3, 1, 4, 8, 9, 10, 11, 12, 13, 14, 15, 58, 59, 60, 61, 62, 63, 55, 56, 57, 54, 85, 86, 87] v v') = Q
  have hQ : ∀ (z : Int32) (u : Nat → Int32), okv u → mdf [6, 7, 5, 2, 3, 1, 4, 8, 9, 10, 11, 12, 13, 14, 15, 58, 59, 60, 61, 62, 63, 55, 56, 57, 54, 85, 86, 87] v u → Q (some (.int z)) u := by rw [← hQe]; exact fun z u h1 h2 => ⟨z, rfl, h1, h2⟩
  clear hQe
  have hm : mdf [6, 7, 5, 2, 3, 1, 4, 8, 9, 10, 11, 12, 13, 14, 15, 58, 59, 60, 61, 62, 63, 55, 56, 57, 54, 85, 86, 87] v v := mdf.rf
  show ST G mi_Se_reply 0 [(0, .ref 231), (1, .ref 62), (2, .ref 217), (3, .ref 343)] [] v 0 0 Q
  refine ST.lift (fun _ _ k => T_aload_n (v := .ref 343) d_Se_reply_0 rfl (Or.inr ⟨_, rfl⟩) k) ?_
  refine S_getfield d_Se_reply_1 fg_Se_165 (w343 _) rfl ?_
  refine ST.lift (fun _ _ k => T_iconst (v := nI 0) d_Se_reply_4 (by decide) k) ?_
  refine S_aaload (C0 := "PasswordGate$Bytes") d_Se_reply_5 (by decide) (w344 _) rfl (vp_in_nI (by omega) (by omega)) ?_
  refine S_getfield d_Se_reply_6 fg_Se_134 (w357 _) rfl ?_
  refine ST.lift (fun _ _ k => T_astore (L' := [(4, .ref 358), (0, .ref 231), (1, .ref 62), (2, .ref 217), (3, .ref 343)]) d_Se_reply_9 (by decide) rfl (Or.inr ⟨_, rfl⟩) k) ?_
  refine ST.lift (fun _ _ k => T_aload_n (v := .ref 62) d_Se_reply_11 rfl (Or.inr ⟨_, rfl⟩) k) ?_
  refine S_getfield d_Se_reply_12 fg_Se_117 (w62 _) rfl ?_
  refine ST.lift (fun _ _ k => T_aload (v := .ref 358) d_Se_reply_15 rfl (Or.inr ⟨_, rfl⟩) k) ?_
  refine ST.lift (fun _ _ k => T_iconst (v := nI 0) d_Se_reply_17 (by decide) k) ?_
  refine ST.lift (fun _ _ k => T_aload_n (v := .ref 62) d_Se_reply_18 rfl (Or.inr ⟨_, rfl⟩) k) ?_
  refine S_getfield d_Se_reply_19 fg_Se_109 (w62 _) rfl ?_
  refine S_virtual (as := [.ref 358, .int (nI 0), .ref 188]) (rest := []) (b := 77) d_Se_reply_22 rfl (jw_Cu_decode.jo (by decide)) lm_Se_170 ji_Cu_decode js_Cu_decode (w77 _) rfl rfl rfl (Nat.le_of_ble_eq_true rfl) (by decide) (by decide) (c_Cu_decode G v 358 96 (by decide) a358 (by omega) 0 (by omega) 188 189 190 191 192 ⟨w188, a189, a190, a191, a192, by decide, by decide, by decide, by decide⟩ hv) (fun r u1 hq => ?_)
  obtain ⟨z4, hz4, hr, hv2, hm3⟩ := hq
  rw [hr]
  clear hr r
  have hm5 := hm.go hm3 (by intro i hi; simp only [List.mem_cons, List.not_mem_nil, or_false] at hi ⊢ <;> omega)
  show ST G mi_Se_reply 25 [(4, .ref 358), (0, .ref 231), (1, .ref 62), (2, .ref 217), (3, .ref 343)] [.int (nI z4)] u1 0 0 _
  refine S_if_eqN d_Se_reply_25 rfl (by omega) (fun c6 => ?_) (fun c6 => ?_)
  · refine ST.lift (fun _ _ k => T_iconst (v := nI 1) d_Se_reply_46 (by decide) k) ?_
    exact S_ret d_Se_reply_47 rfl rfl (by decide) (by decide) (hQ _ _ hv2 hm5)
  · refine ST.lift (fun _ _ k => T_aload_n (v := .ref 62) d_Se_reply_28 rfl (Or.inr ⟨_, rfl⟩) k) ?_
    refine S_getfield d_Se_reply_29 fg_Se_117 (w62 _) rfl ?_
    refine ST.lift (fun _ _ k => T_aload (v := .ref 358) d_Se_reply_32 rfl (Or.inr ⟨_, rfl⟩) k) ?_
    refine ST.lift (fun _ _ k => T_bipush (v := nI 64) d_Se_reply_34 (by decide) k) ?_
    refine ST.lift (fun _ _ k => T_aload_n (v := .ref 62) d_Se_reply_36 rfl (Or.inr ⟨_, rfl⟩) k) ?_
    refine S_getfield d_Se_reply_37 fg_Se_174 (w62 _) rfl ?_
    refine S_virtual (as := [.ref 358, .int (nI 64), .ref 193]) (rest := []) (b := 77) d_Se_reply_40 rfl (jw_Cu_decode.jo (by decide)) lm_Se_170 ji_Cu_decode js_Cu_decode (w77 _) rfl rfl rfl (Nat.le_of_ble_eq_true rfl) (by decide) (by decide) (c_Cu_decode G u1 358 96 (by decide) a358 (by omega) 64 (by omega) 193 194 195 196 197 ⟨w193, a194, a195, a196, a197, by decide, by decide, by decide, by decide⟩ hv2) (fun r u7 hq => ?_)
    obtain ⟨z10, hz10, hr, hv8, hm9⟩ := hq
    rw [hr]
    clear hr r
    have hm11 := hm5.go hm9 (by intro i hi; simp only [List.mem_cons, List.not_mem_nil, or_false] at hi ⊢ <;> omega)
    show ST G mi_Se_reply 43 [(4, .ref 358), (0, .ref 231), (1, .ref 62), (2, .ref 217), (3, .ref 343)] [.int (nI z10)] u7 0 0 _
    refine S_if_neN d_Se_reply_43 rfl (by omega) (fun c12 => ?_) (fun c12 => ?_)
    · refine ST.lift (fun _ _ k => T_aload_n (v := .ref 231) d_Se_reply_48 rfl (Or.inr ⟨_, rfl⟩) k) ?_
      refine ST.lift (fun _ _ k => T_aload_n (v := .ref 62) d_Se_reply_49 rfl (Or.inr ⟨_, rfl⟩) k) ?_
      refine S_virtual (as := [.ref 62]) (rest := []) (b := 231) d_Se_reply_50 rfl (jw_Se_open.jo (by decide)) lm_Se_101 ji_Se_open js_Se_open (w231 _) rfl rfl rfl (Nat.le_of_ble_eq_true rfl) (by decide) (by decide) (c_Se_open G u7 hv8) (fun r u13 hq => ?_)
      obtain ⟨hr, hv14, hm15⟩ := hq
      rw [hr]
      clear hr r
      have hm16 := hm11.go hm15 (by intro i hi; simp only [List.mem_cons, List.not_mem_nil, or_false] at hi ⊢ <;> omega)
      show ST G mi_Se_reply 53 [(4, .ref 358), (0, .ref 231), (1, .ref 62), (2, .ref 217), (3, .ref 343)] [] u13 0 0 _
      refine ST.lift (fun _ _ k => T_aload_n (v := .ref 231) d_Se_reply_53 rfl (Or.inr ⟨_, rfl⟩) k) ?_
      refine S_getfield d_Se_reply_54 fg_Se_11 (w231 _) rfl ?_
      refine ST.lift (fun _ _ k => T_aload_n (v := .ref 343) d_Se_reply_57 rfl (Or.inr ⟨_, rfl⟩) k) ?_
      obtain ⟨k17, hk17, ek17⟩ := hv14.get (j := 54) (c := 7) (by decide)
      refine S_getfield d_Se_reply_58 fg_Se_177 (w343 _) rfl ?_
      refine S_topi (y := nI k17) (ek17) ?_
      refine S_aaload (C0 := "PasswordGate$Bytes") d_Se_reply_61 (by decide) (w232 _) rfl (vp_in_nI (by omega) (by omega)) ?_
      obtain ⟨p18, p18d, p18j, e_p18, y_p18, j_p18⟩ := rec_232 k17 (by omega)
      refine S_topv (y := .ref p18) (by rw [nI_clamp (by omega)]; exact congrArg va_rf e_p18) ?_
      refine ST.lift (fun _ _ k => T_astore (L' := [(5, .ref p18), (4, .ref 358), (0, .ref 231), (1, .ref 62), (2, .ref 217), (3, .ref 343)]) d_Se_reply_62 (by decide) rfl (Or.inr ⟨_, rfl⟩) k) ?_
      refine ST.lift (fun _ _ k => T_aload (v := .ref p18) d_Se_reply_64 rfl (Or.inr ⟨_, rfl⟩) k) ?_
      obtain ⟨k19, hk19, ek19⟩ := hv14.get (j := p18j) (c := 192) y_p18.2.2.2.2.1
      refine S_getfield d_Se_reply_66 fg_Se_52 (y_p18.1 _) rfl ?_
      refine S_topi (y := nI k19) (ek19) ?_
      refine S_if_neN d_Se_reply_69 rfl (by omega) (fun c20 => ?_) (fun c20 => ?_)
      · refine ST.lift (fun _ _ k => T_aload_n (v := .ref 231) d_Se_reply_83 rfl (Or.inr ⟨_, rfl⟩) k) ?_
        refine ST.lift (fun _ _ k => T_aload_n (v := .ref 62) d_Se_reply_84 rfl (Or.inr ⟨_, rfl⟩) k) ?_
        refine ST.lift (fun _ _ k => T_aload_n (v := .ref 343) d_Se_reply_85 rfl (Or.inr ⟨_, rfl⟩) k) ?_
        refine S_getfield d_Se_reply_86 fg_Se_177 (w343 _) rfl ?_
        refine S_topi (y := nI k17) (ek17) ?_
        refine S_virtual (as := [.ref 62, .int (nI k17)]) (rest := []) (b := 231) d_Se_reply_89 rfl (jw_Se_findUserKey.jo (by decide)) lm_Se_105 ji_Se_findUserKey js_Se_findUserKey (w231 _) rfl rfl rfl (Nat.le_of_ble_eq_true rfl) (by decide) (by decide) (c_Se_findUserKey G u13 k17 (by omega) hv14) (fun r u21 hq => ?_)
        obtain ⟨hr, hv22, hm23⟩ := hq
        rw [hr]
        clear hr r
        have hm24 := hm16.go hm23 (by intro i hi; simp only [List.mem_cons, List.not_mem_nil, or_false] at hi ⊢ <;> omega)
        have e25 : u21 54 = nI k17 := (hm23 54 (by decide)).trans ek17
        show ST G mi_Se_reply 92 [(5, .ref p18), (4, .ref 358), (0, .ref 231), (1, .ref 62), (2, .ref 217), (3, .ref 343)] [] u21 0 0 _
        refine ST.lift (fun _ _ k => T_aload_n (v := .ref 343) d_Se_reply_92 rfl (Or.inr ⟨_, rfl⟩) k) ?_
        refine S_getfield d_Se_reply_93 fg_Se_165 (w343 _) rfl ?_
        refine ST.lift (fun _ _ k => T_iconst (v := nI 1) d_Se_reply_96 (by decide) k) ?_
        refine S_aaload (C0 := "PasswordGate$Bytes") d_Se_reply_97 (by decide) (w344 _) rfl (vp_in_nI (by omega) (by omega)) ?_
        refine ST.lift (fun _ _ k => T_astore (L' := [(6, .ref 359), (5, .ref p18), (4, .ref 358), (0, .ref 231), (1, .ref 62), (2, .ref 217), (3, .ref 343)]) d_Se_reply_98 (by decide) rfl (Or.inr ⟨_, rfl⟩) k) ?_
        refine ST.lift (fun _ _ k => T_aload_n (v := .ref 231) d_Se_reply_100 rfl (Or.inr ⟨_, rfl⟩) k) ?_
        refine ST.lift (fun _ _ k => T_aload_n (v := .ref 62) d_Se_reply_101 rfl (Or.inr ⟨_, rfl⟩) k) ?_
        refine ST.lift (fun _ _ k => T_aload (v := .ref p18) d_Se_reply_102 rfl (Or.inr ⟨_, rfl⟩) k) ?_
        refine ST.lift (fun _ _ k => T_aload (v := .ref 359) d_Se_reply_104 rfl (Or.inr ⟨_, rfl⟩) k) ?_
        refine S_virtual (as := [.ref 62, .ref p18, .ref 359]) (rest := []) (b := 231) d_Se_reply_106 rfl (jw_Se_putCredentials.jo (by decide)) lm_Se_182 ji_Se_putCredentials js_Se_putCredentials (w231 _) rfl rfl rfl (Nat.le_of_ble_eq_true rfl) (by decide) (by decide) (c_Se_putCredentials G u21 p18 p18d 192 p18j y_p18 359 360 320 59 ⟨w359, a360, by decide, u359_1, by decide, by decide⟩ (by omega) (by omega) hv22) (fun r u26 hq => ?_)
        obtain ⟨hr, hv27, hm28⟩ := hq
        rw [hr]
        clear hr r
        have hm29 := hm24.go hm28 (by intro i hi; simp only [List.mem_cons, List.not_mem_nil, or_false] at hi ⊢ <;> omega)
        have e30 : u26 54 = nI k17 := (hm28 54 (by decide)).trans e25
        show ST G mi_Se_reply 109 [(6, .ref 359), (5, .ref p18), (4, .ref 358), (0, .ref 231), (1, .ref 62), (2, .ref 217), (3, .ref 343)] [] u26 0 0 _
        refine ST.lift (fun _ _ k => T_aload_n (v := .ref 62) d_Se_reply_109 rfl (Or.inr ⟨_, rfl⟩) k) ?_
        refine ST.lift (fun _ _ k => T_aload (v := .ref 359) d_Se_reply_110 rfl (Or.inr ⟨_, rfl⟩) k) ?_
        refine S_virtual (as := [.ref 359]) (rest := []) (b := 62) d_Se_reply_112 rfl (jw_Kit_putNonce.jo (by decide)) lm_Se_130 ji_Kit_putNonce js_Kit_putNonce (w62 _) rfl rfl rfl (Nat.le_of_ble_eq_true rfl) (by decide) (by decide) (c_Kit_putNonce G u26 359 360 320 59 ⟨w359, a360, by decide, u359_1, by decide, by decide⟩ hv27) (fun r u31 hq => ?_)
        obtain ⟨hr, hv32, hm33⟩ := hq
        rw [hr]
        clear hr r
        have hm34 := hm29.go hm33 (by intro i hi; simp only [List.mem_cons, List.not_mem_nil, or_false] at hi ⊢ <;> omega)
        have e35 : u31 54 = nI k17 := (hm33 54 (by decide)).trans e30
        show ST G mi_Se_reply 115 [(6, .ref 359), (5, .ref p18), (4, .ref 358), (0, .ref 231), (1, .ref 62), (2, .ref 217), (3, .ref 343)] [] u31 0 0 _
        refine ST.lift (fun _ _ k => T_aload_n (v := .ref 62) d_Se_reply_115 rfl (Or.inr ⟨_, rfl⟩) k) ?_
        refine ST.lift (fun _ _ k => T_aload_n (v := .ref 231) d_Se_reply_116 rfl (Or.inr ⟨_, rfl⟩) k) ?_
        refine S_getfield d_Se_reply_117 fg_Se_46 (w231 _) rfl ?_
        refine S_virtual (as := [.ref 246]) (rest := []) (b := 62) d_Se_reply_120 rfl (jw_Kit_nextScalar.jo (by decide)) lm_Se_159 ji_Kit_nextScalar js_Kit_nextScalar (w62 _) rfl rfl rfl (Nat.le_of_ble_eq_true rfl) (by decide) (by decide) (c_Kit_nextScalar G u31 246 32 (by decide) a246 (by omega) (by omega) hv32) (fun r u36 hq => ?_)
        obtain ⟨hr, hv37, hm38⟩ := hq
        rw [hr]
        clear hr r
        have hm39 := hm34.go hm38 (by intro i hi; simp only [List.mem_cons, List.not_mem_nil, or_false] at hi ⊢ <;> omega)
        have e40 : u36 54 = nI k17 := (hm38 54 (by decide)).trans e35
        show ST G mi_Se_reply 123 [(6, .ref 359), (5, .ref p18), (4, .ref 358), (0, .ref 231), (1, .ref 62), (2, .ref 217), (3, .ref 343)] [] u36 0 0 _
        refine ST.lift (fun _ _ k => T_aload_n (v := .ref 62) d_Se_reply_123 rfl (Or.inr ⟨_, rfl⟩) k) ?_
        refine ST.lift (fun _ _ k => T_aload_n (v := .ref 231) d_Se_reply_124 rfl (Or.inr ⟨_, rfl⟩) k) ?_
        refine S_getfield d_Se_reply_125 fg_Se_46 (w231 _) rfl ?_
        refine ST.lift (fun _ _ k => T_aload (v := .ref 359) d_Se_reply_128 rfl (Or.inr ⟨_, rfl⟩) k) ?_
        refine S_virtual (as := [.ref 246, .ref 359]) (rest := []) (b := 62) d_Se_reply_130 rfl (jw_Kit_putPublic.jo (by decide)) lm_Se_71 ji_Kit_putPublic js_Kit_putPublic (w62 _) rfl rfl rfl (Nat.le_of_ble_eq_true rfl) (by decide) (by decide) (c_Kit_putPublic G u36 246 32 (by decide) a246 (by omega) 359 360 320 59 ⟨w359, a360, by decide, u359_1, by decide, by decide⟩ (by omega) hv37) (fun r u41 hq => ?_)
        obtain ⟨hr, hv42, hm43⟩ := hq
        rw [hr]
        clear hr r
        have hm44 := hm39.go hm43 (by intro i hi; simp only [List.mem_cons, List.not_mem_nil, or_false] at hi ⊢ <;> omega)
        have e45 : u41 54 = nI k17 := (hm43 54 (by decide)).trans e40
        show ST G mi_Se_reply 133 [(6, .ref 359), (5, .ref p18), (4, .ref 358), (0, .ref 231), (1, .ref 62), (2, .ref 217), (3, .ref 343)] [] u41 0 0 _
        refine ST.lift (fun _ _ k => T_aload_n (v := .ref 217) d_Se_reply_133 rfl (Or.inr ⟨_, rfl⟩) k) ?_
        refine ST.lift (fun _ _ k => T_aload (v := .ref p18) d_Se_reply_134 rfl (Or.inr ⟨_, rfl⟩) k) ?_
        refine S_getfield d_Se_reply_136 fg_Se_134 (y_p18.1 _) rfl ?_
        refine ST.lift (fun _ _ k => T_aload (v := .ref 358) d_Se_reply_139 rfl (Or.inr ⟨_, rfl⟩) k) ?_
        refine ST.lift (fun _ _ k => T_aload_n (v := .ref 231) d_Se_reply_141 rfl (Or.inr ⟨_, rfl⟩) k) ?_
        refine S_getfield d_Se_reply_142 fg_Se_40 (w231 _) rfl ?_
        refine S_getfield d_Se_reply_145 fg_Se_134 (w243 _) rfl ?_
        refine ST.lift (fun _ _ k => T_aload (v := .ref 359) d_Se_reply_148 rfl (Or.inr ⟨_, rfl⟩) k) ?_
        refine S_getfield d_Se_reply_150 fg_Se_134 (w359 _) rfl ?_
        refine S_virtual (as := [.ref p18d, .ref 358, .ref 244, .ref 360]) (rest := []) (b := 217) d_Se_reply_153 rfl (jw_Ex_open.jo (by decide)) lm_Se_186 ji_Ex_open js_Ex_open (w217 _) rfl rfl rfl (Nat.le_of_ble_eq_true rfl) (by decide) (by decide) (c_Ex_open G u41 p18d 192 y_p18.2.2.1 y_p18.2.1 (by omega) 358 96 (by decide) a358 (by omega) 244 32 (by decide) a244 (by omega) 360 320 (by decide) a360 (by omega) hv42) (fun r u46 hq => ?_)
        obtain ⟨hr, hv47, hm48⟩ := hq
        rw [hr]
        clear hr r
        have hm49 := hm44.go hm48 (by intro i hi; simp only [List.mem_cons, List.not_mem_nil, or_false] at hi ⊢ <;> omega)
        have e50 : u46 54 = nI k17 := (hm48 54 (by decide)).trans e45
        show ST G mi_Se_reply 156 [(6, .ref 359), (5, .ref p18), (4, .ref 358), (0, .ref 231), (1, .ref 62), (2, .ref 217), (3, .ref 343)] [] u46 0 0 _
        refine ST.lift (fun _ _ k => T_aload_n (v := .ref 217) d_Se_reply_156 rfl (Or.inr ⟨_, rfl⟩) k) ?_
        refine ST.lift (fun _ _ k => T_aload_n (v := .ref 62) d_Se_reply_157 rfl (Or.inr ⟨_, rfl⟩) k) ?_
        refine ST.lift (fun _ _ k => T_aload_n (v := .ref 231) d_Se_reply_158 rfl (Or.inr ⟨_, rfl⟩) k) ?_
        refine S_getfield d_Se_reply_159 fg_Se_46 (w231 _) rfl ?_
        refine ST.lift (fun _ _ k => T_aload_n (v := .ref 62) d_Se_reply_162 rfl (Or.inr ⟨_, rfl⟩) k) ?_
        refine S_getfield d_Se_reply_163 fg_Se_174 (w62 _) rfl ?_
        refine S_virtual (as := [.ref 62, .ref 246, .ref 193]) (rest := []) (b := 217) d_Se_reply_166 rfl (jw_Ex_join.jo (by decide)) lm_Se_191 ji_Ex_join js_Ex_join (w217 _) rfl rfl rfl (Nat.le_of_ble_eq_true rfl) (by decide) (by decide) (c_Ex_join G u46 246 32 (by decide) a246 (by omega) 193 194 195 196 197 ⟨w193, a194, a195, a196, a197, by decide, by decide, by decide, by decide⟩ (by omega) hv47) (fun r u51 hq => ?_)
        obtain ⟨hr, hv52, hm53⟩ := hq
        rw [hr]
        clear hr r
        have hm54 := hm49.go hm53 (by intro i hi; simp only [List.mem_cons, List.not_mem_nil, or_false] at hi ⊢ <;> omega)
        have e55 : u51 54 = nI k17 := (hm53 54 (by decide)).trans e50
        show ST G mi_Se_reply 169 [(6, .ref 359), (5, .ref p18), (4, .ref 358), (0, .ref 231), (1, .ref 62), (2, .ref 217), (3, .ref 343)] [] u51 0 0 _
        refine ST.lift (fun _ _ k => T_aload_n (v := .ref 217) d_Se_reply_169 rfl (Or.inr ⟨_, rfl⟩) k) ?_
        refine ST.lift (fun _ _ k => T_aload_n (v := .ref 62) d_Se_reply_170 rfl (Or.inr ⟨_, rfl⟩) k) ?_
        refine ST.lift (fun _ _ k => T_aload_n (v := .ref 231) d_Se_reply_171 rfl (Or.inr ⟨_, rfl⟩) k) ?_
        refine S_getfield d_Se_reply_172 fg_Se_37 (w231 _) rfl ?_
        refine ST.lift (fun _ _ k => T_aload_n (v := .ref 62) d_Se_reply_175 rfl (Or.inr ⟨_, rfl⟩) k) ?_
        refine S_getfield d_Se_reply_176 fg_Se_174 (w62 _) rfl ?_
        refine S_virtual (as := [.ref 62, .ref 242, .ref 193]) (rest := []) (b := 217) d_Se_reply_179 rfl (jw_Ex_join.jo (by decide)) lm_Se_191 ji_Ex_join js_Ex_join (w217 _) rfl rfl rfl (Nat.le_of_ble_eq_true rfl) (by decide) (by decide) (c_Ex_join G u51 242 32 (by decide) a242 (by omega) 193 194 195 196 197 ⟨w193, a194, a195, a196, a197, by decide, by decide, by decide, by decide⟩ (by omega) hv52) (fun r u56 hq => ?_)
        obtain ⟨hr, hv57, hm58⟩ := hq
        rw [hr]
        clear hr r
        have hm59 := hm54.go hm58 (by intro i hi; simp only [List.mem_cons, List.not_mem_nil, or_false] at hi ⊢ <;> omega)
        have e60 : u56 54 = nI k17 := (hm58 54 (by decide)).trans e55
        show ST G mi_Se_reply 182 [(6, .ref 359), (5, .ref p18), (4, .ref 358), (0, .ref 231), (1, .ref 62), (2, .ref 217), (3, .ref 343)] [] u56 0 0 _
        refine ST.lift (fun _ _ k => T_aload_n (v := .ref 62) d_Se_reply_182 rfl (Or.inr ⟨_, rfl⟩) k) ?_
        refine S_getfield d_Se_reply_183 fg_Se_117 (w62 _) rfl ?_
        refine ST.lift (fun _ _ k => T_aload (v := .ref p18) d_Se_reply_186 rfl (Or.inr ⟨_, rfl⟩) k) ?_
        refine S_getfield d_Se_reply_188 fg_Se_134 (y_p18.1 _) rfl ?_
        refine ST.lift (fun _ _ k => T_iconst (v := nI 0) d_Se_reply_191 (by decide) k) ?_
        refine ST.lift (fun _ _ k => T_aload_n (v := .ref 62) d_Se_reply_192 rfl (Or.inr ⟨_, rfl⟩) k) ?_
        refine S_getfield d_Se_reply_193 fg_Se_109 (w62 _) rfl ?_
        refine S_virtual (as := [.ref p18d, .int (nI 0), .ref 188]) (rest := []) (b := 77) d_Se_reply_196 rfl (jw_Cu_decode.jo (by decide)) lm_Se_170 ji_Cu_decode js_Cu_decode (w77 _) rfl rfl rfl (Nat.le_of_ble_eq_true rfl) (by decide) (by decide) (c_Cu_decode G u56 p18d 192 y_p18.2.2.1 y_p18.2.1 (by omega) 0 (by omega) 188 189 190 191 192 ⟨w188, a189, a190, a191, a192, by decide, by decide, by decide, by decide⟩ hv57) (fun r u61 hq => ?_)
        obtain ⟨z64, hz64, hr, hv62, hm63⟩ := hq
        rw [hr]
        clear hr r
        have hm65 := hm59.go hm63 (by intro i hi; simp only [List.mem_cons, List.not_mem_nil, or_false] at hi ⊢ <;> omega)
        have e66 : u61 54 = nI k17 := (hm63 54 (by decide)).trans e60
        show ST G mi_Se_reply 199 [(6, .ref 359), (5, .ref p18), (4, .ref 358), (0, .ref 231), (1, .ref 62), (2, .ref 217), (3, .ref 343)] [.int (nI z64)] u61 0 0 _
        refine ST.lift (fun _ _ k => T_pop d_Se_reply_199 rfl k) ?_
        refine ST.lift (fun _ _ k => T_aload_n (v := .ref 217) d_Se_reply_200 rfl (Or.inr ⟨_, rfl⟩) k) ?_
        refine ST.lift (fun _ _ k => T_aload_n (v := .ref 62) d_Se_reply_201 rfl (Or.inr ⟨_, rfl⟩) k) ?_
        refine ST.lift (fun _ _ k => T_aload_n (v := .ref 231) d_Se_reply_202 rfl (Or.inr ⟨_, rfl⟩) k) ?_
        refine S_getfield d_Se_reply_203 fg_Se_46 (w231 _) rfl ?_
        refine ST.lift (fun _ _ k => T_aload_n (v := .ref 62) d_Se_reply_206 rfl (Or.inr ⟨_, rfl⟩) k) ?_
        refine S_getfield d_Se_reply_207 fg_Se_109 (w62 _) rfl ?_
        refine S_virtual (as := [.ref 62, .ref 246, .ref 188]) (rest := []) (b := 217) d_Se_reply_210 rfl (jw_Ex_join.jo (by decide)) lm_Se_191 ji_Ex_join js_Ex_join (w217 _) rfl rfl rfl (Nat.le_of_ble_eq_true rfl) (by decide) (by decide) (c_Ex_join G u61 246 32 (by decide) a246 (by omega) 188 189 190 191 192 ⟨w188, a189, a190, a191, a192, by decide, by decide, by decide, by decide⟩ (by omega) hv62) (fun r u67 hq => ?_)
        obtain ⟨hr, hv68, hm69⟩ := hq
        rw [hr]
        clear hr r
        have hm70 := hm65.go hm69 (by intro i hi; simp only [List.mem_cons, List.not_mem_nil, or_false] at hi ⊢ <;> omega)
        have e71 : u67 54 = nI k17 := (hm69 54 (by decide)).trans e66
        show ST G mi_Se_reply 213 [(6, .ref 359), (5, .ref p18), (4, .ref 358), (0, .ref 231), (1, .ref 62), (2, .ref 217), (3, .ref 343)] [] u67 0 0 _
        refine ST.lift (fun _ _ k => T_aload_n (v := .ref 217) d_Se_reply_213 rfl (Or.inr ⟨_, rfl⟩) k) ?_
        refine ST.lift (fun _ _ k => T_aload_n (v := .ref 62) d_Se_reply_214 rfl (Or.inr ⟨_, rfl⟩) k) ?_
        refine S_virtual (as := [.ref 62]) (rest := []) (b := 217) d_Se_reply_215 rfl (jw_Ex_settle.jo (by decide)) lm_Se_195 ji_Ex_settle js_Ex_settle (w217 _) rfl rfl rfl (Nat.le_of_ble_eq_true rfl) (by decide) (by decide) (c_Ex_settle G u67 hv68) (fun r u72 hq => ?_)
        obtain ⟨hr, hv73, hm74⟩ := hq
        rw [hr]
        clear hr r
        have hm75 := hm70.go hm74 (by intro i hi; simp only [List.mem_cons, List.not_mem_nil, or_false] at hi ⊢ <;> omega)
        have e76 : u72 54 = nI k17 := (hm74 54 (by decide)).trans e71
        show ST G mi_Se_reply 218 [(6, .ref 359), (5, .ref p18), (4, .ref 358), (0, .ref 231), (1, .ref 62), (2, .ref 217), (3, .ref 343)] [] u72 0 0 _
        refine ST.lift (fun _ _ k => T_aload (v := .ref 359) d_Se_reply_218 rfl (Or.inr ⟨_, rfl⟩) k) ?_
        refine ST.lift (fun _ _ k => T_aload_n (v := .ref 217) d_Se_reply_220 rfl (Or.inr ⟨_, rfl⟩) k) ?_
        refine S_getfield d_Se_reply_221 fg_Se_198 (w217 _) rfl ?_
        refine ST.lift (fun _ _ k => T_iconst (v := nI 0) d_Se_reply_224 (by decide) k) ?_
        refine ST.lift (fun _ _ k => T_bipush (v := nI 64) d_Se_reply_225 (by decide) k) ?_
        refine S_virtual (as := [.ref 218, .int (nI 0), .int (nI 64)]) (rest := []) (b := 359) d_Se_reply_227 rfl (jw_By_put.jo (by decide)) lm_Se_148 ji_By_put js_By_put (w359 _) rfl rfl rfl (Nat.le_of_ble_eq_true rfl) (by decide) (by decide) (c_By_put G u72 359 360 320 59 ⟨w359, a360, by decide, u359_1, by decide, by decide⟩ 218 64 (by decide) a218 (by omega) 0 (by omega) 64 (by omega) hv73) (fun r u77 hq => ?_)
        obtain ⟨hr, hv78, hm79⟩ := hq
        rw [hr]
        clear hr r
        have hm80 := hm75.go hm79 (by intro i hi; simp only [List.mem_cons, List.not_mem_nil, or_false] at hi ⊢ <;> omega)
        have e81 : u77 54 = nI k17 := (hm79 54 (by decide)).trans e76
        show ST G mi_Se_reply 230 [(6, .ref 359), (5, .ref p18), (4, .ref 358), (0, .ref 231), (1, .ref 62), (2, .ref 217), (3, .ref 343)] [] u77 0 0 _
        refine ST.lift (fun _ _ k => T_aload_n (v := .ref 217) d_Se_reply_230 rfl (Or.inr ⟨_, rfl⟩) k) ?_
        refine S_getfield d_Se_reply_231 fg_Se_201 (w217 _) rfl ?_
        refine ST.lift (fun _ _ k => T_iconst (v := nI 0) d_Se_reply_234 (by decide) k) ?_
        refine ST.lift (fun _ _ k => T_aload_n (v := .ref 343) d_Se_reply_235 rfl (Or.inr ⟨_, rfl⟩) k) ?_
        refine S_getfield d_Se_reply_236 fg_Se_204 (w343 _) rfl ?_
        refine ST.lift (fun _ _ k => T_iconst (v := nI 0) d_Se_reply_239 (by decide) k) ?_
        refine ST.lift (fun _ _ k => T_bipush (v := nI 64) d_Se_reply_240 (by decide) k) ?_
        refine S_copyB d_Se_reply_242 lm_Se_207 (by decide) (by decide) a219 a346 (by omega) (by omega) (by omega) (by omega) (by omega) (by decide) (Nat.le_of_ble_eq_true rfl) ?_
        refine ST.lift (fun _ _ k => T_aload_n (v := .ref 217) d_Se_reply_245 rfl (Or.inr ⟨_, rfl⟩) k) ?_
        refine S_getfield d_Se_reply_246 fg_Se_213 (w217 _) rfl ?_
        refine ST.lift (fun _ _ k => T_iconst (v := nI 0) d_Se_reply_249 (by decide) k) ?_
        refine ST.lift (fun _ _ k => T_aload_n (v := .ref 343) d_Se_reply_250 rfl (Or.inr ⟨_, rfl⟩) k) ?_
        refine S_getfield d_Se_reply_251 fg_Se_216 (w343 _) rfl ?_
        refine ST.lift (fun _ _ k => T_iconst (v := nI 0) d_Se_reply_254 (by decide) k) ?_
        refine ST.lift (fun _ _ k => T_bipush (v := nI 64) d_Se_reply_255 (by decide) k) ?_
        refine S_copyB d_Se_reply_257 lm_Se_207 (by decide) (by decide) a220 a347 (by omega) (by omega) (by omega) (by omega) (by omega) (by decide) (Nat.le_of_ble_eq_true rfl) ?_
        refine ST.lift (fun _ _ k => T_iconst (v := nI 0) d_Se_reply_260 (by decide) k) ?_
        exact S_ret d_Se_reply_261 rfl rfl (by decide) (by decide) (hQ _ _ hv78 hm80)
      · refine ST.lift (fun _ _ k => T_aload_n (v := .ref 231) d_Se_reply_72 rfl (Or.inr ⟨_, rfl⟩) k) ?_
        refine ST.lift (fun _ _ k => T_aload_n (v := .ref 62) d_Se_reply_73 rfl (Or.inr ⟨_, rfl⟩) k) ?_
        refine S_virtual (as := [.ref 62]) (rest := []) (b := 231) d_Se_reply_74 rfl (jw_Se_makeUp.jo (by decide)) lm_Se_179 ji_Se_makeUp js_Se_makeUp (w231 _) rfl rfl rfl (Nat.le_of_ble_eq_true rfl) (by decide) (by decide) (c_Se_makeUp G u13 hv14) (fun r u82 hq => ?_)
        obtain ⟨hr, hv83, hm84⟩ := hq
        rw [hr]
        clear hr r
        have hm85 := hm16.go hm84 (by intro i hi; simp only [List.mem_cons, List.not_mem_nil, or_false] at hi ⊢ <;> omega)
        have e86 : u82 54 = nI k17 := (hm84 54 (by decide)).trans ek17
        show ST G mi_Se_reply 77 [(5, .ref p18), (4, .ref 358), (0, .ref 231), (1, .ref 62), (2, .ref 217), (3, .ref 343)] [] u82 0 0 _
        refine ST.lift (fun _ _ k => T_aload_n (v := .ref 231) d_Se_reply_77 rfl (Or.inr ⟨_, rfl⟩) k) ?_
        refine S_getfield d_Se_reply_78 fg_Se_20 (w231 _) rfl ?_
        refine ST.lift (fun _ _ k => T_astore (L' := [(5, .ref 233), (4, .ref 358), (0, .ref 231), (1, .ref 62), (2, .ref 217), (3, .ref 343)]) d_Se_reply_81 (by decide) rfl (Or.inr ⟨_, rfl⟩) k) ?_
        refine ST.lift (fun _ _ k => T_aload_n (v := .ref 231) d_Se_reply_83 rfl (Or.inr ⟨_, rfl⟩) k) ?_
        refine ST.lift (fun _ _ k => T_aload_n (v := .ref 62) d_Se_reply_84 rfl (Or.inr ⟨_, rfl⟩) k) ?_
        refine ST.lift (fun _ _ k => T_aload_n (v := .ref 343) d_Se_reply_85 rfl (Or.inr ⟨_, rfl⟩) k) ?_
        refine S_getfield d_Se_reply_86 fg_Se_177 (w343 _) rfl ?_
        refine S_topi (y := nI k17) (e86) ?_
        refine S_virtual (as := [.ref 62, .int (nI k17)]) (rest := []) (b := 231) d_Se_reply_89 rfl (jw_Se_findUserKey.jo (by decide)) lm_Se_105 ji_Se_findUserKey js_Se_findUserKey (w231 _) rfl rfl rfl (Nat.le_of_ble_eq_true rfl) (by decide) (by decide) (c_Se_findUserKey G u82 k17 (by omega) hv83) (fun r u87 hq => ?_)
        obtain ⟨hr, hv88, hm89⟩ := hq
        rw [hr]
        clear hr r
        have hm90 := hm85.go hm89 (by intro i hi; simp only [List.mem_cons, List.not_mem_nil, or_false] at hi ⊢ <;> omega)
        have e91 : u87 54 = nI k17 := (hm89 54 (by decide)).trans e86
        show ST G mi_Se_reply 92 [(5, .ref 233), (4, .ref 358), (0, .ref 231), (1, .ref 62), (2, .ref 217), (3, .ref 343)] [] u87 0 0 _
        refine ST.lift (fun _ _ k => T_aload_n (v := .ref 343) d_Se_reply_92 rfl (Or.inr ⟨_, rfl⟩) k) ?_
        refine S_getfield d_Se_reply_93 fg_Se_165 (w343 _) rfl ?_
        refine ST.lift (fun _ _ k => T_iconst (v := nI 1) d_Se_reply_96 (by decide) k) ?_
        refine S_aaload (C0 := "PasswordGate$Bytes") d_Se_reply_97 (by decide) (w344 _) rfl (vp_in_nI (by omega) (by omega)) ?_
        refine ST.lift (fun _ _ k => T_astore (L' := [(6, .ref 359), (5, .ref 233), (4, .ref 358), (0, .ref 231), (1, .ref 62), (2, .ref 217), (3, .ref 343)]) d_Se_reply_98 (by decide) rfl (Or.inr ⟨_, rfl⟩) k) ?_
        refine ST.lift (fun _ _ k => T_aload_n (v := .ref 231) d_Se_reply_100 rfl (Or.inr ⟨_, rfl⟩) k) ?_
        refine ST.lift (fun _ _ k => T_aload_n (v := .ref 62) d_Se_reply_101 rfl (Or.inr ⟨_, rfl⟩) k) ?_
        refine ST.lift (fun _ _ k => T_aload (v := .ref 233) d_Se_reply_102 rfl (Or.inr ⟨_, rfl⟩) k) ?_
        refine ST.lift (fun _ _ k => T_aload (v := .ref 359) d_Se_reply_104 rfl (Or.inr ⟨_, rfl⟩) k) ?_
        refine S_virtual (as := [.ref 62, .ref 233, .ref 359]) (rest := []) (b := 231) d_Se_reply_106 rfl (jw_Se_putCredentials.jo (by decide)) lm_Se_182 ji_Se_putCredentials js_Se_putCredentials (w231 _) rfl rfl rfl (Nat.le_of_ble_eq_true rfl) (by decide) (by decide) (c_Se_putCredentials G u87 233 234 192 11 ⟨w233, a234, by decide, u233_1, by decide, by decide⟩ 359 360 320 59 ⟨w359, a360, by decide, u359_1, by decide, by decide⟩ (by omega) (by omega) hv88) (fun r u92 hq => ?_)
        obtain ⟨hr, hv93, hm94⟩ := hq
        rw [hr]
        clear hr r
        have hm95 := hm90.go hm94 (by intro i hi; simp only [List.mem_cons, List.not_mem_nil, or_false] at hi ⊢ <;> omega)
        have e96 : u92 54 = nI k17 := (hm94 54 (by decide)).trans e91
        show ST G mi_Se_reply 109 [(6, .ref 359), (5, .ref 233), (4, .ref 358), (0, .ref 231), (1, .ref 62), (2, .ref 217), (3, .ref 343)] [] u92 0 0 _
        refine ST.lift (fun _ _ k => T_aload_n (v := .ref 62) d_Se_reply_109 rfl (Or.inr ⟨_, rfl⟩) k) ?_
        refine ST.lift (fun _ _ k => T_aload (v := .ref 359) d_Se_reply_110 rfl (Or.inr ⟨_, rfl⟩) k) ?_
        refine S_virtual (as := [.ref 359]) (rest := []) (b := 62) d_Se_reply_112 rfl (jw_Kit_putNonce.jo (by decide)) lm_Se_130 ji_Kit_putNonce js_Kit_putNonce (w62 _) rfl rfl rfl (Nat.le_of_ble_eq_true rfl) (by decide) (by decide) (c_Kit_putNonce G u92 359 360 320 59 ⟨w359, a360, by decide, u359_1, by decide, by decide⟩ hv93) (fun r u97 hq => ?_)
        obtain ⟨hr, hv98, hm99⟩ := hq
        rw [hr]
        clear hr r
        have hm100 := hm95.go hm99 (by intro i hi; simp only [List.mem_cons, List.not_mem_nil, or_false] at hi ⊢ <;> omega)
        have e101 : u97 54 = nI k17 := (hm99 54 (by decide)).trans e96
        show ST G mi_Se_reply 115 [(6, .ref 359), (5, .ref 233), (4, .ref 358), (0, .ref 231), (1, .ref 62), (2, .ref 217), (3, .ref 343)] [] u97 0 0 _
        refine ST.lift (fun _ _ k => T_aload_n (v := .ref 62) d_Se_reply_115 rfl (Or.inr ⟨_, rfl⟩) k) ?_
        refine ST.lift (fun _ _ k => T_aload_n (v := .ref 231) d_Se_reply_116 rfl (Or.inr ⟨_, rfl⟩) k) ?_
        refine S_getfield d_Se_reply_117 fg_Se_46 (w231 _) rfl ?_
        refine S_virtual (as := [.ref 246]) (rest := []) (b := 62) d_Se_reply_120 rfl (jw_Kit_nextScalar.jo (by decide)) lm_Se_159 ji_Kit_nextScalar js_Kit_nextScalar (w62 _) rfl rfl rfl (Nat.le_of_ble_eq_true rfl) (by decide) (by decide) (c_Kit_nextScalar G u97 246 32 (by decide) a246 (by omega) (by omega) hv98) (fun r u102 hq => ?_)
        obtain ⟨hr, hv103, hm104⟩ := hq
        rw [hr]
        clear hr r
        have hm105 := hm100.go hm104 (by intro i hi; simp only [List.mem_cons, List.not_mem_nil, or_false] at hi ⊢ <;> omega)
        have e106 : u102 54 = nI k17 := (hm104 54 (by decide)).trans e101
        show ST G mi_Se_reply 123 [(6, .ref 359), (5, .ref 233), (4, .ref 358), (0, .ref 231), (1, .ref 62), (2, .ref 217), (3, .ref 343)] [] u102 0 0 _
        refine ST.lift (fun _ _ k => T_aload_n (v := .ref 62) d_Se_reply_123 rfl (Or.inr ⟨_, rfl⟩) k) ?_
        refine ST.lift (fun _ _ k => T_aload_n (v := .ref 231) d_Se_reply_124 rfl (Or.inr ⟨_, rfl⟩) k) ?_
        refine S_getfield d_Se_reply_125 fg_Se_46 (w231 _) rfl ?_
        refine ST.lift (fun _ _ k => T_aload (v := .ref 359) d_Se_reply_128 rfl (Or.inr ⟨_, rfl⟩) k) ?_
        refine S_virtual (as := [.ref 246, .ref 359]) (rest := []) (b := 62) d_Se_reply_130 rfl (jw_Kit_putPublic.jo (by decide)) lm_Se_71 ji_Kit_putPublic js_Kit_putPublic (w62 _) rfl rfl rfl (Nat.le_of_ble_eq_true rfl) (by decide) (by decide) (c_Kit_putPublic G u102 246 32 (by decide) a246 (by omega) 359 360 320 59 ⟨w359, a360, by decide, u359_1, by decide, by decide⟩ (by omega) hv103) (fun r u107 hq => ?_)
        obtain ⟨hr, hv108, hm109⟩ := hq
        rw [hr]
        clear hr r
        have hm110 := hm105.go hm109 (by intro i hi; simp only [List.mem_cons, List.not_mem_nil, or_false] at hi ⊢ <;> omega)
        have e111 : u107 54 = nI k17 := (hm109 54 (by decide)).trans e106
        show ST G mi_Se_reply 133 [(6, .ref 359), (5, .ref 233), (4, .ref 358), (0, .ref 231), (1, .ref 62), (2, .ref 217), (3, .ref 343)] [] u107 0 0 _
        refine ST.lift (fun _ _ k => T_aload_n (v := .ref 217) d_Se_reply_133 rfl (Or.inr ⟨_, rfl⟩) k) ?_
        refine ST.lift (fun _ _ k => T_aload (v := .ref 233) d_Se_reply_134 rfl (Or.inr ⟨_, rfl⟩) k) ?_
        refine S_getfield d_Se_reply_136 fg_Se_134 (w233 _) rfl ?_
        refine ST.lift (fun _ _ k => T_aload (v := .ref 358) d_Se_reply_139 rfl (Or.inr ⟨_, rfl⟩) k) ?_
        refine ST.lift (fun _ _ k => T_aload_n (v := .ref 231) d_Se_reply_141 rfl (Or.inr ⟨_, rfl⟩) k) ?_
        refine S_getfield d_Se_reply_142 fg_Se_40 (w231 _) rfl ?_
        refine S_getfield d_Se_reply_145 fg_Se_134 (w243 _) rfl ?_
        refine ST.lift (fun _ _ k => T_aload (v := .ref 359) d_Se_reply_148 rfl (Or.inr ⟨_, rfl⟩) k) ?_
        refine S_getfield d_Se_reply_150 fg_Se_134 (w359 _) rfl ?_
        refine S_virtual (as := [.ref 234, .ref 358, .ref 244, .ref 360]) (rest := []) (b := 217) d_Se_reply_153 rfl (jw_Ex_open.jo (by decide)) lm_Se_186 ji_Ex_open js_Ex_open (w217 _) rfl rfl rfl (Nat.le_of_ble_eq_true rfl) (by decide) (by decide) (c_Ex_open G u107 234 192 (by decide) a234 (by omega) 358 96 (by decide) a358 (by omega) 244 32 (by decide) a244 (by omega) 360 320 (by decide) a360 (by omega) hv108) (fun r u112 hq => ?_)
        obtain ⟨hr, hv113, hm114⟩ := hq
        rw [hr]
        clear hr r
        have hm115 := hm110.go hm114 (by intro i hi; simp only [List.mem_cons, List.not_mem_nil, or_false] at hi ⊢ <;> omega)
        have e116 : u112 54 = nI k17 := (hm114 54 (by decide)).trans e111
        show ST G mi_Se_reply 156 [(6, .ref 359), (5, .ref 233), (4, .ref 358), (0, .ref 231), (1, .ref 62), (2, .ref 217), (3, .ref 343)] [] u112 0 0 _
        refine ST.lift (fun _ _ k => T_aload_n (v := .ref 217) d_Se_reply_156 rfl (Or.inr ⟨_, rfl⟩) k) ?_
        refine ST.lift (fun _ _ k => T_aload_n (v := .ref 62) d_Se_reply_157 rfl (Or.inr ⟨_, rfl⟩) k) ?_
        refine ST.lift (fun _ _ k => T_aload_n (v := .ref 231) d_Se_reply_158 rfl (Or.inr ⟨_, rfl⟩) k) ?_
        refine S_getfield d_Se_reply_159 fg_Se_46 (w231 _) rfl ?_
        refine ST.lift (fun _ _ k => T_aload_n (v := .ref 62) d_Se_reply_162 rfl (Or.inr ⟨_, rfl⟩) k) ?_
        refine S_getfield d_Se_reply_163 fg_Se_174 (w62 _) rfl ?_
        refine S_virtual (as := [.ref 62, .ref 246, .ref 193]) (rest := []) (b := 217) d_Se_reply_166 rfl (jw_Ex_join.jo (by decide)) lm_Se_191 ji_Ex_join js_Ex_join (w217 _) rfl rfl rfl (Nat.le_of_ble_eq_true rfl) (by decide) (by decide) (c_Ex_join G u112 246 32 (by decide) a246 (by omega) 193 194 195 196 197 ⟨w193, a194, a195, a196, a197, by decide, by decide, by decide, by decide⟩ (by omega) hv113) (fun r u117 hq => ?_)
        obtain ⟨hr, hv118, hm119⟩ := hq
        rw [hr]
        clear hr r
        have hm120 := hm115.go hm119 (by intro i hi; simp only [List.mem_cons, List.not_mem_nil, or_false] at hi ⊢ <;> omega)
        have e121 : u117 54 = nI k17 := (hm119 54 (by decide)).trans e116
        show ST G mi_Se_reply 169 [(6, .ref 359), (5, .ref 233), (4, .ref 358), (0, .ref 231), (1, .ref 62), (2, .ref 217), (3, .ref 343)] [] u117 0 0 _
        refine ST.lift (fun _ _ k => T_aload_n (v := .ref 217) d_Se_reply_169 rfl (Or.inr ⟨_, rfl⟩) k) ?_
        refine ST.lift (fun _ _ k => T_aload_n (v := .ref 62) d_Se_reply_170 rfl (Or.inr ⟨_, rfl⟩) k) ?_
        refine ST.lift (fun _ _ k => T_aload_n (v := .ref 231) d_Se_reply_171 rfl (Or.inr ⟨_, rfl⟩) k) ?_
        refine S_getfield d_Se_reply_172 fg_Se_37 (w231 _) rfl ?_
        refine ST.lift (fun _ _ k => T_aload_n (v := .ref 62) d_Se_reply_175 rfl (Or.inr ⟨_, rfl⟩) k) ?_
        refine S_getfield d_Se_reply_176 fg_Se_174 (w62 _) rfl ?_
        refine S_virtual (as := [.ref 62, .ref 242, .ref 193]) (rest := []) (b := 217) d_Se_reply_179 rfl (jw_Ex_join.jo (by decide)) lm_Se_191 ji_Ex_join js_Ex_join (w217 _) rfl rfl rfl (Nat.le_of_ble_eq_true rfl) (by decide) (by decide) (c_Ex_join G u117 242 32 (by decide) a242 (by omega) 193 194 195 196 197 ⟨w193, a194, a195, a196, a197, by decide, by decide, by decide, by decide⟩ (by omega) hv118) (fun r u122 hq => ?_)
        obtain ⟨hr, hv123, hm124⟩ := hq
        rw [hr]
        clear hr r
        have hm125 := hm120.go hm124 (by intro i hi; simp only [List.mem_cons, List.not_mem_nil, or_false] at hi ⊢ <;> omega)
        have e126 : u122 54 = nI k17 := (hm124 54 (by decide)).trans e121
        show ST G mi_Se_reply 182 [(6, .ref 359), (5, .ref 233), (4, .ref 358), (0, .ref 231), (1, .ref 62), (2, .ref 217), (3, .ref 343)] [] u122 0 0 _
        refine ST.lift (fun _ _ k => T_aload_n (v := .ref 62) d_Se_reply_182 rfl (Or.inr ⟨_, rfl⟩) k) ?_
        refine S_getfield d_Se_reply_183 fg_Se_117 (w62 _) rfl ?_
        refine ST.lift (fun _ _ k => T_aload (v := .ref 233) d_Se_reply_186 rfl (Or.inr ⟨_, rfl⟩) k) ?_
        refine S_getfield d_Se_reply_188 fg_Se_134 (w233 _) rfl ?_
        refine ST.lift (fun _ _ k => T_iconst (v := nI 0) d_Se_reply_191 (by decide) k) ?_
        refine ST.lift (fun _ _ k => T_aload_n (v := .ref 62) d_Se_reply_192 rfl (Or.inr ⟨_, rfl⟩) k) ?_
        refine S_getfield d_Se_reply_193 fg_Se_109 (w62 _) rfl ?_
        refine S_virtual (as := [.ref 234, .int (nI 0), .ref 188]) (rest := []) (b := 77) d_Se_reply_196 rfl (jw_Cu_decode.jo (by decide)) lm_Se_170 ji_Cu_decode js_Cu_decode (w77 _) rfl rfl rfl (Nat.le_of_ble_eq_true rfl) (by decide) (by decide) (c_Cu_decode G u122 234 192 (by decide) a234 (by omega) 0 (by omega) 188 189 190 191 192 ⟨w188, a189, a190, a191, a192, by decide, by decide, by decide, by decide⟩ hv123) (fun r u127 hq => ?_)
        obtain ⟨z130, hz130, hr, hv128, hm129⟩ := hq
        rw [hr]
        clear hr r
        have hm131 := hm125.go hm129 (by intro i hi; simp only [List.mem_cons, List.not_mem_nil, or_false] at hi ⊢ <;> omega)
        have e132 : u127 54 = nI k17 := (hm129 54 (by decide)).trans e126
        show ST G mi_Se_reply 199 [(6, .ref 359), (5, .ref 233), (4, .ref 358), (0, .ref 231), (1, .ref 62), (2, .ref 217), (3, .ref 343)] [.int (nI z130)] u127 0 0 _
        refine ST.lift (fun _ _ k => T_pop d_Se_reply_199 rfl k) ?_
        refine ST.lift (fun _ _ k => T_aload_n (v := .ref 217) d_Se_reply_200 rfl (Or.inr ⟨_, rfl⟩) k) ?_
        refine ST.lift (fun _ _ k => T_aload_n (v := .ref 62) d_Se_reply_201 rfl (Or.inr ⟨_, rfl⟩) k) ?_
        refine ST.lift (fun _ _ k => T_aload_n (v := .ref 231) d_Se_reply_202 rfl (Or.inr ⟨_, rfl⟩) k) ?_
        refine S_getfield d_Se_reply_203 fg_Se_46 (w231 _) rfl ?_
        refine ST.lift (fun _ _ k => T_aload_n (v := .ref 62) d_Se_reply_206 rfl (Or.inr ⟨_, rfl⟩) k) ?_
        refine S_getfield d_Se_reply_207 fg_Se_109 (w62 _) rfl ?_
        refine S_virtual (as := [.ref 62, .ref 246, .ref 188]) (rest := []) (b := 217) d_Se_reply_210 rfl (jw_Ex_join.jo (by decide)) lm_Se_191 ji_Ex_join js_Ex_join (w217 _) rfl rfl rfl (Nat.le_of_ble_eq_true rfl) (by decide) (by decide) (c_Ex_join G u127 246 32 (by decide) a246 (by omega) 188 189 190 191 192 ⟨w188, a189, a190, a191, a192, by decide, by decide, by decide, by decide⟩ (by omega) hv128) (fun r u133 hq => ?_)
        obtain ⟨hr, hv134, hm135⟩ := hq
        rw [hr]
        clear hr r
        have hm136 := hm131.go hm135 (by intro i hi; simp only [List.mem_cons, List.not_mem_nil, or_false] at hi ⊢ <;> omega)
        have e137 : u133 54 = nI k17 := (hm135 54 (by decide)).trans e132
        show ST G mi_Se_reply 213 [(6, .ref 359), (5, .ref 233), (4, .ref 358), (0, .ref 231), (1, .ref 62), (2, .ref 217), (3, .ref 343)] [] u133 0 0 _
        refine ST.lift (fun _ _ k => T_aload_n (v := .ref 217) d_Se_reply_213 rfl (Or.inr ⟨_, rfl⟩) k) ?_
        refine ST.lift (fun _ _ k => T_aload_n (v := .ref 62) d_Se_reply_214 rfl (Or.inr ⟨_, rfl⟩) k) ?_
        refine S_virtual (as := [.ref 62]) (rest := []) (b := 217) d_Se_reply_215 rfl (jw_Ex_settle.jo (by decide)) lm_Se_195 ji_Ex_settle js_Ex_settle (w217 _) rfl rfl rfl (Nat.le_of_ble_eq_true rfl) (by decide) (by decide) (c_Ex_settle G u133 hv134) (fun r u138 hq => ?_)
        obtain ⟨hr, hv139, hm140⟩ := hq
        rw [hr]
        clear hr r
        have hm141 := hm136.go hm140 (by intro i hi; simp only [List.mem_cons, List.not_mem_nil, or_false] at hi ⊢ <;> omega)
        have e142 : u138 54 = nI k17 := (hm140 54 (by decide)).trans e137
        show ST G mi_Se_reply 218 [(6, .ref 359), (5, .ref 233), (4, .ref 358), (0, .ref 231), (1, .ref 62), (2, .ref 217), (3, .ref 343)] [] u138 0 0 _
        refine ST.lift (fun _ _ k => T_aload (v := .ref 359) d_Se_reply_218 rfl (Or.inr ⟨_, rfl⟩) k) ?_
        refine ST.lift (fun _ _ k => T_aload_n (v := .ref 217) d_Se_reply_220 rfl (Or.inr ⟨_, rfl⟩) k) ?_
        refine S_getfield d_Se_reply_221 fg_Se_198 (w217 _) rfl ?_
        refine ST.lift (fun _ _ k => T_iconst (v := nI 0) d_Se_reply_224 (by decide) k) ?_
        refine ST.lift (fun _ _ k => T_bipush (v := nI 64) d_Se_reply_225 (by decide) k) ?_
        refine S_virtual (as := [.ref 218, .int (nI 0), .int (nI 64)]) (rest := []) (b := 359) d_Se_reply_227 rfl (jw_By_put.jo (by decide)) lm_Se_148 ji_By_put js_By_put (w359 _) rfl rfl rfl (Nat.le_of_ble_eq_true rfl) (by decide) (by decide) (c_By_put G u138 359 360 320 59 ⟨w359, a360, by decide, u359_1, by decide, by decide⟩ 218 64 (by decide) a218 (by omega) 0 (by omega) 64 (by omega) hv139) (fun r u143 hq => ?_)
        obtain ⟨hr, hv144, hm145⟩ := hq
        rw [hr]
        clear hr r
        have hm146 := hm141.go hm145 (by intro i hi; simp only [List.mem_cons, List.not_mem_nil, or_false] at hi ⊢ <;> omega)
        have e147 : u143 54 = nI k17 := (hm145 54 (by decide)).trans e142
        show ST G mi_Se_reply 230 [(6, .ref 359), (5, .ref 233), (4, .ref 358), (0, .ref 231), (1, .ref 62), (2, .ref 217), (3, .ref 343)] [] u143 0 0 _
        refine ST.lift (fun _ _ k => T_aload_n (v := .ref 217) d_Se_reply_230 rfl (Or.inr ⟨_, rfl⟩) k) ?_
        refine S_getfield d_Se_reply_231 fg_Se_201 (w217 _) rfl ?_
        refine ST.lift (fun _ _ k => T_iconst (v := nI 0) d_Se_reply_234 (by decide) k) ?_
        refine ST.lift (fun _ _ k => T_aload_n (v := .ref 343) d_Se_reply_235 rfl (Or.inr ⟨_, rfl⟩) k) ?_
        refine S_getfield d_Se_reply_236 fg_Se_204 (w343 _) rfl ?_
        refine ST.lift (fun _ _ k => T_iconst (v := nI 0) d_Se_reply_239 (by decide) k) ?_
        refine ST.lift (fun _ _ k => T_bipush (v := nI 64) d_Se_reply_240 (by decide) k) ?_
        refine S_copyB d_Se_reply_242 lm_Se_207 (by decide) (by decide) a219 a346 (by omega) (by omega) (by omega) (by omega) (by omega) (by decide) (Nat.le_of_ble_eq_true rfl) ?_
        refine ST.lift (fun _ _ k => T_aload_n (v := .ref 217) d_Se_reply_245 rfl (Or.inr ⟨_, rfl⟩) k) ?_
        refine S_getfield d_Se_reply_246 fg_Se_213 (w217 _) rfl ?_
        refine ST.lift (fun _ _ k => T_iconst (v := nI 0) d_Se_reply_249 (by decide) k) ?_
        refine ST.lift (fun _ _ k => T_aload_n (v := .ref 343) d_Se_reply_250 rfl (Or.inr ⟨_, rfl⟩) k) ?_
        refine S_getfield d_Se_reply_251 fg_Se_216 (w343 _) rfl ?_
        refine ST.lift (fun _ _ k => T_iconst (v := nI 0) d_Se_reply_254 (by decide) k) ?_
        refine ST.lift (fun _ _ k => T_bipush (v := nI 64) d_Se_reply_255 (by decide) k) ?_
        refine S_copyB d_Se_reply_257 lm_Se_207 (by decide) (by decide) a220 a347 (by omega) (by omega) (by omega) (by omega) (by omega) (by decide) (Nat.le_of_ble_eq_true rfl) ?_
        refine ST.lift (fun _ _ k => T_iconst (v := nI 0) d_Se_reply_260 (by decide) k) ?_
        exact S_ret d_Se_reply_261 rfl rfl (by decide) (by decide) (hQ _ _ hv144 hm146)
    · refine ST.lift (fun _ _ k => T_iconst (v := nI 1) d_Se_reply_46 (by decide) k) ?_
      exact S_ret d_Se_reply_47 rfl rfl (by decide) (by decide) (hQ _ _ hv8 hm11)

set_option maxRecDepth 100000 in
set_option maxHeartbeats 4000000 in
theorem c_Mo_power (G : GX) (v : Nat → Int32) (d : Nat) (b_d : d ≤ 63) (a : Nat) (b_a : a ≤ 63) (top : Nat) (b_top : 1 ≤ top ∧ top ≤ 1000) (z1 : Nat) (b_z1 : z1 ≤ 1000) (z2 : Nat) (b_z2 : z2 ≤ 1000) : CS G mi_Mo_power [.ref 373, .int (nI d), .int (nI a), .int (nI top), .int (nI z1), .int (nI z2)] v (fun r v' => r = none ∧ v' = v) := by
  refine CS.of (by decide) (Nat.le_of_ble_eq_true rfl) ?_
  generalize hQe : (fun (r : Option Value) (v' : Nat → Int32) => r = none ∧ v' = v) = Q
  have hQ : Q none v := by rw [← hQe]; exact ⟨rfl, rfl⟩
  clear hQe
  show ST G mi_Mo_power 0 [(0, .ref 373), (1, .int (nI d)), (2, .int (nI a)), (3, .int (nI top)), (4, .int (nI z1)), (5, .int (nI z2))] [] v 0 0 Q
  refine ST.lift (fun _ _ k => T_aload_n (v := .ref 373) d_Mo_power_0 rfl (Or.inr ⟨_, rfl⟩) k) ?_
  refine ST.lift (fun _ _ k => T_bipush (v := nI 61) d_Mo_power_1 (by decide) k) ?_
  refine ST.lift (fun _ _ k => T_iload_n d_Mo_power_3 rfl k) ?_
  refine S_virtual (as := [.int (nI 61), .int (nI a)]) (rest := []) (b := 373) d_Mo_power_4 rfl (jw_Mo_set.jo (by decide)) lm_Mo_160 ji_Mo_set js_Mo_set (w373 _) rfl rfl rfl (Nat.le_of_ble_eq_true rfl) (by decide) (by decide) (c_Mo_set G v 61 (by omega) a (by omega)) (fun r v' hq => ?_)
  rw [hq.1, hq.2]
  clear hq r v'
  show ST G mi_Mo_power 7 [(0, .ref 373), (1, .int (nI d)), (2, .int (nI a)), (3, .int (nI top)), (4, .int (nI z1)), (5, .int (nI z2))] [] v 0 0 _
  refine ST.lift (fun _ _ k => T_iload_n d_Mo_power_7 rfl k) ?_
  refine ST.lift (fun _ _ k => T_iconst (v := nI 1) d_Mo_power_8 (by decide) k) ?_
  refine S_isubN d_Mo_power_9 (by omega) ?_
  refine ST.lift (fun _ _ k => T_istore (L' := [(6, .int (nI (top - 1))), (0, .ref 373), (1, .int (nI d)), (2, .int (nI a)), (3, .int (nI top)), (4, .int (nI z1)), (5, .int (nI z2))]) d_Mo_power_10 (by decide) rfl k) ?_
  have lp4 : ∀ (n2 k1 : Nat), k1 = n2 → k1 ≤ (top - 1 + 1) → ST G mi_Mo_power 12 [(6, .int (nI k1 - 1)), (0, .ref 373), (1, .int (nI d)), (2, .int (nI a)), (3, .int (nI top)), (4, .int (nI z1)), (5, .int (nI z2))] [] v 0 0 Q := by
    intro n2
    induction n2 using Nat.strongRecOn with
    | _ n2 ih3 =>
      intro k1 h5 h6
      refine ST.lift (fun _ _ k => T_iload d_Mo_power_12 rfl k) ?_
      refine S_if_ltD d_Mo_power_14 rfl (by omega) (fun h8 => ?_) (fun b7 h8 => ?_)
      · refine ST.lift (fun _ _ k => T_aload_n (v := .ref 373) d_Mo_power_56 rfl (Or.inr ⟨_, rfl⟩) k) ?_
        refine ST.lift (fun _ _ k => T_iload_n d_Mo_power_57 rfl k) ?_
        refine ST.lift (fun _ _ k => T_bipush (v := nI 61) d_Mo_power_58 (by decide) k) ?_
        refine S_virtual (as := [.int (nI d), .int (nI 61)]) (rest := []) (b := 373) d_Mo_power_60 rfl (jw_Mo_set.jo (by decide)) lm_Mo_160 ji_Mo_set js_Mo_set (w373 _) rfl rfl rfl (Nat.le_of_ble_eq_true rfl) (by decide) (by decide) (c_Mo_set G v d (by omega) 61 (by omega)) (fun r v' hq => ?_)
        rw [hq.1, hq.2]
        clear hq r v'
        show ST G mi_Mo_power 63 [(6, .int (nI k1 - 1)), (0, .ref 373), (1, .int (nI d)), (2, .int (nI a)), (3, .int (nI top)), (4, .int (nI z1)), (5, .int (nI z2))] [] v 0 0 _
        exact S_vret d_Mo_power_63 rfl (by decide) (by decide) hQ
      · subst h8
        refine S_loc (L' := [(6, .int (nI b7)), (0, .ref 373), (1, .int (nI d)), (2, .int (nI a)), (3, .int (nI top)), (4, .int (nI z1)), (5, .int (nI z2))]) (by rw [nI_pred]) ?_
        refine ST.lift (fun _ _ k => T_aload_n (v := .ref 373) d_Mo_power_17 rfl (Or.inr ⟨_, rfl⟩) k) ?_
        refine ST.lift (fun _ _ k => T_bipush (v := nI 61) d_Mo_power_18 (by decide) k) ?_
        refine ST.lift (fun _ _ k => T_bipush (v := nI 61) d_Mo_power_20 (by decide) k) ?_
        refine ST.lift (fun _ _ k => T_bipush (v := nI 61) d_Mo_power_22 (by decide) k) ?_
        refine S_virtual (as := [.int (nI 61), .int (nI 61), .int (nI 61)]) (rest := []) (b := 373) d_Mo_power_24 rfl (jw_Mo_mul.jo (by decide)) lm_Mo_163 ji_Mo_mul js_Mo_mul (w373 _) rfl rfl rfl (Nat.le_of_ble_eq_true rfl) (by decide) (by decide) (c_Mo_mul G v 61 (by omega) 61 (by omega) 61 (by omega)) (fun r v' hq => ?_)
        rw [hq.1, hq.2]
        clear hq r v'
        show ST G mi_Mo_power 27 [(6, .int (nI b7)), (0, .ref 373), (1, .int (nI d)), (2, .int (nI a)), (3, .int (nI top)), (4, .int (nI z1)), (5, .int (nI z2))] [] v 0 0 _
        refine ST.lift (fun _ _ k => T_iload d_Mo_power_27 rfl k) ?_
        refine ST.lift (fun _ _ k => T_iload d_Mo_power_29 rfl k) ?_
        have J50_11 : ST G mi_Mo_power 50 [(6, .int (nI b7)), (0, .ref 373), (1, .int (nI d)), (2, .int (nI a)), (3, .int (nI top)), (4, .int (nI z1)), (5, .int (nI z2))] [] v 0 0 Q := by
          refine S_iincD (a := b7) (L' := [(6, .int (nI b7 - 1)), (0, .ref 373), (1, .int (nI d)), (2, .int (nI a)), (3, .int (nI top)), (4, .int (nI z1)), (5, .int (nI z2))]) d_Mo_power_50 (by decide) rfl rfl ?_
          refine ST.lift (fun _ _ k => T_goto (tgt := 12) d_Mo_power_53 rfl k) ?_
          exact ih3 b7 (by omega) b7  rfl (by omega)
        refine S_icmp_eqN d_Mo_power_31 rfl (by omega) (by omega) (fun c9 => ?_) (fun c9 => ?_)
        · exact J50_11 
        · refine ST.lift (fun _ _ k => T_iload d_Mo_power_34 rfl k) ?_
          refine ST.lift (fun _ _ k => T_iload d_Mo_power_36 rfl k) ?_
          refine S_icmp_eqN d_Mo_power_38 rfl (by omega) (by omega) (fun c12 => ?_) (fun c12 => ?_)
          · exact J50_11 
          · refine ST.lift (fun _ _ k => T_aload_n (v := .ref 373) d_Mo_power_41 rfl (Or.inr ⟨_, rfl⟩) k) ?_
            refine ST.lift (fun _ _ k => T_bipush (v := nI 61) d_Mo_power_42 (by decide) k) ?_
            refine ST.lift (fun _ _ k => T_bipush (v := nI 61) d_Mo_power_44 (by decide) k) ?_
            refine ST.lift (fun _ _ k => T_iload_n d_Mo_power_46 rfl k) ?_
            refine S_virtual (as := [.int (nI 61), .int (nI 61), .int (nI a)]) (rest := []) (b := 373) d_Mo_power_47 rfl (jw_Mo_mul.jo (by decide)) lm_Mo_163 ji_Mo_mul js_Mo_mul (w373 _) rfl rfl rfl (Nat.le_of_ble_eq_true rfl) (by decide) (by decide) (c_Mo_mul G v 61 (by omega) 61 (by omega) a (by omega)) (fun r v' hq => ?_)
            rw [hq.1, hq.2]
            clear hq r v'
            show ST G mi_Mo_power 50 [(6, .int (nI b7)), (0, .ref 373), (1, .int (nI d)), (2, .int (nI a)), (3, .int (nI top)), (4, .int (nI z1)), (5, .int (nI z2))] [] v 0 0 _
            exact J50_11 
  have e_lp4 : nI (top - 1) = nI (top - 1 + 1) - 1 := (nI_pred _).symm
  refine S_loc (L' := [(6, .int (nI (top - 1 + 1) - 1)), (0, .ref 373), (1, .int (nI d)), (2, .int (nI a)), (3, .int (nI top)), (4, .int (nI z1)), (5, .int (nI z2))]) (by rw [← e_lp4]) ?_
  exact lp4 _ (top - 1 + 1)  rfl (by omega)
set_option maxRecDepth 100000 in
set_option maxHeartbeats 4000000 in
theorem c_Mo_invert (G : GX) (v : Nat → Int32) (d : Nat) (b_d : d ≤ 63) (a : Nat) (b_a : a ≤ 63) : CS G mi_Mo_invert [.ref 373, .int (nI d), .int (nI a)] v (fun r v' => r = none ∧ v' = v) := by
  refine CS.of (by decide) (Nat.le_of_ble_eq_true rfl) ?_
  generalize hQe : (fun (r : Option Value) (v' : Nat → Int32) => r = none ∧ v' = v) = Q
  have hQ : Q none v := by rw [← hQe]; exact ⟨rfl, rfl⟩
  clear hQe
  show ST G mi_Mo_invert 0 [(0, .ref 373), (1, .int (nI d)), (2, .int (nI a))] [] v 0 0 Q
  refine ST.lift (fun _ _ k => T_aload_n (v := .ref 373) d_Mo_invert_0 rfl (Or.inr ⟨_, rfl⟩) k) ?_
  refine ST.lift (fun _ _ k => T_iload_n d_Mo_invert_1 rfl k) ?_
  refine ST.lift (fun _ _ k => T_iload_n d_Mo_invert_2 rfl k) ?_
  refine ST.lift (fun _ _ k => T_sipush (v := nI 254) d_Mo_invert_3 (by decide) k) ?_
  refine ST.lift (fun _ _ k => T_iconst (v := nI 4) d_Mo_invert_6 (by decide) k) ?_
  refine ST.lift (fun _ _ k => T_iconst (v := nI 2) d_Mo_invert_7 (by decide) k) ?_
  refine S_virtual (as := [.int (nI d), .int (nI a), .int (nI 254), .int (nI 4), .int (nI 2)]) (rest := []) (b := 373) d_Mo_invert_8 rfl (jw_Mo_power.jo (by decide)) lm_Mo_166 ji_Mo_power js_Mo_power (w373 _) rfl rfl rfl (Nat.le_of_ble_eq_true rfl) (by decide) (by decide) (c_Mo_power G v d (by omega) a (by omega) 254 (by omega) 4 (by omega) 2 (by omega)) (fun r v' hq => ?_)
  rw [hq.1, hq.2]
  clear hq r v'
  show ST G mi_Mo_invert 11 [(0, .ref 373), (1, .int (nI d)), (2, .int (nI a))] [] v 0 0 _
  exact S_vret d_Mo_invert_11 rfl (by decide) (by decide) hQ
set_option maxRecDepth 100000 in
set_option maxHeartbeats 4000000 in
theorem c_Mo_root (G : GX) (v : Nat → Int32) (d : Nat) (b_d : d ≤ 63) (u : Nat) (b_u : u ≤ 63) (w : Nat) (b_w : w ≤ 63) : CS G mi_Mo_root [.ref 373, .int (nI d), .int (nI u), .int (nI w)] v (fun r v' => ∃ z : Nat, z ≤ 1 ∧ r = some (.int (nI z)) ∧ v' = v) := by
  refine CS.of (by decide) (Nat.le_of_ble_eq_true rfl) ?_
  generalize hQe : (fun (r : Option Value) (v' : Nat → Int32) => ∃ z : Nat, z ≤ 1 ∧ r = some (.int (nI z)) ∧ v' = v) = Q
  have hQ : ∀ z : Nat, z ≤ 1 → Q (some (.int (nI z))) v := by rw [← hQe]; exact fun z hz => ⟨z, hz, rfl, rfl⟩
  clear hQe
  show ST G mi_Mo_root 0 [(0, .ref 373), (1, .int (nI d)), (2, .int (nI u)), (3, .int (nI w))] [] v 0 0 Q
  refine ST.lift (fun _ _ k => T_aload_n (v := .ref 373) d_Mo_root_0 rfl (Or.inr ⟨_, rfl⟩) k) ?_
  refine ST.lift (fun _ _ k => T_bipush (v := nI 50) d_Mo_root_1 (by decide) k) ?_
  refine ST.lift (fun _ _ k => T_iload_n d_Mo_root_3 rfl k) ?_
  refine ST.lift (fun _ _ k => T_iload_n d_Mo_root_4 rfl k) ?_
  refine S_virtual (as := [.int (nI 50), .int (nI w), .int (nI w)]) (rest := []) (b := 373) d_Mo_root_5 rfl (jw_Mo_mul.jo (by decide)) lm_Mo_163 ji_Mo_mul js_Mo_mul (w373 _) rfl rfl rfl (Nat.le_of_ble_eq_true rfl) (by decide) (by decide) (c_Mo_mul G v 50 (by omega) w (by omega) w (by omega)) (fun r v' hq => ?_)
  rw [hq.1, hq.2]
  clear hq r v'
  show ST G mi_Mo_root 8 [(0, .ref 373), (1, .int (nI d)), (2, .int (nI u)), (3, .int (nI w))] [] v 0 0 _
  refine ST.lift (fun _ _ k => T_aload_n (v := .ref 373) d_Mo_root_8 rfl (Or.inr ⟨_, rfl⟩) k) ?_
  refine ST.lift (fun _ _ k => T_bipush (v := nI 51) d_Mo_root_9 (by decide) k) ?_
  refine ST.lift (fun _ _ k => T_bipush (v := nI 50) d_Mo_root_11 (by decide) k) ?_
  refine ST.lift (fun _ _ k => T_iload_n d_Mo_root_13 rfl k) ?_
  refine S_virtual (as := [.int (nI 51), .int (nI 50), .int (nI w)]) (rest := []) (b := 373) d_Mo_root_14 rfl (jw_Mo_mul.jo (by decide)) lm_Mo_163 ji_Mo_mul js_Mo_mul (w373 _) rfl rfl rfl (Nat.le_of_ble_eq_true rfl) (by decide) (by decide) (c_Mo_mul G v 51 (by omega) 50 (by omega) w (by omega)) (fun r v' hq => ?_)
  rw [hq.1, hq.2]
  clear hq r v'
  show ST G mi_Mo_root 17 [(0, .ref 373), (1, .int (nI d)), (2, .int (nI u)), (3, .int (nI w))] [] v 0 0 _
  refine ST.lift (fun _ _ k => T_aload_n (v := .ref 373) d_Mo_root_17 rfl (Or.inr ⟨_, rfl⟩) k) ?_
  refine ST.lift (fun _ _ k => T_bipush (v := nI 52) d_Mo_root_18 (by decide) k) ?_
  refine ST.lift (fun _ _ k => T_bipush (v := nI 51) d_Mo_root_20 (by decide) k) ?_
  refine ST.lift (fun _ _ k => T_bipush (v := nI 51) d_Mo_root_22 (by decide) k) ?_
  refine S_virtual (as := [.int (nI 52), .int (nI 51), .int (nI 51)]) (rest := []) (b := 373) d_Mo_root_24 rfl (jw_Mo_mul.jo (by decide)) lm_Mo_163 ji_Mo_mul js_Mo_mul (w373 _) rfl rfl rfl (Nat.le_of_ble_eq_true rfl) (by decide) (by decide) (c_Mo_mul G v 52 (by omega) 51 (by omega) 51 (by omega)) (fun r v' hq => ?_)
  rw [hq.1, hq.2]
  clear hq r v'
  show ST G mi_Mo_root 27 [(0, .ref 373), (1, .int (nI d)), (2, .int (nI u)), (3, .int (nI w))] [] v 0 0 _
  refine ST.lift (fun _ _ k => T_aload_n (v := .ref 373) d_Mo_root_27 rfl (Or.inr ⟨_, rfl⟩) k) ?_
  refine ST.lift (fun _ _ k => T_bipush (v := nI 52) d_Mo_root_28 (by decide) k) ?_
  refine ST.lift (fun _ _ k => T_bipush (v := nI 52) d_Mo_root_30 (by decide) k) ?_
  refine ST.lift (fun _ _ k => T_iload_n d_Mo_root_32 rfl k) ?_
  refine S_virtual (as := [.int (nI 52), .int (nI 52), .int (nI w)]) (rest := []) (b := 373) d_Mo_root_33 rfl (jw_Mo_mul.jo (by decide)) lm_Mo_163 ji_Mo_mul js_Mo_mul (w373 _) rfl rfl rfl (Nat.le_of_ble_eq_true rfl) (by decide) (by decide) (c_Mo_mul G v 52 (by omega) 52 (by omega) w (by omega)) (fun r v' hq => ?_)
  rw [hq.1, hq.2]
  clear hq r v'
  show ST G mi_Mo_root 36 [(0, .ref 373), (1, .int (nI d)), (2, .int (nI u)), (3, .int (nI w))] [] v 0 0 _
  refine ST.lift (fun _ _ k => T_aload_n (v := .ref 373) d_Mo_root_36 rfl (Or.inr ⟨_, rfl⟩) k) ?_
  refine ST.lift (fun _ _ k => T_bipush (v := nI 52) d_Mo_root_37 (by decide) k) ?_
  refine ST.lift (fun _ _ k => T_bipush (v := nI 52) d_Mo_root_39 (by decide) k) ?_
  refine ST.lift (fun _ _ k => T_iload_n d_Mo_root_41 rfl k) ?_
  refine S_virtual (as := [.int (nI 52), .int (nI 52), .int (nI u)]) (rest := []) (b := 373) d_Mo_root_42 rfl (jw_Mo_mul.jo (by decide)) lm_Mo_163 ji_Mo_mul js_Mo_mul (w373 _) rfl rfl rfl (Nat.le_of_ble_eq_true rfl) (by decide) (by decide) (c_Mo_mul G v 52 (by omega) 52 (by omega) u (by omega)) (fun r v' hq => ?_)
  rw [hq.1, hq.2]
  clear hq r v'
  show ST G mi_Mo_root 45 [(0, .ref 373), (1, .int (nI d)), (2, .int (nI u)), (3, .int (nI w))] [] v 0 0 _
  refine ST.lift (fun _ _ k => T_aload_n (v := .ref 373) d_Mo_root_45 rfl (Or.inr ⟨_, rfl⟩) k) ?_
  refine ST.lift (fun _ _ k => T_bipush (v := nI 53) d_Mo_root_46 (by decide) k) ?_
  refine ST.lift (fun _ _ k => T_bipush (v := nI 52) d_Mo_root_48 (by decide) k) ?_
  refine ST.lift (fun _ _ k => T_sipush (v := nI 251) d_Mo_root_50 (by decide) k) ?_
  refine ST.lift (fun _ _ k => T_iconst (v := nI 1) d_Mo_root_53 (by decide) k) ?_
  refine ST.lift (fun _ _ k => T_iconst (v := nI 1) d_Mo_root_54 (by decide) k) ?_
  refine S_virtual (as := [.int (nI 53), .int (nI 52), .int (nI 251), .int (nI 1), .int (nI 1)]) (rest := []) (b := 373) d_Mo_root_55 rfl (jw_Mo_power.jo (by decide)) lm_Mo_166 ji_Mo_power js_Mo_power (w373 _) rfl rfl rfl (Nat.le_of_ble_eq_true rfl) (by decide) (by decide) (c_Mo_power G v 53 (by omega) 52 (by omega) 251 (by omega) 1 (by omega) 1 (by omega)) (fun r v' hq => ?_)
  rw [hq.1, hq.2]
  clear hq r v'
  show ST G mi_Mo_root 58 [(0, .ref 373), (1, .int (nI d)), (2, .int (nI u)), (3, .int (nI w))] [] v 0 0 _
  refine ST.lift (fun _ _ k => T_aload_n (v := .ref 373) d_Mo_root_58 rfl (Or.inr ⟨_, rfl⟩) k) ?_
  refine ST.lift (fun _ _ k => T_bipush (v := nI 53) d_Mo_root_59 (by decide) k) ?_
  refine ST.lift (fun _ _ k => T_bipush (v := nI 53) d_Mo_root_61 (by decide) k) ?_
  refine ST.lift (fun _ _ k => T_bipush (v := nI 51) d_Mo_root_63 (by decide) k) ?_
  refine S_virtual (as := [.int (nI 53), .int (nI 53), .int (nI 51)]) (rest := []) (b := 373) d_Mo_root_65 rfl (jw_Mo_mul.jo (by decide)) lm_Mo_163 ji_Mo_mul js_Mo_mul (w373 _) rfl rfl rfl (Nat.le_of_ble_eq_true rfl) (by decide) (by decide) (c_Mo_mul G v 53 (by omega) 53 (by omega) 51 (by omega)) (fun r v' hq => ?_)
  rw [hq.1, hq.2]
  clear hq r v'
  show ST G mi_Mo_root 68 [(0, .ref 373), (1, .int (nI d)), (2, .int (nI u)), (3, .int (nI w))] [] v 0 0 _
  refine ST.lift (fun _ _ k => T_aload_n (v := .ref 373) d_Mo_root_68 rfl (Or.inr ⟨_, rfl⟩) k) ?_
  refine ST.lift (fun _ _ k => T_bipush (v := nI 53) d_Mo_root_69 (by decide) k) ?_
  refine ST.lift (fun _ _ k => T_bipush (v := nI 53) d_Mo_root_71 (by decide) k) ?_
  refine ST.lift (fun _ _ k => T_iload_n d_Mo_root_73 rfl k) ?_
  refine S_virtual (as := [.int (nI 53), .int (nI 53), .int (nI u)]) (rest := []) (b := 373) d_Mo_root_74 rfl (jw_Mo_mul.jo (by decide)) lm_Mo_163 ji_Mo_mul js_Mo_mul (w373 _) rfl rfl rfl (Nat.le_of_ble_eq_true rfl) (by decide) (by decide) (c_Mo_mul G v 53 (by omega) 53 (by omega) u (by omega)) (fun r v' hq => ?_)
  rw [hq.1, hq.2]
  clear hq r v'
  show ST G mi_Mo_root 77 [(0, .ref 373), (1, .int (nI d)), (2, .int (nI u)), (3, .int (nI w))] [] v 0 0 _
  refine ST.lift (fun _ _ k => T_aload_n (v := .ref 373) d_Mo_root_77 rfl (Or.inr ⟨_, rfl⟩) k) ?_
  refine ST.lift (fun _ _ k => T_bipush (v := nI 54) d_Mo_root_78 (by decide) k) ?_
  refine ST.lift (fun _ _ k => T_bipush (v := nI 53) d_Mo_root_80 (by decide) k) ?_
  refine ST.lift (fun _ _ k => T_bipush (v := nI 53) d_Mo_root_82 (by decide) k) ?_
  refine S_virtual (as := [.int (nI 54), .int (nI 53), .int (nI 53)]) (rest := []) (b := 373) d_Mo_root_84 rfl (jw_Mo_mul.jo (by decide)) lm_Mo_163 ji_Mo_mul js_Mo_mul (w373 _) rfl rfl rfl (Nat.le_of_ble_eq_true rfl) (by decide) (by decide) (c_Mo_mul G v 54 (by omega) 53 (by omega) 53 (by omega)) (fun r v' hq => ?_)
  rw [hq.1, hq.2]
  clear hq r v'
  show ST G mi_Mo_root 87 [(0, .ref 373), (1, .int (nI d)), (2, .int (nI u)), (3, .int (nI w))] [] v 0 0 _
  refine ST.lift (fun _ _ k => T_aload_n (v := .ref 373) d_Mo_root_87 rfl (Or.inr ⟨_, rfl⟩) k) ?_
  refine ST.lift (fun _ _ k => T_bipush (v := nI 54) d_Mo_root_88 (by decide) k) ?_
  refine ST.lift (fun _ _ k => T_bipush (v := nI 54) d_Mo_root_90 (by decide) k) ?_
  refine ST.lift (fun _ _ k => T_iload_n d_Mo_root_92 rfl k) ?_
  refine S_virtual (as := [.int (nI 54), .int (nI 54), .int (nI w)]) (rest := []) (b := 373) d_Mo_root_93 rfl (jw_Mo_mul.jo (by decide)) lm_Mo_163 ji_Mo_mul js_Mo_mul (w373 _) rfl rfl rfl (Nat.le_of_ble_eq_true rfl) (by decide) (by decide) (c_Mo_mul G v 54 (by omega) 54 (by omega) w (by omega)) (fun r v' hq => ?_)
  rw [hq.1, hq.2]
  clear hq r v'
  show ST G mi_Mo_root 96 [(0, .ref 373), (1, .int (nI d)), (2, .int (nI u)), (3, .int (nI w))] [] v 0 0 _
  refine ST.lift (fun _ _ k => T_aload_n (v := .ref 373) d_Mo_root_96 rfl (Or.inr ⟨_, rfl⟩) k) ?_
  refine ST.lift (fun _ _ k => T_bipush (v := nI 55) d_Mo_root_97 (by decide) k) ?_
  refine ST.lift (fun _ _ k => T_iconst (v := nI 0) d_Mo_root_99 (by decide) k) ?_
  refine ST.lift (fun _ _ k => T_iload_n d_Mo_root_100 rfl k) ?_
  refine S_virtual (as := [.int (nI 55), .int (nI 0), .int (nI u)]) (rest := []) (b := 373) d_Mo_root_101 rfl (jw_Mo_sub.jo (by decide)) lm_Mo_152 ji_Mo_sub js_Mo_sub (w373 _) rfl rfl rfl (Nat.le_of_ble_eq_true rfl) (by decide) (by decide) (c_Mo_sub G v 55 (by omega) 0 (by omega) u (by omega)) (fun r v' hq => ?_)
  rw [hq.1, hq.2]
  clear hq r v'
  show ST G mi_Mo_root 104 [(0, .ref 373), (1, .int (nI d)), (2, .int (nI u)), (3, .int (nI w))] [] v 0 0 _
  refine ST.lift (fun _ _ k => T_aload_n (v := .ref 373) d_Mo_root_104 rfl (Or.inr ⟨_, rfl⟩) k) ?_
  refine ST.lift (fun _ _ k => T_bipush (v := nI 56) d_Mo_root_105 (by decide) k) ?_
  refine ST.lift (fun _ _ k => T_bipush (v := nI 55) d_Mo_root_107 (by decide) k) ?_
  refine ST.lift (fun _ _ k => T_iconst (v := nI 3) d_Mo_root_109 (by decide) k) ?_
  refine S_virtual (as := [.int (nI 56), .int (nI 55), .int (nI 3)]) (rest := []) (b := 373) d_Mo_root_110 rfl (jw_Mo_mul.jo (by decide)) lm_Mo_163 ji_Mo_mul js_Mo_mul (w373 _) rfl rfl rfl (Nat.le_of_ble_eq_true rfl) (by decide) (by decide) (c_Mo_mul G v 56 (by omega) 55 (by omega) 3 (by omega)) (fun r v' hq => ?_)
  rw [hq.1, hq.2]
  clear hq r v'
  show ST G mi_Mo_root 113 [(0, .ref 373), (1, .int (nI d)), (2, .int (nI u)), (3, .int (nI w))] [] v 0 0 _
  refine ST.lift (fun _ _ k => T_aload_n (v := .ref 373) d_Mo_root_113 rfl (Or.inr ⟨_, rfl⟩) k) ?_
  refine ST.lift (fun _ _ k => T_bipush (v := nI 54) d_Mo_root_114 (by decide) k) ?_
  refine ST.lift (fun _ _ k => T_iload_n d_Mo_root_116 rfl k) ?_
  refine S_virtual (as := [.int (nI 54), .int (nI u)]) (rest := []) (b := 373) d_Mo_root_117 rfl (jw_Mo_same.jo (by decide)) lm_Mo_170 ji_Mo_same js_Mo_same (w373 _) rfl rfl rfl (Nat.le_of_ble_eq_true rfl) (by decide) (by decide) (c_Mo_same G v 54 (by omega) u (by omega)) (fun r v' hq => ?_)
  obtain ⟨z1, hz1, hr, hv⟩ := hq
  rw [hr, hv]
  clear hr hv r v'
  show ST G mi_Mo_root 120 [(0, .ref 373), (1, .int (nI d)), (2, .int (nI u)), (3, .int (nI w))] [.int (nI z1)] v 0 0 _
  refine ST.lift (fun _ _ k => T_istore (L' := [(4, .int (nI z1)), (0, .ref 373), (1, .int (nI d)), (2, .int (nI u)), (3, .int (nI w))]) d_Mo_root_120 (by decide) rfl k) ?_
  refine ST.lift (fun _ _ k => T_aload_n (v := .ref 373) d_Mo_root_122 rfl (Or.inr ⟨_, rfl⟩) k) ?_
  refine ST.lift (fun _ _ k => T_bipush (v := nI 54) d_Mo_root_123 (by decide) k) ?_
  refine ST.lift (fun _ _ k => T_bipush (v := nI 55) d_Mo_root_125 (by decide) k) ?_
  refine S_virtual (as := [.int (nI 54), .int (nI 55)]) (rest := []) (b := 373) d_Mo_root_127 rfl (jw_Mo_same.jo (by decide)) lm_Mo_170 ji_Mo_same js_Mo_same (w373 _) rfl rfl rfl (Nat.le_of_ble_eq_true rfl) (by decide) (by decide) (c_Mo_same G v 54 (by omega) 55 (by omega)) (fun r v' hq => ?_)
  obtain ⟨z2, hz2, hr, hv⟩ := hq
  rw [hr, hv]
  clear hr hv r v'
  show ST G mi_Mo_root 130 [(4, .int (nI z1)), (0, .ref 373), (1, .int (nI d)), (2, .int (nI u)), (3, .int (nI w))] [.int (nI z2)] v 0 0 _
  refine ST.lift (fun _ _ k => T_istore (L' := [(5, .int (nI z2)), (4, .int (nI z1)), (0, .ref 373), (1, .int (nI d)), (2, .int (nI u)), (3, .int (nI w))]) d_Mo_root_130 (by decide) rfl k) ?_
  refine ST.lift (fun _ _ k => T_aload_n (v := .ref 373) d_Mo_root_132 rfl (Or.inr ⟨_, rfl⟩) k) ?_
  refine ST.lift (fun _ _ k => T_bipush (v := nI 54) d_Mo_root_133 (by decide) k) ?_
  refine ST.lift (fun _ _ k => T_bipush (v := nI 56) d_Mo_root_135 (by decide) k) ?_
  refine S_virtual (as := [.int (nI 54), .int (nI 56)]) (rest := []) (b := 373) d_Mo_root_137 rfl (jw_Mo_same.jo (by decide)) lm_Mo_170 ji_Mo_same js_Mo_same (w373 _) rfl rfl rfl (Nat.le_of_ble_eq_true rfl) (by decide) (by decide) (c_Mo_same G v 54 (by omega) 56 (by omega)) (fun r v' hq => ?_)
  obtain ⟨z3, hz3, hr, hv⟩ := hq
  rw [hr, hv]
  clear hr hv r v'
  show ST G mi_Mo_root 140 [(5, .int (nI z2)), (4, .int (nI z1)), (0, .ref 373), (1, .int (nI d)), (2, .int (nI u)), (3, .int (nI w))] [.int (nI z3)] v 0 0 _
  refine ST.lift (fun _ _ k => T_istore (L' := [(6, .int (nI z3)), (5, .int (nI z2)), (4, .int (nI z1)), (0, .ref 373), (1, .int (nI d)), (2, .int (nI u)), (3, .int (nI w))]) d_Mo_root_140 (by decide) rfl k) ?_
  refine ST.lift (fun _ _ k => T_iload d_Mo_root_142 rfl k) ?_
  have J161_6 : ST G mi_Mo_root 161 [(6, .int (nI z3)), (5, .int (nI z2)), (4, .int (nI z1)), (0, .ref 373), (1, .int (nI d)), (2, .int (nI u)), (3, .int (nI w))] [] v 0 0 Q := by
    refine ST.lift (fun _ _ k => T_aload_n (v := .ref 373) d_Mo_root_161 rfl (Or.inr ⟨_, rfl⟩) k) ?_
    refine ST.lift (fun _ _ k => T_bipush (v := nI 53) d_Mo_root_162 (by decide) k) ?_
    refine S_virtual (as := [.int (nI 53)]) (rest := []) (b := 373) d_Mo_root_164 rfl (jw_Mo_odd.jo (by decide)) lm_Mo_174 ji_Mo_odd js_Mo_odd (w373 _) rfl rfl rfl (Nat.le_of_ble_eq_true rfl) (by decide) (by decide) (c_Mo_odd G v 53 (by omega)) (fun r v' hq => ?_)
    obtain ⟨z7, hz7, hr, hv⟩ := hq
    rw [hr, hv]
    clear hr hv r v'
    show ST G mi_Mo_root 167 [(6, .int (nI z3)), (5, .int (nI z2)), (4, .int (nI z1)), (0, .ref 373), (1, .int (nI d)), (2, .int (nI u)), (3, .int (nI w))] [.int (nI z7)] v 0 0 _
    have J179_9 : ST G mi_Mo_root 179 [(6, .int (nI z3)), (5, .int (nI z2)), (4, .int (nI z1)), (0, .ref 373), (1, .int (nI d)), (2, .int (nI u)), (3, .int (nI w))] [] v 0 0 Q := by
      refine ST.lift (fun _ _ k => T_aload_n (v := .ref 373) d_Mo_root_179 rfl (Or.inr ⟨_, rfl⟩) k) ?_
      refine ST.lift (fun _ _ k => T_iload_n d_Mo_root_180 rfl k) ?_
      refine ST.lift (fun _ _ k => T_bipush (v := nI 53) d_Mo_root_181 (by decide) k) ?_
      refine S_virtual (as := [.int (nI d), .int (nI 53)]) (rest := []) (b := 373) d_Mo_root_183 rfl (jw_Mo_set.jo (by decide)) lm_Mo_160 ji_Mo_set js_Mo_set (w373 _) rfl rfl rfl (Nat.le_of_ble_eq_true rfl) (by decide) (by decide) (c_Mo_set G v d (by omega) 53 (by omega)) (fun r v' hq => ?_)
      rw [hq.1, hq.2]
      clear hq r v'
      show ST G mi_Mo_root 186 [(6, .int (nI z3)), (5, .int (nI z2)), (4, .int (nI z1)), (0, .ref 373), (1, .int (nI d)), (2, .int (nI u)), (3, .int (nI w))] [] v 0 0 _
      refine ST.lift (fun _ _ k => T_iload d_Mo_root_186 rfl k) ?_
      refine S_if_neN d_Mo_root_188 rfl (by omega) (fun c10 => ?_) (fun c10 => ?_)
      · refine ST.lift (fun _ _ k => T_iconst (v := nI 1) d_Mo_root_196 (by decide) k) ?_
        refine ST.lift (fun _ _ k => T_goto (tgt := 201) d_Mo_root_197 rfl k) ?_
        exact S_ret d_Mo_root_201 rfl (by decide) (by decide) (by decide) (hQ 1 (by decide))
      · refine ST.lift (fun _ _ k => T_iload d_Mo_root_191 rfl k) ?_
        refine S_if_eqN d_Mo_root_193 rfl (by omega) (fun c11 => ?_) (fun c11 => ?_)
        · refine ST.lift (fun _ _ k => T_iconst (v := nI 0) d_Mo_root_200 (by decide) k) ?_
          exact S_ret d_Mo_root_201 rfl (by decide) (by decide) (by decide) (hQ 0 (by decide))
        · refine ST.lift (fun _ _ k => T_iconst (v := nI 1) d_Mo_root_196 (by decide) k) ?_
          refine ST.lift (fun _ _ k => T_goto (tgt := 201) d_Mo_root_197 rfl k) ?_
          exact S_ret d_Mo_root_201 rfl (by decide) (by decide) (by decide) (hQ 1 (by decide))
    refine S_if_eqN d_Mo_root_167 rfl (by omega) (fun c8 => ?_) (fun c8 => ?_)
    · exact J179_9 
    · refine ST.lift (fun _ _ k => T_aload_n (v := .ref 373) d_Mo_root_170 rfl (Or.inr ⟨_, rfl⟩) k) ?_
      refine ST.lift (fun _ _ k => T_bipush (v := nI 53) d_Mo_root_171 (by decide) k) ?_
      refine ST.lift (fun _ _ k => T_iconst (v := nI 0) d_Mo_root_173 (by decide) k) ?_
      refine ST.lift (fun _ _ k => T_bipush (v := nI 53) d_Mo_root_174 (by decide) k) ?_
      refine S_virtual (as := [.int (nI 53), .int (nI 0), .int (nI 53)]) (rest := []) (b := 373) d_Mo_root_176 rfl (jw_Mo_sub.jo (by decide)) lm_Mo_152 ji_Mo_sub js_Mo_sub (w373 _) rfl rfl rfl (Nat.le_of_ble_eq_true rfl) (by decide) (by decide) (c_Mo_sub G v 53 (by omega) 0 (by omega) 53 (by omega)) (fun r v' hq => ?_)
      rw [hq.1, hq.2]
      clear hq r v'
      show ST G mi_Mo_root 179 [(6, .int (nI z3)), (5, .int (nI z2)), (4, .int (nI z1)), (0, .ref 373), (1, .int (nI d)), (2, .int (nI u)), (3, .int (nI w))] [] v 0 0 _
      exact J179_9 
  refine S_if_neN d_Mo_root_144 rfl (by omega) (fun c4 => ?_) (fun c4 => ?_)
  · refine ST.lift (fun _ _ k => T_aload_n (v := .ref 373) d_Mo_root_152 rfl (Or.inr ⟨_, rfl⟩) k) ?_
    refine ST.lift (fun _ _ k => T_bipush (v := nI 53) d_Mo_root_153 (by decide) k) ?_
    refine ST.lift (fun _ _ k => T_bipush (v := nI 53) d_Mo_root_155 (by decide) k) ?_
    refine ST.lift (fun _ _ k => T_iconst (v := nI 3) d_Mo_root_157 (by decide) k) ?_
    refine S_virtual (as := [.int (nI 53), .int (nI 53), .int (nI 3)]) (rest := []) (b := 373) d_Mo_root_158 rfl (jw_Mo_mul.jo (by decide)) lm_Mo_163 ji_Mo_mul js_Mo_mul (w373 _) rfl rfl rfl (Nat.le_of_ble_eq_true rfl) (by decide) (by decide) (c_Mo_mul G v 53 (by omega) 53 (by omega) 3 (by omega)) (fun r v' hq => ?_)
    rw [hq.1, hq.2]
    clear hq r v'
    show ST G mi_Mo_root 161 [(6, .int (nI z3)), (5, .int (nI z2)), (4, .int (nI z1)), (0, .ref 373), (1, .int (nI d)), (2, .int (nI u)), (3, .int (nI w))] [] v 0 0 _
    exact J161_6 
  · refine ST.lift (fun _ _ k => T_iload d_Mo_root_147 rfl k) ?_
    refine S_if_eqN d_Mo_root_149 rfl (by omega) (fun c12 => ?_) (fun c12 => ?_)
    · exact J161_6 
    · refine ST.lift (fun _ _ k => T_aload_n (v := .ref 373) d_Mo_root_152 rfl (Or.inr ⟨_, rfl⟩) k) ?_
      refine ST.lift (fun _ _ k => T_bipush (v := nI 53) d_Mo_root_153 (by decide) k) ?_
      refine ST.lift (fun _ _ k => T_bipush (v := nI 53) d_Mo_root_155 (by decide) k) ?_
      refine ST.lift (fun _ _ k => T_iconst (v := nI 3) d_Mo_root_157 (by decide) k) ?_
      refine S_virtual (as := [.int (nI 53), .int (nI 53), .int (nI 3)]) (rest := []) (b := 373) d_Mo_root_158 rfl (jw_Mo_mul.jo (by decide)) lm_Mo_163 ji_Mo_mul js_Mo_mul (w373 _) rfl rfl rfl (Nat.le_of_ble_eq_true rfl) (by decide) (by decide) (c_Mo_mul G v 53 (by omega) 53 (by omega) 3 (by omega)) (fun r v' hq => ?_)
      rw [hq.1, hq.2]
      clear hq r v'
      show ST G mi_Mo_root 161 [(6, .int (nI z3)), (5, .int (nI z2)), (4, .int (nI z1)), (0, .ref 373), (1, .int (nI d)), (2, .int (nI u)), (3, .int (nI w))] [] v 0 0 _
      exact J161_6 
set_option maxRecDepth 100000 in
set_option maxHeartbeats 4000000 in
theorem c_Mo_unpack (G : GX) (v : Nat → Int32) (d : Nat) (b_d : d ≤ 63) (src m : Nat) (w_src : K0 ≤ src) (a_src : aI src m) (l_src : m ≤ 4000) (pos : Nat) (b_pos : pos + 32 ≤ m) : CS G mi_Mo_unpack [.ref 373, .int (nI d), .ref src, .int (nI pos)] v (fun r v' => r = none ∧ v' = v) := by
  refine CS.of (by decide) (Nat.le_of_ble_eq_true rfl) ?_
  generalize hQe : (fun (r : Option Value) (v' : Nat → Int32) => r = none ∧ v' = v) = Q
  have hQ : Q none v := by rw [← hQe]; exact ⟨rfl, rfl⟩
  clear hQe
  show ST G mi_Mo_unpack 0 [(0, .ref 373), (1, .int (nI d)), (2, .ref src), (3, .int (nI pos))] [] v 0 0 Q
  refine ST.lift (fun _ _ k => T_iconst (v := nI 0) d_Mo_unpack_0 (by decide) k) ?_
  refine ST.lift (fun _ _ k => T_istore (L' := [(4, .int (nI 0)), (0, .ref 373), (1, .int (nI d)), (2, .ref src), (3, .int (nI pos))]) d_Mo_unpack_1 (by decide) rfl k) ?_
  have lp4 : ∀ (n2 k1 : Nat), 16 - k1 = n2 → 0 ≤ k1 ∧ k1 ≤ 0 + 16 → ST G mi_Mo_unpack 3 [(4, .int (nI k1)), (0, .ref 373), (1, .int (nI d)), (2, .ref src), (3, .int (nI pos))] [] v 0 0 Q := by
    intro n2
    induction n2 using Nat.strongRecOn with
    | _ n2 ih3 =>
      intro k1 h5 h6
      refine ST.lift (fun _ _ k => T_iload d_Mo_unpack_3 rfl k) ?_
      refine ST.lift (fun _ _ k => T_bipush (v := nI 16) d_Mo_unpack_5 (by decide) k) ?_
      refine S_icmp_geN d_Mo_unpack_7 rfl (by omega) (by omega) (fun c7 => ?_) (fun c7 => ?_)
      · refine ST.lift (fun _ _ k => T_aload_n (v := .ref 373) d_Mo_unpack_53 rfl (Or.inr ⟨_, rfl⟩) k) ?_
        refine S_getfield d_Mo_unpack_54 fg_Mo_124 (w373 _) rfl ?_
        refine ST.lift (fun _ _ k => T_bipush (v := nI 16) d_Mo_unpack_57 (by decide) k) ?_
        refine ST.lift (fun _ _ k => T_iload_n d_Mo_unpack_59 rfl k) ?_
        refine S_imulN d_Mo_unpack_60 ?_
        refine ST.lift (fun _ _ k => T_bipush (v := nI 15) d_Mo_unpack_61 (by decide) k) ?_
        refine S_iaddN d_Mo_unpack_63 ?_
        refine ST.lift (fun _ _ k => T_dup2 d_Mo_unpack_64 rfl rfl k) ?_
        refine S_laload d_Mo_unpack_65 a390 (vp_in_nI (by omega) (by omega)) (fun z14 => ?_)
        refine ST.lift (fun _ _ k => T_ldc2 d_Mo_unpack_66 kJ_Mo_141 k) ?_
        refine ST.lift (fun _ _ k => T_land d_Mo_unpack_69 k) (S_anyl fun z15 => ?_)
        refine S_lastore d_Mo_unpack_70 (by decide) a390 (vp_in_nI (by omega) (by omega)) ?_
        exact S_vret d_Mo_unpack_71 rfl (by decide) (by decide) hQ
      · refine ST.lift (fun _ _ k => T_aload_n (v := .ref 373) d_Mo_unpack_10 rfl (Or.inr ⟨_, rfl⟩) k) ?_
        refine S_getfield d_Mo_unpack_11 fg_Mo_124 (w373 _) rfl ?_
        refine ST.lift (fun _ _ k => T_bipush (v := nI 16) d_Mo_unpack_14 (by decide) k) ?_
        refine ST.lift (fun _ _ k => T_iload_n d_Mo_unpack_16 rfl k) ?_
        refine S_imulN d_Mo_unpack_17 ?_
        refine ST.lift (fun _ _ k => T_iload d_Mo_unpack_18 rfl k) ?_
        refine S_iaddN d_Mo_unpack_20 ?_
        refine ST.lift (fun _ _ k => T_aload_n (v := .ref src) d_Mo_unpack_21 rfl (Or.inr ⟨_, rfl⟩) k) ?_
        refine ST.lift (fun _ _ k => T_iload_n d_Mo_unpack_22 rfl k) ?_
        refine ST.lift (fun _ _ k => T_iconst (v := nI 2) d_Mo_unpack_23 (by decide) k) ?_
        refine ST.lift (fun _ _ k => T_iload d_Mo_unpack_24 rfl k) ?_
        refine S_imulN d_Mo_unpack_26 ?_
        refine S_iaddN d_Mo_unpack_27 ?_
        refine S_iaload d_Mo_unpack_28 a_src (vp_in_nI (by omega) (by omega)) (fun z16 => ?_)
        refine ST.lift (fun _ _ k => T_i2l d_Mo_unpack_29 k) (S_anyl fun z17 => ?_)
        refine ST.lift (fun _ _ k => T_ldc2 d_Mo_unpack_30 kJ_Mo_177 k) ?_
        refine ST.lift (fun _ _ k => T_aload_n (v := .ref src) d_Mo_unpack_33 rfl (Or.inr ⟨_, rfl⟩) k) ?_
        refine ST.lift (fun _ _ k => T_iload_n d_Mo_unpack_34 rfl k) ?_
        refine ST.lift (fun _ _ k => T_iconst (v := nI 2) d_Mo_unpack_35 (by decide) k) ?_
        refine ST.lift (fun _ _ k => T_iload d_Mo_unpack_36 rfl k) ?_
        refine S_imulN d_Mo_unpack_38 ?_
        refine S_iaddN d_Mo_unpack_39 ?_
        refine ST.lift (fun _ _ k => T_iconst (v := nI 1) d_Mo_unpack_40 (by decide) k) ?_
        refine S_iaddN d_Mo_unpack_41 ?_
        refine S_iaload d_Mo_unpack_42 a_src (vp_in_nI (by omega) (by omega)) (fun z18 => ?_)
        refine ST.lift (fun _ _ k => T_i2l d_Mo_unpack_43 k) (S_anyl fun z19 => ?_)
        refine ST.lift (fun _ _ k => T_lmul d_Mo_unpack_44 k) (S_anyl fun z20 => ?_)
        refine ST.lift (fun _ _ k => T_ladd d_Mo_unpack_45 k) (S_anyl fun z21 => ?_)
        refine S_lastore d_Mo_unpack_46 (by decide) a390 (vp_in_nI (by omega) (by omega)) ?_
        refine S_iincN (a := k1) (b := 1) (L' := [(4, .int (nI (k1 + 1))), (0, .ref 373), (1, .int (nI d)), (2, .ref src), (3, .int (nI pos))]) d_Mo_unpack_47 (by decide) rfl rfl rfl ?_
        refine ST.lift (fun _ _ k => T_goto (tgt := 3) d_Mo_unpack_50 rfl k) ?_
        exact ih3 (16 - (k1 + 1)) (by omega) (k1 + 1)  rfl (by omega)
  exact lp4 _ 0  rfl (by omega)
set_option maxRecDepth 100000 in
set_option maxHeartbeats 4000000 in
theorem c_Mo_zeroPoint (G : GX) (v : Nat → Int32) (p : Nat) (b_p : p ≤ 60) : CS G mi_Mo_zeroPoint [.ref 373, .int (nI p)] v (fun r v' => r = none ∧ v' = v) := by
  refine CS.of (by decide) (Nat.le_of_ble_eq_true rfl) ?_
  generalize hQe : (fun (r : Option Value) (v' : Nat → Int32) => r = none ∧ v' = v) = Q
  have hQ : Q none v := by rw [← hQe]; exact ⟨rfl, rfl⟩
  clear hQe
  show ST G mi_Mo_zeroPoint 0 [(0, .ref 373), (1, .int (nI p))] [] v 0 0 Q
  refine ST.lift (fun _ _ k => T_aload_n (v := .ref 373) d_Mo_zeroPoint_0 rfl (Or.inr ⟨_, rfl⟩) k) ?_
  refine ST.lift (fun _ _ k => T_iload_n d_Mo_zeroPoint_1 rfl k) ?_
  refine ST.lift (fun _ _ k => T_iconst (v := nI 0) d_Mo_zeroPoint_2 (by decide) k) ?_
  refine S_virtual (as := [.int (nI p), .int (nI 0)]) (rest := []) (b := 373) d_Mo_zeroPoint_3 rfl (jw_Mo_small.jo (by decide)) lm_Mo_179 ji_Mo_small js_Mo_small (w373 _) rfl rfl rfl (Nat.le_of_ble_eq_true rfl) (by decide) (by decide) (c_Mo_small G v p (by omega) (nI 0)) (fun r v' hq => ?_)
  rw [hq.1, hq.2]
  clear hq r v'
  show ST G mi_Mo_zeroPoint 6 [(0, .ref 373), (1, .int (nI p))] [] v 0 0 _
  refine ST.lift (fun _ _ k => T_aload_n (v := .ref 373) d_Mo_zeroPoint_6 rfl (Or.inr ⟨_, rfl⟩) k) ?_
  refine ST.lift (fun _ _ k => T_iload_n d_Mo_zeroPoint_7 rfl k) ?_
  refine ST.lift (fun _ _ k => T_iconst (v := nI 1) d_Mo_zeroPoint_8 (by decide) k) ?_
  refine S_iaddN d_Mo_zeroPoint_9 ?_
  refine ST.lift (fun _ _ k => T_iconst (v := nI 1) d_Mo_zeroPoint_10 (by decide) k) ?_
  refine S_virtual (as := [.int (nI (p + 1)), .int (nI 1)]) (rest := []) (b := 373) d_Mo_zeroPoint_11 rfl (jw_Mo_small.jo (by decide)) lm_Mo_179 ji_Mo_small js_Mo_small (w373 _) rfl rfl rfl (Nat.le_of_ble_eq_true rfl) (by decide) (by decide) (c_Mo_small G v (p + 1) (by omega) (nI 1)) (fun r v' hq => ?_)
  rw [hq.1, hq.2]
  clear hq r v'
  show ST G mi_Mo_zeroPoint 14 [(0, .ref 373), (1, .int (nI p))] [] v 0 0 _
  refine ST.lift (fun _ _ k => T_aload_n (v := .ref 373) d_Mo_zeroPoint_14 rfl (Or.inr ⟨_, rfl⟩) k) ?_
  refine ST.lift (fun _ _ k => T_iload_n d_Mo_zeroPoint_15 rfl k) ?_
  refine ST.lift (fun _ _ k => T_iconst (v := nI 2) d_Mo_zeroPoint_16 (by decide) k) ?_
  refine S_iaddN d_Mo_zeroPoint_17 ?_
  refine ST.lift (fun _ _ k => T_iconst (v := nI 1) d_Mo_zeroPoint_18 (by decide) k) ?_
  refine S_virtual (as := [.int (nI (p + 2)), .int (nI 1)]) (rest := []) (b := 373) d_Mo_zeroPoint_19 rfl (jw_Mo_small.jo (by decide)) lm_Mo_179 ji_Mo_small js_Mo_small (w373 _) rfl rfl rfl (Nat.le_of_ble_eq_true rfl) (by decide) (by decide) (c_Mo_small G v (p + 2) (by omega) (nI 1)) (fun r v' hq => ?_)
  rw [hq.1, hq.2]
  clear hq r v'
  show ST G mi_Mo_zeroPoint 22 [(0, .ref 373), (1, .int (nI p))] [] v 0 0 _
  refine ST.lift (fun _ _ k => T_aload_n (v := .ref 373) d_Mo_zeroPoint_22 rfl (Or.inr ⟨_, rfl⟩) k) ?_
  refine ST.lift (fun _ _ k => T_iload_n d_Mo_zeroPoint_23 rfl k) ?_
  refine ST.lift (fun _ _ k => T_iconst (v := nI 3) d_Mo_zeroPoint_24 (by decide) k) ?_
  refine S_iaddN d_Mo_zeroPoint_25 ?_
  refine ST.lift (fun _ _ k => T_iconst (v := nI 0) d_Mo_zeroPoint_26 (by decide) k) ?_
  refine S_virtual (as := [.int (nI (p + 3)), .int (nI 0)]) (rest := []) (b := 373) d_Mo_zeroPoint_27 rfl (jw_Mo_small.jo (by decide)) lm_Mo_179 ji_Mo_small js_Mo_small (w373 _) rfl rfl rfl (Nat.le_of_ble_eq_true rfl) (by decide) (by decide) (c_Mo_small G v (p + 3) (by omega) (nI 0)) (fun r v' hq => ?_)
  rw [hq.1, hq.2]
  clear hq r v'
  show ST G mi_Mo_zeroPoint 30 [(0, .ref 373), (1, .int (nI p))] [] v 0 0 _
  exact S_vret d_Mo_zeroPoint_30 rfl (by decide) (by decide) hQ
set_option maxRecDepth 100000 in
set_option maxHeartbeats 4000000 in
theorem c_Mo_setPoint (G : GX) (v : Nat → Int32) (p : Nat) (b_p : p ≤ 60) (q : Nat) (b_q : q ≤ 60) : CS G mi_Mo_setPoint [.ref 373, .int (nI p), .int (nI q)] v (fun r v' => r = none ∧ v' = v) := by
  refine CS.of (by decide) (Nat.le_of_ble_eq_true rfl) ?_
  generalize hQe : (fun (r : Option Value) (v' : Nat → Int32) => r = none ∧ v' = v) = Q
  have hQ : Q none v := by rw [← hQe]; exact ⟨rfl, rfl⟩
  clear hQe
  show ST G mi_Mo_setPoint 0 [(0, .ref 373), (1, .int (nI p)), (2, .int (nI q))] [] v 0 0 Q
  refine ST.lift (fun _ _ k => T_iconst (v := nI 0) d_Mo_setPoint_0 (by decide) k) ?_
  refine ST.lift (fun _ _ k => T_istore_n (L' := [(3, .int (nI 0)), (0, .ref 373), (1, .int (nI p)), (2, .int (nI q))]) d_Mo_setPoint_1 (by decide) rfl k) ?_
  refine ST.lift (fun _ _ k => T_iload_n d_Mo_setPoint_2 rfl k) ?_
  refine ST.lift (fun _ _ k => T_iconst (v := nI 4) d_Mo_setPoint_3 (by decide) k) ?_
  refine S_icmp_geN d_Mo_setPoint_4 rfl (by omega) (by omega) (fun c => by first | exact absurd c (by omega) | exact c.elim | exact absurd c (by decide) | exact absurd (by assumption) c | exact absurd c (by assumption)) (fun _ => ?_)
  refine ST.lift (fun _ _ k => T_aload_n (v := .ref 373) d_Mo_setPoint_7 rfl (Or.inr ⟨_, rfl⟩) k) ?_
  refine ST.lift (fun _ _ k => T_iload_n d_Mo_setPoint_8 rfl k) ?_
  refine ST.lift (fun _ _ k => T_iload_n d_Mo_setPoint_9 rfl k) ?_
  refine S_iaddN d_Mo_setPoint_10 ?_
  refine ST.lift (fun _ _ k => T_iload_n d_Mo_setPoint_11 rfl k) ?_
  refine ST.lift (fun _ _ k => T_iload_n d_Mo_setPoint_12 rfl k) ?_
  refine S_iaddN d_Mo_setPoint_13 ?_
  refine S_virtual (as := [.int (nI (p + 0)), .int (nI (q + 0))]) (rest := []) (b := 373) d_Mo_setPoint_14 rfl (jw_Mo_set.jo (by decide)) lm_Mo_160 ji_Mo_set js_Mo_set (w373 _) rfl rfl rfl (Nat.le_of_ble_eq_true rfl) (by decide) (by decide) (c_Mo_set G v (p + 0) (by omega) (q + 0) (by omega)) (fun r v' hq => ?_)
  rw [hq.1, hq.2]
  clear hq r v'
  show ST G mi_Mo_setPoint 17 [(3, .int (nI 0)), (0, .ref 373), (1, .int (nI p)), (2, .int (nI q))] [] v 0 0 _
  refine S_iincN (a := 0) (b := 1) (L' := [(3, .int (nI 1)), (0, .ref 373), (1, .int (nI p)), (2, .int (nI q))]) d_Mo_setPoint_17 (by decide) rfl rfl rfl ?_
  refine ST.lift (fun _ _ k => T_goto (tgt := 2) d_Mo_setPoint_20 rfl k) ?_
  refine ST.lift (fun _ _ k => T_iload_n d_Mo_setPoint_2 rfl k) ?_
  refine ST.lift (fun _ _ k => T_iconst (v := nI 4) d_Mo_setPoint_3 (by decide) k) ?_
  refine S_icmp_geN d_Mo_setPoint_4 rfl (by omega) (by omega) (fun c => by first | exact absurd c (by omega) | exact c.elim | exact absurd c (by decide) | exact absurd (by assumption) c | exact absurd c (by assumption)) (fun _ => ?_)
  refine ST.lift (fun _ _ k => T_aload_n (v := .ref 373) d_Mo_setPoint_7 rfl (Or.inr ⟨_, rfl⟩) k) ?_
  refine ST.lift (fun _ _ k => T_iload_n d_Mo_setPoint_8 rfl k) ?_
  refine ST.lift (fun _ _ k => T_iload_n d_Mo_setPoint_9 rfl k) ?_
  refine S_iaddN d_Mo_setPoint_10 ?_
  refine ST.lift (fun _ _ k => T_iload_n d_Mo_setPoint_11 rfl k) ?_
  refine ST.lift (fun _ _ k => T_iload_n d_Mo_setPoint_12 rfl k) ?_
  refine S_iaddN d_Mo_setPoint_13 ?_
  refine S_virtual (as := [.int (nI (p + 1)), .int (nI (q + 1))]) (rest := []) (b := 373) d_Mo_setPoint_14 rfl (jw_Mo_set.jo (by decide)) lm_Mo_160 ji_Mo_set js_Mo_set (w373 _) rfl rfl rfl (Nat.le_of_ble_eq_true rfl) (by decide) (by decide) (c_Mo_set G v (p + 1) (by omega) (q + 1) (by omega)) (fun r v' hq => ?_)
  rw [hq.1, hq.2]
  clear hq r v'
  show ST G mi_Mo_setPoint 17 [(3, .int (nI 1)), (0, .ref 373), (1, .int (nI p)), (2, .int (nI q))] [] v 0 0 _
  refine S_iincN (a := 1) (b := 1) (L' := [(3, .int (nI 2)), (0, .ref 373), (1, .int (nI p)), (2, .int (nI q))]) d_Mo_setPoint_17 (by decide) rfl rfl rfl ?_
  refine ST.lift (fun _ _ k => T_goto (tgt := 2) d_Mo_setPoint_20 rfl k) ?_
  refine ST.lift (fun _ _ k => T_iload_n d_Mo_setPoint_2 rfl k) ?_
  refine ST.lift (fun _ _ k => T_iconst (v := nI 4) d_Mo_setPoint_3 (by decide) k) ?_
  refine S_icmp_geN d_Mo_setPoint_4 rfl (by omega) (by omega) (fun c => by first | exact absurd c (by omega) | exact c.elim | exact absurd c (by decide) | exact absurd (by assumption) c | exact absurd c (by assumption)) (fun _ => ?_)
  refine ST.lift (fun _ _ k => T_aload_n (v := .ref 373) d_Mo_setPoint_7 rfl (Or.inr ⟨_, rfl⟩) k) ?_
  refine ST.lift (fun _ _ k => T_iload_n d_Mo_setPoint_8 rfl k) ?_
  refine ST.lift (fun _ _ k => T_iload_n d_Mo_setPoint_9 rfl k) ?_
  refine S_iaddN d_Mo_setPoint_10 ?_
  refine ST.lift (fun _ _ k => T_iload_n d_Mo_setPoint_11 rfl k) ?_
  refine ST.lift (fun _ _ k => T_iload_n d_Mo_setPoint_12 rfl k) ?_
  refine S_iaddN d_Mo_setPoint_13 ?_
  refine S_virtual (as := [.int (nI (p + 2)), .int (nI (q + 2))]) (rest := []) (b := 373) d_Mo_setPoint_14 rfl (jw_Mo_set.jo (by decide)) lm_Mo_160 ji_Mo_set js_Mo_set (w373 _) rfl rfl rfl (Nat.le_of_ble_eq_true rfl) (by decide) (by decide) (c_Mo_set G v (p + 2) (by omega) (q + 2) (by omega)) (fun r v' hq => ?_)
  rw [hq.1, hq.2]
  clear hq r v'
  show ST G mi_Mo_setPoint 17 [(3, .int (nI 2)), (0, .ref 373), (1, .int (nI p)), (2, .int (nI q))] [] v 0 0 _
  refine S_iincN (a := 2) (b := 1) (L' := [(3, .int (nI 3)), (0, .ref 373), (1, .int (nI p)), (2, .int (nI q))]) d_Mo_setPoint_17 (by decide) rfl rfl rfl ?_
  refine ST.lift (fun _ _ k => T_goto (tgt := 2) d_Mo_setPoint_20 rfl k) ?_
  refine ST.lift (fun _ _ k => T_iload_n d_Mo_setPoint_2 rfl k) ?_
  refine ST.lift (fun _ _ k => T_iconst (v := nI 4) d_Mo_setPoint_3 (by decide) k) ?_
  refine S_icmp_geN d_Mo_setPoint_4 rfl (by omega) (by omega) (fun c => by first | exact absurd c (by omega) | exact c.elim | exact absurd c (by decide) | exact absurd (by assumption) c | exact absurd c (by assumption)) (fun _ => ?_)
  refine ST.lift (fun _ _ k => T_aload_n (v := .ref 373) d_Mo_setPoint_7 rfl (Or.inr ⟨_, rfl⟩) k) ?_
  refine ST.lift (fun _ _ k => T_iload_n d_Mo_setPoint_8 rfl k) ?_
  refine ST.lift (fun _ _ k => T_iload_n d_Mo_setPoint_9 rfl k) ?_
  refine S_iaddN d_Mo_setPoint_10 ?_
  refine ST.lift (fun _ _ k => T_iload_n d_Mo_setPoint_11 rfl k) ?_
  refine ST.lift (fun _ _ k => T_iload_n d_Mo_setPoint_12 rfl k) ?_
  refine S_iaddN d_Mo_setPoint_13 ?_
  refine S_virtual (as := [.int (nI (p + 3)), .int (nI (q + 3))]) (rest := []) (b := 373) d_Mo_setPoint_14 rfl (jw_Mo_set.jo (by decide)) lm_Mo_160 ji_Mo_set js_Mo_set (w373 _) rfl rfl rfl (Nat.le_of_ble_eq_true rfl) (by decide) (by decide) (c_Mo_set G v (p + 3) (by omega) (q + 3) (by omega)) (fun r v' hq => ?_)
  rw [hq.1, hq.2]
  clear hq r v'
  show ST G mi_Mo_setPoint 17 [(3, .int (nI 3)), (0, .ref 373), (1, .int (nI p)), (2, .int (nI q))] [] v 0 0 _
  refine S_iincN (a := 3) (b := 1) (L' := [(3, .int (nI 4)), (0, .ref 373), (1, .int (nI p)), (2, .int (nI q))]) d_Mo_setPoint_17 (by decide) rfl rfl rfl ?_
  refine ST.lift (fun _ _ k => T_goto (tgt := 2) d_Mo_setPoint_20 rfl k) ?_
  refine ST.lift (fun _ _ k => T_iload_n d_Mo_setPoint_2 rfl k) ?_
  refine ST.lift (fun _ _ k => T_iconst (v := nI 4) d_Mo_setPoint_3 (by decide) k) ?_
  refine S_icmp_geN d_Mo_setPoint_4 rfl (by omega) (by omega) (fun _ => ?_) (fun c => by first | exact absurd c (by omega) | exact c.elim | exact absurd c (by decide) | exact absurd (by assumption) c | exact absurd c (by assumption))
  exact S_vret d_Mo_setPoint_23 rfl (by decide) (by decide) hQ
set_option maxRecDepth 100000 in
set_option maxHeartbeats 4000000 in
theorem c_Mo_sumPoint (G : GX) (v : Nat → Int32) (p : Nat) (b_p : p ≤ 60) (a : Nat) (b_a : a ≤ 60) (b : Nat) (b_b : b ≤ 60) : CS G mi_Mo_sumPoint [.ref 373, .int (nI p), .int (nI a), .int (nI b)] v (fun r v' => r = none ∧ v' = v) := by
  refine CS.of (by decide) (Nat.le_of_ble_eq_true rfl) ?_
  generalize hQe : (fun (r : Option Value) (v' : Nat → Int32) => r = none ∧ v' = v) = Q
  have hQ : Q none v := by rw [← hQe]; exact ⟨rfl, rfl⟩
  clear hQe
  show ST G mi_Mo_sumPoint 0 [(0, .ref 373), (1, .int (nI p)), (2, .int (nI a)), (3, .int (nI b))] [] v 0 0 Q
  refine ST.lift (fun _ _ k => T_aload_n (v := .ref 373) d_Mo_sumPoint_0 rfl (Or.inr ⟨_, rfl⟩) k) ?_
  refine ST.lift (fun _ _ k => T_bipush (v := nI 40) d_Mo_sumPoint_1 (by decide) k) ?_
  refine ST.lift (fun _ _ k => T_iload_n d_Mo_sumPoint_3 rfl k) ?_
  refine ST.lift (fun _ _ k => T_iload_n d_Mo_sumPoint_4 rfl k) ?_
  refine ST.lift (fun _ _ k => T_iconst (v := nI 1) d_Mo_sumPoint_5 (by decide) k) ?_
  refine S_iaddN d_Mo_sumPoint_6 ?_
  refine S_virtual (as := [.int (nI 40), .int (nI a), .int (nI (b + 1))]) (rest := []) (b := 373) d_Mo_sumPoint_7 rfl (jw_Mo_mul.jo (by decide)) lm_Mo_163 ji_Mo_mul js_Mo_mul (w373 _) rfl rfl rfl (Nat.le_of_ble_eq_true rfl) (by decide) (by decide) (c_Mo_mul G v 40 (by omega) a (by omega) (b + 1) (by omega)) (fun r v' hq => ?_)
  rw [hq.1, hq.2]
  clear hq r v'
  show ST G mi_Mo_sumPoint 10 [(0, .ref 373), (1, .int (nI p)), (2, .int (nI a)), (3, .int (nI b))] [] v 0 0 _
  refine ST.lift (fun _ _ k => T_aload_n (v := .ref 373) d_Mo_sumPoint_10 rfl (Or.inr ⟨_, rfl⟩) k) ?_
  refine ST.lift (fun _ _ k => T_bipush (v := nI 41) d_Mo_sumPoint_11 (by decide) k) ?_
  refine ST.lift (fun _ _ k => T_iload_n d_Mo_sumPoint_13 rfl k) ?_
  refine ST.lift (fun _ _ k => T_iconst (v := nI 1) d_Mo_sumPoint_14 (by decide) k) ?_
  refine S_iaddN d_Mo_sumPoint_15 ?_
  refine ST.lift (fun _ _ k => T_iload_n d_Mo_sumPoint_16 rfl k) ?_
  refine S_virtual (as := [.int (nI 41), .int (nI (a + 1)), .int (nI b)]) (rest := []) (b := 373) d_Mo_sumPoint_17 rfl (jw_Mo_mul.jo (by decide)) lm_Mo_163 ji_Mo_mul js_Mo_mul (w373 _) rfl rfl rfl (Nat.le_of_ble_eq_true rfl) (by decide) (by decide) (c_Mo_mul G v 41 (by omega) (a + 1) (by omega) b (by omega)) (fun r v' hq => ?_)
  rw [hq.1, hq.2]
  clear hq r v'
  show ST G mi_Mo_sumPoint 20 [(0, .ref 373), (1, .int (nI p)), (2, .int (nI a)), (3, .int (nI b))] [] v 0 0 _
  refine ST.lift (fun _ _ k => T_aload_n (v := .ref 373) d_Mo_sumPoint_20 rfl (Or.inr ⟨_, rfl⟩) k) ?_
  refine ST.lift (fun _ _ k => T_bipush (v := nI 40) d_Mo_sumPoint_21 (by decide) k) ?_
  refine ST.lift (fun _ _ k => T_bipush (v := nI 40) d_Mo_sumPoint_23 (by decide) k) ?_
  refine ST.lift (fun _ _ k => T_bipush (v := nI 41) d_Mo_sumPoint_25 (by decide) k) ?_
  refine S_virtual (as := [.int (nI 40), .int (nI 40), .int (nI 41)]) (rest := []) (b := 373) d_Mo_sumPoint_27 rfl (jw_Mo_add.jo (by decide)) lm_Mo_182 ji_Mo_add js_Mo_add (w373 _) rfl rfl rfl (Nat.le_of_ble_eq_true rfl) (by decide) (by decide) (c_Mo_add G v 40 (by omega) 40 (by omega) 41 (by omega)) (fun r v' hq => ?_)
  rw [hq.1, hq.2]
  clear hq r v'
  show ST G mi_Mo_sumPoint 30 [(0, .ref 373), (1, .int (nI p)), (2, .int (nI a)), (3, .int (nI b))] [] v 0 0 _
  refine ST.lift (fun _ _ k => T_aload_n (v := .ref 373) d_Mo_sumPoint_30 rfl (Or.inr ⟨_, rfl⟩) k) ?_
  refine ST.lift (fun _ _ k => T_bipush (v := nI 41) d_Mo_sumPoint_31 (by decide) k) ?_
  refine ST.lift (fun _ _ k => T_iload_n d_Mo_sumPoint_33 rfl k) ?_
  refine ST.lift (fun _ _ k => T_iconst (v := nI 1) d_Mo_sumPoint_34 (by decide) k) ?_
  refine S_iaddN d_Mo_sumPoint_35 ?_
  refine ST.lift (fun _ _ k => T_iload_n d_Mo_sumPoint_36 rfl k) ?_
  refine ST.lift (fun _ _ k => T_iconst (v := nI 1) d_Mo_sumPoint_37 (by decide) k) ?_
  refine S_iaddN d_Mo_sumPoint_38 ?_
  refine S_virtual (as := [.int (nI 41), .int (nI (a + 1)), .int (nI (b + 1))]) (rest := []) (b := 373) d_Mo_sumPoint_39 rfl (jw_Mo_mul.jo (by decide)) lm_Mo_163 ji_Mo_mul js_Mo_mul (w373 _) rfl rfl rfl (Nat.le_of_ble_eq_true rfl) (by decide) (by decide) (c_Mo_mul G v 41 (by omega) (a + 1) (by omega) (b + 1) (by omega)) (fun r v' hq => ?_)
  rw [hq.1, hq.2]
  clear hq r v'
  show ST G mi_Mo_sumPoint 42 [(0, .ref 373), (1, .int (nI p)), (2, .int (nI a)), (3, .int (nI b))] [] v 0 0 _
  refine ST.lift (fun _ _ k => T_aload_n (v := .ref 373) d_Mo_sumPoint_42 rfl (Or.inr ⟨_, rfl⟩) k) ?_
  refine ST.lift (fun _ _ k => T_bipush (v := nI 42) d_Mo_sumPoint_43 (by decide) k) ?_
  refine ST.lift (fun _ _ k => T_iload_n d_Mo_sumPoint_45 rfl k) ?_
  refine ST.lift (fun _ _ k => T_iload_n d_Mo_sumPoint_46 rfl k) ?_
  refine S_virtual (as := [.int (nI 42), .int (nI a), .int (nI b)]) (rest := []) (b := 373) d_Mo_sumPoint_47 rfl (jw_Mo_mul.jo (by decide)) lm_Mo_163 ji_Mo_mul js_Mo_mul (w373 _) rfl rfl rfl (Nat.le_of_ble_eq_true rfl) (by decide) (by decide) (c_Mo_mul G v 42 (by omega) a (by omega) b (by omega)) (fun r v' hq => ?_)
  rw [hq.1, hq.2]
  clear hq r v'
  show ST G mi_Mo_sumPoint 50 [(0, .ref 373), (1, .int (nI p)), (2, .int (nI a)), (3, .int (nI b))] [] v 0 0 _
  refine ST.lift (fun _ _ k => T_aload_n (v := .ref 373) d_Mo_sumPoint_50 rfl (Or.inr ⟨_, rfl⟩) k) ?_
  refine ST.lift (fun _ _ k => T_bipush (v := nI 41) d_Mo_sumPoint_51 (by decide) k) ?_
  refine ST.lift (fun _ _ k => T_bipush (v := nI 41) d_Mo_sumPoint_53 (by decide) k) ?_
  refine ST.lift (fun _ _ k => T_bipush (v := nI 42) d_Mo_sumPoint_55 (by decide) k) ?_
  refine S_virtual (as := [.int (nI 41), .int (nI 41), .int (nI 42)]) (rest := []) (b := 373) d_Mo_sumPoint_57 rfl (jw_Mo_add.jo (by decide)) lm_Mo_182 ji_Mo_add js_Mo_add (w373 _) rfl rfl rfl (Nat.le_of_ble_eq_true rfl) (by decide) (by decide) (c_Mo_add G v 41 (by omega) 41 (by omega) 42 (by omega)) (fun r v' hq => ?_)
  rw [hq.1, hq.2]
  clear hq r v'
  show ST G mi_Mo_sumPoint 60 [(0, .ref 373), (1, .int (nI p)), (2, .int (nI a)), (3, .int (nI b))] [] v 0 0 _
  refine ST.lift (fun _ _ k => T_aload_n (v := .ref 373) d_Mo_sumPoint_60 rfl (Or.inr ⟨_, rfl⟩) k) ?_
  refine ST.lift (fun _ _ k => T_bipush (v := nI 42) d_Mo_sumPoint_61 (by decide) k) ?_
  refine ST.lift (fun _ _ k => T_iload_n d_Mo_sumPoint_63 rfl k) ?_
  refine ST.lift (fun _ _ k => T_iconst (v := nI 3) d_Mo_sumPoint_64 (by decide) k) ?_
  refine S_iaddN d_Mo_sumPoint_65 ?_
  refine ST.lift (fun _ _ k => T_iload_n d_Mo_sumPoint_66 rfl k) ?_
  refine ST.lift (fun _ _ k => T_iconst (v := nI 3) d_Mo_sumPoint_67 (by decide) k) ?_
  refine S_iaddN d_Mo_sumPoint_68 ?_
  refine S_virtual (as := [.int (nI 42), .int (nI (a + 3)), .int (nI (b + 3))]) (rest := []) (b := 373) d_Mo_sumPoint_69 rfl (jw_Mo_mul.jo (by decide)) lm_Mo_163 ji_Mo_mul js_Mo_mul (w373 _) rfl rfl rfl (Nat.le_of_ble_eq_true rfl) (by decide) (by decide) (c_Mo_mul G v 42 (by omega) (a + 3) (by omega) (b + 3) (by omega)) (fun r v' hq => ?_)
  rw [hq.1, hq.2]
  clear hq r v'
  show ST G mi_Mo_sumPoint 72 [(0, .ref 373), (1, .int (nI p)), (2, .int (nI a)), (3, .int (nI b))] [] v 0 0 _
  refine ST.lift (fun _ _ k => T_aload_n (v := .ref 373) d_Mo_sumPoint_72 rfl (Or.inr ⟨_, rfl⟩) k) ?_
  refine ST.lift (fun _ _ k => T_bipush (v := nI 42) d_Mo_sumPoint_73 (by decide) k) ?_
  refine ST.lift (fun _ _ k => T_bipush (v := nI 42) d_Mo_sumPoint_75 (by decide) k) ?_
  refine ST.lift (fun _ _ k => T_iconst (v := nI 2) d_Mo_sumPoint_77 (by decide) k) ?_
  refine S_virtual (as := [.int (nI 42), .int (nI 42), .int (nI 2)]) (rest := []) (b := 373) d_Mo_sumPoint_78 rfl (jw_Mo_mul.jo (by decide)) lm_Mo_163 ji_Mo_mul js_Mo_mul (w373 _) rfl rfl rfl (Nat.le_of_ble_eq_true rfl) (by decide) (by decide) (c_Mo_mul G v 42 (by omega) 42 (by omega) 2 (by omega)) (fun r v' hq => ?_)
  rw [hq.1, hq.2]
  clear hq r v'
  show ST G mi_Mo_sumPoint 81 [(0, .ref 373), (1, .int (nI p)), (2, .int (nI a)), (3, .int (nI b))] [] v 0 0 _
  refine ST.lift (fun _ _ k => T_aload_n (v := .ref 373) d_Mo_sumPoint_81 rfl (Or.inr ⟨_, rfl⟩) k) ?_
  refine ST.lift (fun _ _ k => T_bipush (v := nI 43) d_Mo_sumPoint_82 (by decide) k) ?_
  refine ST.lift (fun _ _ k => T_iload_n d_Mo_sumPoint_84 rfl k) ?_
  refine ST.lift (fun _ _ k => T_iconst (v := nI 2) d_Mo_sumPoint_85 (by decide) k) ?_
  refine S_iaddN d_Mo_sumPoint_86 ?_
  refine ST.lift (fun _ _ k => T_iload_n d_Mo_sumPoint_87 rfl k) ?_
  refine ST.lift (fun _ _ k => T_iconst (v := nI 2) d_Mo_sumPoint_88 (by decide) k) ?_
  refine S_iaddN d_Mo_sumPoint_89 ?_
  refine S_virtual (as := [.int (nI 43), .int (nI (a + 2)), .int (nI (b + 2))]) (rest := []) (b := 373) d_Mo_sumPoint_90 rfl (jw_Mo_mul.jo (by decide)) lm_Mo_163 ji_Mo_mul js_Mo_mul (w373 _) rfl rfl rfl (Nat.le_of_ble_eq_true rfl) (by decide) (by decide) (c_Mo_mul G v 43 (by omega) (a + 2) (by omega) (b + 2) (by omega)) (fun r v' hq => ?_)
  rw [hq.1, hq.2]
  clear hq r v'
  show ST G mi_Mo_sumPoint 93 [(0, .ref 373), (1, .int (nI p)), (2, .int (nI a)), (3, .int (nI b))] [] v 0 0 _
  refine ST.lift (fun _ _ k => T_aload_n (v := .ref 373) d_Mo_sumPoint_93 rfl (Or.inr ⟨_, rfl⟩) k) ?_
  refine ST.lift (fun _ _ k => T_bipush (v := nI 44) d_Mo_sumPoint_94 (by decide) k) ?_
  refine ST.lift (fun _ _ k => T_bipush (v := nI 43) d_Mo_sumPoint_96 (by decide) k) ?_
  refine ST.lift (fun _ _ k => T_bipush (v := nI 42) d_Mo_sumPoint_98 (by decide) k) ?_
  refine S_virtual (as := [.int (nI 44), .int (nI 43), .int (nI 42)]) (rest := []) (b := 373) d_Mo_sumPoint_100 rfl (jw_Mo_sub.jo (by decide)) lm_Mo_152 ji_Mo_sub js_Mo_sub (w373 _) rfl rfl rfl (Nat.le_of_ble_eq_true rfl) (by decide) (by decide) (c_Mo_sub G v 44 (by omega) 43 (by omega) 42 (by omega)) (fun r v' hq => ?_)
  rw [hq.1, hq.2]
  clear hq r v'
  show ST G mi_Mo_sumPoint 103 [(0, .ref 373), (1, .int (nI p)), (2, .int (nI a)), (3, .int (nI b))] [] v 0 0 _
  refine ST.lift (fun _ _ k => T_aload_n (v := .ref 373) d_Mo_sumPoint_103 rfl (Or.inr ⟨_, rfl⟩) k) ?_
  refine ST.lift (fun _ _ k => T_bipush (v := nI 45) d_Mo_sumPoint_104 (by decide) k) ?_
  refine ST.lift (fun _ _ k => T_bipush (v := nI 43) d_Mo_sumPoint_106 (by decide) k) ?_
  refine ST.lift (fun _ _ k => T_bipush (v := nI 42) d_Mo_sumPoint_108 (by decide) k) ?_
  refine S_virtual (as := [.int (nI 45), .int (nI 43), .int (nI 42)]) (rest := []) (b := 373) d_Mo_sumPoint_110 rfl (jw_Mo_add.jo (by decide)) lm_Mo_182 ji_Mo_add js_Mo_add (w373 _) rfl rfl rfl (Nat.le_of_ble_eq_true rfl) (by decide) (by decide) (c_Mo_add G v 45 (by omega) 43 (by omega) 42 (by omega)) (fun r v' hq => ?_)
  rw [hq.1, hq.2]
  clear hq r v'
  show ST G mi_Mo_sumPoint 113 [(0, .ref 373), (1, .int (nI p)), (2, .int (nI a)), (3, .int (nI b))] [] v 0 0 _
  refine ST.lift (fun _ _ k => T_aload_n (v := .ref 373) d_Mo_sumPoint_113 rfl (Or.inr ⟨_, rfl⟩) k) ?_
  refine ST.lift (fun _ _ k => T_iload_n d_Mo_sumPoint_114 rfl k) ?_
  refine ST.lift (fun _ _ k => T_bipush (v := nI 40) d_Mo_sumPoint_115 (by decide) k) ?_
  refine ST.lift (fun _ _ k => T_bipush (v := nI 44) d_Mo_sumPoint_117 (by decide) k) ?_
  refine S_virtual (as := [.int (nI p), .int (nI 40), .int (nI 44)]) (rest := []) (b := 373) d_Mo_sumPoint_119 rfl (jw_Mo_mul.jo (by decide)) lm_Mo_163 ji_Mo_mul js_Mo_mul (w373 _) rfl rfl rfl (Nat.le_of_ble_eq_true rfl) (by decide) (by decide) (c_Mo_mul G v p (by omega) 40 (by omega) 44 (by omega)) (fun r v' hq => ?_)
  rw [hq.1, hq.2]
  clear hq r v'
  show ST G mi_Mo_sumPoint 122 [(0, .ref 373), (1, .int (nI p)), (2, .int (nI a)), (3, .int (nI b))] [] v 0 0 _
  refine ST.lift (fun _ _ k => T_aload_n (v := .ref 373) d_Mo_sumPoint_122 rfl (Or.inr ⟨_, rfl⟩) k) ?_
  refine ST.lift (fun _ _ k => T_iload_n d_Mo_sumPoint_123 rfl k) ?_
  refine ST.lift (fun _ _ k => T_iconst (v := nI 1) d_Mo_sumPoint_124 (by decide) k) ?_
  refine S_iaddN d_Mo_sumPoint_125 ?_
  refine ST.lift (fun _ _ k => T_bipush (v := nI 41) d_Mo_sumPoint_126 (by decide) k) ?_
  refine ST.lift (fun _ _ k => T_bipush (v := nI 45) d_Mo_sumPoint_128 (by decide) k) ?_
  refine S_virtual (as := [.int (nI (p + 1)), .int (nI 41), .int (nI 45)]) (rest := []) (b := 373) d_Mo_sumPoint_130 rfl (jw_Mo_mul.jo (by decide)) lm_Mo_163 ji_Mo_mul js_Mo_mul (w373 _) rfl rfl rfl (Nat.le_of_ble_eq_true rfl) (by decide) (by decide) (c_Mo_mul G v (p + 1) (by omega) 41 (by omega) 45 (by omega)) (fun r v' hq => ?_)
  rw [hq.1, hq.2]
  clear hq r v'
  show ST G mi_Mo_sumPoint 133 [(0, .ref 373), (1, .int (nI p)), (2, .int (nI a)), (3, .int (nI b))] [] v 0 0 _
  refine ST.lift (fun _ _ k => T_aload_n (v := .ref 373) d_Mo_sumPoint_133 rfl (Or.inr ⟨_, rfl⟩) k) ?_
  refine ST.lift (fun _ _ k => T_iload_n d_Mo_sumPoint_134 rfl k) ?_
  refine ST.lift (fun _ _ k => T_iconst (v := nI 2) d_Mo_sumPoint_135 (by decide) k) ?_
  refine S_iaddN d_Mo_sumPoint_136 ?_
  refine ST.lift (fun _ _ k => T_bipush (v := nI 44) d_Mo_sumPoint_137 (by decide) k) ?_
  refine ST.lift (fun _ _ k => T_bipush (v := nI 45) d_Mo_sumPoint_139 (by decide) k) ?_
  refine S_virtual (as := [.int (nI (p + 2)), .int (nI 44), .int (nI 45)]) (rest := []) (b := 373) d_Mo_sumPoint_141 rfl (jw_Mo_mul.jo (by decide)) lm_Mo_163 ji_Mo_mul js_Mo_mul (w373 _) rfl rfl rfl (Nat.le_of_ble_eq_true rfl) (by decide) (by decide) (c_Mo_mul G v (p + 2) (by omega) 44 (by omega) 45 (by omega)) (fun r v' hq => ?_)
  rw [hq.1, hq.2]
  clear hq r v'
  show ST G mi_Mo_sumPoint 144 [(0, .ref 373), (1, .int (nI p)), (2, .int (nI a)), (3, .int (nI b))] [] v 0 0 _
  refine ST.lift (fun _ _ k => T_aload_n (v := .ref 373) d_Mo_sumPoint_144 rfl (Or.inr ⟨_, rfl⟩) k) ?_
  refine ST.lift (fun _ _ k => T_iload_n d_Mo_sumPoint_145 rfl k) ?_
  refine ST.lift (fun _ _ k => T_iconst (v := nI 3) d_Mo_sumPoint_146 (by decide) k) ?_
  refine S_iaddN d_Mo_sumPoint_147 ?_
  refine ST.lift (fun _ _ k => T_bipush (v := nI 40) d_Mo_sumPoint_148 (by decide) k) ?_
  refine ST.lift (fun _ _ k => T_bipush (v := nI 41) d_Mo_sumPoint_150 (by decide) k) ?_
  refine S_virtual (as := [.int (nI (p + 3)), .int (nI 40), .int (nI 41)]) (rest := []) (b := 373) d_Mo_sumPoint_152 rfl (jw_Mo_mul.jo (by decide)) lm_Mo_163 ji_Mo_mul js_Mo_mul (w373 _) rfl rfl rfl (Nat.le_of_ble_eq_true rfl) (by decide) (by decide) (c_Mo_mul G v (p + 3) (by omega) 40 (by omega) 41 (by omega)) (fun r v' hq => ?_)
  rw [hq.1, hq.2]
  clear hq r v'
  show ST G mi_Mo_sumPoint 155 [(0, .ref 373), (1, .int (nI p)), (2, .int (nI a)), (3, .int (nI b))] [] v 0 0 _
  exact S_vret d_Mo_sumPoint_155 rfl (by decide) (by decide) hQ
set_option maxRecDepth 100000 in
set_option maxHeartbeats 4000000 in
theorem c_Mo_timesPoint (G : GX) (v : Nat → Int32) (p : Nat) (b_p : p ≤ 60) (a : Nat) (b_a : a ≤ 60) : CS G mi_Mo_timesPoint [.ref 373, .int (nI p), .int (nI a)] v (fun r v' => r = none ∧ v' = v) := by
  refine CS.of (by decide) (Nat.le_of_ble_eq_true rfl) ?_
  generalize hQe : (fun (r : Option Value) (v' : Nat → Int32) => r = none ∧ v' = v) = Q
  have hQ : Q none v := by rw [← hQe]; exact ⟨rfl, rfl⟩
  clear hQe
  show ST G mi_Mo_timesPoint 0 [(0, .ref 373), (1, .int (nI p)), (2, .int (nI a))] [] v 0 0 Q
  refine ST.lift (fun _ _ k => T_aload_n (v := .ref 373) d_Mo_timesPoint_0 rfl (Or.inr ⟨_, rfl⟩) k) ?_
  refine ST.lift (fun _ _ k => T_bipush (v := nI 36) d_Mo_timesPoint_1 (by decide) k) ?_
  refine ST.lift (fun _ _ k => T_iload_n d_Mo_timesPoint_3 rfl k) ?_
  refine S_virtual (as := [.int (nI 36), .int (nI a)]) (rest := []) (b := 373) d_Mo_timesPoint_4 rfl (jw_Mo_setPoint.jo (by decide)) lm_Mo_185 ji_Mo_setPoint js_Mo_setPoint (w373 _) rfl rfl rfl (Nat.le_of_ble_eq_true rfl) (by decide) (by decide) (c_Mo_setPoint G v 36 (by omega) a (by omega)) (fun r v' hq => ?_)
  rw [hq.1, hq.2]
  clear hq r v'
  show ST G mi_Mo_timesPoint 7 [(0, .ref 373), (1, .int (nI p)), (2, .int (nI a))] [] v 0 0 _
  refine ST.lift (fun _ _ k => T_aload_n (v := .ref 373) d_Mo_timesPoint_7 rfl (Or.inr ⟨_, rfl⟩) k) ?_
  refine ST.lift (fun _ _ k => T_bipush (v := nI 32) d_Mo_timesPoint_8 (by decide) k) ?_
  refine S_virtual (as := [.int (nI 32)]) (rest := []) (b := 373) d_Mo_timesPoint_10 rfl (jw_Mo_zeroPoint.jo (by decide)) lm_Mo_188 ji_Mo_zeroPoint js_Mo_zeroPoint (w373 _) rfl rfl rfl (Nat.le_of_ble_eq_true rfl) (by decide) (by decide) (c_Mo_zeroPoint G v 32 (by omega)) (fun r v' hq => ?_)
  rw [hq.1, hq.2]
  clear hq r v'
  show ST G mi_Mo_timesPoint 13 [(0, .ref 373), (1, .int (nI p)), (2, .int (nI a))] [] v 0 0 _
  refine ST.lift (fun _ _ k => T_sipush (v := nI 255) d_Mo_timesPoint_13 (by decide) k) ?_
  refine ST.lift (fun _ _ k => T_istore_n (L' := [(3, .int (nI 255)), (0, .ref 373), (1, .int (nI p)), (2, .int (nI a))]) d_Mo_timesPoint_16 (by decide) rfl k) ?_
  have lp4 : ∀ (n2 k1 : Nat), k1 = n2 → k1 ≤ (255 + 1) → ST G mi_Mo_timesPoint 17 [(3, .int (nI k1 - 1)), (0, .ref 373), (1, .int (nI p)), (2, .int (nI a))] [] v 0 0 Q := by
    intro n2
    induction n2 using Nat.strongRecOn with
    | _ n2 ih3 =>
      intro k1 h5 h6
      refine ST.lift (fun _ _ k => T_iload_n d_Mo_timesPoint_17 rfl k) ?_
      refine S_if_ltD d_Mo_timesPoint_18 rfl (by omega) (fun h8 => ?_) (fun b7 h8 => ?_)
      · refine ST.lift (fun _ _ k => T_aload_n (v := .ref 373) d_Mo_timesPoint_68 rfl (Or.inr ⟨_, rfl⟩) k) ?_
        refine ST.lift (fun _ _ k => T_iload_n d_Mo_timesPoint_69 rfl k) ?_
        refine ST.lift (fun _ _ k => T_bipush (v := nI 32) d_Mo_timesPoint_70 (by decide) k) ?_
        refine S_virtual (as := [.int (nI p), .int (nI 32)]) (rest := []) (b := 373) d_Mo_timesPoint_72 rfl (jw_Mo_setPoint.jo (by decide)) lm_Mo_185 ji_Mo_setPoint js_Mo_setPoint (w373 _) rfl rfl rfl (Nat.le_of_ble_eq_true rfl) (by decide) (by decide) (c_Mo_setPoint G v p (by omega) 32 (by omega)) (fun r v' hq => ?_)
        rw [hq.1, hq.2]
        clear hq r v'
        show ST G mi_Mo_timesPoint 75 [(3, .int (nI k1 - 1)), (0, .ref 373), (1, .int (nI p)), (2, .int (nI a))] [] v 0 0 _
        exact S_vret d_Mo_timesPoint_75 rfl (by decide) (by decide) hQ
      · subst h8
        refine S_loc (L' := [(3, .int (nI b7)), (0, .ref 373), (1, .int (nI p)), (2, .int (nI a))]) (by rw [nI_pred]) ?_
        refine ST.lift (fun _ _ k => T_aload_n (v := .ref 373) d_Mo_timesPoint_21 rfl (Or.inr ⟨_, rfl⟩) k) ?_
        refine ST.lift (fun _ _ k => T_bipush (v := nI 32) d_Mo_timesPoint_22 (by decide) k) ?_
        refine ST.lift (fun _ _ k => T_bipush (v := nI 32) d_Mo_timesPoint_24 (by decide) k) ?_
        refine ST.lift (fun _ _ k => T_bipush (v := nI 32) d_Mo_timesPoint_26 (by decide) k) ?_
        refine S_virtual (as := [.int (nI 32), .int (nI 32), .int (nI 32)]) (rest := []) (b := 373) d_Mo_timesPoint_28 rfl (jw_Mo_sumPoint.jo (by decide)) lm_Mo_191 ji_Mo_sumPoint js_Mo_sumPoint (w373 _) rfl rfl rfl (Nat.le_of_ble_eq_true rfl) (by decide) (by decide) (c_Mo_sumPoint G v 32 (by omega) 32 (by omega) 32 (by omega)) (fun r v' hq => ?_)
        rw [hq.1, hq.2]
        clear hq r v'
        show ST G mi_Mo_timesPoint 31 [(3, .int (nI b7)), (0, .ref 373), (1, .int (nI p)), (2, .int (nI a))] [] v 0 0 _
        refine ST.lift (fun _ _ k => T_aload_n (v := .ref 373) d_Mo_timesPoint_31 rfl (Or.inr ⟨_, rfl⟩) k) ?_
        refine S_getfield d_Mo_timesPoint_32 fg_Mo_194 (w373 _) rfl ?_
        refine ST.lift (fun _ _ k => T_iload_n d_Mo_timesPoint_35 rfl k) ?_
        refine ST.lift (fun _ _ k => T_bipush (v := nI 16) d_Mo_timesPoint_36 (by decide) k) ?_
        refine S_idivN d_Mo_timesPoint_38 (by omega) (by omega) (by omega) ?_
        refine S_laload d_Mo_timesPoint_39 a395 (vp_in_nI (by omega) (by omega)) (fun z9 => ?_)
        refine ST.lift (fun _ _ k => T_iload_n d_Mo_timesPoint_40 rfl k) ?_
        refine ST.lift (fun _ _ k => T_bipush (v := nI 16) d_Mo_timesPoint_41 (by decide) k) ?_
        refine S_iremN d_Mo_timesPoint_43 (by omega) (by omega) (by omega) ?_
        refine ST.lift (fun _ _ k => T_lshr d_Mo_timesPoint_44 k) (S_anyl fun z10 => ?_)
        refine ST.lift (fun _ _ k => T_lconst (v := 1) d_Mo_timesPoint_45 (by decide) k) ?_
        refine ST.lift (fun _ _ k => T_land d_Mo_timesPoint_46 k) (S_anyl fun z11 => ?_)
        refine ST.lift (fun _ _ k => T_lconst (v := 1) d_Mo_timesPoint_47 (by decide) k) ?_
        refine ST.lift (fun _ _ k => T_lcmp d_Mo_timesPoint_48 k) (S_anyi fun z12 => ?_)
        have J62_14 : ST G mi_Mo_timesPoint 62 [(3, .int (nI b7)), (0, .ref 373), (1, .int (nI p)), (2, .int (nI a))] [] v 0 0 Q := by
          refine S_iincD (a := b7) (L' := [(3, .int (nI b7 - 1)), (0, .ref 373), (1, .int (nI p)), (2, .int (nI a))]) d_Mo_timesPoint_62 (by decide) rfl rfl ?_
          refine ST.lift (fun _ _ k => T_goto (tgt := 17) d_Mo_timesPoint_65 rfl k) ?_
          exact ih3 b7 (by omega) b7  rfl (by omega)
        refine S_if_ne d_Mo_timesPoint_49 rfl (fun c13 => ?_) (fun c13 => ?_)
        · exact J62_14 
        · refine ST.lift (fun _ _ k => T_aload_n (v := .ref 373) d_Mo_timesPoint_52 rfl (Or.inr ⟨_, rfl⟩) k) ?_
          refine ST.lift (fun _ _ k => T_bipush (v := nI 32) d_Mo_timesPoint_53 (by decide) k) ?_
          refine ST.lift (fun _ _ k => T_bipush (v := nI 32) d_Mo_timesPoint_55 (by decide) k) ?_
          refine ST.lift (fun _ _ k => T_bipush (v := nI 36) d_Mo_timesPoint_57 (by decide) k) ?_
          refine S_virtual (as := [.int (nI 32), .int (nI 32), .int (nI 36)]) (rest := []) (b := 373) d_Mo_timesPoint_59 rfl (jw_Mo_sumPoint.jo (by decide)) lm_Mo_191 ji_Mo_sumPoint js_Mo_sumPoint (w373 _) rfl rfl rfl (Nat.le_of_ble_eq_true rfl) (by decide) (by decide) (c_Mo_sumPoint G v 32 (by omega) 32 (by omega) 36 (by omega)) (fun r v' hq => ?_)
          rw [hq.1, hq.2]
          clear hq r v'
          show ST G mi_Mo_timesPoint 62 [(3, .int (nI b7)), (0, .ref 373), (1, .int (nI p)), (2, .int (nI a))] [] v 0 0 _
          exact J62_14 
  have e_lp4 : nI 255 = nI (255 + 1) - 1 := (nI_pred _).symm
  refine S_loc (L' := [(3, .int (nI (255 + 1) - 1)), (0, .ref 373), (1, .int (nI p)), (2, .int (nI a))]) (by rw [← e_lp4]) ?_
  exact lp4 _ (255 + 1)  rfl (by omega)
set_option maxRecDepth 100000 in
set_option maxHeartbeats 4000000 in
theorem c_Mo_code (G : GX) (v : Nat → Int32) (p : Nat) (b_p : p ≤ 60) : CS G mi_Mo_code [.ref 373, .int (nI p)] v (fun r v' => r = none ∧ v' = v) := by
  refine CS.of (by decide) (Nat.le_of_ble_eq_true rfl) ?_
  generalize hQe : (fun (r : Option Value) (v' : Nat → Int32) => r = none ∧ v' = v) = Q
  have hQ : Q none v := by rw [← hQe]; exact ⟨rfl, rfl⟩
  clear hQe
  show ST G mi_Mo_code 0 [(0, .ref 373), (1, .int (nI p))] [] v 0 0 Q
  refine ST.lift (fun _ _ k => T_aload_n (v := .ref 373) d_Mo_code_0 rfl (Or.inr ⟨_, rfl⟩) k) ?_
  refine ST.lift (fun _ _ k => T_bipush (v := nI 20) d_Mo_code_1 (by decide) k) ?_
  refine ST.lift (fun _ _ k => T_iload_n d_Mo_code_3 rfl k) ?_
  refine ST.lift (fun _ _ k => T_iconst (v := nI 2) d_Mo_code_4 (by decide) k) ?_
  refine S_iaddN d_Mo_code_5 ?_
  refine ST.lift (fun _ _ k => T_iload_n d_Mo_code_6 rfl k) ?_
  refine ST.lift (fun _ _ k => T_iconst (v := nI 1) d_Mo_code_7 (by decide) k) ?_
  refine S_iaddN d_Mo_code_8 ?_
  refine S_virtual (as := [.int (nI 20), .int (nI (p + 2)), .int (nI (p + 1))]) (rest := []) (b := 373) d_Mo_code_9 rfl (jw_Mo_add.jo (by decide)) lm_Mo_182 ji_Mo_add js_Mo_add (w373 _) rfl rfl rfl (Nat.le_of_ble_eq_true rfl) (by decide) (by decide) (c_Mo_add G v 20 (by omega) (p + 2) (by omega) (p + 1) (by omega)) (fun r v' hq => ?_)
  rw [hq.1, hq.2]
  clear hq r v'
  show ST G mi_Mo_code 12 [(0, .ref 373), (1, .int (nI p))] [] v 0 0 _
  refine ST.lift (fun _ _ k => T_aload_n (v := .ref 373) d_Mo_code_12 rfl (Or.inr ⟨_, rfl⟩) k) ?_
  refine ST.lift (fun _ _ k => T_bipush (v := nI 21) d_Mo_code_13 (by decide) k) ?_
  refine ST.lift (fun _ _ k => T_iload_n d_Mo_code_15 rfl k) ?_
  refine ST.lift (fun _ _ k => T_iconst (v := nI 2) d_Mo_code_16 (by decide) k) ?_
  refine S_iaddN d_Mo_code_17 ?_
  refine ST.lift (fun _ _ k => T_iload_n d_Mo_code_18 rfl k) ?_
  refine ST.lift (fun _ _ k => T_iconst (v := nI 1) d_Mo_code_19 (by decide) k) ?_
  refine S_iaddN d_Mo_code_20 ?_
  refine S_virtual (as := [.int (nI 21), .int (nI (p + 2)), .int (nI (p + 1))]) (rest := []) (b := 373) d_Mo_code_21 rfl (jw_Mo_sub.jo (by decide)) lm_Mo_152 ji_Mo_sub js_Mo_sub (w373 _) rfl rfl rfl (Nat.le_of_ble_eq_true rfl) (by decide) (by decide) (c_Mo_sub G v 21 (by omega) (p + 2) (by omega) (p + 1) (by omega)) (fun r v' hq => ?_)
  rw [hq.1, hq.2]
  clear hq r v'
  show ST G mi_Mo_code 24 [(0, .ref 373), (1, .int (nI p))] [] v 0 0 _
  refine ST.lift (fun _ _ k => T_aload_n (v := .ref 373) d_Mo_code_24 rfl (Or.inr ⟨_, rfl⟩) k) ?_
  refine ST.lift (fun _ _ k => T_bipush (v := nI 20) d_Mo_code_25 (by decide) k) ?_
  refine ST.lift (fun _ _ k => T_bipush (v := nI 20) d_Mo_code_27 (by decide) k) ?_
  refine ST.lift (fun _ _ k => T_bipush (v := nI 21) d_Mo_code_29 (by decide) k) ?_
  refine S_virtual (as := [.int (nI 20), .int (nI 20), .int (nI 21)]) (rest := []) (b := 373) d_Mo_code_31 rfl (jw_Mo_mul.jo (by decide)) lm_Mo_163 ji_Mo_mul js_Mo_mul (w373 _) rfl rfl rfl (Nat.le_of_ble_eq_true rfl) (by decide) (by decide) (c_Mo_mul G v 20 (by omega) 20 (by omega) 21 (by omega)) (fun r v' hq => ?_)
  rw [hq.1, hq.2]
  clear hq r v'
  show ST G mi_Mo_code 34 [(0, .ref 373), (1, .int (nI p))] [] v 0 0 _
  refine ST.lift (fun _ _ k => T_aload_n (v := .ref 373) d_Mo_code_34 rfl (Or.inr ⟨_, rfl⟩) k) ?_
  refine ST.lift (fun _ _ k => T_bipush (v := nI 21) d_Mo_code_35 (by decide) k) ?_
  refine ST.lift (fun _ _ k => T_iload_n d_Mo_code_37 rfl k) ?_
  refine ST.lift (fun _ _ k => T_iload_n d_Mo_code_38 rfl k) ?_
  refine ST.lift (fun _ _ k => T_iconst (v := nI 1) d_Mo_code_39 (by decide) k) ?_
  refine S_iaddN d_Mo_code_40 ?_
  refine S_virtual (as := [.int (nI 21), .int (nI p), .int (nI (p + 1))]) (rest := []) (b := 373) d_Mo_code_41 rfl (jw_Mo_mul.jo (by decide)) lm_Mo_163 ji_Mo_mul js_Mo_mul (w373 _) rfl rfl rfl (Nat.le_of_ble_eq_true rfl) (by decide) (by decide) (c_Mo_mul G v 21 (by omega) p (by omega) (p + 1) (by omega)) (fun r v' hq => ?_)
  rw [hq.1, hq.2]
  clear hq r v'
  show ST G mi_Mo_code 44 [(0, .ref 373), (1, .int (nI p))] [] v 0 0 _
  refine ST.lift (fun _ _ k => T_aload_n (v := .ref 373) d_Mo_code_44 rfl (Or.inr ⟨_, rfl⟩) k) ?_
  refine ST.lift (fun _ _ k => T_bipush (v := nI 22) d_Mo_code_45 (by decide) k) ?_
  refine ST.lift (fun _ _ k => T_bipush (v := nI 21) d_Mo_code_47 (by decide) k) ?_
  refine ST.lift (fun _ _ k => T_bipush (v := nI 21) d_Mo_code_49 (by decide) k) ?_
  refine S_virtual (as := [.int (nI 22), .int (nI 21), .int (nI 21)]) (rest := []) (b := 373) d_Mo_code_51 rfl (jw_Mo_mul.jo (by decide)) lm_Mo_163 ji_Mo_mul js_Mo_mul (w373 _) rfl rfl rfl (Nat.le_of_ble_eq_true rfl) (by decide) (by decide) (c_Mo_mul G v 22 (by omega) 21 (by omega) 21 (by omega)) (fun r v' hq => ?_)
  rw [hq.1, hq.2]
  clear hq r v'
  show ST G mi_Mo_code 54 [(0, .ref 373), (1, .int (nI p))] [] v 0 0 _
  refine ST.lift (fun _ _ k => T_aload_n (v := .ref 373) d_Mo_code_54 rfl (Or.inr ⟨_, rfl⟩) k) ?_
  refine ST.lift (fun _ _ k => T_bipush (v := nI 22) d_Mo_code_55 (by decide) k) ?_
  refine ST.lift (fun _ _ k => T_bipush (v := nI 22) d_Mo_code_57 (by decide) k) ?_
  refine ST.lift (fun _ _ k => T_bipush (v := nI 20) d_Mo_code_59 (by decide) k) ?_
  refine S_virtual (as := [.int (nI 22), .int (nI 22), .int (nI 20)]) (rest := []) (b := 373) d_Mo_code_61 rfl (jw_Mo_mul.jo (by decide)) lm_Mo_163 ji_Mo_mul js_Mo_mul (w373 _) rfl rfl rfl (Nat.le_of_ble_eq_true rfl) (by decide) (by decide) (c_Mo_mul G v 22 (by omega) 22 (by omega) 20 (by omega)) (fun r v' hq => ?_)
  rw [hq.1, hq.2]
  clear hq r v'
  show ST G mi_Mo_code 64 [(0, .ref 373), (1, .int (nI p))] [] v 0 0 _
  refine ST.lift (fun _ _ k => T_aload_n (v := .ref 373) d_Mo_code_64 rfl (Or.inr ⟨_, rfl⟩) k) ?_
  refine ST.lift (fun _ _ k => T_bipush (v := nI 22) d_Mo_code_65 (by decide) k) ?_
  refine ST.lift (fun _ _ k => T_iconst (v := nI 1) d_Mo_code_67 (by decide) k) ?_
  refine ST.lift (fun _ _ k => T_bipush (v := nI 22) d_Mo_code_68 (by decide) k) ?_
  refine S_virtual (as := [.int (nI 22), .int (nI 1), .int (nI 22)]) (rest := []) (b := 373) d_Mo_code_70 rfl (jw_Mo_root.jo (by decide)) lm_Mo_197 ji_Mo_root js_Mo_root (w373 _) rfl rfl rfl (Nat.le_of_ble_eq_true rfl) (by decide) (by decide) (c_Mo_root G v 22 (by omega) 1 (by omega) 22 (by omega)) (fun r v' hq => ?_)
  obtain ⟨z1, hz1, hr, hv⟩ := hq
  rw [hr, hv]
  clear hr hv r v'
  show ST G mi_Mo_code 73 [(0, .ref 373), (1, .int (nI p))] [.int (nI z1)] v 0 0 _
  refine ST.lift (fun _ _ k => T_pop d_Mo_code_73 rfl k) ?_
  refine ST.lift (fun _ _ k => T_aload_n (v := .ref 373) d_Mo_code_74 rfl (Or.inr ⟨_, rfl⟩) k) ?_
  refine ST.lift (fun _ _ k => T_bipush (v := nI 23) d_Mo_code_75 (by decide) k) ?_
  refine ST.lift (fun _ _ k => T_bipush (v := nI 22) d_Mo_code_77 (by decide) k) ?_
  refine ST.lift (fun _ _ k => T_bipush (v := nI 20) d_Mo_code_79 (by decide) k) ?_
  refine S_virtual (as := [.int (nI 23), .int (nI 22), .int (nI 20)]) (rest := []) (b := 373) d_Mo_code_81 rfl (jw_Mo_mul.jo (by decide)) lm_Mo_163 ji_Mo_mul js_Mo_mul (w373 _) rfl rfl rfl (Nat.le_of_ble_eq_true rfl) (by decide) (by decide) (c_Mo_mul G v 23 (by omega) 22 (by omega) 20 (by omega)) (fun r v' hq => ?_)
  rw [hq.1, hq.2]
  clear hq r v'
  show ST G mi_Mo_code 84 [(0, .ref 373), (1, .int (nI p))] [] v 0 0 _
  refine ST.lift (fun _ _ k => T_aload_n (v := .ref 373) d_Mo_code_84 rfl (Or.inr ⟨_, rfl⟩) k) ?_
  refine ST.lift (fun _ _ k => T_bipush (v := nI 24) d_Mo_code_85 (by decide) k) ?_
  refine ST.lift (fun _ _ k => T_bipush (v := nI 22) d_Mo_code_87 (by decide) k) ?_
  refine ST.lift (fun _ _ k => T_bipush (v := nI 21) d_Mo_code_89 (by decide) k) ?_
  refine S_virtual (as := [.int (nI 24), .int (nI 22), .int (nI 21)]) (rest := []) (b := 373) d_Mo_code_91 rfl (jw_Mo_mul.jo (by decide)) lm_Mo_163 ji_Mo_mul js_Mo_mul (w373 _) rfl rfl rfl (Nat.le_of_ble_eq_true rfl) (by decide) (by decide) (c_Mo_mul G v 24 (by omega) 22 (by omega) 21 (by omega)) (fun r v' hq => ?_)
  rw [hq.1, hq.2]
  clear hq r v'
  show ST G mi_Mo_code 94 [(0, .ref 373), (1, .int (nI p))] [] v 0 0 _
  refine ST.lift (fun _ _ k => T_aload_n (v := .ref 373) d_Mo_code_94 rfl (Or.inr ⟨_, rfl⟩) k) ?_
  refine ST.lift (fun _ _ k => T_bipush (v := nI 25) d_Mo_code_95 (by decide) k) ?_
  refine ST.lift (fun _ _ k => T_bipush (v := nI 23) d_Mo_code_97 (by decide) k) ?_
  refine ST.lift (fun _ _ k => T_bipush (v := nI 24) d_Mo_code_99 (by decide) k) ?_
  refine S_virtual (as := [.int (nI 25), .int (nI 23), .int (nI 24)]) (rest := []) (b := 373) d_Mo_code_101 rfl (jw_Mo_mul.jo (by decide)) lm_Mo_163 ji_Mo_mul js_Mo_mul (w373 _) rfl rfl rfl (Nat.le_of_ble_eq_true rfl) (by decide) (by decide) (c_Mo_mul G v 25 (by omega) 23 (by omega) 24 (by omega)) (fun r v' hq => ?_)
  rw [hq.1, hq.2]
  clear hq r v'
  show ST G mi_Mo_code 104 [(0, .ref 373), (1, .int (nI p))] [] v 0 0 _
  refine ST.lift (fun _ _ k => T_aload_n (v := .ref 373) d_Mo_code_104 rfl (Or.inr ⟨_, rfl⟩) k) ?_
  refine ST.lift (fun _ _ k => T_bipush (v := nI 25) d_Mo_code_105 (by decide) k) ?_
  refine ST.lift (fun _ _ k => T_bipush (v := nI 25) d_Mo_code_107 (by decide) k) ?_
  refine ST.lift (fun _ _ k => T_iload_n d_Mo_code_109 rfl k) ?_
  refine ST.lift (fun _ _ k => T_iconst (v := nI 3) d_Mo_code_110 (by decide) k) ?_
  refine S_iaddN d_Mo_code_111 ?_
  refine S_virtual (as := [.int (nI 25), .int (nI 25), .int (nI (p + 3))]) (rest := []) (b := 373) d_Mo_code_112 rfl (jw_Mo_mul.jo (by decide)) lm_Mo_163 ji_Mo_mul js_Mo_mul (w373 _) rfl rfl rfl (Nat.le_of_ble_eq_true rfl) (by decide) (by decide) (c_Mo_mul G v 25 (by omega) 25 (by omega) (p + 3) (by omega)) (fun r v' hq => ?_)
  rw [hq.1, hq.2]
  clear hq r v'
  show ST G mi_Mo_code 115 [(0, .ref 373), (1, .int (nI p))] [] v 0 0 _
  refine ST.lift (fun _ _ k => T_aload_n (v := .ref 373) d_Mo_code_115 rfl (Or.inr ⟨_, rfl⟩) k) ?_
  refine ST.lift (fun _ _ k => T_bipush (v := nI 26) d_Mo_code_116 (by decide) k) ?_
  refine ST.lift (fun _ _ k => T_iload_n d_Mo_code_118 rfl k) ?_
  refine ST.lift (fun _ _ k => T_iconst (v := nI 3) d_Mo_code_119 (by decide) k) ?_
  refine S_iaddN d_Mo_code_120 ?_
  refine ST.lift (fun _ _ k => T_bipush (v := nI 25) d_Mo_code_121 (by decide) k) ?_
  refine S_virtual (as := [.int (nI 26), .int (nI (p + 3)), .int (nI 25)]) (rest := []) (b := 373) d_Mo_code_123 rfl (jw_Mo_mul.jo (by decide)) lm_Mo_163 ji_Mo_mul js_Mo_mul (w373 _) rfl rfl rfl (Nat.le_of_ble_eq_true rfl) (by decide) (by decide) (c_Mo_mul G v 26 (by omega) (p + 3) (by omega) 25 (by omega)) (fun r v' hq => ?_)
  rw [hq.1, hq.2]
  clear hq r v'
  show ST G mi_Mo_code 126 [(0, .ref 373), (1, .int (nI p))] [] v 0 0 _
  refine ST.lift (fun _ _ k => T_aload_n (v := .ref 373) d_Mo_code_126 rfl (Or.inr ⟨_, rfl⟩) k) ?_
  refine ST.lift (fun _ _ k => T_bipush (v := nI 26) d_Mo_code_127 (by decide) k) ?_
  refine S_virtual (as := [.int (nI 26)]) (rest := []) (b := 373) d_Mo_code_129 rfl (jw_Mo_odd.jo (by decide)) lm_Mo_174 ji_Mo_odd js_Mo_odd (w373 _) rfl rfl rfl (Nat.le_of_ble_eq_true rfl) (by decide) (by decide) (c_Mo_odd G v 26 (by omega)) (fun r v' hq => ?_)
  obtain ⟨z2, hz2, hr, hv⟩ := hq
  rw [hr, hv]
  clear hr hv r v'
  show ST G mi_Mo_code 132 [(0, .ref 373), (1, .int (nI p))] [.int (nI z2)] v 0 0 _
  have J189_4 : ST G mi_Mo_code 189 [(0, .ref 373), (1, .int (nI p))] [] v 0 0 Q := by
    refine ST.lift (fun _ _ k => T_aload_n (v := .ref 373) d_Mo_code_189 rfl (Or.inr ⟨_, rfl⟩) k) ?_
    refine ST.lift (fun _ _ k => T_bipush (v := nI 26) d_Mo_code_190 (by decide) k) ?_
    refine ST.lift (fun _ _ k => T_bipush (v := nI 27) d_Mo_code_192 (by decide) k) ?_
    refine ST.lift (fun _ _ k => T_bipush (v := nI 25) d_Mo_code_194 (by decide) k) ?_
    refine S_virtual (as := [.int (nI 26), .int (nI 27), .int (nI 25)]) (rest := []) (b := 373) d_Mo_code_196 rfl (jw_Mo_mul.jo (by decide)) lm_Mo_163 ji_Mo_mul js_Mo_mul (w373 _) rfl rfl rfl (Nat.le_of_ble_eq_true rfl) (by decide) (by decide) (c_Mo_mul G v 26 (by omega) 27 (by omega) 25 (by omega)) (fun r v' hq => ?_)
    rw [hq.1, hq.2]
    clear hq r v'
    show ST G mi_Mo_code 199 [(0, .ref 373), (1, .int (nI p))] [] v 0 0 _
    refine ST.lift (fun _ _ k => T_aload_n (v := .ref 373) d_Mo_code_199 rfl (Or.inr ⟨_, rfl⟩) k) ?_
    refine ST.lift (fun _ _ k => T_bipush (v := nI 26) d_Mo_code_200 (by decide) k) ?_
    refine S_virtual (as := [.int (nI 26)]) (rest := []) (b := 373) d_Mo_code_202 rfl (jw_Mo_odd.jo (by decide)) lm_Mo_174 ji_Mo_odd js_Mo_odd (w373 _) rfl rfl rfl (Nat.le_of_ble_eq_true rfl) (by decide) (by decide) (c_Mo_odd G v 26 (by omega)) (fun r v' hq => ?_)
    obtain ⟨z5, hz5, hr, hv⟩ := hq
    rw [hr, hv]
    clear hr hv r v'
    show ST G mi_Mo_code 205 [(0, .ref 373), (1, .int (nI p))] [.int (nI z5)] v 0 0 _
    have J217_7 : ST G mi_Mo_code 217 [(0, .ref 373), (1, .int (nI p))] [] v 0 0 Q := by
      refine ST.lift (fun _ _ k => T_aload_n (v := .ref 373) d_Mo_code_217 rfl (Or.inr ⟨_, rfl⟩) k) ?_
      refine ST.lift (fun _ _ k => T_bipush (v := nI 28) d_Mo_code_218 (by decide) k) ?_
      refine ST.lift (fun _ _ k => T_iload_n d_Mo_code_220 rfl k) ?_
      refine ST.lift (fun _ _ k => T_iconst (v := nI 2) d_Mo_code_221 (by decide) k) ?_
      refine S_iaddN d_Mo_code_222 ?_
      refine ST.lift (fun _ _ k => T_bipush (v := nI 28) d_Mo_code_223 (by decide) k) ?_
      refine S_virtual (as := [.int (nI 28), .int (nI (p + 2)), .int (nI 28)]) (rest := []) (b := 373) d_Mo_code_225 rfl (jw_Mo_sub.jo (by decide)) lm_Mo_152 ji_Mo_sub js_Mo_sub (w373 _) rfl rfl rfl (Nat.le_of_ble_eq_true rfl) (by decide) (by decide) (c_Mo_sub G v 28 (by omega) (p + 2) (by omega) 28 (by omega)) (fun r v' hq => ?_)
      rw [hq.1, hq.2]
      clear hq r v'
      show ST G mi_Mo_code 228 [(0, .ref 373), (1, .int (nI p))] [] v 0 0 _
      refine ST.lift (fun _ _ k => T_aload_n (v := .ref 373) d_Mo_code_228 rfl (Or.inr ⟨_, rfl⟩) k) ?_
      refine ST.lift (fun _ _ k => T_bipush (v := nI 29) d_Mo_code_229 (by decide) k) ?_
      refine ST.lift (fun _ _ k => T_bipush (v := nI 29) d_Mo_code_231 (by decide) k) ?_
      refine ST.lift (fun _ _ k => T_bipush (v := nI 28) d_Mo_code_233 (by decide) k) ?_
      refine S_virtual (as := [.int (nI 29), .int (nI 29), .int (nI 28)]) (rest := []) (b := 373) d_Mo_code_235 rfl (jw_Mo_mul.jo (by decide)) lm_Mo_163 ji_Mo_mul js_Mo_mul (w373 _) rfl rfl rfl (Nat.le_of_ble_eq_true rfl) (by decide) (by decide) (c_Mo_mul G v 29 (by omega) 29 (by omega) 28 (by omega)) (fun r v' hq => ?_)
      rw [hq.1, hq.2]
      clear hq r v'
      show ST G mi_Mo_code 238 [(0, .ref 373), (1, .int (nI p))] [] v 0 0 _
      refine ST.lift (fun _ _ k => T_aload_n (v := .ref 373) d_Mo_code_238 rfl (Or.inr ⟨_, rfl⟩) k) ?_
      refine ST.lift (fun _ _ k => T_bipush (v := nI 29) d_Mo_code_239 (by decide) k) ?_
      refine S_virtual (as := [.int (nI 29)]) (rest := []) (b := 373) d_Mo_code_241 rfl (jw_Mo_odd.jo (by decide)) lm_Mo_174 ji_Mo_odd js_Mo_odd (w373 _) rfl rfl rfl (Nat.le_of_ble_eq_true rfl) (by decide) (by decide) (c_Mo_odd G v 29 (by omega)) (fun r v' hq => ?_)
      obtain ⟨z8, hz8, hr, hv⟩ := hq
      rw [hr, hv]
      clear hr hv r v'
      show ST G mi_Mo_code 244 [(0, .ref 373), (1, .int (nI p))] [.int (nI z8)] v 0 0 _
      have J256_10 : ST G mi_Mo_code 256 [(0, .ref 373), (1, .int (nI p))] [] v 0 0 Q := by
        refine ST.lift (fun _ _ k => T_aload_n (v := .ref 373) d_Mo_code_256 rfl (Or.inr ⟨_, rfl⟩) k) ?_
        refine ST.lift (fun _ _ k => T_bipush (v := nI 29) d_Mo_code_257 (by decide) k) ?_
        refine S_virtual (as := [.int (nI 29)]) (rest := []) (b := 373) d_Mo_code_259 rfl (jw_Mo_pack.jo (by decide)) lm_Mo_149 ji_Mo_pack js_Mo_pack (w373 _) rfl rfl rfl (Nat.le_of_ble_eq_true rfl) (by decide) (by decide) (c_Mo_pack G v 29 (by omega)) (fun r v' hq => ?_)
        rw [hq.1, hq.2]
        clear hq r v'
        show ST G mi_Mo_code 262 [(0, .ref 373), (1, .int (nI p))] [] v 0 0 _
        exact S_vret d_Mo_code_262 rfl (by decide) (by decide) hQ
      refine S_if_eqN d_Mo_code_244 rfl (by omega) (fun c9 => ?_) (fun c9 => ?_)
      · exact J256_10 
      · refine ST.lift (fun _ _ k => T_aload_n (v := .ref 373) d_Mo_code_247 rfl (Or.inr ⟨_, rfl⟩) k) ?_
        refine ST.lift (fun _ _ k => T_bipush (v := nI 29) d_Mo_code_248 (by decide) k) ?_
        refine ST.lift (fun _ _ k => T_iconst (v := nI 0) d_Mo_code_250 (by decide) k) ?_
        refine ST.lift (fun _ _ k => T_bipush (v := nI 29) d_Mo_code_251 (by decide) k) ?_
        refine S_virtual (as := [.int (nI 29), .int (nI 0), .int (nI 29)]) (rest := []) (b := 373) d_Mo_code_253 rfl (jw_Mo_sub.jo (by decide)) lm_Mo_152 ji_Mo_sub js_Mo_sub (w373 _) rfl rfl rfl (Nat.le_of_ble_eq_true rfl) (by decide) (by decide) (c_Mo_sub G v 29 (by omega) 0 (by omega) 29 (by omega)) (fun r v' hq => ?_)
        rw [hq.1, hq.2]
        clear hq r v'
        show ST G mi_Mo_code 256 [(0, .ref 373), (1, .int (nI p))] [] v 0 0 _
        exact J256_10 
    refine S_if_eqN d_Mo_code_205 rfl (by omega) (fun c6 => ?_) (fun c6 => ?_)
    · exact J217_7 
    · refine ST.lift (fun _ _ k => T_aload_n (v := .ref 373) d_Mo_code_208 rfl (Or.inr ⟨_, rfl⟩) k) ?_
      refine ST.lift (fun _ _ k => T_bipush (v := nI 28) d_Mo_code_209 (by decide) k) ?_
      refine ST.lift (fun _ _ k => T_iconst (v := nI 0) d_Mo_code_211 (by decide) k) ?_
      refine ST.lift (fun _ _ k => T_bipush (v := nI 28) d_Mo_code_212 (by decide) k) ?_
      refine S_virtual (as := [.int (nI 28), .int (nI 0), .int (nI 28)]) (rest := []) (b := 373) d_Mo_code_214 rfl (jw_Mo_sub.jo (by decide)) lm_Mo_152 ji_Mo_sub js_Mo_sub (w373 _) rfl rfl rfl (Nat.le_of_ble_eq_true rfl) (by decide) (by decide) (c_Mo_sub G v 28 (by omega) 0 (by omega) 28 (by omega)) (fun r v' hq => ?_)
      rw [hq.1, hq.2]
      clear hq r v'
      show ST G mi_Mo_code 217 [(0, .ref 373), (1, .int (nI p))] [] v 0 0 _
      exact J217_7 
  refine S_if_eqN d_Mo_code_132 rfl (by omega) (fun c3 => ?_) (fun c3 => ?_)
  · refine ST.lift (fun _ _ k => T_aload_n (v := .ref 373) d_Mo_code_165 rfl (Or.inr ⟨_, rfl⟩) k) ?_
    refine ST.lift (fun _ _ k => T_bipush (v := nI 27) d_Mo_code_166 (by decide) k) ?_
    refine ST.lift (fun _ _ k => T_iload_n d_Mo_code_168 rfl k) ?_
    refine S_virtual (as := [.int (nI 27), .int (nI p)]) (rest := []) (b := 373) d_Mo_code_169 rfl (jw_Mo_set.jo (by decide)) lm_Mo_160 ji_Mo_set js_Mo_set (w373 _) rfl rfl rfl (Nat.le_of_ble_eq_true rfl) (by decide) (by decide) (c_Mo_set G v 27 (by omega) p (by omega)) (fun r v' hq => ?_)
    rw [hq.1, hq.2]
    clear hq r v'
    show ST G mi_Mo_code 172 [(0, .ref 373), (1, .int (nI p))] [] v 0 0 _
    refine ST.lift (fun _ _ k => T_aload_n (v := .ref 373) d_Mo_code_172 rfl (Or.inr ⟨_, rfl⟩) k) ?_
    refine ST.lift (fun _ _ k => T_bipush (v := nI 28) d_Mo_code_173 (by decide) k) ?_
    refine ST.lift (fun _ _ k => T_iload_n d_Mo_code_175 rfl k) ?_
    refine ST.lift (fun _ _ k => T_iconst (v := nI 1) d_Mo_code_176 (by decide) k) ?_
    refine S_iaddN d_Mo_code_177 ?_
    refine S_virtual (as := [.int (nI 28), .int (nI (p + 1))]) (rest := []) (b := 373) d_Mo_code_178 rfl (jw_Mo_set.jo (by decide)) lm_Mo_160 ji_Mo_set js_Mo_set (w373 _) rfl rfl rfl (Nat.le_of_ble_eq_true rfl) (by decide) (by decide) (c_Mo_set G v 28 (by omega) (p + 1) (by omega)) (fun r v' hq => ?_)
    rw [hq.1, hq.2]
    clear hq r v'
    show ST G mi_Mo_code 181 [(0, .ref 373), (1, .int (nI p))] [] v 0 0 _
    refine ST.lift (fun _ _ k => T_aload_n (v := .ref 373) d_Mo_code_181 rfl (Or.inr ⟨_, rfl⟩) k) ?_
    refine ST.lift (fun _ _ k => T_bipush (v := nI 29) d_Mo_code_182 (by decide) k) ?_
    refine ST.lift (fun _ _ k => T_bipush (v := nI 24) d_Mo_code_184 (by decide) k) ?_
    refine S_virtual (as := [.int (nI 29), .int (nI 24)]) (rest := []) (b := 373) d_Mo_code_186 rfl (jw_Mo_set.jo (by decide)) lm_Mo_160 ji_Mo_set js_Mo_set (w373 _) rfl rfl rfl (Nat.le_of_ble_eq_true rfl) (by decide) (by decide) (c_Mo_set G v 29 (by omega) 24 (by omega)) (fun r v' hq => ?_)
    rw [hq.1, hq.2]
    clear hq r v'
    show ST G mi_Mo_code 189 [(0, .ref 373), (1, .int (nI p))] [] v 0 0 _
    exact J189_4 
  · refine ST.lift (fun _ _ k => T_aload_n (v := .ref 373) d_Mo_code_135 rfl (Or.inr ⟨_, rfl⟩) k) ?_
    refine ST.lift (fun _ _ k => T_bipush (v := nI 27) d_Mo_code_136 (by decide) k) ?_
    refine ST.lift (fun _ _ k => T_iconst (v := nI 3) d_Mo_code_138 (by decide) k) ?_
    refine ST.lift (fun _ _ k => T_iload_n d_Mo_code_139 rfl k) ?_
    refine ST.lift (fun _ _ k => T_iconst (v := nI 1) d_Mo_code_140 (by decide) k) ?_
    refine S_iaddN d_Mo_code_141 ?_
    refine S_virtual (as := [.int (nI 27), .int (nI 3), .int (nI (p + 1))]) (rest := []) (b := 373) d_Mo_code_142 rfl (jw_Mo_mul.jo (by decide)) lm_Mo_163 ji_Mo_mul js_Mo_mul (w373 _) rfl rfl rfl (Nat.le_of_ble_eq_true rfl) (by decide) (by decide) (c_Mo_mul G v 27 (by omega) 3 (by omega) (p + 1) (by omega)) (fun r v' hq => ?_)
    rw [hq.1, hq.2]
    clear hq r v'
    show ST G mi_Mo_code 145 [(0, .ref 373), (1, .int (nI p))] [] v 0 0 _
    refine ST.lift (fun _ _ k => T_aload_n (v := .ref 373) d_Mo_code_145 rfl (Or.inr ⟨_, rfl⟩) k) ?_
    refine ST.lift (fun _ _ k => T_bipush (v := nI 28) d_Mo_code_146 (by decide) k) ?_
    refine ST.lift (fun _ _ k => T_iconst (v := nI 3) d_Mo_code_148 (by decide) k) ?_
    refine ST.lift (fun _ _ k => T_iload_n d_Mo_code_149 rfl k) ?_
    refine S_virtual (as := [.int (nI 28), .int (nI 3), .int (nI p)]) (rest := []) (b := 373) d_Mo_code_150 rfl (jw_Mo_mul.jo (by decide)) lm_Mo_163 ji_Mo_mul js_Mo_mul (w373 _) rfl rfl rfl (Nat.le_of_ble_eq_true rfl) (by decide) (by decide) (c_Mo_mul G v 28 (by omega) 3 (by omega) p (by omega)) (fun r v' hq => ?_)
    rw [hq.1, hq.2]
    clear hq r v'
    show ST G mi_Mo_code 153 [(0, .ref 373), (1, .int (nI p))] [] v 0 0 _
    refine ST.lift (fun _ _ k => T_aload_n (v := .ref 373) d_Mo_code_153 rfl (Or.inr ⟨_, rfl⟩) k) ?_
    refine ST.lift (fun _ _ k => T_bipush (v := nI 29) d_Mo_code_154 (by decide) k) ?_
    refine ST.lift (fun _ _ k => T_bipush (v := nI 23) d_Mo_code_156 (by decide) k) ?_
    refine ST.lift (fun _ _ k => T_iconst (v := nI 4) d_Mo_code_158 (by decide) k) ?_
    refine S_virtual (as := [.int (nI 29), .int (nI 23), .int (nI 4)]) (rest := []) (b := 373) d_Mo_code_159 rfl (jw_Mo_mul.jo (by decide)) lm_Mo_163 ji_Mo_mul js_Mo_mul (w373 _) rfl rfl rfl (Nat.le_of_ble_eq_true rfl) (by decide) (by decide) (c_Mo_mul G v 29 (by omega) 23 (by omega) 4 (by omega)) (fun r v' hq => ?_)
    rw [hq.1, hq.2]
    clear hq r v'
    show ST G mi_Mo_code 162 [(0, .ref 373), (1, .int (nI p))] [] v 0 0 _
    refine ST.lift (fun _ _ k => T_goto (tgt := 189) d_Mo_code_162 rfl k) ?_
    exact J189_4 
set_option maxRecDepth 100000 in
set_option maxHeartbeats 4000000 in
theorem c_Mo_decode (G : GX) (v : Nat → Int32) (p : Nat) (b_p : p ≤ 60) (src m : Nat) (w_src : K0 ≤ src) (a_src : aI src m) (l_src : m ≤ 4000) (pos : Nat) (b_pos : pos + 32 ≤ m) : CS G mi_Mo_decode [.ref 373, .int (nI p), .ref src, .int (nI pos)] v (fun r v' => ∃ z : Nat, z ≤ 1 ∧ r = some (.int (nI z)) ∧ v' = v) := by
  refine CS.of (by decide) (Nat.le_of_ble_eq_true rfl) ?_
  generalize hQe : (fun (r : Option Value) (v' : Nat → Int32) => ∃ z : Nat, z ≤ 1 ∧ r = some (.int (nI z)) ∧ v' = v) = Q
  have hQ : ∀ z : Nat, z ≤ 1 → Q (some (.int (nI z))) v := by rw [← hQe]; exact fun z hz => ⟨z, hz, rfl, rfl⟩
  clear hQe
  show ST G mi_Mo_decode 0 [(0, .ref 373), (1, .int (nI p)), (2, .ref src), (3, .int (nI pos))] [] v 0 0 Q
  refine ST.lift (fun _ _ k => T_aload_n (v := .ref 373) d_Mo_decode_0 rfl (Or.inr ⟨_, rfl⟩) k) ?_
  refine ST.lift (fun _ _ k => T_bipush (v := nI 20) d_Mo_decode_1 (by decide) k) ?_
  refine ST.lift (fun _ _ k => T_aload_n (v := .ref src) d_Mo_decode_3 rfl (Or.inr ⟨_, rfl⟩) k) ?_
  refine ST.lift (fun _ _ k => T_iload_n d_Mo_decode_4 rfl k) ?_
  refine S_virtual (as := [.int (nI 20), .ref src, .int (nI pos)]) (rest := []) (b := 373) d_Mo_decode_5 rfl (jw_Mo_unpack.jo (by decide)) lm_Mo_201 ji_Mo_unpack js_Mo_unpack (w373 _) rfl rfl rfl (Nat.le_of_ble_eq_true rfl) (by decide) (by decide) (c_Mo_unpack G v 20 (by omega) src m w_src a_src (by omega) pos (by omega)) (fun r v' hq => ?_)
  rw [hq.1, hq.2]
  clear hq r v'
  show ST G mi_Mo_decode 8 [(0, .ref 373), (1, .int (nI p)), (2, .ref src), (3, .int (nI pos))] [] v 0 0 _
  refine ST.lift (fun _ _ k => T_aload_n (v := .ref src) d_Mo_decode_8 rfl (Or.inr ⟨_, rfl⟩) k) ?_
  refine ST.lift (fun _ _ k => T_iload_n d_Mo_decode_9 rfl k) ?_
  refine ST.lift (fun _ _ k => T_bipush (v := nI 31) d_Mo_decode_10 (by decide) k) ?_
  refine S_iaddN d_Mo_decode_12 ?_
  refine S_iaload d_Mo_decode_13 a_src (vp_in_nI (by omega) (by omega)) (fun z1 => ?_)
  refine ST.lift (fun _ _ k => T_bipush (v := nI 127) d_Mo_decode_14 (by decide) k) ?_
  refine S_icmp_gt d_Mo_decode_16 rfl (fun c2 => ?_) (fun c2 => ?_)
  · refine ST.lift (fun _ _ k => T_iconst (v := nI 0) d_Mo_decode_28 (by decide) k) ?_
    exact S_ret d_Mo_decode_29 rfl (by decide) (by decide) (by decide) (hQ 0 (by decide))
  · refine ST.lift (fun _ _ k => T_aload_n (v := .ref 373) d_Mo_decode_19 rfl (Or.inr ⟨_, rfl⟩) k) ?_
    refine ST.lift (fun _ _ k => T_bipush (v := nI 20) d_Mo_decode_20 (by decide) k) ?_
    refine S_virtual (as := [.int (nI 20)]) (rest := []) (b := 373) d_Mo_decode_22 rfl (jw_Mo_odd.jo (by decide)) lm_Mo_174 ji_Mo_odd js_Mo_odd (w373 _) rfl rfl rfl (Nat.le_of_ble_eq_true rfl) (by decide) (by decide) (c_Mo_odd G v 20 (by omega)) (fun r v' hq => ?_)
    obtain ⟨z3, hz3, hr, hv⟩ := hq
    rw [hr, hv]
    clear hr hv r v'
    show ST G mi_Mo_decode 25 [(0, .ref 373), (1, .int (nI p)), (2, .ref src), (3, .int (nI pos))] [.int (nI z3)] v 0 0 _
    refine S_if_eqN d_Mo_decode_25 rfl (by omega) (fun c4 => ?_) (fun c4 => ?_)
    · refine ST.lift (fun _ _ k => T_iconst (v := nI 0) d_Mo_decode_30 (by decide) k) ?_
      refine ST.lift (fun _ _ k => T_istore (L' := [(4, .int (nI 0)), (0, .ref 373), (1, .int (nI p)), (2, .ref src), (3, .int (nI pos))]) d_Mo_decode_31 (by decide) rfl k) ?_
      have lp8 : ∀ (n6 k5 : Nat), 32 - k5 = n6 → 0 ≤ k5 ∧ k5 ≤ 0 + 32 → ST G mi_Mo_decode 33 [(4, .int (nI k5)), (0, .ref 373), (1, .int (nI p)), (2, .ref src), (3, .int (nI pos))] [] v 0 0 Q := by
        intro n6
        induction n6 using Nat.strongRecOn with
        | _ n6 ih7 =>
          intro k5 h9 h10
          refine ST.lift (fun _ _ k => T_iload d_Mo_decode_33 rfl k) ?_
          refine ST.lift (fun _ _ k => T_bipush (v := nI 32) d_Mo_decode_35 (by decide) k) ?_
          refine S_icmp_geN d_Mo_decode_37 rfl (by omega) (by omega) (fun c11 => ?_) (fun c11 => ?_)
          · refine ST.lift (fun _ _ k => T_aload_n (v := .ref 373) d_Mo_decode_64 rfl (Or.inr ⟨_, rfl⟩) k) ?_
            refine ST.lift (fun _ _ k => T_bipush (v := nI 21) d_Mo_decode_65 (by decide) k) ?_
            refine ST.lift (fun _ _ k => T_bipush (v := nI 20) d_Mo_decode_67 (by decide) k) ?_
            refine ST.lift (fun _ _ k => T_bipush (v := nI 20) d_Mo_decode_69 (by decide) k) ?_
            refine S_virtual (as := [.int (nI 21), .int (nI 20), .int (nI 20)]) (rest := []) (b := 373) d_Mo_decode_71 rfl (jw_Mo_mul.jo (by decide)) lm_Mo_163 ji_Mo_mul js_Mo_mul (w373 _) rfl rfl rfl (Nat.le_of_ble_eq_true rfl) (by decide) (by decide) (c_Mo_mul G v 21 (by omega) 20 (by omega) 20 (by omega)) (fun r v' hq => ?_)
            rw [hq.1, hq.2]
            clear hq r v'
            show ST G mi_Mo_decode 74 [(4, .int (nI k5)), (0, .ref 373), (1, .int (nI p)), (2, .ref src), (3, .int (nI pos))] [] v 0 0 _
            refine ST.lift (fun _ _ k => T_aload_n (v := .ref 373) d_Mo_decode_74 rfl (Or.inr ⟨_, rfl⟩) k) ?_
            refine ST.lift (fun _ _ k => T_bipush (v := nI 22) d_Mo_decode_75 (by decide) k) ?_
            refine ST.lift (fun _ _ k => T_iconst (v := nI 1) d_Mo_decode_77 (by decide) k) ?_
            refine ST.lift (fun _ _ k => T_bipush (v := nI 21) d_Mo_decode_78 (by decide) k) ?_
            refine S_virtual (as := [.int (nI 22), .int (nI 1), .int (nI 21)]) (rest := []) (b := 373) d_Mo_decode_80 rfl (jw_Mo_sub.jo (by decide)) lm_Mo_152 ji_Mo_sub js_Mo_sub (w373 _) rfl rfl rfl (Nat.le_of_ble_eq_true rfl) (by decide) (by decide) (c_Mo_sub G v 22 (by omega) 1 (by omega) 21 (by omega)) (fun r v' hq => ?_)
            rw [hq.1, hq.2]
            clear hq r v'
            show ST G mi_Mo_decode 83 [(4, .int (nI k5)), (0, .ref 373), (1, .int (nI p)), (2, .ref src), (3, .int (nI pos))] [] v 0 0 _
            refine ST.lift (fun _ _ k => T_aload_n (v := .ref 373) d_Mo_decode_83 rfl (Or.inr ⟨_, rfl⟩) k) ?_
            refine ST.lift (fun _ _ k => T_bipush (v := nI 23) d_Mo_decode_84 (by decide) k) ?_
            refine ST.lift (fun _ _ k => T_iconst (v := nI 1) d_Mo_decode_86 (by decide) k) ?_
            refine ST.lift (fun _ _ k => T_bipush (v := nI 21) d_Mo_decode_87 (by decide) k) ?_
            refine S_virtual (as := [.int (nI 23), .int (nI 1), .int (nI 21)]) (rest := []) (b := 373) d_Mo_decode_89 rfl (jw_Mo_add.jo (by decide)) lm_Mo_182 ji_Mo_add js_Mo_add (w373 _) rfl rfl rfl (Nat.le_of_ble_eq_true rfl) (by decide) (by decide) (c_Mo_add G v 23 (by omega) 1 (by omega) 21 (by omega)) (fun r v' hq => ?_)
            rw [hq.1, hq.2]
            clear hq r v'
            show ST G mi_Mo_decode 92 [(4, .int (nI k5)), (0, .ref 373), (1, .int (nI p)), (2, .ref src), (3, .int (nI pos))] [] v 0 0 _
            refine ST.lift (fun _ _ k => T_aload_n (v := .ref 373) d_Mo_decode_92 rfl (Or.inr ⟨_, rfl⟩) k) ?_
            refine ST.lift (fun _ _ k => T_bipush (v := nI 24) d_Mo_decode_93 (by decide) k) ?_
            refine ST.lift (fun _ _ k => T_bipush (v := nI 23) d_Mo_decode_95 (by decide) k) ?_
            refine ST.lift (fun _ _ k => T_bipush (v := nI 23) d_Mo_decode_97 (by decide) k) ?_
            refine S_virtual (as := [.int (nI 24), .int (nI 23), .int (nI 23)]) (rest := []) (b := 373) d_Mo_decode_99 rfl (jw_Mo_mul.jo (by decide)) lm_Mo_163 ji_Mo_mul js_Mo_mul (w373 _) rfl rfl rfl (Nat.le_of_ble_eq_true rfl) (by decide) (by decide) (c_Mo_mul G v 24 (by omega) 23 (by omega) 23 (by omega)) (fun r v' hq => ?_)
            rw [hq.1, hq.2]
            clear hq r v'
            show ST G mi_Mo_decode 102 [(4, .int (nI k5)), (0, .ref 373), (1, .int (nI p)), (2, .ref src), (3, .int (nI pos))] [] v 0 0 _
            refine ST.lift (fun _ _ k => T_aload_n (v := .ref 373) d_Mo_decode_102 rfl (Or.inr ⟨_, rfl⟩) k) ?_
            refine ST.lift (fun _ _ k => T_bipush (v := nI 25) d_Mo_decode_103 (by decide) k) ?_
            refine ST.lift (fun _ _ k => T_bipush (v := nI 22) d_Mo_decode_105 (by decide) k) ?_
            refine ST.lift (fun _ _ k => T_bipush (v := nI 22) d_Mo_decode_107 (by decide) k) ?_
            refine S_virtual (as := [.int (nI 25), .int (nI 22), .int (nI 22)]) (rest := []) (b := 373) d_Mo_decode_109 rfl (jw_Mo_mul.jo (by decide)) lm_Mo_163 ji_Mo_mul js_Mo_mul (w373 _) rfl rfl rfl (Nat.le_of_ble_eq_true rfl) (by decide) (by decide) (c_Mo_mul G v 25 (by omega) 22 (by omega) 22 (by omega)) (fun r v' hq => ?_)
            rw [hq.1, hq.2]
            clear hq r v'
            show ST G mi_Mo_decode 112 [(4, .int (nI k5)), (0, .ref 373), (1, .int (nI p)), (2, .ref src), (3, .int (nI pos))] [] v 0 0 _
            refine ST.lift (fun _ _ k => T_aload_n (v := .ref 373) d_Mo_decode_112 rfl (Or.inr ⟨_, rfl⟩) k) ?_
            refine ST.lift (fun _ _ k => T_bipush (v := nI 25) d_Mo_decode_113 (by decide) k) ?_
            refine ST.lift (fun _ _ k => T_bipush (v := nI 25) d_Mo_decode_115 (by decide) k) ?_
            refine ST.lift (fun _ _ k => T_iconst (v := nI 2) d_Mo_decode_117 (by decide) k) ?_
            refine S_virtual (as := [.int (nI 25), .int (nI 25), .int (nI 2)]) (rest := []) (b := 373) d_Mo_decode_118 rfl (jw_Mo_mul.jo (by decide)) lm_Mo_163 ji_Mo_mul js_Mo_mul (w373 _) rfl rfl rfl (Nat.le_of_ble_eq_true rfl) (by decide) (by decide) (c_Mo_mul G v 25 (by omega) 25 (by omega) 2 (by omega)) (fun r v' hq => ?_)
            rw [hq.1, hq.2]
            clear hq r v'
            show ST G mi_Mo_decode 121 [(4, .int (nI k5)), (0, .ref 373), (1, .int (nI p)), (2, .ref src), (3, .int (nI pos))] [] v 0 0 _
            refine ST.lift (fun _ _ k => T_aload_n (v := .ref 373) d_Mo_decode_121 rfl (Or.inr ⟨_, rfl⟩) k) ?_
            refine ST.lift (fun _ _ k => T_bipush (v := nI 25) d_Mo_decode_122 (by decide) k) ?_
            refine ST.lift (fun _ _ k => T_iconst (v := nI 0) d_Mo_decode_124 (by decide) k) ?_
            refine ST.lift (fun _ _ k => T_bipush (v := nI 25) d_Mo_decode_125 (by decide) k) ?_
            refine S_virtual (as := [.int (nI 25), .int (nI 0), .int (nI 25)]) (rest := []) (b := 373) d_Mo_decode_127 rfl (jw_Mo_sub.jo (by decide)) lm_Mo_152 ji_Mo_sub js_Mo_sub (w373 _) rfl rfl rfl (Nat.le_of_ble_eq_true rfl) (by decide) (by decide) (c_Mo_sub G v 25 (by omega) 0 (by omega) 25 (by omega)) (fun r v' hq => ?_)
            rw [hq.1, hq.2]
            clear hq r v'
            show ST G mi_Mo_decode 130 [(4, .int (nI k5)), (0, .ref 373), (1, .int (nI p)), (2, .ref src), (3, .int (nI pos))] [] v 0 0 _
            refine ST.lift (fun _ _ k => T_aload_n (v := .ref 373) d_Mo_decode_130 rfl (Or.inr ⟨_, rfl⟩) k) ?_
            refine ST.lift (fun _ _ k => T_bipush (v := nI 25) d_Mo_decode_131 (by decide) k) ?_
            refine ST.lift (fun _ _ k => T_bipush (v := nI 25) d_Mo_decode_133 (by decide) k) ?_
            refine ST.lift (fun _ _ k => T_bipush (v := nI 24) d_Mo_decode_135 (by decide) k) ?_
            refine S_virtual (as := [.int (nI 25), .int (nI 25), .int (nI 24)]) (rest := []) (b := 373) d_Mo_decode_137 rfl (jw_Mo_sub.jo (by decide)) lm_Mo_152 ji_Mo_sub js_Mo_sub (w373 _) rfl rfl rfl (Nat.le_of_ble_eq_true rfl) (by decide) (by decide) (c_Mo_sub G v 25 (by omega) 25 (by omega) 24 (by omega)) (fun r v' hq => ?_)
            rw [hq.1, hq.2]
            clear hq r v'
            show ST G mi_Mo_decode 140 [(4, .int (nI k5)), (0, .ref 373), (1, .int (nI p)), (2, .ref src), (3, .int (nI pos))] [] v 0 0 _
            refine ST.lift (fun _ _ k => T_aload_n (v := .ref 373) d_Mo_decode_140 rfl (Or.inr ⟨_, rfl⟩) k) ?_
            refine ST.lift (fun _ _ k => T_bipush (v := nI 26) d_Mo_decode_141 (by decide) k) ?_
            refine ST.lift (fun _ _ k => T_bipush (v := nI 25) d_Mo_decode_143 (by decide) k) ?_
            refine ST.lift (fun _ _ k => T_bipush (v := nI 24) d_Mo_decode_145 (by decide) k) ?_
            refine S_virtual (as := [.int (nI 26), .int (nI 25), .int (nI 24)]) (rest := []) (b := 373) d_Mo_decode_147 rfl (jw_Mo_mul.jo (by decide)) lm_Mo_163 ji_Mo_mul js_Mo_mul (w373 _) rfl rfl rfl (Nat.le_of_ble_eq_true rfl) (by decide) (by decide) (c_Mo_mul G v 26 (by omega) 25 (by omega) 24 (by omega)) (fun r v' hq => ?_)
            rw [hq.1, hq.2]
            clear hq r v'
            show ST G mi_Mo_decode 150 [(4, .int (nI k5)), (0, .ref 373), (1, .int (nI p)), (2, .ref src), (3, .int (nI pos))] [] v 0 0 _
            refine ST.lift (fun _ _ k => T_aload_n (v := .ref 373) d_Mo_decode_150 rfl (Or.inr ⟨_, rfl⟩) k) ?_
            refine ST.lift (fun _ _ k => T_bipush (v := nI 27) d_Mo_decode_151 (by decide) k) ?_
            refine ST.lift (fun _ _ k => T_iconst (v := nI 1) d_Mo_decode_153 (by decide) k) ?_
            refine ST.lift (fun _ _ k => T_bipush (v := nI 26) d_Mo_decode_154 (by decide) k) ?_
            refine S_virtual (as := [.int (nI 27), .int (nI 1), .int (nI 26)]) (rest := []) (b := 373) d_Mo_decode_156 rfl (jw_Mo_root.jo (by decide)) lm_Mo_197 ji_Mo_root js_Mo_root (w373 _) rfl rfl rfl (Nat.le_of_ble_eq_true rfl) (by decide) (by decide) (c_Mo_root G v 27 (by omega) 1 (by omega) 26 (by omega)) (fun r v' hq => ?_)
            obtain ⟨z12, hz12, hr, hv⟩ := hq
            rw [hr, hv]
            clear hr hv r v'
            show ST G mi_Mo_decode 159 [(4, .int (nI k5)), (0, .ref 373), (1, .int (nI p)), (2, .ref src), (3, .int (nI pos))] [.int (nI z12)] v 0 0 _
            refine ST.lift (fun _ _ k => T_istore (L' := [(4, .int (nI z12)), (0, .ref 373), (1, .int (nI p)), (2, .ref src), (3, .int (nI pos))]) d_Mo_decode_159 (by decide) rfl k) ?_
            refine ST.lift (fun _ _ k => T_aload_n (v := .ref 373) d_Mo_decode_161 rfl (Or.inr ⟨_, rfl⟩) k) ?_
            refine ST.lift (fun _ _ k => T_bipush (v := nI 28) d_Mo_decode_162 (by decide) k) ?_
            refine ST.lift (fun _ _ k => T_bipush (v := nI 27) d_Mo_decode_164 (by decide) k) ?_
            refine ST.lift (fun _ _ k => T_bipush (v := nI 23) d_Mo_decode_166 (by decide) k) ?_
            refine S_virtual (as := [.int (nI 28), .int (nI 27), .int (nI 23)]) (rest := []) (b := 373) d_Mo_decode_168 rfl (jw_Mo_mul.jo (by decide)) lm_Mo_163 ji_Mo_mul js_Mo_mul (w373 _) rfl rfl rfl (Nat.le_of_ble_eq_true rfl) (by decide) (by decide) (c_Mo_mul G v 28 (by omega) 27 (by omega) 23 (by omega)) (fun r v' hq => ?_)
            rw [hq.1, hq.2]
            clear hq r v'
            show ST G mi_Mo_decode 171 [(4, .int (nI z12)), (0, .ref 373), (1, .int (nI p)), (2, .ref src), (3, .int (nI pos))] [] v 0 0 _
            refine ST.lift (fun _ _ k => T_aload_n (v := .ref 373) d_Mo_decode_171 rfl (Or.inr ⟨_, rfl⟩) k) ?_
            refine ST.lift (fun _ _ k => T_bipush (v := nI 29) d_Mo_decode_172 (by decide) k) ?_
            refine ST.lift (fun _ _ k => T_bipush (v := nI 20) d_Mo_decode_174 (by decide) k) ?_
            refine ST.lift (fun _ _ k => T_bipush (v := nI 20) d_Mo_decode_176 (by decide) k) ?_
            refine S_virtual (as := [.int (nI 29), .int (nI 20), .int (nI 20)]) (rest := []) (b := 373) d_Mo_decode_178 rfl (jw_Mo_add.jo (by decide)) lm_Mo_182 ji_Mo_add js_Mo_add (w373 _) rfl rfl rfl (Nat.le_of_ble_eq_true rfl) (by decide) (by decide) (c_Mo_add G v 29 (by omega) 20 (by omega) 20 (by omega)) (fun r v' hq => ?_)
            rw [hq.1, hq.2]
            clear hq r v'
            show ST G mi_Mo_decode 181 [(4, .int (nI z12)), (0, .ref 373), (1, .int (nI p)), (2, .ref src), (3, .int (nI pos))] [] v 0 0 _
            refine ST.lift (fun _ _ k => T_aload_n (v := .ref 373) d_Mo_decode_181 rfl (Or.inr ⟨_, rfl⟩) k) ?_
            refine ST.lift (fun _ _ k => T_bipush (v := nI 29) d_Mo_decode_182 (by decide) k) ?_
            refine ST.lift (fun _ _ k => T_bipush (v := nI 29) d_Mo_decode_184 (by decide) k) ?_
            refine ST.lift (fun _ _ k => T_bipush (v := nI 28) d_Mo_decode_186 (by decide) k) ?_
            refine S_virtual (as := [.int (nI 29), .int (nI 29), .int (nI 28)]) (rest := []) (b := 373) d_Mo_decode_188 rfl (jw_Mo_mul.jo (by decide)) lm_Mo_163 ji_Mo_mul js_Mo_mul (w373 _) rfl rfl rfl (Nat.le_of_ble_eq_true rfl) (by decide) (by decide) (c_Mo_mul G v 29 (by omega) 29 (by omega) 28 (by omega)) (fun r v' hq => ?_)
            rw [hq.1, hq.2]
            clear hq r v'
            show ST G mi_Mo_decode 191 [(4, .int (nI z12)), (0, .ref 373), (1, .int (nI p)), (2, .ref src), (3, .int (nI pos))] [] v 0 0 _
            refine ST.lift (fun _ _ k => T_aload_n (v := .ref 373) d_Mo_decode_191 rfl (Or.inr ⟨_, rfl⟩) k) ?_
            refine ST.lift (fun _ _ k => T_bipush (v := nI 29) d_Mo_decode_192 (by decide) k) ?_
            refine S_virtual (as := [.int (nI 29)]) (rest := []) (b := 373) d_Mo_decode_194 rfl (jw_Mo_odd.jo (by decide)) lm_Mo_174 ji_Mo_odd js_Mo_odd (w373 _) rfl rfl rfl (Nat.le_of_ble_eq_true rfl) (by decide) (by decide) (c_Mo_odd G v 29 (by omega)) (fun r v' hq => ?_)
            obtain ⟨z13, hz13, hr, hv⟩ := hq
            rw [hr, hv]
            clear hr hv r v'
            show ST G mi_Mo_decode 197 [(4, .int (nI z12)), (0, .ref 373), (1, .int (nI p)), (2, .ref src), (3, .int (nI pos))] [.int (nI z13)] v 0 0 _
            have J209_15 : ST G mi_Mo_decode 209 [(4, .int (nI z12)), (0, .ref 373), (1, .int (nI p)), (2, .ref src), (3, .int (nI pos))] [] v 0 0 Q := by
              refine ST.lift (fun _ _ k => T_aload_n (v := .ref 373) d_Mo_decode_209 rfl (Or.inr ⟨_, rfl⟩) k) ?_
              refine ST.lift (fun _ _ k => T_bipush (v := nI 28) d_Mo_decode_210 (by decide) k) ?_
              refine ST.lift (fun _ _ k => T_bipush (v := nI 28) d_Mo_decode_212 (by decide) k) ?_
              refine ST.lift (fun _ _ k => T_bipush (v := nI 27) d_Mo_decode_214 (by decide) k) ?_
              refine S_virtual (as := [.int (nI 28), .int (nI 28), .int (nI 27)]) (rest := []) (b := 373) d_Mo_decode_216 rfl (jw_Mo_mul.jo (by decide)) lm_Mo_163 ji_Mo_mul js_Mo_mul (w373 _) rfl rfl rfl (Nat.le_of_ble_eq_true rfl) (by decide) (by decide) (c_Mo_mul G v 28 (by omega) 28 (by omega) 27 (by omega)) (fun r v' hq => ?_)
              rw [hq.1, hq.2]
              clear hq r v'
              show ST G mi_Mo_decode 219 [(4, .int (nI z12)), (0, .ref 373), (1, .int (nI p)), (2, .ref src), (3, .int (nI pos))] [] v 0 0 _
              refine ST.lift (fun _ _ k => T_aload_n (v := .ref 373) d_Mo_decode_219 rfl (Or.inr ⟨_, rfl⟩) k) ?_
              refine ST.lift (fun _ _ k => T_bipush (v := nI 28) d_Mo_decode_220 (by decide) k) ?_
              refine ST.lift (fun _ _ k => T_bipush (v := nI 28) d_Mo_decode_222 (by decide) k) ?_
              refine ST.lift (fun _ _ k => T_bipush (v := nI 25) d_Mo_decode_224 (by decide) k) ?_
              refine S_virtual (as := [.int (nI 28), .int (nI 28), .int (nI 25)]) (rest := []) (b := 373) d_Mo_decode_226 rfl (jw_Mo_mul.jo (by decide)) lm_Mo_163 ji_Mo_mul js_Mo_mul (w373 _) rfl rfl rfl (Nat.le_of_ble_eq_true rfl) (by decide) (by decide) (c_Mo_mul G v 28 (by omega) 28 (by omega) 25 (by omega)) (fun r v' hq => ?_)
              rw [hq.1, hq.2]
              clear hq r v'
              show ST G mi_Mo_decode 229 [(4, .int (nI z12)), (0, .ref 373), (1, .int (nI p)), (2, .ref src), (3, .int (nI pos))] [] v 0 0 _
              refine ST.lift (fun _ _ k => T_aload_n (v := .ref 373) d_Mo_decode_229 rfl (Or.inr ⟨_, rfl⟩) k) ?_
              refine ST.lift (fun _ _ k => T_bipush (v := nI 28) d_Mo_decode_230 (by decide) k) ?_
              refine ST.lift (fun _ _ k => T_bipush (v := nI 28) d_Mo_decode_232 (by decide) k) ?_
              refine ST.lift (fun _ _ k => T_bipush (v := nI 22) d_Mo_decode_234 (by decide) k) ?_
              refine S_virtual (as := [.int (nI 28), .int (nI 28), .int (nI 22)]) (rest := []) (b := 373) d_Mo_decode_236 rfl (jw_Mo_mul.jo (by decide)) lm_Mo_163 ji_Mo_mul js_Mo_mul (w373 _) rfl rfl rfl (Nat.le_of_ble_eq_true rfl) (by decide) (by decide) (c_Mo_mul G v 28 (by omega) 28 (by omega) 22 (by omega)) (fun r v' hq => ?_)
              rw [hq.1, hq.2]
              clear hq r v'
              show ST G mi_Mo_decode 239 [(4, .int (nI z12)), (0, .ref 373), (1, .int (nI p)), (2, .ref src), (3, .int (nI pos))] [] v 0 0 _
              refine ST.lift (fun _ _ k => T_aload_n (v := .ref 373) d_Mo_decode_239 rfl (Or.inr ⟨_, rfl⟩) k) ?_
              refine ST.lift (fun _ _ k => T_bipush (v := nI 30) d_Mo_decode_240 (by decide) k) ?_
              refine ST.lift (fun _ _ k => T_bipush (v := nI 29) d_Mo_decode_242 (by decide) k) ?_
              refine ST.lift (fun _ _ k => T_bipush (v := nI 28) d_Mo_decode_244 (by decide) k) ?_
              refine S_virtual (as := [.int (nI 30), .int (nI 29), .int (nI 28)]) (rest := []) (b := 373) d_Mo_decode_246 rfl (jw_Mo_mul.jo (by decide)) lm_Mo_163 ji_Mo_mul js_Mo_mul (w373 _) rfl rfl rfl (Nat.le_of_ble_eq_true rfl) (by decide) (by decide) (c_Mo_mul G v 30 (by omega) 29 (by omega) 28 (by omega)) (fun r v' hq => ?_)
              rw [hq.1, hq.2]
              clear hq r v'
              show ST G mi_Mo_decode 249 [(4, .int (nI z12)), (0, .ref 373), (1, .int (nI p)), (2, .ref src), (3, .int (nI pos))] [] v 0 0 _
              refine ST.lift (fun _ _ k => T_iload d_Mo_decode_249 rfl k) ?_
              refine S_if_eqN d_Mo_decode_251 rfl (by omega) (fun c16 => ?_) (fun c16 => ?_)
              · refine ST.lift (fun _ _ k => T_iconst (v := nI 0) d_Mo_decode_272 (by decide) k) ?_
                exact S_ret d_Mo_decode_273 rfl (by decide) (by decide) (by decide) (hQ 0 (by decide))
              · refine ST.lift (fun _ _ k => T_aload_n (v := .ref 373) d_Mo_decode_254 rfl (Or.inr ⟨_, rfl⟩) k) ?_
                refine ST.lift (fun _ _ k => T_bipush (v := nI 30) d_Mo_decode_255 (by decide) k) ?_
                refine S_virtual (as := [.int (nI 30)]) (rest := []) (b := 373) d_Mo_decode_257 rfl (jw_Mo_odd.jo (by decide)) lm_Mo_174 ji_Mo_odd js_Mo_odd (w373 _) rfl rfl rfl (Nat.le_of_ble_eq_true rfl) (by decide) (by decide) (c_Mo_odd G v 30 (by omega)) (fun r v' hq => ?_)
                obtain ⟨z17, hz17, hr, hv⟩ := hq
                rw [hr, hv]
                clear hr hv r v'
                show ST G mi_Mo_decode 260 [(4, .int (nI z12)), (0, .ref 373), (1, .int (nI p)), (2, .ref src), (3, .int (nI pos))] [.int (nI z17)] v 0 0 _
                refine S_if_neN d_Mo_decode_260 rfl (by omega) (fun c18 => ?_) (fun c18 => ?_)
                · refine ST.lift (fun _ _ k => T_iconst (v := nI 0) d_Mo_decode_272 (by decide) k) ?_
                  exact S_ret d_Mo_decode_273 rfl (by decide) (by decide) (by decide) (hQ 0 (by decide))
                · refine ST.lift (fun _ _ k => T_aload_n (v := .ref 373) d_Mo_decode_263 rfl (Or.inr ⟨_, rfl⟩) k) ?_
                  refine ST.lift (fun _ _ k => T_bipush (v := nI 28) d_Mo_decode_264 (by decide) k) ?_
                  refine S_virtual (as := [.int (nI 28)]) (rest := []) (b := 373) d_Mo_decode_266 rfl (jw_Mo_isZero.jo (by decide)) lm_Mo_156 ji_Mo_isZero js_Mo_isZero (w373 _) rfl rfl rfl (Nat.le_of_ble_eq_true rfl) (by decide) (by decide) (c_Mo_isZero G v 28 (by omega)) (fun r v' hq => ?_)
                  obtain ⟨z19, hz19, hr, hv⟩ := hq
                  rw [hr, hv]
                  clear hr hv r v'
                  show ST G mi_Mo_decode 269 [(4, .int (nI z12)), (0, .ref 373), (1, .int (nI p)), (2, .ref src), (3, .int (nI pos))] [.int (nI z19)] v 0 0 _
                  refine S_if_eqN d_Mo_decode_269 rfl (by omega) (fun c20 => ?_) (fun c20 => ?_)
                  · refine ST.lift (fun _ _ k => T_aload_n (v := .ref 373) d_Mo_decode_274 rfl (Or.inr ⟨_, rfl⟩) k) ?_
                    refine ST.lift (fun _ _ k => T_iload_n d_Mo_decode_275 rfl k) ?_
                    refine ST.lift (fun _ _ k => T_bipush (v := nI 29) d_Mo_decode_276 (by decide) k) ?_
                    refine S_virtual (as := [.int (nI p), .int (nI 29)]) (rest := []) (b := 373) d_Mo_decode_278 rfl (jw_Mo_set.jo (by decide)) lm_Mo_160 ji_Mo_set js_Mo_set (w373 _) rfl rfl rfl (Nat.le_of_ble_eq_true rfl) (by decide) (by decide) (c_Mo_set G v p (by omega) 29 (by omega)) (fun r v' hq => ?_)
                    rw [hq.1, hq.2]
                    clear hq r v'
                    show ST G mi_Mo_decode 281 [(4, .int (nI z12)), (0, .ref 373), (1, .int (nI p)), (2, .ref src), (3, .int (nI pos))] [] v 0 0 _
                    refine ST.lift (fun _ _ k => T_aload_n (v := .ref 373) d_Mo_decode_281 rfl (Or.inr ⟨_, rfl⟩) k) ?_
                    refine ST.lift (fun _ _ k => T_iload_n d_Mo_decode_282 rfl k) ?_
                    refine ST.lift (fun _ _ k => T_iconst (v := nI 1) d_Mo_decode_283 (by decide) k) ?_
                    refine S_iaddN d_Mo_decode_284 ?_
                    refine ST.lift (fun _ _ k => T_bipush (v := nI 28) d_Mo_decode_285 (by decide) k) ?_
                    refine S_virtual (as := [.int (nI (p + 1)), .int (nI 28)]) (rest := []) (b := 373) d_Mo_decode_287 rfl (jw_Mo_set.jo (by decide)) lm_Mo_160 ji_Mo_set js_Mo_set (w373 _) rfl rfl rfl (Nat.le_of_ble_eq_true rfl) (by decide) (by decide) (c_Mo_set G v (p + 1) (by omega) 28 (by omega)) (fun r v' hq => ?_)
                    rw [hq.1, hq.2]
                    clear hq r v'
                    show ST G mi_Mo_decode 290 [(4, .int (nI z12)), (0, .ref 373), (1, .int (nI p)), (2, .ref src), (3, .int (nI pos))] [] v 0 0 _
                    refine ST.lift (fun _ _ k => T_aload_n (v := .ref 373) d_Mo_decode_290 rfl (Or.inr ⟨_, rfl⟩) k) ?_
                    refine ST.lift (fun _ _ k => T_iload_n d_Mo_decode_291 rfl k) ?_
                    refine ST.lift (fun _ _ k => T_iconst (v := nI 2) d_Mo_decode_292 (by decide) k) ?_
                    refine S_iaddN d_Mo_decode_293 ?_
                    refine ST.lift (fun _ _ k => T_iconst (v := nI 1) d_Mo_decode_294 (by decide) k) ?_
                    refine S_virtual (as := [.int (nI (p + 2)), .int (nI 1)]) (rest := []) (b := 373) d_Mo_decode_295 rfl (jw_Mo_small.jo (by decide)) lm_Mo_179 ji_Mo_small js_Mo_small (w373 _) rfl rfl rfl (Nat.le_of_ble_eq_true rfl) (by decide) (by decide) (c_Mo_small G v (p + 2) (by omega) (nI 1)) (fun r v' hq => ?_)
                    rw [hq.1, hq.2]
                    clear hq r v'
                    show ST G mi_Mo_decode 298 [(4, .int (nI z12)), (0, .ref 373), (1, .int (nI p)), (2, .ref src), (3, .int (nI pos))] [] v 0 0 _
                    refine ST.lift (fun _ _ k => T_aload_n (v := .ref 373) d_Mo_decode_298 rfl (Or.inr ⟨_, rfl⟩) k) ?_
                    refine ST.lift (fun _ _ k => T_iload_n d_Mo_decode_299 rfl k) ?_
                    refine ST.lift (fun _ _ k => T_iconst (v := nI 3) d_Mo_decode_300 (by decide) k) ?_
                    refine S_iaddN d_Mo_decode_301 ?_
                    refine ST.lift (fun _ _ k => T_bipush (v := nI 30) d_Mo_decode_302 (by decide) k) ?_
                    refine S_virtual (as := [.int (nI (p + 3)), .int (nI 30)]) (rest := []) (b := 373) d_Mo_decode_304 rfl (jw_Mo_set.jo (by decide)) lm_Mo_160 ji_Mo_set js_Mo_set (w373 _) rfl rfl rfl (Nat.le_of_ble_eq_true rfl) (by decide) (by decide) (c_Mo_set G v (p + 3) (by omega) 30 (by omega)) (fun r v' hq => ?_)
                    rw [hq.1, hq.2]
                    clear hq r v'
                    show ST G mi_Mo_decode 307 [(4, .int (nI z12)), (0, .ref 373), (1, .int (nI p)), (2, .ref src), (3, .int (nI pos))] [] v 0 0 _
                    refine ST.lift (fun _ _ k => T_iconst (v := nI 1) d_Mo_decode_307 (by decide) k) ?_
                    exact S_ret d_Mo_decode_308 rfl (by decide) (by decide) (by decide) (hQ 1 (by decide))
                  · refine ST.lift (fun _ _ k => T_iconst (v := nI 0) d_Mo_decode_272 (by decide) k) ?_
                    exact S_ret d_Mo_decode_273 rfl (by decide) (by decide) (by decide) (hQ 0 (by decide))
            refine S_if_eqN d_Mo_decode_197 rfl (by omega) (fun c14 => ?_) (fun c14 => ?_)
            · exact J209_15 
            · refine ST.lift (fun _ _ k => T_aload_n (v := .ref 373) d_Mo_decode_200 rfl (Or.inr ⟨_, rfl⟩) k) ?_
              refine ST.lift (fun _ _ k => T_bipush (v := nI 29) d_Mo_decode_201 (by decide) k) ?_
              refine ST.lift (fun _ _ k => T_iconst (v := nI 0) d_Mo_decode_203 (by decide) k) ?_
              refine ST.lift (fun _ _ k => T_bipush (v := nI 29) d_Mo_decode_204 (by decide) k) ?_
              refine S_virtual (as := [.int (nI 29), .int (nI 0), .int (nI 29)]) (rest := []) (b := 373) d_Mo_decode_206 rfl (jw_Mo_sub.jo (by decide)) lm_Mo_152 ji_Mo_sub js_Mo_sub (w373 _) rfl rfl rfl (Nat.le_of_ble_eq_true rfl) (by decide) (by decide) (c_Mo_sub G v 29 (by omega) 0 (by omega) 29 (by omega)) (fun r v' hq => ?_)
              rw [hq.1, hq.2]
              clear hq r v'
              show ST G mi_Mo_decode 209 [(4, .int (nI z12)), (0, .ref 373), (1, .int (nI p)), (2, .ref src), (3, .int (nI pos))] [] v 0 0 _
              exact J209_15 
          · refine ST.lift (fun _ _ k => T_aload_n (v := .ref 373) d_Mo_decode_40 rfl (Or.inr ⟨_, rfl⟩) k) ?_
            refine S_getfield d_Mo_decode_41 fg_Mo_146 (w373 _) rfl ?_
            refine ST.lift (fun _ _ k => T_iload d_Mo_decode_44 rfl k) ?_
            refine S_iaload d_Mo_decode_46 a394 (vp_in_nI (by omega) (by omega)) (fun z21 => ?_)
            refine ST.lift (fun _ _ k => T_aload_n (v := .ref src) d_Mo_decode_47 rfl (Or.inr ⟨_, rfl⟩) k) ?_
            refine ST.lift (fun _ _ k => T_iload_n d_Mo_decode_48 rfl k) ?_
            refine ST.lift (fun _ _ k => T_iload d_Mo_decode_49 rfl k) ?_
            refine S_iaddN d_Mo_decode_51 ?_
            refine S_iaload d_Mo_decode_52 a_src (vp_in_nI (by omega) (by omega)) (fun z22 => ?_)
            refine S_icmp_eq d_Mo_decode_53 rfl (fun c23 => ?_) (fun c23 => ?_)
            · refine S_iincN (a := k5) (b := 1) (L' := [(4, .int (nI (k5 + 1))), (0, .ref 373), (1, .int (nI p)), (2, .ref src), (3, .int (nI pos))]) d_Mo_decode_58 (by decide) rfl rfl rfl ?_
              refine ST.lift (fun _ _ k => T_goto (tgt := 33) d_Mo_decode_61 rfl k) ?_
              exact ih7 (32 - (k5 + 1)) (by omega) (k5 + 1)  rfl (by omega)
            · refine ST.lift (fun _ _ k => T_iconst (v := nI 0) d_Mo_decode_56 (by decide) k) ?_
              exact S_ret d_Mo_decode_57 rfl (by decide) (by decide) (by decide) (hQ 0 (by decide))
      exact lp8 _ 0  rfl (by omega)
    · refine ST.lift (fun _ _ k => T_iconst (v := nI 0) d_Mo_decode_28 (by decide) k) ?_
      exact S_ret d_Mo_decode_29 rfl (by decide) (by decide) (by decide) (hQ 0 (by decide))
set_option maxRecDepth 100000 in
set_option maxHeartbeats 4000000 in
theorem c_Mo_mapPart (G : GX) (v : Nat → Int32) (p : Nat) (b_p : p ≤ 60) (src m : Nat) (w_src : K0 ≤ src) (a_src : aI src m) (l_src : m ≤ 4000) (pos : Nat) (b_pos : pos + 32 ≤ m) : CS G mi_Mo_mapPart [.ref 373, .int (nI p), .ref src, .int (nI pos)] v (fun r v' => r = none ∧ v' = v) := by
  refine CS.of (by decide) (Nat.le_of_ble_eq_true rfl) ?_
  generalize hQe : (fun (r : Option Value) (v' : Nat → Int32) => r = none ∧ v' = v) = Q
  have hQ : Q none v := by rw [← hQe]; exact ⟨rfl, rfl⟩
  clear hQe
  show ST G mi_Mo_mapPart 0 [(0, .ref 373), (1, .int (nI p)), (2, .ref src), (3, .int (nI pos))] [] v 0 0 Q
  refine ST.lift (fun _ _ k => T_aload_n (v := .ref 373) d_Mo_mapPart_0 rfl (Or.inr ⟨_, rfl⟩) k) ?_
  refine ST.lift (fun _ _ k => T_bipush (v := nI 20) d_Mo_mapPart_1 (by decide) k) ?_
  refine ST.lift (fun _ _ k => T_aload_n (v := .ref src) d_Mo_mapPart_3 rfl (Or.inr ⟨_, rfl⟩) k) ?_
  refine ST.lift (fun _ _ k => T_iload_n d_Mo_mapPart_4 rfl k) ?_
  refine S_virtual (as := [.int (nI 20), .ref src, .int (nI pos)]) (rest := []) (b := 373) d_Mo_mapPart_5 rfl (jw_Mo_unpack.jo (by decide)) lm_Mo_201 ji_Mo_unpack js_Mo_unpack (w373 _) rfl rfl rfl (Nat.le_of_ble_eq_true rfl) (by decide) (by decide) (c_Mo_unpack G v 20 (by omega) src m w_src a_src (by omega) pos (by omega)) (fun r v' hq => ?_)
  rw [hq.1, hq.2]
  clear hq r v'
  show ST G mi_Mo_mapPart 8 [(0, .ref 373), (1, .int (nI p)), (2, .ref src), (3, .int (nI pos))] [] v 0 0 _
  refine ST.lift (fun _ _ k => T_aload_n (v := .ref 373) d_Mo_mapPart_8 rfl (Or.inr ⟨_, rfl⟩) k) ?_
  refine ST.lift (fun _ _ k => T_bipush (v := nI 21) d_Mo_mapPart_9 (by decide) k) ?_
  refine ST.lift (fun _ _ k => T_bipush (v := nI 20) d_Mo_mapPart_11 (by decide) k) ?_
  refine ST.lift (fun _ _ k => T_bipush (v := nI 20) d_Mo_mapPart_13 (by decide) k) ?_
  refine S_virtual (as := [.int (nI 21), .int (nI 20), .int (nI 20)]) (rest := []) (b := 373) d_Mo_mapPart_15 rfl (jw_Mo_mul.jo (by decide)) lm_Mo_163 ji_Mo_mul js_Mo_mul (w373 _) rfl rfl rfl (Nat.le_of_ble_eq_true rfl) (by decide) (by decide) (c_Mo_mul G v 21 (by omega) 20 (by omega) 20 (by omega)) (fun r v' hq => ?_)
  rw [hq.1, hq.2]
  clear hq r v'
  show ST G mi_Mo_mapPart 18 [(0, .ref 373), (1, .int (nI p)), (2, .ref src), (3, .int (nI pos))] [] v 0 0 _
  refine ST.lift (fun _ _ k => T_aload_n (v := .ref 373) d_Mo_mapPart_18 rfl (Or.inr ⟨_, rfl⟩) k) ?_
  refine ST.lift (fun _ _ k => T_bipush (v := nI 21) d_Mo_mapPart_19 (by decide) k) ?_
  refine ST.lift (fun _ _ k => T_bipush (v := nI 21) d_Mo_mapPart_21 (by decide) k) ?_
  refine ST.lift (fun _ _ k => T_iconst (v := nI 3) d_Mo_mapPart_23 (by decide) k) ?_
  refine S_virtual (as := [.int (nI 21), .int (nI 21), .int (nI 3)]) (rest := []) (b := 373) d_Mo_mapPart_24 rfl (jw_Mo_mul.jo (by decide)) lm_Mo_163 ji_Mo_mul js_Mo_mul (w373 _) rfl rfl rfl (Nat.le_of_ble_eq_true rfl) (by decide) (by decide) (c_Mo_mul G v 21 (by omega) 21 (by omega) 3 (by omega)) (fun r v' hq => ?_)
  rw [hq.1, hq.2]
  clear hq r v'
  show ST G mi_Mo_mapPart 27 [(0, .ref 373), (1, .int (nI p)), (2, .ref src), (3, .int (nI pos))] [] v 0 0 _
  refine ST.lift (fun _ _ k => T_aload_n (v := .ref 373) d_Mo_mapPart_27 rfl (Or.inr ⟨_, rfl⟩) k) ?_
  refine ST.lift (fun _ _ k => T_bipush (v := nI 22) d_Mo_mapPart_28 (by decide) k) ?_
  refine ST.lift (fun _ _ k => T_bipush (v := nI 21) d_Mo_mapPart_30 (by decide) k) ?_
  refine ST.lift (fun _ _ k => T_iconst (v := nI 1) d_Mo_mapPart_32 (by decide) k) ?_
  refine S_virtual (as := [.int (nI 22), .int (nI 21), .int (nI 1)]) (rest := []) (b := 373) d_Mo_mapPart_33 rfl (jw_Mo_add.jo (by decide)) lm_Mo_182 ji_Mo_add js_Mo_add (w373 _) rfl rfl rfl (Nat.le_of_ble_eq_true rfl) (by decide) (by decide) (c_Mo_add G v 22 (by omega) 21 (by omega) 1 (by omega)) (fun r v' hq => ?_)
  rw [hq.1, hq.2]
  clear hq r v'
  show ST G mi_Mo_mapPart 36 [(0, .ref 373), (1, .int (nI p)), (2, .ref src), (3, .int (nI pos))] [] v 0 0 _
  refine ST.lift (fun _ _ k => T_aload_n (v := .ref 373) d_Mo_mapPart_36 rfl (Or.inr ⟨_, rfl⟩) k) ?_
  refine ST.lift (fun _ _ k => T_bipush (v := nI 22) d_Mo_mapPart_37 (by decide) k) ?_
  refine ST.lift (fun _ _ k => T_bipush (v := nI 22) d_Mo_mapPart_39 (by decide) k) ?_
  refine ST.lift (fun _ _ k => T_bipush (v := nI 6) d_Mo_mapPart_41 (by decide) k) ?_
  refine S_virtual (as := [.int (nI 22), .int (nI 22), .int (nI 6)]) (rest := []) (b := 373) d_Mo_mapPart_43 rfl (jw_Mo_mul.jo (by decide)) lm_Mo_163 ji_Mo_mul js_Mo_mul (w373 _) rfl rfl rfl (Nat.le_of_ble_eq_true rfl) (by decide) (by decide) (c_Mo_mul G v 22 (by omega) 22 (by omega) 6 (by omega)) (fun r v' hq => ?_)
  rw [hq.1, hq.2]
  clear hq r v'
  show ST G mi_Mo_mapPart 46 [(0, .ref 373), (1, .int (nI p)), (2, .ref src), (3, .int (nI pos))] [] v 0 0 _
  refine ST.lift (fun _ _ k => T_aload_n (v := .ref 373) d_Mo_mapPart_46 rfl (Or.inr ⟨_, rfl⟩) k) ?_
  refine ST.lift (fun _ _ k => T_bipush (v := nI 23) d_Mo_mapPart_47 (by decide) k) ?_
  refine ST.lift (fun _ _ k => T_bipush (v := nI 21) d_Mo_mapPart_49 (by decide) k) ?_
  refine ST.lift (fun _ _ k => T_iconst (v := nI 2) d_Mo_mapPart_51 (by decide) k) ?_
  refine S_virtual (as := [.int (nI 23), .int (nI 21), .int (nI 2)]) (rest := []) (b := 373) d_Mo_mapPart_52 rfl (jw_Mo_mul.jo (by decide)) lm_Mo_163 ji_Mo_mul js_Mo_mul (w373 _) rfl rfl rfl (Nat.le_of_ble_eq_true rfl) (by decide) (by decide) (c_Mo_mul G v 23 (by omega) 21 (by omega) 2 (by omega)) (fun r v' hq => ?_)
  rw [hq.1, hq.2]
  clear hq r v'
  show ST G mi_Mo_mapPart 55 [(0, .ref 373), (1, .int (nI p)), (2, .ref src), (3, .int (nI pos))] [] v 0 0 _
  refine ST.lift (fun _ _ k => T_aload_n (v := .ref 373) d_Mo_mapPart_55 rfl (Or.inr ⟨_, rfl⟩) k) ?_
  refine ST.lift (fun _ _ k => T_bipush (v := nI 23) d_Mo_mapPart_56 (by decide) k) ?_
  refine ST.lift (fun _ _ k => T_bipush (v := nI 23) d_Mo_mapPart_58 (by decide) k) ?_
  refine ST.lift (fun _ _ k => T_iconst (v := nI 1) d_Mo_mapPart_60 (by decide) k) ?_
  refine S_virtual (as := [.int (nI 23), .int (nI 23), .int (nI 1)]) (rest := []) (b := 373) d_Mo_mapPart_61 rfl (jw_Mo_add.jo (by decide)) lm_Mo_182 ji_Mo_add js_Mo_add (w373 _) rfl rfl rfl (Nat.le_of_ble_eq_true rfl) (by decide) (by decide) (c_Mo_add G v 23 (by omega) 23 (by omega) 1 (by omega)) (fun r v' hq => ?_)
  rw [hq.1, hq.2]
  clear hq r v'
  show ST G mi_Mo_mapPart 64 [(0, .ref 373), (1, .int (nI p)), (2, .ref src), (3, .int (nI pos))] [] v 0 0 _
  refine ST.lift (fun _ _ k => T_aload_n (v := .ref 373) d_Mo_mapPart_64 rfl (Or.inr ⟨_, rfl⟩) k) ?_
  refine ST.lift (fun _ _ k => T_bipush (v := nI 23) d_Mo_mapPart_65 (by decide) k) ?_
  refine ST.lift (fun _ _ k => T_iconst (v := nI 0) d_Mo_mapPart_67 (by decide) k) ?_
  refine ST.lift (fun _ _ k => T_bipush (v := nI 23) d_Mo_mapPart_68 (by decide) k) ?_
  refine S_virtual (as := [.int (nI 23), .int (nI 0), .int (nI 23)]) (rest := []) (b := 373) d_Mo_mapPart_70 rfl (jw_Mo_sub.jo (by decide)) lm_Mo_152 ji_Mo_sub js_Mo_sub (w373 _) rfl rfl rfl (Nat.le_of_ble_eq_true rfl) (by decide) (by decide) (c_Mo_sub G v 23 (by omega) 0 (by omega) 23 (by omega)) (fun r v' hq => ?_)
  rw [hq.1, hq.2]
  clear hq r v'
  show ST G mi_Mo_mapPart 73 [(0, .ref 373), (1, .int (nI p)), (2, .ref src), (3, .int (nI pos))] [] v 0 0 _
  refine ST.lift (fun _ _ k => T_aload_n (v := .ref 373) d_Mo_mapPart_73 rfl (Or.inr ⟨_, rfl⟩) k) ?_
  refine ST.lift (fun _ _ k => T_bipush (v := nI 24) d_Mo_mapPart_74 (by decide) k) ?_
  refine ST.lift (fun _ _ k => T_bipush (v := nI 21) d_Mo_mapPart_76 (by decide) k) ?_
  refine ST.lift (fun _ _ k => T_iconst (v := nI 2) d_Mo_mapPart_78 (by decide) k) ?_
  refine S_virtual (as := [.int (nI 24), .int (nI 21), .int (nI 2)]) (rest := []) (b := 373) d_Mo_mapPart_79 rfl (jw_Mo_add.jo (by decide)) lm_Mo_182 ji_Mo_add js_Mo_add (w373 _) rfl rfl rfl (Nat.le_of_ble_eq_true rfl) (by decide) (by decide) (c_Mo_add G v 24 (by omega) 21 (by omega) 2 (by omega)) (fun r v' hq => ?_)
  rw [hq.1, hq.2]
  clear hq r v'
  show ST G mi_Mo_mapPart 82 [(0, .ref 373), (1, .int (nI p)), (2, .ref src), (3, .int (nI pos))] [] v 0 0 _
  refine ST.lift (fun _ _ k => T_aload_n (v := .ref 373) d_Mo_mapPart_82 rfl (Or.inr ⟨_, rfl⟩) k) ?_
  refine ST.lift (fun _ _ k => T_bipush (v := nI 23) d_Mo_mapPart_83 (by decide) k) ?_
  refine ST.lift (fun _ _ k => T_bipush (v := nI 23) d_Mo_mapPart_85 (by decide) k) ?_
  refine ST.lift (fun _ _ k => T_bipush (v := nI 24) d_Mo_mapPart_87 (by decide) k) ?_
  refine S_virtual (as := [.int (nI 23), .int (nI 23), .int (nI 24)]) (rest := []) (b := 373) d_Mo_mapPart_89 rfl (jw_Mo_mul.jo (by decide)) lm_Mo_163 ji_Mo_mul js_Mo_mul (w373 _) rfl rfl rfl (Nat.le_of_ble_eq_true rfl) (by decide) (by decide) (c_Mo_mul G v 23 (by omega) 23 (by omega) 24 (by omega)) (fun r v' hq => ?_)
  rw [hq.1, hq.2]
  clear hq r v'
  show ST G mi_Mo_mapPart 92 [(0, .ref 373), (1, .int (nI p)), (2, .ref src), (3, .int (nI pos))] [] v 0 0 _
  refine ST.lift (fun _ _ k => T_aload_n (v := .ref 373) d_Mo_mapPart_92 rfl (Or.inr ⟨_, rfl⟩) k) ?_
  refine ST.lift (fun _ _ k => T_bipush (v := nI 25) d_Mo_mapPart_93 (by decide) k) ?_
  refine ST.lift (fun _ _ k => T_bipush (v := nI 22) d_Mo_mapPart_95 (by decide) k) ?_
  refine ST.lift (fun _ _ k => T_bipush (v := nI 23) d_Mo_mapPart_97 (by decide) k) ?_
  refine S_virtual (as := [.int (nI 25), .int (nI 22), .int (nI 23)]) (rest := []) (b := 373) d_Mo_mapPart_99 rfl (jw_Mo_root.jo (by decide)) lm_Mo_197 ji_Mo_root js_Mo_root (w373 _) rfl rfl rfl (Nat.le_of_ble_eq_true rfl) (by decide) (by decide) (c_Mo_root G v 25 (by omega) 22 (by omega) 23 (by omega)) (fun r v' hq => ?_)
  obtain ⟨z1, hz1, hr, hv⟩ := hq
  rw [hr, hv]
  clear hr hv r v'
  show ST G mi_Mo_mapPart 102 [(0, .ref 373), (1, .int (nI p)), (2, .ref src), (3, .int (nI pos))] [.int (nI z1)] v 0 0 _
  refine ST.lift (fun _ _ k => T_istore (L' := [(4, .int (nI z1)), (0, .ref 373), (1, .int (nI p)), (2, .ref src), (3, .int (nI pos))]) d_Mo_mapPart_102 (by decide) rfl k) ?_
  refine ST.lift (fun _ _ k => T_aload_n (v := .ref 373) d_Mo_mapPart_104 rfl (Or.inr ⟨_, rfl⟩) k) ?_
  refine ST.lift (fun _ _ k => T_bipush (v := nI 26) d_Mo_mapPart_105 (by decide) k) ?_
  refine ST.lift (fun _ _ k => T_iconst (v := nI 0) d_Mo_mapPart_107 (by decide) k) ?_
  refine ST.lift (fun _ _ k => T_iconst (v := nI 1) d_Mo_mapPart_108 (by decide) k) ?_
  refine S_virtual (as := [.int (nI 26), .int (nI 0), .int (nI 1)]) (rest := []) (b := 373) d_Mo_mapPart_109 rfl (jw_Mo_sub.jo (by decide)) lm_Mo_152 ji_Mo_sub js_Mo_sub (w373 _) rfl rfl rfl (Nat.le_of_ble_eq_true rfl) (by decide) (by decide) (c_Mo_sub G v 26 (by omega) 0 (by omega) 1 (by omega)) (fun r v' hq => ?_)
  rw [hq.1, hq.2]
  clear hq r v'
  show ST G mi_Mo_mapPart 112 [(4, .int (nI z1)), (0, .ref 373), (1, .int (nI p)), (2, .ref src), (3, .int (nI pos))] [] v 0 0 _
  refine ST.lift (fun _ _ k => T_iload d_Mo_mapPart_112 rfl k) ?_
  have J153_6 : ST G mi_Mo_mapPart 153 [(4, .int (nI z1)), (0, .ref 373), (1, .int (nI p)), (2, .ref src), (3, .int (nI pos))] [] v 0 0 Q := by
    refine ST.lift (fun _ _ k => T_aload_n (v := .ref 373) d_Mo_mapPart_153 rfl (Or.inr ⟨_, rfl⟩) k) ?_
    refine ST.lift (fun _ _ k => T_bipush (v := nI 27) d_Mo_mapPart_154 (by decide) k) ?_
    refine ST.lift (fun _ _ k => T_bipush (v := nI 21) d_Mo_mapPart_156 (by decide) k) ?_
    refine ST.lift (fun _ _ k => T_iconst (v := nI 1) d_Mo_mapPart_158 (by decide) k) ?_
    refine S_virtual (as := [.int (nI 27), .int (nI 21), .int (nI 1)]) (rest := []) (b := 373) d_Mo_mapPart_159 rfl (jw_Mo_sub.jo (by decide)) lm_Mo_152 ji_Mo_sub js_Mo_sub (w373 _) rfl rfl rfl (Nat.le_of_ble_eq_true rfl) (by decide) (by decide) (c_Mo_sub G v 27 (by omega) 21 (by omega) 1 (by omega)) (fun r v' hq => ?_)
    rw [hq.1, hq.2]
    clear hq r v'
    show ST G mi_Mo_mapPart 162 [(4, .int (nI z1)), (0, .ref 373), (1, .int (nI p)), (2, .ref src), (3, .int (nI pos))] [] v 0 0 _
    refine ST.lift (fun _ _ k => T_aload_n (v := .ref 373) d_Mo_mapPart_162 rfl (Or.inr ⟨_, rfl⟩) k) ?_
    refine ST.lift (fun _ _ k => T_bipush (v := nI 27) d_Mo_mapPart_163 (by decide) k) ?_
    refine ST.lift (fun _ _ k => T_bipush (v := nI 27) d_Mo_mapPart_165 (by decide) k) ?_
    refine ST.lift (fun _ _ k => T_bipush (v := nI 26) d_Mo_mapPart_167 (by decide) k) ?_
    refine S_virtual (as := [.int (nI 27), .int (nI 27), .int (nI 26)]) (rest := []) (b := 373) d_Mo_mapPart_169 rfl (jw_Mo_mul.jo (by decide)) lm_Mo_163 ji_Mo_mul js_Mo_mul (w373 _) rfl rfl rfl (Nat.le_of_ble_eq_true rfl) (by decide) (by decide) (c_Mo_mul G v 27 (by omega) 27 (by omega) 26 (by omega)) (fun r v' hq => ?_)
    rw [hq.1, hq.2]
    clear hq r v'
    show ST G mi_Mo_mapPart 172 [(4, .int (nI z1)), (0, .ref 373), (1, .int (nI p)), (2, .ref src), (3, .int (nI pos))] [] v 0 0 _
    refine ST.lift (fun _ _ k => T_aload_n (v := .ref 373) d_Mo_mapPart_172 rfl (Or.inr ⟨_, rfl⟩) k) ?_
    refine ST.lift (fun _ _ k => T_bipush (v := nI 27) d_Mo_mapPart_173 (by decide) k) ?_
    refine ST.lift (fun _ _ k => T_bipush (v := nI 27) d_Mo_mapPart_175 (by decide) k) ?_
    refine ST.lift (fun _ _ k => T_bipush (v := nI 7) d_Mo_mapPart_177 (by decide) k) ?_
    refine S_virtual (as := [.int (nI 27), .int (nI 27), .int (nI 7)]) (rest := []) (b := 373) d_Mo_mapPart_179 rfl (jw_Mo_mul.jo (by decide)) lm_Mo_163 ji_Mo_mul js_Mo_mul (w373 _) rfl rfl rfl (Nat.le_of_ble_eq_true rfl) (by decide) (by decide) (c_Mo_mul G v 27 (by omega) 27 (by omega) 7 (by omega)) (fun r v' hq => ?_)
    rw [hq.1, hq.2]
    clear hq r v'
    show ST G mi_Mo_mapPart 182 [(4, .int (nI z1)), (0, .ref 373), (1, .int (nI p)), (2, .ref src), (3, .int (nI pos))] [] v 0 0 _
    refine ST.lift (fun _ _ k => T_aload_n (v := .ref 373) d_Mo_mapPart_182 rfl (Or.inr ⟨_, rfl⟩) k) ?_
    refine ST.lift (fun _ _ k => T_bipush (v := nI 27) d_Mo_mapPart_183 (by decide) k) ?_
    refine ST.lift (fun _ _ k => T_bipush (v := nI 27) d_Mo_mapPart_185 (by decide) k) ?_
    refine ST.lift (fun _ _ k => T_bipush (v := nI 23) d_Mo_mapPart_187 (by decide) k) ?_
    refine S_virtual (as := [.int (nI 27), .int (nI 27), .int (nI 23)]) (rest := []) (b := 373) d_Mo_mapPart_189 rfl (jw_Mo_sub.jo (by decide)) lm_Mo_152 ji_Mo_sub js_Mo_sub (w373 _) rfl rfl rfl (Nat.le_of_ble_eq_true rfl) (by decide) (by decide) (c_Mo_sub G v 27 (by omega) 27 (by omega) 23 (by omega)) (fun r v' hq => ?_)
    rw [hq.1, hq.2]
    clear hq r v'
    show ST G mi_Mo_mapPart 192 [(4, .int (nI z1)), (0, .ref 373), (1, .int (nI p)), (2, .ref src), (3, .int (nI pos))] [] v 0 0 _
    refine ST.lift (fun _ _ k => T_aload_n (v := .ref 373) d_Mo_mapPart_192 rfl (Or.inr ⟨_, rfl⟩) k) ?_
    refine ST.lift (fun _ _ k => T_bipush (v := nI 28) d_Mo_mapPart_193 (by decide) k) ?_
    refine ST.lift (fun _ _ k => T_bipush (v := nI 25) d_Mo_mapPart_195 (by decide) k) ?_
    refine ST.lift (fun _ _ k => T_bipush (v := nI 25) d_Mo_mapPart_197 (by decide) k) ?_
    refine S_virtual (as := [.int (nI 28), .int (nI 25), .int (nI 25)]) (rest := []) (b := 373) d_Mo_mapPart_199 rfl (jw_Mo_add.jo (by decide)) lm_Mo_182 ji_Mo_add js_Mo_add (w373 _) rfl rfl rfl (Nat.le_of_ble_eq_true rfl) (by decide) (by decide) (c_Mo_add G v 28 (by omega) 25 (by omega) 25 (by omega)) (fun r v' hq => ?_)
    rw [hq.1, hq.2]
    clear hq r v'
    show ST G mi_Mo_mapPart 202 [(4, .int (nI z1)), (0, .ref 373), (1, .int (nI p)), (2, .ref src), (3, .int (nI pos))] [] v 0 0 _
    refine ST.lift (fun _ _ k => T_aload_n (v := .ref 373) d_Mo_mapPart_202 rfl (Or.inr ⟨_, rfl⟩) k) ?_
    refine ST.lift (fun _ _ k => T_bipush (v := nI 28) d_Mo_mapPart_203 (by decide) k) ?_
    refine ST.lift (fun _ _ k => T_bipush (v := nI 28) d_Mo_mapPart_205 (by decide) k) ?_
    refine ST.lift (fun _ _ k => T_bipush (v := nI 23) d_Mo_mapPart_207 (by decide) k) ?_
    refine S_virtual (as := [.int (nI 28), .int (nI 28), .int (nI 23)]) (rest := []) (b := 373) d_Mo_mapPart_209 rfl (jw_Mo_mul.jo (by decide)) lm_Mo_163 ji_Mo_mul js_Mo_mul (w373 _) rfl rfl rfl (Nat.le_of_ble_eq_true rfl) (by decide) (by decide) (c_Mo_mul G v 28 (by omega) 28 (by omega) 23 (by omega)) (fun r v' hq => ?_)
    rw [hq.1, hq.2]
    clear hq r v'
    show ST G mi_Mo_mapPart 212 [(4, .int (nI z1)), (0, .ref 373), (1, .int (nI p)), (2, .ref src), (3, .int (nI pos))] [] v 0 0 _
    refine ST.lift (fun _ _ k => T_aload_n (v := .ref 373) d_Mo_mapPart_212 rfl (Or.inr ⟨_, rfl⟩) k) ?_
    refine ST.lift (fun _ _ k => T_bipush (v := nI 29) d_Mo_mapPart_213 (by decide) k) ?_
    refine ST.lift (fun _ _ k => T_bipush (v := nI 27) d_Mo_mapPart_215 (by decide) k) ?_
    refine ST.lift (fun _ _ k => T_iconst (v := nI 5) d_Mo_mapPart_217 (by decide) k) ?_
    refine S_virtual (as := [.int (nI 29), .int (nI 27), .int (nI 5)]) (rest := []) (b := 373) d_Mo_mapPart_218 rfl (jw_Mo_mul.jo (by decide)) lm_Mo_163 ji_Mo_mul js_Mo_mul (w373 _) rfl rfl rfl (Nat.le_of_ble_eq_true rfl) (by decide) (by decide) (c_Mo_mul G v 29 (by omega) 27 (by omega) 5 (by omega)) (fun r v' hq => ?_)
    rw [hq.1, hq.2]
    clear hq r v'
    show ST G mi_Mo_mapPart 221 [(4, .int (nI z1)), (0, .ref 373), (1, .int (nI p)), (2, .ref src), (3, .int (nI pos))] [] v 0 0 _
    refine ST.lift (fun _ _ k => T_aload_n (v := .ref 373) d_Mo_mapPart_221 rfl (Or.inr ⟨_, rfl⟩) k) ?_
    refine ST.lift (fun _ _ k => T_bipush (v := nI 30) d_Mo_mapPart_222 (by decide) k) ?_
    refine ST.lift (fun _ _ k => T_bipush (v := nI 25) d_Mo_mapPart_224 (by decide) k) ?_
    refine ST.lift (fun _ _ k => T_bipush (v := nI 25) d_Mo_mapPart_226 (by decide) k) ?_
    refine S_virtual (as := [.int (nI 30), .int (nI 25), .int (nI 25)]) (rest := []) (b := 373) d_Mo_mapPart_228 rfl (jw_Mo_mul.jo (by decide)) lm_Mo_163 ji_Mo_mul js_Mo_mul (w373 _) rfl rfl rfl (Nat.le_of_ble_eq_true rfl) (by decide) (by decide) (c_Mo_mul G v 30 (by omega) 25 (by omega) 25 (by omega)) (fun r v' hq => ?_)
    rw [hq.1, hq.2]
    clear hq r v'
    show ST G mi_Mo_mapPart 231 [(4, .int (nI z1)), (0, .ref 373), (1, .int (nI p)), (2, .ref src), (3, .int (nI pos))] [] v 0 0 _
    refine ST.lift (fun _ _ k => T_aload_n (v := .ref 373) d_Mo_mapPart_231 rfl (Or.inr ⟨_, rfl⟩) k) ?_
    refine ST.lift (fun _ _ k => T_bipush (v := nI 31) d_Mo_mapPart_232 (by decide) k) ?_
    refine ST.lift (fun _ _ k => T_iconst (v := nI 1) d_Mo_mapPart_234 (by decide) k) ?_
    refine ST.lift (fun _ _ k => T_bipush (v := nI 30) d_Mo_mapPart_235 (by decide) k) ?_
    refine S_virtual (as := [.int (nI 31), .int (nI 1), .int (nI 30)]) (rest := []) (b := 373) d_Mo_mapPart_237 rfl (jw_Mo_sub.jo (by decide)) lm_Mo_152 ji_Mo_sub js_Mo_sub (w373 _) rfl rfl rfl (Nat.le_of_ble_eq_true rfl) (by decide) (by decide) (c_Mo_sub G v 31 (by omega) 1 (by omega) 30 (by omega)) (fun r v' hq => ?_)
    rw [hq.1, hq.2]
    clear hq r v'
    show ST G mi_Mo_mapPart 240 [(4, .int (nI z1)), (0, .ref 373), (1, .int (nI p)), (2, .ref src), (3, .int (nI pos))] [] v 0 0 _
    refine ST.lift (fun _ _ k => T_aload_n (v := .ref 373) d_Mo_mapPart_240 rfl (Or.inr ⟨_, rfl⟩) k) ?_
    refine ST.lift (fun _ _ k => T_bipush (v := nI 30) d_Mo_mapPart_241 (by decide) k) ?_
    refine ST.lift (fun _ _ k => T_iconst (v := nI 1) d_Mo_mapPart_243 (by decide) k) ?_
    refine ST.lift (fun _ _ k => T_bipush (v := nI 30) d_Mo_mapPart_244 (by decide) k) ?_
    refine S_virtual (as := [.int (nI 30), .int (nI 1), .int (nI 30)]) (rest := []) (b := 373) d_Mo_mapPart_246 rfl (jw_Mo_add.jo (by decide)) lm_Mo_182 ji_Mo_add js_Mo_add (w373 _) rfl rfl rfl (Nat.le_of_ble_eq_true rfl) (by decide) (by decide) (c_Mo_add G v 30 (by omega) 1 (by omega) 30 (by omega)) (fun r v' hq => ?_)
    rw [hq.1, hq.2]
    clear hq r v'
    show ST G mi_Mo_mapPart 249 [(4, .int (nI z1)), (0, .ref 373), (1, .int (nI p)), (2, .ref src), (3, .int (nI pos))] [] v 0 0 _
    refine ST.lift (fun _ _ k => T_aload_n (v := .ref 373) d_Mo_mapPart_249 rfl (Or.inr ⟨_, rfl⟩) k) ?_
    refine ST.lift (fun _ _ k => T_iload_n d_Mo_mapPart_250 rfl k) ?_
    refine ST.lift (fun _ _ k => T_bipush (v := nI 28) d_Mo_mapPart_251 (by decide) k) ?_
    refine ST.lift (fun _ _ k => T_bipush (v := nI 30) d_Mo_mapPart_253 (by decide) k) ?_
    refine S_virtual (as := [.int (nI p), .int (nI 28), .int (nI 30)]) (rest := []) (b := 373) d_Mo_mapPart_255 rfl (jw_Mo_mul.jo (by decide)) lm_Mo_163 ji_Mo_mul js_Mo_mul (w373 _) rfl rfl rfl (Nat.le_of_ble_eq_true rfl) (by decide) (by decide) (c_Mo_mul G v p (by omega) 28 (by omega) 30 (by omega)) (fun r v' hq => ?_)
    rw [hq.1, hq.2]
    clear hq r v'
    show ST G mi_Mo_mapPart 258 [(4, .int (nI z1)), (0, .ref 373), (1, .int (nI p)), (2, .ref src), (3, .int (nI pos))] [] v 0 0 _
    refine ST.lift (fun _ _ k => T_aload_n (v := .ref 373) d_Mo_mapPart_258 rfl (Or.inr ⟨_, rfl⟩) k) ?_
    refine ST.lift (fun _ _ k => T_iload_n d_Mo_mapPart_259 rfl k) ?_
    refine ST.lift (fun _ _ k => T_iconst (v := nI 1) d_Mo_mapPart_260 (by decide) k) ?_
    refine S_iaddN d_Mo_mapPart_261 ?_
    refine ST.lift (fun _ _ k => T_bipush (v := nI 31) d_Mo_mapPart_262 (by decide) k) ?_
    refine ST.lift (fun _ _ k => T_bipush (v := nI 29) d_Mo_mapPart_264 (by decide) k) ?_
    refine S_virtual (as := [.int (nI (p + 1)), .int (nI 31), .int (nI 29)]) (rest := []) (b := 373) d_Mo_mapPart_266 rfl (jw_Mo_mul.jo (by decide)) lm_Mo_163 ji_Mo_mul js_Mo_mul (w373 _) rfl rfl rfl (Nat.le_of_ble_eq_true rfl) (by decide) (by decide) (c_Mo_mul G v (p + 1) (by omega) 31 (by omega) 29 (by omega)) (fun r v' hq => ?_)
    rw [hq.1, hq.2]
    clear hq r v'
    show ST G mi_Mo_mapPart 269 [(4, .int (nI z1)), (0, .ref 373), (1, .int (nI p)), (2, .ref src), (3, .int (nI pos))] [] v 0 0 _
    refine ST.lift (fun _ _ k => T_aload_n (v := .ref 373) d_Mo_mapPart_269 rfl (Or.inr ⟨_, rfl⟩) k) ?_
    refine ST.lift (fun _ _ k => T_iload_n d_Mo_mapPart_270 rfl k) ?_
    refine ST.lift (fun _ _ k => T_iconst (v := nI 2) d_Mo_mapPart_271 (by decide) k) ?_
    refine S_iaddN d_Mo_mapPart_272 ?_
    refine ST.lift (fun _ _ k => T_bipush (v := nI 29) d_Mo_mapPart_273 (by decide) k) ?_
    refine ST.lift (fun _ _ k => T_bipush (v := nI 30) d_Mo_mapPart_275 (by decide) k) ?_
    refine S_virtual (as := [.int (nI (p + 2)), .int (nI 29), .int (nI 30)]) (rest := []) (b := 373) d_Mo_mapPart_277 rfl (jw_Mo_mul.jo (by decide)) lm_Mo_163 ji_Mo_mul js_Mo_mul (w373 _) rfl rfl rfl (Nat.le_of_ble_eq_true rfl) (by decide) (by decide) (c_Mo_mul G v (p + 2) (by omega) 29 (by omega) 30 (by omega)) (fun r v' hq => ?_)
    rw [hq.1, hq.2]
    clear hq r v'
    show ST G mi_Mo_mapPart 280 [(4, .int (nI z1)), (0, .ref 373), (1, .int (nI p)), (2, .ref src), (3, .int (nI pos))] [] v 0 0 _
    refine ST.lift (fun _ _ k => T_aload_n (v := .ref 373) d_Mo_mapPart_280 rfl (Or.inr ⟨_, rfl⟩) k) ?_
    refine ST.lift (fun _ _ k => T_iload_n d_Mo_mapPart_281 rfl k) ?_
    refine ST.lift (fun _ _ k => T_iconst (v := nI 3) d_Mo_mapPart_282 (by decide) k) ?_
    refine S_iaddN d_Mo_mapPart_283 ?_
    refine ST.lift (fun _ _ k => T_bipush (v := nI 28) d_Mo_mapPart_284 (by decide) k) ?_
    refine ST.lift (fun _ _ k => T_bipush (v := nI 31) d_Mo_mapPart_286 (by decide) k) ?_
    refine S_virtual (as := [.int (nI (p + 3)), .int (nI 28), .int (nI 31)]) (rest := []) (b := 373) d_Mo_mapPart_288 rfl (jw_Mo_mul.jo (by decide)) lm_Mo_163 ji_Mo_mul js_Mo_mul (w373 _) rfl rfl rfl (Nat.le_of_ble_eq_true rfl) (by decide) (by decide) (c_Mo_mul G v (p + 3) (by omega) 28 (by omega) 31 (by omega)) (fun r v' hq => ?_)
    rw [hq.1, hq.2]
    clear hq r v'
    show ST G mi_Mo_mapPart 291 [(4, .int (nI z1)), (0, .ref 373), (1, .int (nI p)), (2, .ref src), (3, .int (nI pos))] [] v 0 0 _
    exact S_vret d_Mo_mapPart_291 rfl (by decide) (by decide) hQ
  refine S_if_neN d_Mo_mapPart_114 rfl (by omega) (fun c2 => ?_) (fun c2 => ?_)
  · exact J153_6 
  · refine ST.lift (fun _ _ k => T_aload_n (v := .ref 373) d_Mo_mapPart_117 rfl (Or.inr ⟨_, rfl⟩) k) ?_
    refine ST.lift (fun _ _ k => T_bipush (v := nI 25) d_Mo_mapPart_118 (by decide) k) ?_
    refine ST.lift (fun _ _ k => T_bipush (v := nI 25) d_Mo_mapPart_120 (by decide) k) ?_
    refine ST.lift (fun _ _ k => T_bipush (v := nI 20) d_Mo_mapPart_122 (by decide) k) ?_
    refine S_virtual (as := [.int (nI 25), .int (nI 25), .int (nI 20)]) (rest := []) (b := 373) d_Mo_mapPart_124 rfl (jw_Mo_mul.jo (by decide)) lm_Mo_163 ji_Mo_mul js_Mo_mul (w373 _) rfl rfl rfl (Nat.le_of_ble_eq_true rfl) (by decide) (by decide) (c_Mo_mul G v 25 (by omega) 25 (by omega) 20 (by omega)) (fun r v' hq => ?_)
    rw [hq.1, hq.2]
    clear hq r v'
    show ST G mi_Mo_mapPart 127 [(4, .int (nI z1)), (0, .ref 373), (1, .int (nI p)), (2, .ref src), (3, .int (nI pos))] [] v 0 0 _
    refine ST.lift (fun _ _ k => T_aload_n (v := .ref 373) d_Mo_mapPart_127 rfl (Or.inr ⟨_, rfl⟩) k) ?_
    refine ST.lift (fun _ _ k => T_bipush (v := nI 25) d_Mo_mapPart_128 (by decide) k) ?_
    refine S_virtual (as := [.int (nI 25)]) (rest := []) (b := 373) d_Mo_mapPart_130 rfl (jw_Mo_odd.jo (by decide)) lm_Mo_174 ji_Mo_odd js_Mo_odd (w373 _) rfl rfl rfl (Nat.le_of_ble_eq_true rfl) (by decide) (by decide) (c_Mo_odd G v 25 (by omega)) (fun r v' hq => ?_)
    obtain ⟨z7, hz7, hr, hv⟩ := hq
    rw [hr, hv]
    clear hr hv r v'
    show ST G mi_Mo_mapPart 133 [(4, .int (nI z1)), (0, .ref 373), (1, .int (nI p)), (2, .ref src), (3, .int (nI pos))] [.int (nI z7)] v 0 0 _
    have J145_9 : ST G mi_Mo_mapPart 145 [(4, .int (nI z1)), (0, .ref 373), (1, .int (nI p)), (2, .ref src), (3, .int (nI pos))] [] v 0 0 Q := by
      refine ST.lift (fun _ _ k => T_aload_n (v := .ref 373) d_Mo_mapPart_145 rfl (Or.inr ⟨_, rfl⟩) k) ?_
      refine ST.lift (fun _ _ k => T_bipush (v := nI 26) d_Mo_mapPart_146 (by decide) k) ?_
      refine ST.lift (fun _ _ k => T_bipush (v := nI 21) d_Mo_mapPart_148 (by decide) k) ?_
      refine S_virtual (as := [.int (nI 26), .int (nI 21)]) (rest := []) (b := 373) d_Mo_mapPart_150 rfl (jw_Mo_set.jo (by decide)) lm_Mo_160 ji_Mo_set js_Mo_set (w373 _) rfl rfl rfl (Nat.le_of_ble_eq_true rfl) (by decide) (by decide) (c_Mo_set G v 26 (by omega) 21 (by omega)) (fun r v' hq => ?_)
      rw [hq.1, hq.2]
      clear hq r v'
      show ST G mi_Mo_mapPart 153 [(4, .int (nI z1)), (0, .ref 373), (1, .int (nI p)), (2, .ref src), (3, .int (nI pos))] [] v 0 0 _
      exact J153_6 
    refine S_if_neN d_Mo_mapPart_133 rfl (by omega) (fun c8 => ?_) (fun c8 => ?_)
    · exact J145_9 
    · refine ST.lift (fun _ _ k => T_aload_n (v := .ref 373) d_Mo_mapPart_136 rfl (Or.inr ⟨_, rfl⟩) k) ?_
      refine ST.lift (fun _ _ k => T_bipush (v := nI 25) d_Mo_mapPart_137 (by decide) k) ?_
      refine ST.lift (fun _ _ k => T_iconst (v := nI 0) d_Mo_mapPart_139 (by decide) k) ?_
      refine ST.lift (fun _ _ k => T_bipush (v := nI 25) d_Mo_mapPart_140 (by decide) k) ?_
      refine S_virtual (as := [.int (nI 25), .int (nI 0), .int (nI 25)]) (rest := []) (b := 373) d_Mo_mapPart_142 rfl (jw_Mo_sub.jo (by decide)) lm_Mo_152 ji_Mo_sub js_Mo_sub (w373 _) rfl rfl rfl (Nat.le_of_ble_eq_true rfl) (by decide) (by decide) (c_Mo_sub G v 25 (by omega) 0 (by omega) 25 (by omega)) (fun r v' hq => ?_)
      rw [hq.1, hq.2]
      clear hq r v'
      show ST G mi_Mo_mapPart 145 [(4, .int (nI z1)), (0, .ref 373), (1, .int (nI p)), (2, .ref src), (3, .int (nI pos))] [] v 0 0 _
      exact J145_9 
set_option maxRecDepth 100000 in
set_option maxHeartbeats 4000000 in
theorem c_Mo_constants (G : GX) (v : Nat → Int32) : CS G mi_Mo_constants [.ref 373] v (fun r v' => r = none ∧ v' = v) := by
  refine CS.of (by decide) (Nat.le_of_ble_eq_true rfl) ?_
  generalize hQe : (fun (r : Option Value) (v' : Nat → Int32) => r = none ∧ v' = v) = Q
  have hQ : Q none v := by rw [← hQe]; exact ⟨rfl, rfl⟩
  clear hQe
  show ST G mi_Mo_constants 0 [(0, .ref 373)] [] v 0 0 Q
  refine ST.lift (fun _ _ k => T_aload_n (v := .ref 373) d_Mo_constants_0 rfl (Or.inr ⟨_, rfl⟩) k) ?_
  refine ST.lift (fun _ _ k => T_iconst (v := nI 0) d_Mo_constants_1 (by decide) k) ?_
  refine ST.lift (fun _ _ k => T_iconst (v := nI 0) d_Mo_constants_2 (by decide) k) ?_
  refine S_virtual (as := [.int (nI 0), .int (nI 0)]) (rest := []) (b := 373) d_Mo_constants_3 rfl (jw_Mo_small.jo (by decide)) lm_Mo_179 ji_Mo_small js_Mo_small (w373 _) rfl rfl rfl (Nat.le_of_ble_eq_true rfl) (by decide) (by decide) (c_Mo_small G v 0 (by omega) (nI 0)) (fun r v' hq => ?_)
  rw [hq.1, hq.2]
  clear hq r v'
  show ST G mi_Mo_constants 6 [(0, .ref 373)] [] v 0 0 _
  refine ST.lift (fun _ _ k => T_aload_n (v := .ref 373) d_Mo_constants_6 rfl (Or.inr ⟨_, rfl⟩) k) ?_
  refine ST.lift (fun _ _ k => T_iconst (v := nI 1) d_Mo_constants_7 (by decide) k) ?_
  refine ST.lift (fun _ _ k => T_iconst (v := nI 1) d_Mo_constants_8 (by decide) k) ?_
  refine S_virtual (as := [.int (nI 1), .int (nI 1)]) (rest := []) (b := 373) d_Mo_constants_9 rfl (jw_Mo_small.jo (by decide)) lm_Mo_179 ji_Mo_small js_Mo_small (w373 _) rfl rfl rfl (Nat.le_of_ble_eq_true rfl) (by decide) (by decide) (c_Mo_small G v 1 (by omega) (nI 1)) (fun r v' hq => ?_)
  rw [hq.1, hq.2]
  clear hq r v'
  show ST G mi_Mo_constants 12 [(0, .ref 373)] [] v 0 0 _
  refine ST.lift (fun _ _ k => T_aload_n (v := .ref 373) d_Mo_constants_12 rfl (Or.inr ⟨_, rfl⟩) k) ?_
  refine ST.lift (fun _ _ k => T_iconst (v := nI 3) d_Mo_constants_13 (by decide) k) ?_
  refine ST.lift (fun _ _ k => T_iconst (v := nI 2) d_Mo_constants_14 (by decide) k) ?_
  refine S_virtual (as := [.int (nI 3), .int (nI 2)]) (rest := []) (b := 373) d_Mo_constants_15 rfl (jw_Mo_small.jo (by decide)) lm_Mo_179 ji_Mo_small js_Mo_small (w373 _) rfl rfl rfl (Nat.le_of_ble_eq_true rfl) (by decide) (by decide) (c_Mo_small G v 3 (by omega) (nI 2)) (fun r v' hq => ?_)
  rw [hq.1, hq.2]
  clear hq r v'
  show ST G mi_Mo_constants 18 [(0, .ref 373)] [] v 0 0 _
  refine ST.lift (fun _ _ k => T_aload_n (v := .ref 373) d_Mo_constants_18 rfl (Or.inr ⟨_, rfl⟩) k) ?_
  refine ST.lift (fun _ _ k => T_iconst (v := nI 3) d_Mo_constants_19 (by decide) k) ?_
  refine ST.lift (fun _ _ k => T_iconst (v := nI 3) d_Mo_constants_20 (by decide) k) ?_
  refine ST.lift (fun _ _ k => T_sipush (v := nI 252) d_Mo_constants_21 (by decide) k) ?_
  refine ST.lift (fun _ _ k => T_iconst (v := nI 2) d_Mo_constants_24 (by decide) k) ?_
  refine ST.lift (fun _ _ k => T_iconst (v := nI 2) d_Mo_constants_25 (by decide) k) ?_
  refine S_virtual (as := [.int (nI 3), .int (nI 3), .int (nI 252), .int (nI 2), .int (nI 2)]) (rest := []) (b := 373) d_Mo_constants_26 rfl (jw_Mo_power.jo (by decide)) lm_Mo_166 ji_Mo_power js_Mo_power (w373 _) rfl rfl rfl (Nat.le_of_ble_eq_true rfl) (by decide) (by decide) (c_Mo_power G v 3 (by omega) 3 (by omega) 252 (by omega) 2 (by omega) 2 (by omega)) (fun r v' hq => ?_)
  rw [hq.1, hq.2]
  clear hq r v'
  show ST G mi_Mo_constants 29 [(0, .ref 373)] [] v 0 0 _
  refine ST.lift (fun _ _ k => T_aload_n (v := .ref 373) d_Mo_constants_29 rfl (Or.inr ⟨_, rfl⟩) k) ?_
  refine ST.lift (fun _ _ k => T_bipush (v := nI 60) d_Mo_constants_30 (by decide) k) ?_
  refine ST.lift (fun _ _ k => T_ldc d_Mo_constants_32 kI_Mo_219 k) ?_
  refine S_topi (y := nI 121666) (by decide) ?_
  refine S_virtual (as := [.int (nI 60), .int (nI 121666)]) (rest := []) (b := 373) d_Mo_constants_34 rfl (jw_Mo_small.jo (by decide)) lm_Mo_179 ji_Mo_small js_Mo_small (w373 _) rfl rfl rfl (Nat.le_of_ble_eq_true rfl) (by decide) (by decide) (c_Mo_small G v 60 (by omega) (nI 121666)) (fun r v' hq => ?_)
  rw [hq.1, hq.2]
  clear hq r v'
  show ST G mi_Mo_constants 37 [(0, .ref 373)] [] v 0 0 _
  refine ST.lift (fun _ _ k => T_aload_n (v := .ref 373) d_Mo_constants_37 rfl (Or.inr ⟨_, rfl⟩) k) ?_
  refine ST.lift (fun _ _ k => T_bipush (v := nI 59) d_Mo_constants_38 (by decide) k) ?_
  refine ST.lift (fun _ _ k => T_bipush (v := nI 60) d_Mo_constants_40 (by decide) k) ?_
  refine S_virtual (as := [.int (nI 59), .int (nI 60)]) (rest := []) (b := 373) d_Mo_constants_42 rfl (jw_Mo_invert.jo (by decide)) lm_Mo_220 ji_Mo_invert js_Mo_invert (w373 _) rfl rfl rfl (Nat.le_of_ble_eq_true rfl) (by decide) (by decide) (c_Mo_invert G v 59 (by omega) 60 (by omega)) (fun r v' hq => ?_)
  rw [hq.1, hq.2]
  clear hq r v'
  show ST G mi_Mo_constants 45 [(0, .ref 373)] [] v 0 0 _
  refine ST.lift (fun _ _ k => T_aload_n (v := .ref 373) d_Mo_constants_45 rfl (Or.inr ⟨_, rfl⟩) k) ?_
  refine ST.lift (fun _ _ k => T_bipush (v := nI 58) d_Mo_constants_46 (by decide) k) ?_
  refine ST.lift (fun _ _ k => T_ldc d_Mo_constants_48 kI_Mo_223 k) ?_
  refine S_topi (y := nI 121665) (by decide) ?_
  refine S_virtual (as := [.int (nI 58), .int (nI 121665)]) (rest := []) (b := 373) d_Mo_constants_50 rfl (jw_Mo_small.jo (by decide)) lm_Mo_179 ji_Mo_small js_Mo_small (w373 _) rfl rfl rfl (Nat.le_of_ble_eq_true rfl) (by decide) (by decide) (c_Mo_small G v 58 (by omega) (nI 121665)) (fun r v' hq => ?_)
  rw [hq.1, hq.2]
  clear hq r v'
  show ST G mi_Mo_constants 53 [(0, .ref 373)] [] v 0 0 _
  refine ST.lift (fun _ _ k => T_aload_n (v := .ref 373) d_Mo_constants_53 rfl (Or.inr ⟨_, rfl⟩) k) ?_
  refine ST.lift (fun _ _ k => T_bipush (v := nI 59) d_Mo_constants_54 (by decide) k) ?_
  refine ST.lift (fun _ _ k => T_bipush (v := nI 59) d_Mo_constants_56 (by decide) k) ?_
  refine ST.lift (fun _ _ k => T_bipush (v := nI 58) d_Mo_constants_58 (by decide) k) ?_
  refine S_virtual (as := [.int (nI 59), .int (nI 59), .int (nI 58)]) (rest := []) (b := 373) d_Mo_constants_60 rfl (jw_Mo_mul.jo (by decide)) lm_Mo_163 ji_Mo_mul js_Mo_mul (w373 _) rfl rfl rfl (Nat.le_of_ble_eq_true rfl) (by decide) (by decide) (c_Mo_mul G v 59 (by omega) 59 (by omega) 58 (by omega)) (fun r v' hq => ?_)
  rw [hq.1, hq.2]
  clear hq r v'
  show ST G mi_Mo_constants 63 [(0, .ref 373)] [] v 0 0 _
  refine ST.lift (fun _ _ k => T_aload_n (v := .ref 373) d_Mo_constants_63 rfl (Or.inr ⟨_, rfl⟩) k) ?_
  refine ST.lift (fun _ _ k => T_iconst (v := nI 2) d_Mo_constants_64 (by decide) k) ?_
  refine ST.lift (fun _ _ k => T_iconst (v := nI 0) d_Mo_constants_65 (by decide) k) ?_
  refine ST.lift (fun _ _ k => T_bipush (v := nI 59) d_Mo_constants_66 (by decide) k) ?_
  refine S_virtual (as := [.int (nI 2), .int (nI 0), .int (nI 59)]) (rest := []) (b := 373) d_Mo_constants_68 rfl (jw_Mo_sub.jo (by decide)) lm_Mo_152 ji_Mo_sub js_Mo_sub (w373 _) rfl rfl rfl (Nat.le_of_ble_eq_true rfl) (by decide) (by decide) (c_Mo_sub G v 2 (by omega) 0 (by omega) 59 (by omega)) (fun r v' hq => ?_)
  rw [hq.1, hq.2]
  clear hq r v'
  show ST G mi_Mo_constants 71 [(0, .ref 373)] [] v 0 0 _
  refine ST.lift (fun _ _ k => T_aload_n (v := .ref 373) d_Mo_constants_71 rfl (Or.inr ⟨_, rfl⟩) k) ?_
  refine ST.lift (fun _ _ k => T_bipush (v := nI 60) d_Mo_constants_72 (by decide) k) ?_
  refine ST.lift (fun _ _ k => T_iconst (v := nI 2) d_Mo_constants_74 (by decide) k) ?_
  refine ST.lift (fun _ _ k => T_iconst (v := nI 1) d_Mo_constants_75 (by decide) k) ?_
  refine S_virtual (as := [.int (nI 60), .int (nI 2), .int (nI 1)]) (rest := []) (b := 373) d_Mo_constants_76 rfl (jw_Mo_add.jo (by decide)) lm_Mo_182 ji_Mo_add js_Mo_add (w373 _) rfl rfl rfl (Nat.le_of_ble_eq_true rfl) (by decide) (by decide) (c_Mo_add G v 60 (by omega) 2 (by omega) 1 (by omega)) (fun r v' hq => ?_)
  rw [hq.1, hq.2]
  clear hq r v'
  show ST G mi_Mo_constants 79 [(0, .ref 373)] [] v 0 0 _
  refine ST.lift (fun _ _ k => T_aload_n (v := .ref 373) d_Mo_constants_79 rfl (Or.inr ⟨_, rfl⟩) k) ?_
  refine ST.lift (fun _ _ k => T_bipush (v := nI 60) d_Mo_constants_80 (by decide) k) ?_
  refine ST.lift (fun _ _ k => T_iconst (v := nI 0) d_Mo_constants_82 (by decide) k) ?_
  refine ST.lift (fun _ _ k => T_bipush (v := nI 60) d_Mo_constants_83 (by decide) k) ?_
  refine S_virtual (as := [.int (nI 60), .int (nI 0), .int (nI 60)]) (rest := []) (b := 373) d_Mo_constants_85 rfl (jw_Mo_sub.jo (by decide)) lm_Mo_152 ji_Mo_sub js_Mo_sub (w373 _) rfl rfl rfl (Nat.le_of_ble_eq_true rfl) (by decide) (by decide) (c_Mo_sub G v 60 (by omega) 0 (by omega) 60 (by omega)) (fun r v' hq => ?_)
  rw [hq.1, hq.2]
  clear hq r v'
  show ST G mi_Mo_constants 88 [(0, .ref 373)] [] v 0 0 _
  refine ST.lift (fun _ _ k => T_aload_n (v := .ref 373) d_Mo_constants_88 rfl (Or.inr ⟨_, rfl⟩) k) ?_
  refine ST.lift (fun _ _ k => T_iconst (v := nI 4) d_Mo_constants_89 (by decide) k) ?_
  refine ST.lift (fun _ _ k => T_iconst (v := nI 1) d_Mo_constants_90 (by decide) k) ?_
  refine ST.lift (fun _ _ k => T_bipush (v := nI 60) d_Mo_constants_91 (by decide) k) ?_
  refine S_virtual (as := [.int (nI 4), .int (nI 1), .int (nI 60)]) (rest := []) (b := 373) d_Mo_constants_93 rfl (jw_Mo_root.jo (by decide)) lm_Mo_197 ji_Mo_root js_Mo_root (w373 _) rfl rfl rfl (Nat.le_of_ble_eq_true rfl) (by decide) (by decide) (c_Mo_root G v 4 (by omega) 1 (by omega) 60 (by omega)) (fun r v' hq => ?_)
  obtain ⟨z1, hz1, hr, hv⟩ := hq
  rw [hr, hv]
  clear hr hv r v'
  show ST G mi_Mo_constants 96 [(0, .ref 373)] [.int (nI z1)] v 0 0 _
  refine ST.lift (fun _ _ k => T_pop d_Mo_constants_96 rfl k) ?_
  refine ST.lift (fun _ _ k => T_aload_n (v := .ref 373) d_Mo_constants_97 rfl (Or.inr ⟨_, rfl⟩) k) ?_
  refine ST.lift (fun _ _ k => T_iconst (v := nI 5) d_Mo_constants_98 (by decide) k) ?_
  refine ST.lift (fun _ _ k => T_bipush (v := nI 60) d_Mo_constants_99 (by decide) k) ?_
  refine ST.lift (fun _ _ k => T_iconst (v := nI 1) d_Mo_constants_101 (by decide) k) ?_
  refine S_virtual (as := [.int (nI 5), .int (nI 60), .int (nI 1)]) (rest := []) (b := 373) d_Mo_constants_102 rfl (jw_Mo_root.jo (by decide)) lm_Mo_197 ji_Mo_root js_Mo_root (w373 _) rfl rfl rfl (Nat.le_of_ble_eq_true rfl) (by decide) (by decide) (c_Mo_root G v 5 (by omega) 60 (by omega) 1 (by omega)) (fun r v' hq => ?_)
  obtain ⟨z2, hz2, hr, hv⟩ := hq
  rw [hr, hv]
  clear hr hv r v'
  show ST G mi_Mo_constants 105 [(0, .ref 373)] [.int (nI z2)] v 0 0 _
  refine ST.lift (fun _ _ k => T_pop d_Mo_constants_105 rfl k) ?_
  refine ST.lift (fun _ _ k => T_aload_n (v := .ref 373) d_Mo_constants_106 rfl (Or.inr ⟨_, rfl⟩) k) ?_
  refine ST.lift (fun _ _ k => T_iconst (v := nI 5) d_Mo_constants_107 (by decide) k) ?_
  refine S_virtual (as := [.int (nI 5)]) (rest := []) (b := 373) d_Mo_constants_108 rfl (jw_Mo_odd.jo (by decide)) lm_Mo_174 ji_Mo_odd js_Mo_odd (w373 _) rfl rfl rfl (Nat.le_of_ble_eq_true rfl) (by decide) (by decide) (c_Mo_odd G v 5 (by omega)) (fun r v' hq => ?_)
  obtain ⟨z3, hz3, hr, hv⟩ := hq
  rw [hr, hv]
  clear hr hv r v'
  show ST G mi_Mo_constants 111 [(0, .ref 373)] [.int (nI z3)] v 0 0 _
  have J121_5 : ST G mi_Mo_constants 121 [(0, .ref 373)] [] v 0 0 Q := by
    refine ST.lift (fun _ _ k => T_aload_n (v := .ref 373) d_Mo_constants_121 rfl (Or.inr ⟨_, rfl⟩) k) ?_
    refine ST.lift (fun _ _ k => T_bipush (v := nI 60) d_Mo_constants_122 (by decide) k) ?_
    refine ST.lift (fun _ _ k => T_iconst (v := nI 2) d_Mo_constants_124 (by decide) k) ?_
    refine ST.lift (fun _ _ k => T_iconst (v := nI 2) d_Mo_constants_125 (by decide) k) ?_
    refine S_virtual (as := [.int (nI 60), .int (nI 2), .int (nI 2)]) (rest := []) (b := 373) d_Mo_constants_126 rfl (jw_Mo_mul.jo (by decide)) lm_Mo_163 ji_Mo_mul js_Mo_mul (w373 _) rfl rfl rfl (Nat.le_of_ble_eq_true rfl) (by decide) (by decide) (c_Mo_mul G v 60 (by omega) 2 (by omega) 2 (by omega)) (fun r v' hq => ?_)
    rw [hq.1, hq.2]
    clear hq r v'
    show ST G mi_Mo_constants 129 [(0, .ref 373)] [] v 0 0 _
    refine ST.lift (fun _ _ k => T_aload_n (v := .ref 373) d_Mo_constants_129 rfl (Or.inr ⟨_, rfl⟩) k) ?_
    refine ST.lift (fun _ _ k => T_bipush (v := nI 6) d_Mo_constants_130 (by decide) k) ?_
    refine ST.lift (fun _ _ k => T_iconst (v := nI 1) d_Mo_constants_132 (by decide) k) ?_
    refine ST.lift (fun _ _ k => T_bipush (v := nI 60) d_Mo_constants_133 (by decide) k) ?_
    refine S_virtual (as := [.int (nI 6), .int (nI 1), .int (nI 60)]) (rest := []) (b := 373) d_Mo_constants_135 rfl (jw_Mo_sub.jo (by decide)) lm_Mo_152 ji_Mo_sub js_Mo_sub (w373 _) rfl rfl rfl (Nat.le_of_ble_eq_true rfl) (by decide) (by decide) (c_Mo_sub G v 6 (by omega) 1 (by omega) 60 (by omega)) (fun r v' hq => ?_)
    rw [hq.1, hq.2]
    clear hq r v'
    show ST G mi_Mo_constants 138 [(0, .ref 373)] [] v 0 0 _
    refine ST.lift (fun _ _ k => T_aload_n (v := .ref 373) d_Mo_constants_138 rfl (Or.inr ⟨_, rfl⟩) k) ?_
    refine ST.lift (fun _ _ k => T_bipush (v := nI 60) d_Mo_constants_139 (by decide) k) ?_
    refine ST.lift (fun _ _ k => T_iconst (v := nI 2) d_Mo_constants_141 (by decide) k) ?_
    refine ST.lift (fun _ _ k => T_iconst (v := nI 1) d_Mo_constants_142 (by decide) k) ?_
    refine S_virtual (as := [.int (nI 60), .int (nI 2), .int (nI 1)]) (rest := []) (b := 373) d_Mo_constants_143 rfl (jw_Mo_sub.jo (by decide)) lm_Mo_152 ji_Mo_sub js_Mo_sub (w373 _) rfl rfl rfl (Nat.le_of_ble_eq_true rfl) (by decide) (by decide) (c_Mo_sub G v 60 (by omega) 2 (by omega) 1 (by omega)) (fun r v' hq => ?_)
    rw [hq.1, hq.2]
    clear hq r v'
    show ST G mi_Mo_constants 146 [(0, .ref 373)] [] v 0 0 _
    refine ST.lift (fun _ _ k => T_aload_n (v := .ref 373) d_Mo_constants_146 rfl (Or.inr ⟨_, rfl⟩) k) ?_
    refine ST.lift (fun _ _ k => T_bipush (v := nI 7) d_Mo_constants_147 (by decide) k) ?_
    refine ST.lift (fun _ _ k => T_bipush (v := nI 60) d_Mo_constants_149 (by decide) k) ?_
    refine ST.lift (fun _ _ k => T_bipush (v := nI 60) d_Mo_constants_151 (by decide) k) ?_
    refine S_virtual (as := [.int (nI 7), .int (nI 60), .int (nI 60)]) (rest := []) (b := 373) d_Mo_constants_153 rfl (jw_Mo_mul.jo (by decide)) lm_Mo_163 ji_Mo_mul js_Mo_mul (w373 _) rfl rfl rfl (Nat.le_of_ble_eq_true rfl) (by decide) (by decide) (c_Mo_mul G v 7 (by omega) 60 (by omega) 60 (by omega)) (fun r v' hq => ?_)
    rw [hq.1, hq.2]
    clear hq r v'
    show ST G mi_Mo_constants 156 [(0, .ref 373)] [] v 0 0 _
    refine ST.lift (fun _ _ k => T_aload_n (v := .ref 373) d_Mo_constants_156 rfl (Or.inr ⟨_, rfl⟩) k) ?_
    refine ST.lift (fun _ _ k => T_bipush (v := nI 60) d_Mo_constants_157 (by decide) k) ?_
    refine ST.lift (fun _ _ k => T_iconst (v := nI 5) d_Mo_constants_159 (by decide) k) ?_
    refine S_virtual (as := [.int (nI 60), .int (nI 5)]) (rest := []) (b := 373) d_Mo_constants_160 rfl (jw_Mo_small.jo (by decide)) lm_Mo_179 ji_Mo_small js_Mo_small (w373 _) rfl rfl rfl (Nat.le_of_ble_eq_true rfl) (by decide) (by decide) (c_Mo_small G v 60 (by omega) (nI 5)) (fun r v' hq => ?_)
    rw [hq.1, hq.2]
    clear hq r v'
    show ST G mi_Mo_constants 163 [(0, .ref 373)] [] v 0 0 _
    refine ST.lift (fun _ _ k => T_aload_n (v := .ref 373) d_Mo_constants_163 rfl (Or.inr ⟨_, rfl⟩) k) ?_
    refine ST.lift (fun _ _ k => T_bipush (v := nI 59) d_Mo_constants_164 (by decide) k) ?_
    refine ST.lift (fun _ _ k => T_bipush (v := nI 60) d_Mo_constants_166 (by decide) k) ?_
    refine S_virtual (as := [.int (nI 59), .int (nI 60)]) (rest := []) (b := 373) d_Mo_constants_168 rfl (jw_Mo_invert.jo (by decide)) lm_Mo_220 ji_Mo_invert js_Mo_invert (w373 _) rfl rfl rfl (Nat.le_of_ble_eq_true rfl) (by decide) (by decide) (c_Mo_invert G v 59 (by omega) 60 (by omega)) (fun r v' hq => ?_)
    rw [hq.1, hq.2]
    clear hq r v'
    show ST G mi_Mo_constants 171 [(0, .ref 373)] [] v 0 0 _
    refine ST.lift (fun _ _ k => T_aload_n (v := .ref 373) d_Mo_constants_171 rfl (Or.inr ⟨_, rfl⟩) k) ?_
    refine ST.lift (fun _ _ k => T_bipush (v := nI 60) d_Mo_constants_172 (by decide) k) ?_
    refine ST.lift (fun _ _ k => T_iconst (v := nI 4) d_Mo_constants_174 (by decide) k) ?_
    refine S_virtual (as := [.int (nI 60), .int (nI 4)]) (rest := []) (b := 373) d_Mo_constants_175 rfl (jw_Mo_small.jo (by decide)) lm_Mo_179 ji_Mo_small js_Mo_small (w373 _) rfl rfl rfl (Nat.le_of_ble_eq_true rfl) (by decide) (by decide) (c_Mo_small G v 60 (by omega) (nI 4)) (fun r v' hq => ?_)
    rw [hq.1, hq.2]
    clear hq r v'
    show ST G mi_Mo_constants 178 [(0, .ref 373)] [] v 0 0 _
    refine ST.lift (fun _ _ k => T_aload_n (v := .ref 373) d_Mo_constants_178 rfl (Or.inr ⟨_, rfl⟩) k) ?_
    refine ST.lift (fun _ _ k => T_bipush (v := nI 9) d_Mo_constants_179 (by decide) k) ?_
    refine ST.lift (fun _ _ k => T_bipush (v := nI 59) d_Mo_constants_181 (by decide) k) ?_
    refine ST.lift (fun _ _ k => T_bipush (v := nI 60) d_Mo_constants_183 (by decide) k) ?_
    refine S_virtual (as := [.int (nI 9), .int (nI 59), .int (nI 60)]) (rest := []) (b := 373) d_Mo_constants_185 rfl (jw_Mo_mul.jo (by decide)) lm_Mo_163 ji_Mo_mul js_Mo_mul (w373 _) rfl rfl rfl (Nat.le_of_ble_eq_true rfl) (by decide) (by decide) (c_Mo_mul G v 9 (by omega) 59 (by omega) 60 (by omega)) (fun r v' hq => ?_)
    rw [hq.1, hq.2]
    clear hq r v'
    show ST G mi_Mo_constants 188 [(0, .ref 373)] [] v 0 0 _
    refine ST.lift (fun _ _ k => T_aload_n (v := .ref 373) d_Mo_constants_188 rfl (Or.inr ⟨_, rfl⟩) k) ?_
    refine ST.lift (fun _ _ k => T_bipush (v := nI 57) d_Mo_constants_189 (by decide) k) ?_
    refine ST.lift (fun _ _ k => T_bipush (v := nI 9) d_Mo_constants_191 (by decide) k) ?_
    refine ST.lift (fun _ _ k => T_bipush (v := nI 9) d_Mo_constants_193 (by decide) k) ?_
    refine S_virtual (as := [.int (nI 57), .int (nI 9), .int (nI 9)]) (rest := []) (b := 373) d_Mo_constants_195 rfl (jw_Mo_mul.jo (by decide)) lm_Mo_163 ji_Mo_mul js_Mo_mul (w373 _) rfl rfl rfl (Nat.le_of_ble_eq_true rfl) (by decide) (by decide) (c_Mo_mul G v 57 (by omega) 9 (by omega) 9 (by omega)) (fun r v' hq => ?_)
    rw [hq.1, hq.2]
    clear hq r v'
    show ST G mi_Mo_constants 198 [(0, .ref 373)] [] v 0 0 _
    refine ST.lift (fun _ _ k => T_aload_n (v := .ref 373) d_Mo_constants_198 rfl (Or.inr ⟨_, rfl⟩) k) ?_
    refine ST.lift (fun _ _ k => T_bipush (v := nI 58) d_Mo_constants_199 (by decide) k) ?_
    refine ST.lift (fun _ _ k => T_bipush (v := nI 57) d_Mo_constants_201 (by decide) k) ?_
    refine ST.lift (fun _ _ k => T_iconst (v := nI 1) d_Mo_constants_203 (by decide) k) ?_
    refine S_virtual (as := [.int (nI 58), .int (nI 57), .int (nI 1)]) (rest := []) (b := 373) d_Mo_constants_204 rfl (jw_Mo_sub.jo (by decide)) lm_Mo_152 ji_Mo_sub js_Mo_sub (w373 _) rfl rfl rfl (Nat.le_of_ble_eq_true rfl) (by decide) (by decide) (c_Mo_sub G v 58 (by omega) 57 (by omega) 1 (by omega)) (fun r v' hq => ?_)
    rw [hq.1, hq.2]
    clear hq r v'
    show ST G mi_Mo_constants 207 [(0, .ref 373)] [] v 0 0 _
    refine ST.lift (fun _ _ k => T_aload_n (v := .ref 373) d_Mo_constants_207 rfl (Or.inr ⟨_, rfl⟩) k) ?_
    refine ST.lift (fun _ _ k => T_bipush (v := nI 57) d_Mo_constants_208 (by decide) k) ?_
    refine ST.lift (fun _ _ k => T_bipush (v := nI 57) d_Mo_constants_210 (by decide) k) ?_
    refine ST.lift (fun _ _ k => T_iconst (v := nI 2) d_Mo_constants_212 (by decide) k) ?_
    refine S_virtual (as := [.int (nI 57), .int (nI 57), .int (nI 2)]) (rest := []) (b := 373) d_Mo_constants_213 rfl (jw_Mo_mul.jo (by decide)) lm_Mo_163 ji_Mo_mul js_Mo_mul (w373 _) rfl rfl rfl (Nat.le_of_ble_eq_true rfl) (by decide) (by decide) (c_Mo_mul G v 57 (by omega) 57 (by omega) 2 (by omega)) (fun r v' hq => ?_)
    rw [hq.1, hq.2]
    clear hq r v'
    show ST G mi_Mo_constants 216 [(0, .ref 373)] [] v 0 0 _
    refine ST.lift (fun _ _ k => T_aload_n (v := .ref 373) d_Mo_constants_216 rfl (Or.inr ⟨_, rfl⟩) k) ?_
    refine ST.lift (fun _ _ k => T_bipush (v := nI 57) d_Mo_constants_217 (by decide) k) ?_
    refine ST.lift (fun _ _ k => T_bipush (v := nI 57) d_Mo_constants_219 (by decide) k) ?_
    refine ST.lift (fun _ _ k => T_iconst (v := nI 1) d_Mo_constants_221 (by decide) k) ?_
    refine S_virtual (as := [.int (nI 57), .int (nI 57), .int (nI 1)]) (rest := []) (b := 373) d_Mo_constants_222 rfl (jw_Mo_add.jo (by decide)) lm_Mo_182 ji_Mo_add js_Mo_add (w373 _) rfl rfl rfl (Nat.le_of_ble_eq_true rfl) (by decide) (by decide) (c_Mo_add G v 57 (by omega) 57 (by omega) 1 (by omega)) (fun r v' hq => ?_)
    rw [hq.1, hq.2]
    clear hq r v'
    show ST G mi_Mo_constants 225 [(0, .ref 373)] [] v 0 0 _
    refine ST.lift (fun _ _ k => T_aload_n (v := .ref 373) d_Mo_constants_225 rfl (Or.inr ⟨_, rfl⟩) k) ?_
    refine ST.lift (fun _ _ k => T_bipush (v := nI 8) d_Mo_constants_226 (by decide) k) ?_
    refine ST.lift (fun _ _ k => T_bipush (v := nI 58) d_Mo_constants_228 (by decide) k) ?_
    refine ST.lift (fun _ _ k => T_bipush (v := nI 57) d_Mo_constants_230 (by decide) k) ?_
    refine S_virtual (as := [.int (nI 8), .int (nI 58), .int (nI 57)]) (rest := []) (b := 373) d_Mo_constants_232 rfl (jw_Mo_root.jo (by decide)) lm_Mo_197 ji_Mo_root js_Mo_root (w373 _) rfl rfl rfl (Nat.le_of_ble_eq_true rfl) (by decide) (by decide) (c_Mo_root G v 8 (by omega) 58 (by omega) 57 (by omega)) (fun r v' hq => ?_)
    obtain ⟨z6, hz6, hr, hv⟩ := hq
    rw [hr, hv]
    clear hr hv r v'
    show ST G mi_Mo_constants 235 [(0, .ref 373)] [.int (nI z6)] v 0 0 _
    refine ST.lift (fun _ _ k => T_pop d_Mo_constants_235 rfl k) ?_
    refine ST.lift (fun _ _ k => T_aload_n (v := .ref 373) d_Mo_constants_236 rfl (Or.inr ⟨_, rfl⟩) k) ?_
    refine ST.lift (fun _ _ k => T_bipush (v := nI 10) d_Mo_constants_237 (by decide) k) ?_
    refine ST.lift (fun _ _ k => T_iconst (v := nI 1) d_Mo_constants_239 (by decide) k) ?_
    refine S_virtual (as := [.int (nI 10), .int (nI 1)]) (rest := []) (b := 373) d_Mo_constants_240 rfl (jw_Mo_small.jo (by decide)) lm_Mo_179 ji_Mo_small js_Mo_small (w373 _) rfl rfl rfl (Nat.le_of_ble_eq_true rfl) (by decide) (by decide) (c_Mo_small G v 10 (by omega) (nI 1)) (fun r v' hq => ?_)
    rw [hq.1, hq.2]
    clear hq r v'
    show ST G mi_Mo_constants 243 [(0, .ref 373)] [] v 0 0 _
    refine ST.lift (fun _ _ k => T_aload_n (v := .ref 373) d_Mo_constants_243 rfl (Or.inr ⟨_, rfl⟩) k) ?_
    refine ST.lift (fun _ _ k => T_bipush (v := nI 11) d_Mo_constants_244 (by decide) k) ?_
    refine ST.lift (fun _ _ k => T_bipush (v := nI 8) d_Mo_constants_246 (by decide) k) ?_
    refine ST.lift (fun _ _ k => T_bipush (v := nI 9) d_Mo_constants_248 (by decide) k) ?_
    refine S_virtual (as := [.int (nI 11), .int (nI 8), .int (nI 9)]) (rest := []) (b := 373) d_Mo_constants_250 rfl (jw_Mo_mul.jo (by decide)) lm_Mo_163 ji_Mo_mul js_Mo_mul (w373 _) rfl rfl rfl (Nat.le_of_ble_eq_true rfl) (by decide) (by decide) (c_Mo_mul G v 11 (by omega) 8 (by omega) 9 (by omega)) (fun r v' hq => ?_)
    rw [hq.1, hq.2]
    clear hq r v'
    show ST G mi_Mo_constants 253 [(0, .ref 373)] [] v 0 0 _
    exact S_vret d_Mo_constants_253 rfl (by decide) (by decide) hQ
  refine S_if_neN d_Mo_constants_111 rfl (by omega) (fun c4 => ?_) (fun c4 => ?_)
  · exact J121_5 
  · refine ST.lift (fun _ _ k => T_aload_n (v := .ref 373) d_Mo_constants_114 rfl (Or.inr ⟨_, rfl⟩) k) ?_
    refine ST.lift (fun _ _ k => T_iconst (v := nI 5) d_Mo_constants_115 (by decide) k) ?_
    refine ST.lift (fun _ _ k => T_iconst (v := nI 0) d_Mo_constants_116 (by decide) k) ?_
    refine ST.lift (fun _ _ k => T_iconst (v := nI 5) d_Mo_constants_117 (by decide) k) ?_
    refine S_virtual (as := [.int (nI 5), .int (nI 0), .int (nI 5)]) (rest := []) (b := 373) d_Mo_constants_118 rfl (jw_Mo_sub.jo (by decide)) lm_Mo_152 ji_Mo_sub js_Mo_sub (w373 _) rfl rfl rfl (Nat.le_of_ble_eq_true rfl) (by decide) (by decide) (c_Mo_sub G v 5 (by omega) 0 (by omega) 5 (by omega)) (fun r v' hq => ?_)
    rw [hq.1, hq.2]
    clear hq r v'
    show ST G mi_Mo_constants 121 [(0, .ref 373)] [] v 0 0 _
    exact J121_5 
set_option maxRecDepth 100000 in
set_option maxHeartbeats 4000000 in
theorem c_Mo_order (G : GX) (v : Nat → Int32) : CS G mi_Mo_order [.ref 373] v (fun r v' => r = none ∧ v' = v) := by
  refine CS.of (by decide) (Nat.le_of_ble_eq_true rfl) ?_
  generalize hQe : (fun (r : Option Value) (v' : Nat → Int32) => r = none ∧ v' = v) = Q
  have hQ : Q none v := by rw [← hQe]; exact ⟨rfl, rfl⟩
  clear hQe
  show ST G mi_Mo_order 0 [(0, .ref 373)] [] v 0 0 Q
  refine ST.lift (fun _ _ k => T_aload_n (v := .ref 373) d_Mo_order_0 rfl (Or.inr ⟨_, rfl⟩) k) ?_
  refine S_getfield d_Mo_order_1 fg_Mo_224 (w373 _) rfl ?_
  refine ST.lift (fun _ _ k => T_iconst (v := nI 0) d_Mo_order_4 (by decide) k) ?_
  refine ST.lift (fun _ _ k => T_ldc2 d_Mo_order_5 kJ_Mo_227 k) ?_
  refine S_lastore d_Mo_order_8 (by decide) a396 (vp_in_nI (by omega) (by omega)) ?_
  refine ST.lift (fun _ _ k => T_aload_n (v := .ref 373) d_Mo_order_9 rfl (Or.inr ⟨_, rfl⟩) k) ?_
  refine S_getfield d_Mo_order_10 fg_Mo_224 (w373 _) rfl ?_
  refine ST.lift (fun _ _ k => T_iconst (v := nI 1) d_Mo_order_13 (by decide) k) ?_
  refine ST.lift (fun _ _ k => T_ldc2 d_Mo_order_14 kJ_Mo_229 k) ?_
  refine S_lastore d_Mo_order_17 (by decide) a396 (vp_in_nI (by omega) (by omega)) ?_
  refine ST.lift (fun _ _ k => T_aload_n (v := .ref 373) d_Mo_order_18 rfl (Or.inr ⟨_, rfl⟩) k) ?_
  refine S_getfield d_Mo_order_19 fg_Mo_224 (w373 _) rfl ?_
  refine ST.lift (fun _ _ k => T_iconst (v := nI 2) d_Mo_order_22 (by decide) k) ?_
  refine ST.lift (fun _ _ k => T_ldc2 d_Mo_order_23 kJ_Mo_231 k) ?_
  refine S_lastore d_Mo_order_26 (by decide) a396 (vp_in_nI (by omega) (by omega)) ?_
  refine ST.lift (fun _ _ k => T_aload_n (v := .ref 373) d_Mo_order_27 rfl (Or.inr ⟨_, rfl⟩) k) ?_
  refine S_getfield d_Mo_order_28 fg_Mo_224 (w373 _) rfl ?_
  refine ST.lift (fun _ _ k => T_iconst (v := nI 3) d_Mo_order_31 (by decide) k) ?_
  refine ST.lift (fun _ _ k => T_ldc2 d_Mo_order_32 kJ_Mo_233 k) ?_
  refine S_lastore d_Mo_order_35 (by decide) a396 (vp_in_nI (by omega) (by omega)) ?_
  refine ST.lift (fun _ _ k => T_aload_n (v := .ref 373) d_Mo_order_36 rfl (Or.inr ⟨_, rfl⟩) k) ?_
  refine S_getfield d_Mo_order_37 fg_Mo_224 (w373 _) rfl ?_
  refine ST.lift (fun _ _ k => T_iconst (v := nI 4) d_Mo_order_40 (by decide) k) ?_
  refine ST.lift (fun _ _ k => T_ldc2 d_Mo_order_41 kJ_Mo_235 k) ?_
  refine S_lastore d_Mo_order_44 (by decide) a396 (vp_in_nI (by omega) (by omega)) ?_
  refine ST.lift (fun _ _ k => T_aload_n (v := .ref 373) d_Mo_order_45 rfl (Or.inr ⟨_, rfl⟩) k) ?_
  refine S_getfield d_Mo_order_46 fg_Mo_224 (w373 _) rfl ?_
  refine ST.lift (fun _ _ k => T_iconst (v := nI 5) d_Mo_order_49 (by decide) k) ?_
  refine ST.lift (fun _ _ k => T_ldc2 d_Mo_order_50 kJ_Mo_237 k) ?_
  refine S_lastore d_Mo_order_53 (by decide) a396 (vp_in_nI (by omega) (by omega)) ?_
  refine ST.lift (fun _ _ k => T_aload_n (v := .ref 373) d_Mo_order_54 rfl (Or.inr ⟨_, rfl⟩) k) ?_
  refine S_getfield d_Mo_order_55 fg_Mo_224 (w373 _) rfl ?_
  refine ST.lift (fun _ _ k => T_bipush (v := nI 6) d_Mo_order_58 (by decide) k) ?_
  refine ST.lift (fun _ _ k => T_ldc2 d_Mo_order_60 kJ_Mo_239 k) ?_
  refine S_lastore d_Mo_order_63 (by decide) a396 (vp_in_nI (by omega) (by omega)) ?_
  refine ST.lift (fun _ _ k => T_aload_n (v := .ref 373) d_Mo_order_64 rfl (Or.inr ⟨_, rfl⟩) k) ?_
  refine S_getfield d_Mo_order_65 fg_Mo_224 (w373 _) rfl ?_
  refine ST.lift (fun _ _ k => T_bipush (v := nI 7) d_Mo_order_68 (by decide) k) ?_
  refine ST.lift (fun _ _ k => T_ldc2 d_Mo_order_70 kJ_Mo_241 k) ?_
  refine S_lastore d_Mo_order_73 (by decide) a396 (vp_in_nI (by omega) (by omega)) ?_
  refine ST.lift (fun _ _ k => T_aload_n (v := .ref 373) d_Mo_order_74 rfl (Or.inr ⟨_, rfl⟩) k) ?_
  refine S_getfield d_Mo_order_75 fg_Mo_224 (w373 _) rfl ?_
  refine ST.lift (fun _ _ k => T_bipush (v := nI 15) d_Mo_order_78 (by decide) k) ?_
  refine ST.lift (fun _ _ k => T_ldc2 d_Mo_order_80 kJ_Mo_243 k) ?_
  refine S_lastore d_Mo_order_83 (by decide) a396 (vp_in_nI (by omega) (by omega)) ?_
  exact S_vret d_Mo_order_84 rfl (by decide) (by decide) hQ
set_option maxRecDepth 100000 in
set_option maxHeartbeats 4000000 in
theorem c_Mo_reduce (G : GX) (v : Nat → Int32) : CS G mi_Mo_reduce [.ref 373] v (fun r v' => r = none ∧ v' = v) := by
  refine CS.of (by decide) (Nat.le_of_ble_eq_true rfl) ?_
  generalize hQe : (fun (r : Option Value) (v' : Nat → Int32) => r = none ∧ v' = v) = Q
  have hQ : Q none v := by rw [← hQe]; exact ⟨rfl, rfl⟩
  clear hQe
  show ST G mi_Mo_reduce 0 [(0, .ref 373)] [] v 0 0 Q
  refine ST.lift (fun _ _ k => T_iconst (v := nI 0) d_Mo_reduce_0 (by decide) k) ?_
  refine ST.lift (fun _ _ k => T_istore_n (L' := [(1, .int (nI 0)), (0, .ref 373)]) d_Mo_reduce_1 (by decide) rfl k) ?_
  refine ST.lift (fun _ _ k => T_iload_n d_Mo_reduce_2 rfl k) ?_
  refine ST.lift (fun _ _ k => T_bipush (v := nI 17) d_Mo_reduce_3 (by decide) k) ?_
  refine S_icmp_geN d_Mo_reduce_5 rfl (by omega) (by omega) (fun c => by first | exact absurd c (by omega) | exact c.elim | exact absurd c (by decide) | exact absurd (by assumption) c | exact absurd c (by assumption)) (fun _ => ?_)
  refine ST.lift (fun _ _ k => T_aload_n (v := .ref 373) d_Mo_reduce_8 rfl (Or.inr ⟨_, rfl⟩) k) ?_
  refine S_getfield d_Mo_reduce_9 fg_Mo_245 (w373 _) rfl ?_
  refine ST.lift (fun _ _ k => T_iload_n d_Mo_reduce_12 rfl k) ?_
  refine ST.lift (fun _ _ k => T_lconst (v := 0) d_Mo_reduce_13 (by decide) k) ?_
  refine S_lastore d_Mo_reduce_14 (by decide) a397 (vp_in_nI (by omega) (by omega)) ?_
  refine S_iincN (a := 0) (b := 1) (L' := [(1, .int (nI 1)), (0, .ref 373)]) d_Mo_reduce_15 (by decide) rfl rfl rfl ?_
  refine ST.lift (fun _ _ k => T_goto (tgt := 2) d_Mo_reduce_18 rfl k) ?_
  refine ST.lift (fun _ _ k => T_iload_n d_Mo_reduce_2 rfl k) ?_
  refine ST.lift (fun _ _ k => T_bipush (v := nI 17) d_Mo_reduce_3 (by decide) k) ?_
  refine S_icmp_geN d_Mo_reduce_5 rfl (by omega) (by omega) (fun c => by first | exact absurd c (by omega) | exact c.elim | exact absurd c (by decide) | exact absurd (by assumption) c | exact absurd c (by assumption)) (fun _ => ?_)
  refine ST.lift (fun _ _ k => T_aload_n (v := .ref 373) d_Mo_reduce_8 rfl (Or.inr ⟨_, rfl⟩) k) ?_
  refine S_getfield d_Mo_reduce_9 fg_Mo_245 (w373 _) rfl ?_
  refine ST.lift (fun _ _ k => T_iload_n d_Mo_reduce_12 rfl k) ?_
  refine ST.lift (fun _ _ k => T_lconst (v := 0) d_Mo_reduce_13 (by decide) k) ?_
  refine S_lastore d_Mo_reduce_14 (by decide) a397 (vp_in_nI (by omega) (by omega)) ?_
  refine S_iincN (a := 1) (b := 1) (L' := [(1, .int (nI 2)), (0, .ref 373)]) d_Mo_reduce_15 (by decide) rfl rfl rfl ?_
  refine ST.lift (fun _ _ k => T_goto (tgt := 2) d_Mo_reduce_18 rfl k) ?_
  refine ST.lift (fun _ _ k => T_iload_n d_Mo_reduce_2 rfl k) ?_
  refine ST.lift (fun _ _ k => T_bipush (v := nI 17) d_Mo_reduce_3 (by decide) k) ?_
  refine S_icmp_geN d_Mo_reduce_5 rfl (by omega) (by omega) (fun c => by first | exact absurd c (by omega) | exact c.elim | exact absurd c (by decide) | exact absurd (by assumption) c | exact absurd c (by assumption)) (fun _ => ?_)
  refine ST.lift (fun _ _ k => T_aload_n (v := .ref 373) d_Mo_reduce_8 rfl (Or.inr ⟨_, rfl⟩) k) ?_
  refine S_getfield d_Mo_reduce_9 fg_Mo_245 (w373 _) rfl ?_
  refine ST.lift (fun _ _ k => T_iload_n d_Mo_reduce_12 rfl k) ?_
  refine ST.lift (fun _ _ k => T_lconst (v := 0) d_Mo_reduce_13 (by decide) k) ?_
  refine S_lastore d_Mo_reduce_14 (by decide) a397 (vp_in_nI (by omega) (by omega)) ?_
  refine S_iincN (a := 2) (b := 1) (L' := [(1, .int (nI 3)), (0, .ref 373)]) d_Mo_reduce_15 (by decide) rfl rfl rfl ?_
  refine ST.lift (fun _ _ k => T_goto (tgt := 2) d_Mo_reduce_18 rfl k) ?_
  refine ST.lift (fun _ _ k => T_iload_n d_Mo_reduce_2 rfl k) ?_
  refine ST.lift (fun _ _ k => T_bipush (v := nI 17) d_Mo_reduce_3 (by decide) k) ?_
  refine S_icmp_geN d_Mo_reduce_5 rfl (by omega) (by omega) (fun c => by first | exact absurd c (by omega) | exact c.elim | exact absurd c (by decide) | exact absurd (by assumption) c | exact absurd c (by assumption)) (fun _ => ?_)
  refine ST.lift (fun _ _ k => T_aload_n (v := .ref 373) d_Mo_reduce_8 rfl (Or.inr ⟨_, rfl⟩) k) ?_
  refine S_getfield d_Mo_reduce_9 fg_Mo_245 (w373 _) rfl ?_
  refine ST.lift (fun _ _ k => T_iload_n d_Mo_reduce_12 rfl k) ?_
  refine ST.lift (fun _ _ k => T_lconst (v := 0) d_Mo_reduce_13 (by decide) k) ?_
  refine S_lastore d_Mo_reduce_14 (by decide) a397 (vp_in_nI (by omega) (by omega)) ?_
  refine S_iincN (a := 3) (b := 1) (L' := [(1, .int (nI 4)), (0, .ref 373)]) d_Mo_reduce_15 (by decide) rfl rfl rfl ?_
  refine ST.lift (fun _ _ k => T_goto (tgt := 2) d_Mo_reduce_18 rfl k) ?_
  refine ST.lift (fun _ _ k => T_iload_n d_Mo_reduce_2 rfl k) ?_
  refine ST.lift (fun _ _ k => T_bipush (v := nI 17) d_Mo_reduce_3 (by decide) k) ?_
  refine S_icmp_geN d_Mo_reduce_5 rfl (by omega) (by omega) (fun c => by first | exact absurd c (by omega) | exact c.elim | exact absurd c (by decide) | exact absurd (by assumption) c | exact absurd c (by assumption)) (fun _ => ?_)
  refine ST.lift (fun _ _ k => T_aload_n (v := .ref 373) d_Mo_reduce_8 rfl (Or.inr ⟨_, rfl⟩) k) ?_
  refine S_getfield d_Mo_reduce_9 fg_Mo_245 (w373 _) rfl ?_
  refine ST.lift (fun _ _ k => T_iload_n d_Mo_reduce_12 rfl k) ?_
  refine ST.lift (fun _ _ k => T_lconst (v := 0) d_Mo_reduce_13 (by decide) k) ?_
  refine S_lastore d_Mo_reduce_14 (by decide) a397 (vp_in_nI (by omega) (by omega)) ?_
  refine S_iincN (a := 4) (b := 1) (L' := [(1, .int (nI 5)), (0, .ref 373)]) d_Mo_reduce_15 (by decide) rfl rfl rfl ?_
  refine ST.lift (fun _ _ k => T_goto (tgt := 2) d_Mo_reduce_18 rfl k) ?_
  refine ST.lift (fun _ _ k => T_iload_n d_Mo_reduce_2 rfl k) ?_
  refine ST.lift (fun _ _ k => T_bipush (v := nI 17) d_Mo_reduce_3 (by decide) k) ?_
  refine S_icmp_geN d_Mo_reduce_5 rfl (by omega) (by omega) (fun c => by first | exact absurd c (by omega) | exact c.elim | exact absurd c (by decide) | exact absurd (by assumption) c | exact absurd c (by assumption)) (fun _ => ?_)
  refine ST.lift (fun _ _ k => T_aload_n (v := .ref 373) d_Mo_reduce_8 rfl (Or.inr ⟨_, rfl⟩) k) ?_
  refine S_getfield d_Mo_reduce_9 fg_Mo_245 (w373 _) rfl ?_
  refine ST.lift (fun _ _ k => T_iload_n d_Mo_reduce_12 rfl k) ?_
  refine ST.lift (fun _ _ k => T_lconst (v := 0) d_Mo_reduce_13 (by decide) k) ?_
  refine S_lastore d_Mo_reduce_14 (by decide) a397 (vp_in_nI (by omega) (by omega)) ?_
  refine S_iincN (a := 5) (b := 1) (L' := [(1, .int (nI 6)), (0, .ref 373)]) d_Mo_reduce_15 (by decide) rfl rfl rfl ?_
  refine ST.lift (fun _ _ k => T_goto (tgt := 2) d_Mo_reduce_18 rfl k) ?_
  refine ST.lift (fun _ _ k => T_iload_n d_Mo_reduce_2 rfl k) ?_
  refine ST.lift (fun _ _ k => T_bipush (v := nI 17) d_Mo_reduce_3 (by decide) k) ?_
  refine S_icmp_geN d_Mo_reduce_5 rfl (by omega) (by omega) (fun c => by first | exact absurd c (by omega) | exact c.elim | exact absurd c (by decide) | exact absurd (by assumption) c | exact absurd c (by assumption)) (fun _ => ?_)
  refine ST.lift (fun _ _ k => T_aload_n (v := .ref 373) d_Mo_reduce_8 rfl (Or.inr ⟨_, rfl⟩) k) ?_
  refine S_getfield d_Mo_reduce_9 fg_Mo_245 (w373 _) rfl ?_
  refine ST.lift (fun _ _ k => T_iload_n d_Mo_reduce_12 rfl k) ?_
  refine ST.lift (fun _ _ k => T_lconst (v := 0) d_Mo_reduce_13 (by decide) k) ?_
  refine S_lastore d_Mo_reduce_14 (by decide) a397 (vp_in_nI (by omega) (by omega)) ?_
  refine S_iincN (a := 6) (b := 1) (L' := [(1, .int (nI 7)), (0, .ref 373)]) d_Mo_reduce_15 (by decide) rfl rfl rfl ?_
  refine ST.lift (fun _ _ k => T_goto (tgt := 2) d_Mo_reduce_18 rfl k) ?_
  refine ST.lift (fun _ _ k => T_iload_n d_Mo_reduce_2 rfl k) ?_
  refine ST.lift (fun _ _ k => T_bipush (v := nI 17) d_Mo_reduce_3 (by decide) k) ?_
  refine S_icmp_geN d_Mo_reduce_5 rfl (by omega) (by omega) (fun c => by first | exact absurd c (by omega) | exact c.elim | exact absurd c (by decide) | exact absurd (by assumption) c | exact absurd c (by assumption)) (fun _ => ?_)
  refine ST.lift (fun _ _ k => T_aload_n (v := .ref 373) d_Mo_reduce_8 rfl (Or.inr ⟨_, rfl⟩) k) ?_
  refine S_getfield d_Mo_reduce_9 fg_Mo_245 (w373 _) rfl ?_
  refine ST.lift (fun _ _ k => T_iload_n d_Mo_reduce_12 rfl k) ?_
  refine ST.lift (fun _ _ k => T_lconst (v := 0) d_Mo_reduce_13 (by decide) k) ?_
  refine S_lastore d_Mo_reduce_14 (by decide) a397 (vp_in_nI (by omega) (by omega)) ?_
  refine S_iincN (a := 7) (b := 1) (L' := [(1, .int (nI 8)), (0, .ref 373)]) d_Mo_reduce_15 (by decide) rfl rfl rfl ?_
  refine ST.lift (fun _ _ k => T_goto (tgt := 2) d_Mo_reduce_18 rfl k) ?_
  refine ST.lift (fun _ _ k => T_iload_n d_Mo_reduce_2 rfl k) ?_
  refine ST.lift (fun _ _ k => T_bipush (v := nI 17) d_Mo_reduce_3 (by decide) k) ?_
  refine S_icmp_geN d_Mo_reduce_5 rfl (by omega) (by omega) (fun c => by first | exact absurd c (by omega) | exact c.elim | exact absurd c (by decide) | exact absurd (by assumption) c | exact absurd c (by assumption)) (fun _ => ?_)
  refine ST.lift (fun _ _ k => T_aload_n (v := .ref 373) d_Mo_reduce_8 rfl (Or.inr ⟨_, rfl⟩) k) ?_
  refine S_getfield d_Mo_reduce_9 fg_Mo_245 (w373 _) rfl ?_
  refine ST.lift (fun _ _ k => T_iload_n d_Mo_reduce_12 rfl k) ?_
  refine ST.lift (fun _ _ k => T_lconst (v := 0) d_Mo_reduce_13 (by decide) k) ?_
  refine S_lastore d_Mo_reduce_14 (by decide) a397 (vp_in_nI (by omega) (by omega)) ?_
  refine S_iincN (a := 8) (b := 1) (L' := [(1, .int (nI 9)), (0, .ref 373)]) d_Mo_reduce_15 (by decide) rfl rfl rfl ?_
  refine ST.lift (fun _ _ k => T_goto (tgt := 2) d_Mo_reduce_18 rfl k) ?_
  refine ST.lift (fun _ _ k => T_iload_n d_Mo_reduce_2 rfl k) ?_
  refine ST.lift (fun _ _ k => T_bipush (v := nI 17) d_Mo_reduce_3 (by decide) k) ?_
  refine S_icmp_geN d_Mo_reduce_5 rfl (by omega) (by omega) (fun c => by first | exact absurd c (by omega) | exact c.elim | exact absurd c (by decide) | exact absurd (by assumption) c | exact absurd c (by assumption)) (fun _ => ?_)
  refine ST.lift (fun _ _ k => T_aload_n (v := .ref 373) d_Mo_reduce_8 rfl (Or.inr ⟨_, rfl⟩) k) ?_
  refine S_getfield d_Mo_reduce_9 fg_Mo_245 (w373 _) rfl ?_
  refine ST.lift (fun _ _ k => T_iload_n d_Mo_reduce_12 rfl k) ?_
  refine ST.lift (fun _ _ k => T_lconst (v := 0) d_Mo_reduce_13 (by decide) k) ?_
  refine S_lastore d_Mo_reduce_14 (by decide) a397 (vp_in_nI (by omega) (by omega)) ?_
  refine S_iincN (a := 9) (b := 1) (L' := [(1, .int (nI 10)), (0, .ref 373)]) d_Mo_reduce_15 (by decide) rfl rfl rfl ?_
  refine ST.lift (fun _ _ k => T_goto (tgt := 2) d_Mo_reduce_18 rfl k) ?_
  refine ST.lift (fun _ _ k => T_iload_n d_Mo_reduce_2 rfl k) ?_
  refine ST.lift (fun _ _ k => T_bipush (v := nI 17) d_Mo_reduce_3 (by decide) k) ?_
  refine S_icmp_geN d_Mo_reduce_5 rfl (by omega) (by omega) (fun c => by first | exact absurd c (by omega) | exact c.elim | exact absurd c (by decide) | exact absurd (by assumption) c | exact absurd c (by assumption)) (fun _ => ?_)
  refine ST.lift (fun _ _ k => T_aload_n (v := .ref 373) d_Mo_reduce_8 rfl (Or.inr ⟨_, rfl⟩) k) ?_
  refine S_getfield d_Mo_reduce_9 fg_Mo_245 (w373 _) rfl ?_
  refine ST.lift (fun _ _ k => T_iload_n d_Mo_reduce_12 rfl k) ?_
  refine ST.lift (fun _ _ k => T_lconst (v := 0) d_Mo_reduce_13 (by decide) k) ?_
  refine S_lastore d_Mo_reduce_14 (by decide) a397 (vp_in_nI (by omega) (by omega)) ?_
  refine S_iincN (a := 10) (b := 1) (L' := [(1, .int (nI 11)), (0, .ref 373)]) d_Mo_reduce_15 (by decide) rfl rfl rfl ?_
  refine ST.lift (fun _ _ k => T_goto (tgt := 2) d_Mo_reduce_18 rfl k) ?_
  refine ST.lift (fun _ _ k => T_iload_n d_Mo_reduce_2 rfl k) ?_
  refine ST.lift (fun _ _ k => T_bipush (v := nI 17) d_Mo_reduce_3 (by decide) k) ?_
  refine S_icmp_geN d_Mo_reduce_5 rfl (by omega) (by omega) (fun c => by first | exact absurd c (by omega) | exact c.elim | exact absurd c (by decide) | exact absurd (by assumption) c | exact absurd c (by assumption)) (fun _ => ?_)
  refine ST.lift (fun _ _ k => T_aload_n (v := .ref 373) d_Mo_reduce_8 rfl (Or.inr ⟨_, rfl⟩) k) ?_
  refine S_getfield d_Mo_reduce_9 fg_Mo_245 (w373 _) rfl ?_
  refine ST.lift (fun _ _ k => T_iload_n d_Mo_reduce_12 rfl k) ?_
  refine ST.lift (fun _ _ k => T_lconst (v := 0) d_Mo_reduce_13 (by decide) k) ?_
  refine S_lastore d_Mo_reduce_14 (by decide) a397 (vp_in_nI (by omega) (by omega)) ?_
  refine S_iincN (a := 11) (b := 1) (L' := [(1, .int (nI 12)), (0, .ref 373)]) d_Mo_reduce_15 (by decide) rfl rfl rfl ?_
  refine ST.lift (fun _ _ k => T_goto (tgt := 2) d_Mo_reduce_18 rfl k) ?_
  refine ST.lift (fun _ _ k => T_iload_n d_Mo_reduce_2 rfl k) ?_
  refine ST.lift (fun _ _ k => T_bipush (v := nI 17) d_Mo_reduce_3 (by decide) k) ?_
  refine S_icmp_geN d_Mo_reduce_5 rfl (by omega) (by omega) (fun c => by first | exact absurd c (by omega) | exact c.elim | exact absurd c (by decide) | exact absurd (by assumption) c | exact absurd c (by assumption)) (fun _ => ?_)
  refine ST.lift (fun _ _ k => T_aload_n (v := .ref 373) d_Mo_reduce_8 rfl (Or.inr ⟨_, rfl⟩) k) ?_
  refine S_getfield d_Mo_reduce_9 fg_Mo_245 (w373 _) rfl ?_
  refine ST.lift (fun _ _ k => T_iload_n d_Mo_reduce_12 rfl k) ?_
  refine ST.lift (fun _ _ k => T_lconst (v := 0) d_Mo_reduce_13 (by decide) k) ?_
  refine S_lastore d_Mo_reduce_14 (by decide) a397 (vp_in_nI (by omega) (by omega)) ?_
  refine S_iincN (a := 12) (b := 1) (L' := [(1, .int (nI 13)), (0, .ref 373)]) d_Mo_reduce_15 (by decide) rfl rfl rfl ?_
  refine ST.lift (fun _ _ k => T_goto (tgt := 2) d_Mo_reduce_18 rfl k) ?_
  refine ST.lift (fun _ _ k => T_iload_n d_Mo_reduce_2 rfl k) ?_
  refine ST.lift (fun _ _ k => T_bipush (v := nI 17) d_Mo_reduce_3 (by decide) k) ?_
  refine S_icmp_geN d_Mo_reduce_5 rfl (by omega) (by omega) (fun c => by first | exact absurd c (by omega) | exact c.elim | exact absurd c (by decide) | exact absurd (by assumption) c | exact absurd c (by assumption)) (fun _ => ?_)
  refine ST.lift (fun _ _ k => T_aload_n (v := .ref 373) d_Mo_reduce_8 rfl (Or.inr ⟨_, rfl⟩) k) ?_
  refine S_getfield d_Mo_reduce_9 fg_Mo_245 (w373 _) rfl ?_
  refine ST.lift (fun _ _ k => T_iload_n d_Mo_reduce_12 rfl k) ?_
  refine ST.lift (fun _ _ k => T_lconst (v := 0) d_Mo_reduce_13 (by decide) k) ?_
  refine S_lastore d_Mo_reduce_14 (by decide) a397 (vp_in_nI (by omega) (by omega)) ?_
  refine S_iincN (a := 13) (b := 1) (L' := [(1, .int (nI 14)), (0, .ref 373)]) d_Mo_reduce_15 (by decide) rfl rfl rfl ?_
  refine ST.lift (fun _ _ k => T_goto (tgt := 2) d_Mo_reduce_18 rfl k) ?_
  refine ST.lift (fun _ _ k => T_iload_n d_Mo_reduce_2 rfl k) ?_
  refine ST.lift (fun _ _ k => T_bipush (v := nI 17) d_Mo_reduce_3 (by decide) k) ?_
  refine S_icmp_geN d_Mo_reduce_5 rfl (by omega) (by omega) (fun c => by first | exact absurd c (by omega) | exact c.elim | exact absurd c (by decide) | exact absurd (by assumption) c | exact absurd c (by assumption)) (fun _ => ?_)
  refine ST.lift (fun _ _ k => T_aload_n (v := .ref 373) d_Mo_reduce_8 rfl (Or.inr ⟨_, rfl⟩) k) ?_
  refine S_getfield d_Mo_reduce_9 fg_Mo_245 (w373 _) rfl ?_
  refine ST.lift (fun _ _ k => T_iload_n d_Mo_reduce_12 rfl k) ?_
  refine ST.lift (fun _ _ k => T_lconst (v := 0) d_Mo_reduce_13 (by decide) k) ?_
  refine S_lastore d_Mo_reduce_14 (by decide) a397 (vp_in_nI (by omega) (by omega)) ?_
  refine S_iincN (a := 14) (b := 1) (L' := [(1, .int (nI 15)), (0, .ref 373)]) d_Mo_reduce_15 (by decide) rfl rfl rfl ?_
  refine ST.lift (fun _ _ k => T_goto (tgt := 2) d_Mo_reduce_18 rfl k) ?_
  refine ST.lift (fun _ _ k => T_iload_n d_Mo_reduce_2 rfl k) ?_
  refine ST.lift (fun _ _ k => T_bipush (v := nI 17) d_Mo_reduce_3 (by decide) k) ?_
  refine S_icmp_geN d_Mo_reduce_5 rfl (by omega) (by omega) (fun c => by first | exact absurd c (by omega) | exact c.elim | exact absurd c (by decide) | exact absurd (by assumption) c | exact absurd c (by assumption)) (fun _ => ?_)
  refine ST.lift (fun _ _ k => T_aload_n (v := .ref 373) d_Mo_reduce_8 rfl (Or.inr ⟨_, rfl⟩) k) ?_
  refine S_getfield d_Mo_reduce_9 fg_Mo_245 (w373 _) rfl ?_
  refine ST.lift (fun _ _ k => T_iload_n d_Mo_reduce_12 rfl k) ?_
  refine ST.lift (fun _ _ k => T_lconst (v := 0) d_Mo_reduce_13 (by decide) k) ?_
  refine S_lastore d_Mo_reduce_14 (by decide) a397 (vp_in_nI (by omega) (by omega)) ?_
  refine S_iincN (a := 15) (b := 1) (L' := [(1, .int (nI 16)), (0, .ref 373)]) d_Mo_reduce_15 (by decide) rfl rfl rfl ?_
  refine ST.lift (fun _ _ k => T_goto (tgt := 2) d_Mo_reduce_18 rfl k) ?_
  refine ST.lift (fun _ _ k => T_iload_n d_Mo_reduce_2 rfl k) ?_
  refine ST.lift (fun _ _ k => T_bipush (v := nI 17) d_Mo_reduce_3 (by decide) k) ?_
  refine S_icmp_geN d_Mo_reduce_5 rfl (by omega) (by omega) (fun c => by first | exact absurd c (by omega) | exact c.elim | exact absurd c (by decide) | exact absurd (by assumption) c | exact absurd c (by assumption)) (fun _ => ?_)
  refine ST.lift (fun _ _ k => T_aload_n (v := .ref 373) d_Mo_reduce_8 rfl (Or.inr ⟨_, rfl⟩) k) ?_
  refine S_getfield d_Mo_reduce_9 fg_Mo_245 (w373 _) rfl ?_
  refine ST.lift (fun _ _ k => T_iload_n d_Mo_reduce_12 rfl k) ?_
  refine ST.lift (fun _ _ k => T_lconst (v := 0) d_Mo_reduce_13 (by decide) k) ?_
  refine S_lastore d_Mo_reduce_14 (by decide) a397 (vp_in_nI (by omega) (by omega)) ?_
  refine S_iincN (a := 16) (b := 1) (L' := [(1, .int (nI 17)), (0, .ref 373)]) d_Mo_reduce_15 (by decide) rfl rfl rfl ?_
  refine ST.lift (fun _ _ k => T_goto (tgt := 2) d_Mo_reduce_18 rfl k) ?_
  refine ST.lift (fun _ _ k => T_iload_n d_Mo_reduce_2 rfl k) ?_
  refine ST.lift (fun _ _ k => T_bipush (v := nI 17) d_Mo_reduce_3 (by decide) k) ?_
  refine S_icmp_geN d_Mo_reduce_5 rfl (by omega) (by omega) (fun _ => ?_) (fun c => by first | exact absurd c (by omega) | exact c.elim | exact absurd c (by decide) | exact absurd (by assumption) c | exact absurd c (by assumption))
  refine ST.lift (fun _ _ k => T_sipush (v := nI 511) d_Mo_reduce_21 (by decide) k) ?_
  refine ST.lift (fun _ _ k => T_istore_n (L' := [(1, .int (nI 511)), (0, .ref 373)]) d_Mo_reduce_24 (by decide) rfl k) ?_
  have lp4 : ∀ (n2 k1 : Nat), k1 = n2 → k1 ≤ (511 + 1) → ST G mi_Mo_reduce 25 [(1, .int (nI k1 - 1)), (0, .ref 373)] [] v 0 0 Q := by
    intro n2
    induction n2 using Nat.strongRecOn with
    | _ n2 ih3 =>
      intro k1 h5 h6
      refine ST.lift (fun _ _ k => T_iload_n d_Mo_reduce_25 rfl k) ?_
      refine S_if_ltD d_Mo_reduce_26 rfl (by omega) (fun h8 => ?_) (fun b7 h8 => ?_)
      · refine ST.lift (fun _ _ k => T_iconst (v := nI 0) d_Mo_reduce_246 (by decide) k) ?_
        refine ST.lift (fun _ _ k => T_istore_n (L' := [(1, .int (nI 0)), (0, .ref 373)]) d_Mo_reduce_247 (by decide) rfl k) ?_
        refine ST.lift (fun _ _ k => T_iload_n d_Mo_reduce_248 rfl k) ?_
        refine ST.lift (fun _ _ k => T_bipush (v := nI 16) d_Mo_reduce_249 (by decide) k) ?_
        refine S_icmp_geN d_Mo_reduce_251 rfl (by omega) (by omega) (fun c => by first | exact absurd c (by omega) | exact c.elim | exact absurd c (by decide) | exact absurd (by assumption) c | exact absurd c (by assumption)) (fun _ => ?_)
        refine ST.lift (fun _ _ k => T_aload_n (v := .ref 373) d_Mo_reduce_254 rfl (Or.inr ⟨_, rfl⟩) k) ?_
        refine S_getfield d_Mo_reduce_255 fg_Mo_194 (w373 _) rfl ?_
        refine ST.lift (fun _ _ k => T_iload_n d_Mo_reduce_258 rfl k) ?_
        refine ST.lift (fun _ _ k => T_aload_n (v := .ref 373) d_Mo_reduce_259 rfl (Or.inr ⟨_, rfl⟩) k) ?_
        refine S_getfield d_Mo_reduce_260 fg_Mo_245 (w373 _) rfl ?_
        refine ST.lift (fun _ _ k => T_iload_n d_Mo_reduce_263 rfl k) ?_
        refine S_laload d_Mo_reduce_264 a397 (vp_in_nI (by omega) (by omega)) (fun z9 => ?_)
        refine S_lastore d_Mo_reduce_265 (by decide) a395 (vp_in_nI (by omega) (by omega)) ?_
        refine S_iincN (a := 0) (b := 1) (L' := [(1, .int (nI 1)), (0, .ref 373)]) d_Mo_reduce_266 (by decide) rfl rfl rfl ?_
        refine ST.lift (fun _ _ k => T_goto (tgt := 248) d_Mo_reduce_269 rfl k) ?_
        refine ST.lift (fun _ _ k => T_iload_n d_Mo_reduce_248 rfl k) ?_
        refine ST.lift (fun _ _ k => T_bipush (v := nI 16) d_Mo_reduce_249 (by decide) k) ?_
        refine S_icmp_geN d_Mo_reduce_251 rfl (by omega) (by omega) (fun c => by first | exact absurd c (by omega) | exact c.elim | exact absurd c (by decide) | exact absurd (by assumption) c | exact absurd c (by assumption)) (fun _ => ?_)
        refine ST.lift (fun _ _ k => T_aload_n (v := .ref 373) d_Mo_reduce_254 rfl (Or.inr ⟨_, rfl⟩) k) ?_
        refine S_getfield d_Mo_reduce_255 fg_Mo_194 (w373 _) rfl ?_
        refine ST.lift (fun _ _ k => T_iload_n d_Mo_reduce_258 rfl k) ?_
        refine ST.lift (fun _ _ k => T_aload_n (v := .ref 373) d_Mo_reduce_259 rfl (Or.inr ⟨_, rfl⟩) k) ?_
        refine S_getfield d_Mo_reduce_260 fg_Mo_245 (w373 _) rfl ?_
        refine ST.lift (fun _ _ k => T_iload_n d_Mo_reduce_263 rfl k) ?_
        refine S_laload d_Mo_reduce_264 a397 (vp_in_nI (by omega) (by omega)) (fun z10 => ?_)
        refine S_lastore d_Mo_reduce_265 (by decide) a395 (vp_in_nI (by omega) (by omega)) ?_
        refine S_iincN (a := 1) (b := 1) (L' := [(1, .int (nI 2)), (0, .ref 373)]) d_Mo_reduce_266 (by decide) rfl rfl rfl ?_
        refine ST.lift (fun _ _ k => T_goto (tgt := 248) d_Mo_reduce_269 rfl k) ?_
        refine ST.lift (fun _ _ k => T_iload_n d_Mo_reduce_248 rfl k) ?_
        refine ST.lift (fun _ _ k => T_bipush (v := nI 16) d_Mo_reduce_249 (by decide) k) ?_
        refine S_icmp_geN d_Mo_reduce_251 rfl (by omega) (by omega) (fun c => by first | exact absurd c (by omega) | exact c.elim | exact absurd c (by decide) | exact absurd (by assumption) c | exact absurd c (by assumption)) (fun _ => ?_)
        refine ST.lift (fun _ _ k => T_aload_n (v := .ref 373) d_Mo_reduce_254 rfl (Or.inr ⟨_, rfl⟩) k) ?_
        refine S_getfield d_Mo_reduce_255 fg_Mo_194 (w373 _) rfl ?_
        refine ST.lift (fun _ _ k => T_iload_n d_Mo_reduce_258 rfl k) ?_
        refine ST.lift (fun _ _ k => T_aload_n (v := .ref 373) d_Mo_reduce_259 rfl (Or.inr ⟨_, rfl⟩) k) ?_
        refine S_getfield d_Mo_reduce_260 fg_Mo_245 (w373 _) rfl ?_
        refine ST.lift (fun _ _ k => T_iload_n d_Mo_reduce_263 rfl k) ?_
        refine S_laload d_Mo_reduce_264 a397 (vp_in_nI (by omega) (by omega)) (fun z11 => ?_)
        refine S_lastore d_Mo_reduce_265 (by decide) a395 (vp_in_nI (by omega) (by omega)) ?_
        refine S_iincN (a := 2) (b := 1) (L' := [(1, .int (nI 3)), (0, .ref 373)]) d_Mo_reduce_266 (by decide) rfl rfl rfl ?_
        refine ST.lift (fun _ _ k => T_goto (tgt := 248) d_Mo_reduce_269 rfl k) ?_
        refine ST.lift (fun _ _ k => T_iload_n d_Mo_reduce_248 rfl k) ?_
        refine ST.lift (fun _ _ k => T_bipush (v := nI 16) d_Mo_reduce_249 (by decide) k) ?_
        refine S_icmp_geN d_Mo_reduce_251 rfl (by omega) (by omega) (fun c => by first | exact absurd c (by omega) | exact c.elim | exact absurd c (by decide) | exact absurd (by assumption) c | exact absurd c (by assumption)) (fun _ => ?_)
        refine ST.lift (fun _ _ k => T_aload_n (v := .ref 373) d_Mo_reduce_254 rfl (Or.inr ⟨_, rfl⟩) k) ?_
        refine S_getfield d_Mo_reduce_255 fg_Mo_194 (w373 _) rfl ?_
        refine ST.lift (fun _ _ k => T_iload_n d_Mo_reduce_258 rfl k) ?_
        refine ST.lift (fun _ _ k => T_aload_n (v := .ref 373) d_Mo_reduce_259 rfl (Or.inr ⟨_, rfl⟩) k) ?_
        refine S_getfield d_Mo_reduce_260 fg_Mo_245 (w373 _) rfl ?_
        refine ST.lift (fun _ _ k => T_iload_n d_Mo_reduce_263 rfl k) ?_
        refine S_laload d_Mo_reduce_264 a397 (vp_in_nI (by omega) (by omega)) (fun z12 => ?_)
        refine S_lastore d_Mo_reduce_265 (by decide) a395 (vp_in_nI (by omega) (by omega)) ?_
        refine S_iincN (a := 3) (b := 1) (L' := [(1, .int (nI 4)), (0, .ref 373)]) d_Mo_reduce_266 (by decide) rfl rfl rfl ?_
        refine ST.lift (fun _ _ k => T_goto (tgt := 248) d_Mo_reduce_269 rfl k) ?_
        refine ST.lift (fun _ _ k => T_iload_n d_Mo_reduce_248 rfl k) ?_
        refine ST.lift (fun _ _ k => T_bipush (v := nI 16) d_Mo_reduce_249 (by decide) k) ?_
        refine S_icmp_geN d_Mo_reduce_251 rfl (by omega) (by omega) (fun c => by first | exact absurd c (by omega) | exact c.elim | exact absurd c (by decide) | exact absurd (by assumption) c | exact absurd c (by assumption)) (fun _ => ?_)
        refine ST.lift (fun _ _ k => T_aload_n (v := .ref 373) d_Mo_reduce_254 rfl (Or.inr ⟨_, rfl⟩) k) ?_
        refine S_getfield d_Mo_reduce_255 fg_Mo_194 (w373 _) rfl ?_
        refine ST.lift (fun _ _ k => T_iload_n d_Mo_reduce_258 rfl k) ?_
        refine ST.lift (fun _ _ k => T_aload_n (v := .ref 373) d_Mo_reduce_259 rfl (Or.inr ⟨_, rfl⟩) k) ?_
        refine S_getfield d_Mo_reduce_260 fg_Mo_245 (w373 _) rfl ?_
        refine ST.lift (fun _ _ k => T_iload_n d_Mo_reduce_263 rfl k) ?_
        refine S_laload d_Mo_reduce_264 a397 (vp_in_nI (by omega) (by omega)) (fun z13 => ?_)
        refine S_lastore d_Mo_reduce_265 (by decide) a395 (vp_in_nI (by omega) (by omega)) ?_
        refine S_iincN (a := 4) (b := 1) (L' := [(1, .int (nI 5)), (0, .ref 373)]) d_Mo_reduce_266 (by decide) rfl rfl rfl ?_
        refine ST.lift (fun _ _ k => T_goto (tgt := 248) d_Mo_reduce_269 rfl k) ?_
        refine ST.lift (fun _ _ k => T_iload_n d_Mo_reduce_248 rfl k) ?_
        refine ST.lift (fun _ _ k => T_bipush (v := nI 16) d_Mo_reduce_249 (by decide) k) ?_
        refine S_icmp_geN d_Mo_reduce_251 rfl (by omega) (by omega) (fun c => by first | exact absurd c (by omega) | exact c.elim | exact absurd c (by decide) | exact absurd (by assumption) c | exact absurd c (by assumption)) (fun _ => ?_)
        refine ST.lift (fun _ _ k => T_aload_n (v := .ref 373) d_Mo_reduce_254 rfl (Or.inr ⟨_, rfl⟩) k) ?_
        refine S_getfield d_Mo_reduce_255 fg_Mo_194 (w373 _) rfl ?_
        refine ST.lift (fun _ _ k => T_iload_n d_Mo_reduce_258 rfl k) ?_
        refine ST.lift (fun _ _ k => T_aload_n (v := .ref 373) d_Mo_reduce_259 rfl (Or.inr ⟨_, rfl⟩) k) ?_
        refine S_getfield d_Mo_reduce_260 fg_Mo_245 (w373 _) rfl ?_
        refine ST.lift (fun _ _ k => T_iload_n d_Mo_reduce_263 rfl k) ?_
        refine S_laload d_Mo_reduce_264 a397 (vp_in_nI (by omega) (by omega)) (fun z14 => ?_)
        refine S_lastore d_Mo_reduce_265 (by decide) a395 (vp_in_nI (by omega) (by omega)) ?_
        refine S_iincN (a := 5) (b := 1) (L' := [(1, .int (nI 6)), (0, .ref 373)]) d_Mo_reduce_266 (by decide) rfl rfl rfl ?_
        refine ST.lift (fun _ _ k => T_goto (tgt := 248) d_Mo_reduce_269 rfl k) ?_
        refine ST.lift (fun _ _ k => T_iload_n d_Mo_reduce_248 rfl k) ?_
        refine ST.lift (fun _ _ k => T_bipush (v := nI 16) d_Mo_reduce_249 (by decide) k) ?_
        refine S_icmp_geN d_Mo_reduce_251 rfl (by omega) (by omega) (fun c => by first | exact absurd c (by omega) | exact c.elim | exact absurd c (by decide) | exact absurd (by assumption) c | exact absurd c (by assumption)) (fun _ => ?_)
        refine ST.lift (fun _ _ k => T_aload_n (v := .ref 373) d_Mo_reduce_254 rfl (Or.inr ⟨_, rfl⟩) k) ?_
        refine S_getfield d_Mo_reduce_255 fg_Mo_194 (w373 _) rfl ?_
        refine ST.lift (fun _ _ k => T_iload_n d_Mo_reduce_258 rfl k) ?_
        refine ST.lift (fun _ _ k => T_aload_n (v := .ref 373) d_Mo_reduce_259 rfl (Or.inr ⟨_, rfl⟩) k) ?_
        refine S_getfield d_Mo_reduce_260 fg_Mo_245 (w373 _) rfl ?_
        refine ST.lift (fun _ _ k => T_iload_n d_Mo_reduce_263 rfl k) ?_
        refine S_laload d_Mo_reduce_264 a397 (vp_in_nI (by omega) (by omega)) (fun z15 => ?_)
        refine S_lastore d_Mo_reduce_265 (by decide) a395 (vp_in_nI (by omega) (by omega)) ?_
        refine S_iincN (a := 6) (b := 1) (L' := [(1, .int (nI 7)), (0, .ref 373)]) d_Mo_reduce_266 (by decide) rfl rfl rfl ?_
        refine ST.lift (fun _ _ k => T_goto (tgt := 248) d_Mo_reduce_269 rfl k) ?_
        refine ST.lift (fun _ _ k => T_iload_n d_Mo_reduce_248 rfl k) ?_
        refine ST.lift (fun _ _ k => T_bipush (v := nI 16) d_Mo_reduce_249 (by decide) k) ?_
        refine S_icmp_geN d_Mo_reduce_251 rfl (by omega) (by omega) (fun c => by first | exact absurd c (by omega) | exact c.elim | exact absurd c (by decide) | exact absurd (by assumption) c | exact absurd c (by assumption)) (fun _ => ?_)
        refine ST.lift (fun _ _ k => T_aload_n (v := .ref 373) d_Mo_reduce_254 rfl (Or.inr ⟨_, rfl⟩) k) ?_
        refine S_getfield d_Mo_reduce_255 fg_Mo_194 (w373 _) rfl ?_
        refine ST.lift (fun _ _ k => T_iload_n d_Mo_reduce_258 rfl k) ?_
        refine ST.lift (fun _ _ k => T_aload_n (v := .ref 373) d_Mo_reduce_259 rfl (Or.inr ⟨_, rfl⟩) k) ?_
        refine S_getfield d_Mo_reduce_260 fg_Mo_245 (w373 _) rfl ?_
        refine ST.lift (fun _ _ k => T_iload_n d_Mo_reduce_263 rfl k) ?_
        refine S_laload d_Mo_reduce_264 a397 (vp_in_nI (by omega) (by omega)) (fun z16 => ?_)
        refine S_lastore d_Mo_reduce_265 (by decide) a395 (vp_in_nI (by omega) (by omega)) ?_
        refine S_iincN (a := 7) (b := 1) (L' := [(1, .int (nI 8)), (0, .ref 373)]) d_Mo_reduce_266 (by decide) rfl rfl rfl ?_
        refine ST.lift (fun _ _ k => T_goto (tgt := 248) d_Mo_reduce_269 rfl k) ?_
        refine ST.lift (fun _ _ k => T_iload_n d_Mo_reduce_248 rfl k) ?_
        refine ST.lift (fun _ _ k => T_bipush (v := nI 16) d_Mo_reduce_249 (by decide) k) ?_
        refine S_icmp_geN d_Mo_reduce_251 rfl (by omega) (by omega) (fun c => by first | exact absurd c (by omega) | exact c.elim | exact absurd c (by decide) | exact absurd (by assumption) c | exact absurd c (by assumption)) (fun _ => ?_)
        refine ST.lift (fun _ _ k => T_aload_n (v := .ref 373) d_Mo_reduce_254 rfl (Or.inr ⟨_, rfl⟩) k) ?_
        refine S_getfield d_Mo_reduce_255 fg_Mo_194 (w373 _) rfl ?_
        refine ST.lift (fun _ _ k => T_iload_n d_Mo_reduce_258 rfl k) ?_
        refine ST.lift (fun _ _ k => T_aload_n (v := .ref 373) d_Mo_reduce_259 rfl (Or.inr ⟨_, rfl⟩) k) ?_
        refine S_getfield d_Mo_reduce_260 fg_Mo_245 (w373 _) rfl ?_
        refine ST.lift (fun _ _ k => T_iload_n d_Mo_reduce_263 rfl k) ?_
        refine S_laload d_Mo_reduce_264 a397 (vp_in_nI (by omega) (by omega)) (fun z17 => ?_)
        refine S_lastore d_Mo_reduce_265 (by decide) a395 (vp_in_nI (by omega) (by omega)) ?_
        refine S_iincN (a := 8) (b := 1) (L' := [(1, .int (nI 9)), (0, .ref 373)]) d_Mo_reduce_266 (by decide) rfl rfl rfl ?_
        refine ST.lift (fun _ _ k => T_goto (tgt := 248) d_Mo_reduce_269 rfl k) ?_
        refine ST.lift (fun _ _ k => T_iload_n d_Mo_reduce_248 rfl k) ?_
        refine ST.lift (fun _ _ k => T_bipush (v := nI 16) d_Mo_reduce_249 (by decide) k) ?_
        refine S_icmp_geN d_Mo_reduce_251 rfl (by omega) (by omega) (fun c => by first | exact absurd c (by omega) | exact c.elim | exact absurd c (by decide) | exact absurd (by assumption) c | exact absurd c (by assumption)) (fun _ => ?_)
        refine ST.lift (fun _ _ k => T_aload_n (v := .ref 373) d_Mo_reduce_254 rfl (Or.inr ⟨_, rfl⟩) k) ?_
        refine S_getfield d_Mo_reduce_255 fg_Mo_194 (w373 _) rfl ?_
        refine ST.lift (fun _ _ k => T_iload_n d_Mo_reduce_258 rfl k) ?_
        refine ST.lift (fun _ _ k => T_aload_n (v := .ref 373) d_Mo_reduce_259 rfl (Or.inr ⟨_, rfl⟩) k) ?_
        refine S_getfield d_Mo_reduce_260 fg_Mo_245 (w373 _) rfl ?_
        refine ST.lift (fun _ _ k => T_iload_n d_Mo_reduce_263 rfl k) ?_
        refine S_laload d_Mo_reduce_264 a397 (vp_in_nI (by omega) (by omega)) (fun z18 => ?_)
        refine S_lastore d_Mo_reduce_265 (by decide) a395 (vp_in_nI (by omega) (by omega)) ?_
        refine S_iincN (a := 9) (b := 1) (L' := [(1, .int (nI 10)), (0, .ref 373)]) d_Mo_reduce_266 (by decide) rfl rfl rfl ?_
        refine ST.lift (fun _ _ k => T_goto (tgt := 248) d_Mo_reduce_269 rfl k) ?_
        refine ST.lift (fun _ _ k => T_iload_n d_Mo_reduce_248 rfl k) ?_
        refine ST.lift (fun _ _ k => T_bipush (v := nI 16) d_Mo_reduce_249 (by decide) k) ?_
        refine S_icmp_geN d_Mo_reduce_251 rfl (by omega) (by omega) (fun c => by first | exact absurd c (by omega) | exact c.elim | exact absurd c (by decide) | exact absurd (by assumption) c | exact absurd c (by assumption)) (fun _ => ?_)
        refine ST.lift (fun _ _ k => T_aload_n (v := .ref 373) d_Mo_reduce_254 rfl (Or.inr ⟨_, rfl⟩) k) ?_
        refine S_getfield d_Mo_reduce_255 fg_Mo_194 (w373 _) rfl ?_
        refine ST.lift (fun _ _ k => T_iload_n d_Mo_reduce_258 rfl k) ?_
        refine ST.lift (fun _ _ k => T_aload_n (v := .ref 373) d_Mo_reduce_259 rfl (Or.inr ⟨_, rfl⟩) k) ?_
        refine S_getfield d_Mo_reduce_260 fg_Mo_245 (w373 _) rfl ?_
        refine ST.lift (fun _ _ k => T_iload_n d_Mo_reduce_263 rfl k) ?_
        refine S_laload d_Mo_reduce_264 a397 (vp_in_nI (by omega) (by omega)) (fun z19 => ?_)
        refine S_lastore d_Mo_reduce_265 (by decide) a395 (vp_in_nI (by omega) (by omega)) ?_
        refine S_iincN (a := 10) (b := 1) (L' := [(1, .int (nI 11)), (0, .ref 373)]) d_Mo_reduce_266 (by decide) rfl rfl rfl ?_
        refine ST.lift (fun _ _ k => T_goto (tgt := 248) d_Mo_reduce_269 rfl k) ?_
        refine ST.lift (fun _ _ k => T_iload_n d_Mo_reduce_248 rfl k) ?_
        refine ST.lift (fun _ _ k => T_bipush (v := nI 16) d_Mo_reduce_249 (by decide) k) ?_
        refine S_icmp_geN d_Mo_reduce_251 rfl (by omega) (by omega) (fun c => by first | exact absurd c (by omega) | exact c.elim | exact absurd c (by decide) | exact absurd (by assumption) c | exact absurd c (by assumption)) (fun _ => ?_)
        refine ST.lift (fun _ _ k => T_aload_n (v := .ref 373) d_Mo_reduce_254 rfl (Or.inr ⟨_, rfl⟩) k) ?_
        refine S_getfield d_Mo_reduce_255 fg_Mo_194 (w373 _) rfl ?_
        refine ST.lift (fun _ _ k => T_iload_n d_Mo_reduce_258 rfl k) ?_
        refine ST.lift (fun _ _ k => T_aload_n (v := .ref 373) d_Mo_reduce_259 rfl (Or.inr ⟨_, rfl⟩) k) ?_
        refine S_getfield d_Mo_reduce_260 fg_Mo_245 (w373 _) rfl ?_
        refine ST.lift (fun _ _ k => T_iload_n d_Mo_reduce_263 rfl k) ?_
        refine S_laload d_Mo_reduce_264 a397 (vp_in_nI (by omega) (by omega)) (fun z20 => ?_)
        refine S_lastore d_Mo_reduce_265 (by decide) a395 (vp_in_nI (by omega) (by omega)) ?_
        refine S_iincN (a := 11) (b := 1) (L' := [(1, .int (nI 12)), (0, .ref 373)]) d_Mo_reduce_266 (by decide) rfl rfl rfl ?_
        refine ST.lift (fun _ _ k => T_goto (tgt := 248) d_Mo_reduce_269 rfl k) ?_
        refine ST.lift (fun _ _ k => T_iload_n d_Mo_reduce_248 rfl k) ?_
        refine ST.lift (fun _ _ k => T_bipush (v := nI 16) d_Mo_reduce_249 (by decide) k) ?_
        refine S_icmp_geN d_Mo_reduce_251 rfl (by omega) (by omega) (fun c => by first | exact absurd c (by omega) | exact c.elim | exact absurd c (by decide) | exact absurd (by assumption) c | exact absurd c (by assumption)) (fun _ => ?_)
        refine ST.lift (fun _ _ k => T_aload_n (v := .ref 373) d_Mo_reduce_254 rfl (Or.inr ⟨_, rfl⟩) k) ?_
        refine S_getfield d_Mo_reduce_255 fg_Mo_194 (w373 _) rfl ?_
        refine ST.lift (fun _ _ k => T_iload_n d_Mo_reduce_258 rfl k) ?_
        refine ST.lift (fun _ _ k => T_aload_n (v := .ref 373) d_Mo_reduce_259 rfl (Or.inr ⟨_, rfl⟩) k) ?_
        refine S_getfield d_Mo_reduce_260 fg_Mo_245 (w373 _) rfl ?_
        refine ST.lift (fun _ _ k => T_iload_n d_Mo_reduce_263 rfl k) ?_
        refine S_laload d_Mo_reduce_264 a397 (vp_in_nI (by omega) (by omega)) (fun z21 => ?_)
        refine S_lastore d_Mo_reduce_265 (by decide) a395 (vp_in_nI (by omega) (by omega)) ?_
        refine S_iincN (a := 12) (b := 1) (L' := [(1, .int (nI 13)), (0, .ref 373)]) d_Mo_reduce_266 (by decide) rfl rfl rfl ?_
        refine ST.lift (fun _ _ k => T_goto (tgt := 248) d_Mo_reduce_269 rfl k) ?_
        refine ST.lift (fun _ _ k => T_iload_n d_Mo_reduce_248 rfl k) ?_
        refine ST.lift (fun _ _ k => T_bipush (v := nI 16) d_Mo_reduce_249 (by decide) k) ?_
        refine S_icmp_geN d_Mo_reduce_251 rfl (by omega) (by omega) (fun c => by first | exact absurd c (by omega) | exact c.elim | exact absurd c (by decide) | exact absurd (by assumption) c | exact absurd c (by assumption)) (fun _ => ?_)
        refine ST.lift (fun _ _ k => T_aload_n (v := .ref 373) d_Mo_reduce_254 rfl (Or.inr ⟨_, rfl⟩) k) ?_
        refine S_getfield d_Mo_reduce_255 fg_Mo_194 (w373 _) rfl ?_
        refine ST.lift (fun _ _ k => T_iload_n d_Mo_reduce_258 rfl k) ?_
        refine ST.lift (fun _ _ k => T_aload_n (v := .ref 373) d_Mo_reduce_259 rfl (Or.inr ⟨_, rfl⟩) k) ?_
        refine S_getfield d_Mo_reduce_260 fg_Mo_245 (w373 _) rfl ?_
        refine ST.lift (fun _ _ k => T_iload_n d_Mo_reduce_263 rfl k) ?_
        refine S_laload d_Mo_reduce_264 a397 (vp_in_nI (by omega) (by omega)) (fun z22 => ?_)
        refine S_lastore d_Mo_reduce_265 (by decide) a395 (vp_in_nI (by omega) (by omega)) ?_
        refine S_iincN (a := 13) (b := 1) (L' := [(1, .int (nI 14)), (0, .ref 373)]) d_Mo_reduce_266 (by decide) rfl rfl rfl ?_
        refine ST.lift (fun _ _ k => T_goto (tgt := 248) d_Mo_reduce_269 rfl k) ?_
        refine ST.lift (fun _ _ k => T_iload_n d_Mo_reduce_248 rfl k) ?_
        refine ST.lift (fun _ _ k => T_bipush (v := nI 16) d_Mo_reduce_249 (by decide) k) ?_
        refine S_icmp_geN d_Mo_reduce_251 rfl (by omega) (by omega) (fun c => by first | exact absurd c (by omega) | exact c.elim | exact absurd c (by decide) | exact absurd (by assumption) c | exact absurd c (by assumption)) (fun _ => ?_)
        refine ST.lift (fun _ _ k => T_aload_n (v := .ref 373) d_Mo_reduce_254 rfl (Or.inr ⟨_, rfl⟩) k) ?_
        refine S_getfield d_Mo_reduce_255 fg_Mo_194 (w373 _) rfl ?_
        refine ST.lift (fun _ _ k => T_iload_n d_Mo_reduce_258 rfl k) ?_
        refine ST.lift (fun _ _ k => T_aload_n (v := .ref 373) d_Mo_reduce_259 rfl (Or.inr ⟨_, rfl⟩) k) ?_
        refine S_getfield d_Mo_reduce_260 fg_Mo_245 (w373 _) rfl ?_
        refine ST.lift (fun _ _ k => T_iload_n d_Mo_reduce_263 rfl k) ?_
        refine S_laload d_Mo_reduce_264 a397 (vp_in_nI (by omega) (by omega)) (fun z23 => ?_)
        refine S_lastore d_Mo_reduce_265 (by decide) a395 (vp_in_nI (by omega) (by omega)) ?_
        refine S_iincN (a := 14) (b := 1) (L' := [(1, .int (nI 15)), (0, .ref 373)]) d_Mo_reduce_266 (by decide) rfl rfl rfl ?_
        refine ST.lift (fun _ _ k => T_goto (tgt := 248) d_Mo_reduce_269 rfl k) ?_
        refine ST.lift (fun _ _ k => T_iload_n d_Mo_reduce_248 rfl k) ?_
        refine ST.lift (fun _ _ k => T_bipush (v := nI 16) d_Mo_reduce_249 (by decide) k) ?_
        refine S_icmp_geN d_Mo_reduce_251 rfl (by omega) (by omega) (fun c => by first | exact absurd c (by omega) | exact c.elim | exact absurd c (by decide) | exact absurd (by assumption) c | exact absurd c (by assumption)) (fun _ => ?_)
        refine ST.lift (fun _ _ k => T_aload_n (v := .ref 373) d_Mo_reduce_254 rfl (Or.inr ⟨_, rfl⟩) k) ?_
        refine S_getfield d_Mo_reduce_255 fg_Mo_194 (w373 _) rfl ?_
        refine ST.lift (fun _ _ k => T_iload_n d_Mo_reduce_258 rfl k) ?_
        refine ST.lift (fun _ _ k => T_aload_n (v := .ref 373) d_Mo_reduce_259 rfl (Or.inr ⟨_, rfl⟩) k) ?_
        refine S_getfield d_Mo_reduce_260 fg_Mo_245 (w373 _) rfl ?_
        refine ST.lift (fun _ _ k => T_iload_n d_Mo_reduce_263 rfl k) ?_
        refine S_laload d_Mo_reduce_264 a397 (vp_in_nI (by omega) (by omega)) (fun z24 => ?_)
        refine S_lastore d_Mo_reduce_265 (by decide) a395 (vp_in_nI (by omega) (by omega)) ?_
        refine S_iincN (a := 15) (b := 1) (L' := [(1, .int (nI 16)), (0, .ref 373)]) d_Mo_reduce_266 (by decide) rfl rfl rfl ?_
        refine ST.lift (fun _ _ k => T_goto (tgt := 248) d_Mo_reduce_269 rfl k) ?_
        refine ST.lift (fun _ _ k => T_iload_n d_Mo_reduce_248 rfl k) ?_
        refine ST.lift (fun _ _ k => T_bipush (v := nI 16) d_Mo_reduce_249 (by decide) k) ?_
        refine S_icmp_geN d_Mo_reduce_251 rfl (by omega) (by omega) (fun _ => ?_) (fun c => by first | exact absurd c (by omega) | exact c.elim | exact absurd c (by decide) | exact absurd (by assumption) c | exact absurd c (by assumption))
        exact S_vret d_Mo_reduce_272 rfl (by decide) (by decide) hQ
      · subst h8
        refine S_loc (L' := [(1, .int (nI b7)), (0, .ref 373)]) (by rw [nI_pred]) ?_
        refine ST.lift (fun _ _ k => T_aload_n (v := .ref 373) d_Mo_reduce_29 rfl (Or.inr ⟨_, rfl⟩) k) ?_
        refine S_getfield d_Mo_reduce_30 fg_Mo_248 (w373 _) rfl ?_
        refine ST.lift (fun _ _ k => T_iload_n d_Mo_reduce_33 rfl k) ?_
        refine ST.lift (fun _ _ k => T_bipush (v := nI 16) d_Mo_reduce_34 (by decide) k) ?_
        refine S_idivN d_Mo_reduce_36 (by omega) (by omega) (by omega) ?_
        refine S_laload d_Mo_reduce_37 a398 (vp_in_nI (by omega) (by omega)) (fun z25 => ?_)
        refine ST.lift (fun _ _ k => T_iload_n d_Mo_reduce_38 rfl k) ?_
        refine ST.lift (fun _ _ k => T_bipush (v := nI 16) d_Mo_reduce_39 (by decide) k) ?_
        refine S_iremN d_Mo_reduce_41 (by omega) (by omega) (by omega) ?_
        refine ST.lift (fun _ _ k => T_lshr d_Mo_reduce_42 k) (S_anyl fun z26 => ?_)
        refine ST.lift (fun _ _ k => T_lconst (v := 1) d_Mo_reduce_43 (by decide) k) ?_
        refine ST.lift (fun _ _ k => T_land d_Mo_reduce_44 k) (S_anyl fun z27 => ?_)
        refine ST.lift (fun _ _ k => T_lstore_n (L' := [(2, .long z27), (1, .int (nI b7)), (0, .ref 373)]) d_Mo_reduce_45 (by decide) rfl k) ?_
        refine ST.lift (fun _ _ k => T_iconst (v := nI 0) d_Mo_reduce_46 (by decide) k) ?_
        refine ST.lift (fun _ _ k => T_istore (L' := [(4, .int (nI 0)), (2, .long z27), (1, .int (nI b7)), (0, .ref 373)]) d_Mo_reduce_47 (by decide) rfl k) ?_
        have lp32 : ∀ (n30 k28 : Nat) (z29 : Int64), 17 - k28 = n30 → 0 ≤ k28 ∧ k28 ≤ 0 + 17 → ST G mi_Mo_reduce 49 [(4, .int (nI k28)), (2, .long z29), (1, .int (nI b7)), (0, .ref 373)] [] v 0 0 Q := by
          intro n30
          induction n30 using Nat.strongRecOn with
          | _ n30 ih31 =>
            intro k28 z29 h33 h34
            refine ST.lift (fun _ _ k => T_iload d_Mo_reduce_49 rfl k) ?_
            refine ST.lift (fun _ _ k => T_bipush (v := nI 17) d_Mo_reduce_51 (by decide) k) ?_
            refine S_icmp_geN d_Mo_reduce_53 rfl (by omega) (by omega) (fun c35 => ?_) (fun c35 => ?_)
            · refine ST.lift (fun _ _ k => T_iconst (v := nI 0) d_Mo_reduce_94 (by decide) k) ?_
              refine ST.lift (fun _ _ k => T_istore (L' := [(4, .int (nI 0)), (2, .long z29), (1, .int (nI b7)), (0, .ref 373)]) d_Mo_reduce_95 (by decide) rfl k) ?_
              refine ST.lift (fun _ _ k => T_iconst (v := nI 0) d_Mo_reduce_97 (by decide) k) ?_
              refine ST.lift (fun _ _ k => T_istore (L' := [(5, .int (nI 0)), (4, .int (nI 0)), (2, .long z29), (1, .int (nI b7)), (0, .ref 373)]) d_Mo_reduce_98 (by decide) rfl k) ?_
              refine ST.lift (fun _ _ k => T_bipush (v := nI 16) d_Mo_reduce_100 (by decide) k) ?_
              refine ST.lift (fun _ _ k => T_istore (L' := [(6, .int (nI 16)), (5, .int (nI 0)), (4, .int (nI 0)), (2, .long z29), (1, .int (nI b7)), (0, .ref 373)]) d_Mo_reduce_102 (by decide) rfl k) ?_
              have lp46 : ∀ (n44 k41 : Nat) (z42 : Int32) (z43 : Int32), k41 = n44 → k41 ≤ (16 + 1) → ST G mi_Mo_reduce 104 [(6, .int (nI k41 - 1)), (5, .int z42), (4, .int z43), (2, .long z29), (1, .int (nI b7)), (0, .ref 373)] [] v 0 0 Q := by
                intro n44
                induction n44 using Nat.strongRecOn with
                | _ n44 ih45 =>
                  intro k41 z42 z43 h47 h48
                  refine ST.lift (fun _ _ k => T_iload d_Mo_reduce_104 rfl k) ?_
                  refine S_if_ltD d_Mo_reduce_106 rfl (by omega) (fun h50 => ?_) (fun b49 h50 => ?_)
                  · refine ST.lift (fun _ _ k => T_lconst (v := 0) d_Mo_reduce_169 (by decide) k) ?_
                    refine ST.lift (fun _ _ k => T_lstore (L' := [(6, .long 0), (5, .int z42), (4, .int z43), (2, .long z29), (1, .int (nI b7)), (0, .ref 373)]) d_Mo_reduce_170 (by decide) rfl k) ?_
                    refine ST.lift (fun _ _ k => T_iconst (v := nI 0) d_Mo_reduce_172 (by decide) k) ?_
                    refine ST.lift (fun _ _ k => T_istore (L' := [(8, .int (nI 0)), (6, .long 0), (5, .int z42), (4, .int z43), (2, .long z29), (1, .int (nI b7)), (0, .ref 373)]) d_Mo_reduce_173 (by decide) rfl k) ?_
                    have lp55 : ∀ (n53 k51 : Nat) (z52 : Int64), 17 - k51 = n53 → 0 ≤ k51 ∧ k51 ≤ 0 + 17 → ST G mi_Mo_reduce 175 [(8, .int (nI k51)), (6, .long z52), (5, .int z42), (4, .int z43), (2, .long z29), (1, .int (nI b7)), (0, .ref 373)] [] v 0 0 Q := by
                      intro n53
                      induction n53 using Nat.strongRecOn with
                      | _ n53 ih54 =>
                        intro k51 z52 h56 h57
                        refine ST.lift (fun _ _ k => T_iload d_Mo_reduce_175 rfl k) ?_
                        refine ST.lift (fun _ _ k => T_bipush (v := nI 17) d_Mo_reduce_177 (by decide) k) ?_
                        have J240_69 : ST G mi_Mo_reduce 240 [(8, .int (nI k51)), (6, .long z52), (5, .int z42), (4, .int z43), (2, .long z29), (1, .int (nI b7)), (0, .ref 373)] [] v 0 0 Q := by
                          refine S_iincD (a := b7) (L' := [(1, .int (nI b7 - 1)), (8, .int (nI k51)), (6, .long z52), (5, .int z42), (4, .int z43), (2, .long z29), (0, .ref 373)]) d_Mo_reduce_240 (by decide) rfl rfl ?_
                          refine ST.lift (fun _ _ k => T_goto (tgt := 25) d_Mo_reduce_243 rfl k) ?_
                          refine S_pick [0, 6] rfl ?_
                          exact ih3 b7 (by omega) b7  rfl (by omega)
                        refine S_icmp_geN d_Mo_reduce_179 rfl (by omega) (by omega) (fun c58 => ?_) (fun c58 => ?_)
                        · exact J240_69 
                        · refine ST.lift (fun _ _ k => T_iload d_Mo_reduce_182 rfl k) ?_
                          refine S_if_ne d_Mo_reduce_184 rfl (fun c70 => ?_) (fun c70 => ?_)
                          · exact J240_69 
                          · refine ST.lift (fun _ _ k => T_aload_n (v := .ref 373) d_Mo_reduce_187 rfl (Or.inr ⟨_, rfl⟩) k) ?_
                            refine S_getfield d_Mo_reduce_188 fg_Mo_245 (w373 _) rfl ?_
                            refine ST.lift (fun _ _ k => T_iload d_Mo_reduce_191 rfl k) ?_
                            refine S_laload d_Mo_reduce_193 a397 (vp_in_nI (by omega) (by omega)) (fun z71 => ?_)
                            refine ST.lift (fun _ _ k => T_aload_n (v := .ref 373) d_Mo_reduce_194 rfl (Or.inr ⟨_, rfl⟩) k) ?_
                            refine S_getfield d_Mo_reduce_195 fg_Mo_224 (w373 _) rfl ?_
                            refine ST.lift (fun _ _ k => T_iload d_Mo_reduce_198 rfl k) ?_
                            refine S_laload d_Mo_reduce_200 a396 (vp_in_nI (by omega) (by omega)) (fun z72 => ?_)
                            refine ST.lift (fun _ _ k => T_lsub d_Mo_reduce_201 k) (S_anyl fun z73 => ?_)
                            refine ST.lift (fun _ _ k => T_lload d_Mo_reduce_202 rfl k) ?_
                            refine ST.lift (fun _ _ k => T_lsub d_Mo_reduce_204 k) (S_anyl fun z74 => ?_)
                            refine ST.lift (fun _ _ k => T_lstore (L' := [(9, .long z74), (8, .int (nI k51)), (6, .long z52), (5, .int z42), (4, .int z43), (2, .long z29), (1, .int (nI b7)), (0, .ref 373)]) d_Mo_reduce_205 (by decide) rfl k) ?_
                            refine ST.lift (fun _ _ k => T_aload_n (v := .ref 373) d_Mo_reduce_207 rfl (Or.inr ⟨_, rfl⟩) k) ?_
                            refine S_getfield d_Mo_reduce_208 fg_Mo_245 (w373 _) rfl ?_
                            refine ST.lift (fun _ _ k => T_iload d_Mo_reduce_211 rfl k) ?_
                            refine ST.lift (fun _ _ k => T_lload d_Mo_reduce_213 rfl k) ?_
                            refine ST.lift (fun _ _ k => T_ldc2 d_Mo_reduce_215 kJ_Mo_29 k) ?_
                            refine ST.lift (fun _ _ k => T_land d_Mo_reduce_218 k) (S_anyl fun z75 => ?_)
                            refine S_lastore d_Mo_reduce_219 (by decide) a397 (vp_in_nI (by omega) (by omega)) ?_
                            refine ST.lift (fun _ _ k => T_lload d_Mo_reduce_220 rfl k) ?_
                            refine ST.lift (fun _ _ k => T_lconst (v := 0) d_Mo_reduce_222 (by decide) k) ?_
                            refine ST.lift (fun _ _ k => T_lcmp d_Mo_reduce_223 k) (S_anyi fun z76 => ?_)
                            have J232_79 : ∀ (z78 : Int64), ST G mi_Mo_reduce 232 [(9, .long z74), (8, .int (nI k51)), (6, .long z52), (5, .int z42), (4, .int z43), (2, .long z29), (1, .int (nI b7)), (0, .ref 373)] [.long z78] v 0 0 Q := by
                              intro z78
                              refine ST.lift (fun _ _ k => T_lstore (L' := [(6, .long z78), (9, .long z74), (8, .int (nI k51)), (5, .int z42), (4, .int z43), (2, .long z29), (1, .int (nI b7)), (0, .ref 373)]) d_Mo_reduce_232 (by decide) rfl k) ?_
                              refine S_iincN (a := k51) (b := 1) (L' := [(8, .int (nI (k51 + 1))), (6, .long z78), (9, .long z74), (5, .int z42), (4, .int z43), (2, .long z29), (1, .int (nI b7)), (0, .ref 373)]) d_Mo_reduce_234 (by decide) rfl rfl rfl ?_
                              refine ST.lift (fun _ _ k => T_goto (tgt := 175) d_Mo_reduce_237 rfl k) ?_
                              refine S_pick [0, 1, 3, 4, 5, 6, 7] rfl ?_
                              exact ih54 (17 - (k51 + 1)) (by omega) (k51 + 1) z78 rfl (by omega)
                            refine S_if_ge d_Mo_reduce_224 rfl (fun c77 => ?_) (fun c77 => ?_)
                            · refine ST.lift (fun _ _ k => T_lconst (v := 0) d_Mo_reduce_231 (by decide) k) ?_
                              exact J232_79 0
                            · refine ST.lift (fun _ _ k => T_lconst (v := 1) d_Mo_reduce_227 (by decide) k) ?_
                              refine ST.lift (fun _ _ k => T_goto (tgt := 232) d_Mo_reduce_228 rfl k) ?_
                              exact J232_79 1
                    exact lp55 _ 0 0 rfl (by omega)
                  · subst h50
                    refine S_loc (L' := [(6, .int (nI b49)), (5, .int z42), (4, .int z43), (2, .long z29), (1, .int (nI b7)), (0, .ref 373)]) (by rw [nI_pred]) ?_
                    refine ST.lift (fun _ _ k => T_iload d_Mo_reduce_109 rfl k) ?_
                    refine S_if_ne d_Mo_reduce_111 rfl (fun c80 => ?_) (fun c80 => ?_)
                    · refine ST.lift (fun _ _ k => T_lconst (v := 0) d_Mo_reduce_169 (by decide) k) ?_
                      refine ST.lift (fun _ _ k => T_lstore (L' := [(6, .long 0), (5, .int z42), (4, .int z43), (2, .long z29), (1, .int (nI b7)), (0, .ref 373)]) d_Mo_reduce_170 (by decide) rfl k) ?_
                      refine ST.lift (fun _ _ k => T_iconst (v := nI 0) d_Mo_reduce_172 (by decide) k) ?_
                      refine ST.lift (fun _ _ k => T_istore (L' := [(8, .int (nI 0)), (6, .long 0), (5, .int z42), (4, .int z43), (2, .long z29), (1, .int (nI b7)), (0, .ref 373)]) d_Mo_reduce_173 (by decide) rfl k) ?_
                      have lp104 : ∀ (n102 k100 : Nat) (z101 : Int64), 17 - k100 = n102 → 0 ≤ k100 ∧ k100 ≤ 0 + 17 → ST G mi_Mo_reduce 175 [(8, .int (nI k100)), (6, .long z101), (5, .int z42), (4, .int z43), (2, .long z29), (1, .int (nI b7)), (0, .ref 373)] [] v 0 0 Q := by
                        intro n102
                        induction n102 using Nat.strongRecOn with
                        | _ n102 ih103 =>
                          intro k100 z101 h105 h106
                          refine ST.lift (fun _ _ k => T_iload d_Mo_reduce_175 rfl k) ?_
                          refine ST.lift (fun _ _ k => T_bipush (v := nI 17) d_Mo_reduce_177 (by decide) k) ?_
                          have J240_118 : ST G mi_Mo_reduce 240 [(8, .int (nI k100)), (6, .long z101), (5, .int z42), (4, .int z43), (2, .long z29), (1, .int (nI b7)), (0, .ref 373)] [] v 0 0 Q := by
                            refine S_iincD (a := b7) (L' := [(1, .int (nI b7 - 1)), (8, .int (nI k100)), (6, .long z101), (5, .int z42), (4, .int z43), (2, .long z29), (0, .ref 373)]) d_Mo_reduce_240 (by decide) rfl rfl ?_
                            refine ST.lift (fun _ _ k => T_goto (tgt := 25) d_Mo_reduce_243 rfl k) ?_
                            refine S_pick [0, 6] rfl ?_
                            exact ih3 b7 (by omega) b7  rfl (by omega)
                          refine S_icmp_geN d_Mo_reduce_179 rfl (by omega) (by omega) (fun c107 => ?_) (fun c107 => ?_)
                          · exact J240_118 
                          · refine ST.lift (fun _ _ k => T_iload d_Mo_reduce_182 rfl k) ?_
                            refine S_if_ne d_Mo_reduce_184 rfl (fun c119 => ?_) (fun c119 => ?_)
                            · exact J240_118 
                            · refine ST.lift (fun _ _ k => T_aload_n (v := .ref 373) d_Mo_reduce_187 rfl (Or.inr ⟨_, rfl⟩) k) ?_
                              refine S_getfield d_Mo_reduce_188 fg_Mo_245 (w373 _) rfl ?_
                              refine ST.lift (fun _ _ k => T_iload d_Mo_reduce_191 rfl k) ?_
                              refine S_laload d_Mo_reduce_193 a397 (vp_in_nI (by omega) (by omega)) (fun z120 => ?_)
                              refine ST.lift (fun _ _ k => T_aload_n (v := .ref 373) d_Mo_reduce_194 rfl (Or.inr ⟨_, rfl⟩) k) ?_
                              refine S_getfield d_Mo_reduce_195 fg_Mo_224 (w373 _) rfl ?_
                              refine ST.lift (fun _ _ k => T_iload d_Mo_reduce_198 rfl k) ?_
                              refine S_laload d_Mo_reduce_200 a396 (vp_in_nI (by omega) (by omega)) (fun z121 => ?_)
                              refine ST.lift (fun _ _ k => T_lsub d_Mo_reduce_201 k) (S_anyl fun z122 => ?_)
                              refine ST.lift (fun _ _ k => T_lload d_Mo_reduce_202 rfl k) ?_
                              refine ST.lift (fun _ _ k => T_lsub d_Mo_reduce_204 k) (S_anyl fun z123 => ?_)
                              refine ST.lift (fun _ _ k => T_lstore (L' := [(9, .long z123), (8, .int (nI k100)), (6, .long z101), (5, .int z42), (4, .int z43), (2, .long z29), (1, .int (nI b7)), (0, .ref 373)]) d_Mo_reduce_205 (by decide) rfl k) ?_
                              refine ST.lift (fun _ _ k => T_aload_n (v := .ref 373) d_Mo_reduce_207 rfl (Or.inr ⟨_, rfl⟩) k) ?_
                              refine S_getfield d_Mo_reduce_208 fg_Mo_245 (w373 _) rfl ?_
                              refine ST.lift (fun _ _ k => T_iload d_Mo_reduce_211 rfl k) ?_
                              refine ST.lift (fun _ _ k => T_lload d_Mo_reduce_213 rfl k) ?_
                              refine ST.lift (fun _ _ k => T_ldc2 d_Mo_reduce_215 kJ_Mo_29 k) ?_
                              refine ST.lift (fun _ _ k => T_land d_Mo_reduce_218 k) (S_anyl fun z124 => ?_)
                              refine S_lastore d_Mo_reduce_219 (by decide) a397 (vp_in_nI (by omega) (by omega)) ?_
                              refine ST.lift (fun _ _ k => T_lload d_Mo_reduce_220 rfl k) ?_
                              refine ST.lift (fun _ _ k => T_lconst (v := 0) d_Mo_reduce_222 (by decide) k) ?_
                              refine ST.lift (fun _ _ k => T_lcmp d_Mo_reduce_223 k) (S_anyi fun z125 => ?_)
                              have J232_128 : ∀ (z127 : Int64), ST G mi_Mo_reduce 232 [(9, .long z123), (8, .int (nI k100)), (6, .long z101), (5, .int z42), (4, .int z43), (2, .long z29), (1, .int (nI b7)), (0, .ref 373)] [.long z127] v 0 0 Q := by
                                intro z127
                                refine ST.lift (fun _ _ k => T_lstore (L' := [(6, .long z127), (9, .long z123), (8, .int (nI k100)), (5, .int z42), (4, .int z43), (2, .long z29), (1, .int (nI b7)), (0, .ref 373)]) d_Mo_reduce_232 (by decide) rfl k) ?_
                                refine S_iincN (a := k100) (b := 1) (L' := [(8, .int (nI (k100 + 1))), (6, .long z127), (9, .long z123), (5, .int z42), (4, .int z43), (2, .long z29), (1, .int (nI b7)), (0, .ref 373)]) d_Mo_reduce_234 (by decide) rfl rfl rfl ?_
                                refine ST.lift (fun _ _ k => T_goto (tgt := 175) d_Mo_reduce_237 rfl k) ?_
                                refine S_pick [0, 1, 3, 4, 5, 6, 7] rfl ?_
                                exact ih103 (17 - (k100 + 1)) (by omega) (k100 + 1) z127 rfl (by omega)
                              refine S_if_ge d_Mo_reduce_224 rfl (fun c126 => ?_) (fun c126 => ?_)
                              · refine ST.lift (fun _ _ k => T_lconst (v := 0) d_Mo_reduce_231 (by decide) k) ?_
                                exact J232_128 0
                              · refine ST.lift (fun _ _ k => T_lconst (v := 1) d_Mo_reduce_227 (by decide) k) ?_
                                refine ST.lift (fun _ _ k => T_goto (tgt := 232) d_Mo_reduce_228 rfl k) ?_
                                exact J232_128 1
                      exact lp104 _ 0 0 rfl (by omega)
                    · refine ST.lift (fun _ _ k => T_aload_n (v := .ref 373) d_Mo_reduce_114 rfl (Or.inr ⟨_, rfl⟩) k) ?_
                      refine S_getfield d_Mo_reduce_115 fg_Mo_245 (w373 _) rfl ?_
                      refine ST.lift (fun _ _ k => T_iload d_Mo_reduce_118 rfl k) ?_
                      refine S_laload d_Mo_reduce_120 a397 (vp_in_nI (by omega) (by omega)) (fun z129 => ?_)
                      refine ST.lift (fun _ _ k => T_aload_n (v := .ref 373) d_Mo_reduce_121 rfl (Or.inr ⟨_, rfl⟩) k) ?_
                      refine S_getfield d_Mo_reduce_122 fg_Mo_224 (w373 _) rfl ?_
                      refine ST.lift (fun _ _ k => T_iload d_Mo_reduce_125 rfl k) ?_
                      refine S_laload d_Mo_reduce_127 a396 (vp_in_nI (by omega) (by omega)) (fun z130 => ?_)
                      refine ST.lift (fun _ _ k => T_lcmp d_Mo_reduce_128 k) (S_anyi fun z131 => ?_)
                      have J163_141 : ∀ (z139 : Int32) (z140 : Int32), ST G mi_Mo_reduce 163 [(4, .int z139), (5, .int z140), (6, .int (nI b49)), (2, .long z29), (1, .int (nI b7)), (0, .ref 373)] [] v 0 0 Q := by
                        intro z139 z140
                        refine S_iincD (a := b49) (L' := [(6, .int (nI b49 - 1)), (4, .int z139), (5, .int z140), (2, .long z29), (1, .int (nI b7)), (0, .ref 373)]) d_Mo_reduce_163 (by decide) rfl rfl ?_
                        refine ST.lift (fun _ _ k => T_goto (tgt := 104) d_Mo_reduce_166 rfl k) ?_
                        refine S_pick [0, 2, 1, 3, 4, 5] rfl ?_
                        exact ih45 b49 (by omega) b49 z140 z139 rfl (by omega)
                      refine S_if_ne d_Mo_reduce_129 rfl (fun c132 => ?_) (fun c132 => ?_)
                      · refine ST.lift (fun _ _ k => T_iconst (v := nI 1) d_Mo_reduce_135 (by decide) k) ?_
                        refine ST.lift (fun _ _ k => T_istore (L' := [(5, .int (nI 1)), (6, .int (nI b49)), (4, .int z43), (2, .long z29), (1, .int (nI b7)), (0, .ref 373)]) d_Mo_reduce_136 (by decide) rfl k) ?_
                        refine ST.lift (fun _ _ k => T_aload_n (v := .ref 373) d_Mo_reduce_138 rfl (Or.inr ⟨_, rfl⟩) k) ?_
                        refine S_getfield d_Mo_reduce_139 fg_Mo_245 (w373 _) rfl ?_
                        refine ST.lift (fun _ _ k => T_iload d_Mo_reduce_142 rfl k) ?_
                        refine S_laload d_Mo_reduce_144 a397 (vp_in_nI (by omega) (by omega)) (fun z142 => ?_)
                        refine ST.lift (fun _ _ k => T_aload_n (v := .ref 373) d_Mo_reduce_145 rfl (Or.inr ⟨_, rfl⟩) k) ?_
                        refine S_getfield d_Mo_reduce_146 fg_Mo_224 (w373 _) rfl ?_
                        refine ST.lift (fun _ _ k => T_iload d_Mo_reduce_149 rfl k) ?_
                        refine S_laload d_Mo_reduce_151 a396 (vp_in_nI (by omega) (by omega)) (fun z143 => ?_)
                        refine ST.lift (fun _ _ k => T_lcmp d_Mo_reduce_152 k) (S_anyi fun z144 => ?_)
                        have J161_147 : ∀ (z146 : Nat) (hz146 : z146 ≤ 1), ST G mi_Mo_reduce 161 [(5, .int (nI 1)), (6, .int (nI b49)), (4, .int z43), (2, .long z29), (1, .int (nI b7)), (0, .ref 373)] [.int (nI z146)] v 0 0 Q := by
                          intro z146 hz146
                          refine ST.lift (fun _ _ k => T_istore (L' := [(4, .int (nI z146)), (5, .int (nI 1)), (6, .int (nI b49)), (2, .long z29), (1, .int (nI b7)), (0, .ref 373)]) d_Mo_reduce_161 (by decide) rfl k) ?_
                          exact J163_141 (nI z146) (nI 1)
                        refine S_if_ge d_Mo_reduce_153 rfl (fun c145 => ?_) (fun c145 => ?_)
                        · refine ST.lift (fun _ _ k => T_iconst (v := nI 0) d_Mo_reduce_160 (by decide) k) ?_
                          exact J161_147 0 (by omega)
                        · refine ST.lift (fun _ _ k => T_iconst (v := nI 1) d_Mo_reduce_156 (by decide) k) ?_
                          refine ST.lift (fun _ _ k => T_goto (tgt := 161) d_Mo_reduce_157 rfl k) ?_
                          exact J161_147 1 (by omega)
                      · refine ST.lift (fun _ _ k => T_goto (tgt := 163) d_Mo_reduce_132 rfl k) ?_
                        refine S_pick [2, 1, 0, 3, 4, 5] rfl ?_
                        exact J163_141 z43 z42
              have e_lp46 : nI 16 = nI (16 + 1) - 1 := (nI_pred _).symm
              refine S_loc (L' := [(6, .int (nI (16 + 1) - 1)), (5, .int (nI 0)), (4, .int (nI 0)), (2, .long z29), (1, .int (nI b7)), (0, .ref 373)]) (by rw [← e_lp46]) ?_
              exact lp46 _ (16 + 1) (nI 0) (nI 0) rfl (by omega)
            · refine ST.lift (fun _ _ k => T_aload_n (v := .ref 373) d_Mo_reduce_56 rfl (Or.inr ⟨_, rfl⟩) k) ?_
              refine S_getfield d_Mo_reduce_57 fg_Mo_245 (w373 _) rfl ?_
              refine ST.lift (fun _ _ k => T_iload d_Mo_reduce_60 rfl k) ?_
              refine S_laload d_Mo_reduce_62 a397 (vp_in_nI (by omega) (by omega)) (fun z148 => ?_)
              refine ST.lift (fun _ _ k => T_iconst (v := nI 1) d_Mo_reduce_63 (by decide) k) ?_
              refine ST.lift (fun _ _ k => T_lshl d_Mo_reduce_64 k) (S_anyl fun z149 => ?_)
              refine ST.lift (fun _ _ k => T_lload_n d_Mo_reduce_65 rfl k) ?_
              refine ST.lift (fun _ _ k => T_lor d_Mo_reduce_66 k) (S_anyl fun z150 => ?_)
              refine ST.lift (fun _ _ k => T_lstore (L' := [(5, .long z150), (4, .int (nI k28)), (2, .long z29), (1, .int (nI b7)), (0, .ref 373)]) d_Mo_reduce_67 (by decide) rfl k) ?_
              refine ST.lift (fun _ _ k => T_aload_n (v := .ref 373) d_Mo_reduce_69 rfl (Or.inr ⟨_, rfl⟩) k) ?_
              refine S_getfield d_Mo_reduce_70 fg_Mo_245 (w373 _) rfl ?_
              refine ST.lift (fun _ _ k => T_iload d_Mo_reduce_73 rfl k) ?_
              refine ST.lift (fun _ _ k => T_lload d_Mo_reduce_75 rfl k) ?_
              refine ST.lift (fun _ _ k => T_ldc2 d_Mo_reduce_77 kJ_Mo_29 k) ?_
              refine ST.lift (fun _ _ k => T_land d_Mo_reduce_80 k) (S_anyl fun z151 => ?_)
              refine S_lastore d_Mo_reduce_81 (by decide) a397 (vp_in_nI (by omega) (by omega)) ?_
              refine ST.lift (fun _ _ k => T_lload d_Mo_reduce_82 rfl k) ?_
              refine ST.lift (fun _ _ k => T_bipush (v := nI 16) d_Mo_reduce_84 (by decide) k) ?_
              refine ST.lift (fun _ _ k => T_lshr d_Mo_reduce_86 k) (S_anyl fun z152 => ?_)
              refine ST.lift (fun _ _ k => T_lstore_n (L' := [(2, .long z152), (5, .long z150), (4, .int (nI k28)), (1, .int (nI b7)), (0, .ref 373)]) d_Mo_reduce_87 (by decide) rfl k) ?_
              refine S_iincN (a := k28) (b := 1) (L' := [(4, .int (nI (k28 + 1))), (2, .long z152), (5, .long z150), (1, .int (nI b7)), (0, .ref 373)]) d_Mo_reduce_88 (by decide) rfl rfl rfl ?_
              refine ST.lift (fun _ _ k => T_goto (tgt := 49) d_Mo_reduce_91 rfl k) ?_
              refine S_pick [0, 1, 3, 4] rfl ?_
              exact ih31 (17 - (k28 + 1)) (by omega) (k28 + 1) z152 rfl (by omega)
        exact lp32 _ 0 z27 rfl (by omega)
  have e_lp4 : nI 511 = nI (511 + 1) - 1 := (nI_pred _).symm
  refine S_loc (L' := [(1, .int (nI (511 + 1) - 1)), (0, .ref 373)]) (by rw [← e_lp4]) ?_
  exact lp4 _ (511 + 1)  rfl (by omega)
set_option maxRecDepth 100000 in
set_option maxHeartbeats 4000000 in
theorem c_Mo_scalarOf (G : GX) (v : Nat → Int32) (src m : Nat) (w_src : K0 ≤ src) (a_src : aI src m) (l_src : m ≤ 4000) (pos : Nat) (b_pos : pos ≤ 4000) (n : Nat) (b_n : n ≤ 64 ∧ pos + n ≤ m) : CS G mi_Mo_scalarOf [.ref 373, .ref src, .int (nI pos), .int (nI n)] v (fun r v' => r = none ∧ v' = v) := by
  refine CS.of (by decide) (Nat.le_of_ble_eq_true rfl) ?_
  generalize hQe : (fun (r : Option Value) (v' : Nat → Int32) => r = none ∧ v' = v) = Q
  have hQ : Q none v := by rw [← hQe]; exact ⟨rfl, rfl⟩
  clear hQe
  show ST G mi_Mo_scalarOf 0 [(0, .ref 373), (1, .ref src), (2, .int (nI pos)), (3, .int (nI n))] [] v 0 0 Q
  refine ST.lift (fun _ _ k => T_iconst (v := nI 0) d_Mo_scalarOf_0 (by decide) k) ?_
  refine ST.lift (fun _ _ k => T_istore (L' := [(4, .int (nI 0)), (0, .ref 373), (1, .ref src), (2, .int (nI pos)), (3, .int (nI n))]) d_Mo_scalarOf_1 (by decide) rfl k) ?_
  have lp4 : ∀ (n2 k1 : Nat), 32 - k1 = n2 → 0 ≤ k1 ∧ k1 ≤ 0 + 32 → ST G mi_Mo_scalarOf 3 [(4, .int (nI k1)), (0, .ref 373), (1, .ref src), (2, .int (nI pos)), (3, .int (nI n))] [] v 0 0 Q := by
    intro n2
    induction n2 using Nat.strongRecOn with
    | _ n2 ih3 =>
      intro k1 h5 h6
      refine ST.lift (fun _ _ k => T_iload d_Mo_scalarOf_3 rfl k) ?_
      refine ST.lift (fun _ _ k => T_bipush (v := nI 32) d_Mo_scalarOf_5 (by decide) k) ?_
      refine S_icmp_geN d_Mo_scalarOf_7 rfl (by omega) (by omega) (fun c7 => ?_) (fun c7 => ?_)
      · refine ST.lift (fun _ _ k => T_iconst (v := nI 0) d_Mo_scalarOf_24 (by decide) k) ?_
        refine ST.lift (fun _ _ k => T_istore (L' := [(4, .int (nI 0)), (0, .ref 373), (1, .ref src), (2, .int (nI pos)), (3, .int (nI n))]) d_Mo_scalarOf_25 (by decide) rfl k) ?_
        have lp11 : ∀ (n9 k8 : Nat), n - k8 = n9 → 0 ≤ k8 ∧ k8 ≤ 0 + n → ST G mi_Mo_scalarOf 27 [(4, .int (nI k8)), (0, .ref 373), (1, .ref src), (2, .int (nI pos)), (3, .int (nI n))] [] v 0 0 Q := by
          intro n9
          induction n9 using Nat.strongRecOn with
          | _ n9 ih10 =>
            intro k8 h12 h13
            refine ST.lift (fun _ _ k => T_iload d_Mo_scalarOf_27 rfl k) ?_
            refine ST.lift (fun _ _ k => T_iload_n d_Mo_scalarOf_29 rfl k) ?_
            refine S_icmp_geN d_Mo_scalarOf_30 rfl (by omega) (by omega) (fun c14 => ?_) (fun c14 => ?_)
            · refine ST.lift (fun _ _ k => T_aload_n (v := .ref 373) d_Mo_scalarOf_66 rfl (Or.inr ⟨_, rfl⟩) k) ?_
              refine S_virtual (as := []) (rest := []) (b := 373) d_Mo_scalarOf_67 rfl (jw_Mo_reduce.jo (by decide)) lm_Mo_251 ji_Mo_reduce js_Mo_reduce (w373 _) rfl rfl rfl (Nat.le_of_ble_eq_true rfl) (by decide) (by decide) (c_Mo_reduce G v) (fun r v' hq => ?_)
              rw [hq.1, hq.2]
              clear hq r v'
              show ST G mi_Mo_scalarOf 70 [(4, .int (nI k8)), (0, .ref 373), (1, .ref src), (2, .int (nI pos)), (3, .int (nI n))] [] v 0 0 _
              exact S_vret d_Mo_scalarOf_70 rfl (by decide) (by decide) hQ
            · refine ST.lift (fun _ _ k => T_aload_n (v := .ref 373) d_Mo_scalarOf_33 rfl (Or.inr ⟨_, rfl⟩) k) ?_
              refine S_getfield d_Mo_scalarOf_34 fg_Mo_248 (w373 _) rfl ?_
              refine ST.lift (fun _ _ k => T_iload d_Mo_scalarOf_37 rfl k) ?_
              refine ST.lift (fun _ _ k => T_iconst (v := nI 2) d_Mo_scalarOf_39 (by decide) k) ?_
              refine S_idivN d_Mo_scalarOf_40 (by omega) (by omega) (by omega) ?_
              refine ST.lift (fun _ _ k => T_dup2 d_Mo_scalarOf_41 rfl rfl k) ?_
              refine S_laload d_Mo_scalarOf_42 a398 (vp_in_nI (by omega) (by omega)) (fun z20 => ?_)
              refine ST.lift (fun _ _ k => T_aload_n (v := .ref src) d_Mo_scalarOf_43 rfl (Or.inr ⟨_, rfl⟩) k) ?_
              refine ST.lift (fun _ _ k => T_iload_n d_Mo_scalarOf_44 rfl k) ?_
              refine ST.lift (fun _ _ k => T_iload d_Mo_scalarOf_45 rfl k) ?_
              refine S_iaddN d_Mo_scalarOf_47 ?_
              refine S_iaload d_Mo_scalarOf_48 a_src (vp_in_nI (by omega) (by omega)) (fun z21 => ?_)
              refine ST.lift (fun _ _ k => T_i2l d_Mo_scalarOf_49 k) (S_anyl fun z22 => ?_)
              refine ST.lift (fun _ _ k => T_bipush (v := nI 8) d_Mo_scalarOf_50 (by decide) k) ?_
              refine ST.lift (fun _ _ k => T_iload d_Mo_scalarOf_52 rfl k) ?_
              refine ST.lift (fun _ _ k => T_iconst (v := nI 2) d_Mo_scalarOf_54 (by decide) k) ?_
              refine S_iremN d_Mo_scalarOf_55 (by omega) (by omega) (by omega) ?_
              refine S_imulN d_Mo_scalarOf_56 ?_
              refine ST.lift (fun _ _ k => T_lshl d_Mo_scalarOf_57 k) (S_anyl fun z23 => ?_)
              refine ST.lift (fun _ _ k => T_ladd d_Mo_scalarOf_58 k) (S_anyl fun z24 => ?_)
              refine S_lastore d_Mo_scalarOf_59 (by decide) a398 (vp_in_nI (by omega) (by omega)) ?_
              refine S_iincN (a := k8) (b := 1) (L' := [(4, .int (nI (k8 + 1))), (0, .ref 373), (1, .ref src), (2, .int (nI pos)), (3, .int (nI n))]) d_Mo_scalarOf_60 (by decide) rfl rfl rfl ?_
              refine ST.lift (fun _ _ k => T_goto (tgt := 27) d_Mo_scalarOf_63 rfl k) ?_
              exact ih10 (n - (k8 + 1)) (by omega) (k8 + 1)  rfl (by omega)
        exact lp11 _ 0  rfl (by omega)
      · refine ST.lift (fun _ _ k => T_aload_n (v := .ref 373) d_Mo_scalarOf_10 rfl (Or.inr ⟨_, rfl⟩) k) ?_
        refine S_getfield d_Mo_scalarOf_11 fg_Mo_248 (w373 _) rfl ?_
        refine ST.lift (fun _ _ k => T_iload d_Mo_scalarOf_14 rfl k) ?_
        refine ST.lift (fun _ _ k => T_lconst (v := 0) d_Mo_scalarOf_16 (by decide) k) ?_
        refine S_lastore d_Mo_scalarOf_17 (by decide) a398 (vp_in_nI (by omega) (by omega)) ?_
        refine S_iincN (a := k1) (b := 1) (L' := [(4, .int (nI (k1 + 1))), (0, .ref 373), (1, .ref src), (2, .int (nI pos)), (3, .int (nI n))]) d_Mo_scalarOf_18 (by decide) rfl rfl rfl ?_
        refine ST.lift (fun _ _ k => T_goto (tgt := 3) d_Mo_scalarOf_21 rfl k) ?_
        exact ih3 (32 - (k1 + 1)) (by omega) (k1 + 1)  rfl (by omega)
  exact lp4 _ 0  rfl (by omega)
set_option maxRecDepth 100000 in
set_option maxHeartbeats 4000000 in
theorem c_Mo_timesScalar (G : GX) (v : Nat → Int32) (by_ m : Nat) (w_by_ : K0 ≤ by_) (a_by_ : aL by_ m) (l_by_ : m ≤ 4000) (h16 : 16 ≤ m) : CS G mi_Mo_timesScalar [.ref 373, .ref by_] v (fun r v' => r = none ∧ v' = v) := by
  refine CS.of (by decide) (Nat.le_of_ble_eq_true rfl) ?_
  generalize hQe : (fun (r : Option Value) (v' : Nat → Int32) => r = none ∧ v' = v) = Q
  have hQ : Q none v := by rw [← hQe]; exact ⟨rfl, rfl⟩
  clear hQe
  show ST G mi_Mo_timesScalar 0 [(0, .ref 373), (1, .ref by_)] [] v 0 0 Q
  refine ST.lift (fun _ _ k => T_iconst (v := nI 0) d_Mo_timesScalar_0 (by decide) k) ?_
  refine ST.lift (fun _ _ k => T_istore_n (L' := [(2, .int (nI 0)), (0, .ref 373), (1, .ref by_)]) d_Mo_timesScalar_1 (by decide) rfl k) ?_
  have lp4 : ∀ (n2 k1 : Nat), 32 - k1 = n2 → 0 ≤ k1 ∧ k1 ≤ 0 + 32 → ST G mi_Mo_timesScalar 2 [(2, .int (nI k1)), (0, .ref 373), (1, .ref by_)] [] v 0 0 Q := by
    intro n2
    induction n2 using Nat.strongRecOn with
    | _ n2 ih3 =>
      intro k1 h5 h6
      refine ST.lift (fun _ _ k => T_iload_n d_Mo_timesScalar_2 rfl k) ?_
      refine ST.lift (fun _ _ k => T_bipush (v := nI 32) d_Mo_timesScalar_3 (by decide) k) ?_
      refine S_icmp_geN d_Mo_timesScalar_5 rfl (by omega) (by omega) (fun c7 => ?_) (fun c7 => ?_)
      · refine ST.lift (fun _ _ k => T_iconst (v := nI 0) d_Mo_timesScalar_21 (by decide) k) ?_
        refine ST.lift (fun _ _ k => T_istore_n (L' := [(2, .int (nI 0)), (0, .ref 373), (1, .ref by_)]) d_Mo_timesScalar_22 (by decide) rfl k) ?_
        have lp11 : ∀ (n9 k8 : Nat), 16 - k8 = n9 → 0 ≤ k8 ∧ k8 ≤ 0 + 16 → ST G mi_Mo_timesScalar 23 [(2, .int (nI k8)), (0, .ref 373), (1, .ref by_)] [] v 0 0 Q := by
          intro n9
          induction n9 using Nat.strongRecOn with
          | _ n9 ih10 =>
            intro k8 h12 h13
            refine ST.lift (fun _ _ k => T_iload_n d_Mo_timesScalar_23 rfl k) ?_
            refine ST.lift (fun _ _ k => T_bipush (v := nI 16) d_Mo_timesScalar_24 (by decide) k) ?_
            refine S_icmp_geN d_Mo_timesScalar_26 rfl (by omega) (by omega) (fun c14 => ?_) (fun c14 => ?_)
            · refine ST.lift (fun _ _ k => T_iconst (v := nI 0) d_Mo_timesScalar_70 (by decide) k) ?_
              refine ST.lift (fun _ _ k => T_istore_n (L' := [(2, .int (nI 0)), (0, .ref 373), (1, .ref by_)]) d_Mo_timesScalar_71 (by decide) rfl k) ?_
              have lp35 : ∀ (n33 k32 : Nat), 31 - k32 = n33 → 0 ≤ k32 ∧ k32 ≤ 0 + 31 → ST G mi_Mo_timesScalar 72 [(2, .int (nI k32)), (0, .ref 373), (1, .ref by_)] [] v 0 0 Q := by
                intro n33
                induction n33 using Nat.strongRecOn with
                | _ n33 ih34 =>
                  intro k32 h36 h37
                  refine ST.lift (fun _ _ k => T_iload_n d_Mo_timesScalar_72 rfl k) ?_
                  refine ST.lift (fun _ _ k => T_bipush (v := nI 31) d_Mo_timesScalar_73 (by decide) k) ?_
                  refine S_icmp_geN d_Mo_timesScalar_75 rfl (by omega) (by omega) (fun c38 => ?_) (fun c38 => ?_)
                  · refine ST.lift (fun _ _ k => T_aload_n (v := .ref 373) d_Mo_timesScalar_116 rfl (Or.inr ⟨_, rfl⟩) k) ?_
                    refine S_virtual (as := []) (rest := []) (b := 373) d_Mo_timesScalar_117 rfl (jw_Mo_reduce.jo (by decide)) lm_Mo_251 ji_Mo_reduce js_Mo_reduce (w373 _) rfl rfl rfl (Nat.le_of_ble_eq_true rfl) (by decide) (by decide) (c_Mo_reduce G v) (fun r v' hq => ?_)
                    rw [hq.1, hq.2]
                    clear hq r v'
                    show ST G mi_Mo_timesScalar 120 [(2, .int (nI k32)), (0, .ref 373), (1, .ref by_)] [] v 0 0 _
                    exact S_vret d_Mo_timesScalar_120 rfl (by decide) (by decide) hQ
                  · refine ST.lift (fun _ _ k => T_aload_n (v := .ref 373) d_Mo_timesScalar_78 rfl (Or.inr ⟨_, rfl⟩) k) ?_
                    refine S_getfield d_Mo_timesScalar_79 fg_Mo_248 (w373 _) rfl ?_
                    refine ST.lift (fun _ _ k => T_iload_n d_Mo_timesScalar_82 rfl k) ?_
                    refine ST.lift (fun _ _ k => T_iconst (v := nI 1) d_Mo_timesScalar_83 (by decide) k) ?_
                    refine S_iaddN d_Mo_timesScalar_84 ?_
                    refine ST.lift (fun _ _ k => T_dup2 d_Mo_timesScalar_85 rfl rfl k) ?_
                    refine S_laload d_Mo_timesScalar_86 a398 (vp_in_nI (by omega) (by omega)) (fun z45 => ?_)
                    refine ST.lift (fun _ _ k => T_aload_n (v := .ref 373) d_Mo_timesScalar_87 rfl (Or.inr ⟨_, rfl⟩) k) ?_
                    refine S_getfield d_Mo_timesScalar_88 fg_Mo_248 (w373 _) rfl ?_
                    refine ST.lift (fun _ _ k => T_iload_n d_Mo_timesScalar_91 rfl k) ?_
                    refine S_laload d_Mo_timesScalar_92 a398 (vp_in_nI (by omega) (by omega)) (fun z46 => ?_)
                    refine ST.lift (fun _ _ k => T_bipush (v := nI 16) d_Mo_timesScalar_93 (by decide) k) ?_
                    refine ST.lift (fun _ _ k => T_lshr d_Mo_timesScalar_95 k) (S_anyl fun z47 => ?_)
                    refine ST.lift (fun _ _ k => T_ladd d_Mo_timesScalar_96 k) (S_anyl fun z48 => ?_)
                    refine S_lastore d_Mo_timesScalar_97 (by decide) a398 (vp_in_nI (by omega) (by omega)) ?_
                    refine ST.lift (fun _ _ k => T_aload_n (v := .ref 373) d_Mo_timesScalar_98 rfl (Or.inr ⟨_, rfl⟩) k) ?_
                    refine S_getfield d_Mo_timesScalar_99 fg_Mo_248 (w373 _) rfl ?_
                    refine ST.lift (fun _ _ k => T_iload_n d_Mo_timesScalar_102 rfl k) ?_
                    refine ST.lift (fun _ _ k => T_dup2 d_Mo_timesScalar_103 rfl rfl k) ?_
                    refine S_laload d_Mo_timesScalar_104 a398 (vp_in_nI (by omega) (by omega)) (fun z49 => ?_)
                    refine ST.lift (fun _ _ k => T_ldc2 d_Mo_timesScalar_105 kJ_Mo_29 k) ?_
                    refine ST.lift (fun _ _ k => T_land d_Mo_timesScalar_108 k) (S_anyl fun z50 => ?_)
                    refine S_lastore d_Mo_timesScalar_109 (by decide) a398 (vp_in_nI (by omega) (by omega)) ?_
                    refine S_iincN (a := k32) (b := 1) (L' := [(2, .int (nI (k32 + 1))), (0, .ref 373), (1, .ref by_)]) d_Mo_timesScalar_110 (by decide) rfl rfl rfl ?_
                    refine ST.lift (fun _ _ k => T_goto (tgt := 72) d_Mo_timesScalar_113 rfl k) ?_
                    exact ih34 (31 - (k32 + 1)) (by omega) (k32 + 1)  rfl (by omega)
              exact lp35 _ 0  rfl (by omega)
            · refine ST.lift (fun _ _ k => T_iconst (v := nI 0) d_Mo_timesScalar_29 (by decide) k) ?_
              refine ST.lift (fun _ _ k => T_istore_n (L' := [(3, .int (nI 0)), (2, .int (nI k8)), (0, .ref 373), (1, .ref by_)]) d_Mo_timesScalar_30 (by decide) rfl k) ?_
              have lp54 : ∀ (n52 k51 : Nat), 16 - k51 = n52 → 0 ≤ k51 ∧ k51 ≤ 0 + 16 → ST G mi_Mo_timesScalar 31 [(3, .int (nI k51)), (2, .int (nI k8)), (0, .ref 373), (1, .ref by_)] [] v 0 0 Q := by
                intro n52
                induction n52 using Nat.strongRecOn with
                | _ n52 ih53 =>
                  intro k51 h55 h56
                  refine ST.lift (fun _ _ k => T_iload_n d_Mo_timesScalar_31 rfl k) ?_
                  refine ST.lift (fun _ _ k => T_bipush (v := nI 16) d_Mo_timesScalar_32 (by decide) k) ?_
                  refine S_icmp_geN d_Mo_timesScalar_34 rfl (by omega) (by omega) (fun c57 => ?_) (fun c57 => ?_)
                  · refine S_iincN (a := k8) (b := 1) (L' := [(2, .int (nI (k8 + 1))), (3, .int (nI k51)), (0, .ref 373), (1, .ref by_)]) d_Mo_timesScalar_64 (by decide) rfl rfl rfl ?_
                    refine ST.lift (fun _ _ k => T_goto (tgt := 23) d_Mo_timesScalar_67 rfl k) ?_
                    refine S_pick [0, 2, 3] rfl ?_
                    exact ih10 (16 - (k8 + 1)) (by omega) (k8 + 1)  rfl (by omega)
                  · refine ST.lift (fun _ _ k => T_aload_n (v := .ref 373) d_Mo_timesScalar_37 rfl (Or.inr ⟨_, rfl⟩) k) ?_
                    refine S_getfield d_Mo_timesScalar_38 fg_Mo_248 (w373 _) rfl ?_
                    refine ST.lift (fun _ _ k => T_iload_n d_Mo_timesScalar_41 rfl k) ?_
                    refine ST.lift (fun _ _ k => T_iload_n d_Mo_timesScalar_42 rfl k) ?_
                    refine S_iaddN d_Mo_timesScalar_43 ?_
                    refine ST.lift (fun _ _ k => T_dup2 d_Mo_timesScalar_44 rfl rfl k) ?_
                    refine S_laload d_Mo_timesScalar_45 a398 (vp_in_nI (by omega) (by omega)) (fun z63 => ?_)
                    refine ST.lift (fun _ _ k => T_aload_n (v := .ref 373) d_Mo_timesScalar_46 rfl (Or.inr ⟨_, rfl⟩) k) ?_
                    refine S_getfield d_Mo_timesScalar_47 fg_Mo_194 (w373 _) rfl ?_
                    refine ST.lift (fun _ _ k => T_iload_n d_Mo_timesScalar_50 rfl k) ?_
                    refine S_laload d_Mo_timesScalar_51 a395 (vp_in_nI (by omega) (by omega)) (fun z64 => ?_)
                    refine ST.lift (fun _ _ k => T_aload_n (v := .ref by_) d_Mo_timesScalar_52 rfl (Or.inr ⟨_, rfl⟩) k) ?_
                    refine ST.lift (fun _ _ k => T_iload_n d_Mo_timesScalar_53 rfl k) ?_
                    refine S_laload d_Mo_timesScalar_54 a_by_ (vp_in_nI (by omega) (by omega)) (fun z65 => ?_)
                    refine ST.lift (fun _ _ k => T_lmul d_Mo_timesScalar_55 k) (S_anyl fun z66 => ?_)
                    refine ST.lift (fun _ _ k => T_ladd d_Mo_timesScalar_56 k) (S_anyl fun z67 => ?_)
                    refine S_lastore d_Mo_timesScalar_57 (by decide) a398 (vp_in_nI (by omega) (by omega)) ?_
                    refine S_iincN (a := k51) (b := 1) (L' := [(3, .int (nI (k51 + 1))), (2, .int (nI k8)), (0, .ref 373), (1, .ref by_)]) d_Mo_timesScalar_58 (by decide) rfl rfl rfl ?_
                    refine ST.lift (fun _ _ k => T_goto (tgt := 31) d_Mo_timesScalar_61 rfl k) ?_
                    exact ih53 (16 - (k51 + 1)) (by omega) (k51 + 1)  rfl (by omega)
              exact lp54 _ 0  rfl (by omega)
        exact lp11 _ 0  rfl (by omega)
      · refine ST.lift (fun _ _ k => T_aload_n (v := .ref 373) d_Mo_timesScalar_8 rfl (Or.inr ⟨_, rfl⟩) k) ?_
        refine S_getfield d_Mo_timesScalar_9 fg_Mo_248 (w373 _) rfl ?_
        refine ST.lift (fun _ _ k => T_iload_n d_Mo_timesScalar_12 rfl k) ?_
        refine ST.lift (fun _ _ k => T_lconst (v := 0) d_Mo_timesScalar_13 (by decide) k) ?_
        refine S_lastore d_Mo_timesScalar_14 (by decide) a398 (vp_in_nI (by omega) (by omega)) ?_
        refine S_iincN (a := k1) (b := 1) (L' := [(2, .int (nI (k1 + 1))), (0, .ref 373), (1, .ref by_)]) d_Mo_timesScalar_15 (by decide) rfl rfl rfl ?_
        refine ST.lift (fun _ _ k => T_goto (tgt := 2) d_Mo_timesScalar_18 rfl k) ?_
        exact ih3 (32 - (k1 + 1)) (by omega) (k1 + 1)  rfl (by omega)
  exact lp4 _ 0  rfl (by omega)
set_option maxRecDepth 100000 in
set_option maxHeartbeats 4000000 in
theorem c_Mo_invertScalar (G : GX) (v : Nat → Int32) : CS G mi_Mo_invertScalar [.ref 373] v (fun r v' => r = none ∧ v' = v) := by
  refine CS.of (by decide) (Nat.le_of_ble_eq_true rfl) ?_
  generalize hQe : (fun (r : Option Value) (v' : Nat → Int32) => r = none ∧ v' = v) = Q
  have hQ : Q none v := by rw [← hQe]; exact ⟨rfl, rfl⟩
  clear hQe
  show ST G mi_Mo_invertScalar 0 [(0, .ref 373)] [] v 0 0 Q
  refine ST.lift (fun _ _ k => T_iconst (v := nI 0) d_Mo_invertScalar_0 (by decide) k) ?_
  refine ST.lift (fun _ _ k => T_istore_n (L' := [(1, .int (nI 0)), (0, .ref 373)]) d_Mo_invertScalar_1 (by decide) rfl k) ?_
  have lp4 : ∀ (n2 k1 : Nat), 16 - k1 = n2 → 0 ≤ k1 ∧ k1 ≤ 0 + 16 → ST G mi_Mo_invertScalar 2 [(1, .int (nI k1)), (0, .ref 373)] [] v 0 0 Q := by
    intro n2
    induction n2 using Nat.strongRecOn with
    | _ n2 ih3 =>
      intro k1 h5 h6
      refine ST.lift (fun _ _ k => T_iload_n d_Mo_invertScalar_2 rfl k) ?_
      refine ST.lift (fun _ _ k => T_bipush (v := nI 16) d_Mo_invertScalar_3 (by decide) k) ?_
      refine S_icmp_geN d_Mo_invertScalar_5 rfl (by omega) (by omega) (fun c7 => ?_) (fun c7 => ?_)
      · refine ST.lift (fun _ _ k => T_aload_n (v := .ref 373) d_Mo_invertScalar_33 rfl (Or.inr ⟨_, rfl⟩) k) ?_
        refine S_getfield d_Mo_invertScalar_34 fg_Mo_194 (w373 _) rfl ?_
        refine ST.lift (fun _ _ k => T_iconst (v := nI 0) d_Mo_invertScalar_37 (by decide) k) ?_
        refine ST.lift (fun _ _ k => T_lconst (v := 1) d_Mo_invertScalar_38 (by decide) k) ?_
        refine S_lastore d_Mo_invertScalar_39 (by decide) a395 (vp_in_nI (by omega) (by omega)) ?_
        refine ST.lift (fun _ _ k => T_sipush (v := nI 252) d_Mo_invertScalar_40 (by decide) k) ?_
        refine ST.lift (fun _ _ k => T_istore_n (L' := [(1, .int (nI 252)), (0, .ref 373)]) d_Mo_invertScalar_43 (by decide) rfl k) ?_
        have lp12 : ∀ (n10 k9 : Nat), k9 = n10 → k9 ≤ (252 + 1) → ST G mi_Mo_invertScalar 44 [(1, .int (nI k9 - 1)), (0, .ref 373)] [] v 0 0 Q := by
          intro n10
          induction n10 using Nat.strongRecOn with
          | _ n10 ih11 =>
            intro k9 h13 h14
            refine ST.lift (fun _ _ k => T_iload_n d_Mo_invertScalar_44 rfl k) ?_
            refine S_if_ltD d_Mo_invertScalar_45 rfl (by omega) (fun h16 => ?_) (fun b15 h16 => ?_)
            · exact S_vret d_Mo_invertScalar_131 rfl (by decide) (by decide) hQ
            · subst h16
              refine S_loc (L' := [(1, .int (nI b15)), (0, .ref 373)]) (by rw [nI_pred]) ?_
              refine ST.lift (fun _ _ k => T_iconst (v := nI 0) d_Mo_invertScalar_48 (by decide) k) ?_
              refine ST.lift (fun _ _ k => T_istore_n (L' := [(2, .int (nI 0)), (1, .int (nI b15)), (0, .ref 373)]) d_Mo_invertScalar_49 (by decide) rfl k) ?_
              refine ST.lift (fun _ _ k => T_iload_n d_Mo_invertScalar_50 rfl k) ?_
              refine ST.lift (fun _ _ k => T_bipush (v := nI 16) d_Mo_invertScalar_51 (by decide) k) ?_
              refine S_icmp_geN d_Mo_invertScalar_53 rfl (by omega) (by omega) (fun c => by first | exact absurd c (by omega) | exact c.elim | exact absurd c (by decide) | exact absurd (by assumption) c | exact absurd c (by assumption)) (fun _ => ?_)
              refine ST.lift (fun _ _ k => T_aload_n (v := .ref 373) d_Mo_invertScalar_56 rfl (Or.inr ⟨_, rfl⟩) k) ?_
              refine S_getfield d_Mo_invertScalar_57 fg_Mo_257 (w373 _) rfl ?_
              refine ST.lift (fun _ _ k => T_iload_n d_Mo_invertScalar_60 rfl k) ?_
              refine ST.lift (fun _ _ k => T_aload_n (v := .ref 373) d_Mo_invertScalar_61 rfl (Or.inr ⟨_, rfl⟩) k) ?_
              refine S_getfield d_Mo_invertScalar_62 fg_Mo_194 (w373 _) rfl ?_
              refine ST.lift (fun _ _ k => T_iload_n d_Mo_invertScalar_65 rfl k) ?_
              refine S_laload d_Mo_invertScalar_66 a395 (vp_in_nI (by omega) (by omega)) (fun z17 => ?_)
              refine S_lastore d_Mo_invertScalar_67 (by decide) a400 (vp_in_nI (by omega) (by omega)) ?_
              refine S_iincN (a := 0) (b := 1) (L' := [(2, .int (nI 1)), (1, .int (nI b15)), (0, .ref 373)]) d_Mo_invertScalar_68 (by decide) rfl rfl rfl ?_
              refine ST.lift (fun _ _ k => T_goto (tgt := 50) d_Mo_invertScalar_71 rfl k) ?_
              refine ST.lift (fun _ _ k => T_iload_n d_Mo_invertScalar_50 rfl k) ?_
              refine ST.lift (fun _ _ k => T_bipush (v := nI 16) d_Mo_invertScalar_51 (by decide) k) ?_
              refine S_icmp_geN d_Mo_invertScalar_53 rfl (by omega) (by omega) (fun c => by first | exact absurd c (by omega) | exact c.elim | exact absurd c (by decide) | exact absurd (by assumption) c | exact absurd c (by assumption)) (fun _ => ?_)
              refine ST.lift (fun _ _ k => T_aload_n (v := .ref 373) d_Mo_invertScalar_56 rfl (Or.inr ⟨_, rfl⟩) k) ?_
              refine S_getfield d_Mo_invertScalar_57 fg_Mo_257 (w373 _) rfl ?_
              refine ST.lift (fun _ _ k => T_iload_n d_Mo_invertScalar_60 rfl k) ?_
              refine ST.lift (fun _ _ k => T_aload_n (v := .ref 373) d_Mo_invertScalar_61 rfl (Or.inr ⟨_, rfl⟩) k) ?_
              refine S_getfield d_Mo_invertScalar_62 fg_Mo_194 (w373 _) rfl ?_
              refine ST.lift (fun _ _ k => T_iload_n d_Mo_invertScalar_65 rfl k) ?_
              refine S_laload d_Mo_invertScalar_66 a395 (vp_in_nI (by omega) (by omega)) (fun z18 => ?_)
              refine S_lastore d_Mo_invertScalar_67 (by decide) a400 (vp_in_nI (by omega) (by omega)) ?_
              refine S_iincN (a := 1) (b := 1) (L' := [(2, .int (nI 2)), (1, .int (nI b15)), (0, .ref 373)]) d_Mo_invertScalar_68 (by decide) rfl rfl rfl ?_
              refine ST.lift (fun _ _ k => T_goto (tgt := 50) d_Mo_invertScalar_71 rfl k) ?_
              refine ST.lift (fun _ _ k => T_iload_n d_Mo_invertScalar_50 rfl k) ?_
              refine ST.lift (fun _ _ k => T_bipush (v := nI 16) d_Mo_invertScalar_51 (by decide) k) ?_
              refine S_icmp_geN d_Mo_invertScalar_53 rfl (by omega) (by omega) (fun c => by first | exact absurd c (by omega) | exact c.elim | exact absurd c (by decide) | exact absurd (by assumption) c | exact absurd c (by assumption)) (fun _ => ?_)
              refine ST.lift (fun _ _ k => T_aload_n (v := .ref 373) d_Mo_invertScalar_56 rfl (Or.inr ⟨_, rfl⟩) k) ?_
              refine S_getfield d_Mo_invertScalar_57 fg_Mo_257 (w373 _) rfl ?_
              refine ST.lift (fun _ _ k => T_iload_n d_Mo_invertScalar_60 rfl k) ?_
              refine ST.lift (fun _ _ k => T_aload_n (v := .ref 373) d_Mo_invertScalar_61 rfl (Or.inr ⟨_, rfl⟩) k) ?_
              refine S_getfield d_Mo_invertScalar_62 fg_Mo_194 (w373 _) rfl ?_
              refine ST.lift (fun _ _ k => T_iload_n d_Mo_invertScalar_65 rfl k) ?_
              refine S_laload d_Mo_invertScalar_66 a395 (vp_in_nI (by omega) (by omega)) (fun z19 => ?_)
              refine S_lastore d_Mo_invertScalar_67 (by decide) a400 (vp_in_nI (by omega) (by omega)) ?_
              refine S_iincN (a := 2) (b := 1) (L' := [(2, .int (nI 3)), (1, .int (nI b15)), (0, .ref 373)]) d_Mo_invertScalar_68 (by decide) rfl rfl rfl ?_
              refine ST.lift (fun _ _ k => T_goto (tgt := 50) d_Mo_invertScalar_71 rfl k) ?_
              refine ST.lift (fun _ _ k => T_iload_n d_Mo_invertScalar_50 rfl k) ?_
              refine ST.lift (fun _ _ k => T_bipush (v := nI 16) d_Mo_invertScalar_51 (by decide) k) ?_
              refine S_icmp_geN d_Mo_invertScalar_53 rfl (by omega) (by omega) (fun c => by first | exact absurd c (by omega) | exact c.elim | exact absurd c (by decide) | exact absurd (by assumption) c | exact absurd c (by assumption)) (fun _ => ?_)
              refine ST.lift (fun _ _ k => T_aload_n (v := .ref 373) d_Mo_invertScalar_56 rfl (Or.inr ⟨_, rfl⟩) k) ?_
              refine S_getfield d_Mo_invertScalar_57 fg_Mo_257 (w373 _) rfl ?_
              refine ST.lift (fun _ _ k => T_iload_n d_Mo_invertScalar_60 rfl k) ?_
              refine ST.lift (fun _ _ k => T_aload_n (v := .ref 373) d_Mo_invertScalar_61 rfl (Or.inr ⟨_, rfl⟩) k) ?_
              refine S_getfield d_Mo_invertScalar_62 fg_Mo_194 (w373 _) rfl ?_
              refine ST.lift (fun _ _ k => T_iload_n d_Mo_invertScalar_65 rfl k) ?_
              refine S_laload d_Mo_invertScalar_66 a395 (vp_in_nI (by omega) (by omega)) (fun z20 => ?_)
              refine S_lastore d_Mo_invertScalar_67 (by decide) a400 (vp_in_nI (by omega) (by omega)) ?_
              refine S_iincN (a := 3) (b := 1) (L' := [(2, .int (nI 4)), (1, .int (nI b15)), (0, .ref 373)]) d_Mo_invertScalar_68 (by decide) rfl rfl rfl ?_
              refine ST.lift (fun _ _ k => T_goto (tgt := 50) d_Mo_invertScalar_71 rfl k) ?_
              refine ST.lift (fun _ _ k => T_iload_n d_Mo_invertScalar_50 rfl k) ?_
              refine ST.lift (fun _ _ k => T_bipush (v := nI 16) d_Mo_invertScalar_51 (by decide) k) ?_
              refine S_icmp_geN d_Mo_invertScalar_53 rfl (by omega) (by omega) (fun c => by first | exact absurd c (by omega) | exact c.elim | exact absurd c (by decide) | exact absurd (by assumption) c | exact absurd c (by assumption)) (fun _ => ?_)
              refine ST.lift (fun _ _ k => T_aload_n (v := .ref 373) d_Mo_invertScalar_56 rfl (Or.inr ⟨_, rfl⟩) k) ?_
              refine S_getfield d_Mo_invertScalar_57 fg_Mo_257 (w373 _) rfl ?_
              refine ST.lift (fun _ _ k => T_iload_n d_Mo_invertScalar_60 rfl k) ?_
              refine ST.lift (fun _ _ k => T_aload_n (v := .ref 373) d_Mo_invertScalar_61 rfl (Or.inr ⟨_, rfl⟩) k) ?_
              refine S_getfield d_Mo_invertScalar_62 fg_Mo_194 (w373 _) rfl ?_
              refine ST.lift (fun _ _ k => T_iload_n d_Mo_invertScalar_65 rfl k) ?_
              refine S_laload d_Mo_invertScalar_66 a395 (vp_in_nI (by omega) (by omega)) (fun z21 => ?_)
              refine S_lastore d_Mo_invertScalar_67 (by decide) a400 (vp_in_nI (by omega) (by omega)) ?_
              refine S_iincN (a := 4) (b := 1) (L' := [(2, .int (nI 5)), (1, .int (nI b15)), (0, .ref 373)]) d_Mo_invertScalar_68 (by decide) rfl rfl rfl ?_
              refine ST.lift (fun _ _ k => T_goto (tgt := 50) d_Mo_invertScalar_71 rfl k) ?_
              refine ST.lift (fun _ _ k => T_iload_n d_Mo_invertScalar_50 rfl k) ?_
              refine ST.lift (fun _ _ k => T_bipush (v := nI 16) d_Mo_invertScalar_51 (by decide) k) ?_
              refine S_icmp_geN d_Mo_invertScalar_53 rfl (by omega) (by omega) (fun c => by first | exact absurd c (by omega) | exact c.elim | exact absurd c (by decide) | exact absurd (by assumption) c | exact absurd c (by assumption)) (fun _ => ?_)
              refine ST.lift (fun _ _ k => T_aload_n (v := .ref 373) d_Mo_invertScalar_56 rfl (Or.inr ⟨_, rfl⟩) k) ?_
              refine S_getfield d_Mo_invertScalar_57 fg_Mo_257 (w373 _) rfl ?_
              refine ST.lift (fun _ _ k => T_iload_n d_Mo_invertScalar_60 rfl k) ?_
              refine ST.lift (fun _ _ k => T_aload_n (v := .ref 373) d_Mo_invertScalar_61 rfl (Or.inr ⟨_, rfl⟩) k) ?_
              refine S_getfield d_Mo_invertScalar_62 fg_Mo_194 (w373 _) rfl ?_
              refine ST.lift (fun _ _ k => T_iload_n d_Mo_invertScalar_65 rfl k) ?_
              refine S_laload d_Mo_invertScalar_66 a395 (vp_in_nI (by omega) (by omega)) (fun z22 => ?_)
              refine S_lastore d_Mo_invertScalar_67 (by decide) a400 (vp_in_nI (by omega) (by omega)) ?_
              refine S_iincN (a := 5) (b := 1) (L' := [(2, .int (nI 6)), (1, .int (nI b15)), (0, .ref 373)]) d_Mo_invertScalar_68 (by decide) rfl rfl rfl ?_
              refine ST.lift (fun _ _ k => T_goto (tgt := 50) d_Mo_invertScalar_71 rfl k) ?_
              refine ST.lift (fun _ _ k => T_iload_n d_Mo_invertScalar_50 rfl k) ?_
              refine ST.lift (fun _ _ k => T_bipush (v := nI 16) d_Mo_invertScalar_51 (by decide) k) ?_
              refine S_icmp_geN d_Mo_invertScalar_53 rfl (by omega) (by omega) (fun c => by first | exact absurd c (by omega) | exact c.elim | exact absurd c (by decide) | exact absurd (by assumption) c | exact absurd c (by assumption)) (fun _ => ?_)
              refine ST.lift (fun _ _ k => T_aload_n (v := .ref 373) d_Mo_invertScalar_56 rfl (Or.inr ⟨_, rfl⟩) k) ?_
              refine S_getfield d_Mo_invertScalar_57 fg_Mo_257 (w373 _) rfl ?_
              refine ST.lift (fun _ _ k => T_iload_n d_Mo_invertScalar_60 rfl k) ?_
              refine ST.lift (fun _ _ k => T_aload_n (v := .ref 373) d_Mo_invertScalar_61 rfl (Or.inr ⟨_, rfl⟩) k) ?_
              refine S_getfield d_Mo_invertScalar_62 fg_Mo_194 (w373 _) rfl ?_
              refine ST.lift (fun _ _ k => T_iload_n d_Mo_invertScalar_65 rfl k) ?_
              refine S_laload d_Mo_invertScalar_66 a395 (vp_in_nI (by omega) (by omega)) (fun z23 => ?_)
              refine S_lastore d_Mo_invertScalar_67 (by decide) a400 (vp_in_nI (by omega) (by omega)) ?_
              refine S_iincN (a := 6) (b := 1) (L' := [(2, .int (nI 7)), (1, .int (nI b15)), (0, .ref 373)]) d_Mo_invertScalar_68 (by decide) rfl rfl rfl ?_
              refine ST.lift (fun _ _ k => T_goto (tgt := 50) d_Mo_invertScalar_71 rfl k) ?_
              refine ST.lift (fun _ _ k => T_iload_n d_Mo_invertScalar_50 rfl k) ?_
              refine ST.lift (fun _ _ k => T_bipush (v := nI 16) d_Mo_invertScalar_51 (by decide) k) ?_
              refine S_icmp_geN d_Mo_invertScalar_53 rfl (by omega) (by omega) (fun c => by first | exact absurd c (by omega) | exact c.elim | exact absurd c (by decide) | exact absurd (by assumption) c | exact absurd c (by assumption)) (fun _ => ?_)
              refine ST.lift (fun _ _ k => T_aload_n (v := .ref 373) d_Mo_invertScalar_56 rfl (Or.inr ⟨_, rfl⟩) k) ?_
              refine S_getfield d_Mo_invertScalar_57 fg_Mo_257 (w373 _) rfl ?_
              refine ST.lift (fun _ _ k => T_iload_n d_Mo_invertScalar_60 rfl k) ?_
              refine ST.lift (fun _ _ k => T_aload_n (v := .ref 373) d_Mo_invertScalar_61 rfl (Or.inr ⟨_, rfl⟩) k) ?_
              refine S_getfield d_Mo_invertScalar_62 fg_Mo_194 (w373 _) rfl ?_
              refine ST.lift (fun _ _ k => T_iload_n d_Mo_invertScalar_65 rfl k) ?_
              refine S_laload d_Mo_invertScalar_66 a395 (vp_in_nI (by omega) (by omega)) (fun z24 => ?_)
              refine S_lastore d_Mo_invertScalar_67 (by decide) a400 (vp_in_nI (by omega) (by omega)) ?_
              refine S_iincN (a := 7) (b := 1) (L' := [(2, .int (nI 8)), (1, .int (nI b15)), (0, .ref 373)]) d_Mo_invertScalar_68 (by decide) rfl rfl rfl ?_
              refine ST.lift (fun _ _ k => T_goto (tgt := 50) d_Mo_invertScalar_71 rfl k) ?_
              refine ST.lift (fun _ _ k => T_iload_n d_Mo_invertScalar_50 rfl k) ?_
              refine ST.lift (fun _ _ k => T_bipush (v := nI 16) d_Mo_invertScalar_51 (by decide) k) ?_
              refine S_icmp_geN d_Mo_invertScalar_53 rfl (by omega) (by omega) (fun c => by first | exact absurd c (by omega) | exact c.elim | exact absurd c (by decide) | exact absurd (by assumption) c | exact absurd c (by assumption)) (fun _ => ?_)
              refine ST.lift (fun _ _ k => T_aload_n (v := .ref 373) d_Mo_invertScalar_56 rfl (Or.inr ⟨_, rfl⟩) k) ?_
              refine S_getfield d_Mo_invertScalar_57 fg_Mo_257 (w373 _) rfl ?_
              refine ST.lift (fun _ _ k => T_iload_n d_Mo_invertScalar_60 rfl k) ?_
              refine ST.lift (fun _ _ k => T_aload_n (v := .ref 373) d_Mo_invertScalar_61 rfl (Or.inr ⟨_, rfl⟩) k) ?_
              refine S_getfield d_Mo_invertScalar_62 fg_Mo_194 (w373 _) rfl ?_
              refine ST.lift (fun _ _ k => T_iload_n d_Mo_invertScalar_65 rfl k) ?_
              refine S_laload d_Mo_invertScalar_66 a395 (vp_in_nI (by omega) (by omega)) (fun z25 => ?_)
              refine S_lastore d_Mo_invertScalar_67 (by decide) a400 (vp_in_nI (by omega) (by omega)) ?_
              refine S_iincN (a := 8) (b := 1) (L' := [(2, .int (nI 9)), (1, .int (nI b15)), (0, .ref 373)]) d_Mo_invertScalar_68 (by decide) rfl rfl rfl ?_
              refine ST.lift (fun _ _ k => T_goto (tgt := 50) d_Mo_invertScalar_71 rfl k) ?_
              refine ST.lift (fun _ _ k => T_iload_n d_Mo_invertScalar_50 rfl k) ?_
              refine ST.lift (fun _ _ k => T_bipush (v := nI 16) d_Mo_invertScalar_51 (by decide) k) ?_
              refine S_icmp_geN d_Mo_invertScalar_53 rfl (by omega) (by omega) (fun c => by first | exact absurd c (by omega) | exact c.elim | exact absurd c (by decide) | exact absurd (by assumption) c | exact absurd c (by assumption)) (fun _ => ?_)
              refine ST.lift (fun _ _ k => T_aload_n (v := .ref 373) d_Mo_invertScalar_56 rfl (Or.inr ⟨_, rfl⟩) k) ?_
              refine S_getfield d_Mo_invertScalar_57 fg_Mo_257 (w373 _) rfl ?_
              refine ST.lift (fun _ _ k => T_iload_n d_Mo_invertScalar_60 rfl k) ?_
              refine ST.lift (fun _ _ k => T_aload_n (v := .ref 373) d_Mo_invertScalar_61 rfl (Or.inr ⟨_, rfl⟩) k) ?_
              refine S_getfield d_Mo_invertScalar_62 fg_Mo_194 (w373 _) rfl ?_
              refine ST.lift (fun _ _ k => T_iload_n d_Mo_invertScalar_65 rfl k) ?_
              refine S_laload d_Mo_invertScalar_66 a395 (vp_in_nI (by omega) (by omega)) (fun z26 => ?_)
              refine S_lastore d_Mo_invertScalar_67 (by decide) a400 (vp_in_nI (by omega) (by omega)) ?_
              refine S_iincN (a := 9) (b := 1) (L' := [(2, .int (nI 10)), (1, .int (nI b15)), (0, .ref 373)]) d_Mo_invertScalar_68 (by decide) rfl rfl rfl ?_
              refine ST.lift (fun _ _ k => T_goto (tgt := 50) d_Mo_invertScalar_71 rfl k) ?_
              refine ST.lift (fun _ _ k => T_iload_n d_Mo_invertScalar_50 rfl k) ?_
              refine ST.lift (fun _ _ k => T_bipush (v := nI 16) d_Mo_invertScalar_51 (by decide) k) ?_
              refine S_icmp_geN d_Mo_invertScalar_53 rfl (by omega) (by omega) (fun c => by first | exact absurd c (by omega) | exact c.elim | exact absurd c (by decide) | exact absurd (by assumption) c | exact absurd c (by assumption)) (fun _ => ?_)
              refine ST.lift (fun _ _ k => T_aload_n (v := .ref 373) d_Mo_invertScalar_56 rfl (Or.inr ⟨_, rfl⟩) k) ?_
              refine S_getfield d_Mo_invertScalar_57 fg_Mo_257 (w373 _) rfl ?_
              refine ST.lift (fun _ _ k => T_iload_n d_Mo_invertScalar_60 rfl k) ?_
              refine ST.lift (fun _ _ k => T_aload_n (v := .ref 373) d_Mo_invertScalar_61 rfl (Or.inr ⟨_, rfl⟩) k) ?_
              refine S_getfield d_Mo_invertScalar_62 fg_Mo_194 (w373 _) rfl ?_
              refine ST.lift (fun _ _ k => T_iload_n d_Mo_invertScalar_65 rfl k) ?_
              refine S_laload d_Mo_invertScalar_66 a395 (vp_in_nI (by omega) (by omega)) (fun z27 => ?_)
              refine S_lastore d_Mo_invertScalar_67 (by decide) a400 (vp_in_nI (by omega) (by omega)) ?_
              refine S_iincN (a := 10) (b := 1) (L' := [(2, .int (nI 11)), (1, .int (nI b15)), (0, .ref 373)]) d_Mo_invertScalar_68 (by decide) rfl rfl rfl ?_
              refine ST.lift (fun _ _ k => T_goto (tgt := 50) d_Mo_invertScalar_71 rfl k) ?_
              refine ST.lift (fun _ _ k => T_iload_n d_Mo_invertScalar_50 rfl k) ?_
              refine ST.lift (fun _ _ k => T_bipush (v := nI 16) d_Mo_invertScalar_51 (by decide) k) ?_
              refine S_icmp_geN d_Mo_invertScalar_53 rfl (by omega) (by omega) (fun c => by first | exact absurd c (by omega) | exact c.elim | exact absurd c (by decide) | exact absurd (by assumption) c | exact absurd c (by assumption)) (fun _ => ?_)
              refine ST.lift (fun _ _ k => T_aload_n (v := .ref 373) d_Mo_invertScalar_56 rfl (Or.inr ⟨_, rfl⟩) k) ?_
              refine S_getfield d_Mo_invertScalar_57 fg_Mo_257 (w373 _) rfl ?_
              refine ST.lift (fun _ _ k => T_iload_n d_Mo_invertScalar_60 rfl k) ?_
              refine ST.lift (fun _ _ k => T_aload_n (v := .ref 373) d_Mo_invertScalar_61 rfl (Or.inr ⟨_, rfl⟩) k) ?_
              refine S_getfield d_Mo_invertScalar_62 fg_Mo_194 (w373 _) rfl ?_
              refine ST.lift (fun _ _ k => T_iload_n d_Mo_invertScalar_65 rfl k) ?_
              refine S_laload d_Mo_invertScalar_66 a395 (vp_in_nI (by omega) (by omega)) (fun z28 => ?_)
              refine S_lastore d_Mo_invertScalar_67 (by decide) a400 (vp_in_nI (by omega) (by omega)) ?_
              refine S_iincN (a := 11) (b := 1) (L' := [(2, .int (nI 12)), (1, .int (nI b15)), (0, .ref 373)]) d_Mo_invertScalar_68 (by decide) rfl rfl rfl ?_
              refine ST.lift (fun _ _ k => T_goto (tgt := 50) d_Mo_invertScalar_71 rfl k) ?_
              refine ST.lift (fun _ _ k => T_iload_n d_Mo_invertScalar_50 rfl k) ?_
              refine ST.lift (fun _ _ k => T_bipush (v := nI 16) d_Mo_invertScalar_51 (by decide) k) ?_
              refine S_icmp_geN d_Mo_invertScalar_53 rfl (by omega) (by omega) (fun c => by first | exact absurd c (by omega) | exact c.elim | exact absurd c (by decide) | exact absurd (by assumption) c | exact absurd c (by assumption)) (fun _ => ?_)
              refine ST.lift (fun _ _ k => T_aload_n (v := .ref 373) d_Mo_invertScalar_56 rfl (Or.inr ⟨_, rfl⟩) k) ?_
              refine S_getfield d_Mo_invertScalar_57 fg_Mo_257 (w373 _) rfl ?_
              refine ST.lift (fun _ _ k => T_iload_n d_Mo_invertScalar_60 rfl k) ?_
              refine ST.lift (fun _ _ k => T_aload_n (v := .ref 373) d_Mo_invertScalar_61 rfl (Or.inr ⟨_, rfl⟩) k) ?_
              refine S_getfield d_Mo_invertScalar_62 fg_Mo_194 (w373 _) rfl ?_
              refine ST.lift (fun _ _ k => T_iload_n d_Mo_invertScalar_65 rfl k) ?_
              refine S_laload d_Mo_invertScalar_66 a395 (vp_in_nI (by omega) (by omega)) (fun z29 => ?_)
              refine S_lastore d_Mo_invertScalar_67 (by decide) a400 (vp_in_nI (by omega) (by omega)) ?_
              refine S_iincN (a := 12) (b := 1) (L' := [(2, .int (nI 13)), (1, .int (nI b15)), (0, .ref 373)]) d_Mo_invertScalar_68 (by decide) rfl rfl rfl ?_
              refine ST.lift (fun _ _ k => T_goto (tgt := 50) d_Mo_invertScalar_71 rfl k) ?_
              refine ST.lift (fun _ _ k => T_iload_n d_Mo_invertScalar_50 rfl k) ?_
              refine ST.lift (fun _ _ k => T_bipush (v := nI 16) d_Mo_invertScalar_51 (by decide) k) ?_
              refine S_icmp_geN d_Mo_invertScalar_53 rfl (by omega) (by omega) (fun c => by first | exact absurd c (by omega) | exact c.elim | exact absurd c (by decide) | exact absurd (by assumption) c | exact absurd c (by assumption)) (fun _ => ?_)
              refine ST.lift (fun _ _ k => T_aload_n (v := .ref 373) d_Mo_invertScalar_56 rfl (Or.inr ⟨_, rfl⟩) k) ?_
              refine S_getfield d_Mo_invertScalar_57 fg_Mo_257 (w373 _) rfl ?_
              refine ST.lift (fun _ _ k => T_iload_n d_Mo_invertScalar_60 rfl k) ?_
              refine ST.lift (fun _ _ k => T_aload_n (v := .ref 373) d_Mo_invertScalar_61 rfl (Or.inr ⟨_, rfl⟩) k) ?_
              refine S_getfield d_Mo_invertScalar_62 fg_Mo_194 (w373 _) rfl ?_
              refine ST.lift (fun _ _ k => T_iload_n d_Mo_invertScalar_65 rfl k) ?_
              refine S_laload d_Mo_invertScalar_66 a395 (vp_in_nI (by omega) (by omega)) (fun z30 => ?_)
              refine S_lastore d_Mo_invertScalar_67 (by decide) a400 (vp_in_nI (by omega) (by omega)) ?_
              refine S_iincN (a := 13) (b := 1) (L' := [(2, .int (nI 14)), (1, .int (nI b15)), (0, .ref 373)]) d_Mo_invertScalar_68 (by decide) rfl rfl rfl ?_
              refine ST.lift (fun _ _ k => T_goto (tgt := 50) d_Mo_invertScalar_71 rfl k) ?_
              refine ST.lift (fun _ _ k => T_iload_n d_Mo_invertScalar_50 rfl k) ?_
              refine ST.lift (fun _ _ k => T_bipush (v := nI 16) d_Mo_invertScalar_51 (by decide) k) ?_
              refine S_icmp_geN d_Mo_invertScalar_53 rfl (by omega) (by omega) (fun c => by first | exact absurd c (by omega) | exact c.elim | exact absurd c (by decide) | exact absurd (by assumption) c | exact absurd c (by assumption)) (fun _ => ?_)
              refine ST.lift (fun _ _ k => T_aload_n (v := .ref 373) d_Mo_invertScalar_56 rfl (Or.inr ⟨_, rfl⟩) k) ?_
              refine S_getfield d_Mo_invertScalar_57 fg_Mo_257 (w373 _) rfl ?_
              refine ST.lift (fun _ _ k => T_iload_n d_Mo_invertScalar_60 rfl k) ?_
              refine ST.lift (fun _ _ k => T_aload_n (v := .ref 373) d_Mo_invertScalar_61 rfl (Or.inr ⟨_, rfl⟩) k) ?_
              refine S_getfield d_Mo_invertScalar_62 fg_Mo_194 (w373 _) rfl ?_
              refine ST.lift (fun _ _ k => T_iload_n d_Mo_invertScalar_65 rfl k) ?_
              refine S_laload d_Mo_invertScalar_66 a395 (vp_in_nI (by omega) (by omega)) (fun z31 => ?_)
              refine S_lastore d_Mo_invertScalar_67 (by decide) a400 (vp_in_nI (by omega) (by omega)) ?_
              refine S_iincN (a := 14) (b := 1) (L' := [(2, .int (nI 15)), (1, .int (nI b15)), (0, .ref 373)]) d_Mo_invertScalar_68 (by decide) rfl rfl rfl ?_
              refine ST.lift (fun _ _ k => T_goto (tgt := 50) d_Mo_invertScalar_71 rfl k) ?_
              refine ST.lift (fun _ _ k => T_iload_n d_Mo_invertScalar_50 rfl k) ?_
              refine ST.lift (fun _ _ k => T_bipush (v := nI 16) d_Mo_invertScalar_51 (by decide) k) ?_
              refine S_icmp_geN d_Mo_invertScalar_53 rfl (by omega) (by omega) (fun c => by first | exact absurd c (by omega) | exact c.elim | exact absurd c (by decide) | exact absurd (by assumption) c | exact absurd c (by assumption)) (fun _ => ?_)
              refine ST.lift (fun _ _ k => T_aload_n (v := .ref 373) d_Mo_invertScalar_56 rfl (Or.inr ⟨_, rfl⟩) k) ?_
              refine S_getfield d_Mo_invertScalar_57 fg_Mo_257 (w373 _) rfl ?_
              refine ST.lift (fun _ _ k => T_iload_n d_Mo_invertScalar_60 rfl k) ?_
              refine ST.lift (fun _ _ k => T_aload_n (v := .ref 373) d_Mo_invertScalar_61 rfl (Or.inr ⟨_, rfl⟩) k) ?_
              refine S_getfield d_Mo_invertScalar_62 fg_Mo_194 (w373 _) rfl ?_
              refine ST.lift (fun _ _ k => T_iload_n d_Mo_invertScalar_65 rfl k) ?_
              refine S_laload d_Mo_invertScalar_66 a395 (vp_in_nI (by omega) (by omega)) (fun z32 => ?_)
              refine S_lastore d_Mo_invertScalar_67 (by decide) a400 (vp_in_nI (by omega) (by omega)) ?_
              refine S_iincN (a := 15) (b := 1) (L' := [(2, .int (nI 16)), (1, .int (nI b15)), (0, .ref 373)]) d_Mo_invertScalar_68 (by decide) rfl rfl rfl ?_
              refine ST.lift (fun _ _ k => T_goto (tgt := 50) d_Mo_invertScalar_71 rfl k) ?_
              refine ST.lift (fun _ _ k => T_iload_n d_Mo_invertScalar_50 rfl k) ?_
              refine ST.lift (fun _ _ k => T_bipush (v := nI 16) d_Mo_invertScalar_51 (by decide) k) ?_
              refine S_icmp_geN d_Mo_invertScalar_53 rfl (by omega) (by omega) (fun _ => ?_) (fun c => by first | exact absurd c (by omega) | exact c.elim | exact absurd c (by decide) | exact absurd (by assumption) c | exact absurd c (by assumption))
              refine ST.lift (fun _ _ k => T_aload_n (v := .ref 373) d_Mo_invertScalar_74 rfl (Or.inr ⟨_, rfl⟩) k) ?_
              refine ST.lift (fun _ _ k => T_aload_n (v := .ref 373) d_Mo_invertScalar_75 rfl (Or.inr ⟨_, rfl⟩) k) ?_
              refine S_getfield d_Mo_invertScalar_76 fg_Mo_257 (w373 _) rfl ?_
              refine S_virtual (as := [.ref 400]) (rest := []) (b := 373) d_Mo_invertScalar_79 rfl (jw_Mo_timesScalar.jo (by decide)) lm_Mo_260 ji_Mo_timesScalar js_Mo_timesScalar (w373 _) rfl rfl rfl (Nat.le_of_ble_eq_true rfl) (by decide) (by decide) (c_Mo_timesScalar G v 400 16 (by decide) a400 (by omega) (by omega)) (fun r v' hq => ?_)
              rw [hq.1, hq.2]
              clear hq r v'
              show ST G mi_Mo_invertScalar 82 [(2, .int (nI 16)), (1, .int (nI b15)), (0, .ref 373)] [] v 0 0 _
              refine ST.lift (fun _ _ k => T_aload_n (v := .ref 373) d_Mo_invertScalar_82 rfl (Or.inr ⟨_, rfl⟩) k) ?_
              refine S_getfield d_Mo_invertScalar_83 fg_Mo_224 (w373 _) rfl ?_
              refine ST.lift (fun _ _ k => T_iload_n d_Mo_invertScalar_86 rfl k) ?_
              refine ST.lift (fun _ _ k => T_bipush (v := nI 16) d_Mo_invertScalar_87 (by decide) k) ?_
              refine S_idivN d_Mo_invertScalar_89 (by omega) (by omega) (by omega) ?_
              refine S_laload d_Mo_invertScalar_90 a396 (vp_in_nI (by omega) (by omega)) (fun z33 => ?_)
              refine ST.lift (fun _ _ k => T_lstore_n (L' := [(2, .long z33), (1, .int (nI b15)), (0, .ref 373)]) d_Mo_invertScalar_91 (by decide) rfl k) ?_
              refine ST.lift (fun _ _ k => T_iload_n d_Mo_invertScalar_92 rfl k) ?_
              refine ST.lift (fun _ _ k => T_bipush (v := nI 16) d_Mo_invertScalar_93 (by decide) k) ?_
              have J104_37 : ∀ (z36 : Int64), ST G mi_Mo_invertScalar 104 [(2, .long z36), (1, .int (nI b15)), (0, .ref 373)] [] v 0 0 Q := by
                intro z36
                refine ST.lift (fun _ _ k => T_lload_n d_Mo_invertScalar_104 rfl k) ?_
                refine ST.lift (fun _ _ k => T_iload_n d_Mo_invertScalar_105 rfl k) ?_
                refine ST.lift (fun _ _ k => T_bipush (v := nI 16) d_Mo_invertScalar_106 (by decide) k) ?_
                refine S_iremN d_Mo_invertScalar_108 (by omega) (by omega) (by omega) ?_
                refine ST.lift (fun _ _ k => T_lshr d_Mo_invertScalar_109 k) (S_anyl fun z38 => ?_)
                refine ST.lift (fun _ _ k => T_lconst (v := 1) d_Mo_invertScalar_110 (by decide) k) ?_
                refine ST.lift (fun _ _ k => T_land d_Mo_invertScalar_111 k) (S_anyl fun z39 => ?_)
                refine ST.lift (fun _ _ k => T_lconst (v := 1) d_Mo_invertScalar_112 (by decide) k) ?_
                refine ST.lift (fun _ _ k => T_lcmp d_Mo_invertScalar_113 k) (S_anyi fun z40 => ?_)
                have J125_42 : ST G mi_Mo_invertScalar 125 [(2, .long z36), (1, .int (nI b15)), (0, .ref 373)] [] v 0 0 Q := by
                  refine S_iincD (a := b15) (L' := [(1, .int (nI b15 - 1)), (2, .long z36), (0, .ref 373)]) d_Mo_invertScalar_125 (by decide) rfl rfl ?_
                  refine ST.lift (fun _ _ k => T_goto (tgt := 44) d_Mo_invertScalar_128 rfl k) ?_
                  refine S_pick [0, 2] rfl ?_
                  exact ih11 b15 (by omega) b15  rfl (by omega)
                refine S_if_ne d_Mo_invertScalar_114 rfl (fun c41 => ?_) (fun c41 => ?_)
                · exact J125_42 
                · refine ST.lift (fun _ _ k => T_aload_n (v := .ref 373) d_Mo_invertScalar_117 rfl (Or.inr ⟨_, rfl⟩) k) ?_
                  refine ST.lift (fun _ _ k => T_aload_n (v := .ref 373) d_Mo_invertScalar_118 rfl (Or.inr ⟨_, rfl⟩) k) ?_
                  refine S_getfield d_Mo_invertScalar_119 fg_Mo_254 (w373 _) rfl ?_
                  refine S_virtual (as := [.ref 399]) (rest := []) (b := 373) d_Mo_invertScalar_122 rfl (jw_Mo_timesScalar.jo (by decide)) lm_Mo_260 ji_Mo_timesScalar js_Mo_timesScalar (w373 _) rfl rfl rfl (Nat.le_of_ble_eq_true rfl) (by decide) (by decide) (c_Mo_timesScalar G v 399 16 (by decide) a399 (by omega) (by omega)) (fun r v' hq => ?_)
                  rw [hq.1, hq.2]
                  clear hq r v'
                  show ST G mi_Mo_invertScalar 125 [(2, .long z36), (1, .int (nI b15)), (0, .ref 373)] [] v 0 0 _
                  exact J125_42 
              refine S_icmp_geN d_Mo_invertScalar_95 rfl (by omega) (by omega) (fun c34 => ?_) (fun c34 => ?_)
              · exact J104_37 z33
              · refine ST.lift (fun _ _ k => T_lload_n d_Mo_invertScalar_98 rfl k) ?_
                refine ST.lift (fun _ _ k => T_ldc2 d_Mo_invertScalar_99 kJ_Mo_264 k) ?_
                refine ST.lift (fun _ _ k => T_lsub d_Mo_invertScalar_102 k) (S_anyl fun z43 => ?_)
                refine ST.lift (fun _ _ k => T_lstore_n (L' := [(2, .long z43), (1, .int (nI b15)), (0, .ref 373)]) d_Mo_invertScalar_103 (by decide) rfl k) ?_
                exact J104_37 z43
        have e_lp12 : nI 252 = nI (252 + 1) - 1 := (nI_pred _).symm
        refine S_loc (L' := [(1, .int (nI (252 + 1) - 1)), (0, .ref 373)]) (by rw [← e_lp12]) ?_
        exact lp12 _ (252 + 1)  rfl (by omega)
      · refine ST.lift (fun _ _ k => T_aload_n (v := .ref 373) d_Mo_invertScalar_8 rfl (Or.inr ⟨_, rfl⟩) k) ?_
        refine S_getfield d_Mo_invertScalar_9 fg_Mo_254 (w373 _) rfl ?_
        refine ST.lift (fun _ _ k => T_iload_n d_Mo_invertScalar_12 rfl k) ?_
        refine ST.lift (fun _ _ k => T_aload_n (v := .ref 373) d_Mo_invertScalar_13 rfl (Or.inr ⟨_, rfl⟩) k) ?_
        refine S_getfield d_Mo_invertScalar_14 fg_Mo_194 (w373 _) rfl ?_
        refine ST.lift (fun _ _ k => T_iload_n d_Mo_invertScalar_17 rfl k) ?_
        refine S_laload d_Mo_invertScalar_18 a395 (vp_in_nI (by omega) (by omega)) (fun z44 => ?_)
        refine S_lastore d_Mo_invertScalar_19 (by decide) a399 (vp_in_nI (by omega) (by omega)) ?_
        refine ST.lift (fun _ _ k => T_aload_n (v := .ref 373) d_Mo_invertScalar_20 rfl (Or.inr ⟨_, rfl⟩) k) ?_
        refine S_getfield d_Mo_invertScalar_21 fg_Mo_194 (w373 _) rfl ?_
        refine ST.lift (fun _ _ k => T_iload_n d_Mo_invertScalar_24 rfl k) ?_
        refine ST.lift (fun _ _ k => T_lconst (v := 0) d_Mo_invertScalar_25 (by decide) k) ?_
        refine S_lastore d_Mo_invertScalar_26 (by decide) a395 (vp_in_nI (by omega) (by omega)) ?_
        refine S_iincN (a := k1) (b := 1) (L' := [(1, .int (nI (k1 + 1))), (0, .ref 373)]) d_Mo_invertScalar_27 (by decide) rfl rfl rfl ?_
        refine ST.lift (fun _ _ k => T_goto (tgt := 2) d_Mo_invertScalar_30 rfl k) ?_
        exact ih3 (16 - (k1 + 1)) (by omega) (k1 + 1)  rfl (by omega)
  exact lp4 _ 0  rfl (by omega)
set_option maxRecDepth 100000 in
set_option maxHeartbeats 4000000 in
theorem c_Mo_isScalarZero (G : GX) (v : Nat → Int32) : CS G mi_Mo_isScalarZero [.ref 373] v (fun r v' => ∃ z : Nat, z ≤ 1 ∧ r = some (.int (nI z)) ∧ v' = v) := by
  refine CS.of (by decide) (Nat.le_of_ble_eq_true rfl) ?_
  generalize hQe : (fun (r : Option Value) (v' : Nat → Int32) => ∃ z : Nat, z ≤ 1 ∧ r = some (.int (nI z)) ∧ v' = v) = Q
  have hQ : ∀ z : Nat, z ≤ 1 → Q (some (.int (nI z))) v := by rw [← hQe]; exact fun z hz => ⟨z, hz, rfl, rfl⟩
  clear hQe
  show ST G mi_Mo_isScalarZero 0 [(0, .ref 373)] [] v 0 0 Q
  refine ST.lift (fun _ _ k => T_iconst (v := nI 0) d_Mo_isScalarZero_0 (by decide) k) ?_
  refine ST.lift (fun _ _ k => T_istore_n (L' := [(1, .int (nI 0)), (0, .ref 373)]) d_Mo_isScalarZero_1 (by decide) rfl k) ?_
  refine ST.lift (fun _ _ k => T_iload_n d_Mo_isScalarZero_2 rfl k) ?_
  refine ST.lift (fun _ _ k => T_bipush (v := nI 16) d_Mo_isScalarZero_3 (by decide) k) ?_
  refine S_icmp_geN d_Mo_isScalarZero_5 rfl (by omega) (by omega) (fun c => by first | exact absurd c (by omega) | exact c.elim | exact absurd c (by decide) | exact absurd (by assumption) c | exact absurd c (by assumption)) (fun _ => ?_)
  refine ST.lift (fun _ _ k => T_aload_n (v := .ref 373) d_Mo_isScalarZero_8 rfl (Or.inr ⟨_, rfl⟩) k) ?_
  refine S_getfield d_Mo_isScalarZero_9 fg_Mo_194 (w373 _) rfl ?_
  refine ST.lift (fun _ _ k => T_iload_n d_Mo_isScalarZero_12 rfl k) ?_
  refine S_laload d_Mo_isScalarZero_13 a395 (vp_in_nI (by omega) (by omega)) (fun z1 => ?_)
  refine ST.lift (fun _ _ k => T_lconst (v := 0) d_Mo_isScalarZero_14 (by decide) k) ?_
  refine ST.lift (fun _ _ k => T_lcmp d_Mo_isScalarZero_15 k) (S_anyi fun z2 => ?_)
  refine S_if_eq d_Mo_isScalarZero_16 rfl (fun c3 => ?_) (fun c3 => ?_)
  · refine S_iincN (a := 0) (b := 1) (L' := [(1, .int (nI 1)), (0, .ref 373)]) d_Mo_isScalarZero_21 (by decide) rfl rfl rfl ?_
    refine ST.lift (fun _ _ k => T_goto (tgt := 2) d_Mo_isScalarZero_24 rfl k) ?_
    refine ST.lift (fun _ _ k => T_iload_n d_Mo_isScalarZero_2 rfl k) ?_
    refine ST.lift (fun _ _ k => T_bipush (v := nI 16) d_Mo_isScalarZero_3 (by decide) k) ?_
    refine S_icmp_geN d_Mo_isScalarZero_5 rfl (by omega) (by omega) (fun c => by first | exact absurd c (by omega) | exact c.elim | exact absurd c (by decide) | exact absurd (by assumption) c | exact absurd c (by assumption)) (fun _ => ?_)
    refine ST.lift (fun _ _ k => T_aload_n (v := .ref 373) d_Mo_isScalarZero_8 rfl (Or.inr ⟨_, rfl⟩) k) ?_
    refine S_getfield d_Mo_isScalarZero_9 fg_Mo_194 (w373 _) rfl ?_
    refine ST.lift (fun _ _ k => T_iload_n d_Mo_isScalarZero_12 rfl k) ?_
    refine S_laload d_Mo_isScalarZero_13 a395 (vp_in_nI (by omega) (by omega)) (fun z4 => ?_)
    refine ST.lift (fun _ _ k => T_lconst (v := 0) d_Mo_isScalarZero_14 (by decide) k) ?_
    refine ST.lift (fun _ _ k => T_lcmp d_Mo_isScalarZero_15 k) (S_anyi fun z5 => ?_)
    refine S_if_eq d_Mo_isScalarZero_16 rfl (fun c6 => ?_) (fun c6 => ?_)
    · refine S_iincN (a := 1) (b := 1) (L' := [(1, .int (nI 2)), (0, .ref 373)]) d_Mo_isScalarZero_21 (by decide) rfl rfl rfl ?_
      refine ST.lift (fun _ _ k => T_goto (tgt := 2) d_Mo_isScalarZero_24 rfl k) ?_
      refine ST.lift (fun _ _ k => T_iload_n d_Mo_isScalarZero_2 rfl k) ?_
      refine ST.lift (fun _ _ k => T_bipush (v := nI 16) d_Mo_isScalarZero_3 (by decide) k) ?_
      refine S_icmp_geN d_Mo_isScalarZero_5 rfl (by omega) (by omega) (fun c => by first | exact absurd c (by omega) | exact c.elim | exact absurd c (by decide) | exact absurd (by assumption) c | exact absurd c (by assumption)) (fun _ => ?_)
      refine ST.lift (fun _ _ k => T_aload_n (v := .ref 373) d_Mo_isScalarZero_8 rfl (Or.inr ⟨_, rfl⟩) k) ?_
      refine S_getfield d_Mo_isScalarZero_9 fg_Mo_194 (w373 _) rfl ?_
      refine ST.lift (fun _ _ k => T_iload_n d_Mo_isScalarZero_12 rfl k) ?_
      refine S_laload d_Mo_isScalarZero_13 a395 (vp_in_nI (by omega) (by omega)) (fun z7 => ?_)
      refine ST.lift (fun _ _ k => T_lconst (v := 0) d_Mo_isScalarZero_14 (by decide) k) ?_
      refine ST.lift (fun _ _ k => T_lcmp d_Mo_isScalarZero_15 k) (S_anyi fun z8 => ?_)
      refine S_if_eq d_Mo_isScalarZero_16 rfl (fun c9 => ?_) (fun c9 => ?_)
      · refine S_iincN (a := 2) (b := 1) (L' := [(1, .int (nI 3)), (0, .ref 373)]) d_Mo_isScalarZero_21 (by decide) rfl rfl rfl ?_
        refine ST.lift (fun _ _ k => T_goto (tgt := 2) d_Mo_isScalarZero_24 rfl k) ?_
        refine ST.lift (fun _ _ k => T_iload_n d_Mo_isScalarZero_2 rfl k) ?_
        refine ST.lift (fun _ _ k => T_bipush (v := nI 16) d_Mo_isScalarZero_3 (by decide) k) ?_
        refine S_icmp_geN d_Mo_isScalarZero_5 rfl (by omega) (by omega) (fun c => by first | exact absurd c (by omega) | exact c.elim | exact absurd c (by decide) | exact absurd (by assumption) c | exact absurd c (by assumption)) (fun _ => ?_)
        refine ST.lift (fun _ _ k => T_aload_n (v := .ref 373) d_Mo_isScalarZero_8 rfl (Or.inr ⟨_, rfl⟩) k) ?_
        refine S_getfield d_Mo_isScalarZero_9 fg_Mo_194 (w373 _) rfl ?_
        refine ST.lift (fun _ _ k => T_iload_n d_Mo_isScalarZero_12 rfl k) ?_
        refine S_laload d_Mo_isScalarZero_13 a395 (vp_in_nI (by omega) (by omega)) (fun z10 => ?_)
        refine ST.lift (fun _ _ k => T_lconst (v := 0) d_Mo_isScalarZero_14 (by decide) k) ?_
        refine ST.lift (fun _ _ k => T_lcmp d_Mo_isScalarZero_15 k) (S_anyi fun z11 => ?_)
        refine S_if_eq d_Mo_isScalarZero_16 rfl (fun c12 => ?_) (fun c12 => ?_)
        · refine S_iincN (a := 3) (b := 1) (L' := [(1, .int (nI 4)), (0, .ref 373)]) d_Mo_isScalarZero_21 (by decide) rfl rfl rfl ?_
          refine ST.lift (fun _ _ k => T_goto (tgt := 2) d_Mo_isScalarZero_24 rfl k) ?_
          refine ST.lift (fun _ _ k => T_iload_n d_Mo_isScalarZero_2 rfl k) ?_
          refine ST.lift (fun _ _ k => T_bipush (v := nI 16) d_Mo_isScalarZero_3 (by decide) k) ?_
          refine S_icmp_geN d_Mo_isScalarZero_5 rfl (by omega) (by omega) (fun c => by first | exact absurd c (by omega) | exact c.elim | exact absurd c (by decide) | exact absurd (by assumption) c | exact absurd c (by assumption)) (fun _ => ?_)
          refine ST.lift (fun _ _ k => T_aload_n (v := .ref 373) d_Mo_isScalarZero_8 rfl (Or.inr ⟨_, rfl⟩) k) ?_
          refine S_getfield d_Mo_isScalarZero_9 fg_Mo_194 (w373 _) rfl ?_
          refine ST.lift (fun _ _ k => T_iload_n d_Mo_isScalarZero_12 rfl k) ?_
          refine S_laload d_Mo_isScalarZero_13 a395 (vp_in_nI (by omega) (by omega)) (fun z13 => ?_)
          refine ST.lift (fun _ _ k => T_lconst (v := 0) d_Mo_isScalarZero_14 (by decide) k) ?_
          refine ST.lift (fun _ _ k => T_lcmp d_Mo_isScalarZero_15 k) (S_anyi fun z14 => ?_)
          refine S_if_eq d_Mo_isScalarZero_16 rfl (fun c15 => ?_) (fun c15 => ?_)
          · refine S_iincN (a := 4) (b := 1) (L' := [(1, .int (nI 5)), (0, .ref 373)]) d_Mo_isScalarZero_21 (by decide) rfl rfl rfl ?_
            refine ST.lift (fun _ _ k => T_goto (tgt := 2) d_Mo_isScalarZero_24 rfl k) ?_
            refine ST.lift (fun _ _ k => T_iload_n d_Mo_isScalarZero_2 rfl k) ?_
            refine ST.lift (fun _ _ k => T_bipush (v := nI 16) d_Mo_isScalarZero_3 (by decide) k) ?_
            refine S_icmp_geN d_Mo_isScalarZero_5 rfl (by omega) (by omega) (fun c => by first | exact absurd c (by omega) | exact c.elim | exact absurd c (by decide) | exact absurd (by assumption) c | exact absurd c (by assumption)) (fun _ => ?_)
            refine ST.lift (fun _ _ k => T_aload_n (v := .ref 373) d_Mo_isScalarZero_8 rfl (Or.inr ⟨_, rfl⟩) k) ?_
            refine S_getfield d_Mo_isScalarZero_9 fg_Mo_194 (w373 _) rfl ?_
            refine ST.lift (fun _ _ k => T_iload_n d_Mo_isScalarZero_12 rfl k) ?_
            refine S_laload d_Mo_isScalarZero_13 a395 (vp_in_nI (by omega) (by omega)) (fun z16 => ?_)
            refine ST.lift (fun _ _ k => T_lconst (v := 0) d_Mo_isScalarZero_14 (by decide) k) ?_
            refine ST.lift (fun _ _ k => T_lcmp d_Mo_isScalarZero_15 k) (S_anyi fun z17 => ?_)
            refine S_if_eq d_Mo_isScalarZero_16 rfl (fun c18 => ?_) (fun c18 => ?_)
            · refine S_iincN (a := 5) (b := 1) (L' := [(1, .int (nI 6)), (0, .ref 373)]) d_Mo_isScalarZero_21 (by decide) rfl rfl rfl ?_
              refine ST.lift (fun _ _ k => T_goto (tgt := 2) d_Mo_isScalarZero_24 rfl k) ?_
              refine ST.lift (fun _ _ k => T_iload_n d_Mo_isScalarZero_2 rfl k) ?_
              refine ST.lift (fun _ _ k => T_bipush (v := nI 16) d_Mo_isScalarZero_3 (by decide) k) ?_
              refine S_icmp_geN d_Mo_isScalarZero_5 rfl (by omega) (by omega) (fun c => by first | exact absurd c (by omega) | exact c.elim | exact absurd c (by decide) | exact absurd (by assumption) c | exact absurd c (by assumption)) (fun _ => ?_)
              refine ST.lift (fun _ _ k => T_aload_n (v := .ref 373) d_Mo_isScalarZero_8 rfl (Or.inr ⟨_, rfl⟩) k) ?_
              refine S_getfield d_Mo_isScalarZero_9 fg_Mo_194 (w373 _) rfl ?_
              refine ST.lift (fun _ _ k => T_iload_n d_Mo_isScalarZero_12 rfl k) ?_
              refine S_laload d_Mo_isScalarZero_13 a395 (vp_in_nI (by omega) (by omega)) (fun z19 => ?_)
              refine ST.lift (fun _ _ k => T_lconst (v := 0) d_Mo_isScalarZero_14 (by decide) k) ?_
              refine ST.lift (fun _ _ k => T_lcmp d_Mo_isScalarZero_15 k) (S_anyi fun z20 => ?_)
              refine S_if_eq d_Mo_isScalarZero_16 rfl (fun c21 => ?_) (fun c21 => ?_)
              · refine S_iincN (a := 6) (b := 1) (L' := [(1, .int (nI 7)), (0, .ref 373)]) d_Mo_isScalarZero_21 (by decide) rfl rfl rfl ?_
                refine ST.lift (fun _ _ k => T_goto (tgt := 2) d_Mo_isScalarZero_24 rfl k) ?_
                refine ST.lift (fun _ _ k => T_iload_n d_Mo_isScalarZero_2 rfl k) ?_
                refine ST.lift (fun _ _ k => T_bipush (v := nI 16) d_Mo_isScalarZero_3 (by decide) k) ?_
                refine S_icmp_geN d_Mo_isScalarZero_5 rfl (by omega) (by omega) (fun c => by first | exact absurd c (by omega) | exact c.elim | exact absurd c (by decide) | exact absurd (by assumption) c | exact absurd c (by assumption)) (fun _ => ?_)
                refine ST.lift (fun _ _ k => T_aload_n (v := .ref 373) d_Mo_isScalarZero_8 rfl (Or.inr ⟨_, rfl⟩) k) ?_
                refine S_getfield d_Mo_isScalarZero_9 fg_Mo_194 (w373 _) rfl ?_
                refine ST.lift (fun _ _ k => T_iload_n d_Mo_isScalarZero_12 rfl k) ?_
                refine S_laload d_Mo_isScalarZero_13 a395 (vp_in_nI (by omega) (by omega)) (fun z22 => ?_)
                refine ST.lift (fun _ _ k => T_lconst (v := 0) d_Mo_isScalarZero_14 (by decide) k) ?_
                refine ST.lift (fun _ _ k => T_lcmp d_Mo_isScalarZero_15 k) (S_anyi fun z23 => ?_)
                refine S_if_eq d_Mo_isScalarZero_16 rfl (fun c24 => ?_) (fun c24 => ?_)
                · refine S_iincN (a := 7) (b := 1) (L' := [(1, .int (nI 8)), (0, .ref 373)]) d_Mo_isScalarZero_21 (by decide) rfl rfl rfl ?_
                  refine ST.lift (fun _ _ k => T_goto (tgt := 2) d_Mo_isScalarZero_24 rfl k) ?_
                  refine ST.lift (fun _ _ k => T_iload_n d_Mo_isScalarZero_2 rfl k) ?_
                  refine ST.lift (fun _ _ k => T_bipush (v := nI 16) d_Mo_isScalarZero_3 (by decide) k) ?_
                  refine S_icmp_geN d_Mo_isScalarZero_5 rfl (by omega) (by omega) (fun c => by first | exact absurd c (by omega) | exact c.elim | exact absurd c (by decide) | exact absurd (by assumption) c | exact absurd c (by assumption)) (fun _ => ?_)
                  refine ST.lift (fun _ _ k => T_aload_n (v := .ref 373) d_Mo_isScalarZero_8 rfl (Or.inr ⟨_, rfl⟩) k) ?_
                  refine S_getfield d_Mo_isScalarZero_9 fg_Mo_194 (w373 _) rfl ?_
                  refine ST.lift (fun _ _ k => T_iload_n d_Mo_isScalarZero_12 rfl k) ?_
                  refine S_laload d_Mo_isScalarZero_13 a395 (vp_in_nI (by omega) (by omega)) (fun z25 => ?_)
                  refine ST.lift (fun _ _ k => T_lconst (v := 0) d_Mo_isScalarZero_14 (by decide) k) ?_
                  refine ST.lift (fun _ _ k => T_lcmp d_Mo_isScalarZero_15 k) (S_anyi fun z26 => ?_)
                  refine S_if_eq d_Mo_isScalarZero_16 rfl (fun c27 => ?_) (fun c27 => ?_)
                  · refine S_iincN (a := 8) (b := 1) (L' := [(1, .int (nI 9)), (0, .ref 373)]) d_Mo_isScalarZero_21 (by decide) rfl rfl rfl ?_
                    refine ST.lift (fun _ _ k => T_goto (tgt := 2) d_Mo_isScalarZero_24 rfl k) ?_
                    refine ST.lift (fun _ _ k => T_iload_n d_Mo_isScalarZero_2 rfl k) ?_
                    refine ST.lift (fun _ _ k => T_bipush (v := nI 16) d_Mo_isScalarZero_3 (by decide) k) ?_
                    refine S_icmp_geN d_Mo_isScalarZero_5 rfl (by omega) (by omega) (fun c => by first | exact absurd c (by omega) | exact c.elim | exact absurd c (by decide) | exact absurd (by assumption) c | exact absurd c (by assumption)) (fun _ => ?_)
                    refine ST.lift (fun _ _ k => T_aload_n (v := .ref 373) d_Mo_isScalarZero_8 rfl (Or.inr ⟨_, rfl⟩) k) ?_
                    refine S_getfield d_Mo_isScalarZero_9 fg_Mo_194 (w373 _) rfl ?_
                    refine ST.lift (fun _ _ k => T_iload_n d_Mo_isScalarZero_12 rfl k) ?_
                    refine S_laload d_Mo_isScalarZero_13 a395 (vp_in_nI (by omega) (by omega)) (fun z28 => ?_)
                    refine ST.lift (fun _ _ k => T_lconst (v := 0) d_Mo_isScalarZero_14 (by decide) k) ?_
                    refine ST.lift (fun _ _ k => T_lcmp d_Mo_isScalarZero_15 k) (S_anyi fun z29 => ?_)
                    refine S_if_eq d_Mo_isScalarZero_16 rfl (fun c30 => ?_) (fun c30 => ?_)
                    · refine S_iincN (a := 9) (b := 1) (L' := [(1, .int (nI 10)), (0, .ref 373)]) d_Mo_isScalarZero_21 (by decide) rfl rfl rfl ?_
                      refine ST.lift (fun _ _ k => T_goto (tgt := 2) d_Mo_isScalarZero_24 rfl k) ?_
                      refine ST.lift (fun _ _ k => T_iload_n d_Mo_isScalarZero_2 rfl k) ?_
                      refine ST.lift (fun _ _ k => T_bipush (v := nI 16) d_Mo_isScalarZero_3 (by decide) k) ?_
                      refine S_icmp_geN d_Mo_isScalarZero_5 rfl (by omega) (by omega) (fun c => by first | exact absurd c (by omega) | exact c.elim | exact absurd c (by decide) | exact absurd (by assumption) c | exact absurd c (by assumption)) (fun _ => ?_)
                      refine ST.lift (fun _ _ k => T_aload_n (v := .ref 373) d_Mo_isScalarZero_8 rfl (Or.inr ⟨_, rfl⟩) k) ?_
                      refine S_getfield d_Mo_isScalarZero_9 fg_Mo_194 (w373 _) rfl ?_
                      refine ST.lift (fun _ _ k => T_iload_n d_Mo_isScalarZero_12 rfl k) ?_
                      refine S_laload d_Mo_isScalarZero_13 a395 (vp_in_nI (by omega) (by omega)) (fun z31 => ?_)
                      refine ST.lift (fun _ _ k => T_lconst (v := 0) d_Mo_isScalarZero_14 (by decide) k) ?_
                      refine ST.lift (fun _ _ k => T_lcmp d_Mo_isScalarZero_15 k) (S_anyi fun z32 => ?_)
                      refine S_if_eq d_Mo_isScalarZero_16 rfl (fun c33 => ?_) (fun c33 => ?_)
                      · refine S_iincN (a := 10) (b := 1) (L' := [(1, .int (nI 11)), (0, .ref 373)]) d_Mo_isScalarZero_21 (by decide) rfl rfl rfl ?_
                        refine ST.lift (fun _ _ k => T_goto (tgt := 2) d_Mo_isScalarZero_24 rfl k) ?_
                        refine ST.lift (fun _ _ k => T_iload_n d_Mo_isScalarZero_2 rfl k) ?_
                        refine ST.lift (fun _ _ k => T_bipush (v := nI 16) d_Mo_isScalarZero_3 (by decide) k) ?_
                        refine S_icmp_geN d_Mo_isScalarZero_5 rfl (by omega) (by omega) (fun c => by first | exact absurd c (by omega) | exact c.elim | exact absurd c (by decide) | exact absurd (by assumption) c | exact absurd c (by assumption)) (fun _ => ?_)
                        refine ST.lift (fun _ _ k => T_aload_n (v := .ref 373) d_Mo_isScalarZero_8 rfl (Or.inr ⟨_, rfl⟩) k) ?_
                        refine S_getfield d_Mo_isScalarZero_9 fg_Mo_194 (w373 _) rfl ?_
                        refine ST.lift (fun _ _ k => T_iload_n d_Mo_isScalarZero_12 rfl k) ?_
                        refine S_laload d_Mo_isScalarZero_13 a395 (vp_in_nI (by omega) (by omega)) (fun z34 => ?_)
                        refine ST.lift (fun _ _ k => T_lconst (v := 0) d_Mo_isScalarZero_14 (by decide) k) ?_
                        refine ST.lift (fun _ _ k => T_lcmp d_Mo_isScalarZero_15 k) (S_anyi fun z35 => ?_)
                        refine S_if_eq d_Mo_isScalarZero_16 rfl (fun c36 => ?_) (fun c36 => ?_)
                        · refine S_iincN (a := 11) (b := 1) (L' := [(1, .int (nI 12)), (0, .ref 373)]) d_Mo_isScalarZero_21 (by decide) rfl rfl rfl ?_
                          refine ST.lift (fun _ _ k => T_goto (tgt := 2) d_Mo_isScalarZero_24 rfl k) ?_
                          refine ST.lift (fun _ _ k => T_iload_n d_Mo_isScalarZero_2 rfl k) ?_
                          refine ST.lift (fun _ _ k => T_bipush (v := nI 16) d_Mo_isScalarZero_3 (by decide) k) ?_
                          refine S_icmp_geN d_Mo_isScalarZero_5 rfl (by omega) (by omega) (fun c => by first | exact absurd c (by omega) | exact c.elim | exact absurd c (by decide) | exact absurd (by assumption) c | exact absurd c (by assumption)) (fun _ => ?_)
                          refine ST.lift (fun _ _ k => T_aload_n (v := .ref 373) d_Mo_isScalarZero_8 rfl (Or.inr ⟨_, rfl⟩) k) ?_
                          refine S_getfield d_Mo_isScalarZero_9 fg_Mo_194 (w373 _) rfl ?_
                          refine ST.lift (fun _ _ k => T_iload_n d_Mo_isScalarZero_12 rfl k) ?_
                          refine S_laload d_Mo_isScalarZero_13 a395 (vp_in_nI (by omega) (by omega)) (fun z37 => ?_)
                          refine ST.lift (fun _ _ k => T_lconst (v := 0) d_Mo_isScalarZero_14 (by decide) k) ?_
                          refine ST.lift (fun _ _ k => T_lcmp d_Mo_isScalarZero_15 k) (S_anyi fun z38 => ?_)
                          refine S_if_eq d_Mo_isScalarZero_16 rfl (fun c39 => ?_) (fun c39 => ?_)
                          · refine S_iincN (a := 12) (b := 1) (L' := [(1, .int (nI 13)), (0, .ref 373)]) d_Mo_isScalarZero_21 (by decide) rfl rfl rfl ?_
                            refine ST.lift (fun _ _ k => T_goto (tgt := 2) d_Mo_isScalarZero_24 rfl k) ?_
                            refine ST.lift (fun _ _ k => T_iload_n d_Mo_isScalarZero_2 rfl k) ?_
                            refine ST.lift (fun _ _ k => T_bipush (v := nI 16) d_Mo_isScalarZero_3 (by decide) k) ?_
                            refine S_icmp_geN d_Mo_isScalarZero_5 rfl (by omega) (by omega) (fun c => by first | exact absurd c (by omega) | exact c.elim | exact absurd c (by decide) | exact absurd (by assumption) c | exact absurd c (by assumption)) (fun _ => ?_)
                            refine ST.lift (fun _ _ k => T_aload_n (v := .ref 373) d_Mo_isScalarZero_8 rfl (Or.inr ⟨_, rfl⟩) k) ?_
                            refine S_getfield d_Mo_isScalarZero_9 fg_Mo_194 (w373 _) rfl ?_
                            refine ST.lift (fun _ _ k => T_iload_n d_Mo_isScalarZero_12 rfl k) ?_
                            refine S_laload d_Mo_isScalarZero_13 a395 (vp_in_nI (by omega) (by omega)) (fun z40 => ?_)
                            refine ST.lift (fun _ _ k => T_lconst (v := 0) d_Mo_isScalarZero_14 (by decide) k) ?_
                            refine ST.lift (fun _ _ k => T_lcmp d_Mo_isScalarZero_15 k) (S_anyi fun z41 => ?_)
                            refine S_if_eq d_Mo_isScalarZero_16 rfl (fun c42 => ?_) (fun c42 => ?_)
                            · refine S_iincN (a := 13) (b := 1) (L' := [(1, .int (nI 14)), (0, .ref 373)]) d_Mo_isScalarZero_21 (by decide) rfl rfl rfl ?_
                              refine ST.lift (fun _ _ k => T_goto (tgt := 2) d_Mo_isScalarZero_24 rfl k) ?_
                              refine ST.lift (fun _ _ k => T_iload_n d_Mo_isScalarZero_2 rfl k) ?_
                              refine ST.lift (fun _ _ k => T_bipush (v := nI 16) d_Mo_isScalarZero_3 (by decide) k) ?_
                              refine S_icmp_geN d_Mo_isScalarZero_5 rfl (by omega) (by omega) (fun c => by first | exact absurd c (by omega) | exact c.elim | exact absurd c (by decide) | exact absurd (by assumption) c | exact absurd c (by assumption)) (fun _ => ?_)
                              refine ST.lift (fun _ _ k => T_aload_n (v := .ref 373) d_Mo_isScalarZero_8 rfl (Or.inr ⟨_, rfl⟩) k) ?_
                              refine S_getfield d_Mo_isScalarZero_9 fg_Mo_194 (w373 _) rfl ?_
                              refine ST.lift (fun _ _ k => T_iload_n d_Mo_isScalarZero_12 rfl k) ?_
                              refine S_laload d_Mo_isScalarZero_13 a395 (vp_in_nI (by omega) (by omega)) (fun z43 => ?_)
                              refine ST.lift (fun _ _ k => T_lconst (v := 0) d_Mo_isScalarZero_14 (by decide) k) ?_
                              refine ST.lift (fun _ _ k => T_lcmp d_Mo_isScalarZero_15 k) (S_anyi fun z44 => ?_)
                              refine S_if_eq d_Mo_isScalarZero_16 rfl (fun c45 => ?_) (fun c45 => ?_)
                              · refine S_iincN (a := 14) (b := 1) (L' := [(1, .int (nI 15)), (0, .ref 373)]) d_Mo_isScalarZero_21 (by decide) rfl rfl rfl ?_
                                refine ST.lift (fun _ _ k => T_goto (tgt := 2) d_Mo_isScalarZero_24 rfl k) ?_
                                refine ST.lift (fun _ _ k => T_iload_n d_Mo_isScalarZero_2 rfl k) ?_
                                refine ST.lift (fun _ _ k => T_bipush (v := nI 16) d_Mo_isScalarZero_3 (by decide) k) ?_
                                refine S_icmp_geN d_Mo_isScalarZero_5 rfl (by omega) (by omega) (fun c => by first | exact absurd c (by omega) | exact c.elim | exact absurd c (by decide) | exact absurd (by assumption) c | exact absurd c (by assumption)) (fun _ => ?_)
                                refine ST.lift (fun _ _ k => T_aload_n (v := .ref 373) d_Mo_isScalarZero_8 rfl (Or.inr ⟨_, rfl⟩) k) ?_
                                refine S_getfield d_Mo_isScalarZero_9 fg_Mo_194 (w373 _) rfl ?_
                                refine ST.lift (fun _ _ k => T_iload_n d_Mo_isScalarZero_12 rfl k) ?_
                                refine S_laload d_Mo_isScalarZero_13 a395 (vp_in_nI (by omega) (by omega)) (fun z46 => ?_)
                                refine ST.lift (fun _ _ k => T_lconst (v := 0) d_Mo_isScalarZero_14 (by decide) k) ?_
                                refine ST.lift (fun _ _ k => T_lcmp d_Mo_isScalarZero_15 k) (S_anyi fun z47 => ?_)
                                refine S_if_eq d_Mo_isScalarZero_16 rfl (fun c48 => ?_) (fun c48 => ?_)
                                · refine S_iincN (a := 15) (b := 1) (L' := [(1, .int (nI 16)), (0, .ref 373)]) d_Mo_isScalarZero_21 (by decide) rfl rfl rfl ?_
                                  refine ST.lift (fun _ _ k => T_goto (tgt := 2) d_Mo_isScalarZero_24 rfl k) ?_
                                  refine ST.lift (fun _ _ k => T_iload_n d_Mo_isScalarZero_2 rfl k) ?_
                                  refine ST.lift (fun _ _ k => T_bipush (v := nI 16) d_Mo_isScalarZero_3 (by decide) k) ?_
                                  refine S_icmp_geN d_Mo_isScalarZero_5 rfl (by omega) (by omega) (fun _ => ?_) (fun c => by first | exact absurd c (by omega) | exact c.elim | exact absurd c (by decide) | exact absurd (by assumption) c | exact absurd c (by assumption))
                                  refine ST.lift (fun _ _ k => T_iconst (v := nI 1) d_Mo_isScalarZero_27 (by decide) k) ?_
                                  exact S_ret d_Mo_isScalarZero_28 rfl (by decide) (by decide) (by decide) (hQ 1 (by decide))
                                · refine ST.lift (fun _ _ k => T_iconst (v := nI 0) d_Mo_isScalarZero_19 (by decide) k) ?_
                                  exact S_ret d_Mo_isScalarZero_20 rfl (by decide) (by decide) (by decide) (hQ 0 (by decide))
                              · refine ST.lift (fun _ _ k => T_iconst (v := nI 0) d_Mo_isScalarZero_19 (by decide) k) ?_
                                exact S_ret d_Mo_isScalarZero_20 rfl (by decide) (by decide) (by decide) (hQ 0 (by decide))
                            · refine ST.lift (fun _ _ k => T_iconst (v := nI 0) d_Mo_isScalarZero_19 (by decide) k) ?_
                              exact S_ret d_Mo_isScalarZero_20 rfl (by decide) (by decide) (by decide) (hQ 0 (by decide))
                          · refine ST.lift (fun _ _ k => T_iconst (v := nI 0) d_Mo_isScalarZero_19 (by decide) k) ?_
                            exact S_ret d_Mo_isScalarZero_20 rfl (by decide) (by decide) (by decide) (hQ 0 (by decide))
                        · refine ST.lift (fun _ _ k => T_iconst (v := nI 0) d_Mo_isScalarZero_19 (by decide) k) ?_
                          exact S_ret d_Mo_isScalarZero_20 rfl (by decide) (by decide) (by decide) (hQ 0 (by decide))
                      · refine ST.lift (fun _ _ k => T_iconst (v := nI 0) d_Mo_isScalarZero_19 (by decide) k) ?_
                        exact S_ret d_Mo_isScalarZero_20 rfl (by decide) (by decide) (by decide) (hQ 0 (by decide))
                    · refine ST.lift (fun _ _ k => T_iconst (v := nI 0) d_Mo_isScalarZero_19 (by decide) k) ?_
                      exact S_ret d_Mo_isScalarZero_20 rfl (by decide) (by decide) (by decide) (hQ 0 (by decide))
                  · refine ST.lift (fun _ _ k => T_iconst (v := nI 0) d_Mo_isScalarZero_19 (by decide) k) ?_
                    exact S_ret d_Mo_isScalarZero_20 rfl (by decide) (by decide) (by decide) (hQ 0 (by decide))
                · refine ST.lift (fun _ _ k => T_iconst (v := nI 0) d_Mo_isScalarZero_19 (by decide) k) ?_
                  exact S_ret d_Mo_isScalarZero_20 rfl (by decide) (by decide) (by decide) (hQ 0 (by decide))
              · refine ST.lift (fun _ _ k => T_iconst (v := nI 0) d_Mo_isScalarZero_19 (by decide) k) ?_
                exact S_ret d_Mo_isScalarZero_20 rfl (by decide) (by decide) (by decide) (hQ 0 (by decide))
            · refine ST.lift (fun _ _ k => T_iconst (v := nI 0) d_Mo_isScalarZero_19 (by decide) k) ?_
              exact S_ret d_Mo_isScalarZero_20 rfl (by decide) (by decide) (by decide) (hQ 0 (by decide))
          · refine ST.lift (fun _ _ k => T_iconst (v := nI 0) d_Mo_isScalarZero_19 (by decide) k) ?_
            exact S_ret d_Mo_isScalarZero_20 rfl (by decide) (by decide) (by decide) (hQ 0 (by decide))
        · refine ST.lift (fun _ _ k => T_iconst (v := nI 0) d_Mo_isScalarZero_19 (by decide) k) ?_
          exact S_ret d_Mo_isScalarZero_20 rfl (by decide) (by decide) (by decide) (hQ 0 (by decide))
      · refine ST.lift (fun _ _ k => T_iconst (v := nI 0) d_Mo_isScalarZero_19 (by decide) k) ?_
        exact S_ret d_Mo_isScalarZero_20 rfl (by decide) (by decide) (by decide) (hQ 0 (by decide))
    · refine ST.lift (fun _ _ k => T_iconst (v := nI 0) d_Mo_isScalarZero_19 (by decide) k) ?_
      exact S_ret d_Mo_isScalarZero_20 rfl (by decide) (by decide) (by decide) (hQ 0 (by decide))
  · refine ST.lift (fun _ _ k => T_iconst (v := nI 0) d_Mo_isScalarZero_19 (by decide) k) ?_
    exact S_ret d_Mo_isScalarZero_20 rfl (by decide) (by decide) (by decide) (hQ 0 (by decide))
set_option maxRecDepth 100000 in
set_option maxHeartbeats 4000000 in
theorem c_Mo_putScalar (G : GX) (v : Nat → Int32) (to m : Nat) (w_to : K0 ≤ to) (a_to : aL to m) (l_to : m ≤ 4000) (pos : Nat) (b_pos : pos + 16 ≤ m) : CS G mi_Mo_putScalar [.ref 373, .ref to, .int (nI pos)] v (fun r v' => r = none ∧ v' = v) := by
  refine CS.of (by decide) (Nat.le_of_ble_eq_true rfl) ?_
  generalize hQe : (fun (r : Option Value) (v' : Nat → Int32) => r = none ∧ v' = v) = Q
  have hQ : Q none v := by rw [← hQe]; exact ⟨rfl, rfl⟩
  clear hQe
  show ST G mi_Mo_putScalar 0 [(0, .ref 373), (1, .ref to), (2, .int (nI pos))] [] v 0 0 Q
  refine ST.lift (fun _ _ k => T_iconst (v := nI 0) d_Mo_putScalar_0 (by decide) k) ?_
  refine ST.lift (fun _ _ k => T_istore_n (L' := [(3, .int (nI 0)), (0, .ref 373), (1, .ref to), (2, .int (nI pos))]) d_Mo_putScalar_1 (by decide) rfl k) ?_
  refine ST.lift (fun _ _ k => T_iload_n d_Mo_putScalar_2 rfl k) ?_
  refine ST.lift (fun _ _ k => T_bipush (v := nI 16) d_Mo_putScalar_3 (by decide) k) ?_
  refine S_icmp_geN d_Mo_putScalar_5 rfl (by omega) (by omega) (fun c => by first | exact absurd c (by omega) | exact c.elim | exact absurd c (by decide) | exact absurd (by assumption) c | exact absurd c (by assumption)) (fun _ => ?_)
  refine ST.lift (fun _ _ k => T_aload_n (v := .ref to) d_Mo_putScalar_8 rfl (Or.inr ⟨_, rfl⟩) k) ?_
  refine ST.lift (fun _ _ k => T_iload_n d_Mo_putScalar_9 rfl k) ?_
  refine ST.lift (fun _ _ k => T_iload_n d_Mo_putScalar_10 rfl k) ?_
  refine S_iaddN d_Mo_putScalar_11 ?_
  refine ST.lift (fun _ _ k => T_aload_n (v := .ref 373) d_Mo_putScalar_12 rfl (Or.inr ⟨_, rfl⟩) k) ?_
  refine S_getfield d_Mo_putScalar_13 fg_Mo_194 (w373 _) rfl ?_
  refine ST.lift (fun _ _ k => T_iload_n d_Mo_putScalar_16 rfl k) ?_
  refine S_laload d_Mo_putScalar_17 a395 (vp_in_nI (by omega) (by omega)) (fun z1 => ?_)
  refine S_lastore d_Mo_putScalar_18 w_to a_to (vp_in_nI (by omega) (by omega)) ?_
  refine S_iincN (a := 0) (b := 1) (L' := [(3, .int (nI 1)), (0, .ref 373), (1, .ref to), (2, .int (nI pos))]) d_Mo_putScalar_19 (by decide) rfl rfl rfl ?_
  refine ST.lift (fun _ _ k => T_goto (tgt := 2) d_Mo_putScalar_22 rfl k) ?_
  refine ST.lift (fun _ _ k => T_iload_n d_Mo_putScalar_2 rfl k) ?_
  refine ST.lift (fun _ _ k => T_bipush (v := nI 16) d_Mo_putScalar_3 (by decide) k) ?_
  refine S_icmp_geN d_Mo_putScalar_5 rfl (by omega) (by omega) (fun c => by first | exact absurd c (by omega) | exact c.elim | exact absurd c (by decide) | exact absurd (by assumption) c | exact absurd c (by assumption)) (fun _ => ?_)
  refine ST.lift (fun _ _ k => T_aload_n (v := .ref to) d_Mo_putScalar_8 rfl (Or.inr ⟨_, rfl⟩) k) ?_
  refine ST.lift (fun _ _ k => T_iload_n d_Mo_putScalar_9 rfl k) ?_
  refine ST.lift (fun _ _ k => T_iload_n d_Mo_putScalar_10 rfl k) ?_
  refine S_iaddN d_Mo_putScalar_11 ?_
  refine ST.lift (fun _ _ k => T_aload_n (v := .ref 373) d_Mo_putScalar_12 rfl (Or.inr ⟨_, rfl⟩) k) ?_
  refine S_getfield d_Mo_putScalar_13 fg_Mo_194 (w373 _) rfl ?_
  refine ST.lift (fun _ _ k => T_iload_n d_Mo_putScalar_16 rfl k) ?_
  refine S_laload d_Mo_putScalar_17 a395 (vp_in_nI (by omega) (by omega)) (fun z2 => ?_)
  refine S_lastore d_Mo_putScalar_18 w_to a_to (vp_in_nI (by omega) (by omega)) ?_
  refine S_iincN (a := 1) (b := 1) (L' := [(3, .int (nI 2)), (0, .ref 373), (1, .ref to), (2, .int (nI pos))]) d_Mo_putScalar_19 (by decide) rfl rfl rfl ?_
  refine ST.lift (fun _ _ k => T_goto (tgt := 2) d_Mo_putScalar_22 rfl k) ?_
  refine ST.lift (fun _ _ k => T_iload_n d_Mo_putScalar_2 rfl k) ?_
  refine ST.lift (fun _ _ k => T_bipush (v := nI 16) d_Mo_putScalar_3 (by decide) k) ?_
  refine S_icmp_geN d_Mo_putScalar_5 rfl (by omega) (by omega) (fun c => by first | exact absurd c (by omega) | exact c.elim | exact absurd c (by decide) | exact absurd (by assumption) c | exact absurd c (by assumption)) (fun _ => ?_)
  refine ST.lift (fun _ _ k => T_aload_n (v := .ref to) d_Mo_putScalar_8 rfl (Or.inr ⟨_, rfl⟩) k) ?_
  refine ST.lift (fun _ _ k => T_iload_n d_Mo_putScalar_9 rfl k) ?_
  refine ST.lift (fun _ _ k => T_iload_n d_Mo_putScalar_10 rfl k) ?_
  refine S_iaddN d_Mo_putScalar_11 ?_
  refine ST.lift (fun _ _ k => T_aload_n (v := .ref 373) d_Mo_putScalar_12 rfl (Or.inr ⟨_, rfl⟩) k) ?_
  refine S_getfield d_Mo_putScalar_13 fg_Mo_194 (w373 _) rfl ?_
  refine ST.lift (fun _ _ k => T_iload_n d_Mo_putScalar_16 rfl k) ?_
  refine S_laload d_Mo_putScalar_17 a395 (vp_in_nI (by omega) (by omega)) (fun z3 => ?_)
  refine S_lastore d_Mo_putScalar_18 w_to a_to (vp_in_nI (by omega) (by omega)) ?_
  refine S_iincN (a := 2) (b := 1) (L' := [(3, .int (nI 3)), (0, .ref 373), (1, .ref to), (2, .int (nI pos))]) d_Mo_putScalar_19 (by decide) rfl rfl rfl ?_
  refine ST.lift (fun _ _ k => T_goto (tgt := 2) d_Mo_putScalar_22 rfl k) ?_
  refine ST.lift (fun _ _ k => T_iload_n d_Mo_putScalar_2 rfl k) ?_
  refine ST.lift (fun _ _ k => T_bipush (v := nI 16) d_Mo_putScalar_3 (by decide) k) ?_
  refine S_icmp_geN d_Mo_putScalar_5 rfl (by omega) (by omega) (fun c => by first | exact absurd c (by omega) | exact c.elim | exact absurd c (by decide) | exact absurd (by assumption) c | exact absurd c (by assumption)) (fun _ => ?_)
  refine ST.lift (fun _ _ k => T_aload_n (v := .ref to) d_Mo_putScalar_8 rfl (Or.inr ⟨_, rfl⟩) k) ?_
  refine ST.lift (fun _ _ k => T_iload_n d_Mo_putScalar_9 rfl k) ?_
  refine ST.lift (fun _ _ k => T_iload_n d_Mo_putScalar_10 rfl k) ?_
  refine S_iaddN d_Mo_putScalar_11 ?_
  refine ST.lift (fun _ _ k => T_aload_n (v := .ref 373) d_Mo_putScalar_12 rfl (Or.inr ⟨_, rfl⟩) k) ?_
  refine S_getfield d_Mo_putScalar_13 fg_Mo_194 (w373 _) rfl ?_
  refine ST.lift (fun _ _ k => T_iload_n d_Mo_putScalar_16 rfl k) ?_
  refine S_laload d_Mo_putScalar_17 a395 (vp_in_nI (by omega) (by omega)) (fun z4 => ?_)
  refine S_lastore d_Mo_putScalar_18 w_to a_to (vp_in_nI (by omega) (by omega)) ?_
  refine S_iincN (a := 3) (b := 1) (L' := [(3, .int (nI 4)), (0, .ref 373), (1, .ref to), (2, .int (nI pos))]) d_Mo_putScalar_19 (by decide) rfl rfl rfl ?_
  refine ST.lift (fun _ _ k => T_goto (tgt := 2) d_Mo_putScalar_22 rfl k) ?_
  refine ST.lift (fun _ _ k => T_iload_n d_Mo_putScalar_2 rfl k) ?_
  refine ST.lift (fun _ _ k => T_bipush (v := nI 16) d_Mo_putScalar_3 (by decide) k) ?_
  refine S_icmp_geN d_Mo_putScalar_5 rfl (by omega) (by omega) (fun c => by first | exact absurd c (by omega) | exact c.elim | exact absurd c (by decide) | exact absurd (by assumption) c | exact absurd c (by assumption)) (fun _ => ?_)
  refine ST.lift (fun _ _ k => T_aload_n (v := .ref to) d_Mo_putScalar_8 rfl (Or.inr ⟨_, rfl⟩) k) ?_
  refine ST.lift (fun _ _ k => T_iload_n d_Mo_putScalar_9 rfl k) ?_
  refine ST.lift (fun _ _ k => T_iload_n d_Mo_putScalar_10 rfl k) ?_
  refine S_iaddN d_Mo_putScalar_11 ?_
  refine ST.lift (fun _ _ k => T_aload_n (v := .ref 373) d_Mo_putScalar_12 rfl (Or.inr ⟨_, rfl⟩) k) ?_
  refine S_getfield d_Mo_putScalar_13 fg_Mo_194 (w373 _) rfl ?_
  refine ST.lift (fun _ _ k => T_iload_n d_Mo_putScalar_16 rfl k) ?_
  refine S_laload d_Mo_putScalar_17 a395 (vp_in_nI (by omega) (by omega)) (fun z5 => ?_)
  refine S_lastore d_Mo_putScalar_18 w_to a_to (vp_in_nI (by omega) (by omega)) ?_
  refine S_iincN (a := 4) (b := 1) (L' := [(3, .int (nI 5)), (0, .ref 373), (1, .ref to), (2, .int (nI pos))]) d_Mo_putScalar_19 (by decide) rfl rfl rfl ?_
  refine ST.lift (fun _ _ k => T_goto (tgt := 2) d_Mo_putScalar_22 rfl k) ?_
  refine ST.lift (fun _ _ k => T_iload_n d_Mo_putScalar_2 rfl k) ?_
  refine ST.lift (fun _ _ k => T_bipush (v := nI 16) d_Mo_putScalar_3 (by decide) k) ?_
  refine S_icmp_geN d_Mo_putScalar_5 rfl (by omega) (by omega) (fun c => by first | exact absurd c (by omega) | exact c.elim | exact absurd c (by decide) | exact absurd (by assumption) c | exact absurd c (by assumption)) (fun _ => ?_)
  refine ST.lift (fun _ _ k => T_aload_n (v := .ref to) d_Mo_putScalar_8 rfl (Or.inr ⟨_, rfl⟩) k) ?_
  refine ST.lift (fun _ _ k => T_iload_n d_Mo_putScalar_9 rfl k) ?_
  refine ST.lift (fun _ _ k => T_iload_n d_Mo_putScalar_10 rfl k) ?_
  refine S_iaddN d_Mo_putScalar_11 ?_
  refine ST.lift (fun _ _ k => T_aload_n (v := .ref 373) d_Mo_putScalar_12 rfl (Or.inr ⟨_, rfl⟩) k) ?_
  refine S_getfield d_Mo_putScalar_13 fg_Mo_194 (w373 _) rfl ?_
  refine ST.lift (fun _ _ k => T_iload_n d_Mo_putScalar_16 rfl k) ?_
  refine S_laload d_Mo_putScalar_17 a395 (vp_in_nI (by omega) (by omega)) (fun z6 => ?_)
  refine S_lastore d_Mo_putScalar_18 w_to a_to (vp_in_nI (by omega) (by omega)) ?_
  refine S_iincN (a := 5) (b := 1) (L' := [(3, .int (nI 6)), (0, .ref 373), (1, .ref to), (2, .int (nI pos))]) d_Mo_putScalar_19 (by decide) rfl rfl rfl ?_
  refine ST.lift (fun _ _ k => T_goto (tgt := 2) d_Mo_putScalar_22 rfl k) ?_
  refine ST.lift (fun _ _ k => T_iload_n d_Mo_putScalar_2 rfl k) ?_
  refine ST.lift (fun _ _ k => T_bipush (v := nI 16) d_Mo_putScalar_3 (by decide) k) ?_
  refine S_icmp_geN d_Mo_putScalar_5 rfl (by omega) (by omega) (fun c => by first | exact absurd c (by omega) | exact c.elim | exact absurd c (by decide) | exact absurd (by assumption) c | exact absurd c (by assumption)) (fun _ => ?_)
  refine ST.lift (fun _ _ k => T_aload_n (v := .ref to) d_Mo_putScalar_8 rfl (Or.inr ⟨_, rfl⟩) k) ?_
  refine ST.lift (fun _ _ k => T_iload_n d_Mo_putScalar_9 rfl k) ?_
  refine ST.lift (fun _ _ k => T_iload_n d_Mo_putScalar_10 rfl k) ?_
  refine S_iaddN d_Mo_putScalar_11 ?_
  refine ST.lift (fun _ _ k => T_aload_n (v := .ref 373) d_Mo_putScalar_12 rfl (Or.inr ⟨_, rfl⟩) k) ?_
  refine S_getfield d_Mo_putScalar_13 fg_Mo_194 (w373 _) rfl ?_
  refine ST.lift (fun _ _ k => T_iload_n d_Mo_putScalar_16 rfl k) ?_
  refine S_laload d_Mo_putScalar_17 a395 (vp_in_nI (by omega) (by omega)) (fun z7 => ?_)
  refine S_lastore d_Mo_putScalar_18 w_to a_to (vp_in_nI (by omega) (by omega)) ?_
  refine S_iincN (a := 6) (b := 1) (L' := [(3, .int (nI 7)), (0, .ref 373), (1, .ref to), (2, .int (nI pos))]) d_Mo_putScalar_19 (by decide) rfl rfl rfl ?_
  refine ST.lift (fun _ _ k => T_goto (tgt := 2) d_Mo_putScalar_22 rfl k) ?_
  refine ST.lift (fun _ _ k => T_iload_n d_Mo_putScalar_2 rfl k) ?_
  refine ST.lift (fun _ _ k => T_bipush (v := nI 16) d_Mo_putScalar_3 (by decide) k) ?_
  refine S_icmp_geN d_Mo_putScalar_5 rfl (by omega) (by omega) (fun c => by first | exact absurd c (by omega) | exact c.elim | exact absurd c (by decide) | exact absurd (by assumption) c | exact absurd c (by assumption)) (fun _ => ?_)
  refine ST.lift (fun _ _ k => T_aload_n (v := .ref to) d_Mo_putScalar_8 rfl (Or.inr ⟨_, rfl⟩) k) ?_
  refine ST.lift (fun _ _ k => T_iload_n d_Mo_putScalar_9 rfl k) ?_
  refine ST.lift (fun _ _ k => T_iload_n d_Mo_putScalar_10 rfl k) ?_
  refine S_iaddN d_Mo_putScalar_11 ?_
  refine ST.lift (fun _ _ k => T_aload_n (v := .ref 373) d_Mo_putScalar_12 rfl (Or.inr ⟨_, rfl⟩) k) ?_
  refine S_getfield d_Mo_putScalar_13 fg_Mo_194 (w373 _) rfl ?_
  refine ST.lift (fun _ _ k => T_iload_n d_Mo_putScalar_16 rfl k) ?_
  refine S_laload d_Mo_putScalar_17 a395 (vp_in_nI (by omega) (by omega)) (fun z8 => ?_)
  refine S_lastore d_Mo_putScalar_18 w_to a_to (vp_in_nI (by omega) (by omega)) ?_
  refine S_iincN (a := 7) (b := 1) (L' := [(3, .int (nI 8)), (0, .ref 373), (1, .ref to), (2, .int (nI pos))]) d_Mo_putScalar_19 (by decide) rfl rfl rfl ?_
  refine ST.lift (fun _ _ k => T_goto (tgt := 2) d_Mo_putScalar_22 rfl k) ?_
  refine ST.lift (fun _ _ k => T_iload_n d_Mo_putScalar_2 rfl k) ?_
  refine ST.lift (fun _ _ k => T_bipush (v := nI 16) d_Mo_putScalar_3 (by decide) k) ?_
  refine S_icmp_geN d_Mo_putScalar_5 rfl (by omega) (by omega) (fun c => by first | exact absurd c (by omega) | exact c.elim | exact absurd c (by decide) | exact absurd (by assumption) c | exact absurd c (by assumption)) (fun _ => ?_)
  refine ST.lift (fun _ _ k => T_aload_n (v := .ref to) d_Mo_putScalar_8 rfl (Or.inr ⟨_, rfl⟩) k) ?_
  refine ST.lift (fun _ _ k => T_iload_n d_Mo_putScalar_9 rfl k) ?_
  refine ST.lift (fun _ _ k => T_iload_n d_Mo_putScalar_10 rfl k) ?_
  refine S_iaddN d_Mo_putScalar_11 ?_
  refine ST.lift (fun _ _ k => T_aload_n (v := .ref 373) d_Mo_putScalar_12 rfl (Or.inr ⟨_, rfl⟩) k) ?_
  refine S_getfield d_Mo_putScalar_13 fg_Mo_194 (w373 _) rfl ?_
  refine ST.lift (fun _ _ k => T_iload_n d_Mo_putScalar_16 rfl k) ?_
  refine S_laload d_Mo_putScalar_17 a395 (vp_in_nI (by omega) (by omega)) (fun z9 => ?_)
  refine S_lastore d_Mo_putScalar_18 w_to a_to (vp_in_nI (by omega) (by omega)) ?_
  refine S_iincN (a := 8) (b := 1) (L' := [(3, .int (nI 9)), (0, .ref 373), (1, .ref to), (2, .int (nI pos))]) d_Mo_putScalar_19 (by decide) rfl rfl rfl ?_
  refine ST.lift (fun _ _ k => T_goto (tgt := 2) d_Mo_putScalar_22 rfl k) ?_
  refine ST.lift (fun _ _ k => T_iload_n d_Mo_putScalar_2 rfl k) ?_
  refine ST.lift (fun _ _ k => T_bipush (v := nI 16) d_Mo_putScalar_3 (by decide) k) ?_
  refine S_icmp_geN d_Mo_putScalar_5 rfl (by omega) (by omega) (fun c => by first | exact absurd c (by omega) | exact c.elim | exact absurd c (by decide) | exact absurd (by assumption) c | exact absurd c (by assumption)) (fun _ => ?_)
  refine ST.lift (fun _ _ k => T_aload_n (v := .ref to) d_Mo_putScalar_8 rfl (Or.inr ⟨_, rfl⟩) k) ?_
  refine ST.lift (fun _ _ k => T_iload_n d_Mo_putScalar_9 rfl k) ?_
  refine ST.lift (fun _ _ k => T_iload_n d_Mo_putScalar_10 rfl k) ?_
  refine S_iaddN d_Mo_putScalar_11 ?_
  refine ST.lift (fun _ _ k => T_aload_n (v := .ref 373) d_Mo_putScalar_12 rfl (Or.inr ⟨_, rfl⟩) k) ?_
  refine S_getfield d_Mo_putScalar_13 fg_Mo_194 (w373 _) rfl ?_
  refine ST.lift (fun _ _ k => T_iload_n d_Mo_putScalar_16 rfl k) ?_
  refine S_laload d_Mo_putScalar_17 a395 (vp_in_nI (by omega) (by omega)) (fun z10 => ?_)
  refine S_lastore d_Mo_putScalar_18 w_to a_to (vp_in_nI (by omega) (by omega)) ?_
  refine S_iincN (a := 9) (b := 1) (L' := [(3, .int (nI 10)), (0, .ref 373), (1, .ref to), (2, .int (nI pos))]) d_Mo_putScalar_19 (by decide) rfl rfl rfl ?_
  refine ST.lift (fun _ _ k => T_goto (tgt := 2) d_Mo_putScalar_22 rfl k) ?_
  refine ST.lift (fun _ _ k => T_iload_n d_Mo_putScalar_2 rfl k) ?_
  refine ST.lift (fun _ _ k => T_bipush (v := nI 16) d_Mo_putScalar_3 (by decide) k) ?_
  refine S_icmp_geN d_Mo_putScalar_5 rfl (by omega) (by omega) (fun c => by first | exact absurd c (by omega) | exact c.elim | exact absurd c (by decide) | exact absurd (by assumption) c | exact absurd c (by assumption)) (fun _ => ?_)
  refine ST.lift (fun _ _ k => T_aload_n (v := .ref to) d_Mo_putScalar_8 rfl (Or.inr ⟨_, rfl⟩) k) ?_
  refine ST.lift (fun _ _ k => T_iload_n d_Mo_putScalar_9 rfl k) ?_
  refine ST.lift (fun _ _ k => T_iload_n d_Mo_putScalar_10 rfl k) ?_
  refine S_iaddN d_Mo_putScalar_11 ?_
  refine ST.lift (fun _ _ k => T_aload_n (v := .ref 373) d_Mo_putScalar_12 rfl (Or.inr ⟨_, rfl⟩) k) ?_
  refine S_getfield d_Mo_putScalar_13 fg_Mo_194 (w373 _) rfl ?_
  refine ST.lift (fun _ _ k => T_iload_n d_Mo_putScalar_16 rfl k) ?_
  refine S_laload d_Mo_putScalar_17 a395 (vp_in_nI (by omega) (by omega)) (fun z11 => ?_)
  refine S_lastore d_Mo_putScalar_18 w_to a_to (vp_in_nI (by omega) (by omega)) ?_
  refine S_iincN (a := 10) (b := 1) (L' := [(3, .int (nI 11)), (0, .ref 373), (1, .ref to), (2, .int (nI pos))]) d_Mo_putScalar_19 (by decide) rfl rfl rfl ?_
  refine ST.lift (fun _ _ k => T_goto (tgt := 2) d_Mo_putScalar_22 rfl k) ?_
  refine ST.lift (fun _ _ k => T_iload_n d_Mo_putScalar_2 rfl k) ?_
  refine ST.lift (fun _ _ k => T_bipush (v := nI 16) d_Mo_putScalar_3 (by decide) k) ?_
  refine S_icmp_geN d_Mo_putScalar_5 rfl (by omega) (by omega) (fun c => by first | exact absurd c (by omega) | exact c.elim | exact absurd c (by decide) | exact absurd (by assumption) c | exact absurd c (by assumption)) (fun _ => ?_)
  refine ST.lift (fun _ _ k => T_aload_n (v := .ref to) d_Mo_putScalar_8 rfl (Or.inr ⟨_, rfl⟩) k) ?_
  refine ST.lift (fun _ _ k => T_iload_n d_Mo_putScalar_9 rfl k) ?_
  refine ST.lift (fun _ _ k => T_iload_n d_Mo_putScalar_10 rfl k) ?_
  refine S_iaddN d_Mo_putScalar_11 ?_
  refine ST.lift (fun _ _ k => T_aload_n (v := .ref 373) d_Mo_putScalar_12 rfl (Or.inr ⟨_, rfl⟩) k) ?_
  refine S_getfield d_Mo_putScalar_13 fg_Mo_194 (w373 _) rfl ?_
  refine ST.lift (fun _ _ k => T_iload_n d_Mo_putScalar_16 rfl k) ?_
  refine S_laload d_Mo_putScalar_17 a395 (vp_in_nI (by omega) (by omega)) (fun z12 => ?_)
  refine S_lastore d_Mo_putScalar_18 w_to a_to (vp_in_nI (by omega) (by omega)) ?_
  refine S_iincN (a := 11) (b := 1) (L' := [(3, .int (nI 12)), (0, .ref 373), (1, .ref to), (2, .int (nI pos))]) d_Mo_putScalar_19 (by decide) rfl rfl rfl ?_
  refine ST.lift (fun _ _ k => T_goto (tgt := 2) d_Mo_putScalar_22 rfl k) ?_
  refine ST.lift (fun _ _ k => T_iload_n d_Mo_putScalar_2 rfl k) ?_
  refine ST.lift (fun _ _ k => T_bipush (v := nI 16) d_Mo_putScalar_3 (by decide) k) ?_
  refine S_icmp_geN d_Mo_putScalar_5 rfl (by omega) (by omega) (fun c => by first | exact absurd c (by omega) | exact c.elim | exact absurd c (by decide) | exact absurd (by assumption) c | exact absurd c (by assumption)) (fun _ => ?_)
  refine ST.lift (fun _ _ k => T_aload_n (v := .ref to) d_Mo_putScalar_8 rfl (Or.inr ⟨_, rfl⟩) k) ?_
  refine ST.lift (fun _ _ k => T_iload_n d_Mo_putScalar_9 rfl k) ?_
  refine ST.lift (fun _ _ k => T_iload_n d_Mo_putScalar_10 rfl k) ?_
  refine S_iaddN d_Mo_putScalar_11 ?_
  refine ST.lift (fun _ _ k => T_aload_n (v := .ref 373) d_Mo_putScalar_12 rfl (Or.inr ⟨_, rfl⟩) k) ?_
  refine S_getfield d_Mo_putScalar_13 fg_Mo_194 (w373 _) rfl ?_
  refine ST.lift (fun _ _ k => T_iload_n d_Mo_putScalar_16 rfl k) ?_
  refine S_laload d_Mo_putScalar_17 a395 (vp_in_nI (by omega) (by omega)) (fun z13 => ?_)
  refine S_lastore d_Mo_putScalar_18 w_to a_to (vp_in_nI (by omega) (by omega)) ?_
  refine S_iincN (a := 12) (b := 1) (L' := [(3, .int (nI 13)), (0, .ref 373), (1, .ref to), (2, .int (nI pos))]) d_Mo_putScalar_19 (by decide) rfl rfl rfl ?_
  refine ST.lift (fun _ _ k => T_goto (tgt := 2) d_Mo_putScalar_22 rfl k) ?_
  refine ST.lift (fun _ _ k => T_iload_n d_Mo_putScalar_2 rfl k) ?_
  refine ST.lift (fun _ _ k => T_bipush (v := nI 16) d_Mo_putScalar_3 (by decide) k) ?_
  refine S_icmp_geN d_Mo_putScalar_5 rfl (by omega) (by omega) (fun c => by first | exact absurd c (by omega) | exact c.elim | exact absurd c (by decide) | exact absurd (by assumption) c | exact absurd c (by assumption)) (fun _ => ?_)
  refine ST.lift (fun _ _ k => T_aload_n (v := .ref to) d_Mo_putScalar_8 rfl (Or.inr ⟨_, rfl⟩) k) ?_
  refine ST.lift (fun _ _ k => T_iload_n d_Mo_putScalar_9 rfl k) ?_
  refine ST.lift (fun _ _ k => T_iload_n d_Mo_putScalar_10 rfl k) ?_
  refine S_iaddN d_Mo_putScalar_11 ?_
  refine ST.lift (fun _ _ k => T_aload_n (v := .ref 373) d_Mo_putScalar_12 rfl (Or.inr ⟨_, rfl⟩) k) ?_
  refine S_getfield d_Mo_putScalar_13 fg_Mo_194 (w373 _) rfl ?_
  refine ST.lift (fun _ _ k => T_iload_n d_Mo_putScalar_16 rfl k) ?_
  refine S_laload d_Mo_putScalar_17 a395 (vp_in_nI (by omega) (by omega)) (fun z14 => ?_)
  refine S_lastore d_Mo_putScalar_18 w_to a_to (vp_in_nI (by omega) (by omega)) ?_
  refine S_iincN (a := 13) (b := 1) (L' := [(3, .int (nI 14)), (0, .ref 373), (1, .ref to), (2, .int (nI pos))]) d_Mo_putScalar_19 (by decide) rfl rfl rfl ?_
  refine ST.lift (fun _ _ k => T_goto (tgt := 2) d_Mo_putScalar_22 rfl k) ?_
  refine ST.lift (fun _ _ k => T_iload_n d_Mo_putScalar_2 rfl k) ?_
  refine ST.lift (fun _ _ k => T_bipush (v := nI 16) d_Mo_putScalar_3 (by decide) k) ?_
  refine S_icmp_geN d_Mo_putScalar_5 rfl (by omega) (by omega) (fun c => by first | exact absurd c (by omega) | exact c.elim | exact absurd c (by decide) | exact absurd (by assumption) c | exact absurd c (by assumption)) (fun _ => ?_)
  refine ST.lift (fun _ _ k => T_aload_n (v := .ref to) d_Mo_putScalar_8 rfl (Or.inr ⟨_, rfl⟩) k) ?_
  refine ST.lift (fun _ _ k => T_iload_n d_Mo_putScalar_9 rfl k) ?_
  refine ST.lift (fun _ _ k => T_iload_n d_Mo_putScalar_10 rfl k) ?_
  refine S_iaddN d_Mo_putScalar_11 ?_
  refine ST.lift (fun _ _ k => T_aload_n (v := .ref 373) d_Mo_putScalar_12 rfl (Or.inr ⟨_, rfl⟩) k) ?_
  refine S_getfield d_Mo_putScalar_13 fg_Mo_194 (w373 _) rfl ?_
  refine ST.lift (fun _ _ k => T_iload_n d_Mo_putScalar_16 rfl k) ?_
  refine S_laload d_Mo_putScalar_17 a395 (vp_in_nI (by omega) (by omega)) (fun z15 => ?_)
  refine S_lastore d_Mo_putScalar_18 w_to a_to (vp_in_nI (by omega) (by omega)) ?_
  refine S_iincN (a := 14) (b := 1) (L' := [(3, .int (nI 15)), (0, .ref 373), (1, .ref to), (2, .int (nI pos))]) d_Mo_putScalar_19 (by decide) rfl rfl rfl ?_
  refine ST.lift (fun _ _ k => T_goto (tgt := 2) d_Mo_putScalar_22 rfl k) ?_
  refine ST.lift (fun _ _ k => T_iload_n d_Mo_putScalar_2 rfl k) ?_
  refine ST.lift (fun _ _ k => T_bipush (v := nI 16) d_Mo_putScalar_3 (by decide) k) ?_
  refine S_icmp_geN d_Mo_putScalar_5 rfl (by omega) (by omega) (fun c => by first | exact absurd c (by omega) | exact c.elim | exact absurd c (by decide) | exact absurd (by assumption) c | exact absurd c (by assumption)) (fun _ => ?_)
  refine ST.lift (fun _ _ k => T_aload_n (v := .ref to) d_Mo_putScalar_8 rfl (Or.inr ⟨_, rfl⟩) k) ?_
  refine ST.lift (fun _ _ k => T_iload_n d_Mo_putScalar_9 rfl k) ?_
  refine ST.lift (fun _ _ k => T_iload_n d_Mo_putScalar_10 rfl k) ?_
  refine S_iaddN d_Mo_putScalar_11 ?_
  refine ST.lift (fun _ _ k => T_aload_n (v := .ref 373) d_Mo_putScalar_12 rfl (Or.inr ⟨_, rfl⟩) k) ?_
  refine S_getfield d_Mo_putScalar_13 fg_Mo_194 (w373 _) rfl ?_
  refine ST.lift (fun _ _ k => T_iload_n d_Mo_putScalar_16 rfl k) ?_
  refine S_laload d_Mo_putScalar_17 a395 (vp_in_nI (by omega) (by omega)) (fun z16 => ?_)
  refine S_lastore d_Mo_putScalar_18 w_to a_to (vp_in_nI (by omega) (by omega)) ?_
  refine S_iincN (a := 15) (b := 1) (L' := [(3, .int (nI 16)), (0, .ref 373), (1, .ref to), (2, .int (nI pos))]) d_Mo_putScalar_19 (by decide) rfl rfl rfl ?_
  refine ST.lift (fun _ _ k => T_goto (tgt := 2) d_Mo_putScalar_22 rfl k) ?_
  refine ST.lift (fun _ _ k => T_iload_n d_Mo_putScalar_2 rfl k) ?_
  refine ST.lift (fun _ _ k => T_bipush (v := nI 16) d_Mo_putScalar_3 (by decide) k) ?_
  refine S_icmp_geN d_Mo_putScalar_5 rfl (by omega) (by omega) (fun _ => ?_) (fun c => by first | exact absurd c (by omega) | exact c.elim | exact absurd c (by decide) | exact absurd (by assumption) c | exact absurd c (by assumption))
  exact S_vret d_Mo_putScalar_25 rfl (by decide) (by decide) hQ
set_option maxRecDepth 100000 in
set_option maxHeartbeats 4000000 in
theorem c_Mo_takeScalar (G : GX) (v : Nat → Int32) (src m : Nat) (w_src : K0 ≤ src) (a_src : aL src m) (l_src : m ≤ 4000) (pos : Nat) (b_pos : pos + 16 ≤ m) : CS G mi_Mo_takeScalar [.ref 373, .ref src, .int (nI pos)] v (fun r v' => r = none ∧ v' = v) := by
  refine CS.of (by decide) (Nat.le_of_ble_eq_true rfl) ?_
  generalize hQe : (fun (r : Option Value) (v' : Nat → Int32) => r = none ∧ v' = v) = Q
  have hQ : Q none v := by rw [← hQe]; exact ⟨rfl, rfl⟩
  clear hQe
  show ST G mi_Mo_takeScalar 0 [(0, .ref 373), (1, .ref src), (2, .int (nI pos))] [] v 0 0 Q
  refine ST.lift (fun _ _ k => T_iconst (v := nI 0) d_Mo_takeScalar_0 (by decide) k) ?_
  refine ST.lift (fun _ _ k => T_istore_n (L' := [(3, .int (nI 0)), (0, .ref 373), (1, .ref src), (2, .int (nI pos))]) d_Mo_takeScalar_1 (by decide) rfl k) ?_
  refine ST.lift (fun _ _ k => T_iload_n d_Mo_takeScalar_2 rfl k) ?_
  refine ST.lift (fun _ _ k => T_bipush (v := nI 16) d_Mo_takeScalar_3 (by decide) k) ?_
  refine S_icmp_geN d_Mo_takeScalar_5 rfl (by omega) (by omega) (fun c => by first | exact absurd c (by omega) | exact c.elim | exact absurd c (by decide) | exact absurd (by assumption) c | exact absurd c (by assumption)) (fun _ => ?_)
  refine ST.lift (fun _ _ k => T_aload_n (v := .ref 373) d_Mo_takeScalar_8 rfl (Or.inr ⟨_, rfl⟩) k) ?_
  refine S_getfield d_Mo_takeScalar_9 fg_Mo_194 (w373 _) rfl ?_
  refine ST.lift (fun _ _ k => T_iload_n d_Mo_takeScalar_12 rfl k) ?_
  refine ST.lift (fun _ _ k => T_aload_n (v := .ref src) d_Mo_takeScalar_13 rfl (Or.inr ⟨_, rfl⟩) k) ?_
  refine ST.lift (fun _ _ k => T_iload_n d_Mo_takeScalar_14 rfl k) ?_
  refine ST.lift (fun _ _ k => T_iload_n d_Mo_takeScalar_15 rfl k) ?_
  refine S_iaddN d_Mo_takeScalar_16 ?_
  refine S_laload d_Mo_takeScalar_17 a_src (vp_in_nI (by omega) (by omega)) (fun z1 => ?_)
  refine S_lastore d_Mo_takeScalar_18 (by decide) a395 (vp_in_nI (by omega) (by omega)) ?_
  refine S_iincN (a := 0) (b := 1) (L' := [(3, .int (nI 1)), (0, .ref 373), (1, .ref src), (2, .int (nI pos))]) d_Mo_takeScalar_19 (by decide) rfl rfl rfl ?_
  refine ST.lift (fun _ _ k => T_goto (tgt := 2) d_Mo_takeScalar_22 rfl k) ?_
  refine ST.lift (fun _ _ k => T_iload_n d_Mo_takeScalar_2 rfl k) ?_
  refine ST.lift (fun _ _ k => T_bipush (v := nI 16) d_Mo_takeScalar_3 (by decide) k) ?_
  refine S_icmp_geN d_Mo_takeScalar_5 rfl (by omega) (by omega) (fun c => by first | exact absurd c (by omega) | exact c.elim | exact absurd c (by decide) | exact absurd (by assumption) c | exact absurd c (by assumption)) (fun _ => ?_)
  refine ST.lift (fun _ _ k => T_aload_n (v := .ref 373) d_Mo_takeScalar_8 rfl (Or.inr ⟨_, rfl⟩) k) ?_
  refine S_getfield d_Mo_takeScalar_9 fg_Mo_194 (w373 _) rfl ?_
  refine ST.lift (fun _ _ k => T_iload_n d_Mo_takeScalar_12 rfl k) ?_
  refine ST.lift (fun _ _ k => T_aload_n (v := .ref src) d_Mo_takeScalar_13 rfl (Or.inr ⟨_, rfl⟩) k) ?_
  refine ST.lift (fun _ _ k => T_iload_n d_Mo_takeScalar_14 rfl k) ?_
  refine ST.lift (fun _ _ k => T_iload_n d_Mo_takeScalar_15 rfl k) ?_
  refine S_iaddN d_Mo_takeScalar_16 ?_
  refine S_laload d_Mo_takeScalar_17 a_src (vp_in_nI (by omega) (by omega)) (fun z2 => ?_)
  refine S_lastore d_Mo_takeScalar_18 (by decide) a395 (vp_in_nI (by omega) (by omega)) ?_
  refine S_iincN (a := 1) (b := 1) (L' := [(3, .int (nI 2)), (0, .ref 373), (1, .ref src), (2, .int (nI pos))]) d_Mo_takeScalar_19 (by decide) rfl rfl rfl ?_
  refine ST.lift (fun _ _ k => T_goto (tgt := 2) d_Mo_takeScalar_22 rfl k) ?_
  refine ST.lift (fun _ _ k => T_iload_n d_Mo_takeScalar_2 rfl k) ?_
  refine ST.lift (fun _ _ k => T_bipush (v := nI 16) d_Mo_takeScalar_3 (by decide) k) ?_
  refine S_icmp_geN d_Mo_takeScalar_5 rfl (by omega) (by omega) (fun c => by first | exact absurd c (by omega) | exact c.elim | exact absurd c (by decide) | exact absurd (by assumption) c | exact absurd c (by assumption)) (fun _ => ?_)
  refine ST.lift (fun _ _ k => T_aload_n (v := .ref 373) d_Mo_takeScalar_8 rfl (Or.inr ⟨_, rfl⟩) k) ?_
  refine S_getfield d_Mo_takeScalar_9 fg_Mo_194 (w373 _) rfl ?_
  refine ST.lift (fun _ _ k => T_iload_n d_Mo_takeScalar_12 rfl k) ?_
  refine ST.lift (fun _ _ k => T_aload_n (v := .ref src) d_Mo_takeScalar_13 rfl (Or.inr ⟨_, rfl⟩) k) ?_
  refine ST.lift (fun _ _ k => T_iload_n d_Mo_takeScalar_14 rfl k) ?_
  refine ST.lift (fun _ _ k => T_iload_n d_Mo_takeScalar_15 rfl k) ?_
  refine S_iaddN d_Mo_takeScalar_16 ?_
  refine S_laload d_Mo_takeScalar_17 a_src (vp_in_nI (by omega) (by omega)) (fun z3 => ?_)
  refine S_lastore d_Mo_takeScalar_18 (by decide) a395 (vp_in_nI (by omega) (by omega)) ?_
  refine S_iincN (a := 2) (b := 1) (L' := [(3, .int (nI 3)), (0, .ref 373), (1, .ref src), (2, .int (nI pos))]) d_Mo_takeScalar_19 (by decide) rfl rfl rfl ?_
  refine ST.lift (fun _ _ k => T_goto (tgt := 2) d_Mo_takeScalar_22 rfl k) ?_
  refine ST.lift (fun _ _ k => T_iload_n d_Mo_takeScalar_2 rfl k) ?_
  refine ST.lift (fun _ _ k => T_bipush (v := nI 16) d_Mo_takeScalar_3 (by decide) k) ?_
  refine S_icmp_geN d_Mo_takeScalar_5 rfl (by omega) (by omega) (fun c => by first | exact absurd c (by omega) | exact c.elim | exact absurd c (by decide) | exact absurd (by assumption) c | exact absurd c (by assumption)) (fun _ => ?_)
  refine ST.lift (fun _ _ k => T_aload_n (v := .ref 373) d_Mo_takeScalar_8 rfl (Or.inr ⟨_, rfl⟩) k) ?_
  refine S_getfield d_Mo_takeScalar_9 fg_Mo_194 (w373 _) rfl ?_
  refine ST.lift (fun _ _ k => T_iload_n d_Mo_takeScalar_12 rfl k) ?_
  refine ST.lift (fun _ _ k => T_aload_n (v := .ref src) d_Mo_takeScalar_13 rfl (Or.inr ⟨_, rfl⟩) k) ?_
  refine ST.lift (fun _ _ k => T_iload_n d_Mo_takeScalar_14 rfl k) ?_
  refine ST.lift (fun _ _ k => T_iload_n d_Mo_takeScalar_15 rfl k) ?_
  refine S_iaddN d_Mo_takeScalar_16 ?_
  refine S_laload d_Mo_takeScalar_17 a_src (vp_in_nI (by omega) (by omega)) (fun z4 => ?_)
  refine S_lastore d_Mo_takeScalar_18 (by decide) a395 (vp_in_nI (by omega) (by omega)) ?_
  refine S_iincN (a := 3) (b := 1) (L' := [(3, .int (nI 4)), (0, .ref 373), (1, .ref src), (2, .int (nI pos))]) d_Mo_takeScalar_19 (by decide) rfl rfl rfl ?_
  refine ST.lift (fun _ _ k => T_goto (tgt := 2) d_Mo_takeScalar_22 rfl k) ?_
  refine ST.lift (fun _ _ k => T_iload_n d_Mo_takeScalar_2 rfl k) ?_
  refine ST.lift (fun _ _ k => T_bipush (v := nI 16) d_Mo_takeScalar_3 (by decide) k) ?_
  refine S_icmp_geN d_Mo_takeScalar_5 rfl (by omega) (by omega) (fun c => by first | exact absurd c (by omega) | exact c.elim | exact absurd c (by decide) | exact absurd (by assumption) c | exact absurd c (by assumption)) (fun _ => ?_)
  refine ST.lift (fun _ _ k => T_aload_n (v := .ref 373) d_Mo_takeScalar_8 rfl (Or.inr ⟨_, rfl⟩) k) ?_
  refine S_getfield d_Mo_takeScalar_9 fg_Mo_194 (w373 _) rfl ?_
  refine ST.lift (fun _ _ k => T_iload_n d_Mo_takeScalar_12 rfl k) ?_
  refine ST.lift (fun _ _ k => T_aload_n (v := .ref src) d_Mo_takeScalar_13 rfl (Or.inr ⟨_, rfl⟩) k) ?_
  refine ST.lift (fun _ _ k => T_iload_n d_Mo_takeScalar_14 rfl k) ?_
  refine ST.lift (fun _ _ k => T_iload_n d_Mo_takeScalar_15 rfl k) ?_
  refine S_iaddN d_Mo_takeScalar_16 ?_
  refine S_laload d_Mo_takeScalar_17 a_src (vp_in_nI (by omega) (by omega)) (fun z5 => ?_)
  refine S_lastore d_Mo_takeScalar_18 (by decide) a395 (vp_in_nI (by omega) (by omega)) ?_
  refine S_iincN (a := 4) (b := 1) (L' := [(3, .int (nI 5)), (0, .ref 373), (1, .ref src), (2, .int (nI pos))]) d_Mo_takeScalar_19 (by decide) rfl rfl rfl ?_
  refine ST.lift (fun _ _ k => T_goto (tgt := 2) d_Mo_takeScalar_22 rfl k) ?_
  refine ST.lift (fun _ _ k => T_iload_n d_Mo_takeScalar_2 rfl k) ?_
  refine ST.lift (fun _ _ k => T_bipush (v := nI 16) d_Mo_takeScalar_3 (by decide) k) ?_
  refine S_icmp_geN d_Mo_takeScalar_5 rfl (by omega) (by omega) (fun c => by first | exact absurd c (by omega) | exact c.elim | exact absurd c (by decide) | exact absurd (by assumption) c | exact absurd c (by assumption)) (fun _ => ?_)
  refine ST.lift (fun _ _ k => T_aload_n (v := .ref 373) d_Mo_takeScalar_8 rfl (Or.inr ⟨_, rfl⟩) k) ?_
  refine S_getfield d_Mo_takeScalar_9 fg_Mo_194 (w373 _) rfl ?_
  refine ST.lift (fun _ _ k => T_iload_n d_Mo_takeScalar_12 rfl k) ?_
  refine ST.lift (fun _ _ k => T_aload_n (v := .ref src) d_Mo_takeScalar_13 rfl (Or.inr ⟨_, rfl⟩) k) ?_
  refine ST.lift (fun _ _ k => T_iload_n d_Mo_takeScalar_14 rfl k) ?_
  refine ST.lift (fun _ _ k => T_iload_n d_Mo_takeScalar_15 rfl k) ?_
  refine S_iaddN d_Mo_takeScalar_16 ?_
  refine S_laload d_Mo_takeScalar_17 a_src (vp_in_nI (by omega) (by omega)) (fun z6 => ?_)
  refine S_lastore d_Mo_takeScalar_18 (by decide) a395 (vp_in_nI (by omega) (by omega)) ?_
  refine S_iincN (a := 5) (b := 1) (L' := [(3, .int (nI 6)), (0, .ref 373), (1, .ref src), (2, .int (nI pos))]) d_Mo_takeScalar_19 (by decide) rfl rfl rfl ?_
  refine ST.lift (fun _ _ k => T_goto (tgt := 2) d_Mo_takeScalar_22 rfl k) ?_
  refine ST.lift (fun _ _ k => T_iload_n d_Mo_takeScalar_2 rfl k) ?_
  refine ST.lift (fun _ _ k => T_bipush (v := nI 16) d_Mo_takeScalar_3 (by decide) k) ?_
  refine S_icmp_geN d_Mo_takeScalar_5 rfl (by omega) (by omega) (fun c => by first | exact absurd c (by omega) | exact c.elim | exact absurd c (by decide) | exact absurd (by assumption) c | exact absurd c (by assumption)) (fun _ => ?_)
  refine ST.lift (fun _ _ k => T_aload_n (v := .ref 373) d_Mo_takeScalar_8 rfl (Or.inr ⟨_, rfl⟩) k) ?_
  refine S_getfield d_Mo_takeScalar_9 fg_Mo_194 (w373 _) rfl ?_
  refine ST.lift (fun _ _ k => T_iload_n d_Mo_takeScalar_12 rfl k) ?_
  refine ST.lift (fun _ _ k => T_aload_n (v := .ref src) d_Mo_takeScalar_13 rfl (Or.inr ⟨_, rfl⟩) k) ?_
  refine ST.lift (fun _ _ k => T_iload_n d_Mo_takeScalar_14 rfl k) ?_
  refine ST.lift (fun _ _ k => T_iload_n d_Mo_takeScalar_15 rfl k) ?_
  refine S_iaddN d_Mo_takeScalar_16 ?_
  refine S_laload d_Mo_takeScalar_17 a_src (vp_in_nI (by omega) (by omega)) (fun z7 => ?_)
  refine S_lastore d_Mo_takeScalar_18 (by decide) a395 (vp_in_nI (by omega) (by omega)) ?_
  refine S_iincN (a := 6) (b := 1) (L' := [(3, .int (nI 7)), (0, .ref 373), (1, .ref src), (2, .int (nI pos))]) d_Mo_takeScalar_19 (by decide) rfl rfl rfl ?_
  refine ST.lift (fun _ _ k => T_goto (tgt := 2) d_Mo_takeScalar_22 rfl k) ?_
  refine ST.lift (fun _ _ k => T_iload_n d_Mo_takeScalar_2 rfl k) ?_
  refine ST.lift (fun _ _ k => T_bipush (v := nI 16) d_Mo_takeScalar_3 (by decide) k) ?_
  refine S_icmp_geN d_Mo_takeScalar_5 rfl (by omega) (by omega) (fun c => by first | exact absurd c (by omega) | exact c.elim | exact absurd c (by decide) | exact absurd (by assumption) c | exact absurd c (by assumption)) (fun _ => ?_)
  refine ST.lift (fun _ _ k => T_aload_n (v := .ref 373) d_Mo_takeScalar_8 rfl (Or.inr ⟨_, rfl⟩) k) ?_
  refine S_getfield d_Mo_takeScalar_9 fg_Mo_194 (w373 _) rfl ?_
  refine ST.lift (fun _ _ k => T_iload_n d_Mo_takeScalar_12 rfl k) ?_
  refine ST.lift (fun _ _ k => T_aload_n (v := .ref src) d_Mo_takeScalar_13 rfl (Or.inr ⟨_, rfl⟩) k) ?_
  refine ST.lift (fun _ _ k => T_iload_n d_Mo_takeScalar_14 rfl k) ?_
  refine ST.lift (fun _ _ k => T_iload_n d_Mo_takeScalar_15 rfl k) ?_
  refine S_iaddN d_Mo_takeScalar_16 ?_
  refine S_laload d_Mo_takeScalar_17 a_src (vp_in_nI (by omega) (by omega)) (fun z8 => ?_)
  refine S_lastore d_Mo_takeScalar_18 (by decide) a395 (vp_in_nI (by omega) (by omega)) ?_
  refine S_iincN (a := 7) (b := 1) (L' := [(3, .int (nI 8)), (0, .ref 373), (1, .ref src), (2, .int (nI pos))]) d_Mo_takeScalar_19 (by decide) rfl rfl rfl ?_
  refine ST.lift (fun _ _ k => T_goto (tgt := 2) d_Mo_takeScalar_22 rfl k) ?_
  refine ST.lift (fun _ _ k => T_iload_n d_Mo_takeScalar_2 rfl k) ?_
  refine ST.lift (fun _ _ k => T_bipush (v := nI 16) d_Mo_takeScalar_3 (by decide) k) ?_
  refine S_icmp_geN d_Mo_takeScalar_5 rfl (by omega) (by omega) (fun c => by first | exact absurd c (by omega) | exact c.elim | exact absurd c (by decide) | exact absurd (by assumption) c | exact absurd c (by assumption)) (fun _ => ?_)
  refine ST.lift (fun _ _ k => T_aload_n (v := .ref 373) d_Mo_takeScalar_8 rfl (Or.inr ⟨_, rfl⟩) k) ?_
  refine S_getfield d_Mo_takeScalar_9 fg_Mo_194 (w373 _) rfl ?_
  refine ST.lift (fun _ _ k => T_iload_n d_Mo_takeScalar_12 rfl k) ?_
  refine ST.lift (fun _ _ k => T_aload_n (v := .ref src) d_Mo_takeScalar_13 rfl (Or.inr ⟨_, rfl⟩) k) ?_
  refine ST.lift (fun _ _ k => T_iload_n d_Mo_takeScalar_14 rfl k) ?_
  refine ST.lift (fun _ _ k => T_iload_n d_Mo_takeScalar_15 rfl k) ?_
  refine S_iaddN d_Mo_takeScalar_16 ?_
  refine S_laload d_Mo_takeScalar_17 a_src (vp_in_nI (by omega) (by omega)) (fun z9 => ?_)
  refine S_lastore d_Mo_takeScalar_18 (by decide) a395 (vp_in_nI (by omega) (by omega)) ?_
  refine S_iincN (a := 8) (b := 1) (L' := [(3, .int (nI 9)), (0, .ref 373), (1, .ref src), (2, .int (nI pos))]) d_Mo_takeScalar_19 (by decide) rfl rfl rfl ?_
  refine ST.lift (fun _ _ k => T_goto (tgt := 2) d_Mo_takeScalar_22 rfl k) ?_
  refine ST.lift (fun _ _ k => T_iload_n d_Mo_takeScalar_2 rfl k) ?_
  refine ST.lift (fun _ _ k => T_bipush (v := nI 16) d_Mo_takeScalar_3 (by decide) k) ?_
  refine S_icmp_geN d_Mo_takeScalar_5 rfl (by omega) (by omega) (fun c => by first | exact absurd c (by omega) | exact c.elim | exact absurd c (by decide) | exact absurd (by assumption) c | exact absurd c (by assumption)) (fun _ => ?_)
  refine ST.lift (fun _ _ k => T_aload_n (v := .ref 373) d_Mo_takeScalar_8 rfl (Or.inr ⟨_, rfl⟩) k) ?_
  refine S_getfield d_Mo_takeScalar_9 fg_Mo_194 (w373 _) rfl ?_
  refine ST.lift (fun _ _ k => T_iload_n d_Mo_takeScalar_12 rfl k) ?_
  refine ST.lift (fun _ _ k => T_aload_n (v := .ref src) d_Mo_takeScalar_13 rfl (Or.inr ⟨_, rfl⟩) k) ?_
  refine ST.lift (fun _ _ k => T_iload_n d_Mo_takeScalar_14 rfl k) ?_
  refine ST.lift (fun _ _ k => T_iload_n d_Mo_takeScalar_15 rfl k) ?_
  refine S_iaddN d_Mo_takeScalar_16 ?_
  refine S_laload d_Mo_takeScalar_17 a_src (vp_in_nI (by omega) (by omega)) (fun z10 => ?_)
  refine S_lastore d_Mo_takeScalar_18 (by decide) a395 (vp_in_nI (by omega) (by omega)) ?_
  refine S_iincN (a := 9) (b := 1) (L' := [(3, .int (nI 10)), (0, .ref 373), (1, .ref src), (2, .int (nI pos))]) d_Mo_takeScalar_19 (by decide) rfl rfl rfl ?_
  refine ST.lift (fun _ _ k => T_goto (tgt := 2) d_Mo_takeScalar_22 rfl k) ?_
  refine ST.lift (fun _ _ k => T_iload_n d_Mo_takeScalar_2 rfl k) ?_
  refine ST.lift (fun _ _ k => T_bipush (v := nI 16) d_Mo_takeScalar_3 (by decide) k) ?_
  refine S_icmp_geN d_Mo_takeScalar_5 rfl (by omega) (by omega) (fun c => by first | exact absurd c (by omega) | exact c.elim | exact absurd c (by decide) | exact absurd (by assumption) c | exact absurd c (by assumption)) (fun _ => ?_)
  refine ST.lift (fun _ _ k => T_aload_n (v := .ref 373) d_Mo_takeScalar_8 rfl (Or.inr ⟨_, rfl⟩) k) ?_
  refine S_getfield d_Mo_takeScalar_9 fg_Mo_194 (w373 _) rfl ?_
  refine ST.lift (fun _ _ k => T_iload_n d_Mo_takeScalar_12 rfl k) ?_
  refine ST.lift (fun _ _ k => T_aload_n (v := .ref src) d_Mo_takeScalar_13 rfl (Or.inr ⟨_, rfl⟩) k) ?_
  refine ST.lift (fun _ _ k => T_iload_n d_Mo_takeScalar_14 rfl k) ?_
  refine ST.lift (fun _ _ k => T_iload_n d_Mo_takeScalar_15 rfl k) ?_
  refine S_iaddN d_Mo_takeScalar_16 ?_
  refine S_laload d_Mo_takeScalar_17 a_src (vp_in_nI (by omega) (by omega)) (fun z11 => ?_)
  refine S_lastore d_Mo_takeScalar_18 (by decide) a395 (vp_in_nI (by omega) (by omega)) ?_
  refine S_iincN (a := 10) (b := 1) (L' := [(3, .int (nI 11)), (0, .ref 373), (1, .ref src), (2, .int (nI pos))]) d_Mo_takeScalar_19 (by decide) rfl rfl rfl ?_
  refine ST.lift (fun _ _ k => T_goto (tgt := 2) d_Mo_takeScalar_22 rfl k) ?_
  refine ST.lift (fun _ _ k => T_iload_n d_Mo_takeScalar_2 rfl k) ?_
  refine ST.lift (fun _ _ k => T_bipush (v := nI 16) d_Mo_takeScalar_3 (by decide) k) ?_
  refine S_icmp_geN d_Mo_takeScalar_5 rfl (by omega) (by omega) (fun c => by first | exact absurd c (by omega) | exact c.elim | exact absurd c (by decide) | exact absurd (by assumption) c | exact absurd c (by assumption)) (fun _ => ?_)
  refine ST.lift (fun _ _ k => T_aload_n (v := .ref 373) d_Mo_takeScalar_8 rfl (Or.inr ⟨_, rfl⟩) k) ?_
  refine S_getfield d_Mo_takeScalar_9 fg_Mo_194 (w373 _) rfl ?_
  refine ST.lift (fun _ _ k => T_iload_n d_Mo_takeScalar_12 rfl k) ?_
  refine ST.lift (fun _ _ k => T_aload_n (v := .ref src) d_Mo_takeScalar_13 rfl (Or.inr ⟨_, rfl⟩) k) ?_
  refine ST.lift (fun _ _ k => T_iload_n d_Mo_takeScalar_14 rfl k) ?_
  refine ST.lift (fun _ _ k => T_iload_n d_Mo_takeScalar_15 rfl k) ?_
  refine S_iaddN d_Mo_takeScalar_16 ?_
  refine S_laload d_Mo_takeScalar_17 a_src (vp_in_nI (by omega) (by omega)) (fun z12 => ?_)
  refine S_lastore d_Mo_takeScalar_18 (by decide) a395 (vp_in_nI (by omega) (by omega)) ?_
  refine S_iincN (a := 11) (b := 1) (L' := [(3, .int (nI 12)), (0, .ref 373), (1, .ref src), (2, .int (nI pos))]) d_Mo_takeScalar_19 (by decide) rfl rfl rfl ?_
  refine ST.lift (fun _ _ k => T_goto (tgt := 2) d_Mo_takeScalar_22 rfl k) ?_
  refine ST.lift (fun _ _ k => T_iload_n d_Mo_takeScalar_2 rfl k) ?_
  refine ST.lift (fun _ _ k => T_bipush (v := nI 16) d_Mo_takeScalar_3 (by decide) k) ?_
  refine S_icmp_geN d_Mo_takeScalar_5 rfl (by omega) (by omega) (fun c => by first | exact absurd c (by omega) | exact c.elim | exact absurd c (by decide) | exact absurd (by assumption) c | exact absurd c (by assumption)) (fun _ => ?_)
  refine ST.lift (fun _ _ k => T_aload_n (v := .ref 373) d_Mo_takeScalar_8 rfl (Or.inr ⟨_, rfl⟩) k) ?_
  refine S_getfield d_Mo_takeScalar_9 fg_Mo_194 (w373 _) rfl ?_
  refine ST.lift (fun _ _ k => T_iload_n d_Mo_takeScalar_12 rfl k) ?_
  refine ST.lift (fun _ _ k => T_aload_n (v := .ref src) d_Mo_takeScalar_13 rfl (Or.inr ⟨_, rfl⟩) k) ?_
  refine ST.lift (fun _ _ k => T_iload_n d_Mo_takeScalar_14 rfl k) ?_
  refine ST.lift (fun _ _ k => T_iload_n d_Mo_takeScalar_15 rfl k) ?_
  refine S_iaddN d_Mo_takeScalar_16 ?_
  refine S_laload d_Mo_takeScalar_17 a_src (vp_in_nI (by omega) (by omega)) (fun z13 => ?_)
  refine S_lastore d_Mo_takeScalar_18 (by decide) a395 (vp_in_nI (by omega) (by omega)) ?_
  refine S_iincN (a := 12) (b := 1) (L' := [(3, .int (nI 13)), (0, .ref 373), (1, .ref src), (2, .int (nI pos))]) d_Mo_takeScalar_19 (by decide) rfl rfl rfl ?_
  refine ST.lift (fun _ _ k => T_goto (tgt := 2) d_Mo_takeScalar_22 rfl k) ?_
  refine ST.lift (fun _ _ k => T_iload_n d_Mo_takeScalar_2 rfl k) ?_
  refine ST.lift (fun _ _ k => T_bipush (v := nI 16) d_Mo_takeScalar_3 (by decide) k) ?_
  refine S_icmp_geN d_Mo_takeScalar_5 rfl (by omega) (by omega) (fun c => by first | exact absurd c (by omega) | exact c.elim | exact absurd c (by decide) | exact absurd (by assumption) c | exact absurd c (by assumption)) (fun _ => ?_)
  refine ST.lift (fun _ _ k => T_aload_n (v := .ref 373) d_Mo_takeScalar_8 rfl (Or.inr ⟨_, rfl⟩) k) ?_
  refine S_getfield d_Mo_takeScalar_9 fg_Mo_194 (w373 _) rfl ?_
  refine ST.lift (fun _ _ k => T_iload_n d_Mo_takeScalar_12 rfl k) ?_
  refine ST.lift (fun _ _ k => T_aload_n (v := .ref src) d_Mo_takeScalar_13 rfl (Or.inr ⟨_, rfl⟩) k) ?_
  refine ST.lift (fun _ _ k => T_iload_n d_Mo_takeScalar_14 rfl k) ?_
  refine ST.lift (fun _ _ k => T_iload_n d_Mo_takeScalar_15 rfl k) ?_
  refine S_iaddN d_Mo_takeScalar_16 ?_
  refine S_laload d_Mo_takeScalar_17 a_src (vp_in_nI (by omega) (by omega)) (fun z14 => ?_)
  refine S_lastore d_Mo_takeScalar_18 (by decide) a395 (vp_in_nI (by omega) (by omega)) ?_
  refine S_iincN (a := 13) (b := 1) (L' := [(3, .int (nI 14)), (0, .ref 373), (1, .ref src), (2, .int (nI pos))]) d_Mo_takeScalar_19 (by decide) rfl rfl rfl ?_
  refine ST.lift (fun _ _ k => T_goto (tgt := 2) d_Mo_takeScalar_22 rfl k) ?_
  refine ST.lift (fun _ _ k => T_iload_n d_Mo_takeScalar_2 rfl k) ?_
  refine ST.lift (fun _ _ k => T_bipush (v := nI 16) d_Mo_takeScalar_3 (by decide) k) ?_
  refine S_icmp_geN d_Mo_takeScalar_5 rfl (by omega) (by omega) (fun c => by first | exact absurd c (by omega) | exact c.elim | exact absurd c (by decide) | exact absurd (by assumption) c | exact absurd c (by assumption)) (fun _ => ?_)
  refine ST.lift (fun _ _ k => T_aload_n (v := .ref 373) d_Mo_takeScalar_8 rfl (Or.inr ⟨_, rfl⟩) k) ?_
  refine S_getfield d_Mo_takeScalar_9 fg_Mo_194 (w373 _) rfl ?_
  refine ST.lift (fun _ _ k => T_iload_n d_Mo_takeScalar_12 rfl k) ?_
  refine ST.lift (fun _ _ k => T_aload_n (v := .ref src) d_Mo_takeScalar_13 rfl (Or.inr ⟨_, rfl⟩) k) ?_
  refine ST.lift (fun _ _ k => T_iload_n d_Mo_takeScalar_14 rfl k) ?_
  refine ST.lift (fun _ _ k => T_iload_n d_Mo_takeScalar_15 rfl k) ?_
  refine S_iaddN d_Mo_takeScalar_16 ?_
  refine S_laload d_Mo_takeScalar_17 a_src (vp_in_nI (by omega) (by omega)) (fun z15 => ?_)
  refine S_lastore d_Mo_takeScalar_18 (by decide) a395 (vp_in_nI (by omega) (by omega)) ?_
  refine S_iincN (a := 14) (b := 1) (L' := [(3, .int (nI 15)), (0, .ref 373), (1, .ref src), (2, .int (nI pos))]) d_Mo_takeScalar_19 (by decide) rfl rfl rfl ?_
  refine ST.lift (fun _ _ k => T_goto (tgt := 2) d_Mo_takeScalar_22 rfl k) ?_
  refine ST.lift (fun _ _ k => T_iload_n d_Mo_takeScalar_2 rfl k) ?_
  refine ST.lift (fun _ _ k => T_bipush (v := nI 16) d_Mo_takeScalar_3 (by decide) k) ?_
  refine S_icmp_geN d_Mo_takeScalar_5 rfl (by omega) (by omega) (fun c => by first | exact absurd c (by omega) | exact c.elim | exact absurd c (by decide) | exact absurd (by assumption) c | exact absurd c (by assumption)) (fun _ => ?_)
  refine ST.lift (fun _ _ k => T_aload_n (v := .ref 373) d_Mo_takeScalar_8 rfl (Or.inr ⟨_, rfl⟩) k) ?_
  refine S_getfield d_Mo_takeScalar_9 fg_Mo_194 (w373 _) rfl ?_
  refine ST.lift (fun _ _ k => T_iload_n d_Mo_takeScalar_12 rfl k) ?_
  refine ST.lift (fun _ _ k => T_aload_n (v := .ref src) d_Mo_takeScalar_13 rfl (Or.inr ⟨_, rfl⟩) k) ?_
  refine ST.lift (fun _ _ k => T_iload_n d_Mo_takeScalar_14 rfl k) ?_
  refine ST.lift (fun _ _ k => T_iload_n d_Mo_takeScalar_15 rfl k) ?_
  refine S_iaddN d_Mo_takeScalar_16 ?_
  refine S_laload d_Mo_takeScalar_17 a_src (vp_in_nI (by omega) (by omega)) (fun z16 => ?_)
  refine S_lastore d_Mo_takeScalar_18 (by decide) a395 (vp_in_nI (by omega) (by omega)) ?_
  refine S_iincN (a := 15) (b := 1) (L' := [(3, .int (nI 16)), (0, .ref 373), (1, .ref src), (2, .int (nI pos))]) d_Mo_takeScalar_19 (by decide) rfl rfl rfl ?_
  refine ST.lift (fun _ _ k => T_goto (tgt := 2) d_Mo_takeScalar_22 rfl k) ?_
  refine ST.lift (fun _ _ k => T_iload_n d_Mo_takeScalar_2 rfl k) ?_
  refine ST.lift (fun _ _ k => T_bipush (v := nI 16) d_Mo_takeScalar_3 (by decide) k) ?_
  refine S_icmp_geN d_Mo_takeScalar_5 rfl (by omega) (by omega) (fun _ => ?_) (fun c => by first | exact absurd c (by omega) | exact c.elim | exact absurd c (by decide) | exact absurd (by assumption) c | exact absurd c (by assumption))
  exact S_vret d_Mo_takeScalar_25 rfl (by decide) (by decide) hQ
set_option maxRecDepth 100000 in
set_option maxHeartbeats 4000000 in
theorem c_Mo_publicTo (G : GX) (v : Nat → Int32) (to m : Nat) (w_to : K0 ≤ to) (a_to : aI to m) (l_to : m ≤ 4000) (pos : Nat) (b_pos : pos + 32 ≤ m) : CS G mi_Mo_publicTo [.ref 373, .ref to, .int (nI pos)] v (fun r v' => r = none ∧ v' = v) := by
  refine CS.of (by decide) (Nat.le_of_ble_eq_true rfl) ?_
  generalize hQe : (fun (r : Option Value) (v' : Nat → Int32) => r = none ∧ v' = v) = Q
  have hQ : Q none v := by rw [← hQe]; exact ⟨rfl, rfl⟩
  clear hQe
  show ST G mi_Mo_publicTo 0 [(0, .ref 373), (1, .ref to), (2, .int (nI pos))] [] v 0 0 Q
  refine ST.lift (fun _ _ k => T_aload_n (v := .ref 373) d_Mo_publicTo_0 rfl (Or.inr ⟨_, rfl⟩) k) ?_
  refine ST.lift (fun _ _ k => T_bipush (v := nI 16) d_Mo_publicTo_1 (by decide) k) ?_
  refine ST.lift (fun _ _ k => T_bipush (v := nI 8) d_Mo_publicTo_3 (by decide) k) ?_
  refine S_virtual (as := [.int (nI 16), .int (nI 8)]) (rest := []) (b := 373) d_Mo_publicTo_5 rfl (jw_Mo_timesPoint.jo (by decide)) lm_Mo_290 ji_Mo_timesPoint js_Mo_timesPoint (w373 _) rfl rfl rfl (Nat.le_of_ble_eq_true rfl) (by decide) (by decide) (c_Mo_timesPoint G v 16 (by omega) 8 (by omega)) (fun r v' hq => ?_)
  rw [hq.1, hq.2]
  clear hq r v'
  show ST G mi_Mo_publicTo 8 [(0, .ref 373), (1, .ref to), (2, .int (nI pos))] [] v 0 0 _
  refine ST.lift (fun _ _ k => T_aload_n (v := .ref 373) d_Mo_publicTo_8 rfl (Or.inr ⟨_, rfl⟩) k) ?_
  refine ST.lift (fun _ _ k => T_bipush (v := nI 16) d_Mo_publicTo_9 (by decide) k) ?_
  refine S_virtual (as := [.int (nI 16)]) (rest := []) (b := 373) d_Mo_publicTo_11 rfl (jw_Mo_code.jo (by decide)) lm_Mo_293 ji_Mo_code js_Mo_code (w373 _) rfl rfl rfl (Nat.le_of_ble_eq_true rfl) (by decide) (by decide) (c_Mo_code G v 16 (by omega)) (fun r v' hq => ?_)
  rw [hq.1, hq.2]
  clear hq r v'
  show ST G mi_Mo_publicTo 14 [(0, .ref 373), (1, .ref to), (2, .int (nI pos))] [] v 0 0 _
  refine ST.lift (fun _ _ k => T_iconst (v := nI 0) d_Mo_publicTo_14 (by decide) k) ?_
  refine ST.lift (fun _ _ k => T_istore_n (L' := [(3, .int (nI 0)), (0, .ref 373), (1, .ref to), (2, .int (nI pos))]) d_Mo_publicTo_15 (by decide) rfl k) ?_
  have lp4 : ∀ (n2 k1 : Nat), 32 - k1 = n2 → 0 ≤ k1 ∧ k1 ≤ 0 + 32 → ST G mi_Mo_publicTo 16 [(3, .int (nI k1)), (0, .ref 373), (1, .ref to), (2, .int (nI pos))] [] v 0 0 Q := by
    intro n2
    induction n2 using Nat.strongRecOn with
    | _ n2 ih3 =>
      intro k1 h5 h6
      refine ST.lift (fun _ _ k => T_iload_n d_Mo_publicTo_16 rfl k) ?_
      refine ST.lift (fun _ _ k => T_bipush (v := nI 32) d_Mo_publicTo_17 (by decide) k) ?_
      refine S_icmp_geN d_Mo_publicTo_19 rfl (by omega) (by omega) (fun c7 => ?_) (fun c7 => ?_)
      · exact S_vret d_Mo_publicTo_39 rfl (by decide) (by decide) hQ
      · refine ST.lift (fun _ _ k => T_aload_n (v := .ref to) d_Mo_publicTo_22 rfl (Or.inr ⟨_, rfl⟩) k) ?_
        refine ST.lift (fun _ _ k => T_iload_n d_Mo_publicTo_23 rfl k) ?_
        refine ST.lift (fun _ _ k => T_iload_n d_Mo_publicTo_24 rfl k) ?_
        refine S_iaddN d_Mo_publicTo_25 ?_
        refine ST.lift (fun _ _ k => T_aload_n (v := .ref 373) d_Mo_publicTo_26 rfl (Or.inr ⟨_, rfl⟩) k) ?_
        refine S_getfield d_Mo_publicTo_27 fg_Mo_146 (w373 _) rfl ?_
        refine ST.lift (fun _ _ k => T_iload_n d_Mo_publicTo_30 rfl k) ?_
        refine S_iaload d_Mo_publicTo_31 a394 (vp_in_nI (by omega) (by omega)) (fun z8 => ?_)
        refine S_iastore d_Mo_publicTo_32 w_to a_to (vp_in_nI (by omega) (by omega)) ?_
        refine S_iincN (a := k1) (b := 1) (L' := [(3, .int (nI (k1 + 1))), (0, .ref 373), (1, .ref to), (2, .int (nI pos))]) d_Mo_publicTo_33 (by decide) rfl rfl rfl ?_
        refine ST.lift (fun _ _ k => T_goto (tgt := 16) d_Mo_publicTo_36 rfl k) ?_
        exact ih3 (32 - (k1 + 1)) (by omega) (k1 + 1)  rfl (by omega)
  exact lp4 _ 0  rfl (by omega)

theorem tab_86 : ∀ i, i < 16 → ∃ p x y z t, ([some 103, some 108, some 113, some 118, some 123, some 128, some 133, some 138, some 143, some 148, some 153, some 158, some 163, some 168, some 173, some 178].getD i none : Option Nat) = some p ∧ isPt p x y z t := by
  intro i hi
  have h : i = 0 ∨ i = 1 ∨ i = 2 ∨ i = 3 ∨ i = 4 ∨ i = 5 ∨ i = 6 ∨ i = 7 ∨ i = 8 ∨ i = 9 ∨ i = 10 ∨ i = 11 ∨ i = 12 ∨ i = 13 ∨ i = 14 ∨ i = 15 := by omega
  rcases h with rfl | rfl | rfl | rfl | rfl | rfl | rfl | rfl | rfl | rfl | rfl | rfl | rfl | rfl | rfl | rfl
  · exact ⟨103, 104, 105, 106, 107, rfl, w103, a104, a105, a106, a107, by decide, by decide, by decide, by decide⟩
  · exact ⟨108, 109, 110, 111, 112, rfl, w108, a109, a110, a111, a112, by decide, by decide, by decide, by decide⟩
  · exact ⟨113, 114, 115, 116, 117, rfl, w113, a114, a115, a116, a117, by decide, by decide, by decide, by decide⟩
  · exact ⟨118, 119, 120, 121, 122, rfl, w118, a119, a120, a121, a122, by decide, by decide, by decide, by decide⟩
  · exact ⟨123, 124, 125, 126, 127, rfl, w123, a124, a125, a126, a127, by decide, by decide, by decide, by decide⟩
  · exact ⟨128, 129, 130, 131, 132, rfl, w128, a129, a130, a131, a132, by decide, by decide, by decide, by decide⟩
  · exact ⟨133, 134, 135, 136, 137, rfl, w133, a134, a135, a136, a137, by decide, by decide, by decide, by decide⟩
  · exact ⟨138, 139, 140, 141, 142, rfl, w138, a139, a140, a141, a142, by decide, by decide, by decide, by decide⟩
  · exact ⟨143, 144, 145, 146, 147, rfl, w143, a144, a145, a146, a147, by decide, by decide, by decide, by decide⟩
  · exact ⟨148, 149, 150, 151, 152, rfl, w148, a149, a150, a151, a152, by decide, by decide, by decide, by decide⟩
  · exact ⟨153, 154, 155, 156, 157, rfl, w153, a154, a155, a156, a157, by decide, by decide, by decide, by decide⟩
  · exact ⟨158, 159, 160, 161, 162, rfl, w158, a159, a160, a161, a162, by decide, by decide, by decide, by decide⟩
  · exact ⟨163, 164, 165, 166, 167, rfl, w163, a164, a165, a166, a167, by decide, by decide, by decide, by decide⟩
  · exact ⟨168, 169, 170, 171, 172, rfl, w168, a169, a170, a171, a172, by decide, by decide, by decide, by decide⟩
  · exact ⟨173, 174, 175, 176, 177, rfl, w173, a174, a175, a176, a177, by decide, by decide, by decide, by decide⟩
  · exact ⟨178, 179, 180, 181, 182, rfl, w178, a179, a180, a181, a182, by decide, by decide, by decide, by decide⟩
set_option maxRecDepth 100000 in
set_option maxHeartbeats 4000000 in
theorem c_Cu_add (G : GX) (v : Nat → Int32) (o ox oy oz ot : Nat) (p_o : isPt o ox oy oz ot) (p px py pz pt : Nat) (p_p : isPt p px py pz pt) (q qx qy qz qt : Nat) (p_q : isPt q qx qy qz qt) : CS G mi_Cu_add [.ref 77, .ref o, .ref p, .ref q] v (fun r v' => r = none ∧ v' = v) := by
  refine CS.of (by decide) (Nat.le_of_ble_eq_true rfl) ?_
  generalize hQe : (fun (r : Option Value) (v' : Nat → Int32) => r = none ∧ v' = v) = Q
  have hQ : Q none v := by rw [← hQe]; exact ⟨rfl, rfl⟩
  clear hQe
  show ST G mi_Cu_add 0 [(0, .ref 77), (1, .ref o), (2, .ref p), (3, .ref q)] [] v 0 0 Q
  refine ST.lift (fun _ _ k => T_aload_n (v := .ref 77) d_Cu_add_0 rfl (Or.inr ⟨_, rfl⟩) k) ?_
  refine S_getfield d_Cu_add_1 fg_Cu_36 (w77 _) rfl ?_
  refine ST.lift (fun _ _ k => T_aload_n (v := .ref p) d_Cu_add_4 rfl (Or.inr ⟨_, rfl⟩) k) ?_
  refine S_getfield d_Cu_add_5 fg_Cu_64 (p_p.1 _) rfl ?_
  refine ST.lift (fun _ _ k => T_aload_n (v := .ref p) d_Cu_add_8 rfl (Or.inr ⟨_, rfl⟩) k) ?_
  refine S_getfield d_Cu_add_9 fg_Cu_67 (p_p.1 _) rfl ?_
  refine S_static (as := [.ref 94, .ref py, .ref px]) (rest := []) d_Cu_add_12 rfl (jw_Fi_subtract.jo (by decide)) lm_Cu_70 jt_Fi_subtract rfl (Nat.le_of_ble_eq_true rfl) (by decide) (by decide) (c_Fi_subtract G v 94 (by decide) a94 py p_p.2.2.1 px p_p.2.1) (fun r v' hq => ?_)
  rw [hq.1, hq.2]
  clear hq r v'
  show ST G mi_Cu_add 15 [(0, .ref 77), (1, .ref o), (2, .ref p), (3, .ref q)] [] v 0 0 _
  refine ST.lift (fun _ _ k => T_aload_n (v := .ref 77) d_Cu_add_15 rfl (Or.inr ⟨_, rfl⟩) k) ?_
  refine S_getfield d_Cu_add_16 fg_Cu_40 (w77 _) rfl ?_
  refine ST.lift (fun _ _ k => T_aload_n (v := .ref q) d_Cu_add_19 rfl (Or.inr ⟨_, rfl⟩) k) ?_
  refine S_getfield d_Cu_add_20 fg_Cu_64 (p_q.1 _) rfl ?_
  refine ST.lift (fun _ _ k => T_aload_n (v := .ref q) d_Cu_add_23 rfl (Or.inr ⟨_, rfl⟩) k) ?_
  refine S_getfield d_Cu_add_24 fg_Cu_67 (p_q.1 _) rfl ?_
  refine S_static (as := [.ref 95, .ref qy, .ref qx]) (rest := []) d_Cu_add_27 rfl (jw_Fi_subtract.jo (by decide)) lm_Cu_70 jt_Fi_subtract rfl (Nat.le_of_ble_eq_true rfl) (by decide) (by decide) (c_Fi_subtract G v 95 (by decide) a95 qy p_q.2.2.1 qx p_q.2.1) (fun r v' hq => ?_)
  rw [hq.1, hq.2]
  clear hq r v'
  show ST G mi_Cu_add 30 [(0, .ref 77), (1, .ref o), (2, .ref p), (3, .ref q)] [] v 0 0 _
  refine ST.lift (fun _ _ k => T_aload_n (v := .ref 77) d_Cu_add_30 rfl (Or.inr ⟨_, rfl⟩) k) ?_
  refine S_getfield d_Cu_add_31 fg_Cu_36 (w77 _) rfl ?_
  refine ST.lift (fun _ _ k => T_aload_n (v := .ref 77) d_Cu_add_34 rfl (Or.inr ⟨_, rfl⟩) k) ?_
  refine S_getfield d_Cu_add_35 fg_Cu_36 (w77 _) rfl ?_
  refine ST.lift (fun _ _ k => T_aload_n (v := .ref 77) d_Cu_add_38 rfl (Or.inr ⟨_, rfl⟩) k) ?_
  refine S_getfield d_Cu_add_39 fg_Cu_40 (w77 _) rfl ?_
  refine S_static (as := [.ref 94, .ref 94, .ref 95]) (rest := []) d_Cu_add_42 rfl (jw_Fi_multiply.jo (by decide)) lm_Cu_74 jt_Fi_multiply rfl (Nat.le_of_ble_eq_true rfl) (by decide) (by decide) (c_Fi_multiply G v 94 (by decide) a94 94 a94 95 a95) (fun r v' hq => ?_)
  rw [hq.1, hq.2]
  clear hq r v'
  show ST G mi_Cu_add 45 [(0, .ref 77), (1, .ref o), (2, .ref p), (3, .ref q)] [] v 0 0 _
  refine ST.lift (fun _ _ k => T_aload_n (v := .ref 77) d_Cu_add_45 rfl (Or.inr ⟨_, rfl⟩) k) ?_
  refine S_getfield d_Cu_add_46 fg_Cu_40 (w77 _) rfl ?_
  refine ST.lift (fun _ _ k => T_aload_n (v := .ref p) d_Cu_add_49 rfl (Or.inr ⟨_, rfl⟩) k) ?_
  refine S_getfield d_Cu_add_50 fg_Cu_64 (p_p.1 _) rfl ?_
  refine ST.lift (fun _ _ k => T_aload_n (v := .ref p) d_Cu_add_53 rfl (Or.inr ⟨_, rfl⟩) k) ?_
  refine S_getfield d_Cu_add_54 fg_Cu_67 (p_p.1 _) rfl ?_
  refine S_static (as := [.ref 95, .ref py, .ref px]) (rest := []) d_Cu_add_57 rfl (jw_Fi_add.jo (by decide)) lm_Cu_77 jt_Fi_add rfl (Nat.le_of_ble_eq_true rfl) (by decide) (by decide) (c_Fi_add G v 95 (by decide) a95 py p_p.2.2.1 px p_p.2.1) (fun r v' hq => ?_)
  rw [hq.1, hq.2]
  clear hq r v'
  show ST G mi_Cu_add 60 [(0, .ref 77), (1, .ref o), (2, .ref p), (3, .ref q)] [] v 0 0 _
  refine ST.lift (fun _ _ k => T_aload_n (v := .ref 77) d_Cu_add_60 rfl (Or.inr ⟨_, rfl⟩) k) ?_
  refine S_getfield d_Cu_add_61 fg_Cu_43 (w77 _) rfl ?_
  refine ST.lift (fun _ _ k => T_aload_n (v := .ref q) d_Cu_add_64 rfl (Or.inr ⟨_, rfl⟩) k) ?_
  refine S_getfield d_Cu_add_65 fg_Cu_64 (p_q.1 _) rfl ?_
  refine ST.lift (fun _ _ k => T_aload_n (v := .ref q) d_Cu_add_68 rfl (Or.inr ⟨_, rfl⟩) k) ?_
  refine S_getfield d_Cu_add_69 fg_Cu_67 (p_q.1 _) rfl ?_
  refine S_static (as := [.ref 96, .ref qy, .ref qx]) (rest := []) d_Cu_add_72 rfl (jw_Fi_add.jo (by decide)) lm_Cu_77 jt_Fi_add rfl (Nat.le_of_ble_eq_true rfl) (by decide) (by decide) (c_Fi_add G v 96 (by decide) a96 qy p_q.2.2.1 qx p_q.2.1) (fun r v' hq => ?_)
  rw [hq.1, hq.2]
  clear hq r v'
  show ST G mi_Cu_add 75 [(0, .ref 77), (1, .ref o), (2, .ref p), (3, .ref q)] [] v 0 0 _
  refine ST.lift (fun _ _ k => T_aload_n (v := .ref 77) d_Cu_add_75 rfl (Or.inr ⟨_, rfl⟩) k) ?_
  refine S_getfield d_Cu_add_76 fg_Cu_40 (w77 _) rfl ?_
  refine ST.lift (fun _ _ k => T_aload_n (v := .ref 77) d_Cu_add_79 rfl (Or.inr ⟨_, rfl⟩) k) ?_
  refine S_getfield d_Cu_add_80 fg_Cu_40 (w77 _) rfl ?_
  refine ST.lift (fun _ _ k => T_aload_n (v := .ref 77) d_Cu_add_83 rfl (Or.inr ⟨_, rfl⟩) k) ?_
  refine S_getfield d_Cu_add_84 fg_Cu_43 (w77 _) rfl ?_
  refine S_static (as := [.ref 95, .ref 95, .ref 96]) (rest := []) d_Cu_add_87 rfl (jw_Fi_multiply.jo (by decide)) lm_Cu_74 jt_Fi_multiply rfl (Nat.le_of_ble_eq_true rfl) (by decide) (by decide) (c_Fi_multiply G v 95 (by decide) a95 95 a95 96 a96) (fun r v' hq => ?_)
  rw [hq.1, hq.2]
  clear hq r v'
  show ST G mi_Cu_add 90 [(0, .ref 77), (1, .ref o), (2, .ref p), (3, .ref q)] [] v 0 0 _
  refine ST.lift (fun _ _ k => T_aload_n (v := .ref 77) d_Cu_add_90 rfl (Or.inr ⟨_, rfl⟩) k) ?_
  refine S_getfield d_Cu_add_91 fg_Cu_43 (w77 _) rfl ?_
  refine ST.lift (fun _ _ k => T_aload_n (v := .ref p) d_Cu_add_94 rfl (Or.inr ⟨_, rfl⟩) k) ?_
  refine S_getfield d_Cu_add_95 fg_Cu_80 (p_p.1 _) rfl ?_
  refine ST.lift (fun _ _ k => T_aload_n (v := .ref q) d_Cu_add_98 rfl (Or.inr ⟨_, rfl⟩) k) ?_
  refine S_getfield d_Cu_add_99 fg_Cu_80 (p_q.1 _) rfl ?_
  refine S_static (as := [.ref 96, .ref pt, .ref qt]) (rest := []) d_Cu_add_102 rfl (jw_Fi_multiply.jo (by decide)) lm_Cu_74 jt_Fi_multiply rfl (Nat.le_of_ble_eq_true rfl) (by decide) (by decide) (c_Fi_multiply G v 96 (by decide) a96 pt p_p.2.2.2.2.1 qt p_q.2.2.2.2.1) (fun r v' hq => ?_)
  rw [hq.1, hq.2]
  clear hq r v'
  show ST G mi_Cu_add 105 [(0, .ref 77), (1, .ref o), (2, .ref p), (3, .ref q)] [] v 0 0 _
  refine ST.lift (fun _ _ k => T_aload_n (v := .ref 77) d_Cu_add_105 rfl (Or.inr ⟨_, rfl⟩) k) ?_
  refine S_getfield d_Cu_add_106 fg_Cu_43 (w77 _) rfl ?_
  refine ST.lift (fun _ _ k => T_aload_n (v := .ref 77) d_Cu_add_109 rfl (Or.inr ⟨_, rfl⟩) k) ?_
  refine S_getfield d_Cu_add_110 fg_Cu_43 (w77 _) rfl ?_
  refine ST.lift (fun _ _ k => T_getstatic (q := ("PasswordGate$Curve", "TWICE_D", "[J", .ref 8)) d_Cu_add_113 (List.mem_of_getElem? (i := 8) rfl) gs_Cu_83 (show 8 < K0 by decide) k) ?_
  refine S_static (as := [.ref 96, .ref 96, .ref 8]) (rest := []) d_Cu_add_116 rfl (jw_Fi_multiply.jo (by decide)) lm_Cu_74 jt_Fi_multiply rfl (Nat.le_of_ble_eq_true rfl) (by decide) (by decide) (c_Fi_multiply G v 96 (by decide) a96 96 a96 8 a8) (fun r v' hq => ?_)
  rw [hq.1, hq.2]
  clear hq r v'
  show ST G mi_Cu_add 119 [(0, .ref 77), (1, .ref o), (2, .ref p), (3, .ref q)] [] v 0 0 _
  refine ST.lift (fun _ _ k => T_aload_n (v := .ref 77) d_Cu_add_119 rfl (Or.inr ⟨_, rfl⟩) k) ?_
  refine S_getfield d_Cu_add_120 fg_Cu_61 (w77 _) rfl ?_
  refine ST.lift (fun _ _ k => T_aload_n (v := .ref p) d_Cu_add_123 rfl (Or.inr ⟨_, rfl⟩) k) ?_
  refine S_getfield d_Cu_add_124 fg_Cu_86 (p_p.1 _) rfl ?_
  refine ST.lift (fun _ _ k => T_aload_n (v := .ref q) d_Cu_add_127 rfl (Or.inr ⟨_, rfl⟩) k) ?_
  refine S_getfield d_Cu_add_128 fg_Cu_86 (p_q.1 _) rfl ?_
  refine S_static (as := [.ref 102, .ref pz, .ref qz]) (rest := []) d_Cu_add_131 rfl (jw_Fi_multiply.jo (by decide)) lm_Cu_74 jt_Fi_multiply rfl (Nat.le_of_ble_eq_true rfl) (by decide) (by decide) (c_Fi_multiply G v 102 (by decide) a102 pz p_p.2.2.2.1 qz p_q.2.2.2.1) (fun r v' hq => ?_)
  rw [hq.1, hq.2]
  clear hq r v'
  show ST G mi_Cu_add 134 [(0, .ref 77), (1, .ref o), (2, .ref p), (3, .ref q)] [] v 0 0 _
  refine ST.lift (fun _ _ k => T_aload_n (v := .ref 77) d_Cu_add_134 rfl (Or.inr ⟨_, rfl⟩) k) ?_
  refine S_getfield d_Cu_add_135 fg_Cu_61 (w77 _) rfl ?_
  refine ST.lift (fun _ _ k => T_aload_n (v := .ref 77) d_Cu_add_138 rfl (Or.inr ⟨_, rfl⟩) k) ?_
  refine S_getfield d_Cu_add_139 fg_Cu_61 (w77 _) rfl ?_
  refine ST.lift (fun _ _ k => T_aload_n (v := .ref 77) d_Cu_add_142 rfl (Or.inr ⟨_, rfl⟩) k) ?_
  refine S_getfield d_Cu_add_143 fg_Cu_61 (w77 _) rfl ?_
  refine S_static (as := [.ref 102, .ref 102, .ref 102]) (rest := []) d_Cu_add_146 rfl (jw_Fi_add.jo (by decide)) lm_Cu_77 jt_Fi_add rfl (Nat.le_of_ble_eq_true rfl) (by decide) (by decide) (c_Fi_add G v 102 (by decide) a102 102 a102 102 a102) (fun r v' hq => ?_)
  rw [hq.1, hq.2]
  clear hq r v'
  show ST G mi_Cu_add 149 [(0, .ref 77), (1, .ref o), (2, .ref p), (3, .ref q)] [] v 0 0 _
  refine ST.lift (fun _ _ k => T_aload_n (v := .ref 77) d_Cu_add_149 rfl (Or.inr ⟨_, rfl⟩) k) ?_
  refine S_getfield d_Cu_add_150 fg_Cu_46 (w77 _) rfl ?_
  refine ST.lift (fun _ _ k => T_aload_n (v := .ref 77) d_Cu_add_153 rfl (Or.inr ⟨_, rfl⟩) k) ?_
  refine S_getfield d_Cu_add_154 fg_Cu_40 (w77 _) rfl ?_
  refine ST.lift (fun _ _ k => T_aload_n (v := .ref 77) d_Cu_add_157 rfl (Or.inr ⟨_, rfl⟩) k) ?_
  refine S_getfield d_Cu_add_158 fg_Cu_36 (w77 _) rfl ?_
  refine S_static (as := [.ref 97, .ref 95, .ref 94]) (rest := []) d_Cu_add_161 rfl (jw_Fi_subtract.jo (by decide)) lm_Cu_70 jt_Fi_subtract rfl (Nat.le_of_ble_eq_true rfl) (by decide) (by decide) (c_Fi_subtract G v 97 (by decide) a97 95 a95 94 a94) (fun r v' hq => ?_)
  rw [hq.1, hq.2]
  clear hq r v'
  show ST G mi_Cu_add 164 [(0, .ref 77), (1, .ref o), (2, .ref p), (3, .ref q)] [] v 0 0 _
  refine ST.lift (fun _ _ k => T_aload_n (v := .ref 77) d_Cu_add_164 rfl (Or.inr ⟨_, rfl⟩) k) ?_
  refine S_getfield d_Cu_add_165 fg_Cu_49 (w77 _) rfl ?_
  refine ST.lift (fun _ _ k => T_aload_n (v := .ref 77) d_Cu_add_168 rfl (Or.inr ⟨_, rfl⟩) k) ?_
  refine S_getfield d_Cu_add_169 fg_Cu_61 (w77 _) rfl ?_
  refine ST.lift (fun _ _ k => T_aload_n (v := .ref 77) d_Cu_add_172 rfl (Or.inr ⟨_, rfl⟩) k) ?_
  refine S_getfield d_Cu_add_173 fg_Cu_43 (w77 _) rfl ?_
  refine S_static (as := [.ref 98, .ref 102, .ref 96]) (rest := []) d_Cu_add_176 rfl (jw_Fi_subtract.jo (by decide)) lm_Cu_70 jt_Fi_subtract rfl (Nat.le_of_ble_eq_true rfl) (by decide) (by decide) (c_Fi_subtract G v 98 (by decide) a98 102 a102 96 a96) (fun r v' hq => ?_)
  rw [hq.1, hq.2]
  clear hq r v'
  show ST G mi_Cu_add 179 [(0, .ref 77), (1, .ref o), (2, .ref p), (3, .ref q)] [] v 0 0 _
  refine ST.lift (fun _ _ k => T_aload_n (v := .ref 77) d_Cu_add_179 rfl (Or.inr ⟨_, rfl⟩) k) ?_
  refine S_getfield d_Cu_add_180 fg_Cu_52 (w77 _) rfl ?_
  refine ST.lift (fun _ _ k => T_aload_n (v := .ref 77) d_Cu_add_183 rfl (Or.inr ⟨_, rfl⟩) k) ?_
  refine S_getfield d_Cu_add_184 fg_Cu_61 (w77 _) rfl ?_
  refine ST.lift (fun _ _ k => T_aload_n (v := .ref 77) d_Cu_add_187 rfl (Or.inr ⟨_, rfl⟩) k) ?_
  refine S_getfield d_Cu_add_188 fg_Cu_43 (w77 _) rfl ?_
  refine S_static (as := [.ref 99, .ref 102, .ref 96]) (rest := []) d_Cu_add_191 rfl (jw_Fi_add.jo (by decide)) lm_Cu_77 jt_Fi_add rfl (Nat.le_of_ble_eq_true rfl) (by decide) (by decide) (c_Fi_add G v 99 (by decide) a99 102 a102 96 a96) (fun r v' hq => ?_)
  rw [hq.1, hq.2]
  clear hq r v'
  show ST G mi_Cu_add 194 [(0, .ref 77), (1, .ref o), (2, .ref p), (3, .ref q)] [] v 0 0 _
  refine ST.lift (fun _ _ k => T_aload_n (v := .ref 77) d_Cu_add_194 rfl (Or.inr ⟨_, rfl⟩) k) ?_
  refine S_getfield d_Cu_add_195 fg_Cu_55 (w77 _) rfl ?_
  refine ST.lift (fun _ _ k => T_aload_n (v := .ref 77) d_Cu_add_198 rfl (Or.inr ⟨_, rfl⟩) k) ?_
  refine S_getfield d_Cu_add_199 fg_Cu_40 (w77 _) rfl ?_
  refine ST.lift (fun _ _ k => T_aload_n (v := .ref 77) d_Cu_add_202 rfl (Or.inr ⟨_, rfl⟩) k) ?_
  refine S_getfield d_Cu_add_203 fg_Cu_36 (w77 _) rfl ?_
  refine S_static (as := [.ref 100, .ref 95, .ref 94]) (rest := []) d_Cu_add_206 rfl (jw_Fi_add.jo (by decide)) lm_Cu_77 jt_Fi_add rfl (Nat.le_of_ble_eq_true rfl) (by decide) (by decide) (c_Fi_add G v 100 (by decide) a100 95 a95 94 a94) (fun r v' hq => ?_)
  rw [hq.1, hq.2]
  clear hq r v'
  show ST G mi_Cu_add 209 [(0, .ref 77), (1, .ref o), (2, .ref p), (3, .ref q)] [] v 0 0 _
  refine ST.lift (fun _ _ k => T_aload_n (v := .ref o) d_Cu_add_209 rfl (Or.inr ⟨_, rfl⟩) k) ?_
  refine S_getfield d_Cu_add_210 fg_Cu_67 (p_o.1 _) rfl ?_
  refine ST.lift (fun _ _ k => T_aload_n (v := .ref 77) d_Cu_add_213 rfl (Or.inr ⟨_, rfl⟩) k) ?_
  refine S_getfield d_Cu_add_214 fg_Cu_46 (w77 _) rfl ?_
  refine ST.lift (fun _ _ k => T_aload_n (v := .ref 77) d_Cu_add_217 rfl (Or.inr ⟨_, rfl⟩) k) ?_
  refine S_getfield d_Cu_add_218 fg_Cu_49 (w77 _) rfl ?_
  refine S_static (as := [.ref ox, .ref 97, .ref 98]) (rest := []) d_Cu_add_221 rfl (jw_Fi_multiply.jo (by decide)) lm_Cu_74 jt_Fi_multiply rfl (Nat.le_of_ble_eq_true rfl) (by decide) (by decide) (c_Fi_multiply G v ox p_o.2.2.2.2.2.1 p_o.2.1 97 a97 98 a98) (fun r v' hq => ?_)
  rw [hq.1, hq.2]
  clear hq r v'
  show ST G mi_Cu_add 224 [(0, .ref 77), (1, .ref o), (2, .ref p), (3, .ref q)] [] v 0 0 _
  refine ST.lift (fun _ _ k => T_aload_n (v := .ref o) d_Cu_add_224 rfl (Or.inr ⟨_, rfl⟩) k) ?_
  refine S_getfield d_Cu_add_225 fg_Cu_64 (p_o.1 _) rfl ?_
  refine ST.lift (fun _ _ k => T_aload_n (v := .ref 77) d_Cu_add_228 rfl (Or.inr ⟨_, rfl⟩) k) ?_
  refine S_getfield d_Cu_add_229 fg_Cu_52 (w77 _) rfl ?_
  refine ST.lift (fun _ _ k => T_aload_n (v := .ref 77) d_Cu_add_232 rfl (Or.inr ⟨_, rfl⟩) k) ?_
  refine S_getfield d_Cu_add_233 fg_Cu_55 (w77 _) rfl ?_
  refine S_static (as := [.ref oy, .ref 99, .ref 100]) (rest := []) d_Cu_add_236 rfl (jw_Fi_multiply.jo (by decide)) lm_Cu_74 jt_Fi_multiply rfl (Nat.le_of_ble_eq_true rfl) (by decide) (by decide) (c_Fi_multiply G v oy p_o.2.2.2.2.2.2.1 p_o.2.2.1 99 a99 100 a100) (fun r v' hq => ?_)
  rw [hq.1, hq.2]
  clear hq r v'
  show ST G mi_Cu_add 239 [(0, .ref 77), (1, .ref o), (2, .ref p), (3, .ref q)] [] v 0 0 _
  refine ST.lift (fun _ _ k => T_aload_n (v := .ref o) d_Cu_add_239 rfl (Or.inr ⟨_, rfl⟩) k) ?_
  refine S_getfield d_Cu_add_240 fg_Cu_80 (p_o.1 _) rfl ?_
  refine ST.lift (fun _ _ k => T_aload_n (v := .ref 77) d_Cu_add_243 rfl (Or.inr ⟨_, rfl⟩) k) ?_
  refine S_getfield d_Cu_add_244 fg_Cu_46 (w77 _) rfl ?_
  refine ST.lift (fun _ _ k => T_aload_n (v := .ref 77) d_Cu_add_247 rfl (Or.inr ⟨_, rfl⟩) k) ?_
  refine S_getfield d_Cu_add_248 fg_Cu_55 (w77 _) rfl ?_
  refine S_static (as := [.ref ot, .ref 97, .ref 100]) (rest := []) d_Cu_add_251 rfl (jw_Fi_multiply.jo (by decide)) lm_Cu_74 jt_Fi_multiply rfl (Nat.le_of_ble_eq_true rfl) (by decide) (by decide) (c_Fi_multiply G v ot p_o.2.2.2.2.2.2.2.2 p_o.2.2.2.2.1 97 a97 100 a100) (fun r v' hq => ?_)
  rw [hq.1, hq.2]
  clear hq r v'
  show ST G mi_Cu_add 254 [(0, .ref 77), (1, .ref o), (2, .ref p), (3, .ref q)] [] v 0 0 _
  refine ST.lift (fun _ _ k => T_aload_n (v := .ref o) d_Cu_add_254 rfl (Or.inr ⟨_, rfl⟩) k) ?_
  refine S_getfield d_Cu_add_255 fg_Cu_86 (p_o.1 _) rfl ?_
  refine ST.lift (fun _ _ k => T_aload_n (v := .ref 77) d_Cu_add_258 rfl (Or.inr ⟨_, rfl⟩) k) ?_
  refine S_getfield d_Cu_add_259 fg_Cu_49 (w77 _) rfl ?_
  refine ST.lift (fun _ _ k => T_aload_n (v := .ref 77) d_Cu_add_262 rfl (Or.inr ⟨_, rfl⟩) k) ?_
  refine S_getfield d_Cu_add_263 fg_Cu_52 (w77 _) rfl ?_
  refine S_static (as := [.ref oz, .ref 98, .ref 99]) (rest := []) d_Cu_add_266 rfl (jw_Fi_multiply.jo (by decide)) lm_Cu_74 jt_Fi_multiply rfl (Nat.le_of_ble_eq_true rfl) (by decide) (by decide) (c_Fi_multiply G v oz p_o.2.2.2.2.2.2.2.1 p_o.2.2.2.1 98 a98 99 a99) (fun r v' hq => ?_)
  rw [hq.1, hq.2]
  clear hq r v'
  show ST G mi_Cu_add 269 [(0, .ref 77), (1, .ref o), (2, .ref p), (3, .ref q)] [] v 0 0 _
  exact S_vret d_Cu_add_269 rfl (by decide) (by decide) hQ
set_option maxRecDepth 100000 in
set_option maxHeartbeats 4000000 in
theorem c_Cu_doubleTimes (G : GX) (v : Nat → Int32) (p px py pz pt : Nat) (p_p : isPt p px py pz pt) : CS G mi_Cu_doubleTimes [.ref 77, .ref p, .int (nI 4)] v (fun r v' => r = none ∧ v' = v) := by
  refine CS.of (by decide) (Nat.le_of_ble_eq_true rfl) ?_
  generalize hQe : (fun (r : Option Value) (v' : Nat → Int32) => r = none ∧ v' = v) = Q
  have hQ : Q none v := by rw [← hQe]; exact ⟨rfl, rfl⟩
  clear hQe
  show ST G mi_Cu_doubleTimes 0 [(0, .ref 77), (1, .ref p), (2, .int (nI 4))] [] v 0 0 Q
  refine ST.lift (fun _ _ k => T_iconst (v := nI 0) d_Cu_doubleTimes_0 (by decide) k) ?_
  refine ST.lift (fun _ _ k => T_istore_n (L' := [(3, .int (nI 0)), (0, .ref 77), (1, .ref p), (2, .int (nI 4))]) d_Cu_doubleTimes_1 (by decide) rfl k) ?_
  refine ST.lift (fun _ _ k => T_iload_n d_Cu_doubleTimes_2 rfl k) ?_
  refine ST.lift (fun _ _ k => T_iload_n d_Cu_doubleTimes_3 rfl k) ?_
  refine S_icmp_geN d_Cu_doubleTimes_4 rfl (by omega) (by omega) (fun c => by first | exact absurd c (by omega) | exact c.elim | exact absurd c (by decide) | exact absurd (by assumption) c | exact absurd c (by assumption)) (fun _ => ?_)
  refine ST.lift (fun _ _ k => T_aload_n (v := .ref 77) d_Cu_doubleTimes_7 rfl (Or.inr ⟨_, rfl⟩) k) ?_
  refine S_getfield d_Cu_doubleTimes_8 fg_Cu_36 (w77 _) rfl ?_
  refine ST.lift (fun _ _ k => T_aload_n (v := .ref p) d_Cu_doubleTimes_11 rfl (Or.inr ⟨_, rfl⟩) k) ?_
  refine S_getfield d_Cu_doubleTimes_12 fg_Cu_67 (p_p.1 _) rfl ?_
  refine ST.lift (fun _ _ k => T_iconst (v := nI 1) d_Cu_doubleTimes_15 (by decide) k) ?_
  refine S_static (as := [.ref 94, .ref px, .int (nI 1)]) (rest := []) d_Cu_doubleTimes_16 rfl (jw_Fi_square.jo (by decide)) lm_Cu_89 jt_Fi_square rfl (Nat.le_of_ble_eq_true rfl) (by decide) (by decide) (c_Fi_square G v 94 (by decide) a94 px p_p.2.1 1 (by omega)) (fun r v' hq => ?_)
  rw [hq.1, hq.2]
  clear hq r v'
  show ST G mi_Cu_doubleTimes 19 [(3, .int (nI 0)), (0, .ref 77), (1, .ref p), (2, .int (nI 4))] [] v 0 0 _
  refine ST.lift (fun _ _ k => T_aload_n (v := .ref 77) d_Cu_doubleTimes_19 rfl (Or.inr ⟨_, rfl⟩) k) ?_
  refine S_getfield d_Cu_doubleTimes_20 fg_Cu_40 (w77 _) rfl ?_
  refine ST.lift (fun _ _ k => T_aload_n (v := .ref p) d_Cu_doubleTimes_23 rfl (Or.inr ⟨_, rfl⟩) k) ?_
  refine S_getfield d_Cu_doubleTimes_24 fg_Cu_64 (p_p.1 _) rfl ?_
  refine ST.lift (fun _ _ k => T_iconst (v := nI 1) d_Cu_doubleTimes_27 (by decide) k) ?_
  refine S_static (as := [.ref 95, .ref py, .int (nI 1)]) (rest := []) d_Cu_doubleTimes_28 rfl (jw_Fi_square.jo (by decide)) lm_Cu_89 jt_Fi_square rfl (Nat.le_of_ble_eq_true rfl) (by decide) (by decide) (c_Fi_square G v 95 (by decide) a95 py p_p.2.2.1 1 (by omega)) (fun r v' hq => ?_)
  rw [hq.1, hq.2]
  clear hq r v'
  show ST G mi_Cu_doubleTimes 31 [(3, .int (nI 0)), (0, .ref 77), (1, .ref p), (2, .int (nI 4))] [] v 0 0 _
  refine ST.lift (fun _ _ k => T_aload_n (v := .ref 77) d_Cu_doubleTimes_31 rfl (Or.inr ⟨_, rfl⟩) k) ?_
  refine S_getfield d_Cu_doubleTimes_32 fg_Cu_43 (w77 _) rfl ?_
  refine ST.lift (fun _ _ k => T_aload_n (v := .ref p) d_Cu_doubleTimes_35 rfl (Or.inr ⟨_, rfl⟩) k) ?_
  refine S_getfield d_Cu_doubleTimes_36 fg_Cu_86 (p_p.1 _) rfl ?_
  refine ST.lift (fun _ _ k => T_iconst (v := nI 1) d_Cu_doubleTimes_39 (by decide) k) ?_
  refine S_static (as := [.ref 96, .ref pz, .int (nI 1)]) (rest := []) d_Cu_doubleTimes_40 rfl (jw_Fi_square.jo (by decide)) lm_Cu_89 jt_Fi_square rfl (Nat.le_of_ble_eq_true rfl) (by decide) (by decide) (c_Fi_square G v 96 (by decide) a96 pz p_p.2.2.2.1 1 (by omega)) (fun r v' hq => ?_)
  rw [hq.1, hq.2]
  clear hq r v'
  show ST G mi_Cu_doubleTimes 43 [(3, .int (nI 0)), (0, .ref 77), (1, .ref p), (2, .int (nI 4))] [] v 0 0 _
  refine ST.lift (fun _ _ k => T_aload_n (v := .ref 77) d_Cu_doubleTimes_43 rfl (Or.inr ⟨_, rfl⟩) k) ?_
  refine S_getfield d_Cu_doubleTimes_44 fg_Cu_43 (w77 _) rfl ?_
  refine ST.lift (fun _ _ k => T_aload_n (v := .ref 77) d_Cu_doubleTimes_47 rfl (Or.inr ⟨_, rfl⟩) k) ?_
  refine S_getfield d_Cu_doubleTimes_48 fg_Cu_43 (w77 _) rfl ?_
  refine ST.lift (fun _ _ k => T_aload_n (v := .ref 77) d_Cu_doubleTimes_51 rfl (Or.inr ⟨_, rfl⟩) k) ?_
  refine S_getfield d_Cu_doubleTimes_52 fg_Cu_43 (w77 _) rfl ?_
  refine S_static (as := [.ref 96, .ref 96, .ref 96]) (rest := []) d_Cu_doubleTimes_55 rfl (jw_Fi_add.jo (by decide)) lm_Cu_77 jt_Fi_add rfl (Nat.le_of_ble_eq_true rfl) (by decide) (by decide) (c_Fi_add G v 96 (by decide) a96 96 a96 96 a96) (fun r v' hq => ?_)
  rw [hq.1, hq.2]
  clear hq r v'
  show ST G mi_Cu_doubleTimes 58 [(3, .int (nI 0)), (0, .ref 77), (1, .ref p), (2, .int (nI 4))] [] v 0 0 _
  refine ST.lift (fun _ _ k => T_aload_n (v := .ref 77) d_Cu_doubleTimes_58 rfl (Or.inr ⟨_, rfl⟩) k) ?_
  refine S_getfield d_Cu_doubleTimes_59 fg_Cu_46 (w77 _) rfl ?_
  refine ST.lift (fun _ _ k => T_aload_n (v := .ref p) d_Cu_doubleTimes_62 rfl (Or.inr ⟨_, rfl⟩) k) ?_
  refine S_getfield d_Cu_doubleTimes_63 fg_Cu_67 (p_p.1 _) rfl ?_
  refine ST.lift (fun _ _ k => T_aload_n (v := .ref p) d_Cu_doubleTimes_66 rfl (Or.inr ⟨_, rfl⟩) k) ?_
  refine S_getfield d_Cu_doubleTimes_67 fg_Cu_64 (p_p.1 _) rfl ?_
  refine S_static (as := [.ref 97, .ref px, .ref py]) (rest := []) d_Cu_doubleTimes_70 rfl (jw_Fi_add.jo (by decide)) lm_Cu_77 jt_Fi_add rfl (Nat.le_of_ble_eq_true rfl) (by decide) (by decide) (c_Fi_add G v 97 (by decide) a97 px p_p.2.1 py p_p.2.2.1) (fun r v' hq => ?_)
  rw [hq.1, hq.2]
  clear hq r v'
  show ST G mi_Cu_doubleTimes 73 [(3, .int (nI 0)), (0, .ref 77), (1, .ref p), (2, .int (nI 4))] [] v 0 0 _
  refine ST.lift (fun _ _ k => T_aload_n (v := .ref 77) d_Cu_doubleTimes_73 rfl (Or.inr ⟨_, rfl⟩) k) ?_
  refine S_getfield d_Cu_doubleTimes_74 fg_Cu_46 (w77 _) rfl ?_
  refine ST.lift (fun _ _ k => T_aload_n (v := .ref 77) d_Cu_doubleTimes_77 rfl (Or.inr ⟨_, rfl⟩) k) ?_
  refine S_getfield d_Cu_doubleTimes_78 fg_Cu_46 (w77 _) rfl ?_
  refine ST.lift (fun _ _ k => T_iconst (v := nI 1) d_Cu_doubleTimes_81 (by decide) k) ?_
  refine S_static (as := [.ref 97, .ref 97, .int (nI 1)]) (rest := []) d_Cu_doubleTimes_82 rfl (jw_Fi_square.jo (by decide)) lm_Cu_89 jt_Fi_square rfl (Nat.le_of_ble_eq_true rfl) (by decide) (by decide) (c_Fi_square G v 97 (by decide) a97 97 a97 1 (by omega)) (fun r v' hq => ?_)
  rw [hq.1, hq.2]
  clear hq r v'
  show ST G mi_Cu_doubleTimes 85 [(3, .int (nI 0)), (0, .ref 77), (1, .ref p), (2, .int (nI 4))] [] v 0 0 _
  refine ST.lift (fun _ _ k => T_aload_n (v := .ref 77) d_Cu_doubleTimes_85 rfl (Or.inr ⟨_, rfl⟩) k) ?_
  refine S_getfield d_Cu_doubleTimes_86 fg_Cu_55 (w77 _) rfl ?_
  refine ST.lift (fun _ _ k => T_aload_n (v := .ref 77) d_Cu_doubleTimes_89 rfl (Or.inr ⟨_, rfl⟩) k) ?_
  refine S_getfield d_Cu_doubleTimes_90 fg_Cu_36 (w77 _) rfl ?_
  refine ST.lift (fun _ _ k => T_aload_n (v := .ref 77) d_Cu_doubleTimes_93 rfl (Or.inr ⟨_, rfl⟩) k) ?_
  refine S_getfield d_Cu_doubleTimes_94 fg_Cu_40 (w77 _) rfl ?_
  refine S_static (as := [.ref 100, .ref 94, .ref 95]) (rest := []) d_Cu_doubleTimes_97 rfl (jw_Fi_add.jo (by decide)) lm_Cu_77 jt_Fi_add rfl (Nat.le_of_ble_eq_true rfl) (by decide) (by decide) (c_Fi_add G v 100 (by decide) a100 94 a94 95 a95) (fun r v' hq => ?_)
  rw [hq.1, hq.2]
  clear hq r v'
  show ST G mi_Cu_doubleTimes 100 [(3, .int (nI 0)), (0, .ref 77), (1, .ref p), (2, .int (nI 4))] [] v 0 0 _
  refine ST.lift (fun _ _ k => T_aload_n (v := .ref 77) d_Cu_doubleTimes_100 rfl (Or.inr ⟨_, rfl⟩) k) ?_
  refine S_getfield d_Cu_doubleTimes_101 fg_Cu_46 (w77 _) rfl ?_
  refine ST.lift (fun _ _ k => T_aload_n (v := .ref 77) d_Cu_doubleTimes_104 rfl (Or.inr ⟨_, rfl⟩) k) ?_
  refine S_getfield d_Cu_doubleTimes_105 fg_Cu_46 (w77 _) rfl ?_
  refine ST.lift (fun _ _ k => T_aload_n (v := .ref 77) d_Cu_doubleTimes_108 rfl (Or.inr ⟨_, rfl⟩) k) ?_
  refine S_getfield d_Cu_doubleTimes_109 fg_Cu_55 (w77 _) rfl ?_
  refine S_static (as := [.ref 97, .ref 97, .ref 100]) (rest := []) d_Cu_doubleTimes_112 rfl (jw_Fi_subtract.jo (by decide)) lm_Cu_70 jt_Fi_subtract rfl (Nat.le_of_ble_eq_true rfl) (by decide) (by decide) (c_Fi_subtract G v 97 (by decide) a97 97 a97 100 a100) (fun r v' hq => ?_)
  rw [hq.1, hq.2]
  clear hq r v'
  show ST G mi_Cu_doubleTimes 115 [(3, .int (nI 0)), (0, .ref 77), (1, .ref p), (2, .int (nI 4))] [] v 0 0 _
  refine ST.lift (fun _ _ k => T_aload_n (v := .ref 77) d_Cu_doubleTimes_115 rfl (Or.inr ⟨_, rfl⟩) k) ?_
  refine S_getfield d_Cu_doubleTimes_116 fg_Cu_52 (w77 _) rfl ?_
  refine ST.lift (fun _ _ k => T_aload_n (v := .ref 77) d_Cu_doubleTimes_119 rfl (Or.inr ⟨_, rfl⟩) k) ?_
  refine S_getfield d_Cu_doubleTimes_120 fg_Cu_40 (w77 _) rfl ?_
  refine ST.lift (fun _ _ k => T_aload_n (v := .ref 77) d_Cu_doubleTimes_123 rfl (Or.inr ⟨_, rfl⟩) k) ?_
  refine S_getfield d_Cu_doubleTimes_124 fg_Cu_36 (w77 _) rfl ?_
  refine S_static (as := [.ref 99, .ref 95, .ref 94]) (rest := []) d_Cu_doubleTimes_127 rfl (jw_Fi_subtract.jo (by decide)) lm_Cu_70 jt_Fi_subtract rfl (Nat.le_of_ble_eq_true rfl) (by decide) (by decide) (c_Fi_subtract G v 99 (by decide) a99 95 a95 94 a94) (fun r v' hq => ?_)
  rw [hq.1, hq.2]
  clear hq r v'
  show ST G mi_Cu_doubleTimes 130 [(3, .int (nI 0)), (0, .ref 77), (1, .ref p), (2, .int (nI 4))] [] v 0 0 _
  refine ST.lift (fun _ _ k => T_aload_n (v := .ref 77) d_Cu_doubleTimes_130 rfl (Or.inr ⟨_, rfl⟩) k) ?_
  refine S_getfield d_Cu_doubleTimes_131 fg_Cu_49 (w77 _) rfl ?_
  refine ST.lift (fun _ _ k => T_aload_n (v := .ref 77) d_Cu_doubleTimes_134 rfl (Or.inr ⟨_, rfl⟩) k) ?_
  refine S_getfield d_Cu_doubleTimes_135 fg_Cu_43 (w77 _) rfl ?_
  refine ST.lift (fun _ _ k => T_aload_n (v := .ref 77) d_Cu_doubleTimes_138 rfl (Or.inr ⟨_, rfl⟩) k) ?_
  refine S_getfield d_Cu_doubleTimes_139 fg_Cu_52 (w77 _) rfl ?_
  refine S_static (as := [.ref 98, .ref 96, .ref 99]) (rest := []) d_Cu_doubleTimes_142 rfl (jw_Fi_subtract.jo (by decide)) lm_Cu_70 jt_Fi_subtract rfl (Nat.le_of_ble_eq_true rfl) (by decide) (by decide) (c_Fi_subtract G v 98 (by decide) a98 96 a96 99 a99) (fun r v' hq => ?_)
  rw [hq.1, hq.2]
  clear hq r v'
  show ST G mi_Cu_doubleTimes 145 [(3, .int (nI 0)), (0, .ref 77), (1, .ref p), (2, .int (nI 4))] [] v 0 0 _
  refine ST.lift (fun _ _ k => T_aload_n (v := .ref p) d_Cu_doubleTimes_145 rfl (Or.inr ⟨_, rfl⟩) k) ?_
  refine S_getfield d_Cu_doubleTimes_146 fg_Cu_67 (p_p.1 _) rfl ?_
  refine ST.lift (fun _ _ k => T_aload_n (v := .ref 77) d_Cu_doubleTimes_149 rfl (Or.inr ⟨_, rfl⟩) k) ?_
  refine S_getfield d_Cu_doubleTimes_150 fg_Cu_46 (w77 _) rfl ?_
  refine ST.lift (fun _ _ k => T_aload_n (v := .ref 77) d_Cu_doubleTimes_153 rfl (Or.inr ⟨_, rfl⟩) k) ?_
  refine S_getfield d_Cu_doubleTimes_154 fg_Cu_49 (w77 _) rfl ?_
  refine S_static (as := [.ref px, .ref 97, .ref 98]) (rest := []) d_Cu_doubleTimes_157 rfl (jw_Fi_multiply.jo (by decide)) lm_Cu_74 jt_Fi_multiply rfl (Nat.le_of_ble_eq_true rfl) (by decide) (by decide) (c_Fi_multiply G v px p_p.2.2.2.2.2.1 p_p.2.1 97 a97 98 a98) (fun r v' hq => ?_)
  rw [hq.1, hq.2]
  clear hq r v'
  show ST G mi_Cu_doubleTimes 160 [(3, .int (nI 0)), (0, .ref 77), (1, .ref p), (2, .int (nI 4))] [] v 0 0 _
  refine ST.lift (fun _ _ k => T_aload_n (v := .ref p) d_Cu_doubleTimes_160 rfl (Or.inr ⟨_, rfl⟩) k) ?_
  refine S_getfield d_Cu_doubleTimes_161 fg_Cu_64 (p_p.1 _) rfl ?_
  refine ST.lift (fun _ _ k => T_aload_n (v := .ref 77) d_Cu_doubleTimes_164 rfl (Or.inr ⟨_, rfl⟩) k) ?_
  refine S_getfield d_Cu_doubleTimes_165 fg_Cu_52 (w77 _) rfl ?_
  refine ST.lift (fun _ _ k => T_aload_n (v := .ref 77) d_Cu_doubleTimes_168 rfl (Or.inr ⟨_, rfl⟩) k) ?_
  refine S_getfield d_Cu_doubleTimes_169 fg_Cu_55 (w77 _) rfl ?_
  refine S_static (as := [.ref py, .ref 99, .ref 100]) (rest := []) d_Cu_doubleTimes_172 rfl (jw_Fi_multiply.jo (by decide)) lm_Cu_74 jt_Fi_multiply rfl (Nat.le_of_ble_eq_true rfl) (by decide) (by decide) (c_Fi_multiply G v py p_p.2.2.2.2.2.2.1 p_p.2.2.1 99 a99 100 a100) (fun r v' hq => ?_)
  rw [hq.1, hq.2]
  clear hq r v'
  show ST G mi_Cu_doubleTimes 175 [(3, .int (nI 0)), (0, .ref 77), (1, .ref p), (2, .int (nI 4))] [] v 0 0 _
  refine ST.lift (fun _ _ k => T_aload_n (v := .ref p) d_Cu_doubleTimes_175 rfl (Or.inr ⟨_, rfl⟩) k) ?_
  refine S_getfield d_Cu_doubleTimes_176 fg_Cu_86 (p_p.1 _) rfl ?_
  refine ST.lift (fun _ _ k => T_aload_n (v := .ref 77) d_Cu_doubleTimes_179 rfl (Or.inr ⟨_, rfl⟩) k) ?_
  refine S_getfield d_Cu_doubleTimes_180 fg_Cu_49 (w77 _) rfl ?_
  refine ST.lift (fun _ _ k => T_aload_n (v := .ref 77) d_Cu_doubleTimes_183 rfl (Or.inr ⟨_, rfl⟩) k) ?_
  refine S_getfield d_Cu_doubleTimes_184 fg_Cu_52 (w77 _) rfl ?_
  refine S_static (as := [.ref pz, .ref 98, .ref 99]) (rest := []) d_Cu_doubleTimes_187 rfl (jw_Fi_multiply.jo (by decide)) lm_Cu_74 jt_Fi_multiply rfl (Nat.le_of_ble_eq_true rfl) (by decide) (by decide) (c_Fi_multiply G v pz p_p.2.2.2.2.2.2.2.1 p_p.2.2.2.1 98 a98 99 a99) (fun r v' hq => ?_)
  rw [hq.1, hq.2]
  clear hq r v'
  show ST G mi_Cu_doubleTimes 190 [(3, .int (nI 0)), (0, .ref 77), (1, .ref p), (2, .int (nI 4))] [] v 0 0 _
  refine S_iincN (a := 0) (b := 1) (L' := [(3, .int (nI 1)), (0, .ref 77), (1, .ref p), (2, .int (nI 4))]) d_Cu_doubleTimes_190 (by decide) rfl rfl rfl ?_
  refine ST.lift (fun _ _ k => T_goto (tgt := 2) d_Cu_doubleTimes_193 rfl k) ?_
  refine ST.lift (fun _ _ k => T_iload_n d_Cu_doubleTimes_2 rfl k) ?_
  refine ST.lift (fun _ _ k => T_iload_n d_Cu_doubleTimes_3 rfl k) ?_
  refine S_icmp_geN d_Cu_doubleTimes_4 rfl (by omega) (by omega) (fun c => by first | exact absurd c (by omega) | exact c.elim | exact absurd c (by decide) | exact absurd (by assumption) c | exact absurd c (by assumption)) (fun _ => ?_)
  refine ST.lift (fun _ _ k => T_aload_n (v := .ref 77) d_Cu_doubleTimes_7 rfl (Or.inr ⟨_, rfl⟩) k) ?_
  refine S_getfield d_Cu_doubleTimes_8 fg_Cu_36 (w77 _) rfl ?_
  refine ST.lift (fun _ _ k => T_aload_n (v := .ref p) d_Cu_doubleTimes_11 rfl (Or.inr ⟨_, rfl⟩) k) ?_
  refine S_getfield d_Cu_doubleTimes_12 fg_Cu_67 (p_p.1 _) rfl ?_
  refine ST.lift (fun _ _ k => T_iconst (v := nI 1) d_Cu_doubleTimes_15 (by decide) k) ?_
  refine S_static (as := [.ref 94, .ref px, .int (nI 1)]) (rest := []) d_Cu_doubleTimes_16 rfl (jw_Fi_square.jo (by decide)) lm_Cu_89 jt_Fi_square rfl (Nat.le_of_ble_eq_true rfl) (by decide) (by decide) (c_Fi_square G v 94 (by decide) a94 px p_p.2.1 1 (by omega)) (fun r v' hq => ?_)
  rw [hq.1, hq.2]
  clear hq r v'
  show ST G mi_Cu_doubleTimes 19 [(3, .int (nI 1)), (0, .ref 77), (1, .ref p), (2, .int (nI 4))] [] v 0 0 _
  refine ST.lift (fun _ _ k => T_aload_n (v := .ref 77) d_Cu_doubleTimes_19 rfl (Or.inr ⟨_, rfl⟩) k) ?_
  refine S_getfield d_Cu_doubleTimes_20 fg_Cu_40 (w77 _) rfl ?_
  refine ST.lift (fun _ _ k => T_aload_n (v := .ref p) d_Cu_doubleTimes_23 rfl (Or.inr ⟨_, rfl⟩) k) ?_
  refine S_getfield d_Cu_doubleTimes_24 fg_Cu_64 (p_p.1 _) rfl ?_
  refine ST.lift (fun _ _ k => T_iconst (v := nI 1) d_Cu_doubleTimes_27 (by decide) k) ?_
  refine S_static (as := [.ref 95, .ref py, .int (nI 1)]) (rest := []) d_Cu_doubleTimes_28 rfl (jw_Fi_square.jo (by decide)) lm_Cu_89 jt_Fi_square rfl (Nat.le_of_ble_eq_true rfl) (by decide) (by decide) (c_Fi_square G v 95 (by decide) a95 py p_p.2.2.1 1 (by omega)) (fun r v' hq => ?_)
  rw [hq.1, hq.2]
  clear hq r v'
  show ST G mi_Cu_doubleTimes 31 [(3, .int (nI 1)), (0, .ref 77), (1, .ref p), (2, .int (nI 4))] [] v 0 0 _
  refine ST.lift (fun _ _ k => T_aload_n (v := .ref 77) d_Cu_doubleTimes_31 rfl (Or.inr ⟨_, rfl⟩) k) ?_
  refine S_getfield d_Cu_doubleTimes_32 fg_Cu_43 (w77 _) rfl ?_
  refine ST.lift (fun _ _ k => T_aload_n (v := .ref p) d_Cu_doubleTimes_35 rfl (Or.inr ⟨_, rfl⟩) k) ?_
  refine S_getfield d_Cu_doubleTimes_36 fg_Cu_86 (p_p.1 _) rfl ?_
  refine ST.lift (fun _ _ k => T_iconst (v := nI 1) d_Cu_doubleTimes_39 (by decide) k) ?_
  refine S_static (as := [.ref 96, .ref pz, .int (nI 1)]) (rest := []) d_Cu_doubleTimes_40 rfl (jw_Fi_square.jo (by decide)) lm_Cu_89 jt_Fi_square rfl (Nat.le_of_ble_eq_true rfl) (by decide) (by decide) (c_Fi_square G v 96 (by decide) a96 pz p_p.2.2.2.1 1 (by omega)) (fun r v' hq => ?_)
  rw [hq.1, hq.2]
  clear hq r v'
  show ST G mi_Cu_doubleTimes 43 [(3, .int (nI 1)), (0, .ref 77), (1, .ref p), (2, .int (nI 4))] [] v 0 0 _
  refine ST.lift (fun _ _ k => T_aload_n (v := .ref 77) d_Cu_doubleTimes_43 rfl (Or.inr ⟨_, rfl⟩) k) ?_
  refine S_getfield d_Cu_doubleTimes_44 fg_Cu_43 (w77 _) rfl ?_
  refine ST.lift (fun _ _ k => T_aload_n (v := .ref 77) d_Cu_doubleTimes_47 rfl (Or.inr ⟨_, rfl⟩) k) ?_
  refine S_getfield d_Cu_doubleTimes_48 fg_Cu_43 (w77 _) rfl ?_
  refine ST.lift (fun _ _ k => T_aload_n (v := .ref 77) d_Cu_doubleTimes_51 rfl (Or.inr ⟨_, rfl⟩) k) ?_
  refine S_getfield d_Cu_doubleTimes_52 fg_Cu_43 (w77 _) rfl ?_
  refine S_static (as := [.ref 96, .ref 96, .ref 96]) (rest := []) d_Cu_doubleTimes_55 rfl (jw_Fi_add.jo (by decide)) lm_Cu_77 jt_Fi_add rfl (Nat.le_of_ble_eq_true rfl) (by decide) (by decide) (c_Fi_add G v 96 (by decide) a96 96 a96 96 a96) (fun r v' hq => ?_)
  rw [hq.1, hq.2]
  clear hq r v'
  show ST G mi_Cu_doubleTimes 58 [(3, .int (nI 1)), (0, .ref 77), (1, .ref p), (2, .int (nI 4))] [] v 0 0 _
  refine ST.lift (fun _ _ k => T_aload_n (v := .ref 77) d_Cu_doubleTimes_58 rfl (Or.inr ⟨_, rfl⟩) k) ?_
  refine S_getfield d_Cu_doubleTimes_59 fg_Cu_46 (w77 _) rfl ?_
  refine ST.lift (fun _ _ k => T_aload_n (v := .ref p) d_Cu_doubleTimes_62 rfl (Or.inr ⟨_, rfl⟩) k) ?_
  refine S_getfield d_Cu_doubleTimes_63 fg_Cu_67 (p_p.1 _) rfl ?_
  refine ST.lift (fun _ _ k => T_aload_n (v := .ref p) d_Cu_doubleTimes_66 rfl (Or.inr ⟨_, rfl⟩) k) ?_
  refine S_getfield d_Cu_doubleTimes_67 fg_Cu_64 (p_p.1 _) rfl ?_
  refine S_static (as := [.ref 97, .ref px, .ref py]) (rest := []) d_Cu_doubleTimes_70 rfl (jw_Fi_add.jo (by decide)) lm_Cu_77 jt_Fi_add rfl (Nat.le_of_ble_eq_true rfl) (by decide) (by decide) (c_Fi_add G v 97 (by decide) a97 px p_p.2.1 py p_p.2.2.1) (fun r v' hq => ?_)
  rw [hq.1, hq.2]
  clear hq r v'
  show ST G mi_Cu_doubleTimes 73 [(3, .int (nI 1)), (0, .ref 77), (1, .ref p), (2, .int (nI 4))] [] v 0 0 _
  refine ST.lift (fun _ _ k => T_aload_n (v := .ref 77) d_Cu_doubleTimes_73 rfl (Or.inr ⟨_, rfl⟩) k) ?_
  refine S_getfield d_Cu_doubleTimes_74 fg_Cu_46 (w77 _) rfl ?_
  refine ST.lift (fun _ _ k => T_aload_n (v := .ref 77) d_Cu_doubleTimes_77 rfl (Or.inr ⟨_, rfl⟩) k) ?_
  refine S_getfield d_Cu_doubleTimes_78 fg_Cu_46 (w77 _) rfl ?_
  refine ST.lift (fun _ _ k => T_iconst (v := nI 1) d_Cu_doubleTimes_81 (by decide) k) ?_
  refine S_static (as := [.ref 97, .ref 97, .int (nI 1)]) (rest := []) d_Cu_doubleTimes_82 rfl (jw_Fi_square.jo (by decide)) lm_Cu_89 jt_Fi_square rfl (Nat.le_of_ble_eq_true rfl) (by decide) (by decide) (c_Fi_square G v 97 (by decide) a97 97 a97 1 (by omega)) (fun r v' hq => ?_)
  rw [hq.1, hq.2]
  clear hq r v'
  show ST G mi_Cu_doubleTimes 85 [(3, .int (nI 1)), (0, .ref 77), (1, .ref p), (2, .int (nI 4))] [] v 0 0 _
  refine ST.lift (fun _ _ k => T_aload_n (v := .ref 77) d_Cu_doubleTimes_85 rfl (Or.inr ⟨_, rfl⟩) k) ?_
  refine S_getfield d_Cu_doubleTimes_86 fg_Cu_55 (w77 _) rfl ?_
  refine ST.lift (fun _ _ k => T_aload_n (v := .ref 77) d_Cu_doubleTimes_89 rfl (Or.inr ⟨_, rfl⟩) k) ?_
  refine S_getfield d_Cu_doubleTimes_90 fg_Cu_36 (w77 _) rfl ?_
  refine ST.lift (fun _ _ k => T_aload_n (v := .ref 77) d_Cu_doubleTimes_93 rfl (Or.inr ⟨_, rfl⟩) k) ?_
  refine S_getfield d_Cu_doubleTimes_94 fg_Cu_40 (w77 _) rfl ?_
  refine S_static (as := [.ref 100, .ref 94, .ref 95]) (rest := []) d_Cu_doubleTimes_97 rfl (jw_Fi_add.jo (by decide)) lm_Cu_77 jt_Fi_add rfl (Nat.le_of_ble_eq_true rfl) (by decide) (by decide) (c_Fi_add G v 100 (by decide) a100 94 a94 95 a95) (fun r v' hq => ?_)
  rw [hq.1, hq.2]
  clear hq r v'
  show ST G mi_Cu_doubleTimes 100 [(3, .int (nI 1)), (0, .ref 77), (1, .ref p), (2, .int (nI 4))] [] v 0 0 _
  refine ST.lift (fun _ _ k => T_aload_n (v := .ref 77) d_Cu_doubleTimes_100 rfl (Or.inr ⟨_, rfl⟩) k) ?_
  refine S_getfield d_Cu_doubleTimes_101 fg_Cu_46 (w77 _) rfl ?_
  refine ST.lift (fun _ _ k => T_aload_n (v := .ref 77) d_Cu_doubleTimes_104 rfl (Or.inr ⟨_, rfl⟩) k) ?_
  refine S_getfield d_Cu_doubleTimes_105 fg_Cu_46 (w77 _) rfl ?_
  refine ST.lift (fun _ _ k => T_aload_n (v := .ref 77) d_Cu_doubleTimes_108 rfl (Or.inr ⟨_, rfl⟩) k) ?_
  refine S_getfield d_Cu_doubleTimes_109 fg_Cu_55 (w77 _) rfl ?_
  refine S_static (as := [.ref 97, .ref 97, .ref 100]) (rest := []) d_Cu_doubleTimes_112 rfl (jw_Fi_subtract.jo (by decide)) lm_Cu_70 jt_Fi_subtract rfl (Nat.le_of_ble_eq_true rfl) (by decide) (by decide) (c_Fi_subtract G v 97 (by decide) a97 97 a97 100 a100) (fun r v' hq => ?_)
  rw [hq.1, hq.2]
  clear hq r v'
  show ST G mi_Cu_doubleTimes 115 [(3, .int (nI 1)), (0, .ref 77), (1, .ref p), (2, .int (nI 4))] [] v 0 0 _
  refine ST.lift (fun _ _ k => T_aload_n (v := .ref 77) d_Cu_doubleTimes_115 rfl (Or.inr ⟨_, rfl⟩) k) ?_
  refine S_getfield d_Cu_doubleTimes_116 fg_Cu_52 (w77 _) rfl ?_
  refine ST.lift (fun _ _ k => T_aload_n (v := .ref 77) d_Cu_doubleTimes_119 rfl (Or.inr ⟨_, rfl⟩) k) ?_
  refine S_getfield d_Cu_doubleTimes_120 fg_Cu_40 (w77 _) rfl ?_
  refine ST.lift (fun _ _ k => T_aload_n (v := .ref 77) d_Cu_doubleTimes_123 rfl (Or.inr ⟨_, rfl⟩) k) ?_
  refine S_getfield d_Cu_doubleTimes_124 fg_Cu_36 (w77 _) rfl ?_
  refine S_static (as := [.ref 99, .ref 95, .ref 94]) (rest := []) d_Cu_doubleTimes_127 rfl (jw_Fi_subtract.jo (by decide)) lm_Cu_70 jt_Fi_subtract rfl (Nat.le_of_ble_eq_true rfl) (by decide) (by decide) (c_Fi_subtract G v 99 (by decide) a99 95 a95 94 a94) (fun r v' hq => ?_)
  rw [hq.1, hq.2]
  clear hq r v'
  show ST G mi_Cu_doubleTimes 130 [(3, .int (nI 1)), (0, .ref 77), (1, .ref p), (2, .int (nI 4))] [] v 0 0 _
  refine ST.lift (fun _ _ k => T_aload_n (v := .ref 77) d_Cu_doubleTimes_130 rfl (Or.inr ⟨_, rfl⟩) k) ?_
  refine S_getfield d_Cu_doubleTimes_131 fg_Cu_49 (w77 _) rfl ?_
  refine ST.lift (fun _ _ k => T_aload_n (v := .ref 77) d_Cu_doubleTimes_134 rfl (Or.inr ⟨_, rfl⟩) k) ?_
  refine S_getfield d_Cu_doubleTimes_135 fg_Cu_43 (w77 _) rfl ?_
  refine ST.lift (fun _ _ k => T_aload_n (v := .ref 77) d_Cu_doubleTimes_138 rfl (Or.inr ⟨_, rfl⟩) k) ?_
  refine S_getfield d_Cu_doubleTimes_139 fg_Cu_52 (w77 _) rfl ?_
  refine S_static (as := [.ref 98, .ref 96, .ref 99]) (rest := []) d_Cu_doubleTimes_142 rfl (jw_Fi_subtract.jo (by decide)) lm_Cu_70 jt_Fi_subtract rfl (Nat.le_of_ble_eq_true rfl) (by decide) (by decide) (c_Fi_subtract G v 98 (by decide) a98 96 a96 99 a99) (fun r v' hq => ?_)
  rw [hq.1, hq.2]
  clear hq r v'
  show ST G mi_Cu_doubleTimes 145 [(3, .int (nI 1)), (0, .ref 77), (1, .ref p), (2, .int (nI 4))] [] v 0 0 _
  refine ST.lift (fun _ _ k => T_aload_n (v := .ref p) d_Cu_doubleTimes_145 rfl (Or.inr ⟨_, rfl⟩) k) ?_
  refine S_getfield d_Cu_doubleTimes_146 fg_Cu_67 (p_p.1 _) rfl ?_
  refine ST.lift (fun _ _ k => T_aload_n (v := .ref 77) d_Cu_doubleTimes_149 rfl (Or.inr ⟨_, rfl⟩) k) ?_
  refine S_getfield d_Cu_doubleTimes_150 fg_Cu_46 (w77 _) rfl ?_
  refine ST.lift (fun _ _ k => T_aload_n (v := .ref 77) d_Cu_doubleTimes_153 rfl (Or.inr ⟨_, rfl⟩) k) ?_
  refine S_getfield d_Cu_doubleTimes_154 fg_Cu_49 (w77 _) rfl ?_
  refine S_static (as := [.ref px, .ref 97, .ref 98]) (rest := []) d_Cu_doubleTimes_157 rfl (jw_Fi_multiply.jo (by decide)) lm_Cu_74 jt_Fi_multiply rfl (Nat.le_of_ble_eq_true rfl) (by decide) (by decide) (c_Fi_multiply G v px p_p.2.2.2.2.2.1 p_p.2.1 97 a97 98 a98) (fun r v' hq => ?_)
  rw [hq.1, hq.2]
  clear hq r v'
  show ST G mi_Cu_doubleTimes 160 [(3, .int (nI 1)), (0, .ref 77), (1, .ref p), (2, .int (nI 4))] [] v 0 0 _
  refine ST.lift (fun _ _ k => T_aload_n (v := .ref p) d_Cu_doubleTimes_160 rfl (Or.inr ⟨_, rfl⟩) k) ?_
  refine S_getfield d_Cu_doubleTimes_161 fg_Cu_64 (p_p.1 _) rfl ?_
  refine ST.lift (fun _ _ k => T_aload_n (v := .ref 77) d_Cu_doubleTimes_164 rfl (Or.inr ⟨_, rfl⟩) k) ?_
  refine S_getfield d_Cu_doubleTimes_165 fg_Cu_52 (w77 _) rfl ?_
  refine ST.lift (fun _ _ k => T_aload_n (v := .ref 77) d_Cu_doubleTimes_168 rfl (Or.inr ⟨_, rfl⟩) k) ?_
  refine S_getfield d_Cu_doubleTimes_169 fg_Cu_55 (w77 _) rfl ?_
  refine S_static (as := [.ref py, .ref 99, .ref 100]) (rest := []) d_Cu_doubleTimes_172 rfl (jw_Fi_multiply.jo (by decide)) lm_Cu_74 jt_Fi_multiply rfl (Nat.le_of_ble_eq_true rfl) (by decide) (by decide) (c_Fi_multiply G v py p_p.2.2.2.2.2.2.1 p_p.2.2.1 99 a99 100 a100) (fun r v' hq => ?_)
  rw [hq.1, hq.2]
  clear hq r v'
  show ST G mi_Cu_doubleTimes 175 [(3, .int (nI 1)), (0, .ref 77), (1, .ref p), (2, .int (nI 4))] [] v 0 0 _
  refine ST.lift (fun _ _ k => T_aload_n (v := .ref p) d_Cu_doubleTimes_175 rfl (Or.inr ⟨_, rfl⟩) k) ?_
  refine S_getfield d_Cu_doubleTimes_176 fg_Cu_86 (p_p.1 _) rfl ?_
  refine ST.lift (fun _ _ k => T_aload_n (v := .ref 77) d_Cu_doubleTimes_179 rfl (Or.inr ⟨_, rfl⟩) k) ?_
  refine S_getfield d_Cu_doubleTimes_180 fg_Cu_49 (w77 _) rfl ?_
  refine ST.lift (fun _ _ k => T_aload_n (v := .ref 77) d_Cu_doubleTimes_183 rfl (Or.inr ⟨_, rfl⟩) k) ?_
  refine S_getfield d_Cu_doubleTimes_184 fg_Cu_52 (w77 _) rfl ?_
  refine S_static (as := [.ref pz, .ref 98, .ref 99]) (rest := []) d_Cu_doubleTimes_187 rfl (jw_Fi_multiply.jo (by decide)) lm_Cu_74 jt_Fi_multiply rfl (Nat.le_of_ble_eq_true rfl) (by decide) (by decide) (c_Fi_multiply G v pz p_p.2.2.2.2.2.2.2.1 p_p.2.2.2.1 98 a98 99 a99) (fun r v' hq => ?_)
  rw [hq.1, hq.2]
  clear hq r v'
  show ST G mi_Cu_doubleTimes 190 [(3, .int (nI 1)), (0, .ref 77), (1, .ref p), (2, .int (nI 4))] [] v 0 0 _
  refine S_iincN (a := 1) (b := 1) (L' := [(3, .int (nI 2)), (0, .ref 77), (1, .ref p), (2, .int (nI 4))]) d_Cu_doubleTimes_190 (by decide) rfl rfl rfl ?_
  refine ST.lift (fun _ _ k => T_goto (tgt := 2) d_Cu_doubleTimes_193 rfl k) ?_
  refine ST.lift (fun _ _ k => T_iload_n d_Cu_doubleTimes_2 rfl k) ?_
  refine ST.lift (fun _ _ k => T_iload_n d_Cu_doubleTimes_3 rfl k) ?_
  refine S_icmp_geN d_Cu_doubleTimes_4 rfl (by omega) (by omega) (fun c => by first | exact absurd c (by omega) | exact c.elim | exact absurd c (by decide) | exact absurd (by assumption) c | exact absurd c (by assumption)) (fun _ => ?_)
  refine ST.lift (fun _ _ k => T_aload_n (v := .ref 77) d_Cu_doubleTimes_7 rfl (Or.inr ⟨_, rfl⟩) k) ?_
  refine S_getfield d_Cu_doubleTimes_8 fg_Cu_36 (w77 _) rfl ?_
  refine ST.lift (fun _ _ k => T_aload_n (v := .ref p) d_Cu_doubleTimes_11 rfl (Or.inr ⟨_, rfl⟩) k) ?_
  refine S_getfield d_Cu_doubleTimes_12 fg_Cu_67 (p_p.1 _) rfl ?_
  refine ST.lift (fun _ _ k => T_iconst (v := nI 1) d_Cu_doubleTimes_15 (by decide) k) ?_
  refine S_static (as := [.ref 94, .ref px, .int (nI 1)]) (rest := []) d_Cu_doubleTimes_16 rfl (jw_Fi_square.jo (by decide)) lm_Cu_89 jt_Fi_square rfl (Nat.le_of_ble_eq_true rfl) (by decide) (by decide) (c_Fi_square G v 94 (by decide) a94 px p_p.2.1 1 (by omega)) (fun r v' hq => ?_)
  rw [hq.1, hq.2]
  clear hq r v'
  show ST G mi_Cu_doubleTimes 19 [(3, .int (nI 2)), (0, .ref 77), (1, .ref p), (2, .int (nI 4))] [] v 0 0 _
  refine ST.lift (fun _ _ k => T_aload_n (v := .ref 77) d_Cu_doubleTimes_19 rfl (Or.inr ⟨_, rfl⟩) k) ?_
  refine S_getfield d_Cu_doubleTimes_20 fg_Cu_40 (w77 _) rfl ?_
  refine ST.lift (fun _ _ k => T_aload_n (v := .ref p) d_Cu_doubleTimes_23 rfl (Or.inr ⟨_, rfl⟩) k) ?_
  refine S_getfield d_Cu_doubleTimes_24 fg_Cu_64 (p_p.1 _) rfl ?_
  refine ST.lift (fun _ _ k => T_iconst (v := nI 1) d_Cu_doubleTimes_27 (by decide) k) ?_
  refine S_static (as := [.ref 95, .ref py, .int (nI 1)]) (rest := []) d_Cu_doubleTimes_28 rfl (jw_Fi_square.jo (by decide)) lm_Cu_89 jt_Fi_square rfl (Nat.le_of_ble_eq_true rfl) (by decide) (by decide) (c_Fi_square G v 95 (by decide) a95 py p_p.2.2.1 1 (by omega)) (fun r v' hq => ?_)
  rw [hq.1, hq.2]
  clear hq r v'
  show ST G mi_Cu_doubleTimes 31 [(3, .int (nI 2)), (0, .ref 77), (1, .ref p), (2, .int (nI 4))] [] v 0 0 _
  refine ST.lift (fun _ _ k => T_aload_n (v := .ref 77) d_Cu_doubleTimes_31 rfl (Or.inr ⟨_, rfl⟩) k) ?_
  refine S_getfield d_Cu_doubleTimes_32 fg_Cu_43 (w77 _) rfl ?_
  refine ST.lift (fun _ _ k => T_aload_n (v := .ref p) d_Cu_doubleTimes_35 rfl (Or.inr ⟨_, rfl⟩) k) ?_
  refine S_getfield d_Cu_doubleTimes_36 fg_Cu_86 (p_p.1 _) rfl ?_
  refine ST.lift (fun _ _ k => T_iconst (v := nI 1) d_Cu_doubleTimes_39 (by decide) k) ?_
  refine S_static (as := [.ref 96, .ref pz, .int (nI 1)]) (rest := []) d_Cu_doubleTimes_40 rfl (jw_Fi_square.jo (by decide)) lm_Cu_89 jt_Fi_square rfl (Nat.le_of_ble_eq_true rfl) (by decide) (by decide) (c_Fi_square G v 96 (by decide) a96 pz p_p.2.2.2.1 1 (by omega)) (fun r v' hq => ?_)
  rw [hq.1, hq.2]
  clear hq r v'
  show ST G mi_Cu_doubleTimes 43 [(3, .int (nI 2)), (0, .ref 77), (1, .ref p), (2, .int (nI 4))] [] v 0 0 _
  refine ST.lift (fun _ _ k => T_aload_n (v := .ref 77) d_Cu_doubleTimes_43 rfl (Or.inr ⟨_, rfl⟩) k) ?_
  refine S_getfield d_Cu_doubleTimes_44 fg_Cu_43 (w77 _) rfl ?_
  refine ST.lift (fun _ _ k => T_aload_n (v := .ref 77) d_Cu_doubleTimes_47 rfl (Or.inr ⟨_, rfl⟩) k) ?_
  refine S_getfield d_Cu_doubleTimes_48 fg_Cu_43 (w77 _) rfl ?_
  refine ST.lift (fun _ _ k => T_aload_n (v := .ref 77) d_Cu_doubleTimes_51 rfl (Or.inr ⟨_, rfl⟩) k) ?_
  refine S_getfield d_Cu_doubleTimes_52 fg_Cu_43 (w77 _) rfl ?_
  refine S_static (as := [.ref 96, .ref 96, .ref 96]) (rest := []) d_Cu_doubleTimes_55 rfl (jw_Fi_add.jo (by decide)) lm_Cu_77 jt_Fi_add rfl (Nat.le_of_ble_eq_true rfl) (by decide) (by decide) (c_Fi_add G v 96 (by decide) a96 96 a96 96 a96) (fun r v' hq => ?_)
  rw [hq.1, hq.2]
  clear hq r v'
  show ST G mi_Cu_doubleTimes 58 [(3, .int (nI 2)), (0, .ref 77), (1, .ref p), (2, .int (nI 4))] [] v 0 0 _
  refine ST.lift (fun _ _ k => T_aload_n (v := .ref 77) d_Cu_doubleTimes_58 rfl (Or.inr ⟨_, rfl⟩) k) ?_
  refine S_getfield d_Cu_doubleTimes_59 fg_Cu_46 (w77 _) rfl ?_
  refine ST.lift (fun _ _ k => T_aload_n (v := .ref p) d_Cu_doubleTimes_62 rfl (Or.inr ⟨_, rfl⟩) k) ?_
  refine S_getfield d_Cu_doubleTimes_63 fg_Cu_67 (p_p.1 _) rfl ?_
  refine ST.lift (fun _ _ k => T_aload_n (v := .ref p) d_Cu_doubleTimes_66 rfl (Or.inr ⟨_, rfl⟩) k) ?_
  refine S_getfield d_Cu_doubleTimes_67 fg_Cu_64 (p_p.1 _) rfl ?_
  refine S_static (as := [.ref 97, .ref px, .ref py]) (rest := []) d_Cu_doubleTimes_70 rfl (jw_Fi_add.jo (by decide)) lm_Cu_77 jt_Fi_add rfl (Nat.le_of_ble_eq_true rfl) (by decide) (by decide) (c_Fi_add G v 97 (by decide) a97 px p_p.2.1 py p_p.2.2.1) (fun r v' hq => ?_)
  rw [hq.1, hq.2]
  clear hq r v'
  show ST G mi_Cu_doubleTimes 73 [(3, .int (nI 2)), (0, .ref 77), (1, .ref p), (2, .int (nI 4))] [] v 0 0 _
  refine ST.lift (fun _ _ k => T_aload_n (v := .ref 77) d_Cu_doubleTimes_73 rfl (Or.inr ⟨_, rfl⟩) k) ?_
  refine S_getfield d_Cu_doubleTimes_74 fg_Cu_46 (w77 _) rfl ?_
  refine ST.lift (fun _ _ k => T_aload_n (v := .ref 77) d_Cu_doubleTimes_77 rfl (Or.inr ⟨_, rfl⟩) k) ?_
  refine S_getfield d_Cu_doubleTimes_78 fg_Cu_46 (w77 _) rfl ?_
  refine ST.lift (fun _ _ k => T_iconst (v := nI 1) d_Cu_doubleTimes_81 (by decide) k) ?_
  refine S_static (as := [.ref 97, .ref 97, .int (nI 1)]) (rest := []) d_Cu_doubleTimes_82 rfl (jw_Fi_square.jo (by decide)) lm_Cu_89 jt_Fi_square rfl (Nat.le_of_ble_eq_true rfl) (by decide) (by decide) (c_Fi_square G v 97 (by decide) a97 97 a97 1 (by omega)) (fun r v' hq => ?_)
  rw [hq.1, hq.2]
  clear hq r v'
  show ST G mi_Cu_doubleTimes 85 [(3, .int (nI 2)), (0, .ref 77), (1, .ref p), (2, .int (nI 4))] [] v 0 0 _
  refine ST.lift (fun _ _ k => T_aload_n (v := .ref 77) d_Cu_doubleTimes_85 rfl (Or.inr ⟨_, rfl⟩) k) ?_
  refine S_getfield d_Cu_doubleTimes_86 fg_Cu_55 (w77 _) rfl ?_
  refine ST.lift (fun _ _ k => T_aload_n (v := .ref 77) d_Cu_doubleTimes_89 rfl (Or.inr ⟨_, rfl⟩) k) ?_
  refine S_getfield d_Cu_doubleTimes_90 fg_Cu_36 (w77 _) rfl ?_
  refine ST.lift (fun _ _ k => T_aload_n (v := .ref 77) d_Cu_doubleTimes_93 rfl (Or.inr ⟨_, rfl⟩) k) ?_
  refine S_getfield d_Cu_doubleTimes_94 fg_Cu_40 (w77 _) rfl ?_
  refine S_static (as := [.ref 100, .ref 94, .ref 95]) (rest := []) d_Cu_doubleTimes_97 rfl (jw_Fi_add.jo (by decide)) lm_Cu_77 jt_Fi_add rfl (Nat.le_of_ble_eq_true rfl) (by decide) (by decide) (c_Fi_add G v 100 (by decide) a100 94 a94 95 a95) (fun r v' hq => ?_)
  rw [hq.1, hq.2]
  clear hq r v'
  show ST G mi_Cu_doubleTimes 100 [(3, .int (nI 2)), (0, .ref 77), (1, .ref p), (2, .int (nI 4))] [] v 0 0 _
  refine ST.lift (fun _ _ k => T_aload_n (v := .ref 77) d_Cu_doubleTimes_100 rfl (Or.inr ⟨_, rfl⟩) k) ?_
  refine S_getfield d_Cu_doubleTimes_101 fg_Cu_46 (w77 _) rfl ?_
  refine ST.lift (fun _ _ k => T_aload_n (v := .ref 77) d_Cu_doubleTimes_104 rfl (Or.inr ⟨_, rfl⟩) k) ?_
  refine S_getfield d_Cu_doubleTimes_105 fg_Cu_46 (w77 _) rfl ?_
  refine ST.lift (fun _ _ k => T_aload_n (v := .ref 77) d_Cu_doubleTimes_108 rfl (Or.inr ⟨_, rfl⟩) k) ?_
  refine S_getfield d_Cu_doubleTimes_109 fg_Cu_55 (w77 _) rfl ?_
  refine S_static (as := [.ref 97, .ref 97, .ref 100]) (rest := []) d_Cu_doubleTimes_112 rfl (jw_Fi_subtract.jo (by decide)) lm_Cu_70 jt_Fi_subtract rfl (Nat.le_of_ble_eq_true rfl) (by decide) (by decide) (c_Fi_subtract G v 97 (by decide) a97 97 a97 100 a100) (fun r v' hq => ?_)
  rw [hq.1, hq.2]
  clear hq r v'
  show ST G mi_Cu_doubleTimes 115 [(3, .int (nI 2)), (0, .ref 77), (1, .ref p), (2, .int (nI 4))] [] v 0 0 _
  refine ST.lift (fun _ _ k => T_aload_n (v := .ref 77) d_Cu_doubleTimes_115 rfl (Or.inr ⟨_, rfl⟩) k) ?_
  refine S_getfield d_Cu_doubleTimes_116 fg_Cu_52 (w77 _) rfl ?_
  refine ST.lift (fun _ _ k => T_aload_n (v := .ref 77) d_Cu_doubleTimes_119 rfl (Or.inr ⟨_, rfl⟩) k) ?_
  refine S_getfield d_Cu_doubleTimes_120 fg_Cu_40 (w77 _) rfl ?_
  refine ST.lift (fun _ _ k => T_aload_n (v := .ref 77) d_Cu_doubleTimes_123 rfl (Or.inr ⟨_, rfl⟩) k) ?_
  refine S_getfield d_Cu_doubleTimes_124 fg_Cu_36 (w77 _) rfl ?_
  refine S_static (as := [.ref 99, .ref 95, .ref 94]) (rest := []) d_Cu_doubleTimes_127 rfl (jw_Fi_subtract.jo (by decide)) lm_Cu_70 jt_Fi_subtract rfl (Nat.le_of_ble_eq_true rfl) (by decide) (by decide) (c_Fi_subtract G v 99 (by decide) a99 95 a95 94 a94) (fun r v' hq => ?_)
  rw [hq.1, hq.2]
  clear hq r v'
  show ST G mi_Cu_doubleTimes 130 [(3, .int (nI 2)), (0, .ref 77), (1, .ref p), (2, .int (nI 4))] [] v 0 0 _
  refine ST.lift (fun _ _ k => T_aload_n (v := .ref 77) d_Cu_doubleTimes_130 rfl (Or.inr ⟨_, rfl⟩) k) ?_
  refine S_getfield d_Cu_doubleTimes_131 fg_Cu_49 (w77 _) rfl ?_
  refine ST.lift (fun _ _ k => T_aload_n (v := .ref 77) d_Cu_doubleTimes_134 rfl (Or.inr ⟨_, rfl⟩) k) ?_
  refine S_getfield d_Cu_doubleTimes_135 fg_Cu_43 (w77 _) rfl ?_
  refine ST.lift (fun _ _ k => T_aload_n (v := .ref 77) d_Cu_doubleTimes_138 rfl (Or.inr ⟨_, rfl⟩) k) ?_
  refine S_getfield d_Cu_doubleTimes_139 fg_Cu_52 (w77 _) rfl ?_
  refine S_static (as := [.ref 98, .ref 96, .ref 99]) (rest := []) d_Cu_doubleTimes_142 rfl (jw_Fi_subtract.jo (by decide)) lm_Cu_70 jt_Fi_subtract rfl (Nat.le_of_ble_eq_true rfl) (by decide) (by decide) (c_Fi_subtract G v 98 (by decide) a98 96 a96 99 a99) (fun r v' hq => ?_)
  rw [hq.1, hq.2]
  clear hq r v'
  show ST G mi_Cu_doubleTimes 145 [(3, .int (nI 2)), (0, .ref 77), (1, .ref p), (2, .int (nI 4))] [] v 0 0 _
  refine ST.lift (fun _ _ k => T_aload_n (v := .ref p) d_Cu_doubleTimes_145 rfl (Or.inr ⟨_, rfl⟩) k) ?_
  refine S_getfield d_Cu_doubleTimes_146 fg_Cu_67 (p_p.1 _) rfl ?_
  refine ST.lift (fun _ _ k => T_aload_n (v := .ref 77) d_Cu_doubleTimes_149 rfl (Or.inr ⟨_, rfl⟩) k) ?_
  refine S_getfield d_Cu_doubleTimes_150 fg_Cu_46 (w77 _) rfl ?_
  refine ST.lift (fun _ _ k => T_aload_n (v := .ref 77) d_Cu_doubleTimes_153 rfl (Or.inr ⟨_, rfl⟩) k) ?_
  refine S_getfield d_Cu_doubleTimes_154 fg_Cu_49 (w77 _) rfl ?_
  refine S_static (as := [.ref px, .ref 97, .ref 98]) (rest := []) d_Cu_doubleTimes_157 rfl (jw_Fi_multiply.jo (by decide)) lm_Cu_74 jt_Fi_multiply rfl (Nat.le_of_ble_eq_true rfl) (by decide) (by decide) (c_Fi_multiply G v px p_p.2.2.2.2.2.1 p_p.2.1 97 a97 98 a98) (fun r v' hq => ?_)
  rw [hq.1, hq.2]
  clear hq r v'
  show ST G mi_Cu_doubleTimes 160 [(3, .int (nI 2)), (0, .ref 77), (1, .ref p), (2, .int (nI 4))] [] v 0 0 _
  refine ST.lift (fun _ _ k => T_aload_n (v := .ref p) d_Cu_doubleTimes_160 rfl (Or.inr ⟨_, rfl⟩) k) ?_
  refine S_getfield d_Cu_doubleTimes_161 fg_Cu_64 (p_p.1 _) rfl ?_
  refine ST.lift (fun _ _ k => T_aload_n (v := .ref 77) d_Cu_doubleTimes_164 rfl (Or.inr ⟨_, rfl⟩) k) ?_
  refine S_getfield d_Cu_doubleTimes_165 fg_Cu_52 (w77 _) rfl ?_
  refine ST.lift (fun _ _ k => T_aload_n (v := .ref 77) d_Cu_doubleTimes_168 rfl (Or.inr ⟨_, rfl⟩) k) ?_
  refine S_getfield d_Cu_doubleTimes_169 fg_Cu_55 (w77 _) rfl ?_
  refine S_static (as := [.ref py, .ref 99, .ref 100]) (rest := []) d_Cu_doubleTimes_172 rfl (jw_Fi_multiply.jo (by decide)) lm_Cu_74 jt_Fi_multiply rfl (Nat.le_of_ble_eq_true rfl) (by decide) (by decide) (c_Fi_multiply G v py p_p.2.2.2.2.2.2.1 p_p.2.2.1 99 a99 100 a100) (fun r v' hq => ?_)
  rw [hq.1, hq.2]
  clear hq r v'
  show ST G mi_Cu_doubleTimes 175 [(3, .int (nI 2)), (0, .ref 77), (1, .ref p), (2, .int (nI 4))] [] v 0 0 _
  refine ST.lift (fun _ _ k => T_aload_n (v := .ref p) d_Cu_doubleTimes_175 rfl (Or.inr ⟨_, rfl⟩) k) ?_
  refine S_getfield d_Cu_doubleTimes_176 fg_Cu_86 (p_p.1 _) rfl ?_
  refine ST.lift (fun _ _ k => T_aload_n (v := .ref 77) d_Cu_doubleTimes_179 rfl (Or.inr ⟨_, rfl⟩) k) ?_
  refine S_getfield d_Cu_doubleTimes_180 fg_Cu_49 (w77 _) rfl ?_
  refine ST.lift (fun _ _ k => T_aload_n (v := .ref 77) d_Cu_doubleTimes_183 rfl (Or.inr ⟨_, rfl⟩) k) ?_
  refine S_getfield d_Cu_doubleTimes_184 fg_Cu_52 (w77 _) rfl ?_
  refine S_static (as := [.ref pz, .ref 98, .ref 99]) (rest := []) d_Cu_doubleTimes_187 rfl (jw_Fi_multiply.jo (by decide)) lm_Cu_74 jt_Fi_multiply rfl (Nat.le_of_ble_eq_true rfl) (by decide) (by decide) (c_Fi_multiply G v pz p_p.2.2.2.2.2.2.2.1 p_p.2.2.2.1 98 a98 99 a99) (fun r v' hq => ?_)
  rw [hq.1, hq.2]
  clear hq r v'
  show ST G mi_Cu_doubleTimes 190 [(3, .int (nI 2)), (0, .ref 77), (1, .ref p), (2, .int (nI 4))] [] v 0 0 _
  refine S_iincN (a := 2) (b := 1) (L' := [(3, .int (nI 3)), (0, .ref 77), (1, .ref p), (2, .int (nI 4))]) d_Cu_doubleTimes_190 (by decide) rfl rfl rfl ?_
  refine ST.lift (fun _ _ k => T_goto (tgt := 2) d_Cu_doubleTimes_193 rfl k) ?_
  refine ST.lift (fun _ _ k => T_iload_n d_Cu_doubleTimes_2 rfl k) ?_
  refine ST.lift (fun _ _ k => T_iload_n d_Cu_doubleTimes_3 rfl k) ?_
  refine S_icmp_geN d_Cu_doubleTimes_4 rfl (by omega) (by omega) (fun c => by first | exact absurd c (by omega) | exact c.elim | exact absurd c (by decide) | exact absurd (by assumption) c | exact absurd c (by assumption)) (fun _ => ?_)
  refine ST.lift (fun _ _ k => T_aload_n (v := .ref 77) d_Cu_doubleTimes_7 rfl (Or.inr ⟨_, rfl⟩) k) ?_
  refine S_getfield d_Cu_doubleTimes_8 fg_Cu_36 (w77 _) rfl ?_
  refine ST.lift (fun _ _ k => T_aload_n (v := .ref p) d_Cu_doubleTimes_11 rfl (Or.inr ⟨_, rfl⟩) k) ?_
  refine S_getfield d_Cu_doubleTimes_12 fg_Cu_67 (p_p.1 _) rfl ?_
  refine ST.lift (fun _ _ k => T_iconst (v := nI 1) d_Cu_doubleTimes_15 (by decide) k) ?_
  refine S_static (as := [.ref 94, .ref px, .int (nI 1)]) (rest := []) d_Cu_doubleTimes_16 rfl (jw_Fi_square.jo (by decide)) lm_Cu_89 jt_Fi_square rfl (Nat.le_of_ble_eq_true rfl) (by decide) (by decide) (c_Fi_square G v 94 (by decide) a94 px p_p.2.1 1 (by omega)) (fun r v' hq => ?_)
  rw [hq.1, hq.2]
  clear hq r v'
  show ST G mi_Cu_doubleTimes 19 [(3, .int (nI 3)), (0, .ref 77), (1, .ref p), (2, .int (nI 4))] [] v 0 0 _
  refine ST.lift (fun _ _ k => T_aload_n (v := .ref 77) d_Cu_doubleTimes_19 rfl (Or.inr ⟨_, rfl⟩) k) ?_
  refine S_getfield d_Cu_doubleTimes_20 fg_Cu_40 (w77 _) rfl ?_
  refine ST.lift (fun _ _ k => T_aload_n (v := .ref p) d_Cu_doubleTimes_23 rfl (Or.inr ⟨_, rfl⟩) k) ?_
  refine S_getfield d_Cu_doubleTimes_24 fg_Cu_64 (p_p.1 _) rfl ?_
  refine ST.lift (fun _ _ k => T_iconst (v := nI 1) d_Cu_doubleTimes_27 (by decide) k) ?_
  refine S_static (as := [.ref 95, .ref py, .int (nI 1)]) (rest := []) d_Cu_doubleTimes_28 rfl (jw_Fi_square.jo (by decide)) lm_Cu_89 jt_Fi_square rfl (Nat.le_of_ble_eq_true rfl) (by decide) (by decide) (c_Fi_square G v 95 (by decide) a95 py p_p.2.2.1 1 (by omega)) (fun r v' hq => ?_)
  rw [hq.1, hq.2]
  clear hq r v'
  show ST G mi_Cu_doubleTimes 31 [(3, .int (nI 3)), (0, .ref 77), (1, .ref p), (2, .int (nI 4))] [] v 0 0 _
  refine ST.lift (fun _ _ k => T_aload_n (v := .ref 77) d_Cu_doubleTimes_31 rfl (Or.inr ⟨_, rfl⟩) k) ?_
  refine S_getfield d_Cu_doubleTimes_32 fg_Cu_43 (w77 _) rfl ?_
  refine ST.lift (fun _ _ k => T_aload_n (v := .ref p) d_Cu_doubleTimes_35 rfl (Or.inr ⟨_, rfl⟩) k) ?_
  refine S_getfield d_Cu_doubleTimes_36 fg_Cu_86 (p_p.1 _) rfl ?_
  refine ST.lift (fun _ _ k => T_iconst (v := nI 1) d_Cu_doubleTimes_39 (by decide) k) ?_
  refine S_static (as := [.ref 96, .ref pz, .int (nI 1)]) (rest := []) d_Cu_doubleTimes_40 rfl (jw_Fi_square.jo (by decide)) lm_Cu_89 jt_Fi_square rfl (Nat.le_of_ble_eq_true rfl) (by decide) (by decide) (c_Fi_square G v 96 (by decide) a96 pz p_p.2.2.2.1 1 (by omega)) (fun r v' hq => ?_)
  rw [hq.1, hq.2]
  clear hq r v'
  show ST G mi_Cu_doubleTimes 43 [(3, .int (nI 3)), (0, .ref 77), (1, .ref p), (2, .int (nI 4))] [] v 0 0 _
  refine ST.lift (fun _ _ k => T_aload_n (v := .ref 77) d_Cu_doubleTimes_43 rfl (Or.inr ⟨_, rfl⟩) k) ?_
  refine S_getfield d_Cu_doubleTimes_44 fg_Cu_43 (w77 _) rfl ?_
  refine ST.lift (fun _ _ k => T_aload_n (v := .ref 77) d_Cu_doubleTimes_47 rfl (Or.inr ⟨_, rfl⟩) k) ?_
  refine S_getfield d_Cu_doubleTimes_48 fg_Cu_43 (w77 _) rfl ?_
  refine ST.lift (fun _ _ k => T_aload_n (v := .ref 77) d_Cu_doubleTimes_51 rfl (Or.inr ⟨_, rfl⟩) k) ?_
  refine S_getfield d_Cu_doubleTimes_52 fg_Cu_43 (w77 _) rfl ?_
  refine S_static (as := [.ref 96, .ref 96, .ref 96]) (rest := []) d_Cu_doubleTimes_55 rfl (jw_Fi_add.jo (by decide)) lm_Cu_77 jt_Fi_add rfl (Nat.le_of_ble_eq_true rfl) (by decide) (by decide) (c_Fi_add G v 96 (by decide) a96 96 a96 96 a96) (fun r v' hq => ?_)
  rw [hq.1, hq.2]
  clear hq r v'
  show ST G mi_Cu_doubleTimes 58 [(3, .int (nI 3)), (0, .ref 77), (1, .ref p), (2, .int (nI 4))] [] v 0 0 _
  refine ST.lift (fun _ _ k => T_aload_n (v := .ref 77) d_Cu_doubleTimes_58 rfl (Or.inr ⟨_, rfl⟩) k) ?_
  refine S_getfield d_Cu_doubleTimes_59 fg_Cu_46 (w77 _) rfl ?_
  refine ST.lift (fun _ _ k => T_aload_n (v := .ref p) d_Cu_doubleTimes_62 rfl (Or.inr ⟨_, rfl⟩) k) ?_
  refine S_getfield d_Cu_doubleTimes_63 fg_Cu_67 (p_p.1 _) rfl ?_
  refine ST.lift (fun _ _ k => T_aload_n (v := .ref p) d_Cu_doubleTimes_66 rfl (Or.inr ⟨_, rfl⟩) k) ?_
  refine S_getfield d_Cu_doubleTimes_67 fg_Cu_64 (p_p.1 _) rfl ?_
  refine S_static (as := [.ref 97, .ref px, .ref py]) (rest := []) d_Cu_doubleTimes_70 rfl (jw_Fi_add.jo (by decide)) lm_Cu_77 jt_Fi_add rfl (Nat.le_of_ble_eq_true rfl) (by decide) (by decide) (c_Fi_add G v 97 (by decide) a97 px p_p.2.1 py p_p.2.2.1) (fun r v' hq => ?_)
  rw [hq.1, hq.2]
  clear hq r v'
  show ST G mi_Cu_doubleTimes 73 [(3, .int (nI 3)), (0, .ref 77), (1, .ref p), (2, .int (nI 4))] [] v 0 0 _
  refine ST.lift (fun _ _ k => T_aload_n (v := .ref 77) d_Cu_doubleTimes_73 rfl (Or.inr ⟨_, rfl⟩) k) ?_
  refine S_getfield d_Cu_doubleTimes_74 fg_Cu_46 (w77 _) rfl ?_
  refine ST.lift (fun _ _ k => T_aload_n (v := .ref 77) d_Cu_doubleTimes_77 rfl (Or.inr ⟨_, rfl⟩) k) ?_
  refine S_getfield d_Cu_doubleTimes_78 fg_Cu_46 (w77 _) rfl ?_
  refine ST.lift (fun _ _ k => T_iconst (v := nI 1) d_Cu_doubleTimes_81 (by decide) k) ?_
  refine S_static (as := [.ref 97, .ref 97, .int (nI 1)]) (rest := []) d_Cu_doubleTimes_82 rfl (jw_Fi_square.jo (by decide)) lm_Cu_89 jt_Fi_square rfl (Nat.le_of_ble_eq_true rfl) (by decide) (by decide) (c_Fi_square G v 97 (by decide) a97 97 a97 1 (by omega)) (fun r v' hq => ?_)
  rw [hq.1, hq.2]
  clear hq r v'
  show ST G mi_Cu_doubleTimes 85 [(3, .int (nI 3)), (0, .ref 77), (1, .ref p), (2, .int (nI 4))] [] v 0 0 _
  refine ST.lift (fun _ _ k => T_aload_n (v := .ref 77) d_Cu_doubleTimes_85 rfl (Or.inr ⟨_, rfl⟩) k) ?_
  refine S_getfield d_Cu_doubleTimes_86 fg_Cu_55 (w77 _) rfl ?_
  refine ST.lift (fun _ _ k => T_aload_n (v := .ref 77) d_Cu_doubleTimes_89 rfl (Or.inr ⟨_, rfl⟩) k) ?_
  refine S_getfield d_Cu_doubleTimes_90 fg_Cu_36 (w77 _) rfl ?_
  refine ST.lift (fun _ _ k => T_aload_n (v := .ref 77) d_Cu_doubleTimes_93 rfl (Or.inr ⟨_, rfl⟩) k) ?_
  refine S_getfield d_Cu_doubleTimes_94 fg_Cu_40 (w77 _) rfl ?_
  refine S_static (as := [.ref 100, .ref 94, .ref 95]) (rest := []) d_Cu_doubleTimes_97 rfl (jw_Fi_add.jo (by decide)) lm_Cu_77 jt_Fi_add rfl (Nat.le_of_ble_eq_true rfl) (by decide) (by decide) (c_Fi_add G v 100 (by decide) a100 94 a94 95 a95) (fun r v' hq => ?_)
  rw [hq.1, hq.2]
  clear hq r v'
  show ST G mi_Cu_doubleTimes 100 [(3, .int (nI 3)), (0, .ref 77), (1, .ref p), (2, .int (nI 4))] [] v 0 0 _
  refine ST.lift (fun _ _ k => T_aload_n (v := .ref 77) d_Cu_doubleTimes_100 rfl (Or.inr ⟨_, rfl⟩) k) ?_
  refine S_getfield d_Cu_doubleTimes_101 fg_Cu_46 (w77 _) rfl ?_
  refine ST.lift (fun _ _ k => T_aload_n (v := .ref 77) d_Cu_doubleTimes_104 rfl (Or.inr ⟨_, rfl⟩) k) ?_
  refine S_getfield d_Cu_doubleTimes_105 fg_Cu_46 (w77 _) rfl ?_
  refine ST.lift (fun _ _ k => T_aload_n (v := .ref 77) d_Cu_doubleTimes_108 rfl (Or.inr ⟨_, rfl⟩) k) ?_
  refine S_getfield d_Cu_doubleTimes_109 fg_Cu_55 (w77 _) rfl ?_
  refine S_static (as := [.ref 97, .ref 97, .ref 100]) (rest := []) d_Cu_doubleTimes_112 rfl (jw_Fi_subtract.jo (by decide)) lm_Cu_70 jt_Fi_subtract rfl (Nat.le_of_ble_eq_true rfl) (by decide) (by decide) (c_Fi_subtract G v 97 (by decide) a97 97 a97 100 a100) (fun r v' hq => ?_)
  rw [hq.1, hq.2]
  clear hq r v'
  show ST G mi_Cu_doubleTimes 115 [(3, .int (nI 3)), (0, .ref 77), (1, .ref p), (2, .int (nI 4))] [] v 0 0 _
  refine ST.lift (fun _ _ k => T_aload_n (v := .ref 77) d_Cu_doubleTimes_115 rfl (Or.inr ⟨_, rfl⟩) k) ?_
  refine S_getfield d_Cu_doubleTimes_116 fg_Cu_52 (w77 _) rfl ?_
  refine ST.lift (fun _ _ k => T_aload_n (v := .ref 77) d_Cu_doubleTimes_119 rfl (Or.inr ⟨_, rfl⟩) k) ?_
  refine S_getfield d_Cu_doubleTimes_120 fg_Cu_40 (w77 _) rfl ?_
  refine ST.lift (fun _ _ k => T_aload_n (v := .ref 77) d_Cu_doubleTimes_123 rfl (Or.inr ⟨_, rfl⟩) k) ?_
  refine S_getfield d_Cu_doubleTimes_124 fg_Cu_36 (w77 _) rfl ?_
  refine S_static (as := [.ref 99, .ref 95, .ref 94]) (rest := []) d_Cu_doubleTimes_127 rfl (jw_Fi_subtract.jo (by decide)) lm_Cu_70 jt_Fi_subtract rfl (Nat.le_of_ble_eq_true rfl) (by decide) (by decide) (c_Fi_subtract G v 99 (by decide) a99 95 a95 94 a94) (fun r v' hq => ?_)
  rw [hq.1, hq.2]
  clear hq r v'
  show ST G mi_Cu_doubleTimes 130 [(3, .int (nI 3)), (0, .ref 77), (1, .ref p), (2, .int (nI 4))] [] v 0 0 _
  refine ST.lift (fun _ _ k => T_aload_n (v := .ref 77) d_Cu_doubleTimes_130 rfl (Or.inr ⟨_, rfl⟩) k) ?_
  refine S_getfield d_Cu_doubleTimes_131 fg_Cu_49 (w77 _) rfl ?_
  refine ST.lift (fun _ _ k => T_aload_n (v := .ref 77) d_Cu_doubleTimes_134 rfl (Or.inr ⟨_, rfl⟩) k) ?_
  refine S_getfield d_Cu_doubleTimes_135 fg_Cu_43 (w77 _) rfl ?_
  refine ST.lift (fun _ _ k => T_aload_n (v := .ref 77) d_Cu_doubleTimes_138 rfl (Or.inr ⟨_, rfl⟩) k) ?_
  refine S_getfield d_Cu_doubleTimes_139 fg_Cu_52 (w77 _) rfl ?_
  refine S_static (as := [.ref 98, .ref 96, .ref 99]) (rest := []) d_Cu_doubleTimes_142 rfl (jw_Fi_subtract.jo (by decide)) lm_Cu_70 jt_Fi_subtract rfl (Nat.le_of_ble_eq_true rfl) (by decide) (by decide) (c_Fi_subtract G v 98 (by decide) a98 96 a96 99 a99) (fun r v' hq => ?_)
  rw [hq.1, hq.2]
  clear hq r v'
  show ST G mi_Cu_doubleTimes 145 [(3, .int (nI 3)), (0, .ref 77), (1, .ref p), (2, .int (nI 4))] [] v 0 0 _
  refine ST.lift (fun _ _ k => T_aload_n (v := .ref p) d_Cu_doubleTimes_145 rfl (Or.inr ⟨_, rfl⟩) k) ?_
  refine S_getfield d_Cu_doubleTimes_146 fg_Cu_67 (p_p.1 _) rfl ?_
  refine ST.lift (fun _ _ k => T_aload_n (v := .ref 77) d_Cu_doubleTimes_149 rfl (Or.inr ⟨_, rfl⟩) k) ?_
  refine S_getfield d_Cu_doubleTimes_150 fg_Cu_46 (w77 _) rfl ?_
  refine ST.lift (fun _ _ k => T_aload_n (v := .ref 77) d_Cu_doubleTimes_153 rfl (Or.inr ⟨_, rfl⟩) k) ?_
  refine S_getfield d_Cu_doubleTimes_154 fg_Cu_49 (w77 _) rfl ?_
  refine S_static (as := [.ref px, .ref 97, .ref 98]) (rest := []) d_Cu_doubleTimes_157 rfl (jw_Fi_multiply.jo (by decide)) lm_Cu_74 jt_Fi_multiply rfl (Nat.le_of_ble_eq_true rfl) (by decide) (by decide) (c_Fi_multiply G v px p_p.2.2.2.2.2.1 p_p.2.1 97 a97 98 a98) (fun r v' hq => ?_)
  rw [hq.1, hq.2]
  clear hq r v'
  show ST G mi_Cu_doubleTimes 160 [(3, .int (nI 3)), (0, .ref 77), (1, .ref p), (2, .int (nI 4))] [] v 0 0 _
  refine ST.lift (fun _ _ k => T_aload_n (v := .ref p) d_Cu_doubleTimes_160 rfl (Or.inr ⟨_, rfl⟩) k) ?_
  refine S_getfield d_Cu_doubleTimes_161 fg_Cu_64 (p_p.1 _) rfl ?_
  refine ST.lift (fun _ _ k => T_aload_n (v := .ref 77) d_Cu_doubleTimes_164 rfl (Or.inr ⟨_, rfl⟩) k) ?_
  refine S_getfield d_Cu_doubleTimes_165 fg_Cu_52 (w77 _) rfl ?_
  refine ST.lift (fun _ _ k => T_aload_n (v := .ref 77) d_Cu_doubleTimes_168 rfl (Or.inr ⟨_, rfl⟩) k) ?_
  refine S_getfield d_Cu_doubleTimes_169 fg_Cu_55 (w77 _) rfl ?_
  refine S_static (as := [.ref py, .ref 99, .ref 100]) (rest := []) d_Cu_doubleTimes_172 rfl (jw_Fi_multiply.jo (by decide)) lm_Cu_74 jt_Fi_multiply rfl (Nat.le_of_ble_eq_true rfl) (by decide) (by decide) (c_Fi_multiply G v py p_p.2.2.2.2.2.2.1 p_p.2.2.1 99 a99 100 a100) (fun r v' hq => ?_)
  rw [hq.1, hq.2]
  clear hq r v'
  show ST G mi_Cu_doubleTimes 175 [(3, .int (nI 3)), (0, .ref 77), (1, .ref p), (2, .int (nI 4))] [] v 0 0 _
  refine ST.lift (fun _ _ k => T_aload_n (v := .ref p) d_Cu_doubleTimes_175 rfl (Or.inr ⟨_, rfl⟩) k) ?_
  refine S_getfield d_Cu_doubleTimes_176 fg_Cu_86 (p_p.1 _) rfl ?_
  refine ST.lift (fun _ _ k => T_aload_n (v := .ref 77) d_Cu_doubleTimes_179 rfl (Or.inr ⟨_, rfl⟩) k) ?_
  refine S_getfield d_Cu_doubleTimes_180 fg_Cu_49 (w77 _) rfl ?_
  refine ST.lift (fun _ _ k => T_aload_n (v := .ref 77) d_Cu_doubleTimes_183 rfl (Or.inr ⟨_, rfl⟩) k) ?_
  refine S_getfield d_Cu_doubleTimes_184 fg_Cu_52 (w77 _) rfl ?_
  refine S_static (as := [.ref pz, .ref 98, .ref 99]) (rest := []) d_Cu_doubleTimes_187 rfl (jw_Fi_multiply.jo (by decide)) lm_Cu_74 jt_Fi_multiply rfl (Nat.le_of_ble_eq_true rfl) (by decide) (by decide) (c_Fi_multiply G v pz p_p.2.2.2.2.2.2.2.1 p_p.2.2.2.1 98 a98 99 a99) (fun r v' hq => ?_)
  rw [hq.1, hq.2]
  clear hq r v'
  show ST G mi_Cu_doubleTimes 190 [(3, .int (nI 3)), (0, .ref 77), (1, .ref p), (2, .int (nI 4))] [] v 0 0 _
  refine S_iincN (a := 3) (b := 1) (L' := [(3, .int (nI 4)), (0, .ref 77), (1, .ref p), (2, .int (nI 4))]) d_Cu_doubleTimes_190 (by decide) rfl rfl rfl ?_
  refine ST.lift (fun _ _ k => T_goto (tgt := 2) d_Cu_doubleTimes_193 rfl k) ?_
  refine ST.lift (fun _ _ k => T_iload_n d_Cu_doubleTimes_2 rfl k) ?_
  refine ST.lift (fun _ _ k => T_iload_n d_Cu_doubleTimes_3 rfl k) ?_
  refine S_icmp_geN d_Cu_doubleTimes_4 rfl (by omega) (by omega) (fun _ => ?_) (fun c => by first | exact absurd c (by omega) | exact c.elim | exact absurd c (by decide) | exact absurd (by assumption) c | exact absurd c (by assumption))
  refine ST.lift (fun _ _ k => T_aload_n (v := .ref p) d_Cu_doubleTimes_196 rfl (Or.inr ⟨_, rfl⟩) k) ?_
  refine S_getfield d_Cu_doubleTimes_197 fg_Cu_80 (p_p.1 _) rfl ?_
  refine ST.lift (fun _ _ k => T_aload_n (v := .ref 77) d_Cu_doubleTimes_200 rfl (Or.inr ⟨_, rfl⟩) k) ?_
  refine S_getfield d_Cu_doubleTimes_201 fg_Cu_46 (w77 _) rfl ?_
  refine ST.lift (fun _ _ k => T_aload_n (v := .ref 77) d_Cu_doubleTimes_204 rfl (Or.inr ⟨_, rfl⟩) k) ?_
  refine S_getfield d_Cu_doubleTimes_205 fg_Cu_55 (w77 _) rfl ?_
  refine S_static (as := [.ref pt, .ref 97, .ref 100]) (rest := []) d_Cu_doubleTimes_208 rfl (jw_Fi_multiply.jo (by decide)) lm_Cu_74 jt_Fi_multiply rfl (Nat.le_of_ble_eq_true rfl) (by decide) (by decide) (c_Fi_multiply G v pt p_p.2.2.2.2.2.2.2.2 p_p.2.2.2.2.1 97 a97 100 a100) (fun r v' hq => ?_)
  rw [hq.1, hq.2]
  clear hq r v'
  show ST G mi_Cu_doubleTimes 211 [(3, .int (nI 4)), (0, .ref 77), (1, .ref p), (2, .int (nI 4))] [] v 0 0 _
  exact S_vret d_Cu_doubleTimes_211 rfl (by decide) (by decide) hQ
set_option maxRecDepth 100000 in
set_option maxHeartbeats 4000000 in
theorem c_Cu_multiply (G : GX) (v : Nat → Int32) (o ox oy oz ot : Nat) (p_o : isPt o ox oy oz ot) (s m : Nat) (w_s : K0 ≤ s) (a_s : aB s m) (l_s : m ≤ 2000) (p px py pz pt : Nat) (p_p : isPt p px py pz pt) (h32 : 32 ≤ m) : CS G mi_Cu_multiply [.ref 77, .ref o, .ref s, .ref p] v (fun r v' => r = none ∧ v' = v) := by
  refine CS.of (by decide) (Nat.le_of_ble_eq_true rfl) ?_
  generalize hQe : (fun (r : Option Value) (v' : Nat → Int32) => r = none ∧ v' = v) = Q
  have hQ : Q none v := by rw [← hQe]; exact ⟨rfl, rfl⟩
  clear hQe
  show ST G mi_Cu_multiply 0 [(0, .ref 77), (1, .ref o), (2, .ref s), (3, .ref p)] [] v 0 0 Q
  refine ST.lift (fun _ _ k => T_aload_n (v := .ref 77) d_Cu_multiply_0 rfl (Or.inr ⟨_, rfl⟩) k) ?_
  refine S_getfield d_Cu_multiply_1 fg_Cu_18 (w77 _) rfl ?_
  refine ST.lift (fun _ _ k => T_iconst (v := nI 1) d_Cu_multiply_4 (by decide) k) ?_
  refine S_aaload (C0 := "PasswordGate$Point") d_Cu_multiply_5 (by decide) (w86 _) rfl (vp_in_nI (by omega) (by omega)) ?_
  refine ST.lift (fun _ _ k => T_aload_n (v := .ref p) d_Cu_multiply_6 rfl (Or.inr ⟨_, rfl⟩) k) ?_
  refine S_virtual (as := [.ref p]) (rest := []) (b := 108) d_Cu_multiply_7 rfl (jw_Po_copy.jo (by decide)) lm_Cu_93 ji_Po_copy js_Po_copy (w108 _) rfl rfl rfl (Nat.le_of_ble_eq_true rfl) (by decide) (by decide) (c_Po_copy G v 108 109 110 111 112 ⟨w108, a109, a110, a111, a112, by decide, by decide, by decide, by decide⟩ p px py pz pt p_p) (fun r v' hq => ?_)
  rw [hq.1, hq.2]
  clear hq r v'
  show ST G mi_Cu_multiply 10 [(0, .ref 77), (1, .ref o), (2, .ref s), (3, .ref p)] [] v 0 0 _
  refine ST.lift (fun _ _ k => T_iconst (v := nI 2) d_Cu_multiply_10 (by decide) k) ?_
  refine ST.lift (fun _ _ k => T_istore (L' := [(4, .int (nI 2)), (0, .ref 77), (1, .ref o), (2, .ref s), (3, .ref p)]) d_Cu_multiply_11 (by decide) rfl k) ?_
  refine ST.lift (fun _ _ k => T_iload d_Cu_multiply_13 rfl k) ?_
  refine ST.lift (fun _ _ k => T_bipush (v := nI 16) d_Cu_multiply_15 (by decide) k) ?_
  refine S_icmp_geN d_Cu_multiply_17 rfl (by omega) (by omega) (fun c => by first | exact absurd c (by omega) | exact c.elim | exact absurd c (by decide) | exact absurd (by assumption) c | exact absurd c (by assumption)) (fun _ => ?_)
  refine ST.lift (fun _ _ k => T_aload_n (v := .ref 77) d_Cu_multiply_20 rfl (Or.inr ⟨_, rfl⟩) k) ?_
  refine ST.lift (fun _ _ k => T_aload_n (v := .ref 77) d_Cu_multiply_21 rfl (Or.inr ⟨_, rfl⟩) k) ?_
  refine S_getfield d_Cu_multiply_22 fg_Cu_18 (w77 _) rfl ?_
  refine ST.lift (fun _ _ k => T_iload d_Cu_multiply_25 rfl k) ?_
  refine S_aaload (C0 := "PasswordGate$Point") d_Cu_multiply_27 (by decide) (w86 _) rfl (vp_in_nI (by omega) (by omega)) ?_
  refine ST.lift (fun _ _ k => T_aload_n (v := .ref 77) d_Cu_multiply_28 rfl (Or.inr ⟨_, rfl⟩) k) ?_
  refine S_getfield d_Cu_multiply_29 fg_Cu_18 (w77 _) rfl ?_
  refine ST.lift (fun _ _ k => T_iload d_Cu_multiply_32 rfl k) ?_
  refine ST.lift (fun _ _ k => T_iconst (v := nI 1) d_Cu_multiply_34 (by decide) k) ?_
  refine S_isubN d_Cu_multiply_35 (by omega) ?_
  refine S_topi (y := nI 1) (by decide) ?_
  refine S_aaload (C0 := "PasswordGate$Point") d_Cu_multiply_36 (by decide) (w86 _) rfl (vp_in_nI (by omega) (by omega)) ?_
  refine ST.lift (fun _ _ k => T_aload_n (v := .ref 77) d_Cu_multiply_37 rfl (Or.inr ⟨_, rfl⟩) k) ?_
  refine S_getfield d_Cu_multiply_38 fg_Cu_18 (w77 _) rfl ?_
  refine ST.lift (fun _ _ k => T_iconst (v := nI 1) d_Cu_multiply_41 (by decide) k) ?_
  refine S_aaload (C0 := "PasswordGate$Point") d_Cu_multiply_42 (by decide) (w86 _) rfl (vp_in_nI (by omega) (by omega)) ?_
  refine S_virtual (as := [.ref 113, .ref 108, .ref 108]) (rest := []) (b := 77) d_Cu_multiply_43 rfl (jw_Cu_add.jo (by decide)) lm_Cu_97 ji_Cu_add js_Cu_add (w77 _) rfl rfl rfl (Nat.le_of_ble_eq_true rfl) (by decide) (by decide) (c_Cu_add G v 113 114 115 116 117 ⟨w113, a114, a115, a116, a117, by decide, by decide, by decide, by decide⟩ 108 109 110 111 112 ⟨w108, a109, a110, a111, a112, by decide, by decide, by decide, by decide⟩ 108 109 110 111 112 ⟨w108, a109, a110, a111, a112, by decide, by decide, by decide, by decide⟩) (fun r v' hq => ?_)
  rw [hq.1, hq.2]
  clear hq r v'
  show ST G mi_Cu_multiply 46 [(4, .int (nI 2)), (0, .ref 77), (1, .ref o), (2, .ref s), (3, .ref p)] [] v 0 0 _
  refine S_iincN (a := 2) (b := 1) (L' := [(4, .int (nI 3)), (0, .ref 77), (1, .ref o), (2, .ref s), (3, .ref p)]) d_Cu_multiply_46 (by decide) rfl rfl rfl ?_
  refine ST.lift (fun _ _ k => T_goto (tgt := 13) d_Cu_multiply_49 rfl k) ?_
  refine ST.lift (fun _ _ k => T_iload d_Cu_multiply_13 rfl k) ?_
  refine ST.lift (fun _ _ k => T_bipush (v := nI 16) d_Cu_multiply_15 (by decide) k) ?_
  refine S_icmp_geN d_Cu_multiply_17 rfl (by omega) (by omega) (fun c => by first | exact absurd c (by omega) | exact c.elim | exact absurd c (by decide) | exact absurd (by assumption) c | exact absurd c (by assumption)) (fun _ => ?_)
  refine ST.lift (fun _ _ k => T_aload_n (v := .ref 77) d_Cu_multiply_20 rfl (Or.inr ⟨_, rfl⟩) k) ?_
  refine ST.lift (fun _ _ k => T_aload_n (v := .ref 77) d_Cu_multiply_21 rfl (Or.inr ⟨_, rfl⟩) k) ?_
  refine S_getfield d_Cu_multiply_22 fg_Cu_18 (w77 _) rfl ?_
  refine ST.lift (fun _ _ k => T_iload d_Cu_multiply_25 rfl k) ?_
  refine S_aaload (C0 := "PasswordGate$Point") d_Cu_multiply_27 (by decide) (w86 _) rfl (vp_in_nI (by omega) (by omega)) ?_
  refine ST.lift (fun _ _ k => T_aload_n (v := .ref 77) d_Cu_multiply_28 rfl (Or.inr ⟨_, rfl⟩) k) ?_
  refine S_getfield d_Cu_multiply_29 fg_Cu_18 (w77 _) rfl ?_
  refine ST.lift (fun _ _ k => T_iload d_Cu_multiply_32 rfl k) ?_
  refine ST.lift (fun _ _ k => T_iconst (v := nI 1) d_Cu_multiply_34 (by decide) k) ?_
  refine S_isubN d_Cu_multiply_35 (by omega) ?_
  refine S_topi (y := nI 2) (by decide) ?_
  refine S_aaload (C0 := "PasswordGate$Point") d_Cu_multiply_36 (by decide) (w86 _) rfl (vp_in_nI (by omega) (by omega)) ?_
  refine ST.lift (fun _ _ k => T_aload_n (v := .ref 77) d_Cu_multiply_37 rfl (Or.inr ⟨_, rfl⟩) k) ?_
  refine S_getfield d_Cu_multiply_38 fg_Cu_18 (w77 _) rfl ?_
  refine ST.lift (fun _ _ k => T_iconst (v := nI 1) d_Cu_multiply_41 (by decide) k) ?_
  refine S_aaload (C0 := "PasswordGate$Point") d_Cu_multiply_42 (by decide) (w86 _) rfl (vp_in_nI (by omega) (by omega)) ?_
  refine S_virtual (as := [.ref 118, .ref 113, .ref 108]) (rest := []) (b := 77) d_Cu_multiply_43 rfl (jw_Cu_add.jo (by decide)) lm_Cu_97 ji_Cu_add js_Cu_add (w77 _) rfl rfl rfl (Nat.le_of_ble_eq_true rfl) (by decide) (by decide) (c_Cu_add G v 118 119 120 121 122 ⟨w118, a119, a120, a121, a122, by decide, by decide, by decide, by decide⟩ 113 114 115 116 117 ⟨w113, a114, a115, a116, a117, by decide, by decide, by decide, by decide⟩ 108 109 110 111 112 ⟨w108, a109, a110, a111, a112, by decide, by decide, by decide, by decide⟩) (fun r v' hq => ?_)
  rw [hq.1, hq.2]
  clear hq r v'
  show ST G mi_Cu_multiply 46 [(4, .int (nI 3)), (0, .ref 77), (1, .ref o), (2, .ref s), (3, .ref p)] [] v 0 0 _
  refine S_iincN (a := 3) (b := 1) (L' := [(4, .int (nI 4)), (0, .ref 77), (1, .ref o), (2, .ref s), (3, .ref p)]) d_Cu_multiply_46 (by decide) rfl rfl rfl ?_
  refine ST.lift (fun _ _ k => T_goto (tgt := 13) d_Cu_multiply_49 rfl k) ?_
  refine ST.lift (fun _ _ k => T_iload d_Cu_multiply_13 rfl k) ?_
  refine ST.lift (fun _ _ k => T_bipush (v := nI 16) d_Cu_multiply_15 (by decide) k) ?_
  refine S_icmp_geN d_Cu_multiply_17 rfl (by omega) (by omega) (fun c => by first | exact absurd c (by omega) | exact c.elim | exact absurd c (by decide) | exact absurd (by assumption) c | exact absurd c (by assumption)) (fun _ => ?_)
  refine ST.lift (fun _ _ k => T_aload_n (v := .ref 77) d_Cu_multiply_20 rfl (Or.inr ⟨_, rfl⟩) k) ?_
  refine ST.lift (fun _ _ k => T_aload_n (v := .ref 77) d_Cu_multiply_21 rfl (Or.inr ⟨_, rfl⟩) k) ?_
  refine S_getfield d_Cu_multiply_22 fg_Cu_18 (w77 _) rfl ?_
  refine ST.lift (fun _ _ k => T_iload d_Cu_multiply_25 rfl k) ?_
  refine S_aaload (C0 := "PasswordGate$Point") d_Cu_multiply_27 (by decide) (w86 _) rfl (vp_in_nI (by omega) (by omega)) ?_
  refine ST.lift (fun _ _ k => T_aload_n (v := .ref 77) d_Cu_multiply_28 rfl (Or.inr ⟨_, rfl⟩) k) ?_
  refine S_getfield d_Cu_multiply_29 fg_Cu_18 (w77 _) rfl ?_
  refine ST.lift (fun _ _ k => T_iload d_Cu_multiply_32 rfl k) ?_
  refine ST.lift (fun _ _ k => T_iconst (v := nI 1) d_Cu_multiply_34 (by decide) k) ?_
  refine S_isubN d_Cu_multiply_35 (by omega) ?_
  refine S_topi (y := nI 3) (by decide) ?_
  refine S_aaload (C0 := "PasswordGate$Point") d_Cu_multiply_36 (by decide) (w86 _) rfl (vp_in_nI (by omega) (by omega)) ?_
  refine ST.lift (fun _ _ k => T_aload_n (v := .ref 77) d_Cu_multiply_37 rfl (Or.inr ⟨_, rfl⟩) k) ?_
  refine S_getfield d_Cu_multiply_38 fg_Cu_18 (w77 _) rfl ?_
  refine ST.lift (fun _ _ k => T_iconst (v := nI 1) d_Cu_multiply_41 (by decide) k) ?_
  refine S_aaload (C0 := "PasswordGate$Point") d_Cu_multiply_42 (by decide) (w86 _) rfl (vp_in_nI (by omega) (by omega)) ?_
  refine S_virtual (as := [.ref 123, .ref 118, .ref 108]) (rest := []) (b := 77) d_Cu_multiply_43 rfl (jw_Cu_add.jo (by decide)) lm_Cu_97 ji_Cu_add js_Cu_add (w77 _) rfl rfl rfl (Nat.le_of_ble_eq_true rfl) (by decide) (by decide) (c_Cu_add G v 123 124 125 126 127 ⟨w123, a124, a125, a126, a127, by decide, by decide, by decide, by decide⟩ 118 119 120 121 122 ⟨w118, a119, a120, a121, a122, by decide, by decide, by decide, by decide⟩ 108 109 110 111 112 ⟨w108, a109, a110, a111, a112, by decide, by decide, by decide, by decide⟩) (fun r v' hq => ?_)
  rw [hq.1, hq.2]
  clear hq r v'
  show ST G mi_Cu_multiply 46 [(4, .int (nI 4)), (0, .ref 77), (1, .ref o), (2, .ref s), (3, .ref p)] [] v 0 0 _
  refine S_iincN (a := 4) (b := 1) (L' := [(4, .int (nI 5)), (0, .ref 77), (1, .ref o), (2, .ref s), (3, .ref p)]) d_Cu_multiply_46 (by decide) rfl rfl rfl ?_
  refine ST.lift (fun _ _ k => T_goto (tgt := 13) d_Cu_multiply_49 rfl k) ?_
  refine ST.lift (fun _ _ k => T_iload d_Cu_multiply_13 rfl k) ?_
  refine ST.lift (fun _ _ k => T_bipush (v := nI 16) d_Cu_multiply_15 (by decide) k) ?_
  refine S_icmp_geN d_Cu_multiply_17 rfl (by omega) (by omega) (fun c => by first | exact absurd c (by omega) | exact c.elim | exact absurd c (by decide) | exact absurd (by assumption) c | exact absurd c (by assumption)) (fun _ => ?_)
  refine ST.lift (fun _ _ k => T_aload_n (v := .ref 77) d_Cu_multiply_20 rfl (Or.inr ⟨_, rfl⟩) k) ?_
  refine ST.lift (fun _ _ k => T_aload_n (v := .ref 77) d_Cu_multiply_21 rfl (Or.inr ⟨_, rfl⟩) k) ?_
  refine S_getfield d_Cu_multiply_22 fg_Cu_18 (w77 _) rfl ?_
  refine ST.lift (fun _ _ k => T_iload d_Cu_multiply_25 rfl k) ?_
  refine S_aaload (C0 := "PasswordGate$Point") d_Cu_multiply_27 (by decide) (w86 _) rfl (vp_in_nI (by omega) (by omega)) ?_
  refine ST.lift (fun _ _ k => T_aload_n (v := .ref 77) d_Cu_multiply_28 rfl (Or.inr ⟨_, rfl⟩) k) ?_
  refine S_getfield d_Cu_multiply_29 fg_Cu_18 (w77 _) rfl ?_
  refine ST.lift (fun _ _ k => T_iload d_Cu_multiply_32 rfl k) ?_
  refine ST.lift (fun _ _ k => T_iconst (v := nI 1) d_Cu_multiply_34 (by decide) k) ?_
  refine S_isubN d_Cu_multiply_35 (by omega) ?_
  refine S_topi (y := nI 4) (by decide) ?_
  refine S_aaload (C0 := "PasswordGate$Point") d_Cu_multiply_36 (by decide) (w86 _) rfl (vp_in_nI (by omega) (by omega)) ?_
  refine ST.lift (fun _ _ k => T_aload_n (v := .ref 77) d_Cu_multiply_37 rfl (Or.inr ⟨_, rfl⟩) k) ?_
  refine S_getfield d_Cu_multiply_38 fg_Cu_18 (w77 _) rfl ?_
  refine ST.lift (fun _ _ k => T_iconst (v := nI 1) d_Cu_multiply_41 (by decide) k) ?_
  refine S_aaload (C0 := "PasswordGate$Point") d_Cu_multiply_42 (by decide) (w86 _) rfl (vp_in_nI (by omega) (by omega)) ?_
  refine S_virtual (as := [.ref 128, .ref 123, .ref 108]) (rest := []) (b := 77) d_Cu_multiply_43 rfl (jw_Cu_add.jo (by decide)) lm_Cu_97 ji_Cu_add js_Cu_add (w77 _) rfl rfl rfl (Nat.le_of_ble_eq_true rfl) (by decide) (by decide) (c_Cu_add G v 128 129 130 131 132 ⟨w128, a129, a130, a131, a132, by decide, by decide, by decide, by decide⟩ 123 124 125 126 127 ⟨w123, a124, a125, a126, a127, by decide, by decide, by decide, by decide⟩ 108 109 110 111 112 ⟨w108, a109, a110, a111, a112, by decide, by decide, by decide, by decide⟩) (fun r v' hq => ?_)
  rw [hq.1, hq.2]
  clear hq r v'
  show ST G mi_Cu_multiply 46 [(4, .int (nI 5)), (0, .ref 77), (1, .ref o), (2, .ref s), (3, .ref p)] [] v 0 0 _
  refine S_iincN (a := 5) (b := 1) (L' := [(4, .int (nI 6)), (0, .ref 77), (1, .ref o), (2, .ref s), (3, .ref p)]) d_Cu_multiply_46 (by decide) rfl rfl rfl ?_
  refine ST.lift (fun _ _ k => T_goto (tgt := 13) d_Cu_multiply_49 rfl k) ?_
  refine ST.lift (fun _ _ k => T_iload d_Cu_multiply_13 rfl k) ?_
  refine ST.lift (fun _ _ k => T_bipush (v := nI 16) d_Cu_multiply_15 (by decide) k) ?_
  refine S_icmp_geN d_Cu_multiply_17 rfl (by omega) (by omega) (fun c => by first | exact absurd c (by omega) | exact c.elim | exact absurd c (by decide) | exact absurd (by assumption) c | exact absurd c (by assumption)) (fun _ => ?_)
  refine ST.lift (fun _ _ k => T_aload_n (v := .ref 77) d_Cu_multiply_20 rfl (Or.inr ⟨_, rfl⟩) k) ?_
  refine ST.lift (fun _ _ k => T_aload_n (v := .ref 77) d_Cu_multiply_21 rfl (Or.inr ⟨_, rfl⟩) k) ?_
  refine S_getfield d_Cu_multiply_22 fg_Cu_18 (w77 _) rfl ?_
  refine ST.lift (fun _ _ k => T_iload d_Cu_multiply_25 rfl k) ?_
  refine S_aaload (C0 := "PasswordGate$Point") d_Cu_multiply_27 (by decide) (w86 _) rfl (vp_in_nI (by omega) (by omega)) ?_
  refine ST.lift (fun _ _ k => T_aload_n (v := .ref 77) d_Cu_multiply_28 rfl (Or.inr ⟨_, rfl⟩) k) ?_
  refine S_getfield d_Cu_multiply_29 fg_Cu_18 (w77 _) rfl ?_
  refine ST.lift (fun _ _ k => T_iload d_Cu_multiply_32 rfl k) ?_
  refine ST.lift (fun _ _ k => T_iconst (v := nI 1) d_Cu_multiply_34 (by decide) k) ?_
  refine S_isubN d_Cu_multiply_35 (by omega) ?_
  refine S_topi (y := nI 5) (by decide) ?_
  refine S_aaload (C0 := "PasswordGate$Point") d_Cu_multiply_36 (by decide) (w86 _) rfl (vp_in_nI (by omega) (by omega)) ?_
  refine ST.lift (fun _ _ k => T_aload_n (v := .ref 77) d_Cu_multiply_37 rfl (Or.inr ⟨_, rfl⟩) k) ?_
  refine S_getfield d_Cu_multiply_38 fg_Cu_18 (w77 _) rfl ?_
  refine ST.lift (fun _ _ k => T_iconst (v := nI 1) d_Cu_multiply_41 (by decide) k) ?_
  refine S_aaload (C0 := "PasswordGate$Point") d_Cu_multiply_42 (by decide) (w86 _) rfl (vp_in_nI (by omega) (by omega)) ?_
  refine S_virtual (as := [.ref 133, .ref 128, .ref 108]) (rest := []) (b := 77) d_Cu_multiply_43 rfl (jw_Cu_add.jo (by decide)) lm_Cu_97 ji_Cu_add js_Cu_add (w77 _) rfl rfl rfl (Nat.le_of_ble_eq_true rfl) (by decide) (by decide) (c_Cu_add G v 133 134 135 136 137 ⟨w133, a134, a135, a136, a137, by decide, by decide, by decide, by decide⟩ 128 129 130 131 132 ⟨w128, a129, a130, a131, a132, by decide, by decide, by decide, by decide⟩ 108 109 110 111 112 ⟨w108, a109, a110, a111, a112, by decide, by decide, by decide, by decide⟩) (fun r v' hq => ?_)
  rw [hq.1, hq.2]
  clear hq r v'
  show ST G mi_Cu_multiply 46 [(4, .int (nI 6)), (0, .ref 77), (1, .ref o), (2, .ref s), (3, .ref p)] [] v 0 0 _
  refine S_iincN (a := 6) (b := 1) (L' := [(4, .int (nI 7)), (0, .ref 77), (1, .ref o), (2, .ref s), (3, .ref p)]) d_Cu_multiply_46 (by decide) rfl rfl rfl ?_
  refine ST.lift (fun _ _ k => T_goto (tgt := 13) d_Cu_multiply_49 rfl k) ?_
  refine ST.lift (fun _ _ k => T_iload d_Cu_multiply_13 rfl k) ?_
  refine ST.lift (fun _ _ k => T_bipush (v := nI 16) d_Cu_multiply_15 (by decide) k) ?_
  refine S_icmp_geN d_Cu_multiply_17 rfl (by omega) (by omega) (fun c => by first | exact absurd c (by omega) | exact c.elim | exact absurd c (by decide) | exact absurd (by assumption) c | exact absurd c (by assumption)) (fun _ => ?_)
  refine ST.lift (fun _ _ k => T_aload_n (v := .ref 77) d_Cu_multiply_20 rfl (Or.inr ⟨_, rfl⟩) k) ?_
  refine ST.lift (fun _ _ k => T_aload_n (v := .ref 77) d_Cu_multiply_21 rfl (Or.inr ⟨_, rfl⟩) k) ?_
  refine S_getfield d_Cu_multiply_22 fg_Cu_18 (w77 _) rfl ?_
  refine ST.lift (fun _ _ k => T_iload d_Cu_multiply_25 rfl k) ?_
  refine S_aaload (C0 := "PasswordGate$Point") d_Cu_multiply_27 (by decide) (w86 _) rfl (vp_in_nI (by omega) (by omega)) ?_
  refine ST.lift (fun _ _ k => T_aload_n (v := .ref 77) d_Cu_multiply_28 rfl (Or.inr ⟨_, rfl⟩) k) ?_
  refine S_getfield d_Cu_multiply_29 fg_Cu_18 (w77 _) rfl ?_
  refine ST.lift (fun _ _ k => T_iload d_Cu_multiply_32 rfl k) ?_
  refine ST.lift (fun _ _ k => T_iconst (v := nI 1) d_Cu_multiply_34 (by decide) k) ?_
  refine S_isubN d_Cu_multiply_35 (by omega) ?_
  refine S_topi (y := nI 6) (by decide) ?_
  refine S_aaload (C0 := "PasswordGate$Point") d_Cu_multiply_36 (by decide) (w86 _) rfl (vp_in_nI (by omega) (by omega)) ?_
  refine ST.lift (fun _ _ k => T_aload_n (v := .ref 77) d_Cu_multiply_37 rfl (Or.inr ⟨_, rfl⟩) k) ?_
  refine S_getfield d_Cu_multiply_38 fg_Cu_18 (w77 _) rfl ?_
  refine ST.lift (fun _ _ k => T_iconst (v := nI 1) d_Cu_multiply_41 (by decide) k) ?_
  refine S_aaload (C0 := "PasswordGate$Point") d_Cu_multiply_42 (by decide) (w86 _) rfl (vp_in_nI (by omega) (by omega)) ?_
  refine S_virtual (as := [.ref 138, .ref 133, .ref 108]) (rest := []) (b := 77) d_Cu_multiply_43 rfl (jw_Cu_add.jo (by decide)) lm_Cu_97 ji_Cu_add js_Cu_add (w77 _) rfl rfl rfl (Nat.le_of_ble_eq_true rfl) (by decide) (by decide) (c_Cu_add G v 138 139 140 141 142 ⟨w138, a139, a140, a141, a142, by decide, by decide, by decide, by decide⟩ 133 134 135 136 137 ⟨w133, a134, a135, a136, a137, by decide, by decide, by decide, by decide⟩ 108 109 110 111 112 ⟨w108, a109, a110, a111, a112, by decide, by decide, by decide, by decide⟩) (fun r v' hq => ?_)
  rw [hq.1, hq.2]
  clear hq r v'
  show ST G mi_Cu_multiply 46 [(4, .int (nI 7)), (0, .ref 77), (1, .ref o), (2, .ref s), (3, .ref p)] [] v 0 0 _
  refine S_iincN (a := 7) (b := 1) (L' := [(4, .int (nI 8)), (0, .ref 77), (1, .ref o), (2, .ref s), (3, .ref p)]) d_Cu_multiply_46 (by decide) rfl rfl rfl ?_
  refine ST.lift (fun _ _ k => T_goto (tgt := 13) d_Cu_multiply_49 rfl k) ?_
  refine ST.lift (fun _ _ k => T_iload d_Cu_multiply_13 rfl k) ?_
  refine ST.lift (fun _ _ k => T_bipush (v := nI 16) d_Cu_multiply_15 (by decide) k) ?_
  refine S_icmp_geN d_Cu_multiply_17 rfl (by omega) (by omega) (fun c => by first | exact absurd c (by omega) | exact c.elim | exact absurd c (by decide) | exact absurd (by assumption) c | exact absurd c (by assumption)) (fun _ => ?_)
  refine ST.lift (fun _ _ k => T_aload_n (v := .ref 77) d_Cu_multiply_20 rfl (Or.inr ⟨_, rfl⟩) k) ?_
  refine ST.lift (fun _ _ k => T_aload_n (v := .ref 77) d_Cu_multiply_21 rfl (Or.inr ⟨_, rfl⟩) k) ?_
  refine S_getfield d_Cu_multiply_22 fg_Cu_18 (w77 _) rfl ?_
  refine ST.lift (fun _ _ k => T_iload d_Cu_multiply_25 rfl k) ?_
  refine S_aaload (C0 := "PasswordGate$Point") d_Cu_multiply_27 (by decide) (w86 _) rfl (vp_in_nI (by omega) (by omega)) ?_
  refine ST.lift (fun _ _ k => T_aload_n (v := .ref 77) d_Cu_multiply_28 rfl (Or.inr ⟨_, rfl⟩) k) ?_
  refine S_getfield d_Cu_multiply_29 fg_Cu_18 (w77 _) rfl ?_
  refine ST.lift (fun _ _ k => T_iload d_Cu_multiply_32 rfl k) ?_
  refine ST.lift (fun _ _ k => T_iconst (v := nI 1) d_Cu_multiply_34 (by decide) k) ?_
  refine S_isubN d_Cu_multiply_35 (by omega) ?_
  refine S_topi (y := nI 7) (by decide) ?_
  refine S_aaload (C0 := "PasswordGate$Point") d_Cu_multiply_36 (by decide) (w86 _) rfl (vp_in_nI (by omega) (by omega)) ?_
  refine ST.lift (fun _ _ k => T_aload_n (v := .ref 77) d_Cu_multiply_37 rfl (Or.inr ⟨_, rfl⟩) k) ?_
  refine S_getfield d_Cu_multiply_38 fg_Cu_18 (w77 _) rfl ?_
  refine ST.lift (fun _ _ k => T_iconst (v := nI 1) d_Cu_multiply_41 (by decide) k) ?_
  refine S_aaload (C0 := "PasswordGate$Point") d_Cu_multiply_42 (by decide) (w86 _) rfl (vp_in_nI (by omega) (by omega)) ?_
  refine S_virtual (as := [.ref 143, .ref 138, .ref 108]) (rest := []) (b := 77) d_Cu_multiply_43 rfl (jw_Cu_add.jo (by decide)) lm_Cu_97 ji_Cu_add js_Cu_add (w77 _) rfl rfl rfl (Nat.le_of_ble_eq_true rfl) (by decide) (by decide) (c_Cu_add G v 143 144 145 146 147 ⟨w143, a144, a145, a146, a147, by decide, by decide, by decide, by decide⟩ 138 139 140 141 142 ⟨w138, a139, a140, a141, a142, by decide, by decide, by decide, by decide⟩ 108 109 110 111 112 ⟨w108, a109, a110, a111, a112, by decide, by decide, by decide, by decide⟩) (fun r v' hq => ?_)
  rw [hq.1, hq.2]
  clear hq r v'
  show ST G mi_Cu_multiply 46 [(4, .int (nI 8)), (0, .ref 77), (1, .ref o), (2, .ref s), (3, .ref p)] [] v 0 0 _
  refine S_iincN (a := 8) (b := 1) (L' := [(4, .int (nI 9)), (0, .ref 77), (1, .ref o), (2, .ref s), (3, .ref p)]) d_Cu_multiply_46 (by decide) rfl rfl rfl ?_
  refine ST.lift (fun _ _ k => T_goto (tgt := 13) d_Cu_multiply_49 rfl k) ?_
  refine ST.lift (fun _ _ k => T_iload d_Cu_multiply_13 rfl k) ?_
  refine ST.lift (fun _ _ k => T_bipush (v := nI 16) d_Cu_multiply_15 (by decide) k) ?_
  refine S_icmp_geN d_Cu_multiply_17 rfl (by omega) (by omega) (fun c => by first | exact absurd c (by omega) | exact c.elim | exact absurd c (by decide) | exact absurd (by assumption) c | exact absurd c (by assumption)) (fun _ => ?_)
  refine ST.lift (fun _ _ k => T_aload_n (v := .ref 77) d_Cu_multiply_20 rfl (Or.inr ⟨_, rfl⟩) k) ?_
  refine ST.lift (fun _ _ k => T_aload_n (v := .ref 77) d_Cu_multiply_21 rfl (Or.inr ⟨_, rfl⟩) k) ?_
  refine S_getfield d_Cu_multiply_22 fg_Cu_18 (w77 _) rfl ?_
  refine ST.lift (fun _ _ k => T_iload d_Cu_multiply_25 rfl k) ?_
  refine S_aaload (C0 := "PasswordGate$Point") d_Cu_multiply_27 (by decide) (w86 _) rfl (vp_in_nI (by omega) (by omega)) ?_
  refine ST.lift (fun _ _ k => T_aload_n (v := .ref 77) d_Cu_multiply_28 rfl (Or.inr ⟨_, rfl⟩) k) ?_
  refine S_getfield d_Cu_multiply_29 fg_Cu_18 (w77 _) rfl ?_
  refine ST.lift (fun _ _ k => T_iload d_Cu_multiply_32 rfl k) ?_
  refine ST.lift (fun _ _ k => T_iconst (v := nI 1) d_Cu_multiply_34 (by decide) k) ?_
  refine S_isubN d_Cu_multiply_35 (by omega) ?_
  refine S_topi (y := nI 8) (by decide) ?_
  refine S_aaload (C0 := "PasswordGate$Point") d_Cu_multiply_36 (by decide) (w86 _) rfl (vp_in_nI (by omega) (by omega)) ?_
  refine ST.lift (fun _ _ k => T_aload_n (v := .ref 77) d_Cu_multiply_37 rfl (Or.inr ⟨_, rfl⟩) k) ?_
  refine S_getfield d_Cu_multiply_38 fg_Cu_18 (w77 _) rfl ?_
  refine ST.lift (fun _ _ k => T_iconst (v := nI 1) d_Cu_multiply_41 (by decide) k) ?_
  refine S_aaload (C0 := "PasswordGate$Point") d_Cu_multiply_42 (by decide) (w86 _) rfl (vp_in_nI (by omega) (by omega)) ?_
  refine S_virtual (as := [.ref 148, .ref 143, .ref 108]) (rest := []) (b := 77) d_Cu_multiply_43 rfl (jw_Cu_add.jo (by decide)) lm_Cu_97 ji_Cu_add js_Cu_add (w77 _) rfl rfl rfl (Nat.le_of_ble_eq_true rfl) (by decide) (by decide) (c_Cu_add G v 148 149 150 151 152 ⟨w148, a149, a150, a151, a152, by decide, by decide, by decide, by decide⟩ 143 144 145 146 147 ⟨w143, a144, a145, a146, a147, by decide, by decide, by decide, by decide⟩ 108 109 110 111 112 ⟨w108, a109, a110, a111, a112, by decide, by decide, by decide, by decide⟩) (fun r v' hq => ?_)
  rw [hq.1, hq.2]
  clear hq r v'
  show ST G mi_Cu_multiply 46 [(4, .int (nI 9)), (0, .ref 77), (1, .ref o), (2, .ref s), (3, .ref p)] [] v 0 0 _
  refine S_iincN (a := 9) (b := 1) (L' := [(4, .int (nI 10)), (0, .ref 77), (1, .ref o), (2, .ref s), (3, .ref p)]) d_Cu_multiply_46 (by decide) rfl rfl rfl ?_
  refine ST.lift (fun _ _ k => T_goto (tgt := 13) d_Cu_multiply_49 rfl k) ?_
  refine ST.lift (fun _ _ k => T_iload d_Cu_multiply_13 rfl k) ?_
  refine ST.lift (fun _ _ k => T_bipush (v := nI 16) d_Cu_multiply_15 (by decide) k) ?_
  refine S_icmp_geN d_Cu_multiply_17 rfl (by omega) (by omega) (fun c => by first | exact absurd c (by omega) | exact c.elim | exact absurd c (by decide) | exact absurd (by assumption) c | exact absurd c (by assumption)) (fun _ => ?_)
  refine ST.lift (fun _ _ k => T_aload_n (v := .ref 77) d_Cu_multiply_20 rfl (Or.inr ⟨_, rfl⟩) k) ?_
  refine ST.lift (fun _ _ k => T_aload_n (v := .ref 77) d_Cu_multiply_21 rfl (Or.inr ⟨_, rfl⟩) k) ?_
  refine S_getfield d_Cu_multiply_22 fg_Cu_18 (w77 _) rfl ?_
  refine ST.lift (fun _ _ k => T_iload d_Cu_multiply_25 rfl k) ?_
  refine S_aaload (C0 := "PasswordGate$Point") d_Cu_multiply_27 (by decide) (w86 _) rfl (vp_in_nI (by omega) (by omega)) ?_
  refine ST.lift (fun _ _ k => T_aload_n (v := .ref 77) d_Cu_multiply_28 rfl (Or.inr ⟨_, rfl⟩) k) ?_
  refine S_getfield d_Cu_multiply_29 fg_Cu_18 (w77 _) rfl ?_
  refine ST.lift (fun _ _ k => T_iload d_Cu_multiply_32 rfl k) ?_
  refine ST.lift (fun _ _ k => T_iconst (v := nI 1) d_Cu_multiply_34 (by decide) k) ?_
  refine S_isubN d_Cu_multiply_35 (by omega) ?_
  refine S_topi (y := nI 9) (by decide) ?_
  refine S_aaload (C0 := "PasswordGate$Point") d_Cu_multiply_36 (by decide) (w86 _) rfl (vp_in_nI (by omega) (by omega)) ?_
  refine ST.lift (fun _ _ k => T_aload_n (v := .ref 77) d_Cu_multiply_37 rfl (Or.inr ⟨_, rfl⟩) k) ?_
  refine S_getfield d_Cu_multiply_38 fg_Cu_18 (w77 _) rfl ?_
  refine ST.lift (fun _ _ k => T_iconst (v := nI 1) d_Cu_multiply_41 (by decide) k) ?_
  refine S_aaload (C0 := "PasswordGate$Point") d_Cu_multiply_42 (by decide) (w86 _) rfl (vp_in_nI (by omega) (by omega)) ?_
  refine S_virtual (as := [.ref 153, .ref 148, .ref 108]) (rest := []) (b := 77) d_Cu_multiply_43 rfl (jw_Cu_add.jo (by decide)) lm_Cu_97 ji_Cu_add js_Cu_add (w77 _) rfl rfl rfl (Nat.le_of_ble_eq_true rfl) (by decide) (by decide) (c_Cu_add G v 153 154 155 156 157 ⟨w153, a154, a155, a156, a157, by decide, by decide, by decide, by decide⟩ 148 149 150 151 152 ⟨w148, a149, a150, a151, a152, by decide, by decide, by decide, by decide⟩ 108 109 110 111 112 ⟨w108, a109, a110, a111, a112, by decide, by decide, by decide, by decide⟩) (fun r v' hq => ?_)
  rw [hq.1, hq.2]
  clear hq r v'
  show ST G mi_Cu_multiply 46 [(4, .int (nI 10)), (0, .ref 77), (1, .ref o), (2, .ref s), (3, .ref p)] [] v 0 0 _
  refine S_iincN (a := 10) (b := 1) (L' := [(4, .int (nI 11)), (0, .ref 77), (1, .ref o), (2, .ref s), (3, .ref p)]) d_Cu_multiply_46 (by decide) rfl rfl rfl ?_
  refine ST.lift (fun _ _ k => T_goto (tgt := 13) d_Cu_multiply_49 rfl k) ?_
  refine ST.lift (fun _ _ k => T_iload d_Cu_multiply_13 rfl k) ?_
  refine ST.lift (fun _ _ k => T_bipush (v := nI 16) d_Cu_multiply_15 (by decide) k) ?_
  refine S_icmp_geN d_Cu_multiply_17 rfl (by omega) (by omega) (fun c => by first | exact absurd c (by omega) | exact c.elim | exact absurd c (by decide) | exact absurd (by assumption) c | exact absurd c (by assumption)) (fun _ => ?_)
  refine ST.lift (fun _ _ k => T_aload_n (v := .ref 77) d_Cu_multiply_20 rfl (Or.inr ⟨_, rfl⟩) k) ?_
  refine ST.lift (fun _ _ k => T_aload_n (v := .ref 77) d_Cu_multiply_21 rfl (Or.inr ⟨_, rfl⟩) k) ?_
  refine S_getfield d_Cu_multiply_22 fg_Cu_18 (w77 _) rfl ?_
  refine ST.lift (fun _ _ k => T_iload d_Cu_multiply_25 rfl k) ?_
  refine S_aaload (C0 := "PasswordGate$Point") d_Cu_multiply_27 (by decide) (w86 _) rfl (vp_in_nI (by omega) (by omega)) ?_
  refine ST.lift (fun _ _ k => T_aload_n (v := .ref 77) d_Cu_multiply_28 rfl (Or.inr ⟨_, rfl⟩) k) ?_
  refine S_getfield d_Cu_multiply_29 fg_Cu_18 (w77 _) rfl ?_
  refine ST.lift (fun _ _ k => T_iload d_Cu_multiply_32 rfl k) ?_
  refine ST.lift (fun _ _ k => T_iconst (v := nI 1) d_Cu_multiply_34 (by decide) k) ?_
  refine S_isubN d_Cu_multiply_35 (by omega) ?_
  refine S_topi (y := nI 10) (by decide) ?_
  refine S_aaload (C0 := "PasswordGate$Point") d_Cu_multiply_36 (by decide) (w86 _) rfl (vp_in_nI (by omega) (by omega)) ?_
  refine ST.lift (fun _ _ k => T_aload_n (v := .ref 77) d_Cu_multiply_37 rfl (Or.inr ⟨_, rfl⟩) k) ?_
  refine S_getfield d_Cu_multiply_38 fg_Cu_18 (w77 _) rfl ?_
  refine ST.lift (fun _ _ k => T_iconst (v := nI 1) d_Cu_multiply_41 (by decide) k) ?_
  refine S_aaload (C0 := "PasswordGate$Point") d_Cu_multiply_42 (by decide) (w86 _) rfl (vp_in_nI (by omega) (by omega)) ?_
  refine S_virtual (as := [.ref 158, .ref 153, .ref 108]) (rest := []) (b := 77) d_Cu_multiply_43 rfl (jw_Cu_add.jo (by decide)) lm_Cu_97 ji_Cu_add js_Cu_add (w77 _) rfl rfl rfl (Nat.le_of_ble_eq_true rfl) (by decide) (by decide) (c_Cu_add G v 158 159 160 161 162 ⟨w158, a159, a160, a161, a162, by decide, by decide, by decide, by decide⟩ 153 154 155 156 157 ⟨w153, a154, a155, a156, a157, by decide, by decide, by decide, by decide⟩ 108 109 110 111 112 ⟨w108, a109, a110, a111, a112, by decide, by decide, by decide, by decide⟩) (fun r v' hq => ?_)
  rw [hq.1, hq.2]
  clear hq r v'
  show ST G mi_Cu_multiply 46 [(4, .int (nI 11)), (0, .ref 77), (1, .ref o), (2, .ref s), (3, .ref p)] [] v 0 0 _
  refine S_iincN (a := 11) (b := 1) (L' := [(4, .int (nI 12)), (0, .ref 77), (1, .ref o), (2, .ref s), (3, .ref p)]) d_Cu_multiply_46 (by decide) rfl rfl rfl ?_
  refine ST.lift (fun _ _ k => T_goto (tgt := 13) d_Cu_multiply_49 rfl k) ?_
  refine ST.lift (fun _ _ k => T_iload d_Cu_multiply_13 rfl k) ?_
  refine ST.lift (fun _ _ k => T_bipush (v := nI 16) d_Cu_multiply_15 (by decide) k) ?_
  refine S_icmp_geN d_Cu_multiply_17 rfl (by omega) (by omega) (fun c => by first | exact absurd c (by omega) | exact c.elim | exact absurd c (by decide) | exact absurd (by assumption) c | exact absurd c (by assumption)) (fun _ => ?_)
  refine ST.lift (fun _ _ k => T_aload_n (v := .ref 77) d_Cu_multiply_20 rfl (Or.inr ⟨_, rfl⟩) k) ?_
  refine ST.lift (fun _ _ k => T_aload_n (v := .ref 77) d_Cu_multiply_21 rfl (Or.inr ⟨_, rfl⟩) k) ?_
  refine S_getfield d_Cu_multiply_22 fg_Cu_18 (w77 _) rfl ?_
  refine ST.lift (fun _ _ k => T_iload d_Cu_multiply_25 rfl k) ?_
  refine S_aaload (C0 := "PasswordGate$Point") d_Cu_multiply_27 (by decide) (w86 _) rfl (vp_in_nI (by omega) (by omega)) ?_
  refine ST.lift (fun _ _ k => T_aload_n (v := .ref 77) d_Cu_multiply_28 rfl (Or.inr ⟨_, rfl⟩) k) ?_
  refine S_getfield d_Cu_multiply_29 fg_Cu_18 (w77 _) rfl ?_
  refine ST.lift (fun _ _ k => T_iload d_Cu_multiply_32 rfl k) ?_
  refine ST.lift (fun _ _ k => T_iconst (v := nI 1) d_Cu_multiply_34 (by decide) k) ?_
  refine S_isubN d_Cu_multiply_35 (by omega) ?_
  refine S_topi (y := nI 11) (by decide) ?_
  refine S_aaload (C0 := "PasswordGate$Point") d_Cu_multiply_36 (by decide) (w86 _) rfl (vp_in_nI (by omega) (by omega)) ?_
  refine ST.lift (fun _ _ k => T_aload_n (v := .ref 77) d_Cu_multiply_37 rfl (Or.inr ⟨_, rfl⟩) k) ?_
  refine S_getfield d_Cu_multiply_38 fg_Cu_18 (w77 _) rfl ?_
  refine ST.lift (fun _ _ k => T_iconst (v := nI 1) d_Cu_multiply_41 (by decide) k) ?_
  refine S_aaload (C0 := "PasswordGate$Point") d_Cu_multiply_42 (by decide) (w86 _) rfl (vp_in_nI (by omega) (by omega)) ?_
  refine S_virtual (as := [.ref 163, .ref 158, .ref 108]) (rest := []) (b := 77) d_Cu_multiply_43 rfl (jw_Cu_add.jo (by decide)) lm_Cu_97 ji_Cu_add js_Cu_add (w77 _) rfl rfl rfl (Nat.le_of_ble_eq_true rfl) (by decide) (by decide) (c_Cu_add G v 163 164 165 166 167 ⟨w163, a164, a165, a166, a167, by decide, by decide, by decide, by decide⟩ 158 159 160 161 162 ⟨w158, a159, a160, a161, a162, by decide, by decide, by decide, by decide⟩ 108 109 110 111 112 ⟨w108, a109, a110, a111, a112, by decide, by decide, by decide, by decide⟩) (fun r v' hq => ?_)
  rw [hq.1, hq.2]
  clear hq r v'
  show ST G mi_Cu_multiply 46 [(4, .int (nI 12)), (0, .ref 77), (1, .ref o), (2, .ref s), (3, .ref p)] [] v 0 0 _
  refine S_iincN (a := 12) (b := 1) (L' := [(4, .int (nI 13)), (0, .ref 77), (1, .ref o), (2, .ref s), (3, .ref p)]) d_Cu_multiply_46 (by decide) rfl rfl rfl ?_
  refine ST.lift (fun _ _ k => T_goto (tgt := 13) d_Cu_multiply_49 rfl k) ?_
  refine ST.lift (fun _ _ k => T_iload d_Cu_multiply_13 rfl k) ?_
  refine ST.lift (fun _ _ k => T_bipush (v := nI 16) d_Cu_multiply_15 (by decide) k) ?_
  refine S_icmp_geN d_Cu_multiply_17 rfl (by omega) (by omega) (fun c => by first | exact absurd c (by omega) | exact c.elim | exact absurd c (by decide) | exact absurd (by assumption) c | exact absurd c (by assumption)) (fun _ => ?_)
  refine ST.lift (fun _ _ k => T_aload_n (v := .ref 77) d_Cu_multiply_20 rfl (Or.inr ⟨_, rfl⟩) k) ?_
  refine ST.lift (fun _ _ k => T_aload_n (v := .ref 77) d_Cu_multiply_21 rfl (Or.inr ⟨_, rfl⟩) k) ?_
  refine S_getfield d_Cu_multiply_22 fg_Cu_18 (w77 _) rfl ?_
  refine ST.lift (fun _ _ k => T_iload d_Cu_multiply_25 rfl k) ?_
  refine S_aaload (C0 := "PasswordGate$Point") d_Cu_multiply_27 (by decide) (w86 _) rfl (vp_in_nI (by omega) (by omega)) ?_
  refine ST.lift (fun _ _ k => T_aload_n (v := .ref 77) d_Cu_multiply_28 rfl (Or.inr ⟨_, rfl⟩) k) ?_
  refine S_getfield d_Cu_multiply_29 fg_Cu_18 (w77 _) rfl ?_
  refine ST.lift (fun _ _ k => T_iload d_Cu_multiply_32 rfl k) ?_
  refine ST.lift (fun _ _ k => T_iconst (v := nI 1) d_Cu_multiply_34 (by decide) k) ?_
  refine S_isubN d_Cu_multiply_35 (by omega) ?_
  refine S_topi (y := nI 12) (by decide) ?_
  refine S_aaload (C0 := "PasswordGate$Point") d_Cu_multiply_36 (by decide) (w86 _) rfl (vp_in_nI (by omega) (by omega)) ?_
  refine ST.lift (fun _ _ k => T_aload_n (v := .ref 77) d_Cu_multiply_37 rfl (Or.inr ⟨_, rfl⟩) k) ?_
  refine S_getfield d_Cu_multiply_38 fg_Cu_18 (w77 _) rfl ?_
  refine ST.lift (fun _ _ k => T_iconst (v := nI 1) d_Cu_multiply_41 (by decide) k) ?_
  refine S_aaload (C0 := "PasswordGate$Point") d_Cu_multiply_42 (by decide) (w86 _) rfl (vp_in_nI (by omega) (by omega)) ?_
  refine S_virtual (as := [.ref 168, .ref 163, .ref 108]) (rest := []) (b := 77) d_Cu_multiply_43 rfl (jw_Cu_add.jo (by decide)) lm_Cu_97 ji_Cu_add js_Cu_add (w77 _) rfl rfl rfl (Nat.le_of_ble_eq_true rfl) (by decide) (by decide) (c_Cu_add G v 168 169 170 171 172 ⟨w168, a169, a170, a171, a172, by decide, by decide, by decide, by decide⟩ 163 164 165 166 167 ⟨w163, a164, a165, a166, a167, by decide, by decide, by decide, by decide⟩ 108 109 110 111 112 ⟨w108, a109, a110, a111, a112, by decide, by decide, by decide, by decide⟩) (fun r v' hq => ?_)
  rw [hq.1, hq.2]
  clear hq r v'
  show ST G mi_Cu_multiply 46 [(4, .int (nI 13)), (0, .ref 77), (1, .ref o), (2, .ref s), (3, .ref p)] [] v 0 0 _
  refine S_iincN (a := 13) (b := 1) (L' := [(4, .int (nI 14)), (0, .ref 77), (1, .ref o), (2, .ref s), (3, .ref p)]) d_Cu_multiply_46 (by decide) rfl rfl rfl ?_
  refine ST.lift (fun _ _ k => T_goto (tgt := 13) d_Cu_multiply_49 rfl k) ?_
  refine ST.lift (fun _ _ k => T_iload d_Cu_multiply_13 rfl k) ?_
  refine ST.lift (fun _ _ k => T_bipush (v := nI 16) d_Cu_multiply_15 (by decide) k) ?_
  refine S_icmp_geN d_Cu_multiply_17 rfl (by omega) (by omega) (fun c => by first | exact absurd c (by omega) | exact c.elim | exact absurd c (by decide) | exact absurd (by assumption) c | exact absurd c (by assumption)) (fun _ => ?_)
  refine ST.lift (fun _ _ k => T_aload_n (v := .ref 77) d_Cu_multiply_20 rfl (Or.inr ⟨_, rfl⟩) k) ?_
  refine ST.lift (fun _ _ k => T_aload_n (v := .ref 77) d_Cu_multiply_21 rfl (Or.inr ⟨_, rfl⟩) k) ?_
  refine S_getfield d_Cu_multiply_22 fg_Cu_18 (w77 _) rfl ?_
  refine ST.lift (fun _ _ k => T_iload d_Cu_multiply_25 rfl k) ?_
  refine S_aaload (C0 := "PasswordGate$Point") d_Cu_multiply_27 (by decide) (w86 _) rfl (vp_in_nI (by omega) (by omega)) ?_
  refine ST.lift (fun _ _ k => T_aload_n (v := .ref 77) d_Cu_multiply_28 rfl (Or.inr ⟨_, rfl⟩) k) ?_
  refine S_getfield d_Cu_multiply_29 fg_Cu_18 (w77 _) rfl ?_
  refine ST.lift (fun _ _ k => T_iload d_Cu_multiply_32 rfl k) ?_
  refine ST.lift (fun _ _ k => T_iconst (v := nI 1) d_Cu_multiply_34 (by decide) k) ?_
  refine S_isubN d_Cu_multiply_35 (by omega) ?_
  refine S_topi (y := nI 13) (by decide) ?_
  refine S_aaload (C0 := "PasswordGate$Point") d_Cu_multiply_36 (by decide) (w86 _) rfl (vp_in_nI (by omega) (by omega)) ?_
  refine ST.lift (fun _ _ k => T_aload_n (v := .ref 77) d_Cu_multiply_37 rfl (Or.inr ⟨_, rfl⟩) k) ?_
  refine S_getfield d_Cu_multiply_38 fg_Cu_18 (w77 _) rfl ?_
  refine ST.lift (fun _ _ k => T_iconst (v := nI 1) d_Cu_multiply_41 (by decide) k) ?_
  refine S_aaload (C0 := "PasswordGate$Point") d_Cu_multiply_42 (by decide) (w86 _) rfl (vp_in_nI (by omega) (by omega)) ?_
  refine S_virtual (as := [.ref 173, .ref 168, .ref 108]) (rest := []) (b := 77) d_Cu_multiply_43 rfl (jw_Cu_add.jo (by decide)) lm_Cu_97 ji_Cu_add js_Cu_add (w77 _) rfl rfl rfl (Nat.le_of_ble_eq_true rfl) (by decide) (by decide) (c_Cu_add G v 173 174 175 176 177 ⟨w173, a174, a175, a176, a177, by decide, by decide, by decide, by decide⟩ 168 169 170 171 172 ⟨w168, a169, a170, a171, a172, by decide, by decide, by decide, by decide⟩ 108 109 110 111 112 ⟨w108, a109, a110, a111, a112, by decide, by decide, by decide, by decide⟩) (fun r v' hq => ?_)
  rw [hq.1, hq.2]
  clear hq r v'
  show ST G mi_Cu_multiply 46 [(4, .int (nI 14)), (0, .ref 77), (1, .ref o), (2, .ref s), (3, .ref p)] [] v 0 0 _
  refine S_iincN (a := 14) (b := 1) (L' := [(4, .int (nI 15)), (0, .ref 77), (1, .ref o), (2, .ref s), (3, .ref p)]) d_Cu_multiply_46 (by decide) rfl rfl rfl ?_
  refine ST.lift (fun _ _ k => T_goto (tgt := 13) d_Cu_multiply_49 rfl k) ?_
  refine ST.lift (fun _ _ k => T_iload d_Cu_multiply_13 rfl k) ?_
  refine ST.lift (fun _ _ k => T_bipush (v := nI 16) d_Cu_multiply_15 (by decide) k) ?_
  refine S_icmp_geN d_Cu_multiply_17 rfl (by omega) (by omega) (fun c => by first | exact absurd c (by omega) | exact c.elim | exact absurd c (by decide) | exact absurd (by assumption) c | exact absurd c (by assumption)) (fun _ => ?_)
  refine ST.lift (fun _ _ k => T_aload_n (v := .ref 77) d_Cu_multiply_20 rfl (Or.inr ⟨_, rfl⟩) k) ?_
  refine ST.lift (fun _ _ k => T_aload_n (v := .ref 77) d_Cu_multiply_21 rfl (Or.inr ⟨_, rfl⟩) k) ?_
  refine S_getfield d_Cu_multiply_22 fg_Cu_18 (w77 _) rfl ?_
  refine ST.lift (fun _ _ k => T_iload d_Cu_multiply_25 rfl k) ?_
  refine S_aaload (C0 := "PasswordGate$Point") d_Cu_multiply_27 (by decide) (w86 _) rfl (vp_in_nI (by omega) (by omega)) ?_
  refine ST.lift (fun _ _ k => T_aload_n (v := .ref 77) d_Cu_multiply_28 rfl (Or.inr ⟨_, rfl⟩) k) ?_
  refine S_getfield d_Cu_multiply_29 fg_Cu_18 (w77 _) rfl ?_
  refine ST.lift (fun _ _ k => T_iload d_Cu_multiply_32 rfl k) ?_
  refine ST.lift (fun _ _ k => T_iconst (v := nI 1) d_Cu_multiply_34 (by decide) k) ?_
  refine S_isubN d_Cu_multiply_35 (by omega) ?_
  refine S_topi (y := nI 14) (by decide) ?_
  refine S_aaload (C0 := "PasswordGate$Point") d_Cu_multiply_36 (by decide) (w86 _) rfl (vp_in_nI (by omega) (by omega)) ?_
  refine ST.lift (fun _ _ k => T_aload_n (v := .ref 77) d_Cu_multiply_37 rfl (Or.inr ⟨_, rfl⟩) k) ?_
  refine S_getfield d_Cu_multiply_38 fg_Cu_18 (w77 _) rfl ?_
  refine ST.lift (fun _ _ k => T_iconst (v := nI 1) d_Cu_multiply_41 (by decide) k) ?_
  refine S_aaload (C0 := "PasswordGate$Point") d_Cu_multiply_42 (by decide) (w86 _) rfl (vp_in_nI (by omega) (by omega)) ?_
  refine S_virtual (as := [.ref 178, .ref 173, .ref 108]) (rest := []) (b := 77) d_Cu_multiply_43 rfl (jw_Cu_add.jo (by decide)) lm_Cu_97 ji_Cu_add js_Cu_add (w77 _) rfl rfl rfl (Nat.le_of_ble_eq_true rfl) (by decide) (by decide) (c_Cu_add G v 178 179 180 181 182 ⟨w178, a179, a180, a181, a182, by decide, by decide, by decide, by decide⟩ 173 174 175 176 177 ⟨w173, a174, a175, a176, a177, by decide, by decide, by decide, by decide⟩ 108 109 110 111 112 ⟨w108, a109, a110, a111, a112, by decide, by decide, by decide, by decide⟩) (fun r v' hq => ?_)
  rw [hq.1, hq.2]
  clear hq r v'
  show ST G mi_Cu_multiply 46 [(4, .int (nI 15)), (0, .ref 77), (1, .ref o), (2, .ref s), (3, .ref p)] [] v 0 0 _
  refine S_iincN (a := 15) (b := 1) (L' := [(4, .int (nI 16)), (0, .ref 77), (1, .ref o), (2, .ref s), (3, .ref p)]) d_Cu_multiply_46 (by decide) rfl rfl rfl ?_
  refine ST.lift (fun _ _ k => T_goto (tgt := 13) d_Cu_multiply_49 rfl k) ?_
  refine ST.lift (fun _ _ k => T_iload d_Cu_multiply_13 rfl k) ?_
  refine ST.lift (fun _ _ k => T_bipush (v := nI 16) d_Cu_multiply_15 (by decide) k) ?_
  refine S_icmp_geN d_Cu_multiply_17 rfl (by omega) (by omega) (fun _ => ?_) (fun c => by first | exact absurd c (by omega) | exact c.elim | exact absurd c (by decide) | exact absurd (by assumption) c | exact absurd c (by assumption))
  refine ST.lift (fun _ _ k => T_aload_n (v := .ref o) d_Cu_multiply_52 rfl (Or.inr ⟨_, rfl⟩) k) ?_
  refine ST.lift (fun _ _ k => T_getstatic (q := ("PasswordGate$Curve", "ZERO", "[J", .ref 11)) d_Cu_multiply_53 (List.mem_of_getElem? (i := 11) rfl) gs_Cu_100 (show 11 < K0 by decide) k) ?_
  refine ST.lift (fun _ _ k => T_getstatic (q := ("PasswordGate$Field", "ONE", "[J", .ref 3)) d_Cu_multiply_56 (List.mem_of_getElem? (i := 3) rfl) gs_Cu_103 (show 3 < K0 by decide) k) ?_
  refine S_virtual (as := [.ref 11, .ref 3]) (rest := []) (b := o) d_Cu_multiply_59 rfl (jw_Po_setPlain.jo (by decide)) lm_Cu_106 ji_Po_setPlain js_Po_setPlain (p_o.1 _) rfl rfl rfl (Nat.le_of_ble_eq_true rfl) (by decide) (by decide) (c_Po_setPlain G v o ox oy oz ot p_o 11 a11 3 a3) (fun r v' hq => ?_)
  rw [hq.1, hq.2]
  clear hq r v'
  show ST G mi_Cu_multiply 62 [(4, .int (nI 16)), (0, .ref 77), (1, .ref o), (2, .ref s), (3, .ref p)] [] v 0 0 _
  refine ST.lift (fun _ _ k => T_bipush (v := nI 63) d_Cu_multiply_62 (by decide) k) ?_
  refine ST.lift (fun _ _ k => T_istore (L' := [(4, .int (nI 63)), (0, .ref 77), (1, .ref o), (2, .ref s), (3, .ref p)]) d_Cu_multiply_64 (by decide) rfl k) ?_
  have lp4 : ∀ (n2 k1 : Nat), k1 = n2 → k1 ≤ (63 + 1) → ST G mi_Cu_multiply 66 [(4, .int (nI k1 - 1)), (0, .ref 77), (1, .ref o), (2, .ref s), (3, .ref p)] [] v 0 0 Q := by
    intro n2
    induction n2 using Nat.strongRecOn with
    | _ n2 ih3 =>
      intro k1 h5 h6
      refine ST.lift (fun _ _ k => T_iload d_Cu_multiply_66 rfl k) ?_
      refine S_if_ltD d_Cu_multiply_68 rfl (by omega) (fun h8 => ?_) (fun b7 h8 => ?_)
      · exact S_vret d_Cu_multiply_119 rfl (by decide) (by decide) hQ
      · subst h8
        refine S_loc (L' := [(4, .int (nI b7)), (0, .ref 77), (1, .ref o), (2, .ref s), (3, .ref p)]) (by rw [nI_pred]) ?_
        refine ST.lift (fun _ _ k => T_aload_n (v := .ref 77) d_Cu_multiply_71 rfl (Or.inr ⟨_, rfl⟩) k) ?_
        refine ST.lift (fun _ _ k => T_aload_n (v := .ref o) d_Cu_multiply_72 rfl (Or.inr ⟨_, rfl⟩) k) ?_
        refine ST.lift (fun _ _ k => T_iconst (v := nI 4) d_Cu_multiply_73 (by decide) k) ?_
        refine S_virtual (as := [.ref o, .int (nI 4)]) (rest := []) (b := 77) d_Cu_multiply_74 rfl (jw_Cu_doubleTimes.jo (by decide)) lm_Cu_110 ji_Cu_doubleTimes js_Cu_doubleTimes (w77 _) rfl rfl rfl (Nat.le_of_ble_eq_true rfl) (by decide) (by decide) (c_Cu_doubleTimes G v o ox oy oz ot p_o) (fun r v' hq => ?_)
        rw [hq.1, hq.2]
        clear hq r v'
        show ST G mi_Cu_multiply 77 [(4, .int (nI b7)), (0, .ref 77), (1, .ref o), (2, .ref s), (3, .ref p)] [] v 0 0 _
        refine ST.lift (fun _ _ k => T_aload_n (v := .ref s) d_Cu_multiply_77 rfl (Or.inr ⟨_, rfl⟩) k) ?_
        refine ST.lift (fun _ _ k => T_iload d_Cu_multiply_78 rfl k) ?_
        refine ST.lift (fun _ _ k => T_iconst (v := nI 1) d_Cu_multiply_80 (by decide) k) ?_
        refine S_ishrN d_Cu_multiply_81 (by omega) (by omega) ?_
        refine S_baload d_Cu_multiply_82 a_s (vp_in_nI (by omega) (by omega)) (fun z9 hz9 => ?_)
        refine ST.lift (fun _ _ k => T_iconst (v := nI 4) d_Cu_multiply_83 (by decide) k) ?_
        refine ST.lift (fun _ _ k => T_iload d_Cu_multiply_84 rfl k) ?_
        refine ST.lift (fun _ _ k => T_iconst (v := nI 1) d_Cu_multiply_86 (by decide) k) ?_
        refine S_iandN 1 d_Cu_multiply_87 (by omega) (by decide) (by decide) ?_
        refine S_imulN d_Cu_multiply_88 ?_
        refine ST.lift (fun _ _ k => T_ishr d_Cu_multiply_89 k) (S_anyi fun z10 => ?_)
        refine ST.lift (fun _ _ k => T_bipush (v := nI 15) d_Cu_multiply_90 (by decide) k) ?_
        refine S_iandM 4 d_Cu_multiply_92 (by decide) (by decide) (fun j11 hj11 => ?_)
        simp only [Nat.reducePow] at hj11
        refine ST.lift (fun _ _ k => T_istore (L' := [(5, .int (nI j11)), (4, .int (nI b7)), (0, .ref 77), (1, .ref o), (2, .ref s), (3, .ref p)]) d_Cu_multiply_93 (by decide) rfl k) ?_
        refine ST.lift (fun _ _ k => T_iload d_Cu_multiply_95 rfl k) ?_
        have J113_14 : ST G mi_Cu_multiply 113 [(5, .int (nI j11)), (4, .int (nI b7)), (0, .ref 77), (1, .ref o), (2, .ref s), (3, .ref p)] [] v 0 0 Q := by
          refine S_iincD (a := b7) (L' := [(4, .int (nI b7 - 1)), (5, .int (nI j11)), (0, .ref 77), (1, .ref o), (2, .ref s), (3, .ref p)]) d_Cu_multiply_113 (by decide) rfl rfl ?_
          refine ST.lift (fun _ _ k => T_goto (tgt := 66) d_Cu_multiply_116 rfl k) ?_
          refine S_pick [0, 2, 3, 4, 5] rfl ?_
          exact ih3 b7 (by omega) b7  rfl (by omega)
        refine S_if_eqN d_Cu_multiply_97 rfl (by omega) (fun c12 => ?_) (fun c12 => ?_)
        · exact J113_14 
        · refine ST.lift (fun _ _ k => T_aload_n (v := .ref 77) d_Cu_multiply_100 rfl (Or.inr ⟨_, rfl⟩) k) ?_
          refine ST.lift (fun _ _ k => T_aload_n (v := .ref o) d_Cu_multiply_101 rfl (Or.inr ⟨_, rfl⟩) k) ?_
          refine ST.lift (fun _ _ k => T_aload_n (v := .ref o) d_Cu_multiply_102 rfl (Or.inr ⟨_, rfl⟩) k) ?_
          refine ST.lift (fun _ _ k => T_aload_n (v := .ref 77) d_Cu_multiply_103 rfl (Or.inr ⟨_, rfl⟩) k) ?_
          refine S_getfield d_Cu_multiply_104 fg_Cu_18 (w77 _) rfl ?_
          refine ST.lift (fun _ _ k => T_iload d_Cu_multiply_107 rfl k) ?_
          refine S_aaload (C0 := "PasswordGate$Point") d_Cu_multiply_109 (by decide) (w86 _) rfl (vp_in_nI (by omega) (by omega)) ?_
          obtain ⟨p15, p15x, p15y, p15z, p15t, e_p15, p_p15⟩ := tab_86 j11 (by omega)
          refine S_topv (y := .ref p15) (by rw [nI_clamp (by omega)]; exact congrArg va_rf e_p15) ?_
          refine S_virtual (as := [.ref o, .ref o, .ref p15]) (rest := []) (b := 77) d_Cu_multiply_110 rfl (jw_Cu_add.jo (by decide)) lm_Cu_97 ji_Cu_add js_Cu_add (w77 _) rfl rfl rfl (Nat.le_of_ble_eq_true rfl) (by decide) (by decide) (c_Cu_add G v o ox oy oz ot p_o o ox oy oz ot p_o p15 p15x p15y p15z p15t p_p15) (fun r v' hq => ?_)
          rw [hq.1, hq.2]
          clear hq r v'
          show ST G mi_Cu_multiply 113 [(5, .int (nI j11)), (4, .int (nI b7)), (0, .ref 77), (1, .ref o), (2, .ref s), (3, .ref p)] [] v 0 0 _
          exact J113_14 
  have e_lp4 : nI 63 = nI (63 + 1) - 1 := (nI_pred _).symm
  refine S_loc (L' := [(4, .int (nI (63 + 1) - 1)), (0, .ref 77), (1, .ref o), (2, .ref s), (3, .ref p)]) (by rw [← e_lp4]) ?_
  exact lp4 _ (63 + 1)  rfl (by omega)
set_option maxRecDepth 100000 in
set_option maxHeartbeats 4000000 in
theorem c_Cu_multiplyBase (G : GX) (v : Nat → Int32) (o ox oy oz ot : Nat) (p_o : isPt o ox oy oz ot) (s m : Nat) (w_s : K0 ≤ s) (a_s : aB s m) (l_s : m ≤ 2000) (h32 : 32 ≤ m) : CS G mi_Cu_multiplyBase [.ref 77, .ref o, .ref s] v (fun r v' => r = none ∧ v' = v) := by
  refine CS.of (by decide) (Nat.le_of_ble_eq_true rfl) ?_
  generalize hQe : (fun (r : Option Value) (v' : Nat → Int32) => r = none ∧ v' = v) = Q
  have hQ : Q none v := by rw [← hQe]; exact ⟨rfl, rfl⟩
  clear hQe
  show ST G mi_Cu_multiplyBase 0 [(0, .ref 77), (1, .ref o), (2, .ref s)] [] v 0 0 Q
  refine ST.lift (fun _ _ k => T_aload_n (v := .ref o) d_Cu_multiplyBase_0 rfl (Or.inr ⟨_, rfl⟩) k) ?_
  refine ST.lift (fun _ _ k => T_getstatic (q := ("PasswordGate$Curve", "BASE_X", "[J", .ref 12)) d_Cu_multiplyBase_1 (List.mem_of_getElem? (i := 12) rfl) gs_Cu_114 (show 12 < K0 by decide) k) ?_
  refine ST.lift (fun _ _ k => T_getstatic (q := ("PasswordGate$Curve", "BASE_Y", "[J", .ref 13)) d_Cu_multiplyBase_4 (List.mem_of_getElem? (i := 13) rfl) gs_Cu_117 (show 13 < K0 by decide) k) ?_
  refine S_virtual (as := [.ref 12, .ref 13]) (rest := []) (b := o) d_Cu_multiplyBase_7 rfl (jw_Po_setPlain.jo (by decide)) lm_Cu_106 ji_Po_setPlain js_Po_setPlain (p_o.1 _) rfl rfl rfl (Nat.le_of_ble_eq_true rfl) (by decide) (by decide) (c_Po_setPlain G v o ox oy oz ot p_o 12 a12 13 a13) (fun r v' hq => ?_)
  rw [hq.1, hq.2]
  clear hq r v'
  show ST G mi_Cu_multiplyBase 10 [(0, .ref 77), (1, .ref o), (2, .ref s)] [] v 0 0 _
  refine ST.lift (fun _ _ k => T_aload_n (v := .ref 77) d_Cu_multiplyBase_10 rfl (Or.inr ⟨_, rfl⟩) k) ?_
  refine ST.lift (fun _ _ k => T_aload_n (v := .ref o) d_Cu_multiplyBase_11 rfl (Or.inr ⟨_, rfl⟩) k) ?_
  refine ST.lift (fun _ _ k => T_aload_n (v := .ref s) d_Cu_multiplyBase_12 rfl (Or.inr ⟨_, rfl⟩) k) ?_
  refine ST.lift (fun _ _ k => T_aload_n (v := .ref o) d_Cu_multiplyBase_13 rfl (Or.inr ⟨_, rfl⟩) k) ?_
  refine S_virtual (as := [.ref o, .ref s, .ref o]) (rest := []) (b := 77) d_Cu_multiplyBase_14 rfl (jw_Cu_multiply.jo (by decide)) lm_Cu_120 ji_Cu_multiply js_Cu_multiply (w77 _) rfl rfl rfl (Nat.le_of_ble_eq_true rfl) (by decide) (by decide) (c_Cu_multiply G v o ox oy oz ot p_o s m w_s a_s (by omega) o ox oy oz ot p_o (by omega)) (fun r v' hq => ?_)
  rw [hq.1, hq.2]
  clear hq r v'
  show ST G mi_Cu_multiplyBase 17 [(0, .ref 77), (1, .ref o), (2, .ref s)] [] v 0 0 _
  exact S_vret d_Cu_multiplyBase_17 rfl (by decide) (by decide) hQ
set_option maxRecDepth 100000 in
set_option maxHeartbeats 4000000 in
theorem c_Fi_save (G : GX) (v : Nat → Int32) (f : Nat) (a_f : aL f 10) (b bd bc bj : Nat) (y_b : isBy b bd bc bj) (hv : okv v) : CS G mi_Fi_save [.ref 78, .ref f, .ref b] v (fun r v' => r = none ∧ okv v' ∧ mdf [bj] v v') := by
  refine CS.of (by decide) (Nat.le_of_ble_eq_true rfl) ?_
  generalize hQe : (fun (r : Option Value) (v' : Nat → Int32) => r = none ∧ okv v' ∧ mdf [bj] v v') = Q
  have hQ : ∀ u, okv u → mdf [bj] v u → Q none u := by rw [← hQe]; exact fun u h1 h2 => ⟨rfl, h1, h2⟩
  clear hQe
  have hm : mdf [bj] v v := mdf.rf
  have l_b := y_b.2.2.2.2.2
  show ST G mi_Fi_save 0 [(0, .ref 78), (1, .ref f), (2, .ref b)] [] v 0 0 Q
  refine ST.lift (fun _ _ k => T_aload_n (v := .ref 78) d_Fi_save_0 rfl (Or.inr ⟨_, rfl⟩) k) ?_
  refine ST.lift (fun _ _ k => T_aload_n (v := .ref f) d_Fi_save_1 rfl (Or.inr ⟨_, rfl⟩) k) ?_
  refine S_virtual (as := [.ref f]) (rest := []) (b := 78) d_Fi_save_2 rfl (jw_Fi_makeWhole.jo (by decide)) lm_Fi_43 ji_Fi_makeWhole js_Fi_makeWhole (w78 _) rfl rfl rfl (Nat.le_of_ble_eq_true rfl) (by decide) (by decide) (c_Fi_makeWhole G v f a_f) (fun r v' hq => ?_)
  rw [hq.1, hq.2]
  clear hq r v'
  show ST G mi_Fi_save 5 [(0, .ref 78), (1, .ref f), (2, .ref b)] [] v 0 0 _
  refine ST.lift (fun _ _ k => T_lconst (v := 0) d_Fi_save_5 (by decide) k) ?_
  refine ST.lift (fun _ _ k => T_lstore_n (L' := [(3, .long 0), (0, .ref 78), (1, .ref f), (2, .ref b)]) d_Fi_save_6 (by decide) rfl k) ?_
  refine ST.lift (fun _ _ k => T_iconst (v := nI 0) d_Fi_save_7 (by decide) k) ?_
  refine ST.lift (fun _ _ k => T_istore (L' := [(5, .int (nI 0)), (3, .long 0), (0, .ref 78), (1, .ref f), (2, .ref b)]) d_Fi_save_8 (by decide) rfl k) ?_
  refine ST.lift (fun _ _ k => T_iconst (v := nI 0) d_Fi_save_10 (by decide) k) ?_
  refine ST.lift (fun _ _ k => T_istore (L' := [(6, .int (nI 0)), (5, .int (nI 0)), (3, .long 0), (0, .ref 78), (1, .ref f), (2, .ref b)]) d_Fi_save_11 (by decide) rfl k) ?_
  refine ST.lift (fun _ _ k => T_iload d_Fi_save_13 rfl k) ?_
  refine ST.lift (fun _ _ k => T_bipush (v := nI 10) d_Fi_save_15 (by decide) k) ?_
  refine S_icmp_geN d_Fi_save_17 rfl (by omega) (by omega) (fun c => by first | exact absurd c (by omega) | exact c.elim | exact absurd c (by decide) | exact absurd (by assumption) c | exact absurd c (by assumption)) (fun _ => ?_)
  refine ST.lift (fun _ _ k => T_lload_n d_Fi_save_20 rfl k) ?_
  refine ST.lift (fun _ _ k => T_aload_n (v := .ref 78) d_Fi_save_21 rfl (Or.inr ⟨_, rfl⟩) k) ?_
  refine S_getfield d_Fi_save_22 fg_Fi_9 (w78 _) rfl ?_
  refine ST.lift (fun _ _ k => T_iload d_Fi_save_25 rfl k) ?_
  refine S_laload d_Fi_save_27 a79 (vp_in_nI (by omega) (by omega)) (fun z1 => ?_)
  refine ST.lift (fun _ _ k => T_iload d_Fi_save_28 rfl k) ?_
  refine ST.lift (fun _ _ k => T_lshl d_Fi_save_30 k) (S_anyl fun z2 => ?_)
  refine ST.lift (fun _ _ k => T_lor d_Fi_save_31 k) (S_anyl fun z3 => ?_)
  refine ST.lift (fun _ _ k => T_lstore_n (L' := [(3, .long z3), (6, .int (nI 0)), (5, .int (nI 0)), (0, .ref 78), (1, .ref f), (2, .ref b)]) d_Fi_save_32 (by decide) rfl k) ?_
  refine ST.lift (fun _ _ k => T_iload d_Fi_save_33 rfl k) ?_
  refine ST.lift (fun _ _ k => T_bipush (v := nI 26) d_Fi_save_35 (by decide) k) ?_
  refine ST.lift (fun _ _ k => T_iload d_Fi_save_37 rfl k) ?_
  refine ST.lift (fun _ _ k => T_iconst (v := nI 1) d_Fi_save_39 (by decide) k) ?_
  refine S_iandN 1 d_Fi_save_40 (by omega) (by decide) (by decide) ?_
  refine S_topi (y := nI 0) (by decide) ?_
  refine S_isubN d_Fi_save_41 (by omega) ?_
  refine S_topi (y := nI 26) (by decide) ?_
  refine S_iaddN d_Fi_save_42 ?_
  refine S_topi (y := nI 26) (by decide) ?_
  refine ST.lift (fun _ _ k => T_istore (L' := [(5, .int (nI 26)), (3, .long z3), (6, .int (nI 0)), (0, .ref 78), (1, .ref f), (2, .ref b)]) d_Fi_save_43 (by decide) rfl k) ?_
  refine ST.lift (fun _ _ k => T_iload d_Fi_save_45 rfl k) ?_
  refine ST.lift (fun _ _ k => T_bipush (v := nI 8) d_Fi_save_47 (by decide) k) ?_
  refine S_icmp_ltN d_Fi_save_49 rfl (by omega) (by omega) (fun c => by first | exact absurd c (by omega) | exact c.elim | exact absurd c (by decide) | exact absurd (by assumption) c | exact absurd c (by assumption)) (fun _ => ?_)
  refine ST.lift (fun _ _ k => T_aload_n (v := .ref b) d_Fi_save_52 rfl (Or.inr ⟨_, rfl⟩) k) ?_
  refine ST.lift (fun _ _ k => T_lload_n d_Fi_save_53 rfl k) ?_
  refine ST.lift (fun _ _ k => T_l2i d_Fi_save_54 k) (S_anyi fun z4 => ?_)
  refine S_virtual (as := [.int z4]) (rest := []) (b := b) d_Fi_save_55 rfl (jw_By_putByte.jo (by decide)) lm_Fi_47 ji_By_putByte js_By_putByte (y_b.1 _) rfl rfl rfl (Nat.le_of_ble_eq_true rfl) (by decide) (by decide) (c_By_putByte G v b bd bc bj y_b z4 hv) (fun r u5 hq => ?_)
  obtain ⟨hr, hv6, hm7⟩ := hq
  rw [hr]
  clear hr r
  have hm8 := hm.go hm7 (by intro i hi; simp only [List.mem_cons, List.not_mem_nil, or_false] at hi ⊢ <;> omega)
  show ST G mi_Fi_save 58 [(5, .int (nI 26)), (3, .long z3), (6, .int (nI 0)), (0, .ref 78), (1, .ref f), (2, .ref b)] [] u5 0 0 _
  refine ST.lift (fun _ _ k => T_lload_n d_Fi_save_58 rfl k) ?_
  refine ST.lift (fun _ _ k => T_bipush (v := nI 8) d_Fi_save_59 (by decide) k) ?_
  refine ST.lift (fun _ _ k => T_lshr d_Fi_save_61 k) (S_anyl fun z9 => ?_)
  refine ST.lift (fun _ _ k => T_lstore_n (L' := [(3, .long z9), (5, .int (nI 26)), (6, .int (nI 0)), (0, .ref 78), (1, .ref f), (2, .ref b)]) d_Fi_save_62 (by decide) rfl k) ?_
  refine ST.lift (fun _ _ k => T_iinc (x := nI 26) (L' := [(5, .int (nI 18)), (3, .long z9), (6, .int (nI 0)), (0, .ref 78), (1, .ref f), (2, .ref b)]) d_Fi_save_63 (by decide) rfl (by rw [show nI 26 + Int32.ofInt (-8) = nI 18 by decide]; rfl) k) ?_
  refine ST.lift (fun _ _ k => T_goto (tgt := 45) d_Fi_save_66 rfl k) ?_
  refine ST.lift (fun _ _ k => T_iload d_Fi_save_45 rfl k) ?_
  refine ST.lift (fun _ _ k => T_bipush (v := nI 8) d_Fi_save_47 (by decide) k) ?_
  refine S_icmp_ltN d_Fi_save_49 rfl (by omega) (by omega) (fun c => by first | exact absurd c (by omega) | exact c.elim | exact absurd c (by decide) | exact absurd (by assumption) c | exact absurd c (by assumption)) (fun _ => ?_)
  refine ST.lift (fun _ _ k => T_aload_n (v := .ref b) d_Fi_save_52 rfl (Or.inr ⟨_, rfl⟩) k) ?_
  refine ST.lift (fun _ _ k => T_lload_n d_Fi_save_53 rfl k) ?_
  refine ST.lift (fun _ _ k => T_l2i d_Fi_save_54 k) (S_anyi fun z10 => ?_)
  refine S_virtual (as := [.int z10]) (rest := []) (b := b) d_Fi_save_55 rfl (jw_By_putByte.jo (by decide)) lm_Fi_47 ji_By_putByte js_By_putByte (y_b.1 _) rfl rfl rfl (Nat.le_of_ble_eq_true rfl) (by decide) (by decide) (c_By_putByte G u5 b bd bc bj y_b z10 hv6) (fun r u11 hq => ?_)
  obtain ⟨hr, hv12, hm13⟩ := hq
  rw [hr]
  clear hr r
  have hm14 := hm8.go hm13 (by intro i hi; simp only [List.mem_cons, List.not_mem_nil, or_false] at hi ⊢ <;> omega)
  show ST G mi_Fi_save 58 [(5, .int (nI 18)), (3, .long z9), (6, .int (nI 0)), (0, .ref 78), (1, .ref f), (2, .ref b)] [] u11 0 0 _
  refine ST.lift (fun _ _ k => T_lload_n d_Fi_save_58 rfl k) ?_
  refine ST.lift (fun _ _ k => T_bipush (v := nI 8) d_Fi_save_59 (by decide) k) ?_
  refine ST.lift (fun _ _ k => T_lshr d_Fi_save_61 k) (S_anyl fun z15 => ?_)
  refine ST.lift (fun _ _ k => T_lstore_n (L' := [(3, .long z15), (5, .int (nI 18)), (6, .int (nI 0)), (0, .ref 78), (1, .ref f), (2, .ref b)]) d_Fi_save_62 (by decide) rfl k) ?_
  refine ST.lift (fun _ _ k => T_iinc (x := nI 18) (L' := [(5, .int (nI 10)), (3, .long z15), (6, .int (nI 0)), (0, .ref 78), (1, .ref f), (2, .ref b)]) d_Fi_save_63 (by decide) rfl (by rw [show nI 18 + Int32.ofInt (-8) = nI 10 by decide]; rfl) k) ?_
  refine ST.lift (fun _ _ k => T_goto (tgt := 45) d_Fi_save_66 rfl k) ?_
  refine ST.lift (fun _ _ k => T_iload d_Fi_save_45 rfl k) ?_
  refine ST.lift (fun _ _ k => T_bipush (v := nI 8) d_Fi_save_47 (by decide) k) ?_
  refine S_icmp_ltN d_Fi_save_49 rfl (by omega) (by omega) (fun c => by first | exact absurd c (by omega) | exact c.elim | exact absurd c (by decide) | exact absurd (by assumption) c | exact absurd c (by assumption)) (fun _ => ?_)
  refine ST.lift (fun _ _ k => T_aload_n (v := .ref b) d_Fi_save_52 rfl (Or.inr ⟨_, rfl⟩) k) ?_
  refine ST.lift (fun _ _ k => T_lload_n d_Fi_save_53 rfl k) ?_
  refine ST.lift (fun _ _ k => T_l2i d_Fi_save_54 k) (S_anyi fun z16 => ?_)
  refine S_virtual (as := [.int z16]) (rest := []) (b := b) d_Fi_save_55 rfl (jw_By_putByte.jo (by decide)) lm_Fi_47 ji_By_putByte js_By_putByte (y_b.1 _) rfl rfl rfl (Nat.le_of_ble_eq_true rfl) (by decide) (by decide) (c_By_putByte G u11 b bd bc bj y_b z16 hv12) (fun r u17 hq => ?_)
  obtain ⟨hr, hv18, hm19⟩ := hq
  rw [hr]
  clear hr r
  have hm20 := hm14.go hm19 (by intro i hi; simp only [List.mem_cons, List.not_mem_nil, or_false] at hi ⊢ <;> omega)
  show ST G mi_Fi_save 58 [(5, .int (nI 10)), (3, .long z15), (6, .int (nI 0)), (0, .ref 78), (1, .ref f), (2, .ref b)] [] u17 0 0 _
  refine ST.lift (fun _ _ k => T_lload_n d_Fi_save_58 rfl k) ?_
  refine ST.lift (fun _ _ k => T_bipush (v := nI 8) d_Fi_save_59 (by decide) k) ?_
  refine ST.lift (fun _ _ k => T_lshr d_Fi_save_61 k) (S_anyl fun z21 => ?_)
  refine ST.lift (fun _ _ k => T_lstore_n (L' := [(3, .long z21), (5, .int (nI 10)), (6, .int (nI 0)), (0, .ref 78), (1, .ref f), (2, .ref b)]) d_Fi_save_62 (by decide) rfl k) ?_
  refine ST.lift (fun _ _ k => T_iinc (x := nI 10) (L' := [(5, .int (nI 2)), (3, .long z21), (6, .int (nI 0)), (0, .ref 78), (1, .ref f), (2, .ref b)]) d_Fi_save_63 (by decide) rfl (by rw [show nI 10 + Int32.ofInt (-8) = nI 2 by decide]; rfl) k) ?_
  refine ST.lift (fun _ _ k => T_goto (tgt := 45) d_Fi_save_66 rfl k) ?_
  refine ST.lift (fun _ _ k => T_iload d_Fi_save_45 rfl k) ?_
  refine ST.lift (fun _ _ k => T_bipush (v := nI 8) d_Fi_save_47 (by decide) k) ?_
  refine S_icmp_ltN d_Fi_save_49 rfl (by omega) (by omega) (fun _ => ?_) (fun c => by first | exact absurd c (by omega) | exact c.elim | exact absurd c (by decide) | exact absurd (by assumption) c | exact absurd c (by assumption))
  refine S_iincN (a := 0) (b := 1) (L' := [(6, .int (nI 1)), (5, .int (nI 2)), (3, .long z21), (0, .ref 78), (1, .ref f), (2, .ref b)]) d_Fi_save_69 (by decide) rfl rfl rfl ?_
  refine ST.lift (fun _ _ k => T_goto (tgt := 13) d_Fi_save_72 rfl k) ?_
  refine ST.lift (fun _ _ k => T_iload d_Fi_save_13 rfl k) ?_
  refine ST.lift (fun _ _ k => T_bipush (v := nI 10) d_Fi_save_15 (by decide) k) ?_
  refine S_icmp_geN d_Fi_save_17 rfl (by omega) (by omega) (fun c => by first | exact absurd c (by omega) | exact c.elim | exact absurd c (by decide) | exact absurd (by assumption) c | exact absurd c (by assumption)) (fun _ => ?_)
  refine ST.lift (fun _ _ k => T_lload_n d_Fi_save_20 rfl k) ?_
  refine ST.lift (fun _ _ k => T_aload_n (v := .ref 78) d_Fi_save_21 rfl (Or.inr ⟨_, rfl⟩) k) ?_
  refine S_getfield d_Fi_save_22 fg_Fi_9 (w78 _) rfl ?_
  refine ST.lift (fun _ _ k => T_iload d_Fi_save_25 rfl k) ?_
  refine S_laload d_Fi_save_27 a79 (vp_in_nI (by omega) (by omega)) (fun z22 => ?_)
  refine ST.lift (fun _ _ k => T_iload d_Fi_save_28 rfl k) ?_
  refine ST.lift (fun _ _ k => T_lshl d_Fi_save_30 k) (S_anyl fun z23 => ?_)
  refine ST.lift (fun _ _ k => T_lor d_Fi_save_31 k) (S_anyl fun z24 => ?_)
  refine ST.lift (fun _ _ k => T_lstore_n (L' := [(3, .long z24), (6, .int (nI 1)), (5, .int (nI 2)), (0, .ref 78), (1, .ref f), (2, .ref b)]) d_Fi_save_32 (by decide) rfl k) ?_
  refine ST.lift (fun _ _ k => T_iload d_Fi_save_33 rfl k) ?_
  refine ST.lift (fun _ _ k => T_bipush (v := nI 26) d_Fi_save_35 (by decide) k) ?_
  refine ST.lift (fun _ _ k => T_iload d_Fi_save_37 rfl k) ?_
  refine ST.lift (fun _ _ k => T_iconst (v := nI 1) d_Fi_save_39 (by decide) k) ?_
  refine S_iandN 1 d_Fi_save_40 (by omega) (by decide) (by decide) ?_
  refine S_topi (y := nI 1) (by decide) ?_
  refine S_isubN d_Fi_save_41 (by omega) ?_
  refine S_topi (y := nI 25) (by decide) ?_
  refine S_iaddN d_Fi_save_42 ?_
  refine S_topi (y := nI 27) (by decide) ?_
  refine ST.lift (fun _ _ k => T_istore (L' := [(5, .int (nI 27)), (3, .long z24), (6, .int (nI 1)), (0, .ref 78), (1, .ref f), (2, .ref b)]) d_Fi_save_43 (by decide) rfl k) ?_
  refine ST.lift (fun _ _ k => T_iload d_Fi_save_45 rfl k) ?_
  refine ST.lift (fun _ _ k => T_bipush (v := nI 8) d_Fi_save_47 (by decide) k) ?_
  refine S_icmp_ltN d_Fi_save_49 rfl (by omega) (by omega) (fun c => by first | exact absurd c (by omega) | exact c.elim | exact absurd c (by decide) | exact absurd (by assumption) c | exact absurd c (by assumption)) (fun _ => ?_)
  refine ST.lift (fun _ _ k => T_aload_n (v := .ref b) d_Fi_save_52 rfl (Or.inr ⟨_, rfl⟩) k) ?_
  refine ST.lift (fun _ _ k => T_lload_n d_Fi_save_53 rfl k) ?_
  refine ST.lift (fun _ _ k => T_l2i d_Fi_save_54 k) (S_anyi fun z25 => ?_)
  refine S_virtual (as := [.int z25]) (rest := []) (b := b) d_Fi_save_55 rfl (jw_By_putByte.jo (by decide)) lm_Fi_47 ji_By_putByte js_By_putByte (y_b.1 _) rfl rfl rfl (Nat.le_of_ble_eq_true rfl) (by decide) (by decide) (c_By_putByte G u17 b bd bc bj y_b z25 hv18) (fun r u26 hq => ?_)
  obtain ⟨hr, hv27, hm28⟩ := hq
  rw [hr]
  clear hr r
  have hm29 := hm20.go hm28 (by intro i hi; simp only [List.mem_cons, List.not_mem_nil, or_false] at hi ⊢ <;> omega)
  show ST G mi_Fi_save 58 [(5, .int (nI 27)), (3, .long z24), (6, .int (nI 1)), (0, .ref 78), (1, .ref f), (2, .ref b)] [] u26 0 0 _
  refine ST.lift (fun _ _ k => T_lload_n d_Fi_save_58 rfl k) ?_
  refine ST.lift (fun _ _ k => T_bipush (v := nI 8) d_Fi_save_59 (by decide) k) ?_
  refine ST.lift (fun _ _ k => T_lshr d_Fi_save_61 k) (S_anyl fun z30 => ?_)
  refine ST.lift (fun _ _ k => T_lstore_n (L' := [(3, .long z30), (5, .int (nI 27)), (6, .int (nI 1)), (0, .ref 78), (1, .ref f), (2, .ref b)]) d_Fi_save_62 (by decide) rfl k) ?_
  refine ST.lift (fun _ _ k => T_iinc (x := nI 27) (L' := [(5, .int (nI 19)), (3, .long z30), (6, .int (nI 1)), (0, .ref 78), (1, .ref f), (2, .ref b)]) d_Fi_save_63 (by decide) rfl (by rw [show nI 27 + Int32.ofInt (-8) = nI 19 by decide]; rfl) k) ?_
  refine ST.lift (fun _ _ k => T_goto (tgt := 45) d_Fi_save_66 rfl k) ?_
  refine ST.lift (fun _ _ k => T_iload d_Fi_save_45 rfl k) ?_
  refine ST.lift (fun _ _ k => T_bipush (v := nI 8) d_Fi_save_47 (by decide) k) ?_
  refine S_icmp_ltN d_Fi_save_49 rfl (by omega) (by omega) (fun c => by first | exact absurd c (by omega) | exact c.elim | exact absurd c (by decide) | exact absurd (by assumption) c | exact absurd c (by assumption)) (fun _ => ?_)
  refine ST.lift (fun _ _ k => T_aload_n (v := .ref b) d_Fi_save_52 rfl (Or.inr ⟨_, rfl⟩) k) ?_
  refine ST.lift (fun _ _ k => T_lload_n d_Fi_save_53 rfl k) ?_
  refine ST.lift (fun _ _ k => T_l2i d_Fi_save_54 k) (S_anyi fun z31 => ?_)
  refine S_virtual (as := [.int z31]) (rest := []) (b := b) d_Fi_save_55 rfl (jw_By_putByte.jo (by decide)) lm_Fi_47 ji_By_putByte js_By_putByte (y_b.1 _) rfl rfl rfl (Nat.le_of_ble_eq_true rfl) (by decide) (by decide) (c_By_putByte G u26 b bd bc bj y_b z31 hv27) (fun r u32 hq => ?_)
  obtain ⟨hr, hv33, hm34⟩ := hq
  rw [hr]
  clear hr r
  have hm35 := hm29.go hm34 (by intro i hi; simp only [List.mem_cons, List.not_mem_nil, or_false] at hi ⊢ <;> omega)
  show ST G mi_Fi_save 58 [(5, .int (nI 19)), (3, .long z30), (6, .int (nI 1)), (0, .ref 78), (1, .ref f), (2, .ref b)] [] u32 0 0 _
  refine ST.lift (fun _ _ k => T_lload_n d_Fi_save_58 rfl k) ?_
  refine ST.lift (fun _ _ k => T_bipush (v := nI 8) d_Fi_save_59 (by decide) k) ?_
  refine ST.lift (fun _ _ k => T_lshr d_Fi_save_61 k) (S_anyl fun z36 => ?_)
  refine ST.lift (fun _ _ k => T_lstore_n (L' := [(3, .long z36), (5, .int (nI 19)), (6, .int (nI 1)), (0, .ref 78), (1, .ref f), (2, .ref b)]) d_Fi_save_62 (by decide) rfl k) ?_
  refine ST.lift (fun _ _ k => T_iinc (x := nI 19) (L' := [(5, .int (nI 11)), (3, .long z36), (6, .int (nI 1)), (0, .ref 78), (1, .ref f), (2, .ref b)]) d_Fi_save_63 (by decide) rfl (by rw [show nI 19 + Int32.ofInt (-8) = nI 11 by decide]; rfl) k) ?_
  refine ST.lift (fun _ _ k => T_goto (tgt := 45) d_Fi_save_66 rfl k) ?_
  refine ST.lift (fun _ _ k => T_iload d_Fi_save_45 rfl k) ?_
  refine ST.lift (fun _ _ k => T_bipush (v := nI 8) d_Fi_save_47 (by decide) k) ?_
  refine S_icmp_ltN d_Fi_save_49 rfl (by omega) (by omega) (fun c => by first | exact absurd c (by omega) | exact c.elim | exact absurd c (by decide) | exact absurd (by assumption) c | exact absurd c (by assumption)) (fun _ => ?_)
  refine ST.lift (fun _ _ k => T_aload_n (v := .ref b) d_Fi_save_52 rfl (Or.inr ⟨_, rfl⟩) k) ?_
  refine ST.lift (fun _ _ k => T_lload_n d_Fi_save_53 rfl k) ?_
  refine ST.lift (fun _ _ k => T_l2i d_Fi_save_54 k) (S_anyi fun z37 => ?_)
  refine S_virtual (as := [.int z37]) (rest := []) (b := b) d_Fi_save_55 rfl (jw_By_putByte.jo (by decide)) lm_Fi_47 ji_By_putByte js_By_putByte (y_b.1 _) rfl rfl rfl (Nat.le_of_ble_eq_true rfl) (by decide) (by decide) (c_By_putByte G u32 b bd bc bj y_b z37 hv33) (fun r u38 hq => ?_)
  obtain ⟨hr, hv39, hm40⟩ := hq
  rw [hr]
  clear hr r
  have hm41 := hm35.go hm40 (by intro i hi; simp only [List.mem_cons, List.not_mem_nil, or_false] at hi ⊢ <;> omega)
  show ST G mi_Fi_save 58 [(5, .int (nI 11)), (3, .long z36), (6, .int (nI 1)), (0, .ref 78), (1, .ref f), (2, .ref b)] [] u38 0 0 _
  refine ST.lift (fun _ _ k => T_lload_n d_Fi_save_58 rfl k) ?_
  refine ST.lift (fun _ _ k => T_bipush (v := nI 8) d_Fi_save_59 (by decide) k) ?_
  refine ST.lift (fun _ _ k => T_lshr d_Fi_save_61 k) (S_anyl fun z42 => ?_)
  refine ST.lift (fun _ _ k => T_lstore_n (L' := [(3, .long z42), (5, .int (nI 11)), (6, .int (nI 1)), (0, .ref 78), (1, .ref f), (2, .ref b)]) d_Fi_save_62 (by decide) rfl k) ?_
  refine ST.lift (fun _ _ k => T_iinc (x := nI 11) (L' := [(5, .int (nI 3)), (3, .long z42), (6, .int (nI 1)), (0, .ref 78), (1, .ref f), (2, .ref b)]) d_Fi_save_63 (by decide) rfl (by rw [show nI 11 + Int32.ofInt (-8) = nI 3 by decide]; rfl) k) ?_
  refine ST.lift (fun _ _ k => T_goto (tgt := 45) d_Fi_save_66 rfl k) ?_
  refine ST.lift (fun _ _ k => T_iload d_Fi_save_45 rfl k) ?_
  refine ST.lift (fun _ _ k => T_bipush (v := nI 8) d_Fi_save_47 (by decide) k) ?_
  refine S_icmp_ltN d_Fi_save_49 rfl (by omega) (by omega) (fun _ => ?_) (fun c => by first | exact absurd c (by omega) | exact c.elim | exact absurd c (by decide) | exact absurd (by assumption) c | exact absurd c (by assumption))
  refine S_iincN (a := 1) (b := 1) (L' := [(6, .int (nI 2)), (5, .int (nI 3)), (3, .long z42), (0, .ref 78), (1, .ref f), (2, .ref b)]) d_Fi_save_69 (by decide) rfl rfl rfl ?_
  refine ST.lift (fun _ _ k => T_goto (tgt := 13) d_Fi_save_72 rfl k) ?_
  refine ST.lift (fun _ _ k => T_iload d_Fi_save_13 rfl k) ?_
  refine ST.lift (fun _ _ k => T_bipush (v := nI 10) d_Fi_save_15 (by decide) k) ?_
  refine S_icmp_geN d_Fi_save_17 rfl (by omega) (by omega) (fun c => by first | exact absurd c (by omega) | exact c.elim | exact absurd c (by decide) | exact absurd (by assumption) c | exact absurd c (by assumption)) (fun _ => ?_)
  refine ST.lift (fun _ _ k => T_lload_n d_Fi_save_20 rfl k) ?_
  refine ST.lift (fun _ _ k => T_aload_n (v := .ref 78) d_Fi_save_21 rfl (Or.inr ⟨_, rfl⟩) k) ?_
  refine S_getfield d_Fi_save_22 fg_Fi_9 (w78 _) rfl ?_
  refine ST.lift (fun _ _ k => T_iload d_Fi_save_25 rfl k) ?_
  refine S_laload d_Fi_save_27 a79 (vp_in_nI (by omega) (by omega)) (fun z43 => ?_)
  refine ST.lift (fun _ _ k => T_iload d_Fi_save_28 rfl k) ?_
  refine ST.lift (fun _ _ k => T_lshl d_Fi_save_30 k) (S_anyl fun z44 => ?_)
  refine ST.lift (fun _ _ k => T_lor d_Fi_save_31 k) (S_anyl fun z45 => ?_)
  refine ST.lift (fun _ _ k => T_lstore_n (L' := [(3, .long z45), (6, .int (nI 2)), (5, .int (nI 3)), (0, .ref 78), (1, .ref f), (2, .ref b)]) d_Fi_save_32 (by decide) rfl k) ?_
  refine ST.lift (fun _ _ k => T_iload d_Fi_save_33 rfl k) ?_
  refine ST.lift (fun _ _ k => T_bipush (v := nI 26) d_Fi_save_35 (by decide) k) ?_
  refine ST.lift (fun _ _ k => T_iload d_Fi_save_37 rfl k) ?_
  refine ST.lift (fun _ _ k => T_iconst (v := nI 1) d_Fi_save_39 (by decide) k) ?_
  refine S_iandN 1 d_Fi_save_40 (by omega) (by decide) (by decide) ?_
  refine S_topi (y := nI 0) (by decide) ?_
  refine S_isubN d_Fi_save_41 (by omega) ?_
  refine S_topi (y := nI 26) (by decide) ?_
  refine S_iaddN d_Fi_save_42 ?_
  refine S_topi (y := nI 29) (by decide) ?_
  refine ST.lift (fun _ _ k => T_istore (L' := [(5, .int (nI 29)), (3, .long z45), (6, .int (nI 2)), (0, .ref 78), (1, .ref f), (2, .ref b)]) d_Fi_save_43 (by decide) rfl k) ?_
  refine ST.lift (fun _ _ k => T_iload d_Fi_save_45 rfl k) ?_
  refine ST.lift (fun _ _ k => T_bipush (v := nI 8) d_Fi_save_47 (by decide) k) ?_
  refine S_icmp_ltN d_Fi_save_49 rfl (by omega) (by omega) (fun c => by first | exact absurd c (by omega) | exact c.elim | exact absurd c (by decide) | exact absurd (by assumption) c | exact absurd c (by assumption)) (fun _ => ?_)
  refine ST.lift (fun _ _ k => T_aload_n (v := .ref b) d_Fi_save_52 rfl (Or.inr ⟨_, rfl⟩) k) ?_
  refine ST.lift (fun _ _ k => T_lload_n d_Fi_save_53 rfl k) ?_
  refine ST.lift (fun _ _ k => T_l2i d_Fi_save_54 k) (S_anyi fun z46 => ?_)
  refine S_virtual (as := [.int z46]) (rest := []) (b := b) d_Fi_save_55 rfl (jw_By_putByte.jo (by decide)) lm_Fi_47 ji_By_putByte js_By_putByte (y_b.1 _) rfl rfl rfl (Nat.le_of_ble_eq_true rfl) (by decide) (by decide) (c_By_putByte G u38 b bd bc bj y_b z46 hv39) (fun r u47 hq => ?_)
  obtain ⟨hr, hv48, hm49⟩ := hq
  rw [hr]
  clear hr r
  have hm50 := hm41.go hm49 (by intro i hi; simp only [List.mem_cons, List.not_mem_nil, or_false] at hi ⊢ <;> omega)
  show ST G mi_Fi_save 58 [(5, .int (nI 29)), (3, .long z45), (6, .int (nI 2)), (0, .ref 78), (1, .ref f), (2, .ref b)] [] u47 0 0 _
  refine ST.lift (fun _ _ k => T_lload_n d_Fi_save_58 rfl k) ?_
  refine ST.lift (fun _ _ k => T_bipush (v := nI 8) d_Fi_save_59 (by decide) k) ?_
  refine ST.lift (fun _ _ k => T_lshr d_Fi_save_61 k) (S_anyl fun z51 => ?_)
  refine ST.lift (fun _ _ k => T_lstore_n (L' := [(3, .long z51), (5, .int (nI 29)), (6, .int (nI 2)), (0, .ref 78), (1, .ref f), (2, .ref b)]) d_Fi_save_62 (by decide) rfl k) ?_
  refine ST.lift (fun _ _ k => T_iinc (x := nI 29) (L' := [(5, .int (nI 21)), (3, .long z51), (6, .int (nI 2)), (0, .ref 78), (1, .ref f), (2, .ref b)]) d_Fi_save_63 (by decide) rfl (by rw [show nI 29 + Int32.ofInt (-8) = nI 21 by decide]; rfl) k) ?_
  refine ST.lift (fun _ _ k => T_goto (tgt := 45) d_Fi_save_66 rfl k) ?_
  refine ST.lift (fun _ _ k => T_iload d_Fi_save_45 rfl k) ?_
  refine ST.lift (fun _ _ k => T_bipush (v := nI 8) d_Fi_save_47 (by decide) k) ?_
  refine S_icmp_ltN d_Fi_save_49 rfl (by omega) (by omega) (fun c => by first | exact absurd c (by omega) | exact c.elim | exact absurd c (by decide) | exact absurd (by assumption) c | exact absurd c (by assumption)) (fun _ => ?_)
  refine ST.lift (fun _ _ k => T_aload_n (v := .ref b) d_Fi_save_52 rfl (Or.inr ⟨_, rfl⟩) k) ?_
  refine ST.lift (fun _ _ k => T_lload_n d_Fi_save_53 rfl k) ?_
  refine ST.lift (fun _ _ k => T_l2i d_Fi_save_54 k) (S_anyi fun z52 => ?_)
  refine S_virtual (as := [.int z52]) (rest := []) (b := b) d_Fi_save_55 rfl (jw_By_putByte.jo (by decide)) lm_Fi_47 ji_By_putByte js_By_putByte (y_b.1 _) rfl rfl rfl (Nat.le_of_ble_eq_true rfl) (by decide) (by decide) (c_By_putByte G u47 b bd bc bj y_b z52 hv48) (fun r u53 hq => ?_)
  obtain ⟨hr, hv54, hm55⟩ := hq
  rw [hr]
  clear hr r
  have hm56 := hm50.go hm55 (by intro i hi; simp only [List.mem_cons, List.not_mem_nil, or_false] at hi ⊢ <;> omega)
  show ST G mi_Fi_save 58 [(5, .int (nI 21)), (3, .long z51), (6, .int (nI 2)), (0, .ref 78), (1, .ref f), (2, .ref b)] [] u53 0 0 _
  refine ST.lift (fun _ _ k => T_lload_n d_Fi_save_58 rfl k) ?_
  refine ST.lift (fun _ _ k => T_bipush (v := nI 8) d_Fi_save_59 (by decide) k) ?_
  refine ST.lift (fun _ _ k => T_lshr d_Fi_save_61 k) (S_anyl fun z57 => ?_)
  refine ST.lift (fun _ _ k => T_lstore_n (L' := [(3, .long z57), (5, .int (nI 21)), (6, .int (nI 2)), (0, .ref 78), (1, .ref f), (2, .ref b)]) d_Fi_save_62 (by decide) rfl k) ?_
  refine ST.lift (fun _ _ k => T_iinc (x := nI 21) (L' := [(5, .int (nI 13)), (3, .long z57), (6, .int (nI 2)), (0, .ref 78), (1, .ref f), (2, .ref b)]) d_Fi_save_63 (by decide) rfl (by rw [show nI 21 + Int32.ofInt (-8) = nI 13 by decide]; rfl) k) ?_
  refine ST.lift (fun _ _ k => T_goto (tgt := 45) d_Fi_save_66 rfl k) ?_
  refine ST.lift (fun _ _ k => T_iload d_Fi_save_45 rfl k) ?_
  refine ST.lift (fun _ _ k => T_bipush (v := nI 8) d_Fi_save_47 (by decide) k) ?_
  refine S_icmp_ltN d_Fi_save_49 rfl (by omega) (by omega) (fun c => by first | exact absurd c (by omega) | exact c.elim | exact absurd c (by decide) | exact absurd (by assumption) c | exact absurd c (by assumption)) (fun _ => ?_)
  refine ST.lift (fun _ _ k => T_aload_n (v := .ref b) d_Fi_save_52 rfl (Or.inr ⟨_, rfl⟩) k) ?_
  refine ST.lift (fun _ _ k => T_lload_n d_Fi_save_53 rfl k) ?_
  refine ST.lift (fun _ _ k => T_l2i d_Fi_save_54 k) (S_anyi fun z58 => ?_)
  refine S_virtual (as := [.int z58]) (rest := []) (b := b) d_Fi_save_55 rfl (jw_By_putByte.jo (by decide)) lm_Fi_47 ji_By_putByte js_By_putByte (y_b.1 _) rfl rfl rfl (Nat.le_of_ble_eq_true rfl) (by decide) (by decide) (c_By_putByte G u53 b bd bc bj y_b z58 hv54) (fun r u59 hq => ?_)
  obtain ⟨hr, hv60, hm61⟩ := hq
  rw [hr]
  clear hr r
  have hm62 := hm56.go hm61 (by intro i hi; simp only [List.mem_cons, List.not_mem_nil, or_false] at hi ⊢ <;> omega)
  show ST G mi_Fi_save 58 [(5, .int (nI 13)), (3, .long z57), (6, .int (nI 2)), (0, .ref 78), (1, .ref f), (2, .ref b)] [] u59 0 0 _
  refine ST.lift (fun _ _ k => T_lload_n d_Fi_save_58 rfl k) ?_
  refine ST.lift (fun _ _ k => T_bipush (v := nI 8) d_Fi_save_59 (by decide) k) ?_
  refine ST.lift (fun _ _ k => T_lshr d_Fi_save_61 k) (S_anyl fun z63 => ?_)
  refine ST.lift (fun _ _ k => T_lstore_n (L' := [(3, .long z63), (5, .int (nI 13)), (6, .int (nI 2)), (0, .ref 78), (1, .ref f), (2, .ref b)]) d_Fi_save_62 (by decide) rfl k) ?_
  refine ST.lift (fun _ _ k => T_iinc (x := nI 13) (L' := [(5, .int (nI 5)), (3, .long z63), (6, .int (nI 2)), (0, .ref 78), (1, .ref f), (2, .ref b)]) d_Fi_save_63 (by decide) rfl (by rw [show nI 13 + Int32.ofInt (-8) = nI 5 by decide]; rfl) k) ?_
  refine ST.lift (fun _ _ k => T_goto (tgt := 45) d_Fi_save_66 rfl k) ?_
  refine ST.lift (fun _ _ k => T_iload d_Fi_save_45 rfl k) ?_
  refine ST.lift (fun _ _ k => T_bipush (v := nI 8) d_Fi_save_47 (by decide) k) ?_
  refine S_icmp_ltN d_Fi_save_49 rfl (by omega) (by omega) (fun _ => ?_) (fun c => by first | exact absurd c (by omega) | exact c.elim | exact absurd c (by decide) | exact absurd (by assumption) c | exact absurd c (by assumption))
  refine S_iincN (a := 2) (b := 1) (L' := [(6, .int (nI 3)), (5, .int (nI 5)), (3, .long z63), (0, .ref 78), (1, .ref f), (2, .ref b)]) d_Fi_save_69 (by decide) rfl rfl rfl ?_
  refine ST.lift (fun _ _ k => T_goto (tgt := 13) d_Fi_save_72 rfl k) ?_
  refine ST.lift (fun _ _ k => T_iload d_Fi_save_13 rfl k) ?_
  refine ST.lift (fun _ _ k => T_bipush (v := nI 10) d_Fi_save_15 (by decide) k) ?_
  refine S_icmp_geN d_Fi_save_17 rfl (by omega) (by omega) (fun c => by first | exact absurd c (by omega) | exact c.elim | exact absurd c (by decide) | exact absurd (by assumption) c | exact absurd c (by assumption)) (fun _ => ?_)
  refine ST.lift (fun _ _ k => T_lload_n d_Fi_save_20 rfl k) ?_
  refine ST.lift (fun _ _ k => T_aload_n (v := .ref 78) d_Fi_save_21 rfl (Or.inr ⟨_, rfl⟩) k) ?_
  refine S_getfield d_Fi_save_22 fg_Fi_9 (w78 _) rfl ?_
  refine ST.lift (fun _ _ k => T_iload d_Fi_save_25 rfl k) ?_
  refine S_laload d_Fi_save_27 a79 (vp_in_nI (by omega) (by omega)) (fun z64 => ?_)
  refine ST.lift (fun _ _ k => T_iload d_Fi_save_28 rfl k) ?_
  refine ST.lift (fun _ _ k => T_lshl d_Fi_save_30 k) (S_anyl fun z65 => ?_)
  refine ST.lift (fun _ _ k => T_lor d_Fi_save_31 k) (S_anyl fun z66 => ?_)
  refine ST.lift (fun _ _ k => T_lstore_n (L' := [(3, .long z66), (6, .int (nI 3)), (5, .int (nI 5)), (0, .ref 78), (1, .ref f), (2, .ref b)]) d_Fi_save_32 (by decide) rfl k) ?_
  refine ST.lift (fun _ _ k => T_iload d_Fi_save_33 rfl k) ?_
  refine ST.lift (fun _ _ k => T_bipush (v := nI 26) d_Fi_save_35 (by decide) k) ?_
  refine ST.lift (fun _ _ k => T_iload d_Fi_save_37 rfl k) ?_
  refine ST.lift (fun _ _ k => T_iconst (v := nI 1) d_Fi_save_39 (by decide) k) ?_
  refine S_iandN 1 d_Fi_save_40 (by omega) (by decide) (by decide) ?_
  refine S_topi (y := nI 1) (by decide) ?_
  refine S_isubN d_Fi_save_41 (by omega) ?_
  refine S_topi (y := nI 25) (by decide) ?_
  refine S_iaddN d_Fi_save_42 ?_
  refine S_topi (y := nI 30) (by decide) ?_
  refine ST.lift (fun _ _ k => T_istore (L' := [(5, .int (nI 30)), (3, .long z66), (6, .int (nI 3)), (0, .ref 78), (1, .ref f), (2, .ref b)]) d_Fi_save_43 (by decide) rfl k) ?_
  refine ST.lift (fun _ _ k => T_iload d_Fi_save_45 rfl k) ?_
  refine ST.lift (fun _ _ k => T_bipush (v := nI 8) d_Fi_save_47 (by decide) k) ?_
  refine S_icmp_ltN d_Fi_save_49 rfl (by omega) (by omega) (fun c => by first | exact absurd c (by omega) | exact c.elim | exact absurd c (by decide) | exact absurd (by assumption) c | exact absurd c (by assumption)) (fun _ => ?_)
  refine ST.lift (fun _ _ k => T_aload_n (v := .ref b) d_Fi_save_52 rfl (Or.inr ⟨_, rfl⟩) k) ?_
  refine ST.lift (fun _ _ k => T_lload_n d_Fi_save_53 rfl k) ?_
  refine ST.lift (fun _ _ k => T_l2i d_Fi_save_54 k) (S_anyi fun z67 => ?_)
  refine S_virtual (as := [.int z67]) (rest := []) (b := b) d_Fi_save_55 rfl (jw_By_putByte.jo (by decide)) lm_Fi_47 ji_By_putByte js_By_putByte (y_b.1 _) rfl rfl rfl (Nat.le_of_ble_eq_true rfl) (by decide) (by decide) (c_By_putByte G u59 b bd bc bj y_b z67 hv60) (fun r u68 hq => ?_)
  obtain ⟨hr, hv69, hm70⟩ := hq
  rw [hr]
  clear hr r
  have hm71 := hm62.go hm70 (by intro i hi; simp only [List.mem_cons, List.not_mem_nil, or_false] at hi ⊢ <;> omega)
  show ST G mi_Fi_save 58 [(5, .int (nI 30)), (3, .long z66), (6, .int (nI 3)), (0, .ref 78), (1, .ref f), (2, .ref b)] [] u68 0 0 _
  refine ST.lift (fun _ _ k => T_lload_n d_Fi_save_58 rfl k) ?_
  refine ST.lift (fun _ _ k => T_bipush (v := nI 8) d_Fi_save_59 (by decide) k) ?_
  refine ST.lift (fun _ _ k => T_lshr d_Fi_save_61 k) (S_anyl fun z72 => ?_)
  refine ST.lift (fun _ _ k => T_lstore_n (L' := [(3, .long z72), (5, .int (nI 30)), (6, .int (nI 3)), (0, .ref 78), (1, .ref f), (2, .ref b)]) d_Fi_save_62 (by decide) rfl k) ?_
  refine ST.lift (fun _ _ k => T_iinc (x := nI 30) (L' := [(5, .int (nI 22)), (3, .long z72), (6, .int (nI 3)), (0, .ref 78), (1, .ref f), (2, .ref b)]) d_Fi_save_63 (by decide) rfl (by rw [show nI 30 + Int32.ofInt (-8) = nI 22 by decide]; rfl) k) ?_
  refine ST.lift (fun _ _ k => T_goto (tgt := 45) d_Fi_save_66 rfl k) ?_
  refine ST.lift (fun _ _ k => T_iload d_Fi_save_45 rfl k) ?_
  refine ST.lift (fun _ _ k => T_bipush (v := nI 8) d_Fi_save_47 (by decide) k) ?_
  refine S_icmp_ltN d_Fi_save_49 rfl (by omega) (by omega) (fun c => by first | exact absurd c (by omega) | exact c.elim | exact absurd c (by decide) | exact absurd (by assumption) c | exact absurd c (by assumption)) (fun _ => ?_)
  refine ST.lift (fun _ _ k => T_aload_n (v := .ref b) d_Fi_save_52 rfl (Or.inr ⟨_, rfl⟩) k) ?_
  refine ST.lift (fun _ _ k => T_lload_n d_Fi_save_53 rfl k) ?_
  refine ST.lift (fun _ _ k => T_l2i d_Fi_save_54 k) (S_anyi fun z73 => ?_)
  refine S_virtual (as := [.int z73]) (rest := []) (b := b) d_Fi_save_55 rfl (jw_By_putByte.jo (by decide)) lm_Fi_47 ji_By_putByte js_By_putByte (y_b.1 _) rfl rfl rfl (Nat.le_of_ble_eq_true rfl) (by decide) (by decide) (c_By_putByte G u68 b bd bc bj y_b z73 hv69) (fun r u74 hq => ?_)
  obtain ⟨hr, hv75, hm76⟩ := hq
  rw [hr]
  clear hr r
  have hm77 := hm71.go hm76 (by intro i hi; simp only [List.mem_cons, List.not_mem_nil, or_false] at hi ⊢ <;> omega)
  show ST G mi_Fi_save 58 [(5, .int (nI 22)), (3, .long z72), (6, .int (nI 3)), (0, .ref 78), (1, .ref f), (2, .ref b)] [] u74 0 0 _
  refine ST.lift (fun _ _ k => T_lload_n d_Fi_save_58 rfl k) ?_
  refine ST.lift (fun _ _ k => T_bipush (v := nI 8) d_Fi_save_59 (by decide) k) ?_
  refine ST.lift (fun _ _ k => T_lshr d_Fi_save_61 k) (S_anyl fun z78 => ?_)
  refine ST.lift (fun _ _ k => T_lstore_n (L' := [(3, .long z78), (5, .int (nI 22)), (6, .int (nI 3)), (0, .ref 78), (1, .ref f), (2, .ref b)]) d_Fi_save_62 (by decide) rfl k) ?_
  refine ST.lift (fun _ _ k => T_iinc (x := nI 22) (L' := [(5, .int (nI 14)), (3, .long z78), (6, .int (nI 3)), (0, .ref 78), (1, .ref f), (2, .ref b)]) d_Fi_save_63 (by decide) rfl (by rw [show nI 22 + Int32.ofInt (-8) = nI 14 by decide]; rfl) k) ?_
  refine ST.lift (fun _ _ k => T_goto (tgt := 45) d_Fi_save_66 rfl k) ?_
  refine ST.lift (fun _ _ k => T_iload d_Fi_save_45 rfl k) ?_
  refine ST.lift (fun _ _ k => T_bipush (v := nI 8) d_Fi_save_47 (by decide) k) ?_
  refine S_icmp_ltN d_Fi_save_49 rfl (by omega) (by omega) (fun c => by first | exact absurd c (by omega) | exact c.elim | exact absurd c (by decide) | exact absurd (by assumption) c | exact absurd c (by assumption)) (fun _ => ?_)
  refine ST.lift (fun _ _ k => T_aload_n (v := .ref b) d_Fi_save_52 rfl (Or.inr ⟨_, rfl⟩) k) ?_
  refine ST.lift (fun _ _ k => T_lload_n d_Fi_save_53 rfl k) ?_
  refine ST.lift (fun _ _ k => T_l2i d_Fi_save_54 k) (S_anyi fun z79 => ?_)
  refine S_virtual (as := [.int z79]) (rest := []) (b := b) d_Fi_save_55 rfl (jw_By_putByte.jo (by decide)) lm_Fi_47 ji_By_putByte js_By_putByte (y_b.1 _) rfl rfl rfl (Nat.le_of_ble_eq_true rfl) (by decide) (by decide) (c_By_putByte G u74 b bd bc bj y_b z79 hv75) (fun r u80 hq => ?_)
  obtain ⟨hr, hv81, hm82⟩ := hq
  rw [hr]
  clear hr r
  have hm83 := hm77.go hm82 (by intro i hi; simp only [List.mem_cons, List.not_mem_nil, or_false] at hi ⊢ <;> omega)
  show ST G mi_Fi_save 58 [(5, .int (nI 14)), (3, .long z78), (6, .int (nI 3)), (0, .ref 78), (1, .ref f), (2, .ref b)] [] u80 0 0 _
  refine ST.lift (fun _ _ k => T_lload_n d_Fi_save_58 rfl k) ?_
  refine ST.lift (fun _ _ k => T_bipush (v := nI 8) d_Fi_save_59 (by decide) k) ?_
  refine ST.lift (fun _ _ k => T_lshr d_Fi_save_61 k) (S_anyl fun z84 => ?_)
  refine ST.lift (fun _ _ k => T_lstore_n (L' := [(3, .long z84), (5, .int (nI 14)), (6, .int (nI 3)), (0, .ref 78), (1, .ref f), (2, .ref b)]) d_Fi_save_62 (by decide) rfl k) ?_
  refine ST.lift (fun _ _ k => T_iinc (x := nI 14) (L' := [(5, .int (nI 6)), (3, .long z84), (6, .int (nI 3)), (0, .ref 78), (1, .ref f), (2, .ref b)]) d_Fi_save_63 (by decide) rfl (by rw [show nI 14 + Int32.ofInt (-8) = nI 6 by decide]; rfl) k) ?_
  refine ST.lift (fun _ _ k => T_goto (tgt := 45) d_Fi_save_66 rfl k) ?_
  refine ST.lift (fun _ _ k => T_iload d_Fi_save_45 rfl k) ?_
  refine ST.lift (fun _ _ k => T_bipush (v := nI 8) d_Fi_save_47 (by decide) k) ?_
  refine S_icmp_ltN d_Fi_save_49 rfl (by omega) (by omega) (fun _ => ?_) (fun c => by first | exact absurd c (by omega) | exact c.elim | exact absurd c (by decide) | exact absurd (by assumption) c | exact absurd c (by assumption))
  refine S_iincN (a := 3) (b := 1) (L' := [(6, .int (nI 4)), (5, .int (nI 6)), (3, .long z84), (0, .ref 78), (1, .ref f), (2, .ref b)]) d_Fi_save_69 (by decide) rfl rfl rfl ?_
  refine ST.lift (fun _ _ k => T_goto (tgt := 13) d_Fi_save_72 rfl k) ?_
  refine ST.lift (fun _ _ k => T_iload d_Fi_save_13 rfl k) ?_
  refine ST.lift (fun _ _ k => T_bipush (v := nI 10) d_Fi_save_15 (by decide) k) ?_
  refine S_icmp_geN d_Fi_save_17 rfl (by omega) (by omega) (fun c => by first | exact absurd c (by omega) | exact c.elim | exact absurd c (by decide) | exact absurd (by assumption) c | exact absurd c (by assumption)) (fun _ => ?_)
  refine ST.lift (fun _ _ k => T_lload_n d_Fi_save_20 rfl k) ?_
  refine ST.lift (fun _ _ k => T_aload_n (v := .ref 78) d_Fi_save_21 rfl (Or.inr ⟨_, rfl⟩) k) ?_
  refine S_getfield d_Fi_save_22 fg_Fi_9 (w78 _) rfl ?_
  refine ST.lift (fun _ _ k => T_iload d_Fi_save_25 rfl k) ?_
  refine S_laload d_Fi_save_27 a79 (vp_in_nI (by omega) (by omega)) (fun z85 => ?_)
  refine ST.lift (fun _ _ k => T_iload d_Fi_save_28 rfl k) ?_
  refine ST.lift (fun _ _ k => T_lshl d_Fi_save_30 k) (S_anyl fun z86 => ?_)
  refine ST.lift (fun _ _ k => T_lor d_Fi_save_31 k) (S_anyl fun z87 => ?_)
  refine ST.lift (fun _ _ k => T_lstore_n (L' := [(3, .long z87), (6, .int (nI 4)), (5, .int (nI 6)), (0, .ref 78), (1, .ref f), (2, .ref b)]) d_Fi_save_32 (by decide) rfl k) ?_
  refine ST.lift (fun _ _ k => T_iload d_Fi_save_33 rfl k) ?_
  refine ST.lift (fun _ _ k => T_bipush (v := nI 26) d_Fi_save_35 (by decide) k) ?_
  refine ST.lift (fun _ _ k => T_iload d_Fi_save_37 rfl k) ?_
  refine ST.lift (fun _ _ k => T_iconst (v := nI 1) d_Fi_save_39 (by decide) k) ?_
  refine S_iandN 1 d_Fi_save_40 (by omega) (by decide) (by decide) ?_
  refine S_topi (y := nI 0) (by decide) ?_
  refine S_isubN d_Fi_save_41 (by omega) ?_
  refine S_topi (y := nI 26) (by decide) ?_
  refine S_iaddN d_Fi_save_42 ?_
  refine S_topi (y := nI 32) (by decide) ?_
  refine ST.lift (fun _ _ k => T_istore (L' := [(5, .int (nI 32)), (3, .long z87), (6, .int (nI 4)), (0, .ref 78), (1, .ref f), (2, .ref b)]) d_Fi_save_43 (by decide) rfl k) ?_
  refine ST.lift (fun _ _ k => T_iload d_Fi_save_45 rfl k) ?_
  refine ST.lift (fun _ _ k => T_bipush (v := nI 8) d_Fi_save_47 (by decide) k) ?_
  refine S_icmp_ltN d_Fi_save_49 rfl (by omega) (by omega) (fun c => by first | exact absurd c (by omega) | exact c.elim | exact absurd c (by decide) | exact absurd (by assumption) c | exact absurd c (by assumption)) (fun _ => ?_)
  refine ST.lift (fun _ _ k => T_aload_n (v := .ref b) d_Fi_save_52 rfl (Or.inr ⟨_, rfl⟩) k) ?_
  refine ST.lift (fun _ _ k => T_lload_n d_Fi_save_53 rfl k) ?_
  refine ST.lift (fun _ _ k => T_l2i d_Fi_save_54 k) (S_anyi fun z88 => ?_)
  refine S_virtual (as := [.int z88]) (rest := []) (b := b) d_Fi_save_55 rfl (jw_By_putByte.jo (by decide)) lm_Fi_47 ji_By_putByte js_By_putByte (y_b.1 _) rfl rfl rfl (Nat.le_of_ble_eq_true rfl) (by decide) (by decide) (c_By_putByte G u80 b bd bc bj y_b z88 hv81) (fun r u89 hq => ?_)
  obtain ⟨hr, hv90, hm91⟩ := hq
  rw [hr]
  clear hr r
  have hm92 := hm83.go hm91 (by intro i hi; simp only [List.mem_cons, List.not_mem_nil, or_false] at hi ⊢ <;> omega)
  show ST G mi_Fi_save 58 [(5, .int (nI 32)), (3, .long z87), (6, .int (nI 4)), (0, .ref 78), (1, .ref f), (2, .ref b)] [] u89 0 0 _
  refine ST.lift (fun _ _ k => T_lload_n d_Fi_save_58 rfl k) ?_
  refine ST.lift (fun _ _ k => T_bipush (v := nI 8) d_Fi_save_59 (by decide) k) ?_
  refine ST.lift (fun _ _ k => T_lshr d_Fi_save_61 k) (S_anyl fun z93 => ?_)
  refine ST.lift (fun _ _ k => T_lstore_n (L' := [(3, .long z93), (5, .int (nI 32)), (6, .int (nI 4)), (0, .ref 78), (1, .ref f), (2, .ref b)]) d_Fi_save_62 (by decide) rfl k) ?_
  refine ST.lift (fun _ _ k => T_iinc (x := nI 32) (L' := [(5, .int (nI 24)), (3, .long z93), (6, .int (nI 4)), (0, .ref 78), (1, .ref f), (2, .ref b)]) d_Fi_save_63 (by decide) rfl (by rw [show nI 32 + Int32.ofInt (-8) = nI 24 by decide]; rfl) k) ?_
  refine ST.lift (fun _ _ k => T_goto (tgt := 45) d_Fi_save_66 rfl k) ?_
  refine ST.lift (fun _ _ k => T_iload d_Fi_save_45 rfl k) ?_
  refine ST.lift (fun _ _ k => T_bipush (v := nI 8) d_Fi_save_47 (by decide) k) ?_
  refine S_icmp_ltN d_Fi_save_49 rfl (by omega) (by omega) (fun c => by first | exact absurd c (by omega) | exact c.elim | exact absurd c (by decide) | exact absurd (by assumption) c | exact absurd c (by assumption)) (fun _ => ?_)
  refine ST.lift (fun _ _ k => T_aload_n (v := .ref b) d_Fi_save_52 rfl (Or.inr ⟨_, rfl⟩) k) ?_
  refine ST.lift (fun _ _ k => T_lload_n d_Fi_save_53 rfl k) ?_
  refine ST.lift (fun _ _ k => T_l2i d_Fi_save_54 k) (S_anyi fun z94 => ?_)
  refine S_virtual (as := [.int z94]) (rest := []) (b := b) d_Fi_save_55 rfl (jw_By_putByte.jo (by decide)) lm_Fi_47 ji_By_putByte js_By_putByte (y_b.1 _) rfl rfl rfl (Nat.le_of_ble_eq_true rfl) (by decide) (by decide) (c_By_putByte G u89 b bd bc bj y_b z94 hv90) (fun r u95 hq => ?_)
  obtain ⟨hr, hv96, hm97⟩ := hq
  rw [hr]
  clear hr r
  have hm98 := hm92.go hm97 (by intro i hi; simp only [List.mem_cons, List.not_mem_nil, or_false] at hi ⊢ <;> omega)
  show ST G mi_Fi_save 58 [(5, .int (nI 24)), (3, .long z93), (6, .int (nI 4)), (0, .ref 78), (1, .ref f), (2, .ref b)] [] u95 0 0 _
  refine ST.lift (fun _ _ k => T_lload_n d_Fi_save_58 rfl k) ?_
  refine ST.lift (fun _ _ k => T_bipush (v := nI 8) d_Fi_save_59 (by decide) k) ?_
  refine ST.lift (fun _ _ k => T_lshr d_Fi_save_61 k) (S_anyl fun z99 => ?_)
  refine ST.lift (fun _ _ k => T_lstore_n (L' := [(3, .long z99), (5, .int (nI 24)), (6, .int (nI 4)), (0, .ref 78), (1, .ref f), (2, .ref b)]) d_Fi_save_62 (by decide) rfl k) ?_
  refine ST.lift (fun _ _ k => T_iinc (x := nI 24) (L' := [(5, .int (nI 16)), (3, .long z99), (6, .int (nI 4)), (0, .ref 78), (1, .ref f), (2, .ref b)]) d_Fi_save_63 (by decide) rfl (by rw [show nI 24 + Int32.ofInt (-8) = nI 16 by decide]; rfl) k) ?_
  refine ST.lift (fun _ _ k => T_goto (tgt := 45) d_Fi_save_66 rfl k) ?_
  refine ST.lift (fun _ _ k => T_iload d_Fi_save_45 rfl k) ?_
  refine ST.lift (fun _ _ k => T_bipush (v := nI 8) d_Fi_save_47 (by decide) k) ?_
  refine S_icmp_ltN d_Fi_save_49 rfl (by omega) (by omega) (fun c => by first | exact absurd c (by omega) | exact c.elim | exact absurd c (by decide) | exact absurd (by assumption) c | exact absurd c (by assumption)) (fun _ => ?_)
  refine ST.lift (fun _ _ k => T_aload_n (v := .ref b) d_Fi_save_52 rfl (Or.inr ⟨_, rfl⟩) k) ?_
  refine ST.lift (fun _ _ k => T_lload_n d_Fi_save_53 rfl k) ?_
  refine ST.lift (fun _ _ k => T_l2i d_Fi_save_54 k) (S_anyi fun z100 => ?_)
  refine S_virtual (as := [.int z100]) (rest := []) (b := b) d_Fi_save_55 rfl (jw_By_putByte.jo (by decide)) lm_Fi_47 ji_By_putByte js_By_putByte (y_b.1 _) rfl rfl rfl (Nat.le_of_ble_eq_true rfl) (by decide) (by decide) (c_By_putByte G u95 b bd bc bj y_b z100 hv96) (fun r u101 hq => ?_)
  obtain ⟨hr, hv102, hm103⟩ := hq
  rw [hr]
  clear hr r
  have hm104 := hm98.go hm103 (by intro i hi; simp only [List.mem_cons, List.not_mem_nil, or_false] at hi ⊢ <;> omega)
  show ST G mi_Fi_save 58 [(5, .int (nI 16)), (3, .long z99), (6, .int (nI 4)), (0, .ref 78), (1, .ref f), (2, .ref b)] [] u101 0 0 _
  refine ST.lift (fun _ _ k => T_lload_n d_Fi_save_58 rfl k) ?_
  refine ST.lift (fun _ _ k => T_bipush (v := nI 8) d_Fi_save_59 (by decide) k) ?_
  refine ST.lift (fun _ _ k => T_lshr d_Fi_save_61 k) (S_anyl fun z105 => ?_)
  refine ST.lift (fun _ _ k => T_lstore_n (L' := [(3, .long z105), (5, .int (nI 16)), (6, .int (nI 4)), (0, .ref 78), (1, .ref f), (2, .ref b)]) d_Fi_save_62 (by decide) rfl k) ?_
  refine ST.lift (fun _ _ k => T_iinc (x := nI 16) (L' := [(5, .int (nI 8)), (3, .long z105), (6, .int (nI 4)), (0, .ref 78), (1, .ref f), (2, .ref b)]) d_Fi_save_63 (by decide) rfl (by rw [show nI 16 + Int32.ofInt (-8) = nI 8 by decide]; rfl) k) ?_
  refine ST.lift (fun _ _ k => T_goto (tgt := 45) d_Fi_save_66 rfl k) ?_
  refine ST.lift (fun _ _ k => T_iload d_Fi_save_45 rfl k) ?_
  refine ST.lift (fun _ _ k => T_bipush (v := nI 8) d_Fi_save_47 (by decide) k) ?_
  refine S_icmp_ltN d_Fi_save_49 rfl (by omega) (by omega) (fun c => by first | exact absurd c (by omega) | exact c.elim | exact absurd c (by decide) | exact absurd (by assumption) c | exact absurd c (by assumption)) (fun _ => ?_)
  refine ST.lift (fun _ _ k => T_aload_n (v := .ref b) d_Fi_save_52 rfl (Or.inr ⟨_, rfl⟩) k) ?_
  refine ST.lift (fun _ _ k => T_lload_n d_Fi_save_53 rfl k) ?_
  refine ST.lift (fun _ _ k => T_l2i d_Fi_save_54 k) (S_anyi fun z106 => ?_)
  refine S_virtual (as := [.int z106]) (rest := []) (b := b) d_Fi_save_55 rfl (jw_By_putByte.jo (by decide)) lm_Fi_47 ji_By_putByte js_By_putByte (y_b.1 _) rfl rfl rfl (Nat.le_of_ble_eq_true rfl) (by decide) (by decide) (c_By_putByte G u101 b bd bc bj y_b z106 hv102) (fun r u107 hq => ?_)
  obtain ⟨hr, hv108, hm109⟩ := hq
  rw [hr]
  clear hr r
  have hm110 := hm104.go hm109 (by intro i hi; simp only [List.mem_cons, List.not_mem_nil, or_false] at hi ⊢ <;> omega)
  show ST G mi_Fi_save 58 [(5, .int (nI 8)), (3, .long z105), (6, .int (nI 4)), (0, .ref 78), (1, .ref f), (2, .ref b)] [] u107 0 0 _
  refine ST.lift (fun _ _ k => T_lload_n d_Fi_save_58 rfl k) ?_
  refine ST.lift (fun _ _ k => T_bipush (v := nI 8) d_Fi_save_59 (by decide) k) ?_
  refine ST.lift (fun _ _ k => T_lshr d_Fi_save_61 k) (S_anyl fun z111 => ?_)
  refine ST.lift (fun _ _ k => T_lstore_n (L' := [(3, .long z111), (5, .int (nI 8)), (6, .int (nI 4)), (0, .ref 78), (1, .ref f), (2, .ref b)]) d_Fi_save_62 (by decide) rfl k) ?_
  refine ST.lift (fun _ _ k => T_iinc (x := nI 8) (L' := [(5, .int (nI 0)), (3, .long z111), (6, .int (nI 4)), (0, .ref 78), (1, .ref f), (2, .ref b)]) d_Fi_save_63 (by decide) rfl (by rw [show nI 8 + Int32.ofInt (-8) = nI 0 by decide]; rfl) k) ?_
  refine ST.lift (fun _ _ k => T_goto (tgt := 45) d_Fi_save_66 rfl k) ?_
  refine ST.lift (fun _ _ k => T_iload d_Fi_save_45 rfl k) ?_
  refine ST.lift (fun _ _ k => T_bipush (v := nI 8) d_Fi_save_47 (by decide) k) ?_
  refine S_icmp_ltN d_Fi_save_49 rfl (by omega) (by omega) (fun _ => ?_) (fun c => by first | exact absurd c (by omega) | exact c.elim | exact absurd c (by decide) | exact absurd (by assumption) c | exact absurd c (by assumption))
  refine S_iincN (a := 4) (b := 1) (L' := [(6, .int (nI 5)), (5, .int (nI 0)), (3, .long z111), (0, .ref 78), (1, .ref f), (2, .ref b)]) d_Fi_save_69 (by decide) rfl rfl rfl ?_
  refine ST.lift (fun _ _ k => T_goto (tgt := 13) d_Fi_save_72 rfl k) ?_
  refine ST.lift (fun _ _ k => T_iload d_Fi_save_13 rfl k) ?_
  refine ST.lift (fun _ _ k => T_bipush (v := nI 10) d_Fi_save_15 (by decide) k) ?_
  refine S_icmp_geN d_Fi_save_17 rfl (by omega) (by omega) (fun c => by first | exact absurd c (by omega) | exact c.elim | exact absurd c (by decide) | exact absurd (by assumption) c | exact absurd c (by assumption)) (fun _ => ?_)
  refine ST.lift (fun _ _ k => T_lload_n d_Fi_save_20 rfl k) ?_
  refine ST.lift (fun _ _ k => T_aload_n (v := .ref 78) d_Fi_save_21 rfl (Or.inr ⟨_, rfl⟩) k) ?_
  refine S_getfield d_Fi_save_22 fg_Fi_9 (w78 _) rfl ?_
  refine ST.lift (fun _ _ k => T_iload d_Fi_save_25 rfl k) ?_
  refine S_laload d_Fi_save_27 a79 (vp_in_nI (by omega) (by omega)) (fun z112 => ?_)
  refine ST.lift (fun _ _ k => T_iload d_Fi_save_28 rfl k) ?_
  refine ST.lift (fun _ _ k => T_lshl d_Fi_save_30 k) (S_anyl fun z113 => ?_)
  refine ST.lift (fun _ _ k => T_lor d_Fi_save_31 k) (S_anyl fun z114 => ?_)
  refine ST.lift (fun _ _ k => T_lstore_n (L' := [(3, .long z114), (6, .int (nI 5)), (5, .int (nI 0)), (0, .ref 78), (1, .ref f), (2, .ref b)]) d_Fi_save_32 (by decide) rfl k) ?_
  refine ST.lift (fun _ _ k => T_iload d_Fi_save_33 rfl k) ?_
  refine ST.lift (fun _ _ k => T_bipush (v := nI 26) d_Fi_save_35 (by decide) k) ?_
  refine ST.lift (fun _ _ k => T_iload d_Fi_save_37 rfl k) ?_
  refine ST.lift (fun _ _ k => T_iconst (v := nI 1) d_Fi_save_39 (by decide) k) ?_
  refine S_iandN 1 d_Fi_save_40 (by omega) (by decide) (by decide) ?_
  refine S_topi (y := nI 1) (by decide) ?_
  refine S_isubN d_Fi_save_41 (by omega) ?_
  refine S_topi (y := nI 25) (by decide) ?_
  refine S_iaddN d_Fi_save_42 ?_
  refine S_topi (y := nI 25) (by decide) ?_
  refine ST.lift (fun _ _ k => T_istore (L' := [(5, .int (nI 25)), (3, .long z114), (6, .int (nI 5)), (0, .ref 78), (1, .ref f), (2, .ref b)]) d_Fi_save_43 (by decide) rfl k) ?_
  refine ST.lift (fun _ _ k => T_iload d_Fi_save_45 rfl k) ?_
  refine ST.lift (fun _ _ k => T_bipush (v := nI 8) d_Fi_save_47 (by decide) k) ?_
  refine S_icmp_ltN d_Fi_save_49 rfl (by omega) (by omega) (fun c => by first | exact absurd c (by omega) | exact c.elim | exact absurd c (by decide) | exact absurd (by assumption) c | exact absurd c (by assumption)) (fun _ => ?_)
  refine ST.lift (fun _ _ k => T_aload_n (v := .ref b) d_Fi_save_52 rfl (Or.inr ⟨_, rfl⟩) k) ?_
  refine ST.lift (fun _ _ k => T_lload_n d_Fi_save_53 rfl k) ?_
  refine ST.lift (fun _ _ k => T_l2i d_Fi_save_54 k) (S_anyi fun z115 => ?_)
  refine S_virtual (as := [.int z115]) (rest := []) (b := b) d_Fi_save_55 rfl (jw_By_putByte.jo (by decide)) lm_Fi_47 ji_By_putByte js_By_putByte (y_b.1 _) rfl rfl rfl (Nat.le_of_ble_eq_true rfl) (by decide) (by decide) (c_By_putByte G u107 b bd bc bj y_b z115 hv108) (fun r u116 hq => ?_)
  obtain ⟨hr, hv117, hm118⟩ := hq
  rw [hr]
  clear hr r
  have hm119 := hm110.go hm118 (by intro i hi; simp only [List.mem_cons, List.not_mem_nil, or_false] at hi ⊢ <;> omega)
  show ST G mi_Fi_save 58 [(5, .int (nI 25)), (3, .long z114), (6, .int (nI 5)), (0, .ref 78), (1, .ref f), (2, .ref b)] [] u116 0 0 _
  refine ST.lift (fun _ _ k => T_lload_n d_Fi_save_58 rfl k) ?_
  refine ST.lift (fun _ _ k => T_bipush (v := nI 8) d_Fi_save_59 (by decide) k) ?_
  refine ST.lift (fun _ _ k => T_lshr d_Fi_save_61 k) (S_anyl fun z120 => ?_)
  refine ST.lift (fun _ _ k => T_lstore_n (L' := [(3, .long z120), (5, .int (nI 25)), (6, .int (nI 5)), (0, .ref 78), (1, .ref f), (2, .ref b)]) d_Fi_save_62 (by decide) rfl k) ?_
  refine ST.lift (fun _ _ k => T_iinc (x := nI 25) (L' := [(5, .int (nI 17)), (3, .long z120), (6, .int (nI 5)), (0, .ref 78), (1, .ref f), (2, .ref b)]) d_Fi_save_63 (by decide) rfl (by rw [show nI 25 + Int32.ofInt (-8) = nI 17 by decide]; rfl) k) ?_
  refine ST.lift (fun _ _ k => T_goto (tgt := 45) d_Fi_save_66 rfl k) ?_
  refine ST.lift (fun _ _ k => T_iload d_Fi_save_45 rfl k) ?_
  refine ST.lift (fun _ _ k => T_bipush (v := nI 8) d_Fi_save_47 (by decide) k) ?_
  refine S_icmp_ltN d_Fi_save_49 rfl (by omega) (by omega) (fun c => by first | exact absurd c (by omega) | exact c.elim | exact absurd c (by decide) | exact absurd (by assumption) c | exact absurd c (by assumption)) (fun _ => ?_)
  refine ST.lift (fun _ _ k => T_aload_n (v := .ref b) d_Fi_save_52 rfl (Or.inr ⟨_, rfl⟩) k) ?_
  refine ST.lift (fun _ _ k => T_lload_n d_Fi_save_53 rfl k) ?_
  refine ST.lift (fun _ _ k => T_l2i d_Fi_save_54 k) (S_anyi fun z121 => ?_)
  refine S_virtual (as := [.int z121]) (rest := []) (b := b) d_Fi_save_55 rfl (jw_By_putByte.jo (by decide)) lm_Fi_47 ji_By_putByte js_By_putByte (y_b.1 _) rfl rfl rfl (Nat.le_of_ble_eq_true rfl) (by decide) (by decide) (c_By_putByte G u116 b bd bc bj y_b z121 hv117) (fun r u122 hq => ?_)
  obtain ⟨hr, hv123, hm124⟩ := hq
  rw [hr]
  clear hr r
  have hm125 := hm119.go hm124 (by intro i hi; simp only [List.mem_cons, List.not_mem_nil, or_false] at hi ⊢ <;> omega)
  show ST G mi_Fi_save 58 [(5, .int (nI 17)), (3, .long z120), (6, .int (nI 5)), (0, .ref 78), (1, .ref f), (2, .ref b)] [] u122 0 0 _
  refine ST.lift (fun _ _ k => T_lload_n d_Fi_save_58 rfl k) ?_
  refine ST.lift (fun _ _ k => T_bipush (v := nI 8) d_Fi_save_59 (by decide) k) ?_
  refine ST.lift (fun _ _ k => T_lshr d_Fi_save_61 k) (S_anyl fun z126 => ?_)
  refine ST.lift (fun _ _ k => T_lstore_n (L' := [(3, .long z126), (5, .int (nI 17)), (6, .int (nI 5)), (0, .ref 78), (1, .ref f), (2, .ref b)]) d_Fi_save_62 (by decide) rfl k) ?_
  refine ST.lift (fun _ _ k => T_iinc (x := nI 17) (L' := [(5, .int (nI 9)), (3, .long z126), (6, .int (nI 5)), (0, .ref 78), (1, .ref f), (2, .ref b)]) d_Fi_save_63 (by decide) rfl (by rw [show nI 17 + Int32.ofInt (-8) = nI 9 by decide]; rfl) k) ?_
  refine ST.lift (fun _ _ k => T_goto (tgt := 45) d_Fi_save_66 rfl k) ?_
  refine ST.lift (fun _ _ k => T_iload d_Fi_save_45 rfl k) ?_
  refine ST.lift (fun _ _ k => T_bipush (v := nI 8) d_Fi_save_47 (by decide) k) ?_
  refine S_icmp_ltN d_Fi_save_49 rfl (by omega) (by omega) (fun c => by first | exact absurd c (by omega) | exact c.elim | exact absurd c (by decide) | exact absurd (by assumption) c | exact absurd c (by assumption)) (fun _ => ?_)
  refine ST.lift (fun _ _ k => T_aload_n (v := .ref b) d_Fi_save_52 rfl (Or.inr ⟨_, rfl⟩) k) ?_
  refine ST.lift (fun _ _ k => T_lload_n d_Fi_save_53 rfl k) ?_
  refine ST.lift (fun _ _ k => T_l2i d_Fi_save_54 k) (S_anyi fun z127 => ?_)
  refine S_virtual (as := [.int z127]) (rest := []) (b := b) d_Fi_save_55 rfl (jw_By_putByte.jo (by decide)) lm_Fi_47 ji_By_putByte js_By_putByte (y_b.1 _) rfl rfl rfl (Nat.le_of_ble_eq_true rfl) (by decide) (by decide) (c_By_putByte G u122 b bd bc bj y_b z127 hv123) (fun r u128 hq => ?_)
  obtain ⟨hr, hv129, hm130⟩ := hq
  rw [hr]
  clear hr r
  have hm131 := hm125.go hm130 (by intro i hi; simp only [List.mem_cons, List.not_mem_nil, or_false] at hi ⊢ <;> omega)
  show ST G mi_Fi_save 58 [(5, .int (nI 9)), (3, .long z126), (6, .int (nI 5)), (0, .ref 78), (1, .ref f), (2, .ref b)] [] u128 0 0 _
  refine ST.lift (fun _ _ k => T_lload_n d_Fi_save_58 rfl k) ?_
  refine ST.lift (fun _ _ k => T_bipush (v := nI 8) d_Fi_save_59 (by decide) k) ?_
  refine ST.lift (fun _ _ k => T_lshr d_Fi_save_61 k) (S_anyl fun z132 => ?_)
  refine ST.lift (fun _ _ k => T_lstore_n (L' := [(3, .long z132), (5, .int (nI 9)), (6, .int (nI 5)), (0, .ref 78), (1, .ref f), (2, .ref b)]) d_Fi_save_62 (by decide) rfl k) ?_
  refine ST.lift (fun _ _ k => T_iinc (x := nI 9) (L' := [(5, .int (nI 1)), (3, .long z132), (6, .int (nI 5)), (0, .ref 78), (1, .ref f), (2, .ref b)]) d_Fi_save_63 (by decide) rfl (by rw [show nI 9 + Int32.ofInt (-8) = nI 1 by decide]; rfl) k) ?_
  refine ST.lift (fun _ _ k => T_goto (tgt := 45) d_Fi_save_66 rfl k) ?_
  refine ST.lift (fun _ _ k => T_iload d_Fi_save_45 rfl k) ?_
  refine ST.lift (fun _ _ k => T_bipush (v := nI 8) d_Fi_save_47 (by decide) k) ?_
  refine S_icmp_ltN d_Fi_save_49 rfl (by omega) (by omega) (fun _ => ?_) (fun c => by first | exact absurd c (by omega) | exact c.elim | exact absurd c (by decide) | exact absurd (by assumption) c | exact absurd c (by assumption))
  refine S_iincN (a := 5) (b := 1) (L' := [(6, .int (nI 6)), (5, .int (nI 1)), (3, .long z132), (0, .ref 78), (1, .ref f), (2, .ref b)]) d_Fi_save_69 (by decide) rfl rfl rfl ?_
  refine ST.lift (fun _ _ k => T_goto (tgt := 13) d_Fi_save_72 rfl k) ?_
  refine ST.lift (fun _ _ k => T_iload d_Fi_save_13 rfl k) ?_
  refine ST.lift (fun _ _ k => T_bipush (v := nI 10) d_Fi_save_15 (by decide) k) ?_
  refine S_icmp_geN d_Fi_save_17 rfl (by omega) (by omega) (fun c => by first | exact absurd c (by omega) | exact c.elim | exact absurd c (by decide) | exact absurd (by assumption) c | exact absurd c (by assumption)) (fun _ => ?_)
  refine ST.lift (fun _ _ k => T_lload_n d_Fi_save_20 rfl k) ?_
  refine ST.lift (fun _ _ k => T_aload_n (v := .ref 78) d_Fi_save_21 rfl (Or.inr ⟨_, rfl⟩) k) ?_
  refine S_getfield d_Fi_save_22 fg_Fi_9 (w78 _) rfl ?_
  refine ST.lift (fun _ _ k => T_iload d_Fi_save_25 rfl k) ?_
  refine S_laload d_Fi_save_27 a79 (vp_in_nI (by omega) (by omega)) (fun z133 => ?_)
  refine ST.lift (fun _ _ k => T_iload d_Fi_save_28 rfl k) ?_
  refine ST.lift (fun _ _ k => T_lshl d_Fi_save_30 k) (S_anyl fun z134 => ?_)
  refine ST.lift (fun _ _ k => T_lor d_Fi_save_31 k) (S_anyl fun z135 => ?_)
  refine ST.lift (fun _ _ k => T_lstore_n (L' := [(3, .long z135), (6, .int (nI 6)), (5, .int (nI 1)), (0, .ref 78), (1, .ref f), (2, .ref b)]) d_Fi_save_32 (by decide) rfl k) ?_
  refine ST.lift (fun _ _ k => T_iload d_Fi_save_33 rfl k) ?_
  refine ST.lift (fun _ _ k => T_bipush (v := nI 26) d_Fi_save_35 (by decide) k) ?_
  refine ST.lift (fun _ _ k => T_iload d_Fi_save_37 rfl k) ?_
  refine ST.lift (fun _ _ k => T_iconst (v := nI 1) d_Fi_save_39 (by decide) k) ?_
  refine S_iandN 1 d_Fi_save_40 (by omega) (by decide) (by decide) ?_
  refine S_topi (y := nI 0) (by decide) ?_
  refine S_isubN d_Fi_save_41 (by omega) ?_
  refine S_topi (y := nI 26) (by decide) ?_
  refine S_iaddN d_Fi_save_42 ?_
  refine S_topi (y := nI 27) (by decide) ?_
  refine ST.lift (fun _ _ k => T_istore (L' := [(5, .int (nI 27)), (3, .long z135), (6, .int (nI 6)), (0, .ref 78), (1, .ref f), (2, .ref b)]) d_Fi_save_43 (by decide) rfl k) ?_
  refine ST.lift (fun _ _ k => T_iload d_Fi_save_45 rfl k) ?_
  refine ST.lift (fun _ _ k => T_bipush (v := nI 8) d_Fi_save_47 (by decide) k) ?_
  refine S_icmp_ltN d_Fi_save_49 rfl (by omega) (by omega) (fun c => by first | exact absurd c (by omega) | exact c.elim | exact absurd c (by decide) | exact absurd (by assumption) c | exact absurd c (by assumption)) (fun _ => ?_)
  refine ST.lift (fun _ _ k => T_aload_n (v := .ref b) d_Fi_save_52 rfl (Or.inr ⟨_, rfl⟩) k) ?_
  refine ST.lift (fun _ _ k => T_lload_n d_Fi_save_53 rfl k) ?_
  refine ST.lift (fun _ _ k => T_l2i d_Fi_save_54 k) (S_anyi fun z136 => ?_)
  refine S_virtual (as := [.int z136]) (rest := []) (b := b) d_Fi_save_55 rfl (jw_By_putByte.jo (by decide)) lm_Fi_47 ji_By_putByte js_By_putByte (y_b.1 _) rfl rfl rfl (Nat.le_of_ble_eq_true rfl) (by decide) (by decide) (c_By_putByte G u128 b bd bc bj y_b z136 hv129) (fun r u137 hq => ?_)
  obtain ⟨hr, hv138, hm139⟩ := hq
  rw [hr]
  clear hr r
  have hm140 := hm131.go hm139 (by intro i hi; simp only [List.mem_cons, List.not_mem_nil, or_false] at hi ⊢ <;> omega)
  show ST G mi_Fi_save 58 [(5, .int (nI 27)), (3, .long z135), (6, .int (nI 6)), (0, .ref 78), (1, .ref f), (2, .ref b)] [] u137 0 0 _
  refine ST.lift (fun _ _ k => T_lload_n d_Fi_save_58 rfl k) ?_
  refine ST.lift (fun _ _ k => T_bipush (v := nI 8) d_Fi_save_59 (by decide) k) ?_
  refine ST.lift (fun _ _ k => T_lshr d_Fi_save_61 k) (S_anyl fun z141 => ?_)
  refine ST.lift (fun _ _ k => T_lstore_n (L' := [(3, .long z141), (5, .int (nI 27)), (6, .int (nI 6)), (0, .ref 78), (1, .ref f), (2, .ref b)]) d_Fi_save_62 (by decide) rfl k) ?_
  refine ST.lift (fun _ _ k => T_iinc (x := nI 27) (L' := [(5, .int (nI 19)), (3, .long z141), (6, .int (nI 6)), (0, .ref 78), (1, .ref f), (2, .ref b)]) d_Fi_save_63 (by decide) rfl (by rw [show nI 27 + Int32.ofInt (-8) = nI 19 by decide]; rfl) k) ?_
  refine ST.lift (fun _ _ k => T_goto (tgt := 45) d_Fi_save_66 rfl k) ?_
  refine ST.lift (fun _ _ k => T_iload d_Fi_save_45 rfl k) ?_
  refine ST.lift (fun _ _ k => T_bipush (v := nI 8) d_Fi_save_47 (by decide) k) ?_
  refine S_icmp_ltN d_Fi_save_49 rfl (by omega) (by omega) (fun c => by first | exact absurd c (by omega) | exact c.elim | exact absurd c (by decide) | exact absurd (by assumption) c | exact absurd c (by assumption)) (fun _ => ?_)
  refine ST.lift (fun _ _ k => T_aload_n (v := .ref b) d_Fi_save_52 rfl (Or.inr ⟨_, rfl⟩) k) ?_
  refine ST.lift (fun _ _ k => T_lload_n d_Fi_save_53 rfl k) ?_
  refine ST.lift (fun _ _ k => T_l2i d_Fi_save_54 k) (S_anyi fun z142 => ?_)
  refine S_virtual (as := [.int z142]) (rest := []) (b := b) d_Fi_save_55 rfl (jw_By_putByte.jo (by decide)) lm_Fi_47 ji_By_putByte js_By_putByte (y_b.1 _) rfl rfl rfl (Nat.le_of_ble_eq_true rfl) (by decide) (by decide) (c_By_putByte G u137 b bd bc bj y_b z142 hv138) (fun r u143 hq => ?_)
  obtain ⟨hr, hv144, hm145⟩ := hq
  rw [hr]
  clear hr r
  have hm146 := hm140.go hm145 (by intro i hi; simp only [List.mem_cons, List.not_mem_nil, or_false] at hi ⊢ <;> omega)
  show ST G mi_Fi_save 58 [(5, .int (nI 19)), (3, .long z141), (6, .int (nI 6)), (0, .ref 78), (1, .ref f), (2, .ref b)] [] u143 0 0 _
  refine ST.lift (fun _ _ k => T_lload_n d_Fi_save_58 rfl k) ?_
  refine ST.lift (fun _ _ k => T_bipush (v := nI 8) d_Fi_save_59 (by decide) k) ?_
  refine ST.lift (fun _ _ k => T_lshr d_Fi_save_61 k) (S_anyl fun z147 => ?_)
  refine ST.lift (fun _ _ k => T_lstore_n (L' := [(3, .long z147), (5, .int (nI 19)), (6, .int (nI 6)), (0, .ref 78), (1, .ref f), (2, .ref b)]) d_Fi_save_62 (by decide) rfl k) ?_
  refine ST.lift (fun _ _ k => T_iinc (x := nI 19) (L' := [(5, .int (nI 11)), (3, .long z147), (6, .int (nI 6)), (0, .ref 78), (1, .ref f), (2, .ref b)]) d_Fi_save_63 (by decide) rfl (by rw [show nI 19 + Int32.ofInt (-8) = nI 11 by decide]; rfl) k) ?_
  refine ST.lift (fun _ _ k => T_goto (tgt := 45) d_Fi_save_66 rfl k) ?_
  refine ST.lift (fun _ _ k => T_iload d_Fi_save_45 rfl k) ?_
  refine ST.lift (fun _ _ k => T_bipush (v := nI 8) d_Fi_save_47 (by decide) k) ?_
  refine S_icmp_ltN d_Fi_save_49 rfl (by omega) (by omega) (fun c => by first | exact absurd c (by omega) | exact c.elim | exact absurd c (by decide) | exact absurd (by assumption) c | exact absurd c (by assumption)) (fun _ => ?_)
  refine ST.lift (fun _ _ k => T_aload_n (v := .ref b) d_Fi_save_52 rfl (Or.inr ⟨_, rfl⟩) k) ?_
  refine ST.lift (fun _ _ k => T_lload_n d_Fi_save_53 rfl k) ?_
  refine ST.lift (fun _ _ k => T_l2i d_Fi_save_54 k) (S_anyi fun z148 => ?_)
  refine S_virtual (as := [.int z148]) (rest := []) (b := b) d_Fi_save_55 rfl (jw_By_putByte.jo (by decide)) lm_Fi_47 ji_By_putByte js_By_putByte (y_b.1 _) rfl rfl rfl (Nat.le_of_ble_eq_true rfl) (by decide) (by decide) (c_By_putByte G u143 b bd bc bj y_b z148 hv144) (fun r u149 hq => ?_)
  obtain ⟨hr, hv150, hm151⟩ := hq
  rw [hr]
  clear hr r
  have hm152 := hm146.go hm151 (by intro i hi; simp only [List.mem_cons, List.not_mem_nil, or_false] at hi ⊢ <;> omega)
  show ST G mi_Fi_save 58 [(5, .int (nI 11)), (3, .long z147), (6, .int (nI 6)), (0, .ref 78), (1, .ref f), (2, .ref b)] [] u149 0 0 _
  refine ST.lift (fun _ _ k => T_lload_n d_Fi_save_58 rfl k) ?_
  refine ST.lift (fun _ _ k => T_bipush (v := nI 8) d_Fi_save_59 (by decide) k) ?_
  refine ST.lift (fun _ _ k => T_lshr d_Fi_save_61 k) (S_anyl fun z153 => ?_)
  refine ST.lift (fun _ _ k => T_lstore_n (L' := [(3, .long z153), (5, .int (nI 11)), (6, .int (nI 6)), (0, .ref 78), (1, .ref f), (2, .ref b)]) d_Fi_save_62 (by decide) rfl k) ?_
  refine ST.lift (fun _ _ k => T_iinc (x := nI 11) (L' := [(5, .int (nI 3)), (3, .long z153), (6, .int (nI 6)), (0, .ref 78), (1, .ref f), (2, .ref b)]) d_Fi_save_63 (by decide) rfl (by rw [show nI 11 + Int32.ofInt (-8) = nI 3 by decide]; rfl) k) ?_
  refine ST.lift (fun _ _ k => T_goto (tgt := 45) d_Fi_save_66 rfl k) ?_
  refine ST.lift (fun _ _ k => T_iload d_Fi_save_45 rfl k) ?_
  refine ST.lift (fun _ _ k => T_bipush (v := nI 8) d_Fi_save_47 (by decide) k) ?_
  refine S_icmp_ltN d_Fi_save_49 rfl (by omega) (by omega) (fun _ => ?_) (fun c => by first | exact absurd c (by omega) | exact c.elim | exact absurd c (by decide) | exact absurd (by assumption) c | exact absurd c (by assumption))
  refine S_iincN (a := 6) (b := 1) (L' := [(6, .int (nI 7)), (5, .int (nI 3)), (3, .long z153), (0, .ref 78), (1, .ref f), (2, .ref b)]) d_Fi_save_69 (by decide) rfl rfl rfl ?_
  refine ST.lift (fun _ _ k => T_goto (tgt := 13) d_Fi_save_72 rfl k) ?_
  refine ST.lift (fun _ _ k => T_iload d_Fi_save_13 rfl k) ?_
  refine ST.lift (fun _ _ k => T_bipush (v := nI 10) d_Fi_save_15 (by decide) k) ?_
  refine S_icmp_geN d_Fi_save_17 rfl (by omega) (by omega) (fun c => by first | exact absurd c (by omega) | exact c.elim | exact absurd c (by decide) | exact absurd (by assumption) c | exact absurd c (by assumption)) (fun _ => ?_)
  refine ST.lift (fun _ _ k => T_lload_n d_Fi_save_20 rfl k) ?_
  refine ST.lift (fun _ _ k => T_aload_n (v := .ref 78) d_Fi_save_21 rfl (Or.inr ⟨_, rfl⟩) k) ?_
  refine S_getfield d_Fi_save_22 fg_Fi_9 (w78 _) rfl ?_
  refine ST.lift (fun _ _ k => T_iload d_Fi_save_25 rfl k) ?_
  refine S_laload d_Fi_save_27 a79 (vp_in_nI (by omega) (by omega)) (fun z154 => ?_)
  refine ST.lift (fun _ _ k => T_iload d_Fi_save_28 rfl k) ?_
  refine ST.lift (fun _ _ k => T_lshl d_Fi_save_30 k) (S_anyl fun z155 => ?_)
  refine ST.lift (fun _ _ k => T_lor d_Fi_save_31 k) (S_anyl fun z156 => ?_)
  refine ST.lift (fun _ _ k => T_lstore_n (L' := [(3, .long z156), (6, .int (nI 7)), (5, .int (nI 3)), (0, .ref 78), (1, .ref f), (2, .ref b)]) d_Fi_save_32 (by decide) rfl k) ?_
  refine ST.lift (fun _ _ k => T_iload d_Fi_save_33 rfl k) ?_
  refine ST.lift (fun _ _ k => T_bipush (v := nI 26) d_Fi_save_35 (by decide) k) ?_
  refine ST.lift (fun _ _ k => T_iload d_Fi_save_37 rfl k) ?_
  refine ST.lift (fun _ _ k => T_iconst (v := nI 1) d_Fi_save_39 (by decide) k) ?_
  refine S_iandN 1 d_Fi_save_40 (by omega) (by decide) (by decide) ?_
  refine S_topi (y := nI 1) (by decide) ?_
  refine S_isubN d_Fi_save_41 (by omega) ?_
  refine S_topi (y := nI 25) (by decide) ?_
  refine S_iaddN d_Fi_save_42 ?_
  refine S_topi (y := nI 28) (by decide) ?_
  refine ST.lift (fun _ _ k => T_istore (L' := [(5, .int (nI 28)), (3, .long z156), (6, .int (nI 7)), (0, .ref 78), (1, .ref f), (2, .ref b)]) d_Fi_save_43 (by decide) rfl k) ?_
  refine ST.lift (fun _ _ k => T_iload d_Fi_save_45 rfl k) ?_
  refine ST.lift (fun _ _ k => T_bipush (v := nI 8) d_Fi_save_47 (by decide) k) ?_
  refine S_icmp_ltN d_Fi_save_49 rfl (by omega) (by omega) (fun c => by first | exact absurd c (by omega) | exact c.elim | exact absurd c (by decide) | exact absurd (by assumption) c | exact absurd c (by assumption)) (fun _ => ?_)
  refine ST.lift (fun _ _ k => T_aload_n (v := .ref b) d_Fi_save_52 rfl (Or.inr ⟨_, rfl⟩) k) ?_
  refine ST.lift (fun _ _ k => T_lload_n d_Fi_save_53 rfl k) ?_
  refine ST.lift (fun _ _ k => T_l2i d_Fi_save_54 k) (S_anyi fun z157 => ?_)
  refine S_virtual (as := [.int z157]) (rest := []) (b := b) d_Fi_save_55 rfl (jw_By_putByte.jo (by decide)) lm_Fi_47 ji_By_putByte js_By_putByte (y_b.1 _) rfl rfl rfl (Nat.le_of_ble_eq_true rfl) (by decide) (by decide) (c_By_putByte G u149 b bd bc bj y_b z157 hv150) (fun r u158 hq => ?_)
  obtain ⟨hr, hv159, hm160⟩ := hq
  rw [hr]
  clear hr r
  have hm161 := hm152.go hm160 (by intro i hi; simp only [List.mem_cons, List.not_mem_nil, or_false] at hi ⊢ <;> omega)
  show ST G mi_Fi_save 58 [(5, .int (nI 28)), (3, .long z156), (6, .int (nI 7)), (0, .ref 78), (1, .ref f), (2, .ref b)] [] u158 0 0 _
  refine ST.lift (fun _ _ k => T_lload_n d_Fi_save_58 rfl k) ?_
  refine ST.lift (fun _ _ k => T_bipush (v := nI 8) d_Fi_save_59 (by decide) k) ?_
  refine ST.lift (fun _ _ k => T_lshr d_Fi_save_61 k) (S_anyl fun z162 => ?_)
  refine ST.lift (fun _ _ k => T_lstore_n (L' := [(3, .long z162), (5, .int (nI 28)), (6, .int (nI 7)), (0, .ref 78), (1, .ref f), (2, .ref b)]) d_Fi_save_62 (by decide) rfl k) ?_
  refine ST.lift (fun _ _ k => T_iinc (x := nI 28) (L' := [(5, .int (nI 20)), (3, .long z162), (6, .int (nI 7)), (0, .ref 78), (1, .ref f), (2, .ref b)]) d_Fi_save_63 (by decide) rfl (by rw [show nI 28 + Int32.ofInt (-8) = nI 20 by decide]; rfl) k) ?_
  refine ST.lift (fun _ _ k => T_goto (tgt := 45) d_Fi_save_66 rfl k) ?_
  refine ST.lift (fun _ _ k => T_iload d_Fi_save_45 rfl k) ?_
  refine ST.lift (fun _ _ k => T_bipush (v := nI 8) d_Fi_save_47 (by decide) k) ?_
  refine S_icmp_ltN d_Fi_save_49 rfl (by omega) (by omega) (fun c => by first | exact absurd c (by omega) | exact c.elim | exact absurd c (by decide) | exact absurd (by assumption) c | exact absurd c (by assumption)) (fun _ => ?_)
  refine ST.lift (fun _ _ k => T_aload_n (v := .ref b) d_Fi_save_52 rfl (Or.inr ⟨_, rfl⟩) k) ?_
  refine ST.lift (fun _ _ k => T_lload_n d_Fi_save_53 rfl k) ?_
  refine ST.lift (fun _ _ k => T_l2i d_Fi_save_54 k) (S_anyi fun z163 => ?_)
  refine S_virtual (as := [.int z163]) (rest := []) (b := b) d_Fi_save_55 rfl (jw_By_putByte.jo (by decide)) lm_Fi_47 ji_By_putByte js_By_putByte (y_b.1 _) rfl rfl rfl (Nat.le_of_ble_eq_true rfl) (by decide) (by decide) (c_By_putByte G u158 b bd bc bj y_b z163 hv159) (fun r u164 hq => ?_)
  obtain ⟨hr, hv165, hm166⟩ := hq
  rw [hr]
  clear hr r
  have hm167 := hm161.go hm166 (by intro i hi; simp only [List.mem_cons, List.not_mem_nil, or_false] at hi ⊢ <;> omega)
  show ST G mi_Fi_save 58 [(5, .int (nI 20)), (3, .long z162), (6, .int (nI 7)), (0, .ref 78), (1, .ref f), (2, .ref b)] [] u164 0 0 _
  refine ST.lift (fun _ _ k => T_lload_n d_Fi_save_58 rfl k) ?_
  refine ST.lift (fun _ _ k => T_bipush (v := nI 8) d_Fi_save_59 (by decide) k) ?_
  refine ST.lift (fun _ _ k => T_lshr d_Fi_save_61 k) (S_anyl fun z168 => ?_)
  refine ST.lift (fun _ _ k => T_lstore_n (L' := [(3, .long z168), (5, .int (nI 20)), (6, .int (nI 7)), (0, .ref 78), (1, .ref f), (2, .ref b)]) d_Fi_save_62 (by decide) rfl k) ?_
  refine ST.lift (fun _ _ k => T_iinc (x := nI 20) (L' := [(5, .int (nI 12)), (3, .long z168), (6, .int (nI 7)), (0, .ref 78), (1, .ref f), (2, .ref b)]) d_Fi_save_63 (by decide) rfl (by rw [show nI 20 + Int32.ofInt (-8) = nI 12 by decide]; rfl) k) ?_
  refine ST.lift (fun _ _ k => T_goto (tgt := 45) d_Fi_save_66 rfl k) ?_
  refine ST.lift (fun _ _ k => T_iload d_Fi_save_45 rfl k) ?_
  refine ST.lift (fun _ _ k => T_bipush (v := nI 8) d_Fi_save_47 (by decide) k) ?_
  refine S_icmp_ltN d_Fi_save_49 rfl (by omega) (by omega) (fun c => by first | exact absurd c (by omega) | exact c.elim | exact absurd c (by decide) | exact absurd (by assumption) c | exact absurd c (by assumption)) (fun _ => ?_)
  refine ST.lift (fun _ _ k => T_aload_n (v := .ref b) d_Fi_save_52 rfl (Or.inr ⟨_, rfl⟩) k) ?_
  refine ST.lift (fun _ _ k => T_lload_n d_Fi_save_53 rfl k) ?_
  refine ST.lift (fun _ _ k => T_l2i d_Fi_save_54 k) (S_anyi fun z169 => ?_)
  refine S_virtual (as := [.int z169]) (rest := []) (b := b) d_Fi_save_55 rfl (jw_By_putByte.jo (by decide)) lm_Fi_47 ji_By_putByte js_By_putByte (y_b.1 _) rfl rfl rfl (Nat.le_of_ble_eq_true rfl) (by decide) (by decide) (c_By_putByte G u164 b bd bc bj y_b z169 hv165) (fun r u170 hq => ?_)
  obtain ⟨hr, hv171, hm172⟩ := hq
  rw [hr]
  clear hr r
  have hm173 := hm167.go hm172 (by intro i hi; simp only [List.mem_cons, List.not_mem_nil, or_false] at hi ⊢ <;> omega)
  show ST G mi_Fi_save 58 [(5, .int (nI 12)), (3, .long z168), (6, .int (nI 7)), (0, .ref 78), (1, .ref f), (2, .ref b)] [] u170 0 0 _
  refine ST.lift (fun _ _ k => T_lload_n d_Fi_save_58 rfl k) ?_
  refine ST.lift (fun _ _ k => T_bipush (v := nI 8) d_Fi_save_59 (by decide) k) ?_
  refine ST.lift (fun _ _ k => T_lshr d_Fi_save_61 k) (S_anyl fun z174 => ?_)
  refine ST.lift (fun _ _ k => T_lstore_n (L' := [(3, .long z174), (5, .int (nI 12)), (6, .int (nI 7)), (0, .ref 78), (1, .ref f), (2, .ref b)]) d_Fi_save_62 (by decide) rfl k) ?_
  refine ST.lift (fun _ _ k => T_iinc (x := nI 12) (L' := [(5, .int (nI 4)), (3, .long z174), (6, .int (nI 7)), (0, .ref 78), (1, .ref f), (2, .ref b)]) d_Fi_save_63 (by decide) rfl (by rw [show nI 12 + Int32.ofInt (-8) = nI 4 by decide]; rfl) k) ?_
  refine ST.lift (fun _ _ k => T_goto (tgt := 45) d_Fi_save_66 rfl k) ?_
  refine ST.lift (fun _ _ k => T_iload d_Fi_save_45 rfl k) ?_
  refine ST.lift (fun _ _ k => T_bipush (v := nI 8) d_Fi_save_47 (by decide) k) ?_
  refine S_icmp_ltN d_Fi_save_49 rfl (by omega) (by omega) (fun _ => ?_) (fun c => by first | exact absurd c (by omega) | exact c.elim | exact absurd c (by decide) | exact absurd (by assumption) c | exact absurd c (by assumption))
  refine S_iincN (a := 7) (b := 1) (L' := [(6, .int (nI 8)), (5, .int (nI 4)), (3, .long z174), (0, .ref 78), (1, .ref f), (2, .ref b)]) d_Fi_save_69 (by decide) rfl rfl rfl ?_
  refine ST.lift (fun _ _ k => T_goto (tgt := 13) d_Fi_save_72 rfl k) ?_
  refine ST.lift (fun _ _ k => T_iload d_Fi_save_13 rfl k) ?_
  refine ST.lift (fun _ _ k => T_bipush (v := nI 10) d_Fi_save_15 (by decide) k) ?_
  refine S_icmp_geN d_Fi_save_17 rfl (by omega) (by omega) (fun c => by first | exact absurd c (by omega) | exact c.elim | exact absurd c (by decide) | exact absurd (by assumption) c | exact absurd c (by assumption)) (fun _ => ?_)
  refine ST.lift (fun _ _ k => T_lload_n d_Fi_save_20 rfl k) ?_
  refine ST.lift (fun _ _ k => T_aload_n (v := .ref 78) d_Fi_save_21 rfl (Or.inr ⟨_, rfl⟩) k) ?_
  refine S_getfield d_Fi_save_22 fg_Fi_9 (w78 _) rfl ?_
  refine ST.lift (fun _ _ k => T_iload d_Fi_save_25 rfl k) ?_
  refine S_laload d_Fi_save_27 a79 (vp_in_nI (by omega) (by omega)) (fun z175 => ?_)
  refine ST.lift (fun _ _ k => T_iload d_Fi_save_28 rfl k) ?_
  refine ST.lift (fun _ _ k => T_lshl d_Fi_save_30 k) (S_anyl fun z176 => ?_)
  refine ST.lift (fun _ _ k => T_lor d_Fi_save_31 k) (S_anyl fun z177 => ?_)
  refine ST.lift (fun _ _ k => T_lstore_n (L' := [(3, .long z177), (6, .int (nI 8)), (5, .int (nI 4)), (0, .ref 78), (1, .ref f), (2, .ref b)]) d_Fi_save_32 (by decide) rfl k) ?_
  refine ST.lift (fun _ _ k => T_iload d_Fi_save_33 rfl k) ?_
  refine ST.lift (fun _ _ k => T_bipush (v := nI 26) d_Fi_save_35 (by decide) k) ?_
  refine ST.lift (fun _ _ k => T_iload d_Fi_save_37 rfl k) ?_
  refine ST.lift (fun _ _ k => T_iconst (v := nI 1) d_Fi_save_39 (by decide) k) ?_
  refine S_iandN 1 d_Fi_save_40 (by omega) (by decide) (by decide) ?_
  refine S_topi (y := nI 0) (by decide) ?_
  refine S_isubN d_Fi_save_41 (by omega) ?_
  refine S_topi (y := nI 26) (by decide) ?_
  refine S_iaddN d_Fi_save_42 ?_
  refine S_topi (y := nI 30) (by decide) ?_
  refine ST.lift (fun _ _ k => T_istore (L' := [(5, .int (nI 30)), (3, .long z177), (6, .int (nI 8)), (0, .ref 78), (1, .ref f), (2, .ref b)]) d_Fi_save_43 (by decide) rfl k) ?_
  refine ST.lift (fun _ _ k => T_iload d_Fi_save_45 rfl k) ?_
  refine ST.lift (fun _ _ k => T_bipush (v := nI 8) d_Fi_save_47 (by decide) k) ?_
  refine S_icmp_ltN d_Fi_save_49 rfl (by omega) (by omega) (fun c => by first | exact absurd c (by omega) | exact c.elim | exact absurd c (by decide) | exact absurd (by assumption) c | exact absurd c (by assumption)) (fun _ => ?_)
  refine ST.lift (fun _ _ k => T_aload_n (v := .ref b) d_Fi_save_52 rfl (Or.inr ⟨_, rfl⟩) k) ?_
  refine ST.lift (fun _ _ k => T_lload_n d_Fi_save_53 rfl k) ?_
  refine ST.lift (fun _ _ k => T_l2i d_Fi_save_54 k) (S_anyi fun z178 => ?_)
  refine S_virtual (as := [.int z178]) (rest := []) (b := b) d_Fi_save_55 rfl (jw_By_putByte.jo (by decide)) lm_Fi_47 ji_By_putByte js_By_putByte (y_b.1 _) rfl rfl rfl (Nat.le_of_ble_eq_true rfl) (by decide) (by decide) (c_By_putByte G u170 b bd bc bj y_b z178 hv171) (fun r u179 hq => ?_)
  obtain ⟨hr, hv180, hm181⟩ := hq
  rw [hr]
  clear hr r
  have hm182 := hm173.go hm181 (by intro i hi; simp only [List.mem_cons, List.not_mem_nil, or_false] at hi ⊢ <;> omega)
  show ST G mi_Fi_save 58 [(5, .int (nI 30)), (3, .long z177), (6, .int (nI 8)), (0, .ref 78), (1, .ref f), (2, .ref b)] [] u179 0 0 _
  refine ST.lift (fun _ _ k => T_lload_n d_Fi_save_58 rfl k) ?_
  refine ST.lift (fun _ _ k => T_bipush (v := nI 8) d_Fi_save_59 (by decide) k) ?_
  refine ST.lift (fun _ _ k => T_lshr d_Fi_save_61 k) (S_anyl fun z183 => ?_)
  refine ST.lift (fun _ _ k => T_lstore_n (L' := [(3, .long z183), (5, .int (nI 30)), (6, .int (nI 8)), (0, .ref 78), (1, .ref f), (2, .ref b)]) d_Fi_save_62 (by decide) rfl k) ?_
  refine ST.lift (fun _ _ k => T_iinc (x := nI 30) (L' := [(5, .int (nI 22)), (3, .long z183), (6, .int (nI 8)), (0, .ref 78), (1, .ref f), (2, .ref b)]) d_Fi_save_63 (by decide) rfl (by rw [show nI 30 + Int32.ofInt (-8) = nI 22 by decide]; rfl) k) ?_
  refine ST.lift (fun _ _ k => T_goto (tgt := 45) d_Fi_save_66 rfl k) ?_
  refine ST.lift (fun _ _ k => T_iload d_Fi_save_45 rfl k) ?_
  refine ST.lift (fun _ _ k => T_bipush (v := nI 8) d_Fi_save_47 (by decide) k) ?_
  refine S_icmp_ltN d_Fi_save_49 rfl (by omega) (by omega) (fun c => by first | exact absurd c (by omega) | exact c.elim | exact absurd c (by decide) | exact absurd (by assumption) c | exact absurd c (by assumption)) (fun _ => ?_)
  refine ST.lift (fun _ _ k => T_aload_n (v := .ref b) d_Fi_save_52 rfl (Or.inr ⟨_, rfl⟩) k) ?_
  refine ST.lift (fun _ _ k => T_lload_n d_Fi_save_53 rfl k) ?_
  refine ST.lift (fun _ _ k => T_l2i d_Fi_save_54 k) (S_anyi fun z184 => ?_)
  refine S_virtual (as := [.int z184]) (rest := []) (b := b) d_Fi_save_55 rfl (jw_By_putByte.jo (by decide)) lm_Fi_47 ji_By_putByte js_By_putByte (y_b.1 _) rfl rfl rfl (Nat.le_of_ble_eq_true rfl) (by decide) (by decide) (c_By_putByte G u179 b bd bc bj y_b z184 hv180) (fun r u185 hq => ?_)
  obtain ⟨hr, hv186, hm187⟩ := hq
  rw [hr]
  clear hr r
  have hm188 := hm182.go hm187 (by intro i hi; simp only [List.mem_cons, List.not_mem_nil, or_false] at hi ⊢ <;> omega)
  show ST G mi_Fi_save 58 [(5, .int (nI 22)), (3, .long z183), (6, .int (nI 8)), (0, .ref 78), (1, .ref f), (2, .ref b)] [] u185 0 0 _
  refine ST.lift (fun _ _ k => T_lload_n d_Fi_save_58 rfl k) ?_
  refine ST.lift (fun _ _ k => T_bipush (v := nI 8) d_Fi_save_59 (by decide) k) ?_
  refine ST.lift (fun _ _ k => T_lshr d_Fi_save_61 k) (S_anyl fun z189 => ?_)
  refine ST.lift (fun _ _ k => T_lstore_n (L' := [(3, .long z189), (5, .int (nI 22)), (6, .int (nI 8)), (0, .ref 78), (1, .ref f), (2, .ref b)]) d_Fi_save_62 (by decide) rfl k) ?_
  refine ST.lift (fun _ _ k => T_iinc (x := nI 22) (L' := [(5, .int (nI 14)), (3, .long z189), (6, .int (nI 8)), (0, .ref 78), (1, .ref f), (2, .ref b)]) d_Fi_save_63 (by decide) rfl (by rw [show nI 22 + Int32.ofInt (-8) = nI 14 by decide]; rfl) k) ?_
  refine ST.lift (fun _ _ k => T_goto (tgt := 45) d_Fi_save_66 rfl k) ?_
  refine ST.lift (fun _ _ k => T_iload d_Fi_save_45 rfl k) ?_
  refine ST.lift (fun _ _ k => T_bipush (v := nI 8) d_Fi_save_47 (by decide) k) ?_
  refine S_icmp_ltN d_Fi_save_49 rfl (by omega) (by omega) (fun c => by first | exact absurd c (by omega) | exact c.elim | exact absurd c (by decide) | exact absurd (by assumption) c | exact absurd c (by assumption)) (fun _ => ?_)
  refine ST.lift (fun _ _ k => T_aload_n (v := .ref b) d_Fi_save_52 rfl (Or.inr ⟨_, rfl⟩) k) ?_
  refine ST.lift (fun _ _ k => T_lload_n d_Fi_save_53 rfl k) ?_
  refine ST.lift (fun _ _ k => T_l2i d_Fi_save_54 k) (S_anyi fun z190 => ?_)
  refine S_virtual (as := [.int z190]) (rest := []) (b := b) d_Fi_save_55 rfl (jw_By_putByte.jo (by decide)) lm_Fi_47 ji_By_putByte js_By_putByte (y_b.1 _) rfl rfl rfl (Nat.le_of_ble_eq_true rfl) (by decide) (by decide) (c_By_putByte G u185 b bd bc bj y_b z190 hv186) (fun r u191 hq => ?_)
  obtain ⟨hr, hv192, hm193⟩ := hq
  rw [hr]
  clear hr r
  have hm194 := hm188.go hm193 (by intro i hi; simp only [List.mem_cons, List.not_mem_nil, or_false] at hi ⊢ <;> omega)
  show ST G mi_Fi_save 58 [(5, .int (nI 14)), (3, .long z189), (6, .int (nI 8)), (0, .ref 78), (1, .ref f), (2, .ref b)] [] u191 0 0 _
  refine ST.lift (fun _ _ k => T_lload_n d_Fi_save_58 rfl k) ?_
  refine ST.lift (fun _ _ k => T_bipush (v := nI 8) d_Fi_save_59 (by decide) k) ?_
  refine ST.lift (fun _ _ k => T_lshr d_Fi_save_61 k) (S_anyl fun z195 => ?_)
  refine ST.lift (fun _ _ k => T_lstore_n (L' := [(3, .long z195), (5, .int (nI 14)), (6, .int (nI 8)), (0, .ref 78), (1, .ref f), (2, .ref b)]) d_Fi_save_62 (by decide) rfl k) ?_
  refine ST.lift (fun _ _ k => T_iinc (x := nI 14) (L' := [(5, .int (nI 6)), (3, .long z195), (6, .int (nI 8)), (0, .ref 78), (1, .ref f), (2, .ref b)]) d_Fi_save_63 (by decide) rfl (by rw [show nI 14 + Int32.ofInt (-8) = nI 6 by decide]; rfl) k) ?_
  refine ST.lift (fun _ _ k => T_goto (tgt := 45) d_Fi_save_66 rfl k) ?_
  refine ST.lift (fun _ _ k => T_iload d_Fi_save_45 rfl k) ?_
  refine ST.lift (fun _ _ k => T_bipush (v := nI 8) d_Fi_save_47 (by decide) k) ?_
  refine S_icmp_ltN d_Fi_save_49 rfl (by omega) (by omega) (fun _ => ?_) (fun c => by first | exact absurd c (by omega) | exact c.elim | exact absurd c (by decide) | exact absurd (by assumption) c | exact absurd c (by assumption))
  refine S_iincN (a := 8) (b := 1) (L' := [(6, .int (nI 9)), (5, .int (nI 6)), (3, .long z195), (0, .ref 78), (1, .ref f), (2, .ref b)]) d_Fi_save_69 (by decide) rfl rfl rfl ?_
  refine ST.lift (fun _ _ k => T_goto (tgt := 13) d_Fi_save_72 rfl k) ?_
  refine ST.lift (fun _ _ k => T_iload d_Fi_save_13 rfl k) ?_
  refine ST.lift (fun _ _ k => T_bipush (v := nI 10) d_Fi_save_15 (by decide) k) ?_
  refine S_icmp_geN d_Fi_save_17 rfl (by omega) (by omega) (fun c => by first | exact absurd c (by omega) | exact c.elim | exact absurd c (by decide) | exact absurd (by assumption) c | exact absurd c (by assumption)) (fun _ => ?_)
  refine ST.lift (fun _ _ k => T_lload_n d_Fi_save_20 rfl k) ?_
  refine ST.lift (fun _ _ k => T_aload_n (v := .ref 78) d_Fi_save_21 rfl (Or.inr ⟨_, rfl⟩) k) ?_
  refine S_getfield d_Fi_save_22 fg_Fi_9 (w78 _) rfl ?_
  refine ST.lift (fun _ _ k => T_iload d_Fi_save_25 rfl k) ?_
  refine S_laload d_Fi_save_27 a79 (vp_in_nI (by omega) (by omega)) (fun z196 => ?_)
  refine ST.lift (fun _ _ k => T_iload d_Fi_save_28 rfl k) ?_
  refine ST.lift (fun _ _ k => T_lshl d_Fi_save_30 k) (S_anyl fun z197 => ?_)
  refine ST.lift (fun _ _ k => T_lor d_Fi_save_31 k) (S_anyl fun z198 => ?_)
  refine ST.lift (fun _ _ k => T_lstore_n (L' := [(3, .long z198), (6, .int (nI 9)), (5, .int (nI 6)), (0, .ref 78), (1, .ref f), (2, .ref b)]) d_Fi_save_32 (by decide) rfl k) ?_
  refine ST.lift (fun _ _ k => T_iload d_Fi_save_33 rfl k) ?_
  refine ST.lift (fun _ _ k => T_bipush (v := nI 26) d_Fi_save_35 (by decide) k) ?_
  refine ST.lift (fun _ _ k => T_iload d_Fi_save_37 rfl k) ?_
  refine ST.lift (fun _ _ k => T_iconst (v := nI 1) d_Fi_save_39 (by decide) k) ?_
  refine S_iandN 1 d_Fi_save_40 (by omega) (by decide) (by decide) ?_
  refine S_topi (y := nI 1) (by decide) ?_
  refine S_isubN d_Fi_save_41 (by omega) ?_
  refine S_topi (y := nI 25) (by decide) ?_
  refine S_iaddN d_Fi_save_42 ?_
  refine S_topi (y := nI 31) (by decide) ?_
  refine ST.lift (fun _ _ k => T_istore (L' := [(5, .int (nI 31)), (3, .long z198), (6, .int (nI 9)), (0, .ref 78), (1, .ref f), (2, .ref b)]) d_Fi_save_43 (by decide) rfl k) ?_
  refine ST.lift (fun _ _ k => T_iload d_Fi_save_45 rfl k) ?_
  refine ST.lift (fun _ _ k => T_bipush (v := nI 8) d_Fi_save_47 (by decide) k) ?_
  refine S_icmp_ltN d_Fi_save_49 rfl (by omega) (by omega) (fun c => by first | exact absurd c (by omega) | exact c.elim | exact absurd c (by decide) | exact absurd (by assumption) c | exact absurd c (by assumption)) (fun _ => ?_)
  refine ST.lift (fun _ _ k => T_aload_n (v := .ref b) d_Fi_save_52 rfl (Or.inr ⟨_, rfl⟩) k) ?_
  refine ST.lift (fun _ _ k => T_lload_n d_Fi_save_53 rfl k) ?_
  refine ST.lift (fun _ _ k => T_l2i d_Fi_save_54 k) (S_anyi fun z199 => ?_)
  refine S_virtual (as := [.int z199]) (rest := []) (b := b) d_Fi_save_55 rfl (jw_By_putByte.jo (by decide)) lm_Fi_47 ji_By_putByte js_By_putByte (y_b.1 _) rfl rfl rfl (Nat.le_of_ble_eq_true rfl) (by decide) (by decide) (c_By_putByte G u191 b bd bc bj y_b z199 hv192) (fun r u200 hq => ?_)
  obtain ⟨hr, hv201, hm202⟩ := hq
  rw [hr]
  clear hr r
  have hm203 := hm194.go hm202 (by intro i hi; simp only [List.mem_cons, List.not_mem_nil, or_false] at hi ⊢ <;> omega)
  show ST G mi_Fi_save 58 [(5, .int (nI 31)), (3, .long z198), (6, .int (nI 9)), (0, .ref 78), (1, .ref f), (2, .ref b)] [] u200 0 0 _
  refine ST.lift (fun _ _ k => T_lload_n d_Fi_save_58 rfl k) ?_
  refine ST.lift (fun _ _ k => T_bipush (v := nI 8) d_Fi_save_59 (by decide) k) ?_
  refine ST.lift (fun _ _ k => T_lshr d_Fi_save_61 k) (S_anyl fun z204 => ?_)
  refine ST.lift (fun _ _ k => T_lstore_n (L' := [(3, .long z204), (5, .int (nI 31)), (6, .int (nI 9)), (0, .ref 78), (1, .ref f), (2, .ref b)]) d_Fi_save_62 (by decide) rfl k) ?_
  refine ST.lift (fun _ _ k => T_iinc (x := nI 31) (L' := [(5, .int (nI 23)), (3, .long z204), (6, .int (nI 9)), (0, .ref 78), (1, .ref f), (2, .ref b)]) d_Fi_save_63 (by decide) rfl (by rw [show nI 31 + Int32.ofInt (-8) = nI 23 by decide]; rfl) k) ?_
  refine ST.lift (fun _ _ k => T_goto (tgt := 45) d_Fi_save_66 rfl k) ?_
  refine ST.lift (fun _ _ k => T_iload d_Fi_save_45 rfl k) ?_
  refine ST.lift (fun _ _ k => T_bipush (v := nI 8) d_Fi_save_47 (by decide) k) ?_
  refine S_icmp_ltN d_Fi_save_49 rfl (by omega) (by omega) (fun c => by first | exact absurd c (by omega) | exact c.elim | exact absurd c (by decide) | exact absurd (by assumption) c | exact absurd c (by assumption)) (fun _ => ?_)
  refine ST.lift (fun _ _ k => T_aload_n (v := .ref b) d_Fi_save_52 rfl (Or.inr ⟨_, rfl⟩) k) ?_
  refine ST.lift (fun _ _ k => T_lload_n d_Fi_save_53 rfl k) ?_
  refine ST.lift (fun _ _ k => T_l2i d_Fi_save_54 k) (S_anyi fun z205 => ?_)
  refine S_virtual (as := [.int z205]) (rest := []) (b := b) d_Fi_save_55 rfl (jw_By_putByte.jo (by decide)) lm_Fi_47 ji_By_putByte js_By_putByte (y_b.1 _) rfl rfl rfl (Nat.le_of_ble_eq_true rfl) (by decide) (by decide) (c_By_putByte G u200 b bd bc bj y_b z205 hv201) (fun r u206 hq => ?_)
  obtain ⟨hr, hv207, hm208⟩ := hq
  rw [hr]
  clear hr r
  have hm209 := hm203.go hm208 (by intro i hi; simp only [List.mem_cons, List.not_mem_nil, or_false] at hi ⊢ <;> omega)
  show ST G mi_Fi_save 58 [(5, .int (nI 23)), (3, .long z204), (6, .int (nI 9)), (0, .ref 78), (1, .ref f), (2, .ref b)] [] u206 0 0 _
  refine ST.lift (fun _ _ k => T_lload_n d_Fi_save_58 rfl k) ?_
  refine ST.lift (fun _ _ k => T_bipush (v := nI 8) d_Fi_save_59 (by decide) k) ?_
  refine ST.lift (fun _ _ k => T_lshr d_Fi_save_61 k) (S_anyl fun z210 => ?_)
  refine ST.lift (fun _ _ k => T_lstore_n (L' := [(3, .long z210), (5, .int (nI 23)), (6, .int (nI 9)), (0, .ref 78), (1, .ref f), (2, .ref b)]) d_Fi_save_62 (by decide) rfl k) ?_
  refine ST.lift (fun _ _ k => T_iinc (x := nI 23) (L' := [(5, .int (nI 15)), (3, .long z210), (6, .int (nI 9)), (0, .ref 78), (1, .ref f), (2, .ref b)]) d_Fi_save_63 (by decide) rfl (by rw [show nI 23 + Int32.ofInt (-8) = nI 15 by decide]; rfl) k) ?_
  refine ST.lift (fun _ _ k => T_goto (tgt := 45) d_Fi_save_66 rfl k) ?_
  refine ST.lift (fun _ _ k => T_iload d_Fi_save_45 rfl k) ?_
  refine ST.lift (fun _ _ k => T_bipush (v := nI 8) d_Fi_save_47 (by decide) k) ?_
  refine S_icmp_ltN d_Fi_save_49 rfl (by omega) (by omega) (fun c => by first | exact absurd c (by omega) | exact c.elim | exact absurd c (by decide) | exact absurd (by assumption) c | exact absurd c (by assumption)) (fun _ => ?_)
  refine ST.lift (fun _ _ k => T_aload_n (v := .ref b) d_Fi_save_52 rfl (Or.inr ⟨_, rfl⟩) k) ?_
  refine ST.lift (fun _ _ k => T_lload_n d_Fi_save_53 rfl k) ?_
  refine ST.lift (fun _ _ k => T_l2i d_Fi_save_54 k) (S_anyi fun z211 => ?_)
  refine S_virtual (as := [.int z211]) (rest := []) (b := b) d_Fi_save_55 rfl (jw_By_putByte.jo (by decide)) lm_Fi_47 ji_By_putByte js_By_putByte (y_b.1 _) rfl rfl rfl (Nat.le_of_ble_eq_true rfl) (by decide) (by decide) (c_By_putByte G u206 b bd bc bj y_b z211 hv207) (fun r u212 hq => ?_)
  obtain ⟨hr, hv213, hm214⟩ := hq
  rw [hr]
  clear hr r
  have hm215 := hm209.go hm214 (by intro i hi; simp only [List.mem_cons, List.not_mem_nil, or_false] at hi ⊢ <;> omega)
  show ST G mi_Fi_save 58 [(5, .int (nI 15)), (3, .long z210), (6, .int (nI 9)), (0, .ref 78), (1, .ref f), (2, .ref b)] [] u212 0 0 _
  refine ST.lift (fun _ _ k => T_lload_n d_Fi_save_58 rfl k) ?_
  refine ST.lift (fun _ _ k => T_bipush (v := nI 8) d_Fi_save_59 (by decide) k) ?_
  refine ST.lift (fun _ _ k => T_lshr d_Fi_save_61 k) (S_anyl fun z216 => ?_)
  refine ST.lift (fun _ _ k => T_lstore_n (L' := [(3, .long z216), (5, .int (nI 15)), (6, .int (nI 9)), (0, .ref 78), (1, .ref f), (2, .ref b)]) d_Fi_save_62 (by decide) rfl k) ?_
  refine ST.lift (fun _ _ k => T_iinc (x := nI 15) (L' := [(5, .int (nI 7)), (3, .long z216), (6, .int (nI 9)), (0, .ref 78), (1, .ref f), (2, .ref b)]) d_Fi_save_63 (by decide) rfl (by rw [show nI 15 + Int32.ofInt (-8) = nI 7 by decide]; rfl) k) ?_
  refine ST.lift (fun _ _ k => T_goto (tgt := 45) d_Fi_save_66 rfl k) ?_
  refine ST.lift (fun _ _ k => T_iload d_Fi_save_45 rfl k) ?_
  refine ST.lift (fun _ _ k => T_bipush (v := nI 8) d_Fi_save_47 (by decide) k) ?_
  refine S_icmp_ltN d_Fi_save_49 rfl (by omega) (by omega) (fun _ => ?_) (fun c => by first | exact absurd c (by omega) | exact c.elim | exact absurd c (by decide) | exact absurd (by assumption) c | exact absurd c (by assumption))
  refine S_iincN (a := 9) (b := 1) (L' := [(6, .int (nI 10)), (5, .int (nI 7)), (3, .long z216), (0, .ref 78), (1, .ref f), (2, .ref b)]) d_Fi_save_69 (by decide) rfl rfl rfl ?_
  refine ST.lift (fun _ _ k => T_goto (tgt := 13) d_Fi_save_72 rfl k) ?_
  refine ST.lift (fun _ _ k => T_iload d_Fi_save_13 rfl k) ?_
  refine ST.lift (fun _ _ k => T_bipush (v := nI 10) d_Fi_save_15 (by decide) k) ?_
  refine S_icmp_geN d_Fi_save_17 rfl (by omega) (by omega) (fun _ => ?_) (fun c => by first | exact absurd c (by omega) | exact c.elim | exact absurd c (by decide) | exact absurd (by assumption) c | exact absurd c (by assumption))
  refine ST.lift (fun _ _ k => T_aload_n (v := .ref b) d_Fi_save_75 rfl (Or.inr ⟨_, rfl⟩) k) ?_
  refine ST.lift (fun _ _ k => T_lload_n d_Fi_save_76 rfl k) ?_
  refine ST.lift (fun _ _ k => T_l2i d_Fi_save_77 k) (S_anyi fun z217 => ?_)
  refine S_virtual (as := [.int z217]) (rest := []) (b := b) d_Fi_save_78 rfl (jw_By_putByte.jo (by decide)) lm_Fi_47 ji_By_putByte js_By_putByte (y_b.1 _) rfl rfl rfl (Nat.le_of_ble_eq_true rfl) (by decide) (by decide) (c_By_putByte G u212 b bd bc bj y_b z217 hv213) (fun r u218 hq => ?_)
  obtain ⟨hr, hv219, hm220⟩ := hq
  rw [hr]
  clear hr r
  have hm221 := hm215.go hm220 (by intro i hi; simp only [List.mem_cons, List.not_mem_nil, or_false] at hi ⊢ <;> omega)
  show ST G mi_Fi_save 81 [(6, .int (nI 10)), (5, .int (nI 7)), (3, .long z216), (0, .ref 78), (1, .ref f), (2, .ref b)] [] u218 0 0 _
  exact S_vret d_Fi_save_81 rfl (by decide) (by decide) (hQ _ hv219 hm221)
set_option maxRecDepth 100000 in
set_option maxHeartbeats 4000000 in
theorem c_Cu_code (G : GX) (v : Nat → Int32) (p px py pz pt : Nat) (p_p : isPt p px py pz pt) (b bd bc bj : Nat) (y_b : isBy b bd bc bj) (hv : okv v) : CS G mi_Cu_code [.ref 77, .ref p, .ref b] v (fun r v' => r = none ∧ okv v' ∧ mdf [bj] v v') := by
  refine CS.of (by decide) (Nat.le_of_ble_eq_true rfl) ?_
  generalize hQe : (fun (r : Option Value) (v' : Nat → Int32) => r = none ∧ okv v' ∧ mdf [bj] v v') = Q
  have hQ : ∀ u, okv u → mdf [bj] v u → Q none u := by rw [← hQe]; exact fun u h1 h2 => ⟨rfl, h1, h2⟩
  clear hQe
  have hm : mdf [bj] v v := mdf.rf
  have l_b := y_b.2.2.2.2.2
  show ST G mi_Cu_code 0 [(0, .ref 77), (1, .ref p), (2, .ref b)] [] v 0 0 Q
  refine ST.lift (fun _ _ k => T_aload_n (v := .ref 77) d_Cu_code_0 rfl (Or.inr ⟨_, rfl⟩) k) ?_
  refine S_getfield d_Cu_code_1 fg_Cu_36 (w77 _) rfl ?_
  refine ST.lift (fun _ _ k => T_aload_n (v := .ref p) d_Cu_code_4 rfl (Or.inr ⟨_, rfl⟩) k) ?_
  refine S_getfield d_Cu_code_5 fg_Cu_86 (p_p.1 _) rfl ?_
  refine ST.lift (fun _ _ k => T_aload_n (v := .ref p) d_Cu_code_8 rfl (Or.inr ⟨_, rfl⟩) k) ?_
  refine S_getfield d_Cu_code_9 fg_Cu_64 (p_p.1 _) rfl ?_
  refine S_static (as := [.ref 94, .ref pz, .ref py]) (rest := []) d_Cu_code_12 rfl (jw_Fi_add.jo (by decide)) lm_Cu_77 jt_Fi_add rfl (Nat.le_of_ble_eq_true rfl) (by decide) (by decide) (c_Fi_add G v 94 (by decide) a94 pz p_p.2.2.2.1 py p_p.2.2.1) (fun r v' hq => ?_)
  rw [hq.1, hq.2]
  clear hq r v'
  show ST G mi_Cu_code 15 [(0, .ref 77), (1, .ref p), (2, .ref b)] [] v 0 0 _
  refine ST.lift (fun _ _ k => T_aload_n (v := .ref 77) d_Cu_code_15 rfl (Or.inr ⟨_, rfl⟩) k) ?_
  refine S_getfield d_Cu_code_16 fg_Cu_40 (w77 _) rfl ?_
  refine ST.lift (fun _ _ k => T_aload_n (v := .ref p) d_Cu_code_19 rfl (Or.inr ⟨_, rfl⟩) k) ?_
  refine S_getfield d_Cu_code_20 fg_Cu_86 (p_p.1 _) rfl ?_
  refine ST.lift (fun _ _ k => T_aload_n (v := .ref p) d_Cu_code_23 rfl (Or.inr ⟨_, rfl⟩) k) ?_
  refine S_getfield d_Cu_code_24 fg_Cu_64 (p_p.1 _) rfl ?_
  refine S_static (as := [.ref 95, .ref pz, .ref py]) (rest := []) d_Cu_code_27 rfl (jw_Fi_subtract.jo (by decide)) lm_Cu_70 jt_Fi_subtract rfl (Nat.le_of_ble_eq_true rfl) (by decide) (by decide) (c_Fi_subtract G v 95 (by decide) a95 pz p_p.2.2.2.1 py p_p.2.2.1) (fun r v' hq => ?_)
  rw [hq.1, hq.2]
  clear hq r v'
  show ST G mi_Cu_code 30 [(0, .ref 77), (1, .ref p), (2, .ref b)] [] v 0 0 _
  refine ST.lift (fun _ _ k => T_aload_n (v := .ref 77) d_Cu_code_30 rfl (Or.inr ⟨_, rfl⟩) k) ?_
  refine S_getfield d_Cu_code_31 fg_Cu_36 (w77 _) rfl ?_
  refine ST.lift (fun _ _ k => T_aload_n (v := .ref 77) d_Cu_code_34 rfl (Or.inr ⟨_, rfl⟩) k) ?_
  refine S_getfield d_Cu_code_35 fg_Cu_36 (w77 _) rfl ?_
  refine ST.lift (fun _ _ k => T_aload_n (v := .ref 77) d_Cu_code_38 rfl (Or.inr ⟨_, rfl⟩) k) ?_
  refine S_getfield d_Cu_code_39 fg_Cu_40 (w77 _) rfl ?_
  refine S_static (as := [.ref 94, .ref 94, .ref 95]) (rest := []) d_Cu_code_42 rfl (jw_Fi_multiply.jo (by decide)) lm_Cu_74 jt_Fi_multiply rfl (Nat.le_of_ble_eq_true rfl) (by decide) (by decide) (c_Fi_multiply G v 94 (by decide) a94 94 a94 95 a95) (fun r v' hq => ?_)
  rw [hq.1, hq.2]
  clear hq r v'
  show ST G mi_Cu_code 45 [(0, .ref 77), (1, .ref p), (2, .ref b)] [] v 0 0 _
  refine ST.lift (fun _ _ k => T_aload_n (v := .ref 77) d_Cu_code_45 rfl (Or.inr ⟨_, rfl⟩) k) ?_
  refine S_getfield d_Cu_code_46 fg_Cu_40 (w77 _) rfl ?_
  refine ST.lift (fun _ _ k => T_aload_n (v := .ref p) d_Cu_code_49 rfl (Or.inr ⟨_, rfl⟩) k) ?_
  refine S_getfield d_Cu_code_50 fg_Cu_67 (p_p.1 _) rfl ?_
  refine ST.lift (fun _ _ k => T_aload_n (v := .ref p) d_Cu_code_53 rfl (Or.inr ⟨_, rfl⟩) k) ?_
  refine S_getfield d_Cu_code_54 fg_Cu_64 (p_p.1 _) rfl ?_
  refine S_static (as := [.ref 95, .ref px, .ref py]) (rest := []) d_Cu_code_57 rfl (jw_Fi_multiply.jo (by decide)) lm_Cu_74 jt_Fi_multiply rfl (Nat.le_of_ble_eq_true rfl) (by decide) (by decide) (c_Fi_multiply G v 95 (by decide) a95 px p_p.2.1 py p_p.2.2.1) (fun r v' hq => ?_)
  rw [hq.1, hq.2]
  clear hq r v'
  show ST G mi_Cu_code 60 [(0, .ref 77), (1, .ref p), (2, .ref b)] [] v 0 0 _
  refine ST.lift (fun _ _ k => T_aload_n (v := .ref 77) d_Cu_code_60 rfl (Or.inr ⟨_, rfl⟩) k) ?_
  refine S_getfield d_Cu_code_61 fg_Cu_43 (w77 _) rfl ?_
  refine ST.lift (fun _ _ k => T_aload_n (v := .ref 77) d_Cu_code_64 rfl (Or.inr ⟨_, rfl⟩) k) ?_
  refine S_getfield d_Cu_code_65 fg_Cu_40 (w77 _) rfl ?_
  refine ST.lift (fun _ _ k => T_iconst (v := nI 1) d_Cu_code_68 (by decide) k) ?_
  refine S_static (as := [.ref 96, .ref 95, .int (nI 1)]) (rest := []) d_Cu_code_69 rfl (jw_Fi_square.jo (by decide)) lm_Cu_89 jt_Fi_square rfl (Nat.le_of_ble_eq_true rfl) (by decide) (by decide) (c_Fi_square G v 96 (by decide) a96 95 a95 1 (by omega)) (fun r v' hq => ?_)
  rw [hq.1, hq.2]
  clear hq r v'
  show ST G mi_Cu_code 72 [(0, .ref 77), (1, .ref p), (2, .ref b)] [] v 0 0 _
  refine ST.lift (fun _ _ k => T_aload_n (v := .ref 77) d_Cu_code_72 rfl (Or.inr ⟨_, rfl⟩) k) ?_
  refine S_getfield d_Cu_code_73 fg_Cu_43 (w77 _) rfl ?_
  refine ST.lift (fun _ _ k => T_aload_n (v := .ref 77) d_Cu_code_76 rfl (Or.inr ⟨_, rfl⟩) k) ?_
  refine S_getfield d_Cu_code_77 fg_Cu_43 (w77 _) rfl ?_
  refine ST.lift (fun _ _ k => T_aload_n (v := .ref 77) d_Cu_code_80 rfl (Or.inr ⟨_, rfl⟩) k) ?_
  refine S_getfield d_Cu_code_81 fg_Cu_36 (w77 _) rfl ?_
  refine S_static (as := [.ref 96, .ref 96, .ref 94]) (rest := []) d_Cu_code_84 rfl (jw_Fi_multiply.jo (by decide)) lm_Cu_74 jt_Fi_multiply rfl (Nat.le_of_ble_eq_true rfl) (by decide) (by decide) (c_Fi_multiply G v 96 (by decide) a96 96 a96 94 a94) (fun r v' hq => ?_)
  rw [hq.1, hq.2]
  clear hq r v'
  show ST G mi_Cu_code 87 [(0, .ref 77), (1, .ref p), (2, .ref b)] [] v 0 0 _
  refine ST.lift (fun _ _ k => T_aload_n (v := .ref 77) d_Cu_code_87 rfl (Or.inr ⟨_, rfl⟩) k) ?_
  refine S_getfield d_Cu_code_88 fg_Cu_10 (w77 _) rfl ?_
  refine ST.lift (fun _ _ k => T_aload_n (v := .ref 77) d_Cu_code_91 rfl (Or.inr ⟨_, rfl⟩) k) ?_
  refine S_getfield d_Cu_code_92 fg_Cu_58 (w77 _) rfl ?_
  refine ST.lift (fun _ _ k => T_getstatic (q := ("PasswordGate$Field", "ONE", "[J", .ref 3)) d_Cu_code_95 (List.mem_of_getElem? (i := 3) rfl) gs_Cu_103 (show 3 < K0 by decide) k) ?_
  refine ST.lift (fun _ _ k => T_aload_n (v := .ref 77) d_Cu_code_98 rfl (Or.inr ⟨_, rfl⟩) k) ?_
  refine S_getfield d_Cu_code_99 fg_Cu_43 (w77 _) rfl ?_
  refine S_virtual (as := [.ref 101, .ref 3, .ref 96]) (rest := []) (b := 78) d_Cu_code_102 rfl (jw_Fi_root.jo (by decide)) lm_Cu_123 ji_Fi_root js_Fi_root (w78 _) rfl rfl rfl (Nat.le_of_ble_eq_true rfl) (by decide) (by decide) (c_Fi_root G v 101 (by decide) a101 3 a3 96 a96) (fun r v' hq => ?_)
  obtain ⟨z1, hz1, hr, hv⟩ := hq
  rw [hr, hv]
  clear hr hv r v'
  show ST G mi_Cu_code 105 [(0, .ref 77), (1, .ref p), (2, .ref b)] [.int (nI z1)] v 0 0 _
  refine ST.lift (fun _ _ k => T_pop d_Cu_code_105 rfl k) ?_
  refine ST.lift (fun _ _ k => T_aload_n (v := .ref 77) d_Cu_code_106 rfl (Or.inr ⟨_, rfl⟩) k) ?_
  refine S_getfield d_Cu_code_107 fg_Cu_36 (w77 _) rfl ?_
  refine ST.lift (fun _ _ k => T_aload_n (v := .ref 77) d_Cu_code_110 rfl (Or.inr ⟨_, rfl⟩) k) ?_
  refine S_getfield d_Cu_code_111 fg_Cu_36 (w77 _) rfl ?_
  refine ST.lift (fun _ _ k => T_aload_n (v := .ref 77) d_Cu_code_114 rfl (Or.inr ⟨_, rfl⟩) k) ?_
  refine S_getfield d_Cu_code_115 fg_Cu_58 (w77 _) rfl ?_
  refine S_static (as := [.ref 94, .ref 94, .ref 101]) (rest := []) d_Cu_code_118 rfl (jw_Fi_multiply.jo (by decide)) lm_Cu_74 jt_Fi_multiply rfl (Nat.le_of_ble_eq_true rfl) (by decide) (by decide) (c_Fi_multiply G v 94 (by decide) a94 94 a94 101 a101) (fun r v' hq => ?_)
  rw [hq.1, hq.2]
  clear hq r v'
  show ST G mi_Cu_code 121 [(0, .ref 77), (1, .ref p), (2, .ref b)] [] v 0 0 _
  refine ST.lift (fun _ _ k => T_aload_n (v := .ref 77) d_Cu_code_121 rfl (Or.inr ⟨_, rfl⟩) k) ?_
  refine S_getfield d_Cu_code_122 fg_Cu_40 (w77 _) rfl ?_
  refine ST.lift (fun _ _ k => T_aload_n (v := .ref 77) d_Cu_code_125 rfl (Or.inr ⟨_, rfl⟩) k) ?_
  refine S_getfield d_Cu_code_126 fg_Cu_40 (w77 _) rfl ?_
  refine ST.lift (fun _ _ k => T_aload_n (v := .ref 77) d_Cu_code_129 rfl (Or.inr ⟨_, rfl⟩) k) ?_
  refine S_getfield d_Cu_code_130 fg_Cu_58 (w77 _) rfl ?_
  refine S_static (as := [.ref 95, .ref 95, .ref 101]) (rest := []) d_Cu_code_133 rfl (jw_Fi_multiply.jo (by decide)) lm_Cu_74 jt_Fi_multiply rfl (Nat.le_of_ble_eq_true rfl) (by decide) (by decide) (c_Fi_multiply G v 95 (by decide) a95 95 a95 101 a101) (fun r v' hq => ?_)
  rw [hq.1, hq.2]
  clear hq r v'
  show ST G mi_Cu_code 136 [(0, .ref 77), (1, .ref p), (2, .ref b)] [] v 0 0 _
  refine ST.lift (fun _ _ k => T_aload_n (v := .ref 77) d_Cu_code_136 rfl (Or.inr ⟨_, rfl⟩) k) ?_
  refine S_getfield d_Cu_code_137 fg_Cu_61 (w77 _) rfl ?_
  refine ST.lift (fun _ _ k => T_aload_n (v := .ref 77) d_Cu_code_140 rfl (Or.inr ⟨_, rfl⟩) k) ?_
  refine S_getfield d_Cu_code_141 fg_Cu_36 (w77 _) rfl ?_
  refine ST.lift (fun _ _ k => T_aload_n (v := .ref 77) d_Cu_code_144 rfl (Or.inr ⟨_, rfl⟩) k) ?_
  refine S_getfield d_Cu_code_145 fg_Cu_40 (w77 _) rfl ?_
  refine S_static (as := [.ref 102, .ref 94, .ref 95]) (rest := []) d_Cu_code_148 rfl (jw_Fi_multiply.jo (by decide)) lm_Cu_74 jt_Fi_multiply rfl (Nat.le_of_ble_eq_true rfl) (by decide) (by decide) (c_Fi_multiply G v 102 (by decide) a102 94 a94 95 a95) (fun r v' hq => ?_)
  rw [hq.1, hq.2]
  clear hq r v'
  show ST G mi_Cu_code 151 [(0, .ref 77), (1, .ref p), (2, .ref b)] [] v 0 0 _
  refine ST.lift (fun _ _ k => T_aload_n (v := .ref 77) d_Cu_code_151 rfl (Or.inr ⟨_, rfl⟩) k) ?_
  refine S_getfield d_Cu_code_152 fg_Cu_61 (w77 _) rfl ?_
  refine ST.lift (fun _ _ k => T_aload_n (v := .ref 77) d_Cu_code_155 rfl (Or.inr ⟨_, rfl⟩) k) ?_
  refine S_getfield d_Cu_code_156 fg_Cu_61 (w77 _) rfl ?_
  refine ST.lift (fun _ _ k => T_aload_n (v := .ref p) d_Cu_code_159 rfl (Or.inr ⟨_, rfl⟩) k) ?_
  refine S_getfield d_Cu_code_160 fg_Cu_80 (p_p.1 _) rfl ?_
  refine S_static (as := [.ref 102, .ref 102, .ref pt]) (rest := []) d_Cu_code_163 rfl (jw_Fi_multiply.jo (by decide)) lm_Cu_74 jt_Fi_multiply rfl (Nat.le_of_ble_eq_true rfl) (by decide) (by decide) (c_Fi_multiply G v 102 (by decide) a102 102 a102 pt p_p.2.2.2.2.1) (fun r v' hq => ?_)
  rw [hq.1, hq.2]
  clear hq r v'
  show ST G mi_Cu_code 166 [(0, .ref 77), (1, .ref p), (2, .ref b)] [] v 0 0 _
  refine ST.lift (fun _ _ k => T_aload_n (v := .ref 77) d_Cu_code_166 rfl (Or.inr ⟨_, rfl⟩) k) ?_
  refine S_getfield d_Cu_code_167 fg_Cu_43 (w77 _) rfl ?_
  refine ST.lift (fun _ _ k => T_aload_n (v := .ref 77) d_Cu_code_170 rfl (Or.inr ⟨_, rfl⟩) k) ?_
  refine S_getfield d_Cu_code_171 fg_Cu_61 (w77 _) rfl ?_
  refine ST.lift (fun _ _ k => T_aload_n (v := .ref p) d_Cu_code_174 rfl (Or.inr ⟨_, rfl⟩) k) ?_
  refine S_getfield d_Cu_code_175 fg_Cu_80 (p_p.1 _) rfl ?_
  refine S_static (as := [.ref 96, .ref 102, .ref pt]) (rest := []) d_Cu_code_178 rfl (jw_Fi_multiply.jo (by decide)) lm_Cu_74 jt_Fi_multiply rfl (Nat.le_of_ble_eq_true rfl) (by decide) (by decide) (c_Fi_multiply G v 96 (by decide) a96 102 a102 pt p_p.2.2.2.2.1) (fun r v' hq => ?_)
  rw [hq.1, hq.2]
  clear hq r v'
  show ST G mi_Cu_code 181 [(0, .ref 77), (1, .ref p), (2, .ref b)] [] v 0 0 _
  refine ST.lift (fun _ _ k => T_aload_n (v := .ref 77) d_Cu_code_181 rfl (Or.inr ⟨_, rfl⟩) k) ?_
  refine S_getfield d_Cu_code_182 fg_Cu_10 (w77 _) rfl ?_
  refine ST.lift (fun _ _ k => T_aload_n (v := .ref 77) d_Cu_code_185 rfl (Or.inr ⟨_, rfl⟩) k) ?_
  refine S_getfield d_Cu_code_186 fg_Cu_43 (w77 _) rfl ?_
  refine S_virtual (as := [.ref 96]) (rest := []) (b := 78) d_Cu_code_189 rfl (jw_Fi_isOdd.jo (by decide)) lm_Cu_127 ji_Fi_isOdd js_Fi_isOdd (w78 _) rfl rfl rfl (Nat.le_of_ble_eq_true rfl) (by decide) (by decide) (c_Fi_isOdd G v 96 a96) (fun r v' hq => ?_)
  obtain ⟨z2, hz2, hr, hv⟩ := hq
  rw [hr, hv]
  clear hr hv r v'
  show ST G mi_Cu_code 192 [(0, .ref 77), (1, .ref p), (2, .ref b)] [.int (nI z2)] v 0 0 _
  have J273_4 : ST G mi_Cu_code 273 [(0, .ref 77), (1, .ref p), (2, .ref b)] [] v 0 0 Q := by
    refine ST.lift (fun _ _ k => T_aload_n (v := .ref 77) d_Cu_code_273 rfl (Or.inr ⟨_, rfl⟩) k) ?_
    refine S_getfield d_Cu_code_274 fg_Cu_43 (w77 _) rfl ?_
    refine ST.lift (fun _ _ k => T_aload_n (v := .ref 77) d_Cu_code_277 rfl (Or.inr ⟨_, rfl⟩) k) ?_
    refine S_getfield d_Cu_code_278 fg_Cu_46 (w77 _) rfl ?_
    refine ST.lift (fun _ _ k => T_aload_n (v := .ref 77) d_Cu_code_281 rfl (Or.inr ⟨_, rfl⟩) k) ?_
    refine S_getfield d_Cu_code_282 fg_Cu_61 (w77 _) rfl ?_
    refine S_static (as := [.ref 96, .ref 97, .ref 102]) (rest := []) d_Cu_code_285 rfl (jw_Fi_multiply.jo (by decide)) lm_Cu_74 jt_Fi_multiply rfl (Nat.le_of_ble_eq_true rfl) (by decide) (by decide) (c_Fi_multiply G v 96 (by decide) a96 97 a97 102 a102) (fun r v' hq => ?_)
    rw [hq.1, hq.2]
    clear hq r v'
    show ST G mi_Cu_code 288 [(0, .ref 77), (1, .ref p), (2, .ref b)] [] v 0 0 _
    refine ST.lift (fun _ _ k => T_aload_n (v := .ref 77) d_Cu_code_288 rfl (Or.inr ⟨_, rfl⟩) k) ?_
    refine S_getfield d_Cu_code_289 fg_Cu_10 (w77 _) rfl ?_
    refine ST.lift (fun _ _ k => T_aload_n (v := .ref 77) d_Cu_code_292 rfl (Or.inr ⟨_, rfl⟩) k) ?_
    refine S_getfield d_Cu_code_293 fg_Cu_43 (w77 _) rfl ?_
    refine S_virtual (as := [.ref 96]) (rest := []) (b := 78) d_Cu_code_296 rfl (jw_Fi_isOdd.jo (by decide)) lm_Cu_127 ji_Fi_isOdd js_Fi_isOdd (w78 _) rfl rfl rfl (Nat.le_of_ble_eq_true rfl) (by decide) (by decide) (c_Fi_isOdd G v 96 a96) (fun r v' hq => ?_)
    obtain ⟨z5, hz5, hr, hv⟩ := hq
    rw [hr, hv]
    clear hr hv r v'
    show ST G mi_Cu_code 299 [(0, .ref 77), (1, .ref p), (2, .ref b)] [.int (nI z5)] v 0 0 _
    have J313_7 : ST G mi_Cu_code 313 [(0, .ref 77), (1, .ref p), (2, .ref b)] [] v 0 0 Q := by
      refine ST.lift (fun _ _ k => T_aload_n (v := .ref 77) d_Cu_code_313 rfl (Or.inr ⟨_, rfl⟩) k) ?_
      refine S_getfield d_Cu_code_314 fg_Cu_43 (w77 _) rfl ?_
      refine ST.lift (fun _ _ k => T_aload_n (v := .ref p) d_Cu_code_317 rfl (Or.inr ⟨_, rfl⟩) k) ?_
      refine S_getfield d_Cu_code_318 fg_Cu_86 (p_p.1 _) rfl ?_
      refine ST.lift (fun _ _ k => T_aload_n (v := .ref 77) d_Cu_code_321 rfl (Or.inr ⟨_, rfl⟩) k) ?_
      refine S_getfield d_Cu_code_322 fg_Cu_49 (w77 _) rfl ?_
      refine S_static (as := [.ref 96, .ref pz, .ref 98]) (rest := []) d_Cu_code_325 rfl (jw_Fi_subtract.jo (by decide)) lm_Cu_70 jt_Fi_subtract rfl (Nat.le_of_ble_eq_true rfl) (by decide) (by decide) (c_Fi_subtract G v 96 (by decide) a96 pz p_p.2.2.2.1 98 a98) (fun r v' hq => ?_)
      rw [hq.1, hq.2]
      clear hq r v'
      show ST G mi_Cu_code 328 [(0, .ref 77), (1, .ref p), (2, .ref b)] [] v 0 0 _
      refine ST.lift (fun _ _ k => T_aload_n (v := .ref 77) d_Cu_code_328 rfl (Or.inr ⟨_, rfl⟩) k) ?_
      refine S_getfield d_Cu_code_329 fg_Cu_43 (w77 _) rfl ?_
      refine ST.lift (fun _ _ k => T_aload_n (v := .ref 77) d_Cu_code_332 rfl (Or.inr ⟨_, rfl⟩) k) ?_
      refine S_getfield d_Cu_code_333 fg_Cu_43 (w77 _) rfl ?_
      refine ST.lift (fun _ _ k => T_aload_n (v := .ref 77) d_Cu_code_336 rfl (Or.inr ⟨_, rfl⟩) k) ?_
      refine S_getfield d_Cu_code_337 fg_Cu_52 (w77 _) rfl ?_
      refine S_static (as := [.ref 96, .ref 96, .ref 99]) (rest := []) d_Cu_code_340 rfl (jw_Fi_multiply.jo (by decide)) lm_Cu_74 jt_Fi_multiply rfl (Nat.le_of_ble_eq_true rfl) (by decide) (by decide) (c_Fi_multiply G v 96 (by decide) a96 96 a96 99 a99) (fun r v' hq => ?_)
      rw [hq.1, hq.2]
      clear hq r v'
      show ST G mi_Cu_code 343 [(0, .ref 77), (1, .ref p), (2, .ref b)] [] v 0 0 _
      refine ST.lift (fun _ _ k => T_aload_n (v := .ref 77) d_Cu_code_343 rfl (Or.inr ⟨_, rfl⟩) k) ?_
      refine S_getfield d_Cu_code_344 fg_Cu_10 (w77 _) rfl ?_
      refine ST.lift (fun _ _ k => T_aload_n (v := .ref 77) d_Cu_code_347 rfl (Or.inr ⟨_, rfl⟩) k) ?_
      refine S_getfield d_Cu_code_348 fg_Cu_43 (w77 _) rfl ?_
      refine S_virtual (as := [.ref 96]) (rest := []) (b := 78) d_Cu_code_351 rfl (jw_Fi_isOdd.jo (by decide)) lm_Cu_127 ji_Fi_isOdd js_Fi_isOdd (w78 _) rfl rfl rfl (Nat.le_of_ble_eq_true rfl) (by decide) (by decide) (c_Fi_isOdd G v 96 a96) (fun r v' hq => ?_)
      obtain ⟨z8, hz8, hr, hv⟩ := hq
      rw [hr, hv]
      clear hr hv r v'
      show ST G mi_Cu_code 354 [(0, .ref 77), (1, .ref p), (2, .ref b)] [.int (nI z8)] v 0 0 _
      have J368_10 : ST G mi_Cu_code 368 [(0, .ref 77), (1, .ref p), (2, .ref b)] [] v 0 0 Q := by
        refine ST.lift (fun _ _ k => T_aload_n (v := .ref 77) d_Cu_code_368 rfl (Or.inr ⟨_, rfl⟩) k) ?_
        refine S_getfield d_Cu_code_369 fg_Cu_10 (w77 _) rfl ?_
        refine ST.lift (fun _ _ k => T_aload_n (v := .ref 77) d_Cu_code_372 rfl (Or.inr ⟨_, rfl⟩) k) ?_
        refine S_getfield d_Cu_code_373 fg_Cu_43 (w77 _) rfl ?_
        refine ST.lift (fun _ _ k => T_aload_n (v := .ref b) d_Cu_code_376 rfl (Or.inr ⟨_, rfl⟩) k) ?_
        refine S_virtual (as := [.ref 96, .ref b]) (rest := []) (b := 78) d_Cu_code_377 rfl (jw_Fi_save.jo (by decide)) lm_Cu_142 ji_Fi_save js_Fi_save (w78 _) rfl rfl rfl (Nat.le_of_ble_eq_true rfl) (by decide) (by decide) (c_Fi_save G v 96 a96 b bd bc bj y_b hv) (fun r u11 hq => ?_)
        obtain ⟨hr, hv12, hm13⟩ := hq
        rw [hr]
        clear hr r
        have hm14 := hm.go hm13 (by intro i hi; simp only [List.mem_cons, List.not_mem_nil, or_false] at hi ⊢ <;> omega)
        show ST G mi_Cu_code 380 [(0, .ref 77), (1, .ref p), (2, .ref b)] [] u11 0 0 _
        exact S_vret d_Cu_code_380 rfl (by decide) (by decide) (hQ _ hv12 hm14)
      refine S_if_eqN d_Cu_code_354 rfl (by omega) (fun c9 => ?_) (fun c9 => ?_)
      · exact J368_10 
      · refine ST.lift (fun _ _ k => T_aload_n (v := .ref 77) d_Cu_code_357 rfl (Or.inr ⟨_, rfl⟩) k) ?_
        refine S_getfield d_Cu_code_358 fg_Cu_43 (w77 _) rfl ?_
        refine ST.lift (fun _ _ k => T_aload_n (v := .ref 77) d_Cu_code_361 rfl (Or.inr ⟨_, rfl⟩) k) ?_
        refine S_getfield d_Cu_code_362 fg_Cu_43 (w77 _) rfl ?_
        refine S_static (as := [.ref 96, .ref 96]) (rest := []) d_Cu_code_365 rfl (jw_Fi_negate.jo (by decide)) lm_Cu_139 jt_Fi_negate rfl (Nat.le_of_ble_eq_true rfl) (by decide) (by decide) (c_Fi_negate G v 96 (by decide) a96 96 a96) (fun r v' hq => ?_)
        rw [hq.1, hq.2]
        clear hq r v'
        show ST G mi_Cu_code 368 [(0, .ref 77), (1, .ref p), (2, .ref b)] [] v 0 0 _
        exact J368_10 
    refine S_if_eqN d_Cu_code_299 rfl (by omega) (fun c6 => ?_) (fun c6 => ?_)
    · exact J313_7 
    · refine ST.lift (fun _ _ k => T_aload_n (v := .ref 77) d_Cu_code_302 rfl (Or.inr ⟨_, rfl⟩) k) ?_
      refine S_getfield d_Cu_code_303 fg_Cu_49 (w77 _) rfl ?_
      refine ST.lift (fun _ _ k => T_aload_n (v := .ref 77) d_Cu_code_306 rfl (Or.inr ⟨_, rfl⟩) k) ?_
      refine S_getfield d_Cu_code_307 fg_Cu_49 (w77 _) rfl ?_
      refine S_static (as := [.ref 98, .ref 98]) (rest := []) d_Cu_code_310 rfl (jw_Fi_negate.jo (by decide)) lm_Cu_139 jt_Fi_negate rfl (Nat.le_of_ble_eq_true rfl) (by decide) (by decide) (c_Fi_negate G v 98 (by decide) a98 98 a98) (fun r v' hq => ?_)
      rw [hq.1, hq.2]
      clear hq r v'
      show ST G mi_Cu_code 313 [(0, .ref 77), (1, .ref p), (2, .ref b)] [] v 0 0 _
      exact J313_7 
  refine S_if_eqN d_Cu_code_192 rfl (by omega) (fun c3 => ?_) (fun c3 => ?_)
  · refine ST.lift (fun _ _ k => T_aload_n (v := .ref 77) d_Cu_code_240 rfl (Or.inr ⟨_, rfl⟩) k) ?_
    refine S_getfield d_Cu_code_241 fg_Cu_46 (w77 _) rfl ?_
    refine ST.lift (fun _ _ k => T_aload_n (v := .ref p) d_Cu_code_244 rfl (Or.inr ⟨_, rfl⟩) k) ?_
    refine S_getfield d_Cu_code_245 fg_Cu_67 (p_p.1 _) rfl ?_
    refine S_static (as := [.ref 97, .ref px]) (rest := []) d_Cu_code_248 rfl (jw_Fi_copy.jo (by decide)) lm_Cu_137 jt_Fi_copy rfl (Nat.le_of_ble_eq_true rfl) (by decide) (by decide) (c_Fi_copy G v 97 (by decide) a97 px p_p.2.1) (fun r v' hq => ?_)
    rw [hq.1, hq.2]
    clear hq r v'
    show ST G mi_Cu_code 251 [(0, .ref 77), (1, .ref p), (2, .ref b)] [] v 0 0 _
    refine ST.lift (fun _ _ k => T_aload_n (v := .ref 77) d_Cu_code_251 rfl (Or.inr ⟨_, rfl⟩) k) ?_
    refine S_getfield d_Cu_code_252 fg_Cu_49 (w77 _) rfl ?_
    refine ST.lift (fun _ _ k => T_aload_n (v := .ref p) d_Cu_code_255 rfl (Or.inr ⟨_, rfl⟩) k) ?_
    refine S_getfield d_Cu_code_256 fg_Cu_64 (p_p.1 _) rfl ?_
    refine S_static (as := [.ref 98, .ref py]) (rest := []) d_Cu_code_259 rfl (jw_Fi_copy.jo (by decide)) lm_Cu_137 jt_Fi_copy rfl (Nat.le_of_ble_eq_true rfl) (by decide) (by decide) (c_Fi_copy G v 98 (by decide) a98 py p_p.2.2.1) (fun r v' hq => ?_)
    rw [hq.1, hq.2]
    clear hq r v'
    show ST G mi_Cu_code 262 [(0, .ref 77), (1, .ref p), (2, .ref b)] [] v 0 0 _
    refine ST.lift (fun _ _ k => T_aload_n (v := .ref 77) d_Cu_code_262 rfl (Or.inr ⟨_, rfl⟩) k) ?_
    refine S_getfield d_Cu_code_263 fg_Cu_52 (w77 _) rfl ?_
    refine ST.lift (fun _ _ k => T_aload_n (v := .ref 77) d_Cu_code_266 rfl (Or.inr ⟨_, rfl⟩) k) ?_
    refine S_getfield d_Cu_code_267 fg_Cu_40 (w77 _) rfl ?_
    refine S_static (as := [.ref 99, .ref 95]) (rest := []) d_Cu_code_270 rfl (jw_Fi_copy.jo (by decide)) lm_Cu_137 jt_Fi_copy rfl (Nat.le_of_ble_eq_true rfl) (by decide) (by decide) (c_Fi_copy G v 99 (by decide) a99 95 a95) (fun r v' hq => ?_)
    rw [hq.1, hq.2]
    clear hq r v'
    show ST G mi_Cu_code 273 [(0, .ref 77), (1, .ref p), (2, .ref b)] [] v 0 0 _
    exact J273_4 
  · refine ST.lift (fun _ _ k => T_aload_n (v := .ref 77) d_Cu_code_195 rfl (Or.inr ⟨_, rfl⟩) k) ?_
    refine S_getfield d_Cu_code_196 fg_Cu_46 (w77 _) rfl ?_
    refine ST.lift (fun _ _ k => T_aload_n (v := .ref p) d_Cu_code_199 rfl (Or.inr ⟨_, rfl⟩) k) ?_
    refine S_getfield d_Cu_code_200 fg_Cu_64 (p_p.1 _) rfl ?_
    refine ST.lift (fun _ _ k => T_getstatic (q := ("PasswordGate$Field", "I", "[J", .ref 2)) d_Cu_code_203 (List.mem_of_getElem? (i := 2) rfl) gs_Cu_131 (show 2 < K0 by decide) k) ?_
    refine S_static (as := [.ref 97, .ref py, .ref 2]) (rest := []) d_Cu_code_206 rfl (jw_Fi_multiply.jo (by decide)) lm_Cu_74 jt_Fi_multiply rfl (Nat.le_of_ble_eq_true rfl) (by decide) (by decide) (c_Fi_multiply G v 97 (by decide) a97 py p_p.2.2.1 2 a2) (fun r v' hq => ?_)
    rw [hq.1, hq.2]
    clear hq r v'
    show ST G mi_Cu_code 209 [(0, .ref 77), (1, .ref p), (2, .ref b)] [] v 0 0 _
    refine ST.lift (fun _ _ k => T_aload_n (v := .ref 77) d_Cu_code_209 rfl (Or.inr ⟨_, rfl⟩) k) ?_
    refine S_getfield d_Cu_code_210 fg_Cu_49 (w77 _) rfl ?_
    refine ST.lift (fun _ _ k => T_aload_n (v := .ref p) d_Cu_code_213 rfl (Or.inr ⟨_, rfl⟩) k) ?_
    refine S_getfield d_Cu_code_214 fg_Cu_67 (p_p.1 _) rfl ?_
    refine ST.lift (fun _ _ k => T_getstatic (q := ("PasswordGate$Field", "I", "[J", .ref 2)) d_Cu_code_217 (List.mem_of_getElem? (i := 2) rfl) gs_Cu_131 (show 2 < K0 by decide) k) ?_
    refine S_static (as := [.ref 98, .ref px, .ref 2]) (rest := []) d_Cu_code_220 rfl (jw_Fi_multiply.jo (by decide)) lm_Cu_74 jt_Fi_multiply rfl (Nat.le_of_ble_eq_true rfl) (by decide) (by decide) (c_Fi_multiply G v 98 (by decide) a98 px p_p.2.1 2 a2) (fun r v' hq => ?_)
    rw [hq.1, hq.2]
    clear hq r v'
    show ST G mi_Cu_code 223 [(0, .ref 77), (1, .ref p), (2, .ref b)] [] v 0 0 _
    refine ST.lift (fun _ _ k => T_aload_n (v := .ref 77) d_Cu_code_223 rfl (Or.inr ⟨_, rfl⟩) k) ?_
    refine S_getfield d_Cu_code_224 fg_Cu_52 (w77 _) rfl ?_
    refine ST.lift (fun _ _ k => T_aload_n (v := .ref 77) d_Cu_code_227 rfl (Or.inr ⟨_, rfl⟩) k) ?_
    refine S_getfield d_Cu_code_228 fg_Cu_36 (w77 _) rfl ?_
    refine ST.lift (fun _ _ k => T_getstatic (q := ("PasswordGate$Curve", "E", "[J", .ref 9)) d_Cu_code_231 (List.mem_of_getElem? (i := 9) rfl) gs_Cu_134 (show 9 < K0 by decide) k) ?_
    refine S_static (as := [.ref 99, .ref 94, .ref 9]) (rest := []) d_Cu_code_234 rfl (jw_Fi_multiply.jo (by decide)) lm_Cu_74 jt_Fi_multiply rfl (Nat.le_of_ble_eq_true rfl) (by decide) (by decide) (c_Fi_multiply G v 99 (by decide) a99 94 a94 9 a9) (fun r v' hq => ?_)
    rw [hq.1, hq.2]
    clear hq r v'
    show ST G mi_Cu_code 237 [(0, .ref 77), (1, .ref p), (2, .ref b)] [] v 0 0 _
    refine ST.lift (fun _ _ k => T_goto (tgt := 273) d_Cu_code_237 rfl k) ?_
    exact J273_4 
set_option maxRecDepth 100000 in
set_option maxHeartbeats 4000000 in
theorem c_Cu_solve (G : GX) (v : Nat → Int32) (o ox oy oz ot : Nat) (p_o : isPt o ox oy oz ot) : CS G mi_Cu_solve [.ref 77, .ref o] v (fun r v' => ∃ z : Nat, z ≤ 1 ∧ r = some (.int (nI z)) ∧ v' = v) := by
  refine CS.of (by decide) (Nat.le_of_ble_eq_true rfl) ?_
  generalize hQe : (fun (r : Option Value) (v' : Nat → Int32) => ∃ z : Nat, z ≤ 1 ∧ r = some (.int (nI z)) ∧ v' = v) = Q
  have hQ : ∀ z : Nat, z ≤ 1 → Q (some (.int (nI z))) v := by rw [← hQe]; exact fun z hz => ⟨z, hz, rfl, rfl⟩
  clear hQe
  show ST G mi_Cu_solve 0 [(0, .ref 77), (1, .ref o)] [] v 0 0 Q
  refine ST.lift (fun _ _ k => T_aload_n (v := .ref 77) d_Cu_solve_0 rfl (Or.inr ⟨_, rfl⟩) k) ?_
  refine S_getfield d_Cu_solve_1 fg_Cu_36 (w77 _) rfl ?_
  refine ST.lift (fun _ _ k => T_aload_n (v := .ref 77) d_Cu_solve_4 rfl (Or.inr ⟨_, rfl⟩) k) ?_
  refine S_getfield d_Cu_solve_5 fg_Cu_61 (w77 _) rfl ?_
  refine ST.lift (fun _ _ k => T_iconst (v := nI 1) d_Cu_solve_8 (by decide) k) ?_
  refine S_static (as := [.ref 94, .ref 102, .int (nI 1)]) (rest := []) d_Cu_solve_9 rfl (jw_Fi_square.jo (by decide)) lm_Cu_89 jt_Fi_square rfl (Nat.le_of_ble_eq_true rfl) (by decide) (by decide) (c_Fi_square G v 94 (by decide) a94 102 a102 1 (by omega)) (fun r v' hq => ?_)
  rw [hq.1, hq.2]
  clear hq r v'
  show ST G mi_Cu_solve 12 [(0, .ref 77), (1, .ref o)] [] v 0 0 _
  refine ST.lift (fun _ _ k => T_aload_n (v := .ref 77) d_Cu_solve_12 rfl (Or.inr ⟨_, rfl⟩) k) ?_
  refine S_getfield d_Cu_solve_13 fg_Cu_40 (w77 _) rfl ?_
  refine ST.lift (fun _ _ k => T_getstatic (q := ("PasswordGate$Field", "ONE", "[J", .ref 3)) d_Cu_solve_16 (List.mem_of_getElem? (i := 3) rfl) gs_Cu_103 (show 3 < K0 by decide) k) ?_
  refine ST.lift (fun _ _ k => T_aload_n (v := .ref 77) d_Cu_solve_19 rfl (Or.inr ⟨_, rfl⟩) k) ?_
  refine S_getfield d_Cu_solve_20 fg_Cu_36 (w77 _) rfl ?_
  refine S_static (as := [.ref 95, .ref 3, .ref 94]) (rest := []) d_Cu_solve_23 rfl (jw_Fi_add.jo (by decide)) lm_Cu_77 jt_Fi_add rfl (Nat.le_of_ble_eq_true rfl) (by decide) (by decide) (c_Fi_add G v 95 (by decide) a95 3 a3 94 a94) (fun r v' hq => ?_)
  rw [hq.1, hq.2]
  clear hq r v'
  show ST G mi_Cu_solve 26 [(0, .ref 77), (1, .ref o)] [] v 0 0 _
  refine ST.lift (fun _ _ k => T_aload_n (v := .ref 77) d_Cu_solve_26 rfl (Or.inr ⟨_, rfl⟩) k) ?_
  refine S_getfield d_Cu_solve_27 fg_Cu_36 (w77 _) rfl ?_
  refine ST.lift (fun _ _ k => T_getstatic (q := ("PasswordGate$Field", "ONE", "[J", .ref 3)) d_Cu_solve_30 (List.mem_of_getElem? (i := 3) rfl) gs_Cu_103 (show 3 < K0 by decide) k) ?_
  refine ST.lift (fun _ _ k => T_aload_n (v := .ref 77) d_Cu_solve_33 rfl (Or.inr ⟨_, rfl⟩) k) ?_
  refine S_getfield d_Cu_solve_34 fg_Cu_36 (w77 _) rfl ?_
  refine S_static (as := [.ref 94, .ref 3, .ref 94]) (rest := []) d_Cu_solve_37 rfl (jw_Fi_subtract.jo (by decide)) lm_Cu_70 jt_Fi_subtract rfl (Nat.le_of_ble_eq_true rfl) (by decide) (by decide) (c_Fi_subtract G v 94 (by decide) a94 3 a3 94 a94) (fun r v' hq => ?_)
  rw [hq.1, hq.2]
  clear hq r v'
  show ST G mi_Cu_solve 40 [(0, .ref 77), (1, .ref o)] [] v 0 0 _
  refine ST.lift (fun _ _ k => T_aload_n (v := .ref 77) d_Cu_solve_40 rfl (Or.inr ⟨_, rfl⟩) k) ?_
  refine S_getfield d_Cu_solve_41 fg_Cu_43 (w77 _) rfl ?_
  refine ST.lift (fun _ _ k => T_aload_n (v := .ref 77) d_Cu_solve_44 rfl (Or.inr ⟨_, rfl⟩) k) ?_
  refine S_getfield d_Cu_solve_45 fg_Cu_40 (w77 _) rfl ?_
  refine ST.lift (fun _ _ k => T_iconst (v := nI 1) d_Cu_solve_48 (by decide) k) ?_
  refine S_static (as := [.ref 96, .ref 95, .int (nI 1)]) (rest := []) d_Cu_solve_49 rfl (jw_Fi_square.jo (by decide)) lm_Cu_89 jt_Fi_square rfl (Nat.le_of_ble_eq_true rfl) (by decide) (by decide) (c_Fi_square G v 96 (by decide) a96 95 a95 1 (by omega)) (fun r v' hq => ?_)
  rw [hq.1, hq.2]
  clear hq r v'
  show ST G mi_Cu_solve 52 [(0, .ref 77), (1, .ref o)] [] v 0 0 _
  refine ST.lift (fun _ _ k => T_aload_n (v := .ref 77) d_Cu_solve_52 rfl (Or.inr ⟨_, rfl⟩) k) ?_
  refine S_getfield d_Cu_solve_53 fg_Cu_49 (w77 _) rfl ?_
  refine ST.lift (fun _ _ k => T_aload_n (v := .ref 77) d_Cu_solve_56 rfl (Or.inr ⟨_, rfl⟩) k) ?_
  refine S_getfield d_Cu_solve_57 fg_Cu_36 (w77 _) rfl ?_
  refine ST.lift (fun _ _ k => T_iconst (v := nI 1) d_Cu_solve_60 (by decide) k) ?_
  refine S_static (as := [.ref 98, .ref 94, .int (nI 1)]) (rest := []) d_Cu_solve_61 rfl (jw_Fi_square.jo (by decide)) lm_Cu_89 jt_Fi_square rfl (Nat.le_of_ble_eq_true rfl) (by decide) (by decide) (c_Fi_square G v 98 (by decide) a98 94 a94 1 (by omega)) (fun r v' hq => ?_)
  rw [hq.1, hq.2]
  clear hq r v'
  show ST G mi_Cu_solve 64 [(0, .ref 77), (1, .ref o)] [] v 0 0 _
  refine ST.lift (fun _ _ k => T_aload_n (v := .ref 77) d_Cu_solve_64 rfl (Or.inr ⟨_, rfl⟩) k) ?_
  refine S_getfield d_Cu_solve_65 fg_Cu_49 (w77 _) rfl ?_
  refine ST.lift (fun _ _ k => T_aload_n (v := .ref 77) d_Cu_solve_68 rfl (Or.inr ⟨_, rfl⟩) k) ?_
  refine S_getfield d_Cu_solve_69 fg_Cu_49 (w77 _) rfl ?_
  refine ST.lift (fun _ _ k => T_getstatic (q := ("PasswordGate$Curve", "D", "[J", .ref 5)) d_Cu_solve_72 (List.mem_of_getElem? (i := 5) rfl) gs_Cu_161 (show 5 < K0 by decide) k) ?_
  refine S_static (as := [.ref 98, .ref 98, .ref 5]) (rest := []) d_Cu_solve_75 rfl (jw_Fi_multiply.jo (by decide)) lm_Cu_74 jt_Fi_multiply rfl (Nat.le_of_ble_eq_true rfl) (by decide) (by decide) (c_Fi_multiply G v 98 (by decide) a98 98 a98 5 a5) (fun r v' hq => ?_)
  rw [hq.1, hq.2]
  clear hq r v'
  show ST G mi_Cu_solve 78 [(0, .ref 77), (1, .ref o)] [] v 0 0 _
  refine ST.lift (fun _ _ k => T_aload_n (v := .ref 77) d_Cu_solve_78 rfl (Or.inr ⟨_, rfl⟩) k) ?_
  refine S_getfield d_Cu_solve_79 fg_Cu_49 (w77 _) rfl ?_
  refine ST.lift (fun _ _ k => T_aload_n (v := .ref 77) d_Cu_solve_82 rfl (Or.inr ⟨_, rfl⟩) k) ?_
  refine S_getfield d_Cu_solve_83 fg_Cu_49 (w77 _) rfl ?_
  refine ST.lift (fun _ _ k => T_aload_n (v := .ref 77) d_Cu_solve_86 rfl (Or.inr ⟨_, rfl⟩) k) ?_
  refine S_getfield d_Cu_solve_87 fg_Cu_43 (w77 _) rfl ?_
  refine S_static (as := [.ref 98, .ref 98, .ref 96]) (rest := []) d_Cu_solve_90 rfl (jw_Fi_add.jo (by decide)) lm_Cu_77 jt_Fi_add rfl (Nat.le_of_ble_eq_true rfl) (by decide) (by decide) (c_Fi_add G v 98 (by decide) a98 98 a98 96 a96) (fun r v' hq => ?_)
  rw [hq.1, hq.2]
  clear hq r v'
  show ST G mi_Cu_solve 93 [(0, .ref 77), (1, .ref o)] [] v 0 0 _
  refine ST.lift (fun _ _ k => T_aload_n (v := .ref 77) d_Cu_solve_93 rfl (Or.inr ⟨_, rfl⟩) k) ?_
  refine S_getfield d_Cu_solve_94 fg_Cu_49 (w77 _) rfl ?_
  refine ST.lift (fun _ _ k => T_aload_n (v := .ref 77) d_Cu_solve_97 rfl (Or.inr ⟨_, rfl⟩) k) ?_
  refine S_getfield d_Cu_solve_98 fg_Cu_49 (w77 _) rfl ?_
  refine S_static (as := [.ref 98, .ref 98]) (rest := []) d_Cu_solve_101 rfl (jw_Fi_negate.jo (by decide)) lm_Cu_139 jt_Fi_negate rfl (Nat.le_of_ble_eq_true rfl) (by decide) (by decide) (c_Fi_negate G v 98 (by decide) a98 98 a98) (fun r v' hq => ?_)
  rw [hq.1, hq.2]
  clear hq r v'
  show ST G mi_Cu_solve 104 [(0, .ref 77), (1, .ref o)] [] v 0 0 _
  refine ST.lift (fun _ _ k => T_aload_n (v := .ref 77) d_Cu_solve_104 rfl (Or.inr ⟨_, rfl⟩) k) ?_
  refine S_getfield d_Cu_solve_105 fg_Cu_43 (w77 _) rfl ?_
  refine ST.lift (fun _ _ k => T_aload_n (v := .ref 77) d_Cu_solve_108 rfl (Or.inr ⟨_, rfl⟩) k) ?_
  refine S_getfield d_Cu_solve_109 fg_Cu_43 (w77 _) rfl ?_
  refine ST.lift (fun _ _ k => T_aload_n (v := .ref 77) d_Cu_solve_112 rfl (Or.inr ⟨_, rfl⟩) k) ?_
  refine S_getfield d_Cu_solve_113 fg_Cu_49 (w77 _) rfl ?_
  refine S_static (as := [.ref 96, .ref 96, .ref 98]) (rest := []) d_Cu_solve_116 rfl (jw_Fi_multiply.jo (by decide)) lm_Cu_74 jt_Fi_multiply rfl (Nat.le_of_ble_eq_true rfl) (by decide) (by decide) (c_Fi_multiply G v 96 (by decide) a96 96 a96 98 a98) (fun r v' hq => ?_)
  rw [hq.1, hq.2]
  clear hq r v'
  show ST G mi_Cu_solve 119 [(0, .ref 77), (1, .ref o)] [] v 0 0 _
  refine ST.lift (fun _ _ k => T_aload_n (v := .ref 77) d_Cu_solve_119 rfl (Or.inr ⟨_, rfl⟩) k) ?_
  refine S_getfield d_Cu_solve_120 fg_Cu_10 (w77 _) rfl ?_
  refine ST.lift (fun _ _ k => T_aload_n (v := .ref 77) d_Cu_solve_123 rfl (Or.inr ⟨_, rfl⟩) k) ?_
  refine S_getfield d_Cu_solve_124 fg_Cu_58 (w77 _) rfl ?_
  refine ST.lift (fun _ _ k => T_getstatic (q := ("PasswordGate$Field", "ONE", "[J", .ref 3)) d_Cu_solve_127 (List.mem_of_getElem? (i := 3) rfl) gs_Cu_103 (show 3 < K0 by decide) k) ?_
  refine ST.lift (fun _ _ k => T_aload_n (v := .ref 77) d_Cu_solve_130 rfl (Or.inr ⟨_, rfl⟩) k) ?_
  refine S_getfield d_Cu_solve_131 fg_Cu_43 (w77 _) rfl ?_
  refine S_virtual (as := [.ref 101, .ref 3, .ref 96]) (rest := []) (b := 78) d_Cu_solve_134 rfl (jw_Fi_root.jo (by decide)) lm_Cu_123 ji_Fi_root js_Fi_root (w78 _) rfl rfl rfl (Nat.le_of_ble_eq_true rfl) (by decide) (by decide) (c_Fi_root G v 101 (by decide) a101 3 a3 96 a96) (fun r v' hq => ?_)
  obtain ⟨z1, hz1, hr, hv⟩ := hq
  rw [hr, hv]
  clear hr hv r v'
  show ST G mi_Cu_solve 137 [(0, .ref 77), (1, .ref o)] [.int (nI z1)] v 0 0 _
  refine ST.lift (fun _ _ k => T_istore_n (L' := [(2, .int (nI z1)), (0, .ref 77), (1, .ref o)]) d_Cu_solve_137 (by decide) rfl k) ?_
  refine ST.lift (fun _ _ k => T_aload_n (v := .ref 77) d_Cu_solve_138 rfl (Or.inr ⟨_, rfl⟩) k) ?_
  refine S_getfield d_Cu_solve_139 fg_Cu_46 (w77 _) rfl ?_
  refine ST.lift (fun _ _ k => T_aload_n (v := .ref 77) d_Cu_solve_142 rfl (Or.inr ⟨_, rfl⟩) k) ?_
  refine S_getfield d_Cu_solve_143 fg_Cu_61 (w77 _) rfl ?_
  refine ST.lift (fun _ _ k => T_aload_n (v := .ref 77) d_Cu_solve_146 rfl (Or.inr ⟨_, rfl⟩) k) ?_
  refine S_getfield d_Cu_solve_147 fg_Cu_58 (w77 _) rfl ?_
  refine S_static (as := [.ref 97, .ref 102, .ref 101]) (rest := []) d_Cu_solve_150 rfl (jw_Fi_multiply.jo (by decide)) lm_Cu_74 jt_Fi_multiply rfl (Nat.le_of_ble_eq_true rfl) (by decide) (by decide) (c_Fi_multiply G v 97 (by decide) a97 102 a102 101 a101) (fun r v' hq => ?_)
  rw [hq.1, hq.2]
  clear hq r v'
  show ST G mi_Cu_solve 153 [(2, .int (nI z1)), (0, .ref 77), (1, .ref o)] [] v 0 0 _
  refine ST.lift (fun _ _ k => T_aload_n (v := .ref 77) d_Cu_solve_153 rfl (Or.inr ⟨_, rfl⟩) k) ?_
  refine S_getfield d_Cu_solve_154 fg_Cu_46 (w77 _) rfl ?_
  refine ST.lift (fun _ _ k => T_aload_n (v := .ref 77) d_Cu_solve_157 rfl (Or.inr ⟨_, rfl⟩) k) ?_
  refine S_getfield d_Cu_solve_158 fg_Cu_46 (w77 _) rfl ?_
  refine ST.lift (fun _ _ k => T_aload_n (v := .ref 77) d_Cu_solve_161 rfl (Or.inr ⟨_, rfl⟩) k) ?_
  refine S_getfield d_Cu_solve_162 fg_Cu_40 (w77 _) rfl ?_
  refine S_static (as := [.ref 97, .ref 97, .ref 95]) (rest := []) d_Cu_solve_165 rfl (jw_Fi_multiply.jo (by decide)) lm_Cu_74 jt_Fi_multiply rfl (Nat.le_of_ble_eq_true rfl) (by decide) (by decide) (c_Fi_multiply G v 97 (by decide) a97 97 a97 95 a95) (fun r v' hq => ?_)
  rw [hq.1, hq.2]
  clear hq r v'
  show ST G mi_Cu_solve 168 [(2, .int (nI z1)), (0, .ref 77), (1, .ref o)] [] v 0 0 _
  refine ST.lift (fun _ _ k => T_aload_n (v := .ref 77) d_Cu_solve_168 rfl (Or.inr ⟨_, rfl⟩) k) ?_
  refine S_getfield d_Cu_solve_169 fg_Cu_46 (w77 _) rfl ?_
  refine ST.lift (fun _ _ k => T_aload_n (v := .ref 77) d_Cu_solve_172 rfl (Or.inr ⟨_, rfl⟩) k) ?_
  refine S_getfield d_Cu_solve_173 fg_Cu_46 (w77 _) rfl ?_
  refine ST.lift (fun _ _ k => T_aload_n (v := .ref 77) d_Cu_solve_176 rfl (Or.inr ⟨_, rfl⟩) k) ?_
  refine S_getfield d_Cu_solve_177 fg_Cu_46 (w77 _) rfl ?_
  refine S_static (as := [.ref 97, .ref 97, .ref 97]) (rest := []) d_Cu_solve_180 rfl (jw_Fi_add.jo (by decide)) lm_Cu_77 jt_Fi_add rfl (Nat.le_of_ble_eq_true rfl) (by decide) (by decide) (c_Fi_add G v 97 (by decide) a97 97 a97 97 a97) (fun r v' hq => ?_)
  rw [hq.1, hq.2]
  clear hq r v'
  show ST G mi_Cu_solve 183 [(2, .int (nI z1)), (0, .ref 77), (1, .ref o)] [] v 0 0 _
  refine ST.lift (fun _ _ k => T_aload_n (v := .ref 77) d_Cu_solve_183 rfl (Or.inr ⟨_, rfl⟩) k) ?_
  refine S_getfield d_Cu_solve_184 fg_Cu_10 (w77 _) rfl ?_
  refine ST.lift (fun _ _ k => T_aload_n (v := .ref 77) d_Cu_solve_187 rfl (Or.inr ⟨_, rfl⟩) k) ?_
  refine S_getfield d_Cu_solve_188 fg_Cu_46 (w77 _) rfl ?_
  refine S_virtual (as := [.ref 97]) (rest := []) (b := 78) d_Cu_solve_191 rfl (jw_Fi_isOdd.jo (by decide)) lm_Cu_127 ji_Fi_isOdd js_Fi_isOdd (w78 _) rfl rfl rfl (Nat.le_of_ble_eq_true rfl) (by decide) (by decide) (c_Fi_isOdd G v 97 a97) (fun r v' hq => ?_)
  obtain ⟨z2, hz2, hr, hv⟩ := hq
  rw [hr, hv]
  clear hr hv r v'
  show ST G mi_Cu_solve 194 [(2, .int (nI z1)), (0, .ref 77), (1, .ref o)] [.int (nI z2)] v 0 0 _
  have J208_4 : ST G mi_Cu_solve 208 [(2, .int (nI z1)), (0, .ref 77), (1, .ref o)] [] v 0 0 Q := by
    refine ST.lift (fun _ _ k => T_aload_n (v := .ref 77) d_Cu_solve_208 rfl (Or.inr ⟨_, rfl⟩) k) ?_
    refine S_getfield d_Cu_solve_209 fg_Cu_52 (w77 _) rfl ?_
    refine ST.lift (fun _ _ k => T_aload_n (v := .ref 77) d_Cu_solve_212 rfl (Or.inr ⟨_, rfl⟩) k) ?_
    refine S_getfield d_Cu_solve_213 fg_Cu_58 (w77 _) rfl ?_
    refine ST.lift (fun _ _ k => T_iconst (v := nI 1) d_Cu_solve_216 (by decide) k) ?_
    refine S_static (as := [.ref 99, .ref 101, .int (nI 1)]) (rest := []) d_Cu_solve_217 rfl (jw_Fi_square.jo (by decide)) lm_Cu_89 jt_Fi_square rfl (Nat.le_of_ble_eq_true rfl) (by decide) (by decide) (c_Fi_square G v 99 (by decide) a99 101 a101 1 (by omega)) (fun r v' hq => ?_)
    rw [hq.1, hq.2]
    clear hq r v'
    show ST G mi_Cu_solve 220 [(2, .int (nI z1)), (0, .ref 77), (1, .ref o)] [] v 0 0 _
    refine ST.lift (fun _ _ k => T_aload_n (v := .ref 77) d_Cu_solve_220 rfl (Or.inr ⟨_, rfl⟩) k) ?_
    refine S_getfield d_Cu_solve_221 fg_Cu_52 (w77 _) rfl ?_
    refine ST.lift (fun _ _ k => T_aload_n (v := .ref 77) d_Cu_solve_224 rfl (Or.inr ⟨_, rfl⟩) k) ?_
    refine S_getfield d_Cu_solve_225 fg_Cu_52 (w77 _) rfl ?_
    refine ST.lift (fun _ _ k => T_aload_n (v := .ref 77) d_Cu_solve_228 rfl (Or.inr ⟨_, rfl⟩) k) ?_
    refine S_getfield d_Cu_solve_229 fg_Cu_36 (w77 _) rfl ?_
    refine S_static (as := [.ref 99, .ref 99, .ref 94]) (rest := []) d_Cu_solve_232 rfl (jw_Fi_multiply.jo (by decide)) lm_Cu_74 jt_Fi_multiply rfl (Nat.le_of_ble_eq_true rfl) (by decide) (by decide) (c_Fi_multiply G v 99 (by decide) a99 99 a99 94 a94) (fun r v' hq => ?_)
    rw [hq.1, hq.2]
    clear hq r v'
    show ST G mi_Cu_solve 235 [(2, .int (nI z1)), (0, .ref 77), (1, .ref o)] [] v 0 0 _
    refine ST.lift (fun _ _ k => T_aload_n (v := .ref 77) d_Cu_solve_235 rfl (Or.inr ⟨_, rfl⟩) k) ?_
    refine S_getfield d_Cu_solve_236 fg_Cu_52 (w77 _) rfl ?_
    refine ST.lift (fun _ _ k => T_aload_n (v := .ref 77) d_Cu_solve_239 rfl (Or.inr ⟨_, rfl⟩) k) ?_
    refine S_getfield d_Cu_solve_240 fg_Cu_52 (w77 _) rfl ?_
    refine ST.lift (fun _ _ k => T_aload_n (v := .ref 77) d_Cu_solve_243 rfl (Or.inr ⟨_, rfl⟩) k) ?_
    refine S_getfield d_Cu_solve_244 fg_Cu_40 (w77 _) rfl ?_
    refine S_static (as := [.ref 99, .ref 99, .ref 95]) (rest := []) d_Cu_solve_247 rfl (jw_Fi_multiply.jo (by decide)) lm_Cu_74 jt_Fi_multiply rfl (Nat.le_of_ble_eq_true rfl) (by decide) (by decide) (c_Fi_multiply G v 99 (by decide) a99 99 a99 95 a95) (fun r v' hq => ?_)
    rw [hq.1, hq.2]
    clear hq r v'
    show ST G mi_Cu_solve 250 [(2, .int (nI z1)), (0, .ref 77), (1, .ref o)] [] v 0 0 _
    refine ST.lift (fun _ _ k => T_aload_n (v := .ref 77) d_Cu_solve_250 rfl (Or.inr ⟨_, rfl⟩) k) ?_
    refine S_getfield d_Cu_solve_251 fg_Cu_52 (w77 _) rfl ?_
    refine ST.lift (fun _ _ k => T_aload_n (v := .ref 77) d_Cu_solve_254 rfl (Or.inr ⟨_, rfl⟩) k) ?_
    refine S_getfield d_Cu_solve_255 fg_Cu_52 (w77 _) rfl ?_
    refine ST.lift (fun _ _ k => T_aload_n (v := .ref 77) d_Cu_solve_258 rfl (Or.inr ⟨_, rfl⟩) k) ?_
    refine S_getfield d_Cu_solve_259 fg_Cu_49 (w77 _) rfl ?_
    refine S_static (as := [.ref 99, .ref 99, .ref 98]) (rest := []) d_Cu_solve_262 rfl (jw_Fi_multiply.jo (by decide)) lm_Cu_74 jt_Fi_multiply rfl (Nat.le_of_ble_eq_true rfl) (by decide) (by decide) (c_Fi_multiply G v 99 (by decide) a99 99 a99 98 a98) (fun r v' hq => ?_)
    rw [hq.1, hq.2]
    clear hq r v'
    show ST G mi_Cu_solve 265 [(2, .int (nI z1)), (0, .ref 77), (1, .ref o)] [] v 0 0 _
    refine ST.lift (fun _ _ k => T_aload_n (v := .ref 77) d_Cu_solve_265 rfl (Or.inr ⟨_, rfl⟩) k) ?_
    refine S_getfield d_Cu_solve_266 fg_Cu_55 (w77 _) rfl ?_
    refine ST.lift (fun _ _ k => T_aload_n (v := .ref 77) d_Cu_solve_269 rfl (Or.inr ⟨_, rfl⟩) k) ?_
    refine S_getfield d_Cu_solve_270 fg_Cu_46 (w77 _) rfl ?_
    refine ST.lift (fun _ _ k => T_aload_n (v := .ref 77) d_Cu_solve_273 rfl (Or.inr ⟨_, rfl⟩) k) ?_
    refine S_getfield d_Cu_solve_274 fg_Cu_52 (w77 _) rfl ?_
    refine S_static (as := [.ref 100, .ref 97, .ref 99]) (rest := []) d_Cu_solve_277 rfl (jw_Fi_multiply.jo (by decide)) lm_Cu_74 jt_Fi_multiply rfl (Nat.le_of_ble_eq_true rfl) (by decide) (by decide) (c_Fi_multiply G v 100 (by decide) a100 97 a97 99 a99) (fun r v' hq => ?_)
    rw [hq.1, hq.2]
    clear hq r v'
    show ST G mi_Cu_solve 280 [(2, .int (nI z1)), (0, .ref 77), (1, .ref o)] [] v 0 0 _
    refine ST.lift (fun _ _ k => T_iload_n d_Cu_solve_280 rfl k) ?_
    refine S_if_eqN d_Cu_solve_281 rfl (by omega) (fun c5 => ?_) (fun c5 => ?_)
    · refine ST.lift (fun _ _ k => T_iconst (v := nI 0) d_Cu_solve_312 (by decide) k) ?_
      exact S_ret d_Cu_solve_313 rfl (by decide) (by decide) (by decide) (hQ 0 (by decide))
    · refine ST.lift (fun _ _ k => T_aload_n (v := .ref 77) d_Cu_solve_284 rfl (Or.inr ⟨_, rfl⟩) k) ?_
      refine S_getfield d_Cu_solve_285 fg_Cu_10 (w77 _) rfl ?_
      refine ST.lift (fun _ _ k => T_aload_n (v := .ref 77) d_Cu_solve_288 rfl (Or.inr ⟨_, rfl⟩) k) ?_
      refine S_getfield d_Cu_solve_289 fg_Cu_55 (w77 _) rfl ?_
      refine S_virtual (as := [.ref 100]) (rest := []) (b := 78) d_Cu_solve_292 rfl (jw_Fi_isOdd.jo (by decide)) lm_Cu_127 ji_Fi_isOdd js_Fi_isOdd (w78 _) rfl rfl rfl (Nat.le_of_ble_eq_true rfl) (by decide) (by decide) (c_Fi_isOdd G v 100 a100) (fun r v' hq => ?_)
      obtain ⟨z6, hz6, hr, hv⟩ := hq
      rw [hr, hv]
      clear hr hv r v'
      show ST G mi_Cu_solve 295 [(2, .int (nI z1)), (0, .ref 77), (1, .ref o)] [.int (nI z6)] v 0 0 _
      refine S_if_neN d_Cu_solve_295 rfl (by omega) (fun c7 => ?_) (fun c7 => ?_)
      · refine ST.lift (fun _ _ k => T_iconst (v := nI 0) d_Cu_solve_312 (by decide) k) ?_
        exact S_ret d_Cu_solve_313 rfl (by decide) (by decide) (by decide) (hQ 0 (by decide))
      · refine ST.lift (fun _ _ k => T_aload_n (v := .ref 77) d_Cu_solve_298 rfl (Or.inr ⟨_, rfl⟩) k) ?_
        refine S_getfield d_Cu_solve_299 fg_Cu_10 (w77 _) rfl ?_
        refine ST.lift (fun _ _ k => T_aload_n (v := .ref 77) d_Cu_solve_302 rfl (Or.inr ⟨_, rfl⟩) k) ?_
        refine S_getfield d_Cu_solve_303 fg_Cu_52 (w77 _) rfl ?_
        refine S_virtual (as := [.ref 99]) (rest := []) (b := 78) d_Cu_solve_306 rfl (jw_Fi_isZero.jo (by decide)) lm_Cu_164 ji_Fi_isZero js_Fi_isZero (w78 _) rfl rfl rfl (Nat.le_of_ble_eq_true rfl) (by decide) (by decide) (c_Fi_isZero G v 99 a99) (fun r v' hq => ?_)
        obtain ⟨z8, hz8, hr, hv⟩ := hq
        rw [hr, hv]
        clear hr hv r v'
        show ST G mi_Cu_solve 309 [(2, .int (nI z1)), (0, .ref 77), (1, .ref o)] [.int (nI z8)] v 0 0 _
        refine S_if_eqN d_Cu_solve_309 rfl (by omega) (fun c9 => ?_) (fun c9 => ?_)
        · refine ST.lift (fun _ _ k => T_aload_n (v := .ref o) d_Cu_solve_314 rfl (Or.inr ⟨_, rfl⟩) k) ?_
          refine ST.lift (fun _ _ k => T_aload_n (v := .ref 77) d_Cu_solve_315 rfl (Or.inr ⟨_, rfl⟩) k) ?_
          refine S_getfield d_Cu_solve_316 fg_Cu_46 (w77 _) rfl ?_
          refine ST.lift (fun _ _ k => T_aload_n (v := .ref 77) d_Cu_solve_319 rfl (Or.inr ⟨_, rfl⟩) k) ?_
          refine S_getfield d_Cu_solve_320 fg_Cu_52 (w77 _) rfl ?_
          refine S_virtual (as := [.ref 97, .ref 99]) (rest := []) (b := o) d_Cu_solve_323 rfl (jw_Po_setPlain.jo (by decide)) lm_Cu_106 ji_Po_setPlain js_Po_setPlain (p_o.1 _) rfl rfl rfl (Nat.le_of_ble_eq_true rfl) (by decide) (by decide) (c_Po_setPlain G v o ox oy oz ot p_o 97 a97 99 a99) (fun r v' hq => ?_)
          rw [hq.1, hq.2]
          clear hq r v'
          show ST G mi_Cu_solve 326 [(2, .int (nI z1)), (0, .ref 77), (1, .ref o)] [] v 0 0 _
          refine ST.lift (fun _ _ k => T_iconst (v := nI 1) d_Cu_solve_326 (by decide) k) ?_
          exact S_ret d_Cu_solve_327 rfl (by decide) (by decide) (by decide) (hQ 1 (by decide))
        · refine ST.lift (fun _ _ k => T_iconst (v := nI 0) d_Cu_solve_312 (by decide) k) ?_
          exact S_ret d_Cu_solve_313 rfl (by decide) (by decide) (by decide) (hQ 0 (by decide))
  refine S_if_eqN d_Cu_solve_194 rfl (by omega) (fun c3 => ?_) (fun c3 => ?_)
  · exact J208_4 
  · refine ST.lift (fun _ _ k => T_aload_n (v := .ref 77) d_Cu_solve_197 rfl (Or.inr ⟨_, rfl⟩) k) ?_
    refine S_getfield d_Cu_solve_198 fg_Cu_46 (w77 _) rfl ?_
    refine ST.lift (fun _ _ k => T_aload_n (v := .ref 77) d_Cu_solve_201 rfl (Or.inr ⟨_, rfl⟩) k) ?_
    refine S_getfield d_Cu_solve_202 fg_Cu_46 (w77 _) rfl ?_
    refine S_static (as := [.ref 97, .ref 97]) (rest := []) d_Cu_solve_205 rfl (jw_Fi_negate.jo (by decide)) lm_Cu_139 jt_Fi_negate rfl (Nat.le_of_ble_eq_true rfl) (by decide) (by decide) (c_Fi_negate G v 97 (by decide) a97 97 a97) (fun r v' hq => ?_)
    rw [hq.1, hq.2]
    clear hq r v'
    show ST G mi_Cu_solve 208 [(2, .int (nI z1)), (0, .ref 77), (1, .ref o)] [] v 0 0 _
    exact J208_4 
set_option maxRecDepth 100000 in
set_option maxHeartbeats 4000000 in
theorem c_Cu_decode (G : GX) (v : Nat → Int32) (src m : Nat) (w_src : K0 ≤ src) (a_src : aB src m) (l_src : m ≤ 2000) (pos : Nat) (b_pos : pos ≤ 1000) (o ox oy oz ot : Nat) (p_o : isPt o ox oy oz ot) (hv : okv v) : CS G mi_Cu_decode [.ref 77, .ref src, .int (nI pos), .ref o] v (fun r v' => ∃ z : Nat, z ≤ 1 ∧ r = some (.int (nI z)) ∧ okv v' ∧ mdf [4] v v') := by
  refine CS.of (by decide) (Nat.le_of_ble_eq_true rfl) ?_
  generalize hQe : (fun (r : Option Value) (v' : Nat → Int32) => ∃ z : Nat, z ≤ 1 ∧ r = some (.int (nI z)) ∧ okv v' ∧ mdf [4] v v') = Q
  have hQ : ∀ (z : Nat) (u : Nat → Int32), z ≤ 1 → okv u → mdf [4] v u → Q (some (.int (nI z))) u := by rw [← hQe]; exact fun z u hz h1 h2 => ⟨z, hz, rfl, h1, h2⟩
  clear hQe
  have hm : mdf [4] v v := mdf.rf
  show ST G mi_Cu_decode 0 [(0, .ref 77), (1, .ref src), (2, .int (nI pos)), (3, .ref o)] [] v 0 0 Q
  refine ST.lift (fun _ _ k => T_iload_n d_Cu_decode_0 rfl k) ?_
  refine S_if_ltN d_Cu_decode_1 rfl (by omega) (fun c => by first | exact absurd c (by omega) | exact c.elim | exact absurd c (by decide) | exact absurd (by assumption) c | exact absurd c (by assumption)) (fun _ => ?_)
  refine ST.lift (fun _ _ k => T_iload_n d_Cu_decode_4 rfl k) ?_
  refine ST.lift (fun _ _ k => T_bipush (v := nI 32) d_Cu_decode_5 (by decide) k) ?_
  refine S_iaddN d_Cu_decode_7 ?_
  refine ST.lift (fun _ _ k => T_aload_n (v := .ref src) d_Cu_decode_8 rfl (Or.inr ⟨_, rfl⟩) k) ?_
  refine S_alenB d_Cu_decode_9 a_src ?_
  refine S_icmp_leN d_Cu_decode_10 rfl (by omega) (by omega) (fun c1 => ?_) (fun c1 => ?_)
  · refine ST.lift (fun _ _ k => T_aload_n (v := .ref 77) d_Cu_decode_15 rfl (Or.inr ⟨_, rfl⟩) k) ?_
    refine S_getfield d_Cu_decode_16 fg_Cu_61 (w77 _) rfl ?_
    refine ST.lift (fun _ _ k => T_aload_n (v := .ref src) d_Cu_decode_19 rfl (Or.inr ⟨_, rfl⟩) k) ?_
    refine ST.lift (fun _ _ k => T_iload_n d_Cu_decode_20 rfl k) ?_
    refine S_static (as := [.ref 102, .ref src, .int (nI pos)]) (rest := []) d_Cu_decode_21 rfl (jw_Fi_load.jo (by decide)) lm_Cu_146 jt_Fi_load rfl (Nat.le_of_ble_eq_true rfl) (by decide) (by decide) (c_Fi_load G v 102 (by decide) a102 src m w_src a_src (by omega) pos (by omega)) (fun r v' hq => ?_)
    rw [hq.1, hq.2]
    clear hq r v'
    show ST G mi_Cu_decode 24 [(0, .ref 77), (1, .ref src), (2, .int (nI pos)), (3, .ref o)] [] v 0 0 _
    refine ST.lift (fun _ _ k => T_aload_n (v := .ref 77) d_Cu_decode_24 rfl (Or.inr ⟨_, rfl⟩) k) ?_
    refine S_getfield d_Cu_decode_25 fg_Cu_32 (w77 _) rfl ?_
    refine S_virtual (as := []) (rest := []) (b := 92) d_Cu_decode_28 rfl (jw_By_clear.jo (by decide)) lm_Cu_150 ji_By_clear js_By_clear (w92 _) rfl rfl rfl (Nat.le_of_ble_eq_true rfl) (by decide) (by decide) (c_By_clear G v 92 93 32 4 ⟨w92, a93, by decide, u92_1, by decide, by decide⟩ hv) (fun r v' hq => ?_)
    rw [hq.1, hq.2]
    clear hq r v'
    show ST G mi_Cu_decode 31 [(0, .ref 77), (1, .ref src), (2, .int (nI pos)), (3, .ref o)] [] (va_up v 4 (nI 0)) 0 0 _
    have hv3 := hv.up (j := 4) (c := 32) (k := 0) (by decide) (by omega)
    have hm4 := hm.go (mdf.up (v := v) (j := 4) (x := (nI 0))) (by intro i hi; simp only [List.mem_cons, List.not_mem_nil, or_false] at hi ⊢ <;> omega)
    have e_u2 : (va_up v 4 (nI 0)) 4 = (nI 0) := by simp [va_up]
    generalize va_up v 4 (nI 0) = u2 at hv3 hm4 e_u2 ⊢
    refine ST.lift (fun _ _ k => T_aload_n (v := .ref 77) d_Cu_decode_31 rfl (Or.inr ⟨_, rfl⟩) k) ?_
    refine S_getfield d_Cu_decode_32 fg_Cu_10 (w77 _) rfl ?_
    refine ST.lift (fun _ _ k => T_aload_n (v := .ref 77) d_Cu_decode_35 rfl (Or.inr ⟨_, rfl⟩) k) ?_
    refine S_getfield d_Cu_decode_36 fg_Cu_61 (w77 _) rfl ?_
    refine ST.lift (fun _ _ k => T_aload_n (v := .ref 77) d_Cu_decode_39 rfl (Or.inr ⟨_, rfl⟩) k) ?_
    refine S_getfield d_Cu_decode_40 fg_Cu_32 (w77 _) rfl ?_
    refine S_virtual (as := [.ref 102, .ref 92]) (rest := []) (b := 78) d_Cu_decode_43 rfl (jw_Fi_save.jo (by decide)) lm_Cu_142 ji_Fi_save js_Fi_save (w78 _) rfl rfl rfl (Nat.le_of_ble_eq_true rfl) (by decide) (by decide) (c_Fi_save G u2 102 a102 92 93 32 4 ⟨w92, a93, by decide, u92_1, by decide, by decide⟩ hv3) (fun r u5 hq => ?_)
    obtain ⟨hr, hv6, hm7⟩ := hq
    rw [hr]
    clear hr r
    have hm8 := hm4.go hm7 (by intro i hi; simp only [List.mem_cons, List.not_mem_nil, or_false] at hi ⊢ <;> omega)
    show ST G mi_Cu_decode 46 [(0, .ref 77), (1, .ref src), (2, .int (nI pos)), (3, .ref o)] [] u5 0 0 _
    refine ST.lift (fun _ _ k => T_aload_n (v := .ref 77) d_Cu_decode_46 rfl (Or.inr ⟨_, rfl⟩) k) ?_
    refine S_getfield d_Cu_decode_47 fg_Cu_32 (w77 _) rfl ?_
    refine ST.lift (fun _ _ k => T_iconst (v := nI 0) d_Cu_decode_50 (by decide) k) ?_
    refine ST.lift (fun _ _ k => T_aload_n (v := .ref src) d_Cu_decode_51 rfl (Or.inr ⟨_, rfl⟩) k) ?_
    refine ST.lift (fun _ _ k => T_iload_n d_Cu_decode_52 rfl k) ?_
    refine S_virtual (as := [.int (nI 0), .ref src, .int (nI pos)]) (rest := []) (b := 92) d_Cu_decode_53 rfl (jw_By_endsLike.jo (by decide)) lm_Cu_153 ji_By_endsLike js_By_endsLike (w92 _) rfl rfl rfl (Nat.le_of_ble_eq_true rfl) (by decide) (by decide) (c_By_endsLike G u5 92 93 32 4 ⟨w92, a93, by decide, u92_1, by decide, by decide⟩ 0 (by omega) src m w_src a_src (by omega) pos (by omega) hv6) (fun r u9 hq => ?_)
    obtain ⟨z12, hz12, hr, hv10, hm11⟩ := hq
    rw [hr]
    clear hr r
    have hm13 := hm8.go hm11 (by intro i hi; simp only [List.mem_cons, List.not_mem_nil, or_false] at hi ⊢ <;> omega)
    show ST G mi_Cu_decode 56 [(0, .ref 77), (1, .ref src), (2, .int (nI pos)), (3, .ref o)] [.int (nI z12)] u9 0 0 _
    refine S_if_eqN d_Cu_decode_56 rfl (by omega) (fun c14 => ?_) (fun c14 => ?_)
    · refine ST.lift (fun _ _ k => T_iconst (v := nI 0) d_Cu_decode_85 (by decide) k) ?_
      exact S_ret d_Cu_decode_86 rfl (nar_z (by omega)) (by decide) (by decide) (hQ 0 _ (by omega) hv10 hm13)
    · refine ST.lift (fun _ _ k => T_aload_n (v := .ref 77) d_Cu_decode_59 rfl (Or.inr ⟨_, rfl⟩) k) ?_
      refine S_getfield d_Cu_decode_60 fg_Cu_10 (w77 _) rfl ?_
      refine ST.lift (fun _ _ k => T_aload_n (v := .ref 77) d_Cu_decode_63 rfl (Or.inr ⟨_, rfl⟩) k) ?_
      refine S_getfield d_Cu_decode_64 fg_Cu_61 (w77 _) rfl ?_
      refine S_virtual (as := [.ref 102]) (rest := []) (b := 78) d_Cu_decode_67 rfl (jw_Fi_isOdd.jo (by decide)) lm_Cu_127 ji_Fi_isOdd js_Fi_isOdd (w78 _) rfl rfl rfl (Nat.le_of_ble_eq_true rfl) (by decide) (by decide) (c_Fi_isOdd G u9 102 a102) (fun r v' hq => ?_)
      obtain ⟨z15, hz15, hr, hv⟩ := hq
      rw [hr, hv]
      clear hr hv r v'
      show ST G mi_Cu_decode 70 [(0, .ref 77), (1, .ref src), (2, .int (nI pos)), (3, .ref o)] [.int (nI z15)] u9 0 0 _
      refine S_if_neN d_Cu_decode_70 rfl (by omega) (fun c16 => ?_) (fun c16 => ?_)
      · refine ST.lift (fun _ _ k => T_iconst (v := nI 0) d_Cu_decode_85 (by decide) k) ?_
        exact S_ret d_Cu_decode_86 rfl (nar_z (by omega)) (by decide) (by decide) (hQ 0 _ (by omega) hv10 hm13)
      · refine ST.lift (fun _ _ k => T_aload_n (v := .ref 77) d_Cu_decode_73 rfl (Or.inr ⟨_, rfl⟩) k) ?_
        refine ST.lift (fun _ _ k => T_aload_n (v := .ref o) d_Cu_decode_74 rfl (Or.inr ⟨_, rfl⟩) k) ?_
        refine S_virtual (as := [.ref o]) (rest := []) (b := 77) d_Cu_decode_75 rfl (jw_Cu_solve.jo (by decide)) lm_Cu_157 ji_Cu_solve js_Cu_solve (w77 _) rfl rfl rfl (Nat.le_of_ble_eq_true rfl) (by decide) (by decide) (c_Cu_solve G u9 o ox oy oz ot p_o) (fun r v' hq => ?_)
        obtain ⟨z17, hz17, hr, hv⟩ := hq
        rw [hr, hv]
        clear hr hv r v'
        show ST G mi_Cu_decode 78 [(0, .ref 77), (1, .ref src), (2, .int (nI pos)), (3, .ref o)] [.int (nI z17)] u9 0 0 _
        refine S_if_eqN d_Cu_decode_78 rfl (by omega) (fun c18 => ?_) (fun c18 => ?_)
        · refine ST.lift (fun _ _ k => T_iconst (v := nI 0) d_Cu_decode_85 (by decide) k) ?_
          exact S_ret d_Cu_decode_86 rfl (nar_z (by omega)) (by decide) (by decide) (hQ 0 _ (by omega) hv10 hm13)
        · refine ST.lift (fun _ _ k => T_iconst (v := nI 1) d_Cu_decode_81 (by decide) k) ?_
          refine ST.lift (fun _ _ k => T_goto (tgt := 86) d_Cu_decode_82 rfl k) ?_
          exact S_ret d_Cu_decode_86 rfl (nar_z (by omega)) (by decide) (by decide) (hQ 1 _ (by omega) hv10 hm13)
  · refine ST.lift (fun _ _ k => T_iconst (v := nI 0) d_Cu_decode_13 (by decide) k) ?_
    exact S_ret d_Cu_decode_14 rfl (nar_z (by omega)) (by decide) (by decide) (hQ 0 _ (by omega) hv hm)
set_option maxRecDepth 100000 in
set_option maxHeartbeats 4000000 in
theorem c_Cu_mapHalf (G : GX) (v : Nat → Int32) (src m : Nat) (w_src : K0 ≤ src) (a_src : aB src m) (l_src : m ≤ 2000) (pos : Nat) (b_pos : pos + 32 ≤ m) (o ox oy oz ot : Nat) (p_o : isPt o ox oy oz ot) : CS G mi_Cu_mapHalf [.ref 77, .ref src, .int (nI pos), .ref o] v (fun r v' => r = none ∧ v' = v) := by
  refine CS.of (by decide) (Nat.le_of_ble_eq_true rfl) ?_
  generalize hQe : (fun (r : Option Value) (v' : Nat → Int32) => r = none ∧ v' = v) = Q
  have hQ : Q none v := by rw [← hQe]; exact ⟨rfl, rfl⟩
  clear hQe
  show ST G mi_Cu_mapHalf 0 [(0, .ref 77), (1, .ref src), (2, .int (nI pos)), (3, .ref o)] [] v 0 0 Q
  refine ST.lift (fun _ _ k => T_aload_n (v := .ref 77) d_Cu_mapHalf_0 rfl (Or.inr ⟨_, rfl⟩) k) ?_
  refine S_getfield d_Cu_mapHalf_1 fg_Cu_55 (w77 _) rfl ?_
  refine ST.lift (fun _ _ k => T_aload_n (v := .ref src) d_Cu_mapHalf_4 rfl (Or.inr ⟨_, rfl⟩) k) ?_
  refine ST.lift (fun _ _ k => T_iload_n d_Cu_mapHalf_5 rfl k) ?_
  refine S_static (as := [.ref 100, .ref src, .int (nI pos)]) (rest := []) d_Cu_mapHalf_6 rfl (jw_Fi_load.jo (by decide)) lm_Cu_146 jt_Fi_load rfl (Nat.le_of_ble_eq_true rfl) (by decide) (by decide) (c_Fi_load G v 100 (by decide) a100 src m w_src a_src (by omega) pos (by omega)) (fun r v' hq => ?_)
  rw [hq.1, hq.2]
  clear hq r v'
  show ST G mi_Cu_mapHalf 9 [(0, .ref 77), (1, .ref src), (2, .int (nI pos)), (3, .ref o)] [] v 0 0 _
  refine ST.lift (fun _ _ k => T_aload_n (v := .ref 77) d_Cu_mapHalf_9 rfl (Or.inr ⟨_, rfl⟩) k) ?_
  refine S_getfield d_Cu_mapHalf_10 fg_Cu_58 (w77 _) rfl ?_
  refine ST.lift (fun _ _ k => T_aload_n (v := .ref 77) d_Cu_mapHalf_13 rfl (Or.inr ⟨_, rfl⟩) k) ?_
  refine S_getfield d_Cu_mapHalf_14 fg_Cu_55 (w77 _) rfl ?_
  refine ST.lift (fun _ _ k => T_iconst (v := nI 1) d_Cu_mapHalf_17 (by decide) k) ?_
  refine S_static (as := [.ref 101, .ref 100, .int (nI 1)]) (rest := []) d_Cu_mapHalf_18 rfl (jw_Fi_square.jo (by decide)) lm_Cu_89 jt_Fi_square rfl (Nat.le_of_ble_eq_true rfl) (by decide) (by decide) (c_Fi_square G v 101 (by decide) a101 100 a100 1 (by omega)) (fun r v' hq => ?_)
  rw [hq.1, hq.2]
  clear hq r v'
  show ST G mi_Cu_mapHalf 21 [(0, .ref 77), (1, .ref src), (2, .int (nI pos)), (3, .ref o)] [] v 0 0 _
  refine ST.lift (fun _ _ k => T_aload_n (v := .ref 77) d_Cu_mapHalf_21 rfl (Or.inr ⟨_, rfl⟩) k) ?_
  refine S_getfield d_Cu_mapHalf_22 fg_Cu_58 (w77 _) rfl ?_
  refine ST.lift (fun _ _ k => T_aload_n (v := .ref 77) d_Cu_mapHalf_25 rfl (Or.inr ⟨_, rfl⟩) k) ?_
  refine S_getfield d_Cu_mapHalf_26 fg_Cu_58 (w77 _) rfl ?_
  refine ST.lift (fun _ _ k => T_getstatic (q := ("PasswordGate$Field", "I", "[J", .ref 2)) d_Cu_mapHalf_29 (List.mem_of_getElem? (i := 2) rfl) gs_Cu_131 (show 2 < K0 by decide) k) ?_
  refine S_static (as := [.ref 101, .ref 101, .ref 2]) (rest := []) d_Cu_mapHalf_32 rfl (jw_Fi_multiply.jo (by decide)) lm_Cu_74 jt_Fi_multiply rfl (Nat.le_of_ble_eq_true rfl) (by decide) (by decide) (c_Fi_multiply G v 101 (by decide) a101 101 a101 2 a2) (fun r v' hq => ?_)
  rw [hq.1, hq.2]
  clear hq r v'
  show ST G mi_Cu_mapHalf 35 [(0, .ref 77), (1, .ref src), (2, .int (nI pos)), (3, .ref o)] [] v 0 0 _
  refine ST.lift (fun _ _ k => T_aload_n (v := .ref 77) d_Cu_mapHalf_35 rfl (Or.inr ⟨_, rfl⟩) k) ?_
  refine S_getfield d_Cu_mapHalf_36 fg_Cu_36 (w77 _) rfl ?_
  refine ST.lift (fun _ _ k => T_aload_n (v := .ref 77) d_Cu_mapHalf_39 rfl (Or.inr ⟨_, rfl⟩) k) ?_
  refine S_getfield d_Cu_mapHalf_40 fg_Cu_58 (w77 _) rfl ?_
  refine ST.lift (fun _ _ k => T_getstatic (q := ("PasswordGate$Field", "ONE", "[J", .ref 3)) d_Cu_mapHalf_43 (List.mem_of_getElem? (i := 3) rfl) gs_Cu_103 (show 3 < K0 by decide) k) ?_
  refine S_static (as := [.ref 94, .ref 101, .ref 3]) (rest := []) d_Cu_mapHalf_46 rfl (jw_Fi_add.jo (by decide)) lm_Cu_77 jt_Fi_add rfl (Nat.le_of_ble_eq_true rfl) (by decide) (by decide) (c_Fi_add G v 94 (by decide) a94 101 a101 3 a3) (fun r v' hq => ?_)
  rw [hq.1, hq.2]
  clear hq r v'
  show ST G mi_Cu_mapHalf 49 [(0, .ref 77), (1, .ref src), (2, .int (nI pos)), (3, .ref o)] [] v 0 0 _
  refine ST.lift (fun _ _ k => T_aload_n (v := .ref 77) d_Cu_mapHalf_49 rfl (Or.inr ⟨_, rfl⟩) k) ?_
  refine S_getfield d_Cu_mapHalf_50 fg_Cu_36 (w77 _) rfl ?_
  refine ST.lift (fun _ _ k => T_aload_n (v := .ref 77) d_Cu_mapHalf_53 rfl (Or.inr ⟨_, rfl⟩) k) ?_
  refine S_getfield d_Cu_mapHalf_54 fg_Cu_36 (w77 _) rfl ?_
  refine ST.lift (fun _ _ k => T_getstatic (q := ("PasswordGate$Curve", "ONE_LESS_SQUARE", "[J", .ref 4)) d_Cu_mapHalf_57 (List.mem_of_getElem? (i := 4) rfl) gs_Cu_171 (show 4 < K0 by decide) k) ?_
  refine S_static (as := [.ref 94, .ref 94, .ref 4]) (rest := []) d_Cu_mapHalf_60 rfl (jw_Fi_multiply.jo (by decide)) lm_Cu_74 jt_Fi_multiply rfl (Nat.le_of_ble_eq_true rfl) (by decide) (by decide) (c_Fi_multiply G v 94 (by decide) a94 94 a94 4 a4) (fun r v' hq => ?_)
  rw [hq.1, hq.2]
  clear hq r v'
  show ST G mi_Cu_mapHalf 63 [(0, .ref 77), (1, .ref src), (2, .int (nI pos)), (3, .ref o)] [] v 0 0 _
  refine ST.lift (fun _ _ k => T_aload_n (v := .ref 77) d_Cu_mapHalf_63 rfl (Or.inr ⟨_, rfl⟩) k) ?_
  refine S_getfield d_Cu_mapHalf_64 fg_Cu_40 (w77 _) rfl ?_
  refine ST.lift (fun _ _ k => T_aload_n (v := .ref 77) d_Cu_mapHalf_67 rfl (Or.inr ⟨_, rfl⟩) k) ?_
  refine S_getfield d_Cu_mapHalf_68 fg_Cu_58 (w77 _) rfl ?_
  refine ST.lift (fun _ _ k => T_getstatic (q := ("PasswordGate$Curve", "D", "[J", .ref 5)) d_Cu_mapHalf_71 (List.mem_of_getElem? (i := 5) rfl) gs_Cu_161 (show 5 < K0 by decide) k) ?_
  refine S_static (as := [.ref 95, .ref 101, .ref 5]) (rest := []) d_Cu_mapHalf_74 rfl (jw_Fi_multiply.jo (by decide)) lm_Cu_74 jt_Fi_multiply rfl (Nat.le_of_ble_eq_true rfl) (by decide) (by decide) (c_Fi_multiply G v 95 (by decide) a95 101 a101 5 a5) (fun r v' hq => ?_)
  rw [hq.1, hq.2]
  clear hq r v'
  show ST G mi_Cu_mapHalf 77 [(0, .ref 77), (1, .ref src), (2, .int (nI pos)), (3, .ref o)] [] v 0 0 _
  refine ST.lift (fun _ _ k => T_aload_n (v := .ref 77) d_Cu_mapHalf_77 rfl (Or.inr ⟨_, rfl⟩) k) ?_
  refine S_getfield d_Cu_mapHalf_78 fg_Cu_40 (w77 _) rfl ?_
  refine ST.lift (fun _ _ k => T_aload_n (v := .ref 77) d_Cu_mapHalf_81 rfl (Or.inr ⟨_, rfl⟩) k) ?_
  refine S_getfield d_Cu_mapHalf_82 fg_Cu_40 (w77 _) rfl ?_
  refine ST.lift (fun _ _ k => T_getstatic (q := ("PasswordGate$Field", "ONE", "[J", .ref 3)) d_Cu_mapHalf_85 (List.mem_of_getElem? (i := 3) rfl) gs_Cu_103 (show 3 < K0 by decide) k) ?_
  refine S_static (as := [.ref 95, .ref 95, .ref 3]) (rest := []) d_Cu_mapHalf_88 rfl (jw_Fi_add.jo (by decide)) lm_Cu_77 jt_Fi_add rfl (Nat.le_of_ble_eq_true rfl) (by decide) (by decide) (c_Fi_add G v 95 (by decide) a95 95 a95 3 a3) (fun r v' hq => ?_)
  rw [hq.1, hq.2]
  clear hq r v'
  show ST G mi_Cu_mapHalf 91 [(0, .ref 77), (1, .ref src), (2, .int (nI pos)), (3, .ref o)] [] v 0 0 _
  refine ST.lift (fun _ _ k => T_aload_n (v := .ref 77) d_Cu_mapHalf_91 rfl (Or.inr ⟨_, rfl⟩) k) ?_
  refine S_getfield d_Cu_mapHalf_92 fg_Cu_40 (w77 _) rfl ?_
  refine ST.lift (fun _ _ k => T_aload_n (v := .ref 77) d_Cu_mapHalf_95 rfl (Or.inr ⟨_, rfl⟩) k) ?_
  refine S_getfield d_Cu_mapHalf_96 fg_Cu_40 (w77 _) rfl ?_
  refine S_static (as := [.ref 95, .ref 95]) (rest := []) d_Cu_mapHalf_99 rfl (jw_Fi_negate.jo (by decide)) lm_Cu_139 jt_Fi_negate rfl (Nat.le_of_ble_eq_true rfl) (by decide) (by decide) (c_Fi_negate G v 95 (by decide) a95 95 a95) (fun r v' hq => ?_)
  rw [hq.1, hq.2]
  clear hq r v'
  show ST G mi_Cu_mapHalf 102 [(0, .ref 77), (1, .ref src), (2, .int (nI pos)), (3, .ref o)] [] v 0 0 _
  refine ST.lift (fun _ _ k => T_aload_n (v := .ref 77) d_Cu_mapHalf_102 rfl (Or.inr ⟨_, rfl⟩) k) ?_
  refine S_getfield d_Cu_mapHalf_103 fg_Cu_43 (w77 _) rfl ?_
  refine ST.lift (fun _ _ k => T_aload_n (v := .ref 77) d_Cu_mapHalf_106 rfl (Or.inr ⟨_, rfl⟩) k) ?_
  refine S_getfield d_Cu_mapHalf_107 fg_Cu_58 (w77 _) rfl ?_
  refine ST.lift (fun _ _ k => T_getstatic (q := ("PasswordGate$Curve", "D", "[J", .ref 5)) d_Cu_mapHalf_110 (List.mem_of_getElem? (i := 5) rfl) gs_Cu_161 (show 5 < K0 by decide) k) ?_
  refine S_static (as := [.ref 96, .ref 101, .ref 5]) (rest := []) d_Cu_mapHalf_113 rfl (jw_Fi_add.jo (by decide)) lm_Cu_77 jt_Fi_add rfl (Nat.le_of_ble_eq_true rfl) (by decide) (by decide) (c_Fi_add G v 96 (by decide) a96 101 a101 5 a5) (fun r v' hq => ?_)
  rw [hq.1, hq.2]
  clear hq r v'
  show ST G mi_Cu_mapHalf 116 [(0, .ref 77), (1, .ref src), (2, .int (nI pos)), (3, .ref o)] [] v 0 0 _
  refine ST.lift (fun _ _ k => T_aload_n (v := .ref 77) d_Cu_mapHalf_116 rfl (Or.inr ⟨_, rfl⟩) k) ?_
  refine S_getfield d_Cu_mapHalf_117 fg_Cu_40 (w77 _) rfl ?_
  refine ST.lift (fun _ _ k => T_aload_n (v := .ref 77) d_Cu_mapHalf_120 rfl (Or.inr ⟨_, rfl⟩) k) ?_
  refine S_getfield d_Cu_mapHalf_121 fg_Cu_40 (w77 _) rfl ?_
  refine ST.lift (fun _ _ k => T_aload_n (v := .ref 77) d_Cu_mapHalf_124 rfl (Or.inr ⟨_, rfl⟩) k) ?_
  refine S_getfield d_Cu_mapHalf_125 fg_Cu_43 (w77 _) rfl ?_
  refine S_static (as := [.ref 95, .ref 95, .ref 96]) (rest := []) d_Cu_mapHalf_128 rfl (jw_Fi_multiply.jo (by decide)) lm_Cu_74 jt_Fi_multiply rfl (Nat.le_of_ble_eq_true rfl) (by decide) (by decide) (c_Fi_multiply G v 95 (by decide) a95 95 a95 96 a96) (fun r v' hq => ?_)
  rw [hq.1, hq.2]
  clear hq r v'
  show ST G mi_Cu_mapHalf 131 [(0, .ref 77), (1, .ref src), (2, .int (nI pos)), (3, .ref o)] [] v 0 0 _
  refine ST.lift (fun _ _ k => T_aload_n (v := .ref 77) d_Cu_mapHalf_131 rfl (Or.inr ⟨_, rfl⟩) k) ?_
  refine S_getfield d_Cu_mapHalf_132 fg_Cu_10 (w77 _) rfl ?_
  refine ST.lift (fun _ _ k => T_aload_n (v := .ref 77) d_Cu_mapHalf_135 rfl (Or.inr ⟨_, rfl⟩) k) ?_
  refine S_getfield d_Cu_mapHalf_136 fg_Cu_61 (w77 _) rfl ?_
  refine ST.lift (fun _ _ k => T_aload_n (v := .ref 77) d_Cu_mapHalf_139 rfl (Or.inr ⟨_, rfl⟩) k) ?_
  refine S_getfield d_Cu_mapHalf_140 fg_Cu_36 (w77 _) rfl ?_
  refine ST.lift (fun _ _ k => T_aload_n (v := .ref 77) d_Cu_mapHalf_143 rfl (Or.inr ⟨_, rfl⟩) k) ?_
  refine S_getfield d_Cu_mapHalf_144 fg_Cu_40 (w77 _) rfl ?_
  refine S_virtual (as := [.ref 102, .ref 94, .ref 95]) (rest := []) (b := 78) d_Cu_mapHalf_147 rfl (jw_Fi_root.jo (by decide)) lm_Cu_123 ji_Fi_root js_Fi_root (w78 _) rfl rfl rfl (Nat.le_of_ble_eq_true rfl) (by decide) (by decide) (c_Fi_root G v 102 (by decide) a102 94 a94 95 a95) (fun r v' hq => ?_)
  obtain ⟨z1, hz1, hr, hv⟩ := hq
  rw [hr, hv]
  clear hr hv r v'
  show ST G mi_Cu_mapHalf 150 [(0, .ref 77), (1, .ref src), (2, .int (nI pos)), (3, .ref o)] [.int (nI z1)] v 0 0 _
  refine ST.lift (fun _ _ k => T_istore (L' := [(4, .int (nI z1)), (0, .ref 77), (1, .ref src), (2, .int (nI pos)), (3, .ref o)]) d_Cu_mapHalf_150 (by decide) rfl k) ?_
  refine ST.lift (fun _ _ k => T_aload_n (v := .ref 77) d_Cu_mapHalf_152 rfl (Or.inr ⟨_, rfl⟩) k) ?_
  refine S_getfield d_Cu_mapHalf_153 fg_Cu_43 (w77 _) rfl ?_
  refine ST.lift (fun _ _ k => T_getstatic (q := ("PasswordGate$Field", "ONE", "[J", .ref 3)) d_Cu_mapHalf_156 (List.mem_of_getElem? (i := 3) rfl) gs_Cu_103 (show 3 < K0 by decide) k) ?_
  refine S_static (as := [.ref 96, .ref 3]) (rest := []) d_Cu_mapHalf_159 rfl (jw_Fi_negate.jo (by decide)) lm_Cu_139 jt_Fi_negate rfl (Nat.le_of_ble_eq_true rfl) (by decide) (by decide) (c_Fi_negate G v 96 (by decide) a96 3 a3) (fun r v' hq => ?_)
  rw [hq.1, hq.2]
  clear hq r v'
  show ST G mi_Cu_mapHalf 162 [(4, .int (nI z1)), (0, .ref 77), (1, .ref src), (2, .int (nI pos)), (3, .ref o)] [] v 0 0 _
  refine ST.lift (fun _ _ k => T_iload d_Cu_mapHalf_162 rfl k) ?_
  have J218_6 : ST G mi_Cu_mapHalf 218 [(4, .int (nI z1)), (0, .ref 77), (1, .ref src), (2, .int (nI pos)), (3, .ref o)] [] v 0 0 Q := by
    refine ST.lift (fun _ _ k => T_aload_n (v := .ref 77) d_Cu_mapHalf_218 rfl (Or.inr ⟨_, rfl⟩) k) ?_
    refine S_getfield d_Cu_mapHalf_219 fg_Cu_58 (w77 _) rfl ?_
    refine ST.lift (fun _ _ k => T_aload_n (v := .ref 77) d_Cu_mapHalf_222 rfl (Or.inr ⟨_, rfl⟩) k) ?_
    refine S_getfield d_Cu_mapHalf_223 fg_Cu_58 (w77 _) rfl ?_
    refine ST.lift (fun _ _ k => T_getstatic (q := ("PasswordGate$Field", "ONE", "[J", .ref 3)) d_Cu_mapHalf_226 (List.mem_of_getElem? (i := 3) rfl) gs_Cu_103 (show 3 < K0 by decide) k) ?_
    refine S_static (as := [.ref 101, .ref 101, .ref 3]) (rest := []) d_Cu_mapHalf_229 rfl (jw_Fi_subtract.jo (by decide)) lm_Cu_70 jt_Fi_subtract rfl (Nat.le_of_ble_eq_true rfl) (by decide) (by decide) (c_Fi_subtract G v 101 (by decide) a101 101 a101 3 a3) (fun r v' hq => ?_)
    rw [hq.1, hq.2]
    clear hq r v'
    show ST G mi_Cu_mapHalf 232 [(4, .int (nI z1)), (0, .ref 77), (1, .ref src), (2, .int (nI pos)), (3, .ref o)] [] v 0 0 _
    refine ST.lift (fun _ _ k => T_aload_n (v := .ref 77) d_Cu_mapHalf_232 rfl (Or.inr ⟨_, rfl⟩) k) ?_
    refine S_getfield d_Cu_mapHalf_233 fg_Cu_43 (w77 _) rfl ?_
    refine ST.lift (fun _ _ k => T_aload_n (v := .ref 77) d_Cu_mapHalf_236 rfl (Or.inr ⟨_, rfl⟩) k) ?_
    refine S_getfield d_Cu_mapHalf_237 fg_Cu_43 (w77 _) rfl ?_
    refine ST.lift (fun _ _ k => T_aload_n (v := .ref 77) d_Cu_mapHalf_240 rfl (Or.inr ⟨_, rfl⟩) k) ?_
    refine S_getfield d_Cu_mapHalf_241 fg_Cu_58 (w77 _) rfl ?_
    refine S_static (as := [.ref 96, .ref 96, .ref 101]) (rest := []) d_Cu_mapHalf_244 rfl (jw_Fi_multiply.jo (by decide)) lm_Cu_74 jt_Fi_multiply rfl (Nat.le_of_ble_eq_true rfl) (by decide) (by decide) (c_Fi_multiply G v 96 (by decide) a96 96 a96 101 a101) (fun r v' hq => ?_)
    rw [hq.1, hq.2]
    clear hq r v'
    show ST G mi_Cu_mapHalf 247 [(4, .int (nI z1)), (0, .ref 77), (1, .ref src), (2, .int (nI pos)), (3, .ref o)] [] v 0 0 _
    refine ST.lift (fun _ _ k => T_aload_n (v := .ref 77) d_Cu_mapHalf_247 rfl (Or.inr ⟨_, rfl⟩) k) ?_
    refine S_getfield d_Cu_mapHalf_248 fg_Cu_43 (w77 _) rfl ?_
    refine ST.lift (fun _ _ k => T_aload_n (v := .ref 77) d_Cu_mapHalf_251 rfl (Or.inr ⟨_, rfl⟩) k) ?_
    refine S_getfield d_Cu_mapHalf_252 fg_Cu_43 (w77 _) rfl ?_
    refine ST.lift (fun _ _ k => T_getstatic (q := ("PasswordGate$Curve", "LESS_ONE_SQUARED", "[J", .ref 6)) d_Cu_mapHalf_255 (List.mem_of_getElem? (i := 6) rfl) gs_Cu_174 (show 6 < K0 by decide) k) ?_
    refine S_static (as := [.ref 96, .ref 96, .ref 6]) (rest := []) d_Cu_mapHalf_258 rfl (jw_Fi_multiply.jo (by decide)) lm_Cu_74 jt_Fi_multiply rfl (Nat.le_of_ble_eq_true rfl) (by decide) (by decide) (c_Fi_multiply G v 96 (by decide) a96 96 a96 6 a6) (fun r v' hq => ?_)
    rw [hq.1, hq.2]
    clear hq r v'
    show ST G mi_Cu_mapHalf 261 [(4, .int (nI z1)), (0, .ref 77), (1, .ref src), (2, .int (nI pos)), (3, .ref o)] [] v 0 0 _
    refine ST.lift (fun _ _ k => T_aload_n (v := .ref 77) d_Cu_mapHalf_261 rfl (Or.inr ⟨_, rfl⟩) k) ?_
    refine S_getfield d_Cu_mapHalf_262 fg_Cu_43 (w77 _) rfl ?_
    refine ST.lift (fun _ _ k => T_aload_n (v := .ref 77) d_Cu_mapHalf_265 rfl (Or.inr ⟨_, rfl⟩) k) ?_
    refine S_getfield d_Cu_mapHalf_266 fg_Cu_43 (w77 _) rfl ?_
    refine ST.lift (fun _ _ k => T_aload_n (v := .ref 77) d_Cu_mapHalf_269 rfl (Or.inr ⟨_, rfl⟩) k) ?_
    refine S_getfield d_Cu_mapHalf_270 fg_Cu_40 (w77 _) rfl ?_
    refine S_static (as := [.ref 96, .ref 96, .ref 95]) (rest := []) d_Cu_mapHalf_273 rfl (jw_Fi_subtract.jo (by decide)) lm_Cu_70 jt_Fi_subtract rfl (Nat.le_of_ble_eq_true rfl) (by decide) (by decide) (c_Fi_subtract G v 96 (by decide) a96 96 a96 95 a95) (fun r v' hq => ?_)
    rw [hq.1, hq.2]
    clear hq r v'
    show ST G mi_Cu_mapHalf 276 [(4, .int (nI z1)), (0, .ref 77), (1, .ref src), (2, .int (nI pos)), (3, .ref o)] [] v 0 0 _
    refine ST.lift (fun _ _ k => T_aload_n (v := .ref 77) d_Cu_mapHalf_276 rfl (Or.inr ⟨_, rfl⟩) k) ?_
    refine S_getfield d_Cu_mapHalf_277 fg_Cu_36 (w77 _) rfl ?_
    refine ST.lift (fun _ _ k => T_aload_n (v := .ref 77) d_Cu_mapHalf_280 rfl (Or.inr ⟨_, rfl⟩) k) ?_
    refine S_getfield d_Cu_mapHalf_281 fg_Cu_61 (w77 _) rfl ?_
    refine ST.lift (fun _ _ k => T_aload_n (v := .ref 77) d_Cu_mapHalf_284 rfl (Or.inr ⟨_, rfl⟩) k) ?_
    refine S_getfield d_Cu_mapHalf_285 fg_Cu_40 (w77 _) rfl ?_
    refine S_static (as := [.ref 94, .ref 102, .ref 95]) (rest := []) d_Cu_mapHalf_288 rfl (jw_Fi_multiply.jo (by decide)) lm_Cu_74 jt_Fi_multiply rfl (Nat.le_of_ble_eq_true rfl) (by decide) (by decide) (c_Fi_multiply G v 94 (by decide) a94 102 a102 95 a95) (fun r v' hq => ?_)
    rw [hq.1, hq.2]
    clear hq r v'
    show ST G mi_Cu_mapHalf 291 [(4, .int (nI z1)), (0, .ref 77), (1, .ref src), (2, .int (nI pos)), (3, .ref o)] [] v 0 0 _
    refine ST.lift (fun _ _ k => T_aload_n (v := .ref 77) d_Cu_mapHalf_291 rfl (Or.inr ⟨_, rfl⟩) k) ?_
    refine S_getfield d_Cu_mapHalf_292 fg_Cu_36 (w77 _) rfl ?_
    refine ST.lift (fun _ _ k => T_aload_n (v := .ref 77) d_Cu_mapHalf_295 rfl (Or.inr ⟨_, rfl⟩) k) ?_
    refine S_getfield d_Cu_mapHalf_296 fg_Cu_36 (w77 _) rfl ?_
    refine ST.lift (fun _ _ k => T_aload_n (v := .ref 77) d_Cu_mapHalf_299 rfl (Or.inr ⟨_, rfl⟩) k) ?_
    refine S_getfield d_Cu_mapHalf_300 fg_Cu_36 (w77 _) rfl ?_
    refine S_static (as := [.ref 94, .ref 94, .ref 94]) (rest := []) d_Cu_mapHalf_303 rfl (jw_Fi_add.jo (by decide)) lm_Cu_77 jt_Fi_add rfl (Nat.le_of_ble_eq_true rfl) (by decide) (by decide) (c_Fi_add G v 94 (by decide) a94 94 a94 94 a94) (fun r v' hq => ?_)
    rw [hq.1, hq.2]
    clear hq r v'
    show ST G mi_Cu_mapHalf 306 [(4, .int (nI z1)), (0, .ref 77), (1, .ref src), (2, .int (nI pos)), (3, .ref o)] [] v 0 0 _
    refine ST.lift (fun _ _ k => T_aload_n (v := .ref 77) d_Cu_mapHalf_306 rfl (Or.inr ⟨_, rfl⟩) k) ?_
    refine S_getfield d_Cu_mapHalf_307 fg_Cu_40 (w77 _) rfl ?_
    refine ST.lift (fun _ _ k => T_aload_n (v := .ref 77) d_Cu_mapHalf_310 rfl (Or.inr ⟨_, rfl⟩) k) ?_
    refine S_getfield d_Cu_mapHalf_311 fg_Cu_43 (w77 _) rfl ?_
    refine ST.lift (fun _ _ k => T_getstatic (q := ("PasswordGate$Curve", "G", "[J", .ref 7)) d_Cu_mapHalf_314 (List.mem_of_getElem? (i := 7) rfl) gs_Cu_177 (show 7 < K0 by decide) k) ?_
    refine S_static (as := [.ref 95, .ref 96, .ref 7]) (rest := []) d_Cu_mapHalf_317 rfl (jw_Fi_multiply.jo (by decide)) lm_Cu_74 jt_Fi_multiply rfl (Nat.le_of_ble_eq_true rfl) (by decide) (by decide) (c_Fi_multiply G v 95 (by decide) a95 96 a96 7 a7) (fun r v' hq => ?_)
    rw [hq.1, hq.2]
    clear hq r v'
    show ST G mi_Cu_mapHalf 320 [(4, .int (nI z1)), (0, .ref 77), (1, .ref src), (2, .int (nI pos)), (3, .ref o)] [] v 0 0 _
    refine ST.lift (fun _ _ k => T_aload_n (v := .ref 77) d_Cu_mapHalf_320 rfl (Or.inr ⟨_, rfl⟩) k) ?_
    refine S_getfield d_Cu_mapHalf_321 fg_Cu_61 (w77 _) rfl ?_
    refine ST.lift (fun _ _ k => T_aload_n (v := .ref 77) d_Cu_mapHalf_324 rfl (Or.inr ⟨_, rfl⟩) k) ?_
    refine S_getfield d_Cu_mapHalf_325 fg_Cu_61 (w77 _) rfl ?_
    refine ST.lift (fun _ _ k => T_iconst (v := nI 1) d_Cu_mapHalf_328 (by decide) k) ?_
    refine S_static (as := [.ref 102, .ref 102, .int (nI 1)]) (rest := []) d_Cu_mapHalf_329 rfl (jw_Fi_square.jo (by decide)) lm_Cu_89 jt_Fi_square rfl (Nat.le_of_ble_eq_true rfl) (by decide) (by decide) (c_Fi_square G v 102 (by decide) a102 102 a102 1 (by omega)) (fun r v' hq => ?_)
    rw [hq.1, hq.2]
    clear hq r v'
    show ST G mi_Cu_mapHalf 332 [(4, .int (nI z1)), (0, .ref 77), (1, .ref src), (2, .int (nI pos)), (3, .ref o)] [] v 0 0 _
    refine ST.lift (fun _ _ k => T_aload_n (v := .ref 77) d_Cu_mapHalf_332 rfl (Or.inr ⟨_, rfl⟩) k) ?_
    refine S_getfield d_Cu_mapHalf_333 fg_Cu_43 (w77 _) rfl ?_
    refine ST.lift (fun _ _ k => T_getstatic (q := ("PasswordGate$Field", "ONE", "[J", .ref 3)) d_Cu_mapHalf_336 (List.mem_of_getElem? (i := 3) rfl) gs_Cu_103 (show 3 < K0 by decide) k) ?_
    refine ST.lift (fun _ _ k => T_aload_n (v := .ref 77) d_Cu_mapHalf_339 rfl (Or.inr ⟨_, rfl⟩) k) ?_
    refine S_getfield d_Cu_mapHalf_340 fg_Cu_61 (w77 _) rfl ?_
    refine S_static (as := [.ref 96, .ref 3, .ref 102]) (rest := []) d_Cu_mapHalf_343 rfl (jw_Fi_subtract.jo (by decide)) lm_Cu_70 jt_Fi_subtract rfl (Nat.le_of_ble_eq_true rfl) (by decide) (by decide) (c_Fi_subtract G v 96 (by decide) a96 3 a3 102 a102) (fun r v' hq => ?_)
    rw [hq.1, hq.2]
    clear hq r v'
    show ST G mi_Cu_mapHalf 346 [(4, .int (nI z1)), (0, .ref 77), (1, .ref src), (2, .int (nI pos)), (3, .ref o)] [] v 0 0 _
    refine ST.lift (fun _ _ k => T_aload_n (v := .ref 77) d_Cu_mapHalf_346 rfl (Or.inr ⟨_, rfl⟩) k) ?_
    refine S_getfield d_Cu_mapHalf_347 fg_Cu_61 (w77 _) rfl ?_
    refine ST.lift (fun _ _ k => T_getstatic (q := ("PasswordGate$Field", "ONE", "[J", .ref 3)) d_Cu_mapHalf_350 (List.mem_of_getElem? (i := 3) rfl) gs_Cu_103 (show 3 < K0 by decide) k) ?_
    refine ST.lift (fun _ _ k => T_aload_n (v := .ref 77) d_Cu_mapHalf_353 rfl (Or.inr ⟨_, rfl⟩) k) ?_
    refine S_getfield d_Cu_mapHalf_354 fg_Cu_61 (w77 _) rfl ?_
    refine S_static (as := [.ref 102, .ref 3, .ref 102]) (rest := []) d_Cu_mapHalf_357 rfl (jw_Fi_add.jo (by decide)) lm_Cu_77 jt_Fi_add rfl (Nat.le_of_ble_eq_true rfl) (by decide) (by decide) (c_Fi_add G v 102 (by decide) a102 3 a3 102 a102) (fun r v' hq => ?_)
    rw [hq.1, hq.2]
    clear hq r v'
    show ST G mi_Cu_mapHalf 360 [(4, .int (nI z1)), (0, .ref 77), (1, .ref src), (2, .int (nI pos)), (3, .ref o)] [] v 0 0 _
    refine ST.lift (fun _ _ k => T_aload_n (v := .ref o) d_Cu_mapHalf_360 rfl (Or.inr ⟨_, rfl⟩) k) ?_
    refine S_getfield d_Cu_mapHalf_361 fg_Cu_67 (p_o.1 _) rfl ?_
    refine ST.lift (fun _ _ k => T_aload_n (v := .ref 77) d_Cu_mapHalf_364 rfl (Or.inr ⟨_, rfl⟩) k) ?_
    refine S_getfield d_Cu_mapHalf_365 fg_Cu_36 (w77 _) rfl ?_
    refine ST.lift (fun _ _ k => T_aload_n (v := .ref 77) d_Cu_mapHalf_368 rfl (Or.inr ⟨_, rfl⟩) k) ?_
    refine S_getfield d_Cu_mapHalf_369 fg_Cu_61 (w77 _) rfl ?_
    refine S_static (as := [.ref ox, .ref 94, .ref 102]) (rest := []) d_Cu_mapHalf_372 rfl (jw_Fi_multiply.jo (by decide)) lm_Cu_74 jt_Fi_multiply rfl (Nat.le_of_ble_eq_true rfl) (by decide) (by decide) (c_Fi_multiply G v ox p_o.2.2.2.2.2.1 p_o.2.1 94 a94 102 a102) (fun r v' hq => ?_)
    rw [hq.1, hq.2]
    clear hq r v'
    show ST G mi_Cu_mapHalf 375 [(4, .int (nI z1)), (0, .ref 77), (1, .ref src), (2, .int (nI pos)), (3, .ref o)] [] v 0 0 _
    refine ST.lift (fun _ _ k => T_aload_n (v := .ref o) d_Cu_mapHalf_375 rfl (Or.inr ⟨_, rfl⟩) k) ?_
    refine S_getfield d_Cu_mapHalf_376 fg_Cu_64 (p_o.1 _) rfl ?_
    refine ST.lift (fun _ _ k => T_aload_n (v := .ref 77) d_Cu_mapHalf_379 rfl (Or.inr ⟨_, rfl⟩) k) ?_
    refine S_getfield d_Cu_mapHalf_380 fg_Cu_43 (w77 _) rfl ?_
    refine ST.lift (fun _ _ k => T_aload_n (v := .ref 77) d_Cu_mapHalf_383 rfl (Or.inr ⟨_, rfl⟩) k) ?_
    refine S_getfield d_Cu_mapHalf_384 fg_Cu_40 (w77 _) rfl ?_
    refine S_static (as := [.ref oy, .ref 96, .ref 95]) (rest := []) d_Cu_mapHalf_387 rfl (jw_Fi_multiply.jo (by decide)) lm_Cu_74 jt_Fi_multiply rfl (Nat.le_of_ble_eq_true rfl) (by decide) (by decide) (c_Fi_multiply G v oy p_o.2.2.2.2.2.2.1 p_o.2.2.1 96 a96 95 a95) (fun r v' hq => ?_)
    rw [hq.1, hq.2]
    clear hq r v'
    show ST G mi_Cu_mapHalf 390 [(4, .int (nI z1)), (0, .ref 77), (1, .ref src), (2, .int (nI pos)), (3, .ref o)] [] v 0 0 _
    refine ST.lift (fun _ _ k => T_aload_n (v := .ref o) d_Cu_mapHalf_390 rfl (Or.inr ⟨_, rfl⟩) k) ?_
    refine S_getfield d_Cu_mapHalf_391 fg_Cu_86 (p_o.1 _) rfl ?_
    refine ST.lift (fun _ _ k => T_aload_n (v := .ref 77) d_Cu_mapHalf_394 rfl (Or.inr ⟨_, rfl⟩) k) ?_
    refine S_getfield d_Cu_mapHalf_395 fg_Cu_40 (w77 _) rfl ?_
    refine ST.lift (fun _ _ k => T_aload_n (v := .ref 77) d_Cu_mapHalf_398 rfl (Or.inr ⟨_, rfl⟩) k) ?_
    refine S_getfield d_Cu_mapHalf_399 fg_Cu_61 (w77 _) rfl ?_
    refine S_static (as := [.ref oz, .ref 95, .ref 102]) (rest := []) d_Cu_mapHalf_402 rfl (jw_Fi_multiply.jo (by decide)) lm_Cu_74 jt_Fi_multiply rfl (Nat.le_of_ble_eq_true rfl) (by decide) (by decide) (c_Fi_multiply G v oz p_o.2.2.2.2.2.2.2.1 p_o.2.2.2.1 95 a95 102 a102) (fun r v' hq => ?_)
    rw [hq.1, hq.2]
    clear hq r v'
    show ST G mi_Cu_mapHalf 405 [(4, .int (nI z1)), (0, .ref 77), (1, .ref src), (2, .int (nI pos)), (3, .ref o)] [] v 0 0 _
    refine ST.lift (fun _ _ k => T_aload_n (v := .ref o) d_Cu_mapHalf_405 rfl (Or.inr ⟨_, rfl⟩) k) ?_
    refine S_getfield d_Cu_mapHalf_406 fg_Cu_80 (p_o.1 _) rfl ?_
    refine ST.lift (fun _ _ k => T_aload_n (v := .ref 77) d_Cu_mapHalf_409 rfl (Or.inr ⟨_, rfl⟩) k) ?_
    refine S_getfield d_Cu_mapHalf_410 fg_Cu_36 (w77 _) rfl ?_
    refine ST.lift (fun _ _ k => T_aload_n (v := .ref 77) d_Cu_mapHalf_413 rfl (Or.inr ⟨_, rfl⟩) k) ?_
    refine S_getfield d_Cu_mapHalf_414 fg_Cu_43 (w77 _) rfl ?_
    refine S_static (as := [.ref ot, .ref 94, .ref 96]) (rest := []) d_Cu_mapHalf_417 rfl (jw_Fi_multiply.jo (by decide)) lm_Cu_74 jt_Fi_multiply rfl (Nat.le_of_ble_eq_true rfl) (by decide) (by decide) (c_Fi_multiply G v ot p_o.2.2.2.2.2.2.2.2 p_o.2.2.2.2.1 94 a94 96 a96) (fun r v' hq => ?_)
    rw [hq.1, hq.2]
    clear hq r v'
    show ST G mi_Cu_mapHalf 420 [(4, .int (nI z1)), (0, .ref 77), (1, .ref src), (2, .int (nI pos)), (3, .ref o)] [] v 0 0 _
    exact S_vret d_Cu_mapHalf_420 rfl (by decide) (by decide) hQ
  refine S_if_neN d_Cu_mapHalf_164 rfl (by omega) (fun c2 => ?_) (fun c2 => ?_)
  · exact J218_6 
  · refine ST.lift (fun _ _ k => T_aload_n (v := .ref 77) d_Cu_mapHalf_167 rfl (Or.inr ⟨_, rfl⟩) k) ?_
    refine S_getfield d_Cu_mapHalf_168 fg_Cu_61 (w77 _) rfl ?_
    refine ST.lift (fun _ _ k => T_aload_n (v := .ref 77) d_Cu_mapHalf_171 rfl (Or.inr ⟨_, rfl⟩) k) ?_
    refine S_getfield d_Cu_mapHalf_172 fg_Cu_61 (w77 _) rfl ?_
    refine ST.lift (fun _ _ k => T_aload_n (v := .ref 77) d_Cu_mapHalf_175 rfl (Or.inr ⟨_, rfl⟩) k) ?_
    refine S_getfield d_Cu_mapHalf_176 fg_Cu_55 (w77 _) rfl ?_
    refine S_static (as := [.ref 102, .ref 102, .ref 100]) (rest := []) d_Cu_mapHalf_179 rfl (jw_Fi_multiply.jo (by decide)) lm_Cu_74 jt_Fi_multiply rfl (Nat.le_of_ble_eq_true rfl) (by decide) (by decide) (c_Fi_multiply G v 102 (by decide) a102 102 a102 100 a100) (fun r v' hq => ?_)
    rw [hq.1, hq.2]
    clear hq r v'
    show ST G mi_Cu_mapHalf 182 [(4, .int (nI z1)), (0, .ref 77), (1, .ref src), (2, .int (nI pos)), (3, .ref o)] [] v 0 0 _
    refine ST.lift (fun _ _ k => T_aload_n (v := .ref 77) d_Cu_mapHalf_182 rfl (Or.inr ⟨_, rfl⟩) k) ?_
    refine S_getfield d_Cu_mapHalf_183 fg_Cu_10 (w77 _) rfl ?_
    refine ST.lift (fun _ _ k => T_aload_n (v := .ref 77) d_Cu_mapHalf_186 rfl (Or.inr ⟨_, rfl⟩) k) ?_
    refine S_getfield d_Cu_mapHalf_187 fg_Cu_61 (w77 _) rfl ?_
    refine S_virtual (as := [.ref 102]) (rest := []) (b := 78) d_Cu_mapHalf_190 rfl (jw_Fi_isOdd.jo (by decide)) lm_Cu_127 ji_Fi_isOdd js_Fi_isOdd (w78 _) rfl rfl rfl (Nat.le_of_ble_eq_true rfl) (by decide) (by decide) (c_Fi_isOdd G v 102 a102) (fun r v' hq => ?_)
    obtain ⟨z7, hz7, hr, hv⟩ := hq
    rw [hr, hv]
    clear hr hv r v'
    show ST G mi_Cu_mapHalf 193 [(4, .int (nI z1)), (0, .ref 77), (1, .ref src), (2, .int (nI pos)), (3, .ref o)] [.int (nI z7)] v 0 0 _
    have J207_9 : ST G mi_Cu_mapHalf 207 [(4, .int (nI z1)), (0, .ref 77), (1, .ref src), (2, .int (nI pos)), (3, .ref o)] [] v 0 0 Q := by
      refine ST.lift (fun _ _ k => T_aload_n (v := .ref 77) d_Cu_mapHalf_207 rfl (Or.inr ⟨_, rfl⟩) k) ?_
      refine S_getfield d_Cu_mapHalf_208 fg_Cu_43 (w77 _) rfl ?_
      refine ST.lift (fun _ _ k => T_aload_n (v := .ref 77) d_Cu_mapHalf_211 rfl (Or.inr ⟨_, rfl⟩) k) ?_
      refine S_getfield d_Cu_mapHalf_212 fg_Cu_58 (w77 _) rfl ?_
      refine S_static (as := [.ref 96, .ref 101]) (rest := []) d_Cu_mapHalf_215 rfl (jw_Fi_copy.jo (by decide)) lm_Cu_137 jt_Fi_copy rfl (Nat.le_of_ble_eq_true rfl) (by decide) (by decide) (c_Fi_copy G v 96 (by decide) a96 101 a101) (fun r v' hq => ?_)
      rw [hq.1, hq.2]
      clear hq r v'
      show ST G mi_Cu_mapHalf 218 [(4, .int (nI z1)), (0, .ref 77), (1, .ref src), (2, .int (nI pos)), (3, .ref o)] [] v 0 0 _
      exact J218_6 
    refine S_if_neN d_Cu_mapHalf_193 rfl (by omega) (fun c8 => ?_) (fun c8 => ?_)
    · exact J207_9 
    · refine ST.lift (fun _ _ k => T_aload_n (v := .ref 77) d_Cu_mapHalf_196 rfl (Or.inr ⟨_, rfl⟩) k) ?_
      refine S_getfield d_Cu_mapHalf_197 fg_Cu_61 (w77 _) rfl ?_
      refine ST.lift (fun _ _ k => T_aload_n (v := .ref 77) d_Cu_mapHalf_200 rfl (Or.inr ⟨_, rfl⟩) k) ?_
      refine S_getfield d_Cu_mapHalf_201 fg_Cu_61 (w77 _) rfl ?_
      refine S_static (as := [.ref 102, .ref 102]) (rest := []) d_Cu_mapHalf_204 rfl (jw_Fi_negate.jo (by decide)) lm_Cu_139 jt_Fi_negate rfl (Nat.le_of_ble_eq_true rfl) (by decide) (by decide) (c_Fi_negate G v 102 (by decide) a102 102 a102) (fun r v' hq => ?_)
      rw [hq.1, hq.2]
      clear hq r v'
      show ST G mi_Cu_mapHalf 207 [(4, .int (nI z1)), (0, .ref 77), (1, .ref src), (2, .int (nI pos)), (3, .ref o)] [] v 0 0 _
      exact J207_9 
set_option maxRecDepth 100000 in
set_option maxHeartbeats 4000000 in
theorem c_Cu_map (G : GX) (v : Nat → Int32) (src m : Nat) (w_src : K0 ≤ src) (a_src : aB src m) (l_src : m ≤ 2000) (o ox oy oz ot : Nat) (p_o : isPt o ox oy oz ot) (h64 : 64 ≤ m) : CS G mi_Cu_map [.ref 77, .ref src, .ref o] v (fun r v' => r = none ∧ v' = v) := by
  refine CS.of (by decide) (Nat.le_of_ble_eq_true rfl) ?_
  generalize hQe : (fun (r : Option Value) (v' : Nat → Int32) => r = none ∧ v' = v) = Q
  have hQ : Q none v := by rw [← hQe]; exact ⟨rfl, rfl⟩
  clear hQe
  show ST G mi_Cu_map 0 [(0, .ref 77), (1, .ref src), (2, .ref o)] [] v 0 0 Q
  refine ST.lift (fun _ _ k => T_aload_n (v := .ref 77) d_Cu_map_0 rfl (Or.inr ⟨_, rfl⟩) k) ?_
  refine ST.lift (fun _ _ k => T_aload_n (v := .ref src) d_Cu_map_1 rfl (Or.inr ⟨_, rfl⟩) k) ?_
  refine ST.lift (fun _ _ k => T_iconst (v := nI 0) d_Cu_map_2 (by decide) k) ?_
  refine ST.lift (fun _ _ k => T_aload_n (v := .ref o) d_Cu_map_3 rfl (Or.inr ⟨_, rfl⟩) k) ?_
  refine S_virtual (as := [.ref src, .int (nI 0), .ref o]) (rest := []) (b := 77) d_Cu_map_4 rfl (jw_Cu_mapHalf.jo (by decide)) lm_Cu_167 ji_Cu_mapHalf js_Cu_mapHalf (w77 _) rfl rfl rfl (Nat.le_of_ble_eq_true rfl) (by decide) (by decide) (c_Cu_mapHalf G v src m w_src a_src (by omega) 0 (by omega) o ox oy oz ot p_o) (fun r v' hq => ?_)
  rw [hq.1, hq.2]
  clear hq r v'
  show ST G mi_Cu_map 7 [(0, .ref 77), (1, .ref src), (2, .ref o)] [] v 0 0 _
  refine ST.lift (fun _ _ k => T_aload_n (v := .ref 77) d_Cu_map_7 rfl (Or.inr ⟨_, rfl⟩) k) ?_
  refine ST.lift (fun _ _ k => T_aload_n (v := .ref src) d_Cu_map_8 rfl (Or.inr ⟨_, rfl⟩) k) ?_
  refine ST.lift (fun _ _ k => T_bipush (v := nI 32) d_Cu_map_9 (by decide) k) ?_
  refine ST.lift (fun _ _ k => T_aload_n (v := .ref 77) d_Cu_map_11 rfl (Or.inr ⟨_, rfl⟩) k) ?_
  refine S_getfield d_Cu_map_12 fg_Cu_23 (w77 _) rfl ?_
  refine S_virtual (as := [.ref src, .int (nI 32), .ref 87]) (rest := []) (b := 77) d_Cu_map_15 rfl (jw_Cu_mapHalf.jo (by decide)) lm_Cu_167 ji_Cu_mapHalf js_Cu_mapHalf (w77 _) rfl rfl rfl (Nat.le_of_ble_eq_true rfl) (by decide) (by decide) (c_Cu_mapHalf G v src m w_src a_src (by omega) 32 (by omega) 87 88 89 90 91 ⟨w87, a88, a89, a90, a91, by decide, by decide, by decide, by decide⟩) (fun r v' hq => ?_)
  rw [hq.1, hq.2]
  clear hq r v'
  show ST G mi_Cu_map 18 [(0, .ref 77), (1, .ref src), (2, .ref o)] [] v 0 0 _
  refine ST.lift (fun _ _ k => T_aload_n (v := .ref 77) d_Cu_map_18 rfl (Or.inr ⟨_, rfl⟩) k) ?_
  refine ST.lift (fun _ _ k => T_aload_n (v := .ref o) d_Cu_map_19 rfl (Or.inr ⟨_, rfl⟩) k) ?_
  refine ST.lift (fun _ _ k => T_aload_n (v := .ref o) d_Cu_map_20 rfl (Or.inr ⟨_, rfl⟩) k) ?_
  refine ST.lift (fun _ _ k => T_aload_n (v := .ref 77) d_Cu_map_21 rfl (Or.inr ⟨_, rfl⟩) k) ?_
  refine S_getfield d_Cu_map_22 fg_Cu_23 (w77 _) rfl ?_
  refine S_virtual (as := [.ref o, .ref o, .ref 87]) (rest := []) (b := 77) d_Cu_map_25 rfl (jw_Cu_add.jo (by decide)) lm_Cu_97 ji_Cu_add js_Cu_add (w77 _) rfl rfl rfl (Nat.le_of_ble_eq_true rfl) (by decide) (by decide) (c_Cu_add G v o ox oy oz ot p_o o ox oy oz ot p_o 87 88 89 90 91 ⟨w87, a88, a89, a90, a91, by decide, by decide, by decide, by decide⟩) (fun r v' hq => ?_)
  rw [hq.1, hq.2]
  clear hq r v'
  show ST G mi_Cu_map 28 [(0, .ref 77), (1, .ref src), (2, .ref o)] [] v 0 0 _
  exact S_vret d_Cu_map_28 rfl (by decide) (by decide) hQ

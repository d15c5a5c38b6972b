theorem CU.back {M M' : List va_E} {W : List Nat} (h : CU M) (h1 : CS1 M') (s : Kp W M M') (hn : ∀ q ∈ W, q ∈ cuR ∨ 182 < q) : CU M' := by
  obtain ⟨a1, a2, a3, a4, a5⟩ := h
  have n : ∀ q, q ∉ cuR → q ≤ 182 → q ∉ W := fun q h1 h2 c => (hn q c).elim h1 (by omega)
  have r : ∀ q ∈ cuR, q < 103 := by decide
  refine ⟨h1, (s _ (n _ (by decide) (by decide))).trans a2, fun g hg => ?_, a4.kp s (n _ (by decide) (by decide)) (n _ (by decide) (by decide)) (n _ (by decide) (by decide)) (n _ (by decide) (by decide)) (n _ (by decide) (by decide)), a5.kp s (n _ (by decide) (by decide)) (n _ (by decide) (by decide))⟩
  have m : ∀ q, 103 ≤ q → q ≤ 182 → q ∉ W := fun q h1 h2 => n q (fun c => by have := r q c; omega) h2
  exact (a3 g hg).kp s (m _ (by omega) (by omega)) (m _ (by omega) (by omega)) (m _ (by omega) (by omega)) (m _ (by omega) (by omega)) (m _ (by omega) (by omega))
set_option maxHeartbeats 8000000 in
theorem y_Cu_code {G : GX} {M : List va_E} {p px py pz pt q d n : Nat} {P : Fp × Fp} {l : List UInt8} (hcu : CU M) (hp : PC M p px py pz pt P) (hq : BY M q d n l) (hroom : l.length + 32 ≤ n) (hroom2 : n < 2 ^ 30) (b_p : 182 < p) (b_px : 182 < px) (b_py : 182 < py) (b_pz : 182 < pz) (b_pt : 182 < pt) (b_q : 182 < q) (b_d : 182 < d) (hne : q ≠ d) : CT G mi_Cu_code [.ref 77, .ref p, .ref q] M (fun r M' => r = none ∧ CU M' ∧ BY M' q d n (l ++ enc P) ∧ Kp (q :: d :: cuW) M M') := by
  have hcu0 := hcu
  obtain ⟨hcs, -⟩ := hcu
  obtain ⟨p0, X, Y, Z, T, p1, p2, p3, p4, jp⟩ := hp
  have k_d : K0 ≤ d := by unfold K0; omega
  refine CT.of (by decide) (Nat.le_of_ble_eq_true rfl) ?_
  show TT G mi_Cu_code 0 [(0, .ref 77), (1, .ref p), (2, .ref q)] [] M 0 0 _
  refine T_know (fun hK0 => ?_)
  refine T_aload_n (v := .ref 77) d_Cu_code_0 rfl (Or.inr ⟨_, rfl⟩) ?_
  refine T_getfield (v := .ref 94) d_Cu_code_1 fg_Cu_36 hcs.1 rfl ?_
  refine T_aload_n (v := .ref p) d_Cu_code_4 rfl (Or.inr ⟨_, rfl⟩) ?_
  refine T_getfield (v := .ref pz) d_Cu_code_5 fg_Cu_86 p0 rfl ?_
  refine T_aload_n (v := .ref p) d_Cu_code_8 rfl (Or.inr ⟨_, rfl⟩) ?_
  refine T_getfield (v := .ref py) d_Cu_code_9 fg_Cu_64 p0 rfl ?_
  refine T_vadd d_Cu_code_12 (jw_Fi_add.jo (by decide)) lm_Cu_77 (Nat.le_of_ble_eq_true rfl) (by decide) (by decide) (by decide) (hcs.2.2 94 (by decide)) p3 p2 (by decide) (fun M_1 v_1 e_1 => ?_)
  obtain ⟨x_1, hx_1⟩ : ∃ z : Int, z = (Z + Y) := ⟨_, rfl⟩
  rw [← hx_1] at v_1
  refine T_aload_n (v := .ref 77) d_Cu_code_15 rfl (Or.inr ⟨_, rfl⟩) ?_
  have h_2 := (e_1 77 (by decide)).trans (hcs.1)
  refine T_getfield (v := .ref 95) d_Cu_code_16 fg_Cu_40 h_2 rfl ?_
  refine T_aload_n (v := .ref p) d_Cu_code_19 rfl (Or.inr ⟨_, rfl⟩) ?_
  have h_3 := (e_1 p (hi_ne b_p (by decide))).trans (p0)
  refine T_getfield (v := .ref pz) d_Cu_code_20 fg_Cu_86 h_3 rfl ?_
  refine T_aload_n (v := .ref p) d_Cu_code_23 rfl (Or.inr ⟨_, rfl⟩) ?_
  refine T_getfield (v := .ref py) d_Cu_code_24 fg_Cu_64 h_3 rfl ?_
  have p_4 := (RV.kp (p3) (Ex.kp e_1) (hi_nin b_pz (by decide)))
  have p_5 := (RV.kp (p2) (Ex.kp e_1) (hi_nin b_py (by decide)))
  have p_7 := (RQ.kp ((hcs.2.2 95 (by decide))) (Ex.kp e_1) (by decide))
  refine T_vsub d_Cu_code_27 (jw_Fi_subtract.jo (by decide)) lm_Cu_70 (Nat.le_of_ble_eq_true rfl) (by decide) (by decide) (by decide) p_7 p_4 p_5 (by decide) (fun M_6 v_6 e_6 => ?_)
  obtain ⟨x_7, hx_7⟩ : ∃ z : Int, z = (Z - Y) := ⟨_, rfl⟩
  rw [← hx_7] at v_6
  refine T_aload_n (v := .ref 77) d_Cu_code_30 rfl (Or.inr ⟨_, rfl⟩) ?_
  have h_8 := (e_6 77 (by decide)).trans (h_2)
  refine T_getfield (v := .ref 94) d_Cu_code_31 fg_Cu_36 h_8 rfl ?_
  refine T_aload_n (v := .ref 77) d_Cu_code_34 rfl (Or.inr ⟨_, rfl⟩) ?_
  refine T_getfield (v := .ref 94) d_Cu_code_35 fg_Cu_36 h_8 rfl ?_
  refine T_aload_n (v := .ref 77) d_Cu_code_38 rfl (Or.inr ⟨_, rfl⟩) ?_
  refine T_getfield (v := .ref 95) d_Cu_code_39 fg_Cu_40 h_8 rfl ?_
  have p_9 := (RV.kp (v_1) (Ex.kp e_6) (by decide))
  refine T_vmul d_Cu_code_42 (jw_Fi_multiply.jo (by decide)) lm_Cu_74 (Nat.le_of_ble_eq_true rfl) (by decide) (by decide) (by decide) (Rv.rq p_9) p_9 v_6 (by decide) (fun M_10 v_10 e_10 => ?_)
  obtain ⟨x_10, hx_10⟩ : ∃ z : Int, z = (x_1 * x_7) := ⟨_, rfl⟩
  rw [← hx_10] at v_10
  refine T_aload_n (v := .ref 77) d_Cu_code_45 rfl (Or.inr ⟨_, rfl⟩) ?_
  have h_11 := (e_10 77 (by decide)).trans (h_8)
  refine T_getfield (v := .ref 95) d_Cu_code_46 fg_Cu_40 h_11 rfl ?_
  refine T_aload_n (v := .ref p) d_Cu_code_49 rfl (Or.inr ⟨_, rfl⟩) ?_
  have h_12 := (e_10 p (hi_ne b_p (by decide))).trans ((e_6 p (hi_ne b_p (by decide))).trans (h_3))
  refine T_getfield (v := .ref px) d_Cu_code_50 fg_Cu_67 h_12 rfl ?_
  refine T_aload_n (v := .ref p) d_Cu_code_53 rfl (Or.inr ⟨_, rfl⟩) ?_
  refine T_getfield (v := .ref py) d_Cu_code_54 fg_Cu_64 h_12 rfl ?_
  have p_13 := (RV.kp ((RV.kp ((RV.kp (p1) (Ex.kp e_1) (hi_nin b_px (by decide)))) (Ex.kp e_6) (hi_nin b_px (by decide)))) (Ex.kp e_10) (hi_nin b_px (by decide)))
  have p_14 := (RV.kp ((RV.kp (p_5) (Ex.kp e_6) (hi_nin b_py (by decide)))) (Ex.kp e_10) (hi_nin b_py (by decide)))
  have p_16 := (RV.kp (v_6) (Ex.kp e_10) (by decide))
  refine T_vmul d_Cu_code_57 (jw_Fi_multiply.jo (by decide)) lm_Cu_74 (Nat.le_of_ble_eq_true rfl) (by decide) (by decide) (by decide) (Rv.rq p_16) p_13 p_14 (by decide) (fun M_15 v_15 e_15 => ?_)
  obtain ⟨x_16, hx_16⟩ : ∃ z : Int, z = (X * Y) := ⟨_, rfl⟩
  rw [← hx_16] at v_15
  refine T_aload_n (v := .ref 77) d_Cu_code_60 rfl (Or.inr ⟨_, rfl⟩) ?_
  have h_17 := (e_15 77 (by decide)).trans (h_11)
  refine T_getfield (v := .ref 96) d_Cu_code_61 fg_Cu_43 h_17 rfl ?_
  refine T_aload_n (v := .ref 77) d_Cu_code_64 rfl (Or.inr ⟨_, rfl⟩) ?_
  refine T_getfield (v := .ref 95) d_Cu_code_65 fg_Cu_40 h_17 rfl ?_
  refine T_iconst (v := nI 1) d_Cu_code_68 (by decide) ?_
  have p_19 := (RQ.kp ((RQ.kp ((RQ.kp ((RQ.kp ((hcs.2.2 96 (by decide))) (Ex.kp e_1) (by decide))) (Ex.kp e_6) (by decide))) (Ex.kp e_10) (by decide))) (Ex.kp e_15) (by decide))
  refine T_vsq1 d_Cu_code_69 (jw_Fi_square.jo (by decide)) lm_Cu_89 (Nat.le_of_ble_eq_true rfl) (by decide) (by decide) (by decide) p_19 v_15 (by decide) (fun M_18 v_18 e_18 => ?_)
  obtain ⟨x_19, hx_19⟩ : ∃ z : Int, z = (x_16 * x_16) := ⟨_, rfl⟩
  rw [← hx_19] at v_18
  refine T_aload_n (v := .ref 77) d_Cu_code_72 rfl (Or.inr ⟨_, rfl⟩) ?_
  have h_20 := (e_18 77 (by decide)).trans (h_17)
  refine T_getfield (v := .ref 96) d_Cu_code_73 fg_Cu_43 h_20 rfl ?_
  refine T_aload_n (v := .ref 77) d_Cu_code_76 rfl (Or.inr ⟨_, rfl⟩) ?_
  refine T_getfield (v := .ref 96) d_Cu_code_77 fg_Cu_43 h_20 rfl ?_
  refine T_aload_n (v := .ref 77) d_Cu_code_80 rfl (Or.inr ⟨_, rfl⟩) ?_
  refine T_getfield (v := .ref 94) d_Cu_code_81 fg_Cu_36 h_20 rfl ?_
  have p_21 := (RV.kp ((RV.kp (v_10) (Ex.kp e_15) (by decide))) (Ex.kp e_18) (by decide))
  refine T_vmul d_Cu_code_84 (jw_Fi_multiply.jo (by decide)) lm_Cu_74 (Nat.le_of_ble_eq_true rfl) (by decide) (by decide) (by decide) (Rv.rq v_18) v_18 p_21 (by decide) (fun M_22 v_22 e_22 => ?_)
  obtain ⟨x_22, hx_22⟩ : ∃ z : Int, z = (x_19 * x_10) := ⟨_, rfl⟩
  rw [← hx_22] at v_22
  refine T_aload_n (v := .ref 77) d_Cu_code_87 rfl (Or.inr ⟨_, rfl⟩) ?_
  have h_23 := (e_22 77 (by decide)).trans (h_20)
  refine T_getfield (v := .ref 78) d_Cu_code_88 fg_Cu_10 h_23 rfl ?_
  refine T_aload_n (v := .ref 77) d_Cu_code_91 rfl (Or.inr ⟨_, rfl⟩) ?_
  refine T_getfield (v := .ref 101) d_Cu_code_92 fg_Cu_58 h_23 rfl ?_
  refine T_getstatic (q := ("PasswordGate$Field", "ONE", "[J", .ref 3)) d_Cu_code_95 (List.mem_of_getElem? (i := 3) rfl) gs_Cu_103 (show 3 < K0 by decide) ?_
  refine T_aload_n (v := .ref 77) d_Cu_code_98 rfl (Or.inr ⟨_, rfl⟩) ?_
  refine T_getfield (v := .ref 96) d_Cu_code_99 fg_Cu_43 h_23 rfl ?_
  have c_25 : RV M 3 cv_3 1 := ⟨_, hK0 3 (by decide), vt_3⟩
  have p_26 := (RV.kp ((RV.kp ((RV.kp ((RV.kp ((RV.kp ((RV.kp (c_25) (Ex.kp e_1) (by decide))) (Ex.kp e_6) (by decide))) (Ex.kp e_10) (by decide))) (Ex.kp e_15) (by decide))) (Ex.kp e_18) (by decide))) (Ex.kp e_22) (by decide))
  have h_27 := (e_22 78 (by decide)).trans ((e_18 78 (by decide)).trans ((e_15 78 (by decide)).trans ((e_10 78 (by decide)).trans ((e_6 78 (by decide)).trans ((e_1 78 (by decide)).trans (hcs.2.1))))))
  have p_28 := (RQ.kp ((RQ.kp ((RQ.kp ((RQ.kp ((RQ.kp ((RQ.kp ((hcs.2.2 79 (by decide))) (Ex.kp e_1) (by decide))) (Ex.kp e_6) (by decide))) (Ex.kp e_10) (by decide))) (Ex.kp e_15) (by decide))) (Ex.kp e_18) (by decide))) (Ex.kp e_22) (by decide))
  have p_29 := (RQ.kp ((RQ.kp ((RQ.kp ((RQ.kp ((RQ.kp ((RQ.kp ((hcs.2.2 80 (by decide))) (Ex.kp e_1) (by decide))) (Ex.kp e_6) (by decide))) (Ex.kp e_10) (by decide))) (Ex.kp e_15) (by decide))) (Ex.kp e_18) (by decide))) (Ex.kp e_22) (by decide))
  have p_30 := (RQ.kp ((RQ.kp ((RQ.kp ((RQ.kp ((RQ.kp ((RQ.kp ((hcs.2.2 81 (by decide))) (Ex.kp e_1) (by decide))) (Ex.kp e_6) (by decide))) (Ex.kp e_10) (by decide))) (Ex.kp e_15) (by decide))) (Ex.kp e_18) (by decide))) (Ex.kp e_22) (by decide))
  have p_31 := (RQ.kp ((RQ.kp ((RQ.kp ((RQ.kp ((RQ.kp ((RQ.kp ((hcs.2.2 82 (by decide))) (Ex.kp e_1) (by decide))) (Ex.kp e_6) (by decide))) (Ex.kp e_10) (by decide))) (Ex.kp e_15) (by decide))) (Ex.kp e_18) (by decide))) (Ex.kp e_22) (by decide))
  have p_32 := (RQ.kp ((RQ.kp ((RQ.kp ((RQ.kp ((RQ.kp ((RQ.kp ((hcs.2.2 83 (by decide))) (Ex.kp e_1) (by decide))) (Ex.kp e_6) (by decide))) (Ex.kp e_10) (by decide))) (Ex.kp e_15) (by decide))) (Ex.kp e_18) (by decide))) (Ex.kp e_22) (by decide))
  have p_33 := (RQ.kp ((RQ.kp ((RQ.kp ((RQ.kp ((RQ.kp ((RQ.kp ((hcs.2.2 84 (by decide))) (Ex.kp e_1) (by decide))) (Ex.kp e_6) (by decide))) (Ex.kp e_10) (by decide))) (Ex.kp e_15) (by decide))) (Ex.kp e_18) (by decide))) (Ex.kp e_22) (by decide))
  have p_34 := (RQ.kp ((RQ.kp ((RQ.kp ((RQ.kp ((RQ.kp ((RQ.kp ((hcs.2.2 85 (by decide))) (Ex.kp e_1) (by decide))) (Ex.kp e_6) (by decide))) (Ex.kp e_10) (by decide))) (Ex.kp e_15) (by decide))) (Ex.kp e_18) (by decide))) (Ex.kp e_22) (by decide))
  have p_35 := (RQ.kp ((RQ.kp ((RQ.kp ((RQ.kp ((RQ.kp ((RQ.kp ((hcs.2.2 101 (by decide))) (Ex.kp e_1) (by decide))) (Ex.kp e_6) (by decide))) (Ex.kp e_10) (by decide))) (Ex.kp e_15) (by decide))) (Ex.kp e_18) (by decide))) (Ex.kp e_22) (by decide))
  refine T_virtual (as := [.ref 101, .ref 3, .ref 96]) (rest := []) (b := 78) d_Cu_code_102 rfl (jw_Fi_root.jo (by decide)) lm_Cu_123 ji_Fi_root js_Fi_root h_27 rfl rfl rfl (Nat.le_of_ble_eq_true rfl) (by decide) (by decide) (v_Fi_root G h_27 p_28 p_29 p_30 p_31 p_32 p_33 p_34 p_35 p_26 v_22 (by decide) (by decide) (by decide) (by decide) (by decide) (by decide) (by decide) (by decide) (by decide) (by decide) (by decide) (by decide) (by decide) (by decide) (by decide) (by decide) (by decide) (by decide) (by decide) (by decide) (by decide) (by decide) (by decide) (by decide) (by decide) (by decide)) (fun q M_24 hq => ?_)
  obtain ⟨rfl, v_24, k_24, q79_24, q80_24, q81_24, q82_24, q83_24, q84_24, q85_24⟩ := hq
  obtain ⟨x_24, hx_24⟩ : ∃ z : Int, z = rt cv_3 x_22 := ⟨_, rfl⟩
  rw [← hx_24] at v_24
  have hg_24 := rtG_le cv_3 x_22
  refine T_eq (pc' := 105) (L' := [(0, .ref 77), (1, .ref p), (2, .ref q)]) (st' := [.int (nI ((rtG cv_3 x_22)))]) (M' := M_24) rfl rfl rfl rfl ?_
  refine T_pop d_Cu_code_105 rfl ?_
  refine T_aload_n (v := .ref 77) d_Cu_code_106 rfl (Or.inr ⟨_, rfl⟩) ?_
  have h_36 := (k_24 77 (by decide)).trans (h_23)
  refine T_getfield (v := .ref 94) d_Cu_code_107 fg_Cu_36 h_36 rfl ?_
  refine T_aload_n (v := .ref 77) d_Cu_code_110 rfl (Or.inr ⟨_, rfl⟩) ?_
  refine T_getfield (v := .ref 94) d_Cu_code_111 fg_Cu_36 h_36 rfl ?_
  refine T_aload_n (v := .ref 77) d_Cu_code_114 rfl (Or.inr ⟨_, rfl⟩) ?_
  refine T_getfield (v := .ref 101) d_Cu_code_115 fg_Cu_58 h_36 rfl ?_
  have p_37 := (RV.kp ((RV.kp (p_21) (Ex.kp e_22) (by decide))) k_24 (by decide))
  refine T_vmul d_Cu_code_118 (jw_Fi_multiply.jo (by decide)) lm_Cu_74 (Nat.le_of_ble_eq_true rfl) (by decide) (by decide) (by decide) (Rv.rq p_37) p_37 v_24 (by decide) (fun M_38 v_38 e_38 => ?_)
  obtain ⟨x_38, hx_38⟩ : ∃ z : Int, z = (x_10 * x_24) := ⟨_, rfl⟩
  rw [← hx_38] at v_38
  refine T_aload_n (v := .ref 77) d_Cu_code_121 rfl (Or.inr ⟨_, rfl⟩) ?_
  have h_39 := (e_38 77 (by decide)).trans (h_36)
  refine T_getfield (v := .ref 95) d_Cu_code_122 fg_Cu_40 h_39 rfl ?_
  refine T_aload_n (v := .ref 77) d_Cu_code_125 rfl (Or.inr ⟨_, rfl⟩) ?_
  refine T_getfield (v := .ref 95) d_Cu_code_126 fg_Cu_40 h_39 rfl ?_
  refine T_aload_n (v := .ref 77) d_Cu_code_129 rfl (Or.inr ⟨_, rfl⟩) ?_
  refine T_getfield (v := .ref 101) d_Cu_code_130 fg_Cu_58 h_39 rfl ?_
  have p_40 := (RV.kp ((RV.kp ((RV.kp ((RV.kp (v_15) (Ex.kp e_18) (by decide))) (Ex.kp e_22) (by decide))) k_24 (by decide))) (Ex.kp e_38) (by decide))
  have p_41 := (RV.kp (v_24) (Ex.kp e_38) (by decide))
  refine T_vmul d_Cu_code_133 (jw_Fi_multiply.jo (by decide)) lm_Cu_74 (Nat.le_of_ble_eq_true rfl) (by decide) (by decide) (by decide) (Rv.rq p_40) p_40 p_41 (by decide) (fun M_42 v_42 e_42 => ?_)
  obtain ⟨x_42, hx_42⟩ : ∃ z : Int, z = (x_16 * x_24) := ⟨_, rfl⟩
  rw [← hx_42] at v_42
  refine T_aload_n (v := .ref 77) d_Cu_code_136 rfl (Or.inr ⟨_, rfl⟩) ?_
  have h_43 := (e_42 77 (by decide)).trans (h_39)
  refine T_getfield (v := .ref 102) d_Cu_code_137 fg_Cu_61 h_43 rfl ?_
  refine T_aload_n (v := .ref 77) d_Cu_code_140 rfl (Or.inr ⟨_, rfl⟩) ?_
  refine T_getfield (v := .ref 94) d_Cu_code_141 fg_Cu_36 h_43 rfl ?_
  refine T_aload_n (v := .ref 77) d_Cu_code_144 rfl (Or.inr ⟨_, rfl⟩) ?_
  refine T_getfield (v := .ref 95) d_Cu_code_145 fg_Cu_40 h_43 rfl ?_
  have p_44 := (RV.kp (v_38) (Ex.kp e_42) (by decide))
  have p_46 := (RQ.kp ((RQ.kp ((RQ.kp ((RQ.kp ((RQ.kp ((RQ.kp ((RQ.kp ((RQ.kp ((RQ.kp ((hcs.2.2 102 (by decide))) (Ex.kp e_1) (by decide))) (Ex.kp e_6) (by decide))) (Ex.kp e_10) (by decide))) (Ex.kp e_15) (by decide))) (Ex.kp e_18) (by decide))) (Ex.kp e_22) (by decide))) k_24 (by decide))) (Ex.kp e_38) (by decide))) (Ex.kp e_42) (by decide))
  refine T_vmul d_Cu_code_148 (jw_Fi_multiply.jo (by decide)) lm_Cu_74 (Nat.le_of_ble_eq_true rfl) (by decide) (by decide) (by decide) p_46 p_44 v_42 (by decide) (fun M_45 v_45 e_45 => ?_)
  obtain ⟨x_46, hx_46⟩ : ∃ z : Int, z = (x_38 * x_42) := ⟨_, rfl⟩
  rw [← hx_46] at v_45
  refine T_aload_n (v := .ref 77) d_Cu_code_151 rfl (Or.inr ⟨_, rfl⟩) ?_
  have h_47 := (e_45 77 (by decide)).trans (h_43)
  refine T_getfield (v := .ref 102) d_Cu_code_152 fg_Cu_61 h_47 rfl ?_
  refine T_aload_n (v := .ref 77) d_Cu_code_155 rfl (Or.inr ⟨_, rfl⟩) ?_
  refine T_getfield (v := .ref 102) d_Cu_code_156 fg_Cu_61 h_47 rfl ?_
  refine T_aload_n (v := .ref p) d_Cu_code_159 rfl (Or.inr ⟨_, rfl⟩) ?_
  have h_48 := (e_45 p (hi_ne b_p (by decide))).trans ((e_42 p (hi_ne b_p (by decide))).trans ((e_38 p (hi_ne b_p (by decide))).trans ((k_24 p (hi_nin b_p (by decide))).trans ((e_22 p (hi_ne b_p (by decide))).trans ((e_18 p (hi_ne b_p (by decide))).trans ((e_15 p (hi_ne b_p (by decide))).trans (h_12)))))))
  refine T_getfield (v := .ref pt) d_Cu_code_160 fg_Cu_80 h_48 rfl ?_
  have p_49 := (RV.kp ((RV.kp ((RV.kp ((RV.kp ((RV.kp ((RV.kp ((RV.kp ((RV.kp ((RV.kp ((RV.kp (p4) (Ex.kp e_1) (hi_nin b_pt (by decide)))) (Ex.kp e_6) (hi_nin b_pt (by decide)))) (Ex.kp e_10) (hi_nin b_pt (by decide)))) (Ex.kp e_15) (hi_nin b_pt (by decide)))) (Ex.kp e_18) (hi_nin b_pt (by decide)))) (Ex.kp e_22) (hi_nin b_pt (by decide)))) k_24 (hi_nin b_pt (by decide)))) (Ex.kp e_38) (hi_nin b_pt (by decide)))) (Ex.kp e_42) (hi_nin b_pt (by decide)))) (Ex.kp e_45) (hi_nin b_pt (by decide)))
  refine T_vmul d_Cu_code_163 (jw_Fi_multiply.jo (by decide)) lm_Cu_74 (Nat.le_of_ble_eq_true rfl) (by decide) (by decide) (by decide) (Rv.rq v_45) v_45 p_49 (by decide) (fun M_50 v_50 e_50 => ?_)
  obtain ⟨x_50, hx_50⟩ : ∃ z : Int, z = (x_46 * T) := ⟨_, rfl⟩
  rw [← hx_50] at v_50
  refine T_aload_n (v := .ref 77) d_Cu_code_166 rfl (Or.inr ⟨_, rfl⟩) ?_
  have h_51 := (e_50 77 (by decide)).trans (h_47)
  refine T_getfield (v := .ref 96) d_Cu_code_167 fg_Cu_43 h_51 rfl ?_
  refine T_aload_n (v := .ref 77) d_Cu_code_170 rfl (Or.inr ⟨_, rfl⟩) ?_
  refine T_getfield (v := .ref 102) d_Cu_code_171 fg_Cu_61 h_51 rfl ?_
  refine T_aload_n (v := .ref p) d_Cu_code_174 rfl (Or.inr ⟨_, rfl⟩) ?_
  have h_52 := (e_50 p (hi_ne b_p (by decide))).trans (h_48)
  refine T_getfield (v := .ref pt) d_Cu_code_175 fg_Cu_80 h_52 rfl ?_
  have p_53 := (RV.kp (p_49) (Ex.kp e_50) (hi_nin b_pt (by decide)))
  have p_55 := (RV.kp ((RV.kp ((RV.kp ((RV.kp ((RV.kp (v_22) k_24 (by decide))) (Ex.kp e_38) (by decide))) (Ex.kp e_42) (by decide))) (Ex.kp e_45) (by decide))) (Ex.kp e_50) (by decide))
  refine T_vmul d_Cu_code_178 (jw_Fi_multiply.jo (by decide)) lm_Cu_74 (Nat.le_of_ble_eq_true rfl) (by decide) (by decide) (by decide) (Rv.rq p_55) v_50 p_53 (by decide) (fun M_54 v_54 e_54 => ?_)
  obtain ⟨x_55, hx_55⟩ : ∃ z : Int, z = (x_50 * T) := ⟨_, rfl⟩
  rw [← hx_55] at v_54
  refine T_aload_n (v := .ref 77) d_Cu_code_181 rfl (Or.inr ⟨_, rfl⟩) ?_
  have h_56 := (e_54 77 (by decide)).trans (h_51)
  refine T_getfield (v := .ref 78) d_Cu_code_182 fg_Cu_10 h_56 rfl ?_
  refine T_aload_n (v := .ref 77) d_Cu_code_185 rfl (Or.inr ⟨_, rfl⟩) ?_
  refine T_getfield (v := .ref 96) d_Cu_code_186 fg_Cu_43 h_56 rfl ?_
  have h_58 := (e_54 78 (by decide)).trans ((e_50 78 (by decide)).trans ((e_45 78 (by decide)).trans ((e_42 78 (by decide)).trans ((e_38 78 (by decide)).trans ((k_24 78 (by decide)).trans (h_27))))))
  have p_59 := (RQ.kp ((RQ.kp ((RQ.kp ((RQ.kp ((RQ.kp (q79_24) (Ex.kp e_38) (by decide))) (Ex.kp e_42) (by decide))) (Ex.kp e_45) (by decide))) (Ex.kp e_50) (by decide))) (Ex.kp e_54) (by decide))
  refine T_visodd d_Cu_code_189 (jw_Fi_isOdd.jo (by decide)) lm_Cu_127 (Nat.le_of_ble_eq_true rfl) (by decide) (by decide) h_58 p_59 v_54 (by decide) (fun M_57 w_57 e_57 => ?_)
  by_cases hb_57 : (x_55 % pP) % 2 = 1
  · rw [if_pos hb_57]
    refine T_eq (pc' := 192) (L' := [(0, .ref 77), (1, .ref p), (2, .ref q)]) (st' := [.int (nI 1)]) (M' := M_57) rfl rfl rfl rfl ?_
    refine N_if_eq_f (b := 1) d_Cu_code_192 (tgt := 240) rfl (by omega) (by omega) ?_
    refine T_aload_n (v := .ref 77) d_Cu_code_195 rfl (Or.inr ⟨_, rfl⟩) ?_
    have h_60 := (e_57 77 (by decide)).trans (h_56)
    refine T_getfield (v := .ref 97) d_Cu_code_196 fg_Cu_46 h_60 rfl ?_
    refine T_aload_n (v := .ref p) d_Cu_code_199 rfl (Or.inr ⟨_, rfl⟩) ?_
    have h_61 := (e_57 p (hi_ne b_p (by decide))).trans ((e_54 p (hi_ne b_p (by decide))).trans (h_52))
    refine T_getfield (v := .ref py) d_Cu_code_200 fg_Cu_64 h_61 rfl ?_
    refine T_getstatic (q := ("PasswordGate$Field", "I", "[J", .ref 2)) d_Cu_code_203 (List.mem_of_getElem? (i := 2) rfl) gs_Cu_131 (show 2 < K0 by decide) ?_
    have p_62 := (RV.kp ((RV.kp ((RV.kp ((RV.kp ((RV.kp ((RV.kp ((RV.kp ((RV.kp ((RV.kp ((RV.kp (p_14) (Ex.kp e_15) (hi_nin b_py (by decide)))) (Ex.kp e_18) (hi_nin b_py (by decide)))) (Ex.kp e_22) (hi_nin b_py (by decide)))) k_24 (hi_nin b_py (by decide)))) (Ex.kp e_38) (hi_nin b_py (by decide)))) (Ex.kp e_42) (hi_nin b_py (by decide)))) (Ex.kp e_45) (hi_nin b_py (by decide)))) (Ex.kp e_50) (hi_nin b_py (by decide)))) (Ex.kp e_54) (hi_nin b_py (by decide)))) (Ex.kp e_57) (hi_nin b_py (by decide)))
    have c_63 : RV M 2 cv_2 1 := ⟨_, hK0 2 (by decide), vt_2⟩
    have p_64 := (RV.kp ((RV.kp ((RV.kp ((RV.kp ((RV.kp ((RV.kp ((RV.kp ((RV.kp ((RV.kp ((RV.kp ((RV.kp ((RV.kp ((RV.kp (c_63) (Ex.kp e_1) (by decide))) (Ex.kp e_6) (by decide))) (Ex.kp e_10) (by decide))) (Ex.kp e_15) (by decide))) (Ex.kp e_18) (by decide))) (Ex.kp e_22) (by decide))) k_24 (by decide))) (Ex.kp e_38) (by decide))) (Ex.kp e_42) (by decide))) (Ex.kp e_45) (by decide))) (Ex.kp e_50) (by decide))) (Ex.kp e_54) (by decide))) (Ex.kp e_57) (by decide))
    have p_66 := (RQ.kp ((RQ.kp ((RQ.kp ((RQ.kp ((RQ.kp ((RQ.kp ((RQ.kp ((RQ.kp ((RQ.kp ((RQ.kp ((RQ.kp ((RQ.kp ((RQ.kp ((hcs.2.2 97 (by decide))) (Ex.kp e_1) (by decide))) (Ex.kp e_6) (by decide))) (Ex.kp e_10) (by decide))) (Ex.kp e_15) (by decide))) (Ex.kp e_18) (by decide))) (Ex.kp e_22) (by decide))) k_24 (by decide))) (Ex.kp e_38) (by decide))) (Ex.kp e_42) (by decide))) (Ex.kp e_45) (by decide))) (Ex.kp e_50) (by decide))) (Ex.kp e_54) (by decide))) (Ex.kp e_57) (by decide))
    refine T_vmul d_Cu_code_206 (jw_Fi_multiply.jo (by decide)) lm_Cu_74 (Nat.le_of_ble_eq_true rfl) (by decide) (by decide) (by decide) p_66 p_62 p_64 (by decide) (fun M_65 v_65 e_65 => ?_)
    obtain ⟨x_66, hx_66⟩ : ∃ z : Int, z = (Y * cv_2) := ⟨_, rfl⟩
    rw [← hx_66] at v_65
    refine T_aload_n (v := .ref 77) d_Cu_code_209 rfl (Or.inr ⟨_, rfl⟩) ?_
    have h_67 := (e_65 77 (by decide)).trans (h_60)
    refine T_getfield (v := .ref 98) d_Cu_code_210 fg_Cu_49 h_67 rfl ?_
    refine T_aload_n (v := .ref p) d_Cu_code_213 rfl (Or.inr ⟨_, rfl⟩) ?_
    have h_68 := (e_65 p (hi_ne b_p (by decide))).trans (h_61)
    refine T_getfield (v := .ref px) d_Cu_code_214 fg_Cu_67 h_68 rfl ?_
    refine T_getstatic (q := ("PasswordGate$Field", "I", "[J", .ref 2)) d_Cu_code_217 (List.mem_of_getElem? (i := 2) rfl) gs_Cu_131 (show 2 < K0 by decide) ?_
    have p_69 := (RV.kp ((RV.kp ((RV.kp ((RV.kp ((RV.kp ((RV.kp ((RV.kp ((RV.kp ((RV.kp ((RV.kp ((RV.kp (p_13) (Ex.kp e_15) (hi_nin b_px (by decide)))) (Ex.kp e_18) (hi_nin b_px (by decide)))) (Ex.kp e_22) (hi_nin b_px (by decide)))) k_24 (hi_nin b_px (by decide)))) (Ex.kp e_38) (hi_nin b_px (by decide)))) (Ex.kp e_42) (hi_nin b_px (by decide)))) (Ex.kp e_45) (hi_nin b_px (by decide)))) (Ex.kp e_50) (hi_nin b_px (by decide)))) (Ex.kp e_54) (hi_nin b_px (by decide)))) (Ex.kp e_57) (hi_nin b_px (by decide)))) (Ex.kp e_65) (hi_nin b_px (by decide)))
    have p_70 := (RV.kp (p_64) (Ex.kp e_65) (by decide))
    have p_72 := (RQ.kp ((RQ.kp ((RQ.kp ((RQ.kp ((RQ.kp ((RQ.kp ((RQ.kp ((RQ.kp ((RQ.kp ((RQ.kp ((RQ.kp ((RQ.kp ((RQ.kp ((RQ.kp ((hcs.2.2 98 (by decide))) (Ex.kp e_1) (by decide))) (Ex.kp e_6) (by decide))) (Ex.kp e_10) (by decide))) (Ex.kp e_15) (by decide))) (Ex.kp e_18) (by decide))) (Ex.kp e_22) (by decide))) k_24 (by decide))) (Ex.kp e_38) (by decide))) (Ex.kp e_42) (by decide))) (Ex.kp e_45) (by decide))) (Ex.kp e_50) (by decide))) (Ex.kp e_54) (by decide))) (Ex.kp e_57) (by decide))) (Ex.kp e_65) (by decide))
    refine T_vmul d_Cu_code_220 (jw_Fi_multiply.jo (by decide)) lm_Cu_74 (Nat.le_of_ble_eq_true rfl) (by decide) (by decide) (by decide) p_72 p_69 p_70 (by decide) (fun M_71 v_71 e_71 => ?_)
    obtain ⟨x_72, hx_72⟩ : ∃ z : Int, z = (X * cv_2) := ⟨_, rfl⟩
    rw [← hx_72] at v_71
    refine T_aload_n (v := .ref 77) d_Cu_code_223 rfl (Or.inr ⟨_, rfl⟩) ?_
    have h_73 := (e_71 77 (by decide)).trans (h_67)
    refine T_getfield (v := .ref 99) d_Cu_code_224 fg_Cu_52 h_73 rfl ?_
    refine T_aload_n (v := .ref 77) d_Cu_code_227 rfl (Or.inr ⟨_, rfl⟩) ?_
    refine T_getfield (v := .ref 94) d_Cu_code_228 fg_Cu_36 h_73 rfl ?_
    refine T_getstatic (q := ("PasswordGate$Curve", "E", "[J", .ref 9)) d_Cu_code_231 (List.mem_of_getElem? (i := 9) rfl) gs_Cu_134 (show 9 < K0 by decide) ?_
    have p_74 := (RV.kp ((RV.kp ((RV.kp ((RV.kp ((RV.kp ((RV.kp (p_44) (Ex.kp e_45) (by decide))) (Ex.kp e_50) (by decide))) (Ex.kp e_54) (by decide))) (Ex.kp e_57) (by decide))) (Ex.kp e_65) (by decide))) (Ex.kp e_71) (by decide))
    have c_75 : RV M 9 cv_9 1 := ⟨_, hK0 9 (by decide), vt_9⟩
    have p_76 := (RV.kp ((RV.kp ((RV.kp ((RV.kp ((RV.kp ((RV.kp ((RV.kp ((RV.kp ((RV.kp ((RV.kp ((RV.kp ((RV.kp ((RV.kp ((RV.kp ((RV.kp (c_75) (Ex.kp e_1) (by decide))) (Ex.kp e_6) (by decide))) (Ex.kp e_10) (by decide))) (Ex.kp e_15) (by decide))) (Ex.kp e_18) (by decide))) (Ex.kp e_22) (by decide))) k_24 (by decide))) (Ex.kp e_38) (by decide))) (Ex.kp e_42) (by decide))) (Ex.kp e_45) (by decide))) (Ex.kp e_50) (by decide))) (Ex.kp e_54) (by decide))) (Ex.kp e_57) (by decide))) (Ex.kp e_65) (by decide))) (Ex.kp e_71) (by decide))
    have p_78 := (RQ.kp ((RQ.kp ((RQ.kp ((RQ.kp ((RQ.kp ((RQ.kp ((RQ.kp ((RQ.kp ((RQ.kp ((RQ.kp ((RQ.kp ((RQ.kp ((RQ.kp ((RQ.kp ((RQ.kp ((hcs.2.2 99 (by decide))) (Ex.kp e_1) (by decide))) (Ex.kp e_6) (by decide))) (Ex.kp e_10) (by decide))) (Ex.kp e_15) (by decide))) (Ex.kp e_18) (by decide))) (Ex.kp e_22) (by decide))) k_24 (by decide))) (Ex.kp e_38) (by decide))) (Ex.kp e_42) (by decide))) (Ex.kp e_45) (by decide))) (Ex.kp e_50) (by decide))) (Ex.kp e_54) (by decide))) (Ex.kp e_57) (by decide))) (Ex.kp e_65) (by decide))) (Ex.kp e_71) (by decide))
    refine T_vmul d_Cu_code_234 (jw_Fi_multiply.jo (by decide)) lm_Cu_74 (Nat.le_of_ble_eq_true rfl) (by decide) (by decide) (by decide) p_78 p_74 p_76 (by decide) (fun M_77 v_77 e_77 => ?_)
    obtain ⟨x_78, hx_78⟩ : ∃ z : Int, z = (x_38 * cv_9) := ⟨_, rfl⟩
    rw [← hx_78] at v_77
    refine T_goto (tgt := 273) d_Cu_code_237 rfl ?_
    refine T_aload_n (v := .ref 77) d_Cu_code_273 rfl (Or.inr ⟨_, rfl⟩) ?_
    have h_79 := (e_77 77 (by decide)).trans (h_73)
    refine T_getfield (v := .ref 96) d_Cu_code_274 fg_Cu_43 h_79 rfl ?_
    refine T_aload_n (v := .ref 77) d_Cu_code_277 rfl (Or.inr ⟨_, rfl⟩) ?_
    refine T_getfield (v := .ref 97) d_Cu_code_278 fg_Cu_46 h_79 rfl ?_
    refine T_aload_n (v := .ref 77) d_Cu_code_281 rfl (Or.inr ⟨_, rfl⟩) ?_
    refine T_getfield (v := .ref 102) d_Cu_code_282 fg_Cu_61 h_79 rfl ?_
    have p_80 := (RV.kp ((RV.kp (v_65) (Ex.kp e_71) (by decide))) (Ex.kp e_77) (by decide))
    have p_81 := (RV.kp ((RV.kp ((RV.kp ((RV.kp ((RV.kp (v_50) (Ex.kp e_54) (by decide))) (Ex.kp e_57) (by decide))) (Ex.kp e_65) (by decide))) (Ex.kp e_71) (by decide))) (Ex.kp e_77) (by decide))
    have p_83 := (RV.kp ((RV.kp ((RV.kp ((RV.kp (v_54) (Ex.kp e_57) (by decide))) (Ex.kp e_65) (by decide))) (Ex.kp e_71) (by decide))) (Ex.kp e_77) (by decide))
    refine T_vmul d_Cu_code_285 (jw_Fi_multiply.jo (by decide)) lm_Cu_74 (Nat.le_of_ble_eq_true rfl) (by decide) (by decide) (by decide) (Rv.rq p_83) p_80 p_81 (by decide) (fun M_82 v_82 e_82 => ?_)
    obtain ⟨x_83, hx_83⟩ : ∃ z : Int, z = (x_66 * x_50) := ⟨_, rfl⟩
    rw [← hx_83] at v_82
    refine T_aload_n (v := .ref 77) d_Cu_code_288 rfl (Or.inr ⟨_, rfl⟩) ?_
    have h_84 := (e_82 77 (by decide)).trans (h_79)
    refine T_getfield (v := .ref 78) d_Cu_code_289 fg_Cu_10 h_84 rfl ?_
    refine T_aload_n (v := .ref 77) d_Cu_code_292 rfl (Or.inr ⟨_, rfl⟩) ?_
    refine T_getfield (v := .ref 96) d_Cu_code_293 fg_Cu_43 h_84 rfl ?_
    have h_86 := (e_82 78 (by decide)).trans ((e_77 78 (by decide)).trans ((e_71 78 (by decide)).trans ((e_65 78 (by decide)).trans ((e_57 78 (by decide)).trans (h_58)))))
    have p_87 := (RQ.kp ((RQ.kp ((RQ.kp ((RQ.kp (w_57) (Ex.kp e_65) (by decide))) (Ex.kp e_71) (by decide))) (Ex.kp e_77) (by decide))) (Ex.kp e_82) (by decide))
    refine T_visodd d_Cu_code_296 (jw_Fi_isOdd.jo (by decide)) lm_Cu_127 (Nat.le_of_ble_eq_true rfl) (by decide) (by decide) h_86 p_87 v_82 (by decide) (fun M_85 w_85 e_85 => ?_)
    by_cases hb_85 : (x_83 % pP) % 2 = 1
    · rw [if_pos hb_85]
      refine T_eq (pc' := 299) (L' := [(0, .ref 77), (1, .ref p), (2, .ref q)]) (st' := [.int (nI 1)]) (M' := M_85) rfl rfl rfl rfl ?_
      refine N_if_eq_f (b := 1) d_Cu_code_299 (tgt := 313) rfl (by omega) (by omega) ?_
      refine T_aload_n (v := .ref 77) d_Cu_code_302 rfl (Or.inr ⟨_, rfl⟩) ?_
      have h_88 := (e_85 77 (by decide)).trans (h_84)
      refine T_getfield (v := .ref 98) d_Cu_code_303 fg_Cu_49 h_88 rfl ?_
      refine T_aload_n (v := .ref 77) d_Cu_code_306 rfl (Or.inr ⟨_, rfl⟩) ?_
      refine T_getfield (v := .ref 98) d_Cu_code_307 fg_Cu_49 h_88 rfl ?_
      have p_89 := (RV.kp ((RV.kp ((RV.kp (v_71) (Ex.kp e_77) (by decide))) (Ex.kp e_82) (by decide))) (Ex.kp e_85) (by decide))
      refine T_vneg d_Cu_code_310 (jw_Fi_negate.jo (by decide)) lm_Cu_139 (Nat.le_of_ble_eq_true rfl) (by decide) (by decide) (by decide) (Rv.rq p_89) p_89 (by decide) (fun M_90 v_90 e_90 => ?_)
      obtain ⟨x_90, hx_90⟩ : ∃ z : Int, z = (-x_72) := ⟨_, rfl⟩
      rw [← hx_90] at v_90
      refine T_aload_n (v := .ref 77) d_Cu_code_313 rfl (Or.inr ⟨_, rfl⟩) ?_
      have h_91 := (e_90 77 (by decide)).trans (h_88)
      refine T_getfield (v := .ref 96) d_Cu_code_314 fg_Cu_43 h_91 rfl ?_
      refine T_aload_n (v := .ref p) d_Cu_code_317 rfl (Or.inr ⟨_, rfl⟩) ?_
      have h_92 := (e_90 p (hi_ne b_p (by decide))).trans ((e_85 p (hi_ne b_p (by decide))).trans ((e_82 p (hi_ne b_p (by decide))).trans ((e_77 p (hi_ne b_p (by decide))).trans ((e_71 p (hi_ne b_p (by decide))).trans (h_68)))))
      refine T_getfield (v := .ref pz) d_Cu_code_318 fg_Cu_86 h_92 rfl ?_
      refine T_aload_n (v := .ref 77) d_Cu_code_321 rfl (Or.inr ⟨_, rfl⟩) ?_
      refine T_getfield (v := .ref 98) d_Cu_code_322 fg_Cu_49 h_91 rfl ?_
      have p_93 := (RV.kp ((RV.kp ((RV.kp ((RV.kp ((RV.kp ((RV.kp ((RV.kp ((RV.kp ((RV.kp ((RV.kp ((RV.kp ((RV.kp ((RV.kp ((RV.kp ((RV.kp ((RV.kp ((RV.kp ((RV.kp (p_4) (Ex.kp e_6) (hi_nin b_pz (by decide)))) (Ex.kp e_10) (hi_nin b_pz (by decide)))) (Ex.kp e_15) (hi_nin b_pz (by decide)))) (Ex.kp e_18) (hi_nin b_pz (by decide)))) (Ex.kp e_22) (hi_nin b_pz (by decide)))) k_24 (hi_nin b_pz (by decide)))) (Ex.kp e_38) (hi_nin b_pz (by decide)))) (Ex.kp e_42) (hi_nin b_pz (by decide)))) (Ex.kp e_45) (hi_nin b_pz (by decide)))) (Ex.kp e_50) (hi_nin b_pz (by decide)))) (Ex.kp e_54) (hi_nin b_pz (by decide)))) (Ex.kp e_57) (hi_nin b_pz (by decide)))) (Ex.kp e_65) (hi_nin b_pz (by decide)))) (Ex.kp e_71) (hi_nin b_pz (by decide)))) (Ex.kp e_77) (hi_nin b_pz (by decide)))) (Ex.kp e_82) (hi_nin b_pz (by decide)))) (Ex.kp e_85) (hi_nin b_pz (by decide)))) (Ex.kp e_90) (hi_nin b_pz (by decide)))
      have p_95 := (RV.kp ((RV.kp (v_82) (Ex.kp e_85) (by decide))) (Ex.kp e_90) (by decide))
      refine T_vsub d_Cu_code_325 (jw_Fi_subtract.jo (by decide)) lm_Cu_70 (Nat.le_of_ble_eq_true rfl) (by decide) (by decide) (by decide) (Rv.rq p_95) p_93 v_90 (by decide) (fun M_94 v_94 e_94 => ?_)
      obtain ⟨x_95, hx_95⟩ : ∃ z : Int, z = (Z - x_90) := ⟨_, rfl⟩
      rw [← hx_95] at v_94
      refine T_aload_n (v := .ref 77) d_Cu_code_328 rfl (Or.inr ⟨_, rfl⟩) ?_
      have h_96 := (e_94 77 (by decide)).trans (h_91)
      refine T_getfield (v := .ref 96) d_Cu_code_329 fg_Cu_43 h_96 rfl ?_
      refine T_aload_n (v := .ref 77) d_Cu_code_332 rfl (Or.inr ⟨_, rfl⟩) ?_
      refine T_getfield (v := .ref 96) d_Cu_code_333 fg_Cu_43 h_96 rfl ?_
      refine T_aload_n (v := .ref 77) d_Cu_code_336 rfl (Or.inr ⟨_, rfl⟩) ?_
      refine T_getfield (v := .ref 99) d_Cu_code_337 fg_Cu_52 h_96 rfl ?_
      have p_97 := (RV.kp ((RV.kp ((RV.kp ((RV.kp (v_77) (Ex.kp e_82) (by decide))) (Ex.kp e_85) (by decide))) (Ex.kp e_90) (by decide))) (Ex.kp e_94) (by decide))
      refine T_vmul d_Cu_code_340 (jw_Fi_multiply.jo (by decide)) lm_Cu_74 (Nat.le_of_ble_eq_true rfl) (by decide) (by decide) (by decide) (Rv.rq v_94) v_94 p_97 (by decide) (fun M_98 v_98 e_98 => ?_)
      obtain ⟨x_98, hx_98⟩ : ∃ z : Int, z = (x_95 * x_78) := ⟨_, rfl⟩
      rw [← hx_98] at v_98
      refine T_aload_n (v := .ref 77) d_Cu_code_343 rfl (Or.inr ⟨_, rfl⟩) ?_
      have h_99 := (e_98 77 (by decide)).trans (h_96)
      refine T_getfield (v := .ref 78) d_Cu_code_344 fg_Cu_10 h_99 rfl ?_
      refine T_aload_n (v := .ref 77) d_Cu_code_347 rfl (Or.inr ⟨_, rfl⟩) ?_
      refine T_getfield (v := .ref 96) d_Cu_code_348 fg_Cu_43 h_99 rfl ?_
      have h_101 := (e_98 78 (by decide)).trans ((e_94 78 (by decide)).trans ((e_90 78 (by decide)).trans ((e_85 78 (by decide)).trans (h_86))))
      have p_102 := (RQ.kp ((RQ.kp ((RQ.kp (w_85) (Ex.kp e_90) (by decide))) (Ex.kp e_94) (by decide))) (Ex.kp e_98) (by decide))
      refine T_visodd d_Cu_code_351 (jw_Fi_isOdd.jo (by decide)) lm_Cu_127 (Nat.le_of_ble_eq_true rfl) (by decide) (by decide) h_101 p_102 v_98 (by decide) (fun M_100 w_100 e_100 => ?_)
      by_cases hb_100 : (x_98 % pP) % 2 = 1
      · rw [if_pos hb_100]
        refine T_eq (pc' := 354) (L' := [(0, .ref 77), (1, .ref p), (2, .ref q)]) (st' := [.int (nI 1)]) (M' := M_100) rfl rfl rfl rfl ?_
        refine N_if_eq_f (b := 1) d_Cu_code_354 (tgt := 368) rfl (by omega) (by omega) ?_
        refine T_aload_n (v := .ref 77) d_Cu_code_357 rfl (Or.inr ⟨_, rfl⟩) ?_
        have h_103 := (e_100 77 (by decide)).trans (h_99)
        refine T_getfield (v := .ref 96) d_Cu_code_358 fg_Cu_43 h_103 rfl ?_
        refine T_aload_n (v := .ref 77) d_Cu_code_361 rfl (Or.inr ⟨_, rfl⟩) ?_
        refine T_getfield (v := .ref 96) d_Cu_code_362 fg_Cu_43 h_103 rfl ?_
        have p_104 := (RV.kp (v_98) (Ex.kp e_100) (by decide))
        refine T_vneg d_Cu_code_365 (jw_Fi_negate.jo (by decide)) lm_Cu_139 (Nat.le_of_ble_eq_true rfl) (by decide) (by decide) (by decide) (Rv.rq p_104) p_104 (by decide) (fun M_105 v_105 e_105 => ?_)
        obtain ⟨x_105, hx_105⟩ : ∃ z : Int, z = (-x_98) := ⟨_, rfl⟩
        rw [← hx_105] at v_105
        refine T_aload_n (v := .ref 77) d_Cu_code_368 rfl (Or.inr ⟨_, rfl⟩) ?_
        have h_106 := (e_105 77 (by decide)).trans (h_103)
        refine T_getfield (v := .ref 78) d_Cu_code_369 fg_Cu_10 h_106 rfl ?_
        refine T_aload_n (v := .ref 77) d_Cu_code_372 rfl (Or.inr ⟨_, rfl⟩) ?_
        refine T_getfield (v := .ref 96) d_Cu_code_373 fg_Cu_43 h_106 rfl ?_
        refine T_aload_n (v := .ref q) d_Cu_code_376 rfl (Or.inr ⟨_, rfl⟩) ?_
        have p_108 := (BY.kp ((BY.kp ((BY.kp ((BY.kp ((BY.kp ((BY.kp ((BY.kp ((BY.kp ((BY.kp ((BY.kp ((BY.kp ((BY.kp ((BY.kp ((BY.kp ((BY.kp ((BY.kp ((BY.kp ((BY.kp ((BY.kp ((BY.kp ((BY.kp ((BY.kp ((BY.kp (hq) (Ex.kp e_1) (hi_nin b_q (by decide)) (hi_nin b_d (by decide)))) (Ex.kp e_6) (hi_nin b_q (by decide)) (hi_nin b_d (by decide)))) (Ex.kp e_10) (hi_nin b_q (by decide)) (hi_nin b_d (by decide)))) (Ex.kp e_15) (hi_nin b_q (by decide)) (hi_nin b_d (by decide)))) (Ex.kp e_18) (hi_nin b_q (by decide)) (hi_nin b_d (by decide)))) (Ex.kp e_22) (hi_nin b_q (by decide)) (hi_nin b_d (by decide)))) k_24 (hi_nin b_q (by decide)) (hi_nin b_d (by decide)))) (Ex.kp e_38) (hi_nin b_q (by decide)) (hi_nin b_d (by decide)))) (Ex.kp e_42) (hi_nin b_q (by decide)) (hi_nin b_d (by decide)))) (Ex.kp e_45) (hi_nin b_q (by decide)) (hi_nin b_d (by decide)))) (Ex.kp e_50) (hi_nin b_q (by decide)) (hi_nin b_d (by decide)))) (Ex.kp e_54) (hi_nin b_q (by decide)) (hi_nin b_d (by decide)))) (Ex.kp e_57) (hi_nin b_q (by decide)) (hi_nin b_d (by decide)))) (Ex.kp e_65) (hi_nin b_q (by decide)) (hi_nin b_d (by decide)))) (Ex.kp e_71) (hi_nin b_q (by decide)) (hi_nin b_d (by decide)))) (Ex.kp e_77) (hi_nin b_q (by decide)) (hi_nin b_d (by decide)))) (Ex.kp e_82) (hi_nin b_q (by decide)) (hi_nin b_d (by decide)))) (Ex.kp e_85) (hi_nin b_q (by decide)) (hi_nin b_d (by decide)))) (Ex.kp e_90) (hi_nin b_q (by decide)) (hi_nin b_d (by decide)))) (Ex.kp e_94) (hi_nin b_q (by decide)) (hi_nin b_d (by decide)))) (Ex.kp e_98) (hi_nin b_q (by decide)) (hi_nin b_d (by decide)))) (Ex.kp e_100) (hi_nin b_q (by decide)) (hi_nin b_d (by decide)))) (Ex.kp e_105) (hi_nin b_q (by decide)) (hi_nin b_d (by decide)))
        have h_109 := (e_105 78 (by decide)).trans ((e_100 78 (by decide)).trans (h_101))
        have p_110 := (RQ.kp (w_100) (Ex.kp e_105) (by decide))
        refine T_virtual (as := [.ref 96, .ref q]) (rest := []) (b := 78) d_Cu_code_377 rfl (jw_Fi_save.jo (by decide)) lm_Cu_142 ji_Fi_save js_Fi_save h_109 rfl rfl rfl (Nat.le_of_ble_eq_true rfl) (by decide) (by decide) (y_Fi_save h_109 p_110 v_105 (by decide) p_108 k_d hne hroom hroom2 (hi_ne b_q (by decide)) (hi_ne b_q (by decide)) (hi_ne b_d (by decide)) (hi_ne b_d (by decide))) (fun r M_107 hq => ?_)
        obtain ⟨rfl, sv, w_107, k_107⟩ := hq
        refine T_eq (pc' := 380) (L' := [(0, .ref 77), (1, .ref p), (2, .ref q)]) (st' := []) (M' := M_107) rfl rfl rfl rfl ?_
        have a20 : ph x_10 = cAq (ph Y) (ph Z) := by rw [hx_10, ph_mul, hx_1, ph_add, hx_7, ph_sub]; rfl
        have a21 : ph x_16 = ph X * ph Y := by rw [hx_16, ph_mul]
        have aR : ph x_24 = cR (ph X) (ph Y) (ph Z) := by rw [hx_24, ph_rt, ph_3, hx_22, ph_mul, hx_19, ph_mul, a20, a21]; rfl
        have aS : ph x_50 = cS (ph X) (ph Y) (ph Z) (ph T) := by rw [hx_50, ph_mul, hx_46, ph_mul, hx_42, ph_mul, hx_38, ph_mul, aR, a20, a21]; rfl
        have t1 : ph x_55 = ph x_50 * ph T := by rw [hx_55, ph_mul]
        have he : ph x_66 = ph Y * fI := by rw [hx_66, ph_mul, ph_I]
        have hf : ph x_72 = ph X * fI := by rw [hx_72, ph_mul, ph_I]
        have hg : ph x_78 = cAq (ph Y) (ph Z) * cR (ph X) (ph Y) (ph Z) * fE := by rw [hx_78, ph_mul, hx_38, ph_mul, a20, aR, ph_9]
        have t2 : ph x_83 = ph x_66 * ph x_50 := by rw [hx_83, ph_mul]
        have hf2 : ph x_90 = -ph x_72 := by rw [hx_90, ph_neg]
        have t3 : ph x_98 = (ph Z - ph x_90) * ph x_78 := by rw [hx_98, ph_mul, hx_95, ph_sub]
        have hc : ph x_105 = -ph x_98 := by rw [hx_105, ph_neg]
        have fin := cF_of (X := ph X) (Y := ph Y) (Z := ph Z) (T := ph T) aS (Or.inl ⟨(od_of t1).mpr hb_57, he, hf, hg⟩) (Or.inl ⟨(od_of t2).mpr hb_85, hf2⟩) t3 (Or.inl ⟨od_ph.mpr hb_100, hc⟩)
        rw [fin, cF_pj jp] at sv
        have K : Kp [79, 80, 81, 82, 83, 84, 85, 94, 95, 96, 97, 98, 99, 100, 101, 102, q, d] M M_107 := (Kp.tr (Kp.ex (Kp.ex (Kp.ex (Kp.ex (Kp.ex (Kp.ex (Kp.ex (Kp.ex (Kp.ex (Kp.ex (Kp.ex (Kp.ex (Kp.ex (Kp.ex (Kp.ex (Kp.ex (Kp.tr (Kp.ex (Kp.ex (Kp.ex (Kp.ex (Kp.ex (Kp.ex (Kp.rf : Kp [79, 80, 81, 82, 83, 84, 85, 94, 95, 96, 97, 98, 99, 100, 101, 102, q, d] M M) e_1 (by simp)) e_6 (by simp)) e_10 (by simp)) e_15 (by simp)) e_18 (by simp)) e_22 (by simp)) (Kp.mono k_24 (by simp))) e_38 (by simp)) e_42 (by simp)) e_45 (by simp)) e_50 (by simp)) e_54 (by simp)) e_57 (by simp)) e_65 (by simp)) e_71 (by simp)) e_77 (by simp)) e_82 (by simp)) e_85 (by simp)) e_90 (by simp)) e_94 (by simp)) e_98 (by simp)) e_100 (by simp)) e_105 (by simp)) (Kp.mono k_107 (by simp)))
        have p_111 := (RV.kp ((RV.kp ((RV.kp ((RV.kp ((RV.kp ((RV.kp ((RV.kp ((RV.kp (p_81) (Ex.kp e_82) (by decide))) (Ex.kp e_85) (by decide))) (Ex.kp e_90) (by decide))) (Ex.kp e_94) (by decide))) (Ex.kp e_98) (by decide))) (Ex.kp e_100) (by decide))) (Ex.kp e_105) (by decide))) k_107 (by simp only [List.mem_cons, List.not_mem_nil, or_false, not_or]; exact ⟨(by decide), (Ne.symm (hi_ne b_q (by decide))), (Ne.symm (hi_ne b_d (by decide)))⟩))
        have p_112 := (RV.kp ((RV.kp ((RV.kp ((RV.kp ((RV.kp ((RV.kp ((RV.kp ((RV.kp ((RV.kp ((RV.kp ((RV.kp ((RV.kp ((RV.kp ((RV.kp ((RV.kp ((RV.kp (p_41) (Ex.kp e_42) (by decide))) (Ex.kp e_45) (by decide))) (Ex.kp e_50) (by decide))) (Ex.kp e_54) (by decide))) (Ex.kp e_57) (by decide))) (Ex.kp e_65) (by decide))) (Ex.kp e_71) (by decide))) (Ex.kp e_77) (by decide))) (Ex.kp e_82) (by decide))) (Ex.kp e_85) (by decide))) (Ex.kp e_90) (by decide))) (Ex.kp e_94) (by decide))) (Ex.kp e_98) (by decide))) (Ex.kp e_100) (by decide))) (Ex.kp e_105) (by decide))) k_107 (by simp only [List.mem_cons, List.not_mem_nil, or_false, not_or]; exact ⟨(by decide), (Ne.symm (hi_ne b_q (by decide))), (Ne.symm (hi_ne b_d (by decide)))⟩))
        have p_113 := (RQ.kp ((RQ.kp ((RQ.kp ((RQ.kp ((RQ.kp ((RQ.kp ((RQ.kp ((RQ.kp ((RQ.kp ((RQ.kp ((RQ.kp ((RQ.kp ((RQ.kp ((RQ.kp ((RQ.kp ((RQ.kp ((RQ.kp ((RQ.kp ((RQ.kp ((RQ.kp ((RQ.kp ((RQ.kp ((RQ.kp ((RQ.kp ((hcs.2.2 100 (by decide))) (Ex.kp e_1) (by decide))) (Ex.kp e_6) (by decide))) (Ex.kp e_10) (by decide))) (Ex.kp e_15) (by decide))) (Ex.kp e_18) (by decide))) (Ex.kp e_22) (by decide))) k_24 (by decide))) (Ex.kp e_38) (by decide))) (Ex.kp e_42) (by decide))) (Ex.kp e_45) (by decide))) (Ex.kp e_50) (by decide))) (Ex.kp e_54) (by decide))) (Ex.kp e_57) (by decide))) (Ex.kp e_65) (by decide))) (Ex.kp e_71) (by decide))) (Ex.kp e_77) (by decide))) (Ex.kp e_82) (by decide))) (Ex.kp e_85) (by decide))) (Ex.kp e_90) (by decide))) (Ex.kp e_94) (by decide))) (Ex.kp e_98) (by decide))) (Ex.kp e_100) (by decide))) (Ex.kp e_105) (by decide))) k_107 (by simp only [List.mem_cons, List.not_mem_nil, or_false, not_or]; exact ⟨(by decide), (Ne.symm (hi_ne b_q (by decide))), (Ne.symm (hi_ne b_d (by decide)))⟩))
        have p_114 := (RV.kp ((RV.kp ((RV.kp ((RV.kp (p_97) (Ex.kp e_98) (by decide))) (Ex.kp e_100) (by decide))) (Ex.kp e_105) (by decide))) k_107 (by simp only [List.mem_cons, List.not_mem_nil, or_false, not_or]; exact ⟨(by decide), (Ne.symm (hi_ne b_q (by decide))), (Ne.symm (hi_ne b_d (by decide)))⟩))
        have p_115 := (RV.kp ((RV.kp ((RV.kp ((RV.kp ((RV.kp (v_90) (Ex.kp e_94) (by decide))) (Ex.kp e_98) (by decide))) (Ex.kp e_100) (by decide))) (Ex.kp e_105) (by decide))) k_107 (by simp only [List.mem_cons, List.not_mem_nil, or_false, not_or]; exact ⟨(by decide), (Ne.symm (hi_ne b_q (by decide))), (Ne.symm (hi_ne b_d (by decide)))⟩))
        have p_116 := (RV.kp ((RV.kp ((RV.kp ((RV.kp ((RV.kp ((RV.kp ((RV.kp ((RV.kp (p_80) (Ex.kp e_82) (by decide))) (Ex.kp e_85) (by decide))) (Ex.kp e_90) (by decide))) (Ex.kp e_94) (by decide))) (Ex.kp e_98) (by decide))) (Ex.kp e_100) (by decide))) (Ex.kp e_105) (by decide))) k_107 (by simp only [List.mem_cons, List.not_mem_nil, or_false, not_or]; exact ⟨(by decide), (Ne.symm (hi_ne b_q (by decide))), (Ne.symm (hi_ne b_d (by decide)))⟩))
        have p_117 := (RV.kp (v_105) k_107 (by simp only [List.mem_cons, List.not_mem_nil, or_false, not_or]; exact ⟨(by decide), (Ne.symm (hi_ne b_q (by decide))), (Ne.symm (hi_ne b_d (by decide)))⟩))
        have p_118 := (RV.kp ((RV.kp ((RV.kp ((RV.kp ((RV.kp ((RV.kp ((RV.kp ((RV.kp ((RV.kp ((RV.kp ((RV.kp ((RV.kp ((RV.kp ((RV.kp ((RV.kp (v_42) (Ex.kp e_45) (by decide))) (Ex.kp e_50) (by decide))) (Ex.kp e_54) (by decide))) (Ex.kp e_57) (by decide))) (Ex.kp e_65) (by decide))) (Ex.kp e_71) (by decide))) (Ex.kp e_77) (by decide))) (Ex.kp e_82) (by decide))) (Ex.kp e_85) (by decide))) (Ex.kp e_90) (by decide))) (Ex.kp e_94) (by decide))) (Ex.kp e_98) (by decide))) (Ex.kp e_100) (by decide))) (Ex.kp e_105) (by decide))) k_107 (by simp only [List.mem_cons, List.not_mem_nil, or_false, not_or]; exact ⟨(by decide), (Ne.symm (hi_ne b_q (by decide))), (Ne.symm (hi_ne b_d (by decide)))⟩))
        have p_119 := (RV.kp ((RV.kp ((RV.kp ((RV.kp ((RV.kp ((RV.kp ((RV.kp ((RV.kp ((RV.kp (p_74) (Ex.kp e_77) (by decide))) (Ex.kp e_82) (by decide))) (Ex.kp e_85) (by decide))) (Ex.kp e_90) (by decide))) (Ex.kp e_94) (by decide))) (Ex.kp e_98) (by decide))) (Ex.kp e_100) (by decide))) (Ex.kp e_105) (by decide))) k_107 (by simp only [List.mem_cons, List.not_mem_nil, or_false, not_or]; exact ⟨(by decide), (Ne.symm (hi_ne b_q (by decide))), (Ne.symm (hi_ne b_d (by decide)))⟩))
        have p_120 := (RQ.kp ((RQ.kp ((RQ.kp ((RQ.kp ((RQ.kp ((RQ.kp ((RQ.kp ((RQ.kp ((RQ.kp ((RQ.kp ((RQ.kp ((RQ.kp ((RQ.kp ((RQ.kp ((RQ.kp ((RQ.kp ((RQ.kp (q85_24) (Ex.kp e_38) (by decide))) (Ex.kp e_42) (by decide))) (Ex.kp e_45) (by decide))) (Ex.kp e_50) (by decide))) (Ex.kp e_54) (by decide))) (Ex.kp e_57) (by decide))) (Ex.kp e_65) (by decide))) (Ex.kp e_71) (by decide))) (Ex.kp e_77) (by decide))) (Ex.kp e_82) (by decide))) (Ex.kp e_85) (by decide))) (Ex.kp e_90) (by decide))) (Ex.kp e_94) (by decide))) (Ex.kp e_98) (by decide))) (Ex.kp e_100) (by decide))) (Ex.kp e_105) (by decide))) k_107 (by simp only [List.mem_cons, List.not_mem_nil, or_false, not_or]; exact ⟨(by decide), (Ne.symm (hi_ne b_q (by decide))), (Ne.symm (hi_ne b_d (by decide)))⟩))
        have p_121 := (RQ.kp ((RQ.kp ((RQ.kp ((RQ.kp ((RQ.kp ((RQ.kp ((RQ.kp ((RQ.kp ((RQ.kp ((RQ.kp ((RQ.kp ((RQ.kp ((RQ.kp ((RQ.kp ((RQ.kp ((RQ.kp ((RQ.kp (q84_24) (Ex.kp e_38) (by decide))) (Ex.kp e_42) (by decide))) (Ex.kp e_45) (by decide))) (Ex.kp e_50) (by decide))) (Ex.kp e_54) (by decide))) (Ex.kp e_57) (by decide))) (Ex.kp e_65) (by decide))) (Ex.kp e_71) (by decide))) (Ex.kp e_77) (by decide))) (Ex.kp e_82) (by decide))) (Ex.kp e_85) (by decide))) (Ex.kp e_90) (by decide))) (Ex.kp e_94) (by decide))) (Ex.kp e_98) (by decide))) (Ex.kp e_100) (by decide))) (Ex.kp e_105) (by decide))) k_107 (by simp only [List.mem_cons, List.not_mem_nil, or_false, not_or]; exact ⟨(by decide), (Ne.symm (hi_ne b_q (by decide))), (Ne.symm (hi_ne b_d (by decide)))⟩))
        have p_122 := (RQ.kp ((RQ.kp ((RQ.kp ((RQ.kp ((RQ.kp ((RQ.kp ((RQ.kp ((RQ.kp ((RQ.kp ((RQ.kp ((RQ.kp ((RQ.kp ((RQ.kp ((RQ.kp ((RQ.kp ((RQ.kp ((RQ.kp (q83_24) (Ex.kp e_38) (by decide))) (Ex.kp e_42) (by decide))) (Ex.kp e_45) (by decide))) (Ex.kp e_50) (by decide))) (Ex.kp e_54) (by decide))) (Ex.kp e_57) (by decide))) (Ex.kp e_65) (by decide))) (Ex.kp e_71) (by decide))) (Ex.kp e_77) (by decide))) (Ex.kp e_82) (by decide))) (Ex.kp e_85) (by decide))) (Ex.kp e_90) (by decide))) (Ex.kp e_94) (by decide))) (Ex.kp e_98) (by decide))) (Ex.kp e_100) (by decide))) (Ex.kp e_105) (by decide))) k_107 (by simp only [List.mem_cons, List.not_mem_nil, or_false, not_or]; exact ⟨(by decide), (Ne.symm (hi_ne b_q (by decide))), (Ne.symm (hi_ne b_d (by decide)))⟩))
        have p_123 := (RQ.kp ((RQ.kp ((RQ.kp ((RQ.kp ((RQ.kp ((RQ.kp ((RQ.kp ((RQ.kp ((RQ.kp ((RQ.kp ((RQ.kp ((RQ.kp ((RQ.kp ((RQ.kp ((RQ.kp ((RQ.kp ((RQ.kp (q82_24) (Ex.kp e_38) (by decide))) (Ex.kp e_42) (by decide))) (Ex.kp e_45) (by decide))) (Ex.kp e_50) (by decide))) (Ex.kp e_54) (by decide))) (Ex.kp e_57) (by decide))) (Ex.kp e_65) (by decide))) (Ex.kp e_71) (by decide))) (Ex.kp e_77) (by decide))) (Ex.kp e_82) (by decide))) (Ex.kp e_85) (by decide))) (Ex.kp e_90) (by decide))) (Ex.kp e_94) (by decide))) (Ex.kp e_98) (by decide))) (Ex.kp e_100) (by decide))) (Ex.kp e_105) (by decide))) k_107 (by simp only [List.mem_cons, List.not_mem_nil, or_false, not_or]; exact ⟨(by decide), (Ne.symm (hi_ne b_q (by decide))), (Ne.symm (hi_ne b_d (by decide)))⟩))
        have p_124 := (RQ.kp ((RQ.kp ((RQ.kp ((RQ.kp ((RQ.kp ((RQ.kp ((RQ.kp ((RQ.kp ((RQ.kp ((RQ.kp ((RQ.kp ((RQ.kp ((RQ.kp ((RQ.kp ((RQ.kp ((RQ.kp ((RQ.kp (q81_24) (Ex.kp e_38) (by decide))) (Ex.kp e_42) (by decide))) (Ex.kp e_45) (by decide))) (Ex.kp e_50) (by decide))) (Ex.kp e_54) (by decide))) (Ex.kp e_57) (by decide))) (Ex.kp e_65) (by decide))) (Ex.kp e_71) (by decide))) (Ex.kp e_77) (by decide))) (Ex.kp e_82) (by decide))) (Ex.kp e_85) (by decide))) (Ex.kp e_90) (by decide))) (Ex.kp e_94) (by decide))) (Ex.kp e_98) (by decide))) (Ex.kp e_100) (by decide))) (Ex.kp e_105) (by decide))) k_107 (by simp only [List.mem_cons, List.not_mem_nil, or_false, not_or]; exact ⟨(by decide), (Ne.symm (hi_ne b_q (by decide))), (Ne.symm (hi_ne b_d (by decide)))⟩))
        have p_125 := (RQ.kp ((RQ.kp ((RQ.kp ((RQ.kp ((RQ.kp ((RQ.kp ((RQ.kp ((RQ.kp ((RQ.kp ((RQ.kp ((RQ.kp ((RQ.kp ((RQ.kp ((RQ.kp ((RQ.kp ((RQ.kp ((RQ.kp (q80_24) (Ex.kp e_38) (by decide))) (Ex.kp e_42) (by decide))) (Ex.kp e_45) (by decide))) (Ex.kp e_50) (by decide))) (Ex.kp e_54) (by decide))) (Ex.kp e_57) (by decide))) (Ex.kp e_65) (by decide))) (Ex.kp e_71) (by decide))) (Ex.kp e_77) (by decide))) (Ex.kp e_82) (by decide))) (Ex.kp e_85) (by decide))) (Ex.kp e_90) (by decide))) (Ex.kp e_94) (by decide))) (Ex.kp e_98) (by decide))) (Ex.kp e_100) (by decide))) (Ex.kp e_105) (by decide))) k_107 (by simp only [List.mem_cons, List.not_mem_nil, or_false, not_or]; exact ⟨(by decide), (Ne.symm (hi_ne b_q (by decide))), (Ne.symm (hi_ne b_d (by decide)))⟩))
        have h_126 := (k_107 77 (by simp only [List.mem_cons, List.not_mem_nil, or_false, not_or]; exact ⟨(by decide), (Ne.symm (hi_ne b_q (by decide))), (Ne.symm (hi_ne b_d (by decide)))⟩)).trans (h_106)
        have h_127 := (k_107 78 (by simp only [List.mem_cons, List.not_mem_nil, or_false, not_or]; exact ⟨(by decide), (Ne.symm (hi_ne b_q (by decide))), (Ne.symm (hi_ne b_d (by decide)))⟩)).trans (h_109)
        refine T_vret d_Cu_code_380 rfl (by decide) (by decide) ⟨rfl, hcu0.back ⟨h_126, h_127, (List.forall_mem_cons.mpr ⟨w_107, (List.forall_mem_cons.mpr ⟨p_125, (List.forall_mem_cons.mpr ⟨p_124, (List.forall_mem_cons.mpr ⟨p_123, (List.forall_mem_cons.mpr ⟨p_122, (List.forall_mem_cons.mpr ⟨p_121, (List.forall_mem_cons.mpr ⟨p_120, (List.forall_mem_cons.mpr ⟨(Rv.rq p_119), (List.forall_mem_cons.mpr ⟨(Rv.rq p_118), (List.forall_mem_cons.mpr ⟨(Rv.rq p_117), (List.forall_mem_cons.mpr ⟨(Rv.rq p_116), (List.forall_mem_cons.mpr ⟨(Rv.rq p_115), (List.forall_mem_cons.mpr ⟨(Rv.rq p_114), (List.forall_mem_cons.mpr ⟨p_113, (List.forall_mem_cons.mpr ⟨(Rv.rq p_112), (List.forall_mem_cons.mpr ⟨(Rv.rq p_111), (fun _ h => absurd h (List.not_mem_nil))⟩)⟩)⟩)⟩)⟩)⟩)⟩)⟩)⟩)⟩)⟩)⟩)⟩)⟩)⟩)⟩)⟩ K ?_, sv, K.mono ?_⟩
        · intro z hz; rcases List.mem_append.mp (show z ∈ cuR ++ [q, d] from hz) with h | h
          · exact Or.inl h
          · simp only [List.mem_cons, List.not_mem_nil, or_false] at h; omega
        · intro z hz; rcases List.mem_append.mp (show z ∈ cuR ++ [q, d] from hz) with h | h
          · exact List.mem_cons_of_mem _ (List.mem_cons_of_mem _ ((by decide +kernel : ∀ z ∈ cuR, z ∈ cuW) z h))
          · simp only [List.mem_cons, List.not_mem_nil, or_false] at h; rcases h with rfl | rfl <;> simp
      · rw [if_neg hb_100]
        refine T_eq (pc' := 354) (L' := [(0, .ref 77), (1, .ref p), (2, .ref q)]) (st' := [.int (nI 0)]) (M' := M_100) rfl rfl rfl rfl ?_
        refine N_if_eq_t (b := 0) d_Cu_code_354 (tgt := 368) rfl (by omega) (by omega) ?_
        refine T_aload_n (v := .ref 77) d_Cu_code_368 rfl (Or.inr ⟨_, rfl⟩) ?_
        have h_128 := (e_100 77 (by decide)).trans (h_99)
        refine T_getfield (v := .ref 78) d_Cu_code_369 fg_Cu_10 h_128 rfl ?_
        refine T_aload_n (v := .ref 77) d_Cu_code_372 rfl (Or.inr ⟨_, rfl⟩) ?_
        refine T_getfield (v := .ref 96) d_Cu_code_373 fg_Cu_43 h_128 rfl ?_
        refine T_aload_n (v := .ref q) d_Cu_code_376 rfl (Or.inr ⟨_, rfl⟩) ?_
        have p_129 := (RV.kp (v_98) (Ex.kp e_100) (by decide))
        have p_131 := (BY.kp ((BY.kp ((BY.kp ((BY.kp ((BY.kp ((BY.kp ((BY.kp ((BY.kp ((BY.kp ((BY.kp ((BY.kp ((BY.kp ((BY.kp ((BY.kp ((BY.kp ((BY.kp ((BY.kp ((BY.kp ((BY.kp ((BY.kp ((BY.kp ((BY.kp (hq) (Ex.kp e_1) (hi_nin b_q (by decide)) (hi_nin b_d (by decide)))) (Ex.kp e_6) (hi_nin b_q (by decide)) (hi_nin b_d (by decide)))) (Ex.kp e_10) (hi_nin b_q (by decide)) (hi_nin b_d (by decide)))) (Ex.kp e_15) (hi_nin b_q (by decide)) (hi_nin b_d (by decide)))) (Ex.kp e_18) (hi_nin b_q (by decide)) (hi_nin b_d (by decide)))) (Ex.kp e_22) (hi_nin b_q (by decide)) (hi_nin b_d (by decide)))) k_24 (hi_nin b_q (by decide)) (hi_nin b_d (by decide)))) (Ex.kp e_38) (hi_nin b_q (by decide)) (hi_nin b_d (by decide)))) (Ex.kp e_42) (hi_nin b_q (by decide)) (hi_nin b_d (by decide)))) (Ex.kp e_45) (hi_nin b_q (by decide)) (hi_nin b_d (by decide)))) (Ex.kp e_50) (hi_nin b_q (by decide)) (hi_nin b_d (by decide)))) (Ex.kp e_54) (hi_nin b_q (by decide)) (hi_nin b_d (by decide)))) (Ex.kp e_57) (hi_nin b_q (by decide)) (hi_nin b_d (by decide)))) (Ex.kp e_65) (hi_nin b_q (by decide)) (hi_nin b_d (by decide)))) (Ex.kp e_71) (hi_nin b_q (by decide)) (hi_nin b_d (by decide)))) (Ex.kp e_77) (hi_nin b_q (by decide)) (hi_nin b_d (by decide)))) (Ex.kp e_82) (hi_nin b_q (by decide)) (hi_nin b_d (by decide)))) (Ex.kp e_85) (hi_nin b_q (by decide)) (hi_nin b_d (by decide)))) (Ex.kp e_90) (hi_nin b_q (by decide)) (hi_nin b_d (by decide)))) (Ex.kp e_94) (hi_nin b_q (by decide)) (hi_nin b_d (by decide)))) (Ex.kp e_98) (hi_nin b_q (by decide)) (hi_nin b_d (by decide)))) (Ex.kp e_100) (hi_nin b_q (by decide)) (hi_nin b_d (by decide)))
        have h_132 := (e_100 78 (by decide)).trans (h_101)
        refine T_virtual (as := [.ref 96, .ref q]) (rest := []) (b := 78) d_Cu_code_377 rfl (jw_Fi_save.jo (by decide)) lm_Cu_142 ji_Fi_save js_Fi_save h_132 rfl rfl rfl (Nat.le_of_ble_eq_true rfl) (by decide) (by decide) (y_Fi_save h_132 w_100 p_129 (by decide) p_131 k_d hne hroom hroom2 (hi_ne b_q (by decide)) (hi_ne b_q (by decide)) (hi_ne b_d (by decide)) (hi_ne b_d (by decide))) (fun r M_130 hq => ?_)
        obtain ⟨rfl, sv, w_130, k_130⟩ := hq
        refine T_eq (pc' := 380) (L' := [(0, .ref 77), (1, .ref p), (2, .ref q)]) (st' := []) (M' := M_130) rfl rfl rfl rfl ?_
        have a20 : ph x_10 = cAq (ph Y) (ph Z) := by rw [hx_10, ph_mul, hx_1, ph_add, hx_7, ph_sub]; rfl
        have a21 : ph x_16 = ph X * ph Y := by rw [hx_16, ph_mul]
        have aR : ph x_24 = cR (ph X) (ph Y) (ph Z) := by rw [hx_24, ph_rt, ph_3, hx_22, ph_mul, hx_19, ph_mul, a20, a21]; rfl
        have aS : ph x_50 = cS (ph X) (ph Y) (ph Z) (ph T) := by rw [hx_50, ph_mul, hx_46, ph_mul, hx_42, ph_mul, hx_38, ph_mul, aR, a20, a21]; rfl
        have t1 : ph x_55 = ph x_50 * ph T := by rw [hx_55, ph_mul]
        have he : ph x_66 = ph Y * fI := by rw [hx_66, ph_mul, ph_I]
        have hf : ph x_72 = ph X * fI := by rw [hx_72, ph_mul, ph_I]
        have hg : ph x_78 = cAq (ph Y) (ph Z) * cR (ph X) (ph Y) (ph Z) * fE := by rw [hx_78, ph_mul, hx_38, ph_mul, a20, aR, ph_9]
        have t2 : ph x_83 = ph x_66 * ph x_50 := by rw [hx_83, ph_mul]
        have hf2 : ph x_90 = -ph x_72 := by rw [hx_90, ph_neg]
        have t3 : ph x_98 = (ph Z - ph x_90) * ph x_78 := by rw [hx_98, ph_mul, hx_95, ph_sub]
        have fin := cF_of (X := ph X) (Y := ph Y) (Z := ph Z) (T := ph T) aS (Or.inl ⟨(od_of t1).mpr hb_57, he, hf, hg⟩) (Or.inl ⟨(od_of t2).mpr hb_85, hf2⟩) t3 (Or.inr ⟨fun z => hb_100 (od_ph.mp z), rfl⟩)
        rw [fin, cF_pj jp] at sv
        have K : Kp [79, 80, 81, 82, 83, 84, 85, 94, 95, 96, 97, 98, 99, 100, 101, 102, q, d] M M_130 := (Kp.tr (Kp.ex (Kp.ex (Kp.ex (Kp.ex (Kp.ex (Kp.ex (Kp.ex (Kp.ex (Kp.ex (Kp.ex (Kp.ex (Kp.ex (Kp.ex (Kp.ex (Kp.ex (Kp.tr (Kp.ex (Kp.ex (Kp.ex (Kp.ex (Kp.ex (Kp.ex (Kp.rf : Kp [79, 80, 81, 82, 83, 84, 85, 94, 95, 96, 97, 98, 99, 100, 101, 102, q, d] M M) e_1 (by simp)) e_6 (by simp)) e_10 (by simp)) e_15 (by simp)) e_18 (by simp)) e_22 (by simp)) (Kp.mono k_24 (by simp))) e_38 (by simp)) e_42 (by simp)) e_45 (by simp)) e_50 (by simp)) e_54 (by simp)) e_57 (by simp)) e_65 (by simp)) e_71 (by simp)) e_77 (by simp)) e_82 (by simp)) e_85 (by simp)) e_90 (by simp)) e_94 (by simp)) e_98 (by simp)) e_100 (by simp)) (Kp.mono k_130 (by simp)))
        have p_133 := (RV.kp ((RV.kp ((RV.kp ((RV.kp ((RV.kp ((RV.kp ((RV.kp (p_81) (Ex.kp e_82) (by decide))) (Ex.kp e_85) (by decide))) (Ex.kp e_90) (by decide))) (Ex.kp e_94) (by decide))) (Ex.kp e_98) (by decide))) (Ex.kp e_100) (by decide))) k_130 (by simp only [List.mem_cons, List.not_mem_nil, or_false, not_or]; exact ⟨(by decide), (Ne.symm (hi_ne b_q (by decide))), (Ne.symm (hi_ne b_d (by decide)))⟩))
        have p_134 := (RV.kp ((RV.kp ((RV.kp ((RV.kp ((RV.kp ((RV.kp ((RV.kp ((RV.kp ((RV.kp ((RV.kp ((RV.kp ((RV.kp ((RV.kp ((RV.kp ((RV.kp (p_41) (Ex.kp e_42) (by decide))) (Ex.kp e_45) (by decide))) (Ex.kp e_50) (by decide))) (Ex.kp e_54) (by decide))) (Ex.kp e_57) (by decide))) (Ex.kp e_65) (by decide))) (Ex.kp e_71) (by decide))) (Ex.kp e_77) (by decide))) (Ex.kp e_82) (by decide))) (Ex.kp e_85) (by decide))) (Ex.kp e_90) (by decide))) (Ex.kp e_94) (by decide))) (Ex.kp e_98) (by decide))) (Ex.kp e_100) (by decide))) k_130 (by simp only [List.mem_cons, List.not_mem_nil, or_false, not_or]; exact ⟨(by decide), (Ne.symm (hi_ne b_q (by decide))), (Ne.symm (hi_ne b_d (by decide)))⟩))
        have p_135 := (RQ.kp ((RQ.kp ((RQ.kp ((RQ.kp ((RQ.kp ((RQ.kp ((RQ.kp ((RQ.kp ((RQ.kp ((RQ.kp ((RQ.kp ((RQ.kp ((RQ.kp ((RQ.kp ((RQ.kp ((RQ.kp ((RQ.kp ((RQ.kp ((RQ.kp ((RQ.kp ((RQ.kp ((RQ.kp ((RQ.kp ((hcs.2.2 100 (by decide))) (Ex.kp e_1) (by decide))) (Ex.kp e_6) (by decide))) (Ex.kp e_10) (by decide))) (Ex.kp e_15) (by decide))) (Ex.kp e_18) (by decide))) (Ex.kp e_22) (by decide))) k_24 (by decide))) (Ex.kp e_38) (by decide))) (Ex.kp e_42) (by decide))) (Ex.kp e_45) (by decide))) (Ex.kp e_50) (by decide))) (Ex.kp e_54) (by decide))) (Ex.kp e_57) (by decide))) (Ex.kp e_65) (by decide))) (Ex.kp e_71) (by decide))) (Ex.kp e_77) (by decide))) (Ex.kp e_82) (by decide))) (Ex.kp e_85) (by decide))) (Ex.kp e_90) (by decide))) (Ex.kp e_94) (by decide))) (Ex.kp e_98) (by decide))) (Ex.kp e_100) (by decide))) k_130 (by simp only [List.mem_cons, List.not_mem_nil, or_false, not_or]; exact ⟨(by decide), (Ne.symm (hi_ne b_q (by decide))), (Ne.symm (hi_ne b_d (by decide)))⟩))
        have p_136 := (RV.kp ((RV.kp ((RV.kp (p_97) (Ex.kp e_98) (by decide))) (Ex.kp e_100) (by decide))) k_130 (by simp only [List.mem_cons, List.not_mem_nil, or_false, not_or]; exact ⟨(by decide), (Ne.symm (hi_ne b_q (by decide))), (Ne.symm (hi_ne b_d (by decide)))⟩))
        have p_137 := (RV.kp ((RV.kp ((RV.kp ((RV.kp (v_90) (Ex.kp e_94) (by decide))) (Ex.kp e_98) (by decide))) (Ex.kp e_100) (by decide))) k_130 (by simp only [List.mem_cons, List.not_mem_nil, or_false, not_or]; exact ⟨(by decide), (Ne.symm (hi_ne b_q (by decide))), (Ne.symm (hi_ne b_d (by decide)))⟩))
        have p_138 := (RV.kp ((RV.kp ((RV.kp ((RV.kp ((RV.kp ((RV.kp ((RV.kp (p_80) (Ex.kp e_82) (by decide))) (Ex.kp e_85) (by decide))) (Ex.kp e_90) (by decide))) (Ex.kp e_94) (by decide))) (Ex.kp e_98) (by decide))) (Ex.kp e_100) (by decide))) k_130 (by simp only [List.mem_cons, List.not_mem_nil, or_false, not_or]; exact ⟨(by decide), (Ne.symm (hi_ne b_q (by decide))), (Ne.symm (hi_ne b_d (by decide)))⟩))
        have p_139 := (RV.kp (p_129) k_130 (by simp only [List.mem_cons, List.not_mem_nil, or_false, not_or]; exact ⟨(by decide), (Ne.symm (hi_ne b_q (by decide))), (Ne.symm (hi_ne b_d (by decide)))⟩))
        have p_140 := (RV.kp ((RV.kp ((RV.kp ((RV.kp ((RV.kp ((RV.kp ((RV.kp ((RV.kp ((RV.kp ((RV.kp ((RV.kp ((RV.kp ((RV.kp ((RV.kp (v_42) (Ex.kp e_45) (by decide))) (Ex.kp e_50) (by decide))) (Ex.kp e_54) (by decide))) (Ex.kp e_57) (by decide))) (Ex.kp e_65) (by decide))) (Ex.kp e_71) (by decide))) (Ex.kp e_77) (by decide))) (Ex.kp e_82) (by decide))) (Ex.kp e_85) (by decide))) (Ex.kp e_90) (by decide))) (Ex.kp e_94) (by decide))) (Ex.kp e_98) (by decide))) (Ex.kp e_100) (by decide))) k_130 (by simp only [List.mem_cons, List.not_mem_nil, or_false, not_or]; exact ⟨(by decide), (Ne.symm (hi_ne b_q (by decide))), (Ne.symm (hi_ne b_d (by decide)))⟩))
        have p_141 := (RV.kp ((RV.kp ((RV.kp ((RV.kp ((RV.kp ((RV.kp ((RV.kp ((RV.kp (p_74) (Ex.kp e_77) (by decide))) (Ex.kp e_82) (by decide))) (Ex.kp e_85) (by decide))) (Ex.kp e_90) (by decide))) (Ex.kp e_94) (by decide))) (Ex.kp e_98) (by decide))) (Ex.kp e_100) (by decide))) k_130 (by simp only [List.mem_cons, List.not_mem_nil, or_false, not_or]; exact ⟨(by decide), (Ne.symm (hi_ne b_q (by decide))), (Ne.symm (hi_ne b_d (by decide)))⟩))
        have p_142 := (RQ.kp ((RQ.kp ((RQ.kp ((RQ.kp ((RQ.kp ((RQ.kp ((RQ.kp ((RQ.kp ((RQ.kp ((RQ.kp ((RQ.kp ((RQ.kp ((RQ.kp ((RQ.kp ((RQ.kp ((RQ.kp (q85_24) (Ex.kp e_38) (by decide))) (Ex.kp e_42) (by decide))) (Ex.kp e_45) (by decide))) (Ex.kp e_50) (by decide))) (Ex.kp e_54) (by decide))) (Ex.kp e_57) (by decide))) (Ex.kp e_65) (by decide))) (Ex.kp e_71) (by decide))) (Ex.kp e_77) (by decide))) (Ex.kp e_82) (by decide))) (Ex.kp e_85) (by decide))) (Ex.kp e_90) (by decide))) (Ex.kp e_94) (by decide))) (Ex.kp e_98) (by decide))) (Ex.kp e_100) (by decide))) k_130 (by simp only [List.mem_cons, List.not_mem_nil, or_false, not_or]; exact ⟨(by decide), (Ne.symm (hi_ne b_q (by decide))), (Ne.symm (hi_ne b_d (by decide)))⟩))
        have p_143 := (RQ.kp ((RQ.kp ((RQ.kp ((RQ.kp ((RQ.kp ((RQ.kp ((RQ.kp ((RQ.kp ((RQ.kp ((RQ.kp ((RQ.kp ((RQ.kp ((RQ.kp ((RQ.kp ((RQ.kp ((RQ.kp (q84_24) (Ex.kp e_38) (by decide))) (Ex.kp e_42) (by decide))) (Ex.kp e_45) (by decide))) (Ex.kp e_50) (by decide))) (Ex.kp e_54) (by decide))) (Ex.kp e_57) (by decide))) (Ex.kp e_65) (by decide))) (Ex.kp e_71) (by decide))) (Ex.kp e_77) (by decide))) (Ex.kp e_82) (by decide))) (Ex.kp e_85) (by decide))) (Ex.kp e_90) (by decide))) (Ex.kp e_94) (by decide))) (Ex.kp e_98) (by decide))) (Ex.kp e_100) (by decide))) k_130 (by simp only [List.mem_cons, List.not_mem_nil, or_false, not_or]; exact ⟨(by decide), (Ne.symm (hi_ne b_q (by decide))), (Ne.symm (hi_ne b_d (by decide)))⟩))
        have p_144 := (RQ.kp ((RQ.kp ((RQ.kp ((RQ.kp ((RQ.kp ((RQ.kp ((RQ.kp ((RQ.kp ((RQ.kp ((RQ.kp ((RQ.kp ((RQ.kp ((RQ.kp ((RQ.kp ((RQ.kp ((RQ.kp (q83_24) (Ex.kp e_38) (by decide))) (Ex.kp e_42) (by decide))) (Ex.kp e_45) (by decide))) (Ex.kp e_50) (by decide))) (Ex.kp e_54) (by decide))) (Ex.kp e_57) (by decide))) (Ex.kp e_65) (by decide))) (Ex.kp e_71) (by decide))) (Ex.kp e_77) (by decide))) (Ex.kp e_82) (by decide))) (Ex.kp e_85) (by decide))) (Ex.kp e_90) (by decide))) (Ex.kp e_94) (by decide))) (Ex.kp e_98) (by decide))) (Ex.kp e_100) (by decide))) k_130 (by simp only [List.mem_cons, List.not_mem_nil, or_false, not_or]; exact ⟨(by decide), (Ne.symm (hi_ne b_q (by decide))), (Ne.symm (hi_ne b_d (by decide)))⟩))
        have p_145 := (RQ.kp ((RQ.kp ((RQ.kp ((RQ.kp ((RQ.kp ((RQ.kp ((RQ.kp ((RQ.kp ((RQ.kp ((RQ.kp ((RQ.kp ((RQ.kp ((RQ.kp ((RQ.kp ((RQ.kp ((RQ.kp (q82_24) (Ex.kp e_38) (by decide))) (Ex.kp e_42) (by decide))) (Ex.kp e_45) (by decide))) (Ex.kp e_50) (by decide))) (Ex.kp e_54) (by decide))) (Ex.kp e_57) (by decide))) (Ex.kp e_65) (by decide))) (Ex.kp e_71) (by decide))) (Ex.kp e_77) (by decide))) (Ex.kp e_82) (by decide))) (Ex.kp e_85) (by decide))) (Ex.kp e_90) (by decide))) (Ex.kp e_94) (by decide))) (Ex.kp e_98) (by decide))) (Ex.kp e_100) (by decide))) k_130 (by simp only [List.mem_cons, List.not_mem_nil, or_false, not_or]; exact ⟨(by decide), (Ne.symm (hi_ne b_q (by decide))), (Ne.symm (hi_ne b_d (by decide)))⟩))
        have p_146 := (RQ.kp ((RQ.kp ((RQ.kp ((RQ.kp ((RQ.kp ((RQ.kp ((RQ.kp ((RQ.kp ((RQ.kp ((RQ.kp ((RQ.kp ((RQ.kp ((RQ.kp ((RQ.kp ((RQ.kp ((RQ.kp (q81_24) (Ex.kp e_38) (by decide))) (Ex.kp e_42) (by decide))) (Ex.kp e_45) (by decide))) (Ex.kp e_50) (by decide))) (Ex.kp e_54) (by decide))) (Ex.kp e_57) (by decide))) (Ex.kp e_65) (by decide))) (Ex.kp e_71) (by decide))) (Ex.kp e_77) (by decide))) (Ex.kp e_82) (by decide))) (Ex.kp e_85) (by decide))) (Ex.kp e_90) (by decide))) (Ex.kp e_94) (by decide))) (Ex.kp e_98) (by decide))) (Ex.kp e_100) (by decide))) k_130 (by simp only [List.mem_cons, List.not_mem_nil, or_false, not_or]; exact ⟨(by decide), (Ne.symm (hi_ne b_q (by decide))), (Ne.symm (hi_ne b_d (by decide)))⟩))
        have p_147 := (RQ.kp ((RQ.kp ((RQ.kp ((RQ.kp ((RQ.kp ((RQ.kp ((RQ.kp ((RQ.kp ((RQ.kp ((RQ.kp ((RQ.kp ((RQ.kp ((RQ.kp ((RQ.kp ((RQ.kp ((RQ.kp (q80_24) (Ex.kp e_38) (by decide))) (Ex.kp e_42) (by decide))) (Ex.kp e_45) (by decide))) (Ex.kp e_50) (by decide))) (Ex.kp e_54) (by decide))) (Ex.kp e_57) (by decide))) (Ex.kp e_65) (by decide))) (Ex.kp e_71) (by decide))) (Ex.kp e_77) (by decide))) (Ex.kp e_82) (by decide))) (Ex.kp e_85) (by decide))) (Ex.kp e_90) (by decide))) (Ex.kp e_94) (by decide))) (Ex.kp e_98) (by decide))) (Ex.kp e_100) (by decide))) k_130 (by simp only [List.mem_cons, List.not_mem_nil, or_false, not_or]; exact ⟨(by decide), (Ne.symm (hi_ne b_q (by decide))), (Ne.symm (hi_ne b_d (by decide)))⟩))
        have h_148 := (k_130 77 (by simp only [List.mem_cons, List.not_mem_nil, or_false, not_or]; exact ⟨(by decide), (Ne.symm (hi_ne b_q (by decide))), (Ne.symm (hi_ne b_d (by decide)))⟩)).trans (h_128)
        have h_149 := (k_130 78 (by simp only [List.mem_cons, List.not_mem_nil, or_false, not_or]; exact ⟨(by decide), (Ne.symm (hi_ne b_q (by decide))), (Ne.symm (hi_ne b_d (by decide)))⟩)).trans (h_132)
        refine T_vret d_Cu_code_380 rfl (by decide) (by decide) ⟨rfl, hcu0.back ⟨h_148, h_149, (List.forall_mem_cons.mpr ⟨w_130, (List.forall_mem_cons.mpr ⟨p_147, (List.forall_mem_cons.mpr ⟨p_146, (List.forall_mem_cons.mpr ⟨p_145, (List.forall_mem_cons.mpr ⟨p_144, (List.forall_mem_cons.mpr ⟨p_143, (List.forall_mem_cons.mpr ⟨p_142, (List.forall_mem_cons.mpr ⟨(Rv.rq p_141), (List.forall_mem_cons.mpr ⟨(Rv.rq p_140), (List.forall_mem_cons.mpr ⟨(Rv.rq p_139), (List.forall_mem_cons.mpr ⟨(Rv.rq p_138), (List.forall_mem_cons.mpr ⟨(Rv.rq p_137), (List.forall_mem_cons.mpr ⟨(Rv.rq p_136), (List.forall_mem_cons.mpr ⟨p_135, (List.forall_mem_cons.mpr ⟨(Rv.rq p_134), (List.forall_mem_cons.mpr ⟨(Rv.rq p_133), (fun _ h => absurd h (List.not_mem_nil))⟩)⟩)⟩)⟩)⟩)⟩)⟩)⟩)⟩)⟩)⟩)⟩)⟩)⟩)⟩)⟩)⟩ K ?_, sv, K.mono ?_⟩
        · intro z hz; rcases List.mem_append.mp (show z ∈ cuR ++ [q, d] from hz) with h | h
          · exact Or.inl h
          · simp only [List.mem_cons, List.not_mem_nil, or_false] at h; omega
        · intro z hz; rcases List.mem_append.mp (show z ∈ cuR ++ [q, d] from hz) with h | h
          · exact List.mem_cons_of_mem _ (List.mem_cons_of_mem _ ((by decide +kernel : ∀ z ∈ cuR, z ∈ cuW) z h))
          · simp only [List.mem_cons, List.not_mem_nil, or_false] at h; rcases h with rfl | rfl <;> simp
    · rw [if_neg hb_85]
      refine T_eq (pc' := 299) (L' := [(0, .ref 77), (1, .ref p), (2, .ref q)]) (st' := [.int (nI 0)]) (M' := M_85) rfl rfl rfl rfl ?_
      refine N_if_eq_t (b := 0) d_Cu_code_299 (tgt := 313) rfl (by omega) (by omega) ?_
      refine T_aload_n (v := .ref 77) d_Cu_code_313 rfl (Or.inr ⟨_, rfl⟩) ?_
      have h_150 := (e_85 77 (by decide)).trans (h_84)
      refine T_getfield (v := .ref 96) d_Cu_code_314 fg_Cu_43 h_150 rfl ?_
      refine T_aload_n (v := .ref p) d_Cu_code_317 rfl (Or.inr ⟨_, rfl⟩) ?_
      have h_151 := (e_85 p (hi_ne b_p (by decide))).trans ((e_82 p (hi_ne b_p (by decide))).trans ((e_77 p (hi_ne b_p (by decide))).trans ((e_71 p (hi_ne b_p (by decide))).trans (h_68))))
      refine T_getfield (v := .ref pz) d_Cu_code_318 fg_Cu_86 h_151 rfl ?_
      refine T_aload_n (v := .ref 77) d_Cu_code_321 rfl (Or.inr ⟨_, rfl⟩) ?_
      refine T_getfield (v := .ref 98) d_Cu_code_322 fg_Cu_49 h_150 rfl ?_
      have p_152 := (RV.kp ((RV.kp ((RV.kp ((RV.kp ((RV.kp ((RV.kp ((RV.kp ((RV.kp ((RV.kp ((RV.kp ((RV.kp ((RV.kp ((RV.kp ((RV.kp ((RV.kp ((RV.kp ((RV.kp (p_4) (Ex.kp e_6) (hi_nin b_pz (by decide)))) (Ex.kp e_10) (hi_nin b_pz (by decide)))) (Ex.kp e_15) (hi_nin b_pz (by decide)))) (Ex.kp e_18) (hi_nin b_pz (by decide)))) (Ex.kp e_22) (hi_nin b_pz (by decide)))) k_24 (hi_nin b_pz (by decide)))) (Ex.kp e_38) (hi_nin b_pz (by decide)))) (Ex.kp e_42) (hi_nin b_pz (by decide)))) (Ex.kp e_45) (hi_nin b_pz (by decide)))) (Ex.kp e_50) (hi_nin b_pz (by decide)))) (Ex.kp e_54) (hi_nin b_pz (by decide)))) (Ex.kp e_57) (hi_nin b_pz (by decide)))) (Ex.kp e_65) (hi_nin b_pz (by decide)))) (Ex.kp e_71) (hi_nin b_pz (by decide)))) (Ex.kp e_77) (hi_nin b_pz (by decide)))) (Ex.kp e_82) (hi_nin b_pz (by decide)))) (Ex.kp e_85) (hi_nin b_pz (by decide)))
      have p_153 := (RV.kp ((RV.kp ((RV.kp (v_71) (Ex.kp e_77) (by decide))) (Ex.kp e_82) (by decide))) (Ex.kp e_85) (by decide))
      have p_155 := (RV.kp (v_82) (Ex.kp e_85) (by decide))
      refine T_vsub d_Cu_code_325 (jw_Fi_subtract.jo (by decide)) lm_Cu_70 (Nat.le_of_ble_eq_true rfl) (by decide) (by decide) (by decide) (Rv.rq p_155) p_152 p_153 (by decide) (fun M_154 v_154 e_154 => ?_)
      obtain ⟨x_155, hx_155⟩ : ∃ z : Int, z = (Z - x_72) := ⟨_, rfl⟩
      rw [← hx_155] at v_154
      refine T_aload_n (v := .ref 77) d_Cu_code_328 rfl (Or.inr ⟨_, rfl⟩) ?_
      have h_156 := (e_154 77 (by decide)).trans (h_150)
      refine T_getfield (v := .ref 96) d_Cu_code_329 fg_Cu_43 h_156 rfl ?_
      refine T_aload_n (v := .ref 77) d_Cu_code_332 rfl (Or.inr ⟨_, rfl⟩) ?_
      refine T_getfield (v := .ref 96) d_Cu_code_333 fg_Cu_43 h_156 rfl ?_
      refine T_aload_n (v := .ref 77) d_Cu_code_336 rfl (Or.inr ⟨_, rfl⟩) ?_
      refine T_getfield (v := .ref 99) d_Cu_code_337 fg_Cu_52 h_156 rfl ?_
      have p_157 := (RV.kp ((RV.kp ((RV.kp (v_77) (Ex.kp e_82) (by decide))) (Ex.kp e_85) (by decide))) (Ex.kp e_154) (by decide))
      refine T_vmul d_Cu_code_340 (jw_Fi_multiply.jo (by decide)) lm_Cu_74 (Nat.le_of_ble_eq_true rfl) (by decide) (by decide) (by decide) (Rv.rq v_154) v_154 p_157 (by decide) (fun M_158 v_158 e_158 => ?_)
      obtain ⟨x_158, hx_158⟩ : ∃ z : Int, z = (x_155 * x_78) := ⟨_, rfl⟩
      rw [← hx_158] at v_158
      refine T_aload_n (v := .ref 77) d_Cu_code_343 rfl (Or.inr ⟨_, rfl⟩) ?_
      have h_159 := (e_158 77 (by decide)).trans (h_156)
      refine T_getfield (v := .ref 78) d_Cu_code_344 fg_Cu_10 h_159 rfl ?_
      refine T_aload_n (v := .ref 77) d_Cu_code_347 rfl (Or.inr ⟨_, rfl⟩) ?_
      refine T_getfield (v := .ref 96) d_Cu_code_348 fg_Cu_43 h_159 rfl ?_
      have h_161 := (e_158 78 (by decide)).trans ((e_154 78 (by decide)).trans ((e_85 78 (by decide)).trans (h_86)))
      have p_162 := (RQ.kp ((RQ.kp (w_85) (Ex.kp e_154) (by decide))) (Ex.kp e_158) (by decide))
      refine T_visodd d_Cu_code_351 (jw_Fi_isOdd.jo (by decide)) lm_Cu_127 (Nat.le_of_ble_eq_true rfl) (by decide) (by decide) h_161 p_162 v_158 (by decide) (fun M_160 w_160 e_160 => ?_)
      by_cases hb_160 : (x_158 % pP) % 2 = 1
      · rw [if_pos hb_160]
        refine T_eq (pc' := 354) (L' := [(0, .ref 77), (1, .ref p), (2, .ref q)]) (st' := [.int (nI 1)]) (M' := M_160) rfl rfl rfl rfl ?_
        refine N_if_eq_f (b := 1) d_Cu_code_354 (tgt := 368) rfl (by omega) (by omega) ?_
        refine T_aload_n (v := .ref 77) d_Cu_code_357 rfl (Or.inr ⟨_, rfl⟩) ?_
        have h_163 := (e_160 77 (by decide)).trans (h_159)
        refine T_getfield (v := .ref 96) d_Cu_code_358 fg_Cu_43 h_163 rfl ?_
        refine T_aload_n (v := .ref 77) d_Cu_code_361 rfl (Or.inr ⟨_, rfl⟩) ?_
        refine T_getfield (v := .ref 96) d_Cu_code_362 fg_Cu_43 h_163 rfl ?_
        have p_164 := (RV.kp (v_158) (Ex.kp e_160) (by decide))
        refine T_vneg d_Cu_code_365 (jw_Fi_negate.jo (by decide)) lm_Cu_139 (Nat.le_of_ble_eq_true rfl) (by decide) (by decide) (by decide) (Rv.rq p_164) p_164 (by decide) (fun M_165 v_165 e_165 => ?_)
        obtain ⟨x_165, hx_165⟩ : ∃ z : Int, z = (-x_158) := ⟨_, rfl⟩
        rw [← hx_165] at v_165
        refine T_aload_n (v := .ref 77) d_Cu_code_368 rfl (Or.inr ⟨_, rfl⟩) ?_
        have h_166 := (e_165 77 (by decide)).trans (h_163)
        refine T_getfield (v := .ref 78) d_Cu_code_369 fg_Cu_10 h_166 rfl ?_
        refine T_aload_n (v := .ref 77) d_Cu_code_372 rfl (Or.inr ⟨_, rfl⟩) ?_
        refine T_getfield (v := .ref 96) d_Cu_code_373 fg_Cu_43 h_166 rfl ?_
        refine T_aload_n (v := .ref q) d_Cu_code_376 rfl (Or.inr ⟨_, rfl⟩) ?_
        have p_168 := (BY.kp ((BY.kp ((BY.kp ((BY.kp ((BY.kp ((BY.kp ((BY.kp ((BY.kp ((BY.kp ((BY.kp ((BY.kp ((BY.kp ((BY.kp ((BY.kp ((BY.kp ((BY.kp ((BY.kp ((BY.kp ((BY.kp ((BY.kp ((BY.kp ((BY.kp (hq) (Ex.kp e_1) (hi_nin b_q (by decide)) (hi_nin b_d (by decide)))) (Ex.kp e_6) (hi_nin b_q (by decide)) (hi_nin b_d (by decide)))) (Ex.kp e_10) (hi_nin b_q (by decide)) (hi_nin b_d (by decide)))) (Ex.kp e_15) (hi_nin b_q (by decide)) (hi_nin b_d (by decide)))) (Ex.kp e_18) (hi_nin b_q (by decide)) (hi_nin b_d (by decide)))) (Ex.kp e_22) (hi_nin b_q (by decide)) (hi_nin b_d (by decide)))) k_24 (hi_nin b_q (by decide)) (hi_nin b_d (by decide)))) (Ex.kp e_38) (hi_nin b_q (by decide)) (hi_nin b_d (by decide)))) (Ex.kp e_42) (hi_nin b_q (by decide)) (hi_nin b_d (by decide)))) (Ex.kp e_45) (hi_nin b_q (by decide)) (hi_nin b_d (by decide)))) (Ex.kp e_50) (hi_nin b_q (by decide)) (hi_nin b_d (by decide)))) (Ex.kp e_54) (hi_nin b_q (by decide)) (hi_nin b_d (by decide)))) (Ex.kp e_57) (hi_nin b_q (by decide)) (hi_nin b_d (by decide)))) (Ex.kp e_65) (hi_nin b_q (by decide)) (hi_nin b_d (by decide)))) (Ex.kp e_71) (hi_nin b_q (by decide)) (hi_nin b_d (by decide)))) (Ex.kp e_77) (hi_nin b_q (by decide)) (hi_nin b_d (by decide)))) (Ex.kp e_82) (hi_nin b_q (by decide)) (hi_nin b_d (by decide)))) (Ex.kp e_85) (hi_nin b_q (by decide)) (hi_nin b_d (by decide)))) (Ex.kp e_154) (hi_nin b_q (by decide)) (hi_nin b_d (by decide)))) (Ex.kp e_158) (hi_nin b_q (by decide)) (hi_nin b_d (by decide)))) (Ex.kp e_160) (hi_nin b_q (by decide)) (hi_nin b_d (by decide)))) (Ex.kp e_165) (hi_nin b_q (by decide)) (hi_nin b_d (by decide)))
        have h_169 := (e_165 78 (by decide)).trans ((e_160 78 (by decide)).trans (h_161))
        have p_170 := (RQ.kp (w_160) (Ex.kp e_165) (by decide))
        refine T_virtual (as := [.ref 96, .ref q]) (rest := []) (b := 78) d_Cu_code_377 rfl (jw_Fi_save.jo (by decide)) lm_Cu_142 ji_Fi_save js_Fi_save h_169 rfl rfl rfl (Nat.le_of_ble_eq_true rfl) (by decide) (by decide) (y_Fi_save h_169 p_170 v_165 (by decide) p_168 k_d hne hroom hroom2 (hi_ne b_q (by decide)) (hi_ne b_q (by decide)) (hi_ne b_d (by decide)) (hi_ne b_d (by decide))) (fun r M_167 hq => ?_)
        obtain ⟨rfl, sv, w_167, k_167⟩ := hq
        refine T_eq (pc' := 380) (L' := [(0, .ref 77), (1, .ref p), (2, .ref q)]) (st' := []) (M' := M_167) rfl rfl rfl rfl ?_
        have a20 : ph x_10 = cAq (ph Y) (ph Z) := by rw [hx_10, ph_mul, hx_1, ph_add, hx_7, ph_sub]; rfl
        have a21 : ph x_16 = ph X * ph Y := by rw [hx_16, ph_mul]
        have aR : ph x_24 = cR (ph X) (ph Y) (ph Z) := by rw [hx_24, ph_rt, ph_3, hx_22, ph_mul, hx_19, ph_mul, a20, a21]; rfl
        have aS : ph x_50 = cS (ph X) (ph Y) (ph Z) (ph T) := by rw [hx_50, ph_mul, hx_46, ph_mul, hx_42, ph_mul, hx_38, ph_mul, aR, a20, a21]; rfl
        have t1 : ph x_55 = ph x_50 * ph T := by rw [hx_55, ph_mul]
        have he : ph x_66 = ph Y * fI := by rw [hx_66, ph_mul, ph_I]
        have hf : ph x_72 = ph X * fI := by rw [hx_72, ph_mul, ph_I]
        have hg : ph x_78 = cAq (ph Y) (ph Z) * cR (ph X) (ph Y) (ph Z) * fE := by rw [hx_78, ph_mul, hx_38, ph_mul, a20, aR, ph_9]
        have t2 : ph x_83 = ph x_66 * ph x_50 := by rw [hx_83, ph_mul]
        have t3 : ph x_158 = (ph Z - ph x_72) * ph x_78 := by rw [hx_158, ph_mul, hx_155, ph_sub]
        have hc : ph x_165 = -ph x_158 := by rw [hx_165, ph_neg]
        have fin := cF_of (X := ph X) (Y := ph Y) (Z := ph Z) (T := ph T) aS (Or.inl ⟨(od_of t1).mpr hb_57, he, hf, hg⟩) (Or.inr ⟨fun z => hb_85 ((od_of t2).mp z), rfl⟩) t3 (Or.inl ⟨od_ph.mpr hb_160, hc⟩)
        rw [fin, cF_pj jp] at sv
        have K : Kp [79, 80, 81, 82, 83, 84, 85, 94, 95, 96, 97, 98, 99, 100, 101, 102, q, d] M M_167 := (Kp.tr (Kp.ex (Kp.ex (Kp.ex (Kp.ex (Kp.ex (Kp.ex (Kp.ex (Kp.ex (Kp.ex (Kp.ex (Kp.ex (Kp.ex (Kp.ex (Kp.ex (Kp.ex (Kp.tr (Kp.ex (Kp.ex (Kp.ex (Kp.ex (Kp.ex (Kp.ex (Kp.rf : Kp [79, 80, 81, 82, 83, 84, 85, 94, 95, 96, 97, 98, 99, 100, 101, 102, q, d] M M) e_1 (by simp)) e_6 (by simp)) e_10 (by simp)) e_15 (by simp)) e_18 (by simp)) e_22 (by simp)) (Kp.mono k_24 (by simp))) e_38 (by simp)) e_42 (by simp)) e_45 (by simp)) e_50 (by simp)) e_54 (by simp)) e_57 (by simp)) e_65 (by simp)) e_71 (by simp)) e_77 (by simp)) e_82 (by simp)) e_85 (by simp)) e_154 (by simp)) e_158 (by simp)) e_160 (by simp)) e_165 (by simp)) (Kp.mono k_167 (by simp)))
        have p_171 := (RV.kp ((RV.kp ((RV.kp ((RV.kp ((RV.kp ((RV.kp ((RV.kp (p_81) (Ex.kp e_82) (by decide))) (Ex.kp e_85) (by decide))) (Ex.kp e_154) (by decide))) (Ex.kp e_158) (by decide))) (Ex.kp e_160) (by decide))) (Ex.kp e_165) (by decide))) k_167 (by simp only [List.mem_cons, List.not_mem_nil, or_false, not_or]; exact ⟨(by decide), (Ne.symm (hi_ne b_q (by decide))), (Ne.symm (hi_ne b_d (by decide)))⟩))
        have p_172 := (RV.kp ((RV.kp ((RV.kp ((RV.kp ((RV.kp ((RV.kp ((RV.kp ((RV.kp ((RV.kp ((RV.kp ((RV.kp ((RV.kp ((RV.kp ((RV.kp ((RV.kp (p_41) (Ex.kp e_42) (by decide))) (Ex.kp e_45) (by decide))) (Ex.kp e_50) (by decide))) (Ex.kp e_54) (by decide))) (Ex.kp e_57) (by decide))) (Ex.kp e_65) (by decide))) (Ex.kp e_71) (by decide))) (Ex.kp e_77) (by decide))) (Ex.kp e_82) (by decide))) (Ex.kp e_85) (by decide))) (Ex.kp e_154) (by decide))) (Ex.kp e_158) (by decide))) (Ex.kp e_160) (by decide))) (Ex.kp e_165) (by decide))) k_167 (by simp only [List.mem_cons, List.not_mem_nil, or_false, not_or]; exact ⟨(by decide), (Ne.symm (hi_ne b_q (by decide))), (Ne.symm (hi_ne b_d (by decide)))⟩))
        have p_173 := (RQ.kp ((RQ.kp ((RQ.kp ((RQ.kp ((RQ.kp ((RQ.kp ((RQ.kp ((RQ.kp ((RQ.kp ((RQ.kp ((RQ.kp ((RQ.kp ((RQ.kp ((RQ.kp ((RQ.kp ((RQ.kp ((RQ.kp ((RQ.kp ((RQ.kp ((RQ.kp ((RQ.kp ((RQ.kp ((RQ.kp ((hcs.2.2 100 (by decide))) (Ex.kp e_1) (by decide))) (Ex.kp e_6) (by decide))) (Ex.kp e_10) (by decide))) (Ex.kp e_15) (by decide))) (Ex.kp e_18) (by decide))) (Ex.kp e_22) (by decide))) k_24 (by decide))) (Ex.kp e_38) (by decide))) (Ex.kp e_42) (by decide))) (Ex.kp e_45) (by decide))) (Ex.kp e_50) (by decide))) (Ex.kp e_54) (by decide))) (Ex.kp e_57) (by decide))) (Ex.kp e_65) (by decide))) (Ex.kp e_71) (by decide))) (Ex.kp e_77) (by decide))) (Ex.kp e_82) (by decide))) (Ex.kp e_85) (by decide))) (Ex.kp e_154) (by decide))) (Ex.kp e_158) (by decide))) (Ex.kp e_160) (by decide))) (Ex.kp e_165) (by decide))) k_167 (by simp only [List.mem_cons, List.not_mem_nil, or_false, not_or]; exact ⟨(by decide), (Ne.symm (hi_ne b_q (by decide))), (Ne.symm (hi_ne b_d (by decide)))⟩))
        have p_174 := (RV.kp ((RV.kp ((RV.kp ((RV.kp (p_157) (Ex.kp e_158) (by decide))) (Ex.kp e_160) (by decide))) (Ex.kp e_165) (by decide))) k_167 (by simp only [List.mem_cons, List.not_mem_nil, or_false, not_or]; exact ⟨(by decide), (Ne.symm (hi_ne b_q (by decide))), (Ne.symm (hi_ne b_d (by decide)))⟩))
        have p_175 := (RV.kp ((RV.kp ((RV.kp ((RV.kp ((RV.kp (p_153) (Ex.kp e_154) (by decide))) (Ex.kp e_158) (by decide))) (Ex.kp e_160) (by decide))) (Ex.kp e_165) (by decide))) k_167 (by simp only [List.mem_cons, List.not_mem_nil, or_false, not_or]; exact ⟨(by decide), (Ne.symm (hi_ne b_q (by decide))), (Ne.symm (hi_ne b_d (by decide)))⟩))
        have p_176 := (RV.kp ((RV.kp ((RV.kp ((RV.kp ((RV.kp ((RV.kp ((RV.kp (p_80) (Ex.kp e_82) (by decide))) (Ex.kp e_85) (by decide))) (Ex.kp e_154) (by decide))) (Ex.kp e_158) (by decide))) (Ex.kp e_160) (by decide))) (Ex.kp e_165) (by decide))) k_167 (by simp only [List.mem_cons, List.not_mem_nil, or_false, not_or]; exact ⟨(by decide), (Ne.symm (hi_ne b_q (by decide))), (Ne.symm (hi_ne b_d (by decide)))⟩))
        have p_177 := (RV.kp (v_165) k_167 (by simp only [List.mem_cons, List.not_mem_nil, or_false, not_or]; exact ⟨(by decide), (Ne.symm (hi_ne b_q (by decide))), (Ne.symm (hi_ne b_d (by decide)))⟩))
        have p_178 := (RV.kp ((RV.kp ((RV.kp ((RV.kp ((RV.kp ((RV.kp ((RV.kp ((RV.kp ((RV.kp ((RV.kp ((RV.kp ((RV.kp ((RV.kp ((RV.kp (v_42) (Ex.kp e_45) (by decide))) (Ex.kp e_50) (by decide))) (Ex.kp e_54) (by decide))) (Ex.kp e_57) (by decide))) (Ex.kp e_65) (by decide))) (Ex.kp e_71) (by decide))) (Ex.kp e_77) (by decide))) (Ex.kp e_82) (by decide))) (Ex.kp e_85) (by decide))) (Ex.kp e_154) (by decide))) (Ex.kp e_158) (by decide))) (Ex.kp e_160) (by decide))) (Ex.kp e_165) (by decide))) k_167 (by simp only [List.mem_cons, List.not_mem_nil, or_false, not_or]; exact ⟨(by decide), (Ne.symm (hi_ne b_q (by decide))), (Ne.symm (hi_ne b_d (by decide)))⟩))
        have p_179 := (RV.kp ((RV.kp ((RV.kp ((RV.kp ((RV.kp ((RV.kp ((RV.kp ((RV.kp (p_74) (Ex.kp e_77) (by decide))) (Ex.kp e_82) (by decide))) (Ex.kp e_85) (by decide))) (Ex.kp e_154) (by decide))) (Ex.kp e_158) (by decide))) (Ex.kp e_160) (by decide))) (Ex.kp e_165) (by decide))) k_167 (by simp only [List.mem_cons, List.not_mem_nil, or_false, not_or]; exact ⟨(by decide), (Ne.symm (hi_ne b_q (by decide))), (Ne.symm (hi_ne b_d (by decide)))⟩))
        have p_180 := (RQ.kp ((RQ.kp ((RQ.kp ((RQ.kp ((RQ.kp ((RQ.kp ((RQ.kp ((RQ.kp ((RQ.kp ((RQ.kp ((RQ.kp ((RQ.kp ((RQ.kp ((RQ.kp ((RQ.kp ((RQ.kp (q85_24) (Ex.kp e_38) (by decide))) (Ex.kp e_42) (by decide))) (Ex.kp e_45) (by decide))) (Ex.kp e_50) (by decide))) (Ex.kp e_54) (by decide))) (Ex.kp e_57) (by decide))) (Ex.kp e_65) (by decide))) (Ex.kp e_71) (by decide))) (Ex.kp e_77) (by decide))) (Ex.kp e_82) (by decide))) (Ex.kp e_85) (by decide))) (Ex.kp e_154) (by decide))) (Ex.kp e_158) (by decide))) (Ex.kp e_160) (by decide))) (Ex.kp e_165) (by decide))) k_167 (by simp only [List.mem_cons, List.not_mem_nil, or_false, not_or]; exact ⟨(by decide), (Ne.symm (hi_ne b_q (by decide))), (Ne.symm (hi_ne b_d (by decide)))⟩))
        have p_181 := (RQ.kp ((RQ.kp ((RQ.kp ((RQ.kp ((RQ.kp ((RQ.kp ((RQ.kp ((RQ.kp ((RQ.kp ((RQ.kp ((RQ.kp ((RQ.kp ((RQ.kp ((RQ.kp ((RQ.kp ((RQ.kp (q84_24) (Ex.kp e_38) (by decide))) (Ex.kp e_42) (by decide))) (Ex.kp e_45) (by decide))) (Ex.kp e_50) (by decide))) (Ex.kp e_54) (by decide))) (Ex.kp e_57) (by decide))) (Ex.kp e_65) (by decide))) (Ex.kp e_71) (by decide))) (Ex.kp e_77) (by decide))) (Ex.kp e_82) (by decide))) (Ex.kp e_85) (by decide))) (Ex.kp e_154) (by decide))) (Ex.kp e_158) (by decide))) (Ex.kp e_160) (by decide))) (Ex.kp e_165) (by decide))) k_167 (by simp only [List.mem_cons, List.not_mem_nil, or_false, not_or]; exact ⟨(by decide), (Ne.symm (hi_ne b_q (by decide))), (Ne.symm (hi_ne b_d (by decide)))⟩))
        have p_182 := (RQ.kp ((RQ.kp ((RQ.kp ((RQ.kp ((RQ.kp ((RQ.kp ((RQ.kp ((RQ.kp ((RQ.kp ((RQ.kp ((RQ.kp ((RQ.kp ((RQ.kp ((RQ.kp ((RQ.kp ((RQ.kp (q83_24) (Ex.kp e_38) (by decide))) (Ex.kp e_42) (by decide))) (Ex.kp e_45) (by decide))) (Ex.kp e_50) (by decide))) (Ex.kp e_54) (by decide))) (Ex.kp e_57) (by decide))) (Ex.kp e_65) (by decide))) (Ex.kp e_71) (by decide))) (Ex.kp e_77) (by decide))) (Ex.kp e_82) (by decide))) (Ex.kp e_85) (by decide))) (Ex.kp e_154) (by decide))) (Ex.kp e_158) (by decide))) (Ex.kp e_160) (by decide))) (Ex.kp e_165) (by decide))) k_167 (by simp only [List.mem_cons, List.not_mem_nil, or_false, not_or]; exact ⟨(by decide), (Ne.symm (hi_ne b_q (by decide))), (Ne.symm (hi_ne b_d (by decide)))⟩))
        have p_183 := (RQ.kp ((RQ.kp ((RQ.kp ((RQ.kp ((RQ.kp ((RQ.kp ((RQ.kp ((RQ.kp ((RQ.kp ((RQ.kp ((RQ.kp ((RQ.kp ((RQ.kp ((RQ.kp ((RQ.kp ((RQ.kp (q82_24) (Ex.kp e_38) (by decide))) (Ex.kp e_42) (by decide))) (Ex.kp e_45) (by decide))) (Ex.kp e_50) (by decide))) (Ex.kp e_54) (by decide))) (Ex.kp e_57) (by decide))) (Ex.kp e_65) (by decide))) (Ex.kp e_71) (by decide))) (Ex.kp e_77) (by decide))) (Ex.kp e_82) (by decide))) (Ex.kp e_85) (by decide))) (Ex.kp e_154) (by decide))) (Ex.kp e_158) (by decide))) (Ex.kp e_160) (by decide))) (Ex.kp e_165) (by decide))) k_167 (by simp only [List.mem_cons, List.not_mem_nil, or_false, not_or]; exact ⟨(by decide), (Ne.symm (hi_ne b_q (by decide))), (Ne.symm (hi_ne b_d (by decide)))⟩))
        have p_184 := (RQ.kp ((RQ.kp ((RQ.kp ((RQ.kp ((RQ.kp ((RQ.kp ((RQ.kp ((RQ.kp ((RQ.kp ((RQ.kp ((RQ.kp ((RQ.kp ((RQ.kp ((RQ.kp ((RQ.kp ((RQ.kp (q81_24) (Ex.kp e_38) (by decide))) (Ex.kp e_42) (by decide))) (Ex.kp e_45) (by decide))) (Ex.kp e_50) (by decide))) (Ex.kp e_54) (by decide))) (Ex.kp e_57) (by decide))) (Ex.kp e_65) (by decide))) (Ex.kp e_71) (by decide))) (Ex.kp e_77) (by decide))) (Ex.kp e_82) (by decide))) (Ex.kp e_85) (by decide))) (Ex.kp e_154) (by decide))) (Ex.kp e_158) (by decide))) (Ex.kp e_160) (by decide))) (Ex.kp e_165) (by decide))) k_167 (by simp only [List.mem_cons, List.not_mem_nil, or_false, not_or]; exact ⟨(by decide), (Ne.symm (hi_ne b_q (by decide))), (Ne.symm (hi_ne b_d (by decide)))⟩))
        have p_185 := (RQ.kp ((RQ.kp ((RQ.kp ((RQ.kp ((RQ.kp ((RQ.kp ((RQ.kp ((RQ.kp ((RQ.kp ((RQ.kp ((RQ.kp ((RQ.kp ((RQ.kp ((RQ.kp ((RQ.kp ((RQ.kp (q80_24) (Ex.kp e_38) (by decide))) (Ex.kp e_42) (by decide))) (Ex.kp e_45) (by decide))) (Ex.kp e_50) (by decide))) (Ex.kp e_54) (by decide))) (Ex.kp e_57) (by decide))) (Ex.kp e_65) (by decide))) (Ex.kp e_71) (by decide))) (Ex.kp e_77) (by decide))) (Ex.kp e_82) (by decide))) (Ex.kp e_85) (by decide))) (Ex.kp e_154) (by decide))) (Ex.kp e_158) (by decide))) (Ex.kp e_160) (by decide))) (Ex.kp e_165) (by decide))) k_167 (by simp only [List.mem_cons, List.not_mem_nil, or_false, not_or]; exact ⟨(by decide), (Ne.symm (hi_ne b_q (by decide))), (Ne.symm (hi_ne b_d (by decide)))⟩))
        have h_186 := (k_167 77 (by simp only [List.mem_cons, List.not_mem_nil, or_false, not_or]; exact ⟨(by decide), (Ne.symm (hi_ne b_q (by decide))), (Ne.symm (hi_ne b_d (by decide)))⟩)).trans (h_166)
        have h_187 := (k_167 78 (by simp only [List.mem_cons, List.not_mem_nil, or_false, not_or]; exact ⟨(by decide), (Ne.symm (hi_ne b_q (by decide))), (Ne.symm (hi_ne b_d (by decide)))⟩)).trans (h_169)
        refine T_vret d_Cu_code_380 rfl (by decide) (by decide) ⟨rfl, hcu0.back ⟨h_186, h_187, (List.forall_mem_cons.mpr ⟨w_167, (List.forall_mem_cons.mpr ⟨p_185, (List.forall_mem_cons.mpr ⟨p_184, (List.forall_mem_cons.mpr ⟨p_183, (List.forall_mem_cons.mpr ⟨p_182, (List.forall_mem_cons.mpr ⟨p_181, (List.forall_mem_cons.mpr ⟨p_180, (List.forall_mem_cons.mpr ⟨(Rv.rq p_179), (List.forall_mem_cons.mpr ⟨(Rv.rq p_178), (List.forall_mem_cons.mpr ⟨(Rv.rq p_177), (List.forall_mem_cons.mpr ⟨(Rv.rq p_176), (List.forall_mem_cons.mpr ⟨(Rv.rq p_175), (List.forall_mem_cons.mpr ⟨(Rv.rq p_174), (List.forall_mem_cons.mpr ⟨p_173, (List.forall_mem_cons.mpr ⟨(Rv.rq p_172), (List.forall_mem_cons.mpr ⟨(Rv.rq p_171), (fun _ h => absurd h (List.not_mem_nil))⟩)⟩)⟩)⟩)⟩)⟩)⟩)⟩)⟩)⟩)⟩)⟩)⟩)⟩)⟩)⟩)⟩ K ?_, sv, K.mono ?_⟩
        · intro z hz; rcases List.mem_append.mp (show z ∈ cuR ++ [q, d] from hz) with h | h
          · exact Or.inl h
          · simp only [List.mem_cons, List.not_mem_nil, or_false] at h; omega
        · intro z hz; rcases List.mem_append.mp (show z ∈ cuR ++ [q, d] from hz) with h | h
          · exact List.mem_cons_of_mem _ (List.mem_cons_of_mem _ ((by decide +kernel : ∀ z ∈ cuR, z ∈ cuW) z h))
          · simp only [List.mem_cons, List.not_mem_nil, or_false] at h; rcases h with rfl | rfl <;> simp
      · rw [if_neg hb_160]
        refine T_eq (pc' := 354) (L' := [(0, .ref 77), (1, .ref p), (2, .ref q)]) (st' := [.int (nI 0)]) (M' := M_160) rfl rfl rfl rfl ?_
        refine N_if_eq_t (b := 0) d_Cu_code_354 (tgt := 368) rfl (by omega) (by omega) ?_
        refine T_aload_n (v := .ref 77) d_Cu_code_368 rfl (Or.inr ⟨_, rfl⟩) ?_
        have h_188 := (e_160 77 (by decide)).trans (h_159)
        refine T_getfield (v := .ref 78) d_Cu_code_369 fg_Cu_10 h_188 rfl ?_
        refine T_aload_n (v := .ref 77) d_Cu_code_372 rfl (Or.inr ⟨_, rfl⟩) ?_
        refine T_getfield (v := .ref 96) d_Cu_code_373 fg_Cu_43 h_188 rfl ?_
        refine T_aload_n (v := .ref q) d_Cu_code_376 rfl (Or.inr ⟨_, rfl⟩) ?_
        have p_189 := (RV.kp (v_158) (Ex.kp e_160) (by decide))
        have p_191 := (BY.kp ((BY.kp ((BY.kp ((BY.kp ((BY.kp ((BY.kp ((BY.kp ((BY.kp ((BY.kp ((BY.kp ((BY.kp ((BY.kp ((BY.kp ((BY.kp ((BY.kp ((BY.kp ((BY.kp ((BY.kp ((BY.kp ((BY.kp ((BY.kp (hq) (Ex.kp e_1) (hi_nin b_q (by decide)) (hi_nin b_d (by decide)))) (Ex.kp e_6) (hi_nin b_q (by decide)) (hi_nin b_d (by decide)))) (Ex.kp e_10) (hi_nin b_q (by decide)) (hi_nin b_d (by decide)))) (Ex.kp e_15) (hi_nin b_q (by decide)) (hi_nin b_d (by decide)))) (Ex.kp e_18) (hi_nin b_q (by decide)) (hi_nin b_d (by decide)))) (Ex.kp e_22) (hi_nin b_q (by decide)) (hi_nin b_d (by decide)))) k_24 (hi_nin b_q (by decide)) (hi_nin b_d (by decide)))) (Ex.kp e_38) (hi_nin b_q (by decide)) (hi_nin b_d (by decide)))) (Ex.kp e_42) (hi_nin b_q (by decide)) (hi_nin b_d (by decide)))) (Ex.kp e_45) (hi_nin b_q (by decide)) (hi_nin b_d (by decide)))) (Ex.kp e_50) (hi_nin b_q (by decide)) (hi_nin b_d (by decide)))) (Ex.kp e_54) (hi_nin b_q (by decide)) (hi_nin b_d (by decide)))) (Ex.kp e_57) (hi_nin b_q (by decide)) (hi_nin b_d (by decide)))) (Ex.kp e_65) (hi_nin b_q (by decide)) (hi_nin b_d (by decide)))) (Ex.kp e_71) (hi_nin b_q (by decide)) (hi_nin b_d (by decide)))) (Ex.kp e_77) (hi_nin b_q (by decide)) (hi_nin b_d (by decide)))) (Ex.kp e_82) (hi_nin b_q (by decide)) (hi_nin b_d (by decide)))) (Ex.kp e_85) (hi_nin b_q (by decide)) (hi_nin b_d (by decide)))) (Ex.kp e_154) (hi_nin b_q (by decide)) (hi_nin b_d (by decide)))) (Ex.kp e_158) (hi_nin b_q (by decide)) (hi_nin b_d (by decide)))) (Ex.kp e_160) (hi_nin b_q (by decide)) (hi_nin b_d (by decide)))
        have h_192 := (e_160 78 (by decide)).trans (h_161)
        refine T_virtual (as := [.ref 96, .ref q]) (rest := []) (b := 78) d_Cu_code_377 rfl (jw_Fi_save.jo (by decide)) lm_Cu_142 ji_Fi_save js_Fi_save h_192 rfl rfl rfl (Nat.le_of_ble_eq_true rfl) (by decide) (by decide) (y_Fi_save h_192 w_160 p_189 (by decide) p_191 k_d hne hroom hroom2 (hi_ne b_q (by decide)) (hi_ne b_q (by decide)) (hi_ne b_d (by decide)) (hi_ne b_d (by decide))) (fun r M_190 hq => ?_)
        obtain ⟨rfl, sv, w_190, k_190⟩ := hq
        refine T_eq (pc' := 380) (L' := [(0, .ref 77), (1, .ref p), (2, .ref q)]) (st' := []) (M' := M_190) rfl rfl rfl rfl ?_
        have a20 : ph x_10 = cAq (ph Y) (ph Z) := by rw [hx_10, ph_mul, hx_1, ph_add, hx_7, ph_sub]; rfl
        have a21 : ph x_16 = ph X * ph Y := by rw [hx_16, ph_mul]
        have aR : ph x_24 = cR (ph X) (ph Y) (ph Z) := by rw [hx_24, ph_rt, ph_3, hx_22, ph_mul, hx_19, ph_mul, a20, a21]; rfl
        have aS : ph x_50 = cS (ph X) (ph Y) (ph Z) (ph T) := by rw [hx_50, ph_mul, hx_46, ph_mul, hx_42, ph_mul, hx_38, ph_mul, aR, a20, a21]; rfl
        have t1 : ph x_55 = ph x_50 * ph T := by rw [hx_55, ph_mul]
        have he : ph x_66 = ph Y * fI := by rw [hx_66, ph_mul, ph_I]
        have hf : ph x_72 = ph X * fI := by rw [hx_72, ph_mul, ph_I]
        have hg : ph x_78 = cAq (ph Y) (ph Z) * cR (ph X) (ph Y) (ph Z) * fE := by rw [hx_78, ph_mul, hx_38, ph_mul, a20, aR, ph_9]
        have t2 : ph x_83 = ph x_66 * ph x_50 := by rw [hx_83, ph_mul]
        have t3 : ph x_158 = (ph Z - ph x_72) * ph x_78 := by rw [hx_158, ph_mul, hx_155, ph_sub]
        have fin := cF_of (X := ph X) (Y := ph Y) (Z := ph Z) (T := ph T) aS (Or.inl ⟨(od_of t1).mpr hb_57, he, hf, hg⟩) (Or.inr ⟨fun z => hb_85 ((od_of t2).mp z), rfl⟩) t3 (Or.inr ⟨fun z => hb_160 (od_ph.mp z), rfl⟩)
        rw [fin, cF_pj jp] at sv
        have K : Kp [79, 80, 81, 82, 83, 84, 85, 94, 95, 96, 97, 98, 99, 100, 101, 102, q, d] M M_190 := (Kp.tr (Kp.ex (Kp.ex (Kp.ex (Kp.ex (Kp.ex (Kp.ex (Kp.ex (Kp.ex (Kp.ex (Kp.ex (Kp.ex (Kp.ex (Kp.ex (Kp.ex (Kp.tr (Kp.ex (Kp.ex (Kp.ex (Kp.ex (Kp.ex (Kp.ex (Kp.rf : Kp [79, 80, 81, 82, 83, 84, 85, 94, 95, 96, 97, 98, 99, 100, 101, 102, q, d] M M) e_1 (by simp)) e_6 (by simp)) e_10 (by simp)) e_15 (by simp)) e_18 (by simp)) e_22 (by simp)) (Kp.mono k_24 (by simp))) e_38 (by simp)) e_42 (by simp)) e_45 (by simp)) e_50 (by simp)) e_54 (by simp)) e_57 (by simp)) e_65 (by simp)) e_71 (by simp)) e_77 (by simp)) e_82 (by simp)) e_85 (by simp)) e_154 (by simp)) e_158 (by simp)) e_160 (by simp)) (Kp.mono k_190 (by simp)))
        have p_193 := (RV.kp ((RV.kp ((RV.kp ((RV.kp ((RV.kp ((RV.kp (p_81) (Ex.kp e_82) (by decide))) (Ex.kp e_85) (by decide))) (Ex.kp e_154) (by decide))) (Ex.kp e_158) (by decide))) (Ex.kp e_160) (by decide))) k_190 (by simp only [List.mem_cons, List.not_mem_nil, or_false, not_or]; exact ⟨(by decide), (Ne.symm (hi_ne b_q (by decide))), (Ne.symm (hi_ne b_d (by decide)))⟩))
        have p_194 := (RV.kp ((RV.kp ((RV.kp ((RV.kp ((RV.kp ((RV.kp ((RV.kp ((RV.kp ((RV.kp ((RV.kp ((RV.kp ((RV.kp ((RV.kp ((RV.kp (p_41) (Ex.kp e_42) (by decide))) (Ex.kp e_45) (by decide))) (Ex.kp e_50) (by decide))) (Ex.kp e_54) (by decide))) (Ex.kp e_57) (by decide))) (Ex.kp e_65) (by decide))) (Ex.kp e_71) (by decide))) (Ex.kp e_77) (by decide))) (Ex.kp e_82) (by decide))) (Ex.kp e_85) (by decide))) (Ex.kp e_154) (by decide))) (Ex.kp e_158) (by decide))) (Ex.kp e_160) (by decide))) k_190 (by simp only [List.mem_cons, List.not_mem_nil, or_false, not_or]; exact ⟨(by decide), (Ne.symm (hi_ne b_q (by decide))), (Ne.symm (hi_ne b_d (by decide)))⟩))
        have p_195 := (RQ.kp ((RQ.kp ((RQ.kp ((RQ.kp ((RQ.kp ((RQ.kp ((RQ.kp ((RQ.kp ((RQ.kp ((RQ.kp ((RQ.kp ((RQ.kp ((RQ.kp ((RQ.kp ((RQ.kp ((RQ.kp ((RQ.kp ((RQ.kp ((RQ.kp ((RQ.kp ((RQ.kp ((RQ.kp ((hcs.2.2 100 (by decide))) (Ex.kp e_1) (by decide))) (Ex.kp e_6) (by decide))) (Ex.kp e_10) (by decide))) (Ex.kp e_15) (by decide))) (Ex.kp e_18) (by decide))) (Ex.kp e_22) (by decide))) k_24 (by decide))) (Ex.kp e_38) (by decide))) (Ex.kp e_42) (by decide))) (Ex.kp e_45) (by decide))) (Ex.kp e_50) (by decide))) (Ex.kp e_54) (by decide))) (Ex.kp e_57) (by decide))) (Ex.kp e_65) (by decide))) (Ex.kp e_71) (by decide))) (Ex.kp e_77) (by decide))) (Ex.kp e_82) (by decide))) (Ex.kp e_85) (by decide))) (Ex.kp e_154) (by decide))) (Ex.kp e_158) (by decide))) (Ex.kp e_160) (by decide))) k_190 (by simp only [List.mem_cons, List.not_mem_nil, or_false, not_or]; exact ⟨(by decide), (Ne.symm (hi_ne b_q (by decide))), (Ne.symm (hi_ne b_d (by decide)))⟩))
        have p_196 := (RV.kp ((RV.kp ((RV.kp (p_157) (Ex.kp e_158) (by decide))) (Ex.kp e_160) (by decide))) k_190 (by simp only [List.mem_cons, List.not_mem_nil, or_false, not_or]; exact ⟨(by decide), (Ne.symm (hi_ne b_q (by decide))), (Ne.symm (hi_ne b_d (by decide)))⟩))
        have p_197 := (RV.kp ((RV.kp ((RV.kp ((RV.kp (p_153) (Ex.kp e_154) (by decide))) (Ex.kp e_158) (by decide))) (Ex.kp e_160) (by decide))) k_190 (by simp only [List.mem_cons, List.not_mem_nil, or_false, not_or]; exact ⟨(by decide), (Ne.symm (hi_ne b_q (by decide))), (Ne.symm (hi_ne b_d (by decide)))⟩))
        have p_198 := (RV.kp ((RV.kp ((RV.kp ((RV.kp ((RV.kp ((RV.kp (p_80) (Ex.kp e_82) (by decide))) (Ex.kp e_85) (by decide))) (Ex.kp e_154) (by decide))) (Ex.kp e_158) (by decide))) (Ex.kp e_160) (by decide))) k_190 (by simp only [List.mem_cons, List.not_mem_nil, or_false, not_or]; exact ⟨(by decide), (Ne.symm (hi_ne b_q (by decide))), (Ne.symm (hi_ne b_d (by decide)))⟩))
        have p_199 := (RV.kp (p_189) k_190 (by simp only [List.mem_cons, List.not_mem_nil, or_false, not_or]; exact ⟨(by decide), (Ne.symm (hi_ne b_q (by decide))), (Ne.symm (hi_ne b_d (by decide)))⟩))
        have p_200 := (RV.kp ((RV.kp ((RV.kp ((RV.kp ((RV.kp ((RV.kp ((RV.kp ((RV.kp ((RV.kp ((RV.kp ((RV.kp ((RV.kp ((RV.kp (v_42) (Ex.kp e_45) (by decide))) (Ex.kp e_50) (by decide))) (Ex.kp e_54) (by decide))) (Ex.kp e_57) (by decide))) (Ex.kp e_65) (by decide))) (Ex.kp e_71) (by decide))) (Ex.kp e_77) (by decide))) (Ex.kp e_82) (by decide))) (Ex.kp e_85) (by decide))) (Ex.kp e_154) (by decide))) (Ex.kp e_158) (by decide))) (Ex.kp e_160) (by decide))) k_190 (by simp only [List.mem_cons, List.not_mem_nil, or_false, not_or]; exact ⟨(by decide), (Ne.symm (hi_ne b_q (by decide))), (Ne.symm (hi_ne b_d (by decide)))⟩))
        have p_201 := (RV.kp ((RV.kp ((RV.kp ((RV.kp ((RV.kp ((RV.kp ((RV.kp (p_74) (Ex.kp e_77) (by decide))) (Ex.kp e_82) (by decide))) (Ex.kp e_85) (by decide))) (Ex.kp e_154) (by decide))) (Ex.kp e_158) (by decide))) (Ex.kp e_160) (by decide))) k_190 (by simp only [List.mem_cons, List.not_mem_nil, or_false, not_or]; exact ⟨(by decide), (Ne.symm (hi_ne b_q (by decide))), (Ne.symm (hi_ne b_d (by decide)))⟩))
        have p_202 := (RQ.kp ((RQ.kp ((RQ.kp ((RQ.kp ((RQ.kp ((RQ.kp ((RQ.kp ((RQ.kp ((RQ.kp ((RQ.kp ((RQ.kp ((RQ.kp ((RQ.kp ((RQ.kp ((RQ.kp (q85_24) (Ex.kp e_38) (by decide))) (Ex.kp e_42) (by decide))) (Ex.kp e_45) (by decide))) (Ex.kp e_50) (by decide))) (Ex.kp e_54) (by decide))) (Ex.kp e_57) (by decide))) (Ex.kp e_65) (by decide))) (Ex.kp e_71) (by decide))) (Ex.kp e_77) (by decide))) (Ex.kp e_82) (by decide))) (Ex.kp e_85) (by decide))) (Ex.kp e_154) (by decide))) (Ex.kp e_158) (by decide))) (Ex.kp e_160) (by decide))) k_190 (by simp only [List.mem_cons, List.not_mem_nil, or_false, not_or]; exact ⟨(by decide), (Ne.symm (hi_ne b_q (by decide))), (Ne.symm (hi_ne b_d (by decide)))⟩))
        have p_203 := (RQ.kp ((RQ.kp ((RQ.kp ((RQ.kp ((RQ.kp ((RQ.kp ((RQ.kp ((RQ.kp ((RQ.kp ((RQ.kp ((RQ.kp ((RQ.kp ((RQ.kp ((RQ.kp ((RQ.kp (q84_24) (Ex.kp e_38) (by decide))) (Ex.kp e_42) (by decide))) (Ex.kp e_45) (by decide))) (Ex.kp e_50) (by decide))) (Ex.kp e_54) (by decide))) (Ex.kp e_57) (by decide))) (Ex.kp e_65) (by decide))) (Ex.kp e_71) (by decide))) (Ex.kp e_77) (by decide))) (Ex.kp e_82) (by decide))) (Ex.kp e_85) (by decide))) (Ex.kp e_154) (by decide))) (Ex.kp e_158) (by decide))) (Ex.kp e_160) (by decide))) k_190 (by simp only [List.mem_cons, List.not_mem_nil, or_false, not_or]; exact ⟨(by decide), (Ne.symm (hi_ne b_q (by decide))), (Ne.symm (hi_ne b_d (by decide)))⟩))
        have p_204 := (RQ.kp ((RQ.kp ((RQ.kp ((RQ.kp ((RQ.kp ((RQ.kp ((RQ.kp ((RQ.kp ((RQ.kp ((RQ.kp ((RQ.kp ((RQ.kp ((RQ.kp ((RQ.kp ((RQ.kp (q83_24) (Ex.kp e_38) (by decide))) (Ex.kp e_42) (by decide))) (Ex.kp e_45) (by decide))) (Ex.kp e_50) (by decide))) (Ex.kp e_54) (by decide))) (Ex.kp e_57) (by decide))) (Ex.kp e_65) (by decide))) (Ex.kp e_71) (by decide))) (Ex.kp e_77) (by decide))) (Ex.kp e_82) (by decide))) (Ex.kp e_85) (by decide))) (Ex.kp e_154) (by decide))) (Ex.kp e_158) (by decide))) (Ex.kp e_160) (by decide))) k_190 (by simp only [List.mem_cons, List.not_mem_nil, or_false, not_or]; exact ⟨(by decide), (Ne.symm (hi_ne b_q (by decide))), (Ne.symm (hi_ne b_d (by decide)))⟩))
        have p_205 := (RQ.kp ((RQ.kp ((RQ.kp ((RQ.kp ((RQ.kp ((RQ.kp ((RQ.kp ((RQ.kp ((RQ.kp ((RQ.kp ((RQ.kp ((RQ.kp ((RQ.kp ((RQ.kp ((RQ.kp (q82_24) (Ex.kp e_38) (by decide))) (Ex.kp e_42) (by decide))) (Ex.kp e_45) (by decide))) (Ex.kp e_50) (by decide))) (Ex.kp e_54) (by decide))) (Ex.kp e_57) (by decide))) (Ex.kp e_65) (by decide))) (Ex.kp e_71) (by decide))) (Ex.kp e_77) (by decide))) (Ex.kp e_82) (by decide))) (Ex.kp e_85) (by decide))) (Ex.kp e_154) (by decide))) (Ex.kp e_158) (by decide))) (Ex.kp e_160) (by decide))) k_190 (by simp only [List.mem_cons, List.not_mem_nil, or_false, not_or]; exact ⟨(by decide), (Ne.symm (hi_ne b_q (by decide))), (Ne.symm (hi_ne b_d (by decide)))⟩))
        have p_206 := (RQ.kp ((RQ.kp ((RQ.kp ((RQ.kp ((RQ.kp ((RQ.kp ((RQ.kp ((RQ.kp ((RQ.kp ((RQ.kp ((RQ.kp ((RQ.kp ((RQ.kp ((RQ.kp ((RQ.kp (q81_24) (Ex.kp e_38) (by decide))) (Ex.kp e_42) (by decide))) (Ex.kp e_45) (by decide))) (Ex.kp e_50) (by decide))) (Ex.kp e_54) (by decide))) (Ex.kp e_57) (by decide))) (Ex.kp e_65) (by decide))) (Ex.kp e_71) (by decide))) (Ex.kp e_77) (by decide))) (Ex.kp e_82) (by decide))) (Ex.kp e_85) (by decide))) (Ex.kp e_154) (by decide))) (Ex.kp e_158) (by decide))) (Ex.kp e_160) (by decide))) k_190 (by simp only [List.mem_cons, List.not_mem_nil, or_false, not_or]; exact ⟨(by decide), (Ne.symm (hi_ne b_q (by decide))), (Ne.symm (hi_ne b_d (by decide)))⟩))
        have p_207 := (RQ.kp ((RQ.kp ((RQ.kp ((RQ.kp ((RQ.kp ((RQ.kp ((RQ.kp ((RQ.kp ((RQ.kp ((RQ.kp ((RQ.kp ((RQ.kp ((RQ.kp ((RQ.kp ((RQ.kp (q80_24) (Ex.kp e_38) (by decide))) (Ex.kp e_42) (by decide))) (Ex.kp e_45) (by decide))) (Ex.kp e_50) (by decide))) (Ex.kp e_54) (by decide))) (Ex.kp e_57) (by decide))) (Ex.kp e_65) (by decide))) (Ex.kp e_71) (by decide))) (Ex.kp e_77) (by decide))) (Ex.kp e_82) (by decide))) (Ex.kp e_85) (by decide))) (Ex.kp e_154) (by decide))) (Ex.kp e_158) (by decide))) (Ex.kp e_160) (by decide))) k_190 (by simp only [List.mem_cons, List.not_mem_nil, or_false, not_or]; exact ⟨(by decide), (Ne.symm (hi_ne b_q (by decide))), (Ne.symm (hi_ne b_d (by decide)))⟩))
        have h_208 := (k_190 77 (by simp only [List.mem_cons, List.not_mem_nil, or_false, not_or]; exact ⟨(by decide), (Ne.symm (hi_ne b_q (by decide))), (Ne.symm (hi_ne b_d (by decide)))⟩)).trans (h_188)
        have h_209 := (k_190 78 (by simp only [List.mem_cons, List.not_mem_nil, or_false, not_or]; exact ⟨(by decide), (Ne.symm (hi_ne b_q (by decide))), (Ne.symm (hi_ne b_d (by decide)))⟩)).trans (h_192)
        refine T_vret d_Cu_code_380 rfl (by decide) (by decide) ⟨rfl, hcu0.back ⟨h_208, h_209, (List.forall_mem_cons.mpr ⟨w_190, (List.forall_mem_cons.mpr ⟨p_207, (List.forall_mem_cons.mpr ⟨p_206, (List.forall_mem_cons.mpr ⟨p_205, (List.forall_mem_cons.mpr ⟨p_204, (List.forall_mem_cons.mpr ⟨p_203, (List.forall_mem_cons.mpr ⟨p_202, (List.forall_mem_cons.mpr ⟨(Rv.rq p_201), (List.forall_mem_cons.mpr ⟨(Rv.rq p_200), (List.forall_mem_cons.mpr ⟨(Rv.rq p_199), (List.forall_mem_cons.mpr ⟨(Rv.rq p_198), (List.forall_mem_cons.mpr ⟨(Rv.rq p_197), (List.forall_mem_cons.mpr ⟨(Rv.rq p_196), (List.forall_mem_cons.mpr ⟨p_195, (List.forall_mem_cons.mpr ⟨(Rv.rq p_194), (List.forall_mem_cons.mpr ⟨(Rv.rq p_193), (fun _ h => absurd h (List.not_mem_nil))⟩)⟩)⟩)⟩)⟩)⟩)⟩)⟩)⟩)⟩)⟩)⟩)⟩)⟩)⟩)⟩)⟩ K ?_, sv, K.mono ?_⟩
        · intro z hz; rcases List.mem_append.mp (show z ∈ cuR ++ [q, d] from hz) with h | h
          · exact Or.inl h
          · simp only [List.mem_cons, List.not_mem_nil, or_false] at h; omega
        · intro z hz; rcases List.mem_append.mp (show z ∈ cuR ++ [q, d] from hz) with h | h
          · exact List.mem_cons_of_mem _ (List.mem_cons_of_mem _ ((by decide +kernel : ∀ z ∈ cuR, z ∈ cuW) z h))
          · simp only [List.mem_cons, List.not_mem_nil, or_false] at h; rcases h with rfl | rfl <;> simp
  · rw [if_neg hb_57]
    refine T_eq (pc' := 192) (L' := [(0, .ref 77), (1, .ref p), (2, .ref q)]) (st' := [.int (nI 0)]) (M' := M_57) rfl rfl rfl rfl ?_
    refine N_if_eq_t (b := 0) d_Cu_code_192 (tgt := 240) rfl (by omega) (by omega) ?_
    refine T_aload_n (v := .ref 77) d_Cu_code_240 rfl (Or.inr ⟨_, rfl⟩) ?_
    have h_210 := (e_57 77 (by decide)).trans (h_56)
    refine T_getfield (v := .ref 97) d_Cu_code_241 fg_Cu_46 h_210 rfl ?_
    refine T_aload_n (v := .ref p) d_Cu_code_244 rfl (Or.inr ⟨_, rfl⟩) ?_
    have h_211 := (e_57 p (hi_ne b_p (by decide))).trans ((e_54 p (hi_ne b_p (by decide))).trans (h_52))
    refine T_getfield (v := .ref px) d_Cu_code_245 fg_Cu_67 h_211 rfl ?_
    have p_212 := (RV.kp ((RV.kp ((RV.kp ((RV.kp ((RV.kp ((RV.kp ((RV.kp ((RV.kp ((RV.kp ((RV.kp (p_13) (Ex.kp e_15) (hi_nin b_px (by decide)))) (Ex.kp e_18) (hi_nin b_px (by decide)))) (Ex.kp e_22) (hi_nin b_px (by decide)))) k_24 (hi_nin b_px (by decide)))) (Ex.kp e_38) (hi_nin b_px (by decide)))) (Ex.kp e_42) (hi_nin b_px (by decide)))) (Ex.kp e_45) (hi_nin b_px (by decide)))) (Ex.kp e_50) (hi_nin b_px (by decide)))) (Ex.kp e_54) (hi_nin b_px (by decide)))) (Ex.kp e_57) (hi_nin b_px (by decide)))
    have p_214 := (RQ.kp ((RQ.kp ((RQ.kp ((RQ.kp ((RQ.kp ((RQ.kp ((RQ.kp ((RQ.kp ((RQ.kp ((RQ.kp ((RQ.kp ((RQ.kp ((RQ.kp ((hcs.2.2 97 (by decide))) (Ex.kp e_1) (by decide))) (Ex.kp e_6) (by decide))) (Ex.kp e_10) (by decide))) (Ex.kp e_15) (by decide))) (Ex.kp e_18) (by decide))) (Ex.kp e_22) (by decide))) k_24 (by decide))) (Ex.kp e_38) (by decide))) (Ex.kp e_42) (by decide))) (Ex.kp e_45) (by decide))) (Ex.kp e_50) (by decide))) (Ex.kp e_54) (by decide))) (Ex.kp e_57) (by decide))
    refine T_vcopy d_Cu_code_248 (jw_Fi_copy.jo (by decide)) lm_Cu_137 (Nat.le_of_ble_eq_true rfl) (by decide) (by decide) (by decide) p_214 p_212 (fun M_213 v_213 e_213 => ?_)
    refine T_aload_n (v := .ref 77) d_Cu_code_251 rfl (Or.inr ⟨_, rfl⟩) ?_
    have h_215 := (e_213 77 (by decide)).trans (h_210)
    refine T_getfield (v := .ref 98) d_Cu_code_252 fg_Cu_49 h_215 rfl ?_
    refine T_aload_n (v := .ref p) d_Cu_code_255 rfl (Or.inr ⟨_, rfl⟩) ?_
    have h_216 := (e_213 p (hi_ne b_p (by decide))).trans (h_211)
    refine T_getfield (v := .ref py) d_Cu_code_256 fg_Cu_64 h_216 rfl ?_
    have p_217 := (RV.kp ((RV.kp ((RV.kp ((RV.kp ((RV.kp ((RV.kp ((RV.kp ((RV.kp ((RV.kp ((RV.kp ((RV.kp (p_14) (Ex.kp e_15) (hi_nin b_py (by decide)))) (Ex.kp e_18) (hi_nin b_py (by decide)))) (Ex.kp e_22) (hi_nin b_py (by decide)))) k_24 (hi_nin b_py (by decide)))) (Ex.kp e_38) (hi_nin b_py (by decide)))) (Ex.kp e_42) (hi_nin b_py (by decide)))) (Ex.kp e_45) (hi_nin b_py (by decide)))) (Ex.kp e_50) (hi_nin b_py (by decide)))) (Ex.kp e_54) (hi_nin b_py (by decide)))) (Ex.kp e_57) (hi_nin b_py (by decide)))) (Ex.kp e_213) (hi_nin b_py (by decide)))
    have p_219 := (RQ.kp ((RQ.kp ((RQ.kp ((RQ.kp ((RQ.kp ((RQ.kp ((RQ.kp ((RQ.kp ((RQ.kp ((RQ.kp ((RQ.kp ((RQ.kp ((RQ.kp ((RQ.kp ((hcs.2.2 98 (by decide))) (Ex.kp e_1) (by decide))) (Ex.kp e_6) (by decide))) (Ex.kp e_10) (by decide))) (Ex.kp e_15) (by decide))) (Ex.kp e_18) (by decide))) (Ex.kp e_22) (by decide))) k_24 (by decide))) (Ex.kp e_38) (by decide))) (Ex.kp e_42) (by decide))) (Ex.kp e_45) (by decide))) (Ex.kp e_50) (by decide))) (Ex.kp e_54) (by decide))) (Ex.kp e_57) (by decide))) (Ex.kp e_213) (by decide))
    refine T_vcopy d_Cu_code_259 (jw_Fi_copy.jo (by decide)) lm_Cu_137 (Nat.le_of_ble_eq_true rfl) (by decide) (by decide) (by decide) p_219 p_217 (fun M_218 v_218 e_218 => ?_)
    refine T_aload_n (v := .ref 77) d_Cu_code_262 rfl (Or.inr ⟨_, rfl⟩) ?_
    have h_220 := (e_218 77 (by decide)).trans (h_215)
    refine T_getfield (v := .ref 99) d_Cu_code_263 fg_Cu_52 h_220 rfl ?_
    refine T_aload_n (v := .ref 77) d_Cu_code_266 rfl (Or.inr ⟨_, rfl⟩) ?_
    refine T_getfield (v := .ref 95) d_Cu_code_267 fg_Cu_40 h_220 rfl ?_
    have p_221 := (RV.kp ((RV.kp ((RV.kp ((RV.kp ((RV.kp ((RV.kp (v_42) (Ex.kp e_45) (by decide))) (Ex.kp e_50) (by decide))) (Ex.kp e_54) (by decide))) (Ex.kp e_57) (by decide))) (Ex.kp e_213) (by decide))) (Ex.kp e_218) (by decide))
    have p_223 := (RQ.kp ((RQ.kp ((RQ.kp ((RQ.kp ((RQ.kp ((RQ.kp ((RQ.kp ((RQ.kp ((RQ.kp ((RQ.kp ((RQ.kp ((RQ.kp ((RQ.kp ((RQ.kp ((RQ.kp ((hcs.2.2 99 (by decide))) (Ex.kp e_1) (by decide))) (Ex.kp e_6) (by decide))) (Ex.kp e_10) (by decide))) (Ex.kp e_15) (by decide))) (Ex.kp e_18) (by decide))) (Ex.kp e_22) (by decide))) k_24 (by decide))) (Ex.kp e_38) (by decide))) (Ex.kp e_42) (by decide))) (Ex.kp e_45) (by decide))) (Ex.kp e_50) (by decide))) (Ex.kp e_54) (by decide))) (Ex.kp e_57) (by decide))) (Ex.kp e_213) (by decide))) (Ex.kp e_218) (by decide))
    refine T_vcopy d_Cu_code_270 (jw_Fi_copy.jo (by decide)) lm_Cu_137 (Nat.le_of_ble_eq_true rfl) (by decide) (by decide) (by decide) p_223 p_221 (fun M_222 v_222 e_222 => ?_)
    refine T_aload_n (v := .ref 77) d_Cu_code_273 rfl (Or.inr ⟨_, rfl⟩) ?_
    have h_224 := (e_222 77 (by decide)).trans (h_220)
    refine T_getfield (v := .ref 96) d_Cu_code_274 fg_Cu_43 h_224 rfl ?_
    refine T_aload_n (v := .ref 77) d_Cu_code_277 rfl (Or.inr ⟨_, rfl⟩) ?_
    refine T_getfield (v := .ref 97) d_Cu_code_278 fg_Cu_46 h_224 rfl ?_
    refine T_aload_n (v := .ref 77) d_Cu_code_281 rfl (Or.inr ⟨_, rfl⟩) ?_
    refine T_getfield (v := .ref 102) d_Cu_code_282 fg_Cu_61 h_224 rfl ?_
    have p_225 := (RV.kp ((RV.kp (v_213) (Ex.kp e_218) (by decide))) (Ex.kp e_222) (by decide))
    have p_226 := (RV.kp ((RV.kp ((RV.kp ((RV.kp ((RV.kp (v_50) (Ex.kp e_54) (by decide))) (Ex.kp e_57) (by decide))) (Ex.kp e_213) (by decide))) (Ex.kp e_218) (by decide))) (Ex.kp e_222) (by decide))
    have p_228 := (RV.kp ((RV.kp ((RV.kp ((RV.kp (v_54) (Ex.kp e_57) (by decide))) (Ex.kp e_213) (by decide))) (Ex.kp e_218) (by decide))) (Ex.kp e_222) (by decide))
    refine T_vmul d_Cu_code_285 (jw_Fi_multiply.jo (by decide)) lm_Cu_74 (Nat.le_of_ble_eq_true rfl) (by decide) (by decide) (by decide) (Rv.rq p_228) p_225 p_226 (by decide) (fun M_227 v_227 e_227 => ?_)
    obtain ⟨x_228, hx_228⟩ : ∃ z : Int, z = (X * x_50) := ⟨_, rfl⟩
    rw [← hx_228] at v_227
    refine T_aload_n (v := .ref 77) d_Cu_code_288 rfl (Or.inr ⟨_, rfl⟩) ?_
    have h_229 := (e_227 77 (by decide)).trans (h_224)
    refine T_getfield (v := .ref 78) d_Cu_code_289 fg_Cu_10 h_229 rfl ?_
    refine T_aload_n (v := .ref 77) d_Cu_code_292 rfl (Or.inr ⟨_, rfl⟩) ?_
    refine T_getfield (v := .ref 96) d_Cu_code_293 fg_Cu_43 h_229 rfl ?_
    have h_231 := (e_227 78 (by decide)).trans ((e_222 78 (by decide)).trans ((e_218 78 (by decide)).trans ((e_213 78 (by decide)).trans ((e_57 78 (by decide)).trans (h_58)))))
    have p_232 := (RQ.kp ((RQ.kp ((RQ.kp ((RQ.kp (w_57) (Ex.kp e_213) (by decide))) (Ex.kp e_218) (by decide))) (Ex.kp e_222) (by decide))) (Ex.kp e_227) (by decide))
    refine T_visodd d_Cu_code_296 (jw_Fi_isOdd.jo (by decide)) lm_Cu_127 (Nat.le_of_ble_eq_true rfl) (by decide) (by decide) h_231 p_232 v_227 (by decide) (fun M_230 w_230 e_230 => ?_)
    by_cases hb_230 : (x_228 % pP) % 2 = 1
    · rw [if_pos hb_230]
      refine T_eq (pc' := 299) (L' := [(0, .ref 77), (1, .ref p), (2, .ref q)]) (st' := [.int (nI 1)]) (M' := M_230) rfl rfl rfl rfl ?_
      refine N_if_eq_f (b := 1) d_Cu_code_299 (tgt := 313) rfl (by omega) (by omega) ?_
      refine T_aload_n (v := .ref 77) d_Cu_code_302 rfl (Or.inr ⟨_, rfl⟩) ?_
      have h_233 := (e_230 77 (by decide)).trans (h_229)
      refine T_getfield (v := .ref 98) d_Cu_code_303 fg_Cu_49 h_233 rfl ?_
      refine T_aload_n (v := .ref 77) d_Cu_code_306 rfl (Or.inr ⟨_, rfl⟩) ?_
      refine T_getfield (v := .ref 98) d_Cu_code_307 fg_Cu_49 h_233 rfl ?_
      have p_234 := (RV.kp ((RV.kp ((RV.kp (v_218) (Ex.kp e_222) (by decide))) (Ex.kp e_227) (by decide))) (Ex.kp e_230) (by decide))
      refine T_vneg d_Cu_code_310 (jw_Fi_negate.jo (by decide)) lm_Cu_139 (Nat.le_of_ble_eq_true rfl) (by decide) (by decide) (by decide) (Rv.rq p_234) p_234 (by decide) (fun M_235 v_235 e_235 => ?_)
      obtain ⟨x_235, hx_235⟩ : ∃ z : Int, z = (-Y) := ⟨_, rfl⟩
      rw [← hx_235] at v_235
      refine T_aload_n (v := .ref 77) d_Cu_code_313 rfl (Or.inr ⟨_, rfl⟩) ?_
      have h_236 := (e_235 77 (by decide)).trans (h_233)
      refine T_getfield (v := .ref 96) d_Cu_code_314 fg_Cu_43 h_236 rfl ?_
      refine T_aload_n (v := .ref p) d_Cu_code_317 rfl (Or.inr ⟨_, rfl⟩) ?_
      have h_237 := (e_235 p (hi_ne b_p (by decide))).trans ((e_230 p (hi_ne b_p (by decide))).trans ((e_227 p (hi_ne b_p (by decide))).trans ((e_222 p (hi_ne b_p (by decide))).trans ((e_218 p (hi_ne b_p (by decide))).trans (h_216)))))
      refine T_getfield (v := .ref pz) d_Cu_code_318 fg_Cu_86 h_237 rfl ?_
      refine T_aload_n (v := .ref 77) d_Cu_code_321 rfl (Or.inr ⟨_, rfl⟩) ?_
      refine T_getfield (v := .ref 98) d_Cu_code_322 fg_Cu_49 h_236 rfl ?_
      have p_238 := (RV.kp ((RV.kp ((RV.kp ((RV.kp ((RV.kp ((RV.kp ((RV.kp ((RV.kp ((RV.kp ((RV.kp ((RV.kp ((RV.kp ((RV.kp ((RV.kp ((RV.kp ((RV.kp ((RV.kp ((RV.kp (p_4) (Ex.kp e_6) (hi_nin b_pz (by decide)))) (Ex.kp e_10) (hi_nin b_pz (by decide)))) (Ex.kp e_15) (hi_nin b_pz (by decide)))) (Ex.kp e_18) (hi_nin b_pz (by decide)))) (Ex.kp e_22) (hi_nin b_pz (by decide)))) k_24 (hi_nin b_pz (by decide)))) (Ex.kp e_38) (hi_nin b_pz (by decide)))) (Ex.kp e_42) (hi_nin b_pz (by decide)))) (Ex.kp e_45) (hi_nin b_pz (by decide)))) (Ex.kp e_50) (hi_nin b_pz (by decide)))) (Ex.kp e_54) (hi_nin b_pz (by decide)))) (Ex.kp e_57) (hi_nin b_pz (by decide)))) (Ex.kp e_213) (hi_nin b_pz (by decide)))) (Ex.kp e_218) (hi_nin b_pz (by decide)))) (Ex.kp e_222) (hi_nin b_pz (by decide)))) (Ex.kp e_227) (hi_nin b_pz (by decide)))) (Ex.kp e_230) (hi_nin b_pz (by decide)))) (Ex.kp e_235) (hi_nin b_pz (by decide)))
      have p_240 := (RV.kp ((RV.kp (v_227) (Ex.kp e_230) (by decide))) (Ex.kp e_235) (by decide))
      refine T_vsub d_Cu_code_325 (jw_Fi_subtract.jo (by decide)) lm_Cu_70 (Nat.le_of_ble_eq_true rfl) (by decide) (by decide) (by decide) (Rv.rq p_240) p_238 v_235 (by decide) (fun M_239 v_239 e_239 => ?_)
      obtain ⟨x_240, hx_240⟩ : ∃ z : Int, z = (Z - x_235) := ⟨_, rfl⟩
      rw [← hx_240] at v_239
      refine T_aload_n (v := .ref 77) d_Cu_code_328 rfl (Or.inr ⟨_, rfl⟩) ?_
      have h_241 := (e_239 77 (by decide)).trans (h_236)
      refine T_getfield (v := .ref 96) d_Cu_code_329 fg_Cu_43 h_241 rfl ?_
      refine T_aload_n (v := .ref 77) d_Cu_code_332 rfl (Or.inr ⟨_, rfl⟩) ?_
      refine T_getfield (v := .ref 96) d_Cu_code_333 fg_Cu_43 h_241 rfl ?_
      refine T_aload_n (v := .ref 77) d_Cu_code_336 rfl (Or.inr ⟨_, rfl⟩) ?_
      refine T_getfield (v := .ref 99) d_Cu_code_337 fg_Cu_52 h_241 rfl ?_
      have p_242 := (RV.kp ((RV.kp ((RV.kp ((RV.kp (v_222) (Ex.kp e_227) (by decide))) (Ex.kp e_230) (by decide))) (Ex.kp e_235) (by decide))) (Ex.kp e_239) (by decide))
      refine T_vmul d_Cu_code_340 (jw_Fi_multiply.jo (by decide)) lm_Cu_74 (Nat.le_of_ble_eq_true rfl) (by decide) (by decide) (by decide) (Rv.rq v_239) v_239 p_242 (by decide) (fun M_243 v_243 e_243 => ?_)
      obtain ⟨x_243, hx_243⟩ : ∃ z : Int, z = (x_240 * x_42) := ⟨_, rfl⟩
      rw [← hx_243] at v_243
      refine T_aload_n (v := .ref 77) d_Cu_code_343 rfl (Or.inr ⟨_, rfl⟩) ?_
      have h_244 := (e_243 77 (by decide)).trans (h_241)
      refine T_getfield (v := .ref 78) d_Cu_code_344 fg_Cu_10 h_244 rfl ?_
      refine T_aload_n (v := .ref 77) d_Cu_code_347 rfl (Or.inr ⟨_, rfl⟩) ?_
      refine T_getfield (v := .ref 96) d_Cu_code_348 fg_Cu_43 h_244 rfl ?_
      have h_246 := (e_243 78 (by decide)).trans ((e_239 78 (by decide)).trans ((e_235 78 (by decide)).trans ((e_230 78 (by decide)).trans (h_231))))
      have p_247 := (RQ.kp ((RQ.kp ((RQ.kp (w_230) (Ex.kp e_235) (by decide))) (Ex.kp e_239) (by decide))) (Ex.kp e_243) (by decide))
      refine T_visodd d_Cu_code_351 (jw_Fi_isOdd.jo (by decide)) lm_Cu_127 (Nat.le_of_ble_eq_true rfl) (by decide) (by decide) h_246 p_247 v_243 (by decide) (fun M_245 w_245 e_245 => ?_)
      by_cases hb_245 : (x_243 % pP) % 2 = 1
      · rw [if_pos hb_245]
        refine T_eq (pc' := 354) (L' := [(0, .ref 77), (1, .ref p), (2, .ref q)]) (st' := [.int (nI 1)]) (M' := M_245) rfl rfl rfl rfl ?_
        refine N_if_eq_f (b := 1) d_Cu_code_354 (tgt := 368) rfl (by omega) (by omega) ?_
        refine T_aload_n (v := .ref 77) d_Cu_code_357 rfl (Or.inr ⟨_, rfl⟩) ?_
        have h_248 := (e_245 77 (by decide)).trans (h_244)
        refine T_getfield (v := .ref 96) d_Cu_code_358 fg_Cu_43 h_248 rfl ?_
        refine T_aload_n (v := .ref 77) d_Cu_code_361 rfl (Or.inr ⟨_, rfl⟩) ?_
        refine T_getfield (v := .ref 96) d_Cu_code_362 fg_Cu_43 h_248 rfl ?_
        have p_249 := (RV.kp (v_243) (Ex.kp e_245) (by decide))
        refine T_vneg d_Cu_code_365 (jw_Fi_negate.jo (by decide)) lm_Cu_139 (Nat.le_of_ble_eq_true rfl) (by decide) (by decide) (by decide) (Rv.rq p_249) p_249 (by decide) (fun M_250 v_250 e_250 => ?_)
        obtain ⟨x_250, hx_250⟩ : ∃ z : Int, z = (-x_243) := ⟨_, rfl⟩
        rw [← hx_250] at v_250
        refine T_aload_n (v := .ref 77) d_Cu_code_368 rfl (Or.inr ⟨_, rfl⟩) ?_
        have h_251 := (e_250 77 (by decide)).trans (h_248)
        refine T_getfield (v := .ref 78) d_Cu_code_369 fg_Cu_10 h_251 rfl ?_
        refine T_aload_n (v := .ref 77) d_Cu_code_372 rfl (Or.inr ⟨_, rfl⟩) ?_
        refine T_getfield (v := .ref 96) d_Cu_code_373 fg_Cu_43 h_251 rfl ?_
        refine T_aload_n (v := .ref q) d_Cu_code_376 rfl (Or.inr ⟨_, rfl⟩) ?_
        have p_253 := (BY.kp ((BY.kp ((BY.kp ((BY.kp ((BY.kp ((BY.kp ((BY.kp ((BY.kp ((BY.kp ((BY.kp ((BY.kp ((BY.kp ((BY.kp ((BY.kp ((BY.kp ((BY.kp ((BY.kp ((BY.kp ((BY.kp ((BY.kp ((BY.kp ((BY.kp ((BY.kp (hq) (Ex.kp e_1) (hi_nin b_q (by decide)) (hi_nin b_d (by decide)))) (Ex.kp e_6) (hi_nin b_q (by decide)) (hi_nin b_d (by decide)))) (Ex.kp e_10) (hi_nin b_q (by decide)) (hi_nin b_d (by decide)))) (Ex.kp e_15) (hi_nin b_q (by decide)) (hi_nin b_d (by decide)))) (Ex.kp e_18) (hi_nin b_q (by decide)) (hi_nin b_d (by decide)))) (Ex.kp e_22) (hi_nin b_q (by decide)) (hi_nin b_d (by decide)))) k_24 (hi_nin b_q (by decide)) (hi_nin b_d (by decide)))) (Ex.kp e_38) (hi_nin b_q (by decide)) (hi_nin b_d (by decide)))) (Ex.kp e_42) (hi_nin b_q (by decide)) (hi_nin b_d (by decide)))) (Ex.kp e_45) (hi_nin b_q (by decide)) (hi_nin b_d (by decide)))) (Ex.kp e_50) (hi_nin b_q (by decide)) (hi_nin b_d (by decide)))) (Ex.kp e_54) (hi_nin b_q (by decide)) (hi_nin b_d (by decide)))) (Ex.kp e_57) (hi_nin b_q (by decide)) (hi_nin b_d (by decide)))) (Ex.kp e_213) (hi_nin b_q (by decide)) (hi_nin b_d (by decide)))) (Ex.kp e_218) (hi_nin b_q (by decide)) (hi_nin b_d (by decide)))) (Ex.kp e_222) (hi_nin b_q (by decide)) (hi_nin b_d (by decide)))) (Ex.kp e_227) (hi_nin b_q (by decide)) (hi_nin b_d (by decide)))) (Ex.kp e_230) (hi_nin b_q (by decide)) (hi_nin b_d (by decide)))) (Ex.kp e_235) (hi_nin b_q (by decide)) (hi_nin b_d (by decide)))) (Ex.kp e_239) (hi_nin b_q (by decide)) (hi_nin b_d (by decide)))) (Ex.kp e_243) (hi_nin b_q (by decide)) (hi_nin b_d (by decide)))) (Ex.kp e_245) (hi_nin b_q (by decide)) (hi_nin b_d (by decide)))) (Ex.kp e_250) (hi_nin b_q (by decide)) (hi_nin b_d (by decide)))
        have h_254 := (e_250 78 (by decide)).trans ((e_245 78 (by decide)).trans (h_246))
        have p_255 := (RQ.kp (w_245) (Ex.kp e_250) (by decide))
        refine T_virtual (as := [.ref 96, .ref q]) (rest := []) (b := 78) d_Cu_code_377 rfl (jw_Fi_save.jo (by decide)) lm_Cu_142 ji_Fi_save js_Fi_save h_254 rfl rfl rfl (Nat.le_of_ble_eq_true rfl) (by decide) (by decide) (y_Fi_save h_254 p_255 v_250 (by decide) p_253 k_d hne hroom hroom2 (hi_ne b_q (by decide)) (hi_ne b_q (by decide)) (hi_ne b_d (by decide)) (hi_ne b_d (by decide))) (fun r M_252 hq => ?_)
        obtain ⟨rfl, sv, w_252, k_252⟩ := hq
        refine T_eq (pc' := 380) (L' := [(0, .ref 77), (1, .ref p), (2, .ref q)]) (st' := []) (M' := M_252) rfl rfl rfl rfl ?_
        have a20 : ph x_10 = cAq (ph Y) (ph Z) := by rw [hx_10, ph_mul, hx_1, ph_add, hx_7, ph_sub]; rfl
        have a21 : ph x_16 = ph X * ph Y := by rw [hx_16, ph_mul]
        have aR : ph x_24 = cR (ph X) (ph Y) (ph Z) := by rw [hx_24, ph_rt, ph_3, hx_22, ph_mul, hx_19, ph_mul, a20, a21]; rfl
        have aS : ph x_50 = cS (ph X) (ph Y) (ph Z) (ph T) := by rw [hx_50, ph_mul, hx_46, ph_mul, hx_42, ph_mul, hx_38, ph_mul, aR, a20, a21]; rfl
        have t1 : ph x_55 = ph x_50 * ph T := by rw [hx_55, ph_mul]
        have hg : ph x_42 = ph X * ph Y * cR (ph X) (ph Y) (ph Z) := by rw [hx_42, ph_mul, a21, aR]
        have t2 : ph x_228 = ph X * ph x_50 := by rw [hx_228, ph_mul]
        have hf2 : ph x_235 = -ph Y := by rw [hx_235, ph_neg]
        have t3 : ph x_243 = (ph Z - ph x_235) * ph x_42 := by rw [hx_243, ph_mul, hx_240, ph_sub]
        have hc : ph x_250 = -ph x_243 := by rw [hx_250, ph_neg]
        have fin := cF_of (X := ph X) (Y := ph Y) (Z := ph Z) (T := ph T) aS (Or.inr ⟨fun z => hb_57 ((od_of t1).mp z), rfl, rfl, hg⟩) (Or.inl ⟨(od_of t2).mpr hb_230, hf2⟩) t3 (Or.inl ⟨od_ph.mpr hb_245, hc⟩)
        rw [fin, cF_pj jp] at sv
        have K : Kp [79, 80, 81, 82, 83, 84, 85, 94, 95, 96, 97, 98, 99, 100, 101, 102, q, d] M M_252 := (Kp.tr (Kp.ex (Kp.ex (Kp.ex (Kp.ex (Kp.ex (Kp.ex (Kp.ex (Kp.ex (Kp.ex (Kp.ex (Kp.ex (Kp.ex (Kp.ex (Kp.ex (Kp.ex (Kp.ex (Kp.tr (Kp.ex (Kp.ex (Kp.ex (Kp.ex (Kp.ex (Kp.ex (Kp.rf : Kp [79, 80, 81, 82, 83, 84, 85, 94, 95, 96, 97, 98, 99, 100, 101, 102, q, d] M M) e_1 (by simp)) e_6 (by simp)) e_10 (by simp)) e_15 (by simp)) e_18 (by simp)) e_22 (by simp)) (Kp.mono k_24 (by simp))) e_38 (by simp)) e_42 (by simp)) e_45 (by simp)) e_50 (by simp)) e_54 (by simp)) e_57 (by simp)) e_213 (by simp)) e_218 (by simp)) e_222 (by simp)) e_227 (by simp)) e_230 (by simp)) e_235 (by simp)) e_239 (by simp)) e_243 (by simp)) e_245 (by simp)) e_250 (by simp)) (Kp.mono k_252 (by simp)))
        have p_256 := (RV.kp ((RV.kp ((RV.kp ((RV.kp ((RV.kp ((RV.kp ((RV.kp ((RV.kp (p_226) (Ex.kp e_227) (by decide))) (Ex.kp e_230) (by decide))) (Ex.kp e_235) (by decide))) (Ex.kp e_239) (by decide))) (Ex.kp e_243) (by decide))) (Ex.kp e_245) (by decide))) (Ex.kp e_250) (by decide))) k_252 (by simp only [List.mem_cons, List.not_mem_nil, or_false, not_or]; exact ⟨(by decide), (Ne.symm (hi_ne b_q (by decide))), (Ne.symm (hi_ne b_d (by decide)))⟩))
        have p_257 := (RV.kp ((RV.kp ((RV.kp ((RV.kp ((RV.kp ((RV.kp ((RV.kp ((RV.kp ((RV.kp ((RV.kp ((RV.kp ((RV.kp ((RV.kp ((RV.kp ((RV.kp ((RV.kp (p_41) (Ex.kp e_42) (by decide))) (Ex.kp e_45) (by decide))) (Ex.kp e_50) (by decide))) (Ex.kp e_54) (by decide))) (Ex.kp e_57) (by decide))) (Ex.kp e_213) (by decide))) (Ex.kp e_218) (by decide))) (Ex.kp e_222) (by decide))) (Ex.kp e_227) (by decide))) (Ex.kp e_230) (by decide))) (Ex.kp e_235) (by decide))) (Ex.kp e_239) (by decide))) (Ex.kp e_243) (by decide))) (Ex.kp e_245) (by decide))) (Ex.kp e_250) (by decide))) k_252 (by simp only [List.mem_cons, List.not_mem_nil, or_false, not_or]; exact ⟨(by decide), (Ne.symm (hi_ne b_q (by decide))), (Ne.symm (hi_ne b_d (by decide)))⟩))
        have p_258 := (RQ.kp ((RQ.kp ((RQ.kp ((RQ.kp ((RQ.kp ((RQ.kp ((RQ.kp ((RQ.kp ((RQ.kp ((RQ.kp ((RQ.kp ((RQ.kp ((RQ.kp ((RQ.kp ((RQ.kp ((RQ.kp ((RQ.kp ((RQ.kp ((RQ.kp ((RQ.kp ((RQ.kp ((RQ.kp ((RQ.kp ((RQ.kp ((hcs.2.2 100 (by decide))) (Ex.kp e_1) (by decide))) (Ex.kp e_6) (by decide))) (Ex.kp e_10) (by decide))) (Ex.kp e_15) (by decide))) (Ex.kp e_18) (by decide))) (Ex.kp e_22) (by decide))) k_24 (by decide))) (Ex.kp e_38) (by decide))) (Ex.kp e_42) (by decide))) (Ex.kp e_45) (by decide))) (Ex.kp e_50) (by decide))) (Ex.kp e_54) (by decide))) (Ex.kp e_57) (by decide))) (Ex.kp e_213) (by decide))) (Ex.kp e_218) (by decide))) (Ex.kp e_222) (by decide))) (Ex.kp e_227) (by decide))) (Ex.kp e_230) (by decide))) (Ex.kp e_235) (by decide))) (Ex.kp e_239) (by decide))) (Ex.kp e_243) (by decide))) (Ex.kp e_245) (by decide))) (Ex.kp e_250) (by decide))) k_252 (by simp only [List.mem_cons, List.not_mem_nil, or_false, not_or]; exact ⟨(by decide), (Ne.symm (hi_ne b_q (by decide))), (Ne.symm (hi_ne b_d (by decide)))⟩))
        have p_259 := (RV.kp ((RV.kp ((RV.kp ((RV.kp (p_242) (Ex.kp e_243) (by decide))) (Ex.kp e_245) (by decide))) (Ex.kp e_250) (by decide))) k_252 (by simp only [List.mem_cons, List.not_mem_nil, or_false, not_or]; exact ⟨(by decide), (Ne.symm (hi_ne b_q (by decide))), (Ne.symm (hi_ne b_d (by decide)))⟩))
        have p_260 := (RV.kp ((RV.kp ((RV.kp ((RV.kp ((RV.kp (v_235) (Ex.kp e_239) (by decide))) (Ex.kp e_243) (by decide))) (Ex.kp e_245) (by decide))) (Ex.kp e_250) (by decide))) k_252 (by simp only [List.mem_cons, List.not_mem_nil, or_false, not_or]; exact ⟨(by decide), (Ne.symm (hi_ne b_q (by decide))), (Ne.symm (hi_ne b_d (by decide)))⟩))
        have p_261 := (RV.kp ((RV.kp ((RV.kp ((RV.kp ((RV.kp ((RV.kp ((RV.kp ((RV.kp (p_225) (Ex.kp e_227) (by decide))) (Ex.kp e_230) (by decide))) (Ex.kp e_235) (by decide))) (Ex.kp e_239) (by decide))) (Ex.kp e_243) (by decide))) (Ex.kp e_245) (by decide))) (Ex.kp e_250) (by decide))) k_252 (by simp only [List.mem_cons, List.not_mem_nil, or_false, not_or]; exact ⟨(by decide), (Ne.symm (hi_ne b_q (by decide))), (Ne.symm (hi_ne b_d (by decide)))⟩))
        have p_262 := (RV.kp (v_250) k_252 (by simp only [List.mem_cons, List.not_mem_nil, or_false, not_or]; exact ⟨(by decide), (Ne.symm (hi_ne b_q (by decide))), (Ne.symm (hi_ne b_d (by decide)))⟩))
        have p_263 := (RV.kp ((RV.kp ((RV.kp ((RV.kp ((RV.kp ((RV.kp ((RV.kp ((RV.kp ((RV.kp (p_221) (Ex.kp e_222) (by decide))) (Ex.kp e_227) (by decide))) (Ex.kp e_230) (by decide))) (Ex.kp e_235) (by decide))) (Ex.kp e_239) (by decide))) (Ex.kp e_243) (by decide))) (Ex.kp e_245) (by decide))) (Ex.kp e_250) (by decide))) k_252 (by simp only [List.mem_cons, List.not_mem_nil, or_false, not_or]; exact ⟨(by decide), (Ne.symm (hi_ne b_q (by decide))), (Ne.symm (hi_ne b_d (by decide)))⟩))
        have p_264 := (RV.kp ((RV.kp ((RV.kp ((RV.kp ((RV.kp ((RV.kp ((RV.kp ((RV.kp ((RV.kp ((RV.kp ((RV.kp ((RV.kp ((RV.kp ((RV.kp ((RV.kp (p_44) (Ex.kp e_45) (by decide))) (Ex.kp e_50) (by decide))) (Ex.kp e_54) (by decide))) (Ex.kp e_57) (by decide))) (Ex.kp e_213) (by decide))) (Ex.kp e_218) (by decide))) (Ex.kp e_222) (by decide))) (Ex.kp e_227) (by decide))) (Ex.kp e_230) (by decide))) (Ex.kp e_235) (by decide))) (Ex.kp e_239) (by decide))) (Ex.kp e_243) (by decide))) (Ex.kp e_245) (by decide))) (Ex.kp e_250) (by decide))) k_252 (by simp only [List.mem_cons, List.not_mem_nil, or_false, not_or]; exact ⟨(by decide), (Ne.symm (hi_ne b_q (by decide))), (Ne.symm (hi_ne b_d (by decide)))⟩))
        have p_265 := (RQ.kp ((RQ.kp ((RQ.kp ((RQ.kp ((RQ.kp ((RQ.kp ((RQ.kp ((RQ.kp ((RQ.kp ((RQ.kp ((RQ.kp ((RQ.kp ((RQ.kp ((RQ.kp ((RQ.kp ((RQ.kp ((RQ.kp (q85_24) (Ex.kp e_38) (by decide))) (Ex.kp e_42) (by decide))) (Ex.kp e_45) (by decide))) (Ex.kp e_50) (by decide))) (Ex.kp e_54) (by decide))) (Ex.kp e_57) (by decide))) (Ex.kp e_213) (by decide))) (Ex.kp e_218) (by decide))) (Ex.kp e_222) (by decide))) (Ex.kp e_227) (by decide))) (Ex.kp e_230) (by decide))) (Ex.kp e_235) (by decide))) (Ex.kp e_239) (by decide))) (Ex.kp e_243) (by decide))) (Ex.kp e_245) (by decide))) (Ex.kp e_250) (by decide))) k_252 (by simp only [List.mem_cons, List.not_mem_nil, or_false, not_or]; exact ⟨(by decide), (Ne.symm (hi_ne b_q (by decide))), (Ne.symm (hi_ne b_d (by decide)))⟩))
        have p_266 := (RQ.kp ((RQ.kp ((RQ.kp ((RQ.kp ((RQ.kp ((RQ.kp ((RQ.kp ((RQ.kp ((RQ.kp ((RQ.kp ((RQ.kp ((RQ.kp ((RQ.kp ((RQ.kp ((RQ.kp ((RQ.kp ((RQ.kp (q84_24) (Ex.kp e_38) (by decide))) (Ex.kp e_42) (by decide))) (Ex.kp e_45) (by decide))) (Ex.kp e_50) (by decide))) (Ex.kp e_54) (by decide))) (Ex.kp e_57) (by decide))) (Ex.kp e_213) (by decide))) (Ex.kp e_218) (by decide))) (Ex.kp e_222) (by decide))) (Ex.kp e_227) (by decide))) (Ex.kp e_230) (by decide))) (Ex.kp e_235) (by decide))) (Ex.kp e_239) (by decide))) (Ex.kp e_243) (by decide))) (Ex.kp e_245) (by decide))) (Ex.kp e_250) (by decide))) k_252 (by simp only [List.mem_cons, List.not_mem_nil, or_false, not_or]; exact ⟨(by decide), (Ne.symm (hi_ne b_q (by decide))), (Ne.symm (hi_ne b_d (by decide)))⟩))
        have p_267 := (RQ.kp ((RQ.kp ((RQ.kp ((RQ.kp ((RQ.kp ((RQ.kp ((RQ.kp ((RQ.kp ((RQ.kp ((RQ.kp ((RQ.kp ((RQ.kp ((RQ.kp ((RQ.kp ((RQ.kp ((RQ.kp ((RQ.kp (q83_24) (Ex.kp e_38) (by decide))) (Ex.kp e_42) (by decide))) (Ex.kp e_45) (by decide))) (Ex.kp e_50) (by decide))) (Ex.kp e_54) (by decide))) (Ex.kp e_57) (by decide))) (Ex.kp e_213) (by decide))) (Ex.kp e_218) (by decide))) (Ex.kp e_222) (by decide))) (Ex.kp e_227) (by decide))) (Ex.kp e_230) (by decide))) (Ex.kp e_235) (by decide))) (Ex.kp e_239) (by decide))) (Ex.kp e_243) (by decide))) (Ex.kp e_245) (by decide))) (Ex.kp e_250) (by decide))) k_252 (by simp only [List.mem_cons, List.not_mem_nil, or_false, not_or]; exact ⟨(by decide), (Ne.symm (hi_ne b_q (by decide))), (Ne.symm (hi_ne b_d (by decide)))⟩))
        have p_268 := (RQ.kp ((RQ.kp ((RQ.kp ((RQ.kp ((RQ.kp ((RQ.kp ((RQ.kp ((RQ.kp ((RQ.kp ((RQ.kp ((RQ.kp ((RQ.kp ((RQ.kp ((RQ.kp ((RQ.kp ((RQ.kp ((RQ.kp (q82_24) (Ex.kp e_38) (by decide))) (Ex.kp e_42) (by decide))) (Ex.kp e_45) (by decide))) (Ex.kp e_50) (by decide))) (Ex.kp e_54) (by decide))) (Ex.kp e_57) (by decide))) (Ex.kp e_213) (by decide))) (Ex.kp e_218) (by decide))) (Ex.kp e_222) (by decide))) (Ex.kp e_227) (by decide))) (Ex.kp e_230) (by decide))) (Ex.kp e_235) (by decide))) (Ex.kp e_239) (by decide))) (Ex.kp e_243) (by decide))) (Ex.kp e_245) (by decide))) (Ex.kp e_250) (by decide))) k_252 (by simp only [List.mem_cons, List.not_mem_nil, or_false, not_or]; exact ⟨(by decide), (Ne.symm (hi_ne b_q (by decide))), (Ne.symm (hi_ne b_d (by decide)))⟩))
        have p_269 := (RQ.kp ((RQ.kp ((RQ.kp ((RQ.kp ((RQ.kp ((RQ.kp ((RQ.kp ((RQ.kp ((RQ.kp ((RQ.kp ((RQ.kp ((RQ.kp ((RQ.kp ((RQ.kp ((RQ.kp ((RQ.kp ((RQ.kp (q81_24) (Ex.kp e_38) (by decide))) (Ex.kp e_42) (by decide))) (Ex.kp e_45) (by decide))) (Ex.kp e_50) (by decide))) (Ex.kp e_54) (by decide))) (Ex.kp e_57) (by decide))) (Ex.kp e_213) (by decide))) (Ex.kp e_218) (by decide))) (Ex.kp e_222) (by decide))) (Ex.kp e_227) (by decide))) (Ex.kp e_230) (by decide))) (Ex.kp e_235) (by decide))) (Ex.kp e_239) (by decide))) (Ex.kp e_243) (by decide))) (Ex.kp e_245) (by decide))) (Ex.kp e_250) (by decide))) k_252 (by simp only [List.mem_cons, List.not_mem_nil, or_false, not_or]; exact ⟨(by decide), (Ne.symm (hi_ne b_q (by decide))), (Ne.symm (hi_ne b_d (by decide)))⟩))
        have p_270 := (RQ.kp ((RQ.kp ((RQ.kp ((RQ.kp ((RQ.kp ((RQ.kp ((RQ.kp ((RQ.kp ((RQ.kp ((RQ.kp ((RQ.kp ((RQ.kp ((RQ.kp ((RQ.kp ((RQ.kp ((RQ.kp ((RQ.kp (q80_24) (Ex.kp e_38) (by decide))) (Ex.kp e_42) (by decide))) (Ex.kp e_45) (by decide))) (Ex.kp e_50) (by decide))) (Ex.kp e_54) (by decide))) (Ex.kp e_57) (by decide))) (Ex.kp e_213) (by decide))) (Ex.kp e_218) (by decide))) (Ex.kp e_222) (by decide))) (Ex.kp e_227) (by decide))) (Ex.kp e_230) (by decide))) (Ex.kp e_235) (by decide))) (Ex.kp e_239) (by decide))) (Ex.kp e_243) (by decide))) (Ex.kp e_245) (by decide))) (Ex.kp e_250) (by decide))) k_252 (by simp only [List.mem_cons, List.not_mem_nil, or_false, not_or]; exact ⟨(by decide), (Ne.symm (hi_ne b_q (by decide))), (Ne.symm (hi_ne b_d (by decide)))⟩))
        have h_271 := (k_252 77 (by simp only [List.mem_cons, List.not_mem_nil, or_false, not_or]; exact ⟨(by decide), (Ne.symm (hi_ne b_q (by decide))), (Ne.symm (hi_ne b_d (by decide)))⟩)).trans (h_251)
        have h_272 := (k_252 78 (by simp only [List.mem_cons, List.not_mem_nil, or_false, not_or]; exact ⟨(by decide), (Ne.symm (hi_ne b_q (by decide))), (Ne.symm (hi_ne b_d (by decide)))⟩)).trans (h_254)
        refine T_vret d_Cu_code_380 rfl (by decide) (by decide) ⟨rfl, hcu0.back ⟨h_271, h_272, (List.forall_mem_cons.mpr ⟨w_252, (List.forall_mem_cons.mpr ⟨p_270, (List.forall_mem_cons.mpr ⟨p_269, (List.forall_mem_cons.mpr ⟨p_268, (List.forall_mem_cons.mpr ⟨p_267, (List.forall_mem_cons.mpr ⟨p_266, (List.forall_mem_cons.mpr ⟨p_265, (List.forall_mem_cons.mpr ⟨(Rv.rq p_264), (List.forall_mem_cons.mpr ⟨(Rv.rq p_263), (List.forall_mem_cons.mpr ⟨(Rv.rq p_262), (List.forall_mem_cons.mpr ⟨(Rv.rq p_261), (List.forall_mem_cons.mpr ⟨(Rv.rq p_260), (List.forall_mem_cons.mpr ⟨(Rv.rq p_259), (List.forall_mem_cons.mpr ⟨p_258, (List.forall_mem_cons.mpr ⟨(Rv.rq p_257), (List.forall_mem_cons.mpr ⟨(Rv.rq p_256), (fun _ h => absurd h (List.not_mem_nil))⟩)⟩)⟩)⟩)⟩)⟩)⟩)⟩)⟩)⟩)⟩)⟩)⟩)⟩)⟩)⟩)⟩ K ?_, sv, K.mono ?_⟩
        · intro z hz; rcases List.mem_append.mp (show z ∈ cuR ++ [q, d] from hz) with h | h
          · exact Or.inl h
          · simp only [List.mem_cons, List.not_mem_nil, or_false] at h; omega
        · intro z hz; rcases List.mem_append.mp (show z ∈ cuR ++ [q, d] from hz) with h | h
          · exact List.mem_cons_of_mem _ (List.mem_cons_of_mem _ ((by decide +kernel : ∀ z ∈ cuR, z ∈ cuW) z h))
          · simp only [List.mem_cons, List.not_mem_nil, or_false] at h; rcases h with rfl | rfl <;> simp
      · rw [if_neg hb_245]
        refine T_eq (pc' := 354) (L' := [(0, .ref 77), (1, .ref p), (2, .ref q)]) (st' := [.int (nI 0)]) (M' := M_245) rfl rfl rfl rfl ?_
        refine N_if_eq_t (b := 0) d_Cu_code_354 (tgt := 368) rfl (by omega) (by omega) ?_
        refine T_aload_n (v := .ref 77) d_Cu_code_368 rfl (Or.inr ⟨_, rfl⟩) ?_
        have h_273 := (e_245 77 (by decide)).trans (h_244)
        refine T_getfield (v := .ref 78) d_Cu_code_369 fg_Cu_10 h_273 rfl ?_
        refine T_aload_n (v := .ref 77) d_Cu_code_372 rfl (Or.inr ⟨_, rfl⟩) ?_
        refine T_getfield (v := .ref 96) d_Cu_code_373 fg_Cu_43 h_273 rfl ?_
        refine T_aload_n (v := .ref q) d_Cu_code_376 rfl (Or.inr ⟨_, rfl⟩) ?_
        have p_274 := (RV.kp (v_243) (Ex.kp e_245) (by decide))
        have p_276 := (BY.kp ((BY.kp ((BY.kp ((BY.kp ((BY.kp ((BY.kp ((BY.kp ((BY.kp ((BY.kp ((BY.kp ((BY.kp ((BY.kp ((BY.kp ((BY.kp ((BY.kp ((BY.kp ((BY.kp ((BY.kp ((BY.kp ((BY.kp ((BY.kp ((BY.kp (hq) (Ex.kp e_1) (hi_nin b_q (by decide)) (hi_nin b_d (by decide)))) (Ex.kp e_6) (hi_nin b_q (by decide)) (hi_nin b_d (by decide)))) (Ex.kp e_10) (hi_nin b_q (by decide)) (hi_nin b_d (by decide)))) (Ex.kp e_15) (hi_nin b_q (by decide)) (hi_nin b_d (by decide)))) (Ex.kp e_18) (hi_nin b_q (by decide)) (hi_nin b_d (by decide)))) (Ex.kp e_22) (hi_nin b_q (by decide)) (hi_nin b_d (by decide)))) k_24 (hi_nin b_q (by decide)) (hi_nin b_d (by decide)))) (Ex.kp e_38) (hi_nin b_q (by decide)) (hi_nin b_d (by decide)))) (Ex.kp e_42) (hi_nin b_q (by decide)) (hi_nin b_d (by decide)))) (Ex.kp e_45) (hi_nin b_q (by decide)) (hi_nin b_d (by decide)))) (Ex.kp e_50) (hi_nin b_q (by decide)) (hi_nin b_d (by decide)))) (Ex.kp e_54) (hi_nin b_q (by decide)) (hi_nin b_d (by decide)))) (Ex.kp e_57) (hi_nin b_q (by decide)) (hi_nin b_d (by decide)))) (Ex.kp e_213) (hi_nin b_q (by decide)) (hi_nin b_d (by decide)))) (Ex.kp e_218) (hi_nin b_q (by decide)) (hi_nin b_d (by decide)))) (Ex.kp e_222) (hi_nin b_q (by decide)) (hi_nin b_d (by decide)))) (Ex.kp e_227) (hi_nin b_q (by decide)) (hi_nin b_d (by decide)))) (Ex.kp e_230) (hi_nin b_q (by decide)) (hi_nin b_d (by decide)))) (Ex.kp e_235) (hi_nin b_q (by decide)) (hi_nin b_d (by decide)))) (Ex.kp e_239) (hi_nin b_q (by decide)) (hi_nin b_d (by decide)))) (Ex.kp e_243) (hi_nin b_q (by decide)) (hi_nin b_d (by decide)))) (Ex.kp e_245) (hi_nin b_q (by decide)) (hi_nin b_d (by decide)))
        have h_277 := (e_245 78 (by decide)).trans (h_246)
        refine T_virtual (as := [.ref 96, .ref q]) (rest := []) (b := 78) d_Cu_code_377 rfl (jw_Fi_save.jo (by decide)) lm_Cu_142 ji_Fi_save js_Fi_save h_277 rfl rfl rfl (Nat.le_of_ble_eq_true rfl) (by decide) (by decide) (y_Fi_save h_277 w_245 p_274 (by decide) p_276 k_d hne hroom hroom2 (hi_ne b_q (by decide)) (hi_ne b_q (by decide)) (hi_ne b_d (by decide)) (hi_ne b_d (by decide))) (fun r M_275 hq => ?_)
        obtain ⟨rfl, sv, w_275, k_275⟩ := hq
        refine T_eq (pc' := 380) (L' := [(0, .ref 77), (1, .ref p), (2, .ref q)]) (st' := []) (M' := M_275) rfl rfl rfl rfl ?_
        have a20 : ph x_10 = cAq (ph Y) (ph Z) := by rw [hx_10, ph_mul, hx_1, ph_add, hx_7, ph_sub]; rfl
        have a21 : ph x_16 = ph X * ph Y := by rw [hx_16, ph_mul]
        have aR : ph x_24 = cR (ph X) (ph Y) (ph Z) := by rw [hx_24, ph_rt, ph_3, hx_22, ph_mul, hx_19, ph_mul, a20, a21]; rfl
        have aS : ph x_50 = cS (ph X) (ph Y) (ph Z) (ph T) := by rw [hx_50, ph_mul, hx_46, ph_mul, hx_42, ph_mul, hx_38, ph_mul, aR, a20, a21]; rfl
        have t1 : ph x_55 = ph x_50 * ph T := by rw [hx_55, ph_mul]
        have hg : ph x_42 = ph X * ph Y * cR (ph X) (ph Y) (ph Z) := by rw [hx_42, ph_mul, a21, aR]
        have t2 : ph x_228 = ph X * ph x_50 := by rw [hx_228, ph_mul]
        have hf2 : ph x_235 = -ph Y := by rw [hx_235, ph_neg]
        have t3 : ph x_243 = (ph Z - ph x_235) * ph x_42 := by rw [hx_243, ph_mul, hx_240, ph_sub]
        have fin := cF_of (X := ph X) (Y := ph Y) (Z := ph Z) (T := ph T) aS (Or.inr ⟨fun z => hb_57 ((od_of t1).mp z), rfl, rfl, hg⟩) (Or.inl ⟨(od_of t2).mpr hb_230, hf2⟩) t3 (Or.inr ⟨fun z => hb_245 (od_ph.mp z), rfl⟩)
        rw [fin, cF_pj jp] at sv
        have K : Kp [79, 80, 81, 82, 83, 84, 85, 94, 95, 96, 97, 98, 99, 100, 101, 102, q, d] M M_275 := (Kp.tr (Kp.ex (Kp.ex (Kp.ex (Kp.ex (Kp.ex (Kp.ex (Kp.ex (Kp.ex (Kp.ex (Kp.ex (Kp.ex (Kp.ex (Kp.ex (Kp.ex (Kp.ex (Kp.tr (Kp.ex (Kp.ex (Kp.ex (Kp.ex (Kp.ex (Kp.ex (Kp.rf : Kp [79, 80, 81, 82, 83, 84, 85, 94, 95, 96, 97, 98, 99, 100, 101, 102, q, d] M M) e_1 (by simp)) e_6 (by simp)) e_10 (by simp)) e_15 (by simp)) e_18 (by simp)) e_22 (by simp)) (Kp.mono k_24 (by simp))) e_38 (by simp)) e_42 (by simp)) e_45 (by simp)) e_50 (by simp)) e_54 (by simp)) e_57 (by simp)) e_213 (by simp)) e_218 (by simp)) e_222 (by simp)) e_227 (by simp)) e_230 (by simp)) e_235 (by simp)) e_239 (by simp)) e_243 (by simp)) e_245 (by simp)) (Kp.mono k_275 (by simp)))
        have p_278 := (RV.kp ((RV.kp ((RV.kp ((RV.kp ((RV.kp ((RV.kp ((RV.kp (p_226) (Ex.kp e_227) (by decide))) (Ex.kp e_230) (by decide))) (Ex.kp e_235) (by decide))) (Ex.kp e_239) (by decide))) (Ex.kp e_243) (by decide))) (Ex.kp e_245) (by decide))) k_275 (by simp only [List.mem_cons, List.not_mem_nil, or_false, not_or]; exact ⟨(by decide), (Ne.symm (hi_ne b_q (by decide))), (Ne.symm (hi_ne b_d (by decide)))⟩))
        have p_279 := (RV.kp ((RV.kp ((RV.kp ((RV.kp ((RV.kp ((RV.kp ((RV.kp ((RV.kp ((RV.kp ((RV.kp ((RV.kp ((RV.kp ((RV.kp ((RV.kp ((RV.kp (p_41) (Ex.kp e_42) (by decide))) (Ex.kp e_45) (by decide))) (Ex.kp e_50) (by decide))) (Ex.kp e_54) (by decide))) (Ex.kp e_57) (by decide))) (Ex.kp e_213) (by decide))) (Ex.kp e_218) (by decide))) (Ex.kp e_222) (by decide))) (Ex.kp e_227) (by decide))) (Ex.kp e_230) (by decide))) (Ex.kp e_235) (by decide))) (Ex.kp e_239) (by decide))) (Ex.kp e_243) (by decide))) (Ex.kp e_245) (by decide))) k_275 (by simp only [List.mem_cons, List.not_mem_nil, or_false, not_or]; exact ⟨(by decide), (Ne.symm (hi_ne b_q (by decide))), (Ne.symm (hi_ne b_d (by decide)))⟩))
        have p_280 := (RQ.kp ((RQ.kp ((RQ.kp ((RQ.kp ((RQ.kp ((RQ.kp ((RQ.kp ((RQ.kp ((RQ.kp ((RQ.kp ((RQ.kp ((RQ.kp ((RQ.kp ((RQ.kp ((RQ.kp ((RQ.kp ((RQ.kp ((RQ.kp ((RQ.kp ((RQ.kp ((RQ.kp ((RQ.kp ((RQ.kp ((hcs.2.2 100 (by decide))) (Ex.kp e_1) (by decide))) (Ex.kp e_6) (by decide))) (Ex.kp e_10) (by decide))) (Ex.kp e_15) (by decide))) (Ex.kp e_18) (by decide))) (Ex.kp e_22) (by decide))) k_24 (by decide))) (Ex.kp e_38) (by decide))) (Ex.kp e_42) (by decide))) (Ex.kp e_45) (by decide))) (Ex.kp e_50) (by decide))) (Ex.kp e_54) (by decide))) (Ex.kp e_57) (by decide))) (Ex.kp e_213) (by decide))) (Ex.kp e_218) (by decide))) (Ex.kp e_222) (by decide))) (Ex.kp e_227) (by decide))) (Ex.kp e_230) (by decide))) (Ex.kp e_235) (by decide))) (Ex.kp e_239) (by decide))) (Ex.kp e_243) (by decide))) (Ex.kp e_245) (by decide))) k_275 (by simp only [List.mem_cons, List.not_mem_nil, or_false, not_or]; exact ⟨(by decide), (Ne.symm (hi_ne b_q (by decide))), (Ne.symm (hi_ne b_d (by decide)))⟩))
        have p_281 := (RV.kp ((RV.kp ((RV.kp (p_242) (Ex.kp e_243) (by decide))) (Ex.kp e_245) (by decide))) k_275 (by simp only [List.mem_cons, List.not_mem_nil, or_false, not_or]; exact ⟨(by decide), (Ne.symm (hi_ne b_q (by decide))), (Ne.symm (hi_ne b_d (by decide)))⟩))
        have p_282 := (RV.kp ((RV.kp ((RV.kp ((RV.kp (v_235) (Ex.kp e_239) (by decide))) (Ex.kp e_243) (by decide))) (Ex.kp e_245) (by decide))) k_275 (by simp only [List.mem_cons, List.not_mem_nil, or_false, not_or]; exact ⟨(by decide), (Ne.symm (hi_ne b_q (by decide))), (Ne.symm (hi_ne b_d (by decide)))⟩))
        have p_283 := (RV.kp ((RV.kp ((RV.kp ((RV.kp ((RV.kp ((RV.kp ((RV.kp (p_225) (Ex.kp e_227) (by decide))) (Ex.kp e_230) (by decide))) (Ex.kp e_235) (by decide))) (Ex.kp e_239) (by decide))) (Ex.kp e_243) (by decide))) (Ex.kp e_245) (by decide))) k_275 (by simp only [List.mem_cons, List.not_mem_nil, or_false, not_or]; exact ⟨(by decide), (Ne.symm (hi_ne b_q (by decide))), (Ne.symm (hi_ne b_d (by decide)))⟩))
        have p_284 := (RV.kp (p_274) k_275 (by simp only [List.mem_cons, List.not_mem_nil, or_false, not_or]; exact ⟨(by decide), (Ne.symm (hi_ne b_q (by decide))), (Ne.symm (hi_ne b_d (by decide)))⟩))
        have p_285 := (RV.kp ((RV.kp ((RV.kp ((RV.kp ((RV.kp ((RV.kp ((RV.kp ((RV.kp (p_221) (Ex.kp e_222) (by decide))) (Ex.kp e_227) (by decide))) (Ex.kp e_230) (by decide))) (Ex.kp e_235) (by decide))) (Ex.kp e_239) (by decide))) (Ex.kp e_243) (by decide))) (Ex.kp e_245) (by decide))) k_275 (by simp only [List.mem_cons, List.not_mem_nil, or_false, not_or]; exact ⟨(by decide), (Ne.symm (hi_ne b_q (by decide))), (Ne.symm (hi_ne b_d (by decide)))⟩))
        have p_286 := (RV.kp ((RV.kp ((RV.kp ((RV.kp ((RV.kp ((RV.kp ((RV.kp ((RV.kp ((RV.kp ((RV.kp ((RV.kp ((RV.kp ((RV.kp ((RV.kp (p_44) (Ex.kp e_45) (by decide))) (Ex.kp e_50) (by decide))) (Ex.kp e_54) (by decide))) (Ex.kp e_57) (by decide))) (Ex.kp e_213) (by decide))) (Ex.kp e_218) (by decide))) (Ex.kp e_222) (by decide))) (Ex.kp e_227) (by decide))) (Ex.kp e_230) (by decide))) (Ex.kp e_235) (by decide))) (Ex.kp e_239) (by decide))) (Ex.kp e_243) (by decide))) (Ex.kp e_245) (by decide))) k_275 (by simp only [List.mem_cons, List.not_mem_nil, or_false, not_or]; exact ⟨(by decide), (Ne.symm (hi_ne b_q (by decide))), (Ne.symm (hi_ne b_d (by decide)))⟩))
        have p_287 := (RQ.kp ((RQ.kp ((RQ.kp ((RQ.kp ((RQ.kp ((RQ.kp ((RQ.kp ((RQ.kp ((RQ.kp ((RQ.kp ((RQ.kp ((RQ.kp ((RQ.kp ((RQ.kp ((RQ.kp ((RQ.kp (q85_24) (Ex.kp e_38) (by decide))) (Ex.kp e_42) (by decide))) (Ex.kp e_45) (by decide))) (Ex.kp e_50) (by decide))) (Ex.kp e_54) (by decide))) (Ex.kp e_57) (by decide))) (Ex.kp e_213) (by decide))) (Ex.kp e_218) (by decide))) (Ex.kp e_222) (by decide))) (Ex.kp e_227) (by decide))) (Ex.kp e_230) (by decide))) (Ex.kp e_235) (by decide))) (Ex.kp e_239) (by decide))) (Ex.kp e_243) (by decide))) (Ex.kp e_245) (by decide))) k_275 (by simp only [List.mem_cons, List.not_mem_nil, or_false, not_or]; exact ⟨(by decide), (Ne.symm (hi_ne b_q (by decide))), (Ne.symm (hi_ne b_d (by decide)))⟩))
        have p_288 := (RQ.kp ((RQ.kp ((RQ.kp ((RQ.kp ((RQ.kp ((RQ.kp ((RQ.kp ((RQ.kp ((RQ.kp ((RQ.kp ((RQ.kp ((RQ.kp ((RQ.kp ((RQ.kp ((RQ.kp ((RQ.kp (q84_24) (Ex.kp e_38) (by decide))) (Ex.kp e_42) (by decide))) (Ex.kp e_45) (by decide))) (Ex.kp e_50) (by decide))) (Ex.kp e_54) (by decide))) (Ex.kp e_57) (by decide))) (Ex.kp e_213) (by decide))) (Ex.kp e_218) (by decide))) (Ex.kp e_222) (by decide))) (Ex.kp e_227) (by decide))) (Ex.kp e_230) (by decide))) (Ex.kp e_235) (by decide))) (Ex.kp e_239) (by decide))) (Ex.kp e_243) (by decide))) (Ex.kp e_245) (by decide))) k_275 (by simp only [List.mem_cons, List.not_mem_nil, or_false, not_or]; exact ⟨(by decide), (Ne.symm (hi_ne b_q (by decide))), (Ne.symm (hi_ne b_d (by decide)))⟩))
        have p_289 := (RQ.kp ((RQ.kp ((RQ.kp ((RQ.kp ((RQ.kp ((RQ.kp ((RQ.kp ((RQ.kp ((RQ.kp ((RQ.kp ((RQ.kp ((RQ.kp ((RQ.kp ((RQ.kp ((RQ.kp ((RQ.kp (q83_24) (Ex.kp e_38) (by decide))) (Ex.kp e_42) (by decide))) (Ex.kp e_45) (by decide))) (Ex.kp e_50) (by decide))) (Ex.kp e_54) (by decide))) (Ex.kp e_57) (by decide))) (Ex.kp e_213) (by decide))) (Ex.kp e_218) (by decide))) (Ex.kp e_222) (by decide))) (Ex.kp e_227) (by decide))) (Ex.kp e_230) (by decide))) (Ex.kp e_235) (by decide))) (Ex.kp e_239) (by decide))) (Ex.kp e_243) (by decide))) (Ex.kp e_245) (by decide))) k_275 (by simp only [List.mem_cons, List.not_mem_nil, or_false, not_or]; exact ⟨(by decide), (Ne.symm (hi_ne b_q (by decide))), (Ne.symm (hi_ne b_d (by decide)))⟩))
        have p_290 := (RQ.kp ((RQ.kp ((RQ.kp ((RQ.kp ((RQ.kp ((RQ.kp ((RQ.kp ((RQ.kp ((RQ.kp ((RQ.kp ((RQ.kp ((RQ.kp ((RQ.kp ((RQ.kp ((RQ.kp ((RQ.kp (q82_24) (Ex.kp e_38) (by decide))) (Ex.kp e_42) (by decide))) (Ex.kp e_45) (by decide))) (Ex.kp e_50) (by decide))) (Ex.kp e_54) (by decide))) (Ex.kp e_57) (by decide))) (Ex.kp e_213) (by decide))) (Ex.kp e_218) (by decide))) (Ex.kp e_222) (by decide))) (Ex.kp e_227) (by decide))) (Ex.kp e_230) (by decide))) (Ex.kp e_235) (by decide))) (Ex.kp e_239) (by decide))) (Ex.kp e_243) (by decide))) (Ex.kp e_245) (by decide))) k_275 (by simp only [List.mem_cons, List.not_mem_nil, or_false, not_or]; exact ⟨(by decide), (Ne.symm (hi_ne b_q (by decide))), (Ne.symm (hi_ne b_d (by decide)))⟩))
        have p_291 := (RQ.kp ((RQ.kp ((RQ.kp ((RQ.kp ((RQ.kp ((RQ.kp ((RQ.kp ((RQ.kp ((RQ.kp ((RQ.kp ((RQ.kp ((RQ.kp ((RQ.kp ((RQ.kp ((RQ.kp ((RQ.kp (q81_24) (Ex.kp e_38) (by decide))) (Ex.kp e_42) (by decide))) (Ex.kp e_45) (by decide))) (Ex.kp e_50) (by decide))) (Ex.kp e_54) (by decide))) (Ex.kp e_57) (by decide))) (Ex.kp e_213) (by decide))) (Ex.kp e_218) (by decide))) (Ex.kp e_222) (by decide))) (Ex.kp e_227) (by decide))) (Ex.kp e_230) (by decide))) (Ex.kp e_235) (by decide))) (Ex.kp e_239) (by decide))) (Ex.kp e_243) (by decide))) (Ex.kp e_245) (by decide))) k_275 (by simp only [List.mem_cons, List.not_mem_nil, or_false, not_or]; exact ⟨(by decide), (Ne.symm (hi_ne b_q (by decide))), (Ne.symm (hi_ne b_d (by decide)))⟩))
        have p_292 := (RQ.kp ((RQ.kp ((RQ.kp ((RQ.kp ((RQ.kp ((RQ.kp ((RQ.kp ((RQ.kp ((RQ.kp ((RQ.kp ((RQ.kp ((RQ.kp ((RQ.kp ((RQ.kp ((RQ.kp ((RQ.kp (q80_24) (Ex.kp e_38) (by decide))) (Ex.kp e_42) (by decide))) (Ex.kp e_45) (by decide))) (Ex.kp e_50) (by decide))) (Ex.kp e_54) (by decide))) (Ex.kp e_57) (by decide))) (Ex.kp e_213) (by decide))) (Ex.kp e_218) (by decide))) (Ex.kp e_222) (by decide))) (Ex.kp e_227) (by decide))) (Ex.kp e_230) (by decide))) (Ex.kp e_235) (by decide))) (Ex.kp e_239) (by decide))) (Ex.kp e_243) (by decide))) (Ex.kp e_245) (by decide))) k_275 (by simp only [List.mem_cons, List.not_mem_nil, or_false, not_or]; exact ⟨(by decide), (Ne.symm (hi_ne b_q (by decide))), (Ne.symm (hi_ne b_d (by decide)))⟩))
        have h_293 := (k_275 77 (by simp only [List.mem_cons, List.not_mem_nil, or_false, not_or]; exact ⟨(by decide), (Ne.symm (hi_ne b_q (by decide))), (Ne.symm (hi_ne b_d (by decide)))⟩)).trans (h_273)
        have h_294 := (k_275 78 (by simp only [List.mem_cons, List.not_mem_nil, or_false, not_or]; exact ⟨(by decide), (Ne.symm (hi_ne b_q (by decide))), (Ne.symm (hi_ne b_d (by decide)))⟩)).trans (h_277)
        refine T_vret d_Cu_code_380 rfl (by decide) (by decide) ⟨rfl, hcu0.back ⟨h_293, h_294, (List.forall_mem_cons.mpr ⟨w_275, (List.forall_mem_cons.mpr ⟨p_292, (List.forall_mem_cons.mpr ⟨p_291, (List.forall_mem_cons.mpr ⟨p_290, (List.forall_mem_cons.mpr ⟨p_289, (List.forall_mem_cons.mpr ⟨p_288, (List.forall_mem_cons.mpr ⟨p_287, (List.forall_mem_cons.mpr ⟨(Rv.rq p_286), (List.forall_mem_cons.mpr ⟨(Rv.rq p_285), (List.forall_mem_cons.mpr ⟨(Rv.rq p_284), (List.forall_mem_cons.mpr ⟨(Rv.rq p_283), (List.forall_mem_cons.mpr ⟨(Rv.rq p_282), (List.forall_mem_cons.mpr ⟨(Rv.rq p_281), (List.forall_mem_cons.mpr ⟨p_280, (List.forall_mem_cons.mpr ⟨(Rv.rq p_279), (List.forall_mem_cons.mpr ⟨(Rv.rq p_278), (fun _ h => absurd h (List.not_mem_nil))⟩)⟩)⟩)⟩)⟩)⟩)⟩)⟩)⟩)⟩)⟩)⟩)⟩)⟩)⟩)⟩)⟩ K ?_, sv, K.mono ?_⟩
        · intro z hz; rcases List.mem_append.mp (show z ∈ cuR ++ [q, d] from hz) with h | h
          · exact Or.inl h
          · simp only [List.mem_cons, List.not_mem_nil, or_false] at h; omega
        · intro z hz; rcases List.mem_append.mp (show z ∈ cuR ++ [q, d] from hz) with h | h
          · exact List.mem_cons_of_mem _ (List.mem_cons_of_mem _ ((by decide +kernel : ∀ z ∈ cuR, z ∈ cuW) z h))
          · simp only [List.mem_cons, List.not_mem_nil, or_false] at h; rcases h with rfl | rfl <;> simp
    · rw [if_neg hb_230]
      refine T_eq (pc' := 299) (L' := [(0, .ref 77), (1, .ref p), (2, .ref q)]) (st' := [.int (nI 0)]) (M' := M_230) rfl rfl rfl rfl ?_
      refine N_if_eq_t (b := 0) d_Cu_code_299 (tgt := 313) rfl (by omega) (by omega) ?_
      refine T_aload_n (v := .ref 77) d_Cu_code_313 rfl (Or.inr ⟨_, rfl⟩) ?_
      have h_295 := (e_230 77 (by decide)).trans (h_229)
      refine T_getfield (v := .ref 96) d_Cu_code_314 fg_Cu_43 h_295 rfl ?_
      refine T_aload_n (v := .ref p) d_Cu_code_317 rfl (Or.inr ⟨_, rfl⟩) ?_
      have h_296 := (e_230 p (hi_ne b_p (by decide))).trans ((e_227 p (hi_ne b_p (by decide))).trans ((e_222 p (hi_ne b_p (by decide))).trans ((e_218 p (hi_ne b_p (by decide))).trans (h_216))))
      refine T_getfield (v := .ref pz) d_Cu_code_318 fg_Cu_86 h_296 rfl ?_
      refine T_aload_n (v := .ref 77) d_Cu_code_321 rfl (Or.inr ⟨_, rfl⟩) ?_
      refine T_getfield (v := .ref 98) d_Cu_code_322 fg_Cu_49 h_295 rfl ?_
      have p_297 := (RV.kp ((RV.kp ((RV.kp ((RV.kp ((RV.kp ((RV.kp ((RV.kp ((RV.kp ((RV.kp ((RV.kp ((RV.kp ((RV.kp ((RV.kp ((RV.kp ((RV.kp ((RV.kp ((RV.kp (p_4) (Ex.kp e_6) (hi_nin b_pz (by decide)))) (Ex.kp e_10) (hi_nin b_pz (by decide)))) (Ex.kp e_15) (hi_nin b_pz (by decide)))) (Ex.kp e_18) (hi_nin b_pz (by decide)))) (Ex.kp e_22) (hi_nin b_pz (by decide)))) k_24 (hi_nin b_pz (by decide)))) (Ex.kp e_38) (hi_nin b_pz (by decide)))) (Ex.kp e_42) (hi_nin b_pz (by decide)))) (Ex.kp e_45) (hi_nin b_pz (by decide)))) (Ex.kp e_50) (hi_nin b_pz (by decide)))) (Ex.kp e_54) (hi_nin b_pz (by decide)))) (Ex.kp e_57) (hi_nin b_pz (by decide)))) (Ex.kp e_213) (hi_nin b_pz (by decide)))) (Ex.kp e_218) (hi_nin b_pz (by decide)))) (Ex.kp e_222) (hi_nin b_pz (by decide)))) (Ex.kp e_227) (hi_nin b_pz (by decide)))) (Ex.kp e_230) (hi_nin b_pz (by decide)))
      have p_298 := (RV.kp ((RV.kp ((RV.kp (v_218) (Ex.kp e_222) (by decide))) (Ex.kp e_227) (by decide))) (Ex.kp e_230) (by decide))
      have p_300 := (RV.kp (v_227) (Ex.kp e_230) (by decide))
      refine T_vsub d_Cu_code_325 (jw_Fi_subtract.jo (by decide)) lm_Cu_70 (Nat.le_of_ble_eq_true rfl) (by decide) (by decide) (by decide) (Rv.rq p_300) p_297 p_298 (by decide) (fun M_299 v_299 e_299 => ?_)
      obtain ⟨x_300, hx_300⟩ : ∃ z : Int, z = (Z - Y) := ⟨_, rfl⟩
      rw [← hx_300] at v_299
      refine T_aload_n (v := .ref 77) d_Cu_code_328 rfl (Or.inr ⟨_, rfl⟩) ?_
      have h_301 := (e_299 77 (by decide)).trans (h_295)
      refine T_getfield (v := .ref 96) d_Cu_code_329 fg_Cu_43 h_301 rfl ?_
      refine T_aload_n (v := .ref 77) d_Cu_code_332 rfl (Or.inr ⟨_, rfl⟩) ?_
      refine T_getfield (v := .ref 96) d_Cu_code_333 fg_Cu_43 h_301 rfl ?_
      refine T_aload_n (v := .ref 77) d_Cu_code_336 rfl (Or.inr ⟨_, rfl⟩) ?_
      refine T_getfield (v := .ref 99) d_Cu_code_337 fg_Cu_52 h_301 rfl ?_
      have p_302 := (RV.kp ((RV.kp ((RV.kp (v_222) (Ex.kp e_227) (by decide))) (Ex.kp e_230) (by decide))) (Ex.kp e_299) (by decide))
      refine T_vmul d_Cu_code_340 (jw_Fi_multiply.jo (by decide)) lm_Cu_74 (Nat.le_of_ble_eq_true rfl) (by decide) (by decide) (by decide) (Rv.rq v_299) v_299 p_302 (by decide) (fun M_303 v_303 e_303 => ?_)
      obtain ⟨x_303, hx_303⟩ : ∃ z : Int, z = (x_300 * x_42) := ⟨_, rfl⟩
      rw [← hx_303] at v_303
      refine T_aload_n (v := .ref 77) d_Cu_code_343 rfl (Or.inr ⟨_, rfl⟩) ?_
      have h_304 := (e_303 77 (by decide)).trans (h_301)
      refine T_getfield (v := .ref 78) d_Cu_code_344 fg_Cu_10 h_304 rfl ?_
      refine T_aload_n (v := .ref 77) d_Cu_code_347 rfl (Or.inr ⟨_, rfl⟩) ?_
      refine T_getfield (v := .ref 96) d_Cu_code_348 fg_Cu_43 h_304 rfl ?_
      have h_306 := (e_303 78 (by decide)).trans ((e_299 78 (by decide)).trans ((e_230 78 (by decide)).trans (h_231)))
      have p_307 := (RQ.kp ((RQ.kp (w_230) (Ex.kp e_299) (by decide))) (Ex.kp e_303) (by decide))
      refine T_visodd d_Cu_code_351 (jw_Fi_isOdd.jo (by decide)) lm_Cu_127 (Nat.le_of_ble_eq_true rfl) (by decide) (by decide) h_306 p_307 v_303 (by decide) (fun M_305 w_305 e_305 => ?_)
      by_cases hb_305 : (x_303 % pP) % 2 = 1
      · rw [if_pos hb_305]
        refine T_eq (pc' := 354) (L' := [(0, .ref 77), (1, .ref p), (2, .ref q)]) (st' := [.int (nI 1)]) (M' := M_305) rfl rfl rfl rfl ?_
        refine N_if_eq_f (b := 1) d_Cu_code_354 (tgt := 368) rfl (by omega) (by omega) ?_
        refine T_aload_n (v := .ref 77) d_Cu_code_357 rfl (Or.inr ⟨_, rfl⟩) ?_
        have h_308 := (e_305 77 (by decide)).trans (h_304)
        refine T_getfield (v := .ref 96) d_Cu_code_358 fg_Cu_43 h_308 rfl ?_
        refine T_aload_n (v := .ref 77) d_Cu_code_361 rfl (Or.inr ⟨_, rfl⟩) ?_
        refine T_getfield (v := .ref 96) d_Cu_code_362 fg_Cu_43 h_308 rfl ?_
        have p_309 := (RV.kp (v_303) (Ex.kp e_305) (by decide))
        refine T_vneg d_Cu_code_365 (jw_Fi_negate.jo (by decide)) lm_Cu_139 (Nat.le_of_ble_eq_true rfl) (by decide) (by decide) (by decide) (Rv.rq p_309) p_309 (by decide) (fun M_310 v_310 e_310 => ?_)
        obtain ⟨x_310, hx_310⟩ : ∃ z : Int, z = (-x_303) := ⟨_, rfl⟩
        rw [← hx_310] at v_310
        refine T_aload_n (v := .ref 77) d_Cu_code_368 rfl (Or.inr ⟨_, rfl⟩) ?_
        have h_311 := (e_310 77 (by decide)).trans (h_308)
        refine T_getfield (v := .ref 78) d_Cu_code_369 fg_Cu_10 h_311 rfl ?_
        refine T_aload_n (v := .ref 77) d_Cu_code_372 rfl (Or.inr ⟨_, rfl⟩) ?_
        refine T_getfield (v := .ref 96) d_Cu_code_373 fg_Cu_43 h_311 rfl ?_
        refine T_aload_n (v := .ref q) d_Cu_code_376 rfl (Or.inr ⟨_, rfl⟩) ?_
        have p_313 := (BY.kp ((BY.kp ((BY.kp ((BY.kp ((BY.kp ((BY.kp ((BY.kp ((BY.kp ((BY.kp ((BY.kp ((BY.kp ((BY.kp ((BY.kp ((BY.kp ((BY.kp ((BY.kp ((BY.kp ((BY.kp ((BY.kp ((BY.kp ((BY.kp ((BY.kp (hq) (Ex.kp e_1) (hi_nin b_q (by decide)) (hi_nin b_d (by decide)))) (Ex.kp e_6) (hi_nin b_q (by decide)) (hi_nin b_d (by decide)))) (Ex.kp e_10) (hi_nin b_q (by decide)) (hi_nin b_d (by decide)))) (Ex.kp e_15) (hi_nin b_q (by decide)) (hi_nin b_d (by decide)))) (Ex.kp e_18) (hi_nin b_q (by decide)) (hi_nin b_d (by decide)))) (Ex.kp e_22) (hi_nin b_q (by decide)) (hi_nin b_d (by decide)))) k_24 (hi_nin b_q (by decide)) (hi_nin b_d (by decide)))) (Ex.kp e_38) (hi_nin b_q (by decide)) (hi_nin b_d (by decide)))) (Ex.kp e_42) (hi_nin b_q (by decide)) (hi_nin b_d (by decide)))) (Ex.kp e_45) (hi_nin b_q (by decide)) (hi_nin b_d (by decide)))) (Ex.kp e_50) (hi_nin b_q (by decide)) (hi_nin b_d (by decide)))) (Ex.kp e_54) (hi_nin b_q (by decide)) (hi_nin b_d (by decide)))) (Ex.kp e_57) (hi_nin b_q (by decide)) (hi_nin b_d (by decide)))) (Ex.kp e_213) (hi_nin b_q (by decide)) (hi_nin b_d (by decide)))) (Ex.kp e_218) (hi_nin b_q (by decide)) (hi_nin b_d (by decide)))) (Ex.kp e_222) (hi_nin b_q (by decide)) (hi_nin b_d (by decide)))) (Ex.kp e_227) (hi_nin b_q (by decide)) (hi_nin b_d (by decide)))) (Ex.kp e_230) (hi_nin b_q (by decide)) (hi_nin b_d (by decide)))) (Ex.kp e_299) (hi_nin b_q (by decide)) (hi_nin b_d (by decide)))) (Ex.kp e_303) (hi_nin b_q (by decide)) (hi_nin b_d (by decide)))) (Ex.kp e_305) (hi_nin b_q (by decide)) (hi_nin b_d (by decide)))) (Ex.kp e_310) (hi_nin b_q (by decide)) (hi_nin b_d (by decide)))
        have h_314 := (e_310 78 (by decide)).trans ((e_305 78 (by decide)).trans (h_306))
        have p_315 := (RQ.kp (w_305) (Ex.kp e_310) (by decide))
        refine T_virtual (as := [.ref 96, .ref q]) (rest := []) (b := 78) d_Cu_code_377 rfl (jw_Fi_save.jo (by decide)) lm_Cu_142 ji_Fi_save js_Fi_save h_314 rfl rfl rfl (Nat.le_of_ble_eq_true rfl) (by decide) (by decide) (y_Fi_save h_314 p_315 v_310 (by decide) p_313 k_d hne hroom hroom2 (hi_ne b_q (by decide)) (hi_ne b_q (by decide)) (hi_ne b_d (by decide)) (hi_ne b_d (by decide))) (fun r M_312 hq => ?_)
        obtain ⟨rfl, sv, w_312, k_312⟩ := hq
        refine T_eq (pc' := 380) (L' := [(0, .ref 77), (1, .ref p), (2, .ref q)]) (st' := []) (M' := M_312) rfl rfl rfl rfl ?_
        have a20 : ph x_10 = cAq (ph Y) (ph Z) := by rw [hx_10, ph_mul, hx_1, ph_add, hx_7, ph_sub]; rfl
        have a21 : ph x_16 = ph X * ph Y := by rw [hx_16, ph_mul]
        have aR : ph x_24 = cR (ph X) (ph Y) (ph Z) := by rw [hx_24, ph_rt, ph_3, hx_22, ph_mul, hx_19, ph_mul, a20, a21]; rfl
        have aS : ph x_50 = cS (ph X) (ph Y) (ph Z) (ph T) := by rw [hx_50, ph_mul, hx_46, ph_mul, hx_42, ph_mul, hx_38, ph_mul, aR, a20, a21]; rfl
        have t1 : ph x_55 = ph x_50 * ph T := by rw [hx_55, ph_mul]
        have hg : ph x_42 = ph X * ph Y * cR (ph X) (ph Y) (ph Z) := by rw [hx_42, ph_mul, a21, aR]
        have t2 : ph x_228 = ph X * ph x_50 := by rw [hx_228, ph_mul]
        have t3 : ph x_303 = (ph Z - ph Y) * ph x_42 := by rw [hx_303, ph_mul, hx_300, ph_sub]
        have hc : ph x_310 = -ph x_303 := by rw [hx_310, ph_neg]
        have fin := cF_of (X := ph X) (Y := ph Y) (Z := ph Z) (T := ph T) aS (Or.inr ⟨fun z => hb_57 ((od_of t1).mp z), rfl, rfl, hg⟩) (Or.inr ⟨fun z => hb_230 ((od_of t2).mp z), rfl⟩) t3 (Or.inl ⟨od_ph.mpr hb_305, hc⟩)
        rw [fin, cF_pj jp] at sv
        have K : Kp [79, 80, 81, 82, 83, 84, 85, 94, 95, 96, 97, 98, 99, 100, 101, 102, q, d] M M_312 := (Kp.tr (Kp.ex (Kp.ex (Kp.ex (Kp.ex (Kp.ex (Kp.ex (Kp.ex (Kp.ex (Kp.ex (Kp.ex (Kp.ex (Kp.ex (Kp.ex (Kp.ex (Kp.ex (Kp.tr (Kp.ex (Kp.ex (Kp.ex (Kp.ex (Kp.ex (Kp.ex (Kp.rf : Kp [79, 80, 81, 82, 83, 84, 85, 94, 95, 96, 97, 98, 99, 100, 101, 102, q, d] M M) e_1 (by simp)) e_6 (by simp)) e_10 (by simp)) e_15 (by simp)) e_18 (by simp)) e_22 (by simp)) (Kp.mono k_24 (by simp))) e_38 (by simp)) e_42 (by simp)) e_45 (by simp)) e_50 (by simp)) e_54 (by simp)) e_57 (by simp)) e_213 (by simp)) e_218 (by simp)) e_222 (by simp)) e_227 (by simp)) e_230 (by simp)) e_299 (by simp)) e_303 (by simp)) e_305 (by simp)) e_310 (by simp)) (Kp.mono k_312 (by simp)))
        have p_316 := (RV.kp ((RV.kp ((RV.kp ((RV.kp ((RV.kp ((RV.kp ((RV.kp (p_226) (Ex.kp e_227) (by decide))) (Ex.kp e_230) (by decide))) (Ex.kp e_299) (by decide))) (Ex.kp e_303) (by decide))) (Ex.kp e_305) (by decide))) (Ex.kp e_310) (by decide))) k_312 (by simp only [List.mem_cons, List.not_mem_nil, or_false, not_or]; exact ⟨(by decide), (Ne.symm (hi_ne b_q (by decide))), (Ne.symm (hi_ne b_d (by decide)))⟩))
        have p_317 := (RV.kp ((RV.kp ((RV.kp ((RV.kp ((RV.kp ((RV.kp ((RV.kp ((RV.kp ((RV.kp ((RV.kp ((RV.kp ((RV.kp ((RV.kp ((RV.kp ((RV.kp (p_41) (Ex.kp e_42) (by decide))) (Ex.kp e_45) (by decide))) (Ex.kp e_50) (by decide))) (Ex.kp e_54) (by decide))) (Ex.kp e_57) (by decide))) (Ex.kp e_213) (by decide))) (Ex.kp e_218) (by decide))) (Ex.kp e_222) (by decide))) (Ex.kp e_227) (by decide))) (Ex.kp e_230) (by decide))) (Ex.kp e_299) (by decide))) (Ex.kp e_303) (by decide))) (Ex.kp e_305) (by decide))) (Ex.kp e_310) (by decide))) k_312 (by simp only [List.mem_cons, List.not_mem_nil, or_false, not_or]; exact ⟨(by decide), (Ne.symm (hi_ne b_q (by decide))), (Ne.symm (hi_ne b_d (by decide)))⟩))
        have p_318 := (RQ.kp ((RQ.kp ((RQ.kp ((RQ.kp ((RQ.kp ((RQ.kp ((RQ.kp ((RQ.kp ((RQ.kp ((RQ.kp ((RQ.kp ((RQ.kp ((RQ.kp ((RQ.kp ((RQ.kp ((RQ.kp ((RQ.kp ((RQ.kp ((RQ.kp ((RQ.kp ((RQ.kp ((RQ.kp ((RQ.kp ((hcs.2.2 100 (by decide))) (Ex.kp e_1) (by decide))) (Ex.kp e_6) (by decide))) (Ex.kp e_10) (by decide))) (Ex.kp e_15) (by decide))) (Ex.kp e_18) (by decide))) (Ex.kp e_22) (by decide))) k_24 (by decide))) (Ex.kp e_38) (by decide))) (Ex.kp e_42) (by decide))) (Ex.kp e_45) (by decide))) (Ex.kp e_50) (by decide))) (Ex.kp e_54) (by decide))) (Ex.kp e_57) (by decide))) (Ex.kp e_213) (by decide))) (Ex.kp e_218) (by decide))) (Ex.kp e_222) (by decide))) (Ex.kp e_227) (by decide))) (Ex.kp e_230) (by decide))) (Ex.kp e_299) (by decide))) (Ex.kp e_303) (by decide))) (Ex.kp e_305) (by decide))) (Ex.kp e_310) (by decide))) k_312 (by simp only [List.mem_cons, List.not_mem_nil, or_false, not_or]; exact ⟨(by decide), (Ne.symm (hi_ne b_q (by decide))), (Ne.symm (hi_ne b_d (by decide)))⟩))
        have p_319 := (RV.kp ((RV.kp ((RV.kp ((RV.kp (p_302) (Ex.kp e_303) (by decide))) (Ex.kp e_305) (by decide))) (Ex.kp e_310) (by decide))) k_312 (by simp only [List.mem_cons, List.not_mem_nil, or_false, not_or]; exact ⟨(by decide), (Ne.symm (hi_ne b_q (by decide))), (Ne.symm (hi_ne b_d (by decide)))⟩))
        have p_320 := (RV.kp ((RV.kp ((RV.kp ((RV.kp ((RV.kp (p_298) (Ex.kp e_299) (by decide))) (Ex.kp e_303) (by decide))) (Ex.kp e_305) (by decide))) (Ex.kp e_310) (by decide))) k_312 (by simp only [List.mem_cons, List.not_mem_nil, or_false, not_or]; exact ⟨(by decide), (Ne.symm (hi_ne b_q (by decide))), (Ne.symm (hi_ne b_d (by decide)))⟩))
        have p_321 := (RV.kp ((RV.kp ((RV.kp ((RV.kp ((RV.kp ((RV.kp ((RV.kp (p_225) (Ex.kp e_227) (by decide))) (Ex.kp e_230) (by decide))) (Ex.kp e_299) (by decide))) (Ex.kp e_303) (by decide))) (Ex.kp e_305) (by decide))) (Ex.kp e_310) (by decide))) k_312 (by simp only [List.mem_cons, List.not_mem_nil, or_false, not_or]; exact ⟨(by decide), (Ne.symm (hi_ne b_q (by decide))), (Ne.symm (hi_ne b_d (by decide)))⟩))
        have p_322 := (RV.kp (v_310) k_312 (by simp only [List.mem_cons, List.not_mem_nil, or_false, not_or]; exact ⟨(by decide), (Ne.symm (hi_ne b_q (by decide))), (Ne.symm (hi_ne b_d (by decide)))⟩))
        have p_323 := (RV.kp ((RV.kp ((RV.kp ((RV.kp ((RV.kp ((RV.kp ((RV.kp ((RV.kp (p_221) (Ex.kp e_222) (by decide))) (Ex.kp e_227) (by decide))) (Ex.kp e_230) (by decide))) (Ex.kp e_299) (by decide))) (Ex.kp e_303) (by decide))) (Ex.kp e_305) (by decide))) (Ex.kp e_310) (by decide))) k_312 (by simp only [List.mem_cons, List.not_mem_nil, or_false, not_or]; exact ⟨(by decide), (Ne.symm (hi_ne b_q (by decide))), (Ne.symm (hi_ne b_d (by decide)))⟩))
        have p_324 := (RV.kp ((RV.kp ((RV.kp ((RV.kp ((RV.kp ((RV.kp ((RV.kp ((RV.kp ((RV.kp ((RV.kp ((RV.kp ((RV.kp ((RV.kp ((RV.kp (p_44) (Ex.kp e_45) (by decide))) (Ex.kp e_50) (by decide))) (Ex.kp e_54) (by decide))) (Ex.kp e_57) (by decide))) (Ex.kp e_213) (by decide))) (Ex.kp e_218) (by decide))) (Ex.kp e_222) (by decide))) (Ex.kp e_227) (by decide))) (Ex.kp e_230) (by decide))) (Ex.kp e_299) (by decide))) (Ex.kp e_303) (by decide))) (Ex.kp e_305) (by decide))) (Ex.kp e_310) (by decide))) k_312 (by simp only [List.mem_cons, List.not_mem_nil, or_false, not_or]; exact ⟨(by decide), (Ne.symm (hi_ne b_q (by decide))), (Ne.symm (hi_ne b_d (by decide)))⟩))
        have p_325 := (RQ.kp ((RQ.kp ((RQ.kp ((RQ.kp ((RQ.kp ((RQ.kp ((RQ.kp ((RQ.kp ((RQ.kp ((RQ.kp ((RQ.kp ((RQ.kp ((RQ.kp ((RQ.kp ((RQ.kp ((RQ.kp (q85_24) (Ex.kp e_38) (by decide))) (Ex.kp e_42) (by decide))) (Ex.kp e_45) (by decide))) (Ex.kp e_50) (by decide))) (Ex.kp e_54) (by decide))) (Ex.kp e_57) (by decide))) (Ex.kp e_213) (by decide))) (Ex.kp e_218) (by decide))) (Ex.kp e_222) (by decide))) (Ex.kp e_227) (by decide))) (Ex.kp e_230) (by decide))) (Ex.kp e_299) (by decide))) (Ex.kp e_303) (by decide))) (Ex.kp e_305) (by decide))) (Ex.kp e_310) (by decide))) k_312 (by simp only [List.mem_cons, List.not_mem_nil, or_false, not_or]; exact ⟨(by decide), (Ne.symm (hi_ne b_q (by decide))), (Ne.symm (hi_ne b_d (by decide)))⟩))
        have p_326 := (RQ.kp ((RQ.kp ((RQ.kp ((RQ.kp ((RQ.kp ((RQ.kp ((RQ.kp ((RQ.kp ((RQ.kp ((RQ.kp ((RQ.kp ((RQ.kp ((RQ.kp ((RQ.kp ((RQ.kp ((RQ.kp (q84_24) (Ex.kp e_38) (by decide))) (Ex.kp e_42) (by decide))) (Ex.kp e_45) (by decide))) (Ex.kp e_50) (by decide))) (Ex.kp e_54) (by decide))) (Ex.kp e_57) (by decide))) (Ex.kp e_213) (by decide))) (Ex.kp e_218) (by decide))) (Ex.kp e_222) (by decide))) (Ex.kp e_227) (by decide))) (Ex.kp e_230) (by decide))) (Ex.kp e_299) (by decide))) (Ex.kp e_303) (by decide))) (Ex.kp e_305) (by decide))) (Ex.kp e_310) (by decide))) k_312 (by simp only [List.mem_cons, List.not_mem_nil, or_false, not_or]; exact ⟨(by decide), (Ne.symm (hi_ne b_q (by decide))), (Ne.symm (hi_ne b_d (by decide)))⟩))
        have p_327 := (RQ.kp ((RQ.kp ((RQ.kp ((RQ.kp ((RQ.kp ((RQ.kp ((RQ.kp ((RQ.kp ((RQ.kp ((RQ.kp ((RQ.kp ((RQ.kp ((RQ.kp ((RQ.kp ((RQ.kp ((RQ.kp (q83_24) (Ex.kp e_38) (by decide))) (Ex.kp e_42) (by decide))) (Ex.kp e_45) (by decide))) (Ex.kp e_50) (by decide))) (Ex.kp e_54) (by decide))) (Ex.kp e_57) (by decide))) (Ex.kp e_213) (by decide))) (Ex.kp e_218) (by decide))) (Ex.kp e_222) (by decide))) (Ex.kp e_227) (by decide))) (Ex.kp e_230) (by decide))) (Ex.kp e_299) (by decide))) (Ex.kp e_303) (by decide))) (Ex.kp e_305) (by decide))) (Ex.kp e_310) (by decide))) k_312 (by simp only [List.mem_cons, List.not_mem_nil, or_false, not_or]; exact ⟨(by decide), (Ne.symm (hi_ne b_q (by decide))), (Ne.symm (hi_ne b_d (by decide)))⟩))
        have p_328 := (RQ.kp ((RQ.kp ((RQ.kp ((RQ.kp ((RQ.kp ((RQ.kp ((RQ.kp ((RQ.kp ((RQ.kp ((RQ.kp ((RQ.kp ((RQ.kp ((RQ.kp ((RQ.kp ((RQ.kp ((RQ.kp (q82_24) (Ex.kp e_38) (by decide))) (Ex.kp e_42) (by decide))) (Ex.kp e_45) (by decide))) (Ex.kp e_50) (by decide))) (Ex.kp e_54) (by decide))) (Ex.kp e_57) (by decide))) (Ex.kp e_213) (by decide))) (Ex.kp e_218) (by decide))) (Ex.kp e_222) (by decide))) (Ex.kp e_227) (by decide))) (Ex.kp e_230) (by decide))) (Ex.kp e_299) (by decide))) (Ex.kp e_303) (by decide))) (Ex.kp e_305) (by decide))) (Ex.kp e_310) (by decide))) k_312 (by simp only [List.mem_cons, List.not_mem_nil, or_false, not_or]; exact ⟨(by decide), (Ne.symm (hi_ne b_q (by decide))), (Ne.symm (hi_ne b_d (by decide)))⟩))
        have p_329 := (RQ.kp ((RQ.kp ((RQ.kp ((RQ.kp ((RQ.kp ((RQ.kp ((RQ.kp ((RQ.kp ((RQ.kp ((RQ.kp ((RQ.kp ((RQ.kp ((RQ.kp ((RQ.kp ((RQ.kp ((RQ.kp (q81_24) (Ex.kp e_38) (by decide))) (Ex.kp e_42) (by decide))) (Ex.kp e_45) (by decide))) (Ex.kp e_50) (by decide))) (Ex.kp e_54) (by decide))) (Ex.kp e_57) (by decide))) (Ex.kp e_213) (by decide))) (Ex.kp e_218) (by decide))) (Ex.kp e_222) (by decide))) (Ex.kp e_227) (by decide))) (Ex.kp e_230) (by decide))) (Ex.kp e_299) (by decide))) (Ex.kp e_303) (by decide))) (Ex.kp e_305) (by decide))) (Ex.kp e_310) (by decide))) k_312 (by simp only [List.mem_cons, List.not_mem_nil, or_false, not_or]; exact ⟨(by decide), (Ne.symm (hi_ne b_q (by decide))), (Ne.symm (hi_ne b_d (by decide)))⟩))
        have p_330 := (RQ.kp ((RQ.kp ((RQ.kp ((RQ.kp ((RQ.kp ((RQ.kp ((RQ.kp ((RQ.kp ((RQ.kp ((RQ.kp ((RQ.kp ((RQ.kp ((RQ.kp ((RQ.kp ((RQ.kp ((RQ.kp (q80_24) (Ex.kp e_38) (by decide))) (Ex.kp e_42) (by decide))) (Ex.kp e_45) (by decide))) (Ex.kp e_50) (by decide))) (Ex.kp e_54) (by decide))) (Ex.kp e_57) (by decide))) (Ex.kp e_213) (by decide))) (Ex.kp e_218) (by decide))) (Ex.kp e_222) (by decide))) (Ex.kp e_227) (by decide))) (Ex.kp e_230) (by decide))) (Ex.kp e_299) (by decide))) (Ex.kp e_303) (by decide))) (Ex.kp e_305) (by decide))) (Ex.kp e_310) (by decide))) k_312 (by simp only [List.mem_cons, List.not_mem_nil, or_false, not_or]; exact ⟨(by decide), (Ne.symm (hi_ne b_q (by decide))), (Ne.symm (hi_ne b_d (by decide)))⟩))
        have h_331 := (k_312 77 (by simp only [List.mem_cons, List.not_mem_nil, or_false, not_or]; exact ⟨(by decide), (Ne.symm (hi_ne b_q (by decide))), (Ne.symm (hi_ne b_d (by decide)))⟩)).trans (h_311)
        have h_332 := (k_312 78 (by simp only [List.mem_cons, List.not_mem_nil, or_false, not_or]; exact ⟨(by decide), (Ne.symm (hi_ne b_q (by decide))), (Ne.symm (hi_ne b_d (by decide)))⟩)).trans (h_314)
        refine T_vret d_Cu_code_380 rfl (by decide) (by decide) ⟨rfl, hcu0.back ⟨h_331, h_332, (List.forall_mem_cons.mpr ⟨w_312, (List.forall_mem_cons.mpr ⟨p_330, (List.forall_mem_cons.mpr ⟨p_329, (List.forall_mem_cons.mpr ⟨p_328, (List.forall_mem_cons.mpr ⟨p_327, (List.forall_mem_cons.mpr ⟨p_326, (List.forall_mem_cons.mpr ⟨p_325, (List.forall_mem_cons.mpr ⟨(Rv.rq p_324), (List.forall_mem_cons.mpr ⟨(Rv.rq p_323), (List.forall_mem_cons.mpr ⟨(Rv.rq p_322), (List.forall_mem_cons.mpr ⟨(Rv.rq p_321), (List.forall_mem_cons.mpr ⟨(Rv.rq p_320), (List.forall_mem_cons.mpr ⟨(Rv.rq p_319), (List.forall_mem_cons.mpr ⟨p_318, (List.forall_mem_cons.mpr ⟨(Rv.rq p_317), (List.forall_mem_cons.mpr ⟨(Rv.rq p_316), (fun _ h => absurd h (List.not_mem_nil))⟩)⟩)⟩)⟩)⟩)⟩)⟩)⟩)⟩)⟩)⟩)⟩)⟩)⟩)⟩)⟩)⟩ K ?_, sv, K.mono ?_⟩
        · intro z hz; rcases List.mem_append.mp (show z ∈ cuR ++ [q, d] from hz) with h | h
          · exact Or.inl h
          · simp only [List.mem_cons, List.not_mem_nil, or_false] at h; omega
        · intro z hz; rcases List.mem_append.mp (show z ∈ cuR ++ [q, d] from hz) with h | h
          · exact List.mem_cons_of_mem _ (List.mem_cons_of_mem _ ((by decide +kernel : ∀ z ∈ cuR, z ∈ cuW) z h))
          · simp only [List.mem_cons, List.not_mem_nil, or_false] at h; rcases h with rfl | rfl <;> simp
      · rw [if_neg hb_305]
        refine T_eq (pc' := 354) (L' := [(0, .ref 77), (1, .ref p), (2, .ref q)]) (st' := [.int (nI 0)]) (M' := M_305) rfl rfl rfl rfl ?_
        refine N_if_eq_t (b := 0) d_Cu_code_354 (tgt := 368) rfl (by omega) (by omega) ?_
        refine T_aload_n (v := .ref 77) d_Cu_code_368 rfl (Or.inr ⟨_, rfl⟩) ?_
        have h_333 := (e_305 77 (by decide)).trans (h_304)
        refine T_getfield (v := .ref 78) d_Cu_code_369 fg_Cu_10 h_333 rfl ?_
        refine T_aload_n (v := .ref 77) d_Cu_code_372 rfl (Or.inr ⟨_, rfl⟩) ?_
        refine T_getfield (v := .ref 96) d_Cu_code_373 fg_Cu_43 h_333 rfl ?_
        refine T_aload_n (v := .ref q) d_Cu_code_376 rfl (Or.inr ⟨_, rfl⟩) ?_
        have p_334 := (RV.kp (v_303) (Ex.kp e_305) (by decide))
        have p_336 := (BY.kp ((BY.kp ((BY.kp ((BY.kp ((BY.kp ((BY.kp ((BY.kp ((BY.kp ((BY.kp ((BY.kp ((BY.kp ((BY.kp ((BY.kp ((BY.kp ((BY.kp ((BY.kp ((BY.kp ((BY.kp ((BY.kp ((BY.kp ((BY.kp (hq) (Ex.kp e_1) (hi_nin b_q (by decide)) (hi_nin b_d (by decide)))) (Ex.kp e_6) (hi_nin b_q (by decide)) (hi_nin b_d (by decide)))) (Ex.kp e_10) (hi_nin b_q (by decide)) (hi_nin b_d (by decide)))) (Ex.kp e_15) (hi_nin b_q (by decide)) (hi_nin b_d (by decide)))) (Ex.kp e_18) (hi_nin b_q (by decide)) (hi_nin b_d (by decide)))) (Ex.kp e_22) (hi_nin b_q (by decide)) (hi_nin b_d (by decide)))) k_24 (hi_nin b_q (by decide)) (hi_nin b_d (by decide)))) (Ex.kp e_38) (hi_nin b_q (by decide)) (hi_nin b_d (by decide)))) (Ex.kp e_42) (hi_nin b_q (by decide)) (hi_nin b_d (by decide)))) (Ex.kp e_45) (hi_nin b_q (by decide)) (hi_nin b_d (by decide)))) (Ex.kp e_50) (hi_nin b_q (by decide)) (hi_nin b_d (by decide)))) (Ex.kp e_54) (hi_nin b_q (by decide)) (hi_nin b_d (by decide)))) (Ex.kp e_57) (hi_nin b_q (by decide)) (hi_nin b_d (by decide)))) (Ex.kp e_213) (hi_nin b_q (by decide)) (hi_nin b_d (by decide)))) (Ex.kp e_218) (hi_nin b_q (by decide)) (hi_nin b_d (by decide)))) (Ex.kp e_222) (hi_nin b_q (by decide)) (hi_nin b_d (by decide)))) (Ex.kp e_227) (hi_nin b_q (by decide)) (hi_nin b_d (by decide)))) (Ex.kp e_230) (hi_nin b_q (by decide)) (hi_nin b_d (by decide)))) (Ex.kp e_299) (hi_nin b_q (by decide)) (hi_nin b_d (by decide)))) (Ex.kp e_303) (hi_nin b_q (by decide)) (hi_nin b_d (by decide)))) (Ex.kp e_305) (hi_nin b_q (by decide)) (hi_nin b_d (by decide)))
        have h_337 := (e_305 78 (by decide)).trans (h_306)
        refine T_virtual (as := [.ref 96, .ref q]) (rest := []) (b := 78) d_Cu_code_377 rfl (jw_Fi_save.jo (by decide)) lm_Cu_142 ji_Fi_save js_Fi_save h_337 rfl rfl rfl (Nat.le_of_ble_eq_true rfl) (by decide) (by decide) (y_Fi_save h_337 w_305 p_334 (by decide) p_336 k_d hne hroom hroom2 (hi_ne b_q (by decide)) (hi_ne b_q (by decide)) (hi_ne b_d (by decide)) (hi_ne b_d (by decide))) (fun r M_335 hq => ?_)
        obtain ⟨rfl, sv, w_335, k_335⟩ := hq
        refine T_eq (pc' := 380) (L' := [(0, .ref 77), (1, .ref p), (2, .ref q)]) (st' := []) (M' := M_335) rfl rfl rfl rfl ?_
        have a20 : ph x_10 = cAq (ph Y) (ph Z) := by rw [hx_10, ph_mul, hx_1, ph_add, hx_7, ph_sub]; rfl
        have a21 : ph x_16 = ph X * ph Y := by rw [hx_16, ph_mul]
        have aR : ph x_24 = cR (ph X) (ph Y) (ph Z) := by rw [hx_24, ph_rt, ph_3, hx_22, ph_mul, hx_19, ph_mul, a20, a21]; rfl
        have aS : ph x_50 = cS (ph X) (ph Y) (ph Z) (ph T) := by rw [hx_50, ph_mul, hx_46, ph_mul, hx_42, ph_mul, hx_38, ph_mul, aR, a20, a21]; rfl
        have t1 : ph x_55 = ph x_50 * ph T := by rw [hx_55, ph_mul]
        have hg : ph x_42 = ph X * ph Y * cR (ph X) (ph Y) (ph Z) := by rw [hx_42, ph_mul, a21, aR]
        have t2 : ph x_228 = ph X * ph x_50 := by rw [hx_228, ph_mul]
        have t3 : ph x_303 = (ph Z - ph Y) * ph x_42 := by rw [hx_303, ph_mul, hx_300, ph_sub]
        have fin := cF_of (X := ph X) (Y := ph Y) (Z := ph Z) (T := ph T) aS (Or.inr ⟨fun z => hb_57 ((od_of t1).mp z), rfl, rfl, hg⟩) (Or.inr ⟨fun z => hb_230 ((od_of t2).mp z), rfl⟩) t3 (Or.inr ⟨fun z => hb_305 (od_ph.mp z), rfl⟩)
        rw [fin, cF_pj jp] at sv
        have K : Kp [79, 80, 81, 82, 83, 84, 85, 94, 95, 96, 97, 98, 99, 100, 101, 102, q, d] M M_335 := (Kp.tr (Kp.ex (Kp.ex (Kp.ex (Kp.ex (Kp.ex (Kp.ex (Kp.ex (Kp.ex (Kp.ex (Kp.ex (Kp.ex (Kp.ex (Kp.ex (Kp.ex (Kp.tr (Kp.ex (Kp.ex (Kp.ex (Kp.ex (Kp.ex (Kp.ex (Kp.rf : Kp [79, 80, 81, 82, 83, 84, 85, 94, 95, 96, 97, 98, 99, 100, 101, 102, q, d] M M) e_1 (by simp)) e_6 (by simp)) e_10 (by simp)) e_15 (by simp)) e_18 (by simp)) e_22 (by simp)) (Kp.mono k_24 (by simp))) e_38 (by simp)) e_42 (by simp)) e_45 (by simp)) e_50 (by simp)) e_54 (by simp)) e_57 (by simp)) e_213 (by simp)) e_218 (by simp)) e_222 (by simp)) e_227 (by simp)) e_230 (by simp)) e_299 (by simp)) e_303 (by simp)) e_305 (by simp)) (Kp.mono k_335 (by simp)))
        have p_338 := (RV.kp ((RV.kp ((RV.kp ((RV.kp ((RV.kp ((RV.kp (p_226) (Ex.kp e_227) (by decide))) (Ex.kp e_230) (by decide))) (Ex.kp e_299) (by decide))) (Ex.kp e_303) (by decide))) (Ex.kp e_305) (by decide))) k_335 (by simp only [List.mem_cons, List.not_mem_nil, or_false, not_or]; exact ⟨(by decide), (Ne.symm (hi_ne b_q (by decide))), (Ne.symm (hi_ne b_d (by decide)))⟩))
        have p_339 := (RV.kp ((RV.kp ((RV.kp ((RV.kp ((RV.kp ((RV.kp ((RV.kp ((RV.kp ((RV.kp ((RV.kp ((RV.kp ((RV.kp ((RV.kp ((RV.kp (p_41) (Ex.kp e_42) (by decide))) (Ex.kp e_45) (by decide))) (Ex.kp e_50) (by decide))) (Ex.kp e_54) (by decide))) (Ex.kp e_57) (by decide))) (Ex.kp e_213) (by decide))) (Ex.kp e_218) (by decide))) (Ex.kp e_222) (by decide))) (Ex.kp e_227) (by decide))) (Ex.kp e_230) (by decide))) (Ex.kp e_299) (by decide))) (Ex.kp e_303) (by decide))) (Ex.kp e_305) (by decide))) k_335 (by simp only [List.mem_cons, List.not_mem_nil, or_false, not_or]; exact ⟨(by decide), (Ne.symm (hi_ne b_q (by decide))), (Ne.symm (hi_ne b_d (by decide)))⟩))
        have p_340 := (RQ.kp ((RQ.kp ((RQ.kp ((RQ.kp ((RQ.kp ((RQ.kp ((RQ.kp ((RQ.kp ((RQ.kp ((RQ.kp ((RQ.kp ((RQ.kp ((RQ.kp ((RQ.kp ((RQ.kp ((RQ.kp ((RQ.kp ((RQ.kp ((RQ.kp ((RQ.kp ((RQ.kp ((RQ.kp ((hcs.2.2 100 (by decide))) (Ex.kp e_1) (by decide))) (Ex.kp e_6) (by decide))) (Ex.kp e_10) (by decide))) (Ex.kp e_15) (by decide))) (Ex.kp e_18) (by decide))) (Ex.kp e_22) (by decide))) k_24 (by decide))) (Ex.kp e_38) (by decide))) (Ex.kp e_42) (by decide))) (Ex.kp e_45) (by decide))) (Ex.kp e_50) (by decide))) (Ex.kp e_54) (by decide))) (Ex.kp e_57) (by decide))) (Ex.kp e_213) (by decide))) (Ex.kp e_218) (by decide))) (Ex.kp e_222) (by decide))) (Ex.kp e_227) (by decide))) (Ex.kp e_230) (by decide))) (Ex.kp e_299) (by decide))) (Ex.kp e_303) (by decide))) (Ex.kp e_305) (by decide))) k_335 (by simp only [List.mem_cons, List.not_mem_nil, or_false, not_or]; exact ⟨(by decide), (Ne.symm (hi_ne b_q (by decide))), (Ne.symm (hi_ne b_d (by decide)))⟩))
        have p_341 := (RV.kp ((RV.kp ((RV.kp (p_302) (Ex.kp e_303) (by decide))) (Ex.kp e_305) (by decide))) k_335 (by simp only [List.mem_cons, List.not_mem_nil, or_false, not_or]; exact ⟨(by decide), (Ne.symm (hi_ne b_q (by decide))), (Ne.symm (hi_ne b_d (by decide)))⟩))
        have p_342 := (RV.kp ((RV.kp ((RV.kp ((RV.kp (p_298) (Ex.kp e_299) (by decide))) (Ex.kp e_303) (by decide))) (Ex.kp e_305) (by decide))) k_335 (by simp only [List.mem_cons, List.not_mem_nil, or_false, not_or]; exact ⟨(by decide), (Ne.symm (hi_ne b_q (by decide))), (Ne.symm (hi_ne b_d (by decide)))⟩))
        have p_343 := (RV.kp ((RV.kp ((RV.kp ((RV.kp ((RV.kp ((RV.kp (p_225) (Ex.kp e_227) (by decide))) (Ex.kp e_230) (by decide))) (Ex.kp e_299) (by decide))) (Ex.kp e_303) (by decide))) (Ex.kp e_305) (by decide))) k_335 (by simp only [List.mem_cons, List.not_mem_nil, or_false, not_or]; exact ⟨(by decide), (Ne.symm (hi_ne b_q (by decide))), (Ne.symm (hi_ne b_d (by decide)))⟩))
        have p_344 := (RV.kp (p_334) k_335 (by simp only [List.mem_cons, List.not_mem_nil, or_false, not_or]; exact ⟨(by decide), (Ne.symm (hi_ne b_q (by decide))), (Ne.symm (hi_ne b_d (by decide)))⟩))
        have p_345 := (RV.kp ((RV.kp ((RV.kp ((RV.kp ((RV.kp ((RV.kp ((RV.kp (p_221) (Ex.kp e_222) (by decide))) (Ex.kp e_227) (by decide))) (Ex.kp e_230) (by decide))) (Ex.kp e_299) (by decide))) (Ex.kp e_303) (by decide))) (Ex.kp e_305) (by decide))) k_335 (by simp only [List.mem_cons, List.not_mem_nil, or_false, not_or]; exact ⟨(by decide), (Ne.symm (hi_ne b_q (by decide))), (Ne.symm (hi_ne b_d (by decide)))⟩))
        have p_346 := (RV.kp ((RV.kp ((RV.kp ((RV.kp ((RV.kp ((RV.kp ((RV.kp ((RV.kp ((RV.kp ((RV.kp ((RV.kp ((RV.kp ((RV.kp (p_44) (Ex.kp e_45) (by decide))) (Ex.kp e_50) (by decide))) (Ex.kp e_54) (by decide))) (Ex.kp e_57) (by decide))) (Ex.kp e_213) (by decide))) (Ex.kp e_218) (by decide))) (Ex.kp e_222) (by decide))) (Ex.kp e_227) (by decide))) (Ex.kp e_230) (by decide))) (Ex.kp e_299) (by decide))) (Ex.kp e_303) (by decide))) (Ex.kp e_305) (by decide))) k_335 (by simp only [List.mem_cons, List.not_mem_nil, or_false, not_or]; exact ⟨(by decide), (Ne.symm (hi_ne b_q (by decide))), (Ne.symm (hi_ne b_d (by decide)))⟩))
        have p_347 := (RQ.kp ((RQ.kp ((RQ.kp ((RQ.kp ((RQ.kp ((RQ.kp ((RQ.kp ((RQ.kp ((RQ.kp ((RQ.kp ((RQ.kp ((RQ.kp ((RQ.kp ((RQ.kp ((RQ.kp (q85_24) (Ex.kp e_38) (by decide))) (Ex.kp e_42) (by decide))) (Ex.kp e_45) (by decide))) (Ex.kp e_50) (by decide))) (Ex.kp e_54) (by decide))) (Ex.kp e_57) (by decide))) (Ex.kp e_213) (by decide))) (Ex.kp e_218) (by decide))) (Ex.kp e_222) (by decide))) (Ex.kp e_227) (by decide))) (Ex.kp e_230) (by decide))) (Ex.kp e_299) (by decide))) (Ex.kp e_303) (by decide))) (Ex.kp e_305) (by decide))) k_335 (by simp only [List.mem_cons, List.not_mem_nil, or_false, not_or]; exact ⟨(by decide), (Ne.symm (hi_ne b_q (by decide))), (Ne.symm (hi_ne b_d (by decide)))⟩))
        have p_348 := (RQ.kp ((RQ.kp ((RQ.kp ((RQ.kp ((RQ.kp ((RQ.kp ((RQ.kp ((RQ.kp ((RQ.kp ((RQ.kp ((RQ.kp ((RQ.kp ((RQ.kp ((RQ.kp ((RQ.kp (q84_24) (Ex.kp e_38) (by decide))) (Ex.kp e_42) (by decide))) (Ex.kp e_45) (by decide))) (Ex.kp e_50) (by decide))) (Ex.kp e_54) (by decide))) (Ex.kp e_57) (by decide))) (Ex.kp e_213) (by decide))) (Ex.kp e_218) (by decide))) (Ex.kp e_222) (by decide))) (Ex.kp e_227) (by decide))) (Ex.kp e_230) (by decide))) (Ex.kp e_299) (by decide))) (Ex.kp e_303) (by decide))) (Ex.kp e_305) (by decide))) k_335 (by simp only [List.mem_cons, List.not_mem_nil, or_false, not_or]; exact ⟨(by decide), (Ne.symm (hi_ne b_q (by decide))), (Ne.symm (hi_ne b_d (by decide)))⟩))
        have p_349 := (RQ.kp ((RQ.kp ((RQ.kp ((RQ.kp ((RQ.kp ((RQ.kp ((RQ.kp ((RQ.kp ((RQ.kp ((RQ.kp ((RQ.kp ((RQ.kp ((RQ.kp ((RQ.kp ((RQ.kp (q83_24) (Ex.kp e_38) (by decide))) (Ex.kp e_42) (by decide))) (Ex.kp e_45) (by decide))) (Ex.kp e_50) (by decide))) (Ex.kp e_54) (by decide))) (Ex.kp e_57) (by decide))) (Ex.kp e_213) (by decide))) (Ex.kp e_218) (by decide))) (Ex.kp e_222) (by decide))) (Ex.kp e_227) (by decide))) (Ex.kp e_230) (by decide))) (Ex.kp e_299) (by decide))) (Ex.kp e_303) (by decide))) (Ex.kp e_305) (by decide))) k_335 (by simp only [List.mem_cons, List.not_mem_nil, or_false, not_or]; exact ⟨(by decide), (Ne.symm (hi_ne b_q (by decide))), (Ne.symm (hi_ne b_d (by decide)))⟩))
        have p_350 := (RQ.kp ((RQ.kp ((RQ.kp ((RQ.kp ((RQ.kp ((RQ.kp ((RQ.kp ((RQ.kp ((RQ.kp ((RQ.kp ((RQ.kp ((RQ.kp ((RQ.kp ((RQ.kp ((RQ.kp (q82_24) (Ex.kp e_38) (by decide))) (Ex.kp e_42) (by decide))) (Ex.kp e_45) (by decide))) (Ex.kp e_50) (by decide))) (Ex.kp e_54) (by decide))) (Ex.kp e_57) (by decide))) (Ex.kp e_213) (by decide))) (Ex.kp e_218) (by decide))) (Ex.kp e_222) (by decide))) (Ex.kp e_227) (by decide))) (Ex.kp e_230) (by decide))) (Ex.kp e_299) (by decide))) (Ex.kp e_303) (by decide))) (Ex.kp e_305) (by decide))) k_335 (by simp only [List.mem_cons, List.not_mem_nil, or_false, not_or]; exact ⟨(by decide), (Ne.symm (hi_ne b_q (by decide))), (Ne.symm (hi_ne b_d (by decide)))⟩))
        have p_351 := (RQ.kp ((RQ.kp ((RQ.kp ((RQ.kp ((RQ.kp ((RQ.kp ((RQ.kp ((RQ.kp ((RQ.kp ((RQ.kp ((RQ.kp ((RQ.kp ((RQ.kp ((RQ.kp ((RQ.kp (q81_24) (Ex.kp e_38) (by decide))) (Ex.kp e_42) (by decide))) (Ex.kp e_45) (by decide))) (Ex.kp e_50) (by decide))) (Ex.kp e_54) (by decide))) (Ex.kp e_57) (by decide))) (Ex.kp e_213) (by decide))) (Ex.kp e_218) (by decide))) (Ex.kp e_222) (by decide))) (Ex.kp e_227) (by decide))) (Ex.kp e_230) (by decide))) (Ex.kp e_299) (by decide))) (Ex.kp e_303) (by decide))) (Ex.kp e_305) (by decide))) k_335 (by simp only [List.mem_cons, List.not_mem_nil, or_false, not_or]; exact ⟨(by decide), (Ne.symm (hi_ne b_q (by decide))), (Ne.symm (hi_ne b_d (by decide)))⟩))
        have p_352 := (RQ.kp ((RQ.kp ((RQ.kp ((RQ.kp ((RQ.kp ((RQ.kp ((RQ.kp ((RQ.kp ((RQ.kp ((RQ.kp ((RQ.kp ((RQ.kp ((RQ.kp ((RQ.kp ((RQ.kp (q80_24) (Ex.kp e_38) (by decide))) (Ex.kp e_42) (by decide))) (Ex.kp e_45) (by decide))) (Ex.kp e_50) (by decide))) (Ex.kp e_54) (by decide))) (Ex.kp e_57) (by decide))) (Ex.kp e_213) (by decide))) (Ex.kp e_218) (by decide))) (Ex.kp e_222) (by decide))) (Ex.kp e_227) (by decide))) (Ex.kp e_230) (by decide))) (Ex.kp e_299) (by decide))) (Ex.kp e_303) (by decide))) (Ex.kp e_305) (by decide))) k_335 (by simp only [List.mem_cons, List.not_mem_nil, or_false, not_or]; exact ⟨(by decide), (Ne.symm (hi_ne b_q (by decide))), (Ne.symm (hi_ne b_d (by decide)))⟩))
        have h_353 := (k_335 77 (by simp only [List.mem_cons, List.not_mem_nil, or_false, not_or]; exact ⟨(by decide), (Ne.symm (hi_ne b_q (by decide))), (Ne.symm (hi_ne b_d (by decide)))⟩)).trans (h_333)
        have h_354 := (k_335 78 (by simp only [List.mem_cons, List.not_mem_nil, or_false, not_or]; exact ⟨(by decide), (Ne.symm (hi_ne b_q (by decide))), (Ne.symm (hi_ne b_d (by decide)))⟩)).trans (h_337)
        refine T_vret d_Cu_code_380 rfl (by decide) (by decide) ⟨rfl, hcu0.back ⟨h_353, h_354, (List.forall_mem_cons.mpr ⟨w_335, (List.forall_mem_cons.mpr ⟨p_352, (List.forall_mem_cons.mpr ⟨p_351, (List.forall_mem_cons.mpr ⟨p_350, (List.forall_mem_cons.mpr ⟨p_349, (List.forall_mem_cons.mpr ⟨p_348, (List.forall_mem_cons.mpr ⟨p_347, (List.forall_mem_cons.mpr ⟨(Rv.rq p_346), (List.forall_mem_cons.mpr ⟨(Rv.rq p_345), (List.forall_mem_cons.mpr ⟨(Rv.rq p_344), (List.forall_mem_cons.mpr ⟨(Rv.rq p_343), (List.forall_mem_cons.mpr ⟨(Rv.rq p_342), (List.forall_mem_cons.mpr ⟨(Rv.rq p_341), (List.forall_mem_cons.mpr ⟨p_340, (List.forall_mem_cons.mpr ⟨(Rv.rq p_339), (List.forall_mem_cons.mpr ⟨(Rv.rq p_338), (fun _ h => absurd h (List.not_mem_nil))⟩)⟩)⟩)⟩)⟩)⟩)⟩)⟩)⟩)⟩)⟩)⟩)⟩)⟩)⟩)⟩)⟩ K ?_, sv, K.mono ?_⟩
        · intro z hz; rcases List.mem_append.mp (show z ∈ cuR ++ [q, d] from hz) with h | h
          · exact Or.inl h
          · simp only [List.mem_cons, List.not_mem_nil, or_false] at h; omega
        · intro z hz; rcases List.mem_append.mp (show z ∈ cuR ++ [q, d] from hz) with h | h
          · exact List.mem_cons_of_mem _ (List.mem_cons_of_mem _ ((by decide +kernel : ∀ z ∈ cuR, z ∈ cuW) z h))
          · simp only [List.mem_cons, List.not_mem_nil, or_false] at h; rcases h with rfl | rfl <;> simp
set_option maxHeartbeats 8000000 in
theorem y_Cu_half_188 {G : GX} {M : List va_E} {fr m at0 : Nat} {l : List UInt8} (hcs : CS1 M) (hto : PQ M 188 189 190 191 192) (hf : BA M fr m l) (hlen : at0 + 32 ≤ l.length) (hm2 : m < 2 ^ 30) (b_fr : 192 < fr) : CT G mi_Cu_mapHalf [.ref 77, .ref fr, .int (nI at0), .ref 188] M (fun r M' => r = none ∧ CS1 M' ∧ PC M' 188 189 190 191 192 (mPt (ph (nB l at0 % n255))) ∧ Kp [79, 80, 81, 82, 83, 84, 85, 94, 95, 96, 97, 98, 99, 100, 101, 102, 189, 190, 191, 192] M M') := by
  obtain ⟨t0, t1, t2, t3, t4⟩ := hto
  refine CT.of (by decide) (Nat.le_of_ble_eq_true rfl) ?_
  show TT G mi_Cu_mapHalf 0 [(0, .ref 77), (1, .ref fr), (2, .int (nI at0)), (3, .ref 188)] [] M 0 0 _
  refine T_know (fun hK0 => ?_)
  refine T_aload_n (v := .ref 77) d_Cu_mapHalf_0 rfl (Or.inr ⟨_, rfl⟩) ?_
  refine T_getfield (v := .ref 100) d_Cu_mapHalf_1 fg_Cu_55 hcs.1 rfl ?_
  refine T_aload_n (v := .ref fr) d_Cu_mapHalf_4 rfl (Or.inr ⟨_, rfl⟩) ?_
  refine T_iload_n d_Cu_mapHalf_5 rfl ?_
  refine T_static (as := [.ref 100, .ref fr, .int (nI at0)]) (rest := []) d_Cu_mapHalf_6 rfl (jw_Fi_load.jo (by decide)) lm_Cu_146 jt_Fi_load rfl (Nat.le_of_ble_eq_true rfl) (by decide) (by decide) (y_Fi_load (by decide) (hcs.2.2 100 (by decide)) hf (Ne.symm (hi_ne b_fr (by decide))) hlen hm2) (fun r M_1 hq => ?_)
  obtain ⟨rfl, v_1, e_1⟩ := hq
  obtain ⟨x_1, hx_1⟩ : ∃ z : Int, z = (nB l at0 % n255) := ⟨_, rfl⟩
  rw [← hx_1] at v_1
  refine T_eq (pc' := 9) (L' := [(0, .ref 77), (1, .ref fr), (2, .int (nI at0)), (3, .ref 188)]) (st' := []) (M' := M_1) rfl rfl rfl rfl ?_
  refine T_aload_n (v := .ref 77) d_Cu_mapHalf_9 rfl (Or.inr ⟨_, rfl⟩) ?_
  have h_2 := (e_1 77 (by decide)).trans (hcs.1)
  refine T_getfield (v := .ref 101) d_Cu_mapHalf_10 fg_Cu_58 h_2 rfl ?_
  refine T_aload_n (v := .ref 77) d_Cu_mapHalf_13 rfl (Or.inr ⟨_, rfl⟩) ?_
  refine T_getfield (v := .ref 100) d_Cu_mapHalf_14 fg_Cu_55 h_2 rfl ?_
  refine T_iconst (v := nI 1) d_Cu_mapHalf_17 (by decide) ?_
  have p_4 := (RQ.kp ((hcs.2.2 101 (by decide))) (Ex.kp e_1) (by decide))
  refine T_vsq1 d_Cu_mapHalf_18 (jw_Fi_square.jo (by decide)) lm_Cu_89 (Nat.le_of_ble_eq_true rfl) (by decide) (by decide) (by decide) p_4 v_1 (by decide) (fun M_3 v_3 e_3 => ?_)
  obtain ⟨x_4, hx_4⟩ : ∃ z : Int, z = (x_1 * x_1) := ⟨_, rfl⟩
  rw [← hx_4] at v_3
  refine T_aload_n (v := .ref 77) d_Cu_mapHalf_21 rfl (Or.inr ⟨_, rfl⟩) ?_
  have h_5 := (e_3 77 (by decide)).trans (h_2)
  refine T_getfield (v := .ref 101) d_Cu_mapHalf_22 fg_Cu_58 h_5 rfl ?_
  refine T_aload_n (v := .ref 77) d_Cu_mapHalf_25 rfl (Or.inr ⟨_, rfl⟩) ?_
  refine T_getfield (v := .ref 101) d_Cu_mapHalf_26 fg_Cu_58 h_5 rfl ?_
  refine T_getstatic (q := ("PasswordGate$Field", "I", "[J", .ref 2)) d_Cu_mapHalf_29 (List.mem_of_getElem? (i := 2) rfl) gs_Cu_131 (show 2 < K0 by decide) ?_
  have c_6 : RV M 2 cv_2 1 := ⟨_, hK0 2 (by decide), vt_2⟩
  have p_7 := (RV.kp ((RV.kp (c_6) (Ex.kp e_1) (by decide))) (Ex.kp e_3) (by decide))
  refine T_vmul d_Cu_mapHalf_32 (jw_Fi_multiply.jo (by decide)) lm_Cu_74 (Nat.le_of_ble_eq_true rfl) (by decide) (by decide) (by decide) (Rv.rq v_3) v_3 p_7 (by decide) (fun M_8 v_8 e_8 => ?_)
  obtain ⟨x_8, hx_8⟩ : ∃ z : Int, z = (x_4 * cv_2) := ⟨_, rfl⟩
  rw [← hx_8] at v_8
  refine T_aload_n (v := .ref 77) d_Cu_mapHalf_35 rfl (Or.inr ⟨_, rfl⟩) ?_
  have h_9 := (e_8 77 (by decide)).trans (h_5)
  refine T_getfield (v := .ref 94) d_Cu_mapHalf_36 fg_Cu_36 h_9 rfl ?_
  refine T_aload_n (v := .ref 77) d_Cu_mapHalf_39 rfl (Or.inr ⟨_, rfl⟩) ?_
  refine T_getfield (v := .ref 101) d_Cu_mapHalf_40 fg_Cu_58 h_9 rfl ?_
  refine T_getstatic (q := ("PasswordGate$Field", "ONE", "[J", .ref 3)) d_Cu_mapHalf_43 (List.mem_of_getElem? (i := 3) rfl) gs_Cu_103 (show 3 < K0 by decide) ?_
  have c_10 : RV M 3 cv_3 1 := ⟨_, hK0 3 (by decide), vt_3⟩
  have p_11 := (RV.kp ((RV.kp ((RV.kp (c_10) (Ex.kp e_1) (by decide))) (Ex.kp e_3) (by decide))) (Ex.kp e_8) (by decide))
  have p_13 := (RQ.kp ((RQ.kp ((RQ.kp ((hcs.2.2 94 (by decide))) (Ex.kp e_1) (by decide))) (Ex.kp e_3) (by decide))) (Ex.kp e_8) (by decide))
  refine T_vadd d_Cu_mapHalf_46 (jw_Fi_add.jo (by decide)) lm_Cu_77 (Nat.le_of_ble_eq_true rfl) (by decide) (by decide) (by decide) p_13 v_8 p_11 (by decide) (fun M_12 v_12 e_12 => ?_)
  obtain ⟨x_13, hx_13⟩ : ∃ z : Int, z = (x_8 + cv_3) := ⟨_, rfl⟩
  rw [← hx_13] at v_12
  refine T_aload_n (v := .ref 77) d_Cu_mapHalf_49 rfl (Or.inr ⟨_, rfl⟩) ?_
  have h_14 := (e_12 77 (by decide)).trans (h_9)
  refine T_getfield (v := .ref 94) d_Cu_mapHalf_50 fg_Cu_36 h_14 rfl ?_
  refine T_aload_n (v := .ref 77) d_Cu_mapHalf_53 rfl (Or.inr ⟨_, rfl⟩) ?_
  refine T_getfield (v := .ref 94) d_Cu_mapHalf_54 fg_Cu_36 h_14 rfl ?_
  refine T_getstatic (q := ("PasswordGate$Curve", "ONE_LESS_SQUARE", "[J", .ref 4)) d_Cu_mapHalf_57 (List.mem_of_getElem? (i := 4) rfl) gs_Cu_171 (show 4 < K0 by decide) ?_
  have c_15 : RV M 4 cv_4 1 := ⟨_, hK0 4 (by decide), vt_4⟩
  have p_16 := (RV.kp ((RV.kp ((RV.kp ((RV.kp (c_15) (Ex.kp e_1) (by decide))) (Ex.kp e_3) (by decide))) (Ex.kp e_8) (by decide))) (Ex.kp e_12) (by decide))
  refine T_vmul d_Cu_mapHalf_60 (jw_Fi_multiply.jo (by decide)) lm_Cu_74 (Nat.le_of_ble_eq_true rfl) (by decide) (by decide) (by decide) (Rv.rq v_12) v_12 p_16 (by decide) (fun M_17 v_17 e_17 => ?_)
  obtain ⟨x_17, hx_17⟩ : ∃ z : Int, z = (x_13 * cv_4) := ⟨_, rfl⟩
  rw [← hx_17] at v_17
  refine T_aload_n (v := .ref 77) d_Cu_mapHalf_63 rfl (Or.inr ⟨_, rfl⟩) ?_
  have h_18 := (e_17 77 (by decide)).trans (h_14)
  refine T_getfield (v := .ref 95) d_Cu_mapHalf_64 fg_Cu_40 h_18 rfl ?_
  refine T_aload_n (v := .ref 77) d_Cu_mapHalf_67 rfl (Or.inr ⟨_, rfl⟩) ?_
  refine T_getfield (v := .ref 101) d_Cu_mapHalf_68 fg_Cu_58 h_18 rfl ?_
  refine T_getstatic (q := ("PasswordGate$Curve", "D", "[J", .ref 5)) d_Cu_mapHalf_71 (List.mem_of_getElem? (i := 5) rfl) gs_Cu_161 (show 5 < K0 by decide) ?_
  have p_19 := (RV.kp ((RV.kp (v_8) (Ex.kp e_12) (by decide))) (Ex.kp e_17) (by decide))
  have c_20 : RV M 5 cv_5 1 := ⟨_, hK0 5 (by decide), vt_5⟩
  have p_21 := (RV.kp ((RV.kp ((RV.kp ((RV.kp ((RV.kp (c_20) (Ex.kp e_1) (by decide))) (Ex.kp e_3) (by decide))) (Ex.kp e_8) (by decide))) (Ex.kp e_12) (by decide))) (Ex.kp e_17) (by decide))
  have p_23 := (RQ.kp ((RQ.kp ((RQ.kp ((RQ.kp ((RQ.kp ((hcs.2.2 95 (by decide))) (Ex.kp e_1) (by decide))) (Ex.kp e_3) (by decide))) (Ex.kp e_8) (by decide))) (Ex.kp e_12) (by decide))) (Ex.kp e_17) (by decide))
  refine T_vmul d_Cu_mapHalf_74 (jw_Fi_multiply.jo (by decide)) lm_Cu_74 (Nat.le_of_ble_eq_true rfl) (by decide) (by decide) (by decide) p_23 p_19 p_21 (by decide) (fun M_22 v_22 e_22 => ?_)
  obtain ⟨x_23, hx_23⟩ : ∃ z : Int, z = (x_8 * cv_5) := ⟨_, rfl⟩
  rw [← hx_23] at v_22
  refine T_aload_n (v := .ref 77) d_Cu_mapHalf_77 rfl (Or.inr ⟨_, rfl⟩) ?_
  have h_24 := (e_22 77 (by decide)).trans (h_18)
  refine T_getfield (v := .ref 95) d_Cu_mapHalf_78 fg_Cu_40 h_24 rfl ?_
  refine T_aload_n (v := .ref 77) d_Cu_mapHalf_81 rfl (Or.inr ⟨_, rfl⟩) ?_
  refine T_getfield (v := .ref 95) d_Cu_mapHalf_82 fg_Cu_40 h_24 rfl ?_
  refine T_getstatic (q := ("PasswordGate$Field", "ONE", "[J", .ref 3)) d_Cu_mapHalf_85 (List.mem_of_getElem? (i := 3) rfl) gs_Cu_103 (show 3 < K0 by decide) ?_
  have p_25 := (RV.kp ((RV.kp ((RV.kp (p_11) (Ex.kp e_12) (by decide))) (Ex.kp e_17) (by decide))) (Ex.kp e_22) (by decide))
  refine T_vadd d_Cu_mapHalf_88 (jw_Fi_add.jo (by decide)) lm_Cu_77 (Nat.le_of_ble_eq_true rfl) (by decide) (by decide) (by decide) (Rv.rq v_22) v_22 p_25 (by decide) (fun M_26 v_26 e_26 => ?_)
  obtain ⟨x_26, hx_26⟩ : ∃ z : Int, z = (x_23 + cv_3) := ⟨_, rfl⟩
  rw [← hx_26] at v_26
  refine T_aload_n (v := .ref 77) d_Cu_mapHalf_91 rfl (Or.inr ⟨_, rfl⟩) ?_
  have h_27 := (e_26 77 (by decide)).trans (h_24)
  refine T_getfield (v := .ref 95) d_Cu_mapHalf_92 fg_Cu_40 h_27 rfl ?_
  refine T_aload_n (v := .ref 77) d_Cu_mapHalf_95 rfl (Or.inr ⟨_, rfl⟩) ?_
  refine T_getfield (v := .ref 95) d_Cu_mapHalf_96 fg_Cu_40 h_27 rfl ?_
  refine T_vneg d_Cu_mapHalf_99 (jw_Fi_negate.jo (by decide)) lm_Cu_139 (Nat.le_of_ble_eq_true rfl) (by decide) (by decide) (by decide) (Rv.rq v_26) v_26 (by decide) (fun M_28 v_28 e_28 => ?_)
  obtain ⟨x_28, hx_28⟩ : ∃ z : Int, z = (-x_26) := ⟨_, rfl⟩
  rw [← hx_28] at v_28
  refine T_aload_n (v := .ref 77) d_Cu_mapHalf_102 rfl (Or.inr ⟨_, rfl⟩) ?_
  have h_29 := (e_28 77 (by decide)).trans (h_27)
  refine T_getfield (v := .ref 96) d_Cu_mapHalf_103 fg_Cu_43 h_29 rfl ?_
  refine T_aload_n (v := .ref 77) d_Cu_mapHalf_106 rfl (Or.inr ⟨_, rfl⟩) ?_
  refine T_getfield (v := .ref 101) d_Cu_mapHalf_107 fg_Cu_58 h_29 rfl ?_
  refine T_getstatic (q := ("PasswordGate$Curve", "D", "[J", .ref 5)) d_Cu_mapHalf_110 (List.mem_of_getElem? (i := 5) rfl) gs_Cu_161 (show 5 < K0 by decide) ?_
  have p_30 := (RV.kp ((RV.kp ((RV.kp (p_19) (Ex.kp e_22) (by decide))) (Ex.kp e_26) (by decide))) (Ex.kp e_28) (by decide))
  have p_31 := (RV.kp ((RV.kp ((RV.kp (p_21) (Ex.kp e_22) (by decide))) (Ex.kp e_26) (by decide))) (Ex.kp e_28) (by decide))
  have p_33 := (RQ.kp ((RQ.kp ((RQ.kp ((RQ.kp ((RQ.kp ((RQ.kp ((RQ.kp ((RQ.kp ((hcs.2.2 96 (by decide))) (Ex.kp e_1) (by decide))) (Ex.kp e_3) (by decide))) (Ex.kp e_8) (by decide))) (Ex.kp e_12) (by decide))) (Ex.kp e_17) (by decide))) (Ex.kp e_22) (by decide))) (Ex.kp e_26) (by decide))) (Ex.kp e_28) (by decide))
  refine T_vadd d_Cu_mapHalf_113 (jw_Fi_add.jo (by decide)) lm_Cu_77 (Nat.le_of_ble_eq_true rfl) (by decide) (by decide) (by decide) p_33 p_30 p_31 (by decide) (fun M_32 v_32 e_32 => ?_)
  obtain ⟨x_33, hx_33⟩ : ∃ z : Int, z = (x_8 + cv_5) := ⟨_, rfl⟩
  rw [← hx_33] at v_32
  refine T_aload_n (v := .ref 77) d_Cu_mapHalf_116 rfl (Or.inr ⟨_, rfl⟩) ?_
  have h_34 := (e_32 77 (by decide)).trans (h_29)
  refine T_getfield (v := .ref 95) d_Cu_mapHalf_117 fg_Cu_40 h_34 rfl ?_
  refine T_aload_n (v := .ref 77) d_Cu_mapHalf_120 rfl (Or.inr ⟨_, rfl⟩) ?_
  refine T_getfield (v := .ref 95) d_Cu_mapHalf_121 fg_Cu_40 h_34 rfl ?_
  refine T_aload_n (v := .ref 77) d_Cu_mapHalf_124 rfl (Or.inr ⟨_, rfl⟩) ?_
  refine T_getfield (v := .ref 96) d_Cu_mapHalf_125 fg_Cu_43 h_34 rfl ?_
  have p_35 := (RV.kp (v_28) (Ex.kp e_32) (by decide))
  refine T_vmul d_Cu_mapHalf_128 (jw_Fi_multiply.jo (by decide)) lm_Cu_74 (Nat.le_of_ble_eq_true rfl) (by decide) (by decide) (by decide) (Rv.rq p_35) p_35 v_32 (by decide) (fun M_36 v_36 e_36 => ?_)
  obtain ⟨x_36, hx_36⟩ : ∃ z : Int, z = (x_28 * x_33) := ⟨_, rfl⟩
  rw [← hx_36] at v_36
  refine T_aload_n (v := .ref 77) d_Cu_mapHalf_131 rfl (Or.inr ⟨_, rfl⟩) ?_
  have h_37 := (e_36 77 (by decide)).trans (h_34)
  refine T_getfield (v := .ref 78) d_Cu_mapHalf_132 fg_Cu_10 h_37 rfl ?_
  refine T_aload_n (v := .ref 77) d_Cu_mapHalf_135 rfl (Or.inr ⟨_, rfl⟩) ?_
  refine T_getfield (v := .ref 102) d_Cu_mapHalf_136 fg_Cu_61 h_37 rfl ?_
  refine T_aload_n (v := .ref 77) d_Cu_mapHalf_139 rfl (Or.inr ⟨_, rfl⟩) ?_
  refine T_getfield (v := .ref 94) d_Cu_mapHalf_140 fg_Cu_36 h_37 rfl ?_
  refine T_aload_n (v := .ref 77) d_Cu_mapHalf_143 rfl (Or.inr ⟨_, rfl⟩) ?_
  refine T_getfield (v := .ref 95) d_Cu_mapHalf_144 fg_Cu_40 h_37 rfl ?_
  have p_39 := (RV.kp ((RV.kp ((RV.kp ((RV.kp ((RV.kp (v_17) (Ex.kp e_22) (by decide))) (Ex.kp e_26) (by decide))) (Ex.kp e_28) (by decide))) (Ex.kp e_32) (by decide))) (Ex.kp e_36) (by decide))
  have h_40 := (e_36 78 (by decide)).trans ((e_32 78 (by decide)).trans ((e_28 78 (by decide)).trans ((e_26 78 (by decide)).trans ((e_22 78 (by decide)).trans ((e_17 78 (by decide)).trans ((e_12 78 (by decide)).trans ((e_8 78 (by decide)).trans ((e_3 78 (by decide)).trans ((e_1 78 (by decide)).trans (hcs.2.1))))))))))
  have p_41 := (RQ.kp ((RQ.kp ((RQ.kp ((RQ.kp ((RQ.kp ((RQ.kp ((RQ.kp ((RQ.kp ((RQ.kp ((RQ.kp ((hcs.2.2 79 (by decide))) (Ex.kp e_1) (by decide))) (Ex.kp e_3) (by decide))) (Ex.kp e_8) (by decide))) (Ex.kp e_12) (by decide))) (Ex.kp e_17) (by decide))) (Ex.kp e_22) (by decide))) (Ex.kp e_26) (by decide))) (Ex.kp e_28) (by decide))) (Ex.kp e_32) (by decide))) (Ex.kp e_36) (by decide))
  have p_42 := (RQ.kp ((RQ.kp ((RQ.kp ((RQ.kp ((RQ.kp ((RQ.kp ((RQ.kp ((RQ.kp ((RQ.kp ((RQ.kp ((hcs.2.2 80 (by decide))) (Ex.kp e_1) (by decide))) (Ex.kp e_3) (by decide))) (Ex.kp e_8) (by decide))) (Ex.kp e_12) (by decide))) (Ex.kp e_17) (by decide))) (Ex.kp e_22) (by decide))) (Ex.kp e_26) (by decide))) (Ex.kp e_28) (by decide))) (Ex.kp e_32) (by decide))) (Ex.kp e_36) (by decide))
  have p_43 := (RQ.kp ((RQ.kp ((RQ.kp ((RQ.kp ((RQ.kp ((RQ.kp ((RQ.kp ((RQ.kp ((RQ.kp ((RQ.kp ((hcs.2.2 81 (by decide))) (Ex.kp e_1) (by decide))) (Ex.kp e_3) (by decide))) (Ex.kp e_8) (by decide))) (Ex.kp e_12) (by decide))) (Ex.kp e_17) (by decide))) (Ex.kp e_22) (by decide))) (Ex.kp e_26) (by decide))) (Ex.kp e_28) (by decide))) (Ex.kp e_32) (by decide))) (Ex.kp e_36) (by decide))
  have p_44 := (RQ.kp ((RQ.kp ((RQ.kp ((RQ.kp ((RQ.kp ((RQ.kp ((RQ.kp ((RQ.kp ((RQ.kp ((RQ.kp ((hcs.2.2 82 (by decide))) (Ex.kp e_1) (by decide))) (Ex.kp e_3) (by decide))) (Ex.kp e_8) (by decide))) (Ex.kp e_12) (by decide))) (Ex.kp e_17) (by decide))) (Ex.kp e_22) (by decide))) (Ex.kp e_26) (by decide))) (Ex.kp e_28) (by decide))) (Ex.kp e_32) (by decide))) (Ex.kp e_36) (by decide))
  have p_45 := (RQ.kp ((RQ.kp ((RQ.kp ((RQ.kp ((RQ.kp ((RQ.kp ((RQ.kp ((RQ.kp ((RQ.kp ((RQ.kp ((hcs.2.2 83 (by decide))) (Ex.kp e_1) (by decide))) (Ex.kp e_3) (by decide))) (Ex.kp e_8) (by decide))) (Ex.kp e_12) (by decide))) (Ex.kp e_17) (by decide))) (Ex.kp e_22) (by decide))) (Ex.kp e_26) (by decide))) (Ex.kp e_28) (by decide))) (Ex.kp e_32) (by decide))) (Ex.kp e_36) (by decide))
  have p_46 := (RQ.kp ((RQ.kp ((RQ.kp ((RQ.kp ((RQ.kp ((RQ.kp ((RQ.kp ((RQ.kp ((RQ.kp ((RQ.kp ((hcs.2.2 84 (by decide))) (Ex.kp e_1) (by decide))) (Ex.kp e_3) (by decide))) (Ex.kp e_8) (by decide))) (Ex.kp e_12) (by decide))) (Ex.kp e_17) (by decide))) (Ex.kp e_22) (by decide))) (Ex.kp e_26) (by decide))) (Ex.kp e_28) (by decide))) (Ex.kp e_32) (by decide))) (Ex.kp e_36) (by decide))
  have p_47 := (RQ.kp ((RQ.kp ((RQ.kp ((RQ.kp ((RQ.kp ((RQ.kp ((RQ.kp ((RQ.kp ((RQ.kp ((RQ.kp ((hcs.2.2 85 (by decide))) (Ex.kp e_1) (by decide))) (Ex.kp e_3) (by decide))) (Ex.kp e_8) (by decide))) (Ex.kp e_12) (by decide))) (Ex.kp e_17) (by decide))) (Ex.kp e_22) (by decide))) (Ex.kp e_26) (by decide))) (Ex.kp e_28) (by decide))) (Ex.kp e_32) (by decide))) (Ex.kp e_36) (by decide))
  have p_48 := (RQ.kp ((RQ.kp ((RQ.kp ((RQ.kp ((RQ.kp ((RQ.kp ((RQ.kp ((RQ.kp ((RQ.kp ((RQ.kp ((hcs.2.2 102 (by decide))) (Ex.kp e_1) (by decide))) (Ex.kp e_3) (by decide))) (Ex.kp e_8) (by decide))) (Ex.kp e_12) (by decide))) (Ex.kp e_17) (by decide))) (Ex.kp e_22) (by decide))) (Ex.kp e_26) (by decide))) (Ex.kp e_28) (by decide))) (Ex.kp e_32) (by decide))) (Ex.kp e_36) (by decide))
  refine T_virtual (as := [.ref 102, .ref 94, .ref 95]) (rest := []) (b := 78) d_Cu_mapHalf_147 rfl (jw_Fi_root.jo (by decide)) lm_Cu_123 ji_Fi_root js_Fi_root h_40 rfl rfl rfl (Nat.le_of_ble_eq_true rfl) (by decide) (by decide) (v_Fi_root G h_40 p_41 p_42 p_43 p_44 p_45 p_46 p_47 p_48 p_39 v_36 (by decide) (by decide) (by decide) (by decide) (by decide) (by decide) (by decide) (by decide) (by decide) (by decide) (by decide) (by decide) (by decide) (by decide) (by decide) (by decide) (by decide) (by decide) (by decide) (by decide) (by decide) (by decide) (by decide) (by decide) (by decide) (by decide)) (fun q M_38 hq => ?_)
  obtain ⟨rfl, v_38, k_38, q79_38, q80_38, q81_38, q82_38, q83_38, q84_38, q85_38⟩ := hq
  obtain ⟨x_38, hx_38⟩ : ∃ z : Int, z = rt x_17 x_36 := ⟨_, rfl⟩
  rw [← hx_38] at v_38
  have hg_38 := rtG_le x_17 x_36
  refine T_eq (pc' := 150) (L' := [(0, .ref 77), (1, .ref fr), (2, .int (nI at0)), (3, .ref 188)]) (st' := [.int (nI ((rtG x_17 x_36)))]) (M' := M_38) rfl rfl rfl rfl ?_
  refine T_istore (L' := [(4, .int (nI ((rtG x_17 x_36)))), (0, .ref 77), (1, .ref fr), (2, .int (nI at0)), (3, .ref 188)]) d_Cu_mapHalf_150 (by decide) rfl ?_
  refine T_aload_n (v := .ref 77) d_Cu_mapHalf_152 rfl (Or.inr ⟨_, rfl⟩) ?_
  have h_49 := (k_38 77 (by decide)).trans (h_37)
  refine T_getfield (v := .ref 96) d_Cu_mapHalf_153 fg_Cu_43 h_49 rfl ?_
  refine T_getstatic (q := ("PasswordGate$Field", "ONE", "[J", .ref 3)) d_Cu_mapHalf_156 (List.mem_of_getElem? (i := 3) rfl) gs_Cu_103 (show 3 < K0 by decide) ?_
  have p_50 := (RV.kp ((RV.kp ((RV.kp ((RV.kp ((RV.kp (p_25) (Ex.kp e_26) (by decide))) (Ex.kp e_28) (by decide))) (Ex.kp e_32) (by decide))) (Ex.kp e_36) (by decide))) k_38 (by decide))
  have p_52 := (RV.kp ((RV.kp (v_32) (Ex.kp e_36) (by decide))) k_38 (by decide))
  refine T_vneg d_Cu_mapHalf_159 (jw_Fi_negate.jo (by decide)) lm_Cu_139 (Nat.le_of_ble_eq_true rfl) (by decide) (by decide) (by decide) (Rv.rq p_52) p_50 (by decide) (fun M_51 v_51 e_51 => ?_)
  obtain ⟨x_52, hx_52⟩ : ∃ z : Int, z = (-cv_3) := ⟨_, rfl⟩
  rw [← hx_52] at v_51
  refine T_iload d_Cu_mapHalf_162 rfl ?_
  refine N_if_ne (b := (rtG x_17 x_36)) d_Cu_mapHalf_164 (tgt := 218) rfl (by omega) (fun hgd => ?_) (fun hgd => ?_)
  ·
    refine T_aload_n (v := .ref 77) d_Cu_mapHalf_218 rfl (Or.inr ⟨_, rfl⟩) ?_
    have h_53 := (e_51 77 (by decide)).trans (h_49)
    refine T_getfield (v := .ref 101) d_Cu_mapHalf_219 fg_Cu_58 h_53 rfl ?_
    refine T_aload_n (v := .ref 77) d_Cu_mapHalf_222 rfl (Or.inr ⟨_, rfl⟩) ?_
    refine T_getfield (v := .ref 101) d_Cu_mapHalf_223 fg_Cu_58 h_53 rfl ?_
    refine T_getstatic (q := ("PasswordGate$Field", "ONE", "[J", .ref 3)) d_Cu_mapHalf_226 (List.mem_of_getElem? (i := 3) rfl) gs_Cu_103 (show 3 < K0 by decide) ?_
    have p_54 := (RV.kp ((RV.kp ((RV.kp ((RV.kp (p_30) (Ex.kp e_32) (by decide))) (Ex.kp e_36) (by decide))) k_38 (by decide))) (Ex.kp e_51) (by decide))
    have p_55 := (RV.kp (p_50) (Ex.kp e_51) (by decide))
    refine T_vsub d_Cu_mapHalf_229 (jw_Fi_subtract.jo (by decide)) lm_Cu_70 (Nat.le_of_ble_eq_true rfl) (by decide) (by decide) (by decide) (Rv.rq p_54) p_54 p_55 (by decide) (fun M_56 v_56 e_56 => ?_)
    obtain ⟨x_56, hx_56⟩ : ∃ z : Int, z = (x_8 - cv_3) := ⟨_, rfl⟩
    rw [← hx_56] at v_56
    refine T_aload_n (v := .ref 77) d_Cu_mapHalf_232 rfl (Or.inr ⟨_, rfl⟩) ?_
    have h_57 := (e_56 77 (by decide)).trans (h_53)
    refine T_getfield (v := .ref 96) d_Cu_mapHalf_233 fg_Cu_43 h_57 rfl ?_
    refine T_aload_n (v := .ref 77) d_Cu_mapHalf_236 rfl (Or.inr ⟨_, rfl⟩) ?_
    refine T_getfield (v := .ref 96) d_Cu_mapHalf_237 fg_Cu_43 h_57 rfl ?_
    refine T_aload_n (v := .ref 77) d_Cu_mapHalf_240 rfl (Or.inr ⟨_, rfl⟩) ?_
    refine T_getfield (v := .ref 101) d_Cu_mapHalf_241 fg_Cu_58 h_57 rfl ?_
    have p_58 := (RV.kp (v_51) (Ex.kp e_56) (by decide))
    refine T_vmul d_Cu_mapHalf_244 (jw_Fi_multiply.jo (by decide)) lm_Cu_74 (Nat.le_of_ble_eq_true rfl) (by decide) (by decide) (by decide) (Rv.rq p_58) p_58 v_56 (by decide) (fun M_59 v_59 e_59 => ?_)
    obtain ⟨x_59, hx_59⟩ : ∃ z : Int, z = (x_52 * x_56) := ⟨_, rfl⟩
    rw [← hx_59] at v_59
    refine T_aload_n (v := .ref 77) d_Cu_mapHalf_247 rfl (Or.inr ⟨_, rfl⟩) ?_
    have h_60 := (e_59 77 (by decide)).trans (h_57)
    refine T_getfield (v := .ref 96) d_Cu_mapHalf_248 fg_Cu_43 h_60 rfl ?_
    refine T_aload_n (v := .ref 77) d_Cu_mapHalf_251 rfl (Or.inr ⟨_, rfl⟩) ?_
    refine T_getfield (v := .ref 96) d_Cu_mapHalf_252 fg_Cu_43 h_60 rfl ?_
    refine T_getstatic (q := ("PasswordGate$Curve", "LESS_ONE_SQUARED", "[J", .ref 6)) d_Cu_mapHalf_255 (List.mem_of_getElem? (i := 6) rfl) gs_Cu_174 (show 6 < K0 by decide) ?_
    have c_61 : RV M 6 cv_6 1 := ⟨_, hK0 6 (by decide), vt_6⟩
    have p_62 := (RV.kp ((RV.kp ((RV.kp ((RV.kp ((RV.kp ((RV.kp ((RV.kp ((RV.kp ((RV.kp ((RV.kp ((RV.kp ((RV.kp ((RV.kp ((RV.kp (c_61) (Ex.kp e_1) (by decide))) (Ex.kp e_3) (by decide))) (Ex.kp e_8) (by decide))) (Ex.kp e_12) (by decide))) (Ex.kp e_17) (by decide))) (Ex.kp e_22) (by decide))) (Ex.kp e_26) (by decide))) (Ex.kp e_28) (by decide))) (Ex.kp e_32) (by decide))) (Ex.kp e_36) (by decide))) k_38 (by decide))) (Ex.kp e_51) (by decide))) (Ex.kp e_56) (by decide))) (Ex.kp e_59) (by decide))
    refine T_vmul d_Cu_mapHalf_258 (jw_Fi_multiply.jo (by decide)) lm_Cu_74 (Nat.le_of_ble_eq_true rfl) (by decide) (by decide) (by decide) (Rv.rq v_59) v_59 p_62 (by decide) (fun M_63 v_63 e_63 => ?_)
    obtain ⟨x_63, hx_63⟩ : ∃ z : Int, z = (x_59 * cv_6) := ⟨_, rfl⟩
    rw [← hx_63] at v_63
    refine T_aload_n (v := .ref 77) d_Cu_mapHalf_261 rfl (Or.inr ⟨_, rfl⟩) ?_
    have h_64 := (e_63 77 (by decide)).trans (h_60)
    refine T_getfield (v := .ref 96) d_Cu_mapHalf_262 fg_Cu_43 h_64 rfl ?_
    refine T_aload_n (v := .ref 77) d_Cu_mapHalf_265 rfl (Or.inr ⟨_, rfl⟩) ?_
    refine T_getfield (v := .ref 96) d_Cu_mapHalf_266 fg_Cu_43 h_64 rfl ?_
    refine T_aload_n (v := .ref 77) d_Cu_mapHalf_269 rfl (Or.inr ⟨_, rfl⟩) ?_
    refine T_getfield (v := .ref 95) d_Cu_mapHalf_270 fg_Cu_40 h_64 rfl ?_
    have p_65 := (RV.kp ((RV.kp ((RV.kp ((RV.kp ((RV.kp (v_36) k_38 (by decide))) (Ex.kp e_51) (by decide))) (Ex.kp e_56) (by decide))) (Ex.kp e_59) (by decide))) (Ex.kp e_63) (by decide))
    refine T_vsub d_Cu_mapHalf_273 (jw_Fi_subtract.jo (by decide)) lm_Cu_70 (Nat.le_of_ble_eq_true rfl) (by decide) (by decide) (by decide) (Rv.rq v_63) v_63 p_65 (by decide) (fun M_66 v_66 e_66 => ?_)
    obtain ⟨x_66, hx_66⟩ : ∃ z : Int, z = (x_63 - x_36) := ⟨_, rfl⟩
    rw [← hx_66] at v_66
    refine T_aload_n (v := .ref 77) d_Cu_mapHalf_276 rfl (Or.inr ⟨_, rfl⟩) ?_
    have h_67 := (e_66 77 (by decide)).trans (h_64)
    refine T_getfield (v := .ref 94) d_Cu_mapHalf_277 fg_Cu_36 h_67 rfl ?_
    refine T_aload_n (v := .ref 77) d_Cu_mapHalf_280 rfl (Or.inr ⟨_, rfl⟩) ?_
    refine T_getfield (v := .ref 102) d_Cu_mapHalf_281 fg_Cu_61 h_67 rfl ?_
    refine T_aload_n (v := .ref 77) d_Cu_mapHalf_284 rfl (Or.inr ⟨_, rfl⟩) ?_
    refine T_getfield (v := .ref 95) d_Cu_mapHalf_285 fg_Cu_40 h_67 rfl ?_
    have p_68 := (RV.kp ((RV.kp ((RV.kp ((RV.kp ((RV.kp (v_38) (Ex.kp e_51) (by decide))) (Ex.kp e_56) (by decide))) (Ex.kp e_59) (by decide))) (Ex.kp e_63) (by decide))) (Ex.kp e_66) (by decide))
    have p_69 := (RV.kp (p_65) (Ex.kp e_66) (by decide))
    have p_71 := (RV.kp ((RV.kp ((RV.kp ((RV.kp ((RV.kp ((RV.kp (p_39) k_38 (by decide))) (Ex.kp e_51) (by decide))) (Ex.kp e_56) (by decide))) (Ex.kp e_59) (by decide))) (Ex.kp e_63) (by decide))) (Ex.kp e_66) (by decide))
    refine T_vmul d_Cu_mapHalf_288 (jw_Fi_multiply.jo (by decide)) lm_Cu_74 (Nat.le_of_ble_eq_true rfl) (by decide) (by decide) (by decide) (Rv.rq p_71) p_68 p_69 (by decide) (fun M_70 v_70 e_70 => ?_)
    obtain ⟨x_71, hx_71⟩ : ∃ z : Int, z = (x_38 * x_36) := ⟨_, rfl⟩
    rw [← hx_71] at v_70
    refine T_aload_n (v := .ref 77) d_Cu_mapHalf_291 rfl (Or.inr ⟨_, rfl⟩) ?_
    have h_72 := (e_70 77 (by decide)).trans (h_67)
    refine T_getfield (v := .ref 94) d_Cu_mapHalf_292 fg_Cu_36 h_72 rfl ?_
    refine T_aload_n (v := .ref 77) d_Cu_mapHalf_295 rfl (Or.inr ⟨_, rfl⟩) ?_
    refine T_getfield (v := .ref 94) d_Cu_mapHalf_296 fg_Cu_36 h_72 rfl ?_
    refine T_aload_n (v := .ref 77) d_Cu_mapHalf_299 rfl (Or.inr ⟨_, rfl⟩) ?_
    refine T_getfield (v := .ref 94) d_Cu_mapHalf_300 fg_Cu_36 h_72 rfl ?_
    refine T_vadd d_Cu_mapHalf_303 (jw_Fi_add.jo (by decide)) lm_Cu_77 (Nat.le_of_ble_eq_true rfl) (by decide) (by decide) (by decide) (Rv.rq v_70) v_70 v_70 (by decide) (fun M_73 v_73 e_73 => ?_)
    obtain ⟨x_73, hx_73⟩ : ∃ z : Int, z = (x_71 + x_71) := ⟨_, rfl⟩
    rw [← hx_73] at v_73
    refine T_aload_n (v := .ref 77) d_Cu_mapHalf_306 rfl (Or.inr ⟨_, rfl⟩) ?_
    have h_74 := (e_73 77 (by decide)).trans (h_72)
    refine T_getfield (v := .ref 95) d_Cu_mapHalf_307 fg_Cu_40 h_74 rfl ?_
    refine T_aload_n (v := .ref 77) d_Cu_mapHalf_310 rfl (Or.inr ⟨_, rfl⟩) ?_
    refine T_getfield (v := .ref 96) d_Cu_mapHalf_311 fg_Cu_43 h_74 rfl ?_
    refine T_getstatic (q := ("PasswordGate$Curve", "G", "[J", .ref 7)) d_Cu_mapHalf_314 (List.mem_of_getElem? (i := 7) rfl) gs_Cu_177 (show 7 < K0 by decide) ?_
    have p_75 := (RV.kp ((RV.kp (v_66) (Ex.kp e_70) (by decide))) (Ex.kp e_73) (by decide))
    have c_76 : RV M 7 cv_7 1 := ⟨_, hK0 7 (by decide), vt_7⟩
    have p_77 := (RV.kp ((RV.kp ((RV.kp ((RV.kp ((RV.kp ((RV.kp ((RV.kp ((RV.kp ((RV.kp ((RV.kp ((RV.kp ((RV.kp ((RV.kp ((RV.kp ((RV.kp ((RV.kp ((RV.kp ((RV.kp (c_76) (Ex.kp e_1) (by decide))) (Ex.kp e_3) (by decide))) (Ex.kp e_8) (by decide))) (Ex.kp e_12) (by decide))) (Ex.kp e_17) (by decide))) (Ex.kp e_22) (by decide))) (Ex.kp e_26) (by decide))) (Ex.kp e_28) (by decide))) (Ex.kp e_32) (by decide))) (Ex.kp e_36) (by decide))) k_38 (by decide))) (Ex.kp e_51) (by decide))) (Ex.kp e_56) (by decide))) (Ex.kp e_59) (by decide))) (Ex.kp e_63) (by decide))) (Ex.kp e_66) (by decide))) (Ex.kp e_70) (by decide))) (Ex.kp e_73) (by decide))
    have p_79 := (RV.kp ((RV.kp (p_69) (Ex.kp e_70) (by decide))) (Ex.kp e_73) (by decide))
    refine T_vmul d_Cu_mapHalf_317 (jw_Fi_multiply.jo (by decide)) lm_Cu_74 (Nat.le_of_ble_eq_true rfl) (by decide) (by decide) (by decide) (Rv.rq p_79) p_75 p_77 (by decide) (fun M_78 v_78 e_78 => ?_)
    obtain ⟨x_79, hx_79⟩ : ∃ z : Int, z = (x_66 * cv_7) := ⟨_, rfl⟩
    rw [← hx_79] at v_78
    refine T_aload_n (v := .ref 77) d_Cu_mapHalf_320 rfl (Or.inr ⟨_, rfl⟩) ?_
    have h_80 := (e_78 77 (by decide)).trans (h_74)
    refine T_getfield (v := .ref 102) d_Cu_mapHalf_321 fg_Cu_61 h_80 rfl ?_
    refine T_aload_n (v := .ref 77) d_Cu_mapHalf_324 rfl (Or.inr ⟨_, rfl⟩) ?_
    refine T_getfield (v := .ref 102) d_Cu_mapHalf_325 fg_Cu_61 h_80 rfl ?_
    refine T_iconst (v := nI 1) d_Cu_mapHalf_328 (by decide) ?_
    have p_81 := (RV.kp ((RV.kp ((RV.kp (p_68) (Ex.kp e_70) (by decide))) (Ex.kp e_73) (by decide))) (Ex.kp e_78) (by decide))
    refine T_vsq1 d_Cu_mapHalf_329 (jw_Fi_square.jo (by decide)) lm_Cu_89 (Nat.le_of_ble_eq_true rfl) (by decide) (by decide) (by decide) (Rv.rq p_81) p_81 (by decide) (fun M_82 v_82 e_82 => ?_)
    obtain ⟨x_82, hx_82⟩ : ∃ z : Int, z = (x_38 * x_38) := ⟨_, rfl⟩
    rw [← hx_82] at v_82
    refine T_aload_n (v := .ref 77) d_Cu_mapHalf_332 rfl (Or.inr ⟨_, rfl⟩) ?_
    have h_83 := (e_82 77 (by decide)).trans (h_80)
    refine T_getfield (v := .ref 96) d_Cu_mapHalf_333 fg_Cu_43 h_83 rfl ?_
    refine T_getstatic (q := ("PasswordGate$Field", "ONE", "[J", .ref 3)) d_Cu_mapHalf_336 (List.mem_of_getElem? (i := 3) rfl) gs_Cu_103 (show 3 < K0 by decide) ?_
    refine T_aload_n (v := .ref 77) d_Cu_mapHalf_339 rfl (Or.inr ⟨_, rfl⟩) ?_
    refine T_getfield (v := .ref 102) d_Cu_mapHalf_340 fg_Cu_61 h_83 rfl ?_
    have p_84 := (RV.kp ((RV.kp ((RV.kp ((RV.kp ((RV.kp ((RV.kp ((RV.kp ((RV.kp (p_55) (Ex.kp e_56) (by decide))) (Ex.kp e_59) (by decide))) (Ex.kp e_63) (by decide))) (Ex.kp e_66) (by decide))) (Ex.kp e_70) (by decide))) (Ex.kp e_73) (by decide))) (Ex.kp e_78) (by decide))) (Ex.kp e_82) (by decide))
    have p_86 := (RV.kp ((RV.kp (p_75) (Ex.kp e_78) (by decide))) (Ex.kp e_82) (by decide))
    refine T_vsub d_Cu_mapHalf_343 (jw_Fi_subtract.jo (by decide)) lm_Cu_70 (Nat.le_of_ble_eq_true rfl) (by decide) (by decide) (by decide) (Rv.rq p_86) p_84 v_82 (by decide) (fun M_85 v_85 e_85 => ?_)
    obtain ⟨x_86, hx_86⟩ : ∃ z : Int, z = (cv_3 - x_82) := ⟨_, rfl⟩
    rw [← hx_86] at v_85
    refine T_aload_n (v := .ref 77) d_Cu_mapHalf_346 rfl (Or.inr ⟨_, rfl⟩) ?_
    have h_87 := (e_85 77 (by decide)).trans (h_83)
    refine T_getfield (v := .ref 102) d_Cu_mapHalf_347 fg_Cu_61 h_87 rfl ?_
    refine T_getstatic (q := ("PasswordGate$Field", "ONE", "[J", .ref 3)) d_Cu_mapHalf_350 (List.mem_of_getElem? (i := 3) rfl) gs_Cu_103 (show 3 < K0 by decide) ?_
    refine T_aload_n (v := .ref 77) d_Cu_mapHalf_353 rfl (Or.inr ⟨_, rfl⟩) ?_
    refine T_getfield (v := .ref 102) d_Cu_mapHalf_354 fg_Cu_61 h_87 rfl ?_
    have p_88 := (RV.kp (p_84) (Ex.kp e_85) (by decide))
    have p_89 := (RV.kp (v_82) (Ex.kp e_85) (by decide))
    refine T_vadd d_Cu_mapHalf_357 (jw_Fi_add.jo (by decide)) lm_Cu_77 (Nat.le_of_ble_eq_true rfl) (by decide) (by decide) (by decide) (Rv.rq p_89) p_88 p_89 (by decide) (fun M_90 v_90 e_90 => ?_)
    obtain ⟨x_90, hx_90⟩ : ∃ z : Int, z = (cv_3 + x_82) := ⟨_, rfl⟩
    rw [← hx_90] at v_90
    refine T_aload_n (v := .ref 188) d_Cu_mapHalf_360 rfl (Or.inr ⟨_, rfl⟩) ?_
    have h_91 := (e_90 188 (by decide)).trans ((e_85 188 (by decide)).trans ((e_82 188 (by decide)).trans ((e_78 188 (by decide)).trans ((e_73 188 (by decide)).trans ((e_70 188 (by decide)).trans ((e_66 188 (by decide)).trans ((e_63 188 (by decide)).trans ((e_59 188 (by decide)).trans ((e_56 188 (by decide)).trans ((e_51 188 (by decide)).trans ((k_38 188 (by decide)).trans ((e_36 188 (by decide)).trans ((e_32 188 (by decide)).trans ((e_28 188 (by decide)).trans ((e_26 188 (by decide)).trans ((e_22 188 (by decide)).trans ((e_17 188 (by decide)).trans ((e_12 188 (by decide)).trans ((e_8 188 (by decide)).trans ((e_3 188 (by decide)).trans ((e_1 188 (by decide)).trans (t0))))))))))))))))))))))
    refine T_getfield (v := .ref 189) d_Cu_mapHalf_361 fg_Cu_67 h_91 rfl ?_
    refine T_aload_n (v := .ref 77) d_Cu_mapHalf_364 rfl (Or.inr ⟨_, rfl⟩) ?_
    have h_92 := (e_90 77 (by decide)).trans (h_87)
    refine T_getfield (v := .ref 94) d_Cu_mapHalf_365 fg_Cu_36 h_92 rfl ?_
    refine T_aload_n (v := .ref 77) d_Cu_mapHalf_368 rfl (Or.inr ⟨_, rfl⟩) ?_
    refine T_getfield (v := .ref 102) d_Cu_mapHalf_369 fg_Cu_61 h_92 rfl ?_
    have p_93 := (RV.kp ((RV.kp ((RV.kp ((RV.kp (v_73) (Ex.kp e_78) (by decide))) (Ex.kp e_82) (by decide))) (Ex.kp e_85) (by decide))) (Ex.kp e_90) (by decide))
    have p_95 := (RQ.kp ((RQ.kp ((RQ.kp ((RQ.kp ((RQ.kp ((RQ.kp ((RQ.kp ((RQ.kp ((RQ.kp ((RQ.kp ((RQ.kp ((RQ.kp ((RQ.kp ((RQ.kp ((RQ.kp ((RQ.kp ((RQ.kp ((RQ.kp ((RQ.kp ((RQ.kp ((RQ.kp ((RQ.kp (t1) (Ex.kp e_1) (by decide))) (Ex.kp e_3) (by decide))) (Ex.kp e_8) (by decide))) (Ex.kp e_12) (by decide))) (Ex.kp e_17) (by decide))) (Ex.kp e_22) (by decide))) (Ex.kp e_26) (by decide))) (Ex.kp e_28) (by decide))) (Ex.kp e_32) (by decide))) (Ex.kp e_36) (by decide))) k_38 (by decide))) (Ex.kp e_51) (by decide))) (Ex.kp e_56) (by decide))) (Ex.kp e_59) (by decide))) (Ex.kp e_63) (by decide))) (Ex.kp e_66) (by decide))) (Ex.kp e_70) (by decide))) (Ex.kp e_73) (by decide))) (Ex.kp e_78) (by decide))) (Ex.kp e_82) (by decide))) (Ex.kp e_85) (by decide))) (Ex.kp e_90) (by decide))
    refine T_vmul d_Cu_mapHalf_372 (jw_Fi_multiply.jo (by decide)) lm_Cu_74 (Nat.le_of_ble_eq_true rfl) (by decide) (by decide) (by decide) p_95 p_93 v_90 (by decide) (fun M_94 v_94 e_94 => ?_)
    obtain ⟨x_95, hx_95⟩ : ∃ z : Int, z = (x_73 * x_90) := ⟨_, rfl⟩
    rw [← hx_95] at v_94
    refine T_aload_n (v := .ref 188) d_Cu_mapHalf_375 rfl (Or.inr ⟨_, rfl⟩) ?_
    have h_96 := (e_94 188 (by decide)).trans (h_91)
    refine T_getfield (v := .ref 190) d_Cu_mapHalf_376 fg_Cu_64 h_96 rfl ?_
    refine T_aload_n (v := .ref 77) d_Cu_mapHalf_379 rfl (Or.inr ⟨_, rfl⟩) ?_
    have h_97 := (e_94 77 (by decide)).trans (h_92)
    refine T_getfield (v := .ref 96) d_Cu_mapHalf_380 fg_Cu_43 h_97 rfl ?_
    refine T_aload_n (v := .ref 77) d_Cu_mapHalf_383 rfl (Or.inr ⟨_, rfl⟩) ?_
    refine T_getfield (v := .ref 95) d_Cu_mapHalf_384 fg_Cu_40 h_97 rfl ?_
    have p_98 := (RV.kp ((RV.kp (v_85) (Ex.kp e_90) (by decide))) (Ex.kp e_94) (by decide))
    have p_99 := (RV.kp ((RV.kp ((RV.kp ((RV.kp (v_78) (Ex.kp e_82) (by decide))) (Ex.kp e_85) (by decide))) (Ex.kp e_90) (by decide))) (Ex.kp e_94) (by decide))
    have p_101 := (RQ.kp ((RQ.kp ((RQ.kp ((RQ.kp ((RQ.kp ((RQ.kp ((RQ.kp ((RQ.kp ((RQ.kp ((RQ.kp ((RQ.kp ((RQ.kp ((RQ.kp ((RQ.kp ((RQ.kp ((RQ.kp ((RQ.kp ((RQ.kp ((RQ.kp ((RQ.kp ((RQ.kp ((RQ.kp ((RQ.kp (t2) (Ex.kp e_1) (by decide))) (Ex.kp e_3) (by decide))) (Ex.kp e_8) (by decide))) (Ex.kp e_12) (by decide))) (Ex.kp e_17) (by decide))) (Ex.kp e_22) (by decide))) (Ex.kp e_26) (by decide))) (Ex.kp e_28) (by decide))) (Ex.kp e_32) (by decide))) (Ex.kp e_36) (by decide))) k_38 (by decide))) (Ex.kp e_51) (by decide))) (Ex.kp e_56) (by decide))) (Ex.kp e_59) (by decide))) (Ex.kp e_63) (by decide))) (Ex.kp e_66) (by decide))) (Ex.kp e_70) (by decide))) (Ex.kp e_73) (by decide))) (Ex.kp e_78) (by decide))) (Ex.kp e_82) (by decide))) (Ex.kp e_85) (by decide))) (Ex.kp e_90) (by decide))) (Ex.kp e_94) (by decide))
    refine T_vmul d_Cu_mapHalf_387 (jw_Fi_multiply.jo (by decide)) lm_Cu_74 (Nat.le_of_ble_eq_true rfl) (by decide) (by decide) (by decide) p_101 p_98 p_99 (by decide) (fun M_100 v_100 e_100 => ?_)
    obtain ⟨x_101, hx_101⟩ : ∃ z : Int, z = (x_86 * x_79) := ⟨_, rfl⟩
    rw [← hx_101] at v_100
    refine T_aload_n (v := .ref 188) d_Cu_mapHalf_390 rfl (Or.inr ⟨_, rfl⟩) ?_
    have h_102 := (e_100 188 (by decide)).trans (h_96)
    refine T_getfield (v := .ref 191) d_Cu_mapHalf_391 fg_Cu_86 h_102 rfl ?_
    refine T_aload_n (v := .ref 77) d_Cu_mapHalf_394 rfl (Or.inr ⟨_, rfl⟩) ?_
    have h_103 := (e_100 77 (by decide)).trans (h_97)
    refine T_getfield (v := .ref 95) d_Cu_mapHalf_395 fg_Cu_40 h_103 rfl ?_
    refine T_aload_n (v := .ref 77) d_Cu_mapHalf_398 rfl (Or.inr ⟨_, rfl⟩) ?_
    refine T_getfield (v := .ref 102) d_Cu_mapHalf_399 fg_Cu_61 h_103 rfl ?_
    have p_104 := (RV.kp (p_99) (Ex.kp e_100) (by decide))
    have p_105 := (RV.kp ((RV.kp (v_90) (Ex.kp e_94) (by decide))) (Ex.kp e_100) (by decide))
    have p_107 := (RQ.kp ((RQ.kp ((RQ.kp ((RQ.kp ((RQ.kp ((RQ.kp ((RQ.kp ((RQ.kp ((RQ.kp ((RQ.kp ((RQ.kp ((RQ.kp ((RQ.kp ((RQ.kp ((RQ.kp ((RQ.kp ((RQ.kp ((RQ.kp ((RQ.kp ((RQ.kp ((RQ.kp ((RQ.kp ((RQ.kp ((RQ.kp (t3) (Ex.kp e_1) (by decide))) (Ex.kp e_3) (by decide))) (Ex.kp e_8) (by decide))) (Ex.kp e_12) (by decide))) (Ex.kp e_17) (by decide))) (Ex.kp e_22) (by decide))) (Ex.kp e_26) (by decide))) (Ex.kp e_28) (by decide))) (Ex.kp e_32) (by decide))) (Ex.kp e_36) (by decide))) k_38 (by decide))) (Ex.kp e_51) (by decide))) (Ex.kp e_56) (by decide))) (Ex.kp e_59) (by decide))) (Ex.kp e_63) (by decide))) (Ex.kp e_66) (by decide))) (Ex.kp e_70) (by decide))) (Ex.kp e_73) (by decide))) (Ex.kp e_78) (by decide))) (Ex.kp e_82) (by decide))) (Ex.kp e_85) (by decide))) (Ex.kp e_90) (by decide))) (Ex.kp e_94) (by decide))) (Ex.kp e_100) (by decide))
    refine T_vmul d_Cu_mapHalf_402 (jw_Fi_multiply.jo (by decide)) lm_Cu_74 (Nat.le_of_ble_eq_true rfl) (by decide) (by decide) (by decide) p_107 p_104 p_105 (by decide) (fun M_106 v_106 e_106 => ?_)
    obtain ⟨x_107, hx_107⟩ : ∃ z : Int, z = (x_79 * x_90) := ⟨_, rfl⟩
    rw [← hx_107] at v_106
    refine T_aload_n (v := .ref 188) d_Cu_mapHalf_405 rfl (Or.inr ⟨_, rfl⟩) ?_
    have h_108 := (e_106 188 (by decide)).trans (h_102)
    refine T_getfield (v := .ref 192) d_Cu_mapHalf_406 fg_Cu_80 h_108 rfl ?_
    refine T_aload_n (v := .ref 77) d_Cu_mapHalf_409 rfl (Or.inr ⟨_, rfl⟩) ?_
    have h_109 := (e_106 77 (by decide)).trans (h_103)
    refine T_getfield (v := .ref 94) d_Cu_mapHalf_410 fg_Cu_36 h_109 rfl ?_
    refine T_aload_n (v := .ref 77) d_Cu_mapHalf_413 rfl (Or.inr ⟨_, rfl⟩) ?_
    refine T_getfield (v := .ref 96) d_Cu_mapHalf_414 fg_Cu_43 h_109 rfl ?_
    have p_110 := (RV.kp ((RV.kp ((RV.kp (p_93) (Ex.kp e_94) (by decide))) (Ex.kp e_100) (by decide))) (Ex.kp e_106) (by decide))
    have p_111 := (RV.kp ((RV.kp (p_98) (Ex.kp e_100) (by decide))) (Ex.kp e_106) (by decide))
    have p_113 := (RQ.kp ((RQ.kp ((RQ.kp ((RQ.kp ((RQ.kp ((RQ.kp ((RQ.kp ((RQ.kp ((RQ.kp ((RQ.kp ((RQ.kp ((RQ.kp ((RQ.kp ((RQ.kp ((RQ.kp ((RQ.kp ((RQ.kp ((RQ.kp ((RQ.kp ((RQ.kp ((RQ.kp ((RQ.kp ((RQ.kp ((RQ.kp ((RQ.kp (t4) (Ex.kp e_1) (by decide))) (Ex.kp e_3) (by decide))) (Ex.kp e_8) (by decide))) (Ex.kp e_12) (by decide))) (Ex.kp e_17) (by decide))) (Ex.kp e_22) (by decide))) (Ex.kp e_26) (by decide))) (Ex.kp e_28) (by decide))) (Ex.kp e_32) (by decide))) (Ex.kp e_36) (by decide))) k_38 (by decide))) (Ex.kp e_51) (by decide))) (Ex.kp e_56) (by decide))) (Ex.kp e_59) (by decide))) (Ex.kp e_63) (by decide))) (Ex.kp e_66) (by decide))) (Ex.kp e_70) (by decide))) (Ex.kp e_73) (by decide))) (Ex.kp e_78) (by decide))) (Ex.kp e_82) (by decide))) (Ex.kp e_85) (by decide))) (Ex.kp e_90) (by decide))) (Ex.kp e_94) (by decide))) (Ex.kp e_100) (by decide))) (Ex.kp e_106) (by decide))
    refine T_vmul d_Cu_mapHalf_417 (jw_Fi_multiply.jo (by decide)) lm_Cu_74 (Nat.le_of_ble_eq_true rfl) (by decide) (by decide) (by decide) p_113 p_110 p_111 (by decide) (fun M_112 v_112 e_112 => ?_)
    obtain ⟨x_113, hx_113⟩ : ∃ z : Int, z = (x_73 * x_86) := ⟨_, rfl⟩
    rw [← hx_113] at v_112
    have t0_ : ph x_1 = ph (nB l at0 % n255) := by rw [hx_1]
    generalize ph (nB l at0 % n255) = t at *
    have r1 : ph x_8 = t * t * fI := by rw [hx_8, ph_mul, hx_4, ph_mul, t0_, ph_I]
    generalize hr : t * t * fI = r at r1
    have uu : ph x_17 = gU_ r := by rw [hx_17, ph_mul, hx_13, ph_add, r1, ph_3, ph_4]; rfl
    have vv : ph x_36 = gV_ r := by rw [hx_36, ph_mul, hx_28, ph_neg, hx_26, ph_add, hx_23, ph_mul, hx_33, ph_add, r1, ph_3, ph_5]; rfl
    have rr_ : ph x_38 = rR (gU_ r) (gV_ r) := by rw [hx_38, ph_rt, uu, vv]
    have gi := rtG_1 x_17 x_36
    rw [uu, vv] at gi
    have gd_ : rG (gU_ r) (gV_ r) := gi.mp (by omega)
    have ss : ph x_38 = gS_ t r := by rw [rr_]; unfold gS_; rw [if_pos gd_]
    have cc : ph x_52 = gC_ t r := by rw [hx_52, ph_neg, ph_3]; unfold gC_; rw [if_pos gd_]
    have nn_ : ph x_66 = gN_ t r := by rw [hx_66, ph_sub, vv, hx_63, ph_mul, hx_59, ph_mul, hx_56, ph_sub, cc, r1, ph_3, ph_6]; rfl
    have w0 : ph x_73 = (gS_ t r + gS_ t r) * gV_ r := by rw [hx_73, ph_add, hx_71, ph_mul, ss, vv]; grobner
    have w1 : ph x_79 = gN_ t r * fG := by rw [hx_79, ph_mul, nn_, ph_7]
    have w2 : ph x_86 = 1 - gS_ t r * gS_ t r := by rw [hx_86, ph_sub, hx_82, ph_mul, ss, ph_3]
    have w3 : ph x_90 = 1 + gS_ t r * gS_ t r := by rw [hx_90, ph_add, hx_82, ph_mul, ss, ph_3]
    have q0 : ph x_95 = gX_ t := by unfold gX_; rw [hr, hx_95, ph_mul, w0, w3]
    have q1 : ph x_101 = gY_ t := by unfold gY_; rw [hr, hx_101, ph_mul, w2, w1]
    have q2 : ph x_107 = gZ_ t := by unfold gZ_; rw [hr, hx_107, ph_mul, w1, w3]
    have q3 : ph x_113 = gT_ t := by unfold gT_; rw [hr, hx_113, ph_mul, w0, w2]
    have J := mPt_pj t
    rw [← q0, ← q1, ← q2, ← q3] at J
    have p_114 := (RV.kp ((RV.kp ((RV.kp (v_94) (Ex.kp e_100) (by decide))) (Ex.kp e_106) (by decide))) (Ex.kp e_112) (by decide))
    have p_115 := (RV.kp ((RV.kp (v_100) (Ex.kp e_106) (by decide))) (Ex.kp e_112) (by decide))
    have p_116 := (RV.kp (v_106) (Ex.kp e_112) (by decide))
    have p_117 := (RV.kp ((RV.kp (p_105) (Ex.kp e_106) (by decide))) (Ex.kp e_112) (by decide))
    have p_118 := (RV.kp ((RV.kp ((RV.kp ((RV.kp ((RV.kp ((RV.kp ((RV.kp ((RV.kp ((RV.kp ((RV.kp ((RV.kp ((RV.kp ((RV.kp (v_56) (Ex.kp e_59) (by decide))) (Ex.kp e_63) (by decide))) (Ex.kp e_66) (by decide))) (Ex.kp e_70) (by decide))) (Ex.kp e_73) (by decide))) (Ex.kp e_78) (by decide))) (Ex.kp e_82) (by decide))) (Ex.kp e_85) (by decide))) (Ex.kp e_90) (by decide))) (Ex.kp e_94) (by decide))) (Ex.kp e_100) (by decide))) (Ex.kp e_106) (by decide))) (Ex.kp e_112) (by decide))
    have p_119 := (RV.kp ((RV.kp ((RV.kp ((RV.kp ((RV.kp ((RV.kp ((RV.kp ((RV.kp ((RV.kp ((RV.kp ((RV.kp ((RV.kp ((RV.kp ((RV.kp ((RV.kp ((RV.kp ((RV.kp ((RV.kp ((RV.kp ((RV.kp ((RV.kp ((RV.kp ((RV.kp ((RV.kp ((RV.kp (v_1) (Ex.kp e_3) (by decide))) (Ex.kp e_8) (by decide))) (Ex.kp e_12) (by decide))) (Ex.kp e_17) (by decide))) (Ex.kp e_22) (by decide))) (Ex.kp e_26) (by decide))) (Ex.kp e_28) (by decide))) (Ex.kp e_32) (by decide))) (Ex.kp e_36) (by decide))) k_38 (by decide))) (Ex.kp e_51) (by decide))) (Ex.kp e_56) (by decide))) (Ex.kp e_59) (by decide))) (Ex.kp e_63) (by decide))) (Ex.kp e_66) (by decide))) (Ex.kp e_70) (by decide))) (Ex.kp e_73) (by decide))) (Ex.kp e_78) (by decide))) (Ex.kp e_82) (by decide))) (Ex.kp e_85) (by decide))) (Ex.kp e_90) (by decide))) (Ex.kp e_94) (by decide))) (Ex.kp e_100) (by decide))) (Ex.kp e_106) (by decide))) (Ex.kp e_112) (by decide))
    have p_120 := (RQ.kp ((RQ.kp ((RQ.kp ((RQ.kp ((RQ.kp ((RQ.kp ((RQ.kp ((RQ.kp ((RQ.kp ((RQ.kp ((RQ.kp ((RQ.kp ((RQ.kp ((RQ.kp ((RQ.kp ((RQ.kp ((RQ.kp ((RQ.kp ((RQ.kp ((RQ.kp ((RQ.kp ((RQ.kp ((RQ.kp ((RQ.kp ((RQ.kp ((RQ.kp ((hcs.2.2 99 (by decide))) (Ex.kp e_1) (by decide))) (Ex.kp e_3) (by decide))) (Ex.kp e_8) (by decide))) (Ex.kp e_12) (by decide))) (Ex.kp e_17) (by decide))) (Ex.kp e_22) (by decide))) (Ex.kp e_26) (by decide))) (Ex.kp e_28) (by decide))) (Ex.kp e_32) (by decide))) (Ex.kp e_36) (by decide))) k_38 (by decide))) (Ex.kp e_51) (by decide))) (Ex.kp e_56) (by decide))) (Ex.kp e_59) (by decide))) (Ex.kp e_63) (by decide))) (Ex.kp e_66) (by decide))) (Ex.kp e_70) (by decide))) (Ex.kp e_73) (by decide))) (Ex.kp e_78) (by decide))) (Ex.kp e_82) (by decide))) (Ex.kp e_85) (by decide))) (Ex.kp e_90) (by decide))) (Ex.kp e_94) (by decide))) (Ex.kp e_100) (by decide))) (Ex.kp e_106) (by decide))) (Ex.kp e_112) (by decide))
    have p_121 := (RQ.kp ((RQ.kp ((RQ.kp ((RQ.kp ((RQ.kp ((RQ.kp ((RQ.kp ((RQ.kp ((RQ.kp ((RQ.kp ((RQ.kp ((RQ.kp ((RQ.kp ((RQ.kp ((RQ.kp ((RQ.kp ((RQ.kp ((RQ.kp ((RQ.kp ((RQ.kp ((RQ.kp ((RQ.kp ((RQ.kp ((RQ.kp ((RQ.kp ((RQ.kp ((hcs.2.2 98 (by decide))) (Ex.kp e_1) (by decide))) (Ex.kp e_3) (by decide))) (Ex.kp e_8) (by decide))) (Ex.kp e_12) (by decide))) (Ex.kp e_17) (by decide))) (Ex.kp e_22) (by decide))) (Ex.kp e_26) (by decide))) (Ex.kp e_28) (by decide))) (Ex.kp e_32) (by decide))) (Ex.kp e_36) (by decide))) k_38 (by decide))) (Ex.kp e_51) (by decide))) (Ex.kp e_56) (by decide))) (Ex.kp e_59) (by decide))) (Ex.kp e_63) (by decide))) (Ex.kp e_66) (by decide))) (Ex.kp e_70) (by decide))) (Ex.kp e_73) (by decide))) (Ex.kp e_78) (by decide))) (Ex.kp e_82) (by decide))) (Ex.kp e_85) (by decide))) (Ex.kp e_90) (by decide))) (Ex.kp e_94) (by decide))) (Ex.kp e_100) (by decide))) (Ex.kp e_106) (by decide))) (Ex.kp e_112) (by decide))
    have p_122 := (RQ.kp ((RQ.kp ((RQ.kp ((RQ.kp ((RQ.kp ((RQ.kp ((RQ.kp ((RQ.kp ((RQ.kp ((RQ.kp ((RQ.kp ((RQ.kp ((RQ.kp ((RQ.kp ((RQ.kp ((RQ.kp ((RQ.kp ((RQ.kp ((RQ.kp ((RQ.kp ((RQ.kp ((RQ.kp ((RQ.kp ((RQ.kp ((RQ.kp ((RQ.kp ((hcs.2.2 97 (by decide))) (Ex.kp e_1) (by decide))) (Ex.kp e_3) (by decide))) (Ex.kp e_8) (by decide))) (Ex.kp e_12) (by decide))) (Ex.kp e_17) (by decide))) (Ex.kp e_22) (by decide))) (Ex.kp e_26) (by decide))) (Ex.kp e_28) (by decide))) (Ex.kp e_32) (by decide))) (Ex.kp e_36) (by decide))) k_38 (by decide))) (Ex.kp e_51) (by decide))) (Ex.kp e_56) (by decide))) (Ex.kp e_59) (by decide))) (Ex.kp e_63) (by decide))) (Ex.kp e_66) (by decide))) (Ex.kp e_70) (by decide))) (Ex.kp e_73) (by decide))) (Ex.kp e_78) (by decide))) (Ex.kp e_82) (by decide))) (Ex.kp e_85) (by decide))) (Ex.kp e_90) (by decide))) (Ex.kp e_94) (by decide))) (Ex.kp e_100) (by decide))) (Ex.kp e_106) (by decide))) (Ex.kp e_112) (by decide))
    have p_123 := (RV.kp (p_111) (Ex.kp e_112) (by decide))
    have p_124 := (RV.kp ((RV.kp (p_104) (Ex.kp e_106) (by decide))) (Ex.kp e_112) (by decide))
    have p_125 := (RV.kp (p_110) (Ex.kp e_112) (by decide))
    have p_126 := (RQ.kp ((RQ.kp ((RQ.kp ((RQ.kp ((RQ.kp ((RQ.kp ((RQ.kp ((RQ.kp ((RQ.kp ((RQ.kp ((RQ.kp ((RQ.kp ((RQ.kp ((RQ.kp ((RQ.kp (q85_38) (Ex.kp e_51) (by decide))) (Ex.kp e_56) (by decide))) (Ex.kp e_59) (by decide))) (Ex.kp e_63) (by decide))) (Ex.kp e_66) (by decide))) (Ex.kp e_70) (by decide))) (Ex.kp e_73) (by decide))) (Ex.kp e_78) (by decide))) (Ex.kp e_82) (by decide))) (Ex.kp e_85) (by decide))) (Ex.kp e_90) (by decide))) (Ex.kp e_94) (by decide))) (Ex.kp e_100) (by decide))) (Ex.kp e_106) (by decide))) (Ex.kp e_112) (by decide))
    have p_127 := (RQ.kp ((RQ.kp ((RQ.kp ((RQ.kp ((RQ.kp ((RQ.kp ((RQ.kp ((RQ.kp ((RQ.kp ((RQ.kp ((RQ.kp ((RQ.kp ((RQ.kp ((RQ.kp ((RQ.kp (q84_38) (Ex.kp e_51) (by decide))) (Ex.kp e_56) (by decide))) (Ex.kp e_59) (by decide))) (Ex.kp e_63) (by decide))) (Ex.kp e_66) (by decide))) (Ex.kp e_70) (by decide))) (Ex.kp e_73) (by decide))) (Ex.kp e_78) (by decide))) (Ex.kp e_82) (by decide))) (Ex.kp e_85) (by decide))) (Ex.kp e_90) (by decide))) (Ex.kp e_94) (by decide))) (Ex.kp e_100) (by decide))) (Ex.kp e_106) (by decide))) (Ex.kp e_112) (by decide))
    have p_128 := (RQ.kp ((RQ.kp ((RQ.kp ((RQ.kp ((RQ.kp ((RQ.kp ((RQ.kp ((RQ.kp ((RQ.kp ((RQ.kp ((RQ.kp ((RQ.kp ((RQ.kp ((RQ.kp ((RQ.kp (q83_38) (Ex.kp e_51) (by decide))) (Ex.kp e_56) (by decide))) (Ex.kp e_59) (by decide))) (Ex.kp e_63) (by decide))) (Ex.kp e_66) (by decide))) (Ex.kp e_70) (by decide))) (Ex.kp e_73) (by decide))) (Ex.kp e_78) (by decide))) (Ex.kp e_82) (by decide))) (Ex.kp e_85) (by decide))) (Ex.kp e_90) (by decide))) (Ex.kp e_94) (by decide))) (Ex.kp e_100) (by decide))) (Ex.kp e_106) (by decide))) (Ex.kp e_112) (by decide))
    have p_129 := (RQ.kp ((RQ.kp ((RQ.kp ((RQ.kp ((RQ.kp ((RQ.kp ((RQ.kp ((RQ.kp ((RQ.kp ((RQ.kp ((RQ.kp ((RQ.kp ((RQ.kp ((RQ.kp ((RQ.kp (q82_38) (Ex.kp e_51) (by decide))) (Ex.kp e_56) (by decide))) (Ex.kp e_59) (by decide))) (Ex.kp e_63) (by decide))) (Ex.kp e_66) (by decide))) (Ex.kp e_70) (by decide))) (Ex.kp e_73) (by decide))) (Ex.kp e_78) (by decide))) (Ex.kp e_82) (by decide))) (Ex.kp e_85) (by decide))) (Ex.kp e_90) (by decide))) (Ex.kp e_94) (by decide))) (Ex.kp e_100) (by decide))) (Ex.kp e_106) (by decide))) (Ex.kp e_112) (by decide))
    have p_130 := (RQ.kp ((RQ.kp ((RQ.kp ((RQ.kp ((RQ.kp ((RQ.kp ((RQ.kp ((RQ.kp ((RQ.kp ((RQ.kp ((RQ.kp ((RQ.kp ((RQ.kp ((RQ.kp ((RQ.kp (q81_38) (Ex.kp e_51) (by decide))) (Ex.kp e_56) (by decide))) (Ex.kp e_59) (by decide))) (Ex.kp e_63) (by decide))) (Ex.kp e_66) (by decide))) (Ex.kp e_70) (by decide))) (Ex.kp e_73) (by decide))) (Ex.kp e_78) (by decide))) (Ex.kp e_82) (by decide))) (Ex.kp e_85) (by decide))) (Ex.kp e_90) (by decide))) (Ex.kp e_94) (by decide))) (Ex.kp e_100) (by decide))) (Ex.kp e_106) (by decide))) (Ex.kp e_112) (by decide))
    have p_131 := (RQ.kp ((RQ.kp ((RQ.kp ((RQ.kp ((RQ.kp ((RQ.kp ((RQ.kp ((RQ.kp ((RQ.kp ((RQ.kp ((RQ.kp ((RQ.kp ((RQ.kp ((RQ.kp ((RQ.kp (q80_38) (Ex.kp e_51) (by decide))) (Ex.kp e_56) (by decide))) (Ex.kp e_59) (by decide))) (Ex.kp e_63) (by decide))) (Ex.kp e_66) (by decide))) (Ex.kp e_70) (by decide))) (Ex.kp e_73) (by decide))) (Ex.kp e_78) (by decide))) (Ex.kp e_82) (by decide))) (Ex.kp e_85) (by decide))) (Ex.kp e_90) (by decide))) (Ex.kp e_94) (by decide))) (Ex.kp e_100) (by decide))) (Ex.kp e_106) (by decide))) (Ex.kp e_112) (by decide))
    have p_132 := (RQ.kp ((RQ.kp ((RQ.kp ((RQ.kp ((RQ.kp ((RQ.kp ((RQ.kp ((RQ.kp ((RQ.kp ((RQ.kp ((RQ.kp ((RQ.kp ((RQ.kp ((RQ.kp ((RQ.kp (q79_38) (Ex.kp e_51) (by decide))) (Ex.kp e_56) (by decide))) (Ex.kp e_59) (by decide))) (Ex.kp e_63) (by decide))) (Ex.kp e_66) (by decide))) (Ex.kp e_70) (by decide))) (Ex.kp e_73) (by decide))) (Ex.kp e_78) (by decide))) (Ex.kp e_82) (by decide))) (Ex.kp e_85) (by decide))) (Ex.kp e_90) (by decide))) (Ex.kp e_94) (by decide))) (Ex.kp e_100) (by decide))) (Ex.kp e_106) (by decide))) (Ex.kp e_112) (by decide))
    have h_133 := (e_112 77 (by decide)).trans (h_109)
    have h_134 := (e_112 78 (by decide)).trans ((e_106 78 (by decide)).trans ((e_100 78 (by decide)).trans ((e_94 78 (by decide)).trans ((e_90 78 (by decide)).trans ((e_85 78 (by decide)).trans ((e_82 78 (by decide)).trans ((e_78 78 (by decide)).trans ((e_73 78 (by decide)).trans ((e_70 78 (by decide)).trans ((e_66 78 (by decide)).trans ((e_63 78 (by decide)).trans ((e_59 78 (by decide)).trans ((e_56 78 (by decide)).trans ((e_51 78 (by decide)).trans ((k_38 78 (by decide)).trans (h_40))))))))))))))))
    have h_135 := (e_112 188 (by decide)).trans (h_108)
    exact T_vret d_Cu_mapHalf_420 rfl (by decide) (by decide) ⟨rfl, ⟨h_133, h_134, (List.forall_mem_cons.mpr ⟨p_132, (List.forall_mem_cons.mpr ⟨p_131, (List.forall_mem_cons.mpr ⟨p_130, (List.forall_mem_cons.mpr ⟨p_129, (List.forall_mem_cons.mpr ⟨p_128, (List.forall_mem_cons.mpr ⟨p_127, (List.forall_mem_cons.mpr ⟨p_126, (List.forall_mem_cons.mpr ⟨(Rv.rq p_125), (List.forall_mem_cons.mpr ⟨(Rv.rq p_124), (List.forall_mem_cons.mpr ⟨(Rv.rq p_123), (List.forall_mem_cons.mpr ⟨p_122, (List.forall_mem_cons.mpr ⟨p_121, (List.forall_mem_cons.mpr ⟨p_120, (List.forall_mem_cons.mpr ⟨(Rv.rq p_119), (List.forall_mem_cons.mpr ⟨(Rv.rq p_118), (List.forall_mem_cons.mpr ⟨(Rv.rq p_117), (fun _ h => absurd h (List.not_mem_nil))⟩)⟩)⟩)⟩)⟩)⟩)⟩)⟩)⟩)⟩)⟩)⟩)⟩)⟩)⟩)⟩)⟩, ⟨h_135, _, _, _, _, Rv.up p_114 (by decide), p_115, p_116, v_112, J⟩, (Kp.ex (Kp.ex (Kp.ex (Kp.ex (Kp.ex (Kp.ex (Kp.ex (Kp.ex (Kp.ex (Kp.ex (Kp.ex (Kp.ex (Kp.ex (Kp.ex (Kp.ex (Kp.tr (Kp.ex (Kp.ex (Kp.ex (Kp.ex (Kp.ex (Kp.ex (Kp.ex (Kp.ex (Kp.ex (Kp.ex (Kp.rf : Kp [79, 80, 81, 82, 83, 84, 85, 94, 95, 96, 97, 98, 99, 100, 101, 102, 189, 190, 191, 192] M M) e_1 (by decide)) e_3 (by decide)) e_8 (by decide)) e_12 (by decide)) e_17 (by decide)) e_22 (by decide)) e_26 (by decide)) e_28 (by decide)) e_32 (by decide)) e_36 (by decide)) (Kp.mono k_38 (by decide))) e_51 (by decide)) e_56 (by decide)) e_59 (by decide)) e_63 (by decide)) e_66 (by decide)) e_70 (by decide)) e_73 (by decide)) e_78 (by decide)) e_82 (by decide)) e_85 (by decide)) e_90 (by decide)) e_94 (by decide)) e_100 (by decide)) e_106 (by decide)) e_112 (by decide))⟩
  ·
    refine T_aload_n (v := .ref 77) d_Cu_mapHalf_167 rfl (Or.inr ⟨_, rfl⟩) ?_
    have h_136 := (e_51 77 (by decide)).trans (h_49)
    refine T_getfield (v := .ref 102) d_Cu_mapHalf_168 fg_Cu_61 h_136 rfl ?_
    refine T_aload_n (v := .ref 77) d_Cu_mapHalf_171 rfl (Or.inr ⟨_, rfl⟩) ?_
    refine T_getfield (v := .ref 102) d_Cu_mapHalf_172 fg_Cu_61 h_136 rfl ?_
    refine T_aload_n (v := .ref 77) d_Cu_mapHalf_175 rfl (Or.inr ⟨_, rfl⟩) ?_
    refine T_getfield (v := .ref 100) d_Cu_mapHalf_176 fg_Cu_55 h_136 rfl ?_
    have p_137 := (RV.kp (v_38) (Ex.kp e_51) (by decide))
    have p_138 := (RV.kp ((RV.kp ((RV.kp ((RV.kp ((RV.kp ((RV.kp ((RV.kp ((RV.kp ((RV.kp ((RV.kp ((RV.kp (v_1) (Ex.kp e_3) (by decide))) (Ex.kp e_8) (by decide))) (Ex.kp e_12) (by decide))) (Ex.kp e_17) (by decide))) (Ex.kp e_22) (by decide))) (Ex.kp e_26) (by decide))) (Ex.kp e_28) (by decide))) (Ex.kp e_32) (by decide))) (Ex.kp e_36) (by decide))) k_38 (by decide))) (Ex.kp e_51) (by decide))
    refine T_vmul d_Cu_mapHalf_179 (jw_Fi_multiply.jo (by decide)) lm_Cu_74 (Nat.le_of_ble_eq_true rfl) (by decide) (by decide) (by decide) (Rv.rq p_137) p_137 p_138 (by decide) (fun M_139 v_139 e_139 => ?_)
    obtain ⟨x_139, hx_139⟩ : ∃ z : Int, z = (x_38 * x_1) := ⟨_, rfl⟩
    rw [← hx_139] at v_139
    refine T_aload_n (v := .ref 77) d_Cu_mapHalf_182 rfl (Or.inr ⟨_, rfl⟩) ?_
    have h_140 := (e_139 77 (by decide)).trans (h_136)
    refine T_getfield (v := .ref 78) d_Cu_mapHalf_183 fg_Cu_10 h_140 rfl ?_
    refine T_aload_n (v := .ref 77) d_Cu_mapHalf_186 rfl (Or.inr ⟨_, rfl⟩) ?_
    refine T_getfield (v := .ref 102) d_Cu_mapHalf_187 fg_Cu_61 h_140 rfl ?_
    have h_142 := (e_139 78 (by decide)).trans ((e_51 78 (by decide)).trans ((k_38 78 (by decide)).trans (h_40)))
    have p_143 := (RQ.kp ((RQ.kp (q79_38) (Ex.kp e_51) (by decide))) (Ex.kp e_139) (by decide))
    refine T_visodd d_Cu_mapHalf_190 (jw_Fi_isOdd.jo (by decide)) lm_Cu_127 (Nat.le_of_ble_eq_true rfl) (by decide) (by decide) h_142 p_143 v_139 (by decide) (fun M_141 w_141 e_141 => ?_)
    by_cases hb_141 : (x_139 % pP) % 2 = 1
    · rw [if_pos hb_141]
      refine T_eq (pc' := 193) (L' := [(4, .int (nI ((rtG x_17 x_36)))), (0, .ref 77), (1, .ref fr), (2, .int (nI at0)), (3, .ref 188)]) (st' := [.int (nI 1)]) (M' := M_141) rfl rfl rfl rfl ?_
      refine N_if_ne_t (b := 1) d_Cu_mapHalf_193 (tgt := 207) rfl (by omega) (by omega) ?_
      refine T_aload_n (v := .ref 77) d_Cu_mapHalf_207 rfl (Or.inr ⟨_, rfl⟩) ?_
      have h_144 := (e_141 77 (by decide)).trans (h_140)
      refine T_getfield (v := .ref 96) d_Cu_mapHalf_208 fg_Cu_43 h_144 rfl ?_
      refine T_aload_n (v := .ref 77) d_Cu_mapHalf_211 rfl (Or.inr ⟨_, rfl⟩) ?_
      refine T_getfield (v := .ref 101) d_Cu_mapHalf_212 fg_Cu_58 h_144 rfl ?_
      have p_145 := (RV.kp ((RV.kp ((RV.kp ((RV.kp ((RV.kp ((RV.kp (p_30) (Ex.kp e_32) (by decide))) (Ex.kp e_36) (by decide))) k_38 (by decide))) (Ex.kp e_51) (by decide))) (Ex.kp e_139) (by decide))) (Ex.kp e_141) (by decide))
      have p_147 := (RV.kp ((RV.kp (v_51) (Ex.kp e_139) (by decide))) (Ex.kp e_141) (by decide))
      refine T_vcopy d_Cu_mapHalf_215 (jw_Fi_copy.jo (by decide)) lm_Cu_137 (Nat.le_of_ble_eq_true rfl) (by decide) (by decide) (by decide) (Rv.rq p_147) p_145 (fun M_146 v_146 e_146 => ?_)
      refine T_aload_n (v := .ref 77) d_Cu_mapHalf_218 rfl (Or.inr ⟨_, rfl⟩) ?_
      have h_148 := (e_146 77 (by decide)).trans (h_144)
      refine T_getfield (v := .ref 101) d_Cu_mapHalf_219 fg_Cu_58 h_148 rfl ?_
      refine T_aload_n (v := .ref 77) d_Cu_mapHalf_222 rfl (Or.inr ⟨_, rfl⟩) ?_
      refine T_getfield (v := .ref 101) d_Cu_mapHalf_223 fg_Cu_58 h_148 rfl ?_
      refine T_getstatic (q := ("PasswordGate$Field", "ONE", "[J", .ref 3)) d_Cu_mapHalf_226 (List.mem_of_getElem? (i := 3) rfl) gs_Cu_103 (show 3 < K0 by decide) ?_
      have p_149 := (RV.kp (p_145) (Ex.kp e_146) (by decide))
      have p_150 := (RV.kp ((RV.kp ((RV.kp ((RV.kp (p_50) (Ex.kp e_51) (by decide))) (Ex.kp e_139) (by decide))) (Ex.kp e_141) (by decide))) (Ex.kp e_146) (by decide))
      refine T_vsub d_Cu_mapHalf_229 (jw_Fi_subtract.jo (by decide)) lm_Cu_70 (Nat.le_of_ble_eq_true rfl) (by decide) (by decide) (by decide) (Rv.rq p_149) p_149 p_150 (by decide) (fun M_151 v_151 e_151 => ?_)
      obtain ⟨x_151, hx_151⟩ : ∃ z : Int, z = (x_8 - cv_3) := ⟨_, rfl⟩
      rw [← hx_151] at v_151
      refine T_aload_n (v := .ref 77) d_Cu_mapHalf_232 rfl (Or.inr ⟨_, rfl⟩) ?_
      have h_152 := (e_151 77 (by decide)).trans (h_148)
      refine T_getfield (v := .ref 96) d_Cu_mapHalf_233 fg_Cu_43 h_152 rfl ?_
      refine T_aload_n (v := .ref 77) d_Cu_mapHalf_236 rfl (Or.inr ⟨_, rfl⟩) ?_
      refine T_getfield (v := .ref 96) d_Cu_mapHalf_237 fg_Cu_43 h_152 rfl ?_
      refine T_aload_n (v := .ref 77) d_Cu_mapHalf_240 rfl (Or.inr ⟨_, rfl⟩) ?_
      refine T_getfield (v := .ref 101) d_Cu_mapHalf_241 fg_Cu_58 h_152 rfl ?_
      have p_153 := (RV.kp (v_146) (Ex.kp e_151) (by decide))
      refine T_vmul d_Cu_mapHalf_244 (jw_Fi_multiply.jo (by decide)) lm_Cu_74 (Nat.le_of_ble_eq_true rfl) (by decide) (by decide) (by decide) (Rv.rq p_153) p_153 v_151 (by decide) (fun M_154 v_154 e_154 => ?_)
      obtain ⟨x_154, hx_154⟩ : ∃ z : Int, z = (x_8 * x_151) := ⟨_, rfl⟩
      rw [← hx_154] at v_154
      refine T_aload_n (v := .ref 77) d_Cu_mapHalf_247 rfl (Or.inr ⟨_, rfl⟩) ?_
      have h_155 := (e_154 77 (by decide)).trans (h_152)
      refine T_getfield (v := .ref 96) d_Cu_mapHalf_248 fg_Cu_43 h_155 rfl ?_
      refine T_aload_n (v := .ref 77) d_Cu_mapHalf_251 rfl (Or.inr ⟨_, rfl⟩) ?_
      refine T_getfield (v := .ref 96) d_Cu_mapHalf_252 fg_Cu_43 h_155 rfl ?_
      refine T_getstatic (q := ("PasswordGate$Curve", "LESS_ONE_SQUARED", "[J", .ref 6)) d_Cu_mapHalf_255 (List.mem_of_getElem? (i := 6) rfl) gs_Cu_174 (show 6 < K0 by decide) ?_
      have c_156 : RV M 6 cv_6 1 := ⟨_, hK0 6 (by decide), vt_6⟩
      have p_157 := (RV.kp ((RV.kp ((RV.kp ((RV.kp ((RV.kp ((RV.kp ((RV.kp ((RV.kp ((RV.kp ((RV.kp ((RV.kp ((RV.kp ((RV.kp ((RV.kp ((RV.kp ((RV.kp ((RV.kp (c_156) (Ex.kp e_1) (by decide))) (Ex.kp e_3) (by decide))) (Ex.kp e_8) (by decide))) (Ex.kp e_12) (by decide))) (Ex.kp e_17) (by decide))) (Ex.kp e_22) (by decide))) (Ex.kp e_26) (by decide))) (Ex.kp e_28) (by decide))) (Ex.kp e_32) (by decide))) (Ex.kp e_36) (by decide))) k_38 (by decide))) (Ex.kp e_51) (by decide))) (Ex.kp e_139) (by decide))) (Ex.kp e_141) (by decide))) (Ex.kp e_146) (by decide))) (Ex.kp e_151) (by decide))) (Ex.kp e_154) (by decide))
      refine T_vmul d_Cu_mapHalf_258 (jw_Fi_multiply.jo (by decide)) lm_Cu_74 (Nat.le_of_ble_eq_true rfl) (by decide) (by decide) (by decide) (Rv.rq v_154) v_154 p_157 (by decide) (fun M_158 v_158 e_158 => ?_)
      obtain ⟨x_158, hx_158⟩ : ∃ z : Int, z = (x_154 * cv_6) := ⟨_, rfl⟩
      rw [← hx_158] at v_158
      refine T_aload_n (v := .ref 77) d_Cu_mapHalf_261 rfl (Or.inr ⟨_, rfl⟩) ?_
      have h_159 := (e_158 77 (by decide)).trans (h_155)
      refine T_getfield (v := .ref 96) d_Cu_mapHalf_262 fg_Cu_43 h_159 rfl ?_
      refine T_aload_n (v := .ref 77) d_Cu_mapHalf_265 rfl (Or.inr ⟨_, rfl⟩) ?_
      refine T_getfield (v := .ref 96) d_Cu_mapHalf_266 fg_Cu_43 h_159 rfl ?_
      refine T_aload_n (v := .ref 77) d_Cu_mapHalf_269 rfl (Or.inr ⟨_, rfl⟩) ?_
      refine T_getfield (v := .ref 95) d_Cu_mapHalf_270 fg_Cu_40 h_159 rfl ?_
      have p_160 := (RV.kp ((RV.kp ((RV.kp ((RV.kp ((RV.kp ((RV.kp ((RV.kp ((RV.kp (v_36) k_38 (by decide))) (Ex.kp e_51) (by decide))) (Ex.kp e_139) (by decide))) (Ex.kp e_141) (by decide))) (Ex.kp e_146) (by decide))) (Ex.kp e_151) (by decide))) (Ex.kp e_154) (by decide))) (Ex.kp e_158) (by decide))
      refine T_vsub d_Cu_mapHalf_273 (jw_Fi_subtract.jo (by decide)) lm_Cu_70 (Nat.le_of_ble_eq_true rfl) (by decide) (by decide) (by decide) (Rv.rq v_158) v_158 p_160 (by decide) (fun M_161 v_161 e_161 => ?_)
      obtain ⟨x_161, hx_161⟩ : ∃ z : Int, z = (x_158 - x_36) := ⟨_, rfl⟩
      rw [← hx_161] at v_161
      refine T_aload_n (v := .ref 77) d_Cu_mapHalf_276 rfl (Or.inr ⟨_, rfl⟩) ?_
      have h_162 := (e_161 77 (by decide)).trans (h_159)
      refine T_getfield (v := .ref 94) d_Cu_mapHalf_277 fg_Cu_36 h_162 rfl ?_
      refine T_aload_n (v := .ref 77) d_Cu_mapHalf_280 rfl (Or.inr ⟨_, rfl⟩) ?_
      refine T_getfield (v := .ref 102) d_Cu_mapHalf_281 fg_Cu_61 h_162 rfl ?_
      refine T_aload_n (v := .ref 77) d_Cu_mapHalf_284 rfl (Or.inr ⟨_, rfl⟩) ?_
      refine T_getfield (v := .ref 95) d_Cu_mapHalf_285 fg_Cu_40 h_162 rfl ?_
      have p_163 := (RV.kp ((RV.kp ((RV.kp ((RV.kp ((RV.kp ((RV.kp (v_139) (Ex.kp e_141) (by decide))) (Ex.kp e_146) (by decide))) (Ex.kp e_151) (by decide))) (Ex.kp e_154) (by decide))) (Ex.kp e_158) (by decide))) (Ex.kp e_161) (by decide))
      have p_164 := (RV.kp (p_160) (Ex.kp e_161) (by decide))
      have p_166 := (RV.kp ((RV.kp ((RV.kp ((RV.kp ((RV.kp ((RV.kp ((RV.kp ((RV.kp ((RV.kp (p_39) k_38 (by decide))) (Ex.kp e_51) (by decide))) (Ex.kp e_139) (by decide))) (Ex.kp e_141) (by decide))) (Ex.kp e_146) (by decide))) (Ex.kp e_151) (by decide))) (Ex.kp e_154) (by decide))) (Ex.kp e_158) (by decide))) (Ex.kp e_161) (by decide))
      refine T_vmul d_Cu_mapHalf_288 (jw_Fi_multiply.jo (by decide)) lm_Cu_74 (Nat.le_of_ble_eq_true rfl) (by decide) (by decide) (by decide) (Rv.rq p_166) p_163 p_164 (by decide) (fun M_165 v_165 e_165 => ?_)
      obtain ⟨x_166, hx_166⟩ : ∃ z : Int, z = (x_139 * x_36) := ⟨_, rfl⟩
      rw [← hx_166] at v_165
      refine T_aload_n (v := .ref 77) d_Cu_mapHalf_291 rfl (Or.inr ⟨_, rfl⟩) ?_
      have h_167 := (e_165 77 (by decide)).trans (h_162)
      refine T_getfield (v := .ref 94) d_Cu_mapHalf_292 fg_Cu_36 h_167 rfl ?_
      refine T_aload_n (v := .ref 77) d_Cu_mapHalf_295 rfl (Or.inr ⟨_, rfl⟩) ?_
      refine T_getfield (v := .ref 94) d_Cu_mapHalf_296 fg_Cu_36 h_167 rfl ?_
      refine T_aload_n (v := .ref 77) d_Cu_mapHalf_299 rfl (Or.inr ⟨_, rfl⟩) ?_
      refine T_getfield (v := .ref 94) d_Cu_mapHalf_300 fg_Cu_36 h_167 rfl ?_
      refine T_vadd d_Cu_mapHalf_303 (jw_Fi_add.jo (by decide)) lm_Cu_77 (Nat.le_of_ble_eq_true rfl) (by decide) (by decide) (by decide) (Rv.rq v_165) v_165 v_165 (by decide) (fun M_168 v_168 e_168 => ?_)
      obtain ⟨x_168, hx_168⟩ : ∃ z : Int, z = (x_166 + x_166) := ⟨_, rfl⟩
      rw [← hx_168] at v_168
      refine T_aload_n (v := .ref 77) d_Cu_mapHalf_306 rfl (Or.inr ⟨_, rfl⟩) ?_
      have h_169 := (e_168 77 (by decide)).trans (h_167)
      refine T_getfield (v := .ref 95) d_Cu_mapHalf_307 fg_Cu_40 h_169 rfl ?_
      refine T_aload_n (v := .ref 77) d_Cu_mapHalf_310 rfl (Or.inr ⟨_, rfl⟩) ?_
      refine T_getfield (v := .ref 96) d_Cu_mapHalf_311 fg_Cu_43 h_169 rfl ?_
      refine T_getstatic (q := ("PasswordGate$Curve", "G", "[J", .ref 7)) d_Cu_mapHalf_314 (List.mem_of_getElem? (i := 7) rfl) gs_Cu_177 (show 7 < K0 by decide) ?_
      have p_170 := (RV.kp ((RV.kp (v_161) (Ex.kp e_165) (by decide))) (Ex.kp e_168) (by decide))
      have c_171 : RV M 7 cv_7 1 := ⟨_, hK0 7 (by decide), vt_7⟩
      have p_172 := (RV.kp ((RV.kp ((RV.kp ((RV.kp ((RV.kp ((RV.kp ((RV.kp ((RV.kp ((RV.kp ((RV.kp ((RV.kp ((RV.kp ((RV.kp ((RV.kp ((RV.kp ((RV.kp ((RV.kp ((RV.kp ((RV.kp ((RV.kp ((RV.kp (c_171) (Ex.kp e_1) (by decide))) (Ex.kp e_3) (by decide))) (Ex.kp e_8) (by decide))) (Ex.kp e_12) (by decide))) (Ex.kp e_17) (by decide))) (Ex.kp e_22) (by decide))) (Ex.kp e_26) (by decide))) (Ex.kp e_28) (by decide))) (Ex.kp e_32) (by decide))) (Ex.kp e_36) (by decide))) k_38 (by decide))) (Ex.kp e_51) (by decide))) (Ex.kp e_139) (by decide))) (Ex.kp e_141) (by decide))) (Ex.kp e_146) (by decide))) (Ex.kp e_151) (by decide))) (Ex.kp e_154) (by decide))) (Ex.kp e_158) (by decide))) (Ex.kp e_161) (by decide))) (Ex.kp e_165) (by decide))) (Ex.kp e_168) (by decide))
      have p_174 := (RV.kp ((RV.kp (p_164) (Ex.kp e_165) (by decide))) (Ex.kp e_168) (by decide))
      refine T_vmul d_Cu_mapHalf_317 (jw_Fi_multiply.jo (by decide)) lm_Cu_74 (Nat.le_of_ble_eq_true rfl) (by decide) (by decide) (by decide) (Rv.rq p_174) p_170 p_172 (by decide) (fun M_173 v_173 e_173 => ?_)
      obtain ⟨x_174, hx_174⟩ : ∃ z : Int, z = (x_161 * cv_7) := ⟨_, rfl⟩
      rw [← hx_174] at v_173
      refine T_aload_n (v := .ref 77) d_Cu_mapHalf_320 rfl (Or.inr ⟨_, rfl⟩) ?_
      have h_175 := (e_173 77 (by decide)).trans (h_169)
      refine T_getfield (v := .ref 102) d_Cu_mapHalf_321 fg_Cu_61 h_175 rfl ?_
      refine T_aload_n (v := .ref 77) d_Cu_mapHalf_324 rfl (Or.inr ⟨_, rfl⟩) ?_
      refine T_getfield (v := .ref 102) d_Cu_mapHalf_325 fg_Cu_61 h_175 rfl ?_
      refine T_iconst (v := nI 1) d_Cu_mapHalf_328 (by decide) ?_
      have p_176 := (RV.kp ((RV.kp ((RV.kp (p_163) (Ex.kp e_165) (by decide))) (Ex.kp e_168) (by decide))) (Ex.kp e_173) (by decide))
      refine T_vsq1 d_Cu_mapHalf_329 (jw_Fi_square.jo (by decide)) lm_Cu_89 (Nat.le_of_ble_eq_true rfl) (by decide) (by decide) (by decide) (Rv.rq p_176) p_176 (by decide) (fun M_177 v_177 e_177 => ?_)
      obtain ⟨x_177, hx_177⟩ : ∃ z : Int, z = (x_139 * x_139) := ⟨_, rfl⟩
      rw [← hx_177] at v_177
      refine T_aload_n (v := .ref 77) d_Cu_mapHalf_332 rfl (Or.inr ⟨_, rfl⟩) ?_
      have h_178 := (e_177 77 (by decide)).trans (h_175)
      refine T_getfield (v := .ref 96) d_Cu_mapHalf_333 fg_Cu_43 h_178 rfl ?_
      refine T_getstatic (q := ("PasswordGate$Field", "ONE", "[J", .ref 3)) d_Cu_mapHalf_336 (List.mem_of_getElem? (i := 3) rfl) gs_Cu_103 (show 3 < K0 by decide) ?_
      refine T_aload_n (v := .ref 77) d_Cu_mapHalf_339 rfl (Or.inr ⟨_, rfl⟩) ?_
      refine T_getfield (v := .ref 102) d_Cu_mapHalf_340 fg_Cu_61 h_178 rfl ?_
      have p_179 := (RV.kp ((RV.kp ((RV.kp ((RV.kp ((RV.kp ((RV.kp ((RV.kp ((RV.kp (p_150) (Ex.kp e_151) (by decide))) (Ex.kp e_154) (by decide))) (Ex.kp e_158) (by decide))) (Ex.kp e_161) (by decide))) (Ex.kp e_165) (by decide))) (Ex.kp e_168) (by decide))) (Ex.kp e_173) (by decide))) (Ex.kp e_177) (by decide))
      have p_181 := (RV.kp ((RV.kp (p_170) (Ex.kp e_173) (by decide))) (Ex.kp e_177) (by decide))
      refine T_vsub d_Cu_mapHalf_343 (jw_Fi_subtract.jo (by decide)) lm_Cu_70 (Nat.le_of_ble_eq_true rfl) (by decide) (by decide) (by decide) (Rv.rq p_181) p_179 v_177 (by decide) (fun M_180 v_180 e_180 => ?_)
      obtain ⟨x_181, hx_181⟩ : ∃ z : Int, z = (cv_3 - x_177) := ⟨_, rfl⟩
      rw [← hx_181] at v_180
      refine T_aload_n (v := .ref 77) d_Cu_mapHalf_346 rfl (Or.inr ⟨_, rfl⟩) ?_
      have h_182 := (e_180 77 (by decide)).trans (h_178)
      refine T_getfield (v := .ref 102) d_Cu_mapHalf_347 fg_Cu_61 h_182 rfl ?_
      refine T_getstatic (q := ("PasswordGate$Field", "ONE", "[J", .ref 3)) d_Cu_mapHalf_350 (List.mem_of_getElem? (i := 3) rfl) gs_Cu_103 (show 3 < K0 by decide) ?_
      refine T_aload_n (v := .ref 77) d_Cu_mapHalf_353 rfl (Or.inr ⟨_, rfl⟩) ?_
      refine T_getfield (v := .ref 102) d_Cu_mapHalf_354 fg_Cu_61 h_182 rfl ?_
      have p_183 := (RV.kp (p_179) (Ex.kp e_180) (by decide))
      have p_184 := (RV.kp (v_177) (Ex.kp e_180) (by decide))
      refine T_vadd d_Cu_mapHalf_357 (jw_Fi_add.jo (by decide)) lm_Cu_77 (Nat.le_of_ble_eq_true rfl) (by decide) (by decide) (by decide) (Rv.rq p_184) p_183 p_184 (by decide) (fun M_185 v_185 e_185 => ?_)
      obtain ⟨x_185, hx_185⟩ : ∃ z : Int, z = (cv_3 + x_177) := ⟨_, rfl⟩
      rw [← hx_185] at v_185
      refine T_aload_n (v := .ref 188) d_Cu_mapHalf_360 rfl (Or.inr ⟨_, rfl⟩) ?_
      have h_186 := (e_185 188 (by decide)).trans ((e_180 188 (by decide)).trans ((e_177 188 (by decide)).trans ((e_173 188 (by decide)).trans ((e_168 188 (by decide)).trans ((e_165 188 (by decide)).trans ((e_161 188 (by decide)).trans ((e_158 188 (by decide)).trans ((e_154 188 (by decide)).trans ((e_151 188 (by decide)).trans ((e_146 188 (by decide)).trans ((e_141 188 (by decide)).trans ((e_139 188 (by decide)).trans ((e_51 188 (by decide)).trans ((k_38 188 (by decide)).trans ((e_36 188 (by decide)).trans ((e_32 188 (by decide)).trans ((e_28 188 (by decide)).trans ((e_26 188 (by decide)).trans ((e_22 188 (by decide)).trans ((e_17 188 (by decide)).trans ((e_12 188 (by decide)).trans ((e_8 188 (by decide)).trans ((e_3 188 (by decide)).trans ((e_1 188 (by decide)).trans (t0)))))))))))))))))))))))))
      refine T_getfield (v := .ref 189) d_Cu_mapHalf_361 fg_Cu_67 h_186 rfl ?_
      refine T_aload_n (v := .ref 77) d_Cu_mapHalf_364 rfl (Or.inr ⟨_, rfl⟩) ?_
      have h_187 := (e_185 77 (by decide)).trans (h_182)
      refine T_getfield (v := .ref 94) d_Cu_mapHalf_365 fg_Cu_36 h_187 rfl ?_
      refine T_aload_n (v := .ref 77) d_Cu_mapHalf_368 rfl (Or.inr ⟨_, rfl⟩) ?_
      refine T_getfield (v := .ref 102) d_Cu_mapHalf_369 fg_Cu_61 h_187 rfl ?_
      have p_188 := (RV.kp ((RV.kp ((RV.kp ((RV.kp (v_168) (Ex.kp e_173) (by decide))) (Ex.kp e_177) (by decide))) (Ex.kp e_180) (by decide))) (Ex.kp e_185) (by decide))
      have p_190 := (RQ.kp ((RQ.kp ((RQ.kp ((RQ.kp ((RQ.kp ((RQ.kp ((RQ.kp ((RQ.kp ((RQ.kp ((RQ.kp ((RQ.kp ((RQ.kp ((RQ.kp ((RQ.kp ((RQ.kp ((RQ.kp ((RQ.kp ((RQ.kp ((RQ.kp ((RQ.kp ((RQ.kp ((RQ.kp ((RQ.kp ((RQ.kp ((RQ.kp (t1) (Ex.kp e_1) (by decide))) (Ex.kp e_3) (by decide))) (Ex.kp e_8) (by decide))) (Ex.kp e_12) (by decide))) (Ex.kp e_17) (by decide))) (Ex.kp e_22) (by decide))) (Ex.kp e_26) (by decide))) (Ex.kp e_28) (by decide))) (Ex.kp e_32) (by decide))) (Ex.kp e_36) (by decide))) k_38 (by decide))) (Ex.kp e_51) (by decide))) (Ex.kp e_139) (by decide))) (Ex.kp e_141) (by decide))) (Ex.kp e_146) (by decide))) (Ex.kp e_151) (by decide))) (Ex.kp e_154) (by decide))) (Ex.kp e_158) (by decide))) (Ex.kp e_161) (by decide))) (Ex.kp e_165) (by decide))) (Ex.kp e_168) (by decide))) (Ex.kp e_173) (by decide))) (Ex.kp e_177) (by decide))) (Ex.kp e_180) (by decide))) (Ex.kp e_185) (by decide))
      refine T_vmul d_Cu_mapHalf_372 (jw_Fi_multiply.jo (by decide)) lm_Cu_74 (Nat.le_of_ble_eq_true rfl) (by decide) (by decide) (by decide) p_190 p_188 v_185 (by decide) (fun M_189 v_189 e_189 => ?_)
      obtain ⟨x_190, hx_190⟩ : ∃ z : Int, z = (x_168 * x_185) := ⟨_, rfl⟩
      rw [← hx_190] at v_189
      refine T_aload_n (v := .ref 188) d_Cu_mapHalf_375 rfl (Or.inr ⟨_, rfl⟩) ?_
      have h_191 := (e_189 188 (by decide)).trans (h_186)
      refine T_getfield (v := .ref 190) d_Cu_mapHalf_376 fg_Cu_64 h_191 rfl ?_
      refine T_aload_n (v := .ref 77) d_Cu_mapHalf_379 rfl (Or.inr ⟨_, rfl⟩) ?_
      have h_192 := (e_189 77 (by decide)).trans (h_187)
      refine T_getfield (v := .ref 96) d_Cu_mapHalf_380 fg_Cu_43 h_192 rfl ?_
      refine T_aload_n (v := .ref 77) d_Cu_mapHalf_383 rfl (Or.inr ⟨_, rfl⟩) ?_
      refine T_getfield (v := .ref 95) d_Cu_mapHalf_384 fg_Cu_40 h_192 rfl ?_
      have p_193 := (RV.kp ((RV.kp (v_180) (Ex.kp e_185) (by decide))) (Ex.kp e_189) (by decide))
      have p_194 := (RV.kp ((RV.kp ((RV.kp ((RV.kp (v_173) (Ex.kp e_177) (by decide))) (Ex.kp e_180) (by decide))) (Ex.kp e_185) (by decide))) (Ex.kp e_189) (by decide))
      have p_196 := (RQ.kp ((RQ.kp ((RQ.kp ((RQ.kp ((RQ.kp ((RQ.kp ((RQ.kp ((RQ.kp ((RQ.kp ((RQ.kp ((RQ.kp ((RQ.kp ((RQ.kp ((RQ.kp ((RQ.kp ((RQ.kp ((RQ.kp ((RQ.kp ((RQ.kp ((RQ.kp ((RQ.kp ((RQ.kp ((RQ.kp ((RQ.kp ((RQ.kp ((RQ.kp (t2) (Ex.kp e_1) (by decide))) (Ex.kp e_3) (by decide))) (Ex.kp e_8) (by decide))) (Ex.kp e_12) (by decide))) (Ex.kp e_17) (by decide))) (Ex.kp e_22) (by decide))) (Ex.kp e_26) (by decide))) (Ex.kp e_28) (by decide))) (Ex.kp e_32) (by decide))) (Ex.kp e_36) (by decide))) k_38 (by decide))) (Ex.kp e_51) (by decide))) (Ex.kp e_139) (by decide))) (Ex.kp e_141) (by decide))) (Ex.kp e_146) (by decide))) (Ex.kp e_151) (by decide))) (Ex.kp e_154) (by decide))) (Ex.kp e_158) (by decide))) (Ex.kp e_161) (by decide))) (Ex.kp e_165) (by decide))) (Ex.kp e_168) (by decide))) (Ex.kp e_173) (by decide))) (Ex.kp e_177) (by decide))) (Ex.kp e_180) (by decide))) (Ex.kp e_185) (by decide))) (Ex.kp e_189) (by decide))
      refine T_vmul d_Cu_mapHalf_387 (jw_Fi_multiply.jo (by decide)) lm_Cu_74 (Nat.le_of_ble_eq_true rfl) (by decide) (by decide) (by decide) p_196 p_193 p_194 (by decide) (fun M_195 v_195 e_195 => ?_)
      obtain ⟨x_196, hx_196⟩ : ∃ z : Int, z = (x_181 * x_174) := ⟨_, rfl⟩
      rw [← hx_196] at v_195
      refine T_aload_n (v := .ref 188) d_Cu_mapHalf_390 rfl (Or.inr ⟨_, rfl⟩) ?_
      have h_197 := (e_195 188 (by decide)).trans (h_191)
      refine T_getfield (v := .ref 191) d_Cu_mapHalf_391 fg_Cu_86 h_197 rfl ?_
      refine T_aload_n (v := .ref 77) d_Cu_mapHalf_394 rfl (Or.inr ⟨_, rfl⟩) ?_
      have h_198 := (e_195 77 (by decide)).trans (h_192)
      refine T_getfield (v := .ref 95) d_Cu_mapHalf_395 fg_Cu_40 h_198 rfl ?_
      refine T_aload_n (v := .ref 77) d_Cu_mapHalf_398 rfl (Or.inr ⟨_, rfl⟩) ?_
      refine T_getfield (v := .ref 102) d_Cu_mapHalf_399 fg_Cu_61 h_198 rfl ?_
      have p_199 := (RV.kp (p_194) (Ex.kp e_195) (by decide))
      have p_200 := (RV.kp ((RV.kp (v_185) (Ex.kp e_189) (by decide))) (Ex.kp e_195) (by decide))
      have p_202 := (RQ.kp ((RQ.kp ((RQ.kp ((RQ.kp ((RQ.kp ((RQ.kp ((RQ.kp ((RQ.kp ((RQ.kp ((RQ.kp ((RQ.kp ((RQ.kp ((RQ.kp ((RQ.kp ((RQ.kp ((RQ.kp ((RQ.kp ((RQ.kp ((RQ.kp ((RQ.kp ((RQ.kp ((RQ.kp ((RQ.kp ((RQ.kp ((RQ.kp ((RQ.kp ((RQ.kp (t3) (Ex.kp e_1) (by decide))) (Ex.kp e_3) (by decide))) (Ex.kp e_8) (by decide))) (Ex.kp e_12) (by decide))) (Ex.kp e_17) (by decide))) (Ex.kp e_22) (by decide))) (Ex.kp e_26) (by decide))) (Ex.kp e_28) (by decide))) (Ex.kp e_32) (by decide))) (Ex.kp e_36) (by decide))) k_38 (by decide))) (Ex.kp e_51) (by decide))) (Ex.kp e_139) (by decide))) (Ex.kp e_141) (by decide))) (Ex.kp e_146) (by decide))) (Ex.kp e_151) (by decide))) (Ex.kp e_154) (by decide))) (Ex.kp e_158) (by decide))) (Ex.kp e_161) (by decide))) (Ex.kp e_165) (by decide))) (Ex.kp e_168) (by decide))) (Ex.kp e_173) (by decide))) (Ex.kp e_177) (by decide))) (Ex.kp e_180) (by decide))) (Ex.kp e_185) (by decide))) (Ex.kp e_189) (by decide))) (Ex.kp e_195) (by decide))
      refine T_vmul d_Cu_mapHalf_402 (jw_Fi_multiply.jo (by decide)) lm_Cu_74 (Nat.le_of_ble_eq_true rfl) (by decide) (by decide) (by decide) p_202 p_199 p_200 (by decide) (fun M_201 v_201 e_201 => ?_)
      obtain ⟨x_202, hx_202⟩ : ∃ z : Int, z = (x_174 * x_185) := ⟨_, rfl⟩
      rw [← hx_202] at v_201
      refine T_aload_n (v := .ref 188) d_Cu_mapHalf_405 rfl (Or.inr ⟨_, rfl⟩) ?_
      have h_203 := (e_201 188 (by decide)).trans (h_197)
      refine T_getfield (v := .ref 192) d_Cu_mapHalf_406 fg_Cu_80 h_203 rfl ?_
      refine T_aload_n (v := .ref 77) d_Cu_mapHalf_409 rfl (Or.inr ⟨_, rfl⟩) ?_
      have h_204 := (e_201 77 (by decide)).trans (h_198)
      refine T_getfield (v := .ref 94) d_Cu_mapHalf_410 fg_Cu_36 h_204 rfl ?_
      refine T_aload_n (v := .ref 77) d_Cu_mapHalf_413 rfl (Or.inr ⟨_, rfl⟩) ?_
      refine T_getfield (v := .ref 96) d_Cu_mapHalf_414 fg_Cu_43 h_204 rfl ?_
      have p_205 := (RV.kp ((RV.kp ((RV.kp (p_188) (Ex.kp e_189) (by decide))) (Ex.kp e_195) (by decide))) (Ex.kp e_201) (by decide))
      have p_206 := (RV.kp ((RV.kp (p_193) (Ex.kp e_195) (by decide))) (Ex.kp e_201) (by decide))
      have p_208 := (RQ.kp ((RQ.kp ((RQ.kp ((RQ.kp ((RQ.kp ((RQ.kp ((RQ.kp ((RQ.kp ((RQ.kp ((RQ.kp ((RQ.kp ((RQ.kp ((RQ.kp ((RQ.kp ((RQ.kp ((RQ.kp ((RQ.kp ((RQ.kp ((RQ.kp ((RQ.kp ((RQ.kp ((RQ.kp ((RQ.kp ((RQ.kp ((RQ.kp ((RQ.kp ((RQ.kp ((RQ.kp (t4) (Ex.kp e_1) (by decide))) (Ex.kp e_3) (by decide))) (Ex.kp e_8) (by decide))) (Ex.kp e_12) (by decide))) (Ex.kp e_17) (by decide))) (Ex.kp e_22) (by decide))) (Ex.kp e_26) (by decide))) (Ex.kp e_28) (by decide))) (Ex.kp e_32) (by decide))) (Ex.kp e_36) (by decide))) k_38 (by decide))) (Ex.kp e_51) (by decide))) (Ex.kp e_139) (by decide))) (Ex.kp e_141) (by decide))) (Ex.kp e_146) (by decide))) (Ex.kp e_151) (by decide))) (Ex.kp e_154) (by decide))) (Ex.kp e_158) (by decide))) (Ex.kp e_161) (by decide))) (Ex.kp e_165) (by decide))) (Ex.kp e_168) (by decide))) (Ex.kp e_173) (by decide))) (Ex.kp e_177) (by decide))) (Ex.kp e_180) (by decide))) (Ex.kp e_185) (by decide))) (Ex.kp e_189) (by decide))) (Ex.kp e_195) (by decide))) (Ex.kp e_201) (by decide))
      refine T_vmul d_Cu_mapHalf_417 (jw_Fi_multiply.jo (by decide)) lm_Cu_74 (Nat.le_of_ble_eq_true rfl) (by decide) (by decide) (by decide) p_208 p_205 p_206 (by decide) (fun M_207 v_207 e_207 => ?_)
      obtain ⟨x_208, hx_208⟩ : ∃ z : Int, z = (x_168 * x_181) := ⟨_, rfl⟩
      rw [← hx_208] at v_207
      have t0_ : ph x_1 = ph (nB l at0 % n255) := by rw [hx_1]
      generalize ph (nB l at0 % n255) = t at *
      have r1 : ph x_8 = t * t * fI := by rw [hx_8, ph_mul, hx_4, ph_mul, t0_, ph_I]
      generalize hr : t * t * fI = r at r1
      have uu : ph x_17 = gU_ r := by rw [hx_17, ph_mul, hx_13, ph_add, r1, ph_3, ph_4]; rfl
      have vv : ph x_36 = gV_ r := by rw [hx_36, ph_mul, hx_28, ph_neg, hx_26, ph_add, hx_23, ph_mul, hx_33, ph_add, r1, ph_3, ph_5]; rfl
      have rr_ : ph x_38 = rR (gU_ r) (gV_ r) := by rw [hx_38, ph_rt, uu, vv]
      have gi := rtG_1 x_17 x_36
      rw [uu, vv] at gi
      have gd_ : ¬ rG (gU_ r) (gV_ r) := fun c => absurd (gi.mpr c) (by omega)
      have st : ph x_139 = rR (gU_ r) (gV_ r) * t := by rw [hx_139, ph_mul, rr_, t0_]
      have ss : ph x_139 = gS_ t r := by
        unfold gS_ ab; rw [if_neg gd_, if_pos ((od_of st).mpr hb_141), st]; exact fp_nn _
      have cc : ph x_8 = gC_ t r := by rw [r1]; unfold gC_; rw [if_neg gd_]
      have nn_ : ph x_161 = gN_ t r := by rw [hx_161, ph_sub, vv, hx_158, ph_mul, hx_154, ph_mul, hx_151, ph_sub, r1, ph_3, ph_6]; unfold gN_ gC_; rw [if_neg gd_]
      have w0 : ph x_168 = (gS_ t r + gS_ t r) * gV_ r := by rw [hx_168, ph_add, hx_166, ph_mul, ss, vv]; grobner
      have w1 : ph x_174 = gN_ t r * fG := by rw [hx_174, ph_mul, nn_, ph_7]
      have w2 : ph x_181 = 1 - gS_ t r * gS_ t r := by rw [hx_181, ph_sub, hx_177, ph_mul, ss, ph_3]
      have w3 : ph x_185 = 1 + gS_ t r * gS_ t r := by rw [hx_185, ph_add, hx_177, ph_mul, ss, ph_3]
      have q0 : ph x_190 = gX_ t := by unfold gX_; rw [hr, hx_190, ph_mul, w0, w3]
      have q1 : ph x_196 = gY_ t := by unfold gY_; rw [hr, hx_196, ph_mul, w2, w1]
      have q2 : ph x_202 = gZ_ t := by unfold gZ_; rw [hr, hx_202, ph_mul, w1, w3]
      have q3 : ph x_208 = gT_ t := by unfold gT_; rw [hr, hx_208, ph_mul, w0, w2]
      have J := mPt_pj t
      rw [← q0, ← q1, ← q2, ← q3] at J
      have p_209 := (RV.kp ((RV.kp ((RV.kp (v_189) (Ex.kp e_195) (by decide))) (Ex.kp e_201) (by decide))) (Ex.kp e_207) (by decide))
      have p_210 := (RV.kp ((RV.kp (v_195) (Ex.kp e_201) (by decide))) (Ex.kp e_207) (by decide))
      have p_211 := (RV.kp (v_201) (Ex.kp e_207) (by decide))
      have p_212 := (RV.kp ((RV.kp (p_200) (Ex.kp e_201) (by decide))) (Ex.kp e_207) (by decide))
      have p_213 := (RV.kp ((RV.kp ((RV.kp ((RV.kp ((RV.kp ((RV.kp ((RV.kp ((RV.kp ((RV.kp ((RV.kp ((RV.kp ((RV.kp ((RV.kp (v_151) (Ex.kp e_154) (by decide))) (Ex.kp e_158) (by decide))) (Ex.kp e_161) (by decide))) (Ex.kp e_165) (by decide))) (Ex.kp e_168) (by decide))) (Ex.kp e_173) (by decide))) (Ex.kp e_177) (by decide))) (Ex.kp e_180) (by decide))) (Ex.kp e_185) (by decide))) (Ex.kp e_189) (by decide))) (Ex.kp e_195) (by decide))) (Ex.kp e_201) (by decide))) (Ex.kp e_207) (by decide))
      have p_214 := (RV.kp ((RV.kp ((RV.kp ((RV.kp ((RV.kp ((RV.kp ((RV.kp ((RV.kp ((RV.kp ((RV.kp ((RV.kp ((RV.kp ((RV.kp ((RV.kp ((RV.kp ((RV.kp ((RV.kp (p_138) (Ex.kp e_139) (by decide))) (Ex.kp e_141) (by decide))) (Ex.kp e_146) (by decide))) (Ex.kp e_151) (by decide))) (Ex.kp e_154) (by decide))) (Ex.kp e_158) (by decide))) (Ex.kp e_161) (by decide))) (Ex.kp e_165) (by decide))) (Ex.kp e_168) (by decide))) (Ex.kp e_173) (by decide))) (Ex.kp e_177) (by decide))) (Ex.kp e_180) (by decide))) (Ex.kp e_185) (by decide))) (Ex.kp e_189) (by decide))) (Ex.kp e_195) (by decide))) (Ex.kp e_201) (by decide))) (Ex.kp e_207) (by decide))
      have p_215 := (RQ.kp ((RQ.kp ((RQ.kp ((RQ.kp ((RQ.kp ((RQ.kp ((RQ.kp ((RQ.kp ((RQ.kp ((RQ.kp ((RQ.kp ((RQ.kp ((RQ.kp ((RQ.kp ((RQ.kp ((RQ.kp ((RQ.kp ((RQ.kp ((RQ.kp ((RQ.kp ((RQ.kp ((RQ.kp ((RQ.kp ((RQ.kp ((RQ.kp ((RQ.kp ((RQ.kp ((RQ.kp ((RQ.kp ((hcs.2.2 99 (by decide))) (Ex.kp e_1) (by decide))) (Ex.kp e_3) (by decide))) (Ex.kp e_8) (by decide))) (Ex.kp e_12) (by decide))) (Ex.kp e_17) (by decide))) (Ex.kp e_22) (by decide))) (Ex.kp e_26) (by decide))) (Ex.kp e_28) (by decide))) (Ex.kp e_32) (by decide))) (Ex.kp e_36) (by decide))) k_38 (by decide))) (Ex.kp e_51) (by decide))) (Ex.kp e_139) (by decide))) (Ex.kp e_141) (by decide))) (Ex.kp e_146) (by decide))) (Ex.kp e_151) (by decide))) (Ex.kp e_154) (by decide))) (Ex.kp e_158) (by decide))) (Ex.kp e_161) (by decide))) (Ex.kp e_165) (by decide))) (Ex.kp e_168) (by decide))) (Ex.kp e_173) (by decide))) (Ex.kp e_177) (by decide))) (Ex.kp e_180) (by decide))) (Ex.kp e_185) (by decide))) (Ex.kp e_189) (by decide))) (Ex.kp e_195) (by decide))) (Ex.kp e_201) (by decide))) (Ex.kp e_207) (by decide))
      have p_216 := (RQ.kp ((RQ.kp ((RQ.kp ((RQ.kp ((RQ.kp ((RQ.kp ((RQ.kp ((RQ.kp ((RQ.kp ((RQ.kp ((RQ.kp ((RQ.kp ((RQ.kp ((RQ.kp ((RQ.kp ((RQ.kp ((RQ.kp ((RQ.kp ((RQ.kp ((RQ.kp ((RQ.kp ((RQ.kp ((RQ.kp ((RQ.kp ((RQ.kp ((RQ.kp ((RQ.kp ((RQ.kp ((RQ.kp ((hcs.2.2 98 (by decide))) (Ex.kp e_1) (by decide))) (Ex.kp e_3) (by decide))) (Ex.kp e_8) (by decide))) (Ex.kp e_12) (by decide))) (Ex.kp e_17) (by decide))) (Ex.kp e_22) (by decide))) (Ex.kp e_26) (by decide))) (Ex.kp e_28) (by decide))) (Ex.kp e_32) (by decide))) (Ex.kp e_36) (by decide))) k_38 (by decide))) (Ex.kp e_51) (by decide))) (Ex.kp e_139) (by decide))) (Ex.kp e_141) (by decide))) (Ex.kp e_146) (by decide))) (Ex.kp e_151) (by decide))) (Ex.kp e_154) (by decide))) (Ex.kp e_158) (by decide))) (Ex.kp e_161) (by decide))) (Ex.kp e_165) (by decide))) (Ex.kp e_168) (by decide))) (Ex.kp e_173) (by decide))) (Ex.kp e_177) (by decide))) (Ex.kp e_180) (by decide))) (Ex.kp e_185) (by decide))) (Ex.kp e_189) (by decide))) (Ex.kp e_195) (by decide))) (Ex.kp e_201) (by decide))) (Ex.kp e_207) (by decide))
      have p_217 := (RQ.kp ((RQ.kp ((RQ.kp ((RQ.kp ((RQ.kp ((RQ.kp ((RQ.kp ((RQ.kp ((RQ.kp ((RQ.kp ((RQ.kp ((RQ.kp ((RQ.kp ((RQ.kp ((RQ.kp ((RQ.kp ((RQ.kp ((RQ.kp ((RQ.kp ((RQ.kp ((RQ.kp ((RQ.kp ((RQ.kp ((RQ.kp ((RQ.kp ((RQ.kp ((RQ.kp ((RQ.kp ((RQ.kp ((hcs.2.2 97 (by decide))) (Ex.kp e_1) (by decide))) (Ex.kp e_3) (by decide))) (Ex.kp e_8) (by decide))) (Ex.kp e_12) (by decide))) (Ex.kp e_17) (by decide))) (Ex.kp e_22) (by decide))) (Ex.kp e_26) (by decide))) (Ex.kp e_28) (by decide))) (Ex.kp e_32) (by decide))) (Ex.kp e_36) (by decide))) k_38 (by decide))) (Ex.kp e_51) (by decide))) (Ex.kp e_139) (by decide))) (Ex.kp e_141) (by decide))) (Ex.kp e_146) (by decide))) (Ex.kp e_151) (by decide))) (Ex.kp e_154) (by decide))) (Ex.kp e_158) (by decide))) (Ex.kp e_161) (by decide))) (Ex.kp e_165) (by decide))) (Ex.kp e_168) (by decide))) (Ex.kp e_173) (by decide))) (Ex.kp e_177) (by decide))) (Ex.kp e_180) (by decide))) (Ex.kp e_185) (by decide))) (Ex.kp e_189) (by decide))) (Ex.kp e_195) (by decide))) (Ex.kp e_201) (by decide))) (Ex.kp e_207) (by decide))
      have p_218 := (RV.kp (p_206) (Ex.kp e_207) (by decide))
      have p_219 := (RV.kp ((RV.kp (p_199) (Ex.kp e_201) (by decide))) (Ex.kp e_207) (by decide))
      have p_220 := (RV.kp (p_205) (Ex.kp e_207) (by decide))
      have p_221 := (RQ.kp ((RQ.kp ((RQ.kp ((RQ.kp ((RQ.kp ((RQ.kp ((RQ.kp ((RQ.kp ((RQ.kp ((RQ.kp ((RQ.kp ((RQ.kp ((RQ.kp ((RQ.kp ((RQ.kp ((RQ.kp ((RQ.kp ((RQ.kp (q85_38) (Ex.kp e_51) (by decide))) (Ex.kp e_139) (by decide))) (Ex.kp e_141) (by decide))) (Ex.kp e_146) (by decide))) (Ex.kp e_151) (by decide))) (Ex.kp e_154) (by decide))) (Ex.kp e_158) (by decide))) (Ex.kp e_161) (by decide))) (Ex.kp e_165) (by decide))) (Ex.kp e_168) (by decide))) (Ex.kp e_173) (by decide))) (Ex.kp e_177) (by decide))) (Ex.kp e_180) (by decide))) (Ex.kp e_185) (by decide))) (Ex.kp e_189) (by decide))) (Ex.kp e_195) (by decide))) (Ex.kp e_201) (by decide))) (Ex.kp e_207) (by decide))
      have p_222 := (RQ.kp ((RQ.kp ((RQ.kp ((RQ.kp ((RQ.kp ((RQ.kp ((RQ.kp ((RQ.kp ((RQ.kp ((RQ.kp ((RQ.kp ((RQ.kp ((RQ.kp ((RQ.kp ((RQ.kp ((RQ.kp ((RQ.kp ((RQ.kp (q84_38) (Ex.kp e_51) (by decide))) (Ex.kp e_139) (by decide))) (Ex.kp e_141) (by decide))) (Ex.kp e_146) (by decide))) (Ex.kp e_151) (by decide))) (Ex.kp e_154) (by decide))) (Ex.kp e_158) (by decide))) (Ex.kp e_161) (by decide))) (Ex.kp e_165) (by decide))) (Ex.kp e_168) (by decide))) (Ex.kp e_173) (by decide))) (Ex.kp e_177) (by decide))) (Ex.kp e_180) (by decide))) (Ex.kp e_185) (by decide))) (Ex.kp e_189) (by decide))) (Ex.kp e_195) (by decide))) (Ex.kp e_201) (by decide))) (Ex.kp e_207) (by decide))
      have p_223 := (RQ.kp ((RQ.kp ((RQ.kp ((RQ.kp ((RQ.kp ((RQ.kp ((RQ.kp ((RQ.kp ((RQ.kp ((RQ.kp ((RQ.kp ((RQ.kp ((RQ.kp ((RQ.kp ((RQ.kp ((RQ.kp ((RQ.kp ((RQ.kp (q83_38) (Ex.kp e_51) (by decide))) (Ex.kp e_139) (by decide))) (Ex.kp e_141) (by decide))) (Ex.kp e_146) (by decide))) (Ex.kp e_151) (by decide))) (Ex.kp e_154) (by decide))) (Ex.kp e_158) (by decide))) (Ex.kp e_161) (by decide))) (Ex.kp e_165) (by decide))) (Ex.kp e_168) (by decide))) (Ex.kp e_173) (by decide))) (Ex.kp e_177) (by decide))) (Ex.kp e_180) (by decide))) (Ex.kp e_185) (by decide))) (Ex.kp e_189) (by decide))) (Ex.kp e_195) (by decide))) (Ex.kp e_201) (by decide))) (Ex.kp e_207) (by decide))
      have p_224 := (RQ.kp ((RQ.kp ((RQ.kp ((RQ.kp ((RQ.kp ((RQ.kp ((RQ.kp ((RQ.kp ((RQ.kp ((RQ.kp ((RQ.kp ((RQ.kp ((RQ.kp ((RQ.kp ((RQ.kp ((RQ.kp ((RQ.kp ((RQ.kp (q82_38) (Ex.kp e_51) (by decide))) (Ex.kp e_139) (by decide))) (Ex.kp e_141) (by decide))) (Ex.kp e_146) (by decide))) (Ex.kp e_151) (by decide))) (Ex.kp e_154) (by decide))) (Ex.kp e_158) (by decide))) (Ex.kp e_161) (by decide))) (Ex.kp e_165) (by decide))) (Ex.kp e_168) (by decide))) (Ex.kp e_173) (by decide))) (Ex.kp e_177) (by decide))) (Ex.kp e_180) (by decide))) (Ex.kp e_185) (by decide))) (Ex.kp e_189) (by decide))) (Ex.kp e_195) (by decide))) (Ex.kp e_201) (by decide))) (Ex.kp e_207) (by decide))
      have p_225 := (RQ.kp ((RQ.kp ((RQ.kp ((RQ.kp ((RQ.kp ((RQ.kp ((RQ.kp ((RQ.kp ((RQ.kp ((RQ.kp ((RQ.kp ((RQ.kp ((RQ.kp ((RQ.kp ((RQ.kp ((RQ.kp ((RQ.kp ((RQ.kp (q81_38) (Ex.kp e_51) (by decide))) (Ex.kp e_139) (by decide))) (Ex.kp e_141) (by decide))) (Ex.kp e_146) (by decide))) (Ex.kp e_151) (by decide))) (Ex.kp e_154) (by decide))) (Ex.kp e_158) (by decide))) (Ex.kp e_161) (by decide))) (Ex.kp e_165) (by decide))) (Ex.kp e_168) (by decide))) (Ex.kp e_173) (by decide))) (Ex.kp e_177) (by decide))) (Ex.kp e_180) (by decide))) (Ex.kp e_185) (by decide))) (Ex.kp e_189) (by decide))) (Ex.kp e_195) (by decide))) (Ex.kp e_201) (by decide))) (Ex.kp e_207) (by decide))
      have p_226 := (RQ.kp ((RQ.kp ((RQ.kp ((RQ.kp ((RQ.kp ((RQ.kp ((RQ.kp ((RQ.kp ((RQ.kp ((RQ.kp ((RQ.kp ((RQ.kp ((RQ.kp ((RQ.kp ((RQ.kp ((RQ.kp ((RQ.kp ((RQ.kp (q80_38) (Ex.kp e_51) (by decide))) (Ex.kp e_139) (by decide))) (Ex.kp e_141) (by decide))) (Ex.kp e_146) (by decide))) (Ex.kp e_151) (by decide))) (Ex.kp e_154) (by decide))) (Ex.kp e_158) (by decide))) (Ex.kp e_161) (by decide))) (Ex.kp e_165) (by decide))) (Ex.kp e_168) (by decide))) (Ex.kp e_173) (by decide))) (Ex.kp e_177) (by decide))) (Ex.kp e_180) (by decide))) (Ex.kp e_185) (by decide))) (Ex.kp e_189) (by decide))) (Ex.kp e_195) (by decide))) (Ex.kp e_201) (by decide))) (Ex.kp e_207) (by decide))
      have p_227 := (RQ.kp ((RQ.kp ((RQ.kp ((RQ.kp ((RQ.kp ((RQ.kp ((RQ.kp ((RQ.kp ((RQ.kp ((RQ.kp ((RQ.kp ((RQ.kp ((RQ.kp ((RQ.kp ((RQ.kp (w_141) (Ex.kp e_146) (by decide))) (Ex.kp e_151) (by decide))) (Ex.kp e_154) (by decide))) (Ex.kp e_158) (by decide))) (Ex.kp e_161) (by decide))) (Ex.kp e_165) (by decide))) (Ex.kp e_168) (by decide))) (Ex.kp e_173) (by decide))) (Ex.kp e_177) (by decide))) (Ex.kp e_180) (by decide))) (Ex.kp e_185) (by decide))) (Ex.kp e_189) (by decide))) (Ex.kp e_195) (by decide))) (Ex.kp e_201) (by decide))) (Ex.kp e_207) (by decide))
      have h_228 := (e_207 77 (by decide)).trans (h_204)
      have h_229 := (e_207 78 (by decide)).trans ((e_201 78 (by decide)).trans ((e_195 78 (by decide)).trans ((e_189 78 (by decide)).trans ((e_185 78 (by decide)).trans ((e_180 78 (by decide)).trans ((e_177 78 (by decide)).trans ((e_173 78 (by decide)).trans ((e_168 78 (by decide)).trans ((e_165 78 (by decide)).trans ((e_161 78 (by decide)).trans ((e_158 78 (by decide)).trans ((e_154 78 (by decide)).trans ((e_151 78 (by decide)).trans ((e_146 78 (by decide)).trans ((e_141 78 (by decide)).trans (h_142))))))))))))))))
      have h_230 := (e_207 188 (by decide)).trans (h_203)
      exact T_vret d_Cu_mapHalf_420 rfl (by decide) (by decide) ⟨rfl, ⟨h_228, h_229, (List.forall_mem_cons.mpr ⟨p_227, (List.forall_mem_cons.mpr ⟨p_226, (List.forall_mem_cons.mpr ⟨p_225, (List.forall_mem_cons.mpr ⟨p_224, (List.forall_mem_cons.mpr ⟨p_223, (List.forall_mem_cons.mpr ⟨p_222, (List.forall_mem_cons.mpr ⟨p_221, (List.forall_mem_cons.mpr ⟨(Rv.rq p_220), (List.forall_mem_cons.mpr ⟨(Rv.rq p_219), (List.forall_mem_cons.mpr ⟨(Rv.rq p_218), (List.forall_mem_cons.mpr ⟨p_217, (List.forall_mem_cons.mpr ⟨p_216, (List.forall_mem_cons.mpr ⟨p_215, (List.forall_mem_cons.mpr ⟨(Rv.rq p_214), (List.forall_mem_cons.mpr ⟨(Rv.rq p_213), (List.forall_mem_cons.mpr ⟨(Rv.rq p_212), (fun _ h => absurd h (List.not_mem_nil))⟩)⟩)⟩)⟩)⟩)⟩)⟩)⟩)⟩)⟩)⟩)⟩)⟩)⟩)⟩)⟩)⟩, ⟨h_230, _, _, _, _, Rv.up p_209 (by decide), p_210, p_211, v_207, J⟩, (Kp.ex (Kp.ex (Kp.ex (Kp.ex (Kp.ex (Kp.ex (Kp.ex (Kp.ex (Kp.ex (Kp.ex (Kp.ex (Kp.ex (Kp.ex (Kp.ex (Kp.ex (Kp.ex (Kp.ex (Kp.ex (Kp.tr (Kp.ex (Kp.ex (Kp.ex (Kp.ex (Kp.ex (Kp.ex (Kp.ex (Kp.ex (Kp.ex (Kp.ex (Kp.rf : Kp [79, 80, 81, 82, 83, 84, 85, 94, 95, 96, 97, 98, 99, 100, 101, 102, 189, 190, 191, 192] M M) e_1 (by decide)) e_3 (by decide)) e_8 (by decide)) e_12 (by decide)) e_17 (by decide)) e_22 (by decide)) e_26 (by decide)) e_28 (by decide)) e_32 (by decide)) e_36 (by decide)) (Kp.mono k_38 (by decide))) e_51 (by decide)) e_139 (by decide)) e_141 (by decide)) e_146 (by decide)) e_151 (by decide)) e_154 (by decide)) e_158 (by decide)) e_161 (by decide)) e_165 (by decide)) e_168 (by decide)) e_173 (by decide)) e_177 (by decide)) e_180 (by decide)) e_185 (by decide)) e_189 (by decide)) e_195 (by decide)) e_201 (by decide)) e_207 (by decide))⟩
    · rw [if_neg hb_141]
      refine T_eq (pc' := 193) (L' := [(4, .int (nI ((rtG x_17 x_36)))), (0, .ref 77), (1, .ref fr), (2, .int (nI at0)), (3, .ref 188)]) (st' := [.int (nI 0)]) (M' := M_141) rfl rfl rfl rfl ?_
      refine N_if_ne_f (b := 0) d_Cu_mapHalf_193 (tgt := 207) rfl (by omega) (by omega) ?_
      refine T_aload_n (v := .ref 77) d_Cu_mapHalf_196 rfl (Or.inr ⟨_, rfl⟩) ?_
      have h_231 := (e_141 77 (by decide)).trans (h_140)
      refine T_getfield (v := .ref 102) d_Cu_mapHalf_197 fg_Cu_61 h_231 rfl ?_
      refine T_aload_n (v := .ref 77) d_Cu_mapHalf_200 rfl (Or.inr ⟨_, rfl⟩) ?_
      refine T_getfield (v := .ref 102) d_Cu_mapHalf_201 fg_Cu_61 h_231 rfl ?_
      have p_232 := (RV.kp (v_139) (Ex.kp e_141) (by decide))
      refine T_vneg d_Cu_mapHalf_204 (jw_Fi_negate.jo (by decide)) lm_Cu_139 (Nat.le_of_ble_eq_true rfl) (by decide) (by decide) (by decide) (Rv.rq p_232) p_232 (by decide) (fun M_233 v_233 e_233 => ?_)
      obtain ⟨x_233, hx_233⟩ : ∃ z : Int, z = (-x_139) := ⟨_, rfl⟩
      rw [← hx_233] at v_233
      refine T_aload_n (v := .ref 77) d_Cu_mapHalf_207 rfl (Or.inr ⟨_, rfl⟩) ?_
      have h_234 := (e_233 77 (by decide)).trans (h_231)
      refine T_getfield (v := .ref 96) d_Cu_mapHalf_208 fg_Cu_43 h_234 rfl ?_
      refine T_aload_n (v := .ref 77) d_Cu_mapHalf_211 rfl (Or.inr ⟨_, rfl⟩) ?_
      refine T_getfield (v := .ref 101) d_Cu_mapHalf_212 fg_Cu_58 h_234 rfl ?_
      have p_235 := (RV.kp ((RV.kp ((RV.kp ((RV.kp ((RV.kp ((RV.kp ((RV.kp (p_30) (Ex.kp e_32) (by decide))) (Ex.kp e_36) (by decide))) k_38 (by decide))) (Ex.kp e_51) (by decide))) (Ex.kp e_139) (by decide))) (Ex.kp e_141) (by decide))) (Ex.kp e_233) (by decide))
      have p_237 := (RV.kp ((RV.kp ((RV.kp (v_51) (Ex.kp e_139) (by decide))) (Ex.kp e_141) (by decide))) (Ex.kp e_233) (by decide))
      refine T_vcopy d_Cu_mapHalf_215 (jw_Fi_copy.jo (by decide)) lm_Cu_137 (Nat.le_of_ble_eq_true rfl) (by decide) (by decide) (by decide) (Rv.rq p_237) p_235 (fun M_236 v_236 e_236 => ?_)
      refine T_aload_n (v := .ref 77) d_Cu_mapHalf_218 rfl (Or.inr ⟨_, rfl⟩) ?_
      have h_238 := (e_236 77 (by decide)).trans (h_234)
      refine T_getfield (v := .ref 101) d_Cu_mapHalf_219 fg_Cu_58 h_238 rfl ?_
      refine T_aload_n (v := .ref 77) d_Cu_mapHalf_222 rfl (Or.inr ⟨_, rfl⟩) ?_
      refine T_getfield (v := .ref 101) d_Cu_mapHalf_223 fg_Cu_58 h_238 rfl ?_
      refine T_getstatic (q := ("PasswordGate$Field", "ONE", "[J", .ref 3)) d_Cu_mapHalf_226 (List.mem_of_getElem? (i := 3) rfl) gs_Cu_103 (show 3 < K0 by decide) ?_
      have p_239 := (RV.kp (p_235) (Ex.kp e_236) (by decide))
      have p_240 := (RV.kp ((RV.kp ((RV.kp ((RV.kp ((RV.kp (p_50) (Ex.kp e_51) (by decide))) (Ex.kp e_139) (by decide))) (Ex.kp e_141) (by decide))) (Ex.kp e_233) (by decide))) (Ex.kp e_236) (by decide))
      refine T_vsub d_Cu_mapHalf_229 (jw_Fi_subtract.jo (by decide)) lm_Cu_70 (Nat.le_of_ble_eq_true rfl) (by decide) (by decide) (by decide) (Rv.rq p_239) p_239 p_240 (by decide) (fun M_241 v_241 e_241 => ?_)
      obtain ⟨x_241, hx_241⟩ : ∃ z : Int, z = (x_8 - cv_3) := ⟨_, rfl⟩
      rw [← hx_241] at v_241
      refine T_aload_n (v := .ref 77) d_Cu_mapHalf_232 rfl (Or.inr ⟨_, rfl⟩) ?_
      have h_242 := (e_241 77 (by decide)).trans (h_238)
      refine T_getfield (v := .ref 96) d_Cu_mapHalf_233 fg_Cu_43 h_242 rfl ?_
      refine T_aload_n (v := .ref 77) d_Cu_mapHalf_236 rfl (Or.inr ⟨_, rfl⟩) ?_
      refine T_getfield (v := .ref 96) d_Cu_mapHalf_237 fg_Cu_43 h_242 rfl ?_
      refine T_aload_n (v := .ref 77) d_Cu_mapHalf_240 rfl (Or.inr ⟨_, rfl⟩) ?_
      refine T_getfield (v := .ref 101) d_Cu_mapHalf_241 fg_Cu_58 h_242 rfl ?_
      have p_243 := (RV.kp (v_236) (Ex.kp e_241) (by decide))
      refine T_vmul d_Cu_mapHalf_244 (jw_Fi_multiply.jo (by decide)) lm_Cu_74 (Nat.le_of_ble_eq_true rfl) (by decide) (by decide) (by decide) (Rv.rq p_243) p_243 v_241 (by decide) (fun M_244 v_244 e_244 => ?_)
      obtain ⟨x_244, hx_244⟩ : ∃ z : Int, z = (x_8 * x_241) := ⟨_, rfl⟩
      rw [← hx_244] at v_244
      refine T_aload_n (v := .ref 77) d_Cu_mapHalf_247 rfl (Or.inr ⟨_, rfl⟩) ?_
      have h_245 := (e_244 77 (by decide)).trans (h_242)
      refine T_getfield (v := .ref 96) d_Cu_mapHalf_248 fg_Cu_43 h_245 rfl ?_
      refine T_aload_n (v := .ref 77) d_Cu_mapHalf_251 rfl (Or.inr ⟨_, rfl⟩) ?_
      refine T_getfield (v := .ref 96) d_Cu_mapHalf_252 fg_Cu_43 h_245 rfl ?_
      refine T_getstatic (q := ("PasswordGate$Curve", "LESS_ONE_SQUARED", "[J", .ref 6)) d_Cu_mapHalf_255 (List.mem_of_getElem? (i := 6) rfl) gs_Cu_174 (show 6 < K0 by decide) ?_
      have c_246 : RV M 6 cv_6 1 := ⟨_, hK0 6 (by decide), vt_6⟩
      have p_247 := (RV.kp ((RV.kp ((RV.kp ((RV.kp ((RV.kp ((RV.kp ((RV.kp ((RV.kp ((RV.kp ((RV.kp ((RV.kp ((RV.kp ((RV.kp ((RV.kp ((RV.kp ((RV.kp ((RV.kp ((RV.kp (c_246) (Ex.kp e_1) (by decide))) (Ex.kp e_3) (by decide))) (Ex.kp e_8) (by decide))) (Ex.kp e_12) (by decide))) (Ex.kp e_17) (by decide))) (Ex.kp e_22) (by decide))) (Ex.kp e_26) (by decide))) (Ex.kp e_28) (by decide))) (Ex.kp e_32) (by decide))) (Ex.kp e_36) (by decide))) k_38 (by decide))) (Ex.kp e_51) (by decide))) (Ex.kp e_139) (by decide))) (Ex.kp e_141) (by decide))) (Ex.kp e_233) (by decide))) (Ex.kp e_236) (by decide))) (Ex.kp e_241) (by decide))) (Ex.kp e_244) (by decide))
      refine T_vmul d_Cu_mapHalf_258 (jw_Fi_multiply.jo (by decide)) lm_Cu_74 (Nat.le_of_ble_eq_true rfl) (by decide) (by decide) (by decide) (Rv.rq v_244) v_244 p_247 (by decide) (fun M_248 v_248 e_248 => ?_)
      obtain ⟨x_248, hx_248⟩ : ∃ z : Int, z = (x_244 * cv_6) := ⟨_, rfl⟩
      rw [← hx_248] at v_248
      refine T_aload_n (v := .ref 77) d_Cu_mapHalf_261 rfl (Or.inr ⟨_, rfl⟩) ?_
      have h_249 := (e_248 77 (by decide)).trans (h_245)
      refine T_getfield (v := .ref 96) d_Cu_mapHalf_262 fg_Cu_43 h_249 rfl ?_
      refine T_aload_n (v := .ref 77) d_Cu_mapHalf_265 rfl (Or.inr ⟨_, rfl⟩) ?_
      refine T_getfield (v := .ref 96) d_Cu_mapHalf_266 fg_Cu_43 h_249 rfl ?_
      refine T_aload_n (v := .ref 77) d_Cu_mapHalf_269 rfl (Or.inr ⟨_, rfl⟩) ?_
      refine T_getfield (v := .ref 95) d_Cu_mapHalf_270 fg_Cu_40 h_249 rfl ?_
      have p_250 := (RV.kp ((RV.kp ((RV.kp ((RV.kp ((RV.kp ((RV.kp ((RV.kp ((RV.kp ((RV.kp (v_36) k_38 (by decide))) (Ex.kp e_51) (by decide))) (Ex.kp e_139) (by decide))) (Ex.kp e_141) (by decide))) (Ex.kp e_233) (by decide))) (Ex.kp e_236) (by decide))) (Ex.kp e_241) (by decide))) (Ex.kp e_244) (by decide))) (Ex.kp e_248) (by decide))
      refine T_vsub d_Cu_mapHalf_273 (jw_Fi_subtract.jo (by decide)) lm_Cu_70 (Nat.le_of_ble_eq_true rfl) (by decide) (by decide) (by decide) (Rv.rq v_248) v_248 p_250 (by decide) (fun M_251 v_251 e_251 => ?_)
      obtain ⟨x_251, hx_251⟩ : ∃ z : Int, z = (x_248 - x_36) := ⟨_, rfl⟩
      rw [← hx_251] at v_251
      refine T_aload_n (v := .ref 77) d_Cu_mapHalf_276 rfl (Or.inr ⟨_, rfl⟩) ?_
      have h_252 := (e_251 77 (by decide)).trans (h_249)
      refine T_getfield (v := .ref 94) d_Cu_mapHalf_277 fg_Cu_36 h_252 rfl ?_
      refine T_aload_n (v := .ref 77) d_Cu_mapHalf_280 rfl (Or.inr ⟨_, rfl⟩) ?_
      refine T_getfield (v := .ref 102) d_Cu_mapHalf_281 fg_Cu_61 h_252 rfl ?_
      refine T_aload_n (v := .ref 77) d_Cu_mapHalf_284 rfl (Or.inr ⟨_, rfl⟩) ?_
      refine T_getfield (v := .ref 95) d_Cu_mapHalf_285 fg_Cu_40 h_252 rfl ?_
      have p_253 := (RV.kp ((RV.kp ((RV.kp ((RV.kp ((RV.kp (v_233) (Ex.kp e_236) (by decide))) (Ex.kp e_241) (by decide))) (Ex.kp e_244) (by decide))) (Ex.kp e_248) (by decide))) (Ex.kp e_251) (by decide))
      have p_254 := (RV.kp (p_250) (Ex.kp e_251) (by decide))
      have p_256 := (RV.kp ((RV.kp ((RV.kp ((RV.kp ((RV.kp ((RV.kp ((RV.kp ((RV.kp ((RV.kp ((RV.kp (p_39) k_38 (by decide))) (Ex.kp e_51) (by decide))) (Ex.kp e_139) (by decide))) (Ex.kp e_141) (by decide))) (Ex.kp e_233) (by decide))) (Ex.kp e_236) (by decide))) (Ex.kp e_241) (by decide))) (Ex.kp e_244) (by decide))) (Ex.kp e_248) (by decide))) (Ex.kp e_251) (by decide))
      refine T_vmul d_Cu_mapHalf_288 (jw_Fi_multiply.jo (by decide)) lm_Cu_74 (Nat.le_of_ble_eq_true rfl) (by decide) (by decide) (by decide) (Rv.rq p_256) p_253 p_254 (by decide) (fun M_255 v_255 e_255 => ?_)
      obtain ⟨x_256, hx_256⟩ : ∃ z : Int, z = (x_233 * x_36) := ⟨_, rfl⟩
      rw [← hx_256] at v_255
      refine T_aload_n (v := .ref 77) d_Cu_mapHalf_291 rfl (Or.inr ⟨_, rfl⟩) ?_
      have h_257 := (e_255 77 (by decide)).trans (h_252)
      refine T_getfield (v := .ref 94) d_Cu_mapHalf_292 fg_Cu_36 h_257 rfl ?_
      refine T_aload_n (v := .ref 77) d_Cu_mapHalf_295 rfl (Or.inr ⟨_, rfl⟩) ?_
      refine T_getfield (v := .ref 94) d_Cu_mapHalf_296 fg_Cu_36 h_257 rfl ?_
      refine T_aload_n (v := .ref 77) d_Cu_mapHalf_299 rfl (Or.inr ⟨_, rfl⟩) ?_
      refine T_getfield (v := .ref 94) d_Cu_mapHalf_300 fg_Cu_36 h_257 rfl ?_
      refine T_vadd d_Cu_mapHalf_303 (jw_Fi_add.jo (by decide)) lm_Cu_77 (Nat.le_of_ble_eq_true rfl) (by decide) (by decide) (by decide) (Rv.rq v_255) v_255 v_255 (by decide) (fun M_258 v_258 e_258 => ?_)
      obtain ⟨x_258, hx_258⟩ : ∃ z : Int, z = (x_256 + x_256) := ⟨_, rfl⟩
      rw [← hx_258] at v_258
      refine T_aload_n (v := .ref 77) d_Cu_mapHalf_306 rfl (Or.inr ⟨_, rfl⟩) ?_
      have h_259 := (e_258 77 (by decide)).trans (h_257)
      refine T_getfield (v := .ref 95) d_Cu_mapHalf_307 fg_Cu_40 h_259 rfl ?_
      refine T_aload_n (v := .ref 77) d_Cu_mapHalf_310 rfl (Or.inr ⟨_, rfl⟩) ?_
      refine T_getfield (v := .ref 96) d_Cu_mapHalf_311 fg_Cu_43 h_259 rfl ?_
      refine T_getstatic (q := ("PasswordGate$Curve", "G", "[J", .ref 7)) d_Cu_mapHalf_314 (List.mem_of_getElem? (i := 7) rfl) gs_Cu_177 (show 7 < K0 by decide) ?_
      have p_260 := (RV.kp ((RV.kp (v_251) (Ex.kp e_255) (by decide))) (Ex.kp e_258) (by decide))
      have c_261 : RV M 7 cv_7 1 := ⟨_, hK0 7 (by decide), vt_7⟩
      have p_262 := (RV.kp ((RV.kp ((RV.kp ((RV.kp ((RV.kp ((RV.kp ((RV.kp ((RV.kp ((RV.kp ((RV.kp ((RV.kp ((RV.kp ((RV.kp ((RV.kp ((RV.kp ((RV.kp ((RV.kp ((RV.kp ((RV.kp ((RV.kp ((RV.kp ((RV.kp (c_261) (Ex.kp e_1) (by decide))) (Ex.kp e_3) (by decide))) (Ex.kp e_8) (by decide))) (Ex.kp e_12) (by decide))) (Ex.kp e_17) (by decide))) (Ex.kp e_22) (by decide))) (Ex.kp e_26) (by decide))) (Ex.kp e_28) (by decide))) (Ex.kp e_32) (by decide))) (Ex.kp e_36) (by decide))) k_38 (by decide))) (Ex.kp e_51) (by decide))) (Ex.kp e_139) (by decide))) (Ex.kp e_141) (by decide))) (Ex.kp e_233) (by decide))) (Ex.kp e_236) (by decide))) (Ex.kp e_241) (by decide))) (Ex.kp e_244) (by decide))) (Ex.kp e_248) (by decide))) (Ex.kp e_251) (by decide))) (Ex.kp e_255) (by decide))) (Ex.kp e_258) (by decide))
      have p_264 := (RV.kp ((RV.kp (p_254) (Ex.kp e_255) (by decide))) (Ex.kp e_258) (by decide))
      refine T_vmul d_Cu_mapHalf_317 (jw_Fi_multiply.jo (by decide)) lm_Cu_74 (Nat.le_of_ble_eq_true rfl) (by decide) (by decide) (by decide) (Rv.rq p_264) p_260 p_262 (by decide) (fun M_263 v_263 e_263 => ?_)
      obtain ⟨x_264, hx_264⟩ : ∃ z : Int, z = (x_251 * cv_7) := ⟨_, rfl⟩
      rw [← hx_264] at v_263
      refine T_aload_n (v := .ref 77) d_Cu_mapHalf_320 rfl (Or.inr ⟨_, rfl⟩) ?_
      have h_265 := (e_263 77 (by decide)).trans (h_259)
      refine T_getfield (v := .ref 102) d_Cu_mapHalf_321 fg_Cu_61 h_265 rfl ?_
      refine T_aload_n (v := .ref 77) d_Cu_mapHalf_324 rfl (Or.inr ⟨_, rfl⟩) ?_
      refine T_getfield (v := .ref 102) d_Cu_mapHalf_325 fg_Cu_61 h_265 rfl ?_
      refine T_iconst (v := nI 1) d_Cu_mapHalf_328 (by decide) ?_
      have p_266 := (RV.kp ((RV.kp ((RV.kp (p_253) (Ex.kp e_255) (by decide))) (Ex.kp e_258) (by decide))) (Ex.kp e_263) (by decide))
      refine T_vsq1 d_Cu_mapHalf_329 (jw_Fi_square.jo (by decide)) lm_Cu_89 (Nat.le_of_ble_eq_true rfl) (by decide) (by decide) (by decide) (Rv.rq p_266) p_266 (by decide) (fun M_267 v_267 e_267 => ?_)
      obtain ⟨x_267, hx_267⟩ : ∃ z : Int, z = (x_233 * x_233) := ⟨_, rfl⟩
      rw [← hx_267] at v_267
      refine T_aload_n (v := .ref 77) d_Cu_mapHalf_332 rfl (Or.inr ⟨_, rfl⟩) ?_
      have h_268 := (e_267 77 (by decide)).trans (h_265)
      refine T_getfield (v := .ref 96) d_Cu_mapHalf_333 fg_Cu_43 h_268 rfl ?_
      refine T_getstatic (q := ("PasswordGate$Field", "ONE", "[J", .ref 3)) d_Cu_mapHalf_336 (List.mem_of_getElem? (i := 3) rfl) gs_Cu_103 (show 3 < K0 by decide) ?_
      refine T_aload_n (v := .ref 77) d_Cu_mapHalf_339 rfl (Or.inr ⟨_, rfl⟩) ?_
      refine T_getfield (v := .ref 102) d_Cu_mapHalf_340 fg_Cu_61 h_268 rfl ?_
      have p_269 := (RV.kp ((RV.kp ((RV.kp ((RV.kp ((RV.kp ((RV.kp ((RV.kp ((RV.kp (p_240) (Ex.kp e_241) (by decide))) (Ex.kp e_244) (by decide))) (Ex.kp e_248) (by decide))) (Ex.kp e_251) (by decide))) (Ex.kp e_255) (by decide))) (Ex.kp e_258) (by decide))) (Ex.kp e_263) (by decide))) (Ex.kp e_267) (by decide))
      have p_271 := (RV.kp ((RV.kp (p_260) (Ex.kp e_263) (by decide))) (Ex.kp e_267) (by decide))
      refine T_vsub d_Cu_mapHalf_343 (jw_Fi_subtract.jo (by decide)) lm_Cu_70 (Nat.le_of_ble_eq_true rfl) (by decide) (by decide) (by decide) (Rv.rq p_271) p_269 v_267 (by decide) (fun M_270 v_270 e_270 => ?_)
      obtain ⟨x_271, hx_271⟩ : ∃ z : Int, z = (cv_3 - x_267) := ⟨_, rfl⟩
      rw [← hx_271] at v_270
      refine T_aload_n (v := .ref 77) d_Cu_mapHalf_346 rfl (Or.inr ⟨_, rfl⟩) ?_
      have h_272 := (e_270 77 (by decide)).trans (h_268)
      refine T_getfield (v := .ref 102) d_Cu_mapHalf_347 fg_Cu_61 h_272 rfl ?_
      refine T_getstatic (q := ("PasswordGate$Field", "ONE", "[J", .ref 3)) d_Cu_mapHalf_350 (List.mem_of_getElem? (i := 3) rfl) gs_Cu_103 (show 3 < K0 by decide) ?_
      refine T_aload_n (v := .ref 77) d_Cu_mapHalf_353 rfl (Or.inr ⟨_, rfl⟩) ?_
      refine T_getfield (v := .ref 102) d_Cu_mapHalf_354 fg_Cu_61 h_272 rfl ?_
      have p_273 := (RV.kp (p_269) (Ex.kp e_270) (by decide))
      have p_274 := (RV.kp (v_267) (Ex.kp e_270) (by decide))
      refine T_vadd d_Cu_mapHalf_357 (jw_Fi_add.jo (by decide)) lm_Cu_77 (Nat.le_of_ble_eq_true rfl) (by decide) (by decide) (by decide) (Rv.rq p_274) p_273 p_274 (by decide) (fun M_275 v_275 e_275 => ?_)
      obtain ⟨x_275, hx_275⟩ : ∃ z : Int, z = (cv_3 + x_267) := ⟨_, rfl⟩
      rw [← hx_275] at v_275
      refine T_aload_n (v := .ref 188) d_Cu_mapHalf_360 rfl (Or.inr ⟨_, rfl⟩) ?_
      have h_276 := (e_275 188 (by decide)).trans ((e_270 188 (by decide)).trans ((e_267 188 (by decide)).trans ((e_263 188 (by decide)).trans ((e_258 188 (by decide)).trans ((e_255 188 (by decide)).trans ((e_251 188 (by decide)).trans ((e_248 188 (by decide)).trans ((e_244 188 (by decide)).trans ((e_241 188 (by decide)).trans ((e_236 188 (by decide)).trans ((e_233 188 (by decide)).trans ((e_141 188 (by decide)).trans ((e_139 188 (by decide)).trans ((e_51 188 (by decide)).trans ((k_38 188 (by decide)).trans ((e_36 188 (by decide)).trans ((e_32 188 (by decide)).trans ((e_28 188 (by decide)).trans ((e_26 188 (by decide)).trans ((e_22 188 (by decide)).trans ((e_17 188 (by decide)).trans ((e_12 188 (by decide)).trans ((e_8 188 (by decide)).trans ((e_3 188 (by decide)).trans ((e_1 188 (by decide)).trans (t0))))))))))))))))))))))))))
      refine T_getfield (v := .ref 189) d_Cu_mapHalf_361 fg_Cu_67 h_276 rfl ?_
      refine T_aload_n (v := .ref 77) d_Cu_mapHalf_364 rfl (Or.inr ⟨_, rfl⟩) ?_
      have h_277 := (e_275 77 (by decide)).trans (h_272)
      refine T_getfield (v := .ref 94) d_Cu_mapHalf_365 fg_Cu_36 h_277 rfl ?_
      refine T_aload_n (v := .ref 77) d_Cu_mapHalf_368 rfl (Or.inr ⟨_, rfl⟩) ?_
      refine T_getfield (v := .ref 102) d_Cu_mapHalf_369 fg_Cu_61 h_277 rfl ?_
      have p_278 := (RV.kp ((RV.kp ((RV.kp ((RV.kp (v_258) (Ex.kp e_263) (by decide))) (Ex.kp e_267) (by decide))) (Ex.kp e_270) (by decide))) (Ex.kp e_275) (by decide))
      have p_280 := (RQ.kp ((RQ.kp ((RQ.kp ((RQ.kp ((RQ.kp ((RQ.kp ((RQ.kp ((RQ.kp ((RQ.kp ((RQ.kp ((RQ.kp ((RQ.kp ((RQ.kp ((RQ.kp ((RQ.kp ((RQ.kp ((RQ.kp ((RQ.kp ((RQ.kp ((RQ.kp ((RQ.kp ((RQ.kp ((RQ.kp ((RQ.kp ((RQ.kp ((RQ.kp (t1) (Ex.kp e_1) (by decide))) (Ex.kp e_3) (by decide))) (Ex.kp e_8) (by decide))) (Ex.kp e_12) (by decide))) (Ex.kp e_17) (by decide))) (Ex.kp e_22) (by decide))) (Ex.kp e_26) (by decide))) (Ex.kp e_28) (by decide))) (Ex.kp e_32) (by decide))) (Ex.kp e_36) (by decide))) k_38 (by decide))) (Ex.kp e_51) (by decide))) (Ex.kp e_139) (by decide))) (Ex.kp e_141) (by decide))) (Ex.kp e_233) (by decide))) (Ex.kp e_236) (by decide))) (Ex.kp e_241) (by decide))) (Ex.kp e_244) (by decide))) (Ex.kp e_248) (by decide))) (Ex.kp e_251) (by decide))) (Ex.kp e_255) (by decide))) (Ex.kp e_258) (by decide))) (Ex.kp e_263) (by decide))) (Ex.kp e_267) (by decide))) (Ex.kp e_270) (by decide))) (Ex.kp e_275) (by decide))
      refine T_vmul d_Cu_mapHalf_372 (jw_Fi_multiply.jo (by decide)) lm_Cu_74 (Nat.le_of_ble_eq_true rfl) (by decide) (by decide) (by decide) p_280 p_278 v_275 (by decide) (fun M_279 v_279 e_279 => ?_)
      obtain ⟨x_280, hx_280⟩ : ∃ z : Int, z = (x_258 * x_275) := ⟨_, rfl⟩
      rw [← hx_280] at v_279
      refine T_aload_n (v := .ref 188) d_Cu_mapHalf_375 rfl (Or.inr ⟨_, rfl⟩) ?_
      have h_281 := (e_279 188 (by decide)).trans (h_276)
      refine T_getfield (v := .ref 190) d_Cu_mapHalf_376 fg_Cu_64 h_281 rfl ?_
      refine T_aload_n (v := .ref 77) d_Cu_mapHalf_379 rfl (Or.inr ⟨_, rfl⟩) ?_
      have h_282 := (e_279 77 (by decide)).trans (h_277)
      refine T_getfield (v := .ref 96) d_Cu_mapHalf_380 fg_Cu_43 h_282 rfl ?_
      refine T_aload_n (v := .ref 77) d_Cu_mapHalf_383 rfl (Or.inr ⟨_, rfl⟩) ?_
      refine T_getfield (v := .ref 95) d_Cu_mapHalf_384 fg_Cu_40 h_282 rfl ?_
      have p_283 := (RV.kp ((RV.kp (v_270) (Ex.kp e_275) (by decide))) (Ex.kp e_279) (by decide))
      have p_284 := (RV.kp ((RV.kp ((RV.kp ((RV.kp (v_263) (Ex.kp e_267) (by decide))) (Ex.kp e_270) (by decide))) (Ex.kp e_275) (by decide))) (Ex.kp e_279) (by decide))
      have p_286 := (RQ.kp ((RQ.kp ((RQ.kp ((RQ.kp ((RQ.kp ((RQ.kp ((RQ.kp ((RQ.kp ((RQ.kp ((RQ.kp ((RQ.kp ((RQ.kp ((RQ.kp ((RQ.kp ((RQ.kp ((RQ.kp ((RQ.kp ((RQ.kp ((RQ.kp ((RQ.kp ((RQ.kp ((RQ.kp ((RQ.kp ((RQ.kp ((RQ.kp ((RQ.kp ((RQ.kp (t2) (Ex.kp e_1) (by decide))) (Ex.kp e_3) (by decide))) (Ex.kp e_8) (by decide))) (Ex.kp e_12) (by decide))) (Ex.kp e_17) (by decide))) (Ex.kp e_22) (by decide))) (Ex.kp e_26) (by decide))) (Ex.kp e_28) (by decide))) (Ex.kp e_32) (by decide))) (Ex.kp e_36) (by decide))) k_38 (by decide))) (Ex.kp e_51) (by decide))) (Ex.kp e_139) (by decide))) (Ex.kp e_141) (by decide))) (Ex.kp e_233) (by decide))) (Ex.kp e_236) (by decide))) (Ex.kp e_241) (by decide))) (Ex.kp e_244) (by decide))) (Ex.kp e_248) (by decide))) (Ex.kp e_251) (by decide))) (Ex.kp e_255) (by decide))) (Ex.kp e_258) (by decide))) (Ex.kp e_263) (by decide))) (Ex.kp e_267) (by decide))) (Ex.kp e_270) (by decide))) (Ex.kp e_275) (by decide))) (Ex.kp e_279) (by decide))
      refine T_vmul d_Cu_mapHalf_387 (jw_Fi_multiply.jo (by decide)) lm_Cu_74 (Nat.le_of_ble_eq_true rfl) (by decide) (by decide) (by decide) p_286 p_283 p_284 (by decide) (fun M_285 v_285 e_285 => ?_)
      obtain ⟨x_286, hx_286⟩ : ∃ z : Int, z = (x_271 * x_264) := ⟨_, rfl⟩
      rw [← hx_286] at v_285
      refine T_aload_n (v := .ref 188) d_Cu_mapHalf_390 rfl (Or.inr ⟨_, rfl⟩) ?_
      have h_287 := (e_285 188 (by decide)).trans (h_281)
      refine T_getfield (v := .ref 191) d_Cu_mapHalf_391 fg_Cu_86 h_287 rfl ?_
      refine T_aload_n (v := .ref 77) d_Cu_mapHalf_394 rfl (Or.inr ⟨_, rfl⟩) ?_
      have h_288 := (e_285 77 (by decide)).trans (h_282)
      refine T_getfield (v := .ref 95) d_Cu_mapHalf_395 fg_Cu_40 h_288 rfl ?_
      refine T_aload_n (v := .ref 77) d_Cu_mapHalf_398 rfl (Or.inr ⟨_, rfl⟩) ?_
      refine T_getfield (v := .ref 102) d_Cu_mapHalf_399 fg_Cu_61 h_288 rfl ?_
      have p_289 := (RV.kp (p_284) (Ex.kp e_285) (by decide))
      have p_290 := (RV.kp ((RV.kp (v_275) (Ex.kp e_279) (by decide))) (Ex.kp e_285) (by decide))
      have p_292 := (RQ.kp ((RQ.kp ((RQ.kp ((RQ.kp ((RQ.kp ((RQ.kp ((RQ.kp ((RQ.kp ((RQ.kp ((RQ.kp ((RQ.kp ((RQ.kp ((RQ.kp ((RQ.kp ((RQ.kp ((RQ.kp ((RQ.kp ((RQ.kp ((RQ.kp ((RQ.kp ((RQ.kp ((RQ.kp ((RQ.kp ((RQ.kp ((RQ.kp ((RQ.kp ((RQ.kp ((RQ.kp (t3) (Ex.kp e_1) (by decide))) (Ex.kp e_3) (by decide))) (Ex.kp e_8) (by decide))) (Ex.kp e_12) (by decide))) (Ex.kp e_17) (by decide))) (Ex.kp e_22) (by decide))) (Ex.kp e_26) (by decide))) (Ex.kp e_28) (by decide))) (Ex.kp e_32) (by decide))) (Ex.kp e_36) (by decide))) k_38 (by decide))) (Ex.kp e_51) (by decide))) (Ex.kp e_139) (by decide))) (Ex.kp e_141) (by decide))) (Ex.kp e_233) (by decide))) (Ex.kp e_236) (by decide))) (Ex.kp e_241) (by decide))) (Ex.kp e_244) (by decide))) (Ex.kp e_248) (by decide))) (Ex.kp e_251) (by decide))) (Ex.kp e_255) (by decide))) (Ex.kp e_258) (by decide))) (Ex.kp e_263) (by decide))) (Ex.kp e_267) (by decide))) (Ex.kp e_270) (by decide))) (Ex.kp e_275) (by decide))) (Ex.kp e_279) (by decide))) (Ex.kp e_285) (by decide))
      refine T_vmul d_Cu_mapHalf_402 (jw_Fi_multiply.jo (by decide)) lm_Cu_74 (Nat.le_of_ble_eq_true rfl) (by decide) (by decide) (by decide) p_292 p_289 p_290 (by decide) (fun M_291 v_291 e_291 => ?_)
      obtain ⟨x_292, hx_292⟩ : ∃ z : Int, z = (x_264 * x_275) := ⟨_, rfl⟩
      rw [← hx_292] at v_291
      refine T_aload_n (v := .ref 188) d_Cu_mapHalf_405 rfl (Or.inr ⟨_, rfl⟩) ?_
      have h_293 := (e_291 188 (by decide)).trans (h_287)
      refine T_getfield (v := .ref 192) d_Cu_mapHalf_406 fg_Cu_80 h_293 rfl ?_
      refine T_aload_n (v := .ref 77) d_Cu_mapHalf_409 rfl (Or.inr ⟨_, rfl⟩) ?_
      have h_294 := (e_291 77 (by decide)).trans (h_288)
      refine T_getfield (v := .ref 94) d_Cu_mapHalf_410 fg_Cu_36 h_294 rfl ?_
      refine T_aload_n (v := .ref 77) d_Cu_mapHalf_413 rfl (Or.inr ⟨_, rfl⟩) ?_
      refine T_getfield (v := .ref 96) d_Cu_mapHalf_414 fg_Cu_43 h_294 rfl ?_
      have p_295 := (RV.kp ((RV.kp ((RV.kp (p_278) (Ex.kp e_279) (by decide))) (Ex.kp e_285) (by decide))) (Ex.kp e_291) (by decide))
      have p_296 := (RV.kp ((RV.kp (p_283) (Ex.kp e_285) (by decide))) (Ex.kp e_291) (by decide))
      have p_298 := (RQ.kp ((RQ.kp ((RQ.kp ((RQ.kp ((RQ.kp ((RQ.kp ((RQ.kp ((RQ.kp ((RQ.kp ((RQ.kp ((RQ.kp ((RQ.kp ((RQ.kp ((RQ.kp ((RQ.kp ((RQ.kp ((RQ.kp ((RQ.kp ((RQ.kp ((RQ.kp ((RQ.kp ((RQ.kp ((RQ.kp ((RQ.kp ((RQ.kp ((RQ.kp ((RQ.kp ((RQ.kp ((RQ.kp (t4) (Ex.kp e_1) (by decide))) (Ex.kp e_3) (by decide))) (Ex.kp e_8) (by decide))) (Ex.kp e_12) (by decide))) (Ex.kp e_17) (by decide))) (Ex.kp e_22) (by decide))) (Ex.kp e_26) (by decide))) (Ex.kp e_28) (by decide))) (Ex.kp e_32) (by decide))) (Ex.kp e_36) (by decide))) k_38 (by decide))) (Ex.kp e_51) (by decide))) (Ex.kp e_139) (by decide))) (Ex.kp e_141) (by decide))) (Ex.kp e_233) (by decide))) (Ex.kp e_236) (by decide))) (Ex.kp e_241) (by decide))) (Ex.kp e_244) (by decide))) (Ex.kp e_248) (by decide))) (Ex.kp e_251) (by decide))) (Ex.kp e_255) (by decide))) (Ex.kp e_258) (by decide))) (Ex.kp e_263) (by decide))) (Ex.kp e_267) (by decide))) (Ex.kp e_270) (by decide))) (Ex.kp e_275) (by decide))) (Ex.kp e_279) (by decide))) (Ex.kp e_285) (by decide))) (Ex.kp e_291) (by decide))
      refine T_vmul d_Cu_mapHalf_417 (jw_Fi_multiply.jo (by decide)) lm_Cu_74 (Nat.le_of_ble_eq_true rfl) (by decide) (by decide) (by decide) p_298 p_295 p_296 (by decide) (fun M_297 v_297 e_297 => ?_)
      obtain ⟨x_298, hx_298⟩ : ∃ z : Int, z = (x_258 * x_271) := ⟨_, rfl⟩
      rw [← hx_298] at v_297
      have t0_ : ph x_1 = ph (nB l at0 % n255) := by rw [hx_1]
      generalize ph (nB l at0 % n255) = t at *
      have r1 : ph x_8 = t * t * fI := by rw [hx_8, ph_mul, hx_4, ph_mul, t0_, ph_I]
      generalize hr : t * t * fI = r at r1
      have uu : ph x_17 = gU_ r := by rw [hx_17, ph_mul, hx_13, ph_add, r1, ph_3, ph_4]; rfl
      have vv : ph x_36 = gV_ r := by rw [hx_36, ph_mul, hx_28, ph_neg, hx_26, ph_add, hx_23, ph_mul, hx_33, ph_add, r1, ph_3, ph_5]; rfl
      have rr_ : ph x_38 = rR (gU_ r) (gV_ r) := by rw [hx_38, ph_rt, uu, vv]
      have gi := rtG_1 x_17 x_36
      rw [uu, vv] at gi
      have gd_ : ¬ rG (gU_ r) (gV_ r) := fun c => absurd (gi.mpr c) (by omega)
      have st : ph x_139 = rR (gU_ r) (gV_ r) * t := by rw [hx_139, ph_mul, rr_, t0_]
      have ss : ph x_233 = gS_ t r := by
        unfold gS_ ab; rw [if_neg gd_, if_neg (fun z => hb_141 ((od_of st).mp z)), hx_233, ph_neg, st]
      have cc : ph x_8 = gC_ t r := by rw [r1]; unfold gC_; rw [if_neg gd_]
      have nn_ : ph x_251 = gN_ t r := by rw [hx_251, ph_sub, vv, hx_248, ph_mul, hx_244, ph_mul, hx_241, ph_sub, r1, ph_3, ph_6]; unfold gN_ gC_; rw [if_neg gd_]
      have w0 : ph x_258 = (gS_ t r + gS_ t r) * gV_ r := by rw [hx_258, ph_add, hx_256, ph_mul, ss, vv]; grobner
      have w1 : ph x_264 = gN_ t r * fG := by rw [hx_264, ph_mul, nn_, ph_7]
      have w2 : ph x_271 = 1 - gS_ t r * gS_ t r := by rw [hx_271, ph_sub, hx_267, ph_mul, ss, ph_3]
      have w3 : ph x_275 = 1 + gS_ t r * gS_ t r := by rw [hx_275, ph_add, hx_267, ph_mul, ss, ph_3]
      have q0 : ph x_280 = gX_ t := by unfold gX_; rw [hr, hx_280, ph_mul, w0, w3]
      have q1 : ph x_286 = gY_ t := by unfold gY_; rw [hr, hx_286, ph_mul, w2, w1]
      have q2 : ph x_292 = gZ_ t := by unfold gZ_; rw [hr, hx_292, ph_mul, w1, w3]
      have q3 : ph x_298 = gT_ t := by unfold gT_; rw [hr, hx_298, ph_mul, w0, w2]
      have J := mPt_pj t
      rw [← q0, ← q1, ← q2, ← q3] at J
      have p_299 := (RV.kp ((RV.kp ((RV.kp (v_279) (Ex.kp e_285) (by decide))) (Ex.kp e_291) (by decide))) (Ex.kp e_297) (by decide))
      have p_300 := (RV.kp ((RV.kp (v_285) (Ex.kp e_291) (by decide))) (Ex.kp e_297) (by decide))
      have p_301 := (RV.kp (v_291) (Ex.kp e_297) (by decide))
      have p_302 := (RV.kp ((RV.kp (p_290) (Ex.kp e_291) (by decide))) (Ex.kp e_297) (by decide))
      have p_303 := (RV.kp ((RV.kp ((RV.kp ((RV.kp ((RV.kp ((RV.kp ((RV.kp ((RV.kp ((RV.kp ((RV.kp ((RV.kp ((RV.kp ((RV.kp (v_241) (Ex.kp e_244) (by decide))) (Ex.kp e_248) (by decide))) (Ex.kp e_251) (by decide))) (Ex.kp e_255) (by decide))) (Ex.kp e_258) (by decide))) (Ex.kp e_263) (by decide))) (Ex.kp e_267) (by decide))) (Ex.kp e_270) (by decide))) (Ex.kp e_275) (by decide))) (Ex.kp e_279) (by decide))) (Ex.kp e_285) (by decide))) (Ex.kp e_291) (by decide))) (Ex.kp e_297) (by decide))
      have p_304 := (RV.kp ((RV.kp ((RV.kp ((RV.kp ((RV.kp ((RV.kp ((RV.kp ((RV.kp ((RV.kp ((RV.kp ((RV.kp ((RV.kp ((RV.kp ((RV.kp ((RV.kp ((RV.kp ((RV.kp ((RV.kp (p_138) (Ex.kp e_139) (by decide))) (Ex.kp e_141) (by decide))) (Ex.kp e_233) (by decide))) (Ex.kp e_236) (by decide))) (Ex.kp e_241) (by decide))) (Ex.kp e_244) (by decide))) (Ex.kp e_248) (by decide))) (Ex.kp e_251) (by decide))) (Ex.kp e_255) (by decide))) (Ex.kp e_258) (by decide))) (Ex.kp e_263) (by decide))) (Ex.kp e_267) (by decide))) (Ex.kp e_270) (by decide))) (Ex.kp e_275) (by decide))) (Ex.kp e_279) (by decide))) (Ex.kp e_285) (by decide))) (Ex.kp e_291) (by decide))) (Ex.kp e_297) (by decide))
      have p_305 := (RQ.kp ((RQ.kp ((RQ.kp ((RQ.kp ((RQ.kp ((RQ.kp ((RQ.kp ((RQ.kp ((RQ.kp ((RQ.kp ((RQ.kp ((RQ.kp ((RQ.kp ((RQ.kp ((RQ.kp ((RQ.kp ((RQ.kp ((RQ.kp ((RQ.kp ((RQ.kp ((RQ.kp ((RQ.kp ((RQ.kp ((RQ.kp ((RQ.kp ((RQ.kp ((RQ.kp ((RQ.kp ((RQ.kp ((RQ.kp ((hcs.2.2 99 (by decide))) (Ex.kp e_1) (by decide))) (Ex.kp e_3) (by decide))) (Ex.kp e_8) (by decide))) (Ex.kp e_12) (by decide))) (Ex.kp e_17) (by decide))) (Ex.kp e_22) (by decide))) (Ex.kp e_26) (by decide))) (Ex.kp e_28) (by decide))) (Ex.kp e_32) (by decide))) (Ex.kp e_36) (by decide))) k_38 (by decide))) (Ex.kp e_51) (by decide))) (Ex.kp e_139) (by decide))) (Ex.kp e_141) (by decide))) (Ex.kp e_233) (by decide))) (Ex.kp e_236) (by decide))) (Ex.kp e_241) (by decide))) (Ex.kp e_244) (by decide))) (Ex.kp e_248) (by decide))) (Ex.kp e_251) (by decide))) (Ex.kp e_255) (by decide))) (Ex.kp e_258) (by decide))) (Ex.kp e_263) (by decide))) (Ex.kp e_267) (by decide))) (Ex.kp e_270) (by decide))) (Ex.kp e_275) (by decide))) (Ex.kp e_279) (by decide))) (Ex.kp e_285) (by decide))) (Ex.kp e_291) (by decide))) (Ex.kp e_297) (by decide))
      have p_306 := (RQ.kp ((RQ.kp ((RQ.kp ((RQ.kp ((RQ.kp ((RQ.kp ((RQ.kp ((RQ.kp ((RQ.kp ((RQ.kp ((RQ.kp ((RQ.kp ((RQ.kp ((RQ.kp ((RQ.kp ((RQ.kp ((RQ.kp ((RQ.kp ((RQ.kp ((RQ.kp ((RQ.kp ((RQ.kp ((RQ.kp ((RQ.kp ((RQ.kp ((RQ.kp ((RQ.kp ((RQ.kp ((RQ.kp ((RQ.kp ((hcs.2.2 98 (by decide))) (Ex.kp e_1) (by decide))) (Ex.kp e_3) (by decide))) (Ex.kp e_8) (by decide))) (Ex.kp e_12) (by decide))) (Ex.kp e_17) (by decide))) (Ex.kp e_22) (by decide))) (Ex.kp e_26) (by decide))) (Ex.kp e_28) (by decide))) (Ex.kp e_32) (by decide))) (Ex.kp e_36) (by decide))) k_38 (by decide))) (Ex.kp e_51) (by decide))) (Ex.kp e_139) (by decide))) (Ex.kp e_141) (by decide))) (Ex.kp e_233) (by decide))) (Ex.kp e_236) (by decide))) (Ex.kp e_241) (by decide))) (Ex.kp e_244) (by decide))) (Ex.kp e_248) (by decide))) (Ex.kp e_251) (by decide))) (Ex.kp e_255) (by decide))) (Ex.kp e_258) (by decide))) (Ex.kp e_263) (by decide))) (Ex.kp e_267) (by decide))) (Ex.kp e_270) (by decide))) (Ex.kp e_275) (by decide))) (Ex.kp e_279) (by decide))) (Ex.kp e_285) (by decide))) (Ex.kp e_291) (by decide))) (Ex.kp e_297) (by decide))
      have p_307 := (RQ.kp ((RQ.kp ((RQ.kp ((RQ.kp ((RQ.kp ((RQ.kp ((RQ.kp ((RQ.kp ((RQ.kp ((RQ.kp ((RQ.kp ((RQ.kp ((RQ.kp ((RQ.kp ((RQ.kp ((RQ.kp ((RQ.kp ((RQ.kp ((RQ.kp ((RQ.kp ((RQ.kp ((RQ.kp ((RQ.kp ((RQ.kp ((RQ.kp ((RQ.kp ((RQ.kp ((RQ.kp ((RQ.kp ((RQ.kp ((hcs.2.2 97 (by decide))) (Ex.kp e_1) (by decide))) (Ex.kp e_3) (by decide))) (Ex.kp e_8) (by decide))) (Ex.kp e_12) (by decide))) (Ex.kp e_17) (by decide))) (Ex.kp e_22) (by decide))) (Ex.kp e_26) (by decide))) (Ex.kp e_28) (by decide))) (Ex.kp e_32) (by decide))) (Ex.kp e_36) (by decide))) k_38 (by decide))) (Ex.kp e_51) (by decide))) (Ex.kp e_139) (by decide))) (Ex.kp e_141) (by decide))) (Ex.kp e_233) (by decide))) (Ex.kp e_236) (by decide))) (Ex.kp e_241) (by decide))) (Ex.kp e_244) (by decide))) (Ex.kp e_248) (by decide))) (Ex.kp e_251) (by decide))) (Ex.kp e_255) (by decide))) (Ex.kp e_258) (by decide))) (Ex.kp e_263) (by decide))) (Ex.kp e_267) (by decide))) (Ex.kp e_270) (by decide))) (Ex.kp e_275) (by decide))) (Ex.kp e_279) (by decide))) (Ex.kp e_285) (by decide))) (Ex.kp e_291) (by decide))) (Ex.kp e_297) (by decide))
      have p_308 := (RV.kp (p_296) (Ex.kp e_297) (by decide))
      have p_309 := (RV.kp ((RV.kp (p_289) (Ex.kp e_291) (by decide))) (Ex.kp e_297) (by decide))
      have p_310 := (RV.kp (p_295) (Ex.kp e_297) (by decide))
      have p_311 := (RQ.kp ((RQ.kp ((RQ.kp ((RQ.kp ((RQ.kp ((RQ.kp ((RQ.kp ((RQ.kp ((RQ.kp ((RQ.kp ((RQ.kp ((RQ.kp ((RQ.kp ((RQ.kp ((RQ.kp ((RQ.kp ((RQ.kp ((RQ.kp ((RQ.kp (q85_38) (Ex.kp e_51) (by decide))) (Ex.kp e_139) (by decide))) (Ex.kp e_141) (by decide))) (Ex.kp e_233) (by decide))) (Ex.kp e_236) (by decide))) (Ex.kp e_241) (by decide))) (Ex.kp e_244) (by decide))) (Ex.kp e_248) (by decide))) (Ex.kp e_251) (by decide))) (Ex.kp e_255) (by decide))) (Ex.kp e_258) (by decide))) (Ex.kp e_263) (by decide))) (Ex.kp e_267) (by decide))) (Ex.kp e_270) (by decide))) (Ex.kp e_275) (by decide))) (Ex.kp e_279) (by decide))) (Ex.kp e_285) (by decide))) (Ex.kp e_291) (by decide))) (Ex.kp e_297) (by decide))
      have p_312 := (RQ.kp ((RQ.kp ((RQ.kp ((RQ.kp ((RQ.kp ((RQ.kp ((RQ.kp ((RQ.kp ((RQ.kp ((RQ.kp ((RQ.kp ((RQ.kp ((RQ.kp ((RQ.kp ((RQ.kp ((RQ.kp ((RQ.kp ((RQ.kp ((RQ.kp (q84_38) (Ex.kp e_51) (by decide))) (Ex.kp e_139) (by decide))) (Ex.kp e_141) (by decide))) (Ex.kp e_233) (by decide))) (Ex.kp e_236) (by decide))) (Ex.kp e_241) (by decide))) (Ex.kp e_244) (by decide))) (Ex.kp e_248) (by decide))) (Ex.kp e_251) (by decide))) (Ex.kp e_255) (by decide))) (Ex.kp e_258) (by decide))) (Ex.kp e_263) (by decide))) (Ex.kp e_267) (by decide))) (Ex.kp e_270) (by decide))) (Ex.kp e_275) (by decide))) (Ex.kp e_279) (by decide))) (Ex.kp e_285) (by decide))) (Ex.kp e_291) (by decide))) (Ex.kp e_297) (by decide))
      have p_313 := (RQ.kp ((RQ.kp ((RQ.kp ((RQ.kp ((RQ.kp ((RQ.kp ((RQ.kp ((RQ.kp ((RQ.kp ((RQ.kp ((RQ.kp ((RQ.kp ((RQ.kp ((RQ.kp ((RQ.kp ((RQ.kp ((RQ.kp ((RQ.kp ((RQ.kp (q83_38) (Ex.kp e_51) (by decide))) (Ex.kp e_139) (by decide))) (Ex.kp e_141) (by decide))) (Ex.kp e_233) (by decide))) (Ex.kp e_236) (by decide))) (Ex.kp e_241) (by decide))) (Ex.kp e_244) (by decide))) (Ex.kp e_248) (by decide))) (Ex.kp e_251) (by decide))) (Ex.kp e_255) (by decide))) (Ex.kp e_258) (by decide))) (Ex.kp e_263) (by decide))) (Ex.kp e_267) (by decide))) (Ex.kp e_270) (by decide))) (Ex.kp e_275) (by decide))) (Ex.kp e_279) (by decide))) (Ex.kp e_285) (by decide))) (Ex.kp e_291) (by decide))) (Ex.kp e_297) (by decide))
      have p_314 := (RQ.kp ((RQ.kp ((RQ.kp ((RQ.kp ((RQ.kp ((RQ.kp ((RQ.kp ((RQ.kp ((RQ.kp ((RQ.kp ((RQ.kp ((RQ.kp ((RQ.kp ((RQ.kp ((RQ.kp ((RQ.kp ((RQ.kp ((RQ.kp ((RQ.kp (q82_38) (Ex.kp e_51) (by decide))) (Ex.kp e_139) (by decide))) (Ex.kp e_141) (by decide))) (Ex.kp e_233) (by decide))) (Ex.kp e_236) (by decide))) (Ex.kp e_241) (by decide))) (Ex.kp e_244) (by decide))) (Ex.kp e_248) (by decide))) (Ex.kp e_251) (by decide))) (Ex.kp e_255) (by decide))) (Ex.kp e_258) (by decide))) (Ex.kp e_263) (by decide))) (Ex.kp e_267) (by decide))) (Ex.kp e_270) (by decide))) (Ex.kp e_275) (by decide))) (Ex.kp e_279) (by decide))) (Ex.kp e_285) (by decide))) (Ex.kp e_291) (by decide))) (Ex.kp e_297) (by decide))
      have p_315 := (RQ.kp ((RQ.kp ((RQ.kp ((RQ.kp ((RQ.kp ((RQ.kp ((RQ.kp ((RQ.kp ((RQ.kp ((RQ.kp ((RQ.kp ((RQ.kp ((RQ.kp ((RQ.kp ((RQ.kp ((RQ.kp ((RQ.kp ((RQ.kp ((RQ.kp (q81_38) (Ex.kp e_51) (by decide))) (Ex.kp e_139) (by decide))) (Ex.kp e_141) (by decide))) (Ex.kp e_233) (by decide))) (Ex.kp e_236) (by decide))) (Ex.kp e_241) (by decide))) (Ex.kp e_244) (by decide))) (Ex.kp e_248) (by decide))) (Ex.kp e_251) (by decide))) (Ex.kp e_255) (by decide))) (Ex.kp e_258) (by decide))) (Ex.kp e_263) (by decide))) (Ex.kp e_267) (by decide))) (Ex.kp e_270) (by decide))) (Ex.kp e_275) (by decide))) (Ex.kp e_279) (by decide))) (Ex.kp e_285) (by decide))) (Ex.kp e_291) (by decide))) (Ex.kp e_297) (by decide))
      have p_316 := (RQ.kp ((RQ.kp ((RQ.kp ((RQ.kp ((RQ.kp ((RQ.kp ((RQ.kp ((RQ.kp ((RQ.kp ((RQ.kp ((RQ.kp ((RQ.kp ((RQ.kp ((RQ.kp ((RQ.kp ((RQ.kp ((RQ.kp ((RQ.kp ((RQ.kp (q80_38) (Ex.kp e_51) (by decide))) (Ex.kp e_139) (by decide))) (Ex.kp e_141) (by decide))) (Ex.kp e_233) (by decide))) (Ex.kp e_236) (by decide))) (Ex.kp e_241) (by decide))) (Ex.kp e_244) (by decide))) (Ex.kp e_248) (by decide))) (Ex.kp e_251) (by decide))) (Ex.kp e_255) (by decide))) (Ex.kp e_258) (by decide))) (Ex.kp e_263) (by decide))) (Ex.kp e_267) (by decide))) (Ex.kp e_270) (by decide))) (Ex.kp e_275) (by decide))) (Ex.kp e_279) (by decide))) (Ex.kp e_285) (by decide))) (Ex.kp e_291) (by decide))) (Ex.kp e_297) (by decide))
      have p_317 := (RQ.kp ((RQ.kp ((RQ.kp ((RQ.kp ((RQ.kp ((RQ.kp ((RQ.kp ((RQ.kp ((RQ.kp ((RQ.kp ((RQ.kp ((RQ.kp ((RQ.kp ((RQ.kp ((RQ.kp ((RQ.kp (w_141) (Ex.kp e_233) (by decide))) (Ex.kp e_236) (by decide))) (Ex.kp e_241) (by decide))) (Ex.kp e_244) (by decide))) (Ex.kp e_248) (by decide))) (Ex.kp e_251) (by decide))) (Ex.kp e_255) (by decide))) (Ex.kp e_258) (by decide))) (Ex.kp e_263) (by decide))) (Ex.kp e_267) (by decide))) (Ex.kp e_270) (by decide))) (Ex.kp e_275) (by decide))) (Ex.kp e_279) (by decide))) (Ex.kp e_285) (by decide))) (Ex.kp e_291) (by decide))) (Ex.kp e_297) (by decide))
      have h_318 := (e_297 77 (by decide)).trans (h_294)
      have h_319 := (e_297 78 (by decide)).trans ((e_291 78 (by decide)).trans ((e_285 78 (by decide)).trans ((e_279 78 (by decide)).trans ((e_275 78 (by decide)).trans ((e_270 78 (by decide)).trans ((e_267 78 (by decide)).trans ((e_263 78 (by decide)).trans ((e_258 78 (by decide)).trans ((e_255 78 (by decide)).trans ((e_251 78 (by decide)).trans ((e_248 78 (by decide)).trans ((e_244 78 (by decide)).trans ((e_241 78 (by decide)).trans ((e_236 78 (by decide)).trans ((e_233 78 (by decide)).trans ((e_141 78 (by decide)).trans (h_142)))))))))))))))))
      have h_320 := (e_297 188 (by decide)).trans (h_293)
      exact T_vret d_Cu_mapHalf_420 rfl (by decide) (by decide) ⟨rfl, ⟨h_318, h_319, (List.forall_mem_cons.mpr ⟨p_317, (List.forall_mem_cons.mpr ⟨p_316, (List.forall_mem_cons.mpr ⟨p_315, (List.forall_mem_cons.mpr ⟨p_314, (List.forall_mem_cons.mpr ⟨p_313, (List.forall_mem_cons.mpr ⟨p_312, (List.forall_mem_cons.mpr ⟨p_311, (List.forall_mem_cons.mpr ⟨(Rv.rq p_310), (List.forall_mem_cons.mpr ⟨(Rv.rq p_309), (List.forall_mem_cons.mpr ⟨(Rv.rq p_308), (List.forall_mem_cons.mpr ⟨p_307, (List.forall_mem_cons.mpr ⟨p_306, (List.forall_mem_cons.mpr ⟨p_305, (List.forall_mem_cons.mpr ⟨(Rv.rq p_304), (List.forall_mem_cons.mpr ⟨(Rv.rq p_303), (List.forall_mem_cons.mpr ⟨(Rv.rq p_302), (fun _ h => absurd h (List.not_mem_nil))⟩)⟩)⟩)⟩)⟩)⟩)⟩)⟩)⟩)⟩)⟩)⟩)⟩)⟩)⟩)⟩)⟩, ⟨h_320, _, _, _, _, Rv.up p_299 (by decide), p_300, p_301, v_297, J⟩, (Kp.ex (Kp.ex (Kp.ex (Kp.ex (Kp.ex (Kp.ex (Kp.ex (Kp.ex (Kp.ex (Kp.ex (Kp.ex (Kp.ex (Kp.ex (Kp.ex (Kp.ex (Kp.ex (Kp.ex (Kp.ex (Kp.ex (Kp.tr (Kp.ex (Kp.ex (Kp.ex (Kp.ex (Kp.ex (Kp.ex (Kp.ex (Kp.ex (Kp.ex (Kp.ex (Kp.rf : Kp [79, 80, 81, 82, 83, 84, 85, 94, 95, 96, 97, 98, 99, 100, 101, 102, 189, 190, 191, 192] M M) e_1 (by decide)) e_3 (by decide)) e_8 (by decide)) e_12 (by decide)) e_17 (by decide)) e_22 (by decide)) e_26 (by decide)) e_28 (by decide)) e_32 (by decide)) e_36 (by decide)) (Kp.mono k_38 (by decide))) e_51 (by decide)) e_139 (by decide)) e_141 (by decide)) e_233 (by decide)) e_236 (by decide)) e_241 (by decide)) e_244 (by decide)) e_248 (by decide)) e_251 (by decide)) e_255 (by decide)) e_258 (by decide)) e_263 (by decide)) e_267 (by decide)) e_270 (by decide)) e_275 (by decide)) e_279 (by decide)) e_285 (by decide)) e_291 (by decide)) e_297 (by decide))⟩
set_option maxHeartbeats 8000000 in
theorem y_Cu_half_87 {G : GX} {M : List va_E} {fr m at0 : Nat} {l : List UInt8} (hcs : CS1 M) (hto : PQ M 87 88 89 90 91) (hf : BA M fr m l) (hlen : at0 + 32 ≤ l.length) (hm2 : m < 2 ^ 30) (b_fr : 192 < fr) : CT G mi_Cu_mapHalf [.ref 77, .ref fr, .int (nI at0), .ref 87] M (fun r M' => r = none ∧ CS1 M' ∧ PC M' 87 88 89 90 91 (mPt (ph (nB l at0 % n255))) ∧ Kp [79, 80, 81, 82, 83, 84, 85, 94, 95, 96, 97, 98, 99, 100, 101, 102, 88, 89, 90, 91] M M') := by
  obtain ⟨t0, t1, t2, t3, t4⟩ := hto
  refine CT.of (by decide) (Nat.le_of_ble_eq_true rfl) ?_
  show TT G mi_Cu_mapHalf 0 [(0, .ref 77), (1, .ref fr), (2, .int (nI at0)), (3, .ref 87)] [] M 0 0 _
  refine T_know (fun hK0 => ?_)
  refine T_aload_n (v := .ref 77) d_Cu_mapHalf_0 rfl (Or.inr ⟨_, rfl⟩) ?_
  refine T_getfield (v := .ref 100) d_Cu_mapHalf_1 fg_Cu_55 hcs.1 rfl ?_
  refine T_aload_n (v := .ref fr) d_Cu_mapHalf_4 rfl (Or.inr ⟨_, rfl⟩) ?_
  refine T_iload_n d_Cu_mapHalf_5 rfl ?_
  refine T_static (as := [.ref 100, .ref fr, .int (nI at0)]) (rest := []) d_Cu_mapHalf_6 rfl (jw_Fi_load.jo (by decide)) lm_Cu_146 jt_Fi_load rfl (Nat.le_of_ble_eq_true rfl) (by decide) (by decide) (y_Fi_load (by decide) (hcs.2.2 100 (by decide)) hf (Ne.symm (hi_ne b_fr (by decide))) hlen hm2) (fun r M_1 hq => ?_)
  obtain ⟨rfl, v_1, e_1⟩ := hq
  obtain ⟨x_1, hx_1⟩ : ∃ z : Int, z = (nB l at0 % n255) := ⟨_, rfl⟩
  rw [← hx_1] at v_1
  refine T_eq (pc' := 9) (L' := [(0, .ref 77), (1, .ref fr), (2, .int (nI at0)), (3, .ref 87)]) (st' := []) (M' := M_1) rfl rfl rfl rfl ?_
  refine T_aload_n (v := .ref 77) d_Cu_mapHalf_9 rfl (Or.inr ⟨_, rfl⟩) ?_
  have h_2 := (e_1 77 (by decide)).trans (hcs.1)
  refine T_getfield (v := .ref 101) d_Cu_mapHalf_10 fg_Cu_58 h_2 rfl ?_
  refine T_aload_n (v := .ref 77) d_Cu_mapHalf_13 rfl (Or.inr ⟨_, rfl⟩) ?_
  refine T_getfield (v := .ref 100) d_Cu_mapHalf_14 fg_Cu_55 h_2 rfl ?_
  refine T_iconst (v := nI 1) d_Cu_mapHalf_17 (by decide) ?_
  have p_4 := (RQ.kp ((hcs.2.2 101 (by decide))) (Ex.kp e_1) (by decide))
  refine T_vsq1 d_Cu_mapHalf_18 (jw_Fi_square.jo (by decide)) lm_Cu_89 (Nat.le_of_ble_eq_true rfl) (by decide) (by decide) (by decide) p_4 v_1 (by decide) (fun M_3 v_3 e_3 => ?_)
  obtain ⟨x_4, hx_4⟩ : ∃ z : Int, z = (x_1 * x_1) := ⟨_, rfl⟩
  rw [← hx_4] at v_3
  refine T_aload_n (v := .ref 77) d_Cu_mapHalf_21 rfl (Or.inr ⟨_, rfl⟩) ?_
  have h_5 := (e_3 77 (by decide)).trans (h_2)
  refine T_getfield (v := .ref 101) d_Cu_mapHalf_22 fg_Cu_58 h_5 rfl ?_
  refine T_aload_n (v := .ref 77) d_Cu_mapHalf_25 rfl (Or.inr ⟨_, rfl⟩) ?_
  refine T_getfield (v := .ref 101) d_Cu_mapHalf_26 fg_Cu_58 h_5 rfl ?_
  refine T_getstatic (q := ("PasswordGate$Field", "I", "[J", .ref 2)) d_Cu_mapHalf_29 (List.mem_of_getElem? (i := 2) rfl) gs_Cu_131 (show 2 < K0 by decide) ?_
  have c_6 : RV M 2 cv_2 1 := ⟨_, hK0 2 (by decide), vt_2⟩
  have p_7 := (RV.kp ((RV.kp (c_6) (Ex.kp e_1) (by decide))) (Ex.kp e_3) (by decide))
  refine T_vmul d_Cu_mapHalf_32 (jw_Fi_multiply.jo (by decide)) lm_Cu_74 (Nat.le_of_ble_eq_true rfl) (by decide) (by decide) (by decide) (Rv.rq v_3) v_3 p_7 (by decide) (fun M_8 v_8 e_8 => ?_)
  obtain ⟨x_8, hx_8⟩ : ∃ z : Int, z = (x_4 * cv_2) := ⟨_, rfl⟩
  rw [← hx_8] at v_8
  refine T_aload_n (v := .ref 77) d_Cu_mapHalf_35 rfl (Or.inr ⟨_, rfl⟩) ?_
  have h_9 := (e_8 77 (by decide)).trans (h_5)
  refine T_getfield (v := .ref 94) d_Cu_mapHalf_36 fg_Cu_36 h_9 rfl ?_
  refine T_aload_n (v := .ref 77) d_Cu_mapHalf_39 rfl (Or.inr ⟨_, rfl⟩) ?_
  refine T_getfield (v := .ref 101) d_Cu_mapHalf_40 fg_Cu_58 h_9 rfl ?_
  refine T_getstatic (q := ("PasswordGate$Field", "ONE", "[J", .ref 3)) d_Cu_mapHalf_43 (List.mem_of_getElem? (i := 3) rfl) gs_Cu_103 (show 3 < K0 by decide) ?_
  have c_10 : RV M 3 cv_3 1 := ⟨_, hK0 3 (by decide), vt_3⟩
  have p_11 := (RV.kp ((RV.kp ((RV.kp (c_10) (Ex.kp e_1) (by decide))) (Ex.kp e_3) (by decide))) (Ex.kp e_8) (by decide))
  have p_13 := (RQ.kp ((RQ.kp ((RQ.kp ((hcs.2.2 94 (by decide))) (Ex.kp e_1) (by decide))) (Ex.kp e_3) (by decide))) (Ex.kp e_8) (by decide))
  refine T_vadd d_Cu_mapHalf_46 (jw_Fi_add.jo (by decide)) lm_Cu_77 (Nat.le_of_ble_eq_true rfl) (by decide) (by decide) (by decide) p_13 v_8 p_11 (by decide) (fun M_12 v_12 e_12 => ?_)
  obtain ⟨x_13, hx_13⟩ : ∃ z : Int, z = (x_8 + cv_3) := ⟨_, rfl⟩
  rw [← hx_13] at v_12
  refine T_aload_n (v := .ref 77) d_Cu_mapHalf_49 rfl (Or.inr ⟨_, rfl⟩) ?_
  have h_14 := (e_12 77 (by decide)).trans (h_9)
  refine T_getfield (v := .ref 94) d_Cu_mapHalf_50 fg_Cu_36 h_14 rfl ?_
  refine T_aload_n (v := .ref 77) d_Cu_mapHalf_53 rfl (Or.inr ⟨_, rfl⟩) ?_
  refine T_getfield (v := .ref 94) d_Cu_mapHalf_54 fg_Cu_36 h_14 rfl ?_
  refine T_getstatic (q := ("PasswordGate$Curve", "ONE_LESS_SQUARE", "[J", .ref 4)) d_Cu_mapHalf_57 (List.mem_of_getElem? (i := 4) rfl) gs_Cu_171 (show 4 < K0 by decide) ?_
  have c_15 : RV M 4 cv_4 1 := ⟨_, hK0 4 (by decide), vt_4⟩
  have p_16 := (RV.kp ((RV.kp ((RV.kp ((RV.kp (c_15) (Ex.kp e_1) (by decide))) (Ex.kp e_3) (by decide))) (Ex.kp e_8) (by decide))) (Ex.kp e_12) (by decide))
  refine T_vmul d_Cu_mapHalf_60 (jw_Fi_multiply.jo (by decide)) lm_Cu_74 (Nat.le_of_ble_eq_true rfl) (by decide) (by decide) (by decide) (Rv.rq v_12) v_12 p_16 (by decide) (fun M_17 v_17 e_17 => ?_)
  obtain ⟨x_17, hx_17⟩ : ∃ z : Int, z = (x_13 * cv_4) := ⟨_, rfl⟩
  rw [← hx_17] at v_17
  refine T_aload_n (v := .ref 77) d_Cu_mapHalf_63 rfl (Or.inr ⟨_, rfl⟩) ?_
  have h_18 := (e_17 77 (by decide)).trans (h_14)
  refine T_getfield (v := .ref 95) d_Cu_mapHalf_64 fg_Cu_40 h_18 rfl ?_
  refine T_aload_n (v := .ref 77) d_Cu_mapHalf_67 rfl (Or.inr ⟨_, rfl⟩) ?_
  refine T_getfield (v := .ref 101) d_Cu_mapHalf_68 fg_Cu_58 h_18 rfl ?_
  refine T_getstatic (q := ("PasswordGate$Curve", "D", "[J", .ref 5)) d_Cu_mapHalf_71 (List.mem_of_getElem? (i := 5) rfl) gs_Cu_161 (show 5 < K0 by decide) ?_
  have p_19 := (RV.kp ((RV.kp (v_8) (Ex.kp e_12) (by decide))) (Ex.kp e_17) (by decide))
  have c_20 : RV M 5 cv_5 1 := ⟨_, hK0 5 (by decide), vt_5⟩
  have p_21 := (RV.kp ((RV.kp ((RV.kp ((RV.kp ((RV.kp (c_20) (Ex.kp e_1) (by decide))) (Ex.kp e_3) (by decide))) (Ex.kp e_8) (by decide))) (Ex.kp e_12) (by decide))) (Ex.kp e_17) (by decide))
  have p_23 := (RQ.kp ((RQ.kp ((RQ.kp ((RQ.kp ((RQ.kp ((hcs.2.2 95 (by decide))) (Ex.kp e_1) (by decide))) (Ex.kp e_3) (by decide))) (Ex.kp e_8) (by decide))) (Ex.kp e_12) (by decide))) (Ex.kp e_17) (by decide))
  refine T_vmul d_Cu_mapHalf_74 (jw_Fi_multiply.jo (by decide)) lm_Cu_74 (Nat.le_of_ble_eq_true rfl) (by decide) (by decide) (by decide) p_23 p_19 p_21 (by decide) (fun M_22 v_22 e_22 => ?_)
  obtain ⟨x_23, hx_23⟩ : ∃ z : Int, z = (x_8 * cv_5) := ⟨_, rfl⟩
  rw [← hx_23] at v_22
  refine T_aload_n (v := .ref 77) d_Cu_mapHalf_77 rfl (Or.inr ⟨_, rfl⟩) ?_
  have h_24 := (e_22 77 (by decide)).trans (h_18)
  refine T_getfield (v := .ref 95) d_Cu_mapHalf_78 fg_Cu_40 h_24 rfl ?_
  refine T_aload_n (v := .ref 77) d_Cu_mapHalf_81 rfl (Or.inr ⟨_, rfl⟩) ?_
  refine T_getfield (v := .ref 95) d_Cu_mapHalf_82 fg_Cu_40 h_24 rfl ?_
  refine T_getstatic (q := ("PasswordGate$Field", "ONE", "[J", .ref 3)) d_Cu_mapHalf_85 (List.mem_of_getElem? (i := 3) rfl) gs_Cu_103 (show 3 < K0 by decide) ?_
  have p_25 := (RV.kp ((RV.kp ((RV.kp (p_11) (Ex.kp e_12) (by decide))) (Ex.kp e_17) (by decide))) (Ex.kp e_22) (by decide))
  refine T_vadd d_Cu_mapHalf_88 (jw_Fi_add.jo (by decide)) lm_Cu_77 (Nat.le_of_ble_eq_true rfl) (by decide) (by decide) (by decide) (Rv.rq v_22) v_22 p_25 (by decide) (fun M_26 v_26 e_26 => ?_)
  obtain ⟨x_26, hx_26⟩ : ∃ z : Int, z = (x_23 + cv_3) := ⟨_, rfl⟩
  rw [← hx_26] at v_26
  refine T_aload_n (v := .ref 77) d_Cu_mapHalf_91 rfl (Or.inr ⟨_, rfl⟩) ?_
  have h_27 := (e_26 77 (by decide)).trans (h_24)
  refine T_getfield (v := .ref 95) d_Cu_mapHalf_92 fg_Cu_40 h_27 rfl ?_
  refine T_aload_n (v := .ref 77) d_Cu_mapHalf_95 rfl (Or.inr ⟨_, rfl⟩) ?_
  refine T_getfield (v := .ref 95) d_Cu_mapHalf_96 fg_Cu_40 h_27 rfl ?_
  refine T_vneg d_Cu_mapHalf_99 (jw_Fi_negate.jo (by decide)) lm_Cu_139 (Nat.le_of_ble_eq_true rfl) (by decide) (by decide) (by decide) (Rv.rq v_26) v_26 (by decide) (fun M_28 v_28 e_28 => ?_)
  obtain ⟨x_28, hx_28⟩ : ∃ z : Int, z = (-x_26) := ⟨_, rfl⟩
  rw [← hx_28] at v_28
  refine T_aload_n (v := .ref 77) d_Cu_mapHalf_102 rfl (Or.inr ⟨_, rfl⟩) ?_
  have h_29 := (e_28 77 (by decide)).trans (h_27)
  refine T_getfield (v := .ref 96) d_Cu_mapHalf_103 fg_Cu_43 h_29 rfl ?_
  refine T_aload_n (v := .ref 77) d_Cu_mapHalf_106 rfl (Or.inr ⟨_, rfl⟩) ?_
  refine T_getfield (v := .ref 101) d_Cu_mapHalf_107 fg_Cu_58 h_29 rfl ?_
  refine T_getstatic (q := ("PasswordGate$Curve", "D", "[J", .ref 5)) d_Cu_mapHalf_110 (List.mem_of_getElem? (i := 5) rfl) gs_Cu_161 (show 5 < K0 by decide) ?_
  have p_30 := (RV.kp ((RV.kp ((RV.kp (p_19) (Ex.kp e_22) (by decide))) (Ex.kp e_26) (by decide))) (Ex.kp e_28) (by decide))
  have p_31 := (RV.kp ((RV.kp ((RV.kp (p_21) (Ex.kp e_22) (by decide))) (Ex.kp e_26) (by decide))) (Ex.kp e_28) (by decide))
  have p_33 := (RQ.kp ((RQ.kp ((RQ.kp ((RQ.kp ((RQ.kp ((RQ.kp ((RQ.kp ((RQ.kp ((hcs.2.2 96 (by decide))) (Ex.kp e_1) (by decide))) (Ex.kp e_3) (by decide))) (Ex.kp e_8) (by decide))) (Ex.kp e_12) (by decide))) (Ex.kp e_17) (by decide))) (Ex.kp e_22) (by decide))) (Ex.kp e_26) (by decide))) (Ex.kp e_28) (by decide))
  refine T_vadd d_Cu_mapHalf_113 (jw_Fi_add.jo (by decide)) lm_Cu_77 (Nat.le_of_ble_eq_true rfl) (by decide) (by decide) (by decide) p_33 p_30 p_31 (by decide) (fun M_32 v_32 e_32 => ?_)
  obtain ⟨x_33, hx_33⟩ : ∃ z : Int, z = (x_8 + cv_5) := ⟨_, rfl⟩
  rw [← hx_33] at v_32
  refine T_aload_n (v := .ref 77) d_Cu_mapHalf_116 rfl (Or.inr ⟨_, rfl⟩) ?_
  have h_34 := (e_32 77 (by decide)).trans (h_29)
  refine T_getfield (v := .ref 95) d_Cu_mapHalf_117 fg_Cu_40 h_34 rfl ?_
  refine T_aload_n (v := .ref 77) d_Cu_mapHalf_120 rfl (Or.inr ⟨_, rfl⟩) ?_
  refine T_getfield (v := .ref 95) d_Cu_mapHalf_121 fg_Cu_40 h_34 rfl ?_
  refine T_aload_n (v := .ref 77) d_Cu_mapHalf_124 rfl (Or.inr ⟨_, rfl⟩) ?_
  refine T_getfield (v := .ref 96) d_Cu_mapHalf_125 fg_Cu_43 h_34 rfl ?_
  have p_35 := (RV.kp (v_28) (Ex.kp e_32) (by decide))
  refine T_vmul d_Cu_mapHalf_128 (jw_Fi_multiply.jo (by decide)) lm_Cu_74 (Nat.le_of_ble_eq_true rfl) (by decide) (by decide) (by decide) (Rv.rq p_35) p_35 v_32 (by decide) (fun M_36 v_36 e_36 => ?_)
  obtain ⟨x_36, hx_36⟩ : ∃ z : Int, z = (x_28 * x_33) := ⟨_, rfl⟩
  rw [← hx_36] at v_36
  refine T_aload_n (v := .ref 77) d_Cu_mapHalf_131 rfl (Or.inr ⟨_, rfl⟩) ?_
  have h_37 := (e_36 77 (by decide)).trans (h_34)
  refine T_getfield (v := .ref 78) d_Cu_mapHalf_132 fg_Cu_10 h_37 rfl ?_
  refine T_aload_n (v := .ref 77) d_Cu_mapHalf_135 rfl (Or.inr ⟨_, rfl⟩) ?_
  refine T_getfield (v := .ref 102) d_Cu_mapHalf_136 fg_Cu_61 h_37 rfl ?_
  refine T_aload_n (v := .ref 77) d_Cu_mapHalf_139 rfl (Or.inr ⟨_, rfl⟩) ?_
  refine T_getfield (v := .ref 94) d_Cu_mapHalf_140 fg_Cu_36 h_37 rfl ?_
  refine T_aload_n (v := .ref 77) d_Cu_mapHalf_143 rfl (Or.inr ⟨_, rfl⟩) ?_
  refine T_getfield (v := .ref 95) d_Cu_mapHalf_144 fg_Cu_40 h_37 rfl ?_
  have p_39 := (RV.kp ((RV.kp ((RV.kp ((RV.kp ((RV.kp (v_17) (Ex.kp e_22) (by decide))) (Ex.kp e_26) (by decide))) (Ex.kp e_28) (by decide))) (Ex.kp e_32) (by decide))) (Ex.kp e_36) (by decide))
  have h_40 := (e_36 78 (by decide)).trans ((e_32 78 (by decide)).trans ((e_28 78 (by decide)).trans ((e_26 78 (by decide)).trans ((e_22 78 (by decide)).trans ((e_17 78 (by decide)).trans ((e_12 78 (by decide)).trans ((e_8 78 (by decide)).trans ((e_3 78 (by decide)).trans ((e_1 78 (by decide)).trans (hcs.2.1))))))))))
  have p_41 := (RQ.kp ((RQ.kp ((RQ.kp ((RQ.kp ((RQ.kp ((RQ.kp ((RQ.kp ((RQ.kp ((RQ.kp ((RQ.kp ((hcs.2.2 79 (by decide))) (Ex.kp e_1) (by decide))) (Ex.kp e_3) (by decide))) (Ex.kp e_8) (by decide))) (Ex.kp e_12) (by decide))) (Ex.kp e_17) (by decide))) (Ex.kp e_22) (by decide))) (Ex.kp e_26) (by decide))) (Ex.kp e_28) (by decide))) (Ex.kp e_32) (by decide))) (Ex.kp e_36) (by decide))
  have p_42 := (RQ.kp ((RQ.kp ((RQ.kp ((RQ.kp ((RQ.kp ((RQ.kp ((RQ.kp ((RQ.kp ((RQ.kp ((RQ.kp ((hcs.2.2 80 (by decide))) (Ex.kp e_1) (by decide))) (Ex.kp e_3) (by decide))) (Ex.kp e_8) (by decide))) (Ex.kp e_12) (by decide))) (Ex.kp e_17) (by decide))) (Ex.kp e_22) (by decide))) (Ex.kp e_26) (by decide))) (Ex.kp e_28) (by decide))) (Ex.kp e_32) (by decide))) (Ex.kp e_36) (by decide))
  have p_43 := (RQ.kp ((RQ.kp ((RQ.kp ((RQ.kp ((RQ.kp ((RQ.kp ((RQ.kp ((RQ.kp ((RQ.kp ((RQ.kp ((hcs.2.2 81 (by decide))) (Ex.kp e_1) (by decide))) (Ex.kp e_3) (by decide))) (Ex.kp e_8) (by decide))) (Ex.kp e_12) (by decide))) (Ex.kp e_17) (by decide))) (Ex.kp e_22) (by decide))) (Ex.kp e_26) (by decide))) (Ex.kp e_28) (by decide))) (Ex.kp e_32) (by decide))) (Ex.kp e_36) (by decide))
  have p_44 := (RQ.kp ((RQ.kp ((RQ.kp ((RQ.kp ((RQ.kp ((RQ.kp ((RQ.kp ((RQ.kp ((RQ.kp ((RQ.kp ((hcs.2.2 82 (by decide))) (Ex.kp e_1) (by decide))) (Ex.kp e_3) (by decide))) (Ex.kp e_8) (by decide))) (Ex.kp e_12) (by decide))) (Ex.kp e_17) (by decide))) (Ex.kp e_22) (by decide))) (Ex.kp e_26) (by decide))) (Ex.kp e_28) (by decide))) (Ex.kp e_32) (by decide))) (Ex.kp e_36) (by decide))
  have p_45 := (RQ.kp ((RQ.kp ((RQ.kp ((RQ.kp ((RQ.kp ((RQ.kp ((RQ.kp ((RQ.kp ((RQ.kp ((RQ.kp ((hcs.2.2 83 (by decide))) (Ex.kp e_1) (by decide))) (Ex.kp e_3) (by decide))) (Ex.kp e_8) (by decide))) (Ex.kp e_12) (by decide))) (Ex.kp e_17) (by decide))) (Ex.kp e_22) (by decide))) (Ex.kp e_26) (by decide))) (Ex.kp e_28) (by decide))) (Ex.kp e_32) (by decide))) (Ex.kp e_36) (by decide))
  have p_46 := (RQ.kp ((RQ.kp ((RQ.kp ((RQ.kp ((RQ.kp ((RQ.kp ((RQ.kp ((RQ.kp ((RQ.kp ((RQ.kp ((hcs.2.2 84 (by decide))) (Ex.kp e_1) (by decide))) (Ex.kp e_3) (by decide))) (Ex.kp e_8) (by decide))) (Ex.kp e_12) (by decide))) (Ex.kp e_17) (by decide))) (Ex.kp e_22) (by decide))) (Ex.kp e_26) (by decide))) (Ex.kp e_28) (by decide))) (Ex.kp e_32) (by decide))) (Ex.kp e_36) (by decide))
  have p_47 := (RQ.kp ((RQ.kp ((RQ.kp ((RQ.kp ((RQ.kp ((RQ.kp ((RQ.kp ((RQ.kp ((RQ.kp ((RQ.kp ((hcs.2.2 85 (by decide))) (Ex.kp e_1) (by decide))) (Ex.kp e_3) (by decide))) (Ex.kp e_8) (by decide))) (Ex.kp e_12) (by decide))) (Ex.kp e_17) (by decide))) (Ex.kp e_22) (by decide))) (Ex.kp e_26) (by decide))) (Ex.kp e_28) (by decide))) (Ex.kp e_32) (by decide))) (Ex.kp e_36) (by decide))
  have p_48 := (RQ.kp ((RQ.kp ((RQ.kp ((RQ.kp ((RQ.kp ((RQ.kp ((RQ.kp ((RQ.kp ((RQ.kp ((RQ.kp ((hcs.2.2 102 (by decide))) (Ex.kp e_1) (by decide))) (Ex.kp e_3) (by decide))) (Ex.kp e_8) (by decide))) (Ex.kp e_12) (by decide))) (Ex.kp e_17) (by decide))) (Ex.kp e_22) (by decide))) (Ex.kp e_26) (by decide))) (Ex.kp e_28) (by decide))) (Ex.kp e_32) (by decide))) (Ex.kp e_36) (by decide))
  refine T_virtual (as := [.ref 102, .ref 94, .ref 95]) (rest := []) (b := 78) d_Cu_mapHalf_147 rfl (jw_Fi_root.jo (by decide)) lm_Cu_123 ji_Fi_root js_Fi_root h_40 rfl rfl rfl (Nat.le_of_ble_eq_true rfl) (by decide) (by decide) (v_Fi_root G h_40 p_41 p_42 p_43 p_44 p_45 p_46 p_47 p_48 p_39 v_36 (by decide) (by decide) (by decide) (by decide) (by decide) (by decide) (by decide) (by decide) (by decide) (by decide) (by decide) (by decide) (by decide) (by decide) (by decide) (by decide) (by decide) (by decide) (by decide) (by decide) (by decide) (by decide) (by decide) (by decide) (by decide) (by decide)) (fun q M_38 hq => ?_)
  obtain ⟨rfl, v_38, k_38, q79_38, q80_38, q81_38, q82_38, q83_38, q84_38, q85_38⟩ := hq
  obtain ⟨x_38, hx_38⟩ : ∃ z : Int, z = rt x_17 x_36 := ⟨_, rfl⟩
  rw [← hx_38] at v_38
  have hg_38 := rtG_le x_17 x_36
  refine T_eq (pc' := 150) (L' := [(0, .ref 77), (1, .ref fr), (2, .int (nI at0)), (3, .ref 87)]) (st' := [.int (nI ((rtG x_17 x_36)))]) (M' := M_38) rfl rfl rfl rfl ?_
  refine T_istore (L' := [(4, .int (nI ((rtG x_17 x_36)))), (0, .ref 77), (1, .ref fr), (2, .int (nI at0)), (3, .ref 87)]) d_Cu_mapHalf_150 (by decide) rfl ?_
  refine T_aload_n (v := .ref 77) d_Cu_mapHalf_152 rfl (Or.inr ⟨_, rfl⟩) ?_
  have h_49 := (k_38 77 (by decide)).trans (h_37)
  refine T_getfield (v := .ref 96) d_Cu_mapHalf_153 fg_Cu_43 h_49 rfl ?_
  refine T_getstatic (q := ("PasswordGate$Field", "ONE", "[J", .ref 3)) d_Cu_mapHalf_156 (List.mem_of_getElem? (i := 3) rfl) gs_Cu_103 (show 3 < K0 by decide) ?_
  have p_50 := (RV.kp ((RV.kp ((RV.kp ((RV.kp ((RV.kp (p_25) (Ex.kp e_26) (by decide))) (Ex.kp e_28) (by decide))) (Ex.kp e_32) (by decide))) (Ex.kp e_36) (by decide))) k_38 (by decide))
  have p_52 := (RV.kp ((RV.kp (v_32) (Ex.kp e_36) (by decide))) k_38 (by decide))
  refine T_vneg d_Cu_mapHalf_159 (jw_Fi_negate.jo (by decide)) lm_Cu_139 (Nat.le_of_ble_eq_true rfl) (by decide) (by decide) (by decide) (Rv.rq p_52) p_50 (by decide) (fun M_51 v_51 e_51 => ?_)
  obtain ⟨x_52, hx_52⟩ : ∃ z : Int, z = (-cv_3) := ⟨_, rfl⟩
  rw [← hx_52] at v_51
  refine T_iload d_Cu_mapHalf_162 rfl ?_
  refine N_if_ne (b := (rtG x_17 x_36)) d_Cu_mapHalf_164 (tgt := 218) rfl (by omega) (fun hgd => ?_) (fun hgd => ?_)
  ·
    refine T_aload_n (v := .ref 77) d_Cu_mapHalf_218 rfl (Or.inr ⟨_, rfl⟩) ?_
    have h_53 := (e_51 77 (by decide)).trans (h_49)
    refine T_getfield (v := .ref 101) d_Cu_mapHalf_219 fg_Cu_58 h_53 rfl ?_
    refine T_aload_n (v := .ref 77) d_Cu_mapHalf_222 rfl (Or.inr ⟨_, rfl⟩) ?_
    refine T_getfield (v := .ref 101) d_Cu_mapHalf_223 fg_Cu_58 h_53 rfl ?_
    refine T_getstatic (q := ("PasswordGate$Field", "ONE", "[J", .ref 3)) d_Cu_mapHalf_226 (List.mem_of_getElem? (i := 3) rfl) gs_Cu_103 (show 3 < K0 by decide) ?_
    have p_54 := (RV.kp ((RV.kp ((RV.kp ((RV.kp (p_30) (Ex.kp e_32) (by decide))) (Ex.kp e_36) (by decide))) k_38 (by decide))) (Ex.kp e_51) (by decide))
    have p_55 := (RV.kp (p_50) (Ex.kp e_51) (by decide))
    refine T_vsub d_Cu_mapHalf_229 (jw_Fi_subtract.jo (by decide)) lm_Cu_70 (Nat.le_of_ble_eq_true rfl) (by decide) (by decide) (by decide) (Rv.rq p_54) p_54 p_55 (by decide) (fun M_56 v_56 e_56 => ?_)
    obtain ⟨x_56, hx_56⟩ : ∃ z : Int, z = (x_8 - cv_3) := ⟨_, rfl⟩
    rw [← hx_56] at v_56
    refine T_aload_n (v := .ref 77) d_Cu_mapHalf_232 rfl (Or.inr ⟨_, rfl⟩) ?_
    have h_57 := (e_56 77 (by decide)).trans (h_53)
    refine T_getfield (v := .ref 96) d_Cu_mapHalf_233 fg_Cu_43 h_57 rfl ?_
    refine T_aload_n (v := .ref 77) d_Cu_mapHalf_236 rfl (Or.inr ⟨_, rfl⟩) ?_
    refine T_getfield (v := .ref 96) d_Cu_mapHalf_237 fg_Cu_43 h_57 rfl ?_
    refine T_aload_n (v := .ref 77) d_Cu_mapHalf_240 rfl (Or.inr ⟨_, rfl⟩) ?_
    refine T_getfield (v := .ref 101) d_Cu_mapHalf_241 fg_Cu_58 h_57 rfl ?_
    have p_58 := (RV.kp (v_51) (Ex.kp e_56) (by decide))
    refine T_vmul d_Cu_mapHalf_244 (jw_Fi_multiply.jo (by decide)) lm_Cu_74 (Nat.le_of_ble_eq_true rfl) (by decide) (by decide) (by decide) (Rv.rq p_58) p_58 v_56 (by decide) (fun M_59 v_59 e_59 => ?_)
    obtain ⟨x_59, hx_59⟩ : ∃ z : Int, z = (x_52 * x_56) := ⟨_, rfl⟩
    rw [← hx_59] at v_59
    refine T_aload_n (v := .ref 77) d_Cu_mapHalf_247 rfl (Or.inr ⟨_, rfl⟩) ?_
    have h_60 := (e_59 77 (by decide)).trans (h_57)
    refine T_getfield (v := .ref 96) d_Cu_mapHalf_248 fg_Cu_43 h_60 rfl ?_
    refine T_aload_n (v := .ref 77) d_Cu_mapHalf_251 rfl (Or.inr ⟨_, rfl⟩) ?_
    refine T_getfield (v := .ref 96) d_Cu_mapHalf_252 fg_Cu_43 h_60 rfl ?_
    refine T_getstatic (q := ("PasswordGate$Curve", "LESS_ONE_SQUARED", "[J", .ref 6)) d_Cu_mapHalf_255 (List.mem_of_getElem? (i := 6) rfl) gs_Cu_174 (show 6 < K0 by decide) ?_
    have c_61 : RV M 6 cv_6 1 := ⟨_, hK0 6 (by decide), vt_6⟩
    have p_62 := (RV.kp ((RV.kp ((RV.kp ((RV.kp ((RV.kp ((RV.kp ((RV.kp ((RV.kp ((RV.kp ((RV.kp ((RV.kp ((RV.kp ((RV.kp ((RV.kp (c_61) (Ex.kp e_1) (by decide))) (Ex.kp e_3) (by decide))) (Ex.kp e_8) (by decide))) (Ex.kp e_12) (by decide))) (Ex.kp e_17) (by decide))) (Ex.kp e_22) (by decide))) (Ex.kp e_26) (by decide))) (Ex.kp e_28) (by decide))) (Ex.kp e_32) (by decide))) (Ex.kp e_36) (by decide))) k_38 (by decide))) (Ex.kp e_51) (by decide))) (Ex.kp e_56) (by decide))) (Ex.kp e_59) (by decide))
    refine T_vmul d_Cu_mapHalf_258 (jw_Fi_multiply.jo (by decide)) lm_Cu_74 (Nat.le_of_ble_eq_true rfl) (by decide) (by decide) (by decide) (Rv.rq v_59) v_59 p_62 (by decide) (fun M_63 v_63 e_63 => ?_)
    obtain ⟨x_63, hx_63⟩ : ∃ z : Int, z = (x_59 * cv_6) := ⟨_, rfl⟩
    rw [← hx_63] at v_63
    refine T_aload_n (v := .ref 77) d_Cu_mapHalf_261 rfl (Or.inr ⟨_, rfl⟩) ?_
    have h_64 := (e_63 77 (by decide)).trans (h_60)
    refine T_getfield (v := .ref 96) d_Cu_mapHalf_262 fg_Cu_43 h_64 rfl ?_
    refine T_aload_n (v := .ref 77) d_Cu_mapHalf_265 rfl (Or.inr ⟨_, rfl⟩) ?_
    refine T_getfield (v := .ref 96) d_Cu_mapHalf_266 fg_Cu_43 h_64 rfl ?_
    refine T_aload_n (v := .ref 77) d_Cu_mapHalf_269 rfl (Or.inr ⟨_, rfl⟩) ?_
    refine T_getfield (v := .ref 95) d_Cu_mapHalf_270 fg_Cu_40 h_64 rfl ?_
    have p_65 := (RV.kp ((RV.kp ((RV.kp ((RV.kp ((RV.kp (v_36) k_38 (by decide))) (Ex.kp e_51) (by decide))) (Ex.kp e_56) (by decide))) (Ex.kp e_59) (by decide))) (Ex.kp e_63) (by decide))
    refine T_vsub d_Cu_mapHalf_273 (jw_Fi_subtract.jo (by decide)) lm_Cu_70 (Nat.le_of_ble_eq_true rfl) (by decide) (by decide) (by decide) (Rv.rq v_63) v_63 p_65 (by decide) (fun M_66 v_66 e_66 => ?_)
    obtain ⟨x_66, hx_66⟩ : ∃ z : Int, z = (x_63 - x_36) := ⟨_, rfl⟩
    rw [← hx_66] at v_66
    refine T_aload_n (v := .ref 77) d_Cu_mapHalf_276 rfl (Or.inr ⟨_, rfl⟩) ?_
    have h_67 := (e_66 77 (by decide)).trans (h_64)
    refine T_getfield (v := .ref 94) d_Cu_mapHalf_277 fg_Cu_36 h_67 rfl ?_
    refine T_aload_n (v := .ref 77) d_Cu_mapHalf_280 rfl (Or.inr ⟨_, rfl⟩) ?_
    refine T_getfield (v := .ref 102) d_Cu_mapHalf_281 fg_Cu_61 h_67 rfl ?_
    refine T_aload_n (v := .ref 77) d_Cu_mapHalf_284 rfl (Or.inr ⟨_, rfl⟩) ?_
    refine T_getfield (v := .ref 95) d_Cu_mapHalf_285 fg_Cu_40 h_67 rfl ?_
    have p_68 := (RV.kp ((RV.kp ((RV.kp ((RV.kp ((RV.kp (v_38) (Ex.kp e_51) (by decide))) (Ex.kp e_56) (by decide))) (Ex.kp e_59) (by decide))) (Ex.kp e_63) (by decide))) (Ex.kp e_66) (by decide))
    have p_69 := (RV.kp (p_65) (Ex.kp e_66) (by decide))
    have p_71 := (RV.kp ((RV.kp ((RV.kp ((RV.kp ((RV.kp ((RV.kp (p_39) k_38 (by decide))) (Ex.kp e_51) (by decide))) (Ex.kp e_56) (by decide))) (Ex.kp e_59) (by decide))) (Ex.kp e_63) (by decide))) (Ex.kp e_66) (by decide))
    refine T_vmul d_Cu_mapHalf_288 (jw_Fi_multiply.jo (by decide)) lm_Cu_74 (Nat.le_of_ble_eq_true rfl) (by decide) (by decide) (by decide) (Rv.rq p_71) p_68 p_69 (by decide) (fun M_70 v_70 e_70 => ?_)
    obtain ⟨x_71, hx_71⟩ : ∃ z : Int, z = (x_38 * x_36) := ⟨_, rfl⟩
    rw [← hx_71] at v_70
    refine T_aload_n (v := .ref 77) d_Cu_mapHalf_291 rfl (Or.inr ⟨_, rfl⟩) ?_
    have h_72 := (e_70 77 (by decide)).trans (h_67)
    refine T_getfield (v := .ref 94) d_Cu_mapHalf_292 fg_Cu_36 h_72 rfl ?_
    refine T_aload_n (v := .ref 77) d_Cu_mapHalf_295 rfl (Or.inr ⟨_, rfl⟩) ?_
    refine T_getfield (v := .ref 94) d_Cu_mapHalf_296 fg_Cu_36 h_72 rfl ?_
    refine T_aload_n (v := .ref 77) d_Cu_mapHalf_299 rfl (Or.inr ⟨_, rfl⟩) ?_
    refine T_getfield (v := .ref 94) d_Cu_mapHalf_300 fg_Cu_36 h_72 rfl ?_
    refine T_vadd d_Cu_mapHalf_303 (jw_Fi_add.jo (by decide)) lm_Cu_77 (Nat.le_of_ble_eq_true rfl) (by decide) (by decide) (by decide) (Rv.rq v_70) v_70 v_70 (by decide) (fun M_73 v_73 e_73 => ?_)
    obtain ⟨x_73, hx_73⟩ : ∃ z : Int, z = (x_71 + x_71) := ⟨_, rfl⟩
    rw [← hx_73] at v_73
    refine T_aload_n (v := .ref 77) d_Cu_mapHalf_306 rfl (Or.inr ⟨_, rfl⟩) ?_
    have h_74 := (e_73 77 (by decide)).trans (h_72)
    refine T_getfield (v := .ref 95) d_Cu_mapHalf_307 fg_Cu_40 h_74 rfl ?_
    refine T_aload_n (v := .ref 77) d_Cu_mapHalf_310 rfl (Or.inr ⟨_, rfl⟩) ?_
    refine T_getfield (v := .ref 96) d_Cu_mapHalf_311 fg_Cu_43 h_74 rfl ?_
    refine T_getstatic (q := ("PasswordGate$Curve", "G", "[J", .ref 7)) d_Cu_mapHalf_314 (List.mem_of_getElem? (i := 7) rfl) gs_Cu_177 (show 7 < K0 by decide) ?_
    have p_75 := (RV.kp ((RV.kp (v_66) (Ex.kp e_70) (by decide))) (Ex.kp e_73) (by decide))
    have c_76 : RV M 7 cv_7 1 := ⟨_, hK0 7 (by decide), vt_7⟩
    have p_77 := (RV.kp ((RV.kp ((RV.kp ((RV.kp ((RV.kp ((RV.kp ((RV.kp ((RV.kp ((RV.kp ((RV.kp ((RV.kp ((RV.kp ((RV.kp ((RV.kp ((RV.kp ((RV.kp ((RV.kp ((RV.kp (c_76) (Ex.kp e_1) (by decide))) (Ex.kp e_3) (by decide))) (Ex.kp e_8) (by decide))) (Ex.kp e_12) (by decide))) (Ex.kp e_17) (by decide))) (Ex.kp e_22) (by decide))) (Ex.kp e_26) (by decide))) (Ex.kp e_28) (by decide))) (Ex.kp e_32) (by decide))) (Ex.kp e_36) (by decide))) k_38 (by decide))) (Ex.kp e_51) (by decide))) (Ex.kp e_56) (by decide))) (Ex.kp e_59) (by decide))) (Ex.kp e_63) (by decide))) (Ex.kp e_66) (by decide))) (Ex.kp e_70) (by decide))) (Ex.kp e_73) (by decide))
    have p_79 := (RV.kp ((RV.kp (p_69) (Ex.kp e_70) (by decide))) (Ex.kp e_73) (by decide))
    refine T_vmul d_Cu_mapHalf_317 (jw_Fi_multiply.jo (by decide)) lm_Cu_74 (Nat.le_of_ble_eq_true rfl) (by decide) (by decide) (by decide) (Rv.rq p_79) p_75 p_77 (by decide) (fun M_78 v_78 e_78 => ?_)
    obtain ⟨x_79, hx_79⟩ : ∃ z : Int, z = (x_66 * cv_7) := ⟨_, rfl⟩
    rw [← hx_79] at v_78
    refine T_aload_n (v := .ref 77) d_Cu_mapHalf_320 rfl (Or.inr ⟨_, rfl⟩) ?_
    have h_80 := (e_78 77 (by decide)).trans (h_74)
    refine T_getfield (v := .ref 102) d_Cu_mapHalf_321 fg_Cu_61 h_80 rfl ?_
    refine T_aload_n (v := .ref 77) d_Cu_mapHalf_324 rfl (Or.inr ⟨_, rfl⟩) ?_
    refine T_getfield (v := .ref 102) d_Cu_mapHalf_325 fg_Cu_61 h_80 rfl ?_
    refine T_iconst (v := nI 1) d_Cu_mapHalf_328 (by decide) ?_
    have p_81 := (RV.kp ((RV.kp ((RV.kp (p_68) (Ex.kp e_70) (by decide))) (Ex.kp e_73) (by decide))) (Ex.kp e_78) (by decide))
    refine T_vsq1 d_Cu_mapHalf_329 (jw_Fi_square.jo (by decide)) lm_Cu_89 (Nat.le_of_ble_eq_true rfl) (by decide) (by decide) (by decide) (Rv.rq p_81) p_81 (by decide) (fun M_82 v_82 e_82 => ?_)
    obtain ⟨x_82, hx_82⟩ : ∃ z : Int, z = (x_38 * x_38) := ⟨_, rfl⟩
    rw [← hx_82] at v_82
    refine T_aload_n (v := .ref 77) d_Cu_mapHalf_332 rfl (Or.inr ⟨_, rfl⟩) ?_
    have h_83 := (e_82 77 (by decide)).trans (h_80)
    refine T_getfield (v := .ref 96) d_Cu_mapHalf_333 fg_Cu_43 h_83 rfl ?_
    refine T_getstatic (q := ("PasswordGate$Field", "ONE", "[J", .ref 3)) d_Cu_mapHalf_336 (List.mem_of_getElem? (i := 3) rfl) gs_Cu_103 (show 3 < K0 by decide) ?_
    refine T_aload_n (v := .ref 77) d_Cu_mapHalf_339 rfl (Or.inr ⟨_, rfl⟩) ?_
    refine T_getfield (v := .ref 102) d_Cu_mapHalf_340 fg_Cu_61 h_83 rfl ?_
    have p_84 := (RV.kp ((RV.kp ((RV.kp ((RV.kp ((RV.kp ((RV.kp ((RV.kp ((RV.kp (p_55) (Ex.kp e_56) (by decide))) (Ex.kp e_59) (by decide))) (Ex.kp e_63) (by decide))) (Ex.kp e_66) (by decide))) (Ex.kp e_70) (by decide))) (Ex.kp e_73) (by decide))) (Ex.kp e_78) (by decide))) (Ex.kp e_82) (by decide))
    have p_86 := (RV.kp ((RV.kp (p_75) (Ex.kp e_78) (by decide))) (Ex.kp e_82) (by decide))
    refine T_vsub d_Cu_mapHalf_343 (jw_Fi_subtract.jo (by decide)) lm_Cu_70 (Nat.le_of_ble_eq_true rfl) (by decide) (by decide) (by decide) (Rv.rq p_86) p_84 v_82 (by decide) (fun M_85 v_85 e_85 => ?_)
    obtain ⟨x_86, hx_86⟩ : ∃ z : Int, z = (cv_3 - x_82) := ⟨_, rfl⟩
    rw [← hx_86] at v_85
    refine T_aload_n (v := .ref 77) d_Cu_mapHalf_346 rfl (Or.inr ⟨_, rfl⟩) ?_
    have h_87 := (e_85 77 (by decide)).trans (h_83)
    refine T_getfield (v := .ref 102) d_Cu_mapHalf_347 fg_Cu_61 h_87 rfl ?_
    refine T_getstatic (q := ("PasswordGate$Field", "ONE", "[J", .ref 3)) d_Cu_mapHalf_350 (List.mem_of_getElem? (i := 3) rfl) gs_Cu_103 (show 3 < K0 by decide) ?_
    refine T_aload_n (v := .ref 77) d_Cu_mapHalf_353 rfl (Or.inr ⟨_, rfl⟩) ?_
    refine T_getfield (v := .ref 102) d_Cu_mapHalf_354 fg_Cu_61 h_87 rfl ?_
    have p_88 := (RV.kp (p_84) (Ex.kp e_85) (by decide))
    have p_89 := (RV.kp (v_82) (Ex.kp e_85) (by decide))
    refine T_vadd d_Cu_mapHalf_357 (jw_Fi_add.jo (by decide)) lm_Cu_77 (Nat.le_of_ble_eq_true rfl) (by decide) (by decide) (by decide) (Rv.rq p_89) p_88 p_89 (by decide) (fun M_90 v_90 e_90 => ?_)
    obtain ⟨x_90, hx_90⟩ : ∃ z : Int, z = (cv_3 + x_82) := ⟨_, rfl⟩
    rw [← hx_90] at v_90
    refine T_aload_n (v := .ref 87) d_Cu_mapHalf_360 rfl (Or.inr ⟨_, rfl⟩) ?_
    have h_91 := (e_90 87 (by decide)).trans ((e_85 87 (by decide)).trans ((e_82 87 (by decide)).trans ((e_78 87 (by decide)).trans ((e_73 87 (by decide)).trans ((e_70 87 (by decide)).trans ((e_66 87 (by decide)).trans ((e_63 87 (by decide)).trans ((e_59 87 (by decide)).trans ((e_56 87 (by decide)).trans ((e_51 87 (by decide)).trans ((k_38 87 (by decide)).trans ((e_36 87 (by decide)).trans ((e_32 87 (by decide)).trans ((e_28 87 (by decide)).trans ((e_26 87 (by decide)).trans ((e_22 87 (by decide)).trans ((e_17 87 (by decide)).trans ((e_12 87 (by decide)).trans ((e_8 87 (by decide)).trans ((e_3 87 (by decide)).trans ((e_1 87 (by decide)).trans (t0))))))))))))))))))))))
    refine T_getfield (v := .ref 88) d_Cu_mapHalf_361 fg_Cu_67 h_91 rfl ?_
    refine T_aload_n (v := .ref 77) d_Cu_mapHalf_364 rfl (Or.inr ⟨_, rfl⟩) ?_
    have h_92 := (e_90 77 (by decide)).trans (h_87)
    refine T_getfield (v := .ref 94) d_Cu_mapHalf_365 fg_Cu_36 h_92 rfl ?_
    refine T_aload_n (v := .ref 77) d_Cu_mapHalf_368 rfl (Or.inr ⟨_, rfl⟩) ?_
    refine T_getfield (v := .ref 102) d_Cu_mapHalf_369 fg_Cu_61 h_92 rfl ?_
    have p_93 := (RV.kp ((RV.kp ((RV.kp ((RV.kp (v_73) (Ex.kp e_78) (by decide))) (Ex.kp e_82) (by decide))) (Ex.kp e_85) (by decide))) (Ex.kp e_90) (by decide))
    have p_95 := (RQ.kp ((RQ.kp ((RQ.kp ((RQ.kp ((RQ.kp ((RQ.kp ((RQ.kp ((RQ.kp ((RQ.kp ((RQ.kp ((RQ.kp ((RQ.kp ((RQ.kp ((RQ.kp ((RQ.kp ((RQ.kp ((RQ.kp ((RQ.kp ((RQ.kp ((RQ.kp ((RQ.kp ((RQ.kp (t1) (Ex.kp e_1) (by decide))) (Ex.kp e_3) (by decide))) (Ex.kp e_8) (by decide))) (Ex.kp e_12) (by decide))) (Ex.kp e_17) (by decide))) (Ex.kp e_22) (by decide))) (Ex.kp e_26) (by decide))) (Ex.kp e_28) (by decide))) (Ex.kp e_32) (by decide))) (Ex.kp e_36) (by decide))) k_38 (by decide))) (Ex.kp e_51) (by decide))) (Ex.kp e_56) (by decide))) (Ex.kp e_59) (by decide))) (Ex.kp e_63) (by decide))) (Ex.kp e_66) (by decide))) (Ex.kp e_70) (by decide))) (Ex.kp e_73) (by decide))) (Ex.kp e_78) (by decide))) (Ex.kp e_82) (by decide))) (Ex.kp e_85) (by decide))) (Ex.kp e_90) (by decide))
    refine T_vmul d_Cu_mapHalf_372 (jw_Fi_multiply.jo (by decide)) lm_Cu_74 (Nat.le_of_ble_eq_true rfl) (by decide) (by decide) (by decide) p_95 p_93 v_90 (by decide) (fun M_94 v_94 e_94 => ?_)
    obtain ⟨x_95, hx_95⟩ : ∃ z : Int, z = (x_73 * x_90) := ⟨_, rfl⟩
    rw [← hx_95] at v_94
    refine T_aload_n (v := .ref 87) d_Cu_mapHalf_375 rfl (Or.inr ⟨_, rfl⟩) ?_
    have h_96 := (e_94 87 (by decide)).trans (h_91)
    refine T_getfield (v := .ref 89) d_Cu_mapHalf_376 fg_Cu_64 h_96 rfl ?_
    refine T_aload_n (v := .ref 77) d_Cu_mapHalf_379 rfl (Or.inr ⟨_, rfl⟩) ?_
    have h_97 := (e_94 77 (by decide)).trans (h_92)
    refine T_getfield (v := .ref 96) d_Cu_mapHalf_380 fg_Cu_43 h_97 rfl ?_
    refine T_aload_n (v := .ref 77) d_Cu_mapHalf_383 rfl (Or.inr ⟨_, rfl⟩) ?_
    refine T_getfield (v := .ref 95) d_Cu_mapHalf_384 fg_Cu_40 h_97 rfl ?_
    have p_98 := (RV.kp ((RV.kp (v_85) (Ex.kp e_90) (by decide))) (Ex.kp e_94) (by decide))
    have p_99 := (RV.kp ((RV.kp ((RV.kp ((RV.kp (v_78) (Ex.kp e_82) (by decide))) (Ex.kp e_85) (by decide))) (Ex.kp e_90) (by decide))) (Ex.kp e_94) (by decide))
    have p_101 := (RQ.kp ((RQ.kp ((RQ.kp ((RQ.kp ((RQ.kp ((RQ.kp ((RQ.kp ((RQ.kp ((RQ.kp ((RQ.kp ((RQ.kp ((RQ.kp ((RQ.kp ((RQ.kp ((RQ.kp ((RQ.kp ((RQ.kp ((RQ.kp ((RQ.kp ((RQ.kp ((RQ.kp ((RQ.kp ((RQ.kp (t2) (Ex.kp e_1) (by decide))) (Ex.kp e_3) (by decide))) (Ex.kp e_8) (by decide))) (Ex.kp e_12) (by decide))) (Ex.kp e_17) (by decide))) (Ex.kp e_22) (by decide))) (Ex.kp e_26) (by decide))) (Ex.kp e_28) (by decide))) (Ex.kp e_32) (by decide))) (Ex.kp e_36) (by decide))) k_38 (by decide))) (Ex.kp e_51) (by decide))) (Ex.kp e_56) (by decide))) (Ex.kp e_59) (by decide))) (Ex.kp e_63) (by decide))) (Ex.kp e_66) (by decide))) (Ex.kp e_70) (by decide))) (Ex.kp e_73) (by decide))) (Ex.kp e_78) (by decide))) (Ex.kp e_82) (by decide))) (Ex.kp e_85) (by decide))) (Ex.kp e_90) (by decide))) (Ex.kp e_94) (by decide))
    refine T_vmul d_Cu_mapHalf_387 (jw_Fi_multiply.jo (by decide)) lm_Cu_74 (Nat.le_of_ble_eq_true rfl) (by decide) (by decide) (by decide) p_101 p_98 p_99 (by decide) (fun M_100 v_100 e_100 => ?_)
    obtain ⟨x_101, hx_101⟩ : ∃ z : Int, z = (x_86 * x_79) := ⟨_, rfl⟩
    rw [← hx_101] at v_100
    refine T_aload_n (v := .ref 87) d_Cu_mapHalf_390 rfl (Or.inr ⟨_, rfl⟩) ?_
    have h_102 := (e_100 87 (by decide)).trans (h_96)
    refine T_getfield (v := .ref 90) d_Cu_mapHalf_391 fg_Cu_86 h_102 rfl ?_
    refine T_aload_n (v := .ref 77) d_Cu_mapHalf_394 rfl (Or.inr ⟨_, rfl⟩) ?_
    have h_103 := (e_100 77 (by decide)).trans (h_97)
    refine T_getfield (v := .ref 95) d_Cu_mapHalf_395 fg_Cu_40 h_103 rfl ?_
    refine T_aload_n (v := .ref 77) d_Cu_mapHalf_398 rfl (Or.inr ⟨_, rfl⟩) ?_
    refine T_getfield (v := .ref 102) d_Cu_mapHalf_399 fg_Cu_61 h_103 rfl ?_
    have p_104 := (RV.kp (p_99) (Ex.kp e_100) (by decide))
    have p_105 := (RV.kp ((RV.kp (v_90) (Ex.kp e_94) (by decide))) (Ex.kp e_100) (by decide))
    have p_107 := (RQ.kp ((RQ.kp ((RQ.kp ((RQ.kp ((RQ.kp ((RQ.kp ((RQ.kp ((RQ.kp ((RQ.kp ((RQ.kp ((RQ.kp ((RQ.kp ((RQ.kp ((RQ.kp ((RQ.kp ((RQ.kp ((RQ.kp ((RQ.kp ((RQ.kp ((RQ.kp ((RQ.kp ((RQ.kp ((RQ.kp ((RQ.kp (t3) (Ex.kp e_1) (by decide))) (Ex.kp e_3) (by decide))) (Ex.kp e_8) (by decide))) (Ex.kp e_12) (by decide))) (Ex.kp e_17) (by decide))) (Ex.kp e_22) (by decide))) (Ex.kp e_26) (by decide))) (Ex.kp e_28) (by decide))) (Ex.kp e_32) (by decide))) (Ex.kp e_36) (by decide))) k_38 (by decide))) (Ex.kp e_51) (by decide))) (Ex.kp e_56) (by decide))) (Ex.kp e_59) (by decide))) (Ex.kp e_63) (by decide))) (Ex.kp e_66) (by decide))) (Ex.kp e_70) (by decide))) (Ex.kp e_73) (by decide))) (Ex.kp e_78) (by decide))) (Ex.kp e_82) (by decide))) (Ex.kp e_85) (by decide))) (Ex.kp e_90) (by decide))) (Ex.kp e_94) (by decide))) (Ex.kp e_100) (by decide))
    refine T_vmul d_Cu_mapHalf_402 (jw_Fi_multiply.jo (by decide)) lm_Cu_74 (Nat.le_of_ble_eq_true rfl) (by decide) (by decide) (by decide) p_107 p_104 p_105 (by decide) (fun M_106 v_106 e_106 => ?_)
    obtain ⟨x_107, hx_107⟩ : ∃ z : Int, z = (x_79 * x_90) := ⟨_, rfl⟩
    rw [← hx_107] at v_106
    refine T_aload_n (v := .ref 87) d_Cu_mapHalf_405 rfl (Or.inr ⟨_, rfl⟩) ?_
    have h_108 := (e_106 87 (by decide)).trans (h_102)
    refine T_getfield (v := .ref 91) d_Cu_mapHalf_406 fg_Cu_80 h_108 rfl ?_
    refine T_aload_n (v := .ref 77) d_Cu_mapHalf_409 rfl (Or.inr ⟨_, rfl⟩) ?_
    have h_109 := (e_106 77 (by decide)).trans (h_103)
    refine T_getfield (v := .ref 94) d_Cu_mapHalf_410 fg_Cu_36 h_109 rfl ?_
    refine T_aload_n (v := .ref 77) d_Cu_mapHalf_413 rfl (Or.inr ⟨_, rfl⟩) ?_
    refine T_getfield (v := .ref 96) d_Cu_mapHalf_414 fg_Cu_43 h_109 rfl ?_
    have p_110 := (RV.kp ((RV.kp ((RV.kp (p_93) (Ex.kp e_94) (by decide))) (Ex.kp e_100) (by decide))) (Ex.kp e_106) (by decide))
    have p_111 := (RV.kp ((RV.kp (p_98) (Ex.kp e_100) (by decide))) (Ex.kp e_106) (by decide))
    have p_113 := (RQ.kp ((RQ.kp ((RQ.kp ((RQ.kp ((RQ.kp ((RQ.kp ((RQ.kp ((RQ.kp ((RQ.kp ((RQ.kp ((RQ.kp ((RQ.kp ((RQ.kp ((RQ.kp ((RQ.kp ((RQ.kp ((RQ.kp ((RQ.kp ((RQ.kp ((RQ.kp ((RQ.kp ((RQ.kp ((RQ.kp ((RQ.kp ((RQ.kp (t4) (Ex.kp e_1) (by decide))) (Ex.kp e_3) (by decide))) (Ex.kp e_8) (by decide))) (Ex.kp e_12) (by decide))) (Ex.kp e_17) (by decide))) (Ex.kp e_22) (by decide))) (Ex.kp e_26) (by decide))) (Ex.kp e_28) (by decide))) (Ex.kp e_32) (by decide))) (Ex.kp e_36) (by decide))) k_38 (by decide))) (Ex.kp e_51) (by decide))) (Ex.kp e_56) (by decide))) (Ex.kp e_59) (by decide))) (Ex.kp e_63) (by decide))) (Ex.kp e_66) (by decide))) (Ex.kp e_70) (by decide))) (Ex.kp e_73) (by decide))) (Ex.kp e_78) (by decide))) (Ex.kp e_82) (by decide))) (Ex.kp e_85) (by decide))) (Ex.kp e_90) (by decide))) (Ex.kp e_94) (by decide))) (Ex.kp e_100) (by decide))) (Ex.kp e_106) (by decide))
    refine T_vmul d_Cu_mapHalf_417 (jw_Fi_multiply.jo (by decide)) lm_Cu_74 (Nat.le_of_ble_eq_true rfl) (by decide) (by decide) (by decide) p_113 p_110 p_111 (by decide) (fun M_112 v_112 e_112 => ?_)
    obtain ⟨x_113, hx_113⟩ : ∃ z : Int, z = (x_73 * x_86) := ⟨_, rfl⟩
    rw [← hx_113] at v_112
    have t0_ : ph x_1 = ph (nB l at0 % n255) := by rw [hx_1]
    generalize ph (nB l at0 % n255) = t at *
    have r1 : ph x_8 = t * t * fI := by rw [hx_8, ph_mul, hx_4, ph_mul, t0_, ph_I]
    generalize hr : t * t * fI = r at r1
    have uu : ph x_17 = gU_ r := by rw [hx_17, ph_mul, hx_13, ph_add, r1, ph_3, ph_4]; rfl
    have vv : ph x_36 = gV_ r := by rw [hx_36, ph_mul, hx_28, ph_neg, hx_26, ph_add, hx_23, ph_mul, hx_33, ph_add, r1, ph_3, ph_5]; rfl
    have rr_ : ph x_38 = rR (gU_ r) (gV_ r) := by rw [hx_38, ph_rt, uu, vv]
    have gi := rtG_1 x_17 x_36
    rw [uu, vv] at gi
    have gd_ : rG (gU_ r) (gV_ r) := gi.mp (by omega)
    have ss : ph x_38 = gS_ t r := by rw [rr_]; unfold gS_; rw [if_pos gd_]
    have cc : ph x_52 = gC_ t r := by rw [hx_52, ph_neg, ph_3]; unfold gC_; rw [if_pos gd_]
    have nn_ : ph x_66 = gN_ t r := by rw [hx_66, ph_sub, vv, hx_63, ph_mul, hx_59, ph_mul, hx_56, ph_sub, cc, r1, ph_3, ph_6]; rfl
    have w0 : ph x_73 = (gS_ t r + gS_ t r) * gV_ r := by rw [hx_73, ph_add, hx_71, ph_mul, ss, vv]; grobner
    have w1 : ph x_79 = gN_ t r * fG := by rw [hx_79, ph_mul, nn_, ph_7]
    have w2 : ph x_86 = 1 - gS_ t r * gS_ t r := by rw [hx_86, ph_sub, hx_82, ph_mul, ss, ph_3]
    have w3 : ph x_90 = 1 + gS_ t r * gS_ t r := by rw [hx_90, ph_add, hx_82, ph_mul, ss, ph_3]
    have q0 : ph x_95 = gX_ t := by unfold gX_; rw [hr, hx_95, ph_mul, w0, w3]
    have q1 : ph x_101 = gY_ t := by unfold gY_; rw [hr, hx_101, ph_mul, w2, w1]
    have q2 : ph x_107 = gZ_ t := by unfold gZ_; rw [hr, hx_107, ph_mul, w1, w3]
    have q3 : ph x_113 = gT_ t := by unfold gT_; rw [hr, hx_113, ph_mul, w0, w2]
    have J := mPt_pj t
    rw [← q0, ← q1, ← q2, ← q3] at J
    have p_114 := (RV.kp ((RV.kp ((RV.kp (v_94) (Ex.kp e_100) (by decide))) (Ex.kp e_106) (by decide))) (Ex.kp e_112) (by decide))
    have p_115 := (RV.kp ((RV.kp (v_100) (Ex.kp e_106) (by decide))) (Ex.kp e_112) (by decide))
    have p_116 := (RV.kp (v_106) (Ex.kp e_112) (by decide))
    have p_117 := (RV.kp ((RV.kp (p_105) (Ex.kp e_106) (by decide))) (Ex.kp e_112) (by decide))
    have p_118 := (RV.kp ((RV.kp ((RV.kp ((RV.kp ((RV.kp ((RV.kp ((RV.kp ((RV.kp ((RV.kp ((RV.kp ((RV.kp ((RV.kp ((RV.kp (v_56) (Ex.kp e_59) (by decide))) (Ex.kp e_63) (by decide))) (Ex.kp e_66) (by decide))) (Ex.kp e_70) (by decide))) (Ex.kp e_73) (by decide))) (Ex.kp e_78) (by decide))) (Ex.kp e_82) (by decide))) (Ex.kp e_85) (by decide))) (Ex.kp e_90) (by decide))) (Ex.kp e_94) (by decide))) (Ex.kp e_100) (by decide))) (Ex.kp e_106) (by decide))) (Ex.kp e_112) (by decide))
    have p_119 := (RV.kp ((RV.kp ((RV.kp ((RV.kp ((RV.kp ((RV.kp ((RV.kp ((RV.kp ((RV.kp ((RV.kp ((RV.kp ((RV.kp ((RV.kp ((RV.kp ((RV.kp ((RV.kp ((RV.kp ((RV.kp ((RV.kp ((RV.kp ((RV.kp ((RV.kp ((RV.kp ((RV.kp ((RV.kp (v_1) (Ex.kp e_3) (by decide))) (Ex.kp e_8) (by decide))) (Ex.kp e_12) (by decide))) (Ex.kp e_17) (by decide))) (Ex.kp e_22) (by decide))) (Ex.kp e_26) (by decide))) (Ex.kp e_28) (by decide))) (Ex.kp e_32) (by decide))) (Ex.kp e_36) (by decide))) k_38 (by decide))) (Ex.kp e_51) (by decide))) (Ex.kp e_56) (by decide))) (Ex.kp e_59) (by decide))) (Ex.kp e_63) (by decide))) (Ex.kp e_66) (by decide))) (Ex.kp e_70) (by decide))) (Ex.kp e_73) (by decide))) (Ex.kp e_78) (by decide))) (Ex.kp e_82) (by decide))) (Ex.kp e_85) (by decide))) (Ex.kp e_90) (by decide))) (Ex.kp e_94) (by decide))) (Ex.kp e_100) (by decide))) (Ex.kp e_106) (by decide))) (Ex.kp e_112) (by decide))
    have p_120 := (RQ.kp ((RQ.kp ((RQ.kp ((RQ.kp ((RQ.kp ((RQ.kp ((RQ.kp ((RQ.kp ((RQ.kp ((RQ.kp ((RQ.kp ((RQ.kp ((RQ.kp ((RQ.kp ((RQ.kp ((RQ.kp ((RQ.kp ((RQ.kp ((RQ.kp ((RQ.kp ((RQ.kp ((RQ.kp ((RQ.kp ((RQ.kp ((RQ.kp ((RQ.kp ((hcs.2.2 99 (by decide))) (Ex.kp e_1) (by decide))) (Ex.kp e_3) (by decide))) (Ex.kp e_8) (by decide))) (Ex.kp e_12) (by decide))) (Ex.kp e_17) (by decide))) (Ex.kp e_22) (by decide))) (Ex.kp e_26) (by decide))) (Ex.kp e_28) (by decide))) (Ex.kp e_32) (by decide))) (Ex.kp e_36) (by decide))) k_38 (by decide))) (Ex.kp e_51) (by decide))) (Ex.kp e_56) (by decide))) (Ex.kp e_59) (by decide))) (Ex.kp e_63) (by decide))) (Ex.kp e_66) (by decide))) (Ex.kp e_70) (by decide))) (Ex.kp e_73) (by decide))) (Ex.kp e_78) (by decide))) (Ex.kp e_82) (by decide))) (Ex.kp e_85) (by decide))) (Ex.kp e_90) (by decide))) (Ex.kp e_94) (by decide))) (Ex.kp e_100) (by decide))) (Ex.kp e_106) (by decide))) (Ex.kp e_112) (by decide))
    have p_121 := (RQ.kp ((RQ.kp ((RQ.kp ((RQ.kp ((RQ.kp ((RQ.kp ((RQ.kp ((RQ.kp ((RQ.kp ((RQ.kp ((RQ.kp ((RQ.kp ((RQ.kp ((RQ.kp ((RQ.kp ((RQ.kp ((RQ.kp ((RQ.kp ((RQ.kp ((RQ.kp ((RQ.kp ((RQ.kp ((RQ.kp ((RQ.kp ((RQ.kp ((RQ.kp ((hcs.2.2 98 (by decide))) (Ex.kp e_1) (by decide))) (Ex.kp e_3) (by decide))) (Ex.kp e_8) (by decide))) (Ex.kp e_12) (by decide))) (Ex.kp e_17) (by decide))) (Ex.kp e_22) (by decide))) (Ex.kp e_26) (by decide))) (Ex.kp e_28) (by decide))) (Ex.kp e_32) (by decide))) (Ex.kp e_36) (by decide))) k_38 (by decide))) (Ex.kp e_51) (by decide))) (Ex.kp e_56) (by decide))) (Ex.kp e_59) (by decide))) (Ex.kp e_63) (by decide))) (Ex.kp e_66) (by decide))) (Ex.kp e_70) (by decide))) (Ex.kp e_73) (by decide))) (Ex.kp e_78) (by decide))) (Ex.kp e_82) (by decide))) (Ex.kp e_85) (by decide))) (Ex.kp e_90) (by decide))) (Ex.kp e_94) (by decide))) (Ex.kp e_100) (by decide))) (Ex.kp e_106) (by decide))) (Ex.kp e_112) (by decide))
    have p_122 := (RQ.kp ((RQ.kp ((RQ.kp ((RQ.kp ((RQ.kp ((RQ.kp ((RQ.kp ((RQ.kp ((RQ.kp ((RQ.kp ((RQ.kp ((RQ.kp ((RQ.kp ((RQ.kp ((RQ.kp ((RQ.kp ((RQ.kp ((RQ.kp ((RQ.kp ((RQ.kp ((RQ.kp ((RQ.kp ((RQ.kp ((RQ.kp ((RQ.kp ((RQ.kp ((hcs.2.2 97 (by decide))) (Ex.kp e_1) (by decide))) (Ex.kp e_3) (by decide))) (Ex.kp e_8) (by decide))) (Ex.kp e_12) (by decide))) (Ex.kp e_17) (by decide))) (Ex.kp e_22) (by decide))) (Ex.kp e_26) (by decide))) (Ex.kp e_28) (by decide))) (Ex.kp e_32) (by decide))) (Ex.kp e_36) (by decide))) k_38 (by decide))) (Ex.kp e_51) (by decide))) (Ex.kp e_56) (by decide))) (Ex.kp e_59) (by decide))) (Ex.kp e_63) (by decide))) (Ex.kp e_66) (by decide))) (Ex.kp e_70) (by decide))) (Ex.kp e_73) (by decide))) (Ex.kp e_78) (by decide))) (Ex.kp e_82) (by decide))) (Ex.kp e_85) (by decide))) (Ex.kp e_90) (by decide))) (Ex.kp e_94) (by decide))) (Ex.kp e_100) (by decide))) (Ex.kp e_106) (by decide))) (Ex.kp e_112) (by decide))
    have p_123 := (RV.kp (p_111) (Ex.kp e_112) (by decide))
    have p_124 := (RV.kp ((RV.kp (p_104) (Ex.kp e_106) (by decide))) (Ex.kp e_112) (by decide))
    have p_125 := (RV.kp (p_110) (Ex.kp e_112) (by decide))
    have p_126 := (RQ.kp ((RQ.kp ((RQ.kp ((RQ.kp ((RQ.kp ((RQ.kp ((RQ.kp ((RQ.kp ((RQ.kp ((RQ.kp ((RQ.kp ((RQ.kp ((RQ.kp ((RQ.kp ((RQ.kp (q85_38) (Ex.kp e_51) (by decide))) (Ex.kp e_56) (by decide))) (Ex.kp e_59) (by decide))) (Ex.kp e_63) (by decide))) (Ex.kp e_66) (by decide))) (Ex.kp e_70) (by decide))) (Ex.kp e_73) (by decide))) (Ex.kp e_78) (by decide))) (Ex.kp e_82) (by decide))) (Ex.kp e_85) (by decide))) (Ex.kp e_90) (by decide))) (Ex.kp e_94) (by decide))) (Ex.kp e_100) (by decide))) (Ex.kp e_106) (by decide))) (Ex.kp e_112) (by decide))
    have p_127 := (RQ.kp ((RQ.kp ((RQ.kp ((RQ.kp ((RQ.kp ((RQ.kp ((RQ.kp ((RQ.kp ((RQ.kp ((RQ.kp ((RQ.kp ((RQ.kp ((RQ.kp ((RQ.kp ((RQ.kp (q84_38) (Ex.kp e_51) (by decide))) (Ex.kp e_56) (by decide))) (Ex.kp e_59) (by decide))) (Ex.kp e_63) (by decide))) (Ex.kp e_66) (by decide))) (Ex.kp e_70) (by decide))) (Ex.kp e_73) (by decide))) (Ex.kp e_78) (by decide))) (Ex.kp e_82) (by decide))) (Ex.kp e_85) (by decide))) (Ex.kp e_90) (by decide))) (Ex.kp e_94) (by decide))) (Ex.kp e_100) (by decide))) (Ex.kp e_106) (by decide))) (Ex.kp e_112) (by decide))
    have p_128 := (RQ.kp ((RQ.kp ((RQ.kp ((RQ.kp ((RQ.kp ((RQ.kp ((RQ.kp ((RQ.kp ((RQ.kp ((RQ.kp ((RQ.kp ((RQ.kp ((RQ.kp ((RQ.kp ((RQ.kp (q83_38) (Ex.kp e_51) (by decide))) (Ex.kp e_56) (by decide))) (Ex.kp e_59) (by decide))) (Ex.kp e_63) (by decide))) (Ex.kp e_66) (by decide))) (Ex.kp e_70) (by decide))) (Ex.kp e_73) (by decide))) (Ex.kp e_78) (by decide))) (Ex.kp e_82) (by decide))) (Ex.kp e_85) (by decide))) (Ex.kp e_90) (by decide))) (Ex.kp e_94) (by decide))) (Ex.kp e_100) (by decide))) (Ex.kp e_106) (by decide))) (Ex.kp e_112) (by decide))
    have p_129 := (RQ.kp ((RQ.kp ((RQ.kp ((RQ.kp ((RQ.kp ((RQ.kp ((RQ.kp ((RQ.kp ((RQ.kp ((RQ.kp ((RQ.kp ((RQ.kp ((RQ.kp ((RQ.kp ((RQ.kp (q82_38) (Ex.kp e_51) (by decide))) (Ex.kp e_56) (by decide))) (Ex.kp e_59) (by decide))) (Ex.kp e_63) (by decide))) (Ex.kp e_66) (by decide))) (Ex.kp e_70) (by decide))) (Ex.kp e_73) (by decide))) (Ex.kp e_78) (by decide))) (Ex.kp e_82) (by decide))) (Ex.kp e_85) (by decide))) (Ex.kp e_90) (by decide))) (Ex.kp e_94) (by decide))) (Ex.kp e_100) (by decide))) (Ex.kp e_106) (by decide))) (Ex.kp e_112) (by decide))
    have p_130 := (RQ.kp ((RQ.kp ((RQ.kp ((RQ.kp ((RQ.kp ((RQ.kp ((RQ.kp ((RQ.kp ((RQ.kp ((RQ.kp ((RQ.kp ((RQ.kp ((RQ.kp ((RQ.kp ((RQ.kp (q81_38) (Ex.kp e_51) (by decide))) (Ex.kp e_56) (by decide))) (Ex.kp e_59) (by decide))) (Ex.kp e_63) (by decide))) (Ex.kp e_66) (by decide))) (Ex.kp e_70) (by decide))) (Ex.kp e_73) (by decide))) (Ex.kp e_78) (by decide))) (Ex.kp e_82) (by decide))) (Ex.kp e_85) (by decide))) (Ex.kp e_90) (by decide))) (Ex.kp e_94) (by decide))) (Ex.kp e_100) (by decide))) (Ex.kp e_106) (by decide))) (Ex.kp e_112) (by decide))
    have p_131 := (RQ.kp ((RQ.kp ((RQ.kp ((RQ.kp ((RQ.kp ((RQ.kp ((RQ.kp ((RQ.kp ((RQ.kp ((RQ.kp ((RQ.kp ((RQ.kp ((RQ.kp ((RQ.kp ((RQ.kp (q80_38) (Ex.kp e_51) (by decide))) (Ex.kp e_56) (by decide))) (Ex.kp e_59) (by decide))) (Ex.kp e_63) (by decide))) (Ex.kp e_66) (by decide))) (Ex.kp e_70) (by decide))) (Ex.kp e_73) (by decide))) (Ex.kp e_78) (by decide))) (Ex.kp e_82) (by decide))) (Ex.kp e_85) (by decide))) (Ex.kp e_90) (by decide))) (Ex.kp e_94) (by decide))) (Ex.kp e_100) (by decide))) (Ex.kp e_106) (by decide))) (Ex.kp e_112) (by decide))
    have p_132 := (RQ.kp ((RQ.kp ((RQ.kp ((RQ.kp ((RQ.kp ((RQ.kp ((RQ.kp ((RQ.kp ((RQ.kp ((RQ.kp ((RQ.kp ((RQ.kp ((RQ.kp ((RQ.kp ((RQ.kp (q79_38) (Ex.kp e_51) (by decide))) (Ex.kp e_56) (by decide))) (Ex.kp e_59) (by decide))) (Ex.kp e_63) (by decide))) (Ex.kp e_66) (by decide))) (Ex.kp e_70) (by decide))) (Ex.kp e_73) (by decide))) (Ex.kp e_78) (by decide))) (Ex.kp e_82) (by decide))) (Ex.kp e_85) (by decide))) (Ex.kp e_90) (by decide))) (Ex.kp e_94) (by decide))) (Ex.kp e_100) (by decide))) (Ex.kp e_106) (by decide))) (Ex.kp e_112) (by decide))
    have h_133 := (e_112 77 (by decide)).trans (h_109)
    have h_134 := (e_112 78 (by decide)).trans ((e_106 78 (by decide)).trans ((e_100 78 (by decide)).trans ((e_94 78 (by decide)).trans ((e_90 78 (by decide)).trans ((e_85 78 (by decide)).trans ((e_82 78 (by decide)).trans ((e_78 78 (by decide)).trans ((e_73 78 (by decide)).trans ((e_70 78 (by decide)).trans ((e_66 78 (by decide)).trans ((e_63 78 (by decide)).trans ((e_59 78 (by decide)).trans ((e_56 78 (by decide)).trans ((e_51 78 (by decide)).trans ((k_38 78 (by decide)).trans (h_40))))))))))))))))
    have h_135 := (e_112 87 (by decide)).trans (h_108)
    exact T_vret d_Cu_mapHalf_420 rfl (by decide) (by decide) ⟨rfl, ⟨h_133, h_134, (List.forall_mem_cons.mpr ⟨p_132, (List.forall_mem_cons.mpr ⟨p_131, (List.forall_mem_cons.mpr ⟨p_130, (List.forall_mem_cons.mpr ⟨p_129, (List.forall_mem_cons.mpr ⟨p_128, (List.forall_mem_cons.mpr ⟨p_127, (List.forall_mem_cons.mpr ⟨p_126, (List.forall_mem_cons.mpr ⟨(Rv.rq p_125), (List.forall_mem_cons.mpr ⟨(Rv.rq p_124), (List.forall_mem_cons.mpr ⟨(Rv.rq p_123), (List.forall_mem_cons.mpr ⟨p_122, (List.forall_mem_cons.mpr ⟨p_121, (List.forall_mem_cons.mpr ⟨p_120, (List.forall_mem_cons.mpr ⟨(Rv.rq p_119), (List.forall_mem_cons.mpr ⟨(Rv.rq p_118), (List.forall_mem_cons.mpr ⟨(Rv.rq p_117), (fun _ h => absurd h (List.not_mem_nil))⟩)⟩)⟩)⟩)⟩)⟩)⟩)⟩)⟩)⟩)⟩)⟩)⟩)⟩)⟩)⟩)⟩, ⟨h_135, _, _, _, _, Rv.up p_114 (by decide), p_115, p_116, v_112, J⟩, (Kp.ex (Kp.ex (Kp.ex (Kp.ex (Kp.ex (Kp.ex (Kp.ex (Kp.ex (Kp.ex (Kp.ex (Kp.ex (Kp.ex (Kp.ex (Kp.ex (Kp.ex (Kp.tr (Kp.ex (Kp.ex (Kp.ex (Kp.ex (Kp.ex (Kp.ex (Kp.ex (Kp.ex (Kp.ex (Kp.ex (Kp.rf : Kp [79, 80, 81, 82, 83, 84, 85, 94, 95, 96, 97, 98, 99, 100, 101, 102, 88, 89, 90, 91] M M) e_1 (by decide)) e_3 (by decide)) e_8 (by decide)) e_12 (by decide)) e_17 (by decide)) e_22 (by decide)) e_26 (by decide)) e_28 (by decide)) e_32 (by decide)) e_36 (by decide)) (Kp.mono k_38 (by decide))) e_51 (by decide)) e_56 (by decide)) e_59 (by decide)) e_63 (by decide)) e_66 (by decide)) e_70 (by decide)) e_73 (by decide)) e_78 (by decide)) e_82 (by decide)) e_85 (by decide)) e_90 (by decide)) e_94 (by decide)) e_100 (by decide)) e_106 (by decide)) e_112 (by decide))⟩
  ·
    refine T_aload_n (v := .ref 77) d_Cu_mapHalf_167 rfl (Or.inr ⟨_, rfl⟩) ?_
    have h_136 := (e_51 77 (by decide)).trans (h_49)
    refine T_getfield (v := .ref 102) d_Cu_mapHalf_168 fg_Cu_61 h_136 rfl ?_
    refine T_aload_n (v := .ref 77) d_Cu_mapHalf_171 rfl (Or.inr ⟨_, rfl⟩) ?_
    refine T_getfield (v := .ref 102) d_Cu_mapHalf_172 fg_Cu_61 h_136 rfl ?_
    refine T_aload_n (v := .ref 77) d_Cu_mapHalf_175 rfl (Or.inr ⟨_, rfl⟩) ?_
    refine T_getfield (v := .ref 100) d_Cu_mapHalf_176 fg_Cu_55 h_136 rfl ?_
    have p_137 := (RV.kp (v_38) (Ex.kp e_51) (by decide))
    have p_138 := (RV.kp ((RV.kp ((RV.kp ((RV.kp ((RV.kp ((RV.kp ((RV.kp ((RV.kp ((RV.kp ((RV.kp ((RV.kp (v_1) (Ex.kp e_3) (by decide))) (Ex.kp e_8) (by decide))) (Ex.kp e_12) (by decide))) (Ex.kp e_17) (by decide))) (Ex.kp e_22) (by decide))) (Ex.kp e_26) (by decide))) (Ex.kp e_28) (by decide))) (Ex.kp e_32) (by decide))) (Ex.kp e_36) (by decide))) k_38 (by decide))) (Ex.kp e_51) (by decide))
    refine T_vmul d_Cu_mapHalf_179 (jw_Fi_multiply.jo (by decide)) lm_Cu_74 (Nat.le_of_ble_eq_true rfl) (by decide) (by decide) (by decide) (Rv.rq p_137) p_137 p_138 (by decide) (fun M_139 v_139 e_139 => ?_)
    obtain ⟨x_139, hx_139⟩ : ∃ z : Int, z = (x_38 * x_1) := ⟨_, rfl⟩
    rw [← hx_139] at v_139
    refine T_aload_n (v := .ref 77) d_Cu_mapHalf_182 rfl (Or.inr ⟨_, rfl⟩) ?_
    have h_140 := (e_139 77 (by decide)).trans (h_136)
    refine T_getfield (v := .ref 78) d_Cu_mapHalf_183 fg_Cu_10 h_140 rfl ?_
    refine T_aload_n (v := .ref 77) d_Cu_mapHalf_186 rfl (Or.inr ⟨_, rfl⟩) ?_
    refine T_getfield (v := .ref 102) d_Cu_mapHalf_187 fg_Cu_61 h_140 rfl ?_
    have h_142 := (e_139 78 (by decide)).trans ((e_51 78 (by decide)).trans ((k_38 78 (by decide)).trans (h_40)))
    have p_143 := (RQ.kp ((RQ.kp (q79_38) (Ex.kp e_51) (by decide))) (Ex.kp e_139) (by decide))
    refine T_visodd d_Cu_mapHalf_190 (jw_Fi_isOdd.jo (by decide)) lm_Cu_127 (Nat.le_of_ble_eq_true rfl) (by decide) (by decide) h_142 p_143 v_139 (by decide) (fun M_141 w_141 e_141 => ?_)
    by_cases hb_141 : (x_139 % pP) % 2 = 1
    · rw [if_pos hb_141]
      refine T_eq (pc' := 193) (L' := [(4, .int (nI ((rtG x_17 x_36)))), (0, .ref 77), (1, .ref fr), (2, .int (nI at0)), (3, .ref 87)]) (st' := [.int (nI 1)]) (M' := M_141) rfl rfl rfl rfl ?_
      refine N_if_ne_t (b := 1) d_Cu_mapHalf_193 (tgt := 207) rfl (by omega) (by omega) ?_
      refine T_aload_n (v := .ref 77) d_Cu_mapHalf_207 rfl (Or.inr ⟨_, rfl⟩) ?_
      have h_144 := (e_141 77 (by decide)).trans (h_140)
      refine T_getfield (v := .ref 96) d_Cu_mapHalf_208 fg_Cu_43 h_144 rfl ?_
      refine T_aload_n (v := .ref 77) d_Cu_mapHalf_211 rfl (Or.inr ⟨_, rfl⟩) ?_
      refine T_getfield (v := .ref 101) d_Cu_mapHalf_212 fg_Cu_58 h_144 rfl ?_
      have p_145 := (RV.kp ((RV.kp ((RV.kp ((RV.kp ((RV.kp ((RV.kp (p_30) (Ex.kp e_32) (by decide))) (Ex.kp e_36) (by decide))) k_38 (by decide))) (Ex.kp e_51) (by decide))) (Ex.kp e_139) (by decide))) (Ex.kp e_141) (by decide))
      have p_147 := (RV.kp ((RV.kp (v_51) (Ex.kp e_139) (by decide))) (Ex.kp e_141) (by decide))
      refine T_vcopy d_Cu_mapHalf_215 (jw_Fi_copy.jo (by decide)) lm_Cu_137 (Nat.le_of_ble_eq_true rfl) (by decide) (by decide) (by decide) (Rv.rq p_147) p_145 (fun M_146 v_146 e_146 => ?_)
      refine T_aload_n (v := .ref 77) d_Cu_mapHalf_218 rfl (Or.inr ⟨_, rfl⟩) ?_
      have h_148 := (e_146 77 (by decide)).trans (h_144)
      refine T_getfield (v := .ref 101) d_Cu_mapHalf_219 fg_Cu_58 h_148 rfl ?_
      refine T_aload_n (v := .ref 77) d_Cu_mapHalf_222 rfl (Or.inr ⟨_, rfl⟩) ?_
      refine T_getfield (v := .ref 101) d_Cu_mapHalf_223 fg_Cu_58 h_148 rfl ?_
      refine T_getstatic (q := ("PasswordGate$Field", "ONE", "[J", .ref 3)) d_Cu_mapHalf_226 (List.mem_of_getElem? (i := 3) rfl) gs_Cu_103 (show 3 < K0 by decide) ?_
      have p_149 := (RV.kp (p_145) (Ex.kp e_146) (by decide))
      have p_150 := (RV.kp ((RV.kp ((RV.kp ((RV.kp (p_50) (Ex.kp e_51) (by decide))) (Ex.kp e_139) (by decide))) (Ex.kp e_141) (by decide))) (Ex.kp e_146) (by decide))
      refine T_vsub d_Cu_mapHalf_229 (jw_Fi_subtract.jo (by decide)) lm_Cu_70 (Nat.le_of_ble_eq_true rfl) (by decide) (by decide) (by decide) (Rv.rq p_149) p_149 p_150 (by decide) (fun M_151 v_151 e_151 => ?_)
      obtain ⟨x_151, hx_151⟩ : ∃ z : Int, z = (x_8 - cv_3) := ⟨_, rfl⟩
      rw [← hx_151] at v_151
      refine T_aload_n (v := .ref 77) d_Cu_mapHalf_232 rfl (Or.inr ⟨_, rfl⟩) ?_
      have h_152 := (e_151 77 (by decide)).trans (h_148)
      refine T_getfield (v := .ref 96) d_Cu_mapHalf_233 fg_Cu_43 h_152 rfl ?_
      refine T_aload_n (v := .ref 77) d_Cu_mapHalf_236 rfl (Or.inr ⟨_, rfl⟩) ?_
      refine T_getfield (v := .ref 96) d_Cu_mapHalf_237 fg_Cu_43 h_152 rfl ?_
      refine T_aload_n (v := .ref 77) d_Cu_mapHalf_240 rfl (Or.inr ⟨_, rfl⟩) ?_
      refine T_getfield (v := .ref 101) d_Cu_mapHalf_241 fg_Cu_58 h_152 rfl ?_
      have p_153 := (RV.kp (v_146) (Ex.kp e_151) (by decide))
      refine T_vmul d_Cu_mapHalf_244 (jw_Fi_multiply.jo (by decide)) lm_Cu_74 (Nat.le_of_ble_eq_true rfl) (by decide) (by decide) (by decide) (Rv.rq p_153) p_153 v_151 (by decide) (fun M_154 v_154 e_154 => ?_)
      obtain ⟨x_154, hx_154⟩ : ∃ z : Int, z = (x_8 * x_151) := ⟨_, rfl⟩
      rw [← hx_154] at v_154
      refine T_aload_n (v := .ref 77) d_Cu_mapHalf_247 rfl (Or.inr ⟨_, rfl⟩) ?_
      have h_155 := (e_154 77 (by decide)).trans (h_152)
      refine T_getfield (v := .ref 96) d_Cu_mapHalf_248 fg_Cu_43 h_155 rfl ?_
      refine T_aload_n (v := .ref 77) d_Cu_mapHalf_251 rfl (Or.inr ⟨_, rfl⟩) ?_
      refine T_getfield (v := .ref 96) d_Cu_mapHalf_252 fg_Cu_43 h_155 rfl ?_
      refine T_getstatic (q := ("PasswordGate$Curve", "LESS_ONE_SQUARED", "[J", .ref 6)) d_Cu_mapHalf_255 (List.mem_of_getElem? (i := 6) rfl) gs_Cu_174 (show 6 < K0 by decide) ?_
      have c_156 : RV M 6 cv_6 1 := ⟨_, hK0 6 (by decide), vt_6⟩
      have p_157 := (RV.kp ((RV.kp ((RV.kp ((RV.kp ((RV.kp ((RV.kp ((RV.kp ((RV.kp ((RV.kp ((RV.kp ((RV.kp ((RV.kp ((RV.kp ((RV.kp ((RV.kp ((RV.kp ((RV.kp (c_156) (Ex.kp e_1) (by decide))) (Ex.kp e_3) (by decide))) (Ex.kp e_8) (by decide))) (Ex.kp e_12) (by decide))) (Ex.kp e_17) (by decide))) (Ex.kp e_22) (by decide))) (Ex.kp e_26) (by decide))) (Ex.kp e_28) (by decide))) (Ex.kp e_32) (by decide))) (Ex.kp e_36) (by decide))) k_38 (by decide))) (Ex.kp e_51) (by decide))) (Ex.kp e_139) (by decide))) (Ex.kp e_141) (by decide))) (Ex.kp e_146) (by decide))) (Ex.kp e_151) (by decide))) (Ex.kp e_154) (by decide))
      refine T_vmul d_Cu_mapHalf_258 (jw_Fi_multiply.jo (by decide)) lm_Cu_74 (Nat.le_of_ble_eq_true rfl) (by decide) (by decide) (by decide) (Rv.rq v_154) v_154 p_157 (by decide) (fun M_158 v_158 e_158 => ?_)
      obtain ⟨x_158, hx_158⟩ : ∃ z : Int, z = (x_154 * cv_6) := ⟨_, rfl⟩
      rw [← hx_158] at v_158
      refine T_aload_n (v := .ref 77) d_Cu_mapHalf_261 rfl (Or.inr ⟨_, rfl⟩) ?_
      have h_159 := (e_158 77 (by decide)).trans (h_155)
      refine T_getfield (v := .ref 96) d_Cu_mapHalf_262 fg_Cu_43 h_159 rfl ?_
      refine T_aload_n (v := .ref 77) d_Cu_mapHalf_265 rfl (Or.inr ⟨_, rfl⟩) ?_
      refine T_getfield (v := .ref 96) d_Cu_mapHalf_266 fg_Cu_43 h_159 rfl ?_
      refine T_aload_n (v := .ref 77) d_Cu_mapHalf_269 rfl (Or.inr ⟨_, rfl⟩) ?_
      refine T_getfield (v := .ref 95) d_Cu_mapHalf_270 fg_Cu_40 h_159 rfl ?_
      have p_160 := (RV.kp ((RV.kp ((RV.kp ((RV.kp ((RV.kp ((RV.kp ((RV.kp ((RV.kp (v_36) k_38 (by decide))) (Ex.kp e_51) (by decide))) (Ex.kp e_139) (by decide))) (Ex.kp e_141) (by decide))) (Ex.kp e_146) (by decide))) (Ex.kp e_151) (by decide))) (Ex.kp e_154) (by decide))) (Ex.kp e_158) (by decide))
      refine T_vsub d_Cu_mapHalf_273 (jw_Fi_subtract.jo (by decide)) lm_Cu_70 (Nat.le_of_ble_eq_true rfl) (by decide) (by decide) (by decide) (Rv.rq v_158) v_158 p_160 (by decide) (fun M_161 v_161 e_161 => ?_)
      obtain ⟨x_161, hx_161⟩ : ∃ z : Int, z = (x_158 - x_36) := ⟨_, rfl⟩
      rw [← hx_161] at v_161
      refine T_aload_n (v := .ref 77) d_Cu_mapHalf_276 rfl (Or.inr ⟨_, rfl⟩) ?_
      have h_162 := (e_161 77 (by decide)).trans (h_159)
      refine T_getfield (v := .ref 94) d_Cu_mapHalf_277 fg_Cu_36 h_162 rfl ?_
      refine T_aload_n (v := .ref 77) d_Cu_mapHalf_280 rfl (Or.inr ⟨_, rfl⟩) ?_
      refine T_getfield (v := .ref 102) d_Cu_mapHalf_281 fg_Cu_61 h_162 rfl ?_
      refine T_aload_n (v := .ref 77) d_Cu_mapHalf_284 rfl (Or.inr ⟨_, rfl⟩) ?_
      refine T_getfield (v := .ref 95) d_Cu_mapHalf_285 fg_Cu_40 h_162 rfl ?_
      have p_163 := (RV.kp ((RV.kp ((RV.kp ((RV.kp ((RV.kp ((RV.kp (v_139) (Ex.kp e_141) (by decide))) (Ex.kp e_146) (by decide))) (Ex.kp e_151) (by decide))) (Ex.kp e_154) (by decide))) (Ex.kp e_158) (by decide))) (Ex.kp e_161) (by decide))
      have p_164 := (RV.kp (p_160) (Ex.kp e_161) (by decide))
      have p_166 := (RV.kp ((RV.kp ((RV.kp ((RV.kp ((RV.kp ((RV.kp ((RV.kp ((RV.kp ((RV.kp (p_39) k_38 (by decide))) (Ex.kp e_51) (by decide))) (Ex.kp e_139) (by decide))) (Ex.kp e_141) (by decide))) (Ex.kp e_146) (by decide))) (Ex.kp e_151) (by decide))) (Ex.kp e_154) (by decide))) (Ex.kp e_158) (by decide))) (Ex.kp e_161) (by decide))
      refine T_vmul d_Cu_mapHalf_288 (jw_Fi_multiply.jo (by decide)) lm_Cu_74 (Nat.le_of_ble_eq_true rfl) (by decide) (by decide) (by decide) (Rv.rq p_166) p_163 p_164 (by decide) (fun M_165 v_165 e_165 => ?_)
      obtain ⟨x_166, hx_166⟩ : ∃ z : Int, z = (x_139 * x_36) := ⟨_, rfl⟩
      rw [← hx_166] at v_165
      refine T_aload_n (v := .ref 77) d_Cu_mapHalf_291 rfl (Or.inr ⟨_, rfl⟩) ?_
      have h_167 := (e_165 77 (by decide)).trans (h_162)
      refine T_getfield (v := .ref 94) d_Cu_mapHalf_292 fg_Cu_36 h_167 rfl ?_
      refine T_aload_n (v := .ref 77) d_Cu_mapHalf_295 rfl (Or.inr ⟨_, rfl⟩) ?_
      refine T_getfield (v := .ref 94) d_Cu_mapHalf_296 fg_Cu_36 h_167 rfl ?_
      refine T_aload_n (v := .ref 77) d_Cu_mapHalf_299 rfl (Or.inr ⟨_, rfl⟩) ?_
      refine T_getfield (v := .ref 94) d_Cu_mapHalf_300 fg_Cu_36 h_167 rfl ?_
      refine T_vadd d_Cu_mapHalf_303 (jw_Fi_add.jo (by decide)) lm_Cu_77 (Nat.le_of_ble_eq_true rfl) (by decide) (by decide) (by decide) (Rv.rq v_165) v_165 v_165 (by decide) (fun M_168 v_168 e_168 => ?_)
      obtain ⟨x_168, hx_168⟩ : ∃ z : Int, z = (x_166 + x_166) := ⟨_, rfl⟩
      rw [← hx_168] at v_168
      refine T_aload_n (v := .ref 77) d_Cu_mapHalf_306 rfl (Or.inr ⟨_, rfl⟩) ?_
      have h_169 := (e_168 77 (by decide)).trans (h_167)
      refine T_getfield (v := .ref 95) d_Cu_mapHalf_307 fg_Cu_40 h_169 rfl ?_
      refine T_aload_n (v := .ref 77) d_Cu_mapHalf_310 rfl (Or.inr ⟨_, rfl⟩) ?_
      refine T_getfield (v := .ref 96) d_Cu_mapHalf_311 fg_Cu_43 h_169 rfl ?_
      refine T_getstatic (q := ("PasswordGate$Curve", "G", "[J", .ref 7)) d_Cu_mapHalf_314 (List.mem_of_getElem? (i := 7) rfl) gs_Cu_177 (show 7 < K0 by decide) ?_
      have p_170 := (RV.kp ((RV.kp (v_161) (Ex.kp e_165) (by decide))) (Ex.kp e_168) (by decide))
      have c_171 : RV M 7 cv_7 1 := ⟨_, hK0 7 (by decide), vt_7⟩
      have p_172 := (RV.kp ((RV.kp ((RV.kp ((RV.kp ((RV.kp ((RV.kp ((RV.kp ((RV.kp ((RV.kp ((RV.kp ((RV.kp ((RV.kp ((RV.kp ((RV.kp ((RV.kp ((RV.kp ((RV.kp ((RV.kp ((RV.kp ((RV.kp ((RV.kp (c_171) (Ex.kp e_1) (by decide))) (Ex.kp e_3) (by decide))) (Ex.kp e_8) (by decide))) (Ex.kp e_12) (by decide))) (Ex.kp e_17) (by decide))) (Ex.kp e_22) (by decide))) (Ex.kp e_26) (by decide))) (Ex.kp e_28) (by decide))) (Ex.kp e_32) (by decide))) (Ex.kp e_36) (by decide))) k_38 (by decide))) (Ex.kp e_51) (by decide))) (Ex.kp e_139) (by decide))) (Ex.kp e_141) (by decide))) (Ex.kp e_146) (by decide))) (Ex.kp e_151) (by decide))) (Ex.kp e_154) (by decide))) (Ex.kp e_158) (by decide))) (Ex.kp e_161) (by decide))) (Ex.kp e_165) (by decide))) (Ex.kp e_168) (by decide))
      have p_174 := (RV.kp ((RV.kp (p_164) (Ex.kp e_165) (by decide))) (Ex.kp e_168) (by decide))
      refine T_vmul d_Cu_mapHalf_317 (jw_Fi_multiply.jo (by decide)) lm_Cu_74 (Nat.le_of_ble_eq_true rfl) (by decide) (by decide) (by decide) (Rv.rq p_174) p_170 p_172 (by decide) (fun M_173 v_173 e_173 => ?_)
      obtain ⟨x_174, hx_174⟩ : ∃ z : Int, z = (x_161 * cv_7) := ⟨_, rfl⟩
      rw [← hx_174] at v_173
      refine T_aload_n (v := .ref 77) d_Cu_mapHalf_320 rfl (Or.inr ⟨_, rfl⟩) ?_
      have h_175 := (e_173 77 (by decide)).trans (h_169)
      refine T_getfield (v := .ref 102) d_Cu_mapHalf_321 fg_Cu_61 h_175 rfl ?_
      refine T_aload_n (v := .ref 77) d_Cu_mapHalf_324 rfl (Or.inr ⟨_, rfl⟩) ?_
      refine T_getfield (v := .ref 102) d_Cu_mapHalf_325 fg_Cu_61 h_175 rfl ?_
      refine T_iconst (v := nI 1) d_Cu_mapHalf_328 (by decide) ?_
      have p_176 := (RV.kp ((RV.kp ((RV.kp (p_163) (Ex.kp e_165) (by decide))) (Ex.kp e_168) (by decide))) (Ex.kp e_173) (by decide))
      refine T_vsq1 d_Cu_mapHalf_329 (jw_Fi_square.jo (by decide)) lm_Cu_89 (Nat.le_of_ble_eq_true rfl) (by decide) (by decide) (by decide) (Rv.rq p_176) p_176 (by decide) (fun M_177 v_177 e_177 => ?_)
      obtain ⟨x_177, hx_177⟩ : ∃ z : Int, z = (x_139 * x_139) := ⟨_, rfl⟩
      rw [← hx_177] at v_177
      refine T_aload_n (v := .ref 77) d_Cu_mapHalf_332 rfl (Or.inr ⟨_, rfl⟩) ?_
      have h_178 := (e_177 77 (by decide)).trans (h_175)
      refine T_getfield (v := .ref 96) d_Cu_mapHalf_333 fg_Cu_43 h_178 rfl ?_
      refine T_getstatic (q := ("PasswordGate$Field", "ONE", "[J", .ref 3)) d_Cu_mapHalf_336 (List.mem_of_getElem? (i := 3) rfl) gs_Cu_103 (show 3 < K0 by decide) ?_
      refine T_aload_n (v := .ref 77) d_Cu_mapHalf_339 rfl (Or.inr ⟨_, rfl⟩) ?_
      refine T_getfield (v := .ref 102) d_Cu_mapHalf_340 fg_Cu_61 h_178 rfl ?_
      have p_179 := (RV.kp ((RV.kp ((RV.kp ((RV.kp ((RV.kp ((RV.kp ((RV.kp ((RV.kp (p_150) (Ex.kp e_151) (by decide))) (Ex.kp e_154) (by decide))) (Ex.kp e_158) (by decide))) (Ex.kp e_161) (by decide))) (Ex.kp e_165) (by decide))) (Ex.kp e_168) (by decide))) (Ex.kp e_173) (by decide))) (Ex.kp e_177) (by decide))
      have p_181 := (RV.kp ((RV.kp (p_170) (Ex.kp e_173) (by decide))) (Ex.kp e_177) (by decide))
      refine T_vsub d_Cu_mapHalf_343 (jw_Fi_subtract.jo (by decide)) lm_Cu_70 (Nat.le_of_ble_eq_true rfl) (by decide) (by decide) (by decide) (Rv.rq p_181) p_179 v_177 (by decide) (fun M_180 v_180 e_180 => ?_)
      obtain ⟨x_181, hx_181⟩ : ∃ z : Int, z = (cv_3 - x_177) := ⟨_, rfl⟩
      rw [← hx_181] at v_180
      refine T_aload_n (v := .ref 77) d_Cu_mapHalf_346 rfl (Or.inr ⟨_, rfl⟩) ?_
      have h_182 := (e_180 77 (by decide)).trans (h_178)
      refine T_getfield (v := .ref 102) d_Cu_mapHalf_347 fg_Cu_61 h_182 rfl ?_
      refine T_getstatic (q := ("PasswordGate$Field", "ONE", "[J", .ref 3)) d_Cu_mapHalf_350 (List.mem_of_getElem? (i := 3) rfl) gs_Cu_103 (show 3 < K0 by decide) ?_
      refine T_aload_n (v := .ref 77) d_Cu_mapHalf_353 rfl (Or.inr ⟨_, rfl⟩) ?_
      refine T_getfield (v := .ref 102) d_Cu_mapHalf_354 fg_Cu_61 h_182 rfl ?_
      have p_183 := (RV.kp (p_179) (Ex.kp e_180) (by decide))
      have p_184 := (RV.kp (v_177) (Ex.kp e_180) (by decide))
      refine T_vadd d_Cu_mapHalf_357 (jw_Fi_add.jo (by decide)) lm_Cu_77 (Nat.le_of_ble_eq_true rfl) (by decide) (by decide) (by decide) (Rv.rq p_184) p_183 p_184 (by decide) (fun M_185 v_185 e_185 => ?_)
      obtain ⟨x_185, hx_185⟩ : ∃ z : Int, z = (cv_3 + x_177) := ⟨_, rfl⟩
      rw [← hx_185] at v_185
      refine T_aload_n (v := .ref 87) d_Cu_mapHalf_360 rfl (Or.inr ⟨_, rfl⟩) ?_
      have h_186 := (e_185 87 (by decide)).trans ((e_180 87 (by decide)).trans ((e_177 87 (by decide)).trans ((e_173 87 (by decide)).trans ((e_168 87 (by decide)).trans ((e_165 87 (by decide)).trans ((e_161 87 (by decide)).trans ((e_158 87 (by decide)).trans ((e_154 87 (by decide)).trans ((e_151 87 (by decide)).trans ((e_146 87 (by decide)).trans ((e_141 87 (by decide)).trans ((e_139 87 (by decide)).trans ((e_51 87 (by decide)).trans ((k_38 87 (by decide)).trans ((e_36 87 (by decide)).trans ((e_32 87 (by decide)).trans ((e_28 87 (by decide)).trans ((e_26 87 (by decide)).trans ((e_22 87 (by decide)).trans ((e_17 87 (by decide)).trans ((e_12 87 (by decide)).trans ((e_8 87 (by decide)).trans ((e_3 87 (by decide)).trans ((e_1 87 (by decide)).trans (t0)))))))))))))))))))))))))
      refine T_getfield (v := .ref 88) d_Cu_mapHalf_361 fg_Cu_67 h_186 rfl ?_
      refine T_aload_n (v := .ref 77) d_Cu_mapHalf_364 rfl (Or.inr ⟨_, rfl⟩) ?_
      have h_187 := (e_185 77 (by decide)).trans (h_182)
      refine T_getfield (v := .ref 94) d_Cu_mapHalf_365 fg_Cu_36 h_187 rfl ?_
      refine T_aload_n (v := .ref 77) d_Cu_mapHalf_368 rfl (Or.inr ⟨_, rfl⟩) ?_
      refine T_getfield (v := .ref 102) d_Cu_mapHalf_369 fg_Cu_61 h_187 rfl ?_
      have p_188 := (RV.kp ((RV.kp ((RV.kp ((RV.kp (v_168) (Ex.kp e_173) (by decide))) (Ex.kp e_177) (by decide))) (Ex.kp e_180) (by decide))) (Ex.kp e_185) (by decide))
      have p_190 := (RQ.kp ((RQ.kp ((RQ.kp ((RQ.kp ((RQ.kp ((RQ.kp ((RQ.kp ((RQ.kp ((RQ.kp ((RQ.kp ((RQ.kp ((RQ.kp ((RQ.kp ((RQ.kp ((RQ.kp ((RQ.kp ((RQ.kp ((RQ.kp ((RQ.kp ((RQ.kp ((RQ.kp ((RQ.kp ((RQ.kp ((RQ.kp ((RQ.kp (t1) (Ex.kp e_1) (by decide))) (Ex.kp e_3) (by decide))) (Ex.kp e_8) (by decide))) (Ex.kp e_12) (by decide))) (Ex.kp e_17) (by decide))) (Ex.kp e_22) (by decide))) (Ex.kp e_26) (by decide))) (Ex.kp e_28) (by decide))) (Ex.kp e_32) (by decide))) (Ex.kp e_36) (by decide))) k_38 (by decide))) (Ex.kp e_51) (by decide))) (Ex.kp e_139) (by decide))) (Ex.kp e_141) (by decide))) (Ex.kp e_146) (by decide))) (Ex.kp e_151) (by decide))) (Ex.kp e_154) (by decide))) (Ex.kp e_158) (by decide))) (Ex.kp e_161) (by decide))) (Ex.kp e_165) (by decide))) (Ex.kp e_168) (by decide))) (Ex.kp e_173) (by decide))) (Ex.kp e_177) (by decide))) (Ex.kp e_180) (by decide))) (Ex.kp e_185) (by decide))
      refine T_vmul d_Cu_mapHalf_372 (jw_Fi_multiply.jo (by decide)) lm_Cu_74 (Nat.le_of_ble_eq_true rfl) (by decide) (by decide) (by decide) p_190 p_188 v_185 (by decide) (fun M_189 v_189 e_189 => ?_)
      obtain ⟨x_190, hx_190⟩ : ∃ z : Int, z = (x_168 * x_185) := ⟨_, rfl⟩
      rw [← hx_190] at v_189
      refine T_aload_n (v := .ref 87) d_Cu_mapHalf_375 rfl (Or.inr ⟨_, rfl⟩) ?_
      have h_191 := (e_189 87 (by decide)).trans (h_186)
      refine T_getfield (v := .ref 89) d_Cu_mapHalf_376 fg_Cu_64 h_191 rfl ?_
      refine T_aload_n (v := .ref 77) d_Cu_mapHalf_379 rfl (Or.inr ⟨_, rfl⟩) ?_
      have h_192 := (e_189 77 (by decide)).trans (h_187)
      refine T_getfield (v := .ref 96) d_Cu_mapHalf_380 fg_Cu_43 h_192 rfl ?_
      refine T_aload_n (v := .ref 77) d_Cu_mapHalf_383 rfl (Or.inr ⟨_, rfl⟩) ?_
      refine T_getfield (v := .ref 95) d_Cu_mapHalf_384 fg_Cu_40 h_192 rfl ?_
      have p_193 := (RV.kp ((RV.kp (v_180) (Ex.kp e_185) (by decide))) (Ex.kp e_189) (by decide))
      have p_194 := (RV.kp ((RV.kp ((RV.kp ((RV.kp (v_173) (Ex.kp e_177) (by decide))) (Ex.kp e_180) (by decide))) (Ex.kp e_185) (by decide))) (Ex.kp e_189) (by decide))
      have p_196 := (RQ.kp ((RQ.kp ((RQ.kp ((RQ.kp ((RQ.kp ((RQ.kp ((RQ.kp ((RQ.kp ((RQ.kp ((RQ.kp ((RQ.kp ((RQ.kp ((RQ.kp ((RQ.kp ((RQ.kp ((RQ.kp ((RQ.kp ((RQ.kp ((RQ.kp ((RQ.kp ((RQ.kp ((RQ.kp ((RQ.kp ((RQ.kp ((RQ.kp ((RQ.kp (t2) (Ex.kp e_1) (by decide))) (Ex.kp e_3) (by decide))) (Ex.kp e_8) (by decide))) (Ex.kp e_12) (by decide))) (Ex.kp e_17) (by decide))) (Ex.kp e_22) (by decide))) (Ex.kp e_26) (by decide))) (Ex.kp e_28) (by decide))) (Ex.kp e_32) (by decide))) (Ex.kp e_36) (by decide))) k_38 (by decide))) (Ex.kp e_51) (by decide))) (Ex.kp e_139) (by decide))) (Ex.kp e_141) (by decide))) (Ex.kp e_146) (by decide))) (Ex.kp e_151) (by decide))) (Ex.kp e_154) (by decide))) (Ex.kp e_158) (by decide))) (Ex.kp e_161) (by decide))) (Ex.kp e_165) (by decide))) (Ex.kp e_168) (by decide))) (Ex.kp e_173) (by decide))) (Ex.kp e_177) (by decide))) (Ex.kp e_180) (by decide))) (Ex.kp e_185) (by decide))) (Ex.kp e_189) (by decide))
      refine T_vmul d_Cu_mapHalf_387 (jw_Fi_multiply.jo (by decide)) lm_Cu_74 (Nat.le_of_ble_eq_true rfl) (by decide) (by decide) (by decide) p_196 p_193 p_194 (by decide) (fun M_195 v_195 e_195 => ?_)
      obtain ⟨x_196, hx_196⟩ : ∃ z : Int, z = (x_181 * x_174) := ⟨_, rfl⟩
      rw [← hx_196] at v_195
      refine T_aload_n (v := .ref 87) d_Cu_mapHalf_390 rfl (Or.inr ⟨_, rfl⟩) ?_
      have h_197 := (e_195 87 (by decide)).trans (h_191)
      refine T_getfield (v := .ref 90) d_Cu_mapHalf_391 fg_Cu_86 h_197 rfl ?_
      refine T_aload_n (v := .ref 77) d_Cu_mapHalf_394 rfl (Or.inr ⟨_, rfl⟩) ?_
      have h_198 := (e_195 77 (by decide)).trans (h_192)
      refine T_getfield (v := .ref 95) d_Cu_mapHalf_395 fg_Cu_40 h_198 rfl ?_
      refine T_aload_n (v := .ref 77) d_Cu_mapHalf_398 rfl (Or.inr ⟨_, rfl⟩) ?_
      refine T_getfield (v := .ref 102) d_Cu_mapHalf_399 fg_Cu_61 h_198 rfl ?_
      have p_199 := (RV.kp (p_194) (Ex.kp e_195) (by decide))
      have p_200 := (RV.kp ((RV.kp (v_185) (Ex.kp e_189) (by decide))) (Ex.kp e_195) (by decide))
      have p_202 := (RQ.kp ((RQ.kp ((RQ.kp ((RQ.kp ((RQ.kp ((RQ.kp ((RQ.kp ((RQ.kp ((RQ.kp ((RQ.kp ((RQ.kp ((RQ.kp ((RQ.kp ((RQ.kp ((RQ.kp ((RQ.kp ((RQ.kp ((RQ.kp ((RQ.kp ((RQ.kp ((RQ.kp ((RQ.kp ((RQ.kp ((RQ.kp ((RQ.kp ((RQ.kp ((RQ.kp (t3) (Ex.kp e_1) (by decide))) (Ex.kp e_3) (by decide))) (Ex.kp e_8) (by decide))) (Ex.kp e_12) (by decide))) (Ex.kp e_17) (by decide))) (Ex.kp e_22) (by decide))) (Ex.kp e_26) (by decide))) (Ex.kp e_28) (by decide))) (Ex.kp e_32) (by decide))) (Ex.kp e_36) (by decide))) k_38 (by decide))) (Ex.kp e_51) (by decide))) (Ex.kp e_139) (by decide))) (Ex.kp e_141) (by decide))) (Ex.kp e_146) (by decide))) (Ex.kp e_151) (by decide))) (Ex.kp e_154) (by decide))) (Ex.kp e_158) (by decide))) (Ex.kp e_161) (by decide))) (Ex.kp e_165) (by decide))) (Ex.kp e_168) (by decide))) (Ex.kp e_173) (by decide))) (Ex.kp e_177) (by decide))) (Ex.kp e_180) (by decide))) (Ex.kp e_185) (by decide))) (Ex.kp e_189) (by decide))) (Ex.kp e_195) (by decide))
      refine T_vmul d_Cu_mapHalf_402 (jw_Fi_multiply.jo (by decide)) lm_Cu_74 (Nat.le_of_ble_eq_true rfl) (by decide) (by decide) (by decide) p_202 p_199 p_200 (by decide) (fun M_201 v_201 e_201 => ?_)
      obtain ⟨x_202, hx_202⟩ : ∃ z : Int, z = (x_174 * x_185) := ⟨_, rfl⟩
      rw [← hx_202] at v_201
      refine T_aload_n (v := .ref 87) d_Cu_mapHalf_405 rfl (Or.inr ⟨_, rfl⟩) ?_
      have h_203 := (e_201 87 (by decide)).trans (h_197)
      refine T_getfield (v := .ref 91) d_Cu_mapHalf_406 fg_Cu_80 h_203 rfl ?_
      refine T_aload_n (v := .ref 77) d_Cu_mapHalf_409 rfl (Or.inr ⟨_, rfl⟩) ?_
      have h_204 := (e_201 77 (by decide)).trans (h_198)
      refine T_getfield (v := .ref 94) d_Cu_mapHalf_410 fg_Cu_36 h_204 rfl ?_
      refine T_aload_n (v := .ref 77) d_Cu_mapHalf_413 rfl (Or.inr ⟨_, rfl⟩) ?_
      refine T_getfield (v := .ref 96) d_Cu_mapHalf_414 fg_Cu_43 h_204 rfl ?_
      have p_205 := (RV.kp ((RV.kp ((RV.kp (p_188) (Ex.kp e_189) (by decide))) (Ex.kp e_195) (by decide))) (Ex.kp e_201) (by decide))
      have p_206 := (RV.kp ((RV.kp (p_193) (Ex.kp e_195) (by decide))) (Ex.kp e_201) (by decide))
      have p_208 := (RQ.kp ((RQ.kp ((RQ.kp ((RQ.kp ((RQ.kp ((RQ.kp ((RQ.kp ((RQ.kp ((RQ.kp ((RQ.kp ((RQ.kp ((RQ.kp ((RQ.kp ((RQ.kp ((RQ.kp ((RQ.kp ((RQ.kp ((RQ.kp ((RQ.kp ((RQ.kp ((RQ.kp ((RQ.kp ((RQ.kp ((RQ.kp ((RQ.kp ((RQ.kp ((RQ.kp ((RQ.kp (t4) (Ex.kp e_1) (by decide))) (Ex.kp e_3) (by decide))) (Ex.kp e_8) (by decide))) (Ex.kp e_12) (by decide))) (Ex.kp e_17) (by decide))) (Ex.kp e_22) (by decide))) (Ex.kp e_26) (by decide))) (Ex.kp e_28) (by decide))) (Ex.kp e_32) (by decide))) (Ex.kp e_36) (by decide))) k_38 (by decide))) (Ex.kp e_51) (by decide))) (Ex.kp e_139) (by decide))) (Ex.kp e_141) (by decide))) (Ex.kp e_146) (by decide))) (Ex.kp e_151) (by decide))) (Ex.kp e_154) (by decide))) (Ex.kp e_158) (by decide))) (Ex.kp e_161) (by decide))) (Ex.kp e_165) (by decide))) (Ex.kp e_168) (by decide))) (Ex.kp e_173) (by decide))) (Ex.kp e_177) (by decide))) (Ex.kp e_180) (by decide))) (Ex.kp e_185) (by decide))) (Ex.kp e_189) (by decide))) (Ex.kp e_195) (by decide))) (Ex.kp e_201) (by decide))
      refine T_vmul d_Cu_mapHalf_417 (jw_Fi_multiply.jo (by decide)) lm_Cu_74 (Nat.le_of_ble_eq_true rfl) (by decide) (by decide) (by decide) p_208 p_205 p_206 (by decide) (fun M_207 v_207 e_207 => ?_)
      obtain ⟨x_208, hx_208⟩ : ∃ z : Int, z = (x_168 * x_181) := ⟨_, rfl⟩
      rw [← hx_208] at v_207
      have t0_ : ph x_1 = ph (nB l at0 % n255) := by rw [hx_1]
      generalize ph (nB l at0 % n255) = t at *
      have r1 : ph x_8 = t * t * fI := by rw [hx_8, ph_mul, hx_4, ph_mul, t0_, ph_I]
      generalize hr : t * t * fI = r at r1
      have uu : ph x_17 = gU_ r := by rw [hx_17, ph_mul, hx_13, ph_add, r1, ph_3, ph_4]; rfl
      have vv : ph x_36 = gV_ r := by rw [hx_36, ph_mul, hx_28, ph_neg, hx_26, ph_add, hx_23, ph_mul, hx_33, ph_add, r1, ph_3, ph_5]; rfl
      have rr_ : ph x_38 = rR (gU_ r) (gV_ r) := by rw [hx_38, ph_rt, uu, vv]
      have gi := rtG_1 x_17 x_36
      rw [uu, vv] at gi
      have gd_ : ¬ rG (gU_ r) (gV_ r) := fun c => absurd (gi.mpr c) (by omega)
      have st : ph x_139 = rR (gU_ r) (gV_ r) * t := by rw [hx_139, ph_mul, rr_, t0_]
      have ss : ph x_139 = gS_ t r := by
        unfold gS_ ab; rw [if_neg gd_, if_pos ((od_of st).mpr hb_141), st]; exact fp_nn _
      have cc : ph x_8 = gC_ t r := by rw [r1]; unfold gC_; rw [if_neg gd_]
      have nn_ : ph x_161 = gN_ t r := by rw [hx_161, ph_sub, vv, hx_158, ph_mul, hx_154, ph_mul, hx_151, ph_sub, r1, ph_3, ph_6]; unfold gN_ gC_; rw [if_neg gd_]
      have w0 : ph x_168 = (gS_ t r + gS_ t r) * gV_ r := by rw [hx_168, ph_add, hx_166, ph_mul, ss, vv]; grobner
      have w1 : ph x_174 = gN_ t r * fG := by rw [hx_174, ph_mul, nn_, ph_7]
      have w2 : ph x_181 = 1 - gS_ t r * gS_ t r := by rw [hx_181, ph_sub, hx_177, ph_mul, ss, ph_3]
      have w3 : ph x_185 = 1 + gS_ t r * gS_ t r := by rw [hx_185, ph_add, hx_177, ph_mul, ss, ph_3]
      have q0 : ph x_190 = gX_ t := by unfold gX_; rw [hr, hx_190, ph_mul, w0, w3]
      have q1 : ph x_196 = gY_ t := by unfold gY_; rw [hr, hx_196, ph_mul, w2, w1]
      have q2 : ph x_202 = gZ_ t := by unfold gZ_; rw [hr, hx_202, ph_mul, w1, w3]
      have q3 : ph x_208 = gT_ t := by unfold gT_; rw [hr, hx_208, ph_mul, w0, w2]
      have J := mPt_pj t
      rw [← q0, ← q1, ← q2, ← q3] at J
      have p_209 := (RV.kp ((RV.kp ((RV.kp (v_189) (Ex.kp e_195) (by decide))) (Ex.kp e_201) (by decide))) (Ex.kp e_207) (by decide))
      have p_210 := (RV.kp ((RV.kp (v_195) (Ex.kp e_201) (by decide))) (Ex.kp e_207) (by decide))
      have p_211 := (RV.kp (v_201) (Ex.kp e_207) (by decide))
      have p_212 := (RV.kp ((RV.kp (p_200) (Ex.kp e_201) (by decide))) (Ex.kp e_207) (by decide))
      have p_213 := (RV.kp ((RV.kp ((RV.kp ((RV.kp ((RV.kp ((RV.kp ((RV.kp ((RV.kp ((RV.kp ((RV.kp ((RV.kp ((RV.kp ((RV.kp (v_151) (Ex.kp e_154) (by decide))) (Ex.kp e_158) (by decide))) (Ex.kp e_161) (by decide))) (Ex.kp e_165) (by decide))) (Ex.kp e_168) (by decide))) (Ex.kp e_173) (by decide))) (Ex.kp e_177) (by decide))) (Ex.kp e_180) (by decide))) (Ex.kp e_185) (by decide))) (Ex.kp e_189) (by decide))) (Ex.kp e_195) (by decide))) (Ex.kp e_201) (by decide))) (Ex.kp e_207) (by decide))
      have p_214 := (RV.kp ((RV.kp ((RV.kp ((RV.kp ((RV.kp ((RV.kp ((RV.kp ((RV.kp ((RV.kp ((RV.kp ((RV.kp ((RV.kp ((RV.kp ((RV.kp ((RV.kp ((RV.kp ((RV.kp (p_138) (Ex.kp e_139) (by decide))) (Ex.kp e_141) (by decide))) (Ex.kp e_146) (by decide))) (Ex.kp e_151) (by decide))) (Ex.kp e_154) (by decide))) (Ex.kp e_158) (by decide))) (Ex.kp e_161) (by decide))) (Ex.kp e_165) (by decide))) (Ex.kp e_168) (by decide))) (Ex.kp e_173) (by decide))) (Ex.kp e_177) (by decide))) (Ex.kp e_180) (by decide))) (Ex.kp e_185) (by decide))) (Ex.kp e_189) (by decide))) (Ex.kp e_195) (by decide))) (Ex.kp e_201) (by decide))) (Ex.kp e_207) (by decide))
      have p_215 := (RQ.kp ((RQ.kp ((RQ.kp ((RQ.kp ((RQ.kp ((RQ.kp ((RQ.kp ((RQ.kp ((RQ.kp ((RQ.kp ((RQ.kp ((RQ.kp ((RQ.kp ((RQ.kp ((RQ.kp ((RQ.kp ((RQ.kp ((RQ.kp ((RQ.kp ((RQ.kp ((RQ.kp ((RQ.kp ((RQ.kp ((RQ.kp ((RQ.kp ((RQ.kp ((RQ.kp ((RQ.kp ((RQ.kp ((hcs.2.2 99 (by decide))) (Ex.kp e_1) (by decide))) (Ex.kp e_3) (by decide))) (Ex.kp e_8) (by decide))) (Ex.kp e_12) (by decide))) (Ex.kp e_17) (by decide))) (Ex.kp e_22) (by decide))) (Ex.kp e_26) (by decide))) (Ex.kp e_28) (by decide))) (Ex.kp e_32) (by decide))) (Ex.kp e_36) (by decide))) k_38 (by decide))) (Ex.kp e_51) (by decide))) (Ex.kp e_139) (by decide))) (Ex.kp e_141) (by decide))) (Ex.kp e_146) (by decide))) (Ex.kp e_151) (by decide))) (Ex.kp e_154) (by decide))) (Ex.kp e_158) (by decide))) (Ex.kp e_161) (by decide))) (Ex.kp e_165) (by decide))) (Ex.kp e_168) (by decide))) (Ex.kp e_173) (by decide))) (Ex.kp e_177) (by decide))) (Ex.kp e_180) (by decide))) (Ex.kp e_185) (by decide))) (Ex.kp e_189) (by decide))) (Ex.kp e_195) (by decide))) (Ex.kp e_201) (by decide))) (Ex.kp e_207) (by decide))
      have p_216 := (RQ.kp ((RQ.kp ((RQ.kp ((RQ.kp ((RQ.kp ((RQ.kp ((RQ.kp ((RQ.kp ((RQ.kp ((RQ.kp ((RQ.kp ((RQ.kp ((RQ.kp ((RQ.kp ((RQ.kp ((RQ.kp ((RQ.kp ((RQ.kp ((RQ.kp ((RQ.kp ((RQ.kp ((RQ.kp ((RQ.kp ((RQ.kp ((RQ.kp ((RQ.kp ((RQ.kp ((RQ.kp ((RQ.kp ((hcs.2.2 98 (by decide))) (Ex.kp e_1) (by decide))) (Ex.kp e_3) (by decide))) (Ex.kp e_8) (by decide))) (Ex.kp e_12) (by decide))) (Ex.kp e_17) (by decide))) (Ex.kp e_22) (by decide))) (Ex.kp e_26) (by decide))) (Ex.kp e_28) (by decide))) (Ex.kp e_32) (by decide))) (Ex.kp e_36) (by decide))) k_38 (by decide))) (Ex.kp e_51) (by decide))) (Ex.kp e_139) (by decide))) (Ex.kp e_141) (by decide))) (Ex.kp e_146) (by decide))) (Ex.kp e_151) (by decide))) (Ex.kp e_154) (by decide))) (Ex.kp e_158) (by decide))) (Ex.kp e_161) (by decide))) (Ex.kp e_165) (by decide))) (Ex.kp e_168) (by decide))) (Ex.kp e_173) (by decide))) (Ex.kp e_177) (by decide))) (Ex.kp e_180) (by decide))) (Ex.kp e_185) (by decide))) (Ex.kp e_189) (by decide))) (Ex.kp e_195) (by decide))) (Ex.kp e_201) (by decide))) (Ex.kp e_207) (by decide))
      have p_217 := (RQ.kp ((RQ.kp ((RQ.kp ((RQ.kp ((RQ.kp ((RQ.kp ((RQ.kp ((RQ.kp ((RQ.kp ((RQ.kp ((RQ.kp ((RQ.kp ((RQ.kp ((RQ.kp ((RQ.kp ((RQ.kp ((RQ.kp ((RQ.kp ((RQ.kp ((RQ.kp ((RQ.kp ((RQ.kp ((RQ.kp ((RQ.kp ((RQ.kp ((RQ.kp ((RQ.kp ((RQ.kp ((RQ.kp ((hcs.2.2 97 (by decide))) (Ex.kp e_1) (by decide))) (Ex.kp e_3) (by decide))) (Ex.kp e_8) (by decide))) (Ex.kp e_12) (by decide))) (Ex.kp e_17) (by decide))) (Ex.kp e_22) (by decide))) (Ex.kp e_26) (by decide))) (Ex.kp e_28) (by decide))) (Ex.kp e_32) (by decide))) (Ex.kp e_36) (by decide))) k_38 (by decide))) (Ex.kp e_51) (by decide))) (Ex.kp e_139) (by decide))) (Ex.kp e_141) (by decide))) (Ex.kp e_146) (by decide))) (Ex.kp e_151) (by decide))) (Ex.kp e_154) (by decide))) (Ex.kp e_158) (by decide))) (Ex.kp e_161) (by decide))) (Ex.kp e_165) (by decide))) (Ex.kp e_168) (by decide))) (Ex.kp e_173) (by decide))) (Ex.kp e_177) (by decide))) (Ex.kp e_180) (by decide))) (Ex.kp e_185) (by decide))) (Ex.kp e_189) (by decide))) (Ex.kp e_195) (by decide))) (Ex.kp e_201) (by decide))) (Ex.kp e_207) (by decide))
      have p_218 := (RV.kp (p_206) (Ex.kp e_207) (by decide))
      have p_219 := (RV.kp ((RV.kp (p_199) (Ex.kp e_201) (by decide))) (Ex.kp e_207) (by decide))
      have p_220 := (RV.kp (p_205) (Ex.kp e_207) (by decide))
      have p_221 := (RQ.kp ((RQ.kp ((RQ.kp ((RQ.kp ((RQ.kp ((RQ.kp ((RQ.kp ((RQ.kp ((RQ.kp ((RQ.kp ((RQ.kp ((RQ.kp ((RQ.kp ((RQ.kp ((RQ.kp ((RQ.kp ((RQ.kp ((RQ.kp (q85_38) (Ex.kp e_51) (by decide))) (Ex.kp e_139) (by decide))) (Ex.kp e_141) (by decide))) (Ex.kp e_146) (by decide))) (Ex.kp e_151) (by decide))) (Ex.kp e_154) (by decide))) (Ex.kp e_158) (by decide))) (Ex.kp e_161) (by decide))) (Ex.kp e_165) (by decide))) (Ex.kp e_168) (by decide))) (Ex.kp e_173) (by decide))) (Ex.kp e_177) (by decide))) (Ex.kp e_180) (by decide))) (Ex.kp e_185) (by decide))) (Ex.kp e_189) (by decide))) (Ex.kp e_195) (by decide))) (Ex.kp e_201) (by decide))) (Ex.kp e_207) (by decide))
      have p_222 := (RQ.kp ((RQ.kp ((RQ.kp ((RQ.kp ((RQ.kp ((RQ.kp ((RQ.kp ((RQ.kp ((RQ.kp ((RQ.kp ((RQ.kp ((RQ.kp ((RQ.kp ((RQ.kp ((RQ.kp ((RQ.kp ((RQ.kp ((RQ.kp (q84_38) (Ex.kp e_51) (by decide))) (Ex.kp e_139) (by decide))) (Ex.kp e_141) (by decide))) (Ex.kp e_146) (by decide))) (Ex.kp e_151) (by decide))) (Ex.kp e_154) (by decide))) (Ex.kp e_158) (by decide))) (Ex.kp e_161) (by decide))) (Ex.kp e_165) (by decide))) (Ex.kp e_168) (by decide))) (Ex.kp e_173) (by decide))) (Ex.kp e_177) (by decide))) (Ex.kp e_180) (by decide))) (Ex.kp e_185) (by decide))) (Ex.kp e_189) (by decide))) (Ex.kp e_195) (by decide))) (Ex.kp e_201) (by decide))) (Ex.kp e_207) (by decide))
      have p_223 := (RQ.kp ((RQ.kp ((RQ.kp ((RQ.kp ((RQ.kp ((RQ.kp ((RQ.kp ((RQ.kp ((RQ.kp ((RQ.kp ((RQ.kp ((RQ.kp ((RQ.kp ((RQ.kp ((RQ.kp ((RQ.kp ((RQ.kp ((RQ.kp (q83_38) (Ex.kp e_51) (by decide))) (Ex.kp e_139) (by decide))) (Ex.kp e_141) (by decide))) (Ex.kp e_146) (by decide))) (Ex.kp e_151) (by decide))) (Ex.kp e_154) (by decide))) (Ex.kp e_158) (by decide))) (Ex.kp e_161) (by decide))) (Ex.kp e_165) (by decide))) (Ex.kp e_168) (by decide))) (Ex.kp e_173) (by decide))) (Ex.kp e_177) (by decide))) (Ex.kp e_180) (by decide))) (Ex.kp e_185) (by decide))) (Ex.kp e_189) (by decide))) (Ex.kp e_195) (by decide))) (Ex.kp e_201) (by decide))) (Ex.kp e_207) (by decide))
      have p_224 := (RQ.kp ((RQ.kp ((RQ.kp ((RQ.kp ((RQ.kp ((RQ.kp ((RQ.kp ((RQ.kp ((RQ.kp ((RQ.kp ((RQ.kp ((RQ.kp ((RQ.kp ((RQ.kp ((RQ.kp ((RQ.kp ((RQ.kp ((RQ.kp (q82_38) (Ex.kp e_51) (by decide))) (Ex.kp e_139) (by decide))) (Ex.kp e_141) (by decide))) (Ex.kp e_146) (by decide))) (Ex.kp e_151) (by decide))) (Ex.kp e_154) (by decide))) (Ex.kp e_158) (by decide))) (Ex.kp e_161) (by decide))) (Ex.kp e_165) (by decide))) (Ex.kp e_168) (by decide))) (Ex.kp e_173) (by decide))) (Ex.kp e_177) (by decide))) (Ex.kp e_180) (by decide))) (Ex.kp e_185) (by decide))) (Ex.kp e_189) (by decide))) (Ex.kp e_195) (by decide))) (Ex.kp e_201) (by decide))) (Ex.kp e_207) (by decide))
      have p_225 := (RQ.kp ((RQ.kp ((RQ.kp ((RQ.kp ((RQ.kp ((RQ.kp ((RQ.kp ((RQ.kp ((RQ.kp ((RQ.kp ((RQ.kp ((RQ.kp ((RQ.kp ((RQ.kp ((RQ.kp ((RQ.kp ((RQ.kp ((RQ.kp (q81_38) (Ex.kp e_51) (by decide))) (Ex.kp e_139) (by decide))) (Ex.kp e_141) (by decide))) (Ex.kp e_146) (by decide))) (Ex.kp e_151) (by decide))) (Ex.kp e_154) (by decide))) (Ex.kp e_158) (by decide))) (Ex.kp e_161) (by decide))) (Ex.kp e_165) (by decide))) (Ex.kp e_168) (by decide))) (Ex.kp e_173) (by decide))) (Ex.kp e_177) (by decide))) (Ex.kp e_180) (by decide))) (Ex.kp e_185) (by decide))) (Ex.kp e_189) (by decide))) (Ex.kp e_195) (by decide))) (Ex.kp e_201) (by decide))) (Ex.kp e_207) (by decide))
      have p_226 := (RQ.kp ((RQ.kp ((RQ.kp ((RQ.kp ((RQ.kp ((RQ.kp ((RQ.kp ((RQ.kp ((RQ.kp ((RQ.kp ((RQ.kp ((RQ.kp ((RQ.kp ((RQ.kp ((RQ.kp ((RQ.kp ((RQ.kp ((RQ.kp (q80_38) (Ex.kp e_51) (by decide))) (Ex.kp e_139) (by decide))) (Ex.kp e_141) (by decide))) (Ex.kp e_146) (by decide))) (Ex.kp e_151) (by decide))) (Ex.kp e_154) (by decide))) (Ex.kp e_158) (by decide))) (Ex.kp e_161) (by decide))) (Ex.kp e_165) (by decide))) (Ex.kp e_168) (by decide))) (Ex.kp e_173) (by decide))) (Ex.kp e_177) (by decide))) (Ex.kp e_180) (by decide))) (Ex.kp e_185) (by decide))) (Ex.kp e_189) (by decide))) (Ex.kp e_195) (by decide))) (Ex.kp e_201) (by decide))) (Ex.kp e_207) (by decide))
      have p_227 := (RQ.kp ((RQ.kp ((RQ.kp ((RQ.kp ((RQ.kp ((RQ.kp ((RQ.kp ((RQ.kp ((RQ.kp ((RQ.kp ((RQ.kp ((RQ.kp ((RQ.kp ((RQ.kp ((RQ.kp (w_141) (Ex.kp e_146) (by decide))) (Ex.kp e_151) (by decide))) (Ex.kp e_154) (by decide))) (Ex.kp e_158) (by decide))) (Ex.kp e_161) (by decide))) (Ex.kp e_165) (by decide))) (Ex.kp e_168) (by decide))) (Ex.kp e_173) (by decide))) (Ex.kp e_177) (by decide))) (Ex.kp e_180) (by decide))) (Ex.kp e_185) (by decide))) (Ex.kp e_189) (by decide))) (Ex.kp e_195) (by decide))) (Ex.kp e_201) (by decide))) (Ex.kp e_207) (by decide))
      have h_228 := (e_207 77 (by decide)).trans (h_204)
      have h_229 := (e_207 78 (by decide)).trans ((e_201 78 (by decide)).trans ((e_195 78 (by decide)).trans ((e_189 78 (by decide)).trans ((e_185 78 (by decide)).trans ((e_180 78 (by decide)).trans ((e_177 78 (by decide)).trans ((e_173 78 (by decide)).trans ((e_168 78 (by decide)).trans ((e_165 78 (by decide)).trans ((e_161 78 (by decide)).trans ((e_158 78 (by decide)).trans ((e_154 78 (by decide)).trans ((e_151 78 (by decide)).trans ((e_146 78 (by decide)).trans ((e_141 78 (by decide)).trans (h_142))))))))))))))))
      have h_230 := (e_207 87 (by decide)).trans (h_203)
      exact T_vret d_Cu_mapHalf_420 rfl (by decide) (by decide) ⟨rfl, ⟨h_228, h_229, (List.forall_mem_cons.mpr ⟨p_227, (List.forall_mem_cons.mpr ⟨p_226, (List.forall_mem_cons.mpr ⟨p_225, (List.forall_mem_cons.mpr ⟨p_224, (List.forall_mem_cons.mpr ⟨p_223, (List.forall_mem_cons.mpr ⟨p_222, (List.forall_mem_cons.mpr ⟨p_221, (List.forall_mem_cons.mpr ⟨(Rv.rq p_220), (List.forall_mem_cons.mpr ⟨(Rv.rq p_219), (List.forall_mem_cons.mpr ⟨(Rv.rq p_218), (List.forall_mem_cons.mpr ⟨p_217, (List.forall_mem_cons.mpr ⟨p_216, (List.forall_mem_cons.mpr ⟨p_215, (List.forall_mem_cons.mpr ⟨(Rv.rq p_214), (List.forall_mem_cons.mpr ⟨(Rv.rq p_213), (List.forall_mem_cons.mpr ⟨(Rv.rq p_212), (fun _ h => absurd h (List.not_mem_nil))⟩)⟩)⟩)⟩)⟩)⟩)⟩)⟩)⟩)⟩)⟩)⟩)⟩)⟩)⟩)⟩)⟩, ⟨h_230, _, _, _, _, Rv.up p_209 (by decide), p_210, p_211, v_207, J⟩, (Kp.ex (Kp.ex (Kp.ex (Kp.ex (Kp.ex (Kp.ex (Kp.ex (Kp.ex (Kp.ex (Kp.ex (Kp.ex (Kp.ex (Kp.ex (Kp.ex (Kp.ex (Kp.ex (Kp.ex (Kp.ex (Kp.tr (Kp.ex (Kp.ex (Kp.ex (Kp.ex (Kp.ex (Kp.ex (Kp.ex (Kp.ex (Kp.ex (Kp.ex (Kp.rf : Kp [79, 80, 81, 82, 83, 84, 85, 94, 95, 96, 97, 98, 99, 100, 101, 102, 88, 89, 90, 91] M M) e_1 (by decide)) e_3 (by decide)) e_8 (by decide)) e_12 (by decide)) e_17 (by decide)) e_22 (by decide)) e_26 (by decide)) e_28 (by decide)) e_32 (by decide)) e_36 (by decide)) (Kp.mono k_38 (by decide))) e_51 (by decide)) e_139 (by decide)) e_141 (by decide)) e_146 (by decide)) e_151 (by decide)) e_154 (by decide)) e_158 (by decide)) e_161 (by decide)) e_165 (by decide)) e_168 (by decide)) e_173 (by decide)) e_177 (by decide)) e_180 (by decide)) e_185 (by decide)) e_189 (by decide)) e_195 (by decide)) e_201 (by decide)) e_207 (by decide))⟩
    · rw [if_neg hb_141]
      refine T_eq (pc' := 193) (L' := [(4, .int (nI ((rtG x_17 x_36)))), (0, .ref 77), (1, .ref fr), (2, .int (nI at0)), (3, .ref 87)]) (st' := [.int (nI 0)]) (M' := M_141) rfl rfl rfl rfl ?_
      refine N_if_ne_f (b := 0) d_Cu_mapHalf_193 (tgt := 207) rfl (by omega) (by omega) ?_
      refine T_aload_n (v := .ref 77) d_Cu_mapHalf_196 rfl (Or.inr ⟨_, rfl⟩) ?_
      have h_231 := (e_141 77 (by decide)).trans (h_140)
      refine T_getfield (v := .ref 102) d_Cu_mapHalf_197 fg_Cu_61 h_231 rfl ?_
      refine T_aload_n (v := .ref 77) d_Cu_mapHalf_200 rfl (Or.inr ⟨_, rfl⟩) ?_
      refine T_getfield (v := .ref 102) d_Cu_mapHalf_201 fg_Cu_61 h_231 rfl ?_
      have p_232 := (RV.kp (v_139) (Ex.kp e_141) (by decide))
      refine T_vneg d_Cu_mapHalf_204 (jw_Fi_negate.jo (by decide)) lm_Cu_139 (Nat.le_of_ble_eq_true rfl) (by decide) (by decide) (by decide) (Rv.rq p_232) p_232 (by decide) (fun M_233 v_233 e_233 => ?_)
      obtain ⟨x_233, hx_233⟩ : ∃ z : Int, z = (-x_139) := ⟨_, rfl⟩
      rw [← hx_233] at v_233
      refine T_aload_n (v := .ref 77) d_Cu_mapHalf_207 rfl (Or.inr ⟨_, rfl⟩) ?_
      have h_234 := (e_233 77 (by decide)).trans (h_231)
      refine T_getfield (v := .ref 96) d_Cu_mapHalf_208 fg_Cu_43 h_234 rfl ?_
      refine T_aload_n (v := .ref 77) d_Cu_mapHalf_211 rfl (Or.inr ⟨_, rfl⟩) ?_
      refine T_getfield (v := .ref 101) d_Cu_mapHalf_212 fg_Cu_58 h_234 rfl ?_
      have p_235 := (RV.kp ((RV.kp ((RV.kp ((RV.kp ((RV.kp ((RV.kp ((RV.kp (p_30) (Ex.kp e_32) (by decide))) (Ex.kp e_36) (by decide))) k_38 (by decide))) (Ex.kp e_51) (by decide))) (Ex.kp e_139) (by decide))) (Ex.kp e_141) (by decide))) (Ex.kp e_233) (by decide))
      have p_237 := (RV.kp ((RV.kp ((RV.kp (v_51) (Ex.kp e_139) (by decide))) (Ex.kp e_141) (by decide))) (Ex.kp e_233) (by decide))
      refine T_vcopy d_Cu_mapHalf_215 (jw_Fi_copy.jo (by decide)) lm_Cu_137 (Nat.le_of_ble_eq_true rfl) (by decide) (by decide) (by decide) (Rv.rq p_237) p_235 (fun M_236 v_236 e_236 => ?_)
      refine T_aload_n (v := .ref 77) d_Cu_mapHalf_218 rfl (Or.inr ⟨_, rfl⟩) ?_
      have h_238 := (e_236 77 (by decide)).trans (h_234)
      refine T_getfield (v := .ref 101) d_Cu_mapHalf_219 fg_Cu_58 h_238 rfl ?_
      refine T_aload_n (v := .ref 77) d_Cu_mapHalf_222 rfl (Or.inr ⟨_, rfl⟩) ?_
      refine T_getfield (v := .ref 101) d_Cu_mapHalf_223 fg_Cu_58 h_238 rfl ?_
      refine T_getstatic (q := ("PasswordGate$Field", "ONE", "[J", .ref 3)) d_Cu_mapHalf_226 (List.mem_of_getElem? (i := 3) rfl) gs_Cu_103 (show 3 < K0 by decide) ?_
      have p_239 := (RV.kp (p_235) (Ex.kp e_236) (by decide))
      have p_240 := (RV.kp ((RV.kp ((RV.kp ((RV.kp ((RV.kp (p_50) (Ex.kp e_51) (by decide))) (Ex.kp e_139) (by decide))) (Ex.kp e_141) (by decide))) (Ex.kp e_233) (by decide))) (Ex.kp e_236) (by decide))
      refine T_vsub d_Cu_mapHalf_229 (jw_Fi_subtract.jo (by decide)) lm_Cu_70 (Nat.le_of_ble_eq_true rfl) (by decide) (by decide) (by decide) (Rv.rq p_239) p_239 p_240 (by decide) (fun M_241 v_241 e_241 => ?_)
      obtain ⟨x_241, hx_241⟩ : ∃ z : Int, z = (x_8 - cv_3) := ⟨_, rfl⟩
      rw [← hx_241] at v_241
      refine T_aload_n (v := .ref 77) d_Cu_mapHalf_232 rfl (Or.inr ⟨_, rfl⟩) ?_
      have h_242 := (e_241 77 (by decide)).trans (h_238)
      refine T_getfield (v := .ref 96) d_Cu_mapHalf_233 fg_Cu_43 h_242 rfl ?_
      refine T_aload_n (v := .ref 77) d_Cu_mapHalf_236 rfl (Or.inr ⟨_, rfl⟩) ?_
      refine T_getfield (v := .ref 96) d_Cu_mapHalf_237 fg_Cu_43 h_242 rfl ?_
      refine T_aload_n (v := .ref 77) d_Cu_mapHalf_240 rfl (Or.inr ⟨_, rfl⟩) ?_
      refine T_getfield (v := .ref 101) d_Cu_mapHalf_241 fg_Cu_58 h_242 rfl ?_
      have p_243 := (RV.kp (v_236) (Ex.kp e_241) (by decide))
      refine T_vmul d_Cu_mapHalf_244 (jw_Fi_multiply.jo (by decide)) lm_Cu_74 (Nat.le_of_ble_eq_true rfl) (by decide) (by decide) (by decide) (Rv.rq p_243) p_243 v_241 (by decide) (fun M_244 v_244 e_244 => ?_)
      obtain ⟨x_244, hx_244⟩ : ∃ z : Int, z = (x_8 * x_241) := ⟨_, rfl⟩
      rw [← hx_244] at v_244
      refine T_aload_n (v := .ref 77) d_Cu_mapHalf_247 rfl (Or.inr ⟨_, rfl⟩) ?_
      have h_245 := (e_244 77 (by decide)).trans (h_242)
      refine T_getfield (v := .ref 96) d_Cu_mapHalf_248 fg_Cu_43 h_245 rfl ?_
      refine T_aload_n (v := .ref 77) d_Cu_mapHalf_251 rfl (Or.inr ⟨_, rfl⟩) ?_
      refine T_getfield (v := .ref 96) d_Cu_mapHalf_252 fg_Cu_43 h_245 rfl ?_
      refine T_getstatic (q := ("PasswordGate$Curve", "LESS_ONE_SQUARED", "[J", .ref 6)) d_Cu_mapHalf_255 (List.mem_of_getElem? (i := 6) rfl) gs_Cu_174 (show 6 < K0 by decide) ?_
      have c_246 : RV M 6 cv_6 1 := ⟨_, hK0 6 (by decide), vt_6⟩
      have p_247 := (RV.kp ((RV.kp ((RV.kp ((RV.kp ((RV.kp ((RV.kp ((RV.kp ((RV.kp ((RV.kp ((RV.kp ((RV.kp ((RV.kp ((RV.kp ((RV.kp ((RV.kp ((RV.kp ((RV.kp ((RV.kp (c_246) (Ex.kp e_1) (by decide))) (Ex.kp e_3) (by decide))) (Ex.kp e_8) (by decide))) (Ex.kp e_12) (by decide))) (Ex.kp e_17) (by decide))) (Ex.kp e_22) (by decide))) (Ex.kp e_26) (by decide))) (Ex.kp e_28) (by decide))) (Ex.kp e_32) (by decide))) (Ex.kp e_36) (by decide))) k_38 (by decide))) (Ex.kp e_51) (by decide))) (Ex.kp e_139) (by decide))) (Ex.kp e_141) (by decide))) (Ex.kp e_233) (by decide))) (Ex.kp e_236) (by decide))) (Ex.kp e_241) (by decide))) (Ex.kp e_244) (by decide))
      refine T_vmul d_Cu_mapHalf_258 (jw_Fi_multiply.jo (by decide)) lm_Cu_74 (Nat.le_of_ble_eq_true rfl) (by decide) (by decide) (by decide) (Rv.rq v_244) v_244 p_247 (by decide) (fun M_248 v_248 e_248 => ?_)
      obtain ⟨x_248, hx_248⟩ : ∃ z : Int, z = (x_244 * cv_6) := ⟨_, rfl⟩
      rw [← hx_248] at v_248
      refine T_aload_n (v := .ref 77) d_Cu_mapHalf_261 rfl (Or.inr ⟨_, rfl⟩) ?_
      have h_249 := (e_248 77 (by decide)).trans (h_245)
      refine T_getfield (v := .ref 96) d_Cu_mapHalf_262 fg_Cu_43 h_249 rfl ?_
      refine T_aload_n (v := .ref 77) d_Cu_mapHalf_265 rfl (Or.inr ⟨_, rfl⟩) ?_
      refine T_getfield (v := .ref 96) d_Cu_mapHalf_266 fg_Cu_43 h_249 rfl ?_
      refine T_aload_n (v := .ref 77) d_Cu_mapHalf_269 rfl (Or.inr ⟨_, rfl⟩) ?_
      refine T_getfield (v := .ref 95) d_Cu_mapHalf_270 fg_Cu_40 h_249 rfl ?_
      have p_250 := (RV.kp ((RV.kp ((RV.kp ((RV.kp ((RV.kp ((RV.kp ((RV.kp ((RV.kp ((RV.kp (v_36) k_38 (by decide))) (Ex.kp e_51) (by decide))) (Ex.kp e_139) (by decide))) (Ex.kp e_141) (by decide))) (Ex.kp e_233) (by decide))) (Ex.kp e_236) (by decide))) (Ex.kp e_241) (by decide))) (Ex.kp e_244) (by decide))) (Ex.kp e_248) (by decide))
      refine T_vsub d_Cu_mapHalf_273 (jw_Fi_subtract.jo (by decide)) lm_Cu_70 (Nat.le_of_ble_eq_true rfl) (by decide) (by decide) (by decide) (Rv.rq v_248) v_248 p_250 (by decide) (fun M_251 v_251 e_251 => ?_)
      obtain ⟨x_251, hx_251⟩ : ∃ z : Int, z = (x_248 - x_36) := ⟨_, rfl⟩
      rw [← hx_251] at v_251
      refine T_aload_n (v := .ref 77) d_Cu_mapHalf_276 rfl (Or.inr ⟨_, rfl⟩) ?_
      have h_252 := (e_251 77 (by decide)).trans (h_249)
      refine T_getfield (v := .ref 94) d_Cu_mapHalf_277 fg_Cu_36 h_252 rfl ?_
      refine T_aload_n (v := .ref 77) d_Cu_mapHalf_280 rfl (Or.inr ⟨_, rfl⟩) ?_
      refine T_getfield (v := .ref 102) d_Cu_mapHalf_281 fg_Cu_61 h_252 rfl ?_
      refine T_aload_n (v := .ref 77) d_Cu_mapHalf_284 rfl (Or.inr ⟨_, rfl⟩) ?_
      refine T_getfield (v := .ref 95) d_Cu_mapHalf_285 fg_Cu_40 h_252 rfl ?_
      have p_253 := (RV.kp ((RV.kp ((RV.kp ((RV.kp ((RV.kp (v_233) (Ex.kp e_236) (by decide))) (Ex.kp e_241) (by decide))) (Ex.kp e_244) (by decide))) (Ex.kp e_248) (by decide))) (Ex.kp e_251) (by decide))
      have p_254 := (RV.kp (p_250) (Ex.kp e_251) (by decide))
      have p_256 := (RV.kp ((RV.kp ((RV.kp ((RV.kp ((RV.kp ((RV.kp ((RV.kp ((RV.kp ((RV.kp ((RV.kp (p_39) k_38 (by decide))) (Ex.kp e_51) (by decide))) (Ex.kp e_139) (by decide))) (Ex.kp e_141) (by decide))) (Ex.kp e_233) (by decide))) (Ex.kp e_236) (by decide))) (Ex.kp e_241) (by decide))) (Ex.kp e_244) (by decide))) (Ex.kp e_248) (by decide))) (Ex.kp e_251) (by decide))
      refine T_vmul d_Cu_mapHalf_288 (jw_Fi_multiply.jo (by decide)) lm_Cu_74 (Nat.le_of_ble_eq_true rfl) (by decide) (by decide) (by decide) (Rv.rq p_256) p_253 p_254 (by decide) (fun M_255 v_255 e_255 => ?_)
      obtain ⟨x_256, hx_256⟩ : ∃ z : Int, z = (x_233 * x_36) := ⟨_, rfl⟩
      rw [← hx_256] at v_255
      refine T_aload_n (v := .ref 77) d_Cu_mapHalf_291 rfl (Or.inr ⟨_, rfl⟩) ?_
      have h_257 := (e_255 77 (by decide)).trans (h_252)
      refine T_getfield (v := .ref 94) d_Cu_mapHalf_292 fg_Cu_36 h_257 rfl ?_
      refine T_aload_n (v := .ref 77) d_Cu_mapHalf_295 rfl (Or.inr ⟨_, rfl⟩) ?_
      refine T_getfield (v := .ref 94) d_Cu_mapHalf_296 fg_Cu_36 h_257 rfl ?_
      refine T_aload_n (v := .ref 77) d_Cu_mapHalf_299 rfl (Or.inr ⟨_, rfl⟩) ?_
      refine T_getfield (v := .ref 94) d_Cu_mapHalf_300 fg_Cu_36 h_257 rfl ?_
      refine T_vadd d_Cu_mapHalf_303 (jw_Fi_add.jo (by decide)) lm_Cu_77 (Nat.le_of_ble_eq_true rfl) (by decide) (by decide) (by decide) (Rv.rq v_255) v_255 v_255 (by decide) (fun M_258 v_258 e_258 => ?_)
      obtain ⟨x_258, hx_258⟩ : ∃ z : Int, z = (x_256 + x_256) := ⟨_, rfl⟩
      rw [← hx_258] at v_258
      refine T_aload_n (v := .ref 77) d_Cu_mapHalf_306 rfl (Or.inr ⟨_, rfl⟩) ?_
      have h_259 := (e_258 77 (by decide)).trans (h_257)
      refine T_getfield (v := .ref 95) d_Cu_mapHalf_307 fg_Cu_40 h_259 rfl ?_
      refine T_aload_n (v := .ref 77) d_Cu_mapHalf_310 rfl (Or.inr ⟨_, rfl⟩) ?_
      refine T_getfield (v := .ref 96) d_Cu_mapHalf_311 fg_Cu_43 h_259 rfl ?_
      refine T_getstatic (q := ("PasswordGate$Curve", "G", "[J", .ref 7)) d_Cu_mapHalf_314 (List.mem_of_getElem? (i := 7) rfl) gs_Cu_177 (show 7 < K0 by decide) ?_
      have p_260 := (RV.kp ((RV.kp (v_251) (Ex.kp e_255) (by decide))) (Ex.kp e_258) (by decide))
      have c_261 : RV M 7 cv_7 1 := ⟨_, hK0 7 (by decide), vt_7⟩
      have p_262 := (RV.kp ((RV.kp ((RV.kp ((RV.kp ((RV.kp ((RV.kp ((RV.kp ((RV.kp ((RV.kp ((RV.kp ((RV.kp ((RV.kp ((RV.kp ((RV.kp ((RV.kp ((RV.kp ((RV.kp ((RV.kp ((RV.kp ((RV.kp ((RV.kp ((RV.kp (c_261) (Ex.kp e_1) (by decide))) (Ex.kp e_3) (by decide))) (Ex.kp e_8) (by decide))) (Ex.kp e_12) (by decide))) (Ex.kp e_17) (by decide))) (Ex.kp e_22) (by decide))) (Ex.kp e_26) (by decide))) (Ex.kp e_28) (by decide))) (Ex.kp e_32) (by decide))) (Ex.kp e_36) (by decide))) k_38 (by decide))) (Ex.kp e_51) (by decide))) (Ex.kp e_139) (by decide))) (Ex.kp e_141) (by decide))) (Ex.kp e_233) (by decide))) (Ex.kp e_236) (by decide))) (Ex.kp e_241) (by decide))) (Ex.kp e_244) (by decide))) (Ex.kp e_248) (by decide))) (Ex.kp e_251) (by decide))) (Ex.kp e_255) (by decide))) (Ex.kp e_258) (by decide))
      have p_264 := (RV.kp ((RV.kp (p_254) (Ex.kp e_255) (by decide))) (Ex.kp e_258) (by decide))
      refine T_vmul d_Cu_mapHalf_317 (jw_Fi_multiply.jo (by decide)) lm_Cu_74 (Nat.le_of_ble_eq_true rfl) (by decide) (by decide) (by decide) (Rv.rq p_264) p_260 p_262 (by decide) (fun M_263 v_263 e_263 => ?_)
      obtain ⟨x_264, hx_264⟩ : ∃ z : Int, z = (x_251 * cv_7) := ⟨_, rfl⟩
      rw [← hx_264] at v_263
      refine T_aload_n (v := .ref 77) d_Cu_mapHalf_320 rfl (Or.inr ⟨_, rfl⟩) ?_
      have h_265 := (e_263 77 (by decide)).trans (h_259)
      refine T_getfield (v := .ref 102) d_Cu_mapHalf_321 fg_Cu_61 h_265 rfl ?_
      refine T_aload_n (v := .ref 77) d_Cu_mapHalf_324 rfl (Or.inr ⟨_, rfl⟩) ?_
      refine T_getfield (v := .ref 102) d_Cu_mapHalf_325 fg_Cu_61 h_265 rfl ?_
      refine T_iconst (v := nI 1) d_Cu_mapHalf_328 (by decide) ?_
      have p_266 := (RV.kp ((RV.kp ((RV.kp (p_253) (Ex.kp e_255) (by decide))) (Ex.kp e_258) (by decide))) (Ex.kp e_263) (by decide))
      refine T_vsq1 d_Cu_mapHalf_329 (jw_Fi_square.jo (by decide)) lm_Cu_89 (Nat.le_of_ble_eq_true rfl) (by decide) (by decide) (by decide) (Rv.rq p_266) p_266 (by decide) (fun M_267 v_267 e_267 => ?_)
      obtain ⟨x_267, hx_267⟩ : ∃ z : Int, z = (x_233 * x_233) := ⟨_, rfl⟩
      rw [← hx_267] at v_267
      refine T_aload_n (v := .ref 77) d_Cu_mapHalf_332 rfl (Or.inr ⟨_, rfl⟩) ?_
      have h_268 := (e_267 77 (by decide)).trans (h_265)
      refine T_getfield (v := .ref 96) d_Cu_mapHalf_333 fg_Cu_43 h_268 rfl ?_
      refine T_getstatic (q := ("PasswordGate$Field", "ONE", "[J", .ref 3)) d_Cu_mapHalf_336 (List.mem_of_getElem? (i := 3) rfl) gs_Cu_103 (show 3 < K0 by decide) ?_
      refine T_aload_n (v := .ref 77) d_Cu_mapHalf_339 rfl (Or.inr ⟨_, rfl⟩) ?_
      refine T_getfield (v := .ref 102) d_Cu_mapHalf_340 fg_Cu_61 h_268 rfl ?_
      have p_269 := (RV.kp ((RV.kp ((RV.kp ((RV.kp ((RV.kp ((RV.kp ((RV.kp ((RV.kp (p_240) (Ex.kp e_241) (by decide))) (Ex.kp e_244) (by decide))) (Ex.kp e_248) (by decide))) (Ex.kp e_251) (by decide))) (Ex.kp e_255) (by decide))) (Ex.kp e_258) (by decide))) (Ex.kp e_263) (by decide))) (Ex.kp e_267) (by decide))
      have p_271 := (RV.kp ((RV.kp (p_260) (Ex.kp e_263) (by decide))) (Ex.kp e_267) (by decide))
      refine T_vsub d_Cu_mapHalf_343 (jw_Fi_subtract.jo (by decide)) lm_Cu_70 (Nat.le_of_ble_eq_true rfl) (by decide) (by decide) (by decide) (Rv.rq p_271) p_269 v_267 (by decide) (fun M_270 v_270 e_270 => ?_)
      obtain ⟨x_271, hx_271⟩ : ∃ z : Int, z = (cv_3 - x_267) := ⟨_, rfl⟩
      rw [← hx_271] at v_270
      refine T_aload_n (v := .ref 77) d_Cu_mapHalf_346 rfl (Or.inr ⟨_, rfl⟩) ?_
      have h_272 := (e_270 77 (by decide)).trans (h_268)
      refine T_getfield (v := .ref 102) d_Cu_mapHalf_347 fg_Cu_61 h_272 rfl ?_
      refine T_getstatic (q := ("PasswordGate$Field", "ONE", "[J", .ref 3)) d_Cu_mapHalf_350 (List.mem_of_getElem? (i := 3) rfl) gs_Cu_103 (show 3 < K0 by decide) ?_
      refine T_aload_n (v := .ref 77) d_Cu_mapHalf_353 rfl (Or.inr ⟨_, rfl⟩) ?_
      refine T_getfield (v := .ref 102) d_Cu_mapHalf_354 fg_Cu_61 h_272 rfl ?_
      have p_273 := (RV.kp (p_269) (Ex.kp e_270) (by decide))
      have p_274 := (RV.kp (v_267) (Ex.kp e_270) (by decide))
      refine T_vadd d_Cu_mapHalf_357 (jw_Fi_add.jo (by decide)) lm_Cu_77 (Nat.le_of_ble_eq_true rfl) (by decide) (by decide) (by decide) (Rv.rq p_274) p_273 p_274 (by decide) (fun M_275 v_275 e_275 => ?_)
      obtain ⟨x_275, hx_275⟩ : ∃ z : Int, z = (cv_3 + x_267) := ⟨_, rfl⟩
      rw [← hx_275] at v_275
      refine T_aload_n (v := .ref 87) d_Cu_mapHalf_360 rfl (Or.inr ⟨_, rfl⟩) ?_
      have h_276 := (e_275 87 (by decide)).trans ((e_270 87 (by decide)).trans ((e_267 87 (by decide)).trans ((e_263 87 (by decide)).trans ((e_258 87 (by decide)).trans ((e_255 87 (by decide)).trans ((e_251 87 (by decide)).trans ((e_248 87 (by decide)).trans ((e_244 87 (by decide)).trans ((e_241 87 (by decide)).trans ((e_236 87 (by decide)).trans ((e_233 87 (by decide)).trans ((e_141 87 (by decide)).trans ((e_139 87 (by decide)).trans ((e_51 87 (by decide)).trans ((k_38 87 (by decide)).trans ((e_36 87 (by decide)).trans ((e_32 87 (by decide)).trans ((e_28 87 (by decide)).trans ((e_26 87 (by decide)).trans ((e_22 87 (by decide)).trans ((e_17 87 (by decide)).trans ((e_12 87 (by decide)).trans ((e_8 87 (by decide)).trans ((e_3 87 (by decide)).trans ((e_1 87 (by decide)).trans (t0))))))))))))))))))))))))))
      refine T_getfield (v := .ref 88) d_Cu_mapHalf_361 fg_Cu_67 h_276 rfl ?_
      refine T_aload_n (v := .ref 77) d_Cu_mapHalf_364 rfl (Or.inr ⟨_, rfl⟩) ?_
      have h_277 := (e_275 77 (by decide)).trans (h_272)
      refine T_getfield (v := .ref 94) d_Cu_mapHalf_365 fg_Cu_36 h_277 rfl ?_
      refine T_aload_n (v := .ref 77) d_Cu_mapHalf_368 rfl (Or.inr ⟨_, rfl⟩) ?_
      refine T_getfield (v := .ref 102) d_Cu_mapHalf_369 fg_Cu_61 h_277 rfl ?_
      have p_278 := (RV.kp ((RV.kp ((RV.kp ((RV.kp (v_258) (Ex.kp e_263) (by decide))) (Ex.kp e_267) (by decide))) (Ex.kp e_270) (by decide))) (Ex.kp e_275) (by decide))
      have p_280 := (RQ.kp ((RQ.kp ((RQ.kp ((RQ.kp ((RQ.kp ((RQ.kp ((RQ.kp ((RQ.kp ((RQ.kp ((RQ.kp ((RQ.kp ((RQ.kp ((RQ.kp ((RQ.kp ((RQ.kp ((RQ.kp ((RQ.kp ((RQ.kp ((RQ.kp ((RQ.kp ((RQ.kp ((RQ.kp ((RQ.kp ((RQ.kp ((RQ.kp ((RQ.kp (t1) (Ex.kp e_1) (by decide))) (Ex.kp e_3) (by decide))) (Ex.kp e_8) (by decide))) (Ex.kp e_12) (by decide))) (Ex.kp e_17) (by decide))) (Ex.kp e_22) (by decide))) (Ex.kp e_26) (by decide))) (Ex.kp e_28) (by decide))) (Ex.kp e_32) (by decide))) (Ex.kp e_36) (by decide))) k_38 (by decide))) (Ex.kp e_51) (by decide))) (Ex.kp e_139) (by decide))) (Ex.kp e_141) (by decide))) (Ex.kp e_233) (by decide))) (Ex.kp e_236) (by decide))) (Ex.kp e_241) (by decide))) (Ex.kp e_244) (by decide))) (Ex.kp e_248) (by decide))) (Ex.kp e_251) (by decide))) (Ex.kp e_255) (by decide))) (Ex.kp e_258) (by decide))) (Ex.kp e_263) (by decide))) (Ex.kp e_267) (by decide))) (Ex.kp e_270) (by decide))) (Ex.kp e_275) (by decide))
      refine T_vmul d_Cu_mapHalf_372 (jw_Fi_multiply.jo (by decide)) lm_Cu_74 (Nat.le_of_ble_eq_true rfl) (by decide) (by decide) (by decide) p_280 p_278 v_275 (by decide) (fun M_279 v_279 e_279 => ?_)
      obtain ⟨x_280, hx_280⟩ : ∃ z : Int, z = (x_258 * x_275) := ⟨_, rfl⟩
      rw [← hx_280] at v_279
      refine T_aload_n (v := .ref 87) d_Cu_mapHalf_375 rfl (Or.inr ⟨_, rfl⟩) ?_
      have h_281 := (e_279 87 (by decide)).trans (h_276)
      refine T_getfield (v := .ref 89) d_Cu_mapHalf_376 fg_Cu_64 h_281 rfl ?_
      refine T_aload_n (v := .ref 77) d_Cu_mapHalf_379 rfl (Or.inr ⟨_, rfl⟩) ?_
      have h_282 := (e_279 77 (by decide)).trans (h_277)
      refine T_getfield (v := .ref 96) d_Cu_mapHalf_380 fg_Cu_43 h_282 rfl ?_
      refine T_aload_n (v := .ref 77) d_Cu_mapHalf_383 rfl (Or.inr ⟨_, rfl⟩) ?_
      refine T_getfield (v := .ref 95) d_Cu_mapHalf_384 fg_Cu_40 h_282 rfl ?_
      have p_283 := (RV.kp ((RV.kp (v_270) (Ex.kp e_275) (by decide))) (Ex.kp e_279) (by decide))
      have p_284 := (RV.kp ((RV.kp ((RV.kp ((RV.kp (v_263) (Ex.kp e_267) (by decide))) (Ex.kp e_270) (by decide))) (Ex.kp e_275) (by decide))) (Ex.kp e_279) (by decide))
      have p_286 := (RQ.kp ((RQ.kp ((RQ.kp ((RQ.kp ((RQ.kp ((RQ.kp ((RQ.kp ((RQ.kp ((RQ.kp ((RQ.kp ((RQ.kp ((RQ.kp ((RQ.kp ((RQ.kp ((RQ.kp ((RQ.kp ((RQ.kp ((RQ.kp ((RQ.kp ((RQ.kp ((RQ.kp ((RQ.kp ((RQ.kp ((RQ.kp ((RQ.kp ((RQ.kp ((RQ.kp (t2) (Ex.kp e_1) (by decide))) (Ex.kp e_3) (by decide))) (Ex.kp e_8) (by decide))) (Ex.kp e_12) (by decide))) (Ex.kp e_17) (by decide))) (Ex.kp e_22) (by decide))) (Ex.kp e_26) (by decide))) (Ex.kp e_28) (by decide))) (Ex.kp e_32) (by decide))) (Ex.kp e_36) (by decide))) k_38 (by decide))) (Ex.kp e_51) (by decide))) (Ex.kp e_139) (by decide))) (Ex.kp e_141) (by decide))) (Ex.kp e_233) (by decide))) (Ex.kp e_236) (by decide))) (Ex.kp e_241) (by decide))) (Ex.kp e_244) (by decide))) (Ex.kp e_248) (by decide))) (Ex.kp e_251) (by decide))) (Ex.kp e_255) (by decide))) (Ex.kp e_258) (by decide))) (Ex.kp e_263) (by decide))) (Ex.kp e_267) (by decide))) (Ex.kp e_270) (by decide))) (Ex.kp e_275) (by decide))) (Ex.kp e_279) (by decide))
      refine T_vmul d_Cu_mapHalf_387 (jw_Fi_multiply.jo (by decide)) lm_Cu_74 (Nat.le_of_ble_eq_true rfl) (by decide) (by decide) (by decide) p_286 p_283 p_284 (by decide) (fun M_285 v_285 e_285 => ?_)
      obtain ⟨x_286, hx_286⟩ : ∃ z : Int, z = (x_271 * x_264) := ⟨_, rfl⟩
      rw [← hx_286] at v_285
      refine T_aload_n (v := .ref 87) d_Cu_mapHalf_390 rfl (Or.inr ⟨_, rfl⟩) ?_
      have h_287 := (e_285 87 (by decide)).trans (h_281)
      refine T_getfield (v := .ref 90) d_Cu_mapHalf_391 fg_Cu_86 h_287 rfl ?_
      refine T_aload_n (v := .ref 77) d_Cu_mapHalf_394 rfl (Or.inr ⟨_, rfl⟩) ?_
      have h_288 := (e_285 77 (by decide)).trans (h_282)
      refine T_getfield (v := .ref 95) d_Cu_mapHalf_395 fg_Cu_40 h_288 rfl ?_
      refine T_aload_n (v := .ref 77) d_Cu_mapHalf_398 rfl (Or.inr ⟨_, rfl⟩) ?_
      refine T_getfield (v := .ref 102) d_Cu_mapHalf_399 fg_Cu_61 h_288 rfl ?_
      have p_289 := (RV.kp (p_284) (Ex.kp e_285) (by decide))
      have p_290 := (RV.kp ((RV.kp (v_275) (Ex.kp e_279) (by decide))) (Ex.kp e_285) (by decide))
      have p_292 := (RQ.kp ((RQ.kp ((RQ.kp ((RQ.kp ((RQ.kp ((RQ.kp ((RQ.kp ((RQ.kp ((RQ.kp ((RQ.kp ((RQ.kp ((RQ.kp ((RQ.kp ((RQ.kp ((RQ.kp ((RQ.kp ((RQ.kp ((RQ.kp ((RQ.kp ((RQ.kp ((RQ.kp ((RQ.kp ((RQ.kp ((RQ.kp ((RQ.kp ((RQ.kp ((RQ.kp ((RQ.kp (t3) (Ex.kp e_1) (by decide))) (Ex.kp e_3) (by decide))) (Ex.kp e_8) (by decide))) (Ex.kp e_12) (by decide))) (Ex.kp e_17) (by decide))) (Ex.kp e_22) (by decide))) (Ex.kp e_26) (by decide))) (Ex.kp e_28) (by decide))) (Ex.kp e_32) (by decide))) (Ex.kp e_36) (by decide))) k_38 (by decide))) (Ex.kp e_51) (by decide))) (Ex.kp e_139) (by decide))) (Ex.kp e_141) (by decide))) (Ex.kp e_233) (by decide))) (Ex.kp e_236) (by decide))) (Ex.kp e_241) (by decide))) (Ex.kp e_244) (by decide))) (Ex.kp e_248) (by decide))) (Ex.kp e_251) (by decide))) (Ex.kp e_255) (by decide))) (Ex.kp e_258) (by decide))) (Ex.kp e_263) (by decide))) (Ex.kp e_267) (by decide))) (Ex.kp e_270) (by decide))) (Ex.kp e_275) (by decide))) (Ex.kp e_279) (by decide))) (Ex.kp e_285) (by decide))
      refine T_vmul d_Cu_mapHalf_402 (jw_Fi_multiply.jo (by decide)) lm_Cu_74 (Nat.le_of_ble_eq_true rfl) (by decide) (by decide) (by decide) p_292 p_289 p_290 (by decide) (fun M_291 v_291 e_291 => ?_)
      obtain ⟨x_292, hx_292⟩ : ∃ z : Int, z = (x_264 * x_275) := ⟨_, rfl⟩
      rw [← hx_292] at v_291
      refine T_aload_n (v := .ref 87) d_Cu_mapHalf_405 rfl (Or.inr ⟨_, rfl⟩) ?_
      have h_293 := (e_291 87 (by decide)).trans (h_287)
      refine T_getfield (v := .ref 91) d_Cu_mapHalf_406 fg_Cu_80 h_293 rfl ?_
      refine T_aload_n (v := .ref 77) d_Cu_mapHalf_409 rfl (Or.inr ⟨_, rfl⟩) ?_
      have h_294 := (e_291 77 (by decide)).trans (h_288)
      refine T_getfield (v := .ref 94) d_Cu_mapHalf_410 fg_Cu_36 h_294 rfl ?_
      refine T_aload_n (v := .ref 77) d_Cu_mapHalf_413 rfl (Or.inr ⟨_, rfl⟩) ?_
      refine T_getfield (v := .ref 96) d_Cu_mapHalf_414 fg_Cu_43 h_294 rfl ?_
      have p_295 := (RV.kp ((RV.kp ((RV.kp (p_278) (Ex.kp e_279) (by decide))) (Ex.kp e_285) (by decide))) (Ex.kp e_291) (by decide))
      have p_296 := (RV.kp ((RV.kp (p_283) (Ex.kp e_285) (by decide))) (Ex.kp e_291) (by decide))
      have p_298 := (RQ.kp ((RQ.kp ((RQ.kp ((RQ.kp ((RQ.kp ((RQ.kp ((RQ.kp ((RQ.kp ((RQ.kp ((RQ.kp ((RQ.kp ((RQ.kp ((RQ.kp ((RQ.kp ((RQ.kp ((RQ.kp ((RQ.kp ((RQ.kp ((RQ.kp ((RQ.kp ((RQ.kp ((RQ.kp ((RQ.kp ((RQ.kp ((RQ.kp ((RQ.kp ((RQ.kp ((RQ.kp ((RQ.kp (t4) (Ex.kp e_1) (by decide))) (Ex.kp e_3) (by decide))) (Ex.kp e_8) (by decide))) (Ex.kp e_12) (by decide))) (Ex.kp e_17) (by decide))) (Ex.kp e_22) (by decide))) (Ex.kp e_26) (by decide))) (Ex.kp e_28) (by decide))) (Ex.kp e_32) (by decide))) (Ex.kp e_36) (by decide))) k_38 (by decide))) (Ex.kp e_51) (by decide))) (Ex.kp e_139) (by decide))) (Ex.kp e_141) (by decide))) (Ex.kp e_233) (by decide))) (Ex.kp e_236) (by decide))) (Ex.kp e_241) (by decide))) (Ex.kp e_244) (by decide))) (Ex.kp e_248) (by decide))) (Ex.kp e_251) (by decide))) (Ex.kp e_255) (by decide))) (Ex.kp e_258) (by decide))) (Ex.kp e_263) (by decide))) (Ex.kp e_267) (by decide))) (Ex.kp e_270) (by decide))) (Ex.kp e_275) (by decide))) (Ex.kp e_279) (by decide))) (Ex.kp e_285) (by decide))) (Ex.kp e_291) (by decide))
      refine T_vmul d_Cu_mapHalf_417 (jw_Fi_multiply.jo (by decide)) lm_Cu_74 (Nat.le_of_ble_eq_true rfl) (by decide) (by decide) (by decide) p_298 p_295 p_296 (by decide) (fun M_297 v_297 e_297 => ?_)
      obtain ⟨x_298, hx_298⟩ : ∃ z : Int, z = (x_258 * x_271) := ⟨_, rfl⟩
      rw [← hx_298] at v_297
      have t0_ : ph x_1 = ph (nB l at0 % n255) := by rw [hx_1]
      generalize ph (nB l at0 % n255) = t at *
      have r1 : ph x_8 = t * t * fI := by rw [hx_8, ph_mul, hx_4, ph_mul, t0_, ph_I]
      generalize hr : t * t * fI = r at r1
      have uu : ph x_17 = gU_ r := by rw [hx_17, ph_mul, hx_13, ph_add, r1, ph_3, ph_4]; rfl
      have vv : ph x_36 = gV_ r := by rw [hx_36, ph_mul, hx_28, ph_neg, hx_26, ph_add, hx_23, ph_mul, hx_33, ph_add, r1, ph_3, ph_5]; rfl
      have rr_ : ph x_38 = rR (gU_ r) (gV_ r) := by rw [hx_38, ph_rt, uu, vv]
      have gi := rtG_1 x_17 x_36
      rw [uu, vv] at gi
      have gd_ : ¬ rG (gU_ r) (gV_ r) := fun c => absurd (gi.mpr c) (by omega)
      have st : ph x_139 = rR (gU_ r) (gV_ r) * t := by rw [hx_139, ph_mul, rr_, t0_]
      have ss : ph x_233 = gS_ t r := by
        unfold gS_ ab; rw [if_neg gd_, if_neg (fun z => hb_141 ((od_of st).mp z)), hx_233, ph_neg, st]
      have cc : ph x_8 = gC_ t r := by rw [r1]; unfold gC_; rw [if_neg gd_]
      have nn_ : ph x_251 = gN_ t r := by rw [hx_251, ph_sub, vv, hx_248, ph_mul, hx_244, ph_mul, hx_241, ph_sub, r1, ph_3, ph_6]; unfold gN_ gC_; rw [if_neg gd_]
      have w0 : ph x_258 = (gS_ t r + gS_ t r) * gV_ r := by rw [hx_258, ph_add, hx_256, ph_mul, ss, vv]; grobner
      have w1 : ph x_264 = gN_ t r * fG := by rw [hx_264, ph_mul, nn_, ph_7]
      have w2 : ph x_271 = 1 - gS_ t r * gS_ t r := by rw [hx_271, ph_sub, hx_267, ph_mul, ss, ph_3]
      have w3 : ph x_275 = 1 + gS_ t r * gS_ t r := by rw [hx_275, ph_add, hx_267, ph_mul, ss, ph_3]
      have q0 : ph x_280 = gX_ t := by unfold gX_; rw [hr, hx_280, ph_mul, w0, w3]
      have q1 : ph x_286 = gY_ t := by unfold gY_; rw [hr, hx_286, ph_mul, w2, w1]
      have q2 : ph x_292 = gZ_ t := by unfold gZ_; rw [hr, hx_292, ph_mul, w1, w3]
      have q3 : ph x_298 = gT_ t := by unfold gT_; rw [hr, hx_298, ph_mul, w0, w2]
      have J := mPt_pj t
      rw [← q0, ← q1, ← q2, ← q3] at J
      have p_299 := (RV.kp ((RV.kp ((RV.kp (v_279) (Ex.kp e_285) (by decide))) (Ex.kp e_291) (by decide))) (Ex.kp e_297) (by decide))
      have p_300 := (RV.kp ((RV.kp (v_285) (Ex.kp e_291) (by decide))) (Ex.kp e_297) (by decide))
      have p_301 := (RV.kp (v_291) (Ex.kp e_297) (by decide))
      have p_302 := (RV.kp ((RV.kp (p_290) (Ex.kp e_291) (by decide))) (Ex.kp e_297) (by decide))
      have p_303 := (RV.kp ((RV.kp ((RV.kp ((RV.kp ((RV.kp ((RV.kp ((RV.kp ((RV.kp ((RV.kp ((RV.kp ((RV.kp ((RV.kp ((RV.kp (v_241) (Ex.kp e_244) (by decide))) (Ex.kp e_248) (by decide))) (Ex.kp e_251) (by decide))) (Ex.kp e_255) (by decide))) (Ex.kp e_258) (by decide))) (Ex.kp e_263) (by decide))) (Ex.kp e_267) (by decide))) (Ex.kp e_270) (by decide))) (Ex.kp e_275) (by decide))) (Ex.kp e_279) (by decide))) (Ex.kp e_285) (by decide))) (Ex.kp e_291) (by decide))) (Ex.kp e_297) (by decide))
      have p_304 := (RV.kp ((RV.kp ((RV.kp ((RV.kp ((RV.kp ((RV.kp ((RV.kp ((RV.kp ((RV.kp ((RV.kp ((RV.kp ((RV.kp ((RV.kp ((RV.kp ((RV.kp ((RV.kp ((RV.kp ((RV.kp (p_138) (Ex.kp e_139) (by decide))) (Ex.kp e_141) (by decide))) (Ex.kp e_233) (by decide))) (Ex.kp e_236) (by decide))) (Ex.kp e_241) (by decide))) (Ex.kp e_244) (by decide))) (Ex.kp e_248) (by decide))) (Ex.kp e_251) (by decide))) (Ex.kp e_255) (by decide))) (Ex.kp e_258) (by decide))) (Ex.kp e_263) (by decide))) (Ex.kp e_267) (by decide))) (Ex.kp e_270) (by decide))) (Ex.kp e_275) (by decide))) (Ex.kp e_279) (by decide))) (Ex.kp e_285) (by decide))) (Ex.kp e_291) (by decide))) (Ex.kp e_297) (by decide))
      have p_305 := (RQ.kp ((RQ.kp ((RQ.kp ((RQ.kp ((RQ.kp ((RQ.kp ((RQ.kp ((RQ.kp ((RQ.kp ((RQ.kp ((RQ.kp ((RQ.kp ((RQ.kp ((RQ.kp ((RQ.kp ((RQ.kp ((RQ.kp ((RQ.kp ((RQ.kp ((RQ.kp ((RQ.kp ((RQ.kp ((RQ.kp ((RQ.kp ((RQ.kp ((RQ.kp ((RQ.kp ((RQ.kp ((RQ.kp ((RQ.kp ((hcs.2.2 99 (by decide))) (Ex.kp e_1) (by decide))) (Ex.kp e_3) (by decide))) (Ex.kp e_8) (by decide))) (Ex.kp e_12) (by decide))) (Ex.kp e_17) (by decide))) (Ex.kp e_22) (by decide))) (Ex.kp e_26) (by decide))) (Ex.kp e_28) (by decide))) (Ex.kp e_32) (by decide))) (Ex.kp e_36) (by decide))) k_38 (by decide))) (Ex.kp e_51) (by decide))) (Ex.kp e_139) (by decide))) (Ex.kp e_141) (by decide))) (Ex.kp e_233) (by decide))) (Ex.kp e_236) (by decide))) (Ex.kp e_241) (by decide))) (Ex.kp e_244) (by decide))) (Ex.kp e_248) (by decide))) (Ex.kp e_251) (by decide))) (Ex.kp e_255) (by decide))) (Ex.kp e_258) (by decide))) (Ex.kp e_263) (by decide))) (Ex.kp e_267) (by decide))) (Ex.kp e_270) (by decide))) (Ex.kp e_275) (by decide))) (Ex.kp e_279) (by decide))) (Ex.kp e_285) (by decide))) (Ex.kp e_291) (by decide))) (Ex.kp e_297) (by decide))
      have p_306 := (RQ.kp ((RQ.kp ((RQ.kp ((RQ.kp ((RQ.kp ((RQ.kp ((RQ.kp ((RQ.kp ((RQ.kp ((RQ.kp ((RQ.kp ((RQ.kp ((RQ.kp ((RQ.kp ((RQ.kp ((RQ.kp ((RQ.kp ((RQ.kp ((RQ.kp ((RQ.kp ((RQ.kp ((RQ.kp ((RQ.kp ((RQ.kp ((RQ.kp ((RQ.kp ((RQ.kp ((RQ.kp ((RQ.kp ((RQ.kp ((hcs.2.2 98 (by decide))) (Ex.kp e_1) (by decide))) (Ex.kp e_3) (by decide))) (Ex.kp e_8) (by decide))) (Ex.kp e_12) (by decide))) (Ex.kp e_17) (by decide))) (Ex.kp e_22) (by decide))) (Ex.kp e_26) (by decide))) (Ex.kp e_28) (by decide))) (Ex.kp e_32) (by decide))) (Ex.kp e_36) (by decide))) k_38 (by decide))) (Ex.kp e_51) (by decide))) (Ex.kp e_139) (by decide))) (Ex.kp e_141) (by decide))) (Ex.kp e_233) (by decide))) (Ex.kp e_236) (by decide))) (Ex.kp e_241) (by decide))) (Ex.kp e_244) (by decide))) (Ex.kp e_248) (by decide))) (Ex.kp e_251) (by decide))) (Ex.kp e_255) (by decide))) (Ex.kp e_258) (by decide))) (Ex.kp e_263) (by decide))) (Ex.kp e_267) (by decide))) (Ex.kp e_270) (by decide))) (Ex.kp e_275) (by decide))) (Ex.kp e_279) (by decide))) (Ex.kp e_285) (by decide))) (Ex.kp e_291) (by decide))) (Ex.kp e_297) (by decide))
      have p_307 := (RQ.kp ((RQ.kp ((RQ.kp ((RQ.kp ((RQ.kp ((RQ.kp ((RQ.kp ((RQ.kp ((RQ.kp ((RQ.kp ((RQ.kp ((RQ.kp ((RQ.kp ((RQ.kp ((RQ.kp ((RQ.kp ((RQ.kp ((RQ.kp ((RQ.kp ((RQ.kp ((RQ.kp ((RQ.kp ((RQ.kp ((RQ.kp ((RQ.kp ((RQ.kp ((RQ.kp ((RQ.kp ((RQ.kp ((RQ.kp ((hcs.2.2 97 (by decide))) (Ex.kp e_1) (by decide))) (Ex.kp e_3) (by decide))) (Ex.kp e_8) (by decide))) (Ex.kp e_12) (by decide))) (Ex.kp e_17) (by decide))) (Ex.kp e_22) (by decide))) (Ex.kp e_26) (by decide))) (Ex.kp e_28) (by decide))) (Ex.kp e_32) (by decide))) (Ex.kp e_36) (by decide))) k_38 (by decide))) (Ex.kp e_51) (by decide))) (Ex.kp e_139) (by decide))) (Ex.kp e_141) (by decide))) (Ex.kp e_233) (by decide))) (Ex.kp e_236) (by decide))) (Ex.kp e_241) (by decide))) (Ex.kp e_244) (by decide))) (Ex.kp e_248) (by decide))) (Ex.kp e_251) (by decide))) (Ex.kp e_255) (by decide))) (Ex.kp e_258) (by decide))) (Ex.kp e_263) (by decide))) (Ex.kp e_267) (by decide))) (Ex.kp e_270) (by decide))) (Ex.kp e_275) (by decide))) (Ex.kp e_279) (by decide))) (Ex.kp e_285) (by decide))) (Ex.kp e_291) (by decide))) (Ex.kp e_297) (by decide))
      have p_308 := (RV.kp (p_296) (Ex.kp e_297) (by decide))
      have p_309 := (RV.kp ((RV.kp (p_289) (Ex.kp e_291) (by decide))) (Ex.kp e_297) (by decide))
      have p_310 := (RV.kp (p_295) (Ex.kp e_297) (by decide))
      have p_311 := (RQ.kp ((RQ.kp ((RQ.kp ((RQ.kp ((RQ.kp ((RQ.kp ((RQ.kp ((RQ.kp ((RQ.kp ((RQ.kp ((RQ.kp ((RQ.kp ((RQ.kp ((RQ.kp ((RQ.kp ((RQ.kp ((RQ.kp ((RQ.kp ((RQ.kp (q85_38) (Ex.kp e_51) (by decide))) (Ex.kp e_139) (by decide))) (Ex.kp e_141) (by decide))) (Ex.kp e_233) (by decide))) (Ex.kp e_236) (by decide))) (Ex.kp e_241) (by decide))) (Ex.kp e_244) (by decide))) (Ex.kp e_248) (by decide))) (Ex.kp e_251) (by decide))) (Ex.kp e_255) (by decide))) (Ex.kp e_258) (by decide))) (Ex.kp e_263) (by decide))) (Ex.kp e_267) (by decide))) (Ex.kp e_270) (by decide))) (Ex.kp e_275) (by decide))) (Ex.kp e_279) (by decide))) (Ex.kp e_285) (by decide))) (Ex.kp e_291) (by decide))) (Ex.kp e_297) (by decide))
      have p_312 := (RQ.kp ((RQ.kp ((RQ.kp ((RQ.kp ((RQ.kp ((RQ.kp ((RQ.kp ((RQ.kp ((RQ.kp ((RQ.kp ((RQ.kp ((RQ.kp ((RQ.kp ((RQ.kp ((RQ.kp ((RQ.kp ((RQ.kp ((RQ.kp ((RQ.kp (q84_38) (Ex.kp e_51) (by decide))) (Ex.kp e_139) (by decide))) (Ex.kp e_141) (by decide))) (Ex.kp e_233) (by decide))) (Ex.kp e_236) (by decide))) (Ex.kp e_241) (by decide))) (Ex.kp e_244) (by decide))) (Ex.kp e_248) (by decide))) (Ex.kp e_251) (by decide))) (Ex.kp e_255) (by decide))) (Ex.kp e_258) (by decide))) (Ex.kp e_263) (by decide))) (Ex.kp e_267) (by decide))) (Ex.kp e_270) (by decide))) (Ex.kp e_275) (by decide))) (Ex.kp e_279) (by decide))) (Ex.kp e_285) (by decide))) (Ex.kp e_291) (by decide))) (Ex.kp e_297) (by decide))
      have p_313 := (RQ.kp ((RQ.kp ((RQ.kp ((RQ.kp ((RQ.kp ((RQ.kp ((RQ.kp ((RQ.kp ((RQ.kp ((RQ.kp ((RQ.kp ((RQ.kp ((RQ.kp ((RQ.kp ((RQ.kp ((RQ.kp ((RQ.kp ((RQ.kp ((RQ.kp (q83_38) (Ex.kp e_51) (by decide))) (Ex.kp e_139) (by decide))) (Ex.kp e_141) (by decide))) (Ex.kp e_233) (by decide))) (Ex.kp e_236) (by decide))) (Ex.kp e_241) (by decide))) (Ex.kp e_244) (by decide))) (Ex.kp e_248) (by decide))) (Ex.kp e_251) (by decide))) (Ex.kp e_255) (by decide))) (Ex.kp e_258) (by decide))) (Ex.kp e_263) (by decide))) (Ex.kp e_267) (by decide))) (Ex.kp e_270) (by decide))) (Ex.kp e_275) (by decide))) (Ex.kp e_279) (by decide))) (Ex.kp e_285) (by decide))) (Ex.kp e_291) (by decide))) (Ex.kp e_297) (by decide))
      have p_314 := (RQ.kp ((RQ.kp ((RQ.kp ((RQ.kp ((RQ.kp ((RQ.kp ((RQ.kp ((RQ.kp ((RQ.kp ((RQ.kp ((RQ.kp ((RQ.kp ((RQ.kp ((RQ.kp ((RQ.kp ((RQ.kp ((RQ.kp ((RQ.kp ((RQ.kp (q82_38) (Ex.kp e_51) (by decide))) (Ex.kp e_139) (by decide))) (Ex.kp e_141) (by decide))) (Ex.kp e_233) (by decide))) (Ex.kp e_236) (by decide))) (Ex.kp e_241) (by decide))) (Ex.kp e_244) (by decide))) (Ex.kp e_248) (by decide))) (Ex.kp e_251) (by decide))) (Ex.kp e_255) (by decide))) (Ex.kp e_258) (by decide))) (Ex.kp e_263) (by decide))) (Ex.kp e_267) (by decide))) (Ex.kp e_270) (by decide))) (Ex.kp e_275) (by decide))) (Ex.kp e_279) (by decide))) (Ex.kp e_285) (by decide))) (Ex.kp e_291) (by decide))) (Ex.kp e_297) (by decide))
      have p_315 := (RQ.kp ((RQ.kp ((RQ.kp ((RQ.kp ((RQ.kp ((RQ.kp ((RQ.kp ((RQ.kp ((RQ.kp ((RQ.kp ((RQ.kp ((RQ.kp ((RQ.kp ((RQ.kp ((RQ.kp ((RQ.kp ((RQ.kp ((RQ.kp ((RQ.kp (q81_38) (Ex.kp e_51) (by decide))) (Ex.kp e_139) (by decide))) (Ex.kp e_141) (by decide))) (Ex.kp e_233) (by decide))) (Ex.kp e_236) (by decide))) (Ex.kp e_241) (by decide))) (Ex.kp e_244) (by decide))) (Ex.kp e_248) (by decide))) (Ex.kp e_251) (by decide))) (Ex.kp e_255) (by decide))) (Ex.kp e_258) (by decide))) (Ex.kp e_263) (by decide))) (Ex.kp e_267) (by decide))) (Ex.kp e_270) (by decide))) (Ex.kp e_275) (by decide))) (Ex.kp e_279) (by decide))) (Ex.kp e_285) (by decide))) (Ex.kp e_291) (by decide))) (Ex.kp e_297) (by decide))
      have p_316 := (RQ.kp ((RQ.kp ((RQ.kp ((RQ.kp ((RQ.kp ((RQ.kp ((RQ.kp ((RQ.kp ((RQ.kp ((RQ.kp ((RQ.kp ((RQ.kp ((RQ.kp ((RQ.kp ((RQ.kp ((RQ.kp ((RQ.kp ((RQ.kp ((RQ.kp (q80_38) (Ex.kp e_51) (by decide))) (Ex.kp e_139) (by decide))) (Ex.kp e_141) (by decide))) (Ex.kp e_233) (by decide))) (Ex.kp e_236) (by decide))) (Ex.kp e_241) (by decide))) (Ex.kp e_244) (by decide))) (Ex.kp e_248) (by decide))) (Ex.kp e_251) (by decide))) (Ex.kp e_255) (by decide))) (Ex.kp e_258) (by decide))) (Ex.kp e_263) (by decide))) (Ex.kp e_267) (by decide))) (Ex.kp e_270) (by decide))) (Ex.kp e_275) (by decide))) (Ex.kp e_279) (by decide))) (Ex.kp e_285) (by decide))) (Ex.kp e_291) (by decide))) (Ex.kp e_297) (by decide))
      have p_317 := (RQ.kp ((RQ.kp ((RQ.kp ((RQ.kp ((RQ.kp ((RQ.kp ((RQ.kp ((RQ.kp ((RQ.kp ((RQ.kp ((RQ.kp ((RQ.kp ((RQ.kp ((RQ.kp ((RQ.kp ((RQ.kp (w_141) (Ex.kp e_233) (by decide))) (Ex.kp e_236) (by decide))) (Ex.kp e_241) (by decide))) (Ex.kp e_244) (by decide))) (Ex.kp e_248) (by decide))) (Ex.kp e_251) (by decide))) (Ex.kp e_255) (by decide))) (Ex.kp e_258) (by decide))) (Ex.kp e_263) (by decide))) (Ex.kp e_267) (by decide))) (Ex.kp e_270) (by decide))) (Ex.kp e_275) (by decide))) (Ex.kp e_279) (by decide))) (Ex.kp e_285) (by decide))) (Ex.kp e_291) (by decide))) (Ex.kp e_297) (by decide))
      have h_318 := (e_297 77 (by decide)).trans (h_294)
      have h_319 := (e_297 78 (by decide)).trans ((e_291 78 (by decide)).trans ((e_285 78 (by decide)).trans ((e_279 78 (by decide)).trans ((e_275 78 (by decide)).trans ((e_270 78 (by decide)).trans ((e_267 78 (by decide)).trans ((e_263 78 (by decide)).trans ((e_258 78 (by decide)).trans ((e_255 78 (by decide)).trans ((e_251 78 (by decide)).trans ((e_248 78 (by decide)).trans ((e_244 78 (by decide)).trans ((e_241 78 (by decide)).trans ((e_236 78 (by decide)).trans ((e_233 78 (by decide)).trans ((e_141 78 (by decide)).trans (h_142)))))))))))))))))
      have h_320 := (e_297 87 (by decide)).trans (h_293)
      exact T_vret d_Cu_mapHalf_420 rfl (by decide) (by decide) ⟨rfl, ⟨h_318, h_319, (List.forall_mem_cons.mpr ⟨p_317, (List.forall_mem_cons.mpr ⟨p_316, (List.forall_mem_cons.mpr ⟨p_315, (List.forall_mem_cons.mpr ⟨p_314, (List.forall_mem_cons.mpr ⟨p_313, (List.forall_mem_cons.mpr ⟨p_312, (List.forall_mem_cons.mpr ⟨p_311, (List.forall_mem_cons.mpr ⟨(Rv.rq p_310), (List.forall_mem_cons.mpr ⟨(Rv.rq p_309), (List.forall_mem_cons.mpr ⟨(Rv.rq p_308), (List.forall_mem_cons.mpr ⟨p_307, (List.forall_mem_cons.mpr ⟨p_306, (List.forall_mem_cons.mpr ⟨p_305, (List.forall_mem_cons.mpr ⟨(Rv.rq p_304), (List.forall_mem_cons.mpr ⟨(Rv.rq p_303), (List.forall_mem_cons.mpr ⟨(Rv.rq p_302), (fun _ h => absurd h (List.not_mem_nil))⟩)⟩)⟩)⟩)⟩)⟩)⟩)⟩)⟩)⟩)⟩)⟩)⟩)⟩)⟩)⟩)⟩, ⟨h_320, _, _, _, _, Rv.up p_299 (by decide), p_300, p_301, v_297, J⟩, (Kp.ex (Kp.ex (Kp.ex (Kp.ex (Kp.ex (Kp.ex (Kp.ex (Kp.ex (Kp.ex (Kp.ex (Kp.ex (Kp.ex (Kp.ex (Kp.ex (Kp.ex (Kp.ex (Kp.ex (Kp.ex (Kp.ex (Kp.tr (Kp.ex (Kp.ex (Kp.ex (Kp.ex (Kp.ex (Kp.ex (Kp.ex (Kp.ex (Kp.ex (Kp.ex (Kp.rf : Kp [79, 80, 81, 82, 83, 84, 85, 94, 95, 96, 97, 98, 99, 100, 101, 102, 88, 89, 90, 91] M M) e_1 (by decide)) e_3 (by decide)) e_8 (by decide)) e_12 (by decide)) e_17 (by decide)) e_22 (by decide)) e_26 (by decide)) e_28 (by decide)) e_32 (by decide)) e_36 (by decide)) (Kp.mono k_38 (by decide))) e_51 (by decide)) e_139 (by decide)) e_141 (by decide)) e_233 (by decide)) e_236 (by decide)) e_241 (by decide)) e_244 (by decide)) e_248 (by decide)) e_251 (by decide)) e_255 (by decide)) e_258 (by decide)) e_263 (by decide)) e_267 (by decide)) e_270 (by decide)) e_275 (by decide)) e_279 (by decide)) e_285 (by decide)) e_291 (by decide)) e_297 (by decide))⟩
noncomputable def mapP (l : List UInt8) : Fp × Fp := ad2 fD (mPt (ph (nB l 0 % n255))) (mPt (ph (nB l 32 % n255)))
theorem mapP_on (l : List UInt8) : OnP fD (mapP l) := cvF.onP (mPt_on _) (mPt_on _)
set_option maxHeartbeats 8000000 in
theorem y_Cu_map {G : GX} {M : List va_E} {fr m : Nat} {l : List UInt8} (hcu : CU M) (hto : PQ M 188 189 190 191 192) (hf : BA M fr m l) (hlen : 64 ≤ l.length) (hm2 : m < 2 ^ 30) (b_fr : 192 < fr) : CT G mi_Cu_map [.ref 77, .ref fr, .ref 188] M (fun r M' => r = none ∧ CU M' ∧ PC M' 188 189 190 191 192 (mapP l) ∧ Kp (189 :: 190 :: 191 :: 192 :: cuW) M M') := by
  refine CT.of (by decide) (Nat.le_of_ble_eq_true rfl) ?_
  show TT G mi_Cu_map 0 [(0, .ref 77), (1, .ref fr), (2, .ref 188)] [] M 0 0 _
  refine T_aload_n (v := .ref 77) d_Cu_map_0 rfl (Or.inr ⟨_, rfl⟩) ?_
  refine T_aload_n (v := .ref fr) d_Cu_map_1 rfl (Or.inr ⟨_, rfl⟩) ?_
  refine T_iconst (v := nI 0) d_Cu_map_2 (by decide) ?_
  refine T_aload_n (v := .ref 188) d_Cu_map_3 rfl (Or.inr ⟨_, rfl⟩) ?_
  refine T_virtual (as := [.ref fr, .int (nI 0), .ref 188]) (rest := []) (b := 77) d_Cu_map_4 rfl (jw_Cu_mapHalf.jo (by decide)) lm_Cu_167 ji_Cu_mapHalf js_Cu_mapHalf hcu.1.1 rfl rfl rfl (Nat.le_of_ble_eq_true rfl) (by decide) (by decide) (y_Cu_half_188 (at0 := 0) hcu.1 hto hf (by omega) hm2 (by omega)) (fun r Ma hq => ?_)
  obtain ⟨rfl, a1, a2, a3⟩ := hq
  have fa := hf.kp a3 (by simp only [List.mem_cons, List.not_mem_nil, or_false]; omega)
  refine T_eq (pc' := 7) (L' := [(0, .ref 77), (1, .ref fr), (2, .ref 188)]) (st' := []) (M' := Ma) rfl rfl rfl rfl ?_
  refine T_aload_n (v := .ref 77) d_Cu_map_7 rfl (Or.inr ⟨_, rfl⟩) ?_
  refine T_aload_n (v := .ref fr) d_Cu_map_8 rfl (Or.inr ⟨_, rfl⟩) ?_
  refine T_bipush (v := nI 32) d_Cu_map_9 (by decide) ?_
  refine T_aload_n (v := .ref 77) d_Cu_map_11 rfl (Or.inr ⟨_, rfl⟩) ?_
  refine T_getfield (v := .ref 87) d_Cu_map_12 fg_Cu_23 a1.1 rfl ?_
  refine T_virtual (as := [.ref fr, .int (nI 32), .ref 87]) (rest := []) (b := 77) d_Cu_map_15 rfl (jw_Cu_mapHalf.jo (by decide)) lm_Cu_167 ji_Cu_mapHalf js_Cu_mapHalf a1.1 rfl rfl rfl (Nat.le_of_ble_eq_true rfl) (by decide) (by decide) (y_Cu_half_87 (at0 := 32) a1 (hcu.2.2.2.1.kp a3 (by decide) (by decide) (by decide) (by decide) (by decide)) fa (by omega) hm2 (by omega)) (fun r Mb hq => ?_)
  obtain ⟨rfl, b1, b2, b3⟩ := hq
  have a2b := a2.kp b3 (by decide) (by decide) (by decide) (by decide) (by decide)
  refine T_eq (pc' := 18) (L' := [(0, .ref 77), (1, .ref fr), (2, .ref 188)]) (st' := []) (M' := Mb) rfl rfl rfl rfl ?_
  refine T_aload_n (v := .ref 77) d_Cu_map_18 rfl (Or.inr ⟨_, rfl⟩) ?_
  refine T_aload_n (v := .ref 188) d_Cu_map_19 rfl (Or.inr ⟨_, rfl⟩) ?_
  refine T_aload_n (v := .ref 188) d_Cu_map_20 rfl (Or.inr ⟨_, rfl⟩) ?_
  refine T_aload_n (v := .ref 77) d_Cu_map_21 rfl (Or.inr ⟨_, rfl⟩) ?_
  refine T_getfield (v := .ref 87) d_Cu_map_22 fg_Cu_23 b1.1 rfl ?_
  refine T_virtual (as := [.ref 188, .ref 188, .ref 87]) (rest := []) (b := 77) d_Cu_map_25 rfl (jw_Cu_add.jo (by decide)) lm_Cu_97 ji_Cu_add js_Cu_add b1.1 rfl rfl rfl (Nat.le_of_ble_eq_true rfl) (by decide) (by decide) (v_Cu_add b1 a2b.pq a2b b2 (mPt_on _) (mPt_on _) (by decide +kernel) (by decide +kernel) (by decide +kernel) (by decide) (by decide) (by decide) (by decide) (by decide) (by decide) (by decide) (by decide) (by decide) (by decide) (by decide) (by decide) (by decide) (by decide)) (fun r Mc hq => ?_)
  obtain ⟨rfl, d1, d2, d3⟩ := hq
  refine T_eq (pc' := 28) (L' := [(0, .ref 77), (1, .ref fr), (2, .ref 188)]) (st' := []) (M' := Mc) rfl rfl rfl rfl ?_
  have K : Kp (189 :: 190 :: 191 :: 192 :: cuW) M Mc := Kp.tr (Kp.tr (a3.mono (by decide +kernel)) (b3.mono (by decide +kernel))) (d3.mono (by decide +kernel))
  have tg : ∀ g, g < 16 → ∀ c, c ∈ [103, 104, 105, 106, 107] → c + 5 * g ∉ [79, 80, 81, 82, 83, 84, 85, 94, 95, 96, 97, 98, 99, 100, 101, 102, 189, 190, 191, 192] := by decide +kernel
  have tg2 : ∀ g, g < 16 → ∀ c, c ∈ [103, 104, 105, 106, 107] → c + 5 * g ∉ [79, 80, 81, 82, 83, 84, 85, 94, 95, 96, 97, 98, 99, 100, 101, 102, 88, 89, 90, 91] := by decide +kernel
  have tg3 : ∀ g, g < 16 → ∀ c, c ∈ [103, 104, 105, 106, 107] → c + 5 * g ∉ [94, 95, 96, 97, 98, 99, 100, 102, 189, 190, 191, 192] := by decide +kernel
  exact T_vret d_Cu_map_28 rfl (by decide) (by decide) ⟨rfl, ⟨d1, (d3 86 (by decide)).trans ((b3 86 (by decide)).trans ((a3 86 (by decide)).trans hcu.2.1)), fun g hg => (((hcu.2.2.1 g hg).kp a3 (tg g hg 103 (by decide)) (tg g hg 104 (by decide)) (tg g hg 105 (by decide)) (tg g hg 106 (by decide)) (tg g hg 107 (by decide))).kp b3 (tg2 g hg 103 (by decide)) (tg2 g hg 104 (by decide)) (tg2 g hg 105 (by decide)) (tg2 g hg 106 (by decide)) (tg2 g hg 107 (by decide))).kp d3 (tg3 g hg 103 (by decide)) (tg3 g hg 104 (by decide)) (tg3 g hg 105 (by decide)) (tg3 g hg 106 (by decide)) (tg3 g hg 107 (by decide)), b2.pq.kp d3 (by decide) (by decide) (by decide) (by decide) (by decide), ((hcu.2.2.2.2.kp a3 (by decide) (by decide)).kp b3 (by decide) (by decide)).kp d3 (by decide) (by decide)⟩, d2, K⟩
